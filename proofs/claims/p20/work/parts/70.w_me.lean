/-! X11_at -/
set_option maxRecDepth 100000 in
set_option maxHeartbeats 4000000 in
theorem c_M_at (l : Launch) (D : va_G) (ci : Nat → ClassId) (A : Nat → Prop) (sa : Nat → Nat) (N : Nat) (Rw : va_W) (a_m : Nat) (a_m_cutRows : Nat) (a_m_cutColumns : Nat) (a_m_deep : Nat) (a_m_wide : Nat) (a_m_zonesAhead : Nat) (a_m_nameOne : Nat) (a_m_nameOther : Nat) (a_m_tape : Nat) (a_m_edges : Nat) (a_m_dist : Nat) (a_m_queue : Nat) (a_m_pieceLevel : Nat) (a_m_pieceKey : Nat) (a_m_pieceYear : Nat) (a_m_drawnKeys : Nat) (a_m_kept : Nat) (a_m_noNumbers : Nat) (m_taped : Int32) (m_place : Int32) (m_fault : Int32) (m_number : Int32) (m_levelRead : Int32) (m_keyRead : Int32) (m_reads : Int32) (m_faults : Int32) (m_cutShort : Int32) (m_noNumber : Int32) (m_bottomLat : Int64) (m_bottomLon : Int64) (m_firstBeside : Int32) (m_manyBeside : Int32) (m_queued : Int32) (m_boxLevel : Int32) (m_boxTop : Int32) (m_boxBottom : Int32) (m_boxWest : Int32) (m_boxEast : Int32) (m_isEarly : Int32) (m_pieces : Int32) (m_states : Int32) (m_drawnNow : Int32) (m_keptAt : Int32) (m_cutRows : Nat → Int32) (m_cutColumns : Nat → Int32) (m_deep : Nat → Int32) (m_wide : Nat → Int32) (m_zonesAhead : Nat → Int32) (p1 : Int32) (p2 : Int32) (p3 : Int32) (r : Int32) (hf : f_M_at N m_cutRows m_cutColumns m_deep m_wide m_zonesAhead p1 p2 p3 = some r) : Met l yX11_at wsX11_at ({ frames := 4, cells := 0, slots := 0, locals := 88 }) (va_Pc [.ref a_m, .int p1, .int p2, .int p3] (q_N D ci A sa ((a_m, .inr (11, (.ref a_m_cutRows :: .ref a_m_cutColumns :: .ref a_m_deep :: .ref a_m_wide :: .ref a_m_zonesAhead :: .ref a_m_nameOne :: .ref a_m_nameOther :: .ref a_m_tape :: .int m_taped :: .int m_place :: .int m_fault :: .int m_number :: .int m_levelRead :: .int m_keyRead :: .int m_reads :: .int m_faults :: .int m_cutShort :: .int m_noNumber :: .long m_bottomLat :: .long m_bottomLon :: .ref a_m_edges :: .int m_firstBeside :: .int m_manyBeside :: .ref a_m_dist :: .ref a_m_queue :: .int m_queued :: .int m_boxLevel :: .int m_boxTop :: .int m_boxBottom :: .int m_boxWest :: .int m_boxEast :: .int m_isEarly :: .int m_pieces :: .int m_states :: .ref a_m_pieceLevel :: .ref a_m_pieceKey :: .ref a_m_pieceYear :: .int m_drawnNow :: .ref a_m_drawnKeys :: .ref a_m_kept :: .int m_keptAt :: .ref a_m_noNumbers :: []))) :: (a_m_cutRows, .inl (ci 0, 5, .inl m_cutRows)) :: (a_m_cutColumns, .inl (ci 0, 5, .inl m_cutColumns)) :: (a_m_deep, .inl (ci 0, 5, .inl m_deep)) :: (a_m_wide, .inl (ci 0, 5, .inl m_wide)) :: (a_m_zonesAhead, .inl (ci 0, 45, .inl m_zonesAhead)) :: Rw))) (q_R (some (.int r))) 0 0 A := by
  refine q_ofW (cc := cX11_at) (maxL := 7) (ret := (some .int)) [.ref a_m, .int p1, .int p2, .int p3] (plainFor_of_name (by decide)) rfl (Nat.le_of_ble_eq_true rfl) ?_
  intro p e s m below meth c ls Q hQ hx hb hml hr hts hown hlocks hK hA hZ hP hD hS hl
  have hl : lv_has ls 7 [(0, .ref a_m), (1, .int p1), (2, .int p2), (3, .int p3)] := hl
  have hown : s.vm.findClass RX11 = some m.cls := hown
  have hinX11 : ∀ w ∈ wsX110, w ∈ wsX11_at := fun _ h => List.mem_cons_of_mem _ (inWX110 _ h)
  have w_1 := hts (Cond.constantLong RX11 131 (5)) (List.mem_cons_of_mem _ t_w966)
  have w_2 := hts (Cond.constant RX11 253 (-1000000)) (List.mem_cons_of_mem _ t_w967)
  have w_3 := hts (Cond.fieldLink RX11 19 "SheetNamesModel" "wide" "[I") (List.mem_cons_of_mem _ t_w909)
  unfold f_M_at at hf
  have hgo : ∀ (H : Heap) (locs : List Loc), H = s.heap → va_P D vwCl ((a_m, .inr (11, (.ref a_m_cutRows :: .ref a_m_cutColumns :: .ref a_m_deep :: .ref a_m_wide :: .ref a_m_zonesAhead :: .ref a_m_nameOne :: .ref a_m_nameOther :: .ref a_m_tape :: .int m_taped :: .int m_place :: .int m_fault :: .int m_number :: .int m_levelRead :: .int m_keyRead :: .int m_reads :: .int m_faults :: .int m_cutShort :: .int m_noNumber :: .long m_bottomLat :: .long m_bottomLon :: .ref a_m_edges :: .int m_firstBeside :: .int m_manyBeside :: .ref a_m_dist :: .ref a_m_queue :: .int m_queued :: .int m_boxLevel :: .int m_boxTop :: .int m_boxBottom :: .int m_boxWest :: .int m_boxEast :: .int m_isEarly :: .int m_pieces :: .int m_states :: .ref a_m_pieceLevel :: .ref a_m_pieceKey :: .ref a_m_pieceYear :: .int m_drawnNow :: .ref a_m_drawnKeys :: .ref a_m_kept :: .int m_keptAt :: .ref a_m_noNumbers :: []))) :: (a_m_cutRows, .inl (ci 0, 5, .inl m_cutRows)) :: (a_m_cutColumns, .inl (ci 0, 5, .inl m_cutColumns)) :: (a_m_deep, .inl (ci 0, 5, .inl m_deep)) :: (a_m_wide, .inl (ci 0, 5, .inl m_wide)) :: (a_m_zonesAhead, .inl (ci 0, 45, .inl m_zonesAhead)) :: Rw) H → va_S A s.heap H locs → W p l e ({ frames := 4, cells := 0, slots := 0, locals := 88 } : Room) s m ([.ref a_m, .int p1, .int p2, .int p3] : List Value).toArray below meth c H locs 0 0 Q (F0 m 0 ls []) := by
    intro H locs hH hP hS
    subst hH
    refine lv_aload_n (pc := 0) hx hb dX11_at_0 rfl (lv_at hl 0 rfl) ?_
    refine lv_iload_n (pc := 1) hx hb dX11_at_1 rfl (lv_at hl 1 rfl) ?_
    refine lv_iload_n (pc := 2) hx hb dX11_at_2 rfl (lv_at hl 2 rfl) ?_
    obtain ⟨v1, hm3, hf⟩ := q_b1_e hf
    refine q_cVr (pc := 3) (As := [.int p1, .int p2]) (rest := []) (v0 := (some (.int v1))) ⟨hx, hb, hml, hown, hts⟩ hK hA hZ hP hD hS hl.1 [0, 3, 4, 5] 6 rfl ⟨rfl, rfl, rfl⟩ (c_M_isKey l D ci A sa N (Rw) a_m a_m_cutRows a_m_cutColumns a_m_deep a_m_wide a_m_zonesAhead a_m_nameOne a_m_nameOther a_m_tape a_m_edges a_m_dist a_m_queue a_m_pieceLevel a_m_pieceKey a_m_pieceYear a_m_drawnKeys a_m_kept a_m_noNumbers m_taped m_place m_fault m_number m_levelRead m_keyRead m_reads m_faults m_cutShort m_noNumber m_bottomLat m_bottomLon m_firstBeside m_manyBeside m_queued m_boxLevel m_boxTop m_boxBottom m_boxWest m_boxEast m_isEarly m_pieces m_states m_drawnNow m_keptAt m_deep m_wide m_zonesAhead p1 p2 v1 hm3) 0 rfl rfl (cwV 2 hts gX11_at_X11_isKey rfl rfl rfl (by decide +kernel) ⟨Nat.le_of_ble_eq_true rfl, Nat.le_of_ble_eq_true rfl⟩) rfl rfl (Nat.le_of_ble_eq_true rfl) dX11_at_3 ⟨Nat.zero_le _, Nat.zero_le _⟩ (fun locs hS => ?_)
    refine q_if_eq (pc := 6) (tgt := 21) hx hb dX11_at_6 (by decide) rfl hf (fun hf => ?_) (fun hf => ?_)
    · refine lv_ldc (pc := 21) (v := (-1000000)) hx hb hown w_2 dX11_at_21 ?_
      obtain rfl := Option.some.inj hf
      rw [hQ]
      exact q_iretr (pc := 23) hx hb hr hlocks rfl hS dX11_at_23
    · refine lv_iload_n (pc := 9) hx hb dX11_at_9 rfl (lv_at hl 3 rfl) ?_
      refine lv_i2l (pc := 10) hx hb dX11_at_10 rfl ?_
      refine lv_lconst (pc := 11) (v := 0) hx hb dX11_at_11 (by decide) ?_
      refine lv_ldc2 (pc := 12) (v := 5) hx hb hown w_1 dX11_at_12 ?_
      obtain ⟨v2, hm15, hf⟩ := q_b1_e hf
      refine q_cSr (pc := 15) (As := [.long p3.toInt64, .long 0, .long 5]) (rest := []) (v0 := (some (.int v2))) ⟨hx, hb, hml, hown, hts⟩ hK hA hZ hP hD hS hl.1 [] 6 rfl ⟨rfl, rfl, rfl⟩ (c_M_in l D ci A sa N (Rw) p3.toInt64 0 5 v2 hm15) (va_cwS 3 hts gX11_at_X11_in rfl rfl rfl (by decide +kernel) ⟨Nat.le_of_ble_eq_true rfl, Nat.le_of_ble_eq_true rfl⟩) rfl rfl (Nat.le_of_ble_eq_true rfl) dX11_at_15 ⟨Nat.zero_le _, Nat.zero_le _⟩ (fun locs hS => ?_)
      refine q_if_ne (pc := 18) (tgt := 24) hx hb dX11_at_18 (by decide) rfl hf (fun hf => ?_) (fun hf => ?_)
      · refine lv_aload_n (pc := 24) hx hb dX11_at_24 rfl (lv_at hl 0 rfl) ?_
        refine lv_iload_n (pc := 25) hx hb dX11_at_25 rfl (lv_at hl 1 rfl) ?_
        refine lv_iload_n (pc := 26) hx hb dX11_at_26 rfl (lv_at hl 2 rfl) ?_
        obtain ⟨v3, hm27, hf⟩ := q_b1_e hf
        refine q_cVr (pc := 27) (As := [.int p1, .int p2]) (rest := []) (v0 := (some (.int v3))) ⟨hx, hb, hml, hown, hts⟩ hK hA hZ hP hD hS hl.1 [0, 3, 4, 5] 6 rfl ⟨rfl, rfl, rfl⟩ (c_M_rowOf l D ci A sa N (Rw) a_m a_m_cutRows a_m_cutColumns a_m_deep a_m_wide a_m_zonesAhead a_m_nameOne a_m_nameOther a_m_tape a_m_edges a_m_dist a_m_queue a_m_pieceLevel a_m_pieceKey a_m_pieceYear a_m_drawnKeys a_m_kept a_m_noNumbers m_taped m_place m_fault m_number m_levelRead m_keyRead m_reads m_faults m_cutShort m_noNumber m_bottomLat m_bottomLon m_firstBeside m_manyBeside m_queued m_boxLevel m_boxTop m_boxBottom m_boxWest m_boxEast m_isEarly m_pieces m_states m_drawnNow m_keptAt m_deep m_wide m_zonesAhead p1 p2 v3 hm27) 0 rfl rfl (cwV 2 hts gX11_at_X11_rowOf rfl rfl rfl (by decide +kernel) ⟨Nat.le_of_ble_eq_true rfl, Nat.le_of_ble_eq_true rfl⟩) rfl rfl (Nat.le_of_ble_eq_true rfl) dX11_at_27 ⟨Nat.zero_le _, Nat.zero_le _⟩ (fun locs hS => ?_)
        refine lv_istore (pc := 30) (lv' := [(4, .int v3), (0, .ref a_m), (1, .int p1), (2, .int p2), (3, .int p3)]) hx hb dX11_at_30 hl (by decide) rfl (fun ls hl => ?_)
        refine lv_aload_n (pc := 32) hx hb dX11_at_32 rfl (lv_at hl 1 rfl) ?_
        refine lv_iload_n (pc := 33) hx hb dX11_at_33 rfl (lv_at hl 2 rfl) ?_
        refine lv_iload_n (pc := 34) hx hb dX11_at_34 rfl (lv_at hl 3 rfl) ?_
        obtain ⟨v4, hm35, hf⟩ := q_b1_e hf
        refine q_cVr (pc := 35) (As := [.int p1, .int p2]) (rest := []) (v0 := (some (.int v4))) ⟨hx, hb, hml, hown, hts⟩ hK hA hZ hP hD hS hl.1 [0, 3, 4, 5] 6 rfl ⟨rfl, rfl, rfl⟩ (c_M_placeOf l D ci A sa N (Rw) a_m a_m_cutRows a_m_cutColumns a_m_deep a_m_wide a_m_zonesAhead a_m_nameOne a_m_nameOther a_m_tape a_m_edges a_m_dist a_m_queue a_m_pieceLevel a_m_pieceKey a_m_pieceYear a_m_drawnKeys a_m_kept a_m_noNumbers m_taped m_place m_fault m_number m_levelRead m_keyRead m_reads m_faults m_cutShort m_noNumber m_bottomLat m_bottomLon m_firstBeside m_manyBeside m_queued m_boxLevel m_boxTop m_boxBottom m_boxWest m_boxEast m_isEarly m_pieces m_states m_drawnNow m_keptAt m_deep m_wide m_zonesAhead p1 p2 v4 hm35) 0 rfl rfl (cwV 2 hts gX11_at_X11_placeOf rfl rfl rfl (by decide +kernel) ⟨Nat.le_of_ble_eq_true rfl, Nat.le_of_ble_eq_true rfl⟩) rfl rfl (Nat.le_of_ble_eq_true rfl) dX11_at_35 ⟨Nat.zero_le _, Nat.zero_le _⟩ (fun locs hS => ?_)
        refine lv_istore (pc := 38) (lv' := [(5, .int v4), (4, .int v3), (0, .ref a_m), (1, .int p1), (2, .int p2), (3, .int p3)]) hx hb dX11_at_38 hl (by decide) rfl (fun ls hl => ?_)
        refine lv_aload_n (pc := 40) hx hb dX11_at_40 rfl (lv_at hl 2 rfl) ?_
        refine lv_iload_n (pc := 41) hx hb dX11_at_41 rfl (lv_at hl 3 rfl) ?_
        refine lv_iload_n (pc := 42) hx hb dX11_at_42 rfl (lv_at hl 4 rfl) ?_
        obtain ⟨v5, hm43, hf⟩ := q_b1_e hf
        refine q_cVr (pc := 43) (As := [.int p1, .int p2]) (rest := []) (v0 := (some (.int v5))) ⟨hx, hb, hml, hown, hts⟩ hK hA hZ hP hD hS hl.1 [0, 3, 4, 5] 6 rfl ⟨rfl, rfl, rfl⟩ (c_M_isCap l D ci A sa N (Rw) a_m a_m_cutRows a_m_cutColumns a_m_deep a_m_wide a_m_zonesAhead a_m_nameOne a_m_nameOther a_m_tape a_m_edges a_m_dist a_m_queue a_m_pieceLevel a_m_pieceKey a_m_pieceYear a_m_drawnKeys a_m_kept a_m_noNumbers m_taped m_place m_fault m_number m_levelRead m_keyRead m_reads m_faults m_cutShort m_noNumber m_bottomLat m_bottomLon m_firstBeside m_manyBeside m_queued m_boxLevel m_boxTop m_boxBottom m_boxWest m_boxEast m_isEarly m_pieces m_states m_drawnNow m_keptAt m_deep m_wide m_zonesAhead p1 p2 v5 hm43) 0 rfl rfl (cwV 2 hts gX11_at_X11_isCap rfl rfl rfl (by decide +kernel) ⟨Nat.le_of_ble_eq_true rfl, Nat.le_of_ble_eq_true rfl⟩) rfl rfl (Nat.le_of_ble_eq_true rfl) dX11_at_43 ⟨Nat.zero_le _, Nat.zero_le _⟩ (fun locs hS => ?_)
        refine lv_istore (pc := 46) (lv' := [(6, .int v5), (5, .int v4), (4, .int v3), (0, .ref a_m), (1, .int p1), (2, .int p2), (3, .int p3)]) hx hb dX11_at_46 hl (by decide) rfl (fun ls hl => ?_)
        refine lv_iload_n (pc := 48) hx hb dX11_at_48 rfl (lv_at hl 6 rfl) ?_
        rcases q_if_e hf with ⟨hc0, hf⟩ | ⟨hc0, hf⟩
        · refine lv_tableIn (pc := 49) (tgt := 84) (off := 35) hx hb dX11_at_49 (by rw [hc0]; decide) (by rw [hc0]; decide) (by rw [hc0]; decide) (by decide) ?_
          refine lv_iload (pc := 84) hx hb dX11_at_84 (lv_at hl 2 rfl) ?_
          obtain rfl := Option.some.inj hf
          rw [hQ]
          exact q_iretr (pc := 86) hx hb hr hlocks rfl hS dX11_at_86
        rcases q_if_e hf with ⟨hc1, hf⟩ | ⟨hc1, hf⟩
        · refine lv_tableIn (pc := 49) (tgt := 87) (off := 38) hx hb dX11_at_49 (by rw [hc1]; decide) (by rw [hc1]; decide) (by rw [hc1]; decide) (by decide) ?_
          refine lv_iload (pc := 87) hx hb dX11_at_87 (lv_at hl 1 rfl) ?_
          obtain rfl := Option.some.inj hf
          rw [hQ]
          exact q_iretr (pc := 89) hx hb hr hlocks rfl hS dX11_at_89
        rcases q_if_e hf with ⟨hc2, hf⟩ | ⟨hc2, hf⟩
        · refine lv_tableIn (pc := 49) (tgt := 90) (off := 41) hx hb dX11_at_49 (by rw [hc2]; decide) (by rw [hc2]; decide) (by rw [hc2]; decide) (by decide) ?_
          refine lv_aload_n (pc := 90) hx hb dX11_at_90 rfl (lv_at hl 3 rfl) ?_
          refine lv_iload_n (pc := 91) hx hb dX11_at_91 rfl (lv_at hl 4 rfl) ?_
          refine lv_iload (pc := 92) hx hb dX11_at_92 (lv_at hl 2 rfl) ?_
          obtain ⟨v6, hm94, hf⟩ := q_b1_e hf
          refine q_cVr (pc := 94) (As := [.int p1, .int v3]) (rest := []) (v0 := (some (.int v6))) ⟨hx, hb, hml, hown, hts⟩ hK hA hZ hP hD hS hl.1 [0, 3, 4] 6 rfl ⟨rfl, rfl, rfl⟩ (c_M_many l D ci A sa N (Rw) a_m a_m_cutRows a_m_cutColumns a_m_deep a_m_wide a_m_zonesAhead a_m_nameOne a_m_nameOther a_m_tape a_m_edges a_m_dist a_m_queue a_m_pieceLevel a_m_pieceKey a_m_pieceYear a_m_drawnKeys a_m_kept a_m_noNumbers m_taped m_place m_fault m_number m_levelRead m_keyRead m_reads m_faults m_cutShort m_noNumber m_bottomLat m_bottomLon m_firstBeside m_manyBeside m_queued m_boxLevel m_boxTop m_boxBottom m_boxWest m_boxEast m_isEarly m_pieces m_states m_drawnNow m_keptAt m_deep m_wide p1 v3 v6 hm94) 0 rfl rfl (cwV 2 hts gX11_at_X11_many rfl rfl rfl (by decide +kernel) ⟨Nat.le_of_ble_eq_true rfl, Nat.le_of_ble_eq_true rfl⟩) rfl rfl (Nat.le_of_ble_eq_true rfl) dX11_at_94 ⟨Nat.zero_le _, Nat.zero_le _⟩ (fun locs hS => ?_)
          obtain rfl := Option.some.inj hf
          rw [hQ]
          exact q_iretr (pc := 97) hx hb hr hlocks rfl hS dX11_at_97
        rcases q_if_e hf with ⟨hc3, hf⟩ | ⟨hc3, hf⟩
        · refine lv_tableIn (pc := 49) (tgt := 98) (off := 49) hx hb dX11_at_49 (by rw [hc3]; decide) (by rw [hc3]; decide) (by rw [hc3]; decide) (by decide) ?_
          refine lv_iload (pc := 98) hx hb dX11_at_98 (lv_at hl 0 rfl) ?_
          refine q_if_eq (pc := 100) (tgt := 117) hx hb dX11_at_100 (by decide) rfl hf (fun hf => ?_) (fun hf => ?_)
          · refine lv_bipush (pc := 117) (v := 21) hx hb dX11_at_117 (by decide) ?_
            refine lv_aload_n (pc := 119) hx hb dX11_at_119 rfl (lv_at hl 3 rfl) ?_
            refine lv_iload_n (pc := 120) hx hb dX11_at_120 rfl (lv_at hl 4 rfl) ?_
            refine lv_iload (pc := 121) hx hb dX11_at_121 (lv_at hl 2 rfl) ?_
            obtain ⟨v7, hm123, hf⟩ := q_b1_e hf
            refine q_cVr (pc := 123) (As := [.int p1, .int v3]) (rest := [.int 21]) (v0 := (some (.int v7))) ⟨hx, hb, hml, hown, hts⟩ hK hA hZ hP hD hS hl.1 [0, 3] 6 rfl ⟨rfl, rfl, rfl⟩ (c_M_bandOf l D ci A sa N (Rw) a_m a_m_cutRows a_m_cutColumns a_m_deep a_m_wide a_m_zonesAhead a_m_nameOne a_m_nameOther a_m_tape a_m_edges a_m_dist a_m_queue a_m_pieceLevel a_m_pieceKey a_m_pieceYear a_m_drawnKeys a_m_kept a_m_noNumbers m_taped m_place m_fault m_number m_levelRead m_keyRead m_reads m_faults m_cutShort m_noNumber m_bottomLat m_bottomLon m_firstBeside m_manyBeside m_queued m_boxLevel m_boxTop m_boxBottom m_boxWest m_boxEast m_isEarly m_pieces m_states m_drawnNow m_keptAt m_deep p1 v3 v7 hm123) 0 rfl rfl (cwV 2 hts gX11_at_X11_bandOf rfl rfl rfl (by decide +kernel) ⟨Nat.le_of_ble_eq_true rfl, Nat.le_of_ble_eq_true rfl⟩) rfl rfl (Nat.le_of_ble_eq_true rfl) dX11_at_123 ⟨Nat.zero_le _, Nat.zero_le _⟩ (fun locs hS => ?_)
            refine lv_isub (pc := 126) hx hb dX11_at_126 ?_
            obtain rfl := Option.some.inj hf
            rw [hQ]
            exact q_iretr (pc := 127) hx hb hr hlocks rfl hS dX11_at_127
          · refine lv_iload_n (pc := 103) hx hb dX11_at_103 rfl (lv_at hl 5 rfl) ?_
            refine q_if_ne (pc := 104) (tgt := 112) hx hb dX11_at_104 (by decide) rfl hf (fun hf => ?_) (fun hf => ?_)
            · refine lv_bipush (pc := 112) (v := (-100)) hx hb dX11_at_112 (by decide) ?_
              refine lv_goto (pc := 114) (tgt := 127) hx hb dX11_at_114 (by decide) ?_
              obtain rfl := Option.some.inj hf
              rw [hQ]
              exact q_iretr (pc := 127) hx hb hr hlocks rfl hS dX11_at_127
            · refine lv_bipush (pc := 107) (v := 100) hx hb dX11_at_107 (by decide) ?_
              refine lv_goto (pc := 109) (tgt := 127) hx hb dX11_at_109 (by decide) ?_
              obtain rfl := Option.some.inj hf
              rw [hQ]
              exact q_iretr (pc := 127) hx hb hr hlocks rfl hS dX11_at_127
        rcases q_if_e hf with ⟨hc4, hf⟩ | ⟨hc4, hf⟩
        · refine lv_tableIn (pc := 49) (tgt := 128) (off := 79) hx hb dX11_at_49 (by rw [hc4]; decide) (by rw [hc4]; decide) (by rw [hc4]; decide) (by decide) ?_
          refine lv_iload (pc := 128) hx hb dX11_at_128 (lv_at hl 0 rfl) ?_
          refine q_if_eq (pc := 130) (tgt := 137) hx hb dX11_at_130 (by decide) rfl hf (fun hf => ?_) (fun hf => ?_)
          · refine lv_iload (pc := 137) hx hb dX11_at_137 (lv_at hl 1 rfl) ?_
            refine lv_aload_n (pc := 139) hx hb dX11_at_139 rfl (lv_at hl 3 rfl) ?_
            refine va_get (pc := 140) (D := D) (ci := 11) (v := .ref a_m_wide) (C := RX11) (T := TX11) (N := 42) hx hb hts hinX11 hown hK hP 0 rfl rfl 3 (by decide) w_3 (fun _ h9 => h9) rfl dX11_at_140 ?_
            refine lv_iload_n (pc := 143) hx hb dX11_at_143 rfl (lv_at hl 4 rfl) ?_
            refine q_iald (pc := 144) hx hb hK hP 4 0 hf rfl rfl dX11_at_144 (fun v8 hf => ?_)
            refine q_idiv (pc := 145) hx hb dX11_at_145 hf (fun v9 hf => ?_)
            obtain rfl := Option.some.inj hf
            rw [hQ]
            exact q_iretr (pc := 146) hx hb hr hlocks rfl hS dX11_at_146
          · refine lv_iconst (pc := 133) (v := 0) hx hb dX11_at_133 (by decide) ?_
            refine lv_goto (pc := 134) (tgt := 146) hx hb dX11_at_134 (by decide) ?_
            obtain rfl := Option.some.inj hf
            rw [hQ]
            exact q_iretr (pc := 146) hx hb hr hlocks rfl hS dX11_at_146
        have hsw : p3.toInt < 0 ∨ 4 < p3.toInt := by
          have hd0 := q_nei hc0; have hd1 := q_nei hc1; have hd2 := q_nei hc2; have hd3 := q_nei hc3; have hd4 := q_nei hc4
          rw [show (0 : Int32).toInt = 0 from rfl] at hd0; rw [show (1 : Int32).toInt = 1 from rfl] at hd1; rw [show (2 : Int32).toInt = 2 from rfl] at hd2; rw [show (3 : Int32).toInt = 3 from rfl] at hd3; rw [show (4 : Int32).toInt = 4 from rfl] at hd4
          omega
        refine lv_tableOut (pc := 49) (tgt := 147) hx hb dX11_at_49 hsw (by decide) ?_
        refine lv_iload (pc := 147) hx hb dX11_at_147 (lv_at hl 0 rfl) ?_
        refine q_if_eq (pc := 149) (tgt := 156) hx hb dX11_at_149 (by decide) rfl hf (fun hf => ?_) (fun hf => ?_)
        · refine lv_iload_n (pc := 156) hx hb dX11_at_156 rfl (lv_at hl 4 rfl) ?_
          refine q_if_ne (pc := 157) (tgt := 167) hx hb dX11_at_157 (by decide) rfl hf (fun hf => ?_) (fun hf => ?_)
          · refine lv_aload_n (pc := 167) hx hb dX11_at_167 rfl (lv_at hl 3 rfl) ?_
            refine lv_iload_n (pc := 168) hx hb dX11_at_168 rfl (lv_at hl 4 rfl) ?_
            refine lv_iload (pc := 169) hx hb dX11_at_169 (lv_at hl 2 rfl) ?_
            refine lv_iload (pc := 171) hx hb dX11_at_171 (lv_at hl 1 rfl) ?_
            obtain ⟨v10, hm173, hf⟩ := q_b1_e hf
            refine q_cVr (pc := 173) (As := [.int p1, .int v3, .int v4]) (rest := []) (v0 := (some (.int v10))) ⟨hx, hb, hml, hown, hts⟩ hK hA hZ hP hD hS hl.1 [0, 1, 2, 3] 6 rfl ⟨rfl, rfl, rfl⟩ (c_M_pieceNumber l D ci A sa N (Rw) a_m a_m_cutRows a_m_cutColumns a_m_deep a_m_wide a_m_zonesAhead a_m_nameOne a_m_nameOther a_m_tape a_m_edges a_m_dist a_m_queue a_m_pieceLevel a_m_pieceKey a_m_pieceYear a_m_drawnKeys a_m_kept a_m_noNumbers m_taped m_place m_fault m_number m_levelRead m_keyRead m_reads m_faults m_cutShort m_noNumber m_bottomLat m_bottomLon m_firstBeside m_manyBeside m_queued m_boxLevel m_boxTop m_boxBottom m_boxWest m_boxEast m_isEarly m_pieces m_states m_drawnNow m_keptAt m_cutRows m_cutColumns m_deep p1 v3 v4 v10 hm173) 0 rfl rfl (cwV 3 hts gX11_at_X11_pieceNumber rfl rfl rfl (by decide +kernel) ⟨Nat.le_of_ble_eq_true rfl, Nat.le_of_ble_eq_true rfl⟩) rfl rfl (Nat.le_of_ble_eq_true rfl) dX11_at_173 ⟨Nat.zero_le _, Nat.zero_le _⟩ (fun locs hS => ?_)
            obtain rfl := Option.some.inj hf
            rw [hQ]
            exact q_iretr (pc := 176) hx hb hr hlocks rfl hS dX11_at_176
          · refine lv_iload (pc := 160) hx hb dX11_at_160 (lv_at hl 1 rfl) ?_
            refine lv_iconst (pc := 162) (v := 1) hx hb dX11_at_162 (by decide) ?_
            refine lv_iadd (pc := 163) hx hb dX11_at_163 ?_
            refine lv_goto (pc := 164) (tgt := 176) hx hb dX11_at_164 (by decide) ?_
            obtain rfl := Option.some.inj hf
            rw [hQ]
            exact q_iretr (pc := 176) hx hb hr hlocks rfl hS dX11_at_176
        · refine lv_iconst (pc := 152) (v := 0) hx hb dX11_at_152 (by decide) ?_
          refine lv_goto (pc := 153) (tgt := 176) hx hb dX11_at_153 (by decide) ?_
          obtain rfl := Option.some.inj hf
          rw [hQ]
          exact q_iretr (pc := 176) hx hb hr hlocks rfl hS dX11_at_176
      · refine lv_ldc (pc := 21) (v := (-1000000)) hx hb hown w_2 dX11_at_21 ?_
        obtain rfl := Option.some.inj hf
        rw [hQ]
        exact q_iretr (pc := 23) hx hb hr hlocks rfl hS dX11_at_23
  exact hgo _ _ rfl hP hS
/-! X11_bands -/
set_option maxRecDepth 100000 in
set_option maxHeartbeats 4000000 in
theorem c_M_bands (l : Launch) (D : va_G) (ci : Nat → ClassId) (A : Nat → Prop) (sa : Nat → Nat) (N : Nat) (Rw : va_W) (a_m : Nat) (a_m_cutRows : Nat) (a_m_cutColumns : Nat) (a_m_deep : Nat) (a_m_wide : Nat) (a_m_zonesAhead : Nat) (a_m_nameOne : Nat) (a_m_nameOther : Nat) (a_m_tape : Nat) (a_m_edges : Nat) (a_m_dist : Nat) (a_m_queue : Nat) (a_m_pieceLevel : Nat) (a_m_pieceKey : Nat) (a_m_pieceYear : Nat) (a_m_drawnKeys : Nat) (a_m_kept : Nat) (a_m_noNumbers : Nat) (m_taped : Int32) (m_place : Int32) (m_fault : Int32) (m_number : Int32) (m_levelRead : Int32) (m_keyRead : Int32) (m_reads : Int32) (m_faults : Int32) (m_cutShort : Int32) (m_noNumber : Int32) (m_bottomLat : Int64) (m_bottomLon : Int64) (m_firstBeside : Int32) (m_manyBeside : Int32) (m_queued : Int32) (m_boxLevel : Int32) (m_boxTop : Int32) (m_boxBottom : Int32) (m_boxWest : Int32) (m_boxEast : Int32) (m_isEarly : Int32) (m_pieces : Int32) (m_states : Int32) (m_drawnNow : Int32) (m_keptAt : Int32) (m_deep : Nat → Int32) (m_wide : Nat → Int32) (m_zonesAhead : Nat → Int32) (p1 : Int32) (p2 : Int32) (p3 : Int32) (r : Int32) (hf : f_M_bands N m_deep m_wide m_zonesAhead p1 p2 p3 = some r) : Met l yX11_bands wsX11_bands ({ frames := 3, cells := 0, slots := 0, locals := 67 }) (va_Pc [.ref a_m, .int p1, .int p2, .int p3] (q_N D ci A sa ((a_m, .inr (11, (.ref a_m_cutRows :: .ref a_m_cutColumns :: .ref a_m_deep :: .ref a_m_wide :: .ref a_m_zonesAhead :: .ref a_m_nameOne :: .ref a_m_nameOther :: .ref a_m_tape :: .int m_taped :: .int m_place :: .int m_fault :: .int m_number :: .int m_levelRead :: .int m_keyRead :: .int m_reads :: .int m_faults :: .int m_cutShort :: .int m_noNumber :: .long m_bottomLat :: .long m_bottomLon :: .ref a_m_edges :: .int m_firstBeside :: .int m_manyBeside :: .ref a_m_dist :: .ref a_m_queue :: .int m_queued :: .int m_boxLevel :: .int m_boxTop :: .int m_boxBottom :: .int m_boxWest :: .int m_boxEast :: .int m_isEarly :: .int m_pieces :: .int m_states :: .ref a_m_pieceLevel :: .ref a_m_pieceKey :: .ref a_m_pieceYear :: .int m_drawnNow :: .ref a_m_drawnKeys :: .ref a_m_kept :: .int m_keptAt :: .ref a_m_noNumbers :: []))) :: (a_m_deep, .inl (ci 0, 5, .inl m_deep)) :: (a_m_wide, .inl (ci 0, 5, .inl m_wide)) :: (a_m_zonesAhead, .inl (ci 0, 45, .inl m_zonesAhead)) :: Rw))) (q_R (some (.int r))) 0 0 A := by
  refine q_ofW (cc := cX11_bands) (maxL := 6) (ret := (some .int)) [.ref a_m, .int p1, .int p2, .int p3] (plainFor_of_name (by decide)) rfl (Nat.le_of_ble_eq_true rfl) ?_
  intro p e s m below meth c ls Q hQ hx hb hml hr hts hown hlocks hK hA hZ hP hD hS hl
  have hl : lv_has ls 6 [(0, .ref a_m), (1, .int p1), (2, .int p2), (3, .int p3)] := hl
  have hown : s.vm.findClass RX11 = some m.cls := hown
  unfold f_M_bands at hf
  have hgo : ∀ (H : Heap) (locs : List Loc), H = s.heap → va_P D vwCl ((a_m, .inr (11, (.ref a_m_cutRows :: .ref a_m_cutColumns :: .ref a_m_deep :: .ref a_m_wide :: .ref a_m_zonesAhead :: .ref a_m_nameOne :: .ref a_m_nameOther :: .ref a_m_tape :: .int m_taped :: .int m_place :: .int m_fault :: .int m_number :: .int m_levelRead :: .int m_keyRead :: .int m_reads :: .int m_faults :: .int m_cutShort :: .int m_noNumber :: .long m_bottomLat :: .long m_bottomLon :: .ref a_m_edges :: .int m_firstBeside :: .int m_manyBeside :: .ref a_m_dist :: .ref a_m_queue :: .int m_queued :: .int m_boxLevel :: .int m_boxTop :: .int m_boxBottom :: .int m_boxWest :: .int m_boxEast :: .int m_isEarly :: .int m_pieces :: .int m_states :: .ref a_m_pieceLevel :: .ref a_m_pieceKey :: .ref a_m_pieceYear :: .int m_drawnNow :: .ref a_m_drawnKeys :: .ref a_m_kept :: .int m_keptAt :: .ref a_m_noNumbers :: []))) :: (a_m_deep, .inl (ci 0, 5, .inl m_deep)) :: (a_m_wide, .inl (ci 0, 5, .inl m_wide)) :: (a_m_zonesAhead, .inl (ci 0, 45, .inl m_zonesAhead)) :: Rw) H → va_S A s.heap H locs → W p l e ({ frames := 3, cells := 0, slots := 0, locals := 67 } : Room) s m ([.ref a_m, .int p1, .int p2, .int p3] : List Value).toArray below meth c H locs 0 0 Q (F0 m 0 ls []) := by
    intro H locs hH hP hS
    subst hH
    refine lv_aload_n (pc := 0) hx hb dX11_bands_0 rfl (lv_at hl 0 rfl) ?_
    refine lv_iload_n (pc := 1) hx hb dX11_bands_1 rfl (lv_at hl 1 rfl) ?_
    refine lv_iload_n (pc := 2) hx hb dX11_bands_2 rfl (lv_at hl 2 rfl) ?_
    obtain ⟨v1, hm3, hf⟩ := q_b1_e hf
    refine q_cVr (pc := 3) (As := [.int p1, .int p2]) (rest := []) (v0 := (some (.int v1))) ⟨hx, hb, hml, hown, hts⟩ hK hA hZ hP hD hS hl.1 [0, 1, 2, 3] 4 rfl ⟨rfl, rfl, rfl⟩ (c_M_isKey l D ci A sa N (Rw) a_m a_m_cutRows a_m_cutColumns a_m_deep a_m_wide a_m_zonesAhead a_m_nameOne a_m_nameOther a_m_tape a_m_edges a_m_dist a_m_queue a_m_pieceLevel a_m_pieceKey a_m_pieceYear a_m_drawnKeys a_m_kept a_m_noNumbers m_taped m_place m_fault m_number m_levelRead m_keyRead m_reads m_faults m_cutShort m_noNumber m_bottomLat m_bottomLon m_firstBeside m_manyBeside m_queued m_boxLevel m_boxTop m_boxBottom m_boxWest m_boxEast m_isEarly m_pieces m_states m_drawnNow m_keptAt m_deep m_wide m_zonesAhead p1 p2 v1 hm3) 0 rfl rfl (cwV 2 hts gX11_bands_X11_isKey rfl rfl rfl (by decide +kernel) ⟨Nat.le_of_ble_eq_true rfl, Nat.le_of_ble_eq_true rfl⟩) rfl rfl (Nat.le_of_ble_eq_true rfl) dX11_bands_3 ⟨Nat.zero_le _, Nat.zero_le _⟩ (fun locs hS => ?_)
    refine q_if_eq (pc := 6) (tgt := 23) hx hb dX11_bands_6 (by decide) rfl hf (fun hf => ?_) (fun hf => ?_)
    · refine lv_iconst (pc := 23) (v := (-1)) hx hb dX11_bands_23 (by decide) ?_
      obtain rfl := Option.some.inj hf
      rw [hQ]
      exact q_iretr (pc := 24) hx hb hr hlocks rfl hS dX11_bands_24
    · refine lv_aload_n (pc := 9) hx hb dX11_bands_9 rfl (lv_at hl 0 rfl) ?_
      refine lv_iload_n (pc := 10) hx hb dX11_bands_10 rfl (lv_at hl 1 rfl) ?_
      refine lv_iload_n (pc := 11) hx hb dX11_bands_11 rfl (lv_at hl 3 rfl) ?_
      obtain ⟨v2, hm12, hf⟩ := q_b1_e hf
      refine q_cVr (pc := 12) (As := [.int p1, .int p3]) (rest := []) (v0 := (some (.int v2))) ⟨hx, hb, hml, hown, hts⟩ hK hA hZ hP hD hS hl.1 [0, 1, 2, 3] 4 rfl ⟨rfl, rfl, rfl⟩ (c_M_isKey l D ci A sa N (Rw) a_m a_m_cutRows a_m_cutColumns a_m_deep a_m_wide a_m_zonesAhead a_m_nameOne a_m_nameOther a_m_tape a_m_edges a_m_dist a_m_queue a_m_pieceLevel a_m_pieceKey a_m_pieceYear a_m_drawnKeys a_m_kept a_m_noNumbers m_taped m_place m_fault m_number m_levelRead m_keyRead m_reads m_faults m_cutShort m_noNumber m_bottomLat m_bottomLon m_firstBeside m_manyBeside m_queued m_boxLevel m_boxTop m_boxBottom m_boxWest m_boxEast m_isEarly m_pieces m_states m_drawnNow m_keptAt m_deep m_wide m_zonesAhead p1 p3 v2 hm12) 0 rfl rfl (cwV 2 hts gX11_bands_X11_isKey rfl rfl rfl (by decide +kernel) ⟨Nat.le_of_ble_eq_true rfl, Nat.le_of_ble_eq_true rfl⟩) rfl rfl (Nat.le_of_ble_eq_true rfl) dX11_bands_12 ⟨Nat.zero_le _, Nat.zero_le _⟩ (fun locs hS => ?_)
      refine q_if_eq (pc := 15) (tgt := 23) hx hb dX11_bands_15 (by decide) rfl hf (fun hf => ?_) (fun hf => ?_)
      · refine lv_iconst (pc := 23) (v := (-1)) hx hb dX11_bands_23 (by decide) ?_
        obtain rfl := Option.some.inj hf
        rw [hQ]
        exact q_iretr (pc := 24) hx hb hr hlocks rfl hS dX11_bands_24
      · refine lv_iload_n (pc := 18) hx hb dX11_bands_18 rfl (lv_at hl 2 rfl) ?_
        refine lv_iload_n (pc := 19) hx hb dX11_bands_19 rfl (lv_at hl 3 rfl) ?_
        refine q_icmp_le (pc := 20) (tgt := 25) hx hb dX11_bands_20 (by decide) rfl hf (fun hf => ?_) (fun hf => ?_)
        · refine lv_aload_n (pc := 25) hx hb dX11_bands_25 rfl (lv_at hl 0 rfl) ?_
          refine lv_iload_n (pc := 26) hx hb dX11_bands_26 rfl (lv_at hl 1 rfl) ?_
          refine lv_iload_n (pc := 27) hx hb dX11_bands_27 rfl (lv_at hl 2 rfl) ?_
          obtain ⟨v3, hm28, hf⟩ := q_b1_e hf
          refine q_cVr (pc := 28) (As := [.int p1, .int p2]) (rest := []) (v0 := (some (.int v3))) ⟨hx, hb, hml, hown, hts⟩ hK hA hZ hP hD hS hl.1 [0, 1, 2, 3] 4 rfl ⟨rfl, rfl, rfl⟩ (c_M_rowOf l D ci A sa N (Rw) a_m a_m_cutRows a_m_cutColumns a_m_deep a_m_wide a_m_zonesAhead a_m_nameOne a_m_nameOther a_m_tape a_m_edges a_m_dist a_m_queue a_m_pieceLevel a_m_pieceKey a_m_pieceYear a_m_drawnKeys a_m_kept a_m_noNumbers m_taped m_place m_fault m_number m_levelRead m_keyRead m_reads m_faults m_cutShort m_noNumber m_bottomLat m_bottomLon m_firstBeside m_manyBeside m_queued m_boxLevel m_boxTop m_boxBottom m_boxWest m_boxEast m_isEarly m_pieces m_states m_drawnNow m_keptAt m_deep m_wide m_zonesAhead p1 p2 v3 hm28) 0 rfl rfl (cwV 2 hts gX11_bands_X11_rowOf rfl rfl rfl (by decide +kernel) ⟨Nat.le_of_ble_eq_true rfl, Nat.le_of_ble_eq_true rfl⟩) rfl rfl (Nat.le_of_ble_eq_true rfl) dX11_bands_28 ⟨Nat.zero_le _, Nat.zero_le _⟩ (fun locs hS => ?_)
          refine lv_istore (pc := 31) (lv' := [(4, .int v3), (0, .ref a_m), (1, .int p1), (2, .int p2), (3, .int p3)]) hx hb dX11_bands_31 hl (by decide) rfl (fun ls hl => ?_)
          refine lv_aload_n (pc := 33) hx hb dX11_bands_33 rfl (lv_at hl 1 rfl) ?_
          refine lv_iload_n (pc := 34) hx hb dX11_bands_34 rfl (lv_at hl 2 rfl) ?_
          refine lv_iload_n (pc := 35) hx hb dX11_bands_35 rfl (lv_at hl 4 rfl) ?_
          obtain ⟨v4, hm36, hf⟩ := q_b1_e hf
          refine q_cVr (pc := 36) (As := [.int p1, .int p3]) (rest := []) (v0 := (some (.int v4))) ⟨hx, hb, hml, hown, hts⟩ hK hA hZ hP hD hS hl.1 [0, 1, 2, 3] 4 rfl ⟨rfl, rfl, rfl⟩ (c_M_rowOf l D ci A sa N (Rw) a_m a_m_cutRows a_m_cutColumns a_m_deep a_m_wide a_m_zonesAhead a_m_nameOne a_m_nameOther a_m_tape a_m_edges a_m_dist a_m_queue a_m_pieceLevel a_m_pieceKey a_m_pieceYear a_m_drawnKeys a_m_kept a_m_noNumbers m_taped m_place m_fault m_number m_levelRead m_keyRead m_reads m_faults m_cutShort m_noNumber m_bottomLat m_bottomLon m_firstBeside m_manyBeside m_queued m_boxLevel m_boxTop m_boxBottom m_boxWest m_boxEast m_isEarly m_pieces m_states m_drawnNow m_keptAt m_deep m_wide m_zonesAhead p1 p3 v4 hm36) 0 rfl rfl (cwV 2 hts gX11_bands_X11_rowOf rfl rfl rfl (by decide +kernel) ⟨Nat.le_of_ble_eq_true rfl, Nat.le_of_ble_eq_true rfl⟩) rfl rfl (Nat.le_of_ble_eq_true rfl) dX11_bands_36 ⟨Nat.zero_le _, Nat.zero_le _⟩ (fun locs hS => ?_)
          refine lv_istore (pc := 39) (lv' := [(5, .int v4), (4, .int v3), (0, .ref a_m), (1, .int p1), (2, .int p2), (3, .int p3)]) hx hb dX11_bands_39 hl (by decide) rfl (fun ls hl => ?_)
          refine lv_iload (pc := 41) hx hb dX11_bands_41 (lv_at hl 1 rfl) ?_
          obtain ⟨k52, ek52, hf⟩ := q_j1_e hf
          have J52 : ∀ (v5 : Int32) (H : Heap) (locs : List Loc) (ls : Array Slot), k52 v5 = some r → H = s.heap → va_S A s.heap H locs → lv_has ls 6 [(0, .ref a_m), (1, .int p1), (5, .int v4)] → W p l e ({ frames := 3, cells := 0, slots := 0, locals := 67 } : Room) s m ([.ref a_m, .int p1, .int p2, .int p3] : List Value).toArray below meth c H locs 0 0 Q (F0 m 52 ls [.int v5]) := by
            intro v5 H locs ls hf hHs hS hl
            subst hHs
            have hf := (ek52 v5).symm.trans hf
            refine lv_istore (pc := 52) (lv' := [(4, .int v5), (0, .ref a_m), (1, .int p1), (5, .int v4)]) hx hb dX11_bands_52 hl (by decide) rfl (fun ls hl => ?_)
            refine lv_iload (pc := 54) hx hb dX11_bands_54 (lv_at hl 3 rfl) ?_
            refine lv_aload_n (pc := 56) hx hb dX11_bands_56 rfl (lv_at hl 1 rfl) ?_
            refine lv_iload_n (pc := 57) hx hb dX11_bands_57 rfl (lv_at hl 2 rfl) ?_
            obtain ⟨v6, hm58, hf⟩ := q_b1_e hf
            refine q_cVr (pc := 58) (As := [.int p1]) (rest := [.int v4]) (v0 := (some (.int v6))) ⟨hx, hb, hml, hown, hts⟩ hK hA hZ hP hD hS hl.1 [0, 1] 4 rfl ⟨rfl, rfl, rfl⟩ (c_M_lastRow l D ci A sa N (Rw) a_m a_m_cutRows a_m_cutColumns a_m_deep a_m_wide a_m_zonesAhead a_m_nameOne a_m_nameOther a_m_tape a_m_edges a_m_dist a_m_queue a_m_pieceLevel a_m_pieceKey a_m_pieceYear a_m_drawnKeys a_m_kept a_m_noNumbers m_taped m_place m_fault m_number m_levelRead m_keyRead m_reads m_faults m_cutShort m_noNumber m_bottomLat m_bottomLon m_firstBeside m_manyBeside m_queued m_boxLevel m_boxTop m_boxBottom m_boxWest m_boxEast m_isEarly m_pieces m_states m_drawnNow m_keptAt m_deep p1 v6 hm58) 0 rfl rfl (cwV 1 hts gX11_bands_X11_lastRow rfl rfl rfl (by decide +kernel) ⟨Nat.le_of_ble_eq_true rfl, Nat.le_of_ble_eq_true rfl⟩) rfl rfl (Nat.le_of_ble_eq_true rfl) dX11_bands_58 ⟨Nat.zero_le _, Nat.zero_le _⟩ (fun locs hS => ?_)
            obtain ⟨k73, ek73, hf⟩ := q_j1_e hf
            have J73 : ∀ (v7 : Int32) (H : Heap) (locs : List Loc) (ls : Array Slot), k73 v7 = some r → H = s.heap → va_S A s.heap H locs → lv_has ls 6 [(0, .ref a_m), (1, .int p1), (4, .int v5)] → W p l e ({ frames := 3, cells := 0, slots := 0, locals := 67 } : Room) s m ([.ref a_m, .int p1, .int p2, .int p3] : List Value).toArray below meth c H locs 0 0 Q (F0 m 73 ls [.int v7]) := by
              intro v7 H locs ls hf hHs hS hl
              subst hHs
              have hf := (ek73 v7).symm.trans hf
              refine lv_istore (pc := 73) (lv' := [(5, .int v7), (0, .ref a_m), (1, .int p1), (4, .int v5)]) hx hb dX11_bands_73 hl (by decide) rfl (fun ls hl => ?_)
              refine lv_iload (pc := 75) hx hb dX11_bands_75 (lv_at hl 3 rfl) ?_
              refine lv_iload (pc := 77) hx hb dX11_bands_77 (lv_at hl 0 rfl) ?_
              refine q_icmp_le (pc := 79) (tgt := 86) hx hb dX11_bands_79 (by decide) rfl hf (fun hf => ?_) (fun hf => ?_)
              · refine lv_aload_n (pc := 86) hx hb dX11_bands_86 rfl (lv_at hl 1 rfl) ?_
                refine lv_iload_n (pc := 87) hx hb dX11_bands_87 rfl (lv_at hl 2 rfl) ?_
                refine lv_iload (pc := 88) hx hb dX11_bands_88 (lv_at hl 0 rfl) ?_
                obtain ⟨v8, hm90, hf⟩ := q_b1_e hf
                refine q_cVr (pc := 90) (As := [.int p1, .int v7]) (rest := []) (v0 := (some (.int v8))) ⟨hx, hb, hml, hown, hts⟩ hK hA hZ hP hD hS hl.1 [0, 1] 4 rfl ⟨rfl, rfl, rfl⟩ (c_M_bandOf l D ci A sa N (Rw) a_m a_m_cutRows a_m_cutColumns a_m_deep a_m_wide a_m_zonesAhead a_m_nameOne a_m_nameOther a_m_tape a_m_edges a_m_dist a_m_queue a_m_pieceLevel a_m_pieceKey a_m_pieceYear a_m_drawnKeys a_m_kept a_m_noNumbers m_taped m_place m_fault m_number m_levelRead m_keyRead m_reads m_faults m_cutShort m_noNumber m_bottomLat m_bottomLon m_firstBeside m_manyBeside m_queued m_boxLevel m_boxTop m_boxBottom m_boxWest m_boxEast m_isEarly m_pieces m_states m_drawnNow m_keptAt m_deep p1 v7 v8 hm90) 0 rfl rfl (cwV 2 hts gX11_bands_X11_bandOf rfl rfl rfl (by decide +kernel) ⟨Nat.le_of_ble_eq_true rfl, Nat.le_of_ble_eq_true rfl⟩) rfl rfl (Nat.le_of_ble_eq_true rfl) dX11_bands_90 ⟨Nat.zero_le _, Nat.zero_le _⟩ (fun locs hS => ?_)
                refine lv_aload_n (pc := 93) hx hb dX11_bands_93 rfl (lv_at hl 1 rfl) ?_
                refine lv_iload_n (pc := 94) hx hb dX11_bands_94 rfl (lv_at hl 2 rfl) ?_
                refine lv_iload (pc := 95) hx hb dX11_bands_95 (lv_at hl 3 rfl) ?_
                obtain ⟨v9, hm97, hf⟩ := q_b1_e hf
                refine q_cVr (pc := 97) (As := [.int p1, .int v5]) (rest := [.int v8]) (v0 := (some (.int v9))) ⟨hx, hb, hml, hown, hts⟩ hK hA hZ hP hD hS hl.1 [0, 1] 4 rfl ⟨rfl, rfl, rfl⟩ (c_M_bandOf l D ci A sa N (Rw) a_m a_m_cutRows a_m_cutColumns a_m_deep a_m_wide a_m_zonesAhead a_m_nameOne a_m_nameOther a_m_tape a_m_edges a_m_dist a_m_queue a_m_pieceLevel a_m_pieceKey a_m_pieceYear a_m_drawnKeys a_m_kept a_m_noNumbers m_taped m_place m_fault m_number m_levelRead m_keyRead m_reads m_faults m_cutShort m_noNumber m_bottomLat m_bottomLon m_firstBeside m_manyBeside m_queued m_boxLevel m_boxTop m_boxBottom m_boxWest m_boxEast m_isEarly m_pieces m_states m_drawnNow m_keptAt m_deep p1 v5 v9 hm97) 0 rfl rfl (cwV 2 hts gX11_bands_X11_bandOf rfl rfl rfl (by decide +kernel) ⟨Nat.le_of_ble_eq_true rfl, Nat.le_of_ble_eq_true rfl⟩) rfl rfl (Nat.le_of_ble_eq_true rfl) dX11_bands_97 ⟨Nat.zero_le _, Nat.zero_le _⟩ (fun locs hS => ?_)
                refine lv_isub (pc := 100) hx hb dX11_bands_100 ?_
                refine lv_iconst (pc := 101) (v := 1) hx hb dX11_bands_101 (by decide) ?_
                refine lv_iadd (pc := 102) hx hb dX11_bands_102 ?_
                obtain rfl := Option.some.inj hf
                rw [hQ]
                exact q_iretr (pc := 103) hx hb hr hlocks rfl hS dX11_bands_103
              · refine lv_iconst (pc := 82) (v := 0) hx hb dX11_bands_82 (by decide) ?_
                refine lv_goto (pc := 83) (tgt := 103) hx hb dX11_bands_83 (by decide) ?_
                obtain rfl := Option.some.inj hf
                rw [hQ]
                exact q_iretr (pc := 103) hx hb hr hlocks rfl hS dX11_bands_103
            refine q_icmp_ne (pc := 61) (tgt := 71) hx hb dX11_bands_61 (by decide) rfl hf (fun hf => ?_) (fun hf => ?_)
            · refine lv_iload (pc := 71) hx hb dX11_bands_71 (lv_at hl 3 rfl) ?_
              exact J73 v4 _ _ _ hf rfl hS (lv_sub hl [1, 2, 0] rfl)
            · refine lv_iload (pc := 64) hx hb dX11_bands_64 (lv_at hl 3 rfl) ?_
              refine lv_iconst (pc := 66) (v := 1) hx hb dX11_bands_66 (by decide) ?_
              refine lv_isub (pc := 67) hx hb dX11_bands_67 ?_
              refine lv_goto (pc := 68) (tgt := 73) hx hb dX11_bands_68 (by decide) ?_
              exact J73 (v4 - 1) _ _ _ hf rfl hS (lv_sub hl [1, 2, 0] rfl)
          refine q_if_ne (pc := 43) (tgt := 50) hx hb dX11_bands_43 (by decide) rfl hf (fun hf => ?_) (fun hf => ?_)
          · refine lv_iload (pc := 50) hx hb dX11_bands_50 (lv_at hl 1 rfl) ?_
            exact J52 v3 _ _ _ hf rfl hS (lv_sub hl [2, 3, 0] rfl)
          · refine lv_iconst (pc := 46) (v := 1) hx hb dX11_bands_46 (by decide) ?_
            refine lv_goto (pc := 47) (tgt := 52) hx hb dX11_bands_47 (by decide) ?_
            exact J52 1 _ _ _ hf rfl hS (lv_sub hl [2, 3, 0] rfl)
        · refine lv_iconst (pc := 23) (v := (-1)) hx hb dX11_bands_23 (by decide) ?_
          obtain rfl := Option.some.inj hf
          rw [hQ]
          exact q_iretr (pc := 24) hx hb hr hlocks rfl hS dX11_bands_24
  exact hgo _ _ rfl hP hS
/-! X11_digitsInto -/
set_option maxRecDepth 100000 in
set_option maxHeartbeats 4000000 in
theorem c_M_digitsInto (l : Launch) (D : va_G) (ci : Nat → ClassId) (A : Nat → Prop) (sa : Nat → Nat) (N : Nat) (Rw : va_W) (a_m : Nat) (a_m_cutRows : Nat) (a_m_cutColumns : Nat) (a_m_deep : Nat) (a_m_wide : Nat) (a_m_zonesAhead : Nat) (a_m_nameOne : Nat) (a_x_one : Nat) (a_m_nameOther : Nat) (a_m_tape : Nat) (a_m_edges : Nat) (a_m_dist : Nat) (a_m_queue : Nat) (a_m_pieceLevel : Nat) (a_m_pieceKey : Nat) (a_m_pieceYear : Nat) (a_m_drawnKeys : Nat) (a_m_kept : Nat) (a_m_noNumbers : Nat) (m_taped : Int32) (m_place : Int32) (m_fault : Int32) (m_number : Int32) (m_levelRead : Int32) (m_keyRead : Int32) (m_reads : Int32) (m_faults : Int32) (m_cutShort : Int32) (m_noNumber : Int32) (m_bottomLat : Int64) (m_bottomLon : Int64) (m_firstBeside : Int32) (m_manyBeside : Int32) (m_queued : Int32) (m_boxLevel : Int32) (m_boxTop : Int32) (m_boxBottom : Int32) (m_boxWest : Int32) (m_boxEast : Int32) (m_isEarly : Int32) (m_pieces : Int32) (m_states : Int32) (m_drawnNow : Int32) (m_keptAt : Int32) (m_nameOne : Nat → Int32) (p2 : Int32) (p3 : Int32) (r : Int32) (o1 : Nat → Int32) (hf : f_M_digitsInto m_nameOne p2 p3 = some (r, o1)) : Met l yX11_digitsInto wsX11_digitsInto ({ frames := 0, cells := 0, slots := 0, locals := 0 }) (va_Pc [.ref a_m, .ref a_m_nameOne, .int p2, .int p3] (q_N D ci A sa ((a_m, .inr (11, (.ref a_m_cutRows :: .ref a_m_cutColumns :: .ref a_m_deep :: .ref a_m_wide :: .ref a_m_zonesAhead :: .ref a_x_one :: .ref a_m_nameOther :: .ref a_m_tape :: .int m_taped :: .int m_place :: .int m_fault :: .int m_number :: .int m_levelRead :: .int m_keyRead :: .int m_reads :: .int m_faults :: .int m_cutShort :: .int m_noNumber :: .long m_bottomLat :: .long m_bottomLon :: .ref a_m_edges :: .int m_firstBeside :: .int m_manyBeside :: .ref a_m_dist :: .ref a_m_queue :: .int m_queued :: .int m_boxLevel :: .int m_boxTop :: .int m_boxBottom :: .int m_boxWest :: .int m_boxEast :: .int m_isEarly :: .int m_pieces :: .int m_states :: .ref a_m_pieceLevel :: .ref a_m_pieceKey :: .ref a_m_pieceYear :: .int m_drawnNow :: .ref a_m_drawnKeys :: .ref a_m_kept :: .int m_keptAt :: .ref a_m_noNumbers :: []))) :: (a_m_nameOne, .inl (ci 0, 20, .inl m_nameOne)) :: Rw))) (q_Q (some (.int r)) (q_O D A ((a_m, .inr (11, (.ref a_m_cutRows :: .ref a_m_cutColumns :: .ref a_m_deep :: .ref a_m_wide :: .ref a_m_zonesAhead :: .ref a_x_one :: .ref a_m_nameOther :: .ref a_m_tape :: .int m_taped :: .int m_place :: .int m_fault :: .int m_number :: .int m_levelRead :: .int m_keyRead :: .int m_reads :: .int m_faults :: .int m_cutShort :: .int m_noNumber :: .long m_bottomLat :: .long m_bottomLon :: .ref a_m_edges :: .int m_firstBeside :: .int m_manyBeside :: .ref a_m_dist :: .ref a_m_queue :: .int m_queued :: .int m_boxLevel :: .int m_boxTop :: .int m_boxBottom :: .int m_boxWest :: .int m_boxEast :: .int m_isEarly :: .int m_pieces :: .int m_states :: .ref a_m_pieceLevel :: .ref a_m_pieceKey :: .ref a_m_pieceYear :: .int m_drawnNow :: .ref a_m_drawnKeys :: .ref a_m_kept :: .int m_keptAt :: .ref a_m_noNumbers :: []))) :: (a_m_nameOne, .inl (ci 0, 20, .inl o1)) :: Rw)) A) 0 0 A := by
  refine q_ofW (cc := cX11_digitsInto) (maxL := 5) (ret := (some .int)) [.ref a_m, .ref a_m_nameOne, .int p2, .int p3] (plainFor_of_name (by decide)) rfl (Nat.le_of_ble_eq_true rfl) ?_
  intro p e s m below meth c ls Q hQ hx hb hml hr hts hown hlocks hK hA hZ hP hD hS hl
  have hl : lv_has ls 5 [(0, .ref a_m), (1, .ref a_m_nameOne), (2, .int p2), (3, .int p3)] := hl
  have hown : s.vm.findClass RX11 = some m.cls := hown
  unfold f_M_digitsInto at hf
  have hgo : ∀ (H : Heap) (locs : List Loc), H = s.heap → va_P D vwCl ((a_m, .inr (11, (.ref a_m_cutRows :: .ref a_m_cutColumns :: .ref a_m_deep :: .ref a_m_wide :: .ref a_m_zonesAhead :: .ref a_x_one :: .ref a_m_nameOther :: .ref a_m_tape :: .int m_taped :: .int m_place :: .int m_fault :: .int m_number :: .int m_levelRead :: .int m_keyRead :: .int m_reads :: .int m_faults :: .int m_cutShort :: .int m_noNumber :: .long m_bottomLat :: .long m_bottomLon :: .ref a_m_edges :: .int m_firstBeside :: .int m_manyBeside :: .ref a_m_dist :: .ref a_m_queue :: .int m_queued :: .int m_boxLevel :: .int m_boxTop :: .int m_boxBottom :: .int m_boxWest :: .int m_boxEast :: .int m_isEarly :: .int m_pieces :: .int m_states :: .ref a_m_pieceLevel :: .ref a_m_pieceKey :: .ref a_m_pieceYear :: .int m_drawnNow :: .ref a_m_drawnKeys :: .ref a_m_kept :: .int m_keptAt :: .ref a_m_noNumbers :: []))) :: (a_m_nameOne, .inl (ci 0, 20, .inl m_nameOne)) :: Rw) H → va_S A s.heap H locs → W p l e ({ frames := 0, cells := 0, slots := 0, locals := 0 } : Room) s m ([.ref a_m, .ref a_m_nameOne, .int p2, .int p3] : List Value).toArray below meth c H locs 0 0 Q (F0 m 0 ls []) := by
    intro H locs hH hP hS
    refine lv_iload_n (pc := 0) hx hb dX11_digitsInto_0 rfl (lv_at hl 2 rfl) ?_
    refine lv_istore (pc := 1) (lv' := [(4, .int p2), (0, .ref a_m), (1, .ref a_m_nameOne), (2, .int p2), (3, .int p3)]) hx hb dX11_digitsInto_1 hl (by decide) rfl (fun ls hl => ?_)
    refine lv_iload_n (pc := 3) hx hb dX11_digitsInto_3 rfl (lv_at hl 4 rfl) ?_
    refine lv_bipush (pc := 4) (v := 9) hx hb dX11_digitsInto_4 (by decide) ?_
    obtain ⟨k26, ek26, hf⟩ := q_j2_e hf
    have J26 : ∀ (v1 : Int32) (f2 : Nat → Int32) (H : Heap) (locs : List Loc) (ls : Array Slot), k26 v1 f2 = some (r, o1) → va_P D vwCl ((a_m, .inr (11, (.ref a_m_cutRows :: .ref a_m_cutColumns :: .ref a_m_deep :: .ref a_m_wide :: .ref a_m_zonesAhead :: .ref a_x_one :: .ref a_m_nameOther :: .ref a_m_tape :: .int m_taped :: .int m_place :: .int m_fault :: .int m_number :: .int m_levelRead :: .int m_keyRead :: .int m_reads :: .int m_faults :: .int m_cutShort :: .int m_noNumber :: .long m_bottomLat :: .long m_bottomLon :: .ref a_m_edges :: .int m_firstBeside :: .int m_manyBeside :: .ref a_m_dist :: .ref a_m_queue :: .int m_queued :: .int m_boxLevel :: .int m_boxTop :: .int m_boxBottom :: .int m_boxWest :: .int m_boxEast :: .int m_isEarly :: .int m_pieces :: .int m_states :: .ref a_m_pieceLevel :: .ref a_m_pieceKey :: .ref a_m_pieceYear :: .int m_drawnNow :: .ref a_m_drawnKeys :: .ref a_m_kept :: .int m_keptAt :: .ref a_m_noNumbers :: []))) :: (a_m_nameOne, .inl (ci 0, 20, .inl f2)) :: Rw) H → va_D A ((a_m, .inr (11, (.ref a_m_cutRows :: .ref a_m_cutColumns :: .ref a_m_deep :: .ref a_m_wide :: .ref a_m_zonesAhead :: .ref a_x_one :: .ref a_m_nameOther :: .ref a_m_tape :: .int m_taped :: .int m_place :: .int m_fault :: .int m_number :: .int m_levelRead :: .int m_keyRead :: .int m_reads :: .int m_faults :: .int m_cutShort :: .int m_noNumber :: .long m_bottomLat :: .long m_bottomLon :: .ref a_m_edges :: .int m_firstBeside :: .int m_manyBeside :: .ref a_m_dist :: .ref a_m_queue :: .int m_queued :: .int m_boxLevel :: .int m_boxTop :: .int m_boxBottom :: .int m_boxWest :: .int m_boxEast :: .int m_isEarly :: .int m_pieces :: .int m_states :: .ref a_m_pieceLevel :: .ref a_m_pieceKey :: .ref a_m_pieceYear :: .int m_drawnNow :: .ref a_m_drawnKeys :: .ref a_m_kept :: .int m_keptAt :: .ref a_m_noNumbers :: []))) :: (a_m_nameOne, .inl (ci 0, 20, .inl f2)) :: Rw) → va_S A s.heap H locs → lv_has ls 5 [(1, .ref a_m_nameOne), (3, .int p3), (4, .int v1)] → W p l e ({ frames := 0, cells := 0, slots := 0, locals := 0 } : Room) s m ([.ref a_m, .ref a_m_nameOne, .int p2, .int p3] : List Value).toArray below meth c H locs 0 0 Q (F0 m 26 ls []) := by
      intro v1 f2 H locs ls hf hP hD hS hl
      have hf := (ek26 v1 f2).symm.trans hf
      refine lv_aload_n (pc := 26) hx hb dX11_digitsInto_26 rfl (lv_at hl 0 rfl) ?_
      refine lv_iload (pc := 27) hx hb dX11_digitsInto_27 (lv_at hl 2 rfl) ?_
      refine lv_bipush (pc := 29) (v := 48) hx hb dX11_digitsInto_29 (by decide) ?_
      refine lv_iload_n (pc := 31) hx hb dX11_digitsInto_31 rfl (lv_at hl 1 rfl) ?_
      refine lv_bipush (pc := 32) (v := 10) hx hb dX11_digitsInto_32 (by decide) ?_
      refine q_irem (pc := 34) hx hb dX11_digitsInto_34 hf (fun v3 hf => ?_)
      refine lv_iadd (pc := 35) hx hb dX11_digitsInto_35 ?_
      refine q_iast (pc := 36) hx hb hK hP hD hS 1 0 hf rfl rfl dX11_digitsInto_36 (fun f4 H locs hf hP hD hS => ?_)
      obtain ⟨hP, hD⟩ : va_PD D A ((a_m, .inr (11, (.ref a_m_cutRows :: .ref a_m_cutColumns :: .ref a_m_deep :: .ref a_m_wide :: .ref a_m_zonesAhead :: .ref a_x_one :: .ref a_m_nameOther :: .ref a_m_tape :: .int m_taped :: .int m_place :: .int m_fault :: .int m_number :: .int m_levelRead :: .int m_keyRead :: .int m_reads :: .int m_faults :: .int m_cutShort :: .int m_noNumber :: .long m_bottomLat :: .long m_bottomLon :: .ref a_m_edges :: .int m_firstBeside :: .int m_manyBeside :: .ref a_m_dist :: .ref a_m_queue :: .int m_queued :: .int m_boxLevel :: .int m_boxTop :: .int m_boxBottom :: .int m_boxWest :: .int m_boxEast :: .int m_isEarly :: .int m_pieces :: .int m_states :: .ref a_m_pieceLevel :: .ref a_m_pieceKey :: .ref a_m_pieceYear :: .int m_drawnNow :: .ref a_m_drawnKeys :: .ref a_m_kept :: .int m_keptAt :: .ref a_m_noNumbers :: []))) :: (a_m_nameOne, .inl (ci 0, 20, .inl f4)) :: Rw) H := ⟨hP, hD⟩
      refine lv_iload (pc := 37) hx hb dX11_digitsInto_37 (lv_at hl 2 rfl) ?_
      refine lv_iconst (pc := 39) (v := 1) hx hb dX11_digitsInto_39 (by decide) ?_
      refine lv_iadd (pc := 40) hx hb dX11_digitsInto_40 ?_
      obtain ⟨rfl, rfl⟩ := q_inj2 (Option.some.inj hf)
      rw [hQ]
      exact q_iret (pc := 41) hx hb hr hlocks hP hD hS dX11_digitsInto_41
    refine q_icmp_le (pc := 6) (tgt := 26) hx hb dX11_digitsInto_6 (by decide) rfl hf (fun hf => ?_) (fun hf => ?_)
    · exact J26 p2 m_nameOne _ _ _ hf hP hD hS (lv_sub hl [2, 4, 0] rfl)
    · refine lv_aload_n (pc := 9) hx hb dX11_digitsInto_9 rfl (lv_at hl 2 rfl) ?_
      refine lv_iload (pc := 10) hx hb dX11_digitsInto_10 (lv_at hl 0 rfl) ?_
      refine lv_bipush (pc := 12) (v := 48) hx hb dX11_digitsInto_12 (by decide) ?_
      refine lv_iload_n (pc := 14) hx hb dX11_digitsInto_14 rfl (lv_at hl 4 rfl) ?_
      refine lv_bipush (pc := 15) (v := 10) hx hb dX11_digitsInto_15 (by decide) ?_
      refine q_idiv (pc := 17) hx hb dX11_digitsInto_17 hf (fun v5 hf => ?_)
      refine lv_iadd (pc := 18) hx hb dX11_digitsInto_18 ?_
      refine q_iast (pc := 19) hx hb hK hP hD hS 1 0 hf rfl rfl dX11_digitsInto_19 (fun f6 H locs hf hP hD hS => ?_)
      obtain ⟨hP, hD⟩ : va_PD D A ((a_m, .inr (11, (.ref a_m_cutRows :: .ref a_m_cutColumns :: .ref a_m_deep :: .ref a_m_wide :: .ref a_m_zonesAhead :: .ref a_x_one :: .ref a_m_nameOther :: .ref a_m_tape :: .int m_taped :: .int m_place :: .int m_fault :: .int m_number :: .int m_levelRead :: .int m_keyRead :: .int m_reads :: .int m_faults :: .int m_cutShort :: .int m_noNumber :: .long m_bottomLat :: .long m_bottomLon :: .ref a_m_edges :: .int m_firstBeside :: .int m_manyBeside :: .ref a_m_dist :: .ref a_m_queue :: .int m_queued :: .int m_boxLevel :: .int m_boxTop :: .int m_boxBottom :: .int m_boxWest :: .int m_boxEast :: .int m_isEarly :: .int m_pieces :: .int m_states :: .ref a_m_pieceLevel :: .ref a_m_pieceKey :: .ref a_m_pieceYear :: .int m_drawnNow :: .ref a_m_drawnKeys :: .ref a_m_kept :: .int m_keptAt :: .ref a_m_noNumbers :: []))) :: (a_m_nameOne, .inl (ci 0, 20, .inl f6)) :: Rw) H := ⟨hP, hD⟩
      refine lv_iload (pc := 20) hx hb dX11_digitsInto_20 (lv_at hl 0 rfl) ?_
      refine lv_iconst (pc := 22) (v := 1) hx hb dX11_digitsInto_22 (by decide) ?_
      refine lv_iadd (pc := 23) hx hb dX11_digitsInto_23 ?_
      obtain ⟨v7, ev7, hf⟩ := q_nm_e hf
      refine q_topi ev7 ?_
      refine lv_istore (pc := 24) (lv' := [(4, .int v7), (0, .ref a_m), (1, .ref a_m_nameOne), (2, .int p2), (3, .int p3)]) hx hb dX11_digitsInto_24 hl (by decide) rfl (fun ls hl => ?_)
      exact J26 v7 f6 _ _ _ hf hP hD hS (lv_sub hl [2, 4, 0] rfl)
  exact hgo _ _ rfl hP hS
/-! X11_spells -/
set_option maxRecDepth 100000 in
set_option maxHeartbeats 4000000 in
theorem c_M_spells (l : Launch) (D : va_G) (ci : Nat → ClassId) (A : Nat → Prop) (sa : Nat → Nat) (N : Nat) (Rw : va_W) (a_m : Nat) (a_m_cutRows : Nat) (a_m_cutColumns : Nat) (a_m_deep : Nat) (a_m_wide : Nat) (a_m_zonesAhead : Nat) (a_m_nameOne : Nat) (a_x_one : Nat) (a_m_nameOther : Nat) (a_m_tape : Nat) (a_m_edges : Nat) (a_m_dist : Nat) (a_m_queue : Nat) (a_m_pieceLevel : Nat) (a_m_pieceKey : Nat) (a_m_pieceYear : Nat) (a_m_drawnKeys : Nat) (a_m_kept : Nat) (a_m_noNumbers : Nat) (m_taped : Int32) (m_place : Int32) (m_fault : Int32) (m_number : Int32) (m_levelRead : Int32) (m_keyRead : Int32) (m_reads : Int32) (m_faults : Int32) (m_cutShort : Int32) (m_noNumber : Int32) (m_bottomLat : Int64) (m_bottomLon : Int64) (m_firstBeside : Int32) (m_manyBeside : Int32) (m_queued : Int32) (m_boxLevel : Int32) (m_boxTop : Int32) (m_boxBottom : Int32) (m_boxWest : Int32) (m_boxEast : Int32) (m_isEarly : Int32) (m_pieces : Int32) (m_states : Int32) (m_drawnNow : Int32) (m_keptAt : Int32) (m_cutRows : Nat → Int32) (m_cutColumns : Nat → Int32) (m_deep : Nat → Int32) (m_wide : Nat → Int32) (m_zonesAhead : Nat → Int32) (m_nameOne : Nat → Int32) (p1 : Int32) (p2 : Int32) (r : Int32) (o1 : Nat → Int32) (hf : f_M_spells N m_cutRows m_cutColumns m_deep m_wide m_zonesAhead m_nameOne p1 p2 = some (r, o1)) : Met l yX11_spells wsX11_spells ({ frames := 4, cells := 0, slots := 0, locals := 88 }) (va_Pc [.ref a_m, .int p1, .int p2, .ref a_m_nameOne] (q_N D ci A sa ((a_m, .inr (11, (.ref a_m_cutRows :: .ref a_m_cutColumns :: .ref a_m_deep :: .ref a_m_wide :: .ref a_m_zonesAhead :: .ref a_x_one :: .ref a_m_nameOther :: .ref a_m_tape :: .int m_taped :: .int m_place :: .int m_fault :: .int m_number :: .int m_levelRead :: .int m_keyRead :: .int m_reads :: .int m_faults :: .int m_cutShort :: .int m_noNumber :: .long m_bottomLat :: .long m_bottomLon :: .ref a_m_edges :: .int m_firstBeside :: .int m_manyBeside :: .ref a_m_dist :: .ref a_m_queue :: .int m_queued :: .int m_boxLevel :: .int m_boxTop :: .int m_boxBottom :: .int m_boxWest :: .int m_boxEast :: .int m_isEarly :: .int m_pieces :: .int m_states :: .ref a_m_pieceLevel :: .ref a_m_pieceKey :: .ref a_m_pieceYear :: .int m_drawnNow :: .ref a_m_drawnKeys :: .ref a_m_kept :: .int m_keptAt :: .ref a_m_noNumbers :: []))) :: (a_m_cutRows, .inl (ci 0, 5, .inl m_cutRows)) :: (a_m_cutColumns, .inl (ci 0, 5, .inl m_cutColumns)) :: (a_m_deep, .inl (ci 0, 5, .inl m_deep)) :: (a_m_wide, .inl (ci 0, 5, .inl m_wide)) :: (a_m_zonesAhead, .inl (ci 0, 45, .inl m_zonesAhead)) :: (a_m_nameOne, .inl (ci 0, 20, .inl m_nameOne)) :: Rw))) (q_Q (some (.int r)) (q_O D A ((a_m, .inr (11, (.ref a_m_cutRows :: .ref a_m_cutColumns :: .ref a_m_deep :: .ref a_m_wide :: .ref a_m_zonesAhead :: .ref a_x_one :: .ref a_m_nameOther :: .ref a_m_tape :: .int m_taped :: .int m_place :: .int m_fault :: .int m_number :: .int m_levelRead :: .int m_keyRead :: .int m_reads :: .int m_faults :: .int m_cutShort :: .int m_noNumber :: .long m_bottomLat :: .long m_bottomLon :: .ref a_m_edges :: .int m_firstBeside :: .int m_manyBeside :: .ref a_m_dist :: .ref a_m_queue :: .int m_queued :: .int m_boxLevel :: .int m_boxTop :: .int m_boxBottom :: .int m_boxWest :: .int m_boxEast :: .int m_isEarly :: .int m_pieces :: .int m_states :: .ref a_m_pieceLevel :: .ref a_m_pieceKey :: .ref a_m_pieceYear :: .int m_drawnNow :: .ref a_m_drawnKeys :: .ref a_m_kept :: .int m_keptAt :: .ref a_m_noNumbers :: []))) :: (a_m_cutRows, .inl (ci 0, 5, .inl m_cutRows)) :: (a_m_cutColumns, .inl (ci 0, 5, .inl m_cutColumns)) :: (a_m_deep, .inl (ci 0, 5, .inl m_deep)) :: (a_m_wide, .inl (ci 0, 5, .inl m_wide)) :: (a_m_zonesAhead, .inl (ci 0, 45, .inl m_zonesAhead)) :: (a_m_nameOne, .inl (ci 0, 20, .inl o1)) :: Rw)) A) 0 0 A := by
  refine q_ofW (cc := cX11_spells) (maxL := 10) (ret := (some .int)) [.ref a_m, .int p1, .int p2, .ref a_m_nameOne] (plainFor_of_name (by decide)) rfl (Nat.le_of_ble_eq_true rfl) ?_
  intro p e s m below meth c ls Q hQ hx hb hml hr hts hown hlocks hK hA hZ hP hD hS hl
  have hl : lv_has ls 10 [(0, .ref a_m), (1, .int p1), (2, .int p2), (3, .ref a_m_nameOne)] := hl
  have hown : s.vm.findClass RX11 = some m.cls := hown
  have hinX11 : ∀ w ∈ wsX110, w ∈ wsX11_spells := fun _ h => List.mem_cons_of_mem _ (inWX110 _ h)
  have w_1 := hts (Cond.fieldLink RX11 19 "SheetNamesModel" "wide" "[I") (List.mem_cons_of_mem _ t_w909)
  have w_2 := hts (Cond.fieldLink RX11 16 "SheetNamesModel" "deep" "[I") (List.mem_cons_of_mem _ t_w908)
  unfold f_M_spells at hf
  have hgo : ∀ (H : Heap) (locs : List Loc), H = s.heap → va_P D vwCl ((a_m, .inr (11, (.ref a_m_cutRows :: .ref a_m_cutColumns :: .ref a_m_deep :: .ref a_m_wide :: .ref a_m_zonesAhead :: .ref a_x_one :: .ref a_m_nameOther :: .ref a_m_tape :: .int m_taped :: .int m_place :: .int m_fault :: .int m_number :: .int m_levelRead :: .int m_keyRead :: .int m_reads :: .int m_faults :: .int m_cutShort :: .int m_noNumber :: .long m_bottomLat :: .long m_bottomLon :: .ref a_m_edges :: .int m_firstBeside :: .int m_manyBeside :: .ref a_m_dist :: .ref a_m_queue :: .int m_queued :: .int m_boxLevel :: .int m_boxTop :: .int m_boxBottom :: .int m_boxWest :: .int m_boxEast :: .int m_isEarly :: .int m_pieces :: .int m_states :: .ref a_m_pieceLevel :: .ref a_m_pieceKey :: .ref a_m_pieceYear :: .int m_drawnNow :: .ref a_m_drawnKeys :: .ref a_m_kept :: .int m_keptAt :: .ref a_m_noNumbers :: []))) :: (a_m_cutRows, .inl (ci 0, 5, .inl m_cutRows)) :: (a_m_cutColumns, .inl (ci 0, 5, .inl m_cutColumns)) :: (a_m_deep, .inl (ci 0, 5, .inl m_deep)) :: (a_m_wide, .inl (ci 0, 5, .inl m_wide)) :: (a_m_zonesAhead, .inl (ci 0, 45, .inl m_zonesAhead)) :: (a_m_nameOne, .inl (ci 0, 20, .inl m_nameOne)) :: Rw) H → va_S A s.heap H locs → W p l e ({ frames := 4, cells := 0, slots := 0, locals := 88 } : Room) s m ([.ref a_m, .int p1, .int p2, .ref a_m_nameOne] : List Value).toArray below meth c H locs 0 0 Q (F0 m 0 ls []) := by
    intro H locs hH hP hS
    refine lv_aload_n (pc := 0) hx hb dX11_spells_0 rfl (lv_at hl 0 rfl) ?_
    refine lv_iload_n (pc := 1) hx hb dX11_spells_1 rfl (lv_at hl 1 rfl) ?_
    refine lv_iload_n (pc := 2) hx hb dX11_spells_2 rfl (lv_at hl 2 rfl) ?_
    obtain ⟨v1, hm3, hf⟩ := q_b1_e hf
    refine q_cVr (pc := 3) (As := [.int p1, .int p2]) (rest := []) (v0 := (some (.int v1))) ⟨hx, hb, hml, hown, hts⟩ hK hA hZ hP hD hS hl.1 [0, 3, 4, 5] 7 rfl ⟨rfl, rfl, rfl⟩ (c_M_isCap l D ci A sa N (Rw) a_m a_m_cutRows a_m_cutColumns a_m_deep a_m_wide a_m_zonesAhead a_x_one a_m_nameOther a_m_tape a_m_edges a_m_dist a_m_queue a_m_pieceLevel a_m_pieceKey a_m_pieceYear a_m_drawnKeys a_m_kept a_m_noNumbers m_taped m_place m_fault m_number m_levelRead m_keyRead m_reads m_faults m_cutShort m_noNumber m_bottomLat m_bottomLon m_firstBeside m_manyBeside m_queued m_boxLevel m_boxTop m_boxBottom m_boxWest m_boxEast m_isEarly m_pieces m_states m_drawnNow m_keptAt m_deep m_wide m_zonesAhead p1 p2 v1 hm3) 0 rfl rfl (cwV 2 hts gX11_spells_X11_isCap rfl rfl rfl (by decide +kernel) ⟨Nat.le_of_ble_eq_true rfl, Nat.le_of_ble_eq_true rfl⟩) rfl rfl (Nat.le_of_ble_eq_true rfl) dX11_spells_3 ⟨Nat.zero_le _, Nat.zero_le _⟩ (fun locs hS => ?_)
    refine q_if_eq (pc := 6) (tgt := 30) hx hb dX11_spells_6 (by decide) rfl hf (fun hf => ?_) (fun hf => ?_)
    · refine lv_aload_n (pc := 30) hx hb dX11_spells_30 rfl (lv_at hl 0 rfl) ?_
      refine lv_iload_n (pc := 31) hx hb dX11_spells_31 rfl (lv_at hl 1 rfl) ?_
      refine lv_iload_n (pc := 32) hx hb dX11_spells_32 rfl (lv_at hl 2 rfl) ?_
      obtain ⟨v2, hm33, hf⟩ := q_b1_e hf
      refine q_cVr (pc := 33) (As := [.int p1, .int p2]) (rest := []) (v0 := (some (.int v2))) ⟨hx, hb, hml, hown, hts⟩ hK hA hZ hP hD hS hl.1 [0, 3, 4, 5] 7 rfl ⟨rfl, rfl, rfl⟩ (c_M_rowOf l D ci A sa N (Rw) a_m a_m_cutRows a_m_cutColumns a_m_deep a_m_wide a_m_zonesAhead a_x_one a_m_nameOther a_m_tape a_m_edges a_m_dist a_m_queue a_m_pieceLevel a_m_pieceKey a_m_pieceYear a_m_drawnKeys a_m_kept a_m_noNumbers m_taped m_place m_fault m_number m_levelRead m_keyRead m_reads m_faults m_cutShort m_noNumber m_bottomLat m_bottomLon m_firstBeside m_manyBeside m_queued m_boxLevel m_boxTop m_boxBottom m_boxWest m_boxEast m_isEarly m_pieces m_states m_drawnNow m_keptAt m_deep m_wide m_zonesAhead p1 p2 v2 hm33) 0 rfl rfl (cwV 2 hts gX11_spells_X11_rowOf rfl rfl rfl (by decide +kernel) ⟨Nat.le_of_ble_eq_true rfl, Nat.le_of_ble_eq_true rfl⟩) rfl rfl (Nat.le_of_ble_eq_true rfl) dX11_spells_33 ⟨Nat.zero_le _, Nat.zero_le _⟩ (fun locs hS => ?_)
      refine lv_istore (pc := 36) (lv' := [(4, .int v2), (0, .ref a_m), (1, .int p1), (2, .int p2), (3, .ref a_m_nameOne)]) hx hb dX11_spells_36 hl (by decide) rfl (fun ls hl => ?_)
      refine lv_aload_n (pc := 38) hx hb dX11_spells_38 rfl (lv_at hl 1 rfl) ?_
      refine lv_iload_n (pc := 39) hx hb dX11_spells_39 rfl (lv_at hl 2 rfl) ?_
      refine lv_iload_n (pc := 40) hx hb dX11_spells_40 rfl (lv_at hl 3 rfl) ?_
      obtain ⟨v3, hm41, hf⟩ := q_b1_e hf
      refine q_cVr (pc := 41) (As := [.int p1, .int p2]) (rest := []) (v0 := (some (.int v3))) ⟨hx, hb, hml, hown, hts⟩ hK hA hZ hP hD hS hl.1 [0, 3, 4, 5] 7 rfl ⟨rfl, rfl, rfl⟩ (c_M_placeOf l D ci A sa N (Rw) a_m a_m_cutRows a_m_cutColumns a_m_deep a_m_wide a_m_zonesAhead a_x_one a_m_nameOther a_m_tape a_m_edges a_m_dist a_m_queue a_m_pieceLevel a_m_pieceKey a_m_pieceYear a_m_drawnKeys a_m_kept a_m_noNumbers m_taped m_place m_fault m_number m_levelRead m_keyRead m_reads m_faults m_cutShort m_noNumber m_bottomLat m_bottomLon m_firstBeside m_manyBeside m_queued m_boxLevel m_boxTop m_boxBottom m_boxWest m_boxEast m_isEarly m_pieces m_states m_drawnNow m_keptAt m_deep m_wide m_zonesAhead p1 p2 v3 hm41) 0 rfl rfl (cwV 2 hts gX11_spells_X11_placeOf rfl rfl rfl (by decide +kernel) ⟨Nat.le_of_ble_eq_true rfl, Nat.le_of_ble_eq_true rfl⟩) rfl rfl (Nat.le_of_ble_eq_true rfl) dX11_spells_41 ⟨Nat.zero_le _, Nat.zero_le _⟩ (fun locs hS => ?_)
      refine lv_istore (pc := 44) (lv' := [(5, .int v3), (4, .int v2), (0, .ref a_m), (1, .int p1), (2, .int p2), (3, .ref a_m_nameOne)]) hx hb dX11_spells_44 hl (by decide) rfl (fun ls hl => ?_)
      refine lv_aload_n (pc := 46) hx hb dX11_spells_46 rfl (lv_at hl 2 rfl) ?_
      refine lv_iload_n (pc := 47) hx hb dX11_spells_47 rfl (lv_at hl 3 rfl) ?_
      refine lv_iload (pc := 48) hx hb dX11_spells_48 (lv_at hl 1 rfl) ?_
      obtain ⟨v4, hm50, hf⟩ := q_b1_e hf
      refine q_cVr (pc := 50) (As := [.int p1, .int v2]) (rest := []) (v0 := (some (.int v4))) ⟨hx, hb, hml, hown, hts⟩ hK hA hZ hP hD hS hl.1 [0, 3] 7 rfl ⟨rfl, rfl, rfl⟩ (c_M_bandOf l D ci A sa N (Rw) a_m a_m_cutRows a_m_cutColumns a_m_deep a_m_wide a_m_zonesAhead a_x_one a_m_nameOther a_m_tape a_m_edges a_m_dist a_m_queue a_m_pieceLevel a_m_pieceKey a_m_pieceYear a_m_drawnKeys a_m_kept a_m_noNumbers m_taped m_place m_fault m_number m_levelRead m_keyRead m_reads m_faults m_cutShort m_noNumber m_bottomLat m_bottomLon m_firstBeside m_manyBeside m_queued m_boxLevel m_boxTop m_boxBottom m_boxWest m_boxEast m_isEarly m_pieces m_states m_drawnNow m_keptAt m_deep p1 v2 v4 hm50) 0 rfl rfl (cwV 2 hts gX11_spells_X11_bandOf rfl rfl rfl (by decide +kernel) ⟨Nat.le_of_ble_eq_true rfl, Nat.le_of_ble_eq_true rfl⟩) rfl rfl (Nat.le_of_ble_eq_true rfl) dX11_spells_50 ⟨Nat.zero_le _, Nat.zero_le _⟩ (fun locs hS => ?_)
      refine lv_istore (pc := 53) (lv' := [(6, .int v4), (5, .int v3), (4, .int v2), (0, .ref a_m), (1, .int p1), (2, .int p2), (3, .ref a_m_nameOne)]) hx hb dX11_spells_53 hl (by decide) rfl (fun ls hl => ?_)
      refine lv_aload_n (pc := 55) hx hb dX11_spells_55 rfl (lv_at hl 6 rfl) ?_
      refine lv_iconst (pc := 56) (v := 0) hx hb dX11_spells_56 (by decide) ?_
      refine lv_iload (pc := 57) hx hb dX11_spells_57 (lv_at hl 0 rfl) ?_
      refine lv_bipush (pc := 59) (v := 22) hx hb dX11_spells_59 (by decide) ?_
      obtain ⟨k71, ek71, hf⟩ := q_j1_e hf
      have J71 : ∀ (v5 : Int32) (H : Heap) (locs : List Loc) (ls : Array Slot), k71 v5 = some (r, o1) → va_P D vwCl ((a_m, .inr (11, (.ref a_m_cutRows :: .ref a_m_cutColumns :: .ref a_m_deep :: .ref a_m_wide :: .ref a_m_zonesAhead :: .ref a_x_one :: .ref a_m_nameOther :: .ref a_m_tape :: .int m_taped :: .int m_place :: .int m_fault :: .int m_number :: .int m_levelRead :: .int m_keyRead :: .int m_reads :: .int m_faults :: .int m_cutShort :: .int m_noNumber :: .long m_bottomLat :: .long m_bottomLon :: .ref a_m_edges :: .int m_firstBeside :: .int m_manyBeside :: .ref a_m_dist :: .ref a_m_queue :: .int m_queued :: .int m_boxLevel :: .int m_boxTop :: .int m_boxBottom :: .int m_boxWest :: .int m_boxEast :: .int m_isEarly :: .int m_pieces :: .int m_states :: .ref a_m_pieceLevel :: .ref a_m_pieceKey :: .ref a_m_pieceYear :: .int m_drawnNow :: .ref a_m_drawnKeys :: .ref a_m_kept :: .int m_keptAt :: .ref a_m_noNumbers :: []))) :: (a_m_cutRows, .inl (ci 0, 5, .inl m_cutRows)) :: (a_m_cutColumns, .inl (ci 0, 5, .inl m_cutColumns)) :: (a_m_deep, .inl (ci 0, 5, .inl m_deep)) :: (a_m_wide, .inl (ci 0, 5, .inl m_wide)) :: (a_m_zonesAhead, .inl (ci 0, 45, .inl m_zonesAhead)) :: (a_m_nameOne, .inl (ci 0, 20, .inl m_nameOne)) :: Rw) H → va_D A ((a_m, .inr (11, (.ref a_m_cutRows :: .ref a_m_cutColumns :: .ref a_m_deep :: .ref a_m_wide :: .ref a_m_zonesAhead :: .ref a_x_one :: .ref a_m_nameOther :: .ref a_m_tape :: .int m_taped :: .int m_place :: .int m_fault :: .int m_number :: .int m_levelRead :: .int m_keyRead :: .int m_reads :: .int m_faults :: .int m_cutShort :: .int m_noNumber :: .long m_bottomLat :: .long m_bottomLon :: .ref a_m_edges :: .int m_firstBeside :: .int m_manyBeside :: .ref a_m_dist :: .ref a_m_queue :: .int m_queued :: .int m_boxLevel :: .int m_boxTop :: .int m_boxBottom :: .int m_boxWest :: .int m_boxEast :: .int m_isEarly :: .int m_pieces :: .int m_states :: .ref a_m_pieceLevel :: .ref a_m_pieceKey :: .ref a_m_pieceYear :: .int m_drawnNow :: .ref a_m_drawnKeys :: .ref a_m_kept :: .int m_keptAt :: .ref a_m_noNumbers :: []))) :: (a_m_cutRows, .inl (ci 0, 5, .inl m_cutRows)) :: (a_m_cutColumns, .inl (ci 0, 5, .inl m_cutColumns)) :: (a_m_deep, .inl (ci 0, 5, .inl m_deep)) :: (a_m_wide, .inl (ci 0, 5, .inl m_wide)) :: (a_m_zonesAhead, .inl (ci 0, 45, .inl m_zonesAhead)) :: (a_m_nameOne, .inl (ci 0, 20, .inl m_nameOne)) :: Rw) → va_S A s.heap H locs → lv_has ls 10 [(0, .ref a_m), (1, .int p1), (3, .ref a_m_nameOne), (4, .int v2), (5, .int v3), (6, .int v4)] → W p l e ({ frames := 4, cells := 0, slots := 0, locals := 88 } : Room) s m ([.ref a_m, .int p1, .int p2, .ref a_m_nameOne] : List Value).toArray below meth c H locs 0 0 Q (F0 m 71 ls [.int v5, .int 0, .ref a_m_nameOne]) := by
        intro v5 H locs ls hf hP hD hS hl
        have hf := (ek71 v5).symm.trans hf
        refine q_iast (pc := 71) hx hb hK hP hD hS 6 0 hf rfl rfl dX11_spells_71 (fun f6 H locs hf hP hD hS => ?_)
        obtain ⟨hP, hD⟩ : va_PD D A ((a_m, .inr (11, (.ref a_m_cutRows :: .ref a_m_cutColumns :: .ref a_m_deep :: .ref a_m_wide :: .ref a_m_zonesAhead :: .ref a_x_one :: .ref a_m_nameOther :: .ref a_m_tape :: .int m_taped :: .int m_place :: .int m_fault :: .int m_number :: .int m_levelRead :: .int m_keyRead :: .int m_reads :: .int m_faults :: .int m_cutShort :: .int m_noNumber :: .long m_bottomLat :: .long m_bottomLon :: .ref a_m_edges :: .int m_firstBeside :: .int m_manyBeside :: .ref a_m_dist :: .ref a_m_queue :: .int m_queued :: .int m_boxLevel :: .int m_boxTop :: .int m_boxBottom :: .int m_boxWest :: .int m_boxEast :: .int m_isEarly :: .int m_pieces :: .int m_states :: .ref a_m_pieceLevel :: .ref a_m_pieceKey :: .ref a_m_pieceYear :: .int m_drawnNow :: .ref a_m_drawnKeys :: .ref a_m_kept :: .int m_keptAt :: .ref a_m_noNumbers :: []))) :: (a_m_cutRows, .inl (ci 0, 5, .inl m_cutRows)) :: (a_m_cutColumns, .inl (ci 0, 5, .inl m_cutColumns)) :: (a_m_deep, .inl (ci 0, 5, .inl m_deep)) :: (a_m_wide, .inl (ci 0, 5, .inl m_wide)) :: (a_m_zonesAhead, .inl (ci 0, 45, .inl m_zonesAhead)) :: (a_m_nameOne, .inl (ci 0, 20, .inl f6)) :: Rw) H := ⟨hP, hD⟩
        refine lv_aload_n (pc := 72) hx hb dX11_spells_72 rfl (lv_at hl 2 rfl) ?_
        refine lv_iconst (pc := 73) (v := 1) hx hb dX11_spells_73 (by decide) ?_
        refine lv_bipush (pc := 74) (v := 65) hx hb dX11_spells_74 (by decide) ?_
        refine lv_iload (pc := 76) hx hb dX11_spells_76 (lv_at hl 5 rfl) ?_
        refine lv_bipush (pc := 78) (v := 22) hx hb dX11_spells_78 (by decide) ?_
        obtain ⟨k96, ek96, hf⟩ := q_j1_e hf
        have J96 : ∀ (v7 : Int32) (H : Heap) (locs : List Loc) (ls : Array Slot), k96 v7 = some (r, o1) → va_P D vwCl ((a_m, .inr (11, (.ref a_m_cutRows :: .ref a_m_cutColumns :: .ref a_m_deep :: .ref a_m_wide :: .ref a_m_zonesAhead :: .ref a_x_one :: .ref a_m_nameOther :: .ref a_m_tape :: .int m_taped :: .int m_place :: .int m_fault :: .int m_number :: .int m_levelRead :: .int m_keyRead :: .int m_reads :: .int m_faults :: .int m_cutShort :: .int m_noNumber :: .long m_bottomLat :: .long m_bottomLon :: .ref a_m_edges :: .int m_firstBeside :: .int m_manyBeside :: .ref a_m_dist :: .ref a_m_queue :: .int m_queued :: .int m_boxLevel :: .int m_boxTop :: .int m_boxBottom :: .int m_boxWest :: .int m_boxEast :: .int m_isEarly :: .int m_pieces :: .int m_states :: .ref a_m_pieceLevel :: .ref a_m_pieceKey :: .ref a_m_pieceYear :: .int m_drawnNow :: .ref a_m_drawnKeys :: .ref a_m_kept :: .int m_keptAt :: .ref a_m_noNumbers :: []))) :: (a_m_cutRows, .inl (ci 0, 5, .inl m_cutRows)) :: (a_m_cutColumns, .inl (ci 0, 5, .inl m_cutColumns)) :: (a_m_deep, .inl (ci 0, 5, .inl m_deep)) :: (a_m_wide, .inl (ci 0, 5, .inl m_wide)) :: (a_m_zonesAhead, .inl (ci 0, 45, .inl m_zonesAhead)) :: (a_m_nameOne, .inl (ci 0, 20, .inl f6)) :: Rw) H → va_D A ((a_m, .inr (11, (.ref a_m_cutRows :: .ref a_m_cutColumns :: .ref a_m_deep :: .ref a_m_wide :: .ref a_m_zonesAhead :: .ref a_x_one :: .ref a_m_nameOther :: .ref a_m_tape :: .int m_taped :: .int m_place :: .int m_fault :: .int m_number :: .int m_levelRead :: .int m_keyRead :: .int m_reads :: .int m_faults :: .int m_cutShort :: .int m_noNumber :: .long m_bottomLat :: .long m_bottomLon :: .ref a_m_edges :: .int m_firstBeside :: .int m_manyBeside :: .ref a_m_dist :: .ref a_m_queue :: .int m_queued :: .int m_boxLevel :: .int m_boxTop :: .int m_boxBottom :: .int m_boxWest :: .int m_boxEast :: .int m_isEarly :: .int m_pieces :: .int m_states :: .ref a_m_pieceLevel :: .ref a_m_pieceKey :: .ref a_m_pieceYear :: .int m_drawnNow :: .ref a_m_drawnKeys :: .ref a_m_kept :: .int m_keptAt :: .ref a_m_noNumbers :: []))) :: (a_m_cutRows, .inl (ci 0, 5, .inl m_cutRows)) :: (a_m_cutColumns, .inl (ci 0, 5, .inl m_cutColumns)) :: (a_m_deep, .inl (ci 0, 5, .inl m_deep)) :: (a_m_wide, .inl (ci 0, 5, .inl m_wide)) :: (a_m_zonesAhead, .inl (ci 0, 45, .inl m_zonesAhead)) :: (a_m_nameOne, .inl (ci 0, 20, .inl f6)) :: Rw) → va_S A s.heap H locs → lv_has ls 10 [(0, .ref a_m), (1, .int p1), (3, .ref a_m_nameOne), (4, .int v2), (5, .int v3)] → W p l e ({ frames := 4, cells := 0, slots := 0, locals := 88 } : Room) s m ([.ref a_m, .int p1, .int p2, .ref a_m_nameOne] : List Value).toArray below meth c H locs 0 0 Q (F0 m 96 ls [.int v7, .int 65, .int 1, .ref a_m_nameOne]) := by
          intro v7 H locs ls hf hP hD hS hl
          have hf := (ek96 v7).symm.trans hf
          refine lv_iadd (pc := 96) hx hb dX11_spells_96 ?_
          refine q_iast (pc := 97) hx hb hK hP hD hS 6 0 hf rfl rfl dX11_spells_97 (fun f8 H locs hf hP hD hS => ?_)
          obtain ⟨hP, hD⟩ : va_PD D A ((a_m, .inr (11, (.ref a_m_cutRows :: .ref a_m_cutColumns :: .ref a_m_deep :: .ref a_m_wide :: .ref a_m_zonesAhead :: .ref a_x_one :: .ref a_m_nameOther :: .ref a_m_tape :: .int m_taped :: .int m_place :: .int m_fault :: .int m_number :: .int m_levelRead :: .int m_keyRead :: .int m_reads :: .int m_faults :: .int m_cutShort :: .int m_noNumber :: .long m_bottomLat :: .long m_bottomLon :: .ref a_m_edges :: .int m_firstBeside :: .int m_manyBeside :: .ref a_m_dist :: .ref a_m_queue :: .int m_queued :: .int m_boxLevel :: .int m_boxTop :: .int m_boxBottom :: .int m_boxWest :: .int m_boxEast :: .int m_isEarly :: .int m_pieces :: .int m_states :: .ref a_m_pieceLevel :: .ref a_m_pieceKey :: .ref a_m_pieceYear :: .int m_drawnNow :: .ref a_m_drawnKeys :: .ref a_m_kept :: .int m_keptAt :: .ref a_m_noNumbers :: []))) :: (a_m_cutRows, .inl (ci 0, 5, .inl m_cutRows)) :: (a_m_cutColumns, .inl (ci 0, 5, .inl m_cutColumns)) :: (a_m_deep, .inl (ci 0, 5, .inl m_deep)) :: (a_m_wide, .inl (ci 0, 5, .inl m_wide)) :: (a_m_zonesAhead, .inl (ci 0, 45, .inl m_zonesAhead)) :: (a_m_nameOne, .inl (ci 0, 20, .inl f8)) :: Rw) H := ⟨hP, hD⟩
          refine lv_aload_n (pc := 98) hx hb dX11_spells_98 rfl (lv_at hl 0 rfl) ?_
          refine lv_aload_n (pc := 99) hx hb dX11_spells_99 rfl (lv_at hl 2 rfl) ?_
          refine lv_iconst (pc := 100) (v := 2) hx hb dX11_spells_100 (by decide) ?_
          refine lv_iload (pc := 101) hx hb dX11_spells_101 (lv_at hl 4 rfl) ?_
          refine lv_aload_n (pc := 103) hx hb dX11_spells_103 rfl (lv_at hl 0 rfl) ?_
          refine va_get (pc := 104) (D := D) (ci := 11) (v := .ref a_m_wide) (C := RX11) (T := TX11) (N := 42) hx hb hts hinX11 hown hK hP 0 rfl rfl 3 (by decide) w_1 (fun _ h9 => h9) rfl dX11_spells_104 ?_
          refine lv_iload_n (pc := 107) hx hb dX11_spells_107 rfl (lv_at hl 1 rfl) ?_
          refine q_iald (pc := 108) hx hb hK hP 4 0 hf rfl rfl dX11_spells_108 (fun v9 hf => ?_)
          refine q_idiv (pc := 109) hx hb dX11_spells_109 hf (fun v10 hf => ?_)
          refine lv_iconst (pc := 110) (v := 1) hx hb dX11_spells_110 (by decide) ?_
          refine lv_iadd (pc := 111) hx hb dX11_spells_111 ?_
          obtain ⟨v11, f12, hm112, hf⟩ := q_b2_e hf
          refine q_cV (pc := 112) (As := [.ref a_m_nameOne, .int 2, .int (v10 + 1)]) (rest := []) (v0 := (some (.int v11))) ⟨hx, hb, hml, hown, hts⟩ hK hA hZ hP hD hS hl.1 [0, 6, 1, 2, 3, 4, 5] 7 rfl ⟨rfl, rfl, rfl⟩ (c_M_digitsInto l D ci A sa N ((a_m_cutRows, .inl (ci 0, 5, .inl m_cutRows)) :: (a_m_cutColumns, .inl (ci 0, 5, .inl m_cutColumns)) :: (a_m_deep, .inl (ci 0, 5, .inl m_deep)) :: (a_m_wide, .inl (ci 0, 5, .inl m_wide)) :: (a_m_zonesAhead, .inl (ci 0, 45, .inl m_zonesAhead)) :: Rw) a_m a_m_cutRows a_m_cutColumns a_m_deep a_m_wide a_m_zonesAhead a_m_nameOne a_x_one a_m_nameOther a_m_tape a_m_edges a_m_dist a_m_queue a_m_pieceLevel a_m_pieceKey a_m_pieceYear a_m_drawnKeys a_m_kept a_m_noNumbers m_taped m_place m_fault m_number m_levelRead m_keyRead m_reads m_faults m_cutShort m_noNumber m_bottomLat m_bottomLon m_firstBeside m_manyBeside m_queued m_boxLevel m_boxTop m_boxBottom m_boxWest m_boxEast m_isEarly m_pieces m_states m_drawnNow m_keptAt f8 2 (v10 + 1) v11 f12 hm112) 0 rfl rfl (cwV 3 hts gX11_spells_X11_digitsInto rfl rfl rfl (by decide +kernel) ⟨Nat.le_of_ble_eq_true rfl, Nat.le_of_ble_eq_true rfl⟩) rfl rfl (Nat.le_of_ble_eq_true rfl) dX11_spells_112 ⟨Nat.zero_le _, Nat.zero_le _⟩ [0, 2, 3, 4, 5, 6, 1] 7 rfl ⟨rfl, rfl, rfl⟩ (fun H locs hP hD hS => ?_)
          obtain ⟨hP, hD⟩ : va_PD D A ((a_m, .inr (11, (.ref a_m_cutRows :: .ref a_m_cutColumns :: .ref a_m_deep :: .ref a_m_wide :: .ref a_m_zonesAhead :: .ref a_x_one :: .ref a_m_nameOther :: .ref a_m_tape :: .int m_taped :: .int m_place :: .int m_fault :: .int m_number :: .int m_levelRead :: .int m_keyRead :: .int m_reads :: .int m_faults :: .int m_cutShort :: .int m_noNumber :: .long m_bottomLat :: .long m_bottomLon :: .ref a_m_edges :: .int m_firstBeside :: .int m_manyBeside :: .ref a_m_dist :: .ref a_m_queue :: .int m_queued :: .int m_boxLevel :: .int m_boxTop :: .int m_boxBottom :: .int m_boxWest :: .int m_boxEast :: .int m_isEarly :: .int m_pieces :: .int m_states :: .ref a_m_pieceLevel :: .ref a_m_pieceKey :: .ref a_m_pieceYear :: .int m_drawnNow :: .ref a_m_drawnKeys :: .ref a_m_kept :: .int m_keptAt :: .ref a_m_noNumbers :: []))) :: (a_m_cutRows, .inl (ci 0, 5, .inl m_cutRows)) :: (a_m_cutColumns, .inl (ci 0, 5, .inl m_cutColumns)) :: (a_m_deep, .inl (ci 0, 5, .inl m_deep)) :: (a_m_wide, .inl (ci 0, 5, .inl m_wide)) :: (a_m_zonesAhead, .inl (ci 0, 45, .inl m_zonesAhead)) :: (a_m_nameOne, .inl (ci 0, 20, .inl f12)) :: Rw) H := ⟨hP, hD⟩
          refine lv_istore (pc := 115) (lv' := [(7, .int v11), (0, .ref a_m), (1, .int p1), (3, .ref a_m_nameOne), (4, .int v2), (5, .int v3)]) hx hb dX11_spells_115 hl (by decide) rfl (fun ls hl => ?_)
          refine lv_iconst (pc := 117) (v := 1) hx hb dX11_spells_117 (by decide) ?_
          obtain ⟨v13, ev13, hf⟩ := q_nm_e hf
          refine q_topi ev13 ?_
          refine lv_istore (pc := 118) (lv' := [(8, .int v13), (7, .int v11), (0, .ref a_m), (1, .int p1), (3, .ref a_m_nameOne), (4, .int v2), (5, .int v3)]) hx hb dX11_spells_118 hl (by decide) rfl (fun ls hl => ?_)
          obtain ⟨v17, f18, hm120, hf⟩ := q_b2_e hf
          have JE120 : ∀ (H : Heap) (locs : List Loc) (ls : Array Slot), va_P D vwCl ((a_m, .inr (11, (.ref a_m_cutRows :: .ref a_m_cutColumns :: .ref a_m_deep :: .ref a_m_wide :: .ref a_m_zonesAhead :: .ref a_x_one :: .ref a_m_nameOther :: .ref a_m_tape :: .int m_taped :: .int m_place :: .int m_fault :: .int m_number :: .int m_levelRead :: .int m_keyRead :: .int m_reads :: .int m_faults :: .int m_cutShort :: .int m_noNumber :: .long m_bottomLat :: .long m_bottomLon :: .ref a_m_edges :: .int m_firstBeside :: .int m_manyBeside :: .ref a_m_dist :: .ref a_m_queue :: .int m_queued :: .int m_boxLevel :: .int m_boxTop :: .int m_boxBottom :: .int m_boxWest :: .int m_boxEast :: .int m_isEarly :: .int m_pieces :: .int m_states :: .ref a_m_pieceLevel :: .ref a_m_pieceKey :: .ref a_m_pieceYear :: .int m_drawnNow :: .ref a_m_drawnKeys :: .ref a_m_kept :: .int m_keptAt :: .ref a_m_noNumbers :: []))) :: (a_m_cutRows, .inl (ci 0, 5, .inl m_cutRows)) :: (a_m_cutColumns, .inl (ci 0, 5, .inl m_cutColumns)) :: (a_m_deep, .inl (ci 0, 5, .inl m_deep)) :: (a_m_wide, .inl (ci 0, 5, .inl m_wide)) :: (a_m_zonesAhead, .inl (ci 0, 45, .inl m_zonesAhead)) :: (a_m_nameOne, .inl (ci 0, 20, .inl f18)) :: Rw) H → va_D A ((a_m, .inr (11, (.ref a_m_cutRows :: .ref a_m_cutColumns :: .ref a_m_deep :: .ref a_m_wide :: .ref a_m_zonesAhead :: .ref a_x_one :: .ref a_m_nameOther :: .ref a_m_tape :: .int m_taped :: .int m_place :: .int m_fault :: .int m_number :: .int m_levelRead :: .int m_keyRead :: .int m_reads :: .int m_faults :: .int m_cutShort :: .int m_noNumber :: .long m_bottomLat :: .long m_bottomLon :: .ref a_m_edges :: .int m_firstBeside :: .int m_manyBeside :: .ref a_m_dist :: .ref a_m_queue :: .int m_queued :: .int m_boxLevel :: .int m_boxTop :: .int m_boxBottom :: .int m_boxWest :: .int m_boxEast :: .int m_isEarly :: .int m_pieces :: .int m_states :: .ref a_m_pieceLevel :: .ref a_m_pieceKey :: .ref a_m_pieceYear :: .int m_drawnNow :: .ref a_m_drawnKeys :: .ref a_m_kept :: .int m_keptAt :: .ref a_m_noNumbers :: []))) :: (a_m_cutRows, .inl (ci 0, 5, .inl m_cutRows)) :: (a_m_cutColumns, .inl (ci 0, 5, .inl m_cutColumns)) :: (a_m_deep, .inl (ci 0, 5, .inl m_deep)) :: (a_m_wide, .inl (ci 0, 5, .inl m_wide)) :: (a_m_zonesAhead, .inl (ci 0, 45, .inl m_zonesAhead)) :: (a_m_nameOne, .inl (ci 0, 20, .inl f18)) :: Rw) → va_S A s.heap H locs → lv_has ls 10 [(7, .int v17)] → W p l e ({ frames := 4, cells := 0, slots := 0, locals := 88 } : Room) s m ([.ref a_m, .int p1, .int p2, .ref a_m_nameOne] : List Value).toArray below meth c H locs 0 0 Q (F0 m 197 ls []) := by
            intro H locs ls hP hD hS hl
            refine lv_iload (pc := 197) hx hb dX11_spells_197 (lv_at hl 0 rfl) ?_
            obtain ⟨rfl, rfl⟩ := q_inj2 (Option.some.inj hf)
            rw [hQ]
            exact q_iret (pc := 199) hx hb hr hlocks hP hD hS dX11_spells_199
          have LP120 : ∀ (n120 : Nat) (v14 : Int32) (v15 : Int32) (f16 : Nat → Int32) (H : Heap) (locs : List Loc) (ls : Array Slot), f_M_spells_L120 m_cutColumns m_cutRows m_deep m_wide p1 v2 v3 n120 v14 v15 f16 = some (v17, f18) → va_P D vwCl ((a_m, .inr (11, (.ref a_m_cutRows :: .ref a_m_cutColumns :: .ref a_m_deep :: .ref a_m_wide :: .ref a_m_zonesAhead :: .ref a_x_one :: .ref a_m_nameOther :: .ref a_m_tape :: .int m_taped :: .int m_place :: .int m_fault :: .int m_number :: .int m_levelRead :: .int m_keyRead :: .int m_reads :: .int m_faults :: .int m_cutShort :: .int m_noNumber :: .long m_bottomLat :: .long m_bottomLon :: .ref a_m_edges :: .int m_firstBeside :: .int m_manyBeside :: .ref a_m_dist :: .ref a_m_queue :: .int m_queued :: .int m_boxLevel :: .int m_boxTop :: .int m_boxBottom :: .int m_boxWest :: .int m_boxEast :: .int m_isEarly :: .int m_pieces :: .int m_states :: .ref a_m_pieceLevel :: .ref a_m_pieceKey :: .ref a_m_pieceYear :: .int m_drawnNow :: .ref a_m_drawnKeys :: .ref a_m_kept :: .int m_keptAt :: .ref a_m_noNumbers :: []))) :: (a_m_cutRows, .inl (ci 0, 5, .inl m_cutRows)) :: (a_m_cutColumns, .inl (ci 0, 5, .inl m_cutColumns)) :: (a_m_deep, .inl (ci 0, 5, .inl m_deep)) :: (a_m_wide, .inl (ci 0, 5, .inl m_wide)) :: (a_m_zonesAhead, .inl (ci 0, 45, .inl m_zonesAhead)) :: (a_m_nameOne, .inl (ci 0, 20, .inl f16)) :: Rw) H → va_D A ((a_m, .inr (11, (.ref a_m_cutRows :: .ref a_m_cutColumns :: .ref a_m_deep :: .ref a_m_wide :: .ref a_m_zonesAhead :: .ref a_x_one :: .ref a_m_nameOther :: .ref a_m_tape :: .int m_taped :: .int m_place :: .int m_fault :: .int m_number :: .int m_levelRead :: .int m_keyRead :: .int m_reads :: .int m_faults :: .int m_cutShort :: .int m_noNumber :: .long m_bottomLat :: .long m_bottomLon :: .ref a_m_edges :: .int m_firstBeside :: .int m_manyBeside :: .ref a_m_dist :: .ref a_m_queue :: .int m_queued :: .int m_boxLevel :: .int m_boxTop :: .int m_boxBottom :: .int m_boxWest :: .int m_boxEast :: .int m_isEarly :: .int m_pieces :: .int m_states :: .ref a_m_pieceLevel :: .ref a_m_pieceKey :: .ref a_m_pieceYear :: .int m_drawnNow :: .ref a_m_drawnKeys :: .ref a_m_kept :: .int m_keptAt :: .ref a_m_noNumbers :: []))) :: (a_m_cutRows, .inl (ci 0, 5, .inl m_cutRows)) :: (a_m_cutColumns, .inl (ci 0, 5, .inl m_cutColumns)) :: (a_m_deep, .inl (ci 0, 5, .inl m_deep)) :: (a_m_wide, .inl (ci 0, 5, .inl m_wide)) :: (a_m_zonesAhead, .inl (ci 0, 45, .inl m_zonesAhead)) :: (a_m_nameOne, .inl (ci 0, 20, .inl f16)) :: Rw) → va_S A s.heap H locs → lv_has ls 10 [(0, .ref a_m), (1, .int p1), (3, .ref a_m_nameOne), (4, .int v2), (5, .int v3), (7, .int v14), (8, .int v15)] → W p l e ({ frames := 4, cells := 0, slots := 0, locals := 88 } : Room) s m ([.ref a_m, .int p1, .int p2, .ref a_m_nameOne] : List Value).toArray below meth c H locs 0 0 Q (F0 m 120 ls []) := by
            intro n120
            induction n120 with
            | zero => intro v14 v15 f16 H locs ls hf; rw [f_M_spells_L120] at hf; cases hf
            | succ n120 ih120 =>
              intro v14 v15 f16 H locs ls hf hP hD hS hl
              rw [f_M_spells_L120] at hf
              refine lv_iload (pc := 120) hx hb dX11_spells_120 (lv_at hl 6 rfl) ?_
              refine lv_iload_n (pc := 122) hx hb dX11_spells_122 rfl (lv_at hl 1 rfl) ?_
              refine q_icmp_gt (pc := 123) (tgt := 197) hx hb dX11_spells_123 (by decide) rfl hf (fun hf => ?_) (fun hf => ?_)
              · obtain ⟨rfl, rfl⟩ := q_inj2 (Option.some.inj hf)
                exact JE120 _ _ _ hP hD hS (lv_sub hl [5] rfl)
              · refine lv_iconst (pc := 126) (v := 1) hx hb dX11_spells_126 (by decide) ?_
                refine lv_iload (pc := 127) hx hb dX11_spells_127 (lv_at hl 3 rfl) ?_
                refine lv_iconst (pc := 129) (v := 1) hx hb dX11_spells_129 (by decide) ?_
                refine lv_isub (pc := 130) hx hb dX11_spells_130 ?_
                refine lv_aload_n (pc := 131) hx hb dX11_spells_131 rfl (lv_at hl 0 rfl) ?_
                refine va_get (pc := 132) (D := D) (ci := 11) (v := .ref a_m_deep) (C := RX11) (T := TX11) (N := 42) hx hb hts hinX11 hown hK hP 0 rfl rfl 2 (by decide) w_2 (fun _ h9 => h9) rfl dX11_spells_132 ?_
                refine lv_iload_n (pc := 135) hx hb dX11_spells_135 rfl (lv_at hl 1 rfl) ?_
                refine q_iald (pc := 136) hx hb hK hP 3 0 hf rfl rfl dX11_spells_136 (fun v19 hf => ?_)
                refine lv_aload_n (pc := 137) hx hb dX11_spells_137 rfl (lv_at hl 0 rfl) ?_
                refine va_get (pc := 138) (D := D) (ci := 11) (v := .ref a_m_deep) (C := RX11) (T := TX11) (N := 42) hx hb hts hinX11 hown hK hP 0 rfl rfl 2 (by decide) w_2 (fun _ h9 => h9) rfl dX11_spells_138 ?_
                refine lv_iload (pc := 141) hx hb dX11_spells_141 (lv_at hl 6 rfl) ?_
                refine q_iald (pc := 143) hx hb hK hP 3 0 hf rfl rfl dX11_spells_143 (fun v20 hf => ?_)
                refine q_idiv (pc := 144) hx hb dX11_spells_144 hf (fun v21 hf => ?_)
                refine q_idiv (pc := 145) hx hb dX11_spells_145 hf (fun v22 hf => ?_)
                refine lv_iadd (pc := 146) hx hb dX11_spells_146 ?_
                obtain ⟨v23, ev23, hf⟩ := q_nm_e hf
                refine q_topi ev23 ?_
                refine lv_istore (pc := 147) (lv' := [(9, .int v23), (0, .ref a_m), (1, .int p1), (3, .ref a_m_nameOne), (4, .int v2), (5, .int v3), (7, .int v14), (8, .int v15)]) hx hb dX11_spells_147 hl (by decide) rfl (fun ls hl => ?_)
                refine lv_aload_n (pc := 149) hx hb dX11_spells_149 rfl (lv_at hl 3 rfl) ?_
                refine lv_iload (pc := 150) hx hb dX11_spells_150 (lv_at hl 6 rfl) ?_
                refine lv_bipush (pc := 152) (v := 45) hx hb dX11_spells_152 (by decide) ?_
                refine q_iast (pc := 154) hx hb hK hP hD hS 6 0 hf rfl rfl dX11_spells_154 (fun f24 H locs hf hP hD hS => ?_)
                obtain ⟨hP, hD⟩ : va_PD D A ((a_m, .inr (11, (.ref a_m_cutRows :: .ref a_m_cutColumns :: .ref a_m_deep :: .ref a_m_wide :: .ref a_m_zonesAhead :: .ref a_x_one :: .ref a_m_nameOther :: .ref a_m_tape :: .int m_taped :: .int m_place :: .int m_fault :: .int m_number :: .int m_levelRead :: .int m_keyRead :: .int m_reads :: .int m_faults :: .int m_cutShort :: .int m_noNumber :: .long m_bottomLat :: .long m_bottomLon :: .ref a_m_edges :: .int m_firstBeside :: .int m_manyBeside :: .ref a_m_dist :: .ref a_m_queue :: .int m_queued :: .int m_boxLevel :: .int m_boxTop :: .int m_boxBottom :: .int m_boxWest :: .int m_boxEast :: .int m_isEarly :: .int m_pieces :: .int m_states :: .ref a_m_pieceLevel :: .ref a_m_pieceKey :: .ref a_m_pieceYear :: .int m_drawnNow :: .ref a_m_drawnKeys :: .ref a_m_kept :: .int m_keptAt :: .ref a_m_noNumbers :: []))) :: (a_m_cutRows, .inl (ci 0, 5, .inl m_cutRows)) :: (a_m_cutColumns, .inl (ci 0, 5, .inl m_cutColumns)) :: (a_m_deep, .inl (ci 0, 5, .inl m_deep)) :: (a_m_wide, .inl (ci 0, 5, .inl m_wide)) :: (a_m_zonesAhead, .inl (ci 0, 45, .inl m_zonesAhead)) :: (a_m_nameOne, .inl (ci 0, 20, .inl f24)) :: Rw) H := ⟨hP, hD⟩
                refine lv_aload_n (pc := 155) hx hb dX11_spells_155 rfl (lv_at hl 1 rfl) ?_
                refine lv_aload_n (pc := 156) hx hb dX11_spells_156 rfl (lv_at hl 3 rfl) ?_
                refine lv_iload (pc := 157) hx hb dX11_spells_157 (lv_at hl 6 rfl) ?_
                refine lv_iconst (pc := 159) (v := 1) hx hb dX11_spells_159 (by decide) ?_
                refine lv_iadd (pc := 160) hx hb dX11_spells_160 ?_
                refine lv_aload_n (pc := 161) hx hb dX11_spells_161 rfl (lv_at hl 1 rfl) ?_
                refine lv_iload (pc := 162) hx hb dX11_spells_162 (lv_at hl 7 rfl) ?_
                refine lv_iload (pc := 164) hx hb dX11_spells_164 (lv_at hl 0 rfl) ?_
                refine lv_iload (pc := 166) hx hb dX11_spells_166 (lv_at hl 5 rfl) ?_
                refine lv_aload_n (pc := 168) hx hb dX11_spells_168 rfl (lv_at hl 1 rfl) ?_
                refine va_get (pc := 169) (D := D) (ci := 11) (v := .ref a_m_wide) (C := RX11) (T := TX11) (N := 42) hx hb hts hinX11 hown hK hP 0 rfl rfl 3 (by decide) w_1 (fun _ h9 => h9) rfl dX11_spells_169 ?_
                refine lv_iload_n (pc := 172) hx hb dX11_spells_172 rfl (lv_at hl 2 rfl) ?_
                refine q_iald (pc := 173) hx hb hK hP 4 0 hf rfl rfl dX11_spells_173 (fun v25 hf => ?_)
                refine lv_aload_n (pc := 174) hx hb dX11_spells_174 rfl (lv_at hl 1 rfl) ?_
                refine va_get (pc := 175) (D := D) (ci := 11) (v := .ref a_m_wide) (C := RX11) (T := TX11) (N := 42) hx hb hts hinX11 hown hK hP 0 rfl rfl 3 (by decide) w_1 (fun _ h9 => h9) rfl dX11_spells_175 ?_
                refine lv_iload (pc := 178) hx hb dX11_spells_178 (lv_at hl 7 rfl) ?_
                refine q_iald (pc := 180) hx hb hK hP 4 0 hf rfl rfl dX11_spells_180 (fun v26 hf => ?_)
                refine q_idiv (pc := 181) hx hb dX11_spells_181 hf (fun v27 hf => ?_)
                refine q_idiv (pc := 182) hx hb dX11_spells_182 hf (fun v28 hf => ?_)
                obtain ⟨v29, hm183, hf⟩ := q_b1_e hf
                refine q_cVr (pc := 183) (As := [.int v15, .int v23, .int v28]) (rest := [.int (v14 + 1), .ref a_m_nameOne, .ref a_m]) (v0 := (some (.int v29))) ⟨hx, hb, hml, hown, hts⟩ hK hA hZ hP hD hS hl.1 [0, 1, 2, 3] 7 rfl ⟨rfl, rfl, rfl⟩ (c_M_pieceNumber l D ci A sa N (Rw) a_m a_m_cutRows a_m_cutColumns a_m_deep a_m_wide a_m_zonesAhead a_x_one a_m_nameOther a_m_tape a_m_edges a_m_dist a_m_queue a_m_pieceLevel a_m_pieceKey a_m_pieceYear a_m_drawnKeys a_m_kept a_m_noNumbers m_taped m_place m_fault m_number m_levelRead m_keyRead m_reads m_faults m_cutShort m_noNumber m_bottomLat m_bottomLon m_firstBeside m_manyBeside m_queued m_boxLevel m_boxTop m_boxBottom m_boxWest m_boxEast m_isEarly m_pieces m_states m_drawnNow m_keptAt m_cutRows m_cutColumns m_deep v15 v23 v28 v29 hm183) 0 rfl rfl (cwV 3 hts gX11_spells_X11_pieceNumber rfl rfl rfl (by decide +kernel) ⟨Nat.le_of_ble_eq_true rfl, Nat.le_of_ble_eq_true rfl⟩) rfl rfl (Nat.le_of_ble_eq_true rfl) dX11_spells_183 ⟨Nat.zero_le _, Nat.zero_le _⟩ (fun locs hS => ?_)
                obtain ⟨v30, f31, hm186, hf⟩ := q_b2_e hf
                refine q_cV (pc := 186) (As := [.ref a_m_nameOne, .int (v14 + 1), .int v29]) (rest := []) (v0 := (some (.int v30))) ⟨hx, hb, hml, hown, hts⟩ hK hA hZ hP hD hS hl.1 [0, 6, 1, 2, 3, 4, 5] 7 rfl ⟨rfl, rfl, rfl⟩ (c_M_digitsInto l D ci A sa N ((a_m_cutRows, .inl (ci 0, 5, .inl m_cutRows)) :: (a_m_cutColumns, .inl (ci 0, 5, .inl m_cutColumns)) :: (a_m_deep, .inl (ci 0, 5, .inl m_deep)) :: (a_m_wide, .inl (ci 0, 5, .inl m_wide)) :: (a_m_zonesAhead, .inl (ci 0, 45, .inl m_zonesAhead)) :: Rw) a_m a_m_cutRows a_m_cutColumns a_m_deep a_m_wide a_m_zonesAhead a_m_nameOne a_x_one a_m_nameOther a_m_tape a_m_edges a_m_dist a_m_queue a_m_pieceLevel a_m_pieceKey a_m_pieceYear a_m_drawnKeys a_m_kept a_m_noNumbers m_taped m_place m_fault m_number m_levelRead m_keyRead m_reads m_faults m_cutShort m_noNumber m_bottomLat m_bottomLon m_firstBeside m_manyBeside m_queued m_boxLevel m_boxTop m_boxBottom m_boxWest m_boxEast m_isEarly m_pieces m_states m_drawnNow m_keptAt f24 (v14 + 1) v29 v30 f31 hm186) 0 rfl rfl (cwV 3 hts gX11_spells_X11_digitsInto rfl rfl rfl (by decide +kernel) ⟨Nat.le_of_ble_eq_true rfl, Nat.le_of_ble_eq_true rfl⟩) rfl rfl (Nat.le_of_ble_eq_true rfl) dX11_spells_186 ⟨Nat.zero_le _, Nat.zero_le _⟩ [0, 2, 3, 4, 5, 6, 1] 7 rfl ⟨rfl, rfl, rfl⟩ (fun H locs hP hD hS => ?_)
                obtain ⟨hP, hD⟩ : va_PD D A ((a_m, .inr (11, (.ref a_m_cutRows :: .ref a_m_cutColumns :: .ref a_m_deep :: .ref a_m_wide :: .ref a_m_zonesAhead :: .ref a_x_one :: .ref a_m_nameOther :: .ref a_m_tape :: .int m_taped :: .int m_place :: .int m_fault :: .int m_number :: .int m_levelRead :: .int m_keyRead :: .int m_reads :: .int m_faults :: .int m_cutShort :: .int m_noNumber :: .long m_bottomLat :: .long m_bottomLon :: .ref a_m_edges :: .int m_firstBeside :: .int m_manyBeside :: .ref a_m_dist :: .ref a_m_queue :: .int m_queued :: .int m_boxLevel :: .int m_boxTop :: .int m_boxBottom :: .int m_boxWest :: .int m_boxEast :: .int m_isEarly :: .int m_pieces :: .int m_states :: .ref a_m_pieceLevel :: .ref a_m_pieceKey :: .ref a_m_pieceYear :: .int m_drawnNow :: .ref a_m_drawnKeys :: .ref a_m_kept :: .int m_keptAt :: .ref a_m_noNumbers :: []))) :: (a_m_cutRows, .inl (ci 0, 5, .inl m_cutRows)) :: (a_m_cutColumns, .inl (ci 0, 5, .inl m_cutColumns)) :: (a_m_deep, .inl (ci 0, 5, .inl m_deep)) :: (a_m_wide, .inl (ci 0, 5, .inl m_wide)) :: (a_m_zonesAhead, .inl (ci 0, 45, .inl m_zonesAhead)) :: (a_m_nameOne, .inl (ci 0, 20, .inl f31)) :: Rw) H := ⟨hP, hD⟩
                refine lv_istore (pc := 189) (lv' := [(7, .int v30), (9, .int v23), (0, .ref a_m), (1, .int p1), (3, .ref a_m_nameOne), (4, .int v2), (5, .int v3), (8, .int v15)]) hx hb dX11_spells_189 hl (by decide) rfl (fun ls hl => ?_)
                obtain ⟨v32, ev32, hf⟩ := q_nm_e hf
                refine lv_iinc (pc := 191) (v := v32) (lv' := [(8, .int v32), (7, .int v30), (9, .int v23), (0, .ref a_m), (1, .int p1), (3, .ref a_m_nameOne), (4, .int v2), (5, .int v3)]) hx hb dX11_spells_191 hl (k := 7) rfl (by rw [ev32]; rfl) (by decide) rfl (fun ls hl => ?_)
                refine lv_goto (pc := 194) (tgt := 120) hx hb dX11_spells_194 (by decide) ?_
                exact ih120 v30 v32 f31 _ _ _ hf hP hD hS (lv_sub hl [3, 4, 5, 6, 7, 1, 0] rfl)
          exact LP120 N v11 v13 f12 _ _ _ hm120 hP hD hS (lv_sub hl [2, 3, 4, 5, 6, 1, 0] rfl)
        refine q_icmp_ge (pc := 80) (tgt := 91) hx hb dX11_spells_80 (by decide) rfl hf (fun hf => ?_) (fun hf => ?_)
        · refine lv_iload (pc := 91) hx hb dX11_spells_91 (lv_at hl 5 rfl) ?_
          refine lv_bipush (pc := 93) (v := 22) hx hb dX11_spells_93 (by decide) ?_
          refine lv_isub (pc := 95) hx hb dX11_spells_95 ?_
          exact J96 (v4 - 22) _ _ _ hf hP hD hS (lv_sub hl [0, 1, 2, 3, 4] rfl)
        · refine lv_bipush (pc := 83) (v := 21) hx hb dX11_spells_83 (by decide) ?_
          refine lv_iload (pc := 85) hx hb dX11_spells_85 (lv_at hl 5 rfl) ?_
          refine lv_isub (pc := 87) hx hb dX11_spells_87 ?_
          refine lv_goto (pc := 88) (tgt := 96) hx hb dX11_spells_88 (by decide) ?_
          exact J96 (21 - v4) _ _ _ hf hP hD hS (lv_sub hl [0, 1, 2, 3, 4] rfl)
      refine q_icmp_ge (pc := 61) (tgt := 69) hx hb dX11_spells_61 (by decide) rfl hf (fun hf => ?_) (fun hf => ?_)
      · refine lv_bipush (pc := 69) (v := 83) hx hb dX11_spells_69 (by decide) ?_
        exact J71 83 _ _ _ hf hP hD hS (lv_sub hl [3, 4, 6, 2, 1, 0] rfl)
      · refine lv_bipush (pc := 64) (v := 78) hx hb dX11_spells_64 (by decide) ?_
        refine lv_goto (pc := 66) (tgt := 71) hx hb dX11_spells_66 (by decide) ?_
        exact J71 78 _ _ _ hf hP hD hS (lv_sub hl [3, 4, 6, 2, 1, 0] rfl)
    · refine lv_aload_n (pc := 9) hx hb dX11_spells_9 rfl (lv_at hl 3 rfl) ?_
      refine lv_iconst (pc := 10) (v := 0) hx hb dX11_spells_10 (by decide) ?_
      refine lv_iload_n (pc := 11) hx hb dX11_spells_11 rfl (lv_at hl 2 rfl) ?_
      obtain ⟨k22, ek22, hf⟩ := q_j1_e hf
      have J22 : ∀ (v33 : Int32) (H : Heap) (locs : List Loc) (ls : Array Slot), k22 v33 = some (r, o1) → va_P D vwCl ((a_m, .inr (11, (.ref a_m_cutRows :: .ref a_m_cutColumns :: .ref a_m_deep :: .ref a_m_wide :: .ref a_m_zonesAhead :: .ref a_x_one :: .ref a_m_nameOther :: .ref a_m_tape :: .int m_taped :: .int m_place :: .int m_fault :: .int m_number :: .int m_levelRead :: .int m_keyRead :: .int m_reads :: .int m_faults :: .int m_cutShort :: .int m_noNumber :: .long m_bottomLat :: .long m_bottomLon :: .ref a_m_edges :: .int m_firstBeside :: .int m_manyBeside :: .ref a_m_dist :: .ref a_m_queue :: .int m_queued :: .int m_boxLevel :: .int m_boxTop :: .int m_boxBottom :: .int m_boxWest :: .int m_boxEast :: .int m_isEarly :: .int m_pieces :: .int m_states :: .ref a_m_pieceLevel :: .ref a_m_pieceKey :: .ref a_m_pieceYear :: .int m_drawnNow :: .ref a_m_drawnKeys :: .ref a_m_kept :: .int m_keptAt :: .ref a_m_noNumbers :: []))) :: (a_m_cutRows, .inl (ci 0, 5, .inl m_cutRows)) :: (a_m_cutColumns, .inl (ci 0, 5, .inl m_cutColumns)) :: (a_m_deep, .inl (ci 0, 5, .inl m_deep)) :: (a_m_wide, .inl (ci 0, 5, .inl m_wide)) :: (a_m_zonesAhead, .inl (ci 0, 45, .inl m_zonesAhead)) :: (a_m_nameOne, .inl (ci 0, 20, .inl m_nameOne)) :: Rw) H → va_D A ((a_m, .inr (11, (.ref a_m_cutRows :: .ref a_m_cutColumns :: .ref a_m_deep :: .ref a_m_wide :: .ref a_m_zonesAhead :: .ref a_x_one :: .ref a_m_nameOther :: .ref a_m_tape :: .int m_taped :: .int m_place :: .int m_fault :: .int m_number :: .int m_levelRead :: .int m_keyRead :: .int m_reads :: .int m_faults :: .int m_cutShort :: .int m_noNumber :: .long m_bottomLat :: .long m_bottomLon :: .ref a_m_edges :: .int m_firstBeside :: .int m_manyBeside :: .ref a_m_dist :: .ref a_m_queue :: .int m_queued :: .int m_boxLevel :: .int m_boxTop :: .int m_boxBottom :: .int m_boxWest :: .int m_boxEast :: .int m_isEarly :: .int m_pieces :: .int m_states :: .ref a_m_pieceLevel :: .ref a_m_pieceKey :: .ref a_m_pieceYear :: .int m_drawnNow :: .ref a_m_drawnKeys :: .ref a_m_kept :: .int m_keptAt :: .ref a_m_noNumbers :: []))) :: (a_m_cutRows, .inl (ci 0, 5, .inl m_cutRows)) :: (a_m_cutColumns, .inl (ci 0, 5, .inl m_cutColumns)) :: (a_m_deep, .inl (ci 0, 5, .inl m_deep)) :: (a_m_wide, .inl (ci 0, 5, .inl m_wide)) :: (a_m_zonesAhead, .inl (ci 0, 45, .inl m_zonesAhead)) :: (a_m_nameOne, .inl (ci 0, 20, .inl m_nameOne)) :: Rw) → va_S A s.heap H locs → lv_has ls 10 [(3, .ref a_m_nameOne)] → W p l e ({ frames := 4, cells := 0, slots := 0, locals := 88 } : Room) s m ([.ref a_m, .int p1, .int p2, .ref a_m_nameOne] : List Value).toArray below meth c H locs 0 0 Q (F0 m 22 ls [.int v33, .int 0, .ref a_m_nameOne]) := by
        intro v33 H locs ls hf hP hD hS hl
        have hf := (ek22 v33).symm.trans hf
        refine q_iast (pc := 22) hx hb hK hP hD hS 6 0 hf rfl rfl dX11_spells_22 (fun f34 H locs hf hP hD hS => ?_)
        obtain ⟨hP, hD⟩ : va_PD D A ((a_m, .inr (11, (.ref a_m_cutRows :: .ref a_m_cutColumns :: .ref a_m_deep :: .ref a_m_wide :: .ref a_m_zonesAhead :: .ref a_x_one :: .ref a_m_nameOther :: .ref a_m_tape :: .int m_taped :: .int m_place :: .int m_fault :: .int m_number :: .int m_levelRead :: .int m_keyRead :: .int m_reads :: .int m_faults :: .int m_cutShort :: .int m_noNumber :: .long m_bottomLat :: .long m_bottomLon :: .ref a_m_edges :: .int m_firstBeside :: .int m_manyBeside :: .ref a_m_dist :: .ref a_m_queue :: .int m_queued :: .int m_boxLevel :: .int m_boxTop :: .int m_boxBottom :: .int m_boxWest :: .int m_boxEast :: .int m_isEarly :: .int m_pieces :: .int m_states :: .ref a_m_pieceLevel :: .ref a_m_pieceKey :: .ref a_m_pieceYear :: .int m_drawnNow :: .ref a_m_drawnKeys :: .ref a_m_kept :: .int m_keptAt :: .ref a_m_noNumbers :: []))) :: (a_m_cutRows, .inl (ci 0, 5, .inl m_cutRows)) :: (a_m_cutColumns, .inl (ci 0, 5, .inl m_cutColumns)) :: (a_m_deep, .inl (ci 0, 5, .inl m_deep)) :: (a_m_wide, .inl (ci 0, 5, .inl m_wide)) :: (a_m_zonesAhead, .inl (ci 0, 45, .inl m_zonesAhead)) :: (a_m_nameOne, .inl (ci 0, 20, .inl f34)) :: Rw) H := ⟨hP, hD⟩
        refine lv_aload_n (pc := 23) hx hb dX11_spells_23 rfl (lv_at hl 0 rfl) ?_
        refine lv_iconst (pc := 24) (v := 1) hx hb dX11_spells_24 (by decide) ?_
        refine lv_bipush (pc := 25) (v := 90) hx hb dX11_spells_25 (by decide) ?_
        refine q_iast (pc := 27) hx hb hK hP hD hS 6 0 hf rfl rfl dX11_spells_27 (fun f35 H locs hf hP hD hS => ?_)
        obtain ⟨hP, hD⟩ : va_PD D A ((a_m, .inr (11, (.ref a_m_cutRows :: .ref a_m_cutColumns :: .ref a_m_deep :: .ref a_m_wide :: .ref a_m_zonesAhead :: .ref a_x_one :: .ref a_m_nameOther :: .ref a_m_tape :: .int m_taped :: .int m_place :: .int m_fault :: .int m_number :: .int m_levelRead :: .int m_keyRead :: .int m_reads :: .int m_faults :: .int m_cutShort :: .int m_noNumber :: .long m_bottomLat :: .long m_bottomLon :: .ref a_m_edges :: .int m_firstBeside :: .int m_manyBeside :: .ref a_m_dist :: .ref a_m_queue :: .int m_queued :: .int m_boxLevel :: .int m_boxTop :: .int m_boxBottom :: .int m_boxWest :: .int m_boxEast :: .int m_isEarly :: .int m_pieces :: .int m_states :: .ref a_m_pieceLevel :: .ref a_m_pieceKey :: .ref a_m_pieceYear :: .int m_drawnNow :: .ref a_m_drawnKeys :: .ref a_m_kept :: .int m_keptAt :: .ref a_m_noNumbers :: []))) :: (a_m_cutRows, .inl (ci 0, 5, .inl m_cutRows)) :: (a_m_cutColumns, .inl (ci 0, 5, .inl m_cutColumns)) :: (a_m_deep, .inl (ci 0, 5, .inl m_deep)) :: (a_m_wide, .inl (ci 0, 5, .inl m_wide)) :: (a_m_zonesAhead, .inl (ci 0, 45, .inl m_zonesAhead)) :: (a_m_nameOne, .inl (ci 0, 20, .inl f35)) :: Rw) H := ⟨hP, hD⟩
        refine lv_iconst (pc := 28) (v := 2) hx hb dX11_spells_28 (by decide) ?_
        obtain ⟨rfl, rfl⟩ := q_inj2 (Option.some.inj hf)
        rw [hQ]
        exact q_iret (pc := 29) hx hb hr hlocks hP hD hS dX11_spells_29
      refine q_if_ne (pc := 12) (tgt := 20) hx hb dX11_spells_12 (by decide) rfl hf (fun hf => ?_) (fun hf => ?_)
      · refine lv_bipush (pc := 20) (v := 83) hx hb dX11_spells_20 (by decide) ?_
        exact J22 83 _ _ _ hf hP hD hS (lv_sub hl [3] rfl)
      · refine lv_bipush (pc := 15) (v := 78) hx hb dX11_spells_15 (by decide) ?_
        refine lv_goto (pc := 17) (tgt := 22) hx hb dX11_spells_17 (by decide) ?_
        exact J22 78 _ _ _ hf hP hD hS (lv_sub hl [3] rfl)
  exact hgo _ _ rfl hP hS
/-! X11_before -/
set_option maxRecDepth 100000 in
set_option maxHeartbeats 4000000 in
theorem c_M_before (l : Launch) (D : va_G) (ci : Nat → ClassId) (A : Nat → Prop) (sa : Nat → Nat) (N : Nat) (Rw : va_W) (a_m : Nat) (a_m_cutRows : Nat) (a_m_cutColumns : Nat) (a_m_deep : Nat) (a_m_wide : Nat) (a_m_zonesAhead : Nat) (a_m_nameOne : Nat) (a_m_nameOther : Nat) (a_m_tape : Nat) (a_m_edges : Nat) (a_m_dist : Nat) (a_m_queue : Nat) (a_m_pieceLevel : Nat) (a_m_pieceKey : Nat) (a_m_pieceYear : Nat) (a_m_drawnKeys : Nat) (a_m_kept : Nat) (a_m_noNumbers : Nat) (m_taped : Int32) (m_place : Int32) (m_fault : Int32) (m_number : Int32) (m_levelRead : Int32) (m_keyRead : Int32) (m_reads : Int32) (m_faults : Int32) (m_cutShort : Int32) (m_noNumber : Int32) (m_bottomLat : Int64) (m_bottomLon : Int64) (m_firstBeside : Int32) (m_manyBeside : Int32) (m_queued : Int32) (m_boxLevel : Int32) (m_boxTop : Int32) (m_boxBottom : Int32) (m_boxWest : Int32) (m_boxEast : Int32) (m_isEarly : Int32) (m_pieces : Int32) (m_states : Int32) (m_drawnNow : Int32) (m_keptAt : Int32) (m_cutRows : Nat → Int32) (m_cutColumns : Nat → Int32) (m_deep : Nat → Int32) (m_wide : Nat → Int32) (m_zonesAhead : Nat → Int32) (m_nameOne : Nat → Int32) (m_nameOther : Nat → Int32) (p1 : Int32) (p2 : Int32) (p3 : Int32) (r : Int32) (o1 : Nat → Int32) (o2 : Nat → Int32) (hf : f_M_before N m_cutRows m_cutColumns m_deep m_wide m_zonesAhead m_nameOne m_nameOther p1 p2 p3 = some (r, o1, o2)) : Met l yX11_before wsX11_before ({ frames := 5, cells := 0, slots := 0, locals := 117 }) (va_Pc [.ref a_m, .int p1, .int p2, .int p3] (q_N D ci A sa ((a_m, .inr (11, (.ref a_m_cutRows :: .ref a_m_cutColumns :: .ref a_m_deep :: .ref a_m_wide :: .ref a_m_zonesAhead :: .ref a_m_nameOne :: .ref a_m_nameOther :: .ref a_m_tape :: .int m_taped :: .int m_place :: .int m_fault :: .int m_number :: .int m_levelRead :: .int m_keyRead :: .int m_reads :: .int m_faults :: .int m_cutShort :: .int m_noNumber :: .long m_bottomLat :: .long m_bottomLon :: .ref a_m_edges :: .int m_firstBeside :: .int m_manyBeside :: .ref a_m_dist :: .ref a_m_queue :: .int m_queued :: .int m_boxLevel :: .int m_boxTop :: .int m_boxBottom :: .int m_boxWest :: .int m_boxEast :: .int m_isEarly :: .int m_pieces :: .int m_states :: .ref a_m_pieceLevel :: .ref a_m_pieceKey :: .ref a_m_pieceYear :: .int m_drawnNow :: .ref a_m_drawnKeys :: .ref a_m_kept :: .int m_keptAt :: .ref a_m_noNumbers :: []))) :: (a_m_cutRows, .inl (ci 0, 5, .inl m_cutRows)) :: (a_m_cutColumns, .inl (ci 0, 5, .inl m_cutColumns)) :: (a_m_deep, .inl (ci 0, 5, .inl m_deep)) :: (a_m_wide, .inl (ci 0, 5, .inl m_wide)) :: (a_m_zonesAhead, .inl (ci 0, 45, .inl m_zonesAhead)) :: (a_m_nameOne, .inl (ci 0, 20, .inl m_nameOne)) :: (a_m_nameOther, .inl (ci 0, 20, .inl m_nameOther)) :: Rw))) (q_Q (some (.int r)) (q_O D A ((a_m, .inr (11, (.ref a_m_cutRows :: .ref a_m_cutColumns :: .ref a_m_deep :: .ref a_m_wide :: .ref a_m_zonesAhead :: .ref a_m_nameOne :: .ref a_m_nameOther :: .ref a_m_tape :: .int m_taped :: .int m_place :: .int m_fault :: .int m_number :: .int m_levelRead :: .int m_keyRead :: .int m_reads :: .int m_faults :: .int m_cutShort :: .int m_noNumber :: .long m_bottomLat :: .long m_bottomLon :: .ref a_m_edges :: .int m_firstBeside :: .int m_manyBeside :: .ref a_m_dist :: .ref a_m_queue :: .int m_queued :: .int m_boxLevel :: .int m_boxTop :: .int m_boxBottom :: .int m_boxWest :: .int m_boxEast :: .int m_isEarly :: .int m_pieces :: .int m_states :: .ref a_m_pieceLevel :: .ref a_m_pieceKey :: .ref a_m_pieceYear :: .int m_drawnNow :: .ref a_m_drawnKeys :: .ref a_m_kept :: .int m_keptAt :: .ref a_m_noNumbers :: []))) :: (a_m_cutRows, .inl (ci 0, 5, .inl m_cutRows)) :: (a_m_cutColumns, .inl (ci 0, 5, .inl m_cutColumns)) :: (a_m_deep, .inl (ci 0, 5, .inl m_deep)) :: (a_m_wide, .inl (ci 0, 5, .inl m_wide)) :: (a_m_zonesAhead, .inl (ci 0, 45, .inl m_zonesAhead)) :: (a_m_nameOne, .inl (ci 0, 20, .inl o1)) :: (a_m_nameOther, .inl (ci 0, 20, .inl o2)) :: Rw)) A) 0 0 A := by
  refine q_ofW (cc := cX11_before) (maxL := 7) (ret := (some .int)) [.ref a_m, .int p1, .int p2, .int p3] (plainFor_of_name (by decide)) rfl (Nat.le_of_ble_eq_true rfl) ?_
  intro p e s m below meth c ls Q hQ hx hb hml hr hts hown hlocks hK hA hZ hP hD hS hl
  have hl : lv_has ls 7 [(0, .ref a_m), (1, .int p1), (2, .int p2), (3, .int p3)] := hl
  have hown : s.vm.findClass RX11 = some m.cls := hown
  have hinX11 : ∀ w ∈ wsX110, w ∈ wsX11_before := fun _ h => List.mem_cons_of_mem _ (inWX110 _ h)
  have w_1 := hts (Cond.constant RX11 253 (-1000000)) (List.mem_cons_of_mem _ t_w967)
  have w_2 := hts (Cond.fieldLink RX11 25 "SheetNamesModel" "nameOne" "[I") (List.mem_cons_of_mem _ t_w968)
  have w_3 := hts (Cond.fieldLink RX11 28 "SheetNamesModel" "nameOther" "[I") (List.mem_cons_of_mem _ t_w969)
  unfold f_M_before at hf
  have hgo : ∀ (H : Heap) (locs : List Loc), H = s.heap → va_P D vwCl ((a_m, .inr (11, (.ref a_m_cutRows :: .ref a_m_cutColumns :: .ref a_m_deep :: .ref a_m_wide :: .ref a_m_zonesAhead :: .ref a_m_nameOne :: .ref a_m_nameOther :: .ref a_m_tape :: .int m_taped :: .int m_place :: .int m_fault :: .int m_number :: .int m_levelRead :: .int m_keyRead :: .int m_reads :: .int m_faults :: .int m_cutShort :: .int m_noNumber :: .long m_bottomLat :: .long m_bottomLon :: .ref a_m_edges :: .int m_firstBeside :: .int m_manyBeside :: .ref a_m_dist :: .ref a_m_queue :: .int m_queued :: .int m_boxLevel :: .int m_boxTop :: .int m_boxBottom :: .int m_boxWest :: .int m_boxEast :: .int m_isEarly :: .int m_pieces :: .int m_states :: .ref a_m_pieceLevel :: .ref a_m_pieceKey :: .ref a_m_pieceYear :: .int m_drawnNow :: .ref a_m_drawnKeys :: .ref a_m_kept :: .int m_keptAt :: .ref a_m_noNumbers :: []))) :: (a_m_cutRows, .inl (ci 0, 5, .inl m_cutRows)) :: (a_m_cutColumns, .inl (ci 0, 5, .inl m_cutColumns)) :: (a_m_deep, .inl (ci 0, 5, .inl m_deep)) :: (a_m_wide, .inl (ci 0, 5, .inl m_wide)) :: (a_m_zonesAhead, .inl (ci 0, 45, .inl m_zonesAhead)) :: (a_m_nameOne, .inl (ci 0, 20, .inl m_nameOne)) :: (a_m_nameOther, .inl (ci 0, 20, .inl m_nameOther)) :: Rw) H → va_S A s.heap H locs → W p l e ({ frames := 5, cells := 0, slots := 0, locals := 117 } : Room) s m ([.ref a_m, .int p1, .int p2, .int p3] : List Value).toArray below meth c H locs 0 0 Q (F0 m 0 ls []) := by
    intro H locs hH hP hS
    refine lv_aload_n (pc := 0) hx hb dX11_before_0 rfl (lv_at hl 0 rfl) ?_
    refine lv_iload_n (pc := 1) hx hb dX11_before_1 rfl (lv_at hl 1 rfl) ?_
    refine lv_iload_n (pc := 2) hx hb dX11_before_2 rfl (lv_at hl 2 rfl) ?_
    obtain ⟨v1, hm3, hf⟩ := q_b1_e hf
    refine q_cVr (pc := 3) (As := [.int p1, .int p2]) (rest := []) (v0 := (some (.int v1))) ⟨hx, hb, hml, hown, hts⟩ hK hA hZ hP hD hS hl.1 [0, 3, 4, 5] 8 rfl ⟨rfl, rfl, rfl⟩ (c_M_isKey l D ci A sa N (Rw) a_m a_m_cutRows a_m_cutColumns a_m_deep a_m_wide a_m_zonesAhead a_m_nameOne a_m_nameOther a_m_tape a_m_edges a_m_dist a_m_queue a_m_pieceLevel a_m_pieceKey a_m_pieceYear a_m_drawnKeys a_m_kept a_m_noNumbers m_taped m_place m_fault m_number m_levelRead m_keyRead m_reads m_faults m_cutShort m_noNumber m_bottomLat m_bottomLon m_firstBeside m_manyBeside m_queued m_boxLevel m_boxTop m_boxBottom m_boxWest m_boxEast m_isEarly m_pieces m_states m_drawnNow m_keptAt m_deep m_wide m_zonesAhead p1 p2 v1 hm3) 0 rfl rfl (cwV 2 hts gX11_before_X11_isKey rfl rfl rfl (by decide +kernel) ⟨Nat.le_of_ble_eq_true rfl, Nat.le_of_ble_eq_true rfl⟩) rfl rfl (Nat.le_of_ble_eq_true rfl) dX11_before_3 ⟨Nat.zero_le _, Nat.zero_le _⟩ (fun locs hS => ?_)
    refine q_if_eq (pc := 6) (tgt := 18) hx hb dX11_before_6 (by decide) rfl hf (fun hf => ?_) (fun hf => ?_)
    · refine lv_ldc (pc := 18) (v := (-1000000)) hx hb hown w_1 dX11_before_18 ?_
      obtain ⟨e90, e91, e92⟩ := q_inj3 (Option.some.inj hf)
      rw [hQ, ← e90, ← e91, ← e92]
      exact q_iret (pc := 20) hx hb hr hlocks hP hD hS dX11_before_20
    · refine lv_aload_n (pc := 9) hx hb dX11_before_9 rfl (lv_at hl 0 rfl) ?_
      refine lv_iload_n (pc := 10) hx hb dX11_before_10 rfl (lv_at hl 1 rfl) ?_
      refine lv_iload_n (pc := 11) hx hb dX11_before_11 rfl (lv_at hl 3 rfl) ?_
      obtain ⟨v2, hm12, hf⟩ := q_b1_e hf
      refine q_cVr (pc := 12) (As := [.int p1, .int p3]) (rest := []) (v0 := (some (.int v2))) ⟨hx, hb, hml, hown, hts⟩ hK hA hZ hP hD hS hl.1 [0, 3, 4, 5] 8 rfl ⟨rfl, rfl, rfl⟩ (c_M_isKey l D ci A sa N (Rw) a_m a_m_cutRows a_m_cutColumns a_m_deep a_m_wide a_m_zonesAhead a_m_nameOne a_m_nameOther a_m_tape a_m_edges a_m_dist a_m_queue a_m_pieceLevel a_m_pieceKey a_m_pieceYear a_m_drawnKeys a_m_kept a_m_noNumbers m_taped m_place m_fault m_number m_levelRead m_keyRead m_reads m_faults m_cutShort m_noNumber m_bottomLat m_bottomLon m_firstBeside m_manyBeside m_queued m_boxLevel m_boxTop m_boxBottom m_boxWest m_boxEast m_isEarly m_pieces m_states m_drawnNow m_keptAt m_deep m_wide m_zonesAhead p1 p3 v2 hm12) 0 rfl rfl (cwV 2 hts gX11_before_X11_isKey rfl rfl rfl (by decide +kernel) ⟨Nat.le_of_ble_eq_true rfl, Nat.le_of_ble_eq_true rfl⟩) rfl rfl (Nat.le_of_ble_eq_true rfl) dX11_before_12 ⟨Nat.zero_le _, Nat.zero_le _⟩ (fun locs hS => ?_)
      refine q_if_ne (pc := 15) (tgt := 21) hx hb dX11_before_15 (by decide) rfl hf (fun hf => ?_) (fun hf => ?_)
      · refine lv_aload_n (pc := 21) hx hb dX11_before_21 rfl (lv_at hl 0 rfl) ?_
        refine lv_iload_n (pc := 22) hx hb dX11_before_22 rfl (lv_at hl 1 rfl) ?_
        refine lv_iload_n (pc := 23) hx hb dX11_before_23 rfl (lv_at hl 2 rfl) ?_
        refine lv_aload_n (pc := 24) hx hb dX11_before_24 rfl (lv_at hl 0 rfl) ?_
        refine va_get (pc := 25) (D := D) (ci := 11) (v := .ref a_m_nameOne) (C := RX11) (T := TX11) (N := 42) hx hb hts hinX11 hown hK hP 0 rfl rfl 5 (by decide) w_2 (fun _ h9 => h9) rfl dX11_before_25 ?_
        obtain ⟨v3, f4, hm28, hf⟩ := q_b2_e hf
        refine q_cV (pc := 28) (As := [.int p1, .int p2, .ref a_m_nameOne]) (rest := []) (v0 := (some (.int v3))) ⟨hx, hb, hml, hown, hts⟩ hK hA hZ hP hD hS hl.1 [0, 1, 2, 3, 4, 5, 6, 7] 8 rfl ⟨rfl, rfl, rfl⟩ (c_M_spells l D ci A sa N ((a_m_nameOther, .inl (ci 0, 20, .inl m_nameOther)) :: Rw) a_m a_m_cutRows a_m_cutColumns a_m_deep a_m_wide a_m_zonesAhead a_m_nameOne a_m_nameOne a_m_nameOther a_m_tape a_m_edges a_m_dist a_m_queue a_m_pieceLevel a_m_pieceKey a_m_pieceYear a_m_drawnKeys a_m_kept a_m_noNumbers m_taped m_place m_fault m_number m_levelRead m_keyRead m_reads m_faults m_cutShort m_noNumber m_bottomLat m_bottomLon m_firstBeside m_manyBeside m_queued m_boxLevel m_boxTop m_boxBottom m_boxWest m_boxEast m_isEarly m_pieces m_states m_drawnNow m_keptAt m_cutRows m_cutColumns m_deep m_wide m_zonesAhead m_nameOne p1 p2 v3 f4 hm28) 0 rfl rfl (cwV 3 hts gX11_before_X11_spells rfl rfl rfl (by decide +kernel) ⟨Nat.le_of_ble_eq_true rfl, Nat.le_of_ble_eq_true rfl⟩) rfl rfl (Nat.le_of_ble_eq_true rfl) dX11_before_28 ⟨Nat.zero_le _, Nat.zero_le _⟩ [0, 1, 2, 3, 4, 5, 6, 7] 8 rfl ⟨rfl, rfl, rfl⟩ (fun H locs hP hD hS => ?_)
        obtain ⟨hP, hD⟩ : va_PD D A ((a_m, .inr (11, (.ref a_m_cutRows :: .ref a_m_cutColumns :: .ref a_m_deep :: .ref a_m_wide :: .ref a_m_zonesAhead :: .ref a_m_nameOne :: .ref a_m_nameOther :: .ref a_m_tape :: .int m_taped :: .int m_place :: .int m_fault :: .int m_number :: .int m_levelRead :: .int m_keyRead :: .int m_reads :: .int m_faults :: .int m_cutShort :: .int m_noNumber :: .long m_bottomLat :: .long m_bottomLon :: .ref a_m_edges :: .int m_firstBeside :: .int m_manyBeside :: .ref a_m_dist :: .ref a_m_queue :: .int m_queued :: .int m_boxLevel :: .int m_boxTop :: .int m_boxBottom :: .int m_boxWest :: .int m_boxEast :: .int m_isEarly :: .int m_pieces :: .int m_states :: .ref a_m_pieceLevel :: .ref a_m_pieceKey :: .ref a_m_pieceYear :: .int m_drawnNow :: .ref a_m_drawnKeys :: .ref a_m_kept :: .int m_keptAt :: .ref a_m_noNumbers :: []))) :: (a_m_cutRows, .inl (ci 0, 5, .inl m_cutRows)) :: (a_m_cutColumns, .inl (ci 0, 5, .inl m_cutColumns)) :: (a_m_deep, .inl (ci 0, 5, .inl m_deep)) :: (a_m_wide, .inl (ci 0, 5, .inl m_wide)) :: (a_m_zonesAhead, .inl (ci 0, 45, .inl m_zonesAhead)) :: (a_m_nameOne, .inl (ci 0, 20, .inl f4)) :: (a_m_nameOther, .inl (ci 0, 20, .inl m_nameOther)) :: Rw) H := ⟨hP, hD⟩
        refine lv_istore (pc := 31) (lv' := [(4, .int v3), (0, .ref a_m), (1, .int p1), (2, .int p2), (3, .int p3)]) hx hb dX11_before_31 hl (by decide) rfl (fun ls hl => ?_)
        refine lv_aload_n (pc := 33) hx hb dX11_before_33 rfl (lv_at hl 1 rfl) ?_
        refine lv_iload_n (pc := 34) hx hb dX11_before_34 rfl (lv_at hl 2 rfl) ?_
        refine lv_iload_n (pc := 35) hx hb dX11_before_35 rfl (lv_at hl 4 rfl) ?_
        refine lv_aload_n (pc := 36) hx hb dX11_before_36 rfl (lv_at hl 1 rfl) ?_
        refine va_get (pc := 37) (D := D) (ci := 11) (v := .ref a_m_nameOther) (C := RX11) (T := TX11) (N := 42) hx hb hts hinX11 hown hK hP 0 rfl rfl 6 (by decide) w_3 (fun _ h9 => h9) rfl dX11_before_37 ?_
        obtain ⟨v5, f6, hm40, hf⟩ := q_b2_e hf
        refine q_cV (pc := 40) (As := [.int p1, .int p3, .ref a_m_nameOther]) (rest := []) (v0 := (some (.int v5))) ⟨hx, hb, hml, hown, hts⟩ hK hA hZ hP hD hS hl.1 [0, 1, 2, 3, 4, 5, 7, 6] 8 rfl ⟨rfl, rfl, rfl⟩ (c_M_spells l D ci A sa N ((a_m_nameOne, .inl (ci 0, 20, .inl f4)) :: Rw) a_m a_m_cutRows a_m_cutColumns a_m_deep a_m_wide a_m_zonesAhead a_m_nameOther a_m_nameOne a_m_nameOther a_m_tape a_m_edges a_m_dist a_m_queue a_m_pieceLevel a_m_pieceKey a_m_pieceYear a_m_drawnKeys a_m_kept a_m_noNumbers m_taped m_place m_fault m_number m_levelRead m_keyRead m_reads m_faults m_cutShort m_noNumber m_bottomLat m_bottomLon m_firstBeside m_manyBeside m_queued m_boxLevel m_boxTop m_boxBottom m_boxWest m_boxEast m_isEarly m_pieces m_states m_drawnNow m_keptAt m_cutRows m_cutColumns m_deep m_wide m_zonesAhead m_nameOther p1 p3 v5 f6 hm40) 0 rfl rfl (cwV 3 hts gX11_before_X11_spells rfl rfl rfl (by decide +kernel) ⟨Nat.le_of_ble_eq_true rfl, Nat.le_of_ble_eq_true rfl⟩) rfl rfl (Nat.le_of_ble_eq_true rfl) dX11_before_40 ⟨Nat.zero_le _, Nat.zero_le _⟩ [0, 1, 2, 3, 4, 5, 7, 6] 8 rfl ⟨rfl, rfl, rfl⟩ (fun H locs hP hD hS => ?_)
        obtain ⟨hP, hD⟩ : va_PD D A ((a_m, .inr (11, (.ref a_m_cutRows :: .ref a_m_cutColumns :: .ref a_m_deep :: .ref a_m_wide :: .ref a_m_zonesAhead :: .ref a_m_nameOne :: .ref a_m_nameOther :: .ref a_m_tape :: .int m_taped :: .int m_place :: .int m_fault :: .int m_number :: .int m_levelRead :: .int m_keyRead :: .int m_reads :: .int m_faults :: .int m_cutShort :: .int m_noNumber :: .long m_bottomLat :: .long m_bottomLon :: .ref a_m_edges :: .int m_firstBeside :: .int m_manyBeside :: .ref a_m_dist :: .ref a_m_queue :: .int m_queued :: .int m_boxLevel :: .int m_boxTop :: .int m_boxBottom :: .int m_boxWest :: .int m_boxEast :: .int m_isEarly :: .int m_pieces :: .int m_states :: .ref a_m_pieceLevel :: .ref a_m_pieceKey :: .ref a_m_pieceYear :: .int m_drawnNow :: .ref a_m_drawnKeys :: .ref a_m_kept :: .int m_keptAt :: .ref a_m_noNumbers :: []))) :: (a_m_cutRows, .inl (ci 0, 5, .inl m_cutRows)) :: (a_m_cutColumns, .inl (ci 0, 5, .inl m_cutColumns)) :: (a_m_deep, .inl (ci 0, 5, .inl m_deep)) :: (a_m_wide, .inl (ci 0, 5, .inl m_wide)) :: (a_m_zonesAhead, .inl (ci 0, 45, .inl m_zonesAhead)) :: (a_m_nameOne, .inl (ci 0, 20, .inl f4)) :: (a_m_nameOther, .inl (ci 0, 20, .inl f6)) :: Rw) H := ⟨hP, hD⟩
        refine lv_istore (pc := 43) (lv' := [(5, .int v5), (4, .int v3), (0, .ref a_m), (1, .int p1), (2, .int p2), (3, .int p3)]) hx hb dX11_before_43 hl (by decide) rfl (fun ls hl => ?_)
        refine lv_iconst (pc := 45) (v := 0) hx hb dX11_before_45 (by decide) ?_
        obtain ⟨v7, ev7, hf⟩ := q_nm_e hf
        refine q_topi ev7 ?_
        refine lv_istore (pc := 46) (lv' := [(6, .int v7), (5, .int v5), (4, .int v3), (0, .ref a_m), (1, .int p1), (2, .int p2), (3, .int p3)]) hx hb dX11_before_46 hl (by decide) rfl (fun ls hl => ?_)
        obtain ⟨k48, o48_, ek48, hm48, hk48⟩ := q_s0_k hf
        have JE48 : ∀  (H : Heap) (locs : List Loc) (ls : Array Slot), k48 = some (r, o1, o2) → va_P D vwCl ((a_m, .inr (11, (.ref a_m_cutRows :: .ref a_m_cutColumns :: .ref a_m_deep :: .ref a_m_wide :: .ref a_m_zonesAhead :: .ref a_m_nameOne :: .ref a_m_nameOther :: .ref a_m_tape :: .int m_taped :: .int m_place :: .int m_fault :: .int m_number :: .int m_levelRead :: .int m_keyRead :: .int m_reads :: .int m_faults :: .int m_cutShort :: .int m_noNumber :: .long m_bottomLat :: .long m_bottomLon :: .ref a_m_edges :: .int m_firstBeside :: .int m_manyBeside :: .ref a_m_dist :: .ref a_m_queue :: .int m_queued :: .int m_boxLevel :: .int m_boxTop :: .int m_boxBottom :: .int m_boxWest :: .int m_boxEast :: .int m_isEarly :: .int m_pieces :: .int m_states :: .ref a_m_pieceLevel :: .ref a_m_pieceKey :: .ref a_m_pieceYear :: .int m_drawnNow :: .ref a_m_drawnKeys :: .ref a_m_kept :: .int m_keptAt :: .ref a_m_noNumbers :: []))) :: (a_m_cutRows, .inl (ci 0, 5, .inl m_cutRows)) :: (a_m_cutColumns, .inl (ci 0, 5, .inl m_cutColumns)) :: (a_m_deep, .inl (ci 0, 5, .inl m_deep)) :: (a_m_wide, .inl (ci 0, 5, .inl m_wide)) :: (a_m_zonesAhead, .inl (ci 0, 45, .inl m_zonesAhead)) :: (a_m_nameOne, .inl (ci 0, 20, .inl f4)) :: (a_m_nameOther, .inl (ci 0, 20, .inl f6)) :: Rw) H → va_D A ((a_m, .inr (11, (.ref a_m_cutRows :: .ref a_m_cutColumns :: .ref a_m_deep :: .ref a_m_wide :: .ref a_m_zonesAhead :: .ref a_m_nameOne :: .ref a_m_nameOther :: .ref a_m_tape :: .int m_taped :: .int m_place :: .int m_fault :: .int m_number :: .int m_levelRead :: .int m_keyRead :: .int m_reads :: .int m_faults :: .int m_cutShort :: .int m_noNumber :: .long m_bottomLat :: .long m_bottomLon :: .ref a_m_edges :: .int m_firstBeside :: .int m_manyBeside :: .ref a_m_dist :: .ref a_m_queue :: .int m_queued :: .int m_boxLevel :: .int m_boxTop :: .int m_boxBottom :: .int m_boxWest :: .int m_boxEast :: .int m_isEarly :: .int m_pieces :: .int m_states :: .ref a_m_pieceLevel :: .ref a_m_pieceKey :: .ref a_m_pieceYear :: .int m_drawnNow :: .ref a_m_drawnKeys :: .ref a_m_kept :: .int m_keptAt :: .ref a_m_noNumbers :: []))) :: (a_m_cutRows, .inl (ci 0, 5, .inl m_cutRows)) :: (a_m_cutColumns, .inl (ci 0, 5, .inl m_cutColumns)) :: (a_m_deep, .inl (ci 0, 5, .inl m_deep)) :: (a_m_wide, .inl (ci 0, 5, .inl m_wide)) :: (a_m_zonesAhead, .inl (ci 0, 45, .inl m_zonesAhead)) :: (a_m_nameOne, .inl (ci 0, 20, .inl f4)) :: (a_m_nameOther, .inl (ci 0, 20, .inl f6)) :: Rw) → va_S A s.heap H locs → lv_has ls 7 [(4, .int v3), (5, .int v5)] → W p l e ({ frames := 5, cells := 0, slots := 0, locals := 117 } : Room) s m ([.ref a_m, .int p1, .int p2, .int p3] : List Value).toArray below meth c H locs 0 0 Q (F0 m 108 ls []) := by
          intro  H locs ls hf hP hD hS hl
          have hf := (ek48).symm.trans hf
          refine lv_iload (pc := 108) hx hb dX11_before_108 (lv_at hl 0 rfl) ?_
          refine lv_iload (pc := 110) hx hb dX11_before_110 (lv_at hl 1 rfl) ?_
          refine q_icmp_ge (pc := 112) (tgt := 119) hx hb dX11_before_112 (by decide) rfl hf (fun hf => ?_) (fun hf => ?_)
          · refine lv_iload (pc := 119) hx hb dX11_before_119 (lv_at hl 0 rfl) ?_
            refine lv_iload (pc := 121) hx hb dX11_before_121 (lv_at hl 1 rfl) ?_
            refine q_icmp_le (pc := 123) (tgt := 130) hx hb dX11_before_123 (by decide) rfl hf (fun hf => ?_) (fun hf => ?_)
            · refine lv_iconst (pc := 130) (v := 0) hx hb dX11_before_130 (by decide) ?_
              obtain ⟨e90, e91, e92⟩ := q_inj3 (Option.some.inj hf)
              rw [hQ, ← e90, ← e91, ← e92]
              exact q_iret (pc := 131) hx hb hr hlocks hP hD hS dX11_before_131
            · refine lv_iconst (pc := 126) (v := 1) hx hb dX11_before_126 (by decide) ?_
              refine lv_goto (pc := 127) (tgt := 131) hx hb dX11_before_127 (by decide) ?_
              obtain ⟨e90, e91, e92⟩ := q_inj3 (Option.some.inj hf)
              rw [hQ, ← e90, ← e91, ← e92]
              exact q_iret (pc := 131) hx hb hr hlocks hP hD hS dX11_before_131
          · refine lv_iconst (pc := 115) (v := (-1)) hx hb dX11_before_115 (by decide) ?_
            refine lv_goto (pc := 116) (tgt := 131) hx hb dX11_before_116 (by decide) ?_
            obtain ⟨e90, e91, e92⟩ := q_inj3 (Option.some.inj hf)
            rw [hQ, ← e90, ← e91, ← e92]
            exact q_iret (pc := 131) hx hb hr hlocks hP hD hS dX11_before_131
        have LP48 : ∀ (n48 : Nat) (v8 : Int32) (H : Heap) (locs : List Loc) (ls : Array Slot), f_M_before_L48 f4 f6 v3 v5 n48 v8 = some o48_ → va_P D vwCl ((a_m, .inr (11, (.ref a_m_cutRows :: .ref a_m_cutColumns :: .ref a_m_deep :: .ref a_m_wide :: .ref a_m_zonesAhead :: .ref a_m_nameOne :: .ref a_m_nameOther :: .ref a_m_tape :: .int m_taped :: .int m_place :: .int m_fault :: .int m_number :: .int m_levelRead :: .int m_keyRead :: .int m_reads :: .int m_faults :: .int m_cutShort :: .int m_noNumber :: .long m_bottomLat :: .long m_bottomLon :: .ref a_m_edges :: .int m_firstBeside :: .int m_manyBeside :: .ref a_m_dist :: .ref a_m_queue :: .int m_queued :: .int m_boxLevel :: .int m_boxTop :: .int m_boxBottom :: .int m_boxWest :: .int m_boxEast :: .int m_isEarly :: .int m_pieces :: .int m_states :: .ref a_m_pieceLevel :: .ref a_m_pieceKey :: .ref a_m_pieceYear :: .int m_drawnNow :: .ref a_m_drawnKeys :: .ref a_m_kept :: .int m_keptAt :: .ref a_m_noNumbers :: []))) :: (a_m_cutRows, .inl (ci 0, 5, .inl m_cutRows)) :: (a_m_cutColumns, .inl (ci 0, 5, .inl m_cutColumns)) :: (a_m_deep, .inl (ci 0, 5, .inl m_deep)) :: (a_m_wide, .inl (ci 0, 5, .inl m_wide)) :: (a_m_zonesAhead, .inl (ci 0, 45, .inl m_zonesAhead)) :: (a_m_nameOne, .inl (ci 0, 20, .inl f4)) :: (a_m_nameOther, .inl (ci 0, 20, .inl f6)) :: Rw) H → va_D A ((a_m, .inr (11, (.ref a_m_cutRows :: .ref a_m_cutColumns :: .ref a_m_deep :: .ref a_m_wide :: .ref a_m_zonesAhead :: .ref a_m_nameOne :: .ref a_m_nameOther :: .ref a_m_tape :: .int m_taped :: .int m_place :: .int m_fault :: .int m_number :: .int m_levelRead :: .int m_keyRead :: .int m_reads :: .int m_faults :: .int m_cutShort :: .int m_noNumber :: .long m_bottomLat :: .long m_bottomLon :: .ref a_m_edges :: .int m_firstBeside :: .int m_manyBeside :: .ref a_m_dist :: .ref a_m_queue :: .int m_queued :: .int m_boxLevel :: .int m_boxTop :: .int m_boxBottom :: .int m_boxWest :: .int m_boxEast :: .int m_isEarly :: .int m_pieces :: .int m_states :: .ref a_m_pieceLevel :: .ref a_m_pieceKey :: .ref a_m_pieceYear :: .int m_drawnNow :: .ref a_m_drawnKeys :: .ref a_m_kept :: .int m_keptAt :: .ref a_m_noNumbers :: []))) :: (a_m_cutRows, .inl (ci 0, 5, .inl m_cutRows)) :: (a_m_cutColumns, .inl (ci 0, 5, .inl m_cutColumns)) :: (a_m_deep, .inl (ci 0, 5, .inl m_deep)) :: (a_m_wide, .inl (ci 0, 5, .inl m_wide)) :: (a_m_zonesAhead, .inl (ci 0, 45, .inl m_zonesAhead)) :: (a_m_nameOne, .inl (ci 0, 20, .inl f4)) :: (a_m_nameOther, .inl (ci 0, 20, .inl f6)) :: Rw) → va_S A s.heap H locs → lv_has ls 7 [(0, .ref a_m), (4, .int v3), (5, .int v5), (6, .int v8)] → W p l e ({ frames := 5, cells := 0, slots := 0, locals := 117 } : Room) s m ([.ref a_m, .int p1, .int p2, .int p3] : List Value).toArray below meth c H locs 0 0 Q (F0 m 48 ls []) := by
          intro n48
          induction n48 with
          | zero => intro v8 H locs ls hf; rw [f_M_before_L48] at hf; cases hf
          | succ n48 ih48 =>
            intro v8 H locs ls hf hP hD hS hl
            rw [f_M_before_L48] at hf
            refine lv_iload (pc := 48) hx hb dX11_before_48 (lv_at hl 3 rfl) ?_
            refine lv_iload (pc := 50) hx hb dX11_before_50 (lv_at hl 1 rfl) ?_
            refine q_icmp_ge (pc := 52) (tgt := 108) hx hb dX11_before_52 (by decide) rfl hf (fun hf => ?_) (fun hf => ?_)
            · obtain rfl := Option.some.inj hf
              exact JE48  _ _ _ hk48 hP hD hS (lv_sub hl [1, 2] rfl)
            · refine lv_iload (pc := 55) hx hb dX11_before_55 (lv_at hl 3 rfl) ?_
              refine lv_iload (pc := 57) hx hb dX11_before_57 (lv_at hl 2 rfl) ?_
              refine q_icmp_ge (pc := 59) (tgt := 108) hx hb dX11_before_59 (by decide) rfl hf (fun hf => ?_) (fun hf => ?_)
              · obtain rfl := Option.some.inj hf
                exact JE48  _ _ _ hk48 hP hD hS (lv_sub hl [1, 2] rfl)
              · refine lv_aload_n (pc := 62) hx hb dX11_before_62 rfl (lv_at hl 0 rfl) ?_
                refine va_get (pc := 63) (D := D) (ci := 11) (v := .ref a_m_nameOne) (C := RX11) (T := TX11) (N := 42) hx hb hts hinX11 hown hK hP 0 rfl rfl 5 (by decide) w_2 (fun _ h9 => h9) rfl dX11_before_63 ?_
                refine lv_iload (pc := 66) hx hb dX11_before_66 (lv_at hl 3 rfl) ?_
                refine q_iald (pc := 68) hx hb hK hP 6 0 hf rfl rfl dX11_before_68 (fun v9 hf => ?_)
                refine lv_aload_n (pc := 69) hx hb dX11_before_69 rfl (lv_at hl 0 rfl) ?_
                refine va_get (pc := 70) (D := D) (ci := 11) (v := .ref a_m_nameOther) (C := RX11) (T := TX11) (N := 42) hx hb hts hinX11 hown hK hP 0 rfl rfl 6 (by decide) w_3 (fun _ h9 => h9) rfl dX11_before_70 ?_
                refine lv_iload (pc := 73) hx hb dX11_before_73 (lv_at hl 3 rfl) ?_
                refine q_iald (pc := 75) hx hb hK hP 7 0 hf rfl rfl dX11_before_75 (fun v10 hf => ?_)
                refine q_icmp_eq (pc := 76) (tgt := 102) hx hb dX11_before_76 (by decide) rfl hf (fun hf => ?_) (fun hf => ?_)
                · obtain ⟨v11, ev11, hf⟩ := q_nm_e hf
                  refine lv_iinc (pc := 102) (v := v11) (lv' := [(6, .int v11), (0, .ref a_m), (4, .int v3), (5, .int v5)]) hx hb dX11_before_102 hl (k := 3) rfl (by rw [ev11]; rfl) (by decide) rfl (fun ls hl => ?_)
                  refine lv_goto (pc := 105) (tgt := 48) hx hb dX11_before_105 (by decide) ?_
                  exact ih48 v11 _ _ _ hf hP hD hS (lv_sub hl [1, 2, 3, 0] rfl)
                · refine lv_aload_n (pc := 79) hx hb dX11_before_79 rfl (lv_at hl 0 rfl) ?_
                  refine va_get (pc := 80) (D := D) (ci := 11) (v := .ref a_m_nameOne) (C := RX11) (T := TX11) (N := 42) hx hb hts hinX11 hown hK hP 0 rfl rfl 5 (by decide) w_2 (fun _ h9 => h9) rfl dX11_before_80 ?_
                  refine lv_iload (pc := 83) hx hb dX11_before_83 (lv_at hl 3 rfl) ?_
                  refine q_iald (pc := 85) hx hb hK hP 6 0 hf rfl rfl dX11_before_85 (fun v12 hf => ?_)
                  refine lv_aload_n (pc := 86) hx hb dX11_before_86 rfl (lv_at hl 0 rfl) ?_
                  refine va_get (pc := 87) (D := D) (ci := 11) (v := .ref a_m_nameOther) (C := RX11) (T := TX11) (N := 42) hx hb hts hinX11 hown hK hP 0 rfl rfl 6 (by decide) w_3 (fun _ h9 => h9) rfl dX11_before_87 ?_
                  refine lv_iload (pc := 90) hx hb dX11_before_90 (lv_at hl 3 rfl) ?_
                  refine q_iald (pc := 92) hx hb hK hP 7 0 hf rfl rfl dX11_before_92 (fun v13 hf => ?_)
                  refine q_icmp_ge (pc := 93) (tgt := 100) hx hb dX11_before_93 (by decide) rfl hf (fun hf => ?_) (fun hf => ?_)
                  · refine lv_iconst (pc := 100) (v := 1) hx hb dX11_before_100 (by decide) ?_
                    obtain rfl := Option.some.inj hf
                    have hk48 : ((1, f4, f6) : Int32 × (Nat → Int32) × (Nat → Int32)) = (r, o1, o2) := hk48
                    obtain ⟨e90, e91, e92⟩ := q_inj3 (hk48)
                    rw [hQ, ← e90, ← e91, ← e92]
                    exact q_iret (pc := 101) hx hb hr hlocks hP hD hS dX11_before_101
                  · refine lv_iconst (pc := 96) (v := (-1)) hx hb dX11_before_96 (by decide) ?_
                    refine lv_goto (pc := 97) (tgt := 101) hx hb dX11_before_97 (by decide) ?_
                    obtain rfl := Option.some.inj hf
                    have hk48 : (((-1), f4, f6) : Int32 × (Nat → Int32) × (Nat → Int32)) = (r, o1, o2) := hk48
                    obtain ⟨e90, e91, e92⟩ := q_inj3 (hk48)
                    rw [hQ, ← e90, ← e91, ← e92]
                    exact q_iret (pc := 101) hx hb hr hlocks hP hD hS dX11_before_101
        exact LP48 N v7 _ _ _ hm48 hP hD hS (lv_sub hl [3, 2, 1, 0] rfl)
      · refine lv_ldc (pc := 18) (v := (-1000000)) hx hb hown w_1 dX11_before_18 ?_
        obtain ⟨e90, e91, e92⟩ := q_inj3 (Option.some.inj hf)
        rw [hQ, ← e90, ← e91, ← e92]
        exact q_iret (pc := 20) hx hb hr hlocks hP hD hS dX11_before_20
  exact hgo _ _ rfl hP hS
/-! X11_between -/
set_option maxRecDepth 100000 in
set_option maxHeartbeats 4000000 in
theorem c_M_between (l : Launch) (D : va_G) (ci : Nat → ClassId) (A : Nat → Prop) (sa : Nat → Nat) (N : Nat) (Rw : va_W) (a_m : Nat) (a_m_cutRows : Nat) (a_m_cutColumns : Nat) (a_m_deep : Nat) (a_m_wide : Nat) (a_m_zonesAhead : Nat) (a_m_nameOne : Nat) (a_m_nameOther : Nat) (a_m_tape : Nat) (a_m_edges : Nat) (a_m_dist : Nat) (a_m_queue : Nat) (a_m_pieceLevel : Nat) (a_m_pieceKey : Nat) (a_m_pieceYear : Nat) (a_m_drawnKeys : Nat) (a_m_kept : Nat) (a_m_noNumbers : Nat) (m_taped : Int32) (m_place : Int32) (m_fault : Int32) (m_number : Int32) (m_levelRead : Int32) (m_keyRead : Int32) (m_reads : Int32) (m_faults : Int32) (m_cutShort : Int32) (m_noNumber : Int32) (m_bottomLat : Int64) (m_bottomLon : Int64) (m_firstBeside : Int32) (m_manyBeside : Int32) (m_queued : Int32) (m_boxLevel : Int32) (m_boxTop : Int32) (m_boxBottom : Int32) (m_boxWest : Int32) (m_boxEast : Int32) (m_isEarly : Int32) (m_pieces : Int32) (m_states : Int32) (m_drawnNow : Int32) (m_keptAt : Int32) (m_deep : Nat → Int32) (m_wide : Nat → Int32) (m_zonesAhead : Nat → Int32) (m_edges : Nat → Int64) (p1 : Int32) (p2 : Int32) (p3 : Int32) (r : Int32) (o1 : Int64) (o2 : Int64) (o3 : Nat → Int64) (o4 : Int32) (o5 : Int32) (o6 : Int32) (o7 : Int32) (o8 : Int32) (hf : f_M_between N m_deep m_wide m_zonesAhead m_bottomLat m_bottomLon m_edges m_boxLevel m_boxTop m_boxBottom m_boxWest m_boxEast p1 p2 p3 = some (r, o1, o2, o3, o4, o5, o6, o7, o8)) : Met l yX11_between wsX11_between ({ frames := 7, cells := 0, slots := 0, locals := 159 }) (va_Pc [.ref a_m, .int p1, .int p2, .int p3] (q_N D ci A sa ((a_m, .inr (11, (.ref a_m_cutRows :: .ref a_m_cutColumns :: .ref a_m_deep :: .ref a_m_wide :: .ref a_m_zonesAhead :: .ref a_m_nameOne :: .ref a_m_nameOther :: .ref a_m_tape :: .int m_taped :: .int m_place :: .int m_fault :: .int m_number :: .int m_levelRead :: .int m_keyRead :: .int m_reads :: .int m_faults :: .int m_cutShort :: .int m_noNumber :: .long m_bottomLat :: .long m_bottomLon :: .ref a_m_edges :: .int m_firstBeside :: .int m_manyBeside :: .ref a_m_dist :: .ref a_m_queue :: .int m_queued :: .int m_boxLevel :: .int m_boxTop :: .int m_boxBottom :: .int m_boxWest :: .int m_boxEast :: .int m_isEarly :: .int m_pieces :: .int m_states :: .ref a_m_pieceLevel :: .ref a_m_pieceKey :: .ref a_m_pieceYear :: .int m_drawnNow :: .ref a_m_drawnKeys :: .ref a_m_kept :: .int m_keptAt :: .ref a_m_noNumbers :: []))) :: (a_m_deep, .inl (ci 0, 5, .inl m_deep)) :: (a_m_wide, .inl (ci 0, 5, .inl m_wide)) :: (a_m_zonesAhead, .inl (ci 0, 45, .inl m_zonesAhead)) :: (a_m_edges, .inl (ci 1, 4, .inr (.inl m_edges))) :: Rw))) (q_Q (some (.int r)) (q_O D A ((a_m, .inr (11, (.ref a_m_cutRows :: .ref a_m_cutColumns :: .ref a_m_deep :: .ref a_m_wide :: .ref a_m_zonesAhead :: .ref a_m_nameOne :: .ref a_m_nameOther :: .ref a_m_tape :: .int m_taped :: .int m_place :: .int m_fault :: .int m_number :: .int m_levelRead :: .int m_keyRead :: .int m_reads :: .int m_faults :: .int m_cutShort :: .int m_noNumber :: .long o1 :: .long o2 :: .ref a_m_edges :: .int m_firstBeside :: .int m_manyBeside :: .ref a_m_dist :: .ref a_m_queue :: .int m_queued :: .int o4 :: .int o5 :: .int o6 :: .int o7 :: .int o8 :: .int m_isEarly :: .int m_pieces :: .int m_states :: .ref a_m_pieceLevel :: .ref a_m_pieceKey :: .ref a_m_pieceYear :: .int m_drawnNow :: .ref a_m_drawnKeys :: .ref a_m_kept :: .int m_keptAt :: .ref a_m_noNumbers :: []))) :: (a_m_deep, .inl (ci 0, 5, .inl m_deep)) :: (a_m_wide, .inl (ci 0, 5, .inl m_wide)) :: (a_m_zonesAhead, .inl (ci 0, 45, .inl m_zonesAhead)) :: (a_m_edges, .inl (ci 1, 4, .inr (.inl o3))) :: Rw)) A) 0 0 A := by
  refine q_ofW (cc := cX11_between) (maxL := 4) (ret := (some .int)) [.ref a_m, .int p1, .int p2, .int p3] (plainFor_of_name (by decide)) rfl (Nat.le_of_ble_eq_true rfl) ?_
  intro p e s m below meth c ls Q hQ hx hb hml hr hts hown hlocks hK hA hZ hP hD hS hl
  have hl : lv_has ls 4 [(0, .ref a_m), (1, .int p1), (2, .int p2), (3, .int p3)] := hl
  have hown : s.vm.findClass RX11 = some m.cls := hown
  unfold f_M_between at hf
  have hgo : ∀ (H : Heap) (locs : List Loc), H = s.heap → va_P D vwCl ((a_m, .inr (11, (.ref a_m_cutRows :: .ref a_m_cutColumns :: .ref a_m_deep :: .ref a_m_wide :: .ref a_m_zonesAhead :: .ref a_m_nameOne :: .ref a_m_nameOther :: .ref a_m_tape :: .int m_taped :: .int m_place :: .int m_fault :: .int m_number :: .int m_levelRead :: .int m_keyRead :: .int m_reads :: .int m_faults :: .int m_cutShort :: .int m_noNumber :: .long m_bottomLat :: .long m_bottomLon :: .ref a_m_edges :: .int m_firstBeside :: .int m_manyBeside :: .ref a_m_dist :: .ref a_m_queue :: .int m_queued :: .int m_boxLevel :: .int m_boxTop :: .int m_boxBottom :: .int m_boxWest :: .int m_boxEast :: .int m_isEarly :: .int m_pieces :: .int m_states :: .ref a_m_pieceLevel :: .ref a_m_pieceKey :: .ref a_m_pieceYear :: .int m_drawnNow :: .ref a_m_drawnKeys :: .ref a_m_kept :: .int m_keptAt :: .ref a_m_noNumbers :: []))) :: (a_m_deep, .inl (ci 0, 5, .inl m_deep)) :: (a_m_wide, .inl (ci 0, 5, .inl m_wide)) :: (a_m_zonesAhead, .inl (ci 0, 45, .inl m_zonesAhead)) :: (a_m_edges, .inl (ci 1, 4, .inr (.inl m_edges))) :: Rw) H → va_S A s.heap H locs → W p l e ({ frames := 7, cells := 0, slots := 0, locals := 159 } : Room) s m ([.ref a_m, .int p1, .int p2, .int p3] : List Value).toArray below meth c H locs 0 0 Q (F0 m 0 ls []) := by
    intro H locs hH hP hS
    refine lv_aload_n (pc := 0) hx hb dX11_between_0 rfl (lv_at hl 0 rfl) ?_
    refine lv_iload_n (pc := 1) hx hb dX11_between_1 rfl (lv_at hl 1 rfl) ?_
    refine lv_iload_n (pc := 2) hx hb dX11_between_2 rfl (lv_at hl 2 rfl) ?_
    obtain ⟨v1, hm3, hf⟩ := q_b1_e hf
    refine q_cVr (pc := 3) (As := [.int p1, .int p2]) (rest := []) (v0 := (some (.int v1))) ⟨hx, hb, hml, hown, hts⟩ hK hA hZ hP hD hS hl.1 [0, 1, 2, 3] 5 rfl ⟨rfl, rfl, rfl⟩ (c_M_isKey l D ci A sa N (Rw) a_m a_m_cutRows a_m_cutColumns a_m_deep a_m_wide a_m_zonesAhead a_m_nameOne a_m_nameOther a_m_tape a_m_edges a_m_dist a_m_queue a_m_pieceLevel a_m_pieceKey a_m_pieceYear a_m_drawnKeys a_m_kept a_m_noNumbers m_taped m_place m_fault m_number m_levelRead m_keyRead m_reads m_faults m_cutShort m_noNumber m_bottomLat m_bottomLon m_firstBeside m_manyBeside m_queued m_boxLevel m_boxTop m_boxBottom m_boxWest m_boxEast m_isEarly m_pieces m_states m_drawnNow m_keptAt m_deep m_wide m_zonesAhead p1 p2 v1 hm3) 0 rfl rfl (cwV 2 hts gX11_between_X11_isKey rfl rfl rfl (by decide +kernel) ⟨Nat.le_of_ble_eq_true rfl, Nat.le_of_ble_eq_true rfl⟩) rfl rfl (Nat.le_of_ble_eq_true rfl) dX11_between_3 ⟨Nat.zero_le _, Nat.zero_le _⟩ (fun locs hS => ?_)
    refine q_if_eq (pc := 6) (tgt := 28) hx hb dX11_between_6 (by decide) rfl hf (fun hf => ?_) (fun hf => ?_)
    · refine lv_iconst (pc := 28) (v := (-1)) hx hb dX11_between_28 (by decide) ?_
      obtain ⟨e90, e91, e92, e93, e94, e95, e96, e97, e98⟩ := q_inj9 (Option.some.inj hf)
      rw [hQ, ← e90, ← e91, ← e92, ← e93, ← e94, ← e95, ← e96, ← e97, ← e98]
      exact q_iret (pc := 29) hx hb hr hlocks hP hD hS dX11_between_29
    · refine lv_aload_n (pc := 9) hx hb dX11_between_9 rfl (lv_at hl 0 rfl) ?_
      refine lv_iload_n (pc := 10) hx hb dX11_between_10 rfl (lv_at hl 1 rfl) ?_
      refine lv_iload_n (pc := 11) hx hb dX11_between_11 rfl (lv_at hl 3 rfl) ?_
      obtain ⟨v2, hm12, hf⟩ := q_b1_e hf
      refine q_cVr (pc := 12) (As := [.int p1, .int p3]) (rest := []) (v0 := (some (.int v2))) ⟨hx, hb, hml, hown, hts⟩ hK hA hZ hP hD hS hl.1 [0, 1, 2, 3] 5 rfl ⟨rfl, rfl, rfl⟩ (c_M_isKey l D ci A sa N (Rw) a_m a_m_cutRows a_m_cutColumns a_m_deep a_m_wide a_m_zonesAhead a_m_nameOne a_m_nameOther a_m_tape a_m_edges a_m_dist a_m_queue a_m_pieceLevel a_m_pieceKey a_m_pieceYear a_m_drawnKeys a_m_kept a_m_noNumbers m_taped m_place m_fault m_number m_levelRead m_keyRead m_reads m_faults m_cutShort m_noNumber m_bottomLat m_bottomLon m_firstBeside m_manyBeside m_queued m_boxLevel m_boxTop m_boxBottom m_boxWest m_boxEast m_isEarly m_pieces m_states m_drawnNow m_keptAt m_deep m_wide m_zonesAhead p1 p3 v2 hm12) 0 rfl rfl (cwV 2 hts gX11_between_X11_isKey rfl rfl rfl (by decide +kernel) ⟨Nat.le_of_ble_eq_true rfl, Nat.le_of_ble_eq_true rfl⟩) rfl rfl (Nat.le_of_ble_eq_true rfl) dX11_between_12 ⟨Nat.zero_le _, Nat.zero_le _⟩ (fun locs hS => ?_)
      refine q_if_eq (pc := 15) (tgt := 28) hx hb dX11_between_15 (by decide) rfl hf (fun hf => ?_) (fun hf => ?_)
      · refine lv_iconst (pc := 28) (v := (-1)) hx hb dX11_between_28 (by decide) ?_
        obtain ⟨e90, e91, e92, e93, e94, e95, e96, e97, e98⟩ := q_inj9 (Option.some.inj hf)
        rw [hQ, ← e90, ← e91, ← e92, ← e93, ← e94, ← e95, ← e96, ← e97, ← e98]
        exact q_iret (pc := 29) hx hb hr hlocks hP hD hS dX11_between_29
      · refine lv_aload_n (pc := 18) hx hb dX11_between_18 rfl (lv_at hl 0 rfl) ?_
        refine lv_iload_n (pc := 19) hx hb dX11_between_19 rfl (lv_at hl 1 rfl) ?_
        refine lv_iload_n (pc := 20) hx hb dX11_between_20 rfl (lv_at hl 2 rfl) ?_
        refine lv_iload_n (pc := 21) hx hb dX11_between_21 rfl (lv_at hl 3 rfl) ?_
        obtain ⟨v3, v4, v5, f6, v7, v8, v9, v10, v11, hm22, hf⟩ := q_b9_e hf
        refine q_cV (pc := 22) (As := [.int p1, .int p2, .int p3]) (rest := []) (v0 := (some (.int v3))) ⟨hx, hb, hml, hown, hts⟩ hK hA hZ hP hD hS hl.1 [0, 1, 2, 3, 4] 5 rfl ⟨rfl, rfl, rfl⟩ (c_M_betweenOf l D ci A sa N (Rw) a_m a_m_cutRows a_m_cutColumns a_m_deep a_m_wide a_m_zonesAhead a_m_nameOne a_m_nameOther a_m_tape a_m_edges a_m_dist a_m_queue a_m_pieceLevel a_m_pieceKey a_m_pieceYear a_m_drawnKeys a_m_kept a_m_noNumbers m_taped m_place m_fault m_number m_levelRead m_keyRead m_reads m_faults m_cutShort m_noNumber m_bottomLat m_bottomLon m_firstBeside m_manyBeside m_queued m_boxLevel m_boxTop m_boxBottom m_boxWest m_boxEast m_isEarly m_pieces m_states m_drawnNow m_keptAt m_deep m_wide m_zonesAhead m_edges p1 p2 p3 v3 v4 v5 f6 v7 v8 v9 v10 v11 hm22) 0 rfl rfl (cwV 3 hts gX11_between_X11_betweenOf rfl rfl rfl (by decide +kernel) ⟨Nat.le_of_ble_eq_true rfl, Nat.le_of_ble_eq_true rfl⟩) rfl rfl (Nat.le_of_ble_eq_true rfl) dX11_between_22 ⟨Nat.zero_le _, Nat.zero_le _⟩ [0, 1, 2, 3, 4] 5 rfl ⟨rfl, rfl, rfl⟩ (fun H locs hP hD hS => ?_)
        obtain ⟨hP, hD⟩ : va_PD D A ((a_m, .inr (11, (.ref a_m_cutRows :: .ref a_m_cutColumns :: .ref a_m_deep :: .ref a_m_wide :: .ref a_m_zonesAhead :: .ref a_m_nameOne :: .ref a_m_nameOther :: .ref a_m_tape :: .int m_taped :: .int m_place :: .int m_fault :: .int m_number :: .int m_levelRead :: .int m_keyRead :: .int m_reads :: .int m_faults :: .int m_cutShort :: .int m_noNumber :: .long v4 :: .long v5 :: .ref a_m_edges :: .int m_firstBeside :: .int m_manyBeside :: .ref a_m_dist :: .ref a_m_queue :: .int m_queued :: .int v7 :: .int v8 :: .int v9 :: .int v10 :: .int v11 :: .int m_isEarly :: .int m_pieces :: .int m_states :: .ref a_m_pieceLevel :: .ref a_m_pieceKey :: .ref a_m_pieceYear :: .int m_drawnNow :: .ref a_m_drawnKeys :: .ref a_m_kept :: .int m_keptAt :: .ref a_m_noNumbers :: []))) :: (a_m_deep, .inl (ci 0, 5, .inl m_deep)) :: (a_m_wide, .inl (ci 0, 5, .inl m_wide)) :: (a_m_zonesAhead, .inl (ci 0, 45, .inl m_zonesAhead)) :: (a_m_edges, .inl (ci 1, 4, .inr (.inl f6))) :: Rw) H := ⟨hP, hD⟩
        refine lv_goto (pc := 25) (tgt := 29) hx hb dX11_between_25 (by decide) ?_
        obtain ⟨e90, e91, e92, e93, e94, e95, e96, e97, e98⟩ := q_inj9 (Option.some.inj hf)
        rw [hQ, ← e90, ← e91, ← e92, ← e93, ← e94, ← e95, ← e96, ← e97, ← e98]
        exact q_iret (pc := 29) hx hb hr hlocks hP hD hS dX11_between_29
  exact hgo _ _ rfl hP hS
/-! X11_isPlace -/
set_option maxRecDepth 100000 in
set_option maxHeartbeats 4000000 in
theorem c_M_isPlace (l : Launch) (D : va_G) (ci : Nat → ClassId) (A : Nat → Prop) (sa : Nat → Nat) (N : Nat) (Rw : va_W) (p1 : Int32) (p2 : Int32) (r : Int32) (hf : f_M_isPlace p1 p2 = some r) : Met l yX11_isPlace wsX11_isPlace ({ frames := 1, cells := 0, slots := 0, locals := 25 }) (va_Pc [.int p1, .int p2] (q_N D ci A sa (Rw))) (q_R (some (.int r))) 0 0 A := by
  refine q_ofW (cc := cX11_isPlace) (maxL := 2) (ret := (some .boolean)) [.int p1, .int p2] (plainFor_of_name (by decide)) rfl (Nat.le_of_ble_eq_true rfl) ?_
  intro p e s m below meth c ls Q hQ hx hb hml hr hts hown hlocks hK hA hZ hP hD hS hl
  have hl : lv_has ls 2 [(0, .int p1), (1, .int p2)] := hl
  have hown : s.vm.findClass RX11 = some m.cls := hown
  have w_1 := hts (Cond.constantLong RX11 76 (-324000)) (List.mem_cons_of_mem _ t_w940)
  have w_2 := hts (Cond.constantLong RX11 78 (324000)) (List.mem_cons_of_mem _ t_w939)
  have w_3 := hts (Cond.constantLong RX11 80 (1295999)) (List.mem_cons_of_mem _ t_w970)
  unfold f_M_isPlace at hf
  have hgo : ∀ (H : Heap) (locs : List Loc), H = s.heap → va_P D vwCl (Rw) H → va_S A s.heap H locs → W p l e ({ frames := 1, cells := 0, slots := 0, locals := 25 } : Room) s m ([.int p1, .int p2] : List Value).toArray below meth c H locs 0 0 Q (F0 m 0 ls []) := by
    intro H locs hH hP hS
    subst hH
    refine lv_iload_n (pc := 0) hx hb dX11_isPlace_0 rfl (lv_at hl 0 rfl) ?_
    refine lv_i2l (pc := 1) hx hb dX11_isPlace_1 rfl ?_
    refine lv_ldc2 (pc := 2) (v := (-324000)) hx hb hown w_1 dX11_isPlace_2 ?_
    refine lv_ldc2 (pc := 5) (v := 324000) hx hb hown w_2 dX11_isPlace_5 ?_
    obtain ⟨v1, hm8, hf⟩ := q_b1_e hf
    refine q_cSr (pc := 8) (As := [.long p1.toInt64, .long (-324000), .long 324000]) (rest := []) (v0 := (some (.int v1))) ⟨hx, hb, hml, hown, hts⟩ hK hA hZ hP hD hS hl.1 [] 0 rfl ⟨rfl, rfl, rfl⟩ (c_M_in l D ci A sa N (Rw) p1.toInt64 (-324000) 324000 v1 hm8) (va_cwS 3 hts gX11_isPlace_X11_in rfl rfl rfl (by decide +kernel) ⟨Nat.le_of_ble_eq_true rfl, Nat.le_of_ble_eq_true rfl⟩) rfl rfl (Nat.le_of_ble_eq_true rfl) dX11_isPlace_8 ⟨Nat.zero_le _, Nat.zero_le _⟩ (fun locs hS => ?_)
    refine q_if_eq (pc := 11) (tgt := 30) hx hb dX11_isPlace_11 (by decide) rfl hf (fun hf => ?_) (fun hf => ?_)
    · refine lv_iconst (pc := 30) (v := 0) hx hb dX11_isPlace_30 (by decide) ?_
      obtain rfl := Option.some.inj hf
      rw [hQ]
      exact q_zretr (pc := 31) hx hb hr rfl hlocks rfl hS dX11_isPlace_31
    · refine lv_iload_n (pc := 14) hx hb dX11_isPlace_14 rfl (lv_at hl 1 rfl) ?_
      refine lv_i2l (pc := 15) hx hb dX11_isPlace_15 rfl ?_
      refine lv_lconst (pc := 16) (v := 0) hx hb dX11_isPlace_16 (by decide) ?_
      refine lv_ldc2 (pc := 17) (v := 1295999) hx hb hown w_3 dX11_isPlace_17 ?_
      obtain ⟨v2, hm20, hf⟩ := q_b1_e hf
      refine q_cSr (pc := 20) (As := [.long p2.toInt64, .long 0, .long 1295999]) (rest := []) (v0 := (some (.int v2))) ⟨hx, hb, hml, hown, hts⟩ hK hA hZ hP hD hS hl.1 [] 0 rfl ⟨rfl, rfl, rfl⟩ (c_M_in l D ci A sa N (Rw) p2.toInt64 0 1295999 v2 hm20) (va_cwS 3 hts gX11_isPlace_X11_in rfl rfl rfl (by decide +kernel) ⟨Nat.le_of_ble_eq_true rfl, Nat.le_of_ble_eq_true rfl⟩) rfl rfl (Nat.le_of_ble_eq_true rfl) dX11_isPlace_20 ⟨Nat.zero_le _, Nat.zero_le _⟩ (fun locs hS => ?_)
      refine q_if_eq (pc := 23) (tgt := 30) hx hb dX11_isPlace_23 (by decide) rfl hf (fun hf => ?_) (fun hf => ?_)
      · refine lv_iconst (pc := 30) (v := 0) hx hb dX11_isPlace_30 (by decide) ?_
        obtain rfl := Option.some.inj hf
        rw [hQ]
        exact q_zretr (pc := 31) hx hb hr rfl hlocks rfl hS dX11_isPlace_31
      · refine lv_iconst (pc := 26) (v := 1) hx hb dX11_isPlace_26 (by decide) ?_
        refine lv_goto (pc := 27) (tgt := 31) hx hb dX11_isPlace_27 (by decide) ?_
        obtain rfl := Option.some.inj hf
        rw [hQ]
        exact q_zretr (pc := 31) hx hb hr rfl hlocks rfl hS dX11_isPlace_31
  exact hgo _ _ rfl hP hS
/-! X11_isBox -/
set_option maxRecDepth 100000 in
set_option maxHeartbeats 4000000 in
theorem c_M_isBox (l : Launch) (D : va_G) (ci : Nat → ClassId) (A : Nat → Prop) (sa : Nat → Nat) (N : Nat) (Rw : va_W) (a_m : Nat) (a_m_cutRows : Nat) (a_m_cutColumns : Nat) (a_m_deep : Nat) (a_m_wide : Nat) (a_m_zonesAhead : Nat) (a_m_nameOne : Nat) (a_m_nameOther : Nat) (a_m_tape : Nat) (a_m_edges : Nat) (a_m_dist : Nat) (a_m_queue : Nat) (a_m_pieceLevel : Nat) (a_m_pieceKey : Nat) (a_m_pieceYear : Nat) (a_m_drawnKeys : Nat) (a_m_kept : Nat) (a_m_noNumbers : Nat) (m_taped : Int32) (m_place : Int32) (m_fault : Int32) (m_number : Int32) (m_levelRead : Int32) (m_keyRead : Int32) (m_reads : Int32) (m_faults : Int32) (m_cutShort : Int32) (m_noNumber : Int32) (m_bottomLat : Int64) (m_bottomLon : Int64) (m_firstBeside : Int32) (m_manyBeside : Int32) (m_queued : Int32) (m_boxLevel : Int32) (m_boxTop : Int32) (m_boxBottom : Int32) (m_boxWest : Int32) (m_boxEast : Int32) (m_isEarly : Int32) (m_pieces : Int32) (m_states : Int32) (m_drawnNow : Int32) (m_keptAt : Int32) (p1 : Int32) (p2 : Int32) (p3 : Int32) (p4 : Int32) (r : Int32) (hf : f_M_isBox p1 p2 p3 p4 = some r) : Met l yX11_isBox wsX11_isBox ({ frames := 2, cells := 0, slots := 0, locals := 46 }) (va_Pc [.ref a_m, .int p1, .int p2, .int p3, .int p4] (q_N D ci A sa ((a_m, .inr (11, (.ref a_m_cutRows :: .ref a_m_cutColumns :: .ref a_m_deep :: .ref a_m_wide :: .ref a_m_zonesAhead :: .ref a_m_nameOne :: .ref a_m_nameOther :: .ref a_m_tape :: .int m_taped :: .int m_place :: .int m_fault :: .int m_number :: .int m_levelRead :: .int m_keyRead :: .int m_reads :: .int m_faults :: .int m_cutShort :: .int m_noNumber :: .long m_bottomLat :: .long m_bottomLon :: .ref a_m_edges :: .int m_firstBeside :: .int m_manyBeside :: .ref a_m_dist :: .ref a_m_queue :: .int m_queued :: .int m_boxLevel :: .int m_boxTop :: .int m_boxBottom :: .int m_boxWest :: .int m_boxEast :: .int m_isEarly :: .int m_pieces :: .int m_states :: .ref a_m_pieceLevel :: .ref a_m_pieceKey :: .ref a_m_pieceYear :: .int m_drawnNow :: .ref a_m_drawnKeys :: .ref a_m_kept :: .int m_keptAt :: .ref a_m_noNumbers :: []))) :: Rw))) (q_R (some (.int r))) 0 0 A := by
  refine q_ofW (cc := cX11_isBox) (maxL := 5) (ret := (some .boolean)) [.ref a_m, .int p1, .int p2, .int p3, .int p4] (plainFor_of_name (by decide)) rfl (Nat.le_of_ble_eq_true rfl) ?_
  intro p e s m below meth c ls Q hQ hx hb hml hr hts hown hlocks hK hA hZ hP hD hS hl
  have hl : lv_has ls 5 [(0, .ref a_m), (1, .int p1), (2, .int p2), (3, .int p3), (4, .int p4)] := hl
  have hown : s.vm.findClass RX11 = some m.cls := hown
  unfold f_M_isBox at hf
  have hgo : ∀ (H : Heap) (locs : List Loc), H = s.heap → va_P D vwCl ((a_m, .inr (11, (.ref a_m_cutRows :: .ref a_m_cutColumns :: .ref a_m_deep :: .ref a_m_wide :: .ref a_m_zonesAhead :: .ref a_m_nameOne :: .ref a_m_nameOther :: .ref a_m_tape :: .int m_taped :: .int m_place :: .int m_fault :: .int m_number :: .int m_levelRead :: .int m_keyRead :: .int m_reads :: .int m_faults :: .int m_cutShort :: .int m_noNumber :: .long m_bottomLat :: .long m_bottomLon :: .ref a_m_edges :: .int m_firstBeside :: .int m_manyBeside :: .ref a_m_dist :: .ref a_m_queue :: .int m_queued :: .int m_boxLevel :: .int m_boxTop :: .int m_boxBottom :: .int m_boxWest :: .int m_boxEast :: .int m_isEarly :: .int m_pieces :: .int m_states :: .ref a_m_pieceLevel :: .ref a_m_pieceKey :: .ref a_m_pieceYear :: .int m_drawnNow :: .ref a_m_drawnKeys :: .ref a_m_kept :: .int m_keptAt :: .ref a_m_noNumbers :: []))) :: Rw) H → va_S A s.heap H locs → W p l e ({ frames := 2, cells := 0, slots := 0, locals := 46 } : Room) s m ([.ref a_m, .int p1, .int p2, .int p3, .int p4] : List Value).toArray below meth c H locs 0 0 Q (F0 m 0 ls []) := by
    intro H locs hH hP hS
    subst hH
    refine lv_iload_n (pc := 0) hx hb dX11_isBox_0 rfl (lv_at hl 1 rfl) ?_
    refine lv_iload_n (pc := 1) hx hb dX11_isBox_1 rfl (lv_at hl 3 rfl) ?_
    obtain ⟨v1, hm2, hf⟩ := q_b1_e hf
    refine q_cSr (pc := 2) (As := [.int p1, .int p3]) (rest := []) (v0 := (some (.int v1))) ⟨hx, hb, hml, hown, hts⟩ hK hA hZ hP hD hS hl.1 [] 1 rfl ⟨rfl, rfl, rfl⟩ (c_M_isPlace l D ci A sa N (Rw) p1 p3 v1 hm2) (va_cwS 2 hts gX11_isBox_X11_isPlace rfl rfl rfl (by decide +kernel) ⟨Nat.le_of_ble_eq_true rfl, Nat.le_of_ble_eq_true rfl⟩) rfl rfl (Nat.le_of_ble_eq_true rfl) dX11_isBox_2 ⟨Nat.zero_le _, Nat.zero_le _⟩ (fun locs hS => ?_)
    refine q_if_eq (pc := 5) (tgt := 26) hx hb dX11_isBox_5 (by decide) rfl hf (fun hf => ?_) (fun hf => ?_)
    · refine lv_iconst (pc := 26) (v := 0) hx hb dX11_isBox_26 (by decide) ?_
      obtain rfl := Option.some.inj hf
      rw [hQ]
      exact q_zretr (pc := 27) hx hb hr rfl hlocks rfl hS dX11_isBox_27
    · refine lv_iload_n (pc := 8) hx hb dX11_isBox_8 rfl (lv_at hl 2 rfl) ?_
      refine lv_iload (pc := 9) hx hb dX11_isBox_9 (lv_at hl 4 rfl) ?_
      obtain ⟨v2, hm11, hf⟩ := q_b1_e hf
      refine q_cSr (pc := 11) (As := [.int p2, .int p4]) (rest := []) (v0 := (some (.int v2))) ⟨hx, hb, hml, hown, hts⟩ hK hA hZ hP hD hS hl.1 [] 1 rfl ⟨rfl, rfl, rfl⟩ (c_M_isPlace l D ci A sa N (Rw) p2 p4 v2 hm11) (va_cwS 2 hts gX11_isBox_X11_isPlace rfl rfl rfl (by decide +kernel) ⟨Nat.le_of_ble_eq_true rfl, Nat.le_of_ble_eq_true rfl⟩) rfl rfl (Nat.le_of_ble_eq_true rfl) dX11_isBox_11 ⟨Nat.zero_le _, Nat.zero_le _⟩ (fun locs hS => ?_)
      refine q_if_eq (pc := 14) (tgt := 26) hx hb dX11_isBox_14 (by decide) rfl hf (fun hf => ?_) (fun hf => ?_)
      · refine lv_iconst (pc := 26) (v := 0) hx hb dX11_isBox_26 (by decide) ?_
        obtain rfl := Option.some.inj hf
        rw [hQ]
        exact q_zretr (pc := 27) hx hb hr rfl hlocks rfl hS dX11_isBox_27
      · refine lv_iload_n (pc := 17) hx hb dX11_isBox_17 rfl (lv_at hl 1 rfl) ?_
        refine lv_iload_n (pc := 18) hx hb dX11_isBox_18 rfl (lv_at hl 2 rfl) ?_
        refine q_icmp_gt (pc := 19) (tgt := 26) hx hb dX11_isBox_19 (by decide) rfl hf (fun hf => ?_) (fun hf => ?_)
        · refine lv_iconst (pc := 26) (v := 0) hx hb dX11_isBox_26 (by decide) ?_
          obtain rfl := Option.some.inj hf
          rw [hQ]
          exact q_zretr (pc := 27) hx hb hr rfl hlocks rfl hS dX11_isBox_27
        · refine lv_iconst (pc := 22) (v := 1) hx hb dX11_isBox_22 (by decide) ?_
          refine lv_goto (pc := 23) (tgt := 27) hx hb dX11_isBox_23 (by decide) ?_
          obtain rfl := Option.some.inj hf
          rw [hQ]
          exact q_zretr (pc := 27) hx hb hr rfl hlocks rfl hS dX11_isBox_27
  exact hgo _ _ rfl hP hS
/-! X11_westOf -/
set_option maxRecDepth 100000 in
set_option maxHeartbeats 4000000 in
theorem c_M_westOf (l : Launch) (D : va_G) (ci : Nat → ClassId) (A : Nat → Prop) (sa : Nat → Nat) (N : Nat) (Rw : va_W) (a_m : Nat) (a_m_cutRows : Nat) (a_m_cutColumns : Nat) (a_m_deep : Nat) (a_m_wide : Nat) (a_m_zonesAhead : Nat) (a_m_nameOne : Nat) (a_m_nameOther : Nat) (a_m_tape : Nat) (a_m_edges : Nat) (a_m_dist : Nat) (a_m_queue : Nat) (a_m_pieceLevel : Nat) (a_m_pieceKey : Nat) (a_m_pieceYear : Nat) (a_m_drawnKeys : Nat) (a_m_kept : Nat) (a_m_noNumbers : Nat) (m_taped : Int32) (m_place : Int32) (m_fault : Int32) (m_number : Int32) (m_levelRead : Int32) (m_keyRead : Int32) (m_reads : Int32) (m_faults : Int32) (m_cutShort : Int32) (m_noNumber : Int32) (m_bottomLat : Int64) (m_bottomLon : Int64) (m_firstBeside : Int32) (m_manyBeside : Int32) (m_queued : Int32) (m_boxLevel : Int32) (m_boxTop : Int32) (m_boxBottom : Int32) (m_boxWest : Int32) (m_boxEast : Int32) (m_isEarly : Int32) (m_pieces : Int32) (m_states : Int32) (m_drawnNow : Int32) (m_keptAt : Int32) (m_deep : Nat → Int32) (m_wide : Nat → Int32) (p1 : Int32) (r : Int32) (hf : f_M_westOf m_deep m_wide m_boxLevel m_boxWest p1 = some r) : Met l yX11_westOf wsX11_westOf ({ frames := 3, cells := 0, slots := 0, locals := 64 }) (va_Pc [.ref a_m, .int p1] (q_N D ci A sa ((a_m, .inr (11, (.ref a_m_cutRows :: .ref a_m_cutColumns :: .ref a_m_deep :: .ref a_m_wide :: .ref a_m_zonesAhead :: .ref a_m_nameOne :: .ref a_m_nameOther :: .ref a_m_tape :: .int m_taped :: .int m_place :: .int m_fault :: .int m_number :: .int m_levelRead :: .int m_keyRead :: .int m_reads :: .int m_faults :: .int m_cutShort :: .int m_noNumber :: .long m_bottomLat :: .long m_bottomLon :: .ref a_m_edges :: .int m_firstBeside :: .int m_manyBeside :: .ref a_m_dist :: .ref a_m_queue :: .int m_queued :: .int m_boxLevel :: .int m_boxTop :: .int m_boxBottom :: .int m_boxWest :: .int m_boxEast :: .int m_isEarly :: .int m_pieces :: .int m_states :: .ref a_m_pieceLevel :: .ref a_m_pieceKey :: .ref a_m_pieceYear :: .int m_drawnNow :: .ref a_m_drawnKeys :: .ref a_m_kept :: .int m_keptAt :: .ref a_m_noNumbers :: []))) :: (a_m_deep, .inl (ci 0, 5, .inl m_deep)) :: (a_m_wide, .inl (ci 0, 5, .inl m_wide)) :: Rw))) (q_R (some (.int r))) 0 0 A := by
  refine q_ofW (cc := cX11_westOf) (maxL := 2) (ret := (some .int)) [.ref a_m, .int p1] (plainFor_of_name (by decide)) rfl (Nat.le_of_ble_eq_true rfl) ?_
  intro p e s m below meth c ls Q hQ hx hb hml hr hts hown hlocks hK hA hZ hP hD hS hl
  have hl : lv_has ls 2 [(0, .ref a_m), (1, .int p1)] := hl
  have hown : s.vm.findClass RX11 = some m.cls := hown
  have hinX11 : ∀ w ∈ wsX110, w ∈ wsX11_westOf := fun _ h => List.mem_cons_of_mem _ (inWX110 _ h)
  have w_1 := hts (Cond.fieldLink RX11 307 "SheetNamesModel" "boxWest" "I") (List.mem_cons_of_mem _ t_w951)
  have w_2 := hts (Cond.fieldLink RX11 298 "SheetNamesModel" "boxLevel" "I") (List.mem_cons_of_mem _ t_w948)
  unfold f_M_westOf at hf
  have hgo : ∀ (H : Heap) (locs : List Loc), H = s.heap → va_P D vwCl ((a_m, .inr (11, (.ref a_m_cutRows :: .ref a_m_cutColumns :: .ref a_m_deep :: .ref a_m_wide :: .ref a_m_zonesAhead :: .ref a_m_nameOne :: .ref a_m_nameOther :: .ref a_m_tape :: .int m_taped :: .int m_place :: .int m_fault :: .int m_number :: .int m_levelRead :: .int m_keyRead :: .int m_reads :: .int m_faults :: .int m_cutShort :: .int m_noNumber :: .long m_bottomLat :: .long m_bottomLon :: .ref a_m_edges :: .int m_firstBeside :: .int m_manyBeside :: .ref a_m_dist :: .ref a_m_queue :: .int m_queued :: .int m_boxLevel :: .int m_boxTop :: .int m_boxBottom :: .int m_boxWest :: .int m_boxEast :: .int m_isEarly :: .int m_pieces :: .int m_states :: .ref a_m_pieceLevel :: .ref a_m_pieceKey :: .ref a_m_pieceYear :: .int m_drawnNow :: .ref a_m_drawnKeys :: .ref a_m_kept :: .int m_keptAt :: .ref a_m_noNumbers :: []))) :: (a_m_deep, .inl (ci 0, 5, .inl m_deep)) :: (a_m_wide, .inl (ci 0, 5, .inl m_wide)) :: Rw) H → va_S A s.heap H locs → W p l e ({ frames := 3, cells := 0, slots := 0, locals := 64 } : Room) s m ([.ref a_m, .int p1] : List Value).toArray below meth c H locs 0 0 Q (F0 m 0 ls []) := by
    intro H locs hH hP hS
    subst hH
    refine lv_aload_n (pc := 0) hx hb dX11_westOf_0 rfl (lv_at hl 0 rfl) ?_
    refine lv_aload_n (pc := 1) hx hb dX11_westOf_1 rfl (lv_at hl 0 rfl) ?_
    refine va_get (pc := 2) (D := D) (ci := 11) (v := .int m_boxWest) (C := RX11) (T := TX11) (N := 42) hx hb hts hinX11 hown hK hP 0 rfl rfl 29 (by decide) w_1 (fun _ h9 => h9) rfl dX11_westOf_2 ?_
    refine lv_aload_n (pc := 5) hx hb dX11_westOf_5 rfl (lv_at hl 0 rfl) ?_
    refine lv_aload_n (pc := 6) hx hb dX11_westOf_6 rfl (lv_at hl 0 rfl) ?_
    refine va_get (pc := 7) (D := D) (ci := 11) (v := .int m_boxLevel) (C := RX11) (T := TX11) (N := 42) hx hb hts hinX11 hown hK hP 0 rfl rfl 26 (by decide) w_2 (fun _ h9 => h9) rfl dX11_westOf_7 ?_
    refine lv_iload_n (pc := 10) hx hb dX11_westOf_10 rfl (lv_at hl 1 rfl) ?_
    obtain ⟨v1, hm11, hf⟩ := q_b1_e hf
    refine q_cVr (pc := 11) (As := [.int m_boxLevel, .int p1]) (rest := [.int m_boxWest, .ref a_m]) (v0 := (some (.int v1))) ⟨hx, hb, hml, hown, hts⟩ hK hA hZ hP hD hS hl.1 [0, 1, 2] 3 rfl ⟨rfl, rfl, rfl⟩ (c_M_many l D ci A sa N (Rw) a_m a_m_cutRows a_m_cutColumns a_m_deep a_m_wide a_m_zonesAhead a_m_nameOne a_m_nameOther a_m_tape a_m_edges a_m_dist a_m_queue a_m_pieceLevel a_m_pieceKey a_m_pieceYear a_m_drawnKeys a_m_kept a_m_noNumbers m_taped m_place m_fault m_number m_levelRead m_keyRead m_reads m_faults m_cutShort m_noNumber m_bottomLat m_bottomLon m_firstBeside m_manyBeside m_queued m_boxLevel m_boxTop m_boxBottom m_boxWest m_boxEast m_isEarly m_pieces m_states m_drawnNow m_keptAt m_deep m_wide m_boxLevel p1 v1 hm11) 0 rfl rfl (cwV 2 hts gX11_westOf_X11_many rfl rfl rfl (by decide +kernel) ⟨Nat.le_of_ble_eq_true rfl, Nat.le_of_ble_eq_true rfl⟩) rfl rfl (Nat.le_of_ble_eq_true rfl) dX11_westOf_11 ⟨Nat.zero_le _, Nat.zero_le _⟩ (fun locs hS => ?_)
    obtain ⟨v2, hm14, hf⟩ := q_b1_e hf
    refine q_cVr (pc := 14) (As := [.int m_boxWest, .int v1]) (rest := []) (v0 := (some (.int v2))) ⟨hx, hb, hml, hown, hts⟩ hK hA hZ hP hD hS hl.1 [0] 3 rfl ⟨rfl, rfl, rfl⟩ (c_M_placeAt l D ci A sa N (Rw) a_m a_m_cutRows a_m_cutColumns a_m_deep a_m_wide a_m_zonesAhead a_m_nameOne a_m_nameOther a_m_tape a_m_edges a_m_dist a_m_queue a_m_pieceLevel a_m_pieceKey a_m_pieceYear a_m_drawnKeys a_m_kept a_m_noNumbers m_taped m_place m_fault m_number m_levelRead m_keyRead m_reads m_faults m_cutShort m_noNumber m_bottomLat m_bottomLon m_firstBeside m_manyBeside m_queued m_boxLevel m_boxTop m_boxBottom m_boxWest m_boxEast m_isEarly m_pieces m_states m_drawnNow m_keptAt m_boxWest v1 v2 hm14) 0 rfl rfl (cwV 2 hts gX11_westOf_X11_placeAt rfl rfl rfl (by decide +kernel) ⟨Nat.le_of_ble_eq_true rfl, Nat.le_of_ble_eq_true rfl⟩) rfl rfl (Nat.le_of_ble_eq_true rfl) dX11_westOf_14 ⟨Nat.zero_le _, Nat.zero_le _⟩ (fun locs hS => ?_)
    obtain rfl := Option.some.inj hf
    rw [hQ]
    exact q_iretr (pc := 17) hx hb hr hlocks rfl hS dX11_westOf_17
  exact hgo _ _ rfl hP hS
/-! X11_boxKey -/
set_option maxRecDepth 100000 in
set_option maxHeartbeats 4000000 in
theorem c_M_boxKey (l : Launch) (D : va_G) (ci : Nat → ClassId) (A : Nat → Prop) (sa : Nat → Nat) (N : Nat) (Rw : va_W) (a_m : Nat) (a_m_cutRows : Nat) (a_m_cutColumns : Nat) (a_m_deep : Nat) (a_m_wide : Nat) (a_m_zonesAhead : Nat) (a_m_nameOne : Nat) (a_m_nameOther : Nat) (a_m_tape : Nat) (a_m_edges : Nat) (a_m_dist : Nat) (a_m_queue : Nat) (a_m_pieceLevel : Nat) (a_m_pieceKey : Nat) (a_m_pieceYear : Nat) (a_m_drawnKeys : Nat) (a_m_kept : Nat) (a_m_noNumbers : Nat) (m_taped : Int32) (m_place : Int32) (m_fault : Int32) (m_number : Int32) (m_levelRead : Int32) (m_keyRead : Int32) (m_reads : Int32) (m_faults : Int32) (m_cutShort : Int32) (m_noNumber : Int32) (m_bottomLat : Int64) (m_bottomLon : Int64) (m_firstBeside : Int32) (m_manyBeside : Int32) (m_queued : Int32) (m_boxLevel : Int32) (m_boxTop : Int32) (m_boxBottom : Int32) (m_boxWest : Int32) (m_boxEast : Int32) (m_isEarly : Int32) (m_pieces : Int32) (m_states : Int32) (m_drawnNow : Int32) (m_keptAt : Int32) (m_deep : Nat → Int32) (m_wide : Nat → Int32) (m_zonesAhead : Nat → Int32) (p1 : Int32) (r : Int32) (hf : f_M_boxKey N m_deep m_wide m_zonesAhead m_boxLevel m_boxTop m_boxBottom m_boxWest m_boxEast p1 = some r) : Met l yX11_boxKey wsX11_boxKey ({ frames := 4, cells := 0, slots := 0, locals := 88 }) (va_Pc [.ref a_m, .int p1] (q_N D ci A sa ((a_m, .inr (11, (.ref a_m_cutRows :: .ref a_m_cutColumns :: .ref a_m_deep :: .ref a_m_wide :: .ref a_m_zonesAhead :: .ref a_m_nameOne :: .ref a_m_nameOther :: .ref a_m_tape :: .int m_taped :: .int m_place :: .int m_fault :: .int m_number :: .int m_levelRead :: .int m_keyRead :: .int m_reads :: .int m_faults :: .int m_cutShort :: .int m_noNumber :: .long m_bottomLat :: .long m_bottomLon :: .ref a_m_edges :: .int m_firstBeside :: .int m_manyBeside :: .ref a_m_dist :: .ref a_m_queue :: .int m_queued :: .int m_boxLevel :: .int m_boxTop :: .int m_boxBottom :: .int m_boxWest :: .int m_boxEast :: .int m_isEarly :: .int m_pieces :: .int m_states :: .ref a_m_pieceLevel :: .ref a_m_pieceKey :: .ref a_m_pieceYear :: .int m_drawnNow :: .ref a_m_drawnKeys :: .ref a_m_kept :: .int m_keptAt :: .ref a_m_noNumbers :: []))) :: (a_m_deep, .inl (ci 0, 5, .inl m_deep)) :: (a_m_wide, .inl (ci 0, 5, .inl m_wide)) :: (a_m_zonesAhead, .inl (ci 0, 45, .inl m_zonesAhead)) :: Rw))) (q_R (some (.int r))) 0 0 A := by
  refine q_ofW (cc := cX11_boxKey) (maxL := 5) (ret := (some .int)) [.ref a_m, .int p1] (plainFor_of_name (by decide)) rfl (Nat.le_of_ble_eq_true rfl) ?_
  intro p e s m below meth c ls Q hQ hx hb hml hr hts hown hlocks hK hA hZ hP hD hS hl
  have hl : lv_has ls 5 [(0, .ref a_m), (1, .int p1)] := hl
  have hown : s.vm.findClass RX11 = some m.cls := hown
  have hinX11 : ∀ w ∈ wsX110, w ∈ wsX11_boxKey := fun _ h => List.mem_cons_of_mem _ (inWX110 _ h)
  have w_1 := hts (Cond.fieldLink RX11 301 "SheetNamesModel" "boxTop" "I") (List.mem_cons_of_mem _ t_w949)
  have w_2 := hts (Cond.fieldLink RX11 304 "SheetNamesModel" "boxBottom" "I") (List.mem_cons_of_mem _ t_w950)
  have w_3 := hts (Cond.fieldLink RX11 298 "SheetNamesModel" "boxLevel" "I") (List.mem_cons_of_mem _ t_w948)
  unfold f_M_boxKey at hf
  have hgo : ∀ (H : Heap) (locs : List Loc), H = s.heap → va_P D vwCl ((a_m, .inr (11, (.ref a_m_cutRows :: .ref a_m_cutColumns :: .ref a_m_deep :: .ref a_m_wide :: .ref a_m_zonesAhead :: .ref a_m_nameOne :: .ref a_m_nameOther :: .ref a_m_tape :: .int m_taped :: .int m_place :: .int m_fault :: .int m_number :: .int m_levelRead :: .int m_keyRead :: .int m_reads :: .int m_faults :: .int m_cutShort :: .int m_noNumber :: .long m_bottomLat :: .long m_bottomLon :: .ref a_m_edges :: .int m_firstBeside :: .int m_manyBeside :: .ref a_m_dist :: .ref a_m_queue :: .int m_queued :: .int m_boxLevel :: .int m_boxTop :: .int m_boxBottom :: .int m_boxWest :: .int m_boxEast :: .int m_isEarly :: .int m_pieces :: .int m_states :: .ref a_m_pieceLevel :: .ref a_m_pieceKey :: .ref a_m_pieceYear :: .int m_drawnNow :: .ref a_m_drawnKeys :: .ref a_m_kept :: .int m_keptAt :: .ref a_m_noNumbers :: []))) :: (a_m_deep, .inl (ci 0, 5, .inl m_deep)) :: (a_m_wide, .inl (ci 0, 5, .inl m_wide)) :: (a_m_zonesAhead, .inl (ci 0, 45, .inl m_zonesAhead)) :: Rw) H → va_S A s.heap H locs → W p l e ({ frames := 4, cells := 0, slots := 0, locals := 88 } : Room) s m ([.ref a_m, .int p1] : List Value).toArray below meth c H locs 0 0 Q (F0 m 0 ls []) := by
    intro H locs hH hP hS
    subst hH
    refine lv_iload_n (pc := 0) hx hb dX11_boxKey_0 rfl (lv_at hl 1 rfl) ?_
    refine lv_istore_n (pc := 1) (lv' := [(2, .int p1), (0, .ref a_m), (1, .int p1)]) hx hb dX11_boxKey_1 rfl hl (by decide) rfl (fun ls hl => ?_)
    refine lv_aload_n (pc := 2) hx hb dX11_boxKey_2 rfl (lv_at hl 1 rfl) ?_
    refine va_get (pc := 3) (D := D) (ci := 11) (v := .int m_boxTop) (C := RX11) (T := TX11) (N := 42) hx hb hts hinX11 hown hK hP 0 rfl rfl 27 (by decide) w_1 (fun _ h9 => h9) rfl dX11_boxKey_3 ?_
    refine lv_istore_n (pc := 6) (lv' := [(3, .int m_boxTop), (2, .int p1), (0, .ref a_m), (1, .int p1)]) hx hb dX11_boxKey_6 rfl hl (by decide) rfl (fun ls hl => ?_)
    obtain ⟨k7, o7_, ek7, hm7, hk7⟩ := q_s0_k hf
    have JE7 : ∀  (H : Heap) (locs : List Loc) (ls : Array Slot), k7 = some r → H = s.heap → va_S A s.heap H locs → lv_has ls 5 [] → W p l e ({ frames := 4, cells := 0, slots := 0, locals := 88 } : Room) s m ([.ref a_m, .int p1] : List Value).toArray below meth c H locs 0 0 Q (F0 m 66 ls []) := by
      intro  H locs ls hf hHs hS hl
      subst hHs
      have hf := (ek7).symm.trans hf
      refine lv_iconst (pc := 66) (v := (-1)) hx hb dX11_boxKey_66 (by decide) ?_
      obtain rfl := Option.some.inj hf
      rw [hQ]
      exact q_iretr (pc := 67) hx hb hr hlocks rfl hS dX11_boxKey_67
    have LP7 : ∀ (n7 : Nat) (v1 : Int32) (v2 : Int32) (H : Heap) (locs : List Loc) (ls : Array Slot), f_M_boxKey_L7 m_boxBottom m_boxEast m_boxLevel m_boxWest m_deep m_wide m_zonesAhead n7 v1 v2 = some o7_ → H = s.heap → va_S A s.heap H locs → lv_has ls 5 [(0, .ref a_m), (2, .int v1), (3, .int v2)] → W p l e ({ frames := 4, cells := 0, slots := 0, locals := 88 } : Room) s m ([.ref a_m, .int p1] : List Value).toArray below meth c H locs 0 0 Q (F0 m 7 ls []) := by
      intro n7
      induction n7 with
      | zero => intro v1 v2 H locs ls hf; rw [f_M_boxKey_L7] at hf; cases hf
      | succ n7 ih7 =>
        intro v1 v2 H locs ls hf hHs hS hl
        subst hHs
        rw [f_M_boxKey_L7] at hf
        refine lv_iload_n (pc := 7) hx hb dX11_boxKey_7 rfl (lv_at hl 2 rfl) ?_
        refine lv_aload_n (pc := 8) hx hb dX11_boxKey_8 rfl (lv_at hl 0 rfl) ?_
        refine va_get (pc := 9) (D := D) (ci := 11) (v := .int m_boxBottom) (C := RX11) (T := TX11) (N := 42) hx hb hts hinX11 hown hK hP 0 rfl rfl 28 (by decide) w_2 (fun _ h9 => h9) rfl dX11_boxKey_9 ?_
        refine q_icmp_gt (pc := 12) (tgt := 66) hx hb dX11_boxKey_12 (by decide) rfl hf (fun hf => ?_) (fun hf => ?_)
        · obtain rfl := Option.some.inj hf
          exact JE7  _ _ _ hk7 rfl hS (lv_sub hl [] rfl)
        · refine lv_aload_n (pc := 15) hx hb dX11_boxKey_15 rfl (lv_at hl 0 rfl) ?_
          refine lv_iload_n (pc := 16) hx hb dX11_boxKey_16 rfl (lv_at hl 2 rfl) ?_
          obtain ⟨v3, hm17, hf⟩ := q_b1_e hf
          refine q_cVr (pc := 17) (As := [.int v2]) (rest := []) (v0 := (some (.int v3))) ⟨hx, hb, hml, hown, hts⟩ hK hA hZ hP hD hS hl.1 [0, 1, 2] 4 rfl ⟨rfl, rfl, rfl⟩ (c_M_boxMany l D ci A sa N (Rw) a_m a_m_cutRows a_m_cutColumns a_m_deep a_m_wide a_m_zonesAhead a_m_nameOne a_m_nameOther a_m_tape a_m_edges a_m_dist a_m_queue a_m_pieceLevel a_m_pieceKey a_m_pieceYear a_m_drawnKeys a_m_kept a_m_noNumbers m_taped m_place m_fault m_number m_levelRead m_keyRead m_reads m_faults m_cutShort m_noNumber m_bottomLat m_bottomLon m_firstBeside m_manyBeside m_queued m_boxLevel m_boxTop m_boxBottom m_boxWest m_boxEast m_isEarly m_pieces m_states m_drawnNow m_keptAt m_deep m_wide v2 v3 hm17) 0 rfl rfl (cwV 1 hts gX11_boxKey_X11_boxMany rfl rfl rfl (by decide +kernel) ⟨Nat.le_of_ble_eq_true rfl, Nat.le_of_ble_eq_true rfl⟩) rfl rfl (Nat.le_of_ble_eq_true rfl) dX11_boxKey_17 ⟨Nat.zero_le _, Nat.zero_le _⟩ (fun locs hS => ?_)
          refine lv_istore (pc := 20) (lv' := [(4, .int v3), (0, .ref a_m), (2, .int v1), (3, .int v2)]) hx hb dX11_boxKey_20 hl (by decide) rfl (fun ls hl => ?_)
          refine lv_iload_n (pc := 22) hx hb dX11_boxKey_22 rfl (lv_at hl 2 rfl) ?_
          refine lv_iload (pc := 23) hx hb dX11_boxKey_23 (lv_at hl 0 rfl) ?_
          refine q_icmp_ge (pc := 25) (tgt := 55) hx hb dX11_boxKey_25 (by decide) rfl hf (fun hf => ?_) (fun hf => ?_)
          · refine lv_iload_n (pc := 55) hx hb dX11_boxKey_55 rfl (lv_at hl 2 rfl) ?_
            refine lv_iload (pc := 56) hx hb dX11_boxKey_56 (lv_at hl 0 rfl) ?_
            refine lv_isub (pc := 58) hx hb dX11_boxKey_58 ?_
            obtain ⟨v4, ev4, hf⟩ := q_nm_e hf
            refine q_topi ev4 ?_
            refine lv_istore_n (pc := 59) (lv' := [(2, .int v4), (4, .int v3), (0, .ref a_m), (3, .int v2)]) hx hb dX11_boxKey_59 rfl hl (by decide) rfl (fun ls hl => ?_)
            obtain ⟨v5, ev5, hf⟩ := q_nm_e hf
            refine lv_iinc (pc := 60) (v := v5) (lv' := [(3, .int v5), (2, .int v4), (4, .int v3), (0, .ref a_m)]) hx hb dX11_boxKey_60 hl (k := 3) rfl (by rw [ev5]; rfl) (by decide) rfl (fun ls hl => ?_)
            refine lv_goto (pc := 63) (tgt := 7) hx hb dX11_boxKey_63 (by decide) ?_
            exact ih7 v4 v5 _ _ _ hf rfl hS (lv_sub hl [3, 1, 0] rfl)
          · refine lv_aload_n (pc := 28) hx hb dX11_boxKey_28 rfl (lv_at hl 1 rfl) ?_
            refine lv_aload_n (pc := 29) hx hb dX11_boxKey_29 rfl (lv_at hl 1 rfl) ?_
            refine va_get (pc := 30) (D := D) (ci := 11) (v := .int m_boxLevel) (C := RX11) (T := TX11) (N := 42) hx hb hts hinX11 hown hK hP 0 rfl rfl 26 (by decide) w_3 (fun _ h9 => h9) rfl dX11_boxKey_30 ?_
            refine lv_iload_n (pc := 33) hx hb dX11_boxKey_33 rfl (lv_at hl 3 rfl) ?_
            refine lv_aload_n (pc := 34) hx hb dX11_boxKey_34 rfl (lv_at hl 1 rfl) ?_
            refine lv_iload_n (pc := 35) hx hb dX11_boxKey_35 rfl (lv_at hl 3 rfl) ?_
            obtain ⟨v6, hm36, hf⟩ := q_b1_e hf
            refine q_cVr (pc := 36) (As := [.int v2]) (rest := [.int v2, .int m_boxLevel, .ref a_m]) (v0 := (some (.int v6))) ⟨hx, hb, hml, hown, hts⟩ hK hA hZ hP hD hS hl.1 [0, 1, 2] 4 rfl ⟨rfl, rfl, rfl⟩ (c_M_westOf l D ci A sa N (Rw) a_m a_m_cutRows a_m_cutColumns a_m_deep a_m_wide a_m_zonesAhead a_m_nameOne a_m_nameOther a_m_tape a_m_edges a_m_dist a_m_queue a_m_pieceLevel a_m_pieceKey a_m_pieceYear a_m_drawnKeys a_m_kept a_m_noNumbers m_taped m_place m_fault m_number m_levelRead m_keyRead m_reads m_faults m_cutShort m_noNumber m_bottomLat m_bottomLon m_firstBeside m_manyBeside m_queued m_boxLevel m_boxTop m_boxBottom m_boxWest m_boxEast m_isEarly m_pieces m_states m_drawnNow m_keptAt m_deep m_wide v2 v6 hm36) 0 rfl rfl (cwV 1 hts gX11_boxKey_X11_westOf rfl rfl rfl (by decide +kernel) ⟨Nat.le_of_ble_eq_true rfl, Nat.le_of_ble_eq_true rfl⟩) rfl rfl (Nat.le_of_ble_eq_true rfl) dX11_boxKey_36 ⟨Nat.zero_le _, Nat.zero_le _⟩ (fun locs hS => ?_)
            refine lv_iload_n (pc := 39) hx hb dX11_boxKey_39 rfl (lv_at hl 2 rfl) ?_
            refine lv_iadd (pc := 40) hx hb dX11_boxKey_40 ?_
            refine lv_aload_n (pc := 41) hx hb dX11_boxKey_41 rfl (lv_at hl 1 rfl) ?_
            refine lv_aload_n (pc := 42) hx hb dX11_boxKey_42 rfl (lv_at hl 1 rfl) ?_
            refine va_get (pc := 43) (D := D) (ci := 11) (v := .int m_boxLevel) (C := RX11) (T := TX11) (N := 42) hx hb hts hinX11 hown hK hP 0 rfl rfl 26 (by decide) w_3 (fun _ h9 => h9) rfl dX11_boxKey_43 ?_
            refine lv_iload_n (pc := 46) hx hb dX11_boxKey_46 rfl (lv_at hl 3 rfl) ?_
            obtain ⟨v7, hm47, hf⟩ := q_b1_e hf
            refine q_cVr (pc := 47) (As := [.int m_boxLevel, .int v2]) (rest := [.int (v6 + v1), .int v2, .int m_boxLevel, .ref a_m]) (v0 := (some (.int v7))) ⟨hx, hb, hml, hown, hts⟩ hK hA hZ hP hD hS hl.1 [0, 1, 2] 4 rfl ⟨rfl, rfl, rfl⟩ (c_M_many l D ci A sa N (Rw) a_m a_m_cutRows a_m_cutColumns a_m_deep a_m_wide a_m_zonesAhead a_m_nameOne a_m_nameOther a_m_tape a_m_edges a_m_dist a_m_queue a_m_pieceLevel a_m_pieceKey a_m_pieceYear a_m_drawnKeys a_m_kept a_m_noNumbers m_taped m_place m_fault m_number m_levelRead m_keyRead m_reads m_faults m_cutShort m_noNumber m_bottomLat m_bottomLon m_firstBeside m_manyBeside m_queued m_boxLevel m_boxTop m_boxBottom m_boxWest m_boxEast m_isEarly m_pieces m_states m_drawnNow m_keptAt m_deep m_wide m_boxLevel v2 v7 hm47) 0 rfl rfl (cwV 2 hts gX11_boxKey_X11_many rfl rfl rfl (by decide +kernel) ⟨Nat.le_of_ble_eq_true rfl, Nat.le_of_ble_eq_true rfl⟩) rfl rfl (Nat.le_of_ble_eq_true rfl) dX11_boxKey_47 ⟨Nat.zero_le _, Nat.zero_le _⟩ (fun locs hS => ?_)
            refine q_irem (pc := 50) hx hb dX11_boxKey_50 hf (fun v8 hf => ?_)
            obtain ⟨v9, hm51, hf⟩ := q_b1_e hf
            refine q_cVr (pc := 51) (As := [.int m_boxLevel, .int v2, .int v8]) (rest := []) (v0 := (some (.int v9))) ⟨hx, hb, hml, hown, hts⟩ hK hA hZ hP hD hS hl.1 [0, 1, 2, 3] 4 rfl ⟨rfl, rfl, rfl⟩ (c_M_keyOf l D ci A sa N (Rw) a_m a_m_cutRows a_m_cutColumns a_m_deep a_m_wide a_m_zonesAhead a_m_nameOne a_m_nameOther a_m_tape a_m_edges a_m_dist a_m_queue a_m_pieceLevel a_m_pieceKey a_m_pieceYear a_m_drawnKeys a_m_kept a_m_noNumbers m_taped m_place m_fault m_number m_levelRead m_keyRead m_reads m_faults m_cutShort m_noNumber m_bottomLat m_bottomLon m_firstBeside m_manyBeside m_queued m_boxLevel m_boxTop m_boxBottom m_boxWest m_boxEast m_isEarly m_pieces m_states m_drawnNow m_keptAt m_deep m_wide m_zonesAhead m_boxLevel v2 v8 v9 hm51) 0 rfl rfl (cwV 3 hts gX11_boxKey_X11_keyOf rfl rfl rfl (by decide +kernel) ⟨Nat.le_of_ble_eq_true rfl, Nat.le_of_ble_eq_true rfl⟩) rfl rfl (Nat.le_of_ble_eq_true rfl) dX11_boxKey_51 ⟨Nat.zero_le _, Nat.zero_le _⟩ (fun locs hS => ?_)
            obtain rfl := Option.some.inj hf
            have hk7 : (v9 : Int32) = r := hk7
            obtain rfl := hk7
            rw [hQ]
            exact q_iretr (pc := 54) hx hb hr hlocks rfl hS dX11_boxKey_54
    exact LP7 N p1 m_boxTop _ _ _ hm7 rfl hS (lv_sub hl [2, 1, 0] rfl)
  exact hgo _ _ rfl hP hS
/-! X11_box -/
set_option maxRecDepth 100000 in
set_option maxHeartbeats 4000000 in
theorem c_M_box (l : Launch) (D : va_G) (ci : Nat → ClassId) (A : Nat → Prop) (sa : Nat → Nat) (N : Nat) (Rw : va_W) (a_m : Nat) (a_m_cutRows : Nat) (a_m_cutColumns : Nat) (a_m_deep : Nat) (a_m_wide : Nat) (a_m_zonesAhead : Nat) (a_m_nameOne : Nat) (a_m_nameOther : Nat) (a_m_tape : Nat) (a_m_edges : Nat) (a_m_dist : Nat) (a_m_queue : Nat) (a_m_pieceLevel : Nat) (a_m_pieceKey : Nat) (a_m_pieceYear : Nat) (a_m_drawnKeys : Nat) (a_m_kept : Nat) (a_m_noNumbers : Nat) (m_taped : Int32) (m_place : Int32) (m_fault : Int32) (m_number : Int32) (m_levelRead : Int32) (m_keyRead : Int32) (m_reads : Int32) (m_faults : Int32) (m_cutShort : Int32) (m_noNumber : Int32) (m_bottomLat : Int64) (m_bottomLon : Int64) (m_firstBeside : Int32) (m_manyBeside : Int32) (m_queued : Int32) (m_boxLevel : Int32) (m_boxTop : Int32) (m_boxBottom : Int32) (m_boxWest : Int32) (m_boxEast : Int32) (m_isEarly : Int32) (m_pieces : Int32) (m_states : Int32) (m_drawnNow : Int32) (m_keptAt : Int32) (m_deep : Nat → Int32) (m_wide : Nat → Int32) (m_zonesAhead : Nat → Int32) (p1 : Int32) (p2 : Int32) (p3 : Int32) (p4 : Int32) (p5 : Int32) (p6 : Int32) (r : Int32) (o1 : Int32) (o2 : Int32) (o3 : Int32) (o4 : Int32) (o5 : Int32) (hf : f_M_box N m_deep m_wide m_zonesAhead m_boxLevel m_boxTop m_boxBottom m_boxWest m_boxEast p1 p2 p3 p4 p5 p6 = some (r, o1, o2, o3, o4, o5)) : Met l yX11_box wsX11_box ({ frames := 5, cells := 0, slots := 0, locals := 112 }) (va_Pc [.ref a_m, .int p1, .int p2, .int p3, .int p4, .int p5, .int p6] (q_N D ci A sa ((a_m, .inr (11, (.ref a_m_cutRows :: .ref a_m_cutColumns :: .ref a_m_deep :: .ref a_m_wide :: .ref a_m_zonesAhead :: .ref a_m_nameOne :: .ref a_m_nameOther :: .ref a_m_tape :: .int m_taped :: .int m_place :: .int m_fault :: .int m_number :: .int m_levelRead :: .int m_keyRead :: .int m_reads :: .int m_faults :: .int m_cutShort :: .int m_noNumber :: .long m_bottomLat :: .long m_bottomLon :: .ref a_m_edges :: .int m_firstBeside :: .int m_manyBeside :: .ref a_m_dist :: .ref a_m_queue :: .int m_queued :: .int m_boxLevel :: .int m_boxTop :: .int m_boxBottom :: .int m_boxWest :: .int m_boxEast :: .int m_isEarly :: .int m_pieces :: .int m_states :: .ref a_m_pieceLevel :: .ref a_m_pieceKey :: .ref a_m_pieceYear :: .int m_drawnNow :: .ref a_m_drawnKeys :: .ref a_m_kept :: .int m_keptAt :: .ref a_m_noNumbers :: []))) :: (a_m_deep, .inl (ci 0, 5, .inl m_deep)) :: (a_m_wide, .inl (ci 0, 5, .inl m_wide)) :: (a_m_zonesAhead, .inl (ci 0, 45, .inl m_zonesAhead)) :: Rw))) (q_Q (some (.int r)) (q_O D A ((a_m, .inr (11, (.ref a_m_cutRows :: .ref a_m_cutColumns :: .ref a_m_deep :: .ref a_m_wide :: .ref a_m_zonesAhead :: .ref a_m_nameOne :: .ref a_m_nameOther :: .ref a_m_tape :: .int m_taped :: .int m_place :: .int m_fault :: .int m_number :: .int m_levelRead :: .int m_keyRead :: .int m_reads :: .int m_faults :: .int m_cutShort :: .int m_noNumber :: .long m_bottomLat :: .long m_bottomLon :: .ref a_m_edges :: .int m_firstBeside :: .int m_manyBeside :: .ref a_m_dist :: .ref a_m_queue :: .int m_queued :: .int o1 :: .int o2 :: .int o3 :: .int o4 :: .int o5 :: .int m_isEarly :: .int m_pieces :: .int m_states :: .ref a_m_pieceLevel :: .ref a_m_pieceKey :: .ref a_m_pieceYear :: .int m_drawnNow :: .ref a_m_drawnKeys :: .ref a_m_kept :: .int m_keptAt :: .ref a_m_noNumbers :: []))) :: (a_m_deep, .inl (ci 0, 5, .inl m_deep)) :: (a_m_wide, .inl (ci 0, 5, .inl m_wide)) :: (a_m_zonesAhead, .inl (ci 0, 45, .inl m_zonesAhead)) :: Rw)) A) 0 0 A := by
  refine q_ofW (cc := cX11_box) (maxL := 8) (ret := (some .int)) [.ref a_m, .int p1, .int p2, .int p3, .int p4, .int p5, .int p6] (plainFor_of_name (by decide)) rfl (Nat.le_of_ble_eq_true rfl) ?_
  intro p e s m below meth c ls Q hQ hx hb hml hr hts hown hlocks hK hA hZ hP hD hS hl
  have hl : lv_has ls 8 [(0, .ref a_m), (1, .int p1), (2, .int p2), (3, .int p3), (4, .int p4), (5, .int p5), (6, .int p6)] := hl
  have hown : s.vm.findClass RX11 = some m.cls := hown
  unfold f_M_box at hf
  have hgo : ∀ (H : Heap) (locs : List Loc), H = s.heap → va_P D vwCl ((a_m, .inr (11, (.ref a_m_cutRows :: .ref a_m_cutColumns :: .ref a_m_deep :: .ref a_m_wide :: .ref a_m_zonesAhead :: .ref a_m_nameOne :: .ref a_m_nameOther :: .ref a_m_tape :: .int m_taped :: .int m_place :: .int m_fault :: .int m_number :: .int m_levelRead :: .int m_keyRead :: .int m_reads :: .int m_faults :: .int m_cutShort :: .int m_noNumber :: .long m_bottomLat :: .long m_bottomLon :: .ref a_m_edges :: .int m_firstBeside :: .int m_manyBeside :: .ref a_m_dist :: .ref a_m_queue :: .int m_queued :: .int m_boxLevel :: .int m_boxTop :: .int m_boxBottom :: .int m_boxWest :: .int m_boxEast :: .int m_isEarly :: .int m_pieces :: .int m_states :: .ref a_m_pieceLevel :: .ref a_m_pieceKey :: .ref a_m_pieceYear :: .int m_drawnNow :: .ref a_m_drawnKeys :: .ref a_m_kept :: .int m_keptAt :: .ref a_m_noNumbers :: []))) :: (a_m_deep, .inl (ci 0, 5, .inl m_deep)) :: (a_m_wide, .inl (ci 0, 5, .inl m_wide)) :: (a_m_zonesAhead, .inl (ci 0, 45, .inl m_zonesAhead)) :: Rw) H → va_S A s.heap H locs → W p l e ({ frames := 5, cells := 0, slots := 0, locals := 112 } : Room) s m ([.ref a_m, .int p1, .int p2, .int p3, .int p4, .int p5, .int p6] : List Value).toArray below meth c H locs 0 0 Q (F0 m 0 ls []) := by
    intro H locs hH hP hS
    refine lv_aload_n (pc := 0) hx hb dX11_box_0 rfl (lv_at hl 0 rfl) ?_
    refine lv_iload_n (pc := 1) hx hb dX11_box_1 rfl (lv_at hl 1 rfl) ?_
    refine lv_iload_n (pc := 2) hx hb dX11_box_2 rfl (lv_at hl 2 rfl) ?_
    refine lv_iload_n (pc := 3) hx hb dX11_box_3 rfl (lv_at hl 3 rfl) ?_
    refine lv_iload (pc := 4) hx hb dX11_box_4 (lv_at hl 4 rfl) ?_
    obtain ⟨v1, hm6, hf⟩ := q_b1_e hf
    refine q_cVr (pc := 6) (As := [.int p1, .int p2, .int p3, .int p4]) (rest := []) (v0 := (some (.int v1))) ⟨hx, hb, hml, hown, hts⟩ hK hA hZ hP hD hS hl.1 [0] 4 rfl ⟨rfl, rfl, rfl⟩ (c_M_isBox l D ci A sa N (Rw) a_m a_m_cutRows a_m_cutColumns a_m_deep a_m_wide a_m_zonesAhead a_m_nameOne a_m_nameOther a_m_tape a_m_edges a_m_dist a_m_queue a_m_pieceLevel a_m_pieceKey a_m_pieceYear a_m_drawnKeys a_m_kept a_m_noNumbers m_taped m_place m_fault m_number m_levelRead m_keyRead m_reads m_faults m_cutShort m_noNumber m_bottomLat m_bottomLon m_firstBeside m_manyBeside m_queued m_boxLevel m_boxTop m_boxBottom m_boxWest m_boxEast m_isEarly m_pieces m_states m_drawnNow m_keptAt p1 p2 p3 p4 v1 hm6) 0 rfl rfl (cwV 4 hts gX11_box_X11_isBox rfl rfl rfl (by decide +kernel) ⟨Nat.le_of_ble_eq_true rfl, Nat.le_of_ble_eq_true rfl⟩) rfl rfl (Nat.le_of_ble_eq_true rfl) dX11_box_6 ⟨Nat.zero_le _, Nat.zero_le _⟩ (fun locs hS => ?_)
    refine q_if_eq (pc := 9) (tgt := 26) hx hb dX11_box_9 (by decide) rfl hf (fun hf => ?_) (fun hf => ?_)
    · refine lv_iconst (pc := 26) (v := (-1)) hx hb dX11_box_26 (by decide) ?_
      obtain ⟨e90, e91, e92, e93, e94, e95⟩ := q_inj6 (Option.some.inj hf)
      rw [hQ, ← e90, ← e91, ← e92, ← e93, ← e94, ← e95]
      exact q_iret (pc := 27) hx hb hr hlocks hP hD hS dX11_box_27
    · refine lv_iload (pc := 12) hx hb dX11_box_12 (lv_at hl 5 rfl) ?_
      obtain ⟨v2, hm14, hf⟩ := q_b1_e hf
      refine q_cSr (pc := 14) (As := [.int p5]) (rest := []) (v0 := (some (.int v2))) ⟨hx, hb, hml, hown, hts⟩ hK hA hZ hP hD hS hl.1 [] 4 rfl ⟨rfl, rfl, rfl⟩ (c_M_isLevel l D ci A sa N (Rw) p5 v2 hm14) (va_cwS 1 hts gX11_box_X11_isLevel rfl rfl rfl (by decide +kernel) ⟨Nat.le_of_ble_eq_true rfl, Nat.le_of_ble_eq_true rfl⟩) rfl rfl (Nat.le_of_ble_eq_true rfl) dX11_box_14 ⟨Nat.zero_le _, Nat.zero_le _⟩ (fun locs hS => ?_)
      refine q_if_eq (pc := 17) (tgt := 26) hx hb dX11_box_17 (by decide) rfl hf (fun hf => ?_) (fun hf => ?_)
      · refine lv_iconst (pc := 26) (v := (-1)) hx hb dX11_box_26 (by decide) ?_
        obtain ⟨e90, e91, e92, e93, e94, e95⟩ := q_inj6 (Option.some.inj hf)
        rw [hQ, ← e90, ← e91, ← e92, ← e93, ← e94, ← e95]
        exact q_iret (pc := 27) hx hb hr hlocks hP hD hS dX11_box_27
      · refine lv_iload (pc := 20) hx hb dX11_box_20 (lv_at hl 6 rfl) ?_
        refine lv_iconst (pc := 22) (v := (-1)) hx hb dX11_box_22 (by decide) ?_
        refine q_icmp_ge (pc := 23) (tgt := 28) hx hb dX11_box_23 (by decide) rfl hf (fun hf => ?_) (fun hf => ?_)
        · refine lv_aload_n (pc := 28) hx hb dX11_box_28 rfl (lv_at hl 0 rfl) ?_
          refine lv_iload_n (pc := 29) hx hb dX11_box_29 rfl (lv_at hl 1 rfl) ?_
          refine lv_iload_n (pc := 30) hx hb dX11_box_30 rfl (lv_at hl 2 rfl) ?_
          refine lv_iload_n (pc := 31) hx hb dX11_box_31 rfl (lv_at hl 3 rfl) ?_
          refine lv_iload (pc := 32) hx hb dX11_box_32 (lv_at hl 4 rfl) ?_
          refine lv_iload (pc := 34) hx hb dX11_box_34 (lv_at hl 5 rfl) ?_
          obtain ⟨v3, v4, v5, v6, v7, hm36, hf⟩ := q_b5_e hf
          refine q_cV (pc := 36) (As := [.int p1, .int p2, .int p3, .int p4, .int p5]) (rest := []) (v0 := none) ⟨hx, hb, hml, hown, hts⟩ hK hA hZ hP hD hS hl.1 [0, 1, 2, 3] 4 rfl ⟨rfl, rfl, rfl⟩ (c_M_laysBox l D ci A sa N ((a_m_wide, .inl (ci 0, 5, .inl m_wide)) :: (a_m_zonesAhead, .inl (ci 0, 45, .inl m_zonesAhead)) :: Rw) a_m a_m_cutRows a_m_cutColumns a_m_deep a_m_wide a_m_zonesAhead a_m_nameOne a_m_nameOther a_m_tape a_m_edges a_m_dist a_m_queue a_m_pieceLevel a_m_pieceKey a_m_pieceYear a_m_drawnKeys a_m_kept a_m_noNumbers m_taped m_place m_fault m_number m_levelRead m_keyRead m_reads m_faults m_cutShort m_noNumber m_bottomLat m_bottomLon m_firstBeside m_manyBeside m_queued m_boxLevel m_boxTop m_boxBottom m_boxWest m_boxEast m_isEarly m_pieces m_states m_drawnNow m_keptAt m_deep p1 p2 p3 p4 p5 v3 v4 v5 v6 v7 hm36) 0 rfl rfl (cwV 5 hts gX11_box_X11_laysBox rfl rfl rfl (by decide +kernel) ⟨Nat.le_of_ble_eq_true rfl, Nat.le_of_ble_eq_true rfl⟩) rfl rfl (Nat.le_of_ble_eq_true rfl) dX11_box_36 ⟨Nat.zero_le _, Nat.zero_le _⟩ [0, 1, 2, 3] 4 rfl ⟨rfl, rfl, rfl⟩ (fun H locs hP hD hS => ?_)
          obtain ⟨hP, hD⟩ : va_PD D A ((a_m, .inr (11, (.ref a_m_cutRows :: .ref a_m_cutColumns :: .ref a_m_deep :: .ref a_m_wide :: .ref a_m_zonesAhead :: .ref a_m_nameOne :: .ref a_m_nameOther :: .ref a_m_tape :: .int m_taped :: .int m_place :: .int m_fault :: .int m_number :: .int m_levelRead :: .int m_keyRead :: .int m_reads :: .int m_faults :: .int m_cutShort :: .int m_noNumber :: .long m_bottomLat :: .long m_bottomLon :: .ref a_m_edges :: .int m_firstBeside :: .int m_manyBeside :: .ref a_m_dist :: .ref a_m_queue :: .int m_queued :: .int v3 :: .int v4 :: .int v5 :: .int v6 :: .int v7 :: .int m_isEarly :: .int m_pieces :: .int m_states :: .ref a_m_pieceLevel :: .ref a_m_pieceKey :: .ref a_m_pieceYear :: .int m_drawnNow :: .ref a_m_drawnKeys :: .ref a_m_kept :: .int m_keptAt :: .ref a_m_noNumbers :: []))) :: (a_m_deep, .inl (ci 0, 5, .inl m_deep)) :: (a_m_wide, .inl (ci 0, 5, .inl m_wide)) :: (a_m_zonesAhead, .inl (ci 0, 45, .inl m_zonesAhead)) :: Rw) H := ⟨hP, hD⟩
          refine lv_aload_n (pc := 39) hx hb dX11_box_39 rfl (lv_at hl 0 rfl) ?_
          obtain ⟨v8, hm40, hf⟩ := q_b1_e hf
          refine q_cVr (pc := 40) (As := []) (rest := []) (v0 := (some (.int v8))) ⟨hx, hb, hml, hown, hts⟩ hK hA hZ hP hD hS hl.1 [0, 1, 2] 4 rfl ⟨rfl, rfl, rfl⟩ (c_M_boxAll l D ci A sa N (Rw) a_m a_m_cutRows a_m_cutColumns a_m_deep a_m_wide a_m_zonesAhead a_m_nameOne a_m_nameOther a_m_tape a_m_edges a_m_dist a_m_queue a_m_pieceLevel a_m_pieceKey a_m_pieceYear a_m_drawnKeys a_m_kept a_m_noNumbers m_taped m_place m_fault m_number m_levelRead m_keyRead m_reads m_faults m_cutShort m_noNumber m_bottomLat m_bottomLon m_firstBeside m_manyBeside m_queued v3 v4 v5 v6 v7 m_isEarly m_pieces m_states m_drawnNow m_keptAt m_deep m_wide v8 hm40) 0 rfl rfl (cwV 0 hts gX11_box_X11_boxAll rfl rfl rfl (by decide +kernel) ⟨Nat.le_of_ble_eq_true rfl, Nat.le_of_ble_eq_true rfl⟩) rfl rfl (Nat.le_of_ble_eq_true rfl) dX11_box_40 ⟨Nat.zero_le _, Nat.zero_le _⟩ (fun locs hS => ?_)
          refine lv_istore (pc := 43) (lv' := [(7, .int v8), (0, .ref a_m), (1, .int p1), (2, .int p2), (3, .int p3), (4, .int p4), (5, .int p5), (6, .int p6)]) hx hb dX11_box_43 hl (by decide) rfl (fun ls hl => ?_)
          refine lv_iload (pc := 45) hx hb dX11_box_45 (lv_at hl 7 rfl) ?_
          refine lv_iconst (pc := 47) (v := (-1)) hx hb dX11_box_47 (by decide) ?_
          refine q_icmp_ne (pc := 48) (tgt := 56) hx hb dX11_box_48 (by decide) rfl hf (fun hf => ?_) (fun hf => ?_)
          · refine lv_iload (pc := 56) hx hb dX11_box_56 (lv_at hl 7 rfl) ?_
            refine lv_iload (pc := 58) hx hb dX11_box_58 (lv_at hl 0 rfl) ?_
            refine q_icmp_ge (pc := 60) (tgt := 72) hx hb dX11_box_60 (by decide) rfl hf (fun hf => ?_) (fun hf => ?_)
            · refine lv_bipush (pc := 72) (v := (-2)) hx hb dX11_box_72 (by decide) ?_
              obtain ⟨e90, e91, e92, e93, e94, e95⟩ := q_inj6 (Option.some.inj hf)
              rw [hQ, ← e90, ← e91, ← e92, ← e93, ← e94, ← e95]
              exact q_iret (pc := 74) hx hb hr hlocks hP hD hS dX11_box_74
            · refine lv_aload_n (pc := 63) hx hb dX11_box_63 rfl (lv_at hl 1 rfl) ?_
              refine lv_iload (pc := 64) hx hb dX11_box_64 (lv_at hl 7 rfl) ?_
              obtain ⟨v9, hm66, hf⟩ := q_b1_e hf
              refine q_cVr (pc := 66) (As := [.int p6]) (rest := []) (v0 := (some (.int v9))) ⟨hx, hb, hml, hown, hts⟩ hK hA hZ hP hD hS hl.1 [0, 1, 2, 3] 4 rfl ⟨rfl, rfl, rfl⟩ (c_M_boxKey l D ci A sa N (Rw) a_m a_m_cutRows a_m_cutColumns a_m_deep a_m_wide a_m_zonesAhead a_m_nameOne a_m_nameOther a_m_tape a_m_edges a_m_dist a_m_queue a_m_pieceLevel a_m_pieceKey a_m_pieceYear a_m_drawnKeys a_m_kept a_m_noNumbers m_taped m_place m_fault m_number m_levelRead m_keyRead m_reads m_faults m_cutShort m_noNumber m_bottomLat m_bottomLon m_firstBeside m_manyBeside m_queued v3 v4 v5 v6 v7 m_isEarly m_pieces m_states m_drawnNow m_keptAt m_deep m_wide m_zonesAhead p6 v9 hm66) 0 rfl rfl (cwV 1 hts gX11_box_X11_boxKey rfl rfl rfl (by decide +kernel) ⟨Nat.le_of_ble_eq_true rfl, Nat.le_of_ble_eq_true rfl⟩) rfl rfl (Nat.le_of_ble_eq_true rfl) dX11_box_66 ⟨Nat.zero_le _, Nat.zero_le _⟩ (fun locs hS => ?_)
              refine lv_goto (pc := 69) (tgt := 74) hx hb dX11_box_69 (by decide) ?_
              obtain ⟨e90, e91, e92, e93, e94, e95⟩ := q_inj6 (Option.some.inj hf)
              rw [hQ, ← e90, ← e91, ← e92, ← e93, ← e94, ← e95]
              exact q_iret (pc := 74) hx hb hr hlocks hP hD hS dX11_box_74
          · refine lv_iload (pc := 51) hx hb dX11_box_51 (lv_at hl 0 rfl) ?_
            refine lv_goto (pc := 53) (tgt := 74) hx hb dX11_box_53 (by decide) ?_
            obtain ⟨e90, e91, e92, e93, e94, e95⟩ := q_inj6 (Option.some.inj hf)
            rw [hQ, ← e90, ← e91, ← e92, ← e93, ← e94, ← e95]
            exact q_iret (pc := 74) hx hb hr hlocks hP hD hS dX11_box_74
        · refine lv_iconst (pc := 26) (v := (-1)) hx hb dX11_box_26 (by decide) ?_
          obtain ⟨e90, e91, e92, e93, e94, e95⟩ := q_inj6 (Option.some.inj hf)
          rw [hQ, ← e90, ← e91, ← e92, ← e93, ← e94, ← e95]
          exact q_iret (pc := 27) hx hb hr hlocks hP hD hS dX11_box_27
  exact hgo _ _ rfl hP hS
/-! X11_keyAtPlace -/
set_option maxRecDepth 100000 in
set_option maxHeartbeats 4000000 in
theorem c_M_keyAtPlace (l : Launch) (D : va_G) (ci : Nat → ClassId) (A : Nat → Prop) (sa : Nat → Nat) (N : Nat) (Rw : va_W) (a_m : Nat) (a_m_cutRows : Nat) (a_m_cutColumns : Nat) (a_m_deep : Nat) (a_m_wide : Nat) (a_m_zonesAhead : Nat) (a_m_nameOne : Nat) (a_m_nameOther : Nat) (a_m_tape : Nat) (a_m_edges : Nat) (a_m_dist : Nat) (a_m_queue : Nat) (a_m_pieceLevel : Nat) (a_m_pieceKey : Nat) (a_m_pieceYear : Nat) (a_m_drawnKeys : Nat) (a_m_kept : Nat) (a_m_noNumbers : Nat) (m_taped : Int32) (m_place : Int32) (m_fault : Int32) (m_number : Int32) (m_levelRead : Int32) (m_keyRead : Int32) (m_reads : Int32) (m_faults : Int32) (m_cutShort : Int32) (m_noNumber : Int32) (m_bottomLat : Int64) (m_bottomLon : Int64) (m_firstBeside : Int32) (m_manyBeside : Int32) (m_queued : Int32) (m_boxLevel : Int32) (m_boxTop : Int32) (m_boxBottom : Int32) (m_boxWest : Int32) (m_boxEast : Int32) (m_isEarly : Int32) (m_pieces : Int32) (m_states : Int32) (m_drawnNow : Int32) (m_keptAt : Int32) (m_deep : Nat → Int32) (m_wide : Nat → Int32) (m_zonesAhead : Nat → Int32) (p1 : Int32) (p2 : Int32) (p3 : Int32) (r : Int32) (hf : f_M_keyAtPlace m_deep m_wide m_zonesAhead p1 p2 p3 = some r) : Met l yX11_keyAtPlace wsX11_keyAtPlace ({ frames := 3, cells := 0, slots := 0, locals := 66 }) (va_Pc [.ref a_m, .int p1, .int p2, .int p3] (q_N D ci A sa ((a_m, .inr (11, (.ref a_m_cutRows :: .ref a_m_cutColumns :: .ref a_m_deep :: .ref a_m_wide :: .ref a_m_zonesAhead :: .ref a_m_nameOne :: .ref a_m_nameOther :: .ref a_m_tape :: .int m_taped :: .int m_place :: .int m_fault :: .int m_number :: .int m_levelRead :: .int m_keyRead :: .int m_reads :: .int m_faults :: .int m_cutShort :: .int m_noNumber :: .long m_bottomLat :: .long m_bottomLon :: .ref a_m_edges :: .int m_firstBeside :: .int m_manyBeside :: .ref a_m_dist :: .ref a_m_queue :: .int m_queued :: .int m_boxLevel :: .int m_boxTop :: .int m_boxBottom :: .int m_boxWest :: .int m_boxEast :: .int m_isEarly :: .int m_pieces :: .int m_states :: .ref a_m_pieceLevel :: .ref a_m_pieceKey :: .ref a_m_pieceYear :: .int m_drawnNow :: .ref a_m_drawnKeys :: .ref a_m_kept :: .int m_keptAt :: .ref a_m_noNumbers :: []))) :: (a_m_deep, .inl (ci 0, 5, .inl m_deep)) :: (a_m_wide, .inl (ci 0, 5, .inl m_wide)) :: (a_m_zonesAhead, .inl (ci 0, 45, .inl m_zonesAhead)) :: Rw))) (q_R (some (.int r))) 0 0 A := by
  refine q_ofW (cc := cX11_keyAtPlace) (maxL := 5) (ret := (some .int)) [.ref a_m, .int p1, .int p2, .int p3] (plainFor_of_name (by decide)) rfl (Nat.le_of_ble_eq_true rfl) ?_
  intro p e s m below meth c ls Q hQ hx hb hml hr hts hown hlocks hK hA hZ hP hD hS hl
  have hl : lv_has ls 5 [(0, .ref a_m), (1, .int p1), (2, .int p2), (3, .int p3)] := hl
  have hown : s.vm.findClass RX11 = some m.cls := hown
  unfold f_M_keyAtPlace at hf
  have hgo : ∀ (H : Heap) (locs : List Loc), H = s.heap → va_P D vwCl ((a_m, .inr (11, (.ref a_m_cutRows :: .ref a_m_cutColumns :: .ref a_m_deep :: .ref a_m_wide :: .ref a_m_zonesAhead :: .ref a_m_nameOne :: .ref a_m_nameOther :: .ref a_m_tape :: .int m_taped :: .int m_place :: .int m_fault :: .int m_number :: .int m_levelRead :: .int m_keyRead :: .int m_reads :: .int m_faults :: .int m_cutShort :: .int m_noNumber :: .long m_bottomLat :: .long m_bottomLon :: .ref a_m_edges :: .int m_firstBeside :: .int m_manyBeside :: .ref a_m_dist :: .ref a_m_queue :: .int m_queued :: .int m_boxLevel :: .int m_boxTop :: .int m_boxBottom :: .int m_boxWest :: .int m_boxEast :: .int m_isEarly :: .int m_pieces :: .int m_states :: .ref a_m_pieceLevel :: .ref a_m_pieceKey :: .ref a_m_pieceYear :: .int m_drawnNow :: .ref a_m_drawnKeys :: .ref a_m_kept :: .int m_keptAt :: .ref a_m_noNumbers :: []))) :: (a_m_deep, .inl (ci 0, 5, .inl m_deep)) :: (a_m_wide, .inl (ci 0, 5, .inl m_wide)) :: (a_m_zonesAhead, .inl (ci 0, 45, .inl m_zonesAhead)) :: Rw) H → va_S A s.heap H locs → W p l e ({ frames := 3, cells := 0, slots := 0, locals := 66 } : Room) s m ([.ref a_m, .int p1, .int p2, .int p3] : List Value).toArray below meth c H locs 0 0 Q (F0 m 0 ls []) := by
    intro H locs hH hP hS
    subst hH
    refine lv_aload_n (pc := 0) hx hb dX11_keyAtPlace_0 rfl (lv_at hl 0 rfl) ?_
    refine lv_iload_n (pc := 1) hx hb dX11_keyAtPlace_1 rfl (lv_at hl 1 rfl) ?_
    refine lv_iload_n (pc := 2) hx hb dX11_keyAtPlace_2 rfl (lv_at hl 3 rfl) ?_
    obtain ⟨v1, hm3, hf⟩ := q_b1_e hf
    refine q_cVr (pc := 3) (As := [.int p1, .int p3]) (rest := []) (v0 := (some (.int v1))) ⟨hx, hb, hml, hown, hts⟩ hK hA hZ hP hD hS hl.1 [0, 1] 4 rfl ⟨rfl, rfl, rfl⟩ (c_M_rowAt l D ci A sa N (Rw) a_m a_m_cutRows a_m_cutColumns a_m_deep a_m_wide a_m_zonesAhead a_m_nameOne a_m_nameOther a_m_tape a_m_edges a_m_dist a_m_queue a_m_pieceLevel a_m_pieceKey a_m_pieceYear a_m_drawnKeys a_m_kept a_m_noNumbers m_taped m_place m_fault m_number m_levelRead m_keyRead m_reads m_faults m_cutShort m_noNumber m_bottomLat m_bottomLon m_firstBeside m_manyBeside m_queued m_boxLevel m_boxTop m_boxBottom m_boxWest m_boxEast m_isEarly m_pieces m_states m_drawnNow m_keptAt m_deep p1 p3 v1 hm3) 0 rfl rfl (cwV 2 hts gX11_keyAtPlace_X11_rowAt rfl rfl rfl (by decide +kernel) ⟨Nat.le_of_ble_eq_true rfl, Nat.le_of_ble_eq_true rfl⟩) rfl rfl (Nat.le_of_ble_eq_true rfl) dX11_keyAtPlace_3 ⟨Nat.zero_le _, Nat.zero_le _⟩ (fun locs hS => ?_)
    refine lv_istore (pc := 6) (lv' := [(4, .int v1), (0, .ref a_m), (1, .int p1), (2, .int p2), (3, .int p3)]) hx hb dX11_keyAtPlace_6 hl (by decide) rfl (fun ls hl => ?_)
    refine lv_aload_n (pc := 8) hx hb dX11_keyAtPlace_8 rfl (lv_at hl 1 rfl) ?_
    refine lv_iload_n (pc := 9) hx hb dX11_keyAtPlace_9 rfl (lv_at hl 4 rfl) ?_
    refine lv_iload (pc := 10) hx hb dX11_keyAtPlace_10 (lv_at hl 0 rfl) ?_
    refine lv_aload_n (pc := 12) hx hb dX11_keyAtPlace_12 rfl (lv_at hl 1 rfl) ?_
    refine lv_iload_n (pc := 13) hx hb dX11_keyAtPlace_13 rfl (lv_at hl 3 rfl) ?_
    refine lv_aload_n (pc := 14) hx hb dX11_keyAtPlace_14 rfl (lv_at hl 1 rfl) ?_
    refine lv_iload_n (pc := 15) hx hb dX11_keyAtPlace_15 rfl (lv_at hl 4 rfl) ?_
    refine lv_iload (pc := 16) hx hb dX11_keyAtPlace_16 (lv_at hl 0 rfl) ?_
    obtain ⟨v2, hm18, hf⟩ := q_b1_e hf
    refine q_cVr (pc := 18) (As := [.int p3, .int v1]) (rest := [.int p2, .ref a_m, .int v1, .int p3, .ref a_m]) (v0 := (some (.int v2))) ⟨hx, hb, hml, hown, hts⟩ hK hA hZ hP hD hS hl.1 [0, 1, 2] 4 rfl ⟨rfl, rfl, rfl⟩ (c_M_many l D ci A sa N (Rw) a_m a_m_cutRows a_m_cutColumns a_m_deep a_m_wide a_m_zonesAhead a_m_nameOne a_m_nameOther a_m_tape a_m_edges a_m_dist a_m_queue a_m_pieceLevel a_m_pieceKey a_m_pieceYear a_m_drawnKeys a_m_kept a_m_noNumbers m_taped m_place m_fault m_number m_levelRead m_keyRead m_reads m_faults m_cutShort m_noNumber m_bottomLat m_bottomLon m_firstBeside m_manyBeside m_queued m_boxLevel m_boxTop m_boxBottom m_boxWest m_boxEast m_isEarly m_pieces m_states m_drawnNow m_keptAt m_deep m_wide p3 v1 v2 hm18) 0 rfl rfl (cwV 2 hts gX11_keyAtPlace_X11_many rfl rfl rfl (by decide +kernel) ⟨Nat.le_of_ble_eq_true rfl, Nat.le_of_ble_eq_true rfl⟩) rfl rfl (Nat.le_of_ble_eq_true rfl) dX11_keyAtPlace_18 ⟨Nat.zero_le _, Nat.zero_le _⟩ (fun locs hS => ?_)
    obtain ⟨v3, hm21, hf⟩ := q_b1_e hf
    refine q_cVr (pc := 21) (As := [.int p2, .int v2]) (rest := [.int v1, .int p3, .ref a_m]) (v0 := (some (.int v3))) ⟨hx, hb, hml, hown, hts⟩ hK hA hZ hP hD hS hl.1 [0] 4 rfl ⟨rfl, rfl, rfl⟩ (c_M_placeAt l D ci A sa N (Rw) a_m a_m_cutRows a_m_cutColumns a_m_deep a_m_wide a_m_zonesAhead a_m_nameOne a_m_nameOther a_m_tape a_m_edges a_m_dist a_m_queue a_m_pieceLevel a_m_pieceKey a_m_pieceYear a_m_drawnKeys a_m_kept a_m_noNumbers m_taped m_place m_fault m_number m_levelRead m_keyRead m_reads m_faults m_cutShort m_noNumber m_bottomLat m_bottomLon m_firstBeside m_manyBeside m_queued m_boxLevel m_boxTop m_boxBottom m_boxWest m_boxEast m_isEarly m_pieces m_states m_drawnNow m_keptAt p2 v2 v3 hm21) 0 rfl rfl (cwV 2 hts gX11_keyAtPlace_X11_placeAt rfl rfl rfl (by decide +kernel) ⟨Nat.le_of_ble_eq_true rfl, Nat.le_of_ble_eq_true rfl⟩) rfl rfl (Nat.le_of_ble_eq_true rfl) dX11_keyAtPlace_21 ⟨Nat.zero_le _, Nat.zero_le _⟩ (fun locs hS => ?_)
    obtain ⟨v4, hm24, hf⟩ := q_b1_e hf
    refine q_cVr (pc := 24) (As := [.int p3, .int v1, .int v3]) (rest := []) (v0 := (some (.int v4))) ⟨hx, hb, hml, hown, hts⟩ hK hA hZ hP hD hS hl.1 [0, 1, 2, 3] 4 rfl ⟨rfl, rfl, rfl⟩ (c_M_keyOf l D ci A sa N (Rw) a_m a_m_cutRows a_m_cutColumns a_m_deep a_m_wide a_m_zonesAhead a_m_nameOne a_m_nameOther a_m_tape a_m_edges a_m_dist a_m_queue a_m_pieceLevel a_m_pieceKey a_m_pieceYear a_m_drawnKeys a_m_kept a_m_noNumbers m_taped m_place m_fault m_number m_levelRead m_keyRead m_reads m_faults m_cutShort m_noNumber m_bottomLat m_bottomLon m_firstBeside m_manyBeside m_queued m_boxLevel m_boxTop m_boxBottom m_boxWest m_boxEast m_isEarly m_pieces m_states m_drawnNow m_keptAt m_deep m_wide m_zonesAhead p3 v1 v3 v4 hm24) 0 rfl rfl (cwV 3 hts gX11_keyAtPlace_X11_keyOf rfl rfl rfl (by decide +kernel) ⟨Nat.le_of_ble_eq_true rfl, Nat.le_of_ble_eq_true rfl⟩) rfl rfl (Nat.le_of_ble_eq_true rfl) dX11_keyAtPlace_24 ⟨Nat.zero_le _, Nat.zero_le _⟩ (fun locs hS => ?_)
    obtain rfl := Option.some.inj hf
    rw [hQ]
    exact q_iretr (pc := 27) hx hb hr hlocks rfl hS dX11_keyAtPlace_27
  exact hgo _ _ rfl hP hS
/-! X11_changes -/
set_option maxRecDepth 100000 in
set_option maxHeartbeats 4000000 in
theorem c_M_changes (l : Launch) (D : va_G) (ci : Nat → ClassId) (A : Nat → Prop) (sa : Nat → Nat) (N : Nat) (Rw : va_W) (a_m : Nat) (a_m_cutRows : Nat) (a_m_cutColumns : Nat) (a_m_deep : Nat) (a_m_wide : Nat) (a_m_zonesAhead : Nat) (a_m_nameOne : Nat) (a_m_nameOther : Nat) (a_m_tape : Nat) (a_m_edges : Nat) (a_m_dist : Nat) (a_m_queue : Nat) (a_m_pieceLevel : Nat) (a_m_pieceKey : Nat) (a_m_pieceYear : Nat) (a_m_drawnKeys : Nat) (a_m_kept : Nat) (a_m_noNumbers : Nat) (m_taped : Int32) (m_place : Int32) (m_fault : Int32) (m_number : Int32) (m_levelRead : Int32) (m_keyRead : Int32) (m_reads : Int32) (m_faults : Int32) (m_cutShort : Int32) (m_noNumber : Int32) (m_bottomLat : Int64) (m_bottomLon : Int64) (m_firstBeside : Int32) (m_manyBeside : Int32) (m_queued : Int32) (m_boxLevel : Int32) (m_boxTop : Int32) (m_boxBottom : Int32) (m_boxWest : Int32) (m_boxEast : Int32) (m_isEarly : Int32) (m_pieces : Int32) (m_states : Int32) (m_drawnNow : Int32) (m_keptAt : Int32) (m_deep : Nat → Int32) (m_wide : Nat → Int32) (m_zonesAhead : Nat → Int32) (p1 : Int32) (p2 : Int32) (p3 : Int32) (p4 : Int32) (p5 : Int32) (p6 : Int32) (r : Int32) (hf : f_M_changes N m_deep m_wide m_zonesAhead p1 p2 p3 p4 p5 p6 = some r) : Met l yX11_changes wsX11_changes ({ frames := 4, cells := 0, slots := 0, locals := 90 }) (va_Pc [.ref a_m, .int p1, .int p2, .int p3, .int p4, .int p5, .int p6] (q_N D ci A sa ((a_m, .inr (11, (.ref a_m_cutRows :: .ref a_m_cutColumns :: .ref a_m_deep :: .ref a_m_wide :: .ref a_m_zonesAhead :: .ref a_m_nameOne :: .ref a_m_nameOther :: .ref a_m_tape :: .int m_taped :: .int m_place :: .int m_fault :: .int m_number :: .int m_levelRead :: .int m_keyRead :: .int m_reads :: .int m_faults :: .int m_cutShort :: .int m_noNumber :: .long m_bottomLat :: .long m_bottomLon :: .ref a_m_edges :: .int m_firstBeside :: .int m_manyBeside :: .ref a_m_dist :: .ref a_m_queue :: .int m_queued :: .int m_boxLevel :: .int m_boxTop :: .int m_boxBottom :: .int m_boxWest :: .int m_boxEast :: .int m_isEarly :: .int m_pieces :: .int m_states :: .ref a_m_pieceLevel :: .ref a_m_pieceKey :: .ref a_m_pieceYear :: .int m_drawnNow :: .ref a_m_drawnKeys :: .ref a_m_kept :: .int m_keptAt :: .ref a_m_noNumbers :: []))) :: (a_m_deep, .inl (ci 0, 5, .inl m_deep)) :: (a_m_wide, .inl (ci 0, 5, .inl m_wide)) :: (a_m_zonesAhead, .inl (ci 0, 45, .inl m_zonesAhead)) :: Rw))) (q_R (some (.int r))) 0 0 A := by
  refine q_ofW (cc := cX11_changes) (maxL := 13) (ret := (some .int)) [.ref a_m, .int p1, .int p2, .int p3, .int p4, .int p5, .int p6] (plainFor_of_name (by decide)) rfl (Nat.le_of_ble_eq_true rfl) ?_
  intro p e s m below meth c ls Q hQ hx hb hml hr hts hown hlocks hK hA hZ hP hD hS hl
  have hl : lv_has ls 13 [(0, .ref a_m), (1, .int p1), (2, .int p2), (3, .int p3), (4, .int p4), (5, .int p5), (6, .int p6)] := hl
  have hown : s.vm.findClass RX11 = some m.cls := hown
  have w_1 := hts (Cond.constantLong RX11 429 (200)) (List.mem_cons_of_mem _ t_w971)
  unfold f_M_changes at hf
  have hgo : ∀ (H : Heap) (locs : List Loc), H = s.heap → va_P D vwCl ((a_m, .inr (11, (.ref a_m_cutRows :: .ref a_m_cutColumns :: .ref a_m_deep :: .ref a_m_wide :: .ref a_m_zonesAhead :: .ref a_m_nameOne :: .ref a_m_nameOther :: .ref a_m_tape :: .int m_taped :: .int m_place :: .int m_fault :: .int m_number :: .int m_levelRead :: .int m_keyRead :: .int m_reads :: .int m_faults :: .int m_cutShort :: .int m_noNumber :: .long m_bottomLat :: .long m_bottomLon :: .ref a_m_edges :: .int m_firstBeside :: .int m_manyBeside :: .ref a_m_dist :: .ref a_m_queue :: .int m_queued :: .int m_boxLevel :: .int m_boxTop :: .int m_boxBottom :: .int m_boxWest :: .int m_boxEast :: .int m_isEarly :: .int m_pieces :: .int m_states :: .ref a_m_pieceLevel :: .ref a_m_pieceKey :: .ref a_m_pieceYear :: .int m_drawnNow :: .ref a_m_drawnKeys :: .ref a_m_kept :: .int m_keptAt :: .ref a_m_noNumbers :: []))) :: (a_m_deep, .inl (ci 0, 5, .inl m_deep)) :: (a_m_wide, .inl (ci 0, 5, .inl m_wide)) :: (a_m_zonesAhead, .inl (ci 0, 45, .inl m_zonesAhead)) :: Rw) H → va_S A s.heap H locs → W p l e ({ frames := 4, cells := 0, slots := 0, locals := 90 } : Room) s m ([.ref a_m, .int p1, .int p2, .int p3, .int p4, .int p5, .int p6] : List Value).toArray below meth c H locs 0 0 Q (F0 m 0 ls []) := by
    intro H locs hH hP hS
    subst hH
    refine lv_iload_n (pc := 0) hx hb dX11_changes_0 rfl (lv_at hl 1 rfl) ?_
    refine lv_iload_n (pc := 1) hx hb dX11_changes_1 rfl (lv_at hl 2 rfl) ?_
    obtain ⟨v1, hm2, hf⟩ := q_b1_e hf
    refine q_cSr (pc := 2) (As := [.int p1, .int p2]) (rest := []) (v0 := (some (.int v1))) ⟨hx, hb, hml, hown, hts⟩ hK hA hZ hP hD hS hl.1 [] 4 rfl ⟨rfl, rfl, rfl⟩ (c_M_isPlace l D ci A sa N (Rw) p1 p2 v1 hm2) (va_cwS 2 hts gX11_changes_X11_isPlace rfl rfl rfl (by decide +kernel) ⟨Nat.le_of_ble_eq_true rfl, Nat.le_of_ble_eq_true rfl⟩) rfl rfl (Nat.le_of_ble_eq_true rfl) dX11_changes_2 ⟨Nat.zero_le _, Nat.zero_le _⟩ (fun locs hS => ?_)
    refine q_if_eq (pc := 5) (tgt := 38) hx hb dX11_changes_5 (by decide) rfl hf (fun hf => ?_) (fun hf => ?_)
    · refine lv_iconst (pc := 38) (v := (-1)) hx hb dX11_changes_38 (by decide) ?_
      obtain rfl := Option.some.inj hf
      rw [hQ]
      exact q_iretr (pc := 39) hx hb hr hlocks rfl hS dX11_changes_39
    · refine lv_iload_n (pc := 8) hx hb dX11_changes_8 rfl (lv_at hl 3 rfl) ?_
      refine lv_iload (pc := 9) hx hb dX11_changes_9 (lv_at hl 4 rfl) ?_
      obtain ⟨v2, hm11, hf⟩ := q_b1_e hf
      refine q_cSr (pc := 11) (As := [.int p3, .int p4]) (rest := []) (v0 := (some (.int v2))) ⟨hx, hb, hml, hown, hts⟩ hK hA hZ hP hD hS hl.1 [] 4 rfl ⟨rfl, rfl, rfl⟩ (c_M_isPlace l D ci A sa N (Rw) p3 p4 v2 hm11) (va_cwS 2 hts gX11_changes_X11_isPlace rfl rfl rfl (by decide +kernel) ⟨Nat.le_of_ble_eq_true rfl, Nat.le_of_ble_eq_true rfl⟩) rfl rfl (Nat.le_of_ble_eq_true rfl) dX11_changes_11 ⟨Nat.zero_le _, Nat.zero_le _⟩ (fun locs hS => ?_)
      refine q_if_eq (pc := 14) (tgt := 38) hx hb dX11_changes_14 (by decide) rfl hf (fun hf => ?_) (fun hf => ?_)
      · refine lv_iconst (pc := 38) (v := (-1)) hx hb dX11_changes_38 (by decide) ?_
        obtain rfl := Option.some.inj hf
        rw [hQ]
        exact q_iretr (pc := 39) hx hb hr hlocks rfl hS dX11_changes_39
      · refine lv_iload (pc := 17) hx hb dX11_changes_17 (lv_at hl 5 rfl) ?_
        refine lv_i2l (pc := 19) hx hb dX11_changes_19 rfl ?_
        refine lv_lconst (pc := 20) (v := 1) hx hb dX11_changes_20 (by decide) ?_
        refine lv_ldc2 (pc := 21) (v := 200) hx hb hown w_1 dX11_changes_21 ?_
        obtain ⟨v3, hm24, hf⟩ := q_b1_e hf
        refine q_cSr (pc := 24) (As := [.long p5.toInt64, .long 1, .long 200]) (rest := []) (v0 := (some (.int v3))) ⟨hx, hb, hml, hown, hts⟩ hK hA hZ hP hD hS hl.1 [] 4 rfl ⟨rfl, rfl, rfl⟩ (c_M_in l D ci A sa N (Rw) p5.toInt64 1 200 v3 hm24) (va_cwS 3 hts gX11_changes_X11_in rfl rfl rfl (by decide +kernel) ⟨Nat.le_of_ble_eq_true rfl, Nat.le_of_ble_eq_true rfl⟩) rfl rfl (Nat.le_of_ble_eq_true rfl) dX11_changes_24 ⟨Nat.zero_le _, Nat.zero_le _⟩ (fun locs hS => ?_)
        refine q_if_eq (pc := 27) (tgt := 38) hx hb dX11_changes_27 (by decide) rfl hf (fun hf => ?_) (fun hf => ?_)
        · refine lv_iconst (pc := 38) (v := (-1)) hx hb dX11_changes_38 (by decide) ?_
          obtain rfl := Option.some.inj hf
          rw [hQ]
          exact q_iretr (pc := 39) hx hb hr hlocks rfl hS dX11_changes_39
        · refine lv_iload (pc := 30) hx hb dX11_changes_30 (lv_at hl 6 rfl) ?_
          obtain ⟨v4, hm32, hf⟩ := q_b1_e hf
          refine q_cSr (pc := 32) (As := [.int p6]) (rest := []) (v0 := (some (.int v4))) ⟨hx, hb, hml, hown, hts⟩ hK hA hZ hP hD hS hl.1 [] 4 rfl ⟨rfl, rfl, rfl⟩ (c_M_isLevel l D ci A sa N (Rw) p6 v4 hm32) (va_cwS 1 hts gX11_changes_X11_isLevel rfl rfl rfl (by decide +kernel) ⟨Nat.le_of_ble_eq_true rfl, Nat.le_of_ble_eq_true rfl⟩) rfl rfl (Nat.le_of_ble_eq_true rfl) dX11_changes_32 ⟨Nat.zero_le _, Nat.zero_le _⟩ (fun locs hS => ?_)
          refine q_if_ne (pc := 35) (tgt := 40) hx hb dX11_changes_35 (by decide) rfl hf (fun hf => ?_) (fun hf => ?_)
          · refine lv_iconst (pc := 40) (v := 0) hx hb dX11_changes_40 (by decide) ?_
            obtain ⟨v5, ev5, hf⟩ := q_nm_e hf
            refine q_topi ev5 ?_
            refine lv_istore (pc := 41) (lv' := [(7, .int v5), (0, .ref a_m), (1, .int p1), (2, .int p2), (3, .int p3), (4, .int p4), (5, .int p5), (6, .int p6)]) hx hb dX11_changes_41 hl (by decide) rfl (fun ls hl => ?_)
            refine lv_aload_n (pc := 43) hx hb dX11_changes_43 rfl (lv_at hl 1 rfl) ?_
            refine lv_iload_n (pc := 44) hx hb dX11_changes_44 rfl (lv_at hl 2 rfl) ?_
            refine lv_iload_n (pc := 45) hx hb dX11_changes_45 rfl (lv_at hl 3 rfl) ?_
            refine lv_iload (pc := 46) hx hb dX11_changes_46 (lv_at hl 7 rfl) ?_
            obtain ⟨v6, hm48, hf⟩ := q_b1_e hf
            refine q_cVr (pc := 48) (As := [.int p1, .int p2, .int p6]) (rest := []) (v0 := (some (.int v6))) ⟨hx, hb, hml, hown, hts⟩ hK hA hZ hP hD hS hl.1 [0, 1, 2, 3] 4 rfl ⟨rfl, rfl, rfl⟩ (c_M_keyAtPlace l D ci A sa N (Rw) a_m a_m_cutRows a_m_cutColumns a_m_deep a_m_wide a_m_zonesAhead a_m_nameOne a_m_nameOther a_m_tape a_m_edges a_m_dist a_m_queue a_m_pieceLevel a_m_pieceKey a_m_pieceYear a_m_drawnKeys a_m_kept a_m_noNumbers m_taped m_place m_fault m_number m_levelRead m_keyRead m_reads m_faults m_cutShort m_noNumber m_bottomLat m_bottomLon m_firstBeside m_manyBeside m_queued m_boxLevel m_boxTop m_boxBottom m_boxWest m_boxEast m_isEarly m_pieces m_states m_drawnNow m_keptAt m_deep m_wide m_zonesAhead p1 p2 p6 v6 hm48) 0 rfl rfl (cwV 3 hts gX11_changes_X11_keyAtPlace rfl rfl rfl (by decide +kernel) ⟨Nat.le_of_ble_eq_true rfl, Nat.le_of_ble_eq_true rfl⟩) rfl rfl (Nat.le_of_ble_eq_true rfl) dX11_changes_48 ⟨Nat.zero_le _, Nat.zero_le _⟩ (fun locs hS => ?_)
            refine lv_istore (pc := 51) (lv' := [(8, .int v6), (7, .int v5), (0, .ref a_m), (1, .int p1), (2, .int p2), (3, .int p3), (4, .int p4), (5, .int p5), (6, .int p6)]) hx hb dX11_changes_51 hl (by decide) rfl (fun ls hl => ?_)
            refine lv_iconst (pc := 53) (v := 1) hx hb dX11_changes_53 (by decide) ?_
            obtain ⟨v7, ev7, hf⟩ := q_nm_e hf
            refine q_topi ev7 ?_
            refine lv_istore (pc := 54) (lv' := [(9, .int v7), (8, .int v6), (7, .int v5), (0, .ref a_m), (1, .int p1), (2, .int p2), (3, .int p3), (4, .int p4), (5, .int p5), (6, .int p6)]) hx hb dX11_changes_54 hl (by decide) rfl (fun ls hl => ?_)
            obtain ⟨v11, hm56, hf⟩ := q_b1_e hf
            have JE56 : ∀ (H : Heap) (locs : List Loc) (ls : Array Slot), H = s.heap → va_S A s.heap H locs → lv_has ls 13 [(7, .int v11)] → W p l e ({ frames := 4, cells := 0, slots := 0, locals := 90 } : Room) s m ([.ref a_m, .int p1, .int p2, .int p3, .int p4, .int p5, .int p6] : List Value).toArray below meth c H locs 0 0 Q (F0 m 151 ls []) := by
              intro H locs ls hHs hS hl
              subst hHs
              refine lv_iload (pc := 151) hx hb dX11_changes_151 (lv_at hl 0 rfl) ?_
              obtain rfl := Option.some.inj hf
              rw [hQ]
              exact q_iretr (pc := 153) hx hb hr hlocks rfl hS dX11_changes_153
            have LP56 : ∀ (n56 : Nat) (v8 : Int32) (v9 : Int32) (v10 : Int32) (H : Heap) (locs : List Loc) (ls : Array Slot), f_M_changes_L56 m_deep m_wide m_zonesAhead p1 p2 p3 p4 p5 p6 n56 v8 v9 v10 = some v11 → H = s.heap → va_S A s.heap H locs → lv_has ls 13 [(0, .ref a_m), (1, .int p1), (2, .int p2), (3, .int p3), (4, .int p4), (5, .int p5), (6, .int p6), (7, .int v8), (8, .int v9), (9, .int v10)] → W p l e ({ frames := 4, cells := 0, slots := 0, locals := 90 } : Room) s m ([.ref a_m, .int p1, .int p2, .int p3, .int p4, .int p5, .int p6] : List Value).toArray below meth c H locs 0 0 Q (F0 m 56 ls []) := by
              intro n56
              induction n56 with
              | zero => intro v8 v9 v10 H locs ls hf; rw [f_M_changes_L56] at hf; cases hf
              | succ n56 ih56 =>
                intro v8 v9 v10 H locs ls hf hHs hS hl
                subst hHs
                rw [f_M_changes_L56] at hf
                refine lv_iload (pc := 56) hx hb dX11_changes_56 (lv_at hl 9 rfl) ?_
                refine lv_iload (pc := 58) hx hb dX11_changes_58 (lv_at hl 5 rfl) ?_
                refine q_icmp_gt (pc := 60) (tgt := 151) hx hb dX11_changes_60 (by decide) rfl hf (fun hf => ?_) (fun hf => ?_)
                · obtain rfl := Option.some.inj hf
                  exact JE56 _ _ _ rfl hS (lv_sub hl [7] rfl)
                · refine lv_iload_n (pc := 63) hx hb dX11_changes_63 rfl (lv_at hl 1 rfl) ?_
                  refine lv_i2l (pc := 64) hx hb dX11_changes_64 rfl ?_
                  refine lv_iload (pc := 65) hx hb dX11_changes_65 (lv_at hl 5 rfl) ?_
                  refine lv_i2l (pc := 67) hx hb dX11_changes_67 rfl ?_
                  refine lv_lmul (pc := 68) hx hb dX11_changes_68 ?_
                  refine lv_iload_n (pc := 69) hx hb dX11_changes_69 rfl (lv_at hl 3 rfl) ?_
                  refine lv_iload_n (pc := 70) hx hb dX11_changes_70 rfl (lv_at hl 1 rfl) ?_
                  refine lv_isub (pc := 71) hx hb dX11_changes_71 ?_
                  refine lv_i2l (pc := 72) hx hb dX11_changes_72 rfl ?_
                  refine lv_iload (pc := 73) hx hb dX11_changes_73 (lv_at hl 9 rfl) ?_
                  refine lv_i2l (pc := 75) hx hb dX11_changes_75 rfl ?_
                  refine lv_lmul (pc := 76) hx hb dX11_changes_76 ?_
                  refine lv_ladd (pc := 77) hx hb dX11_changes_77 ?_
                  refine lv_iload (pc := 78) hx hb dX11_changes_78 (lv_at hl 5 rfl) ?_
                  refine lv_i2l (pc := 80) hx hb dX11_changes_80 rfl ?_
                  obtain ⟨v12, hm81, hf⟩ := q_b1_e hf
                  refine q_cSr (pc := 81) (As := [.long ((p1.toInt64 * p5.toInt64) + (((p3 - p1).toInt64) * v10.toInt64)), .long p5.toInt64]) (rest := []) (v0 := (some (.long v12))) ⟨hx, hb, hml, hown, hts⟩ hK hA hZ hP hD hS hl.1 [] 4 rfl ⟨rfl, rfl, rfl⟩ (c_M_down l D ci A sa N (Rw) ((p1.toInt64 * p5.toInt64) + (((p3 - p1).toInt64) * v10.toInt64)) p5.toInt64 v12 hm81) (va_cwS 2 hts gX11_changes_X11_down rfl rfl rfl (by decide +kernel) ⟨Nat.le_of_ble_eq_true rfl, Nat.le_of_ble_eq_true rfl⟩) rfl rfl (Nat.le_of_ble_eq_true rfl) dX11_changes_81 ⟨Nat.zero_le _, Nat.zero_le _⟩ (fun locs hS => ?_)
                  refine lv_l2i (pc := 84) hx hb dX11_changes_84 rfl ?_
                  obtain ⟨v13, ev13, hf⟩ := q_nm_e hf
                  refine q_topi ev13 ?_
                  refine lv_istore (pc := 85) (lv' := [(10, .int v13), (0, .ref a_m), (1, .int p1), (2, .int p2), (3, .int p3), (4, .int p4), (5, .int p5), (6, .int p6), (7, .int v8), (8, .int v9), (9, .int v10)]) hx hb dX11_changes_85 hl (by decide) rfl (fun ls hl => ?_)
                  refine lv_iload_n (pc := 87) hx hb dX11_changes_87 rfl (lv_at hl 3 rfl) ?_
                  refine lv_i2l (pc := 88) hx hb dX11_changes_88 rfl ?_
                  refine lv_iload (pc := 89) hx hb dX11_changes_89 (lv_at hl 6 rfl) ?_
                  refine lv_i2l (pc := 91) hx hb dX11_changes_91 rfl ?_
                  refine lv_lmul (pc := 92) hx hb dX11_changes_92 ?_
                  refine lv_iload (pc := 93) hx hb dX11_changes_93 (lv_at hl 5 rfl) ?_
                  refine lv_iload_n (pc := 95) hx hb dX11_changes_95 rfl (lv_at hl 3 rfl) ?_
                  refine lv_isub (pc := 96) hx hb dX11_changes_96 ?_
                  refine lv_i2l (pc := 97) hx hb dX11_changes_97 rfl ?_
                  refine lv_iload (pc := 98) hx hb dX11_changes_98 (lv_at hl 10 rfl) ?_
                  refine lv_i2l (pc := 100) hx hb dX11_changes_100 rfl ?_
                  refine lv_lmul (pc := 101) hx hb dX11_changes_101 ?_
                  refine lv_ladd (pc := 102) hx hb dX11_changes_102 ?_
                  refine lv_iload (pc := 103) hx hb dX11_changes_103 (lv_at hl 6 rfl) ?_
                  refine lv_i2l (pc := 105) hx hb dX11_changes_105 rfl ?_
                  obtain ⟨v14, hm106, hf⟩ := q_b1_e hf
                  refine q_cSr (pc := 106) (As := [.long ((p2.toInt64 * p5.toInt64) + (((p4 - p2).toInt64) * v10.toInt64)), .long p5.toInt64]) (rest := []) (v0 := (some (.long v14))) ⟨hx, hb, hml, hown, hts⟩ hK hA hZ hP hD hS hl.1 [] 4 rfl ⟨rfl, rfl, rfl⟩ (c_M_down l D ci A sa N (Rw) ((p2.toInt64 * p5.toInt64) + (((p4 - p2).toInt64) * v10.toInt64)) p5.toInt64 v14 hm106) (va_cwS 2 hts gX11_changes_X11_down rfl rfl rfl (by decide +kernel) ⟨Nat.le_of_ble_eq_true rfl, Nat.le_of_ble_eq_true rfl⟩) rfl rfl (Nat.le_of_ble_eq_true rfl) dX11_changes_106 ⟨Nat.zero_le _, Nat.zero_le _⟩ (fun locs hS => ?_)
                  refine lv_l2i (pc := 109) hx hb dX11_changes_109 rfl ?_
                  obtain ⟨v15, ev15, hf⟩ := q_nm_e hf
                  refine q_topi ev15 ?_
                  refine lv_istore (pc := 110) (lv' := [(11, .int v15), (10, .int v13), (0, .ref a_m), (1, .int p1), (2, .int p2), (3, .int p3), (4, .int p4), (5, .int p5), (6, .int p6), (7, .int v8), (8, .int v9), (9, .int v10)]) hx hb dX11_changes_110 hl (by decide) rfl (fun ls hl => ?_)
                  refine lv_aload_n (pc := 112) hx hb dX11_changes_112 rfl (lv_at hl 2 rfl) ?_
                  refine lv_iload (pc := 113) hx hb dX11_changes_113 (lv_at hl 1 rfl) ?_
                  refine lv_iload (pc := 115) hx hb dX11_changes_115 (lv_at hl 0 rfl) ?_
                  refine lv_iload (pc := 117) hx hb dX11_changes_117 (lv_at hl 8 rfl) ?_
                  obtain ⟨v16, hm119, hf⟩ := q_b1_e hf
                  refine q_cVr (pc := 119) (As := [.int v13, .int v15, .int p6]) (rest := []) (v0 := (some (.int v16))) ⟨hx, hb, hml, hown, hts⟩ hK hA hZ hP hD hS hl.1 [0, 1, 2, 3] 4 rfl ⟨rfl, rfl, rfl⟩ (c_M_keyAtPlace l D ci A sa N (Rw) a_m a_m_cutRows a_m_cutColumns a_m_deep a_m_wide a_m_zonesAhead a_m_nameOne a_m_nameOther a_m_tape a_m_edges a_m_dist a_m_queue a_m_pieceLevel a_m_pieceKey a_m_pieceYear a_m_drawnKeys a_m_kept a_m_noNumbers m_taped m_place m_fault m_number m_levelRead m_keyRead m_reads m_faults m_cutShort m_noNumber m_bottomLat m_bottomLon m_firstBeside m_manyBeside m_queued m_boxLevel m_boxTop m_boxBottom m_boxWest m_boxEast m_isEarly m_pieces m_states m_drawnNow m_keptAt m_deep m_wide m_zonesAhead v13 v15 p6 v16 hm119) 0 rfl rfl (cwV 3 hts gX11_changes_X11_keyAtPlace rfl rfl rfl (by decide +kernel) ⟨Nat.le_of_ble_eq_true rfl, Nat.le_of_ble_eq_true rfl⟩) rfl rfl (Nat.le_of_ble_eq_true rfl) dX11_changes_119 ⟨Nat.zero_le _, Nat.zero_le _⟩ (fun locs hS => ?_)
                  refine lv_istore (pc := 122) (lv' := [(12, .int v16), (11, .int v15), (10, .int v13), (0, .ref a_m), (1, .int p1), (2, .int p2), (3, .int p3), (4, .int p4), (5, .int p5), (6, .int p6), (7, .int v8), (8, .int v9), (9, .int v10)]) hx hb dX11_changes_122 hl (by decide) rfl (fun ls hl => ?_)
                  refine lv_iload (pc := 124) hx hb dX11_changes_124 (lv_at hl 10 rfl) ?_
                  refine lv_iload (pc := 126) hx hb dX11_changes_126 (lv_at hl 0 rfl) ?_
                  refine lv_iload (pc := 128) hx hb dX11_changes_128 (lv_at hl 11 rfl) ?_
                  obtain ⟨k138, ek138, hf⟩ := q_j1_e hf
                  have J138 : ∀ (v17 : Int32) (H : Heap) (locs : List Loc) (ls : Array Slot), k138 v17 = some v11 → H = s.heap → va_S A s.heap H locs → lv_has ls 13 [(0, .ref a_m), (1, .int p1), (2, .int p2), (3, .int p3), (4, .int p4), (5, .int p5), (6, .int p6), (9, .int v10), (12, .int v16)] → W p l e ({ frames := 4, cells := 0, slots := 0, locals := 90 } : Room) s m ([.ref a_m, .int p1, .int p2, .int p3, .int p4, .int p5, .int p6] : List Value).toArray below meth c H locs 0 0 Q (F0 m 138 ls [.int v17, .int v8]) := by
                    intro v17 H locs ls hf hHs hS hl
                    subst hHs
                    have hf := (ek138 v17).symm.trans hf
                    refine lv_iadd (pc := 138) hx hb dX11_changes_138 ?_
                    obtain ⟨v18, ev18, hf⟩ := q_nm_e hf
                    refine q_topi ev18 ?_
                    refine lv_istore (pc := 139) (lv' := [(7, .int v18), (0, .ref a_m), (1, .int p1), (2, .int p2), (3, .int p3), (4, .int p4), (5, .int p5), (6, .int p6), (9, .int v10), (12, .int v16)]) hx hb dX11_changes_139 hl (by decide) rfl (fun ls hl => ?_)
                    refine lv_iload (pc := 141) hx hb dX11_changes_141 (lv_at hl 9 rfl) ?_
                    refine lv_istore (pc := 143) (lv' := [(8, .int v16), (7, .int v18), (0, .ref a_m), (1, .int p1), (2, .int p2), (3, .int p3), (4, .int p4), (5, .int p5), (6, .int p6), (9, .int v10), (12, .int v16)]) hx hb dX11_changes_143 hl (by decide) rfl (fun ls hl => ?_)
                    obtain ⟨v19, ev19, hf⟩ := q_nm_e hf
                    refine lv_iinc (pc := 145) (v := v19) (lv' := [(9, .int v19), (8, .int v16), (7, .int v18), (0, .ref a_m), (1, .int p1), (2, .int p2), (3, .int p3), (4, .int p4), (5, .int p5), (6, .int p6), (12, .int v16)]) hx hb dX11_changes_145 hl (k := 9) rfl (by rw [ev19]; rfl) (by decide) rfl (fun ls hl => ?_)
                    refine lv_goto (pc := 148) (tgt := 56) hx hb dX11_changes_148 (by decide) ?_
                    exact ih56 v18 v16 v19 _ _ _ hf rfl hS (lv_sub hl [3, 4, 5, 6, 7, 8, 9, 2, 1, 0] rfl)
                  refine q_icmp_ne (pc := 130) (tgt := 137) hx hb dX11_changes_130 (by decide) rfl hf (fun hf => ?_) (fun hf => ?_)
                  · refine lv_iconst (pc := 137) (v := 1) hx hb dX11_changes_137 (by decide) ?_
                    exact J138 1 _ _ _ hf rfl hS (lv_sub hl [3, 4, 5, 6, 7, 8, 9, 12, 0] rfl)
                  · refine lv_iconst (pc := 133) (v := 0) hx hb dX11_changes_133 (by decide) ?_
                    refine lv_goto (pc := 134) (tgt := 138) hx hb dX11_changes_134 (by decide) ?_
                    exact J138 0 _ _ _ hf rfl hS (lv_sub hl [3, 4, 5, 6, 7, 8, 9, 12, 0] rfl)
            exact LP56 N v5 v6 v7 _ _ _ hm56 rfl hS (lv_sub hl [3, 4, 5, 6, 7, 8, 9, 2, 1, 0] rfl)
          · refine lv_iconst (pc := 38) (v := (-1)) hx hb dX11_changes_38 (by decide) ?_
            obtain rfl := Option.some.inj hf
            rw [hQ]
            exact q_iretr (pc := 39) hx hb hr hlocks rfl hS dX11_changes_39
  exact hgo _ _ rfl hP hS
