section
/-! X11_at -/
set_option maxRecDepth 100000 in
set_option maxHeartbeats 4000000 in
theorem c_M_at (l : Launch) (D : va_G) (ci : Nat → ClassId) (A : Nat → Prop) (sa : Nat → Nat) (N : Nat) (Rw : va_W) (a_m : Nat) (a_m_cutRows : Nat) (a_m_cutColumns : Nat) (a_m_deep : Nat) (a_m_wide : Nat) (a_m_zonesAhead : Nat) (a_m_nameOne : Nat) (a_m_nameOther : Nat) (a_m_tape : Nat) (a_m_edges : Nat) (a_m_dist : Nat) (a_m_queue : Nat) (a_m_pieceLevel : Nat) (a_m_pieceKey : Nat) (a_m_pieceYear : Nat) (a_m_drawnKeys : Nat) (a_m_kept : Nat) (a_m_noNumbers : Nat) (m_taped : Int32) (m_place : Int32) (m_fault : Int32) (m_number : Int32) (m_levelRead : Int32) (m_keyRead : Int32) (m_reads : Int32) (m_faults : Int32) (m_cutShort : Int32) (m_noNumber : Int32) (m_bottomLat : Int64) (m_bottomLon : Int64) (m_firstBeside : Int32) (m_manyBeside : Int32) (m_queued : Int32) (m_boxLevel : Int32) (m_boxTop : Int32) (m_boxBottom : Int32) (m_boxWest : Int32) (m_boxEast : Int32) (m_isEarly : Int32) (m_pieces : Int32) (m_states : Int32) (m_drawnNow : Int32) (m_keptAt : Int32) (m_cutRows : Nat → Int32) (m_cutColumns : Nat → Int32) (m_deep : Nat → Int32) (m_wide : Nat → Int32) (m_zonesAhead : Nat → Int32) (p1 : Int32) (p2 : Int32) (p3 : Int32) (r : Int32) (hf : f_M_at N m_cutRows m_cutColumns m_deep m_wide m_zonesAhead p1 p2 p3 = some r) : Met l yX11_at wsX11_at ({ frames := 4, cells := 0, slots := 0, locals := 88 }) (va_Pc [.ref a_m, .int p1, .int p2, .int p3] (q_N D ci A sa ((a_m, .inr (11, (.ref a_m_cutRows :: .ref a_m_cutColumns :: .ref a_m_deep :: .ref a_m_wide :: .ref a_m_zonesAhead :: .ref a_m_nameOne :: .ref a_m_nameOther :: .ref a_m_tape :: .int m_taped :: .int m_place :: .int m_fault :: .int m_number :: .int m_levelRead :: .int m_keyRead :: .int m_reads :: .int m_faults :: .int m_cutShort :: .int m_noNumber :: .long m_bottomLat :: .long m_bottomLon :: .ref a_m_edges :: .int m_firstBeside :: .int m_manyBeside :: .ref a_m_dist :: .ref a_m_queue :: .int m_queued :: .int m_boxLevel :: .int m_boxTop :: .int m_boxBottom :: .int m_boxWest :: .int m_boxEast :: .int m_isEarly :: .int m_pieces :: .int m_states :: .ref a_m_pieceLevel :: .ref a_m_pieceKey :: .ref a_m_pieceYear :: .int m_drawnNow :: .ref a_m_drawnKeys :: .ref a_m_kept :: .int m_keptAt :: .ref a_m_noNumbers :: []))) :: (a_m_cutRows, .inl (ci 0, 5, .inl m_cutRows)) :: (a_m_cutColumns, .inl (ci 0, 5, .inl m_cutColumns)) :: (a_m_deep, .inl (ci 0, 5, .inl m_deep)) :: (a_m_wide, .inl (ci 0, 5, .inl m_wide)) :: (a_m_zonesAhead, .inl (ci 0, 45, .inl m_zonesAhead)) :: Rw))) (q_R (some (.int r))) 0 0 A := by
  refine q_ofW (cc := cX11_at) (maxL := 7) (ret := (some .int)) [.ref a_m, .int p1, .int p2, .int p3] (plainFor_of_name (by decide)) rfl (Nat.le_of_ble_eq_true rfl) ?_
  intro p e s m below meth c ls Q hQ hx hb hml hr hts hown hlocks hK hA hZ hP hD hS hl
  have hl : lv_has ls 7 [(0, .ref a_m), (1, .int p1), (2, .int p2), (3, .int p3)] := hl
  have hown : s.vm.findClass RX11 = some m.cls := hown
  have hinX11 : ∀ w ∈ wsX110, w ∈ wsX11_at := fun _ h => List.mem_cons_of_mem _ (inWX110 _ h)
  have w_1 := hts (Cond.constantLong RX11 131 (5)) (List.mem_cons_of_mem _ t_w966)
  have w_2 := hts (Cond.constant RX11 253 (-1000000)) (List.mem_cons_of_mem _ t_w967)
  have w_3 := hts (Cond.fieldLink RX11 19 "SheetNamesModel" "wide" "[I") (List.mem_cons_of_mem _ t_w909)
  unfold f_M_at at hf
  have hgo : ∀ (H : Heap) (locs : List Loc), H = s.heap → va_P D vwCl ((a_m, .inr (11, (.ref a_m_cutRows :: .ref a_m_cutColumns :: .ref a_m_deep :: .ref a_m_wide :: .ref a_m_zonesAhead :: .ref a_m_nameOne :: .ref a_m_nameOther :: .ref a_m_tape :: .int m_taped :: .int m_place :: .int m_fault :: .int m_number :: .int m_levelRead :: .int m_keyRead :: .int m_reads :: .int m_faults :: .int m_cutShort :: .int m_noNumber :: .long m_bottomLat :: .long m_bottomLon :: .ref a_m_edges :: .int m_firstBeside :: .int m_manyBeside :: .ref a_m_dist :: .ref a_m_queue :: .int m_queued :: .int m_boxLevel :: .int m_boxTop :: .int m_boxBottom :: .int m_boxWest :: .int m_boxEast :: .int m_isEarly :: .int m_pieces :: .int m_states :: .ref a_m_pieceLevel :: .ref a_m_pieceKey :: .ref a_m_pieceYear :: .int m_drawnNow :: .ref a_m_drawnKeys :: .ref a_m_kept :: .int m_keptAt :: .ref a_m_noNumbers :: []))) :: (a_m_cutRows, .inl (ci 0, 5, .inl m_cutRows)) :: (a_m_cutColumns, .inl (ci 0, 5, .inl m_cutColumns)) :: (a_m_deep, .inl (ci 0, 5, .inl m_deep)) :: (a_m_wide, .inl (ci 0, 5, .inl m_wide)) :: (a_m_zonesAhead, .inl (ci 0, 45, .inl m_zonesAhead)) :: Rw) H → va_S A s.heap H locs → W p l e ({ frames := 4, cells := 0, slots := 0, locals := 88 } : Room) s m ([.ref a_m, .int p1, .int p2, .int p3] : List Value).toArray below meth c H locs 0 0 Q (F0 m 0 ls []) := by
    intro H locs hH hP hS
    subst hH
    refine lv_aload_n (pc := 0) hx hb dX11_at_0 rfl (lv_at hl 0 rfl) ?_
    refine lv_iload_n (pc := 1) hx hb dX11_at_1 rfl (lv_at hl 1 rfl) ?_
    refine lv_iload_n (pc := 2) hx hb dX11_at_2 rfl (lv_at hl 2 rfl) ?_
    obtain ⟨v1, hm3, hf⟩ := q_b1_e hf
    refine q_cVr (pc := 3) (As := [.int p1, .int p2]) (rest := []) (v0 := (some (.int v1))) ⟨hx, hb, hml, hown, hts⟩ hK hA hZ hP hD hS hl.1 [0, 3, 4, 5] 6 rfl ⟨rfl, rfl, rfl⟩ (c_M_isKey l D ci A sa N (Rw) a_m a_m_cutRows a_m_cutColumns a_m_deep a_m_wide a_m_zonesAhead a_m_nameOne a_m_nameOther a_m_tape a_m_edges a_m_dist a_m_queue a_m_pieceLevel a_m_pieceKey a_m_pieceYear a_m_drawnKeys a_m_kept a_m_noNumbers m_taped m_place m_fault m_number m_levelRead m_keyRead m_reads m_faults m_cutShort m_noNumber m_bottomLat m_bottomLon m_firstBeside m_manyBeside m_queued m_boxLevel m_boxTop m_boxBottom m_boxWest m_boxEast m_isEarly m_pieces m_states m_drawnNow m_keptAt m_deep m_wide m_zonesAhead p1 p2 v1 hm3) 0 rfl rfl (cwV 2 hts gX11_at_X11_isKey rfl rfl rfl (by decide +kernel) ⟨Nat.le_of_ble_eq_true rfl, Nat.le_of_ble_eq_true rfl⟩) rfl rfl (Nat.le_of_ble_eq_true rfl) dX11_at_3 ⟨Nat.zero_le _, Nat.zero_le _⟩ (fun locs hS => ?_)
    refine q_if_eq (pc := 6) (tgt := 21) hx hb dX11_at_6 (by decide) rfl hf (fun hf => ?_) (fun hf => ?_)
    · refine lv_ldc (pc := 21) (v := (-1000000)) hx hb hown w_2 dX11_at_21 ?_
      obtain rfl := Option.some.inj hf
      rw [hQ]
      exact q_iretr (pc := 23) hx hb hr hlocks rfl hS dX11_at_23
    · refine lv_iload_n (pc := 9) hx hb dX11_at_9 rfl (lv_at hl 3 rfl) ?_
      refine lv_i2l (pc := 10) hx hb dX11_at_10 rfl ?_
      refine lv_lconst (pc := 11) (v := 0) hx hb dX11_at_11 (by decide) ?_
      refine lv_ldc2 (pc := 12) (v := 5) hx hb hown w_1 dX11_at_12 ?_
      obtain ⟨v2, hm15, hf⟩ := q_b1_e hf
      refine q_cSr (pc := 15) (As := [.long p3.toInt64, .long 0, .long 5]) (rest := []) (v0 := (some (.int v2))) ⟨hx, hb, hml, hown, hts⟩ hK hA hZ hP hD hS hl.1 [] 6 rfl ⟨rfl, rfl, rfl⟩ (c_M_in l D ci A sa N (Rw) p3.toInt64 0 5 v2 hm15) (va_cwS 3 hts gX11_at_X11_in rfl rfl rfl (by decide +kernel) ⟨Nat.le_of_ble_eq_true rfl, Nat.le_of_ble_eq_true rfl⟩) rfl rfl (Nat.le_of_ble_eq_true rfl) dX11_at_15 ⟨Nat.zero_le _, Nat.zero_le _⟩ (fun locs hS => ?_)
      refine q_if_ne (pc := 18) (tgt := 24) hx hb dX11_at_18 (by decide) rfl hf (fun hf => ?_) (fun hf => ?_)
      · refine lv_aload_n (pc := 24) hx hb dX11_at_24 rfl (lv_at hl 0 rfl) ?_
        refine lv_iload_n (pc := 25) hx hb dX11_at_25 rfl (lv_at hl 1 rfl) ?_
        refine lv_iload_n (pc := 26) hx hb dX11_at_26 rfl (lv_at hl 2 rfl) ?_
        obtain ⟨v3, hm27, hf⟩ := q_b1_e hf
        refine q_cVr (pc := 27) (As := [.int p1, .int p2]) (rest := []) (v0 := (some (.int v3))) ⟨hx, hb, hml, hown, hts⟩ hK hA hZ hP hD hS hl.1 [0, 3, 4, 5] 6 rfl ⟨rfl, rfl, rfl⟩ (c_M_rowOf l D ci A sa N (Rw) a_m a_m_cutRows a_m_cutColumns a_m_deep a_m_wide a_m_zonesAhead a_m_nameOne a_m_nameOther a_m_tape a_m_edges a_m_dist a_m_queue a_m_pieceLevel a_m_pieceKey a_m_pieceYear a_m_drawnKeys a_m_kept a_m_noNumbers m_taped m_place m_fault m_number m_levelRead m_keyRead m_reads m_faults m_cutShort m_noNumber m_bottomLat m_bottomLon m_firstBeside m_manyBeside m_queued m_boxLevel m_boxTop m_boxBottom m_boxWest m_boxEast m_isEarly m_pieces m_states m_drawnNow m_keptAt m_deep m_wide m_zonesAhead p1 p2 v3 hm27) 0 rfl rfl (cwV 2 hts gX11_at_X11_rowOf rfl rfl rfl (by decide +kernel) ⟨Nat.le_of_ble_eq_true rfl, Nat.le_of_ble_eq_true rfl⟩) rfl rfl (Nat.le_of_ble_eq_true rfl) dX11_at_27 ⟨Nat.zero_le _, Nat.zero_le _⟩ (fun locs hS => ?_)
        refine lv_istore (pc := 30) (lv' := [(4, .int v3), (0, .ref a_m), (1, .int p1), (2, .int p2), (3, .int p3)]) hx hb dX11_at_30 hl (by decide) rfl (fun ls hl => ?_)
        refine lv_aload_n (pc := 32) hx hb dX11_at_32 rfl (lv_at hl 1 rfl) ?_
        refine lv_iload_n (pc := 33) hx hb dX11_at_33 rfl (lv_at hl 2 rfl) ?_
        refine lv_iload_n (pc := 34) hx hb dX11_at_34 rfl (lv_at hl 3 rfl) ?_
        obtain ⟨v4, hm35, hf⟩ := q_b1_e hf
        refine q_cVr (pc := 35) (As := [.int p1, .int p2]) (rest := []) (v0 := (some (.int v4))) ⟨hx, hb, hml, hown, hts⟩ hK hA hZ hP hD hS hl.1 [0, 3, 4, 5] 6 rfl ⟨rfl, rfl, rfl⟩ (c_M_placeOf l D ci A sa N (Rw) a_m a_m_cutRows a_m_cutColumns a_m_deep a_m_wide a_m_zonesAhead a_m_nameOne a_m_nameOther a_m_tape a_m_edges a_m_dist a_m_queue a_m_pieceLevel a_m_pieceKey a_m_pieceYear a_m_drawnKeys a_m_kept a_m_noNumbers m_taped m_place m_fault m_number m_levelRead m_keyRead m_reads m_faults m_cutShort m_noNumber m_bottomLat m_bottomLon m_firstBeside m_manyBeside m_queued m_boxLevel m_boxTop m_boxBottom m_boxWest m_boxEast m_isEarly m_pieces m_states m_drawnNow m_keptAt m_deep m_wide m_zonesAhead p1 p2 v4 hm35) 0 rfl rfl (cwV 2 hts gX11_at_X11_placeOf rfl rfl rfl (by decide +kernel) ⟨Nat.le_of_ble_eq_true rfl, Nat.le_of_ble_eq_true rfl⟩) rfl rfl (Nat.le_of_ble_eq_true rfl) dX11_at_35 ⟨Nat.zero_le _, Nat.zero_le _⟩ (fun locs hS => ?_)
        refine lv_istore (pc := 38) (lv' := [(5, .int v4), (4, .int v3), (0, .ref a_m), (1, .int p1), (2, .int p2), (3, .int p3)]) hx hb dX11_at_38 hl (by decide) rfl (fun ls hl => ?_)
        refine lv_aload_n (pc := 40) hx hb dX11_at_40 rfl (lv_at hl 2 rfl) ?_
        refine lv_iload_n (pc := 41) hx hb dX11_at_41 rfl (lv_at hl 3 rfl) ?_
        refine lv_iload_n (pc := 42) hx hb dX11_at_42 rfl (lv_at hl 4 rfl) ?_
        obtain ⟨v5, hm43, hf⟩ := q_b1_e hf
        refine q_cVr (pc := 43) (As := [.int p1, .int p2]) (rest := []) (v0 := (some (.int v5))) ⟨hx, hb, hml, hown, hts⟩ hK hA hZ hP hD hS hl.1 [0, 3, 4, 5] 6 rfl ⟨rfl, rfl, rfl⟩ (c_M_isCap l D ci A sa N (Rw) a_m a_m_cutRows a_m_cutColumns a_m_deep a_m_wide a_m_zonesAhead a_m_nameOne a_m_nameOther a_m_tape a_m_edges a_m_dist a_m_queue a_m_pieceLevel a_m_pieceKey a_m_pieceYear a_m_drawnKeys a_m_kept a_m_noNumbers m_taped m_place m_fault m_number m_levelRead m_keyRead m_reads m_faults m_cutShort m_noNumber m_bottomLat m_bottomLon m_firstBeside m_manyBeside m_queued m_boxLevel m_boxTop m_boxBottom m_boxWest m_boxEast m_isEarly m_pieces m_states m_drawnNow m_keptAt m_deep m_wide m_zonesAhead p1 p2 v5 hm43) 0 rfl rfl (cwV 2 hts gX11_at_X11_isCap rfl rfl rfl (by decide +kernel) ⟨Nat.le_of_ble_eq_true rfl, Nat.le_of_ble_eq_true rfl⟩) rfl rfl (Nat.le_of_ble_eq_true rfl) dX11_at_43 ⟨Nat.zero_le _, Nat.zero_le _⟩ (fun locs hS => ?_)
        refine lv_istore (pc := 46) (lv' := [(6, .int v5), (5, .int v4), (4, .int v3), (0, .ref a_m), (1, .int p1), (2, .int p2), (3, .int p3)]) hx hb dX11_at_46 hl (by decide) rfl (fun ls hl => ?_)
        refine lv_iload_n (pc := 48) hx hb dX11_at_48 rfl (lv_at hl 6 rfl) ?_
        rcases q_if_e hf with ⟨hc0, hf⟩ | ⟨hc0, hf⟩
        · refine lv_tableIn (pc := 49) (tgt := 84) (off := 35) hx hb dX11_at_49 (by rw [hc0]; decide) (by rw [hc0]; decide) (by rw [hc0]; decide) (by decide) ?_
          refine lv_iload (pc := 84) hx hb dX11_at_84 (lv_at hl 2 rfl) ?_
          obtain rfl := Option.some.inj hf
          rw [hQ]
          exact q_iretr (pc := 86) hx hb hr hlocks rfl hS dX11_at_86
        rcases q_if_e hf with ⟨hc1, hf⟩ | ⟨hc1, hf⟩
        · refine lv_tableIn (pc := 49) (tgt := 87) (off := 38) hx hb dX11_at_49 (by rw [hc1]; decide) (by rw [hc1]; decide) (by rw [hc1]; decide) (by decide) ?_
          refine lv_iload (pc := 87) hx hb dX11_at_87 (lv_at hl 1 rfl) ?_
          obtain rfl := Option.some.inj hf
          rw [hQ]
          exact q_iretr (pc := 89) hx hb hr hlocks rfl hS dX11_at_89
        rcases q_if_e hf with ⟨hc2, hf⟩ | ⟨hc2, hf⟩
        · refine lv_tableIn (pc := 49) (tgt := 90) (off := 41) hx hb dX11_at_49 (by rw [hc2]; decide) (by rw [hc2]; decide) (by rw [hc2]; decide) (by decide) ?_
          refine lv_aload_n (pc := 90) hx hb dX11_at_90 rfl (lv_at hl 3 rfl) ?_
          refine lv_iload_n (pc := 91) hx hb dX11_at_91 rfl (lv_at hl 4 rfl) ?_
          refine lv_iload (pc := 92) hx hb dX11_at_92 (lv_at hl 2 rfl) ?_
          obtain ⟨v6, hm94, hf⟩ := q_b1_e hf
          refine q_cVr (pc := 94) (As := [.int p1, .int v3]) (rest := []) (v0 := (some (.int v6))) ⟨hx, hb, hml, hown, hts⟩ hK hA hZ hP hD hS hl.1 [0, 3, 4] 6 rfl ⟨rfl, rfl, rfl⟩ (c_M_many l D ci A sa N (Rw) a_m a_m_cutRows a_m_cutColumns a_m_deep a_m_wide a_m_zonesAhead a_m_nameOne a_m_nameOther a_m_tape a_m_edges a_m_dist a_m_queue a_m_pieceLevel a_m_pieceKey a_m_pieceYear a_m_drawnKeys a_m_kept a_m_noNumbers m_taped m_place m_fault m_number m_levelRead m_keyRead m_reads m_faults m_cutShort m_noNumber m_bottomLat m_bottomLon m_firstBeside m_manyBeside m_queued m_boxLevel m_boxTop m_boxBottom m_boxWest m_boxEast m_isEarly m_pieces m_states m_drawnNow m_keptAt m_deep m_wide p1 v3 v6 hm94) 0 rfl rfl (cwV 2 hts gX11_at_X11_many rfl rfl rfl (by decide +kernel) ⟨Nat.le_of_ble_eq_true rfl, Nat.le_of_ble_eq_true rfl⟩) rfl rfl (Nat.le_of_ble_eq_true rfl) dX11_at_94 ⟨Nat.zero_le _, Nat.zero_le _⟩ (fun locs hS => ?_)
          obtain rfl := Option.some.inj hf
          rw [hQ]
          exact q_iretr (pc := 97) hx hb hr hlocks rfl hS dX11_at_97
        rcases q_if_e hf with ⟨hc3, hf⟩ | ⟨hc3, hf⟩
        · refine lv_tableIn (pc := 49) (tgt := 98) (off := 49) hx hb dX11_at_49 (by rw [hc3]; decide) (by rw [hc3]; decide) (by rw [hc3]; decide) (by decide) ?_
          refine lv_iload (pc := 98) hx hb dX11_at_98 (lv_at hl 0 rfl) ?_
          refine q_if_eq (pc := 100) (tgt := 117) hx hb dX11_at_100 (by decide) rfl hf (fun hf => ?_) (fun hf => ?_)
          · refine lv_bipush (pc := 117) (v := 21) hx hb dX11_at_117 (by decide) ?_
            refine lv_aload_n (pc := 119) hx hb dX11_at_119 rfl (lv_at hl 3 rfl) ?_
            refine lv_iload_n (pc := 120) hx hb dX11_at_120 rfl (lv_at hl 4 rfl) ?_
            refine lv_iload (pc := 121) hx hb dX11_at_121 (lv_at hl 2 rfl) ?_
            obtain ⟨v7, hm123, hf⟩ := q_b1_e hf
            refine q_cVr (pc := 123) (As := [.int p1, .int v3]) (rest := [.int 21]) (v0 := (some (.int v7))) ⟨hx, hb, hml, hown, hts⟩ hK hA hZ hP hD hS hl.1 [0, 3] 6 rfl ⟨rfl, rfl, rfl⟩ (c_M_bandOf l D ci A sa N (Rw) a_m a_m_cutRows a_m_cutColumns a_m_deep a_m_wide a_m_zonesAhead a_m_nameOne a_m_nameOther a_m_tape a_m_edges a_m_dist a_m_queue a_m_pieceLevel a_m_pieceKey a_m_pieceYear a_m_drawnKeys a_m_kept a_m_noNumbers m_taped m_place m_fault m_number m_levelRead m_keyRead m_reads m_faults m_cutShort m_noNumber m_bottomLat m_bottomLon m_firstBeside m_manyBeside m_queued m_boxLevel m_boxTop m_boxBottom m_boxWest m_boxEast m_isEarly m_pieces m_states m_drawnNow m_keptAt m_deep p1 v3 v7 hm123) 0 rfl rfl (cwV 2 hts gX11_at_X11_bandOf rfl rfl rfl (by decide +kernel) ⟨Nat.le_of_ble_eq_true rfl, Nat.le_of_ble_eq_true rfl⟩) rfl rfl (Nat.le_of_ble_eq_true rfl) dX11_at_123 ⟨Nat.zero_le _, Nat.zero_le _⟩ (fun locs hS => ?_)
            refine lv_isub (pc := 126) hx hb dX11_at_126 ?_
            obtain rfl := Option.some.inj hf
            rw [hQ]
            exact q_iretr (pc := 127) hx hb hr hlocks rfl hS dX11_at_127
          · refine lv_iload_n (pc := 103) hx hb dX11_at_103 rfl (lv_at hl 5 rfl) ?_
            refine q_if_ne (pc := 104) (tgt := 112) hx hb dX11_at_104 (by decide) rfl hf (fun hf => ?_) (fun hf => ?_)
            · refine lv_bipush (pc := 112) (v := (-100)) hx hb dX11_at_112 (by decide) ?_
              refine lv_goto (pc := 114) (tgt := 127) hx hb dX11_at_114 (by decide) ?_
              obtain rfl := Option.some.inj hf
              rw [hQ]
              exact q_iretr (pc := 127) hx hb hr hlocks rfl hS dX11_at_127
            · refine lv_bipush (pc := 107) (v := 100) hx hb dX11_at_107 (by decide) ?_
              refine lv_goto (pc := 109) (tgt := 127) hx hb dX11_at_109 (by decide) ?_
              obtain rfl := Option.some.inj hf
              rw [hQ]
              exact q_iretr (pc := 127) hx hb hr hlocks rfl hS dX11_at_127
        rcases q_if_e hf with ⟨hc4, hf⟩ | ⟨hc4, hf⟩
        · refine lv_tableIn (pc := 49) (tgt := 128) (off := 79) hx hb dX11_at_49 (by rw [hc4]; decide) (by rw [hc4]; decide) (by rw [hc4]; decide) (by decide) ?_
          refine lv_iload (pc := 128) hx hb dX11_at_128 (lv_at hl 0 rfl) ?_
          refine q_if_eq (pc := 130) (tgt := 137) hx hb dX11_at_130 (by decide) rfl hf (fun hf => ?_) (fun hf => ?_)
          · refine lv_iload (pc := 137) hx hb dX11_at_137 (lv_at hl 1 rfl) ?_
            refine lv_aload_n (pc := 139) hx hb dX11_at_139 rfl (lv_at hl 3 rfl) ?_
            refine va_get (pc := 140) (D := D) (ci := 11) (v := .ref a_m_wide) (C := RX11) (T := TX11) (N := 42) hx hb hts hinX11 hown hK hP 0 rfl rfl 3 (by decide) w_3 (fun _ h9 => h9) rfl dX11_at_140 ?_
            refine lv_iload_n (pc := 143) hx hb dX11_at_143 rfl (lv_at hl 4 rfl) ?_
            refine q_iald (pc := 144) hx hb hK hP 4 0 hf rfl rfl dX11_at_144 (fun v8 hf => ?_)
            refine q_idiv (pc := 145) hx hb dX11_at_145 hf (fun v9 hf => ?_)
            obtain rfl := Option.some.inj hf
            rw [hQ]
            exact q_iretr (pc := 146) hx hb hr hlocks rfl hS dX11_at_146
          · refine lv_iconst (pc := 133) (v := 0) hx hb dX11_at_133 (by decide) ?_
            refine lv_goto (pc := 134) (tgt := 146) hx hb dX11_at_134 (by decide) ?_
            obtain rfl := Option.some.inj hf
            rw [hQ]
            exact q_iretr (pc := 146) hx hb hr hlocks rfl hS dX11_at_146
        have hsw : p3.toInt < 0 ∨ 4 < p3.toInt := by
          have hd0 := q_nei hc0; have hd1 := q_nei hc1; have hd2 := q_nei hc2; have hd3 := q_nei hc3; have hd4 := q_nei hc4
          rw [show (0 : Int32).toInt = 0 from rfl] at hd0; rw [show (1 : Int32).toInt = 1 from rfl] at hd1; rw [show (2 : Int32).toInt = 2 from rfl] at hd2; rw [show (3 : Int32).toInt = 3 from rfl] at hd3; rw [show (4 : Int32).toInt = 4 from rfl] at hd4
          omega
        refine lv_tableOut (pc := 49) (tgt := 147) hx hb dX11_at_49 hsw (by decide) ?_
        refine lv_iload (pc := 147) hx hb dX11_at_147 (lv_at hl 0 rfl) ?_
        refine q_if_eq (pc := 149) (tgt := 156) hx hb dX11_at_149 (by decide) rfl hf (fun hf => ?_) (fun hf => ?_)
        · refine lv_iload_n (pc := 156) hx hb dX11_at_156 rfl (lv_at hl 4 rfl) ?_
          refine q_if_ne (pc := 157) (tgt := 167) hx hb dX11_at_157 (by decide) rfl hf (fun hf => ?_) (fun hf => ?_)
          · refine lv_aload_n (pc := 167) hx hb dX11_at_167 rfl (lv_at hl 3 rfl) ?_
            refine lv_iload_n (pc := 168) hx hb dX11_at_168 rfl (lv_at hl 4 rfl) ?_
            refine lv_iload (pc := 169) hx hb dX11_at_169 (lv_at hl 2 rfl) ?_
            refine lv_iload (pc := 171) hx hb dX11_at_171 (lv_at hl 1 rfl) ?_
            obtain ⟨v10, hm173, hf⟩ := q_b1_e hf
            refine q_cVr (pc := 173) (As := [.int p1, .int v3, .int v4]) (rest := []) (v0 := (some (.int v10))) ⟨hx, hb, hml, hown, hts⟩ hK hA hZ hP hD hS hl.1 [0, 1, 2, 3] 6 rfl ⟨rfl, rfl, rfl⟩ (c_M_pieceNumber l D ci A sa N (Rw) a_m a_m_cutRows a_m_cutColumns a_m_deep a_m_wide a_m_zonesAhead a_m_nameOne a_m_nameOther a_m_tape a_m_edges a_m_dist a_m_queue a_m_pieceLevel a_m_pieceKey a_m_pieceYear a_m_drawnKeys a_m_kept a_m_noNumbers m_taped m_place m_fault m_number m_levelRead m_keyRead m_reads m_faults m_cutShort m_noNumber m_bottomLat m_bottomLon m_firstBeside m_manyBeside m_queued m_boxLevel m_boxTop m_boxBottom m_boxWest m_boxEast m_isEarly m_pieces m_states m_drawnNow m_keptAt m_cutRows m_cutColumns m_deep p1 v3 v4 v10 hm173) 0 rfl rfl (cwV 3 hts gX11_at_X11_pieceNumber rfl rfl rfl (by decide +kernel) ⟨Nat.le_of_ble_eq_true rfl, Nat.le_of_ble_eq_true rfl⟩) rfl rfl (Nat.le_of_ble_eq_true rfl) dX11_at_173 ⟨Nat.zero_le _, Nat.zero_le _⟩ (fun locs hS => ?_)
            obtain rfl := Option.some.inj hf
            rw [hQ]
            exact q_iretr (pc := 176) hx hb hr hlocks rfl hS dX11_at_176
          · refine lv_iload (pc := 160) hx hb dX11_at_160 (lv_at hl 1 rfl) ?_
            refine lv_iconst (pc := 162) (v := 1) hx hb dX11_at_162 (by decide) ?_
            refine lv_iadd (pc := 163) hx hb dX11_at_163 ?_
            refine lv_goto (pc := 164) (tgt := 176) hx hb dX11_at_164 (by decide) ?_
            obtain rfl := Option.some.inj hf
            rw [hQ]
            exact q_iretr (pc := 176) hx hb hr hlocks rfl hS dX11_at_176
        · refine lv_iconst (pc := 152) (v := 0) hx hb dX11_at_152 (by decide) ?_
          refine lv_goto (pc := 153) (tgt := 176) hx hb dX11_at_153 (by decide) ?_
          obtain rfl := Option.some.inj hf
          rw [hQ]
          exact q_iretr (pc := 176) hx hb hr hlocks rfl hS dX11_at_176
      · refine lv_ldc (pc := 21) (v := (-1000000)) hx hb hown w_2 dX11_at_21 ?_
        obtain rfl := Option.some.inj hf
        rw [hQ]
        exact q_iretr (pc := 23) hx hb hr hlocks rfl hS dX11_at_23
  exact hgo _ _ rfl hP hS
/-! X11_bands -/
set_option maxRecDepth 100000 in
set_option maxHeartbeats 4000000 in
theorem c_M_bands (l : Launch) (D : va_G) (ci : Nat → ClassId) (A : Nat → Prop) (sa : Nat → Nat) (N : Nat) (Rw : va_W) (a_m : Nat) (a_m_cutRows : Nat) (a_m_cutColumns : Nat) (a_m_deep : Nat) (a_m_wide : Nat) (a_m_zonesAhead : Nat) (a_m_nameOne : Nat) (a_m_nameOther : Nat) (a_m_tape : Nat) (a_m_edges : Nat) (a_m_dist : Nat) (a_m_queue : Nat) (a_m_pieceLevel : Nat) (a_m_pieceKey : Nat) (a_m_pieceYear : Nat) (a_m_drawnKeys : Nat) (a_m_kept : Nat) (a_m_noNumbers : Nat) (m_taped : Int32) (m_place : Int32) (m_fault : Int32) (m_number : Int32) (m_levelRead : Int32) (m_keyRead : Int32) (m_reads : Int32) (m_faults : Int32) (m_cutShort : Int32) (m_noNumber : Int32) (m_bottomLat : Int64) (m_bottomLon : Int64) (m_firstBeside : Int32) (m_manyBeside : Int32) (m_queued : Int32) (m_boxLevel : Int32) (m_boxTop : Int32) (m_boxBottom : Int32) (m_boxWest : Int32) (m_boxEast : Int32) (m_isEarly : Int32) (m_pieces : Int32) (m_states : Int32) (m_drawnNow : Int32) (m_keptAt : Int32) (m_deep : Nat → Int32) (m_wide : Nat → Int32) (m_zonesAhead : Nat → Int32) (p1 : Int32) (p2 : Int32) (p3 : Int32) (r : Int32) (hf : f_M_bands N m_deep m_wide m_zonesAhead p1 p2 p3 = some r) : Met l yX11_bands wsX11_bands ({ frames := 3, cells := 0, slots := 0, locals := 67 }) (va_Pc [.ref a_m, .int p1, .int p2, .int p3] (q_N D ci A sa ((a_m, .inr (11, (.ref a_m_cutRows :: .ref a_m_cutColumns :: .ref a_m_deep :: .ref a_m_wide :: .ref a_m_zonesAhead :: .ref a_m_nameOne :: .ref a_m_nameOther :: .ref a_m_tape :: .int m_taped :: .int m_place :: .int m_fault :: .int m_number :: .int m_levelRead :: .int m_keyRead :: .int m_reads :: .int m_faults :: .int m_cutShort :: .int m_noNumber :: .long m_bottomLat :: .long m_bottomLon :: .ref a_m_edges :: .int m_firstBeside :: .int m_manyBeside :: .ref a_m_dist :: .ref a_m_queue :: .int m_queued :: .int m_boxLevel :: .int m_boxTop :: .int m_boxBottom :: .int m_boxWest :: .int m_boxEast :: .int m_isEarly :: .int m_pieces :: .int m_states :: .ref a_m_pieceLevel :: .ref a_m_pieceKey :: .ref a_m_pieceYear :: .int m_drawnNow :: .ref a_m_drawnKeys :: .ref a_m_kept :: .int m_keptAt :: .ref a_m_noNumbers :: []))) :: (a_m_deep, .inl (ci 0, 5, .inl m_deep)) :: (a_m_wide, .inl (ci 0, 5, .inl m_wide)) :: (a_m_zonesAhead, .inl (ci 0, 45, .inl m_zonesAhead)) :: Rw))) (q_R (some (.int r))) 0 0 A := by
  refine q_ofW (cc := cX11_bands) (maxL := 6) (ret := (some .int)) [.ref a_m, .int p1, .int p2, .int p3] (plainFor_of_name (by decide)) rfl (Nat.le_of_ble_eq_true rfl) ?_
  intro p e s m below meth c ls Q hQ hx hb hml hr hts hown hlocks hK hA hZ hP hD hS hl
  have hl : lv_has ls 6 [(0, .ref a_m), (1, .int p1), (2, .int p2), (3, .int p3)] := hl
  have hown : s.vm.findClass RX11 = some m.cls := hown
  unfold f_M_bands at hf
  have hgo : ∀ (H : Heap) (locs : List Loc), H = s.heap → va_P D vwCl ((a_m, .inr (11, (.ref a_m_cutRows :: .ref a_m_cutColumns :: .ref a_m_deep :: .ref a_m_wide :: .ref a_m_zonesAhead :: .ref a_m_nameOne :: .ref a_m_nameOther :: .ref a_m_tape :: .int m_taped :: .int m_place :: .int m_fault :: .int m_number :: .int m_levelRead :: .int m_keyRead :: .int m_reads :: .int m_faults :: .int m_cutShort :: .int m_noNumber :: .long m_bottomLat :: .long m_bottomLon :: .ref a_m_edges :: .int m_firstBeside :: .int m_manyBeside :: .ref a_m_dist :: .ref a_m_queue :: .int m_queued :: .int m_boxLevel :: .int m_boxTop :: .int m_boxBottom :: .int m_boxWest :: .int m_boxEast :: .int m_isEarly :: .int m_pieces :: .int m_states :: .ref a_m_pieceLevel :: .ref a_m_pieceKey :: .ref a_m_pieceYear :: .int m_drawnNow :: .ref a_m_drawnKeys :: .ref a_m_kept :: .int m_keptAt :: .ref a_m_noNumbers :: []))) :: (a_m_deep, .inl (ci 0, 5, .inl m_deep)) :: (a_m_wide, .inl (ci 0, 5, .inl m_wide)) :: (a_m_zonesAhead, .inl (ci 0, 45, .inl m_zonesAhead)) :: Rw) H → va_S A s.heap H locs → W p l e ({ frames := 3, cells := 0, slots := 0, locals := 67 } : Room) s m ([.ref a_m, .int p1, .int p2, .int p3] : List Value).toArray below meth c H locs 0 0 Q (F0 m 0 ls []) := by
    intro H locs hH hP hS
    subst hH
    refine lv_aload_n (pc := 0) hx hb dX11_bands_0 rfl (lv_at hl 0 rfl) ?_
    refine lv_iload_n (pc := 1) hx hb dX11_bands_1 rfl (lv_at hl 1 rfl) ?_
    refine lv_iload_n (pc := 2) hx hb dX11_bands_2 rfl (lv_at hl 2 rfl) ?_
    obtain ⟨v1, hm3, hf⟩ := q_b1_e hf
    refine q_cVr (pc := 3) (As := [.int p1, .int p2]) (rest := []) (v0 := (some (.int v1))) ⟨hx, hb, hml, hown, hts⟩ hK hA hZ hP hD hS hl.1 [0, 1, 2, 3] 4 rfl ⟨rfl, rfl, rfl⟩ (c_M_isKey l D ci A sa N (Rw) a_m a_m_cutRows a_m_cutColumns a_m_deep a_m_wide a_m_zonesAhead a_m_nameOne a_m_nameOther a_m_tape a_m_edges a_m_dist a_m_queue a_m_pieceLevel a_m_pieceKey a_m_pieceYear a_m_drawnKeys a_m_kept a_m_noNumbers m_taped m_place m_fault m_number m_levelRead m_keyRead m_reads m_faults m_cutShort m_noNumber m_bottomLat m_bottomLon m_firstBeside m_manyBeside m_queued m_boxLevel m_boxTop m_boxBottom m_boxWest m_boxEast m_isEarly m_pieces m_states m_drawnNow m_keptAt m_deep m_wide m_zonesAhead p1 p2 v1 hm3) 0 rfl rfl (cwV 2 hts gX11_bands_X11_isKey rfl rfl rfl (by decide +kernel) ⟨Nat.le_of_ble_eq_true rfl, Nat.le_of_ble_eq_true rfl⟩) rfl rfl (Nat.le_of_ble_eq_true rfl) dX11_bands_3 ⟨Nat.zero_le _, Nat.zero_le _⟩ (fun locs hS => ?_)
    refine q_if_eq (pc := 6) (tgt := 23) hx hb dX11_bands_6 (by decide) rfl hf (fun hf => ?_) (fun hf => ?_)
    · refine lv_iconst (pc := 23) (v := (-1)) hx hb dX11_bands_23 (by decide) ?_
      obtain rfl := Option.some.inj hf
      rw [hQ]
      exact q_iretr (pc := 24) hx hb hr hlocks rfl hS dX11_bands_24
    · refine lv_aload_n (pc := 9) hx hb dX11_bands_9 rfl (lv_at hl 0 rfl) ?_
      refine lv_iload_n (pc := 10) hx hb dX11_bands_10 rfl (lv_at hl 1 rfl) ?_
      refine lv_iload_n (pc := 11) hx hb dX11_bands_11 rfl (lv_at hl 3 rfl) ?_
      obtain ⟨v2, hm12, hf⟩ := q_b1_e hf
      refine q_cVr (pc := 12) (As := [.int p1, .int p3]) (rest := []) (v0 := (some (.int v2))) ⟨hx, hb, hml, hown, hts⟩ hK hA hZ hP hD hS hl.1 [0, 1, 2, 3] 4 rfl ⟨rfl, rfl, rfl⟩ (c_M_isKey l D ci A sa N (Rw) a_m a_m_cutRows a_m_cutColumns a_m_deep a_m_wide a_m_zonesAhead a_m_nameOne a_m_nameOther a_m_tape a_m_edges a_m_dist a_m_queue a_m_pieceLevel a_m_pieceKey a_m_pieceYear a_m_drawnKeys a_m_kept a_m_noNumbers m_taped m_place m_fault m_number m_levelRead m_keyRead m_reads m_faults m_cutShort m_noNumber m_bottomLat m_bottomLon m_firstBeside m_manyBeside m_queued m_boxLevel m_boxTop m_boxBottom m_boxWest m_boxEast m_isEarly m_pieces m_states m_drawnNow m_keptAt m_deep m_wide m_zonesAhead p1 p3 v2 hm12) 0 rfl rfl (cwV 2 hts gX11_bands_X11_isKey rfl rfl rfl (by decide +kernel) ⟨Nat.le_of_ble_eq_true rfl, Nat.le_of_ble_eq_true rfl⟩) rfl rfl (Nat.le_of_ble_eq_true rfl) dX11_bands_12 ⟨Nat.zero_le _, Nat.zero_le _⟩ (fun locs hS => ?_)
      refine q_if_eq (pc := 15) (tgt := 23) hx hb dX11_bands_15 (by decide) rfl hf (fun hf => ?_) (fun hf => ?_)
      · refine lv_iconst (pc := 23) (v := (-1)) hx hb dX11_bands_23 (by decide) ?_
        obtain rfl := Option.some.inj hf
        rw [hQ]
        exact q_iretr (pc := 24) hx hb hr hlocks rfl hS dX11_bands_24
      · refine lv_iload_n (pc := 18) hx hb dX11_bands_18 rfl (lv_at hl 2 rfl) ?_
        refine lv_iload_n (pc := 19) hx hb dX11_bands_19 rfl (lv_at hl 3 rfl) ?_
        refine q_icmp_le (pc := 20) (tgt := 25) hx hb dX11_bands_20 (by decide) rfl hf (fun hf => ?_) (fun hf => ?_)
        · refine lv_aload_n (pc := 25) hx hb dX11_bands_25 rfl (lv_at hl 0 rfl) ?_
          refine lv_iload_n (pc := 26) hx hb dX11_bands_26 rfl (lv_at hl 1 rfl) ?_
          refine lv_iload_n (pc := 27) hx hb dX11_bands_27 rfl (lv_at hl 2 rfl) ?_
          obtain ⟨v3, hm28, hf⟩ := q_b1_e hf
          refine q_cVr (pc := 28) (As := [.int p1, .int p2]) (rest := []) (v0 := (some (.int v3))) ⟨hx, hb, hml, hown, hts⟩ hK hA hZ hP hD hS hl.1 [0, 1, 2, 3] 4 rfl ⟨rfl, rfl, rfl⟩ (c_M_rowOf l D ci A sa N (Rw) a_m a_m_cutRows a_m_cutColumns a_m_deep a_m_wide a_m_zonesAhead a_m_nameOne a_m_nameOther a_m_tape a_m_edges a_m_dist a_m_queue a_m_pieceLevel a_m_pieceKey a_m_pieceYear a_m_drawnKeys a_m_kept a_m_noNumbers m_taped m_place m_fault m_number m_levelRead m_keyRead m_reads m_faults m_cutShort m_noNumber m_bottomLat m_bottomLon m_firstBeside m_manyBeside m_queued m_boxLevel m_boxTop m_boxBottom m_boxWest m_boxEast m_isEarly m_pieces m_states m_drawnNow m_keptAt m_deep m_wide m_zonesAhead p1 p2 v3 hm28) 0 rfl rfl (cwV 2 hts gX11_bands_X11_rowOf rfl rfl rfl (by decide +kernel) ⟨Nat.le_of_ble_eq_true rfl, Nat.le_of_ble_eq_true rfl⟩) rfl rfl (Nat.le_of_ble_eq_true rfl) dX11_bands_28 ⟨Nat.zero_le _, Nat.zero_le _⟩ (fun locs hS => ?_)
          refine lv_istore (pc := 31) (lv' := [(4, .int v3), (0, .ref a_m), (1, .int p1), (2, .int p2), (3, .int p3)]) hx hb dX11_bands_31 hl (by decide) rfl (fun ls hl => ?_)
          refine lv_aload_n (pc := 33) hx hb dX11_bands_33 rfl (lv_at hl 1 rfl) ?_
          refine lv_iload_n (pc := 34) hx hb dX11_bands_34 rfl (lv_at hl 2 rfl) ?_
          refine lv_iload_n (pc := 35) hx hb dX11_bands_35 rfl (lv_at hl 4 rfl) ?_
          obtain ⟨v4, hm36, hf⟩ := q_b1_e hf
          refine q_cVr (pc := 36) (As := [.int p1, .int p3]) (rest := []) (v0 := (some (.int v4))) ⟨hx, hb, hml, hown, hts⟩ hK hA hZ hP hD hS hl.1 [0, 1, 2, 3] 4 rfl ⟨rfl, rfl, rfl⟩ (c_M_rowOf l D ci A sa N (Rw) a_m a_m_cutRows a_m_cutColumns a_m_deep a_m_wide a_m_zonesAhead a_m_nameOne a_m_nameOther a_m_tape a_m_edges a_m_dist a_m_queue a_m_pieceLevel a_m_pieceKey a_m_pieceYear a_m_drawnKeys a_m_kept a_m_noNumbers m_taped m_place m_fault m_number m_levelRead m_keyRead m_reads m_faults m_cutShort m_noNumber m_bottomLat m_bottomLon m_firstBeside m_manyBeside m_queued m_boxLevel m_boxTop m_boxBottom m_boxWest m_boxEast m_isEarly m_pieces m_states m_drawnNow m_keptAt m_deep m_wide m_zonesAhead p1 p3 v4 hm36) 0 rfl rfl (cwV 2 hts gX11_bands_X11_rowOf rfl rfl rfl (by decide +kernel) ⟨Nat.le_of_ble_eq_true rfl, Nat.le_of_ble_eq_true rfl⟩) rfl rfl (Nat.le_of_ble_eq_true rfl) dX11_bands_36 ⟨Nat.zero_le _, Nat.zero_le _⟩ (fun locs hS => ?_)
          refine lv_istore (pc := 39) (lv' := [(5, .int v4), (4, .int v3), (0, .ref a_m), (1, .int p1), (2, .int p2), (3, .int p3)]) hx hb dX11_bands_39 hl (by decide) rfl (fun ls hl => ?_)
          refine lv_iload (pc := 41) hx hb dX11_bands_41 (lv_at hl 1 rfl) ?_
          obtain ⟨k52, ek52, hf⟩ := q_j1_e hf
          have J52 : ∀ (v5 : Int32) (H : Heap) (locs : List Loc) (ls : Array Slot), k52 v5 = some r → H = s.heap → va_S A s.heap H locs → lv_has ls 6 [(0, .ref a_m), (1, .int p1), (5, .int v4)] → W p l e ({ frames := 3, cells := 0, slots := 0, locals := 67 } : Room) s m ([.ref a_m, .int p1, .int p2, .int p3] : List Value).toArray below meth c H locs 0 0 Q (F0 m 52 ls [.int v5]) := by
            intro v5 H locs ls hf hHs hS hl
            subst hHs
            have hf := (ek52 v5).symm.trans hf
            refine lv_istore (pc := 52) (lv' := [(4, .int v5), (0, .ref a_m), (1, .int p1), (5, .int v4)]) hx hb dX11_bands_52 hl (by decide) rfl (fun ls hl => ?_)
            refine lv_iload (pc := 54) hx hb dX11_bands_54 (lv_at hl 3 rfl) ?_
            refine lv_aload_n (pc := 56) hx hb dX11_bands_56 rfl (lv_at hl 1 rfl) ?_
            refine lv_iload_n (pc := 57) hx hb dX11_bands_57 rfl (lv_at hl 2 rfl) ?_
            obtain ⟨v6, hm58, hf⟩ := q_b1_e hf
            refine q_cVr (pc := 58) (As := [.int p1]) (rest := [.int v4]) (v0 := (some (.int v6))) ⟨hx, hb, hml, hown, hts⟩ hK hA hZ hP hD hS hl.1 [0, 1] 4 rfl ⟨rfl, rfl, rfl⟩ (c_M_lastRow l D ci A sa N (Rw) a_m a_m_cutRows a_m_cutColumns a_m_deep a_m_wide a_m_zonesAhead a_m_nameOne a_m_nameOther a_m_tape a_m_edges a_m_dist a_m_queue a_m_pieceLevel a_m_pieceKey a_m_pieceYear a_m_drawnKeys a_m_kept a_m_noNumbers m_taped m_place m_fault m_number m_levelRead m_keyRead m_reads m_faults m_cutShort m_noNumber m_bottomLat m_bottomLon m_firstBeside m_manyBeside m_queued m_boxLevel m_boxTop m_boxBottom m_boxWest m_boxEast m_isEarly m_pieces m_states m_drawnNow m_keptAt m_deep p1 v6 hm58) 0 rfl rfl (cwV 1 hts gX11_bands_X11_lastRow rfl rfl rfl (by decide +kernel) ⟨Nat.le_of_ble_eq_true rfl, Nat.le_of_ble_eq_true rfl⟩) rfl rfl (Nat.le_of_ble_eq_true rfl) dX11_bands_58 ⟨Nat.zero_le _, Nat.zero_le _⟩ (fun locs hS => ?_)
            obtain ⟨k73, ek73, hf⟩ := q_j1_e hf
            have J73 : ∀ (v7 : Int32) (H : Heap) (locs : List Loc) (ls : Array Slot), k73 v7 = some r → H = s.heap → va_S A s.heap H locs → lv_has ls 6 [(0, .ref a_m), (1, .int p1), (4, .int v5)] → W p l e ({ frames := 3, cells := 0, slots := 0, locals := 67 } : Room) s m ([.ref a_m, .int p1, .int p2, .int p3] : List Value).toArray below meth c H locs 0 0 Q (F0 m 73 ls [.int v7]) := by
              intro v7 H locs ls hf hHs hS hl
              subst hHs
              have hf := (ek73 v7).symm.trans hf
              refine lv_istore (pc := 73) (lv' := [(5, .int v7), (0, .ref a_m), (1, .int p1), (4, .int v5)]) hx hb dX11_bands_73 hl (by decide) rfl (fun ls hl => ?_)
              refine lv_iload (pc := 75) hx hb dX11_bands_75 (lv_at hl 3 rfl) ?_
              refine lv_iload (pc := 77) hx hb dX11_bands_77 (lv_at hl 0 rfl) ?_
              refine q_icmp_le (pc := 79) (tgt := 86) hx hb dX11_bands_79 (by decide) rfl hf (fun hf => ?_) (fun hf => ?_)
              · refine lv_aload_n (pc := 86) hx hb dX11_bands_86 rfl (lv_at hl 1 rfl) ?_
                refine lv_iload_n (pc := 87) hx hb dX11_bands_87 rfl (lv_at hl 2 rfl) ?_
                refine lv_iload (pc := 88) hx hb dX11_bands_88 (lv_at hl 0 rfl) ?_
                obtain ⟨v8, hm90, hf⟩ := q_b1_e hf
                refine q_cVr (pc := 90) (As := [.int p1, .int v7]) (rest := []) (v0 := (some (.int v8))) ⟨hx, hb, hml, hown, hts⟩ hK hA hZ hP hD hS hl.1 [0, 1] 4 rfl ⟨rfl, rfl, rfl⟩ (c_M_bandOf l D ci A sa N (Rw) a_m a_m_cutRows a_m_cutColumns a_m_deep a_m_wide a_m_zonesAhead a_m_nameOne a_m_nameOther a_m_tape a_m_edges a_m_dist a_m_queue a_m_pieceLevel a_m_pieceKey a_m_pieceYear a_m_drawnKeys a_m_kept a_m_noNumbers m_taped m_place m_fault m_number m_levelRead m_keyRead m_reads m_faults m_cutShort m_noNumber m_bottomLat m_bottomLon m_firstBeside m_manyBeside m_queued m_boxLevel m_boxTop m_boxBottom m_boxWest m_boxEast m_isEarly m_pieces m_states m_drawnNow m_keptAt m_deep p1 v7 v8 hm90) 0 rfl rfl (cwV 2 hts gX11_bands_X11_bandOf rfl rfl rfl (by decide +kernel) ⟨Nat.le_of_ble_eq_true rfl, Nat.le_of_ble_eq_true rfl⟩) rfl rfl (Nat.le_of_ble_eq_true rfl) dX11_bands_90 ⟨Nat.zero_le _, Nat.zero_le _⟩ (fun locs hS => ?_)
                refine lv_aload_n (pc := 93) hx hb dX11_bands_93 rfl (lv_at hl 1 rfl) ?_
                refine lv_iload_n (pc := 94) hx hb dX11_bands_94 rfl (lv_at hl 2 rfl) ?_
                refine lv_iload (pc := 95) hx hb dX11_bands_95 (lv_at hl 3 rfl) ?_
                obtain ⟨v9, hm97, hf⟩ := q_b1_e hf
                refine q_cVr (pc := 97) (As := [.int p1, .int v5]) (rest := [.int v8]) (v0 := (some (.int v9))) ⟨hx, hb, hml, hown, hts⟩ hK hA hZ hP hD hS hl.1 [0, 1] 4 rfl ⟨rfl, rfl, rfl⟩ (c_M_bandOf l D ci A sa N (Rw) a_m a_m_cutRows a_m_cutColumns a_m_deep a_m_wide a_m_zonesAhead a_m_nameOne a_m_nameOther a_m_tape a_m_edges a_m_dist a_m_queue a_m_pieceLevel a_m_pieceKey a_m_pieceYear a_m_drawnKeys a_m_kept a_m_noNumbers m_taped m_place m_fault m_number m_levelRead m_keyRead m_reads m_faults m_cutShort m_noNumber m_bottomLat m_bottomLon m_firstBeside m_manyBeside m_queued m_boxLevel m_boxTop m_boxBottom m_boxWest m_boxEast m_isEarly m_pieces m_states m_drawnNow m_keptAt m_deep p1 v5 v9 hm97) 0 rfl rfl (cwV 2 hts gX11_bands_X11_bandOf rfl rfl rfl (by decide +kernel) ⟨Nat.le_of_ble_eq_true rfl, Nat.le_of_ble_eq_true rfl⟩) rfl rfl (Nat.le_of_ble_eq_true rfl) dX11_bands_97 ⟨Nat.zero_le _, Nat.zero_le _⟩ (fun locs hS => ?_)
                refine lv_isub (pc := 100) hx hb dX11_bands_100 ?_
                refine lv_iconst (pc := 101) (v := 1) hx hb dX11_bands_101 (by decide) ?_
                refine lv_iadd (pc := 102) hx hb dX11_bands_102 ?_
                obtain rfl := Option.some.inj hf
                rw [hQ]
                exact q_iretr (pc := 103) hx hb hr hlocks rfl hS dX11_bands_103
              · refine lv_iconst (pc := 82) (v := 0) hx hb dX11_bands_82 (by decide) ?_
                refine lv_goto (pc := 83) (tgt := 103) hx hb dX11_bands_83 (by decide) ?_
                obtain rfl := Option.some.inj hf
                rw [hQ]
                exact q_iretr (pc := 103) hx hb hr hlocks rfl hS dX11_bands_103
            refine q_icmp_ne (pc := 61) (tgt := 71) hx hb dX11_bands_61 (by decide) rfl hf (fun hf => ?_) (fun hf => ?_)
            · refine lv_iload (pc := 71) hx hb dX11_bands_71 (lv_at hl 3 rfl) ?_
              exact J73 v4 _ _ _ hf rfl hS (lv_sub hl [1, 2, 0] rfl)
            · refine lv_iload (pc := 64) hx hb dX11_bands_64 (lv_at hl 3 rfl) ?_
              refine lv_iconst (pc := 66) (v := 1) hx hb dX11_bands_66 (by decide) ?_
              refine lv_isub (pc := 67) hx hb dX11_bands_67 ?_
              refine lv_goto (pc := 68) (tgt := 73) hx hb dX11_bands_68 (by decide) ?_
              exact J73 (v4 - 1) _ _ _ hf rfl hS (lv_sub hl [1, 2, 0] rfl)
          refine q_if_ne (pc := 43) (tgt := 50) hx hb dX11_bands_43 (by decide) rfl hf (fun hf => ?_) (fun hf => ?_)
          · refine lv_iload (pc := 50) hx hb dX11_bands_50 (lv_at hl 1 rfl) ?_
            exact J52 v3 _ _ _ hf rfl hS (lv_sub hl [2, 3, 0] rfl)
          · refine lv_iconst (pc := 46) (v := 1) hx hb dX11_bands_46 (by decide) ?_
            refine lv_goto (pc := 47) (tgt := 52) hx hb dX11_bands_47 (by decide) ?_
            exact J52 1 _ _ _ hf rfl hS (lv_sub hl [2, 3, 0] rfl)
        · refine lv_iconst (pc := 23) (v := (-1)) hx hb dX11_bands_23 (by decide) ?_
          obtain rfl := Option.some.inj hf
          rw [hQ]
          exact q_iretr (pc := 24) hx hb hr hlocks rfl hS dX11_bands_24
  exact hgo _ _ rfl hP hS
/-! X11_digitsInto -/
set_option maxRecDepth 100000 in
set_option maxHeartbeats 4000000 in
theorem c_M_digitsInto (l : Launch) (D : va_G) (ci : Nat → ClassId) (A : Nat → Prop) (sa : Nat → Nat) (N : Nat) (Rw : va_W) (a_m : Nat) (a_m_cutRows : Nat) (a_m_cutColumns : Nat) (a_m_deep : Nat) (a_m_wide : Nat) (a_m_zonesAhead : Nat) (a_m_nameOne : Nat) (a_x_one : Nat) (a_m_nameOther : Nat) (a_m_tape : Nat) (a_m_edges : Nat) (a_m_dist : Nat) (a_m_queue : Nat) (a_m_pieceLevel : Nat) (a_m_pieceKey : Nat) (a_m_pieceYear : Nat) (a_m_drawnKeys : Nat) (a_m_kept : Nat) (a_m_noNumbers : Nat) (m_taped : Int32) (m_place : Int32) (m_fault : Int32) (m_number : Int32) (m_levelRead : Int32) (m_keyRead : Int32) (m_reads : Int32) (m_faults : Int32) (m_cutShort : Int32) (m_noNumber : Int32) (m_bottomLat : Int64) (m_bottomLon : Int64) (m_firstBeside : Int32) (m_manyBeside : Int32) (m_queued : Int32) (m_boxLevel : Int32) (m_boxTop : Int32) (m_boxBottom : Int32) (m_boxWest : Int32) (m_boxEast : Int32) (m_isEarly : Int32) (m_pieces : Int32) (m_states : Int32) (m_drawnNow : Int32) (m_keptAt : Int32) (m_nameOne : Nat → Int32) (p2 : Int32) (p3 : Int32) (r : Int32) (o1 : Nat → Int32) (hf : f_M_digitsInto m_nameOne p2 p3 = some (r, o1)) : Met l yX11_digitsInto wsX11_digitsInto ({ frames := 0, cells := 0, slots := 0, locals := 0 }) (va_Pc [.ref a_m, .ref a_m_nameOne, .int p2, .int p3] (q_N D ci A sa ((a_m, .inr (11, (.ref a_m_cutRows :: .ref a_m_cutColumns :: .ref a_m_deep :: .ref a_m_wide :: .ref a_m_zonesAhead :: .ref a_x_one :: .ref a_m_nameOther :: .ref a_m_tape :: .int m_taped :: .int m_place :: .int m_fault :: .int m_number :: .int m_levelRead :: .int m_keyRead :: .int m_reads :: .int m_faults :: .int m_cutShort :: .int m_noNumber :: .long m_bottomLat :: .long m_bottomLon :: .ref a_m_edges :: .int m_firstBeside :: .int m_manyBeside :: .ref a_m_dist :: .ref a_m_queue :: .int m_queued :: .int m_boxLevel :: .int m_boxTop :: .int m_boxBottom :: .int m_boxWest :: .int m_boxEast :: .int m_isEarly :: .int m_pieces :: .int m_states :: .ref a_m_pieceLevel :: .ref a_m_pieceKey :: .ref a_m_pieceYear :: .int m_drawnNow :: .ref a_m_drawnKeys :: .ref a_m_kept :: .int m_keptAt :: .ref a_m_noNumbers :: []))) :: (a_m_nameOne, .inl (ci 0, 20, .inl m_nameOne)) :: Rw))) (q_Q (some (.int r)) (q_O D A ((a_m, .inr (11, (.ref a_m_cutRows :: .ref a_m_cutColumns :: .ref a_m_deep :: .ref a_m_wide :: .ref a_m_zonesAhead :: .ref a_x_one :: .ref a_m_nameOther :: .ref a_m_tape :: .int m_taped :: .int m_place :: .int m_fault :: .int m_number :: .int m_levelRead :: .int m_keyRead :: .int m_reads :: .int m_faults :: .int m_cutShort :: .int m_noNumber :: .long m_bottomLat :: .long m_bottomLon :: .ref a_m_edges :: .int m_firstBeside :: .int m_manyBeside :: .ref a_m_dist :: .ref a_m_queue :: .int m_queued :: .int m_boxLevel :: .int m_boxTop :: .int m_boxBottom :: .int m_boxWest :: .int m_boxEast :: .int m_isEarly :: .int m_pieces :: .int m_states :: .ref a_m_pieceLevel :: .ref a_m_pieceKey :: .ref a_m_pieceYear :: .int m_drawnNow :: .ref a_m_drawnKeys :: .ref a_m_kept :: .int m_keptAt :: .ref a_m_noNumbers :: []))) :: (a_m_nameOne, .inl (ci 0, 20, .inl o1)) :: Rw)) A) 0 0 A := by
  refine q_ofW (cc := cX11_digitsInto) (maxL := 5) (ret := (some .int)) [.ref a_m, .ref a_m_nameOne, .int p2, .int p3] (plainFor_of_name (by decide)) rfl (Nat.le_of_ble_eq_true rfl) ?_
  intro p e s m below meth c ls Q hQ hx hb hml hr hts hown hlocks hK hA hZ hP hD hS hl
  have hl : lv_has ls 5 [(0, .ref a_m), (1, .ref a_m_nameOne), (2, .int p2), (3, .int p3)] := hl
  have hown : s.vm.findClass RX11 = some m.cls := hown
  unfold f_M_digitsInto at hf
  have hgo : ∀ (H : Heap) (locs : List Loc), H = s.heap → va_P D vwCl ((a_m, .inr (11, (.ref a_m_cutRows :: .ref a_m_cutColumns :: .ref a_m_deep :: .ref a_m_wide :: .ref a_m_zonesAhead :: .ref a_x_one :: .ref a_m_nameOther :: .ref a_m_tape :: .int m_taped :: .int m_place :: .int m_fault :: .int m_number :: .int m_levelRead :: .int m_keyRead :: .int m_reads :: .int m_faults :: .int m_cutShort :: .int m_noNumber :: .long m_bottomLat :: .long m_bottomLon :: .ref a_m_edges :: .int m_firstBeside :: .int m_manyBeside :: .ref a_m_dist :: .ref a_m_queue :: .int m_queued :: .int m_boxLevel :: .int m_boxTop :: .int m_boxBottom :: .int m_boxWest :: .int m_boxEast :: .int m_isEarly :: .int m_pieces :: .int m_states :: .ref a_m_pieceLevel :: .ref a_m_pieceKey :: .ref a_m_pieceYear :: .int m_drawnNow :: .ref a_m_drawnKeys :: .ref a_m_kept :: .int m_keptAt :: .ref a_m_noNumbers :: []))) :: (a_m_nameOne, .inl (ci 0, 20, .inl m_nameOne)) :: Rw) H → va_S A s.heap H locs → W p l e ({ frames := 0, cells := 0, slots := 0, locals := 0 } : Room) s m ([.ref a_m, .ref a_m_nameOne, .int p2, .int p3] : List Value).toArray below meth c H locs 0 0 Q (F0 m 0 ls []) := by
    intro H locs hH hP hS
    refine lv_iload_n (pc := 0) hx hb dX11_digitsInto_0 rfl (lv_at hl 2 rfl) ?_
    refine lv_istore (pc := 1) (lv' := [(4, .int p2), (0, .ref a_m), (1, .ref a_m_nameOne), (2, .int p2), (3, .int p3)]) hx hb dX11_digitsInto_1 hl (by decide) rfl (fun ls hl => ?_)
    refine lv_iload_n (pc := 3) hx hb dX11_digitsInto_3 rfl (lv_at hl 4 rfl) ?_
    refine lv_bipush (pc := 4) (v := 9) hx hb dX11_digitsInto_4 (by decide) ?_
    obtain ⟨k26, ek26, hf⟩ := q_j2_e hf
    have J26 : ∀ (v1 : Int32) (f2 : Nat → Int32) (H : Heap) (locs : List Loc) (ls : Array Slot), k26 v1 f2 = some (r, o1) → va_P D vwCl ((a_m, .inr (11, (.ref a_m_cutRows :: .ref a_m_cutColumns :: .ref a_m_deep :: .ref a_m_wide :: .ref a_m_zonesAhead :: .ref a_x_one :: .ref a_m_nameOther :: .ref a_m_tape :: .int m_taped :: .int m_place :: .int m_fault :: .int m_number :: .int m_levelRead :: .int m_keyRead :: .int m_reads :: .int m_faults :: .int m_cutShort :: .int m_noNumber :: .long m_bottomLat :: .long m_bottomLon :: .ref a_m_edges :: .int m_firstBeside :: .int m_manyBeside :: .ref a_m_dist :: .ref a_m_queue :: .int m_queued :: .int m_boxLevel :: .int m_boxTop :: .int m_boxBottom :: .int m_boxWest :: .int m_boxEast :: .int m_isEarly :: .int m_pieces :: .int m_states :: .ref a_m_pieceLevel :: .ref a_m_pieceKey :: .ref a_m_pieceYear :: .int m_drawnNow :: .ref a_m_drawnKeys :: .ref a_m_kept :: .int m_keptAt :: .ref a_m_noNumbers :: []))) :: (a_m_nameOne, .inl (ci 0, 20, .inl f2)) :: Rw) H → va_D A ((a_m, .inr (11, (.ref a_m_cutRows :: .ref a_m_cutColumns :: .ref a_m_deep :: .ref a_m_wide :: .ref a_m_zonesAhead :: .ref a_x_one :: .ref a_m_nameOther :: .ref a_m_tape :: .int m_taped :: .int m_place :: .int m_fault :: .int m_number :: .int m_levelRead :: .int m_keyRead :: .int m_reads :: .int m_faults :: .int m_cutShort :: .int m_noNumber :: .long m_bottomLat :: .long m_bottomLon :: .ref a_m_edges :: .int m_firstBeside :: .int m_manyBeside :: .ref a_m_dist :: .ref a_m_queue :: .int m_queued :: .int m_boxLevel :: .int m_boxTop :: .int m_boxBottom :: .int m_boxWest :: .int m_boxEast :: .int m_isEarly :: .int m_pieces :: .int m_states :: .ref a_m_pieceLevel :: .ref a_m_pieceKey :: .ref a_m_pieceYear :: .int m_drawnNow :: .ref a_m_drawnKeys :: .ref a_m_kept :: .int m_keptAt :: .ref a_m_noNumbers :: []))) :: (a_m_nameOne, .inl (ci 0, 20, .inl f2)) :: Rw) → va_S A s.heap H locs → lv_has ls 5 [(1, .ref a_m_nameOne), (3, .int p3), (4, .int v1)] → W p l e ({ frames := 0, cells := 0, slots := 0, locals := 0 } : Room) s m ([.ref a_m, .ref a_m_nameOne, .int p2, .int p3] : List Value).toArray below meth c H locs 0 0 Q (F0 m 26 ls []) := by
      intro v1 f2 H locs ls hf hP hD hS hl
      have hf := (ek26 v1 f2).symm.trans hf
      refine lv_aload_n (pc := 26) hx hb dX11_digitsInto_26 rfl (lv_at hl 0 rfl) ?_
      refine lv_iload (pc := 27) hx hb dX11_digitsInto_27 (lv_at hl 2 rfl) ?_
      refine lv_bipush (pc := 29) (v := 48) hx hb dX11_digitsInto_29 (by decide) ?_
      refine lv_iload_n (pc := 31) hx hb dX11_digitsInto_31 rfl (lv_at hl 1 rfl) ?_
      refine lv_bipush (pc := 32) (v := 10) hx hb dX11_digitsInto_32 (by decide) ?_
      refine q_irem (pc := 34) hx hb dX11_digitsInto_34 hf (fun v3 hf => ?_)
      refine lv_iadd (pc := 35) hx hb dX11_digitsInto_35 ?_
      refine q_iast (pc := 36) hx hb hK hP hD hS 1 0 hf rfl rfl dX11_digitsInto_36 (fun f4 H locs hf hP hD hS => ?_)
      obtain ⟨hP, hD⟩ : va_PD D A ((a_m, .inr (11, (.ref a_m_cutRows :: .ref a_m_cutColumns :: .ref a_m_deep :: .ref a_m_wide :: .ref a_m_zonesAhead :: .ref a_x_one :: .ref a_m_nameOther :: .ref a_m_tape :: .int m_taped :: .int m_place :: .int m_fault :: .int m_number :: .int m_levelRead :: .int m_keyRead :: .int m_reads :: .int m_faults :: .int m_cutShort :: .int m_noNumber :: .long m_bottomLat :: .long m_bottomLon :: .ref a_m_edges :: .int m_firstBeside :: .int m_manyBeside :: .ref a_m_dist :: .ref a_m_queue :: .int m_queued :: .int m_boxLevel :: .int m_boxTop :: .int m_boxBottom :: .int m_boxWest :: .int m_boxEast :: .int m_isEarly :: .int m_pieces :: .int m_states :: .ref a_m_pieceLevel :: .ref a_m_pieceKey :: .ref a_m_pieceYear :: .int m_drawnNow :: .ref a_m_drawnKeys :: .ref a_m_kept :: .int m_keptAt :: .ref a_m_noNumbers :: []))) :: (a_m_nameOne, .inl (ci 0, 20, .inl f4)) :: Rw) H := ⟨hP, hD⟩
      refine lv_iload (pc := 37) hx hb dX11_digitsInto_37 (lv_at hl 2 rfl) ?_
      refine lv_iconst (pc := 39) (v := 1) hx hb dX11_digitsInto_39 (by decide) ?_
      refine lv_iadd (pc := 40) hx hb dX11_digitsInto_40 ?_
      obtain ⟨rfl, rfl⟩ := q_inj2 (Option.some.inj hf)
      rw [hQ]
      exact q_iret (pc := 41) hx hb hr hlocks hP hD hS dX11_digitsInto_41
    refine q_icmp_le (pc := 6) (tgt := 26) hx hb dX11_digitsInto_6 (by decide) rfl hf (fun hf => ?_) (fun hf => ?_)
    · exact J26 p2 m_nameOne _ _ _ hf hP hD hS (lv_sub hl [2, 4, 0] rfl)
    · refine lv_aload_n (pc := 9) hx hb dX11_digitsInto_9 rfl (lv_at hl 2 rfl) ?_
      refine lv_iload (pc := 10) hx hb dX11_digitsInto_10 (lv_at hl 0 rfl) ?_
      refine lv_bipush (pc := 12) (v := 48) hx hb dX11_digitsInto_12 (by decide) ?_
      refine lv_iload_n (pc := 14) hx hb dX11_digitsInto_14 rfl (lv_at hl 4 rfl) ?_
      refine lv_bipush (pc := 15) (v := 10) hx hb dX11_digitsInto_15 (by decide) ?_
      refine q_idiv (pc := 17) hx hb dX11_digitsInto_17 hf (fun v5 hf => ?_)
      refine lv_iadd (pc := 18) hx hb dX11_digitsInto_18 ?_
      refine q_iast (pc := 19) hx hb hK hP hD hS 1 0 hf rfl rfl dX11_digitsInto_19 (fun f6 H locs hf hP hD hS => ?_)
      obtain ⟨hP, hD⟩ : va_PD D A ((a_m, .inr (11, (.ref a_m_cutRows :: .ref a_m_cutColumns :: .ref a_m_deep :: .ref a_m_wide :: .ref a_m_zonesAhead :: .ref a_x_one :: .ref a_m_nameOther :: .ref a_m_tape :: .int m_taped :: .int m_place :: .int m_fault :: .int m_number :: .int m_levelRead :: .int m_keyRead :: .int m_reads :: .int m_faults :: .int m_cutShort :: .int m_noNumber :: .long m_bottomLat :: .long m_bottomLon :: .ref a_m_edges :: .int m_firstBeside :: .int m_manyBeside :: .ref a_m_dist :: .ref a_m_queue :: .int m_queued :: .int m_boxLevel :: .int m_boxTop :: .int m_boxBottom :: .int m_boxWest :: .int m_boxEast :: .int m_isEarly :: .int m_pieces :: .int m_states :: .ref a_m_pieceLevel :: .ref a_m_pieceKey :: .ref a_m_pieceYear :: .int m_drawnNow :: .ref a_m_drawnKeys :: .ref a_m_kept :: .int m_keptAt :: .ref a_m_noNumbers :: []))) :: (a_m_nameOne, .inl (ci 0, 20, .inl f6)) :: Rw) H := ⟨hP, hD⟩
      refine lv_iload (pc := 20) hx hb dX11_digitsInto_20 (lv_at hl 0 rfl) ?_
      refine lv_iconst (pc := 22) (v := 1) hx hb dX11_digitsInto_22 (by decide) ?_
      refine lv_iadd (pc := 23) hx hb dX11_digitsInto_23 ?_
      obtain ⟨v7, ev7, hf⟩ := q_nm_e hf
      refine q_topi ev7 ?_
      refine lv_istore (pc := 24) (lv' := [(4, .int v7), (0, .ref a_m), (1, .ref a_m_nameOne), (2, .int p2), (3, .int p3)]) hx hb dX11_digitsInto_24 hl (by decide) rfl (fun ls hl => ?_)
      exact J26 v7 f6 _ _ _ hf hP hD hS (lv_sub hl [2, 4, 0] rfl)
  exact hgo _ _ rfl hP hS
/-! X11_spells -/
set_option maxRecDepth 100000 in
set_option maxHeartbeats 4000000 in
theorem c_M_spells (l : Launch) (D : va_G) (ci : Nat → ClassId) (A : Nat → Prop) (sa : Nat → Nat) (N : Nat) (Rw : va_W) (a_m : Nat) (a_m_cutRows : Nat) (a_m_cutColumns : Nat) (a_m_deep : Nat) (a_m_wide : Nat) (a_m_zonesAhead : Nat) (a_m_nameOne : Nat) (a_x_one : Nat) (a_m_nameOther : Nat) (a_m_tape : Nat) (a_m_edges : Nat) (a_m_dist : Nat) (a_m_queue : Nat) (a_m_pieceLevel : Nat) (a_m_pieceKey : Nat) (a_m_pieceYear : Nat) (a_m_drawnKeys : Nat) (a_m_kept : Nat) (a_m_noNumbers : Nat) (m_taped : Int32) (m_place : Int32) (m_fault : Int32) (m_number : Int32) (m_levelRead : Int32) (m_keyRead : Int32) (m_reads : Int32) (m_faults : Int32) (m_cutShort : Int32) (m_noNumber : Int32) (m_bottomLat : Int64) (m_bottomLon : Int64) (m_firstBeside : Int32) (m_manyBeside : Int32) (m_queued : Int32) (m_boxLevel : Int32) (m_boxTop : Int32) (m_boxBottom : Int32) (m_boxWest : Int32) (m_boxEast : Int32) (m_isEarly : Int32) (m_pieces : Int32) (m_states : Int32) (m_drawnNow : Int32) (m_keptAt : Int32) (m_cutRows : Nat → Int32) (m_cutColumns : Nat → Int32) (m_deep : Nat → Int32) (m_wide : Nat → Int32) (m_zonesAhead : Nat → Int32) (m_nameOne : Nat → Int32) (p1 : Int32) (p2 : Int32) (r : Int32) (o1 : Nat → Int32) (hf : f_M_spells N m_cutRows m_cutColumns m_deep m_wide m_zonesAhead m_nameOne p1 p2 = some (r, o1)) : Met l yX11_spells wsX11_spells ({ frames := 4, cells := 0, slots := 0, locals := 88 }) (va_Pc [.ref a_m, .int p1, .int p2, .ref a_m_nameOne] (q_N D ci A sa ((a_m, .inr (11, (.ref a_m_cutRows :: .ref a_m_cutColumns :: .ref a_m_deep :: .ref a_m_wide :: .ref a_m_zonesAhead :: .ref a_x_one :: .ref a_m_nameOther :: .ref a_m_tape :: .int m_taped :: .int m_place :: .int m_fault :: .int m_number :: .int m_levelRead :: .int m_keyRead :: .int m_reads :: .int m_faults :: .int m_cutShort :: .int m_noNumber :: .long m_bottomLat :: .long m_bottomLon :: .ref a_m_edges :: .int m_firstBeside :: .int m_manyBeside :: .ref a_m_dist :: .ref a_m_queue :: .int m_queued :: .int m_boxLevel :: .int m_boxTop :: .int m_boxBottom :: .int m_boxWest :: .int m_boxEast :: .int m_isEarly :: .int m_pieces :: .int m_states :: .ref a_m_pieceLevel :: .ref a_m_pieceKey :: .ref a_m_pieceYear :: .int m_drawnNow :: .ref a_m_drawnKeys :: .ref a_m_kept :: .int m_keptAt :: .ref a_m_noNumbers :: []))) :: (a_m_cutRows, .inl (ci 0, 5, .inl m_cutRows)) :: (a_m_cutColumns, .inl (ci 0, 5, .inl m_cutColumns)) :: (a_m_deep, .inl (ci 0, 5, .inl m_deep)) :: (a_m_wide, .inl (ci 0, 5, .inl m_wide)) :: (a_m_zonesAhead, .inl (ci 0, 45, .inl m_zonesAhead)) :: (a_m_nameOne, .inl (ci 0, 20, .inl m_nameOne)) :: Rw))) (q_Q (some (.int r)) (q_O D A ((a_m, .inr (11, (.ref a_m_cutRows :: .ref a_m_cutColumns :: .ref a_m_deep :: .ref a_m_wide :: .ref a_m_zonesAhead :: .ref a_x_one :: .ref a_m_nameOther :: .ref a_m_tape :: .int m_taped :: .int m_place :: .int m_fault :: .int m_number :: .int m_levelRead :: .int m_keyRead :: .int m_reads :: .int m_faults :: .int m_cutShort :: .int m_noNumber :: .long m_bottomLat :: .long m_bottomLon :: .ref a_m_edges :: .int m_firstBeside :: .int m_manyBeside :: .ref a_m_dist :: .ref a_m_queue :: .int m_queued :: .int m_boxLevel :: .int m_boxTop :: .int m_boxBottom :: .int m_boxWest :: .int m_boxEast :: .int m_isEarly :: .int m_pieces :: .int m_states :: .ref a_m_pieceLevel :: .ref a_m_pieceKey :: .ref a_m_pieceYear :: .int m_drawnNow :: .ref a_m_drawnKeys :: .ref a_m_kept :: .int m_keptAt :: .ref a_m_noNumbers :: []))) :: (a_m_cutRows, .inl (ci 0, 5, .inl m_cutRows)) :: (a_m_cutColumns, .inl (ci 0, 5, .inl m_cutColumns)) :: (a_m_deep, .inl (ci 0, 5, .inl m_deep)) :: (a_m_wide, .inl (ci 0, 5, .inl m_wide)) :: (a_m_zonesAhead, .inl (ci 0, 45, .inl m_zonesAhead)) :: (a_m_nameOne, .inl (ci 0, 20, .inl o1)) :: Rw)) A) 0 0 A := by
  refine q_ofW (cc := cX11_spells) (maxL := 10) (ret := (some .int)) [.ref a_m, .int p1, .int p2, .ref a_m_nameOne] (plainFor_of_name (by decide)) rfl (Nat.le_of_ble_eq_true rfl) ?_
  intro p e s m below meth c ls Q hQ hx hb hml hr hts hown hlocks hK hA hZ hP hD hS hl
  have hl : lv_has ls 10 [(0, .ref a_m), (1, .int p1), (2, .int p2), (3, .ref a_m_nameOne)] := hl
  have hown : s.vm.findClass RX11 = some m.cls := hown
  have hinX11 : ∀ w ∈ wsX110, w ∈ wsX11_spells := fun _ h => List.mem_cons_of_mem _ (inWX110 _ h)
  have w_1 := hts (Cond.fieldLink RX11 19 "SheetNamesModel" "wide" "[I") (List.mem_cons_of_mem _ t_w909)
  have w_2 := hts (Cond.fieldLink RX11 16 "SheetNamesModel" "deep" "[I") (List.mem_cons_of_mem _ t_w908)
  unfold f_M_spells at hf
  have hgo : ∀ (H : Heap) (locs : List Loc), H = s.heap → va_P D vwCl ((a_m, .inr (11, (.ref a_m_cutRows :: .ref a_m_cutColumns :: .ref a_m_deep :: .ref a_m_wide :: .ref a_m_zonesAhead :: .ref a_x_one :: .ref a_m_nameOther :: .ref a_m_tape :: .int m_taped :: .int m_place :: .int m_fault :: .int m_number :: .int m_levelRead :: .int m_keyRead :: .int m_reads :: .int m_faults :: .int m_cutShort :: .int m_noNumber :: .long m_bottomLat :: .long m_bottomLon :: .ref a_m_edges :: .int m_firstBeside :: .int m_manyBeside :: .ref a_m_dist :: .ref a_m_queue :: .int m_queued :: .int m_boxLevel :: .int m_boxTop :: .int m_boxBottom :: .int m_boxWest :: .int m_boxEast :: .int m_isEarly :: .int m_pieces :: .int m_states :: .ref a_m_pieceLevel :: .ref a_m_pieceKey :: .ref a_m_pieceYear :: .int m_drawnNow :: .ref a_m_drawnKeys :: .ref a_m_kept :: .int m_keptAt :: .ref a_m_noNumbers :: []))) :: (a_m_cutRows, .inl (ci 0, 5, .inl m_cutRows)) :: (a_m_cutColumns, .inl (ci 0, 5, .inl m_cutColumns)) :: (a_m_deep, .inl (ci 0, 5, .inl m_deep)) :: (a_m_wide, .inl (ci 0, 5, .inl m_wide)) :: (a_m_zonesAhead, .inl (ci 0, 45, .inl m_zonesAhead)) :: (a_m_nameOne, .inl (ci 0, 20, .inl m_nameOne)) :: Rw) H → va_S A s.heap H locs → W p l e ({ frames := 4, cells := 0, slots := 0, locals := 88 } : Room) s m ([.ref a_m, .int p1, .int p2, .ref a_m_nameOne] : List Value).toArray below meth c H locs 0 0 Q (F0 m 0 ls []) := by
    intro H locs hH hP hS
    refine lv_aload_n (pc := 0) hx hb dX11_spells_0 rfl (lv_at hl 0 rfl) ?_
    refine lv_iload_n (pc := 1) hx hb dX11_spells_1 rfl (lv_at hl 1 rfl) ?_
    refine lv_iload_n (pc := 2) hx hb dX11_spells_2 rfl (lv_at hl 2 rfl) ?_
    obtain ⟨v1, hm3, hf⟩ := q_b1_e hf
    refine q_cVr (pc := 3) (As := [.int p1, .int p2]) (rest := []) (v0 := (some (.int v1))) ⟨hx, hb, hml, hown, hts⟩ hK hA hZ hP hD hS hl.1 [0, 3, 4, 5] 7 rfl ⟨rfl, rfl, rfl⟩ (c_M_isCap l D ci A sa N (Rw) a_m a_m_cutRows a_m_cutColumns a_m_deep a_m_wide a_m_zonesAhead a_x_one a_m_nameOther a_m_tape a_m_edges a_m_dist a_m_queue a_m_pieceLevel a_m_pieceKey a_m_pieceYear a_m_drawnKeys a_m_kept a_m_noNumbers m_taped m_place m_fault m_number m_levelRead m_keyRead m_reads m_faults m_cutShort m_noNumber m_bottomLat m_bottomLon m_firstBeside m_manyBeside m_queued m_boxLevel m_boxTop m_boxBottom m_boxWest m_boxEast m_isEarly m_pieces m_states m_drawnNow m_keptAt m_deep m_wide m_zonesAhead p1 p2 v1 hm3) 0 rfl rfl (cwV 2 hts gX11_spells_X11_isCap rfl rfl rfl (by decide +kernel) ⟨Nat.le_of_ble_eq_true rfl, Nat.le_of_ble_eq_true rfl⟩) rfl rfl (Nat.le_of_ble_eq_true rfl) dX11_spells_3 ⟨Nat.zero_le _, Nat.zero_le _⟩ (fun locs hS => ?_)
    refine q_if_eq (pc := 6) (tgt := 30) hx hb dX11_spells_6 (by decide) rfl hf (fun hf => ?_) (fun hf => ?_)
    · refine lv_aload_n (pc := 30) hx hb dX11_spells_30 rfl (lv_at hl 0 rfl) ?_
      refine lv_iload_n (pc := 31) hx hb dX11_spells_31 rfl (lv_at hl 1 rfl) ?_
      refine lv_iload_n (pc := 32) hx hb dX11_spells_32 rfl (lv_at hl 2 rfl) ?_
      obtain ⟨v2, hm33, hf⟩ := q_b1_e hf
      refine q_cVr (pc := 33) (As := [.int p1, .int p2]) (rest := []) (v0 := (some (.int v2))) ⟨hx, hb, hml, hown, hts⟩ hK hA hZ hP hD hS hl.1 [0, 3, 4, 5] 7 rfl ⟨rfl, rfl, rfl⟩ (c_M_rowOf l D ci A sa N (Rw) a_m a_m_cutRows a_m_cutColumns a_m_deep a_m_wide a_m_zonesAhead a_x_one a_m_nameOther a_m_tape a_m_edges a_m_dist a_m_queue a_m_pieceLevel a_m_pieceKey a_m_pieceYear a_m_drawnKeys a_m_kept a_m_noNumbers m_taped m_place m_fault m_number m_levelRead m_keyRead m_reads m_faults m_cutShort m_noNumber m_bottomLat m_bottomLon m_firstBeside m_manyBeside m_queued m_boxLevel m_boxTop m_boxBottom m_boxWest m_boxEast m_isEarly m_pieces m_states m_drawnNow m_keptAt m_deep m_wide m_zonesAhead p1 p2 v2 hm33) 0 rfl rfl (cwV 2 hts gX11_spells_X11_rowOf rfl rfl rfl (by decide +kernel) ⟨Nat.le_of_ble_eq_true rfl, Nat.le_of_ble_eq_true rfl⟩) rfl rfl (Nat.le_of_ble_eq_true rfl) dX11_spells_33 ⟨Nat.zero_le _, Nat.zero_le _⟩ (fun locs hS => ?_)
      refine lv_istore (pc := 36) (lv' := [(4, .int v2), (0, .ref a_m), (1, .int p1), (2, .int p2), (3, .ref a_m_nameOne)]) hx hb dX11_spells_36 hl (by decide) rfl (fun ls hl => ?_)
      refine lv_aload_n (pc := 38) hx hb dX11_spells_38 rfl (lv_at hl 1 rfl) ?_
      refine lv_iload_n (pc := 39) hx hb dX11_spells_39 rfl (lv_at hl 2 rfl) ?_
      refine lv_iload_n (pc := 40) hx hb dX11_spells_40 rfl (lv_at hl 3 rfl) ?_
      obtain ⟨v3, hm41, hf⟩ := q_b1_e hf
      refine q_cVr (pc := 41) (As := [.int p1, .int p2]) (rest := []) (v0 := (some (.int v3))) ⟨hx, hb, hml, hown, hts⟩ hK hA hZ hP hD hS hl.1 [0, 3, 4, 5] 7 rfl ⟨rfl, rfl, rfl⟩ (c_M_placeOf l D ci A sa N (Rw) a_m a_m_cutRows a_m_cutColumns a_m_deep a_m_wide a_m_zonesAhead a_x_one a_m_nameOther a_m_tape a_m_edges a_m_dist a_m_queue a_m_pieceLevel a_m_pieceKey a_m_pieceYear a_m_drawnKeys a_m_kept a_m_noNumbers m_taped m_place m_fault m_number m_levelRead m_keyRead m_reads m_faults m_cutShort m_noNumber m_bottomLat m_bottomLon m_firstBeside m_manyBeside m_queued m_boxLevel m_boxTop m_boxBottom m_boxWest m_boxEast m_isEarly m_pieces m_states m_drawnNow m_keptAt m_deep m_wide m_zonesAhead p1 p2 v3 hm41) 0 rfl rfl (cwV 2 hts gX11_spells_X11_placeOf rfl rfl rfl (by decide +kernel) ⟨Nat.le_of_ble_eq_true rfl, Nat.le_of_ble_eq_true rfl⟩) rfl rfl (Nat.le_of_ble_eq_true rfl) dX11_spells_41 ⟨Nat.zero_le _, Nat.zero_le _⟩ (fun locs hS => ?_)
      refine lv_istore (pc := 44) (lv' := [(5, .int v3), (4, .int v2), (0, .ref a_m), (1, .int p1), (2, .int p2), (3, .ref a_m_nameOne)]) hx hb dX11_spells_44 hl (by decide) rfl (fun ls hl => ?_)
      refine lv_aload_n (pc := 46) hx hb dX11_spells_46 rfl (lv_at hl 2 rfl) ?_
      refine lv_iload_n (pc := 47) hx hb dX11_spells_47 rfl (lv_at hl 3 rfl) ?_
      refine lv_iload (pc := 48) hx hb dX11_spells_48 (lv_at hl 1 rfl) ?_
      obtain ⟨v4, hm50, hf⟩ := q_b1_e hf
      refine q_cVr (pc := 50) (As := [.int p1, .int v2]) (rest := []) (v0 := (some (.int v4))) ⟨hx, hb, hml, hown, hts⟩ hK hA hZ hP hD hS hl.1 [0, 3] 7 rfl ⟨rfl, rfl, rfl⟩ (c_M_bandOf l D ci A sa N (Rw) a_m a_m_cutRows a_m_cutColumns a_m_deep a_m_wide a_m_zonesAhead a_x_one a_m_nameOther a_m_tape a_m_edges a_m_dist a_m_queue a_m_pieceLevel a_m_pieceKey a_m_pieceYear a_m_drawnKeys a_m_kept a_m_noNumbers m_taped m_place m_fault m_number m_levelRead m_keyRead m_reads m_faults m_cutShort m_noNumber m_bottomLat m_bottomLon m_firstBeside m_manyBeside m_queued m_boxLevel m_boxTop m_boxBottom m_boxWest m_boxEast m_isEarly m_pieces m_states m_drawnNow m_keptAt m_deep p1 v2 v4 hm50) 0 rfl rfl (cwV 2 hts gX11_spells_X11_bandOf rfl rfl rfl (by decide +kernel) ⟨Nat.le_of_ble_eq_true rfl, Nat.le_of_ble_eq_true rfl⟩) rfl rfl (Nat.le_of_ble_eq_true rfl) dX11_spells_50 ⟨Nat.zero_le _, Nat.zero_le _⟩ (fun locs hS => ?_)
      refine lv_istore (pc := 53) (lv' := [(6, .int v4), (5, .int v3), (4, .int v2), (0, .ref a_m), (1, .int p1), (2, .int p2), (3, .ref a_m_nameOne)]) hx hb dX11_spells_53 hl (by decide) rfl (fun ls hl => ?_)
      refine lv_aload_n (pc := 55) hx hb dX11_spells_55 rfl (lv_at hl 6 rfl) ?_
      refine lv_iconst (pc := 56) (v := 0) hx hb dX11_spells_56 (by decide) ?_
      refine lv_iload (pc := 57) hx hb dX11_spells_57 (lv_at hl 0 rfl) ?_
      refine lv_bipush (pc := 59) (v := 22) hx hb dX11_spells_59 (by decide) ?_
      obtain ⟨k71, ek71, hf⟩ := q_j1_e hf
      have J71 : ∀ (v5 : Int32) (H : Heap) (locs : List Loc) (ls : Array Slot), k71 v5 = some (r, o1) → va_P D vwCl ((a_m, .inr (11, (.ref a_m_cutRows :: .ref a_m_cutColumns :: .ref a_m_deep :: .ref a_m_wide :: .ref a_m_zonesAhead :: .ref a_x_one :: .ref a_m_nameOther :: .ref a_m_tape :: .int m_taped :: .int m_place :: .int m_fault :: .int m_number :: .int m_levelRead :: .int m_keyRead :: .int m_reads :: .int m_faults :: .int m_cutShort :: .int m_noNumber :: .long m_bottomLat :: .long m_bottomLon :: .ref a_m_edges :: .int m_firstBeside :: .int m_manyBeside :: .ref a_m_dist :: .ref a_m_queue :: .int m_queued :: .int m_boxLevel :: .int m_boxTop :: .int m_boxBottom :: .int m_boxWest :: .int m_boxEast :: .int m_isEarly :: .int m_pieces :: .int m_states :: .ref a_m_pieceLevel :: .ref a_m_pieceKey :: .ref a_m_pieceYear :: .int m_drawnNow :: .ref a_m_drawnKeys :: .ref a_m_kept :: .int m_keptAt :: .ref a_m_noNumbers :: []))) :: (a_m_cutRows, .inl (ci 0, 5, .inl m_cutRows)) :: (a_m_cutColumns, .inl (ci 0, 5, .inl m_cutColumns)) :: (a_m_deep, .inl (ci 0, 5, .inl m_deep)) :: (a_m_wide, .inl (ci 0, 5, .inl m_wide)) :: (a_m_zonesAhead, .inl (ci 0, 45, .inl m_zonesAhead)) :: (a_m_nameOne, .inl (ci 0, 20, .inl m_nameOne)) :: Rw) H → va_D A ((a_m, .inr (11, (.ref a_m_cutRows :: .ref a_m_cutColumns :: .ref a_m_deep :: .ref a_m_wide :: .ref a_m_zonesAhead :: .ref a_x_one :: .ref a_m_nameOther :: .ref a_m_tape :: .int m_taped :: .int m_place :: .int m_fault :: .int m_number :: .int m_levelRead :: .int m_keyRead :: .int m_reads :: .int m_faults :: .int m_cutShort :: .int m_noNumber :: .long m_bottomLat :: .long m_bottomLon :: .ref a_m_edges :: .int m_firstBeside :: .int m_manyBeside :: .ref a_m_dist :: .ref a_m_queue :: .int m_queued :: .int m_boxLevel :: .int m_boxTop :: .int m_boxBottom :: .int m_boxWest :: .int m_boxEast :: .int m_isEarly :: .int m_pieces :: .int m_states :: .ref a_m_pieceLevel :: .ref a_m_pieceKey :: .ref a_m_pieceYear :: .int m_drawnNow :: .ref a_m_drawnKeys :: .ref a_m_kept :: .int m_keptAt :: .ref a_m_noNumbers :: []))) :: (a_m_cutRows, .inl (ci 0, 5, .inl m_cutRows)) :: (a_m_cutColumns, .inl (ci 0, 5, .inl m_cutColumns)) :: (a_m_deep, .inl (ci 0, 5, .inl m_deep)) :: (a_m_wide, .inl (ci 0, 5, .inl m_wide)) :: (a_m_zonesAhead, .inl (ci 0, 45, .inl m_zonesAhead)) :: (a_m_nameOne, .inl (ci 0, 20, .inl m_nameOne)) :: Rw) → va_S A s.heap H locs → lv_has ls 10 [(0, .ref a_m), (1, .int p1), (3, .ref a_m_nameOne), (4, .int v2), (5, .int v3), (6, .int v4)] → W p l e ({ frames := 4, cells := 0, slots := 0, locals := 88 } : Room) s m ([.ref a_m, .int p1, .int p2, .ref a_m_nameOne] : List Value).toArray below meth c H locs 0 0 Q (F0 m 71 ls [.int v5, .int 0, .ref a_m_nameOne]) := by
        intro v5 H locs ls hf hP hD hS hl
        have hf := (ek71 v5).symm.trans hf
        refine q_iast (pc := 71) hx hb hK hP hD hS 6 0 hf rfl rfl dX11_spells_71 (fun f6 H locs hf hP hD hS => ?_)
        obtain ⟨hP, hD⟩ : va_PD D A ((a_m, .inr (11, (.ref a_m_cutRows :: .ref a_m_cutColumns :: .ref a_m_deep :: .ref a_m_wide :: .ref a_m_zonesAhead :: .ref a_x_one :: .ref a_m_nameOther :: .ref a_m_tape :: .int m_taped :: .int m_place :: .int m_fault :: .int m_number :: .int m_levelRead :: .int m_keyRead :: .int m_reads :: .int m_faults :: .int m_cutShort :: .int m_noNumber :: .long m_bottomLat :: .long m_bottomLon :: .ref a_m_edges :: .int m_firstBeside :: .int m_manyBeside :: .ref a_m_dist :: .ref a_m_queue :: .int m_queued :: .int m_boxLevel :: .int m_boxTop :: .int m_boxBottom :: .int m_boxWest :: .int m_boxEast :: .int m_isEarly :: .int m_pieces :: .int m_states :: .ref a_m_pieceLevel :: .ref a_m_pieceKey :: .ref a_m_pieceYear :: .int m_drawnNow :: .ref a_m_drawnKeys :: .ref a_m_kept :: .int m_keptAt :: .ref a_m_noNumbers :: []))) :: (a_m_cutRows, .inl (ci 0, 5, .inl m_cutRows)) :: (a_m_cutColumns, .inl (ci 0, 5, .inl m_cutColumns)) :: (a_m_deep, .inl (ci 0, 5, .inl m_deep)) :: (a_m_wide, .inl (ci 0, 5, .inl m_wide)) :: (a_m_zonesAhead, .inl (ci 0, 45, .inl m_zonesAhead)) :: (a_m_nameOne, .inl (ci 0, 20, .inl f6)) :: Rw) H := ⟨hP, hD⟩
        refine lv_aload_n (pc := 72) hx hb dX11_spells_72 rfl (lv_at hl 2 rfl) ?_
        refine lv_iconst (pc := 73) (v := 1) hx hb dX11_spells_73 (by decide) ?_
        refine lv_bipush (pc := 74) (v := 65) hx hb dX11_spells_74 (by decide) ?_
        refine lv_iload (pc := 76) hx hb dX11_spells_76 (lv_at hl 5 rfl) ?_
        refine lv_bipush (pc := 78) (v := 22) hx hb dX11_spells_78 (by decide) ?_
        obtain ⟨k96, ek96, hf⟩ := q_j1_e hf
        have J96 : ∀ (v7 : Int32) (H : Heap) (locs : List Loc) (ls : Array Slot), k96 v7 = some (r, o1) → va_P D vwCl ((a_m, .inr (11, (.ref a_m_cutRows :: .ref a_m_cutColumns :: .ref a_m_deep :: .ref a_m_wide :: .ref a_m_zonesAhead :: .ref a_x_one :: .ref a_m_nameOther :: .ref a_m_tape :: .int m_taped :: .int m_place :: .int m_fault :: .int m_number :: .int m_levelRead :: .int m_keyRead :: .int m_reads :: .int m_faults :: .int m_cutShort :: .int m_noNumber :: .long m_bottomLat :: .long m_bottomLon :: .ref a_m_edges :: .int m_firstBeside :: .int m_manyBeside :: .ref a_m_dist :: .ref a_m_queue :: .int m_queued :: .int m_boxLevel :: .int m_boxTop :: .int m_boxBottom :: .int m_boxWest :: .int m_boxEast :: .int m_isEarly :: .int m_pieces :: .int m_states :: .ref a_m_pieceLevel :: .ref a_m_pieceKey :: .ref a_m_pieceYear :: .int m_drawnNow :: .ref a_m_drawnKeys :: .ref a_m_kept :: .int m_keptAt :: .ref a_m_noNumbers :: []))) :: (a_m_cutRows, .inl (ci 0, 5, .inl m_cutRows)) :: (a_m_cutColumns, .inl (ci 0, 5, .inl m_cutColumns)) :: (a_m_deep, .inl (ci 0, 5, .inl m_deep)) :: (a_m_wide, .inl (ci 0, 5, .inl m_wide)) :: (a_m_zonesAhead, .inl (ci 0, 45, .inl m_zonesAhead)) :: (a_m_nameOne, .inl (ci 0, 20, .inl f6)) :: Rw) H → va_D A ((a_m, .inr (11, (.ref a_m_cutRows :: .ref a_m_cutColumns :: .ref a_m_deep :: .ref a_m_wide :: .ref a_m_zonesAhead :: .ref a_x_one :: .ref a_m_nameOther :: .ref a_m_tape :: .int m_taped :: .int m_place :: .int m_fault :: .int m_number :: .int m_levelRead :: .int m_keyRead :: .int m_reads :: .int m_faults :: .int m_cutShort :: .int m_noNumber :: .long m_bottomLat :: .long m_bottomLon :: .ref a_m_edges :: .int m_firstBeside :: .int m_manyBeside :: .ref a_m_dist :: .ref a_m_queue :: .int m_queued :: .int m_boxLevel :: .int m_boxTop :: .int m_boxBottom :: .int m_boxWest :: .int m_boxEast :: .int m_isEarly :: .int m_pieces :: .int m_states :: .ref a_m_pieceLevel :: .ref a_m_pieceKey :: .ref a_m_pieceYear :: .int m_drawnNow :: .ref a_m_drawnKeys :: .ref a_m_kept :: .int m_keptAt :: .ref a_m_noNumbers :: []))) :: (a_m_cutRows, .inl (ci 0, 5, .inl m_cutRows)) :: (a_m_cutColumns, .inl (ci 0, 5, .inl m_cutColumns)) :: (a_m_deep, .inl (ci 0, 5, .inl m_deep)) :: (a_m_wide, .inl (ci 0, 5, .inl m_wide)) :: (a_m_zonesAhead, .inl (ci 0, 45, .inl m_zonesAhead)) :: (a_m_nameOne, .inl (ci 0, 20, .inl f6)) :: Rw) → va_S A s.heap H locs → lv_has ls 10 [(0, .ref a_m), (1, .int p1), (3, .ref a_m_nameOne), (4, .int v2), (5, .int v3)] → W p l e ({ frames := 4, cells := 0, slots := 0, locals := 88 } : Room) s m ([.ref a_m, .int p1, .int p2, .ref a_m_nameOne] : List Value).toArray below meth c H locs 0 0 Q (F0 m 96 ls [.int v7, .int 65, .int 1, .ref a_m_nameOne]) := by
          intro v7 H locs ls hf hP hD hS hl
          have hf := (ek96 v7).symm.trans hf
          refine lv_iadd (pc := 96) hx hb dX11_spells_96 ?_
          refine q_iast (pc := 97) hx hb hK hP hD hS 6 0 hf rfl rfl dX11_spells_97 (fun f8 H locs hf hP hD hS => ?_)
          obtain ⟨hP, hD⟩ : va_PD D A ((a_m, .inr (11, (.ref a_m_cutRows :: .ref a_m_cutColumns :: .ref a_m_deep :: .ref a_m_wide :: .ref a_m_zonesAhead :: .ref a_x_one :: .ref a_m_nameOther :: .ref a_m_tape :: .int m_taped :: .int m_place :: .int m_fault :: .int m_number :: .int m_levelRead :: .int m_keyRead :: .int m_reads :: .int m_faults :: .int m_cutShort :: .int m_noNumber :: .long m_bottomLat :: .long m_bottomLon :: .ref a_m_edges :: .int m_firstBeside :: .int m_manyBeside :: .ref a_m_dist :: .ref a_m_queue :: .int m_queued :: .int m_boxLevel :: .int m_boxTop :: .int m_boxBottom :: .int m_boxWest :: .int m_boxEast :: .int m_isEarly :: .int m_pieces :: .int m_states :: .ref a_m_pieceLevel :: .ref a_m_pieceKey :: .ref a_m_pieceYear :: .int m_drawnNow :: .ref a_m_drawnKeys :: .ref a_m_kept :: .int m_keptAt :: .ref a_m_noNumbers :: []))) :: (a_m_cutRows, .inl (ci 0, 5, .inl m_cutRows)) :: (a_m_cutColumns, .inl (ci 0, 5, .inl m_cutColumns)) :: (a_m_deep, .inl (ci 0, 5, .inl m_deep)) :: (a_m_wide, .inl (ci 0, 5, .inl m_wide)) :: (a_m_zonesAhead, .inl (ci 0, 45, .inl m_zonesAhead)) :: (a_m_nameOne, .inl (ci 0, 20, .inl f8)) :: Rw) H := ⟨hP, hD⟩
          refine lv_aload_n (pc := 98) hx hb dX11_spells_98 rfl (lv_at hl 0 rfl) ?_
          refine lv_aload_n (pc := 99) hx hb dX11_spells_99 rfl (lv_at hl 2 rfl) ?_
          refine lv_iconst (pc := 100) (v := 2) hx hb dX11_spells_100 (by decide) ?_
          refine lv_iload (pc := 101) hx hb dX11_spells_101 (lv_at hl 4 rfl) ?_
          refine lv_aload_n (pc := 103) hx hb dX11_spells_103 rfl (lv_at hl 0 rfl) ?_
          refine va_get (pc := 104) (D := D) (ci := 11) (v := .ref a_m_wide) (C := RX11) (T := TX11) (N := 42) hx hb hts hinX11 hown hK hP 0 rfl rfl 3 (by decide) w_1 (fun _ h9 => h9) rfl dX11_spells_104 ?_
          refine lv_iload_n (pc := 107) hx hb dX11_spells_107 rfl (lv_at hl 1 rfl) ?_
          refine q_iald (pc := 108) hx hb hK hP 4 0 hf rfl rfl dX11_spells_108 (fun v9 hf => ?_)
          refine q_idiv (pc := 109) hx hb dX11_spells_109 hf (fun v10 hf => ?_)
          refine lv_iconst (pc := 110) (v := 1) hx hb dX11_spells_110 (by decide) ?_
          refine lv_iadd (pc := 111) hx hb dX11_spells_111 ?_
          obtain ⟨v11, f12, hm112, hf⟩ := q_b2_e hf
          refine q_cV (pc := 112) (As := [.ref a_m_nameOne, .int 2, .int (v10 + 1)]) (rest := []) (v0 := (some (.int v11))) ⟨hx, hb, hml, hown, hts⟩ hK hA hZ hP hD hS hl.1 [0, 6, 1, 2, 3, 4, 5] 7 rfl ⟨rfl, rfl, rfl⟩ (c_M_digitsInto l D ci A sa N ((a_m_cutRows, .inl (ci 0, 5, .inl m_cutRows)) :: (a_m_cutColumns, .inl (ci 0, 5, .inl m_cutColumns)) :: (a_m_deep, .inl (ci 0, 5, .inl m_deep)) :: (a_m_wide, .inl (ci 0, 5, .inl m_wide)) :: (a_m_zonesAhead, .inl (ci 0, 45, .inl m_zonesAhead)) :: Rw) a_m a_m_cutRows a_m_cutColumns a_m_deep a_m_wide a_m_zonesAhead a_m_nameOne a_x_one a_m_nameOther a_m_tape a_m_edges a_m_dist a_m_queue a_m_pieceLevel a_m_pieceKey a_m_pieceYear a_m_drawnKeys a_m_kept a_m_noNumbers m_taped m_place m_fault m_number m_levelRead m_keyRead m_reads m_faults m_cutShort m_noNumber m_bottomLat m_bottomLon m_firstBeside m_manyBeside m_queued m_boxLevel m_boxTop m_boxBottom m_boxWest m_boxEast m_isEarly m_pieces m_states m_drawnNow m_keptAt f8 2 (v10 + 1) v11 f12 hm112) 0 rfl rfl (cwV 3 hts gX11_spells_X11_digitsInto rfl rfl rfl (by decide +kernel) ⟨Nat.le_of_ble_eq_true rfl, Nat.le_of_ble_eq_true rfl⟩) rfl rfl (Nat.le_of_ble_eq_true rfl) dX11_spells_112 ⟨Nat.zero_le _, Nat.zero_le _⟩ [0, 2, 3, 4, 5, 6, 1] 7 rfl ⟨rfl, rfl, rfl⟩ (fun H locs hP hD hS => ?_)
          obtain ⟨hP, hD⟩ : va_PD D A ((a_m, .inr (11, (.ref a_m_cutRows :: .ref a_m_cutColumns :: .ref a_m_deep :: .ref a_m_wide :: .ref a_m_zonesAhead :: .ref a_x_one :: .ref a_m_nameOther :: .ref a_m_tape :: .int m_taped :: .int m_place :: .int m_fault :: .int m_number :: .int m_levelRead :: .int m_keyRead :: .int m_reads :: .int m_faults :: .int m_cutShort :: .int m_noNumber :: .long m_bottomLat :: .long m_bottomLon :: .ref a_m_edges :: .int m_firstBeside :: .int m_manyBeside :: .ref a_m_dist :: .ref a_m_queue :: .int m_queued :: .int m_boxLevel :: .int m_boxTop :: .int m_boxBottom :: .int m_boxWest :: .int m_boxEast :: .int m_isEarly :: .int m_pieces :: .int m_states :: .ref a_m_pieceLevel :: .ref a_m_pieceKey :: .ref a_m_pieceYear :: .int m_drawnNow :: .ref a_m_drawnKeys :: .ref a_m_kept :: .int m_keptAt :: .ref a_m_noNumbers :: []))) :: (a_m_cutRows, .inl (ci 0, 5, .inl m_cutRows)) :: (a_m_cutColumns, .inl (ci 0, 5, .inl m_cutColumns)) :: (a_m_deep, .inl (ci 0, 5, .inl m_deep)) :: (a_m_wide, .inl (ci 0, 5, .inl m_wide)) :: (a_m_zonesAhead, .inl (ci 0, 45, .inl m_zonesAhead)) :: (a_m_nameOne, .inl (ci 0, 20, .inl f12)) :: Rw) H := ⟨hP, hD⟩
          refine lv_istore (pc := 115) (lv' := [(7, .int v11), (0, .ref a_m), (1, .int p1), (3, .ref a_m_nameOne), (4, .int v2), (5, .int v3)]) hx hb dX11_spells_115 hl (by decide) rfl (fun ls hl => ?_)
          refine lv_iconst (pc := 117) (v := 1) hx hb dX11_spells_117 (by decide) ?_
          obtain ⟨v13, ev13, hf⟩ := q_nm_e hf
          refine q_topi ev13 ?_
          refine lv_istore (pc := 118) (lv' := [(8, .int v13), (7, .int v11), (0, .ref a_m), (1, .int p1), (3, .ref a_m_nameOne), (4, .int v2), (5, .int v3)]) hx hb dX11_spells_118 hl (by decide) rfl (fun ls hl => ?_)
          obtain ⟨v17, f18, hm120, hf⟩ := q_b2_e hf
          have JE120 : ∀ (H : Heap) (locs : List Loc) (ls : Array Slot), va_P D vwCl ((a_m, .inr (11, (.ref a_m_cutRows :: .ref a_m_cutColumns :: .ref a_m_deep :: .ref a_m_wide :: .ref a_m_zonesAhead :: .ref a_x_one :: .ref a_m_nameOther :: .ref a_m_tape :: .int m_taped :: .int m_place :: .int m_fault :: .int m_number :: .int m_levelRead :: .int m_keyRead :: .int m_reads :: .int m_faults :: .int m_cutShort :: .int m_noNumber :: .long m_bottomLat :: .long m_bottomLon :: .ref a_m_edges :: .int m_firstBeside :: .int m_manyBeside :: .ref a_m_dist :: .ref a_m_queue :: .int m_queued :: .int m_boxLevel :: .int m_boxTop :: .int m_boxBottom :: .int m_boxWest :: .int m_boxEast :: .int m_isEarly :: .int m_pieces :: .int m_states :: .ref a_m_pieceLevel :: .ref a_m_pieceKey :: .ref a_m_pieceYear :: .int m_drawnNow :: .ref a_m_drawnKeys :: .ref a_m_kept :: .int m_keptAt :: .ref a_m_noNumbers :: []))) :: (a_m_cutRows, .inl (ci 0, 5, .inl m_cutRows)) :: (a_m_cutColumns, .inl (ci 0, 5, .inl m_cutColumns)) :: (a_m_deep, .inl (ci 0, 5, .inl m_deep)) :: (a_m_wide, .inl (ci 0, 5, .inl m_wide)) :: (a_m_zonesAhead, .inl (ci 0, 45, .inl m_zonesAhead)) :: (a_m_nameOne, .inl (ci 0, 20, .inl f18)) :: Rw) H → va_D A ((a_m, .inr (11, (.ref a_m_cutRows :: .ref a_m_cutColumns :: .ref a_m_deep :: .ref a_m_wide :: .ref a_m_zonesAhead :: .ref a_x_one :: .ref a_m_nameOther :: .ref a_m_tape :: .int m_taped :: .int m_place :: .int m_fault :: .int m_number :: .int m_levelRead :: .int m_keyRead :: .int m_reads :: .int m_faults :: .int m_cutShort :: .int m_noNumber :: .long m_bottomLat :: .long m_bottomLon :: .ref a_m_edges :: .int m_firstBeside :: .int m_manyBeside :: .ref a_m_dist :: .ref a_m_queue :: .int m_queued :: .int m_boxLevel :: .int m_boxTop :: .int m_boxBottom :: .int m_boxWest :: .int m_boxEast :: .int m_isEarly :: .int m_pieces :: .int m_states :: .ref a_m_pieceLevel :: .ref a_m_pieceKey :: .ref a_m_pieceYear :: .int m_drawnNow :: .ref a_m_drawnKeys :: .ref a_m_kept :: .int m_keptAt :: .ref a_m_noNumbers :: []))) :: (a_m_cutRows, .inl (ci 0, 5, .inl m_cutRows)) :: (a_m_cutColumns, .inl (ci 0, 5, .inl m_cutColumns)) :: (a_m_deep, .inl (ci 0, 5, .inl m_deep)) :: (a_m_wide, .inl (ci 0, 5, .inl m_wide)) :: (a_m_zonesAhead, .inl (ci 0, 45, .inl m_zonesAhead)) :: (a_m_nameOne, .inl (ci 0, 20, .inl f18)) :: Rw) → va_S A s.heap H locs → lv_has ls 10 [(7, .int v17)] → W p l e ({ frames := 4, cells := 0, slots := 0, locals := 88 } : Room) s m ([.ref a_m, .int p1, .int p2, .ref a_m_nameOne] : List Value).toArray below meth c H locs 0 0 Q (F0 m 197 ls []) := by
            intro H locs ls hP hD hS hl
            refine lv_iload (pc := 197) hx hb dX11_spells_197 (lv_at hl 0 rfl) ?_
            obtain ⟨rfl, rfl⟩ := q_inj2 (Option.some.inj hf)
            rw [hQ]
            exact q_iret (pc := 199) hx hb hr hlocks hP hD hS dX11_spells_199
          have LP120 : ∀ (n120 : Nat) (v14 : Int32) (v15 : Int32) (f16 : Nat → Int32) (H : Heap) (locs : List Loc) (ls : Array Slot), f_M_spells_L120 m_cutColumns m_cutRows m_deep m_wide p1 v2 v3 n120 v14 v15 f16 = some (v17, f18) → va_P D vwCl ((a_m, .inr (11, (.ref a_m_cutRows :: .ref a_m_cutColumns :: .ref a_m_deep :: .ref a_m_wide :: .ref a_m_zonesAhead :: .ref a_x_one :: .ref a_m_nameOther :: .ref a_m_tape :: .int m_taped :: .int m_place :: .int m_fault :: .int m_number :: .int m_levelRead :: .int m_keyRead :: .int m_reads :: .int m_faults :: .int m_cutShort :: .int m_noNumber :: .long m_bottomLat :: .long m_bottomLon :: .ref a_m_edges :: .int m_firstBeside :: .int m_manyBeside :: .ref a_m_dist :: .ref a_m_queue :: .int m_queued :: .int m_boxLevel :: .int m_boxTop :: .int m_boxBottom :: .int m_boxWest :: .int m_boxEast :: .int m_isEarly :: .int m_pieces :: .int m_states :: .ref a_m_pieceLevel :: .ref a_m_pieceKey :: .ref a_m_pieceYear :: .int m_drawnNow :: .ref a_m_drawnKeys :: .ref a_m_kept :: .int m_keptAt :: .ref a_m_noNumbers :: []))) :: (a_m_cutRows, .inl (ci 0, 5, .inl m_cutRows)) :: (a_m_cutColumns, .inl (ci 0, 5, .inl m_cutColumns)) :: (a_m_deep, .inl (ci 0, 5, .inl m_deep)) :: (a_m_wide, .inl (ci 0, 5, .inl m_wide)) :: (a_m_zonesAhead, .inl (ci 0, 45, .inl m_zonesAhead)) :: (a_m_nameOne, .inl (ci 0, 20, .inl f16)) :: Rw) H → va_D A ((a_m, .inr (11, (.ref a_m_cutRows :: .ref a_m_cutColumns :: .ref a_m_deep :: .ref a_m_wide :: .ref a_m_zonesAhead :: .ref a_x_one :: .ref a_m_nameOther :: .ref a_m_tape :: .int m_taped :: .int m_place :: .int m_fault :: .int m_number :: .int m_levelRead :: .int m_keyRead :: .int m_reads :: .int m_faults :: .int m_cutShort :: .int m_noNumber :: .long m_bottomLat :: .long m_bottomLon :: .ref a_m_edges :: .int m_firstBeside :: .int m_manyBeside :: .ref a_m_dist :: .ref a_m_queue :: .int m_queued :: .int m_boxLevel :: .int m_boxTop :: .int m_boxBottom :: .int m_boxWest :: .int m_boxEast :: .int m_isEarly :: .int m_pieces :: .int m_states :: .ref a_m_pieceLevel :: .ref a_m_pieceKey :: .ref a_m_pieceYear :: .int m_drawnNow :: .ref a_m_drawnKeys :: .ref a_m_kept :: .int m_keptAt :: .ref a_m_noNumbers :: []))) :: (a_m_cutRows, .inl (ci 0, 5, .inl m_cutRows)) :: (a_m_cutColumns, .inl (ci 0, 5, .inl m_cutColumns)) :: (a_m_deep, .inl (ci 0, 5, .inl m_deep)) :: (a_m_wide, .inl (ci 0, 5, .inl m_wide)) :: (a_m_zonesAhead, .inl (ci 0, 45, .inl m_zonesAhead)) :: (a_m_nameOne, .inl (ci 0, 20, .inl f16)) :: Rw) → va_S A s.heap H locs → lv_has ls 10 [(0, .ref a_m), (1, .int p1), (3, .ref a_m_nameOne), (4, .int v2), (5, .int v3), (7, .int v14), (8, .int v15)] → W p l e ({ frames := 4, cells := 0, slots := 0, locals := 88 } : Room) s m ([.ref a_m, .int p1, .int p2, .ref a_m_nameOne] : List Value).toArray below meth c H locs 0 0 Q (F0 m 120 ls []) := by
            intro n120
            induction n120 with
            | zero => intro v14 v15 f16 H locs ls hf; rw [f_M_spells_L120] at hf; cases hf
            | succ n120 ih120 =>
              intro v14 v15 f16 H locs ls hf hP hD hS hl
              rw [f_M_spells_L120] at hf
              refine lv_iload (pc := 120) hx hb dX11_spells_120 (lv_at hl 6 rfl) ?_
              refine lv_iload_n (pc := 122) hx hb dX11_spells_122 rfl (lv_at hl 1 rfl) ?_
              refine q_icmp_gt (pc := 123) (tgt := 197) hx hb dX11_spells_123 (by decide) rfl hf (fun hf => ?_) (fun hf => ?_)
              · obtain ⟨rfl, rfl⟩ := q_inj2 (Option.some.inj hf)
                exact JE120 _ _ _ hP hD hS (lv_sub hl [5] rfl)
              · refine lv_iconst (pc := 126) (v := 1) hx hb dX11_spells_126 (by decide) ?_
                refine lv_iload (pc := 127) hx hb dX11_spells_127 (lv_at hl 3 rfl) ?_
                refine lv_iconst (pc := 129) (v := 1) hx hb dX11_spells_129 (by decide) ?_
                refine lv_isub (pc := 130) hx hb dX11_spells_130 ?_
                refine lv_aload_n (pc := 131) hx hb dX11_spells_131 rfl (lv_at hl 0 rfl) ?_
                refine va_get (pc := 132) (D := D) (ci := 11) (v := .ref a_m_deep) (C := RX11) (T := TX11) (N := 42) hx hb hts hinX11 hown hK hP 0 rfl rfl 2 (by decide) w_2 (fun _ h9 => h9) rfl dX11_spells_132 ?_
                refine lv_iload_n (pc := 135) hx hb dX11_spells_135 rfl (lv_at hl 1 rfl) ?_
                refine q_iald (pc := 136) hx hb hK hP 3 0 hf rfl rfl dX11_spells_136 (fun v19 hf => ?_)
                refine lv_aload_n (pc := 137) hx hb dX11_spells_137 rfl (lv_at hl 0 rfl) ?_
                refine va_get (pc := 138) (D := D) (ci := 11) (v := .ref a_m_deep) (C := RX11) (T := TX11) (N := 42) hx hb hts hinX11 hown hK hP 0 rfl rfl 2 (by decide) w_2 (fun _ h9 => h9) rfl dX11_spells_138 ?_
                refine lv_iload (pc := 141) hx hb dX11_spells_141 (lv_at hl 6 rfl) ?_
                refine q_iald (pc := 143) hx hb hK hP 3 0 hf rfl rfl dX11_spells_143 (fun v20 hf => ?_)
                refine q_idiv (pc := 144) hx hb dX11_spells_144 hf (fun v21 hf => ?_)
                refine q_idiv (pc := 145) hx hb dX11_spells_145 hf (fun v22 hf => ?_)
                refine lv_iadd (pc := 146) hx hb dX11_spells_146 ?_
                obtain ⟨v23, ev23, hf⟩ := q_nm_e hf
                refine q_topi ev23 ?_
                refine lv_istore (pc := 147) (lv' := [(9, .int v23), (0, .ref a_m), (1, .int p1), (3, .ref a_m_nameOne), (4, .int v2), (5, .int v3), (7, .int v14), (8, .int v15)]) hx hb dX11_spells_147 hl (by decide) rfl (fun ls hl => ?_)
                refine lv_aload_n (pc := 149) hx hb dX11_spells_149 rfl (lv_at hl 3 rfl) ?_
                refine lv_iload (pc := 150) hx hb dX11_spells_150 (lv_at hl 6 rfl) ?_
                refine lv_bipush (pc := 152) (v := 45) hx hb dX11_spells_152 (by decide) ?_
                refine q_iast (pc := 154) hx hb hK hP hD hS 6 0 hf rfl rfl dX11_spells_154 (fun f24 H locs hf hP hD hS => ?_)
                obtain ⟨hP, hD⟩ : va_PD D A ((a_m, .inr (11, (.ref a_m_cutRows :: .ref a_m_cutColumns :: .ref a_m_deep :: .ref a_m_wide :: .ref a_m_zonesAhead :: .ref a_x_one :: .ref a_m_nameOther :: .ref a_m_tape :: .int m_taped :: .int m_place :: .int m_fault :: .int m_number :: .int m_levelRead :: .int m_keyRead :: .int m_reads :: .int m_faults :: .int m_cutShort :: .int m_noNumber :: .long m_bottomLat :: .long m_bottomLon :: .ref a_m_edges :: .int m_firstBeside :: .int m_manyBeside :: .ref a_m_dist :: .ref a_m_queue :: .int m_queued :: .int m_boxLevel :: .int m_boxTop :: .int m_boxBottom :: .int m_boxWest :: .int m_boxEast :: .int m_isEarly :: .int m_pieces :: .int m_states :: .ref a_m_pieceLevel :: .ref a_m_pieceKey :: .ref a_m_pieceYear :: .int m_drawnNow :: .ref a_m_drawnKeys :: .ref a_m_kept :: .int m_keptAt :: .ref a_m_noNumbers :: []))) :: (a_m_cutRows, .inl (ci 0, 5, .inl m_cutRows)) :: (a_m_cutColumns, .inl (ci 0, 5, .inl m_cutColumns)) :: (a_m_deep, .inl (ci 0, 5, .inl m_deep)) :: (a_m_wide, .inl (ci 0, 5, .inl m_wide)) :: (a_m_zonesAhead, .inl (ci 0, 45, .inl m_zonesAhead)) :: (a_m_nameOne, .inl (ci 0, 20, .inl f24)) :: Rw) H := ⟨hP, hD⟩
                refine lv_aload_n (pc := 155) hx hb dX11_spells_155 rfl (lv_at hl 1 rfl) ?_
                refine lv_aload_n (pc := 156) hx hb dX11_spells_156 rfl (lv_at hl 3 rfl) ?_
                refine lv_iload (pc := 157) hx hb dX11_spells_157 (lv_at hl 6 rfl) ?_
                refine lv_iconst (pc := 159) (v := 1) hx hb dX11_spells_159 (by decide) ?_
                refine lv_iadd (pc := 160) hx hb dX11_spells_160 ?_
                refine lv_aload_n (pc := 161) hx hb dX11_spells_161 rfl (lv_at hl 1 rfl) ?_
                refine lv_iload (pc := 162) hx hb dX11_spells_162 (lv_at hl 7 rfl) ?_
                refine lv_iload (pc := 164) hx hb dX11_spells_164 (lv_at hl 0 rfl) ?_
                refine lv_iload (pc := 166) hx hb dX11_spells_166 (lv_at hl 5 rfl) ?_
                refine lv_aload_n (pc := 168) hx hb dX11_spells_168 rfl (lv_at hl 1 rfl) ?_
                refine va_get (pc := 169) (D := D) (ci := 11) (v := .ref a_m_wide) (C := RX11) (T := TX11) (N := 42) hx hb hts hinX11 hown hK hP 0 rfl rfl 3 (by decide) w_1 (fun _ h9 => h9) rfl dX11_spells_169 ?_
                refine lv_iload_n (pc := 172) hx hb dX11_spells_172 rfl (lv_at hl 2 rfl) ?_
                refine q_iald (pc := 173) hx hb hK hP 4 0 hf rfl rfl dX11_spells_173 (fun v25 hf => ?_)
                refine lv_aload_n (pc := 174) hx hb dX11_spells_174 rfl (lv_at hl 1 rfl) ?_
                refine va_get (pc := 175) (D := D) (ci := 11) (v := .ref a_m_wide) (C := RX11) (T := TX11) (N := 42) hx hb hts hinX11 hown hK hP 0 rfl rfl 3 (by decide) w_1 (fun _ h9 => h9) rfl dX11_spells_175 ?_
                refine lv_iload (pc := 178) hx hb dX11_spells_178 (lv_at hl 7 rfl) ?_
                refine q_iald (pc := 180) hx hb hK hP 4 0 hf rfl rfl dX11_spells_180 (fun v26 hf => ?_)
                refine q_idiv (pc := 181) hx hb dX11_spells_181 hf (fun v27 hf => ?_)
                refine q_idiv (pc := 182) hx hb dX11_spells_182 hf (fun v28 hf => ?_)
                obtain ⟨v29, hm183, hf⟩ := q_b1_e hf
                refine q_cVr (pc := 183) (As := [.int v15, .int v23, .int v28]) (rest := [.int (v14 + 1), .ref a_m_nameOne, .ref a_m]) (v0 := (some (.int v29))) ⟨hx, hb, hml, hown, hts⟩ hK hA hZ hP hD hS hl.1 [0, 1, 2, 3] 7 rfl ⟨rfl, rfl, rfl⟩ (c_M_pieceNumber l D ci A sa N (Rw) a_m a_m_cutRows a_m_cutColumns a_m_deep a_m_wide a_m_zonesAhead a_x_one a_m_nameOther a_m_tape a_m_edges a_m_dist a_m_queue a_m_pieceLevel a_m_pieceKey a_m_pieceYear a_m_drawnKeys a_m_kept a_m_noNumbers m_taped m_place m_fault m_number m_levelRead m_keyRead m_reads m_faults m_cutShort m_noNumber m_bottomLat m_bottomLon m_firstBeside m_manyBeside m_queued m_boxLevel m_boxTop m_boxBottom m_boxWest m_boxEast m_isEarly m_pieces m_states m_drawnNow m_keptAt m_cutRows m_cutColumns m_deep v15 v23 v28 v29 hm183) 0 rfl rfl (cwV 3 hts gX11_spells_X11_pieceNumber rfl rfl rfl (by decide +kernel) ⟨Nat.le_of_ble_eq_true rfl, Nat.le_of_ble_eq_true rfl⟩) rfl rfl (Nat.le_of_ble_eq_true rfl) dX11_spells_183 ⟨Nat.zero_le _, Nat.zero_le _⟩ (fun locs hS => ?_)
                obtain ⟨v30, f31, hm186, hf⟩ := q_b2_e hf
                refine q_cV (pc := 186) (As := [.ref a_m_nameOne, .int (v14 + 1), .int v29]) (rest := []) (v0 := (some (.int v30))) ⟨hx, hb, hml, hown, hts⟩ hK hA hZ hP hD hS hl.1 [0, 6, 1, 2, 3, 4, 5] 7 rfl ⟨rfl, rfl, rfl⟩ (c_M_digitsInto l D ci A sa N ((a_m_cutRows, .inl (ci 0, 5, .inl m_cutRows)) :: (a_m_cutColumns, .inl (ci 0, 5, .inl m_cutColumns)) :: (a_m_deep, .inl (ci 0, 5, .inl m_deep)) :: (a_m_wide, .inl (ci 0, 5, .inl m_wide)) :: (a_m_zonesAhead, .inl (ci 0, 45, .inl m_zonesAhead)) :: Rw) a_m a_m_cutRows a_m_cutColumns a_m_deep a_m_wide a_m_zonesAhead a_m_nameOne a_x_one a_m_nameOther a_m_tape a_m_edges a_m_dist a_m_queue a_m_pieceLevel a_m_pieceKey a_m_pieceYear a_m_drawnKeys a_m_kept a_m_noNumbers m_taped m_place m_fault m_number m_levelRead m_keyRead m_reads m_faults m_cutShort m_noNumber m_bottomLat m_bottomLon m_firstBeside m_manyBeside m_queued m_boxLevel m_boxTop m_boxBottom m_boxWest m_boxEast m_isEarly m_pieces m_states m_drawnNow m_keptAt f24 (v14 + 1) v29 v30 f31 hm186) 0 rfl rfl (cwV 3 hts gX11_spells_X11_digitsInto rfl rfl rfl (by decide +kernel) ⟨Nat.le_of_ble_eq_true rfl, Nat.le_of_ble_eq_true rfl⟩) rfl rfl (Nat.le_of_ble_eq_true rfl) dX11_spells_186 ⟨Nat.zero_le _, Nat.zero_le _⟩ [0, 2, 3, 4, 5, 6, 1] 7 rfl ⟨rfl, rfl, rfl⟩ (fun H locs hP hD hS => ?_)
                obtain ⟨hP, hD⟩ : va_PD D A ((a_m, .inr (11, (.ref a_m_cutRows :: .ref a_m_cutColumns :: .ref a_m_deep :: .ref a_m_wide :: .ref a_m_zonesAhead :: .ref a_x_one :: .ref a_m_nameOther :: .ref a_m_tape :: .int m_taped :: .int m_place :: .int m_fault :: .int m_number :: .int m_levelRead :: .int m_keyRead :: .int m_reads :: .int m_faults :: .int m_cutShort :: .int m_noNumber :: .long m_bottomLat :: .long m_bottomLon :: .ref a_m_edges :: .int m_firstBeside :: .int m_manyBeside :: .ref a_m_dist :: .ref a_m_queue :: .int m_queued :: .int m_boxLevel :: .int m_boxTop :: .int m_boxBottom :: .int m_boxWest :: .int m_boxEast :: .int m_isEarly :: .int m_pieces :: .int m_states :: .ref a_m_pieceLevel :: .ref a_m_pieceKey :: .ref a_m_pieceYear :: .int m_drawnNow :: .ref a_m_drawnKeys :: .ref a_m_kept :: .int m_keptAt :: .ref a_m_noNumbers :: []))) :: (a_m_cutRows, .inl (ci 0, 5, .inl m_cutRows)) :: (a_m_cutColumns, .inl (ci 0, 5, .inl m_cutColumns)) :: (a_m_deep, .inl (ci 0, 5, .inl m_deep)) :: (a_m_wide, .inl (ci 0, 5, .inl m_wide)) :: (a_m_zonesAhead, .inl (ci 0, 45, .inl m_zonesAhead)) :: (a_m_nameOne, .inl (ci 0, 20, .inl f31)) :: Rw) H := ⟨hP, hD⟩
                refine lv_istore (pc := 189) (lv' := [(7, .int v30), (9, .int v23), (0, .ref a_m), (1, .int p1), (3, .ref a_m_nameOne), (4, .int v2), (5, .int v3), (8, .int v15)]) hx hb dX11_spells_189 hl (by decide) rfl (fun ls hl => ?_)
                obtain ⟨v32, ev32, hf⟩ := q_nm_e hf
                refine lv_iinc (pc := 191) (v := v32) (lv' := [(8, .int v32), (7, .int v30), (9, .int v23), (0, .ref a_m), (1, .int p1), (3, .ref a_m_nameOne), (4, .int v2), (5, .int v3)]) hx hb dX11_spells_191 hl (k := 7) rfl (by rw [ev32]; rfl) (by decide) rfl (fun ls hl => ?_)
                refine lv_goto (pc := 194) (tgt := 120) hx hb dX11_spells_194 (by decide) ?_
                exact ih120 v30 v32 f31 _ _ _ hf hP hD hS (lv_sub hl [3, 4, 5, 6, 7, 1, 0] rfl)
          exact LP120 N v11 v13 f12 _ _ _ hm120 hP hD hS (lv_sub hl [2, 3, 4, 5, 6, 1, 0] rfl)
        refine q_icmp_ge (pc := 80) (tgt := 91) hx hb dX11_spells_80 (by decide) rfl hf (fun hf => ?_) (fun hf => ?_)
        · refine lv_iload (pc := 91) hx hb dX11_spells_91 (lv_at hl 5 rfl) ?_
          refine lv_bipush (pc := 93) (v := 22) hx hb dX11_spells_93 (by decide) ?_
          refine lv_isub (pc := 95) hx hb dX11_spells_95 ?_
          exact J96 (v4 - 22) _ _ _ hf hP hD hS (lv_sub hl [0, 1, 2, 3, 4] rfl)
        · refine lv_bipush (pc := 83) (v := 21) hx hb dX11_spells_83 (by decide) ?_
          refine lv_iload (pc := 85) hx hb dX11_spells_85 (lv_at hl 5 rfl) ?_
          refine lv_isub (pc := 87) hx hb dX11_spells_87 ?_
          refine lv_goto (pc := 88) (tgt := 96) hx hb dX11_spells_88 (by decide) ?_
          exact J96 (21 - v4) _ _ _ hf hP hD hS (lv_sub hl [0, 1, 2, 3, 4] rfl)
      refine q_icmp_ge (pc := 61) (tgt := 69) hx hb dX11_spells_61 (by decide) rfl hf (fun hf => ?_) (fun hf => ?_)
      · refine lv_bipush (pc := 69) (v := 83) hx hb dX11_spells_69 (by decide) ?_
        exact J71 83 _ _ _ hf hP hD hS (lv_sub hl [3, 4, 6, 2, 1, 0] rfl)
      · refine lv_bipush (pc := 64) (v := 78) hx hb dX11_spells_64 (by decide) ?_
        refine lv_goto (pc := 66) (tgt := 71) hx hb dX11_spells_66 (by decide) ?_
        exact J71 78 _ _ _ hf hP hD hS (lv_sub hl [3, 4, 6, 2, 1, 0] rfl)
    · refine lv_aload_n (pc := 9) hx hb dX11_spells_9 rfl (lv_at hl 3 rfl) ?_
      refine lv_iconst (pc := 10) (v := 0) hx hb dX11_spells_10 (by decide) ?_
      refine lv_iload_n (pc := 11) hx hb dX11_spells_11 rfl (lv_at hl 2 rfl) ?_
      obtain ⟨k22, ek22, hf⟩ := q_j1_e hf
      have J22 : ∀ (v33 : Int32) (H : Heap) (locs : List Loc) (ls : Array Slot), k22 v33 = some (r, o1) → va_P D vwCl ((a_m, .inr (11, (.ref a_m_cutRows :: .ref a_m_cutColumns :: .ref a_m_deep :: .ref a_m_wide :: .ref a_m_zonesAhead :: .ref a_x_one :: .ref a_m_nameOther :: .ref a_m_tape :: .int m_taped :: .int m_place :: .int m_fault :: .int m_number :: .int m_levelRead :: .int m_keyRead :: .int m_reads :: .int m_faults :: .int m_cutShort :: .int m_noNumber :: .long m_bottomLat :: .long m_bottomLon :: .ref a_m_edges :: .int m_firstBeside :: .int m_manyBeside :: .ref a_m_dist :: .ref a_m_queue :: .int m_queued :: .int m_boxLevel :: .int m_boxTop :: .int m_boxBottom :: .int m_boxWest :: .int m_boxEast :: .int m_isEarly :: .int m_pieces :: .int m_states :: .ref a_m_pieceLevel :: .ref a_m_pieceKey :: .ref a_m_pieceYear :: .int m_drawnNow :: .ref a_m_drawnKeys :: .ref a_m_kept :: .int m_keptAt :: .ref a_m_noNumbers :: []))) :: (a_m_cutRows, .inl (ci 0, 5, .inl m_cutRows)) :: (a_m_cutColumns, .inl (ci 0, 5, .inl m_cutColumns)) :: (a_m_deep, .inl (ci 0, 5, .inl m_deep)) :: (a_m_wide, .inl (ci 0, 5, .inl m_wide)) :: (a_m_zonesAhead, .inl (ci 0, 45, .inl m_zonesAhead)) :: (a_m_nameOne, .inl (ci 0, 20, .inl m_nameOne)) :: Rw) H → va_D A ((a_m, .inr (11, (.ref a_m_cutRows :: .ref a_m_cutColumns :: .ref a_m_deep :: .ref a_m_wide :: .ref a_m_zonesAhead :: .ref a_x_one :: .ref a_m_nameOther :: .ref a_m_tape :: .int m_taped :: .int m_place :: .int m_fault :: .int m_number :: .int m_levelRead :: .int m_keyRead :: .int m_reads :: .int m_faults :: .int m_cutShort :: .int m_noNumber :: .long m_bottomLat :: .long m_bottomLon :: .ref a_m_edges :: .int m_firstBeside :: .int m_manyBeside :: .ref a_m_dist :: .ref a_m_queue :: .int m_queued :: .int m_boxLevel :: .int m_boxTop :: .int m_boxBottom :: .int m_boxWest :: .int m_boxEast :: .int m_isEarly :: .int m_pieces :: .int m_states :: .ref a_m_pieceLevel :: .ref a_m_pieceKey :: .ref a_m_pieceYear :: .int m_drawnNow :: .ref a_m_drawnKeys :: .ref a_m_kept :: .int m_keptAt :: .ref a_m_noNumbers :: []))) :: (a_m_cutRows, .inl (ci 0, 5, .inl m_cutRows)) :: (a_m_cutColumns, .inl (ci 0, 5, .inl m_cutColumns)) :: (a_m_deep, .inl (ci 0, 5, .inl m_deep)) :: (a_m_wide, .inl (ci 0, 5, .inl m_wide)) :: (a_m_zonesAhead, .inl (ci 0, 45, .inl m_zonesAhead)) :: (a_m_nameOne, .inl (ci 0, 20, .inl m_nameOne)) :: Rw) → va_S A s.heap H locs → lv_has ls 10 [(3, .ref a_m_nameOne)] → W p l e ({ frames := 4, cells := 0, slots := 0, locals := 88 } : Room) s m ([.ref a_m, .int p1, .int p2, .ref a_m_nameOne] : List Value).toArray below meth c H locs 0 0 Q (F0 m 22 ls [.int v33, .int 0, .ref a_m_nameOne]) := by
        intro v33 H locs ls hf hP hD hS hl
        have hf := (ek22 v33).symm.trans hf
        refine q_iast (pc := 22) hx hb hK hP hD hS 6 0 hf rfl rfl dX11_spells_22 (fun f34 H locs hf hP hD hS => ?_)
        obtain ⟨hP, hD⟩ : va_PD D A ((a_m, .inr (11, (.ref a_m_cutRows :: .ref a_m_cutColumns :: .ref a_m_deep :: .ref a_m_wide :: .ref a_m_zonesAhead :: .ref a_x_one :: .ref a_m_nameOther :: .ref a_m_tape :: .int m_taped :: .int m_place :: .int m_fault :: .int m_number :: .int m_levelRead :: .int m_keyRead :: .int m_reads :: .int m_faults :: .int m_cutShort :: .int m_noNumber :: .long m_bottomLat :: .long m_bottomLon :: .ref a_m_edges :: .int m_firstBeside :: .int m_manyBeside :: .ref a_m_dist :: .ref a_m_queue :: .int m_queued :: .int m_boxLevel :: .int m_boxTop :: .int m_boxBottom :: .int m_boxWest :: .int m_boxEast :: .int m_isEarly :: .int m_pieces :: .int m_states :: .ref a_m_pieceLevel :: .ref a_m_pieceKey :: .ref a_m_pieceYear :: .int m_drawnNow :: .ref a_m_drawnKeys :: .ref a_m_kept :: .int m_keptAt :: .ref a_m_noNumbers :: []))) :: (a_m_cutRows, .inl (ci 0, 5, .inl m_cutRows)) :: (a_m_cutColumns, .inl (ci 0, 5, .inl m_cutColumns)) :: (a_m_deep, .inl (ci 0, 5, .inl m_deep)) :: (a_m_wide, .inl (ci 0, 5, .inl m_wide)) :: (a_m_zonesAhead, .inl (ci 0, 45, .inl m_zonesAhead)) :: (a_m_nameOne, .inl (ci 0, 20, .inl f34)) :: Rw) H := ⟨hP, hD⟩
        refine lv_aload_n (pc := 23) hx hb dX11_spells_23 rfl (lv_at hl 0 rfl) ?_
        refine lv_iconst (pc := 24) (v := 1) hx hb dX11_spells_24 (by decide) ?_
        refine lv_bipush (pc := 25) (v := 90) hx hb dX11_spells_25 (by decide) ?_
        refine q_iast (pc := 27) hx hb hK hP hD hS 6 0 hf rfl rfl dX11_spells_27 (fun f35 H locs hf hP hD hS => ?_)
        obtain ⟨hP, hD⟩ : va_PD D A ((a_m, .inr (11, (.ref a_m_cutRows :: .ref a_m_cutColumns :: .ref a_m_deep :: .ref a_m_wide :: .ref a_m_zonesAhead :: .ref a_x_one :: .ref a_m_nameOther :: .ref a_m_tape :: .int m_taped :: .int m_place :: .int m_fault :: .int m_number :: .int m_levelRead :: .int m_keyRead :: .int m_reads :: .int m_faults :: .int m_cutShort :: .int m_noNumber :: .long m_bottomLat :: .long m_bottomLon :: .ref a_m_edges :: .int m_firstBeside :: .int m_manyBeside :: .ref a_m_dist :: .ref a_m_queue :: .int m_queued :: .int m_boxLevel :: .int m_boxTop :: .int m_boxBottom :: .int m_boxWest :: .int m_boxEast :: .int m_isEarly :: .int m_pieces :: .int m_states :: .ref a_m_pieceLevel :: .ref a_m_pieceKey :: .ref a_m_pieceYear :: .int m_drawnNow :: .ref a_m_drawnKeys :: .ref a_m_kept :: .int m_keptAt :: .ref a_m_noNumbers :: []))) :: (a_m_cutRows, .inl (ci 0, 5, .inl m_cutRows)) :: (a_m_cutColumns, .inl (ci 0, 5, .inl m_cutColumns)) :: (a_m_deep, .inl (ci 0, 5, .inl m_deep)) :: (a_m_wide, .inl (ci 0, 5, .inl m_wide)) :: (a_m_zonesAhead, .inl (ci 0, 45, .inl m_zonesAhead)) :: (a_m_nameOne, .inl (ci 0, 20, .inl f35)) :: Rw) H := ⟨hP, hD⟩
        refine lv_iconst (pc := 28) (v := 2) hx hb dX11_spells_28 (by decide) ?_
        obtain ⟨rfl, rfl⟩ := q_inj2 (Option.some.inj hf)
        rw [hQ]
        exact q_iret (pc := 29) hx hb hr hlocks hP hD hS dX11_spells_29
      refine q_if_ne (pc := 12) (tgt := 20) hx hb dX11_spells_12 (by decide) rfl hf (fun hf => ?_) (fun hf => ?_)
      · refine lv_bipush (pc := 20) (v := 83) hx hb dX11_spells_20 (by decide) ?_
        exact J22 83 _ _ _ hf hP hD hS (lv_sub hl [3] rfl)
      · refine lv_bipush (pc := 15) (v := 78) hx hb dX11_spells_15 (by decide) ?_
        refine lv_goto (pc := 17) (tgt := 22) hx hb dX11_spells_17 (by decide) ?_
        exact J22 78 _ _ _ hf hP hD hS (lv_sub hl [3] rfl)
  exact hgo _ _ rfl hP hS
/-! X11_before -/
set_option maxRecDepth 100000 in
set_option maxHeartbeats 4000000 in
theorem c_M_before (l : Launch) (D : va_G) (ci : Nat → ClassId) (A : Nat → Prop) (sa : Nat → Nat) (N : Nat) (Rw : va_W) (a_m : Nat) (a_m_cutRows : Nat) (a_m_cutColumns : Nat) (a_m_deep : Nat) (a_m_wide : Nat) (a_m_zonesAhead : Nat) (a_m_nameOne : Nat) (a_m_nameOther : Nat) (a_m_tape : Nat) (a_m_edges : Nat) (a_m_dist : Nat) (a_m_queue : Nat) (a_m_pieceLevel : Nat) (a_m_pieceKey : Nat) (a_m_pieceYear : Nat) (a_m_drawnKeys : Nat) (a_m_kept : Nat) (a_m_noNumbers : Nat) (m_taped : Int32) (m_place : Int32) (m_fault : Int32) (m_number : Int32) (m_levelRead : Int32) (m_keyRead : Int32) (m_reads : Int32) (m_faults : Int32) (m_cutShort : Int32) (m_noNumber : Int32) (m_bottomLat : Int64) (m_bottomLon : Int64) (m_firstBeside : Int32) (m_manyBeside : Int32) (m_queued : Int32) (m_boxLevel : Int32) (m_boxTop : Int32) (m_boxBottom : Int32) (m_boxWest : Int32) (m_boxEast : Int32) (m_isEarly : Int32) (m_pieces : Int32) (m_states : Int32) (m_drawnNow : Int32) (m_keptAt : Int32) (m_cutRows : Nat → Int32) (m_cutColumns : Nat → Int32) (m_deep : Nat → Int32) (m_wide : Nat → Int32) (m_zonesAhead : Nat → Int32) (m_nameOne : Nat → Int32) (m_nameOther : Nat → Int32) (p1 : Int32) (p2 : Int32) (p3 : Int32) (r : Int32) (o1 : Nat → Int32) (o2 : Nat → Int32) (hf : f_M_before N m_cutRows m_cutColumns m_deep m_wide m_zonesAhead m_nameOne m_nameOther p1 p2 p3 = some (r, o1, o2)) : Met l yX11_before wsX11_before ({ frames := 5, cells := 0, slots := 0, locals := 117 }) (va_Pc [.ref a_m, .int p1, .int p2, .int p3] (q_N D ci A sa ((a_m, .inr (11, (.ref a_m_cutRows :: .ref a_m_cutColumns :: .ref a_m_deep :: .ref a_m_wide :: .ref a_m_zonesAhead :: .ref a_m_nameOne :: .ref a_m_nameOther :: .ref a_m_tape :: .int m_taped :: .int m_place :: .int m_fault :: .int m_number :: .int m_levelRead :: .int m_keyRead :: .int m_reads :: .int m_faults :: .int m_cutShort :: .int m_noNumber :: .long m_bottomLat :: .long m_bottomLon :: .ref a_m_edges :: .int m_firstBeside :: .int m_manyBeside :: .ref a_m_dist :: .ref a_m_queue :: .int m_queued :: .int m_boxLevel :: .int m_boxTop :: .int m_boxBottom :: .int m_boxWest :: .int m_boxEast :: .int m_isEarly :: .int m_pieces :: .int m_states :: .ref a_m_pieceLevel :: .ref a_m_pieceKey :: .ref a_m_pieceYear :: .int m_drawnNow :: .ref a_m_drawnKeys :: .ref a_m_kept :: .int m_keptAt :: .ref a_m_noNumbers :: []))) :: (a_m_cutRows, .inl (ci 0, 5, .inl m_cutRows)) :: (a_m_cutColumns, .inl (ci 0, 5, .inl m_cutColumns)) :: (a_m_deep, .inl (ci 0, 5, .inl m_deep)) :: (a_m_wide, .inl (ci 0, 5, .inl m_wide)) :: (a_m_zonesAhead, .inl (ci 0, 45, .inl m_zonesAhead)) :: (a_m_nameOne, .inl (ci 0, 20, .inl m_nameOne)) :: (a_m_nameOther, .inl (ci 0, 20, .inl m_nameOther)) :: Rw))) (q_Q (some (.int r)) (q_O D A ((a_m, .inr (11, (.ref a_m_cutRows :: .ref a_m_cutColumns :: .ref a_m_deep :: .ref a_m_wide :: .ref a_m_zonesAhead :: .ref a_m_nameOne :: .ref a_m_nameOther :: .ref a_m_tape :: .int m_taped :: .int m_place :: .int m_fault :: .int m_number :: .int m_levelRead :: .int m_keyRead :: .int m_reads :: .int m_faults :: .int m_cutShort :: .int m_noNumber :: .long m_bottomLat :: .long m_bottomLon :: .ref a_m_edges :: .int m_firstBeside :: .int m_manyBeside :: .ref a_m_dist :: .ref a_m_queue :: .int m_queued :: .int m_boxLevel :: .int m_boxTop :: .int m_boxBottom :: .int m_boxWest :: .int m_boxEast :: .int m_isEarly :: .int m_pieces :: .int m_states :: .ref a_m_pieceLevel :: .ref a_m_pieceKey :: .ref a_m_pieceYear :: .int m_drawnNow :: .ref a_m_drawnKeys :: .ref a_m_kept :: .int m_keptAt :: .ref a_m_noNumbers :: []))) :: (a_m_cutRows, .inl (ci 0, 5, .inl m_cutRows)) :: (a_m_cutColumns, .inl (ci 0, 5, .inl m_cutColumns)) :: (a_m_deep, .inl (ci 0, 5, .inl m_deep)) :: (a_m_wide, .inl (ci 0, 5, .inl m_wide)) :: (a_m_zonesAhead, .inl (ci 0, 45, .inl m_zonesAhead)) :: (a_m_nameOne, .inl (ci 0, 20, .inl o1)) :: (a_m_nameOther, .inl (ci 0, 20, .inl o2)) :: Rw)) A) 0 0 A := by
  refine q_ofW (cc := cX11_before) (maxL := 7) (ret := (some .int)) [.ref a_m, .int p1, .int p2, .int p3] (plainFor_of_name (by decide)) rfl (Nat.le_of_ble_eq_true rfl) ?_
  intro p e s m below meth c ls Q hQ hx hb hml hr hts hown hlocks hK hA hZ hP hD hS hl
  have hl : lv_has ls 7 [(0, .ref a_m), (1, .int p1), (2, .int p2), (3, .int p3)] := hl
  have hown : s.vm.findClass RX11 = some m.cls := hown
  have hinX11 : ∀ w ∈ wsX110, w ∈ wsX11_before := fun _ h => List.mem_cons_of_mem _ (inWX110 _ h)
  have w_1 := hts (Cond.constant RX11 253 (-1000000)) (List.mem_cons_of_mem _ t_w967)
  have w_2 := hts (Cond.fieldLink RX11 25 "SheetNamesModel" "nameOne" "[I") (List.mem_cons_of_mem _ t_w968)
  have w_3 := hts (Cond.fieldLink RX11 28 "SheetNamesModel" "nameOther" "[I") (List.mem_cons_of_mem _ t_w969)
  unfold f_M_before at hf
  have hgo : ∀ (H : Heap) (locs : List Loc), H = s.heap → va_P D vwCl ((a_m, .inr (11, (.ref a_m_cutRows :: .ref a_m_cutColumns :: .ref a_m_deep :: .ref a_m_wide :: .ref a_m_zonesAhead :: .ref a_m_nameOne :: .ref a_m_nameOther :: .ref a_m_tape :: .int m_taped :: .int m_place :: .int m_fault :: .int m_number :: .int m_levelRead :: .int m_keyRead :: .int m_reads :: .int m_faults :: .int m_cutShort :: .int m_noNumber :: .long m_bottomLat :: .long m_bottomLon :: .ref a_m_edges :: .int m_firstBeside :: .int m_manyBeside :: .ref a_m_dist :: .ref a_m_queue :: .int m_queued :: .int m_boxLevel :: .int m_boxTop :: .int m_boxBottom :: .int m_boxWest :: .int m_boxEast :: .int m_isEarly :: .int m_pieces :: .int m_states :: .ref a_m_pieceLevel :: .ref a_m_pieceKey :: .ref a_m_pieceYear :: .int m_drawnNow :: .ref a_m_drawnKeys :: .ref a_m_kept :: .int m_keptAt :: .ref a_m_noNumbers :: []))) :: (a_m_cutRows, .inl (ci 0, 5, .inl m_cutRows)) :: (a_m_cutColumns, .inl (ci 0, 5, .inl m_cutColumns)) :: (a_m_deep, .inl (ci 0, 5, .inl m_deep)) :: (a_m_wide, .inl (ci 0, 5, .inl m_wide)) :: (a_m_zonesAhead, .inl (ci 0, 45, .inl m_zonesAhead)) :: (a_m_nameOne, .inl (ci 0, 20, .inl m_nameOne)) :: (a_m_nameOther, .inl (ci 0, 20, .inl m_nameOther)) :: Rw) H → va_S A s.heap H locs → W p l e ({ frames := 5, cells := 0, slots := 0, locals := 117 } : Room) s m ([.ref a_m, .int p1, .int p2, .int p3] : List Value).toArray below meth c H locs 0 0 Q (F0 m 0 ls []) := by
    intro H locs hH hP hS
    refine lv_aload_n (pc := 0) hx hb dX11_before_0 rfl (lv_at hl 0 rfl) ?_
    refine lv_iload_n (pc := 1) hx hb dX11_before_1 rfl (lv_at hl 1 rfl) ?_
    refine lv_iload_n (pc := 2) hx hb dX11_before_2 rfl (lv_at hl 2 rfl) ?_
    obtain ⟨v1, hm3, hf⟩ := q_b1_e hf
    refine q_cVr (pc := 3) (As := [.int p1, .int p2]) (rest := []) (v0 := (some (.int v1))) ⟨hx, hb, hml, hown, hts⟩ hK hA hZ hP hD hS hl.1 [0, 3, 4, 5] 8 rfl ⟨rfl, rfl, rfl⟩ (c_M_isKey l D ci A sa N (Rw) a_m a_m_cutRows a_m_cutColumns a_m_deep a_m_wide a_m_zonesAhead a_m_nameOne a_m_nameOther a_m_tape a_m_edges a_m_dist a_m_queue a_m_pieceLevel a_m_pieceKey a_m_pieceYear a_m_drawnKeys a_m_kept a_m_noNumbers m_taped m_place m_fault m_number m_levelRead m_keyRead m_reads m_faults m_cutShort m_noNumber m_bottomLat m_bottomLon m_firstBeside m_manyBeside m_queued m_boxLevel m_boxTop m_boxBottom m_boxWest m_boxEast m_isEarly m_pieces m_states m_drawnNow m_keptAt m_deep m_wide m_zonesAhead p1 p2 v1 hm3) 0 rfl rfl (cwV 2 hts gX11_before_X11_isKey rfl rfl rfl (by decide +kernel) ⟨Nat.le_of_ble_eq_true rfl, Nat.le_of_ble_eq_true rfl⟩) rfl rfl (Nat.le_of_ble_eq_true rfl) dX11_before_3 ⟨Nat.zero_le _, Nat.zero_le _⟩ (fun locs hS => ?_)
    refine q_if_eq (pc := 6) (tgt := 18) hx hb dX11_before_6 (by decide) rfl hf (fun hf => ?_) (fun hf => ?_)
    · refine lv_ldc (pc := 18) (v := (-1000000)) hx hb hown w_1 dX11_before_18 ?_
      obtain ⟨e90, e91, e92⟩ := q_inj3 (Option.some.inj hf)
      rw [hQ, ← e90, ← e91, ← e92]
      exact q_iret (pc := 20) hx hb hr hlocks hP hD hS dX11_before_20
    · refine lv_aload_n (pc := 9) hx hb dX11_before_9 rfl (lv_at hl 0 rfl) ?_
      refine lv_iload_n (pc := 10) hx hb dX11_before_10 rfl (lv_at hl 1 rfl) ?_
      refine lv_iload_n (pc := 11) hx hb dX11_before_11 rfl (lv_at hl 3 rfl) ?_
      obtain ⟨v2, hm12, hf⟩ := q_b1_e hf
      refine q_cVr (pc := 12) (As := [.int p1, .int p3]) (rest := []) (v0 := (some (.int v2))) ⟨hx, hb, hml, hown, hts⟩ hK hA hZ hP hD hS hl.1 [0, 3, 4, 5] 8 rfl ⟨rfl, rfl, rfl⟩ (c_M_isKey l D ci A sa N (Rw) a_m a_m_cutRows a_m_cutColumns a_m_deep a_m_wide a_m_zonesAhead a_m_nameOne a_m_nameOther a_m_tape a_m_edges a_m_dist a_m_queue a_m_pieceLevel a_m_pieceKey a_m_pieceYear a_m_drawnKeys a_m_kept a_m_noNumbers m_taped m_place m_fault m_number m_levelRead m_keyRead m_reads m_faults m_cutShort m_noNumber m_bottomLat m_bottomLon m_firstBeside m_manyBeside m_queued m_boxLevel m_boxTop m_boxBottom m_boxWest m_boxEast m_isEarly m_pieces m_states m_drawnNow m_keptAt m_deep m_wide m_zonesAhead p1 p3 v2 hm12) 0 rfl rfl (cwV 2 hts gX11_before_X11_isKey rfl rfl rfl (by decide +kernel) ⟨Nat.le_of_ble_eq_true rfl, Nat.le_of_ble_eq_true rfl⟩) rfl rfl (Nat.le_of_ble_eq_true rfl) dX11_before_12 ⟨Nat.zero_le _, Nat.zero_le _⟩ (fun locs hS => ?_)
      refine q_if_ne (pc := 15) (tgt := 21) hx hb dX11_before_15 (by decide) rfl hf (fun hf => ?_) (fun hf => ?_)
      · refine lv_aload_n (pc := 21) hx hb dX11_before_21 rfl (lv_at hl 0 rfl) ?_
        refine lv_iload_n (pc := 22) hx hb dX11_before_22 rfl (lv_at hl 1 rfl) ?_
        refine lv_iload_n (pc := 23) hx hb dX11_before_23 rfl (lv_at hl 2 rfl) ?_
        refine lv_aload_n (pc := 24) hx hb dX11_before_24 rfl (lv_at hl 0 rfl) ?_
        refine va_get (pc := 25) (D := D) (ci := 11) (v := .ref a_m_nameOne) (C := RX11) (T := TX11) (N := 42) hx hb hts hinX11 hown hK hP 0 rfl rfl 5 (by decide) w_2 (fun _ h9 => h9) rfl dX11_before_25 ?_
        obtain ⟨v3, f4, hm28, hf⟩ := q_b2_e hf
        refine q_cV (pc := 28) (As := [.int p1, .int p2, .ref a_m_nameOne]) (rest := []) (v0 := (some (.int v3))) ⟨hx, hb, hml, hown, hts⟩ hK hA hZ hP hD hS hl.1 [0, 1, 2, 3, 4, 5, 6, 7] 8 rfl ⟨rfl, rfl, rfl⟩ (c_M_spells l D ci A sa N ((a_m_nameOther, .inl (ci 0, 20, .inl m_nameOther)) :: Rw) a_m a_m_cutRows a_m_cutColumns a_m_deep a_m_wide a_m_zonesAhead a_m_nameOne a_m_nameOne a_m_nameOther a_m_tape a_m_edges a_m_dist a_m_queue a_m_pieceLevel a_m_pieceKey a_m_pieceYear a_m_drawnKeys a_m_kept a_m_noNumbers m_taped m_place m_fault m_number m_levelRead m_keyRead m_reads m_faults m_cutShort m_noNumber m_bottomLat m_bottomLon m_firstBeside m_manyBeside m_queued m_boxLevel m_boxTop m_boxBottom m_boxWest m_boxEast m_isEarly m_pieces m_states m_drawnNow m_keptAt m_cutRows m_cutColumns m_deep m_wide m_zonesAhead m_nameOne p1 p2 v3 f4 hm28) 0 rfl rfl (cwV 3 hts gX11_before_X11_spells rfl rfl rfl (by decide +kernel) ⟨Nat.le_of_ble_eq_true rfl, Nat.le_of_ble_eq_true rfl⟩) rfl rfl (Nat.le_of_ble_eq_true rfl) dX11_before_28 ⟨Nat.zero_le _, Nat.zero_le _⟩ [0, 1, 2, 3, 4, 5, 6, 7] 8 rfl ⟨rfl, rfl, rfl⟩ (fun H locs hP hD hS => ?_)
        obtain ⟨hP, hD⟩ : va_PD D A ((a_m, .inr (11, (.ref a_m_cutRows :: .ref a_m_cutColumns :: .ref a_m_deep :: .ref a_m_wide :: .ref a_m_zonesAhead :: .ref a_m_nameOne :: .ref a_m_nameOther :: .ref a_m_tape :: .int m_taped :: .int m_place :: .int m_fault :: .int m_number :: .int m_levelRead :: .int m_keyRead :: .int m_reads :: .int m_faults :: .int m_cutShort :: .int m_noNumber :: .long m_bottomLat :: .long m_bottomLon :: .ref a_m_edges :: .int m_firstBeside :: .int m_manyBeside :: .ref a_m_dist :: .ref a_m_queue :: .int m_queued :: .int m_boxLevel :: .int m_boxTop :: .int m_boxBottom :: .int m_boxWest :: .int m_boxEast :: .int m_isEarly :: .int m_pieces :: .int m_states :: .ref a_m_pieceLevel :: .ref a_m_pieceKey :: .ref a_m_pieceYear :: .int m_drawnNow :: .ref a_m_drawnKeys :: .ref a_m_kept :: .int m_keptAt :: .ref a_m_noNumbers :: []))) :: (a_m_cutRows, .inl (ci 0, 5, .inl m_cutRows)) :: (a_m_cutColumns, .inl (ci 0, 5, .inl m_cutColumns)) :: (a_m_deep, .inl (ci 0, 5, .inl m_deep)) :: (a_m_wide, .inl (ci 0, 5, .inl m_wide)) :: (a_m_zonesAhead, .inl (ci 0, 45, .inl m_zonesAhead)) :: (a_m_nameOne, .inl (ci 0, 20, .inl f4)) :: (a_m_nameOther, .inl (ci 0, 20, .inl m_nameOther)) :: Rw) H := ⟨hP, hD⟩
        refine lv_istore (pc := 31) (lv' := [(4, .int v3), (0, .ref a_m), (1, .int p1), (2, .int p2), (3, .int p3)]) hx hb dX11_before_31 hl (by decide) rfl (fun ls hl => ?_)
        refine lv_aload_n (pc := 33) hx hb dX11_before_33 rfl (lv_at hl 1 rfl) ?_
        refine lv_iload_n (pc := 34) hx hb dX11_before_34 rfl (lv_at hl 2 rfl) ?_
        refine lv_iload_n (pc := 35) hx hb dX11_before_35 rfl (lv_at hl 4 rfl) ?_
        refine lv_aload_n (pc := 36) hx hb dX11_before_36 rfl (lv_at hl 1 rfl) ?_
        refine va_get (pc := 37) (D := D) (ci := 11) (v := .ref a_m_nameOther) (C := RX11) (T := TX11) (N := 42) hx hb hts hinX11 hown hK hP 0 rfl rfl 6 (by decide) w_3 (fun _ h9 => h9) rfl dX11_before_37 ?_
        obtain ⟨v5, f6, hm40, hf⟩ := q_b2_e hf
        refine q_cV (pc := 40) (As := [.int p1, .int p3, .ref a_m_nameOther]) (rest := []) (v0 := (some (.int v5))) ⟨hx, hb, hml, hown, hts⟩ hK hA hZ hP hD hS hl.1 [0, 1, 2, 3, 4, 5, 7, 6] 8 rfl ⟨rfl, rfl, rfl⟩ (c_M_spells l D ci A sa N ((a_m_nameOne, .inl (ci 0, 20, .inl f4)) :: Rw) a_m a_m_cutRows a_m_cutColumns a_m_deep a_m_wide a_m_zonesAhead a_m_nameOther a_m_nameOne a_m_nameOther a_m_tape a_m_edges a_m_dist a_m_queue a_m_pieceLevel a_m_pieceKey a_m_pieceYear a_m_drawnKeys a_m_kept a_m_noNumbers m_taped m_place m_fault m_number m_levelRead m_keyRead m_reads m_faults m_cutShort m_noNumber m_bottomLat m_bottomLon m_firstBeside m_manyBeside m_queued m_boxLevel m_boxTop m_boxBottom m_boxWest m_boxEast m_isEarly m_pieces m_states m_drawnNow m_keptAt m_cutRows m_cutColumns m_deep m_wide m_zonesAhead m_nameOther p1 p3 v5 f6 hm40) 0 rfl rfl (cwV 3 hts gX11_before_X11_spells rfl rfl rfl (by decide +kernel) ⟨Nat.le_of_ble_eq_true rfl, Nat.le_of_ble_eq_true rfl⟩) rfl rfl (Nat.le_of_ble_eq_true rfl) dX11_before_40 ⟨Nat.zero_le _, Nat.zero_le _⟩ [0, 1, 2, 3, 4, 5, 7, 6] 8 rfl ⟨rfl, rfl, rfl⟩ (fun H locs hP hD hS => ?_)
        obtain ⟨hP, hD⟩ : va_PD D A ((a_m, .inr (11, (.ref a_m_cutRows :: .ref a_m_cutColumns :: .ref a_m_deep :: .ref a_m_wide :: .ref a_m_zonesAhead :: .ref a_m_nameOne :: .ref a_m_nameOther :: .ref a_m_tape :: .int m_taped :: .int m_place :: .int m_fault :: .int m_number :: .int m_levelRead :: .int m_keyRead :: .int m_reads :: .int m_faults :: .int m_cutShort :: .int m_noNumber :: .long m_bottomLat :: .long m_bottomLon :: .ref a_m_edges :: .int m_firstBeside :: .int m_manyBeside :: .ref a_m_dist :: .ref a_m_queue :: .int m_queued :: .int m_boxLevel :: .int m_boxTop :: .int m_boxBottom :: .int m_boxWest :: .int m_boxEast :: .int m_isEarly :: .int m_pieces :: .int m_states :: .ref a_m_pieceLevel :: .ref a_m_pieceKey :: .ref a_m_pieceYear :: .int m_drawnNow :: .ref a_m_drawnKeys :: .ref a_m_kept :: .int m_keptAt :: .ref a_m_noNumbers :: []))) :: (a_m_cutRows, .inl (ci 0, 5, .inl m_cutRows)) :: (a_m_cutColumns, .inl (ci 0, 5, .inl m_cutColumns)) :: (a_m_deep, .inl (ci 0, 5, .inl m_deep)) :: (a_m_wide, .inl (ci 0, 5, .inl m_wide)) :: (a_m_zonesAhead, .inl (ci 0, 45, .inl m_zonesAhead)) :: (a_m_nameOne, .inl (ci 0, 20, .inl f4)) :: (a_m_nameOther, .inl (ci 0, 20, .inl f6)) :: Rw) H := ⟨hP, hD⟩
        refine lv_istore (pc := 43) (lv' := [(5, .int v5), (4, .int v3), (0, .ref a_m), (1, .int p1), (2, .int p2), (3, .int p3)]) hx hb dX11_before_43 hl (by decide) rfl (fun ls hl => ?_)
        refine lv_iconst (pc := 45) (v := 0) hx hb dX11_before_45 (by decide) ?_
        obtain ⟨v7, ev7, hf⟩ := q_nm_e hf
        refine q_topi ev7 ?_
        refine lv_istore (pc := 46) (lv' := [(6, .int v7), (5, .int v5), (4, .int v3), (0, .ref a_m), (1, .int p1), (2, .int p2), (3, .int p3)]) hx hb dX11_before_46 hl (by decide) rfl (fun ls hl => ?_)
        obtain ⟨k48, o48_, ek48, hm48, hk48⟩ := q_s0_k hf
        have JE48 : ∀  (H : Heap) (locs : List Loc) (ls : Array Slot), k48 = some (r, o1, o2) → va_P D vwCl ((a_m, .inr (11, (.ref a_m_cutRows :: .ref a_m_cutColumns :: .ref a_m_deep :: .ref a_m_wide :: .ref a_m_zonesAhead :: .ref a_m_nameOne :: .ref a_m_nameOther :: .ref a_m_tape :: .int m_taped :: .int m_place :: .int m_fault :: .int m_number :: .int m_levelRead :: .int m_keyRead :: .int m_reads :: .int m_faults :: .int m_cutShort :: .int m_noNumber :: .long m_bottomLat :: .long m_bottomLon :: .ref a_m_edges :: .int m_firstBeside :: .int m_manyBeside :: .ref a_m_dist :: .ref a_m_queue :: .int m_queued :: .int m_boxLevel :: .int m_boxTop :: .int m_boxBottom :: .int m_boxWest :: .int m_boxEast :: .int m_isEarly :: .int m_pieces :: .int m_states :: .ref a_m_pieceLevel :: .ref a_m_pieceKey :: .ref a_m_pieceYear :: .int m_drawnNow :: .ref a_m_drawnKeys :: .ref a_m_kept :: .int m_keptAt :: .ref a_m_noNumbers :: []))) :: (a_m_cutRows, .inl (ci 0, 5, .inl m_cutRows)) :: (a_m_cutColumns, .inl (ci 0, 5, .inl m_cutColumns)) :: (a_m_deep, .inl (ci 0, 5, .inl m_deep)) :: (a_m_wide, .inl (ci 0, 5, .inl m_wide)) :: (a_m_zonesAhead, .inl (ci 0, 45, .inl m_zonesAhead)) :: (a_m_nameOne, .inl (ci 0, 20, .inl f4)) :: (a_m_nameOther, .inl (ci 0, 20, .inl f6)) :: Rw) H → va_D A ((a_m, .inr (11, (.ref a_m_cutRows :: .ref a_m_cutColumns :: .ref a_m_deep :: .ref a_m_wide :: .ref a_m_zonesAhead :: .ref a_m_nameOne :: .ref a_m_nameOther :: .ref a_m_tape :: .int m_taped :: .int m_place :: .int m_fault :: .int m_number :: .int m_levelRead :: .int m_keyRead :: .int m_reads :: .int m_faults :: .int m_cutShort :: .int m_noNumber :: .long m_bottomLat :: .long m_bottomLon :: .ref a_m_edges :: .int m_firstBeside :: .int m_manyBeside :: .ref a_m_dist :: .ref a_m_queue :: .int m_queued :: .int m_boxLevel :: .int m_boxTop :: .int m_boxBottom :: .int m_boxWest :: .int m_boxEast :: .int m_isEarly :: .int m_pieces :: .int m_states :: .ref a_m_pieceLevel :: .ref a_m_pieceKey :: .ref a_m_pieceYear :: .int m_drawnNow :: .ref a_m_drawnKeys :: .ref a_m_kept :: .int m_keptAt :: .ref a_m_noNumbers :: []))) :: (a_m_cutRows, .inl (ci 0, 5, .inl m_cutRows)) :: (a_m_cutColumns, .inl (ci 0, 5, .inl m_cutColumns)) :: (a_m_deep, .inl (ci 0, 5, .inl m_deep)) :: (a_m_wide, .inl (ci 0, 5, .inl m_wide)) :: (a_m_zonesAhead, .inl (ci 0, 45, .inl m_zonesAhead)) :: (a_m_nameOne, .inl (ci 0, 20, .inl f4)) :: (a_m_nameOther, .inl (ci 0, 20, .inl f6)) :: Rw) → va_S A s.heap H locs → lv_has ls 7 [(4, .int v3), (5, .int v5)] → W p l e ({ frames := 5, cells := 0, slots := 0, locals := 117 } : Room) s m ([.ref a_m, .int p1, .int p2, .int p3] : List Value).toArray below meth c H locs 0 0 Q (F0 m 108 ls []) := by
          intro  H locs ls hf hP hD hS hl
          have hf := (ek48).symm.trans hf
          refine lv_iload (pc := 108) hx hb dX11_before_108 (lv_at hl 0 rfl) ?_
          refine lv_iload (pc := 110) hx hb dX11_before_110 (lv_at hl 1 rfl) ?_
          refine q_icmp_ge (pc := 112) (tgt := 119) hx hb dX11_before_112 (by decide) rfl hf (fun hf => ?_) (fun hf => ?_)
          · refine lv_iload (pc := 119) hx hb dX11_before_119 (lv_at hl 0 rfl) ?_
            refine lv_iload (pc := 121) hx hb dX11_before_121 (lv_at hl 1 rfl) ?_
            refine q_icmp_le (pc := 123) (tgt := 130) hx hb dX11_before_123 (by decide) rfl hf (fun hf => ?_) (fun hf => ?_)
            · refine lv_iconst (pc := 130) (v := 0) hx hb dX11_before_130 (by decide) ?_
              obtain ⟨e90, e91, e92⟩ := q_inj3 (Option.some.inj hf)
              rw [hQ, ← e90, ← e91, ← e92]
              exact q_iret (pc := 131) hx hb hr hlocks hP hD hS dX11_before_131
            · refine lv_iconst (pc := 126) (v := 1) hx hb dX11_before_126 (by decide) ?_
              refine lv_goto (pc := 127) (tgt := 131) hx hb dX11_before_127 (by decide) ?_
              obtain ⟨e90, e91, e92⟩ := q_inj3 (Option.some.inj hf)
              rw [hQ, ← e90, ← e91, ← e92]
              exact q_iret (pc := 131) hx hb hr hlocks hP hD hS dX11_before_131
          · refine lv_iconst (pc := 115) (v := (-1)) hx hb dX11_before_115 (by decide) ?_
            refine lv_goto (pc := 116) (tgt := 131) hx hb dX11_before_116 (by decide) ?_
            obtain ⟨e90, e91, e92⟩ := q_inj3 (Option.some.inj hf)
            rw [hQ, ← e90, ← e91, ← e92]
            exact q_iret (pc := 131) hx hb hr hlocks hP hD hS dX11_before_131
        have LP48 : ∀ (n48 : Nat) (v8 : Int32) (H : Heap) (locs : List Loc) (ls : Array Slot), f_M_before_L48 f4 f6 v3 v5 n48 v8 = some o48_ → va_P D vwCl ((a_m, .inr (11, (.ref a_m_cutRows :: .ref a_m_cutColumns :: .ref a_m_deep :: .ref a_m_wide :: .ref a_m_zonesAhead :: .ref a_m_nameOne :: .ref a_m_nameOther :: .ref a_m_tape :: .int m_taped :: .int m_place :: .int m_fault :: .int m_number :: .int m_levelRead :: .int m_keyRead :: .int m_reads :: .int m_faults :: .int m_cutShort :: .int m_noNumber :: .long m_bottomLat :: .long m_bottomLon :: .ref a_m_edges :: .int m_firstBeside :: .int m_manyBeside :: .ref a_m_dist :: .ref a_m_queue :: .int m_queued :: .int m_boxLevel :: .int m_boxTop :: .int m_boxBottom :: .int m_boxWest :: .int m_boxEast :: .int m_isEarly :: .int m_pieces :: .int m_states :: .ref a_m_pieceLevel :: .ref a_m_pieceKey :: .ref a_m_pieceYear :: .int m_drawnNow :: .ref a_m_drawnKeys :: .ref a_m_kept :: .int m_keptAt :: .ref a_m_noNumbers :: []))) :: (a_m_cutRows, .inl (ci 0, 5, .inl m_cutRows)) :: (a_m_cutColumns, .inl (ci 0, 5, .inl m_cutColumns)) :: (a_m_deep, .inl (ci 0, 5, .inl m_deep)) :: (a_m_wide, .inl (ci 0, 5, .inl m_wide)) :: (a_m_zonesAhead, .inl (ci 0, 45, .inl m_zonesAhead)) :: (a_m_nameOne, .inl (ci 0, 20, .inl f4)) :: (a_m_nameOther, .inl (ci 0, 20, .inl f6)) :: Rw) H → va_D A ((a_m, .inr (11, (.ref a_m_cutRows :: .ref a_m_cutColumns :: .ref a_m_deep :: .ref a_m_wide :: .ref a_m_zonesAhead :: .ref a_m_nameOne :: .ref a_m_nameOther :: .ref a_m_tape :: .int m_taped :: .int m_place :: .int m_fault :: .int m_number :: .int m_levelRead :: .int m_keyRead :: .int m_reads :: .int m_faults :: .int m_cutShort :: .int m_noNumber :: .long m_bottomLat :: .long m_bottomLon :: .ref a_m_edges :: .int m_firstBeside :: .int m_manyBeside :: .ref a_m_dist :: .ref a_m_queue :: .int m_queued :: .int m_boxLevel :: .int m_boxTop :: .int m_boxBottom :: .int m_boxWest :: .int m_boxEast :: .int m_isEarly :: .int m_pieces :: .int m_states :: .ref a_m_pieceLevel :: .ref a_m_pieceKey :: .ref a_m_pieceYear :: .int m_drawnNow :: .ref a_m_drawnKeys :: .ref a_m_kept :: .int m_keptAt :: .ref a_m_noNumbers :: []))) :: (a_m_cutRows, .inl (ci 0, 5, .inl m_cutRows)) :: (a_m_cutColumns, .inl (ci 0, 5, .inl m_cutColumns)) :: (a_m_deep, .inl (ci 0, 5, .inl m_deep)) :: (a_m_wide, .inl (ci 0, 5, .inl m_wide)) :: (a_m_zonesAhead, .inl (ci 0, 45, .inl m_zonesAhead)) :: (a_m_nameOne, .inl (ci 0, 20, .inl f4)) :: (a_m_nameOther, .inl (ci 0, 20, .inl f6)) :: Rw) → va_S A s.heap H locs → lv_has ls 7 [(0, .ref a_m), (4, .int v3), (5, .int v5), (6, .int v8)] → W p l e ({ frames := 5, cells := 0, slots := 0, locals := 117 } : Room) s m ([.ref a_m, .int p1, .int p2, .int p3] : List Value).toArray below meth c H locs 0 0 Q (F0 m 48 ls []) := by
          intro n48
          induction n48 with
          | zero => intro v8 H locs ls hf; rw [f_M_before_L48] at hf; cases hf
          | succ n48 ih48 =>
            intro v8 H locs ls hf hP hD hS hl
            rw [f_M_before_L48] at hf
            refine lv_iload (pc := 48) hx hb dX11_before_48 (lv_at hl 3 rfl) ?_
            refine lv_iload (pc := 50) hx hb dX11_before_50 (lv_at hl 1 rfl) ?_
            refine q_icmp_ge (pc := 52) (tgt := 108) hx hb dX11_before_52 (by decide) rfl hf (fun hf => ?_) (fun hf => ?_)
            · obtain rfl := Option.some.inj hf
              exact JE48  _ _ _ hk48 hP hD hS (lv_sub hl [1, 2] rfl)
            · refine lv_iload (pc := 55) hx hb dX11_before_55 (lv_at hl 3 rfl) ?_
              refine lv_iload (pc := 57) hx hb dX11_before_57 (lv_at hl 2 rfl) ?_
              refine q_icmp_ge (pc := 59) (tgt := 108) hx hb dX11_before_59 (by decide) rfl hf (fun hf => ?_) (fun hf => ?_)
              · obtain rfl := Option.some.inj hf
                exact JE48  _ _ _ hk48 hP hD hS (lv_sub hl [1, 2] rfl)
              · refine lv_aload_n (pc := 62) hx hb dX11_before_62 rfl (lv_at hl 0 rfl) ?_
                refine va_get (pc := 63) (D := D) (ci := 11) (v := .ref a_m_nameOne) (C := RX11) (T := TX11) (N := 42) hx hb hts hinX11 hown hK hP 0 rfl rfl 5 (by decide) w_2 (fun _ h9 => h9) rfl dX11_before_63 ?_
                refine lv_iload (pc := 66) hx hb dX11_before_66 (lv_at hl 3 rfl) ?_
                refine q_iald (pc := 68) hx hb hK hP 6 0 hf rfl rfl dX11_before_68 (fun v9 hf => ?_)
                refine lv_aload_n (pc := 69) hx hb dX11_before_69 rfl (lv_at hl 0 rfl) ?_
                refine va_get (pc := 70) (D := D) (ci := 11) (v := .ref a_m_nameOther) (C := RX11) (T := TX11) (N := 42) hx hb hts hinX11 hown hK hP 0 rfl rfl 6 (by decide) w_3 (fun _ h9 => h9) rfl dX11_before_70 ?_
                refine lv_iload (pc := 73) hx hb dX11_before_73 (lv_at hl 3 rfl) ?_
                refine q_iald (pc := 75) hx hb hK hP 7 0 hf rfl rfl dX11_before_75 (fun v10 hf => ?_)
                refine q_icmp_eq (pc := 76) (tgt := 102) hx hb dX11_before_76 (by decide) rfl hf (fun hf => ?_) (fun hf => ?_)
                · obtain ⟨v11, ev11, hf⟩ := q_nm_e hf
                  refine lv_iinc (pc := 102) (v := v11) (lv' := [(6, .int v11), (0, .ref a_m), (4, .int v3), (5, .int v5)]) hx hb dX11_before_102 hl (k := 3) rfl (by rw [ev11]; rfl) (by decide) rfl (fun ls hl => ?_)
                  refine lv_goto (pc := 105) (tgt := 48) hx hb dX11_before_105 (by decide) ?_
                  exact ih48 v11 _ _ _ hf hP hD hS (lv_sub hl [1, 2, 3, 0] rfl)
                · refine lv_aload_n (pc := 79) hx hb dX11_before_79 rfl (lv_at hl 0 rfl) ?_
                  refine va_get (pc := 80) (D := D) (ci := 11) (v := .ref a_m_nameOne) (C := RX11) (T := TX11) (N := 42) hx hb hts hinX11 hown hK hP 0 rfl rfl 5 (by decide) w_2 (fun _ h9 => h9) rfl dX11_before_80 ?_
                  refine lv_iload (pc := 83) hx hb dX11_before_83 (lv_at hl 3 rfl) ?_
                  refine q_iald (pc := 85) hx hb hK hP 6 0 hf rfl rfl dX11_before_85 (fun v12 hf => ?_)
                  refine lv_aload_n (pc := 86) hx hb dX11_before_86 rfl (lv_at hl 0 rfl) ?_
                  refine va_get (pc := 87) (D := D) (ci := 11) (v := .ref a_m_nameOther) (C := RX11) (T := TX11) (N := 42) hx hb hts hinX11 hown hK hP 0 rfl rfl 6 (by decide) w_3 (fun _ h9 => h9) rfl dX11_before_87 ?_
                  refine lv_iload (pc := 90) hx hb dX11_before_90 (lv_at hl 3 rfl) ?_
                  refine q_iald (pc := 92) hx hb hK hP 7 0 hf rfl rfl dX11_before_92 (fun v13 hf => ?_)
                  refine q_icmp_ge (pc := 93) (tgt := 100) hx hb dX11_before_93 (by decide) rfl hf (fun hf => ?_) (fun hf => ?_)
                  · refine lv_iconst (pc := 100) (v := 1) hx hb dX11_before_100 (by decide) ?_
                    obtain rfl := Option.some.inj hf
                    have hk48 : ((1, f4, f6) : Int32 × (Nat → Int32) × (Nat → Int32)) = (r, o1, o2) := hk48
                    obtain ⟨e90, e91, e92⟩ := q_inj3 (hk48)
                    rw [hQ, ← e90, ← e91, ← e92]
                    exact q_iret (pc := 101) hx hb hr hlocks hP hD hS dX11_before_101
                  · refine lv_iconst (pc := 96) (v := (-1)) hx hb dX11_before_96 (by decide) ?_
                    refine lv_goto (pc := 97) (tgt := 101) hx hb dX11_before_97 (by decide) ?_
                    obtain rfl := Option.some.inj hf
                    have hk48 : (((-1), f4, f6) : Int32 × (Nat → Int32) × (Nat → Int32)) = (r, o1, o2) := hk48
                    obtain ⟨e90, e91, e92⟩ := q_inj3 (hk48)
                    rw [hQ, ← e90, ← e91, ← e92]
                    exact q_iret (pc := 101) hx hb hr hlocks hP hD hS dX11_before_101
        exact LP48 N v7 _ _ _ hm48 hP hD hS (lv_sub hl [3, 2, 1, 0] rfl)
      · refine lv_ldc (pc := 18) (v := (-1000000)) hx hb hown w_1 dX11_before_18 ?_
        obtain ⟨e90, e91, e92⟩ := q_inj3 (Option.some.inj hf)
        rw [hQ, ← e90, ← e91, ← e92]
        exact q_iret (pc := 20) hx hb hr hlocks hP hD hS dX11_before_20
  exact hgo _ _ rfl hP hS
/-! X11_between -/
set_option maxRecDepth 100000 in
set_option maxHeartbeats 4000000 in
theorem c_M_between (l : Launch) (D : va_G) (ci : Nat → ClassId) (A : Nat → Prop) (sa : Nat → Nat) (N : Nat) (Rw : va_W) (a_m : Nat) (a_m_cutRows : Nat) (a_m_cutColumns : Nat) (a_m_deep : Nat) (a_m_wide : Nat) (a_m_zonesAhead : Nat) (a_m_nameOne : Nat) (a_m_nameOther : Nat) (a_m_tape : Nat) (a_m_edges : Nat) (a_m_dist : Nat) (a_m_queue : Nat) (a_m_pieceLevel : Nat) (a_m_pieceKey : Nat) (a_m_pieceYear : Nat) (a_m_drawnKeys : Nat) (a_m_kept : Nat) (a_m_noNumbers : Nat) (m_taped : Int32) (m_place : Int32) (m_fault : Int32) (m_number : Int32) (m_levelRead : Int32) (m_keyRead : Int32) (m_reads : Int32) (m_faults : Int32) (m_cutShort : Int32) (m_noNumber : Int32) (m_bottomLat : Int64) (m_bottomLon : Int64) (m_firstBeside : Int32) (m_manyBeside : Int32) (m_queued : Int32) (m_boxLevel : Int32) (m_boxTop : Int32) (m_boxBottom : Int32) (m_boxWest : Int32) (m_boxEast : Int32) (m_isEarly : Int32) (m_pieces : Int32) (m_states : Int32) (m_drawnNow : Int32) (m_keptAt : Int32) (m_deep : Nat → Int32) (m_wide : Nat → Int32) (m_zonesAhead : Nat → Int32) (m_edges : Nat → Int64) (p1 : Int32) (p2 : Int32) (p3 : Int32) (r : Int32) (o1 : Int64) (o2 : Int64) (o3 : Nat → Int64) (o4 : Int32) (o5 : Int32) (o6 : Int32) (o7 : Int32) (o8 : Int32) (hf : f_M_between N m_deep m_wide m_zonesAhead m_bottomLat m_bottomLon m_edges m_boxLevel m_boxTop m_boxBottom m_boxWest m_boxEast p1 p2 p3 = some (r, o1, o2, o3, o4, o5, o6, o7, o8)) : Met l yX11_between wsX11_between ({ frames := 7, cells := 0, slots := 0, locals := 159 }) (va_Pc [.ref a_m, .int p1, .int p2, .int p3] (q_N D ci A sa ((a_m, .inr (11, (.ref a_m_cutRows :: .ref a_m_cutColumns :: .ref a_m_deep :: .ref a_m_wide :: .ref a_m_zonesAhead :: .ref a_m_nameOne :: .ref a_m_nameOther :: .ref a_m_tape :: .int m_taped :: .int m_place :: .int m_fault :: .int m_number :: .int m_levelRead :: .int m_keyRead :: .int m_reads :: .int m_faults :: .int m_cutShort :: .int m_noNumber :: .long m_bottomLat :: .long m_bottomLon :: .ref a_m_edges :: .int m_firstBeside :: .int m_manyBeside :: .ref a_m_dist :: .ref a_m_queue :: .int m_queued :: .int m_boxLevel :: .int m_boxTop :: .int m_boxBottom :: .int m_boxWest :: .int m_boxEast :: .int m_isEarly :: .int m_pieces :: .int m_states :: .ref a_m_pieceLevel :: .ref a_m_pieceKey :: .ref a_m_pieceYear :: .int m_drawnNow :: .ref a_m_drawnKeys :: .ref a_m_kept :: .int m_keptAt :: .ref a_m_noNumbers :: []))) :: (a_m_deep, .inl (ci 0, 5, .inl m_deep)) :: (a_m_wide, .inl (ci 0, 5, .inl m_wide)) :: (a_m_zonesAhead, .inl (ci 0, 45, .inl m_zonesAhead)) :: (a_m_edges, .inl (ci 1, 4, .inr (.inl m_edges))) :: Rw))) (q_Q (some (.int r)) (q_O D A ((a_m, .inr (11, (.ref a_m_cutRows :: .ref a_m_cutColumns :: .ref a_m_deep :: .ref a_m_wide :: .ref a_m_zonesAhead :: .ref a_m_nameOne :: .ref a_m_nameOther :: .ref a_m_tape :: .int m_taped :: .int m_place :: .int m_fault :: .int m_number :: .int m_levelRead :: .int m_keyRead :: .int m_reads :: .int m_faults :: .int m_cutShort :: .int m_noNumber :: .long o1 :: .long o2 :: .ref a_m_edges :: .int m_firstBeside :: .int m_manyBeside :: .ref a_m_dist :: .ref a_m_queue :: .int m_queued :: .int o4 :: .int o5 :: .int o6 :: .int o7 :: .int o8 :: .int m_isEarly :: .int m_pieces :: .int m_states :: .ref a_m_pieceLevel :: .ref a_m_pieceKey :: .ref a_m_pieceYear :: .int m_drawnNow :: .ref a_m_drawnKeys :: .ref a_m_kept :: .int m_keptAt :: .ref a_m_noNumbers :: []))) :: (a_m_deep, .inl (ci 0, 5, .inl m_deep)) :: (a_m_wide, .inl (ci 0, 5, .inl m_wide)) :: (a_m_zonesAhead, .inl (ci 0, 45, .inl m_zonesAhead)) :: (a_m_edges, .inl (ci 1, 4, .inr (.inl o3))) :: Rw)) A) 0 0 A := by
  refine q_ofW (cc := cX11_between) (maxL := 4) (ret := (some .int)) [.ref a_m, .int p1, .int p2, .int p3] (plainFor_of_name (by decide)) rfl (Nat.le_of_ble_eq_true rfl) ?_
  intro p e s m below meth c ls Q hQ hx hb hml hr hts hown hlocks hK hA hZ hP hD hS hl
  have hl : lv_has ls 4 [(0, .ref a_m), (1, .int p1), (2, .int p2), (3, .int p3)] := hl
  have hown : s.vm.findClass RX11 = some m.cls := hown
  unfold f_M_between at hf
  have hgo : ∀ (H : Heap) (locs : List Loc), H = s.heap → va_P D vwCl ((a_m, .inr (11, (.ref a_m_cutRows :: .ref a_m_cutColumns :: .ref a_m_deep :: .ref a_m_wide :: .ref a_m_zonesAhead :: .ref a_m_nameOne :: .ref a_m_nameOther :: .ref a_m_tape :: .int m_taped :: .int m_place :: .int m_fault :: .int m_number :: .int m_levelRead :: .int m_keyRead :: .int m_reads :: .int m_faults :: .int m_cutShort :: .int m_noNumber :: .long m_bottomLat :: .long m_bottomLon :: .ref a_m_edges :: .int m_firstBeside :: .int m_manyBeside :: .ref a_m_dist :: .ref a_m_queue :: .int m_queued :: .int m_boxLevel :: .int m_boxTop :: .int m_boxBottom :: .int m_boxWest :: .int m_boxEast :: .int m_isEarly :: .int m_pieces :: .int m_states :: .ref a_m_pieceLevel :: .ref a_m_pieceKey :: .ref a_m_pieceYear :: .int m_drawnNow :: .ref a_m_drawnKeys :: .ref a_m_kept :: .int m_keptAt :: .ref a_m_noNumbers :: []))) :: (a_m_deep, .inl (ci 0, 5, .inl m_deep)) :: (a_m_wide, .inl (ci 0, 5, .inl m_wide)) :: (a_m_zonesAhead, .inl (ci 0, 45, .inl m_zonesAhead)) :: (a_m_edges, .inl (ci 1, 4, .inr (.inl m_edges))) :: Rw) H → va_S A s.heap H locs → W p l e ({ frames := 7, cells := 0, slots := 0, locals := 159 } : Room) s m ([.ref a_m, .int p1, .int p2, .int p3] : List Value).toArray below meth c H locs 0 0 Q (F0 m 0 ls []) := by
    intro H locs hH hP hS
    refine lv_aload_n (pc := 0) hx hb dX11_between_0 rfl (lv_at hl 0 rfl) ?_
    refine lv_iload_n (pc := 1) hx hb dX11_between_1 rfl (lv_at hl 1 rfl) ?_
    refine lv_iload_n (pc := 2) hx hb dX11_between_2 rfl (lv_at hl 2 rfl) ?_
    obtain ⟨v1, hm3, hf⟩ := q_b1_e hf
    refine q_cVr (pc := 3) (As := [.int p1, .int p2]) (rest := []) (v0 := (some (.int v1))) ⟨hx, hb, hml, hown, hts⟩ hK hA hZ hP hD hS hl.1 [0, 1, 2, 3] 5 rfl ⟨rfl, rfl, rfl⟩ (c_M_isKey l D ci A sa N (Rw) a_m a_m_cutRows a_m_cutColumns a_m_deep a_m_wide a_m_zonesAhead a_m_nameOne a_m_nameOther a_m_tape a_m_edges a_m_dist a_m_queue a_m_pieceLevel a_m_pieceKey a_m_pieceYear a_m_drawnKeys a_m_kept a_m_noNumbers m_taped m_place m_fault m_number m_levelRead m_keyRead m_reads m_faults m_cutShort m_noNumber m_bottomLat m_bottomLon m_firstBeside m_manyBeside m_queued m_boxLevel m_boxTop m_boxBottom m_boxWest m_boxEast m_isEarly m_pieces m_states m_drawnNow m_keptAt m_deep m_wide m_zonesAhead p1 p2 v1 hm3) 0 rfl rfl (cwV 2 hts gX11_between_X11_isKey rfl rfl rfl (by decide +kernel) ⟨Nat.le_of_ble_eq_true rfl, Nat.le_of_ble_eq_true rfl⟩) rfl rfl (Nat.le_of_ble_eq_true rfl) dX11_between_3 ⟨Nat.zero_le _, Nat.zero_le _⟩ (fun locs hS => ?_)
    refine q_if_eq (pc := 6) (tgt := 28) hx hb dX11_between_6 (by decide) rfl hf (fun hf => ?_) (fun hf => ?_)
    · refine lv_iconst (pc := 28) (v := (-1)) hx hb dX11_between_28 (by decide) ?_
      obtain ⟨e90, e91, e92, e93, e94, e95, e96, e97, e98⟩ := q_inj9 (Option.some.inj hf)
      rw [hQ, ← e90, ← e91, ← e92, ← e93, ← e94, ← e95, ← e96, ← e97, ← e98]
      exact q_iret (pc := 29) hx hb hr hlocks hP hD hS dX11_between_29
    · refine lv_aload_n (pc := 9) hx hb dX11_between_9 rfl (lv_at hl 0 rfl) ?_
      refine lv_iload_n (pc := 10) hx hb dX11_between_10 rfl (lv_at hl 1 rfl) ?_
      refine lv_iload_n (pc := 11) hx hb dX11_between_11 rfl (lv_at hl 3 rfl) ?_
      obtain ⟨v2, hm12, hf⟩ := q_b1_e hf
      refine q_cVr (pc := 12) (As := [.int p1, .int p3]) (rest := []) (v0 := (some (.int v2))) ⟨hx, hb, hml, hown, hts⟩ hK hA hZ hP hD hS hl.1 [0, 1, 2, 3] 5 rfl ⟨rfl, rfl, rfl⟩ (c_M_isKey l D ci A sa N (Rw) a_m a_m_cutRows a_m_cutColumns a_m_deep a_m_wide a_m_zonesAhead a_m_nameOne a_m_nameOther a_m_tape a_m_edges a_m_dist a_m_queue a_m_pieceLevel a_m_pieceKey a_m_pieceYear a_m_drawnKeys a_m_kept a_m_noNumbers m_taped m_place m_fault m_number m_levelRead m_keyRead m_reads m_faults m_cutShort m_noNumber m_bottomLat m_bottomLon m_firstBeside m_manyBeside m_queued m_boxLevel m_boxTop m_boxBottom m_boxWest m_boxEast m_isEarly m_pieces m_states m_drawnNow m_keptAt m_deep m_wide m_zonesAhead p1 p3 v2 hm12) 0 rfl rfl (cwV 2 hts gX11_between_X11_isKey rfl rfl rfl (by decide +kernel) ⟨Nat.le_of_ble_eq_true rfl, Nat.le_of_ble_eq_true rfl⟩) rfl rfl (Nat.le_of_ble_eq_true rfl) dX11_between_12 ⟨Nat.zero_le _, Nat.zero_le _⟩ (fun locs hS => ?_)
      refine q_if_eq (pc := 15) (tgt := 28) hx hb dX11_between_15 (by decide) rfl hf (fun hf => ?_) (fun hf => ?_)
      · refine lv_iconst (pc := 28) (v := (-1)) hx hb dX11_between_28 (by decide) ?_
        obtain ⟨e90, e91, e92, e93, e94, e95, e96, e97, e98⟩ := q_inj9 (Option.some.inj hf)
        rw [hQ, ← e90, ← e91, ← e92, ← e93, ← e94, ← e95, ← e96, ← e97, ← e98]
        exact q_iret (pc := 29) hx hb hr hlocks hP hD hS dX11_between_29
      · refine lv_aload_n (pc := 18) hx hb dX11_between_18 rfl (lv_at hl 0 rfl) ?_
        refine lv_iload_n (pc := 19) hx hb dX11_between_19 rfl (lv_at hl 1 rfl) ?_
        refine lv_iload_n (pc := 20) hx hb dX11_between_20 rfl (lv_at hl 2 rfl) ?_
        refine lv_iload_n (pc := 21) hx hb dX11_between_21 rfl (lv_at hl 3 rfl) ?_
        obtain ⟨v3, v4, v5, f6, v7, v8, v9, v10, v11, hm22, hf⟩ := q_b9_e hf
        refine q_cV (pc := 22) (As := [.int p1, .int p2, .int p3]) (rest := []) (v0 := (some (.int v3))) ⟨hx, hb, hml, hown, hts⟩ hK hA hZ hP hD hS hl.1 [0, 1, 2, 3, 4] 5 rfl ⟨rfl, rfl, rfl⟩ (c_M_betweenOf l D ci A sa N (Rw) a_m a_m_cutRows a_m_cutColumns a_m_deep a_m_wide a_m_zonesAhead a_m_nameOne a_m_nameOther a_m_tape a_m_edges a_m_dist a_m_queue a_m_pieceLevel a_m_pieceKey a_m_pieceYear a_m_drawnKeys a_m_kept a_m_noNumbers m_taped m_place m_fault m_number m_levelRead m_keyRead m_reads m_faults m_cutShort m_noNumber m_bottomLat m_bottomLon m_firstBeside m_manyBeside m_queued m_boxLevel m_boxTop m_boxBottom m_boxWest m_boxEast m_isEarly m_pieces m_states m_drawnNow m_keptAt m_deep m_wide m_zonesAhead m_edges p1 p2 p3 v3 v4 v5 f6 v7 v8 v9 v10 v11 hm22) 0 rfl rfl (cwV 3 hts gX11_between_X11_betweenOf rfl rfl rfl (by decide +kernel) ⟨Nat.le_of_ble_eq_true rfl, Nat.le_of_ble_eq_true rfl⟩) rfl rfl (Nat.le_of_ble_eq_true rfl) dX11_between_22 ⟨Nat.zero_le _, Nat.zero_le _⟩ [0, 1, 2, 3, 4] 5 rfl ⟨rfl, rfl, rfl⟩ (fun H locs hP hD hS => ?_)
        obtain ⟨hP, hD⟩ : va_PD D A ((a_m, .inr (11, (.ref a_m_cutRows :: .ref a_m_cutColumns :: .ref a_m_deep :: .ref a_m_wide :: .ref a_m_zonesAhead :: .ref a_m_nameOne :: .ref a_m_nameOther :: .ref a_m_tape :: .int m_taped :: .int m_place :: .int m_fault :: .int m_number :: .int m_levelRead :: .int m_keyRead :: .int m_reads :: .int m_faults :: .int m_cutShort :: .int m_noNumber :: .long v4 :: .long v5 :: .ref a_m_edges :: .int m_firstBeside :: .int m_manyBeside :: .ref a_m_dist :: .ref a_m_queue :: .int m_queued :: .int v7 :: .int v8 :: .int v9 :: .int v10 :: .int v11 :: .int m_isEarly :: .int m_pieces :: .int m_states :: .ref a_m_pieceLevel :: .ref a_m_pieceKey :: .ref a_m_pieceYear :: .int m_drawnNow :: .ref a_m_drawnKeys :: .ref a_m_kept :: .int m_keptAt :: .ref a_m_noNumbers :: []))) :: (a_m_deep, .inl (ci 0, 5, .inl m_deep)) :: (a_m_wide, .inl (ci 0, 5, .inl m_wide)) :: (a_m_zonesAhead, .inl (ci 0, 45, .inl m_zonesAhead)) :: (a_m_edges, .inl (ci 1, 4, .inr (.inl f6))) :: Rw) H := ⟨hP, hD⟩
        refine lv_goto (pc := 25) (tgt := 29) hx hb dX11_between_25 (by decide) ?_
        obtain ⟨e90, e91, e92, e93, e94, e95, e96, e97, e98⟩ := q_inj9 (Option.some.inj hf)
        rw [hQ, ← e90, ← e91, ← e92, ← e93, ← e94, ← e95, ← e96, ← e97, ← e98]
        exact q_iret (pc := 29) hx hb hr hlocks hP hD hS dX11_between_29
  exact hgo _ _ rfl hP hS
/-! X11_isPlace -/
set_option maxRecDepth 100000 in
set_option maxHeartbeats 4000000 in
theorem c_M_isPlace (l : Launch) (D : va_G) (ci : Nat → ClassId) (A : Nat → Prop) (sa : Nat → Nat) (N : Nat) (Rw : va_W) (p1 : Int32) (p2 : Int32) (r : Int32) (hf : f_M_isPlace p1 p2 = some r) : Met l yX11_isPlace wsX11_isPlace ({ frames := 1, cells := 0, slots := 0, locals := 25 }) (va_Pc [.int p1, .int p2] (q_N D ci A sa (Rw))) (q_R (some (.int r))) 0 0 A := by
  refine q_ofW (cc := cX11_isPlace) (maxL := 2) (ret := (some .boolean)) [.int p1, .int p2] (plainFor_of_name (by decide)) rfl (Nat.le_of_ble_eq_true rfl) ?_
  intro p e s m below meth c ls Q hQ hx hb hml hr hts hown hlocks hK hA hZ hP hD hS hl
  have hl : lv_has ls 2 [(0, .int p1), (1, .int p2)] := hl
  have hown : s.vm.findClass RX11 = some m.cls := hown
  have w_1 := hts (Cond.constantLong RX11 76 (-324000)) (List.mem_cons_of_mem _ t_w940)
  have w_2 := hts (Cond.constantLong RX11 78 (324000)) (List.mem_cons_of_mem _ t_w939)
  have w_3 := hts (Cond.constantLong RX11 80 (1295999)) (List.mem_cons_of_mem _ t_w970)
  unfold f_M_isPlace at hf
  have hgo : ∀ (H : Heap) (locs : List Loc), H = s.heap → va_P D vwCl (Rw) H → va_S A s.heap H locs → W p l e ({ frames := 1, cells := 0, slots := 0, locals := 25 } : Room) s m ([.int p1, .int p2] : List Value).toArray below meth c H locs 0 0 Q (F0 m 0 ls []) := by
    intro H locs hH hP hS
    subst hH
    refine lv_iload_n (pc := 0) hx hb dX11_isPlace_0 rfl (lv_at hl 0 rfl) ?_
    refine lv_i2l (pc := 1) hx hb dX11_isPlace_1 rfl ?_
    refine lv_ldc2 (pc := 2) (v := (-324000)) hx hb hown w_1 dX11_isPlace_2 ?_
    refine lv_ldc2 (pc := 5) (v := 324000) hx hb hown w_2 dX11_isPlace_5 ?_
    obtain ⟨v1, hm8, hf⟩ := q_b1_e hf
    refine q_cSr (pc := 8) (As := [.long p1.toInt64, .long (-324000), .long 324000]) (rest := []) (v0 := (some (.int v1))) ⟨hx, hb, hml, hown, hts⟩ hK hA hZ hP hD hS hl.1 [] 0 rfl ⟨rfl, rfl, rfl⟩ (c_M_in l D ci A sa N (Rw) p1.toInt64 (-324000) 324000 v1 hm8) (va_cwS 3 hts gX11_isPlace_X11_in rfl rfl rfl (by decide +kernel) ⟨Nat.le_of_ble_eq_true rfl, Nat.le_of_ble_eq_true rfl⟩) rfl rfl (Nat.le_of_ble_eq_true rfl) dX11_isPlace_8 ⟨Nat.zero_le _, Nat.zero_le _⟩ (fun locs hS => ?_)
    refine q_if_eq (pc := 11) (tgt := 30) hx hb dX11_isPlace_11 (by decide) rfl hf (fun hf => ?_) (fun hf => ?_)
    · refine lv_iconst (pc := 30) (v := 0) hx hb dX11_isPlace_30 (by decide) ?_
      obtain rfl := Option.some.inj hf
      rw [hQ]
      exact q_zretr (pc := 31) hx hb hr rfl hlocks rfl hS dX11_isPlace_31
    · refine lv_iload_n (pc := 14) hx hb dX11_isPlace_14 rfl (lv_at hl 1 rfl) ?_
      refine lv_i2l (pc := 15) hx hb dX11_isPlace_15 rfl ?_
      refine lv_lconst (pc := 16) (v := 0) hx hb dX11_isPlace_16 (by decide) ?_
      refine lv_ldc2 (pc := 17) (v := 1295999) hx hb hown w_3 dX11_isPlace_17 ?_
      obtain ⟨v2, hm20, hf⟩ := q_b1_e hf
      refine q_cSr (pc := 20) (As := [.long p2.toInt64, .long 0, .long 1295999]) (rest := []) (v0 := (some (.int v2))) ⟨hx, hb, hml, hown, hts⟩ hK hA hZ hP hD hS hl.1 [] 0 rfl ⟨rfl, rfl, rfl⟩ (c_M_in l D ci A sa N (Rw) p2.toInt64 0 1295999 v2 hm20) (va_cwS 3 hts gX11_isPlace_X11_in rfl rfl rfl (by decide +kernel) ⟨Nat.le_of_ble_eq_true rfl, Nat.le_of_ble_eq_true rfl⟩) rfl rfl (Nat.le_of_ble_eq_true rfl) dX11_isPlace_20 ⟨Nat.zero_le _, Nat.zero_le _⟩ (fun locs hS => ?_)
      refine q_if_eq (pc := 23) (tgt := 30) hx hb dX11_isPlace_23 (by decide) rfl hf (fun hf => ?_) (fun hf => ?_)
      · refine lv_iconst (pc := 30) (v := 0) hx hb dX11_isPlace_30 (by decide) ?_
        obtain rfl := Option.some.inj hf
        rw [hQ]
        exact q_zretr (pc := 31) hx hb hr rfl hlocks rfl hS dX11_isPlace_31
      · refine lv_iconst (pc := 26) (v := 1) hx hb dX11_isPlace_26 (by decide) ?_
        refine lv_goto (pc := 27) (tgt := 31) hx hb dX11_isPlace_27 (by decide) ?_
        obtain rfl := Option.some.inj hf
        rw [hQ]
        exact q_zretr (pc := 31) hx hb hr rfl hlocks rfl hS dX11_isPlace_31
  exact hgo _ _ rfl hP hS
/-! X11_isBox -/
set_option maxRecDepth 100000 in
set_option maxHeartbeats 4000000 in
theorem c_M_isBox (l : Launch) (D : va_G) (ci : Nat → ClassId) (A : Nat → Prop) (sa : Nat → Nat) (N : Nat) (Rw : va_W) (a_m : Nat) (a_m_cutRows : Nat) (a_m_cutColumns : Nat) (a_m_deep : Nat) (a_m_wide : Nat) (a_m_zonesAhead : Nat) (a_m_nameOne : Nat) (a_m_nameOther : Nat) (a_m_tape : Nat) (a_m_edges : Nat) (a_m_dist : Nat) (a_m_queue : Nat) (a_m_pieceLevel : Nat) (a_m_pieceKey : Nat) (a_m_pieceYear : Nat) (a_m_drawnKeys : Nat) (a_m_kept : Nat) (a_m_noNumbers : Nat) (m_taped : Int32) (m_place : Int32) (m_fault : Int32) (m_number : Int32) (m_levelRead : Int32) (m_keyRead : Int32) (m_reads : Int32) (m_faults : Int32) (m_cutShort : Int32) (m_noNumber : Int32) (m_bottomLat : Int64) (m_bottomLon : Int64) (m_firstBeside : Int32) (m_manyBeside : Int32) (m_queued : Int32) (m_boxLevel : Int32) (m_boxTop : Int32) (m_boxBottom : Int32) (m_boxWest : Int32) (m_boxEast : Int32) (m_isEarly : Int32) (m_pieces : Int32) (m_states : Int32) (m_drawnNow : Int32) (m_keptAt : Int32) (p1 : Int32) (p2 : Int32) (p3 : Int32) (p4 : Int32) (r : Int32) (hf : f_M_isBox p1 p2 p3 p4 = some r) : Met l yX11_isBox wsX11_isBox ({ frames := 2, cells := 0, slots := 0, locals := 46 }) (va_Pc [.ref a_m, .int p1, .int p2, .int p3, .int p4] (q_N D ci A sa ((a_m, .inr (11, (.ref a_m_cutRows :: .ref a_m_cutColumns :: .ref a_m_deep :: .ref a_m_wide :: .ref a_m_zonesAhead :: .ref a_m_nameOne :: .ref a_m_nameOther :: .ref a_m_tape :: .int m_taped :: .int m_place :: .int m_fault :: .int m_number :: .int m_levelRead :: .int m_keyRead :: .int m_reads :: .int m_faults :: .int m_cutShort :: .int m_noNumber :: .long m_bottomLat :: .long m_bottomLon :: .ref a_m_edges :: .int m_firstBeside :: .int m_manyBeside :: .ref a_m_dist :: .ref a_m_queue :: .int m_queued :: .int m_boxLevel :: .int m_boxTop :: .int m_boxBottom :: .int m_boxWest :: .int m_boxEast :: .int m_isEarly :: .int m_pieces :: .int m_states :: .ref a_m_pieceLevel :: .ref a_m_pieceKey :: .ref a_m_pieceYear :: .int m_drawnNow :: .ref a_m_drawnKeys :: .ref a_m_kept :: .int m_keptAt :: .ref a_m_noNumbers :: []))) :: Rw))) (q_R (some (.int r))) 0 0 A := by
  refine q_ofW (cc := cX11_isBox) (maxL := 5) (ret := (some .boolean)) [.ref a_m, .int p1, .int p2, .int p3, .int p4] (plainFor_of_name (by decide)) rfl (Nat.le_of_ble_eq_true rfl) ?_
  intro p e s m below meth c ls Q hQ hx hb hml hr hts hown hlocks hK hA hZ hP hD hS hl
  have hl : lv_has ls 5 [(0, .ref a_m), (1, .int p1), (2, .int p2), (3, .int p3), (4, .int p4)] := hl
  have hown : s.vm.findClass RX11 = some m.cls := hown
  unfold f_M_isBox at hf
  have hgo : ∀ (H : Heap) (locs : List Loc), H = s.heap → va_P D vwCl ((a_m, .inr (11, (.ref a_m_cutRows :: .ref a_m_cutColumns :: .ref a_m_deep :: .ref a_m_wide :: .ref a_m_zonesAhead :: .ref a_m_nameOne :: .ref a_m_nameOther :: .ref a_m_tape :: .int m_taped :: .int m_place :: .int m_fault :: .int m_number :: .int m_levelRead :: .int m_keyRead :: .int m_reads :: .int m_faults :: .int m_cutShort :: .int m_noNumber :: .long m_bottomLat :: .long m_bottomLon :: .ref a_m_edges :: .int m_firstBeside :: .int m_manyBeside :: .ref a_m_dist :: .ref a_m_queue :: .int m_queued :: .int m_boxLevel :: .int m_boxTop :: .int m_boxBottom :: .int m_boxWest :: .int m_boxEast :: .int m_isEarly :: .int m_pieces :: .int m_states :: .ref a_m_pieceLevel :: .ref a_m_pieceKey :: .ref a_m_pieceYear :: .int m_drawnNow :: .ref a_m_drawnKeys :: .ref a_m_kept :: .int m_keptAt :: .ref a_m_noNumbers :: []))) :: Rw) H → va_S A s.heap H locs → W p l e ({ frames := 2, cells := 0, slots := 0, locals := 46 } : Room) s m ([.ref a_m, .int p1, .int p2, .int p3, .int p4] : List Value).toArray below meth c H locs 0 0 Q (F0 m 0 ls []) := by
    intro H locs hH hP hS
    subst hH
    refine lv_iload_n (pc := 0) hx hb dX11_isBox_0 rfl (lv_at hl 1 rfl) ?_
    refine lv_iload_n (pc := 1) hx hb dX11_isBox_1 rfl (lv_at hl 3 rfl) ?_
    obtain ⟨v1, hm2, hf⟩ := q_b1_e hf
    refine q_cSr (pc := 2) (As := [.int p1, .int p3]) (rest := []) (v0 := (some (.int v1))) ⟨hx, hb, hml, hown, hts⟩ hK hA hZ hP hD hS hl.1 [] 1 rfl ⟨rfl, rfl, rfl⟩ (c_M_isPlace l D ci A sa N (Rw) p1 p3 v1 hm2) (va_cwS 2 hts gX11_isBox_X11_isPlace rfl rfl rfl (by decide +kernel) ⟨Nat.le_of_ble_eq_true rfl, Nat.le_of_ble_eq_true rfl⟩) rfl rfl (Nat.le_of_ble_eq_true rfl) dX11_isBox_2 ⟨Nat.zero_le _, Nat.zero_le _⟩ (fun locs hS => ?_)
    refine q_if_eq (pc := 5) (tgt := 26) hx hb dX11_isBox_5 (by decide) rfl hf (fun hf => ?_) (fun hf => ?_)
    · refine lv_iconst (pc := 26) (v := 0) hx hb dX11_isBox_26 (by decide) ?_
      obtain rfl := Option.some.inj hf
      rw [hQ]
      exact q_zretr (pc := 27) hx hb hr rfl hlocks rfl hS dX11_isBox_27
    · refine lv_iload_n (pc := 8) hx hb dX11_isBox_8 rfl (lv_at hl 2 rfl) ?_
      refine lv_iload (pc := 9) hx hb dX11_isBox_9 (lv_at hl 4 rfl) ?_
      obtain ⟨v2, hm11, hf⟩ := q_b1_e hf
      refine q_cSr (pc := 11) (As := [.int p2, .int p4]) (rest := []) (v0 := (some (.int v2))) ⟨hx, hb, hml, hown, hts⟩ hK hA hZ hP hD hS hl.1 [] 1 rfl ⟨rfl, rfl, rfl⟩ (c_M_isPlace l D ci A sa N (Rw) p2 p4 v2 hm11) (va_cwS 2 hts gX11_isBox_X11_isPlace rfl rfl rfl (by decide +kernel) ⟨Nat.le_of_ble_eq_true rfl, Nat.le_of_ble_eq_true rfl⟩) rfl rfl (Nat.le_of_ble_eq_true rfl) dX11_isBox_11 ⟨Nat.zero_le _, Nat.zero_le _⟩ (fun locs hS => ?_)
      refine q_if_eq (pc := 14) (tgt := 26) hx hb dX11_isBox_14 (by decide) rfl hf (fun hf => ?_) (fun hf => ?_)
      · refine lv_iconst (pc := 26) (v := 0) hx hb dX11_isBox_26 (by decide) ?_
        obtain rfl := Option.some.inj hf
        rw [hQ]
        exact q_zretr (pc := 27) hx hb hr rfl hlocks rfl hS dX11_isBox_27
      · refine lv_iload_n (pc := 17) hx hb dX11_isBox_17 rfl (lv_at hl 1 rfl) ?_
        refine lv_iload_n (pc := 18) hx hb dX11_isBox_18 rfl (lv_at hl 2 rfl) ?_
        refine q_icmp_gt (pc := 19) (tgt := 26) hx hb dX11_isBox_19 (by decide) rfl hf (fun hf => ?_) (fun hf => ?_)
        · refine lv_iconst (pc := 26) (v := 0) hx hb dX11_isBox_26 (by decide) ?_
          obtain rfl := Option.some.inj hf
          rw [hQ]
          exact q_zretr (pc := 27) hx hb hr rfl hlocks rfl hS dX11_isBox_27
        · refine lv_iconst (pc := 22) (v := 1) hx hb dX11_isBox_22 (by decide) ?_
          refine lv_goto (pc := 23) (tgt := 27) hx hb dX11_isBox_23 (by decide) ?_
          obtain rfl := Option.some.inj hf
          rw [hQ]
          exact q_zretr (pc := 27) hx hb hr rfl hlocks rfl hS dX11_isBox_27
  exact hgo _ _ rfl hP hS
/-! X11_westOf -/
set_option maxRecDepth 100000 in
set_option maxHeartbeats 4000000 in
theorem c_M_westOf (l : Launch) (D : va_G) (ci : Nat → ClassId) (A : Nat → Prop) (sa : Nat → Nat) (N : Nat) (Rw : va_W) (a_m : Nat) (a_m_cutRows : Nat) (a_m_cutColumns : Nat) (a_m_deep : Nat) (a_m_wide : Nat) (a_m_zonesAhead : Nat) (a_m_nameOne : Nat) (a_m_nameOther : Nat) (a_m_tape : Nat) (a_m_edges : Nat) (a_m_dist : Nat) (a_m_queue : Nat) (a_m_pieceLevel : Nat) (a_m_pieceKey : Nat) (a_m_pieceYear : Nat) (a_m_drawnKeys : Nat) (a_m_kept : Nat) (a_m_noNumbers : Nat) (m_taped : Int32) (m_place : Int32) (m_fault : Int32) (m_number : Int32) (m_levelRead : Int32) (m_keyRead : Int32) (m_reads : Int32) (m_faults : Int32) (m_cutShort : Int32) (m_noNumber : Int32) (m_bottomLat : Int64) (m_bottomLon : Int64) (m_firstBeside : Int32) (m_manyBeside : Int32) (m_queued : Int32) (m_boxLevel : Int32) (m_boxTop : Int32) (m_boxBottom : Int32) (m_boxWest : Int32) (m_boxEast : Int32) (m_isEarly : Int32) (m_pieces : Int32) (m_states : Int32) (m_drawnNow : Int32) (m_keptAt : Int32) (m_deep : Nat → Int32) (m_wide : Nat → Int32) (p1 : Int32) (r : Int32) (hf : f_M_westOf m_deep m_wide m_boxLevel m_boxWest p1 = some r) : Met l yX11_westOf wsX11_westOf ({ frames := 3, cells := 0, slots := 0, locals := 64 }) (va_Pc [.ref a_m, .int p1] (q_N D ci A sa ((a_m, .inr (11, (.ref a_m_cutRows :: .ref a_m_cutColumns :: .ref a_m_deep :: .ref a_m_wide :: .ref a_m_zonesAhead :: .ref a_m_nameOne :: .ref a_m_nameOther :: .ref a_m_tape :: .int m_taped :: .int m_place :: .int m_fault :: .int m_number :: .int m_levelRead :: .int m_keyRead :: .int m_reads :: .int m_faults :: .int m_cutShort :: .int m_noNumber :: .long m_bottomLat :: .long m_bottomLon :: .ref a_m_edges :: .int m_firstBeside :: .int m_manyBeside :: .ref a_m_dist :: .ref a_m_queue :: .int m_queued :: .int m_boxLevel :: .int m_boxTop :: .int m_boxBottom :: .int m_boxWest :: .int m_boxEast :: .int m_isEarly :: .int m_pieces :: .int m_states :: .ref a_m_pieceLevel :: .ref a_m_pieceKey :: .ref a_m_pieceYear :: .int m_drawnNow :: .ref a_m_drawnKeys :: .ref a_m_kept :: .int m_keptAt :: .ref a_m_noNumbers :: []))) :: (a_m_deep, .inl (ci 0, 5, .inl m_deep)) :: (a_m_wide, .inl (ci 0, 5, .inl m_wide)) :: Rw))) (q_R (some (.int r))) 0 0 A := by
  refine q_ofW (cc := cX11_westOf) (maxL := 2) (ret := (some .int)) [.ref a_m, .int p1] (plainFor_of_name (by decide)) rfl (Nat.le_of_ble_eq_true rfl) ?_
  intro p e s m below meth c ls Q hQ hx hb hml hr hts hown hlocks hK hA hZ hP hD hS hl
  have hl : lv_has ls 2 [(0, .ref a_m), (1, .int p1)] := hl
  have hown : s.vm.findClass RX11 = some m.cls := hown
  have hinX11 : ∀ w ∈ wsX110, w ∈ wsX11_westOf := fun _ h => List.mem_cons_of_mem _ (inWX110 _ h)
  have w_1 := hts (Cond.fieldLink RX11 307 "SheetNamesModel" "boxWest" "I") (List.mem_cons_of_mem _ t_w951)
  have w_2 := hts (Cond.fieldLink RX11 298 "SheetNamesModel" "boxLevel" "I") (List.mem_cons_of_mem _ t_w948)
  unfold f_M_westOf at hf
  have hgo : ∀ (H : Heap) (locs : List Loc), H = s.heap → va_P D vwCl ((a_m, .inr (11, (.ref a_m_cutRows :: .ref a_m_cutColumns :: .ref a_m_deep :: .ref a_m_wide :: .ref a_m_zonesAhead :: .ref a_m_nameOne :: .ref a_m_nameOther :: .ref a_m_tape :: .int m_taped :: .int m_place :: .int m_fault :: .int m_number :: .int m_levelRead :: .int m_keyRead :: .int m_reads :: .int m_faults :: .int m_cutShort :: .int m_noNumber :: .long m_bottomLat :: .long m_bottomLon :: .ref a_m_edges :: .int m_firstBeside :: .int m_manyBeside :: .ref a_m_dist :: .ref a_m_queue :: .int m_queued :: .int m_boxLevel :: .int m_boxTop :: .int m_boxBottom :: .int m_boxWest :: .int m_boxEast :: .int m_isEarly :: .int m_pieces :: .int m_states :: .ref a_m_pieceLevel :: .ref a_m_pieceKey :: .ref a_m_pieceYear :: .int m_drawnNow :: .ref a_m_drawnKeys :: .ref a_m_kept :: .int m_keptAt :: .ref a_m_noNumbers :: []))) :: (a_m_deep, .inl (ci 0, 5, .inl m_deep)) :: (a_m_wide, .inl (ci 0, 5, .inl m_wide)) :: Rw) H → va_S A s.heap H locs → W p l e ({ frames := 3, cells := 0, slots := 0, locals := 64 } : Room) s m ([.ref a_m, .int p1] : List Value).toArray below meth c H locs 0 0 Q (F0 m 0 ls []) := by
    intro H locs hH hP hS
    subst hH
    refine lv_aload_n (pc := 0) hx hb dX11_westOf_0 rfl (lv_at hl 0 rfl) ?_
    refine lv_aload_n (pc := 1) hx hb dX11_westOf_1 rfl (lv_at hl 0 rfl) ?_
    refine va_get (pc := 2) (D := D) (ci := 11) (v := .int m_boxWest) (C := RX11) (T := TX11) (N := 42) hx hb hts hinX11 hown hK hP 0 rfl rfl 29 (by decide) w_1 (fun _ h9 => h9) rfl dX11_westOf_2 ?_
    refine lv_aload_n (pc := 5) hx hb dX11_westOf_5 rfl (lv_at hl 0 rfl) ?_
    refine lv_aload_n (pc := 6) hx hb dX11_westOf_6 rfl (lv_at hl 0 rfl) ?_
    refine va_get (pc := 7) (D := D) (ci := 11) (v := .int m_boxLevel) (C := RX11) (T := TX11) (N := 42) hx hb hts hinX11 hown hK hP 0 rfl rfl 26 (by decide) w_2 (fun _ h9 => h9) rfl dX11_westOf_7 ?_
    refine lv_iload_n (pc := 10) hx hb dX11_westOf_10 rfl (lv_at hl 1 rfl) ?_
    obtain ⟨v1, hm11, hf⟩ := q_b1_e hf
    refine q_cVr (pc := 11) (As := [.int m_boxLevel, .int p1]) (rest := [.int m_boxWest, .ref a_m]) (v0 := (some (.int v1))) ⟨hx, hb, hml, hown, hts⟩ hK hA hZ hP hD hS hl.1 [0, 1, 2] 3 rfl ⟨rfl, rfl, rfl⟩ (c_M_many l D ci A sa N (Rw) a_m a_m_cutRows a_m_cutColumns a_m_deep a_m_wide a_m_zonesAhead a_m_nameOne a_m_nameOther a_m_tape a_m_edges a_m_dist a_m_queue a_m_pieceLevel a_m_pieceKey a_m_pieceYear a_m_drawnKeys a_m_kept a_m_noNumbers m_taped m_place m_fault m_number m_levelRead m_keyRead m_reads m_faults m_cutShort m_noNumber m_bottomLat m_bottomLon m_firstBeside m_manyBeside m_queued m_boxLevel m_boxTop m_boxBottom m_boxWest m_boxEast m_isEarly m_pieces m_states m_drawnNow m_keptAt m_deep m_wide m_boxLevel p1 v1 hm11) 0 rfl rfl (cwV 2 hts gX11_westOf_X11_many rfl rfl rfl (by decide +kernel) ⟨Nat.le_of_ble_eq_true rfl, Nat.le_of_ble_eq_true rfl⟩) rfl rfl (Nat.le_of_ble_eq_true rfl) dX11_westOf_11 ⟨Nat.zero_le _, Nat.zero_le _⟩ (fun locs hS => ?_)
    obtain ⟨v2, hm14, hf⟩ := q_b1_e hf
    refine q_cVr (pc := 14) (As := [.int m_boxWest, .int v1]) (rest := []) (v0 := (some (.int v2))) ⟨hx, hb, hml, hown, hts⟩ hK hA hZ hP hD hS hl.1 [0] 3 rfl ⟨rfl, rfl, rfl⟩ (c_M_placeAt l D ci A sa N (Rw) a_m a_m_cutRows a_m_cutColumns a_m_deep a_m_wide a_m_zonesAhead a_m_nameOne a_m_nameOther a_m_tape a_m_edges a_m_dist a_m_queue a_m_pieceLevel a_m_pieceKey a_m_pieceYear a_m_drawnKeys a_m_kept a_m_noNumbers m_taped m_place m_fault m_number m_levelRead m_keyRead m_reads m_faults m_cutShort m_noNumber m_bottomLat m_bottomLon m_firstBeside m_manyBeside m_queued m_boxLevel m_boxTop m_boxBottom m_boxWest m_boxEast m_isEarly m_pieces m_states m_drawnNow m_keptAt m_boxWest v1 v2 hm14) 0 rfl rfl (cwV 2 hts gX11_westOf_X11_placeAt rfl rfl rfl (by decide +kernel) ⟨Nat.le_of_ble_eq_true rfl, Nat.le_of_ble_eq_true rfl⟩) rfl rfl (Nat.le_of_ble_eq_true rfl) dX11_westOf_14 ⟨Nat.zero_le _, Nat.zero_le _⟩ (fun locs hS => ?_)
    obtain rfl := Option.some.inj hf
    rw [hQ]
    exact q_iretr (pc := 17) hx hb hr hlocks rfl hS dX11_westOf_17
  exact hgo _ _ rfl hP hS
/-! X11_boxKey -/
set_option maxRecDepth 100000 in
set_option maxHeartbeats 4000000 in
theorem c_M_boxKey (l : Launch) (D : va_G) (ci : Nat → ClassId) (A : Nat → Prop) (sa : Nat → Nat) (N : Nat) (Rw : va_W) (a_m : Nat) (a_m_cutRows : Nat) (a_m_cutColumns : Nat) (a_m_deep : Nat) (a_m_wide : Nat) (a_m_zonesAhead : Nat) (a_m_nameOne : Nat) (a_m_nameOther : Nat) (a_m_tape : Nat) (a_m_edges : Nat) (a_m_dist : Nat) (a_m_queue : Nat) (a_m_pieceLevel : Nat) (a_m_pieceKey : Nat) (a_m_pieceYear : Nat) (a_m_drawnKeys : Nat) (a_m_kept : Nat) (a_m_noNumbers : Nat) (m_taped : Int32) (m_place : Int32) (m_fault : Int32) (m_number : Int32) (m_levelRead : Int32) (m_keyRead : Int32) (m_reads : Int32) (m_faults : Int32) (m_cutShort : Int32) (m_noNumber : Int32) (m_bottomLat : Int64) (m_bottomLon : Int64) (m_firstBeside : Int32) (m_manyBeside : Int32) (m_queued : Int32) (m_boxLevel : Int32) (m_boxTop : Int32) (m_boxBottom : Int32) (m_boxWest : Int32) (m_boxEast : Int32) (m_isEarly : Int32) (m_pieces : Int32) (m_states : Int32) (m_drawnNow : Int32) (m_keptAt : Int32) (m_deep : Nat → Int32) (m_wide : Nat → Int32) (m_zonesAhead : Nat → Int32) (p1 : Int32) (r : Int32) (hf : f_M_boxKey N m_deep m_wide m_zonesAhead m_boxLevel m_boxTop m_boxBottom m_boxWest m_boxEast p1 = some r) : Met l yX11_boxKey wsX11_boxKey ({ frames := 4, cells := 0, slots := 0, locals := 88 }) (va_Pc [.ref a_m, .int p1] (q_N D ci A sa ((a_m, .inr (11, (.ref a_m_cutRows :: .ref a_m_cutColumns :: .ref a_m_deep :: .ref a_m_wide :: .ref a_m_zonesAhead :: .ref a_m_nameOne :: .ref a_m_nameOther :: .ref a_m_tape :: .int m_taped :: .int m_place :: .int m_fault :: .int m_number :: .int m_levelRead :: .int m_keyRead :: .int m_reads :: .int m_faults :: .int m_cutShort :: .int m_noNumber :: .long m_bottomLat :: .long m_bottomLon :: .ref a_m_edges :: .int m_firstBeside :: .int m_manyBeside :: .ref a_m_dist :: .ref a_m_queue :: .int m_queued :: .int m_boxLevel :: .int m_boxTop :: .int m_boxBottom :: .int m_boxWest :: .int m_boxEast :: .int m_isEarly :: .int m_pieces :: .int m_states :: .ref a_m_pieceLevel :: .ref a_m_pieceKey :: .ref a_m_pieceYear :: .int m_drawnNow :: .ref a_m_drawnKeys :: .ref a_m_kept :: .int m_keptAt :: .ref a_m_noNumbers :: []))) :: (a_m_deep, .inl (ci 0, 5, .inl m_deep)) :: (a_m_wide, .inl (ci 0, 5, .inl m_wide)) :: (a_m_zonesAhead, .inl (ci 0, 45, .inl m_zonesAhead)) :: Rw))) (q_R (some (.int r))) 0 0 A := by
  refine q_ofW (cc := cX11_boxKey) (maxL := 5) (ret := (some .int)) [.ref a_m, .int p1] (plainFor_of_name (by decide)) rfl (Nat.le_of_ble_eq_true rfl) ?_
  intro p e s m below meth c ls Q hQ hx hb hml hr hts hown hlocks hK hA hZ hP hD hS hl
  have hl : lv_has ls 5 [(0, .ref a_m), (1, .int p1)] := hl
  have hown : s.vm.findClass RX11 = some m.cls := hown
  have hinX11 : ∀ w ∈ wsX110, w ∈ wsX11_boxKey := fun _ h => List.mem_cons_of_mem _ (inWX110 _ h)
  have w_1 := hts (Cond.fieldLink RX11 301 "SheetNamesModel" "boxTop" "I") (List.mem_cons_of_mem _ t_w949)
  have w_2 := hts (Cond.fieldLink RX11 304 "SheetNamesModel" "boxBottom" "I") (List.mem_cons_of_mem _ t_w950)
  have w_3 := hts (Cond.fieldLink RX11 298 "SheetNamesModel" "boxLevel" "I") (List.mem_cons_of_mem _ t_w948)
  unfold f_M_boxKey at hf
  have hgo : ∀ (H : Heap) (locs : List Loc), H = s.heap → va_P D vwCl ((a_m, .inr (11, (.ref a_m_cutRows :: .ref a_m_cutColumns :: .ref a_m_deep :: .ref a_m_wide :: .ref a_m_zonesAhead :: .ref a_m_nameOne :: .ref a_m_nameOther :: .ref a_m_tape :: .int m_taped :: .int m_place :: .int m_fault :: .int m_number :: .int m_levelRead :: .int m_keyRead :: .int m_reads :: .int m_faults :: .int m_cutShort :: .int m_noNumber :: .long m_bottomLat :: .long m_bottomLon :: .ref a_m_edges :: .int m_firstBeside :: .int m_manyBeside :: .ref a_m_dist :: .ref a_m_queue :: .int m_queued :: .int m_boxLevel :: .int m_boxTop :: .int m_boxBottom :: .int m_boxWest :: .int m_boxEast :: .int m_isEarly :: .int m_pieces :: .int m_states :: .ref a_m_pieceLevel :: .ref a_m_pieceKey :: .ref a_m_pieceYear :: .int m_drawnNow :: .ref a_m_drawnKeys :: .ref a_m_kept :: .int m_keptAt :: .ref a_m_noNumbers :: []))) :: (a_m_deep, .inl (ci 0, 5, .inl m_deep)) :: (a_m_wide, .inl (ci 0, 5, .inl m_wide)) :: (a_m_zonesAhead, .inl (ci 0, 45, .inl m_zonesAhead)) :: Rw) H → va_S A s.heap H locs → W p l e ({ frames := 4, cells := 0, slots := 0, locals := 88 } : Room) s m ([.ref a_m, .int p1] : List Value).toArray below meth c H locs 0 0 Q (F0 m 0 ls []) := by
    intro H locs hH hP hS
    subst hH
    refine lv_iload_n (pc := 0) hx hb dX11_boxKey_0 rfl (lv_at hl 1 rfl) ?_
    refine lv_istore_n (pc := 1) (lv' := [(2, .int p1), (0, .ref a_m), (1, .int p1)]) hx hb dX11_boxKey_1 rfl hl (by decide) rfl (fun ls hl => ?_)
    refine lv_aload_n (pc := 2) hx hb dX11_boxKey_2 rfl (lv_at hl 1 rfl) ?_
    refine va_get (pc := 3) (D := D) (ci := 11) (v := .int m_boxTop) (C := RX11) (T := TX11) (N := 42) hx hb hts hinX11 hown hK hP 0 rfl rfl 27 (by decide) w_1 (fun _ h9 => h9) rfl dX11_boxKey_3 ?_
    refine lv_istore_n (pc := 6) (lv' := [(3, .int m_boxTop), (2, .int p1), (0, .ref a_m), (1, .int p1)]) hx hb dX11_boxKey_6 rfl hl (by decide) rfl (fun ls hl => ?_)
    obtain ⟨k7, o7_, ek7, hm7, hk7⟩ := q_s0_k hf
    have JE7 : ∀  (H : Heap) (locs : List Loc) (ls : Array Slot), k7 = some r → H = s.heap → va_S A s.heap H locs → lv_has ls 5 [] → W p l e ({ frames := 4, cells := 0, slots := 0, locals := 88 } : Room) s m ([.ref a_m, .int p1] : List Value).toArray below meth c H locs 0 0 Q (F0 m 66 ls []) := by
      intro  H locs ls hf hHs hS hl
      subst hHs
      have hf := (ek7).symm.trans hf
      refine lv_iconst (pc := 66) (v := (-1)) hx hb dX11_boxKey_66 (by decide) ?_
      obtain rfl := Option.some.inj hf
      rw [hQ]
      exact q_iretr (pc := 67) hx hb hr hlocks rfl hS dX11_boxKey_67
    have LP7 : ∀ (n7 : Nat) (v1 : Int32) (v2 : Int32) (H : Heap) (locs : List Loc) (ls : Array Slot), f_M_boxKey_L7 m_boxBottom m_boxEast m_boxLevel m_boxWest m_deep m_wide m_zonesAhead n7 v1 v2 = some o7_ → H = s.heap → va_S A s.heap H locs → lv_has ls 5 [(0, .ref a_m), (2, .int v1), (3, .int v2)] → W p l e ({ frames := 4, cells := 0, slots := 0, locals := 88 } : Room) s m ([.ref a_m, .int p1] : List Value).toArray below meth c H locs 0 0 Q (F0 m 7 ls []) := by
      intro n7
      induction n7 with
      | zero => intro v1 v2 H locs ls hf; rw [f_M_boxKey_L7] at hf; cases hf
      | succ n7 ih7 =>
        intro v1 v2 H locs ls hf hHs hS hl
        subst hHs
        rw [f_M_boxKey_L7] at hf
        refine lv_iload_n (pc := 7) hx hb dX11_boxKey_7 rfl (lv_at hl 2 rfl) ?_
        refine lv_aload_n (pc := 8) hx hb dX11_boxKey_8 rfl (lv_at hl 0 rfl) ?_
        refine va_get (pc := 9) (D := D) (ci := 11) (v := .int m_boxBottom) (C := RX11) (T := TX11) (N := 42) hx hb hts hinX11 hown hK hP 0 rfl rfl 28 (by decide) w_2 (fun _ h9 => h9) rfl dX11_boxKey_9 ?_
        refine q_icmp_gt (pc := 12) (tgt := 66) hx hb dX11_boxKey_12 (by decide) rfl hf (fun hf => ?_) (fun hf => ?_)
        · obtain rfl := Option.some.inj hf
          exact JE7  _ _ _ hk7 rfl hS (lv_sub hl [] rfl)
        · refine lv_aload_n (pc := 15) hx hb dX11_boxKey_15 rfl (lv_at hl 0 rfl) ?_
          refine lv_iload_n (pc := 16) hx hb dX11_boxKey_16 rfl (lv_at hl 2 rfl) ?_
          obtain ⟨v3, hm17, hf⟩ := q_b1_e hf
          refine q_cVr (pc := 17) (As := [.int v2]) (rest := []) (v0 := (some (.int v3))) ⟨hx, hb, hml, hown, hts⟩ hK hA hZ hP hD hS hl.1 [0, 1, 2] 4 rfl ⟨rfl, rfl, rfl⟩ (c_M_boxMany l D ci A sa N (Rw) a_m a_m_cutRows a_m_cutColumns a_m_deep a_m_wide a_m_zonesAhead a_m_nameOne a_m_nameOther a_m_tape a_m_edges a_m_dist a_m_queue a_m_pieceLevel a_m_pieceKey a_m_pieceYear a_m_drawnKeys a_m_kept a_m_noNumbers m_taped m_place m_fault m_number m_levelRead m_keyRead m_reads m_faults m_cutShort m_noNumber m_bottomLat m_bottomLon m_firstBeside m_manyBeside m_queued m_boxLevel m_boxTop m_boxBottom m_boxWest m_boxEast m_isEarly m_pieces m_states m_drawnNow m_keptAt m_deep m_wide v2 v3 hm17) 0 rfl rfl (cwV 1 hts gX11_boxKey_X11_boxMany rfl rfl rfl (by decide +kernel) ⟨Nat.le_of_ble_eq_true rfl, Nat.le_of_ble_eq_true rfl⟩) rfl rfl (Nat.le_of_ble_eq_true rfl) dX11_boxKey_17 ⟨Nat.zero_le _, Nat.zero_le _⟩ (fun locs hS => ?_)
          refine lv_istore (pc := 20) (lv' := [(4, .int v3), (0, .ref a_m), (2, .int v1), (3, .int v2)]) hx hb dX11_boxKey_20 hl (by decide) rfl (fun ls hl => ?_)
          refine lv_iload_n (pc := 22) hx hb dX11_boxKey_22 rfl (lv_at hl 2 rfl) ?_
          refine lv_iload (pc := 23) hx hb dX11_boxKey_23 (lv_at hl 0 rfl) ?_
          refine q_icmp_ge (pc := 25) (tgt := 55) hx hb dX11_boxKey_25 (by decide) rfl hf (fun hf => ?_) (fun hf => ?_)
          · refine lv_iload_n (pc := 55) hx hb dX11_boxKey_55 rfl (lv_at hl 2 rfl) ?_
            refine lv_iload (pc := 56) hx hb dX11_boxKey_56 (lv_at hl 0 rfl) ?_
            refine lv_isub (pc := 58) hx hb dX11_boxKey_58 ?_
            obtain ⟨v4, ev4, hf⟩ := q_nm_e hf
            refine q_topi ev4 ?_
            refine lv_istore_n (pc := 59) (lv' := [(2, .int v4), (4, .int v3), (0, .ref a_m), (3, .int v2)]) hx hb dX11_boxKey_59 rfl hl (by decide) rfl (fun ls hl => ?_)
            obtain ⟨v5, ev5, hf⟩ := q_nm_e hf
            refine lv_iinc (pc := 60) (v := v5) (lv' := [(3, .int v5), (2, .int v4), (4, .int v3), (0, .ref a_m)]) hx hb dX11_boxKey_60 hl (k := 3) rfl (by rw [ev5]; rfl) (by decide) rfl (fun ls hl => ?_)
            refine lv_goto (pc := 63) (tgt := 7) hx hb dX11_boxKey_63 (by decide) ?_
            exact ih7 v4 v5 _ _ _ hf rfl hS (lv_sub hl [3, 1, 0] rfl)
          · refine lv_aload_n (pc := 28) hx hb dX11_boxKey_28 rfl (lv_at hl 1 rfl) ?_
            refine lv_aload_n (pc := 29) hx hb dX11_boxKey_29 rfl (lv_at hl 1 rfl) ?_
            refine va_get (pc := 30) (D := D) (ci := 11) (v := .int m_boxLevel) (C := RX11) (T := TX11) (N := 42) hx hb hts hinX11 hown hK hP 0 rfl rfl 26 (by decide) w_3 (fun _ h9 => h9) rfl dX11_boxKey_30 ?_
            refine lv_iload_n (pc := 33) hx hb dX11_boxKey_33 rfl (lv_at hl 3 rfl) ?_
            refine lv_aload_n (pc := 34) hx hb dX11_boxKey_34 rfl (lv_at hl 1 rfl) ?_
            refine lv_iload_n (pc := 35) hx hb dX11_boxKey_35 rfl (lv_at hl 3 rfl) ?_
            obtain ⟨v6, hm36, hf⟩ := q_b1_e hf
            refine q_cVr (pc := 36) (As := [.int v2]) (rest := [.int v2, .int m_boxLevel, .ref a_m]) (v0 := (some (.int v6))) ⟨hx, hb, hml, hown, hts⟩ hK hA hZ hP hD hS hl.1 [0, 1, 2] 4 rfl ⟨rfl, rfl, rfl⟩ (c_M_westOf l D ci A sa N (Rw) a_m a_m_cutRows a_m_cutColumns a_m_deep a_m_wide a_m_zonesAhead a_m_nameOne a_m_nameOther a_m_tape a_m_edges a_m_dist a_m_queue a_m_pieceLevel a_m_pieceKey a_m_pieceYear a_m_drawnKeys a_m_kept a_m_noNumbers m_taped m_place m_fault m_number m_levelRead m_keyRead m_reads m_faults m_cutShort m_noNumber m_bottomLat m_bottomLon m_firstBeside m_manyBeside m_queued m_boxLevel m_boxTop m_boxBottom m_boxWest m_boxEast m_isEarly m_pieces m_states m_drawnNow m_keptAt m_deep m_wide v2 v6 hm36) 0 rfl rfl (cwV 1 hts gX11_boxKey_X11_westOf rfl rfl rfl (by decide +kernel) ⟨Nat.le_of_ble_eq_true rfl, Nat.le_of_ble_eq_true rfl⟩) rfl rfl (Nat.le_of_ble_eq_true rfl) dX11_boxKey_36 ⟨Nat.zero_le _, Nat.zero_le _⟩ (fun locs hS => ?_)
            refine lv_iload_n (pc := 39) hx hb dX11_boxKey_39 rfl (lv_at hl 2 rfl) ?_
            refine lv_iadd (pc := 40) hx hb dX11_boxKey_40 ?_
            refine lv_aload_n (pc := 41) hx hb dX11_boxKey_41 rfl (lv_at hl 1 rfl) ?_
            refine lv_aload_n (pc := 42) hx hb dX11_boxKey_42 rfl (lv_at hl 1 rfl) ?_
            refine va_get (pc := 43) (D := D) (ci := 11) (v := .int m_boxLevel) (C := RX11) (T := TX11) (N := 42) hx hb hts hinX11 hown hK hP 0 rfl rfl 26 (by decide) w_3 (fun _ h9 => h9) rfl dX11_boxKey_43 ?_
            refine lv_iload_n (pc := 46) hx hb dX11_boxKey_46 rfl (lv_at hl 3 rfl) ?_
            obtain ⟨v7, hm47, hf⟩ := q_b1_e hf
            refine q_cVr (pc := 47) (As := [.int m_boxLevel, .int v2]) (rest := [.int (v6 + v1), .int v2, .int m_boxLevel, .ref a_m]) (v0 := (some (.int v7))) ⟨hx, hb, hml, hown, hts⟩ hK hA hZ hP hD hS hl.1 [0, 1, 2] 4 rfl ⟨rfl, rfl, rfl⟩ (c_M_many l D ci A sa N (Rw) a_m a_m_cutRows a_m_cutColumns a_m_deep a_m_wide a_m_zonesAhead a_m_nameOne a_m_nameOther a_m_tape a_m_edges a_m_dist a_m_queue a_m_pieceLevel a_m_pieceKey a_m_pieceYear a_m_drawnKeys a_m_kept a_m_noNumbers m_taped m_place m_fault m_number m_levelRead m_keyRead m_reads m_faults m_cutShort m_noNumber m_bottomLat m_bottomLon m_firstBeside m_manyBeside m_queued m_boxLevel m_boxTop m_boxBottom m_boxWest m_boxEast m_isEarly m_pieces m_states m_drawnNow m_keptAt m_deep m_wide m_boxLevel v2 v7 hm47) 0 rfl rfl (cwV 2 hts gX11_boxKey_X11_many rfl rfl rfl (by decide +kernel) ⟨Nat.le_of_ble_eq_true rfl, Nat.le_of_ble_eq_true rfl⟩) rfl rfl (Nat.le_of_ble_eq_true rfl) dX11_boxKey_47 ⟨Nat.zero_le _, Nat.zero_le _⟩ (fun locs hS => ?_)
            refine q_irem (pc := 50) hx hb dX11_boxKey_50 hf (fun v8 hf => ?_)
            obtain ⟨v9, hm51, hf⟩ := q_b1_e hf
            refine q_cVr (pc := 51) (As := [.int m_boxLevel, .int v2, .int v8]) (rest := []) (v0 := (some (.int v9))) ⟨hx, hb, hml, hown, hts⟩ hK hA hZ hP hD hS hl.1 [0, 1, 2, 3] 4 rfl ⟨rfl, rfl, rfl⟩ (c_M_keyOf l D ci A sa N (Rw) a_m a_m_cutRows a_m_cutColumns a_m_deep a_m_wide a_m_zonesAhead a_m_nameOne a_m_nameOther a_m_tape a_m_edges a_m_dist a_m_queue a_m_pieceLevel a_m_pieceKey a_m_pieceYear a_m_drawnKeys a_m_kept a_m_noNumbers m_taped m_place m_fault m_number m_levelRead m_keyRead m_reads m_faults m_cutShort m_noNumber m_bottomLat m_bottomLon m_firstBeside m_manyBeside m_queued m_boxLevel m_boxTop m_boxBottom m_boxWest m_boxEast m_isEarly m_pieces m_states m_drawnNow m_keptAt m_deep m_wide m_zonesAhead m_boxLevel v2 v8 v9 hm51) 0 rfl rfl (cwV 3 hts gX11_boxKey_X11_keyOf rfl rfl rfl (by decide +kernel) ⟨Nat.le_of_ble_eq_true rfl, Nat.le_of_ble_eq_true rfl⟩) rfl rfl (Nat.le_of_ble_eq_true rfl) dX11_boxKey_51 ⟨Nat.zero_le _, Nat.zero_le _⟩ (fun locs hS => ?_)
            obtain rfl := Option.some.inj hf
            have hk7 : (v9 : Int32) = r := hk7
            obtain rfl := hk7
            rw [hQ]
            exact q_iretr (pc := 54) hx hb hr hlocks rfl hS dX11_boxKey_54
    exact LP7 N p1 m_boxTop _ _ _ hm7 rfl hS (lv_sub hl [2, 1, 0] rfl)
  exact hgo _ _ rfl hP hS
/-! X11_box -/
set_option maxRecDepth 100000 in
set_option maxHeartbeats 4000000 in
theorem c_M_box (l : Launch) (D : va_G) (ci : Nat → ClassId) (A : Nat → Prop) (sa : Nat → Nat) (N : Nat) (Rw : va_W) (a_m : Nat) (a_m_cutRows : Nat) (a_m_cutColumns : Nat) (a_m_deep : Nat) (a_m_wide : Nat) (a_m_zonesAhead : Nat) (a_m_nameOne : Nat) (a_m_nameOther : Nat) (a_m_tape : Nat) (a_m_edges : Nat) (a_m_dist : Nat) (a_m_queue : Nat) (a_m_pieceLevel : Nat) (a_m_pieceKey : Nat) (a_m_pieceYear : Nat) (a_m_drawnKeys : Nat) (a_m_kept : Nat) (a_m_noNumbers : Nat) (m_taped : Int32) (m_place : Int32) (m_fault : Int32) (m_number : Int32) (m_levelRead : Int32) (m_keyRead : Int32) (m_reads : Int32) (m_faults : Int32) (m_cutShort : Int32) (m_noNumber : Int32) (m_bottomLat : Int64) (m_bottomLon : Int64) (m_firstBeside : Int32) (m_manyBeside : Int32) (m_queued : Int32) (m_boxLevel : Int32) (m_boxTop : Int32) (m_boxBottom : Int32) (m_boxWest : Int32) (m_boxEast : Int32) (m_isEarly : Int32) (m_pieces : Int32) (m_states : Int32) (m_drawnNow : Int32) (m_keptAt : Int32) (m_deep : Nat → Int32) (m_wide : Nat → Int32) (m_zonesAhead : Nat → Int32) (p1 : Int32) (p2 : Int32) (p3 : Int32) (p4 : Int32) (p5 : Int32) (p6 : Int32) (r : Int32) (o1 : Int32) (o2 : Int32) (o3 : Int32) (o4 : Int32) (o5 : Int32) (hf : f_M_box N m_deep m_wide m_zonesAhead m_boxLevel m_boxTop m_boxBottom m_boxWest m_boxEast p1 p2 p3 p4 p5 p6 = some (r, o1, o2, o3, o4, o5)) : Met l yX11_box wsX11_box ({ frames := 5, cells := 0, slots := 0, locals := 112 }) (va_Pc [.ref a_m, .int p1, .int p2, .int p3, .int p4, .int p5, .int p6] (q_N D ci A sa ((a_m, .inr (11, (.ref a_m_cutRows :: .ref a_m_cutColumns :: .ref a_m_deep :: .ref a_m_wide :: .ref a_m_zonesAhead :: .ref a_m_nameOne :: .ref a_m_nameOther :: .ref a_m_tape :: .int m_taped :: .int m_place :: .int m_fault :: .int m_number :: .int m_levelRead :: .int m_keyRead :: .int m_reads :: .int m_faults :: .int m_cutShort :: .int m_noNumber :: .long m_bottomLat :: .long m_bottomLon :: .ref a_m_edges :: .int m_firstBeside :: .int m_manyBeside :: .ref a_m_dist :: .ref a_m_queue :: .int m_queued :: .int m_boxLevel :: .int m_boxTop :: .int m_boxBottom :: .int m_boxWest :: .int m_boxEast :: .int m_isEarly :: .int m_pieces :: .int m_states :: .ref a_m_pieceLevel :: .ref a_m_pieceKey :: .ref a_m_pieceYear :: .int m_drawnNow :: .ref a_m_drawnKeys :: .ref a_m_kept :: .int m_keptAt :: .ref a_m_noNumbers :: []))) :: (a_m_deep, .inl (ci 0, 5, .inl m_deep)) :: (a_m_wide, .inl (ci 0, 5, .inl m_wide)) :: (a_m_zonesAhead, .inl (ci 0, 45, .inl m_zonesAhead)) :: Rw))) (q_Q (some (.int r)) (q_O D A ((a_m, .inr (11, (.ref a_m_cutRows :: .ref a_m_cutColumns :: .ref a_m_deep :: .ref a_m_wide :: .ref a_m_zonesAhead :: .ref a_m_nameOne :: .ref a_m_nameOther :: .ref a_m_tape :: .int m_taped :: .int m_place :: .int m_fault :: .int m_number :: .int m_levelRead :: .int m_keyRead :: .int m_reads :: .int m_faults :: .int m_cutShort :: .int m_noNumber :: .long m_bottomLat :: .long m_bottomLon :: .ref a_m_edges :: .int m_firstBeside :: .int m_manyBeside :: .ref a_m_dist :: .ref a_m_queue :: .int m_queued :: .int o1 :: .int o2 :: .int o3 :: .int o4 :: .int o5 :: .int m_isEarly :: .int m_pieces :: .int m_states :: .ref a_m_pieceLevel :: .ref a_m_pieceKey :: .ref a_m_pieceYear :: .int m_drawnNow :: .ref a_m_drawnKeys :: .ref a_m_kept :: .int m_keptAt :: .ref a_m_noNumbers :: []))) :: (a_m_deep, .inl (ci 0, 5, .inl m_deep)) :: (a_m_wide, .inl (ci 0, 5, .inl m_wide)) :: (a_m_zonesAhead, .inl (ci 0, 45, .inl m_zonesAhead)) :: Rw)) A) 0 0 A := by
  refine q_ofW (cc := cX11_box) (maxL := 8) (ret := (some .int)) [.ref a_m, .int p1, .int p2, .int p3, .int p4, .int p5, .int p6] (plainFor_of_name (by decide)) rfl (Nat.le_of_ble_eq_true rfl) ?_
  intro p e s m below meth c ls Q hQ hx hb hml hr hts hown hlocks hK hA hZ hP hD hS hl
  have hl : lv_has ls 8 [(0, .ref a_m), (1, .int p1), (2, .int p2), (3, .int p3), (4, .int p4), (5, .int p5), (6, .int p6)] := hl
  have hown : s.vm.findClass RX11 = some m.cls := hown
  unfold f_M_box at hf
  have hgo : ∀ (H : Heap) (locs : List Loc), H = s.heap → va_P D vwCl ((a_m, .inr (11, (.ref a_m_cutRows :: .ref a_m_cutColumns :: .ref a_m_deep :: .ref a_m_wide :: .ref a_m_zonesAhead :: .ref a_m_nameOne :: .ref a_m_nameOther :: .ref a_m_tape :: .int m_taped :: .int m_place :: .int m_fault :: .int m_number :: .int m_levelRead :: .int m_keyRead :: .int m_reads :: .int m_faults :: .int m_cutShort :: .int m_noNumber :: .long m_bottomLat :: .long m_bottomLon :: .ref a_m_edges :: .int m_firstBeside :: .int m_manyBeside :: .ref a_m_dist :: .ref a_m_queue :: .int m_queued :: .int m_boxLevel :: .int m_boxTop :: .int m_boxBottom :: .int m_boxWest :: .int m_boxEast :: .int m_isEarly :: .int m_pieces :: .int m_states :: .ref a_m_pieceLevel :: .ref a_m_pieceKey :: .ref a_m_pieceYear :: .int m_drawnNow :: .ref a_m_drawnKeys :: .ref a_m_kept :: .int m_keptAt :: .ref a_m_noNumbers :: []))) :: (a_m_deep, .inl (ci 0, 5, .inl m_deep)) :: (a_m_wide, .inl (ci 0, 5, .inl m_wide)) :: (a_m_zonesAhead, .inl (ci 0, 45, .inl m_zonesAhead)) :: Rw) H → va_S A s.heap H locs → W p l e ({ frames := 5, cells := 0, slots := 0, locals := 112 } : Room) s m ([.ref a_m, .int p1, .int p2, .int p3, .int p4, .int p5, .int p6] : List Value).toArray below meth c H locs 0 0 Q (F0 m 0 ls []) := by
    intro H locs hH hP hS
    refine lv_aload_n (pc := 0) hx hb dX11_box_0 rfl (lv_at hl 0 rfl) ?_
    refine lv_iload_n (pc := 1) hx hb dX11_box_1 rfl (lv_at hl 1 rfl) ?_
    refine lv_iload_n (pc := 2) hx hb dX11_box_2 rfl (lv_at hl 2 rfl) ?_
    refine lv_iload_n (pc := 3) hx hb dX11_box_3 rfl (lv_at hl 3 rfl) ?_
    refine lv_iload (pc := 4) hx hb dX11_box_4 (lv_at hl 4 rfl) ?_
    obtain ⟨v1, hm6, hf⟩ := q_b1_e hf
    refine q_cVr (pc := 6) (As := [.int p1, .int p2, .int p3, .int p4]) (rest := []) (v0 := (some (.int v1))) ⟨hx, hb, hml, hown, hts⟩ hK hA hZ hP hD hS hl.1 [0] 4 rfl ⟨rfl, rfl, rfl⟩ (c_M_isBox l D ci A sa N (Rw) a_m a_m_cutRows a_m_cutColumns a_m_deep a_m_wide a_m_zonesAhead a_m_nameOne a_m_nameOther a_m_tape a_m_edges a_m_dist a_m_queue a_m_pieceLevel a_m_pieceKey a_m_pieceYear a_m_drawnKeys a_m_kept a_m_noNumbers m_taped m_place m_fault m_number m_levelRead m_keyRead m_reads m_faults m_cutShort m_noNumber m_bottomLat m_bottomLon m_firstBeside m_manyBeside m_queued m_boxLevel m_boxTop m_boxBottom m_boxWest m_boxEast m_isEarly m_pieces m_states m_drawnNow m_keptAt p1 p2 p3 p4 v1 hm6) 0 rfl rfl (cwV 4 hts gX11_box_X11_isBox rfl rfl rfl (by decide +kernel) ⟨Nat.le_of_ble_eq_true rfl, Nat.le_of_ble_eq_true rfl⟩) rfl rfl (Nat.le_of_ble_eq_true rfl) dX11_box_6 ⟨Nat.zero_le _, Nat.zero_le _⟩ (fun locs hS => ?_)
    refine q_if_eq (pc := 9) (tgt := 26) hx hb dX11_box_9 (by decide) rfl hf (fun hf => ?_) (fun hf => ?_)
    · refine lv_iconst (pc := 26) (v := (-1)) hx hb dX11_box_26 (by decide) ?_
      obtain ⟨e90, e91, e92, e93, e94, e95⟩ := q_inj6 (Option.some.inj hf)
      rw [hQ, ← e90, ← e91, ← e92, ← e93, ← e94, ← e95]
      exact q_iret (pc := 27) hx hb hr hlocks hP hD hS dX11_box_27
    · refine lv_iload (pc := 12) hx hb dX11_box_12 (lv_at hl 5 rfl) ?_
      obtain ⟨v2, hm14, hf⟩ := q_b1_e hf
      refine q_cSr (pc := 14) (As := [.int p5]) (rest := []) (v0 := (some (.int v2))) ⟨hx, hb, hml, hown, hts⟩ hK hA hZ hP hD hS hl.1 [] 4 rfl ⟨rfl, rfl, rfl⟩ (c_M_isLevel l D ci A sa N (Rw) p5 v2 hm14) (va_cwS 1 hts gX11_box_X11_isLevel rfl rfl rfl (by decide +kernel) ⟨Nat.le_of_ble_eq_true rfl, Nat.le_of_ble_eq_true rfl⟩) rfl rfl (Nat.le_of_ble_eq_true rfl) dX11_box_14 ⟨Nat.zero_le _, Nat.zero_le _⟩ (fun locs hS => ?_)
      refine q_if_eq (pc := 17) (tgt := 26) hx hb dX11_box_17 (by decide) rfl hf (fun hf => ?_) (fun hf => ?_)
      · refine lv_iconst (pc := 26) (v := (-1)) hx hb dX11_box_26 (by decide) ?_
        obtain ⟨e90, e91, e92, e93, e94, e95⟩ := q_inj6 (Option.some.inj hf)
        rw [hQ, ← e90, ← e91, ← e92, ← e93, ← e94, ← e95]
        exact q_iret (pc := 27) hx hb hr hlocks hP hD hS dX11_box_27
      · refine lv_iload (pc := 20) hx hb dX11_box_20 (lv_at hl 6 rfl) ?_
        refine lv_iconst (pc := 22) (v := (-1)) hx hb dX11_box_22 (by decide) ?_
        refine q_icmp_ge (pc := 23) (tgt := 28) hx hb dX11_box_23 (by decide) rfl hf (fun hf => ?_) (fun hf => ?_)
        · refine lv_aload_n (pc := 28) hx hb dX11_box_28 rfl (lv_at hl 0 rfl) ?_
          refine lv_iload_n (pc := 29) hx hb dX11_box_29 rfl (lv_at hl 1 rfl) ?_
          refine lv_iload_n (pc := 30) hx hb dX11_box_30 rfl (lv_at hl 2 rfl) ?_
          refine lv_iload_n (pc := 31) hx hb dX11_box_31 rfl (lv_at hl 3 rfl) ?_
          refine lv_iload (pc := 32) hx hb dX11_box_32 (lv_at hl 4 rfl) ?_
          refine lv_iload (pc := 34) hx hb dX11_box_34 (lv_at hl 5 rfl) ?_
          obtain ⟨v3, v4, v5, v6, v7, hm36, hf⟩ := q_b5_e hf
          refine q_cV (pc := 36) (As := [.int p1, .int p2, .int p3, .int p4, .int p5]) (rest := []) (v0 := none) ⟨hx, hb, hml, hown, hts⟩ hK hA hZ hP hD hS hl.1 [0, 1, 2, 3] 4 rfl ⟨rfl, rfl, rfl⟩ (c_M_laysBox l D ci A sa N ((a_m_wide, .inl (ci 0, 5, .inl m_wide)) :: (a_m_zonesAhead, .inl (ci 0, 45, .inl m_zonesAhead)) :: Rw) a_m a_m_cutRows a_m_cutColumns a_m_deep a_m_wide a_m_zonesAhead a_m_nameOne a_m_nameOther a_m_tape a_m_edges a_m_dist a_m_queue a_m_pieceLevel a_m_pieceKey a_m_pieceYear a_m_drawnKeys a_m_kept a_m_noNumbers m_taped m_place m_fault m_number m_levelRead m_keyRead m_reads m_faults m_cutShort m_noNumber m_bottomLat m_bottomLon m_firstBeside m_manyBeside m_queued m_boxLevel m_boxTop m_boxBottom m_boxWest m_boxEast m_isEarly m_pieces m_states m_drawnNow m_keptAt m_deep p1 p2 p3 p4 p5 v3 v4 v5 v6 v7 hm36) 0 rfl rfl (cwV 5 hts gX11_box_X11_laysBox rfl rfl rfl (by decide +kernel) ⟨Nat.le_of_ble_eq_true rfl, Nat.le_of_ble_eq_true rfl⟩) rfl rfl (Nat.le_of_ble_eq_true rfl) dX11_box_36 ⟨Nat.zero_le _, Nat.zero_le _⟩ [0, 1, 2, 3] 4 rfl ⟨rfl, rfl, rfl⟩ (fun H locs hP hD hS => ?_)
          obtain ⟨hP, hD⟩ : va_PD D A ((a_m, .inr (11, (.ref a_m_cutRows :: .ref a_m_cutColumns :: .ref a_m_deep :: .ref a_m_wide :: .ref a_m_zonesAhead :: .ref a_m_nameOne :: .ref a_m_nameOther :: .ref a_m_tape :: .int m_taped :: .int m_place :: .int m_fault :: .int m_number :: .int m_levelRead :: .int m_keyRead :: .int m_reads :: .int m_faults :: .int m_cutShort :: .int m_noNumber :: .long m_bottomLat :: .long m_bottomLon :: .ref a_m_edges :: .int m_firstBeside :: .int m_manyBeside :: .ref a_m_dist :: .ref a_m_queue :: .int m_queued :: .int v3 :: .int v4 :: .int v5 :: .int v6 :: .int v7 :: .int m_isEarly :: .int m_pieces :: .int m_states :: .ref a_m_pieceLevel :: .ref a_m_pieceKey :: .ref a_m_pieceYear :: .int m_drawnNow :: .ref a_m_drawnKeys :: .ref a_m_kept :: .int m_keptAt :: .ref a_m_noNumbers :: []))) :: (a_m_deep, .inl (ci 0, 5, .inl m_deep)) :: (a_m_wide, .inl (ci 0, 5, .inl m_wide)) :: (a_m_zonesAhead, .inl (ci 0, 45, .inl m_zonesAhead)) :: Rw) H := ⟨hP, hD⟩
          refine lv_aload_n (pc := 39) hx hb dX11_box_39 rfl (lv_at hl 0 rfl) ?_
          obtain ⟨v8, hm40, hf⟩ := q_b1_e hf
          refine q_cVr (pc := 40) (As := []) (rest := []) (v0 := (some (.int v8))) ⟨hx, hb, hml, hown, hts⟩ hK hA hZ hP hD hS hl.1 [0, 1, 2] 4 rfl ⟨rfl, rfl, rfl⟩ (c_M_boxAll l D ci A sa N (Rw) a_m a_m_cutRows a_m_cutColumns a_m_deep a_m_wide a_m_zonesAhead a_m_nameOne a_m_nameOther a_m_tape a_m_edges a_m_dist a_m_queue a_m_pieceLevel a_m_pieceKey a_m_pieceYear a_m_drawnKeys a_m_kept a_m_noNumbers m_taped m_place m_fault m_number m_levelRead m_keyRead m_reads m_faults m_cutShort m_noNumber m_bottomLat m_bottomLon m_firstBeside m_manyBeside m_queued v3 v4 v5 v6 v7 m_isEarly m_pieces m_states m_drawnNow m_keptAt m_deep m_wide v8 hm40) 0 rfl rfl (cwV 0 hts gX11_box_X11_boxAll rfl rfl rfl (by decide +kernel) ⟨Nat.le_of_ble_eq_true rfl, Nat.le_of_ble_eq_true rfl⟩) rfl rfl (Nat.le_of_ble_eq_true rfl) dX11_box_40 ⟨Nat.zero_le _, Nat.zero_le _⟩ (fun locs hS => ?_)
          refine lv_istore (pc := 43) (lv' := [(7, .int v8), (0, .ref a_m), (1, .int p1), (2, .int p2), (3, .int p3), (4, .int p4), (5, .int p5), (6, .int p6)]) hx hb dX11_box_43 hl (by decide) rfl (fun ls hl => ?_)
          refine lv_iload (pc := 45) hx hb dX11_box_45 (lv_at hl 7 rfl) ?_
          refine lv_iconst (pc := 47) (v := (-1)) hx hb dX11_box_47 (by decide) ?_
          refine q_icmp_ne (pc := 48) (tgt := 56) hx hb dX11_box_48 (by decide) rfl hf (fun hf => ?_) (fun hf => ?_)
          · refine lv_iload (pc := 56) hx hb dX11_box_56 (lv_at hl 7 rfl) ?_
            refine lv_iload (pc := 58) hx hb dX11_box_58 (lv_at hl 0 rfl) ?_
            refine q_icmp_ge (pc := 60) (tgt := 72) hx hb dX11_box_60 (by decide) rfl hf (fun hf => ?_) (fun hf => ?_)
            · refine lv_bipush (pc := 72) (v := (-2)) hx hb dX11_box_72 (by decide) ?_
              obtain ⟨e90, e91, e92, e93, e94, e95⟩ := q_inj6 (Option.some.inj hf)
              rw [hQ, ← e90, ← e91, ← e92, ← e93, ← e94, ← e95]
              exact q_iret (pc := 74) hx hb hr hlocks hP hD hS dX11_box_74
            · refine lv_aload_n (pc := 63) hx hb dX11_box_63 rfl (lv_at hl 1 rfl) ?_
              refine lv_iload (pc := 64) hx hb dX11_box_64 (lv_at hl 7 rfl) ?_
              obtain ⟨v9, hm66, hf⟩ := q_b1_e hf
              refine q_cVr (pc := 66) (As := [.int p6]) (rest := []) (v0 := (some (.int v9))) ⟨hx, hb, hml, hown, hts⟩ hK hA hZ hP hD hS hl.1 [0, 1, 2, 3] 4 rfl ⟨rfl, rfl, rfl⟩ (c_M_boxKey l D ci A sa N (Rw) a_m a_m_cutRows a_m_cutColumns a_m_deep a_m_wide a_m_zonesAhead a_m_nameOne a_m_nameOther a_m_tape a_m_edges a_m_dist a_m_queue a_m_pieceLevel a_m_pieceKey a_m_pieceYear a_m_drawnKeys a_m_kept a_m_noNumbers m_taped m_place m_fault m_number m_levelRead m_keyRead m_reads m_faults m_cutShort m_noNumber m_bottomLat m_bottomLon m_firstBeside m_manyBeside m_queued v3 v4 v5 v6 v7 m_isEarly m_pieces m_states m_drawnNow m_keptAt m_deep m_wide m_zonesAhead p6 v9 hm66) 0 rfl rfl (cwV 1 hts gX11_box_X11_boxKey rfl rfl rfl (by decide +kernel) ⟨Nat.le_of_ble_eq_true rfl, Nat.le_of_ble_eq_true rfl⟩) rfl rfl (Nat.le_of_ble_eq_true rfl) dX11_box_66 ⟨Nat.zero_le _, Nat.zero_le _⟩ (fun locs hS => ?_)
              refine lv_goto (pc := 69) (tgt := 74) hx hb dX11_box_69 (by decide) ?_
              obtain ⟨e90, e91, e92, e93, e94, e95⟩ := q_inj6 (Option.some.inj hf)
              rw [hQ, ← e90, ← e91, ← e92, ← e93, ← e94, ← e95]
              exact q_iret (pc := 74) hx hb hr hlocks hP hD hS dX11_box_74
          · refine lv_iload (pc := 51) hx hb dX11_box_51 (lv_at hl 0 rfl) ?_
            refine lv_goto (pc := 53) (tgt := 74) hx hb dX11_box_53 (by decide) ?_
            obtain ⟨e90, e91, e92, e93, e94, e95⟩ := q_inj6 (Option.some.inj hf)
            rw [hQ, ← e90, ← e91, ← e92, ← e93, ← e94, ← e95]
            exact q_iret (pc := 74) hx hb hr hlocks hP hD hS dX11_box_74
        · refine lv_iconst (pc := 26) (v := (-1)) hx hb dX11_box_26 (by decide) ?_
          obtain ⟨e90, e91, e92, e93, e94, e95⟩ := q_inj6 (Option.some.inj hf)
          rw [hQ, ← e90, ← e91, ← e92, ← e93, ← e94, ← e95]
          exact q_iret (pc := 27) hx hb hr hlocks hP hD hS dX11_box_27
  exact hgo _ _ rfl hP hS
/-! X11_keyAtPlace -/
set_option maxRecDepth 100000 in
set_option maxHeartbeats 4000000 in
theorem c_M_keyAtPlace (l : Launch) (D : va_G) (ci : Nat → ClassId) (A : Nat → Prop) (sa : Nat → Nat) (N : Nat) (Rw : va_W) (a_m : Nat) (a_m_cutRows : Nat) (a_m_cutColumns : Nat) (a_m_deep : Nat) (a_m_wide : Nat) (a_m_zonesAhead : Nat) (a_m_nameOne : Nat) (a_m_nameOther : Nat) (a_m_tape : Nat) (a_m_edges : Nat) (a_m_dist : Nat) (a_m_queue : Nat) (a_m_pieceLevel : Nat) (a_m_pieceKey : Nat) (a_m_pieceYear : Nat) (a_m_drawnKeys : Nat) (a_m_kept : Nat) (a_m_noNumbers : Nat) (m_taped : Int32) (m_place : Int32) (m_fault : Int32) (m_number : Int32) (m_levelRead : Int32) (m_keyRead : Int32) (m_reads : Int32) (m_faults : Int32) (m_cutShort : Int32) (m_noNumber : Int32) (m_bottomLat : Int64) (m_bottomLon : Int64) (m_firstBeside : Int32) (m_manyBeside : Int32) (m_queued : Int32) (m_boxLevel : Int32) (m_boxTop : Int32) (m_boxBottom : Int32) (m_boxWest : Int32) (m_boxEast : Int32) (m_isEarly : Int32) (m_pieces : Int32) (m_states : Int32) (m_drawnNow : Int32) (m_keptAt : Int32) (m_deep : Nat → Int32) (m_wide : Nat → Int32) (m_zonesAhead : Nat → Int32) (p1 : Int32) (p2 : Int32) (p3 : Int32) (r : Int32) (hf : f_M_keyAtPlace m_deep m_wide m_zonesAhead p1 p2 p3 = some r) : Met l yX11_keyAtPlace wsX11_keyAtPlace ({ frames := 3, cells := 0, slots := 0, locals := 66 }) (va_Pc [.ref a_m, .int p1, .int p2, .int p3] (q_N D ci A sa ((a_m, .inr (11, (.ref a_m_cutRows :: .ref a_m_cutColumns :: .ref a_m_deep :: .ref a_m_wide :: .ref a_m_zonesAhead :: .ref a_m_nameOne :: .ref a_m_nameOther :: .ref a_m_tape :: .int m_taped :: .int m_place :: .int m_fault :: .int m_number :: .int m_levelRead :: .int m_keyRead :: .int m_reads :: .int m_faults :: .int m_cutShort :: .int m_noNumber :: .long m_bottomLat :: .long m_bottomLon :: .ref a_m_edges :: .int m_firstBeside :: .int m_manyBeside :: .ref a_m_dist :: .ref a_m_queue :: .int m_queued :: .int m_boxLevel :: .int m_boxTop :: .int m_boxBottom :: .int m_boxWest :: .int m_boxEast :: .int m_isEarly :: .int m_pieces :: .int m_states :: .ref a_m_pieceLevel :: .ref a_m_pieceKey :: .ref a_m_pieceYear :: .int m_drawnNow :: .ref a_m_drawnKeys :: .ref a_m_kept :: .int m_keptAt :: .ref a_m_noNumbers :: []))) :: (a_m_deep, .inl (ci 0, 5, .inl m_deep)) :: (a_m_wide, .inl (ci 0, 5, .inl m_wide)) :: (a_m_zonesAhead, .inl (ci 0, 45, .inl m_zonesAhead)) :: Rw))) (q_R (some (.int r))) 0 0 A := by
  refine q_ofW (cc := cX11_keyAtPlace) (maxL := 5) (ret := (some .int)) [.ref a_m, .int p1, .int p2, .int p3] (plainFor_of_name (by decide)) rfl (Nat.le_of_ble_eq_true rfl) ?_
  intro p e s m below meth c ls Q hQ hx hb hml hr hts hown hlocks hK hA hZ hP hD hS hl
  have hl : lv_has ls 5 [(0, .ref a_m), (1, .int p1), (2, .int p2), (3, .int p3)] := hl
  have hown : s.vm.findClass RX11 = some m.cls := hown
  unfold f_M_keyAtPlace at hf
  have hgo : ∀ (H : Heap) (locs : List Loc), H = s.heap → va_P D vwCl ((a_m, .inr (11, (.ref a_m_cutRows :: .ref a_m_cutColumns :: .ref a_m_deep :: .ref a_m_wide :: .ref a_m_zonesAhead :: .ref a_m_nameOne :: .ref a_m_nameOther :: .ref a_m_tape :: .int m_taped :: .int m_place :: .int m_fault :: .int m_number :: .int m_levelRead :: .int m_keyRead :: .int m_reads :: .int m_faults :: .int m_cutShort :: .int m_noNumber :: .long m_bottomLat :: .long m_bottomLon :: .ref a_m_edges :: .int m_firstBeside :: .int m_manyBeside :: .ref a_m_dist :: .ref a_m_queue :: .int m_queued :: .int m_boxLevel :: .int m_boxTop :: .int m_boxBottom :: .int m_boxWest :: .int m_boxEast :: .int m_isEarly :: .int m_pieces :: .int m_states :: .ref a_m_pieceLevel :: .ref a_m_pieceKey :: .ref a_m_pieceYear :: .int m_drawnNow :: .ref a_m_drawnKeys :: .ref a_m_kept :: .int m_keptAt :: .ref a_m_noNumbers :: []))) :: (a_m_deep, .inl (ci 0, 5, .inl m_deep)) :: (a_m_wide, .inl (ci 0, 5, .inl m_wide)) :: (a_m_zonesAhead, .inl (ci 0, 45, .inl m_zonesAhead)) :: Rw) H → va_S A s.heap H locs → W p l e ({ frames := 3, cells := 0, slots := 0, locals := 66 } : Room) s m ([.ref a_m, .int p1, .int p2, .int p3] : List Value).toArray below meth c H locs 0 0 Q (F0 m 0 ls []) := by
    intro H locs hH hP hS
    subst hH
    refine lv_aload_n (pc := 0) hx hb dX11_keyAtPlace_0 rfl (lv_at hl 0 rfl) ?_
    refine lv_iload_n (pc := 1) hx hb dX11_keyAtPlace_1 rfl (lv_at hl 1 rfl) ?_
    refine lv_iload_n (pc := 2) hx hb dX11_keyAtPlace_2 rfl (lv_at hl 3 rfl) ?_
    obtain ⟨v1, hm3, hf⟩ := q_b1_e hf
    refine q_cVr (pc := 3) (As := [.int p1, .int p3]) (rest := []) (v0 := (some (.int v1))) ⟨hx, hb, hml, hown, hts⟩ hK hA hZ hP hD hS hl.1 [0, 1] 4 rfl ⟨rfl, rfl, rfl⟩ (c_M_rowAt l D ci A sa N (Rw) a_m a_m_cutRows a_m_cutColumns a_m_deep a_m_wide a_m_zonesAhead a_m_nameOne a_m_nameOther a_m_tape a_m_edges a_m_dist a_m_queue a_m_pieceLevel a_m_pieceKey a_m_pieceYear a_m_drawnKeys a_m_kept a_m_noNumbers m_taped m_place m_fault m_number m_levelRead m_keyRead m_reads m_faults m_cutShort m_noNumber m_bottomLat m_bottomLon m_firstBeside m_manyBeside m_queued m_boxLevel m_boxTop m_boxBottom m_boxWest m_boxEast m_isEarly m_pieces m_states m_drawnNow m_keptAt m_deep p1 p3 v1 hm3) 0 rfl rfl (cwV 2 hts gX11_keyAtPlace_X11_rowAt rfl rfl rfl (by decide +kernel) ⟨Nat.le_of_ble_eq_true rfl, Nat.le_of_ble_eq_true rfl⟩) rfl rfl (Nat.le_of_ble_eq_true rfl) dX11_keyAtPlace_3 ⟨Nat.zero_le _, Nat.zero_le _⟩ (fun locs hS => ?_)
    refine lv_istore (pc := 6) (lv' := [(4, .int v1), (0, .ref a_m), (1, .int p1), (2, .int p2), (3, .int p3)]) hx hb dX11_keyAtPlace_6 hl (by decide) rfl (fun ls hl => ?_)
    refine lv_aload_n (pc := 8) hx hb dX11_keyAtPlace_8 rfl (lv_at hl 1 rfl) ?_
    refine lv_iload_n (pc := 9) hx hb dX11_keyAtPlace_9 rfl (lv_at hl 4 rfl) ?_
    refine lv_iload (pc := 10) hx hb dX11_keyAtPlace_10 (lv_at hl 0 rfl) ?_
    refine lv_aload_n (pc := 12) hx hb dX11_keyAtPlace_12 rfl (lv_at hl 1 rfl) ?_
    refine lv_iload_n (pc := 13) hx hb dX11_keyAtPlace_13 rfl (lv_at hl 3 rfl) ?_
    refine lv_aload_n (pc := 14) hx hb dX11_keyAtPlace_14 rfl (lv_at hl 1 rfl) ?_
    refine lv_iload_n (pc := 15) hx hb dX11_keyAtPlace_15 rfl (lv_at hl 4 rfl) ?_
    refine lv_iload (pc := 16) hx hb dX11_keyAtPlace_16 (lv_at hl 0 rfl) ?_
    obtain ⟨v2, hm18, hf⟩ := q_b1_e hf
    refine q_cVr (pc := 18) (As := [.int p3, .int v1]) (rest := [.int p2, .ref a_m, .int v1, .int p3, .ref a_m]) (v0 := (some (.int v2))) ⟨hx, hb, hml, hown, hts⟩ hK hA hZ hP hD hS hl.1 [0, 1, 2] 4 rfl ⟨rfl, rfl, rfl⟩ (c_M_many l D ci A sa N (Rw) a_m a_m_cutRows a_m_cutColumns a_m_deep a_m_wide a_m_zonesAhead a_m_nameOne a_m_nameOther a_m_tape a_m_edges a_m_dist a_m_queue a_m_pieceLevel a_m_pieceKey a_m_pieceYear a_m_drawnKeys a_m_kept a_m_noNumbers m_taped m_place m_fault m_number m_levelRead m_keyRead m_reads m_faults m_cutShort m_noNumber m_bottomLat m_bottomLon m_firstBeside m_manyBeside m_queued m_boxLevel m_boxTop m_boxBottom m_boxWest m_boxEast m_isEarly m_pieces m_states m_drawnNow m_keptAt m_deep m_wide p3 v1 v2 hm18) 0 rfl rfl (cwV 2 hts gX11_keyAtPlace_X11_many rfl rfl rfl (by decide +kernel) ⟨Nat.le_of_ble_eq_true rfl, Nat.le_of_ble_eq_true rfl⟩) rfl rfl (Nat.le_of_ble_eq_true rfl) dX11_keyAtPlace_18 ⟨Nat.zero_le _, Nat.zero_le _⟩ (fun locs hS => ?_)
    obtain ⟨v3, hm21, hf⟩ := q_b1_e hf
    refine q_cVr (pc := 21) (As := [.int p2, .int v2]) (rest := [.int v1, .int p3, .ref a_m]) (v0 := (some (.int v3))) ⟨hx, hb, hml, hown, hts⟩ hK hA hZ hP hD hS hl.1 [0] 4 rfl ⟨rfl, rfl, rfl⟩ (c_M_placeAt l D ci A sa N (Rw) a_m a_m_cutRows a_m_cutColumns a_m_deep a_m_wide a_m_zonesAhead a_m_nameOne a_m_nameOther a_m_tape a_m_edges a_m_dist a_m_queue a_m_pieceLevel a_m_pieceKey a_m_pieceYear a_m_drawnKeys a_m_kept a_m_noNumbers m_taped m_place m_fault m_number m_levelRead m_keyRead m_reads m_faults m_cutShort m_noNumber m_bottomLat m_bottomLon m_firstBeside m_manyBeside m_queued m_boxLevel m_boxTop m_boxBottom m_boxWest m_boxEast m_isEarly m_pieces m_states m_drawnNow m_keptAt p2 v2 v3 hm21) 0 rfl rfl (cwV 2 hts gX11_keyAtPlace_X11_placeAt rfl rfl rfl (by decide +kernel) ⟨Nat.le_of_ble_eq_true rfl, Nat.le_of_ble_eq_true rfl⟩) rfl rfl (Nat.le_of_ble_eq_true rfl) dX11_keyAtPlace_21 ⟨Nat.zero_le _, Nat.zero_le _⟩ (fun locs hS => ?_)
    obtain ⟨v4, hm24, hf⟩ := q_b1_e hf
    refine q_cVr (pc := 24) (As := [.int p3, .int v1, .int v3]) (rest := []) (v0 := (some (.int v4))) ⟨hx, hb, hml, hown, hts⟩ hK hA hZ hP hD hS hl.1 [0, 1, 2, 3] 4 rfl ⟨rfl, rfl, rfl⟩ (c_M_keyOf l D ci A sa N (Rw) a_m a_m_cutRows a_m_cutColumns a_m_deep a_m_wide a_m_zonesAhead a_m_nameOne a_m_nameOther a_m_tape a_m_edges a_m_dist a_m_queue a_m_pieceLevel a_m_pieceKey a_m_pieceYear a_m_drawnKeys a_m_kept a_m_noNumbers m_taped m_place m_fault m_number m_levelRead m_keyRead m_reads m_faults m_cutShort m_noNumber m_bottomLat m_bottomLon m_firstBeside m_manyBeside m_queued m_boxLevel m_boxTop m_boxBottom m_boxWest m_boxEast m_isEarly m_pieces m_states m_drawnNow m_keptAt m_deep m_wide m_zonesAhead p3 v1 v3 v4 hm24) 0 rfl rfl (cwV 3 hts gX11_keyAtPlace_X11_keyOf rfl rfl rfl (by decide +kernel) ⟨Nat.le_of_ble_eq_true rfl, Nat.le_of_ble_eq_true rfl⟩) rfl rfl (Nat.le_of_ble_eq_true rfl) dX11_keyAtPlace_24 ⟨Nat.zero_le _, Nat.zero_le _⟩ (fun locs hS => ?_)
    obtain rfl := Option.some.inj hf
    rw [hQ]
    exact q_iretr (pc := 27) hx hb hr hlocks rfl hS dX11_keyAtPlace_27
  exact hgo _ _ rfl hP hS
/-! X11_changes -/
set_option maxRecDepth 100000 in
set_option maxHeartbeats 4000000 in
theorem c_M_changes (l : Launch) (D : va_G) (ci : Nat → ClassId) (A : Nat → Prop) (sa : Nat → Nat) (N : Nat) (Rw : va_W) (a_m : Nat) (a_m_cutRows : Nat) (a_m_cutColumns : Nat) (a_m_deep : Nat) (a_m_wide : Nat) (a_m_zonesAhead : Nat) (a_m_nameOne : Nat) (a_m_nameOther : Nat) (a_m_tape : Nat) (a_m_edges : Nat) (a_m_dist : Nat) (a_m_queue : Nat) (a_m_pieceLevel : Nat) (a_m_pieceKey : Nat) (a_m_pieceYear : Nat) (a_m_drawnKeys : Nat) (a_m_kept : Nat) (a_m_noNumbers : Nat) (m_taped : Int32) (m_place : Int32) (m_fault : Int32) (m_number : Int32) (m_levelRead : Int32) (m_keyRead : Int32) (m_reads : Int32) (m_faults : Int32) (m_cutShort : Int32) (m_noNumber : Int32) (m_bottomLat : Int64) (m_bottomLon : Int64) (m_firstBeside : Int32) (m_manyBeside : Int32) (m_queued : Int32) (m_boxLevel : Int32) (m_boxTop : Int32) (m_boxBottom : Int32) (m_boxWest : Int32) (m_boxEast : Int32) (m_isEarly : Int32) (m_pieces : Int32) (m_states : Int32) (m_drawnNow : Int32) (m_keptAt : Int32) (m_deep : Nat → Int32) (m_wide : Nat → Int32) (m_zonesAhead : Nat → Int32) (p1 : Int32) (p2 : Int32) (p3 : Int32) (p4 : Int32) (p5 : Int32) (p6 : Int32) (r : Int32) (hf : f_M_changes N m_deep m_wide m_zonesAhead p1 p2 p3 p4 p5 p6 = some r) : Met l yX11_changes wsX11_changes ({ frames := 4, cells := 0, slots := 0, locals := 90 }) (va_Pc [.ref a_m, .int p1, .int p2, .int p3, .int p4, .int p5, .int p6] (q_N D ci A sa ((a_m, .inr (11, (.ref a_m_cutRows :: .ref a_m_cutColumns :: .ref a_m_deep :: .ref a_m_wide :: .ref a_m_zonesAhead :: .ref a_m_nameOne :: .ref a_m_nameOther :: .ref a_m_tape :: .int m_taped :: .int m_place :: .int m_fault :: .int m_number :: .int m_levelRead :: .int m_keyRead :: .int m_reads :: .int m_faults :: .int m_cutShort :: .int m_noNumber :: .long m_bottomLat :: .long m_bottomLon :: .ref a_m_edges :: .int m_firstBeside :: .int m_manyBeside :: .ref a_m_dist :: .ref a_m_queue :: .int m_queued :: .int m_boxLevel :: .int m_boxTop :: .int m_boxBottom :: .int m_boxWest :: .int m_boxEast :: .int m_isEarly :: .int m_pieces :: .int m_states :: .ref a_m_pieceLevel :: .ref a_m_pieceKey :: .ref a_m_pieceYear :: .int m_drawnNow :: .ref a_m_drawnKeys :: .ref a_m_kept :: .int m_keptAt :: .ref a_m_noNumbers :: []))) :: (a_m_deep, .inl (ci 0, 5, .inl m_deep)) :: (a_m_wide, .inl (ci 0, 5, .inl m_wide)) :: (a_m_zonesAhead, .inl (ci 0, 45, .inl m_zonesAhead)) :: Rw))) (q_R (some (.int r))) 0 0 A := by
  refine q_ofW (cc := cX11_changes) (maxL := 13) (ret := (some .int)) [.ref a_m, .int p1, .int p2, .int p3, .int p4, .int p5, .int p6] (plainFor_of_name (by decide)) rfl (Nat.le_of_ble_eq_true rfl) ?_
  intro p e s m below meth c ls Q hQ hx hb hml hr hts hown hlocks hK hA hZ hP hD hS hl
  have hl : lv_has ls 13 [(0, .ref a_m), (1, .int p1), (2, .int p2), (3, .int p3), (4, .int p4), (5, .int p5), (6, .int p6)] := hl
  have hown : s.vm.findClass RX11 = some m.cls := hown
  have w_1 := hts (Cond.constantLong RX11 429 (200)) (List.mem_cons_of_mem _ t_w971)
  unfold f_M_changes at hf
  have hgo : ∀ (H : Heap) (locs : List Loc), H = s.heap → va_P D vwCl ((a_m, .inr (11, (.ref a_m_cutRows :: .ref a_m_cutColumns :: .ref a_m_deep :: .ref a_m_wide :: .ref a_m_zonesAhead :: .ref a_m_nameOne :: .ref a_m_nameOther :: .ref a_m_tape :: .int m_taped :: .int m_place :: .int m_fault :: .int m_number :: .int m_levelRead :: .int m_keyRead :: .int m_reads :: .int m_faults :: .int m_cutShort :: .int m_noNumber :: .long m_bottomLat :: .long m_bottomLon :: .ref a_m_edges :: .int m_firstBeside :: .int m_manyBeside :: .ref a_m_dist :: .ref a_m_queue :: .int m_queued :: .int m_boxLevel :: .int m_boxTop :: .int m_boxBottom :: .int m_boxWest :: .int m_boxEast :: .int m_isEarly :: .int m_pieces :: .int m_states :: .ref a_m_pieceLevel :: .ref a_m_pieceKey :: .ref a_m_pieceYear :: .int m_drawnNow :: .ref a_m_drawnKeys :: .ref a_m_kept :: .int m_keptAt :: .ref a_m_noNumbers :: []))) :: (a_m_deep, .inl (ci 0, 5, .inl m_deep)) :: (a_m_wide, .inl (ci 0, 5, .inl m_wide)) :: (a_m_zonesAhead, .inl (ci 0, 45, .inl m_zonesAhead)) :: Rw) H → va_S A s.heap H locs → W p l e ({ frames := 4, cells := 0, slots := 0, locals := 90 } : Room) s m ([.ref a_m, .int p1, .int p2, .int p3, .int p4, .int p5, .int p6] : List Value).toArray below meth c H locs 0 0 Q (F0 m 0 ls []) := by
    intro H locs hH hP hS
    subst hH
    refine lv_iload_n (pc := 0) hx hb dX11_changes_0 rfl (lv_at hl 1 rfl) ?_
    refine lv_iload_n (pc := 1) hx hb dX11_changes_1 rfl (lv_at hl 2 rfl) ?_
    obtain ⟨v1, hm2, hf⟩ := q_b1_e hf
    refine q_cSr (pc := 2) (As := [.int p1, .int p2]) (rest := []) (v0 := (some (.int v1))) ⟨hx, hb, hml, hown, hts⟩ hK hA hZ hP hD hS hl.1 [] 4 rfl ⟨rfl, rfl, rfl⟩ (c_M_isPlace l D ci A sa N (Rw) p1 p2 v1 hm2) (va_cwS 2 hts gX11_changes_X11_isPlace rfl rfl rfl (by decide +kernel) ⟨Nat.le_of_ble_eq_true rfl, Nat.le_of_ble_eq_true rfl⟩) rfl rfl (Nat.le_of_ble_eq_true rfl) dX11_changes_2 ⟨Nat.zero_le _, Nat.zero_le _⟩ (fun locs hS => ?_)
    refine q_if_eq (pc := 5) (tgt := 38) hx hb dX11_changes_5 (by decide) rfl hf (fun hf => ?_) (fun hf => ?_)
    · refine lv_iconst (pc := 38) (v := (-1)) hx hb dX11_changes_38 (by decide) ?_
      obtain rfl := Option.some.inj hf
      rw [hQ]
      exact q_iretr (pc := 39) hx hb hr hlocks rfl hS dX11_changes_39
    · refine lv_iload_n (pc := 8) hx hb dX11_changes_8 rfl (lv_at hl 3 rfl) ?_
      refine lv_iload (pc := 9) hx hb dX11_changes_9 (lv_at hl 4 rfl) ?_
      obtain ⟨v2, hm11, hf⟩ := q_b1_e hf
      refine q_cSr (pc := 11) (As := [.int p3, .int p4]) (rest := []) (v0 := (some (.int v2))) ⟨hx, hb, hml, hown, hts⟩ hK hA hZ hP hD hS hl.1 [] 4 rfl ⟨rfl, rfl, rfl⟩ (c_M_isPlace l D ci A sa N (Rw) p3 p4 v2 hm11) (va_cwS 2 hts gX11_changes_X11_isPlace rfl rfl rfl (by decide +kernel) ⟨Nat.le_of_ble_eq_true rfl, Nat.le_of_ble_eq_true rfl⟩) rfl rfl (Nat.le_of_ble_eq_true rfl) dX11_changes_11 ⟨Nat.zero_le _, Nat.zero_le _⟩ (fun locs hS => ?_)
      refine q_if_eq (pc := 14) (tgt := 38) hx hb dX11_changes_14 (by decide) rfl hf (fun hf => ?_) (fun hf => ?_)
      · refine lv_iconst (pc := 38) (v := (-1)) hx hb dX11_changes_38 (by decide) ?_
        obtain rfl := Option.some.inj hf
        rw [hQ]
        exact q_iretr (pc := 39) hx hb hr hlocks rfl hS dX11_changes_39
      · refine lv_iload (pc := 17) hx hb dX11_changes_17 (lv_at hl 5 rfl) ?_
        refine lv_i2l (pc := 19) hx hb dX11_changes_19 rfl ?_
        refine lv_lconst (pc := 20) (v := 1) hx hb dX11_changes_20 (by decide) ?_
        refine lv_ldc2 (pc := 21) (v := 200) hx hb hown w_1 dX11_changes_21 ?_
        obtain ⟨v3, hm24, hf⟩ := q_b1_e hf
        refine q_cSr (pc := 24) (As := [.long p5.toInt64, .long 1, .long 200]) (rest := []) (v0 := (some (.int v3))) ⟨hx, hb, hml, hown, hts⟩ hK hA hZ hP hD hS hl.1 [] 4 rfl ⟨rfl, rfl, rfl⟩ (c_M_in l D ci A sa N (Rw) p5.toInt64 1 200 v3 hm24) (va_cwS 3 hts gX11_changes_X11_in rfl rfl rfl (by decide +kernel) ⟨Nat.le_of_ble_eq_true rfl, Nat.le_of_ble_eq_true rfl⟩) rfl rfl (Nat.le_of_ble_eq_true rfl) dX11_changes_24 ⟨Nat.zero_le _, Nat.zero_le _⟩ (fun locs hS => ?_)
        refine q_if_eq (pc := 27) (tgt := 38) hx hb dX11_changes_27 (by decide) rfl hf (fun hf => ?_) (fun hf => ?_)
        · refine lv_iconst (pc := 38) (v := (-1)) hx hb dX11_changes_38 (by decide) ?_
          obtain rfl := Option.some.inj hf
          rw [hQ]
          exact q_iretr (pc := 39) hx hb hr hlocks rfl hS dX11_changes_39
        · refine lv_iload (pc := 30) hx hb dX11_changes_30 (lv_at hl 6 rfl) ?_
          obtain ⟨v4, hm32, hf⟩ := q_b1_e hf
          refine q_cSr (pc := 32) (As := [.int p6]) (rest := []) (v0 := (some (.int v4))) ⟨hx, hb, hml, hown, hts⟩ hK hA hZ hP hD hS hl.1 [] 4 rfl ⟨rfl, rfl, rfl⟩ (c_M_isLevel l D ci A sa N (Rw) p6 v4 hm32) (va_cwS 1 hts gX11_changes_X11_isLevel rfl rfl rfl (by decide +kernel) ⟨Nat.le_of_ble_eq_true rfl, Nat.le_of_ble_eq_true rfl⟩) rfl rfl (Nat.le_of_ble_eq_true rfl) dX11_changes_32 ⟨Nat.zero_le _, Nat.zero_le _⟩ (fun locs hS => ?_)
          refine q_if_ne (pc := 35) (tgt := 40) hx hb dX11_changes_35 (by decide) rfl hf (fun hf => ?_) (fun hf => ?_)
          · refine lv_iconst (pc := 40) (v := 0) hx hb dX11_changes_40 (by decide) ?_
            obtain ⟨v5, ev5, hf⟩ := q_nm_e hf
            refine q_topi ev5 ?_
            refine lv_istore (pc := 41) (lv' := [(7, .int v5), (0, .ref a_m), (1, .int p1), (2, .int p2), (3, .int p3), (4, .int p4), (5, .int p5), (6, .int p6)]) hx hb dX11_changes_41 hl (by decide) rfl (fun ls hl => ?_)
            refine lv_aload_n (pc := 43) hx hb dX11_changes_43 rfl (lv_at hl 1 rfl) ?_
            refine lv_iload_n (pc := 44) hx hb dX11_changes_44 rfl (lv_at hl 2 rfl) ?_
            refine lv_iload_n (pc := 45) hx hb dX11_changes_45 rfl (lv_at hl 3 rfl) ?_
            refine lv_iload (pc := 46) hx hb dX11_changes_46 (lv_at hl 7 rfl) ?_
            obtain ⟨v6, hm48, hf⟩ := q_b1_e hf
            refine q_cVr (pc := 48) (As := [.int p1, .int p2, .int p6]) (rest := []) (v0 := (some (.int v6))) ⟨hx, hb, hml, hown, hts⟩ hK hA hZ hP hD hS hl.1 [0, 1, 2, 3] 4 rfl ⟨rfl, rfl, rfl⟩ (c_M_keyAtPlace l D ci A sa N (Rw) a_m a_m_cutRows a_m_cutColumns a_m_deep a_m_wide a_m_zonesAhead a_m_nameOne a_m_nameOther a_m_tape a_m_edges a_m_dist a_m_queue a_m_pieceLevel a_m_pieceKey a_m_pieceYear a_m_drawnKeys a_m_kept a_m_noNumbers m_taped m_place m_fault m_number m_levelRead m_keyRead m_reads m_faults m_cutShort m_noNumber m_bottomLat m_bottomLon m_firstBeside m_manyBeside m_queued m_boxLevel m_boxTop m_boxBottom m_boxWest m_boxEast m_isEarly m_pieces m_states m_drawnNow m_keptAt m_deep m_wide m_zonesAhead p1 p2 p6 v6 hm48) 0 rfl rfl (cwV 3 hts gX11_changes_X11_keyAtPlace rfl rfl rfl (by decide +kernel) ⟨Nat.le_of_ble_eq_true rfl, Nat.le_of_ble_eq_true rfl⟩) rfl rfl (Nat.le_of_ble_eq_true rfl) dX11_changes_48 ⟨Nat.zero_le _, Nat.zero_le _⟩ (fun locs hS => ?_)
            refine lv_istore (pc := 51) (lv' := [(8, .int v6), (7, .int v5), (0, .ref a_m), (1, .int p1), (2, .int p2), (3, .int p3), (4, .int p4), (5, .int p5), (6, .int p6)]) hx hb dX11_changes_51 hl (by decide) rfl (fun ls hl => ?_)
            refine lv_iconst (pc := 53) (v := 1) hx hb dX11_changes_53 (by decide) ?_
            obtain ⟨v7, ev7, hf⟩ := q_nm_e hf
            refine q_topi ev7 ?_
            refine lv_istore (pc := 54) (lv' := [(9, .int v7), (8, .int v6), (7, .int v5), (0, .ref a_m), (1, .int p1), (2, .int p2), (3, .int p3), (4, .int p4), (5, .int p5), (6, .int p6)]) hx hb dX11_changes_54 hl (by decide) rfl (fun ls hl => ?_)
            obtain ⟨v11, hm56, hf⟩ := q_b1_e hf
            have JE56 : ∀ (H : Heap) (locs : List Loc) (ls : Array Slot), H = s.heap → va_S A s.heap H locs → lv_has ls 13 [(7, .int v11)] → W p l e ({ frames := 4, cells := 0, slots := 0, locals := 90 } : Room) s m ([.ref a_m, .int p1, .int p2, .int p3, .int p4, .int p5, .int p6] : List Value).toArray below meth c H locs 0 0 Q (F0 m 151 ls []) := by
              intro H locs ls hHs hS hl
              subst hHs
              refine lv_iload (pc := 151) hx hb dX11_changes_151 (lv_at hl 0 rfl) ?_
              obtain rfl := Option.some.inj hf
              rw [hQ]
              exact q_iretr (pc := 153) hx hb hr hlocks rfl hS dX11_changes_153
            have LP56 : ∀ (n56 : Nat) (v8 : Int32) (v9 : Int32) (v10 : Int32) (H : Heap) (locs : List Loc) (ls : Array Slot), f_M_changes_L56 m_deep m_wide m_zonesAhead p1 p2 p3 p4 p5 p6 n56 v8 v9 v10 = some v11 → H = s.heap → va_S A s.heap H locs → lv_has ls 13 [(0, .ref a_m), (1, .int p1), (2, .int p2), (3, .int p3), (4, .int p4), (5, .int p5), (6, .int p6), (7, .int v8), (8, .int v9), (9, .int v10)] → W p l e ({ frames := 4, cells := 0, slots := 0, locals := 90 } : Room) s m ([.ref a_m, .int p1, .int p2, .int p3, .int p4, .int p5, .int p6] : List Value).toArray below meth c H locs 0 0 Q (F0 m 56 ls []) := by
              intro n56
              induction n56 with
              | zero => intro v8 v9 v10 H locs ls hf; rw [f_M_changes_L56] at hf; cases hf
              | succ n56 ih56 =>
                intro v8 v9 v10 H locs ls hf hHs hS hl
                subst hHs
                rw [f_M_changes_L56] at hf
                refine lv_iload (pc := 56) hx hb dX11_changes_56 (lv_at hl 9 rfl) ?_
                refine lv_iload (pc := 58) hx hb dX11_changes_58 (lv_at hl 5 rfl) ?_
                refine q_icmp_gt (pc := 60) (tgt := 151) hx hb dX11_changes_60 (by decide) rfl hf (fun hf => ?_) (fun hf => ?_)
                · obtain rfl := Option.some.inj hf
                  exact JE56 _ _ _ rfl hS (lv_sub hl [7] rfl)
                · refine lv_iload_n (pc := 63) hx hb dX11_changes_63 rfl (lv_at hl 1 rfl) ?_
                  refine lv_i2l (pc := 64) hx hb dX11_changes_64 rfl ?_
                  refine lv_iload (pc := 65) hx hb dX11_changes_65 (lv_at hl 5 rfl) ?_
                  refine lv_i2l (pc := 67) hx hb dX11_changes_67 rfl ?_
                  refine lv_lmul (pc := 68) hx hb dX11_changes_68 ?_
                  refine lv_iload_n (pc := 69) hx hb dX11_changes_69 rfl (lv_at hl 3 rfl) ?_
                  refine lv_iload_n (pc := 70) hx hb dX11_changes_70 rfl (lv_at hl 1 rfl) ?_
                  refine lv_isub (pc := 71) hx hb dX11_changes_71 ?_
                  refine lv_i2l (pc := 72) hx hb dX11_changes_72 rfl ?_
                  refine lv_iload (pc := 73) hx hb dX11_changes_73 (lv_at hl 9 rfl) ?_
                  refine lv_i2l (pc := 75) hx hb dX11_changes_75 rfl ?_
                  refine lv_lmul (pc := 76) hx hb dX11_changes_76 ?_
                  refine lv_ladd (pc := 77) hx hb dX11_changes_77 ?_
                  refine lv_iload (pc := 78) hx hb dX11_changes_78 (lv_at hl 5 rfl) ?_
                  refine lv_i2l (pc := 80) hx hb dX11_changes_80 rfl ?_
                  obtain ⟨v12, hm81, hf⟩ := q_b1_e hf
                  refine q_cSr (pc := 81) (As := [.long ((p1.toInt64 * p5.toInt64) + (((p3 - p1).toInt64) * v10.toInt64)), .long p5.toInt64]) (rest := []) (v0 := (some (.long v12))) ⟨hx, hb, hml, hown, hts⟩ hK hA hZ hP hD hS hl.1 [] 4 rfl ⟨rfl, rfl, rfl⟩ (c_M_down l D ci A sa N (Rw) ((p1.toInt64 * p5.toInt64) + (((p3 - p1).toInt64) * v10.toInt64)) p5.toInt64 v12 hm81) (va_cwS 2 hts gX11_changes_X11_down rfl rfl rfl (by decide +kernel) ⟨Nat.le_of_ble_eq_true rfl, Nat.le_of_ble_eq_true rfl⟩) rfl rfl (Nat.le_of_ble_eq_true rfl) dX11_changes_81 ⟨Nat.zero_le _, Nat.zero_le _⟩ (fun locs hS => ?_)
                  refine lv_l2i (pc := 84) hx hb dX11_changes_84 rfl ?_
                  obtain ⟨v13, ev13, hf⟩ := q_nm_e hf
                  refine q_topi ev13 ?_
                  refine lv_istore (pc := 85) (lv' := [(10, .int v13), (0, .ref a_m), (1, .int p1), (2, .int p2), (3, .int p3), (4, .int p4), (5, .int p5), (6, .int p6), (7, .int v8), (8, .int v9), (9, .int v10)]) hx hb dX11_changes_85 hl (by decide) rfl (fun ls hl => ?_)
                  refine lv_iload_n (pc := 87) hx hb dX11_changes_87 rfl (lv_at hl 3 rfl) ?_
                  refine lv_i2l (pc := 88) hx hb dX11_changes_88 rfl ?_
                  refine lv_iload (pc := 89) hx hb dX11_changes_89 (lv_at hl 6 rfl) ?_
                  refine lv_i2l (pc := 91) hx hb dX11_changes_91 rfl ?_
                  refine lv_lmul (pc := 92) hx hb dX11_changes_92 ?_
                  refine lv_iload (pc := 93) hx hb dX11_changes_93 (lv_at hl 5 rfl) ?_
                  refine lv_iload_n (pc := 95) hx hb dX11_changes_95 rfl (lv_at hl 3 rfl) ?_
                  refine lv_isub (pc := 96) hx hb dX11_changes_96 ?_
                  refine lv_i2l (pc := 97) hx hb dX11_changes_97 rfl ?_
                  refine lv_iload (pc := 98) hx hb dX11_changes_98 (lv_at hl 10 rfl) ?_
                  refine lv_i2l (pc := 100) hx hb dX11_changes_100 rfl ?_
                  refine lv_lmul (pc := 101) hx hb dX11_changes_101 ?_
                  refine lv_ladd (pc := 102) hx hb dX11_changes_102 ?_
                  refine lv_iload (pc := 103) hx hb dX11_changes_103 (lv_at hl 6 rfl) ?_
                  refine lv_i2l (pc := 105) hx hb dX11_changes_105 rfl ?_
                  obtain ⟨v14, hm106, hf⟩ := q_b1_e hf
                  refine q_cSr (pc := 106) (As := [.long ((p2.toInt64 * p5.toInt64) + (((p4 - p2).toInt64) * v10.toInt64)), .long p5.toInt64]) (rest := []) (v0 := (some (.long v14))) ⟨hx, hb, hml, hown, hts⟩ hK hA hZ hP hD hS hl.1 [] 4 rfl ⟨rfl, rfl, rfl⟩ (c_M_down l D ci A sa N (Rw) ((p2.toInt64 * p5.toInt64) + (((p4 - p2).toInt64) * v10.toInt64)) p5.toInt64 v14 hm106) (va_cwS 2 hts gX11_changes_X11_down rfl rfl rfl (by decide +kernel) ⟨Nat.le_of_ble_eq_true rfl, Nat.le_of_ble_eq_true rfl⟩) rfl rfl (Nat.le_of_ble_eq_true rfl) dX11_changes_106 ⟨Nat.zero_le _, Nat.zero_le _⟩ (fun locs hS => ?_)
                  refine lv_l2i (pc := 109) hx hb dX11_changes_109 rfl ?_
                  obtain ⟨v15, ev15, hf⟩ := q_nm_e hf
                  refine q_topi ev15 ?_
                  refine lv_istore (pc := 110) (lv' := [(11, .int v15), (10, .int v13), (0, .ref a_m), (1, .int p1), (2, .int p2), (3, .int p3), (4, .int p4), (5, .int p5), (6, .int p6), (7, .int v8), (8, .int v9), (9, .int v10)]) hx hb dX11_changes_110 hl (by decide) rfl (fun ls hl => ?_)
                  refine lv_aload_n (pc := 112) hx hb dX11_changes_112 rfl (lv_at hl 2 rfl) ?_
                  refine lv_iload (pc := 113) hx hb dX11_changes_113 (lv_at hl 1 rfl) ?_
                  refine lv_iload (pc := 115) hx hb dX11_changes_115 (lv_at hl 0 rfl) ?_
                  refine lv_iload (pc := 117) hx hb dX11_changes_117 (lv_at hl 8 rfl) ?_
                  obtain ⟨v16, hm119, hf⟩ := q_b1_e hf
                  refine q_cVr (pc := 119) (As := [.int v13, .int v15, .int p6]) (rest := []) (v0 := (some (.int v16))) ⟨hx, hb, hml, hown, hts⟩ hK hA hZ hP hD hS hl.1 [0, 1, 2, 3] 4 rfl ⟨rfl, rfl, rfl⟩ (c_M_keyAtPlace l D ci A sa N (Rw) a_m a_m_cutRows a_m_cutColumns a_m_deep a_m_wide a_m_zonesAhead a_m_nameOne a_m_nameOther a_m_tape a_m_edges a_m_dist a_m_queue a_m_pieceLevel a_m_pieceKey a_m_pieceYear a_m_drawnKeys a_m_kept a_m_noNumbers m_taped m_place m_fault m_number m_levelRead m_keyRead m_reads m_faults m_cutShort m_noNumber m_bottomLat m_bottomLon m_firstBeside m_manyBeside m_queued m_boxLevel m_boxTop m_boxBottom m_boxWest m_boxEast m_isEarly m_pieces m_states m_drawnNow m_keptAt m_deep m_wide m_zonesAhead v13 v15 p6 v16 hm119) 0 rfl rfl (cwV 3 hts gX11_changes_X11_keyAtPlace rfl rfl rfl (by decide +kernel) ⟨Nat.le_of_ble_eq_true rfl, Nat.le_of_ble_eq_true rfl⟩) rfl rfl (Nat.le_of_ble_eq_true rfl) dX11_changes_119 ⟨Nat.zero_le _, Nat.zero_le _⟩ (fun locs hS => ?_)
                  refine lv_istore (pc := 122) (lv' := [(12, .int v16), (11, .int v15), (10, .int v13), (0, .ref a_m), (1, .int p1), (2, .int p2), (3, .int p3), (4, .int p4), (5, .int p5), (6, .int p6), (7, .int v8), (8, .int v9), (9, .int v10)]) hx hb dX11_changes_122 hl (by decide) rfl (fun ls hl => ?_)
                  refine lv_iload (pc := 124) hx hb dX11_changes_124 (lv_at hl 10 rfl) ?_
                  refine lv_iload (pc := 126) hx hb dX11_changes_126 (lv_at hl 0 rfl) ?_
                  refine lv_iload (pc := 128) hx hb dX11_changes_128 (lv_at hl 11 rfl) ?_
                  obtain ⟨k138, ek138, hf⟩ := q_j1_e hf
                  have J138 : ∀ (v17 : Int32) (H : Heap) (locs : List Loc) (ls : Array Slot), k138 v17 = some v11 → H = s.heap → va_S A s.heap H locs → lv_has ls 13 [(0, .ref a_m), (1, .int p1), (2, .int p2), (3, .int p3), (4, .int p4), (5, .int p5), (6, .int p6), (9, .int v10), (12, .int v16)] → W p l e ({ frames := 4, cells := 0, slots := 0, locals := 90 } : Room) s m ([.ref a_m, .int p1, .int p2, .int p3, .int p4, .int p5, .int p6] : List Value).toArray below meth c H locs 0 0 Q (F0 m 138 ls [.int v17, .int v8]) := by
                    intro v17 H locs ls hf hHs hS hl
                    subst hHs
                    have hf := (ek138 v17).symm.trans hf
                    refine lv_iadd (pc := 138) hx hb dX11_changes_138 ?_
                    obtain ⟨v18, ev18, hf⟩ := q_nm_e hf
                    refine q_topi ev18 ?_
                    refine lv_istore (pc := 139) (lv' := [(7, .int v18), (0, .ref a_m), (1, .int p1), (2, .int p2), (3, .int p3), (4, .int p4), (5, .int p5), (6, .int p6), (9, .int v10), (12, .int v16)]) hx hb dX11_changes_139 hl (by decide) rfl (fun ls hl => ?_)
                    refine lv_iload (pc := 141) hx hb dX11_changes_141 (lv_at hl 9 rfl) ?_
                    refine lv_istore (pc := 143) (lv' := [(8, .int v16), (7, .int v18), (0, .ref a_m), (1, .int p1), (2, .int p2), (3, .int p3), (4, .int p4), (5, .int p5), (6, .int p6), (9, .int v10), (12, .int v16)]) hx hb dX11_changes_143 hl (by decide) rfl (fun ls hl => ?_)
                    obtain ⟨v19, ev19, hf⟩ := q_nm_e hf
                    refine lv_iinc (pc := 145) (v := v19) (lv' := [(9, .int v19), (8, .int v16), (7, .int v18), (0, .ref a_m), (1, .int p1), (2, .int p2), (3, .int p3), (4, .int p4), (5, .int p5), (6, .int p6), (12, .int v16)]) hx hb dX11_changes_145 hl (k := 9) rfl (by rw [ev19]; rfl) (by decide) rfl (fun ls hl => ?_)
                    refine lv_goto (pc := 148) (tgt := 56) hx hb dX11_changes_148 (by decide) ?_
                    exact ih56 v18 v16 v19 _ _ _ hf rfl hS (lv_sub hl [3, 4, 5, 6, 7, 8, 9, 2, 1, 0] rfl)
                  refine q_icmp_ne (pc := 130) (tgt := 137) hx hb dX11_changes_130 (by decide) rfl hf (fun hf => ?_) (fun hf => ?_)
                  · refine lv_iconst (pc := 137) (v := 1) hx hb dX11_changes_137 (by decide) ?_
                    exact J138 1 _ _ _ hf rfl hS (lv_sub hl [3, 4, 5, 6, 7, 8, 9, 12, 0] rfl)
                  · refine lv_iconst (pc := 133) (v := 0) hx hb dX11_changes_133 (by decide) ?_
                    refine lv_goto (pc := 134) (tgt := 138) hx hb dX11_changes_134 (by decide) ?_
                    exact J138 0 _ _ _ hf rfl hS (lv_sub hl [3, 4, 5, 6, 7, 8, 9, 12, 0] rfl)
            exact LP56 N v5 v6 v7 _ _ _ hm56 rfl hS (lv_sub hl [3, 4, 5, 6, 7, 8, 9, 2, 1, 0] rfl)
          · refine lv_iconst (pc := 38) (v := (-1)) hx hb dX11_changes_38 (by decide) ?_
            obtain rfl := Option.some.inj hf
            rw [hQ]
            exact q_iretr (pc := 39) hx hb hr hlocks rfl hS dX11_changes_39
  exact hgo _ _ rfl hP hS
end
section
/-! X11_child -/
set_option maxRecDepth 100000 in
set_option maxHeartbeats 4000000 in
theorem c_M_child (l : Launch) (D : va_G) (ci : Nat → ClassId) (A : Nat → Prop) (sa : Nat → Nat) (N : Nat) (Rw : va_W) (a_m : Nat) (a_m_cutRows : Nat) (a_m_cutColumns : Nat) (a_m_deep : Nat) (a_m_wide : Nat) (a_m_zonesAhead : Nat) (a_m_nameOne : Nat) (a_m_nameOther : Nat) (a_m_tape : Nat) (a_m_edges : Nat) (a_m_dist : Nat) (a_m_queue : Nat) (a_m_pieceLevel : Nat) (a_m_pieceKey : Nat) (a_m_pieceYear : Nat) (a_m_drawnKeys : Nat) (a_m_kept : Nat) (a_m_noNumbers : Nat) (m_taped : Int32) (m_place : Int32) (m_fault : Int32) (m_number : Int32) (m_levelRead : Int32) (m_keyRead : Int32) (m_reads : Int32) (m_faults : Int32) (m_cutShort : Int32) (m_noNumber : Int32) (m_bottomLat : Int64) (m_bottomLon : Int64) (m_firstBeside : Int32) (m_manyBeside : Int32) (m_queued : Int32) (m_boxLevel : Int32) (m_boxTop : Int32) (m_boxBottom : Int32) (m_boxWest : Int32) (m_boxEast : Int32) (m_isEarly : Int32) (m_pieces : Int32) (m_states : Int32) (m_drawnNow : Int32) (m_keptAt : Int32) (m_deep : Nat → Int32) (m_wide : Nat → Int32) (m_zonesAhead : Nat → Int32) (p1 : Int32) (p2 : Int32) (p3 : Int32) (p4 : Int32) (r : Int32) (hf : f_M_child N m_deep m_wide m_zonesAhead p1 p2 p3 p4 = some r) : Met l yX11_child wsX11_child ({ frames := 4, cells := 0, slots := 0, locals := 88 }) (va_Pc [.ref a_m, .int p1, .int p2, .int p3, .int p4] (q_N D ci A sa ((a_m, .inr (11, (.ref a_m_cutRows :: .ref a_m_cutColumns :: .ref a_m_deep :: .ref a_m_wide :: .ref a_m_zonesAhead :: .ref a_m_nameOne :: .ref a_m_nameOther :: .ref a_m_tape :: .int m_taped :: .int m_place :: .int m_fault :: .int m_number :: .int m_levelRead :: .int m_keyRead :: .int m_reads :: .int m_faults :: .int m_cutShort :: .int m_noNumber :: .long m_bottomLat :: .long m_bottomLon :: .ref a_m_edges :: .int m_firstBeside :: .int m_manyBeside :: .ref a_m_dist :: .ref a_m_queue :: .int m_queued :: .int m_boxLevel :: .int m_boxTop :: .int m_boxBottom :: .int m_boxWest :: .int m_boxEast :: .int m_isEarly :: .int m_pieces :: .int m_states :: .ref a_m_pieceLevel :: .ref a_m_pieceKey :: .ref a_m_pieceYear :: .int m_drawnNow :: .ref a_m_drawnKeys :: .ref a_m_kept :: .int m_keptAt :: .ref a_m_noNumbers :: []))) :: (a_m_deep, .inl (ci 0, 5, .inl m_deep)) :: (a_m_wide, .inl (ci 0, 5, .inl m_wide)) :: (a_m_zonesAhead, .inl (ci 0, 45, .inl m_zonesAhead)) :: Rw))) (q_R (some (.int r))) 0 0 A := by
  refine q_ofW (cc := cX11_child) (maxL := 8) (ret := (some .int)) [.ref a_m, .int p1, .int p2, .int p3, .int p4] (plainFor_of_name (by decide)) rfl (Nat.le_of_ble_eq_true rfl) ?_
  intro p e s m below meth c ls Q hQ hx hb hml hr hts hown hlocks hK hA hZ hP hD hS hl
  have hl : lv_has ls 8 [(0, .ref a_m), (1, .int p1), (2, .int p2), (3, .int p3), (4, .int p4)] := hl
  have hown : s.vm.findClass RX11 = some m.cls := hown
  have hinX11 : ∀ w ∈ wsX110, w ∈ wsX11_child := fun _ h => List.mem_cons_of_mem _ (inWX110 _ h)
  have w_1 := hts (Cond.constantLong RX11 70 (4)) (List.mem_cons_of_mem _ t_w956)
  have w_2 := hts (Cond.fieldLink RX11 16 "SheetNamesModel" "deep" "[I") (List.mem_cons_of_mem _ t_w908)
  have w_3 := hts (Cond.fieldLink RX11 19 "SheetNamesModel" "wide" "[I") (List.mem_cons_of_mem _ t_w909)
  unfold f_M_child at hf
  have hgo : ∀ (H : Heap) (locs : List Loc), H = s.heap → va_P D vwCl ((a_m, .inr (11, (.ref a_m_cutRows :: .ref a_m_cutColumns :: .ref a_m_deep :: .ref a_m_wide :: .ref a_m_zonesAhead :: .ref a_m_nameOne :: .ref a_m_nameOther :: .ref a_m_tape :: .int m_taped :: .int m_place :: .int m_fault :: .int m_number :: .int m_levelRead :: .int m_keyRead :: .int m_reads :: .int m_faults :: .int m_cutShort :: .int m_noNumber :: .long m_bottomLat :: .long m_bottomLon :: .ref a_m_edges :: .int m_firstBeside :: .int m_manyBeside :: .ref a_m_dist :: .ref a_m_queue :: .int m_queued :: .int m_boxLevel :: .int m_boxTop :: .int m_boxBottom :: .int m_boxWest :: .int m_boxEast :: .int m_isEarly :: .int m_pieces :: .int m_states :: .ref a_m_pieceLevel :: .ref a_m_pieceKey :: .ref a_m_pieceYear :: .int m_drawnNow :: .ref a_m_drawnKeys :: .ref a_m_kept :: .int m_keptAt :: .ref a_m_noNumbers :: []))) :: (a_m_deep, .inl (ci 0, 5, .inl m_deep)) :: (a_m_wide, .inl (ci 0, 5, .inl m_wide)) :: (a_m_zonesAhead, .inl (ci 0, 45, .inl m_zonesAhead)) :: Rw) H → va_S A s.heap H locs → W p l e ({ frames := 4, cells := 0, slots := 0, locals := 88 } : Room) s m ([.ref a_m, .int p1, .int p2, .int p3, .int p4] : List Value).toArray below meth c H locs 0 0 Q (F0 m 0 ls []) := by
    intro H locs hH hP hS
    subst hH
    refine lv_aload_n (pc := 0) hx hb dX11_child_0 rfl (lv_at hl 0 rfl) ?_
    refine lv_iload_n (pc := 1) hx hb dX11_child_1 rfl (lv_at hl 1 rfl) ?_
    refine lv_iload_n (pc := 2) hx hb dX11_child_2 rfl (lv_at hl 2 rfl) ?_
    obtain ⟨v1, hm3, hf⟩ := q_b1_e hf
    refine q_cVr (pc := 3) (As := [.int p1, .int p2]) (rest := []) (v0 := (some (.int v1))) ⟨hx, hb, hml, hown, hts⟩ hK hA hZ hP hD hS hl.1 [0, 1, 2, 3] 4 rfl ⟨rfl, rfl, rfl⟩ (c_M_isKey l D ci A sa N (Rw) a_m a_m_cutRows a_m_cutColumns a_m_deep a_m_wide a_m_zonesAhead a_m_nameOne a_m_nameOther a_m_tape a_m_edges a_m_dist a_m_queue a_m_pieceLevel a_m_pieceKey a_m_pieceYear a_m_drawnKeys a_m_kept a_m_noNumbers m_taped m_place m_fault m_number m_levelRead m_keyRead m_reads m_faults m_cutShort m_noNumber m_bottomLat m_bottomLon m_firstBeside m_manyBeside m_queued m_boxLevel m_boxTop m_boxBottom m_boxWest m_boxEast m_isEarly m_pieces m_states m_drawnNow m_keptAt m_deep m_wide m_zonesAhead p1 p2 v1 hm3) 0 rfl rfl (cwV 2 hts gX11_child_X11_isKey rfl rfl rfl (by decide +kernel) ⟨Nat.le_of_ble_eq_true rfl, Nat.le_of_ble_eq_true rfl⟩) rfl rfl (Nat.le_of_ble_eq_true rfl) dX11_child_3 ⟨Nat.zero_le _, Nat.zero_le _⟩ (fun locs hS => ?_)
    refine q_if_eq (pc := 6) (tgt := 28) hx hb dX11_child_6 (by decide) rfl hf (fun hf => ?_) (fun hf => ?_)
    · refine lv_iconst (pc := 28) (v := (-1)) hx hb dX11_child_28 (by decide) ?_
      obtain rfl := Option.some.inj hf
      rw [hQ]
      exact q_iretr (pc := 29) hx hb hr hlocks rfl hS dX11_child_29
    · refine lv_iload_n (pc := 9) hx hb dX11_child_9 rfl (lv_at hl 3 rfl) ?_
      refine lv_i2l (pc := 10) hx hb dX11_child_10 rfl ?_
      refine lv_iload_n (pc := 11) hx hb dX11_child_11 rfl (lv_at hl 1 rfl) ?_
      refine lv_i2l (pc := 12) hx hb dX11_child_12 rfl ?_
      refine lv_ldc2 (pc := 13) (v := 4) hx hb hown w_1 dX11_child_13 ?_
      obtain ⟨v2, hm16, hf⟩ := q_b1_e hf
      refine q_cSr (pc := 16) (As := [.long p3.toInt64, .long p1.toInt64, .long 4]) (rest := []) (v0 := (some (.int v2))) ⟨hx, hb, hml, hown, hts⟩ hK hA hZ hP hD hS hl.1 [] 4 rfl ⟨rfl, rfl, rfl⟩ (c_M_in l D ci A sa N (Rw) p3.toInt64 p1.toInt64 4 v2 hm16) (va_cwS 3 hts gX11_child_X11_in rfl rfl rfl (by decide +kernel) ⟨Nat.le_of_ble_eq_true rfl, Nat.le_of_ble_eq_true rfl⟩) rfl rfl (Nat.le_of_ble_eq_true rfl) dX11_child_16 ⟨Nat.zero_le _, Nat.zero_le _⟩ (fun locs hS => ?_)
      refine q_if_eq (pc := 19) (tgt := 28) hx hb dX11_child_19 (by decide) rfl hf (fun hf => ?_) (fun hf => ?_)
      · refine lv_iconst (pc := 28) (v := (-1)) hx hb dX11_child_28 (by decide) ?_
        obtain rfl := Option.some.inj hf
        rw [hQ]
        exact q_iretr (pc := 29) hx hb hr hlocks rfl hS dX11_child_29
      · refine lv_iload (pc := 22) hx hb dX11_child_22 (lv_at hl 4 rfl) ?_
        refine lv_iconst (pc := 24) (v := (-1)) hx hb dX11_child_24 (by decide) ?_
        refine q_icmp_ge (pc := 25) (tgt := 30) hx hb dX11_child_25 (by decide) rfl hf (fun hf => ?_) (fun hf => ?_)
        · refine lv_aload_n (pc := 30) hx hb dX11_child_30 rfl (lv_at hl 0 rfl) ?_
          refine lv_iload_n (pc := 31) hx hb dX11_child_31 rfl (lv_at hl 1 rfl) ?_
          refine lv_iload_n (pc := 32) hx hb dX11_child_32 rfl (lv_at hl 2 rfl) ?_
          obtain ⟨v3, hm33, hf⟩ := q_b1_e hf
          refine q_cVr (pc := 33) (As := [.int p1, .int p2]) (rest := []) (v0 := (some (.int v3))) ⟨hx, hb, hml, hown, hts⟩ hK hA hZ hP hD hS hl.1 [0, 1, 2, 3] 4 rfl ⟨rfl, rfl, rfl⟩ (c_M_isCap l D ci A sa N (Rw) a_m a_m_cutRows a_m_cutColumns a_m_deep a_m_wide a_m_zonesAhead a_m_nameOne a_m_nameOther a_m_tape a_m_edges a_m_dist a_m_queue a_m_pieceLevel a_m_pieceKey a_m_pieceYear a_m_drawnKeys a_m_kept a_m_noNumbers m_taped m_place m_fault m_number m_levelRead m_keyRead m_reads m_faults m_cutShort m_noNumber m_bottomLat m_bottomLon m_firstBeside m_manyBeside m_queued m_boxLevel m_boxTop m_boxBottom m_boxWest m_boxEast m_isEarly m_pieces m_states m_drawnNow m_keptAt m_deep m_wide m_zonesAhead p1 p2 v3 hm33) 0 rfl rfl (cwV 2 hts gX11_child_X11_isCap rfl rfl rfl (by decide +kernel) ⟨Nat.le_of_ble_eq_true rfl, Nat.le_of_ble_eq_true rfl⟩) rfl rfl (Nat.le_of_ble_eq_true rfl) dX11_child_33 ⟨Nat.zero_le _, Nat.zero_le _⟩ (fun locs hS => ?_)
          refine lv_istore (pc := 36) (lv' := [(5, .int v3), (0, .ref a_m), (1, .int p1), (2, .int p2), (3, .int p3), (4, .int p4)]) hx hb dX11_child_36 hl (by decide) rfl (fun ls hl => ?_)
          refine lv_iload (pc := 38) hx hb dX11_child_38 (lv_at hl 0 rfl) ?_
          obtain ⟨k60, ek60, hf⟩ := q_j1_e hf
          have J60 : ∀ (v4 : Int32) (H : Heap) (locs : List Loc) (ls : Array Slot), k60 v4 = some r → H = s.heap → va_S A s.heap H locs → lv_has ls 8 [(0, .ref a_m), (1, .int p1), (2, .int p2), (3, .int p3), (4, .int p4), (5, .int v3)] → W p l e ({ frames := 4, cells := 0, slots := 0, locals := 88 } : Room) s m ([.ref a_m, .int p1, .int p2, .int p3, .int p4] : List Value).toArray below meth c H locs 0 0 Q (F0 m 60 ls [.int v4]) := by
            intro v4 H locs ls hf hHs hS hl
            subst hHs
            have hf := (ek60 v4).symm.trans hf
            refine lv_istore (pc := 60) (lv' := [(6, .int v4), (0, .ref a_m), (1, .int p1), (2, .int p2), (3, .int p3), (4, .int p4), (5, .int v3)]) hx hb dX11_child_60 hl (by decide) rfl (fun ls hl => ?_)
            refine lv_iload (pc := 62) hx hb dX11_child_62 (lv_at hl 6 rfl) ?_
            obtain ⟨k84, ek84, hf⟩ := q_j1_e hf
            have J84 : ∀ (v5 : Int32) (H : Heap) (locs : List Loc) (ls : Array Slot), k84 v5 = some r → H = s.heap → va_S A s.heap H locs → lv_has ls 8 [(0, .ref a_m), (1, .int p1), (2, .int p2), (3, .int p3), (4, .int p4), (5, .int v3), (6, .int v4)] → W p l e ({ frames := 4, cells := 0, slots := 0, locals := 88 } : Room) s m ([.ref a_m, .int p1, .int p2, .int p3, .int p4] : List Value).toArray below meth c H locs 0 0 Q (F0 m 84 ls [.int v5]) := by
              intro v5 H locs ls hf hHs hS hl
              subst hHs
              have hf := (ek84 v5).symm.trans hf
              refine lv_istore (pc := 84) (lv' := [(7, .int v5), (0, .ref a_m), (1, .int p1), (2, .int p2), (3, .int p3), (4, .int p4), (5, .int v3), (6, .int v4)]) hx hb dX11_child_84 hl (by decide) rfl (fun ls hl => ?_)
              refine lv_iload (pc := 86) hx hb dX11_child_86 (lv_at hl 5 rfl) ?_
              refine lv_iconst (pc := 88) (v := (-1)) hx hb dX11_child_88 (by decide) ?_
              refine q_icmp_ne (pc := 89) (tgt := 98) hx hb dX11_child_89 (by decide) rfl hf (fun hf => ?_) (fun hf => ?_)
              · refine lv_iload (pc := 98) hx hb dX11_child_98 (lv_at hl 5 rfl) ?_
                refine lv_iload (pc := 100) hx hb dX11_child_100 (lv_at hl 7 rfl) ?_
                refine lv_iload (pc := 102) hx hb dX11_child_102 (lv_at hl 0 rfl) ?_
                refine lv_imul (pc := 104) hx hb dX11_child_104 ?_
                refine q_icmp_lt (pc := 105) (tgt := 111) hx hb dX11_child_105 (by decide) rfl hf (fun hf => ?_) (fun hf => ?_)
                · refine lv_iload (pc := 111) hx hb dX11_child_111 (lv_at hl 6 rfl) ?_
                  refine q_if_eq (pc := 113) (tgt := 132) hx hb dX11_child_113 (by decide) rfl hf (fun hf => ?_) (fun hf => ?_)
                  · refine lv_aload_n (pc := 132) hx hb dX11_child_132 rfl (lv_at hl 1 rfl) ?_
                    refine lv_iload_n (pc := 133) hx hb dX11_child_133 rfl (lv_at hl 4 rfl) ?_
                    refine lv_iconst (pc := 134) (v := 1) hx hb dX11_child_134 (by decide) ?_
                    refine lv_aload_n (pc := 135) hx hb dX11_child_135 rfl (lv_at hl 1 rfl) ?_
                    refine lv_iload_n (pc := 136) hx hb dX11_child_136 rfl (lv_at hl 2 rfl) ?_
                    refine lv_iload_n (pc := 137) hx hb dX11_child_137 rfl (lv_at hl 3 rfl) ?_
                    obtain ⟨v6, hm138, hf⟩ := q_b1_e hf
                    refine q_cVr (pc := 138) (As := [.int p1, .int p2]) (rest := [.int 1, .int p3, .ref a_m]) (v0 := (some (.int v6))) ⟨hx, hb, hml, hown, hts⟩ hK hA hZ hP hD hS hl.1 [0, 1, 2, 3] 4 rfl ⟨rfl, rfl, rfl⟩ (c_M_rowOf l D ci A sa N (Rw) a_m a_m_cutRows a_m_cutColumns a_m_deep a_m_wide a_m_zonesAhead a_m_nameOne a_m_nameOther a_m_tape a_m_edges a_m_dist a_m_queue a_m_pieceLevel a_m_pieceKey a_m_pieceYear a_m_drawnKeys a_m_kept a_m_noNumbers m_taped m_place m_fault m_number m_levelRead m_keyRead m_reads m_faults m_cutShort m_noNumber m_bottomLat m_bottomLon m_firstBeside m_manyBeside m_queued m_boxLevel m_boxTop m_boxBottom m_boxWest m_boxEast m_isEarly m_pieces m_states m_drawnNow m_keptAt m_deep m_wide m_zonesAhead p1 p2 v6 hm138) 0 rfl rfl (cwV 2 hts gX11_child_X11_rowOf rfl rfl rfl (by decide +kernel) ⟨Nat.le_of_ble_eq_true rfl, Nat.le_of_ble_eq_true rfl⟩) rfl rfl (Nat.le_of_ble_eq_true rfl) dX11_child_138 ⟨Nat.zero_le _, Nat.zero_le _⟩ (fun locs hS => ?_)
                    refine lv_iconst (pc := 141) (v := 1) hx hb dX11_child_141 (by decide) ?_
                    refine lv_isub (pc := 142) hx hb dX11_child_142 ?_
                    refine lv_iload (pc := 143) hx hb dX11_child_143 (lv_at hl 7 rfl) ?_
                    refine lv_imul (pc := 145) hx hb dX11_child_145 ?_
                    refine lv_iadd (pc := 146) hx hb dX11_child_146 ?_
                    refine lv_iload (pc := 147) hx hb dX11_child_147 (lv_at hl 5 rfl) ?_
                    refine lv_iload (pc := 149) hx hb dX11_child_149 (lv_at hl 0 rfl) ?_
                    refine q_idiv (pc := 151) hx hb dX11_child_151 hf (fun v7 hf => ?_)
                    refine lv_iadd (pc := 152) hx hb dX11_child_152 ?_
                    refine lv_aload_n (pc := 153) hx hb dX11_child_153 rfl (lv_at hl 1 rfl) ?_
                    refine lv_iload_n (pc := 154) hx hb dX11_child_154 rfl (lv_at hl 2 rfl) ?_
                    refine lv_iload_n (pc := 155) hx hb dX11_child_155 rfl (lv_at hl 3 rfl) ?_
                    obtain ⟨v8, hm156, hf⟩ := q_b1_e hf
                    refine q_cVr (pc := 156) (As := [.int p1, .int p2]) (rest := [.int ((1 + ((v6 - 1) * v4)) + v7), .int p3, .ref a_m]) (v0 := (some (.int v8))) ⟨hx, hb, hml, hown, hts⟩ hK hA hZ hP hD hS hl.1 [0, 1, 2, 3] 4 rfl ⟨rfl, rfl, rfl⟩ (c_M_placeOf l D ci A sa N (Rw) a_m a_m_cutRows a_m_cutColumns a_m_deep a_m_wide a_m_zonesAhead a_m_nameOne a_m_nameOther a_m_tape a_m_edges a_m_dist a_m_queue a_m_pieceLevel a_m_pieceKey a_m_pieceYear a_m_drawnKeys a_m_kept a_m_noNumbers m_taped m_place m_fault m_number m_levelRead m_keyRead m_reads m_faults m_cutShort m_noNumber m_bottomLat m_bottomLon m_firstBeside m_manyBeside m_queued m_boxLevel m_boxTop m_boxBottom m_boxWest m_boxEast m_isEarly m_pieces m_states m_drawnNow m_keptAt m_deep m_wide m_zonesAhead p1 p2 v8 hm156) 0 rfl rfl (cwV 2 hts gX11_child_X11_placeOf rfl rfl rfl (by decide +kernel) ⟨Nat.le_of_ble_eq_true rfl, Nat.le_of_ble_eq_true rfl⟩) rfl rfl (Nat.le_of_ble_eq_true rfl) dX11_child_156 ⟨Nat.zero_le _, Nat.zero_le _⟩ (fun locs hS => ?_)
                    refine lv_iload (pc := 159) hx hb dX11_child_159 (lv_at hl 0 rfl) ?_
                    refine lv_imul (pc := 161) hx hb dX11_child_161 ?_
                    refine lv_iload (pc := 162) hx hb dX11_child_162 (lv_at hl 5 rfl) ?_
                    refine lv_iload (pc := 164) hx hb dX11_child_164 (lv_at hl 0 rfl) ?_
                    refine q_irem (pc := 166) hx hb dX11_child_166 hf (fun v9 hf => ?_)
                    refine lv_iadd (pc := 167) hx hb dX11_child_167 ?_
                    obtain ⟨v10, hm168, hf⟩ := q_b1_e hf
                    refine q_cVr (pc := 168) (As := [.int p3, .int ((1 + ((v6 - 1) * v4)) + v7), .int ((v8 * v5) + v9)]) (rest := []) (v0 := (some (.int v10))) ⟨hx, hb, hml, hown, hts⟩ hK hA hZ hP hD hS hl.1 [0, 1, 2, 3] 4 rfl ⟨rfl, rfl, rfl⟩ (c_M_keyOf l D ci A sa N (Rw) a_m a_m_cutRows a_m_cutColumns a_m_deep a_m_wide a_m_zonesAhead a_m_nameOne a_m_nameOther a_m_tape a_m_edges a_m_dist a_m_queue a_m_pieceLevel a_m_pieceKey a_m_pieceYear a_m_drawnKeys a_m_kept a_m_noNumbers m_taped m_place m_fault m_number m_levelRead m_keyRead m_reads m_faults m_cutShort m_noNumber m_bottomLat m_bottomLon m_firstBeside m_manyBeside m_queued m_boxLevel m_boxTop m_boxBottom m_boxWest m_boxEast m_isEarly m_pieces m_states m_drawnNow m_keptAt m_deep m_wide m_zonesAhead p3 ((1 + ((v6 - 1) * v4)) + v7) ((v8 * v5) + v9) v10 hm168) 0 rfl rfl (cwV 3 hts gX11_child_X11_keyOf rfl rfl rfl (by decide +kernel) ⟨Nat.le_of_ble_eq_true rfl, Nat.le_of_ble_eq_true rfl⟩) rfl rfl (Nat.le_of_ble_eq_true rfl) dX11_child_168 ⟨Nat.zero_le _, Nat.zero_le _⟩ (fun locs hS => ?_)
                    obtain rfl := Option.some.inj hf
                    rw [hQ]
                    exact q_iretr (pc := 171) hx hb hr hlocks rfl hS dX11_child_171
                  · refine lv_iload_n (pc := 116) hx hb dX11_child_116 rfl (lv_at hl 3 rfl) ?_
                    refine q_if_ne (pc := 117) (tgt := 124) hx hb dX11_child_117 (by decide) rfl hf (fun hf => ?_) (fun hf => ?_)
                    · refine lv_aload_n (pc := 124) hx hb dX11_child_124 rfl (lv_at hl 1 rfl) ?_
                      refine lv_iload_n (pc := 125) hx hb dX11_child_125 rfl (lv_at hl 4 rfl) ?_
                      obtain ⟨v11, hm126, hf⟩ := q_b1_e hf
                      refine q_cVr (pc := 126) (As := [.int p3]) (rest := []) (v0 := (some (.int v11))) ⟨hx, hb, hml, hown, hts⟩ hK hA hZ hP hD hS hl.1 [0, 1, 2, 3] 4 rfl ⟨rfl, rfl, rfl⟩ (c_M_sheets l D ci A sa N (Rw) a_m a_m_cutRows a_m_cutColumns a_m_deep a_m_wide a_m_zonesAhead a_m_nameOne a_m_nameOther a_m_tape a_m_edges a_m_dist a_m_queue a_m_pieceLevel a_m_pieceKey a_m_pieceYear a_m_drawnKeys a_m_kept a_m_noNumbers m_taped m_place m_fault m_number m_levelRead m_keyRead m_reads m_faults m_cutShort m_noNumber m_bottomLat m_bottomLon m_firstBeside m_manyBeside m_queued m_boxLevel m_boxTop m_boxBottom m_boxWest m_boxEast m_isEarly m_pieces m_states m_drawnNow m_keptAt m_deep m_wide m_zonesAhead p3 v11 hm126) 0 rfl rfl (cwV 1 hts gX11_child_X11_sheets rfl rfl rfl (by decide +kernel) ⟨Nat.le_of_ble_eq_true rfl, Nat.le_of_ble_eq_true rfl⟩) rfl rfl (Nat.le_of_ble_eq_true rfl) dX11_child_126 ⟨Nat.zero_le _, Nat.zero_le _⟩ (fun locs hS => ?_)
                      refine lv_iconst (pc := 129) (v := 1) hx hb dX11_child_129 (by decide) ?_
                      refine lv_isub (pc := 130) hx hb dX11_child_130 ?_
                      obtain rfl := Option.some.inj hf
                      rw [hQ]
                      exact q_iretr (pc := 131) hx hb hr hlocks rfl hS dX11_child_131
                    · refine lv_iconst (pc := 120) (v := 0) hx hb dX11_child_120 (by decide) ?_
                      refine lv_goto (pc := 121) (tgt := 131) hx hb dX11_child_121 (by decide) ?_
                      obtain rfl := Option.some.inj hf
                      rw [hQ]
                      exact q_iretr (pc := 131) hx hb hr hlocks rfl hS dX11_child_131
                · refine lv_bipush (pc := 108) (v := (-2)) hx hb dX11_child_108 (by decide) ?_
                  obtain rfl := Option.some.inj hf
                  rw [hQ]
                  exact q_iretr (pc := 110) hx hb hr hlocks rfl hS dX11_child_110
              · refine lv_iload (pc := 92) hx hb dX11_child_92 (lv_at hl 7 rfl) ?_
                refine lv_iload (pc := 94) hx hb dX11_child_94 (lv_at hl 0 rfl) ?_
                refine lv_imul (pc := 96) hx hb dX11_child_96 ?_
                obtain rfl := Option.some.inj hf
                rw [hQ]
                exact q_iretr (pc := 97) hx hb hr hlocks rfl hS dX11_child_97
            refine q_if_eq (pc := 64) (tgt := 71) hx hb dX11_child_64 (by decide) rfl hf (fun hf => ?_) (fun hf => ?_)
            · refine lv_aload_n (pc := 71) hx hb dX11_child_71 rfl (lv_at hl 1 rfl) ?_
              refine va_get (pc := 72) (D := D) (ci := 11) (v := .ref a_m_wide) (C := RX11) (T := TX11) (N := 42) hx hb hts hinX11 hown hK hP 0 rfl rfl 3 (by decide) w_3 (fun _ h9 => h9) rfl dX11_child_72 ?_
              refine lv_iload_n (pc := 75) hx hb dX11_child_75 rfl (lv_at hl 4 rfl) ?_
              refine q_iald (pc := 76) hx hb hK hP 2 0 hf rfl rfl dX11_child_76 (fun v12 hf => ?_)
              refine lv_aload_n (pc := 77) hx hb dX11_child_77 rfl (lv_at hl 1 rfl) ?_
              refine va_get (pc := 78) (D := D) (ci := 11) (v := .ref a_m_wide) (C := RX11) (T := TX11) (N := 42) hx hb hts hinX11 hown hK hP 0 rfl rfl 3 (by decide) w_3 (fun _ h9 => h9) rfl dX11_child_78 ?_
              refine lv_iload_n (pc := 81) hx hb dX11_child_81 rfl (lv_at hl 2 rfl) ?_
              refine q_iald (pc := 82) hx hb hK hP 2 0 hf rfl rfl dX11_child_82 (fun v13 hf => ?_)
              refine q_idiv (pc := 83) hx hb dX11_child_83 hf (fun v14 hf => ?_)
              exact J84 v14 _ _ _ hf rfl hS (lv_sub hl [1, 2, 3, 4, 5, 6, 0] rfl)
            · refine lv_iconst (pc := 67) (v := 1) hx hb dX11_child_67 (by decide) ?_
              refine lv_goto (pc := 68) (tgt := 84) hx hb dX11_child_68 (by decide) ?_
              exact J84 1 _ _ _ hf rfl hS (lv_sub hl [1, 2, 3, 4, 5, 6, 0] rfl)
          refine q_if_eq (pc := 40) (tgt := 47) hx hb dX11_child_40 (by decide) rfl hf (fun hf => ?_) (fun hf => ?_)
          · refine lv_aload_n (pc := 47) hx hb dX11_child_47 rfl (lv_at hl 1 rfl) ?_
            refine va_get (pc := 48) (D := D) (ci := 11) (v := .ref a_m_deep) (C := RX11) (T := TX11) (N := 42) hx hb hts hinX11 hown hK hP 0 rfl rfl 2 (by decide) w_2 (fun _ h9 => h9) rfl dX11_child_48 ?_
            refine lv_iload_n (pc := 51) hx hb dX11_child_51 rfl (lv_at hl 4 rfl) ?_
            refine q_iald (pc := 52) hx hb hK hP 1 0 hf rfl rfl dX11_child_52 (fun v15 hf => ?_)
            refine lv_aload_n (pc := 53) hx hb dX11_child_53 rfl (lv_at hl 1 rfl) ?_
            refine va_get (pc := 54) (D := D) (ci := 11) (v := .ref a_m_deep) (C := RX11) (T := TX11) (N := 42) hx hb hts hinX11 hown hK hP 0 rfl rfl 2 (by decide) w_2 (fun _ h9 => h9) rfl dX11_child_54 ?_
            refine lv_iload_n (pc := 57) hx hb dX11_child_57 rfl (lv_at hl 2 rfl) ?_
            refine q_iald (pc := 58) hx hb hK hP 1 0 hf rfl rfl dX11_child_58 (fun v16 hf => ?_)
            refine q_idiv (pc := 59) hx hb dX11_child_59 hf (fun v17 hf => ?_)
            exact J60 v17 _ _ _ hf rfl hS (lv_sub hl [1, 2, 3, 4, 5, 0] rfl)
          · refine lv_iconst (pc := 43) (v := 1) hx hb dX11_child_43 (by decide) ?_
            refine lv_goto (pc := 44) (tgt := 60) hx hb dX11_child_44 (by decide) ?_
            exact J60 1 _ _ _ hf rfl hS (lv_sub hl [1, 2, 3, 4, 5, 0] rfl)
        · refine lv_iconst (pc := 28) (v := (-1)) hx hb dX11_child_28 (by decide) ?_
          obtain rfl := Option.some.inj hf
          rw [hQ]
          exact q_iretr (pc := 29) hx hb hr hlocks rfl hS dX11_child_29
  exact hgo _ _ rfl hP hS
/-! X11_common -/
set_option maxRecDepth 100000 in
set_option maxHeartbeats 4000000 in
theorem c_M_common (l : Launch) (D : va_G) (ci : Nat → ClassId) (A : Nat → Prop) (sa : Nat → Nat) (N : Nat) (Rw : va_W) (p1 : Int64) (p2 : Int64) (r : Int64) (hf : f_M_common N p1 p2 = some r) : Met l yX11_common wsX11_common ({ frames := 0, cells := 0, slots := 0, locals := 0 }) (va_Pc [.long p1, .long p2] (q_N D ci A sa (Rw))) (q_R (some (.long r))) 0 0 A := by
  refine q_ofW (cc := cX11_common) (maxL := 10) (ret := (some .long)) [.long p1, .long p2] (plainFor_of_name (by decide)) rfl (Nat.le_of_ble_eq_true rfl) ?_
  intro p e s m below meth c ls Q hQ hx hb hml hr hts hown hlocks hK hA hZ hP hD hS hl
  have hl : lv_has ls 10 [(0, .long p1), (2, .long p2)] := hl
  have hown : s.vm.findClass RX11 = some m.cls := hown
  unfold f_M_common at hf
  have hgo : ∀ (H : Heap) (locs : List Loc), H = s.heap → va_P D vwCl (Rw) H → va_S A s.heap H locs → W p l e ({ frames := 0, cells := 0, slots := 0, locals := 0 } : Room) s m ([.long p1, .long p2] : List Value).toArray below meth c H locs 0 0 Q (F0 m 0 ls []) := by
    intro H locs hH hP hS
    subst hH
    refine lv_lload_n (pc := 0) hx hb dX11_common_0 rfl (lv_at hl 0 rfl) ?_
    refine lv_lconst (pc := 1) (v := 0) hx hb dX11_common_1 (by decide) ?_
    refine W.lcmp (pc := 2) hx hb dX11_common_2 ?_
    obtain ⟨k12, ek12, hf⟩ := q_j1_e hf
    have J12 : ∀ (v1 : Int64) (H : Heap) (locs : List Loc) (ls : Array Slot), k12 v1 = some r → H = s.heap → va_S A s.heap H locs → lv_has ls 10 [(2, .long p2)] → W p l e ({ frames := 0, cells := 0, slots := 0, locals := 0 } : Room) s m ([.long p1, .long p2] : List Value).toArray below meth c H locs 0 0 Q (F0 m 12 ls [.long v1]) := by
      intro v1 H locs ls hf hHs hS hl
      subst hHs
      have hf := (ek12 v1).symm.trans hf
      refine lv_lstore (pc := 12) (lv' := [(4, .long v1), (2, .long p2)]) hx hb dX11_common_12 hl (by decide) rfl (fun ls hl => ?_)
      refine lv_lload_n (pc := 14) hx hb dX11_common_14 rfl (lv_at hl 1 rfl) ?_
      refine lv_lstore (pc := 15) (lv' := [(6, .long p2), (4, .long v1), (2, .long p2)]) hx hb dX11_common_15 hl (by decide) rfl (fun ls hl => ?_)
      obtain ⟨v4, hm17, hf⟩ := q_b1_e hf
      have JE17 : ∀ (H : Heap) (locs : List Loc) (ls : Array Slot), H = s.heap → va_S A s.heap H locs → lv_has ls 10 [(4, .long v4)] → W p l e ({ frames := 0, cells := 0, slots := 0, locals := 0 } : Room) s m ([.long p1, .long p2] : List Value).toArray below meth c H locs 0 0 Q (F0 m 42 ls []) := by
        intro H locs ls hHs hS hl
        subst hHs
        refine lv_lload (pc := 42) hx hb dX11_common_42 (lv_at hl 0 rfl) ?_
        obtain rfl := Option.some.inj hf
        rw [hQ]
        exact q_lretr (pc := 44) hx hb hr hlocks rfl hS dX11_common_44
      have LP17 : ∀ (n17 : Nat) (v2 : Int64) (v3 : Int64) (H : Heap) (locs : List Loc) (ls : Array Slot), f_M_common_L17 n17 v2 v3 = some v4 → H = s.heap → va_S A s.heap H locs → lv_has ls 10 [(4, .long v2), (6, .long v3)] → W p l e ({ frames := 0, cells := 0, slots := 0, locals := 0 } : Room) s m ([.long p1, .long p2] : List Value).toArray below meth c H locs 0 0 Q (F0 m 17 ls []) := by
        intro n17
        induction n17 with
        | zero => intro v2 v3 H locs ls hf; rw [f_M_common_L17] at hf; cases hf
        | succ n17 ih17 =>
          intro v2 v3 H locs ls hf hHs hS hl
          subst hHs
          rw [f_M_common_L17] at hf
          refine lv_lload (pc := 17) hx hb dX11_common_17 (lv_at hl 1 rfl) ?_
          refine lv_lconst (pc := 19) (v := 0) hx hb dX11_common_19 (by decide) ?_
          refine W.lcmp (pc := 20) hx hb dX11_common_20 ?_
          refine q_if_eq (pc := 21) (tgt := 42) hx hb dX11_common_21 (by decide) rfl hf (fun hf => ?_) (fun hf => ?_)
          · obtain rfl := Option.some.inj hf
            exact JE17 _ _ _ rfl hS (lv_sub hl [0] rfl)
          · refine lv_lload (pc := 24) hx hb dX11_common_24 (lv_at hl 0 rfl) ?_
            refine lv_lload (pc := 26) hx hb dX11_common_26 (lv_at hl 1 rfl) ?_
            refine q_lrem (pc := 28) hx hb dX11_common_28 hf (fun v5 hf => ?_)
            refine lv_lstore (pc := 29) (lv' := [(8, .long v5), (4, .long v2), (6, .long v3)]) hx hb dX11_common_29 hl (by decide) rfl (fun ls hl => ?_)
            refine lv_lload (pc := 31) hx hb dX11_common_31 (lv_at hl 2 rfl) ?_
            refine lv_lstore (pc := 33) (lv' := [(4, .long v3), (8, .long v5), (6, .long v3)]) hx hb dX11_common_33 hl (by decide) rfl (fun ls hl => ?_)
            refine lv_lload (pc := 35) hx hb dX11_common_35 (lv_at hl 1 rfl) ?_
            refine lv_lstore (pc := 37) (lv' := [(6, .long v5), (4, .long v3), (8, .long v5)]) hx hb dX11_common_37 hl (by decide) rfl (fun ls hl => ?_)
            refine lv_goto (pc := 39) (tgt := 17) hx hb dX11_common_39 (by decide) ?_
            exact ih17 v3 v5 _ _ _ hf rfl hS (lv_sub hl [1, 0] rfl)
      exact LP17 N v1 p2 _ _ _ hm17 rfl hS (lv_sub hl [1, 0] rfl)
    refine q_if_ge (pc := 3) (tgt := 11) hx hb dX11_common_3 (by decide) rfl hf (fun hf => ?_) (fun hf => ?_)
    · refine lv_lload_n (pc := 11) hx hb dX11_common_11 rfl (lv_at hl 0 rfl) ?_
      exact J12 p1 _ _ _ hf rfl hS (lv_sub hl [1] rfl)
    · refine lv_lload_n (pc := 6) hx hb dX11_common_6 rfl (lv_at hl 0 rfl) ?_
      refine lv_lneg (pc := 7) hx hb dX11_common_7 ?_
      refine lv_goto (pc := 8) (tgt := 12) hx hb dX11_common_8 (by decide) ?_
      exact J12 (-p1) _ _ _ hf rfl hS (lv_sub hl [1] rfl)
  exact hgo _ _ rfl hP hS
/-! X11_common_ -/
set_option maxRecDepth 100000 in
set_option maxHeartbeats 4000000 in
theorem c_M_common_ (l : Launch) (D : va_G) (ci : Nat → ClassId) (A : Nat → Prop) (sa : Nat → Nat) (N : Nat) (Rw : va_W) (a_m : Nat) (a_m_cutRows : Nat) (a_m_cutColumns : Nat) (a_m_deep : Nat) (a_m_wide : Nat) (a_m_zonesAhead : Nat) (a_m_nameOne : Nat) (a_m_nameOther : Nat) (a_m_tape : Nat) (a_m_edges : Nat) (a_m_dist : Nat) (a_m_queue : Nat) (a_m_pieceLevel : Nat) (a_m_pieceKey : Nat) (a_m_pieceYear : Nat) (a_m_drawnKeys : Nat) (a_m_kept : Nat) (a_m_noNumbers : Nat) (m_taped : Int32) (m_place : Int32) (m_fault : Int32) (m_number : Int32) (m_levelRead : Int32) (m_keyRead : Int32) (m_reads : Int32) (m_faults : Int32) (m_cutShort : Int32) (m_noNumber : Int32) (m_bottomLat : Int64) (m_bottomLon : Int64) (m_firstBeside : Int32) (m_manyBeside : Int32) (m_queued : Int32) (m_boxLevel : Int32) (m_boxTop : Int32) (m_boxBottom : Int32) (m_boxWest : Int32) (m_boxEast : Int32) (m_isEarly : Int32) (m_pieces : Int32) (m_states : Int32) (m_drawnNow : Int32) (m_keptAt : Int32) (m_deep : Nat → Int32) (m_wide : Nat → Int32) (m_zonesAhead : Nat → Int32) (p1 : Int32) (p2 : Int32) (p3 : Int32) (p4 : Int32) (r : Int32) (hf : f_M_common_ N m_deep m_wide m_zonesAhead p1 p2 p3 p4 = some r) : Met l yX11_common_ wsX11_common_ ({ frames := 4, cells := 0, slots := 0, locals := 90 }) (va_Pc [.ref a_m, .int p1, .int p2, .int p3, .int p4] (q_N D ci A sa ((a_m, .inr (11, (.ref a_m_cutRows :: .ref a_m_cutColumns :: .ref a_m_deep :: .ref a_m_wide :: .ref a_m_zonesAhead :: .ref a_m_nameOne :: .ref a_m_nameOther :: .ref a_m_tape :: .int m_taped :: .int m_place :: .int m_fault :: .int m_number :: .int m_levelRead :: .int m_keyRead :: .int m_reads :: .int m_faults :: .int m_cutShort :: .int m_noNumber :: .long m_bottomLat :: .long m_bottomLon :: .ref a_m_edges :: .int m_firstBeside :: .int m_manyBeside :: .ref a_m_dist :: .ref a_m_queue :: .int m_queued :: .int m_boxLevel :: .int m_boxTop :: .int m_boxBottom :: .int m_boxWest :: .int m_boxEast :: .int m_isEarly :: .int m_pieces :: .int m_states :: .ref a_m_pieceLevel :: .ref a_m_pieceKey :: .ref a_m_pieceYear :: .int m_drawnNow :: .ref a_m_drawnKeys :: .ref a_m_kept :: .int m_keptAt :: .ref a_m_noNumbers :: []))) :: (a_m_deep, .inl (ci 0, 5, .inl m_deep)) :: (a_m_wide, .inl (ci 0, 5, .inl m_wide)) :: (a_m_zonesAhead, .inl (ci 0, 45, .inl m_zonesAhead)) :: Rw))) (q_R (some (.int r))) 0 0 A := by
  refine q_ofW (cc := cX11_common_) (maxL := 6) (ret := (some .int)) [.ref a_m, .int p1, .int p2, .int p3, .int p4] (plainFor_of_name (by decide)) rfl (Nat.le_of_ble_eq_true rfl) ?_
  intro p e s m below meth c ls Q hQ hx hb hml hr hts hown hlocks hK hA hZ hP hD hS hl
  have hl : lv_has ls 6 [(0, .ref a_m), (1, .int p1), (2, .int p2), (3, .int p3), (4, .int p4)] := hl
  have hown : s.vm.findClass RX11 = some m.cls := hown
  unfold f_M_common_ at hf
  have hgo : ∀ (H : Heap) (locs : List Loc), H = s.heap → va_P D vwCl ((a_m, .inr (11, (.ref a_m_cutRows :: .ref a_m_cutColumns :: .ref a_m_deep :: .ref a_m_wide :: .ref a_m_zonesAhead :: .ref a_m_nameOne :: .ref a_m_nameOther :: .ref a_m_tape :: .int m_taped :: .int m_place :: .int m_fault :: .int m_number :: .int m_levelRead :: .int m_keyRead :: .int m_reads :: .int m_faults :: .int m_cutShort :: .int m_noNumber :: .long m_bottomLat :: .long m_bottomLon :: .ref a_m_edges :: .int m_firstBeside :: .int m_manyBeside :: .ref a_m_dist :: .ref a_m_queue :: .int m_queued :: .int m_boxLevel :: .int m_boxTop :: .int m_boxBottom :: .int m_boxWest :: .int m_boxEast :: .int m_isEarly :: .int m_pieces :: .int m_states :: .ref a_m_pieceLevel :: .ref a_m_pieceKey :: .ref a_m_pieceYear :: .int m_drawnNow :: .ref a_m_drawnKeys :: .ref a_m_kept :: .int m_keptAt :: .ref a_m_noNumbers :: []))) :: (a_m_deep, .inl (ci 0, 5, .inl m_deep)) :: (a_m_wide, .inl (ci 0, 5, .inl m_wide)) :: (a_m_zonesAhead, .inl (ci 0, 45, .inl m_zonesAhead)) :: Rw) H → va_S A s.heap H locs → W p l e ({ frames := 4, cells := 0, slots := 0, locals := 90 } : Room) s m ([.ref a_m, .int p1, .int p2, .int p3, .int p4] : List Value).toArray below meth c H locs 0 0 Q (F0 m 0 ls []) := by
    intro H locs hH hP hS
    subst hH
    refine lv_iload_n (pc := 0) hx hb dX11_common__0 rfl (lv_at hl 1 rfl) ?_
    refine lv_iload_n (pc := 1) hx hb dX11_common__1 rfl (lv_at hl 2 rfl) ?_
    obtain ⟨v1, hm2, hf⟩ := q_b1_e hf
    refine q_cSr (pc := 2) (As := [.int p1, .int p2]) (rest := []) (v0 := (some (.int v1))) ⟨hx, hb, hml, hown, hts⟩ hK hA hZ hP hD hS hl.1 [] 4 rfl ⟨rfl, rfl, rfl⟩ (c_M_isPlace l D ci A sa N (Rw) p1 p2 v1 hm2) (va_cwS 2 hts gX11_common__X11_isPlace rfl rfl rfl (by decide +kernel) ⟨Nat.le_of_ble_eq_true rfl, Nat.le_of_ble_eq_true rfl⟩) rfl rfl (Nat.le_of_ble_eq_true rfl) dX11_common__2 ⟨Nat.zero_le _, Nat.zero_le _⟩ (fun locs hS => ?_)
    refine q_if_eq (pc := 5) (tgt := 17) hx hb dX11_common__5 (by decide) rfl hf (fun hf => ?_) (fun hf => ?_)
    · refine lv_iconst (pc := 17) (v := (-1)) hx hb dX11_common__17 (by decide) ?_
      obtain rfl := Option.some.inj hf
      rw [hQ]
      exact q_iretr (pc := 18) hx hb hr hlocks rfl hS dX11_common__18
    · refine lv_iload_n (pc := 8) hx hb dX11_common__8 rfl (lv_at hl 3 rfl) ?_
      refine lv_iload (pc := 9) hx hb dX11_common__9 (lv_at hl 4 rfl) ?_
      obtain ⟨v2, hm11, hf⟩ := q_b1_e hf
      refine q_cSr (pc := 11) (As := [.int p3, .int p4]) (rest := []) (v0 := (some (.int v2))) ⟨hx, hb, hml, hown, hts⟩ hK hA hZ hP hD hS hl.1 [] 4 rfl ⟨rfl, rfl, rfl⟩ (c_M_isPlace l D ci A sa N (Rw) p3 p4 v2 hm11) (va_cwS 2 hts gX11_common__X11_isPlace rfl rfl rfl (by decide +kernel) ⟨Nat.le_of_ble_eq_true rfl, Nat.le_of_ble_eq_true rfl⟩) rfl rfl (Nat.le_of_ble_eq_true rfl) dX11_common__11 ⟨Nat.zero_le _, Nat.zero_le _⟩ (fun locs hS => ?_)
      refine q_if_ne (pc := 14) (tgt := 19) hx hb dX11_common__14 (by decide) rfl hf (fun hf => ?_) (fun hf => ?_)
      · refine lv_iconst (pc := 19) (v := 4) hx hb dX11_common__19 (by decide) ?_
        obtain ⟨v3, ev3, hf⟩ := q_nm_e hf
        refine q_topi ev3 ?_
        refine lv_istore (pc := 20) (lv' := [(5, .int v3), (0, .ref a_m), (1, .int p1), (2, .int p2), (3, .int p3), (4, .int p4)]) hx hb dX11_common__20 hl (by decide) rfl (fun ls hl => ?_)
        obtain ⟨k22, o22_, ek22, hm22, hk22⟩ := q_s0_k hf
        have JE22 : ∀  (H : Heap) (locs : List Loc) (ls : Array Slot), k22 = some r → H = s.heap → va_S A s.heap H locs → lv_has ls 6 [] → W p l e ({ frames := 4, cells := 0, slots := 0, locals := 90 } : Room) s m ([.ref a_m, .int p1, .int p2, .int p3, .int p4] : List Value).toArray below meth c H locs 0 0 Q (F0 m 56 ls []) := by
          intro  H locs ls hf hHs hS hl
          subst hHs
          have hf := (ek22).symm.trans hf
          refine lv_bipush (pc := 56) (v := (-2)) hx hb dX11_common__56 (by decide) ?_
          obtain rfl := Option.some.inj hf
          rw [hQ]
          exact q_iretr (pc := 58) hx hb hr hlocks rfl hS dX11_common__58
        have LP22 : ∀ (n22 : Nat) (v4 : Int32) (H : Heap) (locs : List Loc) (ls : Array Slot), f_M_common__L22 m_deep m_wide m_zonesAhead p1 p2 p3 p4 n22 v4 = some o22_ → H = s.heap → va_S A s.heap H locs → lv_has ls 6 [(0, .ref a_m), (1, .int p1), (2, .int p2), (3, .int p3), (4, .int p4), (5, .int v4)] → W p l e ({ frames := 4, cells := 0, slots := 0, locals := 90 } : Room) s m ([.ref a_m, .int p1, .int p2, .int p3, .int p4] : List Value).toArray below meth c H locs 0 0 Q (F0 m 22 ls []) := by
          intro n22
          induction n22 with
          | zero => intro v4 H locs ls hf; rw [f_M_common__L22] at hf; cases hf
          | succ n22 ih22 =>
            intro v4 H locs ls hf hHs hS hl
            subst hHs
            rw [f_M_common__L22] at hf
            refine lv_iload (pc := 22) hx hb dX11_common__22 (lv_at hl 5 rfl) ?_
            refine q_if_lt (pc := 24) (tgt := 56) hx hb dX11_common__24 (by decide) rfl hf (fun hf => ?_) (fun hf => ?_)
            · obtain rfl := Option.some.inj hf
              exact JE22  _ _ _ hk22 rfl hS (lv_sub hl [] rfl)
            · refine lv_aload_n (pc := 27) hx hb dX11_common__27 rfl (lv_at hl 0 rfl) ?_
              refine lv_iload_n (pc := 28) hx hb dX11_common__28 rfl (lv_at hl 1 rfl) ?_
              refine lv_iload_n (pc := 29) hx hb dX11_common__29 rfl (lv_at hl 2 rfl) ?_
              refine lv_iload (pc := 30) hx hb dX11_common__30 (lv_at hl 5 rfl) ?_
              obtain ⟨v5, hm32, hf⟩ := q_b1_e hf
              refine q_cVr (pc := 32) (As := [.int p1, .int p2, .int v4]) (rest := []) (v0 := (some (.int v5))) ⟨hx, hb, hml, hown, hts⟩ hK hA hZ hP hD hS hl.1 [0, 1, 2, 3] 4 rfl ⟨rfl, rfl, rfl⟩ (c_M_keyAtPlace l D ci A sa N (Rw) a_m a_m_cutRows a_m_cutColumns a_m_deep a_m_wide a_m_zonesAhead a_m_nameOne a_m_nameOther a_m_tape a_m_edges a_m_dist a_m_queue a_m_pieceLevel a_m_pieceKey a_m_pieceYear a_m_drawnKeys a_m_kept a_m_noNumbers m_taped m_place m_fault m_number m_levelRead m_keyRead m_reads m_faults m_cutShort m_noNumber m_bottomLat m_bottomLon m_firstBeside m_manyBeside m_queued m_boxLevel m_boxTop m_boxBottom m_boxWest m_boxEast m_isEarly m_pieces m_states m_drawnNow m_keptAt m_deep m_wide m_zonesAhead p1 p2 v4 v5 hm32) 0 rfl rfl (cwV 3 hts gX11_common__X11_keyAtPlace rfl rfl rfl (by decide +kernel) ⟨Nat.le_of_ble_eq_true rfl, Nat.le_of_ble_eq_true rfl⟩) rfl rfl (Nat.le_of_ble_eq_true rfl) dX11_common__32 ⟨Nat.zero_le _, Nat.zero_le _⟩ (fun locs hS => ?_)
              refine lv_aload_n (pc := 35) hx hb dX11_common__35 rfl (lv_at hl 0 rfl) ?_
              refine lv_iload_n (pc := 36) hx hb dX11_common__36 rfl (lv_at hl 3 rfl) ?_
              refine lv_iload (pc := 37) hx hb dX11_common__37 (lv_at hl 4 rfl) ?_
              refine lv_iload (pc := 39) hx hb dX11_common__39 (lv_at hl 5 rfl) ?_
              obtain ⟨v6, hm41, hf⟩ := q_b1_e hf
              refine q_cVr (pc := 41) (As := [.int p3, .int p4, .int v4]) (rest := [.int v5]) (v0 := (some (.int v6))) ⟨hx, hb, hml, hown, hts⟩ hK hA hZ hP hD hS hl.1 [0, 1, 2, 3] 4 rfl ⟨rfl, rfl, rfl⟩ (c_M_keyAtPlace l D ci A sa N (Rw) a_m a_m_cutRows a_m_cutColumns a_m_deep a_m_wide a_m_zonesAhead a_m_nameOne a_m_nameOther a_m_tape a_m_edges a_m_dist a_m_queue a_m_pieceLevel a_m_pieceKey a_m_pieceYear a_m_drawnKeys a_m_kept a_m_noNumbers m_taped m_place m_fault m_number m_levelRead m_keyRead m_reads m_faults m_cutShort m_noNumber m_bottomLat m_bottomLon m_firstBeside m_manyBeside m_queued m_boxLevel m_boxTop m_boxBottom m_boxWest m_boxEast m_isEarly m_pieces m_states m_drawnNow m_keptAt m_deep m_wide m_zonesAhead p3 p4 v4 v6 hm41) 0 rfl rfl (cwV 3 hts gX11_common__X11_keyAtPlace rfl rfl rfl (by decide +kernel) ⟨Nat.le_of_ble_eq_true rfl, Nat.le_of_ble_eq_true rfl⟩) rfl rfl (Nat.le_of_ble_eq_true rfl) dX11_common__41 ⟨Nat.zero_le _, Nat.zero_le _⟩ (fun locs hS => ?_)
              refine q_icmp_ne (pc := 44) (tgt := 50) hx hb dX11_common__44 (by decide) rfl hf (fun hf => ?_) (fun hf => ?_)
              · obtain ⟨v7, ev7, hf⟩ := q_nm_e hf
                refine lv_iinc (pc := 50) (v := v7) (lv' := [(5, .int v7), (0, .ref a_m), (1, .int p1), (2, .int p2), (3, .int p3), (4, .int p4)]) hx hb dX11_common__50 hl (k := 5) rfl (by rw [ev7]; rfl) (by decide) rfl (fun ls hl => ?_)
                refine lv_goto (pc := 53) (tgt := 22) hx hb dX11_common__53 (by decide) ?_
                exact ih22 v7 _ _ _ hf rfl hS (lv_sub hl [1, 2, 3, 4, 5, 0] rfl)
              · refine lv_iload (pc := 47) hx hb dX11_common__47 (lv_at hl 5 rfl) ?_
                obtain rfl := Option.some.inj hf
                have hk22 : (v4 : Int32) = r := hk22
                obtain rfl := hk22
                rw [hQ]
                exact q_iretr (pc := 49) hx hb hr hlocks rfl hS dX11_common__49
        exact LP22 N v3 _ _ _ hm22 rfl hS (lv_sub hl [1, 2, 3, 4, 5, 0] rfl)
      · refine lv_iconst (pc := 17) (v := (-1)) hx hb dX11_common__17 (by decide) ?_
        obtain rfl := Option.some.inj hf
        rw [hQ]
        exact q_iretr (pc := 18) hx hb hr hlocks rfl hS dX11_common__18
  exact hgo _ _ rfl hP hS
/-! X11_cornerOf -/
set_option maxRecDepth 100000 in
set_option maxHeartbeats 4000000 in
theorem c_M_cornerOf (l : Launch) (D : va_G) (ci : Nat → ClassId) (A : Nat → Prop) (sa : Nat → Nat) (N : Nat) (Rw : va_W) (a_m : Nat) (a_m_cutRows : Nat) (a_m_cutColumns : Nat) (a_m_deep : Nat) (a_m_wide : Nat) (a_m_zonesAhead : Nat) (a_m_nameOne : Nat) (a_m_nameOther : Nat) (a_m_tape : Nat) (a_m_edges : Nat) (a_m_dist : Nat) (a_m_queue : Nat) (a_m_pieceLevel : Nat) (a_m_pieceKey : Nat) (a_m_pieceYear : Nat) (a_m_drawnKeys : Nat) (a_m_kept : Nat) (a_m_noNumbers : Nat) (m_taped : Int32) (m_place : Int32) (m_fault : Int32) (m_number : Int32) (m_levelRead : Int32) (m_keyRead : Int32) (m_reads : Int32) (m_faults : Int32) (m_cutShort : Int32) (m_noNumber : Int32) (m_bottomLat : Int64) (m_bottomLon : Int64) (m_firstBeside : Int32) (m_manyBeside : Int32) (m_queued : Int32) (m_boxLevel : Int32) (m_boxTop : Int32) (m_boxBottom : Int32) (m_boxWest : Int32) (m_boxEast : Int32) (m_isEarly : Int32) (m_pieces : Int32) (m_states : Int32) (m_drawnNow : Int32) (m_keptAt : Int32) (m_deep : Nat → Int32) (m_wide : Nat → Int32) (m_zonesAhead : Nat → Int32) (p1 : Int32) (p2 : Int32) (p3 : Int32) (p4 : Int32) (r : Int32) (hf : f_M_cornerOf N m_deep m_wide m_zonesAhead p1 p2 p3 p4 = some r) : Met l yX11_cornerOf wsX11_cornerOf ({ frames := 4, cells := 0, slots := 0, locals := 88 }) (va_Pc [.ref a_m, .int p1, .int p2, .int p3, .int p4] (q_N D ci A sa ((a_m, .inr (11, (.ref a_m_cutRows :: .ref a_m_cutColumns :: .ref a_m_deep :: .ref a_m_wide :: .ref a_m_zonesAhead :: .ref a_m_nameOne :: .ref a_m_nameOther :: .ref a_m_tape :: .int m_taped :: .int m_place :: .int m_fault :: .int m_number :: .int m_levelRead :: .int m_keyRead :: .int m_reads :: .int m_faults :: .int m_cutShort :: .int m_noNumber :: .long m_bottomLat :: .long m_bottomLon :: .ref a_m_edges :: .int m_firstBeside :: .int m_manyBeside :: .ref a_m_dist :: .ref a_m_queue :: .int m_queued :: .int m_boxLevel :: .int m_boxTop :: .int m_boxBottom :: .int m_boxWest :: .int m_boxEast :: .int m_isEarly :: .int m_pieces :: .int m_states :: .ref a_m_pieceLevel :: .ref a_m_pieceKey :: .ref a_m_pieceYear :: .int m_drawnNow :: .ref a_m_drawnKeys :: .ref a_m_kept :: .int m_keptAt :: .ref a_m_noNumbers :: []))) :: (a_m_deep, .inl (ci 0, 5, .inl m_deep)) :: (a_m_wide, .inl (ci 0, 5, .inl m_wide)) :: (a_m_zonesAhead, .inl (ci 0, 45, .inl m_zonesAhead)) :: Rw))) (q_R (some (.int r))) 0 0 A := by
  refine q_ofW (cc := cX11_cornerOf) (maxL := 15) (ret := (some .int)) [.ref a_m, .int p1, .int p2, .int p3, .int p4] (plainFor_of_name (by decide)) rfl (Nat.le_of_ble_eq_true rfl) ?_
  intro p e s m below meth c ls Q hQ hx hb hml hr hts hown hlocks hK hA hZ hP hD hS hl
  have hl : lv_has ls 15 [(0, .ref a_m), (1, .int p1), (2, .int p2), (3, .int p3), (4, .int p4)] := hl
  have hown : s.vm.findClass RX11 = some m.cls := hown
  unfold f_M_cornerOf at hf
  have hgo : ∀ (H : Heap) (locs : List Loc), H = s.heap → va_P D vwCl ((a_m, .inr (11, (.ref a_m_cutRows :: .ref a_m_cutColumns :: .ref a_m_deep :: .ref a_m_wide :: .ref a_m_zonesAhead :: .ref a_m_nameOne :: .ref a_m_nameOther :: .ref a_m_tape :: .int m_taped :: .int m_place :: .int m_fault :: .int m_number :: .int m_levelRead :: .int m_keyRead :: .int m_reads :: .int m_faults :: .int m_cutShort :: .int m_noNumber :: .long m_bottomLat :: .long m_bottomLon :: .ref a_m_edges :: .int m_firstBeside :: .int m_manyBeside :: .ref a_m_dist :: .ref a_m_queue :: .int m_queued :: .int m_boxLevel :: .int m_boxTop :: .int m_boxBottom :: .int m_boxWest :: .int m_boxEast :: .int m_isEarly :: .int m_pieces :: .int m_states :: .ref a_m_pieceLevel :: .ref a_m_pieceKey :: .ref a_m_pieceYear :: .int m_drawnNow :: .ref a_m_drawnKeys :: .ref a_m_kept :: .int m_keptAt :: .ref a_m_noNumbers :: []))) :: (a_m_deep, .inl (ci 0, 5, .inl m_deep)) :: (a_m_wide, .inl (ci 0, 5, .inl m_wide)) :: (a_m_zonesAhead, .inl (ci 0, 45, .inl m_zonesAhead)) :: Rw) H → va_S A s.heap H locs → W p l e ({ frames := 4, cells := 0, slots := 0, locals := 88 } : Room) s m ([.ref a_m, .int p1, .int p2, .int p3, .int p4] : List Value).toArray below meth c H locs 0 0 Q (F0 m 0 ls []) := by
    intro H locs hH hP hS
    subst hH
    refine lv_aload_n (pc := 0) hx hb dX11_cornerOf_0 rfl (lv_at hl 0 rfl) ?_
    refine lv_iload_n (pc := 1) hx hb dX11_cornerOf_1 rfl (lv_at hl 1 rfl) ?_
    refine lv_iload_n (pc := 2) hx hb dX11_cornerOf_2 rfl (lv_at hl 2 rfl) ?_
    obtain ⟨v1, hm3, hf⟩ := q_b1_e hf
    refine q_cVr (pc := 3) (As := [.int p1, .int p2]) (rest := []) (v0 := (some (.int v1))) ⟨hx, hb, hml, hown, hts⟩ hK hA hZ hP hD hS hl.1 [0, 1, 2, 3] 4 rfl ⟨rfl, rfl, rfl⟩ (c_M_rowOf l D ci A sa N (Rw) a_m a_m_cutRows a_m_cutColumns a_m_deep a_m_wide a_m_zonesAhead a_m_nameOne a_m_nameOther a_m_tape a_m_edges a_m_dist a_m_queue a_m_pieceLevel a_m_pieceKey a_m_pieceYear a_m_drawnKeys a_m_kept a_m_noNumbers m_taped m_place m_fault m_number m_levelRead m_keyRead m_reads m_faults m_cutShort m_noNumber m_bottomLat m_bottomLon m_firstBeside m_manyBeside m_queued m_boxLevel m_boxTop m_boxBottom m_boxWest m_boxEast m_isEarly m_pieces m_states m_drawnNow m_keptAt m_deep m_wide m_zonesAhead p1 p2 v1 hm3) 0 rfl rfl (cwV 2 hts gX11_cornerOf_X11_rowOf rfl rfl rfl (by decide +kernel) ⟨Nat.le_of_ble_eq_true rfl, Nat.le_of_ble_eq_true rfl⟩) rfl rfl (Nat.le_of_ble_eq_true rfl) dX11_cornerOf_3 ⟨Nat.zero_le _, Nat.zero_le _⟩ (fun locs hS => ?_)
    refine lv_istore (pc := 6) (lv' := [(5, .int v1), (0, .ref a_m), (1, .int p1), (2, .int p2), (3, .int p3), (4, .int p4)]) hx hb dX11_cornerOf_6 hl (by decide) rfl (fun ls hl => ?_)
    refine lv_iload_n (pc := 8) hx hb dX11_cornerOf_8 rfl (lv_at hl 4 rfl) ?_
    obtain ⟨k23, ek23, hf⟩ := q_j1_e hf
    have J23 : ∀ (v2 : Int32) (H : Heap) (locs : List Loc) (ls : Array Slot), k23 v2 = some r → H = s.heap → va_S A s.heap H locs → lv_has ls 15 [(0, .ref a_m), (1, .int p1), (2, .int p2), (4, .int p4), (5, .int v1)] → W p l e ({ frames := 4, cells := 0, slots := 0, locals := 88 } : Room) s m ([.ref a_m, .int p1, .int p2, .int p3, .int p4] : List Value).toArray below meth c H locs 0 0 Q (F0 m 23 ls [.int v2]) := by
      intro v2 H locs ls hf hHs hS hl
      subst hHs
      have hf := (ek23 v2).symm.trans hf
      refine lv_istore (pc := 23) (lv' := [(6, .int v2), (0, .ref a_m), (1, .int p1), (2, .int p2), (4, .int p4), (5, .int v1)]) hx hb dX11_cornerOf_23 hl (by decide) rfl (fun ls hl => ?_)
      refine lv_aload_n (pc := 25) hx hb dX11_cornerOf_25 rfl (lv_at hl 1 rfl) ?_
      refine lv_iload_n (pc := 26) hx hb dX11_cornerOf_26 rfl (lv_at hl 2 rfl) ?_
      refine lv_iload (pc := 27) hx hb dX11_cornerOf_27 (lv_at hl 5 rfl) ?_
      obtain ⟨v3, hm29, hf⟩ := q_b1_e hf
      refine q_cVr (pc := 29) (As := [.int p1, .int v1]) (rest := []) (v0 := (some (.int v3))) ⟨hx, hb, hml, hown, hts⟩ hK hA hZ hP hD hS hl.1 [0, 1, 2] 4 rfl ⟨rfl, rfl, rfl⟩ (c_M_many l D ci A sa N (Rw) a_m a_m_cutRows a_m_cutColumns a_m_deep a_m_wide a_m_zonesAhead a_m_nameOne a_m_nameOther a_m_tape a_m_edges a_m_dist a_m_queue a_m_pieceLevel a_m_pieceKey a_m_pieceYear a_m_drawnKeys a_m_kept a_m_noNumbers m_taped m_place m_fault m_number m_levelRead m_keyRead m_reads m_faults m_cutShort m_noNumber m_bottomLat m_bottomLon m_firstBeside m_manyBeside m_queued m_boxLevel m_boxTop m_boxBottom m_boxWest m_boxEast m_isEarly m_pieces m_states m_drawnNow m_keptAt m_deep m_wide p1 v1 v3 hm29) 0 rfl rfl (cwV 2 hts gX11_cornerOf_X11_many rfl rfl rfl (by decide +kernel) ⟨Nat.le_of_ble_eq_true rfl, Nat.le_of_ble_eq_true rfl⟩) rfl rfl (Nat.le_of_ble_eq_true rfl) dX11_cornerOf_29 ⟨Nat.zero_le _, Nat.zero_le _⟩ (fun locs hS => ?_)
      refine lv_i2l (pc := 32) hx hb dX11_cornerOf_32 rfl ?_
      obtain ⟨v4, ev4, hf⟩ := q_nm_e hf
      refine q_topl ev4 ?_
      refine lv_lstore (pc := 33) (lv' := [(7, .long v4), (6, .int v2), (0, .ref a_m), (1, .int p1), (2, .int p2), (4, .int p4), (5, .int v1)]) hx hb dX11_cornerOf_33 hl (by decide) rfl (fun ls hl => ?_)
      refine lv_lload (pc := 35) hx hb dX11_cornerOf_35 (lv_at hl 0 rfl) ?_
      refine lv_lconst (pc := 37) (v := 1) hx hb dX11_cornerOf_37 (by decide) ?_
      refine W.lcmp (pc := 38) hx hb dX11_cornerOf_38 ?_
      refine q_if_eq (pc := 39) (tgt := 53) hx hb dX11_cornerOf_39 (by decide) rfl hf (fun hf => ?_) (fun hf => ?_)
      · refine lv_iconst (pc := 53) (v := (-1)) hx hb dX11_cornerOf_53 (by decide) ?_
        obtain rfl := Option.some.inj hf
        rw [hQ]
        exact q_iretr (pc := 54) hx hb hr hlocks rfl hS dX11_cornerOf_54
      · refine lv_aload_n (pc := 42) hx hb dX11_cornerOf_42 rfl (lv_at hl 2 rfl) ?_
        refine lv_iload_n (pc := 43) hx hb dX11_cornerOf_43 rfl (lv_at hl 3 rfl) ?_
        refine lv_iload (pc := 44) hx hb dX11_cornerOf_44 (lv_at hl 1 rfl) ?_
        obtain ⟨v5, hm46, hf⟩ := q_b1_e hf
        refine q_cVr (pc := 46) (As := [.int p1, .int v2]) (rest := []) (v0 := (some (.int v5))) ⟨hx, hb, hml, hown, hts⟩ hK hA hZ hP hD hS hl.1 [0, 1, 2] 4 rfl ⟨rfl, rfl, rfl⟩ (c_M_many l D ci A sa N (Rw) a_m a_m_cutRows a_m_cutColumns a_m_deep a_m_wide a_m_zonesAhead a_m_nameOne a_m_nameOther a_m_tape a_m_edges a_m_dist a_m_queue a_m_pieceLevel a_m_pieceKey a_m_pieceYear a_m_drawnKeys a_m_kept a_m_noNumbers m_taped m_place m_fault m_number m_levelRead m_keyRead m_reads m_faults m_cutShort m_noNumber m_bottomLat m_bottomLon m_firstBeside m_manyBeside m_queued m_boxLevel m_boxTop m_boxBottom m_boxWest m_boxEast m_isEarly m_pieces m_states m_drawnNow m_keptAt m_deep m_wide p1 v2 v5 hm46) 0 rfl rfl (cwV 2 hts gX11_cornerOf_X11_many rfl rfl rfl (by decide +kernel) ⟨Nat.le_of_ble_eq_true rfl, Nat.le_of_ble_eq_true rfl⟩) rfl rfl (Nat.le_of_ble_eq_true rfl) dX11_cornerOf_46 ⟨Nat.zero_le _, Nat.zero_le _⟩ (fun locs hS => ?_)
        refine lv_iconst (pc := 49) (v := 1) hx hb dX11_cornerOf_49 (by decide) ?_
        refine q_icmp_ne (pc := 50) (tgt := 55) hx hb dX11_cornerOf_50 (by decide) rfl hf (fun hf => ?_) (fun hf => ?_)
        · refine lv_aload_n (pc := 55) hx hb dX11_cornerOf_55 rfl (lv_at hl 2 rfl) ?_
          refine lv_iload_n (pc := 56) hx hb dX11_cornerOf_56 rfl (lv_at hl 3 rfl) ?_
          refine lv_iload (pc := 57) hx hb dX11_cornerOf_57 (lv_at hl 1 rfl) ?_
          obtain ⟨v6, hm59, hf⟩ := q_b1_e hf
          refine q_cVr (pc := 59) (As := [.int p1, .int v2]) (rest := []) (v0 := (some (.int v6))) ⟨hx, hb, hml, hown, hts⟩ hK hA hZ hP hD hS hl.1 [0, 1, 2] 4 rfl ⟨rfl, rfl, rfl⟩ (c_M_many l D ci A sa N (Rw) a_m a_m_cutRows a_m_cutColumns a_m_deep a_m_wide a_m_zonesAhead a_m_nameOne a_m_nameOther a_m_tape a_m_edges a_m_dist a_m_queue a_m_pieceLevel a_m_pieceKey a_m_pieceYear a_m_drawnKeys a_m_kept a_m_noNumbers m_taped m_place m_fault m_number m_levelRead m_keyRead m_reads m_faults m_cutShort m_noNumber m_bottomLat m_bottomLon m_firstBeside m_manyBeside m_queued m_boxLevel m_boxTop m_boxBottom m_boxWest m_boxEast m_isEarly m_pieces m_states m_drawnNow m_keptAt m_deep m_wide p1 v2 v6 hm59) 0 rfl rfl (cwV 2 hts gX11_cornerOf_X11_many rfl rfl rfl (by decide +kernel) ⟨Nat.le_of_ble_eq_true rfl, Nat.le_of_ble_eq_true rfl⟩) rfl rfl (Nat.le_of_ble_eq_true rfl) dX11_cornerOf_59 ⟨Nat.zero_le _, Nat.zero_le _⟩ (fun locs hS => ?_)
          refine lv_i2l (pc := 62) hx hb dX11_cornerOf_62 rfl ?_
          obtain ⟨v7, ev7, hf⟩ := q_nm_e hf
          refine q_topl ev7 ?_
          refine lv_lstore (pc := 63) (lv' := [(9, .long v7), (7, .long v4), (6, .int v2), (0, .ref a_m), (1, .int p1), (2, .int p2), (4, .int p4), (5, .int v1)]) hx hb dX11_cornerOf_63 hl (by decide) rfl (fun ls hl => ?_)
          refine lv_aload_n (pc := 65) hx hb dX11_cornerOf_65 rfl (lv_at hl 3 rfl) ?_
          refine lv_iload_n (pc := 66) hx hb dX11_cornerOf_66 rfl (lv_at hl 4 rfl) ?_
          refine lv_iload_n (pc := 67) hx hb dX11_cornerOf_67 rfl (lv_at hl 5 rfl) ?_
          obtain ⟨v8, hm68, hf⟩ := q_b1_e hf
          refine q_cVr (pc := 68) (As := [.int p1, .int p2]) (rest := []) (v0 := (some (.int v8))) ⟨hx, hb, hml, hown, hts⟩ hK hA hZ hP hD hS hl.1 [0, 1, 2, 3] 4 rfl ⟨rfl, rfl, rfl⟩ (c_M_placeOf l D ci A sa N (Rw) a_m a_m_cutRows a_m_cutColumns a_m_deep a_m_wide a_m_zonesAhead a_m_nameOne a_m_nameOther a_m_tape a_m_edges a_m_dist a_m_queue a_m_pieceLevel a_m_pieceKey a_m_pieceYear a_m_drawnKeys a_m_kept a_m_noNumbers m_taped m_place m_fault m_number m_levelRead m_keyRead m_reads m_faults m_cutShort m_noNumber m_bottomLat m_bottomLon m_firstBeside m_manyBeside m_queued m_boxLevel m_boxTop m_boxBottom m_boxWest m_boxEast m_isEarly m_pieces m_states m_drawnNow m_keptAt m_deep m_wide m_zonesAhead p1 p2 v8 hm68) 0 rfl rfl (cwV 2 hts gX11_cornerOf_X11_placeOf rfl rfl rfl (by decide +kernel) ⟨Nat.le_of_ble_eq_true rfl, Nat.le_of_ble_eq_true rfl⟩) rfl rfl (Nat.le_of_ble_eq_true rfl) dX11_cornerOf_68 ⟨Nat.zero_le _, Nat.zero_le _⟩ (fun locs hS => ?_)
          refine lv_iload (pc := 71) hx hb dX11_cornerOf_71 (lv_at hl 6 rfl) ?_
          refine lv_iadd (pc := 73) hx hb dX11_cornerOf_73 ?_
          refine lv_i2l (pc := 74) hx hb dX11_cornerOf_74 rfl ?_
          refine lv_lload (pc := 75) hx hb dX11_cornerOf_75 (lv_at hl 0 rfl) ?_
          refine lv_lmul (pc := 77) hx hb dX11_cornerOf_77 ?_
          obtain ⟨v9, ev9, hf⟩ := q_nm_e hf
          refine q_topl ev9 ?_
          refine lv_lstore (pc := 78) (lv' := [(11, .long v9), (9, .long v7), (7, .long v4), (6, .int v2), (0, .ref a_m), (1, .int p1), (2, .int p2), (4, .int p4), (5, .int v1)]) hx hb dX11_cornerOf_78 hl (by decide) rfl (fun ls hl => ?_)
          refine lv_lload (pc := 80) hx hb dX11_cornerOf_80 (lv_at hl 0 rfl) ?_
          refine lv_lload (pc := 82) hx hb dX11_cornerOf_82 (lv_at hl 2 rfl) ?_
          refine q_lrem (pc := 84) hx hb dX11_cornerOf_84 hf (fun v10 hf => ?_)
          refine lv_lconst (pc := 85) (v := 0) hx hb dX11_cornerOf_85 (by decide) ?_
          refine W.lcmp (pc := 86) hx hb dX11_cornerOf_86 ?_
          refine q_if_eq (pc := 87) (tgt := 92) hx hb dX11_cornerOf_87 (by decide) rfl hf (fun hf => ?_) (fun hf => ?_)
          · refine lv_lload (pc := 92) hx hb dX11_cornerOf_92 (lv_at hl 0 rfl) ?_
            refine lv_lload (pc := 94) hx hb dX11_cornerOf_94 (lv_at hl 2 rfl) ?_
            refine q_ldiv (pc := 96) hx hb dX11_cornerOf_96 hf (fun v11 hf => ?_)
            refine lv_lstore (pc := 97) (lv' := [(13, .long v11), (11, .long v9), (9, .long v7), (7, .long v4), (6, .int v2), (0, .ref a_m), (1, .int p1), (2, .int p2), (4, .int p4), (5, .int v1)]) hx hb dX11_cornerOf_97 hl (by decide) rfl (fun ls hl => ?_)
            refine lv_aload_n (pc := 99) hx hb dX11_cornerOf_99 rfl (lv_at hl 5 rfl) ?_
            refine lv_iload_n (pc := 100) hx hb dX11_cornerOf_100 rfl (lv_at hl 6 rfl) ?_
            refine lv_iload (pc := 101) hx hb dX11_cornerOf_101 (lv_at hl 4 rfl) ?_
            refine lv_iload (pc := 103) hx hb dX11_cornerOf_103 (lv_at hl 8 rfl) ?_
            obtain ⟨k126, ek126, hf⟩ := q_j1_e hf
            have J126 : ∀ (v12 : Int64) (H : Heap) (locs : List Loc) (ls : Array Slot), k126 v12 = some r → H = s.heap → va_S A s.heap H locs → lv_has ls 15 [] → W p l e ({ frames := 4, cells := 0, slots := 0, locals := 88 } : Room) s m ([.ref a_m, .int p1, .int p2, .int p3, .int p4] : List Value).toArray below meth c H locs 0 0 Q (F0 m 126 ls [.long v12, .int v2, .int p1, .ref a_m]) := by
              intro v12 H locs ls hf hHs hS hl
              subst hHs
              have hf := (ek126 v12).symm.trans hf
              refine lv_l2i (pc := 126) hx hb dX11_cornerOf_126 rfl ?_
              obtain ⟨v13, hm127, hf⟩ := q_b1_e hf
              refine q_cVr (pc := 127) (As := [.int p1, .int v2, .int v12.toInt32]) (rest := []) (v0 := (some (.int v13))) ⟨hx, hb, hml, hown, hts⟩ hK hA hZ hP hD hS hl.1 [0, 1, 2, 3] 4 rfl ⟨rfl, rfl, rfl⟩ (c_M_keyOf l D ci A sa N (Rw) a_m a_m_cutRows a_m_cutColumns a_m_deep a_m_wide a_m_zonesAhead a_m_nameOne a_m_nameOther a_m_tape a_m_edges a_m_dist a_m_queue a_m_pieceLevel a_m_pieceKey a_m_pieceYear a_m_drawnKeys a_m_kept a_m_noNumbers m_taped m_place m_fault m_number m_levelRead m_keyRead m_reads m_faults m_cutShort m_noNumber m_bottomLat m_bottomLon m_firstBeside m_manyBeside m_queued m_boxLevel m_boxTop m_boxBottom m_boxWest m_boxEast m_isEarly m_pieces m_states m_drawnNow m_keptAt m_deep m_wide m_zonesAhead p1 v2 v12.toInt32 v13 hm127) 0 rfl rfl (cwV 3 hts gX11_cornerOf_X11_keyOf rfl rfl rfl (by decide +kernel) ⟨Nat.le_of_ble_eq_true rfl, Nat.le_of_ble_eq_true rfl⟩) rfl rfl (Nat.le_of_ble_eq_true rfl) dX11_cornerOf_127 ⟨Nat.zero_le _, Nat.zero_le _⟩ (fun locs hS => ?_)
              obtain rfl := Option.some.inj hf
              rw [hQ]
              exact q_iretr (pc := 130) hx hb hr hlocks rfl hS dX11_cornerOf_130
            refine q_if_ne (pc := 105) (tgt := 121) hx hb dX11_cornerOf_105 (by decide) rfl hf (fun hf => ?_) (fun hf => ?_)
            · refine lv_lload (pc := 121) hx hb dX11_cornerOf_121 (lv_at hl 0 rfl) ?_
              refine lv_lload (pc := 123) hx hb dX11_cornerOf_123 (lv_at hl 2 rfl) ?_
              refine q_lrem (pc := 125) hx hb dX11_cornerOf_125 hf (fun v14 hf => ?_)
              exact J126 v14 _ _ _ hf rfl hS (lv_sub hl [] rfl)
            · refine lv_lload (pc := 108) hx hb dX11_cornerOf_108 (lv_at hl 0 rfl) ?_
              refine lv_lload (pc := 110) hx hb dX11_cornerOf_110 (lv_at hl 2 rfl) ?_
              refine lv_ladd (pc := 112) hx hb dX11_cornerOf_112 ?_
              refine lv_lconst (pc := 113) (v := 1) hx hb dX11_cornerOf_113 (by decide) ?_
              refine lv_lsub (pc := 114) hx hb dX11_cornerOf_114 ?_
              refine lv_lload (pc := 115) hx hb dX11_cornerOf_115 (lv_at hl 2 rfl) ?_
              refine q_lrem (pc := 117) hx hb dX11_cornerOf_117 hf (fun v15 hf => ?_)
              refine lv_goto (pc := 118) (tgt := 126) hx hb dX11_cornerOf_118 (by decide) ?_
              exact J126 v15 _ _ _ hf rfl hS (lv_sub hl [] rfl)
          · refine lv_iconst (pc := 90) (v := (-1)) hx hb dX11_cornerOf_90 (by decide) ?_
            obtain rfl := Option.some.inj hf
            rw [hQ]
            exact q_iretr (pc := 91) hx hb hr hlocks rfl hS dX11_cornerOf_91
        · refine lv_iconst (pc := 53) (v := (-1)) hx hb dX11_cornerOf_53 (by decide) ?_
          obtain rfl := Option.some.inj hf
          rw [hQ]
          exact q_iretr (pc := 54) hx hb hr hlocks rfl hS dX11_cornerOf_54
    refine q_if_ne (pc := 9) (tgt := 19) hx hb dX11_cornerOf_9 (by decide) rfl hf (fun hf => ?_) (fun hf => ?_)
    · refine lv_iload (pc := 19) hx hb dX11_cornerOf_19 (lv_at hl 0 rfl) ?_
      refine lv_iconst (pc := 21) (v := 1) hx hb dX11_cornerOf_21 (by decide) ?_
      refine lv_iadd (pc := 22) hx hb dX11_cornerOf_22 ?_
      exact J23 (v1 + 1) _ _ _ hf rfl hS (lv_sub hl [1, 2, 3, 5, 0] rfl)
    · refine lv_iload (pc := 12) hx hb dX11_cornerOf_12 (lv_at hl 0 rfl) ?_
      refine lv_iconst (pc := 14) (v := 1) hx hb dX11_cornerOf_14 (by decide) ?_
      refine lv_isub (pc := 15) hx hb dX11_cornerOf_15 ?_
      refine lv_goto (pc := 16) (tgt := 23) hx hb dX11_cornerOf_16 (by decide) ?_
      exact J23 (v1 - 1) _ _ _ hf rfl hS (lv_sub hl [1, 2, 3, 5, 0] rfl)
  exact hgo _ _ rfl hP hS
/-! X11_corners -/
set_option maxRecDepth 100000 in
set_option maxHeartbeats 4000000 in
theorem c_M_corners (l : Launch) (D : va_G) (ci : Nat → ClassId) (A : Nat → Prop) (sa : Nat → Nat) (N : Nat) (Rw : va_W) (a_m : Nat) (a_m_cutRows : Nat) (a_m_cutColumns : Nat) (a_m_deep : Nat) (a_m_wide : Nat) (a_m_zonesAhead : Nat) (a_m_nameOne : Nat) (a_m_nameOther : Nat) (a_m_tape : Nat) (a_m_edges : Nat) (a_m_dist : Nat) (a_m_queue : Nat) (a_m_pieceLevel : Nat) (a_m_pieceKey : Nat) (a_m_pieceYear : Nat) (a_m_drawnKeys : Nat) (a_m_kept : Nat) (a_m_noNumbers : Nat) (m_taped : Int32) (m_place : Int32) (m_fault : Int32) (m_number : Int32) (m_levelRead : Int32) (m_keyRead : Int32) (m_reads : Int32) (m_faults : Int32) (m_cutShort : Int32) (m_noNumber : Int32) (m_bottomLat : Int64) (m_bottomLon : Int64) (m_firstBeside : Int32) (m_manyBeside : Int32) (m_queued : Int32) (m_boxLevel : Int32) (m_boxTop : Int32) (m_boxBottom : Int32) (m_boxWest : Int32) (m_boxEast : Int32) (m_isEarly : Int32) (m_pieces : Int32) (m_states : Int32) (m_drawnNow : Int32) (m_keptAt : Int32) (m_deep : Nat → Int32) (m_wide : Nat → Int32) (m_zonesAhead : Nat → Int32) (p1 : Int32) (p2 : Int32) (p3 : Int32) (r : Int32) (hf : f_M_corners N m_deep m_wide m_zonesAhead p1 p2 p3 = some r) : Met l yX11_corners wsX11_corners ({ frames := 5, cells := 0, slots := 0, locals := 122 }) (va_Pc [.ref a_m, .int p1, .int p2, .int p3] (q_N D ci A sa ((a_m, .inr (11, (.ref a_m_cutRows :: .ref a_m_cutColumns :: .ref a_m_deep :: .ref a_m_wide :: .ref a_m_zonesAhead :: .ref a_m_nameOne :: .ref a_m_nameOther :: .ref a_m_tape :: .int m_taped :: .int m_place :: .int m_fault :: .int m_number :: .int m_levelRead :: .int m_keyRead :: .int m_reads :: .int m_faults :: .int m_cutShort :: .int m_noNumber :: .long m_bottomLat :: .long m_bottomLon :: .ref a_m_edges :: .int m_firstBeside :: .int m_manyBeside :: .ref a_m_dist :: .ref a_m_queue :: .int m_queued :: .int m_boxLevel :: .int m_boxTop :: .int m_boxBottom :: .int m_boxWest :: .int m_boxEast :: .int m_isEarly :: .int m_pieces :: .int m_states :: .ref a_m_pieceLevel :: .ref a_m_pieceKey :: .ref a_m_pieceYear :: .int m_drawnNow :: .ref a_m_drawnKeys :: .ref a_m_kept :: .int m_keptAt :: .ref a_m_noNumbers :: []))) :: (a_m_deep, .inl (ci 0, 5, .inl m_deep)) :: (a_m_wide, .inl (ci 0, 5, .inl m_wide)) :: (a_m_zonesAhead, .inl (ci 0, 45, .inl m_zonesAhead)) :: Rw))) (q_R (some (.int r))) 0 0 A := by
  refine q_ofW (cc := cX11_corners) (maxL := 11) (ret := (some .int)) [.ref a_m, .int p1, .int p2, .int p3] (plainFor_of_name (by decide)) rfl (Nat.le_of_ble_eq_true rfl) ?_
  intro p e s m below meth c ls Q hQ hx hb hml hr hts hown hlocks hK hA hZ hP hD hS hl
  have hl : lv_has ls 11 [(0, .ref a_m), (1, .int p1), (2, .int p2), (3, .int p3)] := hl
  have hown : s.vm.findClass RX11 = some m.cls := hown
  unfold f_M_corners at hf
  have hgo : ∀ (H : Heap) (locs : List Loc), H = s.heap → va_P D vwCl ((a_m, .inr (11, (.ref a_m_cutRows :: .ref a_m_cutColumns :: .ref a_m_deep :: .ref a_m_wide :: .ref a_m_zonesAhead :: .ref a_m_nameOne :: .ref a_m_nameOther :: .ref a_m_tape :: .int m_taped :: .int m_place :: .int m_fault :: .int m_number :: .int m_levelRead :: .int m_keyRead :: .int m_reads :: .int m_faults :: .int m_cutShort :: .int m_noNumber :: .long m_bottomLat :: .long m_bottomLon :: .ref a_m_edges :: .int m_firstBeside :: .int m_manyBeside :: .ref a_m_dist :: .ref a_m_queue :: .int m_queued :: .int m_boxLevel :: .int m_boxTop :: .int m_boxBottom :: .int m_boxWest :: .int m_boxEast :: .int m_isEarly :: .int m_pieces :: .int m_states :: .ref a_m_pieceLevel :: .ref a_m_pieceKey :: .ref a_m_pieceYear :: .int m_drawnNow :: .ref a_m_drawnKeys :: .ref a_m_kept :: .int m_keptAt :: .ref a_m_noNumbers :: []))) :: (a_m_deep, .inl (ci 0, 5, .inl m_deep)) :: (a_m_wide, .inl (ci 0, 5, .inl m_wide)) :: (a_m_zonesAhead, .inl (ci 0, 45, .inl m_zonesAhead)) :: Rw) H → va_S A s.heap H locs → W p l e ({ frames := 5, cells := 0, slots := 0, locals := 122 } : Room) s m ([.ref a_m, .int p1, .int p2, .int p3] : List Value).toArray below meth c H locs 0 0 Q (F0 m 0 ls []) := by
    intro H locs hH hP hS
    subst hH
    refine lv_aload_n (pc := 0) hx hb dX11_corners_0 rfl (lv_at hl 0 rfl) ?_
    refine lv_iload_n (pc := 1) hx hb dX11_corners_1 rfl (lv_at hl 1 rfl) ?_
    refine lv_iload_n (pc := 2) hx hb dX11_corners_2 rfl (lv_at hl 2 rfl) ?_
    obtain ⟨v1, hm3, hf⟩ := q_b1_e hf
    refine q_cVr (pc := 3) (As := [.int p1, .int p2]) (rest := []) (v0 := (some (.int v1))) ⟨hx, hb, hml, hown, hts⟩ hK hA hZ hP hD hS hl.1 [0, 1, 2, 3] 4 rfl ⟨rfl, rfl, rfl⟩ (c_M_isKey l D ci A sa N (Rw) a_m a_m_cutRows a_m_cutColumns a_m_deep a_m_wide a_m_zonesAhead a_m_nameOne a_m_nameOther a_m_tape a_m_edges a_m_dist a_m_queue a_m_pieceLevel a_m_pieceKey a_m_pieceYear a_m_drawnKeys a_m_kept a_m_noNumbers m_taped m_place m_fault m_number m_levelRead m_keyRead m_reads m_faults m_cutShort m_noNumber m_bottomLat m_bottomLon m_firstBeside m_manyBeside m_queued m_boxLevel m_boxTop m_boxBottom m_boxWest m_boxEast m_isEarly m_pieces m_states m_drawnNow m_keptAt m_deep m_wide m_zonesAhead p1 p2 v1 hm3) 0 rfl rfl (cwV 2 hts gX11_corners_X11_isKey rfl rfl rfl (by decide +kernel) ⟨Nat.le_of_ble_eq_true rfl, Nat.le_of_ble_eq_true rfl⟩) rfl rfl (Nat.le_of_ble_eq_true rfl) dX11_corners_3 ⟨Nat.zero_le _, Nat.zero_le _⟩ (fun locs hS => ?_)
    refine q_if_eq (pc := 6) (tgt := 14) hx hb dX11_corners_6 (by decide) rfl hf (fun hf => ?_) (fun hf => ?_)
    · refine lv_iconst (pc := 14) (v := (-1)) hx hb dX11_corners_14 (by decide) ?_
      obtain rfl := Option.some.inj hf
      rw [hQ]
      exact q_iretr (pc := 15) hx hb hr hlocks rfl hS dX11_corners_15
    · refine lv_iload_n (pc := 9) hx hb dX11_corners_9 rfl (lv_at hl 3 rfl) ?_
      refine lv_iconst (pc := 10) (v := (-1)) hx hb dX11_corners_10 (by decide) ?_
      refine q_icmp_ge (pc := 11) (tgt := 16) hx hb dX11_corners_11 (by decide) rfl hf (fun hf => ?_) (fun hf => ?_)
      · refine lv_iload_n (pc := 16) hx hb dX11_corners_16 rfl (lv_at hl 3 rfl) ?_
        refine lv_istore (pc := 17) (lv' := [(4, .int p3), (0, .ref a_m), (1, .int p1), (2, .int p2), (3, .int p3)]) hx hb dX11_corners_17 hl (by decide) rfl (fun ls hl => ?_)
        refine lv_iconst (pc := 19) (v := 0) hx hb dX11_corners_19 (by decide) ?_
        obtain ⟨v2, ev2, hf⟩ := q_nm_e hf
        refine q_topi ev2 ?_
        refine lv_istore (pc := 20) (lv' := [(5, .int v2), (4, .int p3), (0, .ref a_m), (1, .int p1), (2, .int p2), (3, .int p3)]) hx hb dX11_corners_20 hl (by decide) rfl (fun ls hl => ?_)
        refine lv_iconst (pc := 22) (v := 0) hx hb dX11_corners_22 (by decide) ?_
        obtain ⟨v3, ev3, hf⟩ := q_nm_e hf
        refine q_topi ev3 ?_
        refine lv_istore (pc := 23) (lv' := [(6, .int v3), (5, .int v2), (4, .int p3), (0, .ref a_m), (1, .int p1), (2, .int p2), (3, .int p3)]) hx hb dX11_corners_23 hl (by decide) rfl (fun ls hl => ?_)
        obtain ⟨k25, o25_, ek25, hm25, hk25⟩ := q_s1_k hf
        have JE25 : ∀ (v7 : Int32) (H : Heap) (locs : List Loc) (ls : Array Slot), k25 v7 = some r → H = s.heap → va_S A s.heap H locs → lv_has ls 11 [(3, .int p3), (5, .int v7)] → W p l e ({ frames := 5, cells := 0, slots := 0, locals := 122 } : Room) s m ([.ref a_m, .int p1, .int p2, .int p3] : List Value).toArray below meth c H locs 0 0 Q (F0 m 178 ls []) := by
          intro v7 H locs ls hf hHs hS hl
          subst hHs
          have hf := (ek25 v7).symm.trans hf
          refine lv_iload_n (pc := 178) hx hb dX11_corners_178 rfl (lv_at hl 0 rfl) ?_
          refine lv_iconst (pc := 179) (v := (-1)) hx hb dX11_corners_179 (by decide) ?_
          refine q_icmp_ne (pc := 180) (tgt := 188) hx hb dX11_corners_180 (by decide) rfl hf (fun hf => ?_) (fun hf => ?_)
          · refine lv_bipush (pc := 188) (v := (-2)) hx hb dX11_corners_188 (by decide) ?_
            obtain rfl := Option.some.inj hf
            rw [hQ]
            exact q_iretr (pc := 190) hx hb hr hlocks rfl hS dX11_corners_190
          · refine lv_iload (pc := 183) hx hb dX11_corners_183 (lv_at hl 1 rfl) ?_
            refine lv_goto (pc := 185) (tgt := 190) hx hb dX11_corners_185 (by decide) ?_
            obtain rfl := Option.some.inj hf
            rw [hQ]
            exact q_iretr (pc := 190) hx hb hr hlocks rfl hS dX11_corners_190
        have LP25 : ∀ (n25 : Nat) (v4 : Int32) (v5 : Int32) (v6 : Int32) (H : Heap) (locs : List Loc) (ls : Array Slot), f_M_corners_L25 N m_deep m_wide m_zonesAhead p1 p2 p3 n25 v4 v5 v6 = some o25_ → H = s.heap → va_S A s.heap H locs → lv_has ls 11 [(0, .ref a_m), (1, .int p1), (2, .int p2), (3, .int p3), (4, .int v4), (5, .int v5), (6, .int v6)] → W p l e ({ frames := 5, cells := 0, slots := 0, locals := 122 } : Room) s m ([.ref a_m, .int p1, .int p2, .int p3] : List Value).toArray below meth c H locs 0 0 Q (F0 m 25 ls []) := by
          intro n25
          induction n25 with
          | zero => intro v4 v5 v6 H locs ls hf; rw [f_M_corners_L25] at hf; cases hf
          | succ n25 ih25 =>
            intro v4 v5 v6 H locs ls hf hHs hS hl
            subst hHs
            rw [f_M_corners_L25] at hf
            refine lv_iload (pc := 25) hx hb dX11_corners_25 (lv_at hl 6 rfl) ?_
            refine lv_iconst (pc := 27) (v := 3) hx hb dX11_corners_27 (by decide) ?_
            refine q_icmp_ge (pc := 28) (tgt := 178) hx hb dX11_corners_28 (by decide) rfl hf (fun hf => ?_) (fun hf => ?_)
            · obtain rfl := Option.some.inj hf
              exact JE25 v5 _ _ _ hk25 rfl hS (lv_sub hl [3, 5] rfl)
            · refine lv_aload_n (pc := 31) hx hb dX11_corners_31 rfl (lv_at hl 0 rfl) ?_
              refine lv_iload_n (pc := 32) hx hb dX11_corners_32 rfl (lv_at hl 1 rfl) ?_
              refine lv_iload_n (pc := 33) hx hb dX11_corners_33 rfl (lv_at hl 2 rfl) ?_
              refine lv_iload (pc := 34) hx hb dX11_corners_34 (lv_at hl 6 rfl) ?_
              refine lv_iconst (pc := 36) (v := 0) hx hb dX11_corners_36 (by decide) ?_
              obtain ⟨v8, hm37, hf⟩ := q_b1_e hf
              refine q_cVr (pc := 37) (As := [.int p1, .int p2, .int v6, .int 0]) (rest := []) (v0 := (some (.int v8))) ⟨hx, hb, hml, hown, hts⟩ hK hA hZ hP hD hS hl.1 [0, 1, 2, 3] 4 rfl ⟨rfl, rfl, rfl⟩ (c_M_cornerOf l D ci A sa N (Rw) a_m a_m_cutRows a_m_cutColumns a_m_deep a_m_wide a_m_zonesAhead a_m_nameOne a_m_nameOther a_m_tape a_m_edges a_m_dist a_m_queue a_m_pieceLevel a_m_pieceKey a_m_pieceYear a_m_drawnKeys a_m_kept a_m_noNumbers m_taped m_place m_fault m_number m_levelRead m_keyRead m_reads m_faults m_cutShort m_noNumber m_bottomLat m_bottomLon m_firstBeside m_manyBeside m_queued m_boxLevel m_boxTop m_boxBottom m_boxWest m_boxEast m_isEarly m_pieces m_states m_drawnNow m_keptAt m_deep m_wide m_zonesAhead p1 p2 v6 0 v8 hm37) 0 rfl rfl (cwV 4 hts gX11_corners_X11_cornerOf rfl rfl rfl (by decide +kernel) ⟨Nat.le_of_ble_eq_true rfl, Nat.le_of_ble_eq_true rfl⟩) rfl rfl (Nat.le_of_ble_eq_true rfl) dX11_corners_37 ⟨Nat.zero_le _, Nat.zero_le _⟩ (fun locs hS => ?_)
              refine lv_istore (pc := 40) (lv' := [(7, .int v8), (0, .ref a_m), (1, .int p1), (2, .int p2), (3, .int p3), (4, .int v4), (5, .int v5), (6, .int v6)]) hx hb dX11_corners_40 hl (by decide) rfl (fun ls hl => ?_)
              refine lv_aload_n (pc := 42) hx hb dX11_corners_42 rfl (lv_at hl 1 rfl) ?_
              refine lv_iload_n (pc := 43) hx hb dX11_corners_43 rfl (lv_at hl 2 rfl) ?_
              refine lv_iload_n (pc := 44) hx hb dX11_corners_44 rfl (lv_at hl 3 rfl) ?_
              refine lv_iload (pc := 45) hx hb dX11_corners_45 (lv_at hl 7 rfl) ?_
              refine lv_iconst (pc := 47) (v := 1) hx hb dX11_corners_47 (by decide) ?_
              obtain ⟨v9, hm48, hf⟩ := q_b1_e hf
              refine q_cVr (pc := 48) (As := [.int p1, .int p2, .int v6, .int 1]) (rest := []) (v0 := (some (.int v9))) ⟨hx, hb, hml, hown, hts⟩ hK hA hZ hP hD hS hl.1 [0, 1, 2, 3] 4 rfl ⟨rfl, rfl, rfl⟩ (c_M_cornerOf l D ci A sa N (Rw) a_m a_m_cutRows a_m_cutColumns a_m_deep a_m_wide a_m_zonesAhead a_m_nameOne a_m_nameOther a_m_tape a_m_edges a_m_dist a_m_queue a_m_pieceLevel a_m_pieceKey a_m_pieceYear a_m_drawnKeys a_m_kept a_m_noNumbers m_taped m_place m_fault m_number m_levelRead m_keyRead m_reads m_faults m_cutShort m_noNumber m_bottomLat m_bottomLon m_firstBeside m_manyBeside m_queued m_boxLevel m_boxTop m_boxBottom m_boxWest m_boxEast m_isEarly m_pieces m_states m_drawnNow m_keptAt m_deep m_wide m_zonesAhead p1 p2 v6 1 v9 hm48) 0 rfl rfl (cwV 4 hts gX11_corners_X11_cornerOf rfl rfl rfl (by decide +kernel) ⟨Nat.le_of_ble_eq_true rfl, Nat.le_of_ble_eq_true rfl⟩) rfl rfl (Nat.le_of_ble_eq_true rfl) dX11_corners_48 ⟨Nat.zero_le _, Nat.zero_le _⟩ (fun locs hS => ?_)
              refine lv_istore (pc := 51) (lv' := [(8, .int v9), (7, .int v8), (0, .ref a_m), (1, .int p1), (2, .int p2), (3, .int p3), (4, .int v4), (5, .int v5), (6, .int v6)]) hx hb dX11_corners_51 hl (by decide) rfl (fun ls hl => ?_)
              refine lv_iload (pc := 53) hx hb dX11_corners_53 (lv_at hl 1 rfl) ?_
              refine lv_iconst (pc := 55) (v := (-1)) hx hb dX11_corners_55 (by decide) ?_
              obtain ⟨k64, ek64, hf⟩ := q_j1_e hf
              have J64 : ∀ (v10 : Int32) (H : Heap) (locs : List Loc) (ls : Array Slot), k64 v10 = some o25_ → H = s.heap → va_S A s.heap H locs → lv_has ls 11 [(0, .ref a_m), (1, .int p1), (2, .int p2), (3, .int p3), (4, .int v4), (5, .int v5), (6, .int v6), (7, .int v8), (8, .int v9)] → W p l e ({ frames := 5, cells := 0, slots := 0, locals := 122 } : Room) s m ([.ref a_m, .int p1, .int p2, .int p3] : List Value).toArray below meth c H locs 0 0 Q (F0 m 64 ls [.int v10]) := by
                intro v10 H locs ls hf hHs hS hl
                subst hHs
                have hf := (ek64 v10).symm.trans hf
                refine lv_iload (pc := 64) hx hb dX11_corners_64 (lv_at hl 8 rfl) ?_
                refine lv_iconst (pc := 66) (v := (-1)) hx hb dX11_corners_66 (by decide) ?_
                obtain ⟨k75, ek75, hf⟩ := q_j1_e hf
                have J75 : ∀ (v11 : Int32) (H : Heap) (locs : List Loc) (ls : Array Slot), k75 v11 = some o25_ → H = s.heap → va_S A s.heap H locs → lv_has ls 11 [(0, .ref a_m), (1, .int p1), (2, .int p2), (3, .int p3), (4, .int v4), (5, .int v5), (6, .int v6), (7, .int v8), (8, .int v9)] → W p l e ({ frames := 5, cells := 0, slots := 0, locals := 122 } : Room) s m ([.ref a_m, .int p1, .int p2, .int p3] : List Value).toArray below meth c H locs 0 0 Q (F0 m 75 ls [.int v11, .int v10]) := by
                  intro v11 H locs ls hf hHs hS hl
                  subst hHs
                  have hf := (ek75 v11).symm.trans hf
                  refine lv_iadd (pc := 75) hx hb dX11_corners_75 ?_
                  obtain ⟨v12, ev12, hf⟩ := q_nm_e hf
                  refine q_topi ev12 ?_
                  refine lv_istore (pc := 76) (lv' := [(9, .int v12), (0, .ref a_m), (1, .int p1), (2, .int p2), (3, .int p3), (4, .int v4), (5, .int v5), (6, .int v6), (7, .int v8), (8, .int v9)]) hx hb dX11_corners_76 hl (by decide) rfl (fun ls hl => ?_)
                  refine lv_iload (pc := 78) hx hb dX11_corners_78 (lv_at hl 5 rfl) ?_
                  refine lv_i2l (pc := 80) hx hb dX11_corners_80 rfl ?_
                  refine lv_lconst (pc := 81) (v := 0) hx hb dX11_corners_81 (by decide) ?_
                  refine lv_iload (pc := 82) hx hb dX11_corners_82 (lv_at hl 0 rfl) ?_
                  refine lv_iconst (pc := 84) (v := 1) hx hb dX11_corners_84 (by decide) ?_
                  refine lv_isub (pc := 85) hx hb dX11_corners_85 ?_
                  refine lv_i2l (pc := 86) hx hb dX11_corners_86 rfl ?_
                  obtain ⟨v13, hm87, hf⟩ := q_b1_e hf
                  refine q_cSr (pc := 87) (As := [.long v4.toInt64, .long 0, .long (v12 - 1).toInt64]) (rest := []) (v0 := (some (.int v13))) ⟨hx, hb, hml, hown, hts⟩ hK hA hZ hP hD hS hl.1 [] 4 rfl ⟨rfl, rfl, rfl⟩ (c_M_in l D ci A sa N (Rw) v4.toInt64 0 ((v12 - 1).toInt64) v13 hm87) (va_cwS 3 hts gX11_corners_X11_in rfl rfl rfl (by decide +kernel) ⟨Nat.le_of_ble_eq_true rfl, Nat.le_of_ble_eq_true rfl⟩) rfl rfl (Nat.le_of_ble_eq_true rfl) dX11_corners_87 ⟨Nat.zero_le _, Nat.zero_le _⟩ (fun locs hS => ?_)
                  refine q_if_eq (pc := 90) (tgt := 146) hx hb dX11_corners_90 (by decide) rfl hf (fun hf => ?_) (fun hf => ?_)
                  · refine lv_iload (pc := 146) hx hb dX11_corners_146 (lv_at hl 5 rfl) ?_
                    refine lv_iload_n (pc := 148) hx hb dX11_corners_148 rfl (lv_at hl 4 rfl) ?_
                    refine lv_iconst (pc := 149) (v := (-1)) hx hb dX11_corners_149 (by decide) ?_
                    obtain ⟨k159, ek159, hf⟩ := q_j1_e hf
                    have J159 : ∀ (v14 : Int32) (H : Heap) (locs : List Loc) (ls : Array Slot), k159 v14 = some o25_ → H = s.heap → va_S A s.heap H locs → lv_has ls 11 [(0, .ref a_m), (1, .int p1), (2, .int p2), (3, .int p3), (5, .int v5), (6, .int v6), (9, .int v12)] → W p l e ({ frames := 5, cells := 0, slots := 0, locals := 122 } : Room) s m ([.ref a_m, .int p1, .int p2, .int p3] : List Value).toArray below meth c H locs 0 0 Q (F0 m 159 ls [.int v14, .int v4]) := by
                      intro v14 H locs ls hf hHs hS hl
                      subst hHs
                      have hf := (ek159 v14).symm.trans hf
                      refine lv_isub (pc := 159) hx hb dX11_corners_159 ?_
                      obtain ⟨v15, ev15, hf⟩ := q_nm_e hf
                      refine q_topi ev15 ?_
                      refine lv_istore (pc := 160) (lv' := [(4, .int v15), (0, .ref a_m), (1, .int p1), (2, .int p2), (3, .int p3), (5, .int v5), (6, .int v6), (9, .int v12)]) hx hb dX11_corners_160 hl (by decide) rfl (fun ls hl => ?_)
                      refine lv_iload (pc := 162) hx hb dX11_corners_162 (lv_at hl 5 rfl) ?_
                      refine lv_iload (pc := 164) hx hb dX11_corners_164 (lv_at hl 7 rfl) ?_
                      refine lv_iadd (pc := 166) hx hb dX11_corners_166 ?_
                      obtain ⟨v16, ev16, hf⟩ := q_nm_e hf
                      refine q_topi ev16 ?_
                      refine lv_istore (pc := 167) (lv' := [(5, .int v16), (4, .int v15), (0, .ref a_m), (1, .int p1), (2, .int p2), (3, .int p3), (6, .int v6), (9, .int v12)]) hx hb dX11_corners_167 hl (by decide) rfl (fun ls hl => ?_)
                      refine lv_iload (pc := 169) hx hb dX11_corners_169 (lv_at hl 6 rfl) ?_
                      refine lv_iconst (pc := 171) (v := 2) hx hb dX11_corners_171 (by decide) ?_
                      refine lv_iadd (pc := 172) hx hb dX11_corners_172 ?_
                      obtain ⟨v17, ev17, hf⟩ := q_nm_e hf
                      refine q_topi ev17 ?_
                      refine lv_istore (pc := 173) (lv' := [(6, .int v17), (5, .int v16), (4, .int v15), (0, .ref a_m), (1, .int p1), (2, .int p2), (3, .int p3), (9, .int v12)]) hx hb dX11_corners_173 hl (by decide) rfl (fun ls hl => ?_)
                      refine lv_goto (pc := 175) (tgt := 25) hx hb dX11_corners_175 (by decide) ?_
                      exact ih25 v15 v16 v17 _ _ _ hf rfl hS (lv_sub hl [3, 4, 5, 6, 2, 1, 0] rfl)
                    refine q_icmp_ne (pc := 150) (tgt := 157) hx hb dX11_corners_150 (by decide) rfl hf (fun hf => ?_) (fun hf => ?_)
                    · refine lv_iload (pc := 157) hx hb dX11_corners_157 (lv_at hl 0 rfl) ?_
                      exact J159 v12 _ _ _ hf rfl hS (lv_sub hl [1, 2, 3, 4, 6, 7, 0] rfl)
                    · refine lv_iconst (pc := 153) (v := 0) hx hb dX11_corners_153 (by decide) ?_
                      refine lv_goto (pc := 154) (tgt := 159) hx hb dX11_corners_154 (by decide) ?_
                      exact J159 0 _ _ _ hf rfl hS (lv_sub hl [1, 2, 3, 4, 6, 7, 0] rfl)
                  · refine lv_iload (pc := 93) hx hb dX11_corners_93 (lv_at hl 8 rfl) ?_
                    refine lv_iconst (pc := 95) (v := (-1)) hx hb dX11_corners_95 (by decide) ?_
                    obtain ⟨k119, ek119, hf⟩ := q_j1_e hf
                    have J119 : ∀ (v18 : Int32) (H : Heap) (locs : List Loc) (ls : Array Slot), k119 v18 = some o25_ → H = s.heap → va_S A s.heap H locs → lv_has ls 11 [(4, .int v4), (7, .int v8), (8, .int v9)] → W p l e ({ frames := 5, cells := 0, slots := 0, locals := 122 } : Room) s m ([.ref a_m, .int p1, .int p2, .int p3] : List Value).toArray below meth c H locs 0 0 Q (F0 m 119 ls [.int v18]) := by
                      intro v18 H locs ls hf hHs hS hl
                      subst hHs
                      have hf := (ek119 v18).symm.trans hf
                      refine lv_istore (pc := 119) (lv' := [(10, .int v18), (4, .int v4), (7, .int v8), (8, .int v9)]) hx hb dX11_corners_119 hl (by decide) rfl (fun ls hl => ?_)
                      refine lv_iload (pc := 121) hx hb dX11_corners_121 (lv_at hl 1 rfl) ?_
                      refine q_if_ne (pc := 123) (tgt := 131) hx hb dX11_corners_123 (by decide) rfl hf (fun hf => ?_) (fun hf => ?_)
                      · refine lv_iload (pc := 131) hx hb dX11_corners_131 (lv_at hl 0 rfl) ?_
                        refine lv_iload (pc := 133) hx hb dX11_corners_133 (lv_at hl 2 rfl) ?_
                        refine q_icmp_ne (pc := 135) (tgt := 143) hx hb dX11_corners_135 (by decide) rfl hf (fun hf => ?_) (fun hf => ?_)
                        · refine lv_iload (pc := 143) hx hb dX11_corners_143 (lv_at hl 2 rfl) ?_
                          obtain rfl := Option.some.inj hf
                          have hk25 : (v8 : Int32) = r := hk25
                          obtain rfl := hk25
                          rw [hQ]
                          exact q_iretr (pc := 145) hx hb hr hlocks rfl hS dX11_corners_145
                        · refine lv_iload (pc := 138) hx hb dX11_corners_138 (lv_at hl 3 rfl) ?_
                          refine lv_goto (pc := 140) (tgt := 145) hx hb dX11_corners_140 (by decide) ?_
                          obtain rfl := Option.some.inj hf
                          have hk25 : (v9 : Int32) = r := hk25
                          obtain rfl := hk25
                          rw [hQ]
                          exact q_iretr (pc := 145) hx hb hr hlocks rfl hS dX11_corners_145
                      · refine lv_iload (pc := 126) hx hb dX11_corners_126 (lv_at hl 0 rfl) ?_
                        refine lv_goto (pc := 128) (tgt := 145) hx hb dX11_corners_128 (by decide) ?_
                        obtain rfl := Option.some.inj hf
                        have hk25 : (v18 : Int32) = r := hk25
                        obtain rfl := hk25
                        rw [hQ]
                        exact q_iretr (pc := 145) hx hb hr hlocks rfl hS dX11_corners_145
                    obtain ⟨k112, ek112, hf⟩ := q_j0_e hf
                    have J112 : ∀  (H : Heap) (locs : List Loc) (ls : Array Slot), k112 = some o25_ → H = s.heap → va_S A s.heap H locs → lv_has ls 11 [(4, .int v4), (7, .int v8), (8, .int v9)] → W p l e ({ frames := 5, cells := 0, slots := 0, locals := 122 } : Room) s m ([.ref a_m, .int p1, .int p2, .int p3] : List Value).toArray below meth c H locs 0 0 Q (F0 m 112 ls []) := by
                      intro  H locs ls hf hHs hS hl
                      subst hHs
                      have hf := (ek112).symm.trans hf
                      refine lv_iload (pc := 112) hx hb dX11_corners_112 (lv_at hl 2 rfl) ?_
                      refine lv_goto (pc := 114) (tgt := 119) hx hb dX11_corners_114 (by decide) ?_
                      exact J119 v9 _ _ _ hf rfl hS (lv_sub hl [0, 1, 2] rfl)
                    refine q_icmp_eq (pc := 96) (tgt := 112) hx hb dX11_corners_96 (by decide) rfl hf (fun hf => ?_) (fun hf => ?_)
                    · exact J112  _ _ _ hf rfl hS (lv_sub hl [5, 8, 9] rfl)
                    · refine lv_iload (pc := 99) hx hb dX11_corners_99 (lv_at hl 9 rfl) ?_
                      refine lv_iconst (pc := 101) (v := (-1)) hx hb dX11_corners_101 (by decide) ?_
                      obtain ⟨k117, ek117, hf⟩ := q_j0_e hf
                      have J117 : ∀  (H : Heap) (locs : List Loc) (ls : Array Slot), k117 = some o25_ → H = s.heap → va_S A s.heap H locs → lv_has ls 11 [(4, .int v4), (7, .int v8), (8, .int v9)] → W p l e ({ frames := 5, cells := 0, slots := 0, locals := 122 } : Room) s m ([.ref a_m, .int p1, .int p2, .int p3] : List Value).toArray below meth c H locs 0 0 Q (F0 m 117 ls []) := by
                        intro  H locs ls hf hHs hS hl
                        subst hHs
                        have hf := (ek117).symm.trans hf
                        refine lv_iload (pc := 117) hx hb dX11_corners_117 (lv_at hl 1 rfl) ?_
                        exact J119 v8 _ _ _ hf rfl hS (lv_sub hl [0, 1, 2] rfl)
                      refine q_icmp_eq (pc := 102) (tgt := 117) hx hb dX11_corners_102 (by decide) rfl hf (fun hf => ?_) (fun hf => ?_)
                      · exact J117  _ _ _ hf rfl hS (lv_sub hl [5, 8, 9] rfl)
                      · refine lv_iload (pc := 105) hx hb dX11_corners_105 (lv_at hl 9 rfl) ?_
                        refine lv_iload (pc := 107) hx hb dX11_corners_107 (lv_at hl 8 rfl) ?_
                        refine q_icmp_ge (pc := 109) (tgt := 117) hx hb dX11_corners_109 (by decide) rfl hf (fun hf => ?_) (fun hf => ?_)
                        · exact J117  _ _ _ hf rfl hS (lv_sub hl [5, 8, 9] rfl)
                        · exact J112  _ _ _ hf rfl hS (lv_sub hl [5, 8, 9] rfl)
                refine q_icmp_ne (pc := 67) (tgt := 74) hx hb dX11_corners_67 (by decide) rfl hf (fun hf => ?_) (fun hf => ?_)
                · refine lv_iconst (pc := 74) (v := 1) hx hb dX11_corners_74 (by decide) ?_
                  exact J75 1 _ _ _ hf rfl hS (lv_sub hl [0, 1, 2, 3, 4, 5, 6, 7, 8] rfl)
                · refine lv_iconst (pc := 70) (v := 0) hx hb dX11_corners_70 (by decide) ?_
                  refine lv_goto (pc := 71) (tgt := 75) hx hb dX11_corners_71 (by decide) ?_
                  exact J75 0 _ _ _ hf rfl hS (lv_sub hl [0, 1, 2, 3, 4, 5, 6, 7, 8] rfl)
              refine q_icmp_ne (pc := 56) (tgt := 63) hx hb dX11_corners_56 (by decide) rfl hf (fun hf => ?_) (fun hf => ?_)
              · refine lv_iconst (pc := 63) (v := 1) hx hb dX11_corners_63 (by decide) ?_
                exact J64 1 _ _ _ hf rfl hS (lv_sub hl [2, 3, 4, 5, 6, 7, 8, 1, 0] rfl)
              · refine lv_iconst (pc := 59) (v := 0) hx hb dX11_corners_59 (by decide) ?_
                refine lv_goto (pc := 60) (tgt := 64) hx hb dX11_corners_60 (by decide) ?_
                exact J64 0 _ _ _ hf rfl hS (lv_sub hl [2, 3, 4, 5, 6, 7, 8, 1, 0] rfl)
        exact LP25 N p3 v2 v3 _ _ _ hm25 rfl hS (lv_sub hl [3, 4, 5, 6, 2, 1, 0] rfl)
      · refine lv_iconst (pc := 14) (v := (-1)) hx hb dX11_corners_14 (by decide) ?_
        obtain rfl := Option.some.inj hf
        rw [hQ]
        exact q_iretr (pc := 15) hx hb hr hlocks rfl hS dX11_corners_15
  exact hgo _ _ rfl hP hS
/-! X11_count -/
set_option maxRecDepth 100000 in
set_option maxHeartbeats 4000000 in
theorem c_M_count (l : Launch) (D : va_G) (ci : Nat → ClassId) (A : Nat → Prop) (sa : Nat → Nat) (N : Nat) (Rw : va_W) (a_m : Nat) (a_m_cutRows : Nat) (a_m_cutColumns : Nat) (a_m_deep : Nat) (a_m_wide : Nat) (a_m_zonesAhead : Nat) (a_m_nameOne : Nat) (a_m_nameOther : Nat) (a_m_tape : Nat) (a_m_edges : Nat) (a_m_dist : Nat) (a_m_queue : Nat) (a_m_pieceLevel : Nat) (a_m_pieceKey : Nat) (a_m_pieceYear : Nat) (a_m_drawnKeys : Nat) (a_m_kept : Nat) (a_m_noNumbers : Nat) (m_taped : Int32) (m_place : Int32) (m_fault : Int32) (m_number : Int32) (m_levelRead : Int32) (m_keyRead : Int32) (m_reads : Int32) (m_faults : Int32) (m_cutShort : Int32) (m_noNumber : Int32) (m_bottomLat : Int64) (m_bottomLon : Int64) (m_firstBeside : Int32) (m_manyBeside : Int32) (m_queued : Int32) (m_boxLevel : Int32) (m_boxTop : Int32) (m_boxBottom : Int32) (m_boxWest : Int32) (m_boxEast : Int32) (m_isEarly : Int32) (m_pieces : Int32) (m_states : Int32) (m_drawnNow : Int32) (m_keptAt : Int32) (p1 : Int32) (r : Int32) (hf : f_M_count m_taped m_reads m_faults m_cutShort m_noNumber m_pieces m_states p1 = some r) : Met l yX11_count wsX11_count ({ frames := 0, cells := 0, slots := 0, locals := 0 }) (va_Pc [.ref a_m, .int p1] (q_N D ci A sa ((a_m, .inr (11, (.ref a_m_cutRows :: .ref a_m_cutColumns :: .ref a_m_deep :: .ref a_m_wide :: .ref a_m_zonesAhead :: .ref a_m_nameOne :: .ref a_m_nameOther :: .ref a_m_tape :: .int m_taped :: .int m_place :: .int m_fault :: .int m_number :: .int m_levelRead :: .int m_keyRead :: .int m_reads :: .int m_faults :: .int m_cutShort :: .int m_noNumber :: .long m_bottomLat :: .long m_bottomLon :: .ref a_m_edges :: .int m_firstBeside :: .int m_manyBeside :: .ref a_m_dist :: .ref a_m_queue :: .int m_queued :: .int m_boxLevel :: .int m_boxTop :: .int m_boxBottom :: .int m_boxWest :: .int m_boxEast :: .int m_isEarly :: .int m_pieces :: .int m_states :: .ref a_m_pieceLevel :: .ref a_m_pieceKey :: .ref a_m_pieceYear :: .int m_drawnNow :: .ref a_m_drawnKeys :: .ref a_m_kept :: .int m_keptAt :: .ref a_m_noNumbers :: []))) :: Rw))) (q_R (some (.int r))) 0 0 A := by
  refine q_ofW (cc := cX11_count) (maxL := 2) (ret := (some .int)) [.ref a_m, .int p1] (plainFor_of_name (by decide)) rfl (Nat.le_of_ble_eq_true rfl) ?_
  intro p e s m below meth c ls Q hQ hx hb hml hr hts hown hlocks hK hA hZ hP hD hS hl
  have hl : lv_has ls 2 [(0, .ref a_m), (1, .int p1)] := hl
  have hown : s.vm.findClass RX11 = some m.cls := hown
  have hinX11 : ∀ w ∈ wsX110, w ∈ wsX11_count := fun _ h => List.mem_cons_of_mem _ (inWX110 _ h)
  have w_1 := hts (Cond.fieldLink RX11 123 "SheetNamesModel" "pieces" "I") (List.mem_cons_of_mem _ t_w972)
  have w_2 := hts (Cond.fieldLink RX11 160 "SheetNamesModel" "taped" "I") (List.mem_cons_of_mem _ t_w962)
  have w_3 := hts (Cond.fieldLink RX11 440 "SheetNamesModel" "states" "I") (List.mem_cons_of_mem _ t_w973)
  have w_4 := hts (Cond.fieldLink RX11 199 "SheetNamesModel" "reads" "I") (List.mem_cons_of_mem _ t_w926)
  have w_5 := hts (Cond.fieldLink RX11 202 "SheetNamesModel" "faults" "I") (List.mem_cons_of_mem _ t_w927)
  have w_6 := hts (Cond.fieldLink RX11 205 "SheetNamesModel" "cutShort" "I") (List.mem_cons_of_mem _ t_w928)
  have w_7 := hts (Cond.fieldLink RX11 208 "SheetNamesModel" "noNumber" "I") (List.mem_cons_of_mem _ t_w929)
  unfold f_M_count at hf
  have hgo : ∀ (H : Heap) (locs : List Loc), H = s.heap → va_P D vwCl ((a_m, .inr (11, (.ref a_m_cutRows :: .ref a_m_cutColumns :: .ref a_m_deep :: .ref a_m_wide :: .ref a_m_zonesAhead :: .ref a_m_nameOne :: .ref a_m_nameOther :: .ref a_m_tape :: .int m_taped :: .int m_place :: .int m_fault :: .int m_number :: .int m_levelRead :: .int m_keyRead :: .int m_reads :: .int m_faults :: .int m_cutShort :: .int m_noNumber :: .long m_bottomLat :: .long m_bottomLon :: .ref a_m_edges :: .int m_firstBeside :: .int m_manyBeside :: .ref a_m_dist :: .ref a_m_queue :: .int m_queued :: .int m_boxLevel :: .int m_boxTop :: .int m_boxBottom :: .int m_boxWest :: .int m_boxEast :: .int m_isEarly :: .int m_pieces :: .int m_states :: .ref a_m_pieceLevel :: .ref a_m_pieceKey :: .ref a_m_pieceYear :: .int m_drawnNow :: .ref a_m_drawnKeys :: .ref a_m_kept :: .int m_keptAt :: .ref a_m_noNumbers :: []))) :: Rw) H → va_S A s.heap H locs → W p l e ({ frames := 0, cells := 0, slots := 0, locals := 0 } : Room) s m ([.ref a_m, .int p1] : List Value).toArray below meth c H locs 0 0 Q (F0 m 0 ls []) := by
    intro H locs hH hP hS
    subst hH
    refine lv_iload_n (pc := 0) hx hb dX11_count_0 rfl (lv_at hl 1 rfl) ?_
    rcases q_if_e hf with ⟨hc0, hf⟩ | ⟨hc0, hf⟩
    · refine lv_tableIn (pc := 1) (tgt := 44) (off := 43) hx hb dX11_count_1 (by rw [hc0]; decide) (by rw [hc0]; decide) (by rw [hc0]; decide) (by decide) ?_
      refine lv_aload_n (pc := 44) hx hb dX11_count_44 rfl (lv_at hl 0 rfl) ?_
      refine va_get (pc := 45) (D := D) (ci := 11) (v := .int m_pieces) (C := RX11) (T := TX11) (N := 42) hx hb hts hinX11 hown hK hP 0 rfl rfl 32 (by decide) w_1 (fun _ h9 => h9) rfl dX11_count_45 ?_
      obtain rfl := Option.some.inj hf
      rw [hQ]
      exact q_iretr (pc := 48) hx hb hr hlocks rfl hS dX11_count_48
    rcases q_if_e hf with ⟨hc1, hf⟩ | ⟨hc1, hf⟩
    · refine lv_tableIn (pc := 1) (tgt := 49) (off := 48) hx hb dX11_count_1 (by rw [hc1]; decide) (by rw [hc1]; decide) (by rw [hc1]; decide) (by decide) ?_
      refine lv_aload_n (pc := 49) hx hb dX11_count_49 rfl (lv_at hl 0 rfl) ?_
      refine va_get (pc := 50) (D := D) (ci := 11) (v := .int m_taped) (C := RX11) (T := TX11) (N := 42) hx hb hts hinX11 hown hK hP 0 rfl rfl 8 (by decide) w_2 (fun _ h9 => h9) rfl dX11_count_50 ?_
      obtain rfl := Option.some.inj hf
      rw [hQ]
      exact q_iretr (pc := 53) hx hb hr hlocks rfl hS dX11_count_53
    rcases q_if_e hf with ⟨hc2, hf⟩ | ⟨hc2, hf⟩
    · refine lv_tableIn (pc := 1) (tgt := 54) (off := 53) hx hb dX11_count_1 (by rw [hc2]; decide) (by rw [hc2]; decide) (by rw [hc2]; decide) (by decide) ?_
      refine lv_aload_n (pc := 54) hx hb dX11_count_54 rfl (lv_at hl 0 rfl) ?_
      refine va_get (pc := 55) (D := D) (ci := 11) (v := .int m_states) (C := RX11) (T := TX11) (N := 42) hx hb hts hinX11 hown hK hP 0 rfl rfl 33 (by decide) w_3 (fun _ h9 => h9) rfl dX11_count_55 ?_
      obtain rfl := Option.some.inj hf
      rw [hQ]
      exact q_iretr (pc := 58) hx hb hr hlocks rfl hS dX11_count_58
    rcases q_if_e hf with ⟨hc3, hf⟩ | ⟨hc3, hf⟩
    · refine lv_tableIn (pc := 1) (tgt := 59) (off := 58) hx hb dX11_count_1 (by rw [hc3]; decide) (by rw [hc3]; decide) (by rw [hc3]; decide) (by decide) ?_
      refine lv_aload_n (pc := 59) hx hb dX11_count_59 rfl (lv_at hl 0 rfl) ?_
      refine va_get (pc := 60) (D := D) (ci := 11) (v := .int m_reads) (C := RX11) (T := TX11) (N := 42) hx hb hts hinX11 hown hK hP 0 rfl rfl 14 (by decide) w_4 (fun _ h9 => h9) rfl dX11_count_60 ?_
      obtain rfl := Option.some.inj hf
      rw [hQ]
      exact q_iretr (pc := 63) hx hb hr hlocks rfl hS dX11_count_63
    rcases q_if_e hf with ⟨hc4, hf⟩ | ⟨hc4, hf⟩
    · refine lv_tableIn (pc := 1) (tgt := 64) (off := 63) hx hb dX11_count_1 (by rw [hc4]; decide) (by rw [hc4]; decide) (by rw [hc4]; decide) (by decide) ?_
      refine lv_aload_n (pc := 64) hx hb dX11_count_64 rfl (lv_at hl 0 rfl) ?_
      refine va_get (pc := 65) (D := D) (ci := 11) (v := .int m_faults) (C := RX11) (T := TX11) (N := 42) hx hb hts hinX11 hown hK hP 0 rfl rfl 15 (by decide) w_5 (fun _ h9 => h9) rfl dX11_count_65 ?_
      obtain rfl := Option.some.inj hf
      rw [hQ]
      exact q_iretr (pc := 68) hx hb hr hlocks rfl hS dX11_count_68
    rcases q_if_e hf with ⟨hc5, hf⟩ | ⟨hc5, hf⟩
    · refine lv_tableIn (pc := 1) (tgt := 69) (off := 68) hx hb dX11_count_1 (by rw [hc5]; decide) (by rw [hc5]; decide) (by rw [hc5]; decide) (by decide) ?_
      refine lv_aload_n (pc := 69) hx hb dX11_count_69 rfl (lv_at hl 0 rfl) ?_
      refine va_get (pc := 70) (D := D) (ci := 11) (v := .int m_cutShort) (C := RX11) (T := TX11) (N := 42) hx hb hts hinX11 hown hK hP 0 rfl rfl 16 (by decide) w_6 (fun _ h9 => h9) rfl dX11_count_70 ?_
      obtain rfl := Option.some.inj hf
      rw [hQ]
      exact q_iretr (pc := 73) hx hb hr hlocks rfl hS dX11_count_73
    rcases q_if_e hf with ⟨hc6, hf⟩ | ⟨hc6, hf⟩
    · refine lv_tableIn (pc := 1) (tgt := 74) (off := 73) hx hb dX11_count_1 (by rw [hc6]; decide) (by rw [hc6]; decide) (by rw [hc6]; decide) (by decide) ?_
      refine lv_aload_n (pc := 74) hx hb dX11_count_74 rfl (lv_at hl 0 rfl) ?_
      refine va_get (pc := 75) (D := D) (ci := 11) (v := .int m_noNumber) (C := RX11) (T := TX11) (N := 42) hx hb hts hinX11 hown hK hP 0 rfl rfl 17 (by decide) w_7 (fun _ h9 => h9) rfl dX11_count_75 ?_
      obtain rfl := Option.some.inj hf
      rw [hQ]
      exact q_iretr (pc := 78) hx hb hr hlocks rfl hS dX11_count_78
    have hsw : p1.toInt < 0 ∨ 6 < p1.toInt := by
      have hd0 := q_nei hc0; have hd1 := q_nei hc1; have hd2 := q_nei hc2; have hd3 := q_nei hc3; have hd4 := q_nei hc4; have hd5 := q_nei hc5; have hd6 := q_nei hc6
      rw [show (0 : Int32).toInt = 0 from rfl] at hd0; rw [show (1 : Int32).toInt = 1 from rfl] at hd1; rw [show (2 : Int32).toInt = 2 from rfl] at hd2; rw [show (3 : Int32).toInt = 3 from rfl] at hd3; rw [show (4 : Int32).toInt = 4 from rfl] at hd4; rw [show (5 : Int32).toInt = 5 from rfl] at hd5; rw [show (6 : Int32).toInt = 6 from rfl] at hd6
      omega
    refine lv_tableOut (pc := 1) (tgt := 79) hx hb dX11_count_1 hsw (by decide) ?_
    refine lv_iconst (pc := 79) (v := (-1)) hx hb dX11_count_79 (by decide) ?_
    obtain rfl := Option.some.inj hf
    rw [hQ]
    exact q_iretr (pc := 80) hx hb hr hlocks rfl hS dX11_count_80
  exact hgo _ _ rfl hP hS
/-! X11_isWhole -/
set_option maxRecDepth 100000 in
set_option maxHeartbeats 4000000 in
theorem c_M_isWhole (l : Launch) (D : va_G) (ci : Nat → ClassId) (A : Nat → Prop) (sa : Nat → Nat) (N : Nat) (Rw : va_W) (a_m : Nat) (a_m_cutRows : Nat) (a_m_cutColumns : Nat) (a_m_deep : Nat) (a_m_wide : Nat) (a_m_zonesAhead : Nat) (a_m_nameOne : Nat) (a_m_nameOther : Nat) (a_m_tape : Nat) (a_m_edges : Nat) (a_m_dist : Nat) (a_m_queue : Nat) (a_m_pieceLevel : Nat) (a_m_pieceKey : Nat) (a_m_pieceYear : Nat) (a_m_drawnKeys : Nat) (a_m_kept : Nat) (a_m_noNumbers : Nat) (m_taped : Int32) (m_place : Int32) (m_fault : Int32) (m_number : Int32) (m_levelRead : Int32) (m_keyRead : Int32) (m_reads : Int32) (m_faults : Int32) (m_cutShort : Int32) (m_noNumber : Int32) (m_bottomLat : Int64) (m_bottomLon : Int64) (m_firstBeside : Int32) (m_manyBeside : Int32) (m_queued : Int32) (m_boxLevel : Int32) (m_boxTop : Int32) (m_boxBottom : Int32) (m_boxWest : Int32) (m_boxEast : Int32) (m_isEarly : Int32) (m_pieces : Int32) (m_states : Int32) (m_drawnNow : Int32) (m_keptAt : Int32) (m_deep : Nat → Int32) (m_wide : Nat → Int32) (p1 : Int32) (p2 : Int32) (p3 : Int32) (r : Int32) (hf : f_M_isWhole m_deep m_wide m_boxLevel m_boxTop m_boxBottom m_boxWest m_boxEast p1 p2 p3 = some r) : Met l yX11_isWhole wsX11_isWhole ({ frames := 4, cells := 0, slots := 0, locals := 88 }) (va_Pc [.ref a_m, .int p1, .int p2, .int p3] (q_N D ci A sa ((a_m, .inr (11, (.ref a_m_cutRows :: .ref a_m_cutColumns :: .ref a_m_deep :: .ref a_m_wide :: .ref a_m_zonesAhead :: .ref a_m_nameOne :: .ref a_m_nameOther :: .ref a_m_tape :: .int m_taped :: .int m_place :: .int m_fault :: .int m_number :: .int m_levelRead :: .int m_keyRead :: .int m_reads :: .int m_faults :: .int m_cutShort :: .int m_noNumber :: .long m_bottomLat :: .long m_bottomLon :: .ref a_m_edges :: .int m_firstBeside :: .int m_manyBeside :: .ref a_m_dist :: .ref a_m_queue :: .int m_queued :: .int m_boxLevel :: .int m_boxTop :: .int m_boxBottom :: .int m_boxWest :: .int m_boxEast :: .int m_isEarly :: .int m_pieces :: .int m_states :: .ref a_m_pieceLevel :: .ref a_m_pieceKey :: .ref a_m_pieceYear :: .int m_drawnNow :: .ref a_m_drawnKeys :: .ref a_m_kept :: .int m_keptAt :: .ref a_m_noNumbers :: []))) :: (a_m_deep, .inl (ci 0, 5, .inl m_deep)) :: (a_m_wide, .inl (ci 0, 5, .inl m_wide)) :: Rw))) (q_R (some (.int r))) 0 0 A := by
  refine q_ofW (cc := cX11_isWhole) (maxL := 11) (ret := (some .boolean)) [.ref a_m, .int p1, .int p2, .int p3] (plainFor_of_name (by decide)) rfl (Nat.le_of_ble_eq_true rfl) ?_
  intro p e s m below meth c ls Q hQ hx hb hml hr hts hown hlocks hK hA hZ hP hD hS hl
  have hl : lv_has ls 11 [(0, .ref a_m), (1, .int p1), (2, .int p2), (3, .int p3)] := hl
  have hown : s.vm.findClass RX11 = some m.cls := hown
  have hinX11 : ∀ w ∈ wsX110, w ∈ wsX11_isWhole := fun _ h => List.mem_cons_of_mem _ (inWX110 _ h)
  have w_1 := hts (Cond.fieldLink RX11 298 "SheetNamesModel" "boxLevel" "I") (List.mem_cons_of_mem _ t_w948)
  have w_2 := hts (Cond.fieldLink RX11 301 "SheetNamesModel" "boxTop" "I") (List.mem_cons_of_mem _ t_w949)
  have w_3 := hts (Cond.fieldLink RX11 304 "SheetNamesModel" "boxBottom" "I") (List.mem_cons_of_mem _ t_w950)
  have w_4 := hts (Cond.fieldLink RX11 16 "SheetNamesModel" "deep" "[I") (List.mem_cons_of_mem _ t_w908)
  have w_5 := hts (Cond.fieldLink RX11 19 "SheetNamesModel" "wide" "[I") (List.mem_cons_of_mem _ t_w909)
  unfold f_M_isWhole at hf
  have hgo : ∀ (H : Heap) (locs : List Loc), H = s.heap → va_P D vwCl ((a_m, .inr (11, (.ref a_m_cutRows :: .ref a_m_cutColumns :: .ref a_m_deep :: .ref a_m_wide :: .ref a_m_zonesAhead :: .ref a_m_nameOne :: .ref a_m_nameOther :: .ref a_m_tape :: .int m_taped :: .int m_place :: .int m_fault :: .int m_number :: .int m_levelRead :: .int m_keyRead :: .int m_reads :: .int m_faults :: .int m_cutShort :: .int m_noNumber :: .long m_bottomLat :: .long m_bottomLon :: .ref a_m_edges :: .int m_firstBeside :: .int m_manyBeside :: .ref a_m_dist :: .ref a_m_queue :: .int m_queued :: .int m_boxLevel :: .int m_boxTop :: .int m_boxBottom :: .int m_boxWest :: .int m_boxEast :: .int m_isEarly :: .int m_pieces :: .int m_states :: .ref a_m_pieceLevel :: .ref a_m_pieceKey :: .ref a_m_pieceYear :: .int m_drawnNow :: .ref a_m_drawnKeys :: .ref a_m_kept :: .int m_keptAt :: .ref a_m_noNumbers :: []))) :: (a_m_deep, .inl (ci 0, 5, .inl m_deep)) :: (a_m_wide, .inl (ci 0, 5, .inl m_wide)) :: Rw) H → va_S A s.heap H locs → W p l e ({ frames := 4, cells := 0, slots := 0, locals := 88 } : Room) s m ([.ref a_m, .int p1, .int p2, .int p3] : List Value).toArray below meth c H locs 0 0 Q (F0 m 0 ls []) := by
    intro H locs hH hP hS
    subst hH
    refine lv_aload_n (pc := 0) hx hb dX11_isWhole_0 rfl (lv_at hl 0 rfl) ?_
    refine va_get (pc := 1) (D := D) (ci := 11) (v := .int m_boxLevel) (C := RX11) (T := TX11) (N := 42) hx hb hts hinX11 hown hK hP 0 rfl rfl 26 (by decide) w_1 (fun _ h9 => h9) rfl dX11_isWhole_1 ?_
    refine lv_istore (pc := 4) (lv' := [(4, .int m_boxLevel), (0, .ref a_m), (1, .int p1), (2, .int p2), (3, .int p3)]) hx hb dX11_isWhole_4 hl (by decide) rfl (fun ls hl => ?_)
    refine lv_iload_n (pc := 6) hx hb dX11_isWhole_6 rfl (lv_at hl 3 rfl) ?_
    refine q_if_ne (pc := 7) (tgt := 23) hx hb dX11_isWhole_7 (by decide) rfl hf (fun hf => ?_) (fun hf => ?_)
    · refine lv_iload_n (pc := 23) hx hb dX11_isWhole_23 rfl (lv_at hl 3 rfl) ?_
      refine lv_aload_n (pc := 24) hx hb dX11_isWhole_24 rfl (lv_at hl 1 rfl) ?_
      refine lv_iload_n (pc := 25) hx hb dX11_isWhole_25 rfl (lv_at hl 2 rfl) ?_
      obtain ⟨v1, hm26, hf⟩ := q_b1_e hf
      refine q_cVr (pc := 26) (As := [.int p1]) (rest := [.int p2]) (v0 := (some (.int v1))) ⟨hx, hb, hml, hown, hts⟩ hK hA hZ hP hD hS hl.1 [0, 1] 3 rfl ⟨rfl, rfl, rfl⟩ (c_M_lastRow l D ci A sa N (Rw) a_m a_m_cutRows a_m_cutColumns a_m_deep a_m_wide a_m_zonesAhead a_m_nameOne a_m_nameOther a_m_tape a_m_edges a_m_dist a_m_queue a_m_pieceLevel a_m_pieceKey a_m_pieceYear a_m_drawnKeys a_m_kept a_m_noNumbers m_taped m_place m_fault m_number m_levelRead m_keyRead m_reads m_faults m_cutShort m_noNumber m_bottomLat m_bottomLon m_firstBeside m_manyBeside m_queued m_boxLevel m_boxTop m_boxBottom m_boxWest m_boxEast m_isEarly m_pieces m_states m_drawnNow m_keptAt m_deep p1 v1 hm26) 0 rfl rfl (cwV 1 hts gX11_isWhole_X11_lastRow rfl rfl rfl (by decide +kernel) ⟨Nat.le_of_ble_eq_true rfl, Nat.le_of_ble_eq_true rfl⟩) rfl rfl (Nat.le_of_ble_eq_true rfl) dX11_isWhole_26 ⟨Nat.zero_le _, Nat.zero_le _⟩ (fun locs hS => ?_)
      refine q_icmp_ne (pc := 29) (tgt := 51) hx hb dX11_isWhole_29 (by decide) rfl hf (fun hf => ?_) (fun hf => ?_)
      · refine lv_aload_n (pc := 51) hx hb dX11_isWhole_51 rfl (lv_at hl 1 rfl) ?_
        refine va_get (pc := 52) (D := D) (ci := 11) (v := .ref a_m_deep) (C := RX11) (T := TX11) (N := 42) hx hb hts hinX11 hown hK hP 0 rfl rfl 2 (by decide) w_4 (fun _ h9 => h9) rfl dX11_isWhole_52 ?_
        refine lv_iload (pc := 55) hx hb dX11_isWhole_55 (lv_at hl 0 rfl) ?_
        refine q_iald (pc := 57) hx hb hK hP 1 0 hf rfl rfl dX11_isWhole_57 (fun v2 hf => ?_)
        refine lv_aload_n (pc := 58) hx hb dX11_isWhole_58 rfl (lv_at hl 1 rfl) ?_
        refine va_get (pc := 59) (D := D) (ci := 11) (v := .ref a_m_deep) (C := RX11) (T := TX11) (N := 42) hx hb hts hinX11 hown hK hP 0 rfl rfl 2 (by decide) w_4 (fun _ h9 => h9) rfl dX11_isWhole_59 ?_
        refine lv_iload_n (pc := 62) hx hb dX11_isWhole_62 rfl (lv_at hl 2 rfl) ?_
        refine q_iald (pc := 63) hx hb hK hP 1 0 hf rfl rfl dX11_isWhole_63 (fun v3 hf => ?_)
        refine q_idiv (pc := 64) hx hb dX11_isWhole_64 hf (fun v4 hf => ?_)
        refine lv_istore (pc := 65) (lv' := [(5, .int v4), (4, .int m_boxLevel), (0, .ref a_m), (1, .int p1), (2, .int p2), (3, .int p3)]) hx hb dX11_isWhole_65 hl (by decide) rfl (fun ls hl => ?_)
        refine lv_aload_n (pc := 67) hx hb dX11_isWhole_67 rfl (lv_at hl 2 rfl) ?_
        refine va_get (pc := 68) (D := D) (ci := 11) (v := .ref a_m_wide) (C := RX11) (T := TX11) (N := 42) hx hb hts hinX11 hown hK hP 0 rfl rfl 3 (by decide) w_5 (fun _ h9 => h9) rfl dX11_isWhole_68 ?_
        refine lv_iload (pc := 71) hx hb dX11_isWhole_71 (lv_at hl 1 rfl) ?_
        refine q_iald (pc := 73) hx hb hK hP 2 0 hf rfl rfl dX11_isWhole_73 (fun v5 hf => ?_)
        refine lv_aload_n (pc := 74) hx hb dX11_isWhole_74 rfl (lv_at hl 2 rfl) ?_
        refine va_get (pc := 75) (D := D) (ci := 11) (v := .ref a_m_wide) (C := RX11) (T := TX11) (N := 42) hx hb hts hinX11 hown hK hP 0 rfl rfl 3 (by decide) w_5 (fun _ h9 => h9) rfl dX11_isWhole_75 ?_
        refine lv_iload_n (pc := 78) hx hb dX11_isWhole_78 rfl (lv_at hl 3 rfl) ?_
        refine q_iald (pc := 79) hx hb hK hP 2 0 hf rfl rfl dX11_isWhole_79 (fun v6 hf => ?_)
        refine q_idiv (pc := 80) hx hb dX11_isWhole_80 hf (fun v7 hf => ?_)
        refine lv_istore (pc := 81) (lv' := [(6, .int v7), (5, .int v4), (4, .int m_boxLevel), (0, .ref a_m), (1, .int p1), (2, .int p2), (3, .int p3)]) hx hb dX11_isWhole_81 hl (by decide) rfl (fun ls hl => ?_)
        refine lv_iconst (pc := 83) (v := 1) hx hb dX11_isWhole_83 (by decide) ?_
        refine lv_iload_n (pc := 84) hx hb dX11_isWhole_84 rfl (lv_at hl 5 rfl) ?_
        refine lv_iconst (pc := 85) (v := 1) hx hb dX11_isWhole_85 (by decide) ?_
        refine lv_isub (pc := 86) hx hb dX11_isWhole_86 ?_
        refine lv_iload (pc := 87) hx hb dX11_isWhole_87 (lv_at hl 1 rfl) ?_
        refine lv_imul (pc := 89) hx hb dX11_isWhole_89 ?_
        refine lv_iadd (pc := 90) hx hb dX11_isWhole_90 ?_
        obtain ⟨v8, ev8, hf⟩ := q_nm_e hf
        refine q_topi ev8 ?_
        refine lv_istore (pc := 91) (lv' := [(7, .int v8), (6, .int v7), (5, .int v4), (4, .int m_boxLevel), (0, .ref a_m), (1, .int p1), (2, .int p2), (3, .int p3)]) hx hb dX11_isWhole_91 hl (by decide) rfl (fun ls hl => ?_)
        refine lv_iload (pc := 93) hx hb dX11_isWhole_93 (lv_at hl 0 rfl) ?_
        refine lv_aload_n (pc := 95) hx hb dX11_isWhole_95 rfl (lv_at hl 4 rfl) ?_
        refine va_get (pc := 96) (D := D) (ci := 11) (v := .int m_boxTop) (C := RX11) (T := TX11) (N := 42) hx hb hts hinX11 hown hK hP 0 rfl rfl 27 (by decide) w_2 (fun _ h9 => h9) rfl dX11_isWhole_96 ?_
        refine q_icmp_lt (pc := 99) (tgt := 116) hx hb dX11_isWhole_99 (by decide) rfl hf (fun hf => ?_) (fun hf => ?_)
        · refine lv_iconst (pc := 116) (v := 0) hx hb dX11_isWhole_116 (by decide) ?_
          obtain rfl := Option.some.inj hf
          rw [hQ]
          exact q_zretr (pc := 117) hx hb hr rfl hlocks rfl hS dX11_isWhole_117
        · refine lv_iload (pc := 102) hx hb dX11_isWhole_102 (lv_at hl 0 rfl) ?_
          refine lv_iload (pc := 104) hx hb dX11_isWhole_104 (lv_at hl 2 rfl) ?_
          refine lv_iadd (pc := 106) hx hb dX11_isWhole_106 ?_
          refine lv_iconst (pc := 107) (v := 1) hx hb dX11_isWhole_107 (by decide) ?_
          refine lv_isub (pc := 108) hx hb dX11_isWhole_108 ?_
          refine lv_aload_n (pc := 109) hx hb dX11_isWhole_109 rfl (lv_at hl 4 rfl) ?_
          refine va_get (pc := 110) (D := D) (ci := 11) (v := .int m_boxBottom) (C := RX11) (T := TX11) (N := 42) hx hb hts hinX11 hown hK hP 0 rfl rfl 28 (by decide) w_3 (fun _ h9 => h9) rfl dX11_isWhole_110 ?_
          refine q_icmp_le (pc := 113) (tgt := 118) hx hb dX11_isWhole_113 (by decide) rfl hf (fun hf => ?_) (fun hf => ?_)
          · refine lv_aload_n (pc := 118) hx hb dX11_isWhole_118 rfl (lv_at hl 4 rfl) ?_
            refine lv_iload (pc := 119) hx hb dX11_isWhole_119 (lv_at hl 3 rfl) ?_
            refine lv_iload (pc := 121) hx hb dX11_isWhole_121 (lv_at hl 0 rfl) ?_
            obtain ⟨v9, hm123, hf⟩ := q_b1_e hf
            refine q_cVr (pc := 123) (As := [.int m_boxLevel, .int v8]) (rest := []) (v0 := (some (.int v9))) ⟨hx, hb, hml, hown, hts⟩ hK hA hZ hP hD hS hl.1 [0, 1, 2] 3 rfl ⟨rfl, rfl, rfl⟩ (c_M_many l D ci A sa N (Rw) a_m a_m_cutRows a_m_cutColumns a_m_deep a_m_wide a_m_zonesAhead a_m_nameOne a_m_nameOther a_m_tape a_m_edges a_m_dist a_m_queue a_m_pieceLevel a_m_pieceKey a_m_pieceYear a_m_drawnKeys a_m_kept a_m_noNumbers m_taped m_place m_fault m_number m_levelRead m_keyRead m_reads m_faults m_cutShort m_noNumber m_bottomLat m_bottomLon m_firstBeside m_manyBeside m_queued m_boxLevel m_boxTop m_boxBottom m_boxWest m_boxEast m_isEarly m_pieces m_states m_drawnNow m_keptAt m_deep m_wide m_boxLevel v8 v9 hm123) 0 rfl rfl (cwV 2 hts gX11_isWhole_X11_many rfl rfl rfl (by decide +kernel) ⟨Nat.le_of_ble_eq_true rfl, Nat.le_of_ble_eq_true rfl⟩) rfl rfl (Nat.le_of_ble_eq_true rfl) dX11_isWhole_123 ⟨Nat.zero_le _, Nat.zero_le _⟩ (fun locs hS => ?_)
            refine lv_istore (pc := 126) (lv' := [(8, .int v9), (7, .int v8), (6, .int v7), (5, .int v4), (4, .int m_boxLevel), (0, .ref a_m), (1, .int p1), (2, .int p2), (3, .int p3)]) hx hb dX11_isWhole_126 hl (by decide) rfl (fun ls hl => ?_)
            refine lv_aload_n (pc := 128) hx hb dX11_isWhole_128 rfl (lv_at hl 5 rfl) ?_
            refine lv_iload (pc := 129) hx hb dX11_isWhole_129 (lv_at hl 1 rfl) ?_
            obtain ⟨v10, hm131, hf⟩ := q_b1_e hf
            refine q_cVr (pc := 131) (As := [.int v8]) (rest := []) (v0 := (some (.int v10))) ⟨hx, hb, hml, hown, hts⟩ hK hA hZ hP hD hS hl.1 [0, 1, 2] 3 rfl ⟨rfl, rfl, rfl⟩ (c_M_boxMany l D ci A sa N (Rw) a_m a_m_cutRows a_m_cutColumns a_m_deep a_m_wide a_m_zonesAhead a_m_nameOne a_m_nameOther a_m_tape a_m_edges a_m_dist a_m_queue a_m_pieceLevel a_m_pieceKey a_m_pieceYear a_m_drawnKeys a_m_kept a_m_noNumbers m_taped m_place m_fault m_number m_levelRead m_keyRead m_reads m_faults m_cutShort m_noNumber m_bottomLat m_bottomLon m_firstBeside m_manyBeside m_queued m_boxLevel m_boxTop m_boxBottom m_boxWest m_boxEast m_isEarly m_pieces m_states m_drawnNow m_keptAt m_deep m_wide v8 v10 hm131) 0 rfl rfl (cwV 1 hts gX11_isWhole_X11_boxMany rfl rfl rfl (by decide +kernel) ⟨Nat.le_of_ble_eq_true rfl, Nat.le_of_ble_eq_true rfl⟩) rfl rfl (Nat.le_of_ble_eq_true rfl) dX11_isWhole_131 ⟨Nat.zero_le _, Nat.zero_le _⟩ (fun locs hS => ?_)
            refine lv_istore (pc := 134) (lv' := [(9, .int v10), (8, .int v9), (7, .int v8), (6, .int v7), (5, .int v4), (4, .int m_boxLevel), (0, .ref a_m), (1, .int p1), (2, .int p2), (3, .int p3)]) hx hb dX11_isWhole_134 hl (by decide) rfl (fun ls hl => ?_)
            refine lv_iload_n (pc := 136) hx hb dX11_isWhole_136 rfl (lv_at hl 9 rfl) ?_
            refine lv_iload (pc := 137) hx hb dX11_isWhole_137 (lv_at hl 3 rfl) ?_
            refine lv_imul (pc := 139) hx hb dX11_isWhole_139 ?_
            refine lv_aload_n (pc := 140) hx hb dX11_isWhole_140 rfl (lv_at hl 6 rfl) ?_
            refine lv_iload (pc := 141) hx hb dX11_isWhole_141 (lv_at hl 2 rfl) ?_
            obtain ⟨v11, hm143, hf⟩ := q_b1_e hf
            refine q_cVr (pc := 143) (As := [.int v8]) (rest := [.int (p3 * v7)]) (v0 := (some (.int v11))) ⟨hx, hb, hml, hown, hts⟩ hK hA hZ hP hD hS hl.1 [0, 1, 2] 3 rfl ⟨rfl, rfl, rfl⟩ (c_M_westOf l D ci A sa N (Rw) a_m a_m_cutRows a_m_cutColumns a_m_deep a_m_wide a_m_zonesAhead a_m_nameOne a_m_nameOther a_m_tape a_m_edges a_m_dist a_m_queue a_m_pieceLevel a_m_pieceKey a_m_pieceYear a_m_drawnKeys a_m_kept a_m_noNumbers m_taped m_place m_fault m_number m_levelRead m_keyRead m_reads m_faults m_cutShort m_noNumber m_bottomLat m_bottomLon m_firstBeside m_manyBeside m_queued m_boxLevel m_boxTop m_boxBottom m_boxWest m_boxEast m_isEarly m_pieces m_states m_drawnNow m_keptAt m_deep m_wide v8 v11 hm143) 0 rfl rfl (cwV 1 hts gX11_isWhole_X11_westOf rfl rfl rfl (by decide +kernel) ⟨Nat.le_of_ble_eq_true rfl, Nat.le_of_ble_eq_true rfl⟩) rfl rfl (Nat.le_of_ble_eq_true rfl) dX11_isWhole_143 ⟨Nat.zero_le _, Nat.zero_le _⟩ (fun locs hS => ?_)
            refine lv_isub (pc := 146) hx hb dX11_isWhole_146 ?_
            refine lv_iload (pc := 147) hx hb dX11_isWhole_147 (lv_at hl 1 rfl) ?_
            refine lv_iadd (pc := 149) hx hb dX11_isWhole_149 ?_
            refine lv_iload (pc := 150) hx hb dX11_isWhole_150 (lv_at hl 1 rfl) ?_
            refine q_irem (pc := 152) hx hb dX11_isWhole_152 hf (fun v12 hf => ?_)
            refine lv_istore (pc := 153) (lv' := [(10, .int v12), (9, .int v10), (8, .int v9), (7, .int v8), (6, .int v7), (5, .int v4), (4, .int m_boxLevel), (0, .ref a_m), (1, .int p1), (2, .int p2), (3, .int p3)]) hx hb dX11_isWhole_153 hl (by decide) rfl (fun ls hl => ?_)
            refine lv_iload (pc := 155) hx hb dX11_isWhole_155 (lv_at hl 1 rfl) ?_
            refine lv_iload (pc := 157) hx hb dX11_isWhole_157 (lv_at hl 2 rfl) ?_
            obtain ⟨k172, ek172, hf⟩ := q_j0_e hf
            have J172 : ∀  (H : Heap) (locs : List Loc) (ls : Array Slot), k172 = some r → H = s.heap → va_S A s.heap H locs → lv_has ls 11 [] → W p l e ({ frames := 4, cells := 0, slots := 0, locals := 88 } : Room) s m ([.ref a_m, .int p1, .int p2, .int p3] : List Value).toArray below meth c H locs 0 0 Q (F0 m 172 ls []) := by
              intro  H locs ls hf hHs hS hl
              subst hHs
              have hf := (ek172).symm.trans hf
              refine lv_iconst (pc := 172) (v := 1) hx hb dX11_isWhole_172 (by decide) ?_
              refine lv_goto (pc := 173) (tgt := 177) hx hb dX11_isWhole_173 (by decide) ?_
              obtain rfl := Option.some.inj hf
              rw [hQ]
              exact q_zretr (pc := 177) hx hb hr rfl hlocks rfl hS dX11_isWhole_177
            refine q_icmp_eq (pc := 159) (tgt := 172) hx hb dX11_isWhole_159 (by decide) rfl hf (fun hf => ?_) (fun hf => ?_)
            · exact J172  _ _ _ hf rfl hS (lv_sub hl [] rfl)
            · refine lv_iload (pc := 162) hx hb dX11_isWhole_162 (lv_at hl 0 rfl) ?_
              refine lv_iload (pc := 164) hx hb dX11_isWhole_164 (lv_at hl 4 rfl) ?_
              refine lv_iadd (pc := 166) hx hb dX11_isWhole_166 ?_
              refine lv_iload (pc := 167) hx hb dX11_isWhole_167 (lv_at hl 1 rfl) ?_
              refine q_icmp_gt (pc := 169) (tgt := 176) hx hb dX11_isWhole_169 (by decide) rfl hf (fun hf => ?_) (fun hf => ?_)
              · refine lv_iconst (pc := 176) (v := 0) hx hb dX11_isWhole_176 (by decide) ?_
                obtain rfl := Option.some.inj hf
                rw [hQ]
                exact q_zretr (pc := 177) hx hb hr rfl hlocks rfl hS dX11_isWhole_177
              · exact J172  _ _ _ hf rfl hS (lv_sub hl [] rfl)
          · refine lv_iconst (pc := 116) (v := 0) hx hb dX11_isWhole_116 (by decide) ?_
            obtain rfl := Option.some.inj hf
            rw [hQ]
            exact q_zretr (pc := 117) hx hb hr rfl hlocks rfl hS dX11_isWhole_117
      · refine lv_aload_n (pc := 32) hx hb dX11_isWhole_32 rfl (lv_at hl 1 rfl) ?_
        refine va_get (pc := 33) (D := D) (ci := 11) (v := .int m_boxBottom) (C := RX11) (T := TX11) (N := 42) hx hb hts hinX11 hown hK hP 0 rfl rfl 28 (by decide) w_3 (fun _ h9 => h9) rfl dX11_isWhole_33 ?_
        refine lv_aload_n (pc := 36) hx hb dX11_isWhole_36 rfl (lv_at hl 1 rfl) ?_
        refine lv_iload (pc := 37) hx hb dX11_isWhole_37 (lv_at hl 0 rfl) ?_
        obtain ⟨v13, hm39, hf⟩ := q_b1_e hf
        refine q_cVr (pc := 39) (As := [.int m_boxLevel]) (rest := [.int m_boxBottom]) (v0 := (some (.int v13))) ⟨hx, hb, hml, hown, hts⟩ hK hA hZ hP hD hS hl.1 [0, 1] 3 rfl ⟨rfl, rfl, rfl⟩ (c_M_lastRow l D ci A sa N (Rw) a_m a_m_cutRows a_m_cutColumns a_m_deep a_m_wide a_m_zonesAhead a_m_nameOne a_m_nameOther a_m_tape a_m_edges a_m_dist a_m_queue a_m_pieceLevel a_m_pieceKey a_m_pieceYear a_m_drawnKeys a_m_kept a_m_noNumbers m_taped m_place m_fault m_number m_levelRead m_keyRead m_reads m_faults m_cutShort m_noNumber m_bottomLat m_bottomLon m_firstBeside m_manyBeside m_queued m_boxLevel m_boxTop m_boxBottom m_boxWest m_boxEast m_isEarly m_pieces m_states m_drawnNow m_keptAt m_deep m_boxLevel v13 hm39) 0 rfl rfl (cwV 1 hts gX11_isWhole_X11_lastRow rfl rfl rfl (by decide +kernel) ⟨Nat.le_of_ble_eq_true rfl, Nat.le_of_ble_eq_true rfl⟩) rfl rfl (Nat.le_of_ble_eq_true rfl) dX11_isWhole_39 ⟨Nat.zero_le _, Nat.zero_le _⟩ (fun locs hS => ?_)
        refine q_icmp_ne (pc := 42) (tgt := 49) hx hb dX11_isWhole_42 (by decide) rfl hf (fun hf => ?_) (fun hf => ?_)
        · refine lv_iconst (pc := 49) (v := 0) hx hb dX11_isWhole_49 (by decide) ?_
          obtain rfl := Option.some.inj hf
          rw [hQ]
          exact q_zretr (pc := 50) hx hb hr rfl hlocks rfl hS dX11_isWhole_50
        · refine lv_iconst (pc := 45) (v := 1) hx hb dX11_isWhole_45 (by decide) ?_
          refine lv_goto (pc := 46) (tgt := 50) hx hb dX11_isWhole_46 (by decide) ?_
          obtain rfl := Option.some.inj hf
          rw [hQ]
          exact q_zretr (pc := 50) hx hb hr rfl hlocks rfl hS dX11_isWhole_50
    · refine lv_aload_n (pc := 10) hx hb dX11_isWhole_10 rfl (lv_at hl 1 rfl) ?_
      refine va_get (pc := 11) (D := D) (ci := 11) (v := .int m_boxTop) (C := RX11) (T := TX11) (N := 42) hx hb hts hinX11 hown hK hP 0 rfl rfl 27 (by decide) w_2 (fun _ h9 => h9) rfl dX11_isWhole_11 ?_
      refine q_if_ne (pc := 14) (tgt := 21) hx hb dX11_isWhole_14 (by decide) rfl hf (fun hf => ?_) (fun hf => ?_)
      · refine lv_iconst (pc := 21) (v := 0) hx hb dX11_isWhole_21 (by decide) ?_
        obtain rfl := Option.some.inj hf
        rw [hQ]
        exact q_zretr (pc := 22) hx hb hr rfl hlocks rfl hS dX11_isWhole_22
      · refine lv_iconst (pc := 17) (v := 1) hx hb dX11_isWhole_17 (by decide) ?_
        refine lv_goto (pc := 18) (tgt := 22) hx hb dX11_isWhole_18 (by decide) ?_
        obtain rfl := Option.some.inj hf
        rw [hQ]
        exact q_zretr (pc := 22) hx hb hr rfl hlocks rfl hS dX11_isWhole_22
  exact hgo _ _ rfl hP hS
/-! X11_isWholeAbove -/
set_option maxRecDepth 100000 in
set_option maxHeartbeats 4000000 in
theorem c_M_isWholeAbove (l : Launch) (D : va_G) (ci : Nat → ClassId) (A : Nat → Prop) (sa : Nat → Nat) (N : Nat) (Rw : va_W) (a_m : Nat) (a_m_cutRows : Nat) (a_m_cutColumns : Nat) (a_m_deep : Nat) (a_m_wide : Nat) (a_m_zonesAhead : Nat) (a_m_nameOne : Nat) (a_m_nameOther : Nat) (a_m_tape : Nat) (a_m_edges : Nat) (a_m_dist : Nat) (a_m_queue : Nat) (a_m_pieceLevel : Nat) (a_m_pieceKey : Nat) (a_m_pieceYear : Nat) (a_m_drawnKeys : Nat) (a_m_kept : Nat) (a_m_noNumbers : Nat) (m_taped : Int32) (m_place : Int32) (m_fault : Int32) (m_number : Int32) (m_levelRead : Int32) (m_keyRead : Int32) (m_reads : Int32) (m_faults : Int32) (m_cutShort : Int32) (m_noNumber : Int32) (m_bottomLat : Int64) (m_bottomLon : Int64) (m_firstBeside : Int32) (m_manyBeside : Int32) (m_queued : Int32) (m_boxLevel : Int32) (m_boxTop : Int32) (m_boxBottom : Int32) (m_boxWest : Int32) (m_boxEast : Int32) (m_isEarly : Int32) (m_pieces : Int32) (m_states : Int32) (m_drawnNow : Int32) (m_keptAt : Int32) (m_cutRows : Nat → Int32) (m_cutColumns : Nat → Int32) (m_deep : Nat → Int32) (m_wide : Nat → Int32) (p1 : Int32) (p2 : Int32) (p3 : Int32) (r : Int32) (hf : f_M_isWholeAbove m_cutRows m_cutColumns m_deep m_wide m_boxLevel m_boxTop m_boxBottom m_boxWest m_boxEast p1 p2 p3 = some r) : Met l yX11_isWholeAbove wsX11_isWholeAbove ({ frames := 5, cells := 0, slots := 0, locals := 118 }) (va_Pc [.ref a_m, .int p1, .int p2, .int p3] (q_N D ci A sa ((a_m, .inr (11, (.ref a_m_cutRows :: .ref a_m_cutColumns :: .ref a_m_deep :: .ref a_m_wide :: .ref a_m_zonesAhead :: .ref a_m_nameOne :: .ref a_m_nameOther :: .ref a_m_tape :: .int m_taped :: .int m_place :: .int m_fault :: .int m_number :: .int m_levelRead :: .int m_keyRead :: .int m_reads :: .int m_faults :: .int m_cutShort :: .int m_noNumber :: .long m_bottomLat :: .long m_bottomLon :: .ref a_m_edges :: .int m_firstBeside :: .int m_manyBeside :: .ref a_m_dist :: .ref a_m_queue :: .int m_queued :: .int m_boxLevel :: .int m_boxTop :: .int m_boxBottom :: .int m_boxWest :: .int m_boxEast :: .int m_isEarly :: .int m_pieces :: .int m_states :: .ref a_m_pieceLevel :: .ref a_m_pieceKey :: .ref a_m_pieceYear :: .int m_drawnNow :: .ref a_m_drawnKeys :: .ref a_m_kept :: .int m_keptAt :: .ref a_m_noNumbers :: []))) :: (a_m_cutRows, .inl (ci 0, 5, .inl m_cutRows)) :: (a_m_cutColumns, .inl (ci 0, 5, .inl m_cutColumns)) :: (a_m_deep, .inl (ci 0, 5, .inl m_deep)) :: (a_m_wide, .inl (ci 0, 5, .inl m_wide)) :: Rw))) (q_R (some (.int r))) 0 0 A := by
  refine q_ofW (cc := cX11_isWholeAbove) (maxL := 4) (ret := (some .boolean)) [.ref a_m, .int p1, .int p2, .int p3] (plainFor_of_name (by decide)) rfl (Nat.le_of_ble_eq_true rfl) ?_
  intro p e s m below meth c ls Q hQ hx hb hml hr hts hown hlocks hK hA hZ hP hD hS hl
  have hl : lv_has ls 4 [(0, .ref a_m), (1, .int p1), (2, .int p2), (3, .int p3)] := hl
  have hown : s.vm.findClass RX11 = some m.cls := hown
  have hinX11 : ∀ w ∈ wsX110, w ∈ wsX11_isWholeAbove := fun _ h => List.mem_cons_of_mem _ (inWX110 _ h)
  have w_1 := hts (Cond.fieldLink RX11 7 "SheetNamesModel" "cutRows" "[I") (List.mem_cons_of_mem _ t_w924)
  have w_2 := hts (Cond.fieldLink RX11 13 "SheetNamesModel" "cutColumns" "[I") (List.mem_cons_of_mem _ t_w923)
  unfold f_M_isWholeAbove at hf
  have hgo : ∀ (H : Heap) (locs : List Loc), H = s.heap → va_P D vwCl ((a_m, .inr (11, (.ref a_m_cutRows :: .ref a_m_cutColumns :: .ref a_m_deep :: .ref a_m_wide :: .ref a_m_zonesAhead :: .ref a_m_nameOne :: .ref a_m_nameOther :: .ref a_m_tape :: .int m_taped :: .int m_place :: .int m_fault :: .int m_number :: .int m_levelRead :: .int m_keyRead :: .int m_reads :: .int m_faults :: .int m_cutShort :: .int m_noNumber :: .long m_bottomLat :: .long m_bottomLon :: .ref a_m_edges :: .int m_firstBeside :: .int m_manyBeside :: .ref a_m_dist :: .ref a_m_queue :: .int m_queued :: .int m_boxLevel :: .int m_boxTop :: .int m_boxBottom :: .int m_boxWest :: .int m_boxEast :: .int m_isEarly :: .int m_pieces :: .int m_states :: .ref a_m_pieceLevel :: .ref a_m_pieceKey :: .ref a_m_pieceYear :: .int m_drawnNow :: .ref a_m_drawnKeys :: .ref a_m_kept :: .int m_keptAt :: .ref a_m_noNumbers :: []))) :: (a_m_cutRows, .inl (ci 0, 5, .inl m_cutRows)) :: (a_m_cutColumns, .inl (ci 0, 5, .inl m_cutColumns)) :: (a_m_deep, .inl (ci 0, 5, .inl m_deep)) :: (a_m_wide, .inl (ci 0, 5, .inl m_wide)) :: Rw) H → va_S A s.heap H locs → W p l e ({ frames := 5, cells := 0, slots := 0, locals := 118 } : Room) s m ([.ref a_m, .int p1, .int p2, .int p3] : List Value).toArray below meth c H locs 0 0 Q (F0 m 0 ls []) := by
    intro H locs hH hP hS
    subst hH
    refine lv_iload_n (pc := 0) hx hb dX11_isWholeAbove_0 rfl (lv_at hl 2 rfl) ?_
    refine q_if_eq (pc := 1) (tgt := 13) hx hb dX11_isWholeAbove_1 (by decide) rfl hf (fun hf => ?_) (fun hf => ?_)
    · refine lv_iconst (pc := 13) (v := 1) hx hb dX11_isWholeAbove_13 (by decide) ?_
      obtain rfl := Option.some.inj hf
      rw [hQ]
      exact q_zretr (pc := 14) hx hb hr rfl hlocks rfl hS dX11_isWholeAbove_14
    · refine lv_iload_n (pc := 4) hx hb dX11_isWholeAbove_4 rfl (lv_at hl 2 rfl) ?_
      refine lv_aload_n (pc := 5) hx hb dX11_isWholeAbove_5 rfl (lv_at hl 0 rfl) ?_
      refine lv_iload_n (pc := 6) hx hb dX11_isWholeAbove_6 rfl (lv_at hl 1 rfl) ?_
      obtain ⟨v1, hm7, hf⟩ := q_b1_e hf
      refine q_cVr (pc := 7) (As := [.int p1]) (rest := [.int p2]) (v0 := (some (.int v1))) ⟨hx, hb, hml, hown, hts⟩ hK hA hZ hP hD hS hl.1 [0, 3] 5 rfl ⟨rfl, rfl, rfl⟩ (c_M_lastRow l D ci A sa N (Rw) a_m a_m_cutRows a_m_cutColumns a_m_deep a_m_wide a_m_zonesAhead a_m_nameOne a_m_nameOther a_m_tape a_m_edges a_m_dist a_m_queue a_m_pieceLevel a_m_pieceKey a_m_pieceYear a_m_drawnKeys a_m_kept a_m_noNumbers m_taped m_place m_fault m_number m_levelRead m_keyRead m_reads m_faults m_cutShort m_noNumber m_bottomLat m_bottomLon m_firstBeside m_manyBeside m_queued m_boxLevel m_boxTop m_boxBottom m_boxWest m_boxEast m_isEarly m_pieces m_states m_drawnNow m_keptAt m_deep p1 v1 hm7) 0 rfl rfl (cwV 1 hts gX11_isWholeAbove_X11_lastRow rfl rfl rfl (by decide +kernel) ⟨Nat.le_of_ble_eq_true rfl, Nat.le_of_ble_eq_true rfl⟩) rfl rfl (Nat.le_of_ble_eq_true rfl) dX11_isWholeAbove_7 ⟨Nat.zero_le _, Nat.zero_le _⟩ (fun locs hS => ?_)
      refine q_icmp_ne (pc := 10) (tgt := 15) hx hb dX11_isWholeAbove_10 (by decide) rfl hf (fun hf => ?_) (fun hf => ?_)
      · refine lv_aload_n (pc := 15) hx hb dX11_isWholeAbove_15 rfl (lv_at hl 0 rfl) ?_
        refine lv_iload_n (pc := 16) hx hb dX11_isWholeAbove_16 rfl (lv_at hl 1 rfl) ?_
        refine lv_iconst (pc := 17) (v := 1) hx hb dX11_isWholeAbove_17 (by decide) ?_
        refine lv_isub (pc := 18) hx hb dX11_isWholeAbove_18 ?_
        refine lv_iconst (pc := 19) (v := 1) hx hb dX11_isWholeAbove_19 (by decide) ?_
        refine lv_iload_n (pc := 20) hx hb dX11_isWholeAbove_20 rfl (lv_at hl 2 rfl) ?_
        refine lv_iconst (pc := 21) (v := 1) hx hb dX11_isWholeAbove_21 (by decide) ?_
        refine lv_isub (pc := 22) hx hb dX11_isWholeAbove_22 ?_
        refine lv_aload_n (pc := 23) hx hb dX11_isWholeAbove_23 rfl (lv_at hl 0 rfl) ?_
        refine va_get (pc := 24) (D := D) (ci := 11) (v := .ref a_m_cutRows) (C := RX11) (T := TX11) (N := 42) hx hb hts hinX11 hown hK hP 0 rfl rfl 0 (by decide) w_1 (fun _ h9 => h9) rfl dX11_isWholeAbove_24 ?_
        refine lv_iload_n (pc := 27) hx hb dX11_isWholeAbove_27 rfl (lv_at hl 1 rfl) ?_
        refine q_iald (pc := 28) hx hb hK hP 1 0 hf rfl rfl dX11_isWholeAbove_28 (fun v2 hf => ?_)
        refine q_idiv (pc := 29) hx hb dX11_isWholeAbove_29 hf (fun v3 hf => ?_)
        refine lv_iadd (pc := 30) hx hb dX11_isWholeAbove_30 ?_
        refine lv_iload_n (pc := 31) hx hb dX11_isWholeAbove_31 rfl (lv_at hl 3 rfl) ?_
        refine lv_aload_n (pc := 32) hx hb dX11_isWholeAbove_32 rfl (lv_at hl 0 rfl) ?_
        refine va_get (pc := 33) (D := D) (ci := 11) (v := .ref a_m_cutColumns) (C := RX11) (T := TX11) (N := 42) hx hb hts hinX11 hown hK hP 0 rfl rfl 1 (by decide) w_2 (fun _ h9 => h9) rfl dX11_isWholeAbove_33 ?_
        refine lv_iload_n (pc := 36) hx hb dX11_isWholeAbove_36 rfl (lv_at hl 1 rfl) ?_
        refine q_iald (pc := 37) hx hb hK hP 2 0 hf rfl rfl dX11_isWholeAbove_37 (fun v4 hf => ?_)
        refine q_idiv (pc := 38) hx hb dX11_isWholeAbove_38 hf (fun v5 hf => ?_)
        obtain ⟨v6, hm39, hf⟩ := q_b1_e hf
        refine q_cVr (pc := 39) (As := [.int (p1 - 1), .int (1 + v3), .int v5]) (rest := []) (v0 := (some (.int v6))) ⟨hx, hb, hml, hown, hts⟩ hK hA hZ hP hD hS hl.1 [0, 3, 4] 5 rfl ⟨rfl, rfl, rfl⟩ (c_M_isWhole l D ci A sa N (Rw) a_m a_m_cutRows a_m_cutColumns a_m_deep a_m_wide a_m_zonesAhead a_m_nameOne a_m_nameOther a_m_tape a_m_edges a_m_dist a_m_queue a_m_pieceLevel a_m_pieceKey a_m_pieceYear a_m_drawnKeys a_m_kept a_m_noNumbers m_taped m_place m_fault m_number m_levelRead m_keyRead m_reads m_faults m_cutShort m_noNumber m_bottomLat m_bottomLon m_firstBeside m_manyBeside m_queued m_boxLevel m_boxTop m_boxBottom m_boxWest m_boxEast m_isEarly m_pieces m_states m_drawnNow m_keptAt m_deep m_wide (p1 - 1) (1 + v3) v5 v6 hm39) 0 rfl rfl (cwV 3 hts gX11_isWholeAbove_X11_isWhole rfl rfl rfl (by decide +kernel) ⟨Nat.le_of_ble_eq_true rfl, Nat.le_of_ble_eq_true rfl⟩) rfl rfl (Nat.le_of_ble_eq_true rfl) dX11_isWholeAbove_39 ⟨Nat.zero_le _, Nat.zero_le _⟩ (fun locs hS => ?_)
        obtain ⟨hn9, hf9, hf⟩ := q_bo_e hf
        obtain rfl := Option.some.inj hf
        rw [hQ]
        exact q_zretr (pc := 42) hx hb hr hn9 hlocks rfl hS dX11_isWholeAbove_42
      · refine lv_iconst (pc := 13) (v := 1) hx hb dX11_isWholeAbove_13 (by decide) ?_
        obtain rfl := Option.some.inj hf
        rw [hQ]
        exact q_zretr (pc := 14) hx hb hr rfl hlocks rfl hS dX11_isWholeAbove_14
  exact hgo _ _ rfl hP hS
/-! X11_covers -/
set_option maxRecDepth 100000 in
set_option maxHeartbeats 4000000 in
theorem c_M_covers (l : Launch) (D : va_G) (ci : Nat → ClassId) (A : Nat → Prop) (sa : Nat → Nat) (N : Nat) (Rw : va_W) (a_m : Nat) (a_m_cutRows : Nat) (a_m_cutColumns : Nat) (a_m_deep : Nat) (a_m_wide : Nat) (a_m_zonesAhead : Nat) (a_m_nameOne : Nat) (a_m_nameOther : Nat) (a_m_tape : Nat) (a_m_edges : Nat) (a_m_dist : Nat) (a_m_queue : Nat) (a_m_pieceLevel : Nat) (a_m_pieceKey : Nat) (a_m_pieceYear : Nat) (a_m_drawnKeys : Nat) (a_m_kept : Nat) (a_m_noNumbers : Nat) (m_taped : Int32) (m_place : Int32) (m_fault : Int32) (m_number : Int32) (m_levelRead : Int32) (m_keyRead : Int32) (m_reads : Int32) (m_faults : Int32) (m_cutShort : Int32) (m_noNumber : Int32) (m_bottomLat : Int64) (m_bottomLon : Int64) (m_firstBeside : Int32) (m_manyBeside : Int32) (m_queued : Int32) (m_boxLevel : Int32) (m_boxTop : Int32) (m_boxBottom : Int32) (m_boxWest : Int32) (m_boxEast : Int32) (m_isEarly : Int32) (m_pieces : Int32) (m_states : Int32) (m_drawnNow : Int32) (m_keptAt : Int32) (m_cutRows : Nat → Int32) (m_cutColumns : Nat → Int32) (m_deep : Nat → Int32) (m_wide : Nat → Int32) (m_zonesAhead : Nat → Int32) (p1 : Int32) (r : Int32) (hf : f_M_covers N m_cutRows m_cutColumns m_deep m_wide m_zonesAhead m_boxLevel m_boxTop m_boxBottom m_boxWest m_boxEast p1 = some r) : Met l yX11_covers wsX11_covers ({ frames := 6, cells := 0, slots := 0, locals := 141 }) (va_Pc [.ref a_m, .int p1] (q_N D ci A sa ((a_m, .inr (11, (.ref a_m_cutRows :: .ref a_m_cutColumns :: .ref a_m_deep :: .ref a_m_wide :: .ref a_m_zonesAhead :: .ref a_m_nameOne :: .ref a_m_nameOther :: .ref a_m_tape :: .int m_taped :: .int m_place :: .int m_fault :: .int m_number :: .int m_levelRead :: .int m_keyRead :: .int m_reads :: .int m_faults :: .int m_cutShort :: .int m_noNumber :: .long m_bottomLat :: .long m_bottomLon :: .ref a_m_edges :: .int m_firstBeside :: .int m_manyBeside :: .ref a_m_dist :: .ref a_m_queue :: .int m_queued :: .int m_boxLevel :: .int m_boxTop :: .int m_boxBottom :: .int m_boxWest :: .int m_boxEast :: .int m_isEarly :: .int m_pieces :: .int m_states :: .ref a_m_pieceLevel :: .ref a_m_pieceKey :: .ref a_m_pieceYear :: .int m_drawnNow :: .ref a_m_drawnKeys :: .ref a_m_kept :: .int m_keptAt :: .ref a_m_noNumbers :: []))) :: (a_m_cutRows, .inl (ci 0, 5, .inl m_cutRows)) :: (a_m_cutColumns, .inl (ci 0, 5, .inl m_cutColumns)) :: (a_m_deep, .inl (ci 0, 5, .inl m_deep)) :: (a_m_wide, .inl (ci 0, 5, .inl m_wide)) :: (a_m_zonesAhead, .inl (ci 0, 45, .inl m_zonesAhead)) :: Rw))) (q_R (some (.int r))) 0 0 A := by
  refine q_ofW (cc := cX11_covers) (maxL := 13) (ret := (some .int)) [.ref a_m, .int p1] (plainFor_of_name (by decide)) rfl (Nat.le_of_ble_eq_true rfl) ?_
  intro p e s m below meth c ls Q hQ hx hb hml hr hts hown hlocks hK hA hZ hP hD hS hl
  have hl : lv_has ls 13 [(0, .ref a_m), (1, .int p1)] := hl
  have hown : s.vm.findClass RX11 = some m.cls := hown
  have hinX11 : ∀ w ∈ wsX110, w ∈ wsX11_covers := fun _ h => List.mem_cons_of_mem _ (inWX110 _ h)
  have w_1 := hts (Cond.fieldLink RX11 298 "SheetNamesModel" "boxLevel" "I") (List.mem_cons_of_mem _ t_w948)
  have w_2 := hts (Cond.fieldLink RX11 301 "SheetNamesModel" "boxTop" "I") (List.mem_cons_of_mem _ t_w949)
  have w_3 := hts (Cond.fieldLink RX11 16 "SheetNamesModel" "deep" "[I") (List.mem_cons_of_mem _ t_w908)
  have w_4 := hts (Cond.fieldLink RX11 304 "SheetNamesModel" "boxBottom" "I") (List.mem_cons_of_mem _ t_w950)
  have w_5 := hts (Cond.fieldLink RX11 307 "SheetNamesModel" "boxWest" "I") (List.mem_cons_of_mem _ t_w951)
  have w_6 := hts (Cond.fieldLink RX11 310 "SheetNamesModel" "boxEast" "I") (List.mem_cons_of_mem _ t_w952)
  have w_7 := hts (Cond.constant RX11 341 (100000000)) (List.mem_cons_of_mem _ t_w974)
  unfold f_M_covers at hf
  have hgo : ∀ (H : Heap) (locs : List Loc), H = s.heap → va_P D vwCl ((a_m, .inr (11, (.ref a_m_cutRows :: .ref a_m_cutColumns :: .ref a_m_deep :: .ref a_m_wide :: .ref a_m_zonesAhead :: .ref a_m_nameOne :: .ref a_m_nameOther :: .ref a_m_tape :: .int m_taped :: .int m_place :: .int m_fault :: .int m_number :: .int m_levelRead :: .int m_keyRead :: .int m_reads :: .int m_faults :: .int m_cutShort :: .int m_noNumber :: .long m_bottomLat :: .long m_bottomLon :: .ref a_m_edges :: .int m_firstBeside :: .int m_manyBeside :: .ref a_m_dist :: .ref a_m_queue :: .int m_queued :: .int m_boxLevel :: .int m_boxTop :: .int m_boxBottom :: .int m_boxWest :: .int m_boxEast :: .int m_isEarly :: .int m_pieces :: .int m_states :: .ref a_m_pieceLevel :: .ref a_m_pieceKey :: .ref a_m_pieceYear :: .int m_drawnNow :: .ref a_m_drawnKeys :: .ref a_m_kept :: .int m_keptAt :: .ref a_m_noNumbers :: []))) :: (a_m_cutRows, .inl (ci 0, 5, .inl m_cutRows)) :: (a_m_cutColumns, .inl (ci 0, 5, .inl m_cutColumns)) :: (a_m_deep, .inl (ci 0, 5, .inl m_deep)) :: (a_m_wide, .inl (ci 0, 5, .inl m_wide)) :: (a_m_zonesAhead, .inl (ci 0, 45, .inl m_zonesAhead)) :: Rw) H → va_S A s.heap H locs → W p l e ({ frames := 6, cells := 0, slots := 0, locals := 141 } : Room) s m ([.ref a_m, .int p1] : List Value).toArray below meth c H locs 0 0 Q (F0 m 0 ls []) := by
    intro H locs hH hP hS
    subst hH
    refine lv_iconst (pc := 0) (v := 0) hx hb dX11_covers_0 (by decide) ?_
    obtain ⟨v1, ev1, hf⟩ := q_nm_e hf
    refine q_topi ev1 ?_
    refine lv_istore_n (pc := 1) (lv' := [(2, .int v1), (0, .ref a_m), (1, .int p1)]) hx hb dX11_covers_1 rfl hl (by decide) rfl (fun ls hl => ?_)
    refine lv_iconst (pc := 2) (v := 0) hx hb dX11_covers_2 (by decide) ?_
    obtain ⟨v2, ev2, hf⟩ := q_nm_e hf
    refine q_topi ev2 ?_
    refine lv_istore_n (pc := 3) (lv' := [(3, .int v2), (2, .int v1), (0, .ref a_m), (1, .int p1)]) hx hb dX11_covers_3 rfl hl (by decide) rfl (fun ls hl => ?_)
    obtain ⟨k4, o4_, ek4, hm4, hk4⟩ := q_s1_k hf
    have JE4 : ∀ (v5 : Int32) (H : Heap) (locs : List Loc) (ls : Array Slot), k4 v5 = some r → H = s.heap → va_S A s.heap H locs → lv_has ls 13 [(1, .int p1), (2, .int v5)] → W p l e ({ frames := 6, cells := 0, slots := 0, locals := 141 } : Room) s m ([.ref a_m, .int p1] : List Value).toArray below meth c H locs 0 0 Q (F0 m 325 ls []) := by
      intro v5 H locs ls hf hHs hS hl
      subst hHs
      have hf := (ek4 v5).symm.trans hf
      refine lv_iload_n (pc := 325) hx hb dX11_covers_325 rfl (lv_at hl 0 rfl) ?_
      refine lv_iconst (pc := 326) (v := (-1)) hx hb dX11_covers_326 (by decide) ?_
      refine q_icmp_ne (pc := 327) (tgt := 334) hx hb dX11_covers_327 (by decide) rfl hf (fun hf => ?_) (fun hf => ?_)
      · refine lv_bipush (pc := 334) (v := (-3)) hx hb dX11_covers_334 (by decide) ?_
        obtain rfl := Option.some.inj hf
        rw [hQ]
        exact q_iretr (pc := 336) hx hb hr hlocks rfl hS dX11_covers_336
      · refine lv_iload_n (pc := 330) hx hb dX11_covers_330 rfl (lv_at hl 1 rfl) ?_
        refine lv_goto (pc := 331) (tgt := 336) hx hb dX11_covers_331 (by decide) ?_
        obtain rfl := Option.some.inj hf
        rw [hQ]
        exact q_iretr (pc := 336) hx hb hr hlocks rfl hS dX11_covers_336
    have LP4 : ∀ (n4 : Nat) (v3 : Int32) (v4 : Int32) (H : Heap) (locs : List Loc) (ls : Array Slot), f_M_covers_L4 N m_boxBottom m_boxEast m_boxLevel m_boxTop m_boxWest m_cutColumns m_cutRows m_deep m_wide m_zonesAhead p1 n4 v3 v4 = some o4_ → H = s.heap → va_S A s.heap H locs → lv_has ls 13 [(0, .ref a_m), (1, .int p1), (2, .int v3), (3, .int v4)] → W p l e ({ frames := 6, cells := 0, slots := 0, locals := 141 } : Room) s m ([.ref a_m, .int p1] : List Value).toArray below meth c H locs 0 0 Q (F0 m 4 ls []) := by
      intro n4
      induction n4 with
      | zero => intro v3 v4 H locs ls hf; rw [f_M_covers_L4] at hf; cases hf
      | succ n4 ih4 =>
        intro v3 v4 H locs ls hf hHs hS hl
        subst hHs
        rw [f_M_covers_L4] at hf
        refine lv_iload_n (pc := 4) hx hb dX11_covers_4 rfl (lv_at hl 3 rfl) ?_
        refine lv_aload_n (pc := 5) hx hb dX11_covers_5 rfl (lv_at hl 0 rfl) ?_
        refine va_get (pc := 6) (D := D) (ci := 11) (v := .int m_boxLevel) (C := RX11) (T := TX11) (N := 42) hx hb hts hinX11 hown hK hP 0 rfl rfl 26 (by decide) w_1 (fun _ h9 => h9) rfl dX11_covers_6 ?_
        refine q_icmp_gt (pc := 9) (tgt := 325) hx hb dX11_covers_9 (by decide) rfl hf (fun hf => ?_) (fun hf => ?_)
        · obtain rfl := Option.some.inj hf
          exact JE4 v3 _ _ _ hk4 rfl hS (lv_sub hl [1, 2] rfl)
        · refine lv_aload_n (pc := 12) hx hb dX11_covers_12 rfl (lv_at hl 0 rfl) ?_
          refine va_get (pc := 13) (D := D) (ci := 11) (v := .int m_boxTop) (C := RX11) (T := TX11) (N := 42) hx hb hts hinX11 hown hK hP 0 rfl rfl 27 (by decide) w_2 (fun _ h9 => h9) rfl dX11_covers_13 ?_
          obtain ⟨k48, ek48, hf⟩ := q_j1_e hf
          have J48 : ∀ (v6 : Int32) (H : Heap) (locs : List Loc) (ls : Array Slot), k48 v6 = some o4_ → H = s.heap → va_S A s.heap H locs → lv_has ls 13 [(0, .ref a_m), (1, .int p1), (2, .int v3), (3, .int v4)] → W p l e ({ frames := 6, cells := 0, slots := 0, locals := 141 } : Room) s m ([.ref a_m, .int p1] : List Value).toArray below meth c H locs 0 0 Q (F0 m 48 ls [.int v6]) := by
            intro v6 H locs ls hf hHs hS hl
            subst hHs
            have hf := (ek48 v6).symm.trans hf
            refine lv_istore (pc := 48) (lv' := [(4, .int v6), (0, .ref a_m), (1, .int p1), (2, .int v3), (3, .int v4)]) hx hb dX11_covers_48 hl (by decide) rfl (fun ls hl => ?_)
            refine lv_aload_n (pc := 50) hx hb dX11_covers_50 rfl (lv_at hl 1 rfl) ?_
            refine va_get (pc := 51) (D := D) (ci := 11) (v := .int m_boxBottom) (C := RX11) (T := TX11) (N := 42) hx hb hts hinX11 hown hK hP 0 rfl rfl 28 (by decide) w_4 (fun _ h9 => h9) rfl dX11_covers_51 ?_
            obtain ⟨k109, ek109, hf⟩ := q_j1_e hf
            have J109 : ∀ (v7 : Int32) (H : Heap) (locs : List Loc) (ls : Array Slot), k109 v7 = some o4_ → H = s.heap → va_S A s.heap H locs → lv_has ls 13 [(0, .ref a_m), (1, .int p1), (2, .int v3), (3, .int v4), (4, .int v6)] → W p l e ({ frames := 6, cells := 0, slots := 0, locals := 141 } : Room) s m ([.ref a_m, .int p1] : List Value).toArray below meth c H locs 0 0 Q (F0 m 109 ls [.int v7]) := by
              intro v7 H locs ls hf hHs hS hl
              subst hHs
              have hf := (ek109 v7).symm.trans hf
              refine lv_istore (pc := 109) (lv' := [(5, .int v7), (0, .ref a_m), (1, .int p1), (2, .int v3), (3, .int v4), (4, .int v6)]) hx hb dX11_covers_109 hl (by decide) rfl (fun ls hl => ?_)
              refine lv_aload_n (pc := 111) hx hb dX11_covers_111 rfl (lv_at hl 1 rfl) ?_
              refine va_get (pc := 112) (D := D) (ci := 11) (v := .int m_boxTop) (C := RX11) (T := TX11) (N := 42) hx hb hts hinX11 hown hK hP 0 rfl rfl 27 (by decide) w_2 (fun _ h9 => h9) rfl dX11_covers_112 ?_
              refine lv_aload_n (pc := 115) hx hb dX11_covers_115 rfl (lv_at hl 1 rfl) ?_
              refine lv_aload_n (pc := 116) hx hb dX11_covers_116 rfl (lv_at hl 1 rfl) ?_
              refine va_get (pc := 117) (D := D) (ci := 11) (v := .int m_boxLevel) (C := RX11) (T := TX11) (N := 42) hx hb hts hinX11 hown hK hP 0 rfl rfl 26 (by decide) w_1 (fun _ h9 => h9) rfl dX11_covers_117 ?_
              obtain ⟨v8, hm120, hf⟩ := q_b1_e hf
              refine q_cVr (pc := 120) (As := [.int m_boxLevel]) (rest := [.int m_boxTop]) (v0 := (some (.int v8))) ⟨hx, hb, hml, hown, hts⟩ hK hA hZ hP hD hS hl.1 [0, 3] 6 rfl ⟨rfl, rfl, rfl⟩ (c_M_lastRow l D ci A sa N (Rw) a_m a_m_cutRows a_m_cutColumns a_m_deep a_m_wide a_m_zonesAhead a_m_nameOne a_m_nameOther a_m_tape a_m_edges a_m_dist a_m_queue a_m_pieceLevel a_m_pieceKey a_m_pieceYear a_m_drawnKeys a_m_kept a_m_noNumbers m_taped m_place m_fault m_number m_levelRead m_keyRead m_reads m_faults m_cutShort m_noNumber m_bottomLat m_bottomLon m_firstBeside m_manyBeside m_queued m_boxLevel m_boxTop m_boxBottom m_boxWest m_boxEast m_isEarly m_pieces m_states m_drawnNow m_keptAt m_deep m_boxLevel v8 hm120) 0 rfl rfl (cwV 1 hts gX11_covers_X11_lastRow rfl rfl rfl (by decide +kernel) ⟨Nat.le_of_ble_eq_true rfl, Nat.le_of_ble_eq_true rfl⟩) rfl rfl (Nat.le_of_ble_eq_true rfl) dX11_covers_120 ⟨Nat.zero_le _, Nat.zero_le _⟩ (fun locs hS => ?_)
              obtain ⟨k133, ek133, hf⟩ := q_j1_e hf
              have J133 : ∀ (v9 : Int32) (H : Heap) (locs : List Loc) (ls : Array Slot), k133 v9 = some o4_ → H = s.heap → va_S A s.heap H locs → lv_has ls 13 [(0, .ref a_m), (1, .int p1), (2, .int v3), (3, .int v4), (4, .int v9), (5, .int v7)] → W p l e ({ frames := 6, cells := 0, slots := 0, locals := 141 } : Room) s m ([.ref a_m, .int p1] : List Value).toArray below meth c H locs 0 0 Q (F0 m 133 ls []) := by
                intro v9 H locs ls hf hHs hS hl
                subst hHs
                have hf := (ek133 v9).symm.trans hf
                refine lv_iload (pc := 133) hx hb dX11_covers_133 (lv_at hl 4 rfl) ?_
                refine lv_istore (pc := 135) (lv' := [(6, .int v9), (0, .ref a_m), (1, .int p1), (2, .int v3), (3, .int v4), (4, .int v9), (5, .int v7)]) hx hb dX11_covers_135 hl (by decide) rfl (fun ls hl => ?_)
                obtain ⟨k137, o137_, ek137, hm137, hk137⟩ := q_s1_k hf
                have JE137 : ∀ (v12 : Int32) (H : Heap) (locs : List Loc) (ls : Array Slot), k137 v12 = some o4_ → H = s.heap → va_S A s.heap H locs → lv_has ls 13 [(0, .ref a_m), (1, .int p1), (2, .int v12), (3, .int v4)] → W p l e ({ frames := 6, cells := 0, slots := 0, locals := 141 } : Room) s m ([.ref a_m, .int p1] : List Value).toArray below meth c H locs 0 0 Q (F0 m 319 ls []) := by
                  intro v12 H locs ls hf hHs hS hl
                  subst hHs
                  have hf := (ek137 v12).symm.trans hf
                  obtain ⟨v13, ev13, hf⟩ := q_nm_e hf
                  refine lv_iinc (pc := 319) (v := v13) (lv' := [(3, .int v13), (0, .ref a_m), (1, .int p1), (2, .int v12)]) hx hb dX11_covers_319 hl (k := 3) rfl (by rw [ev13]; rfl) (by decide) rfl (fun ls hl => ?_)
                  refine lv_goto (pc := 322) (tgt := 4) hx hb dX11_covers_322 (by decide) ?_
                  exact ih4 v12 v13 _ _ _ hf rfl hS (lv_sub hl [1, 2, 3, 0] rfl)
                have LP137 : ∀ (n137 : Nat) (v10 : Int32) (v11 : Int32) (H : Heap) (locs : List Loc) (ls : Array Slot), f_M_covers_L137 N m_boxBottom m_boxEast m_boxLevel m_boxTop m_boxWest m_cutColumns m_cutRows m_deep m_wide m_zonesAhead p1 v4 v7 n137 v10 v11 = some o137_ → H = s.heap → va_S A s.heap H locs → lv_has ls 13 [(0, .ref a_m), (1, .int p1), (2, .int v10), (3, .int v4), (5, .int v7), (6, .int v11)] → W p l e ({ frames := 6, cells := 0, slots := 0, locals := 141 } : Room) s m ([.ref a_m, .int p1] : List Value).toArray below meth c H locs 0 0 Q (F0 m 137 ls []) := by
                  intro n137
                  induction n137 with
                  | zero => intro v10 v11 H locs ls hf; rw [f_M_covers_L137] at hf; cases hf
                  | succ n137 ih137 =>
                    intro v10 v11 H locs ls hf hHs hS hl
                    subst hHs
                    rw [f_M_covers_L137] at hf
                    refine lv_iload (pc := 137) hx hb dX11_covers_137 (lv_at hl 5 rfl) ?_
                    refine lv_iload (pc := 139) hx hb dX11_covers_139 (lv_at hl 4 rfl) ?_
                    refine q_icmp_gt (pc := 141) (tgt := 319) hx hb dX11_covers_141 (by decide) rfl hf (fun hf => ?_) (fun hf => ?_)
                    · obtain rfl := Option.some.inj hf
                      exact JE137 v10 _ _ _ hk137 rfl hS (lv_sub hl [0, 1, 2, 3] rfl)
                    · refine lv_aload_n (pc := 144) hx hb dX11_covers_144 rfl (lv_at hl 0 rfl) ?_
                      refine lv_iload_n (pc := 145) hx hb dX11_covers_145 rfl (lv_at hl 3 rfl) ?_
                      refine lv_iload (pc := 146) hx hb dX11_covers_146 (lv_at hl 5 rfl) ?_
                      obtain ⟨v14, hm148, hf⟩ := q_b1_e hf
                      refine q_cVr (pc := 148) (As := [.int v4, .int v11]) (rest := []) (v0 := (some (.int v14))) ⟨hx, hb, hml, hown, hts⟩ hK hA hZ hP hD hS hl.1 [0, 3, 4] 6 rfl ⟨rfl, rfl, rfl⟩ (c_M_many l D ci A sa N (Rw) a_m a_m_cutRows a_m_cutColumns a_m_deep a_m_wide a_m_zonesAhead a_m_nameOne a_m_nameOther a_m_tape a_m_edges a_m_dist a_m_queue a_m_pieceLevel a_m_pieceKey a_m_pieceYear a_m_drawnKeys a_m_kept a_m_noNumbers m_taped m_place m_fault m_number m_levelRead m_keyRead m_reads m_faults m_cutShort m_noNumber m_bottomLat m_bottomLon m_firstBeside m_manyBeside m_queued m_boxLevel m_boxTop m_boxBottom m_boxWest m_boxEast m_isEarly m_pieces m_states m_drawnNow m_keptAt m_deep m_wide v4 v11 v14 hm148) 0 rfl rfl (cwV 2 hts gX11_covers_X11_many rfl rfl rfl (by decide +kernel) ⟨Nat.le_of_ble_eq_true rfl, Nat.le_of_ble_eq_true rfl⟩) rfl rfl (Nat.le_of_ble_eq_true rfl) dX11_covers_148 ⟨Nat.zero_le _, Nat.zero_le _⟩ (fun locs hS => ?_)
                      refine lv_istore (pc := 151) (lv' := [(7, .int v14), (0, .ref a_m), (1, .int p1), (2, .int v10), (3, .int v4), (5, .int v7), (6, .int v11)]) hx hb dX11_covers_151 hl (by decide) rfl (fun ls hl => ?_)
                      refine lv_aload_n (pc := 153) hx hb dX11_covers_153 rfl (lv_at hl 1 rfl) ?_
                      refine lv_aload_n (pc := 154) hx hb dX11_covers_154 rfl (lv_at hl 1 rfl) ?_
                      refine va_get (pc := 155) (D := D) (ci := 11) (v := .int m_boxWest) (C := RX11) (T := TX11) (N := 42) hx hb hts hinX11 hown hK hP 0 rfl rfl 29 (by decide) w_5 (fun _ h9 => h9) rfl dX11_covers_155 ?_
                      refine lv_iload (pc := 158) hx hb dX11_covers_158 (lv_at hl 0 rfl) ?_
                      obtain ⟨v15, hm160, hf⟩ := q_b1_e hf
                      refine q_cVr (pc := 160) (As := [.int m_boxWest, .int v14]) (rest := []) (v0 := (some (.int v15))) ⟨hx, hb, hml, hown, hts⟩ hK hA hZ hP hD hS hl.1 [0] 6 rfl ⟨rfl, rfl, rfl⟩ (c_M_placeAt l D ci A sa N (Rw) a_m a_m_cutRows a_m_cutColumns a_m_deep a_m_wide a_m_zonesAhead a_m_nameOne a_m_nameOther a_m_tape a_m_edges a_m_dist a_m_queue a_m_pieceLevel a_m_pieceKey a_m_pieceYear a_m_drawnKeys a_m_kept a_m_noNumbers m_taped m_place m_fault m_number m_levelRead m_keyRead m_reads m_faults m_cutShort m_noNumber m_bottomLat m_bottomLon m_firstBeside m_manyBeside m_queued m_boxLevel m_boxTop m_boxBottom m_boxWest m_boxEast m_isEarly m_pieces m_states m_drawnNow m_keptAt m_boxWest v14 v15 hm160) 0 rfl rfl (cwV 2 hts gX11_covers_X11_placeAt rfl rfl rfl (by decide +kernel) ⟨Nat.le_of_ble_eq_true rfl, Nat.le_of_ble_eq_true rfl⟩) rfl rfl (Nat.le_of_ble_eq_true rfl) dX11_covers_160 ⟨Nat.zero_le _, Nat.zero_le _⟩ (fun locs hS => ?_)
                      refine lv_istore (pc := 163) (lv' := [(8, .int v15), (7, .int v14), (0, .ref a_m), (1, .int p1), (2, .int v10), (3, .int v4), (5, .int v7), (6, .int v11)]) hx hb dX11_covers_163 hl (by decide) rfl (fun ls hl => ?_)
                      refine lv_aload_n (pc := 165) hx hb dX11_covers_165 rfl (lv_at hl 2 rfl) ?_
                      refine lv_aload_n (pc := 166) hx hb dX11_covers_166 rfl (lv_at hl 2 rfl) ?_
                      refine va_get (pc := 167) (D := D) (ci := 11) (v := .int m_boxEast) (C := RX11) (T := TX11) (N := 42) hx hb hts hinX11 hown hK hP 0 rfl rfl 30 (by decide) w_6 (fun _ h9 => h9) rfl dX11_covers_167 ?_
                      refine lv_iload (pc := 170) hx hb dX11_covers_170 (lv_at hl 1 rfl) ?_
                      obtain ⟨v16, hm172, hf⟩ := q_b1_e hf
                      refine q_cVr (pc := 172) (As := [.int m_boxEast, .int v14]) (rest := []) (v0 := (some (.int v16))) ⟨hx, hb, hml, hown, hts⟩ hK hA hZ hP hD hS hl.1 [0] 6 rfl ⟨rfl, rfl, rfl⟩ (c_M_placeAt l D ci A sa N (Rw) a_m a_m_cutRows a_m_cutColumns a_m_deep a_m_wide a_m_zonesAhead a_m_nameOne a_m_nameOther a_m_tape a_m_edges a_m_dist a_m_queue a_m_pieceLevel a_m_pieceKey a_m_pieceYear a_m_drawnKeys a_m_kept a_m_noNumbers m_taped m_place m_fault m_number m_levelRead m_keyRead m_reads m_faults m_cutShort m_noNumber m_bottomLat m_bottomLon m_firstBeside m_manyBeside m_queued m_boxLevel m_boxTop m_boxBottom m_boxWest m_boxEast m_isEarly m_pieces m_states m_drawnNow m_keptAt m_boxEast v14 v16 hm172) 0 rfl rfl (cwV 2 hts gX11_covers_X11_placeAt rfl rfl rfl (by decide +kernel) ⟨Nat.le_of_ble_eq_true rfl, Nat.le_of_ble_eq_true rfl⟩) rfl rfl (Nat.le_of_ble_eq_true rfl) dX11_covers_172 ⟨Nat.zero_le _, Nat.zero_le _⟩ (fun locs hS => ?_)
                      refine lv_istore (pc := 175) (lv' := [(9, .int v16), (8, .int v15), (7, .int v14), (0, .ref a_m), (1, .int p1), (2, .int v10), (3, .int v4), (5, .int v7), (6, .int v11)]) hx hb dX11_covers_175 hl (by decide) rfl (fun ls hl => ?_)
                      refine lv_aload_n (pc := 177) hx hb dX11_covers_177 rfl (lv_at hl 3 rfl) ?_
                      refine va_get (pc := 178) (D := D) (ci := 11) (v := .int m_boxWest) (C := RX11) (T := TX11) (N := 42) hx hb hts hinX11 hown hK hP 0 rfl rfl 29 (by decide) w_5 (fun _ h9 => h9) rfl dX11_covers_178 ?_
                      refine lv_aload_n (pc := 181) hx hb dX11_covers_181 rfl (lv_at hl 3 rfl) ?_
                      refine va_get (pc := 182) (D := D) (ci := 11) (v := .int m_boxEast) (C := RX11) (T := TX11) (N := 42) hx hb hts hinX11 hown hK hP 0 rfl rfl 30 (by decide) w_6 (fun _ h9 => h9) rfl dX11_covers_182 ?_
                      obtain ⟨k193, ek193, hf⟩ := q_j1_e hf
                      have J193 : ∀ (v17 : Int32) (H : Heap) (locs : List Loc) (ls : Array Slot), k193 v17 = some o137_ → H = s.heap → va_S A s.heap H locs → lv_has ls 13 [(0, .ref a_m), (1, .int p1), (2, .int v10), (3, .int v4), (5, .int v7), (6, .int v11), (7, .int v14), (8, .int v15), (9, .int v16)] → W p l e ({ frames := 6, cells := 0, slots := 0, locals := 141 } : Room) s m ([.ref a_m, .int p1] : List Value).toArray below meth c H locs 0 0 Q (F0 m 193 ls [.int v17]) := by
                        intro v17 H locs ls hf hHs hS hl
                        subst hHs
                        have hf := (ek193 v17).symm.trans hf
                        refine lv_istore (pc := 193) (lv' := [(10, .int v17), (0, .ref a_m), (1, .int p1), (2, .int v10), (3, .int v4), (5, .int v7), (6, .int v11), (7, .int v14), (8, .int v15), (9, .int v16)]) hx hb dX11_covers_193 hl (by decide) rfl (fun ls hl => ?_)
                        refine lv_iconst (pc := 195) (v := 0) hx hb dX11_covers_195 (by decide) ?_
                        obtain ⟨v18, ev18, hf⟩ := q_nm_e hf
                        refine q_topi ev18 ?_
                        refine lv_istore (pc := 196) (lv' := [(11, .int v18), (10, .int v17), (0, .ref a_m), (1, .int p1), (2, .int v10), (3, .int v4), (5, .int v7), (6, .int v11), (7, .int v14), (8, .int v15), (9, .int v16)]) hx hb dX11_covers_196 hl (by decide) rfl (fun ls hl => ?_)
                        obtain ⟨k198, o198_, ek198, hm198, hk198⟩ := q_s1_k hf
                        have JE198 : ∀ (v21 : Int32) (H : Heap) (locs : List Loc) (ls : Array Slot), k198 v21 = some o137_ → H = s.heap → va_S A s.heap H locs → lv_has ls 13 [(0, .ref a_m), (1, .int p1), (2, .int v21), (3, .int v4), (5, .int v7), (6, .int v11)] → W p l e ({ frames := 6, cells := 0, slots := 0, locals := 141 } : Room) s m ([.ref a_m, .int p1] : List Value).toArray below meth c H locs 0 0 Q (F0 m 313 ls []) := by
                          intro v21 H locs ls hf hHs hS hl
                          subst hHs
                          have hf := (ek198 v21).symm.trans hf
                          obtain ⟨v22, ev22, hf⟩ := q_nm_e hf
                          refine lv_iinc (pc := 313) (v := v22) (lv' := [(6, .int v22), (0, .ref a_m), (1, .int p1), (2, .int v21), (3, .int v4), (5, .int v7)]) hx hb dX11_covers_313 hl (k := 5) rfl (by rw [ev22]; rfl) (by decide) rfl (fun ls hl => ?_)
                          refine lv_goto (pc := 316) (tgt := 137) hx hb dX11_covers_316 (by decide) ?_
                          exact ih137 v21 v22 _ _ _ hf rfl hS (lv_sub hl [1, 2, 3, 4, 5, 0] rfl)
                        have LP198 : ∀ (n198 : Nat) (v19 : Int32) (v20 : Int32) (H : Heap) (locs : List Loc) (ls : Array Slot), f_M_covers_L198 m_boxBottom m_boxEast m_boxLevel m_boxTop m_boxWest m_cutColumns m_cutRows m_deep m_wide m_zonesAhead p1 v11 v14 v15 v16 v17 v4 n198 v19 v20 = some o198_ → H = s.heap → va_S A s.heap H locs → lv_has ls 13 [(0, .ref a_m), (1, .int p1), (2, .int v19), (3, .int v4), (5, .int v7), (6, .int v11), (7, .int v14), (8, .int v15), (9, .int v16), (10, .int v17), (11, .int v20)] → W p l e ({ frames := 6, cells := 0, slots := 0, locals := 141 } : Room) s m ([.ref a_m, .int p1] : List Value).toArray below meth c H locs 0 0 Q (F0 m 198 ls []) := by
                          intro n198
                          induction n198 with
                          | zero => intro v19 v20 H locs ls hf; rw [f_M_covers_L198] at hf; cases hf
                          | succ n198 ih198 =>
                            intro v19 v20 H locs ls hf hHs hS hl
                            subst hHs
                            rw [f_M_covers_L198] at hf
                            refine lv_iload (pc := 198) hx hb dX11_covers_198 (lv_at hl 10 rfl) ?_
                            refine lv_iload (pc := 200) hx hb dX11_covers_200 (lv_at hl 6 rfl) ?_
                            refine q_icmp_ge (pc := 202) (tgt := 313) hx hb dX11_covers_202 (by decide) rfl hf (fun hf => ?_) (fun hf => ?_)
                            · obtain rfl := Option.some.inj hf
                              exact JE198 v19 _ _ _ hk198 rfl hS (lv_sub hl [0, 1, 2, 3, 4, 5] rfl)
                            · refine lv_iload (pc := 205) hx hb dX11_covers_205 (lv_at hl 9 rfl) ?_
                              obtain ⟨k244, ek244, hf⟩ := q_j1_e hf
                              have J244 : ∀ (v23 : Int32) (H : Heap) (locs : List Loc) (ls : Array Slot), k244 v23 = some o198_ → H = s.heap → va_S A s.heap H locs → lv_has ls 13 [(0, .ref a_m), (1, .int p1), (2, .int v19), (3, .int v4), (5, .int v7), (6, .int v11), (7, .int v14), (8, .int v15), (9, .int v16), (10, .int v17), (11, .int v20)] → W p l e ({ frames := 6, cells := 0, slots := 0, locals := 141 } : Room) s m ([.ref a_m, .int p1] : List Value).toArray below meth c H locs 0 0 Q (F0 m 244 ls [.int v23]) := by
                                intro v23 H locs ls hf hHs hS hl
                                subst hHs
                                have hf := (ek244 v23).symm.trans hf
                                refine lv_istore (pc := 244) (lv' := [(12, .int v23), (0, .ref a_m), (1, .int p1), (2, .int v19), (3, .int v4), (5, .int v7), (6, .int v11), (7, .int v14), (8, .int v15), (9, .int v16), (10, .int v17), (11, .int v20)]) hx hb dX11_covers_244 hl (by decide) rfl (fun ls hl => ?_)
                                refine lv_iload (pc := 246) hx hb dX11_covers_246 (lv_at hl 0 rfl) ?_
                                obtain ⟨k307, ek307, hf⟩ := q_j1_e hf
                                have J307 : ∀ (v24 : Int32) (H : Heap) (locs : List Loc) (ls : Array Slot), k307 v24 = some o198_ → H = s.heap → va_S A s.heap H locs → lv_has ls 13 [(0, .ref a_m), (1, .int p1), (2, .int v24), (3, .int v4), (5, .int v7), (6, .int v11), (7, .int v14), (8, .int v15), (9, .int v16), (10, .int v17), (11, .int v20)] → W p l e ({ frames := 6, cells := 0, slots := 0, locals := 141 } : Room) s m ([.ref a_m, .int p1] : List Value).toArray below meth c H locs 0 0 Q (F0 m 307 ls []) := by
                                  intro v24 H locs ls hf hHs hS hl
                                  subst hHs
                                  have hf := (ek307 v24).symm.trans hf
                                  obtain ⟨v25, ev25, hf⟩ := q_nm_e hf
                                  refine lv_iinc (pc := 307) (v := v25) (lv' := [(11, .int v25), (0, .ref a_m), (1, .int p1), (2, .int v24), (3, .int v4), (5, .int v7), (6, .int v11), (7, .int v14), (8, .int v15), (9, .int v16), (10, .int v17)]) hx hb dX11_covers_307 hl (k := 10) rfl (by rw [ev25]; rfl) (by decide) rfl (fun ls hl => ?_)
                                  refine lv_goto (pc := 310) (tgt := 198) hx hb dX11_covers_310 (by decide) ?_
                                  exact ih198 v24 v25 _ _ _ hf rfl hS (lv_sub hl [1, 2, 3, 4, 5, 6, 7, 8, 9, 10, 0] rfl)
                                refine q_if_eq (pc := 248) (tgt := 307) hx hb dX11_covers_248 (by decide) rfl hf (fun hf => ?_) (fun hf => ?_)
                                · exact J307 v19 _ _ _ hf rfl hS (lv_sub hl [1, 2, 3, 4, 5, 6, 7, 8, 9, 10, 11] rfl)
                                · refine lv_aload_n (pc := 251) hx hb dX11_covers_251 rfl (lv_at hl 1 rfl) ?_
                                  refine lv_iload_n (pc := 252) hx hb dX11_covers_252 rfl (lv_at hl 4 rfl) ?_
                                  refine lv_iload (pc := 253) hx hb dX11_covers_253 (lv_at hl 6 rfl) ?_
                                  refine lv_iload (pc := 255) hx hb dX11_covers_255 (lv_at hl 11 rfl) ?_
                                  obtain ⟨v26, hm257, hf⟩ := q_b1_e hf
                                  refine q_cVr (pc := 257) (As := [.int v4, .int v11, .int v20]) (rest := []) (v0 := (some (.int v26))) ⟨hx, hb, hml, hown, hts⟩ hK hA hZ hP hD hS hl.1 [0, 3, 4] 6 rfl ⟨rfl, rfl, rfl⟩ (c_M_isWhole l D ci A sa N (Rw) a_m a_m_cutRows a_m_cutColumns a_m_deep a_m_wide a_m_zonesAhead a_m_nameOne a_m_nameOther a_m_tape a_m_edges a_m_dist a_m_queue a_m_pieceLevel a_m_pieceKey a_m_pieceYear a_m_drawnKeys a_m_kept a_m_noNumbers m_taped m_place m_fault m_number m_levelRead m_keyRead m_reads m_faults m_cutShort m_noNumber m_bottomLat m_bottomLon m_firstBeside m_manyBeside m_queued m_boxLevel m_boxTop m_boxBottom m_boxWest m_boxEast m_isEarly m_pieces m_states m_drawnNow m_keptAt m_deep m_wide v4 v11 v20 v26 hm257) 0 rfl rfl (cwV 3 hts gX11_covers_X11_isWhole rfl rfl rfl (by decide +kernel) ⟨Nat.le_of_ble_eq_true rfl, Nat.le_of_ble_eq_true rfl⟩) rfl rfl (Nat.le_of_ble_eq_true rfl) dX11_covers_257 ⟨Nat.zero_le _, Nat.zero_le _⟩ (fun locs hS => ?_)
                                  refine q_if_eq (pc := 260) (tgt := 307) hx hb dX11_covers_260 (by decide) rfl hf (fun hf => ?_) (fun hf => ?_)
                                  · exact J307 v19 _ _ _ hf rfl hS (lv_sub hl [1, 2, 3, 4, 5, 6, 7, 8, 9, 10, 11] rfl)
                                  · refine lv_iload_n (pc := 263) hx hb dX11_covers_263 rfl (lv_at hl 4 rfl) ?_
                                    obtain ⟨k282, ek282, hf⟩ := q_j0_e hf
                                    have J282 : ∀  (H : Heap) (locs : List Loc) (ls : Array Slot), k282 = some o198_ → H = s.heap → va_S A s.heap H locs → lv_has ls 13 [(0, .ref a_m), (1, .int p1), (2, .int v19), (3, .int v4), (5, .int v7), (6, .int v11), (7, .int v14), (8, .int v15), (9, .int v16), (10, .int v17), (11, .int v20)] → W p l e ({ frames := 6, cells := 0, slots := 0, locals := 141 } : Room) s m ([.ref a_m, .int p1] : List Value).toArray below meth c H locs 0 0 Q (F0 m 282 ls []) := by
                                      intro  H locs ls hf hHs hS hl
                                      subst hHs
                                      have hf := (ek282).symm.trans hf
                                      refine lv_iload_n (pc := 282) hx hb dX11_covers_282 rfl (lv_at hl 2 rfl) ?_
                                      refine lv_iload_n (pc := 283) hx hb dX11_covers_283 rfl (lv_at hl 1 rfl) ?_
                                      refine q_icmp_ne (pc := 284) (tgt := 303) hx hb dX11_covers_284 (by decide) rfl hf (fun hf => ?_) (fun hf => ?_)
                                      · refine lv_iload_n (pc := 303) hx hb dX11_covers_303 rfl (lv_at hl 2 rfl) ?_
                                        refine lv_iconst (pc := 304) (v := 1) hx hb dX11_covers_304 (by decide) ?_
                                        refine lv_iadd (pc := 305) hx hb dX11_covers_305 ?_
                                        obtain ⟨v27, ev27, hf⟩ := q_nm_e hf
                                        refine q_topi ev27 ?_
                                        refine lv_istore_n (pc := 306) (lv' := [(2, .int v27), (0, .ref a_m), (1, .int p1), (3, .int v4), (5, .int v7), (6, .int v11), (7, .int v14), (8, .int v15), (9, .int v16), (10, .int v17), (11, .int v20)]) hx hb dX11_covers_306 rfl hl (by decide) rfl (fun ls hl => ?_)
                                        exact J307 v27 _ _ _ hf rfl hS (lv_sub hl [1, 2, 0, 3, 4, 5, 6, 7, 8, 9, 10] rfl)
                                      · refine lv_ldcw (pc := 287) (v := 100000000) hx hb hown w_7 dX11_covers_287 ?_
                                        refine lv_iload_n (pc := 290) hx hb dX11_covers_290 rfl (lv_at hl 3 rfl) ?_
                                        refine lv_imul (pc := 291) hx hb dX11_covers_291 ?_
                                        refine lv_aload_n (pc := 292) hx hb dX11_covers_292 rfl (lv_at hl 0 rfl) ?_
                                        refine lv_iload_n (pc := 293) hx hb dX11_covers_293 rfl (lv_at hl 3 rfl) ?_
                                        refine lv_iload (pc := 294) hx hb dX11_covers_294 (lv_at hl 5 rfl) ?_
                                        refine lv_iload (pc := 296) hx hb dX11_covers_296 (lv_at hl 10 rfl) ?_
                                        obtain ⟨v28, hm298, hf⟩ := q_b1_e hf
                                        refine q_cVr (pc := 298) (As := [.int v4, .int v11, .int v20]) (rest := [.int (100000000 * v4)]) (v0 := (some (.int v28))) ⟨hx, hb, hml, hown, hts⟩ hK hA hZ hP hD hS hl.1 [0, 3, 4, 5] 6 rfl ⟨rfl, rfl, rfl⟩ (c_M_keyOf l D ci A sa N (Rw) a_m a_m_cutRows a_m_cutColumns a_m_deep a_m_wide a_m_zonesAhead a_m_nameOne a_m_nameOther a_m_tape a_m_edges a_m_dist a_m_queue a_m_pieceLevel a_m_pieceKey a_m_pieceYear a_m_drawnKeys a_m_kept a_m_noNumbers m_taped m_place m_fault m_number m_levelRead m_keyRead m_reads m_faults m_cutShort m_noNumber m_bottomLat m_bottomLon m_firstBeside m_manyBeside m_queued m_boxLevel m_boxTop m_boxBottom m_boxWest m_boxEast m_isEarly m_pieces m_states m_drawnNow m_keptAt m_deep m_wide m_zonesAhead v4 v11 v20 v28 hm298) 0 rfl rfl (cwV 3 hts gX11_covers_X11_keyOf rfl rfl rfl (by decide +kernel) ⟨Nat.le_of_ble_eq_true rfl, Nat.le_of_ble_eq_true rfl⟩) rfl rfl (Nat.le_of_ble_eq_true rfl) dX11_covers_298 ⟨Nat.zero_le _, Nat.zero_le _⟩ (fun locs hS => ?_)
                                        refine lv_iadd (pc := 301) hx hb dX11_covers_301 ?_
                                        obtain rfl := Option.some.inj hf
                                        have hk198 : ((.inr (.inr ((100000000 * v4) + v28))) : (Int32) ⊕ ((Int32) ⊕ (Int32))) = o137_ := hk198
                                        obtain rfl := hk198
                                        have hk137 : ((.inr ((100000000 * v4) + v28)) : (Int32) ⊕ (Int32)) = o4_ := hk137
                                        obtain rfl := hk137
                                        have hk4 : (((100000000 * v4) + v28) : Int32) = r := hk4
                                        obtain rfl := hk4
                                        rw [hQ]
                                        exact q_iretr (pc := 302) hx hb hr hlocks rfl hS dX11_covers_302
                                    refine q_if_le (pc := 264) (tgt := 282) hx hb dX11_covers_264 (by decide) rfl hf (fun hf => ?_) (fun hf => ?_)
                                    · exact J282  _ _ _ hf rfl hS (lv_sub hl [1, 2, 3, 4, 5, 6, 7, 8, 9, 10, 11] rfl)
                                    · refine lv_aload_n (pc := 267) hx hb dX11_covers_267 rfl (lv_at hl 1 rfl) ?_
                                      refine lv_iload_n (pc := 268) hx hb dX11_covers_268 rfl (lv_at hl 4 rfl) ?_
                                      refine lv_iload (pc := 269) hx hb dX11_covers_269 (lv_at hl 6 rfl) ?_
                                      refine lv_iload (pc := 271) hx hb dX11_covers_271 (lv_at hl 11 rfl) ?_
                                      obtain ⟨v29, hm273, hf⟩ := q_b1_e hf
                                      refine q_cVr (pc := 273) (As := [.int v4, .int v11, .int v20]) (rest := []) (v0 := (some (.int v29))) ⟨hx, hb, hml, hown, hts⟩ hK hA hZ hP hD hS hl.1 [0, 1, 2, 3, 4] 6 rfl ⟨rfl, rfl, rfl⟩ (c_M_isWholeAbove l D ci A sa N (Rw) a_m a_m_cutRows a_m_cutColumns a_m_deep a_m_wide a_m_zonesAhead a_m_nameOne a_m_nameOther a_m_tape a_m_edges a_m_dist a_m_queue a_m_pieceLevel a_m_pieceKey a_m_pieceYear a_m_drawnKeys a_m_kept a_m_noNumbers m_taped m_place m_fault m_number m_levelRead m_keyRead m_reads m_faults m_cutShort m_noNumber m_bottomLat m_bottomLon m_firstBeside m_manyBeside m_queued m_boxLevel m_boxTop m_boxBottom m_boxWest m_boxEast m_isEarly m_pieces m_states m_drawnNow m_keptAt m_cutRows m_cutColumns m_deep m_wide v4 v11 v20 v29 hm273) 0 rfl rfl (cwV 3 hts gX11_covers_X11_isWholeAbove rfl rfl rfl (by decide +kernel) ⟨Nat.le_of_ble_eq_true rfl, Nat.le_of_ble_eq_true rfl⟩) rfl rfl (Nat.le_of_ble_eq_true rfl) dX11_covers_273 ⟨Nat.zero_le _, Nat.zero_le _⟩ (fun locs hS => ?_)
                                      refine q_if_eq (pc := 276) (tgt := 282) hx hb dX11_covers_276 (by decide) rfl hf (fun hf => ?_) (fun hf => ?_)
                                      · exact J282  _ _ _ hf rfl hS (lv_sub hl [1, 2, 3, 4, 5, 6, 7, 8, 9, 10, 11] rfl)
                                      · refine lv_goto (pc := 279) (tgt := 307) hx hb dX11_covers_279 (by decide) ?_
                                        exact J307 v19 _ _ _ hf rfl hS (lv_sub hl [1, 2, 3, 4, 5, 6, 7, 8, 9, 10, 11] rfl)
                              refine q_if_eq (pc := 207) (tgt := 232) hx hb dX11_covers_207 (by decide) rfl hf (fun hf => ?_) (fun hf => ?_)
                              · refine lv_iload (pc := 232) hx hb dX11_covers_232 (lv_at hl 10 rfl) ?_
                                refine lv_i2l (pc := 234) hx hb dX11_covers_234 rfl ?_
                                refine lv_iload (pc := 235) hx hb dX11_covers_235 (lv_at hl 7 rfl) ?_
                                refine lv_i2l (pc := 237) hx hb dX11_covers_237 rfl ?_
                                refine lv_iload (pc := 238) hx hb dX11_covers_238 (lv_at hl 8 rfl) ?_
                                refine lv_i2l (pc := 240) hx hb dX11_covers_240 rfl ?_
                                obtain ⟨v30, hm241, hf⟩ := q_b1_e hf
                                refine q_cSr (pc := 241) (As := [.long v20.toInt64, .long v15.toInt64, .long v16.toInt64]) (rest := []) (v0 := (some (.int v30))) ⟨hx, hb, hml, hown, hts⟩ hK hA hZ hP hD hS hl.1 [] 6 rfl ⟨rfl, rfl, rfl⟩ (c_M_in l D ci A sa N (Rw) v20.toInt64 v15.toInt64 v16.toInt64 v30 hm241) (va_cwS 3 hts gX11_covers_X11_in rfl rfl rfl (by decide +kernel) ⟨Nat.le_of_ble_eq_true rfl, Nat.le_of_ble_eq_true rfl⟩) rfl rfl (Nat.le_of_ble_eq_true rfl) dX11_covers_241 ⟨Nat.zero_le _, Nat.zero_le _⟩ (fun locs hS => ?_)
                                exact J244 v30 _ _ _ hf rfl hS (lv_sub hl [0, 1, 2, 3, 4, 5, 6, 7, 8, 9, 10] rfl)
                              · refine lv_iload (pc := 210) hx hb dX11_covers_210 (lv_at hl 10 rfl) ?_
                                refine lv_iload (pc := 212) hx hb dX11_covers_212 (lv_at hl 7 rfl) ?_
                                obtain ⟨k224, ek224, hf⟩ := q_j0_e hf
                                have J224 : ∀  (H : Heap) (locs : List Loc) (ls : Array Slot), k224 = some o198_ → H = s.heap → va_S A s.heap H locs → lv_has ls 13 [(0, .ref a_m), (1, .int p1), (2, .int v19), (3, .int v4), (5, .int v7), (6, .int v11), (7, .int v14), (8, .int v15), (9, .int v16), (10, .int v17), (11, .int v20)] → W p l e ({ frames := 6, cells := 0, slots := 0, locals := 141 } : Room) s m ([.ref a_m, .int p1] : List Value).toArray below meth c H locs 0 0 Q (F0 m 224 ls []) := by
                                  intro  H locs ls hf hHs hS hl
                                  subst hHs
                                  have hf := (ek224).symm.trans hf
                                  refine lv_iconst (pc := 224) (v := 1) hx hb dX11_covers_224 (by decide) ?_
                                  refine lv_goto (pc := 225) (tgt := 244) hx hb dX11_covers_225 (by decide) ?_
                                  exact J244 1 _ _ _ hf rfl hS (lv_sub hl [0, 1, 2, 3, 4, 5, 6, 7, 8, 9, 10] rfl)
                                refine q_icmp_ge (pc := 214) (tgt := 224) hx hb dX11_covers_214 (by decide) rfl hf (fun hf => ?_) (fun hf => ?_)
                                · exact J224  _ _ _ hf rfl hS (lv_sub hl [0, 1, 2, 3, 4, 5, 6, 7, 8, 9, 10] rfl)
                                · refine lv_iload (pc := 217) hx hb dX11_covers_217 (lv_at hl 10 rfl) ?_
                                  refine lv_iload (pc := 219) hx hb dX11_covers_219 (lv_at hl 8 rfl) ?_
                                  refine q_icmp_gt (pc := 221) (tgt := 228) hx hb dX11_covers_221 (by decide) rfl hf (fun hf => ?_) (fun hf => ?_)
                                  · refine lv_iconst (pc := 228) (v := 0) hx hb dX11_covers_228 (by decide) ?_
                                    refine lv_goto (pc := 229) (tgt := 244) hx hb dX11_covers_229 (by decide) ?_
                                    exact J244 0 _ _ _ hf rfl hS (lv_sub hl [0, 1, 2, 3, 4, 5, 6, 7, 8, 9, 10] rfl)
                                  · exact J224  _ _ _ hf rfl hS (lv_sub hl [0, 1, 2, 3, 4, 5, 6, 7, 8, 9, 10] rfl)
                        exact LP198 N v10 v18 _ _ _ hm198 rfl hS (lv_sub hl [2, 3, 4, 5, 6, 7, 8, 9, 10, 1, 0] rfl)
                      refine q_icmp_le (pc := 185) (tgt := 192) hx hb dX11_covers_185 (by decide) rfl hf (fun hf => ?_) (fun hf => ?_)
                      · refine lv_iconst (pc := 192) (v := 0) hx hb dX11_covers_192 (by decide) ?_
                        exact J193 0 _ _ _ hf rfl hS (lv_sub hl [3, 4, 5, 6, 7, 8, 2, 1, 0] rfl)
                      · refine lv_iconst (pc := 188) (v := 1) hx hb dX11_covers_188 (by decide) ?_
                        refine lv_goto (pc := 189) (tgt := 193) hx hb dX11_covers_189 (by decide) ?_
                        exact J193 1 _ _ _ hf rfl hS (lv_sub hl [3, 4, 5, 6, 7, 8, 2, 1, 0] rfl)
                exact LP137 N v3 v9 _ _ _ hm137 rfl hS (lv_sub hl [1, 2, 3, 4, 6, 0] rfl)
              refine q_icmp_ne (pc := 123) (tgt := 133) hx hb dX11_covers_123 (by decide) rfl hf (fun hf => ?_) (fun hf => ?_)
              · exact J133 v6 _ _ _ hf rfl hS (lv_sub hl [1, 2, 3, 4, 5, 0] rfl)
              · refine lv_aload_n (pc := 126) hx hb dX11_covers_126 rfl (lv_at hl 1 rfl) ?_
                refine lv_iload_n (pc := 127) hx hb dX11_covers_127 rfl (lv_at hl 4 rfl) ?_
                obtain ⟨v31, hm128, hf⟩ := q_b1_e hf
                refine q_cVr (pc := 128) (As := [.int v4]) (rest := []) (v0 := (some (.int v31))) ⟨hx, hb, hml, hown, hts⟩ hK hA hZ hP hD hS hl.1 [0, 3] 6 rfl ⟨rfl, rfl, rfl⟩ (c_M_lastRow l D ci A sa N (Rw) a_m a_m_cutRows a_m_cutColumns a_m_deep a_m_wide a_m_zonesAhead a_m_nameOne a_m_nameOther a_m_tape a_m_edges a_m_dist a_m_queue a_m_pieceLevel a_m_pieceKey a_m_pieceYear a_m_drawnKeys a_m_kept a_m_noNumbers m_taped m_place m_fault m_number m_levelRead m_keyRead m_reads m_faults m_cutShort m_noNumber m_bottomLat m_bottomLon m_firstBeside m_manyBeside m_queued m_boxLevel m_boxTop m_boxBottom m_boxWest m_boxEast m_isEarly m_pieces m_states m_drawnNow m_keptAt m_deep v4 v31 hm128) 0 rfl rfl (cwV 1 hts gX11_covers_X11_lastRow rfl rfl rfl (by decide +kernel) ⟨Nat.le_of_ble_eq_true rfl, Nat.le_of_ble_eq_true rfl⟩) rfl rfl (Nat.le_of_ble_eq_true rfl) dX11_covers_128 ⟨Nat.zero_le _, Nat.zero_le _⟩ (fun locs hS => ?_)
                refine lv_istore (pc := 131) (lv' := [(4, .int v31), (5, .int v7), (0, .ref a_m), (1, .int p1), (2, .int v3), (3, .int v4)]) hx hb dX11_covers_131 hl (by decide) rfl (fun ls hl => ?_)
                exact J133 v31 _ _ _ hf rfl hS (lv_sub hl [2, 3, 4, 5, 0, 1] rfl)
            refine q_if_ne (pc := 54) (tgt := 61) hx hb dX11_covers_54 (by decide) rfl hf (fun hf => ?_) (fun hf => ?_)
            · refine lv_aload_n (pc := 61) hx hb dX11_covers_61 rfl (lv_at hl 1 rfl) ?_
              refine va_get (pc := 62) (D := D) (ci := 11) (v := .int m_boxBottom) (C := RX11) (T := TX11) (N := 42) hx hb hts hinX11 hown hK hP 0 rfl rfl 28 (by decide) w_4 (fun _ h9 => h9) rfl dX11_covers_62 ?_
              refine lv_aload_n (pc := 65) hx hb dX11_covers_65 rfl (lv_at hl 1 rfl) ?_
              refine lv_aload_n (pc := 66) hx hb dX11_covers_66 rfl (lv_at hl 1 rfl) ?_
              refine va_get (pc := 67) (D := D) (ci := 11) (v := .int m_boxLevel) (C := RX11) (T := TX11) (N := 42) hx hb hts hinX11 hown hK hP 0 rfl rfl 26 (by decide) w_1 (fun _ h9 => h9) rfl dX11_covers_67 ?_
              obtain ⟨v32, hm70, hf⟩ := q_b1_e hf
              refine q_cVr (pc := 70) (As := [.int m_boxLevel]) (rest := [.int m_boxBottom]) (v0 := (some (.int v32))) ⟨hx, hb, hml, hown, hts⟩ hK hA hZ hP hD hS hl.1 [0, 3] 6 rfl ⟨rfl, rfl, rfl⟩ (c_M_lastRow l D ci A sa N (Rw) a_m a_m_cutRows a_m_cutColumns a_m_deep a_m_wide a_m_zonesAhead a_m_nameOne a_m_nameOther a_m_tape a_m_edges a_m_dist a_m_queue a_m_pieceLevel a_m_pieceKey a_m_pieceYear a_m_drawnKeys a_m_kept a_m_noNumbers m_taped m_place m_fault m_number m_levelRead m_keyRead m_reads m_faults m_cutShort m_noNumber m_bottomLat m_bottomLon m_firstBeside m_manyBeside m_queued m_boxLevel m_boxTop m_boxBottom m_boxWest m_boxEast m_isEarly m_pieces m_states m_drawnNow m_keptAt m_deep m_boxLevel v32 hm70) 0 rfl rfl (cwV 1 hts gX11_covers_X11_lastRow rfl rfl rfl (by decide +kernel) ⟨Nat.le_of_ble_eq_true rfl, Nat.le_of_ble_eq_true rfl⟩) rfl rfl (Nat.le_of_ble_eq_true rfl) dX11_covers_70 ⟨Nat.zero_le _, Nat.zero_le _⟩ (fun locs hS => ?_)
              refine q_icmp_ne (pc := 73) (tgt := 84) hx hb dX11_covers_73 (by decide) rfl hf (fun hf => ?_) (fun hf => ?_)
              · refine lv_iconst (pc := 84) (v := 1) hx hb dX11_covers_84 (by decide) ?_
                refine lv_aload_n (pc := 85) hx hb dX11_covers_85 rfl (lv_at hl 1 rfl) ?_
                refine va_get (pc := 86) (D := D) (ci := 11) (v := .int m_boxBottom) (C := RX11) (T := TX11) (N := 42) hx hb hts hinX11 hown hK hP 0 rfl rfl 28 (by decide) w_4 (fun _ h9 => h9) rfl dX11_covers_86 ?_
                refine lv_iconst (pc := 89) (v := 1) hx hb dX11_covers_89 (by decide) ?_
                refine lv_isub (pc := 90) hx hb dX11_covers_90 ?_
                refine lv_aload_n (pc := 91) hx hb dX11_covers_91 rfl (lv_at hl 1 rfl) ?_
                refine va_get (pc := 92) (D := D) (ci := 11) (v := .ref a_m_deep) (C := RX11) (T := TX11) (N := 42) hx hb hts hinX11 hown hK hP 0 rfl rfl 2 (by decide) w_3 (fun _ h9 => h9) rfl dX11_covers_92 ?_
                refine lv_aload_n (pc := 95) hx hb dX11_covers_95 rfl (lv_at hl 1 rfl) ?_
                refine va_get (pc := 96) (D := D) (ci := 11) (v := .int m_boxLevel) (C := RX11) (T := TX11) (N := 42) hx hb hts hinX11 hown hK hP 0 rfl rfl 26 (by decide) w_1 (fun _ h9 => h9) rfl dX11_covers_96 ?_
                refine q_iald (pc := 99) hx hb hK hP 3 0 hf rfl rfl dX11_covers_99 (fun v33 hf => ?_)
                refine lv_aload_n (pc := 100) hx hb dX11_covers_100 rfl (lv_at hl 1 rfl) ?_
                refine va_get (pc := 101) (D := D) (ci := 11) (v := .ref a_m_deep) (C := RX11) (T := TX11) (N := 42) hx hb hts hinX11 hown hK hP 0 rfl rfl 2 (by decide) w_3 (fun _ h9 => h9) rfl dX11_covers_101 ?_
                refine lv_iload_n (pc := 104) hx hb dX11_covers_104 rfl (lv_at hl 4 rfl) ?_
                refine q_iald (pc := 105) hx hb hK hP 3 0 hf rfl rfl dX11_covers_105 (fun v34 hf => ?_)
                refine q_idiv (pc := 106) hx hb dX11_covers_106 hf (fun v35 hf => ?_)
                refine q_idiv (pc := 107) hx hb dX11_covers_107 hf (fun v36 hf => ?_)
                refine lv_iadd (pc := 108) hx hb dX11_covers_108 ?_
                exact J109 (1 + v36) _ _ _ hf rfl hS (lv_sub hl [1, 2, 3, 4, 0] rfl)
              · refine lv_aload_n (pc := 76) hx hb dX11_covers_76 rfl (lv_at hl 1 rfl) ?_
                refine lv_iload_n (pc := 77) hx hb dX11_covers_77 rfl (lv_at hl 4 rfl) ?_
                obtain ⟨v37, hm78, hf⟩ := q_b1_e hf
                refine q_cVr (pc := 78) (As := [.int v4]) (rest := []) (v0 := (some (.int v37))) ⟨hx, hb, hml, hown, hts⟩ hK hA hZ hP hD hS hl.1 [0, 3] 6 rfl ⟨rfl, rfl, rfl⟩ (c_M_lastRow l D ci A sa N (Rw) a_m a_m_cutRows a_m_cutColumns a_m_deep a_m_wide a_m_zonesAhead a_m_nameOne a_m_nameOther a_m_tape a_m_edges a_m_dist a_m_queue a_m_pieceLevel a_m_pieceKey a_m_pieceYear a_m_drawnKeys a_m_kept a_m_noNumbers m_taped m_place m_fault m_number m_levelRead m_keyRead m_reads m_faults m_cutShort m_noNumber m_bottomLat m_bottomLon m_firstBeside m_manyBeside m_queued m_boxLevel m_boxTop m_boxBottom m_boxWest m_boxEast m_isEarly m_pieces m_states m_drawnNow m_keptAt m_deep v4 v37 hm78) 0 rfl rfl (cwV 1 hts gX11_covers_X11_lastRow rfl rfl rfl (by decide +kernel) ⟨Nat.le_of_ble_eq_true rfl, Nat.le_of_ble_eq_true rfl⟩) rfl rfl (Nat.le_of_ble_eq_true rfl) dX11_covers_78 ⟨Nat.zero_le _, Nat.zero_le _⟩ (fun locs hS => ?_)
                refine lv_goto (pc := 81) (tgt := 109) hx hb dX11_covers_81 (by decide) ?_
                exact J109 v37 _ _ _ hf rfl hS (lv_sub hl [1, 2, 3, 4, 0] rfl)
            · refine lv_iconst (pc := 57) (v := 0) hx hb dX11_covers_57 (by decide) ?_
              refine lv_goto (pc := 58) (tgt := 109) hx hb dX11_covers_58 (by decide) ?_
              exact J109 0 _ _ _ hf rfl hS (lv_sub hl [1, 2, 3, 4, 0] rfl)
          refine q_if_ne (pc := 16) (tgt := 23) hx hb dX11_covers_16 (by decide) rfl hf (fun hf => ?_) (fun hf => ?_)
          · refine lv_iconst (pc := 23) (v := 1) hx hb dX11_covers_23 (by decide) ?_
            refine lv_aload_n (pc := 24) hx hb dX11_covers_24 rfl (lv_at hl 0 rfl) ?_
            refine va_get (pc := 25) (D := D) (ci := 11) (v := .int m_boxTop) (C := RX11) (T := TX11) (N := 42) hx hb hts hinX11 hown hK hP 0 rfl rfl 27 (by decide) w_2 (fun _ h9 => h9) rfl dX11_covers_25 ?_
            refine lv_iconst (pc := 28) (v := 1) hx hb dX11_covers_28 (by decide) ?_
            refine lv_isub (pc := 29) hx hb dX11_covers_29 ?_
            refine lv_aload_n (pc := 30) hx hb dX11_covers_30 rfl (lv_at hl 0 rfl) ?_
            refine va_get (pc := 31) (D := D) (ci := 11) (v := .ref a_m_deep) (C := RX11) (T := TX11) (N := 42) hx hb hts hinX11 hown hK hP 0 rfl rfl 2 (by decide) w_3 (fun _ h9 => h9) rfl dX11_covers_31 ?_
            refine lv_aload_n (pc := 34) hx hb dX11_covers_34 rfl (lv_at hl 0 rfl) ?_
            refine va_get (pc := 35) (D := D) (ci := 11) (v := .int m_boxLevel) (C := RX11) (T := TX11) (N := 42) hx hb hts hinX11 hown hK hP 0 rfl rfl 26 (by decide) w_1 (fun _ h9 => h9) rfl dX11_covers_35 ?_
            refine q_iald (pc := 38) hx hb hK hP 3 0 hf rfl rfl dX11_covers_38 (fun v38 hf => ?_)
            refine lv_aload_n (pc := 39) hx hb dX11_covers_39 rfl (lv_at hl 0 rfl) ?_
            refine va_get (pc := 40) (D := D) (ci := 11) (v := .ref a_m_deep) (C := RX11) (T := TX11) (N := 42) hx hb hts hinX11 hown hK hP 0 rfl rfl 2 (by decide) w_3 (fun _ h9 => h9) rfl dX11_covers_40 ?_
            refine lv_iload_n (pc := 43) hx hb dX11_covers_43 rfl (lv_at hl 3 rfl) ?_
            refine q_iald (pc := 44) hx hb hK hP 3 0 hf rfl rfl dX11_covers_44 (fun v39 hf => ?_)
            refine q_idiv (pc := 45) hx hb dX11_covers_45 hf (fun v40 hf => ?_)
            refine q_idiv (pc := 46) hx hb dX11_covers_46 hf (fun v41 hf => ?_)
            refine lv_iadd (pc := 47) hx hb dX11_covers_47 ?_
            exact J48 (1 + v41) _ _ _ hf rfl hS (lv_sub hl [0, 1, 2, 3] rfl)
          · refine lv_iconst (pc := 19) (v := 0) hx hb dX11_covers_19 (by decide) ?_
            refine lv_goto (pc := 20) (tgt := 48) hx hb dX11_covers_20 (by decide) ?_
            exact J48 0 _ _ _ hf rfl hS (lv_sub hl [0, 1, 2, 3] rfl)
    exact LP4 N v1 v2 _ _ _ hm4 rfl hS (lv_sub hl [2, 3, 1, 0] rfl)
  exact hgo _ _ rfl hP hS
/-! X11_cover -/
set_option maxRecDepth 100000 in
set_option maxHeartbeats 4000000 in
theorem c_M_cover (l : Launch) (D : va_G) (ci : Nat → ClassId) (A : Nat → Prop) (sa : Nat → Nat) (N : Nat) (Rw : va_W) (a_m : Nat) (a_m_cutRows : Nat) (a_m_cutColumns : Nat) (a_m_deep : Nat) (a_m_wide : Nat) (a_m_zonesAhead : Nat) (a_m_nameOne : Nat) (a_m_nameOther : Nat) (a_m_tape : Nat) (a_m_edges : Nat) (a_m_dist : Nat) (a_m_queue : Nat) (a_m_pieceLevel : Nat) (a_m_pieceKey : Nat) (a_m_pieceYear : Nat) (a_m_drawnKeys : Nat) (a_m_kept : Nat) (a_m_noNumbers : Nat) (m_taped : Int32) (m_place : Int32) (m_fault : Int32) (m_number : Int32) (m_levelRead : Int32) (m_keyRead : Int32) (m_reads : Int32) (m_faults : Int32) (m_cutShort : Int32) (m_noNumber : Int32) (m_bottomLat : Int64) (m_bottomLon : Int64) (m_firstBeside : Int32) (m_manyBeside : Int32) (m_queued : Int32) (m_boxLevel : Int32) (m_boxTop : Int32) (m_boxBottom : Int32) (m_boxWest : Int32) (m_boxEast : Int32) (m_isEarly : Int32) (m_pieces : Int32) (m_states : Int32) (m_drawnNow : Int32) (m_keptAt : Int32) (m_cutRows : Nat → Int32) (m_cutColumns : Nat → Int32) (m_deep : Nat → Int32) (m_wide : Nat → Int32) (m_zonesAhead : Nat → Int32) (p1 : Int32) (p2 : Int32) (p3 : Int32) (p4 : Int32) (p5 : Int32) (p6 : Int32) (r : Int32) (o1 : Int32) (o2 : Int32) (o3 : Int32) (o4 : Int32) (o5 : Int32) (hf : f_M_cover N m_cutRows m_cutColumns m_deep m_wide m_zonesAhead m_boxLevel m_boxTop m_boxBottom m_boxWest m_boxEast p1 p2 p3 p4 p5 p6 = some (r, o1, o2, o3, o4, o5)) : Met l yX11_cover wsX11_cover ({ frames := 7, cells := 0, slots := 0, locals := 173 }) (va_Pc [.ref a_m, .int p1, .int p2, .int p3, .int p4, .int p5, .int p6] (q_N D ci A sa ((a_m, .inr (11, (.ref a_m_cutRows :: .ref a_m_cutColumns :: .ref a_m_deep :: .ref a_m_wide :: .ref a_m_zonesAhead :: .ref a_m_nameOne :: .ref a_m_nameOther :: .ref a_m_tape :: .int m_taped :: .int m_place :: .int m_fault :: .int m_number :: .int m_levelRead :: .int m_keyRead :: .int m_reads :: .int m_faults :: .int m_cutShort :: .int m_noNumber :: .long m_bottomLat :: .long m_bottomLon :: .ref a_m_edges :: .int m_firstBeside :: .int m_manyBeside :: .ref a_m_dist :: .ref a_m_queue :: .int m_queued :: .int m_boxLevel :: .int m_boxTop :: .int m_boxBottom :: .int m_boxWest :: .int m_boxEast :: .int m_isEarly :: .int m_pieces :: .int m_states :: .ref a_m_pieceLevel :: .ref a_m_pieceKey :: .ref a_m_pieceYear :: .int m_drawnNow :: .ref a_m_drawnKeys :: .ref a_m_kept :: .int m_keptAt :: .ref a_m_noNumbers :: []))) :: (a_m_cutRows, .inl (ci 0, 5, .inl m_cutRows)) :: (a_m_cutColumns, .inl (ci 0, 5, .inl m_cutColumns)) :: (a_m_deep, .inl (ci 0, 5, .inl m_deep)) :: (a_m_wide, .inl (ci 0, 5, .inl m_wide)) :: (a_m_zonesAhead, .inl (ci 0, 45, .inl m_zonesAhead)) :: Rw))) (q_Q (some (.int r)) (q_O D A ((a_m, .inr (11, (.ref a_m_cutRows :: .ref a_m_cutColumns :: .ref a_m_deep :: .ref a_m_wide :: .ref a_m_zonesAhead :: .ref a_m_nameOne :: .ref a_m_nameOther :: .ref a_m_tape :: .int m_taped :: .int m_place :: .int m_fault :: .int m_number :: .int m_levelRead :: .int m_keyRead :: .int m_reads :: .int m_faults :: .int m_cutShort :: .int m_noNumber :: .long m_bottomLat :: .long m_bottomLon :: .ref a_m_edges :: .int m_firstBeside :: .int m_manyBeside :: .ref a_m_dist :: .ref a_m_queue :: .int m_queued :: .int o1 :: .int o2 :: .int o3 :: .int o4 :: .int o5 :: .int m_isEarly :: .int m_pieces :: .int m_states :: .ref a_m_pieceLevel :: .ref a_m_pieceKey :: .ref a_m_pieceYear :: .int m_drawnNow :: .ref a_m_drawnKeys :: .ref a_m_kept :: .int m_keptAt :: .ref a_m_noNumbers :: []))) :: (a_m_cutRows, .inl (ci 0, 5, .inl m_cutRows)) :: (a_m_cutColumns, .inl (ci 0, 5, .inl m_cutColumns)) :: (a_m_deep, .inl (ci 0, 5, .inl m_deep)) :: (a_m_wide, .inl (ci 0, 5, .inl m_wide)) :: (a_m_zonesAhead, .inl (ci 0, 45, .inl m_zonesAhead)) :: Rw)) A) 0 0 A := by
  refine q_ofW (cc := cX11_cover) (maxL := 7) (ret := (some .int)) [.ref a_m, .int p1, .int p2, .int p3, .int p4, .int p5, .int p6] (plainFor_of_name (by decide)) rfl (Nat.le_of_ble_eq_true rfl) ?_
  intro p e s m below meth c ls Q hQ hx hb hml hr hts hown hlocks hK hA hZ hP hD hS hl
  have hl : lv_has ls 7 [(0, .ref a_m), (1, .int p1), (2, .int p2), (3, .int p3), (4, .int p4), (5, .int p5), (6, .int p6)] := hl
  have hown : s.vm.findClass RX11 = some m.cls := hown
  unfold f_M_cover at hf
  have hgo : ∀ (H : Heap) (locs : List Loc), H = s.heap → va_P D vwCl ((a_m, .inr (11, (.ref a_m_cutRows :: .ref a_m_cutColumns :: .ref a_m_deep :: .ref a_m_wide :: .ref a_m_zonesAhead :: .ref a_m_nameOne :: .ref a_m_nameOther :: .ref a_m_tape :: .int m_taped :: .int m_place :: .int m_fault :: .int m_number :: .int m_levelRead :: .int m_keyRead :: .int m_reads :: .int m_faults :: .int m_cutShort :: .int m_noNumber :: .long m_bottomLat :: .long m_bottomLon :: .ref a_m_edges :: .int m_firstBeside :: .int m_manyBeside :: .ref a_m_dist :: .ref a_m_queue :: .int m_queued :: .int m_boxLevel :: .int m_boxTop :: .int m_boxBottom :: .int m_boxWest :: .int m_boxEast :: .int m_isEarly :: .int m_pieces :: .int m_states :: .ref a_m_pieceLevel :: .ref a_m_pieceKey :: .ref a_m_pieceYear :: .int m_drawnNow :: .ref a_m_drawnKeys :: .ref a_m_kept :: .int m_keptAt :: .ref a_m_noNumbers :: []))) :: (a_m_cutRows, .inl (ci 0, 5, .inl m_cutRows)) :: (a_m_cutColumns, .inl (ci 0, 5, .inl m_cutColumns)) :: (a_m_deep, .inl (ci 0, 5, .inl m_deep)) :: (a_m_wide, .inl (ci 0, 5, .inl m_wide)) :: (a_m_zonesAhead, .inl (ci 0, 45, .inl m_zonesAhead)) :: Rw) H → va_S A s.heap H locs → W p l e ({ frames := 7, cells := 0, slots := 0, locals := 173 } : Room) s m ([.ref a_m, .int p1, .int p2, .int p3, .int p4, .int p5, .int p6] : List Value).toArray below meth c H locs 0 0 Q (F0 m 0 ls []) := by
    intro H locs hH hP hS
    refine lv_aload_n (pc := 0) hx hb dX11_cover_0 rfl (lv_at hl 0 rfl) ?_
    refine lv_iload_n (pc := 1) hx hb dX11_cover_1 rfl (lv_at hl 1 rfl) ?_
    refine lv_iload_n (pc := 2) hx hb dX11_cover_2 rfl (lv_at hl 2 rfl) ?_
    refine lv_iload_n (pc := 3) hx hb dX11_cover_3 rfl (lv_at hl 3 rfl) ?_
    refine lv_iload (pc := 4) hx hb dX11_cover_4 (lv_at hl 4 rfl) ?_
    obtain ⟨v1, hm6, hf⟩ := q_b1_e hf
    refine q_cVr (pc := 6) (As := [.int p1, .int p2, .int p3, .int p4]) (rest := []) (v0 := (some (.int v1))) ⟨hx, hb, hml, hown, hts⟩ hK hA hZ hP hD hS hl.1 [0] 6 rfl ⟨rfl, rfl, rfl⟩ (c_M_isBox l D ci A sa N (Rw) a_m a_m_cutRows a_m_cutColumns a_m_deep a_m_wide a_m_zonesAhead a_m_nameOne a_m_nameOther a_m_tape a_m_edges a_m_dist a_m_queue a_m_pieceLevel a_m_pieceKey a_m_pieceYear a_m_drawnKeys a_m_kept a_m_noNumbers m_taped m_place m_fault m_number m_levelRead m_keyRead m_reads m_faults m_cutShort m_noNumber m_bottomLat m_bottomLon m_firstBeside m_manyBeside m_queued m_boxLevel m_boxTop m_boxBottom m_boxWest m_boxEast m_isEarly m_pieces m_states m_drawnNow m_keptAt p1 p2 p3 p4 v1 hm6) 0 rfl rfl (cwV 4 hts gX11_cover_X11_isBox rfl rfl rfl (by decide +kernel) ⟨Nat.le_of_ble_eq_true rfl, Nat.le_of_ble_eq_true rfl⟩) rfl rfl (Nat.le_of_ble_eq_true rfl) dX11_cover_6 ⟨Nat.zero_le _, Nat.zero_le _⟩ (fun locs hS => ?_)
    refine q_if_eq (pc := 9) (tgt := 26) hx hb dX11_cover_9 (by decide) rfl hf (fun hf => ?_) (fun hf => ?_)
    · refine lv_iconst (pc := 26) (v := (-1)) hx hb dX11_cover_26 (by decide) ?_
      obtain ⟨e90, e91, e92, e93, e94, e95⟩ := q_inj6 (Option.some.inj hf)
      rw [hQ, ← e90, ← e91, ← e92, ← e93, ← e94, ← e95]
      exact q_iret (pc := 27) hx hb hr hlocks hP hD hS dX11_cover_27
    · refine lv_iload (pc := 12) hx hb dX11_cover_12 (lv_at hl 5 rfl) ?_
      obtain ⟨v2, hm14, hf⟩ := q_b1_e hf
      refine q_cSr (pc := 14) (As := [.int p5]) (rest := []) (v0 := (some (.int v2))) ⟨hx, hb, hml, hown, hts⟩ hK hA hZ hP hD hS hl.1 [] 6 rfl ⟨rfl, rfl, rfl⟩ (c_M_isLevel l D ci A sa N (Rw) p5 v2 hm14) (va_cwS 1 hts gX11_cover_X11_isLevel rfl rfl rfl (by decide +kernel) ⟨Nat.le_of_ble_eq_true rfl, Nat.le_of_ble_eq_true rfl⟩) rfl rfl (Nat.le_of_ble_eq_true rfl) dX11_cover_14 ⟨Nat.zero_le _, Nat.zero_le _⟩ (fun locs hS => ?_)
      refine q_if_eq (pc := 17) (tgt := 26) hx hb dX11_cover_17 (by decide) rfl hf (fun hf => ?_) (fun hf => ?_)
      · refine lv_iconst (pc := 26) (v := (-1)) hx hb dX11_cover_26 (by decide) ?_
        obtain ⟨e90, e91, e92, e93, e94, e95⟩ := q_inj6 (Option.some.inj hf)
        rw [hQ, ← e90, ← e91, ← e92, ← e93, ← e94, ← e95]
        exact q_iret (pc := 27) hx hb hr hlocks hP hD hS dX11_cover_27
      · refine lv_iload (pc := 20) hx hb dX11_cover_20 (lv_at hl 6 rfl) ?_
        refine lv_iconst (pc := 22) (v := (-1)) hx hb dX11_cover_22 (by decide) ?_
        refine q_icmp_ge (pc := 23) (tgt := 28) hx hb dX11_cover_23 (by decide) rfl hf (fun hf => ?_) (fun hf => ?_)
        · refine lv_aload_n (pc := 28) hx hb dX11_cover_28 rfl (lv_at hl 0 rfl) ?_
          refine lv_iload_n (pc := 29) hx hb dX11_cover_29 rfl (lv_at hl 1 rfl) ?_
          refine lv_iload_n (pc := 30) hx hb dX11_cover_30 rfl (lv_at hl 2 rfl) ?_
          refine lv_iload_n (pc := 31) hx hb dX11_cover_31 rfl (lv_at hl 3 rfl) ?_
          refine lv_iload (pc := 32) hx hb dX11_cover_32 (lv_at hl 4 rfl) ?_
          refine lv_iload (pc := 34) hx hb dX11_cover_34 (lv_at hl 5 rfl) ?_
          obtain ⟨v3, v4, v5, v6, v7, hm36, hf⟩ := q_b5_e hf
          refine q_cV (pc := 36) (As := [.int p1, .int p2, .int p3, .int p4, .int p5]) (rest := []) (v0 := none) ⟨hx, hb, hml, hown, hts⟩ hK hA hZ hP hD hS hl.1 [0, 3, 1, 2, 4, 5] 6 rfl ⟨rfl, rfl, rfl⟩ (c_M_laysBox l D ci A sa N ((a_m_cutRows, .inl (ci 0, 5, .inl m_cutRows)) :: (a_m_cutColumns, .inl (ci 0, 5, .inl m_cutColumns)) :: (a_m_wide, .inl (ci 0, 5, .inl m_wide)) :: (a_m_zonesAhead, .inl (ci 0, 45, .inl m_zonesAhead)) :: Rw) a_m a_m_cutRows a_m_cutColumns a_m_deep a_m_wide a_m_zonesAhead a_m_nameOne a_m_nameOther a_m_tape a_m_edges a_m_dist a_m_queue a_m_pieceLevel a_m_pieceKey a_m_pieceYear a_m_drawnKeys a_m_kept a_m_noNumbers m_taped m_place m_fault m_number m_levelRead m_keyRead m_reads m_faults m_cutShort m_noNumber m_bottomLat m_bottomLon m_firstBeside m_manyBeside m_queued m_boxLevel m_boxTop m_boxBottom m_boxWest m_boxEast m_isEarly m_pieces m_states m_drawnNow m_keptAt m_deep p1 p2 p3 p4 p5 v3 v4 v5 v6 v7 hm36) 0 rfl rfl (cwV 5 hts gX11_cover_X11_laysBox rfl rfl rfl (by decide +kernel) ⟨Nat.le_of_ble_eq_true rfl, Nat.le_of_ble_eq_true rfl⟩) rfl rfl (Nat.le_of_ble_eq_true rfl) dX11_cover_36 ⟨Nat.zero_le _, Nat.zero_le _⟩ [0, 2, 3, 1, 4, 5] 6 rfl ⟨rfl, rfl, rfl⟩ (fun H locs hP hD hS => ?_)
          obtain ⟨hP, hD⟩ : va_PD D A ((a_m, .inr (11, (.ref a_m_cutRows :: .ref a_m_cutColumns :: .ref a_m_deep :: .ref a_m_wide :: .ref a_m_zonesAhead :: .ref a_m_nameOne :: .ref a_m_nameOther :: .ref a_m_tape :: .int m_taped :: .int m_place :: .int m_fault :: .int m_number :: .int m_levelRead :: .int m_keyRead :: .int m_reads :: .int m_faults :: .int m_cutShort :: .int m_noNumber :: .long m_bottomLat :: .long m_bottomLon :: .ref a_m_edges :: .int m_firstBeside :: .int m_manyBeside :: .ref a_m_dist :: .ref a_m_queue :: .int m_queued :: .int v3 :: .int v4 :: .int v5 :: .int v6 :: .int v7 :: .int m_isEarly :: .int m_pieces :: .int m_states :: .ref a_m_pieceLevel :: .ref a_m_pieceKey :: .ref a_m_pieceYear :: .int m_drawnNow :: .ref a_m_drawnKeys :: .ref a_m_kept :: .int m_keptAt :: .ref a_m_noNumbers :: []))) :: (a_m_cutRows, .inl (ci 0, 5, .inl m_cutRows)) :: (a_m_cutColumns, .inl (ci 0, 5, .inl m_cutColumns)) :: (a_m_deep, .inl (ci 0, 5, .inl m_deep)) :: (a_m_wide, .inl (ci 0, 5, .inl m_wide)) :: (a_m_zonesAhead, .inl (ci 0, 45, .inl m_zonesAhead)) :: Rw) H := ⟨hP, hD⟩
          refine lv_aload_n (pc := 39) hx hb dX11_cover_39 rfl (lv_at hl 0 rfl) ?_
          obtain ⟨v8, hm40, hf⟩ := q_b1_e hf
          refine q_cVr (pc := 40) (As := []) (rest := []) (v0 := (some (.int v8))) ⟨hx, hb, hml, hown, hts⟩ hK hA hZ hP hD hS hl.1 [0, 3, 4] 6 rfl ⟨rfl, rfl, rfl⟩ (c_M_boxAll l D ci A sa N (Rw) a_m a_m_cutRows a_m_cutColumns a_m_deep a_m_wide a_m_zonesAhead a_m_nameOne a_m_nameOther a_m_tape a_m_edges a_m_dist a_m_queue a_m_pieceLevel a_m_pieceKey a_m_pieceYear a_m_drawnKeys a_m_kept a_m_noNumbers m_taped m_place m_fault m_number m_levelRead m_keyRead m_reads m_faults m_cutShort m_noNumber m_bottomLat m_bottomLon m_firstBeside m_manyBeside m_queued v3 v4 v5 v6 v7 m_isEarly m_pieces m_states m_drawnNow m_keptAt m_deep m_wide v8 hm40) 0 rfl rfl (cwV 0 hts gX11_cover_X11_boxAll rfl rfl rfl (by decide +kernel) ⟨Nat.le_of_ble_eq_true rfl, Nat.le_of_ble_eq_true rfl⟩) rfl rfl (Nat.le_of_ble_eq_true rfl) dX11_cover_40 ⟨Nat.zero_le _, Nat.zero_le _⟩ (fun locs hS => ?_)
          refine lv_sipush (pc := 43) (v := 4000) hx hb dX11_cover_43 (by decide) ?_
          refine q_icmp_le (pc := 46) (tgt := 54) hx hb dX11_cover_46 (by decide) rfl hf (fun hf => ?_) (fun hf => ?_)
          · refine lv_aload_n (pc := 54) hx hb dX11_cover_54 rfl (lv_at hl 0 rfl) ?_
            refine lv_iload (pc := 55) hx hb dX11_cover_55 (lv_at hl 6 rfl) ?_
            obtain ⟨v9, hm57, hf⟩ := q_b1_e hf
            refine q_cVr (pc := 57) (As := [.int p6]) (rest := []) (v0 := (some (.int v9))) ⟨hx, hb, hml, hown, hts⟩ hK hA hZ hP hD hS hl.1 [0, 1, 2, 3, 4, 5] 6 rfl ⟨rfl, rfl, rfl⟩ (c_M_covers l D ci A sa N (Rw) a_m a_m_cutRows a_m_cutColumns a_m_deep a_m_wide a_m_zonesAhead a_m_nameOne a_m_nameOther a_m_tape a_m_edges a_m_dist a_m_queue a_m_pieceLevel a_m_pieceKey a_m_pieceYear a_m_drawnKeys a_m_kept a_m_noNumbers m_taped m_place m_fault m_number m_levelRead m_keyRead m_reads m_faults m_cutShort m_noNumber m_bottomLat m_bottomLon m_firstBeside m_manyBeside m_queued v3 v4 v5 v6 v7 m_isEarly m_pieces m_states m_drawnNow m_keptAt m_cutRows m_cutColumns m_deep m_wide m_zonesAhead p6 v9 hm57) 0 rfl rfl (cwV 1 hts gX11_cover_X11_covers rfl rfl rfl (by decide +kernel) ⟨Nat.le_of_ble_eq_true rfl, Nat.le_of_ble_eq_true rfl⟩) rfl rfl (Nat.le_of_ble_eq_true rfl) dX11_cover_57 ⟨Nat.zero_le _, Nat.zero_le _⟩ (fun locs hS => ?_)
            obtain ⟨e90, e91, e92, e93, e94, e95⟩ := q_inj6 (Option.some.inj hf)
            rw [hQ, ← e90, ← e91, ← e92, ← e93, ← e94, ← e95]
            exact q_iret (pc := 60) hx hb hr hlocks hP hD hS dX11_cover_60
          · refine lv_bipush (pc := 49) (v := (-2)) hx hb dX11_cover_49 (by decide) ?_
            refine lv_goto (pc := 51) (tgt := 60) hx hb dX11_cover_51 (by decide) ?_
            obtain ⟨e90, e91, e92, e93, e94, e95⟩ := q_inj6 (Option.some.inj hf)
            rw [hQ, ← e90, ← e91, ← e92, ← e93, ← e94, ← e95]
            exact q_iret (pc := 60) hx hb hr hlocks hP hD hS dX11_cover_60
        · refine lv_iconst (pc := 26) (v := (-1)) hx hb dX11_cover_26 (by decide) ?_
          obtain ⟨e90, e91, e92, e93, e94, e95⟩ := q_inj6 (Option.some.inj hf)
          rw [hQ, ← e90, ← e91, ← e92, ← e93, ← e94, ← e95]
          exact q_iret (pc := 27) hx hb hr hlocks hP hD hS dX11_cover_27
  exact hgo _ _ rfl hP hS
/-! X11_laysGrids -/
set_option maxRecDepth 100000 in
set_option maxHeartbeats 4000000 in
theorem c_M_laysGrids (l : Launch) (D : va_G) (ci : Nat → ClassId) (A : Nat → Prop) (sa : Nat → Nat) (N : Nat) (Rw : va_W) (a_m : Nat) (a_m_cutRows : Nat) (a_m_cutColumns : Nat) (a_m_deep : Nat) (a_m_wide : Nat) (a_m_zonesAhead : Nat) (a_m_nameOne : Nat) (a_m_nameOther : Nat) (a_m_tape : Nat) (a_m_edges : Nat) (a_m_dist : Nat) (a_m_queue : Nat) (a_m_pieceLevel : Nat) (a_m_pieceKey : Nat) (a_m_pieceYear : Nat) (a_m_drawnKeys : Nat) (a_m_kept : Nat) (a_m_noNumbers : Nat) (m_taped : Int32) (m_place : Int32) (m_fault : Int32) (m_number : Int32) (m_levelRead : Int32) (m_keyRead : Int32) (m_reads : Int32) (m_faults : Int32) (m_cutShort : Int32) (m_noNumber : Int32) (m_bottomLat : Int64) (m_bottomLon : Int64) (m_firstBeside : Int32) (m_manyBeside : Int32) (m_queued : Int32) (m_boxLevel : Int32) (m_boxTop : Int32) (m_boxBottom : Int32) (m_boxWest : Int32) (m_boxEast : Int32) (m_isEarly : Int32) (m_pieces : Int32) (m_states : Int32) (m_drawnNow : Int32) (m_keptAt : Int32) (m_cutRows : Nat → Int32) (m_cutColumns : Nat → Int32) (m_deep : Nat → Int32) (m_wide : Nat → Int32) (o1 : Nat → Int32) (o2 : Nat → Int32) (hf : f_M_laysGrids N m_cutRows m_cutColumns m_deep m_wide = some (o1, o2)) : Met l yX11_laysGrids wsX11_laysGrids ({ frames := 0, cells := 0, slots := 0, locals := 0 }) (va_Pc [.ref a_m] (q_N D ci A sa ((a_m, .inr (11, (.ref a_m_cutRows :: .ref a_m_cutColumns :: .ref a_m_deep :: .ref a_m_wide :: .ref a_m_zonesAhead :: .ref a_m_nameOne :: .ref a_m_nameOther :: .ref a_m_tape :: .int m_taped :: .int m_place :: .int m_fault :: .int m_number :: .int m_levelRead :: .int m_keyRead :: .int m_reads :: .int m_faults :: .int m_cutShort :: .int m_noNumber :: .long m_bottomLat :: .long m_bottomLon :: .ref a_m_edges :: .int m_firstBeside :: .int m_manyBeside :: .ref a_m_dist :: .ref a_m_queue :: .int m_queued :: .int m_boxLevel :: .int m_boxTop :: .int m_boxBottom :: .int m_boxWest :: .int m_boxEast :: .int m_isEarly :: .int m_pieces :: .int m_states :: .ref a_m_pieceLevel :: .ref a_m_pieceKey :: .ref a_m_pieceYear :: .int m_drawnNow :: .ref a_m_drawnKeys :: .ref a_m_kept :: .int m_keptAt :: .ref a_m_noNumbers :: []))) :: (a_m_cutRows, .inl (ci 0, 5, .inl m_cutRows)) :: (a_m_cutColumns, .inl (ci 0, 5, .inl m_cutColumns)) :: (a_m_deep, .inl (ci 0, 5, .inl m_deep)) :: (a_m_wide, .inl (ci 0, 5, .inl m_wide)) :: Rw))) (q_Q none (q_O D A ((a_m, .inr (11, (.ref a_m_cutRows :: .ref a_m_cutColumns :: .ref a_m_deep :: .ref a_m_wide :: .ref a_m_zonesAhead :: .ref a_m_nameOne :: .ref a_m_nameOther :: .ref a_m_tape :: .int m_taped :: .int m_place :: .int m_fault :: .int m_number :: .int m_levelRead :: .int m_keyRead :: .int m_reads :: .int m_faults :: .int m_cutShort :: .int m_noNumber :: .long m_bottomLat :: .long m_bottomLon :: .ref a_m_edges :: .int m_firstBeside :: .int m_manyBeside :: .ref a_m_dist :: .ref a_m_queue :: .int m_queued :: .int m_boxLevel :: .int m_boxTop :: .int m_boxBottom :: .int m_boxWest :: .int m_boxEast :: .int m_isEarly :: .int m_pieces :: .int m_states :: .ref a_m_pieceLevel :: .ref a_m_pieceKey :: .ref a_m_pieceYear :: .int m_drawnNow :: .ref a_m_drawnKeys :: .ref a_m_kept :: .int m_keptAt :: .ref a_m_noNumbers :: []))) :: (a_m_cutRows, .inl (ci 0, 5, .inl m_cutRows)) :: (a_m_cutColumns, .inl (ci 0, 5, .inl m_cutColumns)) :: (a_m_deep, .inl (ci 0, 5, .inl o1)) :: (a_m_wide, .inl (ci 0, 5, .inl o2)) :: Rw)) A) 0 0 A := by
  refine q_ofW (cc := cX11_laysGrids) (maxL := 2) (ret := none) [.ref a_m] (plainFor_of_name (by decide)) rfl (Nat.le_of_ble_eq_true rfl) ?_
  intro p e s m below meth c ls Q hQ hx hb hml hr hts hown hlocks hK hA hZ hP hD hS hl
  have hl : lv_has ls 2 [(0, .ref a_m)] := hl
  have hown : s.vm.findClass RX11 = some m.cls := hown
  have hinX11 : ∀ w ∈ wsX110, w ∈ wsX11_laysGrids := fun _ h => List.mem_cons_of_mem _ (inWX110 _ h)
  have w_1 := hts (Cond.fieldLink RX11 16 "SheetNamesModel" "deep" "[I") (List.mem_cons_of_mem _ t_w908)
  have w_2 := hts (Cond.fieldLink RX11 19 "SheetNamesModel" "wide" "[I") (List.mem_cons_of_mem _ t_w909)
  have w_3 := hts (Cond.fieldLink RX11 7 "SheetNamesModel" "cutRows" "[I") (List.mem_cons_of_mem _ t_w924)
  have w_4 := hts (Cond.fieldLink RX11 13 "SheetNamesModel" "cutColumns" "[I") (List.mem_cons_of_mem _ t_w923)
  unfold f_M_laysGrids at hf
  have hgo : ∀ (H : Heap) (locs : List Loc), H = s.heap → va_P D vwCl ((a_m, .inr (11, (.ref a_m_cutRows :: .ref a_m_cutColumns :: .ref a_m_deep :: .ref a_m_wide :: .ref a_m_zonesAhead :: .ref a_m_nameOne :: .ref a_m_nameOther :: .ref a_m_tape :: .int m_taped :: .int m_place :: .int m_fault :: .int m_number :: .int m_levelRead :: .int m_keyRead :: .int m_reads :: .int m_faults :: .int m_cutShort :: .int m_noNumber :: .long m_bottomLat :: .long m_bottomLon :: .ref a_m_edges :: .int m_firstBeside :: .int m_manyBeside :: .ref a_m_dist :: .ref a_m_queue :: .int m_queued :: .int m_boxLevel :: .int m_boxTop :: .int m_boxBottom :: .int m_boxWest :: .int m_boxEast :: .int m_isEarly :: .int m_pieces :: .int m_states :: .ref a_m_pieceLevel :: .ref a_m_pieceKey :: .ref a_m_pieceYear :: .int m_drawnNow :: .ref a_m_drawnKeys :: .ref a_m_kept :: .int m_keptAt :: .ref a_m_noNumbers :: []))) :: (a_m_cutRows, .inl (ci 0, 5, .inl m_cutRows)) :: (a_m_cutColumns, .inl (ci 0, 5, .inl m_cutColumns)) :: (a_m_deep, .inl (ci 0, 5, .inl m_deep)) :: (a_m_wide, .inl (ci 0, 5, .inl m_wide)) :: Rw) H → va_S A s.heap H locs → W p l e ({ frames := 0, cells := 0, slots := 0, locals := 0 } : Room) s m ([.ref a_m] : List Value).toArray below meth c H locs 0 0 Q (F0 m 0 ls []) := by
    intro H locs hH hP hS
    refine lv_aload_n (pc := 0) hx hb dX11_laysGrids_0 rfl (lv_at hl 0 rfl) ?_
    refine va_get (pc := 1) (D := D) (ci := 11) (v := .ref a_m_deep) (C := RX11) (T := TX11) (N := 42) hx hb hts hinX11 hown hK hP 0 rfl rfl 2 (by decide) w_1 (fun _ h9 => h9) rfl dX11_laysGrids_1 ?_
    refine lv_iconst (pc := 4) (v := 0) hx hb dX11_laysGrids_4 (by decide) ?_
    refine lv_iconst (pc := 5) (v := 1) hx hb dX11_laysGrids_5 (by decide) ?_
    refine q_iast (pc := 6) hx hb hK hP hD hS 3 0 hf rfl rfl dX11_laysGrids_6 (fun f1 H locs hf hP hD hS => ?_)
    obtain ⟨hP, hD⟩ : va_PD D A ((a_m, .inr (11, (.ref a_m_cutRows :: .ref a_m_cutColumns :: .ref a_m_deep :: .ref a_m_wide :: .ref a_m_zonesAhead :: .ref a_m_nameOne :: .ref a_m_nameOther :: .ref a_m_tape :: .int m_taped :: .int m_place :: .int m_fault :: .int m_number :: .int m_levelRead :: .int m_keyRead :: .int m_reads :: .int m_faults :: .int m_cutShort :: .int m_noNumber :: .long m_bottomLat :: .long m_bottomLon :: .ref a_m_edges :: .int m_firstBeside :: .int m_manyBeside :: .ref a_m_dist :: .ref a_m_queue :: .int m_queued :: .int m_boxLevel :: .int m_boxTop :: .int m_boxBottom :: .int m_boxWest :: .int m_boxEast :: .int m_isEarly :: .int m_pieces :: .int m_states :: .ref a_m_pieceLevel :: .ref a_m_pieceKey :: .ref a_m_pieceYear :: .int m_drawnNow :: .ref a_m_drawnKeys :: .ref a_m_kept :: .int m_keptAt :: .ref a_m_noNumbers :: []))) :: (a_m_cutRows, .inl (ci 0, 5, .inl m_cutRows)) :: (a_m_cutColumns, .inl (ci 0, 5, .inl m_cutColumns)) :: (a_m_deep, .inl (ci 0, 5, .inl f1)) :: (a_m_wide, .inl (ci 0, 5, .inl m_wide)) :: Rw) H := ⟨hP, hD⟩
    refine lv_aload_n (pc := 7) hx hb dX11_laysGrids_7 rfl (lv_at hl 0 rfl) ?_
    refine va_get (pc := 8) (D := D) (ci := 11) (v := .ref a_m_wide) (C := RX11) (T := TX11) (N := 42) hx hb hts hinX11 hown hK hP 0 rfl rfl 3 (by decide) w_2 (fun _ h9 => h9) rfl dX11_laysGrids_8 ?_
    refine lv_iconst (pc := 11) (v := 0) hx hb dX11_laysGrids_11 (by decide) ?_
    refine lv_iconst (pc := 12) (v := 1) hx hb dX11_laysGrids_12 (by decide) ?_
    refine q_iast (pc := 13) hx hb hK hP hD hS 4 0 hf rfl rfl dX11_laysGrids_13 (fun f2 H locs hf hP hD hS => ?_)
    obtain ⟨hP, hD⟩ : va_PD D A ((a_m, .inr (11, (.ref a_m_cutRows :: .ref a_m_cutColumns :: .ref a_m_deep :: .ref a_m_wide :: .ref a_m_zonesAhead :: .ref a_m_nameOne :: .ref a_m_nameOther :: .ref a_m_tape :: .int m_taped :: .int m_place :: .int m_fault :: .int m_number :: .int m_levelRead :: .int m_keyRead :: .int m_reads :: .int m_faults :: .int m_cutShort :: .int m_noNumber :: .long m_bottomLat :: .long m_bottomLon :: .ref a_m_edges :: .int m_firstBeside :: .int m_manyBeside :: .ref a_m_dist :: .ref a_m_queue :: .int m_queued :: .int m_boxLevel :: .int m_boxTop :: .int m_boxBottom :: .int m_boxWest :: .int m_boxEast :: .int m_isEarly :: .int m_pieces :: .int m_states :: .ref a_m_pieceLevel :: .ref a_m_pieceKey :: .ref a_m_pieceYear :: .int m_drawnNow :: .ref a_m_drawnKeys :: .ref a_m_kept :: .int m_keptAt :: .ref a_m_noNumbers :: []))) :: (a_m_cutRows, .inl (ci 0, 5, .inl m_cutRows)) :: (a_m_cutColumns, .inl (ci 0, 5, .inl m_cutColumns)) :: (a_m_deep, .inl (ci 0, 5, .inl f1)) :: (a_m_wide, .inl (ci 0, 5, .inl f2)) :: Rw) H := ⟨hP, hD⟩
    refine lv_iconst (pc := 14) (v := 1) hx hb dX11_laysGrids_14 (by decide) ?_
    obtain ⟨v3, ev3, hf⟩ := q_nm_e hf
    refine q_topi ev3 ?_
    refine lv_istore_n (pc := 15) (lv' := [(1, .int v3), (0, .ref a_m)]) hx hb dX11_laysGrids_15 rfl hl (by decide) rfl (fun ls hl => ?_)
    obtain ⟨f7, f8, hm16, hf⟩ := q_b2_e hf
    have JE16 : ∀ (H : Heap) (locs : List Loc) (ls : Array Slot), va_P D vwCl ((a_m, .inr (11, (.ref a_m_cutRows :: .ref a_m_cutColumns :: .ref a_m_deep :: .ref a_m_wide :: .ref a_m_zonesAhead :: .ref a_m_nameOne :: .ref a_m_nameOther :: .ref a_m_tape :: .int m_taped :: .int m_place :: .int m_fault :: .int m_number :: .int m_levelRead :: .int m_keyRead :: .int m_reads :: .int m_faults :: .int m_cutShort :: .int m_noNumber :: .long m_bottomLat :: .long m_bottomLon :: .ref a_m_edges :: .int m_firstBeside :: .int m_manyBeside :: .ref a_m_dist :: .ref a_m_queue :: .int m_queued :: .int m_boxLevel :: .int m_boxTop :: .int m_boxBottom :: .int m_boxWest :: .int m_boxEast :: .int m_isEarly :: .int m_pieces :: .int m_states :: .ref a_m_pieceLevel :: .ref a_m_pieceKey :: .ref a_m_pieceYear :: .int m_drawnNow :: .ref a_m_drawnKeys :: .ref a_m_kept :: .int m_keptAt :: .ref a_m_noNumbers :: []))) :: (a_m_cutRows, .inl (ci 0, 5, .inl m_cutRows)) :: (a_m_cutColumns, .inl (ci 0, 5, .inl m_cutColumns)) :: (a_m_deep, .inl (ci 0, 5, .inl f7)) :: (a_m_wide, .inl (ci 0, 5, .inl f8)) :: Rw) H → va_D A ((a_m, .inr (11, (.ref a_m_cutRows :: .ref a_m_cutColumns :: .ref a_m_deep :: .ref a_m_wide :: .ref a_m_zonesAhead :: .ref a_m_nameOne :: .ref a_m_nameOther :: .ref a_m_tape :: .int m_taped :: .int m_place :: .int m_fault :: .int m_number :: .int m_levelRead :: .int m_keyRead :: .int m_reads :: .int m_faults :: .int m_cutShort :: .int m_noNumber :: .long m_bottomLat :: .long m_bottomLon :: .ref a_m_edges :: .int m_firstBeside :: .int m_manyBeside :: .ref a_m_dist :: .ref a_m_queue :: .int m_queued :: .int m_boxLevel :: .int m_boxTop :: .int m_boxBottom :: .int m_boxWest :: .int m_boxEast :: .int m_isEarly :: .int m_pieces :: .int m_states :: .ref a_m_pieceLevel :: .ref a_m_pieceKey :: .ref a_m_pieceYear :: .int m_drawnNow :: .ref a_m_drawnKeys :: .ref a_m_kept :: .int m_keptAt :: .ref a_m_noNumbers :: []))) :: (a_m_cutRows, .inl (ci 0, 5, .inl m_cutRows)) :: (a_m_cutColumns, .inl (ci 0, 5, .inl m_cutColumns)) :: (a_m_deep, .inl (ci 0, 5, .inl f7)) :: (a_m_wide, .inl (ci 0, 5, .inl f8)) :: Rw) → va_S A s.heap H locs → lv_has ls 2 [] → W p l e ({ frames := 0, cells := 0, slots := 0, locals := 0 } : Room) s m ([.ref a_m] : List Value).toArray below meth c H locs 0 0 Q (F0 m 69 ls []) := by
      intro H locs ls hP hD hS hl
      obtain ⟨rfl, rfl⟩ := q_inj2 (Option.some.inj hf)
      rw [hQ]
      exact q_vret (pc := 69) hx hb hr hlocks hP hD hS dX11_laysGrids_69
    have LP16 : ∀ (n16 : Nat) (v4 : Int32) (f5 : Nat → Int32) (f6 : Nat → Int32) (H : Heap) (locs : List Loc) (ls : Array Slot), f_M_laysGrids_L16 m_cutColumns m_cutRows n16 v4 f5 f6 = some (f7, f8) → va_P D vwCl ((a_m, .inr (11, (.ref a_m_cutRows :: .ref a_m_cutColumns :: .ref a_m_deep :: .ref a_m_wide :: .ref a_m_zonesAhead :: .ref a_m_nameOne :: .ref a_m_nameOther :: .ref a_m_tape :: .int m_taped :: .int m_place :: .int m_fault :: .int m_number :: .int m_levelRead :: .int m_keyRead :: .int m_reads :: .int m_faults :: .int m_cutShort :: .int m_noNumber :: .long m_bottomLat :: .long m_bottomLon :: .ref a_m_edges :: .int m_firstBeside :: .int m_manyBeside :: .ref a_m_dist :: .ref a_m_queue :: .int m_queued :: .int m_boxLevel :: .int m_boxTop :: .int m_boxBottom :: .int m_boxWest :: .int m_boxEast :: .int m_isEarly :: .int m_pieces :: .int m_states :: .ref a_m_pieceLevel :: .ref a_m_pieceKey :: .ref a_m_pieceYear :: .int m_drawnNow :: .ref a_m_drawnKeys :: .ref a_m_kept :: .int m_keptAt :: .ref a_m_noNumbers :: []))) :: (a_m_cutRows, .inl (ci 0, 5, .inl m_cutRows)) :: (a_m_cutColumns, .inl (ci 0, 5, .inl m_cutColumns)) :: (a_m_deep, .inl (ci 0, 5, .inl f5)) :: (a_m_wide, .inl (ci 0, 5, .inl f6)) :: Rw) H → va_D A ((a_m, .inr (11, (.ref a_m_cutRows :: .ref a_m_cutColumns :: .ref a_m_deep :: .ref a_m_wide :: .ref a_m_zonesAhead :: .ref a_m_nameOne :: .ref a_m_nameOther :: .ref a_m_tape :: .int m_taped :: .int m_place :: .int m_fault :: .int m_number :: .int m_levelRead :: .int m_keyRead :: .int m_reads :: .int m_faults :: .int m_cutShort :: .int m_noNumber :: .long m_bottomLat :: .long m_bottomLon :: .ref a_m_edges :: .int m_firstBeside :: .int m_manyBeside :: .ref a_m_dist :: .ref a_m_queue :: .int m_queued :: .int m_boxLevel :: .int m_boxTop :: .int m_boxBottom :: .int m_boxWest :: .int m_boxEast :: .int m_isEarly :: .int m_pieces :: .int m_states :: .ref a_m_pieceLevel :: .ref a_m_pieceKey :: .ref a_m_pieceYear :: .int m_drawnNow :: .ref a_m_drawnKeys :: .ref a_m_kept :: .int m_keptAt :: .ref a_m_noNumbers :: []))) :: (a_m_cutRows, .inl (ci 0, 5, .inl m_cutRows)) :: (a_m_cutColumns, .inl (ci 0, 5, .inl m_cutColumns)) :: (a_m_deep, .inl (ci 0, 5, .inl f5)) :: (a_m_wide, .inl (ci 0, 5, .inl f6)) :: Rw) → va_S A s.heap H locs → lv_has ls 2 [(0, .ref a_m), (1, .int v4)] → W p l e ({ frames := 0, cells := 0, slots := 0, locals := 0 } : Room) s m ([.ref a_m] : List Value).toArray below meth c H locs 0 0 Q (F0 m 16 ls []) := by
      intro n16
      induction n16 with
      | zero => intro v4 f5 f6 H locs ls hf; rw [f_M_laysGrids_L16] at hf; cases hf
      | succ n16 ih16 =>
        intro v4 f5 f6 H locs ls hf hP hD hS hl
        rw [f_M_laysGrids_L16] at hf
        refine lv_iload_n (pc := 16) hx hb dX11_laysGrids_16 rfl (lv_at hl 1 rfl) ?_
        refine lv_iconst (pc := 17) (v := 5) hx hb dX11_laysGrids_17 (by decide) ?_
        refine q_icmp_ge (pc := 18) (tgt := 69) hx hb dX11_laysGrids_18 (by decide) rfl hf (fun hf => ?_) (fun hf => ?_)
        · obtain ⟨rfl, rfl⟩ := q_inj2 (Option.some.inj hf)
          exact JE16 _ _ _ hP hD hS (lv_sub hl [] rfl)
        · refine lv_aload_n (pc := 21) hx hb dX11_laysGrids_21 rfl (lv_at hl 0 rfl) ?_
          refine va_get (pc := 22) (D := D) (ci := 11) (v := .ref a_m_deep) (C := RX11) (T := TX11) (N := 42) hx hb hts hinX11 hown hK hP 0 rfl rfl 2 (by decide) w_1 (fun _ h9 => h9) rfl dX11_laysGrids_22 ?_
          refine lv_iload_n (pc := 25) hx hb dX11_laysGrids_25 rfl (lv_at hl 1 rfl) ?_
          refine lv_aload_n (pc := 26) hx hb dX11_laysGrids_26 rfl (lv_at hl 0 rfl) ?_
          refine va_get (pc := 27) (D := D) (ci := 11) (v := .ref a_m_deep) (C := RX11) (T := TX11) (N := 42) hx hb hts hinX11 hown hK hP 0 rfl rfl 2 (by decide) w_1 (fun _ h9 => h9) rfl dX11_laysGrids_27 ?_
          refine lv_iload_n (pc := 30) hx hb dX11_laysGrids_30 rfl (lv_at hl 1 rfl) ?_
          refine lv_iconst (pc := 31) (v := 1) hx hb dX11_laysGrids_31 (by decide) ?_
          refine lv_isub (pc := 32) hx hb dX11_laysGrids_32 ?_
          refine q_iald (pc := 33) hx hb hK hP 3 0 hf rfl rfl dX11_laysGrids_33 (fun v9 hf => ?_)
          refine lv_aload_n (pc := 34) hx hb dX11_laysGrids_34 rfl (lv_at hl 0 rfl) ?_
          refine va_get (pc := 35) (D := D) (ci := 11) (v := .ref a_m_cutRows) (C := RX11) (T := TX11) (N := 42) hx hb hts hinX11 hown hK hP 0 rfl rfl 0 (by decide) w_3 (fun _ h9 => h9) rfl dX11_laysGrids_35 ?_
          refine lv_iload_n (pc := 38) hx hb dX11_laysGrids_38 rfl (lv_at hl 1 rfl) ?_
          refine q_iald (pc := 39) hx hb hK hP 1 0 hf rfl rfl dX11_laysGrids_39 (fun v10 hf => ?_)
          refine lv_imul (pc := 40) hx hb dX11_laysGrids_40 ?_
          refine q_iast (pc := 41) hx hb hK hP hD hS 3 0 hf rfl rfl dX11_laysGrids_41 (fun f11 H locs hf hP hD hS => ?_)
          obtain ⟨hP, hD⟩ : va_PD D A ((a_m, .inr (11, (.ref a_m_cutRows :: .ref a_m_cutColumns :: .ref a_m_deep :: .ref a_m_wide :: .ref a_m_zonesAhead :: .ref a_m_nameOne :: .ref a_m_nameOther :: .ref a_m_tape :: .int m_taped :: .int m_place :: .int m_fault :: .int m_number :: .int m_levelRead :: .int m_keyRead :: .int m_reads :: .int m_faults :: .int m_cutShort :: .int m_noNumber :: .long m_bottomLat :: .long m_bottomLon :: .ref a_m_edges :: .int m_firstBeside :: .int m_manyBeside :: .ref a_m_dist :: .ref a_m_queue :: .int m_queued :: .int m_boxLevel :: .int m_boxTop :: .int m_boxBottom :: .int m_boxWest :: .int m_boxEast :: .int m_isEarly :: .int m_pieces :: .int m_states :: .ref a_m_pieceLevel :: .ref a_m_pieceKey :: .ref a_m_pieceYear :: .int m_drawnNow :: .ref a_m_drawnKeys :: .ref a_m_kept :: .int m_keptAt :: .ref a_m_noNumbers :: []))) :: (a_m_cutRows, .inl (ci 0, 5, .inl m_cutRows)) :: (a_m_cutColumns, .inl (ci 0, 5, .inl m_cutColumns)) :: (a_m_deep, .inl (ci 0, 5, .inl f11)) :: (a_m_wide, .inl (ci 0, 5, .inl f6)) :: Rw) H := ⟨hP, hD⟩
          refine lv_aload_n (pc := 42) hx hb dX11_laysGrids_42 rfl (lv_at hl 0 rfl) ?_
          refine va_get (pc := 43) (D := D) (ci := 11) (v := .ref a_m_wide) (C := RX11) (T := TX11) (N := 42) hx hb hts hinX11 hown hK hP 0 rfl rfl 3 (by decide) w_2 (fun _ h9 => h9) rfl dX11_laysGrids_43 ?_
          refine lv_iload_n (pc := 46) hx hb dX11_laysGrids_46 rfl (lv_at hl 1 rfl) ?_
          refine lv_aload_n (pc := 47) hx hb dX11_laysGrids_47 rfl (lv_at hl 0 rfl) ?_
          refine va_get (pc := 48) (D := D) (ci := 11) (v := .ref a_m_wide) (C := RX11) (T := TX11) (N := 42) hx hb hts hinX11 hown hK hP 0 rfl rfl 3 (by decide) w_2 (fun _ h9 => h9) rfl dX11_laysGrids_48 ?_
          refine lv_iload_n (pc := 51) hx hb dX11_laysGrids_51 rfl (lv_at hl 1 rfl) ?_
          refine lv_iconst (pc := 52) (v := 1) hx hb dX11_laysGrids_52 (by decide) ?_
          refine lv_isub (pc := 53) hx hb dX11_laysGrids_53 ?_
          refine q_iald (pc := 54) hx hb hK hP 4 0 hf rfl rfl dX11_laysGrids_54 (fun v12 hf => ?_)
          refine lv_aload_n (pc := 55) hx hb dX11_laysGrids_55 rfl (lv_at hl 0 rfl) ?_
          refine va_get (pc := 56) (D := D) (ci := 11) (v := .ref a_m_cutColumns) (C := RX11) (T := TX11) (N := 42) hx hb hts hinX11 hown hK hP 0 rfl rfl 1 (by decide) w_4 (fun _ h9 => h9) rfl dX11_laysGrids_56 ?_
          refine lv_iload_n (pc := 59) hx hb dX11_laysGrids_59 rfl (lv_at hl 1 rfl) ?_
          refine q_iald (pc := 60) hx hb hK hP 2 0 hf rfl rfl dX11_laysGrids_60 (fun v13 hf => ?_)
          refine lv_imul (pc := 61) hx hb dX11_laysGrids_61 ?_
          refine q_iast (pc := 62) hx hb hK hP hD hS 4 0 hf rfl rfl dX11_laysGrids_62 (fun f14 H locs hf hP hD hS => ?_)
          obtain ⟨hP, hD⟩ : va_PD D A ((a_m, .inr (11, (.ref a_m_cutRows :: .ref a_m_cutColumns :: .ref a_m_deep :: .ref a_m_wide :: .ref a_m_zonesAhead :: .ref a_m_nameOne :: .ref a_m_nameOther :: .ref a_m_tape :: .int m_taped :: .int m_place :: .int m_fault :: .int m_number :: .int m_levelRead :: .int m_keyRead :: .int m_reads :: .int m_faults :: .int m_cutShort :: .int m_noNumber :: .long m_bottomLat :: .long m_bottomLon :: .ref a_m_edges :: .int m_firstBeside :: .int m_manyBeside :: .ref a_m_dist :: .ref a_m_queue :: .int m_queued :: .int m_boxLevel :: .int m_boxTop :: .int m_boxBottom :: .int m_boxWest :: .int m_boxEast :: .int m_isEarly :: .int m_pieces :: .int m_states :: .ref a_m_pieceLevel :: .ref a_m_pieceKey :: .ref a_m_pieceYear :: .int m_drawnNow :: .ref a_m_drawnKeys :: .ref a_m_kept :: .int m_keptAt :: .ref a_m_noNumbers :: []))) :: (a_m_cutRows, .inl (ci 0, 5, .inl m_cutRows)) :: (a_m_cutColumns, .inl (ci 0, 5, .inl m_cutColumns)) :: (a_m_deep, .inl (ci 0, 5, .inl f11)) :: (a_m_wide, .inl (ci 0, 5, .inl f14)) :: Rw) H := ⟨hP, hD⟩
          obtain ⟨v15, ev15, hf⟩ := q_nm_e hf
          refine lv_iinc (pc := 63) (v := v15) (lv' := [(1, .int v15), (0, .ref a_m)]) hx hb dX11_laysGrids_63 hl (k := 1) rfl (by rw [ev15]; rfl) (by decide) rfl (fun ls hl => ?_)
          refine lv_goto (pc := 66) (tgt := 16) hx hb dX11_laysGrids_66 (by decide) ?_
          exact ih16 v15 f11 f14 _ _ _ hf hP hD hS (lv_sub hl [1, 0] rfl)
    exact LP16 N v3 f1 f2 _ _ _ hm16 hP hD hS (lv_sub hl [1, 0] rfl)
  exact hgo _ _ rfl hP hS
end
section
/-! X11_cut -/
set_option maxRecDepth 100000 in
set_option maxHeartbeats 4000000 in
theorem c_M_cut (l : Launch) (D : va_G) (ci : Nat → ClassId) (A : Nat → Prop) (sa : Nat → Nat) (N : Nat) (Rw : va_W) (a_m : Nat) (a_m_cutRows : Nat) (a_m_cutColumns : Nat) (a_m_deep : Nat) (a_m_wide : Nat) (a_m_zonesAhead : Nat) (a_m_nameOne : Nat) (a_m_nameOther : Nat) (a_m_tape : Nat) (a_m_edges : Nat) (a_m_dist : Nat) (a_m_queue : Nat) (a_m_pieceLevel : Nat) (a_m_pieceKey : Nat) (a_m_pieceYear : Nat) (a_m_drawnKeys : Nat) (a_m_kept : Nat) (a_m_noNumbers : Nat) (m_taped : Int32) (m_place : Int32) (m_fault : Int32) (m_number : Int32) (m_levelRead : Int32) (m_keyRead : Int32) (m_reads : Int32) (m_faults : Int32) (m_cutShort : Int32) (m_noNumber : Int32) (m_bottomLat : Int64) (m_bottomLon : Int64) (m_firstBeside : Int32) (m_manyBeside : Int32) (m_queued : Int32) (m_boxLevel : Int32) (m_boxTop : Int32) (m_boxBottom : Int32) (m_boxWest : Int32) (m_boxEast : Int32) (m_isEarly : Int32) (m_pieces : Int32) (m_states : Int32) (m_drawnNow : Int32) (m_keptAt : Int32) (m_cutRows : Nat → Int32) (m_cutColumns : Nat → Int32) (m_deep : Nat → Int32) (m_wide : Nat → Int32) (m_zonesAhead : Nat → Int32) (p1 : Int32) (p2 : Int32) (p3 : Int32) (r : Int32) (o1 : Nat → Int32) (o2 : Nat → Int32) (o3 : Nat → Int32) (o4 : Nat → Int32) (hf : f_M_cut N m_cutRows m_cutColumns m_deep m_wide m_zonesAhead m_pieces p1 p2 p3 = some (r, o1, o2, o3, o4)) : Met l yX11_cut wsX11_cut ({ frames := 1, cells := 0, slots := 0, locals := 25 }) (va_Pc [.ref a_m, .int p1, .int p2, .int p3] (q_N D ci A sa ((a_m, .inr (11, (.ref a_m_cutRows :: .ref a_m_cutColumns :: .ref a_m_deep :: .ref a_m_wide :: .ref a_m_zonesAhead :: .ref a_m_nameOne :: .ref a_m_nameOther :: .ref a_m_tape :: .int m_taped :: .int m_place :: .int m_fault :: .int m_number :: .int m_levelRead :: .int m_keyRead :: .int m_reads :: .int m_faults :: .int m_cutShort :: .int m_noNumber :: .long m_bottomLat :: .long m_bottomLon :: .ref a_m_edges :: .int m_firstBeside :: .int m_manyBeside :: .ref a_m_dist :: .ref a_m_queue :: .int m_queued :: .int m_boxLevel :: .int m_boxTop :: .int m_boxBottom :: .int m_boxWest :: .int m_boxEast :: .int m_isEarly :: .int m_pieces :: .int m_states :: .ref a_m_pieceLevel :: .ref a_m_pieceKey :: .ref a_m_pieceYear :: .int m_drawnNow :: .ref a_m_drawnKeys :: .ref a_m_kept :: .int m_keptAt :: .ref a_m_noNumbers :: []))) :: (a_m_cutRows, .inl (ci 0, 5, .inl m_cutRows)) :: (a_m_cutColumns, .inl (ci 0, 5, .inl m_cutColumns)) :: (a_m_deep, .inl (ci 0, 5, .inl m_deep)) :: (a_m_wide, .inl (ci 0, 5, .inl m_wide)) :: (a_m_zonesAhead, .inl (ci 0, 45, .inl m_zonesAhead)) :: Rw))) (q_Q (some (.int r)) (q_O D A ((a_m, .inr (11, (.ref a_m_cutRows :: .ref a_m_cutColumns :: .ref a_m_deep :: .ref a_m_wide :: .ref a_m_zonesAhead :: .ref a_m_nameOne :: .ref a_m_nameOther :: .ref a_m_tape :: .int m_taped :: .int m_place :: .int m_fault :: .int m_number :: .int m_levelRead :: .int m_keyRead :: .int m_reads :: .int m_faults :: .int m_cutShort :: .int m_noNumber :: .long m_bottomLat :: .long m_bottomLon :: .ref a_m_edges :: .int m_firstBeside :: .int m_manyBeside :: .ref a_m_dist :: .ref a_m_queue :: .int m_queued :: .int m_boxLevel :: .int m_boxTop :: .int m_boxBottom :: .int m_boxWest :: .int m_boxEast :: .int m_isEarly :: .int m_pieces :: .int m_states :: .ref a_m_pieceLevel :: .ref a_m_pieceKey :: .ref a_m_pieceYear :: .int m_drawnNow :: .ref a_m_drawnKeys :: .ref a_m_kept :: .int m_keptAt :: .ref a_m_noNumbers :: []))) :: (a_m_cutRows, .inl (ci 0, 5, .inl o1)) :: (a_m_cutColumns, .inl (ci 0, 5, .inl o2)) :: (a_m_deep, .inl (ci 0, 5, .inl o3)) :: (a_m_wide, .inl (ci 0, 5, .inl o4)) :: (a_m_zonesAhead, .inl (ci 0, 45, .inl m_zonesAhead)) :: Rw)) A) 0 0 A := by
  refine q_ofW (cc := cX11_cut) (maxL := 7) (ret := (some .int)) [.ref a_m, .int p1, .int p2, .int p3] (plainFor_of_name (by decide)) rfl (Nat.le_of_ble_eq_true rfl) ?_
  intro p e s m below meth c ls Q hQ hx hb hml hr hts hown hlocks hK hA hZ hP hD hS hl
  have hl : lv_has ls 7 [(0, .ref a_m), (1, .int p1), (2, .int p2), (3, .int p3)] := hl
  have hown : s.vm.findClass RX11 = some m.cls := hown
  have hinX11 : ∀ w ∈ wsX110, w ∈ wsX11_cut := fun _ h => List.mem_cons_of_mem _ (inWX110 _ h)
  have w_1 := hts (Cond.constantLong RX11 70 (4)) (List.mem_cons_of_mem _ t_w956)
  have w_2 := hts (Cond.constantLong RX11 121 (6)) (List.mem_cons_of_mem _ t_w975)
  have w_3 := hts (Cond.fieldLink RX11 123 "SheetNamesModel" "pieces" "I") (List.mem_cons_of_mem _ t_w972)
  have w_4 := hts (Cond.fieldLink RX11 22 "SheetNamesModel" "zonesAhead" "[I") (List.mem_cons_of_mem _ t_w910)
  have w_5 := hts (Cond.fieldLink RX11 7 "SheetNamesModel" "cutRows" "[I") (List.mem_cons_of_mem _ t_w924)
  have w_6 := hts (Cond.fieldLink RX11 13 "SheetNamesModel" "cutColumns" "[I") (List.mem_cons_of_mem _ t_w923)
  have w_7 := hts (Cond.constantLong RX11 127 (2)) (List.mem_cons_of_mem _ t_w945)
  have w_8 := hts (Cond.constantLong RX11 129 (20000000)) (List.mem_cons_of_mem _ t_w976)
  unfold f_M_cut at hf
  have hgo : ∀ (H : Heap) (locs : List Loc), H = s.heap → va_P D vwCl ((a_m, .inr (11, (.ref a_m_cutRows :: .ref a_m_cutColumns :: .ref a_m_deep :: .ref a_m_wide :: .ref a_m_zonesAhead :: .ref a_m_nameOne :: .ref a_m_nameOther :: .ref a_m_tape :: .int m_taped :: .int m_place :: .int m_fault :: .int m_number :: .int m_levelRead :: .int m_keyRead :: .int m_reads :: .int m_faults :: .int m_cutShort :: .int m_noNumber :: .long m_bottomLat :: .long m_bottomLon :: .ref a_m_edges :: .int m_firstBeside :: .int m_manyBeside :: .ref a_m_dist :: .ref a_m_queue :: .int m_queued :: .int m_boxLevel :: .int m_boxTop :: .int m_boxBottom :: .int m_boxWest :: .int m_boxEast :: .int m_isEarly :: .int m_pieces :: .int m_states :: .ref a_m_pieceLevel :: .ref a_m_pieceKey :: .ref a_m_pieceYear :: .int m_drawnNow :: .ref a_m_drawnKeys :: .ref a_m_kept :: .int m_keptAt :: .ref a_m_noNumbers :: []))) :: (a_m_cutRows, .inl (ci 0, 5, .inl m_cutRows)) :: (a_m_cutColumns, .inl (ci 0, 5, .inl m_cutColumns)) :: (a_m_deep, .inl (ci 0, 5, .inl m_deep)) :: (a_m_wide, .inl (ci 0, 5, .inl m_wide)) :: (a_m_zonesAhead, .inl (ci 0, 45, .inl m_zonesAhead)) :: Rw) H → va_S A s.heap H locs → W p l e ({ frames := 1, cells := 0, slots := 0, locals := 25 } : Room) s m ([.ref a_m, .int p1, .int p2, .int p3] : List Value).toArray below meth c H locs 0 0 Q (F0 m 0 ls []) := by
    intro H locs hH hP hS
    refine lv_iload_n (pc := 0) hx hb dX11_cut_0 rfl (lv_at hl 1 rfl) ?_
    refine lv_i2l (pc := 1) hx hb dX11_cut_1 rfl ?_
    refine lv_lconst (pc := 2) (v := 1) hx hb dX11_cut_2 (by decide) ?_
    refine lv_ldc2 (pc := 3) (v := 4) hx hb hown w_1 dX11_cut_3 ?_
    obtain ⟨v1, hm6, hf⟩ := q_b1_e hf
    refine q_cSr (pc := 6) (As := [.long p1.toInt64, .long 1, .long 4]) (rest := []) (v0 := (some (.int v1))) ⟨hx, hb, hml, hown, hts⟩ hK hA hZ hP hD hS hl.1 [] 6 rfl ⟨rfl, rfl, rfl⟩ (c_M_in l D ci A sa N (Rw) p1.toInt64 1 4 v1 hm6) (va_cwS 3 hts gX11_cut_X11_in rfl rfl rfl (by decide +kernel) ⟨Nat.le_of_ble_eq_true rfl, Nat.le_of_ble_eq_true rfl⟩) rfl rfl (Nat.le_of_ble_eq_true rfl) dX11_cut_6 ⟨Nat.zero_le _, Nat.zero_le _⟩ (fun locs hS => ?_)
    refine q_if_eq (pc := 9) (tgt := 36) hx hb dX11_cut_9 (by decide) rfl hf (fun hf => ?_) (fun hf => ?_)
    · refine lv_iconst (pc := 36) (v := (-1)) hx hb dX11_cut_36 (by decide) ?_
      obtain ⟨e90, e91, e92, e93, e94⟩ := q_inj5 (Option.some.inj hf)
      rw [hQ, ← e90, ← e91, ← e92, ← e93, ← e94]
      exact q_iret (pc := 37) hx hb hr hlocks hP hD hS dX11_cut_37
    · refine lv_iload_n (pc := 12) hx hb dX11_cut_12 rfl (lv_at hl 2 rfl) ?_
      refine lv_i2l (pc := 13) hx hb dX11_cut_13 rfl ?_
      refine lv_lconst (pc := 14) (v := 1) hx hb dX11_cut_14 (by decide) ?_
      refine lv_ldc2 (pc := 15) (v := 6) hx hb hown w_2 dX11_cut_15 ?_
      obtain ⟨v2, hm18, hf⟩ := q_b1_e hf
      refine q_cSr (pc := 18) (As := [.long p2.toInt64, .long 1, .long 6]) (rest := []) (v0 := (some (.int v2))) ⟨hx, hb, hml, hown, hts⟩ hK hA hZ hP hD hS hl.1 [] 6 rfl ⟨rfl, rfl, rfl⟩ (c_M_in l D ci A sa N (Rw) p2.toInt64 1 6 v2 hm18) (va_cwS 3 hts gX11_cut_X11_in rfl rfl rfl (by decide +kernel) ⟨Nat.le_of_ble_eq_true rfl, Nat.le_of_ble_eq_true rfl⟩) rfl rfl (Nat.le_of_ble_eq_true rfl) dX11_cut_18 ⟨Nat.zero_le _, Nat.zero_le _⟩ (fun locs hS => ?_)
      refine q_if_eq (pc := 21) (tgt := 36) hx hb dX11_cut_21 (by decide) rfl hf (fun hf => ?_) (fun hf => ?_)
      · refine lv_iconst (pc := 36) (v := (-1)) hx hb dX11_cut_36 (by decide) ?_
        obtain ⟨e90, e91, e92, e93, e94⟩ := q_inj5 (Option.some.inj hf)
        rw [hQ, ← e90, ← e91, ← e92, ← e93, ← e94]
        exact q_iret (pc := 37) hx hb hr hlocks hP hD hS dX11_cut_37
      · refine lv_iload_n (pc := 24) hx hb dX11_cut_24 rfl (lv_at hl 3 rfl) ?_
        refine lv_i2l (pc := 25) hx hb dX11_cut_25 rfl ?_
        refine lv_lconst (pc := 26) (v := 1) hx hb dX11_cut_26 (by decide) ?_
        refine lv_ldc2 (pc := 27) (v := 6) hx hb hown w_2 dX11_cut_27 ?_
        obtain ⟨v3, hm30, hf⟩ := q_b1_e hf
        refine q_cSr (pc := 30) (As := [.long p3.toInt64, .long 1, .long 6]) (rest := []) (v0 := (some (.int v3))) ⟨hx, hb, hml, hown, hts⟩ hK hA hZ hP hD hS hl.1 [] 6 rfl ⟨rfl, rfl, rfl⟩ (c_M_in l D ci A sa N (Rw) p3.toInt64 1 6 v3 hm30) (va_cwS 3 hts gX11_cut_X11_in rfl rfl rfl (by decide +kernel) ⟨Nat.le_of_ble_eq_true rfl, Nat.le_of_ble_eq_true rfl⟩) rfl rfl (Nat.le_of_ble_eq_true rfl) dX11_cut_30 ⟨Nat.zero_le _, Nat.zero_le _⟩ (fun locs hS => ?_)
        refine q_if_ne (pc := 33) (tgt := 38) hx hb dX11_cut_33 (by decide) rfl hf (fun hf => ?_) (fun hf => ?_)
        · refine lv_aload_n (pc := 38) hx hb dX11_cut_38 rfl (lv_at hl 0 rfl) ?_
          refine va_get (pc := 39) (D := D) (ci := 11) (v := .int m_pieces) (C := RX11) (T := TX11) (N := 42) hx hb hts hinX11 hown hK hP 0 rfl rfl 32 (by decide) w_3 (fun _ h9 => h9) rfl dX11_cut_39 ?_
          refine q_if_le (pc := 42) (tgt := 48) hx hb dX11_cut_42 (by decide) rfl hf (fun hf => ?_) (fun hf => ?_)
          · refine lv_aload_n (pc := 48) hx hb dX11_cut_48 rfl (lv_at hl 0 rfl) ?_
            refine va_get (pc := 49) (D := D) (ci := 11) (v := .ref a_m_zonesAhead) (C := RX11) (T := TX11) (N := 42) hx hb hts hinX11 hown hK hP 0 rfl rfl 4 (by decide) w_4 (fun _ h9 => h9) rfl dX11_cut_49 ?_
            refine lv_bipush (pc := 52) (v := 44) hx hb dX11_cut_52 (by decide) ?_
            refine q_iald (pc := 54) hx hb hK hP 5 0 hf rfl rfl dX11_cut_54 (fun v4 hf => ?_)
            refine lv_i2l (pc := 55) hx hb dX11_cut_55 rfl ?_
            obtain ⟨v5, ev5, hf⟩ := q_nm_e hf
            refine q_topl ev5 ?_
            refine lv_lstore (pc := 56) (lv' := [(4, .long v5), (0, .ref a_m), (1, .int p1), (2, .int p2), (3, .int p3)]) hx hb dX11_cut_56 hl (by decide) rfl (fun ls hl => ?_)
            refine lv_iconst (pc := 58) (v := 1) hx hb dX11_cut_58 (by decide) ?_
            obtain ⟨v6, ev6, hf⟩ := q_nm_e hf
            refine q_topi ev6 ?_
            refine lv_istore (pc := 59) (lv' := [(6, .int v6), (4, .long v5), (0, .ref a_m), (1, .int p1), (2, .int p2), (3, .int p3)]) hx hb dX11_cut_59 hl (by decide) rfl (fun ls hl => ?_)
            obtain ⟨v9, hm61, hf⟩ := q_b1_e hf
            have JE61 : ∀ (H : Heap) (locs : List Loc) (ls : Array Slot), va_P D vwCl ((a_m, .inr (11, (.ref a_m_cutRows :: .ref a_m_cutColumns :: .ref a_m_deep :: .ref a_m_wide :: .ref a_m_zonesAhead :: .ref a_m_nameOne :: .ref a_m_nameOther :: .ref a_m_tape :: .int m_taped :: .int m_place :: .int m_fault :: .int m_number :: .int m_levelRead :: .int m_keyRead :: .int m_reads :: .int m_faults :: .int m_cutShort :: .int m_noNumber :: .long m_bottomLat :: .long m_bottomLon :: .ref a_m_edges :: .int m_firstBeside :: .int m_manyBeside :: .ref a_m_dist :: .ref a_m_queue :: .int m_queued :: .int m_boxLevel :: .int m_boxTop :: .int m_boxBottom :: .int m_boxWest :: .int m_boxEast :: .int m_isEarly :: .int m_pieces :: .int m_states :: .ref a_m_pieceLevel :: .ref a_m_pieceKey :: .ref a_m_pieceYear :: .int m_drawnNow :: .ref a_m_drawnKeys :: .ref a_m_kept :: .int m_keptAt :: .ref a_m_noNumbers :: []))) :: (a_m_cutRows, .inl (ci 0, 5, .inl m_cutRows)) :: (a_m_cutColumns, .inl (ci 0, 5, .inl m_cutColumns)) :: (a_m_deep, .inl (ci 0, 5, .inl m_deep)) :: (a_m_wide, .inl (ci 0, 5, .inl m_wide)) :: (a_m_zonesAhead, .inl (ci 0, 45, .inl m_zonesAhead)) :: Rw) H → va_D A ((a_m, .inr (11, (.ref a_m_cutRows :: .ref a_m_cutColumns :: .ref a_m_deep :: .ref a_m_wide :: .ref a_m_zonesAhead :: .ref a_m_nameOne :: .ref a_m_nameOther :: .ref a_m_tape :: .int m_taped :: .int m_place :: .int m_fault :: .int m_number :: .int m_levelRead :: .int m_keyRead :: .int m_reads :: .int m_faults :: .int m_cutShort :: .int m_noNumber :: .long m_bottomLat :: .long m_bottomLon :: .ref a_m_edges :: .int m_firstBeside :: .int m_manyBeside :: .ref a_m_dist :: .ref a_m_queue :: .int m_queued :: .int m_boxLevel :: .int m_boxTop :: .int m_boxBottom :: .int m_boxWest :: .int m_boxEast :: .int m_isEarly :: .int m_pieces :: .int m_states :: .ref a_m_pieceLevel :: .ref a_m_pieceKey :: .ref a_m_pieceYear :: .int m_drawnNow :: .ref a_m_drawnKeys :: .ref a_m_kept :: .int m_keptAt :: .ref a_m_noNumbers :: []))) :: (a_m_cutRows, .inl (ci 0, 5, .inl m_cutRows)) :: (a_m_cutColumns, .inl (ci 0, 5, .inl m_cutColumns)) :: (a_m_deep, .inl (ci 0, 5, .inl m_deep)) :: (a_m_wide, .inl (ci 0, 5, .inl m_wide)) :: (a_m_zonesAhead, .inl (ci 0, 45, .inl m_zonesAhead)) :: Rw) → va_S A s.heap H locs → lv_has ls 7 [(0, .ref a_m), (1, .int p1), (2, .int p2), (3, .int p3), (4, .long v9)] → W p l e ({ frames := 1, cells := 0, slots := 0, locals := 25 } : Room) s m ([.ref a_m, .int p1, .int p2, .int p3] : List Value).toArray below meth c H locs 0 0 Q (F0 m 106 ls []) := by
              intro H locs ls hP hD hS hl
              refine lv_lload (pc := 106) hx hb dX11_cut_106 (lv_at hl 4 rfl) ?_
              refine lv_ldc2 (pc := 108) (v := 2) hx hb hown w_7 dX11_cut_108 ?_
              refine lv_ladd (pc := 111) hx hb dX11_cut_111 ?_
              refine lv_ldc2 (pc := 112) (v := 20000000) hx hb hown w_8 dX11_cut_112 ?_
              refine W.lcmp (pc := 115) hx hb dX11_cut_115 ?_
              refine q_if_le (pc := 116) (tgt := 122) hx hb dX11_cut_116 (by decide) rfl hf (fun hf => ?_) (fun hf => ?_)
              · refine lv_aload_n (pc := 122) hx hb dX11_cut_122 rfl (lv_at hl 0 rfl) ?_
                refine va_get (pc := 123) (D := D) (ci := 11) (v := .ref a_m_cutRows) (C := RX11) (T := TX11) (N := 42) hx hb hts hinX11 hown hK hP 0 rfl rfl 0 (by decide) w_5 (fun _ h9 => h9) rfl dX11_cut_123 ?_
                refine lv_iload_n (pc := 126) hx hb dX11_cut_126 rfl (lv_at hl 1 rfl) ?_
                refine lv_iload_n (pc := 127) hx hb dX11_cut_127 rfl (lv_at hl 2 rfl) ?_
                refine q_iast (pc := 128) hx hb hK hP hD hS 1 0 hf rfl rfl dX11_cut_128 (fun f10 H locs hf hP hD hS => ?_)
                obtain ⟨hP, hD⟩ : va_PD D A ((a_m, .inr (11, (.ref a_m_cutRows :: .ref a_m_cutColumns :: .ref a_m_deep :: .ref a_m_wide :: .ref a_m_zonesAhead :: .ref a_m_nameOne :: .ref a_m_nameOther :: .ref a_m_tape :: .int m_taped :: .int m_place :: .int m_fault :: .int m_number :: .int m_levelRead :: .int m_keyRead :: .int m_reads :: .int m_faults :: .int m_cutShort :: .int m_noNumber :: .long m_bottomLat :: .long m_bottomLon :: .ref a_m_edges :: .int m_firstBeside :: .int m_manyBeside :: .ref a_m_dist :: .ref a_m_queue :: .int m_queued :: .int m_boxLevel :: .int m_boxTop :: .int m_boxBottom :: .int m_boxWest :: .int m_boxEast :: .int m_isEarly :: .int m_pieces :: .int m_states :: .ref a_m_pieceLevel :: .ref a_m_pieceKey :: .ref a_m_pieceYear :: .int m_drawnNow :: .ref a_m_drawnKeys :: .ref a_m_kept :: .int m_keptAt :: .ref a_m_noNumbers :: []))) :: (a_m_cutRows, .inl (ci 0, 5, .inl f10)) :: (a_m_cutColumns, .inl (ci 0, 5, .inl m_cutColumns)) :: (a_m_deep, .inl (ci 0, 5, .inl m_deep)) :: (a_m_wide, .inl (ci 0, 5, .inl m_wide)) :: (a_m_zonesAhead, .inl (ci 0, 45, .inl m_zonesAhead)) :: Rw) H := ⟨hP, hD⟩
                refine lv_aload_n (pc := 129) hx hb dX11_cut_129 rfl (lv_at hl 0 rfl) ?_
                refine va_get (pc := 130) (D := D) (ci := 11) (v := .ref a_m_cutColumns) (C := RX11) (T := TX11) (N := 42) hx hb hts hinX11 hown hK hP 0 rfl rfl 1 (by decide) w_6 (fun _ h9 => h9) rfl dX11_cut_130 ?_
                refine lv_iload_n (pc := 133) hx hb dX11_cut_133 rfl (lv_at hl 1 rfl) ?_
                refine lv_iload_n (pc := 134) hx hb dX11_cut_134 rfl (lv_at hl 3 rfl) ?_
                refine q_iast (pc := 135) hx hb hK hP hD hS 2 0 hf rfl rfl dX11_cut_135 (fun f11 H locs hf hP hD hS => ?_)
                obtain ⟨hP, hD⟩ : va_PD D A ((a_m, .inr (11, (.ref a_m_cutRows :: .ref a_m_cutColumns :: .ref a_m_deep :: .ref a_m_wide :: .ref a_m_zonesAhead :: .ref a_m_nameOne :: .ref a_m_nameOther :: .ref a_m_tape :: .int m_taped :: .int m_place :: .int m_fault :: .int m_number :: .int m_levelRead :: .int m_keyRead :: .int m_reads :: .int m_faults :: .int m_cutShort :: .int m_noNumber :: .long m_bottomLat :: .long m_bottomLon :: .ref a_m_edges :: .int m_firstBeside :: .int m_manyBeside :: .ref a_m_dist :: .ref a_m_queue :: .int m_queued :: .int m_boxLevel :: .int m_boxTop :: .int m_boxBottom :: .int m_boxWest :: .int m_boxEast :: .int m_isEarly :: .int m_pieces :: .int m_states :: .ref a_m_pieceLevel :: .ref a_m_pieceKey :: .ref a_m_pieceYear :: .int m_drawnNow :: .ref a_m_drawnKeys :: .ref a_m_kept :: .int m_keptAt :: .ref a_m_noNumbers :: []))) :: (a_m_cutRows, .inl (ci 0, 5, .inl f10)) :: (a_m_cutColumns, .inl (ci 0, 5, .inl f11)) :: (a_m_deep, .inl (ci 0, 5, .inl m_deep)) :: (a_m_wide, .inl (ci 0, 5, .inl m_wide)) :: (a_m_zonesAhead, .inl (ci 0, 45, .inl m_zonesAhead)) :: Rw) H := ⟨hP, hD⟩
                refine lv_aload_n (pc := 136) hx hb dX11_cut_136 rfl (lv_at hl 0 rfl) ?_
                obtain ⟨f12, f13, hm137, hf⟩ := q_b2_e hf
                refine q_cV (pc := 137) (As := []) (rest := []) (v0 := none) ⟨hx, hb, hml, hown, hts⟩ hK hA hZ hP hD hS hl.1 [0, 1, 2, 3, 4, 5] 6 rfl ⟨rfl, rfl, rfl⟩ (c_M_laysGrids l D ci A sa N ((a_m_zonesAhead, .inl (ci 0, 45, .inl m_zonesAhead)) :: Rw) a_m a_m_cutRows a_m_cutColumns a_m_deep a_m_wide a_m_zonesAhead a_m_nameOne a_m_nameOther a_m_tape a_m_edges a_m_dist a_m_queue a_m_pieceLevel a_m_pieceKey a_m_pieceYear a_m_drawnKeys a_m_kept a_m_noNumbers m_taped m_place m_fault m_number m_levelRead m_keyRead m_reads m_faults m_cutShort m_noNumber m_bottomLat m_bottomLon m_firstBeside m_manyBeside m_queued m_boxLevel m_boxTop m_boxBottom m_boxWest m_boxEast m_isEarly m_pieces m_states m_drawnNow m_keptAt f10 f11 m_deep m_wide f12 f13 hm137) 0 rfl rfl (cwV 0 hts gX11_cut_X11_laysGrids rfl rfl rfl (by decide +kernel) ⟨Nat.le_of_ble_eq_true rfl, Nat.le_of_ble_eq_true rfl⟩) rfl rfl (Nat.le_of_ble_eq_true rfl) dX11_cut_137 ⟨Nat.zero_le _, Nat.zero_le _⟩ [0, 1, 2, 3, 4, 5] 6 rfl ⟨rfl, rfl, rfl⟩ (fun H locs hP hD hS => ?_)
                obtain ⟨hP, hD⟩ : va_PD D A ((a_m, .inr (11, (.ref a_m_cutRows :: .ref a_m_cutColumns :: .ref a_m_deep :: .ref a_m_wide :: .ref a_m_zonesAhead :: .ref a_m_nameOne :: .ref a_m_nameOther :: .ref a_m_tape :: .int m_taped :: .int m_place :: .int m_fault :: .int m_number :: .int m_levelRead :: .int m_keyRead :: .int m_reads :: .int m_faults :: .int m_cutShort :: .int m_noNumber :: .long m_bottomLat :: .long m_bottomLon :: .ref a_m_edges :: .int m_firstBeside :: .int m_manyBeside :: .ref a_m_dist :: .ref a_m_queue :: .int m_queued :: .int m_boxLevel :: .int m_boxTop :: .int m_boxBottom :: .int m_boxWest :: .int m_boxEast :: .int m_isEarly :: .int m_pieces :: .int m_states :: .ref a_m_pieceLevel :: .ref a_m_pieceKey :: .ref a_m_pieceYear :: .int m_drawnNow :: .ref a_m_drawnKeys :: .ref a_m_kept :: .int m_keptAt :: .ref a_m_noNumbers :: []))) :: (a_m_cutRows, .inl (ci 0, 5, .inl f10)) :: (a_m_cutColumns, .inl (ci 0, 5, .inl f11)) :: (a_m_deep, .inl (ci 0, 5, .inl f12)) :: (a_m_wide, .inl (ci 0, 5, .inl f13)) :: (a_m_zonesAhead, .inl (ci 0, 45, .inl m_zonesAhead)) :: Rw) H := ⟨hP, hD⟩
                refine lv_aload_n (pc := 140) hx hb dX11_cut_140 rfl (lv_at hl 0 rfl) ?_
                refine lv_iload_n (pc := 141) hx hb dX11_cut_141 rfl (lv_at hl 1 rfl) ?_
                obtain ⟨v14, hm142, hf⟩ := q_b1_e hf
                refine q_cVr (pc := 142) (As := [.int p1]) (rest := []) (v0 := (some (.int v14))) ⟨hx, hb, hml, hown, hts⟩ hK hA hZ hP hD hS hl.1 [0, 3, 4, 5] 6 rfl ⟨rfl, rfl, rfl⟩ (c_M_sheets l D ci A sa N (Rw) a_m a_m_cutRows a_m_cutColumns a_m_deep a_m_wide a_m_zonesAhead a_m_nameOne a_m_nameOther a_m_tape a_m_edges a_m_dist a_m_queue a_m_pieceLevel a_m_pieceKey a_m_pieceYear a_m_drawnKeys a_m_kept a_m_noNumbers m_taped m_place m_fault m_number m_levelRead m_keyRead m_reads m_faults m_cutShort m_noNumber m_bottomLat m_bottomLon m_firstBeside m_manyBeside m_queued m_boxLevel m_boxTop m_boxBottom m_boxWest m_boxEast m_isEarly m_pieces m_states m_drawnNow m_keptAt f12 f13 m_zonesAhead p1 v14 hm142) 0 rfl rfl (cwV 1 hts gX11_cut_X11_sheets rfl rfl rfl (by decide +kernel) ⟨Nat.le_of_ble_eq_true rfl, Nat.le_of_ble_eq_true rfl⟩) rfl rfl (Nat.le_of_ble_eq_true rfl) dX11_cut_142 ⟨Nat.zero_le _, Nat.zero_le _⟩ (fun locs hS => ?_)
                obtain ⟨e90, e91, e92, e93, e94⟩ := q_inj5 (Option.some.inj hf)
                rw [hQ, ← e90, ← e91, ← e92, ← e93, ← e94]
                exact q_iret (pc := 145) hx hb hr hlocks hP hD hS dX11_cut_145
              · refine lv_bipush (pc := 119) (v := (-3)) hx hb dX11_cut_119 (by decide) ?_
                obtain ⟨e90, e91, e92, e93, e94⟩ := q_inj5 (Option.some.inj hf)
                rw [hQ, ← e90, ← e91, ← e92, ← e93, ← e94]
                exact q_iret (pc := 121) hx hb hr hlocks hP hD hS dX11_cut_121
            have LP61 : ∀ (n61 : Nat) (v7 : Int64) (v8 : Int32) (H : Heap) (locs : List Loc) (ls : Array Slot), f_M_cut_L61 m_cutColumns m_cutRows p1 p2 p3 n61 v7 v8 = some v9 → va_P D vwCl ((a_m, .inr (11, (.ref a_m_cutRows :: .ref a_m_cutColumns :: .ref a_m_deep :: .ref a_m_wide :: .ref a_m_zonesAhead :: .ref a_m_nameOne :: .ref a_m_nameOther :: .ref a_m_tape :: .int m_taped :: .int m_place :: .int m_fault :: .int m_number :: .int m_levelRead :: .int m_keyRead :: .int m_reads :: .int m_faults :: .int m_cutShort :: .int m_noNumber :: .long m_bottomLat :: .long m_bottomLon :: .ref a_m_edges :: .int m_firstBeside :: .int m_manyBeside :: .ref a_m_dist :: .ref a_m_queue :: .int m_queued :: .int m_boxLevel :: .int m_boxTop :: .int m_boxBottom :: .int m_boxWest :: .int m_boxEast :: .int m_isEarly :: .int m_pieces :: .int m_states :: .ref a_m_pieceLevel :: .ref a_m_pieceKey :: .ref a_m_pieceYear :: .int m_drawnNow :: .ref a_m_drawnKeys :: .ref a_m_kept :: .int m_keptAt :: .ref a_m_noNumbers :: []))) :: (a_m_cutRows, .inl (ci 0, 5, .inl m_cutRows)) :: (a_m_cutColumns, .inl (ci 0, 5, .inl m_cutColumns)) :: (a_m_deep, .inl (ci 0, 5, .inl m_deep)) :: (a_m_wide, .inl (ci 0, 5, .inl m_wide)) :: (a_m_zonesAhead, .inl (ci 0, 45, .inl m_zonesAhead)) :: Rw) H → va_D A ((a_m, .inr (11, (.ref a_m_cutRows :: .ref a_m_cutColumns :: .ref a_m_deep :: .ref a_m_wide :: .ref a_m_zonesAhead :: .ref a_m_nameOne :: .ref a_m_nameOther :: .ref a_m_tape :: .int m_taped :: .int m_place :: .int m_fault :: .int m_number :: .int m_levelRead :: .int m_keyRead :: .int m_reads :: .int m_faults :: .int m_cutShort :: .int m_noNumber :: .long m_bottomLat :: .long m_bottomLon :: .ref a_m_edges :: .int m_firstBeside :: .int m_manyBeside :: .ref a_m_dist :: .ref a_m_queue :: .int m_queued :: .int m_boxLevel :: .int m_boxTop :: .int m_boxBottom :: .int m_boxWest :: .int m_boxEast :: .int m_isEarly :: .int m_pieces :: .int m_states :: .ref a_m_pieceLevel :: .ref a_m_pieceKey :: .ref a_m_pieceYear :: .int m_drawnNow :: .ref a_m_drawnKeys :: .ref a_m_kept :: .int m_keptAt :: .ref a_m_noNumbers :: []))) :: (a_m_cutRows, .inl (ci 0, 5, .inl m_cutRows)) :: (a_m_cutColumns, .inl (ci 0, 5, .inl m_cutColumns)) :: (a_m_deep, .inl (ci 0, 5, .inl m_deep)) :: (a_m_wide, .inl (ci 0, 5, .inl m_wide)) :: (a_m_zonesAhead, .inl (ci 0, 45, .inl m_zonesAhead)) :: Rw) → va_S A s.heap H locs → lv_has ls 7 [(0, .ref a_m), (1, .int p1), (2, .int p2), (3, .int p3), (4, .long v7), (6, .int v8)] → W p l e ({ frames := 1, cells := 0, slots := 0, locals := 25 } : Room) s m ([.ref a_m, .int p1, .int p2, .int p3] : List Value).toArray below meth c H locs 0 0 Q (F0 m 61 ls []) := by
              intro n61
              induction n61 with
              | zero => intro v7 v8 H locs ls hf; rw [f_M_cut_L61] at hf; cases hf
              | succ n61 ih61 =>
                intro v7 v8 H locs ls hf hP hD hS hl
                rw [f_M_cut_L61] at hf
                refine lv_iload (pc := 61) hx hb dX11_cut_61 (lv_at hl 5 rfl) ?_
                refine lv_iconst (pc := 63) (v := 5) hx hb dX11_cut_63 (by decide) ?_
                refine q_icmp_ge (pc := 64) (tgt := 106) hx hb dX11_cut_64 (by decide) rfl hf (fun hf => ?_) (fun hf => ?_)
                · obtain rfl := Option.some.inj hf
                  exact JE61 _ _ _ hP hD hS (lv_sub hl [0, 1, 2, 3, 4] rfl)
                · refine lv_lload (pc := 67) hx hb dX11_cut_67 (lv_at hl 4 rfl) ?_
                  refine lv_iload (pc := 69) hx hb dX11_cut_69 (lv_at hl 5 rfl) ?_
                  refine lv_iload_n (pc := 71) hx hb dX11_cut_71 rfl (lv_at hl 1 rfl) ?_
                  obtain ⟨k96, ek96, hf⟩ := q_j1_e hf
                  have J96 : ∀ (v15 : Int32) (H : Heap) (locs : List Loc) (ls : Array Slot), k96 v15 = some v9 → va_P D vwCl ((a_m, .inr (11, (.ref a_m_cutRows :: .ref a_m_cutColumns :: .ref a_m_deep :: .ref a_m_wide :: .ref a_m_zonesAhead :: .ref a_m_nameOne :: .ref a_m_nameOther :: .ref a_m_tape :: .int m_taped :: .int m_place :: .int m_fault :: .int m_number :: .int m_levelRead :: .int m_keyRead :: .int m_reads :: .int m_faults :: .int m_cutShort :: .int m_noNumber :: .long m_bottomLat :: .long m_bottomLon :: .ref a_m_edges :: .int m_firstBeside :: .int m_manyBeside :: .ref a_m_dist :: .ref a_m_queue :: .int m_queued :: .int m_boxLevel :: .int m_boxTop :: .int m_boxBottom :: .int m_boxWest :: .int m_boxEast :: .int m_isEarly :: .int m_pieces :: .int m_states :: .ref a_m_pieceLevel :: .ref a_m_pieceKey :: .ref a_m_pieceYear :: .int m_drawnNow :: .ref a_m_drawnKeys :: .ref a_m_kept :: .int m_keptAt :: .ref a_m_noNumbers :: []))) :: (a_m_cutRows, .inl (ci 0, 5, .inl m_cutRows)) :: (a_m_cutColumns, .inl (ci 0, 5, .inl m_cutColumns)) :: (a_m_deep, .inl (ci 0, 5, .inl m_deep)) :: (a_m_wide, .inl (ci 0, 5, .inl m_wide)) :: (a_m_zonesAhead, .inl (ci 0, 45, .inl m_zonesAhead)) :: Rw) H → va_D A ((a_m, .inr (11, (.ref a_m_cutRows :: .ref a_m_cutColumns :: .ref a_m_deep :: .ref a_m_wide :: .ref a_m_zonesAhead :: .ref a_m_nameOne :: .ref a_m_nameOther :: .ref a_m_tape :: .int m_taped :: .int m_place :: .int m_fault :: .int m_number :: .int m_levelRead :: .int m_keyRead :: .int m_reads :: .int m_faults :: .int m_cutShort :: .int m_noNumber :: .long m_bottomLat :: .long m_bottomLon :: .ref a_m_edges :: .int m_firstBeside :: .int m_manyBeside :: .ref a_m_dist :: .ref a_m_queue :: .int m_queued :: .int m_boxLevel :: .int m_boxTop :: .int m_boxBottom :: .int m_boxWest :: .int m_boxEast :: .int m_isEarly :: .int m_pieces :: .int m_states :: .ref a_m_pieceLevel :: .ref a_m_pieceKey :: .ref a_m_pieceYear :: .int m_drawnNow :: .ref a_m_drawnKeys :: .ref a_m_kept :: .int m_keptAt :: .ref a_m_noNumbers :: []))) :: (a_m_cutRows, .inl (ci 0, 5, .inl m_cutRows)) :: (a_m_cutColumns, .inl (ci 0, 5, .inl m_cutColumns)) :: (a_m_deep, .inl (ci 0, 5, .inl m_deep)) :: (a_m_wide, .inl (ci 0, 5, .inl m_wide)) :: (a_m_zonesAhead, .inl (ci 0, 45, .inl m_zonesAhead)) :: Rw) → va_S A s.heap H locs → lv_has ls 7 [(0, .ref a_m), (1, .int p1), (2, .int p2), (3, .int p3), (6, .int v8)] → W p l e ({ frames := 1, cells := 0, slots := 0, locals := 25 } : Room) s m ([.ref a_m, .int p1, .int p2, .int p3] : List Value).toArray below meth c H locs 0 0 Q (F0 m 96 ls [.int v15, .long v7]) := by
                    intro v15 H locs ls hf hP hD hS hl
                    have hf := (ek96 v15).symm.trans hf
                    refine lv_i2l (pc := 96) hx hb dX11_cut_96 rfl ?_
                    refine lv_lmul (pc := 97) hx hb dX11_cut_97 ?_
                    obtain ⟨v16, ev16, hf⟩ := q_nm_e hf
                    refine q_topl ev16 ?_
                    refine lv_lstore (pc := 98) (lv' := [(4, .long v16), (0, .ref a_m), (1, .int p1), (2, .int p2), (3, .int p3), (6, .int v8)]) hx hb dX11_cut_98 hl (by decide) rfl (fun ls hl => ?_)
                    obtain ⟨v17, ev17, hf⟩ := q_nm_e hf
                    refine lv_iinc (pc := 100) (v := v17) (lv' := [(6, .int v17), (4, .long v16), (0, .ref a_m), (1, .int p1), (2, .int p2), (3, .int p3)]) hx hb dX11_cut_100 hl (k := 5) rfl (by rw [ev17]; rfl) (by decide) rfl (fun ls hl => ?_)
                    refine lv_goto (pc := 103) (tgt := 61) hx hb dX11_cut_103 (by decide) ?_
                    exact ih61 v16 v17 _ _ _ hf hP hD hS (lv_sub hl [2, 3, 4, 5, 1, 0] rfl)
                  refine q_icmp_ne (pc := 72) (tgt := 81) hx hb dX11_cut_72 (by decide) rfl hf (fun hf => ?_) (fun hf => ?_)
                  · refine lv_aload_n (pc := 81) hx hb dX11_cut_81 rfl (lv_at hl 0 rfl) ?_
                    refine va_get (pc := 82) (D := D) (ci := 11) (v := .ref a_m_cutRows) (C := RX11) (T := TX11) (N := 42) hx hb hts hinX11 hown hK hP 0 rfl rfl 0 (by decide) w_5 (fun _ h9 => h9) rfl dX11_cut_82 ?_
                    refine lv_iload (pc := 85) hx hb dX11_cut_85 (lv_at hl 5 rfl) ?_
                    refine q_iald (pc := 87) hx hb hK hP 1 0 hf rfl rfl dX11_cut_87 (fun v18 hf => ?_)
                    refine lv_aload_n (pc := 88) hx hb dX11_cut_88 rfl (lv_at hl 0 rfl) ?_
                    refine va_get (pc := 89) (D := D) (ci := 11) (v := .ref a_m_cutColumns) (C := RX11) (T := TX11) (N := 42) hx hb hts hinX11 hown hK hP 0 rfl rfl 1 (by decide) w_6 (fun _ h9 => h9) rfl dX11_cut_89 ?_
                    refine lv_iload (pc := 92) hx hb dX11_cut_92 (lv_at hl 5 rfl) ?_
                    refine q_iald (pc := 94) hx hb hK hP 2 0 hf rfl rfl dX11_cut_94 (fun v19 hf => ?_)
                    refine lv_imul (pc := 95) hx hb dX11_cut_95 ?_
                    exact J96 (v18 * v19) _ _ _ hf hP hD hS (lv_sub hl [0, 1, 2, 3, 5] rfl)
                  · refine lv_iload_n (pc := 75) hx hb dX11_cut_75 rfl (lv_at hl 2 rfl) ?_
                    refine lv_iload_n (pc := 76) hx hb dX11_cut_76 rfl (lv_at hl 3 rfl) ?_
                    refine lv_imul (pc := 77) hx hb dX11_cut_77 ?_
                    refine lv_goto (pc := 78) (tgt := 96) hx hb dX11_cut_78 (by decide) ?_
                    exact J96 (p2 * p3) _ _ _ hf hP hD hS (lv_sub hl [0, 1, 2, 3, 5] rfl)
            exact LP61 N v5 v6 _ _ _ hm61 hP hD hS (lv_sub hl [2, 3, 4, 5, 1, 0] rfl)
          · refine lv_bipush (pc := 45) (v := (-2)) hx hb dX11_cut_45 (by decide) ?_
            obtain ⟨e90, e91, e92, e93, e94⟩ := q_inj5 (Option.some.inj hf)
            rw [hQ, ← e90, ← e91, ← e92, ← e93, ← e94]
            exact q_iret (pc := 47) hx hb hr hlocks hP hD hS dX11_cut_47
        · refine lv_iconst (pc := 36) (v := (-1)) hx hb dX11_cut_36 (by decide) ?_
          obtain ⟨e90, e91, e92, e93, e94⟩ := q_inj5 (Option.some.inj hf)
          rw [hQ, ← e90, ← e91, ← e92, ← e93, ← e94]
          exact q_iret (pc := 37) hx hb hr hlocks hP hD hS dX11_cut_37
  exact hgo _ _ rfl hP hS
/-! X11_draw -/
set_option maxRecDepth 100000 in
set_option maxHeartbeats 4000000 in
theorem c_M_draw (l : Launch) (D : va_G) (ci : Nat → ClassId) (A : Nat → Prop) (sa : Nat → Nat) (N : Nat) (Rw : va_W) (a_m : Nat) (a_m_cutRows : Nat) (a_m_cutColumns : Nat) (a_m_deep : Nat) (a_m_wide : Nat) (a_m_zonesAhead : Nat) (a_m_nameOne : Nat) (a_m_nameOther : Nat) (a_m_tape : Nat) (a_m_edges : Nat) (a_m_dist : Nat) (a_m_queue : Nat) (a_m_pieceLevel : Nat) (a_m_pieceKey : Nat) (a_m_pieceYear : Nat) (a_m_drawnKeys : Nat) (a_m_kept : Nat) (a_m_noNumbers : Nat) (m_taped : Int32) (m_place : Int32) (m_fault : Int32) (m_number : Int32) (m_levelRead : Int32) (m_keyRead : Int32) (m_reads : Int32) (m_faults : Int32) (m_cutShort : Int32) (m_noNumber : Int32) (m_bottomLat : Int64) (m_bottomLon : Int64) (m_firstBeside : Int32) (m_manyBeside : Int32) (m_queued : Int32) (m_boxLevel : Int32) (m_boxTop : Int32) (m_boxBottom : Int32) (m_boxWest : Int32) (m_boxEast : Int32) (m_isEarly : Int32) (m_pieces : Int32) (m_states : Int32) (m_drawnNow : Int32) (m_keptAt : Int32) (p1 : Int32) (r : Int32) (o1 : Int32) (hf : f_M_draw m_drawnNow p1 = some (r, o1)) : Met l yX11_draw wsX11_draw ({ frames := 0, cells := 0, slots := 0, locals := 0 }) (va_Pc [.ref a_m, .int p1] (q_N D ci A sa ((a_m, .inr (11, (.ref a_m_cutRows :: .ref a_m_cutColumns :: .ref a_m_deep :: .ref a_m_wide :: .ref a_m_zonesAhead :: .ref a_m_nameOne :: .ref a_m_nameOther :: .ref a_m_tape :: .int m_taped :: .int m_place :: .int m_fault :: .int m_number :: .int m_levelRead :: .int m_keyRead :: .int m_reads :: .int m_faults :: .int m_cutShort :: .int m_noNumber :: .long m_bottomLat :: .long m_bottomLon :: .ref a_m_edges :: .int m_firstBeside :: .int m_manyBeside :: .ref a_m_dist :: .ref a_m_queue :: .int m_queued :: .int m_boxLevel :: .int m_boxTop :: .int m_boxBottom :: .int m_boxWest :: .int m_boxEast :: .int m_isEarly :: .int m_pieces :: .int m_states :: .ref a_m_pieceLevel :: .ref a_m_pieceKey :: .ref a_m_pieceYear :: .int m_drawnNow :: .ref a_m_drawnKeys :: .ref a_m_kept :: .int m_keptAt :: .ref a_m_noNumbers :: []))) :: Rw))) (q_Q (some (.int r)) (q_O D A ((a_m, .inr (11, (.ref a_m_cutRows :: .ref a_m_cutColumns :: .ref a_m_deep :: .ref a_m_wide :: .ref a_m_zonesAhead :: .ref a_m_nameOne :: .ref a_m_nameOther :: .ref a_m_tape :: .int m_taped :: .int m_place :: .int m_fault :: .int m_number :: .int m_levelRead :: .int m_keyRead :: .int m_reads :: .int m_faults :: .int m_cutShort :: .int m_noNumber :: .long m_bottomLat :: .long m_bottomLon :: .ref a_m_edges :: .int m_firstBeside :: .int m_manyBeside :: .ref a_m_dist :: .ref a_m_queue :: .int m_queued :: .int m_boxLevel :: .int m_boxTop :: .int m_boxBottom :: .int m_boxWest :: .int m_boxEast :: .int m_isEarly :: .int m_pieces :: .int m_states :: .ref a_m_pieceLevel :: .ref a_m_pieceKey :: .ref a_m_pieceYear :: .int o1 :: .ref a_m_drawnKeys :: .ref a_m_kept :: .int m_keptAt :: .ref a_m_noNumbers :: []))) :: Rw)) A) 0 0 A := by
  refine q_ofW (cc := cX11_draw) (maxL := 2) (ret := (some .int)) [.ref a_m, .int p1] (plainFor_of_name (by decide)) rfl (Nat.le_of_ble_eq_true rfl) ?_
  intro p e s m below meth c ls Q hQ hx hb hml hr hts hown hlocks hK hA hZ hP hD hS hl
  have hl : lv_has ls 2 [(0, .ref a_m), (1, .int p1)] := hl
  have hown : s.vm.findClass RX11 = some m.cls := hown
  have hinX11 : ∀ w ∈ wsX110, w ∈ wsX11_draw := fun _ h => List.mem_cons_of_mem _ (inWX110 _ h)
  have w_1 := hts (Cond.fieldLink RX11 431 "SheetNamesModel" "drawnNow" "I") (List.mem_cons_of_mem _ t_w977)
  have w_2 := hts (Cond.constant RX11 434 (65536)) (List.mem_cons_of_mem _ t_w978)
  unfold f_M_draw at hf
  have hgo : ∀ (H : Heap) (locs : List Loc), H = s.heap → va_P D vwCl ((a_m, .inr (11, (.ref a_m_cutRows :: .ref a_m_cutColumns :: .ref a_m_deep :: .ref a_m_wide :: .ref a_m_zonesAhead :: .ref a_m_nameOne :: .ref a_m_nameOther :: .ref a_m_tape :: .int m_taped :: .int m_place :: .int m_fault :: .int m_number :: .int m_levelRead :: .int m_keyRead :: .int m_reads :: .int m_faults :: .int m_cutShort :: .int m_noNumber :: .long m_bottomLat :: .long m_bottomLon :: .ref a_m_edges :: .int m_firstBeside :: .int m_manyBeside :: .ref a_m_dist :: .ref a_m_queue :: .int m_queued :: .int m_boxLevel :: .int m_boxTop :: .int m_boxBottom :: .int m_boxWest :: .int m_boxEast :: .int m_isEarly :: .int m_pieces :: .int m_states :: .ref a_m_pieceLevel :: .ref a_m_pieceKey :: .ref a_m_pieceYear :: .int m_drawnNow :: .ref a_m_drawnKeys :: .ref a_m_kept :: .int m_keptAt :: .ref a_m_noNumbers :: []))) :: Rw) H → va_S A s.heap H locs → W p l e ({ frames := 0, cells := 0, slots := 0, locals := 0 } : Room) s m ([.ref a_m, .int p1] : List Value).toArray below meth c H locs 0 0 Q (F0 m 0 ls []) := by
    intro H locs hH hP hS
    refine lv_aload_n (pc := 0) hx hb dX11_draw_0 rfl (lv_at hl 0 rfl) ?_
    refine lv_sipush (pc := 1) (v := 25173) hx hb dX11_draw_1 (by decide) ?_
    refine lv_aload_n (pc := 4) hx hb dX11_draw_4 rfl (lv_at hl 0 rfl) ?_
    refine va_get (pc := 5) (D := D) (ci := 11) (v := .int m_drawnNow) (C := RX11) (T := TX11) (N := 42) hx hb hts hinX11 hown hK hP 0 rfl rfl 37 (by decide) w_1 (fun _ h9 => h9) rfl dX11_draw_5 ?_
    refine lv_imul (pc := 8) hx hb dX11_draw_8 ?_
    refine lv_sipush (pc := 9) (v := 13849) hx hb dX11_draw_9 (by decide) ?_
    refine lv_iadd (pc := 12) hx hb dX11_draw_12 ?_
    refine lv_ldcw (pc := 13) (v := 65536) hx hb hown w_2 dX11_draw_13 ?_
    refine q_irem (pc := 16) hx hb dX11_draw_16 hf (fun v1 hf => ?_)
    refine va_put (pc := 17) (D := D) (ci := 11) (v := .int v1) (ty := .int) (C := RX11) (T := TX11) (N := 42) hx hb hts hinX11 tyX11 tyX11_ok nmX11 hown hK hP hD hS 0 rfl rfl 37 (by decide) w_1 (fun _ h9 => h9) rfl (by decide +kernel) rfl rfl (Nat.le_of_ble_eq_true rfl) dX11_draw_17 (fun H locs hP hD hS => ?_)
    obtain ⟨hP, hD⟩ : va_PD D A ((a_m, .inr (11, (.ref a_m_cutRows :: .ref a_m_cutColumns :: .ref a_m_deep :: .ref a_m_wide :: .ref a_m_zonesAhead :: .ref a_m_nameOne :: .ref a_m_nameOther :: .ref a_m_tape :: .int m_taped :: .int m_place :: .int m_fault :: .int m_number :: .int m_levelRead :: .int m_keyRead :: .int m_reads :: .int m_faults :: .int m_cutShort :: .int m_noNumber :: .long m_bottomLat :: .long m_bottomLon :: .ref a_m_edges :: .int m_firstBeside :: .int m_manyBeside :: .ref a_m_dist :: .ref a_m_queue :: .int m_queued :: .int m_boxLevel :: .int m_boxTop :: .int m_boxBottom :: .int m_boxWest :: .int m_boxEast :: .int m_isEarly :: .int m_pieces :: .int m_states :: .ref a_m_pieceLevel :: .ref a_m_pieceKey :: .ref a_m_pieceYear :: .int v1 :: .ref a_m_drawnKeys :: .ref a_m_kept :: .int m_keptAt :: .ref a_m_noNumbers :: []))) :: Rw) H := ⟨hP, hD⟩
    refine lv_aload_n (pc := 20) hx hb dX11_draw_20 rfl (lv_at hl 0 rfl) ?_
    refine va_get (pc := 21) (D := D) (ci := 11) (v := .int v1) (C := RX11) (T := TX11) (N := 42) hx hb hts hinX11 hown hK hP 0 rfl rfl 37 (by decide) w_1 (fun _ h9 => h9) rfl dX11_draw_21 ?_
    refine lv_iconst (pc := 24) (v := 4) hx hb dX11_draw_24 (by decide) ?_
    refine q_idiv (pc := 25) hx hb dX11_draw_25 hf (fun v2 hf => ?_)
    refine lv_iload_n (pc := 26) hx hb dX11_draw_26 rfl (lv_at hl 1 rfl) ?_
    refine q_irem (pc := 27) hx hb dX11_draw_27 hf (fun v3 hf => ?_)
    obtain ⟨rfl, rfl⟩ := q_inj2 (Option.some.inj hf)
    rw [hQ]
    exact q_iret (pc := 28) hx hb hr hlocks hP hD hS dX11_draw_28
  exact hgo _ _ rfl hP hS
/-! X11_drawn -/
set_option maxRecDepth 100000 in
set_option maxHeartbeats 4000000 in
theorem c_M_drawn (l : Launch) (D : va_G) (ci : Nat → ClassId) (A : Nat → Prop) (sa : Nat → Nat) (N : Nat) (Rw : va_W) (a_m : Nat) (a_m_cutRows : Nat) (a_m_cutColumns : Nat) (a_m_deep : Nat) (a_m_wide : Nat) (a_m_zonesAhead : Nat) (a_m_nameOne : Nat) (a_m_nameOther : Nat) (a_m_tape : Nat) (a_m_edges : Nat) (a_m_dist : Nat) (a_m_queue : Nat) (a_m_pieceLevel : Nat) (a_m_pieceKey : Nat) (a_m_pieceYear : Nat) (a_m_drawnKeys : Nat) (a_m_kept : Nat) (a_m_noNumbers : Nat) (m_taped : Int32) (m_place : Int32) (m_fault : Int32) (m_number : Int32) (m_levelRead : Int32) (m_keyRead : Int32) (m_reads : Int32) (m_faults : Int32) (m_cutShort : Int32) (m_noNumber : Int32) (m_bottomLat : Int64) (m_bottomLon : Int64) (m_firstBeside : Int32) (m_manyBeside : Int32) (m_queued : Int32) (m_boxLevel : Int32) (m_boxTop : Int32) (m_boxBottom : Int32) (m_boxWest : Int32) (m_boxEast : Int32) (m_isEarly : Int32) (m_pieces : Int32) (m_states : Int32) (m_drawnNow : Int32) (m_keptAt : Int32) (m_deep : Nat → Int32) (m_wide : Nat → Int32) (m_zonesAhead : Nat → Int32) (m_drawnKeys : Nat → Int32) (p1 : Int32) (p2 : Int32) (p3 : Int32) (r : Int32) (o1 : Int32) (o2 : Nat → Int32) (hf : f_M_drawn N m_deep m_wide m_zonesAhead m_drawnNow m_drawnKeys p1 p2 p3 = some (r, o1, o2)) : Met l yX11_drawn wsX11_drawn ({ frames := 4, cells := 0, slots := 0, locals := 90 }) (va_Pc [.ref a_m, .int p1, .int p2, .int p3] (q_N D ci A sa ((a_m, .inr (11, (.ref a_m_cutRows :: .ref a_m_cutColumns :: .ref a_m_deep :: .ref a_m_wide :: .ref a_m_zonesAhead :: .ref a_m_nameOne :: .ref a_m_nameOther :: .ref a_m_tape :: .int m_taped :: .int m_place :: .int m_fault :: .int m_number :: .int m_levelRead :: .int m_keyRead :: .int m_reads :: .int m_faults :: .int m_cutShort :: .int m_noNumber :: .long m_bottomLat :: .long m_bottomLon :: .ref a_m_edges :: .int m_firstBeside :: .int m_manyBeside :: .ref a_m_dist :: .ref a_m_queue :: .int m_queued :: .int m_boxLevel :: .int m_boxTop :: .int m_boxBottom :: .int m_boxWest :: .int m_boxEast :: .int m_isEarly :: .int m_pieces :: .int m_states :: .ref a_m_pieceLevel :: .ref a_m_pieceKey :: .ref a_m_pieceYear :: .int m_drawnNow :: .ref a_m_drawnKeys :: .ref a_m_kept :: .int m_keptAt :: .ref a_m_noNumbers :: []))) :: (a_m_deep, .inl (ci 0, 5, .inl m_deep)) :: (a_m_wide, .inl (ci 0, 5, .inl m_wide)) :: (a_m_zonesAhead, .inl (ci 0, 45, .inl m_zonesAhead)) :: (a_m_drawnKeys, .inl (ci 0, 200, .inl m_drawnKeys)) :: Rw))) (q_Q (some (.int r)) (q_O D A ((a_m, .inr (11, (.ref a_m_cutRows :: .ref a_m_cutColumns :: .ref a_m_deep :: .ref a_m_wide :: .ref a_m_zonesAhead :: .ref a_m_nameOne :: .ref a_m_nameOther :: .ref a_m_tape :: .int m_taped :: .int m_place :: .int m_fault :: .int m_number :: .int m_levelRead :: .int m_keyRead :: .int m_reads :: .int m_faults :: .int m_cutShort :: .int m_noNumber :: .long m_bottomLat :: .long m_bottomLon :: .ref a_m_edges :: .int m_firstBeside :: .int m_manyBeside :: .ref a_m_dist :: .ref a_m_queue :: .int m_queued :: .int m_boxLevel :: .int m_boxTop :: .int m_boxBottom :: .int m_boxWest :: .int m_boxEast :: .int m_isEarly :: .int m_pieces :: .int m_states :: .ref a_m_pieceLevel :: .ref a_m_pieceKey :: .ref a_m_pieceYear :: .int o1 :: .ref a_m_drawnKeys :: .ref a_m_kept :: .int m_keptAt :: .ref a_m_noNumbers :: []))) :: (a_m_deep, .inl (ci 0, 5, .inl m_deep)) :: (a_m_wide, .inl (ci 0, 5, .inl m_wide)) :: (a_m_zonesAhead, .inl (ci 0, 45, .inl m_zonesAhead)) :: (a_m_drawnKeys, .inl (ci 0, 200, .inl o2)) :: Rw)) A) 0 0 A := by
  refine q_ofW (cc := cX11_drawn) (maxL := 10) (ret := (some .int)) [.ref a_m, .int p1, .int p2, .int p3] (plainFor_of_name (by decide)) rfl (Nat.le_of_ble_eq_true rfl) ?_
  intro p e s m below meth c ls Q hQ hx hb hml hr hts hown hlocks hK hA hZ hP hD hS hl
  have hl : lv_has ls 10 [(0, .ref a_m), (1, .int p1), (2, .int p2), (3, .int p3)] := hl
  have hown : s.vm.findClass RX11 = some m.cls := hown
  have hinX11 : ∀ w ∈ wsX110, w ∈ wsX11_drawn := fun _ h => List.mem_cons_of_mem _ (inWX110 _ h)
  have w_1 := hts (Cond.constantLong RX11 429 (200)) (List.mem_cons_of_mem _ t_w971)
  have w_2 := hts (Cond.constant RX11 435 (65535)) (List.mem_cons_of_mem _ t_w979)
  have w_3 := hts (Cond.fieldLink RX11 431 "SheetNamesModel" "drawnNow" "I") (List.mem_cons_of_mem _ t_w977)
  have w_4 := hts (Cond.constant RX11 439 (319488)) (List.mem_cons_of_mem _ t_w980)
  have w_5 := hts (Cond.fieldLink RX11 54 "SheetNamesModel" "drawnKeys" "[I") (List.mem_cons_of_mem _ t_w981)
  unfold f_M_drawn at hf
  have hgo : ∀ (H : Heap) (locs : List Loc), H = s.heap → va_P D vwCl ((a_m, .inr (11, (.ref a_m_cutRows :: .ref a_m_cutColumns :: .ref a_m_deep :: .ref a_m_wide :: .ref a_m_zonesAhead :: .ref a_m_nameOne :: .ref a_m_nameOther :: .ref a_m_tape :: .int m_taped :: .int m_place :: .int m_fault :: .int m_number :: .int m_levelRead :: .int m_keyRead :: .int m_reads :: .int m_faults :: .int m_cutShort :: .int m_noNumber :: .long m_bottomLat :: .long m_bottomLon :: .ref a_m_edges :: .int m_firstBeside :: .int m_manyBeside :: .ref a_m_dist :: .ref a_m_queue :: .int m_queued :: .int m_boxLevel :: .int m_boxTop :: .int m_boxBottom :: .int m_boxWest :: .int m_boxEast :: .int m_isEarly :: .int m_pieces :: .int m_states :: .ref a_m_pieceLevel :: .ref a_m_pieceKey :: .ref a_m_pieceYear :: .int m_drawnNow :: .ref a_m_drawnKeys :: .ref a_m_kept :: .int m_keptAt :: .ref a_m_noNumbers :: []))) :: (a_m_deep, .inl (ci 0, 5, .inl m_deep)) :: (a_m_wide, .inl (ci 0, 5, .inl m_wide)) :: (a_m_zonesAhead, .inl (ci 0, 45, .inl m_zonesAhead)) :: (a_m_drawnKeys, .inl (ci 0, 200, .inl m_drawnKeys)) :: Rw) H → va_S A s.heap H locs → W p l e ({ frames := 4, cells := 0, slots := 0, locals := 90 } : Room) s m ([.ref a_m, .int p1, .int p2, .int p3] : List Value).toArray below meth c H locs 0 0 Q (F0 m 0 ls []) := by
    intro H locs hH hP hS
    refine lv_iload_n (pc := 0) hx hb dX11_drawn_0 rfl (lv_at hl 2 rfl) ?_
    refine lv_i2l (pc := 1) hx hb dX11_drawn_1 rfl ?_
    refine lv_lconst (pc := 2) (v := 1) hx hb dX11_drawn_2 (by decide) ?_
    refine lv_ldc2 (pc := 3) (v := 200) hx hb hown w_1 dX11_drawn_3 ?_
    obtain ⟨v1, hm6, hf⟩ := q_b1_e hf
    refine q_cSr (pc := 6) (As := [.long p2.toInt64, .long 1, .long 200]) (rest := []) (v0 := (some (.int v1))) ⟨hx, hb, hml, hown, hts⟩ hK hA hZ hP hD hS hl.1 [] 5 rfl ⟨rfl, rfl, rfl⟩ (c_M_in l D ci A sa N (Rw) p2.toInt64 1 200 v1 hm6) (va_cwS 3 hts gX11_drawn_X11_in rfl rfl rfl (by decide +kernel) ⟨Nat.le_of_ble_eq_true rfl, Nat.le_of_ble_eq_true rfl⟩) rfl rfl (Nat.le_of_ble_eq_true rfl) dX11_drawn_6 ⟨Nat.zero_le _, Nat.zero_le _⟩ (fun locs hS => ?_)
    refine q_if_eq (pc := 9) (tgt := 19) hx hb dX11_drawn_9 (by decide) rfl hf (fun hf => ?_) (fun hf => ?_)
    · refine lv_iconst (pc := 19) (v := (-1)) hx hb dX11_drawn_19 (by decide) ?_
      obtain ⟨e90, e91, e92⟩ := q_inj3 (Option.some.inj hf)
      rw [hQ, ← e90, ← e91, ← e92]
      exact q_iret (pc := 20) hx hb hr hlocks hP hD hS dX11_drawn_20
    · refine lv_iload_n (pc := 12) hx hb dX11_drawn_12 rfl (lv_at hl 3 rfl) ?_
      obtain ⟨v2, hm13, hf⟩ := q_b1_e hf
      refine q_cSr (pc := 13) (As := [.int p3]) (rest := []) (v0 := (some (.int v2))) ⟨hx, hb, hml, hown, hts⟩ hK hA hZ hP hD hS hl.1 [] 5 rfl ⟨rfl, rfl, rfl⟩ (c_M_isLevel l D ci A sa N (Rw) p3 v2 hm13) (va_cwS 1 hts gX11_drawn_X11_isLevel rfl rfl rfl (by decide +kernel) ⟨Nat.le_of_ble_eq_true rfl, Nat.le_of_ble_eq_true rfl⟩) rfl rfl (Nat.le_of_ble_eq_true rfl) dX11_drawn_13 ⟨Nat.zero_le _, Nat.zero_le _⟩ (fun locs hS => ?_)
      refine q_if_ne (pc := 16) (tgt := 21) hx hb dX11_drawn_16 (by decide) rfl hf (fun hf => ?_) (fun hf => ?_)
      · refine lv_aload_n (pc := 21) hx hb dX11_drawn_21 rfl (lv_at hl 0 rfl) ?_
        refine lv_iload_n (pc := 22) hx hb dX11_drawn_22 rfl (lv_at hl 1 rfl) ?_
        refine lv_ldcw (pc := 23) (v := 65535) hx hb hown w_2 dX11_drawn_23 ?_
        refine lv_iand (pc := 26) hx hb dX11_drawn_26 ?_
        obtain ⟨v3, ev3, hf⟩ := q_nm_e hf
        refine q_topi ev3 ?_
        refine va_put (pc := 27) (D := D) (ci := 11) (v := .int v3) (ty := .int) (C := RX11) (T := TX11) (N := 42) hx hb hts hinX11 tyX11 tyX11_ok nmX11 hown hK hP hD hS 0 rfl rfl 37 (by decide) w_3 (fun _ h9 => h9) rfl (by decide +kernel) rfl rfl (Nat.le_of_ble_eq_true rfl) dX11_drawn_27 (fun H locs hP hD hS => ?_)
        obtain ⟨hP, hD⟩ : va_PD D A ((a_m, .inr (11, (.ref a_m_cutRows :: .ref a_m_cutColumns :: .ref a_m_deep :: .ref a_m_wide :: .ref a_m_zonesAhead :: .ref a_m_nameOne :: .ref a_m_nameOther :: .ref a_m_tape :: .int m_taped :: .int m_place :: .int m_fault :: .int m_number :: .int m_levelRead :: .int m_keyRead :: .int m_reads :: .int m_faults :: .int m_cutShort :: .int m_noNumber :: .long m_bottomLat :: .long m_bottomLon :: .ref a_m_edges :: .int m_firstBeside :: .int m_manyBeside :: .ref a_m_dist :: .ref a_m_queue :: .int m_queued :: .int m_boxLevel :: .int m_boxTop :: .int m_boxBottom :: .int m_boxWest :: .int m_boxEast :: .int m_isEarly :: .int m_pieces :: .int m_states :: .ref a_m_pieceLevel :: .ref a_m_pieceKey :: .ref a_m_pieceYear :: .int v3 :: .ref a_m_drawnKeys :: .ref a_m_kept :: .int m_keptAt :: .ref a_m_noNumbers :: []))) :: (a_m_deep, .inl (ci 0, 5, .inl m_deep)) :: (a_m_wide, .inl (ci 0, 5, .inl m_wide)) :: (a_m_zonesAhead, .inl (ci 0, 45, .inl m_zonesAhead)) :: (a_m_drawnKeys, .inl (ci 0, 200, .inl m_drawnKeys)) :: Rw) H := ⟨hP, hD⟩
        refine lv_iconst (pc := 30) (v := 0) hx hb dX11_drawn_30 (by decide) ?_
        obtain ⟨v4, ev4, hf⟩ := q_nm_e hf
        refine q_topi ev4 ?_
        refine lv_istore (pc := 31) (lv' := [(4, .int v4), (0, .ref a_m), (1, .int p1), (2, .int p2), (3, .int p3)]) hx hb dX11_drawn_31 hl (by decide) rfl (fun ls hl => ?_)
        refine lv_iconst (pc := 33) (v := 0) hx hb dX11_drawn_33 (by decide) ?_
        obtain ⟨v5, ev5, hf⟩ := q_nm_e hf
        refine q_topi ev5 ?_
        refine lv_istore (pc := 34) (lv' := [(5, .int v5), (4, .int v4), (0, .ref a_m), (1, .int p1), (2, .int p2), (3, .int p3)]) hx hb dX11_drawn_34 hl (by decide) rfl (fun ls hl => ?_)
        obtain ⟨v10, v11, f12, hm36, hf⟩ := q_b3_e hf
        have JE36 : ∀ (H : Heap) (locs : List Loc) (ls : Array Slot), va_P D vwCl ((a_m, .inr (11, (.ref a_m_cutRows :: .ref a_m_cutColumns :: .ref a_m_deep :: .ref a_m_wide :: .ref a_m_zonesAhead :: .ref a_m_nameOne :: .ref a_m_nameOther :: .ref a_m_tape :: .int m_taped :: .int m_place :: .int m_fault :: .int m_number :: .int m_levelRead :: .int m_keyRead :: .int m_reads :: .int m_faults :: .int m_cutShort :: .int m_noNumber :: .long m_bottomLat :: .long m_bottomLon :: .ref a_m_edges :: .int m_firstBeside :: .int m_manyBeside :: .ref a_m_dist :: .ref a_m_queue :: .int m_queued :: .int m_boxLevel :: .int m_boxTop :: .int m_boxBottom :: .int m_boxWest :: .int m_boxEast :: .int m_isEarly :: .int m_pieces :: .int m_states :: .ref a_m_pieceLevel :: .ref a_m_pieceKey :: .ref a_m_pieceYear :: .int v11 :: .ref a_m_drawnKeys :: .ref a_m_kept :: .int m_keptAt :: .ref a_m_noNumbers :: []))) :: (a_m_deep, .inl (ci 0, 5, .inl m_deep)) :: (a_m_wide, .inl (ci 0, 5, .inl m_wide)) :: (a_m_zonesAhead, .inl (ci 0, 45, .inl m_zonesAhead)) :: (a_m_drawnKeys, .inl (ci 0, 200, .inl f12)) :: Rw) H → va_D A ((a_m, .inr (11, (.ref a_m_cutRows :: .ref a_m_cutColumns :: .ref a_m_deep :: .ref a_m_wide :: .ref a_m_zonesAhead :: .ref a_m_nameOne :: .ref a_m_nameOther :: .ref a_m_tape :: .int m_taped :: .int m_place :: .int m_fault :: .int m_number :: .int m_levelRead :: .int m_keyRead :: .int m_reads :: .int m_faults :: .int m_cutShort :: .int m_noNumber :: .long m_bottomLat :: .long m_bottomLon :: .ref a_m_edges :: .int m_firstBeside :: .int m_manyBeside :: .ref a_m_dist :: .ref a_m_queue :: .int m_queued :: .int m_boxLevel :: .int m_boxTop :: .int m_boxBottom :: .int m_boxWest :: .int m_boxEast :: .int m_isEarly :: .int m_pieces :: .int m_states :: .ref a_m_pieceLevel :: .ref a_m_pieceKey :: .ref a_m_pieceYear :: .int v11 :: .ref a_m_drawnKeys :: .ref a_m_kept :: .int m_keptAt :: .ref a_m_noNumbers :: []))) :: (a_m_deep, .inl (ci 0, 5, .inl m_deep)) :: (a_m_wide, .inl (ci 0, 5, .inl m_wide)) :: (a_m_zonesAhead, .inl (ci 0, 45, .inl m_zonesAhead)) :: (a_m_drawnKeys, .inl (ci 0, 200, .inl f12)) :: Rw) → va_S A s.heap H locs → lv_has ls 10 [(4, .int v10)] → W p l e ({ frames := 4, cells := 0, slots := 0, locals := 90 } : Room) s m ([.ref a_m, .int p1, .int p2, .int p3] : List Value).toArray below meth c H locs 0 0 Q (F0 m 150 ls []) := by
          intro H locs ls hP hD hS hl
          refine lv_iload (pc := 150) hx hb dX11_drawn_150 (lv_at hl 0 rfl) ?_
          obtain ⟨e90, e91, e92⟩ := q_inj3 (Option.some.inj hf)
          rw [hQ, ← e90, ← e91, ← e92]
          exact q_iret (pc := 152) hx hb hr hlocks hP hD hS dX11_drawn_152
        have LP36 : ∀ (n36 : Nat) (v6 : Int32) (v7 : Int32) (v8 : Int32) (f9 : Nat → Int32) (H : Heap) (locs : List Loc) (ls : Array Slot), f_M_drawn_L36 N m_deep m_wide m_zonesAhead p2 p3 n36 v6 v7 v8 f9 = some (v10, v11, f12) → va_P D vwCl ((a_m, .inr (11, (.ref a_m_cutRows :: .ref a_m_cutColumns :: .ref a_m_deep :: .ref a_m_wide :: .ref a_m_zonesAhead :: .ref a_m_nameOne :: .ref a_m_nameOther :: .ref a_m_tape :: .int m_taped :: .int m_place :: .int m_fault :: .int m_number :: .int m_levelRead :: .int m_keyRead :: .int m_reads :: .int m_faults :: .int m_cutShort :: .int m_noNumber :: .long m_bottomLat :: .long m_bottomLon :: .ref a_m_edges :: .int m_firstBeside :: .int m_manyBeside :: .ref a_m_dist :: .ref a_m_queue :: .int m_queued :: .int m_boxLevel :: .int m_boxTop :: .int m_boxBottom :: .int m_boxWest :: .int m_boxEast :: .int m_isEarly :: .int m_pieces :: .int m_states :: .ref a_m_pieceLevel :: .ref a_m_pieceKey :: .ref a_m_pieceYear :: .int v8 :: .ref a_m_drawnKeys :: .ref a_m_kept :: .int m_keptAt :: .ref a_m_noNumbers :: []))) :: (a_m_deep, .inl (ci 0, 5, .inl m_deep)) :: (a_m_wide, .inl (ci 0, 5, .inl m_wide)) :: (a_m_zonesAhead, .inl (ci 0, 45, .inl m_zonesAhead)) :: (a_m_drawnKeys, .inl (ci 0, 200, .inl f9)) :: Rw) H → va_D A ((a_m, .inr (11, (.ref a_m_cutRows :: .ref a_m_cutColumns :: .ref a_m_deep :: .ref a_m_wide :: .ref a_m_zonesAhead :: .ref a_m_nameOne :: .ref a_m_nameOther :: .ref a_m_tape :: .int m_taped :: .int m_place :: .int m_fault :: .int m_number :: .int m_levelRead :: .int m_keyRead :: .int m_reads :: .int m_faults :: .int m_cutShort :: .int m_noNumber :: .long m_bottomLat :: .long m_bottomLon :: .ref a_m_edges :: .int m_firstBeside :: .int m_manyBeside :: .ref a_m_dist :: .ref a_m_queue :: .int m_queued :: .int m_boxLevel :: .int m_boxTop :: .int m_boxBottom :: .int m_boxWest :: .int m_boxEast :: .int m_isEarly :: .int m_pieces :: .int m_states :: .ref a_m_pieceLevel :: .ref a_m_pieceKey :: .ref a_m_pieceYear :: .int v8 :: .ref a_m_drawnKeys :: .ref a_m_kept :: .int m_keptAt :: .ref a_m_noNumbers :: []))) :: (a_m_deep, .inl (ci 0, 5, .inl m_deep)) :: (a_m_wide, .inl (ci 0, 5, .inl m_wide)) :: (a_m_zonesAhead, .inl (ci 0, 45, .inl m_zonesAhead)) :: (a_m_drawnKeys, .inl (ci 0, 200, .inl f9)) :: Rw) → va_S A s.heap H locs → lv_has ls 10 [(0, .ref a_m), (2, .int p2), (3, .int p3), (4, .int v6), (5, .int v7)] → W p l e ({ frames := 4, cells := 0, slots := 0, locals := 90 } : Room) s m ([.ref a_m, .int p1, .int p2, .int p3] : List Value).toArray below meth c H locs 0 0 Q (F0 m 36 ls []) := by
          intro n36
          induction n36 with
          | zero => intro v6 v7 v8 f9 H locs ls hf; rw [f_M_drawn_L36] at hf; cases hf
          | succ n36 ih36 =>
            intro v6 v7 v8 f9 H locs ls hf hP hD hS hl
            rw [f_M_drawn_L36] at hf
            refine lv_iload (pc := 36) hx hb dX11_drawn_36 (lv_at hl 4 rfl) ?_
            refine lv_iload_n (pc := 38) hx hb dX11_drawn_38 rfl (lv_at hl 1 rfl) ?_
            refine q_icmp_ge (pc := 39) (tgt := 150) hx hb dX11_drawn_39 (by decide) rfl hf (fun hf => ?_) (fun hf => ?_)
            · obtain ⟨rfl, rfl, rfl⟩ := q_inj3 (Option.some.inj hf)
              exact JE36 _ _ _ hP hD hS (lv_sub hl [3] rfl)
            · refine lv_aload_n (pc := 42) hx hb dX11_drawn_42 rfl (lv_at hl 0 rfl) ?_
              refine lv_sipush (pc := 43) (v := 16384) hx hb dX11_drawn_43 (by decide) ?_
              obtain ⟨v13, v14, hm46, hf⟩ := q_b2_e hf
              refine q_cV (pc := 46) (As := [.int 16384]) (rest := []) (v0 := (some (.int v13))) ⟨hx, hb, hml, hown, hts⟩ hK hA hZ hP hD hS hl.1 [0, 1, 2, 3, 4] 5 rfl ⟨rfl, rfl, rfl⟩ (c_M_draw l D ci A sa N ((a_m_deep, .inl (ci 0, 5, .inl m_deep)) :: (a_m_wide, .inl (ci 0, 5, .inl m_wide)) :: (a_m_zonesAhead, .inl (ci 0, 45, .inl m_zonesAhead)) :: (a_m_drawnKeys, .inl (ci 0, 200, .inl f9)) :: Rw) a_m a_m_cutRows a_m_cutColumns a_m_deep a_m_wide a_m_zonesAhead a_m_nameOne a_m_nameOther a_m_tape a_m_edges a_m_dist a_m_queue a_m_pieceLevel a_m_pieceKey a_m_pieceYear a_m_drawnKeys a_m_kept a_m_noNumbers m_taped m_place m_fault m_number m_levelRead m_keyRead m_reads m_faults m_cutShort m_noNumber m_bottomLat m_bottomLon m_firstBeside m_manyBeside m_queued m_boxLevel m_boxTop m_boxBottom m_boxWest m_boxEast m_isEarly m_pieces m_states v8 m_keptAt 16384 v13 v14 hm46) 0 rfl rfl (cwV 1 hts gX11_drawn_X11_draw rfl rfl rfl (by decide +kernel) ⟨Nat.le_of_ble_eq_true rfl, Nat.le_of_ble_eq_true rfl⟩) rfl rfl (Nat.le_of_ble_eq_true rfl) dX11_drawn_46 ⟨Nat.zero_le _, Nat.zero_le _⟩ [0, 1, 2, 3, 4] 5 rfl ⟨rfl, rfl, rfl⟩ (fun H locs hP hD hS => ?_)
              obtain ⟨hP, hD⟩ : va_PD D A ((a_m, .inr (11, (.ref a_m_cutRows :: .ref a_m_cutColumns :: .ref a_m_deep :: .ref a_m_wide :: .ref a_m_zonesAhead :: .ref a_m_nameOne :: .ref a_m_nameOther :: .ref a_m_tape :: .int m_taped :: .int m_place :: .int m_fault :: .int m_number :: .int m_levelRead :: .int m_keyRead :: .int m_reads :: .int m_faults :: .int m_cutShort :: .int m_noNumber :: .long m_bottomLat :: .long m_bottomLon :: .ref a_m_edges :: .int m_firstBeside :: .int m_manyBeside :: .ref a_m_dist :: .ref a_m_queue :: .int m_queued :: .int m_boxLevel :: .int m_boxTop :: .int m_boxBottom :: .int m_boxWest :: .int m_boxEast :: .int m_isEarly :: .int m_pieces :: .int m_states :: .ref a_m_pieceLevel :: .ref a_m_pieceKey :: .ref a_m_pieceYear :: .int v14 :: .ref a_m_drawnKeys :: .ref a_m_kept :: .int m_keptAt :: .ref a_m_noNumbers :: []))) :: (a_m_deep, .inl (ci 0, 5, .inl m_deep)) :: (a_m_wide, .inl (ci 0, 5, .inl m_wide)) :: (a_m_zonesAhead, .inl (ci 0, 45, .inl m_zonesAhead)) :: (a_m_drawnKeys, .inl (ci 0, 200, .inl f9)) :: Rw) H := ⟨hP, hD⟩
              refine lv_bipush (pc := 49) (v := 39) hx hb dX11_drawn_49 (by decide) ?_
              refine lv_imul (pc := 51) hx hb dX11_drawn_51 ?_
              refine lv_ldcw (pc := 52) (v := 319488) hx hb hown w_4 dX11_drawn_52 ?_
              refine lv_isub (pc := 55) hx hb dX11_drawn_55 ?_
              obtain ⟨v15, ev15, hf⟩ := q_nm_e hf
              refine q_topi ev15 ?_
              refine lv_istore (pc := 56) (lv' := [(6, .int v15), (0, .ref a_m), (2, .int p2), (3, .int p3), (4, .int v6), (5, .int v7)]) hx hb dX11_drawn_56 hl (by decide) rfl (fun ls hl => ?_)
              refine lv_aload_n (pc := 58) hx hb dX11_drawn_58 rfl (lv_at hl 1 rfl) ?_
              refine lv_iload (pc := 59) hx hb dX11_drawn_59 (lv_at hl 0 rfl) ?_
              refine lv_aload_n (pc := 61) hx hb dX11_drawn_61 rfl (lv_at hl 1 rfl) ?_
              refine lv_sipush (pc := 62) (v := 16384) hx hb dX11_drawn_62 (by decide) ?_
              obtain ⟨v16, v17, hm65, hf⟩ := q_b2_e hf
              refine q_cV (pc := 65) (As := [.int 16384]) (rest := [.int v15, .ref a_m]) (v0 := (some (.int v16))) ⟨hx, hb, hml, hown, hts⟩ hK hA hZ hP hD hS hl.1 [0, 1, 2, 3, 4] 5 rfl ⟨rfl, rfl, rfl⟩ (c_M_draw l D ci A sa N ((a_m_deep, .inl (ci 0, 5, .inl m_deep)) :: (a_m_wide, .inl (ci 0, 5, .inl m_wide)) :: (a_m_zonesAhead, .inl (ci 0, 45, .inl m_zonesAhead)) :: (a_m_drawnKeys, .inl (ci 0, 200, .inl f9)) :: Rw) a_m a_m_cutRows a_m_cutColumns a_m_deep a_m_wide a_m_zonesAhead a_m_nameOne a_m_nameOther a_m_tape a_m_edges a_m_dist a_m_queue a_m_pieceLevel a_m_pieceKey a_m_pieceYear a_m_drawnKeys a_m_kept a_m_noNumbers m_taped m_place m_fault m_number m_levelRead m_keyRead m_reads m_faults m_cutShort m_noNumber m_bottomLat m_bottomLon m_firstBeside m_manyBeside m_queued m_boxLevel m_boxTop m_boxBottom m_boxWest m_boxEast m_isEarly m_pieces m_states v14 m_keptAt 16384 v16 v17 hm65) 0 rfl rfl (cwV 1 hts gX11_drawn_X11_draw rfl rfl rfl (by decide +kernel) ⟨Nat.le_of_ble_eq_true rfl, Nat.le_of_ble_eq_true rfl⟩) rfl rfl (Nat.le_of_ble_eq_true rfl) dX11_drawn_65 ⟨Nat.zero_le _, Nat.zero_le _⟩ [0, 1, 2, 3, 4] 5 rfl ⟨rfl, rfl, rfl⟩ (fun H locs hP hD hS => ?_)
              obtain ⟨hP, hD⟩ : va_PD D A ((a_m, .inr (11, (.ref a_m_cutRows :: .ref a_m_cutColumns :: .ref a_m_deep :: .ref a_m_wide :: .ref a_m_zonesAhead :: .ref a_m_nameOne :: .ref a_m_nameOther :: .ref a_m_tape :: .int m_taped :: .int m_place :: .int m_fault :: .int m_number :: .int m_levelRead :: .int m_keyRead :: .int m_reads :: .int m_faults :: .int m_cutShort :: .int m_noNumber :: .long m_bottomLat :: .long m_bottomLon :: .ref a_m_edges :: .int m_firstBeside :: .int m_manyBeside :: .ref a_m_dist :: .ref a_m_queue :: .int m_queued :: .int m_boxLevel :: .int m_boxTop :: .int m_boxBottom :: .int m_boxWest :: .int m_boxEast :: .int m_isEarly :: .int m_pieces :: .int m_states :: .ref a_m_pieceLevel :: .ref a_m_pieceKey :: .ref a_m_pieceYear :: .int v17 :: .ref a_m_drawnKeys :: .ref a_m_kept :: .int m_keptAt :: .ref a_m_noNumbers :: []))) :: (a_m_deep, .inl (ci 0, 5, .inl m_deep)) :: (a_m_wide, .inl (ci 0, 5, .inl m_wide)) :: (a_m_zonesAhead, .inl (ci 0, 45, .inl m_zonesAhead)) :: (a_m_drawnKeys, .inl (ci 0, 200, .inl f9)) :: Rw) H := ⟨hP, hD⟩
              refine lv_bipush (pc := 68) (v := 79) hx hb dX11_drawn_68 (by decide) ?_
              refine lv_imul (pc := 70) hx hb dX11_drawn_70 ?_
              refine lv_iload_n (pc := 71) hx hb dX11_drawn_71 rfl (lv_at hl 3 rfl) ?_
              obtain ⟨v18, hm72, hf⟩ := q_b1_e hf
              refine q_cVr (pc := 72) (As := [.int v15, .int (v16 * 79), .int p3]) (rest := []) (v0 := (some (.int v18))) ⟨hx, hb, hml, hown, hts⟩ hK hA hZ hP hD hS hl.1 [0, 1, 2, 3] 5 rfl ⟨rfl, rfl, rfl⟩ (c_M_keyAtPlace l D ci A sa N (Rw) a_m a_m_cutRows a_m_cutColumns a_m_deep a_m_wide a_m_zonesAhead a_m_nameOne a_m_nameOther a_m_tape a_m_edges a_m_dist a_m_queue a_m_pieceLevel a_m_pieceKey a_m_pieceYear a_m_drawnKeys a_m_kept a_m_noNumbers m_taped m_place m_fault m_number m_levelRead m_keyRead m_reads m_faults m_cutShort m_noNumber m_bottomLat m_bottomLon m_firstBeside m_manyBeside m_queued m_boxLevel m_boxTop m_boxBottom m_boxWest m_boxEast m_isEarly m_pieces m_states v17 m_keptAt m_deep m_wide m_zonesAhead v15 (v16 * 79) p3 v18 hm72) 0 rfl rfl (cwV 3 hts gX11_drawn_X11_keyAtPlace rfl rfl rfl (by decide +kernel) ⟨Nat.le_of_ble_eq_true rfl, Nat.le_of_ble_eq_true rfl⟩) rfl rfl (Nat.le_of_ble_eq_true rfl) dX11_drawn_72 ⟨Nat.zero_le _, Nat.zero_le _⟩ (fun locs hS => ?_)
              refine lv_istore (pc := 75) (lv' := [(7, .int v18), (6, .int v15), (0, .ref a_m), (2, .int p2), (3, .int p3), (4, .int v6), (5, .int v7)]) hx hb dX11_drawn_75 hl (by decide) rfl (fun ls hl => ?_)
              refine lv_iconst (pc := 77) (v := 1) hx hb dX11_drawn_77 (by decide) ?_
              obtain ⟨v19, ev19, hf⟩ := q_nm_e hf
              refine q_topi ev19 ?_
              refine lv_istore (pc := 78) (lv' := [(8, .int v19), (7, .int v18), (6, .int v15), (0, .ref a_m), (2, .int p2), (3, .int p3), (4, .int v6), (5, .int v7)]) hx hb dX11_drawn_78 hl (by decide) rfl (fun ls hl => ?_)
              refine lv_iconst (pc := 80) (v := 0) hx hb dX11_drawn_80 (by decide) ?_
              obtain ⟨v20, ev20, hf⟩ := q_nm_e hf
              refine q_topi ev20 ?_
              refine lv_istore (pc := 81) (lv' := [(9, .int v20), (8, .int v19), (7, .int v18), (6, .int v15), (0, .ref a_m), (2, .int p2), (3, .int p3), (4, .int v6), (5, .int v7)]) hx hb dX11_drawn_81 hl (by decide) rfl (fun ls hl => ?_)
              obtain ⟨v23, hm83, hf⟩ := q_b1_e hf
              have JE83 : ∀ (H : Heap) (locs : List Loc) (ls : Array Slot), va_P D vwCl ((a_m, .inr (11, (.ref a_m_cutRows :: .ref a_m_cutColumns :: .ref a_m_deep :: .ref a_m_wide :: .ref a_m_zonesAhead :: .ref a_m_nameOne :: .ref a_m_nameOther :: .ref a_m_tape :: .int m_taped :: .int m_place :: .int m_fault :: .int m_number :: .int m_levelRead :: .int m_keyRead :: .int m_reads :: .int m_faults :: .int m_cutShort :: .int m_noNumber :: .long m_bottomLat :: .long m_bottomLon :: .ref a_m_edges :: .int m_firstBeside :: .int m_manyBeside :: .ref a_m_dist :: .ref a_m_queue :: .int m_queued :: .int m_boxLevel :: .int m_boxTop :: .int m_boxBottom :: .int m_boxWest :: .int m_boxEast :: .int m_isEarly :: .int m_pieces :: .int m_states :: .ref a_m_pieceLevel :: .ref a_m_pieceKey :: .ref a_m_pieceYear :: .int v17 :: .ref a_m_drawnKeys :: .ref a_m_kept :: .int m_keptAt :: .ref a_m_noNumbers :: []))) :: (a_m_deep, .inl (ci 0, 5, .inl m_deep)) :: (a_m_wide, .inl (ci 0, 5, .inl m_wide)) :: (a_m_zonesAhead, .inl (ci 0, 45, .inl m_zonesAhead)) :: (a_m_drawnKeys, .inl (ci 0, 200, .inl f9)) :: Rw) H → va_D A ((a_m, .inr (11, (.ref a_m_cutRows :: .ref a_m_cutColumns :: .ref a_m_deep :: .ref a_m_wide :: .ref a_m_zonesAhead :: .ref a_m_nameOne :: .ref a_m_nameOther :: .ref a_m_tape :: .int m_taped :: .int m_place :: .int m_fault :: .int m_number :: .int m_levelRead :: .int m_keyRead :: .int m_reads :: .int m_faults :: .int m_cutShort :: .int m_noNumber :: .long m_bottomLat :: .long m_bottomLon :: .ref a_m_edges :: .int m_firstBeside :: .int m_manyBeside :: .ref a_m_dist :: .ref a_m_queue :: .int m_queued :: .int m_boxLevel :: .int m_boxTop :: .int m_boxBottom :: .int m_boxWest :: .int m_boxEast :: .int m_isEarly :: .int m_pieces :: .int m_states :: .ref a_m_pieceLevel :: .ref a_m_pieceKey :: .ref a_m_pieceYear :: .int v17 :: .ref a_m_drawnKeys :: .ref a_m_kept :: .int m_keptAt :: .ref a_m_noNumbers :: []))) :: (a_m_deep, .inl (ci 0, 5, .inl m_deep)) :: (a_m_wide, .inl (ci 0, 5, .inl m_wide)) :: (a_m_zonesAhead, .inl (ci 0, 45, .inl m_zonesAhead)) :: (a_m_drawnKeys, .inl (ci 0, 200, .inl f9)) :: Rw) → va_S A s.heap H locs → lv_has ls 10 [(0, .ref a_m), (2, .int p2), (3, .int p3), (4, .int v6), (5, .int v7), (7, .int v18), (8, .int v23)] → W p l e ({ frames := 4, cells := 0, slots := 0, locals := 90 } : Room) s m ([.ref a_m, .int p1, .int p2, .int p3] : List Value).toArray below meth c H locs 0 0 Q (F0 m 120 ls []) := by
                intro H locs ls hP hD hS hl
                refine lv_aload_n (pc := 120) hx hb dX11_drawn_120 rfl (lv_at hl 0 rfl) ?_
                refine va_get (pc := 121) (D := D) (ci := 11) (v := .ref a_m_drawnKeys) (C := RX11) (T := TX11) (N := 42) hx hb hts hinX11 hown hK hP 0 rfl rfl 38 (by decide) w_5 (fun _ h9 => h9) rfl dX11_drawn_121 ?_
                refine lv_iload (pc := 124) hx hb dX11_drawn_124 (lv_at hl 3 rfl) ?_
                refine lv_iload (pc := 126) hx hb dX11_drawn_126 (lv_at hl 5 rfl) ?_
                refine q_iast (pc := 128) hx hb hK hP hD hS 4 0 hf rfl rfl dX11_drawn_128 (fun f24 H locs hf hP hD hS => ?_)
                obtain ⟨hP, hD⟩ : va_PD D A ((a_m, .inr (11, (.ref a_m_cutRows :: .ref a_m_cutColumns :: .ref a_m_deep :: .ref a_m_wide :: .ref a_m_zonesAhead :: .ref a_m_nameOne :: .ref a_m_nameOther :: .ref a_m_tape :: .int m_taped :: .int m_place :: .int m_fault :: .int m_number :: .int m_levelRead :: .int m_keyRead :: .int m_reads :: .int m_faults :: .int m_cutShort :: .int m_noNumber :: .long m_bottomLat :: .long m_bottomLon :: .ref a_m_edges :: .int m_firstBeside :: .int m_manyBeside :: .ref a_m_dist :: .ref a_m_queue :: .int m_queued :: .int m_boxLevel :: .int m_boxTop :: .int m_boxBottom :: .int m_boxWest :: .int m_boxEast :: .int m_isEarly :: .int m_pieces :: .int m_states :: .ref a_m_pieceLevel :: .ref a_m_pieceKey :: .ref a_m_pieceYear :: .int v17 :: .ref a_m_drawnKeys :: .ref a_m_kept :: .int m_keptAt :: .ref a_m_noNumbers :: []))) :: (a_m_deep, .inl (ci 0, 5, .inl m_deep)) :: (a_m_wide, .inl (ci 0, 5, .inl m_wide)) :: (a_m_zonesAhead, .inl (ci 0, 45, .inl m_zonesAhead)) :: (a_m_drawnKeys, .inl (ci 0, 200, .inl f24)) :: Rw) H := ⟨hP, hD⟩
                refine lv_iload (pc := 129) hx hb dX11_drawn_129 (lv_at hl 3 rfl) ?_
                refine lv_iload (pc := 131) hx hb dX11_drawn_131 (lv_at hl 6 rfl) ?_
                obtain ⟨k141, ek141, hf⟩ := q_j1_e hf
                have J141 : ∀ (v25 : Int32) (H : Heap) (locs : List Loc) (ls : Array Slot), k141 v25 = some (v10, v11, f12) → va_P D vwCl ((a_m, .inr (11, (.ref a_m_cutRows :: .ref a_m_cutColumns :: .ref a_m_deep :: .ref a_m_wide :: .ref a_m_zonesAhead :: .ref a_m_nameOne :: .ref a_m_nameOther :: .ref a_m_tape :: .int m_taped :: .int m_place :: .int m_fault :: .int m_number :: .int m_levelRead :: .int m_keyRead :: .int m_reads :: .int m_faults :: .int m_cutShort :: .int m_noNumber :: .long m_bottomLat :: .long m_bottomLon :: .ref a_m_edges :: .int m_firstBeside :: .int m_manyBeside :: .ref a_m_dist :: .ref a_m_queue :: .int m_queued :: .int m_boxLevel :: .int m_boxTop :: .int m_boxBottom :: .int m_boxWest :: .int m_boxEast :: .int m_isEarly :: .int m_pieces :: .int m_states :: .ref a_m_pieceLevel :: .ref a_m_pieceKey :: .ref a_m_pieceYear :: .int v17 :: .ref a_m_drawnKeys :: .ref a_m_kept :: .int m_keptAt :: .ref a_m_noNumbers :: []))) :: (a_m_deep, .inl (ci 0, 5, .inl m_deep)) :: (a_m_wide, .inl (ci 0, 5, .inl m_wide)) :: (a_m_zonesAhead, .inl (ci 0, 45, .inl m_zonesAhead)) :: (a_m_drawnKeys, .inl (ci 0, 200, .inl f24)) :: Rw) H → va_D A ((a_m, .inr (11, (.ref a_m_cutRows :: .ref a_m_cutColumns :: .ref a_m_deep :: .ref a_m_wide :: .ref a_m_zonesAhead :: .ref a_m_nameOne :: .ref a_m_nameOther :: .ref a_m_tape :: .int m_taped :: .int m_place :: .int m_fault :: .int m_number :: .int m_levelRead :: .int m_keyRead :: .int m_reads :: .int m_faults :: .int m_cutShort :: .int m_noNumber :: .long m_bottomLat :: .long m_bottomLon :: .ref a_m_edges :: .int m_firstBeside :: .int m_manyBeside :: .ref a_m_dist :: .ref a_m_queue :: .int m_queued :: .int m_boxLevel :: .int m_boxTop :: .int m_boxBottom :: .int m_boxWest :: .int m_boxEast :: .int m_isEarly :: .int m_pieces :: .int m_states :: .ref a_m_pieceLevel :: .ref a_m_pieceKey :: .ref a_m_pieceYear :: .int v17 :: .ref a_m_drawnKeys :: .ref a_m_kept :: .int m_keptAt :: .ref a_m_noNumbers :: []))) :: (a_m_deep, .inl (ci 0, 5, .inl m_deep)) :: (a_m_wide, .inl (ci 0, 5, .inl m_wide)) :: (a_m_zonesAhead, .inl (ci 0, 45, .inl m_zonesAhead)) :: (a_m_drawnKeys, .inl (ci 0, 200, .inl f24)) :: Rw) → va_S A s.heap H locs → lv_has ls 10 [(0, .ref a_m), (2, .int p2), (3, .int p3), (5, .int v7)] → W p l e ({ frames := 4, cells := 0, slots := 0, locals := 90 } : Room) s m ([.ref a_m, .int p1, .int p2, .int p3] : List Value).toArray below meth c H locs 0 0 Q (F0 m 141 ls [.int v25, .int v6]) := by
                  intro v25 H locs ls hf hP hD hS hl
                  have hf := (ek141 v25).symm.trans hf
                  refine lv_iadd (pc := 141) hx hb dX11_drawn_141 ?_
                  obtain ⟨v26, ev26, hf⟩ := q_nm_e hf
                  refine q_topi ev26 ?_
                  refine lv_istore (pc := 142) (lv' := [(4, .int v26), (0, .ref a_m), (2, .int p2), (3, .int p3), (5, .int v7)]) hx hb dX11_drawn_142 hl (by decide) rfl (fun ls hl => ?_)
                  obtain ⟨v27, ev27, hf⟩ := q_nm_e hf
                  refine lv_iinc (pc := 144) (v := v27) (lv' := [(5, .int v27), (4, .int v26), (0, .ref a_m), (2, .int p2), (3, .int p3)]) hx hb dX11_drawn_144 hl (k := 4) rfl (by rw [ev27]; rfl) (by decide) rfl (fun ls hl => ?_)
                  refine lv_goto (pc := 147) (tgt := 36) hx hb dX11_drawn_147 (by decide) ?_
                  exact ih36 v26 v27 v17 f24 _ _ _ hf hP hD hS (lv_sub hl [2, 3, 4, 1, 0] rfl)
                refine q_if_eq (pc := 133) (tgt := 140) hx hb dX11_drawn_133 (by decide) rfl hf (fun hf => ?_) (fun hf => ?_)
                · refine lv_iconst (pc := 140) (v := 0) hx hb dX11_drawn_140 (by decide) ?_
                  exact J141 0 _ _ _ hf hP hD hS (lv_sub hl [0, 1, 2, 4] rfl)
                · refine lv_iconst (pc := 136) (v := 1) hx hb dX11_drawn_136 (by decide) ?_
                  refine lv_goto (pc := 137) (tgt := 141) hx hb dX11_drawn_137 (by decide) ?_
                  exact J141 1 _ _ _ hf hP hD hS (lv_sub hl [0, 1, 2, 4] rfl)
              have LP83 : ∀ (n83 : Nat) (v21 : Int32) (v22 : Int32) (H : Heap) (locs : List Loc) (ls : Array Slot), f_M_drawn_L83 f9 v18 v6 n83 v21 v22 = some v23 → va_P D vwCl ((a_m, .inr (11, (.ref a_m_cutRows :: .ref a_m_cutColumns :: .ref a_m_deep :: .ref a_m_wide :: .ref a_m_zonesAhead :: .ref a_m_nameOne :: .ref a_m_nameOther :: .ref a_m_tape :: .int m_taped :: .int m_place :: .int m_fault :: .int m_number :: .int m_levelRead :: .int m_keyRead :: .int m_reads :: .int m_faults :: .int m_cutShort :: .int m_noNumber :: .long m_bottomLat :: .long m_bottomLon :: .ref a_m_edges :: .int m_firstBeside :: .int m_manyBeside :: .ref a_m_dist :: .ref a_m_queue :: .int m_queued :: .int m_boxLevel :: .int m_boxTop :: .int m_boxBottom :: .int m_boxWest :: .int m_boxEast :: .int m_isEarly :: .int m_pieces :: .int m_states :: .ref a_m_pieceLevel :: .ref a_m_pieceKey :: .ref a_m_pieceYear :: .int v17 :: .ref a_m_drawnKeys :: .ref a_m_kept :: .int m_keptAt :: .ref a_m_noNumbers :: []))) :: (a_m_deep, .inl (ci 0, 5, .inl m_deep)) :: (a_m_wide, .inl (ci 0, 5, .inl m_wide)) :: (a_m_zonesAhead, .inl (ci 0, 45, .inl m_zonesAhead)) :: (a_m_drawnKeys, .inl (ci 0, 200, .inl f9)) :: Rw) H → va_D A ((a_m, .inr (11, (.ref a_m_cutRows :: .ref a_m_cutColumns :: .ref a_m_deep :: .ref a_m_wide :: .ref a_m_zonesAhead :: .ref a_m_nameOne :: .ref a_m_nameOther :: .ref a_m_tape :: .int m_taped :: .int m_place :: .int m_fault :: .int m_number :: .int m_levelRead :: .int m_keyRead :: .int m_reads :: .int m_faults :: .int m_cutShort :: .int m_noNumber :: .long m_bottomLat :: .long m_bottomLon :: .ref a_m_edges :: .int m_firstBeside :: .int m_manyBeside :: .ref a_m_dist :: .ref a_m_queue :: .int m_queued :: .int m_boxLevel :: .int m_boxTop :: .int m_boxBottom :: .int m_boxWest :: .int m_boxEast :: .int m_isEarly :: .int m_pieces :: .int m_states :: .ref a_m_pieceLevel :: .ref a_m_pieceKey :: .ref a_m_pieceYear :: .int v17 :: .ref a_m_drawnKeys :: .ref a_m_kept :: .int m_keptAt :: .ref a_m_noNumbers :: []))) :: (a_m_deep, .inl (ci 0, 5, .inl m_deep)) :: (a_m_wide, .inl (ci 0, 5, .inl m_wide)) :: (a_m_zonesAhead, .inl (ci 0, 45, .inl m_zonesAhead)) :: (a_m_drawnKeys, .inl (ci 0, 200, .inl f9)) :: Rw) → va_S A s.heap H locs → lv_has ls 10 [(0, .ref a_m), (2, .int p2), (3, .int p3), (4, .int v6), (5, .int v7), (7, .int v18), (8, .int v21), (9, .int v22)] → W p l e ({ frames := 4, cells := 0, slots := 0, locals := 90 } : Room) s m ([.ref a_m, .int p1, .int p2, .int p3] : List Value).toArray below meth c H locs 0 0 Q (F0 m 83 ls []) := by
                intro n83
                induction n83 with
                | zero => intro v21 v22 H locs ls hf; rw [f_M_drawn_L83] at hf; cases hf
                | succ n83 ih83 =>
                  intro v21 v22 H locs ls hf hP hD hS hl
                  rw [f_M_drawn_L83] at hf
                  refine lv_iload (pc := 83) hx hb dX11_drawn_83 (lv_at hl 7 rfl) ?_
                  refine lv_iload (pc := 85) hx hb dX11_drawn_85 (lv_at hl 3 rfl) ?_
                  refine q_icmp_ge (pc := 87) (tgt := 120) hx hb dX11_drawn_87 (by decide) rfl hf (fun hf => ?_) (fun hf => ?_)
                  · obtain rfl := Option.some.inj hf
                    exact JE83 _ _ _ hP hD hS (lv_sub hl [0, 1, 2, 3, 4, 5, 6] rfl)
                  · refine lv_iload (pc := 90) hx hb dX11_drawn_90 (lv_at hl 6 rfl) ?_
                    obtain ⟨k112, ek112, hf⟩ := q_j1_e hf
                    have J112 : ∀ (v28 : Int32) (H : Heap) (locs : List Loc) (ls : Array Slot), k112 v28 = some v23 → va_P D vwCl ((a_m, .inr (11, (.ref a_m_cutRows :: .ref a_m_cutColumns :: .ref a_m_deep :: .ref a_m_wide :: .ref a_m_zonesAhead :: .ref a_m_nameOne :: .ref a_m_nameOther :: .ref a_m_tape :: .int m_taped :: .int m_place :: .int m_fault :: .int m_number :: .int m_levelRead :: .int m_keyRead :: .int m_reads :: .int m_faults :: .int m_cutShort :: .int m_noNumber :: .long m_bottomLat :: .long m_bottomLon :: .ref a_m_edges :: .int m_firstBeside :: .int m_manyBeside :: .ref a_m_dist :: .ref a_m_queue :: .int m_queued :: .int m_boxLevel :: .int m_boxTop :: .int m_boxBottom :: .int m_boxWest :: .int m_boxEast :: .int m_isEarly :: .int m_pieces :: .int m_states :: .ref a_m_pieceLevel :: .ref a_m_pieceKey :: .ref a_m_pieceYear :: .int v17 :: .ref a_m_drawnKeys :: .ref a_m_kept :: .int m_keptAt :: .ref a_m_noNumbers :: []))) :: (a_m_deep, .inl (ci 0, 5, .inl m_deep)) :: (a_m_wide, .inl (ci 0, 5, .inl m_wide)) :: (a_m_zonesAhead, .inl (ci 0, 45, .inl m_zonesAhead)) :: (a_m_drawnKeys, .inl (ci 0, 200, .inl f9)) :: Rw) H → va_D A ((a_m, .inr (11, (.ref a_m_cutRows :: .ref a_m_cutColumns :: .ref a_m_deep :: .ref a_m_wide :: .ref a_m_zonesAhead :: .ref a_m_nameOne :: .ref a_m_nameOther :: .ref a_m_tape :: .int m_taped :: .int m_place :: .int m_fault :: .int m_number :: .int m_levelRead :: .int m_keyRead :: .int m_reads :: .int m_faults :: .int m_cutShort :: .int m_noNumber :: .long m_bottomLat :: .long m_bottomLon :: .ref a_m_edges :: .int m_firstBeside :: .int m_manyBeside :: .ref a_m_dist :: .ref a_m_queue :: .int m_queued :: .int m_boxLevel :: .int m_boxTop :: .int m_boxBottom :: .int m_boxWest :: .int m_boxEast :: .int m_isEarly :: .int m_pieces :: .int m_states :: .ref a_m_pieceLevel :: .ref a_m_pieceKey :: .ref a_m_pieceYear :: .int v17 :: .ref a_m_drawnKeys :: .ref a_m_kept :: .int m_keptAt :: .ref a_m_noNumbers :: []))) :: (a_m_deep, .inl (ci 0, 5, .inl m_deep)) :: (a_m_wide, .inl (ci 0, 5, .inl m_wide)) :: (a_m_zonesAhead, .inl (ci 0, 45, .inl m_zonesAhead)) :: (a_m_drawnKeys, .inl (ci 0, 200, .inl f9)) :: Rw) → va_S A s.heap H locs → lv_has ls 10 [(0, .ref a_m), (2, .int p2), (3, .int p3), (4, .int v6), (5, .int v7), (7, .int v18), (9, .int v22)] → W p l e ({ frames := 4, cells := 0, slots := 0, locals := 90 } : Room) s m ([.ref a_m, .int p1, .int p2, .int p3] : List Value).toArray below meth c H locs 0 0 Q (F0 m 112 ls [.int v28]) := by
                      intro v28 H locs ls hf hP hD hS hl
                      have hf := (ek112 v28).symm.trans hf
                      refine lv_istore (pc := 112) (lv' := [(8, .int v28), (0, .ref a_m), (2, .int p2), (3, .int p3), (4, .int v6), (5, .int v7), (7, .int v18), (9, .int v22)]) hx hb dX11_drawn_112 hl (by decide) rfl (fun ls hl => ?_)
                      obtain ⟨v29, ev29, hf⟩ := q_nm_e hf
                      refine lv_iinc (pc := 114) (v := v29) (lv' := [(9, .int v29), (8, .int v28), (0, .ref a_m), (2, .int p2), (3, .int p3), (4, .int v6), (5, .int v7), (7, .int v18)]) hx hb dX11_drawn_114 hl (k := 7) rfl (by rw [ev29]; rfl) (by decide) rfl (fun ls hl => ?_)
                      refine lv_goto (pc := 117) (tgt := 83) hx hb dX11_drawn_117 (by decide) ?_
                      exact ih83 v28 v29 _ _ _ hf hP hD hS (lv_sub hl [2, 3, 4, 5, 6, 7, 1, 0] rfl)
                    obtain ⟨k111, ek111, hf⟩ := q_j0_e hf
                    have J111 : ∀  (H : Heap) (locs : List Loc) (ls : Array Slot), k111 = some v23 → va_P D vwCl ((a_m, .inr (11, (.ref a_m_cutRows :: .ref a_m_cutColumns :: .ref a_m_deep :: .ref a_m_wide :: .ref a_m_zonesAhead :: .ref a_m_nameOne :: .ref a_m_nameOther :: .ref a_m_tape :: .int m_taped :: .int m_place :: .int m_fault :: .int m_number :: .int m_levelRead :: .int m_keyRead :: .int m_reads :: .int m_faults :: .int m_cutShort :: .int m_noNumber :: .long m_bottomLat :: .long m_bottomLon :: .ref a_m_edges :: .int m_firstBeside :: .int m_manyBeside :: .ref a_m_dist :: .ref a_m_queue :: .int m_queued :: .int m_boxLevel :: .int m_boxTop :: .int m_boxBottom :: .int m_boxWest :: .int m_boxEast :: .int m_isEarly :: .int m_pieces :: .int m_states :: .ref a_m_pieceLevel :: .ref a_m_pieceKey :: .ref a_m_pieceYear :: .int v17 :: .ref a_m_drawnKeys :: .ref a_m_kept :: .int m_keptAt :: .ref a_m_noNumbers :: []))) :: (a_m_deep, .inl (ci 0, 5, .inl m_deep)) :: (a_m_wide, .inl (ci 0, 5, .inl m_wide)) :: (a_m_zonesAhead, .inl (ci 0, 45, .inl m_zonesAhead)) :: (a_m_drawnKeys, .inl (ci 0, 200, .inl f9)) :: Rw) H → va_D A ((a_m, .inr (11, (.ref a_m_cutRows :: .ref a_m_cutColumns :: .ref a_m_deep :: .ref a_m_wide :: .ref a_m_zonesAhead :: .ref a_m_nameOne :: .ref a_m_nameOther :: .ref a_m_tape :: .int m_taped :: .int m_place :: .int m_fault :: .int m_number :: .int m_levelRead :: .int m_keyRead :: .int m_reads :: .int m_faults :: .int m_cutShort :: .int m_noNumber :: .long m_bottomLat :: .long m_bottomLon :: .ref a_m_edges :: .int m_firstBeside :: .int m_manyBeside :: .ref a_m_dist :: .ref a_m_queue :: .int m_queued :: .int m_boxLevel :: .int m_boxTop :: .int m_boxBottom :: .int m_boxWest :: .int m_boxEast :: .int m_isEarly :: .int m_pieces :: .int m_states :: .ref a_m_pieceLevel :: .ref a_m_pieceKey :: .ref a_m_pieceYear :: .int v17 :: .ref a_m_drawnKeys :: .ref a_m_kept :: .int m_keptAt :: .ref a_m_noNumbers :: []))) :: (a_m_deep, .inl (ci 0, 5, .inl m_deep)) :: (a_m_wide, .inl (ci 0, 5, .inl m_wide)) :: (a_m_zonesAhead, .inl (ci 0, 45, .inl m_zonesAhead)) :: (a_m_drawnKeys, .inl (ci 0, 200, .inl f9)) :: Rw) → va_S A s.heap H locs → lv_has ls 10 [(0, .ref a_m), (2, .int p2), (3, .int p3), (4, .int v6), (5, .int v7), (7, .int v18), (9, .int v22)] → W p l e ({ frames := 4, cells := 0, slots := 0, locals := 90 } : Room) s m ([.ref a_m, .int p1, .int p2, .int p3] : List Value).toArray below meth c H locs 0 0 Q (F0 m 111 ls []) := by
                      intro  H locs ls hf hP hD hS hl
                      have hf := (ek111).symm.trans hf
                      refine lv_iconst (pc := 111) (v := 0) hx hb dX11_drawn_111 (by decide) ?_
                      exact J112 0 _ _ _ hf hP hD hS (lv_sub hl [0, 1, 2, 3, 4, 5, 6] rfl)
                    refine q_if_eq (pc := 92) (tgt := 111) hx hb dX11_drawn_92 (by decide) rfl hf (fun hf => ?_) (fun hf => ?_)
                    · exact J111  _ _ _ hf hP hD hS (lv_sub hl [0, 1, 2, 3, 4, 5, 7] rfl)
                    · refine lv_aload_n (pc := 95) hx hb dX11_drawn_95 rfl (lv_at hl 0 rfl) ?_
                      refine va_get (pc := 96) (D := D) (ci := 11) (v := .ref a_m_drawnKeys) (C := RX11) (T := TX11) (N := 42) hx hb hts hinX11 hown hK hP 0 rfl rfl 38 (by decide) w_5 (fun _ h9 => h9) rfl dX11_drawn_96 ?_
                      refine lv_iload (pc := 99) hx hb dX11_drawn_99 (lv_at hl 7 rfl) ?_
                      refine q_iald (pc := 101) hx hb hK hP 4 0 hf rfl rfl dX11_drawn_101 (fun v30 hf => ?_)
                      refine lv_iload (pc := 102) hx hb dX11_drawn_102 (lv_at hl 5 rfl) ?_
                      refine q_icmp_eq (pc := 104) (tgt := 111) hx hb dX11_drawn_104 (by decide) rfl hf (fun hf => ?_) (fun hf => ?_)
                      · exact J111  _ _ _ hf hP hD hS (lv_sub hl [0, 1, 2, 3, 4, 5, 7] rfl)
                      · refine lv_iconst (pc := 107) (v := 1) hx hb dX11_drawn_107 (by decide) ?_
                        refine lv_goto (pc := 108) (tgt := 112) hx hb dX11_drawn_108 (by decide) ?_
                        exact J112 1 _ _ _ hf hP hD hS (lv_sub hl [0, 1, 2, 3, 4, 5, 7] rfl)
              exact LP83 N v19 v20 _ _ _ hm83 hP hD hS (lv_sub hl [4, 5, 6, 7, 8, 2, 1, 0] rfl)
        exact LP36 N v4 v5 v3 m_drawnKeys _ _ _ hm36 hP hD hS (lv_sub hl [2, 4, 5, 1, 0] rfl)
      · refine lv_iconst (pc := 19) (v := (-1)) hx hb dX11_drawn_19 (by decide) ?_
        obtain ⟨e90, e91, e92⟩ := q_inj3 (Option.some.inj hf)
        rw [hQ, ← e90, ← e91, ← e92]
        exact q_iret (pc := 20) hx hb hr hlocks hP hD hS dX11_drawn_20
  exact hgo _ _ rfl hP hS
/-! X11_slotOf -/
set_option maxRecDepth 100000 in
set_option maxHeartbeats 4000000 in
theorem c_M_slotOf (l : Launch) (D : va_G) (ci : Nat → ClassId) (A : Nat → Prop) (sa : Nat → Nat) (N : Nat) (Rw : va_W) (a_m : Nat) (a_m_cutRows : Nat) (a_m_cutColumns : Nat) (a_m_deep : Nat) (a_m_wide : Nat) (a_m_zonesAhead : Nat) (a_m_nameOne : Nat) (a_m_nameOther : Nat) (a_m_tape : Nat) (a_m_edges : Nat) (a_m_dist : Nat) (a_m_queue : Nat) (a_m_pieceLevel : Nat) (a_m_pieceKey : Nat) (a_m_pieceYear : Nat) (a_m_drawnKeys : Nat) (a_m_kept : Nat) (a_m_noNumbers : Nat) (m_taped : Int32) (m_place : Int32) (m_fault : Int32) (m_number : Int32) (m_levelRead : Int32) (m_keyRead : Int32) (m_reads : Int32) (m_faults : Int32) (m_cutShort : Int32) (m_noNumber : Int32) (m_bottomLat : Int64) (m_bottomLon : Int64) (m_firstBeside : Int32) (m_manyBeside : Int32) (m_queued : Int32) (m_boxLevel : Int32) (m_boxTop : Int32) (m_boxBottom : Int32) (m_boxWest : Int32) (m_boxEast : Int32) (m_isEarly : Int32) (m_pieces : Int32) (m_states : Int32) (m_drawnNow : Int32) (m_keptAt : Int32) (m_pieceLevel : Nat → Int32) (m_pieceKey : Nat → Int32) (p1 : Int32) (p2 : Int32) (r : Int32) (hf : f_M_slotOf N m_pieces m_pieceLevel m_pieceKey p1 p2 = some r) : Met l yX11_slotOf wsX11_slotOf ({ frames := 0, cells := 0, slots := 0, locals := 0 }) (va_Pc [.ref a_m, .int p1, .int p2] (q_N D ci A sa ((a_m, .inr (11, (.ref a_m_cutRows :: .ref a_m_cutColumns :: .ref a_m_deep :: .ref a_m_wide :: .ref a_m_zonesAhead :: .ref a_m_nameOne :: .ref a_m_nameOther :: .ref a_m_tape :: .int m_taped :: .int m_place :: .int m_fault :: .int m_number :: .int m_levelRead :: .int m_keyRead :: .int m_reads :: .int m_faults :: .int m_cutShort :: .int m_noNumber :: .long m_bottomLat :: .long m_bottomLon :: .ref a_m_edges :: .int m_firstBeside :: .int m_manyBeside :: .ref a_m_dist :: .ref a_m_queue :: .int m_queued :: .int m_boxLevel :: .int m_boxTop :: .int m_boxBottom :: .int m_boxWest :: .int m_boxEast :: .int m_isEarly :: .int m_pieces :: .int m_states :: .ref a_m_pieceLevel :: .ref a_m_pieceKey :: .ref a_m_pieceYear :: .int m_drawnNow :: .ref a_m_drawnKeys :: .ref a_m_kept :: .int m_keptAt :: .ref a_m_noNumbers :: []))) :: (a_m_pieceLevel, .inl (ci 0, 60, .inl m_pieceLevel)) :: (a_m_pieceKey, .inl (ci 0, 60, .inl m_pieceKey)) :: Rw))) (q_R (some (.int r))) 0 0 A := by
  refine q_ofW (cc := cX11_slotOf) (maxL := 4) (ret := (some .int)) [.ref a_m, .int p1, .int p2] (plainFor_of_name (by decide)) rfl (Nat.le_of_ble_eq_true rfl) ?_
  intro p e s m below meth c ls Q hQ hx hb hml hr hts hown hlocks hK hA hZ hP hD hS hl
  have hl : lv_has ls 4 [(0, .ref a_m), (1, .int p1), (2, .int p2)] := hl
  have hown : s.vm.findClass RX11 = some m.cls := hown
  have hinX11 : ∀ w ∈ wsX110, w ∈ wsX11_slotOf := fun _ h => List.mem_cons_of_mem _ (inWX110 _ h)
  have w_1 := hts (Cond.fieldLink RX11 123 "SheetNamesModel" "pieces" "I") (List.mem_cons_of_mem _ t_w972)
  have w_2 := hts (Cond.fieldLink RX11 45 "SheetNamesModel" "pieceLevel" "[I") (List.mem_cons_of_mem _ t_w982)
  have w_3 := hts (Cond.fieldLink RX11 48 "SheetNamesModel" "pieceKey" "[I") (List.mem_cons_of_mem _ t_w983)
  unfold f_M_slotOf at hf
  have hgo : ∀ (H : Heap) (locs : List Loc), H = s.heap → va_P D vwCl ((a_m, .inr (11, (.ref a_m_cutRows :: .ref a_m_cutColumns :: .ref a_m_deep :: .ref a_m_wide :: .ref a_m_zonesAhead :: .ref a_m_nameOne :: .ref a_m_nameOther :: .ref a_m_tape :: .int m_taped :: .int m_place :: .int m_fault :: .int m_number :: .int m_levelRead :: .int m_keyRead :: .int m_reads :: .int m_faults :: .int m_cutShort :: .int m_noNumber :: .long m_bottomLat :: .long m_bottomLon :: .ref a_m_edges :: .int m_firstBeside :: .int m_manyBeside :: .ref a_m_dist :: .ref a_m_queue :: .int m_queued :: .int m_boxLevel :: .int m_boxTop :: .int m_boxBottom :: .int m_boxWest :: .int m_boxEast :: .int m_isEarly :: .int m_pieces :: .int m_states :: .ref a_m_pieceLevel :: .ref a_m_pieceKey :: .ref a_m_pieceYear :: .int m_drawnNow :: .ref a_m_drawnKeys :: .ref a_m_kept :: .int m_keptAt :: .ref a_m_noNumbers :: []))) :: (a_m_pieceLevel, .inl (ci 0, 60, .inl m_pieceLevel)) :: (a_m_pieceKey, .inl (ci 0, 60, .inl m_pieceKey)) :: Rw) H → va_S A s.heap H locs → W p l e ({ frames := 0, cells := 0, slots := 0, locals := 0 } : Room) s m ([.ref a_m, .int p1, .int p2] : List Value).toArray below meth c H locs 0 0 Q (F0 m 0 ls []) := by
    intro H locs hH hP hS
    subst hH
    refine lv_iconst (pc := 0) (v := 0) hx hb dX11_slotOf_0 (by decide) ?_
    obtain ⟨v1, ev1, hf⟩ := q_nm_e hf
    refine q_topi ev1 ?_
    refine lv_istore_n (pc := 1) (lv' := [(3, .int v1), (0, .ref a_m), (1, .int p1), (2, .int p2)]) hx hb dX11_slotOf_1 rfl hl (by decide) rfl (fun ls hl => ?_)
    obtain ⟨v3, hm2, hf⟩ := q_b1_e hf
    have JE2 : ∀ (H : Heap) (locs : List Loc) (ls : Array Slot), H = s.heap → va_S A s.heap H locs → lv_has ls 4 [(3, .int v3)] → W p l e ({ frames := 0, cells := 0, slots := 0, locals := 0 } : Room) s m ([.ref a_m, .int p1, .int p2] : List Value).toArray below meth c H locs 0 0 Q (F0 m 47 ls []) := by
      intro H locs ls hHs hS hl
      subst hHs
      refine lv_iload_n (pc := 47) hx hb dX11_slotOf_47 rfl (lv_at hl 0 rfl) ?_
      obtain rfl := Option.some.inj hf
      rw [hQ]
      exact q_iretr (pc := 48) hx hb hr hlocks rfl hS dX11_slotOf_48
    have LP2 : ∀ (n2 : Nat) (v2 : Int32) (H : Heap) (locs : List Loc) (ls : Array Slot), f_M_slotOf_L2 m_pieceKey m_pieceLevel m_pieces p1 p2 n2 v2 = some v3 → H = s.heap → va_S A s.heap H locs → lv_has ls 4 [(0, .ref a_m), (1, .int p1), (2, .int p2), (3, .int v2)] → W p l e ({ frames := 0, cells := 0, slots := 0, locals := 0 } : Room) s m ([.ref a_m, .int p1, .int p2] : List Value).toArray below meth c H locs 0 0 Q (F0 m 2 ls []) := by
      intro n2
      induction n2 with
      | zero => intro v2 H locs ls hf; rw [f_M_slotOf_L2] at hf; cases hf
      | succ n2 ih2 =>
        intro v2 H locs ls hf hHs hS hl
        subst hHs
        rw [f_M_slotOf_L2] at hf
        refine lv_iload_n (pc := 2) hx hb dX11_slotOf_2 rfl (lv_at hl 3 rfl) ?_
        refine lv_aload_n (pc := 3) hx hb dX11_slotOf_3 rfl (lv_at hl 0 rfl) ?_
        refine va_get (pc := 4) (D := D) (ci := 11) (v := .int m_pieces) (C := RX11) (T := TX11) (N := 42) hx hb hts hinX11 hown hK hP 0 rfl rfl 32 (by decide) w_1 (fun _ h9 => h9) rfl dX11_slotOf_4 ?_
        refine q_icmp_ge (pc := 7) (tgt := 47) hx hb dX11_slotOf_7 (by decide) rfl hf (fun hf => ?_) (fun hf => ?_)
        · obtain rfl := Option.some.inj hf
          exact JE2 _ _ _ rfl hS (lv_sub hl [3] rfl)
        · refine lv_aload_n (pc := 10) hx hb dX11_slotOf_10 rfl (lv_at hl 0 rfl) ?_
          refine va_get (pc := 11) (D := D) (ci := 11) (v := .ref a_m_pieceLevel) (C := RX11) (T := TX11) (N := 42) hx hb hts hinX11 hown hK hP 0 rfl rfl 34 (by decide) w_2 (fun _ h9 => h9) rfl dX11_slotOf_11 ?_
          refine lv_iload_n (pc := 14) hx hb dX11_slotOf_14 rfl (lv_at hl 3 rfl) ?_
          refine q_iald (pc := 15) hx hb hK hP 1 0 hf rfl rfl dX11_slotOf_15 (fun v4 hf => ?_)
          refine lv_iload_n (pc := 16) hx hb dX11_slotOf_16 rfl (lv_at hl 1 rfl) ?_
          obtain ⟨k40, ek40, hf⟩ := q_j0_e hf
          have J40 : ∀  (H : Heap) (locs : List Loc) (ls : Array Slot), k40 = some v3 → H = s.heap → va_S A s.heap H locs → lv_has ls 4 [(0, .ref a_m), (1, .int p1), (2, .int p2), (3, .int v2)] → W p l e ({ frames := 0, cells := 0, slots := 0, locals := 0 } : Room) s m ([.ref a_m, .int p1, .int p2] : List Value).toArray below meth c H locs 0 0 Q (F0 m 40 ls []) := by
            intro  H locs ls hf hHs hS hl
            subst hHs
            have hf := (ek40).symm.trans hf
            refine lv_iload_n (pc := 40) hx hb dX11_slotOf_40 rfl (lv_at hl 3 rfl) ?_
            refine lv_iconst (pc := 41) (v := 1) hx hb dX11_slotOf_41 (by decide) ?_
            refine lv_iadd (pc := 42) hx hb dX11_slotOf_42 ?_
            obtain ⟨v5, ev5, hf⟩ := q_nm_e hf
            refine q_topi ev5 ?_
            refine lv_istore_n (pc := 43) (lv' := [(3, .int v5), (0, .ref a_m), (1, .int p1), (2, .int p2)]) hx hb dX11_slotOf_43 rfl hl (by decide) rfl (fun ls hl => ?_)
            refine lv_goto (pc := 44) (tgt := 2) hx hb dX11_slotOf_44 (by decide) ?_
            exact ih2 v5 _ _ _ hf rfl hS (lv_sub hl [1, 2, 3, 0] rfl)
          refine q_icmp_lt (pc := 17) (tgt := 40) hx hb dX11_slotOf_17 (by decide) rfl hf (fun hf => ?_) (fun hf => ?_)
          · exact J40  _ _ _ hf rfl hS (lv_sub hl [0, 1, 2, 3] rfl)
          · refine lv_aload_n (pc := 20) hx hb dX11_slotOf_20 rfl (lv_at hl 0 rfl) ?_
            refine va_get (pc := 21) (D := D) (ci := 11) (v := .ref a_m_pieceLevel) (C := RX11) (T := TX11) (N := 42) hx hb hts hinX11 hown hK hP 0 rfl rfl 34 (by decide) w_2 (fun _ h9 => h9) rfl dX11_slotOf_21 ?_
            refine lv_iload_n (pc := 24) hx hb dX11_slotOf_24 rfl (lv_at hl 3 rfl) ?_
            refine q_iald (pc := 25) hx hb hK hP 1 0 hf rfl rfl dX11_slotOf_25 (fun v6 hf => ?_)
            refine lv_iload_n (pc := 26) hx hb dX11_slotOf_26 rfl (lv_at hl 1 rfl) ?_
            refine q_icmp_ne (pc := 27) (tgt := 47) hx hb dX11_slotOf_27 (by decide) rfl hf (fun hf => ?_) (fun hf => ?_)
            · obtain rfl := Option.some.inj hf
              exact JE2 _ _ _ rfl hS (lv_sub hl [3] rfl)
            · refine lv_aload_n (pc := 30) hx hb dX11_slotOf_30 rfl (lv_at hl 0 rfl) ?_
              refine va_get (pc := 31) (D := D) (ci := 11) (v := .ref a_m_pieceKey) (C := RX11) (T := TX11) (N := 42) hx hb hts hinX11 hown hK hP 0 rfl rfl 35 (by decide) w_3 (fun _ h9 => h9) rfl dX11_slotOf_31 ?_
              refine lv_iload_n (pc := 34) hx hb dX11_slotOf_34 rfl (lv_at hl 3 rfl) ?_
              refine q_iald (pc := 35) hx hb hK hP 2 0 hf rfl rfl dX11_slotOf_35 (fun v7 hf => ?_)
              refine lv_iload_n (pc := 36) hx hb dX11_slotOf_36 rfl (lv_at hl 2 rfl) ?_
              refine q_icmp_ge (pc := 37) (tgt := 47) hx hb dX11_slotOf_37 (by decide) rfl hf (fun hf => ?_) (fun hf => ?_)
              · obtain rfl := Option.some.inj hf
                exact JE2 _ _ _ rfl hS (lv_sub hl [3] rfl)
              · exact J40  _ _ _ hf rfl hS (lv_sub hl [0, 1, 2, 3] rfl)
    exact LP2 N v1 _ _ _ hm2 rfl hS (lv_sub hl [1, 2, 3, 0] rfl)
  exact hgo _ _ rfl hP hS
/-! X11_isPiece -/
set_option maxRecDepth 100000 in
set_option maxHeartbeats 4000000 in
theorem c_M_isPiece (l : Launch) (D : va_G) (ci : Nat → ClassId) (A : Nat → Prop) (sa : Nat → Nat) (N : Nat) (Rw : va_W) (a_m : Nat) (a_m_cutRows : Nat) (a_m_cutColumns : Nat) (a_m_deep : Nat) (a_m_wide : Nat) (a_m_zonesAhead : Nat) (a_m_nameOne : Nat) (a_m_nameOther : Nat) (a_m_tape : Nat) (a_m_edges : Nat) (a_m_dist : Nat) (a_m_queue : Nat) (a_m_pieceLevel : Nat) (a_m_pieceKey : Nat) (a_m_pieceYear : Nat) (a_m_drawnKeys : Nat) (a_m_kept : Nat) (a_m_noNumbers : Nat) (m_taped : Int32) (m_place : Int32) (m_fault : Int32) (m_number : Int32) (m_levelRead : Int32) (m_keyRead : Int32) (m_reads : Int32) (m_faults : Int32) (m_cutShort : Int32) (m_noNumber : Int32) (m_bottomLat : Int64) (m_bottomLon : Int64) (m_firstBeside : Int32) (m_manyBeside : Int32) (m_queued : Int32) (m_boxLevel : Int32) (m_boxTop : Int32) (m_boxBottom : Int32) (m_boxWest : Int32) (m_boxEast : Int32) (m_isEarly : Int32) (m_pieces : Int32) (m_states : Int32) (m_drawnNow : Int32) (m_keptAt : Int32) (m_pieceLevel : Nat → Int32) (m_pieceKey : Nat → Int32) (p1 : Int32) (p2 : Int32) (p3 : Int32) (r : Int32) (hf : f_M_isPiece m_pieces m_pieceLevel m_pieceKey p1 p2 p3 = some r) : Met l yX11_isPiece wsX11_isPiece ({ frames := 0, cells := 0, slots := 0, locals := 0 }) (va_Pc [.ref a_m, .int p1, .int p2, .int p3] (q_N D ci A sa ((a_m, .inr (11, (.ref a_m_cutRows :: .ref a_m_cutColumns :: .ref a_m_deep :: .ref a_m_wide :: .ref a_m_zonesAhead :: .ref a_m_nameOne :: .ref a_m_nameOther :: .ref a_m_tape :: .int m_taped :: .int m_place :: .int m_fault :: .int m_number :: .int m_levelRead :: .int m_keyRead :: .int m_reads :: .int m_faults :: .int m_cutShort :: .int m_noNumber :: .long m_bottomLat :: .long m_bottomLon :: .ref a_m_edges :: .int m_firstBeside :: .int m_manyBeside :: .ref a_m_dist :: .ref a_m_queue :: .int m_queued :: .int m_boxLevel :: .int m_boxTop :: .int m_boxBottom :: .int m_boxWest :: .int m_boxEast :: .int m_isEarly :: .int m_pieces :: .int m_states :: .ref a_m_pieceLevel :: .ref a_m_pieceKey :: .ref a_m_pieceYear :: .int m_drawnNow :: .ref a_m_drawnKeys :: .ref a_m_kept :: .int m_keptAt :: .ref a_m_noNumbers :: []))) :: (a_m_pieceLevel, .inl (ci 0, 60, .inl m_pieceLevel)) :: (a_m_pieceKey, .inl (ci 0, 60, .inl m_pieceKey)) :: Rw))) (q_R (some (.int r))) 0 0 A := by
  refine q_ofW (cc := cX11_isPiece) (maxL := 4) (ret := (some .boolean)) [.ref a_m, .int p1, .int p2, .int p3] (plainFor_of_name (by decide)) rfl (Nat.le_of_ble_eq_true rfl) ?_
  intro p e s m below meth c ls Q hQ hx hb hml hr hts hown hlocks hK hA hZ hP hD hS hl
  have hl : lv_has ls 4 [(0, .ref a_m), (1, .int p1), (2, .int p2), (3, .int p3)] := hl
  have hown : s.vm.findClass RX11 = some m.cls := hown
  have hinX11 : ∀ w ∈ wsX110, w ∈ wsX11_isPiece := fun _ h => List.mem_cons_of_mem _ (inWX110 _ h)
  have w_1 := hts (Cond.fieldLink RX11 123 "SheetNamesModel" "pieces" "I") (List.mem_cons_of_mem _ t_w972)
  have w_2 := hts (Cond.fieldLink RX11 45 "SheetNamesModel" "pieceLevel" "[I") (List.mem_cons_of_mem _ t_w982)
  have w_3 := hts (Cond.fieldLink RX11 48 "SheetNamesModel" "pieceKey" "[I") (List.mem_cons_of_mem _ t_w983)
  unfold f_M_isPiece at hf
  have hgo : ∀ (H : Heap) (locs : List Loc), H = s.heap → va_P D vwCl ((a_m, .inr (11, (.ref a_m_cutRows :: .ref a_m_cutColumns :: .ref a_m_deep :: .ref a_m_wide :: .ref a_m_zonesAhead :: .ref a_m_nameOne :: .ref a_m_nameOther :: .ref a_m_tape :: .int m_taped :: .int m_place :: .int m_fault :: .int m_number :: .int m_levelRead :: .int m_keyRead :: .int m_reads :: .int m_faults :: .int m_cutShort :: .int m_noNumber :: .long m_bottomLat :: .long m_bottomLon :: .ref a_m_edges :: .int m_firstBeside :: .int m_manyBeside :: .ref a_m_dist :: .ref a_m_queue :: .int m_queued :: .int m_boxLevel :: .int m_boxTop :: .int m_boxBottom :: .int m_boxWest :: .int m_boxEast :: .int m_isEarly :: .int m_pieces :: .int m_states :: .ref a_m_pieceLevel :: .ref a_m_pieceKey :: .ref a_m_pieceYear :: .int m_drawnNow :: .ref a_m_drawnKeys :: .ref a_m_kept :: .int m_keptAt :: .ref a_m_noNumbers :: []))) :: (a_m_pieceLevel, .inl (ci 0, 60, .inl m_pieceLevel)) :: (a_m_pieceKey, .inl (ci 0, 60, .inl m_pieceKey)) :: Rw) H → va_S A s.heap H locs → W p l e ({ frames := 0, cells := 0, slots := 0, locals := 0 } : Room) s m ([.ref a_m, .int p1, .int p2, .int p3] : List Value).toArray below meth c H locs 0 0 Q (F0 m 0 ls []) := by
    intro H locs hH hP hS
    subst hH
    refine lv_iload_n (pc := 0) hx hb dX11_isPiece_0 rfl (lv_at hl 1 rfl) ?_
    refine lv_aload_n (pc := 1) hx hb dX11_isPiece_1 rfl (lv_at hl 0 rfl) ?_
    refine va_get (pc := 2) (D := D) (ci := 11) (v := .int m_pieces) (C := RX11) (T := TX11) (N := 42) hx hb hts hinX11 hown hK hP 0 rfl rfl 32 (by decide) w_1 (fun _ h9 => h9) rfl dX11_isPiece_2 ?_
    refine q_icmp_ge (pc := 5) (tgt := 32) hx hb dX11_isPiece_5 (by decide) rfl hf (fun hf => ?_) (fun hf => ?_)
    · refine lv_iconst (pc := 32) (v := 0) hx hb dX11_isPiece_32 (by decide) ?_
      obtain rfl := Option.some.inj hf
      rw [hQ]
      exact q_zretr (pc := 33) hx hb hr rfl hlocks rfl hS dX11_isPiece_33
    · refine lv_aload_n (pc := 8) hx hb dX11_isPiece_8 rfl (lv_at hl 0 rfl) ?_
      refine va_get (pc := 9) (D := D) (ci := 11) (v := .ref a_m_pieceLevel) (C := RX11) (T := TX11) (N := 42) hx hb hts hinX11 hown hK hP 0 rfl rfl 34 (by decide) w_2 (fun _ h9 => h9) rfl dX11_isPiece_9 ?_
      refine lv_iload_n (pc := 12) hx hb dX11_isPiece_12 rfl (lv_at hl 1 rfl) ?_
      refine q_iald (pc := 13) hx hb hK hP 1 0 hf rfl rfl dX11_isPiece_13 (fun v1 hf => ?_)
      refine lv_iload_n (pc := 14) hx hb dX11_isPiece_14 rfl (lv_at hl 2 rfl) ?_
      refine q_icmp_ne (pc := 15) (tgt := 32) hx hb dX11_isPiece_15 (by decide) rfl hf (fun hf => ?_) (fun hf => ?_)
      · refine lv_iconst (pc := 32) (v := 0) hx hb dX11_isPiece_32 (by decide) ?_
        obtain rfl := Option.some.inj hf
        rw [hQ]
        exact q_zretr (pc := 33) hx hb hr rfl hlocks rfl hS dX11_isPiece_33
      · refine lv_aload_n (pc := 18) hx hb dX11_isPiece_18 rfl (lv_at hl 0 rfl) ?_
        refine va_get (pc := 19) (D := D) (ci := 11) (v := .ref a_m_pieceKey) (C := RX11) (T := TX11) (N := 42) hx hb hts hinX11 hown hK hP 0 rfl rfl 35 (by decide) w_3 (fun _ h9 => h9) rfl dX11_isPiece_19 ?_
        refine lv_iload_n (pc := 22) hx hb dX11_isPiece_22 rfl (lv_at hl 1 rfl) ?_
        refine q_iald (pc := 23) hx hb hK hP 2 0 hf rfl rfl dX11_isPiece_23 (fun v2 hf => ?_)
        refine lv_iload_n (pc := 24) hx hb dX11_isPiece_24 rfl (lv_at hl 3 rfl) ?_
        refine q_icmp_ne (pc := 25) (tgt := 32) hx hb dX11_isPiece_25 (by decide) rfl hf (fun hf => ?_) (fun hf => ?_)
        · refine lv_iconst (pc := 32) (v := 0) hx hb dX11_isPiece_32 (by decide) ?_
          obtain rfl := Option.some.inj hf
          rw [hQ]
          exact q_zretr (pc := 33) hx hb hr rfl hlocks rfl hS dX11_isPiece_33
        · refine lv_iconst (pc := 28) (v := 1) hx hb dX11_isPiece_28 (by decide) ?_
          refine lv_goto (pc := 29) (tgt := 33) hx hb dX11_isPiece_29 (by decide) ?_
          obtain rfl := Option.some.inj hf
          rw [hQ]
          exact q_zretr (pc := 33) hx hb hr rfl hlocks rfl hS dX11_isPiece_33
  exact hgo _ _ rfl hP hS
/-! X11_puts -/
set_option maxRecDepth 100000 in
set_option maxHeartbeats 4000000 in
theorem c_M_puts (l : Launch) (D : va_G) (ci : Nat → ClassId) (A : Nat → Prop) (sa : Nat → Nat) (N : Nat) (Rw : va_W) (a_m : Nat) (a_m_cutRows : Nat) (a_m_cutColumns : Nat) (a_m_deep : Nat) (a_m_wide : Nat) (a_m_zonesAhead : Nat) (a_m_nameOne : Nat) (a_m_nameOther : Nat) (a_m_tape : Nat) (a_m_edges : Nat) (a_m_dist : Nat) (a_m_queue : Nat) (a_m_pieceLevel : Nat) (a_m_pieceKey : Nat) (a_m_pieceYear : Nat) (a_m_drawnKeys : Nat) (a_m_kept : Nat) (a_m_noNumbers : Nat) (m_taped : Int32) (m_place : Int32) (m_fault : Int32) (m_number : Int32) (m_levelRead : Int32) (m_keyRead : Int32) (m_reads : Int32) (m_faults : Int32) (m_cutShort : Int32) (m_noNumber : Int32) (m_bottomLat : Int64) (m_bottomLon : Int64) (m_firstBeside : Int32) (m_manyBeside : Int32) (m_queued : Int32) (m_boxLevel : Int32) (m_boxTop : Int32) (m_boxBottom : Int32) (m_boxWest : Int32) (m_boxEast : Int32) (m_isEarly : Int32) (m_pieces : Int32) (m_states : Int32) (m_drawnNow : Int32) (m_keptAt : Int32) (m_pieceLevel : Nat → Int32) (m_pieceKey : Nat → Int32) (m_pieceYear : Nat → Int32) (p1 : Int32) (p2 : Int32) (p3 : Int32) (p4 : Int32) (o1 : Nat → Int32) (o2 : Nat → Int32) (o3 : Nat → Int32) (hf : f_M_puts m_pieceLevel m_pieceKey m_pieceYear p1 p2 p3 p4 = some (o1, o2, o3)) : Met l yX11_puts wsX11_puts ({ frames := 0, cells := 0, slots := 0, locals := 0 }) (va_Pc [.ref a_m, .int p1, .int p2, .int p3, .int p4] (q_N D ci A sa ((a_m, .inr (11, (.ref a_m_cutRows :: .ref a_m_cutColumns :: .ref a_m_deep :: .ref a_m_wide :: .ref a_m_zonesAhead :: .ref a_m_nameOne :: .ref a_m_nameOther :: .ref a_m_tape :: .int m_taped :: .int m_place :: .int m_fault :: .int m_number :: .int m_levelRead :: .int m_keyRead :: .int m_reads :: .int m_faults :: .int m_cutShort :: .int m_noNumber :: .long m_bottomLat :: .long m_bottomLon :: .ref a_m_edges :: .int m_firstBeside :: .int m_manyBeside :: .ref a_m_dist :: .ref a_m_queue :: .int m_queued :: .int m_boxLevel :: .int m_boxTop :: .int m_boxBottom :: .int m_boxWest :: .int m_boxEast :: .int m_isEarly :: .int m_pieces :: .int m_states :: .ref a_m_pieceLevel :: .ref a_m_pieceKey :: .ref a_m_pieceYear :: .int m_drawnNow :: .ref a_m_drawnKeys :: .ref a_m_kept :: .int m_keptAt :: .ref a_m_noNumbers :: []))) :: (a_m_pieceLevel, .inl (ci 0, 60, .inl m_pieceLevel)) :: (a_m_pieceKey, .inl (ci 0, 60, .inl m_pieceKey)) :: (a_m_pieceYear, .inl (ci 0, 60, .inl m_pieceYear)) :: Rw))) (q_Q none (q_O D A ((a_m, .inr (11, (.ref a_m_cutRows :: .ref a_m_cutColumns :: .ref a_m_deep :: .ref a_m_wide :: .ref a_m_zonesAhead :: .ref a_m_nameOne :: .ref a_m_nameOther :: .ref a_m_tape :: .int m_taped :: .int m_place :: .int m_fault :: .int m_number :: .int m_levelRead :: .int m_keyRead :: .int m_reads :: .int m_faults :: .int m_cutShort :: .int m_noNumber :: .long m_bottomLat :: .long m_bottomLon :: .ref a_m_edges :: .int m_firstBeside :: .int m_manyBeside :: .ref a_m_dist :: .ref a_m_queue :: .int m_queued :: .int m_boxLevel :: .int m_boxTop :: .int m_boxBottom :: .int m_boxWest :: .int m_boxEast :: .int m_isEarly :: .int m_pieces :: .int m_states :: .ref a_m_pieceLevel :: .ref a_m_pieceKey :: .ref a_m_pieceYear :: .int m_drawnNow :: .ref a_m_drawnKeys :: .ref a_m_kept :: .int m_keptAt :: .ref a_m_noNumbers :: []))) :: (a_m_pieceLevel, .inl (ci 0, 60, .inl o1)) :: (a_m_pieceKey, .inl (ci 0, 60, .inl o2)) :: (a_m_pieceYear, .inl (ci 0, 60, .inl o3)) :: Rw)) A) 0 0 A := by
  refine q_ofW (cc := cX11_puts) (maxL := 5) (ret := none) [.ref a_m, .int p1, .int p2, .int p3, .int p4] (plainFor_of_name (by decide)) rfl (Nat.le_of_ble_eq_true rfl) ?_
  intro p e s m below meth c ls Q hQ hx hb hml hr hts hown hlocks hK hA hZ hP hD hS hl
  have hl : lv_has ls 5 [(0, .ref a_m), (1, .int p1), (2, .int p2), (3, .int p3), (4, .int p4)] := hl
  have hown : s.vm.findClass RX11 = some m.cls := hown
  have hinX11 : ∀ w ∈ wsX110, w ∈ wsX11_puts := fun _ h => List.mem_cons_of_mem _ (inWX110 _ h)
  have w_1 := hts (Cond.fieldLink RX11 45 "SheetNamesModel" "pieceLevel" "[I") (List.mem_cons_of_mem _ t_w982)
  have w_2 := hts (Cond.fieldLink RX11 48 "SheetNamesModel" "pieceKey" "[I") (List.mem_cons_of_mem _ t_w983)
  have w_3 := hts (Cond.fieldLink RX11 51 "SheetNamesModel" "pieceYear" "[I") (List.mem_cons_of_mem _ t_w984)
  unfold f_M_puts at hf
  have hgo : ∀ (H : Heap) (locs : List Loc), H = s.heap → va_P D vwCl ((a_m, .inr (11, (.ref a_m_cutRows :: .ref a_m_cutColumns :: .ref a_m_deep :: .ref a_m_wide :: .ref a_m_zonesAhead :: .ref a_m_nameOne :: .ref a_m_nameOther :: .ref a_m_tape :: .int m_taped :: .int m_place :: .int m_fault :: .int m_number :: .int m_levelRead :: .int m_keyRead :: .int m_reads :: .int m_faults :: .int m_cutShort :: .int m_noNumber :: .long m_bottomLat :: .long m_bottomLon :: .ref a_m_edges :: .int m_firstBeside :: .int m_manyBeside :: .ref a_m_dist :: .ref a_m_queue :: .int m_queued :: .int m_boxLevel :: .int m_boxTop :: .int m_boxBottom :: .int m_boxWest :: .int m_boxEast :: .int m_isEarly :: .int m_pieces :: .int m_states :: .ref a_m_pieceLevel :: .ref a_m_pieceKey :: .ref a_m_pieceYear :: .int m_drawnNow :: .ref a_m_drawnKeys :: .ref a_m_kept :: .int m_keptAt :: .ref a_m_noNumbers :: []))) :: (a_m_pieceLevel, .inl (ci 0, 60, .inl m_pieceLevel)) :: (a_m_pieceKey, .inl (ci 0, 60, .inl m_pieceKey)) :: (a_m_pieceYear, .inl (ci 0, 60, .inl m_pieceYear)) :: Rw) H → va_S A s.heap H locs → W p l e ({ frames := 0, cells := 0, slots := 0, locals := 0 } : Room) s m ([.ref a_m, .int p1, .int p2, .int p3, .int p4] : List Value).toArray below meth c H locs 0 0 Q (F0 m 0 ls []) := by
    intro H locs hH hP hS
    refine lv_aload_n (pc := 0) hx hb dX11_puts_0 rfl (lv_at hl 0 rfl) ?_
    refine va_get (pc := 1) (D := D) (ci := 11) (v := .ref a_m_pieceLevel) (C := RX11) (T := TX11) (N := 42) hx hb hts hinX11 hown hK hP 0 rfl rfl 34 (by decide) w_1 (fun _ h9 => h9) rfl dX11_puts_1 ?_
    refine lv_iload_n (pc := 4) hx hb dX11_puts_4 rfl (lv_at hl 1 rfl) ?_
    refine lv_iload_n (pc := 5) hx hb dX11_puts_5 rfl (lv_at hl 2 rfl) ?_
    refine q_iast (pc := 6) hx hb hK hP hD hS 1 0 hf rfl rfl dX11_puts_6 (fun f1 H locs hf hP hD hS => ?_)
    obtain ⟨hP, hD⟩ : va_PD D A ((a_m, .inr (11, (.ref a_m_cutRows :: .ref a_m_cutColumns :: .ref a_m_deep :: .ref a_m_wide :: .ref a_m_zonesAhead :: .ref a_m_nameOne :: .ref a_m_nameOther :: .ref a_m_tape :: .int m_taped :: .int m_place :: .int m_fault :: .int m_number :: .int m_levelRead :: .int m_keyRead :: .int m_reads :: .int m_faults :: .int m_cutShort :: .int m_noNumber :: .long m_bottomLat :: .long m_bottomLon :: .ref a_m_edges :: .int m_firstBeside :: .int m_manyBeside :: .ref a_m_dist :: .ref a_m_queue :: .int m_queued :: .int m_boxLevel :: .int m_boxTop :: .int m_boxBottom :: .int m_boxWest :: .int m_boxEast :: .int m_isEarly :: .int m_pieces :: .int m_states :: .ref a_m_pieceLevel :: .ref a_m_pieceKey :: .ref a_m_pieceYear :: .int m_drawnNow :: .ref a_m_drawnKeys :: .ref a_m_kept :: .int m_keptAt :: .ref a_m_noNumbers :: []))) :: (a_m_pieceLevel, .inl (ci 0, 60, .inl f1)) :: (a_m_pieceKey, .inl (ci 0, 60, .inl m_pieceKey)) :: (a_m_pieceYear, .inl (ci 0, 60, .inl m_pieceYear)) :: Rw) H := ⟨hP, hD⟩
    refine lv_aload_n (pc := 7) hx hb dX11_puts_7 rfl (lv_at hl 0 rfl) ?_
    refine va_get (pc := 8) (D := D) (ci := 11) (v := .ref a_m_pieceKey) (C := RX11) (T := TX11) (N := 42) hx hb hts hinX11 hown hK hP 0 rfl rfl 35 (by decide) w_2 (fun _ h9 => h9) rfl dX11_puts_8 ?_
    refine lv_iload_n (pc := 11) hx hb dX11_puts_11 rfl (lv_at hl 1 rfl) ?_
    refine lv_iload_n (pc := 12) hx hb dX11_puts_12 rfl (lv_at hl 3 rfl) ?_
    refine q_iast (pc := 13) hx hb hK hP hD hS 2 0 hf rfl rfl dX11_puts_13 (fun f2 H locs hf hP hD hS => ?_)
    obtain ⟨hP, hD⟩ : va_PD D A ((a_m, .inr (11, (.ref a_m_cutRows :: .ref a_m_cutColumns :: .ref a_m_deep :: .ref a_m_wide :: .ref a_m_zonesAhead :: .ref a_m_nameOne :: .ref a_m_nameOther :: .ref a_m_tape :: .int m_taped :: .int m_place :: .int m_fault :: .int m_number :: .int m_levelRead :: .int m_keyRead :: .int m_reads :: .int m_faults :: .int m_cutShort :: .int m_noNumber :: .long m_bottomLat :: .long m_bottomLon :: .ref a_m_edges :: .int m_firstBeside :: .int m_manyBeside :: .ref a_m_dist :: .ref a_m_queue :: .int m_queued :: .int m_boxLevel :: .int m_boxTop :: .int m_boxBottom :: .int m_boxWest :: .int m_boxEast :: .int m_isEarly :: .int m_pieces :: .int m_states :: .ref a_m_pieceLevel :: .ref a_m_pieceKey :: .ref a_m_pieceYear :: .int m_drawnNow :: .ref a_m_drawnKeys :: .ref a_m_kept :: .int m_keptAt :: .ref a_m_noNumbers :: []))) :: (a_m_pieceLevel, .inl (ci 0, 60, .inl f1)) :: (a_m_pieceKey, .inl (ci 0, 60, .inl f2)) :: (a_m_pieceYear, .inl (ci 0, 60, .inl m_pieceYear)) :: Rw) H := ⟨hP, hD⟩
    refine lv_aload_n (pc := 14) hx hb dX11_puts_14 rfl (lv_at hl 0 rfl) ?_
    refine va_get (pc := 15) (D := D) (ci := 11) (v := .ref a_m_pieceYear) (C := RX11) (T := TX11) (N := 42) hx hb hts hinX11 hown hK hP 0 rfl rfl 36 (by decide) w_3 (fun _ h9 => h9) rfl dX11_puts_15 ?_
    refine lv_iload_n (pc := 18) hx hb dX11_puts_18 rfl (lv_at hl 1 rfl) ?_
    refine lv_iload (pc := 19) hx hb dX11_puts_19 (lv_at hl 4 rfl) ?_
    refine q_iast (pc := 21) hx hb hK hP hD hS 3 0 hf rfl rfl dX11_puts_21 (fun f3 H locs hf hP hD hS => ?_)
    obtain ⟨hP, hD⟩ : va_PD D A ((a_m, .inr (11, (.ref a_m_cutRows :: .ref a_m_cutColumns :: .ref a_m_deep :: .ref a_m_wide :: .ref a_m_zonesAhead :: .ref a_m_nameOne :: .ref a_m_nameOther :: .ref a_m_tape :: .int m_taped :: .int m_place :: .int m_fault :: .int m_number :: .int m_levelRead :: .int m_keyRead :: .int m_reads :: .int m_faults :: .int m_cutShort :: .int m_noNumber :: .long m_bottomLat :: .long m_bottomLon :: .ref a_m_edges :: .int m_firstBeside :: .int m_manyBeside :: .ref a_m_dist :: .ref a_m_queue :: .int m_queued :: .int m_boxLevel :: .int m_boxTop :: .int m_boxBottom :: .int m_boxWest :: .int m_boxEast :: .int m_isEarly :: .int m_pieces :: .int m_states :: .ref a_m_pieceLevel :: .ref a_m_pieceKey :: .ref a_m_pieceYear :: .int m_drawnNow :: .ref a_m_drawnKeys :: .ref a_m_kept :: .int m_keptAt :: .ref a_m_noNumbers :: []))) :: (a_m_pieceLevel, .inl (ci 0, 60, .inl f1)) :: (a_m_pieceKey, .inl (ci 0, 60, .inl f2)) :: (a_m_pieceYear, .inl (ci 0, 60, .inl f3)) :: Rw) H := ⟨hP, hD⟩
    obtain ⟨e90, e91, e92⟩ := q_inj3 (Option.some.inj hf)
    rw [hQ, ← e90, ← e91, ← e92]
    exact q_vret (pc := 22) hx hb hr hlocks hP hD hS dX11_puts_22
  exact hgo _ _ rfl hP hS
/-! X11_removes -/
set_option maxRecDepth 100000 in
set_option maxHeartbeats 4000000 in
theorem c_M_removes (l : Launch) (D : va_G) (ci : Nat → ClassId) (A : Nat → Prop) (sa : Nat → Nat) (N : Nat) (Rw : va_W) (a_m : Nat) (a_m_cutRows : Nat) (a_m_cutColumns : Nat) (a_m_deep : Nat) (a_m_wide : Nat) (a_m_zonesAhead : Nat) (a_m_nameOne : Nat) (a_m_nameOther : Nat) (a_m_tape : Nat) (a_m_edges : Nat) (a_m_dist : Nat) (a_m_queue : Nat) (a_m_pieceLevel : Nat) (a_m_pieceKey : Nat) (a_m_pieceYear : Nat) (a_m_drawnKeys : Nat) (a_m_kept : Nat) (a_m_noNumbers : Nat) (m_taped : Int32) (m_place : Int32) (m_fault : Int32) (m_number : Int32) (m_levelRead : Int32) (m_keyRead : Int32) (m_reads : Int32) (m_faults : Int32) (m_cutShort : Int32) (m_noNumber : Int32) (m_bottomLat : Int64) (m_bottomLon : Int64) (m_firstBeside : Int32) (m_manyBeside : Int32) (m_queued : Int32) (m_boxLevel : Int32) (m_boxTop : Int32) (m_boxBottom : Int32) (m_boxWest : Int32) (m_boxEast : Int32) (m_isEarly : Int32) (m_pieces : Int32) (m_states : Int32) (m_drawnNow : Int32) (m_keptAt : Int32) (m_pieceLevel : Nat → Int32) (m_pieceKey : Nat → Int32) (m_pieceYear : Nat → Int32) (p1 : Int32) (o1 : Int32) (o2 : Nat → Int32) (o3 : Nat → Int32) (o4 : Nat → Int32) (hf : f_M_removes N m_pieces m_pieceLevel m_pieceKey m_pieceYear p1 = some (o1, o2, o3, o4)) : Met l yX11_removes wsX11_removes ({ frames := 1, cells := 0, slots := 0, locals := 24 }) (va_Pc [.ref a_m, .int p1] (q_N D ci A sa ((a_m, .inr (11, (.ref a_m_cutRows :: .ref a_m_cutColumns :: .ref a_m_deep :: .ref a_m_wide :: .ref a_m_zonesAhead :: .ref a_m_nameOne :: .ref a_m_nameOther :: .ref a_m_tape :: .int m_taped :: .int m_place :: .int m_fault :: .int m_number :: .int m_levelRead :: .int m_keyRead :: .int m_reads :: .int m_faults :: .int m_cutShort :: .int m_noNumber :: .long m_bottomLat :: .long m_bottomLon :: .ref a_m_edges :: .int m_firstBeside :: .int m_manyBeside :: .ref a_m_dist :: .ref a_m_queue :: .int m_queued :: .int m_boxLevel :: .int m_boxTop :: .int m_boxBottom :: .int m_boxWest :: .int m_boxEast :: .int m_isEarly :: .int m_pieces :: .int m_states :: .ref a_m_pieceLevel :: .ref a_m_pieceKey :: .ref a_m_pieceYear :: .int m_drawnNow :: .ref a_m_drawnKeys :: .ref a_m_kept :: .int m_keptAt :: .ref a_m_noNumbers :: []))) :: (a_m_pieceLevel, .inl (ci 0, 60, .inl m_pieceLevel)) :: (a_m_pieceKey, .inl (ci 0, 60, .inl m_pieceKey)) :: (a_m_pieceYear, .inl (ci 0, 60, .inl m_pieceYear)) :: Rw))) (q_Q none (q_O D A ((a_m, .inr (11, (.ref a_m_cutRows :: .ref a_m_cutColumns :: .ref a_m_deep :: .ref a_m_wide :: .ref a_m_zonesAhead :: .ref a_m_nameOne :: .ref a_m_nameOther :: .ref a_m_tape :: .int m_taped :: .int m_place :: .int m_fault :: .int m_number :: .int m_levelRead :: .int m_keyRead :: .int m_reads :: .int m_faults :: .int m_cutShort :: .int m_noNumber :: .long m_bottomLat :: .long m_bottomLon :: .ref a_m_edges :: .int m_firstBeside :: .int m_manyBeside :: .ref a_m_dist :: .ref a_m_queue :: .int m_queued :: .int m_boxLevel :: .int m_boxTop :: .int m_boxBottom :: .int m_boxWest :: .int m_boxEast :: .int m_isEarly :: .int o1 :: .int m_states :: .ref a_m_pieceLevel :: .ref a_m_pieceKey :: .ref a_m_pieceYear :: .int m_drawnNow :: .ref a_m_drawnKeys :: .ref a_m_kept :: .int m_keptAt :: .ref a_m_noNumbers :: []))) :: (a_m_pieceLevel, .inl (ci 0, 60, .inl o2)) :: (a_m_pieceKey, .inl (ci 0, 60, .inl o3)) :: (a_m_pieceYear, .inl (ci 0, 60, .inl o4)) :: Rw)) A) 0 0 A := by
  refine q_ofW (cc := cX11_removes) (maxL := 3) (ret := none) [.ref a_m, .int p1] (plainFor_of_name (by decide)) rfl (Nat.le_of_ble_eq_true rfl) ?_
  intro p e s m below meth c ls Q hQ hx hb hml hr hts hown hlocks hK hA hZ hP hD hS hl
  have hl : lv_has ls 3 [(0, .ref a_m), (1, .int p1)] := hl
  have hown : s.vm.findClass RX11 = some m.cls := hown
  have hinX11 : ∀ w ∈ wsX110, w ∈ wsX11_removes := fun _ h => List.mem_cons_of_mem _ (inWX110 _ h)
  have w_1 := hts (Cond.fieldLink RX11 123 "SheetNamesModel" "pieces" "I") (List.mem_cons_of_mem _ t_w972)
  have w_2 := hts (Cond.fieldLink RX11 45 "SheetNamesModel" "pieceLevel" "[I") (List.mem_cons_of_mem _ t_w982)
  have w_3 := hts (Cond.fieldLink RX11 48 "SheetNamesModel" "pieceKey" "[I") (List.mem_cons_of_mem _ t_w983)
  have w_4 := hts (Cond.fieldLink RX11 51 "SheetNamesModel" "pieceYear" "[I") (List.mem_cons_of_mem _ t_w984)
  unfold f_M_removes at hf
  have hgo : ∀ (H : Heap) (locs : List Loc), H = s.heap → va_P D vwCl ((a_m, .inr (11, (.ref a_m_cutRows :: .ref a_m_cutColumns :: .ref a_m_deep :: .ref a_m_wide :: .ref a_m_zonesAhead :: .ref a_m_nameOne :: .ref a_m_nameOther :: .ref a_m_tape :: .int m_taped :: .int m_place :: .int m_fault :: .int m_number :: .int m_levelRead :: .int m_keyRead :: .int m_reads :: .int m_faults :: .int m_cutShort :: .int m_noNumber :: .long m_bottomLat :: .long m_bottomLon :: .ref a_m_edges :: .int m_firstBeside :: .int m_manyBeside :: .ref a_m_dist :: .ref a_m_queue :: .int m_queued :: .int m_boxLevel :: .int m_boxTop :: .int m_boxBottom :: .int m_boxWest :: .int m_boxEast :: .int m_isEarly :: .int m_pieces :: .int m_states :: .ref a_m_pieceLevel :: .ref a_m_pieceKey :: .ref a_m_pieceYear :: .int m_drawnNow :: .ref a_m_drawnKeys :: .ref a_m_kept :: .int m_keptAt :: .ref a_m_noNumbers :: []))) :: (a_m_pieceLevel, .inl (ci 0, 60, .inl m_pieceLevel)) :: (a_m_pieceKey, .inl (ci 0, 60, .inl m_pieceKey)) :: (a_m_pieceYear, .inl (ci 0, 60, .inl m_pieceYear)) :: Rw) H → va_S A s.heap H locs → W p l e ({ frames := 1, cells := 0, slots := 0, locals := 24 } : Room) s m ([.ref a_m, .int p1] : List Value).toArray below meth c H locs 0 0 Q (F0 m 0 ls []) := by
    intro H locs hH hP hS
    refine lv_aload_n (pc := 0) hx hb dX11_removes_0 rfl (lv_at hl 0 rfl) ?_
    refine lv_aload_n (pc := 1) hx hb dX11_removes_1 rfl (lv_at hl 0 rfl) ?_
    refine va_get (pc := 2) (D := D) (ci := 11) (v := .int m_pieces) (C := RX11) (T := TX11) (N := 42) hx hb hts hinX11 hown hK hP 0 rfl rfl 32 (by decide) w_1 (fun _ h9 => h9) rfl dX11_removes_2 ?_
    refine lv_iconst (pc := 5) (v := 1) hx hb dX11_removes_5 (by decide) ?_
    refine lv_isub (pc := 6) hx hb dX11_removes_6 ?_
    obtain ⟨v1, ev1, hf⟩ := q_nm_e hf
    refine q_topi ev1 ?_
    refine va_put (pc := 7) (D := D) (ci := 11) (v := .int v1) (ty := .int) (C := RX11) (T := TX11) (N := 42) hx hb hts hinX11 tyX11 tyX11_ok nmX11 hown hK hP hD hS 0 rfl rfl 32 (by decide) w_1 (fun _ h9 => h9) rfl (by decide +kernel) rfl rfl (Nat.le_of_ble_eq_true rfl) dX11_removes_7 (fun H locs hP hD hS => ?_)
    obtain ⟨hP, hD⟩ : va_PD D A ((a_m, .inr (11, (.ref a_m_cutRows :: .ref a_m_cutColumns :: .ref a_m_deep :: .ref a_m_wide :: .ref a_m_zonesAhead :: .ref a_m_nameOne :: .ref a_m_nameOther :: .ref a_m_tape :: .int m_taped :: .int m_place :: .int m_fault :: .int m_number :: .int m_levelRead :: .int m_keyRead :: .int m_reads :: .int m_faults :: .int m_cutShort :: .int m_noNumber :: .long m_bottomLat :: .long m_bottomLon :: .ref a_m_edges :: .int m_firstBeside :: .int m_manyBeside :: .ref a_m_dist :: .ref a_m_queue :: .int m_queued :: .int m_boxLevel :: .int m_boxTop :: .int m_boxBottom :: .int m_boxWest :: .int m_boxEast :: .int m_isEarly :: .int v1 :: .int m_states :: .ref a_m_pieceLevel :: .ref a_m_pieceKey :: .ref a_m_pieceYear :: .int m_drawnNow :: .ref a_m_drawnKeys :: .ref a_m_kept :: .int m_keptAt :: .ref a_m_noNumbers :: []))) :: (a_m_pieceLevel, .inl (ci 0, 60, .inl m_pieceLevel)) :: (a_m_pieceKey, .inl (ci 0, 60, .inl m_pieceKey)) :: (a_m_pieceYear, .inl (ci 0, 60, .inl m_pieceYear)) :: Rw) H := ⟨hP, hD⟩
    refine lv_iload_n (pc := 10) hx hb dX11_removes_10 rfl (lv_at hl 1 rfl) ?_
    refine lv_istore_n (pc := 11) (lv' := [(2, .int p1), (0, .ref a_m), (1, .int p1)]) hx hb dX11_removes_11 rfl hl (by decide) rfl (fun ls hl => ?_)
    obtain ⟨f6, f7, f8, hm12, hf⟩ := q_b3_e hf
    have JE12 : ∀ (H : Heap) (locs : List Loc) (ls : Array Slot), va_P D vwCl ((a_m, .inr (11, (.ref a_m_cutRows :: .ref a_m_cutColumns :: .ref a_m_deep :: .ref a_m_wide :: .ref a_m_zonesAhead :: .ref a_m_nameOne :: .ref a_m_nameOther :: .ref a_m_tape :: .int m_taped :: .int m_place :: .int m_fault :: .int m_number :: .int m_levelRead :: .int m_keyRead :: .int m_reads :: .int m_faults :: .int m_cutShort :: .int m_noNumber :: .long m_bottomLat :: .long m_bottomLon :: .ref a_m_edges :: .int m_firstBeside :: .int m_manyBeside :: .ref a_m_dist :: .ref a_m_queue :: .int m_queued :: .int m_boxLevel :: .int m_boxTop :: .int m_boxBottom :: .int m_boxWest :: .int m_boxEast :: .int m_isEarly :: .int v1 :: .int m_states :: .ref a_m_pieceLevel :: .ref a_m_pieceKey :: .ref a_m_pieceYear :: .int m_drawnNow :: .ref a_m_drawnKeys :: .ref a_m_kept :: .int m_keptAt :: .ref a_m_noNumbers :: []))) :: (a_m_pieceLevel, .inl (ci 0, 60, .inl f6)) :: (a_m_pieceKey, .inl (ci 0, 60, .inl f7)) :: (a_m_pieceYear, .inl (ci 0, 60, .inl f8)) :: Rw) H → va_D A ((a_m, .inr (11, (.ref a_m_cutRows :: .ref a_m_cutColumns :: .ref a_m_deep :: .ref a_m_wide :: .ref a_m_zonesAhead :: .ref a_m_nameOne :: .ref a_m_nameOther :: .ref a_m_tape :: .int m_taped :: .int m_place :: .int m_fault :: .int m_number :: .int m_levelRead :: .int m_keyRead :: .int m_reads :: .int m_faults :: .int m_cutShort :: .int m_noNumber :: .long m_bottomLat :: .long m_bottomLon :: .ref a_m_edges :: .int m_firstBeside :: .int m_manyBeside :: .ref a_m_dist :: .ref a_m_queue :: .int m_queued :: .int m_boxLevel :: .int m_boxTop :: .int m_boxBottom :: .int m_boxWest :: .int m_boxEast :: .int m_isEarly :: .int v1 :: .int m_states :: .ref a_m_pieceLevel :: .ref a_m_pieceKey :: .ref a_m_pieceYear :: .int m_drawnNow :: .ref a_m_drawnKeys :: .ref a_m_kept :: .int m_keptAt :: .ref a_m_noNumbers :: []))) :: (a_m_pieceLevel, .inl (ci 0, 60, .inl f6)) :: (a_m_pieceKey, .inl (ci 0, 60, .inl f7)) :: (a_m_pieceYear, .inl (ci 0, 60, .inl f8)) :: Rw) → va_S A s.heap H locs → lv_has ls 3 [] → W p l e ({ frames := 1, cells := 0, slots := 0, locals := 24 } : Room) s m ([.ref a_m, .int p1] : List Value).toArray below meth c H locs 0 0 Q (F0 m 55 ls []) := by
      intro H locs ls hP hD hS hl
      obtain ⟨e90, e91, e92, e93⟩ := q_inj4 (Option.some.inj hf)
      rw [hQ, ← e90, ← e91, ← e92, ← e93]
      exact q_vret (pc := 55) hx hb hr hlocks hP hD hS dX11_removes_55
    have LP12 : ∀ (n12 : Nat) (v2 : Int32) (f3 : Nat → Int32) (f4 : Nat → Int32) (f5 : Nat → Int32) (H : Heap) (locs : List Loc) (ls : Array Slot), f_M_removes_L12 v1 n12 v2 f3 f4 f5 = some (f6, f7, f8) → va_P D vwCl ((a_m, .inr (11, (.ref a_m_cutRows :: .ref a_m_cutColumns :: .ref a_m_deep :: .ref a_m_wide :: .ref a_m_zonesAhead :: .ref a_m_nameOne :: .ref a_m_nameOther :: .ref a_m_tape :: .int m_taped :: .int m_place :: .int m_fault :: .int m_number :: .int m_levelRead :: .int m_keyRead :: .int m_reads :: .int m_faults :: .int m_cutShort :: .int m_noNumber :: .long m_bottomLat :: .long m_bottomLon :: .ref a_m_edges :: .int m_firstBeside :: .int m_manyBeside :: .ref a_m_dist :: .ref a_m_queue :: .int m_queued :: .int m_boxLevel :: .int m_boxTop :: .int m_boxBottom :: .int m_boxWest :: .int m_boxEast :: .int m_isEarly :: .int v1 :: .int m_states :: .ref a_m_pieceLevel :: .ref a_m_pieceKey :: .ref a_m_pieceYear :: .int m_drawnNow :: .ref a_m_drawnKeys :: .ref a_m_kept :: .int m_keptAt :: .ref a_m_noNumbers :: []))) :: (a_m_pieceLevel, .inl (ci 0, 60, .inl f3)) :: (a_m_pieceKey, .inl (ci 0, 60, .inl f4)) :: (a_m_pieceYear, .inl (ci 0, 60, .inl f5)) :: Rw) H → va_D A ((a_m, .inr (11, (.ref a_m_cutRows :: .ref a_m_cutColumns :: .ref a_m_deep :: .ref a_m_wide :: .ref a_m_zonesAhead :: .ref a_m_nameOne :: .ref a_m_nameOther :: .ref a_m_tape :: .int m_taped :: .int m_place :: .int m_fault :: .int m_number :: .int m_levelRead :: .int m_keyRead :: .int m_reads :: .int m_faults :: .int m_cutShort :: .int m_noNumber :: .long m_bottomLat :: .long m_bottomLon :: .ref a_m_edges :: .int m_firstBeside :: .int m_manyBeside :: .ref a_m_dist :: .ref a_m_queue :: .int m_queued :: .int m_boxLevel :: .int m_boxTop :: .int m_boxBottom :: .int m_boxWest :: .int m_boxEast :: .int m_isEarly :: .int v1 :: .int m_states :: .ref a_m_pieceLevel :: .ref a_m_pieceKey :: .ref a_m_pieceYear :: .int m_drawnNow :: .ref a_m_drawnKeys :: .ref a_m_kept :: .int m_keptAt :: .ref a_m_noNumbers :: []))) :: (a_m_pieceLevel, .inl (ci 0, 60, .inl f3)) :: (a_m_pieceKey, .inl (ci 0, 60, .inl f4)) :: (a_m_pieceYear, .inl (ci 0, 60, .inl f5)) :: Rw) → va_S A s.heap H locs → lv_has ls 3 [(0, .ref a_m), (2, .int v2)] → W p l e ({ frames := 1, cells := 0, slots := 0, locals := 24 } : Room) s m ([.ref a_m, .int p1] : List Value).toArray below meth c H locs 0 0 Q (F0 m 12 ls []) := by
      intro n12
      induction n12 with
      | zero => intro v2 f3 f4 f5 H locs ls hf; rw [f_M_removes_L12] at hf; cases hf
      | succ n12 ih12 =>
        intro v2 f3 f4 f5 H locs ls hf hP hD hS hl
        rw [f_M_removes_L12] at hf
        refine lv_iload_n (pc := 12) hx hb dX11_removes_12 rfl (lv_at hl 1 rfl) ?_
        refine lv_aload_n (pc := 13) hx hb dX11_removes_13 rfl (lv_at hl 0 rfl) ?_
        refine va_get (pc := 14) (D := D) (ci := 11) (v := .int v1) (C := RX11) (T := TX11) (N := 42) hx hb hts hinX11 hown hK hP 0 rfl rfl 32 (by decide) w_1 (fun _ h9 => h9) rfl dX11_removes_14 ?_
        refine q_icmp_ge (pc := 17) (tgt := 55) hx hb dX11_removes_17 (by decide) rfl hf (fun hf => ?_) (fun hf => ?_)
        · obtain ⟨rfl, rfl, rfl⟩ := q_inj3 (Option.some.inj hf)
          exact JE12 _ _ _ hP hD hS (lv_sub hl [] rfl)
        · refine lv_aload_n (pc := 20) hx hb dX11_removes_20 rfl (lv_at hl 0 rfl) ?_
          refine lv_iload_n (pc := 21) hx hb dX11_removes_21 rfl (lv_at hl 1 rfl) ?_
          refine lv_aload_n (pc := 22) hx hb dX11_removes_22 rfl (lv_at hl 0 rfl) ?_
          refine va_get (pc := 23) (D := D) (ci := 11) (v := .ref a_m_pieceLevel) (C := RX11) (T := TX11) (N := 42) hx hb hts hinX11 hown hK hP 0 rfl rfl 34 (by decide) w_2 (fun _ h9 => h9) rfl dX11_removes_23 ?_
          refine lv_iload_n (pc := 26) hx hb dX11_removes_26 rfl (lv_at hl 1 rfl) ?_
          refine lv_iconst (pc := 27) (v := 1) hx hb dX11_removes_27 (by decide) ?_
          refine lv_iadd (pc := 28) hx hb dX11_removes_28 ?_
          refine q_iald (pc := 29) hx hb hK hP 1 0 hf rfl rfl dX11_removes_29 (fun v9 hf => ?_)
          refine lv_aload_n (pc := 30) hx hb dX11_removes_30 rfl (lv_at hl 0 rfl) ?_
          refine va_get (pc := 31) (D := D) (ci := 11) (v := .ref a_m_pieceKey) (C := RX11) (T := TX11) (N := 42) hx hb hts hinX11 hown hK hP 0 rfl rfl 35 (by decide) w_3 (fun _ h9 => h9) rfl dX11_removes_31 ?_
          refine lv_iload_n (pc := 34) hx hb dX11_removes_34 rfl (lv_at hl 1 rfl) ?_
          refine lv_iconst (pc := 35) (v := 1) hx hb dX11_removes_35 (by decide) ?_
          refine lv_iadd (pc := 36) hx hb dX11_removes_36 ?_
          refine q_iald (pc := 37) hx hb hK hP 2 0 hf rfl rfl dX11_removes_37 (fun v10 hf => ?_)
          refine lv_aload_n (pc := 38) hx hb dX11_removes_38 rfl (lv_at hl 0 rfl) ?_
          refine va_get (pc := 39) (D := D) (ci := 11) (v := .ref a_m_pieceYear) (C := RX11) (T := TX11) (N := 42) hx hb hts hinX11 hown hK hP 0 rfl rfl 36 (by decide) w_4 (fun _ h9 => h9) rfl dX11_removes_39 ?_
          refine lv_iload_n (pc := 42) hx hb dX11_removes_42 rfl (lv_at hl 1 rfl) ?_
          refine lv_iconst (pc := 43) (v := 1) hx hb dX11_removes_43 (by decide) ?_
          refine lv_iadd (pc := 44) hx hb dX11_removes_44 ?_
          refine q_iald (pc := 45) hx hb hK hP 3 0 hf rfl rfl dX11_removes_45 (fun v11 hf => ?_)
          obtain ⟨f12, f13, f14, hm46, hf⟩ := q_b3_e hf
          refine q_cV (pc := 46) (As := [.int v2, .int v9, .int v10, .int v11]) (rest := []) (v0 := none) ⟨hx, hb, hml, hown, hts⟩ hK hA hZ hP hD hS hl.1 [0, 1, 2, 3] 4 rfl ⟨rfl, rfl, rfl⟩ (c_M_puts l D ci A sa N (Rw) a_m a_m_cutRows a_m_cutColumns a_m_deep a_m_wide a_m_zonesAhead a_m_nameOne a_m_nameOther a_m_tape a_m_edges a_m_dist a_m_queue a_m_pieceLevel a_m_pieceKey a_m_pieceYear a_m_drawnKeys a_m_kept a_m_noNumbers m_taped m_place m_fault m_number m_levelRead m_keyRead m_reads m_faults m_cutShort m_noNumber m_bottomLat m_bottomLon m_firstBeside m_manyBeside m_queued m_boxLevel m_boxTop m_boxBottom m_boxWest m_boxEast m_isEarly v1 m_states m_drawnNow m_keptAt f3 f4 f5 v2 v9 v10 v11 f12 f13 f14 hm46) 0 rfl rfl (cwV 4 hts gX11_removes_X11_puts rfl rfl rfl (by decide +kernel) ⟨Nat.le_of_ble_eq_true rfl, Nat.le_of_ble_eq_true rfl⟩) rfl rfl (Nat.le_of_ble_eq_true rfl) dX11_removes_46 ⟨Nat.zero_le _, Nat.zero_le _⟩ [0, 1, 2, 3] 4 rfl ⟨rfl, rfl, rfl⟩ (fun H locs hP hD hS => ?_)
          obtain ⟨hP, hD⟩ : va_PD D A ((a_m, .inr (11, (.ref a_m_cutRows :: .ref a_m_cutColumns :: .ref a_m_deep :: .ref a_m_wide :: .ref a_m_zonesAhead :: .ref a_m_nameOne :: .ref a_m_nameOther :: .ref a_m_tape :: .int m_taped :: .int m_place :: .int m_fault :: .int m_number :: .int m_levelRead :: .int m_keyRead :: .int m_reads :: .int m_faults :: .int m_cutShort :: .int m_noNumber :: .long m_bottomLat :: .long m_bottomLon :: .ref a_m_edges :: .int m_firstBeside :: .int m_manyBeside :: .ref a_m_dist :: .ref a_m_queue :: .int m_queued :: .int m_boxLevel :: .int m_boxTop :: .int m_boxBottom :: .int m_boxWest :: .int m_boxEast :: .int m_isEarly :: .int v1 :: .int m_states :: .ref a_m_pieceLevel :: .ref a_m_pieceKey :: .ref a_m_pieceYear :: .int m_drawnNow :: .ref a_m_drawnKeys :: .ref a_m_kept :: .int m_keptAt :: .ref a_m_noNumbers :: []))) :: (a_m_pieceLevel, .inl (ci 0, 60, .inl f12)) :: (a_m_pieceKey, .inl (ci 0, 60, .inl f13)) :: (a_m_pieceYear, .inl (ci 0, 60, .inl f14)) :: Rw) H := ⟨hP, hD⟩
          obtain ⟨v15, ev15, hf⟩ := q_nm_e hf
          refine lv_iinc (pc := 49) (v := v15) (lv' := [(2, .int v15), (0, .ref a_m)]) hx hb dX11_removes_49 hl (k := 1) rfl (by rw [ev15]; rfl) (by decide) rfl (fun ls hl => ?_)
          refine lv_goto (pc := 52) (tgt := 12) hx hb dX11_removes_52 (by decide) ?_
          exact ih12 v15 f12 f13 f14 _ _ _ hf hP hD hS (lv_sub hl [1, 0] rfl)
    exact LP12 N p1 m_pieceLevel m_pieceKey m_pieceYear _ _ _ hm12 hP hD hS (lv_sub hl [1, 0] rfl)
  exact hgo _ _ rfl hP hS
/-! X11_drop -/
set_option maxRecDepth 100000 in
set_option maxHeartbeats 4000000 in
theorem c_M_drop (l : Launch) (D : va_G) (ci : Nat → ClassId) (A : Nat → Prop) (sa : Nat → Nat) (N : Nat) (Rw : va_W) (a_m : Nat) (a_m_cutRows : Nat) (a_m_cutColumns : Nat) (a_m_deep : Nat) (a_m_wide : Nat) (a_m_zonesAhead : Nat) (a_m_nameOne : Nat) (a_m_nameOther : Nat) (a_m_tape : Nat) (a_m_edges : Nat) (a_m_dist : Nat) (a_m_queue : Nat) (a_m_pieceLevel : Nat) (a_m_pieceKey : Nat) (a_m_pieceYear : Nat) (a_m_drawnKeys : Nat) (a_m_kept : Nat) (a_m_noNumbers : Nat) (m_taped : Int32) (m_place : Int32) (m_fault : Int32) (m_number : Int32) (m_levelRead : Int32) (m_keyRead : Int32) (m_reads : Int32) (m_faults : Int32) (m_cutShort : Int32) (m_noNumber : Int32) (m_bottomLat : Int64) (m_bottomLon : Int64) (m_firstBeside : Int32) (m_manyBeside : Int32) (m_queued : Int32) (m_boxLevel : Int32) (m_boxTop : Int32) (m_boxBottom : Int32) (m_boxWest : Int32) (m_boxEast : Int32) (m_isEarly : Int32) (m_pieces : Int32) (m_states : Int32) (m_drawnNow : Int32) (m_keptAt : Int32) (m_deep : Nat → Int32) (m_wide : Nat → Int32) (m_zonesAhead : Nat → Int32) (m_pieceLevel : Nat → Int32) (m_pieceKey : Nat → Int32) (m_pieceYear : Nat → Int32) (p1 : Int32) (p2 : Int32) (r : Int32) (o1 : Int32) (o2 : Nat → Int32) (o3 : Nat → Int32) (o4 : Nat → Int32) (hf : f_M_drop N m_deep m_wide m_zonesAhead m_pieces m_pieceLevel m_pieceKey m_pieceYear p1 p2 = some (r, o1, o2, o3, o4)) : Met l yX11_drop wsX11_drop ({ frames := 5, cells := 0, slots := 0, locals := 111 }) (va_Pc [.ref a_m, .int p1, .int p2] (q_N D ci A sa ((a_m, .inr (11, (.ref a_m_cutRows :: .ref a_m_cutColumns :: .ref a_m_deep :: .ref a_m_wide :: .ref a_m_zonesAhead :: .ref a_m_nameOne :: .ref a_m_nameOther :: .ref a_m_tape :: .int m_taped :: .int m_place :: .int m_fault :: .int m_number :: .int m_levelRead :: .int m_keyRead :: .int m_reads :: .int m_faults :: .int m_cutShort :: .int m_noNumber :: .long m_bottomLat :: .long m_bottomLon :: .ref a_m_edges :: .int m_firstBeside :: .int m_manyBeside :: .ref a_m_dist :: .ref a_m_queue :: .int m_queued :: .int m_boxLevel :: .int m_boxTop :: .int m_boxBottom :: .int m_boxWest :: .int m_boxEast :: .int m_isEarly :: .int m_pieces :: .int m_states :: .ref a_m_pieceLevel :: .ref a_m_pieceKey :: .ref a_m_pieceYear :: .int m_drawnNow :: .ref a_m_drawnKeys :: .ref a_m_kept :: .int m_keptAt :: .ref a_m_noNumbers :: []))) :: (a_m_deep, .inl (ci 0, 5, .inl m_deep)) :: (a_m_wide, .inl (ci 0, 5, .inl m_wide)) :: (a_m_zonesAhead, .inl (ci 0, 45, .inl m_zonesAhead)) :: (a_m_pieceLevel, .inl (ci 0, 60, .inl m_pieceLevel)) :: (a_m_pieceKey, .inl (ci 0, 60, .inl m_pieceKey)) :: (a_m_pieceYear, .inl (ci 0, 60, .inl m_pieceYear)) :: Rw))) (q_Q (some (.int r)) (q_O D A ((a_m, .inr (11, (.ref a_m_cutRows :: .ref a_m_cutColumns :: .ref a_m_deep :: .ref a_m_wide :: .ref a_m_zonesAhead :: .ref a_m_nameOne :: .ref a_m_nameOther :: .ref a_m_tape :: .int m_taped :: .int m_place :: .int m_fault :: .int m_number :: .int m_levelRead :: .int m_keyRead :: .int m_reads :: .int m_faults :: .int m_cutShort :: .int m_noNumber :: .long m_bottomLat :: .long m_bottomLon :: .ref a_m_edges :: .int m_firstBeside :: .int m_manyBeside :: .ref a_m_dist :: .ref a_m_queue :: .int m_queued :: .int m_boxLevel :: .int m_boxTop :: .int m_boxBottom :: .int m_boxWest :: .int m_boxEast :: .int m_isEarly :: .int o1 :: .int m_states :: .ref a_m_pieceLevel :: .ref a_m_pieceKey :: .ref a_m_pieceYear :: .int m_drawnNow :: .ref a_m_drawnKeys :: .ref a_m_kept :: .int m_keptAt :: .ref a_m_noNumbers :: []))) :: (a_m_deep, .inl (ci 0, 5, .inl m_deep)) :: (a_m_wide, .inl (ci 0, 5, .inl m_wide)) :: (a_m_zonesAhead, .inl (ci 0, 45, .inl m_zonesAhead)) :: (a_m_pieceLevel, .inl (ci 0, 60, .inl o2)) :: (a_m_pieceKey, .inl (ci 0, 60, .inl o3)) :: (a_m_pieceYear, .inl (ci 0, 60, .inl o4)) :: Rw)) A) 0 0 A := by
  refine q_ofW (cc := cX11_drop) (maxL := 7) (ret := (some .int)) [.ref a_m, .int p1, .int p2] (plainFor_of_name (by decide)) rfl (Nat.le_of_ble_eq_true rfl) ?_
  intro p e s m below meth c ls Q hQ hx hb hml hr hts hown hlocks hK hA hZ hP hD hS hl
  have hl : lv_has ls 7 [(0, .ref a_m), (1, .int p1), (2, .int p2)] := hl
  have hown : s.vm.findClass RX11 = some m.cls := hown
  have hinX11 : ∀ w ∈ wsX110, w ∈ wsX11_drop := fun _ h => List.mem_cons_of_mem _ (inWX110 _ h)
  have w_1 := hts (Cond.fieldLink RX11 51 "SheetNamesModel" "pieceYear" "[I") (List.mem_cons_of_mem _ t_w984)
  unfold f_M_drop at hf
  have hgo : ∀ (H : Heap) (locs : List Loc), H = s.heap → va_P D vwCl ((a_m, .inr (11, (.ref a_m_cutRows :: .ref a_m_cutColumns :: .ref a_m_deep :: .ref a_m_wide :: .ref a_m_zonesAhead :: .ref a_m_nameOne :: .ref a_m_nameOther :: .ref a_m_tape :: .int m_taped :: .int m_place :: .int m_fault :: .int m_number :: .int m_levelRead :: .int m_keyRead :: .int m_reads :: .int m_faults :: .int m_cutShort :: .int m_noNumber :: .long m_bottomLat :: .long m_bottomLon :: .ref a_m_edges :: .int m_firstBeside :: .int m_manyBeside :: .ref a_m_dist :: .ref a_m_queue :: .int m_queued :: .int m_boxLevel :: .int m_boxTop :: .int m_boxBottom :: .int m_boxWest :: .int m_boxEast :: .int m_isEarly :: .int m_pieces :: .int m_states :: .ref a_m_pieceLevel :: .ref a_m_pieceKey :: .ref a_m_pieceYear :: .int m_drawnNow :: .ref a_m_drawnKeys :: .ref a_m_kept :: .int m_keptAt :: .ref a_m_noNumbers :: []))) :: (a_m_deep, .inl (ci 0, 5, .inl m_deep)) :: (a_m_wide, .inl (ci 0, 5, .inl m_wide)) :: (a_m_zonesAhead, .inl (ci 0, 45, .inl m_zonesAhead)) :: (a_m_pieceLevel, .inl (ci 0, 60, .inl m_pieceLevel)) :: (a_m_pieceKey, .inl (ci 0, 60, .inl m_pieceKey)) :: (a_m_pieceYear, .inl (ci 0, 60, .inl m_pieceYear)) :: Rw) H → va_S A s.heap H locs → W p l e ({ frames := 5, cells := 0, slots := 0, locals := 111 } : Room) s m ([.ref a_m, .int p1, .int p2] : List Value).toArray below meth c H locs 0 0 Q (F0 m 0 ls []) := by
    intro H locs hH hP hS
    refine lv_aload_n (pc := 0) hx hb dX11_drop_0 rfl (lv_at hl 0 rfl) ?_
    refine lv_iload_n (pc := 1) hx hb dX11_drop_1 rfl (lv_at hl 1 rfl) ?_
    refine lv_iload_n (pc := 2) hx hb dX11_drop_2 rfl (lv_at hl 2 rfl) ?_
    obtain ⟨v1, hm3, hf⟩ := q_b1_e hf
    refine q_cVr (pc := 3) (As := [.int p1, .int p2]) (rest := []) (v0 := (some (.int v1))) ⟨hx, hb, hml, hown, hts⟩ hK hA hZ hP hD hS hl.1 [0, 1, 2, 3] 7 rfl ⟨rfl, rfl, rfl⟩ (c_M_isKey l D ci A sa N (Rw) a_m a_m_cutRows a_m_cutColumns a_m_deep a_m_wide a_m_zonesAhead a_m_nameOne a_m_nameOther a_m_tape a_m_edges a_m_dist a_m_queue a_m_pieceLevel a_m_pieceKey a_m_pieceYear a_m_drawnKeys a_m_kept a_m_noNumbers m_taped m_place m_fault m_number m_levelRead m_keyRead m_reads m_faults m_cutShort m_noNumber m_bottomLat m_bottomLon m_firstBeside m_manyBeside m_queued m_boxLevel m_boxTop m_boxBottom m_boxWest m_boxEast m_isEarly m_pieces m_states m_drawnNow m_keptAt m_deep m_wide m_zonesAhead p1 p2 v1 hm3) 0 rfl rfl (cwV 2 hts gX11_drop_X11_isKey rfl rfl rfl (by decide +kernel) ⟨Nat.le_of_ble_eq_true rfl, Nat.le_of_ble_eq_true rfl⟩) rfl rfl (Nat.le_of_ble_eq_true rfl) dX11_drop_3 ⟨Nat.zero_le _, Nat.zero_le _⟩ (fun locs hS => ?_)
    refine q_if_ne (pc := 6) (tgt := 11) hx hb dX11_drop_6 (by decide) rfl hf (fun hf => ?_) (fun hf => ?_)
    · refine lv_aload_n (pc := 11) hx hb dX11_drop_11 rfl (lv_at hl 0 rfl) ?_
      refine lv_iload_n (pc := 12) hx hb dX11_drop_12 rfl (lv_at hl 1 rfl) ?_
      refine lv_iload_n (pc := 13) hx hb dX11_drop_13 rfl (lv_at hl 2 rfl) ?_
      obtain ⟨v2, hm14, hf⟩ := q_b1_e hf
      refine q_cVr (pc := 14) (As := [.int p1, .int p2]) (rest := []) (v0 := (some (.int v2))) ⟨hx, hb, hml, hown, hts⟩ hK hA hZ hP hD hS hl.1 [0, 1, 2, 3] 7 rfl ⟨rfl, rfl, rfl⟩ (c_M_isCap l D ci A sa N (Rw) a_m a_m_cutRows a_m_cutColumns a_m_deep a_m_wide a_m_zonesAhead a_m_nameOne a_m_nameOther a_m_tape a_m_edges a_m_dist a_m_queue a_m_pieceLevel a_m_pieceKey a_m_pieceYear a_m_drawnKeys a_m_kept a_m_noNumbers m_taped m_place m_fault m_number m_levelRead m_keyRead m_reads m_faults m_cutShort m_noNumber m_bottomLat m_bottomLon m_firstBeside m_manyBeside m_queued m_boxLevel m_boxTop m_boxBottom m_boxWest m_boxEast m_isEarly m_pieces m_states m_drawnNow m_keptAt m_deep m_wide m_zonesAhead p1 p2 v2 hm14) 0 rfl rfl (cwV 2 hts gX11_drop_X11_isCap rfl rfl rfl (by decide +kernel) ⟨Nat.le_of_ble_eq_true rfl, Nat.le_of_ble_eq_true rfl⟩) rfl rfl (Nat.le_of_ble_eq_true rfl) dX11_drop_14 ⟨Nat.zero_le _, Nat.zero_le _⟩ (fun locs hS => ?_)
      obtain ⟨k25, ek25, hf⟩ := q_j1_e hf
      have J25 : ∀ (v3 : Int32) (H : Heap) (locs : List Loc) (ls : Array Slot), k25 v3 = some (r, o1, o2, o3, o4) → va_P D vwCl ((a_m, .inr (11, (.ref a_m_cutRows :: .ref a_m_cutColumns :: .ref a_m_deep :: .ref a_m_wide :: .ref a_m_zonesAhead :: .ref a_m_nameOne :: .ref a_m_nameOther :: .ref a_m_tape :: .int m_taped :: .int m_place :: .int m_fault :: .int m_number :: .int m_levelRead :: .int m_keyRead :: .int m_reads :: .int m_faults :: .int m_cutShort :: .int m_noNumber :: .long m_bottomLat :: .long m_bottomLon :: .ref a_m_edges :: .int m_firstBeside :: .int m_manyBeside :: .ref a_m_dist :: .ref a_m_queue :: .int m_queued :: .int m_boxLevel :: .int m_boxTop :: .int m_boxBottom :: .int m_boxWest :: .int m_boxEast :: .int m_isEarly :: .int m_pieces :: .int m_states :: .ref a_m_pieceLevel :: .ref a_m_pieceKey :: .ref a_m_pieceYear :: .int m_drawnNow :: .ref a_m_drawnKeys :: .ref a_m_kept :: .int m_keptAt :: .ref a_m_noNumbers :: []))) :: (a_m_deep, .inl (ci 0, 5, .inl m_deep)) :: (a_m_wide, .inl (ci 0, 5, .inl m_wide)) :: (a_m_zonesAhead, .inl (ci 0, 45, .inl m_zonesAhead)) :: (a_m_pieceLevel, .inl (ci 0, 60, .inl m_pieceLevel)) :: (a_m_pieceKey, .inl (ci 0, 60, .inl m_pieceKey)) :: (a_m_pieceYear, .inl (ci 0, 60, .inl m_pieceYear)) :: Rw) H → va_D A ((a_m, .inr (11, (.ref a_m_cutRows :: .ref a_m_cutColumns :: .ref a_m_deep :: .ref a_m_wide :: .ref a_m_zonesAhead :: .ref a_m_nameOne :: .ref a_m_nameOther :: .ref a_m_tape :: .int m_taped :: .int m_place :: .int m_fault :: .int m_number :: .int m_levelRead :: .int m_keyRead :: .int m_reads :: .int m_faults :: .int m_cutShort :: .int m_noNumber :: .long m_bottomLat :: .long m_bottomLon :: .ref a_m_edges :: .int m_firstBeside :: .int m_manyBeside :: .ref a_m_dist :: .ref a_m_queue :: .int m_queued :: .int m_boxLevel :: .int m_boxTop :: .int m_boxBottom :: .int m_boxWest :: .int m_boxEast :: .int m_isEarly :: .int m_pieces :: .int m_states :: .ref a_m_pieceLevel :: .ref a_m_pieceKey :: .ref a_m_pieceYear :: .int m_drawnNow :: .ref a_m_drawnKeys :: .ref a_m_kept :: .int m_keptAt :: .ref a_m_noNumbers :: []))) :: (a_m_deep, .inl (ci 0, 5, .inl m_deep)) :: (a_m_wide, .inl (ci 0, 5, .inl m_wide)) :: (a_m_zonesAhead, .inl (ci 0, 45, .inl m_zonesAhead)) :: (a_m_pieceLevel, .inl (ci 0, 60, .inl m_pieceLevel)) :: (a_m_pieceKey, .inl (ci 0, 60, .inl m_pieceKey)) :: (a_m_pieceYear, .inl (ci 0, 60, .inl m_pieceYear)) :: Rw) → va_S A s.heap H locs → lv_has ls 7 [(0, .ref a_m), (1, .int p1), (2, .int p2)] → W p l e ({ frames := 5, cells := 0, slots := 0, locals := 111 } : Room) s m ([.ref a_m, .int p1, .int p2] : List Value).toArray below meth c H locs 0 0 Q (F0 m 25 ls [.int v3]) := by
        intro v3 H locs ls hf hP hD hS hl
        have hf := (ek25 v3).symm.trans hf
        refine lv_istore_n (pc := 25) (lv' := [(3, .int v3), (0, .ref a_m), (1, .int p1), (2, .int p2)]) hx hb dX11_drop_25 rfl hl (by decide) rfl (fun ls hl => ?_)
        refine lv_aload_n (pc := 26) hx hb dX11_drop_26 rfl (lv_at hl 1 rfl) ?_
        refine lv_iload_n (pc := 27) hx hb dX11_drop_27 rfl (lv_at hl 2 rfl) ?_
        refine lv_iload_n (pc := 28) hx hb dX11_drop_28 rfl (lv_at hl 3 rfl) ?_
        obtain ⟨v4, hm29, hf⟩ := q_b1_e hf
        refine q_cVr (pc := 29) (As := [.int p1, .int p2]) (rest := []) (v0 := (some (.int v4))) ⟨hx, hb, hml, hown, hts⟩ hK hA hZ hP hD hS hl.1 [0, 1, 2, 3] 7 rfl ⟨rfl, rfl, rfl⟩ (c_M_isCap l D ci A sa N (Rw) a_m a_m_cutRows a_m_cutColumns a_m_deep a_m_wide a_m_zonesAhead a_m_nameOne a_m_nameOther a_m_tape a_m_edges a_m_dist a_m_queue a_m_pieceLevel a_m_pieceKey a_m_pieceYear a_m_drawnKeys a_m_kept a_m_noNumbers m_taped m_place m_fault m_number m_levelRead m_keyRead m_reads m_faults m_cutShort m_noNumber m_bottomLat m_bottomLon m_firstBeside m_manyBeside m_queued m_boxLevel m_boxTop m_boxBottom m_boxWest m_boxEast m_isEarly m_pieces m_states m_drawnNow m_keptAt m_deep m_wide m_zonesAhead p1 p2 v4 hm29) 0 rfl rfl (cwV 2 hts gX11_drop_X11_isCap rfl rfl rfl (by decide +kernel) ⟨Nat.le_of_ble_eq_true rfl, Nat.le_of_ble_eq_true rfl⟩) rfl rfl (Nat.le_of_ble_eq_true rfl) dX11_drop_29 ⟨Nat.zero_le _, Nat.zero_le _⟩ (fun locs hS => ?_)
        obtain ⟨k46, ek46, hf⟩ := q_j1_e hf
        have J46 : ∀ (v5 : Int32) (H : Heap) (locs : List Loc) (ls : Array Slot), k46 v5 = some (r, o1, o2, o3, o4) → va_P D vwCl ((a_m, .inr (11, (.ref a_m_cutRows :: .ref a_m_cutColumns :: .ref a_m_deep :: .ref a_m_wide :: .ref a_m_zonesAhead :: .ref a_m_nameOne :: .ref a_m_nameOther :: .ref a_m_tape :: .int m_taped :: .int m_place :: .int m_fault :: .int m_number :: .int m_levelRead :: .int m_keyRead :: .int m_reads :: .int m_faults :: .int m_cutShort :: .int m_noNumber :: .long m_bottomLat :: .long m_bottomLon :: .ref a_m_edges :: .int m_firstBeside :: .int m_manyBeside :: .ref a_m_dist :: .ref a_m_queue :: .int m_queued :: .int m_boxLevel :: .int m_boxTop :: .int m_boxBottom :: .int m_boxWest :: .int m_boxEast :: .int m_isEarly :: .int m_pieces :: .int m_states :: .ref a_m_pieceLevel :: .ref a_m_pieceKey :: .ref a_m_pieceYear :: .int m_drawnNow :: .ref a_m_drawnKeys :: .ref a_m_kept :: .int m_keptAt :: .ref a_m_noNumbers :: []))) :: (a_m_deep, .inl (ci 0, 5, .inl m_deep)) :: (a_m_wide, .inl (ci 0, 5, .inl m_wide)) :: (a_m_zonesAhead, .inl (ci 0, 45, .inl m_zonesAhead)) :: (a_m_pieceLevel, .inl (ci 0, 60, .inl m_pieceLevel)) :: (a_m_pieceKey, .inl (ci 0, 60, .inl m_pieceKey)) :: (a_m_pieceYear, .inl (ci 0, 60, .inl m_pieceYear)) :: Rw) H → va_D A ((a_m, .inr (11, (.ref a_m_cutRows :: .ref a_m_cutColumns :: .ref a_m_deep :: .ref a_m_wide :: .ref a_m_zonesAhead :: .ref a_m_nameOne :: .ref a_m_nameOther :: .ref a_m_tape :: .int m_taped :: .int m_place :: .int m_fault :: .int m_number :: .int m_levelRead :: .int m_keyRead :: .int m_reads :: .int m_faults :: .int m_cutShort :: .int m_noNumber :: .long m_bottomLat :: .long m_bottomLon :: .ref a_m_edges :: .int m_firstBeside :: .int m_manyBeside :: .ref a_m_dist :: .ref a_m_queue :: .int m_queued :: .int m_boxLevel :: .int m_boxTop :: .int m_boxBottom :: .int m_boxWest :: .int m_boxEast :: .int m_isEarly :: .int m_pieces :: .int m_states :: .ref a_m_pieceLevel :: .ref a_m_pieceKey :: .ref a_m_pieceYear :: .int m_drawnNow :: .ref a_m_drawnKeys :: .ref a_m_kept :: .int m_keptAt :: .ref a_m_noNumbers :: []))) :: (a_m_deep, .inl (ci 0, 5, .inl m_deep)) :: (a_m_wide, .inl (ci 0, 5, .inl m_wide)) :: (a_m_zonesAhead, .inl (ci 0, 45, .inl m_zonesAhead)) :: (a_m_pieceLevel, .inl (ci 0, 60, .inl m_pieceLevel)) :: (a_m_pieceKey, .inl (ci 0, 60, .inl m_pieceKey)) :: (a_m_pieceYear, .inl (ci 0, 60, .inl m_pieceYear)) :: Rw) → va_S A s.heap H locs → lv_has ls 7 [(0, .ref a_m), (3, .int v3)] → W p l e ({ frames := 5, cells := 0, slots := 0, locals := 111 } : Room) s m ([.ref a_m, .int p1, .int p2] : List Value).toArray below meth c H locs 0 0 Q (F0 m 46 ls [.int v5]) := by
          intro v5 H locs ls hf hP hD hS hl
          have hf := (ek46 v5).symm.trans hf
          refine lv_istore (pc := 46) (lv' := [(4, .int v5), (0, .ref a_m), (3, .int v3)]) hx hb dX11_drop_46 hl (by decide) rfl (fun ls hl => ?_)
          refine lv_aload_n (pc := 48) hx hb dX11_drop_48 rfl (lv_at hl 1 rfl) ?_
          refine lv_iload_n (pc := 49) hx hb dX11_drop_49 rfl (lv_at hl 2 rfl) ?_
          refine lv_iload (pc := 50) hx hb dX11_drop_50 (lv_at hl 0 rfl) ?_
          obtain ⟨v6, hm52, hf⟩ := q_b1_e hf
          refine q_cVr (pc := 52) (As := [.int v3, .int v5]) (rest := []) (v0 := (some (.int v6))) ⟨hx, hb, hml, hown, hts⟩ hK hA hZ hP hD hS hl.1 [0, 4, 5] 7 rfl ⟨rfl, rfl, rfl⟩ (c_M_slotOf l D ci A sa N (Rw) a_m a_m_cutRows a_m_cutColumns a_m_deep a_m_wide a_m_zonesAhead a_m_nameOne a_m_nameOther a_m_tape a_m_edges a_m_dist a_m_queue a_m_pieceLevel a_m_pieceKey a_m_pieceYear a_m_drawnKeys a_m_kept a_m_noNumbers m_taped m_place m_fault m_number m_levelRead m_keyRead m_reads m_faults m_cutShort m_noNumber m_bottomLat m_bottomLon m_firstBeside m_manyBeside m_queued m_boxLevel m_boxTop m_boxBottom m_boxWest m_boxEast m_isEarly m_pieces m_states m_drawnNow m_keptAt m_pieceLevel m_pieceKey v3 v5 v6 hm52) 0 rfl rfl (cwV 2 hts gX11_drop_X11_slotOf rfl rfl rfl (by decide +kernel) ⟨Nat.le_of_ble_eq_true rfl, Nat.le_of_ble_eq_true rfl⟩) rfl rfl (Nat.le_of_ble_eq_true rfl) dX11_drop_52 ⟨Nat.zero_le _, Nat.zero_le _⟩ (fun locs hS => ?_)
          refine lv_istore (pc := 55) (lv' := [(5, .int v6), (4, .int v5), (0, .ref a_m), (3, .int v3)]) hx hb dX11_drop_55 hl (by decide) rfl (fun ls hl => ?_)
          refine lv_aload_n (pc := 57) hx hb dX11_drop_57 rfl (lv_at hl 2 rfl) ?_
          refine lv_iload (pc := 58) hx hb dX11_drop_58 (lv_at hl 0 rfl) ?_
          refine lv_iload_n (pc := 60) hx hb dX11_drop_60 rfl (lv_at hl 3 rfl) ?_
          refine lv_iload (pc := 61) hx hb dX11_drop_61 (lv_at hl 1 rfl) ?_
          obtain ⟨v7, hm63, hf⟩ := q_b1_e hf
          refine q_cVr (pc := 63) (As := [.int v6, .int v3, .int v5]) (rest := []) (v0 := (some (.int v7))) ⟨hx, hb, hml, hown, hts⟩ hK hA hZ hP hD hS hl.1 [0, 4, 5] 7 rfl ⟨rfl, rfl, rfl⟩ (c_M_isPiece l D ci A sa N (Rw) a_m a_m_cutRows a_m_cutColumns a_m_deep a_m_wide a_m_zonesAhead a_m_nameOne a_m_nameOther a_m_tape a_m_edges a_m_dist a_m_queue a_m_pieceLevel a_m_pieceKey a_m_pieceYear a_m_drawnKeys a_m_kept a_m_noNumbers m_taped m_place m_fault m_number m_levelRead m_keyRead m_reads m_faults m_cutShort m_noNumber m_bottomLat m_bottomLon m_firstBeside m_manyBeside m_queued m_boxLevel m_boxTop m_boxBottom m_boxWest m_boxEast m_isEarly m_pieces m_states m_drawnNow m_keptAt m_pieceLevel m_pieceKey v6 v3 v5 v7 hm63) 0 rfl rfl (cwV 3 hts gX11_drop_X11_isPiece rfl rfl rfl (by decide +kernel) ⟨Nat.le_of_ble_eq_true rfl, Nat.le_of_ble_eq_true rfl⟩) rfl rfl (Nat.le_of_ble_eq_true rfl) dX11_drop_63 ⟨Nat.zero_le _, Nat.zero_le _⟩ (fun locs hS => ?_)
          refine q_if_ne (pc := 66) (tgt := 72) hx hb dX11_drop_66 (by decide) rfl hf (fun hf => ?_) (fun hf => ?_)
          · refine lv_aload_n (pc := 72) hx hb dX11_drop_72 rfl (lv_at hl 2 rfl) ?_
            refine va_get (pc := 73) (D := D) (ci := 11) (v := .ref a_m_pieceYear) (C := RX11) (T := TX11) (N := 42) hx hb hts hinX11 hown hK hP 0 rfl rfl 36 (by decide) w_1 (fun _ h9 => h9) rfl dX11_drop_73 ?_
            refine lv_iload (pc := 76) hx hb dX11_drop_76 (lv_at hl 0 rfl) ?_
            refine q_iald (pc := 78) hx hb hK hP 6 0 hf rfl rfl dX11_drop_78 (fun v8 hf => ?_)
            refine lv_istore (pc := 79) (lv' := [(6, .int v8), (5, .int v6), (4, .int v5), (0, .ref a_m), (3, .int v3)]) hx hb dX11_drop_79 hl (by decide) rfl (fun ls hl => ?_)
            refine lv_aload_n (pc := 81) hx hb dX11_drop_81 rfl (lv_at hl 3 rfl) ?_
            refine lv_iload (pc := 82) hx hb dX11_drop_82 (lv_at hl 1 rfl) ?_
            obtain ⟨v9, f10, f11, f12, hm84, hf⟩ := q_b4_e hf
            refine q_cV (pc := 84) (As := [.int v6]) (rest := []) (v0 := none) ⟨hx, hb, hml, hown, hts⟩ hK hA hZ hP hD hS hl.1 [0, 4, 5, 6, 1, 2, 3] 7 rfl ⟨rfl, rfl, rfl⟩ (c_M_removes l D ci A sa N ((a_m_deep, .inl (ci 0, 5, .inl m_deep)) :: (a_m_wide, .inl (ci 0, 5, .inl m_wide)) :: (a_m_zonesAhead, .inl (ci 0, 45, .inl m_zonesAhead)) :: Rw) a_m a_m_cutRows a_m_cutColumns a_m_deep a_m_wide a_m_zonesAhead a_m_nameOne a_m_nameOther a_m_tape a_m_edges a_m_dist a_m_queue a_m_pieceLevel a_m_pieceKey a_m_pieceYear a_m_drawnKeys a_m_kept a_m_noNumbers m_taped m_place m_fault m_number m_levelRead m_keyRead m_reads m_faults m_cutShort m_noNumber m_bottomLat m_bottomLon m_firstBeside m_manyBeside m_queued m_boxLevel m_boxTop m_boxBottom m_boxWest m_boxEast m_isEarly m_pieces m_states m_drawnNow m_keptAt m_pieceLevel m_pieceKey m_pieceYear v6 v9 f10 f11 f12 hm84) 0 rfl rfl (cwV 1 hts gX11_drop_X11_removes rfl rfl rfl (by decide +kernel) ⟨Nat.le_of_ble_eq_true rfl, Nat.le_of_ble_eq_true rfl⟩) rfl rfl (Nat.le_of_ble_eq_true rfl) dX11_drop_84 ⟨Nat.zero_le _, Nat.zero_le _⟩ [0, 4, 5, 6, 1, 2, 3] 7 rfl ⟨rfl, rfl, rfl⟩ (fun H locs hP hD hS => ?_)
            obtain ⟨hP, hD⟩ : va_PD D A ((a_m, .inr (11, (.ref a_m_cutRows :: .ref a_m_cutColumns :: .ref a_m_deep :: .ref a_m_wide :: .ref a_m_zonesAhead :: .ref a_m_nameOne :: .ref a_m_nameOther :: .ref a_m_tape :: .int m_taped :: .int m_place :: .int m_fault :: .int m_number :: .int m_levelRead :: .int m_keyRead :: .int m_reads :: .int m_faults :: .int m_cutShort :: .int m_noNumber :: .long m_bottomLat :: .long m_bottomLon :: .ref a_m_edges :: .int m_firstBeside :: .int m_manyBeside :: .ref a_m_dist :: .ref a_m_queue :: .int m_queued :: .int m_boxLevel :: .int m_boxTop :: .int m_boxBottom :: .int m_boxWest :: .int m_boxEast :: .int m_isEarly :: .int v9 :: .int m_states :: .ref a_m_pieceLevel :: .ref a_m_pieceKey :: .ref a_m_pieceYear :: .int m_drawnNow :: .ref a_m_drawnKeys :: .ref a_m_kept :: .int m_keptAt :: .ref a_m_noNumbers :: []))) :: (a_m_deep, .inl (ci 0, 5, .inl m_deep)) :: (a_m_wide, .inl (ci 0, 5, .inl m_wide)) :: (a_m_zonesAhead, .inl (ci 0, 45, .inl m_zonesAhead)) :: (a_m_pieceLevel, .inl (ci 0, 60, .inl f10)) :: (a_m_pieceKey, .inl (ci 0, 60, .inl f11)) :: (a_m_pieceYear, .inl (ci 0, 60, .inl f12)) :: Rw) H := ⟨hP, hD⟩
            refine lv_iload (pc := 87) hx hb dX11_drop_87 (lv_at hl 0 rfl) ?_
            obtain ⟨e90, e91, e92, e93, e94⟩ := q_inj5 (Option.some.inj hf)
            rw [hQ, ← e90, ← e91, ← e92, ← e93, ← e94]
            exact q_iret (pc := 89) hx hb hr hlocks hP hD hS dX11_drop_89
          · refine lv_bipush (pc := 69) (v := (-2)) hx hb dX11_drop_69 (by decide) ?_
            obtain ⟨e90, e91, e92, e93, e94⟩ := q_inj5 (Option.some.inj hf)
            rw [hQ, ← e90, ← e91, ← e92, ← e93, ← e94]
            exact q_iret (pc := 71) hx hb hr hlocks hP hD hS dX11_drop_71
        refine q_if_eq (pc := 32) (tgt := 45) hx hb dX11_drop_32 (by decide) rfl hf (fun hf => ?_) (fun hf => ?_)
        · refine lv_iload_n (pc := 45) hx hb dX11_drop_45 rfl (lv_at hl 3 rfl) ?_
          exact J46 p2 _ _ _ hf hP hD hS (lv_sub hl [1, 0] rfl)
        · refine lv_aload_n (pc := 35) hx hb dX11_drop_35 rfl (lv_at hl 1 rfl) ?_
          refine lv_iload_n (pc := 36) hx hb dX11_drop_36 rfl (lv_at hl 2 rfl) ?_
          refine lv_iload_n (pc := 37) hx hb dX11_drop_37 rfl (lv_at hl 3 rfl) ?_
          refine lv_iconst (pc := 38) (v := 0) hx hb dX11_drop_38 (by decide) ?_
          obtain ⟨v13, hm39, hf⟩ := q_b1_e hf
          refine q_cVr (pc := 39) (As := [.int p1, .int p2, .int 0]) (rest := []) (v0 := (some (.int v13))) ⟨hx, hb, hml, hown, hts⟩ hK hA hZ hP hD hS hl.1 [0, 1, 2, 3] 7 rfl ⟨rfl, rfl, rfl⟩ (c_M_parentOf l D ci A sa N (Rw) a_m a_m_cutRows a_m_cutColumns a_m_deep a_m_wide a_m_zonesAhead a_m_nameOne a_m_nameOther a_m_tape a_m_edges a_m_dist a_m_queue a_m_pieceLevel a_m_pieceKey a_m_pieceYear a_m_drawnKeys a_m_kept a_m_noNumbers m_taped m_place m_fault m_number m_levelRead m_keyRead m_reads m_faults m_cutShort m_noNumber m_bottomLat m_bottomLon m_firstBeside m_manyBeside m_queued m_boxLevel m_boxTop m_boxBottom m_boxWest m_boxEast m_isEarly m_pieces m_states m_drawnNow m_keptAt m_deep m_wide m_zonesAhead p1 p2 0 v13 hm39) 0 rfl rfl (cwV 3 hts gX11_drop_X11_parentOf rfl rfl rfl (by decide +kernel) ⟨Nat.le_of_ble_eq_true rfl, Nat.le_of_ble_eq_true rfl⟩) rfl rfl (Nat.le_of_ble_eq_true rfl) dX11_drop_39 ⟨Nat.zero_le _, Nat.zero_le _⟩ (fun locs hS => ?_)
          refine lv_goto (pc := 42) (tgt := 46) hx hb dX11_drop_42 (by decide) ?_
          exact J46 v13 _ _ _ hf hP hD hS (lv_sub hl [1, 0] rfl)
      refine q_if_eq (pc := 17) (tgt := 24) hx hb dX11_drop_17 (by decide) rfl hf (fun hf => ?_) (fun hf => ?_)
      · refine lv_iload_n (pc := 24) hx hb dX11_drop_24 rfl (lv_at hl 1 rfl) ?_
        exact J25 p1 _ _ _ hf hP hD hS (lv_sub hl [0, 1, 2] rfl)
      · refine lv_iconst (pc := 20) (v := 0) hx hb dX11_drop_20 (by decide) ?_
        refine lv_goto (pc := 21) (tgt := 25) hx hb dX11_drop_21 (by decide) ?_
        exact J25 0 _ _ _ hf hP hD hS (lv_sub hl [0, 1, 2] rfl)
    · refine lv_iconst (pc := 9) (v := (-1)) hx hb dX11_drop_9 (by decide) ?_
      obtain ⟨e90, e91, e92, e93, e94⟩ := q_inj5 (Option.some.inj hf)
      rw [hQ, ← e90, ← e91, ← e92, ← e93, ← e94]
      exact q_iret (pc := 10) hx hb hr hlocks hP hD hS dX11_drop_10
  exact hgo _ _ rfl hP hS
/-! X11_edge -/
set_option maxRecDepth 100000 in
set_option maxHeartbeats 4000000 in
theorem c_M_edge (l : Launch) (D : va_G) (ci : Nat → ClassId) (A : Nat → Prop) (sa : Nat → Nat) (N : Nat) (Rw : va_W) (a_m : Nat) (a_m_cutRows : Nat) (a_m_cutColumns : Nat) (a_m_deep : Nat) (a_m_wide : Nat) (a_m_zonesAhead : Nat) (a_m_nameOne : Nat) (a_m_nameOther : Nat) (a_m_tape : Nat) (a_m_edges : Nat) (a_m_dist : Nat) (a_m_queue : Nat) (a_m_pieceLevel : Nat) (a_m_pieceKey : Nat) (a_m_pieceYear : Nat) (a_m_drawnKeys : Nat) (a_m_kept : Nat) (a_m_noNumbers : Nat) (m_taped : Int32) (m_place : Int32) (m_fault : Int32) (m_number : Int32) (m_levelRead : Int32) (m_keyRead : Int32) (m_reads : Int32) (m_faults : Int32) (m_cutShort : Int32) (m_noNumber : Int32) (m_bottomLat : Int64) (m_bottomLon : Int64) (m_firstBeside : Int32) (m_manyBeside : Int32) (m_queued : Int32) (m_boxLevel : Int32) (m_boxTop : Int32) (m_boxBottom : Int32) (m_boxWest : Int32) (m_boxEast : Int32) (m_isEarly : Int32) (m_pieces : Int32) (m_states : Int32) (m_drawnNow : Int32) (m_keptAt : Int32) (m_deep : Nat → Int32) (m_wide : Nat → Int32) (m_zonesAhead : Nat → Int32) (m_edges : Nat → Int64) (p1 : Int32) (p2 : Int32) (p3 : Int32) (r : Int64) (o1 : Int64) (o2 : Int64) (o3 : Nat → Int64) (hf : f_M_edge N m_deep m_wide m_zonesAhead m_bottomLat m_bottomLon m_edges p1 p2 p3 = some (r, o1, o2, o3)) : Met l yX11_edge wsX11_edge ({ frames := 5, cells := 0, slots := 0, locals := 111 }) (va_Pc [.ref a_m, .int p1, .int p2, .int p3] (q_N D ci A sa ((a_m, .inr (11, (.ref a_m_cutRows :: .ref a_m_cutColumns :: .ref a_m_deep :: .ref a_m_wide :: .ref a_m_zonesAhead :: .ref a_m_nameOne :: .ref a_m_nameOther :: .ref a_m_tape :: .int m_taped :: .int m_place :: .int m_fault :: .int m_number :: .int m_levelRead :: .int m_keyRead :: .int m_reads :: .int m_faults :: .int m_cutShort :: .int m_noNumber :: .long m_bottomLat :: .long m_bottomLon :: .ref a_m_edges :: .int m_firstBeside :: .int m_manyBeside :: .ref a_m_dist :: .ref a_m_queue :: .int m_queued :: .int m_boxLevel :: .int m_boxTop :: .int m_boxBottom :: .int m_boxWest :: .int m_boxEast :: .int m_isEarly :: .int m_pieces :: .int m_states :: .ref a_m_pieceLevel :: .ref a_m_pieceKey :: .ref a_m_pieceYear :: .int m_drawnNow :: .ref a_m_drawnKeys :: .ref a_m_kept :: .int m_keptAt :: .ref a_m_noNumbers :: []))) :: (a_m_deep, .inl (ci 0, 5, .inl m_deep)) :: (a_m_wide, .inl (ci 0, 5, .inl m_wide)) :: (a_m_zonesAhead, .inl (ci 0, 45, .inl m_zonesAhead)) :: (a_m_edges, .inl (ci 1, 4, .inr (.inl m_edges))) :: Rw))) (q_Q (some (.long r)) (q_O D A ((a_m, .inr (11, (.ref a_m_cutRows :: .ref a_m_cutColumns :: .ref a_m_deep :: .ref a_m_wide :: .ref a_m_zonesAhead :: .ref a_m_nameOne :: .ref a_m_nameOther :: .ref a_m_tape :: .int m_taped :: .int m_place :: .int m_fault :: .int m_number :: .int m_levelRead :: .int m_keyRead :: .int m_reads :: .int m_faults :: .int m_cutShort :: .int m_noNumber :: .long o1 :: .long o2 :: .ref a_m_edges :: .int m_firstBeside :: .int m_manyBeside :: .ref a_m_dist :: .ref a_m_queue :: .int m_queued :: .int m_boxLevel :: .int m_boxTop :: .int m_boxBottom :: .int m_boxWest :: .int m_boxEast :: .int m_isEarly :: .int m_pieces :: .int m_states :: .ref a_m_pieceLevel :: .ref a_m_pieceKey :: .ref a_m_pieceYear :: .int m_drawnNow :: .ref a_m_drawnKeys :: .ref a_m_kept :: .int m_keptAt :: .ref a_m_noNumbers :: []))) :: (a_m_deep, .inl (ci 0, 5, .inl m_deep)) :: (a_m_wide, .inl (ci 0, 5, .inl m_wide)) :: (a_m_zonesAhead, .inl (ci 0, 45, .inl m_zonesAhead)) :: (a_m_edges, .inl (ci 1, 4, .inr (.inl o3))) :: Rw)) A) 0 0 A := by
  refine q_ofW (cc := cX11_edge) (maxL := 10) (ret := (some .long)) [.ref a_m, .int p1, .int p2, .int p3] (plainFor_of_name (by decide)) rfl (Nat.le_of_ble_eq_true rfl) ?_
  intro p e s m below meth c ls Q hQ hx hb hml hr hts hown hlocks hK hA hZ hP hD hS hl
  have hl : lv_has ls 10 [(0, .ref a_m), (1, .int p1), (2, .int p2), (3, .int p3)] := hl
  have hown : s.vm.findClass RX11 = some m.cls := hown
  have hinX11 : ∀ w ∈ wsX110, w ∈ wsX11_edge := fun _ h => List.mem_cons_of_mem _ (inWX110 _ h)
  have w_1 := hts (Cond.constantLong RX11 233 (7)) (List.mem_cons_of_mem _ t_w985)
  have w_2 := hts (Cond.constantLong RX11 235 (-9223372036854775808)) (List.mem_cons_of_mem _ t_w986)
  have w_3 := hts (Cond.fieldLink RX11 35 "SheetNamesModel" "edges" "[J") (List.mem_cons_of_mem _ t_w936)
  have w_4 := hts (Cond.fieldLink RX11 220 "SheetNamesModel" "bottomLat" "J") (List.mem_cons_of_mem _ t_w934)
  have w_5 := hts (Cond.fieldLink RX11 224 "SheetNamesModel" "bottomLon" "J") (List.mem_cons_of_mem _ t_w935)
  unfold f_M_edge at hf
  have hgo : ∀ (H : Heap) (locs : List Loc), H = s.heap → va_P D vwCl ((a_m, .inr (11, (.ref a_m_cutRows :: .ref a_m_cutColumns :: .ref a_m_deep :: .ref a_m_wide :: .ref a_m_zonesAhead :: .ref a_m_nameOne :: .ref a_m_nameOther :: .ref a_m_tape :: .int m_taped :: .int m_place :: .int m_fault :: .int m_number :: .int m_levelRead :: .int m_keyRead :: .int m_reads :: .int m_faults :: .int m_cutShort :: .int m_noNumber :: .long m_bottomLat :: .long m_bottomLon :: .ref a_m_edges :: .int m_firstBeside :: .int m_manyBeside :: .ref a_m_dist :: .ref a_m_queue :: .int m_queued :: .int m_boxLevel :: .int m_boxTop :: .int m_boxBottom :: .int m_boxWest :: .int m_boxEast :: .int m_isEarly :: .int m_pieces :: .int m_states :: .ref a_m_pieceLevel :: .ref a_m_pieceKey :: .ref a_m_pieceYear :: .int m_drawnNow :: .ref a_m_drawnKeys :: .ref a_m_kept :: .int m_keptAt :: .ref a_m_noNumbers :: []))) :: (a_m_deep, .inl (ci 0, 5, .inl m_deep)) :: (a_m_wide, .inl (ci 0, 5, .inl m_wide)) :: (a_m_zonesAhead, .inl (ci 0, 45, .inl m_zonesAhead)) :: (a_m_edges, .inl (ci 1, 4, .inr (.inl m_edges))) :: Rw) H → va_S A s.heap H locs → W p l e ({ frames := 5, cells := 0, slots := 0, locals := 111 } : Room) s m ([.ref a_m, .int p1, .int p2, .int p3] : List Value).toArray below meth c H locs 0 0 Q (F0 m 0 ls []) := by
    intro H locs hH hP hS
    refine lv_aload_n (pc := 0) hx hb dX11_edge_0 rfl (lv_at hl 0 rfl) ?_
    refine lv_iload_n (pc := 1) hx hb dX11_edge_1 rfl (lv_at hl 1 rfl) ?_
    refine lv_iload_n (pc := 2) hx hb dX11_edge_2 rfl (lv_at hl 2 rfl) ?_
    obtain ⟨v1, hm3, hf⟩ := q_b1_e hf
    refine q_cVr (pc := 3) (As := [.int p1, .int p2]) (rest := []) (v0 := (some (.int v1))) ⟨hx, hb, hml, hown, hts⟩ hK hA hZ hP hD hS hl.1 [0, 1, 2, 3] 5 rfl ⟨rfl, rfl, rfl⟩ (c_M_isKey l D ci A sa N (Rw) a_m a_m_cutRows a_m_cutColumns a_m_deep a_m_wide a_m_zonesAhead a_m_nameOne a_m_nameOther a_m_tape a_m_edges a_m_dist a_m_queue a_m_pieceLevel a_m_pieceKey a_m_pieceYear a_m_drawnKeys a_m_kept a_m_noNumbers m_taped m_place m_fault m_number m_levelRead m_keyRead m_reads m_faults m_cutShort m_noNumber m_bottomLat m_bottomLon m_firstBeside m_manyBeside m_queued m_boxLevel m_boxTop m_boxBottom m_boxWest m_boxEast m_isEarly m_pieces m_states m_drawnNow m_keptAt m_deep m_wide m_zonesAhead p1 p2 v1 hm3) 0 rfl rfl (cwV 2 hts gX11_edge_X11_isKey rfl rfl rfl (by decide +kernel) ⟨Nat.le_of_ble_eq_true rfl, Nat.le_of_ble_eq_true rfl⟩) rfl rfl (Nat.le_of_ble_eq_true rfl) dX11_edge_3 ⟨Nat.zero_le _, Nat.zero_le _⟩ (fun locs hS => ?_)
    refine q_if_eq (pc := 6) (tgt := 21) hx hb dX11_edge_6 (by decide) rfl hf (fun hf => ?_) (fun hf => ?_)
    · refine lv_ldc2 (pc := 21) (v := (-9223372036854775808)) hx hb hown w_2 dX11_edge_21 ?_
      obtain ⟨e90, e91, e92, e93⟩ := q_inj4 (Option.some.inj hf)
      rw [hQ, ← e90, ← e91, ← e92, ← e93]
      exact q_lret (pc := 24) hx hb hr hlocks hP hD hS dX11_edge_24
    · refine lv_iload_n (pc := 9) hx hb dX11_edge_9 rfl (lv_at hl 3 rfl) ?_
      refine lv_i2l (pc := 10) hx hb dX11_edge_10 rfl ?_
      refine lv_lconst (pc := 11) (v := 0) hx hb dX11_edge_11 (by decide) ?_
      refine lv_ldc2 (pc := 12) (v := 7) hx hb hown w_1 dX11_edge_12 ?_
      obtain ⟨v2, hm15, hf⟩ := q_b1_e hf
      refine q_cSr (pc := 15) (As := [.long p3.toInt64, .long 0, .long 7]) (rest := []) (v0 := (some (.int v2))) ⟨hx, hb, hml, hown, hts⟩ hK hA hZ hP hD hS hl.1 [] 5 rfl ⟨rfl, rfl, rfl⟩ (c_M_in l D ci A sa N (Rw) p3.toInt64 0 7 v2 hm15) (va_cwS 3 hts gX11_edge_X11_in rfl rfl rfl (by decide +kernel) ⟨Nat.le_of_ble_eq_true rfl, Nat.le_of_ble_eq_true rfl⟩) rfl rfl (Nat.le_of_ble_eq_true rfl) dX11_edge_15 ⟨Nat.zero_le _, Nat.zero_le _⟩ (fun locs hS => ?_)
      refine q_if_ne (pc := 18) (tgt := 25) hx hb dX11_edge_18 (by decide) rfl hf (fun hf => ?_) (fun hf => ?_)
      · refine lv_aload_n (pc := 25) hx hb dX11_edge_25 rfl (lv_at hl 0 rfl) ?_
        refine lv_iload_n (pc := 26) hx hb dX11_edge_26 rfl (lv_at hl 1 rfl) ?_
        refine lv_iload_n (pc := 27) hx hb dX11_edge_27 rfl (lv_at hl 2 rfl) ?_
        obtain ⟨v3, v4, f5, hm28, hf⟩ := q_b3_e hf
        refine q_cV (pc := 28) (As := [.int p1, .int p2]) (rest := []) (v0 := none) ⟨hx, hb, hml, hown, hts⟩ hK hA hZ hP hD hS hl.1 [0, 1, 2, 3, 4] 5 rfl ⟨rfl, rfl, rfl⟩ (c_M_laysEdges l D ci A sa N (Rw) a_m a_m_cutRows a_m_cutColumns a_m_deep a_m_wide a_m_zonesAhead a_m_nameOne a_m_nameOther a_m_tape a_m_edges a_m_dist a_m_queue a_m_pieceLevel a_m_pieceKey a_m_pieceYear a_m_drawnKeys a_m_kept a_m_noNumbers m_taped m_place m_fault m_number m_levelRead m_keyRead m_reads m_faults m_cutShort m_noNumber m_bottomLat m_bottomLon m_firstBeside m_manyBeside m_queued m_boxLevel m_boxTop m_boxBottom m_boxWest m_boxEast m_isEarly m_pieces m_states m_drawnNow m_keptAt m_deep m_wide m_zonesAhead m_edges p1 p2 v3 v4 f5 hm28) 0 rfl rfl (cwV 2 hts gX11_edge_X11_laysEdges rfl rfl rfl (by decide +kernel) ⟨Nat.le_of_ble_eq_true rfl, Nat.le_of_ble_eq_true rfl⟩) rfl rfl (Nat.le_of_ble_eq_true rfl) dX11_edge_28 ⟨Nat.zero_le _, Nat.zero_le _⟩ [0, 1, 2, 3, 4] 5 rfl ⟨rfl, rfl, rfl⟩ (fun H locs hP hD hS => ?_)
        obtain ⟨hP, hD⟩ : va_PD D A ((a_m, .inr (11, (.ref a_m_cutRows :: .ref a_m_cutColumns :: .ref a_m_deep :: .ref a_m_wide :: .ref a_m_zonesAhead :: .ref a_m_nameOne :: .ref a_m_nameOther :: .ref a_m_tape :: .int m_taped :: .int m_place :: .int m_fault :: .int m_number :: .int m_levelRead :: .int m_keyRead :: .int m_reads :: .int m_faults :: .int m_cutShort :: .int m_noNumber :: .long v3 :: .long v4 :: .ref a_m_edges :: .int m_firstBeside :: .int m_manyBeside :: .ref a_m_dist :: .ref a_m_queue :: .int m_queued :: .int m_boxLevel :: .int m_boxTop :: .int m_boxBottom :: .int m_boxWest :: .int m_boxEast :: .int m_isEarly :: .int m_pieces :: .int m_states :: .ref a_m_pieceLevel :: .ref a_m_pieceKey :: .ref a_m_pieceYear :: .int m_drawnNow :: .ref a_m_drawnKeys :: .ref a_m_kept :: .int m_keptAt :: .ref a_m_noNumbers :: []))) :: (a_m_deep, .inl (ci 0, 5, .inl m_deep)) :: (a_m_wide, .inl (ci 0, 5, .inl m_wide)) :: (a_m_zonesAhead, .inl (ci 0, 45, .inl m_zonesAhead)) :: (a_m_edges, .inl (ci 1, 4, .inr (.inl f5))) :: Rw) H := ⟨hP, hD⟩
        refine lv_aload_n (pc := 31) hx hb dX11_edge_31 rfl (lv_at hl 0 rfl) ?_
        refine va_get (pc := 32) (D := D) (ci := 11) (v := .ref a_m_edges) (C := RX11) (T := TX11) (N := 42) hx hb hts hinX11 hown hK hP 0 rfl rfl 20 (by decide) w_3 (fun _ h9 => h9) rfl dX11_edge_32 ?_
        refine lv_iload_n (pc := 35) hx hb dX11_edge_35 rfl (lv_at hl 3 rfl) ?_
        refine lv_iconst (pc := 36) (v := 2) hx hb dX11_edge_36 (by decide) ?_
        refine q_idiv (pc := 37) hx hb dX11_edge_37 hf (fun v6 hf => ?_)
        refine q_lald (pc := 38) hx hb hK hP 4 1 hf rfl rfl dX11_edge_38 (fun v7 hf => ?_)
        refine lv_lstore (pc := 39) (lv' := [(4, .long v7), (0, .ref a_m), (1, .int p1), (2, .int p2), (3, .int p3)]) hx hb dX11_edge_39 hl (by decide) rfl (fun ls hl => ?_)
        refine lv_iload_n (pc := 41) hx hb dX11_edge_41 rfl (lv_at hl 4 rfl) ?_
        refine lv_iconst (pc := 42) (v := 4) hx hb dX11_edge_42 (by decide) ?_
        obtain ⟨k57, ek57, hf⟩ := q_j1_e hf
        have J57 : ∀ (v8 : Int64) (H : Heap) (locs : List Loc) (ls : Array Slot), k57 v8 = some (r, o1, o2, o3) → va_P D vwCl ((a_m, .inr (11, (.ref a_m_cutRows :: .ref a_m_cutColumns :: .ref a_m_deep :: .ref a_m_wide :: .ref a_m_zonesAhead :: .ref a_m_nameOne :: .ref a_m_nameOther :: .ref a_m_tape :: .int m_taped :: .int m_place :: .int m_fault :: .int m_number :: .int m_levelRead :: .int m_keyRead :: .int m_reads :: .int m_faults :: .int m_cutShort :: .int m_noNumber :: .long v3 :: .long v4 :: .ref a_m_edges :: .int m_firstBeside :: .int m_manyBeside :: .ref a_m_dist :: .ref a_m_queue :: .int m_queued :: .int m_boxLevel :: .int m_boxTop :: .int m_boxBottom :: .int m_boxWest :: .int m_boxEast :: .int m_isEarly :: .int m_pieces :: .int m_states :: .ref a_m_pieceLevel :: .ref a_m_pieceKey :: .ref a_m_pieceYear :: .int m_drawnNow :: .ref a_m_drawnKeys :: .ref a_m_kept :: .int m_keptAt :: .ref a_m_noNumbers :: []))) :: (a_m_deep, .inl (ci 0, 5, .inl m_deep)) :: (a_m_wide, .inl (ci 0, 5, .inl m_wide)) :: (a_m_zonesAhead, .inl (ci 0, 45, .inl m_zonesAhead)) :: (a_m_edges, .inl (ci 1, 4, .inr (.inl f5))) :: Rw) H → va_D A ((a_m, .inr (11, (.ref a_m_cutRows :: .ref a_m_cutColumns :: .ref a_m_deep :: .ref a_m_wide :: .ref a_m_zonesAhead :: .ref a_m_nameOne :: .ref a_m_nameOther :: .ref a_m_tape :: .int m_taped :: .int m_place :: .int m_fault :: .int m_number :: .int m_levelRead :: .int m_keyRead :: .int m_reads :: .int m_faults :: .int m_cutShort :: .int m_noNumber :: .long v3 :: .long v4 :: .ref a_m_edges :: .int m_firstBeside :: .int m_manyBeside :: .ref a_m_dist :: .ref a_m_queue :: .int m_queued :: .int m_boxLevel :: .int m_boxTop :: .int m_boxBottom :: .int m_boxWest :: .int m_boxEast :: .int m_isEarly :: .int m_pieces :: .int m_states :: .ref a_m_pieceLevel :: .ref a_m_pieceKey :: .ref a_m_pieceYear :: .int m_drawnNow :: .ref a_m_drawnKeys :: .ref a_m_kept :: .int m_keptAt :: .ref a_m_noNumbers :: []))) :: (a_m_deep, .inl (ci 0, 5, .inl m_deep)) :: (a_m_wide, .inl (ci 0, 5, .inl m_wide)) :: (a_m_zonesAhead, .inl (ci 0, 45, .inl m_zonesAhead)) :: (a_m_edges, .inl (ci 1, 4, .inr (.inl f5))) :: Rw) → va_S A s.heap H locs → lv_has ls 10 [(3, .int p3), (4, .long v7)] → W p l e ({ frames := 5, cells := 0, slots := 0, locals := 111 } : Room) s m ([.ref a_m, .int p1, .int p2, .int p3] : List Value).toArray below meth c H locs 0 0 Q (F0 m 57 ls [.long v8]) := by
          intro v8 H locs ls hf hP hD hS hl
          have hf := (ek57 v8).symm.trans hf
          refine lv_lstore (pc := 57) (lv' := [(6, .long v8), (3, .int p3), (4, .long v7)]) hx hb dX11_edge_57 hl (by decide) rfl (fun ls hl => ?_)
          refine lv_lload (pc := 59) hx hb dX11_edge_59 (lv_at hl 2 rfl) ?_
          refine lv_lload (pc := 61) hx hb dX11_edge_61 (lv_at hl 0 rfl) ?_
          obtain ⟨v9, hm63, hf⟩ := q_b1_e hf
          refine q_cSr (pc := 63) (As := [.long v7, .long v8]) (rest := []) (v0 := (some (.long v9))) ⟨hx, hb, hml, hown, hts⟩ hK hA hZ hP hD hS hl.1 [] 5 rfl ⟨rfl, rfl, rfl⟩ (c_M_common l D ci A sa N (Rw) v7 v8 v9 hm63) (va_cwS 2 hts gX11_edge_X11_common rfl rfl rfl (by decide +kernel) ⟨Nat.le_of_ble_eq_true rfl, Nat.le_of_ble_eq_true rfl⟩) rfl rfl (Nat.le_of_ble_eq_true rfl) dX11_edge_63 ⟨Nat.zero_le _, Nat.zero_le _⟩ (fun locs hS => ?_)
          refine lv_lstore (pc := 66) (lv' := [(8, .long v9), (6, .long v8), (3, .int p3), (4, .long v7)]) hx hb dX11_edge_66 hl (by decide) rfl (fun ls hl => ?_)
          refine lv_iload_n (pc := 68) hx hb dX11_edge_68 rfl (lv_at hl 2 rfl) ?_
          refine lv_iconst (pc := 69) (v := 2) hx hb dX11_edge_69 (by decide) ?_
          refine q_irem (pc := 70) hx hb dX11_edge_70 hf (fun v10 hf => ?_)
          refine q_if_ne (pc := 71) (tgt := 82) hx hb dX11_edge_71 (by decide) rfl hf (fun hf => ?_) (fun hf => ?_)
          · refine lv_lload (pc := 82) hx hb dX11_edge_82 (lv_at hl 1 rfl) ?_
            refine lv_lload (pc := 84) hx hb dX11_edge_84 (lv_at hl 0 rfl) ?_
            refine q_ldiv (pc := 86) hx hb dX11_edge_86 hf (fun v11 hf => ?_)
            obtain ⟨e90, e91, e92, e93⟩ := q_inj4 (Option.some.inj hf)
            rw [hQ, ← e90, ← e91, ← e92, ← e93]
            exact q_lret (pc := 87) hx hb hr hlocks hP hD hS dX11_edge_87
          · refine lv_lload (pc := 74) hx hb dX11_edge_74 (lv_at hl 3 rfl) ?_
            refine lv_lload (pc := 76) hx hb dX11_edge_76 (lv_at hl 0 rfl) ?_
            refine q_ldiv (pc := 78) hx hb dX11_edge_78 hf (fun v12 hf => ?_)
            refine lv_goto (pc := 79) (tgt := 87) hx hb dX11_edge_79 (by decide) ?_
            obtain ⟨e90, e91, e92, e93⟩ := q_inj4 (Option.some.inj hf)
            rw [hQ, ← e90, ← e91, ← e92, ← e93]
            exact q_lret (pc := 87) hx hb hr hlocks hP hD hS dX11_edge_87
        refine q_icmp_ge (pc := 43) (tgt := 53) hx hb dX11_edge_43 (by decide) rfl hf (fun hf => ?_) (fun hf => ?_)
        · refine lv_aload_n (pc := 53) hx hb dX11_edge_53 rfl (lv_at hl 1 rfl) ?_
          refine va_get (pc := 54) (D := D) (ci := 11) (v := .long v4) (C := RX11) (T := TX11) (N := 42) hx hb hts hinX11 hown hK hP 0 rfl rfl 19 (by decide) w_5 (fun _ h9 => h9) rfl dX11_edge_54 ?_
          exact J57 v4 _ _ _ hf hP hD hS (lv_sub hl [4, 0] rfl)
        · refine lv_aload_n (pc := 46) hx hb dX11_edge_46 rfl (lv_at hl 1 rfl) ?_
          refine va_get (pc := 47) (D := D) (ci := 11) (v := .long v3) (C := RX11) (T := TX11) (N := 42) hx hb hts hinX11 hown hK hP 0 rfl rfl 18 (by decide) w_4 (fun _ h9 => h9) rfl dX11_edge_47 ?_
          refine lv_goto (pc := 50) (tgt := 57) hx hb dX11_edge_50 (by decide) ?_
          exact J57 v3 _ _ _ hf hP hD hS (lv_sub hl [4, 0] rfl)
      · refine lv_ldc2 (pc := 21) (v := (-9223372036854775808)) hx hb hown w_2 dX11_edge_21 ?_
        obtain ⟨e90, e91, e92, e93⟩ := q_inj4 (Option.some.inj hf)
        rw [hQ, ← e90, ← e91, ← e92, ← e93]
        exact q_lret (pc := 24) hx hb hr hlocks hP hD hS dX11_edge_24
  exact hgo _ _ rfl hP hS
/-! X11_farthest -/
set_option maxRecDepth 100000 in
set_option maxHeartbeats 4000000 in
theorem c_M_farthest (l : Launch) (D : va_G) (ci : Nat → ClassId) (A : Nat → Prop) (sa : Nat → Nat) (N : Nat) (Rw : va_W) (a_m : Nat) (a_m_cutRows : Nat) (a_m_cutColumns : Nat) (a_m_deep : Nat) (a_m_wide : Nat) (a_m_zonesAhead : Nat) (a_m_nameOne : Nat) (a_m_nameOther : Nat) (a_m_tape : Nat) (a_m_edges : Nat) (a_m_dist : Nat) (a_m_queue : Nat) (a_m_pieceLevel : Nat) (a_m_pieceKey : Nat) (a_m_pieceYear : Nat) (a_m_drawnKeys : Nat) (a_m_kept : Nat) (a_m_noNumbers : Nat) (m_taped : Int32) (m_place : Int32) (m_fault : Int32) (m_number : Int32) (m_levelRead : Int32) (m_keyRead : Int32) (m_reads : Int32) (m_faults : Int32) (m_cutShort : Int32) (m_noNumber : Int32) (m_bottomLat : Int64) (m_bottomLon : Int64) (m_firstBeside : Int32) (m_manyBeside : Int32) (m_queued : Int32) (m_boxLevel : Int32) (m_boxTop : Int32) (m_boxBottom : Int32) (m_boxWest : Int32) (m_boxEast : Int32) (m_isEarly : Int32) (m_pieces : Int32) (m_states : Int32) (m_drawnNow : Int32) (m_keptAt : Int32) (m_deep : Nat → Int32) (m_wide : Nat → Int32) (m_zonesAhead : Nat → Int32) (m_dist : Nat → Int32) (m_queue : Nat → Int32) (p1 : Int32) (p2 : Int32) (p3 : Int32) (r : Int32) (o1 : Int32) (o2 : Int32) (o3 : Nat → Int32) (o4 : Nat → Int32) (o5 : Int32) (hf : f_M_farthest N m_deep m_wide m_zonesAhead m_firstBeside m_manyBeside m_dist m_queue m_queued p1 p2 p3 = some (r, o1, o2, o3, o4, o5)) : Met l yX11_farthest wsX11_farthest ({ frames := 6, cells := 0, slots := 0, locals := 147 }) (va_Pc [.ref a_m, .int p1, .int p2, .int p3] (q_N D ci A sa ((a_m, .inr (11, (.ref a_m_cutRows :: .ref a_m_cutColumns :: .ref a_m_deep :: .ref a_m_wide :: .ref a_m_zonesAhead :: .ref a_m_nameOne :: .ref a_m_nameOther :: .ref a_m_tape :: .int m_taped :: .int m_place :: .int m_fault :: .int m_number :: .int m_levelRead :: .int m_keyRead :: .int m_reads :: .int m_faults :: .int m_cutShort :: .int m_noNumber :: .long m_bottomLat :: .long m_bottomLon :: .ref a_m_edges :: .int m_firstBeside :: .int m_manyBeside :: .ref a_m_dist :: .ref a_m_queue :: .int m_queued :: .int m_boxLevel :: .int m_boxTop :: .int m_boxBottom :: .int m_boxWest :: .int m_boxEast :: .int m_isEarly :: .int m_pieces :: .int m_states :: .ref a_m_pieceLevel :: .ref a_m_pieceKey :: .ref a_m_pieceYear :: .int m_drawnNow :: .ref a_m_drawnKeys :: .ref a_m_kept :: .int m_keptAt :: .ref a_m_noNumbers :: []))) :: (a_m_deep, .inl (ci 0, 5, .inl m_deep)) :: (a_m_wide, .inl (ci 0, 5, .inl m_wide)) :: (a_m_zonesAhead, .inl (ci 0, 45, .inl m_zonesAhead)) :: (a_m_dist, .inl (ci 0, 20000, .inl m_dist)) :: (a_m_queue, .inl (ci 0, 20000, .inl m_queue)) :: Rw))) (q_Q (some (.int r)) (q_O D A ((a_m, .inr (11, (.ref a_m_cutRows :: .ref a_m_cutColumns :: .ref a_m_deep :: .ref a_m_wide :: .ref a_m_zonesAhead :: .ref a_m_nameOne :: .ref a_m_nameOther :: .ref a_m_tape :: .int m_taped :: .int m_place :: .int m_fault :: .int m_number :: .int m_levelRead :: .int m_keyRead :: .int m_reads :: .int m_faults :: .int m_cutShort :: .int m_noNumber :: .long m_bottomLat :: .long m_bottomLon :: .ref a_m_edges :: .int o1 :: .int o2 :: .ref a_m_dist :: .ref a_m_queue :: .int o5 :: .int m_boxLevel :: .int m_boxTop :: .int m_boxBottom :: .int m_boxWest :: .int m_boxEast :: .int m_isEarly :: .int m_pieces :: .int m_states :: .ref a_m_pieceLevel :: .ref a_m_pieceKey :: .ref a_m_pieceYear :: .int m_drawnNow :: .ref a_m_drawnKeys :: .ref a_m_kept :: .int m_keptAt :: .ref a_m_noNumbers :: []))) :: (a_m_deep, .inl (ci 0, 5, .inl m_deep)) :: (a_m_wide, .inl (ci 0, 5, .inl m_wide)) :: (a_m_zonesAhead, .inl (ci 0, 45, .inl m_zonesAhead)) :: (a_m_dist, .inl (ci 0, 20000, .inl o3)) :: (a_m_queue, .inl (ci 0, 20000, .inl o4)) :: Rw)) A) 0 0 A := by
  refine q_ofW (cc := cX11_farthest) (maxL := 6) (ret := (some .int)) [.ref a_m, .int p1, .int p2, .int p3] (plainFor_of_name (by decide)) rfl (Nat.le_of_ble_eq_true rfl) ?_
  intro p e s m below meth c ls Q hQ hx hb hml hr hts hown hlocks hK hA hZ hP hD hS hl
  have hl : lv_has ls 6 [(0, .ref a_m), (1, .int p1), (2, .int p2), (3, .int p3)] := hl
  have hown : s.vm.findClass RX11 = some m.cls := hown
  have hinX11 : ∀ w ∈ wsX110, w ∈ wsX11_farthest := fun _ h => List.mem_cons_of_mem _ (inWX110 _ h)
  have w_1 := hts (Cond.fieldLink RX11 39 "SheetNamesModel" "dist" "[I") (List.mem_cons_of_mem _ t_w953)
  unfold f_M_farthest at hf
  have hgo : ∀ (H : Heap) (locs : List Loc), H = s.heap → va_P D vwCl ((a_m, .inr (11, (.ref a_m_cutRows :: .ref a_m_cutColumns :: .ref a_m_deep :: .ref a_m_wide :: .ref a_m_zonesAhead :: .ref a_m_nameOne :: .ref a_m_nameOther :: .ref a_m_tape :: .int m_taped :: .int m_place :: .int m_fault :: .int m_number :: .int m_levelRead :: .int m_keyRead :: .int m_reads :: .int m_faults :: .int m_cutShort :: .int m_noNumber :: .long m_bottomLat :: .long m_bottomLon :: .ref a_m_edges :: .int m_firstBeside :: .int m_manyBeside :: .ref a_m_dist :: .ref a_m_queue :: .int m_queued :: .int m_boxLevel :: .int m_boxTop :: .int m_boxBottom :: .int m_boxWest :: .int m_boxEast :: .int m_isEarly :: .int m_pieces :: .int m_states :: .ref a_m_pieceLevel :: .ref a_m_pieceKey :: .ref a_m_pieceYear :: .int m_drawnNow :: .ref a_m_drawnKeys :: .ref a_m_kept :: .int m_keptAt :: .ref a_m_noNumbers :: []))) :: (a_m_deep, .inl (ci 0, 5, .inl m_deep)) :: (a_m_wide, .inl (ci 0, 5, .inl m_wide)) :: (a_m_zonesAhead, .inl (ci 0, 45, .inl m_zonesAhead)) :: (a_m_dist, .inl (ci 0, 20000, .inl m_dist)) :: (a_m_queue, .inl (ci 0, 20000, .inl m_queue)) :: Rw) H → va_S A s.heap H locs → W p l e ({ frames := 6, cells := 0, slots := 0, locals := 147 } : Room) s m ([.ref a_m, .int p1, .int p2, .int p3] : List Value).toArray below meth c H locs 0 0 Q (F0 m 0 ls []) := by
    intro H locs hH hP hS
    refine lv_aload_n (pc := 0) hx hb dX11_farthest_0 rfl (lv_at hl 0 rfl) ?_
    refine lv_iload_n (pc := 1) hx hb dX11_farthest_1 rfl (lv_at hl 1 rfl) ?_
    refine lv_iload_n (pc := 2) hx hb dX11_farthest_2 rfl (lv_at hl 2 rfl) ?_
    obtain ⟨v1, hm3, hf⟩ := q_b1_e hf
    refine q_cVr (pc := 3) (As := [.int p1, .int p2]) (rest := []) (v0 := (some (.int v1))) ⟨hx, hb, hml, hown, hts⟩ hK hA hZ hP hD hS hl.1 [0, 1, 2, 3] 6 rfl ⟨rfl, rfl, rfl⟩ (c_M_isKey l D ci A sa N (Rw) a_m a_m_cutRows a_m_cutColumns a_m_deep a_m_wide a_m_zonesAhead a_m_nameOne a_m_nameOther a_m_tape a_m_edges a_m_dist a_m_queue a_m_pieceLevel a_m_pieceKey a_m_pieceYear a_m_drawnKeys a_m_kept a_m_noNumbers m_taped m_place m_fault m_number m_levelRead m_keyRead m_reads m_faults m_cutShort m_noNumber m_bottomLat m_bottomLon m_firstBeside m_manyBeside m_queued m_boxLevel m_boxTop m_boxBottom m_boxWest m_boxEast m_isEarly m_pieces m_states m_drawnNow m_keptAt m_deep m_wide m_zonesAhead p1 p2 v1 hm3) 0 rfl rfl (cwV 2 hts gX11_farthest_X11_isKey rfl rfl rfl (by decide +kernel) ⟨Nat.le_of_ble_eq_true rfl, Nat.le_of_ble_eq_true rfl⟩) rfl rfl (Nat.le_of_ble_eq_true rfl) dX11_farthest_3 ⟨Nat.zero_le _, Nat.zero_le _⟩ (fun locs hS => ?_)
    refine q_if_eq (pc := 6) (tgt := 19) hx hb dX11_farthest_6 (by decide) rfl hf (fun hf => ?_) (fun hf => ?_)
    · refine lv_iconst (pc := 19) (v := (-1)) hx hb dX11_farthest_19 (by decide) ?_
      obtain ⟨e90, e91, e92, e93, e94, e95⟩ := q_inj6 (Option.some.inj hf)
      rw [hQ, ← e90, ← e91, ← e92, ← e93, ← e94, ← e95]
      exact q_iret (pc := 20) hx hb hr hlocks hP hD hS dX11_farthest_20
    · refine lv_iload_n (pc := 9) hx hb dX11_farthest_9 rfl (lv_at hl 3 rfl) ?_
      refine lv_i2l (pc := 10) hx hb dX11_farthest_10 rfl ?_
      refine lv_lconst (pc := 11) (v := 0) hx hb dX11_farthest_11 (by decide) ?_
      refine lv_lconst (pc := 12) (v := 1) hx hb dX11_farthest_12 (by decide) ?_
      obtain ⟨v2, hm13, hf⟩ := q_b1_e hf
      refine q_cSr (pc := 13) (As := [.long p3.toInt64, .long 0, .long 1]) (rest := []) (v0 := (some (.int v2))) ⟨hx, hb, hml, hown, hts⟩ hK hA hZ hP hD hS hl.1 [] 6 rfl ⟨rfl, rfl, rfl⟩ (c_M_in l D ci A sa N (Rw) p3.toInt64 0 1 v2 hm13) (va_cwS 3 hts gX11_farthest_X11_in rfl rfl rfl (by decide +kernel) ⟨Nat.le_of_ble_eq_true rfl, Nat.le_of_ble_eq_true rfl⟩) rfl rfl (Nat.le_of_ble_eq_true rfl) dX11_farthest_13 ⟨Nat.zero_le _, Nat.zero_le _⟩ (fun locs hS => ?_)
      refine q_if_ne (pc := 16) (tgt := 21) hx hb dX11_farthest_16 (by decide) rfl hf (fun hf => ?_) (fun hf => ?_)
      · refine lv_aload_n (pc := 21) hx hb dX11_farthest_21 rfl (lv_at hl 0 rfl) ?_
        refine lv_iload_n (pc := 22) hx hb dX11_farthest_22 rfl (lv_at hl 1 rfl) ?_
        obtain ⟨v3, hm23, hf⟩ := q_b1_e hf
        refine q_cVr (pc := 23) (As := [.int p1]) (rest := []) (v0 := (some (.int v3))) ⟨hx, hb, hml, hown, hts⟩ hK hA hZ hP hD hS hl.1 [0, 1, 2, 3] 6 rfl ⟨rfl, rfl, rfl⟩ (c_M_isGreat l D ci A sa N (Rw) a_m a_m_cutRows a_m_cutColumns a_m_deep a_m_wide a_m_zonesAhead a_m_nameOne a_m_nameOther a_m_tape a_m_edges a_m_dist a_m_queue a_m_pieceLevel a_m_pieceKey a_m_pieceYear a_m_drawnKeys a_m_kept a_m_noNumbers m_taped m_place m_fault m_number m_levelRead m_keyRead m_reads m_faults m_cutShort m_noNumber m_bottomLat m_bottomLon m_firstBeside m_manyBeside m_queued m_boxLevel m_boxTop m_boxBottom m_boxWest m_boxEast m_isEarly m_pieces m_states m_drawnNow m_keptAt m_deep m_wide m_zonesAhead p1 v3 hm23) 0 rfl rfl (cwV 1 hts gX11_farthest_X11_isGreat rfl rfl rfl (by decide +kernel) ⟨Nat.le_of_ble_eq_true rfl, Nat.le_of_ble_eq_true rfl⟩) rfl rfl (Nat.le_of_ble_eq_true rfl) dX11_farthest_23 ⟨Nat.zero_le _, Nat.zero_le _⟩ (fun locs hS => ?_)
        refine q_if_eq (pc := 26) (tgt := 32) hx hb dX11_farthest_26 (by decide) rfl hf (fun hf => ?_) (fun hf => ?_)
        · refine lv_aload_n (pc := 32) hx hb dX11_farthest_32 rfl (lv_at hl 0 rfl) ?_
          refine lv_iload_n (pc := 33) hx hb dX11_farthest_33 rfl (lv_at hl 1 rfl) ?_
          refine lv_iload_n (pc := 34) hx hb dX11_farthest_34 rfl (lv_at hl 2 rfl) ?_
          obtain ⟨v4, v5, f6, f7, v8, hm35, hf⟩ := q_b5_e hf
          refine q_cV (pc := 35) (As := [.int p1, .int p2]) (rest := []) (v0 := none) ⟨hx, hb, hml, hown, hts⟩ hK hA hZ hP hD hS hl.1 [0, 1, 2, 3, 4, 5] 6 rfl ⟨rfl, rfl, rfl⟩ (c_M_laysSteps l D ci A sa N (Rw) a_m a_m_cutRows a_m_cutColumns a_m_deep a_m_wide a_m_zonesAhead a_m_nameOne a_m_nameOther a_m_tape a_m_edges a_m_dist a_m_queue a_m_pieceLevel a_m_pieceKey a_m_pieceYear a_m_drawnKeys a_m_kept a_m_noNumbers m_taped m_place m_fault m_number m_levelRead m_keyRead m_reads m_faults m_cutShort m_noNumber m_bottomLat m_bottomLon m_firstBeside m_manyBeside m_queued m_boxLevel m_boxTop m_boxBottom m_boxWest m_boxEast m_isEarly m_pieces m_states m_drawnNow m_keptAt m_deep m_wide m_zonesAhead m_dist m_queue p1 p2 v4 v5 f6 f7 v8 hm35) 0 rfl rfl (cwV 2 hts gX11_farthest_X11_laysSteps rfl rfl rfl (by decide +kernel) ⟨Nat.le_of_ble_eq_true rfl, Nat.le_of_ble_eq_true rfl⟩) rfl rfl (Nat.le_of_ble_eq_true rfl) dX11_farthest_35 ⟨Nat.zero_le _, Nat.zero_le _⟩ [0, 1, 2, 3, 4, 5] 6 rfl ⟨rfl, rfl, rfl⟩ (fun H locs hP hD hS => ?_)
          obtain ⟨hP, hD⟩ : va_PD D A ((a_m, .inr (11, (.ref a_m_cutRows :: .ref a_m_cutColumns :: .ref a_m_deep :: .ref a_m_wide :: .ref a_m_zonesAhead :: .ref a_m_nameOne :: .ref a_m_nameOther :: .ref a_m_tape :: .int m_taped :: .int m_place :: .int m_fault :: .int m_number :: .int m_levelRead :: .int m_keyRead :: .int m_reads :: .int m_faults :: .int m_cutShort :: .int m_noNumber :: .long m_bottomLat :: .long m_bottomLon :: .ref a_m_edges :: .int v4 :: .int v5 :: .ref a_m_dist :: .ref a_m_queue :: .int v8 :: .int m_boxLevel :: .int m_boxTop :: .int m_boxBottom :: .int m_boxWest :: .int m_boxEast :: .int m_isEarly :: .int m_pieces :: .int m_states :: .ref a_m_pieceLevel :: .ref a_m_pieceKey :: .ref a_m_pieceYear :: .int m_drawnNow :: .ref a_m_drawnKeys :: .ref a_m_kept :: .int m_keptAt :: .ref a_m_noNumbers :: []))) :: (a_m_deep, .inl (ci 0, 5, .inl m_deep)) :: (a_m_wide, .inl (ci 0, 5, .inl m_wide)) :: (a_m_zonesAhead, .inl (ci 0, 45, .inl m_zonesAhead)) :: (a_m_dist, .inl (ci 0, 20000, .inl f6)) :: (a_m_queue, .inl (ci 0, 20000, .inl f7)) :: Rw) H := ⟨hP, hD⟩
          refine lv_iconst (pc := 38) (v := 0) hx hb dX11_farthest_38 (by decide) ?_
          obtain ⟨v9, ev9, hf⟩ := q_nm_e hf
          refine q_topi ev9 ?_
          refine lv_istore (pc := 39) (lv' := [(4, .int v9), (0, .ref a_m), (1, .int p1), (2, .int p2), (3, .int p3)]) hx hb dX11_farthest_39 hl (by decide) rfl (fun ls hl => ?_)
          refine lv_iconst (pc := 41) (v := 1) hx hb dX11_farthest_41 (by decide) ?_
          obtain ⟨v10, ev10, hf⟩ := q_nm_e hf
          refine q_topi ev10 ?_
          refine lv_istore (pc := 42) (lv' := [(5, .int v10), (4, .int v9), (0, .ref a_m), (1, .int p1), (2, .int p2), (3, .int p3)]) hx hb dX11_farthest_42 hl (by decide) rfl (fun ls hl => ?_)
          obtain ⟨v13, hm44, hf⟩ := q_b1_e hf
          have JE44 : ∀ (H : Heap) (locs : List Loc) (ls : Array Slot), va_P D vwCl ((a_m, .inr (11, (.ref a_m_cutRows :: .ref a_m_cutColumns :: .ref a_m_deep :: .ref a_m_wide :: .ref a_m_zonesAhead :: .ref a_m_nameOne :: .ref a_m_nameOther :: .ref a_m_tape :: .int m_taped :: .int m_place :: .int m_fault :: .int m_number :: .int m_levelRead :: .int m_keyRead :: .int m_reads :: .int m_faults :: .int m_cutShort :: .int m_noNumber :: .long m_bottomLat :: .long m_bottomLon :: .ref a_m_edges :: .int v4 :: .int v5 :: .ref a_m_dist :: .ref a_m_queue :: .int v8 :: .int m_boxLevel :: .int m_boxTop :: .int m_boxBottom :: .int m_boxWest :: .int m_boxEast :: .int m_isEarly :: .int m_pieces :: .int m_states :: .ref a_m_pieceLevel :: .ref a_m_pieceKey :: .ref a_m_pieceYear :: .int m_drawnNow :: .ref a_m_drawnKeys :: .ref a_m_kept :: .int m_keptAt :: .ref a_m_noNumbers :: []))) :: (a_m_deep, .inl (ci 0, 5, .inl m_deep)) :: (a_m_wide, .inl (ci 0, 5, .inl m_wide)) :: (a_m_zonesAhead, .inl (ci 0, 45, .inl m_zonesAhead)) :: (a_m_dist, .inl (ci 0, 20000, .inl f6)) :: (a_m_queue, .inl (ci 0, 20000, .inl f7)) :: Rw) H → va_D A ((a_m, .inr (11, (.ref a_m_cutRows :: .ref a_m_cutColumns :: .ref a_m_deep :: .ref a_m_wide :: .ref a_m_zonesAhead :: .ref a_m_nameOne :: .ref a_m_nameOther :: .ref a_m_tape :: .int m_taped :: .int m_place :: .int m_fault :: .int m_number :: .int m_levelRead :: .int m_keyRead :: .int m_reads :: .int m_faults :: .int m_cutShort :: .int m_noNumber :: .long m_bottomLat :: .long m_bottomLon :: .ref a_m_edges :: .int v4 :: .int v5 :: .ref a_m_dist :: .ref a_m_queue :: .int v8 :: .int m_boxLevel :: .int m_boxTop :: .int m_boxBottom :: .int m_boxWest :: .int m_boxEast :: .int m_isEarly :: .int m_pieces :: .int m_states :: .ref a_m_pieceLevel :: .ref a_m_pieceKey :: .ref a_m_pieceYear :: .int m_drawnNow :: .ref a_m_drawnKeys :: .ref a_m_kept :: .int m_keptAt :: .ref a_m_noNumbers :: []))) :: (a_m_deep, .inl (ci 0, 5, .inl m_deep)) :: (a_m_wide, .inl (ci 0, 5, .inl m_wide)) :: (a_m_zonesAhead, .inl (ci 0, 45, .inl m_zonesAhead)) :: (a_m_dist, .inl (ci 0, 20000, .inl f6)) :: (a_m_queue, .inl (ci 0, 20000, .inl f7)) :: Rw) → va_S A s.heap H locs → lv_has ls 6 [(0, .ref a_m), (3, .int p3), (4, .int v13)] → W p l e ({ frames := 6, cells := 0, slots := 0, locals := 147 } : Room) s m ([.ref a_m, .int p1, .int p2, .int p3] : List Value).toArray below meth c H locs 0 0 Q (F0 m 86 ls []) := by
            intro H locs ls hP hD hS hl
            refine lv_iload_n (pc := 86) hx hb dX11_farthest_86 rfl (lv_at hl 1 rfl) ?_
            refine q_if_ne (pc := 87) (tgt := 100) hx hb dX11_farthest_87 (by decide) rfl hf (fun hf => ?_) (fun hf => ?_)
            · refine lv_iload (pc := 100) hx hb dX11_farthest_100 (lv_at hl 2 rfl) ?_
              obtain ⟨e90, e91, e92, e93, e94, e95⟩ := q_inj6 (Option.some.inj hf)
              rw [hQ, ← e90, ← e91, ← e92, ← e93, ← e94, ← e95]
              exact q_iret (pc := 102) hx hb hr hlocks hP hD hS dX11_farthest_102
            · refine lv_aload_n (pc := 90) hx hb dX11_farthest_90 rfl (lv_at hl 0 rfl) ?_
              refine va_get (pc := 91) (D := D) (ci := 11) (v := .ref a_m_dist) (C := RX11) (T := TX11) (N := 42) hx hb hts hinX11 hown hK hP 0 rfl rfl 23 (by decide) w_1 (fun _ h9 => h9) rfl dX11_farthest_91 ?_
              refine lv_iload (pc := 94) hx hb dX11_farthest_94 (lv_at hl 2 rfl) ?_
              refine q_iald (pc := 96) hx hb hK hP 4 0 hf rfl rfl dX11_farthest_96 (fun v14 hf => ?_)
              refine lv_goto (pc := 97) (tgt := 102) hx hb dX11_farthest_97 (by decide) ?_
              obtain ⟨e90, e91, e92, e93, e94, e95⟩ := q_inj6 (Option.some.inj hf)
              rw [hQ, ← e90, ← e91, ← e92, ← e93, ← e94, ← e95]
              exact q_iret (pc := 102) hx hb hr hlocks hP hD hS dX11_farthest_102
          have LP44 : ∀ (n44 : Nat) (v11 : Int32) (v12 : Int32) (H : Heap) (locs : List Loc) (ls : Array Slot), f_M_farthest_L44 f6 m_deep m_wide m_zonesAhead p1 n44 v11 v12 = some v13 → va_P D vwCl ((a_m, .inr (11, (.ref a_m_cutRows :: .ref a_m_cutColumns :: .ref a_m_deep :: .ref a_m_wide :: .ref a_m_zonesAhead :: .ref a_m_nameOne :: .ref a_m_nameOther :: .ref a_m_tape :: .int m_taped :: .int m_place :: .int m_fault :: .int m_number :: .int m_levelRead :: .int m_keyRead :: .int m_reads :: .int m_faults :: .int m_cutShort :: .int m_noNumber :: .long m_bottomLat :: .long m_bottomLon :: .ref a_m_edges :: .int v4 :: .int v5 :: .ref a_m_dist :: .ref a_m_queue :: .int v8 :: .int m_boxLevel :: .int m_boxTop :: .int m_boxBottom :: .int m_boxWest :: .int m_boxEast :: .int m_isEarly :: .int m_pieces :: .int m_states :: .ref a_m_pieceLevel :: .ref a_m_pieceKey :: .ref a_m_pieceYear :: .int m_drawnNow :: .ref a_m_drawnKeys :: .ref a_m_kept :: .int m_keptAt :: .ref a_m_noNumbers :: []))) :: (a_m_deep, .inl (ci 0, 5, .inl m_deep)) :: (a_m_wide, .inl (ci 0, 5, .inl m_wide)) :: (a_m_zonesAhead, .inl (ci 0, 45, .inl m_zonesAhead)) :: (a_m_dist, .inl (ci 0, 20000, .inl f6)) :: (a_m_queue, .inl (ci 0, 20000, .inl f7)) :: Rw) H → va_D A ((a_m, .inr (11, (.ref a_m_cutRows :: .ref a_m_cutColumns :: .ref a_m_deep :: .ref a_m_wide :: .ref a_m_zonesAhead :: .ref a_m_nameOne :: .ref a_m_nameOther :: .ref a_m_tape :: .int m_taped :: .int m_place :: .int m_fault :: .int m_number :: .int m_levelRead :: .int m_keyRead :: .int m_reads :: .int m_faults :: .int m_cutShort :: .int m_noNumber :: .long m_bottomLat :: .long m_bottomLon :: .ref a_m_edges :: .int v4 :: .int v5 :: .ref a_m_dist :: .ref a_m_queue :: .int v8 :: .int m_boxLevel :: .int m_boxTop :: .int m_boxBottom :: .int m_boxWest :: .int m_boxEast :: .int m_isEarly :: .int m_pieces :: .int m_states :: .ref a_m_pieceLevel :: .ref a_m_pieceKey :: .ref a_m_pieceYear :: .int m_drawnNow :: .ref a_m_drawnKeys :: .ref a_m_kept :: .int m_keptAt :: .ref a_m_noNumbers :: []))) :: (a_m_deep, .inl (ci 0, 5, .inl m_deep)) :: (a_m_wide, .inl (ci 0, 5, .inl m_wide)) :: (a_m_zonesAhead, .inl (ci 0, 45, .inl m_zonesAhead)) :: (a_m_dist, .inl (ci 0, 20000, .inl f6)) :: (a_m_queue, .inl (ci 0, 20000, .inl f7)) :: Rw) → va_S A s.heap H locs → lv_has ls 6 [(0, .ref a_m), (1, .int p1), (3, .int p3), (4, .int v11), (5, .int v12)] → W p l e ({ frames := 6, cells := 0, slots := 0, locals := 147 } : Room) s m ([.ref a_m, .int p1, .int p2, .int p3] : List Value).toArray below meth c H locs 0 0 Q (F0 m 44 ls []) := by
            intro n44
            induction n44 with
            | zero => intro v11 v12 H locs ls hf; rw [f_M_farthest_L44] at hf; cases hf
            | succ n44 ih44 =>
              intro v11 v12 H locs ls hf hP hD hS hl
              rw [f_M_farthest_L44] at hf
              refine lv_iload (pc := 44) hx hb dX11_farthest_44 (lv_at hl 4 rfl) ?_
              refine lv_aload_n (pc := 46) hx hb dX11_farthest_46 rfl (lv_at hl 0 rfl) ?_
              refine lv_iload_n (pc := 47) hx hb dX11_farthest_47 rfl (lv_at hl 1 rfl) ?_
              obtain ⟨v15, hm48, hf⟩ := q_b1_e hf
              refine q_cVr (pc := 48) (As := [.int p1]) (rest := [.int v12]) (v0 := (some (.int v15))) ⟨hx, hb, hml, hown, hts⟩ hK hA hZ hP hD hS hl.1 [0, 1, 2, 3] 6 rfl ⟨rfl, rfl, rfl⟩ (c_M_sheets l D ci A sa N (Rw) a_m a_m_cutRows a_m_cutColumns a_m_deep a_m_wide a_m_zonesAhead a_m_nameOne a_m_nameOther a_m_tape a_m_edges a_m_dist a_m_queue a_m_pieceLevel a_m_pieceKey a_m_pieceYear a_m_drawnKeys a_m_kept a_m_noNumbers m_taped m_place m_fault m_number m_levelRead m_keyRead m_reads m_faults m_cutShort m_noNumber m_bottomLat m_bottomLon v4 v5 v8 m_boxLevel m_boxTop m_boxBottom m_boxWest m_boxEast m_isEarly m_pieces m_states m_drawnNow m_keptAt m_deep m_wide m_zonesAhead p1 v15 hm48) 0 rfl rfl (cwV 1 hts gX11_farthest_X11_sheets rfl rfl rfl (by decide +kernel) ⟨Nat.le_of_ble_eq_true rfl, Nat.le_of_ble_eq_true rfl⟩) rfl rfl (Nat.le_of_ble_eq_true rfl) dX11_farthest_48 ⟨Nat.zero_le _, Nat.zero_le _⟩ (fun locs hS => ?_)
              refine q_icmp_ge (pc := 51) (tgt := 86) hx hb dX11_farthest_51 (by decide) rfl hf (fun hf => ?_) (fun hf => ?_)
              · obtain rfl := Option.some.inj hf
                exact JE44 _ _ _ hP hD hS (lv_sub hl [0, 2, 3] rfl)
              · refine lv_aload_n (pc := 54) hx hb dX11_farthest_54 rfl (lv_at hl 0 rfl) ?_
                refine va_get (pc := 55) (D := D) (ci := 11) (v := .ref a_m_dist) (C := RX11) (T := TX11) (N := 42) hx hb hts hinX11 hown hK hP 0 rfl rfl 23 (by decide) w_1 (fun _ h9 => h9) rfl dX11_farthest_55 ?_
                refine lv_iload (pc := 58) hx hb dX11_farthest_58 (lv_at hl 4 rfl) ?_
                refine q_iald (pc := 60) hx hb hK hP 4 0 hf rfl rfl dX11_farthest_60 (fun v16 hf => ?_)
                refine lv_aload_n (pc := 61) hx hb dX11_farthest_61 rfl (lv_at hl 0 rfl) ?_
                refine va_get (pc := 62) (D := D) (ci := 11) (v := .ref a_m_dist) (C := RX11) (T := TX11) (N := 42) hx hb hts hinX11 hown hK hP 0 rfl rfl 23 (by decide) w_1 (fun _ h9 => h9) rfl dX11_farthest_62 ?_
                refine lv_iload (pc := 65) hx hb dX11_farthest_65 (lv_at hl 3 rfl) ?_
                refine q_iald (pc := 67) hx hb hK hP 4 0 hf rfl rfl dX11_farthest_67 (fun v17 hf => ?_)
                obtain ⟨k78, ek78, hf⟩ := q_j1_e hf
                have J78 : ∀ (v18 : Int32) (H : Heap) (locs : List Loc) (ls : Array Slot), k78 v18 = some v13 → va_P D vwCl ((a_m, .inr (11, (.ref a_m_cutRows :: .ref a_m_cutColumns :: .ref a_m_deep :: .ref a_m_wide :: .ref a_m_zonesAhead :: .ref a_m_nameOne :: .ref a_m_nameOther :: .ref a_m_tape :: .int m_taped :: .int m_place :: .int m_fault :: .int m_number :: .int m_levelRead :: .int m_keyRead :: .int m_reads :: .int m_faults :: .int m_cutShort :: .int m_noNumber :: .long m_bottomLat :: .long m_bottomLon :: .ref a_m_edges :: .int v4 :: .int v5 :: .ref a_m_dist :: .ref a_m_queue :: .int v8 :: .int m_boxLevel :: .int m_boxTop :: .int m_boxBottom :: .int m_boxWest :: .int m_boxEast :: .int m_isEarly :: .int m_pieces :: .int m_states :: .ref a_m_pieceLevel :: .ref a_m_pieceKey :: .ref a_m_pieceYear :: .int m_drawnNow :: .ref a_m_drawnKeys :: .ref a_m_kept :: .int m_keptAt :: .ref a_m_noNumbers :: []))) :: (a_m_deep, .inl (ci 0, 5, .inl m_deep)) :: (a_m_wide, .inl (ci 0, 5, .inl m_wide)) :: (a_m_zonesAhead, .inl (ci 0, 45, .inl m_zonesAhead)) :: (a_m_dist, .inl (ci 0, 20000, .inl f6)) :: (a_m_queue, .inl (ci 0, 20000, .inl f7)) :: Rw) H → va_D A ((a_m, .inr (11, (.ref a_m_cutRows :: .ref a_m_cutColumns :: .ref a_m_deep :: .ref a_m_wide :: .ref a_m_zonesAhead :: .ref a_m_nameOne :: .ref a_m_nameOther :: .ref a_m_tape :: .int m_taped :: .int m_place :: .int m_fault :: .int m_number :: .int m_levelRead :: .int m_keyRead :: .int m_reads :: .int m_faults :: .int m_cutShort :: .int m_noNumber :: .long m_bottomLat :: .long m_bottomLon :: .ref a_m_edges :: .int v4 :: .int v5 :: .ref a_m_dist :: .ref a_m_queue :: .int v8 :: .int m_boxLevel :: .int m_boxTop :: .int m_boxBottom :: .int m_boxWest :: .int m_boxEast :: .int m_isEarly :: .int m_pieces :: .int m_states :: .ref a_m_pieceLevel :: .ref a_m_pieceKey :: .ref a_m_pieceYear :: .int m_drawnNow :: .ref a_m_drawnKeys :: .ref a_m_kept :: .int m_keptAt :: .ref a_m_noNumbers :: []))) :: (a_m_deep, .inl (ci 0, 5, .inl m_deep)) :: (a_m_wide, .inl (ci 0, 5, .inl m_wide)) :: (a_m_zonesAhead, .inl (ci 0, 45, .inl m_zonesAhead)) :: (a_m_dist, .inl (ci 0, 20000, .inl f6)) :: (a_m_queue, .inl (ci 0, 20000, .inl f7)) :: Rw) → va_S A s.heap H locs → lv_has ls 6 [(0, .ref a_m), (1, .int p1), (3, .int p3), (5, .int v12)] → W p l e ({ frames := 6, cells := 0, slots := 0, locals := 147 } : Room) s m ([.ref a_m, .int p1, .int p2, .int p3] : List Value).toArray below meth c H locs 0 0 Q (F0 m 78 ls [.int v18]) := by
                  intro v18 H locs ls hf hP hD hS hl
                  have hf := (ek78 v18).symm.trans hf
                  refine lv_istore (pc := 78) (lv' := [(4, .int v18), (0, .ref a_m), (1, .int p1), (3, .int p3), (5, .int v12)]) hx hb dX11_farthest_78 hl (by decide) rfl (fun ls hl => ?_)
                  obtain ⟨v19, ev19, hf⟩ := q_nm_e hf
                  refine lv_iinc (pc := 80) (v := v19) (lv' := [(5, .int v19), (4, .int v18), (0, .ref a_m), (1, .int p1), (3, .int p3)]) hx hb dX11_farthest_80 hl (k := 4) rfl (by rw [ev19]; rfl) (by decide) rfl (fun ls hl => ?_)
                  refine lv_goto (pc := 83) (tgt := 44) hx hb dX11_farthest_83 (by decide) ?_
                  exact ih44 v18 v19 _ _ _ hf hP hD hS (lv_sub hl [2, 3, 4, 1, 0] rfl)
                refine q_icmp_le (pc := 68) (tgt := 76) hx hb dX11_farthest_68 (by decide) rfl hf (fun hf => ?_) (fun hf => ?_)
                · refine lv_iload (pc := 76) hx hb dX11_farthest_76 (lv_at hl 3 rfl) ?_
                  exact J78 v11 _ _ _ hf hP hD hS (lv_sub hl [0, 1, 2, 4] rfl)
                · refine lv_iload (pc := 71) hx hb dX11_farthest_71 (lv_at hl 4 rfl) ?_
                  refine lv_goto (pc := 73) (tgt := 78) hx hb dX11_farthest_73 (by decide) ?_
                  exact J78 v12 _ _ _ hf hP hD hS (lv_sub hl [0, 1, 2, 4] rfl)
          exact LP44 N v9 v10 _ _ _ hm44 hP hD hS (lv_sub hl [2, 3, 5, 1, 0] rfl)
        · refine lv_bipush (pc := 29) (v := (-3)) hx hb dX11_farthest_29 (by decide) ?_
          obtain ⟨e90, e91, e92, e93, e94, e95⟩ := q_inj6 (Option.some.inj hf)
          rw [hQ, ← e90, ← e91, ← e92, ← e93, ← e94, ← e95]
          exact q_iret (pc := 31) hx hb hr hlocks hP hD hS dX11_farthest_31
      · refine lv_iconst (pc := 19) (v := (-1)) hx hb dX11_farthest_19 (by decide) ?_
        obtain ⟨e90, e91, e92, e93, e94, e95⟩ := q_inj6 (Option.some.inj hf)
        rw [hQ, ← e90, ← e91, ← e92, ← e93, ← e94, ← e95]
        exact q_iret (pc := 20) hx hb hr hlocks hP hD hS dX11_farthest_20
  exact hgo _ _ rfl hP hS
/-! X11_typed4 -/
set_option maxRecDepth 100000 in
set_option maxHeartbeats 4000000 in
theorem c_M_typed4 (l : Launch) (D : va_G) (ci : Nat → ClassId) (A : Nat → Prop) (sa : Nat → Nat) (N : Nat) (Rw : va_W) (a_m : Nat) (a_m_cutRows : Nat) (a_m_cutColumns : Nat) (a_m_deep : Nat) (a_m_wide : Nat) (a_m_zonesAhead : Nat) (a_m_nameOne : Nat) (a_m_nameOther : Nat) (a_m_tape : Nat) (a_m_edges : Nat) (a_m_dist : Nat) (a_m_queue : Nat) (a_m_pieceLevel : Nat) (a_m_pieceKey : Nat) (a_m_pieceYear : Nat) (a_m_drawnKeys : Nat) (a_m_kept : Nat) (a_m_noNumbers : Nat) (m_taped : Int32) (m_place : Int32) (m_fault : Int32) (m_number : Int32) (m_levelRead : Int32) (m_keyRead : Int32) (m_reads : Int32) (m_faults : Int32) (m_cutShort : Int32) (m_noNumber : Int32) (m_bottomLat : Int64) (m_bottomLon : Int64) (m_firstBeside : Int32) (m_manyBeside : Int32) (m_queued : Int32) (m_boxLevel : Int32) (m_boxTop : Int32) (m_boxBottom : Int32) (m_boxWest : Int32) (m_boxEast : Int32) (m_isEarly : Int32) (m_pieces : Int32) (m_states : Int32) (m_drawnNow : Int32) (m_keptAt : Int32) (m_tape : Nat → Int32) (p1 : Int32) (o1 : Nat → Int32) (o2 : Int32) (hf : f_M_typed4 N m_tape m_taped p1 = some (o1, o2)) : Met l yX11_typed4 wsX11_typed4 ({ frames := 0, cells := 0, slots := 0, locals := 0 }) (va_Pc [.ref a_m, .int p1] (q_N D ci A sa ((a_m, .inr (11, (.ref a_m_cutRows :: .ref a_m_cutColumns :: .ref a_m_deep :: .ref a_m_wide :: .ref a_m_zonesAhead :: .ref a_m_nameOne :: .ref a_m_nameOther :: .ref a_m_tape :: .int m_taped :: .int m_place :: .int m_fault :: .int m_number :: .int m_levelRead :: .int m_keyRead :: .int m_reads :: .int m_faults :: .int m_cutShort :: .int m_noNumber :: .long m_bottomLat :: .long m_bottomLon :: .ref a_m_edges :: .int m_firstBeside :: .int m_manyBeside :: .ref a_m_dist :: .ref a_m_queue :: .int m_queued :: .int m_boxLevel :: .int m_boxTop :: .int m_boxBottom :: .int m_boxWest :: .int m_boxEast :: .int m_isEarly :: .int m_pieces :: .int m_states :: .ref a_m_pieceLevel :: .ref a_m_pieceKey :: .ref a_m_pieceYear :: .int m_drawnNow :: .ref a_m_drawnKeys :: .ref a_m_kept :: .int m_keptAt :: .ref a_m_noNumbers :: []))) :: (a_m_tape, .inl (ci 2, 200, .inl m_tape)) :: Rw))) (q_Q none (q_O D A ((a_m, .inr (11, (.ref a_m_cutRows :: .ref a_m_cutColumns :: .ref a_m_deep :: .ref a_m_wide :: .ref a_m_zonesAhead :: .ref a_m_nameOne :: .ref a_m_nameOther :: .ref a_m_tape :: .int o2 :: .int m_place :: .int m_fault :: .int m_number :: .int m_levelRead :: .int m_keyRead :: .int m_reads :: .int m_faults :: .int m_cutShort :: .int m_noNumber :: .long m_bottomLat :: .long m_bottomLon :: .ref a_m_edges :: .int m_firstBeside :: .int m_manyBeside :: .ref a_m_dist :: .ref a_m_queue :: .int m_queued :: .int m_boxLevel :: .int m_boxTop :: .int m_boxBottom :: .int m_boxWest :: .int m_boxEast :: .int m_isEarly :: .int m_pieces :: .int m_states :: .ref a_m_pieceLevel :: .ref a_m_pieceKey :: .ref a_m_pieceYear :: .int m_drawnNow :: .ref a_m_drawnKeys :: .ref a_m_kept :: .int m_keptAt :: .ref a_m_noNumbers :: []))) :: (a_m_tape, .inl (ci 2, 200, .inl o1)) :: Rw)) A) 0 0 A := by
  refine q_ofW (cc := cX11_typed4) (maxL := 3) (ret := none) [.ref a_m, .int p1] (plainFor_of_name (by decide)) rfl (Nat.le_of_ble_eq_true rfl) ?_
  intro p e s m below meth c ls Q hQ hx hb hml hr hts hown hlocks hK hA hZ hP hD hS hl
  have hl : lv_has ls 3 [(0, .ref a_m), (1, .int p1)] := hl
  have hown : s.vm.findClass RX11 = some m.cls := hown
  have hinX11 : ∀ w ∈ wsX110, w ∈ wsX11_typed4 := fun _ h => List.mem_cons_of_mem _ (inWX110 _ h)
  have w_1 := hts (Cond.fieldLink RX11 31 "SheetNamesModel" "tape" "[B") (List.mem_cons_of_mem _ t_w914)
  have w_2 := hts (Cond.fieldLink RX11 160 "SheetNamesModel" "taped" "I") (List.mem_cons_of_mem _ t_w962)
  unfold f_M_typed4 at hf
  have hgo : ∀ (H : Heap) (locs : List Loc), H = s.heap → va_P D vwCl ((a_m, .inr (11, (.ref a_m_cutRows :: .ref a_m_cutColumns :: .ref a_m_deep :: .ref a_m_wide :: .ref a_m_zonesAhead :: .ref a_m_nameOne :: .ref a_m_nameOther :: .ref a_m_tape :: .int m_taped :: .int m_place :: .int m_fault :: .int m_number :: .int m_levelRead :: .int m_keyRead :: .int m_reads :: .int m_faults :: .int m_cutShort :: .int m_noNumber :: .long m_bottomLat :: .long m_bottomLon :: .ref a_m_edges :: .int m_firstBeside :: .int m_manyBeside :: .ref a_m_dist :: .ref a_m_queue :: .int m_queued :: .int m_boxLevel :: .int m_boxTop :: .int m_boxBottom :: .int m_boxWest :: .int m_boxEast :: .int m_isEarly :: .int m_pieces :: .int m_states :: .ref a_m_pieceLevel :: .ref a_m_pieceKey :: .ref a_m_pieceYear :: .int m_drawnNow :: .ref a_m_drawnKeys :: .ref a_m_kept :: .int m_keptAt :: .ref a_m_noNumbers :: []))) :: (a_m_tape, .inl (ci 2, 200, .inl m_tape)) :: Rw) H → va_S A s.heap H locs → W p l e ({ frames := 0, cells := 0, slots := 0, locals := 0 } : Room) s m ([.ref a_m, .int p1] : List Value).toArray below meth c H locs 0 0 Q (F0 m 0 ls []) := by
    intro H locs hH hP hS
    refine lv_iconst (pc := 0) (v := 3) hx hb dX11_typed4_0 (by decide) ?_
    obtain ⟨v1, ev1, hf⟩ := q_nm_e hf
    refine q_topi ev1 ?_
    refine lv_istore_n (pc := 1) (lv' := [(2, .int v1), (0, .ref a_m), (1, .int p1)]) hx hb dX11_typed4_1 rfl hl (by decide) rfl (fun ls hl => ?_)
    obtain ⟨f5, v6, hm2, hf⟩ := q_b2_e hf
    have JE2 : ∀ (H : Heap) (locs : List Loc) (ls : Array Slot), va_P D vwCl ((a_m, .inr (11, (.ref a_m_cutRows :: .ref a_m_cutColumns :: .ref a_m_deep :: .ref a_m_wide :: .ref a_m_zonesAhead :: .ref a_m_nameOne :: .ref a_m_nameOther :: .ref a_m_tape :: .int v6 :: .int m_place :: .int m_fault :: .int m_number :: .int m_levelRead :: .int m_keyRead :: .int m_reads :: .int m_faults :: .int m_cutShort :: .int m_noNumber :: .long m_bottomLat :: .long m_bottomLon :: .ref a_m_edges :: .int m_firstBeside :: .int m_manyBeside :: .ref a_m_dist :: .ref a_m_queue :: .int m_queued :: .int m_boxLevel :: .int m_boxTop :: .int m_boxBottom :: .int m_boxWest :: .int m_boxEast :: .int m_isEarly :: .int m_pieces :: .int m_states :: .ref a_m_pieceLevel :: .ref a_m_pieceKey :: .ref a_m_pieceYear :: .int m_drawnNow :: .ref a_m_drawnKeys :: .ref a_m_kept :: .int m_keptAt :: .ref a_m_noNumbers :: []))) :: (a_m_tape, .inl (ci 2, 200, .inl f5)) :: Rw) H → va_D A ((a_m, .inr (11, (.ref a_m_cutRows :: .ref a_m_cutColumns :: .ref a_m_deep :: .ref a_m_wide :: .ref a_m_zonesAhead :: .ref a_m_nameOne :: .ref a_m_nameOther :: .ref a_m_tape :: .int v6 :: .int m_place :: .int m_fault :: .int m_number :: .int m_levelRead :: .int m_keyRead :: .int m_reads :: .int m_faults :: .int m_cutShort :: .int m_noNumber :: .long m_bottomLat :: .long m_bottomLon :: .ref a_m_edges :: .int m_firstBeside :: .int m_manyBeside :: .ref a_m_dist :: .ref a_m_queue :: .int m_queued :: .int m_boxLevel :: .int m_boxTop :: .int m_boxBottom :: .int m_boxWest :: .int m_boxEast :: .int m_isEarly :: .int m_pieces :: .int m_states :: .ref a_m_pieceLevel :: .ref a_m_pieceKey :: .ref a_m_pieceYear :: .int m_drawnNow :: .ref a_m_drawnKeys :: .ref a_m_kept :: .int m_keptAt :: .ref a_m_noNumbers :: []))) :: (a_m_tape, .inl (ci 2, 200, .inl f5)) :: Rw) → va_S A s.heap H locs → lv_has ls 3 [] → W p l e ({ frames := 0, cells := 0, slots := 0, locals := 0 } : Room) s m ([.ref a_m, .int p1] : List Value).toArray below meth c H locs 0 0 Q (F0 m 38 ls []) := by
      intro H locs ls hP hD hS hl
      obtain ⟨rfl, rfl⟩ := q_inj2 (Option.some.inj hf)
      rw [hQ]
      exact q_vret (pc := 38) hx hb hr hlocks hP hD hS dX11_typed4_38
    have LP2 : ∀ (n2 : Nat) (v2 : Int32) (f3 : Nat → Int32) (v4 : Int32) (H : Heap) (locs : List Loc) (ls : Array Slot), f_M_typed4_L2 p1 n2 v2 f3 v4 = some (f5, v6) → va_P D vwCl ((a_m, .inr (11, (.ref a_m_cutRows :: .ref a_m_cutColumns :: .ref a_m_deep :: .ref a_m_wide :: .ref a_m_zonesAhead :: .ref a_m_nameOne :: .ref a_m_nameOther :: .ref a_m_tape :: .int v4 :: .int m_place :: .int m_fault :: .int m_number :: .int m_levelRead :: .int m_keyRead :: .int m_reads :: .int m_faults :: .int m_cutShort :: .int m_noNumber :: .long m_bottomLat :: .long m_bottomLon :: .ref a_m_edges :: .int m_firstBeside :: .int m_manyBeside :: .ref a_m_dist :: .ref a_m_queue :: .int m_queued :: .int m_boxLevel :: .int m_boxTop :: .int m_boxBottom :: .int m_boxWest :: .int m_boxEast :: .int m_isEarly :: .int m_pieces :: .int m_states :: .ref a_m_pieceLevel :: .ref a_m_pieceKey :: .ref a_m_pieceYear :: .int m_drawnNow :: .ref a_m_drawnKeys :: .ref a_m_kept :: .int m_keptAt :: .ref a_m_noNumbers :: []))) :: (a_m_tape, .inl (ci 2, 200, .inl f3)) :: Rw) H → va_D A ((a_m, .inr (11, (.ref a_m_cutRows :: .ref a_m_cutColumns :: .ref a_m_deep :: .ref a_m_wide :: .ref a_m_zonesAhead :: .ref a_m_nameOne :: .ref a_m_nameOther :: .ref a_m_tape :: .int v4 :: .int m_place :: .int m_fault :: .int m_number :: .int m_levelRead :: .int m_keyRead :: .int m_reads :: .int m_faults :: .int m_cutShort :: .int m_noNumber :: .long m_bottomLat :: .long m_bottomLon :: .ref a_m_edges :: .int m_firstBeside :: .int m_manyBeside :: .ref a_m_dist :: .ref a_m_queue :: .int m_queued :: .int m_boxLevel :: .int m_boxTop :: .int m_boxBottom :: .int m_boxWest :: .int m_boxEast :: .int m_isEarly :: .int m_pieces :: .int m_states :: .ref a_m_pieceLevel :: .ref a_m_pieceKey :: .ref a_m_pieceYear :: .int m_drawnNow :: .ref a_m_drawnKeys :: .ref a_m_kept :: .int m_keptAt :: .ref a_m_noNumbers :: []))) :: (a_m_tape, .inl (ci 2, 200, .inl f3)) :: Rw) → va_S A s.heap H locs → lv_has ls 3 [(0, .ref a_m), (1, .int p1), (2, .int v2)] → W p l e ({ frames := 0, cells := 0, slots := 0, locals := 0 } : Room) s m ([.ref a_m, .int p1] : List Value).toArray below meth c H locs 0 0 Q (F0 m 2 ls []) := by
      intro n2
      induction n2 with
      | zero => intro v2 f3 v4 H locs ls hf; rw [f_M_typed4_L2] at hf; cases hf
      | succ n2 ih2 =>
        intro v2 f3 v4 H locs ls hf hP hD hS hl
        rw [f_M_typed4_L2] at hf
        refine lv_iload_n (pc := 2) hx hb dX11_typed4_2 rfl (lv_at hl 2 rfl) ?_
        refine q_if_lt (pc := 3) (tgt := 38) hx hb dX11_typed4_3 (by decide) rfl hf (fun hf => ?_) (fun hf => ?_)
        · obtain ⟨rfl, rfl⟩ := q_inj2 (Option.some.inj hf)
          exact JE2 _ _ _ hP hD hS (lv_sub hl [] rfl)
        · refine lv_aload_n (pc := 6) hx hb dX11_typed4_6 rfl (lv_at hl 0 rfl) ?_
          refine va_get (pc := 7) (D := D) (ci := 11) (v := .ref a_m_tape) (C := RX11) (T := TX11) (N := 42) hx hb hts hinX11 hown hK hP 0 rfl rfl 7 (by decide) w_1 (fun _ h9 => h9) rfl dX11_typed4_7 ?_
          refine lv_aload_n (pc := 10) hx hb dX11_typed4_10 rfl (lv_at hl 0 rfl) ?_
          refine va_get (pc := 11) (D := D) (ci := 11) (v := .int v4) (C := RX11) (T := TX11) (N := 42) hx hb hts hinX11 hown hK hP 0 rfl rfl 8 (by decide) w_2 (fun _ h9 => h9) rfl dX11_typed4_11 ?_
          refine lv_iload_n (pc := 14) hx hb dX11_typed4_14 rfl (lv_at hl 1 rfl) ?_
          refine lv_bipush (pc := 15) (v := 8) hx hb dX11_typed4_15 (by decide) ?_
          refine lv_iload_n (pc := 17) hx hb dX11_typed4_17 rfl (lv_at hl 2 rfl) ?_
          refine lv_imul (pc := 18) hx hb dX11_typed4_18 ?_
          refine lv_ishr (pc := 19) hx hb dX11_typed4_19 ?_
          refine lv_i2b (pc := 20) hx hb dX11_typed4_20 rfl ?_
          refine q_bast (pc := 21) hx hb hK hP hD hS 1 2 hf rfl rfl dX11_typed4_21 (fun f7 H locs hf hP hD hS => ?_)
          obtain ⟨hP, hD⟩ : va_PD D A ((a_m, .inr (11, (.ref a_m_cutRows :: .ref a_m_cutColumns :: .ref a_m_deep :: .ref a_m_wide :: .ref a_m_zonesAhead :: .ref a_m_nameOne :: .ref a_m_nameOther :: .ref a_m_tape :: .int v4 :: .int m_place :: .int m_fault :: .int m_number :: .int m_levelRead :: .int m_keyRead :: .int m_reads :: .int m_faults :: .int m_cutShort :: .int m_noNumber :: .long m_bottomLat :: .long m_bottomLon :: .ref a_m_edges :: .int m_firstBeside :: .int m_manyBeside :: .ref a_m_dist :: .ref a_m_queue :: .int m_queued :: .int m_boxLevel :: .int m_boxTop :: .int m_boxBottom :: .int m_boxWest :: .int m_boxEast :: .int m_isEarly :: .int m_pieces :: .int m_states :: .ref a_m_pieceLevel :: .ref a_m_pieceKey :: .ref a_m_pieceYear :: .int m_drawnNow :: .ref a_m_drawnKeys :: .ref a_m_kept :: .int m_keptAt :: .ref a_m_noNumbers :: []))) :: (a_m_tape, .inl (ci 2, 200, .inl f7)) :: Rw) H := ⟨hP, hD⟩
          refine lv_aload_n (pc := 22) hx hb dX11_typed4_22 rfl (lv_at hl 0 rfl) ?_
          refine lv_aload_n (pc := 23) hx hb dX11_typed4_23 rfl (lv_at hl 0 rfl) ?_
          refine va_get (pc := 24) (D := D) (ci := 11) (v := .int v4) (C := RX11) (T := TX11) (N := 42) hx hb hts hinX11 hown hK hP 0 rfl rfl 8 (by decide) w_2 (fun _ h9 => h9) rfl dX11_typed4_24 ?_
          refine lv_iconst (pc := 27) (v := 1) hx hb dX11_typed4_27 (by decide) ?_
          refine lv_iadd (pc := 28) hx hb dX11_typed4_28 ?_
          obtain ⟨v8, ev8, hf⟩ := q_nm_e hf
          refine q_topi ev8 ?_
          refine va_put (pc := 29) (D := D) (ci := 11) (v := .int v8) (ty := .int) (C := RX11) (T := TX11) (N := 42) hx hb hts hinX11 tyX11 tyX11_ok nmX11 hown hK hP hD hS 0 rfl rfl 8 (by decide) w_2 (fun _ h9 => h9) rfl (by decide +kernel) rfl rfl (Nat.le_of_ble_eq_true rfl) dX11_typed4_29 (fun H locs hP hD hS => ?_)
          obtain ⟨hP, hD⟩ : va_PD D A ((a_m, .inr (11, (.ref a_m_cutRows :: .ref a_m_cutColumns :: .ref a_m_deep :: .ref a_m_wide :: .ref a_m_zonesAhead :: .ref a_m_nameOne :: .ref a_m_nameOther :: .ref a_m_tape :: .int v8 :: .int m_place :: .int m_fault :: .int m_number :: .int m_levelRead :: .int m_keyRead :: .int m_reads :: .int m_faults :: .int m_cutShort :: .int m_noNumber :: .long m_bottomLat :: .long m_bottomLon :: .ref a_m_edges :: .int m_firstBeside :: .int m_manyBeside :: .ref a_m_dist :: .ref a_m_queue :: .int m_queued :: .int m_boxLevel :: .int m_boxTop :: .int m_boxBottom :: .int m_boxWest :: .int m_boxEast :: .int m_isEarly :: .int m_pieces :: .int m_states :: .ref a_m_pieceLevel :: .ref a_m_pieceKey :: .ref a_m_pieceYear :: .int m_drawnNow :: .ref a_m_drawnKeys :: .ref a_m_kept :: .int m_keptAt :: .ref a_m_noNumbers :: []))) :: (a_m_tape, .inl (ci 2, 200, .inl f7)) :: Rw) H := ⟨hP, hD⟩
          obtain ⟨v9, ev9, hf⟩ := q_nm_e hf
          refine lv_iinc (pc := 32) (v := v9) (lv' := [(2, .int v9), (0, .ref a_m), (1, .int p1)]) hx hb dX11_typed4_32 hl (k := 2) rfl (by rw [ev9]; rfl) (by decide) rfl (fun ls hl => ?_)
          refine lv_goto (pc := 35) (tgt := 2) hx hb dX11_typed4_35 (by decide) ?_
          exact ih2 v9 f7 v8 _ _ _ hf hP hD hS (lv_sub hl [1, 2, 0] rfl)
    exact LP2 N v1 m_tape m_taped _ _ _ hm2 hP hD hS (lv_sub hl [1, 2, 0] rfl)
  exact hgo _ _ rfl hP hS
end
section
/-! X11_feed -/
set_option maxRecDepth 100000 in
set_option maxHeartbeats 4000000 in
theorem c_M_feed (l : Launch) (D : va_G) (ci : Nat → ClassId) (A : Nat → Prop) (sa : Nat → Nat) (N : Nat) (Rw : va_W) (a_m : Nat) (a_m_cutRows : Nat) (a_m_cutColumns : Nat) (a_m_deep : Nat) (a_m_wide : Nat) (a_m_zonesAhead : Nat) (a_m_nameOne : Nat) (a_m_nameOther : Nat) (a_m_tape : Nat) (a_m_edges : Nat) (a_m_dist : Nat) (a_m_queue : Nat) (a_m_pieceLevel : Nat) (a_m_pieceKey : Nat) (a_m_pieceYear : Nat) (a_m_drawnKeys : Nat) (a_m_kept : Nat) (a_m_noNumbers : Nat) (m_taped : Int32) (m_place : Int32) (m_fault : Int32) (m_number : Int32) (m_levelRead : Int32) (m_keyRead : Int32) (m_reads : Int32) (m_faults : Int32) (m_cutShort : Int32) (m_noNumber : Int32) (m_bottomLat : Int64) (m_bottomLon : Int64) (m_firstBeside : Int32) (m_manyBeside : Int32) (m_queued : Int32) (m_boxLevel : Int32) (m_boxTop : Int32) (m_boxBottom : Int32) (m_boxWest : Int32) (m_boxEast : Int32) (m_isEarly : Int32) (m_pieces : Int32) (m_states : Int32) (m_drawnNow : Int32) (m_keptAt : Int32) (m_tape : Nat → Int32) (p1 : Int32) (p2 : Int32) (p3 : Int32) (p4 : Int32) (p5 : Int32) (r : Int32) (o1 : Nat → Int32) (o2 : Int32) (hf : f_M_feed N m_tape m_taped p1 p2 p3 p4 p5 = some (r, o1, o2)) : Met l yX11_feed wsX11_feed ({ frames := 1, cells := 0, slots := 0, locals := 22 }) (va_Pc [.ref a_m, .int p1, .int p2, .int p3, .int p4, .int p5] (q_N D ci A sa ((a_m, .inr (11, (.ref a_m_cutRows :: .ref a_m_cutColumns :: .ref a_m_deep :: .ref a_m_wide :: .ref a_m_zonesAhead :: .ref a_m_nameOne :: .ref a_m_nameOther :: .ref a_m_tape :: .int m_taped :: .int m_place :: .int m_fault :: .int m_number :: .int m_levelRead :: .int m_keyRead :: .int m_reads :: .int m_faults :: .int m_cutShort :: .int m_noNumber :: .long m_bottomLat :: .long m_bottomLon :: .ref a_m_edges :: .int m_firstBeside :: .int m_manyBeside :: .ref a_m_dist :: .ref a_m_queue :: .int m_queued :: .int m_boxLevel :: .int m_boxTop :: .int m_boxBottom :: .int m_boxWest :: .int m_boxEast :: .int m_isEarly :: .int m_pieces :: .int m_states :: .ref a_m_pieceLevel :: .ref a_m_pieceKey :: .ref a_m_pieceYear :: .int m_drawnNow :: .ref a_m_drawnKeys :: .ref a_m_kept :: .int m_keptAt :: .ref a_m_noNumbers :: []))) :: (a_m_tape, .inl (ci 2, 200, .inl m_tape)) :: Rw))) (q_Q (some (.int r)) (q_O D A ((a_m, .inr (11, (.ref a_m_cutRows :: .ref a_m_cutColumns :: .ref a_m_deep :: .ref a_m_wide :: .ref a_m_zonesAhead :: .ref a_m_nameOne :: .ref a_m_nameOther :: .ref a_m_tape :: .int o2 :: .int m_place :: .int m_fault :: .int m_number :: .int m_levelRead :: .int m_keyRead :: .int m_reads :: .int m_faults :: .int m_cutShort :: .int m_noNumber :: .long m_bottomLat :: .long m_bottomLon :: .ref a_m_edges :: .int m_firstBeside :: .int m_manyBeside :: .ref a_m_dist :: .ref a_m_queue :: .int m_queued :: .int m_boxLevel :: .int m_boxTop :: .int m_boxBottom :: .int m_boxWest :: .int m_boxEast :: .int m_isEarly :: .int m_pieces :: .int m_states :: .ref a_m_pieceLevel :: .ref a_m_pieceKey :: .ref a_m_pieceYear :: .int m_drawnNow :: .ref a_m_drawnKeys :: .ref a_m_kept :: .int m_keptAt :: .ref a_m_noNumbers :: []))) :: (a_m_tape, .inl (ci 2, 200, .inl o1)) :: Rw)) A) 0 0 A := by
  refine q_ofW (cc := cX11_feed) (maxL := 6) (ret := (some .int)) [.ref a_m, .int p1, .int p2, .int p3, .int p4, .int p5] (plainFor_of_name (by decide)) rfl (Nat.le_of_ble_eq_true rfl) ?_
  intro p e s m below meth c ls Q hQ hx hb hml hr hts hown hlocks hK hA hZ hP hD hS hl
  have hl : lv_has ls 6 [(0, .ref a_m), (1, .int p1), (2, .int p2), (3, .int p3), (4, .int p4), (5, .int p5)] := hl
  have hown : s.vm.findClass RX11 = some m.cls := hown
  have hinX11 : ∀ w ∈ wsX110, w ∈ wsX11_feed := fun _ h => List.mem_cons_of_mem _ (inWX110 _ h)
  have w_1 := hts (Cond.fieldLink RX11 160 "SheetNamesModel" "taped" "I") (List.mem_cons_of_mem _ t_w962)
  unfold f_M_feed at hf
  have hgo : ∀ (H : Heap) (locs : List Loc), H = s.heap → va_P D vwCl ((a_m, .inr (11, (.ref a_m_cutRows :: .ref a_m_cutColumns :: .ref a_m_deep :: .ref a_m_wide :: .ref a_m_zonesAhead :: .ref a_m_nameOne :: .ref a_m_nameOther :: .ref a_m_tape :: .int m_taped :: .int m_place :: .int m_fault :: .int m_number :: .int m_levelRead :: .int m_keyRead :: .int m_reads :: .int m_faults :: .int m_cutShort :: .int m_noNumber :: .long m_bottomLat :: .long m_bottomLon :: .ref a_m_edges :: .int m_firstBeside :: .int m_manyBeside :: .ref a_m_dist :: .ref a_m_queue :: .int m_queued :: .int m_boxLevel :: .int m_boxTop :: .int m_boxBottom :: .int m_boxWest :: .int m_boxEast :: .int m_isEarly :: .int m_pieces :: .int m_states :: .ref a_m_pieceLevel :: .ref a_m_pieceKey :: .ref a_m_pieceYear :: .int m_drawnNow :: .ref a_m_drawnKeys :: .ref a_m_kept :: .int m_keptAt :: .ref a_m_noNumbers :: []))) :: (a_m_tape, .inl (ci 2, 200, .inl m_tape)) :: Rw) H → va_S A s.heap H locs → W p l e ({ frames := 1, cells := 0, slots := 0, locals := 22 } : Room) s m ([.ref a_m, .int p1, .int p2, .int p3, .int p4, .int p5] : List Value).toArray below meth c H locs 0 0 Q (F0 m 0 ls []) := by
    intro H locs hH hP hS
    refine lv_aload_n (pc := 0) hx hb dX11_feed_0 rfl (lv_at hl 0 rfl) ?_
    refine va_get (pc := 1) (D := D) (ci := 11) (v := .int m_taped) (C := RX11) (T := TX11) (N := 42) hx hb hts hinX11 hown hK hP 0 rfl rfl 8 (by decide) w_1 (fun _ h9 => h9) rfl dX11_feed_1 ?_
    refine lv_bipush (pc := 4) (v := 20) hx hb dX11_feed_4 (by decide) ?_
    refine lv_iadd (pc := 6) hx hb dX11_feed_6 ?_
    refine lv_sipush (pc := 7) (v := 200) hx hb dX11_feed_7 (by decide) ?_
    refine q_icmp_le (pc := 10) (tgt := 15) hx hb dX11_feed_10 (by decide) rfl hf (fun hf => ?_) (fun hf => ?_)
    · refine lv_aload_n (pc := 15) hx hb dX11_feed_15 rfl (lv_at hl 0 rfl) ?_
      refine lv_iload_n (pc := 16) hx hb dX11_feed_16 rfl (lv_at hl 1 rfl) ?_
      obtain ⟨f1, v2, hm17, hf⟩ := q_b2_e hf
      refine q_cV (pc := 17) (As := [.int p1]) (rest := []) (v0 := none) ⟨hx, hb, hml, hown, hts⟩ hK hA hZ hP hD hS hl.1 [0, 1] 2 rfl ⟨rfl, rfl, rfl⟩ (c_M_typed4 l D ci A sa N (Rw) a_m a_m_cutRows a_m_cutColumns a_m_deep a_m_wide a_m_zonesAhead a_m_nameOne a_m_nameOther a_m_tape a_m_edges a_m_dist a_m_queue a_m_pieceLevel a_m_pieceKey a_m_pieceYear a_m_drawnKeys a_m_kept a_m_noNumbers m_taped m_place m_fault m_number m_levelRead m_keyRead m_reads m_faults m_cutShort m_noNumber m_bottomLat m_bottomLon m_firstBeside m_manyBeside m_queued m_boxLevel m_boxTop m_boxBottom m_boxWest m_boxEast m_isEarly m_pieces m_states m_drawnNow m_keptAt m_tape p1 f1 v2 hm17) 0 rfl rfl (cwV 1 hts gX11_feed_X11_typed4 rfl rfl rfl (by decide +kernel) ⟨Nat.le_of_ble_eq_true rfl, Nat.le_of_ble_eq_true rfl⟩) rfl rfl (Nat.le_of_ble_eq_true rfl) dX11_feed_17 ⟨Nat.zero_le _, Nat.zero_le _⟩ [0, 1] 2 rfl ⟨rfl, rfl, rfl⟩ (fun H locs hP hD hS => ?_)
      obtain ⟨hP, hD⟩ : va_PD D A ((a_m, .inr (11, (.ref a_m_cutRows :: .ref a_m_cutColumns :: .ref a_m_deep :: .ref a_m_wide :: .ref a_m_zonesAhead :: .ref a_m_nameOne :: .ref a_m_nameOther :: .ref a_m_tape :: .int v2 :: .int m_place :: .int m_fault :: .int m_number :: .int m_levelRead :: .int m_keyRead :: .int m_reads :: .int m_faults :: .int m_cutShort :: .int m_noNumber :: .long m_bottomLat :: .long m_bottomLon :: .ref a_m_edges :: .int m_firstBeside :: .int m_manyBeside :: .ref a_m_dist :: .ref a_m_queue :: .int m_queued :: .int m_boxLevel :: .int m_boxTop :: .int m_boxBottom :: .int m_boxWest :: .int m_boxEast :: .int m_isEarly :: .int m_pieces :: .int m_states :: .ref a_m_pieceLevel :: .ref a_m_pieceKey :: .ref a_m_pieceYear :: .int m_drawnNow :: .ref a_m_drawnKeys :: .ref a_m_kept :: .int m_keptAt :: .ref a_m_noNumbers :: []))) :: (a_m_tape, .inl (ci 2, 200, .inl f1)) :: Rw) H := ⟨hP, hD⟩
      refine lv_aload_n (pc := 20) hx hb dX11_feed_20 rfl (lv_at hl 0 rfl) ?_
      refine lv_iload_n (pc := 21) hx hb dX11_feed_21 rfl (lv_at hl 2 rfl) ?_
      obtain ⟨f3, v4, hm22, hf⟩ := q_b2_e hf
      refine q_cV (pc := 22) (As := [.int p2]) (rest := []) (v0 := none) ⟨hx, hb, hml, hown, hts⟩ hK hA hZ hP hD hS hl.1 [0, 1] 2 rfl ⟨rfl, rfl, rfl⟩ (c_M_typed4 l D ci A sa N (Rw) a_m a_m_cutRows a_m_cutColumns a_m_deep a_m_wide a_m_zonesAhead a_m_nameOne a_m_nameOther a_m_tape a_m_edges a_m_dist a_m_queue a_m_pieceLevel a_m_pieceKey a_m_pieceYear a_m_drawnKeys a_m_kept a_m_noNumbers v2 m_place m_fault m_number m_levelRead m_keyRead m_reads m_faults m_cutShort m_noNumber m_bottomLat m_bottomLon m_firstBeside m_manyBeside m_queued m_boxLevel m_boxTop m_boxBottom m_boxWest m_boxEast m_isEarly m_pieces m_states m_drawnNow m_keptAt f1 p2 f3 v4 hm22) 0 rfl rfl (cwV 1 hts gX11_feed_X11_typed4 rfl rfl rfl (by decide +kernel) ⟨Nat.le_of_ble_eq_true rfl, Nat.le_of_ble_eq_true rfl⟩) rfl rfl (Nat.le_of_ble_eq_true rfl) dX11_feed_22 ⟨Nat.zero_le _, Nat.zero_le _⟩ [0, 1] 2 rfl ⟨rfl, rfl, rfl⟩ (fun H locs hP hD hS => ?_)
      obtain ⟨hP, hD⟩ : va_PD D A ((a_m, .inr (11, (.ref a_m_cutRows :: .ref a_m_cutColumns :: .ref a_m_deep :: .ref a_m_wide :: .ref a_m_zonesAhead :: .ref a_m_nameOne :: .ref a_m_nameOther :: .ref a_m_tape :: .int v4 :: .int m_place :: .int m_fault :: .int m_number :: .int m_levelRead :: .int m_keyRead :: .int m_reads :: .int m_faults :: .int m_cutShort :: .int m_noNumber :: .long m_bottomLat :: .long m_bottomLon :: .ref a_m_edges :: .int m_firstBeside :: .int m_manyBeside :: .ref a_m_dist :: .ref a_m_queue :: .int m_queued :: .int m_boxLevel :: .int m_boxTop :: .int m_boxBottom :: .int m_boxWest :: .int m_boxEast :: .int m_isEarly :: .int m_pieces :: .int m_states :: .ref a_m_pieceLevel :: .ref a_m_pieceKey :: .ref a_m_pieceYear :: .int m_drawnNow :: .ref a_m_drawnKeys :: .ref a_m_kept :: .int m_keptAt :: .ref a_m_noNumbers :: []))) :: (a_m_tape, .inl (ci 2, 200, .inl f3)) :: Rw) H := ⟨hP, hD⟩
      refine lv_aload_n (pc := 25) hx hb dX11_feed_25 rfl (lv_at hl 0 rfl) ?_
      refine lv_iload_n (pc := 26) hx hb dX11_feed_26 rfl (lv_at hl 3 rfl) ?_
      obtain ⟨f5, v6, hm27, hf⟩ := q_b2_e hf
      refine q_cV (pc := 27) (As := [.int p3]) (rest := []) (v0 := none) ⟨hx, hb, hml, hown, hts⟩ hK hA hZ hP hD hS hl.1 [0, 1] 2 rfl ⟨rfl, rfl, rfl⟩ (c_M_typed4 l D ci A sa N (Rw) a_m a_m_cutRows a_m_cutColumns a_m_deep a_m_wide a_m_zonesAhead a_m_nameOne a_m_nameOther a_m_tape a_m_edges a_m_dist a_m_queue a_m_pieceLevel a_m_pieceKey a_m_pieceYear a_m_drawnKeys a_m_kept a_m_noNumbers v4 m_place m_fault m_number m_levelRead m_keyRead m_reads m_faults m_cutShort m_noNumber m_bottomLat m_bottomLon m_firstBeside m_manyBeside m_queued m_boxLevel m_boxTop m_boxBottom m_boxWest m_boxEast m_isEarly m_pieces m_states m_drawnNow m_keptAt f3 p3 f5 v6 hm27) 0 rfl rfl (cwV 1 hts gX11_feed_X11_typed4 rfl rfl rfl (by decide +kernel) ⟨Nat.le_of_ble_eq_true rfl, Nat.le_of_ble_eq_true rfl⟩) rfl rfl (Nat.le_of_ble_eq_true rfl) dX11_feed_27 ⟨Nat.zero_le _, Nat.zero_le _⟩ [0, 1] 2 rfl ⟨rfl, rfl, rfl⟩ (fun H locs hP hD hS => ?_)
      obtain ⟨hP, hD⟩ : va_PD D A ((a_m, .inr (11, (.ref a_m_cutRows :: .ref a_m_cutColumns :: .ref a_m_deep :: .ref a_m_wide :: .ref a_m_zonesAhead :: .ref a_m_nameOne :: .ref a_m_nameOther :: .ref a_m_tape :: .int v6 :: .int m_place :: .int m_fault :: .int m_number :: .int m_levelRead :: .int m_keyRead :: .int m_reads :: .int m_faults :: .int m_cutShort :: .int m_noNumber :: .long m_bottomLat :: .long m_bottomLon :: .ref a_m_edges :: .int m_firstBeside :: .int m_manyBeside :: .ref a_m_dist :: .ref a_m_queue :: .int m_queued :: .int m_boxLevel :: .int m_boxTop :: .int m_boxBottom :: .int m_boxWest :: .int m_boxEast :: .int m_isEarly :: .int m_pieces :: .int m_states :: .ref a_m_pieceLevel :: .ref a_m_pieceKey :: .ref a_m_pieceYear :: .int m_drawnNow :: .ref a_m_drawnKeys :: .ref a_m_kept :: .int m_keptAt :: .ref a_m_noNumbers :: []))) :: (a_m_tape, .inl (ci 2, 200, .inl f5)) :: Rw) H := ⟨hP, hD⟩
      refine lv_aload_n (pc := 30) hx hb dX11_feed_30 rfl (lv_at hl 0 rfl) ?_
      refine lv_iload (pc := 31) hx hb dX11_feed_31 (lv_at hl 4 rfl) ?_
      obtain ⟨f7, v8, hm33, hf⟩ := q_b2_e hf
      refine q_cV (pc := 33) (As := [.int p4]) (rest := []) (v0 := none) ⟨hx, hb, hml, hown, hts⟩ hK hA hZ hP hD hS hl.1 [0, 1] 2 rfl ⟨rfl, rfl, rfl⟩ (c_M_typed4 l D ci A sa N (Rw) a_m a_m_cutRows a_m_cutColumns a_m_deep a_m_wide a_m_zonesAhead a_m_nameOne a_m_nameOther a_m_tape a_m_edges a_m_dist a_m_queue a_m_pieceLevel a_m_pieceKey a_m_pieceYear a_m_drawnKeys a_m_kept a_m_noNumbers v6 m_place m_fault m_number m_levelRead m_keyRead m_reads m_faults m_cutShort m_noNumber m_bottomLat m_bottomLon m_firstBeside m_manyBeside m_queued m_boxLevel m_boxTop m_boxBottom m_boxWest m_boxEast m_isEarly m_pieces m_states m_drawnNow m_keptAt f5 p4 f7 v8 hm33) 0 rfl rfl (cwV 1 hts gX11_feed_X11_typed4 rfl rfl rfl (by decide +kernel) ⟨Nat.le_of_ble_eq_true rfl, Nat.le_of_ble_eq_true rfl⟩) rfl rfl (Nat.le_of_ble_eq_true rfl) dX11_feed_33 ⟨Nat.zero_le _, Nat.zero_le _⟩ [0, 1] 2 rfl ⟨rfl, rfl, rfl⟩ (fun H locs hP hD hS => ?_)
      obtain ⟨hP, hD⟩ : va_PD D A ((a_m, .inr (11, (.ref a_m_cutRows :: .ref a_m_cutColumns :: .ref a_m_deep :: .ref a_m_wide :: .ref a_m_zonesAhead :: .ref a_m_nameOne :: .ref a_m_nameOther :: .ref a_m_tape :: .int v8 :: .int m_place :: .int m_fault :: .int m_number :: .int m_levelRead :: .int m_keyRead :: .int m_reads :: .int m_faults :: .int m_cutShort :: .int m_noNumber :: .long m_bottomLat :: .long m_bottomLon :: .ref a_m_edges :: .int m_firstBeside :: .int m_manyBeside :: .ref a_m_dist :: .ref a_m_queue :: .int m_queued :: .int m_boxLevel :: .int m_boxTop :: .int m_boxBottom :: .int m_boxWest :: .int m_boxEast :: .int m_isEarly :: .int m_pieces :: .int m_states :: .ref a_m_pieceLevel :: .ref a_m_pieceKey :: .ref a_m_pieceYear :: .int m_drawnNow :: .ref a_m_drawnKeys :: .ref a_m_kept :: .int m_keptAt :: .ref a_m_noNumbers :: []))) :: (a_m_tape, .inl (ci 2, 200, .inl f7)) :: Rw) H := ⟨hP, hD⟩
      refine lv_aload_n (pc := 36) hx hb dX11_feed_36 rfl (lv_at hl 0 rfl) ?_
      refine lv_iload (pc := 37) hx hb dX11_feed_37 (lv_at hl 5 rfl) ?_
      obtain ⟨f9, v10, hm39, hf⟩ := q_b2_e hf
      refine q_cV (pc := 39) (As := [.int p5]) (rest := []) (v0 := none) ⟨hx, hb, hml, hown, hts⟩ hK hA hZ hP hD hS hl.1 [0, 1] 2 rfl ⟨rfl, rfl, rfl⟩ (c_M_typed4 l D ci A sa N (Rw) a_m a_m_cutRows a_m_cutColumns a_m_deep a_m_wide a_m_zonesAhead a_m_nameOne a_m_nameOther a_m_tape a_m_edges a_m_dist a_m_queue a_m_pieceLevel a_m_pieceKey a_m_pieceYear a_m_drawnKeys a_m_kept a_m_noNumbers v8 m_place m_fault m_number m_levelRead m_keyRead m_reads m_faults m_cutShort m_noNumber m_bottomLat m_bottomLon m_firstBeside m_manyBeside m_queued m_boxLevel m_boxTop m_boxBottom m_boxWest m_boxEast m_isEarly m_pieces m_states m_drawnNow m_keptAt f7 p5 f9 v10 hm39) 0 rfl rfl (cwV 1 hts gX11_feed_X11_typed4 rfl rfl rfl (by decide +kernel) ⟨Nat.le_of_ble_eq_true rfl, Nat.le_of_ble_eq_true rfl⟩) rfl rfl (Nat.le_of_ble_eq_true rfl) dX11_feed_39 ⟨Nat.zero_le _, Nat.zero_le _⟩ [0, 1] 2 rfl ⟨rfl, rfl, rfl⟩ (fun H locs hP hD hS => ?_)
      obtain ⟨hP, hD⟩ : va_PD D A ((a_m, .inr (11, (.ref a_m_cutRows :: .ref a_m_cutColumns :: .ref a_m_deep :: .ref a_m_wide :: .ref a_m_zonesAhead :: .ref a_m_nameOne :: .ref a_m_nameOther :: .ref a_m_tape :: .int v10 :: .int m_place :: .int m_fault :: .int m_number :: .int m_levelRead :: .int m_keyRead :: .int m_reads :: .int m_faults :: .int m_cutShort :: .int m_noNumber :: .long m_bottomLat :: .long m_bottomLon :: .ref a_m_edges :: .int m_firstBeside :: .int m_manyBeside :: .ref a_m_dist :: .ref a_m_queue :: .int m_queued :: .int m_boxLevel :: .int m_boxTop :: .int m_boxBottom :: .int m_boxWest :: .int m_boxEast :: .int m_isEarly :: .int m_pieces :: .int m_states :: .ref a_m_pieceLevel :: .ref a_m_pieceKey :: .ref a_m_pieceYear :: .int m_drawnNow :: .ref a_m_drawnKeys :: .ref a_m_kept :: .int m_keptAt :: .ref a_m_noNumbers :: []))) :: (a_m_tape, .inl (ci 2, 200, .inl f9)) :: Rw) H := ⟨hP, hD⟩
      refine lv_aload_n (pc := 42) hx hb dX11_feed_42 rfl (lv_at hl 0 rfl) ?_
      refine va_get (pc := 43) (D := D) (ci := 11) (v := .int v10) (C := RX11) (T := TX11) (N := 42) hx hb hts hinX11 hown hK hP 0 rfl rfl 8 (by decide) w_1 (fun _ h9 => h9) rfl dX11_feed_43 ?_
      obtain ⟨e90, e91, e92⟩ := q_inj3 (Option.some.inj hf)
      rw [hQ, ← e90, ← e91, ← e92]
      exact q_iret (pc := 46) hx hb hr hlocks hP hD hS dX11_feed_46
    · refine lv_iconst (pc := 13) (v := (-1)) hx hb dX11_feed_13 (by decide) ?_
      obtain ⟨e90, e91, e92⟩ := q_inj3 (Option.some.inj hf)
      rw [hQ, ← e90, ← e91, ← e92]
      exact q_iret (pc := 14) hx hb hr hlocks hP hD hS dX11_feed_14
  exact hgo _ _ rfl hP hS
/-! X11_isAnyYear -/
set_option maxRecDepth 100000 in
set_option maxHeartbeats 4000000 in
theorem c_M_isAnyYear (l : Launch) (D : va_G) (ci : Nat → ClassId) (A : Nat → Prop) (sa : Nat → Nat) (N : Nat) (Rw : va_W) (p1 : Int32) (r : Int32) (hf : f_M_isAnyYear p1 = some r) : Met l yX11_isAnyYear wsX11_isAnyYear ({ frames := 1, cells := 0, slots := 0, locals := 25 }) (va_Pc [.int p1] (q_N D ci A sa (Rw))) (q_R (some (.int r))) 0 0 A := by
  refine q_ofW (cc := cX11_isAnyYear) (maxL := 1) (ret := (some .boolean)) [.int p1] (plainFor_of_name (by decide)) rfl (Nat.le_of_ble_eq_true rfl) ?_
  intro p e s m below meth c ls Q hQ hx hb hml hr hts hown hlocks hK hA hZ hP hD hS hl
  have hl : lv_has ls 1 [(0, .int p1)] := hl
  have hown : s.vm.findClass RX11 = some m.cls := hown
  have w_1 := hts (Cond.constantLong RX11 403 (2100)) (List.mem_cons_of_mem _ t_w987)
  unfold f_M_isAnyYear at hf
  have hgo : ∀ (H : Heap) (locs : List Loc), H = s.heap → va_P D vwCl (Rw) H → va_S A s.heap H locs → W p l e ({ frames := 1, cells := 0, slots := 0, locals := 25 } : Room) s m ([.int p1] : List Value).toArray below meth c H locs 0 0 Q (F0 m 0 ls []) := by
    intro H locs hH hP hS
    subst hH
    refine lv_iload_n (pc := 0) hx hb dX11_isAnyYear_0 rfl (lv_at hl 0 rfl) ?_
    refine lv_i2l (pc := 1) hx hb dX11_isAnyYear_1 rfl ?_
    refine lv_lconst (pc := 2) (v := 0) hx hb dX11_isAnyYear_2 (by decide) ?_
    refine lv_ldc2 (pc := 3) (v := 2100) hx hb hown w_1 dX11_isAnyYear_3 ?_
    obtain ⟨v1, hm6, hf⟩ := q_b1_e hf
    refine q_cSr (pc := 6) (As := [.long p1.toInt64, .long 0, .long 2100]) (rest := []) (v0 := (some (.int v1))) ⟨hx, hb, hml, hown, hts⟩ hK hA hZ hP hD hS hl.1 [] 0 rfl ⟨rfl, rfl, rfl⟩ (c_M_in l D ci A sa N (Rw) p1.toInt64 0 2100 v1 hm6) (va_cwS 3 hts gX11_isAnyYear_X11_in rfl rfl rfl (by decide +kernel) ⟨Nat.le_of_ble_eq_true rfl, Nat.le_of_ble_eq_true rfl⟩) rfl rfl (Nat.le_of_ble_eq_true rfl) dX11_isAnyYear_6 ⟨Nat.zero_le _, Nat.zero_le _⟩ (fun locs hS => ?_)
    obtain ⟨hn9, hf9, hf⟩ := q_bo_e hf
    obtain rfl := Option.some.inj hf
    rw [hQ]
    exact q_zretr (pc := 9) hx hb hr hn9 hlocks rfl hS dX11_isAnyYear_9
  exact hgo _ _ rfl hP hS
/-! X11_shownOf -/
set_option maxRecDepth 100000 in
set_option maxHeartbeats 4000000 in
theorem c_M_shownOf (l : Launch) (D : va_G) (ci : Nat → ClassId) (A : Nat → Prop) (sa : Nat → Nat) (N : Nat) (Rw : va_W) (a_m : Nat) (a_m_cutRows : Nat) (a_m_cutColumns : Nat) (a_m_deep : Nat) (a_m_wide : Nat) (a_m_zonesAhead : Nat) (a_m_nameOne : Nat) (a_m_nameOther : Nat) (a_m_tape : Nat) (a_m_edges : Nat) (a_m_dist : Nat) (a_m_queue : Nat) (a_m_pieceLevel : Nat) (a_m_pieceKey : Nat) (a_m_pieceYear : Nat) (a_m_drawnKeys : Nat) (a_m_kept : Nat) (a_m_noNumbers : Nat) (m_taped : Int32) (m_place : Int32) (m_fault : Int32) (m_number : Int32) (m_levelRead : Int32) (m_keyRead : Int32) (m_reads : Int32) (m_faults : Int32) (m_cutShort : Int32) (m_noNumber : Int32) (m_bottomLat : Int64) (m_bottomLon : Int64) (m_firstBeside : Int32) (m_manyBeside : Int32) (m_queued : Int32) (m_boxLevel : Int32) (m_boxTop : Int32) (m_boxBottom : Int32) (m_boxWest : Int32) (m_boxEast : Int32) (m_isEarly : Int32) (m_pieces : Int32) (m_states : Int32) (m_drawnNow : Int32) (m_keptAt : Int32) (m_deep : Nat → Int32) (m_wide : Nat → Int32) (m_zonesAhead : Nat → Int32) (m_pieceLevel : Nat → Int32) (m_pieceKey : Nat → Int32) (m_pieceYear : Nat → Int32) (p1 : Int32) (p2 : Int32) (p3 : Int32) (r : Int32) (hf : f_M_shownOf N m_deep m_wide m_zonesAhead m_pieces m_pieceLevel m_pieceKey m_pieceYear p1 p2 p3 = some r) : Met l yX11_shownOf wsX11_shownOf ({ frames := 4, cells := 0, slots := 0, locals := 90 }) (va_Pc [.ref a_m, .int p1, .int p2, .int p3] (q_N D ci A sa ((a_m, .inr (11, (.ref a_m_cutRows :: .ref a_m_cutColumns :: .ref a_m_deep :: .ref a_m_wide :: .ref a_m_zonesAhead :: .ref a_m_nameOne :: .ref a_m_nameOther :: .ref a_m_tape :: .int m_taped :: .int m_place :: .int m_fault :: .int m_number :: .int m_levelRead :: .int m_keyRead :: .int m_reads :: .int m_faults :: .int m_cutShort :: .int m_noNumber :: .long m_bottomLat :: .long m_bottomLon :: .ref a_m_edges :: .int m_firstBeside :: .int m_manyBeside :: .ref a_m_dist :: .ref a_m_queue :: .int m_queued :: .int m_boxLevel :: .int m_boxTop :: .int m_boxBottom :: .int m_boxWest :: .int m_boxEast :: .int m_isEarly :: .int m_pieces :: .int m_states :: .ref a_m_pieceLevel :: .ref a_m_pieceKey :: .ref a_m_pieceYear :: .int m_drawnNow :: .ref a_m_drawnKeys :: .ref a_m_kept :: .int m_keptAt :: .ref a_m_noNumbers :: []))) :: (a_m_deep, .inl (ci 0, 5, .inl m_deep)) :: (a_m_wide, .inl (ci 0, 5, .inl m_wide)) :: (a_m_zonesAhead, .inl (ci 0, 45, .inl m_zonesAhead)) :: (a_m_pieceLevel, .inl (ci 0, 60, .inl m_pieceLevel)) :: (a_m_pieceKey, .inl (ci 0, 60, .inl m_pieceKey)) :: (a_m_pieceYear, .inl (ci 0, 60, .inl m_pieceYear)) :: Rw))) (q_R (some (.int r))) 0 0 A := by
  refine q_ofW (cc := cX11_shownOf) (maxL := 8) (ret := (some .int)) [.ref a_m, .int p1, .int p2, .int p3] (plainFor_of_name (by decide)) rfl (Nat.le_of_ble_eq_true rfl) ?_
  intro p e s m below meth c ls Q hQ hx hb hml hr hts hown hlocks hK hA hZ hP hD hS hl
  have hl : lv_has ls 8 [(0, .ref a_m), (1, .int p1), (2, .int p2), (3, .int p3)] := hl
  have hown : s.vm.findClass RX11 = some m.cls := hown
  have hinX11 : ∀ w ∈ wsX110, w ∈ wsX11_shownOf := fun _ h => List.mem_cons_of_mem _ (inWX110 _ h)
  have w_1 := hts (Cond.fieldLink RX11 123 "SheetNamesModel" "pieces" "I") (List.mem_cons_of_mem _ t_w972)
  have w_2 := hts (Cond.fieldLink RX11 45 "SheetNamesModel" "pieceLevel" "[I") (List.mem_cons_of_mem _ t_w982)
  have w_3 := hts (Cond.fieldLink RX11 48 "SheetNamesModel" "pieceKey" "[I") (List.mem_cons_of_mem _ t_w983)
  have w_4 := hts (Cond.fieldLink RX11 51 "SheetNamesModel" "pieceYear" "[I") (List.mem_cons_of_mem _ t_w984)
  unfold f_M_shownOf at hf
  have hgo : ∀ (H : Heap) (locs : List Loc), H = s.heap → va_P D vwCl ((a_m, .inr (11, (.ref a_m_cutRows :: .ref a_m_cutColumns :: .ref a_m_deep :: .ref a_m_wide :: .ref a_m_zonesAhead :: .ref a_m_nameOne :: .ref a_m_nameOther :: .ref a_m_tape :: .int m_taped :: .int m_place :: .int m_fault :: .int m_number :: .int m_levelRead :: .int m_keyRead :: .int m_reads :: .int m_faults :: .int m_cutShort :: .int m_noNumber :: .long m_bottomLat :: .long m_bottomLon :: .ref a_m_edges :: .int m_firstBeside :: .int m_manyBeside :: .ref a_m_dist :: .ref a_m_queue :: .int m_queued :: .int m_boxLevel :: .int m_boxTop :: .int m_boxBottom :: .int m_boxWest :: .int m_boxEast :: .int m_isEarly :: .int m_pieces :: .int m_states :: .ref a_m_pieceLevel :: .ref a_m_pieceKey :: .ref a_m_pieceYear :: .int m_drawnNow :: .ref a_m_drawnKeys :: .ref a_m_kept :: .int m_keptAt :: .ref a_m_noNumbers :: []))) :: (a_m_deep, .inl (ci 0, 5, .inl m_deep)) :: (a_m_wide, .inl (ci 0, 5, .inl m_wide)) :: (a_m_zonesAhead, .inl (ci 0, 45, .inl m_zonesAhead)) :: (a_m_pieceLevel, .inl (ci 0, 60, .inl m_pieceLevel)) :: (a_m_pieceKey, .inl (ci 0, 60, .inl m_pieceKey)) :: (a_m_pieceYear, .inl (ci 0, 60, .inl m_pieceYear)) :: Rw) H → va_S A s.heap H locs → W p l e ({ frames := 4, cells := 0, slots := 0, locals := 90 } : Room) s m ([.ref a_m, .int p1, .int p2, .int p3] : List Value).toArray below meth c H locs 0 0 Q (F0 m 0 ls []) := by
    intro H locs hH hP hS
    subst hH
    refine lv_iconst (pc := 0) (v := 0) hx hb dX11_shownOf_0 (by decide) ?_
    obtain ⟨v1, ev1, hf⟩ := q_nm_e hf
    refine q_topi ev1 ?_
    refine lv_istore (pc := 1) (lv' := [(4, .int v1), (0, .ref a_m), (1, .int p1), (2, .int p2), (3, .int p3)]) hx hb dX11_shownOf_1 hl (by decide) rfl (fun ls hl => ?_)
    refine lv_bipush (pc := 3) (v := (-2)) hx hb dX11_shownOf_3 (by decide) ?_
    obtain ⟨v2, ev2, hf⟩ := q_nm_e hf
    refine q_topi ev2 ?_
    refine lv_istore (pc := 5) (lv' := [(5, .int v2), (4, .int v1), (0, .ref a_m), (1, .int p1), (2, .int p2), (3, .int p3)]) hx hb dX11_shownOf_5 hl (by decide) rfl (fun ls hl => ?_)
    refine lv_bipush (pc := 7) (v := (-2)) hx hb dX11_shownOf_7 (by decide) ?_
    obtain ⟨v3, ev3, hf⟩ := q_nm_e hf
    refine q_topi ev3 ?_
    refine lv_istore (pc := 9) (lv' := [(6, .int v3), (5, .int v2), (4, .int v1), (0, .ref a_m), (1, .int p1), (2, .int p2), (3, .int p3)]) hx hb dX11_shownOf_9 hl (by decide) rfl (fun ls hl => ?_)
    refine lv_iconst (pc := 11) (v := 0) hx hb dX11_shownOf_11 (by decide) ?_
    obtain ⟨v4, ev4, hf⟩ := q_nm_e hf
    refine q_topi ev4 ?_
    refine lv_istore (pc := 12) (lv' := [(7, .int v4), (6, .int v3), (5, .int v2), (4, .int v1), (0, .ref a_m), (1, .int p1), (2, .int p2), (3, .int p3)]) hx hb dX11_shownOf_12 hl (by decide) rfl (fun ls hl => ?_)
    obtain ⟨v9, v10, v11, hm14, hf⟩ := q_b3_e hf
    have JE14 : ∀ (H : Heap) (locs : List Loc) (ls : Array Slot), H = s.heap → va_S A s.heap H locs → lv_has ls 8 [(3, .int p3), (4, .int v9), (5, .int v10), (6, .int v11)] → W p l e ({ frames := 4, cells := 0, slots := 0, locals := 90 } : Room) s m ([.ref a_m, .int p1, .int p2, .int p3] : List Value).toArray below meth c H locs 0 0 Q (F0 m 96 ls []) := by
      intro H locs ls hHs hS hl
      subst hHs
      refine lv_iload_n (pc := 96) hx hb dX11_shownOf_96 rfl (lv_at hl 0 rfl) ?_
      refine q_if_ne (pc := 97) (tgt := 105) hx hb dX11_shownOf_97 (by decide) rfl hf (fun hf => ?_) (fun hf => ?_)
      · refine lv_iload_n (pc := 105) hx hb dX11_shownOf_105 rfl (lv_at hl 0 rfl) ?_
        refine lv_iconst (pc := 106) (v := 1) hx hb dX11_shownOf_106 (by decide) ?_
        refine q_icmp_ne (pc := 107) (tgt := 115) hx hb dX11_shownOf_107 (by decide) rfl hf (fun hf => ?_) (fun hf => ?_)
        · refine lv_iload (pc := 115) hx hb dX11_shownOf_115 (lv_at hl 3 rfl) ?_
          obtain rfl := Option.some.inj hf
          rw [hQ]
          exact q_iretr (pc := 117) hx hb hr hlocks rfl hS dX11_shownOf_117
        · refine lv_iload (pc := 110) hx hb dX11_shownOf_110 (lv_at hl 2 rfl) ?_
          refine lv_goto (pc := 112) (tgt := 117) hx hb dX11_shownOf_112 (by decide) ?_
          obtain rfl := Option.some.inj hf
          rw [hQ]
          exact q_iretr (pc := 117) hx hb hr hlocks rfl hS dX11_shownOf_117
      · refine lv_iload (pc := 100) hx hb dX11_shownOf_100 (lv_at hl 1 rfl) ?_
        refine lv_goto (pc := 102) (tgt := 117) hx hb dX11_shownOf_102 (by decide) ?_
        obtain rfl := Option.some.inj hf
        rw [hQ]
        exact q_iretr (pc := 117) hx hb hr hlocks rfl hS dX11_shownOf_117
    have LP14 : ∀ (n14 : Nat) (v5 : Int32) (v6 : Int32) (v7 : Int32) (v8 : Int32) (H : Heap) (locs : List Loc) (ls : Array Slot), f_M_shownOf_L14 m_deep m_pieceKey m_pieceLevel m_pieceYear m_pieces m_wide m_zonesAhead p1 p2 n14 v5 v6 v7 v8 = some (v9, v10, v11) → H = s.heap → va_S A s.heap H locs → lv_has ls 8 [(0, .ref a_m), (1, .int p1), (2, .int p2), (3, .int p3), (4, .int v5), (5, .int v6), (6, .int v7), (7, .int v8)] → W p l e ({ frames := 4, cells := 0, slots := 0, locals := 90 } : Room) s m ([.ref a_m, .int p1, .int p2, .int p3] : List Value).toArray below meth c H locs 0 0 Q (F0 m 14 ls []) := by
      intro n14
      induction n14 with
      | zero => intro v5 v6 v7 v8 H locs ls hf; rw [f_M_shownOf_L14] at hf; cases hf
      | succ n14 ih14 =>
        intro v5 v6 v7 v8 H locs ls hf hHs hS hl
        subst hHs
        rw [f_M_shownOf_L14] at hf
        refine lv_iload (pc := 14) hx hb dX11_shownOf_14 (lv_at hl 7 rfl) ?_
        refine lv_aload_n (pc := 16) hx hb dX11_shownOf_16 rfl (lv_at hl 0 rfl) ?_
        refine va_get (pc := 17) (D := D) (ci := 11) (v := .int m_pieces) (C := RX11) (T := TX11) (N := 42) hx hb hts hinX11 hown hK hP 0 rfl rfl 32 (by decide) w_1 (fun _ h9 => h9) rfl dX11_shownOf_17 ?_
        refine q_icmp_ge (pc := 20) (tgt := 96) hx hb dX11_shownOf_20 (by decide) rfl hf (fun hf => ?_) (fun hf => ?_)
        · obtain ⟨rfl, rfl, rfl⟩ := q_inj3 (Option.some.inj hf)
          exact JE14 _ _ _ rfl hS (lv_sub hl [3, 4, 5, 6] rfl)
        · refine lv_aload_n (pc := 23) hx hb dX11_shownOf_23 rfl (lv_at hl 0 rfl) ?_
          refine lv_iload_n (pc := 24) hx hb dX11_shownOf_24 rfl (lv_at hl 1 rfl) ?_
          refine lv_iload_n (pc := 25) hx hb dX11_shownOf_25 rfl (lv_at hl 2 rfl) ?_
          refine lv_aload_n (pc := 26) hx hb dX11_shownOf_26 rfl (lv_at hl 0 rfl) ?_
          refine va_get (pc := 27) (D := D) (ci := 11) (v := .ref a_m_pieceLevel) (C := RX11) (T := TX11) (N := 42) hx hb hts hinX11 hown hK hP 0 rfl rfl 34 (by decide) w_2 (fun _ h9 => h9) rfl dX11_shownOf_27 ?_
          refine lv_iload (pc := 30) hx hb dX11_shownOf_30 (lv_at hl 7 rfl) ?_
          refine q_iald (pc := 32) hx hb hK hP 4 0 hf rfl rfl dX11_shownOf_32 (fun v12 hf => ?_)
          obtain ⟨v13, hm33, hf⟩ := q_b1_e hf
          refine q_cVr (pc := 33) (As := [.int p1, .int p2, .int v12]) (rest := []) (v0 := (some (.int v13))) ⟨hx, hb, hml, hown, hts⟩ hK hA hZ hP hD hS hl.1 [0, 1, 2, 3] 7 rfl ⟨rfl, rfl, rfl⟩ (c_M_keyAtPlace l D ci A sa N (Rw) a_m a_m_cutRows a_m_cutColumns a_m_deep a_m_wide a_m_zonesAhead a_m_nameOne a_m_nameOther a_m_tape a_m_edges a_m_dist a_m_queue a_m_pieceLevel a_m_pieceKey a_m_pieceYear a_m_drawnKeys a_m_kept a_m_noNumbers m_taped m_place m_fault m_number m_levelRead m_keyRead m_reads m_faults m_cutShort m_noNumber m_bottomLat m_bottomLon m_firstBeside m_manyBeside m_queued m_boxLevel m_boxTop m_boxBottom m_boxWest m_boxEast m_isEarly m_pieces m_states m_drawnNow m_keptAt m_deep m_wide m_zonesAhead p1 p2 v12 v13 hm33) 0 rfl rfl (cwV 3 hts gX11_shownOf_X11_keyAtPlace rfl rfl rfl (by decide +kernel) ⟨Nat.le_of_ble_eq_true rfl, Nat.le_of_ble_eq_true rfl⟩) rfl rfl (Nat.le_of_ble_eq_true rfl) dX11_shownOf_33 ⟨Nat.zero_le _, Nat.zero_le _⟩ (fun locs hS => ?_)
          refine lv_aload_n (pc := 36) hx hb dX11_shownOf_36 rfl (lv_at hl 0 rfl) ?_
          refine va_get (pc := 37) (D := D) (ci := 11) (v := .ref a_m_pieceKey) (C := RX11) (T := TX11) (N := 42) hx hb hts hinX11 hown hK hP 0 rfl rfl 35 (by decide) w_3 (fun _ h9 => h9) rfl dX11_shownOf_37 ?_
          refine lv_iload (pc := 40) hx hb dX11_shownOf_40 (lv_at hl 7 rfl) ?_
          refine q_iald (pc := 42) hx hb hK hP 5 0 hf rfl rfl dX11_shownOf_42 (fun v14 hf => ?_)
          obtain ⟨k90, ek90, hf⟩ := q_j3_e hf
          have J90 : ∀ (v15 : Int32) (v16 : Int32) (v17 : Int32) (H : Heap) (locs : List Loc) (ls : Array Slot), k90 v15 v16 v17 = some (v9, v10, v11) → H = s.heap → va_S A s.heap H locs → lv_has ls 8 [(0, .ref a_m), (1, .int p1), (2, .int p2), (3, .int p3), (4, .int v15), (5, .int v16), (6, .int v17), (7, .int v8)] → W p l e ({ frames := 4, cells := 0, slots := 0, locals := 90 } : Room) s m ([.ref a_m, .int p1, .int p2, .int p3] : List Value).toArray below meth c H locs 0 0 Q (F0 m 90 ls []) := by
            intro v15 v16 v17 H locs ls hf hHs hS hl
            subst hHs
            have hf := (ek90 v15 v16 v17).symm.trans hf
            obtain ⟨v18, ev18, hf⟩ := q_nm_e hf
            refine lv_iinc (pc := 90) (v := v18) (lv' := [(7, .int v18), (0, .ref a_m), (1, .int p1), (2, .int p2), (3, .int p3), (4, .int v15), (5, .int v16), (6, .int v17)]) hx hb dX11_shownOf_90 hl (k := 7) rfl (by rw [ev18]; rfl) (by decide) rfl (fun ls hl => ?_)
            refine lv_goto (pc := 93) (tgt := 14) hx hb dX11_shownOf_93 (by decide) ?_
            exact ih14 v15 v16 v17 v18 _ _ _ hf rfl hS (lv_sub hl [1, 2, 3, 4, 5, 6, 7, 0] rfl)
          refine q_icmp_eq (pc := 43) (tgt := 49) hx hb dX11_shownOf_43 (by decide) rfl hf (fun hf => ?_) (fun hf => ?_)
          · refine lv_iload (pc := 49) hx hb dX11_shownOf_49 (lv_at hl 4 rfl) ?_
            refine lv_iconst (pc := 51) (v := 1) hx hb dX11_shownOf_51 (by decide) ?_
            refine lv_iadd (pc := 52) hx hb dX11_shownOf_52 ?_
            obtain ⟨v19, ev19, hf⟩ := q_nm_e hf
            refine q_topi ev19 ?_
            refine lv_istore (pc := 53) (lv' := [(4, .int v19), (0, .ref a_m), (1, .int p1), (2, .int p2), (3, .int p3), (5, .int v6), (6, .int v7), (7, .int v8)]) hx hb dX11_shownOf_53 hl (by decide) rfl (fun ls hl => ?_)
            refine lv_aload_n (pc := 55) hx hb dX11_shownOf_55 rfl (lv_at hl 1 rfl) ?_
            refine va_get (pc := 56) (D := D) (ci := 11) (v := .ref a_m_pieceLevel) (C := RX11) (T := TX11) (N := 42) hx hb hts hinX11 hown hK hP 0 rfl rfl 34 (by decide) w_2 (fun _ h9 => h9) rfl dX11_shownOf_56 ?_
            refine lv_iload (pc := 59) hx hb dX11_shownOf_59 (lv_at hl 7 rfl) ?_
            refine q_iald (pc := 61) hx hb hK hP 4 0 hf rfl rfl dX11_shownOf_61 (fun v20 hf => ?_)
            refine lv_istore (pc := 62) (lv' := [(5, .int v20), (4, .int v19), (0, .ref a_m), (1, .int p1), (2, .int p2), (3, .int p3), (6, .int v7), (7, .int v8)]) hx hb dX11_shownOf_62 hl (by decide) rfl (fun ls hl => ?_)
            refine lv_aload_n (pc := 64) hx hb dX11_shownOf_64 rfl (lv_at hl 2 rfl) ?_
            refine va_get (pc := 65) (D := D) (ci := 11) (v := .ref a_m_pieceYear) (C := RX11) (T := TX11) (N := 42) hx hb hts hinX11 hown hK hP 0 rfl rfl 36 (by decide) w_4 (fun _ h9 => h9) rfl dX11_shownOf_65 ?_
            refine lv_iload (pc := 68) hx hb dX11_shownOf_68 (lv_at hl 7 rfl) ?_
            refine q_iald (pc := 70) hx hb hK hP 6 0 hf rfl rfl dX11_shownOf_70 (fun v21 hf => ?_)
            refine lv_iload (pc := 71) hx hb dX11_shownOf_71 (lv_at hl 6 rfl) ?_
            obtain ⟨k88, ek88, hf⟩ := q_j1_e hf
            have J88 : ∀ (v22 : Int32) (H : Heap) (locs : List Loc) (ls : Array Slot), k88 v22 = some (v9, v10, v11) → H = s.heap → va_S A s.heap H locs → lv_has ls 8 [(0, .ref a_m), (1, .int p1), (2, .int p2), (3, .int p3), (4, .int v19), (5, .int v20), (7, .int v8)] → W p l e ({ frames := 4, cells := 0, slots := 0, locals := 90 } : Room) s m ([.ref a_m, .int p1, .int p2, .int p3] : List Value).toArray below meth c H locs 0 0 Q (F0 m 88 ls [.int v22]) := by
              intro v22 H locs ls hf hHs hS hl
              subst hHs
              have hf := (ek88 v22).symm.trans hf
              refine lv_istore (pc := 88) (lv' := [(6, .int v22), (0, .ref a_m), (1, .int p1), (2, .int p2), (3, .int p3), (4, .int v19), (5, .int v20), (7, .int v8)]) hx hb dX11_shownOf_88 hl (by decide) rfl (fun ls hl => ?_)
              exact J90 v19 v20 v22 _ _ _ hf rfl hS (lv_sub hl [1, 2, 3, 4, 5, 6, 0, 7] rfl)
            refine q_icmp_le (pc := 73) (tgt := 86) hx hb dX11_shownOf_73 (by decide) rfl hf (fun hf => ?_) (fun hf => ?_)
            · refine lv_iload (pc := 86) hx hb dX11_shownOf_86 (lv_at hl 6 rfl) ?_
              exact J88 v7 _ _ _ hf rfl hS (lv_sub hl [2, 3, 4, 5, 1, 0, 7] rfl)
            · refine lv_aload_n (pc := 76) hx hb dX11_shownOf_76 rfl (lv_at hl 2 rfl) ?_
              refine va_get (pc := 77) (D := D) (ci := 11) (v := .ref a_m_pieceYear) (C := RX11) (T := TX11) (N := 42) hx hb hts hinX11 hown hK hP 0 rfl rfl 36 (by decide) w_4 (fun _ h9 => h9) rfl dX11_shownOf_77 ?_
              refine lv_iload (pc := 80) hx hb dX11_shownOf_80 (lv_at hl 7 rfl) ?_
              refine q_iald (pc := 82) hx hb hK hP 6 0 hf rfl rfl dX11_shownOf_82 (fun v23 hf => ?_)
              refine lv_goto (pc := 83) (tgt := 88) hx hb dX11_shownOf_83 (by decide) ?_
              exact J88 v23 _ _ _ hf rfl hS (lv_sub hl [2, 3, 4, 5, 1, 0, 7] rfl)
          · refine lv_goto (pc := 46) (tgt := 90) hx hb dX11_shownOf_46 (by decide) ?_
            exact J90 v5 v6 v7 _ _ _ hf rfl hS (lv_sub hl [0, 1, 2, 3, 4, 5, 6, 7] rfl)
    exact LP14 N v1 v2 v3 v4 _ _ _ hm14 rfl hS (lv_sub hl [4, 5, 6, 7, 3, 2, 1, 0] rfl)
  exact hgo _ _ rfl hP hS
/-! X11_isLacking -/
set_option maxRecDepth 100000 in
set_option maxHeartbeats 4000000 in
theorem c_M_isLacking (l : Launch) (D : va_G) (ci : Nat → ClassId) (A : Nat → Prop) (sa : Nat → Nat) (N : Nat) (Rw : va_W) (a_m : Nat) (a_m_cutRows : Nat) (a_m_cutColumns : Nat) (a_m_deep : Nat) (a_m_wide : Nat) (a_m_zonesAhead : Nat) (a_m_nameOne : Nat) (a_m_nameOther : Nat) (a_m_tape : Nat) (a_m_edges : Nat) (a_m_dist : Nat) (a_m_queue : Nat) (a_m_pieceLevel : Nat) (a_m_pieceKey : Nat) (a_m_pieceYear : Nat) (a_m_drawnKeys : Nat) (a_m_kept : Nat) (a_m_noNumbers : Nat) (m_taped : Int32) (m_place : Int32) (m_fault : Int32) (m_number : Int32) (m_levelRead : Int32) (m_keyRead : Int32) (m_reads : Int32) (m_faults : Int32) (m_cutShort : Int32) (m_noNumber : Int32) (m_bottomLat : Int64) (m_bottomLon : Int64) (m_firstBeside : Int32) (m_manyBeside : Int32) (m_queued : Int32) (m_boxLevel : Int32) (m_boxTop : Int32) (m_boxBottom : Int32) (m_boxWest : Int32) (m_boxEast : Int32) (m_isEarly : Int32) (m_pieces : Int32) (m_states : Int32) (m_drawnNow : Int32) (m_keptAt : Int32) (m_deep : Nat → Int32) (m_wide : Nat → Int32) (m_zonesAhead : Nat → Int32) (m_edges : Nat → Int64) (m_pieceLevel : Nat → Int32) (m_pieceKey : Nat → Int32) (m_pieceYear : Nat → Int32) (p1 : Int32) (p2 : Int32) (p3 : Int32) (r : Int32) (o1 : Int64) (o2 : Int64) (o3 : Nat → Int64) (hf : f_M_isLacking N m_deep m_wide m_zonesAhead m_bottomLat m_bottomLon m_edges m_pieces m_pieceLevel m_pieceKey m_pieceYear p1 p2 p3 = some (r, o1, o2, o3)) : Met l yX11_isLacking wsX11_isLacking ({ frames := 6, cells := 0, slots := 0, locals := 134 }) (va_Pc [.ref a_m, .int p1, .int p2, .int p3] (q_N D ci A sa ((a_m, .inr (11, (.ref a_m_cutRows :: .ref a_m_cutColumns :: .ref a_m_deep :: .ref a_m_wide :: .ref a_m_zonesAhead :: .ref a_m_nameOne :: .ref a_m_nameOther :: .ref a_m_tape :: .int m_taped :: .int m_place :: .int m_fault :: .int m_number :: .int m_levelRead :: .int m_keyRead :: .int m_reads :: .int m_faults :: .int m_cutShort :: .int m_noNumber :: .long m_bottomLat :: .long m_bottomLon :: .ref a_m_edges :: .int m_firstBeside :: .int m_manyBeside :: .ref a_m_dist :: .ref a_m_queue :: .int m_queued :: .int m_boxLevel :: .int m_boxTop :: .int m_boxBottom :: .int m_boxWest :: .int m_boxEast :: .int m_isEarly :: .int m_pieces :: .int m_states :: .ref a_m_pieceLevel :: .ref a_m_pieceKey :: .ref a_m_pieceYear :: .int m_drawnNow :: .ref a_m_drawnKeys :: .ref a_m_kept :: .int m_keptAt :: .ref a_m_noNumbers :: []))) :: (a_m_deep, .inl (ci 0, 5, .inl m_deep)) :: (a_m_wide, .inl (ci 0, 5, .inl m_wide)) :: (a_m_zonesAhead, .inl (ci 0, 45, .inl m_zonesAhead)) :: (a_m_edges, .inl (ci 1, 4, .inr (.inl m_edges))) :: (a_m_pieceLevel, .inl (ci 0, 60, .inl m_pieceLevel)) :: (a_m_pieceKey, .inl (ci 0, 60, .inl m_pieceKey)) :: (a_m_pieceYear, .inl (ci 0, 60, .inl m_pieceYear)) :: Rw))) (q_Q (some (.int r)) (q_O D A ((a_m, .inr (11, (.ref a_m_cutRows :: .ref a_m_cutColumns :: .ref a_m_deep :: .ref a_m_wide :: .ref a_m_zonesAhead :: .ref a_m_nameOne :: .ref a_m_nameOther :: .ref a_m_tape :: .int m_taped :: .int m_place :: .int m_fault :: .int m_number :: .int m_levelRead :: .int m_keyRead :: .int m_reads :: .int m_faults :: .int m_cutShort :: .int m_noNumber :: .long o1 :: .long o2 :: .ref a_m_edges :: .int m_firstBeside :: .int m_manyBeside :: .ref a_m_dist :: .ref a_m_queue :: .int m_queued :: .int m_boxLevel :: .int m_boxTop :: .int m_boxBottom :: .int m_boxWest :: .int m_boxEast :: .int m_isEarly :: .int m_pieces :: .int m_states :: .ref a_m_pieceLevel :: .ref a_m_pieceKey :: .ref a_m_pieceYear :: .int m_drawnNow :: .ref a_m_drawnKeys :: .ref a_m_kept :: .int m_keptAt :: .ref a_m_noNumbers :: []))) :: (a_m_deep, .inl (ci 0, 5, .inl m_deep)) :: (a_m_wide, .inl (ci 0, 5, .inl m_wide)) :: (a_m_zonesAhead, .inl (ci 0, 45, .inl m_zonesAhead)) :: (a_m_edges, .inl (ci 1, 4, .inr (.inl o3))) :: (a_m_pieceLevel, .inl (ci 0, 60, .inl m_pieceLevel)) :: (a_m_pieceKey, .inl (ci 0, 60, .inl m_pieceKey)) :: (a_m_pieceYear, .inl (ci 0, 60, .inl m_pieceYear)) :: Rw)) A) 0 0 A := by
  refine q_ofW (cc := cX11_isLacking) (maxL := 5) (ret := (some .boolean)) [.ref a_m, .int p1, .int p2, .int p3] (plainFor_of_name (by decide)) rfl (Nat.le_of_ble_eq_true rfl) ?_
  intro p e s m below meth c ls Q hQ hx hb hml hr hts hown hlocks hK hA hZ hP hD hS hl
  have hl : lv_has ls 5 [(0, .ref a_m), (1, .int p1), (2, .int p2), (3, .int p3)] := hl
  have hown : s.vm.findClass RX11 = some m.cls := hown
  unfold f_M_isLacking at hf
  have hgo : ∀ (H : Heap) (locs : List Loc), H = s.heap → va_P D vwCl ((a_m, .inr (11, (.ref a_m_cutRows :: .ref a_m_cutColumns :: .ref a_m_deep :: .ref a_m_wide :: .ref a_m_zonesAhead :: .ref a_m_nameOne :: .ref a_m_nameOther :: .ref a_m_tape :: .int m_taped :: .int m_place :: .int m_fault :: .int m_number :: .int m_levelRead :: .int m_keyRead :: .int m_reads :: .int m_faults :: .int m_cutShort :: .int m_noNumber :: .long m_bottomLat :: .long m_bottomLon :: .ref a_m_edges :: .int m_firstBeside :: .int m_manyBeside :: .ref a_m_dist :: .ref a_m_queue :: .int m_queued :: .int m_boxLevel :: .int m_boxTop :: .int m_boxBottom :: .int m_boxWest :: .int m_boxEast :: .int m_isEarly :: .int m_pieces :: .int m_states :: .ref a_m_pieceLevel :: .ref a_m_pieceKey :: .ref a_m_pieceYear :: .int m_drawnNow :: .ref a_m_drawnKeys :: .ref a_m_kept :: .int m_keptAt :: .ref a_m_noNumbers :: []))) :: (a_m_deep, .inl (ci 0, 5, .inl m_deep)) :: (a_m_wide, .inl (ci 0, 5, .inl m_wide)) :: (a_m_zonesAhead, .inl (ci 0, 45, .inl m_zonesAhead)) :: (a_m_edges, .inl (ci 1, 4, .inr (.inl m_edges))) :: (a_m_pieceLevel, .inl (ci 0, 60, .inl m_pieceLevel)) :: (a_m_pieceKey, .inl (ci 0, 60, .inl m_pieceKey)) :: (a_m_pieceYear, .inl (ci 0, 60, .inl m_pieceYear)) :: Rw) H → va_S A s.heap H locs → W p l e ({ frames := 6, cells := 0, slots := 0, locals := 134 } : Room) s m ([.ref a_m, .int p1, .int p2, .int p3] : List Value).toArray below meth c H locs 0 0 Q (F0 m 0 ls []) := by
    intro H locs hH hP hS
    refine lv_aload_n (pc := 0) hx hb dX11_isLacking_0 rfl (lv_at hl 0 rfl) ?_
    refine lv_aload_n (pc := 1) hx hb dX11_isLacking_1 rfl (lv_at hl 0 rfl) ?_
    refine lv_iload_n (pc := 2) hx hb dX11_isLacking_2 rfl (lv_at hl 1 rfl) ?_
    refine lv_iload_n (pc := 3) hx hb dX11_isLacking_3 rfl (lv_at hl 2 rfl) ?_
    refine lv_iconst (pc := 4) (v := 0) hx hb dX11_isLacking_4 (by decide) ?_
    obtain ⟨v1, v2, v3, f4, hm5, hf⟩ := q_b4_e hf
    refine q_cV (pc := 5) (As := [.int p1, .int p2, .int 0]) (rest := [.ref a_m]) (v0 := (some (.int v1))) ⟨hx, hb, hml, hown, hts⟩ hK hA hZ hP hD hS hl.1 [0, 1, 2, 3, 4, 5, 6, 7] 8 rfl ⟨rfl, rfl, rfl⟩ (c_M_middleOf l D ci A sa N ((a_m_pieceLevel, .inl (ci 0, 60, .inl m_pieceLevel)) :: (a_m_pieceKey, .inl (ci 0, 60, .inl m_pieceKey)) :: (a_m_pieceYear, .inl (ci 0, 60, .inl m_pieceYear)) :: Rw) a_m a_m_cutRows a_m_cutColumns a_m_deep a_m_wide a_m_zonesAhead a_m_nameOne a_m_nameOther a_m_tape a_m_edges a_m_dist a_m_queue a_m_pieceLevel a_m_pieceKey a_m_pieceYear a_m_drawnKeys a_m_kept a_m_noNumbers m_taped m_place m_fault m_number m_levelRead m_keyRead m_reads m_faults m_cutShort m_noNumber m_bottomLat m_bottomLon m_firstBeside m_manyBeside m_queued m_boxLevel m_boxTop m_boxBottom m_boxWest m_boxEast m_isEarly m_pieces m_states m_drawnNow m_keptAt m_deep m_wide m_zonesAhead m_edges p1 p2 0 v1 v2 v3 f4 hm5) 0 rfl rfl (cwV 3 hts gX11_isLacking_X11_middleOf rfl rfl rfl (by decide +kernel) ⟨Nat.le_of_ble_eq_true rfl, Nat.le_of_ble_eq_true rfl⟩) rfl rfl (Nat.le_of_ble_eq_true rfl) dX11_isLacking_5 ⟨Nat.zero_le _, Nat.zero_le _⟩ [0, 1, 2, 3, 4, 5, 6, 7] 8 rfl ⟨rfl, rfl, rfl⟩ (fun H locs hP hD hS => ?_)
    obtain ⟨hP, hD⟩ : va_PD D A ((a_m, .inr (11, (.ref a_m_cutRows :: .ref a_m_cutColumns :: .ref a_m_deep :: .ref a_m_wide :: .ref a_m_zonesAhead :: .ref a_m_nameOne :: .ref a_m_nameOther :: .ref a_m_tape :: .int m_taped :: .int m_place :: .int m_fault :: .int m_number :: .int m_levelRead :: .int m_keyRead :: .int m_reads :: .int m_faults :: .int m_cutShort :: .int m_noNumber :: .long v2 :: .long v3 :: .ref a_m_edges :: .int m_firstBeside :: .int m_manyBeside :: .ref a_m_dist :: .ref a_m_queue :: .int m_queued :: .int m_boxLevel :: .int m_boxTop :: .int m_boxBottom :: .int m_boxWest :: .int m_boxEast :: .int m_isEarly :: .int m_pieces :: .int m_states :: .ref a_m_pieceLevel :: .ref a_m_pieceKey :: .ref a_m_pieceYear :: .int m_drawnNow :: .ref a_m_drawnKeys :: .ref a_m_kept :: .int m_keptAt :: .ref a_m_noNumbers :: []))) :: (a_m_deep, .inl (ci 0, 5, .inl m_deep)) :: (a_m_wide, .inl (ci 0, 5, .inl m_wide)) :: (a_m_zonesAhead, .inl (ci 0, 45, .inl m_zonesAhead)) :: (a_m_edges, .inl (ci 1, 4, .inr (.inl f4))) :: (a_m_pieceLevel, .inl (ci 0, 60, .inl m_pieceLevel)) :: (a_m_pieceKey, .inl (ci 0, 60, .inl m_pieceKey)) :: (a_m_pieceYear, .inl (ci 0, 60, .inl m_pieceYear)) :: Rw) H := ⟨hP, hD⟩
    refine lv_aload_n (pc := 8) hx hb dX11_isLacking_8 rfl (lv_at hl 0 rfl) ?_
    refine lv_iload_n (pc := 9) hx hb dX11_isLacking_9 rfl (lv_at hl 1 rfl) ?_
    refine lv_iload_n (pc := 10) hx hb dX11_isLacking_10 rfl (lv_at hl 2 rfl) ?_
    refine lv_iconst (pc := 11) (v := 1) hx hb dX11_isLacking_11 (by decide) ?_
    obtain ⟨v5, v6, v7, f8, hm12, hf⟩ := q_b4_e hf
    refine q_cV (pc := 12) (As := [.int p1, .int p2, .int 1]) (rest := [.int v1, .ref a_m]) (v0 := (some (.int v5))) ⟨hx, hb, hml, hown, hts⟩ hK hA hZ hP hD hS hl.1 [0, 1, 2, 3, 4, 5, 6, 7] 8 rfl ⟨rfl, rfl, rfl⟩ (c_M_middleOf l D ci A sa N ((a_m_pieceLevel, .inl (ci 0, 60, .inl m_pieceLevel)) :: (a_m_pieceKey, .inl (ci 0, 60, .inl m_pieceKey)) :: (a_m_pieceYear, .inl (ci 0, 60, .inl m_pieceYear)) :: Rw) a_m a_m_cutRows a_m_cutColumns a_m_deep a_m_wide a_m_zonesAhead a_m_nameOne a_m_nameOther a_m_tape a_m_edges a_m_dist a_m_queue a_m_pieceLevel a_m_pieceKey a_m_pieceYear a_m_drawnKeys a_m_kept a_m_noNumbers m_taped m_place m_fault m_number m_levelRead m_keyRead m_reads m_faults m_cutShort m_noNumber v2 v3 m_firstBeside m_manyBeside m_queued m_boxLevel m_boxTop m_boxBottom m_boxWest m_boxEast m_isEarly m_pieces m_states m_drawnNow m_keptAt m_deep m_wide m_zonesAhead f4 p1 p2 1 v5 v6 v7 f8 hm12) 0 rfl rfl (cwV 3 hts gX11_isLacking_X11_middleOf rfl rfl rfl (by decide +kernel) ⟨Nat.le_of_ble_eq_true rfl, Nat.le_of_ble_eq_true rfl⟩) rfl rfl (Nat.le_of_ble_eq_true rfl) dX11_isLacking_12 ⟨Nat.zero_le _, Nat.zero_le _⟩ [0, 1, 2, 3, 4, 5, 6, 7] 8 rfl ⟨rfl, rfl, rfl⟩ (fun H locs hP hD hS => ?_)
    obtain ⟨hP, hD⟩ : va_PD D A ((a_m, .inr (11, (.ref a_m_cutRows :: .ref a_m_cutColumns :: .ref a_m_deep :: .ref a_m_wide :: .ref a_m_zonesAhead :: .ref a_m_nameOne :: .ref a_m_nameOther :: .ref a_m_tape :: .int m_taped :: .int m_place :: .int m_fault :: .int m_number :: .int m_levelRead :: .int m_keyRead :: .int m_reads :: .int m_faults :: .int m_cutShort :: .int m_noNumber :: .long v6 :: .long v7 :: .ref a_m_edges :: .int m_firstBeside :: .int m_manyBeside :: .ref a_m_dist :: .ref a_m_queue :: .int m_queued :: .int m_boxLevel :: .int m_boxTop :: .int m_boxBottom :: .int m_boxWest :: .int m_boxEast :: .int m_isEarly :: .int m_pieces :: .int m_states :: .ref a_m_pieceLevel :: .ref a_m_pieceKey :: .ref a_m_pieceYear :: .int m_drawnNow :: .ref a_m_drawnKeys :: .ref a_m_kept :: .int m_keptAt :: .ref a_m_noNumbers :: []))) :: (a_m_deep, .inl (ci 0, 5, .inl m_deep)) :: (a_m_wide, .inl (ci 0, 5, .inl m_wide)) :: (a_m_zonesAhead, .inl (ci 0, 45, .inl m_zonesAhead)) :: (a_m_edges, .inl (ci 1, 4, .inr (.inl f8))) :: (a_m_pieceLevel, .inl (ci 0, 60, .inl m_pieceLevel)) :: (a_m_pieceKey, .inl (ci 0, 60, .inl m_pieceKey)) :: (a_m_pieceYear, .inl (ci 0, 60, .inl m_pieceYear)) :: Rw) H := ⟨hP, hD⟩
    refine lv_iconst (pc := 15) (v := 2) hx hb dX11_isLacking_15 (by decide) ?_
    obtain ⟨v9, hm16, hf⟩ := q_b1_e hf
    refine q_cVr (pc := 16) (As := [.int v1, .int v5, .int 2]) (rest := []) (v0 := (some (.int v9))) ⟨hx, hb, hml, hown, hts⟩ hK hA hZ hP hD hS hl.1 [0, 1, 2, 3, 5, 6, 7] 8 rfl ⟨rfl, rfl, rfl⟩ (c_M_shownOf l D ci A sa N (Rw) a_m a_m_cutRows a_m_cutColumns a_m_deep a_m_wide a_m_zonesAhead a_m_nameOne a_m_nameOther a_m_tape a_m_edges a_m_dist a_m_queue a_m_pieceLevel a_m_pieceKey a_m_pieceYear a_m_drawnKeys a_m_kept a_m_noNumbers m_taped m_place m_fault m_number m_levelRead m_keyRead m_reads m_faults m_cutShort m_noNumber v6 v7 m_firstBeside m_manyBeside m_queued m_boxLevel m_boxTop m_boxBottom m_boxWest m_boxEast m_isEarly m_pieces m_states m_drawnNow m_keptAt m_deep m_wide m_zonesAhead m_pieceLevel m_pieceKey m_pieceYear v1 v5 2 v9 hm16) 0 rfl rfl (cwV 3 hts gX11_isLacking_X11_shownOf rfl rfl rfl (by decide +kernel) ⟨Nat.le_of_ble_eq_true rfl, Nat.le_of_ble_eq_true rfl⟩) rfl rfl (Nat.le_of_ble_eq_true rfl) dX11_isLacking_16 ⟨Nat.zero_le _, Nat.zero_le _⟩ (fun locs hS => ?_)
    refine lv_istore (pc := 19) (lv' := [(4, .int v9), (0, .ref a_m), (1, .int p1), (2, .int p2), (3, .int p3)]) hx hb dX11_isLacking_19 hl (by decide) rfl (fun ls hl => ?_)
    refine lv_iload (pc := 21) hx hb dX11_isLacking_21 (lv_at hl 0 rfl) ?_
    refine lv_iload_n (pc := 23) hx hb dX11_isLacking_23 rfl (lv_at hl 4 rfl) ?_
    obtain ⟨k34, ek34, hf⟩ := q_j0_e hf
    have J34 : ∀  (H : Heap) (locs : List Loc) (ls : Array Slot), k34 = some (r, o1, o2, o3) → va_P D vwCl ((a_m, .inr (11, (.ref a_m_cutRows :: .ref a_m_cutColumns :: .ref a_m_deep :: .ref a_m_wide :: .ref a_m_zonesAhead :: .ref a_m_nameOne :: .ref a_m_nameOther :: .ref a_m_tape :: .int m_taped :: .int m_place :: .int m_fault :: .int m_number :: .int m_levelRead :: .int m_keyRead :: .int m_reads :: .int m_faults :: .int m_cutShort :: .int m_noNumber :: .long v6 :: .long v7 :: .ref a_m_edges :: .int m_firstBeside :: .int m_manyBeside :: .ref a_m_dist :: .ref a_m_queue :: .int m_queued :: .int m_boxLevel :: .int m_boxTop :: .int m_boxBottom :: .int m_boxWest :: .int m_boxEast :: .int m_isEarly :: .int m_pieces :: .int m_states :: .ref a_m_pieceLevel :: .ref a_m_pieceKey :: .ref a_m_pieceYear :: .int m_drawnNow :: .ref a_m_drawnKeys :: .ref a_m_kept :: .int m_keptAt :: .ref a_m_noNumbers :: []))) :: (a_m_deep, .inl (ci 0, 5, .inl m_deep)) :: (a_m_wide, .inl (ci 0, 5, .inl m_wide)) :: (a_m_zonesAhead, .inl (ci 0, 45, .inl m_zonesAhead)) :: (a_m_edges, .inl (ci 1, 4, .inr (.inl f8))) :: (a_m_pieceLevel, .inl (ci 0, 60, .inl m_pieceLevel)) :: (a_m_pieceKey, .inl (ci 0, 60, .inl m_pieceKey)) :: (a_m_pieceYear, .inl (ci 0, 60, .inl m_pieceYear)) :: Rw) H → va_D A ((a_m, .inr (11, (.ref a_m_cutRows :: .ref a_m_cutColumns :: .ref a_m_deep :: .ref a_m_wide :: .ref a_m_zonesAhead :: .ref a_m_nameOne :: .ref a_m_nameOther :: .ref a_m_tape :: .int m_taped :: .int m_place :: .int m_fault :: .int m_number :: .int m_levelRead :: .int m_keyRead :: .int m_reads :: .int m_faults :: .int m_cutShort :: .int m_noNumber :: .long v6 :: .long v7 :: .ref a_m_edges :: .int m_firstBeside :: .int m_manyBeside :: .ref a_m_dist :: .ref a_m_queue :: .int m_queued :: .int m_boxLevel :: .int m_boxTop :: .int m_boxBottom :: .int m_boxWest :: .int m_boxEast :: .int m_isEarly :: .int m_pieces :: .int m_states :: .ref a_m_pieceLevel :: .ref a_m_pieceKey :: .ref a_m_pieceYear :: .int m_drawnNow :: .ref a_m_drawnKeys :: .ref a_m_kept :: .int m_keptAt :: .ref a_m_noNumbers :: []))) :: (a_m_deep, .inl (ci 0, 5, .inl m_deep)) :: (a_m_wide, .inl (ci 0, 5, .inl m_wide)) :: (a_m_zonesAhead, .inl (ci 0, 45, .inl m_zonesAhead)) :: (a_m_edges, .inl (ci 1, 4, .inr (.inl f8))) :: (a_m_pieceLevel, .inl (ci 0, 60, .inl m_pieceLevel)) :: (a_m_pieceKey, .inl (ci 0, 60, .inl m_pieceKey)) :: (a_m_pieceYear, .inl (ci 0, 60, .inl m_pieceYear)) :: Rw) → va_S A s.heap H locs → lv_has ls 5 [] → W p l e ({ frames := 6, cells := 0, slots := 0, locals := 134 } : Room) s m ([.ref a_m, .int p1, .int p2, .int p3] : List Value).toArray below meth c H locs 0 0 Q (F0 m 34 ls []) := by
      intro  H locs ls hf hP hD hS hl
      have hf := (ek34).symm.trans hf
      refine lv_iconst (pc := 34) (v := 1) hx hb dX11_isLacking_34 (by decide) ?_
      refine lv_goto (pc := 35) (tgt := 39) hx hb dX11_isLacking_35 (by decide) ?_
      obtain ⟨e90, e91, e92, e93⟩ := q_inj4 (Option.some.inj hf)
      rw [hQ, ← e90, ← e91, ← e92, ← e93]
      exact q_zret (pc := 39) hx hb hr rfl hlocks hP hD hS dX11_isLacking_39
    refine q_icmp_lt (pc := 24) (tgt := 34) hx hb dX11_isLacking_24 (by decide) rfl hf (fun hf => ?_) (fun hf => ?_)
    · exact J34  _ _ _ hf hP hD hS (lv_sub hl [] rfl)
    · refine lv_iload (pc := 27) hx hb dX11_isLacking_27 (lv_at hl 0 rfl) ?_
      refine lv_bipush (pc := 29) (v := (-2)) hx hb dX11_isLacking_29 (by decide) ?_
      refine q_icmp_ne (pc := 31) (tgt := 38) hx hb dX11_isLacking_31 (by decide) rfl hf (fun hf => ?_) (fun hf => ?_)
      · refine lv_iconst (pc := 38) (v := 0) hx hb dX11_isLacking_38 (by decide) ?_
        obtain ⟨e90, e91, e92, e93⟩ := q_inj4 (Option.some.inj hf)
        rw [hQ, ← e90, ← e91, ← e92, ← e93]
        exact q_zret (pc := 39) hx hb hr rfl hlocks hP hD hS dX11_isLacking_39
      · exact J34  _ _ _ hf hP hD hS (lv_sub hl [] rfl)
  exact hgo _ _ rfl hP hS
/-! X11_isNeedless -/
set_option maxRecDepth 100000 in
set_option maxHeartbeats 4000000 in
theorem c_M_isNeedless (l : Launch) (D : va_G) (ci : Nat → ClassId) (A : Nat → Prop) (sa : Nat → Nat) (N : Nat) (Rw : va_W) (a_m : Nat) (a_m_cutRows : Nat) (a_m_cutColumns : Nat) (a_m_deep : Nat) (a_m_wide : Nat) (a_m_zonesAhead : Nat) (a_m_nameOne : Nat) (a_m_nameOther : Nat) (a_m_tape : Nat) (a_m_edges : Nat) (a_m_dist : Nat) (a_m_queue : Nat) (a_m_pieceLevel : Nat) (a_m_pieceKey : Nat) (a_m_pieceYear : Nat) (a_m_drawnKeys : Nat) (a_m_kept : Nat) (a_m_noNumbers : Nat) (m_taped : Int32) (m_place : Int32) (m_fault : Int32) (m_number : Int32) (m_levelRead : Int32) (m_keyRead : Int32) (m_reads : Int32) (m_faults : Int32) (m_cutShort : Int32) (m_noNumber : Int32) (m_bottomLat : Int64) (m_bottomLon : Int64) (m_firstBeside : Int32) (m_manyBeside : Int32) (m_queued : Int32) (m_boxLevel : Int32) (m_boxTop : Int32) (m_boxBottom : Int32) (m_boxWest : Int32) (m_boxEast : Int32) (m_isEarly : Int32) (m_pieces : Int32) (m_states : Int32) (m_drawnNow : Int32) (m_keptAt : Int32) (m_deep : Nat → Int32) (m_wide : Nat → Int32) (m_zonesAhead : Nat → Int32) (m_pieceLevel : Nat → Int32) (m_pieceKey : Nat → Int32) (m_pieceYear : Nat → Int32) (p1 : Int32) (r : Int32) (hf : f_M_isNeedless N m_deep m_wide m_zonesAhead m_pieces m_pieceLevel m_pieceKey m_pieceYear p1 = some r) : Met l yX11_isNeedless wsX11_isNeedless ({ frames := 5, cells := 0, slots := 0, locals := 111 }) (va_Pc [.ref a_m, .int p1] (q_N D ci A sa ((a_m, .inr (11, (.ref a_m_cutRows :: .ref a_m_cutColumns :: .ref a_m_deep :: .ref a_m_wide :: .ref a_m_zonesAhead :: .ref a_m_nameOne :: .ref a_m_nameOther :: .ref a_m_tape :: .int m_taped :: .int m_place :: .int m_fault :: .int m_number :: .int m_levelRead :: .int m_keyRead :: .int m_reads :: .int m_faults :: .int m_cutShort :: .int m_noNumber :: .long m_bottomLat :: .long m_bottomLon :: .ref a_m_edges :: .int m_firstBeside :: .int m_manyBeside :: .ref a_m_dist :: .ref a_m_queue :: .int m_queued :: .int m_boxLevel :: .int m_boxTop :: .int m_boxBottom :: .int m_boxWest :: .int m_boxEast :: .int m_isEarly :: .int m_pieces :: .int m_states :: .ref a_m_pieceLevel :: .ref a_m_pieceKey :: .ref a_m_pieceYear :: .int m_drawnNow :: .ref a_m_drawnKeys :: .ref a_m_kept :: .int m_keptAt :: .ref a_m_noNumbers :: []))) :: (a_m_deep, .inl (ci 0, 5, .inl m_deep)) :: (a_m_wide, .inl (ci 0, 5, .inl m_wide)) :: (a_m_zonesAhead, .inl (ci 0, 45, .inl m_zonesAhead)) :: (a_m_pieceLevel, .inl (ci 0, 60, .inl m_pieceLevel)) :: (a_m_pieceKey, .inl (ci 0, 60, .inl m_pieceKey)) :: (a_m_pieceYear, .inl (ci 0, 60, .inl m_pieceYear)) :: Rw))) (q_R (some (.int r))) 0 0 A := by
  refine q_ofW (cc := cX11_isNeedless) (maxL := 3) (ret := (some .boolean)) [.ref a_m, .int p1] (plainFor_of_name (by decide)) rfl (Nat.le_of_ble_eq_true rfl) ?_
  intro p e s m below meth c ls Q hQ hx hb hml hr hts hown hlocks hK hA hZ hP hD hS hl
  have hl : lv_has ls 3 [(0, .ref a_m), (1, .int p1)] := hl
  have hown : s.vm.findClass RX11 = some m.cls := hown
  have hinX11 : ∀ w ∈ wsX110, w ∈ wsX11_isNeedless := fun _ h => List.mem_cons_of_mem _ (inWX110 _ h)
  have w_1 := hts (Cond.fieldLink RX11 123 "SheetNamesModel" "pieces" "I") (List.mem_cons_of_mem _ t_w972)
  have w_2 := hts (Cond.fieldLink RX11 45 "SheetNamesModel" "pieceLevel" "[I") (List.mem_cons_of_mem _ t_w982)
  have w_3 := hts (Cond.fieldLink RX11 51 "SheetNamesModel" "pieceYear" "[I") (List.mem_cons_of_mem _ t_w984)
  have w_4 := hts (Cond.fieldLink RX11 48 "SheetNamesModel" "pieceKey" "[I") (List.mem_cons_of_mem _ t_w983)
  unfold f_M_isNeedless at hf
  have hgo : ∀ (H : Heap) (locs : List Loc), H = s.heap → va_P D vwCl ((a_m, .inr (11, (.ref a_m_cutRows :: .ref a_m_cutColumns :: .ref a_m_deep :: .ref a_m_wide :: .ref a_m_zonesAhead :: .ref a_m_nameOne :: .ref a_m_nameOther :: .ref a_m_tape :: .int m_taped :: .int m_place :: .int m_fault :: .int m_number :: .int m_levelRead :: .int m_keyRead :: .int m_reads :: .int m_faults :: .int m_cutShort :: .int m_noNumber :: .long m_bottomLat :: .long m_bottomLon :: .ref a_m_edges :: .int m_firstBeside :: .int m_manyBeside :: .ref a_m_dist :: .ref a_m_queue :: .int m_queued :: .int m_boxLevel :: .int m_boxTop :: .int m_boxBottom :: .int m_boxWest :: .int m_boxEast :: .int m_isEarly :: .int m_pieces :: .int m_states :: .ref a_m_pieceLevel :: .ref a_m_pieceKey :: .ref a_m_pieceYear :: .int m_drawnNow :: .ref a_m_drawnKeys :: .ref a_m_kept :: .int m_keptAt :: .ref a_m_noNumbers :: []))) :: (a_m_deep, .inl (ci 0, 5, .inl m_deep)) :: (a_m_wide, .inl (ci 0, 5, .inl m_wide)) :: (a_m_zonesAhead, .inl (ci 0, 45, .inl m_zonesAhead)) :: (a_m_pieceLevel, .inl (ci 0, 60, .inl m_pieceLevel)) :: (a_m_pieceKey, .inl (ci 0, 60, .inl m_pieceKey)) :: (a_m_pieceYear, .inl (ci 0, 60, .inl m_pieceYear)) :: Rw) H → va_S A s.heap H locs → W p l e ({ frames := 5, cells := 0, slots := 0, locals := 111 } : Room) s m ([.ref a_m, .int p1] : List Value).toArray below meth c H locs 0 0 Q (F0 m 0 ls []) := by
    intro H locs hH hP hS
    subst hH
    refine lv_iconst (pc := 0) (v := 0) hx hb dX11_isNeedless_0 (by decide) ?_
    obtain ⟨v1, ev1, hf⟩ := q_nm_e hf
    refine q_topi ev1 ?_
    refine lv_istore_n (pc := 1) (lv' := [(2, .int v1), (0, .ref a_m), (1, .int p1)]) hx hb dX11_isNeedless_1 rfl hl (by decide) rfl (fun ls hl => ?_)
    obtain ⟨k2, o2_, ek2, hm2, hk2⟩ := q_s0_k hf
    have JE2 : ∀  (H : Heap) (locs : List Loc) (ls : Array Slot), k2 = some r → H = s.heap → va_S A s.heap H locs → lv_has ls 3 [] → W p l e ({ frames := 5, cells := 0, slots := 0, locals := 111 } : Room) s m ([.ref a_m, .int p1] : List Value).toArray below meth c H locs 0 0 Q (F0 m 79 ls []) := by
      intro  H locs ls hf hHs hS hl
      subst hHs
      have hf := (ek2).symm.trans hf
      refine lv_iconst (pc := 79) (v := 0) hx hb dX11_isNeedless_79 (by decide) ?_
      obtain rfl := Option.some.inj hf
      rw [hQ]
      exact q_zretr (pc := 80) hx hb hr rfl hlocks rfl hS dX11_isNeedless_80
    have LP2 : ∀ (n2 : Nat) (v2 : Int32) (H : Heap) (locs : List Loc) (ls : Array Slot), f_M_isNeedless_L2 N m_deep m_pieceKey m_pieceLevel m_pieceYear m_pieces m_wide m_zonesAhead p1 n2 v2 = some o2_ → H = s.heap → va_S A s.heap H locs → lv_has ls 3 [(0, .ref a_m), (1, .int p1), (2, .int v2)] → W p l e ({ frames := 5, cells := 0, slots := 0, locals := 111 } : Room) s m ([.ref a_m, .int p1] : List Value).toArray below meth c H locs 0 0 Q (F0 m 2 ls []) := by
      intro n2
      induction n2 with
      | zero => intro v2 H locs ls hf; rw [f_M_isNeedless_L2] at hf; cases hf
      | succ n2 ih2 =>
        intro v2 H locs ls hf hHs hS hl
        subst hHs
        rw [f_M_isNeedless_L2] at hf
        refine lv_iload_n (pc := 2) hx hb dX11_isNeedless_2 rfl (lv_at hl 2 rfl) ?_
        refine lv_aload_n (pc := 3) hx hb dX11_isNeedless_3 rfl (lv_at hl 0 rfl) ?_
        refine va_get (pc := 4) (D := D) (ci := 11) (v := .int m_pieces) (C := RX11) (T := TX11) (N := 42) hx hb hts hinX11 hown hK hP 0 rfl rfl 32 (by decide) w_1 (fun _ h9 => h9) rfl dX11_isNeedless_4 ?_
        refine q_icmp_ge (pc := 7) (tgt := 79) hx hb dX11_isNeedless_7 (by decide) rfl hf (fun hf => ?_) (fun hf => ?_)
        · obtain rfl := Option.some.inj hf
          exact JE2  _ _ _ hk2 rfl hS (lv_sub hl [] rfl)
        · refine lv_aload_n (pc := 10) hx hb dX11_isNeedless_10 rfl (lv_at hl 0 rfl) ?_
          refine va_get (pc := 11) (D := D) (ci := 11) (v := .ref a_m_pieceLevel) (C := RX11) (T := TX11) (N := 42) hx hb hts hinX11 hown hK hP 0 rfl rfl 34 (by decide) w_2 (fun _ h9 => h9) rfl dX11_isNeedless_11 ?_
          refine lv_iload_n (pc := 14) hx hb dX11_isNeedless_14 rfl (lv_at hl 2 rfl) ?_
          refine q_iald (pc := 15) hx hb hK hP 4 0 hf rfl rfl dX11_isNeedless_15 (fun v3 hf => ?_)
          refine lv_aload_n (pc := 16) hx hb dX11_isNeedless_16 rfl (lv_at hl 0 rfl) ?_
          refine va_get (pc := 17) (D := D) (ci := 11) (v := .ref a_m_pieceLevel) (C := RX11) (T := TX11) (N := 42) hx hb hts hinX11 hown hK hP 0 rfl rfl 34 (by decide) w_2 (fun _ h9 => h9) rfl dX11_isNeedless_17 ?_
          refine lv_iload_n (pc := 20) hx hb dX11_isNeedless_20 rfl (lv_at hl 1 rfl) ?_
          refine q_iald (pc := 21) hx hb hK hP 4 0 hf rfl rfl dX11_isNeedless_21 (fun v4 hf => ?_)
          obtain ⟨k73, ek73, hf⟩ := q_j0_e hf
          have J73 : ∀  (H : Heap) (locs : List Loc) (ls : Array Slot), k73 = some o2_ → H = s.heap → va_S A s.heap H locs → lv_has ls 3 [(0, .ref a_m), (1, .int p1), (2, .int v2)] → W p l e ({ frames := 5, cells := 0, slots := 0, locals := 111 } : Room) s m ([.ref a_m, .int p1] : List Value).toArray below meth c H locs 0 0 Q (F0 m 73 ls []) := by
            intro  H locs ls hf hHs hS hl
            subst hHs
            have hf := (ek73).symm.trans hf
            obtain ⟨v5, ev5, hf⟩ := q_nm_e hf
            refine lv_iinc (pc := 73) (v := v5) (lv' := [(2, .int v5), (0, .ref a_m), (1, .int p1)]) hx hb dX11_isNeedless_73 hl (k := 2) rfl (by rw [ev5]; rfl) (by decide) rfl (fun ls hl => ?_)
            refine lv_goto (pc := 76) (tgt := 2) hx hb dX11_isNeedless_76 (by decide) ?_
            exact ih2 v5 _ _ _ hf rfl hS (lv_sub hl [1, 2, 0] rfl)
          refine q_icmp_ge (pc := 22) (tgt := 73) hx hb dX11_isNeedless_22 (by decide) rfl hf (fun hf => ?_) (fun hf => ?_)
          · exact J73  _ _ _ hf rfl hS (lv_sub hl [0, 1, 2] rfl)
          · refine lv_aload_n (pc := 25) hx hb dX11_isNeedless_25 rfl (lv_at hl 0 rfl) ?_
            refine va_get (pc := 26) (D := D) (ci := 11) (v := .ref a_m_pieceYear) (C := RX11) (T := TX11) (N := 42) hx hb hts hinX11 hown hK hP 0 rfl rfl 36 (by decide) w_3 (fun _ h9 => h9) rfl dX11_isNeedless_26 ?_
            refine lv_iload_n (pc := 29) hx hb dX11_isNeedless_29 rfl (lv_at hl 2 rfl) ?_
            refine q_iald (pc := 30) hx hb hK hP 6 0 hf rfl rfl dX11_isNeedless_30 (fun v6 hf => ?_)
            refine lv_aload_n (pc := 31) hx hb dX11_isNeedless_31 rfl (lv_at hl 0 rfl) ?_
            refine va_get (pc := 32) (D := D) (ci := 11) (v := .ref a_m_pieceYear) (C := RX11) (T := TX11) (N := 42) hx hb hts hinX11 hown hK hP 0 rfl rfl 36 (by decide) w_3 (fun _ h9 => h9) rfl dX11_isNeedless_32 ?_
            refine lv_iload_n (pc := 35) hx hb dX11_isNeedless_35 rfl (lv_at hl 1 rfl) ?_
            refine q_iald (pc := 36) hx hb hK hP 6 0 hf rfl rfl dX11_isNeedless_36 (fun v7 hf => ?_)
            refine q_icmp_lt (pc := 37) (tgt := 73) hx hb dX11_isNeedless_37 (by decide) rfl hf (fun hf => ?_) (fun hf => ?_)
            · exact J73  _ _ _ hf rfl hS (lv_sub hl [0, 1, 2] rfl)
            · refine lv_aload_n (pc := 40) hx hb dX11_isNeedless_40 rfl (lv_at hl 0 rfl) ?_
              refine lv_aload_n (pc := 41) hx hb dX11_isNeedless_41 rfl (lv_at hl 0 rfl) ?_
              refine va_get (pc := 42) (D := D) (ci := 11) (v := .ref a_m_pieceLevel) (C := RX11) (T := TX11) (N := 42) hx hb hts hinX11 hown hK hP 0 rfl rfl 34 (by decide) w_2 (fun _ h9 => h9) rfl dX11_isNeedless_42 ?_
              refine lv_iload_n (pc := 45) hx hb dX11_isNeedless_45 rfl (lv_at hl 1 rfl) ?_
              refine q_iald (pc := 46) hx hb hK hP 4 0 hf rfl rfl dX11_isNeedless_46 (fun v8 hf => ?_)
              refine lv_aload_n (pc := 47) hx hb dX11_isNeedless_47 rfl (lv_at hl 0 rfl) ?_
              refine va_get (pc := 48) (D := D) (ci := 11) (v := .ref a_m_pieceKey) (C := RX11) (T := TX11) (N := 42) hx hb hts hinX11 hown hK hP 0 rfl rfl 35 (by decide) w_4 (fun _ h9 => h9) rfl dX11_isNeedless_48 ?_
              refine lv_iload_n (pc := 51) hx hb dX11_isNeedless_51 rfl (lv_at hl 1 rfl) ?_
              refine q_iald (pc := 52) hx hb hK hP 5 0 hf rfl rfl dX11_isNeedless_52 (fun v9 hf => ?_)
              refine lv_aload_n (pc := 53) hx hb dX11_isNeedless_53 rfl (lv_at hl 0 rfl) ?_
              refine va_get (pc := 54) (D := D) (ci := 11) (v := .ref a_m_pieceLevel) (C := RX11) (T := TX11) (N := 42) hx hb hts hinX11 hown hK hP 0 rfl rfl 34 (by decide) w_2 (fun _ h9 => h9) rfl dX11_isNeedless_54 ?_
              refine lv_iload_n (pc := 57) hx hb dX11_isNeedless_57 rfl (lv_at hl 2 rfl) ?_
              refine q_iald (pc := 58) hx hb hK hP 4 0 hf rfl rfl dX11_isNeedless_58 (fun v10 hf => ?_)
              obtain ⟨v11, hm59, hf⟩ := q_b1_e hf
              refine q_cVr (pc := 59) (As := [.int v8, .int v9, .int v10]) (rest := []) (v0 := (some (.int v11))) ⟨hx, hb, hml, hown, hts⟩ hK hA hZ hP hD hS hl.1 [0, 1, 2, 3] 7 rfl ⟨rfl, rfl, rfl⟩ (c_M_parentOf l D ci A sa N (Rw) a_m a_m_cutRows a_m_cutColumns a_m_deep a_m_wide a_m_zonesAhead a_m_nameOne a_m_nameOther a_m_tape a_m_edges a_m_dist a_m_queue a_m_pieceLevel a_m_pieceKey a_m_pieceYear a_m_drawnKeys a_m_kept a_m_noNumbers m_taped m_place m_fault m_number m_levelRead m_keyRead m_reads m_faults m_cutShort m_noNumber m_bottomLat m_bottomLon m_firstBeside m_manyBeside m_queued m_boxLevel m_boxTop m_boxBottom m_boxWest m_boxEast m_isEarly m_pieces m_states m_drawnNow m_keptAt m_deep m_wide m_zonesAhead v8 v9 v10 v11 hm59) 0 rfl rfl (cwV 3 hts gX11_isNeedless_X11_parentOf rfl rfl rfl (by decide +kernel) ⟨Nat.le_of_ble_eq_true rfl, Nat.le_of_ble_eq_true rfl⟩) rfl rfl (Nat.le_of_ble_eq_true rfl) dX11_isNeedless_59 ⟨Nat.zero_le _, Nat.zero_le _⟩ (fun locs hS => ?_)
              refine lv_aload_n (pc := 62) hx hb dX11_isNeedless_62 rfl (lv_at hl 0 rfl) ?_
              refine va_get (pc := 63) (D := D) (ci := 11) (v := .ref a_m_pieceKey) (C := RX11) (T := TX11) (N := 42) hx hb hts hinX11 hown hK hP 0 rfl rfl 35 (by decide) w_4 (fun _ h9 => h9) rfl dX11_isNeedless_63 ?_
              refine lv_iload_n (pc := 66) hx hb dX11_isNeedless_66 rfl (lv_at hl 2 rfl) ?_
              refine q_iald (pc := 67) hx hb hK hP 5 0 hf rfl rfl dX11_isNeedless_67 (fun v12 hf => ?_)
              refine q_icmp_ne (pc := 68) (tgt := 73) hx hb dX11_isNeedless_68 (by decide) rfl hf (fun hf => ?_) (fun hf => ?_)
              · exact J73  _ _ _ hf rfl hS (lv_sub hl [0, 1, 2] rfl)
              · refine lv_iconst (pc := 71) (v := 1) hx hb dX11_isNeedless_71 (by decide) ?_
                obtain rfl := Option.some.inj hf
                have hk2 : (1 : Int32) = r := hk2
                obtain rfl := hk2
                rw [hQ]
                exact q_zretr (pc := 72) hx hb hr rfl hlocks rfl hS dX11_isNeedless_72
    exact LP2 N v1 _ _ _ hm2 rfl hS (lv_sub hl [1, 2, 0] rfl)
  exact hgo _ _ rfl hP hS
/-! X11_isSide -/
set_option maxRecDepth 100000 in
set_option maxHeartbeats 4000000 in
theorem c_M_isSide (l : Launch) (D : va_G) (ci : Nat → ClassId) (A : Nat → Prop) (sa : Nat → Nat) (N : Nat) (Rw : va_W) (p1 : Int32) (r : Int32) (hf : f_M_isSide p1 = some r) : Met l yX11_isSide wsX11_isSide ({ frames := 1, cells := 0, slots := 0, locals := 25 }) (va_Pc [.int p1] (q_N D ci A sa (Rw))) (q_R (some (.int r))) 0 0 A := by
  refine q_ofW (cc := cX11_isSide) (maxL := 1) (ret := (some .boolean)) [.int p1] (plainFor_of_name (by decide)) rfl (Nat.le_of_ble_eq_true rfl) ?_
  intro p e s m below meth c ls Q hQ hx hb hml hr hts hown hlocks hK hA hZ hP hD hS hl
  have hl : lv_has ls 1 [(0, .int p1)] := hl
  have hown : s.vm.findClass RX11 = some m.cls := hown
  have w_1 := hts (Cond.constantLong RX11 82 (3)) (List.mem_cons_of_mem _ t_w988)
  unfold f_M_isSide at hf
  have hgo : ∀ (H : Heap) (locs : List Loc), H = s.heap → va_P D vwCl (Rw) H → va_S A s.heap H locs → W p l e ({ frames := 1, cells := 0, slots := 0, locals := 25 } : Room) s m ([.int p1] : List Value).toArray below meth c H locs 0 0 Q (F0 m 0 ls []) := by
    intro H locs hH hP hS
    subst hH
    refine lv_iload_n (pc := 0) hx hb dX11_isSide_0 rfl (lv_at hl 0 rfl) ?_
    refine lv_i2l (pc := 1) hx hb dX11_isSide_1 rfl ?_
    refine lv_lconst (pc := 2) (v := 0) hx hb dX11_isSide_2 (by decide) ?_
    refine lv_ldc2 (pc := 3) (v := 3) hx hb hown w_1 dX11_isSide_3 ?_
    obtain ⟨v1, hm6, hf⟩ := q_b1_e hf
    refine q_cSr (pc := 6) (As := [.long p1.toInt64, .long 0, .long 3]) (rest := []) (v0 := (some (.int v1))) ⟨hx, hb, hml, hown, hts⟩ hK hA hZ hP hD hS hl.1 [] 0 rfl ⟨rfl, rfl, rfl⟩ (c_M_in l D ci A sa N (Rw) p1.toInt64 0 3 v1 hm6) (va_cwS 3 hts gX11_isSide_X11_in rfl rfl rfl (by decide +kernel) ⟨Nat.le_of_ble_eq_true rfl, Nat.le_of_ble_eq_true rfl⟩) rfl rfl (Nat.le_of_ble_eq_true rfl) dX11_isSide_6 ⟨Nat.zero_le _, Nat.zero_le _⟩ (fun locs hS => ?_)
    obtain ⟨hn9, hf9, hf⟩ := q_bo_e hf
    obtain rfl := Option.some.inj hf
    rw [hQ]
    exact q_zretr (pc := 9) hx hb hr hn9 hlocks rfl hS dX11_isSide_9
  exact hgo _ _ rfl hP hS
/-! X11_isYear -/
set_option maxRecDepth 100000 in
set_option maxHeartbeats 4000000 in
theorem c_M_isYear (l : Launch) (D : va_G) (ci : Nat → ClassId) (A : Nat → Prop) (sa : Nat → Nat) (N : Nat) (Rw : va_W) (p1 : Int32) (r : Int32) (hf : f_M_isYear p1 = some r) : Met l yX11_isYear wsX11_isYear ({ frames := 1, cells := 0, slots := 0, locals := 25 }) (va_Pc [.int p1] (q_N D ci A sa (Rw))) (q_R (some (.int r))) 0 0 A := by
  refine q_ofW (cc := cX11_isYear) (maxL := 1) (ret := (some .boolean)) [.int p1] (plainFor_of_name (by decide)) rfl (Nat.le_of_ble_eq_true rfl) ?_
  intro p e s m below meth c ls Q hQ hx hb hml hr hts hown hlocks hK hA hZ hP hD hS hl
  have hl : lv_has ls 1 [(0, .int p1)] := hl
  have hown : s.vm.findClass RX11 = some m.cls := hown
  have w_1 := hts (Cond.constantLong RX11 401 (1800)) (List.mem_cons_of_mem _ t_w989)
  have w_2 := hts (Cond.constantLong RX11 403 (2100)) (List.mem_cons_of_mem _ t_w987)
  unfold f_M_isYear at hf
  have hgo : ∀ (H : Heap) (locs : List Loc), H = s.heap → va_P D vwCl (Rw) H → va_S A s.heap H locs → W p l e ({ frames := 1, cells := 0, slots := 0, locals := 25 } : Room) s m ([.int p1] : List Value).toArray below meth c H locs 0 0 Q (F0 m 0 ls []) := by
    intro H locs hH hP hS
    subst hH
    refine lv_iload_n (pc := 0) hx hb dX11_isYear_0 rfl (lv_at hl 0 rfl) ?_
    refine lv_i2l (pc := 1) hx hb dX11_isYear_1 rfl ?_
    refine lv_ldc2 (pc := 2) (v := 1800) hx hb hown w_1 dX11_isYear_2 ?_
    refine lv_ldc2 (pc := 5) (v := 2100) hx hb hown w_2 dX11_isYear_5 ?_
    obtain ⟨v1, hm8, hf⟩ := q_b1_e hf
    refine q_cSr (pc := 8) (As := [.long p1.toInt64, .long 1800, .long 2100]) (rest := []) (v0 := (some (.int v1))) ⟨hx, hb, hml, hown, hts⟩ hK hA hZ hP hD hS hl.1 [] 0 rfl ⟨rfl, rfl, rfl⟩ (c_M_in l D ci A sa N (Rw) p1.toInt64 1800 2100 v1 hm8) (va_cwS 3 hts gX11_isYear_X11_in rfl rfl rfl (by decide +kernel) ⟨Nat.le_of_ble_eq_true rfl, Nat.le_of_ble_eq_true rfl⟩) rfl rfl (Nat.le_of_ble_eq_true rfl) dX11_isYear_8 ⟨Nat.zero_le _, Nat.zero_le _⟩ (fun locs hS => ?_)
    obtain ⟨hn9, hf9, hf⟩ := q_bo_e hf
    obtain rfl := Option.some.inj hf
    rw [hQ]
    exact q_zretr (pc := 11) hx hb hr hn9 hlocks rfl hS dX11_isYear_11
  exact hgo _ _ rfl hP hS
/-! X11_jog -/
set_option maxRecDepth 100000 in
set_option maxHeartbeats 4000000 in
theorem c_M_jog (l : Launch) (D : va_G) (ci : Nat → ClassId) (A : Nat → Prop) (sa : Nat → Nat) (N : Nat) (Rw : va_W) (a_m : Nat) (a_m_cutRows : Nat) (a_m_cutColumns : Nat) (a_m_deep : Nat) (a_m_wide : Nat) (a_m_zonesAhead : Nat) (a_m_nameOne : Nat) (a_m_nameOther : Nat) (a_m_tape : Nat) (a_m_edges : Nat) (a_m_dist : Nat) (a_m_queue : Nat) (a_m_pieceLevel : Nat) (a_m_pieceKey : Nat) (a_m_pieceYear : Nat) (a_m_drawnKeys : Nat) (a_m_kept : Nat) (a_m_noNumbers : Nat) (m_taped : Int32) (m_place : Int32) (m_fault : Int32) (m_number : Int32) (m_levelRead : Int32) (m_keyRead : Int32) (m_reads : Int32) (m_faults : Int32) (m_cutShort : Int32) (m_noNumber : Int32) (m_bottomLat : Int64) (m_bottomLon : Int64) (m_firstBeside : Int32) (m_manyBeside : Int32) (m_queued : Int32) (m_boxLevel : Int32) (m_boxTop : Int32) (m_boxBottom : Int32) (m_boxWest : Int32) (m_boxEast : Int32) (m_isEarly : Int32) (m_pieces : Int32) (m_states : Int32) (m_drawnNow : Int32) (m_keptAt : Int32) (m_deep : Nat → Int32) (m_wide : Nat → Int32) (m_zonesAhead : Nat → Int32) (p1 : Int32) (p2 : Int32) (p3 : Int32) (r : Int32) (hf : f_M_jog N m_deep m_wide m_zonesAhead p1 p2 p3 = some r) : Met l yX11_jog wsX11_jog ({ frames := 3, cells := 0, slots := 0, locals := 67 }) (va_Pc [.ref a_m, .int p1, .int p2, .int p3] (q_N D ci A sa ((a_m, .inr (11, (.ref a_m_cutRows :: .ref a_m_cutColumns :: .ref a_m_deep :: .ref a_m_wide :: .ref a_m_zonesAhead :: .ref a_m_nameOne :: .ref a_m_nameOther :: .ref a_m_tape :: .int m_taped :: .int m_place :: .int m_fault :: .int m_number :: .int m_levelRead :: .int m_keyRead :: .int m_reads :: .int m_faults :: .int m_cutShort :: .int m_noNumber :: .long m_bottomLat :: .long m_bottomLon :: .ref a_m_edges :: .int m_firstBeside :: .int m_manyBeside :: .ref a_m_dist :: .ref a_m_queue :: .int m_queued :: .int m_boxLevel :: .int m_boxTop :: .int m_boxBottom :: .int m_boxWest :: .int m_boxEast :: .int m_isEarly :: .int m_pieces :: .int m_states :: .ref a_m_pieceLevel :: .ref a_m_pieceKey :: .ref a_m_pieceYear :: .int m_drawnNow :: .ref a_m_drawnKeys :: .ref a_m_kept :: .int m_keptAt :: .ref a_m_noNumbers :: []))) :: (a_m_deep, .inl (ci 0, 5, .inl m_deep)) :: (a_m_wide, .inl (ci 0, 5, .inl m_wide)) :: (a_m_zonesAhead, .inl (ci 0, 45, .inl m_zonesAhead)) :: Rw))) (q_R (some (.int r))) 0 0 A := by
  refine q_ofW (cc := cX11_jog) (maxL := 6) (ret := (some .int)) [.ref a_m, .int p1, .int p2, .int p3] (plainFor_of_name (by decide)) rfl (Nat.le_of_ble_eq_true rfl) ?_
  intro p e s m below meth c ls Q hQ hx hb hml hr hts hown hlocks hK hA hZ hP hD hS hl
  have hl : lv_has ls 6 [(0, .ref a_m), (1, .int p1), (2, .int p2), (3, .int p3)] := hl
  have hown : s.vm.findClass RX11 = some m.cls := hown
  unfold f_M_jog at hf
  have hgo : ∀ (H : Heap) (locs : List Loc), H = s.heap → va_P D vwCl ((a_m, .inr (11, (.ref a_m_cutRows :: .ref a_m_cutColumns :: .ref a_m_deep :: .ref a_m_wide :: .ref a_m_zonesAhead :: .ref a_m_nameOne :: .ref a_m_nameOther :: .ref a_m_tape :: .int m_taped :: .int m_place :: .int m_fault :: .int m_number :: .int m_levelRead :: .int m_keyRead :: .int m_reads :: .int m_faults :: .int m_cutShort :: .int m_noNumber :: .long m_bottomLat :: .long m_bottomLon :: .ref a_m_edges :: .int m_firstBeside :: .int m_manyBeside :: .ref a_m_dist :: .ref a_m_queue :: .int m_queued :: .int m_boxLevel :: .int m_boxTop :: .int m_boxBottom :: .int m_boxWest :: .int m_boxEast :: .int m_isEarly :: .int m_pieces :: .int m_states :: .ref a_m_pieceLevel :: .ref a_m_pieceKey :: .ref a_m_pieceYear :: .int m_drawnNow :: .ref a_m_drawnKeys :: .ref a_m_kept :: .int m_keptAt :: .ref a_m_noNumbers :: []))) :: (a_m_deep, .inl (ci 0, 5, .inl m_deep)) :: (a_m_wide, .inl (ci 0, 5, .inl m_wide)) :: (a_m_zonesAhead, .inl (ci 0, 45, .inl m_zonesAhead)) :: Rw) H → va_S A s.heap H locs → W p l e ({ frames := 3, cells := 0, slots := 0, locals := 67 } : Room) s m ([.ref a_m, .int p1, .int p2, .int p3] : List Value).toArray below meth c H locs 0 0 Q (F0 m 0 ls []) := by
    intro H locs hH hP hS
    subst hH
    refine lv_aload_n (pc := 0) hx hb dX11_jog_0 rfl (lv_at hl 0 rfl) ?_
    refine lv_iload_n (pc := 1) hx hb dX11_jog_1 rfl (lv_at hl 1 rfl) ?_
    refine lv_iload_n (pc := 2) hx hb dX11_jog_2 rfl (lv_at hl 2 rfl) ?_
    obtain ⟨v1, hm3, hf⟩ := q_b1_e hf
    refine q_cVr (pc := 3) (As := [.int p1, .int p2]) (rest := []) (v0 := (some (.int v1))) ⟨hx, hb, hml, hown, hts⟩ hK hA hZ hP hD hS hl.1 [0, 1, 2, 3] 4 rfl ⟨rfl, rfl, rfl⟩ (c_M_isKey l D ci A sa N (Rw) a_m a_m_cutRows a_m_cutColumns a_m_deep a_m_wide a_m_zonesAhead a_m_nameOne a_m_nameOther a_m_tape a_m_edges a_m_dist a_m_queue a_m_pieceLevel a_m_pieceKey a_m_pieceYear a_m_drawnKeys a_m_kept a_m_noNumbers m_taped m_place m_fault m_number m_levelRead m_keyRead m_reads m_faults m_cutShort m_noNumber m_bottomLat m_bottomLon m_firstBeside m_manyBeside m_queued m_boxLevel m_boxTop m_boxBottom m_boxWest m_boxEast m_isEarly m_pieces m_states m_drawnNow m_keptAt m_deep m_wide m_zonesAhead p1 p2 v1 hm3) 0 rfl rfl (cwV 2 hts gX11_jog_X11_isKey rfl rfl rfl (by decide +kernel) ⟨Nat.le_of_ble_eq_true rfl, Nat.le_of_ble_eq_true rfl⟩) rfl rfl (Nat.le_of_ble_eq_true rfl) dX11_jog_3 ⟨Nat.zero_le _, Nat.zero_le _⟩ (fun locs hS => ?_)
    refine q_if_eq (pc := 6) (tgt := 18) hx hb dX11_jog_6 (by decide) rfl hf (fun hf => ?_) (fun hf => ?_)
    · refine lv_iconst (pc := 18) (v := (-1)) hx hb dX11_jog_18 (by decide) ?_
      obtain rfl := Option.some.inj hf
      rw [hQ]
      exact q_iretr (pc := 19) hx hb hr hlocks rfl hS dX11_jog_19
    · refine lv_iload_n (pc := 9) hx hb dX11_jog_9 rfl (lv_at hl 3 rfl) ?_
      obtain ⟨k20, ek20, hf⟩ := q_j0_e hf
      have J20 : ∀  (H : Heap) (locs : List Loc) (ls : Array Slot), k20 = some r → H = s.heap → va_S A s.heap H locs → lv_has ls 6 [(0, .ref a_m), (1, .int p1), (2, .int p2), (3, .int p3)] → W p l e ({ frames := 3, cells := 0, slots := 0, locals := 67 } : Room) s m ([.ref a_m, .int p1, .int p2, .int p3] : List Value).toArray below meth c H locs 0 0 Q (F0 m 20 ls []) := by
        intro  H locs ls hf hHs hS hl
        subst hHs
        have hf := (ek20).symm.trans hf
        refine lv_aload_n (pc := 20) hx hb dX11_jog_20 rfl (lv_at hl 0 rfl) ?_
        refine lv_iload_n (pc := 21) hx hb dX11_jog_21 rfl (lv_at hl 1 rfl) ?_
        refine lv_iload_n (pc := 22) hx hb dX11_jog_22 rfl (lv_at hl 2 rfl) ?_
        obtain ⟨v2, hm23, hf⟩ := q_b1_e hf
        refine q_cVr (pc := 23) (As := [.int p1, .int p2]) (rest := []) (v0 := (some (.int v2))) ⟨hx, hb, hml, hown, hts⟩ hK hA hZ hP hD hS hl.1 [0, 1, 2, 3] 4 rfl ⟨rfl, rfl, rfl⟩ (c_M_rowOf l D ci A sa N (Rw) a_m a_m_cutRows a_m_cutColumns a_m_deep a_m_wide a_m_zonesAhead a_m_nameOne a_m_nameOther a_m_tape a_m_edges a_m_dist a_m_queue a_m_pieceLevel a_m_pieceKey a_m_pieceYear a_m_drawnKeys a_m_kept a_m_noNumbers m_taped m_place m_fault m_number m_levelRead m_keyRead m_reads m_faults m_cutShort m_noNumber m_bottomLat m_bottomLon m_firstBeside m_manyBeside m_queued m_boxLevel m_boxTop m_boxBottom m_boxWest m_boxEast m_isEarly m_pieces m_states m_drawnNow m_keptAt m_deep m_wide m_zonesAhead p1 p2 v2 hm23) 0 rfl rfl (cwV 2 hts gX11_jog_X11_rowOf rfl rfl rfl (by decide +kernel) ⟨Nat.le_of_ble_eq_true rfl, Nat.le_of_ble_eq_true rfl⟩) rfl rfl (Nat.le_of_ble_eq_true rfl) dX11_jog_23 ⟨Nat.zero_le _, Nat.zero_le _⟩ (fun locs hS => ?_)
        refine lv_istore (pc := 26) (lv' := [(4, .int v2), (0, .ref a_m), (1, .int p1), (2, .int p2), (3, .int p3)]) hx hb dX11_jog_26 hl (by decide) rfl (fun ls hl => ?_)
        refine lv_iload_n (pc := 28) hx hb dX11_jog_28 rfl (lv_at hl 4 rfl) ?_
        obtain ⟨k43, ek43, hf⟩ := q_j1_e hf
        have J43 : ∀ (v3 : Int32) (H : Heap) (locs : List Loc) (ls : Array Slot), k43 v3 = some r → H = s.heap → va_S A s.heap H locs → lv_has ls 6 [(0, .ref a_m), (1, .int p1), (4, .int v2)] → W p l e ({ frames := 3, cells := 0, slots := 0, locals := 67 } : Room) s m ([.ref a_m, .int p1, .int p2, .int p3] : List Value).toArray below meth c H locs 0 0 Q (F0 m 43 ls [.int v3]) := by
          intro v3 H locs ls hf hHs hS hl
          subst hHs
          have hf := (ek43 v3).symm.trans hf
          refine lv_istore (pc := 43) (lv' := [(5, .int v3), (0, .ref a_m), (1, .int p1), (4, .int v2)]) hx hb dX11_jog_43 hl (by decide) rfl (fun ls hl => ?_)
          refine lv_iload (pc := 45) hx hb dX11_jog_45 (lv_at hl 0 rfl) ?_
          refine lv_i2l (pc := 47) hx hb dX11_jog_47 rfl ?_
          refine lv_lconst (pc := 48) (v := 0) hx hb dX11_jog_48 (by decide) ?_
          refine lv_aload_n (pc := 49) hx hb dX11_jog_49 rfl (lv_at hl 1 rfl) ?_
          refine lv_iload_n (pc := 50) hx hb dX11_jog_50 rfl (lv_at hl 2 rfl) ?_
          obtain ⟨v4, hm51, hf⟩ := q_b1_e hf
          refine q_cVr (pc := 51) (As := [.int p1]) (rest := [.long 0, .long v3.toInt64]) (v0 := (some (.int v4))) ⟨hx, hb, hml, hown, hts⟩ hK hA hZ hP hD hS hl.1 [0, 1] 4 rfl ⟨rfl, rfl, rfl⟩ (c_M_lastRow l D ci A sa N (Rw) a_m a_m_cutRows a_m_cutColumns a_m_deep a_m_wide a_m_zonesAhead a_m_nameOne a_m_nameOther a_m_tape a_m_edges a_m_dist a_m_queue a_m_pieceLevel a_m_pieceKey a_m_pieceYear a_m_drawnKeys a_m_kept a_m_noNumbers m_taped m_place m_fault m_number m_levelRead m_keyRead m_reads m_faults m_cutShort m_noNumber m_bottomLat m_bottomLon m_firstBeside m_manyBeside m_queued m_boxLevel m_boxTop m_boxBottom m_boxWest m_boxEast m_isEarly m_pieces m_states m_drawnNow m_keptAt m_deep p1 v4 hm51) 0 rfl rfl (cwV 1 hts gX11_jog_X11_lastRow rfl rfl rfl (by decide +kernel) ⟨Nat.le_of_ble_eq_true rfl, Nat.le_of_ble_eq_true rfl⟩) rfl rfl (Nat.le_of_ble_eq_true rfl) dX11_jog_51 ⟨Nat.zero_le _, Nat.zero_le _⟩ (fun locs hS => ?_)
          refine lv_i2l (pc := 54) hx hb dX11_jog_54 rfl ?_
          obtain ⟨v5, hm55, hf⟩ := q_b1_e hf
          refine q_cSr (pc := 55) (As := [.long v3.toInt64, .long 0, .long v4.toInt64]) (rest := []) (v0 := (some (.int v5))) ⟨hx, hb, hml, hown, hts⟩ hK hA hZ hP hD hS hl.1 [] 4 rfl ⟨rfl, rfl, rfl⟩ (c_M_in l D ci A sa N (Rw) v3.toInt64 0 v4.toInt64 v5 hm55) (va_cwS 3 hts gX11_jog_X11_in rfl rfl rfl (by decide +kernel) ⟨Nat.le_of_ble_eq_true rfl, Nat.le_of_ble_eq_true rfl⟩) rfl rfl (Nat.le_of_ble_eq_true rfl) dX11_jog_55 ⟨Nat.zero_le _, Nat.zero_le _⟩ (fun locs hS => ?_)
          refine q_if_eq (pc := 58) (tgt := 82) hx hb dX11_jog_58 (by decide) rfl hf (fun hf => ?_) (fun hf => ?_)
          · refine lv_iconst (pc := 82) (v := 0) hx hb dX11_jog_82 (by decide) ?_
            obtain rfl := Option.some.inj hf
            rw [hQ]
            exact q_iretr (pc := 83) hx hb hr hlocks rfl hS dX11_jog_83
          · refine lv_aload_n (pc := 61) hx hb dX11_jog_61 rfl (lv_at hl 1 rfl) ?_
            refine lv_iload_n (pc := 62) hx hb dX11_jog_62 rfl (lv_at hl 2 rfl) ?_
            refine lv_iload (pc := 63) hx hb dX11_jog_63 (lv_at hl 0 rfl) ?_
            obtain ⟨v6, hm65, hf⟩ := q_b1_e hf
            refine q_cVr (pc := 65) (As := [.int p1, .int v3]) (rest := []) (v0 := (some (.int v6))) ⟨hx, hb, hml, hown, hts⟩ hK hA hZ hP hD hS hl.1 [0, 1, 2] 4 rfl ⟨rfl, rfl, rfl⟩ (c_M_many l D ci A sa N (Rw) a_m a_m_cutRows a_m_cutColumns a_m_deep a_m_wide a_m_zonesAhead a_m_nameOne a_m_nameOther a_m_tape a_m_edges a_m_dist a_m_queue a_m_pieceLevel a_m_pieceKey a_m_pieceYear a_m_drawnKeys a_m_kept a_m_noNumbers m_taped m_place m_fault m_number m_levelRead m_keyRead m_reads m_faults m_cutShort m_noNumber m_bottomLat m_bottomLon m_firstBeside m_manyBeside m_queued m_boxLevel m_boxTop m_boxBottom m_boxWest m_boxEast m_isEarly m_pieces m_states m_drawnNow m_keptAt m_deep m_wide p1 v3 v6 hm65) 0 rfl rfl (cwV 2 hts gX11_jog_X11_many rfl rfl rfl (by decide +kernel) ⟨Nat.le_of_ble_eq_true rfl, Nat.le_of_ble_eq_true rfl⟩) rfl rfl (Nat.le_of_ble_eq_true rfl) dX11_jog_65 ⟨Nat.zero_le _, Nat.zero_le _⟩ (fun locs hS => ?_)
            refine lv_aload_n (pc := 68) hx hb dX11_jog_68 rfl (lv_at hl 1 rfl) ?_
            refine lv_iload_n (pc := 69) hx hb dX11_jog_69 rfl (lv_at hl 2 rfl) ?_
            refine lv_iload (pc := 70) hx hb dX11_jog_70 (lv_at hl 3 rfl) ?_
            obtain ⟨v7, hm72, hf⟩ := q_b1_e hf
            refine q_cVr (pc := 72) (As := [.int p1, .int v2]) (rest := [.int v6]) (v0 := (some (.int v7))) ⟨hx, hb, hml, hown, hts⟩ hK hA hZ hP hD hS hl.1 [0, 1, 2] 4 rfl ⟨rfl, rfl, rfl⟩ (c_M_many l D ci A sa N (Rw) a_m a_m_cutRows a_m_cutColumns a_m_deep a_m_wide a_m_zonesAhead a_m_nameOne a_m_nameOther a_m_tape a_m_edges a_m_dist a_m_queue a_m_pieceLevel a_m_pieceKey a_m_pieceYear a_m_drawnKeys a_m_kept a_m_noNumbers m_taped m_place m_fault m_number m_levelRead m_keyRead m_reads m_faults m_cutShort m_noNumber m_bottomLat m_bottomLon m_firstBeside m_manyBeside m_queued m_boxLevel m_boxTop m_boxBottom m_boxWest m_boxEast m_isEarly m_pieces m_states m_drawnNow m_keptAt m_deep m_wide p1 v2 v7 hm72) 0 rfl rfl (cwV 2 hts gX11_jog_X11_many rfl rfl rfl (by decide +kernel) ⟨Nat.le_of_ble_eq_true rfl, Nat.le_of_ble_eq_true rfl⟩) rfl rfl (Nat.le_of_ble_eq_true rfl) dX11_jog_72 ⟨Nat.zero_le _, Nat.zero_le _⟩ (fun locs hS => ?_)
            refine q_icmp_eq (pc := 75) (tgt := 82) hx hb dX11_jog_75 (by decide) rfl hf (fun hf => ?_) (fun hf => ?_)
            · refine lv_iconst (pc := 82) (v := 0) hx hb dX11_jog_82 (by decide) ?_
              obtain rfl := Option.some.inj hf
              rw [hQ]
              exact q_iretr (pc := 83) hx hb hr hlocks rfl hS dX11_jog_83
            · refine lv_iconst (pc := 78) (v := 1) hx hb dX11_jog_78 (by decide) ?_
              refine lv_goto (pc := 79) (tgt := 83) hx hb dX11_jog_79 (by decide) ?_
              obtain rfl := Option.some.inj hf
              rw [hQ]
              exact q_iretr (pc := 83) hx hb hr hlocks rfl hS dX11_jog_83
        refine q_if_ne (pc := 29) (tgt := 39) hx hb dX11_jog_29 (by decide) rfl hf (fun hf => ?_) (fun hf => ?_)
        · refine lv_iload (pc := 39) hx hb dX11_jog_39 (lv_at hl 0 rfl) ?_
          refine lv_iconst (pc := 41) (v := 1) hx hb dX11_jog_41 (by decide) ?_
          refine lv_iadd (pc := 42) hx hb dX11_jog_42 ?_
          exact J43 (v2 + 1) _ _ _ hf rfl hS (lv_sub hl [1, 2, 0] rfl)
        · refine lv_iload (pc := 32) hx hb dX11_jog_32 (lv_at hl 0 rfl) ?_
          refine lv_iconst (pc := 34) (v := 1) hx hb dX11_jog_34 (by decide) ?_
          refine lv_isub (pc := 35) hx hb dX11_jog_35 ?_
          refine lv_goto (pc := 36) (tgt := 43) hx hb dX11_jog_36 (by decide) ?_
          exact J43 (v2 - 1) _ _ _ hf rfl hS (lv_sub hl [1, 2, 0] rfl)
      refine q_if_eq (pc := 10) (tgt := 20) hx hb dX11_jog_10 (by decide) rfl hf (fun hf => ?_) (fun hf => ?_)
      · exact J20  _ _ _ hf rfl hS (lv_sub hl [0, 1, 2, 3] rfl)
      · refine lv_iload_n (pc := 13) hx hb dX11_jog_13 rfl (lv_at hl 3 rfl) ?_
        refine lv_iconst (pc := 14) (v := 2) hx hb dX11_jog_14 (by decide) ?_
        refine q_icmp_eq (pc := 15) (tgt := 20) hx hb dX11_jog_15 (by decide) rfl hf (fun hf => ?_) (fun hf => ?_)
        · exact J20  _ _ _ hf rfl hS (lv_sub hl [0, 1, 2, 3] rfl)
        · refine lv_iconst (pc := 18) (v := (-1)) hx hb dX11_jog_18 (by decide) ?_
          obtain rfl := Option.some.inj hf
          rw [hQ]
          exact q_iretr (pc := 19) hx hb hr hlocks rfl hS dX11_jog_19
  exact hgo _ _ rfl hP hS
/-! X11_keeps -/
set_option maxRecDepth 100000 in
set_option maxHeartbeats 4000000 in
theorem c_M_keeps (l : Launch) (D : va_G) (ci : Nat → ClassId) (A : Nat → Prop) (sa : Nat → Nat) (N : Nat) (Rw : va_W) (a_m : Nat) (a_m_cutRows : Nat) (a_m_cutColumns : Nat) (a_m_deep : Nat) (a_m_wide : Nat) (a_m_zonesAhead : Nat) (a_m_nameOne : Nat) (a_m_nameOther : Nat) (a_m_tape : Nat) (a_m_edges : Nat) (a_m_dist : Nat) (a_m_queue : Nat) (a_m_pieceLevel : Nat) (a_m_pieceKey : Nat) (a_m_pieceYear : Nat) (a_m_drawnKeys : Nat) (a_m_kept : Nat) (a_m_noNumbers : Nat) (m_taped : Int32) (m_place : Int32) (m_fault : Int32) (m_number : Int32) (m_levelRead : Int32) (m_keyRead : Int32) (m_reads : Int32) (m_faults : Int32) (m_cutShort : Int32) (m_noNumber : Int32) (m_bottomLat : Int64) (m_bottomLon : Int64) (m_firstBeside : Int32) (m_manyBeside : Int32) (m_queued : Int32) (m_boxLevel : Int32) (m_boxTop : Int32) (m_boxBottom : Int32) (m_boxWest : Int32) (m_boxEast : Int32) (m_isEarly : Int32) (m_pieces : Int32) (m_states : Int32) (m_drawnNow : Int32) (m_keptAt : Int32) (m_kept : Nat → Int32) (p1 : Int32) (o1 : Nat → Int32) (o2 : Int32) (hf : f_M_keeps m_kept m_keptAt p1 = some (o1, o2)) : Met l yX11_keeps wsX11_keeps ({ frames := 0, cells := 0, slots := 0, locals := 0 }) (va_Pc [.ref a_m, .int p1] (q_N D ci A sa ((a_m, .inr (11, (.ref a_m_cutRows :: .ref a_m_cutColumns :: .ref a_m_deep :: .ref a_m_wide :: .ref a_m_zonesAhead :: .ref a_m_nameOne :: .ref a_m_nameOther :: .ref a_m_tape :: .int m_taped :: .int m_place :: .int m_fault :: .int m_number :: .int m_levelRead :: .int m_keyRead :: .int m_reads :: .int m_faults :: .int m_cutShort :: .int m_noNumber :: .long m_bottomLat :: .long m_bottomLon :: .ref a_m_edges :: .int m_firstBeside :: .int m_manyBeside :: .ref a_m_dist :: .ref a_m_queue :: .int m_queued :: .int m_boxLevel :: .int m_boxTop :: .int m_boxBottom :: .int m_boxWest :: .int m_boxEast :: .int m_isEarly :: .int m_pieces :: .int m_states :: .ref a_m_pieceLevel :: .ref a_m_pieceKey :: .ref a_m_pieceYear :: .int m_drawnNow :: .ref a_m_drawnKeys :: .ref a_m_kept :: .int m_keptAt :: .ref a_m_noNumbers :: []))) :: (a_m_kept, .inl (ci 0, 1552, .inl m_kept)) :: Rw))) (q_Q none (q_O D A ((a_m, .inr (11, (.ref a_m_cutRows :: .ref a_m_cutColumns :: .ref a_m_deep :: .ref a_m_wide :: .ref a_m_zonesAhead :: .ref a_m_nameOne :: .ref a_m_nameOther :: .ref a_m_tape :: .int m_taped :: .int m_place :: .int m_fault :: .int m_number :: .int m_levelRead :: .int m_keyRead :: .int m_reads :: .int m_faults :: .int m_cutShort :: .int m_noNumber :: .long m_bottomLat :: .long m_bottomLon :: .ref a_m_edges :: .int m_firstBeside :: .int m_manyBeside :: .ref a_m_dist :: .ref a_m_queue :: .int m_queued :: .int m_boxLevel :: .int m_boxTop :: .int m_boxBottom :: .int m_boxWest :: .int m_boxEast :: .int m_isEarly :: .int m_pieces :: .int m_states :: .ref a_m_pieceLevel :: .ref a_m_pieceKey :: .ref a_m_pieceYear :: .int m_drawnNow :: .ref a_m_drawnKeys :: .ref a_m_kept :: .int o2 :: .ref a_m_noNumbers :: []))) :: (a_m_kept, .inl (ci 0, 1552, .inl o1)) :: Rw)) A) 0 0 A := by
  refine q_ofW (cc := cX11_keeps) (maxL := 2) (ret := none) [.ref a_m, .int p1] (plainFor_of_name (by decide)) rfl (Nat.le_of_ble_eq_true rfl) ?_
  intro p e s m below meth c ls Q hQ hx hb hml hr hts hown hlocks hK hA hZ hP hD hS hl
  have hl : lv_has ls 2 [(0, .ref a_m), (1, .int p1)] := hl
  have hown : s.vm.findClass RX11 = some m.cls := hown
  have hinX11 : ∀ w ∈ wsX110, w ∈ wsX11_keeps := fun _ h => List.mem_cons_of_mem _ (inWX110 _ h)
  have w_1 := hts (Cond.fieldLink RX11 57 "SheetNamesModel" "kept" "[I") (List.mem_cons_of_mem _ t_w990)
  have w_2 := hts (Cond.fieldLink RX11 443 "SheetNamesModel" "keptAt" "I") (List.mem_cons_of_mem _ t_w991)
  unfold f_M_keeps at hf
  have hgo : ∀ (H : Heap) (locs : List Loc), H = s.heap → va_P D vwCl ((a_m, .inr (11, (.ref a_m_cutRows :: .ref a_m_cutColumns :: .ref a_m_deep :: .ref a_m_wide :: .ref a_m_zonesAhead :: .ref a_m_nameOne :: .ref a_m_nameOther :: .ref a_m_tape :: .int m_taped :: .int m_place :: .int m_fault :: .int m_number :: .int m_levelRead :: .int m_keyRead :: .int m_reads :: .int m_faults :: .int m_cutShort :: .int m_noNumber :: .long m_bottomLat :: .long m_bottomLon :: .ref a_m_edges :: .int m_firstBeside :: .int m_manyBeside :: .ref a_m_dist :: .ref a_m_queue :: .int m_queued :: .int m_boxLevel :: .int m_boxTop :: .int m_boxBottom :: .int m_boxWest :: .int m_boxEast :: .int m_isEarly :: .int m_pieces :: .int m_states :: .ref a_m_pieceLevel :: .ref a_m_pieceKey :: .ref a_m_pieceYear :: .int m_drawnNow :: .ref a_m_drawnKeys :: .ref a_m_kept :: .int m_keptAt :: .ref a_m_noNumbers :: []))) :: (a_m_kept, .inl (ci 0, 1552, .inl m_kept)) :: Rw) H → va_S A s.heap H locs → W p l e ({ frames := 0, cells := 0, slots := 0, locals := 0 } : Room) s m ([.ref a_m, .int p1] : List Value).toArray below meth c H locs 0 0 Q (F0 m 0 ls []) := by
    intro H locs hH hP hS
    refine lv_aload_n (pc := 0) hx hb dX11_keeps_0 rfl (lv_at hl 0 rfl) ?_
    refine va_get (pc := 1) (D := D) (ci := 11) (v := .ref a_m_kept) (C := RX11) (T := TX11) (N := 42) hx hb hts hinX11 hown hK hP 0 rfl rfl 39 (by decide) w_1 (fun _ h9 => h9) rfl dX11_keeps_1 ?_
    refine lv_aload_n (pc := 4) hx hb dX11_keeps_4 rfl (lv_at hl 0 rfl) ?_
    refine va_get (pc := 5) (D := D) (ci := 11) (v := .int m_keptAt) (C := RX11) (T := TX11) (N := 42) hx hb hts hinX11 hown hK hP 0 rfl rfl 40 (by decide) w_2 (fun _ h9 => h9) rfl dX11_keeps_5 ?_
    refine lv_iload_n (pc := 8) hx hb dX11_keeps_8 rfl (lv_at hl 1 rfl) ?_
    refine q_iast (pc := 9) hx hb hK hP hD hS 1 0 hf rfl rfl dX11_keeps_9 (fun f1 H locs hf hP hD hS => ?_)
    obtain ⟨hP, hD⟩ : va_PD D A ((a_m, .inr (11, (.ref a_m_cutRows :: .ref a_m_cutColumns :: .ref a_m_deep :: .ref a_m_wide :: .ref a_m_zonesAhead :: .ref a_m_nameOne :: .ref a_m_nameOther :: .ref a_m_tape :: .int m_taped :: .int m_place :: .int m_fault :: .int m_number :: .int m_levelRead :: .int m_keyRead :: .int m_reads :: .int m_faults :: .int m_cutShort :: .int m_noNumber :: .long m_bottomLat :: .long m_bottomLon :: .ref a_m_edges :: .int m_firstBeside :: .int m_manyBeside :: .ref a_m_dist :: .ref a_m_queue :: .int m_queued :: .int m_boxLevel :: .int m_boxTop :: .int m_boxBottom :: .int m_boxWest :: .int m_boxEast :: .int m_isEarly :: .int m_pieces :: .int m_states :: .ref a_m_pieceLevel :: .ref a_m_pieceKey :: .ref a_m_pieceYear :: .int m_drawnNow :: .ref a_m_drawnKeys :: .ref a_m_kept :: .int m_keptAt :: .ref a_m_noNumbers :: []))) :: (a_m_kept, .inl (ci 0, 1552, .inl f1)) :: Rw) H := ⟨hP, hD⟩
    refine lv_aload_n (pc := 10) hx hb dX11_keeps_10 rfl (lv_at hl 0 rfl) ?_
    refine lv_aload_n (pc := 11) hx hb dX11_keeps_11 rfl (lv_at hl 0 rfl) ?_
    refine va_get (pc := 12) (D := D) (ci := 11) (v := .int m_keptAt) (C := RX11) (T := TX11) (N := 42) hx hb hts hinX11 hown hK hP 0 rfl rfl 40 (by decide) w_2 (fun _ h9 => h9) rfl dX11_keeps_12 ?_
    refine lv_iconst (pc := 15) (v := 1) hx hb dX11_keeps_15 (by decide) ?_
    refine lv_iadd (pc := 16) hx hb dX11_keeps_16 ?_
    obtain ⟨v2, ev2, hf⟩ := q_nm_e hf
    refine q_topi ev2 ?_
    refine va_put (pc := 17) (D := D) (ci := 11) (v := .int v2) (ty := .int) (C := RX11) (T := TX11) (N := 42) hx hb hts hinX11 tyX11 tyX11_ok nmX11 hown hK hP hD hS 0 rfl rfl 40 (by decide) w_2 (fun _ h9 => h9) rfl (by decide +kernel) rfl rfl (Nat.le_of_ble_eq_true rfl) dX11_keeps_17 (fun H locs hP hD hS => ?_)
    obtain ⟨hP, hD⟩ : va_PD D A ((a_m, .inr (11, (.ref a_m_cutRows :: .ref a_m_cutColumns :: .ref a_m_deep :: .ref a_m_wide :: .ref a_m_zonesAhead :: .ref a_m_nameOne :: .ref a_m_nameOther :: .ref a_m_tape :: .int m_taped :: .int m_place :: .int m_fault :: .int m_number :: .int m_levelRead :: .int m_keyRead :: .int m_reads :: .int m_faults :: .int m_cutShort :: .int m_noNumber :: .long m_bottomLat :: .long m_bottomLon :: .ref a_m_edges :: .int m_firstBeside :: .int m_manyBeside :: .ref a_m_dist :: .ref a_m_queue :: .int m_queued :: .int m_boxLevel :: .int m_boxTop :: .int m_boxBottom :: .int m_boxWest :: .int m_boxEast :: .int m_isEarly :: .int m_pieces :: .int m_states :: .ref a_m_pieceLevel :: .ref a_m_pieceKey :: .ref a_m_pieceYear :: .int m_drawnNow :: .ref a_m_drawnKeys :: .ref a_m_kept :: .int v2 :: .ref a_m_noNumbers :: []))) :: (a_m_kept, .inl (ci 0, 1552, .inl f1)) :: Rw) H := ⟨hP, hD⟩
    obtain ⟨rfl, rfl⟩ := q_inj2 (Option.some.inj hf)
    rw [hQ]
    exact q_vret (pc := 20) hx hb hr hlocks hP hD hS dX11_keeps_20
  exact hgo _ _ rfl hP hS
/-! X11_keep -/
set_option maxRecDepth 100000 in
set_option maxHeartbeats 4000000 in
theorem c_M_keep (l : Launch) (D : va_G) (ci : Nat → ClassId) (A : Nat → Prop) (sa : Nat → Nat) (N : Nat) (Rw : va_W) (a_m : Nat) (a_m_cutRows : Nat) (a_m_cutColumns : Nat) (a_m_deep : Nat) (a_m_wide : Nat) (a_m_zonesAhead : Nat) (a_m_nameOne : Nat) (a_m_nameOther : Nat) (a_m_tape : Nat) (a_m_edges : Nat) (a_m_dist : Nat) (a_m_queue : Nat) (a_m_pieceLevel : Nat) (a_m_pieceKey : Nat) (a_m_pieceYear : Nat) (a_m_drawnKeys : Nat) (a_m_kept : Nat) (a_m_noNumbers : Nat) (m_taped : Int32) (m_place : Int32) (m_fault : Int32) (m_number : Int32) (m_levelRead : Int32) (m_keyRead : Int32) (m_reads : Int32) (m_faults : Int32) (m_cutShort : Int32) (m_noNumber : Int32) (m_bottomLat : Int64) (m_bottomLon : Int64) (m_firstBeside : Int32) (m_manyBeside : Int32) (m_queued : Int32) (m_boxLevel : Int32) (m_boxTop : Int32) (m_boxBottom : Int32) (m_boxWest : Int32) (m_boxEast : Int32) (m_isEarly : Int32) (m_pieces : Int32) (m_states : Int32) (m_drawnNow : Int32) (m_keptAt : Int32) (m_cutRows : Nat → Int32) (m_cutColumns : Nat → Int32) (m_pieceLevel : Nat → Int32) (m_pieceKey : Nat → Int32) (m_pieceYear : Nat → Int32) (m_kept : Nat → Int32) (m_noNumbers : Nat → Int32) (r : Int32) (o1 : Int32) (o2 : Nat → Int32) (o3 : Int32) (o4 : Nat → Int32) (hf : f_M_keep N m_cutRows m_cutColumns m_reads m_faults m_cutShort m_noNumber m_pieces m_states m_pieceLevel m_pieceKey m_pieceYear m_kept m_keptAt m_noNumbers = some (r, o1, o2, o3, o4)) : Met l yX11_keep wsX11_keep ({ frames := 1, cells := 0, slots := 0, locals := 21 }) (va_Pc [.ref a_m] (q_N D ci A sa ((a_m, .inr (11, (.ref a_m_cutRows :: .ref a_m_cutColumns :: .ref a_m_deep :: .ref a_m_wide :: .ref a_m_zonesAhead :: .ref a_m_nameOne :: .ref a_m_nameOther :: .ref a_m_tape :: .int m_taped :: .int m_place :: .int m_fault :: .int m_number :: .int m_levelRead :: .int m_keyRead :: .int m_reads :: .int m_faults :: .int m_cutShort :: .int m_noNumber :: .long m_bottomLat :: .long m_bottomLon :: .ref a_m_edges :: .int m_firstBeside :: .int m_manyBeside :: .ref a_m_dist :: .ref a_m_queue :: .int m_queued :: .int m_boxLevel :: .int m_boxTop :: .int m_boxBottom :: .int m_boxWest :: .int m_boxEast :: .int m_isEarly :: .int m_pieces :: .int m_states :: .ref a_m_pieceLevel :: .ref a_m_pieceKey :: .ref a_m_pieceYear :: .int m_drawnNow :: .ref a_m_drawnKeys :: .ref a_m_kept :: .int m_keptAt :: .ref a_m_noNumbers :: []))) :: (a_m_cutRows, .inl (ci 0, 5, .inl m_cutRows)) :: (a_m_cutColumns, .inl (ci 0, 5, .inl m_cutColumns)) :: (a_m_pieceLevel, .inl (ci 0, 60, .inl m_pieceLevel)) :: (a_m_pieceKey, .inl (ci 0, 60, .inl m_pieceKey)) :: (a_m_pieceYear, .inl (ci 0, 60, .inl m_pieceYear)) :: (a_m_kept, .inl (ci 0, 1552, .inl m_kept)) :: (a_m_noNumbers, .inl (ci 0, 8, .inl m_noNumbers)) :: Rw))) (q_Q (some (.int r)) (q_O D A ((a_m, .inr (11, (.ref a_m_cutRows :: .ref a_m_cutColumns :: .ref a_m_deep :: .ref a_m_wide :: .ref a_m_zonesAhead :: .ref a_m_nameOne :: .ref a_m_nameOther :: .ref a_m_tape :: .int m_taped :: .int m_place :: .int m_fault :: .int m_number :: .int m_levelRead :: .int m_keyRead :: .int m_reads :: .int m_faults :: .int m_cutShort :: .int m_noNumber :: .long m_bottomLat :: .long m_bottomLon :: .ref a_m_edges :: .int m_firstBeside :: .int m_manyBeside :: .ref a_m_dist :: .ref a_m_queue :: .int m_queued :: .int m_boxLevel :: .int m_boxTop :: .int m_boxBottom :: .int m_boxWest :: .int m_boxEast :: .int m_isEarly :: .int m_pieces :: .int o1 :: .ref a_m_pieceLevel :: .ref a_m_pieceKey :: .ref a_m_pieceYear :: .int m_drawnNow :: .ref a_m_drawnKeys :: .ref a_m_kept :: .int o3 :: .ref a_m_noNumbers :: []))) :: (a_m_cutRows, .inl (ci 0, 5, .inl m_cutRows)) :: (a_m_cutColumns, .inl (ci 0, 5, .inl m_cutColumns)) :: (a_m_pieceLevel, .inl (ci 0, 60, .inl m_pieceLevel)) :: (a_m_pieceKey, .inl (ci 0, 60, .inl m_pieceKey)) :: (a_m_pieceYear, .inl (ci 0, 60, .inl m_pieceYear)) :: (a_m_kept, .inl (ci 0, 1552, .inl o2)) :: (a_m_noNumbers, .inl (ci 0, 8, .inl o4)) :: Rw)) A) 0 0 A := by
  refine q_ofW (cc := cX11_keep) (maxL := 2) (ret := (some .int)) [.ref a_m] (plainFor_of_name (by decide)) rfl (Nat.le_of_ble_eq_true rfl) ?_
  intro p e s m below meth c ls Q hQ hx hb hml hr hts hown hlocks hK hA hZ hP hD hS hl
  have hl : lv_has ls 2 [(0, .ref a_m)] := hl
  have hown : s.vm.findClass RX11 = some m.cls := hown
  have hinX11 : ∀ w ∈ wsX110, w ∈ wsX11_keep := fun _ h => List.mem_cons_of_mem _ (inWX110 _ h)
  have w_1 := hts (Cond.fieldLink RX11 440 "SheetNamesModel" "states" "I") (List.mem_cons_of_mem _ t_w973)
  have w_2 := hts (Cond.fieldLink RX11 443 "SheetNamesModel" "keptAt" "I") (List.mem_cons_of_mem _ t_w991)
  have w_3 := hts (Cond.fieldLink RX11 7 "SheetNamesModel" "cutRows" "[I") (List.mem_cons_of_mem _ t_w924)
  have w_4 := hts (Cond.fieldLink RX11 13 "SheetNamesModel" "cutColumns" "[I") (List.mem_cons_of_mem _ t_w923)
  have w_5 := hts (Cond.fieldLink RX11 123 "SheetNamesModel" "pieces" "I") (List.mem_cons_of_mem _ t_w972)
  have w_6 := hts (Cond.fieldLink RX11 199 "SheetNamesModel" "reads" "I") (List.mem_cons_of_mem _ t_w926)
  have w_7 := hts (Cond.fieldLink RX11 202 "SheetNamesModel" "faults" "I") (List.mem_cons_of_mem _ t_w927)
  have w_8 := hts (Cond.fieldLink RX11 205 "SheetNamesModel" "cutShort" "I") (List.mem_cons_of_mem _ t_w928)
  have w_9 := hts (Cond.fieldLink RX11 45 "SheetNamesModel" "pieceLevel" "[I") (List.mem_cons_of_mem _ t_w982)
  have w_10 := hts (Cond.fieldLink RX11 48 "SheetNamesModel" "pieceKey" "[I") (List.mem_cons_of_mem _ t_w983)
  have w_11 := hts (Cond.fieldLink RX11 51 "SheetNamesModel" "pieceYear" "[I") (List.mem_cons_of_mem _ t_w984)
  have w_12 := hts (Cond.fieldLink RX11 60 "SheetNamesModel" "noNumbers" "[I") (List.mem_cons_of_mem _ t_w992)
  have w_13 := hts (Cond.fieldLink RX11 208 "SheetNamesModel" "noNumber" "I") (List.mem_cons_of_mem _ t_w929)
  unfold f_M_keep at hf
  have hgo : ∀ (H : Heap) (locs : List Loc), H = s.heap → va_P D vwCl ((a_m, .inr (11, (.ref a_m_cutRows :: .ref a_m_cutColumns :: .ref a_m_deep :: .ref a_m_wide :: .ref a_m_zonesAhead :: .ref a_m_nameOne :: .ref a_m_nameOther :: .ref a_m_tape :: .int m_taped :: .int m_place :: .int m_fault :: .int m_number :: .int m_levelRead :: .int m_keyRead :: .int m_reads :: .int m_faults :: .int m_cutShort :: .int m_noNumber :: .long m_bottomLat :: .long m_bottomLon :: .ref a_m_edges :: .int m_firstBeside :: .int m_manyBeside :: .ref a_m_dist :: .ref a_m_queue :: .int m_queued :: .int m_boxLevel :: .int m_boxTop :: .int m_boxBottom :: .int m_boxWest :: .int m_boxEast :: .int m_isEarly :: .int m_pieces :: .int m_states :: .ref a_m_pieceLevel :: .ref a_m_pieceKey :: .ref a_m_pieceYear :: .int m_drawnNow :: .ref a_m_drawnKeys :: .ref a_m_kept :: .int m_keptAt :: .ref a_m_noNumbers :: []))) :: (a_m_cutRows, .inl (ci 0, 5, .inl m_cutRows)) :: (a_m_cutColumns, .inl (ci 0, 5, .inl m_cutColumns)) :: (a_m_pieceLevel, .inl (ci 0, 60, .inl m_pieceLevel)) :: (a_m_pieceKey, .inl (ci 0, 60, .inl m_pieceKey)) :: (a_m_pieceYear, .inl (ci 0, 60, .inl m_pieceYear)) :: (a_m_kept, .inl (ci 0, 1552, .inl m_kept)) :: (a_m_noNumbers, .inl (ci 0, 8, .inl m_noNumbers)) :: Rw) H → va_S A s.heap H locs → W p l e ({ frames := 1, cells := 0, slots := 0, locals := 21 } : Room) s m ([.ref a_m] : List Value).toArray below meth c H locs 0 0 Q (F0 m 0 ls []) := by
    intro H locs hH hP hS
    refine lv_aload_n (pc := 0) hx hb dX11_keep_0 rfl (lv_at hl 0 rfl) ?_
    refine va_get (pc := 1) (D := D) (ci := 11) (v := .int m_states) (C := RX11) (T := TX11) (N := 42) hx hb hts hinX11 hown hK hP 0 rfl rfl 33 (by decide) w_1 (fun _ h9 => h9) rfl dX11_keep_1 ?_
    refine lv_bipush (pc := 4) (v := 8) hx hb dX11_keep_4 (by decide) ?_
    refine q_icmp_ne (pc := 6) (tgt := 11) hx hb dX11_keep_6 (by decide) rfl hf (fun hf => ?_) (fun hf => ?_)
    · refine lv_aload_n (pc := 11) hx hb dX11_keep_11 rfl (lv_at hl 0 rfl) ?_
      refine lv_sipush (pc := 12) (v := 194) hx hb dX11_keep_12 (by decide) ?_
      refine lv_aload_n (pc := 15) hx hb dX11_keep_15 rfl (lv_at hl 0 rfl) ?_
      refine va_get (pc := 16) (D := D) (ci := 11) (v := .int m_states) (C := RX11) (T := TX11) (N := 42) hx hb hts hinX11 hown hK hP 0 rfl rfl 33 (by decide) w_1 (fun _ h9 => h9) rfl dX11_keep_16 ?_
      refine lv_imul (pc := 19) hx hb dX11_keep_19 ?_
      obtain ⟨v1, ev1, hf⟩ := q_nm_e hf
      refine q_topi ev1 ?_
      refine va_put (pc := 20) (D := D) (ci := 11) (v := .int v1) (ty := .int) (C := RX11) (T := TX11) (N := 42) hx hb hts hinX11 tyX11 tyX11_ok nmX11 hown hK hP hD hS 0 rfl rfl 40 (by decide) w_2 (fun _ h9 => h9) rfl (by decide +kernel) rfl rfl (Nat.le_of_ble_eq_true rfl) dX11_keep_20 (fun H locs hP hD hS => ?_)
      obtain ⟨hP, hD⟩ : va_PD D A ((a_m, .inr (11, (.ref a_m_cutRows :: .ref a_m_cutColumns :: .ref a_m_deep :: .ref a_m_wide :: .ref a_m_zonesAhead :: .ref a_m_nameOne :: .ref a_m_nameOther :: .ref a_m_tape :: .int m_taped :: .int m_place :: .int m_fault :: .int m_number :: .int m_levelRead :: .int m_keyRead :: .int m_reads :: .int m_faults :: .int m_cutShort :: .int m_noNumber :: .long m_bottomLat :: .long m_bottomLon :: .ref a_m_edges :: .int m_firstBeside :: .int m_manyBeside :: .ref a_m_dist :: .ref a_m_queue :: .int m_queued :: .int m_boxLevel :: .int m_boxTop :: .int m_boxBottom :: .int m_boxWest :: .int m_boxEast :: .int m_isEarly :: .int m_pieces :: .int m_states :: .ref a_m_pieceLevel :: .ref a_m_pieceKey :: .ref a_m_pieceYear :: .int m_drawnNow :: .ref a_m_drawnKeys :: .ref a_m_kept :: .int v1 :: .ref a_m_noNumbers :: []))) :: (a_m_cutRows, .inl (ci 0, 5, .inl m_cutRows)) :: (a_m_cutColumns, .inl (ci 0, 5, .inl m_cutColumns)) :: (a_m_pieceLevel, .inl (ci 0, 60, .inl m_pieceLevel)) :: (a_m_pieceKey, .inl (ci 0, 60, .inl m_pieceKey)) :: (a_m_pieceYear, .inl (ci 0, 60, .inl m_pieceYear)) :: (a_m_kept, .inl (ci 0, 1552, .inl m_kept)) :: (a_m_noNumbers, .inl (ci 0, 8, .inl m_noNumbers)) :: Rw) H := ⟨hP, hD⟩
      refine lv_iconst (pc := 23) (v := 0) hx hb dX11_keep_23 (by decide) ?_
      obtain ⟨v2, ev2, hf⟩ := q_nm_e hf
      refine q_topi ev2 ?_
      refine lv_istore_n (pc := 24) (lv' := [(1, .int v2), (0, .ref a_m)]) hx hb dX11_keep_24 rfl hl (by decide) rfl (fun ls hl => ?_)
      obtain ⟨f6, v7, hm25, hf⟩ := q_b2_e hf
      have JE25 : ∀ (H : Heap) (locs : List Loc) (ls : Array Slot), va_P D vwCl ((a_m, .inr (11, (.ref a_m_cutRows :: .ref a_m_cutColumns :: .ref a_m_deep :: .ref a_m_wide :: .ref a_m_zonesAhead :: .ref a_m_nameOne :: .ref a_m_nameOther :: .ref a_m_tape :: .int m_taped :: .int m_place :: .int m_fault :: .int m_number :: .int m_levelRead :: .int m_keyRead :: .int m_reads :: .int m_faults :: .int m_cutShort :: .int m_noNumber :: .long m_bottomLat :: .long m_bottomLon :: .ref a_m_edges :: .int m_firstBeside :: .int m_manyBeside :: .ref a_m_dist :: .ref a_m_queue :: .int m_queued :: .int m_boxLevel :: .int m_boxTop :: .int m_boxBottom :: .int m_boxWest :: .int m_boxEast :: .int m_isEarly :: .int m_pieces :: .int m_states :: .ref a_m_pieceLevel :: .ref a_m_pieceKey :: .ref a_m_pieceYear :: .int m_drawnNow :: .ref a_m_drawnKeys :: .ref a_m_kept :: .int v7 :: .ref a_m_noNumbers :: []))) :: (a_m_cutRows, .inl (ci 0, 5, .inl m_cutRows)) :: (a_m_cutColumns, .inl (ci 0, 5, .inl m_cutColumns)) :: (a_m_pieceLevel, .inl (ci 0, 60, .inl m_pieceLevel)) :: (a_m_pieceKey, .inl (ci 0, 60, .inl m_pieceKey)) :: (a_m_pieceYear, .inl (ci 0, 60, .inl m_pieceYear)) :: (a_m_kept, .inl (ci 0, 1552, .inl f6)) :: (a_m_noNumbers, .inl (ci 0, 8, .inl m_noNumbers)) :: Rw) H → va_D A ((a_m, .inr (11, (.ref a_m_cutRows :: .ref a_m_cutColumns :: .ref a_m_deep :: .ref a_m_wide :: .ref a_m_zonesAhead :: .ref a_m_nameOne :: .ref a_m_nameOther :: .ref a_m_tape :: .int m_taped :: .int m_place :: .int m_fault :: .int m_number :: .int m_levelRead :: .int m_keyRead :: .int m_reads :: .int m_faults :: .int m_cutShort :: .int m_noNumber :: .long m_bottomLat :: .long m_bottomLon :: .ref a_m_edges :: .int m_firstBeside :: .int m_manyBeside :: .ref a_m_dist :: .ref a_m_queue :: .int m_queued :: .int m_boxLevel :: .int m_boxTop :: .int m_boxBottom :: .int m_boxWest :: .int m_boxEast :: .int m_isEarly :: .int m_pieces :: .int m_states :: .ref a_m_pieceLevel :: .ref a_m_pieceKey :: .ref a_m_pieceYear :: .int m_drawnNow :: .ref a_m_drawnKeys :: .ref a_m_kept :: .int v7 :: .ref a_m_noNumbers :: []))) :: (a_m_cutRows, .inl (ci 0, 5, .inl m_cutRows)) :: (a_m_cutColumns, .inl (ci 0, 5, .inl m_cutColumns)) :: (a_m_pieceLevel, .inl (ci 0, 60, .inl m_pieceLevel)) :: (a_m_pieceKey, .inl (ci 0, 60, .inl m_pieceKey)) :: (a_m_pieceYear, .inl (ci 0, 60, .inl m_pieceYear)) :: (a_m_kept, .inl (ci 0, 1552, .inl f6)) :: (a_m_noNumbers, .inl (ci 0, 8, .inl m_noNumbers)) :: Rw) → va_S A s.heap H locs → lv_has ls 2 [(0, .ref a_m)] → W p l e ({ frames := 1, cells := 0, slots := 0, locals := 21 } : Room) s m ([.ref a_m] : List Value).toArray below meth c H locs 0 0 Q (F0 m 56 ls []) := by
        intro H locs ls hP hD hS hl
        refine lv_aload_n (pc := 56) hx hb dX11_keep_56 rfl (lv_at hl 0 rfl) ?_
        refine lv_aload_n (pc := 57) hx hb dX11_keep_57 rfl (lv_at hl 0 rfl) ?_
        refine va_get (pc := 58) (D := D) (ci := 11) (v := .int m_pieces) (C := RX11) (T := TX11) (N := 42) hx hb hts hinX11 hown hK hP 0 rfl rfl 32 (by decide) w_5 (fun _ h9 => h9) rfl dX11_keep_58 ?_
        obtain ⟨f8, v9, hm61, hf⟩ := q_b2_e hf
        refine q_cV (pc := 61) (As := [.int m_pieces]) (rest := []) (v0 := none) ⟨hx, hb, hml, hown, hts⟩ hK hA hZ hP hD hS hl.1 [0, 6, 1, 2, 3, 4, 5, 7] 8 rfl ⟨rfl, rfl, rfl⟩ (c_M_keeps l D ci A sa N ((a_m_cutRows, .inl (ci 0, 5, .inl m_cutRows)) :: (a_m_cutColumns, .inl (ci 0, 5, .inl m_cutColumns)) :: (a_m_pieceLevel, .inl (ci 0, 60, .inl m_pieceLevel)) :: (a_m_pieceKey, .inl (ci 0, 60, .inl m_pieceKey)) :: (a_m_pieceYear, .inl (ci 0, 60, .inl m_pieceYear)) :: (a_m_noNumbers, .inl (ci 0, 8, .inl m_noNumbers)) :: Rw) a_m a_m_cutRows a_m_cutColumns a_m_deep a_m_wide a_m_zonesAhead a_m_nameOne a_m_nameOther a_m_tape a_m_edges a_m_dist a_m_queue a_m_pieceLevel a_m_pieceKey a_m_pieceYear a_m_drawnKeys a_m_kept a_m_noNumbers m_taped m_place m_fault m_number m_levelRead m_keyRead m_reads m_faults m_cutShort m_noNumber m_bottomLat m_bottomLon m_firstBeside m_manyBeside m_queued m_boxLevel m_boxTop m_boxBottom m_boxWest m_boxEast m_isEarly m_pieces m_states m_drawnNow v7 f6 m_pieces f8 v9 hm61) 0 rfl rfl (cwV 1 hts gX11_keep_X11_keeps rfl rfl rfl (by decide +kernel) ⟨Nat.le_of_ble_eq_true rfl, Nat.le_of_ble_eq_true rfl⟩) rfl rfl (Nat.le_of_ble_eq_true rfl) dX11_keep_61 ⟨Nat.zero_le _, Nat.zero_le _⟩ [0, 2, 3, 4, 5, 6, 1, 7] 8 rfl ⟨rfl, rfl, rfl⟩ (fun H locs hP hD hS => ?_)
        obtain ⟨hP, hD⟩ : va_PD D A ((a_m, .inr (11, (.ref a_m_cutRows :: .ref a_m_cutColumns :: .ref a_m_deep :: .ref a_m_wide :: .ref a_m_zonesAhead :: .ref a_m_nameOne :: .ref a_m_nameOther :: .ref a_m_tape :: .int m_taped :: .int m_place :: .int m_fault :: .int m_number :: .int m_levelRead :: .int m_keyRead :: .int m_reads :: .int m_faults :: .int m_cutShort :: .int m_noNumber :: .long m_bottomLat :: .long m_bottomLon :: .ref a_m_edges :: .int m_firstBeside :: .int m_manyBeside :: .ref a_m_dist :: .ref a_m_queue :: .int m_queued :: .int m_boxLevel :: .int m_boxTop :: .int m_boxBottom :: .int m_boxWest :: .int m_boxEast :: .int m_isEarly :: .int m_pieces :: .int m_states :: .ref a_m_pieceLevel :: .ref a_m_pieceKey :: .ref a_m_pieceYear :: .int m_drawnNow :: .ref a_m_drawnKeys :: .ref a_m_kept :: .int v9 :: .ref a_m_noNumbers :: []))) :: (a_m_cutRows, .inl (ci 0, 5, .inl m_cutRows)) :: (a_m_cutColumns, .inl (ci 0, 5, .inl m_cutColumns)) :: (a_m_pieceLevel, .inl (ci 0, 60, .inl m_pieceLevel)) :: (a_m_pieceKey, .inl (ci 0, 60, .inl m_pieceKey)) :: (a_m_pieceYear, .inl (ci 0, 60, .inl m_pieceYear)) :: (a_m_kept, .inl (ci 0, 1552, .inl f8)) :: (a_m_noNumbers, .inl (ci 0, 8, .inl m_noNumbers)) :: Rw) H := ⟨hP, hD⟩
        refine lv_aload_n (pc := 64) hx hb dX11_keep_64 rfl (lv_at hl 0 rfl) ?_
        refine lv_aload_n (pc := 65) hx hb dX11_keep_65 rfl (lv_at hl 0 rfl) ?_
        refine va_get (pc := 66) (D := D) (ci := 11) (v := .int m_reads) (C := RX11) (T := TX11) (N := 42) hx hb hts hinX11 hown hK hP 0 rfl rfl 14 (by decide) w_6 (fun _ h9 => h9) rfl dX11_keep_66 ?_
        obtain ⟨f10, v11, hm69, hf⟩ := q_b2_e hf
        refine q_cV (pc := 69) (As := [.int m_reads]) (rest := []) (v0 := none) ⟨hx, hb, hml, hown, hts⟩ hK hA hZ hP hD hS hl.1 [0, 6, 1, 2, 3, 4, 5, 7] 8 rfl ⟨rfl, rfl, rfl⟩ (c_M_keeps l D ci A sa N ((a_m_cutRows, .inl (ci 0, 5, .inl m_cutRows)) :: (a_m_cutColumns, .inl (ci 0, 5, .inl m_cutColumns)) :: (a_m_pieceLevel, .inl (ci 0, 60, .inl m_pieceLevel)) :: (a_m_pieceKey, .inl (ci 0, 60, .inl m_pieceKey)) :: (a_m_pieceYear, .inl (ci 0, 60, .inl m_pieceYear)) :: (a_m_noNumbers, .inl (ci 0, 8, .inl m_noNumbers)) :: Rw) a_m a_m_cutRows a_m_cutColumns a_m_deep a_m_wide a_m_zonesAhead a_m_nameOne a_m_nameOther a_m_tape a_m_edges a_m_dist a_m_queue a_m_pieceLevel a_m_pieceKey a_m_pieceYear a_m_drawnKeys a_m_kept a_m_noNumbers m_taped m_place m_fault m_number m_levelRead m_keyRead m_reads m_faults m_cutShort m_noNumber m_bottomLat m_bottomLon m_firstBeside m_manyBeside m_queued m_boxLevel m_boxTop m_boxBottom m_boxWest m_boxEast m_isEarly m_pieces m_states m_drawnNow v9 f8 m_reads f10 v11 hm69) 0 rfl rfl (cwV 1 hts gX11_keep_X11_keeps rfl rfl rfl (by decide +kernel) ⟨Nat.le_of_ble_eq_true rfl, Nat.le_of_ble_eq_true rfl⟩) rfl rfl (Nat.le_of_ble_eq_true rfl) dX11_keep_69 ⟨Nat.zero_le _, Nat.zero_le _⟩ [0, 2, 3, 4, 5, 6, 1, 7] 8 rfl ⟨rfl, rfl, rfl⟩ (fun H locs hP hD hS => ?_)
        obtain ⟨hP, hD⟩ : va_PD D A ((a_m, .inr (11, (.ref a_m_cutRows :: .ref a_m_cutColumns :: .ref a_m_deep :: .ref a_m_wide :: .ref a_m_zonesAhead :: .ref a_m_nameOne :: .ref a_m_nameOther :: .ref a_m_tape :: .int m_taped :: .int m_place :: .int m_fault :: .int m_number :: .int m_levelRead :: .int m_keyRead :: .int m_reads :: .int m_faults :: .int m_cutShort :: .int m_noNumber :: .long m_bottomLat :: .long m_bottomLon :: .ref a_m_edges :: .int m_firstBeside :: .int m_manyBeside :: .ref a_m_dist :: .ref a_m_queue :: .int m_queued :: .int m_boxLevel :: .int m_boxTop :: .int m_boxBottom :: .int m_boxWest :: .int m_boxEast :: .int m_isEarly :: .int m_pieces :: .int m_states :: .ref a_m_pieceLevel :: .ref a_m_pieceKey :: .ref a_m_pieceYear :: .int m_drawnNow :: .ref a_m_drawnKeys :: .ref a_m_kept :: .int v11 :: .ref a_m_noNumbers :: []))) :: (a_m_cutRows, .inl (ci 0, 5, .inl m_cutRows)) :: (a_m_cutColumns, .inl (ci 0, 5, .inl m_cutColumns)) :: (a_m_pieceLevel, .inl (ci 0, 60, .inl m_pieceLevel)) :: (a_m_pieceKey, .inl (ci 0, 60, .inl m_pieceKey)) :: (a_m_pieceYear, .inl (ci 0, 60, .inl m_pieceYear)) :: (a_m_kept, .inl (ci 0, 1552, .inl f10)) :: (a_m_noNumbers, .inl (ci 0, 8, .inl m_noNumbers)) :: Rw) H := ⟨hP, hD⟩
        refine lv_aload_n (pc := 72) hx hb dX11_keep_72 rfl (lv_at hl 0 rfl) ?_
        refine lv_aload_n (pc := 73) hx hb dX11_keep_73 rfl (lv_at hl 0 rfl) ?_
        refine va_get (pc := 74) (D := D) (ci := 11) (v := .int m_faults) (C := RX11) (T := TX11) (N := 42) hx hb hts hinX11 hown hK hP 0 rfl rfl 15 (by decide) w_7 (fun _ h9 => h9) rfl dX11_keep_74 ?_
        obtain ⟨f12, v13, hm77, hf⟩ := q_b2_e hf
        refine q_cV (pc := 77) (As := [.int m_faults]) (rest := []) (v0 := none) ⟨hx, hb, hml, hown, hts⟩ hK hA hZ hP hD hS hl.1 [0, 6, 1, 2, 3, 4, 5, 7] 8 rfl ⟨rfl, rfl, rfl⟩ (c_M_keeps l D ci A sa N ((a_m_cutRows, .inl (ci 0, 5, .inl m_cutRows)) :: (a_m_cutColumns, .inl (ci 0, 5, .inl m_cutColumns)) :: (a_m_pieceLevel, .inl (ci 0, 60, .inl m_pieceLevel)) :: (a_m_pieceKey, .inl (ci 0, 60, .inl m_pieceKey)) :: (a_m_pieceYear, .inl (ci 0, 60, .inl m_pieceYear)) :: (a_m_noNumbers, .inl (ci 0, 8, .inl m_noNumbers)) :: Rw) a_m a_m_cutRows a_m_cutColumns a_m_deep a_m_wide a_m_zonesAhead a_m_nameOne a_m_nameOther a_m_tape a_m_edges a_m_dist a_m_queue a_m_pieceLevel a_m_pieceKey a_m_pieceYear a_m_drawnKeys a_m_kept a_m_noNumbers m_taped m_place m_fault m_number m_levelRead m_keyRead m_reads m_faults m_cutShort m_noNumber m_bottomLat m_bottomLon m_firstBeside m_manyBeside m_queued m_boxLevel m_boxTop m_boxBottom m_boxWest m_boxEast m_isEarly m_pieces m_states m_drawnNow v11 f10 m_faults f12 v13 hm77) 0 rfl rfl (cwV 1 hts gX11_keep_X11_keeps rfl rfl rfl (by decide +kernel) ⟨Nat.le_of_ble_eq_true rfl, Nat.le_of_ble_eq_true rfl⟩) rfl rfl (Nat.le_of_ble_eq_true rfl) dX11_keep_77 ⟨Nat.zero_le _, Nat.zero_le _⟩ [0, 2, 3, 4, 5, 6, 1, 7] 8 rfl ⟨rfl, rfl, rfl⟩ (fun H locs hP hD hS => ?_)
        obtain ⟨hP, hD⟩ : va_PD D A ((a_m, .inr (11, (.ref a_m_cutRows :: .ref a_m_cutColumns :: .ref a_m_deep :: .ref a_m_wide :: .ref a_m_zonesAhead :: .ref a_m_nameOne :: .ref a_m_nameOther :: .ref a_m_tape :: .int m_taped :: .int m_place :: .int m_fault :: .int m_number :: .int m_levelRead :: .int m_keyRead :: .int m_reads :: .int m_faults :: .int m_cutShort :: .int m_noNumber :: .long m_bottomLat :: .long m_bottomLon :: .ref a_m_edges :: .int m_firstBeside :: .int m_manyBeside :: .ref a_m_dist :: .ref a_m_queue :: .int m_queued :: .int m_boxLevel :: .int m_boxTop :: .int m_boxBottom :: .int m_boxWest :: .int m_boxEast :: .int m_isEarly :: .int m_pieces :: .int m_states :: .ref a_m_pieceLevel :: .ref a_m_pieceKey :: .ref a_m_pieceYear :: .int m_drawnNow :: .ref a_m_drawnKeys :: .ref a_m_kept :: .int v13 :: .ref a_m_noNumbers :: []))) :: (a_m_cutRows, .inl (ci 0, 5, .inl m_cutRows)) :: (a_m_cutColumns, .inl (ci 0, 5, .inl m_cutColumns)) :: (a_m_pieceLevel, .inl (ci 0, 60, .inl m_pieceLevel)) :: (a_m_pieceKey, .inl (ci 0, 60, .inl m_pieceKey)) :: (a_m_pieceYear, .inl (ci 0, 60, .inl m_pieceYear)) :: (a_m_kept, .inl (ci 0, 1552, .inl f12)) :: (a_m_noNumbers, .inl (ci 0, 8, .inl m_noNumbers)) :: Rw) H := ⟨hP, hD⟩
        refine lv_aload_n (pc := 80) hx hb dX11_keep_80 rfl (lv_at hl 0 rfl) ?_
        refine lv_aload_n (pc := 81) hx hb dX11_keep_81 rfl (lv_at hl 0 rfl) ?_
        refine va_get (pc := 82) (D := D) (ci := 11) (v := .int m_cutShort) (C := RX11) (T := TX11) (N := 42) hx hb hts hinX11 hown hK hP 0 rfl rfl 16 (by decide) w_8 (fun _ h9 => h9) rfl dX11_keep_82 ?_
        obtain ⟨f14, v15, hm85, hf⟩ := q_b2_e hf
        refine q_cV (pc := 85) (As := [.int m_cutShort]) (rest := []) (v0 := none) ⟨hx, hb, hml, hown, hts⟩ hK hA hZ hP hD hS hl.1 [0, 6, 1, 2, 3, 4, 5, 7] 8 rfl ⟨rfl, rfl, rfl⟩ (c_M_keeps l D ci A sa N ((a_m_cutRows, .inl (ci 0, 5, .inl m_cutRows)) :: (a_m_cutColumns, .inl (ci 0, 5, .inl m_cutColumns)) :: (a_m_pieceLevel, .inl (ci 0, 60, .inl m_pieceLevel)) :: (a_m_pieceKey, .inl (ci 0, 60, .inl m_pieceKey)) :: (a_m_pieceYear, .inl (ci 0, 60, .inl m_pieceYear)) :: (a_m_noNumbers, .inl (ci 0, 8, .inl m_noNumbers)) :: Rw) a_m a_m_cutRows a_m_cutColumns a_m_deep a_m_wide a_m_zonesAhead a_m_nameOne a_m_nameOther a_m_tape a_m_edges a_m_dist a_m_queue a_m_pieceLevel a_m_pieceKey a_m_pieceYear a_m_drawnKeys a_m_kept a_m_noNumbers m_taped m_place m_fault m_number m_levelRead m_keyRead m_reads m_faults m_cutShort m_noNumber m_bottomLat m_bottomLon m_firstBeside m_manyBeside m_queued m_boxLevel m_boxTop m_boxBottom m_boxWest m_boxEast m_isEarly m_pieces m_states m_drawnNow v13 f12 m_cutShort f14 v15 hm85) 0 rfl rfl (cwV 1 hts gX11_keep_X11_keeps rfl rfl rfl (by decide +kernel) ⟨Nat.le_of_ble_eq_true rfl, Nat.le_of_ble_eq_true rfl⟩) rfl rfl (Nat.le_of_ble_eq_true rfl) dX11_keep_85 ⟨Nat.zero_le _, Nat.zero_le _⟩ [0, 2, 3, 4, 5, 6, 1, 7] 8 rfl ⟨rfl, rfl, rfl⟩ (fun H locs hP hD hS => ?_)
        obtain ⟨hP, hD⟩ : va_PD D A ((a_m, .inr (11, (.ref a_m_cutRows :: .ref a_m_cutColumns :: .ref a_m_deep :: .ref a_m_wide :: .ref a_m_zonesAhead :: .ref a_m_nameOne :: .ref a_m_nameOther :: .ref a_m_tape :: .int m_taped :: .int m_place :: .int m_fault :: .int m_number :: .int m_levelRead :: .int m_keyRead :: .int m_reads :: .int m_faults :: .int m_cutShort :: .int m_noNumber :: .long m_bottomLat :: .long m_bottomLon :: .ref a_m_edges :: .int m_firstBeside :: .int m_manyBeside :: .ref a_m_dist :: .ref a_m_queue :: .int m_queued :: .int m_boxLevel :: .int m_boxTop :: .int m_boxBottom :: .int m_boxWest :: .int m_boxEast :: .int m_isEarly :: .int m_pieces :: .int m_states :: .ref a_m_pieceLevel :: .ref a_m_pieceKey :: .ref a_m_pieceYear :: .int m_drawnNow :: .ref a_m_drawnKeys :: .ref a_m_kept :: .int v15 :: .ref a_m_noNumbers :: []))) :: (a_m_cutRows, .inl (ci 0, 5, .inl m_cutRows)) :: (a_m_cutColumns, .inl (ci 0, 5, .inl m_cutColumns)) :: (a_m_pieceLevel, .inl (ci 0, 60, .inl m_pieceLevel)) :: (a_m_pieceKey, .inl (ci 0, 60, .inl m_pieceKey)) :: (a_m_pieceYear, .inl (ci 0, 60, .inl m_pieceYear)) :: (a_m_kept, .inl (ci 0, 1552, .inl f14)) :: (a_m_noNumbers, .inl (ci 0, 8, .inl m_noNumbers)) :: Rw) H := ⟨hP, hD⟩
        refine lv_iconst (pc := 88) (v := 0) hx hb dX11_keep_88 (by decide) ?_
        obtain ⟨v16, ev16, hf⟩ := q_nm_e hf
        refine q_topi ev16 ?_
        refine lv_istore_n (pc := 89) (lv' := [(1, .int v16), (0, .ref a_m)]) hx hb dX11_keep_89 rfl hl (by decide) rfl (fun ls hl => ?_)
        obtain ⟨f20, v21, hm90, hf⟩ := q_b2_e hf
        have JE90 : ∀ (H : Heap) (locs : List Loc) (ls : Array Slot), va_P D vwCl ((a_m, .inr (11, (.ref a_m_cutRows :: .ref a_m_cutColumns :: .ref a_m_deep :: .ref a_m_wide :: .ref a_m_zonesAhead :: .ref a_m_nameOne :: .ref a_m_nameOther :: .ref a_m_tape :: .int m_taped :: .int m_place :: .int m_fault :: .int m_number :: .int m_levelRead :: .int m_keyRead :: .int m_reads :: .int m_faults :: .int m_cutShort :: .int m_noNumber :: .long m_bottomLat :: .long m_bottomLon :: .ref a_m_edges :: .int m_firstBeside :: .int m_manyBeside :: .ref a_m_dist :: .ref a_m_queue :: .int m_queued :: .int m_boxLevel :: .int m_boxTop :: .int m_boxBottom :: .int m_boxWest :: .int m_boxEast :: .int m_isEarly :: .int m_pieces :: .int m_states :: .ref a_m_pieceLevel :: .ref a_m_pieceKey :: .ref a_m_pieceYear :: .int m_drawnNow :: .ref a_m_drawnKeys :: .ref a_m_kept :: .int v21 :: .ref a_m_noNumbers :: []))) :: (a_m_cutRows, .inl (ci 0, 5, .inl m_cutRows)) :: (a_m_cutColumns, .inl (ci 0, 5, .inl m_cutColumns)) :: (a_m_pieceLevel, .inl (ci 0, 60, .inl m_pieceLevel)) :: (a_m_pieceKey, .inl (ci 0, 60, .inl m_pieceKey)) :: (a_m_pieceYear, .inl (ci 0, 60, .inl m_pieceYear)) :: (a_m_kept, .inl (ci 0, 1552, .inl f20)) :: (a_m_noNumbers, .inl (ci 0, 8, .inl m_noNumbers)) :: Rw) H → va_D A ((a_m, .inr (11, (.ref a_m_cutRows :: .ref a_m_cutColumns :: .ref a_m_deep :: .ref a_m_wide :: .ref a_m_zonesAhead :: .ref a_m_nameOne :: .ref a_m_nameOther :: .ref a_m_tape :: .int m_taped :: .int m_place :: .int m_fault :: .int m_number :: .int m_levelRead :: .int m_keyRead :: .int m_reads :: .int m_faults :: .int m_cutShort :: .int m_noNumber :: .long m_bottomLat :: .long m_bottomLon :: .ref a_m_edges :: .int m_firstBeside :: .int m_manyBeside :: .ref a_m_dist :: .ref a_m_queue :: .int m_queued :: .int m_boxLevel :: .int m_boxTop :: .int m_boxBottom :: .int m_boxWest :: .int m_boxEast :: .int m_isEarly :: .int m_pieces :: .int m_states :: .ref a_m_pieceLevel :: .ref a_m_pieceKey :: .ref a_m_pieceYear :: .int m_drawnNow :: .ref a_m_drawnKeys :: .ref a_m_kept :: .int v21 :: .ref a_m_noNumbers :: []))) :: (a_m_cutRows, .inl (ci 0, 5, .inl m_cutRows)) :: (a_m_cutColumns, .inl (ci 0, 5, .inl m_cutColumns)) :: (a_m_pieceLevel, .inl (ci 0, 60, .inl m_pieceLevel)) :: (a_m_pieceKey, .inl (ci 0, 60, .inl m_pieceKey)) :: (a_m_pieceYear, .inl (ci 0, 60, .inl m_pieceYear)) :: (a_m_kept, .inl (ci 0, 1552, .inl f20)) :: (a_m_noNumbers, .inl (ci 0, 8, .inl m_noNumbers)) :: Rw) → va_S A s.heap H locs → lv_has ls 2 [(0, .ref a_m)] → W p l e ({ frames := 1, cells := 0, slots := 0, locals := 21 } : Room) s m ([.ref a_m] : List Value).toArray below meth c H locs 0 0 Q (F0 m 132 ls []) := by
          intro H locs ls hP hD hS hl
          refine lv_aload_n (pc := 132) hx hb dX11_keep_132 rfl (lv_at hl 0 rfl) ?_
          refine va_get (pc := 133) (D := D) (ci := 11) (v := .ref a_m_noNumbers) (C := RX11) (T := TX11) (N := 42) hx hb hts hinX11 hown hK hP 0 rfl rfl 41 (by decide) w_12 (fun _ h9 => h9) rfl dX11_keep_133 ?_
          refine lv_aload_n (pc := 136) hx hb dX11_keep_136 rfl (lv_at hl 0 rfl) ?_
          refine va_get (pc := 137) (D := D) (ci := 11) (v := .int m_states) (C := RX11) (T := TX11) (N := 42) hx hb hts hinX11 hown hK hP 0 rfl rfl 33 (by decide) w_1 (fun _ h9 => h9) rfl dX11_keep_137 ?_
          refine lv_aload_n (pc := 140) hx hb dX11_keep_140 rfl (lv_at hl 0 rfl) ?_
          refine va_get (pc := 141) (D := D) (ci := 11) (v := .int m_noNumber) (C := RX11) (T := TX11) (N := 42) hx hb hts hinX11 hown hK hP 0 rfl rfl 17 (by decide) w_13 (fun _ h9 => h9) rfl dX11_keep_141 ?_
          refine q_iast (pc := 144) hx hb hK hP hD hS 7 0 hf rfl rfl dX11_keep_144 (fun f22 H locs hf hP hD hS => ?_)
          obtain ⟨hP, hD⟩ : va_PD D A ((a_m, .inr (11, (.ref a_m_cutRows :: .ref a_m_cutColumns :: .ref a_m_deep :: .ref a_m_wide :: .ref a_m_zonesAhead :: .ref a_m_nameOne :: .ref a_m_nameOther :: .ref a_m_tape :: .int m_taped :: .int m_place :: .int m_fault :: .int m_number :: .int m_levelRead :: .int m_keyRead :: .int m_reads :: .int m_faults :: .int m_cutShort :: .int m_noNumber :: .long m_bottomLat :: .long m_bottomLon :: .ref a_m_edges :: .int m_firstBeside :: .int m_manyBeside :: .ref a_m_dist :: .ref a_m_queue :: .int m_queued :: .int m_boxLevel :: .int m_boxTop :: .int m_boxBottom :: .int m_boxWest :: .int m_boxEast :: .int m_isEarly :: .int m_pieces :: .int m_states :: .ref a_m_pieceLevel :: .ref a_m_pieceKey :: .ref a_m_pieceYear :: .int m_drawnNow :: .ref a_m_drawnKeys :: .ref a_m_kept :: .int v21 :: .ref a_m_noNumbers :: []))) :: (a_m_cutRows, .inl (ci 0, 5, .inl m_cutRows)) :: (a_m_cutColumns, .inl (ci 0, 5, .inl m_cutColumns)) :: (a_m_pieceLevel, .inl (ci 0, 60, .inl m_pieceLevel)) :: (a_m_pieceKey, .inl (ci 0, 60, .inl m_pieceKey)) :: (a_m_pieceYear, .inl (ci 0, 60, .inl m_pieceYear)) :: (a_m_kept, .inl (ci 0, 1552, .inl f20)) :: (a_m_noNumbers, .inl (ci 0, 8, .inl f22)) :: Rw) H := ⟨hP, hD⟩
          refine lv_aload_n (pc := 145) hx hb dX11_keep_145 rfl (lv_at hl 0 rfl) ?_
          refine lv_aload_n (pc := 146) hx hb dX11_keep_146 rfl (lv_at hl 0 rfl) ?_
          refine va_get (pc := 147) (D := D) (ci := 11) (v := .int m_states) (C := RX11) (T := TX11) (N := 42) hx hb hts hinX11 hown hK hP 0 rfl rfl 33 (by decide) w_1 (fun _ h9 => h9) rfl dX11_keep_147 ?_
          refine lv_iconst (pc := 150) (v := 1) hx hb dX11_keep_150 (by decide) ?_
          refine lv_iadd (pc := 151) hx hb dX11_keep_151 ?_
          obtain ⟨v23, ev23, hf⟩ := q_nm_e hf
          refine q_topi ev23 ?_
          refine va_put (pc := 152) (D := D) (ci := 11) (v := .int v23) (ty := .int) (C := RX11) (T := TX11) (N := 42) hx hb hts hinX11 tyX11 tyX11_ok nmX11 hown hK hP hD hS 0 rfl rfl 33 (by decide) w_1 (fun _ h9 => h9) rfl (by decide +kernel) rfl rfl (Nat.le_of_ble_eq_true rfl) dX11_keep_152 (fun H locs hP hD hS => ?_)
          obtain ⟨hP, hD⟩ : va_PD D A ((a_m, .inr (11, (.ref a_m_cutRows :: .ref a_m_cutColumns :: .ref a_m_deep :: .ref a_m_wide :: .ref a_m_zonesAhead :: .ref a_m_nameOne :: .ref a_m_nameOther :: .ref a_m_tape :: .int m_taped :: .int m_place :: .int m_fault :: .int m_number :: .int m_levelRead :: .int m_keyRead :: .int m_reads :: .int m_faults :: .int m_cutShort :: .int m_noNumber :: .long m_bottomLat :: .long m_bottomLon :: .ref a_m_edges :: .int m_firstBeside :: .int m_manyBeside :: .ref a_m_dist :: .ref a_m_queue :: .int m_queued :: .int m_boxLevel :: .int m_boxTop :: .int m_boxBottom :: .int m_boxWest :: .int m_boxEast :: .int m_isEarly :: .int m_pieces :: .int v23 :: .ref a_m_pieceLevel :: .ref a_m_pieceKey :: .ref a_m_pieceYear :: .int m_drawnNow :: .ref a_m_drawnKeys :: .ref a_m_kept :: .int v21 :: .ref a_m_noNumbers :: []))) :: (a_m_cutRows, .inl (ci 0, 5, .inl m_cutRows)) :: (a_m_cutColumns, .inl (ci 0, 5, .inl m_cutColumns)) :: (a_m_pieceLevel, .inl (ci 0, 60, .inl m_pieceLevel)) :: (a_m_pieceKey, .inl (ci 0, 60, .inl m_pieceKey)) :: (a_m_pieceYear, .inl (ci 0, 60, .inl m_pieceYear)) :: (a_m_kept, .inl (ci 0, 1552, .inl f20)) :: (a_m_noNumbers, .inl (ci 0, 8, .inl f22)) :: Rw) H := ⟨hP, hD⟩
          refine lv_aload_n (pc := 155) hx hb dX11_keep_155 rfl (lv_at hl 0 rfl) ?_
          refine va_get (pc := 156) (D := D) (ci := 11) (v := .int v23) (C := RX11) (T := TX11) (N := 42) hx hb hts hinX11 hown hK hP 0 rfl rfl 33 (by decide) w_1 (fun _ h9 => h9) rfl dX11_keep_156 ?_
          obtain ⟨e90, e91, e92, e93, e94⟩ := q_inj5 (Option.some.inj hf)
          rw [hQ, ← e90, ← e91, ← e92, ← e93, ← e94]
          exact q_iret (pc := 159) hx hb hr hlocks hP hD hS dX11_keep_159
        have LP90 : ∀ (n90 : Nat) (v17 : Int32) (f18 : Nat → Int32) (v19 : Int32) (H : Heap) (locs : List Loc) (ls : Array Slot), f_M_keep_L90 m_pieceKey m_pieceLevel m_pieceYear n90 v17 f18 v19 = some (f20, v21) → va_P D vwCl ((a_m, .inr (11, (.ref a_m_cutRows :: .ref a_m_cutColumns :: .ref a_m_deep :: .ref a_m_wide :: .ref a_m_zonesAhead :: .ref a_m_nameOne :: .ref a_m_nameOther :: .ref a_m_tape :: .int m_taped :: .int m_place :: .int m_fault :: .int m_number :: .int m_levelRead :: .int m_keyRead :: .int m_reads :: .int m_faults :: .int m_cutShort :: .int m_noNumber :: .long m_bottomLat :: .long m_bottomLon :: .ref a_m_edges :: .int m_firstBeside :: .int m_manyBeside :: .ref a_m_dist :: .ref a_m_queue :: .int m_queued :: .int m_boxLevel :: .int m_boxTop :: .int m_boxBottom :: .int m_boxWest :: .int m_boxEast :: .int m_isEarly :: .int m_pieces :: .int m_states :: .ref a_m_pieceLevel :: .ref a_m_pieceKey :: .ref a_m_pieceYear :: .int m_drawnNow :: .ref a_m_drawnKeys :: .ref a_m_kept :: .int v19 :: .ref a_m_noNumbers :: []))) :: (a_m_cutRows, .inl (ci 0, 5, .inl m_cutRows)) :: (a_m_cutColumns, .inl (ci 0, 5, .inl m_cutColumns)) :: (a_m_pieceLevel, .inl (ci 0, 60, .inl m_pieceLevel)) :: (a_m_pieceKey, .inl (ci 0, 60, .inl m_pieceKey)) :: (a_m_pieceYear, .inl (ci 0, 60, .inl m_pieceYear)) :: (a_m_kept, .inl (ci 0, 1552, .inl f18)) :: (a_m_noNumbers, .inl (ci 0, 8, .inl m_noNumbers)) :: Rw) H → va_D A ((a_m, .inr (11, (.ref a_m_cutRows :: .ref a_m_cutColumns :: .ref a_m_deep :: .ref a_m_wide :: .ref a_m_zonesAhead :: .ref a_m_nameOne :: .ref a_m_nameOther :: .ref a_m_tape :: .int m_taped :: .int m_place :: .int m_fault :: .int m_number :: .int m_levelRead :: .int m_keyRead :: .int m_reads :: .int m_faults :: .int m_cutShort :: .int m_noNumber :: .long m_bottomLat :: .long m_bottomLon :: .ref a_m_edges :: .int m_firstBeside :: .int m_manyBeside :: .ref a_m_dist :: .ref a_m_queue :: .int m_queued :: .int m_boxLevel :: .int m_boxTop :: .int m_boxBottom :: .int m_boxWest :: .int m_boxEast :: .int m_isEarly :: .int m_pieces :: .int m_states :: .ref a_m_pieceLevel :: .ref a_m_pieceKey :: .ref a_m_pieceYear :: .int m_drawnNow :: .ref a_m_drawnKeys :: .ref a_m_kept :: .int v19 :: .ref a_m_noNumbers :: []))) :: (a_m_cutRows, .inl (ci 0, 5, .inl m_cutRows)) :: (a_m_cutColumns, .inl (ci 0, 5, .inl m_cutColumns)) :: (a_m_pieceLevel, .inl (ci 0, 60, .inl m_pieceLevel)) :: (a_m_pieceKey, .inl (ci 0, 60, .inl m_pieceKey)) :: (a_m_pieceYear, .inl (ci 0, 60, .inl m_pieceYear)) :: (a_m_kept, .inl (ci 0, 1552, .inl f18)) :: (a_m_noNumbers, .inl (ci 0, 8, .inl m_noNumbers)) :: Rw) → va_S A s.heap H locs → lv_has ls 2 [(0, .ref a_m), (1, .int v17)] → W p l e ({ frames := 1, cells := 0, slots := 0, locals := 21 } : Room) s m ([.ref a_m] : List Value).toArray below meth c H locs 0 0 Q (F0 m 90 ls []) := by
          intro n90
          induction n90 with
          | zero => intro v17 f18 v19 H locs ls hf; rw [f_M_keep_L90] at hf; cases hf
          | succ n90 ih90 =>
            intro v17 f18 v19 H locs ls hf hP hD hS hl
            rw [f_M_keep_L90] at hf
            refine lv_iload_n (pc := 90) hx hb dX11_keep_90 rfl (lv_at hl 1 rfl) ?_
            refine lv_bipush (pc := 91) (v := 60) hx hb dX11_keep_91 (by decide) ?_
            refine q_icmp_ge (pc := 93) (tgt := 132) hx hb dX11_keep_93 (by decide) rfl hf (fun hf => ?_) (fun hf => ?_)
            · obtain ⟨rfl, rfl⟩ := q_inj2 (Option.some.inj hf)
              exact JE90 _ _ _ hP hD hS (lv_sub hl [0] rfl)
            · refine lv_aload_n (pc := 96) hx hb dX11_keep_96 rfl (lv_at hl 0 rfl) ?_
              refine lv_aload_n (pc := 97) hx hb dX11_keep_97 rfl (lv_at hl 0 rfl) ?_
              refine va_get (pc := 98) (D := D) (ci := 11) (v := .ref a_m_pieceLevel) (C := RX11) (T := TX11) (N := 42) hx hb hts hinX11 hown hK hP 0 rfl rfl 34 (by decide) w_9 (fun _ h9 => h9) rfl dX11_keep_98 ?_
              refine lv_iload_n (pc := 101) hx hb dX11_keep_101 rfl (lv_at hl 1 rfl) ?_
              refine q_iald (pc := 102) hx hb hK hP 3 0 hf rfl rfl dX11_keep_102 (fun v24 hf => ?_)
              obtain ⟨f25, v26, hm103, hf⟩ := q_b2_e hf
              refine q_cV (pc := 103) (As := [.int v24]) (rest := []) (v0 := none) ⟨hx, hb, hml, hown, hts⟩ hK hA hZ hP hD hS hl.1 [0, 6, 1, 2, 3, 4, 5, 7] 8 rfl ⟨rfl, rfl, rfl⟩ (c_M_keeps l D ci A sa N ((a_m_cutRows, .inl (ci 0, 5, .inl m_cutRows)) :: (a_m_cutColumns, .inl (ci 0, 5, .inl m_cutColumns)) :: (a_m_pieceLevel, .inl (ci 0, 60, .inl m_pieceLevel)) :: (a_m_pieceKey, .inl (ci 0, 60, .inl m_pieceKey)) :: (a_m_pieceYear, .inl (ci 0, 60, .inl m_pieceYear)) :: (a_m_noNumbers, .inl (ci 0, 8, .inl m_noNumbers)) :: Rw) a_m a_m_cutRows a_m_cutColumns a_m_deep a_m_wide a_m_zonesAhead a_m_nameOne a_m_nameOther a_m_tape a_m_edges a_m_dist a_m_queue a_m_pieceLevel a_m_pieceKey a_m_pieceYear a_m_drawnKeys a_m_kept a_m_noNumbers m_taped m_place m_fault m_number m_levelRead m_keyRead m_reads m_faults m_cutShort m_noNumber m_bottomLat m_bottomLon m_firstBeside m_manyBeside m_queued m_boxLevel m_boxTop m_boxBottom m_boxWest m_boxEast m_isEarly m_pieces m_states m_drawnNow v19 f18 v24 f25 v26 hm103) 0 rfl rfl (cwV 1 hts gX11_keep_X11_keeps rfl rfl rfl (by decide +kernel) ⟨Nat.le_of_ble_eq_true rfl, Nat.le_of_ble_eq_true rfl⟩) rfl rfl (Nat.le_of_ble_eq_true rfl) dX11_keep_103 ⟨Nat.zero_le _, Nat.zero_le _⟩ [0, 2, 3, 4, 5, 6, 1, 7] 8 rfl ⟨rfl, rfl, rfl⟩ (fun H locs hP hD hS => ?_)
              obtain ⟨hP, hD⟩ : va_PD D A ((a_m, .inr (11, (.ref a_m_cutRows :: .ref a_m_cutColumns :: .ref a_m_deep :: .ref a_m_wide :: .ref a_m_zonesAhead :: .ref a_m_nameOne :: .ref a_m_nameOther :: .ref a_m_tape :: .int m_taped :: .int m_place :: .int m_fault :: .int m_number :: .int m_levelRead :: .int m_keyRead :: .int m_reads :: .int m_faults :: .int m_cutShort :: .int m_noNumber :: .long m_bottomLat :: .long m_bottomLon :: .ref a_m_edges :: .int m_firstBeside :: .int m_manyBeside :: .ref a_m_dist :: .ref a_m_queue :: .int m_queued :: .int m_boxLevel :: .int m_boxTop :: .int m_boxBottom :: .int m_boxWest :: .int m_boxEast :: .int m_isEarly :: .int m_pieces :: .int m_states :: .ref a_m_pieceLevel :: .ref a_m_pieceKey :: .ref a_m_pieceYear :: .int m_drawnNow :: .ref a_m_drawnKeys :: .ref a_m_kept :: .int v26 :: .ref a_m_noNumbers :: []))) :: (a_m_cutRows, .inl (ci 0, 5, .inl m_cutRows)) :: (a_m_cutColumns, .inl (ci 0, 5, .inl m_cutColumns)) :: (a_m_pieceLevel, .inl (ci 0, 60, .inl m_pieceLevel)) :: (a_m_pieceKey, .inl (ci 0, 60, .inl m_pieceKey)) :: (a_m_pieceYear, .inl (ci 0, 60, .inl m_pieceYear)) :: (a_m_kept, .inl (ci 0, 1552, .inl f25)) :: (a_m_noNumbers, .inl (ci 0, 8, .inl m_noNumbers)) :: Rw) H := ⟨hP, hD⟩
              refine lv_aload_n (pc := 106) hx hb dX11_keep_106 rfl (lv_at hl 0 rfl) ?_
              refine lv_aload_n (pc := 107) hx hb dX11_keep_107 rfl (lv_at hl 0 rfl) ?_
              refine va_get (pc := 108) (D := D) (ci := 11) (v := .ref a_m_pieceKey) (C := RX11) (T := TX11) (N := 42) hx hb hts hinX11 hown hK hP 0 rfl rfl 35 (by decide) w_10 (fun _ h9 => h9) rfl dX11_keep_108 ?_
              refine lv_iload_n (pc := 111) hx hb dX11_keep_111 rfl (lv_at hl 1 rfl) ?_
              refine q_iald (pc := 112) hx hb hK hP 4 0 hf rfl rfl dX11_keep_112 (fun v27 hf => ?_)
              obtain ⟨f28, v29, hm113, hf⟩ := q_b2_e hf
              refine q_cV (pc := 113) (As := [.int v27]) (rest := []) (v0 := none) ⟨hx, hb, hml, hown, hts⟩ hK hA hZ hP hD hS hl.1 [0, 6, 1, 2, 3, 4, 5, 7] 8 rfl ⟨rfl, rfl, rfl⟩ (c_M_keeps l D ci A sa N ((a_m_cutRows, .inl (ci 0, 5, .inl m_cutRows)) :: (a_m_cutColumns, .inl (ci 0, 5, .inl m_cutColumns)) :: (a_m_pieceLevel, .inl (ci 0, 60, .inl m_pieceLevel)) :: (a_m_pieceKey, .inl (ci 0, 60, .inl m_pieceKey)) :: (a_m_pieceYear, .inl (ci 0, 60, .inl m_pieceYear)) :: (a_m_noNumbers, .inl (ci 0, 8, .inl m_noNumbers)) :: Rw) a_m a_m_cutRows a_m_cutColumns a_m_deep a_m_wide a_m_zonesAhead a_m_nameOne a_m_nameOther a_m_tape a_m_edges a_m_dist a_m_queue a_m_pieceLevel a_m_pieceKey a_m_pieceYear a_m_drawnKeys a_m_kept a_m_noNumbers m_taped m_place m_fault m_number m_levelRead m_keyRead m_reads m_faults m_cutShort m_noNumber m_bottomLat m_bottomLon m_firstBeside m_manyBeside m_queued m_boxLevel m_boxTop m_boxBottom m_boxWest m_boxEast m_isEarly m_pieces m_states m_drawnNow v26 f25 v27 f28 v29 hm113) 0 rfl rfl (cwV 1 hts gX11_keep_X11_keeps rfl rfl rfl (by decide +kernel) ⟨Nat.le_of_ble_eq_true rfl, Nat.le_of_ble_eq_true rfl⟩) rfl rfl (Nat.le_of_ble_eq_true rfl) dX11_keep_113 ⟨Nat.zero_le _, Nat.zero_le _⟩ [0, 2, 3, 4, 5, 6, 1, 7] 8 rfl ⟨rfl, rfl, rfl⟩ (fun H locs hP hD hS => ?_)
              obtain ⟨hP, hD⟩ : va_PD D A ((a_m, .inr (11, (.ref a_m_cutRows :: .ref a_m_cutColumns :: .ref a_m_deep :: .ref a_m_wide :: .ref a_m_zonesAhead :: .ref a_m_nameOne :: .ref a_m_nameOther :: .ref a_m_tape :: .int m_taped :: .int m_place :: .int m_fault :: .int m_number :: .int m_levelRead :: .int m_keyRead :: .int m_reads :: .int m_faults :: .int m_cutShort :: .int m_noNumber :: .long m_bottomLat :: .long m_bottomLon :: .ref a_m_edges :: .int m_firstBeside :: .int m_manyBeside :: .ref a_m_dist :: .ref a_m_queue :: .int m_queued :: .int m_boxLevel :: .int m_boxTop :: .int m_boxBottom :: .int m_boxWest :: .int m_boxEast :: .int m_isEarly :: .int m_pieces :: .int m_states :: .ref a_m_pieceLevel :: .ref a_m_pieceKey :: .ref a_m_pieceYear :: .int m_drawnNow :: .ref a_m_drawnKeys :: .ref a_m_kept :: .int v29 :: .ref a_m_noNumbers :: []))) :: (a_m_cutRows, .inl (ci 0, 5, .inl m_cutRows)) :: (a_m_cutColumns, .inl (ci 0, 5, .inl m_cutColumns)) :: (a_m_pieceLevel, .inl (ci 0, 60, .inl m_pieceLevel)) :: (a_m_pieceKey, .inl (ci 0, 60, .inl m_pieceKey)) :: (a_m_pieceYear, .inl (ci 0, 60, .inl m_pieceYear)) :: (a_m_kept, .inl (ci 0, 1552, .inl f28)) :: (a_m_noNumbers, .inl (ci 0, 8, .inl m_noNumbers)) :: Rw) H := ⟨hP, hD⟩
              refine lv_aload_n (pc := 116) hx hb dX11_keep_116 rfl (lv_at hl 0 rfl) ?_
              refine lv_aload_n (pc := 117) hx hb dX11_keep_117 rfl (lv_at hl 0 rfl) ?_
              refine va_get (pc := 118) (D := D) (ci := 11) (v := .ref a_m_pieceYear) (C := RX11) (T := TX11) (N := 42) hx hb hts hinX11 hown hK hP 0 rfl rfl 36 (by decide) w_11 (fun _ h9 => h9) rfl dX11_keep_118 ?_
              refine lv_iload_n (pc := 121) hx hb dX11_keep_121 rfl (lv_at hl 1 rfl) ?_
              refine q_iald (pc := 122) hx hb hK hP 5 0 hf rfl rfl dX11_keep_122 (fun v30 hf => ?_)
              obtain ⟨f31, v32, hm123, hf⟩ := q_b2_e hf
              refine q_cV (pc := 123) (As := [.int v30]) (rest := []) (v0 := none) ⟨hx, hb, hml, hown, hts⟩ hK hA hZ hP hD hS hl.1 [0, 6, 1, 2, 3, 4, 5, 7] 8 rfl ⟨rfl, rfl, rfl⟩ (c_M_keeps l D ci A sa N ((a_m_cutRows, .inl (ci 0, 5, .inl m_cutRows)) :: (a_m_cutColumns, .inl (ci 0, 5, .inl m_cutColumns)) :: (a_m_pieceLevel, .inl (ci 0, 60, .inl m_pieceLevel)) :: (a_m_pieceKey, .inl (ci 0, 60, .inl m_pieceKey)) :: (a_m_pieceYear, .inl (ci 0, 60, .inl m_pieceYear)) :: (a_m_noNumbers, .inl (ci 0, 8, .inl m_noNumbers)) :: Rw) a_m a_m_cutRows a_m_cutColumns a_m_deep a_m_wide a_m_zonesAhead a_m_nameOne a_m_nameOther a_m_tape a_m_edges a_m_dist a_m_queue a_m_pieceLevel a_m_pieceKey a_m_pieceYear a_m_drawnKeys a_m_kept a_m_noNumbers m_taped m_place m_fault m_number m_levelRead m_keyRead m_reads m_faults m_cutShort m_noNumber m_bottomLat m_bottomLon m_firstBeside m_manyBeside m_queued m_boxLevel m_boxTop m_boxBottom m_boxWest m_boxEast m_isEarly m_pieces m_states m_drawnNow v29 f28 v30 f31 v32 hm123) 0 rfl rfl (cwV 1 hts gX11_keep_X11_keeps rfl rfl rfl (by decide +kernel) ⟨Nat.le_of_ble_eq_true rfl, Nat.le_of_ble_eq_true rfl⟩) rfl rfl (Nat.le_of_ble_eq_true rfl) dX11_keep_123 ⟨Nat.zero_le _, Nat.zero_le _⟩ [0, 2, 3, 4, 5, 6, 1, 7] 8 rfl ⟨rfl, rfl, rfl⟩ (fun H locs hP hD hS => ?_)
              obtain ⟨hP, hD⟩ : va_PD D A ((a_m, .inr (11, (.ref a_m_cutRows :: .ref a_m_cutColumns :: .ref a_m_deep :: .ref a_m_wide :: .ref a_m_zonesAhead :: .ref a_m_nameOne :: .ref a_m_nameOther :: .ref a_m_tape :: .int m_taped :: .int m_place :: .int m_fault :: .int m_number :: .int m_levelRead :: .int m_keyRead :: .int m_reads :: .int m_faults :: .int m_cutShort :: .int m_noNumber :: .long m_bottomLat :: .long m_bottomLon :: .ref a_m_edges :: .int m_firstBeside :: .int m_manyBeside :: .ref a_m_dist :: .ref a_m_queue :: .int m_queued :: .int m_boxLevel :: .int m_boxTop :: .int m_boxBottom :: .int m_boxWest :: .int m_boxEast :: .int m_isEarly :: .int m_pieces :: .int m_states :: .ref a_m_pieceLevel :: .ref a_m_pieceKey :: .ref a_m_pieceYear :: .int m_drawnNow :: .ref a_m_drawnKeys :: .ref a_m_kept :: .int v32 :: .ref a_m_noNumbers :: []))) :: (a_m_cutRows, .inl (ci 0, 5, .inl m_cutRows)) :: (a_m_cutColumns, .inl (ci 0, 5, .inl m_cutColumns)) :: (a_m_pieceLevel, .inl (ci 0, 60, .inl m_pieceLevel)) :: (a_m_pieceKey, .inl (ci 0, 60, .inl m_pieceKey)) :: (a_m_pieceYear, .inl (ci 0, 60, .inl m_pieceYear)) :: (a_m_kept, .inl (ci 0, 1552, .inl f31)) :: (a_m_noNumbers, .inl (ci 0, 8, .inl m_noNumbers)) :: Rw) H := ⟨hP, hD⟩
              obtain ⟨v33, ev33, hf⟩ := q_nm_e hf
              refine lv_iinc (pc := 126) (v := v33) (lv' := [(1, .int v33), (0, .ref a_m)]) hx hb dX11_keep_126 hl (k := 1) rfl (by rw [ev33]; rfl) (by decide) rfl (fun ls hl => ?_)
              refine lv_goto (pc := 129) (tgt := 90) hx hb dX11_keep_129 (by decide) ?_
              exact ih90 v33 f31 v32 _ _ _ hf hP hD hS (lv_sub hl [1, 0] rfl)
        exact LP90 N v16 f14 v15 _ _ _ hm90 hP hD hS (lv_sub hl [1, 0] rfl)
      have LP25 : ∀ (n25 : Nat) (v3 : Int32) (f4 : Nat → Int32) (v5 : Int32) (H : Heap) (locs : List Loc) (ls : Array Slot), f_M_keep_L25 m_cutColumns m_cutRows n25 v3 f4 v5 = some (f6, v7) → va_P D vwCl ((a_m, .inr (11, (.ref a_m_cutRows :: .ref a_m_cutColumns :: .ref a_m_deep :: .ref a_m_wide :: .ref a_m_zonesAhead :: .ref a_m_nameOne :: .ref a_m_nameOther :: .ref a_m_tape :: .int m_taped :: .int m_place :: .int m_fault :: .int m_number :: .int m_levelRead :: .int m_keyRead :: .int m_reads :: .int m_faults :: .int m_cutShort :: .int m_noNumber :: .long m_bottomLat :: .long m_bottomLon :: .ref a_m_edges :: .int m_firstBeside :: .int m_manyBeside :: .ref a_m_dist :: .ref a_m_queue :: .int m_queued :: .int m_boxLevel :: .int m_boxTop :: .int m_boxBottom :: .int m_boxWest :: .int m_boxEast :: .int m_isEarly :: .int m_pieces :: .int m_states :: .ref a_m_pieceLevel :: .ref a_m_pieceKey :: .ref a_m_pieceYear :: .int m_drawnNow :: .ref a_m_drawnKeys :: .ref a_m_kept :: .int v5 :: .ref a_m_noNumbers :: []))) :: (a_m_cutRows, .inl (ci 0, 5, .inl m_cutRows)) :: (a_m_cutColumns, .inl (ci 0, 5, .inl m_cutColumns)) :: (a_m_pieceLevel, .inl (ci 0, 60, .inl m_pieceLevel)) :: (a_m_pieceKey, .inl (ci 0, 60, .inl m_pieceKey)) :: (a_m_pieceYear, .inl (ci 0, 60, .inl m_pieceYear)) :: (a_m_kept, .inl (ci 0, 1552, .inl f4)) :: (a_m_noNumbers, .inl (ci 0, 8, .inl m_noNumbers)) :: Rw) H → va_D A ((a_m, .inr (11, (.ref a_m_cutRows :: .ref a_m_cutColumns :: .ref a_m_deep :: .ref a_m_wide :: .ref a_m_zonesAhead :: .ref a_m_nameOne :: .ref a_m_nameOther :: .ref a_m_tape :: .int m_taped :: .int m_place :: .int m_fault :: .int m_number :: .int m_levelRead :: .int m_keyRead :: .int m_reads :: .int m_faults :: .int m_cutShort :: .int m_noNumber :: .long m_bottomLat :: .long m_bottomLon :: .ref a_m_edges :: .int m_firstBeside :: .int m_manyBeside :: .ref a_m_dist :: .ref a_m_queue :: .int m_queued :: .int m_boxLevel :: .int m_boxTop :: .int m_boxBottom :: .int m_boxWest :: .int m_boxEast :: .int m_isEarly :: .int m_pieces :: .int m_states :: .ref a_m_pieceLevel :: .ref a_m_pieceKey :: .ref a_m_pieceYear :: .int m_drawnNow :: .ref a_m_drawnKeys :: .ref a_m_kept :: .int v5 :: .ref a_m_noNumbers :: []))) :: (a_m_cutRows, .inl (ci 0, 5, .inl m_cutRows)) :: (a_m_cutColumns, .inl (ci 0, 5, .inl m_cutColumns)) :: (a_m_pieceLevel, .inl (ci 0, 60, .inl m_pieceLevel)) :: (a_m_pieceKey, .inl (ci 0, 60, .inl m_pieceKey)) :: (a_m_pieceYear, .inl (ci 0, 60, .inl m_pieceYear)) :: (a_m_kept, .inl (ci 0, 1552, .inl f4)) :: (a_m_noNumbers, .inl (ci 0, 8, .inl m_noNumbers)) :: Rw) → va_S A s.heap H locs → lv_has ls 2 [(0, .ref a_m), (1, .int v3)] → W p l e ({ frames := 1, cells := 0, slots := 0, locals := 21 } : Room) s m ([.ref a_m] : List Value).toArray below meth c H locs 0 0 Q (F0 m 25 ls []) := by
        intro n25
        induction n25 with
        | zero => intro v3 f4 v5 H locs ls hf; rw [f_M_keep_L25] at hf; cases hf
        | succ n25 ih25 =>
          intro v3 f4 v5 H locs ls hf hP hD hS hl
          rw [f_M_keep_L25] at hf
          refine lv_iload_n (pc := 25) hx hb dX11_keep_25 rfl (lv_at hl 1 rfl) ?_
          refine lv_iconst (pc := 26) (v := 5) hx hb dX11_keep_26 (by decide) ?_
          refine q_icmp_ge (pc := 27) (tgt := 56) hx hb dX11_keep_27 (by decide) rfl hf (fun hf => ?_) (fun hf => ?_)
          · obtain ⟨rfl, rfl⟩ := q_inj2 (Option.some.inj hf)
            exact JE25 _ _ _ hP hD hS (lv_sub hl [0] rfl)
          · refine lv_aload_n (pc := 30) hx hb dX11_keep_30 rfl (lv_at hl 0 rfl) ?_
            refine lv_aload_n (pc := 31) hx hb dX11_keep_31 rfl (lv_at hl 0 rfl) ?_
            refine va_get (pc := 32) (D := D) (ci := 11) (v := .ref a_m_cutRows) (C := RX11) (T := TX11) (N := 42) hx hb hts hinX11 hown hK hP 0 rfl rfl 0 (by decide) w_3 (fun _ h9 => h9) rfl dX11_keep_32 ?_
            refine lv_iload_n (pc := 35) hx hb dX11_keep_35 rfl (lv_at hl 1 rfl) ?_
            refine q_iald (pc := 36) hx hb hK hP 1 0 hf rfl rfl dX11_keep_36 (fun v34 hf => ?_)
            obtain ⟨f35, v36, hm37, hf⟩ := q_b2_e hf
            refine q_cV (pc := 37) (As := [.int v34]) (rest := []) (v0 := none) ⟨hx, hb, hml, hown, hts⟩ hK hA hZ hP hD hS hl.1 [0, 6, 1, 2, 3, 4, 5, 7] 8 rfl ⟨rfl, rfl, rfl⟩ (c_M_keeps l D ci A sa N ((a_m_cutRows, .inl (ci 0, 5, .inl m_cutRows)) :: (a_m_cutColumns, .inl (ci 0, 5, .inl m_cutColumns)) :: (a_m_pieceLevel, .inl (ci 0, 60, .inl m_pieceLevel)) :: (a_m_pieceKey, .inl (ci 0, 60, .inl m_pieceKey)) :: (a_m_pieceYear, .inl (ci 0, 60, .inl m_pieceYear)) :: (a_m_noNumbers, .inl (ci 0, 8, .inl m_noNumbers)) :: Rw) a_m a_m_cutRows a_m_cutColumns a_m_deep a_m_wide a_m_zonesAhead a_m_nameOne a_m_nameOther a_m_tape a_m_edges a_m_dist a_m_queue a_m_pieceLevel a_m_pieceKey a_m_pieceYear a_m_drawnKeys a_m_kept a_m_noNumbers m_taped m_place m_fault m_number m_levelRead m_keyRead m_reads m_faults m_cutShort m_noNumber m_bottomLat m_bottomLon m_firstBeside m_manyBeside m_queued m_boxLevel m_boxTop m_boxBottom m_boxWest m_boxEast m_isEarly m_pieces m_states m_drawnNow v5 f4 v34 f35 v36 hm37) 0 rfl rfl (cwV 1 hts gX11_keep_X11_keeps rfl rfl rfl (by decide +kernel) ⟨Nat.le_of_ble_eq_true rfl, Nat.le_of_ble_eq_true rfl⟩) rfl rfl (Nat.le_of_ble_eq_true rfl) dX11_keep_37 ⟨Nat.zero_le _, Nat.zero_le _⟩ [0, 2, 3, 4, 5, 6, 1, 7] 8 rfl ⟨rfl, rfl, rfl⟩ (fun H locs hP hD hS => ?_)
            obtain ⟨hP, hD⟩ : va_PD D A ((a_m, .inr (11, (.ref a_m_cutRows :: .ref a_m_cutColumns :: .ref a_m_deep :: .ref a_m_wide :: .ref a_m_zonesAhead :: .ref a_m_nameOne :: .ref a_m_nameOther :: .ref a_m_tape :: .int m_taped :: .int m_place :: .int m_fault :: .int m_number :: .int m_levelRead :: .int m_keyRead :: .int m_reads :: .int m_faults :: .int m_cutShort :: .int m_noNumber :: .long m_bottomLat :: .long m_bottomLon :: .ref a_m_edges :: .int m_firstBeside :: .int m_manyBeside :: .ref a_m_dist :: .ref a_m_queue :: .int m_queued :: .int m_boxLevel :: .int m_boxTop :: .int m_boxBottom :: .int m_boxWest :: .int m_boxEast :: .int m_isEarly :: .int m_pieces :: .int m_states :: .ref a_m_pieceLevel :: .ref a_m_pieceKey :: .ref a_m_pieceYear :: .int m_drawnNow :: .ref a_m_drawnKeys :: .ref a_m_kept :: .int v36 :: .ref a_m_noNumbers :: []))) :: (a_m_cutRows, .inl (ci 0, 5, .inl m_cutRows)) :: (a_m_cutColumns, .inl (ci 0, 5, .inl m_cutColumns)) :: (a_m_pieceLevel, .inl (ci 0, 60, .inl m_pieceLevel)) :: (a_m_pieceKey, .inl (ci 0, 60, .inl m_pieceKey)) :: (a_m_pieceYear, .inl (ci 0, 60, .inl m_pieceYear)) :: (a_m_kept, .inl (ci 0, 1552, .inl f35)) :: (a_m_noNumbers, .inl (ci 0, 8, .inl m_noNumbers)) :: Rw) H := ⟨hP, hD⟩
            refine lv_aload_n (pc := 40) hx hb dX11_keep_40 rfl (lv_at hl 0 rfl) ?_
            refine lv_aload_n (pc := 41) hx hb dX11_keep_41 rfl (lv_at hl 0 rfl) ?_
            refine va_get (pc := 42) (D := D) (ci := 11) (v := .ref a_m_cutColumns) (C := RX11) (T := TX11) (N := 42) hx hb hts hinX11 hown hK hP 0 rfl rfl 1 (by decide) w_4 (fun _ h9 => h9) rfl dX11_keep_42 ?_
            refine lv_iload_n (pc := 45) hx hb dX11_keep_45 rfl (lv_at hl 1 rfl) ?_
            refine q_iald (pc := 46) hx hb hK hP 2 0 hf rfl rfl dX11_keep_46 (fun v37 hf => ?_)
            obtain ⟨f38, v39, hm47, hf⟩ := q_b2_e hf
            refine q_cV (pc := 47) (As := [.int v37]) (rest := []) (v0 := none) ⟨hx, hb, hml, hown, hts⟩ hK hA hZ hP hD hS hl.1 [0, 6, 1, 2, 3, 4, 5, 7] 8 rfl ⟨rfl, rfl, rfl⟩ (c_M_keeps l D ci A sa N ((a_m_cutRows, .inl (ci 0, 5, .inl m_cutRows)) :: (a_m_cutColumns, .inl (ci 0, 5, .inl m_cutColumns)) :: (a_m_pieceLevel, .inl (ci 0, 60, .inl m_pieceLevel)) :: (a_m_pieceKey, .inl (ci 0, 60, .inl m_pieceKey)) :: (a_m_pieceYear, .inl (ci 0, 60, .inl m_pieceYear)) :: (a_m_noNumbers, .inl (ci 0, 8, .inl m_noNumbers)) :: Rw) a_m a_m_cutRows a_m_cutColumns a_m_deep a_m_wide a_m_zonesAhead a_m_nameOne a_m_nameOther a_m_tape a_m_edges a_m_dist a_m_queue a_m_pieceLevel a_m_pieceKey a_m_pieceYear a_m_drawnKeys a_m_kept a_m_noNumbers m_taped m_place m_fault m_number m_levelRead m_keyRead m_reads m_faults m_cutShort m_noNumber m_bottomLat m_bottomLon m_firstBeside m_manyBeside m_queued m_boxLevel m_boxTop m_boxBottom m_boxWest m_boxEast m_isEarly m_pieces m_states m_drawnNow v36 f35 v37 f38 v39 hm47) 0 rfl rfl (cwV 1 hts gX11_keep_X11_keeps rfl rfl rfl (by decide +kernel) ⟨Nat.le_of_ble_eq_true rfl, Nat.le_of_ble_eq_true rfl⟩) rfl rfl (Nat.le_of_ble_eq_true rfl) dX11_keep_47 ⟨Nat.zero_le _, Nat.zero_le _⟩ [0, 2, 3, 4, 5, 6, 1, 7] 8 rfl ⟨rfl, rfl, rfl⟩ (fun H locs hP hD hS => ?_)
            obtain ⟨hP, hD⟩ : va_PD D A ((a_m, .inr (11, (.ref a_m_cutRows :: .ref a_m_cutColumns :: .ref a_m_deep :: .ref a_m_wide :: .ref a_m_zonesAhead :: .ref a_m_nameOne :: .ref a_m_nameOther :: .ref a_m_tape :: .int m_taped :: .int m_place :: .int m_fault :: .int m_number :: .int m_levelRead :: .int m_keyRead :: .int m_reads :: .int m_faults :: .int m_cutShort :: .int m_noNumber :: .long m_bottomLat :: .long m_bottomLon :: .ref a_m_edges :: .int m_firstBeside :: .int m_manyBeside :: .ref a_m_dist :: .ref a_m_queue :: .int m_queued :: .int m_boxLevel :: .int m_boxTop :: .int m_boxBottom :: .int m_boxWest :: .int m_boxEast :: .int m_isEarly :: .int m_pieces :: .int m_states :: .ref a_m_pieceLevel :: .ref a_m_pieceKey :: .ref a_m_pieceYear :: .int m_drawnNow :: .ref a_m_drawnKeys :: .ref a_m_kept :: .int v39 :: .ref a_m_noNumbers :: []))) :: (a_m_cutRows, .inl (ci 0, 5, .inl m_cutRows)) :: (a_m_cutColumns, .inl (ci 0, 5, .inl m_cutColumns)) :: (a_m_pieceLevel, .inl (ci 0, 60, .inl m_pieceLevel)) :: (a_m_pieceKey, .inl (ci 0, 60, .inl m_pieceKey)) :: (a_m_pieceYear, .inl (ci 0, 60, .inl m_pieceYear)) :: (a_m_kept, .inl (ci 0, 1552, .inl f38)) :: (a_m_noNumbers, .inl (ci 0, 8, .inl m_noNumbers)) :: Rw) H := ⟨hP, hD⟩
            obtain ⟨v40, ev40, hf⟩ := q_nm_e hf
            refine lv_iinc (pc := 50) (v := v40) (lv' := [(1, .int v40), (0, .ref a_m)]) hx hb dX11_keep_50 hl (k := 1) rfl (by rw [ev40]; rfl) (by decide) rfl (fun ls hl => ?_)
            refine lv_goto (pc := 53) (tgt := 25) hx hb dX11_keep_53 (by decide) ?_
            exact ih25 v40 f38 v39 _ _ _ hf hP hD hS (lv_sub hl [1, 0] rfl)
      exact LP25 N v2 m_kept v1 _ _ _ hm25 hP hD hS (lv_sub hl [1, 0] rfl)
    · refine lv_iconst (pc := 9) (v := (-1)) hx hb dX11_keep_9 (by decide) ?_
      obtain ⟨e90, e91, e92, e93, e94⟩ := q_inj5 (Option.some.inj hf)
      rw [hQ, ← e90, ← e91, ← e92, ← e93, ← e94]
      exact q_iret (pc := 10) hx hb hr hlocks hP hD hS dX11_keep_10
  exact hgo _ _ rfl hP hS
/-! X11_key -/
set_option maxRecDepth 100000 in
set_option maxHeartbeats 4000000 in
theorem c_M_key (l : Launch) (D : va_G) (ci : Nat → ClassId) (A : Nat → Prop) (sa : Nat → Nat) (N : Nat) (Rw : va_W) (a_m : Nat) (a_m_cutRows : Nat) (a_m_cutColumns : Nat) (a_m_deep : Nat) (a_m_wide : Nat) (a_m_zonesAhead : Nat) (a_m_nameOne : Nat) (a_m_nameOther : Nat) (a_m_tape : Nat) (a_m_edges : Nat) (a_m_dist : Nat) (a_m_queue : Nat) (a_m_pieceLevel : Nat) (a_m_pieceKey : Nat) (a_m_pieceYear : Nat) (a_m_drawnKeys : Nat) (a_m_kept : Nat) (a_m_noNumbers : Nat) (m_taped : Int32) (m_place : Int32) (m_fault : Int32) (m_number : Int32) (m_levelRead : Int32) (m_keyRead : Int32) (m_reads : Int32) (m_faults : Int32) (m_cutShort : Int32) (m_noNumber : Int32) (m_bottomLat : Int64) (m_bottomLon : Int64) (m_firstBeside : Int32) (m_manyBeside : Int32) (m_queued : Int32) (m_boxLevel : Int32) (m_boxTop : Int32) (m_boxBottom : Int32) (m_boxWest : Int32) (m_boxEast : Int32) (m_isEarly : Int32) (m_pieces : Int32) (m_states : Int32) (m_drawnNow : Int32) (m_keptAt : Int32) (m_deep : Nat → Int32) (m_wide : Nat → Int32) (m_zonesAhead : Nat → Int32) (p1 : Int32) (p2 : Int32) (p3 : Int32) (r : Int32) (hf : f_M_key m_deep m_wide m_zonesAhead p1 p2 p3 = some r) : Met l yX11_key wsX11_key ({ frames := 4, cells := 0, slots := 0, locals := 90 }) (va_Pc [.ref a_m, .int p1, .int p2, .int p3] (q_N D ci A sa ((a_m, .inr (11, (.ref a_m_cutRows :: .ref a_m_cutColumns :: .ref a_m_deep :: .ref a_m_wide :: .ref a_m_zonesAhead :: .ref a_m_nameOne :: .ref a_m_nameOther :: .ref a_m_tape :: .int m_taped :: .int m_place :: .int m_fault :: .int m_number :: .int m_levelRead :: .int m_keyRead :: .int m_reads :: .int m_faults :: .int m_cutShort :: .int m_noNumber :: .long m_bottomLat :: .long m_bottomLon :: .ref a_m_edges :: .int m_firstBeside :: .int m_manyBeside :: .ref a_m_dist :: .ref a_m_queue :: .int m_queued :: .int m_boxLevel :: .int m_boxTop :: .int m_boxBottom :: .int m_boxWest :: .int m_boxEast :: .int m_isEarly :: .int m_pieces :: .int m_states :: .ref a_m_pieceLevel :: .ref a_m_pieceKey :: .ref a_m_pieceYear :: .int m_drawnNow :: .ref a_m_drawnKeys :: .ref a_m_kept :: .int m_keptAt :: .ref a_m_noNumbers :: []))) :: (a_m_deep, .inl (ci 0, 5, .inl m_deep)) :: (a_m_wide, .inl (ci 0, 5, .inl m_wide)) :: (a_m_zonesAhead, .inl (ci 0, 45, .inl m_zonesAhead)) :: Rw))) (q_R (some (.int r))) 0 0 A := by
  refine q_ofW (cc := cX11_key) (maxL := 4) (ret := (some .int)) [.ref a_m, .int p1, .int p2, .int p3] (plainFor_of_name (by decide)) rfl (Nat.le_of_ble_eq_true rfl) ?_
  intro p e s m below meth c ls Q hQ hx hb hml hr hts hown hlocks hK hA hZ hP hD hS hl
  have hl : lv_has ls 4 [(0, .ref a_m), (1, .int p1), (2, .int p2), (3, .int p3)] := hl
  have hown : s.vm.findClass RX11 = some m.cls := hown
  unfold f_M_key at hf
  have hgo : ∀ (H : Heap) (locs : List Loc), H = s.heap → va_P D vwCl ((a_m, .inr (11, (.ref a_m_cutRows :: .ref a_m_cutColumns :: .ref a_m_deep :: .ref a_m_wide :: .ref a_m_zonesAhead :: .ref a_m_nameOne :: .ref a_m_nameOther :: .ref a_m_tape :: .int m_taped :: .int m_place :: .int m_fault :: .int m_number :: .int m_levelRead :: .int m_keyRead :: .int m_reads :: .int m_faults :: .int m_cutShort :: .int m_noNumber :: .long m_bottomLat :: .long m_bottomLon :: .ref a_m_edges :: .int m_firstBeside :: .int m_manyBeside :: .ref a_m_dist :: .ref a_m_queue :: .int m_queued :: .int m_boxLevel :: .int m_boxTop :: .int m_boxBottom :: .int m_boxWest :: .int m_boxEast :: .int m_isEarly :: .int m_pieces :: .int m_states :: .ref a_m_pieceLevel :: .ref a_m_pieceKey :: .ref a_m_pieceYear :: .int m_drawnNow :: .ref a_m_drawnKeys :: .ref a_m_kept :: .int m_keptAt :: .ref a_m_noNumbers :: []))) :: (a_m_deep, .inl (ci 0, 5, .inl m_deep)) :: (a_m_wide, .inl (ci 0, 5, .inl m_wide)) :: (a_m_zonesAhead, .inl (ci 0, 45, .inl m_zonesAhead)) :: Rw) H → va_S A s.heap H locs → W p l e ({ frames := 4, cells := 0, slots := 0, locals := 90 } : Room) s m ([.ref a_m, .int p1, .int p2, .int p3] : List Value).toArray below meth c H locs 0 0 Q (F0 m 0 ls []) := by
    intro H locs hH hP hS
    subst hH
    refine lv_iload_n (pc := 0) hx hb dX11_key_0 rfl (lv_at hl 1 rfl) ?_
    refine lv_iload_n (pc := 1) hx hb dX11_key_1 rfl (lv_at hl 2 rfl) ?_
    obtain ⟨v1, hm2, hf⟩ := q_b1_e hf
    refine q_cSr (pc := 2) (As := [.int p1, .int p2]) (rest := []) (v0 := (some (.int v1))) ⟨hx, hb, hml, hown, hts⟩ hK hA hZ hP hD hS hl.1 [] 4 rfl ⟨rfl, rfl, rfl⟩ (c_M_isPlace l D ci A sa N (Rw) p1 p2 v1 hm2) (va_cwS 2 hts gX11_key_X11_isPlace rfl rfl rfl (by decide +kernel) ⟨Nat.le_of_ble_eq_true rfl, Nat.le_of_ble_eq_true rfl⟩) rfl rfl (Nat.le_of_ble_eq_true rfl) dX11_key_2 ⟨Nat.zero_le _, Nat.zero_le _⟩ (fun locs hS => ?_)
    refine q_if_eq (pc := 5) (tgt := 25) hx hb dX11_key_5 (by decide) rfl hf (fun hf => ?_) (fun hf => ?_)
    · refine lv_iconst (pc := 25) (v := (-1)) hx hb dX11_key_25 (by decide) ?_
      obtain rfl := Option.some.inj hf
      rw [hQ]
      exact q_iretr (pc := 26) hx hb hr hlocks rfl hS dX11_key_26
    · refine lv_iload_n (pc := 8) hx hb dX11_key_8 rfl (lv_at hl 3 rfl) ?_
      obtain ⟨v2, hm9, hf⟩ := q_b1_e hf
      refine q_cSr (pc := 9) (As := [.int p3]) (rest := []) (v0 := (some (.int v2))) ⟨hx, hb, hml, hown, hts⟩ hK hA hZ hP hD hS hl.1 [] 4 rfl ⟨rfl, rfl, rfl⟩ (c_M_isLevel l D ci A sa N (Rw) p3 v2 hm9) (va_cwS 1 hts gX11_key_X11_isLevel rfl rfl rfl (by decide +kernel) ⟨Nat.le_of_ble_eq_true rfl, Nat.le_of_ble_eq_true rfl⟩) rfl rfl (Nat.le_of_ble_eq_true rfl) dX11_key_9 ⟨Nat.zero_le _, Nat.zero_le _⟩ (fun locs hS => ?_)
      refine q_if_eq (pc := 12) (tgt := 25) hx hb dX11_key_12 (by decide) rfl hf (fun hf => ?_) (fun hf => ?_)
      · refine lv_iconst (pc := 25) (v := (-1)) hx hb dX11_key_25 (by decide) ?_
        obtain rfl := Option.some.inj hf
        rw [hQ]
        exact q_iretr (pc := 26) hx hb hr hlocks rfl hS dX11_key_26
      · refine lv_aload_n (pc := 15) hx hb dX11_key_15 rfl (lv_at hl 0 rfl) ?_
        refine lv_iload_n (pc := 16) hx hb dX11_key_16 rfl (lv_at hl 1 rfl) ?_
        refine lv_iload_n (pc := 17) hx hb dX11_key_17 rfl (lv_at hl 2 rfl) ?_
        refine lv_iload_n (pc := 18) hx hb dX11_key_18 rfl (lv_at hl 3 rfl) ?_
        obtain ⟨v3, hm19, hf⟩ := q_b1_e hf
        refine q_cVr (pc := 19) (As := [.int p1, .int p2, .int p3]) (rest := []) (v0 := (some (.int v3))) ⟨hx, hb, hml, hown, hts⟩ hK hA hZ hP hD hS hl.1 [0, 1, 2, 3] 4 rfl ⟨rfl, rfl, rfl⟩ (c_M_keyAtPlace l D ci A sa N (Rw) a_m a_m_cutRows a_m_cutColumns a_m_deep a_m_wide a_m_zonesAhead a_m_nameOne a_m_nameOther a_m_tape a_m_edges a_m_dist a_m_queue a_m_pieceLevel a_m_pieceKey a_m_pieceYear a_m_drawnKeys a_m_kept a_m_noNumbers m_taped m_place m_fault m_number m_levelRead m_keyRead m_reads m_faults m_cutShort m_noNumber m_bottomLat m_bottomLon m_firstBeside m_manyBeside m_queued m_boxLevel m_boxTop m_boxBottom m_boxWest m_boxEast m_isEarly m_pieces m_states m_drawnNow m_keptAt m_deep m_wide m_zonesAhead p1 p2 p3 v3 hm19) 0 rfl rfl (cwV 3 hts gX11_key_X11_keyAtPlace rfl rfl rfl (by decide +kernel) ⟨Nat.le_of_ble_eq_true rfl, Nat.le_of_ble_eq_true rfl⟩) rfl rfl (Nat.le_of_ble_eq_true rfl) dX11_key_19 ⟨Nat.zero_le _, Nat.zero_le _⟩ (fun locs hS => ?_)
        refine lv_goto (pc := 22) (tgt := 26) hx hb dX11_key_22 (by decide) ?_
        obtain rfl := Option.some.inj hf
        rw [hQ]
        exact q_iretr (pc := 26) hx hb hr hlocks rfl hS dX11_key_26
  exact hgo _ _ rfl hP hS
/-! X11_keyAt -/
set_option maxRecDepth 100000 in
set_option maxHeartbeats 4000000 in
theorem c_M_keyAt (l : Launch) (D : va_G) (ci : Nat → ClassId) (A : Nat → Prop) (sa : Nat → Nat) (N : Nat) (Rw : va_W) (a_m : Nat) (a_m_cutRows : Nat) (a_m_cutColumns : Nat) (a_m_deep : Nat) (a_m_wide : Nat) (a_m_zonesAhead : Nat) (a_m_nameOne : Nat) (a_m_nameOther : Nat) (a_m_tape : Nat) (a_m_edges : Nat) (a_m_dist : Nat) (a_m_queue : Nat) (a_m_pieceLevel : Nat) (a_m_pieceKey : Nat) (a_m_pieceYear : Nat) (a_m_drawnKeys : Nat) (a_m_kept : Nat) (a_m_noNumbers : Nat) (m_taped : Int32) (m_place : Int32) (m_fault : Int32) (m_number : Int32) (m_levelRead : Int32) (m_keyRead : Int32) (m_reads : Int32) (m_faults : Int32) (m_cutShort : Int32) (m_noNumber : Int32) (m_bottomLat : Int64) (m_bottomLon : Int64) (m_firstBeside : Int32) (m_manyBeside : Int32) (m_queued : Int32) (m_boxLevel : Int32) (m_boxTop : Int32) (m_boxBottom : Int32) (m_boxWest : Int32) (m_boxEast : Int32) (m_isEarly : Int32) (m_pieces : Int32) (m_states : Int32) (m_drawnNow : Int32) (m_keptAt : Int32) (m_deep : Nat → Int32) (m_wide : Nat → Int32) (m_zonesAhead : Nat → Int32) (p1 : Int32) (p2 : Int32) (p3 : Int32) (r : Int32) (hf : f_M_keyAt m_deep m_wide m_zonesAhead p1 p2 p3 = some r) : Met l yX11_keyAt wsX11_keyAt ({ frames := 3, cells := 0, slots := 0, locals := 66 }) (va_Pc [.ref a_m, .int p1, .int p2, .int p3] (q_N D ci A sa ((a_m, .inr (11, (.ref a_m_cutRows :: .ref a_m_cutColumns :: .ref a_m_deep :: .ref a_m_wide :: .ref a_m_zonesAhead :: .ref a_m_nameOne :: .ref a_m_nameOther :: .ref a_m_tape :: .int m_taped :: .int m_place :: .int m_fault :: .int m_number :: .int m_levelRead :: .int m_keyRead :: .int m_reads :: .int m_faults :: .int m_cutShort :: .int m_noNumber :: .long m_bottomLat :: .long m_bottomLon :: .ref a_m_edges :: .int m_firstBeside :: .int m_manyBeside :: .ref a_m_dist :: .ref a_m_queue :: .int m_queued :: .int m_boxLevel :: .int m_boxTop :: .int m_boxBottom :: .int m_boxWest :: .int m_boxEast :: .int m_isEarly :: .int m_pieces :: .int m_states :: .ref a_m_pieceLevel :: .ref a_m_pieceKey :: .ref a_m_pieceYear :: .int m_drawnNow :: .ref a_m_drawnKeys :: .ref a_m_kept :: .int m_keptAt :: .ref a_m_noNumbers :: []))) :: (a_m_deep, .inl (ci 0, 5, .inl m_deep)) :: (a_m_wide, .inl (ci 0, 5, .inl m_wide)) :: (a_m_zonesAhead, .inl (ci 0, 45, .inl m_zonesAhead)) :: Rw))) (q_R (some (.int r))) 0 0 A := by
  refine q_ofW (cc := cX11_keyAt) (maxL := 4) (ret := (some .int)) [.ref a_m, .int p1, .int p2, .int p3] (plainFor_of_name (by decide)) rfl (Nat.le_of_ble_eq_true rfl) ?_
  intro p e s m below meth c ls Q hQ hx hb hml hr hts hown hlocks hK hA hZ hP hD hS hl
  have hl : lv_has ls 4 [(0, .ref a_m), (1, .int p1), (2, .int p2), (3, .int p3)] := hl
  have hown : s.vm.findClass RX11 = some m.cls := hown
  unfold f_M_keyAt at hf
  have hgo : ∀ (H : Heap) (locs : List Loc), H = s.heap → va_P D vwCl ((a_m, .inr (11, (.ref a_m_cutRows :: .ref a_m_cutColumns :: .ref a_m_deep :: .ref a_m_wide :: .ref a_m_zonesAhead :: .ref a_m_nameOne :: .ref a_m_nameOther :: .ref a_m_tape :: .int m_taped :: .int m_place :: .int m_fault :: .int m_number :: .int m_levelRead :: .int m_keyRead :: .int m_reads :: .int m_faults :: .int m_cutShort :: .int m_noNumber :: .long m_bottomLat :: .long m_bottomLon :: .ref a_m_edges :: .int m_firstBeside :: .int m_manyBeside :: .ref a_m_dist :: .ref a_m_queue :: .int m_queued :: .int m_boxLevel :: .int m_boxTop :: .int m_boxBottom :: .int m_boxWest :: .int m_boxEast :: .int m_isEarly :: .int m_pieces :: .int m_states :: .ref a_m_pieceLevel :: .ref a_m_pieceKey :: .ref a_m_pieceYear :: .int m_drawnNow :: .ref a_m_drawnKeys :: .ref a_m_kept :: .int m_keptAt :: .ref a_m_noNumbers :: []))) :: (a_m_deep, .inl (ci 0, 5, .inl m_deep)) :: (a_m_wide, .inl (ci 0, 5, .inl m_wide)) :: (a_m_zonesAhead, .inl (ci 0, 45, .inl m_zonesAhead)) :: Rw) H → va_S A s.heap H locs → W p l e ({ frames := 3, cells := 0, slots := 0, locals := 66 } : Room) s m ([.ref a_m, .int p1, .int p2, .int p3] : List Value).toArray below meth c H locs 0 0 Q (F0 m 0 ls []) := by
    intro H locs hH hP hS
    subst hH
    refine lv_iload_n (pc := 0) hx hb dX11_keyAt_0 rfl (lv_at hl 1 rfl) ?_
    obtain ⟨v1, hm1, hf⟩ := q_b1_e hf
    refine q_cSr (pc := 1) (As := [.int p1]) (rest := []) (v0 := (some (.int v1))) ⟨hx, hb, hml, hown, hts⟩ hK hA hZ hP hD hS hl.1 [] 4 rfl ⟨rfl, rfl, rfl⟩ (c_M_isLevel l D ci A sa N (Rw) p1 v1 hm1) (va_cwS 1 hts gX11_keyAt_X11_isLevel rfl rfl rfl (by decide +kernel) ⟨Nat.le_of_ble_eq_true rfl, Nat.le_of_ble_eq_true rfl⟩) rfl rfl (Nat.le_of_ble_eq_true rfl) dX11_keyAt_1 ⟨Nat.zero_le _, Nat.zero_le _⟩ (fun locs hS => ?_)
    refine q_if_eq (pc := 4) (tgt := 50) hx hb dX11_keyAt_4 (by decide) rfl hf (fun hf => ?_) (fun hf => ?_)
    · refine lv_iconst (pc := 50) (v := (-1)) hx hb dX11_keyAt_50 (by decide) ?_
      obtain rfl := Option.some.inj hf
      rw [hQ]
      exact q_iretr (pc := 51) hx hb hr hlocks rfl hS dX11_keyAt_51
    · refine lv_iload_n (pc := 7) hx hb dX11_keyAt_7 rfl (lv_at hl 2 rfl) ?_
      refine lv_i2l (pc := 8) hx hb dX11_keyAt_8 rfl ?_
      refine lv_lconst (pc := 9) (v := 0) hx hb dX11_keyAt_9 (by decide) ?_
      refine lv_aload_n (pc := 10) hx hb dX11_keyAt_10 rfl (lv_at hl 0 rfl) ?_
      refine lv_iload_n (pc := 11) hx hb dX11_keyAt_11 rfl (lv_at hl 1 rfl) ?_
      obtain ⟨v2, hm12, hf⟩ := q_b1_e hf
      refine q_cVr (pc := 12) (As := [.int p1]) (rest := [.long 0, .long p2.toInt64]) (v0 := (some (.int v2))) ⟨hx, hb, hml, hown, hts⟩ hK hA hZ hP hD hS hl.1 [0, 1] 4 rfl ⟨rfl, rfl, rfl⟩ (c_M_lastRow l D ci A sa N (Rw) a_m a_m_cutRows a_m_cutColumns a_m_deep a_m_wide a_m_zonesAhead a_m_nameOne a_m_nameOther a_m_tape a_m_edges a_m_dist a_m_queue a_m_pieceLevel a_m_pieceKey a_m_pieceYear a_m_drawnKeys a_m_kept a_m_noNumbers m_taped m_place m_fault m_number m_levelRead m_keyRead m_reads m_faults m_cutShort m_noNumber m_bottomLat m_bottomLon m_firstBeside m_manyBeside m_queued m_boxLevel m_boxTop m_boxBottom m_boxWest m_boxEast m_isEarly m_pieces m_states m_drawnNow m_keptAt m_deep p1 v2 hm12) 0 rfl rfl (cwV 1 hts gX11_keyAt_X11_lastRow rfl rfl rfl (by decide +kernel) ⟨Nat.le_of_ble_eq_true rfl, Nat.le_of_ble_eq_true rfl⟩) rfl rfl (Nat.le_of_ble_eq_true rfl) dX11_keyAt_12 ⟨Nat.zero_le _, Nat.zero_le _⟩ (fun locs hS => ?_)
      refine lv_i2l (pc := 15) hx hb dX11_keyAt_15 rfl ?_
      obtain ⟨v3, hm16, hf⟩ := q_b1_e hf
      refine q_cSr (pc := 16) (As := [.long p2.toInt64, .long 0, .long v2.toInt64]) (rest := []) (v0 := (some (.int v3))) ⟨hx, hb, hml, hown, hts⟩ hK hA hZ hP hD hS hl.1 [] 4 rfl ⟨rfl, rfl, rfl⟩ (c_M_in l D ci A sa N (Rw) p2.toInt64 0 v2.toInt64 v3 hm16) (va_cwS 3 hts gX11_keyAt_X11_in rfl rfl rfl (by decide +kernel) ⟨Nat.le_of_ble_eq_true rfl, Nat.le_of_ble_eq_true rfl⟩) rfl rfl (Nat.le_of_ble_eq_true rfl) dX11_keyAt_16 ⟨Nat.zero_le _, Nat.zero_le _⟩ (fun locs hS => ?_)
      refine q_if_eq (pc := 19) (tgt := 50) hx hb dX11_keyAt_19 (by decide) rfl hf (fun hf => ?_) (fun hf => ?_)
      · refine lv_iconst (pc := 50) (v := (-1)) hx hb dX11_keyAt_50 (by decide) ?_
        obtain rfl := Option.some.inj hf
        rw [hQ]
        exact q_iretr (pc := 51) hx hb hr hlocks rfl hS dX11_keyAt_51
      · refine lv_iload_n (pc := 22) hx hb dX11_keyAt_22 rfl (lv_at hl 3 rfl) ?_
        refine lv_i2l (pc := 23) hx hb dX11_keyAt_23 rfl ?_
        refine lv_lconst (pc := 24) (v := 0) hx hb dX11_keyAt_24 (by decide) ?_
        refine lv_aload_n (pc := 25) hx hb dX11_keyAt_25 rfl (lv_at hl 0 rfl) ?_
        refine lv_iload_n (pc := 26) hx hb dX11_keyAt_26 rfl (lv_at hl 1 rfl) ?_
        refine lv_iload_n (pc := 27) hx hb dX11_keyAt_27 rfl (lv_at hl 2 rfl) ?_
        obtain ⟨v4, hm28, hf⟩ := q_b1_e hf
        refine q_cVr (pc := 28) (As := [.int p1, .int p2]) (rest := [.long 0, .long p3.toInt64]) (v0 := (some (.int v4))) ⟨hx, hb, hml, hown, hts⟩ hK hA hZ hP hD hS hl.1 [0, 1, 2] 4 rfl ⟨rfl, rfl, rfl⟩ (c_M_many l D ci A sa N (Rw) a_m a_m_cutRows a_m_cutColumns a_m_deep a_m_wide a_m_zonesAhead a_m_nameOne a_m_nameOther a_m_tape a_m_edges a_m_dist a_m_queue a_m_pieceLevel a_m_pieceKey a_m_pieceYear a_m_drawnKeys a_m_kept a_m_noNumbers m_taped m_place m_fault m_number m_levelRead m_keyRead m_reads m_faults m_cutShort m_noNumber m_bottomLat m_bottomLon m_firstBeside m_manyBeside m_queued m_boxLevel m_boxTop m_boxBottom m_boxWest m_boxEast m_isEarly m_pieces m_states m_drawnNow m_keptAt m_deep m_wide p1 p2 v4 hm28) 0 rfl rfl (cwV 2 hts gX11_keyAt_X11_many rfl rfl rfl (by decide +kernel) ⟨Nat.le_of_ble_eq_true rfl, Nat.le_of_ble_eq_true rfl⟩) rfl rfl (Nat.le_of_ble_eq_true rfl) dX11_keyAt_28 ⟨Nat.zero_le _, Nat.zero_le _⟩ (fun locs hS => ?_)
        refine lv_iconst (pc := 31) (v := 1) hx hb dX11_keyAt_31 (by decide) ?_
        refine lv_isub (pc := 32) hx hb dX11_keyAt_32 ?_
        refine lv_i2l (pc := 33) hx hb dX11_keyAt_33 rfl ?_
        obtain ⟨v5, hm34, hf⟩ := q_b1_e hf
        refine q_cSr (pc := 34) (As := [.long p3.toInt64, .long 0, .long (v4 - 1).toInt64]) (rest := []) (v0 := (some (.int v5))) ⟨hx, hb, hml, hown, hts⟩ hK hA hZ hP hD hS hl.1 [] 4 rfl ⟨rfl, rfl, rfl⟩ (c_M_in l D ci A sa N (Rw) p3.toInt64 0 ((v4 - 1).toInt64) v5 hm34) (va_cwS 3 hts gX11_keyAt_X11_in rfl rfl rfl (by decide +kernel) ⟨Nat.le_of_ble_eq_true rfl, Nat.le_of_ble_eq_true rfl⟩) rfl rfl (Nat.le_of_ble_eq_true rfl) dX11_keyAt_34 ⟨Nat.zero_le _, Nat.zero_le _⟩ (fun locs hS => ?_)
        refine q_if_eq (pc := 37) (tgt := 50) hx hb dX11_keyAt_37 (by decide) rfl hf (fun hf => ?_) (fun hf => ?_)
        · refine lv_iconst (pc := 50) (v := (-1)) hx hb dX11_keyAt_50 (by decide) ?_
          obtain rfl := Option.some.inj hf
          rw [hQ]
          exact q_iretr (pc := 51) hx hb hr hlocks rfl hS dX11_keyAt_51
        · refine lv_aload_n (pc := 40) hx hb dX11_keyAt_40 rfl (lv_at hl 0 rfl) ?_
          refine lv_iload_n (pc := 41) hx hb dX11_keyAt_41 rfl (lv_at hl 1 rfl) ?_
          refine lv_iload_n (pc := 42) hx hb dX11_keyAt_42 rfl (lv_at hl 2 rfl) ?_
          refine lv_iload_n (pc := 43) hx hb dX11_keyAt_43 rfl (lv_at hl 3 rfl) ?_
          obtain ⟨v6, hm44, hf⟩ := q_b1_e hf
          refine q_cVr (pc := 44) (As := [.int p1, .int p2, .int p3]) (rest := []) (v0 := (some (.int v6))) ⟨hx, hb, hml, hown, hts⟩ hK hA hZ hP hD hS hl.1 [0, 1, 2, 3] 4 rfl ⟨rfl, rfl, rfl⟩ (c_M_keyOf l D ci A sa N (Rw) a_m a_m_cutRows a_m_cutColumns a_m_deep a_m_wide a_m_zonesAhead a_m_nameOne a_m_nameOther a_m_tape a_m_edges a_m_dist a_m_queue a_m_pieceLevel a_m_pieceKey a_m_pieceYear a_m_drawnKeys a_m_kept a_m_noNumbers m_taped m_place m_fault m_number m_levelRead m_keyRead m_reads m_faults m_cutShort m_noNumber m_bottomLat m_bottomLon m_firstBeside m_manyBeside m_queued m_boxLevel m_boxTop m_boxBottom m_boxWest m_boxEast m_isEarly m_pieces m_states m_drawnNow m_keptAt m_deep m_wide m_zonesAhead p1 p2 p3 v6 hm44) 0 rfl rfl (cwV 3 hts gX11_keyAt_X11_keyOf rfl rfl rfl (by decide +kernel) ⟨Nat.le_of_ble_eq_true rfl, Nat.le_of_ble_eq_true rfl⟩) rfl rfl (Nat.le_of_ble_eq_true rfl) dX11_keyAt_44 ⟨Nat.zero_le _, Nat.zero_le _⟩ (fun locs hS => ?_)
          refine lv_goto (pc := 47) (tgt := 51) hx hb dX11_keyAt_47 (by decide) ?_
          obtain rfl := Option.some.inj hf
          rw [hQ]
          exact q_iretr (pc := 51) hx hb hr hlocks rfl hS dX11_keyAt_51
  exact hgo _ _ rfl hP hS
end
