/-! X11_lacks -/
set_option maxRecDepth 100000 in
set_option maxHeartbeats 4000000 in
theorem c_M_lacks (l : Launch) (D : va_G) (ci : Nat → ClassId) (A : Nat → Prop) (sa : Nat → Nat) (N : Nat) (Rw : va_W) (a_m : Nat) (a_m_cutRows : Nat) (a_m_cutColumns : Nat) (a_m_deep : Nat) (a_m_wide : Nat) (a_m_zonesAhead : Nat) (a_m_nameOne : Nat) (a_m_nameOther : Nat) (a_m_tape : Nat) (a_m_edges : Nat) (a_m_dist : Nat) (a_m_queue : Nat) (a_m_pieceLevel : Nat) (a_m_pieceKey : Nat) (a_m_pieceYear : Nat) (a_m_drawnKeys : Nat) (a_m_kept : Nat) (a_m_noNumbers : Nat) (m_taped : Int32) (m_place : Int32) (m_fault : Int32) (m_number : Int32) (m_levelRead : Int32) (m_keyRead : Int32) (m_reads : Int32) (m_faults : Int32) (m_cutShort : Int32) (m_noNumber : Int32) (m_bottomLat : Int64) (m_bottomLon : Int64) (m_firstBeside : Int32) (m_manyBeside : Int32) (m_queued : Int32) (m_boxLevel : Int32) (m_boxTop : Int32) (m_boxBottom : Int32) (m_boxWest : Int32) (m_boxEast : Int32) (m_isEarly : Int32) (m_pieces : Int32) (m_states : Int32) (m_drawnNow : Int32) (m_keptAt : Int32) (m_deep : Nat → Int32) (m_wide : Nat → Int32) (m_zonesAhead : Nat → Int32) (m_edges : Nat → Int64) (m_pieceLevel : Nat → Int32) (m_pieceKey : Nat → Int32) (m_pieceYear : Nat → Int32) (p1 : Int32) (p2 : Int32) (p3 : Int32) (p4 : Int32) (p5 : Int32) (p6 : Int32) (p7 : Int32) (r : Int32) (o1 : Int64) (o2 : Int64) (o3 : Nat → Int64) (o4 : Int32) (o5 : Int32) (o6 : Int32) (o7 : Int32) (o8 : Int32) (hf : f_M_lacks N m_deep m_wide m_zonesAhead m_bottomLat m_bottomLon m_edges m_boxLevel m_boxTop m_boxBottom m_boxWest m_boxEast m_pieces m_pieceLevel m_pieceKey m_pieceYear p1 p2 p3 p4 p5 p6 p7 = some (r, o1, o2, o3, o4, o5, o6, o7, o8)) : Met l yX11_lacks wsX11_lacks ({ frames := 7, cells := 0, slots := 0, locals := 158 }) (va_Pc [.ref a_m, .int p1, .int p2, .int p3, .int p4, .int p5, .int p6, .int p7] (q_N D ci A sa ((a_m, .inr (11, (.ref a_m_cutRows :: .ref a_m_cutColumns :: .ref a_m_deep :: .ref a_m_wide :: .ref a_m_zonesAhead :: .ref a_m_nameOne :: .ref a_m_nameOther :: .ref a_m_tape :: .int m_taped :: .int m_place :: .int m_fault :: .int m_number :: .int m_levelRead :: .int m_keyRead :: .int m_reads :: .int m_faults :: .int m_cutShort :: .int m_noNumber :: .long m_bottomLat :: .long m_bottomLon :: .ref a_m_edges :: .int m_firstBeside :: .int m_manyBeside :: .ref a_m_dist :: .ref a_m_queue :: .int m_queued :: .int m_boxLevel :: .int m_boxTop :: .int m_boxBottom :: .int m_boxWest :: .int m_boxEast :: .int m_isEarly :: .int m_pieces :: .int m_states :: .ref a_m_pieceLevel :: .ref a_m_pieceKey :: .ref a_m_pieceYear :: .int m_drawnNow :: .ref a_m_drawnKeys :: .ref a_m_kept :: .int m_keptAt :: .ref a_m_noNumbers :: []))) :: (a_m_deep, .inl (ci 0, 5, .inl m_deep)) :: (a_m_wide, .inl (ci 0, 5, .inl m_wide)) :: (a_m_zonesAhead, .inl (ci 0, 45, .inl m_zonesAhead)) :: (a_m_edges, .inl (ci 1, 4, .inr (.inl m_edges))) :: (a_m_pieceLevel, .inl (ci 0, 60, .inl m_pieceLevel)) :: (a_m_pieceKey, .inl (ci 0, 60, .inl m_pieceKey)) :: (a_m_pieceYear, .inl (ci 0, 60, .inl m_pieceYear)) :: Rw))) (q_Q (some (.int r)) (q_O D A ((a_m, .inr (11, (.ref a_m_cutRows :: .ref a_m_cutColumns :: .ref a_m_deep :: .ref a_m_wide :: .ref a_m_zonesAhead :: .ref a_m_nameOne :: .ref a_m_nameOther :: .ref a_m_tape :: .int m_taped :: .int m_place :: .int m_fault :: .int m_number :: .int m_levelRead :: .int m_keyRead :: .int m_reads :: .int m_faults :: .int m_cutShort :: .int m_noNumber :: .long o1 :: .long o2 :: .ref a_m_edges :: .int m_firstBeside :: .int m_manyBeside :: .ref a_m_dist :: .ref a_m_queue :: .int m_queued :: .int o4 :: .int o5 :: .int o6 :: .int o7 :: .int o8 :: .int m_isEarly :: .int m_pieces :: .int m_states :: .ref a_m_pieceLevel :: .ref a_m_pieceKey :: .ref a_m_pieceYear :: .int m_drawnNow :: .ref a_m_drawnKeys :: .ref a_m_kept :: .int m_keptAt :: .ref a_m_noNumbers :: []))) :: (a_m_deep, .inl (ci 0, 5, .inl m_deep)) :: (a_m_wide, .inl (ci 0, 5, .inl m_wide)) :: (a_m_zonesAhead, .inl (ci 0, 45, .inl m_zonesAhead)) :: (a_m_edges, .inl (ci 1, 4, .inr (.inl o3))) :: (a_m_pieceLevel, .inl (ci 0, 60, .inl m_pieceLevel)) :: (a_m_pieceKey, .inl (ci 0, 60, .inl m_pieceKey)) :: (a_m_pieceYear, .inl (ci 0, 60, .inl m_pieceYear)) :: Rw)) A) 0 0 A := by
  refine q_ofW (cc := cX11_lacks) (maxL := 12) (ret := (some .int)) [.ref a_m, .int p1, .int p2, .int p3, .int p4, .int p5, .int p6, .int p7] (plainFor_of_name (by decide)) rfl (Nat.le_of_ble_eq_true rfl) ?_
  intro p e s m below meth c ls Q hQ hx hb hml hr hts hown hlocks hK hA hZ hP hD hS hl
  have hl : lv_has ls 12 [(0, .ref a_m), (1, .int p1), (2, .int p2), (3, .int p3), (4, .int p4), (5, .int p5), (6, .int p6), (7, .int p7)] := hl
  have hown : s.vm.findClass RX11 = some m.cls := hown
  have hinX11 : ∀ w ∈ wsX110, w ∈ wsX11_lacks := fun _ h => List.mem_cons_of_mem _ (inWX110 _ h)
  have w_1 := hts (Cond.fieldLink RX11 301 "SheetNamesModel" "boxTop" "I") (List.mem_cons_of_mem _ t_w949)
  have w_2 := hts (Cond.fieldLink RX11 304 "SheetNamesModel" "boxBottom" "I") (List.mem_cons_of_mem _ t_w950)
  unfold f_M_lacks at hf
  have hgo : ∀ (H : Heap) (locs : List Loc), H = s.heap → va_P D vwCl ((a_m, .inr (11, (.ref a_m_cutRows :: .ref a_m_cutColumns :: .ref a_m_deep :: .ref a_m_wide :: .ref a_m_zonesAhead :: .ref a_m_nameOne :: .ref a_m_nameOther :: .ref a_m_tape :: .int m_taped :: .int m_place :: .int m_fault :: .int m_number :: .int m_levelRead :: .int m_keyRead :: .int m_reads :: .int m_faults :: .int m_cutShort :: .int m_noNumber :: .long m_bottomLat :: .long m_bottomLon :: .ref a_m_edges :: .int m_firstBeside :: .int m_manyBeside :: .ref a_m_dist :: .ref a_m_queue :: .int m_queued :: .int m_boxLevel :: .int m_boxTop :: .int m_boxBottom :: .int m_boxWest :: .int m_boxEast :: .int m_isEarly :: .int m_pieces :: .int m_states :: .ref a_m_pieceLevel :: .ref a_m_pieceKey :: .ref a_m_pieceYear :: .int m_drawnNow :: .ref a_m_drawnKeys :: .ref a_m_kept :: .int m_keptAt :: .ref a_m_noNumbers :: []))) :: (a_m_deep, .inl (ci 0, 5, .inl m_deep)) :: (a_m_wide, .inl (ci 0, 5, .inl m_wide)) :: (a_m_zonesAhead, .inl (ci 0, 45, .inl m_zonesAhead)) :: (a_m_edges, .inl (ci 1, 4, .inr (.inl m_edges))) :: (a_m_pieceLevel, .inl (ci 0, 60, .inl m_pieceLevel)) :: (a_m_pieceKey, .inl (ci 0, 60, .inl m_pieceKey)) :: (a_m_pieceYear, .inl (ci 0, 60, .inl m_pieceYear)) :: Rw) H → va_S A s.heap H locs → W p l e ({ frames := 7, cells := 0, slots := 0, locals := 158 } : Room) s m ([.ref a_m, .int p1, .int p2, .int p3, .int p4, .int p5, .int p6, .int p7] : List Value).toArray below meth c H locs 0 0 Q (F0 m 0 ls []) := by
    intro H locs hH hP hS
    refine lv_aload_n (pc := 0) hx hb dX11_lacks_0 rfl (lv_at hl 0 rfl) ?_
    refine lv_iload_n (pc := 1) hx hb dX11_lacks_1 rfl (lv_at hl 1 rfl) ?_
    refine lv_iload_n (pc := 2) hx hb dX11_lacks_2 rfl (lv_at hl 2 rfl) ?_
    refine lv_iload_n (pc := 3) hx hb dX11_lacks_3 rfl (lv_at hl 3 rfl) ?_
    refine lv_iload (pc := 4) hx hb dX11_lacks_4 (lv_at hl 4 rfl) ?_
    obtain ⟨v1, hm6, hf⟩ := q_b1_e hf
    refine q_cVr (pc := 6) (As := [.int p1, .int p2, .int p3, .int p4]) (rest := []) (v0 := (some (.int v1))) ⟨hx, hb, hml, hown, hts⟩ hK hA hZ hP hD hS hl.1 [0] 8 rfl ⟨rfl, rfl, rfl⟩ (c_M_isBox l D ci A sa N (Rw) a_m a_m_cutRows a_m_cutColumns a_m_deep a_m_wide a_m_zonesAhead a_m_nameOne a_m_nameOther a_m_tape a_m_edges a_m_dist a_m_queue a_m_pieceLevel a_m_pieceKey a_m_pieceYear a_m_drawnKeys a_m_kept a_m_noNumbers m_taped m_place m_fault m_number m_levelRead m_keyRead m_reads m_faults m_cutShort m_noNumber m_bottomLat m_bottomLon m_firstBeside m_manyBeside m_queued m_boxLevel m_boxTop m_boxBottom m_boxWest m_boxEast m_isEarly m_pieces m_states m_drawnNow m_keptAt p1 p2 p3 p4 v1 hm6) 0 rfl rfl (cwV 4 hts gX11_lacks_X11_isBox rfl rfl rfl (by decide +kernel) ⟨Nat.le_of_ble_eq_true rfl, Nat.le_of_ble_eq_true rfl⟩) rfl rfl (Nat.le_of_ble_eq_true rfl) dX11_lacks_6 ⟨Nat.zero_le _, Nat.zero_le _⟩ (fun locs hS => ?_)
    refine q_if_eq (pc := 9) (tgt := 34) hx hb dX11_lacks_9 (by decide) rfl hf (fun hf => ?_) (fun hf => ?_)
    · refine lv_iconst (pc := 34) (v := (-1)) hx hb dX11_lacks_34 (by decide) ?_
      obtain ⟨e90, e91, e92, e93, e94, e95, e96, e97, e98⟩ := q_inj9 (Option.some.inj hf)
      rw [hQ, ← e90, ← e91, ← e92, ← e93, ← e94, ← e95, ← e96, ← e97, ← e98]
      exact q_iret (pc := 35) hx hb hr hlocks hP hD hS dX11_lacks_35
    · refine lv_iload (pc := 12) hx hb dX11_lacks_12 (lv_at hl 5 rfl) ?_
      obtain ⟨v2, hm14, hf⟩ := q_b1_e hf
      refine q_cSr (pc := 14) (As := [.int p5]) (rest := []) (v0 := (some (.int v2))) ⟨hx, hb, hml, hown, hts⟩ hK hA hZ hP hD hS hl.1 [] 8 rfl ⟨rfl, rfl, rfl⟩ (c_M_isLevel l D ci A sa N (Rw) p5 v2 hm14) (va_cwS 1 hts gX11_lacks_X11_isLevel rfl rfl rfl (by decide +kernel) ⟨Nat.le_of_ble_eq_true rfl, Nat.le_of_ble_eq_true rfl⟩) rfl rfl (Nat.le_of_ble_eq_true rfl) dX11_lacks_14 ⟨Nat.zero_le _, Nat.zero_le _⟩ (fun locs hS => ?_)
      refine q_if_eq (pc := 17) (tgt := 34) hx hb dX11_lacks_17 (by decide) rfl hf (fun hf => ?_) (fun hf => ?_)
      · refine lv_iconst (pc := 34) (v := (-1)) hx hb dX11_lacks_34 (by decide) ?_
        obtain ⟨e90, e91, e92, e93, e94, e95, e96, e97, e98⟩ := q_inj9 (Option.some.inj hf)
        rw [hQ, ← e90, ← e91, ← e92, ← e93, ← e94, ← e95, ← e96, ← e97, ← e98]
        exact q_iret (pc := 35) hx hb hr hlocks hP hD hS dX11_lacks_35
      · refine lv_iload (pc := 20) hx hb dX11_lacks_20 (lv_at hl 6 rfl) ?_
        obtain ⟨v3, hm22, hf⟩ := q_b1_e hf
        refine q_cSr (pc := 22) (As := [.int p6]) (rest := []) (v0 := (some (.int v3))) ⟨hx, hb, hml, hown, hts⟩ hK hA hZ hP hD hS hl.1 [] 8 rfl ⟨rfl, rfl, rfl⟩ (c_M_isAnyYear l D ci A sa N (Rw) p6 v3 hm22) (va_cwS 1 hts gX11_lacks_X11_isAnyYear rfl rfl rfl (by decide +kernel) ⟨Nat.le_of_ble_eq_true rfl, Nat.le_of_ble_eq_true rfl⟩) rfl rfl (Nat.le_of_ble_eq_true rfl) dX11_lacks_22 ⟨Nat.zero_le _, Nat.zero_le _⟩ (fun locs hS => ?_)
        refine q_if_eq (pc := 25) (tgt := 34) hx hb dX11_lacks_25 (by decide) rfl hf (fun hf => ?_) (fun hf => ?_)
        · refine lv_iconst (pc := 34) (v := (-1)) hx hb dX11_lacks_34 (by decide) ?_
          obtain ⟨e90, e91, e92, e93, e94, e95, e96, e97, e98⟩ := q_inj9 (Option.some.inj hf)
          rw [hQ, ← e90, ← e91, ← e92, ← e93, ← e94, ← e95, ← e96, ← e97, ← e98]
          exact q_iret (pc := 35) hx hb hr hlocks hP hD hS dX11_lacks_35
        · refine lv_iload (pc := 28) hx hb dX11_lacks_28 (lv_at hl 7 rfl) ?_
          refine lv_iconst (pc := 30) (v := (-1)) hx hb dX11_lacks_30 (by decide) ?_
          refine q_icmp_ge (pc := 31) (tgt := 36) hx hb dX11_lacks_31 (by decide) rfl hf (fun hf => ?_) (fun hf => ?_)
          · refine lv_aload_n (pc := 36) hx hb dX11_lacks_36 rfl (lv_at hl 0 rfl) ?_
            refine lv_iload_n (pc := 37) hx hb dX11_lacks_37 rfl (lv_at hl 1 rfl) ?_
            refine lv_iload_n (pc := 38) hx hb dX11_lacks_38 rfl (lv_at hl 2 rfl) ?_
            refine lv_iload_n (pc := 39) hx hb dX11_lacks_39 rfl (lv_at hl 3 rfl) ?_
            refine lv_iload (pc := 40) hx hb dX11_lacks_40 (lv_at hl 4 rfl) ?_
            refine lv_iload (pc := 42) hx hb dX11_lacks_42 (lv_at hl 5 rfl) ?_
            obtain ⟨v4, v5, v6, v7, v8, hm44, hf⟩ := q_b5_e hf
            refine q_cV (pc := 44) (As := [.int p1, .int p2, .int p3, .int p4, .int p5]) (rest := []) (v0 := none) ⟨hx, hb, hml, hown, hts⟩ hK hA hZ hP hD hS hl.1 [0, 1, 2, 3, 4, 5, 6, 7] 8 rfl ⟨rfl, rfl, rfl⟩ (c_M_laysBox l D ci A sa N ((a_m_wide, .inl (ci 0, 5, .inl m_wide)) :: (a_m_zonesAhead, .inl (ci 0, 45, .inl m_zonesAhead)) :: (a_m_edges, .inl (ci 1, 4, .inr (.inl m_edges))) :: (a_m_pieceLevel, .inl (ci 0, 60, .inl m_pieceLevel)) :: (a_m_pieceKey, .inl (ci 0, 60, .inl m_pieceKey)) :: (a_m_pieceYear, .inl (ci 0, 60, .inl m_pieceYear)) :: Rw) a_m a_m_cutRows a_m_cutColumns a_m_deep a_m_wide a_m_zonesAhead a_m_nameOne a_m_nameOther a_m_tape a_m_edges a_m_dist a_m_queue a_m_pieceLevel a_m_pieceKey a_m_pieceYear a_m_drawnKeys a_m_kept a_m_noNumbers m_taped m_place m_fault m_number m_levelRead m_keyRead m_reads m_faults m_cutShort m_noNumber m_bottomLat m_bottomLon m_firstBeside m_manyBeside m_queued m_boxLevel m_boxTop m_boxBottom m_boxWest m_boxEast m_isEarly m_pieces m_states m_drawnNow m_keptAt m_deep p1 p2 p3 p4 p5 v4 v5 v6 v7 v8 hm44) 0 rfl rfl (cwV 5 hts gX11_lacks_X11_laysBox rfl rfl rfl (by decide +kernel) ⟨Nat.le_of_ble_eq_true rfl, Nat.le_of_ble_eq_true rfl⟩) rfl rfl (Nat.le_of_ble_eq_true rfl) dX11_lacks_44 ⟨Nat.zero_le _, Nat.zero_le _⟩ [0, 1, 2, 3, 4, 5, 6, 7] 8 rfl ⟨rfl, rfl, rfl⟩ (fun H locs hP hD hS => ?_)
            obtain ⟨hP, hD⟩ : va_PD D A ((a_m, .inr (11, (.ref a_m_cutRows :: .ref a_m_cutColumns :: .ref a_m_deep :: .ref a_m_wide :: .ref a_m_zonesAhead :: .ref a_m_nameOne :: .ref a_m_nameOther :: .ref a_m_tape :: .int m_taped :: .int m_place :: .int m_fault :: .int m_number :: .int m_levelRead :: .int m_keyRead :: .int m_reads :: .int m_faults :: .int m_cutShort :: .int m_noNumber :: .long m_bottomLat :: .long m_bottomLon :: .ref a_m_edges :: .int m_firstBeside :: .int m_manyBeside :: .ref a_m_dist :: .ref a_m_queue :: .int m_queued :: .int v4 :: .int v5 :: .int v6 :: .int v7 :: .int v8 :: .int m_isEarly :: .int m_pieces :: .int m_states :: .ref a_m_pieceLevel :: .ref a_m_pieceKey :: .ref a_m_pieceYear :: .int m_drawnNow :: .ref a_m_drawnKeys :: .ref a_m_kept :: .int m_keptAt :: .ref a_m_noNumbers :: []))) :: (a_m_deep, .inl (ci 0, 5, .inl m_deep)) :: (a_m_wide, .inl (ci 0, 5, .inl m_wide)) :: (a_m_zonesAhead, .inl (ci 0, 45, .inl m_zonesAhead)) :: (a_m_edges, .inl (ci 1, 4, .inr (.inl m_edges))) :: (a_m_pieceLevel, .inl (ci 0, 60, .inl m_pieceLevel)) :: (a_m_pieceKey, .inl (ci 0, 60, .inl m_pieceKey)) :: (a_m_pieceYear, .inl (ci 0, 60, .inl m_pieceYear)) :: Rw) H := ⟨hP, hD⟩
            refine lv_aload_n (pc := 47) hx hb dX11_lacks_47 rfl (lv_at hl 0 rfl) ?_
            obtain ⟨v9, hm48, hf⟩ := q_b1_e hf
            refine q_cVr (pc := 48) (As := []) (rest := []) (v0 := (some (.int v9))) ⟨hx, hb, hml, hown, hts⟩ hK hA hZ hP hD hS hl.1 [0, 1, 2] 8 rfl ⟨rfl, rfl, rfl⟩ (c_M_boxAll l D ci A sa N (Rw) a_m a_m_cutRows a_m_cutColumns a_m_deep a_m_wide a_m_zonesAhead a_m_nameOne a_m_nameOther a_m_tape a_m_edges a_m_dist a_m_queue a_m_pieceLevel a_m_pieceKey a_m_pieceYear a_m_drawnKeys a_m_kept a_m_noNumbers m_taped m_place m_fault m_number m_levelRead m_keyRead m_reads m_faults m_cutShort m_noNumber m_bottomLat m_bottomLon m_firstBeside m_manyBeside m_queued v4 v5 v6 v7 v8 m_isEarly m_pieces m_states m_drawnNow m_keptAt m_deep m_wide v9 hm48) 0 rfl rfl (cwV 0 hts gX11_lacks_X11_boxAll rfl rfl rfl (by decide +kernel) ⟨Nat.le_of_ble_eq_true rfl, Nat.le_of_ble_eq_true rfl⟩) rfl rfl (Nat.le_of_ble_eq_true rfl) dX11_lacks_48 ⟨Nat.zero_le _, Nat.zero_le _⟩ (fun locs hS => ?_)
            refine lv_sipush (pc := 51) (v := 4000) hx hb dX11_lacks_51 (by decide) ?_
            refine q_icmp_le (pc := 54) (tgt := 60) hx hb dX11_lacks_54 (by decide) rfl hf (fun hf => ?_) (fun hf => ?_)
            · refine lv_iconst (pc := 60) (v := 0) hx hb dX11_lacks_60 (by decide) ?_
              obtain ⟨v10, ev10, hf⟩ := q_nm_e hf
              refine q_topi ev10 ?_
              refine lv_istore (pc := 61) (lv' := [(8, .int v10), (0, .ref a_m), (1, .int p1), (2, .int p2), (3, .int p3), (4, .int p4), (5, .int p5), (6, .int p6), (7, .int p7)]) hx hb dX11_lacks_61 hl (by decide) rfl (fun ls hl => ?_)
              refine lv_aload_n (pc := 63) hx hb dX11_lacks_63 rfl (lv_at hl 1 rfl) ?_
              refine va_get (pc := 64) (D := D) (ci := 11) (v := .int v5) (C := RX11) (T := TX11) (N := 42) hx hb hts hinX11 hown hK hP 0 rfl rfl 27 (by decide) w_1 (fun _ h9 => h9) rfl dX11_lacks_64 ?_
              refine lv_istore (pc := 67) (lv' := [(9, .int v5), (8, .int v10), (0, .ref a_m), (1, .int p1), (2, .int p2), (3, .int p3), (4, .int p4), (5, .int p5), (6, .int p6), (7, .int p7)]) hx hb dX11_lacks_67 hl (by decide) rfl (fun ls hl => ?_)
              obtain ⟨k69, o69_, ek69, hm69, hk69⟩ := q_s4_k hf
              have JE69 : ∀ (v16 : Int32) (v17 : Int64) (v18 : Int64) (f19 : Nat → Int64) (H : Heap) (locs : List Loc) (ls : Array Slot), k69 v16 v17 v18 f19 = some (r, o1, o2, o3, o4, o5, o6, o7, o8) → va_P D vwCl ((a_m, .inr (11, (.ref a_m_cutRows :: .ref a_m_cutColumns :: .ref a_m_deep :: .ref a_m_wide :: .ref a_m_zonesAhead :: .ref a_m_nameOne :: .ref a_m_nameOther :: .ref a_m_tape :: .int m_taped :: .int m_place :: .int m_fault :: .int m_number :: .int m_levelRead :: .int m_keyRead :: .int m_reads :: .int m_faults :: .int m_cutShort :: .int m_noNumber :: .long v17 :: .long v18 :: .ref a_m_edges :: .int m_firstBeside :: .int m_manyBeside :: .ref a_m_dist :: .ref a_m_queue :: .int m_queued :: .int v4 :: .int v5 :: .int v6 :: .int v7 :: .int v8 :: .int m_isEarly :: .int m_pieces :: .int m_states :: .ref a_m_pieceLevel :: .ref a_m_pieceKey :: .ref a_m_pieceYear :: .int m_drawnNow :: .ref a_m_drawnKeys :: .ref a_m_kept :: .int m_keptAt :: .ref a_m_noNumbers :: []))) :: (a_m_deep, .inl (ci 0, 5, .inl m_deep)) :: (a_m_wide, .inl (ci 0, 5, .inl m_wide)) :: (a_m_zonesAhead, .inl (ci 0, 45, .inl m_zonesAhead)) :: (a_m_edges, .inl (ci 1, 4, .inr (.inl f19))) :: (a_m_pieceLevel, .inl (ci 0, 60, .inl m_pieceLevel)) :: (a_m_pieceKey, .inl (ci 0, 60, .inl m_pieceKey)) :: (a_m_pieceYear, .inl (ci 0, 60, .inl m_pieceYear)) :: Rw) H → va_D A ((a_m, .inr (11, (.ref a_m_cutRows :: .ref a_m_cutColumns :: .ref a_m_deep :: .ref a_m_wide :: .ref a_m_zonesAhead :: .ref a_m_nameOne :: .ref a_m_nameOther :: .ref a_m_tape :: .int m_taped :: .int m_place :: .int m_fault :: .int m_number :: .int m_levelRead :: .int m_keyRead :: .int m_reads :: .int m_faults :: .int m_cutShort :: .int m_noNumber :: .long v17 :: .long v18 :: .ref a_m_edges :: .int m_firstBeside :: .int m_manyBeside :: .ref a_m_dist :: .ref a_m_queue :: .int m_queued :: .int v4 :: .int v5 :: .int v6 :: .int v7 :: .int v8 :: .int m_isEarly :: .int m_pieces :: .int m_states :: .ref a_m_pieceLevel :: .ref a_m_pieceKey :: .ref a_m_pieceYear :: .int m_drawnNow :: .ref a_m_drawnKeys :: .ref a_m_kept :: .int m_keptAt :: .ref a_m_noNumbers :: []))) :: (a_m_deep, .inl (ci 0, 5, .inl m_deep)) :: (a_m_wide, .inl (ci 0, 5, .inl m_wide)) :: (a_m_zonesAhead, .inl (ci 0, 45, .inl m_zonesAhead)) :: (a_m_edges, .inl (ci 1, 4, .inr (.inl f19))) :: (a_m_pieceLevel, .inl (ci 0, 60, .inl m_pieceLevel)) :: (a_m_pieceKey, .inl (ci 0, 60, .inl m_pieceKey)) :: (a_m_pieceYear, .inl (ci 0, 60, .inl m_pieceYear)) :: Rw) → va_S A s.heap H locs → lv_has ls 12 [(7, .int p7), (8, .int v16)] → W p l e ({ frames := 7, cells := 0, slots := 0, locals := 158 } : Room) s m ([.ref a_m, .int p1, .int p2, .int p3, .int p4, .int p5, .int p6, .int p7] : List Value).toArray below meth c H locs 0 0 Q (F0 m 164 ls []) := by
                intro v16 v17 v18 f19 H locs ls hf hP hD hS hl
                have hf := (ek69 v16 v17 v18 f19).symm.trans hf
                refine lv_iload (pc := 164) hx hb dX11_lacks_164 (lv_at hl 0 rfl) ?_
                refine lv_iconst (pc := 166) (v := (-1)) hx hb dX11_lacks_166 (by decide) ?_
                refine q_icmp_ne (pc := 167) (tgt := 175) hx hb dX11_lacks_167 (by decide) rfl hf (fun hf => ?_) (fun hf => ?_)
                · refine lv_bipush (pc := 175) (v := (-3)) hx hb dX11_lacks_175 (by decide) ?_
                  obtain ⟨e90, e91, e92, e93, e94, e95, e96, e97, e98⟩ := q_inj9 (Option.some.inj hf)
                  rw [hQ, ← e90, ← e91, ← e92, ← e93, ← e94, ← e95, ← e96, ← e97, ← e98]
                  exact q_iret (pc := 177) hx hb hr hlocks hP hD hS dX11_lacks_177
                · refine lv_iload (pc := 170) hx hb dX11_lacks_170 (lv_at hl 1 rfl) ?_
                  refine lv_goto (pc := 172) (tgt := 177) hx hb dX11_lacks_172 (by decide) ?_
                  obtain ⟨e90, e91, e92, e93, e94, e95, e96, e97, e98⟩ := q_inj9 (Option.some.inj hf)
                  rw [hQ, ← e90, ← e91, ← e92, ← e93, ← e94, ← e95, ← e96, ← e97, ← e98]
                  exact q_iret (pc := 177) hx hb hr hlocks hP hD hS dX11_lacks_177
              have LP69 : ∀ (n69 : Nat) (v11 : Int32) (v12 : Int32) (v13 : Int64) (v14 : Int64) (f15 : Nat → Int64) (H : Heap) (locs : List Loc) (ls : Array Slot), f_M_lacks_L69 N m_deep m_pieceKey m_pieceLevel m_pieceYear m_pieces m_wide m_zonesAhead p5 p6 p7 v4 v5 v6 v7 v8 n69 v11 v12 v13 v14 f15 = some o69_ → va_P D vwCl ((a_m, .inr (11, (.ref a_m_cutRows :: .ref a_m_cutColumns :: .ref a_m_deep :: .ref a_m_wide :: .ref a_m_zonesAhead :: .ref a_m_nameOne :: .ref a_m_nameOther :: .ref a_m_tape :: .int m_taped :: .int m_place :: .int m_fault :: .int m_number :: .int m_levelRead :: .int m_keyRead :: .int m_reads :: .int m_faults :: .int m_cutShort :: .int m_noNumber :: .long v13 :: .long v14 :: .ref a_m_edges :: .int m_firstBeside :: .int m_manyBeside :: .ref a_m_dist :: .ref a_m_queue :: .int m_queued :: .int v4 :: .int v5 :: .int v6 :: .int v7 :: .int v8 :: .int m_isEarly :: .int m_pieces :: .int m_states :: .ref a_m_pieceLevel :: .ref a_m_pieceKey :: .ref a_m_pieceYear :: .int m_drawnNow :: .ref a_m_drawnKeys :: .ref a_m_kept :: .int m_keptAt :: .ref a_m_noNumbers :: []))) :: (a_m_deep, .inl (ci 0, 5, .inl m_deep)) :: (a_m_wide, .inl (ci 0, 5, .inl m_wide)) :: (a_m_zonesAhead, .inl (ci 0, 45, .inl m_zonesAhead)) :: (a_m_edges, .inl (ci 1, 4, .inr (.inl f15))) :: (a_m_pieceLevel, .inl (ci 0, 60, .inl m_pieceLevel)) :: (a_m_pieceKey, .inl (ci 0, 60, .inl m_pieceKey)) :: (a_m_pieceYear, .inl (ci 0, 60, .inl m_pieceYear)) :: Rw) H → va_D A ((a_m, .inr (11, (.ref a_m_cutRows :: .ref a_m_cutColumns :: .ref a_m_deep :: .ref a_m_wide :: .ref a_m_zonesAhead :: .ref a_m_nameOne :: .ref a_m_nameOther :: .ref a_m_tape :: .int m_taped :: .int m_place :: .int m_fault :: .int m_number :: .int m_levelRead :: .int m_keyRead :: .int m_reads :: .int m_faults :: .int m_cutShort :: .int m_noNumber :: .long v13 :: .long v14 :: .ref a_m_edges :: .int m_firstBeside :: .int m_manyBeside :: .ref a_m_dist :: .ref a_m_queue :: .int m_queued :: .int v4 :: .int v5 :: .int v6 :: .int v7 :: .int v8 :: .int m_isEarly :: .int m_pieces :: .int m_states :: .ref a_m_pieceLevel :: .ref a_m_pieceKey :: .ref a_m_pieceYear :: .int m_drawnNow :: .ref a_m_drawnKeys :: .ref a_m_kept :: .int m_keptAt :: .ref a_m_noNumbers :: []))) :: (a_m_deep, .inl (ci 0, 5, .inl m_deep)) :: (a_m_wide, .inl (ci 0, 5, .inl m_wide)) :: (a_m_zonesAhead, .inl (ci 0, 45, .inl m_zonesAhead)) :: (a_m_edges, .inl (ci 1, 4, .inr (.inl f15))) :: (a_m_pieceLevel, .inl (ci 0, 60, .inl m_pieceLevel)) :: (a_m_pieceKey, .inl (ci 0, 60, .inl m_pieceKey)) :: (a_m_pieceYear, .inl (ci 0, 60, .inl m_pieceYear)) :: Rw) → va_S A s.heap H locs → lv_has ls 12 [(0, .ref a_m), (5, .int p5), (6, .int p6), (7, .int p7), (8, .int v11), (9, .int v12)] → W p l e ({ frames := 7, cells := 0, slots := 0, locals := 158 } : Room) s m ([.ref a_m, .int p1, .int p2, .int p3, .int p4, .int p5, .int p6, .int p7] : List Value).toArray below meth c H locs 0 0 Q (F0 m 69 ls []) := by
                intro n69
                induction n69 with
                | zero => intro v11 v12 v13 v14 f15 H locs ls hf; rw [f_M_lacks_L69] at hf; cases hf
                | succ n69 ih69 =>
                  intro v11 v12 v13 v14 f15 H locs ls hf hP hD hS hl
                  rw [f_M_lacks_L69] at hf
                  refine lv_iload (pc := 69) hx hb dX11_lacks_69 (lv_at hl 5 rfl) ?_
                  refine lv_aload_n (pc := 71) hx hb dX11_lacks_71 rfl (lv_at hl 0 rfl) ?_
                  refine va_get (pc := 72) (D := D) (ci := 11) (v := .int v6) (C := RX11) (T := TX11) (N := 42) hx hb hts hinX11 hown hK hP 0 rfl rfl 28 (by decide) w_2 (fun _ h9 => h9) rfl dX11_lacks_72 ?_
                  refine q_icmp_gt (pc := 75) (tgt := 164) hx hb dX11_lacks_75 (by decide) rfl hf (fun hf => ?_) (fun hf => ?_)
                  · obtain rfl := Option.some.inj hf
                    exact JE69 v11 v13 v14 f15 _ _ _ hk69 hP hD hS (lv_sub hl [3, 4] rfl)
                  · refine lv_iconst (pc := 78) (v := 0) hx hb dX11_lacks_78 (by decide) ?_
                    obtain ⟨v20, ev20, hf⟩ := q_nm_e hf
                    refine q_topi ev20 ?_
                    refine lv_istore (pc := 79) (lv' := [(10, .int v20), (0, .ref a_m), (5, .int p5), (6, .int p6), (7, .int p7), (8, .int v11), (9, .int v12)]) hx hb dX11_lacks_79 hl (by decide) rfl (fun ls hl => ?_)
                    obtain ⟨k81, o81_, ek81, hm81, hk81⟩ := q_s4_k hf
                    have JE81 : ∀ (v26 : Int32) (v27 : Int64) (v28 : Int64) (f29 : Nat → Int64) (H : Heap) (locs : List Loc) (ls : Array Slot), k81 v26 v27 v28 f29 = some o69_ → va_P D vwCl ((a_m, .inr (11, (.ref a_m_cutRows :: .ref a_m_cutColumns :: .ref a_m_deep :: .ref a_m_wide :: .ref a_m_zonesAhead :: .ref a_m_nameOne :: .ref a_m_nameOther :: .ref a_m_tape :: .int m_taped :: .int m_place :: .int m_fault :: .int m_number :: .int m_levelRead :: .int m_keyRead :: .int m_reads :: .int m_faults :: .int m_cutShort :: .int m_noNumber :: .long v27 :: .long v28 :: .ref a_m_edges :: .int m_firstBeside :: .int m_manyBeside :: .ref a_m_dist :: .ref a_m_queue :: .int m_queued :: .int v4 :: .int v5 :: .int v6 :: .int v7 :: .int v8 :: .int m_isEarly :: .int m_pieces :: .int m_states :: .ref a_m_pieceLevel :: .ref a_m_pieceKey :: .ref a_m_pieceYear :: .int m_drawnNow :: .ref a_m_drawnKeys :: .ref a_m_kept :: .int m_keptAt :: .ref a_m_noNumbers :: []))) :: (a_m_deep, .inl (ci 0, 5, .inl m_deep)) :: (a_m_wide, .inl (ci 0, 5, .inl m_wide)) :: (a_m_zonesAhead, .inl (ci 0, 45, .inl m_zonesAhead)) :: (a_m_edges, .inl (ci 1, 4, .inr (.inl f29))) :: (a_m_pieceLevel, .inl (ci 0, 60, .inl m_pieceLevel)) :: (a_m_pieceKey, .inl (ci 0, 60, .inl m_pieceKey)) :: (a_m_pieceYear, .inl (ci 0, 60, .inl m_pieceYear)) :: Rw) H → va_D A ((a_m, .inr (11, (.ref a_m_cutRows :: .ref a_m_cutColumns :: .ref a_m_deep :: .ref a_m_wide :: .ref a_m_zonesAhead :: .ref a_m_nameOne :: .ref a_m_nameOther :: .ref a_m_tape :: .int m_taped :: .int m_place :: .int m_fault :: .int m_number :: .int m_levelRead :: .int m_keyRead :: .int m_reads :: .int m_faults :: .int m_cutShort :: .int m_noNumber :: .long v27 :: .long v28 :: .ref a_m_edges :: .int m_firstBeside :: .int m_manyBeside :: .ref a_m_dist :: .ref a_m_queue :: .int m_queued :: .int v4 :: .int v5 :: .int v6 :: .int v7 :: .int v8 :: .int m_isEarly :: .int m_pieces :: .int m_states :: .ref a_m_pieceLevel :: .ref a_m_pieceKey :: .ref a_m_pieceYear :: .int m_drawnNow :: .ref a_m_drawnKeys :: .ref a_m_kept :: .int m_keptAt :: .ref a_m_noNumbers :: []))) :: (a_m_deep, .inl (ci 0, 5, .inl m_deep)) :: (a_m_wide, .inl (ci 0, 5, .inl m_wide)) :: (a_m_zonesAhead, .inl (ci 0, 45, .inl m_zonesAhead)) :: (a_m_edges, .inl (ci 1, 4, .inr (.inl f29))) :: (a_m_pieceLevel, .inl (ci 0, 60, .inl m_pieceLevel)) :: (a_m_pieceKey, .inl (ci 0, 60, .inl m_pieceKey)) :: (a_m_pieceYear, .inl (ci 0, 60, .inl m_pieceYear)) :: Rw) → va_S A s.heap H locs → lv_has ls 12 [(0, .ref a_m), (5, .int p5), (6, .int p6), (7, .int p7), (8, .int v26), (9, .int v12)] → W p l e ({ frames := 7, cells := 0, slots := 0, locals := 158 } : Room) s m ([.ref a_m, .int p1, .int p2, .int p3, .int p4, .int p5, .int p6, .int p7] : List Value).toArray below meth c H locs 0 0 Q (F0 m 158 ls []) := by
                      intro v26 v27 v28 f29 H locs ls hf hP hD hS hl
                      have hf := (ek81 v26 v27 v28 f29).symm.trans hf
                      obtain ⟨v30, ev30, hf⟩ := q_nm_e hf
                      refine lv_iinc (pc := 158) (v := v30) (lv' := [(9, .int v30), (0, .ref a_m), (5, .int p5), (6, .int p6), (7, .int p7), (8, .int v26)]) hx hb dX11_lacks_158 hl (k := 5) rfl (by rw [ev30]; rfl) (by decide) rfl (fun ls hl => ?_)
                      refine lv_goto (pc := 161) (tgt := 69) hx hb dX11_lacks_161 (by decide) ?_
                      exact ih69 v26 v30 v27 v28 f29 _ _ _ hf hP hD hS (lv_sub hl [1, 2, 3, 4, 5, 0] rfl)
                    have LP81 : ∀ (n81 : Nat) (v21 : Int32) (v22 : Int32) (v23 : Int64) (v24 : Int64) (f25 : Nat → Int64) (H : Heap) (locs : List Loc) (ls : Array Slot), f_M_lacks_L81 N m_deep m_pieceKey m_pieceLevel m_pieceYear m_pieces m_wide m_zonesAhead p5 p6 p7 v12 v4 v5 v6 v7 v8 n81 v21 v22 v23 v24 f25 = some o81_ → va_P D vwCl ((a_m, .inr (11, (.ref a_m_cutRows :: .ref a_m_cutColumns :: .ref a_m_deep :: .ref a_m_wide :: .ref a_m_zonesAhead :: .ref a_m_nameOne :: .ref a_m_nameOther :: .ref a_m_tape :: .int m_taped :: .int m_place :: .int m_fault :: .int m_number :: .int m_levelRead :: .int m_keyRead :: .int m_reads :: .int m_faults :: .int m_cutShort :: .int m_noNumber :: .long v23 :: .long v24 :: .ref a_m_edges :: .int m_firstBeside :: .int m_manyBeside :: .ref a_m_dist :: .ref a_m_queue :: .int m_queued :: .int v4 :: .int v5 :: .int v6 :: .int v7 :: .int v8 :: .int m_isEarly :: .int m_pieces :: .int m_states :: .ref a_m_pieceLevel :: .ref a_m_pieceKey :: .ref a_m_pieceYear :: .int m_drawnNow :: .ref a_m_drawnKeys :: .ref a_m_kept :: .int m_keptAt :: .ref a_m_noNumbers :: []))) :: (a_m_deep, .inl (ci 0, 5, .inl m_deep)) :: (a_m_wide, .inl (ci 0, 5, .inl m_wide)) :: (a_m_zonesAhead, .inl (ci 0, 45, .inl m_zonesAhead)) :: (a_m_edges, .inl (ci 1, 4, .inr (.inl f25))) :: (a_m_pieceLevel, .inl (ci 0, 60, .inl m_pieceLevel)) :: (a_m_pieceKey, .inl (ci 0, 60, .inl m_pieceKey)) :: (a_m_pieceYear, .inl (ci 0, 60, .inl m_pieceYear)) :: Rw) H → va_D A ((a_m, .inr (11, (.ref a_m_cutRows :: .ref a_m_cutColumns :: .ref a_m_deep :: .ref a_m_wide :: .ref a_m_zonesAhead :: .ref a_m_nameOne :: .ref a_m_nameOther :: .ref a_m_tape :: .int m_taped :: .int m_place :: .int m_fault :: .int m_number :: .int m_levelRead :: .int m_keyRead :: .int m_reads :: .int m_faults :: .int m_cutShort :: .int m_noNumber :: .long v23 :: .long v24 :: .ref a_m_edges :: .int m_firstBeside :: .int m_manyBeside :: .ref a_m_dist :: .ref a_m_queue :: .int m_queued :: .int v4 :: .int v5 :: .int v6 :: .int v7 :: .int v8 :: .int m_isEarly :: .int m_pieces :: .int m_states :: .ref a_m_pieceLevel :: .ref a_m_pieceKey :: .ref a_m_pieceYear :: .int m_drawnNow :: .ref a_m_drawnKeys :: .ref a_m_kept :: .int m_keptAt :: .ref a_m_noNumbers :: []))) :: (a_m_deep, .inl (ci 0, 5, .inl m_deep)) :: (a_m_wide, .inl (ci 0, 5, .inl m_wide)) :: (a_m_zonesAhead, .inl (ci 0, 45, .inl m_zonesAhead)) :: (a_m_edges, .inl (ci 1, 4, .inr (.inl f25))) :: (a_m_pieceLevel, .inl (ci 0, 60, .inl m_pieceLevel)) :: (a_m_pieceKey, .inl (ci 0, 60, .inl m_pieceKey)) :: (a_m_pieceYear, .inl (ci 0, 60, .inl m_pieceYear)) :: Rw) → va_S A s.heap H locs → lv_has ls 12 [(0, .ref a_m), (5, .int p5), (6, .int p6), (7, .int p7), (8, .int v21), (9, .int v12), (10, .int v22)] → W p l e ({ frames := 7, cells := 0, slots := 0, locals := 158 } : Room) s m ([.ref a_m, .int p1, .int p2, .int p3, .int p4, .int p5, .int p6, .int p7] : List Value).toArray below meth c H locs 0 0 Q (F0 m 81 ls []) := by
                      intro n81
                      induction n81 with
                      | zero => intro v21 v22 v23 v24 f25 H locs ls hf; rw [f_M_lacks_L81] at hf; cases hf
                      | succ n81 ih81 =>
                        intro v21 v22 v23 v24 f25 H locs ls hf hP hD hS hl
                        rw [f_M_lacks_L81] at hf
                        refine lv_iload (pc := 81) hx hb dX11_lacks_81 (lv_at hl 6 rfl) ?_
                        refine lv_aload_n (pc := 83) hx hb dX11_lacks_83 rfl (lv_at hl 0 rfl) ?_
                        refine lv_iload (pc := 84) hx hb dX11_lacks_84 (lv_at hl 5 rfl) ?_
                        obtain ⟨v31, hm86, hf⟩ := q_b1_e hf
                        refine q_cVr (pc := 86) (As := [.int v12]) (rest := [.int v22]) (v0 := (some (.int v31))) ⟨hx, hb, hml, hown, hts⟩ hK hA hZ hP hD hS hl.1 [0, 1, 2] 8 rfl ⟨rfl, rfl, rfl⟩ (c_M_boxMany l D ci A sa N (Rw) a_m a_m_cutRows a_m_cutColumns a_m_deep a_m_wide a_m_zonesAhead a_m_nameOne a_m_nameOther a_m_tape a_m_edges a_m_dist a_m_queue a_m_pieceLevel a_m_pieceKey a_m_pieceYear a_m_drawnKeys a_m_kept a_m_noNumbers m_taped m_place m_fault m_number m_levelRead m_keyRead m_reads m_faults m_cutShort m_noNumber v23 v24 m_firstBeside m_manyBeside m_queued v4 v5 v6 v7 v8 m_isEarly m_pieces m_states m_drawnNow m_keptAt m_deep m_wide v12 v31 hm86) 0 rfl rfl (cwV 1 hts gX11_lacks_X11_boxMany rfl rfl rfl (by decide +kernel) ⟨Nat.le_of_ble_eq_true rfl, Nat.le_of_ble_eq_true rfl⟩) rfl rfl (Nat.le_of_ble_eq_true rfl) dX11_lacks_86 ⟨Nat.zero_le _, Nat.zero_le _⟩ (fun locs hS => ?_)
                        refine q_icmp_ge (pc := 89) (tgt := 158) hx hb dX11_lacks_89 (by decide) rfl hf (fun hf => ?_) (fun hf => ?_)
                        · obtain rfl := Option.some.inj hf
                          exact JE81 v21 v23 v24 f25 _ _ _ hk81 hP hD hS (lv_sub hl [0, 1, 2, 3, 4, 5] rfl)
                        · refine lv_aload_n (pc := 92) hx hb dX11_lacks_92 rfl (lv_at hl 0 rfl) ?_
                          refine lv_iload (pc := 93) hx hb dX11_lacks_93 (lv_at hl 1 rfl) ?_
                          refine lv_iload (pc := 95) hx hb dX11_lacks_95 (lv_at hl 5 rfl) ?_
                          refine lv_aload_n (pc := 97) hx hb dX11_lacks_97 rfl (lv_at hl 0 rfl) ?_
                          refine lv_iload (pc := 98) hx hb dX11_lacks_98 (lv_at hl 5 rfl) ?_
                          obtain ⟨v32, hm100, hf⟩ := q_b1_e hf
                          refine q_cVr (pc := 100) (As := [.int v12]) (rest := [.int v12, .int p5, .ref a_m]) (v0 := (some (.int v32))) ⟨hx, hb, hml, hown, hts⟩ hK hA hZ hP hD hS hl.1 [0, 1, 2] 8 rfl ⟨rfl, rfl, rfl⟩ (c_M_westOf l D ci A sa N (Rw) a_m a_m_cutRows a_m_cutColumns a_m_deep a_m_wide a_m_zonesAhead a_m_nameOne a_m_nameOther a_m_tape a_m_edges a_m_dist a_m_queue a_m_pieceLevel a_m_pieceKey a_m_pieceYear a_m_drawnKeys a_m_kept a_m_noNumbers m_taped m_place m_fault m_number m_levelRead m_keyRead m_reads m_faults m_cutShort m_noNumber v23 v24 m_firstBeside m_manyBeside m_queued v4 v5 v6 v7 v8 m_isEarly m_pieces m_states m_drawnNow m_keptAt m_deep m_wide v12 v32 hm100) 0 rfl rfl (cwV 1 hts gX11_lacks_X11_westOf rfl rfl rfl (by decide +kernel) ⟨Nat.le_of_ble_eq_true rfl, Nat.le_of_ble_eq_true rfl⟩) rfl rfl (Nat.le_of_ble_eq_true rfl) dX11_lacks_100 ⟨Nat.zero_le _, Nat.zero_le _⟩ (fun locs hS => ?_)
                          refine lv_iload (pc := 103) hx hb dX11_lacks_103 (lv_at hl 6 rfl) ?_
                          refine lv_iadd (pc := 105) hx hb dX11_lacks_105 ?_
                          refine lv_aload_n (pc := 106) hx hb dX11_lacks_106 rfl (lv_at hl 0 rfl) ?_
                          refine lv_iload (pc := 107) hx hb dX11_lacks_107 (lv_at hl 1 rfl) ?_
                          refine lv_iload (pc := 109) hx hb dX11_lacks_109 (lv_at hl 5 rfl) ?_
                          obtain ⟨v33, hm111, hf⟩ := q_b1_e hf
                          refine q_cVr (pc := 111) (As := [.int p5, .int v12]) (rest := [.int (v32 + v22), .int v12, .int p5, .ref a_m]) (v0 := (some (.int v33))) ⟨hx, hb, hml, hown, hts⟩ hK hA hZ hP hD hS hl.1 [0, 1, 2] 8 rfl ⟨rfl, rfl, rfl⟩ (c_M_many l D ci A sa N (Rw) a_m a_m_cutRows a_m_cutColumns a_m_deep a_m_wide a_m_zonesAhead a_m_nameOne a_m_nameOther a_m_tape a_m_edges a_m_dist a_m_queue a_m_pieceLevel a_m_pieceKey a_m_pieceYear a_m_drawnKeys a_m_kept a_m_noNumbers m_taped m_place m_fault m_number m_levelRead m_keyRead m_reads m_faults m_cutShort m_noNumber v23 v24 m_firstBeside m_manyBeside m_queued v4 v5 v6 v7 v8 m_isEarly m_pieces m_states m_drawnNow m_keptAt m_deep m_wide p5 v12 v33 hm111) 0 rfl rfl (cwV 2 hts gX11_lacks_X11_many rfl rfl rfl (by decide +kernel) ⟨Nat.le_of_ble_eq_true rfl, Nat.le_of_ble_eq_true rfl⟩) rfl rfl (Nat.le_of_ble_eq_true rfl) dX11_lacks_111 ⟨Nat.zero_le _, Nat.zero_le _⟩ (fun locs hS => ?_)
                          refine q_irem (pc := 114) hx hb dX11_lacks_114 hf (fun v34 hf => ?_)
                          obtain ⟨v35, hm115, hf⟩ := q_b1_e hf
                          refine q_cVr (pc := 115) (As := [.int p5, .int v12, .int v34]) (rest := []) (v0 := (some (.int v35))) ⟨hx, hb, hml, hown, hts⟩ hK hA hZ hP hD hS hl.1 [0, 1, 2, 3] 8 rfl ⟨rfl, rfl, rfl⟩ (c_M_keyOf l D ci A sa N (Rw) a_m a_m_cutRows a_m_cutColumns a_m_deep a_m_wide a_m_zonesAhead a_m_nameOne a_m_nameOther a_m_tape a_m_edges a_m_dist a_m_queue a_m_pieceLevel a_m_pieceKey a_m_pieceYear a_m_drawnKeys a_m_kept a_m_noNumbers m_taped m_place m_fault m_number m_levelRead m_keyRead m_reads m_faults m_cutShort m_noNumber v23 v24 m_firstBeside m_manyBeside m_queued v4 v5 v6 v7 v8 m_isEarly m_pieces m_states m_drawnNow m_keptAt m_deep m_wide m_zonesAhead p5 v12 v34 v35 hm115) 0 rfl rfl (cwV 3 hts gX11_lacks_X11_keyOf rfl rfl rfl (by decide +kernel) ⟨Nat.le_of_ble_eq_true rfl, Nat.le_of_ble_eq_true rfl⟩) rfl rfl (Nat.le_of_ble_eq_true rfl) dX11_lacks_115 ⟨Nat.zero_le _, Nat.zero_le _⟩ (fun locs hS => ?_)
                          refine lv_istore (pc := 118) (lv' := [(11, .int v35), (0, .ref a_m), (5, .int p5), (6, .int p6), (7, .int p7), (8, .int v21), (9, .int v12), (10, .int v22)]) hx hb dX11_lacks_118 hl (by decide) rfl (fun ls hl => ?_)
                          refine lv_aload_n (pc := 120) hx hb dX11_lacks_120 rfl (lv_at hl 1 rfl) ?_
                          refine lv_iload (pc := 121) hx hb dX11_lacks_121 (lv_at hl 2 rfl) ?_
                          refine lv_iload (pc := 123) hx hb dX11_lacks_123 (lv_at hl 0 rfl) ?_
                          refine lv_iload (pc := 125) hx hb dX11_lacks_125 (lv_at hl 3 rfl) ?_
                          obtain ⟨v36, v37, v38, f39, hm127, hf⟩ := q_b4_e hf
                          refine q_cV (pc := 127) (As := [.int p5, .int v35, .int p6]) (rest := []) (v0 := (some (.int v36))) ⟨hx, hb, hml, hown, hts⟩ hK hA hZ hP hD hS hl.1 [0, 1, 2, 3, 4, 5, 6, 7] 8 rfl ⟨rfl, rfl, rfl⟩ (c_M_isLacking l D ci A sa N (Rw) a_m a_m_cutRows a_m_cutColumns a_m_deep a_m_wide a_m_zonesAhead a_m_nameOne a_m_nameOther a_m_tape a_m_edges a_m_dist a_m_queue a_m_pieceLevel a_m_pieceKey a_m_pieceYear a_m_drawnKeys a_m_kept a_m_noNumbers m_taped m_place m_fault m_number m_levelRead m_keyRead m_reads m_faults m_cutShort m_noNumber v23 v24 m_firstBeside m_manyBeside m_queued v4 v5 v6 v7 v8 m_isEarly m_pieces m_states m_drawnNow m_keptAt m_deep m_wide m_zonesAhead f25 m_pieceLevel m_pieceKey m_pieceYear p5 v35 p6 v36 v37 v38 f39 hm127) 0 rfl rfl (cwV 3 hts gX11_lacks_X11_isLacking rfl rfl rfl (by decide +kernel) ⟨Nat.le_of_ble_eq_true rfl, Nat.le_of_ble_eq_true rfl⟩) rfl rfl (Nat.le_of_ble_eq_true rfl) dX11_lacks_127 ⟨Nat.zero_le _, Nat.zero_le _⟩ [0, 1, 2, 3, 4, 5, 6, 7] 8 rfl ⟨rfl, rfl, rfl⟩ (fun H locs hP hD hS => ?_)
                          obtain ⟨hP, hD⟩ : va_PD D A ((a_m, .inr (11, (.ref a_m_cutRows :: .ref a_m_cutColumns :: .ref a_m_deep :: .ref a_m_wide :: .ref a_m_zonesAhead :: .ref a_m_nameOne :: .ref a_m_nameOther :: .ref a_m_tape :: .int m_taped :: .int m_place :: .int m_fault :: .int m_number :: .int m_levelRead :: .int m_keyRead :: .int m_reads :: .int m_faults :: .int m_cutShort :: .int m_noNumber :: .long v37 :: .long v38 :: .ref a_m_edges :: .int m_firstBeside :: .int m_manyBeside :: .ref a_m_dist :: .ref a_m_queue :: .int m_queued :: .int v4 :: .int v5 :: .int v6 :: .int v7 :: .int v8 :: .int m_isEarly :: .int m_pieces :: .int m_states :: .ref a_m_pieceLevel :: .ref a_m_pieceKey :: .ref a_m_pieceYear :: .int m_drawnNow :: .ref a_m_drawnKeys :: .ref a_m_kept :: .int m_keptAt :: .ref a_m_noNumbers :: []))) :: (a_m_deep, .inl (ci 0, 5, .inl m_deep)) :: (a_m_wide, .inl (ci 0, 5, .inl m_wide)) :: (a_m_zonesAhead, .inl (ci 0, 45, .inl m_zonesAhead)) :: (a_m_edges, .inl (ci 1, 4, .inr (.inl f39))) :: (a_m_pieceLevel, .inl (ci 0, 60, .inl m_pieceLevel)) :: (a_m_pieceKey, .inl (ci 0, 60, .inl m_pieceKey)) :: (a_m_pieceYear, .inl (ci 0, 60, .inl m_pieceYear)) :: Rw) H := ⟨hP, hD⟩
                          obtain ⟨k152, ek152, hf⟩ := q_j1_e hf
                          have J152 : ∀ (v40 : Int32) (H : Heap) (locs : List Loc) (ls : Array Slot), k152 v40 = some o81_ → va_P D vwCl ((a_m, .inr (11, (.ref a_m_cutRows :: .ref a_m_cutColumns :: .ref a_m_deep :: .ref a_m_wide :: .ref a_m_zonesAhead :: .ref a_m_nameOne :: .ref a_m_nameOther :: .ref a_m_tape :: .int m_taped :: .int m_place :: .int m_fault :: .int m_number :: .int m_levelRead :: .int m_keyRead :: .int m_reads :: .int m_faults :: .int m_cutShort :: .int m_noNumber :: .long v37 :: .long v38 :: .ref a_m_edges :: .int m_firstBeside :: .int m_manyBeside :: .ref a_m_dist :: .ref a_m_queue :: .int m_queued :: .int v4 :: .int v5 :: .int v6 :: .int v7 :: .int v8 :: .int m_isEarly :: .int m_pieces :: .int m_states :: .ref a_m_pieceLevel :: .ref a_m_pieceKey :: .ref a_m_pieceYear :: .int m_drawnNow :: .ref a_m_drawnKeys :: .ref a_m_kept :: .int m_keptAt :: .ref a_m_noNumbers :: []))) :: (a_m_deep, .inl (ci 0, 5, .inl m_deep)) :: (a_m_wide, .inl (ci 0, 5, .inl m_wide)) :: (a_m_zonesAhead, .inl (ci 0, 45, .inl m_zonesAhead)) :: (a_m_edges, .inl (ci 1, 4, .inr (.inl f39))) :: (a_m_pieceLevel, .inl (ci 0, 60, .inl m_pieceLevel)) :: (a_m_pieceKey, .inl (ci 0, 60, .inl m_pieceKey)) :: (a_m_pieceYear, .inl (ci 0, 60, .inl m_pieceYear)) :: Rw) H → va_D A ((a_m, .inr (11, (.ref a_m_cutRows :: .ref a_m_cutColumns :: .ref a_m_deep :: .ref a_m_wide :: .ref a_m_zonesAhead :: .ref a_m_nameOne :: .ref a_m_nameOther :: .ref a_m_tape :: .int m_taped :: .int m_place :: .int m_fault :: .int m_number :: .int m_levelRead :: .int m_keyRead :: .int m_reads :: .int m_faults :: .int m_cutShort :: .int m_noNumber :: .long v37 :: .long v38 :: .ref a_m_edges :: .int m_firstBeside :: .int m_manyBeside :: .ref a_m_dist :: .ref a_m_queue :: .int m_queued :: .int v4 :: .int v5 :: .int v6 :: .int v7 :: .int v8 :: .int m_isEarly :: .int m_pieces :: .int m_states :: .ref a_m_pieceLevel :: .ref a_m_pieceKey :: .ref a_m_pieceYear :: .int m_drawnNow :: .ref a_m_drawnKeys :: .ref a_m_kept :: .int m_keptAt :: .ref a_m_noNumbers :: []))) :: (a_m_deep, .inl (ci 0, 5, .inl m_deep)) :: (a_m_wide, .inl (ci 0, 5, .inl m_wide)) :: (a_m_zonesAhead, .inl (ci 0, 45, .inl m_zonesAhead)) :: (a_m_edges, .inl (ci 1, 4, .inr (.inl f39))) :: (a_m_pieceLevel, .inl (ci 0, 60, .inl m_pieceLevel)) :: (a_m_pieceKey, .inl (ci 0, 60, .inl m_pieceKey)) :: (a_m_pieceYear, .inl (ci 0, 60, .inl m_pieceYear)) :: Rw) → va_S A s.heap H locs → lv_has ls 12 [(0, .ref a_m), (5, .int p5), (6, .int p6), (7, .int p7), (8, .int v40), (9, .int v12), (10, .int v22)] → W p l e ({ frames := 7, cells := 0, slots := 0, locals := 158 } : Room) s m ([.ref a_m, .int p1, .int p2, .int p3, .int p4, .int p5, .int p6, .int p7] : List Value).toArray below meth c H locs 0 0 Q (F0 m 152 ls []) := by
                            intro v40 H locs ls hf hP hD hS hl
                            have hf := (ek152 v40).symm.trans hf
                            obtain ⟨v41, ev41, hf⟩ := q_nm_e hf
                            refine lv_iinc (pc := 152) (v := v41) (lv' := [(10, .int v41), (0, .ref a_m), (5, .int p5), (6, .int p6), (7, .int p7), (8, .int v40), (9, .int v12)]) hx hb dX11_lacks_152 hl (k := 6) rfl (by rw [ev41]; rfl) (by decide) rfl (fun ls hl => ?_)
                            refine lv_goto (pc := 155) (tgt := 81) hx hb dX11_lacks_155 (by decide) ?_
                            exact ih81 v40 v41 v37 v38 f39 _ _ _ hf hP hD hS (lv_sub hl [1, 2, 3, 4, 5, 6, 0] rfl)
                          refine q_if_ne (pc := 130) (tgt := 136) hx hb dX11_lacks_130 (by decide) rfl hf (fun hf => ?_) (fun hf => ?_)
                          · refine lv_iload (pc := 136) hx hb dX11_lacks_136 (lv_at hl 5 rfl) ?_
                            refine lv_iload (pc := 138) hx hb dX11_lacks_138 (lv_at hl 4 rfl) ?_
                            refine q_icmp_ne (pc := 140) (tgt := 146) hx hb dX11_lacks_140 (by decide) rfl hf (fun hf => ?_) (fun hf => ?_)
                            · refine lv_iload (pc := 146) hx hb dX11_lacks_146 (lv_at hl 5 rfl) ?_
                              refine lv_iconst (pc := 148) (v := 1) hx hb dX11_lacks_148 (by decide) ?_
                              refine lv_iadd (pc := 149) hx hb dX11_lacks_149 ?_
                              obtain ⟨v42, ev42, hf⟩ := q_nm_e hf
                              refine q_topi ev42 ?_
                              refine lv_istore (pc := 150) (lv' := [(8, .int v42), (11, .int v35), (0, .ref a_m), (5, .int p5), (6, .int p6), (7, .int p7), (9, .int v12), (10, .int v22)]) hx hb dX11_lacks_150 hl (by decide) rfl (fun ls hl => ?_)
                              exact J152 v42 _ _ _ hf hP hD hS (lv_sub hl [2, 3, 4, 5, 0, 6, 7] rfl)
                            · refine lv_iload (pc := 143) hx hb dX11_lacks_143 (lv_at hl 0 rfl) ?_
                              obtain rfl := Option.some.inj hf
                              have hk81 : ((.inr (v35, v37, v38, f39, v4, v5, v6, v7, v8)) : (Int32 × Int64 × Int64 × (Nat → Int64)) ⊕ (Int32 × Int64 × Int64 × (Nat → Int64) × Int32 × Int32 × Int32 × Int32 × Int32)) = o69_ := hk81
                              obtain rfl := hk81
                              have hk69 : ((v35, v37, v38, f39, v4, v5, v6, v7, v8) : Int32 × Int64 × Int64 × (Nat → Int64) × Int32 × Int32 × Int32 × Int32 × Int32) = (r, o1, o2, o3, o4, o5, o6, o7, o8) := hk69
                              obtain ⟨e90, e91, e92, e93, e94, e95, e96, e97, e98⟩ := q_inj9 (hk69)
                              rw [hQ, ← e90, ← e91, ← e92, ← e93, ← e94, ← e95, ← e96, ← e97, ← e98]
                              exact q_iret (pc := 145) hx hb hr hlocks hP hD hS dX11_lacks_145
                          · refine lv_goto (pc := 133) (tgt := 152) hx hb dX11_lacks_133 (by decide) ?_
                            exact J152 v21 _ _ _ hf hP hD hS (lv_sub hl [1, 2, 3, 4, 5, 6, 7] rfl)
                    exact LP81 N v11 v20 v13 v14 f15 _ _ _ hm81 hP hD hS (lv_sub hl [1, 2, 3, 4, 5, 6, 0] rfl)
              exact LP69 N v10 v5 m_bottomLat m_bottomLon m_edges _ _ _ hm69 hP hD hS (lv_sub hl [2, 7, 8, 9, 1, 0] rfl)
            · refine lv_bipush (pc := 57) (v := (-2)) hx hb dX11_lacks_57 (by decide) ?_
              obtain ⟨e90, e91, e92, e93, e94, e95, e96, e97, e98⟩ := q_inj9 (Option.some.inj hf)
              rw [hQ, ← e90, ← e91, ← e92, ← e93, ← e94, ← e95, ← e96, ← e97, ← e98]
              exact q_iret (pc := 59) hx hb hr hlocks hP hD hS dX11_lacks_59
          · refine lv_iconst (pc := 34) (v := (-1)) hx hb dX11_lacks_34 (by decide) ?_
            obtain ⟨e90, e91, e92, e93, e94, e95, e96, e97, e98⟩ := q_inj9 (Option.some.inj hf)
            rw [hQ, ← e90, ← e91, ← e92, ← e93, ← e94, ← e95, ← e96, ← e97, ← e98]
            exact q_iret (pc := 35) hx hb hr hlocks hP hD hS dX11_lacks_35
  exact hgo _ _ rfl hP hS
/-! X11_level -/
set_option maxRecDepth 100000 in
set_option maxHeartbeats 4000000 in
theorem c_M_level (l : Launch) (D : va_G) (ci : Nat → ClassId) (A : Nat → Prop) (sa : Nat → Nat) (N : Nat) (Rw : va_W) (a_m : Nat) (a_m_cutRows : Nat) (a_m_cutColumns : Nat) (a_m_deep : Nat) (a_m_wide : Nat) (a_m_zonesAhead : Nat) (a_m_nameOne : Nat) (a_m_nameOther : Nat) (a_m_tape : Nat) (a_m_edges : Nat) (a_m_dist : Nat) (a_m_queue : Nat) (a_m_pieceLevel : Nat) (a_m_pieceKey : Nat) (a_m_pieceYear : Nat) (a_m_drawnKeys : Nat) (a_m_kept : Nat) (a_m_noNumbers : Nat) (m_taped : Int32) (m_place : Int32) (m_fault : Int32) (m_number : Int32) (m_levelRead : Int32) (m_keyRead : Int32) (m_reads : Int32) (m_faults : Int32) (m_cutShort : Int32) (m_noNumber : Int32) (m_bottomLat : Int64) (m_bottomLon : Int64) (m_firstBeside : Int32) (m_manyBeside : Int32) (m_queued : Int32) (m_boxLevel : Int32) (m_boxTop : Int32) (m_boxBottom : Int32) (m_boxWest : Int32) (m_boxEast : Int32) (m_isEarly : Int32) (m_pieces : Int32) (m_states : Int32) (m_drawnNow : Int32) (m_keptAt : Int32) (m_cutRows : Nat → Int32) (m_cutColumns : Nat → Int32) (m_deep : Nat → Int32) (m_wide : Nat → Int32) (m_zonesAhead : Nat → Int32) (p1 : Int32) (p2 : Int32) (r : Int32) (hf : f_M_level m_cutRows m_cutColumns m_deep m_wide m_zonesAhead p1 p2 = some r) : Met l yX11_level wsX11_level ({ frames := 2, cells := 0, slots := 0, locals := 45 }) (va_Pc [.ref a_m, .int p1, .int p2] (q_N D ci A sa ((a_m, .inr (11, (.ref a_m_cutRows :: .ref a_m_cutColumns :: .ref a_m_deep :: .ref a_m_wide :: .ref a_m_zonesAhead :: .ref a_m_nameOne :: .ref a_m_nameOther :: .ref a_m_tape :: .int m_taped :: .int m_place :: .int m_fault :: .int m_number :: .int m_levelRead :: .int m_keyRead :: .int m_reads :: .int m_faults :: .int m_cutShort :: .int m_noNumber :: .long m_bottomLat :: .long m_bottomLon :: .ref a_m_edges :: .int m_firstBeside :: .int m_manyBeside :: .ref a_m_dist :: .ref a_m_queue :: .int m_queued :: .int m_boxLevel :: .int m_boxTop :: .int m_boxBottom :: .int m_boxWest :: .int m_boxEast :: .int m_isEarly :: .int m_pieces :: .int m_states :: .ref a_m_pieceLevel :: .ref a_m_pieceKey :: .ref a_m_pieceYear :: .int m_drawnNow :: .ref a_m_drawnKeys :: .ref a_m_kept :: .int m_keptAt :: .ref a_m_noNumbers :: []))) :: (a_m_cutRows, .inl (ci 0, 5, .inl m_cutRows)) :: (a_m_cutColumns, .inl (ci 0, 5, .inl m_cutColumns)) :: (a_m_deep, .inl (ci 0, 5, .inl m_deep)) :: (a_m_wide, .inl (ci 0, 5, .inl m_wide)) :: (a_m_zonesAhead, .inl (ci 0, 45, .inl m_zonesAhead)) :: Rw))) (q_R (some (.int r))) 0 0 A := by
  refine q_ofW (cc := cX11_level) (maxL := 3) (ret := (some .int)) [.ref a_m, .int p1, .int p2] (plainFor_of_name (by decide)) rfl (Nat.le_of_ble_eq_true rfl) ?_
  intro p e s m below meth c ls Q hQ hx hb hml hr hts hown hlocks hK hA hZ hP hD hS hl
  have hl : lv_has ls 3 [(0, .ref a_m), (1, .int p1), (2, .int p2)] := hl
  have hown : s.vm.findClass RX11 = some m.cls := hown
  have hinX11 : ∀ w ∈ wsX110, w ∈ wsX11_level := fun _ h => List.mem_cons_of_mem _ (inWX110 _ h)
  have w_1 := hts (Cond.constantLong RX11 131 (5)) (List.mem_cons_of_mem _ t_w966)
  have w_2 := hts (Cond.fieldLink RX11 7 "SheetNamesModel" "cutRows" "[I") (List.mem_cons_of_mem _ t_w924)
  have w_3 := hts (Cond.fieldLink RX11 13 "SheetNamesModel" "cutColumns" "[I") (List.mem_cons_of_mem _ t_w923)
  have w_4 := hts (Cond.fieldLink RX11 16 "SheetNamesModel" "deep" "[I") (List.mem_cons_of_mem _ t_w908)
  have w_5 := hts (Cond.fieldLink RX11 19 "SheetNamesModel" "wide" "[I") (List.mem_cons_of_mem _ t_w909)
  unfold f_M_level at hf
  have hgo : ∀ (H : Heap) (locs : List Loc), H = s.heap → va_P D vwCl ((a_m, .inr (11, (.ref a_m_cutRows :: .ref a_m_cutColumns :: .ref a_m_deep :: .ref a_m_wide :: .ref a_m_zonesAhead :: .ref a_m_nameOne :: .ref a_m_nameOther :: .ref a_m_tape :: .int m_taped :: .int m_place :: .int m_fault :: .int m_number :: .int m_levelRead :: .int m_keyRead :: .int m_reads :: .int m_faults :: .int m_cutShort :: .int m_noNumber :: .long m_bottomLat :: .long m_bottomLon :: .ref a_m_edges :: .int m_firstBeside :: .int m_manyBeside :: .ref a_m_dist :: .ref a_m_queue :: .int m_queued :: .int m_boxLevel :: .int m_boxTop :: .int m_boxBottom :: .int m_boxWest :: .int m_boxEast :: .int m_isEarly :: .int m_pieces :: .int m_states :: .ref a_m_pieceLevel :: .ref a_m_pieceKey :: .ref a_m_pieceYear :: .int m_drawnNow :: .ref a_m_drawnKeys :: .ref a_m_kept :: .int m_keptAt :: .ref a_m_noNumbers :: []))) :: (a_m_cutRows, .inl (ci 0, 5, .inl m_cutRows)) :: (a_m_cutColumns, .inl (ci 0, 5, .inl m_cutColumns)) :: (a_m_deep, .inl (ci 0, 5, .inl m_deep)) :: (a_m_wide, .inl (ci 0, 5, .inl m_wide)) :: (a_m_zonesAhead, .inl (ci 0, 45, .inl m_zonesAhead)) :: Rw) H → va_S A s.heap H locs → W p l e ({ frames := 2, cells := 0, slots := 0, locals := 45 } : Room) s m ([.ref a_m, .int p1, .int p2] : List Value).toArray below meth c H locs 0 0 Q (F0 m 0 ls []) := by
    intro H locs hH hP hS
    subst hH
    refine lv_iload_n (pc := 0) hx hb dX11_level_0 rfl (lv_at hl 1 rfl) ?_
    obtain ⟨v1, hm1, hf⟩ := q_b1_e hf
    refine q_cSr (pc := 1) (As := [.int p1]) (rest := []) (v0 := (some (.int v1))) ⟨hx, hb, hml, hown, hts⟩ hK hA hZ hP hD hS hl.1 [] 6 rfl ⟨rfl, rfl, rfl⟩ (c_M_isLevel l D ci A sa N (Rw) p1 v1 hm1) (va_cwS 1 hts gX11_level_X11_isLevel rfl rfl rfl (by decide +kernel) ⟨Nat.le_of_ble_eq_true rfl, Nat.le_of_ble_eq_true rfl⟩) rfl rfl (Nat.le_of_ble_eq_true rfl) dX11_level_1 ⟨Nat.zero_le _, Nat.zero_le _⟩ (fun locs hS => ?_)
    refine q_if_eq (pc := 4) (tgt := 19) hx hb dX11_level_4 (by decide) rfl hf (fun hf => ?_) (fun hf => ?_)
    · refine lv_iconst (pc := 19) (v := (-1)) hx hb dX11_level_19 (by decide) ?_
      obtain rfl := Option.some.inj hf
      rw [hQ]
      exact q_iretr (pc := 20) hx hb hr hlocks rfl hS dX11_level_20
    · refine lv_iload_n (pc := 7) hx hb dX11_level_7 rfl (lv_at hl 2 rfl) ?_
      refine lv_i2l (pc := 8) hx hb dX11_level_8 rfl ?_
      refine lv_lconst (pc := 9) (v := 0) hx hb dX11_level_9 (by decide) ?_
      refine lv_ldc2 (pc := 10) (v := 5) hx hb hown w_1 dX11_level_10 ?_
      obtain ⟨v2, hm13, hf⟩ := q_b1_e hf
      refine q_cSr (pc := 13) (As := [.long p2.toInt64, .long 0, .long 5]) (rest := []) (v0 := (some (.int v2))) ⟨hx, hb, hml, hown, hts⟩ hK hA hZ hP hD hS hl.1 [] 6 rfl ⟨rfl, rfl, rfl⟩ (c_M_in l D ci A sa N (Rw) p2.toInt64 0 5 v2 hm13) (va_cwS 3 hts gX11_level_X11_in rfl rfl rfl (by decide +kernel) ⟨Nat.le_of_ble_eq_true rfl, Nat.le_of_ble_eq_true rfl⟩) rfl rfl (Nat.le_of_ble_eq_true rfl) dX11_level_13 ⟨Nat.zero_le _, Nat.zero_le _⟩ (fun locs hS => ?_)
      refine q_if_ne (pc := 16) (tgt := 21) hx hb dX11_level_16 (by decide) rfl hf (fun hf => ?_) (fun hf => ?_)
      · refine lv_iload_n (pc := 21) hx hb dX11_level_21 rfl (lv_at hl 2 rfl) ?_
        rcases q_if_e hf with ⟨hc0, hf⟩ | ⟨hc0, hf⟩
        · refine lv_tableIn (pc := 22) (tgt := 56) (off := 34) hx hb dX11_level_22 (by rw [hc0]; decide) (by rw [hc0]; decide) (by rw [hc0]; decide) (by decide) ?_
          refine lv_aload_n (pc := 56) hx hb dX11_level_56 rfl (lv_at hl 0 rfl) ?_
          refine lv_iload_n (pc := 57) hx hb dX11_level_57 rfl (lv_at hl 1 rfl) ?_
          obtain ⟨v3, hm58, hf⟩ := q_b1_e hf
          refine q_cVr (pc := 58) (As := [.int p1]) (rest := []) (v0 := (some (.int v3))) ⟨hx, hb, hml, hown, hts⟩ hK hA hZ hP hD hS hl.1 [0, 3, 4, 5] 6 rfl ⟨rfl, rfl, rfl⟩ (c_M_sheets l D ci A sa N (Rw) a_m a_m_cutRows a_m_cutColumns a_m_deep a_m_wide a_m_zonesAhead a_m_nameOne a_m_nameOther a_m_tape a_m_edges a_m_dist a_m_queue a_m_pieceLevel a_m_pieceKey a_m_pieceYear a_m_drawnKeys a_m_kept a_m_noNumbers m_taped m_place m_fault m_number m_levelRead m_keyRead m_reads m_faults m_cutShort m_noNumber m_bottomLat m_bottomLon m_firstBeside m_manyBeside m_queued m_boxLevel m_boxTop m_boxBottom m_boxWest m_boxEast m_isEarly m_pieces m_states m_drawnNow m_keptAt m_deep m_wide m_zonesAhead p1 v3 hm58) 0 rfl rfl (cwV 1 hts gX11_level_X11_sheets rfl rfl rfl (by decide +kernel) ⟨Nat.le_of_ble_eq_true rfl, Nat.le_of_ble_eq_true rfl⟩) rfl rfl (Nat.le_of_ble_eq_true rfl) dX11_level_58 ⟨Nat.zero_le _, Nat.zero_le _⟩ (fun locs hS => ?_)
          obtain rfl := Option.some.inj hf
          rw [hQ]
          exact q_iretr (pc := 61) hx hb hr hlocks rfl hS dX11_level_61
        rcases q_if_e hf with ⟨hc1, hf⟩ | ⟨hc1, hf⟩
        · refine lv_tableIn (pc := 22) (tgt := 62) (off := 40) hx hb dX11_level_22 (by rw [hc1]; decide) (by rw [hc1]; decide) (by rw [hc1]; decide) (by decide) ?_
          refine lv_aload_n (pc := 62) hx hb dX11_level_62 rfl (lv_at hl 0 rfl) ?_
          refine lv_iload_n (pc := 63) hx hb dX11_level_63 rfl (lv_at hl 1 rfl) ?_
          obtain ⟨v4, hm64, hf⟩ := q_b1_e hf
          refine q_cVr (pc := 64) (As := [.int p1]) (rest := []) (v0 := (some (.int v4))) ⟨hx, hb, hml, hown, hts⟩ hK hA hZ hP hD hS hl.1 [0, 3] 6 rfl ⟨rfl, rfl, rfl⟩ (c_M_rows l D ci A sa N (Rw) a_m a_m_cutRows a_m_cutColumns a_m_deep a_m_wide a_m_zonesAhead a_m_nameOne a_m_nameOther a_m_tape a_m_edges a_m_dist a_m_queue a_m_pieceLevel a_m_pieceKey a_m_pieceYear a_m_drawnKeys a_m_kept a_m_noNumbers m_taped m_place m_fault m_number m_levelRead m_keyRead m_reads m_faults m_cutShort m_noNumber m_bottomLat m_bottomLon m_firstBeside m_manyBeside m_queued m_boxLevel m_boxTop m_boxBottom m_boxWest m_boxEast m_isEarly m_pieces m_states m_drawnNow m_keptAt m_deep p1 v4 hm64) 0 rfl rfl (cwV 1 hts gX11_level_X11_rows rfl rfl rfl (by decide +kernel) ⟨Nat.le_of_ble_eq_true rfl, Nat.le_of_ble_eq_true rfl⟩) rfl rfl (Nat.le_of_ble_eq_true rfl) dX11_level_64 ⟨Nat.zero_le _, Nat.zero_le _⟩ (fun locs hS => ?_)
          obtain rfl := Option.some.inj hf
          rw [hQ]
          exact q_iretr (pc := 67) hx hb hr hlocks rfl hS dX11_level_67
        rcases q_if_e hf with ⟨hc2, hf⟩ | ⟨hc2, hf⟩
        · refine lv_tableIn (pc := 22) (tgt := 68) (off := 46) hx hb dX11_level_22 (by rw [hc2]; decide) (by rw [hc2]; decide) (by rw [hc2]; decide) (by decide) ?_
          refine lv_aload_n (pc := 68) hx hb dX11_level_68 rfl (lv_at hl 0 rfl) ?_
          refine va_get (pc := 69) (D := D) (ci := 11) (v := .ref a_m_cutRows) (C := RX11) (T := TX11) (N := 42) hx hb hts hinX11 hown hK hP 0 rfl rfl 0 (by decide) w_2 (fun _ h9 => h9) rfl dX11_level_69 ?_
          refine lv_iload_n (pc := 72) hx hb dX11_level_72 rfl (lv_at hl 1 rfl) ?_
          refine q_iald (pc := 73) hx hb hK hP 1 0 hf rfl rfl dX11_level_73 (fun v5 hf => ?_)
          obtain rfl := Option.some.inj hf
          rw [hQ]
          exact q_iretr (pc := 74) hx hb hr hlocks rfl hS dX11_level_74
        rcases q_if_e hf with ⟨hc3, hf⟩ | ⟨hc3, hf⟩
        · refine lv_tableIn (pc := 22) (tgt := 75) (off := 53) hx hb dX11_level_22 (by rw [hc3]; decide) (by rw [hc3]; decide) (by rw [hc3]; decide) (by decide) ?_
          refine lv_aload_n (pc := 75) hx hb dX11_level_75 rfl (lv_at hl 0 rfl) ?_
          refine va_get (pc := 76) (D := D) (ci := 11) (v := .ref a_m_cutColumns) (C := RX11) (T := TX11) (N := 42) hx hb hts hinX11 hown hK hP 0 rfl rfl 1 (by decide) w_3 (fun _ h9 => h9) rfl dX11_level_76 ?_
          refine lv_iload_n (pc := 79) hx hb dX11_level_79 rfl (lv_at hl 1 rfl) ?_
          refine q_iald (pc := 80) hx hb hK hP 2 0 hf rfl rfl dX11_level_80 (fun v6 hf => ?_)
          obtain rfl := Option.some.inj hf
          rw [hQ]
          exact q_iretr (pc := 81) hx hb hr hlocks rfl hS dX11_level_81
        rcases q_if_e hf with ⟨hc4, hf⟩ | ⟨hc4, hf⟩
        · refine lv_tableIn (pc := 22) (tgt := 82) (off := 60) hx hb dX11_level_22 (by rw [hc4]; decide) (by rw [hc4]; decide) (by rw [hc4]; decide) (by decide) ?_
          refine lv_aload_n (pc := 82) hx hb dX11_level_82 rfl (lv_at hl 0 rfl) ?_
          refine va_get (pc := 83) (D := D) (ci := 11) (v := .ref a_m_deep) (C := RX11) (T := TX11) (N := 42) hx hb hts hinX11 hown hK hP 0 rfl rfl 2 (by decide) w_4 (fun _ h9 => h9) rfl dX11_level_83 ?_
          refine lv_iload_n (pc := 86) hx hb dX11_level_86 rfl (lv_at hl 1 rfl) ?_
          refine q_iald (pc := 87) hx hb hK hP 3 0 hf rfl rfl dX11_level_87 (fun v7 hf => ?_)
          obtain rfl := Option.some.inj hf
          rw [hQ]
          exact q_iretr (pc := 88) hx hb hr hlocks rfl hS dX11_level_88
        have hsw : p2.toInt < 0 ∨ 4 < p2.toInt := by
          have hd0 := q_nei hc0; have hd1 := q_nei hc1; have hd2 := q_nei hc2; have hd3 := q_nei hc3; have hd4 := q_nei hc4
          rw [show (0 : Int32).toInt = 0 from rfl] at hd0; rw [show (1 : Int32).toInt = 1 from rfl] at hd1; rw [show (2 : Int32).toInt = 2 from rfl] at hd2; rw [show (3 : Int32).toInt = 3 from rfl] at hd3; rw [show (4 : Int32).toInt = 4 from rfl] at hd4
          omega
        refine lv_tableOut (pc := 22) (tgt := 89) hx hb dX11_level_22 hsw (by decide) ?_
        refine lv_aload_n (pc := 89) hx hb dX11_level_89 rfl (lv_at hl 0 rfl) ?_
        refine va_get (pc := 90) (D := D) (ci := 11) (v := .ref a_m_wide) (C := RX11) (T := TX11) (N := 42) hx hb hts hinX11 hown hK hP 0 rfl rfl 3 (by decide) w_5 (fun _ h9 => h9) rfl dX11_level_90 ?_
        refine lv_iload_n (pc := 93) hx hb dX11_level_93 rfl (lv_at hl 1 rfl) ?_
        refine q_iald (pc := 94) hx hb hK hP 4 0 hf rfl rfl dX11_level_94 (fun v8 hf => ?_)
        obtain rfl := Option.some.inj hf
        rw [hQ]
        exact q_iretr (pc := 95) hx hb hr hlocks rfl hS dX11_level_95
      · refine lv_iconst (pc := 19) (v := (-1)) hx hb dX11_level_19 (by decide) ?_
        obtain rfl := Option.some.inj hf
        rw [hQ]
        exact q_iretr (pc := 20) hx hb hr hlocks rfl hS dX11_level_20
  exact hgo _ _ rfl hP hS
/-! X11_middle -/
set_option maxRecDepth 100000 in
set_option maxHeartbeats 4000000 in
theorem c_M_middle (l : Launch) (D : va_G) (ci : Nat → ClassId) (A : Nat → Prop) (sa : Nat → Nat) (N : Nat) (Rw : va_W) (a_m : Nat) (a_m_cutRows : Nat) (a_m_cutColumns : Nat) (a_m_deep : Nat) (a_m_wide : Nat) (a_m_zonesAhead : Nat) (a_m_nameOne : Nat) (a_m_nameOther : Nat) (a_m_tape : Nat) (a_m_edges : Nat) (a_m_dist : Nat) (a_m_queue : Nat) (a_m_pieceLevel : Nat) (a_m_pieceKey : Nat) (a_m_pieceYear : Nat) (a_m_drawnKeys : Nat) (a_m_kept : Nat) (a_m_noNumbers : Nat) (m_taped : Int32) (m_place : Int32) (m_fault : Int32) (m_number : Int32) (m_levelRead : Int32) (m_keyRead : Int32) (m_reads : Int32) (m_faults : Int32) (m_cutShort : Int32) (m_noNumber : Int32) (m_bottomLat : Int64) (m_bottomLon : Int64) (m_firstBeside : Int32) (m_manyBeside : Int32) (m_queued : Int32) (m_boxLevel : Int32) (m_boxTop : Int32) (m_boxBottom : Int32) (m_boxWest : Int32) (m_boxEast : Int32) (m_isEarly : Int32) (m_pieces : Int32) (m_states : Int32) (m_drawnNow : Int32) (m_keptAt : Int32) (m_deep : Nat → Int32) (m_wide : Nat → Int32) (m_zonesAhead : Nat → Int32) (m_edges : Nat → Int64) (p1 : Int32) (p2 : Int32) (p3 : Int32) (r : Int32) (o1 : Int64) (o2 : Int64) (o3 : Nat → Int64) (hf : f_M_middle N m_deep m_wide m_zonesAhead m_bottomLat m_bottomLon m_edges p1 p2 p3 = some (r, o1, o2, o3)) : Met l yX11_middle wsX11_middle ({ frames := 6, cells := 0, slots := 0, locals := 134 }) (va_Pc [.ref a_m, .int p1, .int p2, .int p3] (q_N D ci A sa ((a_m, .inr (11, (.ref a_m_cutRows :: .ref a_m_cutColumns :: .ref a_m_deep :: .ref a_m_wide :: .ref a_m_zonesAhead :: .ref a_m_nameOne :: .ref a_m_nameOther :: .ref a_m_tape :: .int m_taped :: .int m_place :: .int m_fault :: .int m_number :: .int m_levelRead :: .int m_keyRead :: .int m_reads :: .int m_faults :: .int m_cutShort :: .int m_noNumber :: .long m_bottomLat :: .long m_bottomLon :: .ref a_m_edges :: .int m_firstBeside :: .int m_manyBeside :: .ref a_m_dist :: .ref a_m_queue :: .int m_queued :: .int m_boxLevel :: .int m_boxTop :: .int m_boxBottom :: .int m_boxWest :: .int m_boxEast :: .int m_isEarly :: .int m_pieces :: .int m_states :: .ref a_m_pieceLevel :: .ref a_m_pieceKey :: .ref a_m_pieceYear :: .int m_drawnNow :: .ref a_m_drawnKeys :: .ref a_m_kept :: .int m_keptAt :: .ref a_m_noNumbers :: []))) :: (a_m_deep, .inl (ci 0, 5, .inl m_deep)) :: (a_m_wide, .inl (ci 0, 5, .inl m_wide)) :: (a_m_zonesAhead, .inl (ci 0, 45, .inl m_zonesAhead)) :: (a_m_edges, .inl (ci 1, 4, .inr (.inl m_edges))) :: Rw))) (q_Q (some (.int r)) (q_O D A ((a_m, .inr (11, (.ref a_m_cutRows :: .ref a_m_cutColumns :: .ref a_m_deep :: .ref a_m_wide :: .ref a_m_zonesAhead :: .ref a_m_nameOne :: .ref a_m_nameOther :: .ref a_m_tape :: .int m_taped :: .int m_place :: .int m_fault :: .int m_number :: .int m_levelRead :: .int m_keyRead :: .int m_reads :: .int m_faults :: .int m_cutShort :: .int m_noNumber :: .long o1 :: .long o2 :: .ref a_m_edges :: .int m_firstBeside :: .int m_manyBeside :: .ref a_m_dist :: .ref a_m_queue :: .int m_queued :: .int m_boxLevel :: .int m_boxTop :: .int m_boxBottom :: .int m_boxWest :: .int m_boxEast :: .int m_isEarly :: .int m_pieces :: .int m_states :: .ref a_m_pieceLevel :: .ref a_m_pieceKey :: .ref a_m_pieceYear :: .int m_drawnNow :: .ref a_m_drawnKeys :: .ref a_m_kept :: .int m_keptAt :: .ref a_m_noNumbers :: []))) :: (a_m_deep, .inl (ci 0, 5, .inl m_deep)) :: (a_m_wide, .inl (ci 0, 5, .inl m_wide)) :: (a_m_zonesAhead, .inl (ci 0, 45, .inl m_zonesAhead)) :: (a_m_edges, .inl (ci 1, 4, .inr (.inl o3))) :: Rw)) A) 0 0 A := by
  refine q_ofW (cc := cX11_middle) (maxL := 4) (ret := (some .int)) [.ref a_m, .int p1, .int p2, .int p3] (plainFor_of_name (by decide)) rfl (Nat.le_of_ble_eq_true rfl) ?_
  intro p e s m below meth c ls Q hQ hx hb hml hr hts hown hlocks hK hA hZ hP hD hS hl
  have hl : lv_has ls 4 [(0, .ref a_m), (1, .int p1), (2, .int p2), (3, .int p3)] := hl
  have hown : s.vm.findClass RX11 = some m.cls := hown
  have w_1 := hts (Cond.constant RX11 253 (-1000000)) (List.mem_cons_of_mem _ t_w967)
  unfold f_M_middle at hf
  have hgo : ∀ (H : Heap) (locs : List Loc), H = s.heap → va_P D vwCl ((a_m, .inr (11, (.ref a_m_cutRows :: .ref a_m_cutColumns :: .ref a_m_deep :: .ref a_m_wide :: .ref a_m_zonesAhead :: .ref a_m_nameOne :: .ref a_m_nameOther :: .ref a_m_tape :: .int m_taped :: .int m_place :: .int m_fault :: .int m_number :: .int m_levelRead :: .int m_keyRead :: .int m_reads :: .int m_faults :: .int m_cutShort :: .int m_noNumber :: .long m_bottomLat :: .long m_bottomLon :: .ref a_m_edges :: .int m_firstBeside :: .int m_manyBeside :: .ref a_m_dist :: .ref a_m_queue :: .int m_queued :: .int m_boxLevel :: .int m_boxTop :: .int m_boxBottom :: .int m_boxWest :: .int m_boxEast :: .int m_isEarly :: .int m_pieces :: .int m_states :: .ref a_m_pieceLevel :: .ref a_m_pieceKey :: .ref a_m_pieceYear :: .int m_drawnNow :: .ref a_m_drawnKeys :: .ref a_m_kept :: .int m_keptAt :: .ref a_m_noNumbers :: []))) :: (a_m_deep, .inl (ci 0, 5, .inl m_deep)) :: (a_m_wide, .inl (ci 0, 5, .inl m_wide)) :: (a_m_zonesAhead, .inl (ci 0, 45, .inl m_zonesAhead)) :: (a_m_edges, .inl (ci 1, 4, .inr (.inl m_edges))) :: Rw) H → va_S A s.heap H locs → W p l e ({ frames := 6, cells := 0, slots := 0, locals := 134 } : Room) s m ([.ref a_m, .int p1, .int p2, .int p3] : List Value).toArray below meth c H locs 0 0 Q (F0 m 0 ls []) := by
    intro H locs hH hP hS
    refine lv_aload_n (pc := 0) hx hb dX11_middle_0 rfl (lv_at hl 0 rfl) ?_
    refine lv_iload_n (pc := 1) hx hb dX11_middle_1 rfl (lv_at hl 1 rfl) ?_
    refine lv_iload_n (pc := 2) hx hb dX11_middle_2 rfl (lv_at hl 2 rfl) ?_
    obtain ⟨v1, hm3, hf⟩ := q_b1_e hf
    refine q_cVr (pc := 3) (As := [.int p1, .int p2]) (rest := []) (v0 := (some (.int v1))) ⟨hx, hb, hml, hown, hts⟩ hK hA hZ hP hD hS hl.1 [0, 1, 2, 3] 5 rfl ⟨rfl, rfl, rfl⟩ (c_M_isKey l D ci A sa N (Rw) a_m a_m_cutRows a_m_cutColumns a_m_deep a_m_wide a_m_zonesAhead a_m_nameOne a_m_nameOther a_m_tape a_m_edges a_m_dist a_m_queue a_m_pieceLevel a_m_pieceKey a_m_pieceYear a_m_drawnKeys a_m_kept a_m_noNumbers m_taped m_place m_fault m_number m_levelRead m_keyRead m_reads m_faults m_cutShort m_noNumber m_bottomLat m_bottomLon m_firstBeside m_manyBeside m_queued m_boxLevel m_boxTop m_boxBottom m_boxWest m_boxEast m_isEarly m_pieces m_states m_drawnNow m_keptAt m_deep m_wide m_zonesAhead p1 p2 v1 hm3) 0 rfl rfl (cwV 2 hts gX11_middle_X11_isKey rfl rfl rfl (by decide +kernel) ⟨Nat.le_of_ble_eq_true rfl, Nat.le_of_ble_eq_true rfl⟩) rfl rfl (Nat.le_of_ble_eq_true rfl) dX11_middle_3 ⟨Nat.zero_le _, Nat.zero_le _⟩ (fun locs hS => ?_)
    refine q_if_eq (pc := 6) (tgt := 29) hx hb dX11_middle_6 (by decide) rfl hf (fun hf => ?_) (fun hf => ?_)
    · refine lv_ldc (pc := 29) (v := (-1000000)) hx hb hown w_1 dX11_middle_29 ?_
      obtain ⟨e90, e91, e92, e93⟩ := q_inj4 (Option.some.inj hf)
      rw [hQ, ← e90, ← e91, ← e92, ← e93]
      exact q_iret (pc := 31) hx hb hr hlocks hP hD hS dX11_middle_31
    · refine lv_iload_n (pc := 9) hx hb dX11_middle_9 rfl (lv_at hl 3 rfl) ?_
      refine lv_i2l (pc := 10) hx hb dX11_middle_10 rfl ?_
      refine lv_lconst (pc := 11) (v := 0) hx hb dX11_middle_11 (by decide) ?_
      refine lv_lconst (pc := 12) (v := 1) hx hb dX11_middle_12 (by decide) ?_
      obtain ⟨v2, hm13, hf⟩ := q_b1_e hf
      refine q_cSr (pc := 13) (As := [.long p3.toInt64, .long 0, .long 1]) (rest := []) (v0 := (some (.int v2))) ⟨hx, hb, hml, hown, hts⟩ hK hA hZ hP hD hS hl.1 [] 5 rfl ⟨rfl, rfl, rfl⟩ (c_M_in l D ci A sa N (Rw) p3.toInt64 0 1 v2 hm13) (va_cwS 3 hts gX11_middle_X11_in rfl rfl rfl (by decide +kernel) ⟨Nat.le_of_ble_eq_true rfl, Nat.le_of_ble_eq_true rfl⟩) rfl rfl (Nat.le_of_ble_eq_true rfl) dX11_middle_13 ⟨Nat.zero_le _, Nat.zero_le _⟩ (fun locs hS => ?_)
      refine q_if_eq (pc := 16) (tgt := 29) hx hb dX11_middle_16 (by decide) rfl hf (fun hf => ?_) (fun hf => ?_)
      · refine lv_ldc (pc := 29) (v := (-1000000)) hx hb hown w_1 dX11_middle_29 ?_
        obtain ⟨e90, e91, e92, e93⟩ := q_inj4 (Option.some.inj hf)
        rw [hQ, ← e90, ← e91, ← e92, ← e93]
        exact q_iret (pc := 31) hx hb hr hlocks hP hD hS dX11_middle_31
      · refine lv_aload_n (pc := 19) hx hb dX11_middle_19 rfl (lv_at hl 0 rfl) ?_
        refine lv_iload_n (pc := 20) hx hb dX11_middle_20 rfl (lv_at hl 1 rfl) ?_
        refine lv_iload_n (pc := 21) hx hb dX11_middle_21 rfl (lv_at hl 2 rfl) ?_
        refine lv_iload_n (pc := 22) hx hb dX11_middle_22 rfl (lv_at hl 3 rfl) ?_
        obtain ⟨v3, v4, v5, f6, hm23, hf⟩ := q_b4_e hf
        refine q_cV (pc := 23) (As := [.int p1, .int p2, .int p3]) (rest := []) (v0 := (some (.int v3))) ⟨hx, hb, hml, hown, hts⟩ hK hA hZ hP hD hS hl.1 [0, 1, 2, 3, 4] 5 rfl ⟨rfl, rfl, rfl⟩ (c_M_middleOf l D ci A sa N (Rw) a_m a_m_cutRows a_m_cutColumns a_m_deep a_m_wide a_m_zonesAhead a_m_nameOne a_m_nameOther a_m_tape a_m_edges a_m_dist a_m_queue a_m_pieceLevel a_m_pieceKey a_m_pieceYear a_m_drawnKeys a_m_kept a_m_noNumbers m_taped m_place m_fault m_number m_levelRead m_keyRead m_reads m_faults m_cutShort m_noNumber m_bottomLat m_bottomLon m_firstBeside m_manyBeside m_queued m_boxLevel m_boxTop m_boxBottom m_boxWest m_boxEast m_isEarly m_pieces m_states m_drawnNow m_keptAt m_deep m_wide m_zonesAhead m_edges p1 p2 p3 v3 v4 v5 f6 hm23) 0 rfl rfl (cwV 3 hts gX11_middle_X11_middleOf rfl rfl rfl (by decide +kernel) ⟨Nat.le_of_ble_eq_true rfl, Nat.le_of_ble_eq_true rfl⟩) rfl rfl (Nat.le_of_ble_eq_true rfl) dX11_middle_23 ⟨Nat.zero_le _, Nat.zero_le _⟩ [0, 1, 2, 3, 4] 5 rfl ⟨rfl, rfl, rfl⟩ (fun H locs hP hD hS => ?_)
        obtain ⟨hP, hD⟩ : va_PD D A ((a_m, .inr (11, (.ref a_m_cutRows :: .ref a_m_cutColumns :: .ref a_m_deep :: .ref a_m_wide :: .ref a_m_zonesAhead :: .ref a_m_nameOne :: .ref a_m_nameOther :: .ref a_m_tape :: .int m_taped :: .int m_place :: .int m_fault :: .int m_number :: .int m_levelRead :: .int m_keyRead :: .int m_reads :: .int m_faults :: .int m_cutShort :: .int m_noNumber :: .long v4 :: .long v5 :: .ref a_m_edges :: .int m_firstBeside :: .int m_manyBeside :: .ref a_m_dist :: .ref a_m_queue :: .int m_queued :: .int m_boxLevel :: .int m_boxTop :: .int m_boxBottom :: .int m_boxWest :: .int m_boxEast :: .int m_isEarly :: .int m_pieces :: .int m_states :: .ref a_m_pieceLevel :: .ref a_m_pieceKey :: .ref a_m_pieceYear :: .int m_drawnNow :: .ref a_m_drawnKeys :: .ref a_m_kept :: .int m_keptAt :: .ref a_m_noNumbers :: []))) :: (a_m_deep, .inl (ci 0, 5, .inl m_deep)) :: (a_m_wide, .inl (ci 0, 5, .inl m_wide)) :: (a_m_zonesAhead, .inl (ci 0, 45, .inl m_zonesAhead)) :: (a_m_edges, .inl (ci 1, 4, .inr (.inl f6))) :: Rw) H := ⟨hP, hD⟩
        refine lv_goto (pc := 26) (tgt := 31) hx hb dX11_middle_26 (by decide) ?_
        obtain ⟨e90, e91, e92, e93⟩ := q_inj4 (Option.some.inj hf)
        rw [hQ, ← e90, ← e91, ← e92, ← e93]
        exact q_iret (pc := 31) hx hb hr hlocks hP hD hS dX11_middle_31
  exact hgo _ _ rfl hP hS
/-! X11_moved -/
set_option maxRecDepth 100000 in
set_option maxHeartbeats 4000000 in
theorem c_M_moved (l : Launch) (D : va_G) (ci : Nat → ClassId) (A : Nat → Prop) (sa : Nat → Nat) (N : Nat) (Rw : va_W) (a_m : Nat) (a_m_cutRows : Nat) (a_m_cutColumns : Nat) (a_m_deep : Nat) (a_m_wide : Nat) (a_m_zonesAhead : Nat) (a_m_nameOne : Nat) (a_m_nameOther : Nat) (a_m_tape : Nat) (a_m_edges : Nat) (a_m_dist : Nat) (a_m_queue : Nat) (a_m_pieceLevel : Nat) (a_m_pieceKey : Nat) (a_m_pieceYear : Nat) (a_m_drawnKeys : Nat) (a_m_kept : Nat) (a_m_noNumbers : Nat) (m_taped : Int32) (m_place : Int32) (m_fault : Int32) (m_number : Int32) (m_levelRead : Int32) (m_keyRead : Int32) (m_reads : Int32) (m_faults : Int32) (m_cutShort : Int32) (m_noNumber : Int32) (m_bottomLat : Int64) (m_bottomLon : Int64) (m_firstBeside : Int32) (m_manyBeside : Int32) (m_queued : Int32) (m_boxLevel : Int32) (m_boxTop : Int32) (m_boxBottom : Int32) (m_boxWest : Int32) (m_boxEast : Int32) (m_isEarly : Int32) (m_pieces : Int32) (m_states : Int32) (m_drawnNow : Int32) (m_keptAt : Int32) (m_deep : Nat → Int32) (m_wide : Nat → Int32) (m_zonesAhead : Nat → Int32) (p1 : Int32) (p2 : Int32) (p3 : Int32) (p4 : Int32) (p5 : Int32) (r : Int32) (hf : f_M_moved m_deep m_wide m_zonesAhead p1 p2 p3 p4 p5 = some r) : Met l yX11_moved wsX11_moved ({ frames := 4, cells := 0, slots := 0, locals := 90 }) (va_Pc [.ref a_m, .int p1, .int p2, .int p3, .int p4, .int p5] (q_N D ci A sa ((a_m, .inr (11, (.ref a_m_cutRows :: .ref a_m_cutColumns :: .ref a_m_deep :: .ref a_m_wide :: .ref a_m_zonesAhead :: .ref a_m_nameOne :: .ref a_m_nameOther :: .ref a_m_tape :: .int m_taped :: .int m_place :: .int m_fault :: .int m_number :: .int m_levelRead :: .int m_keyRead :: .int m_reads :: .int m_faults :: .int m_cutShort :: .int m_noNumber :: .long m_bottomLat :: .long m_bottomLon :: .ref a_m_edges :: .int m_firstBeside :: .int m_manyBeside :: .ref a_m_dist :: .ref a_m_queue :: .int m_queued :: .int m_boxLevel :: .int m_boxTop :: .int m_boxBottom :: .int m_boxWest :: .int m_boxEast :: .int m_isEarly :: .int m_pieces :: .int m_states :: .ref a_m_pieceLevel :: .ref a_m_pieceKey :: .ref a_m_pieceYear :: .int m_drawnNow :: .ref a_m_drawnKeys :: .ref a_m_kept :: .int m_keptAt :: .ref a_m_noNumbers :: []))) :: (a_m_deep, .inl (ci 0, 5, .inl m_deep)) :: (a_m_wide, .inl (ci 0, 5, .inl m_wide)) :: (a_m_zonesAhead, .inl (ci 0, 45, .inl m_zonesAhead)) :: Rw))) (q_R (some (.int r))) 0 0 A := by
  refine q_ofW (cc := cX11_moved) (maxL := 10) (ret := (some .int)) [.ref a_m, .int p1, .int p2, .int p3, .int p4, .int p5] (plainFor_of_name (by decide)) rfl (Nat.le_of_ble_eq_true rfl) ?_
  intro p e s m below meth c ls Q hQ hx hb hml hr hts hown hlocks hK hA hZ hP hD hS hl
  have hl : lv_has ls 10 [(0, .ref a_m), (1, .int p1), (2, .int p2), (3, .int p3), (4, .int p4), (5, .int p5)] := hl
  have hown : s.vm.findClass RX11 = some m.cls := hown
  have w_1 := hts (Cond.constantLong RX11 76 (-324000)) (List.mem_cons_of_mem _ t_w940)
  have w_2 := hts (Cond.constantLong RX11 78 (324000)) (List.mem_cons_of_mem _ t_w939)
  have w_3 := hts (Cond.constantLong RX11 110 (1296000)) (List.mem_cons_of_mem _ t_w937)
  unfold f_M_moved at hf
  have hgo : ∀ (H : Heap) (locs : List Loc), H = s.heap → va_P D vwCl ((a_m, .inr (11, (.ref a_m_cutRows :: .ref a_m_cutColumns :: .ref a_m_deep :: .ref a_m_wide :: .ref a_m_zonesAhead :: .ref a_m_nameOne :: .ref a_m_nameOther :: .ref a_m_tape :: .int m_taped :: .int m_place :: .int m_fault :: .int m_number :: .int m_levelRead :: .int m_keyRead :: .int m_reads :: .int m_faults :: .int m_cutShort :: .int m_noNumber :: .long m_bottomLat :: .long m_bottomLon :: .ref a_m_edges :: .int m_firstBeside :: .int m_manyBeside :: .ref a_m_dist :: .ref a_m_queue :: .int m_queued :: .int m_boxLevel :: .int m_boxTop :: .int m_boxBottom :: .int m_boxWest :: .int m_boxEast :: .int m_isEarly :: .int m_pieces :: .int m_states :: .ref a_m_pieceLevel :: .ref a_m_pieceKey :: .ref a_m_pieceYear :: .int m_drawnNow :: .ref a_m_drawnKeys :: .ref a_m_kept :: .int m_keptAt :: .ref a_m_noNumbers :: []))) :: (a_m_deep, .inl (ci 0, 5, .inl m_deep)) :: (a_m_wide, .inl (ci 0, 5, .inl m_wide)) :: (a_m_zonesAhead, .inl (ci 0, 45, .inl m_zonesAhead)) :: Rw) H → va_S A s.heap H locs → W p l e ({ frames := 4, cells := 0, slots := 0, locals := 90 } : Room) s m ([.ref a_m, .int p1, .int p2, .int p3, .int p4, .int p5] : List Value).toArray below meth c H locs 0 0 Q (F0 m 0 ls []) := by
    intro H locs hH hP hS
    subst hH
    refine lv_iload_n (pc := 0) hx hb dX11_moved_0 rfl (lv_at hl 1 rfl) ?_
    refine lv_iload_n (pc := 1) hx hb dX11_moved_1 rfl (lv_at hl 2 rfl) ?_
    obtain ⟨v1, hm2, hf⟩ := q_b1_e hf
    refine q_cSr (pc := 2) (As := [.int p1, .int p2]) (rest := []) (v0 := (some (.int v1))) ⟨hx, hb, hml, hown, hts⟩ hK hA hZ hP hD hS hl.1 [] 4 rfl ⟨rfl, rfl, rfl⟩ (c_M_isPlace l D ci A sa N (Rw) p1 p2 v1 hm2) (va_cwS 2 hts gX11_moved_X11_isPlace rfl rfl rfl (by decide +kernel) ⟨Nat.le_of_ble_eq_true rfl, Nat.le_of_ble_eq_true rfl⟩) rfl rfl (Nat.le_of_ble_eq_true rfl) dX11_moved_2 ⟨Nat.zero_le _, Nat.zero_le _⟩ (fun locs hS => ?_)
    refine q_if_eq (pc := 5) (tgt := 16) hx hb dX11_moved_5 (by decide) rfl hf (fun hf => ?_) (fun hf => ?_)
    · refine lv_iconst (pc := 16) (v := (-1)) hx hb dX11_moved_16 (by decide) ?_
      obtain rfl := Option.some.inj hf
      rw [hQ]
      exact q_iretr (pc := 17) hx hb hr hlocks rfl hS dX11_moved_17
    · refine lv_iload (pc := 8) hx hb dX11_moved_8 (lv_at hl 5 rfl) ?_
      obtain ⟨v2, hm10, hf⟩ := q_b1_e hf
      refine q_cSr (pc := 10) (As := [.int p5]) (rest := []) (v0 := (some (.int v2))) ⟨hx, hb, hml, hown, hts⟩ hK hA hZ hP hD hS hl.1 [] 4 rfl ⟨rfl, rfl, rfl⟩ (c_M_isLevel l D ci A sa N (Rw) p5 v2 hm10) (va_cwS 1 hts gX11_moved_X11_isLevel rfl rfl rfl (by decide +kernel) ⟨Nat.le_of_ble_eq_true rfl, Nat.le_of_ble_eq_true rfl⟩) rfl rfl (Nat.le_of_ble_eq_true rfl) dX11_moved_10 ⟨Nat.zero_le _, Nat.zero_le _⟩ (fun locs hS => ?_)
      refine q_if_ne (pc := 13) (tgt := 18) hx hb dX11_moved_13 (by decide) rfl hf (fun hf => ?_) (fun hf => ?_)
      · refine lv_iload_n (pc := 18) hx hb dX11_moved_18 rfl (lv_at hl 1 rfl) ?_
        refine lv_i2l (pc := 19) hx hb dX11_moved_19 rfl ?_
        refine lv_iload_n (pc := 20) hx hb dX11_moved_20 rfl (lv_at hl 3 rfl) ?_
        refine lv_i2l (pc := 21) hx hb dX11_moved_21 rfl ?_
        refine lv_ladd (pc := 22) hx hb dX11_moved_22 ?_
        obtain ⟨v3, ev3, hf⟩ := q_nm_e hf
        refine q_topl ev3 ?_
        refine lv_lstore (pc := 23) (lv' := [(6, .long v3), (0, .ref a_m), (1, .int p1), (2, .int p2), (3, .int p3), (4, .int p4), (5, .int p5)]) hx hb dX11_moved_23 hl (by decide) rfl (fun ls hl => ?_)
        refine lv_iload_n (pc := 25) hx hb dX11_moved_25 rfl (lv_at hl 3 rfl) ?_
        refine lv_i2l (pc := 26) hx hb dX11_moved_26 rfl ?_
        refine lv_iload (pc := 27) hx hb dX11_moved_27 (lv_at hl 5 rfl) ?_
        refine lv_i2l (pc := 29) hx hb dX11_moved_29 rfl ?_
        refine lv_ladd (pc := 30) hx hb dX11_moved_30 ?_
        obtain ⟨v4, ev4, hf⟩ := q_nm_e hf
        refine q_topl ev4 ?_
        refine lv_lstore (pc := 31) (lv' := [(8, .long v4), (6, .long v3), (0, .ref a_m), (1, .int p1), (2, .int p2), (3, .int p3), (4, .int p4), (5, .int p5)]) hx hb dX11_moved_31 hl (by decide) rfl (fun ls hl => ?_)
        refine lv_lload (pc := 33) hx hb dX11_moved_33 (lv_at hl 1 rfl) ?_
        refine lv_lload (pc := 35) hx hb dX11_moved_35 (lv_at hl 1 rfl) ?_
        refine lv_l2i (pc := 37) hx hb dX11_moved_37 rfl ?_
        refine lv_i2l (pc := 38) hx hb dX11_moved_38 rfl ?_
        refine W.lcmp (pc := 39) hx hb dX11_moved_39 ?_
        refine q_if_ne (pc := 40) (tgt := 53) hx hb dX11_moved_40 (by decide) rfl hf (fun hf => ?_) (fun hf => ?_)
        · refine lv_bipush (pc := 53) (v := (-2)) hx hb dX11_moved_53 (by decide) ?_
          obtain rfl := Option.some.inj hf
          rw [hQ]
          exact q_iretr (pc := 55) hx hb hr hlocks rfl hS dX11_moved_55
        · refine lv_lload (pc := 43) hx hb dX11_moved_43 (lv_at hl 0 rfl) ?_
          refine lv_lload (pc := 45) hx hb dX11_moved_45 (lv_at hl 0 rfl) ?_
          refine lv_l2i (pc := 47) hx hb dX11_moved_47 rfl ?_
          refine lv_i2l (pc := 48) hx hb dX11_moved_48 rfl ?_
          refine W.lcmp (pc := 49) hx hb dX11_moved_49 ?_
          refine q_if_eq (pc := 50) (tgt := 56) hx hb dX11_moved_50 (by decide) rfl hf (fun hf => ?_) (fun hf => ?_)
          · refine lv_lload (pc := 56) hx hb dX11_moved_56 (lv_at hl 1 rfl) ?_
            refine lv_ldc2 (pc := 58) (v := (-324000)) hx hb hown w_1 dX11_moved_58 ?_
            refine lv_ldc2 (pc := 61) (v := 324000) hx hb hown w_2 dX11_moved_61 ?_
            obtain ⟨v5, hm64, hf⟩ := q_b1_e hf
            refine q_cSr (pc := 64) (As := [.long v3, .long (-324000), .long 324000]) (rest := []) (v0 := (some (.int v5))) ⟨hx, hb, hml, hown, hts⟩ hK hA hZ hP hD hS hl.1 [] 4 rfl ⟨rfl, rfl, rfl⟩ (c_M_in l D ci A sa N (Rw) v3 (-324000) 324000 v5 hm64) (va_cwS 3 hts gX11_moved_X11_in rfl rfl rfl (by decide +kernel) ⟨Nat.le_of_ble_eq_true rfl, Nat.le_of_ble_eq_true rfl⟩) rfl rfl (Nat.le_of_ble_eq_true rfl) dX11_moved_64 ⟨Nat.zero_le _, Nat.zero_le _⟩ (fun locs hS => ?_)
            refine q_if_ne (pc := 67) (tgt := 73) hx hb dX11_moved_67 (by decide) rfl hf (fun hf => ?_) (fun hf => ?_)
            · refine lv_lload (pc := 73) hx hb dX11_moved_73 (lv_at hl 0 rfl) ?_
              refine lv_ldc2 (pc := 75) (v := 1296000) hx hb hown w_3 dX11_moved_75 ?_
              refine lv_lload (pc := 78) hx hb dX11_moved_78 (lv_at hl 0 rfl) ?_
              refine lv_ldc2 (pc := 80) (v := 1296000) hx hb hown w_3 dX11_moved_80 ?_
              obtain ⟨v6, hm83, hf⟩ := q_b1_e hf
              refine q_cSr (pc := 83) (As := [.long v4, .long 1296000]) (rest := [.long 1296000, .long v4]) (v0 := (some (.long v6))) ⟨hx, hb, hml, hown, hts⟩ hK hA hZ hP hD hS hl.1 [] 4 rfl ⟨rfl, rfl, rfl⟩ (c_M_down l D ci A sa N (Rw) v4 1296000 v6 hm83) (va_cwS 2 hts gX11_moved_X11_down rfl rfl rfl (by decide +kernel) ⟨Nat.le_of_ble_eq_true rfl, Nat.le_of_ble_eq_true rfl⟩) rfl rfl (Nat.le_of_ble_eq_true rfl) dX11_moved_83 ⟨Nat.zero_le _, Nat.zero_le _⟩ (fun locs hS => ?_)
              refine lv_lmul (pc := 86) hx hb dX11_moved_86 ?_
              refine lv_lsub (pc := 87) hx hb dX11_moved_87 ?_
              obtain ⟨v7, ev7, hf⟩ := q_nm_e hf
              refine q_topl ev7 ?_
              refine lv_lstore (pc := 88) (lv' := [(8, .long v7), (6, .long v3), (0, .ref a_m), (1, .int p1), (2, .int p2), (3, .int p3), (4, .int p4), (5, .int p5)]) hx hb dX11_moved_88 hl (by decide) rfl (fun ls hl => ?_)
              refine lv_aload_n (pc := 90) hx hb dX11_moved_90 rfl (lv_at hl 2 rfl) ?_
              refine lv_lload (pc := 91) hx hb dX11_moved_91 (lv_at hl 1 rfl) ?_
              refine lv_l2i (pc := 93) hx hb dX11_moved_93 rfl ?_
              refine lv_lload (pc := 94) hx hb dX11_moved_94 (lv_at hl 0 rfl) ?_
              refine lv_l2i (pc := 96) hx hb dX11_moved_96 rfl ?_
              refine lv_iload (pc := 97) hx hb dX11_moved_97 (lv_at hl 7 rfl) ?_
              obtain ⟨v8, hm99, hf⟩ := q_b1_e hf
              refine q_cVr (pc := 99) (As := [.int v3.toInt32, .int v7.toInt32, .int p5]) (rest := []) (v0 := (some (.int v8))) ⟨hx, hb, hml, hown, hts⟩ hK hA hZ hP hD hS hl.1 [0, 1, 2, 3] 4 rfl ⟨rfl, rfl, rfl⟩ (c_M_keyAtPlace l D ci A sa N (Rw) a_m a_m_cutRows a_m_cutColumns a_m_deep a_m_wide a_m_zonesAhead a_m_nameOne a_m_nameOther a_m_tape a_m_edges a_m_dist a_m_queue a_m_pieceLevel a_m_pieceKey a_m_pieceYear a_m_drawnKeys a_m_kept a_m_noNumbers m_taped m_place m_fault m_number m_levelRead m_keyRead m_reads m_faults m_cutShort m_noNumber m_bottomLat m_bottomLon m_firstBeside m_manyBeside m_queued m_boxLevel m_boxTop m_boxBottom m_boxWest m_boxEast m_isEarly m_pieces m_states m_drawnNow m_keptAt m_deep m_wide m_zonesAhead v3.toInt32 v7.toInt32 p5 v8 hm99) 0 rfl rfl (cwV 3 hts gX11_moved_X11_keyAtPlace rfl rfl rfl (by decide +kernel) ⟨Nat.le_of_ble_eq_true rfl, Nat.le_of_ble_eq_true rfl⟩) rfl rfl (Nat.le_of_ble_eq_true rfl) dX11_moved_99 ⟨Nat.zero_le _, Nat.zero_le _⟩ (fun locs hS => ?_)
              obtain rfl := Option.some.inj hf
              rw [hQ]
              exact q_iretr (pc := 102) hx hb hr hlocks rfl hS dX11_moved_102
            · refine lv_bipush (pc := 70) (v := (-3)) hx hb dX11_moved_70 (by decide) ?_
              obtain rfl := Option.some.inj hf
              rw [hQ]
              exact q_iretr (pc := 72) hx hb hr hlocks rfl hS dX11_moved_72
          · refine lv_bipush (pc := 53) (v := (-2)) hx hb dX11_moved_53 (by decide) ?_
            obtain rfl := Option.some.inj hf
            rw [hQ]
            exact q_iretr (pc := 55) hx hb hr hlocks rfl hS dX11_moved_55
      · refine lv_iconst (pc := 16) (v := (-1)) hx hb dX11_moved_16 (by decide) ?_
        obtain rfl := Option.some.inj hf
        rw [hQ]
        exact q_iretr (pc := 17) hx hb hr hlocks rfl hS dX11_moved_17
  exact hgo _ _ rfl hP hS
/-! X11_name -/
set_option maxRecDepth 100000 in
set_option maxHeartbeats 4000000 in
theorem c_M_name (l : Launch) (D : va_G) (ci : Nat → ClassId) (A : Nat → Prop) (sa : Nat → Nat) (N : Nat) (Rw : va_W) (a_m : Nat) (a_m_cutRows : Nat) (a_m_cutColumns : Nat) (a_m_deep : Nat) (a_m_wide : Nat) (a_m_zonesAhead : Nat) (a_m_nameOne : Nat) (a_m_nameOther : Nat) (a_m_tape : Nat) (a_m_edges : Nat) (a_m_dist : Nat) (a_m_queue : Nat) (a_m_pieceLevel : Nat) (a_m_pieceKey : Nat) (a_m_pieceYear : Nat) (a_m_drawnKeys : Nat) (a_m_kept : Nat) (a_m_noNumbers : Nat) (m_taped : Int32) (m_place : Int32) (m_fault : Int32) (m_number : Int32) (m_levelRead : Int32) (m_keyRead : Int32) (m_reads : Int32) (m_faults : Int32) (m_cutShort : Int32) (m_noNumber : Int32) (m_bottomLat : Int64) (m_bottomLon : Int64) (m_firstBeside : Int32) (m_manyBeside : Int32) (m_queued : Int32) (m_boxLevel : Int32) (m_boxTop : Int32) (m_boxBottom : Int32) (m_boxWest : Int32) (m_boxEast : Int32) (m_isEarly : Int32) (m_pieces : Int32) (m_states : Int32) (m_drawnNow : Int32) (m_keptAt : Int32) (m_cutRows : Nat → Int32) (m_cutColumns : Nat → Int32) (m_deep : Nat → Int32) (m_wide : Nat → Int32) (m_zonesAhead : Nat → Int32) (m_nameOne : Nat → Int32) (p1 : Int32) (p2 : Int32) (p3 : Int32) (r : Int32) (o1 : Nat → Int32) (hf : f_M_name N m_cutRows m_cutColumns m_deep m_wide m_zonesAhead m_nameOne p1 p2 p3 = some (r, o1)) : Met l yX11_name wsX11_name ({ frames := 5, cells := 0, slots := 0, locals := 117 }) (va_Pc [.ref a_m, .int p1, .int p2, .int p3] (q_N D ci A sa ((a_m, .inr (11, (.ref a_m_cutRows :: .ref a_m_cutColumns :: .ref a_m_deep :: .ref a_m_wide :: .ref a_m_zonesAhead :: .ref a_m_nameOne :: .ref a_m_nameOther :: .ref a_m_tape :: .int m_taped :: .int m_place :: .int m_fault :: .int m_number :: .int m_levelRead :: .int m_keyRead :: .int m_reads :: .int m_faults :: .int m_cutShort :: .int m_noNumber :: .long m_bottomLat :: .long m_bottomLon :: .ref a_m_edges :: .int m_firstBeside :: .int m_manyBeside :: .ref a_m_dist :: .ref a_m_queue :: .int m_queued :: .int m_boxLevel :: .int m_boxTop :: .int m_boxBottom :: .int m_boxWest :: .int m_boxEast :: .int m_isEarly :: .int m_pieces :: .int m_states :: .ref a_m_pieceLevel :: .ref a_m_pieceKey :: .ref a_m_pieceYear :: .int m_drawnNow :: .ref a_m_drawnKeys :: .ref a_m_kept :: .int m_keptAt :: .ref a_m_noNumbers :: []))) :: (a_m_cutRows, .inl (ci 0, 5, .inl m_cutRows)) :: (a_m_cutColumns, .inl (ci 0, 5, .inl m_cutColumns)) :: (a_m_deep, .inl (ci 0, 5, .inl m_deep)) :: (a_m_wide, .inl (ci 0, 5, .inl m_wide)) :: (a_m_zonesAhead, .inl (ci 0, 45, .inl m_zonesAhead)) :: (a_m_nameOne, .inl (ci 0, 20, .inl m_nameOne)) :: Rw))) (q_Q (some (.int r)) (q_O D A ((a_m, .inr (11, (.ref a_m_cutRows :: .ref a_m_cutColumns :: .ref a_m_deep :: .ref a_m_wide :: .ref a_m_zonesAhead :: .ref a_m_nameOne :: .ref a_m_nameOther :: .ref a_m_tape :: .int m_taped :: .int m_place :: .int m_fault :: .int m_number :: .int m_levelRead :: .int m_keyRead :: .int m_reads :: .int m_faults :: .int m_cutShort :: .int m_noNumber :: .long m_bottomLat :: .long m_bottomLon :: .ref a_m_edges :: .int m_firstBeside :: .int m_manyBeside :: .ref a_m_dist :: .ref a_m_queue :: .int m_queued :: .int m_boxLevel :: .int m_boxTop :: .int m_boxBottom :: .int m_boxWest :: .int m_boxEast :: .int m_isEarly :: .int m_pieces :: .int m_states :: .ref a_m_pieceLevel :: .ref a_m_pieceKey :: .ref a_m_pieceYear :: .int m_drawnNow :: .ref a_m_drawnKeys :: .ref a_m_kept :: .int m_keptAt :: .ref a_m_noNumbers :: []))) :: (a_m_cutRows, .inl (ci 0, 5, .inl m_cutRows)) :: (a_m_cutColumns, .inl (ci 0, 5, .inl m_cutColumns)) :: (a_m_deep, .inl (ci 0, 5, .inl m_deep)) :: (a_m_wide, .inl (ci 0, 5, .inl m_wide)) :: (a_m_zonesAhead, .inl (ci 0, 45, .inl m_zonesAhead)) :: (a_m_nameOne, .inl (ci 0, 20, .inl o1)) :: Rw)) A) 0 0 A := by
  refine q_ofW (cc := cX11_name) (maxL := 5) (ret := (some .int)) [.ref a_m, .int p1, .int p2, .int p3] (plainFor_of_name (by decide)) rfl (Nat.le_of_ble_eq_true rfl) ?_
  intro p e s m below meth c ls Q hQ hx hb hml hr hts hown hlocks hK hA hZ hP hD hS hl
  have hl : lv_has ls 5 [(0, .ref a_m), (1, .int p1), (2, .int p2), (3, .int p3)] := hl
  have hown : s.vm.findClass RX11 = some m.cls := hown
  have hinX11 : ∀ w ∈ wsX110, w ∈ wsX11_name := fun _ h => List.mem_cons_of_mem _ (inWX110 _ h)
  have w_1 := hts (Cond.fieldLink RX11 25 "SheetNamesModel" "nameOne" "[I") (List.mem_cons_of_mem _ t_w968)
  unfold f_M_name at hf
  have hgo : ∀ (H : Heap) (locs : List Loc), H = s.heap → va_P D vwCl ((a_m, .inr (11, (.ref a_m_cutRows :: .ref a_m_cutColumns :: .ref a_m_deep :: .ref a_m_wide :: .ref a_m_zonesAhead :: .ref a_m_nameOne :: .ref a_m_nameOther :: .ref a_m_tape :: .int m_taped :: .int m_place :: .int m_fault :: .int m_number :: .int m_levelRead :: .int m_keyRead :: .int m_reads :: .int m_faults :: .int m_cutShort :: .int m_noNumber :: .long m_bottomLat :: .long m_bottomLon :: .ref a_m_edges :: .int m_firstBeside :: .int m_manyBeside :: .ref a_m_dist :: .ref a_m_queue :: .int m_queued :: .int m_boxLevel :: .int m_boxTop :: .int m_boxBottom :: .int m_boxWest :: .int m_boxEast :: .int m_isEarly :: .int m_pieces :: .int m_states :: .ref a_m_pieceLevel :: .ref a_m_pieceKey :: .ref a_m_pieceYear :: .int m_drawnNow :: .ref a_m_drawnKeys :: .ref a_m_kept :: .int m_keptAt :: .ref a_m_noNumbers :: []))) :: (a_m_cutRows, .inl (ci 0, 5, .inl m_cutRows)) :: (a_m_cutColumns, .inl (ci 0, 5, .inl m_cutColumns)) :: (a_m_deep, .inl (ci 0, 5, .inl m_deep)) :: (a_m_wide, .inl (ci 0, 5, .inl m_wide)) :: (a_m_zonesAhead, .inl (ci 0, 45, .inl m_zonesAhead)) :: (a_m_nameOne, .inl (ci 0, 20, .inl m_nameOne)) :: Rw) H → va_S A s.heap H locs → W p l e ({ frames := 5, cells := 0, slots := 0, locals := 117 } : Room) s m ([.ref a_m, .int p1, .int p2, .int p3] : List Value).toArray below meth c H locs 0 0 Q (F0 m 0 ls []) := by
    intro H locs hH hP hS
    refine lv_aload_n (pc := 0) hx hb dX11_name_0 rfl (lv_at hl 0 rfl) ?_
    refine lv_iload_n (pc := 1) hx hb dX11_name_1 rfl (lv_at hl 1 rfl) ?_
    refine lv_iload_n (pc := 2) hx hb dX11_name_2 rfl (lv_at hl 2 rfl) ?_
    obtain ⟨v1, hm3, hf⟩ := q_b1_e hf
    refine q_cVr (pc := 3) (As := [.int p1, .int p2]) (rest := []) (v0 := (some (.int v1))) ⟨hx, hb, hml, hown, hts⟩ hK hA hZ hP hD hS hl.1 [0, 3, 4, 5] 7 rfl ⟨rfl, rfl, rfl⟩ (c_M_isKey l D ci A sa N (Rw) a_m a_m_cutRows a_m_cutColumns a_m_deep a_m_wide a_m_zonesAhead a_m_nameOne a_m_nameOther a_m_tape a_m_edges a_m_dist a_m_queue a_m_pieceLevel a_m_pieceKey a_m_pieceYear a_m_drawnKeys a_m_kept a_m_noNumbers m_taped m_place m_fault m_number m_levelRead m_keyRead m_reads m_faults m_cutShort m_noNumber m_bottomLat m_bottomLon m_firstBeside m_manyBeside m_queued m_boxLevel m_boxTop m_boxBottom m_boxWest m_boxEast m_isEarly m_pieces m_states m_drawnNow m_keptAt m_deep m_wide m_zonesAhead p1 p2 v1 hm3) 0 rfl rfl (cwV 2 hts gX11_name_X11_isKey rfl rfl rfl (by decide +kernel) ⟨Nat.le_of_ble_eq_true rfl, Nat.le_of_ble_eq_true rfl⟩) rfl rfl (Nat.le_of_ble_eq_true rfl) dX11_name_3 ⟨Nat.zero_le _, Nat.zero_le _⟩ (fun locs hS => ?_)
    refine q_if_eq (pc := 6) (tgt := 14) hx hb dX11_name_6 (by decide) rfl hf (fun hf => ?_) (fun hf => ?_)
    · refine lv_iconst (pc := 14) (v := (-1)) hx hb dX11_name_14 (by decide) ?_
      obtain ⟨rfl, rfl⟩ := q_inj2 (Option.some.inj hf)
      rw [hQ]
      exact q_iret (pc := 15) hx hb hr hlocks hP hD hS dX11_name_15
    · refine lv_iload_n (pc := 9) hx hb dX11_name_9 rfl (lv_at hl 3 rfl) ?_
      refine lv_iconst (pc := 10) (v := (-1)) hx hb dX11_name_10 (by decide) ?_
      refine q_icmp_ge (pc := 11) (tgt := 16) hx hb dX11_name_11 (by decide) rfl hf (fun hf => ?_) (fun hf => ?_)
      · refine lv_aload_n (pc := 16) hx hb dX11_name_16 rfl (lv_at hl 0 rfl) ?_
        refine lv_iload_n (pc := 17) hx hb dX11_name_17 rfl (lv_at hl 1 rfl) ?_
        refine lv_iload_n (pc := 18) hx hb dX11_name_18 rfl (lv_at hl 2 rfl) ?_
        refine lv_aload_n (pc := 19) hx hb dX11_name_19 rfl (lv_at hl 0 rfl) ?_
        refine va_get (pc := 20) (D := D) (ci := 11) (v := .ref a_m_nameOne) (C := RX11) (T := TX11) (N := 42) hx hb hts hinX11 hown hK hP 0 rfl rfl 5 (by decide) w_1 (fun _ h9 => h9) rfl dX11_name_20 ?_
        obtain ⟨v2, f3, hm23, hf⟩ := q_b2_e hf
        refine q_cV (pc := 23) (As := [.int p1, .int p2, .ref a_m_nameOne]) (rest := []) (v0 := (some (.int v2))) ⟨hx, hb, hml, hown, hts⟩ hK hA hZ hP hD hS hl.1 [0, 1, 2, 3, 4, 5, 6] 7 rfl ⟨rfl, rfl, rfl⟩ (c_M_spells l D ci A sa N (Rw) a_m a_m_cutRows a_m_cutColumns a_m_deep a_m_wide a_m_zonesAhead a_m_nameOne a_m_nameOne a_m_nameOther a_m_tape a_m_edges a_m_dist a_m_queue a_m_pieceLevel a_m_pieceKey a_m_pieceYear a_m_drawnKeys a_m_kept a_m_noNumbers m_taped m_place m_fault m_number m_levelRead m_keyRead m_reads m_faults m_cutShort m_noNumber m_bottomLat m_bottomLon m_firstBeside m_manyBeside m_queued m_boxLevel m_boxTop m_boxBottom m_boxWest m_boxEast m_isEarly m_pieces m_states m_drawnNow m_keptAt m_cutRows m_cutColumns m_deep m_wide m_zonesAhead m_nameOne p1 p2 v2 f3 hm23) 0 rfl rfl (cwV 3 hts gX11_name_X11_spells rfl rfl rfl (by decide +kernel) ⟨Nat.le_of_ble_eq_true rfl, Nat.le_of_ble_eq_true rfl⟩) rfl rfl (Nat.le_of_ble_eq_true rfl) dX11_name_23 ⟨Nat.zero_le _, Nat.zero_le _⟩ [0, 1, 2, 3, 4, 5, 6] 7 rfl ⟨rfl, rfl, rfl⟩ (fun H locs hP hD hS => ?_)
        obtain ⟨hP, hD⟩ : va_PD D A ((a_m, .inr (11, (.ref a_m_cutRows :: .ref a_m_cutColumns :: .ref a_m_deep :: .ref a_m_wide :: .ref a_m_zonesAhead :: .ref a_m_nameOne :: .ref a_m_nameOther :: .ref a_m_tape :: .int m_taped :: .int m_place :: .int m_fault :: .int m_number :: .int m_levelRead :: .int m_keyRead :: .int m_reads :: .int m_faults :: .int m_cutShort :: .int m_noNumber :: .long m_bottomLat :: .long m_bottomLon :: .ref a_m_edges :: .int m_firstBeside :: .int m_manyBeside :: .ref a_m_dist :: .ref a_m_queue :: .int m_queued :: .int m_boxLevel :: .int m_boxTop :: .int m_boxBottom :: .int m_boxWest :: .int m_boxEast :: .int m_isEarly :: .int m_pieces :: .int m_states :: .ref a_m_pieceLevel :: .ref a_m_pieceKey :: .ref a_m_pieceYear :: .int m_drawnNow :: .ref a_m_drawnKeys :: .ref a_m_kept :: .int m_keptAt :: .ref a_m_noNumbers :: []))) :: (a_m_cutRows, .inl (ci 0, 5, .inl m_cutRows)) :: (a_m_cutColumns, .inl (ci 0, 5, .inl m_cutColumns)) :: (a_m_deep, .inl (ci 0, 5, .inl m_deep)) :: (a_m_wide, .inl (ci 0, 5, .inl m_wide)) :: (a_m_zonesAhead, .inl (ci 0, 45, .inl m_zonesAhead)) :: (a_m_nameOne, .inl (ci 0, 20, .inl f3)) :: Rw) H := ⟨hP, hD⟩
        refine lv_istore (pc := 26) (lv' := [(4, .int v2), (0, .ref a_m), (1, .int p1), (2, .int p2), (3, .int p3)]) hx hb dX11_name_26 hl (by decide) rfl (fun ls hl => ?_)
        refine lv_iload_n (pc := 28) hx hb dX11_name_28 rfl (lv_at hl 4 rfl) ?_
        refine lv_iconst (pc := 29) (v := (-1)) hx hb dX11_name_29 (by decide) ?_
        refine q_icmp_ne (pc := 30) (tgt := 38) hx hb dX11_name_30 (by decide) rfl hf (fun hf => ?_) (fun hf => ?_)
        · refine lv_iload_n (pc := 38) hx hb dX11_name_38 rfl (lv_at hl 4 rfl) ?_
          refine lv_iload (pc := 39) hx hb dX11_name_39 (lv_at hl 0 rfl) ?_
          refine q_icmp_ge (pc := 41) (tgt := 53) hx hb dX11_name_41 (by decide) rfl hf (fun hf => ?_) (fun hf => ?_)
          · refine lv_bipush (pc := 53) (v := (-2)) hx hb dX11_name_53 (by decide) ?_
            obtain ⟨rfl, rfl⟩ := q_inj2 (Option.some.inj hf)
            rw [hQ]
            exact q_iret (pc := 55) hx hb hr hlocks hP hD hS dX11_name_55
          · refine lv_aload_n (pc := 44) hx hb dX11_name_44 rfl (lv_at hl 1 rfl) ?_
            refine va_get (pc := 45) (D := D) (ci := 11) (v := .ref a_m_nameOne) (C := RX11) (T := TX11) (N := 42) hx hb hts hinX11 hown hK hP 0 rfl rfl 5 (by decide) w_1 (fun _ h9 => h9) rfl dX11_name_45 ?_
            refine lv_iload_n (pc := 48) hx hb dX11_name_48 rfl (lv_at hl 4 rfl) ?_
            refine q_iald (pc := 49) hx hb hK hP 6 0 hf rfl rfl dX11_name_49 (fun v4 hf => ?_)
            refine lv_goto (pc := 50) (tgt := 55) hx hb dX11_name_50 (by decide) ?_
            obtain ⟨rfl, rfl⟩ := q_inj2 (Option.some.inj hf)
            rw [hQ]
            exact q_iret (pc := 55) hx hb hr hlocks hP hD hS dX11_name_55
        · refine lv_iload (pc := 33) hx hb dX11_name_33 (lv_at hl 0 rfl) ?_
          refine lv_goto (pc := 35) (tgt := 55) hx hb dX11_name_35 (by decide) ?_
          obtain ⟨rfl, rfl⟩ := q_inj2 (Option.some.inj hf)
          rw [hQ]
          exact q_iret (pc := 55) hx hb hr hlocks hP hD hS dX11_name_55
      · refine lv_iconst (pc := 14) (v := (-1)) hx hb dX11_name_14 (by decide) ?_
        obtain ⟨rfl, rfl⟩ := q_inj2 (Option.some.inj hf)
        rw [hQ]
        exact q_iret (pc := 15) hx hb hr hlocks hP hD hS dX11_name_15
  exact hgo _ _ rfl hP hS
/-! X11_named -/
set_option maxRecDepth 100000 in
set_option maxHeartbeats 4000000 in
theorem c_M_named (l : Launch) (D : va_G) (ci : Nat → ClassId) (A : Nat → Prop) (sa : Nat → Nat) (N : Nat) (Rw : va_W) (a_m : Nat) (a_m_cutRows : Nat) (a_m_cutColumns : Nat) (a_m_deep : Nat) (a_m_wide : Nat) (a_m_zonesAhead : Nat) (a_m_nameOne : Nat) (a_m_nameOther : Nat) (a_m_tape : Nat) (a_m_edges : Nat) (a_m_dist : Nat) (a_m_queue : Nat) (a_m_pieceLevel : Nat) (a_m_pieceKey : Nat) (a_m_pieceYear : Nat) (a_m_drawnKeys : Nat) (a_m_kept : Nat) (a_m_noNumbers : Nat) (m_taped : Int32) (m_place : Int32) (m_fault : Int32) (m_number : Int32) (m_levelRead : Int32) (m_keyRead : Int32) (m_reads : Int32) (m_faults : Int32) (m_cutShort : Int32) (m_noNumber : Int32) (m_bottomLat : Int64) (m_bottomLon : Int64) (m_firstBeside : Int32) (m_manyBeside : Int32) (m_queued : Int32) (m_boxLevel : Int32) (m_boxTop : Int32) (m_boxBottom : Int32) (m_boxWest : Int32) (m_boxEast : Int32) (m_isEarly : Int32) (m_pieces : Int32) (m_states : Int32) (m_drawnNow : Int32) (m_keptAt : Int32) (m_cutRows : Nat → Int32) (m_cutColumns : Nat → Int32) (m_deep : Nat → Int32) (m_wide : Nat → Int32) (m_zonesAhead : Nat → Int32) (m_tape : Nat → Int32) (p1 : Int32) (p2 : Int32) (r : Int32) (o1 : Int32) (o2 : Int32) (o3 : Int32) (o4 : Int32) (o5 : Int32) (o6 : Int32) (o7 : Int32) (o8 : Int32) (o9 : Int32) (o10 : Int32) (hf : f_M_named N m_cutRows m_cutColumns m_deep m_wide m_zonesAhead m_tape m_taped m_place m_fault m_number m_levelRead m_keyRead m_reads m_faults m_cutShort m_noNumber p1 p2 = some (r, o1, o2, o3, o4, o5, o6, o7, o8, o9, o10)) : Met l yX11_named wsX11_named ({ frames := 4, cells := 0, slots := 0, locals := 93 }) (va_Pc [.ref a_m, .int p1, .int p2] (q_N D ci A sa ((a_m, .inr (11, (.ref a_m_cutRows :: .ref a_m_cutColumns :: .ref a_m_deep :: .ref a_m_wide :: .ref a_m_zonesAhead :: .ref a_m_nameOne :: .ref a_m_nameOther :: .ref a_m_tape :: .int m_taped :: .int m_place :: .int m_fault :: .int m_number :: .int m_levelRead :: .int m_keyRead :: .int m_reads :: .int m_faults :: .int m_cutShort :: .int m_noNumber :: .long m_bottomLat :: .long m_bottomLon :: .ref a_m_edges :: .int m_firstBeside :: .int m_manyBeside :: .ref a_m_dist :: .ref a_m_queue :: .int m_queued :: .int m_boxLevel :: .int m_boxTop :: .int m_boxBottom :: .int m_boxWest :: .int m_boxEast :: .int m_isEarly :: .int m_pieces :: .int m_states :: .ref a_m_pieceLevel :: .ref a_m_pieceKey :: .ref a_m_pieceYear :: .int m_drawnNow :: .ref a_m_drawnKeys :: .ref a_m_kept :: .int m_keptAt :: .ref a_m_noNumbers :: []))) :: (a_m_cutRows, .inl (ci 0, 5, .inl m_cutRows)) :: (a_m_cutColumns, .inl (ci 0, 5, .inl m_cutColumns)) :: (a_m_deep, .inl (ci 0, 5, .inl m_deep)) :: (a_m_wide, .inl (ci 0, 5, .inl m_wide)) :: (a_m_zonesAhead, .inl (ci 0, 45, .inl m_zonesAhead)) :: (a_m_tape, .inl (ci 2, 200, .inl m_tape)) :: Rw))) (q_Q (some (.int r)) (q_O D A ((a_m, .inr (11, (.ref a_m_cutRows :: .ref a_m_cutColumns :: .ref a_m_deep :: .ref a_m_wide :: .ref a_m_zonesAhead :: .ref a_m_nameOne :: .ref a_m_nameOther :: .ref a_m_tape :: .int o1 :: .int o2 :: .int o3 :: .int o4 :: .int o5 :: .int o6 :: .int o7 :: .int o8 :: .int o9 :: .int o10 :: .long m_bottomLat :: .long m_bottomLon :: .ref a_m_edges :: .int m_firstBeside :: .int m_manyBeside :: .ref a_m_dist :: .ref a_m_queue :: .int m_queued :: .int m_boxLevel :: .int m_boxTop :: .int m_boxBottom :: .int m_boxWest :: .int m_boxEast :: .int m_isEarly :: .int m_pieces :: .int m_states :: .ref a_m_pieceLevel :: .ref a_m_pieceKey :: .ref a_m_pieceYear :: .int m_drawnNow :: .ref a_m_drawnKeys :: .ref a_m_kept :: .int m_keptAt :: .ref a_m_noNumbers :: []))) :: (a_m_cutRows, .inl (ci 0, 5, .inl m_cutRows)) :: (a_m_cutColumns, .inl (ci 0, 5, .inl m_cutColumns)) :: (a_m_deep, .inl (ci 0, 5, .inl m_deep)) :: (a_m_wide, .inl (ci 0, 5, .inl m_wide)) :: (a_m_zonesAhead, .inl (ci 0, 45, .inl m_zonesAhead)) :: (a_m_tape, .inl (ci 2, 200, .inl m_tape)) :: Rw)) A) 0 0 A := by
  refine q_ofW (cc := cX11_named) (maxL := 4) (ret := (some .int)) [.ref a_m, .int p1, .int p2] (plainFor_of_name (by decide)) rfl (Nat.le_of_ble_eq_true rfl) ?_
  intro p e s m below meth c ls Q hQ hx hb hml hr hts hown hlocks hK hA hZ hP hD hS hl
  have hl : lv_has ls 4 [(0, .ref a_m), (1, .int p1), (2, .int p2)] := hl
  have hown : s.vm.findClass RX11 = some m.cls := hown
  have hinX11 : ∀ w ∈ wsX110, w ∈ wsX11_named := fun _ h => List.mem_cons_of_mem _ (inWX110 _ h)
  have w_1 := hts (Cond.constantLong RX11 211 (40)) (List.mem_cons_of_mem _ t_w993)
  have w_2 := hts (Cond.fieldLink RX11 160 "SheetNamesModel" "taped" "I") (List.mem_cons_of_mem _ t_w962)
  have w_3 := hts (Cond.fieldLink RX11 170 "SheetNamesModel" "place" "I") (List.mem_cons_of_mem _ t_w913)
  have w_4 := hts (Cond.fieldLink RX11 167 "SheetNamesModel" "fault" "I") (List.mem_cons_of_mem _ t_w915)
  have w_5 := hts (Cond.fieldLink RX11 190 "SheetNamesModel" "levelRead" "I") (List.mem_cons_of_mem _ t_w921)
  have w_6 := hts (Cond.fieldLink RX11 193 "SheetNamesModel" "keyRead" "I") (List.mem_cons_of_mem _ t_w922)
  unfold f_M_named at hf
  have hgo : ∀ (H : Heap) (locs : List Loc), H = s.heap → va_P D vwCl ((a_m, .inr (11, (.ref a_m_cutRows :: .ref a_m_cutColumns :: .ref a_m_deep :: .ref a_m_wide :: .ref a_m_zonesAhead :: .ref a_m_nameOne :: .ref a_m_nameOther :: .ref a_m_tape :: .int m_taped :: .int m_place :: .int m_fault :: .int m_number :: .int m_levelRead :: .int m_keyRead :: .int m_reads :: .int m_faults :: .int m_cutShort :: .int m_noNumber :: .long m_bottomLat :: .long m_bottomLon :: .ref a_m_edges :: .int m_firstBeside :: .int m_manyBeside :: .ref a_m_dist :: .ref a_m_queue :: .int m_queued :: .int m_boxLevel :: .int m_boxTop :: .int m_boxBottom :: .int m_boxWest :: .int m_boxEast :: .int m_isEarly :: .int m_pieces :: .int m_states :: .ref a_m_pieceLevel :: .ref a_m_pieceKey :: .ref a_m_pieceYear :: .int m_drawnNow :: .ref a_m_drawnKeys :: .ref a_m_kept :: .int m_keptAt :: .ref a_m_noNumbers :: []))) :: (a_m_cutRows, .inl (ci 0, 5, .inl m_cutRows)) :: (a_m_cutColumns, .inl (ci 0, 5, .inl m_cutColumns)) :: (a_m_deep, .inl (ci 0, 5, .inl m_deep)) :: (a_m_wide, .inl (ci 0, 5, .inl m_wide)) :: (a_m_zonesAhead, .inl (ci 0, 45, .inl m_zonesAhead)) :: (a_m_tape, .inl (ci 2, 200, .inl m_tape)) :: Rw) H → va_S A s.heap H locs → W p l e ({ frames := 4, cells := 0, slots := 0, locals := 93 } : Room) s m ([.ref a_m, .int p1, .int p2] : List Value).toArray below meth c H locs 0 0 Q (F0 m 0 ls []) := by
    intro H locs hH hP hS
    refine lv_iload_n (pc := 0) hx hb dX11_named_0 rfl (lv_at hl 1 rfl) ?_
    refine lv_i2l (pc := 1) hx hb dX11_named_1 rfl ?_
    refine lv_lconst (pc := 2) (v := 1) hx hb dX11_named_2 (by decide) ?_
    refine lv_ldc2 (pc := 3) (v := 40) hx hb hown w_1 dX11_named_3 ?_
    obtain ⟨v1, hm6, hf⟩ := q_b1_e hf
    refine q_cSr (pc := 6) (As := [.long p1.toInt64, .long 1, .long 40]) (rest := []) (v0 := (some (.int v1))) ⟨hx, hb, hml, hown, hts⟩ hK hA hZ hP hD hS hl.1 [] 7 rfl ⟨rfl, rfl, rfl⟩ (c_M_in l D ci A sa N (Rw) p1.toInt64 1 40 v1 hm6) (va_cwS 3 hts gX11_named_X11_in rfl rfl rfl (by decide +kernel) ⟨Nat.le_of_ble_eq_true rfl, Nat.le_of_ble_eq_true rfl⟩) rfl rfl (Nat.le_of_ble_eq_true rfl) dX11_named_6 ⟨Nat.zero_le _, Nat.zero_le _⟩ (fun locs hS => ?_)
    refine q_if_eq (pc := 9) (tgt := 30) hx hb dX11_named_9 (by decide) rfl hf (fun hf => ?_) (fun hf => ?_)
    · refine lv_iconst (pc := 30) (v := (-1)) hx hb dX11_named_30 (by decide) ?_
      obtain ⟨e90, e91, e92, e93, e94, e95, e96, e97, e98, e99, e910⟩ := q_inj11 (Option.some.inj hf)
      rw [hQ, ← e90, ← e91, ← e92, ← e93, ← e94, ← e95, ← e96, ← e97, ← e98, ← e99, ← e910]
      exact q_iret (pc := 31) hx hb hr hlocks hP hD hS dX11_named_31
    · refine lv_iload_n (pc := 12) hx hb dX11_named_12 rfl (lv_at hl 1 rfl) ?_
      refine lv_aload_n (pc := 13) hx hb dX11_named_13 rfl (lv_at hl 0 rfl) ?_
      refine va_get (pc := 14) (D := D) (ci := 11) (v := .int m_taped) (C := RX11) (T := TX11) (N := 42) hx hb hts hinX11 hown hK hP 0 rfl rfl 8 (by decide) w_2 (fun _ h9 => h9) rfl dX11_named_14 ?_
      refine q_icmp_gt (pc := 17) (tgt := 30) hx hb dX11_named_17 (by decide) rfl hf (fun hf => ?_) (fun hf => ?_)
      · refine lv_iconst (pc := 30) (v := (-1)) hx hb dX11_named_30 (by decide) ?_
        obtain ⟨e90, e91, e92, e93, e94, e95, e96, e97, e98, e99, e910⟩ := q_inj11 (Option.some.inj hf)
        rw [hQ, ← e90, ← e91, ← e92, ← e93, ← e94, ← e95, ← e96, ← e97, ← e98, ← e99, ← e910]
        exact q_iret (pc := 31) hx hb hr hlocks hP hD hS dX11_named_31
      · refine lv_iload_n (pc := 20) hx hb dX11_named_20 rfl (lv_at hl 2 rfl) ?_
        refine lv_i2l (pc := 21) hx hb dX11_named_21 rfl ?_
        refine lv_lconst (pc := 22) (v := 0) hx hb dX11_named_22 (by decide) ?_
        refine lv_lconst (pc := 23) (v := 1) hx hb dX11_named_23 (by decide) ?_
        obtain ⟨v2, hm24, hf⟩ := q_b1_e hf
        refine q_cSr (pc := 24) (As := [.long p2.toInt64, .long 0, .long 1]) (rest := []) (v0 := (some (.int v2))) ⟨hx, hb, hml, hown, hts⟩ hK hA hZ hP hD hS hl.1 [] 7 rfl ⟨rfl, rfl, rfl⟩ (c_M_in l D ci A sa N (Rw) p2.toInt64 0 1 v2 hm24) (va_cwS 3 hts gX11_named_X11_in rfl rfl rfl (by decide +kernel) ⟨Nat.le_of_ble_eq_true rfl, Nat.le_of_ble_eq_true rfl⟩) rfl rfl (Nat.le_of_ble_eq_true rfl) dX11_named_24 ⟨Nat.zero_le _, Nat.zero_le _⟩ (fun locs hS => ?_)
        refine q_if_ne (pc := 27) (tgt := 32) hx hb dX11_named_27 (by decide) rfl hf (fun hf => ?_) (fun hf => ?_)
        · refine lv_aload_n (pc := 32) hx hb dX11_named_32 rfl (lv_at hl 0 rfl) ?_
          refine lv_iconst (pc := 33) (v := 0) hx hb dX11_named_33 (by decide) ?_
          refine va_put (pc := 34) (D := D) (ci := 11) (v := .int 0) (ty := .int) (C := RX11) (T := TX11) (N := 42) hx hb hts hinX11 tyX11 tyX11_ok nmX11 hown hK hP hD hS 0 rfl rfl 8 (by decide) w_2 (fun _ h9 => h9) rfl (by decide +kernel) rfl rfl (Nat.le_of_ble_eq_true rfl) dX11_named_34 (fun H locs hP hD hS => ?_)
          obtain ⟨hP, hD⟩ : va_PD D A ((a_m, .inr (11, (.ref a_m_cutRows :: .ref a_m_cutColumns :: .ref a_m_deep :: .ref a_m_wide :: .ref a_m_zonesAhead :: .ref a_m_nameOne :: .ref a_m_nameOther :: .ref a_m_tape :: .int 0 :: .int m_place :: .int m_fault :: .int m_number :: .int m_levelRead :: .int m_keyRead :: .int m_reads :: .int m_faults :: .int m_cutShort :: .int m_noNumber :: .long m_bottomLat :: .long m_bottomLon :: .ref a_m_edges :: .int m_firstBeside :: .int m_manyBeside :: .ref a_m_dist :: .ref a_m_queue :: .int m_queued :: .int m_boxLevel :: .int m_boxTop :: .int m_boxBottom :: .int m_boxWest :: .int m_boxEast :: .int m_isEarly :: .int m_pieces :: .int m_states :: .ref a_m_pieceLevel :: .ref a_m_pieceKey :: .ref a_m_pieceYear :: .int m_drawnNow :: .ref a_m_drawnKeys :: .ref a_m_kept :: .int m_keptAt :: .ref a_m_noNumbers :: []))) :: (a_m_cutRows, .inl (ci 0, 5, .inl m_cutRows)) :: (a_m_cutColumns, .inl (ci 0, 5, .inl m_cutColumns)) :: (a_m_deep, .inl (ci 0, 5, .inl m_deep)) :: (a_m_wide, .inl (ci 0, 5, .inl m_wide)) :: (a_m_zonesAhead, .inl (ci 0, 45, .inl m_zonesAhead)) :: (a_m_tape, .inl (ci 2, 200, .inl m_tape)) :: Rw) H := ⟨hP, hD⟩
          refine lv_aload_n (pc := 37) hx hb dX11_named_37 rfl (lv_at hl 0 rfl) ?_
          refine lv_iconst (pc := 38) (v := 0) hx hb dX11_named_38 (by decide) ?_
          refine va_put (pc := 39) (D := D) (ci := 11) (v := .int 0) (ty := .int) (C := RX11) (T := TX11) (N := 42) hx hb hts hinX11 tyX11 tyX11_ok nmX11 hown hK hP hD hS 0 rfl rfl 9 (by decide) w_3 (fun _ h9 => h9) rfl (by decide +kernel) rfl rfl (Nat.le_of_ble_eq_true rfl) dX11_named_39 (fun H locs hP hD hS => ?_)
          obtain ⟨hP, hD⟩ : va_PD D A ((a_m, .inr (11, (.ref a_m_cutRows :: .ref a_m_cutColumns :: .ref a_m_deep :: .ref a_m_wide :: .ref a_m_zonesAhead :: .ref a_m_nameOne :: .ref a_m_nameOther :: .ref a_m_tape :: .int 0 :: .int 0 :: .int m_fault :: .int m_number :: .int m_levelRead :: .int m_keyRead :: .int m_reads :: .int m_faults :: .int m_cutShort :: .int m_noNumber :: .long m_bottomLat :: .long m_bottomLon :: .ref a_m_edges :: .int m_firstBeside :: .int m_manyBeside :: .ref a_m_dist :: .ref a_m_queue :: .int m_queued :: .int m_boxLevel :: .int m_boxTop :: .int m_boxBottom :: .int m_boxWest :: .int m_boxEast :: .int m_isEarly :: .int m_pieces :: .int m_states :: .ref a_m_pieceLevel :: .ref a_m_pieceKey :: .ref a_m_pieceYear :: .int m_drawnNow :: .ref a_m_drawnKeys :: .ref a_m_kept :: .int m_keptAt :: .ref a_m_noNumbers :: []))) :: (a_m_cutRows, .inl (ci 0, 5, .inl m_cutRows)) :: (a_m_cutColumns, .inl (ci 0, 5, .inl m_cutColumns)) :: (a_m_deep, .inl (ci 0, 5, .inl m_deep)) :: (a_m_wide, .inl (ci 0, 5, .inl m_wide)) :: (a_m_zonesAhead, .inl (ci 0, 45, .inl m_zonesAhead)) :: (a_m_tape, .inl (ci 2, 200, .inl m_tape)) :: Rw) H := ⟨hP, hD⟩
          refine lv_aload_n (pc := 42) hx hb dX11_named_42 rfl (lv_at hl 0 rfl) ?_
          refine lv_iconst (pc := 43) (v := 0) hx hb dX11_named_43 (by decide) ?_
          refine va_put (pc := 44) (D := D) (ci := 11) (v := .int 0) (ty := .int) (C := RX11) (T := TX11) (N := 42) hx hb hts hinX11 tyX11 tyX11_ok nmX11 hown hK hP hD hS 0 rfl rfl 10 (by decide) w_4 (fun _ h9 => h9) rfl (by decide +kernel) rfl rfl (Nat.le_of_ble_eq_true rfl) dX11_named_44 (fun H locs hP hD hS => ?_)
          obtain ⟨hP, hD⟩ : va_PD D A ((a_m, .inr (11, (.ref a_m_cutRows :: .ref a_m_cutColumns :: .ref a_m_deep :: .ref a_m_wide :: .ref a_m_zonesAhead :: .ref a_m_nameOne :: .ref a_m_nameOther :: .ref a_m_tape :: .int 0 :: .int 0 :: .int 0 :: .int m_number :: .int m_levelRead :: .int m_keyRead :: .int m_reads :: .int m_faults :: .int m_cutShort :: .int m_noNumber :: .long m_bottomLat :: .long m_bottomLon :: .ref a_m_edges :: .int m_firstBeside :: .int m_manyBeside :: .ref a_m_dist :: .ref a_m_queue :: .int m_queued :: .int m_boxLevel :: .int m_boxTop :: .int m_boxBottom :: .int m_boxWest :: .int m_boxEast :: .int m_isEarly :: .int m_pieces :: .int m_states :: .ref a_m_pieceLevel :: .ref a_m_pieceKey :: .ref a_m_pieceYear :: .int m_drawnNow :: .ref a_m_drawnKeys :: .ref a_m_kept :: .int m_keptAt :: .ref a_m_noNumbers :: []))) :: (a_m_cutRows, .inl (ci 0, 5, .inl m_cutRows)) :: (a_m_cutColumns, .inl (ci 0, 5, .inl m_cutColumns)) :: (a_m_deep, .inl (ci 0, 5, .inl m_deep)) :: (a_m_wide, .inl (ci 0, 5, .inl m_wide)) :: (a_m_zonesAhead, .inl (ci 0, 45, .inl m_zonesAhead)) :: (a_m_tape, .inl (ci 2, 200, .inl m_tape)) :: Rw) H := ⟨hP, hD⟩
          refine lv_aload_n (pc := 47) hx hb dX11_named_47 rfl (lv_at hl 0 rfl) ?_
          refine lv_iload_n (pc := 48) hx hb dX11_named_48 rfl (lv_at hl 1 rfl) ?_
          obtain ⟨v3, v4, v5, v6, v7, v8, hm49, hf⟩ := q_b6_e hf
          refine q_cV (pc := 49) (As := [.int p1]) (rest := []) (v0 := (some (.int v3))) ⟨hx, hb, hml, hown, hts⟩ hK hA hZ hP hD hS hl.1 [0, 1, 2, 3, 4, 5, 6] 7 rfl ⟨rfl, rfl, rfl⟩ (c_M_readsName l D ci A sa N (Rw) a_m a_m_cutRows a_m_cutColumns a_m_deep a_m_wide a_m_zonesAhead a_m_nameOne a_m_nameOther a_m_tape a_m_edges a_m_dist a_m_queue a_m_pieceLevel a_m_pieceKey a_m_pieceYear a_m_drawnKeys a_m_kept a_m_noNumbers 0 0 0 m_number m_levelRead m_keyRead m_reads m_faults m_cutShort m_noNumber m_bottomLat m_bottomLon m_firstBeside m_manyBeside m_queued m_boxLevel m_boxTop m_boxBottom m_boxWest m_boxEast m_isEarly m_pieces m_states m_drawnNow m_keptAt m_cutRows m_cutColumns m_deep m_wide m_zonesAhead m_tape p1 v3 v4 v5 v6 v7 v8 hm49) 0 rfl rfl (cwV 1 hts gX11_named_X11_readsName rfl rfl rfl (by decide +kernel) ⟨Nat.le_of_ble_eq_true rfl, Nat.le_of_ble_eq_true rfl⟩) rfl rfl (Nat.le_of_ble_eq_true rfl) dX11_named_49 ⟨Nat.zero_le _, Nat.zero_le _⟩ [0, 1, 2, 3, 4, 5, 6] 7 rfl ⟨rfl, rfl, rfl⟩ (fun H locs hP hD hS => ?_)
          obtain ⟨hP, hD⟩ : va_PD D A ((a_m, .inr (11, (.ref a_m_cutRows :: .ref a_m_cutColumns :: .ref a_m_deep :: .ref a_m_wide :: .ref a_m_zonesAhead :: .ref a_m_nameOne :: .ref a_m_nameOther :: .ref a_m_tape :: .int 0 :: .int v4 :: .int v5 :: .int v6 :: .int v7 :: .int v8 :: .int m_reads :: .int m_faults :: .int m_cutShort :: .int m_noNumber :: .long m_bottomLat :: .long m_bottomLon :: .ref a_m_edges :: .int m_firstBeside :: .int m_manyBeside :: .ref a_m_dist :: .ref a_m_queue :: .int m_queued :: .int m_boxLevel :: .int m_boxTop :: .int m_boxBottom :: .int m_boxWest :: .int m_boxEast :: .int m_isEarly :: .int m_pieces :: .int m_states :: .ref a_m_pieceLevel :: .ref a_m_pieceKey :: .ref a_m_pieceYear :: .int m_drawnNow :: .ref a_m_drawnKeys :: .ref a_m_kept :: .int m_keptAt :: .ref a_m_noNumbers :: []))) :: (a_m_cutRows, .inl (ci 0, 5, .inl m_cutRows)) :: (a_m_cutColumns, .inl (ci 0, 5, .inl m_cutColumns)) :: (a_m_deep, .inl (ci 0, 5, .inl m_deep)) :: (a_m_wide, .inl (ci 0, 5, .inl m_wide)) :: (a_m_zonesAhead, .inl (ci 0, 45, .inl m_zonesAhead)) :: (a_m_tape, .inl (ci 2, 200, .inl m_tape)) :: Rw) H := ⟨hP, hD⟩
          refine lv_istore_n (pc := 52) (lv' := [(3, .int v3), (0, .ref a_m), (1, .int p1), (2, .int p2)]) hx hb dX11_named_52 rfl hl (by decide) rfl (fun ls hl => ?_)
          refine lv_aload_n (pc := 53) hx hb dX11_named_53 rfl (lv_at hl 1 rfl) ?_
          refine lv_iload_n (pc := 54) hx hb dX11_named_54 rfl (lv_at hl 0 rfl) ?_
          refine lv_aload_n (pc := 55) hx hb dX11_named_55 rfl (lv_at hl 1 rfl) ?_
          refine va_get (pc := 56) (D := D) (ci := 11) (v := .int v5) (C := RX11) (T := TX11) (N := 42) hx hb hts hinX11 hown hK hP 0 rfl rfl 10 (by decide) w_4 (fun _ h9 => h9) rfl dX11_named_56 ?_
          refine lv_sipush (pc := 59) (v := (-1000)) hx hb dX11_named_59 (by decide) ?_
          refine lv_iload_n (pc := 62) hx hb dX11_named_62 rfl (lv_at hl 2 rfl) ?_
          refine lv_isub (pc := 63) hx hb dX11_named_63 ?_
          obtain ⟨k72, ek72, hf⟩ := q_j1_e hf
          have J72 : ∀ (v9 : Int32) (H : Heap) (locs : List Loc) (ls : Array Slot), k72 v9 = some (r, o1, o2, o3, o4, o5, o6, o7, o8, o9, o10) → va_P D vwCl ((a_m, .inr (11, (.ref a_m_cutRows :: .ref a_m_cutColumns :: .ref a_m_deep :: .ref a_m_wide :: .ref a_m_zonesAhead :: .ref a_m_nameOne :: .ref a_m_nameOther :: .ref a_m_tape :: .int 0 :: .int v4 :: .int v5 :: .int v6 :: .int v7 :: .int v8 :: .int m_reads :: .int m_faults :: .int m_cutShort :: .int m_noNumber :: .long m_bottomLat :: .long m_bottomLon :: .ref a_m_edges :: .int m_firstBeside :: .int m_manyBeside :: .ref a_m_dist :: .ref a_m_queue :: .int m_queued :: .int m_boxLevel :: .int m_boxTop :: .int m_boxBottom :: .int m_boxWest :: .int m_boxEast :: .int m_isEarly :: .int m_pieces :: .int m_states :: .ref a_m_pieceLevel :: .ref a_m_pieceKey :: .ref a_m_pieceYear :: .int m_drawnNow :: .ref a_m_drawnKeys :: .ref a_m_kept :: .int m_keptAt :: .ref a_m_noNumbers :: []))) :: (a_m_cutRows, .inl (ci 0, 5, .inl m_cutRows)) :: (a_m_cutColumns, .inl (ci 0, 5, .inl m_cutColumns)) :: (a_m_deep, .inl (ci 0, 5, .inl m_deep)) :: (a_m_wide, .inl (ci 0, 5, .inl m_wide)) :: (a_m_zonesAhead, .inl (ci 0, 45, .inl m_zonesAhead)) :: (a_m_tape, .inl (ci 2, 200, .inl m_tape)) :: Rw) H → va_D A ((a_m, .inr (11, (.ref a_m_cutRows :: .ref a_m_cutColumns :: .ref a_m_deep :: .ref a_m_wide :: .ref a_m_zonesAhead :: .ref a_m_nameOne :: .ref a_m_nameOther :: .ref a_m_tape :: .int 0 :: .int v4 :: .int v5 :: .int v6 :: .int v7 :: .int v8 :: .int m_reads :: .int m_faults :: .int m_cutShort :: .int m_noNumber :: .long m_bottomLat :: .long m_bottomLon :: .ref a_m_edges :: .int m_firstBeside :: .int m_manyBeside :: .ref a_m_dist :: .ref a_m_queue :: .int m_queued :: .int m_boxLevel :: .int m_boxTop :: .int m_boxBottom :: .int m_boxWest :: .int m_boxEast :: .int m_isEarly :: .int m_pieces :: .int m_states :: .ref a_m_pieceLevel :: .ref a_m_pieceKey :: .ref a_m_pieceYear :: .int m_drawnNow :: .ref a_m_drawnKeys :: .ref a_m_kept :: .int m_keptAt :: .ref a_m_noNumbers :: []))) :: (a_m_cutRows, .inl (ci 0, 5, .inl m_cutRows)) :: (a_m_cutColumns, .inl (ci 0, 5, .inl m_cutColumns)) :: (a_m_deep, .inl (ci 0, 5, .inl m_deep)) :: (a_m_wide, .inl (ci 0, 5, .inl m_wide)) :: (a_m_zonesAhead, .inl (ci 0, 45, .inl m_zonesAhead)) :: (a_m_tape, .inl (ci 2, 200, .inl m_tape)) :: Rw) → va_S A s.heap H locs → lv_has ls 4 [(0, .ref a_m), (2, .int p2)] → W p l e ({ frames := 4, cells := 0, slots := 0, locals := 93 } : Room) s m ([.ref a_m, .int p1, .int p2] : List Value).toArray below meth c H locs 0 0 Q (F0 m 72 ls [.int v9, .int v3, .ref a_m]) := by
            intro v9 H locs ls hf hP hD hS hl
            have hf := (ek72 v9).symm.trans hf
            obtain ⟨v10, v11, v12, v13, v14, hm72, hf⟩ := q_b5_e hf
            refine q_cV (pc := 72) (As := [.int v3, .int v9]) (rest := []) (v0 := (some (.int v10))) ⟨hx, hb, hml, hown, hts⟩ hK hA hZ hP hD hS hl.1 [0, 1, 2, 3, 4, 5, 6] 7 rfl ⟨rfl, rfl, rfl⟩ (c_M_counted l D ci A sa N ((a_m_cutRows, .inl (ci 0, 5, .inl m_cutRows)) :: (a_m_cutColumns, .inl (ci 0, 5, .inl m_cutColumns)) :: (a_m_deep, .inl (ci 0, 5, .inl m_deep)) :: (a_m_wide, .inl (ci 0, 5, .inl m_wide)) :: (a_m_zonesAhead, .inl (ci 0, 45, .inl m_zonesAhead)) :: (a_m_tape, .inl (ci 2, 200, .inl m_tape)) :: Rw) a_m a_m_cutRows a_m_cutColumns a_m_deep a_m_wide a_m_zonesAhead a_m_nameOne a_m_nameOther a_m_tape a_m_edges a_m_dist a_m_queue a_m_pieceLevel a_m_pieceKey a_m_pieceYear a_m_drawnKeys a_m_kept a_m_noNumbers 0 v4 v5 v6 v7 v8 m_reads m_faults m_cutShort m_noNumber m_bottomLat m_bottomLon m_firstBeside m_manyBeside m_queued m_boxLevel m_boxTop m_boxBottom m_boxWest m_boxEast m_isEarly m_pieces m_states m_drawnNow m_keptAt v3 v9 v10 v11 v12 v13 v14 hm72) 0 rfl rfl (cwV 2 hts gX11_named_X11_counted rfl rfl rfl (by decide +kernel) ⟨Nat.le_of_ble_eq_true rfl, Nat.le_of_ble_eq_true rfl⟩) rfl rfl (Nat.le_of_ble_eq_true rfl) dX11_named_72 ⟨Nat.zero_le _, Nat.zero_le _⟩ [0, 1, 2, 3, 4, 5, 6] 7 rfl ⟨rfl, rfl, rfl⟩ (fun H locs hP hD hS => ?_)
            obtain ⟨hP, hD⟩ : va_PD D A ((a_m, .inr (11, (.ref a_m_cutRows :: .ref a_m_cutColumns :: .ref a_m_deep :: .ref a_m_wide :: .ref a_m_zonesAhead :: .ref a_m_nameOne :: .ref a_m_nameOther :: .ref a_m_tape :: .int 0 :: .int v4 :: .int v5 :: .int v6 :: .int v7 :: .int v8 :: .int v11 :: .int v12 :: .int v13 :: .int v14 :: .long m_bottomLat :: .long m_bottomLon :: .ref a_m_edges :: .int m_firstBeside :: .int m_manyBeside :: .ref a_m_dist :: .ref a_m_queue :: .int m_queued :: .int m_boxLevel :: .int m_boxTop :: .int m_boxBottom :: .int m_boxWest :: .int m_boxEast :: .int m_isEarly :: .int m_pieces :: .int m_states :: .ref a_m_pieceLevel :: .ref a_m_pieceKey :: .ref a_m_pieceYear :: .int m_drawnNow :: .ref a_m_drawnKeys :: .ref a_m_kept :: .int m_keptAt :: .ref a_m_noNumbers :: []))) :: (a_m_cutRows, .inl (ci 0, 5, .inl m_cutRows)) :: (a_m_cutColumns, .inl (ci 0, 5, .inl m_cutColumns)) :: (a_m_deep, .inl (ci 0, 5, .inl m_deep)) :: (a_m_wide, .inl (ci 0, 5, .inl m_wide)) :: (a_m_zonesAhead, .inl (ci 0, 45, .inl m_zonesAhead)) :: (a_m_tape, .inl (ci 2, 200, .inl m_tape)) :: Rw) H := ⟨hP, hD⟩
            refine q_if_ne (pc := 75) (tgt := 83) hx hb dX11_named_75 (by decide) rfl hf (fun hf => ?_) (fun hf => ?_)
            · refine lv_iload_n (pc := 83) hx hb dX11_named_83 rfl (lv_at hl 1 rfl) ?_
              refine q_if_ne (pc := 84) (tgt := 94) hx hb dX11_named_84 (by decide) rfl hf (fun hf => ?_) (fun hf => ?_)
              · refine lv_aload_n (pc := 94) hx hb dX11_named_94 rfl (lv_at hl 0 rfl) ?_
                refine va_get (pc := 95) (D := D) (ci := 11) (v := .int v8) (C := RX11) (T := TX11) (N := 42) hx hb hts hinX11 hown hK hP 0 rfl rfl 13 (by decide) w_6 (fun _ h9 => h9) rfl dX11_named_95 ?_
                obtain ⟨e90, e91, e92, e93, e94, e95, e96, e97, e98, e99, e910⟩ := q_inj11 (Option.some.inj hf)
                rw [hQ, ← e90, ← e91, ← e92, ← e93, ← e94, ← e95, ← e96, ← e97, ← e98, ← e99, ← e910]
                exact q_iret (pc := 98) hx hb hr hlocks hP hD hS dX11_named_98
              · refine lv_aload_n (pc := 87) hx hb dX11_named_87 rfl (lv_at hl 0 rfl) ?_
                refine va_get (pc := 88) (D := D) (ci := 11) (v := .int v7) (C := RX11) (T := TX11) (N := 42) hx hb hts hinX11 hown hK hP 0 rfl rfl 12 (by decide) w_5 (fun _ h9 => h9) rfl dX11_named_88 ?_
                refine lv_goto (pc := 91) (tgt := 98) hx hb dX11_named_91 (by decide) ?_
                obtain ⟨e90, e91, e92, e93, e94, e95, e96, e97, e98, e99, e910⟩ := q_inj11 (Option.some.inj hf)
                rw [hQ, ← e90, ← e91, ← e92, ← e93, ← e94, ← e95, ← e96, ← e97, ← e98, ← e99, ← e910]
                exact q_iret (pc := 98) hx hb hr hlocks hP hD hS dX11_named_98
            · refine lv_aload_n (pc := 78) hx hb dX11_named_78 rfl (lv_at hl 0 rfl) ?_
              refine va_get (pc := 79) (D := D) (ci := 11) (v := .int v5) (C := RX11) (T := TX11) (N := 42) hx hb hts hinX11 hown hK hP 0 rfl rfl 10 (by decide) w_4 (fun _ h9 => h9) rfl dX11_named_79 ?_
              obtain ⟨e90, e91, e92, e93, e94, e95, e96, e97, e98, e99, e910⟩ := q_inj11 (Option.some.inj hf)
              rw [hQ, ← e90, ← e91, ← e92, ← e93, ← e94, ← e95, ← e96, ← e97, ← e98, ← e99, ← e910]
              exact q_iret (pc := 82) hx hb hr hlocks hP hD hS dX11_named_82
          refine q_icmp_ne (pc := 64) (tgt := 71) hx hb dX11_named_64 (by decide) rfl hf (fun hf => ?_) (fun hf => ?_)
          · refine lv_iconst (pc := 71) (v := 0) hx hb dX11_named_71 (by decide) ?_
            exact J72 0 _ _ _ hf hP hD hS (lv_sub hl [1, 3] rfl)
          · refine lv_iconst (pc := 67) (v := 1) hx hb dX11_named_67 (by decide) ?_
            refine lv_goto (pc := 68) (tgt := 72) hx hb dX11_named_68 (by decide) ?_
            exact J72 1 _ _ _ hf hP hD hS (lv_sub hl [1, 3] rfl)
        · refine lv_iconst (pc := 30) (v := (-1)) hx hb dX11_named_30 (by decide) ?_
          obtain ⟨e90, e91, e92, e93, e94, e95, e96, e97, e98, e99, e910⟩ := q_inj11 (Option.some.inj hf)
          rw [hQ, ← e90, ← e91, ← e92, ← e93, ← e94, ← e95, ← e96, ← e97, ← e98, ← e99, ← e910]
          exact q_iret (pc := 31) hx hb hr hlocks hP hD hS dX11_named_31
  exact hgo _ _ rfl hP hS
/-! X11_nearer -/
set_option maxRecDepth 100000 in
set_option maxHeartbeats 4000000 in
theorem c_M_nearer (l : Launch) (D : va_G) (ci : Nat → ClassId) (A : Nat → Prop) (sa : Nat → Nat) (N : Nat) (Rw : va_W) (a_m : Nat) (a_m_cutRows : Nat) (a_m_cutColumns : Nat) (a_m_deep : Nat) (a_m_wide : Nat) (a_m_zonesAhead : Nat) (a_m_nameOne : Nat) (a_m_nameOther : Nat) (a_m_tape : Nat) (a_m_edges : Nat) (a_m_dist : Nat) (a_m_queue : Nat) (a_m_pieceLevel : Nat) (a_m_pieceKey : Nat) (a_m_pieceYear : Nat) (a_m_drawnKeys : Nat) (a_m_kept : Nat) (a_m_noNumbers : Nat) (m_taped : Int32) (m_place : Int32) (m_fault : Int32) (m_number : Int32) (m_levelRead : Int32) (m_keyRead : Int32) (m_reads : Int32) (m_faults : Int32) (m_cutShort : Int32) (m_noNumber : Int32) (m_bottomLat : Int64) (m_bottomLon : Int64) (m_firstBeside : Int32) (m_manyBeside : Int32) (m_queued : Int32) (m_boxLevel : Int32) (m_boxTop : Int32) (m_boxBottom : Int32) (m_boxWest : Int32) (m_boxEast : Int32) (m_isEarly : Int32) (m_pieces : Int32) (m_states : Int32) (m_drawnNow : Int32) (m_keptAt : Int32) (m_deep : Nat → Int32) (m_wide : Nat → Int32) (m_zonesAhead : Nat → Int32) (m_dist : Nat → Int32) (p1 : Int32) (p2 : Int32) (r : Int32) (o1 : Int32) (o2 : Int32) (hf : f_M_nearer N m_deep m_wide m_zonesAhead m_firstBeside m_manyBeside m_dist p1 p2 = some (r, o1, o2)) : Met l yX11_nearer wsX11_nearer ({ frames := 5, cells := 0, slots := 0, locals := 121 }) (va_Pc [.ref a_m, .int p1, .int p2] (q_N D ci A sa ((a_m, .inr (11, (.ref a_m_cutRows :: .ref a_m_cutColumns :: .ref a_m_deep :: .ref a_m_wide :: .ref a_m_zonesAhead :: .ref a_m_nameOne :: .ref a_m_nameOther :: .ref a_m_tape :: .int m_taped :: .int m_place :: .int m_fault :: .int m_number :: .int m_levelRead :: .int m_keyRead :: .int m_reads :: .int m_faults :: .int m_cutShort :: .int m_noNumber :: .long m_bottomLat :: .long m_bottomLon :: .ref a_m_edges :: .int m_firstBeside :: .int m_manyBeside :: .ref a_m_dist :: .ref a_m_queue :: .int m_queued :: .int m_boxLevel :: .int m_boxTop :: .int m_boxBottom :: .int m_boxWest :: .int m_boxEast :: .int m_isEarly :: .int m_pieces :: .int m_states :: .ref a_m_pieceLevel :: .ref a_m_pieceKey :: .ref a_m_pieceYear :: .int m_drawnNow :: .ref a_m_drawnKeys :: .ref a_m_kept :: .int m_keptAt :: .ref a_m_noNumbers :: []))) :: (a_m_deep, .inl (ci 0, 5, .inl m_deep)) :: (a_m_wide, .inl (ci 0, 5, .inl m_wide)) :: (a_m_zonesAhead, .inl (ci 0, 45, .inl m_zonesAhead)) :: (a_m_dist, .inl (ci 0, 20000, .inl m_dist)) :: Rw))) (q_Q (some (.int r)) (q_O D A ((a_m, .inr (11, (.ref a_m_cutRows :: .ref a_m_cutColumns :: .ref a_m_deep :: .ref a_m_wide :: .ref a_m_zonesAhead :: .ref a_m_nameOne :: .ref a_m_nameOther :: .ref a_m_tape :: .int m_taped :: .int m_place :: .int m_fault :: .int m_number :: .int m_levelRead :: .int m_keyRead :: .int m_reads :: .int m_faults :: .int m_cutShort :: .int m_noNumber :: .long m_bottomLat :: .long m_bottomLon :: .ref a_m_edges :: .int o1 :: .int o2 :: .ref a_m_dist :: .ref a_m_queue :: .int m_queued :: .int m_boxLevel :: .int m_boxTop :: .int m_boxBottom :: .int m_boxWest :: .int m_boxEast :: .int m_isEarly :: .int m_pieces :: .int m_states :: .ref a_m_pieceLevel :: .ref a_m_pieceKey :: .ref a_m_pieceYear :: .int m_drawnNow :: .ref a_m_drawnKeys :: .ref a_m_kept :: .int m_keptAt :: .ref a_m_noNumbers :: []))) :: (a_m_deep, .inl (ci 0, 5, .inl m_deep)) :: (a_m_wide, .inl (ci 0, 5, .inl m_wide)) :: (a_m_zonesAhead, .inl (ci 0, 45, .inl m_zonesAhead)) :: (a_m_dist, .inl (ci 0, 20000, .inl m_dist)) :: Rw)) A) 0 0 A := by
  refine q_ofW (cc := cX11_nearer) (maxL := 7) (ret := (some .int)) [.ref a_m, .int p1, .int p2] (plainFor_of_name (by decide)) rfl (Nat.le_of_ble_eq_true rfl) ?_
  intro p e s m below meth c ls Q hQ hx hb hml hr hts hown hlocks hK hA hZ hP hD hS hl
  have hl : lv_has ls 7 [(0, .ref a_m), (1, .int p1), (2, .int p2)] := hl
  have hown : s.vm.findClass RX11 = some m.cls := hown
  have hinX11 : ∀ w ∈ wsX110, w ∈ wsX11_nearer := fun _ h => List.mem_cons_of_mem _ (inWX110 _ h)
  have w_1 := hts (Cond.fieldLink RX11 257 "SheetNamesModel" "manyBeside" "I") (List.mem_cons_of_mem _ t_w911)
  have w_2 := hts (Cond.fieldLink RX11 260 "SheetNamesModel" "firstBeside" "I") (List.mem_cons_of_mem _ t_w912)
  have w_3 := hts (Cond.fieldLink RX11 39 "SheetNamesModel" "dist" "[I") (List.mem_cons_of_mem _ t_w953)
  unfold f_M_nearer at hf
  have hgo : ∀ (H : Heap) (locs : List Loc), H = s.heap → va_P D vwCl ((a_m, .inr (11, (.ref a_m_cutRows :: .ref a_m_cutColumns :: .ref a_m_deep :: .ref a_m_wide :: .ref a_m_zonesAhead :: .ref a_m_nameOne :: .ref a_m_nameOther :: .ref a_m_tape :: .int m_taped :: .int m_place :: .int m_fault :: .int m_number :: .int m_levelRead :: .int m_keyRead :: .int m_reads :: .int m_faults :: .int m_cutShort :: .int m_noNumber :: .long m_bottomLat :: .long m_bottomLon :: .ref a_m_edges :: .int m_firstBeside :: .int m_manyBeside :: .ref a_m_dist :: .ref a_m_queue :: .int m_queued :: .int m_boxLevel :: .int m_boxTop :: .int m_boxBottom :: .int m_boxWest :: .int m_boxEast :: .int m_isEarly :: .int m_pieces :: .int m_states :: .ref a_m_pieceLevel :: .ref a_m_pieceKey :: .ref a_m_pieceYear :: .int m_drawnNow :: .ref a_m_drawnKeys :: .ref a_m_kept :: .int m_keptAt :: .ref a_m_noNumbers :: []))) :: (a_m_deep, .inl (ci 0, 5, .inl m_deep)) :: (a_m_wide, .inl (ci 0, 5, .inl m_wide)) :: (a_m_zonesAhead, .inl (ci 0, 45, .inl m_zonesAhead)) :: (a_m_dist, .inl (ci 0, 20000, .inl m_dist)) :: Rw) H → va_S A s.heap H locs → W p l e ({ frames := 5, cells := 0, slots := 0, locals := 121 } : Room) s m ([.ref a_m, .int p1, .int p2] : List Value).toArray below meth c H locs 0 0 Q (F0 m 0 ls []) := by
    intro H locs hH hP hS
    refine lv_iconst (pc := 0) (v := (-1)) hx hb dX11_nearer_0 (by decide) ?_
    obtain ⟨v1, ev1, hf⟩ := q_nm_e hf
    refine q_topi ev1 ?_
    refine lv_istore_n (pc := 1) (lv' := [(3, .int v1), (0, .ref a_m), (1, .int p1), (2, .int p2)]) hx hb dX11_nearer_1 rfl hl (by decide) rfl (fun ls hl => ?_)
    refine lv_iconst (pc := 2) (v := 0) hx hb dX11_nearer_2 (by decide) ?_
    obtain ⟨v2, ev2, hf⟩ := q_nm_e hf
    refine q_topi ev2 ?_
    refine lv_istore (pc := 3) (lv' := [(4, .int v2), (3, .int v1), (0, .ref a_m), (1, .int p1), (2, .int p2)]) hx hb dX11_nearer_3 hl (by decide) rfl (fun ls hl => ?_)
    obtain ⟨v7, v8, v9, hm5, hf⟩ := q_b3_e hf
    have JE5 : ∀ (H : Heap) (locs : List Loc) (ls : Array Slot), va_P D vwCl ((a_m, .inr (11, (.ref a_m_cutRows :: .ref a_m_cutColumns :: .ref a_m_deep :: .ref a_m_wide :: .ref a_m_zonesAhead :: .ref a_m_nameOne :: .ref a_m_nameOther :: .ref a_m_tape :: .int m_taped :: .int m_place :: .int m_fault :: .int m_number :: .int m_levelRead :: .int m_keyRead :: .int m_reads :: .int m_faults :: .int m_cutShort :: .int m_noNumber :: .long m_bottomLat :: .long m_bottomLon :: .ref a_m_edges :: .int v8 :: .int v9 :: .ref a_m_dist :: .ref a_m_queue :: .int m_queued :: .int m_boxLevel :: .int m_boxTop :: .int m_boxBottom :: .int m_boxWest :: .int m_boxEast :: .int m_isEarly :: .int m_pieces :: .int m_states :: .ref a_m_pieceLevel :: .ref a_m_pieceKey :: .ref a_m_pieceYear :: .int m_drawnNow :: .ref a_m_drawnKeys :: .ref a_m_kept :: .int m_keptAt :: .ref a_m_noNumbers :: []))) :: (a_m_deep, .inl (ci 0, 5, .inl m_deep)) :: (a_m_wide, .inl (ci 0, 5, .inl m_wide)) :: (a_m_zonesAhead, .inl (ci 0, 45, .inl m_zonesAhead)) :: (a_m_dist, .inl (ci 0, 20000, .inl m_dist)) :: Rw) H → va_D A ((a_m, .inr (11, (.ref a_m_cutRows :: .ref a_m_cutColumns :: .ref a_m_deep :: .ref a_m_wide :: .ref a_m_zonesAhead :: .ref a_m_nameOne :: .ref a_m_nameOther :: .ref a_m_tape :: .int m_taped :: .int m_place :: .int m_fault :: .int m_number :: .int m_levelRead :: .int m_keyRead :: .int m_reads :: .int m_faults :: .int m_cutShort :: .int m_noNumber :: .long m_bottomLat :: .long m_bottomLon :: .ref a_m_edges :: .int v8 :: .int v9 :: .ref a_m_dist :: .ref a_m_queue :: .int m_queued :: .int m_boxLevel :: .int m_boxTop :: .int m_boxBottom :: .int m_boxWest :: .int m_boxEast :: .int m_isEarly :: .int m_pieces :: .int m_states :: .ref a_m_pieceLevel :: .ref a_m_pieceKey :: .ref a_m_pieceYear :: .int m_drawnNow :: .ref a_m_drawnKeys :: .ref a_m_kept :: .int m_keptAt :: .ref a_m_noNumbers :: []))) :: (a_m_deep, .inl (ci 0, 5, .inl m_deep)) :: (a_m_wide, .inl (ci 0, 5, .inl m_wide)) :: (a_m_zonesAhead, .inl (ci 0, 45, .inl m_zonesAhead)) :: (a_m_dist, .inl (ci 0, 20000, .inl m_dist)) :: Rw) → va_S A s.heap H locs → lv_has ls 7 [(3, .int v7)] → W p l e ({ frames := 5, cells := 0, slots := 0, locals := 121 } : Room) s m ([.ref a_m, .int p1, .int p2] : List Value).toArray below meth c H locs 0 0 Q (F0 m 84 ls []) := by
      intro H locs ls hP hD hS hl
      refine lv_iload_n (pc := 84) hx hb dX11_nearer_84 rfl (lv_at hl 0 rfl) ?_
      obtain ⟨e90, e91, e92⟩ := q_inj3 (Option.some.inj hf)
      rw [hQ, ← e90, ← e91, ← e92]
      exact q_iret (pc := 85) hx hb hr hlocks hP hD hS dX11_nearer_85
    have LP5 : ∀ (n5 : Nat) (v3 : Int32) (v4 : Int32) (v5 : Int32) (v6 : Int32) (H : Heap) (locs : List Loc) (ls : Array Slot), f_M_nearer_L5 N m_deep m_dist m_wide m_zonesAhead p1 p2 n5 v3 v4 v5 v6 = some (v7, v8, v9) → va_P D vwCl ((a_m, .inr (11, (.ref a_m_cutRows :: .ref a_m_cutColumns :: .ref a_m_deep :: .ref a_m_wide :: .ref a_m_zonesAhead :: .ref a_m_nameOne :: .ref a_m_nameOther :: .ref a_m_tape :: .int m_taped :: .int m_place :: .int m_fault :: .int m_number :: .int m_levelRead :: .int m_keyRead :: .int m_reads :: .int m_faults :: .int m_cutShort :: .int m_noNumber :: .long m_bottomLat :: .long m_bottomLon :: .ref a_m_edges :: .int v5 :: .int v6 :: .ref a_m_dist :: .ref a_m_queue :: .int m_queued :: .int m_boxLevel :: .int m_boxTop :: .int m_boxBottom :: .int m_boxWest :: .int m_boxEast :: .int m_isEarly :: .int m_pieces :: .int m_states :: .ref a_m_pieceLevel :: .ref a_m_pieceKey :: .ref a_m_pieceYear :: .int m_drawnNow :: .ref a_m_drawnKeys :: .ref a_m_kept :: .int m_keptAt :: .ref a_m_noNumbers :: []))) :: (a_m_deep, .inl (ci 0, 5, .inl m_deep)) :: (a_m_wide, .inl (ci 0, 5, .inl m_wide)) :: (a_m_zonesAhead, .inl (ci 0, 45, .inl m_zonesAhead)) :: (a_m_dist, .inl (ci 0, 20000, .inl m_dist)) :: Rw) H → va_D A ((a_m, .inr (11, (.ref a_m_cutRows :: .ref a_m_cutColumns :: .ref a_m_deep :: .ref a_m_wide :: .ref a_m_zonesAhead :: .ref a_m_nameOne :: .ref a_m_nameOther :: .ref a_m_tape :: .int m_taped :: .int m_place :: .int m_fault :: .int m_number :: .int m_levelRead :: .int m_keyRead :: .int m_reads :: .int m_faults :: .int m_cutShort :: .int m_noNumber :: .long m_bottomLat :: .long m_bottomLon :: .ref a_m_edges :: .int v5 :: .int v6 :: .ref a_m_dist :: .ref a_m_queue :: .int m_queued :: .int m_boxLevel :: .int m_boxTop :: .int m_boxBottom :: .int m_boxWest :: .int m_boxEast :: .int m_isEarly :: .int m_pieces :: .int m_states :: .ref a_m_pieceLevel :: .ref a_m_pieceKey :: .ref a_m_pieceYear :: .int m_drawnNow :: .ref a_m_drawnKeys :: .ref a_m_kept :: .int m_keptAt :: .ref a_m_noNumbers :: []))) :: (a_m_deep, .inl (ci 0, 5, .inl m_deep)) :: (a_m_wide, .inl (ci 0, 5, .inl m_wide)) :: (a_m_zonesAhead, .inl (ci 0, 45, .inl m_zonesAhead)) :: (a_m_dist, .inl (ci 0, 20000, .inl m_dist)) :: Rw) → va_S A s.heap H locs → lv_has ls 7 [(0, .ref a_m), (1, .int p1), (2, .int p2), (3, .int v3), (4, .int v4)] → W p l e ({ frames := 5, cells := 0, slots := 0, locals := 121 } : Room) s m ([.ref a_m, .int p1, .int p2] : List Value).toArray below meth c H locs 0 0 Q (F0 m 5 ls []) := by
      intro n5
      induction n5 with
      | zero => intro v3 v4 v5 v6 H locs ls hf; rw [f_M_nearer_L5] at hf; cases hf
      | succ n5 ih5 =>
        intro v3 v4 v5 v6 H locs ls hf hP hD hS hl
        rw [f_M_nearer_L5] at hf
        refine lv_iload (pc := 5) hx hb dX11_nearer_5 (lv_at hl 4 rfl) ?_
        refine lv_iconst (pc := 7) (v := 4) hx hb dX11_nearer_7 (by decide) ?_
        refine q_icmp_ge (pc := 8) (tgt := 84) hx hb dX11_nearer_8 (by decide) rfl hf (fun hf => ?_) (fun hf => ?_)
        · obtain ⟨rfl, rfl, rfl⟩ := q_inj3 (Option.some.inj hf)
          exact JE5 _ _ _ hP hD hS (lv_sub hl [3] rfl)
        · refine lv_aload_n (pc := 11) hx hb dX11_nearer_11 rfl (lv_at hl 0 rfl) ?_
          refine lv_iload_n (pc := 12) hx hb dX11_nearer_12 rfl (lv_at hl 1 rfl) ?_
          refine lv_iload_n (pc := 13) hx hb dX11_nearer_13 rfl (lv_at hl 2 rfl) ?_
          refine lv_iload (pc := 14) hx hb dX11_nearer_14 (lv_at hl 4 rfl) ?_
          obtain ⟨v10, v11, hm16, hf⟩ := q_b2_e hf
          refine q_cV (pc := 16) (As := [.int p1, .int p2, .int v4]) (rest := []) (v0 := none) ⟨hx, hb, hml, hown, hts⟩ hK hA hZ hP hD hS hl.1 [0, 1, 2, 3, 4] 5 rfl ⟨rfl, rfl, rfl⟩ (c_M_laysBeside l D ci A sa N ((a_m_dist, .inl (ci 0, 20000, .inl m_dist)) :: Rw) a_m a_m_cutRows a_m_cutColumns a_m_deep a_m_wide a_m_zonesAhead a_m_nameOne a_m_nameOther a_m_tape a_m_edges a_m_dist a_m_queue a_m_pieceLevel a_m_pieceKey a_m_pieceYear a_m_drawnKeys a_m_kept a_m_noNumbers m_taped m_place m_fault m_number m_levelRead m_keyRead m_reads m_faults m_cutShort m_noNumber m_bottomLat m_bottomLon v5 v6 m_queued m_boxLevel m_boxTop m_boxBottom m_boxWest m_boxEast m_isEarly m_pieces m_states m_drawnNow m_keptAt m_deep m_wide m_zonesAhead p1 p2 v4 v10 v11 hm16) 0 rfl rfl (cwV 3 hts gX11_nearer_X11_laysBeside rfl rfl rfl (by decide +kernel) ⟨Nat.le_of_ble_eq_true rfl, Nat.le_of_ble_eq_true rfl⟩) rfl rfl (Nat.le_of_ble_eq_true rfl) dX11_nearer_16 ⟨Nat.zero_le _, Nat.zero_le _⟩ [0, 1, 2, 3, 4] 5 rfl ⟨rfl, rfl, rfl⟩ (fun H locs hP hD hS => ?_)
          obtain ⟨hP, hD⟩ : va_PD D A ((a_m, .inr (11, (.ref a_m_cutRows :: .ref a_m_cutColumns :: .ref a_m_deep :: .ref a_m_wide :: .ref a_m_zonesAhead :: .ref a_m_nameOne :: .ref a_m_nameOther :: .ref a_m_tape :: .int m_taped :: .int m_place :: .int m_fault :: .int m_number :: .int m_levelRead :: .int m_keyRead :: .int m_reads :: .int m_faults :: .int m_cutShort :: .int m_noNumber :: .long m_bottomLat :: .long m_bottomLon :: .ref a_m_edges :: .int v10 :: .int v11 :: .ref a_m_dist :: .ref a_m_queue :: .int m_queued :: .int m_boxLevel :: .int m_boxTop :: .int m_boxBottom :: .int m_boxWest :: .int m_boxEast :: .int m_isEarly :: .int m_pieces :: .int m_states :: .ref a_m_pieceLevel :: .ref a_m_pieceKey :: .ref a_m_pieceYear :: .int m_drawnNow :: .ref a_m_drawnKeys :: .ref a_m_kept :: .int m_keptAt :: .ref a_m_noNumbers :: []))) :: (a_m_deep, .inl (ci 0, 5, .inl m_deep)) :: (a_m_wide, .inl (ci 0, 5, .inl m_wide)) :: (a_m_zonesAhead, .inl (ci 0, 45, .inl m_zonesAhead)) :: (a_m_dist, .inl (ci 0, 20000, .inl m_dist)) :: Rw) H := ⟨hP, hD⟩
          refine lv_iconst (pc := 19) (v := 0) hx hb dX11_nearer_19 (by decide) ?_
          obtain ⟨v12, ev12, hf⟩ := q_nm_e hf
          refine q_topi ev12 ?_
          refine lv_istore (pc := 20) (lv' := [(5, .int v12), (0, .ref a_m), (1, .int p1), (2, .int p2), (3, .int v3), (4, .int v4)]) hx hb dX11_nearer_20 hl (by decide) rfl (fun ls hl => ?_)
          obtain ⟨v15, hm22, hf⟩ := q_b1_e hf
          have JE22 : ∀ (H : Heap) (locs : List Loc) (ls : Array Slot), va_P D vwCl ((a_m, .inr (11, (.ref a_m_cutRows :: .ref a_m_cutColumns :: .ref a_m_deep :: .ref a_m_wide :: .ref a_m_zonesAhead :: .ref a_m_nameOne :: .ref a_m_nameOther :: .ref a_m_tape :: .int m_taped :: .int m_place :: .int m_fault :: .int m_number :: .int m_levelRead :: .int m_keyRead :: .int m_reads :: .int m_faults :: .int m_cutShort :: .int m_noNumber :: .long m_bottomLat :: .long m_bottomLon :: .ref a_m_edges :: .int v10 :: .int v11 :: .ref a_m_dist :: .ref a_m_queue :: .int m_queued :: .int m_boxLevel :: .int m_boxTop :: .int m_boxBottom :: .int m_boxWest :: .int m_boxEast :: .int m_isEarly :: .int m_pieces :: .int m_states :: .ref a_m_pieceLevel :: .ref a_m_pieceKey :: .ref a_m_pieceYear :: .int m_drawnNow :: .ref a_m_drawnKeys :: .ref a_m_kept :: .int m_keptAt :: .ref a_m_noNumbers :: []))) :: (a_m_deep, .inl (ci 0, 5, .inl m_deep)) :: (a_m_wide, .inl (ci 0, 5, .inl m_wide)) :: (a_m_zonesAhead, .inl (ci 0, 45, .inl m_zonesAhead)) :: (a_m_dist, .inl (ci 0, 20000, .inl m_dist)) :: Rw) H → va_D A ((a_m, .inr (11, (.ref a_m_cutRows :: .ref a_m_cutColumns :: .ref a_m_deep :: .ref a_m_wide :: .ref a_m_zonesAhead :: .ref a_m_nameOne :: .ref a_m_nameOther :: .ref a_m_tape :: .int m_taped :: .int m_place :: .int m_fault :: .int m_number :: .int m_levelRead :: .int m_keyRead :: .int m_reads :: .int m_faults :: .int m_cutShort :: .int m_noNumber :: .long m_bottomLat :: .long m_bottomLon :: .ref a_m_edges :: .int v10 :: .int v11 :: .ref a_m_dist :: .ref a_m_queue :: .int m_queued :: .int m_boxLevel :: .int m_boxTop :: .int m_boxBottom :: .int m_boxWest :: .int m_boxEast :: .int m_isEarly :: .int m_pieces :: .int m_states :: .ref a_m_pieceLevel :: .ref a_m_pieceKey :: .ref a_m_pieceYear :: .int m_drawnNow :: .ref a_m_drawnKeys :: .ref a_m_kept :: .int m_keptAt :: .ref a_m_noNumbers :: []))) :: (a_m_deep, .inl (ci 0, 5, .inl m_deep)) :: (a_m_wide, .inl (ci 0, 5, .inl m_wide)) :: (a_m_zonesAhead, .inl (ci 0, 45, .inl m_zonesAhead)) :: (a_m_dist, .inl (ci 0, 20000, .inl m_dist)) :: Rw) → va_S A s.heap H locs → lv_has ls 7 [(0, .ref a_m), (1, .int p1), (2, .int p2), (3, .int v15), (4, .int v4)] → W p l e ({ frames := 5, cells := 0, slots := 0, locals := 121 } : Room) s m ([.ref a_m, .int p1, .int p2] : List Value).toArray below meth c H locs 0 0 Q (F0 m 78 ls []) := by
            intro H locs ls hP hD hS hl
            obtain ⟨v16, ev16, hf⟩ := q_nm_e hf
            refine lv_iinc (pc := 78) (v := v16) (lv' := [(4, .int v16), (0, .ref a_m), (1, .int p1), (2, .int p2), (3, .int v15)]) hx hb dX11_nearer_78 hl (k := 4) rfl (by rw [ev16]; rfl) (by decide) rfl (fun ls hl => ?_)
            refine lv_goto (pc := 81) (tgt := 5) hx hb dX11_nearer_81 (by decide) ?_
            exact ih5 v15 v16 v10 v11 _ _ _ hf hP hD hS (lv_sub hl [1, 2, 3, 4, 0] rfl)
          have LP22 : ∀ (n22 : Nat) (v13 : Int32) (v14 : Int32) (H : Heap) (locs : List Loc) (ls : Array Slot), f_M_nearer_L22 m_dist p2 v10 v11 n22 v13 v14 = some v15 → va_P D vwCl ((a_m, .inr (11, (.ref a_m_cutRows :: .ref a_m_cutColumns :: .ref a_m_deep :: .ref a_m_wide :: .ref a_m_zonesAhead :: .ref a_m_nameOne :: .ref a_m_nameOther :: .ref a_m_tape :: .int m_taped :: .int m_place :: .int m_fault :: .int m_number :: .int m_levelRead :: .int m_keyRead :: .int m_reads :: .int m_faults :: .int m_cutShort :: .int m_noNumber :: .long m_bottomLat :: .long m_bottomLon :: .ref a_m_edges :: .int v10 :: .int v11 :: .ref a_m_dist :: .ref a_m_queue :: .int m_queued :: .int m_boxLevel :: .int m_boxTop :: .int m_boxBottom :: .int m_boxWest :: .int m_boxEast :: .int m_isEarly :: .int m_pieces :: .int m_states :: .ref a_m_pieceLevel :: .ref a_m_pieceKey :: .ref a_m_pieceYear :: .int m_drawnNow :: .ref a_m_drawnKeys :: .ref a_m_kept :: .int m_keptAt :: .ref a_m_noNumbers :: []))) :: (a_m_deep, .inl (ci 0, 5, .inl m_deep)) :: (a_m_wide, .inl (ci 0, 5, .inl m_wide)) :: (a_m_zonesAhead, .inl (ci 0, 45, .inl m_zonesAhead)) :: (a_m_dist, .inl (ci 0, 20000, .inl m_dist)) :: Rw) H → va_D A ((a_m, .inr (11, (.ref a_m_cutRows :: .ref a_m_cutColumns :: .ref a_m_deep :: .ref a_m_wide :: .ref a_m_zonesAhead :: .ref a_m_nameOne :: .ref a_m_nameOther :: .ref a_m_tape :: .int m_taped :: .int m_place :: .int m_fault :: .int m_number :: .int m_levelRead :: .int m_keyRead :: .int m_reads :: .int m_faults :: .int m_cutShort :: .int m_noNumber :: .long m_bottomLat :: .long m_bottomLon :: .ref a_m_edges :: .int v10 :: .int v11 :: .ref a_m_dist :: .ref a_m_queue :: .int m_queued :: .int m_boxLevel :: .int m_boxTop :: .int m_boxBottom :: .int m_boxWest :: .int m_boxEast :: .int m_isEarly :: .int m_pieces :: .int m_states :: .ref a_m_pieceLevel :: .ref a_m_pieceKey :: .ref a_m_pieceYear :: .int m_drawnNow :: .ref a_m_drawnKeys :: .ref a_m_kept :: .int m_keptAt :: .ref a_m_noNumbers :: []))) :: (a_m_deep, .inl (ci 0, 5, .inl m_deep)) :: (a_m_wide, .inl (ci 0, 5, .inl m_wide)) :: (a_m_zonesAhead, .inl (ci 0, 45, .inl m_zonesAhead)) :: (a_m_dist, .inl (ci 0, 20000, .inl m_dist)) :: Rw) → va_S A s.heap H locs → lv_has ls 7 [(0, .ref a_m), (1, .int p1), (2, .int p2), (3, .int v13), (4, .int v4), (5, .int v14)] → W p l e ({ frames := 5, cells := 0, slots := 0, locals := 121 } : Room) s m ([.ref a_m, .int p1, .int p2] : List Value).toArray below meth c H locs 0 0 Q (F0 m 22 ls []) := by
            intro n22
            induction n22 with
            | zero => intro v13 v14 H locs ls hf; rw [f_M_nearer_L22] at hf; cases hf
            | succ n22 ih22 =>
              intro v13 v14 H locs ls hf hP hD hS hl
              rw [f_M_nearer_L22] at hf
              refine lv_iload (pc := 22) hx hb dX11_nearer_22 (lv_at hl 5 rfl) ?_
              refine lv_aload_n (pc := 24) hx hb dX11_nearer_24 rfl (lv_at hl 0 rfl) ?_
              refine va_get (pc := 25) (D := D) (ci := 11) (v := .int v11) (C := RX11) (T := TX11) (N := 42) hx hb hts hinX11 hown hK hP 0 rfl rfl 22 (by decide) w_1 (fun _ h9 => h9) rfl dX11_nearer_25 ?_
              refine q_icmp_ge (pc := 28) (tgt := 78) hx hb dX11_nearer_28 (by decide) rfl hf (fun hf => ?_) (fun hf => ?_)
              · obtain rfl := Option.some.inj hf
                exact JE22 _ _ _ hP hD hS (lv_sub hl [0, 1, 2, 3, 4] rfl)
              · refine lv_aload_n (pc := 31) hx hb dX11_nearer_31 rfl (lv_at hl 0 rfl) ?_
                refine va_get (pc := 32) (D := D) (ci := 11) (v := .int v10) (C := RX11) (T := TX11) (N := 42) hx hb hts hinX11 hown hK hP 0 rfl rfl 21 (by decide) w_2 (fun _ h9 => h9) rfl dX11_nearer_32 ?_
                refine lv_iload (pc := 35) hx hb dX11_nearer_35 (lv_at hl 5 rfl) ?_
                refine lv_iadd (pc := 37) hx hb dX11_nearer_37 ?_
                obtain ⟨v17, ev17, hf⟩ := q_nm_e hf
                refine q_topi ev17 ?_
                refine lv_istore (pc := 38) (lv' := [(6, .int v17), (0, .ref a_m), (1, .int p1), (2, .int p2), (3, .int v13), (4, .int v4), (5, .int v14)]) hx hb dX11_nearer_38 hl (by decide) rfl (fun ls hl => ?_)
                refine lv_aload_n (pc := 40) hx hb dX11_nearer_40 rfl (lv_at hl 1 rfl) ?_
                refine va_get (pc := 41) (D := D) (ci := 11) (v := .ref a_m_dist) (C := RX11) (T := TX11) (N := 42) hx hb hts hinX11 hown hK hP 0 rfl rfl 23 (by decide) w_3 (fun _ h9 => h9) rfl dX11_nearer_41 ?_
                refine lv_iload (pc := 44) hx hb dX11_nearer_44 (lv_at hl 0 rfl) ?_
                refine q_iald (pc := 46) hx hb hK hP 4 0 hf rfl rfl dX11_nearer_46 (fun v18 hf => ?_)
                refine lv_aload_n (pc := 47) hx hb dX11_nearer_47 rfl (lv_at hl 1 rfl) ?_
                refine va_get (pc := 48) (D := D) (ci := 11) (v := .ref a_m_dist) (C := RX11) (T := TX11) (N := 42) hx hb hts hinX11 hown hK hP 0 rfl rfl 23 (by decide) w_3 (fun _ h9 => h9) rfl dX11_nearer_48 ?_
                refine lv_iload_n (pc := 51) hx hb dX11_nearer_51 rfl (lv_at hl 3 rfl) ?_
                refine q_iald (pc := 52) hx hb hK hP 4 0 hf rfl rfl dX11_nearer_52 (fun v19 hf => ?_)
                refine lv_iconst (pc := 53) (v := 1) hx hb dX11_nearer_53 (by decide) ?_
                refine lv_isub (pc := 54) hx hb dX11_nearer_54 ?_
                obtain ⟨k72, ek72, hf⟩ := q_j1_e hf
                have J72 : ∀ (v20 : Int32) (H : Heap) (locs : List Loc) (ls : Array Slot), k72 v20 = some v15 → va_P D vwCl ((a_m, .inr (11, (.ref a_m_cutRows :: .ref a_m_cutColumns :: .ref a_m_deep :: .ref a_m_wide :: .ref a_m_zonesAhead :: .ref a_m_nameOne :: .ref a_m_nameOther :: .ref a_m_tape :: .int m_taped :: .int m_place :: .int m_fault :: .int m_number :: .int m_levelRead :: .int m_keyRead :: .int m_reads :: .int m_faults :: .int m_cutShort :: .int m_noNumber :: .long m_bottomLat :: .long m_bottomLon :: .ref a_m_edges :: .int v10 :: .int v11 :: .ref a_m_dist :: .ref a_m_queue :: .int m_queued :: .int m_boxLevel :: .int m_boxTop :: .int m_boxBottom :: .int m_boxWest :: .int m_boxEast :: .int m_isEarly :: .int m_pieces :: .int m_states :: .ref a_m_pieceLevel :: .ref a_m_pieceKey :: .ref a_m_pieceYear :: .int m_drawnNow :: .ref a_m_drawnKeys :: .ref a_m_kept :: .int m_keptAt :: .ref a_m_noNumbers :: []))) :: (a_m_deep, .inl (ci 0, 5, .inl m_deep)) :: (a_m_wide, .inl (ci 0, 5, .inl m_wide)) :: (a_m_zonesAhead, .inl (ci 0, 45, .inl m_zonesAhead)) :: (a_m_dist, .inl (ci 0, 20000, .inl m_dist)) :: Rw) H → va_D A ((a_m, .inr (11, (.ref a_m_cutRows :: .ref a_m_cutColumns :: .ref a_m_deep :: .ref a_m_wide :: .ref a_m_zonesAhead :: .ref a_m_nameOne :: .ref a_m_nameOther :: .ref a_m_tape :: .int m_taped :: .int m_place :: .int m_fault :: .int m_number :: .int m_levelRead :: .int m_keyRead :: .int m_reads :: .int m_faults :: .int m_cutShort :: .int m_noNumber :: .long m_bottomLat :: .long m_bottomLon :: .ref a_m_edges :: .int v10 :: .int v11 :: .ref a_m_dist :: .ref a_m_queue :: .int m_queued :: .int m_boxLevel :: .int m_boxTop :: .int m_boxBottom :: .int m_boxWest :: .int m_boxEast :: .int m_isEarly :: .int m_pieces :: .int m_states :: .ref a_m_pieceLevel :: .ref a_m_pieceKey :: .ref a_m_pieceYear :: .int m_drawnNow :: .ref a_m_drawnKeys :: .ref a_m_kept :: .int m_keptAt :: .ref a_m_noNumbers :: []))) :: (a_m_deep, .inl (ci 0, 5, .inl m_deep)) :: (a_m_wide, .inl (ci 0, 5, .inl m_wide)) :: (a_m_zonesAhead, .inl (ci 0, 45, .inl m_zonesAhead)) :: (a_m_dist, .inl (ci 0, 20000, .inl m_dist)) :: Rw) → va_S A s.heap H locs → lv_has ls 7 [(0, .ref a_m), (1, .int p1), (2, .int p2), (3, .int v20), (4, .int v4), (5, .int v14)] → W p l e ({ frames := 5, cells := 0, slots := 0, locals := 121 } : Room) s m ([.ref a_m, .int p1, .int p2] : List Value).toArray below meth c H locs 0 0 Q (F0 m 72 ls []) := by
                  intro v20 H locs ls hf hP hD hS hl
                  have hf := (ek72 v20).symm.trans hf
                  obtain ⟨v21, ev21, hf⟩ := q_nm_e hf
                  refine lv_iinc (pc := 72) (v := v21) (lv' := [(5, .int v21), (0, .ref a_m), (1, .int p1), (2, .int p2), (3, .int v20), (4, .int v4)]) hx hb dX11_nearer_72 hl (k := 5) rfl (by rw [ev21]; rfl) (by decide) rfl (fun ls hl => ?_)
                  refine lv_goto (pc := 75) (tgt := 22) hx hb dX11_nearer_75 (by decide) ?_
                  exact ih22 v20 v21 _ _ _ hf hP hD hS (lv_sub hl [1, 2, 3, 4, 5, 0] rfl)
                refine q_icmp_ne (pc := 55) (tgt := 72) hx hb dX11_nearer_55 (by decide) rfl hf (fun hf => ?_) (fun hf => ?_)
                · exact J72 v13 _ _ _ hf hP hD hS (lv_sub hl [1, 2, 3, 4, 5, 6] rfl)
                · refine lv_iload_n (pc := 58) hx hb dX11_nearer_58 rfl (lv_at hl 4 rfl) ?_
                  refine lv_iconst (pc := 59) (v := (-1)) hx hb dX11_nearer_59 (by decide) ?_
                  obtain ⟨k69, ek69, hf⟩ := q_j0_e hf
                  have J69 : ∀  (H : Heap) (locs : List Loc) (ls : Array Slot), k69 = some v15 → va_P D vwCl ((a_m, .inr (11, (.ref a_m_cutRows :: .ref a_m_cutColumns :: .ref a_m_deep :: .ref a_m_wide :: .ref a_m_zonesAhead :: .ref a_m_nameOne :: .ref a_m_nameOther :: .ref a_m_tape :: .int m_taped :: .int m_place :: .int m_fault :: .int m_number :: .int m_levelRead :: .int m_keyRead :: .int m_reads :: .int m_faults :: .int m_cutShort :: .int m_noNumber :: .long m_bottomLat :: .long m_bottomLon :: .ref a_m_edges :: .int v10 :: .int v11 :: .ref a_m_dist :: .ref a_m_queue :: .int m_queued :: .int m_boxLevel :: .int m_boxTop :: .int m_boxBottom :: .int m_boxWest :: .int m_boxEast :: .int m_isEarly :: .int m_pieces :: .int m_states :: .ref a_m_pieceLevel :: .ref a_m_pieceKey :: .ref a_m_pieceYear :: .int m_drawnNow :: .ref a_m_drawnKeys :: .ref a_m_kept :: .int m_keptAt :: .ref a_m_noNumbers :: []))) :: (a_m_deep, .inl (ci 0, 5, .inl m_deep)) :: (a_m_wide, .inl (ci 0, 5, .inl m_wide)) :: (a_m_zonesAhead, .inl (ci 0, 45, .inl m_zonesAhead)) :: (a_m_dist, .inl (ci 0, 20000, .inl m_dist)) :: Rw) H → va_D A ((a_m, .inr (11, (.ref a_m_cutRows :: .ref a_m_cutColumns :: .ref a_m_deep :: .ref a_m_wide :: .ref a_m_zonesAhead :: .ref a_m_nameOne :: .ref a_m_nameOther :: .ref a_m_tape :: .int m_taped :: .int m_place :: .int m_fault :: .int m_number :: .int m_levelRead :: .int m_keyRead :: .int m_reads :: .int m_faults :: .int m_cutShort :: .int m_noNumber :: .long m_bottomLat :: .long m_bottomLon :: .ref a_m_edges :: .int v10 :: .int v11 :: .ref a_m_dist :: .ref a_m_queue :: .int m_queued :: .int m_boxLevel :: .int m_boxTop :: .int m_boxBottom :: .int m_boxWest :: .int m_boxEast :: .int m_isEarly :: .int m_pieces :: .int m_states :: .ref a_m_pieceLevel :: .ref a_m_pieceKey :: .ref a_m_pieceYear :: .int m_drawnNow :: .ref a_m_drawnKeys :: .ref a_m_kept :: .int m_keptAt :: .ref a_m_noNumbers :: []))) :: (a_m_deep, .inl (ci 0, 5, .inl m_deep)) :: (a_m_wide, .inl (ci 0, 5, .inl m_wide)) :: (a_m_zonesAhead, .inl (ci 0, 45, .inl m_zonesAhead)) :: (a_m_dist, .inl (ci 0, 20000, .inl m_dist)) :: Rw) → va_S A s.heap H locs → lv_has ls 7 [(0, .ref a_m), (1, .int p1), (2, .int p2), (4, .int v4), (5, .int v14), (6, .int v17)] → W p l e ({ frames := 5, cells := 0, slots := 0, locals := 121 } : Room) s m ([.ref a_m, .int p1, .int p2] : List Value).toArray below meth c H locs 0 0 Q (F0 m 69 ls []) := by
                    intro  H locs ls hf hP hD hS hl
                    have hf := (ek69).symm.trans hf
                    refine lv_iload (pc := 69) hx hb dX11_nearer_69 (lv_at hl 5 rfl) ?_
                    refine lv_istore_n (pc := 71) (lv' := [(3, .int v17), (0, .ref a_m), (1, .int p1), (2, .int p2), (4, .int v4), (5, .int v14), (6, .int v17)]) hx hb dX11_nearer_71 rfl hl (by decide) rfl (fun ls hl => ?_)
                    exact J72 v17 _ _ _ hf hP hD hS (lv_sub hl [1, 2, 3, 0, 4, 5] rfl)
                  refine q_icmp_eq (pc := 60) (tgt := 69) hx hb dX11_nearer_60 (by decide) rfl hf (fun hf => ?_) (fun hf => ?_)
                  · exact J69  _ _ _ hf hP hD hS (lv_sub hl [1, 2, 3, 5, 6, 0] rfl)
                  · refine lv_iload (pc := 63) hx hb dX11_nearer_63 (lv_at hl 0 rfl) ?_
                    refine lv_iload_n (pc := 65) hx hb dX11_nearer_65 rfl (lv_at hl 4 rfl) ?_
                    refine q_icmp_ge (pc := 66) (tgt := 72) hx hb dX11_nearer_66 (by decide) rfl hf (fun hf => ?_) (fun hf => ?_)
                    · exact J72 v13 _ _ _ hf hP hD hS (lv_sub hl [1, 2, 3, 4, 5, 6] rfl)
                    · exact J69  _ _ _ hf hP hD hS (lv_sub hl [1, 2, 3, 5, 6, 0] rfl)
          exact LP22 N v3 v12 _ _ _ hm22 hP hD hS (lv_sub hl [1, 2, 3, 4, 5, 0] rfl)
    exact LP5 N v1 v2 m_firstBeside m_manyBeside _ _ _ hm5 hP hD hS (lv_sub hl [2, 3, 4, 1, 0] rfl)
  exact hgo _ _ rfl hP hS
/-! X11_neighbour -/
set_option maxRecDepth 100000 in
set_option maxHeartbeats 4000000 in
theorem c_M_neighbour (l : Launch) (D : va_G) (ci : Nat → ClassId) (A : Nat → Prop) (sa : Nat → Nat) (N : Nat) (Rw : va_W) (a_m : Nat) (a_m_cutRows : Nat) (a_m_cutColumns : Nat) (a_m_deep : Nat) (a_m_wide : Nat) (a_m_zonesAhead : Nat) (a_m_nameOne : Nat) (a_m_nameOther : Nat) (a_m_tape : Nat) (a_m_edges : Nat) (a_m_dist : Nat) (a_m_queue : Nat) (a_m_pieceLevel : Nat) (a_m_pieceKey : Nat) (a_m_pieceYear : Nat) (a_m_drawnKeys : Nat) (a_m_kept : Nat) (a_m_noNumbers : Nat) (m_taped : Int32) (m_place : Int32) (m_fault : Int32) (m_number : Int32) (m_levelRead : Int32) (m_keyRead : Int32) (m_reads : Int32) (m_faults : Int32) (m_cutShort : Int32) (m_noNumber : Int32) (m_bottomLat : Int64) (m_bottomLon : Int64) (m_firstBeside : Int32) (m_manyBeside : Int32) (m_queued : Int32) (m_boxLevel : Int32) (m_boxTop : Int32) (m_boxBottom : Int32) (m_boxWest : Int32) (m_boxEast : Int32) (m_isEarly : Int32) (m_pieces : Int32) (m_states : Int32) (m_drawnNow : Int32) (m_keptAt : Int32) (m_deep : Nat → Int32) (m_wide : Nat → Int32) (m_zonesAhead : Nat → Int32) (p1 : Int32) (p2 : Int32) (p3 : Int32) (p4 : Int32) (r : Int32) (o1 : Int32) (o2 : Int32) (hf : f_M_neighbour N m_deep m_wide m_zonesAhead m_firstBeside m_manyBeside p1 p2 p3 p4 = some (r, o1, o2)) : Met l yX11_neighbour wsX11_neighbour ({ frames := 5, cells := 0, slots := 0, locals := 121 }) (va_Pc [.ref a_m, .int p1, .int p2, .int p3, .int p4] (q_N D ci A sa ((a_m, .inr (11, (.ref a_m_cutRows :: .ref a_m_cutColumns :: .ref a_m_deep :: .ref a_m_wide :: .ref a_m_zonesAhead :: .ref a_m_nameOne :: .ref a_m_nameOther :: .ref a_m_tape :: .int m_taped :: .int m_place :: .int m_fault :: .int m_number :: .int m_levelRead :: .int m_keyRead :: .int m_reads :: .int m_faults :: .int m_cutShort :: .int m_noNumber :: .long m_bottomLat :: .long m_bottomLon :: .ref a_m_edges :: .int m_firstBeside :: .int m_manyBeside :: .ref a_m_dist :: .ref a_m_queue :: .int m_queued :: .int m_boxLevel :: .int m_boxTop :: .int m_boxBottom :: .int m_boxWest :: .int m_boxEast :: .int m_isEarly :: .int m_pieces :: .int m_states :: .ref a_m_pieceLevel :: .ref a_m_pieceKey :: .ref a_m_pieceYear :: .int m_drawnNow :: .ref a_m_drawnKeys :: .ref a_m_kept :: .int m_keptAt :: .ref a_m_noNumbers :: []))) :: (a_m_deep, .inl (ci 0, 5, .inl m_deep)) :: (a_m_wide, .inl (ci 0, 5, .inl m_wide)) :: (a_m_zonesAhead, .inl (ci 0, 45, .inl m_zonesAhead)) :: Rw))) (q_Q (some (.int r)) (q_O D A ((a_m, .inr (11, (.ref a_m_cutRows :: .ref a_m_cutColumns :: .ref a_m_deep :: .ref a_m_wide :: .ref a_m_zonesAhead :: .ref a_m_nameOne :: .ref a_m_nameOther :: .ref a_m_tape :: .int m_taped :: .int m_place :: .int m_fault :: .int m_number :: .int m_levelRead :: .int m_keyRead :: .int m_reads :: .int m_faults :: .int m_cutShort :: .int m_noNumber :: .long m_bottomLat :: .long m_bottomLon :: .ref a_m_edges :: .int o1 :: .int o2 :: .ref a_m_dist :: .ref a_m_queue :: .int m_queued :: .int m_boxLevel :: .int m_boxTop :: .int m_boxBottom :: .int m_boxWest :: .int m_boxEast :: .int m_isEarly :: .int m_pieces :: .int m_states :: .ref a_m_pieceLevel :: .ref a_m_pieceKey :: .ref a_m_pieceYear :: .int m_drawnNow :: .ref a_m_drawnKeys :: .ref a_m_kept :: .int m_keptAt :: .ref a_m_noNumbers :: []))) :: (a_m_deep, .inl (ci 0, 5, .inl m_deep)) :: (a_m_wide, .inl (ci 0, 5, .inl m_wide)) :: (a_m_zonesAhead, .inl (ci 0, 45, .inl m_zonesAhead)) :: Rw)) A) 0 0 A := by
  refine q_ofW (cc := cX11_neighbour) (maxL := 5) (ret := (some .int)) [.ref a_m, .int p1, .int p2, .int p3, .int p4] (plainFor_of_name (by decide)) rfl (Nat.le_of_ble_eq_true rfl) ?_
  intro p e s m below meth c ls Q hQ hx hb hml hr hts hown hlocks hK hA hZ hP hD hS hl
  have hl : lv_has ls 5 [(0, .ref a_m), (1, .int p1), (2, .int p2), (3, .int p3), (4, .int p4)] := hl
  have hown : s.vm.findClass RX11 = some m.cls := hown
  have hinX11 : ∀ w ∈ wsX110, w ∈ wsX11_neighbour := fun _ h => List.mem_cons_of_mem _ (inWX110 _ h)
  have w_1 := hts (Cond.fieldLink RX11 257 "SheetNamesModel" "manyBeside" "I") (List.mem_cons_of_mem _ t_w911)
  have w_2 := hts (Cond.fieldLink RX11 260 "SheetNamesModel" "firstBeside" "I") (List.mem_cons_of_mem _ t_w912)
  unfold f_M_neighbour at hf
  have hgo : ∀ (H : Heap) (locs : List Loc), H = s.heap → va_P D vwCl ((a_m, .inr (11, (.ref a_m_cutRows :: .ref a_m_cutColumns :: .ref a_m_deep :: .ref a_m_wide :: .ref a_m_zonesAhead :: .ref a_m_nameOne :: .ref a_m_nameOther :: .ref a_m_tape :: .int m_taped :: .int m_place :: .int m_fault :: .int m_number :: .int m_levelRead :: .int m_keyRead :: .int m_reads :: .int m_faults :: .int m_cutShort :: .int m_noNumber :: .long m_bottomLat :: .long m_bottomLon :: .ref a_m_edges :: .int m_firstBeside :: .int m_manyBeside :: .ref a_m_dist :: .ref a_m_queue :: .int m_queued :: .int m_boxLevel :: .int m_boxTop :: .int m_boxBottom :: .int m_boxWest :: .int m_boxEast :: .int m_isEarly :: .int m_pieces :: .int m_states :: .ref a_m_pieceLevel :: .ref a_m_pieceKey :: .ref a_m_pieceYear :: .int m_drawnNow :: .ref a_m_drawnKeys :: .ref a_m_kept :: .int m_keptAt :: .ref a_m_noNumbers :: []))) :: (a_m_deep, .inl (ci 0, 5, .inl m_deep)) :: (a_m_wide, .inl (ci 0, 5, .inl m_wide)) :: (a_m_zonesAhead, .inl (ci 0, 45, .inl m_zonesAhead)) :: Rw) H → va_S A s.heap H locs → W p l e ({ frames := 5, cells := 0, slots := 0, locals := 121 } : Room) s m ([.ref a_m, .int p1, .int p2, .int p3, .int p4] : List Value).toArray below meth c H locs 0 0 Q (F0 m 0 ls []) := by
    intro H locs hH hP hS
    refine lv_aload_n (pc := 0) hx hb dX11_neighbour_0 rfl (lv_at hl 0 rfl) ?_
    refine lv_iload_n (pc := 1) hx hb dX11_neighbour_1 rfl (lv_at hl 1 rfl) ?_
    refine lv_iload_n (pc := 2) hx hb dX11_neighbour_2 rfl (lv_at hl 2 rfl) ?_
    obtain ⟨v1, hm3, hf⟩ := q_b1_e hf
    refine q_cVr (pc := 3) (As := [.int p1, .int p2]) (rest := []) (v0 := (some (.int v1))) ⟨hx, hb, hml, hown, hts⟩ hK hA hZ hP hD hS hl.1 [0, 1, 2, 3] 4 rfl ⟨rfl, rfl, rfl⟩ (c_M_isKey l D ci A sa N (Rw) a_m a_m_cutRows a_m_cutColumns a_m_deep a_m_wide a_m_zonesAhead a_m_nameOne a_m_nameOther a_m_tape a_m_edges a_m_dist a_m_queue a_m_pieceLevel a_m_pieceKey a_m_pieceYear a_m_drawnKeys a_m_kept a_m_noNumbers m_taped m_place m_fault m_number m_levelRead m_keyRead m_reads m_faults m_cutShort m_noNumber m_bottomLat m_bottomLon m_firstBeside m_manyBeside m_queued m_boxLevel m_boxTop m_boxBottom m_boxWest m_boxEast m_isEarly m_pieces m_states m_drawnNow m_keptAt m_deep m_wide m_zonesAhead p1 p2 v1 hm3) 0 rfl rfl (cwV 2 hts gX11_neighbour_X11_isKey rfl rfl rfl (by decide +kernel) ⟨Nat.le_of_ble_eq_true rfl, Nat.le_of_ble_eq_true rfl⟩) rfl rfl (Nat.le_of_ble_eq_true rfl) dX11_neighbour_3 ⟨Nat.zero_le _, Nat.zero_le _⟩ (fun locs hS => ?_)
    refine q_if_eq (pc := 6) (tgt := 22) hx hb dX11_neighbour_6 (by decide) rfl hf (fun hf => ?_) (fun hf => ?_)
    · refine lv_iconst (pc := 22) (v := (-1)) hx hb dX11_neighbour_22 (by decide) ?_
      obtain ⟨e90, e91, e92⟩ := q_inj3 (Option.some.inj hf)
      rw [hQ, ← e90, ← e91, ← e92]
      exact q_iret (pc := 23) hx hb hr hlocks hP hD hS dX11_neighbour_23
    · refine lv_iload_n (pc := 9) hx hb dX11_neighbour_9 rfl (lv_at hl 3 rfl) ?_
      obtain ⟨v2, hm10, hf⟩ := q_b1_e hf
      refine q_cSr (pc := 10) (As := [.int p3]) (rest := []) (v0 := (some (.int v2))) ⟨hx, hb, hml, hown, hts⟩ hK hA hZ hP hD hS hl.1 [] 4 rfl ⟨rfl, rfl, rfl⟩ (c_M_isSide l D ci A sa N (Rw) p3 v2 hm10) (va_cwS 1 hts gX11_neighbour_X11_isSide rfl rfl rfl (by decide +kernel) ⟨Nat.le_of_ble_eq_true rfl, Nat.le_of_ble_eq_true rfl⟩) rfl rfl (Nat.le_of_ble_eq_true rfl) dX11_neighbour_10 ⟨Nat.zero_le _, Nat.zero_le _⟩ (fun locs hS => ?_)
      refine q_if_eq (pc := 13) (tgt := 22) hx hb dX11_neighbour_13 (by decide) rfl hf (fun hf => ?_) (fun hf => ?_)
      · refine lv_iconst (pc := 22) (v := (-1)) hx hb dX11_neighbour_22 (by decide) ?_
        obtain ⟨e90, e91, e92⟩ := q_inj3 (Option.some.inj hf)
        rw [hQ, ← e90, ← e91, ← e92]
        exact q_iret (pc := 23) hx hb hr hlocks hP hD hS dX11_neighbour_23
      · refine lv_iload (pc := 16) hx hb dX11_neighbour_16 (lv_at hl 4 rfl) ?_
        refine lv_iconst (pc := 18) (v := (-1)) hx hb dX11_neighbour_18 (by decide) ?_
        refine q_icmp_ge (pc := 19) (tgt := 24) hx hb dX11_neighbour_19 (by decide) rfl hf (fun hf => ?_) (fun hf => ?_)
        · refine lv_aload_n (pc := 24) hx hb dX11_neighbour_24 rfl (lv_at hl 0 rfl) ?_
          refine lv_iload_n (pc := 25) hx hb dX11_neighbour_25 rfl (lv_at hl 1 rfl) ?_
          refine lv_iload_n (pc := 26) hx hb dX11_neighbour_26 rfl (lv_at hl 2 rfl) ?_
          refine lv_iload_n (pc := 27) hx hb dX11_neighbour_27 rfl (lv_at hl 3 rfl) ?_
          obtain ⟨v3, v4, hm28, hf⟩ := q_b2_e hf
          refine q_cV (pc := 28) (As := [.int p1, .int p2, .int p3]) (rest := []) (v0 := none) ⟨hx, hb, hml, hown, hts⟩ hK hA hZ hP hD hS hl.1 [0, 1, 2, 3] 4 rfl ⟨rfl, rfl, rfl⟩ (c_M_laysBeside l D ci A sa N (Rw) a_m a_m_cutRows a_m_cutColumns a_m_deep a_m_wide a_m_zonesAhead a_m_nameOne a_m_nameOther a_m_tape a_m_edges a_m_dist a_m_queue a_m_pieceLevel a_m_pieceKey a_m_pieceYear a_m_drawnKeys a_m_kept a_m_noNumbers m_taped m_place m_fault m_number m_levelRead m_keyRead m_reads m_faults m_cutShort m_noNumber m_bottomLat m_bottomLon m_firstBeside m_manyBeside m_queued m_boxLevel m_boxTop m_boxBottom m_boxWest m_boxEast m_isEarly m_pieces m_states m_drawnNow m_keptAt m_deep m_wide m_zonesAhead p1 p2 p3 v3 v4 hm28) 0 rfl rfl (cwV 3 hts gX11_neighbour_X11_laysBeside rfl rfl rfl (by decide +kernel) ⟨Nat.le_of_ble_eq_true rfl, Nat.le_of_ble_eq_true rfl⟩) rfl rfl (Nat.le_of_ble_eq_true rfl) dX11_neighbour_28 ⟨Nat.zero_le _, Nat.zero_le _⟩ [0, 1, 2, 3] 4 rfl ⟨rfl, rfl, rfl⟩ (fun H locs hP hD hS => ?_)
          obtain ⟨hP, hD⟩ : va_PD D A ((a_m, .inr (11, (.ref a_m_cutRows :: .ref a_m_cutColumns :: .ref a_m_deep :: .ref a_m_wide :: .ref a_m_zonesAhead :: .ref a_m_nameOne :: .ref a_m_nameOther :: .ref a_m_tape :: .int m_taped :: .int m_place :: .int m_fault :: .int m_number :: .int m_levelRead :: .int m_keyRead :: .int m_reads :: .int m_faults :: .int m_cutShort :: .int m_noNumber :: .long m_bottomLat :: .long m_bottomLon :: .ref a_m_edges :: .int v3 :: .int v4 :: .ref a_m_dist :: .ref a_m_queue :: .int m_queued :: .int m_boxLevel :: .int m_boxTop :: .int m_boxBottom :: .int m_boxWest :: .int m_boxEast :: .int m_isEarly :: .int m_pieces :: .int m_states :: .ref a_m_pieceLevel :: .ref a_m_pieceKey :: .ref a_m_pieceYear :: .int m_drawnNow :: .ref a_m_drawnKeys :: .ref a_m_kept :: .int m_keptAt :: .ref a_m_noNumbers :: []))) :: (a_m_deep, .inl (ci 0, 5, .inl m_deep)) :: (a_m_wide, .inl (ci 0, 5, .inl m_wide)) :: (a_m_zonesAhead, .inl (ci 0, 45, .inl m_zonesAhead)) :: Rw) H := ⟨hP, hD⟩
          refine lv_iload (pc := 31) hx hb dX11_neighbour_31 (lv_at hl 4 rfl) ?_
          refine lv_iconst (pc := 33) (v := (-1)) hx hb dX11_neighbour_33 (by decide) ?_
          refine q_icmp_ne (pc := 34) (tgt := 44) hx hb dX11_neighbour_34 (by decide) rfl hf (fun hf => ?_) (fun hf => ?_)
          · refine lv_iload (pc := 44) hx hb dX11_neighbour_44 (lv_at hl 4 rfl) ?_
            refine lv_aload_n (pc := 46) hx hb dX11_neighbour_46 rfl (lv_at hl 0 rfl) ?_
            refine va_get (pc := 47) (D := D) (ci := 11) (v := .int v4) (C := RX11) (T := TX11) (N := 42) hx hb hts hinX11 hown hK hP 0 rfl rfl 22 (by decide) w_1 (fun _ h9 => h9) rfl dX11_neighbour_47 ?_
            refine q_icmp_ge (pc := 50) (tgt := 63) hx hb dX11_neighbour_50 (by decide) rfl hf (fun hf => ?_) (fun hf => ?_)
            · refine lv_bipush (pc := 63) (v := (-2)) hx hb dX11_neighbour_63 (by decide) ?_
              obtain ⟨e90, e91, e92⟩ := q_inj3 (Option.some.inj hf)
              rw [hQ, ← e90, ← e91, ← e92]
              exact q_iret (pc := 65) hx hb hr hlocks hP hD hS dX11_neighbour_65
            · refine lv_aload_n (pc := 53) hx hb dX11_neighbour_53 rfl (lv_at hl 0 rfl) ?_
              refine va_get (pc := 54) (D := D) (ci := 11) (v := .int v3) (C := RX11) (T := TX11) (N := 42) hx hb hts hinX11 hown hK hP 0 rfl rfl 21 (by decide) w_2 (fun _ h9 => h9) rfl dX11_neighbour_54 ?_
              refine lv_iload (pc := 57) hx hb dX11_neighbour_57 (lv_at hl 4 rfl) ?_
              refine lv_iadd (pc := 59) hx hb dX11_neighbour_59 ?_
              refine lv_goto (pc := 60) (tgt := 65) hx hb dX11_neighbour_60 (by decide) ?_
              obtain ⟨e90, e91, e92⟩ := q_inj3 (Option.some.inj hf)
              rw [hQ, ← e90, ← e91, ← e92]
              exact q_iret (pc := 65) hx hb hr hlocks hP hD hS dX11_neighbour_65
          · refine lv_aload_n (pc := 37) hx hb dX11_neighbour_37 rfl (lv_at hl 0 rfl) ?_
            refine va_get (pc := 38) (D := D) (ci := 11) (v := .int v4) (C := RX11) (T := TX11) (N := 42) hx hb hts hinX11 hown hK hP 0 rfl rfl 22 (by decide) w_1 (fun _ h9 => h9) rfl dX11_neighbour_38 ?_
            refine lv_goto (pc := 41) (tgt := 65) hx hb dX11_neighbour_41 (by decide) ?_
            obtain ⟨e90, e91, e92⟩ := q_inj3 (Option.some.inj hf)
            rw [hQ, ← e90, ← e91, ← e92]
            exact q_iret (pc := 65) hx hb hr hlocks hP hD hS dX11_neighbour_65
        · refine lv_iconst (pc := 22) (v := (-1)) hx hb dX11_neighbour_22 (by decide) ?_
          obtain ⟨e90, e91, e92⟩ := q_inj3 (Option.some.inj hf)
          rw [hQ, ← e90, ← e91, ← e92]
          exact q_iret (pc := 23) hx hb hr hlocks hP hD hS dX11_neighbour_23
  exact hgo _ _ rfl hP hS
/-! X11_oldest -/
set_option maxRecDepth 100000 in
set_option maxHeartbeats 4000000 in
theorem c_M_oldest (l : Launch) (D : va_G) (ci : Nat → ClassId) (A : Nat → Prop) (sa : Nat → Nat) (N : Nat) (Rw : va_W) (a_m : Nat) (a_m_cutRows : Nat) (a_m_cutColumns : Nat) (a_m_deep : Nat) (a_m_wide : Nat) (a_m_zonesAhead : Nat) (a_m_nameOne : Nat) (a_m_nameOther : Nat) (a_m_tape : Nat) (a_m_edges : Nat) (a_m_dist : Nat) (a_m_queue : Nat) (a_m_pieceLevel : Nat) (a_m_pieceKey : Nat) (a_m_pieceYear : Nat) (a_m_drawnKeys : Nat) (a_m_kept : Nat) (a_m_noNumbers : Nat) (m_taped : Int32) (m_place : Int32) (m_fault : Int32) (m_number : Int32) (m_levelRead : Int32) (m_keyRead : Int32) (m_reads : Int32) (m_faults : Int32) (m_cutShort : Int32) (m_noNumber : Int32) (m_bottomLat : Int64) (m_bottomLon : Int64) (m_firstBeside : Int32) (m_manyBeside : Int32) (m_queued : Int32) (m_boxLevel : Int32) (m_boxTop : Int32) (m_boxBottom : Int32) (m_boxWest : Int32) (m_boxEast : Int32) (m_isEarly : Int32) (m_pieces : Int32) (m_states : Int32) (m_drawnNow : Int32) (m_keptAt : Int32) (m_pieceLevel : Nat → Int32) (m_pieceKey : Nat → Int32) (m_pieceYear : Nat → Int32) (p1 : Int32) (p2 : Int32) (r : Int32) (hf : f_M_oldest N m_pieces m_pieceLevel m_pieceKey m_pieceYear p1 p2 = some r) : Met l yX11_oldest wsX11_oldest ({ frames := 2, cells := 0, slots := 0, locals := 45 }) (va_Pc [.ref a_m, .int p1, .int p2] (q_N D ci A sa ((a_m, .inr (11, (.ref a_m_cutRows :: .ref a_m_cutColumns :: .ref a_m_deep :: .ref a_m_wide :: .ref a_m_zonesAhead :: .ref a_m_nameOne :: .ref a_m_nameOther :: .ref a_m_tape :: .int m_taped :: .int m_place :: .int m_fault :: .int m_number :: .int m_levelRead :: .int m_keyRead :: .int m_reads :: .int m_faults :: .int m_cutShort :: .int m_noNumber :: .long m_bottomLat :: .long m_bottomLon :: .ref a_m_edges :: .int m_firstBeside :: .int m_manyBeside :: .ref a_m_dist :: .ref a_m_queue :: .int m_queued :: .int m_boxLevel :: .int m_boxTop :: .int m_boxBottom :: .int m_boxWest :: .int m_boxEast :: .int m_isEarly :: .int m_pieces :: .int m_states :: .ref a_m_pieceLevel :: .ref a_m_pieceKey :: .ref a_m_pieceYear :: .int m_drawnNow :: .ref a_m_drawnKeys :: .ref a_m_kept :: .int m_keptAt :: .ref a_m_noNumbers :: []))) :: (a_m_pieceLevel, .inl (ci 0, 60, .inl m_pieceLevel)) :: (a_m_pieceKey, .inl (ci 0, 60, .inl m_pieceKey)) :: (a_m_pieceYear, .inl (ci 0, 60, .inl m_pieceYear)) :: Rw))) (q_R (some (.int r))) 0 0 A := by
  refine q_ofW (cc := cX11_oldest) (maxL := 6) (ret := (some .int)) [.ref a_m, .int p1, .int p2] (plainFor_of_name (by decide)) rfl (Nat.le_of_ble_eq_true rfl) ?_
  intro p e s m below meth c ls Q hQ hx hb hml hr hts hown hlocks hK hA hZ hP hD hS hl
  have hl : lv_has ls 6 [(0, .ref a_m), (1, .int p1), (2, .int p2)] := hl
  have hown : s.vm.findClass RX11 = some m.cls := hown
  have hinX11 : ∀ w ∈ wsX110, w ∈ wsX11_oldest := fun _ h => List.mem_cons_of_mem _ (inWX110 _ h)
  have w_1 := hts (Cond.constantLong RX11 127 (2)) (List.mem_cons_of_mem _ t_w945)
  have w_2 := hts (Cond.fieldLink RX11 123 "SheetNamesModel" "pieces" "I") (List.mem_cons_of_mem _ t_w972)
  have w_3 := hts (Cond.fieldLink RX11 45 "SheetNamesModel" "pieceLevel" "[I") (List.mem_cons_of_mem _ t_w982)
  have w_4 := hts (Cond.fieldLink RX11 51 "SheetNamesModel" "pieceYear" "[I") (List.mem_cons_of_mem _ t_w984)
  have w_5 := hts (Cond.fieldLink RX11 48 "SheetNamesModel" "pieceKey" "[I") (List.mem_cons_of_mem _ t_w983)
  unfold f_M_oldest at hf
  have hgo : ∀ (H : Heap) (locs : List Loc), H = s.heap → va_P D vwCl ((a_m, .inr (11, (.ref a_m_cutRows :: .ref a_m_cutColumns :: .ref a_m_deep :: .ref a_m_wide :: .ref a_m_zonesAhead :: .ref a_m_nameOne :: .ref a_m_nameOther :: .ref a_m_tape :: .int m_taped :: .int m_place :: .int m_fault :: .int m_number :: .int m_levelRead :: .int m_keyRead :: .int m_reads :: .int m_faults :: .int m_cutShort :: .int m_noNumber :: .long m_bottomLat :: .long m_bottomLon :: .ref a_m_edges :: .int m_firstBeside :: .int m_manyBeside :: .ref a_m_dist :: .ref a_m_queue :: .int m_queued :: .int m_boxLevel :: .int m_boxTop :: .int m_boxBottom :: .int m_boxWest :: .int m_boxEast :: .int m_isEarly :: .int m_pieces :: .int m_states :: .ref a_m_pieceLevel :: .ref a_m_pieceKey :: .ref a_m_pieceYear :: .int m_drawnNow :: .ref a_m_drawnKeys :: .ref a_m_kept :: .int m_keptAt :: .ref a_m_noNumbers :: []))) :: (a_m_pieceLevel, .inl (ci 0, 60, .inl m_pieceLevel)) :: (a_m_pieceKey, .inl (ci 0, 60, .inl m_pieceKey)) :: (a_m_pieceYear, .inl (ci 0, 60, .inl m_pieceYear)) :: Rw) H → va_S A s.heap H locs → W p l e ({ frames := 2, cells := 0, slots := 0, locals := 45 } : Room) s m ([.ref a_m, .int p1, .int p2] : List Value).toArray below meth c H locs 0 0 Q (F0 m 0 ls []) := by
    intro H locs hH hP hS
    subst hH
    refine lv_iload_n (pc := 0) hx hb dX11_oldest_0 rfl (lv_at hl 1 rfl) ?_
    obtain ⟨v1, hm1, hf⟩ := q_b1_e hf
    refine q_cSr (pc := 1) (As := [.int p1]) (rest := []) (v0 := (some (.int v1))) ⟨hx, hb, hml, hown, hts⟩ hK hA hZ hP hD hS hl.1 [] 4 rfl ⟨rfl, rfl, rfl⟩ (c_M_isLevel l D ci A sa N (Rw) p1 v1 hm1) (va_cwS 1 hts gX11_oldest_X11_isLevel rfl rfl rfl (by decide +kernel) ⟨Nat.le_of_ble_eq_true rfl, Nat.le_of_ble_eq_true rfl⟩) rfl rfl (Nat.le_of_ble_eq_true rfl) dX11_oldest_1 ⟨Nat.zero_le _, Nat.zero_le _⟩ (fun locs hS => ?_)
    refine q_if_eq (pc := 4) (tgt := 19) hx hb dX11_oldest_4 (by decide) rfl hf (fun hf => ?_) (fun hf => ?_)
    · refine lv_iconst (pc := 19) (v := (-1)) hx hb dX11_oldest_19 (by decide) ?_
      obtain rfl := Option.some.inj hf
      rw [hQ]
      exact q_iretr (pc := 20) hx hb hr hlocks rfl hS dX11_oldest_20
    · refine lv_iload_n (pc := 7) hx hb dX11_oldest_7 rfl (lv_at hl 2 rfl) ?_
      refine lv_i2l (pc := 8) hx hb dX11_oldest_8 rfl ?_
      refine lv_lconst (pc := 9) (v := 0) hx hb dX11_oldest_9 (by decide) ?_
      refine lv_ldc2 (pc := 10) (v := 2) hx hb hown w_1 dX11_oldest_10 ?_
      obtain ⟨v2, hm13, hf⟩ := q_b1_e hf
      refine q_cSr (pc := 13) (As := [.long p2.toInt64, .long 0, .long 2]) (rest := []) (v0 := (some (.int v2))) ⟨hx, hb, hml, hown, hts⟩ hK hA hZ hP hD hS hl.1 [] 4 rfl ⟨rfl, rfl, rfl⟩ (c_M_in l D ci A sa N (Rw) p2.toInt64 0 2 v2 hm13) (va_cwS 3 hts gX11_oldest_X11_in rfl rfl rfl (by decide +kernel) ⟨Nat.le_of_ble_eq_true rfl, Nat.le_of_ble_eq_true rfl⟩) rfl rfl (Nat.le_of_ble_eq_true rfl) dX11_oldest_13 ⟨Nat.zero_le _, Nat.zero_le _⟩ (fun locs hS => ?_)
      refine q_if_ne (pc := 16) (tgt := 21) hx hb dX11_oldest_16 (by decide) rfl hf (fun hf => ?_) (fun hf => ?_)
      · refine lv_iconst (pc := 21) (v := (-1)) hx hb dX11_oldest_21 (by decide) ?_
        obtain ⟨v3, ev3, hf⟩ := q_nm_e hf
        refine q_topi ev3 ?_
        refine lv_istore_n (pc := 22) (lv' := [(3, .int v3), (0, .ref a_m), (1, .int p1), (2, .int p2)]) hx hb dX11_oldest_22 rfl hl (by decide) rfl (fun ls hl => ?_)
        refine lv_iconst (pc := 23) (v := 0) hx hb dX11_oldest_23 (by decide) ?_
        obtain ⟨v4, ev4, hf⟩ := q_nm_e hf
        refine q_topi ev4 ?_
        refine lv_istore (pc := 24) (lv' := [(4, .int v4), (3, .int v3), (0, .ref a_m), (1, .int p1), (2, .int p2)]) hx hb dX11_oldest_24 hl (by decide) rfl (fun ls hl => ?_)
        refine lv_iconst (pc := 26) (v := 0) hx hb dX11_oldest_26 (by decide) ?_
        obtain ⟨v5, ev5, hf⟩ := q_nm_e hf
        refine q_topi ev5 ?_
        refine lv_istore (pc := 27) (lv' := [(5, .int v5), (4, .int v4), (3, .int v3), (0, .ref a_m), (1, .int p1), (2, .int p2)]) hx hb dX11_oldest_27 hl (by decide) rfl (fun ls hl => ?_)
        obtain ⟨v9, v10, hm29, hf⟩ := q_b2_e hf
        have JE29 : ∀ (H : Heap) (locs : List Loc) (ls : Array Slot), H = s.heap → va_S A s.heap H locs → lv_has ls 6 [(0, .ref a_m), (2, .int p2), (3, .int v9), (4, .int v10)] → W p l e ({ frames := 2, cells := 0, slots := 0, locals := 45 } : Room) s m ([.ref a_m, .int p1, .int p2] : List Value).toArray below meth c H locs 0 0 Q (F0 m 119 ls []) := by
          intro H locs ls hHs hS hl
          subst hHs
          refine lv_iload_n (pc := 119) hx hb dX11_oldest_119 rfl (lv_at hl 2 rfl) ?_
          refine lv_iconst (pc := 120) (v := (-1)) hx hb dX11_oldest_120 (by decide) ?_
          refine q_icmp_ne (pc := 121) (tgt := 127) hx hb dX11_oldest_121 (by decide) rfl hf (fun hf => ?_) (fun hf => ?_)
          · refine lv_iload_n (pc := 127) hx hb dX11_oldest_127 rfl (lv_at hl 1 rfl) ?_
            refine q_if_ne (pc := 128) (tgt := 140) hx hb dX11_oldest_128 (by decide) rfl hf (fun hf => ?_) (fun hf => ?_)
            · refine lv_iload_n (pc := 140) hx hb dX11_oldest_140 rfl (lv_at hl 1 rfl) ?_
              refine lv_iconst (pc := 141) (v := 1) hx hb dX11_oldest_141 (by decide) ?_
              refine q_icmp_ne (pc := 142) (tgt := 154) hx hb dX11_oldest_142 (by decide) rfl hf (fun hf => ?_) (fun hf => ?_)
              · refine lv_iload (pc := 154) hx hb dX11_oldest_154 (lv_at hl 3 rfl) ?_
                obtain rfl := Option.some.inj hf
                rw [hQ]
                exact q_iretr (pc := 156) hx hb hr hlocks rfl hS dX11_oldest_156
              · refine lv_aload_n (pc := 145) hx hb dX11_oldest_145 rfl (lv_at hl 0 rfl) ?_
                refine va_get (pc := 146) (D := D) (ci := 11) (v := .ref a_m_pieceYear) (C := RX11) (T := TX11) (N := 42) hx hb hts hinX11 hown hK hP 0 rfl rfl 36 (by decide) w_4 (fun _ h9 => h9) rfl dX11_oldest_146 ?_
                refine lv_iload_n (pc := 149) hx hb dX11_oldest_149 rfl (lv_at hl 2 rfl) ?_
                refine q_iald (pc := 150) hx hb hK hP 3 0 hf rfl rfl dX11_oldest_150 (fun v11 hf => ?_)
                refine lv_goto (pc := 151) (tgt := 156) hx hb dX11_oldest_151 (by decide) ?_
                obtain rfl := Option.some.inj hf
                rw [hQ]
                exact q_iretr (pc := 156) hx hb hr hlocks rfl hS dX11_oldest_156
            · refine lv_aload_n (pc := 131) hx hb dX11_oldest_131 rfl (lv_at hl 0 rfl) ?_
              refine va_get (pc := 132) (D := D) (ci := 11) (v := .ref a_m_pieceKey) (C := RX11) (T := TX11) (N := 42) hx hb hts hinX11 hown hK hP 0 rfl rfl 35 (by decide) w_5 (fun _ h9 => h9) rfl dX11_oldest_132 ?_
              refine lv_iload_n (pc := 135) hx hb dX11_oldest_135 rfl (lv_at hl 2 rfl) ?_
              refine q_iald (pc := 136) hx hb hK hP 2 0 hf rfl rfl dX11_oldest_136 (fun v12 hf => ?_)
              refine lv_goto (pc := 137) (tgt := 156) hx hb dX11_oldest_137 (by decide) ?_
              obtain rfl := Option.some.inj hf
              rw [hQ]
              exact q_iretr (pc := 156) hx hb hr hlocks rfl hS dX11_oldest_156
          · refine lv_bipush (pc := 124) (v := (-2)) hx hb dX11_oldest_124 (by decide) ?_
            obtain rfl := Option.some.inj hf
            rw [hQ]
            exact q_iretr (pc := 126) hx hb hr hlocks rfl hS dX11_oldest_126
        have LP29 : ∀ (n29 : Nat) (v6 : Int32) (v7 : Int32) (v8 : Int32) (H : Heap) (locs : List Loc) (ls : Array Slot), f_M_oldest_L29 m_pieceLevel m_pieceYear m_pieces p1 n29 v6 v7 v8 = some (v9, v10) → H = s.heap → va_S A s.heap H locs → lv_has ls 6 [(0, .ref a_m), (1, .int p1), (2, .int p2), (3, .int v6), (4, .int v7), (5, .int v8)] → W p l e ({ frames := 2, cells := 0, slots := 0, locals := 45 } : Room) s m ([.ref a_m, .int p1, .int p2] : List Value).toArray below meth c H locs 0 0 Q (F0 m 29 ls []) := by
          intro n29
          induction n29 with
          | zero => intro v6 v7 v8 H locs ls hf; rw [f_M_oldest_L29] at hf; cases hf
          | succ n29 ih29 =>
            intro v6 v7 v8 H locs ls hf hHs hS hl
            subst hHs
            rw [f_M_oldest_L29] at hf
            refine lv_iload (pc := 29) hx hb dX11_oldest_29 (lv_at hl 5 rfl) ?_
            refine lv_aload_n (pc := 31) hx hb dX11_oldest_31 rfl (lv_at hl 0 rfl) ?_
            refine va_get (pc := 32) (D := D) (ci := 11) (v := .int m_pieces) (C := RX11) (T := TX11) (N := 42) hx hb hts hinX11 hown hK hP 0 rfl rfl 32 (by decide) w_2 (fun _ h9 => h9) rfl dX11_oldest_32 ?_
            refine q_icmp_ge (pc := 35) (tgt := 119) hx hb dX11_oldest_35 (by decide) rfl hf (fun hf => ?_) (fun hf => ?_)
            · obtain ⟨rfl, rfl⟩ := q_inj2 (Option.some.inj hf)
              exact JE29 _ _ _ rfl hS (lv_sub hl [0, 2, 3, 4] rfl)
            · refine lv_aload_n (pc := 38) hx hb dX11_oldest_38 rfl (lv_at hl 0 rfl) ?_
              refine va_get (pc := 39) (D := D) (ci := 11) (v := .ref a_m_pieceLevel) (C := RX11) (T := TX11) (N := 42) hx hb hts hinX11 hown hK hP 0 rfl rfl 34 (by decide) w_3 (fun _ h9 => h9) rfl dX11_oldest_39 ?_
              refine lv_iload (pc := 42) hx hb dX11_oldest_42 (lv_at hl 5 rfl) ?_
              refine q_iald (pc := 44) hx hb hK hP 1 0 hf rfl rfl dX11_oldest_44 (fun v13 hf => ?_)
              refine lv_iload_n (pc := 45) hx hb dX11_oldest_45 rfl (lv_at hl 1 rfl) ?_
              obtain ⟨k113, ek113, hf⟩ := q_j2_e hf
              have J113 : ∀ (v14 : Int32) (v15 : Int32) (H : Heap) (locs : List Loc) (ls : Array Slot), k113 v14 v15 = some (v9, v10) → H = s.heap → va_S A s.heap H locs → lv_has ls 6 [(0, .ref a_m), (1, .int p1), (2, .int p2), (3, .int v14), (4, .int v15), (5, .int v8)] → W p l e ({ frames := 2, cells := 0, slots := 0, locals := 45 } : Room) s m ([.ref a_m, .int p1, .int p2] : List Value).toArray below meth c H locs 0 0 Q (F0 m 113 ls []) := by
                intro v14 v15 H locs ls hf hHs hS hl
                subst hHs
                have hf := (ek113 v14 v15).symm.trans hf
                obtain ⟨v16, ev16, hf⟩ := q_nm_e hf
                refine lv_iinc (pc := 113) (v := v16) (lv' := [(5, .int v16), (0, .ref a_m), (1, .int p1), (2, .int p2), (3, .int v14), (4, .int v15)]) hx hb dX11_oldest_113 hl (k := 5) rfl (by rw [ev16]; rfl) (by decide) rfl (fun ls hl => ?_)
                refine lv_goto (pc := 116) (tgt := 29) hx hb dX11_oldest_116 (by decide) ?_
                exact ih29 v14 v15 v16 _ _ _ hf rfl hS (lv_sub hl [1, 2, 3, 4, 5, 0] rfl)
              refine q_icmp_ne (pc := 46) (tgt := 113) hx hb dX11_oldest_46 (by decide) rfl hf (fun hf => ?_) (fun hf => ?_)
              · exact J113 v6 v7 _ _ _ hf rfl hS (lv_sub hl [0, 1, 2, 3, 4, 5] rfl)
              · refine lv_iload_n (pc := 49) hx hb dX11_oldest_49 rfl (lv_at hl 3 rfl) ?_
                refine lv_iconst (pc := 50) (v := (-1)) hx hb dX11_oldest_50 (by decide) ?_
                obtain ⟨k73, ek73, hf⟩ := q_j0_e hf
                have J73 : ∀  (H : Heap) (locs : List Loc) (ls : Array Slot), k73 = some (v9, v10) → H = s.heap → va_S A s.heap H locs → lv_has ls 6 [(0, .ref a_m), (1, .int p1), (2, .int p2), (3, .int v6), (4, .int v7), (5, .int v8)] → W p l e ({ frames := 2, cells := 0, slots := 0, locals := 45 } : Room) s m ([.ref a_m, .int p1, .int p2] : List Value).toArray below meth c H locs 0 0 Q (F0 m 73 ls []) := by
                  intro  H locs ls hf hHs hS hl
                  subst hHs
                  have hf := (ek73).symm.trans hf
                  refine lv_iload_n (pc := 73) hx hb dX11_oldest_73 rfl (lv_at hl 3 rfl) ?_
                  refine lv_iconst (pc := 74) (v := (-1)) hx hb dX11_oldest_74 (by decide) ?_
                  obtain ⟨k102, ek102, hf⟩ := q_j1_e hf
                  have J102 : ∀ (v17 : Int32) (H : Heap) (locs : List Loc) (ls : Array Slot), k102 v17 = some (v9, v10) → H = s.heap → va_S A s.heap H locs → lv_has ls 6 [(0, .ref a_m), (1, .int p1), (2, .int p2), (3, .int v6), (5, .int v8)] → W p l e ({ frames := 2, cells := 0, slots := 0, locals := 45 } : Room) s m ([.ref a_m, .int p1, .int p2] : List Value).toArray below meth c H locs 0 0 Q (F0 m 102 ls [.int v17]) := by
                    intro v17 H locs ls hf hHs hS hl
                    subst hHs
                    have hf := (ek102 v17).symm.trans hf
                    refine lv_istore (pc := 102) (lv' := [(4, .int v17), (0, .ref a_m), (1, .int p1), (2, .int p2), (3, .int v6), (5, .int v8)]) hx hb dX11_oldest_102 hl (by decide) rfl (fun ls hl => ?_)
                    refine lv_iload (pc := 104) hx hb dX11_oldest_104 (lv_at hl 0 rfl) ?_
                    refine lv_iconst (pc := 106) (v := 1) hx hb dX11_oldest_106 (by decide) ?_
                    refine q_icmp_ne (pc := 107) (tgt := 113) hx hb dX11_oldest_107 (by decide) rfl hf (fun hf => ?_) (fun hf => ?_)
                    · exact J113 v6 v17 _ _ _ hf rfl hS (lv_sub hl [1, 2, 3, 4, 0, 5] rfl)
                    · refine lv_iload (pc := 110) hx hb dX11_oldest_110 (lv_at hl 5 rfl) ?_
                      refine lv_istore_n (pc := 112) (lv' := [(3, .int v8), (4, .int v17), (0, .ref a_m), (1, .int p1), (2, .int p2), (5, .int v8)]) hx hb dX11_oldest_112 rfl hl (by decide) rfl (fun ls hl => ?_)
                      exact J113 v8 v17 _ _ _ hf rfl hS (lv_sub hl [2, 3, 4, 0, 1, 5] rfl)
                  obtain ⟨k101, ek101, hf⟩ := q_j0_e hf
                  have J101 : ∀  (H : Heap) (locs : List Loc) (ls : Array Slot), k101 = some (v9, v10) → H = s.heap → va_S A s.heap H locs → lv_has ls 6 [(0, .ref a_m), (1, .int p1), (2, .int p2), (3, .int v6), (5, .int v8)] → W p l e ({ frames := 2, cells := 0, slots := 0, locals := 45 } : Room) s m ([.ref a_m, .int p1, .int p2] : List Value).toArray below meth c H locs 0 0 Q (F0 m 101 ls []) := by
                    intro  H locs ls hf hHs hS hl
                    subst hHs
                    have hf := (ek101).symm.trans hf
                    refine lv_iconst (pc := 101) (v := 1) hx hb dX11_oldest_101 (by decide) ?_
                    exact J102 1 _ _ _ hf rfl hS (lv_sub hl [0, 1, 2, 3, 4] rfl)
                  refine q_icmp_eq (pc := 75) (tgt := 101) hx hb dX11_oldest_75 (by decide) rfl hf (fun hf => ?_) (fun hf => ?_)
                  · exact J101  _ _ _ hf rfl hS (lv_sub hl [0, 1, 2, 3, 5] rfl)
                  · refine lv_aload_n (pc := 78) hx hb dX11_oldest_78 rfl (lv_at hl 0 rfl) ?_
                    refine va_get (pc := 79) (D := D) (ci := 11) (v := .ref a_m_pieceYear) (C := RX11) (T := TX11) (N := 42) hx hb hts hinX11 hown hK hP 0 rfl rfl 36 (by decide) w_4 (fun _ h9 => h9) rfl dX11_oldest_79 ?_
                    refine lv_iload (pc := 82) hx hb dX11_oldest_82 (lv_at hl 5 rfl) ?_
                    refine q_iald (pc := 84) hx hb hK hP 3 0 hf rfl rfl dX11_oldest_84 (fun v18 hf => ?_)
                    refine lv_aload_n (pc := 85) hx hb dX11_oldest_85 rfl (lv_at hl 0 rfl) ?_
                    refine va_get (pc := 86) (D := D) (ci := 11) (v := .ref a_m_pieceYear) (C := RX11) (T := TX11) (N := 42) hx hb hts hinX11 hown hK hP 0 rfl rfl 36 (by decide) w_4 (fun _ h9 => h9) rfl dX11_oldest_86 ?_
                    refine lv_iload_n (pc := 89) hx hb dX11_oldest_89 rfl (lv_at hl 3 rfl) ?_
                    refine q_iald (pc := 90) hx hb hK hP 3 0 hf rfl rfl dX11_oldest_90 (fun v19 hf => ?_)
                    refine q_icmp_ne (pc := 91) (tgt := 101) hx hb dX11_oldest_91 (by decide) rfl hf (fun hf => ?_) (fun hf => ?_)
                    · exact J101  _ _ _ hf rfl hS (lv_sub hl [0, 1, 2, 3, 5] rfl)
                    · refine lv_iload (pc := 94) hx hb dX11_oldest_94 (lv_at hl 4 rfl) ?_
                      refine lv_iconst (pc := 96) (v := 1) hx hb dX11_oldest_96 (by decide) ?_
                      refine lv_iadd (pc := 97) hx hb dX11_oldest_97 ?_
                      refine lv_goto (pc := 98) (tgt := 102) hx hb dX11_oldest_98 (by decide) ?_
                      exact J102 (v7 + 1) _ _ _ hf rfl hS (lv_sub hl [0, 1, 2, 3, 5] rfl)
                refine q_icmp_eq (pc := 51) (tgt := 73) hx hb dX11_oldest_51 (by decide) rfl hf (fun hf => ?_) (fun hf => ?_)
                · exact J73  _ _ _ hf rfl hS (lv_sub hl [0, 1, 2, 3, 4, 5] rfl)
                · refine lv_aload_n (pc := 54) hx hb dX11_oldest_54 rfl (lv_at hl 0 rfl) ?_
                  refine va_get (pc := 55) (D := D) (ci := 11) (v := .ref a_m_pieceYear) (C := RX11) (T := TX11) (N := 42) hx hb hts hinX11 hown hK hP 0 rfl rfl 36 (by decide) w_4 (fun _ h9 => h9) rfl dX11_oldest_55 ?_
                  refine lv_iload (pc := 58) hx hb dX11_oldest_58 (lv_at hl 5 rfl) ?_
                  refine q_iald (pc := 60) hx hb hK hP 3 0 hf rfl rfl dX11_oldest_60 (fun v20 hf => ?_)
                  refine lv_aload_n (pc := 61) hx hb dX11_oldest_61 rfl (lv_at hl 0 rfl) ?_
                  refine va_get (pc := 62) (D := D) (ci := 11) (v := .ref a_m_pieceYear) (C := RX11) (T := TX11) (N := 42) hx hb hts hinX11 hown hK hP 0 rfl rfl 36 (by decide) w_4 (fun _ h9 => h9) rfl dX11_oldest_62 ?_
                  refine lv_iload_n (pc := 65) hx hb dX11_oldest_65 rfl (lv_at hl 3 rfl) ?_
                  refine q_iald (pc := 66) hx hb hK hP 3 0 hf rfl rfl dX11_oldest_66 (fun v21 hf => ?_)
                  refine q_icmp_le (pc := 67) (tgt := 73) hx hb dX11_oldest_67 (by decide) rfl hf (fun hf => ?_) (fun hf => ?_)
                  · exact J73  _ _ _ hf rfl hS (lv_sub hl [0, 1, 2, 3, 4, 5] rfl)
                  · refine lv_goto (pc := 70) (tgt := 113) hx hb dX11_oldest_70 (by decide) ?_
                    exact J113 v6 v7 _ _ _ hf rfl hS (lv_sub hl [0, 1, 2, 3, 4, 5] rfl)
        exact LP29 N v3 v4 v5 _ _ _ hm29 rfl hS (lv_sub hl [3, 4, 5, 2, 1, 0] rfl)
      · refine lv_iconst (pc := 19) (v := (-1)) hx hb dX11_oldest_19 (by decide) ?_
        obtain rfl := Option.some.inj hf
        rw [hQ]
        exact q_iretr (pc := 20) hx hb hr hlocks rfl hS dX11_oldest_20
  exact hgo _ _ rfl hP hS
/-! X11_parent -/
set_option maxRecDepth 100000 in
set_option maxHeartbeats 4000000 in
theorem c_M_parent (l : Launch) (D : va_G) (ci : Nat → ClassId) (A : Nat → Prop) (sa : Nat → Nat) (N : Nat) (Rw : va_W) (a_m : Nat) (a_m_cutRows : Nat) (a_m_cutColumns : Nat) (a_m_deep : Nat) (a_m_wide : Nat) (a_m_zonesAhead : Nat) (a_m_nameOne : Nat) (a_m_nameOther : Nat) (a_m_tape : Nat) (a_m_edges : Nat) (a_m_dist : Nat) (a_m_queue : Nat) (a_m_pieceLevel : Nat) (a_m_pieceKey : Nat) (a_m_pieceYear : Nat) (a_m_drawnKeys : Nat) (a_m_kept : Nat) (a_m_noNumbers : Nat) (m_taped : Int32) (m_place : Int32) (m_fault : Int32) (m_number : Int32) (m_levelRead : Int32) (m_keyRead : Int32) (m_reads : Int32) (m_faults : Int32) (m_cutShort : Int32) (m_noNumber : Int32) (m_bottomLat : Int64) (m_bottomLon : Int64) (m_firstBeside : Int32) (m_manyBeside : Int32) (m_queued : Int32) (m_boxLevel : Int32) (m_boxTop : Int32) (m_boxBottom : Int32) (m_boxWest : Int32) (m_boxEast : Int32) (m_isEarly : Int32) (m_pieces : Int32) (m_states : Int32) (m_drawnNow : Int32) (m_keptAt : Int32) (m_deep : Nat → Int32) (m_wide : Nat → Int32) (m_zonesAhead : Nat → Int32) (p1 : Int32) (p2 : Int32) (p3 : Int32) (r : Int32) (hf : f_M_parent N m_deep m_wide m_zonesAhead p1 p2 p3 = some r) : Met l yX11_parent wsX11_parent ({ frames := 5, cells := 0, slots := 0, locals := 111 }) (va_Pc [.ref a_m, .int p1, .int p2, .int p3] (q_N D ci A sa ((a_m, .inr (11, (.ref a_m_cutRows :: .ref a_m_cutColumns :: .ref a_m_deep :: .ref a_m_wide :: .ref a_m_zonesAhead :: .ref a_m_nameOne :: .ref a_m_nameOther :: .ref a_m_tape :: .int m_taped :: .int m_place :: .int m_fault :: .int m_number :: .int m_levelRead :: .int m_keyRead :: .int m_reads :: .int m_faults :: .int m_cutShort :: .int m_noNumber :: .long m_bottomLat :: .long m_bottomLon :: .ref a_m_edges :: .int m_firstBeside :: .int m_manyBeside :: .ref a_m_dist :: .ref a_m_queue :: .int m_queued :: .int m_boxLevel :: .int m_boxTop :: .int m_boxBottom :: .int m_boxWest :: .int m_boxEast :: .int m_isEarly :: .int m_pieces :: .int m_states :: .ref a_m_pieceLevel :: .ref a_m_pieceKey :: .ref a_m_pieceYear :: .int m_drawnNow :: .ref a_m_drawnKeys :: .ref a_m_kept :: .int m_keptAt :: .ref a_m_noNumbers :: []))) :: (a_m_deep, .inl (ci 0, 5, .inl m_deep)) :: (a_m_wide, .inl (ci 0, 5, .inl m_wide)) :: (a_m_zonesAhead, .inl (ci 0, 45, .inl m_zonesAhead)) :: Rw))) (q_R (some (.int r))) 0 0 A := by
  refine q_ofW (cc := cX11_parent) (maxL := 4) (ret := (some .int)) [.ref a_m, .int p1, .int p2, .int p3] (plainFor_of_name (by decide)) rfl (Nat.le_of_ble_eq_true rfl) ?_
  intro p e s m below meth c ls Q hQ hx hb hml hr hts hown hlocks hK hA hZ hP hD hS hl
  have hl : lv_has ls 4 [(0, .ref a_m), (1, .int p1), (2, .int p2), (3, .int p3)] := hl
  have hown : s.vm.findClass RX11 = some m.cls := hown
  unfold f_M_parent at hf
  have hgo : ∀ (H : Heap) (locs : List Loc), H = s.heap → va_P D vwCl ((a_m, .inr (11, (.ref a_m_cutRows :: .ref a_m_cutColumns :: .ref a_m_deep :: .ref a_m_wide :: .ref a_m_zonesAhead :: .ref a_m_nameOne :: .ref a_m_nameOther :: .ref a_m_tape :: .int m_taped :: .int m_place :: .int m_fault :: .int m_number :: .int m_levelRead :: .int m_keyRead :: .int m_reads :: .int m_faults :: .int m_cutShort :: .int m_noNumber :: .long m_bottomLat :: .long m_bottomLon :: .ref a_m_edges :: .int m_firstBeside :: .int m_manyBeside :: .ref a_m_dist :: .ref a_m_queue :: .int m_queued :: .int m_boxLevel :: .int m_boxTop :: .int m_boxBottom :: .int m_boxWest :: .int m_boxEast :: .int m_isEarly :: .int m_pieces :: .int m_states :: .ref a_m_pieceLevel :: .ref a_m_pieceKey :: .ref a_m_pieceYear :: .int m_drawnNow :: .ref a_m_drawnKeys :: .ref a_m_kept :: .int m_keptAt :: .ref a_m_noNumbers :: []))) :: (a_m_deep, .inl (ci 0, 5, .inl m_deep)) :: (a_m_wide, .inl (ci 0, 5, .inl m_wide)) :: (a_m_zonesAhead, .inl (ci 0, 45, .inl m_zonesAhead)) :: Rw) H → va_S A s.heap H locs → W p l e ({ frames := 5, cells := 0, slots := 0, locals := 111 } : Room) s m ([.ref a_m, .int p1, .int p2, .int p3] : List Value).toArray below meth c H locs 0 0 Q (F0 m 0 ls []) := by
    intro H locs hH hP hS
    subst hH
    refine lv_aload_n (pc := 0) hx hb dX11_parent_0 rfl (lv_at hl 0 rfl) ?_
    refine lv_iload_n (pc := 1) hx hb dX11_parent_1 rfl (lv_at hl 1 rfl) ?_
    refine lv_iload_n (pc := 2) hx hb dX11_parent_2 rfl (lv_at hl 2 rfl) ?_
    obtain ⟨v1, hm3, hf⟩ := q_b1_e hf
    refine q_cVr (pc := 3) (As := [.int p1, .int p2]) (rest := []) (v0 := (some (.int v1))) ⟨hx, hb, hml, hown, hts⟩ hK hA hZ hP hD hS hl.1 [0, 1, 2, 3] 4 rfl ⟨rfl, rfl, rfl⟩ (c_M_isKey l D ci A sa N (Rw) a_m a_m_cutRows a_m_cutColumns a_m_deep a_m_wide a_m_zonesAhead a_m_nameOne a_m_nameOther a_m_tape a_m_edges a_m_dist a_m_queue a_m_pieceLevel a_m_pieceKey a_m_pieceYear a_m_drawnKeys a_m_kept a_m_noNumbers m_taped m_place m_fault m_number m_levelRead m_keyRead m_reads m_faults m_cutShort m_noNumber m_bottomLat m_bottomLon m_firstBeside m_manyBeside m_queued m_boxLevel m_boxTop m_boxBottom m_boxWest m_boxEast m_isEarly m_pieces m_states m_drawnNow m_keptAt m_deep m_wide m_zonesAhead p1 p2 v1 hm3) 0 rfl rfl (cwV 2 hts gX11_parent_X11_isKey rfl rfl rfl (by decide +kernel) ⟨Nat.le_of_ble_eq_true rfl, Nat.le_of_ble_eq_true rfl⟩) rfl rfl (Nat.le_of_ble_eq_true rfl) dX11_parent_3 ⟨Nat.zero_le _, Nat.zero_le _⟩ (fun locs hS => ?_)
    refine q_if_eq (pc := 6) (tgt := 30) hx hb dX11_parent_6 (by decide) rfl hf (fun hf => ?_) (fun hf => ?_)
    · refine lv_iconst (pc := 30) (v := (-1)) hx hb dX11_parent_30 (by decide) ?_
      obtain rfl := Option.some.inj hf
      rw [hQ]
      exact q_iretr (pc := 31) hx hb hr hlocks rfl hS dX11_parent_31
    · refine lv_iload_n (pc := 9) hx hb dX11_parent_9 rfl (lv_at hl 3 rfl) ?_
      refine lv_i2l (pc := 10) hx hb dX11_parent_10 rfl ?_
      refine lv_lconst (pc := 11) (v := 0) hx hb dX11_parent_11 (by decide) ?_
      refine lv_iload_n (pc := 12) hx hb dX11_parent_12 rfl (lv_at hl 1 rfl) ?_
      refine lv_i2l (pc := 13) hx hb dX11_parent_13 rfl ?_
      obtain ⟨v2, hm14, hf⟩ := q_b1_e hf
      refine q_cSr (pc := 14) (As := [.long p3.toInt64, .long 0, .long p1.toInt64]) (rest := []) (v0 := (some (.int v2))) ⟨hx, hb, hml, hown, hts⟩ hK hA hZ hP hD hS hl.1 [] 4 rfl ⟨rfl, rfl, rfl⟩ (c_M_in l D ci A sa N (Rw) p3.toInt64 0 p1.toInt64 v2 hm14) (va_cwS 3 hts gX11_parent_X11_in rfl rfl rfl (by decide +kernel) ⟨Nat.le_of_ble_eq_true rfl, Nat.le_of_ble_eq_true rfl⟩) rfl rfl (Nat.le_of_ble_eq_true rfl) dX11_parent_14 ⟨Nat.zero_le _, Nat.zero_le _⟩ (fun locs hS => ?_)
      refine q_if_eq (pc := 17) (tgt := 30) hx hb dX11_parent_17 (by decide) rfl hf (fun hf => ?_) (fun hf => ?_)
      · refine lv_iconst (pc := 30) (v := (-1)) hx hb dX11_parent_30 (by decide) ?_
        obtain rfl := Option.some.inj hf
        rw [hQ]
        exact q_iretr (pc := 31) hx hb hr hlocks rfl hS dX11_parent_31
      · refine lv_aload_n (pc := 20) hx hb dX11_parent_20 rfl (lv_at hl 0 rfl) ?_
        refine lv_iload_n (pc := 21) hx hb dX11_parent_21 rfl (lv_at hl 1 rfl) ?_
        refine lv_iload_n (pc := 22) hx hb dX11_parent_22 rfl (lv_at hl 2 rfl) ?_
        refine lv_iload_n (pc := 23) hx hb dX11_parent_23 rfl (lv_at hl 3 rfl) ?_
        obtain ⟨v3, hm24, hf⟩ := q_b1_e hf
        refine q_cVr (pc := 24) (As := [.int p1, .int p2, .int p3]) (rest := []) (v0 := (some (.int v3))) ⟨hx, hb, hml, hown, hts⟩ hK hA hZ hP hD hS hl.1 [0, 1, 2, 3] 4 rfl ⟨rfl, rfl, rfl⟩ (c_M_parentOf l D ci A sa N (Rw) a_m a_m_cutRows a_m_cutColumns a_m_deep a_m_wide a_m_zonesAhead a_m_nameOne a_m_nameOther a_m_tape a_m_edges a_m_dist a_m_queue a_m_pieceLevel a_m_pieceKey a_m_pieceYear a_m_drawnKeys a_m_kept a_m_noNumbers m_taped m_place m_fault m_number m_levelRead m_keyRead m_reads m_faults m_cutShort m_noNumber m_bottomLat m_bottomLon m_firstBeside m_manyBeside m_queued m_boxLevel m_boxTop m_boxBottom m_boxWest m_boxEast m_isEarly m_pieces m_states m_drawnNow m_keptAt m_deep m_wide m_zonesAhead p1 p2 p3 v3 hm24) 0 rfl rfl (cwV 3 hts gX11_parent_X11_parentOf rfl rfl rfl (by decide +kernel) ⟨Nat.le_of_ble_eq_true rfl, Nat.le_of_ble_eq_true rfl⟩) rfl rfl (Nat.le_of_ble_eq_true rfl) dX11_parent_24 ⟨Nat.zero_le _, Nat.zero_le _⟩ (fun locs hS => ?_)
        refine lv_goto (pc := 27) (tgt := 31) hx hb dX11_parent_27 (by decide) ?_
        obtain rfl := Option.some.inj hf
        rw [hQ]
        exact q_iretr (pc := 31) hx hb hr hlocks rfl hS dX11_parent_31
  exact hgo _ _ rfl hP hS
/-! X11_piece -/
set_option maxRecDepth 100000 in
set_option maxHeartbeats 4000000 in
theorem c_M_piece (l : Launch) (D : va_G) (ci : Nat → ClassId) (A : Nat → Prop) (sa : Nat → Nat) (N : Nat) (Rw : va_W) (a_m : Nat) (a_m_cutRows : Nat) (a_m_cutColumns : Nat) (a_m_deep : Nat) (a_m_wide : Nat) (a_m_zonesAhead : Nat) (a_m_nameOne : Nat) (a_m_nameOther : Nat) (a_m_tape : Nat) (a_m_edges : Nat) (a_m_dist : Nat) (a_m_queue : Nat) (a_m_pieceLevel : Nat) (a_m_pieceKey : Nat) (a_m_pieceYear : Nat) (a_m_drawnKeys : Nat) (a_m_kept : Nat) (a_m_noNumbers : Nat) (m_taped : Int32) (m_place : Int32) (m_fault : Int32) (m_number : Int32) (m_levelRead : Int32) (m_keyRead : Int32) (m_reads : Int32) (m_faults : Int32) (m_cutShort : Int32) (m_noNumber : Int32) (m_bottomLat : Int64) (m_bottomLon : Int64) (m_firstBeside : Int32) (m_manyBeside : Int32) (m_queued : Int32) (m_boxLevel : Int32) (m_boxTop : Int32) (m_boxBottom : Int32) (m_boxWest : Int32) (m_boxEast : Int32) (m_isEarly : Int32) (m_pieces : Int32) (m_states : Int32) (m_drawnNow : Int32) (m_keptAt : Int32) (m_pieceLevel : Nat → Int32) (m_pieceKey : Nat → Int32) (m_pieceYear : Nat → Int32) (p1 : Int32) (p2 : Int32) (r : Int32) (hf : f_M_piece m_pieces m_pieceLevel m_pieceKey m_pieceYear p1 p2 = some r) : Met l yX11_piece wsX11_piece ({ frames := 1, cells := 0, slots := 0, locals := 25 }) (va_Pc [.ref a_m, .int p1, .int p2] (q_N D ci A sa ((a_m, .inr (11, (.ref a_m_cutRows :: .ref a_m_cutColumns :: .ref a_m_deep :: .ref a_m_wide :: .ref a_m_zonesAhead :: .ref a_m_nameOne :: .ref a_m_nameOther :: .ref a_m_tape :: .int m_taped :: .int m_place :: .int m_fault :: .int m_number :: .int m_levelRead :: .int m_keyRead :: .int m_reads :: .int m_faults :: .int m_cutShort :: .int m_noNumber :: .long m_bottomLat :: .long m_bottomLon :: .ref a_m_edges :: .int m_firstBeside :: .int m_manyBeside :: .ref a_m_dist :: .ref a_m_queue :: .int m_queued :: .int m_boxLevel :: .int m_boxTop :: .int m_boxBottom :: .int m_boxWest :: .int m_boxEast :: .int m_isEarly :: .int m_pieces :: .int m_states :: .ref a_m_pieceLevel :: .ref a_m_pieceKey :: .ref a_m_pieceYear :: .int m_drawnNow :: .ref a_m_drawnKeys :: .ref a_m_kept :: .int m_keptAt :: .ref a_m_noNumbers :: []))) :: (a_m_pieceLevel, .inl (ci 0, 60, .inl m_pieceLevel)) :: (a_m_pieceKey, .inl (ci 0, 60, .inl m_pieceKey)) :: (a_m_pieceYear, .inl (ci 0, 60, .inl m_pieceYear)) :: Rw))) (q_R (some (.int r))) 0 0 A := by
  refine q_ofW (cc := cX11_piece) (maxL := 3) (ret := (some .int)) [.ref a_m, .int p1, .int p2] (plainFor_of_name (by decide)) rfl (Nat.le_of_ble_eq_true rfl) ?_
  intro p e s m below meth c ls Q hQ hx hb hml hr hts hown hlocks hK hA hZ hP hD hS hl
  have hl : lv_has ls 3 [(0, .ref a_m), (1, .int p1), (2, .int p2)] := hl
  have hown : s.vm.findClass RX11 = some m.cls := hown
  have hinX11 : ∀ w ∈ wsX110, w ∈ wsX11_piece := fun _ h => List.mem_cons_of_mem _ (inWX110 _ h)
  have w_1 := hts (Cond.constantLong RX11 127 (2)) (List.mem_cons_of_mem _ t_w945)
  have w_2 := hts (Cond.fieldLink RX11 123 "SheetNamesModel" "pieces" "I") (List.mem_cons_of_mem _ t_w972)
  have w_3 := hts (Cond.fieldLink RX11 45 "SheetNamesModel" "pieceLevel" "[I") (List.mem_cons_of_mem _ t_w982)
  have w_4 := hts (Cond.fieldLink RX11 48 "SheetNamesModel" "pieceKey" "[I") (List.mem_cons_of_mem _ t_w983)
  have w_5 := hts (Cond.fieldLink RX11 51 "SheetNamesModel" "pieceYear" "[I") (List.mem_cons_of_mem _ t_w984)
  unfold f_M_piece at hf
  have hgo : ∀ (H : Heap) (locs : List Loc), H = s.heap → va_P D vwCl ((a_m, .inr (11, (.ref a_m_cutRows :: .ref a_m_cutColumns :: .ref a_m_deep :: .ref a_m_wide :: .ref a_m_zonesAhead :: .ref a_m_nameOne :: .ref a_m_nameOther :: .ref a_m_tape :: .int m_taped :: .int m_place :: .int m_fault :: .int m_number :: .int m_levelRead :: .int m_keyRead :: .int m_reads :: .int m_faults :: .int m_cutShort :: .int m_noNumber :: .long m_bottomLat :: .long m_bottomLon :: .ref a_m_edges :: .int m_firstBeside :: .int m_manyBeside :: .ref a_m_dist :: .ref a_m_queue :: .int m_queued :: .int m_boxLevel :: .int m_boxTop :: .int m_boxBottom :: .int m_boxWest :: .int m_boxEast :: .int m_isEarly :: .int m_pieces :: .int m_states :: .ref a_m_pieceLevel :: .ref a_m_pieceKey :: .ref a_m_pieceYear :: .int m_drawnNow :: .ref a_m_drawnKeys :: .ref a_m_kept :: .int m_keptAt :: .ref a_m_noNumbers :: []))) :: (a_m_pieceLevel, .inl (ci 0, 60, .inl m_pieceLevel)) :: (a_m_pieceKey, .inl (ci 0, 60, .inl m_pieceKey)) :: (a_m_pieceYear, .inl (ci 0, 60, .inl m_pieceYear)) :: Rw) H → va_S A s.heap H locs → W p l e ({ frames := 1, cells := 0, slots := 0, locals := 25 } : Room) s m ([.ref a_m, .int p1, .int p2] : List Value).toArray below meth c H locs 0 0 Q (F0 m 0 ls []) := by
    intro H locs hH hP hS
    subst hH
    refine lv_iload_n (pc := 0) hx hb dX11_piece_0 rfl (lv_at hl 1 rfl) ?_
    refine q_if_lt (pc := 1) (tgt := 16) hx hb dX11_piece_1 (by decide) rfl hf (fun hf => ?_) (fun hf => ?_)
    · refine lv_iconst (pc := 16) (v := (-1)) hx hb dX11_piece_16 (by decide) ?_
      obtain rfl := Option.some.inj hf
      rw [hQ]
      exact q_iretr (pc := 17) hx hb hr hlocks rfl hS dX11_piece_17
    · refine lv_iload_n (pc := 4) hx hb dX11_piece_4 rfl (lv_at hl 2 rfl) ?_
      refine lv_i2l (pc := 5) hx hb dX11_piece_5 rfl ?_
      refine lv_lconst (pc := 6) (v := 0) hx hb dX11_piece_6 (by decide) ?_
      refine lv_ldc2 (pc := 7) (v := 2) hx hb hown w_1 dX11_piece_7 ?_
      obtain ⟨v1, hm10, hf⟩ := q_b1_e hf
      refine q_cSr (pc := 10) (As := [.long p2.toInt64, .long 0, .long 2]) (rest := []) (v0 := (some (.int v1))) ⟨hx, hb, hml, hown, hts⟩ hK hA hZ hP hD hS hl.1 [] 4 rfl ⟨rfl, rfl, rfl⟩ (c_M_in l D ci A sa N (Rw) p2.toInt64 0 2 v1 hm10) (va_cwS 3 hts gX11_piece_X11_in rfl rfl rfl (by decide +kernel) ⟨Nat.le_of_ble_eq_true rfl, Nat.le_of_ble_eq_true rfl⟩) rfl rfl (Nat.le_of_ble_eq_true rfl) dX11_piece_10 ⟨Nat.zero_le _, Nat.zero_le _⟩ (fun locs hS => ?_)
      refine q_if_ne (pc := 13) (tgt := 18) hx hb dX11_piece_13 (by decide) rfl hf (fun hf => ?_) (fun hf => ?_)
      · refine lv_iload_n (pc := 18) hx hb dX11_piece_18 rfl (lv_at hl 1 rfl) ?_
        refine lv_aload_n (pc := 19) hx hb dX11_piece_19 rfl (lv_at hl 0 rfl) ?_
        refine va_get (pc := 20) (D := D) (ci := 11) (v := .int m_pieces) (C := RX11) (T := TX11) (N := 42) hx hb hts hinX11 hown hK hP 0 rfl rfl 32 (by decide) w_2 (fun _ h9 => h9) rfl dX11_piece_20 ?_
        refine q_icmp_lt (pc := 23) (tgt := 29) hx hb dX11_piece_23 (by decide) rfl hf (fun hf => ?_) (fun hf => ?_)
        · refine lv_iload_n (pc := 29) hx hb dX11_piece_29 rfl (lv_at hl 2 rfl) ?_
          refine q_if_ne (pc := 30) (tgt := 42) hx hb dX11_piece_30 (by decide) rfl hf (fun hf => ?_) (fun hf => ?_)
          · refine lv_iload_n (pc := 42) hx hb dX11_piece_42 rfl (lv_at hl 2 rfl) ?_
            refine lv_iconst (pc := 43) (v := 1) hx hb dX11_piece_43 (by decide) ?_
            refine q_icmp_ne (pc := 44) (tgt := 56) hx hb dX11_piece_44 (by decide) rfl hf (fun hf => ?_) (fun hf => ?_)
            · refine lv_aload_n (pc := 56) hx hb dX11_piece_56 rfl (lv_at hl 0 rfl) ?_
              refine va_get (pc := 57) (D := D) (ci := 11) (v := .ref a_m_pieceYear) (C := RX11) (T := TX11) (N := 42) hx hb hts hinX11 hown hK hP 0 rfl rfl 36 (by decide) w_5 (fun _ h9 => h9) rfl dX11_piece_57 ?_
              refine lv_iload_n (pc := 60) hx hb dX11_piece_60 rfl (lv_at hl 1 rfl) ?_
              refine q_iald (pc := 61) hx hb hK hP 3 0 hf rfl rfl dX11_piece_61 (fun v2 hf => ?_)
              obtain rfl := Option.some.inj hf
              rw [hQ]
              exact q_iretr (pc := 62) hx hb hr hlocks rfl hS dX11_piece_62
            · refine lv_aload_n (pc := 47) hx hb dX11_piece_47 rfl (lv_at hl 0 rfl) ?_
              refine va_get (pc := 48) (D := D) (ci := 11) (v := .ref a_m_pieceKey) (C := RX11) (T := TX11) (N := 42) hx hb hts hinX11 hown hK hP 0 rfl rfl 35 (by decide) w_4 (fun _ h9 => h9) rfl dX11_piece_48 ?_
              refine lv_iload_n (pc := 51) hx hb dX11_piece_51 rfl (lv_at hl 1 rfl) ?_
              refine q_iald (pc := 52) hx hb hK hP 2 0 hf rfl rfl dX11_piece_52 (fun v3 hf => ?_)
              refine lv_goto (pc := 53) (tgt := 62) hx hb dX11_piece_53 (by decide) ?_
              obtain rfl := Option.some.inj hf
              rw [hQ]
              exact q_iretr (pc := 62) hx hb hr hlocks rfl hS dX11_piece_62
          · refine lv_aload_n (pc := 33) hx hb dX11_piece_33 rfl (lv_at hl 0 rfl) ?_
            refine va_get (pc := 34) (D := D) (ci := 11) (v := .ref a_m_pieceLevel) (C := RX11) (T := TX11) (N := 42) hx hb hts hinX11 hown hK hP 0 rfl rfl 34 (by decide) w_3 (fun _ h9 => h9) rfl dX11_piece_34 ?_
            refine lv_iload_n (pc := 37) hx hb dX11_piece_37 rfl (lv_at hl 1 rfl) ?_
            refine q_iald (pc := 38) hx hb hK hP 1 0 hf rfl rfl dX11_piece_38 (fun v4 hf => ?_)
            refine lv_goto (pc := 39) (tgt := 62) hx hb dX11_piece_39 (by decide) ?_
            obtain rfl := Option.some.inj hf
            rw [hQ]
            exact q_iretr (pc := 62) hx hb hr hlocks rfl hS dX11_piece_62
        · refine lv_bipush (pc := 26) (v := (-2)) hx hb dX11_piece_26 (by decide) ?_
          obtain rfl := Option.some.inj hf
          rw [hQ]
          exact q_iretr (pc := 28) hx hb hr hlocks rfl hS dX11_piece_28
      · refine lv_iconst (pc := 16) (v := (-1)) hx hb dX11_piece_16 (by decide) ?_
        obtain rfl := Option.some.inj hf
        rw [hQ]
        exact q_iretr (pc := 17) hx hb hr hlocks rfl hS dX11_piece_17
  exact hgo _ _ rfl hP hS
