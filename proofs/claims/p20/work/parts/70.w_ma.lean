/-! X11_sheets -/
set_option maxRecDepth 100000 in
set_option maxHeartbeats 4000000 in
theorem c_M_sheets (l : Launch) (D : va_G) (ci : Nat → ClassId) (A : Nat → Prop) (sa : Nat → Nat) (N : Nat) (Rw : va_W) (a_m : Nat) (a_m_cutRows : Nat) (a_m_cutColumns : Nat) (a_m_deep : Nat) (a_m_wide : Nat) (a_m_zonesAhead : Nat) (a_m_nameOne : Nat) (a_m_nameOther : Nat) (a_m_tape : Nat) (a_m_edges : Nat) (a_m_dist : Nat) (a_m_queue : Nat) (a_m_pieceLevel : Nat) (a_m_pieceKey : Nat) (a_m_pieceYear : Nat) (a_m_drawnKeys : Nat) (a_m_kept : Nat) (a_m_noNumbers : Nat) (m_taped : Int32) (m_place : Int32) (m_fault : Int32) (m_number : Int32) (m_levelRead : Int32) (m_keyRead : Int32) (m_reads : Int32) (m_faults : Int32) (m_cutShort : Int32) (m_noNumber : Int32) (m_bottomLat : Int64) (m_bottomLon : Int64) (m_firstBeside : Int32) (m_manyBeside : Int32) (m_queued : Int32) (m_boxLevel : Int32) (m_boxTop : Int32) (m_boxBottom : Int32) (m_boxWest : Int32) (m_boxEast : Int32) (m_isEarly : Int32) (m_pieces : Int32) (m_states : Int32) (m_drawnNow : Int32) (m_keptAt : Int32) (m_deep : Nat → Int32) (m_wide : Nat → Int32) (m_zonesAhead : Nat → Int32) (p1 : Int32) (r : Int32) (hf : f_M_sheets m_deep m_wide m_zonesAhead p1 = some r) : Met l yX11_sheets wsX11_sheets ({ frames := 0, cells := 0, slots := 0, locals := 0 }) (va_Pc [.ref a_m, .int p1] (q_N D ci A sa ((a_m, .inr (11, (.ref a_m_cutRows :: .ref a_m_cutColumns :: .ref a_m_deep :: .ref a_m_wide :: .ref a_m_zonesAhead :: .ref a_m_nameOne :: .ref a_m_nameOther :: .ref a_m_tape :: .int m_taped :: .int m_place :: .int m_fault :: .int m_number :: .int m_levelRead :: .int m_keyRead :: .int m_reads :: .int m_faults :: .int m_cutShort :: .int m_noNumber :: .long m_bottomLat :: .long m_bottomLon :: .ref a_m_edges :: .int m_firstBeside :: .int m_manyBeside :: .ref a_m_dist :: .ref a_m_queue :: .int m_queued :: .int m_boxLevel :: .int m_boxTop :: .int m_boxBottom :: .int m_boxWest :: .int m_boxEast :: .int m_isEarly :: .int m_pieces :: .int m_states :: .ref a_m_pieceLevel :: .ref a_m_pieceKey :: .ref a_m_pieceYear :: .int m_drawnNow :: .ref a_m_drawnKeys :: .ref a_m_kept :: .int m_keptAt :: .ref a_m_noNumbers :: []))) :: (a_m_deep, .inl (ci 0, 5, .inl m_deep)) :: (a_m_wide, .inl (ci 0, 5, .inl m_wide)) :: (a_m_zonesAhead, .inl (ci 0, 45, .inl m_zonesAhead)) :: Rw))) (q_R (some (.int r))) 0 0 A := by
  refine q_ofW (cc := cX11_sheets) (maxL := 2) (ret := (some .int)) [.ref a_m, .int p1] (plainFor_of_name (by decide)) rfl (Nat.le_of_ble_eq_true rfl) ?_
  intro p e s m below meth c ls Q hQ hx hb hml hr hts hown hlocks hK hA hZ hP hD hS hl
  have hl : lv_has ls 2 [(0, .ref a_m), (1, .int p1)] := hl
  have hown : s.vm.findClass RX11 = some m.cls := hown
  have hinX11 : ∀ w ∈ wsX110, w ∈ wsX11_sheets := fun _ h => List.mem_cons_of_mem _ (inWX110 _ h)
  have w_1 := hts (Cond.fieldLink RX11 16 "SheetNamesModel" "deep" "[I") (List.mem_cons_of_mem _ t_w908)
  have w_2 := hts (Cond.fieldLink RX11 19 "SheetNamesModel" "wide" "[I") (List.mem_cons_of_mem _ t_w909)
  have w_3 := hts (Cond.fieldLink RX11 22 "SheetNamesModel" "zonesAhead" "[I") (List.mem_cons_of_mem _ t_w910)
  unfold f_M_sheets at hf
  have hgo : ∀ (H : Heap) (locs : List Loc), H = s.heap → va_P D vwCl ((a_m, .inr (11, (.ref a_m_cutRows :: .ref a_m_cutColumns :: .ref a_m_deep :: .ref a_m_wide :: .ref a_m_zonesAhead :: .ref a_m_nameOne :: .ref a_m_nameOther :: .ref a_m_tape :: .int m_taped :: .int m_place :: .int m_fault :: .int m_number :: .int m_levelRead :: .int m_keyRead :: .int m_reads :: .int m_faults :: .int m_cutShort :: .int m_noNumber :: .long m_bottomLat :: .long m_bottomLon :: .ref a_m_edges :: .int m_firstBeside :: .int m_manyBeside :: .ref a_m_dist :: .ref a_m_queue :: .int m_queued :: .int m_boxLevel :: .int m_boxTop :: .int m_boxBottom :: .int m_boxWest :: .int m_boxEast :: .int m_isEarly :: .int m_pieces :: .int m_states :: .ref a_m_pieceLevel :: .ref a_m_pieceKey :: .ref a_m_pieceYear :: .int m_drawnNow :: .ref a_m_drawnKeys :: .ref a_m_kept :: .int m_keptAt :: .ref a_m_noNumbers :: []))) :: (a_m_deep, .inl (ci 0, 5, .inl m_deep)) :: (a_m_wide, .inl (ci 0, 5, .inl m_wide)) :: (a_m_zonesAhead, .inl (ci 0, 45, .inl m_zonesAhead)) :: Rw) H → va_S A s.heap H locs → W p l e ({ frames := 0, cells := 0, slots := 0, locals := 0 } : Room) s m ([.ref a_m, .int p1] : List Value).toArray below meth c H locs 0 0 Q (F0 m 0 ls []) := by
    intro H locs hH hP hS
    subst hH
    refine lv_iconst (pc := 0) (v := 2) hx hb dX11_sheets_0 (by decide) ?_
    refine lv_aload_n (pc := 1) hx hb dX11_sheets_1 rfl (lv_at hl 0 rfl) ?_
    refine va_get (pc := 2) (D := D) (ci := 11) (v := .ref a_m_deep) (C := RX11) (T := TX11) (N := 42) hx hb hts hinX11 hown hK hP 0 rfl rfl 2 (by decide) w_1 (fun _ h9 => h9) rfl dX11_sheets_2 ?_
    refine lv_iload_n (pc := 5) hx hb dX11_sheets_5 rfl (lv_at hl 1 rfl) ?_
    refine q_iald (pc := 6) hx hb hK hP 1 0 hf rfl rfl dX11_sheets_6 (fun v1 hf => ?_)
    refine lv_aload_n (pc := 7) hx hb dX11_sheets_7 rfl (lv_at hl 0 rfl) ?_
    refine va_get (pc := 8) (D := D) (ci := 11) (v := .ref a_m_wide) (C := RX11) (T := TX11) (N := 42) hx hb hts hinX11 hown hK hP 0 rfl rfl 3 (by decide) w_2 (fun _ h9 => h9) rfl dX11_sheets_8 ?_
    refine lv_iload_n (pc := 11) hx hb dX11_sheets_11 rfl (lv_at hl 1 rfl) ?_
    refine q_iald (pc := 12) hx hb hK hP 2 0 hf rfl rfl dX11_sheets_12 (fun v2 hf => ?_)
    refine lv_imul (pc := 13) hx hb dX11_sheets_13 ?_
    refine lv_aload_n (pc := 14) hx hb dX11_sheets_14 rfl (lv_at hl 0 rfl) ?_
    refine va_get (pc := 15) (D := D) (ci := 11) (v := .ref a_m_zonesAhead) (C := RX11) (T := TX11) (N := 42) hx hb hts hinX11 hown hK hP 0 rfl rfl 4 (by decide) w_3 (fun _ h9 => h9) rfl dX11_sheets_15 ?_
    refine lv_bipush (pc := 18) (v := 44) hx hb dX11_sheets_18 (by decide) ?_
    refine q_iald (pc := 20) hx hb hK hP 3 0 hf rfl rfl dX11_sheets_20 (fun v3 hf => ?_)
    refine lv_imul (pc := 21) hx hb dX11_sheets_21 ?_
    refine lv_iadd (pc := 22) hx hb dX11_sheets_22 ?_
    obtain rfl := Option.some.inj hf
    rw [hQ]
    exact q_iretr (pc := 23) hx hb hr hlocks rfl hS dX11_sheets_23
  exact hgo _ _ rfl hP hS
/-! X11_zonesOf -/
set_option maxRecDepth 100000 in
set_option maxHeartbeats 4000000 in
theorem c_M_zonesOf (l : Launch) (D : va_G) (ci : Nat → ClassId) (A : Nat → Prop) (sa : Nat → Nat) (N : Nat) (Rw : va_W) (p1 : Int32) (r : Int32) (hf : f_M_zonesOf p1 = some r) : Met l yX11_zonesOf wsX11_zonesOf ({ frames := 0, cells := 0, slots := 0, locals := 0 }) (va_Pc [.int p1] (q_N D ci A sa (Rw))) (q_R (some (.int r))) 0 0 A := by
  refine q_ofW (cc := cX11_zonesOf) (maxL := 2) (ret := (some .int)) [.int p1] (plainFor_of_name (by decide)) rfl (Nat.le_of_ble_eq_true rfl) ?_
  intro p e s m below meth c ls Q hQ hx hb hml hr hts hown hlocks hK hA hZ hP hD hS hl
  have hl : lv_has ls 2 [(0, .int p1)] := hl
  have hown : s.vm.findClass RX11 = some m.cls := hown
  unfold f_M_zonesOf at hf
  have hgo : ∀ (H : Heap) (locs : List Loc), H = s.heap → va_P D vwCl (Rw) H → va_S A s.heap H locs → W p l e ({ frames := 0, cells := 0, slots := 0, locals := 0 } : Room) s m ([.int p1] : List Value).toArray below meth c H locs 0 0 Q (F0 m 0 ls []) := by
    intro H locs hH hP hS
    subst hH
    refine lv_iload_n (pc := 0) hx hb dX11_zonesOf_0 rfl (lv_at hl 0 rfl) ?_
    refine lv_bipush (pc := 1) (v := 22) hx hb dX11_zonesOf_1 (by decide) ?_
    obtain ⟨k17, ek17, hf⟩ := q_j1_e hf
    have J17 : ∀ (v1 : Int32) (H : Heap) (locs : List Loc) (ls : Array Slot), k17 v1 = some r → H = s.heap → va_S A s.heap H locs → lv_has ls 2 [] → W p l e ({ frames := 0, cells := 0, slots := 0, locals := 0 } : Room) s m ([.int p1] : List Value).toArray below meth c H locs 0 0 Q (F0 m 17 ls [.int v1]) := by
      intro v1 H locs ls hf hHs hS hl
      subst hHs
      have hf := (ek17 v1).symm.trans hf
      refine lv_istore_n (pc := 17) (lv' := [(1, .int v1)]) hx hb dX11_zonesOf_17 rfl hl (by decide) rfl (fun ls hl => ?_)
      refine lv_iload_n (pc := 18) hx hb dX11_zonesOf_18 rfl (lv_at hl 0 rfl) ?_
      refine lv_bipush (pc := 19) (v := 15) hx hb dX11_zonesOf_19 (by decide) ?_
      refine q_icmp_ge (pc := 21) (tgt := 29) hx hb dX11_zonesOf_21 (by decide) rfl hf (fun hf => ?_) (fun hf => ?_)
      · refine lv_iload_n (pc := 29) hx hb dX11_zonesOf_29 rfl (lv_at hl 0 rfl) ?_
        refine lv_bipush (pc := 30) (v := 19) hx hb dX11_zonesOf_30 (by decide) ?_
        refine q_icmp_ge (pc := 32) (tgt := 40) hx hb dX11_zonesOf_32 (by decide) rfl hf (fun hf => ?_) (fun hf => ?_)
        · refine lv_bipush (pc := 40) (v := 15) hx hb dX11_zonesOf_40 (by decide) ?_
          obtain rfl := Option.some.inj hf
          rw [hQ]
          exact q_iretr (pc := 42) hx hb hr hlocks rfl hS dX11_zonesOf_42
        · refine lv_bipush (pc := 35) (v := 30) hx hb dX11_zonesOf_35 (by decide) ?_
          refine lv_goto (pc := 37) (tgt := 42) hx hb dX11_zonesOf_37 (by decide) ?_
          obtain rfl := Option.some.inj hf
          rw [hQ]
          exact q_iretr (pc := 42) hx hb hr hlocks rfl hS dX11_zonesOf_42
      · refine lv_bipush (pc := 24) (v := 60) hx hb dX11_zonesOf_24 (by decide) ?_
        refine lv_goto (pc := 26) (tgt := 42) hx hb dX11_zonesOf_26 (by decide) ?_
        obtain rfl := Option.some.inj hf
        rw [hQ]
        exact q_iretr (pc := 42) hx hb hr hlocks rfl hS dX11_zonesOf_42
    refine q_icmp_ge (pc := 3) (tgt := 13) hx hb dX11_zonesOf_3 (by decide) rfl hf (fun hf => ?_) (fun hf => ?_)
    · refine lv_iload_n (pc := 13) hx hb dX11_zonesOf_13 rfl (lv_at hl 0 rfl) ?_
      refine lv_bipush (pc := 14) (v := 22) hx hb dX11_zonesOf_14 (by decide) ?_
      refine lv_isub (pc := 16) hx hb dX11_zonesOf_16 ?_
      exact J17 (p1 - 22) _ _ _ hf rfl hS (lv_sub hl [] rfl)
    · refine lv_bipush (pc := 6) (v := 21) hx hb dX11_zonesOf_6 (by decide) ?_
      refine lv_iload_n (pc := 8) hx hb dX11_zonesOf_8 rfl (lv_at hl 0 rfl) ?_
      refine lv_isub (pc := 9) hx hb dX11_zonesOf_9 ?_
      refine lv_goto (pc := 10) (tgt := 17) hx hb dX11_zonesOf_10 (by decide) ?_
      exact J17 (21 - p1) _ _ _ hf rfl hS (lv_sub hl [] rfl)
  exact hgo _ _ rfl hP hS
/-! X11_rows -/
set_option maxRecDepth 100000 in
set_option maxHeartbeats 4000000 in
theorem c_M_rows (l : Launch) (D : va_G) (ci : Nat → ClassId) (A : Nat → Prop) (sa : Nat → Nat) (N : Nat) (Rw : va_W) (a_m : Nat) (a_m_cutRows : Nat) (a_m_cutColumns : Nat) (a_m_deep : Nat) (a_m_wide : Nat) (a_m_zonesAhead : Nat) (a_m_nameOne : Nat) (a_m_nameOther : Nat) (a_m_tape : Nat) (a_m_edges : Nat) (a_m_dist : Nat) (a_m_queue : Nat) (a_m_pieceLevel : Nat) (a_m_pieceKey : Nat) (a_m_pieceYear : Nat) (a_m_drawnKeys : Nat) (a_m_kept : Nat) (a_m_noNumbers : Nat) (m_taped : Int32) (m_place : Int32) (m_fault : Int32) (m_number : Int32) (m_levelRead : Int32) (m_keyRead : Int32) (m_reads : Int32) (m_faults : Int32) (m_cutShort : Int32) (m_noNumber : Int32) (m_bottomLat : Int64) (m_bottomLon : Int64) (m_firstBeside : Int32) (m_manyBeside : Int32) (m_queued : Int32) (m_boxLevel : Int32) (m_boxTop : Int32) (m_boxBottom : Int32) (m_boxWest : Int32) (m_boxEast : Int32) (m_isEarly : Int32) (m_pieces : Int32) (m_states : Int32) (m_drawnNow : Int32) (m_keptAt : Int32) (m_deep : Nat → Int32) (p1 : Int32) (r : Int32) (hf : f_M_rows m_deep p1 = some r) : Met l yX11_rows wsX11_rows ({ frames := 0, cells := 0, slots := 0, locals := 0 }) (va_Pc [.ref a_m, .int p1] (q_N D ci A sa ((a_m, .inr (11, (.ref a_m_cutRows :: .ref a_m_cutColumns :: .ref a_m_deep :: .ref a_m_wide :: .ref a_m_zonesAhead :: .ref a_m_nameOne :: .ref a_m_nameOther :: .ref a_m_tape :: .int m_taped :: .int m_place :: .int m_fault :: .int m_number :: .int m_levelRead :: .int m_keyRead :: .int m_reads :: .int m_faults :: .int m_cutShort :: .int m_noNumber :: .long m_bottomLat :: .long m_bottomLon :: .ref a_m_edges :: .int m_firstBeside :: .int m_manyBeside :: .ref a_m_dist :: .ref a_m_queue :: .int m_queued :: .int m_boxLevel :: .int m_boxTop :: .int m_boxBottom :: .int m_boxWest :: .int m_boxEast :: .int m_isEarly :: .int m_pieces :: .int m_states :: .ref a_m_pieceLevel :: .ref a_m_pieceKey :: .ref a_m_pieceYear :: .int m_drawnNow :: .ref a_m_drawnKeys :: .ref a_m_kept :: .int m_keptAt :: .ref a_m_noNumbers :: []))) :: (a_m_deep, .inl (ci 0, 5, .inl m_deep)) :: Rw))) (q_R (some (.int r))) 0 0 A := by
  refine q_ofW (cc := cX11_rows) (maxL := 2) (ret := (some .int)) [.ref a_m, .int p1] (plainFor_of_name (by decide)) rfl (Nat.le_of_ble_eq_true rfl) ?_
  intro p e s m below meth c ls Q hQ hx hb hml hr hts hown hlocks hK hA hZ hP hD hS hl
  have hl : lv_has ls 2 [(0, .ref a_m), (1, .int p1)] := hl
  have hown : s.vm.findClass RX11 = some m.cls := hown
  have hinX11 : ∀ w ∈ wsX110, w ∈ wsX11_rows := fun _ h => List.mem_cons_of_mem _ (inWX110 _ h)
  have w_1 := hts (Cond.fieldLink RX11 16 "SheetNamesModel" "deep" "[I") (List.mem_cons_of_mem _ t_w908)
  unfold f_M_rows at hf
  have hgo : ∀ (H : Heap) (locs : List Loc), H = s.heap → va_P D vwCl ((a_m, .inr (11, (.ref a_m_cutRows :: .ref a_m_cutColumns :: .ref a_m_deep :: .ref a_m_wide :: .ref a_m_zonesAhead :: .ref a_m_nameOne :: .ref a_m_nameOther :: .ref a_m_tape :: .int m_taped :: .int m_place :: .int m_fault :: .int m_number :: .int m_levelRead :: .int m_keyRead :: .int m_reads :: .int m_faults :: .int m_cutShort :: .int m_noNumber :: .long m_bottomLat :: .long m_bottomLon :: .ref a_m_edges :: .int m_firstBeside :: .int m_manyBeside :: .ref a_m_dist :: .ref a_m_queue :: .int m_queued :: .int m_boxLevel :: .int m_boxTop :: .int m_boxBottom :: .int m_boxWest :: .int m_boxEast :: .int m_isEarly :: .int m_pieces :: .int m_states :: .ref a_m_pieceLevel :: .ref a_m_pieceKey :: .ref a_m_pieceYear :: .int m_drawnNow :: .ref a_m_drawnKeys :: .ref a_m_kept :: .int m_keptAt :: .ref a_m_noNumbers :: []))) :: (a_m_deep, .inl (ci 0, 5, .inl m_deep)) :: Rw) H → va_S A s.heap H locs → W p l e ({ frames := 0, cells := 0, slots := 0, locals := 0 } : Room) s m ([.ref a_m, .int p1] : List Value).toArray below meth c H locs 0 0 Q (F0 m 0 ls []) := by
    intro H locs hH hP hS
    subst hH
    refine lv_iconst (pc := 0) (v := 2) hx hb dX11_rows_0 (by decide) ?_
    refine lv_bipush (pc := 1) (v := 44) hx hb dX11_rows_1 (by decide) ?_
    refine lv_aload_n (pc := 3) hx hb dX11_rows_3 rfl (lv_at hl 0 rfl) ?_
    refine va_get (pc := 4) (D := D) (ci := 11) (v := .ref a_m_deep) (C := RX11) (T := TX11) (N := 42) hx hb hts hinX11 hown hK hP 0 rfl rfl 2 (by decide) w_1 (fun _ h9 => h9) rfl dX11_rows_4 ?_
    refine lv_iload_n (pc := 7) hx hb dX11_rows_7 rfl (lv_at hl 1 rfl) ?_
    refine q_iald (pc := 8) hx hb hK hP 1 0 hf rfl rfl dX11_rows_8 (fun v1 hf => ?_)
    refine lv_imul (pc := 9) hx hb dX11_rows_9 ?_
    refine lv_iadd (pc := 10) hx hb dX11_rows_10 ?_
    obtain rfl := Option.some.inj hf
    rw [hQ]
    exact q_iretr (pc := 11) hx hb hr hlocks rfl hS dX11_rows_11
  exact hgo _ _ rfl hP hS
/-! X11_lastRow -/
set_option maxRecDepth 100000 in
set_option maxHeartbeats 4000000 in
theorem c_M_lastRow (l : Launch) (D : va_G) (ci : Nat → ClassId) (A : Nat → Prop) (sa : Nat → Nat) (N : Nat) (Rw : va_W) (a_m : Nat) (a_m_cutRows : Nat) (a_m_cutColumns : Nat) (a_m_deep : Nat) (a_m_wide : Nat) (a_m_zonesAhead : Nat) (a_m_nameOne : Nat) (a_m_nameOther : Nat) (a_m_tape : Nat) (a_m_edges : Nat) (a_m_dist : Nat) (a_m_queue : Nat) (a_m_pieceLevel : Nat) (a_m_pieceKey : Nat) (a_m_pieceYear : Nat) (a_m_drawnKeys : Nat) (a_m_kept : Nat) (a_m_noNumbers : Nat) (m_taped : Int32) (m_place : Int32) (m_fault : Int32) (m_number : Int32) (m_levelRead : Int32) (m_keyRead : Int32) (m_reads : Int32) (m_faults : Int32) (m_cutShort : Int32) (m_noNumber : Int32) (m_bottomLat : Int64) (m_bottomLon : Int64) (m_firstBeside : Int32) (m_manyBeside : Int32) (m_queued : Int32) (m_boxLevel : Int32) (m_boxTop : Int32) (m_boxBottom : Int32) (m_boxWest : Int32) (m_boxEast : Int32) (m_isEarly : Int32) (m_pieces : Int32) (m_states : Int32) (m_drawnNow : Int32) (m_keptAt : Int32) (m_deep : Nat → Int32) (p1 : Int32) (r : Int32) (hf : f_M_lastRow m_deep p1 = some r) : Met l yX11_lastRow wsX11_lastRow ({ frames := 1, cells := 0, slots := 0, locals := 21 }) (va_Pc [.ref a_m, .int p1] (q_N D ci A sa ((a_m, .inr (11, (.ref a_m_cutRows :: .ref a_m_cutColumns :: .ref a_m_deep :: .ref a_m_wide :: .ref a_m_zonesAhead :: .ref a_m_nameOne :: .ref a_m_nameOther :: .ref a_m_tape :: .int m_taped :: .int m_place :: .int m_fault :: .int m_number :: .int m_levelRead :: .int m_keyRead :: .int m_reads :: .int m_faults :: .int m_cutShort :: .int m_noNumber :: .long m_bottomLat :: .long m_bottomLon :: .ref a_m_edges :: .int m_firstBeside :: .int m_manyBeside :: .ref a_m_dist :: .ref a_m_queue :: .int m_queued :: .int m_boxLevel :: .int m_boxTop :: .int m_boxBottom :: .int m_boxWest :: .int m_boxEast :: .int m_isEarly :: .int m_pieces :: .int m_states :: .ref a_m_pieceLevel :: .ref a_m_pieceKey :: .ref a_m_pieceYear :: .int m_drawnNow :: .ref a_m_drawnKeys :: .ref a_m_kept :: .int m_keptAt :: .ref a_m_noNumbers :: []))) :: (a_m_deep, .inl (ci 0, 5, .inl m_deep)) :: Rw))) (q_R (some (.int r))) 0 0 A := by
  refine q_ofW (cc := cX11_lastRow) (maxL := 2) (ret := (some .int)) [.ref a_m, .int p1] (plainFor_of_name (by decide)) rfl (Nat.le_of_ble_eq_true rfl) ?_
  intro p e s m below meth c ls Q hQ hx hb hml hr hts hown hlocks hK hA hZ hP hD hS hl
  have hl : lv_has ls 2 [(0, .ref a_m), (1, .int p1)] := hl
  have hown : s.vm.findClass RX11 = some m.cls := hown
  unfold f_M_lastRow at hf
  have hgo : ∀ (H : Heap) (locs : List Loc), H = s.heap → va_P D vwCl ((a_m, .inr (11, (.ref a_m_cutRows :: .ref a_m_cutColumns :: .ref a_m_deep :: .ref a_m_wide :: .ref a_m_zonesAhead :: .ref a_m_nameOne :: .ref a_m_nameOther :: .ref a_m_tape :: .int m_taped :: .int m_place :: .int m_fault :: .int m_number :: .int m_levelRead :: .int m_keyRead :: .int m_reads :: .int m_faults :: .int m_cutShort :: .int m_noNumber :: .long m_bottomLat :: .long m_bottomLon :: .ref a_m_edges :: .int m_firstBeside :: .int m_manyBeside :: .ref a_m_dist :: .ref a_m_queue :: .int m_queued :: .int m_boxLevel :: .int m_boxTop :: .int m_boxBottom :: .int m_boxWest :: .int m_boxEast :: .int m_isEarly :: .int m_pieces :: .int m_states :: .ref a_m_pieceLevel :: .ref a_m_pieceKey :: .ref a_m_pieceYear :: .int m_drawnNow :: .ref a_m_drawnKeys :: .ref a_m_kept :: .int m_keptAt :: .ref a_m_noNumbers :: []))) :: (a_m_deep, .inl (ci 0, 5, .inl m_deep)) :: Rw) H → va_S A s.heap H locs → W p l e ({ frames := 1, cells := 0, slots := 0, locals := 21 } : Room) s m ([.ref a_m, .int p1] : List Value).toArray below meth c H locs 0 0 Q (F0 m 0 ls []) := by
    intro H locs hH hP hS
    subst hH
    refine lv_aload_n (pc := 0) hx hb dX11_lastRow_0 rfl (lv_at hl 0 rfl) ?_
    refine lv_iload_n (pc := 1) hx hb dX11_lastRow_1 rfl (lv_at hl 1 rfl) ?_
    obtain ⟨v1, hm2, hf⟩ := q_b1_e hf
    refine q_cVr (pc := 2) (As := [.int p1]) (rest := []) (v0 := (some (.int v1))) ⟨hx, hb, hml, hown, hts⟩ hK hA hZ hP hD hS hl.1 [0, 1] 2 rfl ⟨rfl, rfl, rfl⟩ (c_M_rows l D ci A sa N (Rw) a_m a_m_cutRows a_m_cutColumns a_m_deep a_m_wide a_m_zonesAhead a_m_nameOne a_m_nameOther a_m_tape a_m_edges a_m_dist a_m_queue a_m_pieceLevel a_m_pieceKey a_m_pieceYear a_m_drawnKeys a_m_kept a_m_noNumbers m_taped m_place m_fault m_number m_levelRead m_keyRead m_reads m_faults m_cutShort m_noNumber m_bottomLat m_bottomLon m_firstBeside m_manyBeside m_queued m_boxLevel m_boxTop m_boxBottom m_boxWest m_boxEast m_isEarly m_pieces m_states m_drawnNow m_keptAt m_deep p1 v1 hm2) 0 rfl rfl (cwV 1 hts gX11_lastRow_X11_rows rfl rfl rfl (by decide +kernel) ⟨Nat.le_of_ble_eq_true rfl, Nat.le_of_ble_eq_true rfl⟩) rfl rfl (Nat.le_of_ble_eq_true rfl) dX11_lastRow_2 ⟨Nat.zero_le _, Nat.zero_le _⟩ (fun locs hS => ?_)
    refine lv_iconst (pc := 5) (v := 1) hx hb dX11_lastRow_5 (by decide) ?_
    refine lv_isub (pc := 6) hx hb dX11_lastRow_6 ?_
    obtain rfl := Option.some.inj hf
    rw [hQ]
    exact q_iretr (pc := 7) hx hb hr hlocks rfl hS dX11_lastRow_7
  exact hgo _ _ rfl hP hS
/-! X11_rowOf -/
set_option maxRecDepth 100000 in
set_option maxHeartbeats 4000000 in
theorem c_M_rowOf (l : Launch) (D : va_G) (ci : Nat → ClassId) (A : Nat → Prop) (sa : Nat → Nat) (N : Nat) (Rw : va_W) (a_m : Nat) (a_m_cutRows : Nat) (a_m_cutColumns : Nat) (a_m_deep : Nat) (a_m_wide : Nat) (a_m_zonesAhead : Nat) (a_m_nameOne : Nat) (a_m_nameOther : Nat) (a_m_tape : Nat) (a_m_edges : Nat) (a_m_dist : Nat) (a_m_queue : Nat) (a_m_pieceLevel : Nat) (a_m_pieceKey : Nat) (a_m_pieceYear : Nat) (a_m_drawnKeys : Nat) (a_m_kept : Nat) (a_m_noNumbers : Nat) (m_taped : Int32) (m_place : Int32) (m_fault : Int32) (m_number : Int32) (m_levelRead : Int32) (m_keyRead : Int32) (m_reads : Int32) (m_faults : Int32) (m_cutShort : Int32) (m_noNumber : Int32) (m_bottomLat : Int64) (m_bottomLon : Int64) (m_firstBeside : Int32) (m_manyBeside : Int32) (m_queued : Int32) (m_boxLevel : Int32) (m_boxTop : Int32) (m_boxBottom : Int32) (m_boxWest : Int32) (m_boxEast : Int32) (m_isEarly : Int32) (m_pieces : Int32) (m_states : Int32) (m_drawnNow : Int32) (m_keptAt : Int32) (m_deep : Nat → Int32) (m_wide : Nat → Int32) (m_zonesAhead : Nat → Int32) (p1 : Int32) (p2 : Int32) (r : Int32) (hf : f_M_rowOf N m_deep m_wide m_zonesAhead p1 p2 = some r) : Met l yX11_rowOf wsX11_rowOf ({ frames := 2, cells := 0, slots := 0, locals := 42 }) (va_Pc [.ref a_m, .int p1, .int p2] (q_N D ci A sa ((a_m, .inr (11, (.ref a_m_cutRows :: .ref a_m_cutColumns :: .ref a_m_deep :: .ref a_m_wide :: .ref a_m_zonesAhead :: .ref a_m_nameOne :: .ref a_m_nameOther :: .ref a_m_tape :: .int m_taped :: .int m_place :: .int m_fault :: .int m_number :: .int m_levelRead :: .int m_keyRead :: .int m_reads :: .int m_faults :: .int m_cutShort :: .int m_noNumber :: .long m_bottomLat :: .long m_bottomLon :: .ref a_m_edges :: .int m_firstBeside :: .int m_manyBeside :: .ref a_m_dist :: .ref a_m_queue :: .int m_queued :: .int m_boxLevel :: .int m_boxTop :: .int m_boxBottom :: .int m_boxWest :: .int m_boxEast :: .int m_isEarly :: .int m_pieces :: .int m_states :: .ref a_m_pieceLevel :: .ref a_m_pieceKey :: .ref a_m_pieceYear :: .int m_drawnNow :: .ref a_m_drawnKeys :: .ref a_m_kept :: .int m_keptAt :: .ref a_m_noNumbers :: []))) :: (a_m_deep, .inl (ci 0, 5, .inl m_deep)) :: (a_m_wide, .inl (ci 0, 5, .inl m_wide)) :: (a_m_zonesAhead, .inl (ci 0, 45, .inl m_zonesAhead)) :: Rw))) (q_R (some (.int r))) 0 0 A := by
  refine q_ofW (cc := cX11_rowOf) (maxL := 5) (ret := (some .int)) [.ref a_m, .int p1, .int p2] (plainFor_of_name (by decide)) rfl (Nat.le_of_ble_eq_true rfl) ?_
  intro p e s m below meth c ls Q hQ hx hb hml hr hts hown hlocks hK hA hZ hP hD hS hl
  have hl : lv_has ls 5 [(0, .ref a_m), (1, .int p1), (2, .int p2)] := hl
  have hown : s.vm.findClass RX11 = some m.cls := hown
  have hinX11 : ∀ w ∈ wsX110, w ∈ wsX11_rowOf := fun _ h => List.mem_cons_of_mem _ (inWX110 _ h)
  have w_1 := hts (Cond.fieldLink RX11 16 "SheetNamesModel" "deep" "[I") (List.mem_cons_of_mem _ t_w908)
  have w_2 := hts (Cond.fieldLink RX11 19 "SheetNamesModel" "wide" "[I") (List.mem_cons_of_mem _ t_w909)
  have w_3 := hts (Cond.fieldLink RX11 22 "SheetNamesModel" "zonesAhead" "[I") (List.mem_cons_of_mem _ t_w910)
  unfold f_M_rowOf at hf
  have hgo : ∀ (H : Heap) (locs : List Loc), H = s.heap → va_P D vwCl ((a_m, .inr (11, (.ref a_m_cutRows :: .ref a_m_cutColumns :: .ref a_m_deep :: .ref a_m_wide :: .ref a_m_zonesAhead :: .ref a_m_nameOne :: .ref a_m_nameOther :: .ref a_m_tape :: .int m_taped :: .int m_place :: .int m_fault :: .int m_number :: .int m_levelRead :: .int m_keyRead :: .int m_reads :: .int m_faults :: .int m_cutShort :: .int m_noNumber :: .long m_bottomLat :: .long m_bottomLon :: .ref a_m_edges :: .int m_firstBeside :: .int m_manyBeside :: .ref a_m_dist :: .ref a_m_queue :: .int m_queued :: .int m_boxLevel :: .int m_boxTop :: .int m_boxBottom :: .int m_boxWest :: .int m_boxEast :: .int m_isEarly :: .int m_pieces :: .int m_states :: .ref a_m_pieceLevel :: .ref a_m_pieceKey :: .ref a_m_pieceYear :: .int m_drawnNow :: .ref a_m_drawnKeys :: .ref a_m_kept :: .int m_keptAt :: .ref a_m_noNumbers :: []))) :: (a_m_deep, .inl (ci 0, 5, .inl m_deep)) :: (a_m_wide, .inl (ci 0, 5, .inl m_wide)) :: (a_m_zonesAhead, .inl (ci 0, 45, .inl m_zonesAhead)) :: Rw) H → va_S A s.heap H locs → W p l e ({ frames := 2, cells := 0, slots := 0, locals := 42 } : Room) s m ([.ref a_m, .int p1, .int p2] : List Value).toArray below meth c H locs 0 0 Q (F0 m 0 ls []) := by
    intro H locs hH hP hS
    subst hH
    refine lv_iload_n (pc := 0) hx hb dX11_rowOf_0 rfl (lv_at hl 2 rfl) ?_
    refine q_if_ne (pc := 1) (tgt := 6) hx hb dX11_rowOf_1 (by decide) rfl hf (fun hf => ?_) (fun hf => ?_)
    · refine lv_iload_n (pc := 6) hx hb dX11_rowOf_6 rfl (lv_at hl 2 rfl) ?_
      refine lv_aload_n (pc := 7) hx hb dX11_rowOf_7 rfl (lv_at hl 0 rfl) ?_
      refine lv_iload_n (pc := 8) hx hb dX11_rowOf_8 rfl (lv_at hl 1 rfl) ?_
      obtain ⟨v1, hm9, hf⟩ := q_b1_e hf
      refine q_cVr (pc := 9) (As := [.int p1]) (rest := [.int p2]) (v0 := (some (.int v1))) ⟨hx, hb, hml, hown, hts⟩ hK hA hZ hP hD hS hl.1 [0, 1, 2, 3] 4 rfl ⟨rfl, rfl, rfl⟩ (c_M_sheets l D ci A sa N (Rw) a_m a_m_cutRows a_m_cutColumns a_m_deep a_m_wide a_m_zonesAhead a_m_nameOne a_m_nameOther a_m_tape a_m_edges a_m_dist a_m_queue a_m_pieceLevel a_m_pieceKey a_m_pieceYear a_m_drawnKeys a_m_kept a_m_noNumbers m_taped m_place m_fault m_number m_levelRead m_keyRead m_reads m_faults m_cutShort m_noNumber m_bottomLat m_bottomLon m_firstBeside m_manyBeside m_queued m_boxLevel m_boxTop m_boxBottom m_boxWest m_boxEast m_isEarly m_pieces m_states m_drawnNow m_keptAt m_deep m_wide m_zonesAhead p1 v1 hm9) 0 rfl rfl (cwV 1 hts gX11_rowOf_X11_sheets rfl rfl rfl (by decide +kernel) ⟨Nat.le_of_ble_eq_true rfl, Nat.le_of_ble_eq_true rfl⟩) rfl rfl (Nat.le_of_ble_eq_true rfl) dX11_rowOf_9 ⟨Nat.zero_le _, Nat.zero_le _⟩ (fun locs hS => ?_)
      refine lv_iconst (pc := 12) (v := 1) hx hb dX11_rowOf_12 (by decide) ?_
      refine lv_isub (pc := 13) hx hb dX11_rowOf_13 ?_
      refine q_icmp_ne (pc := 14) (tgt := 23) hx hb dX11_rowOf_14 (by decide) rfl hf (fun hf => ?_) (fun hf => ?_)
      · refine lv_iconst (pc := 23) (v := 0) hx hb dX11_rowOf_23 (by decide) ?_
        obtain ⟨v2, ev2, hf⟩ := q_nm_e hf
        refine q_topi ev2 ?_
        refine lv_istore_n (pc := 24) (lv' := [(3, .int v2), (0, .ref a_m), (1, .int p1), (2, .int p2)]) hx hb dX11_rowOf_24 rfl hl (by decide) rfl (fun ls hl => ?_)
        refine lv_aload_n (pc := 25) hx hb dX11_rowOf_25 rfl (lv_at hl 1 rfl) ?_
        refine va_get (pc := 26) (D := D) (ci := 11) (v := .ref a_m_deep) (C := RX11) (T := TX11) (N := 42) hx hb hts hinX11 hown hK hP 0 rfl rfl 2 (by decide) w_1 (fun _ h9 => h9) rfl dX11_rowOf_26 ?_
        refine lv_iload_n (pc := 29) hx hb dX11_rowOf_29 rfl (lv_at hl 2 rfl) ?_
        refine q_iald (pc := 30) hx hb hK hP 1 0 hf rfl rfl dX11_rowOf_30 (fun v3 hf => ?_)
        refine lv_aload_n (pc := 31) hx hb dX11_rowOf_31 rfl (lv_at hl 1 rfl) ?_
        refine va_get (pc := 32) (D := D) (ci := 11) (v := .ref a_m_wide) (C := RX11) (T := TX11) (N := 42) hx hb hts hinX11 hown hK hP 0 rfl rfl 3 (by decide) w_2 (fun _ h9 => h9) rfl dX11_rowOf_32 ?_
        refine lv_iload_n (pc := 35) hx hb dX11_rowOf_35 rfl (lv_at hl 2 rfl) ?_
        refine q_iald (pc := 36) hx hb hK hP 2 0 hf rfl rfl dX11_rowOf_36 (fun v4 hf => ?_)
        refine lv_imul (pc := 37) hx hb dX11_rowOf_37 ?_
        obtain ⟨v5, ev5, hf⟩ := q_nm_e hf
        refine q_topi ev5 ?_
        refine lv_istore (pc := 38) (lv' := [(4, .int v5), (3, .int v2), (0, .ref a_m), (1, .int p1), (2, .int p2)]) hx hb dX11_rowOf_38 hl (by decide) rfl (fun ls hl => ?_)
        obtain ⟨v7, hm40, hf⟩ := q_b1_e hf
        have JE40 : ∀ (H : Heap) (locs : List Loc) (ls : Array Slot), H = s.heap → va_S A s.heap H locs → lv_has ls 5 [(0, .ref a_m), (1, .int p1), (2, .int p2), (3, .int v7), (4, .int v5)] → W p l e ({ frames := 2, cells := 0, slots := 0, locals := 42 } : Room) s m ([.ref a_m, .int p1, .int p2] : List Value).toArray below meth c H locs 0 0 Q (F0 m 64 ls []) := by
          intro H locs ls hHs hS hl
          subst hHs
          refine lv_iconst (pc := 64) (v := 1) hx hb dX11_rowOf_64 (by decide) ?_
          refine lv_iload_n (pc := 65) hx hb dX11_rowOf_65 rfl (lv_at hl 3 rfl) ?_
          refine lv_aload_n (pc := 66) hx hb dX11_rowOf_66 rfl (lv_at hl 0 rfl) ?_
          refine va_get (pc := 67) (D := D) (ci := 11) (v := .ref a_m_deep) (C := RX11) (T := TX11) (N := 42) hx hb hts hinX11 hown hK hP 0 rfl rfl 2 (by decide) w_1 (fun _ h9 => h9) rfl dX11_rowOf_67 ?_
          refine lv_iload_n (pc := 70) hx hb dX11_rowOf_70 rfl (lv_at hl 1 rfl) ?_
          refine q_iald (pc := 71) hx hb hK hP 1 0 hf rfl rfl dX11_rowOf_71 (fun v8 hf => ?_)
          refine lv_imul (pc := 72) hx hb dX11_rowOf_72 ?_
          refine lv_iadd (pc := 73) hx hb dX11_rowOf_73 ?_
          refine lv_iload_n (pc := 74) hx hb dX11_rowOf_74 rfl (lv_at hl 2 rfl) ?_
          refine lv_iconst (pc := 75) (v := 1) hx hb dX11_rowOf_75 (by decide) ?_
          refine lv_isub (pc := 76) hx hb dX11_rowOf_76 ?_
          refine lv_iload (pc := 77) hx hb dX11_rowOf_77 (lv_at hl 4 rfl) ?_
          refine lv_aload_n (pc := 79) hx hb dX11_rowOf_79 rfl (lv_at hl 0 rfl) ?_
          refine va_get (pc := 80) (D := D) (ci := 11) (v := .ref a_m_zonesAhead) (C := RX11) (T := TX11) (N := 42) hx hb hts hinX11 hown hK hP 0 rfl rfl 4 (by decide) w_3 (fun _ h9 => h9) rfl dX11_rowOf_80 ?_
          refine lv_iload_n (pc := 83) hx hb dX11_rowOf_83 rfl (lv_at hl 3 rfl) ?_
          refine q_iald (pc := 84) hx hb hK hP 3 0 hf rfl rfl dX11_rowOf_84 (fun v9 hf => ?_)
          refine lv_imul (pc := 85) hx hb dX11_rowOf_85 ?_
          refine lv_isub (pc := 86) hx hb dX11_rowOf_86 ?_
          refine lv_iload_n (pc := 87) hx hb dX11_rowOf_87 rfl (lv_at hl 3 rfl) ?_
          obtain ⟨v10, hm88, hf⟩ := q_b1_e hf
          refine q_cSr (pc := 88) (As := [.int v7]) (rest := [.int ((p2 - 1) - (v5 * v9)), .int (1 + (v7 * v8))]) (v0 := (some (.int v10))) ⟨hx, hb, hml, hown, hts⟩ hK hA hZ hP hD hS hl.1 [] 4 rfl ⟨rfl, rfl, rfl⟩ (c_M_zonesOf l D ci A sa N (Rw) v7 v10 hm88) (va_cwS 1 hts gX11_rowOf_X11_zonesOf rfl rfl rfl (by decide +kernel) ⟨Nat.le_of_ble_eq_true rfl, Nat.le_of_ble_eq_true rfl⟩) rfl rfl (Nat.le_of_ble_eq_true rfl) dX11_rowOf_88 ⟨Nat.zero_le _, Nat.zero_le _⟩ (fun locs hS => ?_)
          refine lv_aload_n (pc := 91) hx hb dX11_rowOf_91 rfl (lv_at hl 0 rfl) ?_
          refine va_get (pc := 92) (D := D) (ci := 11) (v := .ref a_m_wide) (C := RX11) (T := TX11) (N := 42) hx hb hts hinX11 hown hK hP 0 rfl rfl 3 (by decide) w_2 (fun _ h9 => h9) rfl dX11_rowOf_92 ?_
          refine lv_iload_n (pc := 95) hx hb dX11_rowOf_95 rfl (lv_at hl 1 rfl) ?_
          refine q_iald (pc := 96) hx hb hK hP 2 0 hf rfl rfl dX11_rowOf_96 (fun v11 hf => ?_)
          refine lv_imul (pc := 97) hx hb dX11_rowOf_97 ?_
          refine q_idiv (pc := 98) hx hb dX11_rowOf_98 hf (fun v12 hf => ?_)
          refine lv_iadd (pc := 99) hx hb dX11_rowOf_99 ?_
          obtain rfl := Option.some.inj hf
          rw [hQ]
          exact q_iretr (pc := 100) hx hb hr hlocks rfl hS dX11_rowOf_100
        have LP40 : ∀ (n40 : Nat) (v6 : Int32) (H : Heap) (locs : List Loc) (ls : Array Slot), f_M_rowOf_L40 m_zonesAhead p2 v5 n40 v6 = some v7 → H = s.heap → va_S A s.heap H locs → lv_has ls 5 [(0, .ref a_m), (1, .int p1), (2, .int p2), (3, .int v6), (4, .int v5)] → W p l e ({ frames := 2, cells := 0, slots := 0, locals := 42 } : Room) s m ([.ref a_m, .int p1, .int p2] : List Value).toArray below meth c H locs 0 0 Q (F0 m 40 ls []) := by
          intro n40
          induction n40 with
          | zero => intro v6 H locs ls hf; rw [f_M_rowOf_L40] at hf; cases hf
          | succ n40 ih40 =>
            intro v6 H locs ls hf hHs hS hl
            subst hHs
            rw [f_M_rowOf_L40] at hf
            refine lv_iload_n (pc := 40) hx hb dX11_rowOf_40 rfl (lv_at hl 2 rfl) ?_
            refine lv_iconst (pc := 41) (v := 1) hx hb dX11_rowOf_41 (by decide) ?_
            refine lv_isub (pc := 42) hx hb dX11_rowOf_42 ?_
            refine lv_iload (pc := 43) hx hb dX11_rowOf_43 (lv_at hl 4 rfl) ?_
            refine lv_aload_n (pc := 45) hx hb dX11_rowOf_45 rfl (lv_at hl 0 rfl) ?_
            refine va_get (pc := 46) (D := D) (ci := 11) (v := .ref a_m_zonesAhead) (C := RX11) (T := TX11) (N := 42) hx hb hts hinX11 hown hK hP 0 rfl rfl 4 (by decide) w_3 (fun _ h9 => h9) rfl dX11_rowOf_46 ?_
            refine lv_iload_n (pc := 49) hx hb dX11_rowOf_49 rfl (lv_at hl 3 rfl) ?_
            refine lv_iconst (pc := 50) (v := 1) hx hb dX11_rowOf_50 (by decide) ?_
            refine lv_iadd (pc := 51) hx hb dX11_rowOf_51 ?_
            refine q_iald (pc := 52) hx hb hK hP 3 0 hf rfl rfl dX11_rowOf_52 (fun v13 hf => ?_)
            refine lv_imul (pc := 53) hx hb dX11_rowOf_53 ?_
            refine q_icmp_lt (pc := 54) (tgt := 64) hx hb dX11_rowOf_54 (by decide) rfl hf (fun hf => ?_) (fun hf => ?_)
            · obtain rfl := Option.some.inj hf
              exact JE40 _ _ _ rfl hS (lv_sub hl [0, 1, 2, 3, 4] rfl)
            · refine lv_iload_n (pc := 57) hx hb dX11_rowOf_57 rfl (lv_at hl 3 rfl) ?_
              refine lv_iconst (pc := 58) (v := 1) hx hb dX11_rowOf_58 (by decide) ?_
              refine lv_iadd (pc := 59) hx hb dX11_rowOf_59 ?_
              obtain ⟨v14, ev14, hf⟩ := q_nm_e hf
              refine q_topi ev14 ?_
              refine lv_istore_n (pc := 60) (lv' := [(3, .int v14), (0, .ref a_m), (1, .int p1), (2, .int p2), (4, .int v5)]) hx hb dX11_rowOf_60 rfl hl (by decide) rfl (fun ls hl => ?_)
              refine lv_goto (pc := 61) (tgt := 40) hx hb dX11_rowOf_61 (by decide) ?_
              exact ih40 v14 _ _ _ hf rfl hS (lv_sub hl [1, 2, 3, 0, 4] rfl)
        exact LP40 N v2 _ _ _ hm40 rfl hS (lv_sub hl [2, 3, 4, 1, 0] rfl)
      · refine lv_aload_n (pc := 17) hx hb dX11_rowOf_17 rfl (lv_at hl 0 rfl) ?_
        refine lv_iload_n (pc := 18) hx hb dX11_rowOf_18 rfl (lv_at hl 1 rfl) ?_
        obtain ⟨v15, hm19, hf⟩ := q_b1_e hf
        refine q_cVr (pc := 19) (As := [.int p1]) (rest := []) (v0 := (some (.int v15))) ⟨hx, hb, hml, hown, hts⟩ hK hA hZ hP hD hS hl.1 [0, 1] 4 rfl ⟨rfl, rfl, rfl⟩ (c_M_lastRow l D ci A sa N (Rw) a_m a_m_cutRows a_m_cutColumns a_m_deep a_m_wide a_m_zonesAhead a_m_nameOne a_m_nameOther a_m_tape a_m_edges a_m_dist a_m_queue a_m_pieceLevel a_m_pieceKey a_m_pieceYear a_m_drawnKeys a_m_kept a_m_noNumbers m_taped m_place m_fault m_number m_levelRead m_keyRead m_reads m_faults m_cutShort m_noNumber m_bottomLat m_bottomLon m_firstBeside m_manyBeside m_queued m_boxLevel m_boxTop m_boxBottom m_boxWest m_boxEast m_isEarly m_pieces m_states m_drawnNow m_keptAt m_deep p1 v15 hm19) 0 rfl rfl (cwV 1 hts gX11_rowOf_X11_lastRow rfl rfl rfl (by decide +kernel) ⟨Nat.le_of_ble_eq_true rfl, Nat.le_of_ble_eq_true rfl⟩) rfl rfl (Nat.le_of_ble_eq_true rfl) dX11_rowOf_19 ⟨Nat.zero_le _, Nat.zero_le _⟩ (fun locs hS => ?_)
        obtain rfl := Option.some.inj hf
        rw [hQ]
        exact q_iretr (pc := 22) hx hb hr hlocks rfl hS dX11_rowOf_22
    · refine lv_iconst (pc := 4) (v := 0) hx hb dX11_rowOf_4 (by decide) ?_
      obtain rfl := Option.some.inj hf
      rw [hQ]
      exact q_iretr (pc := 5) hx hb hr hlocks rfl hS dX11_rowOf_5
  exact hgo _ _ rfl hP hS
/-! X11_bandOf -/
set_option maxRecDepth 100000 in
set_option maxHeartbeats 4000000 in
theorem c_M_bandOf (l : Launch) (D : va_G) (ci : Nat → ClassId) (A : Nat → Prop) (sa : Nat → Nat) (N : Nat) (Rw : va_W) (a_m : Nat) (a_m_cutRows : Nat) (a_m_cutColumns : Nat) (a_m_deep : Nat) (a_m_wide : Nat) (a_m_zonesAhead : Nat) (a_m_nameOne : Nat) (a_m_nameOther : Nat) (a_m_tape : Nat) (a_m_edges : Nat) (a_m_dist : Nat) (a_m_queue : Nat) (a_m_pieceLevel : Nat) (a_m_pieceKey : Nat) (a_m_pieceYear : Nat) (a_m_drawnKeys : Nat) (a_m_kept : Nat) (a_m_noNumbers : Nat) (m_taped : Int32) (m_place : Int32) (m_fault : Int32) (m_number : Int32) (m_levelRead : Int32) (m_keyRead : Int32) (m_reads : Int32) (m_faults : Int32) (m_cutShort : Int32) (m_noNumber : Int32) (m_bottomLat : Int64) (m_bottomLon : Int64) (m_firstBeside : Int32) (m_manyBeside : Int32) (m_queued : Int32) (m_boxLevel : Int32) (m_boxTop : Int32) (m_boxBottom : Int32) (m_boxWest : Int32) (m_boxEast : Int32) (m_isEarly : Int32) (m_pieces : Int32) (m_states : Int32) (m_drawnNow : Int32) (m_keptAt : Int32) (m_deep : Nat → Int32) (p1 : Int32) (p2 : Int32) (r : Int32) (hf : f_M_bandOf m_deep p1 p2 = some r) : Met l yX11_bandOf wsX11_bandOf ({ frames := 0, cells := 0, slots := 0, locals := 0 }) (va_Pc [.ref a_m, .int p1, .int p2] (q_N D ci A sa ((a_m, .inr (11, (.ref a_m_cutRows :: .ref a_m_cutColumns :: .ref a_m_deep :: .ref a_m_wide :: .ref a_m_zonesAhead :: .ref a_m_nameOne :: .ref a_m_nameOther :: .ref a_m_tape :: .int m_taped :: .int m_place :: .int m_fault :: .int m_number :: .int m_levelRead :: .int m_keyRead :: .int m_reads :: .int m_faults :: .int m_cutShort :: .int m_noNumber :: .long m_bottomLat :: .long m_bottomLon :: .ref a_m_edges :: .int m_firstBeside :: .int m_manyBeside :: .ref a_m_dist :: .ref a_m_queue :: .int m_queued :: .int m_boxLevel :: .int m_boxTop :: .int m_boxBottom :: .int m_boxWest :: .int m_boxEast :: .int m_isEarly :: .int m_pieces :: .int m_states :: .ref a_m_pieceLevel :: .ref a_m_pieceKey :: .ref a_m_pieceYear :: .int m_drawnNow :: .ref a_m_drawnKeys :: .ref a_m_kept :: .int m_keptAt :: .ref a_m_noNumbers :: []))) :: (a_m_deep, .inl (ci 0, 5, .inl m_deep)) :: Rw))) (q_R (some (.int r))) 0 0 A := by
  refine q_ofW (cc := cX11_bandOf) (maxL := 3) (ret := (some .int)) [.ref a_m, .int p1, .int p2] (plainFor_of_name (by decide)) rfl (Nat.le_of_ble_eq_true rfl) ?_
  intro p e s m below meth c ls Q hQ hx hb hml hr hts hown hlocks hK hA hZ hP hD hS hl
  have hl : lv_has ls 3 [(0, .ref a_m), (1, .int p1), (2, .int p2)] := hl
  have hown : s.vm.findClass RX11 = some m.cls := hown
  have hinX11 : ∀ w ∈ wsX110, w ∈ wsX11_bandOf := fun _ h => List.mem_cons_of_mem _ (inWX110 _ h)
  have w_1 := hts (Cond.fieldLink RX11 16 "SheetNamesModel" "deep" "[I") (List.mem_cons_of_mem _ t_w908)
  unfold f_M_bandOf at hf
  have hgo : ∀ (H : Heap) (locs : List Loc), H = s.heap → va_P D vwCl ((a_m, .inr (11, (.ref a_m_cutRows :: .ref a_m_cutColumns :: .ref a_m_deep :: .ref a_m_wide :: .ref a_m_zonesAhead :: .ref a_m_nameOne :: .ref a_m_nameOther :: .ref a_m_tape :: .int m_taped :: .int m_place :: .int m_fault :: .int m_number :: .int m_levelRead :: .int m_keyRead :: .int m_reads :: .int m_faults :: .int m_cutShort :: .int m_noNumber :: .long m_bottomLat :: .long m_bottomLon :: .ref a_m_edges :: .int m_firstBeside :: .int m_manyBeside :: .ref a_m_dist :: .ref a_m_queue :: .int m_queued :: .int m_boxLevel :: .int m_boxTop :: .int m_boxBottom :: .int m_boxWest :: .int m_boxEast :: .int m_isEarly :: .int m_pieces :: .int m_states :: .ref a_m_pieceLevel :: .ref a_m_pieceKey :: .ref a_m_pieceYear :: .int m_drawnNow :: .ref a_m_drawnKeys :: .ref a_m_kept :: .int m_keptAt :: .ref a_m_noNumbers :: []))) :: (a_m_deep, .inl (ci 0, 5, .inl m_deep)) :: Rw) H → va_S A s.heap H locs → W p l e ({ frames := 0, cells := 0, slots := 0, locals := 0 } : Room) s m ([.ref a_m, .int p1, .int p2] : List Value).toArray below meth c H locs 0 0 Q (F0 m 0 ls []) := by
    intro H locs hH hP hS
    subst hH
    refine lv_iload_n (pc := 0) hx hb dX11_bandOf_0 rfl (lv_at hl 2 rfl) ?_
    refine lv_iconst (pc := 1) (v := 1) hx hb dX11_bandOf_1 (by decide) ?_
    refine lv_isub (pc := 2) hx hb dX11_bandOf_2 ?_
    refine lv_aload_n (pc := 3) hx hb dX11_bandOf_3 rfl (lv_at hl 0 rfl) ?_
    refine va_get (pc := 4) (D := D) (ci := 11) (v := .ref a_m_deep) (C := RX11) (T := TX11) (N := 42) hx hb hts hinX11 hown hK hP 0 rfl rfl 2 (by decide) w_1 (fun _ h9 => h9) rfl dX11_bandOf_4 ?_
    refine lv_iload_n (pc := 7) hx hb dX11_bandOf_7 rfl (lv_at hl 1 rfl) ?_
    refine q_iald (pc := 8) hx hb hK hP 1 0 hf rfl rfl dX11_bandOf_8 (fun v1 hf => ?_)
    refine q_idiv (pc := 9) hx hb dX11_bandOf_9 hf (fun v2 hf => ?_)
    obtain rfl := Option.some.inj hf
    rw [hQ]
    exact q_iretr (pc := 10) hx hb hr hlocks rfl hS dX11_bandOf_10
  exact hgo _ _ rfl hP hS
/-! X11_keyOf -/
set_option maxRecDepth 100000 in
set_option maxHeartbeats 4000000 in
theorem c_M_keyOf (l : Launch) (D : va_G) (ci : Nat → ClassId) (A : Nat → Prop) (sa : Nat → Nat) (N : Nat) (Rw : va_W) (a_m : Nat) (a_m_cutRows : Nat) (a_m_cutColumns : Nat) (a_m_deep : Nat) (a_m_wide : Nat) (a_m_zonesAhead : Nat) (a_m_nameOne : Nat) (a_m_nameOther : Nat) (a_m_tape : Nat) (a_m_edges : Nat) (a_m_dist : Nat) (a_m_queue : Nat) (a_m_pieceLevel : Nat) (a_m_pieceKey : Nat) (a_m_pieceYear : Nat) (a_m_drawnKeys : Nat) (a_m_kept : Nat) (a_m_noNumbers : Nat) (m_taped : Int32) (m_place : Int32) (m_fault : Int32) (m_number : Int32) (m_levelRead : Int32) (m_keyRead : Int32) (m_reads : Int32) (m_faults : Int32) (m_cutShort : Int32) (m_noNumber : Int32) (m_bottomLat : Int64) (m_bottomLon : Int64) (m_firstBeside : Int32) (m_manyBeside : Int32) (m_queued : Int32) (m_boxLevel : Int32) (m_boxTop : Int32) (m_boxBottom : Int32) (m_boxWest : Int32) (m_boxEast : Int32) (m_isEarly : Int32) (m_pieces : Int32) (m_states : Int32) (m_drawnNow : Int32) (m_keptAt : Int32) (m_deep : Nat → Int32) (m_wide : Nat → Int32) (m_zonesAhead : Nat → Int32) (p1 : Int32) (p2 : Int32) (p3 : Int32) (r : Int32) (hf : f_M_keyOf m_deep m_wide m_zonesAhead p1 p2 p3 = some r) : Met l yX11_keyOf wsX11_keyOf ({ frames := 2, cells := 0, slots := 0, locals := 42 }) (va_Pc [.ref a_m, .int p1, .int p2, .int p3] (q_N D ci A sa ((a_m, .inr (11, (.ref a_m_cutRows :: .ref a_m_cutColumns :: .ref a_m_deep :: .ref a_m_wide :: .ref a_m_zonesAhead :: .ref a_m_nameOne :: .ref a_m_nameOther :: .ref a_m_tape :: .int m_taped :: .int m_place :: .int m_fault :: .int m_number :: .int m_levelRead :: .int m_keyRead :: .int m_reads :: .int m_faults :: .int m_cutShort :: .int m_noNumber :: .long m_bottomLat :: .long m_bottomLon :: .ref a_m_edges :: .int m_firstBeside :: .int m_manyBeside :: .ref a_m_dist :: .ref a_m_queue :: .int m_queued :: .int m_boxLevel :: .int m_boxTop :: .int m_boxBottom :: .int m_boxWest :: .int m_boxEast :: .int m_isEarly :: .int m_pieces :: .int m_states :: .ref a_m_pieceLevel :: .ref a_m_pieceKey :: .ref a_m_pieceYear :: .int m_drawnNow :: .ref a_m_drawnKeys :: .ref a_m_kept :: .int m_keptAt :: .ref a_m_noNumbers :: []))) :: (a_m_deep, .inl (ci 0, 5, .inl m_deep)) :: (a_m_wide, .inl (ci 0, 5, .inl m_wide)) :: (a_m_zonesAhead, .inl (ci 0, 45, .inl m_zonesAhead)) :: Rw))) (q_R (some (.int r))) 0 0 A := by
  refine q_ofW (cc := cX11_keyOf) (maxL := 5) (ret := (some .int)) [.ref a_m, .int p1, .int p2, .int p3] (plainFor_of_name (by decide)) rfl (Nat.le_of_ble_eq_true rfl) ?_
  intro p e s m below meth c ls Q hQ hx hb hml hr hts hown hlocks hK hA hZ hP hD hS hl
  have hl : lv_has ls 5 [(0, .ref a_m), (1, .int p1), (2, .int p2), (3, .int p3)] := hl
  have hown : s.vm.findClass RX11 = some m.cls := hown
  have hinX11 : ∀ w ∈ wsX110, w ∈ wsX11_keyOf := fun _ h => List.mem_cons_of_mem _ (inWX110 _ h)
  have w_1 := hts (Cond.fieldLink RX11 19 "SheetNamesModel" "wide" "[I") (List.mem_cons_of_mem _ t_w909)
  have w_2 := hts (Cond.fieldLink RX11 16 "SheetNamesModel" "deep" "[I") (List.mem_cons_of_mem _ t_w908)
  have w_3 := hts (Cond.fieldLink RX11 22 "SheetNamesModel" "zonesAhead" "[I") (List.mem_cons_of_mem _ t_w910)
  unfold f_M_keyOf at hf
  have hgo : ∀ (H : Heap) (locs : List Loc), H = s.heap → va_P D vwCl ((a_m, .inr (11, (.ref a_m_cutRows :: .ref a_m_cutColumns :: .ref a_m_deep :: .ref a_m_wide :: .ref a_m_zonesAhead :: .ref a_m_nameOne :: .ref a_m_nameOther :: .ref a_m_tape :: .int m_taped :: .int m_place :: .int m_fault :: .int m_number :: .int m_levelRead :: .int m_keyRead :: .int m_reads :: .int m_faults :: .int m_cutShort :: .int m_noNumber :: .long m_bottomLat :: .long m_bottomLon :: .ref a_m_edges :: .int m_firstBeside :: .int m_manyBeside :: .ref a_m_dist :: .ref a_m_queue :: .int m_queued :: .int m_boxLevel :: .int m_boxTop :: .int m_boxBottom :: .int m_boxWest :: .int m_boxEast :: .int m_isEarly :: .int m_pieces :: .int m_states :: .ref a_m_pieceLevel :: .ref a_m_pieceKey :: .ref a_m_pieceYear :: .int m_drawnNow :: .ref a_m_drawnKeys :: .ref a_m_kept :: .int m_keptAt :: .ref a_m_noNumbers :: []))) :: (a_m_deep, .inl (ci 0, 5, .inl m_deep)) :: (a_m_wide, .inl (ci 0, 5, .inl m_wide)) :: (a_m_zonesAhead, .inl (ci 0, 45, .inl m_zonesAhead)) :: Rw) H → va_S A s.heap H locs → W p l e ({ frames := 2, cells := 0, slots := 0, locals := 42 } : Room) s m ([.ref a_m, .int p1, .int p2, .int p3] : List Value).toArray below meth c H locs 0 0 Q (F0 m 0 ls []) := by
    intro H locs hH hP hS
    subst hH
    refine lv_iload_n (pc := 0) hx hb dX11_keyOf_0 rfl (lv_at hl 2 rfl) ?_
    refine q_if_ne (pc := 1) (tgt := 6) hx hb dX11_keyOf_1 (by decide) rfl hf (fun hf => ?_) (fun hf => ?_)
    · refine lv_iload_n (pc := 6) hx hb dX11_keyOf_6 rfl (lv_at hl 2 rfl) ?_
      refine lv_aload_n (pc := 7) hx hb dX11_keyOf_7 rfl (lv_at hl 0 rfl) ?_
      refine lv_iload_n (pc := 8) hx hb dX11_keyOf_8 rfl (lv_at hl 1 rfl) ?_
      obtain ⟨v1, hm9, hf⟩ := q_b1_e hf
      refine q_cVr (pc := 9) (As := [.int p1]) (rest := [.int p2]) (v0 := (some (.int v1))) ⟨hx, hb, hml, hown, hts⟩ hK hA hZ hP hD hS hl.1 [0, 1] 4 rfl ⟨rfl, rfl, rfl⟩ (c_M_lastRow l D ci A sa N (Rw) a_m a_m_cutRows a_m_cutColumns a_m_deep a_m_wide a_m_zonesAhead a_m_nameOne a_m_nameOther a_m_tape a_m_edges a_m_dist a_m_queue a_m_pieceLevel a_m_pieceKey a_m_pieceYear a_m_drawnKeys a_m_kept a_m_noNumbers m_taped m_place m_fault m_number m_levelRead m_keyRead m_reads m_faults m_cutShort m_noNumber m_bottomLat m_bottomLon m_firstBeside m_manyBeside m_queued m_boxLevel m_boxTop m_boxBottom m_boxWest m_boxEast m_isEarly m_pieces m_states m_drawnNow m_keptAt m_deep p1 v1 hm9) 0 rfl rfl (cwV 1 hts gX11_keyOf_X11_lastRow rfl rfl rfl (by decide +kernel) ⟨Nat.le_of_ble_eq_true rfl, Nat.le_of_ble_eq_true rfl⟩) rfl rfl (Nat.le_of_ble_eq_true rfl) dX11_keyOf_9 ⟨Nat.zero_le _, Nat.zero_le _⟩ (fun locs hS => ?_)
      refine q_icmp_ne (pc := 12) (tgt := 23) hx hb dX11_keyOf_12 (by decide) rfl hf (fun hf => ?_) (fun hf => ?_)
      · refine lv_aload_n (pc := 23) hx hb dX11_keyOf_23 rfl (lv_at hl 0 rfl) ?_
        refine lv_iload_n (pc := 24) hx hb dX11_keyOf_24 rfl (lv_at hl 1 rfl) ?_
        refine lv_iload_n (pc := 25) hx hb dX11_keyOf_25 rfl (lv_at hl 2 rfl) ?_
        obtain ⟨v2, hm26, hf⟩ := q_b1_e hf
        refine q_cVr (pc := 26) (As := [.int p1, .int p2]) (rest := []) (v0 := (some (.int v2))) ⟨hx, hb, hml, hown, hts⟩ hK hA hZ hP hD hS hl.1 [0, 1] 4 rfl ⟨rfl, rfl, rfl⟩ (c_M_bandOf l D ci A sa N (Rw) a_m a_m_cutRows a_m_cutColumns a_m_deep a_m_wide a_m_zonesAhead a_m_nameOne a_m_nameOther a_m_tape a_m_edges a_m_dist a_m_queue a_m_pieceLevel a_m_pieceKey a_m_pieceYear a_m_drawnKeys a_m_kept a_m_noNumbers m_taped m_place m_fault m_number m_levelRead m_keyRead m_reads m_faults m_cutShort m_noNumber m_bottomLat m_bottomLon m_firstBeside m_manyBeside m_queued m_boxLevel m_boxTop m_boxBottom m_boxWest m_boxEast m_isEarly m_pieces m_states m_drawnNow m_keptAt m_deep p1 p2 v2 hm26) 0 rfl rfl (cwV 2 hts gX11_keyOf_X11_bandOf rfl rfl rfl (by decide +kernel) ⟨Nat.le_of_ble_eq_true rfl, Nat.le_of_ble_eq_true rfl⟩) rfl rfl (Nat.le_of_ble_eq_true rfl) dX11_keyOf_26 ⟨Nat.zero_le _, Nat.zero_le _⟩ (fun locs hS => ?_)
        refine lv_istore (pc := 29) (lv' := [(4, .int v2), (0, .ref a_m), (1, .int p1), (2, .int p2), (3, .int p3)]) hx hb dX11_keyOf_29 hl (by decide) rfl (fun ls hl => ?_)
        refine lv_iconst (pc := 31) (v := 1) hx hb dX11_keyOf_31 (by decide) ?_
        refine lv_aload_n (pc := 32) hx hb dX11_keyOf_32 rfl (lv_at hl 1 rfl) ?_
        refine va_get (pc := 33) (D := D) (ci := 11) (v := .ref a_m_wide) (C := RX11) (T := TX11) (N := 42) hx hb hts hinX11 hown hK hP 0 rfl rfl 3 (by decide) w_1 (fun _ h9 => h9) rfl dX11_keyOf_33 ?_
        refine lv_iload_n (pc := 36) hx hb dX11_keyOf_36 rfl (lv_at hl 2 rfl) ?_
        refine q_iald (pc := 37) hx hb hK hP 2 0 hf rfl rfl dX11_keyOf_37 (fun v3 hf => ?_)
        refine lv_aload_n (pc := 38) hx hb dX11_keyOf_38 rfl (lv_at hl 1 rfl) ?_
        refine va_get (pc := 39) (D := D) (ci := 11) (v := .ref a_m_deep) (C := RX11) (T := TX11) (N := 42) hx hb hts hinX11 hown hK hP 0 rfl rfl 2 (by decide) w_2 (fun _ h9 => h9) rfl dX11_keyOf_39 ?_
        refine lv_iload_n (pc := 42) hx hb dX11_keyOf_42 rfl (lv_at hl 2 rfl) ?_
        refine q_iald (pc := 43) hx hb hK hP 1 0 hf rfl rfl dX11_keyOf_43 (fun v4 hf => ?_)
        refine lv_aload_n (pc := 44) hx hb dX11_keyOf_44 rfl (lv_at hl 1 rfl) ?_
        refine va_get (pc := 45) (D := D) (ci := 11) (v := .ref a_m_zonesAhead) (C := RX11) (T := TX11) (N := 42) hx hb hts hinX11 hown hK hP 0 rfl rfl 4 (by decide) w_3 (fun _ h9 => h9) rfl dX11_keyOf_45 ?_
        refine lv_iload (pc := 48) hx hb dX11_keyOf_48 (lv_at hl 0 rfl) ?_
        refine q_iald (pc := 50) hx hb hK hP 3 0 hf rfl rfl dX11_keyOf_50 (fun v5 hf => ?_)
        refine lv_imul (pc := 51) hx hb dX11_keyOf_51 ?_
        refine lv_iload (pc := 52) hx hb dX11_keyOf_52 (lv_at hl 0 rfl) ?_
        obtain ⟨v6, hm54, hf⟩ := q_b1_e hf
        refine q_cSr (pc := 54) (As := [.int v2]) (rest := [.int (v4 * v5), .int v3, .int 1]) (v0 := (some (.int v6))) ⟨hx, hb, hml, hown, hts⟩ hK hA hZ hP hD hS hl.1 [] 4 rfl ⟨rfl, rfl, rfl⟩ (c_M_zonesOf l D ci A sa N (Rw) v2 v6 hm54) (va_cwS 1 hts gX11_keyOf_X11_zonesOf rfl rfl rfl (by decide +kernel) ⟨Nat.le_of_ble_eq_true rfl, Nat.le_of_ble_eq_true rfl⟩) rfl rfl (Nat.le_of_ble_eq_true rfl) dX11_keyOf_54 ⟨Nat.zero_le _, Nat.zero_le _⟩ (fun locs hS => ?_)
        refine lv_iload_n (pc := 57) hx hb dX11_keyOf_57 rfl (lv_at hl 3 rfl) ?_
        refine lv_iconst (pc := 58) (v := 1) hx hb dX11_keyOf_58 (by decide) ?_
        refine lv_isub (pc := 59) hx hb dX11_keyOf_59 ?_
        refine lv_aload_n (pc := 60) hx hb dX11_keyOf_60 rfl (lv_at hl 1 rfl) ?_
        refine va_get (pc := 61) (D := D) (ci := 11) (v := .ref a_m_deep) (C := RX11) (T := TX11) (N := 42) hx hb hts hinX11 hown hK hP 0 rfl rfl 2 (by decide) w_2 (fun _ h9 => h9) rfl dX11_keyOf_61 ?_
        refine lv_iload_n (pc := 64) hx hb dX11_keyOf_64 rfl (lv_at hl 2 rfl) ?_
        refine q_iald (pc := 65) hx hb hK hP 1 0 hf rfl rfl dX11_keyOf_65 (fun v7 hf => ?_)
        refine q_irem (pc := 66) hx hb dX11_keyOf_66 hf (fun v8 hf => ?_)
        refine lv_imul (pc := 67) hx hb dX11_keyOf_67 ?_
        refine lv_iadd (pc := 68) hx hb dX11_keyOf_68 ?_
        refine lv_imul (pc := 69) hx hb dX11_keyOf_69 ?_
        refine lv_iadd (pc := 70) hx hb dX11_keyOf_70 ?_
        refine lv_iload_n (pc := 71) hx hb dX11_keyOf_71 rfl (lv_at hl 4 rfl) ?_
        refine lv_iadd (pc := 72) hx hb dX11_keyOf_72 ?_
        obtain rfl := Option.some.inj hf
        rw [hQ]
        exact q_iretr (pc := 73) hx hb hr hlocks rfl hS dX11_keyOf_73
      · refine lv_aload_n (pc := 15) hx hb dX11_keyOf_15 rfl (lv_at hl 0 rfl) ?_
        refine lv_iload_n (pc := 16) hx hb dX11_keyOf_16 rfl (lv_at hl 1 rfl) ?_
        obtain ⟨v9, hm17, hf⟩ := q_b1_e hf
        refine q_cVr (pc := 17) (As := [.int p1]) (rest := []) (v0 := (some (.int v9))) ⟨hx, hb, hml, hown, hts⟩ hK hA hZ hP hD hS hl.1 [0, 1, 2, 3] 4 rfl ⟨rfl, rfl, rfl⟩ (c_M_sheets l D ci A sa N (Rw) a_m a_m_cutRows a_m_cutColumns a_m_deep a_m_wide a_m_zonesAhead a_m_nameOne a_m_nameOther a_m_tape a_m_edges a_m_dist a_m_queue a_m_pieceLevel a_m_pieceKey a_m_pieceYear a_m_drawnKeys a_m_kept a_m_noNumbers m_taped m_place m_fault m_number m_levelRead m_keyRead m_reads m_faults m_cutShort m_noNumber m_bottomLat m_bottomLon m_firstBeside m_manyBeside m_queued m_boxLevel m_boxTop m_boxBottom m_boxWest m_boxEast m_isEarly m_pieces m_states m_drawnNow m_keptAt m_deep m_wide m_zonesAhead p1 v9 hm17) 0 rfl rfl (cwV 1 hts gX11_keyOf_X11_sheets rfl rfl rfl (by decide +kernel) ⟨Nat.le_of_ble_eq_true rfl, Nat.le_of_ble_eq_true rfl⟩) rfl rfl (Nat.le_of_ble_eq_true rfl) dX11_keyOf_17 ⟨Nat.zero_le _, Nat.zero_le _⟩ (fun locs hS => ?_)
        refine lv_iconst (pc := 20) (v := 1) hx hb dX11_keyOf_20 (by decide) ?_
        refine lv_isub (pc := 21) hx hb dX11_keyOf_21 ?_
        obtain rfl := Option.some.inj hf
        rw [hQ]
        exact q_iretr (pc := 22) hx hb hr hlocks rfl hS dX11_keyOf_22
    · refine lv_iconst (pc := 4) (v := 0) hx hb dX11_keyOf_4 (by decide) ?_
      obtain rfl := Option.some.inj hf
      rw [hQ]
      exact q_iretr (pc := 5) hx hb hr hlocks rfl hS dX11_keyOf_5
  exact hgo _ _ rfl hP hS
/-! X11_placeOf -/
set_option maxRecDepth 100000 in
set_option maxHeartbeats 4000000 in
theorem c_M_placeOf (l : Launch) (D : va_G) (ci : Nat → ClassId) (A : Nat → Prop) (sa : Nat → Nat) (N : Nat) (Rw : va_W) (a_m : Nat) (a_m_cutRows : Nat) (a_m_cutColumns : Nat) (a_m_deep : Nat) (a_m_wide : Nat) (a_m_zonesAhead : Nat) (a_m_nameOne : Nat) (a_m_nameOther : Nat) (a_m_tape : Nat) (a_m_edges : Nat) (a_m_dist : Nat) (a_m_queue : Nat) (a_m_pieceLevel : Nat) (a_m_pieceKey : Nat) (a_m_pieceYear : Nat) (a_m_drawnKeys : Nat) (a_m_kept : Nat) (a_m_noNumbers : Nat) (m_taped : Int32) (m_place : Int32) (m_fault : Int32) (m_number : Int32) (m_levelRead : Int32) (m_keyRead : Int32) (m_reads : Int32) (m_faults : Int32) (m_cutShort : Int32) (m_noNumber : Int32) (m_bottomLat : Int64) (m_bottomLon : Int64) (m_firstBeside : Int32) (m_manyBeside : Int32) (m_queued : Int32) (m_boxLevel : Int32) (m_boxTop : Int32) (m_boxBottom : Int32) (m_boxWest : Int32) (m_boxEast : Int32) (m_isEarly : Int32) (m_pieces : Int32) (m_states : Int32) (m_drawnNow : Int32) (m_keptAt : Int32) (m_deep : Nat → Int32) (m_wide : Nat → Int32) (m_zonesAhead : Nat → Int32) (p1 : Int32) (p2 : Int32) (r : Int32) (hf : f_M_placeOf N m_deep m_wide m_zonesAhead p1 p2 = some r) : Met l yX11_placeOf wsX11_placeOf ({ frames := 3, cells := 0, slots := 0, locals := 66 }) (va_Pc [.ref a_m, .int p1, .int p2] (q_N D ci A sa ((a_m, .inr (11, (.ref a_m_cutRows :: .ref a_m_cutColumns :: .ref a_m_deep :: .ref a_m_wide :: .ref a_m_zonesAhead :: .ref a_m_nameOne :: .ref a_m_nameOther :: .ref a_m_tape :: .int m_taped :: .int m_place :: .int m_fault :: .int m_number :: .int m_levelRead :: .int m_keyRead :: .int m_reads :: .int m_faults :: .int m_cutShort :: .int m_noNumber :: .long m_bottomLat :: .long m_bottomLon :: .ref a_m_edges :: .int m_firstBeside :: .int m_manyBeside :: .ref a_m_dist :: .ref a_m_queue :: .int m_queued :: .int m_boxLevel :: .int m_boxTop :: .int m_boxBottom :: .int m_boxWest :: .int m_boxEast :: .int m_isEarly :: .int m_pieces :: .int m_states :: .ref a_m_pieceLevel :: .ref a_m_pieceKey :: .ref a_m_pieceYear :: .int m_drawnNow :: .ref a_m_drawnKeys :: .ref a_m_kept :: .int m_keptAt :: .ref a_m_noNumbers :: []))) :: (a_m_deep, .inl (ci 0, 5, .inl m_deep)) :: (a_m_wide, .inl (ci 0, 5, .inl m_wide)) :: (a_m_zonesAhead, .inl (ci 0, 45, .inl m_zonesAhead)) :: Rw))) (q_R (some (.int r))) 0 0 A := by
  refine q_ofW (cc := cX11_placeOf) (maxL := 3) (ret := (some .int)) [.ref a_m, .int p1, .int p2] (plainFor_of_name (by decide)) rfl (Nat.le_of_ble_eq_true rfl) ?_
  intro p e s m below meth c ls Q hQ hx hb hml hr hts hown hlocks hK hA hZ hP hD hS hl
  have hl : lv_has ls 3 [(0, .ref a_m), (1, .int p1), (2, .int p2)] := hl
  have hown : s.vm.findClass RX11 = some m.cls := hown
  unfold f_M_placeOf at hf
  have hgo : ∀ (H : Heap) (locs : List Loc), H = s.heap → va_P D vwCl ((a_m, .inr (11, (.ref a_m_cutRows :: .ref a_m_cutColumns :: .ref a_m_deep :: .ref a_m_wide :: .ref a_m_zonesAhead :: .ref a_m_nameOne :: .ref a_m_nameOther :: .ref a_m_tape :: .int m_taped :: .int m_place :: .int m_fault :: .int m_number :: .int m_levelRead :: .int m_keyRead :: .int m_reads :: .int m_faults :: .int m_cutShort :: .int m_noNumber :: .long m_bottomLat :: .long m_bottomLon :: .ref a_m_edges :: .int m_firstBeside :: .int m_manyBeside :: .ref a_m_dist :: .ref a_m_queue :: .int m_queued :: .int m_boxLevel :: .int m_boxTop :: .int m_boxBottom :: .int m_boxWest :: .int m_boxEast :: .int m_isEarly :: .int m_pieces :: .int m_states :: .ref a_m_pieceLevel :: .ref a_m_pieceKey :: .ref a_m_pieceYear :: .int m_drawnNow :: .ref a_m_drawnKeys :: .ref a_m_kept :: .int m_keptAt :: .ref a_m_noNumbers :: []))) :: (a_m_deep, .inl (ci 0, 5, .inl m_deep)) :: (a_m_wide, .inl (ci 0, 5, .inl m_wide)) :: (a_m_zonesAhead, .inl (ci 0, 45, .inl m_zonesAhead)) :: Rw) H → va_S A s.heap H locs → W p l e ({ frames := 3, cells := 0, slots := 0, locals := 66 } : Room) s m ([.ref a_m, .int p1, .int p2] : List Value).toArray below meth c H locs 0 0 Q (F0 m 0 ls []) := by
    intro H locs hH hP hS
    subst hH
    refine lv_iload_n (pc := 0) hx hb dX11_placeOf_0 rfl (lv_at hl 2 rfl) ?_
    refine lv_aload_n (pc := 1) hx hb dX11_placeOf_1 rfl (lv_at hl 0 rfl) ?_
    refine lv_iload_n (pc := 2) hx hb dX11_placeOf_2 rfl (lv_at hl 1 rfl) ?_
    refine lv_aload_n (pc := 3) hx hb dX11_placeOf_3 rfl (lv_at hl 0 rfl) ?_
    refine lv_iload_n (pc := 4) hx hb dX11_placeOf_4 rfl (lv_at hl 1 rfl) ?_
    refine lv_iload_n (pc := 5) hx hb dX11_placeOf_5 rfl (lv_at hl 2 rfl) ?_
    obtain ⟨v1, hm6, hf⟩ := q_b1_e hf
    refine q_cVr (pc := 6) (As := [.int p1, .int p2]) (rest := [.int p1, .ref a_m, .int p2]) (v0 := (some (.int v1))) ⟨hx, hb, hml, hown, hts⟩ hK hA hZ hP hD hS hl.1 [0, 1, 2, 3] 4 rfl ⟨rfl, rfl, rfl⟩ (c_M_rowOf l D ci A sa N (Rw) a_m a_m_cutRows a_m_cutColumns a_m_deep a_m_wide a_m_zonesAhead a_m_nameOne a_m_nameOther a_m_tape a_m_edges a_m_dist a_m_queue a_m_pieceLevel a_m_pieceKey a_m_pieceYear a_m_drawnKeys a_m_kept a_m_noNumbers m_taped m_place m_fault m_number m_levelRead m_keyRead m_reads m_faults m_cutShort m_noNumber m_bottomLat m_bottomLon m_firstBeside m_manyBeside m_queued m_boxLevel m_boxTop m_boxBottom m_boxWest m_boxEast m_isEarly m_pieces m_states m_drawnNow m_keptAt m_deep m_wide m_zonesAhead p1 p2 v1 hm6) 0 rfl rfl (cwV 2 hts gX11_placeOf_X11_rowOf rfl rfl rfl (by decide +kernel) ⟨Nat.le_of_ble_eq_true rfl, Nat.le_of_ble_eq_true rfl⟩) rfl rfl (Nat.le_of_ble_eq_true rfl) dX11_placeOf_6 ⟨Nat.zero_le _, Nat.zero_le _⟩ (fun locs hS => ?_)
    refine lv_iconst (pc := 9) (v := 0) hx hb dX11_placeOf_9 (by decide) ?_
    obtain ⟨v2, hm10, hf⟩ := q_b1_e hf
    refine q_cVr (pc := 10) (As := [.int p1, .int v1, .int 0]) (rest := [.int p2]) (v0 := (some (.int v2))) ⟨hx, hb, hml, hown, hts⟩ hK hA hZ hP hD hS hl.1 [0, 1, 2, 3] 4 rfl ⟨rfl, rfl, rfl⟩ (c_M_keyOf l D ci A sa N (Rw) a_m a_m_cutRows a_m_cutColumns a_m_deep a_m_wide a_m_zonesAhead a_m_nameOne a_m_nameOther a_m_tape a_m_edges a_m_dist a_m_queue a_m_pieceLevel a_m_pieceKey a_m_pieceYear a_m_drawnKeys a_m_kept a_m_noNumbers m_taped m_place m_fault m_number m_levelRead m_keyRead m_reads m_faults m_cutShort m_noNumber m_bottomLat m_bottomLon m_firstBeside m_manyBeside m_queued m_boxLevel m_boxTop m_boxBottom m_boxWest m_boxEast m_isEarly m_pieces m_states m_drawnNow m_keptAt m_deep m_wide m_zonesAhead p1 v1 0 v2 hm10) 0 rfl rfl (cwV 3 hts gX11_placeOf_X11_keyOf rfl rfl rfl (by decide +kernel) ⟨Nat.le_of_ble_eq_true rfl, Nat.le_of_ble_eq_true rfl⟩) rfl rfl (Nat.le_of_ble_eq_true rfl) dX11_placeOf_10 ⟨Nat.zero_le _, Nat.zero_le _⟩ (fun locs hS => ?_)
    refine lv_isub (pc := 13) hx hb dX11_placeOf_13 ?_
    obtain rfl := Option.some.inj hf
    rw [hQ]
    exact q_iretr (pc := 14) hx hb hr hlocks rfl hS dX11_placeOf_14
  exact hgo _ _ rfl hP hS
/-! X11_many -/
set_option maxRecDepth 100000 in
set_option maxHeartbeats 4000000 in
theorem c_M_many (l : Launch) (D : va_G) (ci : Nat → ClassId) (A : Nat → Prop) (sa : Nat → Nat) (N : Nat) (Rw : va_W) (a_m : Nat) (a_m_cutRows : Nat) (a_m_cutColumns : Nat) (a_m_deep : Nat) (a_m_wide : Nat) (a_m_zonesAhead : Nat) (a_m_nameOne : Nat) (a_m_nameOther : Nat) (a_m_tape : Nat) (a_m_edges : Nat) (a_m_dist : Nat) (a_m_queue : Nat) (a_m_pieceLevel : Nat) (a_m_pieceKey : Nat) (a_m_pieceYear : Nat) (a_m_drawnKeys : Nat) (a_m_kept : Nat) (a_m_noNumbers : Nat) (m_taped : Int32) (m_place : Int32) (m_fault : Int32) (m_number : Int32) (m_levelRead : Int32) (m_keyRead : Int32) (m_reads : Int32) (m_faults : Int32) (m_cutShort : Int32) (m_noNumber : Int32) (m_bottomLat : Int64) (m_bottomLon : Int64) (m_firstBeside : Int32) (m_manyBeside : Int32) (m_queued : Int32) (m_boxLevel : Int32) (m_boxTop : Int32) (m_boxBottom : Int32) (m_boxWest : Int32) (m_boxEast : Int32) (m_isEarly : Int32) (m_pieces : Int32) (m_states : Int32) (m_drawnNow : Int32) (m_keptAt : Int32) (m_deep : Nat → Int32) (m_wide : Nat → Int32) (p1 : Int32) (p2 : Int32) (r : Int32) (hf : f_M_many m_deep m_wide p1 p2 = some r) : Met l yX11_many wsX11_many ({ frames := 2, cells := 0, slots := 0, locals := 42 }) (va_Pc [.ref a_m, .int p1, .int p2] (q_N D ci A sa ((a_m, .inr (11, (.ref a_m_cutRows :: .ref a_m_cutColumns :: .ref a_m_deep :: .ref a_m_wide :: .ref a_m_zonesAhead :: .ref a_m_nameOne :: .ref a_m_nameOther :: .ref a_m_tape :: .int m_taped :: .int m_place :: .int m_fault :: .int m_number :: .int m_levelRead :: .int m_keyRead :: .int m_reads :: .int m_faults :: .int m_cutShort :: .int m_noNumber :: .long m_bottomLat :: .long m_bottomLon :: .ref a_m_edges :: .int m_firstBeside :: .int m_manyBeside :: .ref a_m_dist :: .ref a_m_queue :: .int m_queued :: .int m_boxLevel :: .int m_boxTop :: .int m_boxBottom :: .int m_boxWest :: .int m_boxEast :: .int m_isEarly :: .int m_pieces :: .int m_states :: .ref a_m_pieceLevel :: .ref a_m_pieceKey :: .ref a_m_pieceYear :: .int m_drawnNow :: .ref a_m_drawnKeys :: .ref a_m_kept :: .int m_keptAt :: .ref a_m_noNumbers :: []))) :: (a_m_deep, .inl (ci 0, 5, .inl m_deep)) :: (a_m_wide, .inl (ci 0, 5, .inl m_wide)) :: Rw))) (q_R (some (.int r))) 0 0 A := by
  refine q_ofW (cc := cX11_many) (maxL := 3) (ret := (some .int)) [.ref a_m, .int p1, .int p2] (plainFor_of_name (by decide)) rfl (Nat.le_of_ble_eq_true rfl) ?_
  intro p e s m below meth c ls Q hQ hx hb hml hr hts hown hlocks hK hA hZ hP hD hS hl
  have hl : lv_has ls 3 [(0, .ref a_m), (1, .int p1), (2, .int p2)] := hl
  have hown : s.vm.findClass RX11 = some m.cls := hown
  have hinX11 : ∀ w ∈ wsX110, w ∈ wsX11_many := fun _ h => List.mem_cons_of_mem _ (inWX110 _ h)
  have w_1 := hts (Cond.fieldLink RX11 19 "SheetNamesModel" "wide" "[I") (List.mem_cons_of_mem _ t_w909)
  unfold f_M_many at hf
  have hgo : ∀ (H : Heap) (locs : List Loc), H = s.heap → va_P D vwCl ((a_m, .inr (11, (.ref a_m_cutRows :: .ref a_m_cutColumns :: .ref a_m_deep :: .ref a_m_wide :: .ref a_m_zonesAhead :: .ref a_m_nameOne :: .ref a_m_nameOther :: .ref a_m_tape :: .int m_taped :: .int m_place :: .int m_fault :: .int m_number :: .int m_levelRead :: .int m_keyRead :: .int m_reads :: .int m_faults :: .int m_cutShort :: .int m_noNumber :: .long m_bottomLat :: .long m_bottomLon :: .ref a_m_edges :: .int m_firstBeside :: .int m_manyBeside :: .ref a_m_dist :: .ref a_m_queue :: .int m_queued :: .int m_boxLevel :: .int m_boxTop :: .int m_boxBottom :: .int m_boxWest :: .int m_boxEast :: .int m_isEarly :: .int m_pieces :: .int m_states :: .ref a_m_pieceLevel :: .ref a_m_pieceKey :: .ref a_m_pieceYear :: .int m_drawnNow :: .ref a_m_drawnKeys :: .ref a_m_kept :: .int m_keptAt :: .ref a_m_noNumbers :: []))) :: (a_m_deep, .inl (ci 0, 5, .inl m_deep)) :: (a_m_wide, .inl (ci 0, 5, .inl m_wide)) :: Rw) H → va_S A s.heap H locs → W p l e ({ frames := 2, cells := 0, slots := 0, locals := 42 } : Room) s m ([.ref a_m, .int p1, .int p2] : List Value).toArray below meth c H locs 0 0 Q (F0 m 0 ls []) := by
    intro H locs hH hP hS
    subst hH
    refine lv_iload_n (pc := 0) hx hb dX11_many_0 rfl (lv_at hl 2 rfl) ?_
    obtain ⟨k13, ek13, hf⟩ := q_j0_e hf
    have J13 : ∀  (H : Heap) (locs : List Loc) (ls : Array Slot), k13 = some r → H = s.heap → va_S A s.heap H locs → lv_has ls 3 [] → W p l e ({ frames := 2, cells := 0, slots := 0, locals := 42 } : Room) s m ([.ref a_m, .int p1, .int p2] : List Value).toArray below meth c H locs 0 0 Q (F0 m 13 ls []) := by
      intro  H locs ls hf hHs hS hl
      subst hHs
      have hf := (ek13).symm.trans hf
      refine lv_iconst (pc := 13) (v := 1) hx hb dX11_many_13 (by decide) ?_
      refine lv_goto (pc := 14) (tgt := 33) hx hb dX11_many_14 (by decide) ?_
      obtain rfl := Option.some.inj hf
      rw [hQ]
      exact q_iretr (pc := 33) hx hb hr hlocks rfl hS dX11_many_33
    refine q_if_eq (pc := 1) (tgt := 13) hx hb dX11_many_1 (by decide) rfl hf (fun hf => ?_) (fun hf => ?_)
    · exact J13  _ _ _ hf rfl hS (lv_sub hl [] rfl)
    · refine lv_iload_n (pc := 4) hx hb dX11_many_4 rfl (lv_at hl 2 rfl) ?_
      refine lv_aload_n (pc := 5) hx hb dX11_many_5 rfl (lv_at hl 0 rfl) ?_
      refine lv_iload_n (pc := 6) hx hb dX11_many_6 rfl (lv_at hl 1 rfl) ?_
      obtain ⟨v1, hm7, hf⟩ := q_b1_e hf
      refine q_cVr (pc := 7) (As := [.int p1]) (rest := [.int p2]) (v0 := (some (.int v1))) ⟨hx, hb, hml, hown, hts⟩ hK hA hZ hP hD hS hl.1 [0, 1] 3 rfl ⟨rfl, rfl, rfl⟩ (c_M_lastRow l D ci A sa N (Rw) a_m a_m_cutRows a_m_cutColumns a_m_deep a_m_wide a_m_zonesAhead a_m_nameOne a_m_nameOther a_m_tape a_m_edges a_m_dist a_m_queue a_m_pieceLevel a_m_pieceKey a_m_pieceYear a_m_drawnKeys a_m_kept a_m_noNumbers m_taped m_place m_fault m_number m_levelRead m_keyRead m_reads m_faults m_cutShort m_noNumber m_bottomLat m_bottomLon m_firstBeside m_manyBeside m_queued m_boxLevel m_boxTop m_boxBottom m_boxWest m_boxEast m_isEarly m_pieces m_states m_drawnNow m_keptAt m_deep p1 v1 hm7) 0 rfl rfl (cwV 1 hts gX11_many_X11_lastRow rfl rfl rfl (by decide +kernel) ⟨Nat.le_of_ble_eq_true rfl, Nat.le_of_ble_eq_true rfl⟩) rfl rfl (Nat.le_of_ble_eq_true rfl) dX11_many_7 ⟨Nat.zero_le _, Nat.zero_le _⟩ (fun locs hS => ?_)
      refine q_icmp_ne (pc := 10) (tgt := 17) hx hb dX11_many_10 (by decide) rfl hf (fun hf => ?_) (fun hf => ?_)
      · refine lv_aload_n (pc := 17) hx hb dX11_many_17 rfl (lv_at hl 0 rfl) ?_
        refine lv_iload_n (pc := 18) hx hb dX11_many_18 rfl (lv_at hl 1 rfl) ?_
        refine lv_iload_n (pc := 19) hx hb dX11_many_19 rfl (lv_at hl 2 rfl) ?_
        obtain ⟨v2, hm20, hf⟩ := q_b1_e hf
        refine q_cVr (pc := 20) (As := [.int p1, .int p2]) (rest := []) (v0 := (some (.int v2))) ⟨hx, hb, hml, hown, hts⟩ hK hA hZ hP hD hS hl.1 [0, 1] 3 rfl ⟨rfl, rfl, rfl⟩ (c_M_bandOf l D ci A sa N (Rw) a_m a_m_cutRows a_m_cutColumns a_m_deep a_m_wide a_m_zonesAhead a_m_nameOne a_m_nameOther a_m_tape a_m_edges a_m_dist a_m_queue a_m_pieceLevel a_m_pieceKey a_m_pieceYear a_m_drawnKeys a_m_kept a_m_noNumbers m_taped m_place m_fault m_number m_levelRead m_keyRead m_reads m_faults m_cutShort m_noNumber m_bottomLat m_bottomLon m_firstBeside m_manyBeside m_queued m_boxLevel m_boxTop m_boxBottom m_boxWest m_boxEast m_isEarly m_pieces m_states m_drawnNow m_keptAt m_deep p1 p2 v2 hm20) 0 rfl rfl (cwV 2 hts gX11_many_X11_bandOf rfl rfl rfl (by decide +kernel) ⟨Nat.le_of_ble_eq_true rfl, Nat.le_of_ble_eq_true rfl⟩) rfl rfl (Nat.le_of_ble_eq_true rfl) dX11_many_20 ⟨Nat.zero_le _, Nat.zero_le _⟩ (fun locs hS => ?_)
        obtain ⟨v3, hm23, hf⟩ := q_b1_e hf
        refine q_cSr (pc := 23) (As := [.int v2]) (rest := []) (v0 := (some (.int v3))) ⟨hx, hb, hml, hown, hts⟩ hK hA hZ hP hD hS hl.1 [] 3 rfl ⟨rfl, rfl, rfl⟩ (c_M_zonesOf l D ci A sa N (Rw) v2 v3 hm23) (va_cwS 1 hts gX11_many_X11_zonesOf rfl rfl rfl (by decide +kernel) ⟨Nat.le_of_ble_eq_true rfl, Nat.le_of_ble_eq_true rfl⟩) rfl rfl (Nat.le_of_ble_eq_true rfl) dX11_many_23 ⟨Nat.zero_le _, Nat.zero_le _⟩ (fun locs hS => ?_)
        refine lv_aload_n (pc := 26) hx hb dX11_many_26 rfl (lv_at hl 0 rfl) ?_
        refine va_get (pc := 27) (D := D) (ci := 11) (v := .ref a_m_wide) (C := RX11) (T := TX11) (N := 42) hx hb hts hinX11 hown hK hP 0 rfl rfl 3 (by decide) w_1 (fun _ h9 => h9) rfl dX11_many_27 ?_
        refine lv_iload_n (pc := 30) hx hb dX11_many_30 rfl (lv_at hl 1 rfl) ?_
        refine q_iald (pc := 31) hx hb hK hP 2 0 hf rfl rfl dX11_many_31 (fun v4 hf => ?_)
        refine lv_imul (pc := 32) hx hb dX11_many_32 ?_
        obtain rfl := Option.some.inj hf
        rw [hQ]
        exact q_iretr (pc := 33) hx hb hr hlocks rfl hS dX11_many_33
      · exact J13  _ _ _ hf rfl hS (lv_sub hl [] rfl)
  exact hgo _ _ rfl hP hS
/-! X11_in -/
set_option maxRecDepth 100000 in
set_option maxHeartbeats 4000000 in
theorem c_M_in (l : Launch) (D : va_G) (ci : Nat → ClassId) (A : Nat → Prop) (sa : Nat → Nat) (N : Nat) (Rw : va_W) (p1 : Int64) (p2 : Int64) (p3 : Int64) (r : Int32) (hf : f_M_in p1 p2 p3 = some r) : Met l yX11_in wsX11_in ({ frames := 0, cells := 0, slots := 0, locals := 0 }) (va_Pc [.long p1, .long p2, .long p3] (q_N D ci A sa (Rw))) (q_R (some (.int r))) 0 0 A := by
  refine q_ofW (cc := cX11_in) (maxL := 6) (ret := (some .boolean)) [.long p1, .long p2, .long p3] (plainFor_of_name (by decide)) rfl (Nat.le_of_ble_eq_true rfl) ?_
  intro p e s m below meth c ls Q hQ hx hb hml hr hts hown hlocks hK hA hZ hP hD hS hl
  have hl : lv_has ls 6 [(0, .long p1), (2, .long p2), (4, .long p3)] := hl
  have hown : s.vm.findClass RX11 = some m.cls := hown
  unfold f_M_in at hf
  have hgo : ∀ (H : Heap) (locs : List Loc), H = s.heap → va_P D vwCl (Rw) H → va_S A s.heap H locs → W p l e ({ frames := 0, cells := 0, slots := 0, locals := 0 } : Room) s m ([.long p1, .long p2, .long p3] : List Value).toArray below meth c H locs 0 0 Q (F0 m 0 ls []) := by
    intro H locs hH hP hS
    subst hH
    refine lv_lload_n (pc := 0) hx hb dX11_in_0 rfl (lv_at hl 0 rfl) ?_
    refine lv_lload_n (pc := 1) hx hb dX11_in_1 rfl (lv_at hl 1 rfl) ?_
    refine W.lcmp (pc := 2) hx hb dX11_in_2 ?_
    refine q_if_lt (pc := 3) (tgt := 17) hx hb dX11_in_3 (by decide) rfl hf (fun hf => ?_) (fun hf => ?_)
    · refine lv_iconst (pc := 17) (v := 0) hx hb dX11_in_17 (by decide) ?_
      obtain rfl := Option.some.inj hf
      rw [hQ]
      exact q_zretr (pc := 18) hx hb hr rfl hlocks rfl hS dX11_in_18
    · refine lv_lload_n (pc := 6) hx hb dX11_in_6 rfl (lv_at hl 0 rfl) ?_
      refine lv_lload (pc := 7) hx hb dX11_in_7 (lv_at hl 2 rfl) ?_
      refine W.lcmp (pc := 9) hx hb dX11_in_9 ?_
      refine q_if_gt (pc := 10) (tgt := 17) hx hb dX11_in_10 (by decide) rfl hf (fun hf => ?_) (fun hf => ?_)
      · refine lv_iconst (pc := 17) (v := 0) hx hb dX11_in_17 (by decide) ?_
        obtain rfl := Option.some.inj hf
        rw [hQ]
        exact q_zretr (pc := 18) hx hb hr rfl hlocks rfl hS dX11_in_18
      · refine lv_iconst (pc := 13) (v := 1) hx hb dX11_in_13 (by decide) ?_
        refine lv_goto (pc := 14) (tgt := 18) hx hb dX11_in_14 (by decide) ?_
        obtain rfl := Option.some.inj hf
        rw [hQ]
        exact q_zretr (pc := 18) hx hb hr rfl hlocks rfl hS dX11_in_18
  exact hgo _ _ rfl hP hS
/-! X11_laysBeside -/
set_option maxRecDepth 100000 in
set_option maxHeartbeats 4000000 in
theorem c_M_laysBeside (l : Launch) (D : va_G) (ci : Nat → ClassId) (A : Nat → Prop) (sa : Nat → Nat) (N : Nat) (Rw : va_W) (a_m : Nat) (a_m_cutRows : Nat) (a_m_cutColumns : Nat) (a_m_deep : Nat) (a_m_wide : Nat) (a_m_zonesAhead : Nat) (a_m_nameOne : Nat) (a_m_nameOther : Nat) (a_m_tape : Nat) (a_m_edges : Nat) (a_m_dist : Nat) (a_m_queue : Nat) (a_m_pieceLevel : Nat) (a_m_pieceKey : Nat) (a_m_pieceYear : Nat) (a_m_drawnKeys : Nat) (a_m_kept : Nat) (a_m_noNumbers : Nat) (m_taped : Int32) (m_place : Int32) (m_fault : Int32) (m_number : Int32) (m_levelRead : Int32) (m_keyRead : Int32) (m_reads : Int32) (m_faults : Int32) (m_cutShort : Int32) (m_noNumber : Int32) (m_bottomLat : Int64) (m_bottomLon : Int64) (m_firstBeside : Int32) (m_manyBeside : Int32) (m_queued : Int32) (m_boxLevel : Int32) (m_boxTop : Int32) (m_boxBottom : Int32) (m_boxWest : Int32) (m_boxEast : Int32) (m_isEarly : Int32) (m_pieces : Int32) (m_states : Int32) (m_drawnNow : Int32) (m_keptAt : Int32) (m_deep : Nat → Int32) (m_wide : Nat → Int32) (m_zonesAhead : Nat → Int32) (p1 : Int32) (p2 : Int32) (p3 : Int32) (o1 : Int32) (o2 : Int32) (hf : f_M_laysBeside N m_deep m_wide m_zonesAhead m_firstBeside m_manyBeside p1 p2 p3 = some (o1, o2)) : Met l yX11_laysBeside wsX11_laysBeside ({ frames := 4, cells := 0, slots := 0, locals := 88 }) (va_Pc [.ref a_m, .int p1, .int p2, .int p3] (q_N D ci A sa ((a_m, .inr (11, (.ref a_m_cutRows :: .ref a_m_cutColumns :: .ref a_m_deep :: .ref a_m_wide :: .ref a_m_zonesAhead :: .ref a_m_nameOne :: .ref a_m_nameOther :: .ref a_m_tape :: .int m_taped :: .int m_place :: .int m_fault :: .int m_number :: .int m_levelRead :: .int m_keyRead :: .int m_reads :: .int m_faults :: .int m_cutShort :: .int m_noNumber :: .long m_bottomLat :: .long m_bottomLon :: .ref a_m_edges :: .int m_firstBeside :: .int m_manyBeside :: .ref a_m_dist :: .ref a_m_queue :: .int m_queued :: .int m_boxLevel :: .int m_boxTop :: .int m_boxBottom :: .int m_boxWest :: .int m_boxEast :: .int m_isEarly :: .int m_pieces :: .int m_states :: .ref a_m_pieceLevel :: .ref a_m_pieceKey :: .ref a_m_pieceYear :: .int m_drawnNow :: .ref a_m_drawnKeys :: .ref a_m_kept :: .int m_keptAt :: .ref a_m_noNumbers :: []))) :: (a_m_deep, .inl (ci 0, 5, .inl m_deep)) :: (a_m_wide, .inl (ci 0, 5, .inl m_wide)) :: (a_m_zonesAhead, .inl (ci 0, 45, .inl m_zonesAhead)) :: Rw))) (q_Q none (q_O D A ((a_m, .inr (11, (.ref a_m_cutRows :: .ref a_m_cutColumns :: .ref a_m_deep :: .ref a_m_wide :: .ref a_m_zonesAhead :: .ref a_m_nameOne :: .ref a_m_nameOther :: .ref a_m_tape :: .int m_taped :: .int m_place :: .int m_fault :: .int m_number :: .int m_levelRead :: .int m_keyRead :: .int m_reads :: .int m_faults :: .int m_cutShort :: .int m_noNumber :: .long m_bottomLat :: .long m_bottomLon :: .ref a_m_edges :: .int o1 :: .int o2 :: .ref a_m_dist :: .ref a_m_queue :: .int m_queued :: .int m_boxLevel :: .int m_boxTop :: .int m_boxBottom :: .int m_boxWest :: .int m_boxEast :: .int m_isEarly :: .int m_pieces :: .int m_states :: .ref a_m_pieceLevel :: .ref a_m_pieceKey :: .ref a_m_pieceYear :: .int m_drawnNow :: .ref a_m_drawnKeys :: .ref a_m_kept :: .int m_keptAt :: .ref a_m_noNumbers :: []))) :: (a_m_deep, .inl (ci 0, 5, .inl m_deep)) :: (a_m_wide, .inl (ci 0, 5, .inl m_wide)) :: (a_m_zonesAhead, .inl (ci 0, 45, .inl m_zonesAhead)) :: Rw)) A) 0 0 A := by
  refine q_ofW (cc := cX11_laysBeside) (maxL := 14) (ret := none) [.ref a_m, .int p1, .int p2, .int p3] (plainFor_of_name (by decide)) rfl (Nat.le_of_ble_eq_true rfl) ?_
  intro p e s m below meth c ls Q hQ hx hb hml hr hts hown hlocks hK hA hZ hP hD hS hl
  have hl : lv_has ls 14 [(0, .ref a_m), (1, .int p1), (2, .int p2), (3, .int p3)] := hl
  have hown : s.vm.findClass RX11 = some m.cls := hown
  have hinX11 : ∀ w ∈ wsX110, w ∈ wsX11_laysBeside := fun _ h => List.mem_cons_of_mem _ (inWX110 _ h)
  have w_1 := hts (Cond.fieldLink RX11 257 "SheetNamesModel" "manyBeside" "I") (List.mem_cons_of_mem _ t_w911)
  have w_2 := hts (Cond.fieldLink RX11 260 "SheetNamesModel" "firstBeside" "I") (List.mem_cons_of_mem _ t_w912)
  unfold f_M_laysBeside at hf
  have hgo : ∀ (H : Heap) (locs : List Loc), H = s.heap → va_P D vwCl ((a_m, .inr (11, (.ref a_m_cutRows :: .ref a_m_cutColumns :: .ref a_m_deep :: .ref a_m_wide :: .ref a_m_zonesAhead :: .ref a_m_nameOne :: .ref a_m_nameOther :: .ref a_m_tape :: .int m_taped :: .int m_place :: .int m_fault :: .int m_number :: .int m_levelRead :: .int m_keyRead :: .int m_reads :: .int m_faults :: .int m_cutShort :: .int m_noNumber :: .long m_bottomLat :: .long m_bottomLon :: .ref a_m_edges :: .int m_firstBeside :: .int m_manyBeside :: .ref a_m_dist :: .ref a_m_queue :: .int m_queued :: .int m_boxLevel :: .int m_boxTop :: .int m_boxBottom :: .int m_boxWest :: .int m_boxEast :: .int m_isEarly :: .int m_pieces :: .int m_states :: .ref a_m_pieceLevel :: .ref a_m_pieceKey :: .ref a_m_pieceYear :: .int m_drawnNow :: .ref a_m_drawnKeys :: .ref a_m_kept :: .int m_keptAt :: .ref a_m_noNumbers :: []))) :: (a_m_deep, .inl (ci 0, 5, .inl m_deep)) :: (a_m_wide, .inl (ci 0, 5, .inl m_wide)) :: (a_m_zonesAhead, .inl (ci 0, 45, .inl m_zonesAhead)) :: Rw) H → va_S A s.heap H locs → W p l e ({ frames := 4, cells := 0, slots := 0, locals := 88 } : Room) s m ([.ref a_m, .int p1, .int p2, .int p3] : List Value).toArray below meth c H locs 0 0 Q (F0 m 0 ls []) := by
    intro H locs hH hP hS
    refine lv_aload_n (pc := 0) hx hb dX11_laysBeside_0 rfl (lv_at hl 0 rfl) ?_
    refine lv_iload_n (pc := 1) hx hb dX11_laysBeside_1 rfl (lv_at hl 1 rfl) ?_
    refine lv_iload_n (pc := 2) hx hb dX11_laysBeside_2 rfl (lv_at hl 2 rfl) ?_
    obtain ⟨v1, hm3, hf⟩ := q_b1_e hf
    refine q_cVr (pc := 3) (As := [.int p1, .int p2]) (rest := []) (v0 := (some (.int v1))) ⟨hx, hb, hml, hown, hts⟩ hK hA hZ hP hD hS hl.1 [0, 1, 2, 3] 4 rfl ⟨rfl, rfl, rfl⟩ (c_M_rowOf l D ci A sa N (Rw) a_m a_m_cutRows a_m_cutColumns a_m_deep a_m_wide a_m_zonesAhead a_m_nameOne a_m_nameOther a_m_tape a_m_edges a_m_dist a_m_queue a_m_pieceLevel a_m_pieceKey a_m_pieceYear a_m_drawnKeys a_m_kept a_m_noNumbers m_taped m_place m_fault m_number m_levelRead m_keyRead m_reads m_faults m_cutShort m_noNumber m_bottomLat m_bottomLon m_firstBeside m_manyBeside m_queued m_boxLevel m_boxTop m_boxBottom m_boxWest m_boxEast m_isEarly m_pieces m_states m_drawnNow m_keptAt m_deep m_wide m_zonesAhead p1 p2 v1 hm3) 0 rfl rfl (cwV 2 hts gX11_laysBeside_X11_rowOf rfl rfl rfl (by decide +kernel) ⟨Nat.le_of_ble_eq_true rfl, Nat.le_of_ble_eq_true rfl⟩) rfl rfl (Nat.le_of_ble_eq_true rfl) dX11_laysBeside_3 ⟨Nat.zero_le _, Nat.zero_le _⟩ (fun locs hS => ?_)
    refine lv_istore (pc := 6) (lv' := [(4, .int v1), (0, .ref a_m), (1, .int p1), (2, .int p2), (3, .int p3)]) hx hb dX11_laysBeside_6 hl (by decide) rfl (fun ls hl => ?_)
    refine lv_aload_n (pc := 8) hx hb dX11_laysBeside_8 rfl (lv_at hl 1 rfl) ?_
    refine lv_iload_n (pc := 9) hx hb dX11_laysBeside_9 rfl (lv_at hl 2 rfl) ?_
    refine lv_iload_n (pc := 10) hx hb dX11_laysBeside_10 rfl (lv_at hl 3 rfl) ?_
    obtain ⟨v2, hm11, hf⟩ := q_b1_e hf
    refine q_cVr (pc := 11) (As := [.int p1, .int p2]) (rest := []) (v0 := (some (.int v2))) ⟨hx, hb, hml, hown, hts⟩ hK hA hZ hP hD hS hl.1 [0, 1, 2, 3] 4 rfl ⟨rfl, rfl, rfl⟩ (c_M_placeOf l D ci A sa N (Rw) a_m a_m_cutRows a_m_cutColumns a_m_deep a_m_wide a_m_zonesAhead a_m_nameOne a_m_nameOther a_m_tape a_m_edges a_m_dist a_m_queue a_m_pieceLevel a_m_pieceKey a_m_pieceYear a_m_drawnKeys a_m_kept a_m_noNumbers m_taped m_place m_fault m_number m_levelRead m_keyRead m_reads m_faults m_cutShort m_noNumber m_bottomLat m_bottomLon m_firstBeside m_manyBeside m_queued m_boxLevel m_boxTop m_boxBottom m_boxWest m_boxEast m_isEarly m_pieces m_states m_drawnNow m_keptAt m_deep m_wide m_zonesAhead p1 p2 v2 hm11) 0 rfl rfl (cwV 2 hts gX11_laysBeside_X11_placeOf rfl rfl rfl (by decide +kernel) ⟨Nat.le_of_ble_eq_true rfl, Nat.le_of_ble_eq_true rfl⟩) rfl rfl (Nat.le_of_ble_eq_true rfl) dX11_laysBeside_11 ⟨Nat.zero_le _, Nat.zero_le _⟩ (fun locs hS => ?_)
    refine lv_istore (pc := 14) (lv' := [(5, .int v2), (4, .int v1), (0, .ref a_m), (1, .int p1), (2, .int p2), (3, .int p3)]) hx hb dX11_laysBeside_14 hl (by decide) rfl (fun ls hl => ?_)
    refine lv_aload_n (pc := 16) hx hb dX11_laysBeside_16 rfl (lv_at hl 2 rfl) ?_
    refine lv_iload_n (pc := 17) hx hb dX11_laysBeside_17 rfl (lv_at hl 3 rfl) ?_
    refine lv_iload (pc := 18) hx hb dX11_laysBeside_18 (lv_at hl 1 rfl) ?_
    obtain ⟨v3, hm20, hf⟩ := q_b1_e hf
    refine q_cVr (pc := 20) (As := [.int p1, .int v1]) (rest := []) (v0 := (some (.int v3))) ⟨hx, hb, hml, hown, hts⟩ hK hA hZ hP hD hS hl.1 [0, 1, 2] 4 rfl ⟨rfl, rfl, rfl⟩ (c_M_many l D ci A sa N (Rw) a_m a_m_cutRows a_m_cutColumns a_m_deep a_m_wide a_m_zonesAhead a_m_nameOne a_m_nameOther a_m_tape a_m_edges a_m_dist a_m_queue a_m_pieceLevel a_m_pieceKey a_m_pieceYear a_m_drawnKeys a_m_kept a_m_noNumbers m_taped m_place m_fault m_number m_levelRead m_keyRead m_reads m_faults m_cutShort m_noNumber m_bottomLat m_bottomLon m_firstBeside m_manyBeside m_queued m_boxLevel m_boxTop m_boxBottom m_boxWest m_boxEast m_isEarly m_pieces m_states m_drawnNow m_keptAt m_deep m_wide p1 v1 v3 hm20) 0 rfl rfl (cwV 2 hts gX11_laysBeside_X11_many rfl rfl rfl (by decide +kernel) ⟨Nat.le_of_ble_eq_true rfl, Nat.le_of_ble_eq_true rfl⟩) rfl rfl (Nat.le_of_ble_eq_true rfl) dX11_laysBeside_20 ⟨Nat.zero_le _, Nat.zero_le _⟩ (fun locs hS => ?_)
    refine lv_istore (pc := 23) (lv' := [(6, .int v3), (5, .int v2), (4, .int v1), (0, .ref a_m), (1, .int p1), (2, .int p2), (3, .int p3)]) hx hb dX11_laysBeside_23 hl (by decide) rfl (fun ls hl => ?_)
    refine lv_aload_n (pc := 25) hx hb dX11_laysBeside_25 rfl (lv_at hl 3 rfl) ?_
    refine lv_iconst (pc := 26) (v := 0) hx hb dX11_laysBeside_26 (by decide) ?_
    refine va_put (pc := 27) (D := D) (ci := 11) (v := .int 0) (ty := .int) (C := RX11) (T := TX11) (N := 42) hx hb hts hinX11 tyX11 tyX11_ok nmX11 hown hK hP hD hS 0 rfl rfl 22 (by decide) w_1 (fun _ h9 => h9) rfl (by decide +kernel) rfl rfl (Nat.le_of_ble_eq_true rfl) dX11_laysBeside_27 (fun H locs hP hD hS => ?_)
    obtain ⟨hP, hD⟩ : va_PD D A ((a_m, .inr (11, (.ref a_m_cutRows :: .ref a_m_cutColumns :: .ref a_m_deep :: .ref a_m_wide :: .ref a_m_zonesAhead :: .ref a_m_nameOne :: .ref a_m_nameOther :: .ref a_m_tape :: .int m_taped :: .int m_place :: .int m_fault :: .int m_number :: .int m_levelRead :: .int m_keyRead :: .int m_reads :: .int m_faults :: .int m_cutShort :: .int m_noNumber :: .long m_bottomLat :: .long m_bottomLon :: .ref a_m_edges :: .int m_firstBeside :: .int 0 :: .ref a_m_dist :: .ref a_m_queue :: .int m_queued :: .int m_boxLevel :: .int m_boxTop :: .int m_boxBottom :: .int m_boxWest :: .int m_boxEast :: .int m_isEarly :: .int m_pieces :: .int m_states :: .ref a_m_pieceLevel :: .ref a_m_pieceKey :: .ref a_m_pieceYear :: .int m_drawnNow :: .ref a_m_drawnKeys :: .ref a_m_kept :: .int m_keptAt :: .ref a_m_noNumbers :: []))) :: (a_m_deep, .inl (ci 0, 5, .inl m_deep)) :: (a_m_wide, .inl (ci 0, 5, .inl m_wide)) :: (a_m_zonesAhead, .inl (ci 0, 45, .inl m_zonesAhead)) :: Rw) H := ⟨hP, hD⟩
    refine lv_iload_n (pc := 30) hx hb dX11_laysBeside_30 rfl (lv_at hl 6 rfl) ?_
    refine lv_iconst (pc := 31) (v := 2) hx hb dX11_laysBeside_31 (by decide) ?_
    refine q_irem (pc := 32) hx hb dX11_laysBeside_32 hf (fun v4 hf => ?_)
    refine lv_iconst (pc := 33) (v := 1) hx hb dX11_laysBeside_33 (by decide) ?_
    refine q_icmp_ne (pc := 34) (tgt := 80) hx hb dX11_laysBeside_34 (by decide) rfl hf (fun hf => ?_) (fun hf => ?_)
    · refine lv_iload_n (pc := 80) hx hb dX11_laysBeside_80 rfl (lv_at hl 6 rfl) ?_
      obtain ⟨k95, ek95, hf⟩ := q_j1_e hf
      have J95 : ∀ (v5 : Int32) (H : Heap) (locs : List Loc) (ls : Array Slot), k95 v5 = some (o1, o2) → va_P D vwCl ((a_m, .inr (11, (.ref a_m_cutRows :: .ref a_m_cutColumns :: .ref a_m_deep :: .ref a_m_wide :: .ref a_m_zonesAhead :: .ref a_m_nameOne :: .ref a_m_nameOther :: .ref a_m_tape :: .int m_taped :: .int m_place :: .int m_fault :: .int m_number :: .int m_levelRead :: .int m_keyRead :: .int m_reads :: .int m_faults :: .int m_cutShort :: .int m_noNumber :: .long m_bottomLat :: .long m_bottomLon :: .ref a_m_edges :: .int m_firstBeside :: .int 0 :: .ref a_m_dist :: .ref a_m_queue :: .int m_queued :: .int m_boxLevel :: .int m_boxTop :: .int m_boxBottom :: .int m_boxWest :: .int m_boxEast :: .int m_isEarly :: .int m_pieces :: .int m_states :: .ref a_m_pieceLevel :: .ref a_m_pieceKey :: .ref a_m_pieceYear :: .int m_drawnNow :: .ref a_m_drawnKeys :: .ref a_m_kept :: .int m_keptAt :: .ref a_m_noNumbers :: []))) :: (a_m_deep, .inl (ci 0, 5, .inl m_deep)) :: (a_m_wide, .inl (ci 0, 5, .inl m_wide)) :: (a_m_zonesAhead, .inl (ci 0, 45, .inl m_zonesAhead)) :: Rw) H → va_D A ((a_m, .inr (11, (.ref a_m_cutRows :: .ref a_m_cutColumns :: .ref a_m_deep :: .ref a_m_wide :: .ref a_m_zonesAhead :: .ref a_m_nameOne :: .ref a_m_nameOther :: .ref a_m_tape :: .int m_taped :: .int m_place :: .int m_fault :: .int m_number :: .int m_levelRead :: .int m_keyRead :: .int m_reads :: .int m_faults :: .int m_cutShort :: .int m_noNumber :: .long m_bottomLat :: .long m_bottomLon :: .ref a_m_edges :: .int m_firstBeside :: .int 0 :: .ref a_m_dist :: .ref a_m_queue :: .int m_queued :: .int m_boxLevel :: .int m_boxTop :: .int m_boxBottom :: .int m_boxWest :: .int m_boxEast :: .int m_isEarly :: .int m_pieces :: .int m_states :: .ref a_m_pieceLevel :: .ref a_m_pieceKey :: .ref a_m_pieceYear :: .int m_drawnNow :: .ref a_m_drawnKeys :: .ref a_m_kept :: .int m_keptAt :: .ref a_m_noNumbers :: []))) :: (a_m_deep, .inl (ci 0, 5, .inl m_deep)) :: (a_m_wide, .inl (ci 0, 5, .inl m_wide)) :: (a_m_zonesAhead, .inl (ci 0, 45, .inl m_zonesAhead)) :: Rw) → va_S A s.heap H locs → lv_has ls 14 [(0, .ref a_m), (1, .int p1), (5, .int v2), (6, .int v3)] → W p l e ({ frames := 4, cells := 0, slots := 0, locals := 88 } : Room) s m ([.ref a_m, .int p1, .int p2, .int p3] : List Value).toArray below meth c H locs 0 0 Q (F0 m 95 ls [.int v5]) := by
        intro v5 H locs ls hf hP hD hS hl
        have hf := (ek95 v5).symm.trans hf
        refine lv_istore (pc := 95) (lv' := [(7, .int v5), (0, .ref a_m), (1, .int p1), (5, .int v2), (6, .int v3)]) hx hb dX11_laysBeside_95 hl (by decide) rfl (fun ls hl => ?_)
        refine lv_iload (pc := 97) hx hb dX11_laysBeside_97 (lv_at hl 0 rfl) ?_
        refine lv_i2l (pc := 99) hx hb dX11_laysBeside_99 rfl ?_
        refine lv_lconst (pc := 100) (v := 0) hx hb dX11_laysBeside_100 (by decide) ?_
        refine lv_aload_n (pc := 101) hx hb dX11_laysBeside_101 rfl (lv_at hl 1 rfl) ?_
        refine lv_iload_n (pc := 102) hx hb dX11_laysBeside_102 rfl (lv_at hl 2 rfl) ?_
        obtain ⟨v6, hm103, hf⟩ := q_b1_e hf
        refine q_cVr (pc := 103) (As := [.int p1]) (rest := [.long 0, .long v5.toInt64]) (v0 := (some (.int v6))) ⟨hx, hb, hml, hown, hts⟩ hK hA hZ hP hD hS hl.1 [0, 1] 4 rfl ⟨rfl, rfl, rfl⟩ (c_M_lastRow l D ci A sa N (Rw) a_m a_m_cutRows a_m_cutColumns a_m_deep a_m_wide a_m_zonesAhead a_m_nameOne a_m_nameOther a_m_tape a_m_edges a_m_dist a_m_queue a_m_pieceLevel a_m_pieceKey a_m_pieceYear a_m_drawnKeys a_m_kept a_m_noNumbers m_taped m_place m_fault m_number m_levelRead m_keyRead m_reads m_faults m_cutShort m_noNumber m_bottomLat m_bottomLon m_firstBeside 0 m_queued m_boxLevel m_boxTop m_boxBottom m_boxWest m_boxEast m_isEarly m_pieces m_states m_drawnNow m_keptAt m_deep p1 v6 hm103) 0 rfl rfl (cwV 1 hts gX11_laysBeside_X11_lastRow rfl rfl rfl (by decide +kernel) ⟨Nat.le_of_ble_eq_true rfl, Nat.le_of_ble_eq_true rfl⟩) rfl rfl (Nat.le_of_ble_eq_true rfl) dX11_laysBeside_103 ⟨Nat.zero_le _, Nat.zero_le _⟩ (fun locs hS => ?_)
        refine lv_i2l (pc := 106) hx hb dX11_laysBeside_106 rfl ?_
        obtain ⟨v7, hm107, hf⟩ := q_b1_e hf
        refine q_cSr (pc := 107) (As := [.long v5.toInt64, .long 0, .long v6.toInt64]) (rest := []) (v0 := (some (.int v7))) ⟨hx, hb, hml, hown, hts⟩ hK hA hZ hP hD hS hl.1 [] 4 rfl ⟨rfl, rfl, rfl⟩ (c_M_in l D ci A sa N (Rw) v5.toInt64 0 v6.toInt64 v7 hm107) (va_cwS 3 hts gX11_laysBeside_X11_in rfl rfl rfl (by decide +kernel) ⟨Nat.le_of_ble_eq_true rfl, Nat.le_of_ble_eq_true rfl⟩) rfl rfl (Nat.le_of_ble_eq_true rfl) dX11_laysBeside_107 ⟨Nat.zero_le _, Nat.zero_le _⟩ (fun locs hS => ?_)
        refine q_if_ne (pc := 110) (tgt := 114) hx hb dX11_laysBeside_110 (by decide) rfl hf (fun hf => ?_) (fun hf => ?_)
        · refine lv_aload_n (pc := 114) hx hb dX11_laysBeside_114 rfl (lv_at hl 1 rfl) ?_
          refine lv_iload_n (pc := 115) hx hb dX11_laysBeside_115 rfl (lv_at hl 2 rfl) ?_
          refine lv_iload (pc := 116) hx hb dX11_laysBeside_116 (lv_at hl 0 rfl) ?_
          obtain ⟨v8, hm118, hf⟩ := q_b1_e hf
          refine q_cVr (pc := 118) (As := [.int p1, .int v5]) (rest := []) (v0 := (some (.int v8))) ⟨hx, hb, hml, hown, hts⟩ hK hA hZ hP hD hS hl.1 [0, 1, 2] 4 rfl ⟨rfl, rfl, rfl⟩ (c_M_many l D ci A sa N (Rw) a_m a_m_cutRows a_m_cutColumns a_m_deep a_m_wide a_m_zonesAhead a_m_nameOne a_m_nameOther a_m_tape a_m_edges a_m_dist a_m_queue a_m_pieceLevel a_m_pieceKey a_m_pieceYear a_m_drawnKeys a_m_kept a_m_noNumbers m_taped m_place m_fault m_number m_levelRead m_keyRead m_reads m_faults m_cutShort m_noNumber m_bottomLat m_bottomLon m_firstBeside 0 m_queued m_boxLevel m_boxTop m_boxBottom m_boxWest m_boxEast m_isEarly m_pieces m_states m_drawnNow m_keptAt m_deep m_wide p1 v5 v8 hm118) 0 rfl rfl (cwV 2 hts gX11_laysBeside_X11_many rfl rfl rfl (by decide +kernel) ⟨Nat.le_of_ble_eq_true rfl, Nat.le_of_ble_eq_true rfl⟩) rfl rfl (Nat.le_of_ble_eq_true rfl) dX11_laysBeside_118 ⟨Nat.zero_le _, Nat.zero_le _⟩ (fun locs hS => ?_)
          refine lv_i2l (pc := 121) hx hb dX11_laysBeside_121 rfl ?_
          obtain ⟨v9, ev9, hf⟩ := q_nm_e hf
          refine q_topl ev9 ?_
          refine lv_lstore (pc := 122) (lv' := [(8, .long v9), (7, .int v5), (0, .ref a_m), (1, .int p1), (5, .int v2), (6, .int v3)]) hx hb dX11_laysBeside_122 hl (by decide) rfl (fun ls hl => ?_)
          refine lv_iload (pc := 124) hx hb dX11_laysBeside_124 (lv_at hl 4 rfl) ?_
          refine lv_i2l (pc := 126) hx hb dX11_laysBeside_126 rfl ?_
          refine lv_lload (pc := 127) hx hb dX11_laysBeside_127 (lv_at hl 0 rfl) ?_
          refine lv_lmul (pc := 129) hx hb dX11_laysBeside_129 ?_
          refine lv_iload (pc := 130) hx hb dX11_laysBeside_130 (lv_at hl 5 rfl) ?_
          refine lv_i2l (pc := 132) hx hb dX11_laysBeside_132 rfl ?_
          refine q_ldiv (pc := 133) hx hb dX11_laysBeside_133 hf (fun v10 hf => ?_)
          refine lv_lstore (pc := 134) (lv' := [(10, .long v10), (8, .long v9), (7, .int v5), (0, .ref a_m), (1, .int p1), (5, .int v2), (6, .int v3)]) hx hb dX11_laysBeside_134 hl (by decide) rfl (fun ls hl => ?_)
          refine lv_iload (pc := 136) hx hb dX11_laysBeside_136 (lv_at hl 5 rfl) ?_
          refine lv_iconst (pc := 138) (v := 1) hx hb dX11_laysBeside_138 (by decide) ?_
          refine lv_iadd (pc := 139) hx hb dX11_laysBeside_139 ?_
          refine lv_i2l (pc := 140) hx hb dX11_laysBeside_140 rfl ?_
          refine lv_lload (pc := 141) hx hb dX11_laysBeside_141 (lv_at hl 1 rfl) ?_
          refine lv_lmul (pc := 143) hx hb dX11_laysBeside_143 ?_
          refine lv_iload (pc := 144) hx hb dX11_laysBeside_144 (lv_at hl 6 rfl) ?_
          refine lv_i2l (pc := 146) hx hb dX11_laysBeside_146 rfl ?_
          refine lv_ladd (pc := 147) hx hb dX11_laysBeside_147 ?_
          refine lv_lconst (pc := 148) (v := 1) hx hb dX11_laysBeside_148 (by decide) ?_
          refine lv_lsub (pc := 149) hx hb dX11_laysBeside_149 ?_
          refine lv_iload (pc := 150) hx hb dX11_laysBeside_150 (lv_at hl 6 rfl) ?_
          refine lv_i2l (pc := 152) hx hb dX11_laysBeside_152 rfl ?_
          refine q_ldiv (pc := 153) hx hb dX11_laysBeside_153 hf (fun v11 hf => ?_)
          refine lv_lstore (pc := 154) (lv' := [(12, .long v11), (10, .long v10), (8, .long v9), (7, .int v5), (0, .ref a_m), (1, .int p1), (5, .int v2), (6, .int v3)]) hx hb dX11_laysBeside_154 hl (by decide) rfl (fun ls hl => ?_)
          refine lv_aload_n (pc := 156) hx hb dX11_laysBeside_156 rfl (lv_at hl 4 rfl) ?_
          refine lv_aload_n (pc := 157) hx hb dX11_laysBeside_157 rfl (lv_at hl 4 rfl) ?_
          refine lv_iload_n (pc := 158) hx hb dX11_laysBeside_158 rfl (lv_at hl 5 rfl) ?_
          refine lv_iload (pc := 159) hx hb dX11_laysBeside_159 (lv_at hl 3 rfl) ?_
          refine lv_lload (pc := 161) hx hb dX11_laysBeside_161 (lv_at hl 1 rfl) ?_
          refine lv_l2i (pc := 163) hx hb dX11_laysBeside_163 rfl ?_
          obtain ⟨v12, hm164, hf⟩ := q_b1_e hf
          refine q_cVr (pc := 164) (As := [.int p1, .int v5, .int v10.toInt32]) (rest := [.ref a_m]) (v0 := (some (.int v12))) ⟨hx, hb, hml, hown, hts⟩ hK hA hZ hP hD hS hl.1 [0, 1, 2, 3] 4 rfl ⟨rfl, rfl, rfl⟩ (c_M_keyOf l D ci A sa N (Rw) a_m a_m_cutRows a_m_cutColumns a_m_deep a_m_wide a_m_zonesAhead a_m_nameOne a_m_nameOther a_m_tape a_m_edges a_m_dist a_m_queue a_m_pieceLevel a_m_pieceKey a_m_pieceYear a_m_drawnKeys a_m_kept a_m_noNumbers m_taped m_place m_fault m_number m_levelRead m_keyRead m_reads m_faults m_cutShort m_noNumber m_bottomLat m_bottomLon m_firstBeside 0 m_queued m_boxLevel m_boxTop m_boxBottom m_boxWest m_boxEast m_isEarly m_pieces m_states m_drawnNow m_keptAt m_deep m_wide m_zonesAhead p1 v5 v10.toInt32 v12 hm164) 0 rfl rfl (cwV 3 hts gX11_laysBeside_X11_keyOf rfl rfl rfl (by decide +kernel) ⟨Nat.le_of_ble_eq_true rfl, Nat.le_of_ble_eq_true rfl⟩) rfl rfl (Nat.le_of_ble_eq_true rfl) dX11_laysBeside_164 ⟨Nat.zero_le _, Nat.zero_le _⟩ (fun locs hS => ?_)
          refine va_put (pc := 167) (D := D) (ci := 11) (v := .int v12) (ty := .int) (C := RX11) (T := TX11) (N := 42) hx hb hts hinX11 tyX11 tyX11_ok nmX11 hown hK hP hD hS 0 rfl rfl 21 (by decide) w_2 (fun _ h9 => h9) rfl (by decide +kernel) rfl rfl (Nat.le_of_ble_eq_true rfl) dX11_laysBeside_167 (fun H locs hP hD hS => ?_)
          obtain ⟨hP, hD⟩ : va_PD D A ((a_m, .inr (11, (.ref a_m_cutRows :: .ref a_m_cutColumns :: .ref a_m_deep :: .ref a_m_wide :: .ref a_m_zonesAhead :: .ref a_m_nameOne :: .ref a_m_nameOther :: .ref a_m_tape :: .int m_taped :: .int m_place :: .int m_fault :: .int m_number :: .int m_levelRead :: .int m_keyRead :: .int m_reads :: .int m_faults :: .int m_cutShort :: .int m_noNumber :: .long m_bottomLat :: .long m_bottomLon :: .ref a_m_edges :: .int v12 :: .int 0 :: .ref a_m_dist :: .ref a_m_queue :: .int m_queued :: .int m_boxLevel :: .int m_boxTop :: .int m_boxBottom :: .int m_boxWest :: .int m_boxEast :: .int m_isEarly :: .int m_pieces :: .int m_states :: .ref a_m_pieceLevel :: .ref a_m_pieceKey :: .ref a_m_pieceYear :: .int m_drawnNow :: .ref a_m_drawnKeys :: .ref a_m_kept :: .int m_keptAt :: .ref a_m_noNumbers :: []))) :: (a_m_deep, .inl (ci 0, 5, .inl m_deep)) :: (a_m_wide, .inl (ci 0, 5, .inl m_wide)) :: (a_m_zonesAhead, .inl (ci 0, 45, .inl m_zonesAhead)) :: Rw) H := ⟨hP, hD⟩
          refine lv_aload_n (pc := 170) hx hb dX11_laysBeside_170 rfl (lv_at hl 4 rfl) ?_
          refine lv_lload (pc := 171) hx hb dX11_laysBeside_171 (lv_at hl 0 rfl) ?_
          refine lv_lload (pc := 173) hx hb dX11_laysBeside_173 (lv_at hl 1 rfl) ?_
          refine lv_lsub (pc := 175) hx hb dX11_laysBeside_175 ?_
          refine lv_l2i (pc := 176) hx hb dX11_laysBeside_176 rfl ?_
          obtain ⟨v13, ev13, hf⟩ := q_nm_e hf
          refine q_topi ev13 ?_
          refine va_put (pc := 177) (D := D) (ci := 11) (v := .int v13) (ty := .int) (C := RX11) (T := TX11) (N := 42) hx hb hts hinX11 tyX11 tyX11_ok nmX11 hown hK hP hD hS 0 rfl rfl 22 (by decide) w_1 (fun _ h9 => h9) rfl (by decide +kernel) rfl rfl (Nat.le_of_ble_eq_true rfl) dX11_laysBeside_177 (fun H locs hP hD hS => ?_)
          obtain ⟨hP, hD⟩ : va_PD D A ((a_m, .inr (11, (.ref a_m_cutRows :: .ref a_m_cutColumns :: .ref a_m_deep :: .ref a_m_wide :: .ref a_m_zonesAhead :: .ref a_m_nameOne :: .ref a_m_nameOther :: .ref a_m_tape :: .int m_taped :: .int m_place :: .int m_fault :: .int m_number :: .int m_levelRead :: .int m_keyRead :: .int m_reads :: .int m_faults :: .int m_cutShort :: .int m_noNumber :: .long m_bottomLat :: .long m_bottomLon :: .ref a_m_edges :: .int v12 :: .int v13 :: .ref a_m_dist :: .ref a_m_queue :: .int m_queued :: .int m_boxLevel :: .int m_boxTop :: .int m_boxBottom :: .int m_boxWest :: .int m_boxEast :: .int m_isEarly :: .int m_pieces :: .int m_states :: .ref a_m_pieceLevel :: .ref a_m_pieceKey :: .ref a_m_pieceYear :: .int m_drawnNow :: .ref a_m_drawnKeys :: .ref a_m_kept :: .int m_keptAt :: .ref a_m_noNumbers :: []))) :: (a_m_deep, .inl (ci 0, 5, .inl m_deep)) :: (a_m_wide, .inl (ci 0, 5, .inl m_wide)) :: (a_m_zonesAhead, .inl (ci 0, 45, .inl m_zonesAhead)) :: Rw) H := ⟨hP, hD⟩
          obtain ⟨rfl, rfl⟩ := q_inj2 (Option.some.inj hf)
          rw [hQ]
          exact q_vret (pc := 180) hx hb hr hlocks hP hD hS dX11_laysBeside_180
        · obtain ⟨rfl, rfl⟩ := q_inj2 (Option.some.inj hf)
          rw [hQ]
          exact q_vret (pc := 113) hx hb hr hlocks hP hD hS dX11_laysBeside_113
      refine q_if_ne (pc := 81) (tgt := 91) hx hb dX11_laysBeside_81 (by decide) rfl hf (fun hf => ?_) (fun hf => ?_)
      · refine lv_iload (pc := 91) hx hb dX11_laysBeside_91 (lv_at hl 2 rfl) ?_
        refine lv_iconst (pc := 93) (v := 1) hx hb dX11_laysBeside_93 (by decide) ?_
        refine lv_iadd (pc := 94) hx hb dX11_laysBeside_94 ?_
        exact J95 (v1 + 1) _ _ _ hf hP hD hS (lv_sub hl [3, 4, 1, 0] rfl)
      · refine lv_iload (pc := 84) hx hb dX11_laysBeside_84 (lv_at hl 2 rfl) ?_
        refine lv_iconst (pc := 86) (v := 1) hx hb dX11_laysBeside_86 (by decide) ?_
        refine lv_isub (pc := 87) hx hb dX11_laysBeside_87 ?_
        refine lv_goto (pc := 88) (tgt := 95) hx hb dX11_laysBeside_88 (by decide) ?_
        exact J95 (v1 - 1) _ _ _ hf hP hD hS (lv_sub hl [3, 4, 1, 0] rfl)
    · refine lv_iload (pc := 37) hx hb dX11_laysBeside_37 (lv_at hl 0 rfl) ?_
      refine lv_iconst (pc := 39) (v := 1) hx hb dX11_laysBeside_39 (by decide) ?_
      refine q_icmp_ne (pc := 40) (tgt := 44) hx hb dX11_laysBeside_40 (by decide) rfl hf (fun hf => ?_) (fun hf => ?_)
      · refine lv_aload_n (pc := 44) hx hb dX11_laysBeside_44 rfl (lv_at hl 3 rfl) ?_
        refine lv_aload_n (pc := 45) hx hb dX11_laysBeside_45 rfl (lv_at hl 3 rfl) ?_
        refine lv_iload_n (pc := 46) hx hb dX11_laysBeside_46 rfl (lv_at hl 4 rfl) ?_
        refine lv_iload (pc := 47) hx hb dX11_laysBeside_47 (lv_at hl 2 rfl) ?_
        refine lv_iload (pc := 49) hx hb dX11_laysBeside_49 (lv_at hl 1 rfl) ?_
        refine lv_iload_n (pc := 51) hx hb dX11_laysBeside_51 rfl (lv_at hl 6 rfl) ?_
        refine lv_iconst (pc := 52) (v := 1) hx hb dX11_laysBeside_52 (by decide) ?_
        obtain ⟨k64, ek64, hf⟩ := q_j1_e hf
        have J64 : ∀ (v14 : Int32) (H : Heap) (locs : List Loc) (ls : Array Slot), k64 v14 = some (o1, o2) → va_P D vwCl ((a_m, .inr (11, (.ref a_m_cutRows :: .ref a_m_cutColumns :: .ref a_m_deep :: .ref a_m_wide :: .ref a_m_zonesAhead :: .ref a_m_nameOne :: .ref a_m_nameOther :: .ref a_m_tape :: .int m_taped :: .int m_place :: .int m_fault :: .int m_number :: .int m_levelRead :: .int m_keyRead :: .int m_reads :: .int m_faults :: .int m_cutShort :: .int m_noNumber :: .long m_bottomLat :: .long m_bottomLon :: .ref a_m_edges :: .int m_firstBeside :: .int 0 :: .ref a_m_dist :: .ref a_m_queue :: .int m_queued :: .int m_boxLevel :: .int m_boxTop :: .int m_boxBottom :: .int m_boxWest :: .int m_boxEast :: .int m_isEarly :: .int m_pieces :: .int m_states :: .ref a_m_pieceLevel :: .ref a_m_pieceKey :: .ref a_m_pieceYear :: .int m_drawnNow :: .ref a_m_drawnKeys :: .ref a_m_kept :: .int m_keptAt :: .ref a_m_noNumbers :: []))) :: (a_m_deep, .inl (ci 0, 5, .inl m_deep)) :: (a_m_wide, .inl (ci 0, 5, .inl m_wide)) :: (a_m_zonesAhead, .inl (ci 0, 45, .inl m_zonesAhead)) :: Rw) H → va_D A ((a_m, .inr (11, (.ref a_m_cutRows :: .ref a_m_cutColumns :: .ref a_m_deep :: .ref a_m_wide :: .ref a_m_zonesAhead :: .ref a_m_nameOne :: .ref a_m_nameOther :: .ref a_m_tape :: .int m_taped :: .int m_place :: .int m_fault :: .int m_number :: .int m_levelRead :: .int m_keyRead :: .int m_reads :: .int m_faults :: .int m_cutShort :: .int m_noNumber :: .long m_bottomLat :: .long m_bottomLon :: .ref a_m_edges :: .int m_firstBeside :: .int 0 :: .ref a_m_dist :: .ref a_m_queue :: .int m_queued :: .int m_boxLevel :: .int m_boxTop :: .int m_boxBottom :: .int m_boxWest :: .int m_boxEast :: .int m_isEarly :: .int m_pieces :: .int m_states :: .ref a_m_pieceLevel :: .ref a_m_pieceKey :: .ref a_m_pieceYear :: .int m_drawnNow :: .ref a_m_drawnKeys :: .ref a_m_kept :: .int m_keptAt :: .ref a_m_noNumbers :: []))) :: (a_m_deep, .inl (ci 0, 5, .inl m_deep)) :: (a_m_wide, .inl (ci 0, 5, .inl m_wide)) :: (a_m_zonesAhead, .inl (ci 0, 45, .inl m_zonesAhead)) :: Rw) → va_S A s.heap H locs → lv_has ls 14 [(0, .ref a_m), (6, .int v3)] → W p l e ({ frames := 4, cells := 0, slots := 0, locals := 88 } : Room) s m ([.ref a_m, .int p1, .int p2, .int p3] : List Value).toArray below meth c H locs 0 0 Q (F0 m 64 ls [.int v14, .int v2, .int v1, .int p1, .ref a_m, .ref a_m]) := by
          intro v14 H locs ls hf hP hD hS hl
          have hf := (ek64 v14).symm.trans hf
          refine lv_iadd (pc := 64) hx hb dX11_laysBeside_64 ?_
          refine lv_iload (pc := 65) hx hb dX11_laysBeside_65 (lv_at hl 1 rfl) ?_
          refine q_irem (pc := 67) hx hb dX11_laysBeside_67 hf (fun v15 hf => ?_)
          obtain ⟨v16, hm68, hf⟩ := q_b1_e hf
          refine q_cVr (pc := 68) (As := [.int p1, .int v1, .int v15]) (rest := [.ref a_m]) (v0 := (some (.int v16))) ⟨hx, hb, hml, hown, hts⟩ hK hA hZ hP hD hS hl.1 [0, 1, 2, 3] 4 rfl ⟨rfl, rfl, rfl⟩ (c_M_keyOf l D ci A sa N (Rw) a_m a_m_cutRows a_m_cutColumns a_m_deep a_m_wide a_m_zonesAhead a_m_nameOne a_m_nameOther a_m_tape a_m_edges a_m_dist a_m_queue a_m_pieceLevel a_m_pieceKey a_m_pieceYear a_m_drawnKeys a_m_kept a_m_noNumbers m_taped m_place m_fault m_number m_levelRead m_keyRead m_reads m_faults m_cutShort m_noNumber m_bottomLat m_bottomLon m_firstBeside 0 m_queued m_boxLevel m_boxTop m_boxBottom m_boxWest m_boxEast m_isEarly m_pieces m_states m_drawnNow m_keptAt m_deep m_wide m_zonesAhead p1 v1 v15 v16 hm68) 0 rfl rfl (cwV 3 hts gX11_laysBeside_X11_keyOf rfl rfl rfl (by decide +kernel) ⟨Nat.le_of_ble_eq_true rfl, Nat.le_of_ble_eq_true rfl⟩) rfl rfl (Nat.le_of_ble_eq_true rfl) dX11_laysBeside_68 ⟨Nat.zero_le _, Nat.zero_le _⟩ (fun locs hS => ?_)
          refine va_put (pc := 71) (D := D) (ci := 11) (v := .int v16) (ty := .int) (C := RX11) (T := TX11) (N := 42) hx hb hts hinX11 tyX11 tyX11_ok nmX11 hown hK hP hD hS 0 rfl rfl 21 (by decide) w_2 (fun _ h9 => h9) rfl (by decide +kernel) rfl rfl (Nat.le_of_ble_eq_true rfl) dX11_laysBeside_71 (fun H locs hP hD hS => ?_)
          obtain ⟨hP, hD⟩ : va_PD D A ((a_m, .inr (11, (.ref a_m_cutRows :: .ref a_m_cutColumns :: .ref a_m_deep :: .ref a_m_wide :: .ref a_m_zonesAhead :: .ref a_m_nameOne :: .ref a_m_nameOther :: .ref a_m_tape :: .int m_taped :: .int m_place :: .int m_fault :: .int m_number :: .int m_levelRead :: .int m_keyRead :: .int m_reads :: .int m_faults :: .int m_cutShort :: .int m_noNumber :: .long m_bottomLat :: .long m_bottomLon :: .ref a_m_edges :: .int v16 :: .int 0 :: .ref a_m_dist :: .ref a_m_queue :: .int m_queued :: .int m_boxLevel :: .int m_boxTop :: .int m_boxBottom :: .int m_boxWest :: .int m_boxEast :: .int m_isEarly :: .int m_pieces :: .int m_states :: .ref a_m_pieceLevel :: .ref a_m_pieceKey :: .ref a_m_pieceYear :: .int m_drawnNow :: .ref a_m_drawnKeys :: .ref a_m_kept :: .int m_keptAt :: .ref a_m_noNumbers :: []))) :: (a_m_deep, .inl (ci 0, 5, .inl m_deep)) :: (a_m_wide, .inl (ci 0, 5, .inl m_wide)) :: (a_m_zonesAhead, .inl (ci 0, 45, .inl m_zonesAhead)) :: Rw) H := ⟨hP, hD⟩
          refine lv_aload_n (pc := 74) hx hb dX11_laysBeside_74 rfl (lv_at hl 0 rfl) ?_
          refine lv_iconst (pc := 75) (v := 1) hx hb dX11_laysBeside_75 (by decide) ?_
          refine va_put (pc := 76) (D := D) (ci := 11) (v := .int 1) (ty := .int) (C := RX11) (T := TX11) (N := 42) hx hb hts hinX11 tyX11 tyX11_ok nmX11 hown hK hP hD hS 0 rfl rfl 22 (by decide) w_1 (fun _ h9 => h9) rfl (by decide +kernel) rfl rfl (Nat.le_of_ble_eq_true rfl) dX11_laysBeside_76 (fun H locs hP hD hS => ?_)
          obtain ⟨hP, hD⟩ : va_PD D A ((a_m, .inr (11, (.ref a_m_cutRows :: .ref a_m_cutColumns :: .ref a_m_deep :: .ref a_m_wide :: .ref a_m_zonesAhead :: .ref a_m_nameOne :: .ref a_m_nameOther :: .ref a_m_tape :: .int m_taped :: .int m_place :: .int m_fault :: .int m_number :: .int m_levelRead :: .int m_keyRead :: .int m_reads :: .int m_faults :: .int m_cutShort :: .int m_noNumber :: .long m_bottomLat :: .long m_bottomLon :: .ref a_m_edges :: .int v16 :: .int 1 :: .ref a_m_dist :: .ref a_m_queue :: .int m_queued :: .int m_boxLevel :: .int m_boxTop :: .int m_boxBottom :: .int m_boxWest :: .int m_boxEast :: .int m_isEarly :: .int m_pieces :: .int m_states :: .ref a_m_pieceLevel :: .ref a_m_pieceKey :: .ref a_m_pieceYear :: .int m_drawnNow :: .ref a_m_drawnKeys :: .ref a_m_kept :: .int m_keptAt :: .ref a_m_noNumbers :: []))) :: (a_m_deep, .inl (ci 0, 5, .inl m_deep)) :: (a_m_wide, .inl (ci 0, 5, .inl m_wide)) :: (a_m_zonesAhead, .inl (ci 0, 45, .inl m_zonesAhead)) :: Rw) H := ⟨hP, hD⟩
          obtain ⟨rfl, rfl⟩ := q_inj2 (Option.some.inj hf)
          rw [hQ]
          exact q_vret (pc := 79) hx hb hr hlocks hP hD hS dX11_laysBeside_79
        refine q_icmp_ne (pc := 53) (tgt := 60) hx hb dX11_laysBeside_53 (by decide) rfl hf (fun hf => ?_) (fun hf => ?_)
        · refine lv_iload (pc := 60) hx hb dX11_laysBeside_60 (lv_at hl 0 rfl) ?_
          refine lv_iconst (pc := 62) (v := 1) hx hb dX11_laysBeside_62 (by decide) ?_
          refine lv_isub (pc := 63) hx hb dX11_laysBeside_63 ?_
          exact J64 (v3 - 1) _ _ _ hf hP hD hS (lv_sub hl [3, 0] rfl)
        · refine lv_iconst (pc := 56) (v := 1) hx hb dX11_laysBeside_56 (by decide) ?_
          refine lv_goto (pc := 57) (tgt := 64) hx hb dX11_laysBeside_57 (by decide) ?_
          exact J64 1 _ _ _ hf hP hD hS (lv_sub hl [3, 0] rfl)
      · obtain ⟨rfl, rfl⟩ := q_inj2 (Option.some.inj hf)
        rw [hQ]
        exact q_vret (pc := 43) hx hb hr hlocks hP hD hS dX11_laysBeside_43
  exact hgo _ _ rfl hP hS
/-! X11_allBeside -/
set_option maxRecDepth 100000 in
set_option maxHeartbeats 4000000 in
theorem c_M_allBeside (l : Launch) (D : va_G) (ci : Nat → ClassId) (A : Nat → Prop) (sa : Nat → Nat) (N : Nat) (Rw : va_W) (a_m : Nat) (a_m_cutRows : Nat) (a_m_cutColumns : Nat) (a_m_deep : Nat) (a_m_wide : Nat) (a_m_zonesAhead : Nat) (a_m_nameOne : Nat) (a_m_nameOther : Nat) (a_m_tape : Nat) (a_m_edges : Nat) (a_m_dist : Nat) (a_m_queue : Nat) (a_m_pieceLevel : Nat) (a_m_pieceKey : Nat) (a_m_pieceYear : Nat) (a_m_drawnKeys : Nat) (a_m_kept : Nat) (a_m_noNumbers : Nat) (m_taped : Int32) (m_place : Int32) (m_fault : Int32) (m_number : Int32) (m_levelRead : Int32) (m_keyRead : Int32) (m_reads : Int32) (m_faults : Int32) (m_cutShort : Int32) (m_noNumber : Int32) (m_bottomLat : Int64) (m_bottomLon : Int64) (m_firstBeside : Int32) (m_manyBeside : Int32) (m_queued : Int32) (m_boxLevel : Int32) (m_boxTop : Int32) (m_boxBottom : Int32) (m_boxWest : Int32) (m_boxEast : Int32) (m_isEarly : Int32) (m_pieces : Int32) (m_states : Int32) (m_drawnNow : Int32) (m_keptAt : Int32) (m_deep : Nat → Int32) (m_wide : Nat → Int32) (m_zonesAhead : Nat → Int32) (p1 : Int32) (p2 : Int32) (r : Int32) (o1 : Int32) (o2 : Int32) (hf : f_M_allBeside N m_deep m_wide m_zonesAhead m_firstBeside m_manyBeside p1 p2 = some (r, o1, o2)) : Met l yX11_allBeside wsX11_allBeside ({ frames := 5, cells := 0, slots := 0, locals := 121 }) (va_Pc [.ref a_m, .int p1, .int p2] (q_N D ci A sa ((a_m, .inr (11, (.ref a_m_cutRows :: .ref a_m_cutColumns :: .ref a_m_deep :: .ref a_m_wide :: .ref a_m_zonesAhead :: .ref a_m_nameOne :: .ref a_m_nameOther :: .ref a_m_tape :: .int m_taped :: .int m_place :: .int m_fault :: .int m_number :: .int m_levelRead :: .int m_keyRead :: .int m_reads :: .int m_faults :: .int m_cutShort :: .int m_noNumber :: .long m_bottomLat :: .long m_bottomLon :: .ref a_m_edges :: .int m_firstBeside :: .int m_manyBeside :: .ref a_m_dist :: .ref a_m_queue :: .int m_queued :: .int m_boxLevel :: .int m_boxTop :: .int m_boxBottom :: .int m_boxWest :: .int m_boxEast :: .int m_isEarly :: .int m_pieces :: .int m_states :: .ref a_m_pieceLevel :: .ref a_m_pieceKey :: .ref a_m_pieceYear :: .int m_drawnNow :: .ref a_m_drawnKeys :: .ref a_m_kept :: .int m_keptAt :: .ref a_m_noNumbers :: []))) :: (a_m_deep, .inl (ci 0, 5, .inl m_deep)) :: (a_m_wide, .inl (ci 0, 5, .inl m_wide)) :: (a_m_zonesAhead, .inl (ci 0, 45, .inl m_zonesAhead)) :: Rw))) (q_Q (some (.int r)) (q_O D A ((a_m, .inr (11, (.ref a_m_cutRows :: .ref a_m_cutColumns :: .ref a_m_deep :: .ref a_m_wide :: .ref a_m_zonesAhead :: .ref a_m_nameOne :: .ref a_m_nameOther :: .ref a_m_tape :: .int m_taped :: .int m_place :: .int m_fault :: .int m_number :: .int m_levelRead :: .int m_keyRead :: .int m_reads :: .int m_faults :: .int m_cutShort :: .int m_noNumber :: .long m_bottomLat :: .long m_bottomLon :: .ref a_m_edges :: .int o1 :: .int o2 :: .ref a_m_dist :: .ref a_m_queue :: .int m_queued :: .int m_boxLevel :: .int m_boxTop :: .int m_boxBottom :: .int m_boxWest :: .int m_boxEast :: .int m_isEarly :: .int m_pieces :: .int m_states :: .ref a_m_pieceLevel :: .ref a_m_pieceKey :: .ref a_m_pieceYear :: .int m_drawnNow :: .ref a_m_drawnKeys :: .ref a_m_kept :: .int m_keptAt :: .ref a_m_noNumbers :: []))) :: (a_m_deep, .inl (ci 0, 5, .inl m_deep)) :: (a_m_wide, .inl (ci 0, 5, .inl m_wide)) :: (a_m_zonesAhead, .inl (ci 0, 45, .inl m_zonesAhead)) :: Rw)) A) 0 0 A := by
  refine q_ofW (cc := cX11_allBeside) (maxL := 5) (ret := (some .int)) [.ref a_m, .int p1, .int p2] (plainFor_of_name (by decide)) rfl (Nat.le_of_ble_eq_true rfl) ?_
  intro p e s m below meth c ls Q hQ hx hb hml hr hts hown hlocks hK hA hZ hP hD hS hl
  have hl : lv_has ls 5 [(0, .ref a_m), (1, .int p1), (2, .int p2)] := hl
  have hown : s.vm.findClass RX11 = some m.cls := hown
  have hinX11 : ∀ w ∈ wsX110, w ∈ wsX11_allBeside := fun _ h => List.mem_cons_of_mem _ (inWX110 _ h)
  have w_1 := hts (Cond.fieldLink RX11 257 "SheetNamesModel" "manyBeside" "I") (List.mem_cons_of_mem _ t_w911)
  unfold f_M_allBeside at hf
  have hgo : ∀ (H : Heap) (locs : List Loc), H = s.heap → va_P D vwCl ((a_m, .inr (11, (.ref a_m_cutRows :: .ref a_m_cutColumns :: .ref a_m_deep :: .ref a_m_wide :: .ref a_m_zonesAhead :: .ref a_m_nameOne :: .ref a_m_nameOther :: .ref a_m_tape :: .int m_taped :: .int m_place :: .int m_fault :: .int m_number :: .int m_levelRead :: .int m_keyRead :: .int m_reads :: .int m_faults :: .int m_cutShort :: .int m_noNumber :: .long m_bottomLat :: .long m_bottomLon :: .ref a_m_edges :: .int m_firstBeside :: .int m_manyBeside :: .ref a_m_dist :: .ref a_m_queue :: .int m_queued :: .int m_boxLevel :: .int m_boxTop :: .int m_boxBottom :: .int m_boxWest :: .int m_boxEast :: .int m_isEarly :: .int m_pieces :: .int m_states :: .ref a_m_pieceLevel :: .ref a_m_pieceKey :: .ref a_m_pieceYear :: .int m_drawnNow :: .ref a_m_drawnKeys :: .ref a_m_kept :: .int m_keptAt :: .ref a_m_noNumbers :: []))) :: (a_m_deep, .inl (ci 0, 5, .inl m_deep)) :: (a_m_wide, .inl (ci 0, 5, .inl m_wide)) :: (a_m_zonesAhead, .inl (ci 0, 45, .inl m_zonesAhead)) :: Rw) H → va_S A s.heap H locs → W p l e ({ frames := 5, cells := 0, slots := 0, locals := 121 } : Room) s m ([.ref a_m, .int p1, .int p2] : List Value).toArray below meth c H locs 0 0 Q (F0 m 0 ls []) := by
    intro H locs hH hP hS
    refine lv_iconst (pc := 0) (v := 0) hx hb dX11_allBeside_0 (by decide) ?_
    obtain ⟨v1, ev1, hf⟩ := q_nm_e hf
    refine q_topi ev1 ?_
    refine lv_istore_n (pc := 1) (lv' := [(3, .int v1), (0, .ref a_m), (1, .int p1), (2, .int p2)]) hx hb dX11_allBeside_1 rfl hl (by decide) rfl (fun ls hl => ?_)
    refine lv_iconst (pc := 2) (v := 0) hx hb dX11_allBeside_2 (by decide) ?_
    obtain ⟨v2, ev2, hf⟩ := q_nm_e hf
    refine q_topi ev2 ?_
    refine lv_istore (pc := 3) (lv' := [(4, .int v2), (3, .int v1), (0, .ref a_m), (1, .int p1), (2, .int p2)]) hx hb dX11_allBeside_3 hl (by decide) rfl (fun ls hl => ?_)
    obtain ⟨v7, v8, v9, hm5, hf⟩ := q_b3_e hf
    have JE5 : ∀ (H : Heap) (locs : List Loc) (ls : Array Slot), va_P D vwCl ((a_m, .inr (11, (.ref a_m_cutRows :: .ref a_m_cutColumns :: .ref a_m_deep :: .ref a_m_wide :: .ref a_m_zonesAhead :: .ref a_m_nameOne :: .ref a_m_nameOther :: .ref a_m_tape :: .int m_taped :: .int m_place :: .int m_fault :: .int m_number :: .int m_levelRead :: .int m_keyRead :: .int m_reads :: .int m_faults :: .int m_cutShort :: .int m_noNumber :: .long m_bottomLat :: .long m_bottomLon :: .ref a_m_edges :: .int v8 :: .int v9 :: .ref a_m_dist :: .ref a_m_queue :: .int m_queued :: .int m_boxLevel :: .int m_boxTop :: .int m_boxBottom :: .int m_boxWest :: .int m_boxEast :: .int m_isEarly :: .int m_pieces :: .int m_states :: .ref a_m_pieceLevel :: .ref a_m_pieceKey :: .ref a_m_pieceYear :: .int m_drawnNow :: .ref a_m_drawnKeys :: .ref a_m_kept :: .int m_keptAt :: .ref a_m_noNumbers :: []))) :: (a_m_deep, .inl (ci 0, 5, .inl m_deep)) :: (a_m_wide, .inl (ci 0, 5, .inl m_wide)) :: (a_m_zonesAhead, .inl (ci 0, 45, .inl m_zonesAhead)) :: Rw) H → va_D A ((a_m, .inr (11, (.ref a_m_cutRows :: .ref a_m_cutColumns :: .ref a_m_deep :: .ref a_m_wide :: .ref a_m_zonesAhead :: .ref a_m_nameOne :: .ref a_m_nameOther :: .ref a_m_tape :: .int m_taped :: .int m_place :: .int m_fault :: .int m_number :: .int m_levelRead :: .int m_keyRead :: .int m_reads :: .int m_faults :: .int m_cutShort :: .int m_noNumber :: .long m_bottomLat :: .long m_bottomLon :: .ref a_m_edges :: .int v8 :: .int v9 :: .ref a_m_dist :: .ref a_m_queue :: .int m_queued :: .int m_boxLevel :: .int m_boxTop :: .int m_boxBottom :: .int m_boxWest :: .int m_boxEast :: .int m_isEarly :: .int m_pieces :: .int m_states :: .ref a_m_pieceLevel :: .ref a_m_pieceKey :: .ref a_m_pieceYear :: .int m_drawnNow :: .ref a_m_drawnKeys :: .ref a_m_kept :: .int m_keptAt :: .ref a_m_noNumbers :: []))) :: (a_m_deep, .inl (ci 0, 5, .inl m_deep)) :: (a_m_wide, .inl (ci 0, 5, .inl m_wide)) :: (a_m_zonesAhead, .inl (ci 0, 45, .inl m_zonesAhead)) :: Rw) → va_S A s.heap H locs → lv_has ls 5 [(3, .int v7)] → W p l e ({ frames := 5, cells := 0, slots := 0, locals := 121 } : Room) s m ([.ref a_m, .int p1, .int p2] : List Value).toArray below meth c H locs 0 0 Q (F0 m 32 ls []) := by
      intro H locs ls hP hD hS hl
      refine lv_iload_n (pc := 32) hx hb dX11_allBeside_32 rfl (lv_at hl 0 rfl) ?_
      obtain ⟨e90, e91, e92⟩ := q_inj3 (Option.some.inj hf)
      rw [hQ, ← e90, ← e91, ← e92]
      exact q_iret (pc := 33) hx hb hr hlocks hP hD hS dX11_allBeside_33
    have LP5 : ∀ (n5 : Nat) (v3 : Int32) (v4 : Int32) (v5 : Int32) (v6 : Int32) (H : Heap) (locs : List Loc) (ls : Array Slot), f_M_allBeside_L5 N m_deep m_wide m_zonesAhead p1 p2 n5 v3 v4 v5 v6 = some (v7, v8, v9) → va_P D vwCl ((a_m, .inr (11, (.ref a_m_cutRows :: .ref a_m_cutColumns :: .ref a_m_deep :: .ref a_m_wide :: .ref a_m_zonesAhead :: .ref a_m_nameOne :: .ref a_m_nameOther :: .ref a_m_tape :: .int m_taped :: .int m_place :: .int m_fault :: .int m_number :: .int m_levelRead :: .int m_keyRead :: .int m_reads :: .int m_faults :: .int m_cutShort :: .int m_noNumber :: .long m_bottomLat :: .long m_bottomLon :: .ref a_m_edges :: .int v5 :: .int v6 :: .ref a_m_dist :: .ref a_m_queue :: .int m_queued :: .int m_boxLevel :: .int m_boxTop :: .int m_boxBottom :: .int m_boxWest :: .int m_boxEast :: .int m_isEarly :: .int m_pieces :: .int m_states :: .ref a_m_pieceLevel :: .ref a_m_pieceKey :: .ref a_m_pieceYear :: .int m_drawnNow :: .ref a_m_drawnKeys :: .ref a_m_kept :: .int m_keptAt :: .ref a_m_noNumbers :: []))) :: (a_m_deep, .inl (ci 0, 5, .inl m_deep)) :: (a_m_wide, .inl (ci 0, 5, .inl m_wide)) :: (a_m_zonesAhead, .inl (ci 0, 45, .inl m_zonesAhead)) :: Rw) H → va_D A ((a_m, .inr (11, (.ref a_m_cutRows :: .ref a_m_cutColumns :: .ref a_m_deep :: .ref a_m_wide :: .ref a_m_zonesAhead :: .ref a_m_nameOne :: .ref a_m_nameOther :: .ref a_m_tape :: .int m_taped :: .int m_place :: .int m_fault :: .int m_number :: .int m_levelRead :: .int m_keyRead :: .int m_reads :: .int m_faults :: .int m_cutShort :: .int m_noNumber :: .long m_bottomLat :: .long m_bottomLon :: .ref a_m_edges :: .int v5 :: .int v6 :: .ref a_m_dist :: .ref a_m_queue :: .int m_queued :: .int m_boxLevel :: .int m_boxTop :: .int m_boxBottom :: .int m_boxWest :: .int m_boxEast :: .int m_isEarly :: .int m_pieces :: .int m_states :: .ref a_m_pieceLevel :: .ref a_m_pieceKey :: .ref a_m_pieceYear :: .int m_drawnNow :: .ref a_m_drawnKeys :: .ref a_m_kept :: .int m_keptAt :: .ref a_m_noNumbers :: []))) :: (a_m_deep, .inl (ci 0, 5, .inl m_deep)) :: (a_m_wide, .inl (ci 0, 5, .inl m_wide)) :: (a_m_zonesAhead, .inl (ci 0, 45, .inl m_zonesAhead)) :: Rw) → va_S A s.heap H locs → lv_has ls 5 [(0, .ref a_m), (1, .int p1), (2, .int p2), (3, .int v3), (4, .int v4)] → W p l e ({ frames := 5, cells := 0, slots := 0, locals := 121 } : Room) s m ([.ref a_m, .int p1, .int p2] : List Value).toArray below meth c H locs 0 0 Q (F0 m 5 ls []) := by
      intro n5
      induction n5 with
      | zero => intro v3 v4 v5 v6 H locs ls hf; rw [f_M_allBeside_L5] at hf; cases hf
      | succ n5 ih5 =>
        intro v3 v4 v5 v6 H locs ls hf hP hD hS hl
        rw [f_M_allBeside_L5] at hf
        refine lv_iload (pc := 5) hx hb dX11_allBeside_5 (lv_at hl 4 rfl) ?_
        refine lv_iconst (pc := 7) (v := 4) hx hb dX11_allBeside_7 (by decide) ?_
        refine q_icmp_ge (pc := 8) (tgt := 32) hx hb dX11_allBeside_8 (by decide) rfl hf (fun hf => ?_) (fun hf => ?_)
        · obtain ⟨rfl, rfl, rfl⟩ := q_inj3 (Option.some.inj hf)
          exact JE5 _ _ _ hP hD hS (lv_sub hl [3] rfl)
        · refine lv_aload_n (pc := 11) hx hb dX11_allBeside_11 rfl (lv_at hl 0 rfl) ?_
          refine lv_iload_n (pc := 12) hx hb dX11_allBeside_12 rfl (lv_at hl 1 rfl) ?_
          refine lv_iload_n (pc := 13) hx hb dX11_allBeside_13 rfl (lv_at hl 2 rfl) ?_
          refine lv_iload (pc := 14) hx hb dX11_allBeside_14 (lv_at hl 4 rfl) ?_
          obtain ⟨v10, v11, hm16, hf⟩ := q_b2_e hf
          refine q_cV (pc := 16) (As := [.int p1, .int p2, .int v4]) (rest := []) (v0 := none) ⟨hx, hb, hml, hown, hts⟩ hK hA hZ hP hD hS hl.1 [0, 1, 2, 3] 4 rfl ⟨rfl, rfl, rfl⟩ (c_M_laysBeside l D ci A sa N (Rw) a_m a_m_cutRows a_m_cutColumns a_m_deep a_m_wide a_m_zonesAhead a_m_nameOne a_m_nameOther a_m_tape a_m_edges a_m_dist a_m_queue a_m_pieceLevel a_m_pieceKey a_m_pieceYear a_m_drawnKeys a_m_kept a_m_noNumbers m_taped m_place m_fault m_number m_levelRead m_keyRead m_reads m_faults m_cutShort m_noNumber m_bottomLat m_bottomLon v5 v6 m_queued m_boxLevel m_boxTop m_boxBottom m_boxWest m_boxEast m_isEarly m_pieces m_states m_drawnNow m_keptAt m_deep m_wide m_zonesAhead p1 p2 v4 v10 v11 hm16) 0 rfl rfl (cwV 3 hts gX11_allBeside_X11_laysBeside rfl rfl rfl (by decide +kernel) ⟨Nat.le_of_ble_eq_true rfl, Nat.le_of_ble_eq_true rfl⟩) rfl rfl (Nat.le_of_ble_eq_true rfl) dX11_allBeside_16 ⟨Nat.zero_le _, Nat.zero_le _⟩ [0, 1, 2, 3] 4 rfl ⟨rfl, rfl, rfl⟩ (fun H locs hP hD hS => ?_)
          obtain ⟨hP, hD⟩ : va_PD D A ((a_m, .inr (11, (.ref a_m_cutRows :: .ref a_m_cutColumns :: .ref a_m_deep :: .ref a_m_wide :: .ref a_m_zonesAhead :: .ref a_m_nameOne :: .ref a_m_nameOther :: .ref a_m_tape :: .int m_taped :: .int m_place :: .int m_fault :: .int m_number :: .int m_levelRead :: .int m_keyRead :: .int m_reads :: .int m_faults :: .int m_cutShort :: .int m_noNumber :: .long m_bottomLat :: .long m_bottomLon :: .ref a_m_edges :: .int v10 :: .int v11 :: .ref a_m_dist :: .ref a_m_queue :: .int m_queued :: .int m_boxLevel :: .int m_boxTop :: .int m_boxBottom :: .int m_boxWest :: .int m_boxEast :: .int m_isEarly :: .int m_pieces :: .int m_states :: .ref a_m_pieceLevel :: .ref a_m_pieceKey :: .ref a_m_pieceYear :: .int m_drawnNow :: .ref a_m_drawnKeys :: .ref a_m_kept :: .int m_keptAt :: .ref a_m_noNumbers :: []))) :: (a_m_deep, .inl (ci 0, 5, .inl m_deep)) :: (a_m_wide, .inl (ci 0, 5, .inl m_wide)) :: (a_m_zonesAhead, .inl (ci 0, 45, .inl m_zonesAhead)) :: Rw) H := ⟨hP, hD⟩
          refine lv_iload_n (pc := 19) hx hb dX11_allBeside_19 rfl (lv_at hl 3 rfl) ?_
          refine lv_aload_n (pc := 20) hx hb dX11_allBeside_20 rfl (lv_at hl 0 rfl) ?_
          refine va_get (pc := 21) (D := D) (ci := 11) (v := .int v11) (C := RX11) (T := TX11) (N := 42) hx hb hts hinX11 hown hK hP 0 rfl rfl 22 (by decide) w_1 (fun _ h9 => h9) rfl dX11_allBeside_21 ?_
          refine lv_iadd (pc := 24) hx hb dX11_allBeside_24 ?_
          obtain ⟨v12, ev12, hf⟩ := q_nm_e hf
          refine q_topi ev12 ?_
          refine lv_istore_n (pc := 25) (lv' := [(3, .int v12), (0, .ref a_m), (1, .int p1), (2, .int p2), (4, .int v4)]) hx hb dX11_allBeside_25 rfl hl (by decide) rfl (fun ls hl => ?_)
          obtain ⟨v13, ev13, hf⟩ := q_nm_e hf
          refine lv_iinc (pc := 26) (v := v13) (lv' := [(4, .int v13), (3, .int v12), (0, .ref a_m), (1, .int p1), (2, .int p2)]) hx hb dX11_allBeside_26 hl (k := 4) rfl (by rw [ev13]; rfl) (by decide) rfl (fun ls hl => ?_)
          refine lv_goto (pc := 29) (tgt := 5) hx hb dX11_allBeside_29 (by decide) ?_
          exact ih5 v12 v13 v10 v11 _ _ _ hf hP hD hS (lv_sub hl [2, 3, 4, 1, 0] rfl)
    exact LP5 N v1 v2 m_firstBeside m_manyBeside _ _ _ hm5 hP hD hS (lv_sub hl [2, 3, 4, 1, 0] rfl)
  exact hgo _ _ rfl hP hS
/-! X11_see -/
set_option maxRecDepth 100000 in
set_option maxHeartbeats 4000000 in
theorem c_M_see (l : Launch) (D : va_G) (ci : Nat → ClassId) (A : Nat → Prop) (sa : Nat → Nat) (N : Nat) (Rw : va_W) (a_m : Nat) (a_m_cutRows : Nat) (a_m_cutColumns : Nat) (a_m_deep : Nat) (a_m_wide : Nat) (a_m_zonesAhead : Nat) (a_m_nameOne : Nat) (a_m_nameOther : Nat) (a_m_tape : Nat) (a_m_edges : Nat) (a_m_dist : Nat) (a_m_queue : Nat) (a_m_pieceLevel : Nat) (a_m_pieceKey : Nat) (a_m_pieceYear : Nat) (a_m_drawnKeys : Nat) (a_m_kept : Nat) (a_m_noNumbers : Nat) (m_taped : Int32) (m_place : Int32) (m_fault : Int32) (m_number : Int32) (m_levelRead : Int32) (m_keyRead : Int32) (m_reads : Int32) (m_faults : Int32) (m_cutShort : Int32) (m_noNumber : Int32) (m_bottomLat : Int64) (m_bottomLon : Int64) (m_firstBeside : Int32) (m_manyBeside : Int32) (m_queued : Int32) (m_boxLevel : Int32) (m_boxTop : Int32) (m_boxBottom : Int32) (m_boxWest : Int32) (m_boxEast : Int32) (m_isEarly : Int32) (m_pieces : Int32) (m_states : Int32) (m_drawnNow : Int32) (m_keptAt : Int32) (m_tape : Nat → Int32) (p1 : Int32) (r : Int32) (hf : f_M_see m_tape m_place p1 = some r) : Met l yX11_see wsX11_see ({ frames := 0, cells := 0, slots := 0, locals := 0 }) (va_Pc [.ref a_m, .int p1] (q_N D ci A sa ((a_m, .inr (11, (.ref a_m_cutRows :: .ref a_m_cutColumns :: .ref a_m_deep :: .ref a_m_wide :: .ref a_m_zonesAhead :: .ref a_m_nameOne :: .ref a_m_nameOther :: .ref a_m_tape :: .int m_taped :: .int m_place :: .int m_fault :: .int m_number :: .int m_levelRead :: .int m_keyRead :: .int m_reads :: .int m_faults :: .int m_cutShort :: .int m_noNumber :: .long m_bottomLat :: .long m_bottomLon :: .ref a_m_edges :: .int m_firstBeside :: .int m_manyBeside :: .ref a_m_dist :: .ref a_m_queue :: .int m_queued :: .int m_boxLevel :: .int m_boxTop :: .int m_boxBottom :: .int m_boxWest :: .int m_boxEast :: .int m_isEarly :: .int m_pieces :: .int m_states :: .ref a_m_pieceLevel :: .ref a_m_pieceKey :: .ref a_m_pieceYear :: .int m_drawnNow :: .ref a_m_drawnKeys :: .ref a_m_kept :: .int m_keptAt :: .ref a_m_noNumbers :: []))) :: (a_m_tape, .inl (ci 2, 200, .inl m_tape)) :: Rw))) (q_R (some (.int r))) 0 0 A := by
  refine q_ofW (cc := cX11_see) (maxL := 2) (ret := (some .int)) [.ref a_m, .int p1] (plainFor_of_name (by decide)) rfl (Nat.le_of_ble_eq_true rfl) ?_
  intro p e s m below meth c ls Q hQ hx hb hml hr hts hown hlocks hK hA hZ hP hD hS hl
  have hl : lv_has ls 2 [(0, .ref a_m), (1, .int p1)] := hl
  have hown : s.vm.findClass RX11 = some m.cls := hown
  have hinX11 : ∀ w ∈ wsX110, w ∈ wsX11_see := fun _ h => List.mem_cons_of_mem _ (inWX110 _ h)
  have w_1 := hts (Cond.fieldLink RX11 170 "SheetNamesModel" "place" "I") (List.mem_cons_of_mem _ t_w913)
  have w_2 := hts (Cond.fieldLink RX11 31 "SheetNamesModel" "tape" "[B") (List.mem_cons_of_mem _ t_w914)
  unfold f_M_see at hf
  have hgo : ∀ (H : Heap) (locs : List Loc), H = s.heap → va_P D vwCl ((a_m, .inr (11, (.ref a_m_cutRows :: .ref a_m_cutColumns :: .ref a_m_deep :: .ref a_m_wide :: .ref a_m_zonesAhead :: .ref a_m_nameOne :: .ref a_m_nameOther :: .ref a_m_tape :: .int m_taped :: .int m_place :: .int m_fault :: .int m_number :: .int m_levelRead :: .int m_keyRead :: .int m_reads :: .int m_faults :: .int m_cutShort :: .int m_noNumber :: .long m_bottomLat :: .long m_bottomLon :: .ref a_m_edges :: .int m_firstBeside :: .int m_manyBeside :: .ref a_m_dist :: .ref a_m_queue :: .int m_queued :: .int m_boxLevel :: .int m_boxTop :: .int m_boxBottom :: .int m_boxWest :: .int m_boxEast :: .int m_isEarly :: .int m_pieces :: .int m_states :: .ref a_m_pieceLevel :: .ref a_m_pieceKey :: .ref a_m_pieceYear :: .int m_drawnNow :: .ref a_m_drawnKeys :: .ref a_m_kept :: .int m_keptAt :: .ref a_m_noNumbers :: []))) :: (a_m_tape, .inl (ci 2, 200, .inl m_tape)) :: Rw) H → va_S A s.heap H locs → W p l e ({ frames := 0, cells := 0, slots := 0, locals := 0 } : Room) s m ([.ref a_m, .int p1] : List Value).toArray below meth c H locs 0 0 Q (F0 m 0 ls []) := by
    intro H locs hH hP hS
    subst hH
    refine lv_aload_n (pc := 0) hx hb dX11_see_0 rfl (lv_at hl 0 rfl) ?_
    refine va_get (pc := 1) (D := D) (ci := 11) (v := .int m_place) (C := RX11) (T := TX11) (N := 42) hx hb hts hinX11 hown hK hP 0 rfl rfl 9 (by decide) w_1 (fun _ h9 => h9) rfl dX11_see_1 ?_
    refine lv_iload_n (pc := 4) hx hb dX11_see_4 rfl (lv_at hl 1 rfl) ?_
    refine q_icmp_ge (pc := 5) (tgt := 24) hx hb dX11_see_5 (by decide) rfl hf (fun hf => ?_) (fun hf => ?_)
    · refine lv_iconst (pc := 24) (v := (-1)) hx hb dX11_see_24 (by decide) ?_
      obtain rfl := Option.some.inj hf
      rw [hQ]
      exact q_iretr (pc := 25) hx hb hr hlocks rfl hS dX11_see_25
    · refine lv_aload_n (pc := 8) hx hb dX11_see_8 rfl (lv_at hl 0 rfl) ?_
      refine va_get (pc := 9) (D := D) (ci := 11) (v := .ref a_m_tape) (C := RX11) (T := TX11) (N := 42) hx hb hts hinX11 hown hK hP 0 rfl rfl 7 (by decide) w_2 (fun _ h9 => h9) rfl dX11_see_9 ?_
      refine lv_aload_n (pc := 12) hx hb dX11_see_12 rfl (lv_at hl 0 rfl) ?_
      refine va_get (pc := 13) (D := D) (ci := 11) (v := .int m_place) (C := RX11) (T := TX11) (N := 42) hx hb hts hinX11 hown hK hP 0 rfl rfl 9 (by decide) w_1 (fun _ h9 => h9) rfl dX11_see_13 ?_
      refine q_bald (pc := 16) hx hb hK hP 1 2 hf rfl rfl dX11_see_16 (fun v1 hf => ?_)
      refine lv_sipush (pc := 17) (v := 255) hx hb dX11_see_17 (by decide) ?_
      refine lv_iand (pc := 20) hx hb dX11_see_20 ?_
      refine lv_goto (pc := 21) (tgt := 25) hx hb dX11_see_21 (by decide) ?_
      obtain rfl := Option.some.inj hf
      rw [hQ]
      exact q_iretr (pc := 25) hx hb hr hlocks rfl hS dX11_see_25
  exact hgo _ _ rfl hP hS
/-! X11_wrong -/
set_option maxRecDepth 100000 in
set_option maxHeartbeats 4000000 in
theorem c_M_wrong (l : Launch) (D : va_G) (ci : Nat → ClassId) (A : Nat → Prop) (sa : Nat → Nat) (N : Nat) (Rw : va_W) (a_m : Nat) (a_m_cutRows : Nat) (a_m_cutColumns : Nat) (a_m_deep : Nat) (a_m_wide : Nat) (a_m_zonesAhead : Nat) (a_m_nameOne : Nat) (a_m_nameOther : Nat) (a_m_tape : Nat) (a_m_edges : Nat) (a_m_dist : Nat) (a_m_queue : Nat) (a_m_pieceLevel : Nat) (a_m_pieceKey : Nat) (a_m_pieceYear : Nat) (a_m_drawnKeys : Nat) (a_m_kept : Nat) (a_m_noNumbers : Nat) (m_taped : Int32) (m_place : Int32) (m_fault : Int32) (m_number : Int32) (m_levelRead : Int32) (m_keyRead : Int32) (m_reads : Int32) (m_faults : Int32) (m_cutShort : Int32) (m_noNumber : Int32) (m_bottomLat : Int64) (m_bottomLon : Int64) (m_firstBeside : Int32) (m_manyBeside : Int32) (m_queued : Int32) (m_boxLevel : Int32) (m_boxTop : Int32) (m_boxBottom : Int32) (m_boxWest : Int32) (m_boxEast : Int32) (m_isEarly : Int32) (m_pieces : Int32) (m_states : Int32) (m_drawnNow : Int32) (m_keptAt : Int32) (p1 : Int32) (p2 : Int32) (r : Int32) (o1 : Int32) (hf : f_M_wrong m_fault p1 p2 = some (r, o1)) : Met l yX11_wrong wsX11_wrong ({ frames := 0, cells := 0, slots := 0, locals := 0 }) (va_Pc [.ref a_m, .int p1, .int p2] (q_N D ci A sa ((a_m, .inr (11, (.ref a_m_cutRows :: .ref a_m_cutColumns :: .ref a_m_deep :: .ref a_m_wide :: .ref a_m_zonesAhead :: .ref a_m_nameOne :: .ref a_m_nameOther :: .ref a_m_tape :: .int m_taped :: .int m_place :: .int m_fault :: .int m_number :: .int m_levelRead :: .int m_keyRead :: .int m_reads :: .int m_faults :: .int m_cutShort :: .int m_noNumber :: .long m_bottomLat :: .long m_bottomLon :: .ref a_m_edges :: .int m_firstBeside :: .int m_manyBeside :: .ref a_m_dist :: .ref a_m_queue :: .int m_queued :: .int m_boxLevel :: .int m_boxTop :: .int m_boxBottom :: .int m_boxWest :: .int m_boxEast :: .int m_isEarly :: .int m_pieces :: .int m_states :: .ref a_m_pieceLevel :: .ref a_m_pieceKey :: .ref a_m_pieceYear :: .int m_drawnNow :: .ref a_m_drawnKeys :: .ref a_m_kept :: .int m_keptAt :: .ref a_m_noNumbers :: []))) :: Rw))) (q_Q (some (.int r)) (q_O D A ((a_m, .inr (11, (.ref a_m_cutRows :: .ref a_m_cutColumns :: .ref a_m_deep :: .ref a_m_wide :: .ref a_m_zonesAhead :: .ref a_m_nameOne :: .ref a_m_nameOther :: .ref a_m_tape :: .int m_taped :: .int m_place :: .int o1 :: .int m_number :: .int m_levelRead :: .int m_keyRead :: .int m_reads :: .int m_faults :: .int m_cutShort :: .int m_noNumber :: .long m_bottomLat :: .long m_bottomLon :: .ref a_m_edges :: .int m_firstBeside :: .int m_manyBeside :: .ref a_m_dist :: .ref a_m_queue :: .int m_queued :: .int m_boxLevel :: .int m_boxTop :: .int m_boxBottom :: .int m_boxWest :: .int m_boxEast :: .int m_isEarly :: .int m_pieces :: .int m_states :: .ref a_m_pieceLevel :: .ref a_m_pieceKey :: .ref a_m_pieceYear :: .int m_drawnNow :: .ref a_m_drawnKeys :: .ref a_m_kept :: .int m_keptAt :: .ref a_m_noNumbers :: []))) :: Rw)) A) 0 0 A := by
  refine q_ofW (cc := cX11_wrong) (maxL := 3) (ret := (some .boolean)) [.ref a_m, .int p1, .int p2] (plainFor_of_name (by decide)) rfl (Nat.le_of_ble_eq_true rfl) ?_
  intro p e s m below meth c ls Q hQ hx hb hml hr hts hown hlocks hK hA hZ hP hD hS hl
  have hl : lv_has ls 3 [(0, .ref a_m), (1, .int p1), (2, .int p2)] := hl
  have hown : s.vm.findClass RX11 = some m.cls := hown
  have hinX11 : ∀ w ∈ wsX110, w ∈ wsX11_wrong := fun _ h => List.mem_cons_of_mem _ (inWX110 _ h)
  have w_1 := hts (Cond.fieldLink RX11 167 "SheetNamesModel" "fault" "I") (List.mem_cons_of_mem _ t_w915)
  unfold f_M_wrong at hf
  have hgo : ∀ (H : Heap) (locs : List Loc), H = s.heap → va_P D vwCl ((a_m, .inr (11, (.ref a_m_cutRows :: .ref a_m_cutColumns :: .ref a_m_deep :: .ref a_m_wide :: .ref a_m_zonesAhead :: .ref a_m_nameOne :: .ref a_m_nameOther :: .ref a_m_tape :: .int m_taped :: .int m_place :: .int m_fault :: .int m_number :: .int m_levelRead :: .int m_keyRead :: .int m_reads :: .int m_faults :: .int m_cutShort :: .int m_noNumber :: .long m_bottomLat :: .long m_bottomLon :: .ref a_m_edges :: .int m_firstBeside :: .int m_manyBeside :: .ref a_m_dist :: .ref a_m_queue :: .int m_queued :: .int m_boxLevel :: .int m_boxTop :: .int m_boxBottom :: .int m_boxWest :: .int m_boxEast :: .int m_isEarly :: .int m_pieces :: .int m_states :: .ref a_m_pieceLevel :: .ref a_m_pieceKey :: .ref a_m_pieceYear :: .int m_drawnNow :: .ref a_m_drawnKeys :: .ref a_m_kept :: .int m_keptAt :: .ref a_m_noNumbers :: []))) :: Rw) H → va_S A s.heap H locs → W p l e ({ frames := 0, cells := 0, slots := 0, locals := 0 } : Room) s m ([.ref a_m, .int p1, .int p2] : List Value).toArray below meth c H locs 0 0 Q (F0 m 0 ls []) := by
    intro H locs hH hP hS
    refine lv_aload_n (pc := 0) hx hb dX11_wrong_0 rfl (lv_at hl 0 rfl) ?_
    refine va_get (pc := 1) (D := D) (ci := 11) (v := .int m_fault) (C := RX11) (T := TX11) (N := 42) hx hb hts hinX11 hown hK hP 0 rfl rfl 10 (by decide) w_1 (fun _ h9 => h9) rfl dX11_wrong_1 ?_
    refine q_if_ne (pc := 4) (tgt := 18) hx hb dX11_wrong_4 (by decide) rfl hf (fun hf => ?_) (fun hf => ?_)
    · refine lv_iconst (pc := 18) (v := 0) hx hb dX11_wrong_18 (by decide) ?_
      obtain ⟨rfl, rfl⟩ := q_inj2 (Option.some.inj hf)
      rw [hQ]
      exact q_zret (pc := 19) hx hb hr rfl hlocks hP hD hS dX11_wrong_19
    · refine lv_aload_n (pc := 7) hx hb dX11_wrong_7 rfl (lv_at hl 0 rfl) ?_
      refine lv_sipush (pc := 8) (v := (-1000)) hx hb dX11_wrong_8 (by decide) ?_
      refine lv_iload_n (pc := 11) hx hb dX11_wrong_11 rfl (lv_at hl 1 rfl) ?_
      refine lv_imul (pc := 12) hx hb dX11_wrong_12 ?_
      refine lv_iload_n (pc := 13) hx hb dX11_wrong_13 rfl (lv_at hl 2 rfl) ?_
      refine lv_isub (pc := 14) hx hb dX11_wrong_14 ?_
      obtain ⟨v1, ev1, hf⟩ := q_nm_e hf
      refine q_topi ev1 ?_
      refine va_put (pc := 15) (D := D) (ci := 11) (v := .int v1) (ty := .int) (C := RX11) (T := TX11) (N := 42) hx hb hts hinX11 tyX11 tyX11_ok nmX11 hown hK hP hD hS 0 rfl rfl 10 (by decide) w_1 (fun _ h9 => h9) rfl (by decide +kernel) rfl rfl (Nat.le_of_ble_eq_true rfl) dX11_wrong_15 (fun H locs hP hD hS => ?_)
      obtain ⟨hP, hD⟩ : va_PD D A ((a_m, .inr (11, (.ref a_m_cutRows :: .ref a_m_cutColumns :: .ref a_m_deep :: .ref a_m_wide :: .ref a_m_zonesAhead :: .ref a_m_nameOne :: .ref a_m_nameOther :: .ref a_m_tape :: .int m_taped :: .int m_place :: .int v1 :: .int m_number :: .int m_levelRead :: .int m_keyRead :: .int m_reads :: .int m_faults :: .int m_cutShort :: .int m_noNumber :: .long m_bottomLat :: .long m_bottomLon :: .ref a_m_edges :: .int m_firstBeside :: .int m_manyBeside :: .ref a_m_dist :: .ref a_m_queue :: .int m_queued :: .int m_boxLevel :: .int m_boxTop :: .int m_boxBottom :: .int m_boxWest :: .int m_boxEast :: .int m_isEarly :: .int m_pieces :: .int m_states :: .ref a_m_pieceLevel :: .ref a_m_pieceKey :: .ref a_m_pieceYear :: .int m_drawnNow :: .ref a_m_drawnKeys :: .ref a_m_kept :: .int m_keptAt :: .ref a_m_noNumbers :: []))) :: Rw) H := ⟨hP, hD⟩
      refine lv_iconst (pc := 18) (v := 0) hx hb dX11_wrong_18 (by decide) ?_
      obtain ⟨rfl, rfl⟩ := q_inj2 (Option.some.inj hf)
      rw [hQ]
      exact q_zret (pc := 19) hx hb hr rfl hlocks hP hD hS dX11_wrong_19
  exact hgo _ _ rfl hP hS
/-! X11_counts -/
set_option maxRecDepth 100000 in
set_option maxHeartbeats 4000000 in
theorem c_M_counts (l : Launch) (D : va_G) (ci : Nat → ClassId) (A : Nat → Prop) (sa : Nat → Nat) (N : Nat) (Rw : va_W) (a_m : Nat) (a_m_cutRows : Nat) (a_m_cutColumns : Nat) (a_m_deep : Nat) (a_m_wide : Nat) (a_m_zonesAhead : Nat) (a_m_nameOne : Nat) (a_m_nameOther : Nat) (a_m_tape : Nat) (a_m_edges : Nat) (a_m_dist : Nat) (a_m_queue : Nat) (a_m_pieceLevel : Nat) (a_m_pieceKey : Nat) (a_m_pieceYear : Nat) (a_m_drawnKeys : Nat) (a_m_kept : Nat) (a_m_noNumbers : Nat) (m_taped : Int32) (m_place : Int32) (m_fault : Int32) (m_number : Int32) (m_levelRead : Int32) (m_keyRead : Int32) (m_reads : Int32) (m_faults : Int32) (m_cutShort : Int32) (m_noNumber : Int32) (m_bottomLat : Int64) (m_bottomLon : Int64) (m_firstBeside : Int32) (m_manyBeside : Int32) (m_queued : Int32) (m_boxLevel : Int32) (m_boxTop : Int32) (m_boxBottom : Int32) (m_boxWest : Int32) (m_boxEast : Int32) (m_isEarly : Int32) (m_pieces : Int32) (m_states : Int32) (m_drawnNow : Int32) (m_keptAt : Int32) (m_tape : Nat → Int32) (p1 : Int32) (p2 : Int32) (r : Int32) (o1 : Int32) (o2 : Int32) (o3 : Int32) (hf : f_M_counts N m_tape m_place m_fault m_number p1 p2 = some (r, o1, o2, o3)) : Met l yX11_counts wsX11_counts ({ frames := 1, cells := 0, slots := 0, locals := 25 }) (va_Pc [.ref a_m, .int p1, .int p2] (q_N D ci A sa ((a_m, .inr (11, (.ref a_m_cutRows :: .ref a_m_cutColumns :: .ref a_m_deep :: .ref a_m_wide :: .ref a_m_zonesAhead :: .ref a_m_nameOne :: .ref a_m_nameOther :: .ref a_m_tape :: .int m_taped :: .int m_place :: .int m_fault :: .int m_number :: .int m_levelRead :: .int m_keyRead :: .int m_reads :: .int m_faults :: .int m_cutShort :: .int m_noNumber :: .long m_bottomLat :: .long m_bottomLon :: .ref a_m_edges :: .int m_firstBeside :: .int m_manyBeside :: .ref a_m_dist :: .ref a_m_queue :: .int m_queued :: .int m_boxLevel :: .int m_boxTop :: .int m_boxBottom :: .int m_boxWest :: .int m_boxEast :: .int m_isEarly :: .int m_pieces :: .int m_states :: .ref a_m_pieceLevel :: .ref a_m_pieceKey :: .ref a_m_pieceYear :: .int m_drawnNow :: .ref a_m_drawnKeys :: .ref a_m_kept :: .int m_keptAt :: .ref a_m_noNumbers :: []))) :: (a_m_tape, .inl (ci 2, 200, .inl m_tape)) :: Rw))) (q_Q (some (.int r)) (q_O D A ((a_m, .inr (11, (.ref a_m_cutRows :: .ref a_m_cutColumns :: .ref a_m_deep :: .ref a_m_wide :: .ref a_m_zonesAhead :: .ref a_m_nameOne :: .ref a_m_nameOther :: .ref a_m_tape :: .int m_taped :: .int o1 :: .int o2 :: .int o3 :: .int m_levelRead :: .int m_keyRead :: .int m_reads :: .int m_faults :: .int m_cutShort :: .int m_noNumber :: .long m_bottomLat :: .long m_bottomLon :: .ref a_m_edges :: .int m_firstBeside :: .int m_manyBeside :: .ref a_m_dist :: .ref a_m_queue :: .int m_queued :: .int m_boxLevel :: .int m_boxTop :: .int m_boxBottom :: .int m_boxWest :: .int m_boxEast :: .int m_isEarly :: .int m_pieces :: .int m_states :: .ref a_m_pieceLevel :: .ref a_m_pieceKey :: .ref a_m_pieceYear :: .int m_drawnNow :: .ref a_m_drawnKeys :: .ref a_m_kept :: .int m_keptAt :: .ref a_m_noNumbers :: []))) :: (a_m_tape, .inl (ci 2, 200, .inl m_tape)) :: Rw)) A) 0 0 A := by
  refine q_ofW (cc := cX11_counts) (maxL := 4) (ret := (some .boolean)) [.ref a_m, .int p1, .int p2] (plainFor_of_name (by decide)) rfl (Nat.le_of_ble_eq_true rfl) ?_
  intro p e s m below meth c ls Q hQ hx hb hml hr hts hown hlocks hK hA hZ hP hD hS hl
  have hl : lv_has ls 4 [(0, .ref a_m), (1, .int p1), (2, .int p2)] := hl
  have hown : s.vm.findClass RX11 = some m.cls := hown
  have hinX11 : ∀ w ∈ wsX110, w ∈ wsX11_counts := fun _ h => List.mem_cons_of_mem _ (inWX110 _ h)
  have w_1 := hts (Cond.fieldLink RX11 170 "SheetNamesModel" "place" "I") (List.mem_cons_of_mem _ t_w913)
  have w_2 := hts (Cond.fieldLink RX11 173 "SheetNamesModel" "number" "I") (List.mem_cons_of_mem _ t_w916)
  have w_3 := hts (Cond.constantLong RX11 179 (48)) (List.mem_cons_of_mem _ t_w917)
  have w_4 := hts (Cond.constantLong RX11 181 (57)) (List.mem_cons_of_mem _ t_w918)
  have w_5 := hts (Cond.fieldLink RX11 31 "SheetNamesModel" "tape" "[B") (List.mem_cons_of_mem _ t_w914)
  unfold f_M_counts at hf
  have hgo : ∀ (H : Heap) (locs : List Loc), H = s.heap → va_P D vwCl ((a_m, .inr (11, (.ref a_m_cutRows :: .ref a_m_cutColumns :: .ref a_m_deep :: .ref a_m_wide :: .ref a_m_zonesAhead :: .ref a_m_nameOne :: .ref a_m_nameOther :: .ref a_m_tape :: .int m_taped :: .int m_place :: .int m_fault :: .int m_number :: .int m_levelRead :: .int m_keyRead :: .int m_reads :: .int m_faults :: .int m_cutShort :: .int m_noNumber :: .long m_bottomLat :: .long m_bottomLon :: .ref a_m_edges :: .int m_firstBeside :: .int m_manyBeside :: .ref a_m_dist :: .ref a_m_queue :: .int m_queued :: .int m_boxLevel :: .int m_boxTop :: .int m_boxBottom :: .int m_boxWest :: .int m_boxEast :: .int m_isEarly :: .int m_pieces :: .int m_states :: .ref a_m_pieceLevel :: .ref a_m_pieceKey :: .ref a_m_pieceYear :: .int m_drawnNow :: .ref a_m_drawnKeys :: .ref a_m_kept :: .int m_keptAt :: .ref a_m_noNumbers :: []))) :: (a_m_tape, .inl (ci 2, 200, .inl m_tape)) :: Rw) H → va_S A s.heap H locs → W p l e ({ frames := 1, cells := 0, slots := 0, locals := 25 } : Room) s m ([.ref a_m, .int p1, .int p2] : List Value).toArray below meth c H locs 0 0 Q (F0 m 0 ls []) := by
    intro H locs hH hP hS
    refine lv_aload_n (pc := 0) hx hb dX11_counts_0 rfl (lv_at hl 0 rfl) ?_
    refine va_get (pc := 1) (D := D) (ci := 11) (v := .int m_place) (C := RX11) (T := TX11) (N := 42) hx hb hts hinX11 hown hK hP 0 rfl rfl 9 (by decide) w_1 (fun _ h9 => h9) rfl dX11_counts_1 ?_
    refine lv_istore_n (pc := 4) (lv' := [(3, .int m_place), (0, .ref a_m), (1, .int p1), (2, .int p2)]) hx hb dX11_counts_4 rfl hl (by decide) rfl (fun ls hl => ?_)
    refine lv_aload_n (pc := 5) hx hb dX11_counts_5 rfl (lv_at hl 1 rfl) ?_
    refine lv_iconst (pc := 6) (v := 0) hx hb dX11_counts_6 (by decide) ?_
    refine va_put (pc := 7) (D := D) (ci := 11) (v := .int 0) (ty := .int) (C := RX11) (T := TX11) (N := 42) hx hb hts hinX11 tyX11 tyX11_ok nmX11 hown hK hP hD hS 0 rfl rfl 11 (by decide) w_2 (fun _ h9 => h9) rfl (by decide +kernel) rfl rfl (Nat.le_of_ble_eq_true rfl) dX11_counts_7 (fun H locs hP hD hS => ?_)
    obtain ⟨hP, hD⟩ : va_PD D A ((a_m, .inr (11, (.ref a_m_cutRows :: .ref a_m_cutColumns :: .ref a_m_deep :: .ref a_m_wide :: .ref a_m_zonesAhead :: .ref a_m_nameOne :: .ref a_m_nameOther :: .ref a_m_tape :: .int m_taped :: .int m_place :: .int m_fault :: .int 0 :: .int m_levelRead :: .int m_keyRead :: .int m_reads :: .int m_faults :: .int m_cutShort :: .int m_noNumber :: .long m_bottomLat :: .long m_bottomLon :: .ref a_m_edges :: .int m_firstBeside :: .int m_manyBeside :: .ref a_m_dist :: .ref a_m_queue :: .int m_queued :: .int m_boxLevel :: .int m_boxTop :: .int m_boxBottom :: .int m_boxWest :: .int m_boxEast :: .int m_isEarly :: .int m_pieces :: .int m_states :: .ref a_m_pieceLevel :: .ref a_m_pieceKey :: .ref a_m_pieceYear :: .int m_drawnNow :: .ref a_m_drawnKeys :: .ref a_m_kept :: .int m_keptAt :: .ref a_m_noNumbers :: []))) :: (a_m_tape, .inl (ci 2, 200, .inl m_tape)) :: Rw) H := ⟨hP, hD⟩
    obtain ⟨k10, o10_, ek10, hm10, hk10⟩ := q_s3_k hf
    have JE10 : ∀ (v4 : Int32) (v5 : Int32) (v6 : Int32) (H : Heap) (locs : List Loc) (ls : Array Slot), k10 v4 v5 v6 = some (r, o1, o2, o3) → va_P D vwCl ((a_m, .inr (11, (.ref a_m_cutRows :: .ref a_m_cutColumns :: .ref a_m_deep :: .ref a_m_wide :: .ref a_m_zonesAhead :: .ref a_m_nameOne :: .ref a_m_nameOther :: .ref a_m_tape :: .int m_taped :: .int v4 :: .int v5 :: .int v6 :: .int m_levelRead :: .int m_keyRead :: .int m_reads :: .int m_faults :: .int m_cutShort :: .int m_noNumber :: .long m_bottomLat :: .long m_bottomLon :: .ref a_m_edges :: .int m_firstBeside :: .int m_manyBeside :: .ref a_m_dist :: .ref a_m_queue :: .int m_queued :: .int m_boxLevel :: .int m_boxTop :: .int m_boxBottom :: .int m_boxWest :: .int m_boxEast :: .int m_isEarly :: .int m_pieces :: .int m_states :: .ref a_m_pieceLevel :: .ref a_m_pieceKey :: .ref a_m_pieceYear :: .int m_drawnNow :: .ref a_m_drawnKeys :: .ref a_m_kept :: .int m_keptAt :: .ref a_m_noNumbers :: []))) :: (a_m_tape, .inl (ci 2, 200, .inl m_tape)) :: Rw) H → va_D A ((a_m, .inr (11, (.ref a_m_cutRows :: .ref a_m_cutColumns :: .ref a_m_deep :: .ref a_m_wide :: .ref a_m_zonesAhead :: .ref a_m_nameOne :: .ref a_m_nameOther :: .ref a_m_tape :: .int m_taped :: .int v4 :: .int v5 :: .int v6 :: .int m_levelRead :: .int m_keyRead :: .int m_reads :: .int m_faults :: .int m_cutShort :: .int m_noNumber :: .long m_bottomLat :: .long m_bottomLon :: .ref a_m_edges :: .int m_firstBeside :: .int m_manyBeside :: .ref a_m_dist :: .ref a_m_queue :: .int m_queued :: .int m_boxLevel :: .int m_boxTop :: .int m_boxBottom :: .int m_boxWest :: .int m_boxEast :: .int m_isEarly :: .int m_pieces :: .int m_states :: .ref a_m_pieceLevel :: .ref a_m_pieceKey :: .ref a_m_pieceYear :: .int m_drawnNow :: .ref a_m_drawnKeys :: .ref a_m_kept :: .int m_keptAt :: .ref a_m_noNumbers :: []))) :: (a_m_tape, .inl (ci 2, 200, .inl m_tape)) :: Rw) → va_S A s.heap H locs → lv_has ls 4 [(0, .ref a_m), (2, .int p2), (3, .int m_place)] → W p l e ({ frames := 1, cells := 0, slots := 0, locals := 25 } : Room) s m ([.ref a_m, .int p1, .int p2] : List Value).toArray below meth c H locs 0 0 Q (F0 m 85 ls []) := by
      intro v4 v5 v6 H locs ls hf hP hD hS hl
      have hf := (ek10 v4 v5 v6).symm.trans hf
      refine lv_aload_n (pc := 85) hx hb dX11_counts_85 rfl (lv_at hl 0 rfl) ?_
      refine va_get (pc := 86) (D := D) (ci := 11) (v := .int v4) (C := RX11) (T := TX11) (N := 42) hx hb hts hinX11 hown hK hP 0 rfl rfl 9 (by decide) w_1 (fun _ h9 => h9) rfl dX11_counts_86 ?_
      refine lv_iload_n (pc := 89) hx hb dX11_counts_89 rfl (lv_at hl 2 rfl) ?_
      refine q_icmp_ne (pc := 90) (tgt := 103) hx hb dX11_counts_90 (by decide) rfl hf (fun hf => ?_) (fun hf => ?_)
      · refine lv_aload_n (pc := 103) hx hb dX11_counts_103 rfl (lv_at hl 0 rfl) ?_
        refine va_get (pc := 104) (D := D) (ci := 11) (v := .int v6) (C := RX11) (T := TX11) (N := 42) hx hb hts hinX11 hown hK hP 0 rfl rfl 11 (by decide) w_2 (fun _ h9 => h9) rfl dX11_counts_104 ?_
        refine lv_i2l (pc := 107) hx hb dX11_counts_107 rfl ?_
        refine lv_lconst (pc := 108) (v := 1) hx hb dX11_counts_108 (by decide) ?_
        refine lv_iload_n (pc := 109) hx hb dX11_counts_109 rfl (lv_at hl 1 rfl) ?_
        refine lv_i2l (pc := 110) hx hb dX11_counts_110 rfl ?_
        obtain ⟨v7, hm111, hf⟩ := q_b1_e hf
        refine q_cSr (pc := 111) (As := [.long v6.toInt64, .long 1, .long p2.toInt64]) (rest := []) (v0 := (some (.int v7))) ⟨hx, hb, hml, hown, hts⟩ hK hA hZ hP hD hS hl.1 [] 2 rfl ⟨rfl, rfl, rfl⟩ (c_M_in l D ci A sa N (Rw) v6.toInt64 1 p2.toInt64 v7 hm111) (va_cwS 3 hts gX11_counts_X11_in rfl rfl rfl (by decide +kernel) ⟨Nat.le_of_ble_eq_true rfl, Nat.le_of_ble_eq_true rfl⟩) rfl rfl (Nat.le_of_ble_eq_true rfl) dX11_counts_111 ⟨Nat.zero_le _, Nat.zero_le _⟩ (fun locs hS => ?_)
        obtain ⟨k126, ek126, hf⟩ := q_j1_e hf
        have J126 : ∀ (v8 : Int32) (H : Heap) (locs : List Loc) (ls : Array Slot), k126 v8 = some (r, o1, o2, o3) → va_P D vwCl ((a_m, .inr (11, (.ref a_m_cutRows :: .ref a_m_cutColumns :: .ref a_m_deep :: .ref a_m_wide :: .ref a_m_zonesAhead :: .ref a_m_nameOne :: .ref a_m_nameOther :: .ref a_m_tape :: .int m_taped :: .int v4 :: .int v8 :: .int v6 :: .int m_levelRead :: .int m_keyRead :: .int m_reads :: .int m_faults :: .int m_cutShort :: .int m_noNumber :: .long m_bottomLat :: .long m_bottomLon :: .ref a_m_edges :: .int m_firstBeside :: .int m_manyBeside :: .ref a_m_dist :: .ref a_m_queue :: .int m_queued :: .int m_boxLevel :: .int m_boxTop :: .int m_boxBottom :: .int m_boxWest :: .int m_boxEast :: .int m_isEarly :: .int m_pieces :: .int m_states :: .ref a_m_pieceLevel :: .ref a_m_pieceKey :: .ref a_m_pieceYear :: .int m_drawnNow :: .ref a_m_drawnKeys :: .ref a_m_kept :: .int m_keptAt :: .ref a_m_noNumbers :: []))) :: (a_m_tape, .inl (ci 2, 200, .inl m_tape)) :: Rw) H → va_D A ((a_m, .inr (11, (.ref a_m_cutRows :: .ref a_m_cutColumns :: .ref a_m_deep :: .ref a_m_wide :: .ref a_m_zonesAhead :: .ref a_m_nameOne :: .ref a_m_nameOther :: .ref a_m_tape :: .int m_taped :: .int v4 :: .int v8 :: .int v6 :: .int m_levelRead :: .int m_keyRead :: .int m_reads :: .int m_faults :: .int m_cutShort :: .int m_noNumber :: .long m_bottomLat :: .long m_bottomLon :: .ref a_m_edges :: .int m_firstBeside :: .int m_manyBeside :: .ref a_m_dist :: .ref a_m_queue :: .int m_queued :: .int m_boxLevel :: .int m_boxTop :: .int m_boxBottom :: .int m_boxWest :: .int m_boxEast :: .int m_isEarly :: .int m_pieces :: .int m_states :: .ref a_m_pieceLevel :: .ref a_m_pieceKey :: .ref a_m_pieceYear :: .int m_drawnNow :: .ref a_m_drawnKeys :: .ref a_m_kept :: .int m_keptAt :: .ref a_m_noNumbers :: []))) :: (a_m_tape, .inl (ci 2, 200, .inl m_tape)) :: Rw) → va_S A s.heap H locs → lv_has ls 4 [] → W p l e ({ frames := 1, cells := 0, slots := 0, locals := 25 } : Room) s m ([.ref a_m, .int p1, .int p2] : List Value).toArray below meth c H locs 0 0 Q (F0 m 126 ls []) := by
          intro v8 H locs ls hf hP hD hS hl
          have hf := (ek126 v8).symm.trans hf
          refine lv_iconst (pc := 126) (v := 1) hx hb dX11_counts_126 (by decide) ?_
          refine lv_goto (pc := 127) (tgt := 131) hx hb dX11_counts_127 (by decide) ?_
          obtain ⟨e90, e91, e92, e93⟩ := q_inj4 (Option.some.inj hf)
          rw [hQ, ← e90, ← e91, ← e92, ← e93]
          exact q_zret (pc := 131) hx hb hr rfl hlocks hP hD hS dX11_counts_131
        refine q_if_ne (pc := 114) (tgt := 126) hx hb dX11_counts_114 (by decide) rfl hf (fun hf => ?_) (fun hf => ?_)
        · exact J126 v5 _ _ _ hf hP hD hS (lv_sub hl [] rfl)
        · refine lv_aload_n (pc := 117) hx hb dX11_counts_117 rfl (lv_at hl 0 rfl) ?_
          refine lv_iconst (pc := 118) (v := 2) hx hb dX11_counts_118 (by decide) ?_
          refine lv_iload_n (pc := 119) hx hb dX11_counts_119 rfl (lv_at hl 2 rfl) ?_
          obtain ⟨v9, v10, hm120, hf⟩ := q_b2_e hf
          refine q_cV (pc := 120) (As := [.int 2, .int m_place]) (rest := []) (v0 := (some (.int v9))) ⟨hx, hb, hml, hown, hts⟩ hK hA hZ hP hD hS hl.1 [0, 1] 2 rfl ⟨rfl, rfl, rfl⟩ (c_M_wrong l D ci A sa N ((a_m_tape, .inl (ci 2, 200, .inl m_tape)) :: Rw) a_m a_m_cutRows a_m_cutColumns a_m_deep a_m_wide a_m_zonesAhead a_m_nameOne a_m_nameOther a_m_tape a_m_edges a_m_dist a_m_queue a_m_pieceLevel a_m_pieceKey a_m_pieceYear a_m_drawnKeys a_m_kept a_m_noNumbers m_taped v4 v5 v6 m_levelRead m_keyRead m_reads m_faults m_cutShort m_noNumber m_bottomLat m_bottomLon m_firstBeside m_manyBeside m_queued m_boxLevel m_boxTop m_boxBottom m_boxWest m_boxEast m_isEarly m_pieces m_states m_drawnNow m_keptAt 2 m_place v9 v10 hm120) 0 rfl rfl (cwV 2 hts gX11_counts_X11_wrong rfl rfl rfl (by decide +kernel) ⟨Nat.le_of_ble_eq_true rfl, Nat.le_of_ble_eq_true rfl⟩) rfl rfl (Nat.le_of_ble_eq_true rfl) dX11_counts_120 ⟨Nat.zero_le _, Nat.zero_le _⟩ [0, 1] 2 rfl ⟨rfl, rfl, rfl⟩ (fun H locs hP hD hS => ?_)
          obtain ⟨hP, hD⟩ : va_PD D A ((a_m, .inr (11, (.ref a_m_cutRows :: .ref a_m_cutColumns :: .ref a_m_deep :: .ref a_m_wide :: .ref a_m_zonesAhead :: .ref a_m_nameOne :: .ref a_m_nameOther :: .ref a_m_tape :: .int m_taped :: .int v4 :: .int v10 :: .int v6 :: .int m_levelRead :: .int m_keyRead :: .int m_reads :: .int m_faults :: .int m_cutShort :: .int m_noNumber :: .long m_bottomLat :: .long m_bottomLon :: .ref a_m_edges :: .int m_firstBeside :: .int m_manyBeside :: .ref a_m_dist :: .ref a_m_queue :: .int m_queued :: .int m_boxLevel :: .int m_boxTop :: .int m_boxBottom :: .int m_boxWest :: .int m_boxEast :: .int m_isEarly :: .int m_pieces :: .int m_states :: .ref a_m_pieceLevel :: .ref a_m_pieceKey :: .ref a_m_pieceYear :: .int m_drawnNow :: .ref a_m_drawnKeys :: .ref a_m_kept :: .int m_keptAt :: .ref a_m_noNumbers :: []))) :: (a_m_tape, .inl (ci 2, 200, .inl m_tape)) :: Rw) H := ⟨hP, hD⟩
          refine q_if_eq (pc := 123) (tgt := 130) hx hb dX11_counts_123 (by decide) rfl hf (fun hf => ?_) (fun hf => ?_)
          · refine lv_iconst (pc := 130) (v := 0) hx hb dX11_counts_130 (by decide) ?_
            obtain ⟨e90, e91, e92, e93⟩ := q_inj4 (Option.some.inj hf)
            rw [hQ, ← e90, ← e91, ← e92, ← e93]
            exact q_zret (pc := 131) hx hb hr rfl hlocks hP hD hS dX11_counts_131
          · exact J126 v10 _ _ _ hf hP hD hS (lv_sub hl [] rfl)
      · refine lv_aload_n (pc := 93) hx hb dX11_counts_93 rfl (lv_at hl 0 rfl) ?_
        refine lv_iconst (pc := 94) (v := 1) hx hb dX11_counts_94 (by decide) ?_
        refine lv_aload_n (pc := 95) hx hb dX11_counts_95 rfl (lv_at hl 0 rfl) ?_
        refine va_get (pc := 96) (D := D) (ci := 11) (v := .int v4) (C := RX11) (T := TX11) (N := 42) hx hb hts hinX11 hown hK hP 0 rfl rfl 9 (by decide) w_1 (fun _ h9 => h9) rfl dX11_counts_96 ?_
        obtain ⟨v11, v12, hm99, hf⟩ := q_b2_e hf
        refine q_cV (pc := 99) (As := [.int 1, .int v4]) (rest := []) (v0 := (some (.int v11))) ⟨hx, hb, hml, hown, hts⟩ hK hA hZ hP hD hS hl.1 [0, 1] 2 rfl ⟨rfl, rfl, rfl⟩ (c_M_wrong l D ci A sa N ((a_m_tape, .inl (ci 2, 200, .inl m_tape)) :: Rw) a_m a_m_cutRows a_m_cutColumns a_m_deep a_m_wide a_m_zonesAhead a_m_nameOne a_m_nameOther a_m_tape a_m_edges a_m_dist a_m_queue a_m_pieceLevel a_m_pieceKey a_m_pieceYear a_m_drawnKeys a_m_kept a_m_noNumbers m_taped v4 v5 v6 m_levelRead m_keyRead m_reads m_faults m_cutShort m_noNumber m_bottomLat m_bottomLon m_firstBeside m_manyBeside m_queued m_boxLevel m_boxTop m_boxBottom m_boxWest m_boxEast m_isEarly m_pieces m_states m_drawnNow m_keptAt 1 v4 v11 v12 hm99) 0 rfl rfl (cwV 2 hts gX11_counts_X11_wrong rfl rfl rfl (by decide +kernel) ⟨Nat.le_of_ble_eq_true rfl, Nat.le_of_ble_eq_true rfl⟩) rfl rfl (Nat.le_of_ble_eq_true rfl) dX11_counts_99 ⟨Nat.zero_le _, Nat.zero_le _⟩ [0, 1] 2 rfl ⟨rfl, rfl, rfl⟩ (fun H locs hP hD hS => ?_)
        obtain ⟨hP, hD⟩ : va_PD D A ((a_m, .inr (11, (.ref a_m_cutRows :: .ref a_m_cutColumns :: .ref a_m_deep :: .ref a_m_wide :: .ref a_m_zonesAhead :: .ref a_m_nameOne :: .ref a_m_nameOther :: .ref a_m_tape :: .int m_taped :: .int v4 :: .int v12 :: .int v6 :: .int m_levelRead :: .int m_keyRead :: .int m_reads :: .int m_faults :: .int m_cutShort :: .int m_noNumber :: .long m_bottomLat :: .long m_bottomLon :: .ref a_m_edges :: .int m_firstBeside :: .int m_manyBeside :: .ref a_m_dist :: .ref a_m_queue :: .int m_queued :: .int m_boxLevel :: .int m_boxTop :: .int m_boxBottom :: .int m_boxWest :: .int m_boxEast :: .int m_isEarly :: .int m_pieces :: .int m_states :: .ref a_m_pieceLevel :: .ref a_m_pieceKey :: .ref a_m_pieceYear :: .int m_drawnNow :: .ref a_m_drawnKeys :: .ref a_m_kept :: .int m_keptAt :: .ref a_m_noNumbers :: []))) :: (a_m_tape, .inl (ci 2, 200, .inl m_tape)) :: Rw) H := ⟨hP, hD⟩
        obtain ⟨hn9, hf9, hf⟩ := q_bo_e hf
        obtain ⟨e90, e91, e92, e93⟩ := q_inj4 (Option.some.inj hf)
        rw [hQ, ← e90, ← e91, ← e92, ← e93]
        exact q_zret (pc := 102) hx hb hr hn9 hlocks hP hD hS dX11_counts_102
    have LP10 : ∀ (n10 : Nat) (v1 : Int32) (v2 : Int32) (v3 : Int32) (H : Heap) (locs : List Loc) (ls : Array Slot), f_M_counts_L10 m_place m_tape p1 n10 v1 v2 v3 = some o10_ → va_P D vwCl ((a_m, .inr (11, (.ref a_m_cutRows :: .ref a_m_cutColumns :: .ref a_m_deep :: .ref a_m_wide :: .ref a_m_zonesAhead :: .ref a_m_nameOne :: .ref a_m_nameOther :: .ref a_m_tape :: .int m_taped :: .int v1 :: .int v2 :: .int v3 :: .int m_levelRead :: .int m_keyRead :: .int m_reads :: .int m_faults :: .int m_cutShort :: .int m_noNumber :: .long m_bottomLat :: .long m_bottomLon :: .ref a_m_edges :: .int m_firstBeside :: .int m_manyBeside :: .ref a_m_dist :: .ref a_m_queue :: .int m_queued :: .int m_boxLevel :: .int m_boxTop :: .int m_boxBottom :: .int m_boxWest :: .int m_boxEast :: .int m_isEarly :: .int m_pieces :: .int m_states :: .ref a_m_pieceLevel :: .ref a_m_pieceKey :: .ref a_m_pieceYear :: .int m_drawnNow :: .ref a_m_drawnKeys :: .ref a_m_kept :: .int m_keptAt :: .ref a_m_noNumbers :: []))) :: (a_m_tape, .inl (ci 2, 200, .inl m_tape)) :: Rw) H → va_D A ((a_m, .inr (11, (.ref a_m_cutRows :: .ref a_m_cutColumns :: .ref a_m_deep :: .ref a_m_wide :: .ref a_m_zonesAhead :: .ref a_m_nameOne :: .ref a_m_nameOther :: .ref a_m_tape :: .int m_taped :: .int v1 :: .int v2 :: .int v3 :: .int m_levelRead :: .int m_keyRead :: .int m_reads :: .int m_faults :: .int m_cutShort :: .int m_noNumber :: .long m_bottomLat :: .long m_bottomLon :: .ref a_m_edges :: .int m_firstBeside :: .int m_manyBeside :: .ref a_m_dist :: .ref a_m_queue :: .int m_queued :: .int m_boxLevel :: .int m_boxTop :: .int m_boxBottom :: .int m_boxWest :: .int m_boxEast :: .int m_isEarly :: .int m_pieces :: .int m_states :: .ref a_m_pieceLevel :: .ref a_m_pieceKey :: .ref a_m_pieceYear :: .int m_drawnNow :: .ref a_m_drawnKeys :: .ref a_m_kept :: .int m_keptAt :: .ref a_m_noNumbers :: []))) :: (a_m_tape, .inl (ci 2, 200, .inl m_tape)) :: Rw) → va_S A s.heap H locs → lv_has ls 4 [(0, .ref a_m), (1, .int p1), (2, .int p2), (3, .int m_place)] → W p l e ({ frames := 1, cells := 0, slots := 0, locals := 25 } : Room) s m ([.ref a_m, .int p1, .int p2] : List Value).toArray below meth c H locs 0 0 Q (F0 m 10 ls []) := by
      intro n10
      induction n10 with
      | zero => intro v1 v2 v3 H locs ls hf; rw [f_M_counts_L10] at hf; cases hf
      | succ n10 ih10 =>
        intro v1 v2 v3 H locs ls hf hP hD hS hl
        rw [f_M_counts_L10] at hf
        refine lv_aload_n (pc := 10) hx hb dX11_counts_10 rfl (lv_at hl 0 rfl) ?_
        refine lv_iload_n (pc := 11) hx hb dX11_counts_11 rfl (lv_at hl 1 rfl) ?_
        obtain ⟨v13, hm12, hf⟩ := q_b1_e hf
        refine q_cVr (pc := 12) (As := [.int p1]) (rest := []) (v0 := (some (.int v13))) ⟨hx, hb, hml, hown, hts⟩ hK hA hZ hP hD hS hl.1 [0, 1] 2 rfl ⟨rfl, rfl, rfl⟩ (c_M_see l D ci A sa N (Rw) a_m a_m_cutRows a_m_cutColumns a_m_deep a_m_wide a_m_zonesAhead a_m_nameOne a_m_nameOther a_m_tape a_m_edges a_m_dist a_m_queue a_m_pieceLevel a_m_pieceKey a_m_pieceYear a_m_drawnKeys a_m_kept a_m_noNumbers m_taped v1 v2 v3 m_levelRead m_keyRead m_reads m_faults m_cutShort m_noNumber m_bottomLat m_bottomLon m_firstBeside m_manyBeside m_queued m_boxLevel m_boxTop m_boxBottom m_boxWest m_boxEast m_isEarly m_pieces m_states m_drawnNow m_keptAt m_tape p1 v13 hm12) 0 rfl rfl (cwV 1 hts gX11_counts_X11_see rfl rfl rfl (by decide +kernel) ⟨Nat.le_of_ble_eq_true rfl, Nat.le_of_ble_eq_true rfl⟩) rfl rfl (Nat.le_of_ble_eq_true rfl) dX11_counts_12 ⟨Nat.zero_le _, Nat.zero_le _⟩ (fun locs hS => ?_)
        refine lv_i2l (pc := 15) hx hb dX11_counts_15 rfl ?_
        refine lv_ldc2 (pc := 16) (v := 48) hx hb hown w_3 dX11_counts_16 ?_
        refine lv_ldc2 (pc := 19) (v := 57) hx hb hown w_4 dX11_counts_19 ?_
        obtain ⟨v14, hm22, hf⟩ := q_b1_e hf
        refine q_cSr (pc := 22) (As := [.long v13.toInt64, .long 48, .long 57]) (rest := []) (v0 := (some (.int v14))) ⟨hx, hb, hml, hown, hts⟩ hK hA hZ hP hD hS hl.1 [] 2 rfl ⟨rfl, rfl, rfl⟩ (c_M_in l D ci A sa N (Rw) v13.toInt64 48 57 v14 hm22) (va_cwS 3 hts gX11_counts_X11_in rfl rfl rfl (by decide +kernel) ⟨Nat.le_of_ble_eq_true rfl, Nat.le_of_ble_eq_true rfl⟩) rfl rfl (Nat.le_of_ble_eq_true rfl) dX11_counts_22 ⟨Nat.zero_le _, Nat.zero_le _⟩ (fun locs hS => ?_)
        refine q_if_eq (pc := 25) (tgt := 85) hx hb dX11_counts_25 (by decide) rfl hf (fun hf => ?_) (fun hf => ?_)
        · obtain rfl := Option.some.inj hf
          exact JE10 v1 v2 v3 _ _ _ hk10 hP hD hS (lv_sub hl [0, 2, 3] rfl)
        · refine lv_aload_n (pc := 28) hx hb dX11_counts_28 rfl (lv_at hl 0 rfl) ?_
          refine va_get (pc := 29) (D := D) (ci := 11) (v := .int v1) (C := RX11) (T := TX11) (N := 42) hx hb hts hinX11 hown hK hP 0 rfl rfl 9 (by decide) w_1 (fun _ h9 => h9) rfl dX11_counts_29 ?_
          refine lv_iload_n (pc := 32) hx hb dX11_counts_32 rfl (lv_at hl 3 rfl) ?_
          refine lv_isub (pc := 33) hx hb dX11_counts_33 ?_
          refine lv_iconst (pc := 34) (v := 2) hx hb dX11_counts_34 (by decide) ?_
          refine q_icmp_ne (pc := 35) (tgt := 48) hx hb dX11_counts_35 (by decide) rfl hf (fun hf => ?_) (fun hf => ?_)
          · refine lv_aload_n (pc := 48) hx hb dX11_counts_48 rfl (lv_at hl 0 rfl) ?_
            refine lv_bipush (pc := 49) (v := 10) hx hb dX11_counts_49 (by decide) ?_
            refine lv_aload_n (pc := 51) hx hb dX11_counts_51 rfl (lv_at hl 0 rfl) ?_
            refine va_get (pc := 52) (D := D) (ci := 11) (v := .int v3) (C := RX11) (T := TX11) (N := 42) hx hb hts hinX11 hown hK hP 0 rfl rfl 11 (by decide) w_2 (fun _ h9 => h9) rfl dX11_counts_52 ?_
            refine lv_imul (pc := 55) hx hb dX11_counts_55 ?_
            refine lv_aload_n (pc := 56) hx hb dX11_counts_56 rfl (lv_at hl 0 rfl) ?_
            refine va_get (pc := 57) (D := D) (ci := 11) (v := .ref a_m_tape) (C := RX11) (T := TX11) (N := 42) hx hb hts hinX11 hown hK hP 0 rfl rfl 7 (by decide) w_5 (fun _ h9 => h9) rfl dX11_counts_57 ?_
            refine lv_aload_n (pc := 60) hx hb dX11_counts_60 rfl (lv_at hl 0 rfl) ?_
            refine va_get (pc := 61) (D := D) (ci := 11) (v := .int v1) (C := RX11) (T := TX11) (N := 42) hx hb hts hinX11 hown hK hP 0 rfl rfl 9 (by decide) w_1 (fun _ h9 => h9) rfl dX11_counts_61 ?_
            refine q_bald (pc := 64) hx hb hK hP 1 2 hf rfl rfl dX11_counts_64 (fun v15 hf => ?_)
            refine lv_iadd (pc := 65) hx hb dX11_counts_65 ?_
            refine lv_bipush (pc := 66) (v := 48) hx hb dX11_counts_66 (by decide) ?_
            refine lv_isub (pc := 68) hx hb dX11_counts_68 ?_
            obtain ⟨v16, ev16, hf⟩ := q_nm_e hf
            refine q_topi ev16 ?_
            refine va_put (pc := 69) (D := D) (ci := 11) (v := .int v16) (ty := .int) (C := RX11) (T := TX11) (N := 42) hx hb hts hinX11 tyX11 tyX11_ok nmX11 hown hK hP hD hS 0 rfl rfl 11 (by decide) w_2 (fun _ h9 => h9) rfl (by decide +kernel) rfl rfl (Nat.le_of_ble_eq_true rfl) dX11_counts_69 (fun H locs hP hD hS => ?_)
            obtain ⟨hP, hD⟩ : va_PD D A ((a_m, .inr (11, (.ref a_m_cutRows :: .ref a_m_cutColumns :: .ref a_m_deep :: .ref a_m_wide :: .ref a_m_zonesAhead :: .ref a_m_nameOne :: .ref a_m_nameOther :: .ref a_m_tape :: .int m_taped :: .int v1 :: .int v2 :: .int v16 :: .int m_levelRead :: .int m_keyRead :: .int m_reads :: .int m_faults :: .int m_cutShort :: .int m_noNumber :: .long m_bottomLat :: .long m_bottomLon :: .ref a_m_edges :: .int m_firstBeside :: .int m_manyBeside :: .ref a_m_dist :: .ref a_m_queue :: .int m_queued :: .int m_boxLevel :: .int m_boxTop :: .int m_boxBottom :: .int m_boxWest :: .int m_boxEast :: .int m_isEarly :: .int m_pieces :: .int m_states :: .ref a_m_pieceLevel :: .ref a_m_pieceKey :: .ref a_m_pieceYear :: .int m_drawnNow :: .ref a_m_drawnKeys :: .ref a_m_kept :: .int m_keptAt :: .ref a_m_noNumbers :: []))) :: (a_m_tape, .inl (ci 2, 200, .inl m_tape)) :: Rw) H := ⟨hP, hD⟩
            refine lv_aload_n (pc := 72) hx hb dX11_counts_72 rfl (lv_at hl 0 rfl) ?_
            refine lv_aload_n (pc := 73) hx hb dX11_counts_73 rfl (lv_at hl 0 rfl) ?_
            refine va_get (pc := 74) (D := D) (ci := 11) (v := .int v1) (C := RX11) (T := TX11) (N := 42) hx hb hts hinX11 hown hK hP 0 rfl rfl 9 (by decide) w_1 (fun _ h9 => h9) rfl dX11_counts_74 ?_
            refine lv_iconst (pc := 77) (v := 1) hx hb dX11_counts_77 (by decide) ?_
            refine lv_iadd (pc := 78) hx hb dX11_counts_78 ?_
            obtain ⟨v17, ev17, hf⟩ := q_nm_e hf
            refine q_topi ev17 ?_
            refine va_put (pc := 79) (D := D) (ci := 11) (v := .int v17) (ty := .int) (C := RX11) (T := TX11) (N := 42) hx hb hts hinX11 tyX11 tyX11_ok nmX11 hown hK hP hD hS 0 rfl rfl 9 (by decide) w_1 (fun _ h9 => h9) rfl (by decide +kernel) rfl rfl (Nat.le_of_ble_eq_true rfl) dX11_counts_79 (fun H locs hP hD hS => ?_)
            obtain ⟨hP, hD⟩ : va_PD D A ((a_m, .inr (11, (.ref a_m_cutRows :: .ref a_m_cutColumns :: .ref a_m_deep :: .ref a_m_wide :: .ref a_m_zonesAhead :: .ref a_m_nameOne :: .ref a_m_nameOther :: .ref a_m_tape :: .int m_taped :: .int v17 :: .int v2 :: .int v16 :: .int m_levelRead :: .int m_keyRead :: .int m_reads :: .int m_faults :: .int m_cutShort :: .int m_noNumber :: .long m_bottomLat :: .long m_bottomLon :: .ref a_m_edges :: .int m_firstBeside :: .int m_manyBeside :: .ref a_m_dist :: .ref a_m_queue :: .int m_queued :: .int m_boxLevel :: .int m_boxTop :: .int m_boxBottom :: .int m_boxWest :: .int m_boxEast :: .int m_isEarly :: .int m_pieces :: .int m_states :: .ref a_m_pieceLevel :: .ref a_m_pieceKey :: .ref a_m_pieceYear :: .int m_drawnNow :: .ref a_m_drawnKeys :: .ref a_m_kept :: .int m_keptAt :: .ref a_m_noNumbers :: []))) :: (a_m_tape, .inl (ci 2, 200, .inl m_tape)) :: Rw) H := ⟨hP, hD⟩
            refine lv_goto (pc := 82) (tgt := 10) hx hb dX11_counts_82 (by decide) ?_
            exact ih10 v17 v2 v16 _ _ _ hf hP hD hS (lv_sub hl [0, 1, 2, 3] rfl)
          · refine lv_aload_n (pc := 38) hx hb dX11_counts_38 rfl (lv_at hl 0 rfl) ?_
            refine lv_iconst (pc := 39) (v := 1) hx hb dX11_counts_39 (by decide) ?_
            refine lv_aload_n (pc := 40) hx hb dX11_counts_40 rfl (lv_at hl 0 rfl) ?_
            refine va_get (pc := 41) (D := D) (ci := 11) (v := .int v1) (C := RX11) (T := TX11) (N := 42) hx hb hts hinX11 hown hK hP 0 rfl rfl 9 (by decide) w_1 (fun _ h9 => h9) rfl dX11_counts_41 ?_
            obtain ⟨v18, v19, hm44, hf⟩ := q_b2_e hf
            refine q_cV (pc := 44) (As := [.int 1, .int v1]) (rest := []) (v0 := (some (.int v18))) ⟨hx, hb, hml, hown, hts⟩ hK hA hZ hP hD hS hl.1 [0, 1] 2 rfl ⟨rfl, rfl, rfl⟩ (c_M_wrong l D ci A sa N ((a_m_tape, .inl (ci 2, 200, .inl m_tape)) :: Rw) a_m a_m_cutRows a_m_cutColumns a_m_deep a_m_wide a_m_zonesAhead a_m_nameOne a_m_nameOther a_m_tape a_m_edges a_m_dist a_m_queue a_m_pieceLevel a_m_pieceKey a_m_pieceYear a_m_drawnKeys a_m_kept a_m_noNumbers m_taped v1 v2 v3 m_levelRead m_keyRead m_reads m_faults m_cutShort m_noNumber m_bottomLat m_bottomLon m_firstBeside m_manyBeside m_queued m_boxLevel m_boxTop m_boxBottom m_boxWest m_boxEast m_isEarly m_pieces m_states m_drawnNow m_keptAt 1 v1 v18 v19 hm44) 0 rfl rfl (cwV 2 hts gX11_counts_X11_wrong rfl rfl rfl (by decide +kernel) ⟨Nat.le_of_ble_eq_true rfl, Nat.le_of_ble_eq_true rfl⟩) rfl rfl (Nat.le_of_ble_eq_true rfl) dX11_counts_44 ⟨Nat.zero_le _, Nat.zero_le _⟩ [0, 1] 2 rfl ⟨rfl, rfl, rfl⟩ (fun H locs hP hD hS => ?_)
            obtain ⟨hP, hD⟩ : va_PD D A ((a_m, .inr (11, (.ref a_m_cutRows :: .ref a_m_cutColumns :: .ref a_m_deep :: .ref a_m_wide :: .ref a_m_zonesAhead :: .ref a_m_nameOne :: .ref a_m_nameOther :: .ref a_m_tape :: .int m_taped :: .int v1 :: .int v19 :: .int v3 :: .int m_levelRead :: .int m_keyRead :: .int m_reads :: .int m_faults :: .int m_cutShort :: .int m_noNumber :: .long m_bottomLat :: .long m_bottomLon :: .ref a_m_edges :: .int m_firstBeside :: .int m_manyBeside :: .ref a_m_dist :: .ref a_m_queue :: .int m_queued :: .int m_boxLevel :: .int m_boxTop :: .int m_boxBottom :: .int m_boxWest :: .int m_boxEast :: .int m_isEarly :: .int m_pieces :: .int m_states :: .ref a_m_pieceLevel :: .ref a_m_pieceKey :: .ref a_m_pieceYear :: .int m_drawnNow :: .ref a_m_drawnKeys :: .ref a_m_kept :: .int m_keptAt :: .ref a_m_noNumbers :: []))) :: (a_m_tape, .inl (ci 2, 200, .inl m_tape)) :: Rw) H := ⟨hP, hD⟩
            obtain ⟨hn9, hf9, hf⟩ := q_bo_e hf
            obtain rfl := Option.some.inj hf
            have hk10 : ((v18, v1, v19, v3) : Int32 × Int32 × Int32 × Int32) = (r, o1, o2, o3) := hk10
            obtain ⟨e90, e91, e92, e93⟩ := q_inj4 (hk10)
            rw [hQ, ← e90, ← e91, ← e92, ← e93]
            exact q_zret (pc := 47) hx hb hr hn9 hlocks hP hD hS dX11_counts_47
    exact LP10 N m_place m_fault 0 _ _ _ hm10 hP hD hS (lv_sub hl [1, 2, 3, 0] rfl)
  exact hgo _ _ rfl hP hS
