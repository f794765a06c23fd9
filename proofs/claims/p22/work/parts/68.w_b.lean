section
/-! X10_areSheets -/
set_option maxRecDepth 100000 in
set_option maxHeartbeats 4000000 in
theorem c_X_areSheets (l : Launch) (D : va_G) (ci : Nat → ClassId) (A : Nat → Prop) (sa : Nat → Nat) (N : Nat) (Rw : va_W) (a_x : Nat) (a_at : Nat) (a_g : Nat) (a_st : Nat) (a_x_kept : Nat) (a_tp : Nat) (a_rd : Nat) (a_qu : Nat) (a_sp : Nat) (a_wk : Nat) (a_bx : Nat) (a_nt : Nat) (a_nu : Nat) (a_x_seen : Nat) (a_g_rowCuts : Nat) (a_g_columnCuts : Nat) (a_g_bandRows : Nat) (a_g_zoneColumns : Nat) (a_g_rows : Nat) (a_g_sheets : Nat) (x_keptStates : Int32) (g_sheets : Nat → Int32) (p1 : Int32) (p2 : Int32) (p3 : Int32) (r : Int32) (hf : f_X_areSheets g_sheets p1 p2 p3 = some r) : Met l yX10_areSheets wsX10_areSheets ({ frames := 2, cells := 0, slots := 0, locals := 42 }) (va_Pc [.ref a_x, .int p1, .int p2, .int p3] (q_N D ci A sa ((a_x, .inr (10, [.ref a_at, .ref a_g, .ref a_st, .ref a_x_kept, .int x_keptStates, .ref a_tp, .ref a_rd, .ref a_qu, .ref a_sp, .ref a_wk, .ref a_bx, .ref a_nt, .ref a_nu, .ref a_x_seen])) :: (a_g, .inr (2, [.ref a_g_rowCuts, .ref a_g_columnCuts, .ref a_g_bandRows, .ref a_g_zoneColumns, .ref a_g_rows, .ref a_g_sheets])) :: (a_g_sheets, .inl (ci 0, 5, .inl g_sheets)) :: Rw))) (q_R (some (.int r))) 0 0 A := by
  refine q_ofW (cc := cX10_areSheets) (maxL := 4) (ret := (some .boolean)) [.ref a_x, .int p1, .int p2, .int p3] (plainFor_of_name (by decide)) rfl (Nat.le_of_ble_eq_true rfl) ?_
  intro p e s m below meth c ls Q hQ hx hb hml hr hts hown hlocks hK hA hZ hP hD hS hl
  have hl : lv_has ls 4 [(0, .ref a_x), (1, .int p1), (2, .int p2), (3, .int p3)] := hl
  have hown : s.vm.findClass RX10 = some m.cls := hown
  have hinX10 : ∀ w ∈ wsX100, w ∈ wsX10_areSheets := fun _ h => List.mem_cons_of_mem _ (inWX100 _ h)
  have w_1 := hts (Cond.fieldLink RX10 20 "SheetNames" "grid" "LSheetNames$Grid;") (List.mem_cons_of_mem _ t_w876)
  unfold f_X_areSheets at hf
  have hgo : ∀ (H : Heap) (locs : List Loc), H = s.heap → va_P D vwCl ((a_x, .inr (10, [.ref a_at, .ref a_g, .ref a_st, .ref a_x_kept, .int x_keptStates, .ref a_tp, .ref a_rd, .ref a_qu, .ref a_sp, .ref a_wk, .ref a_bx, .ref a_nt, .ref a_nu, .ref a_x_seen])) :: (a_g, .inr (2, [.ref a_g_rowCuts, .ref a_g_columnCuts, .ref a_g_bandRows, .ref a_g_zoneColumns, .ref a_g_rows, .ref a_g_sheets])) :: (a_g_sheets, .inl (ci 0, 5, .inl g_sheets)) :: Rw) H → va_S A s.heap H locs → W p l e ({ frames := 2, cells := 0, slots := 0, locals := 42 } : Room) s m ([.ref a_x, .int p1, .int p2, .int p3] : List Value).toArray below meth c H locs 0 0 Q (F0 m 0 ls []) := by
    intro H locs hH hP hS
    subst hH
    refine lv_aload_n (pc := 0) hx hb dX10_areSheets_0 rfl (lv_at hl 0 rfl) ?_
    refine va_get (pc := 1) (D := D) (ci := 10) (v := .ref a_g) (C := RX10) (T := TX10) (N := 14) hx hb hts hinX10 hown hK hP 0 rfl rfl 1 (by decide) w_1 (fun _ h9 => h9) rfl dX10_areSheets_1 ?_
    refine lv_iload_n (pc := 4) hx hb dX10_areSheets_4 rfl (lv_at hl 1 rfl) ?_
    refine lv_iload_n (pc := 5) hx hb dX10_areSheets_5 rfl (lv_at hl 2 rfl) ?_
    obtain ⟨v1, hm6, hf⟩ := q_b1_e hf
    refine q_cVr (pc := 6) (As := [.int p1, .int p2]) (rest := []) (v0 := (some (.int v1))) ⟨hx, hb, hml, hown, hts⟩ hK hA hZ hP hD hS hl.1 [1, 2] 3 rfl ⟨rfl, rfl, rfl⟩ (c_Grid_hasSheet l D ci A sa N (Rw) a_g a_g_rowCuts a_g_columnCuts a_g_bandRows a_g_zoneColumns a_g_rows a_g_sheets g_sheets p1 p2 v1 hm6) 1 rfl rfl (cwV 2 hts gX10_areSheets_X2_hasSheet rfl rfl rfl (by decide +kernel) ⟨Nat.le_of_ble_eq_true rfl, Nat.le_of_ble_eq_true rfl⟩) rfl rfl (Nat.le_of_ble_eq_true rfl) dX10_areSheets_6 ⟨Nat.zero_le _, Nat.zero_le _⟩ (fun locs hS => ?_)
    refine q_if_eq (pc := 9) (tgt := 28) hx hb dX10_areSheets_9 (by decide) rfl hf (fun hf => ?_) (fun hf => ?_)
    · refine lv_iconst (pc := 28) (v := 0) hx hb dX10_areSheets_28 (by decide) ?_
      obtain rfl := Option.some.inj hf
      rw [hQ]
      exact q_zretr (pc := 29) hx hb hr rfl hlocks rfl hS dX10_areSheets_29
    · refine lv_aload_n (pc := 12) hx hb dX10_areSheets_12 rfl (lv_at hl 0 rfl) ?_
      refine va_get (pc := 13) (D := D) (ci := 10) (v := .ref a_g) (C := RX10) (T := TX10) (N := 14) hx hb hts hinX10 hown hK hP 0 rfl rfl 1 (by decide) w_1 (fun _ h9 => h9) rfl dX10_areSheets_13 ?_
      refine lv_iload_n (pc := 16) hx hb dX10_areSheets_16 rfl (lv_at hl 1 rfl) ?_
      refine lv_iload_n (pc := 17) hx hb dX10_areSheets_17 rfl (lv_at hl 3 rfl) ?_
      obtain ⟨v2, hm18, hf⟩ := q_b1_e hf
      refine q_cVr (pc := 18) (As := [.int p1, .int p3]) (rest := []) (v0 := (some (.int v2))) ⟨hx, hb, hml, hown, hts⟩ hK hA hZ hP hD hS hl.1 [1, 2] 3 rfl ⟨rfl, rfl, rfl⟩ (c_Grid_hasSheet l D ci A sa N (Rw) a_g a_g_rowCuts a_g_columnCuts a_g_bandRows a_g_zoneColumns a_g_rows a_g_sheets g_sheets p1 p3 v2 hm18) 1 rfl rfl (cwV 2 hts gX10_areSheets_X2_hasSheet rfl rfl rfl (by decide +kernel) ⟨Nat.le_of_ble_eq_true rfl, Nat.le_of_ble_eq_true rfl⟩) rfl rfl (Nat.le_of_ble_eq_true rfl) dX10_areSheets_18 ⟨Nat.zero_le _, Nat.zero_le _⟩ (fun locs hS => ?_)
      refine q_if_eq (pc := 21) (tgt := 28) hx hb dX10_areSheets_21 (by decide) rfl hf (fun hf => ?_) (fun hf => ?_)
      · refine lv_iconst (pc := 28) (v := 0) hx hb dX10_areSheets_28 (by decide) ?_
        obtain rfl := Option.some.inj hf
        rw [hQ]
        exact q_zretr (pc := 29) hx hb hr rfl hlocks rfl hS dX10_areSheets_29
      · refine lv_iconst (pc := 24) (v := 1) hx hb dX10_areSheets_24 (by decide) ?_
        refine lv_goto (pc := 25) (tgt := 29) hx hb dX10_areSheets_25 (by decide) ?_
        obtain rfl := Option.some.inj hf
        rw [hQ]
        exact q_zretr (pc := 29) hx hb hr rfl hlocks rfl hS dX10_areSheets_29
  exact hgo _ _ rfl hP hS
/-! X10_between -/
set_option maxRecDepth 100000 in
set_option maxHeartbeats 4000000 in
theorem c_X_between (l : Launch) (D : va_G) (ci : Nat → ClassId) (A : Nat → Prop) (sa : Nat → Nat) (N : Nat) (Rw : va_W) (a_x : Nat) (a_at : Nat) (a_g : Nat) (a_st : Nat) (a_x_kept : Nat) (a_tp : Nat) (a_rd : Nat) (a_qu : Nat) (a_sp : Nat) (a_wk : Nat) (a_bx : Nat) (a_nt : Nat) (a_nu : Nat) (a_x_seen : Nat) (a_sp_first : Nat) (a_sp_many : Nat) (a_sp_corner : Nat) (a_g_rowCuts : Nat) (a_g_columnCuts : Nat) (a_g_bandRows : Nat) (a_g_zoneColumns : Nat) (a_g_rows : Nat) (a_g_sheets : Nat) (x_keptStates : Int32) (sp_cornerCount : Int32) (sp_level : Int32) (sp_row : Int32) (sp_start : Int32) (sp_place : Int32) (sp_length : Int32) (sp_cap : Int32) (bx_south : Int32) (bx_north : Int32) (bx_west : Int32) (bx_east : Int32) (g_bandRows : Nat → Int32) (g_zoneColumns : Nat → Int32) (g_rows : Nat → Int32) (g_sheets : Nat → Int32) (p1 : Int32) (p2 : Int32) (p3 : Int32) (r : Int32) (o1 : Int32) (o2 : Int32) (o3 : Int32) (o4 : Int32) (o5 : Int32) (o6 : Int32) (o7 : Int32) (o8 : Int32) (o9 : Int32) (o10 : Int32) (hf : f_X_between N sp_level sp_row sp_start sp_place sp_length sp_cap bx_south bx_north bx_west bx_east g_bandRows g_zoneColumns g_rows g_sheets p1 p2 p3 = some (r, o1, o2, o3, o4, o5, o6, o7, o8, o9, o10)) : Met l yX10_between wsX10_between ({ frames := 5, cells := 0, slots := 0, locals := 118 }) (va_Pc [.ref a_x, .int p1, .int p2, .int p3] (q_N D ci A sa ((a_x, .inr (10, [.ref a_at, .ref a_g, .ref a_st, .ref a_x_kept, .int x_keptStates, .ref a_tp, .ref a_rd, .ref a_qu, .ref a_sp, .ref a_wk, .ref a_bx, .ref a_nt, .ref a_nu, .ref a_x_seen])) :: (a_sp, .inr (6, [.ref a_g, .ref a_sp_first, .ref a_sp_many, .ref a_sp_corner, .int sp_cornerCount, .int sp_level, .int sp_row, .int sp_start, .int sp_place, .int sp_length, .int sp_cap])) :: (a_bx, .inr (1, [.ref a_g, .int bx_south, .int bx_north, .int bx_west, .int bx_east])) :: (a_g, .inr (2, [.ref a_g_rowCuts, .ref a_g_columnCuts, .ref a_g_bandRows, .ref a_g_zoneColumns, .ref a_g_rows, .ref a_g_sheets])) :: (a_g_bandRows, .inl (ci 0, 5, .inl g_bandRows)) :: (a_g_zoneColumns, .inl (ci 0, 5, .inl g_zoneColumns)) :: (a_g_rows, .inl (ci 0, 5, .inl g_rows)) :: (a_g_sheets, .inl (ci 0, 5, .inl g_sheets)) :: Rw))) (q_Q (some (.int r)) (q_O D A ((a_x, .inr (10, [.ref a_at, .ref a_g, .ref a_st, .ref a_x_kept, .int x_keptStates, .ref a_tp, .ref a_rd, .ref a_qu, .ref a_sp, .ref a_wk, .ref a_bx, .ref a_nt, .ref a_nu, .ref a_x_seen])) :: (a_sp, .inr (6, [.ref a_g, .ref a_sp_first, .ref a_sp_many, .ref a_sp_corner, .int sp_cornerCount, .int o1, .int o2, .int o3, .int o4, .int o5, .int o6])) :: (a_bx, .inr (1, [.ref a_g, .int o7, .int o8, .int o9, .int o10])) :: (a_g, .inr (2, [.ref a_g_rowCuts, .ref a_g_columnCuts, .ref a_g_bandRows, .ref a_g_zoneColumns, .ref a_g_rows, .ref a_g_sheets])) :: (a_g_bandRows, .inl (ci 0, 5, .inl g_bandRows)) :: (a_g_zoneColumns, .inl (ci 0, 5, .inl g_zoneColumns)) :: (a_g_rows, .inl (ci 0, 5, .inl g_rows)) :: (a_g_sheets, .inl (ci 0, 5, .inl g_sheets)) :: Rw)) A) 0 0 A := by
  refine q_ofW (cc := cX10_between) (maxL := 7) (ret := (some .int)) [.ref a_x, .int p1, .int p2, .int p3] (plainFor_of_name (by decide)) rfl (Nat.le_of_ble_eq_true rfl) ?_
  intro p e s m below meth c ls Q hQ hx hb hml hr hts hown hlocks hK hA hZ hP hD hS hl
  have hl : lv_has ls 7 [(0, .ref a_x), (1, .int p1), (2, .int p2), (3, .int p3)] := hl
  have hown : s.vm.findClass RX10 = some m.cls := hown
  have hinX10 : ∀ w ∈ wsX100, w ∈ wsX10_between := fun _ h => List.mem_cons_of_mem _ (inWX100 _ h)
  have w_1 := hts (Cond.fieldLink RX10 66 "SheetNames" "spot" "LSheetNames$Spot;") (List.mem_cons_of_mem _ t_w877)
  have w_2 := hts (Cond.fieldLink RX10 80 "SheetNames" "area" "LSheetNames$Box;") (List.mem_cons_of_mem _ t_w878)
  have w_3 := hts (Cond.methodLink RX10 310 Lib.Math.min.name) (List.mem_cons_of_mem _ t_w879)
  have w_4 := hts (Cond.static Lib.Math.min.name) (List.mem_cons_of_mem _ t_w810)
  have w_5 := hts (Cond.initialized "java/lang/Math") (List.mem_cons_of_mem _ t_w76)
  have w_6 := hts (Cond.code Lib.Math.min.name Lib.Math.min.code 2 (some .int)) (List.mem_cons_of_mem _ t_w811)
  have w_7 := hts (Cond.methodLink RX10 313 Lib.Math.max.name) (List.mem_cons_of_mem _ t_w880)
  have w_8 := hts (Cond.static Lib.Math.max.name) (List.mem_cons_of_mem _ t_w813)
  have w_9 := hts (Cond.code Lib.Math.max.name Lib.Math.max.code 2 (some .int)) (List.mem_cons_of_mem _ t_w814)
  unfold f_X_between at hf
  have hgo : ∀ (H : Heap) (locs : List Loc), H = s.heap → va_P D vwCl ((a_x, .inr (10, [.ref a_at, .ref a_g, .ref a_st, .ref a_x_kept, .int x_keptStates, .ref a_tp, .ref a_rd, .ref a_qu, .ref a_sp, .ref a_wk, .ref a_bx, .ref a_nt, .ref a_nu, .ref a_x_seen])) :: (a_sp, .inr (6, [.ref a_g, .ref a_sp_first, .ref a_sp_many, .ref a_sp_corner, .int sp_cornerCount, .int sp_level, .int sp_row, .int sp_start, .int sp_place, .int sp_length, .int sp_cap])) :: (a_bx, .inr (1, [.ref a_g, .int bx_south, .int bx_north, .int bx_west, .int bx_east])) :: (a_g, .inr (2, [.ref a_g_rowCuts, .ref a_g_columnCuts, .ref a_g_bandRows, .ref a_g_zoneColumns, .ref a_g_rows, .ref a_g_sheets])) :: (a_g_bandRows, .inl (ci 0, 5, .inl g_bandRows)) :: (a_g_zoneColumns, .inl (ci 0, 5, .inl g_zoneColumns)) :: (a_g_rows, .inl (ci 0, 5, .inl g_rows)) :: (a_g_sheets, .inl (ci 0, 5, .inl g_sheets)) :: Rw) H → va_S A s.heap H locs → W p l e ({ frames := 5, cells := 0, slots := 0, locals := 118 } : Room) s m ([.ref a_x, .int p1, .int p2, .int p3] : List Value).toArray below meth c H locs 0 0 Q (F0 m 0 ls []) := by
    intro H locs hH hP hS
    refine lv_aload_n (pc := 0) hx hb dX10_between_0 rfl (lv_at hl 0 rfl) ?_
    refine lv_iload_n (pc := 1) hx hb dX10_between_1 rfl (lv_at hl 1 rfl) ?_
    refine lv_iload_n (pc := 2) hx hb dX10_between_2 rfl (lv_at hl 2 rfl) ?_
    refine lv_iload_n (pc := 3) hx hb dX10_between_3 rfl (lv_at hl 3 rfl) ?_
    obtain ⟨v1, hm4, hf⟩ := q_b1_e hf
    refine q_cVr (pc := 4) (As := [.int p1, .int p2, .int p3]) (rest := []) (v0 := (some (.int v1))) ⟨hx, hb, hml, hown, hts⟩ hK hA hZ hP hD hS hl.1 [0, 3, 7] 8 rfl ⟨rfl, rfl, rfl⟩ (c_X_areSheets l D ci A sa N (Rw) a_x a_at a_g a_st a_x_kept a_tp a_rd a_qu a_sp a_wk a_bx a_nt a_nu a_x_seen a_g_rowCuts a_g_columnCuts a_g_bandRows a_g_zoneColumns a_g_rows a_g_sheets x_keptStates g_sheets p1 p2 p3 v1 hm4) 0 rfl rfl (cwV 3 hts gX10_between_X10_areSheets rfl rfl rfl (by decide +kernel) ⟨Nat.le_of_ble_eq_true rfl, Nat.le_of_ble_eq_true rfl⟩) rfl rfl (Nat.le_of_ble_eq_true rfl) dX10_between_4 ⟨Nat.zero_le _, Nat.zero_le _⟩ (fun locs hS => ?_)
    refine q_if_ne (pc := 7) (tgt := 12) hx hb dX10_between_7 (by decide) rfl hf (fun hf => ?_) (fun hf => ?_)
    · refine lv_aload_n (pc := 12) hx hb dX10_between_12 rfl (lv_at hl 0 rfl) ?_
      refine va_get (pc := 13) (D := D) (ci := 10) (v := .ref a_sp) (C := RX10) (T := TX10) (N := 14) hx hb hts hinX10 hown hK hP 0 rfl rfl 8 (by decide) w_1 (fun _ h9 => h9) rfl dX10_between_13 ?_
      refine lv_iload_n (pc := 16) hx hb dX10_between_16 rfl (lv_at hl 1 rfl) ?_
      refine lv_iload_n (pc := 17) hx hb dX10_between_17 rfl (lv_at hl 2 rfl) ?_
      obtain ⟨v2, v3, v4, v5, v6, v7, hm18, hf⟩ := q_b6_e hf
      refine q_cV (pc := 18) (As := [.int p1, .int p2]) (rest := []) (v0 := none) ⟨hx, hb, hml, hown, hts⟩ hK hA hZ hP hD hS hl.1 [1, 3, 4, 5, 6, 7, 0, 2] 8 rfl ⟨rfl, rfl, rfl⟩ (c_Spot_put l D ci A sa N ((a_x, .inr (10, [.ref a_at, .ref a_g, .ref a_st, .ref a_x_kept, .int x_keptStates, .ref a_tp, .ref a_rd, .ref a_qu, .ref a_sp, .ref a_wk, .ref a_bx, .ref a_nt, .ref a_nu, .ref a_x_seen])) :: (a_bx, .inr (1, [.ref a_g, .int bx_south, .int bx_north, .int bx_west, .int bx_east])) :: Rw) a_sp a_g a_sp_first a_sp_many a_sp_corner a_g_rowCuts a_g_columnCuts a_g_bandRows a_g_zoneColumns a_g_rows a_g_sheets sp_cornerCount sp_level sp_row sp_start sp_place sp_length sp_cap g_bandRows g_zoneColumns g_rows g_sheets p1 p2 v2 v3 v4 v5 v6 v7 hm18) 1 rfl rfl (cwV 2 hts gX10_between_X6_put rfl rfl rfl (by decide +kernel) ⟨Nat.le_of_ble_eq_true rfl, Nat.le_of_ble_eq_true rfl⟩) rfl rfl (Nat.le_of_ble_eq_true rfl) dX10_between_18 ⟨Nat.zero_le _, Nat.zero_le _⟩ [6, 0, 7, 1, 2, 3, 4, 5] 8 rfl ⟨rfl, rfl, rfl⟩ (fun H locs hP hD hS => ?_)
      obtain ⟨hP, hD⟩ : va_PD D A ((a_x, .inr (10, [.ref a_at, .ref a_g, .ref a_st, .ref a_x_kept, .int x_keptStates, .ref a_tp, .ref a_rd, .ref a_qu, .ref a_sp, .ref a_wk, .ref a_bx, .ref a_nt, .ref a_nu, .ref a_x_seen])) :: (a_sp, .inr (6, [.ref a_g, .ref a_sp_first, .ref a_sp_many, .ref a_sp_corner, .int sp_cornerCount, .int v2, .int v3, .int v4, .int v5, .int v6, .int v7])) :: (a_bx, .inr (1, [.ref a_g, .int bx_south, .int bx_north, .int bx_west, .int bx_east])) :: (a_g, .inr (2, [.ref a_g_rowCuts, .ref a_g_columnCuts, .ref a_g_bandRows, .ref a_g_zoneColumns, .ref a_g_rows, .ref a_g_sheets])) :: (a_g_bandRows, .inl (ci 0, 5, .inl g_bandRows)) :: (a_g_zoneColumns, .inl (ci 0, 5, .inl g_zoneColumns)) :: (a_g_rows, .inl (ci 0, 5, .inl g_rows)) :: (a_g_sheets, .inl (ci 0, 5, .inl g_sheets)) :: Rw) H := ⟨hP, hD⟩
      refine lv_aload_n (pc := 21) hx hb dX10_between_21 rfl (lv_at hl 0 rfl) ?_
      refine va_get (pc := 22) (D := D) (ci := 10) (v := .ref a_sp) (C := RX10) (T := TX10) (N := 14) hx hb hts hinX10 hown hK hP 0 rfl rfl 8 (by decide) w_1 (fun _ h9 => h9) rfl dX10_between_22 ?_
      obtain ⟨v8, hm25, hf⟩ := q_b1_e hf
      refine q_cVr (pc := 25) (As := []) (rest := []) (v0 := (some (.int v8))) ⟨hx, hb, hml, hown, hts⟩ hK hA hZ hP hD hS hl.1 [1, 3, 4] 8 rfl ⟨rfl, rfl, rfl⟩ (c_Spot_middleLat l D ci A sa N (Rw) a_sp a_g a_sp_first a_sp_many a_sp_corner a_g_rowCuts a_g_columnCuts a_g_bandRows a_g_zoneColumns a_g_rows a_g_sheets sp_cornerCount v2 v3 v4 v5 v6 v7 g_bandRows v8 hm25) 1 rfl rfl (cwV 0 hts gX10_between_X6_middleLat rfl rfl rfl (by decide +kernel) ⟨Nat.le_of_ble_eq_true rfl, Nat.le_of_ble_eq_true rfl⟩) rfl rfl (Nat.le_of_ble_eq_true rfl) dX10_between_25 ⟨Nat.zero_le _, Nat.zero_le _⟩ (fun locs hS => ?_)
      refine lv_istore (pc := 28) (lv' := [(4, .int v8), (0, .ref a_x), (1, .int p1), (2, .int p2), (3, .int p3)]) hx hb dX10_between_28 hl (by decide) rfl (fun ls hl => ?_)
      refine lv_aload_n (pc := 30) hx hb dX10_between_30 rfl (lv_at hl 1 rfl) ?_
      refine va_get (pc := 31) (D := D) (ci := 10) (v := .ref a_sp) (C := RX10) (T := TX10) (N := 14) hx hb hts hinX10 hown hK hP 0 rfl rfl 8 (by decide) w_1 (fun _ h9 => h9) rfl dX10_between_31 ?_
      obtain ⟨v9, hm34, hf⟩ := q_b1_e hf
      refine q_cVr (pc := 34) (As := []) (rest := []) (v0 := (some (.int v9))) ⟨hx, hb, hml, hown, hts⟩ hK hA hZ hP hD hS hl.1 [1, 3, 4] 8 rfl ⟨rfl, rfl, rfl⟩ (c_Spot_middleLon l D ci A sa N (Rw) a_sp a_g a_sp_first a_sp_many a_sp_corner a_g_rowCuts a_g_columnCuts a_g_bandRows a_g_zoneColumns a_g_rows a_g_sheets sp_cornerCount v2 v3 v4 v5 v6 v7 g_bandRows v9 hm34) 1 rfl rfl (cwV 0 hts gX10_between_X6_middleLon rfl rfl rfl (by decide +kernel) ⟨Nat.le_of_ble_eq_true rfl, Nat.le_of_ble_eq_true rfl⟩) rfl rfl (Nat.le_of_ble_eq_true rfl) dX10_between_34 ⟨Nat.zero_le _, Nat.zero_le _⟩ (fun locs hS => ?_)
      refine lv_istore (pc := 37) (lv' := [(5, .int v9), (4, .int v8), (0, .ref a_x), (1, .int p1), (2, .int p2), (3, .int p3)]) hx hb dX10_between_37 hl (by decide) rfl (fun ls hl => ?_)
      refine lv_aload_n (pc := 39) hx hb dX10_between_39 rfl (lv_at hl 2 rfl) ?_
      refine va_get (pc := 40) (D := D) (ci := 10) (v := .ref a_sp) (C := RX10) (T := TX10) (N := 14) hx hb hts hinX10 hown hK hP 0 rfl rfl 8 (by decide) w_1 (fun _ h9 => h9) rfl dX10_between_40 ?_
      refine lv_iload_n (pc := 43) hx hb dX10_between_43 rfl (lv_at hl 3 rfl) ?_
      refine lv_iload_n (pc := 44) hx hb dX10_between_44 rfl (lv_at hl 5 rfl) ?_
      obtain ⟨v10, v11, v12, v13, v14, v15, hm45, hf⟩ := q_b6_e hf
      refine q_cV (pc := 45) (As := [.int p1, .int p3]) (rest := []) (v0 := none) ⟨hx, hb, hml, hown, hts⟩ hK hA hZ hP hD hS hl.1 [1, 3, 4, 5, 6, 7, 0, 2] 8 rfl ⟨rfl, rfl, rfl⟩ (c_Spot_put l D ci A sa N ((a_x, .inr (10, [.ref a_at, .ref a_g, .ref a_st, .ref a_x_kept, .int x_keptStates, .ref a_tp, .ref a_rd, .ref a_qu, .ref a_sp, .ref a_wk, .ref a_bx, .ref a_nt, .ref a_nu, .ref a_x_seen])) :: (a_bx, .inr (1, [.ref a_g, .int bx_south, .int bx_north, .int bx_west, .int bx_east])) :: Rw) a_sp a_g a_sp_first a_sp_many a_sp_corner a_g_rowCuts a_g_columnCuts a_g_bandRows a_g_zoneColumns a_g_rows a_g_sheets sp_cornerCount v2 v3 v4 v5 v6 v7 g_bandRows g_zoneColumns g_rows g_sheets p1 p3 v10 v11 v12 v13 v14 v15 hm45) 1 rfl rfl (cwV 2 hts gX10_between_X6_put rfl rfl rfl (by decide +kernel) ⟨Nat.le_of_ble_eq_true rfl, Nat.le_of_ble_eq_true rfl⟩) rfl rfl (Nat.le_of_ble_eq_true rfl) dX10_between_45 ⟨Nat.zero_le _, Nat.zero_le _⟩ [6, 0, 7, 1, 2, 3, 4, 5] 8 rfl ⟨rfl, rfl, rfl⟩ (fun H locs hP hD hS => ?_)
      obtain ⟨hP, hD⟩ : va_PD D A ((a_x, .inr (10, [.ref a_at, .ref a_g, .ref a_st, .ref a_x_kept, .int x_keptStates, .ref a_tp, .ref a_rd, .ref a_qu, .ref a_sp, .ref a_wk, .ref a_bx, .ref a_nt, .ref a_nu, .ref a_x_seen])) :: (a_sp, .inr (6, [.ref a_g, .ref a_sp_first, .ref a_sp_many, .ref a_sp_corner, .int sp_cornerCount, .int v10, .int v11, .int v12, .int v13, .int v14, .int v15])) :: (a_bx, .inr (1, [.ref a_g, .int bx_south, .int bx_north, .int bx_west, .int bx_east])) :: (a_g, .inr (2, [.ref a_g_rowCuts, .ref a_g_columnCuts, .ref a_g_bandRows, .ref a_g_zoneColumns, .ref a_g_rows, .ref a_g_sheets])) :: (a_g_bandRows, .inl (ci 0, 5, .inl g_bandRows)) :: (a_g_zoneColumns, .inl (ci 0, 5, .inl g_zoneColumns)) :: (a_g_rows, .inl (ci 0, 5, .inl g_rows)) :: (a_g_sheets, .inl (ci 0, 5, .inl g_sheets)) :: Rw) H := ⟨hP, hD⟩
      refine lv_aload_n (pc := 48) hx hb dX10_between_48 rfl (lv_at hl 2 rfl) ?_
      refine va_get (pc := 49) (D := D) (ci := 10) (v := .ref a_sp) (C := RX10) (T := TX10) (N := 14) hx hb hts hinX10 hown hK hP 0 rfl rfl 8 (by decide) w_1 (fun _ h9 => h9) rfl dX10_between_49 ?_
      obtain ⟨v16, hm52, hf⟩ := q_b1_e hf
      refine q_cVr (pc := 52) (As := []) (rest := []) (v0 := (some (.int v16))) ⟨hx, hb, hml, hown, hts⟩ hK hA hZ hP hD hS hl.1 [1, 3, 4] 8 rfl ⟨rfl, rfl, rfl⟩ (c_Spot_middleLat l D ci A sa N (Rw) a_sp a_g a_sp_first a_sp_many a_sp_corner a_g_rowCuts a_g_columnCuts a_g_bandRows a_g_zoneColumns a_g_rows a_g_sheets sp_cornerCount v10 v11 v12 v13 v14 v15 g_bandRows v16 hm52) 1 rfl rfl (cwV 0 hts gX10_between_X6_middleLat rfl rfl rfl (by decide +kernel) ⟨Nat.le_of_ble_eq_true rfl, Nat.le_of_ble_eq_true rfl⟩) rfl rfl (Nat.le_of_ble_eq_true rfl) dX10_between_52 ⟨Nat.zero_le _, Nat.zero_le _⟩ (fun locs hS => ?_)
      refine lv_istore (pc := 55) (lv' := [(6, .int v16), (5, .int v9), (4, .int v8), (0, .ref a_x), (1, .int p1), (2, .int p2), (3, .int p3)]) hx hb dX10_between_55 hl (by decide) rfl (fun ls hl => ?_)
      refine lv_aload_n (pc := 57) hx hb dX10_between_57 rfl (lv_at hl 3 rfl) ?_
      refine va_get (pc := 58) (D := D) (ci := 10) (v := .ref a_bx) (C := RX10) (T := TX10) (N := 14) hx hb hts hinX10 hown hK hP 0 rfl rfl 10 (by decide) w_2 (fun _ h9 => h9) rfl dX10_between_58 ?_
      refine lv_iload (pc := 61) hx hb dX10_between_61 (lv_at hl 2 rfl) ?_
      refine lv_iload (pc := 63) hx hb dX10_between_63 (lv_at hl 0 rfl) ?_
      obtain ⟨v17, ev17, hf⟩ := q_nm_e hf
      refine va_mmin (pc := 65) hx hb (hml.trans hl.1.symm) hown w_3 w_4 w_5 w_6 (Nat.le_of_ble_eq_true rfl) (Nat.le_of_ble_eq_true rfl) (Nat.zero_le _) (Nat.zero_le _) dX10_between_65 ?_
      refine q_topi ev17 ?_
      refine lv_iload (pc := 68) hx hb dX10_between_68 (lv_at hl 2 rfl) ?_
      refine lv_iload (pc := 70) hx hb dX10_between_70 (lv_at hl 0 rfl) ?_
      obtain ⟨v18, ev18, hf⟩ := q_nm_e hf
      refine va_mmax (pc := 72) hx hb (hml.trans hl.1.symm) hown w_7 w_8 w_5 w_9 (Nat.le_of_ble_eq_true rfl) (Nat.le_of_ble_eq_true rfl) (Nat.zero_le _) (Nat.zero_le _) dX10_between_72 ?_
      refine q_topi ev18 ?_
      refine lv_iload (pc := 75) hx hb dX10_between_75 (lv_at hl 1 rfl) ?_
      refine lv_aload_n (pc := 77) hx hb dX10_between_77 rfl (lv_at hl 3 rfl) ?_
      refine va_get (pc := 78) (D := D) (ci := 10) (v := .ref a_sp) (C := RX10) (T := TX10) (N := 14) hx hb hts hinX10 hown hK hP 0 rfl rfl 8 (by decide) w_1 (fun _ h9 => h9) rfl dX10_between_78 ?_
      obtain ⟨v19, hm81, hf⟩ := q_b1_e hf
      refine q_cVr (pc := 81) (As := []) (rest := [.int v9, .int v18, .int v17, .ref a_bx]) (v0 := (some (.int v19))) ⟨hx, hb, hml, hown, hts⟩ hK hA hZ hP hD hS hl.1 [1, 3, 4] 8 rfl ⟨rfl, rfl, rfl⟩ (c_Spot_middleLon l D ci A sa N (Rw) a_sp a_g a_sp_first a_sp_many a_sp_corner a_g_rowCuts a_g_columnCuts a_g_bandRows a_g_zoneColumns a_g_rows a_g_sheets sp_cornerCount v10 v11 v12 v13 v14 v15 g_bandRows v19 hm81) 1 rfl rfl (cwV 0 hts gX10_between_X6_middleLon rfl rfl rfl (by decide +kernel) ⟨Nat.le_of_ble_eq_true rfl, Nat.le_of_ble_eq_true rfl⟩) rfl rfl (Nat.le_of_ble_eq_true rfl) dX10_between_81 ⟨Nat.zero_le _, Nat.zero_le _⟩ (fun locs hS => ?_)
      obtain ⟨v20, v21, v22, v23, hm84, hf⟩ := q_b4_e hf
      refine q_cV (pc := 84) (As := [.int v17, .int v18, .int v9, .int v19]) (rest := []) (v0 := none) ⟨hx, hb, hml, hown, hts⟩ hK hA hZ hP hD hS hl.1 [2, 0, 1, 3, 4, 5, 6, 7] 8 rfl ⟨rfl, rfl, rfl⟩ (c_Box_set l D ci A sa N ((a_x, .inr (10, [.ref a_at, .ref a_g, .ref a_st, .ref a_x_kept, .int x_keptStates, .ref a_tp, .ref a_rd, .ref a_qu, .ref a_sp, .ref a_wk, .ref a_bx, .ref a_nt, .ref a_nu, .ref a_x_seen])) :: (a_sp, .inr (6, [.ref a_g, .ref a_sp_first, .ref a_sp_many, .ref a_sp_corner, .int sp_cornerCount, .int v10, .int v11, .int v12, .int v13, .int v14, .int v15])) :: (a_g, .inr (2, [.ref a_g_rowCuts, .ref a_g_columnCuts, .ref a_g_bandRows, .ref a_g_zoneColumns, .ref a_g_rows, .ref a_g_sheets])) :: (a_g_bandRows, .inl (ci 0, 5, .inl g_bandRows)) :: (a_g_zoneColumns, .inl (ci 0, 5, .inl g_zoneColumns)) :: (a_g_rows, .inl (ci 0, 5, .inl g_rows)) :: (a_g_sheets, .inl (ci 0, 5, .inl g_sheets)) :: Rw) a_bx a_g bx_south bx_north bx_west bx_east v17 v18 v9 v19 v20 v21 v22 v23 hm84) 2 rfl rfl (cwV 4 hts gX10_between_X1_set rfl rfl rfl (by decide +kernel) ⟨Nat.le_of_ble_eq_true rfl, Nat.le_of_ble_eq_true rfl⟩) rfl rfl (Nat.le_of_ble_eq_true rfl) dX10_between_84 ⟨Nat.zero_le _, Nat.zero_le _⟩ [1, 2, 0, 3, 4, 5, 6, 7] 8 rfl ⟨rfl, rfl, rfl⟩ (fun H locs hP hD hS => ?_)
      obtain ⟨hP, hD⟩ : va_PD D A ((a_x, .inr (10, [.ref a_at, .ref a_g, .ref a_st, .ref a_x_kept, .int x_keptStates, .ref a_tp, .ref a_rd, .ref a_qu, .ref a_sp, .ref a_wk, .ref a_bx, .ref a_nt, .ref a_nu, .ref a_x_seen])) :: (a_sp, .inr (6, [.ref a_g, .ref a_sp_first, .ref a_sp_many, .ref a_sp_corner, .int sp_cornerCount, .int v10, .int v11, .int v12, .int v13, .int v14, .int v15])) :: (a_bx, .inr (1, [.ref a_g, .int v20, .int v21, .int v22, .int v23])) :: (a_g, .inr (2, [.ref a_g_rowCuts, .ref a_g_columnCuts, .ref a_g_bandRows, .ref a_g_zoneColumns, .ref a_g_rows, .ref a_g_sheets])) :: (a_g_bandRows, .inl (ci 0, 5, .inl g_bandRows)) :: (a_g_zoneColumns, .inl (ci 0, 5, .inl g_zoneColumns)) :: (a_g_rows, .inl (ci 0, 5, .inl g_rows)) :: (a_g_sheets, .inl (ci 0, 5, .inl g_sheets)) :: Rw) H := ⟨hP, hD⟩
      refine lv_aload_n (pc := 87) hx hb dX10_between_87 rfl (lv_at hl 3 rfl) ?_
      refine va_get (pc := 88) (D := D) (ci := 10) (v := .ref a_bx) (C := RX10) (T := TX10) (N := 14) hx hb hts hinX10 hown hK hP 0 rfl rfl 10 (by decide) w_2 (fun _ h9 => h9) rfl dX10_between_88 ?_
      refine lv_iload_n (pc := 91) hx hb dX10_between_91 rfl (lv_at hl 4 rfl) ?_
      obtain ⟨v24, hm92, hf⟩ := q_b1_e hf
      refine q_cVr (pc := 92) (As := [.int p1]) (rest := []) (v0 := (some (.int v24))) ⟨hx, hb, hml, hown, hts⟩ hK hA hZ hP hD hS hl.1 [2, 3, 4, 5, 6] 8 rfl ⟨rfl, rfl, rfl⟩ (c_Box_sheetsAt l D ci A sa N (Rw) a_bx a_g a_g_rowCuts a_g_columnCuts a_g_bandRows a_g_zoneColumns a_g_rows a_g_sheets v20 v21 v22 v23 g_bandRows g_zoneColumns g_rows p1 v24 hm92) 2 rfl rfl (cwV 1 hts gX10_between_X1_sheetsAt rfl rfl rfl (by decide +kernel) ⟨Nat.le_of_ble_eq_true rfl, Nat.le_of_ble_eq_true rfl⟩) rfl rfl (Nat.le_of_ble_eq_true rfl) dX10_between_92 ⟨Nat.zero_le _, Nat.zero_le _⟩ (fun locs hS => ?_)
      obtain ⟨e90, e91, e92, e93, e94, e95, e96, e97, e98, e99, e910⟩ := q_inj11 (Option.some.inj hf)
      rw [hQ, ← e90, ← e91, ← e92, ← e93, ← e94, ← e95, ← e96, ← e97, ← e98, ← e99, ← e910]
      exact q_iret (pc := 95) hx hb hr hlocks hP hD hS dX10_between_95
    · refine lv_iconst (pc := 10) (v := (-1)) hx hb dX10_between_10 (by decide) ?_
      obtain ⟨e90, e91, e92, e93, e94, e95, e96, e97, e98, e99, e910⟩ := q_inj11 (Option.some.inj hf)
      rw [hQ, ← e90, ← e91, ← e92, ← e93, ← e94, ← e95, ← e96, ← e97, ← e98, ← e99, ← e910]
      exact q_iret (pc := 11) hx hb hr hlocks hP hD hS dX10_between_11
  exact hgo _ _ rfl hP hS
/-! X10_steps -/
set_option maxRecDepth 100000 in
set_option maxHeartbeats 4000000 in
theorem c_X_steps (l : Launch) (D : va_G) (ci : Nat → ClassId) (A : Nat → Prop) (sa : Nat → Nat) (N : Nat) (Rw : va_W) (a_x : Nat) (a_at : Nat) (a_g : Nat) (a_st : Nat) (a_x_kept : Nat) (a_tp : Nat) (a_rd : Nat) (a_qu : Nat) (a_sp : Nat) (a_wk : Nat) (a_bx : Nat) (a_nt : Nat) (a_nu : Nat) (a_x_seen : Nat) (a_ws : Nat) (a_wk_steps : Nat) (a_wk_reached : Nat) (n_wk_steps : Nat) (n_wk_reached : Nat) (a_ws_first : Nat) (a_ws_many : Nat) (a_ws_corner : Nat) (a_g_rowCuts : Nat) (a_g_columnCuts : Nat) (a_g_bandRows : Nat) (a_g_zoneColumns : Nat) (a_g_rows : Nat) (a_g_sheets : Nat) (x_keptStates : Int32) (wk_many : Int32) (wk_steps : Nat → Int32) (wk_reached : Nat → Int32) (ws_cornerCount : Int32) (ws_level : Int32) (ws_row : Int32) (ws_start : Int32) (ws_place : Int32) (ws_length : Int32) (ws_cap : Int32) (ws_first : Nat → Int32) (ws_many : Nat → Int32) (g_bandRows : Nat → Int32) (g_zoneColumns : Nat → Int32) (g_rows : Nat → Int32) (g_sheets : Nat → Int32) (p1 : Int32) (p2 : Int32) (p3 : Int32) (r : Int32) (o1 : Nat → Int32) (o2 : Nat → Int32) (o3 : Int32) (o4 : Nat → Int32) (o5 : Nat → Int32) (o6 : Int32) (o7 : Int32) (o8 : Int32) (o9 : Int32) (o10 : Int32) (o11 : Int32) (hf : f_X_steps N n_wk_steps n_wk_reached wk_steps wk_reached wk_many ws_first ws_many ws_level ws_row ws_start ws_place ws_length ws_cap g_bandRows g_zoneColumns g_rows g_sheets p1 p2 p3 = some (r, o1, o2, o3, o4, o5, o6, o7, o8, o9, o10, o11)) : Met l yX10_steps wsX10_steps ({ frames := 4, cells := 0, slots := 0, locals := 112 }) (va_Pc [.ref a_x, .int p1, .int p2, .int p3] (q_N D ci A sa ((a_x, .inr (10, [.ref a_at, .ref a_g, .ref a_st, .ref a_x_kept, .int x_keptStates, .ref a_tp, .ref a_rd, .ref a_qu, .ref a_sp, .ref a_wk, .ref a_bx, .ref a_nt, .ref a_nu, .ref a_x_seen])) :: (a_wk, .inr (9, [.ref a_ws, .ref a_wk_steps, .ref a_wk_reached, .int wk_many])) :: (a_wk_steps, .inl (ci 0, n_wk_steps, .inl wk_steps)) :: (a_wk_reached, .inl (ci 0, n_wk_reached, .inl wk_reached)) :: (a_ws, .inr (6, [.ref a_g, .ref a_ws_first, .ref a_ws_many, .ref a_ws_corner, .int ws_cornerCount, .int ws_level, .int ws_row, .int ws_start, .int ws_place, .int ws_length, .int ws_cap])) :: (a_ws_first, .inl (ci 0, 4, .inl ws_first)) :: (a_ws_many, .inl (ci 0, 4, .inl ws_many)) :: (a_g, .inr (2, [.ref a_g_rowCuts, .ref a_g_columnCuts, .ref a_g_bandRows, .ref a_g_zoneColumns, .ref a_g_rows, .ref a_g_sheets])) :: (a_g_bandRows, .inl (ci 0, 5, .inl g_bandRows)) :: (a_g_zoneColumns, .inl (ci 0, 5, .inl g_zoneColumns)) :: (a_g_rows, .inl (ci 0, 5, .inl g_rows)) :: (a_g_sheets, .inl (ci 0, 5, .inl g_sheets)) :: Rw))) (q_Q (some (.int r)) (q_O D A ((a_x, .inr (10, [.ref a_at, .ref a_g, .ref a_st, .ref a_x_kept, .int x_keptStates, .ref a_tp, .ref a_rd, .ref a_qu, .ref a_sp, .ref a_wk, .ref a_bx, .ref a_nt, .ref a_nu, .ref a_x_seen])) :: (a_wk, .inr (9, [.ref a_ws, .ref a_wk_steps, .ref a_wk_reached, .int o3])) :: (a_wk_steps, .inl (ci 0, n_wk_steps, .inl o1)) :: (a_wk_reached, .inl (ci 0, n_wk_reached, .inl o2)) :: (a_ws, .inr (6, [.ref a_g, .ref a_ws_first, .ref a_ws_many, .ref a_ws_corner, .int ws_cornerCount, .int o6, .int o7, .int o8, .int o9, .int o10, .int o11])) :: (a_ws_first, .inl (ci 0, 4, .inl o4)) :: (a_ws_many, .inl (ci 0, 4, .inl o5)) :: (a_g, .inr (2, [.ref a_g_rowCuts, .ref a_g_columnCuts, .ref a_g_bandRows, .ref a_g_zoneColumns, .ref a_g_rows, .ref a_g_sheets])) :: (a_g_bandRows, .inl (ci 0, 5, .inl g_bandRows)) :: (a_g_zoneColumns, .inl (ci 0, 5, .inl g_zoneColumns)) :: (a_g_rows, .inl (ci 0, 5, .inl g_rows)) :: (a_g_sheets, .inl (ci 0, 5, .inl g_sheets)) :: Rw)) A) 0 0 A := by
  refine q_ofW (cc := cX10_steps) (maxL := 4) (ret := (some .int)) [.ref a_x, .int p1, .int p2, .int p3] (plainFor_of_name (by decide)) rfl (Nat.le_of_ble_eq_true rfl) ?_
  intro p e s m below meth c ls Q hQ hx hb hml hr hts hown hlocks hK hA hZ hP hD hS hl
  have hl : lv_has ls 4 [(0, .ref a_x), (1, .int p1), (2, .int p2), (3, .int p3)] := hl
  have hown : s.vm.findClass RX10 = some m.cls := hown
  have hinX10 : ∀ w ∈ wsX100, w ∈ wsX10_steps := fun _ h => List.mem_cons_of_mem _ (inWX100 _ h)
  have hinX2 : ∀ w ∈ wsX20, w ∈ wsX10_steps := fun _ h => List.mem_cons_of_mem _ (inWX20 _ h)
  have w_1 := hts (Cond.fieldLink RX10 20 "SheetNames" "grid" "LSheetNames$Grid;") (List.mem_cons_of_mem _ t_w876)
  have w_2 := hts (Cond.fieldLink RX10 73 "SheetNames" "walk" "LSheetNames$Walk;") (List.mem_cons_of_mem _ t_w881)
  have wn_1 : (Cond.fieldLinkNest "SheetNames" 126 "SheetNames$Grid" "sheets" "[I" "SheetNames").before ([.ref a_x, .int p1, .int p2, .int p3] : List Value).toArray s = true := (hZ.2.2.2.2.2.2.2.2.2.1 _ (List.mem_of_getElem? (i := 1) rfl)).use rfl
  unfold f_X_steps at hf
  have hgo : ∀ (H : Heap) (locs : List Loc), H = s.heap → va_P D vwCl ((a_x, .inr (10, [.ref a_at, .ref a_g, .ref a_st, .ref a_x_kept, .int x_keptStates, .ref a_tp, .ref a_rd, .ref a_qu, .ref a_sp, .ref a_wk, .ref a_bx, .ref a_nt, .ref a_nu, .ref a_x_seen])) :: (a_wk, .inr (9, [.ref a_ws, .ref a_wk_steps, .ref a_wk_reached, .int wk_many])) :: (a_wk_steps, .inl (ci 0, n_wk_steps, .inl wk_steps)) :: (a_wk_reached, .inl (ci 0, n_wk_reached, .inl wk_reached)) :: (a_ws, .inr (6, [.ref a_g, .ref a_ws_first, .ref a_ws_many, .ref a_ws_corner, .int ws_cornerCount, .int ws_level, .int ws_row, .int ws_start, .int ws_place, .int ws_length, .int ws_cap])) :: (a_ws_first, .inl (ci 0, 4, .inl ws_first)) :: (a_ws_many, .inl (ci 0, 4, .inl ws_many)) :: (a_g, .inr (2, [.ref a_g_rowCuts, .ref a_g_columnCuts, .ref a_g_bandRows, .ref a_g_zoneColumns, .ref a_g_rows, .ref a_g_sheets])) :: (a_g_bandRows, .inl (ci 0, 5, .inl g_bandRows)) :: (a_g_zoneColumns, .inl (ci 0, 5, .inl g_zoneColumns)) :: (a_g_rows, .inl (ci 0, 5, .inl g_rows)) :: (a_g_sheets, .inl (ci 0, 5, .inl g_sheets)) :: Rw) H → va_S A s.heap H locs → W p l e ({ frames := 4, cells := 0, slots := 0, locals := 112 } : Room) s m ([.ref a_x, .int p1, .int p2, .int p3] : List Value).toArray below meth c H locs 0 0 Q (F0 m 0 ls []) := by
    intro H locs hH hP hS
    refine lv_aload_n (pc := 0) hx hb dX10_steps_0 rfl (lv_at hl 0 rfl) ?_
    refine lv_iload_n (pc := 1) hx hb dX10_steps_1 rfl (lv_at hl 1 rfl) ?_
    refine lv_iload_n (pc := 2) hx hb dX10_steps_2 rfl (lv_at hl 2 rfl) ?_
    refine lv_iload_n (pc := 3) hx hb dX10_steps_3 rfl (lv_at hl 3 rfl) ?_
    obtain ⟨v1, hm4, hf⟩ := q_b1_e hf
    refine q_cVr (pc := 4) (As := [.int p1, .int p2, .int p3]) (rest := []) (v0 := (some (.int v1))) ⟨hx, hb, hml, hown, hts⟩ hK hA hZ hP hD hS hl.1 [0, 7, 11] 12 rfl ⟨rfl, rfl, rfl⟩ (c_X_areSheets l D ci A sa N (Rw) a_x a_at a_g a_st a_x_kept a_tp a_rd a_qu a_sp a_wk a_bx a_nt a_nu a_x_seen a_g_rowCuts a_g_columnCuts a_g_bandRows a_g_zoneColumns a_g_rows a_g_sheets x_keptStates g_sheets p1 p2 p3 v1 hm4) 0 rfl rfl (cwV 3 hts gX10_steps_X10_areSheets rfl rfl rfl (by decide +kernel) ⟨Nat.le_of_ble_eq_true rfl, Nat.le_of_ble_eq_true rfl⟩) rfl rfl (Nat.le_of_ble_eq_true rfl) dX10_steps_4 ⟨Nat.zero_le _, Nat.zero_le _⟩ (fun locs hS => ?_)
    refine q_if_ne (pc := 7) (tgt := 12) hx hb dX10_steps_7 (by decide) rfl hf (fun hf => ?_) (fun hf => ?_)
    · refine lv_aload_n (pc := 12) hx hb dX10_steps_12 rfl (lv_at hl 0 rfl) ?_
      refine va_get (pc := 13) (D := D) (ci := 10) (v := .ref a_g) (C := RX10) (T := TX10) (N := 14) hx hb hts hinX10 hown hK hP 0 rfl rfl 1 (by decide) w_1 (fun _ h9 => h9) rfl dX10_steps_13 ?_
      refine va_getN (pc := 16) (D := D) (ci := 2) (v := .ref a_g_sheets) (C := RX2) (T := TX2) (N := 6) hx hb hts hinX2 hown hK hP 7 rfl rfl 5 (by decide) wn_1 (fun _ h9 => h9) rfl dX10_steps_16 ?_
      refine lv_iload_n (pc := 19) hx hb dX10_steps_19 rfl (lv_at hl 1 rfl) ?_
      refine q_iald (pc := 20) hx hb hK hP 11 0 hf rfl rfl dX10_steps_20 (fun v2 hf => ?_)
      refine lv_sipush (pc := 21) (v := 20000) hx hb dX10_steps_21 (by decide) ?_
      refine q_icmp_le (pc := 24) (tgt := 30) hx hb dX10_steps_24 (by decide) rfl hf (fun hf => ?_) (fun hf => ?_)
      · refine lv_aload_n (pc := 30) hx hb dX10_steps_30 rfl (lv_at hl 0 rfl) ?_
        refine va_get (pc := 31) (D := D) (ci := 10) (v := .ref a_wk) (C := RX10) (T := TX10) (N := 14) hx hb hts hinX10 hown hK hP 0 rfl rfl 9 (by decide) w_2 (fun _ h9 => h9) rfl dX10_steps_31 ?_
        refine lv_iload_n (pc := 34) hx hb dX10_steps_34 rfl (lv_at hl 1 rfl) ?_
        refine lv_iload_n (pc := 35) hx hb dX10_steps_35 rfl (lv_at hl 2 rfl) ?_
        obtain ⟨f3, f4, v5, f6, f7, v8, v9, v10, v11, v12, v13, hm36, hf⟩ := q_b11_e hf
        refine q_cV (pc := 36) (As := [.int p1, .int p2]) (rest := []) (v0 := none) ⟨hx, hb, hml, hown, hts⟩ hK hA hZ hP hD hS hl.1 [1, 2, 3, 4, 5, 6, 7, 8, 9, 10, 11, 0] 12 rfl ⟨rfl, rfl, rfl⟩ (c_Walk_spread l D ci A sa N ((a_x, .inr (10, [.ref a_at, .ref a_g, .ref a_st, .ref a_x_kept, .int x_keptStates, .ref a_tp, .ref a_rd, .ref a_qu, .ref a_sp, .ref a_wk, .ref a_bx, .ref a_nt, .ref a_nu, .ref a_x_seen])) :: Rw) a_wk a_ws a_wk_steps a_wk_reached n_wk_steps n_wk_reached a_g a_ws_first a_ws_many a_ws_corner a_g_rowCuts a_g_columnCuts a_g_bandRows a_g_zoneColumns a_g_rows a_g_sheets wk_many wk_steps wk_reached ws_cornerCount ws_level ws_row ws_start ws_place ws_length ws_cap ws_first ws_many g_bandRows g_zoneColumns g_rows g_sheets p1 p2 f3 f4 v5 f6 f7 v8 v9 v10 v11 v12 v13 hm36) 1 rfl rfl (cwV 2 hts gX10_steps_X9_spread rfl rfl rfl (by decide +kernel) ⟨Nat.le_of_ble_eq_true rfl, Nat.le_of_ble_eq_true rfl⟩) rfl rfl (Nat.le_of_ble_eq_true rfl) dX10_steps_36 ⟨Nat.zero_le _, Nat.zero_le _⟩ [11, 0, 1, 2, 3, 4, 5, 6, 7, 8, 9, 10] 12 rfl ⟨rfl, rfl, rfl⟩ (fun H locs hP hD hS => ?_)
        obtain ⟨hP, hD⟩ : va_PD D A ((a_x, .inr (10, [.ref a_at, .ref a_g, .ref a_st, .ref a_x_kept, .int x_keptStates, .ref a_tp, .ref a_rd, .ref a_qu, .ref a_sp, .ref a_wk, .ref a_bx, .ref a_nt, .ref a_nu, .ref a_x_seen])) :: (a_wk, .inr (9, [.ref a_ws, .ref a_wk_steps, .ref a_wk_reached, .int v5])) :: (a_wk_steps, .inl (ci 0, n_wk_steps, .inl f3)) :: (a_wk_reached, .inl (ci 0, n_wk_reached, .inl f4)) :: (a_ws, .inr (6, [.ref a_g, .ref a_ws_first, .ref a_ws_many, .ref a_ws_corner, .int ws_cornerCount, .int v8, .int v9, .int v10, .int v11, .int v12, .int v13])) :: (a_ws_first, .inl (ci 0, 4, .inl f6)) :: (a_ws_many, .inl (ci 0, 4, .inl f7)) :: (a_g, .inr (2, [.ref a_g_rowCuts, .ref a_g_columnCuts, .ref a_g_bandRows, .ref a_g_zoneColumns, .ref a_g_rows, .ref a_g_sheets])) :: (a_g_bandRows, .inl (ci 0, 5, .inl g_bandRows)) :: (a_g_zoneColumns, .inl (ci 0, 5, .inl g_zoneColumns)) :: (a_g_rows, .inl (ci 0, 5, .inl g_rows)) :: (a_g_sheets, .inl (ci 0, 5, .inl g_sheets)) :: Rw) H := ⟨hP, hD⟩
        refine lv_aload_n (pc := 39) hx hb dX10_steps_39 rfl (lv_at hl 0 rfl) ?_
        refine va_get (pc := 40) (D := D) (ci := 10) (v := .ref a_wk) (C := RX10) (T := TX10) (N := 14) hx hb hts hinX10 hown hK hP 0 rfl rfl 9 (by decide) w_2 (fun _ h9 => h9) rfl dX10_steps_40 ?_
        refine lv_iload_n (pc := 43) hx hb dX10_steps_43 rfl (lv_at hl 3 rfl) ?_
        obtain ⟨v14, hm44, hf⟩ := q_b1_e hf
        refine q_cVr (pc := 44) (As := [.int p3]) (rest := []) (v0 := (some (.int v14))) ⟨hx, hb, hml, hown, hts⟩ hK hA hZ hP hD hS hl.1 [1, 2] 12 rfl ⟨rfl, rfl, rfl⟩ (c_Walk_stepsTo l D ci A sa N (Rw) a_wk a_ws a_wk_steps a_wk_reached n_wk_steps v5 f3 p3 v14 hm44) 1 rfl rfl (cwV 1 hts gX10_steps_X9_stepsTo rfl rfl rfl (by decide +kernel) ⟨Nat.le_of_ble_eq_true rfl, Nat.le_of_ble_eq_true rfl⟩) rfl rfl (Nat.le_of_ble_eq_true rfl) dX10_steps_44 ⟨Nat.zero_le _, Nat.zero_le _⟩ (fun locs hS => ?_)
        obtain ⟨e90, e91, e92, e93, e94, e95, e96, e97, e98, e99, e910, e911⟩ := q_inj12 (Option.some.inj hf)
        rw [hQ, ← e90, ← e91, ← e92, ← e93, ← e94, ← e95, ← e96, ← e97, ← e98, ← e99, ← e910, ← e911]
        exact q_iret (pc := 47) hx hb hr hlocks hP hD hS dX10_steps_47
      · refine lv_bipush (pc := 27) (v := (-3)) hx hb dX10_steps_27 (by decide) ?_
        obtain ⟨e90, e91, e92, e93, e94, e95, e96, e97, e98, e99, e910, e911⟩ := q_inj12 (Option.some.inj hf)
        rw [hQ, ← e90, ← e91, ← e92, ← e93, ← e94, ← e95, ← e96, ← e97, ← e98, ← e99, ← e910, ← e911]
        exact q_iret (pc := 29) hx hb hr hlocks hP hD hS dX10_steps_29
    · refine lv_iconst (pc := 10) (v := (-1)) hx hb dX10_steps_10 (by decide) ?_
      obtain ⟨e90, e91, e92, e93, e94, e95, e96, e97, e98, e99, e910, e911⟩ := q_inj12 (Option.some.inj hf)
      rw [hQ, ← e90, ← e91, ← e92, ← e93, ← e94, ← e95, ← e96, ← e97, ← e98, ← e99, ← e910, ← e911]
      exact q_iret (pc := 11) hx hb hr hlocks hP hD hS dX10_steps_11
  exact hgo _ _ rfl hP hS
/-! X10_isFrom -/
set_option maxRecDepth 100000 in
set_option maxHeartbeats 4000000 in
theorem c_X_isFrom (l : Launch) (D : va_G) (ci : Nat → ClassId) (A : Nat → Prop) (sa : Nat → Nat) (N : Nat) (Rw : va_W) (p1 : Int32) (p2 : Int32) (p3 : Int32) (r : Int32) (hf : f_X_isFrom p1 p2 p3 = some r) : Met l yX10_isFrom wsX10_isFrom ({ frames := 0, cells := 0, slots := 0, locals := 0 }) (va_Pc [.int p1, .int p2, .int p3] (q_N D ci A sa (Rw))) (q_R (some (.int r))) 0 0 A := by
  refine q_ofW (cc := cX10_isFrom) (maxL := 3) (ret := (some .boolean)) [.int p1, .int p2, .int p3] (plainFor_of_name (by decide)) rfl (Nat.le_of_ble_eq_true rfl) ?_
  intro p e s m below meth c ls Q hQ hx hb hml hr hts hown hlocks hK hA hZ hP hD hS hl
  have hl : lv_has ls 3 [(0, .int p1), (1, .int p2), (2, .int p3)] := hl
  have hown : s.vm.findClass RX10 = some m.cls := hown
  unfold f_X_isFrom at hf
  have hgo : ∀ (H : Heap) (locs : List Loc), H = s.heap → va_P D vwCl (Rw) H → va_S A s.heap H locs → W p l e ({ frames := 0, cells := 0, slots := 0, locals := 0 } : Room) s m ([.int p1, .int p2, .int p3] : List Value).toArray below meth c H locs 0 0 Q (F0 m 0 ls []) := by
    intro H locs hH hP hS
    subst hH
    refine lv_iload_n (pc := 0) hx hb dX10_isFrom_0 rfl (lv_at hl 0 rfl) ?_
    refine lv_iload_n (pc := 1) hx hb dX10_isFrom_1 rfl (lv_at hl 1 rfl) ?_
    refine q_icmp_lt (pc := 2) (tgt := 14) hx hb dX10_isFrom_2 (by decide) rfl hf (fun hf => ?_) (fun hf => ?_)
    · refine lv_iconst (pc := 14) (v := 0) hx hb dX10_isFrom_14 (by decide) ?_
      obtain rfl := Option.some.inj hf
      rw [hQ]
      exact q_zretr (pc := 15) hx hb hr rfl hlocks rfl hS dX10_isFrom_15
    · refine lv_iload_n (pc := 5) hx hb dX10_isFrom_5 rfl (lv_at hl 0 rfl) ?_
      refine lv_iload_n (pc := 6) hx hb dX10_isFrom_6 rfl (lv_at hl 2 rfl) ?_
      refine q_icmp_gt (pc := 7) (tgt := 14) hx hb dX10_isFrom_7 (by decide) rfl hf (fun hf => ?_) (fun hf => ?_)
      · refine lv_iconst (pc := 14) (v := 0) hx hb dX10_isFrom_14 (by decide) ?_
        obtain rfl := Option.some.inj hf
        rw [hQ]
        exact q_zretr (pc := 15) hx hb hr rfl hlocks rfl hS dX10_isFrom_15
      · refine lv_iconst (pc := 10) (v := 1) hx hb dX10_isFrom_10 (by decide) ?_
        refine lv_goto (pc := 11) (tgt := 15) hx hb dX10_isFrom_11 (by decide) ?_
        obtain rfl := Option.some.inj hf
        rw [hQ]
        exact q_zretr (pc := 15) hx hb hr rfl hlocks rfl hS dX10_isFrom_15
  exact hgo _ _ rfl hP hS
/-! X10_neighbour -/
set_option maxRecDepth 100000 in
set_option maxHeartbeats 4000000 in
theorem c_X_neighbour (l : Launch) (D : va_G) (ci : Nat → ClassId) (A : Nat → Prop) (sa : Nat → Nat) (N : Nat) (Rw : va_W) (a_x : Nat) (a_at : Nat) (a_g : Nat) (a_st : Nat) (a_x_kept : Nat) (a_tp : Nat) (a_rd : Nat) (a_qu : Nat) (a_sp : Nat) (a_wk : Nat) (a_bx : Nat) (a_nt : Nat) (a_nu : Nat) (a_x_seen : Nat) (a_sp_first : Nat) (a_sp_many : Nat) (a_sp_corner : Nat) (a_g_rowCuts : Nat) (a_g_columnCuts : Nat) (a_g_bandRows : Nat) (a_g_zoneColumns : Nat) (a_g_rows : Nat) (a_g_sheets : Nat) (x_keptStates : Int32) (sp_cornerCount : Int32) (sp_level : Int32) (sp_row : Int32) (sp_start : Int32) (sp_place : Int32) (sp_length : Int32) (sp_cap : Int32) (sp_first : Nat → Int32) (sp_many : Nat → Int32) (g_bandRows : Nat → Int32) (g_zoneColumns : Nat → Int32) (g_rows : Nat → Int32) (g_sheets : Nat → Int32) (p1 : Int32) (p2 : Int32) (p3 : Int32) (p4 : Int32) (r : Int32) (o1 : Nat → Int32) (o2 : Nat → Int32) (o3 : Int32) (o4 : Int32) (o5 : Int32) (o6 : Int32) (o7 : Int32) (o8 : Int32) (hf : f_X_neighbour N sp_first sp_many sp_level sp_row sp_start sp_place sp_length sp_cap g_bandRows g_zoneColumns g_rows g_sheets p1 p2 p3 p4 = some (r, o1, o2, o3, o4, o5, o6, o7, o8)) : Met l yX10_neighbour wsX10_neighbour ({ frames := 3, cells := 0, slots := 0, locals := 71 }) (va_Pc [.ref a_x, .int p1, .int p2, .int p3, .int p4] (q_N D ci A sa ((a_x, .inr (10, [.ref a_at, .ref a_g, .ref a_st, .ref a_x_kept, .int x_keptStates, .ref a_tp, .ref a_rd, .ref a_qu, .ref a_sp, .ref a_wk, .ref a_bx, .ref a_nt, .ref a_nu, .ref a_x_seen])) :: (a_sp, .inr (6, [.ref a_g, .ref a_sp_first, .ref a_sp_many, .ref a_sp_corner, .int sp_cornerCount, .int sp_level, .int sp_row, .int sp_start, .int sp_place, .int sp_length, .int sp_cap])) :: (a_sp_first, .inl (ci 0, 4, .inl sp_first)) :: (a_sp_many, .inl (ci 0, 4, .inl sp_many)) :: (a_g, .inr (2, [.ref a_g_rowCuts, .ref a_g_columnCuts, .ref a_g_bandRows, .ref a_g_zoneColumns, .ref a_g_rows, .ref a_g_sheets])) :: (a_g_bandRows, .inl (ci 0, 5, .inl g_bandRows)) :: (a_g_zoneColumns, .inl (ci 0, 5, .inl g_zoneColumns)) :: (a_g_rows, .inl (ci 0, 5, .inl g_rows)) :: (a_g_sheets, .inl (ci 0, 5, .inl g_sheets)) :: Rw))) (q_Q (some (.int r)) (q_O D A ((a_x, .inr (10, [.ref a_at, .ref a_g, .ref a_st, .ref a_x_kept, .int x_keptStates, .ref a_tp, .ref a_rd, .ref a_qu, .ref a_sp, .ref a_wk, .ref a_bx, .ref a_nt, .ref a_nu, .ref a_x_seen])) :: (a_sp, .inr (6, [.ref a_g, .ref a_sp_first, .ref a_sp_many, .ref a_sp_corner, .int sp_cornerCount, .int o3, .int o4, .int o5, .int o6, .int o7, .int o8])) :: (a_sp_first, .inl (ci 0, 4, .inl o1)) :: (a_sp_many, .inl (ci 0, 4, .inl o2)) :: (a_g, .inr (2, [.ref a_g_rowCuts, .ref a_g_columnCuts, .ref a_g_bandRows, .ref a_g_zoneColumns, .ref a_g_rows, .ref a_g_sheets])) :: (a_g_bandRows, .inl (ci 0, 5, .inl g_bandRows)) :: (a_g_zoneColumns, .inl (ci 0, 5, .inl g_zoneColumns)) :: (a_g_rows, .inl (ci 0, 5, .inl g_rows)) :: (a_g_sheets, .inl (ci 0, 5, .inl g_sheets)) :: Rw)) A) 0 0 A := by
  refine q_ofW (cc := cX10_neighbour) (maxL := 5) (ret := (some .int)) [.ref a_x, .int p1, .int p2, .int p3, .int p4] (plainFor_of_name (by decide)) rfl (Nat.le_of_ble_eq_true rfl) ?_
  intro p e s m below meth c ls Q hQ hx hb hml hr hts hown hlocks hK hA hZ hP hD hS hl
  have hl : lv_has ls 5 [(0, .ref a_x), (1, .int p1), (2, .int p2), (3, .int p3), (4, .int p4)] := hl
  have hown : s.vm.findClass RX10 = some m.cls := hown
  have hinX10 : ∀ w ∈ wsX100, w ∈ wsX10_neighbour := fun _ h => List.mem_cons_of_mem _ (inWX100 _ h)
  have hinX6 : ∀ w ∈ wsX60, w ∈ wsX10_neighbour := fun _ h => List.mem_cons_of_mem _ (inWX60 _ h)
  have w_1 := hts (Cond.fieldLink RX10 20 "SheetNames" "grid" "LSheetNames$Grid;") (List.mem_cons_of_mem _ t_w876)
  have w_2 := hts (Cond.fieldLink RX10 66 "SheetNames" "spot" "LSheetNames$Spot;") (List.mem_cons_of_mem _ t_w877)
  have wn_16 : (Cond.fieldLinkNest "SheetNames" 250 "SheetNames$Spot" "many" "[I" "SheetNames").before ([.ref a_x, .int p1, .int p2, .int p3, .int p4] : List Value).toArray s = true := (hZ.2.2.2.2.2.2.2.2.2.1 _ (List.mem_of_getElem? (i := 16) rfl)).use rfl
  have wn_17 : (Cond.fieldLinkNest "SheetNames" 253 "SheetNames$Spot" "first" "[I" "SheetNames").before ([.ref a_x, .int p1, .int p2, .int p3, .int p4] : List Value).toArray s = true := (hZ.2.2.2.2.2.2.2.2.2.1 _ (List.mem_of_getElem? (i := 17) rfl)).use rfl
  unfold f_X_neighbour at hf
  have hgo : ∀ (H : Heap) (locs : List Loc), H = s.heap → va_P D vwCl ((a_x, .inr (10, [.ref a_at, .ref a_g, .ref a_st, .ref a_x_kept, .int x_keptStates, .ref a_tp, .ref a_rd, .ref a_qu, .ref a_sp, .ref a_wk, .ref a_bx, .ref a_nt, .ref a_nu, .ref a_x_seen])) :: (a_sp, .inr (6, [.ref a_g, .ref a_sp_first, .ref a_sp_many, .ref a_sp_corner, .int sp_cornerCount, .int sp_level, .int sp_row, .int sp_start, .int sp_place, .int sp_length, .int sp_cap])) :: (a_sp_first, .inl (ci 0, 4, .inl sp_first)) :: (a_sp_many, .inl (ci 0, 4, .inl sp_many)) :: (a_g, .inr (2, [.ref a_g_rowCuts, .ref a_g_columnCuts, .ref a_g_bandRows, .ref a_g_zoneColumns, .ref a_g_rows, .ref a_g_sheets])) :: (a_g_bandRows, .inl (ci 0, 5, .inl g_bandRows)) :: (a_g_zoneColumns, .inl (ci 0, 5, .inl g_zoneColumns)) :: (a_g_rows, .inl (ci 0, 5, .inl g_rows)) :: (a_g_sheets, .inl (ci 0, 5, .inl g_sheets)) :: Rw) H → va_S A s.heap H locs → W p l e ({ frames := 3, cells := 0, slots := 0, locals := 71 } : Room) s m ([.ref a_x, .int p1, .int p2, .int p3, .int p4] : List Value).toArray below meth c H locs 0 0 Q (F0 m 0 ls []) := by
    intro H locs hH hP hS
    refine lv_aload_n (pc := 0) hx hb dX10_neighbour_0 rfl (lv_at hl 0 rfl) ?_
    refine va_get (pc := 1) (D := D) (ci := 10) (v := .ref a_g) (C := RX10) (T := TX10) (N := 14) hx hb hts hinX10 hown hK hP 0 rfl rfl 1 (by decide) w_1 (fun _ h9 => h9) rfl dX10_neighbour_1 ?_
    refine lv_iload_n (pc := 4) hx hb dX10_neighbour_4 rfl (lv_at hl 1 rfl) ?_
    refine lv_iload_n (pc := 5) hx hb dX10_neighbour_5 rfl (lv_at hl 2 rfl) ?_
    obtain ⟨v1, hm6, hf⟩ := q_b1_e hf
    refine q_cVr (pc := 6) (As := [.int p1, .int p2]) (rest := []) (v0 := (some (.int v1))) ⟨hx, hb, hml, hown, hts⟩ hK hA hZ hP hD hS hl.1 [4, 8] 9 rfl ⟨rfl, rfl, rfl⟩ (c_Grid_hasSheet l D ci A sa N (Rw) a_g a_g_rowCuts a_g_columnCuts a_g_bandRows a_g_zoneColumns a_g_rows a_g_sheets g_sheets p1 p2 v1 hm6) 4 rfl rfl (cwV 2 hts gX10_neighbour_X2_hasSheet rfl rfl rfl (by decide +kernel) ⟨Nat.le_of_ble_eq_true rfl, Nat.le_of_ble_eq_true rfl⟩) rfl rfl (Nat.le_of_ble_eq_true rfl) dX10_neighbour_6 ⟨Nat.zero_le _, Nat.zero_le _⟩ (fun locs hS => ?_)
    refine q_if_eq (pc := 9) (tgt := 27) hx hb dX10_neighbour_9 (by decide) rfl hf (fun hf => ?_) (fun hf => ?_)
    · refine lv_iconst (pc := 27) (v := (-1)) hx hb dX10_neighbour_27 (by decide) ?_
      obtain ⟨e90, e91, e92, e93, e94, e95, e96, e97, e98⟩ := q_inj9 (Option.some.inj hf)
      rw [hQ, ← e90, ← e91, ← e92, ← e93, ← e94, ← e95, ← e96, ← e97, ← e98]
      exact q_iret (pc := 28) hx hb hr hlocks hP hD hS dX10_neighbour_28
    · refine lv_iload_n (pc := 12) hx hb dX10_neighbour_12 rfl (lv_at hl 3 rfl) ?_
      refine lv_iconst (pc := 13) (v := 0) hx hb dX10_neighbour_13 (by decide) ?_
      refine lv_iconst (pc := 14) (v := 3) hx hb dX10_neighbour_14 (by decide) ?_
      obtain ⟨v2, hm15, hf⟩ := q_b1_e hf
      refine q_cSr (pc := 15) (As := [.int p3, .int 0, .int 3]) (rest := []) (v0 := (some (.int v2))) ⟨hx, hb, hml, hown, hts⟩ hK hA hZ hP hD hS hl.1 [] 9 rfl ⟨rfl, rfl, rfl⟩ (c_X_isFrom l D ci A sa N (Rw) p3 0 3 v2 hm15) (va_cwS 3 hts gX10_neighbour_X10_isFrom rfl rfl rfl (by decide +kernel) ⟨Nat.le_of_ble_eq_true rfl, Nat.le_of_ble_eq_true rfl⟩) rfl rfl (Nat.le_of_ble_eq_true rfl) dX10_neighbour_15 ⟨Nat.zero_le _, Nat.zero_le _⟩ (fun locs hS => ?_)
      refine q_if_eq (pc := 18) (tgt := 27) hx hb dX10_neighbour_18 (by decide) rfl hf (fun hf => ?_) (fun hf => ?_)
      · refine lv_iconst (pc := 27) (v := (-1)) hx hb dX10_neighbour_27 (by decide) ?_
        obtain ⟨e90, e91, e92, e93, e94, e95, e96, e97, e98⟩ := q_inj9 (Option.some.inj hf)
        rw [hQ, ← e90, ← e91, ← e92, ← e93, ← e94, ← e95, ← e96, ← e97, ← e98]
        exact q_iret (pc := 28) hx hb hr hlocks hP hD hS dX10_neighbour_28
      · refine lv_iload (pc := 21) hx hb dX10_neighbour_21 (lv_at hl 4 rfl) ?_
        refine lv_iconst (pc := 23) (v := (-1)) hx hb dX10_neighbour_23 (by decide) ?_
        refine q_icmp_ge (pc := 24) (tgt := 29) hx hb dX10_neighbour_24 (by decide) rfl hf (fun hf => ?_) (fun hf => ?_)
        · refine lv_aload_n (pc := 29) hx hb dX10_neighbour_29 rfl (lv_at hl 0 rfl) ?_
          refine va_get (pc := 30) (D := D) (ci := 10) (v := .ref a_sp) (C := RX10) (T := TX10) (N := 14) hx hb hts hinX10 hown hK hP 0 rfl rfl 8 (by decide) w_2 (fun _ h9 => h9) rfl dX10_neighbour_30 ?_
          refine lv_iload_n (pc := 33) hx hb dX10_neighbour_33 rfl (lv_at hl 1 rfl) ?_
          refine lv_iload_n (pc := 34) hx hb dX10_neighbour_34 rfl (lv_at hl 2 rfl) ?_
          obtain ⟨v3, v4, v5, v6, v7, v8, hm35, hf⟩ := q_b6_e hf
          refine q_cV (pc := 35) (As := [.int p1, .int p2]) (rest := []) (v0 := none) ⟨hx, hb, hml, hown, hts⟩ hK hA hZ hP hD hS hl.1 [1, 4, 5, 6, 7, 8, 0, 2, 3] 9 rfl ⟨rfl, rfl, rfl⟩ (c_Spot_put l D ci A sa N ((a_x, .inr (10, [.ref a_at, .ref a_g, .ref a_st, .ref a_x_kept, .int x_keptStates, .ref a_tp, .ref a_rd, .ref a_qu, .ref a_sp, .ref a_wk, .ref a_bx, .ref a_nt, .ref a_nu, .ref a_x_seen])) :: (a_sp_first, .inl (ci 0, 4, .inl sp_first)) :: (a_sp_many, .inl (ci 0, 4, .inl sp_many)) :: Rw) a_sp a_g a_sp_first a_sp_many a_sp_corner a_g_rowCuts a_g_columnCuts a_g_bandRows a_g_zoneColumns a_g_rows a_g_sheets sp_cornerCount sp_level sp_row sp_start sp_place sp_length sp_cap g_bandRows g_zoneColumns g_rows g_sheets p1 p2 v3 v4 v5 v6 v7 v8 hm35) 1 rfl rfl (cwV 2 hts gX10_neighbour_X6_put rfl rfl rfl (by decide +kernel) ⟨Nat.le_of_ble_eq_true rfl, Nat.le_of_ble_eq_true rfl⟩) rfl rfl (Nat.le_of_ble_eq_true rfl) dX10_neighbour_35 ⟨Nat.zero_le _, Nat.zero_le _⟩ [6, 0, 7, 8, 1, 2, 3, 4, 5] 9 rfl ⟨rfl, rfl, rfl⟩ (fun H locs hP hD hS => ?_)
          obtain ⟨hP, hD⟩ : va_PD D A ((a_x, .inr (10, [.ref a_at, .ref a_g, .ref a_st, .ref a_x_kept, .int x_keptStates, .ref a_tp, .ref a_rd, .ref a_qu, .ref a_sp, .ref a_wk, .ref a_bx, .ref a_nt, .ref a_nu, .ref a_x_seen])) :: (a_sp, .inr (6, [.ref a_g, .ref a_sp_first, .ref a_sp_many, .ref a_sp_corner, .int sp_cornerCount, .int v3, .int v4, .int v5, .int v6, .int v7, .int v8])) :: (a_sp_first, .inl (ci 0, 4, .inl sp_first)) :: (a_sp_many, .inl (ci 0, 4, .inl sp_many)) :: (a_g, .inr (2, [.ref a_g_rowCuts, .ref a_g_columnCuts, .ref a_g_bandRows, .ref a_g_zoneColumns, .ref a_g_rows, .ref a_g_sheets])) :: (a_g_bandRows, .inl (ci 0, 5, .inl g_bandRows)) :: (a_g_zoneColumns, .inl (ci 0, 5, .inl g_zoneColumns)) :: (a_g_rows, .inl (ci 0, 5, .inl g_rows)) :: (a_g_sheets, .inl (ci 0, 5, .inl g_sheets)) :: Rw) H := ⟨hP, hD⟩
          refine lv_aload_n (pc := 38) hx hb dX10_neighbour_38 rfl (lv_at hl 0 rfl) ?_
          refine va_get (pc := 39) (D := D) (ci := 10) (v := .ref a_sp) (C := RX10) (T := TX10) (N := 14) hx hb hts hinX10 hown hK hP 0 rfl rfl 8 (by decide) w_2 (fun _ h9 => h9) rfl dX10_neighbour_39 ?_
          obtain ⟨f9, f10, hm42, hf⟩ := q_b2_e hf
          refine q_cV (pc := 42) (As := []) (rest := []) (v0 := none) ⟨hx, hb, hml, hown, hts⟩ hK hA hZ hP hD hS hl.1 [1, 2, 3, 4, 5, 6, 7, 8, 0] 9 rfl ⟨rfl, rfl, rfl⟩ (c_Spot_lookAround l D ci A sa N ((a_x, .inr (10, [.ref a_at, .ref a_g, .ref a_st, .ref a_x_kept, .int x_keptStates, .ref a_tp, .ref a_rd, .ref a_qu, .ref a_sp, .ref a_wk, .ref a_bx, .ref a_nt, .ref a_nu, .ref a_x_seen])) :: Rw) a_sp a_g a_sp_first a_sp_many a_sp_corner a_g_rowCuts a_g_columnCuts a_g_bandRows a_g_zoneColumns a_g_rows a_g_sheets sp_cornerCount v3 v4 v5 v6 v7 v8 sp_first sp_many g_bandRows g_zoneColumns g_rows g_sheets f9 f10 hm42) 1 rfl rfl (cwV 0 hts gX10_neighbour_X6_lookAround rfl rfl rfl (by decide +kernel) ⟨Nat.le_of_ble_eq_true rfl, Nat.le_of_ble_eq_true rfl⟩) rfl rfl (Nat.le_of_ble_eq_true rfl) dX10_neighbour_42 ⟨Nat.zero_le _, Nat.zero_le _⟩ [8, 0, 1, 2, 3, 4, 5, 6, 7] 9 rfl ⟨rfl, rfl, rfl⟩ (fun H locs hP hD hS => ?_)
          obtain ⟨hP, hD⟩ : va_PD D A ((a_x, .inr (10, [.ref a_at, .ref a_g, .ref a_st, .ref a_x_kept, .int x_keptStates, .ref a_tp, .ref a_rd, .ref a_qu, .ref a_sp, .ref a_wk, .ref a_bx, .ref a_nt, .ref a_nu, .ref a_x_seen])) :: (a_sp, .inr (6, [.ref a_g, .ref a_sp_first, .ref a_sp_many, .ref a_sp_corner, .int sp_cornerCount, .int v3, .int v4, .int v5, .int v6, .int v7, .int v8])) :: (a_sp_first, .inl (ci 0, 4, .inl f9)) :: (a_sp_many, .inl (ci 0, 4, .inl f10)) :: (a_g, .inr (2, [.ref a_g_rowCuts, .ref a_g_columnCuts, .ref a_g_bandRows, .ref a_g_zoneColumns, .ref a_g_rows, .ref a_g_sheets])) :: (a_g_bandRows, .inl (ci 0, 5, .inl g_bandRows)) :: (a_g_zoneColumns, .inl (ci 0, 5, .inl g_zoneColumns)) :: (a_g_rows, .inl (ci 0, 5, .inl g_rows)) :: (a_g_sheets, .inl (ci 0, 5, .inl g_sheets)) :: Rw) H := ⟨hP, hD⟩
          refine lv_iload (pc := 45) hx hb dX10_neighbour_45 (lv_at hl 4 rfl) ?_
          refine lv_iconst (pc := 47) (v := (-1)) hx hb dX10_neighbour_47 (by decide) ?_
          refine q_icmp_ne (pc := 48) (tgt := 61) hx hb dX10_neighbour_48 (by decide) rfl hf (fun hf => ?_) (fun hf => ?_)
          · refine lv_iload (pc := 61) hx hb dX10_neighbour_61 (lv_at hl 4 rfl) ?_
            refine lv_aload_n (pc := 63) hx hb dX10_neighbour_63 rfl (lv_at hl 0 rfl) ?_
            refine va_get (pc := 64) (D := D) (ci := 10) (v := .ref a_sp) (C := RX10) (T := TX10) (N := 14) hx hb hts hinX10 hown hK hP 0 rfl rfl 8 (by decide) w_2 (fun _ h9 => h9) rfl dX10_neighbour_64 ?_
            refine va_getN (pc := 67) (D := D) (ci := 6) (v := .ref a_sp_many) (C := RX6) (T := TX6) (N := 11) hx hb hts hinX6 hown hK hP 1 rfl rfl 2 (by decide) wn_16 (fun _ h9 => h9) rfl dX10_neighbour_67 ?_
            refine lv_iload_n (pc := 70) hx hb dX10_neighbour_70 rfl (lv_at hl 3 rfl) ?_
            refine q_iald (pc := 71) hx hb hK hP 3 0 hf rfl rfl dX10_neighbour_71 (fun v11 hf => ?_)
            refine q_icmp_ge (pc := 72) (tgt := 90) hx hb dX10_neighbour_72 (by decide) rfl hf (fun hf => ?_) (fun hf => ?_)
            · refine lv_bipush (pc := 90) (v := (-2)) hx hb dX10_neighbour_90 (by decide) ?_
              obtain ⟨e90, e91, e92, e93, e94, e95, e96, e97, e98⟩ := q_inj9 (Option.some.inj hf)
              rw [hQ, ← e90, ← e91, ← e92, ← e93, ← e94, ← e95, ← e96, ← e97, ← e98]
              exact q_iret (pc := 92) hx hb hr hlocks hP hD hS dX10_neighbour_92
            · refine lv_aload_n (pc := 75) hx hb dX10_neighbour_75 rfl (lv_at hl 0 rfl) ?_
              refine va_get (pc := 76) (D := D) (ci := 10) (v := .ref a_sp) (C := RX10) (T := TX10) (N := 14) hx hb hts hinX10 hown hK hP 0 rfl rfl 8 (by decide) w_2 (fun _ h9 => h9) rfl dX10_neighbour_76 ?_
              refine va_getN (pc := 79) (D := D) (ci := 6) (v := .ref a_sp_first) (C := RX6) (T := TX6) (N := 11) hx hb hts hinX6 hown hK hP 1 rfl rfl 1 (by decide) wn_17 (fun _ h9 => h9) rfl dX10_neighbour_79 ?_
              refine lv_iload_n (pc := 82) hx hb dX10_neighbour_82 rfl (lv_at hl 3 rfl) ?_
              refine q_iald (pc := 83) hx hb hK hP 2 0 hf rfl rfl dX10_neighbour_83 (fun v12 hf => ?_)
              refine lv_iload (pc := 84) hx hb dX10_neighbour_84 (lv_at hl 4 rfl) ?_
              refine lv_iadd (pc := 86) hx hb dX10_neighbour_86 ?_
              refine lv_goto (pc := 87) (tgt := 92) hx hb dX10_neighbour_87 (by decide) ?_
              obtain ⟨e90, e91, e92, e93, e94, e95, e96, e97, e98⟩ := q_inj9 (Option.some.inj hf)
              rw [hQ, ← e90, ← e91, ← e92, ← e93, ← e94, ← e95, ← e96, ← e97, ← e98]
              exact q_iret (pc := 92) hx hb hr hlocks hP hD hS dX10_neighbour_92
          · refine lv_aload_n (pc := 51) hx hb dX10_neighbour_51 rfl (lv_at hl 0 rfl) ?_
            refine va_get (pc := 52) (D := D) (ci := 10) (v := .ref a_sp) (C := RX10) (T := TX10) (N := 14) hx hb hts hinX10 hown hK hP 0 rfl rfl 8 (by decide) w_2 (fun _ h9 => h9) rfl dX10_neighbour_52 ?_
            refine va_getN (pc := 55) (D := D) (ci := 6) (v := .ref a_sp_many) (C := RX6) (T := TX6) (N := 11) hx hb hts hinX6 hown hK hP 1 rfl rfl 2 (by decide) wn_16 (fun _ h9 => h9) rfl dX10_neighbour_55 ?_
            refine lv_iload_n (pc := 58) hx hb dX10_neighbour_58 rfl (lv_at hl 3 rfl) ?_
            refine q_iald (pc := 59) hx hb hK hP 3 0 hf rfl rfl dX10_neighbour_59 (fun v13 hf => ?_)
            obtain ⟨e90, e91, e92, e93, e94, e95, e96, e97, e98⟩ := q_inj9 (Option.some.inj hf)
            rw [hQ, ← e90, ← e91, ← e92, ← e93, ← e94, ← e95, ← e96, ← e97, ← e98]
            exact q_iret (pc := 60) hx hb hr hlocks hP hD hS dX10_neighbour_60
        · refine lv_iconst (pc := 27) (v := (-1)) hx hb dX10_neighbour_27 (by decide) ?_
          obtain ⟨e90, e91, e92, e93, e94, e95, e96, e97, e98⟩ := q_inj9 (Option.some.inj hf)
          rw [hQ, ← e90, ← e91, ← e92, ← e93, ← e94, ← e95, ← e96, ← e97, ← e98]
          exact q_iret (pc := 28) hx hb hr hlocks hP hD hS dX10_neighbour_28
  exact hgo _ _ rfl hP hS
/-! X10_answerTo -/
set_option maxRecDepth 100000 in
set_option maxHeartbeats 4000000 in
theorem c_X_answerTo (l : Launch) (D : va_G) (ci : Nat → ClassId) (A : Nat → Prop) (sa : Nat → Nat) (N : Nat) (Rw : va_W) (a_x : Nat) (a_at : Nat) (a_g : Nat) (a_st : Nat) (a_x_kept : Nat) (a_tp : Nat) (a_rd : Nat) (a_qu : Nat) (a_sp : Nat) (a_wk : Nat) (a_bx : Nat) (a_nt : Nat) (a_nu : Nat) (a_x_seen : Nat) (a_sp_first : Nat) (a_sp_many : Nat) (a_sp_corner : Nat) (a_ws : Nat) (a_wk_steps : Nat) (a_wk_reached : Nat) (n_wk_steps : Nat) (n_wk_reached : Nat) (a_ws_first : Nat) (a_ws_many : Nat) (a_ws_corner : Nat) (a_g_rowCuts : Nat) (a_g_columnCuts : Nat) (a_g_bandRows : Nat) (a_g_zoneColumns : Nat) (a_g_rows : Nat) (a_g_sheets : Nat) (x_keptStates : Int32) (qu_word : Int32) (qu_level : Int32) (qu_key : Int32) (qu_otherLevel : Int32) (qu_otherKey : Int32) (sp_cornerCount : Int32) (sp_level : Int32) (sp_row : Int32) (sp_start : Int32) (sp_place : Int32) (sp_length : Int32) (sp_cap : Int32) (sp_first : Nat → Int32) (sp_many : Nat → Int32) (wk_many : Int32) (wk_steps : Nat → Int32) (wk_reached : Nat → Int32) (ws_cornerCount : Int32) (ws_level : Int32) (ws_row : Int32) (ws_start : Int32) (ws_place : Int32) (ws_length : Int32) (ws_cap : Int32) (ws_first : Nat → Int32) (ws_many : Nat → Int32) (bx_south : Int32) (bx_north : Int32) (bx_west : Int32) (bx_east : Int32) (g_bandRows : Nat → Int32) (g_zoneColumns : Nat → Int32) (g_rows : Nat → Int32) (g_sheets : Nat → Int32) (r : Int32) (o1 : Nat → Int32) (o2 : Nat → Int32) (o3 : Int32) (o4 : Int32) (o5 : Int32) (o6 : Int32) (o7 : Int32) (o8 : Int32) (o9 : Nat → Int32) (o10 : Nat → Int32) (o11 : Int32) (o12 : Nat → Int32) (o13 : Nat → Int32) (o14 : Int32) (o15 : Int32) (o16 : Int32) (o17 : Int32) (o18 : Int32) (o19 : Int32) (o20 : Int32) (o21 : Int32) (o22 : Int32) (o23 : Int32) (hf : f_X_answerTo N n_wk_steps n_wk_reached qu_word qu_level qu_key qu_otherLevel qu_otherKey sp_first sp_many sp_level sp_row sp_start sp_place sp_length sp_cap wk_steps wk_reached wk_many ws_first ws_many ws_level ws_row ws_start ws_place ws_length ws_cap bx_south bx_north bx_west bx_east g_bandRows g_zoneColumns g_rows g_sheets = some (r, o1, o2, o3, o4, o5, o6, o7, o8, o9, o10, o11, o12, o13, o14, o15, o16, o17, o18, o19, o20, o21, o22, o23)) : Met l yX10_answerTo wsX10_answerTo ({ frames := 6, cells := 0, slots := 0, locals := 144 }) (va_Pc [.ref a_x, .ref a_qu] (q_N D ci A sa ((a_x, .inr (10, [.ref a_at, .ref a_g, .ref a_st, .ref a_x_kept, .int x_keptStates, .ref a_tp, .ref a_rd, .ref a_qu, .ref a_sp, .ref a_wk, .ref a_bx, .ref a_nt, .ref a_nu, .ref a_x_seen])) :: (a_qu, .inr (5, [.ref a_rd, .ref a_tp, .int qu_word, .int qu_level, .int qu_key, .int qu_otherLevel, .int qu_otherKey])) :: (a_sp, .inr (6, [.ref a_g, .ref a_sp_first, .ref a_sp_many, .ref a_sp_corner, .int sp_cornerCount, .int sp_level, .int sp_row, .int sp_start, .int sp_place, .int sp_length, .int sp_cap])) :: (a_sp_first, .inl (ci 0, 4, .inl sp_first)) :: (a_sp_many, .inl (ci 0, 4, .inl sp_many)) :: (a_wk, .inr (9, [.ref a_ws, .ref a_wk_steps, .ref a_wk_reached, .int wk_many])) :: (a_wk_steps, .inl (ci 0, n_wk_steps, .inl wk_steps)) :: (a_wk_reached, .inl (ci 0, n_wk_reached, .inl wk_reached)) :: (a_ws, .inr (6, [.ref a_g, .ref a_ws_first, .ref a_ws_many, .ref a_ws_corner, .int ws_cornerCount, .int ws_level, .int ws_row, .int ws_start, .int ws_place, .int ws_length, .int ws_cap])) :: (a_ws_first, .inl (ci 0, 4, .inl ws_first)) :: (a_ws_many, .inl (ci 0, 4, .inl ws_many)) :: (a_bx, .inr (1, [.ref a_g, .int bx_south, .int bx_north, .int bx_west, .int bx_east])) :: (a_g, .inr (2, [.ref a_g_rowCuts, .ref a_g_columnCuts, .ref a_g_bandRows, .ref a_g_zoneColumns, .ref a_g_rows, .ref a_g_sheets])) :: (a_g_bandRows, .inl (ci 0, 5, .inl g_bandRows)) :: (a_g_zoneColumns, .inl (ci 0, 5, .inl g_zoneColumns)) :: (a_g_rows, .inl (ci 0, 5, .inl g_rows)) :: (a_g_sheets, .inl (ci 0, 5, .inl g_sheets)) :: Rw))) (q_Q (some (.int r)) (q_O D A ((a_x, .inr (10, [.ref a_at, .ref a_g, .ref a_st, .ref a_x_kept, .int x_keptStates, .ref a_tp, .ref a_rd, .ref a_qu, .ref a_sp, .ref a_wk, .ref a_bx, .ref a_nt, .ref a_nu, .ref a_x_seen])) :: (a_qu, .inr (5, [.ref a_rd, .ref a_tp, .int qu_word, .int qu_level, .int qu_key, .int qu_otherLevel, .int qu_otherKey])) :: (a_sp, .inr (6, [.ref a_g, .ref a_sp_first, .ref a_sp_many, .ref a_sp_corner, .int sp_cornerCount, .int o3, .int o4, .int o5, .int o6, .int o7, .int o8])) :: (a_sp_first, .inl (ci 0, 4, .inl o1)) :: (a_sp_many, .inl (ci 0, 4, .inl o2)) :: (a_wk, .inr (9, [.ref a_ws, .ref a_wk_steps, .ref a_wk_reached, .int o11])) :: (a_wk_steps, .inl (ci 0, n_wk_steps, .inl o9)) :: (a_wk_reached, .inl (ci 0, n_wk_reached, .inl o10)) :: (a_ws, .inr (6, [.ref a_g, .ref a_ws_first, .ref a_ws_many, .ref a_ws_corner, .int ws_cornerCount, .int o14, .int o15, .int o16, .int o17, .int o18, .int o19])) :: (a_ws_first, .inl (ci 0, 4, .inl o12)) :: (a_ws_many, .inl (ci 0, 4, .inl o13)) :: (a_bx, .inr (1, [.ref a_g, .int o20, .int o21, .int o22, .int o23])) :: (a_g, .inr (2, [.ref a_g_rowCuts, .ref a_g_columnCuts, .ref a_g_bandRows, .ref a_g_zoneColumns, .ref a_g_rows, .ref a_g_sheets])) :: (a_g_bandRows, .inl (ci 0, 5, .inl g_bandRows)) :: (a_g_zoneColumns, .inl (ci 0, 5, .inl g_zoneColumns)) :: (a_g_rows, .inl (ci 0, 5, .inl g_rows)) :: (a_g_sheets, .inl (ci 0, 5, .inl g_sheets)) :: Rw)) A) 0 0 A := by
  refine q_ofW (cc := cX10_answerTo) (maxL := 2) (ret := (some .int)) [.ref a_x, .ref a_qu] (plainFor_of_name (by decide)) rfl (Nat.le_of_ble_eq_true rfl) ?_
  intro p e s m below meth c ls Q hQ hx hb hml hr hts hown hlocks hK hA hZ hP hD hS hl
  have hl : lv_has ls 2 [(0, .ref a_x), (1, .ref a_qu)] := hl
  have hown : s.vm.findClass RX10 = some m.cls := hown
  have hinX10 : ∀ w ∈ wsX100, w ∈ wsX10_answerTo := fun _ h => List.mem_cons_of_mem _ (inWX100 _ h)
  have hinX5 : ∀ w ∈ wsX50, w ∈ wsX10_answerTo := fun _ h => List.mem_cons_of_mem _ (inWX50 _ h)
  have w_1 := hts (Cond.fieldLink RX10 20 "SheetNames" "grid" "LSheetNames$Grid;") (List.mem_cons_of_mem _ t_w876)
  have wn_20 : (Cond.fieldLinkNest "SheetNames" 347 "SheetNames$Question" "word" "I" "SheetNames").before ([.ref a_x, .ref a_qu] : List Value).toArray s = true := (hZ.2.2.2.2.2.2.2.2.2.1 _ (List.mem_of_getElem? (i := 20) rfl)).use rfl
  have wn_21 : (Cond.fieldLinkNest "SheetNames" 350 "SheetNames$Question" "level" "I" "SheetNames").before ([.ref a_x, .ref a_qu] : List Value).toArray s = true := (hZ.2.2.2.2.2.2.2.2.2.1 _ (List.mem_of_getElem? (i := 21) rfl)).use rfl
  have wn_22 : (Cond.fieldLinkNest "SheetNames" 351 "SheetNames$Question" "key" "I" "SheetNames").before ([.ref a_x, .ref a_qu] : List Value).toArray s = true := (hZ.2.2.2.2.2.2.2.2.2.1 _ (List.mem_of_getElem? (i := 22) rfl)).use rfl
  have wn_23 : (Cond.fieldLinkNest "SheetNames" 356 "SheetNames$Question" "otherLevel" "I" "SheetNames").before ([.ref a_x, .ref a_qu] : List Value).toArray s = true := (hZ.2.2.2.2.2.2.2.2.2.1 _ (List.mem_of_getElem? (i := 23) rfl)).use rfl
  have wn_24 : (Cond.fieldLinkNest "SheetNames" 359 "SheetNames$Question" "otherKey" "I" "SheetNames").before ([.ref a_x, .ref a_qu] : List Value).toArray s = true := (hZ.2.2.2.2.2.2.2.2.2.1 _ (List.mem_of_getElem? (i := 24) rfl)).use rfl
  unfold f_X_answerTo at hf
  have hgo : ∀ (H : Heap) (locs : List Loc), H = s.heap → va_P D vwCl ((a_x, .inr (10, [.ref a_at, .ref a_g, .ref a_st, .ref a_x_kept, .int x_keptStates, .ref a_tp, .ref a_rd, .ref a_qu, .ref a_sp, .ref a_wk, .ref a_bx, .ref a_nt, .ref a_nu, .ref a_x_seen])) :: (a_qu, .inr (5, [.ref a_rd, .ref a_tp, .int qu_word, .int qu_level, .int qu_key, .int qu_otherLevel, .int qu_otherKey])) :: (a_sp, .inr (6, [.ref a_g, .ref a_sp_first, .ref a_sp_many, .ref a_sp_corner, .int sp_cornerCount, .int sp_level, .int sp_row, .int sp_start, .int sp_place, .int sp_length, .int sp_cap])) :: (a_sp_first, .inl (ci 0, 4, .inl sp_first)) :: (a_sp_many, .inl (ci 0, 4, .inl sp_many)) :: (a_wk, .inr (9, [.ref a_ws, .ref a_wk_steps, .ref a_wk_reached, .int wk_many])) :: (a_wk_steps, .inl (ci 0, n_wk_steps, .inl wk_steps)) :: (a_wk_reached, .inl (ci 0, n_wk_reached, .inl wk_reached)) :: (a_ws, .inr (6, [.ref a_g, .ref a_ws_first, .ref a_ws_many, .ref a_ws_corner, .int ws_cornerCount, .int ws_level, .int ws_row, .int ws_start, .int ws_place, .int ws_length, .int ws_cap])) :: (a_ws_first, .inl (ci 0, 4, .inl ws_first)) :: (a_ws_many, .inl (ci 0, 4, .inl ws_many)) :: (a_bx, .inr (1, [.ref a_g, .int bx_south, .int bx_north, .int bx_west, .int bx_east])) :: (a_g, .inr (2, [.ref a_g_rowCuts, .ref a_g_columnCuts, .ref a_g_bandRows, .ref a_g_zoneColumns, .ref a_g_rows, .ref a_g_sheets])) :: (a_g_bandRows, .inl (ci 0, 5, .inl g_bandRows)) :: (a_g_zoneColumns, .inl (ci 0, 5, .inl g_zoneColumns)) :: (a_g_rows, .inl (ci 0, 5, .inl g_rows)) :: (a_g_sheets, .inl (ci 0, 5, .inl g_sheets)) :: Rw) H → va_S A s.heap H locs → W p l e ({ frames := 6, cells := 0, slots := 0, locals := 144 } : Room) s m ([.ref a_x, .ref a_qu] : List Value).toArray below meth c H locs 0 0 Q (F0 m 0 ls []) := by
    intro H locs hH hP hS
    refine lv_aload_n (pc := 0) hx hb dX10_answerTo_0 rfl (lv_at hl 1 rfl) ?_
    refine va_getN (pc := 1) (D := D) (ci := 5) (v := .int qu_word) (C := RX5) (T := TX5) (N := 7) hx hb hts hinX5 hown hK hP 1 rfl rfl 2 (by decide) wn_20 (fun _ h9 => h9) rfl dX10_answerTo_1 ?_
    refine lv_iconst (pc := 4) (v := 4) hx hb dX10_answerTo_4 (by decide) ?_
    refine q_icmp_ne (pc := 5) (tgt := 42) hx hb dX10_answerTo_5 (by decide) rfl hf (fun hf => ?_) (fun hf => ?_)
    · refine lv_aload_n (pc := 42) hx hb dX10_answerTo_42 rfl (lv_at hl 1 rfl) ?_
      refine va_getN (pc := 43) (D := D) (ci := 5) (v := .int qu_word) (C := RX5) (T := TX5) (N := 7) hx hb hts hinX5 hown hK hP 1 rfl rfl 2 (by decide) wn_20 (fun _ h9 => h9) rfl dX10_answerTo_43 ?_
      refine lv_iconst (pc := 46) (v := 4) hx hb dX10_answerTo_46 (by decide) ?_
      refine q_icmp_ge (pc := 47) (tgt := 68) hx hb dX10_answerTo_47 (by decide) rfl hf (fun hf => ?_) (fun hf => ?_)
      · refine lv_aload_n (pc := 68) hx hb dX10_answerTo_68 rfl (lv_at hl 1 rfl) ?_
        refine va_getN (pc := 69) (D := D) (ci := 5) (v := .int qu_level) (C := RX5) (T := TX5) (N := 7) hx hb hts hinX5 hown hK hP 1 rfl rfl 3 (by decide) wn_21 (fun _ h9 => h9) rfl dX10_answerTo_69 ?_
        refine lv_aload_n (pc := 72) hx hb dX10_answerTo_72 rfl (lv_at hl 1 rfl) ?_
        refine va_getN (pc := 73) (D := D) (ci := 5) (v := .int qu_otherLevel) (C := RX5) (T := TX5) (N := 7) hx hb hts hinX5 hown hK hP 1 rfl rfl 5 (by decide) wn_23 (fun _ h9 => h9) rfl dX10_answerTo_73 ?_
        refine q_icmp_eq (pc := 76) (tgt := 82) hx hb dX10_answerTo_76 (by decide) rfl hf (fun hf => ?_) (fun hf => ?_)
        · refine lv_aload_n (pc := 82) hx hb dX10_answerTo_82 rfl (lv_at hl 1 rfl) ?_
          refine va_getN (pc := 83) (D := D) (ci := 5) (v := .int qu_word) (C := RX5) (T := TX5) (N := 7) hx hb hts hinX5 hown hK hP 1 rfl rfl 2 (by decide) wn_20 (fun _ h9 => h9) rfl dX10_answerTo_83 ?_
          refine lv_iconst (pc := 86) (v := 5) hx hb dX10_answerTo_86 (by decide) ?_
          refine q_icmp_ne (pc := 87) (tgt := 107) hx hb dX10_answerTo_87 (by decide) rfl hf (fun hf => ?_) (fun hf => ?_)
          · refine lv_aload_n (pc := 107) hx hb dX10_answerTo_107 rfl (lv_at hl 0 rfl) ?_
            refine lv_aload_n (pc := 108) hx hb dX10_answerTo_108 rfl (lv_at hl 1 rfl) ?_
            refine va_getN (pc := 109) (D := D) (ci := 5) (v := .int qu_level) (C := RX5) (T := TX5) (N := 7) hx hb hts hinX5 hown hK hP 1 rfl rfl 3 (by decide) wn_21 (fun _ h9 => h9) rfl dX10_answerTo_109 ?_
            refine lv_aload_n (pc := 112) hx hb dX10_answerTo_112 rfl (lv_at hl 1 rfl) ?_
            refine va_getN (pc := 113) (D := D) (ci := 5) (v := .int qu_key) (C := RX5) (T := TX5) (N := 7) hx hb hts hinX5 hown hK hP 1 rfl rfl 4 (by decide) wn_22 (fun _ h9 => h9) rfl dX10_answerTo_113 ?_
            refine lv_aload_n (pc := 116) hx hb dX10_answerTo_116 rfl (lv_at hl 1 rfl) ?_
            refine va_getN (pc := 117) (D := D) (ci := 5) (v := .int qu_otherKey) (C := RX5) (T := TX5) (N := 7) hx hb hts hinX5 hown hK hP 1 rfl rfl 6 (by decide) wn_24 (fun _ h9 => h9) rfl dX10_answerTo_117 ?_
            obtain ⟨v1, v2, v3, v4, v5, v6, v7, v8, v9, v10, v11, hm120, hf⟩ := q_b11_e hf
            refine q_cV (pc := 120) (As := [.int qu_level, .int qu_key, .int qu_otherKey]) (rest := []) (v0 := (some (.int v1))) ⟨hx, hb, hml, hown, hts⟩ hK hA hZ hP hD hS hl.1 [0, 2, 11, 12, 13, 14, 15, 16, 1, 3, 4, 5, 6, 7, 8, 9, 10] 17 rfl ⟨rfl, rfl, rfl⟩ (c_X_between l D ci A sa N ((a_qu, .inr (5, [.ref a_rd, .ref a_tp, .int qu_word, .int qu_level, .int qu_key, .int qu_otherLevel, .int qu_otherKey])) :: (a_sp_first, .inl (ci 0, 4, .inl sp_first)) :: (a_sp_many, .inl (ci 0, 4, .inl sp_many)) :: (a_wk, .inr (9, [.ref a_ws, .ref a_wk_steps, .ref a_wk_reached, .int wk_many])) :: (a_wk_steps, .inl (ci 0, n_wk_steps, .inl wk_steps)) :: (a_wk_reached, .inl (ci 0, n_wk_reached, .inl wk_reached)) :: (a_ws, .inr (6, [.ref a_g, .ref a_ws_first, .ref a_ws_many, .ref a_ws_corner, .int ws_cornerCount, .int ws_level, .int ws_row, .int ws_start, .int ws_place, .int ws_length, .int ws_cap])) :: (a_ws_first, .inl (ci 0, 4, .inl ws_first)) :: (a_ws_many, .inl (ci 0, 4, .inl ws_many)) :: Rw) a_x a_at a_g a_st a_x_kept a_tp a_rd a_qu a_sp a_wk a_bx a_nt a_nu a_x_seen a_sp_first a_sp_many a_sp_corner a_g_rowCuts a_g_columnCuts a_g_bandRows a_g_zoneColumns a_g_rows a_g_sheets x_keptStates sp_cornerCount sp_level sp_row sp_start sp_place sp_length sp_cap bx_south bx_north bx_west bx_east g_bandRows g_zoneColumns g_rows g_sheets qu_level qu_key qu_otherKey v1 v2 v3 v4 v5 v6 v7 v8 v9 v10 v11 hm120) 0 rfl rfl (cwV 3 hts gX10_answerTo_X10_between rfl rfl rfl (by decide +kernel) ⟨Nat.le_of_ble_eq_true rfl, Nat.le_of_ble_eq_true rfl⟩) rfl rfl (Nat.le_of_ble_eq_true rfl) dX10_answerTo_120 ⟨Nat.zero_le _, Nat.zero_le _⟩ [0, 8, 1, 9, 10, 11, 12, 13, 14, 15, 16, 2, 3, 4, 5, 6, 7] 17 rfl ⟨rfl, rfl, rfl⟩ (fun H locs hP hD hS => ?_)
            obtain ⟨hP, hD⟩ : va_PD D A ((a_x, .inr (10, [.ref a_at, .ref a_g, .ref a_st, .ref a_x_kept, .int x_keptStates, .ref a_tp, .ref a_rd, .ref a_qu, .ref a_sp, .ref a_wk, .ref a_bx, .ref a_nt, .ref a_nu, .ref a_x_seen])) :: (a_qu, .inr (5, [.ref a_rd, .ref a_tp, .int qu_word, .int qu_level, .int qu_key, .int qu_otherLevel, .int qu_otherKey])) :: (a_sp, .inr (6, [.ref a_g, .ref a_sp_first, .ref a_sp_many, .ref a_sp_corner, .int sp_cornerCount, .int v2, .int v3, .int v4, .int v5, .int v6, .int v7])) :: (a_sp_first, .inl (ci 0, 4, .inl sp_first)) :: (a_sp_many, .inl (ci 0, 4, .inl sp_many)) :: (a_wk, .inr (9, [.ref a_ws, .ref a_wk_steps, .ref a_wk_reached, .int wk_many])) :: (a_wk_steps, .inl (ci 0, n_wk_steps, .inl wk_steps)) :: (a_wk_reached, .inl (ci 0, n_wk_reached, .inl wk_reached)) :: (a_ws, .inr (6, [.ref a_g, .ref a_ws_first, .ref a_ws_many, .ref a_ws_corner, .int ws_cornerCount, .int ws_level, .int ws_row, .int ws_start, .int ws_place, .int ws_length, .int ws_cap])) :: (a_ws_first, .inl (ci 0, 4, .inl ws_first)) :: (a_ws_many, .inl (ci 0, 4, .inl ws_many)) :: (a_bx, .inr (1, [.ref a_g, .int v8, .int v9, .int v10, .int v11])) :: (a_g, .inr (2, [.ref a_g_rowCuts, .ref a_g_columnCuts, .ref a_g_bandRows, .ref a_g_zoneColumns, .ref a_g_rows, .ref a_g_sheets])) :: (a_g_bandRows, .inl (ci 0, 5, .inl g_bandRows)) :: (a_g_zoneColumns, .inl (ci 0, 5, .inl g_zoneColumns)) :: (a_g_rows, .inl (ci 0, 5, .inl g_rows)) :: (a_g_sheets, .inl (ci 0, 5, .inl g_sheets)) :: Rw) H := ⟨hP, hD⟩
            obtain ⟨e90, e91, e92, e93, e94, e95, e96, e97, e98, e99, e910, e911, e912, e913, e914, e915, e916, e917, e918, e919, e920, e921, e922, e923⟩ := q_inj24 (Option.some.inj hf)
            rw [hQ, ← e90, ← e91, ← e92, ← e93, ← e94, ← e95, ← e96, ← e97, ← e98, ← e99, ← e910, ← e911, ← e912, ← e913, ← e914, ← e915, ← e916, ← e917, ← e918, ← e919, ← e920, ← e921, ← e922, ← e923]
            exact q_iret (pc := 123) hx hb hr hlocks hP hD hS dX10_answerTo_123
          · refine lv_aload_n (pc := 90) hx hb dX10_answerTo_90 rfl (lv_at hl 0 rfl) ?_
            refine lv_aload_n (pc := 91) hx hb dX10_answerTo_91 rfl (lv_at hl 1 rfl) ?_
            refine va_getN (pc := 92) (D := D) (ci := 5) (v := .int qu_level) (C := RX5) (T := TX5) (N := 7) hx hb hts hinX5 hown hK hP 1 rfl rfl 3 (by decide) wn_21 (fun _ h9 => h9) rfl dX10_answerTo_92 ?_
            refine lv_aload_n (pc := 95) hx hb dX10_answerTo_95 rfl (lv_at hl 1 rfl) ?_
            refine va_getN (pc := 96) (D := D) (ci := 5) (v := .int qu_key) (C := RX5) (T := TX5) (N := 7) hx hb hts hinX5 hown hK hP 1 rfl rfl 4 (by decide) wn_22 (fun _ h9 => h9) rfl dX10_answerTo_96 ?_
            refine lv_aload_n (pc := 99) hx hb dX10_answerTo_99 rfl (lv_at hl 1 rfl) ?_
            refine va_getN (pc := 100) (D := D) (ci := 5) (v := .int qu_otherKey) (C := RX5) (T := TX5) (N := 7) hx hb hts hinX5 hown hK hP 1 rfl rfl 6 (by decide) wn_24 (fun _ h9 => h9) rfl dX10_answerTo_100 ?_
            obtain ⟨v12, f13, f14, v15, f16, f17, v18, v19, v20, v21, v22, v23, hm103, hf⟩ := q_b12_e hf
            refine q_cV (pc := 103) (As := [.int qu_level, .int qu_key, .int qu_otherKey]) (rest := []) (v0 := (some (.int v12))) ⟨hx, hb, hml, hown, hts⟩ hK hA hZ hP hD hS hl.1 [0, 5, 6, 7, 8, 9, 10, 12, 13, 14, 15, 16, 1, 2, 3, 4, 11] 17 rfl ⟨rfl, rfl, rfl⟩ (c_X_steps l D ci A sa N ((a_qu, .inr (5, [.ref a_rd, .ref a_tp, .int qu_word, .int qu_level, .int qu_key, .int qu_otherLevel, .int qu_otherKey])) :: (a_sp, .inr (6, [.ref a_g, .ref a_sp_first, .ref a_sp_many, .ref a_sp_corner, .int sp_cornerCount, .int sp_level, .int sp_row, .int sp_start, .int sp_place, .int sp_length, .int sp_cap])) :: (a_sp_first, .inl (ci 0, 4, .inl sp_first)) :: (a_sp_many, .inl (ci 0, 4, .inl sp_many)) :: (a_bx, .inr (1, [.ref a_g, .int bx_south, .int bx_north, .int bx_west, .int bx_east])) :: Rw) a_x a_at a_g a_st a_x_kept a_tp a_rd a_qu a_sp a_wk a_bx a_nt a_nu a_x_seen a_ws a_wk_steps a_wk_reached n_wk_steps n_wk_reached a_ws_first a_ws_many a_ws_corner a_g_rowCuts a_g_columnCuts a_g_bandRows a_g_zoneColumns a_g_rows a_g_sheets x_keptStates wk_many wk_steps wk_reached ws_cornerCount ws_level ws_row ws_start ws_place ws_length ws_cap ws_first ws_many g_bandRows g_zoneColumns g_rows g_sheets qu_level qu_key qu_otherKey v12 f13 f14 v15 f16 f17 v18 v19 v20 v21 v22 v23 hm103) 0 rfl rfl (cwV 3 hts gX10_answerTo_X10_steps rfl rfl rfl (by decide +kernel) ⟨Nat.le_of_ble_eq_true rfl, Nat.le_of_ble_eq_true rfl⟩) rfl rfl (Nat.le_of_ble_eq_true rfl) dX10_answerTo_103 ⟨Nat.zero_le _, Nat.zero_le _⟩ [0, 12, 13, 14, 15, 1, 2, 3, 4, 5, 6, 16, 7, 8, 9, 10, 11] 17 rfl ⟨rfl, rfl, rfl⟩ (fun H locs hP hD hS => ?_)
            obtain ⟨hP, hD⟩ : va_PD D A ((a_x, .inr (10, [.ref a_at, .ref a_g, .ref a_st, .ref a_x_kept, .int x_keptStates, .ref a_tp, .ref a_rd, .ref a_qu, .ref a_sp, .ref a_wk, .ref a_bx, .ref a_nt, .ref a_nu, .ref a_x_seen])) :: (a_qu, .inr (5, [.ref a_rd, .ref a_tp, .int qu_word, .int qu_level, .int qu_key, .int qu_otherLevel, .int qu_otherKey])) :: (a_sp, .inr (6, [.ref a_g, .ref a_sp_first, .ref a_sp_many, .ref a_sp_corner, .int sp_cornerCount, .int sp_level, .int sp_row, .int sp_start, .int sp_place, .int sp_length, .int sp_cap])) :: (a_sp_first, .inl (ci 0, 4, .inl sp_first)) :: (a_sp_many, .inl (ci 0, 4, .inl sp_many)) :: (a_wk, .inr (9, [.ref a_ws, .ref a_wk_steps, .ref a_wk_reached, .int v15])) :: (a_wk_steps, .inl (ci 0, n_wk_steps, .inl f13)) :: (a_wk_reached, .inl (ci 0, n_wk_reached, .inl f14)) :: (a_ws, .inr (6, [.ref a_g, .ref a_ws_first, .ref a_ws_many, .ref a_ws_corner, .int ws_cornerCount, .int v18, .int v19, .int v20, .int v21, .int v22, .int v23])) :: (a_ws_first, .inl (ci 0, 4, .inl f16)) :: (a_ws_many, .inl (ci 0, 4, .inl f17)) :: (a_bx, .inr (1, [.ref a_g, .int bx_south, .int bx_north, .int bx_west, .int bx_east])) :: (a_g, .inr (2, [.ref a_g_rowCuts, .ref a_g_columnCuts, .ref a_g_bandRows, .ref a_g_zoneColumns, .ref a_g_rows, .ref a_g_sheets])) :: (a_g_bandRows, .inl (ci 0, 5, .inl g_bandRows)) :: (a_g_zoneColumns, .inl (ci 0, 5, .inl g_zoneColumns)) :: (a_g_rows, .inl (ci 0, 5, .inl g_rows)) :: (a_g_sheets, .inl (ci 0, 5, .inl g_sheets)) :: Rw) H := ⟨hP, hD⟩
            obtain ⟨e90, e91, e92, e93, e94, e95, e96, e97, e98, e99, e910, e911, e912, e913, e914, e915, e916, e917, e918, e919, e920, e921, e922, e923⟩ := q_inj24 (Option.some.inj hf)
            rw [hQ, ← e90, ← e91, ← e92, ← e93, ← e94, ← e95, ← e96, ← e97, ← e98, ← e99, ← e910, ← e911, ← e912, ← e913, ← e914, ← e915, ← e916, ← e917, ← e918, ← e919, ← e920, ← e921, ← e922, ← e923]
            exact q_iret (pc := 106) hx hb hr hlocks hP hD hS dX10_answerTo_106
        · refine lv_bipush (pc := 79) (v := (-2)) hx hb dX10_answerTo_79 (by decide) ?_
          obtain ⟨e90, e91, e92, e93, e94, e95, e96, e97, e98, e99, e910, e911, e912, e913, e914, e915, e916, e917, e918, e919, e920, e921, e922, e923⟩ := q_inj24 (Option.some.inj hf)
          rw [hQ, ← e90, ← e91, ← e92, ← e93, ← e94, ← e95, ← e96, ← e97, ← e98, ← e99, ← e910, ← e911, ← e912, ← e913, ← e914, ← e915, ← e916, ← e917, ← e918, ← e919, ← e920, ← e921, ← e922, ← e923]
          exact q_iret (pc := 81) hx hb hr hlocks hP hD hS dX10_answerTo_81
      · refine lv_aload_n (pc := 50) hx hb dX10_answerTo_50 rfl (lv_at hl 0 rfl) ?_
        refine lv_aload_n (pc := 51) hx hb dX10_answerTo_51 rfl (lv_at hl 1 rfl) ?_
        refine va_getN (pc := 52) (D := D) (ci := 5) (v := .int qu_level) (C := RX5) (T := TX5) (N := 7) hx hb hts hinX5 hown hK hP 1 rfl rfl 3 (by decide) wn_21 (fun _ h9 => h9) rfl dX10_answerTo_52 ?_
        refine lv_aload_n (pc := 55) hx hb dX10_answerTo_55 rfl (lv_at hl 1 rfl) ?_
        refine va_getN (pc := 56) (D := D) (ci := 5) (v := .int qu_key) (C := RX5) (T := TX5) (N := 7) hx hb hts hinX5 hown hK hP 1 rfl rfl 4 (by decide) wn_22 (fun _ h9 => h9) rfl dX10_answerTo_56 ?_
        refine lv_aload_n (pc := 59) hx hb dX10_answerTo_59 rfl (lv_at hl 1 rfl) ?_
        refine va_getN (pc := 60) (D := D) (ci := 5) (v := .int qu_word) (C := RX5) (T := TX5) (N := 7) hx hb hts hinX5 hown hK hP 1 rfl rfl 2 (by decide) wn_20 (fun _ h9 => h9) rfl dX10_answerTo_60 ?_
        refine lv_iconst (pc := 63) (v := 0) hx hb dX10_answerTo_63 (by decide) ?_
        obtain ⟨v24, f25, f26, v27, v28, v29, v30, v31, v32, hm64, hf⟩ := q_b9_e hf
        refine q_cV (pc := 64) (As := [.int qu_level, .int qu_key, .int qu_word, .int 0]) (rest := []) (v0 := (some (.int v24))) ⟨hx, hb, hml, hown, hts⟩ hK hA hZ hP hD hS hl.1 [0, 2, 3, 4, 12, 13, 14, 15, 16, 1, 5, 6, 7, 8, 9, 10, 11] 17 rfl ⟨rfl, rfl, rfl⟩ (c_X_neighbour l D ci A sa N ((a_qu, .inr (5, [.ref a_rd, .ref a_tp, .int qu_word, .int qu_level, .int qu_key, .int qu_otherLevel, .int qu_otherKey])) :: (a_wk, .inr (9, [.ref a_ws, .ref a_wk_steps, .ref a_wk_reached, .int wk_many])) :: (a_wk_steps, .inl (ci 0, n_wk_steps, .inl wk_steps)) :: (a_wk_reached, .inl (ci 0, n_wk_reached, .inl wk_reached)) :: (a_ws, .inr (6, [.ref a_g, .ref a_ws_first, .ref a_ws_many, .ref a_ws_corner, .int ws_cornerCount, .int ws_level, .int ws_row, .int ws_start, .int ws_place, .int ws_length, .int ws_cap])) :: (a_ws_first, .inl (ci 0, 4, .inl ws_first)) :: (a_ws_many, .inl (ci 0, 4, .inl ws_many)) :: (a_bx, .inr (1, [.ref a_g, .int bx_south, .int bx_north, .int bx_west, .int bx_east])) :: Rw) a_x a_at a_g a_st a_x_kept a_tp a_rd a_qu a_sp a_wk a_bx a_nt a_nu a_x_seen a_sp_first a_sp_many a_sp_corner a_g_rowCuts a_g_columnCuts a_g_bandRows a_g_zoneColumns a_g_rows a_g_sheets x_keptStates sp_cornerCount sp_level sp_row sp_start sp_place sp_length sp_cap sp_first sp_many g_bandRows g_zoneColumns g_rows g_sheets qu_level qu_key qu_word 0 v24 f25 f26 v27 v28 v29 v30 v31 v32 hm64) 0 rfl rfl (cwV 4 hts gX10_answerTo_X10_neighbour rfl rfl rfl (by decide +kernel) ⟨Nat.le_of_ble_eq_true rfl, Nat.le_of_ble_eq_true rfl⟩) rfl rfl (Nat.le_of_ble_eq_true rfl) dX10_answerTo_64 ⟨Nat.zero_le _, Nat.zero_le _⟩ [0, 9, 1, 2, 3, 10, 11, 12, 13, 14, 15, 16, 4, 5, 6, 7, 8] 17 rfl ⟨rfl, rfl, rfl⟩ (fun H locs hP hD hS => ?_)
        obtain ⟨hP, hD⟩ : va_PD D A ((a_x, .inr (10, [.ref a_at, .ref a_g, .ref a_st, .ref a_x_kept, .int x_keptStates, .ref a_tp, .ref a_rd, .ref a_qu, .ref a_sp, .ref a_wk, .ref a_bx, .ref a_nt, .ref a_nu, .ref a_x_seen])) :: (a_qu, .inr (5, [.ref a_rd, .ref a_tp, .int qu_word, .int qu_level, .int qu_key, .int qu_otherLevel, .int qu_otherKey])) :: (a_sp, .inr (6, [.ref a_g, .ref a_sp_first, .ref a_sp_many, .ref a_sp_corner, .int sp_cornerCount, .int v27, .int v28, .int v29, .int v30, .int v31, .int v32])) :: (a_sp_first, .inl (ci 0, 4, .inl f25)) :: (a_sp_many, .inl (ci 0, 4, .inl f26)) :: (a_wk, .inr (9, [.ref a_ws, .ref a_wk_steps, .ref a_wk_reached, .int wk_many])) :: (a_wk_steps, .inl (ci 0, n_wk_steps, .inl wk_steps)) :: (a_wk_reached, .inl (ci 0, n_wk_reached, .inl wk_reached)) :: (a_ws, .inr (6, [.ref a_g, .ref a_ws_first, .ref a_ws_many, .ref a_ws_corner, .int ws_cornerCount, .int ws_level, .int ws_row, .int ws_start, .int ws_place, .int ws_length, .int ws_cap])) :: (a_ws_first, .inl (ci 0, 4, .inl ws_first)) :: (a_ws_many, .inl (ci 0, 4, .inl ws_many)) :: (a_bx, .inr (1, [.ref a_g, .int bx_south, .int bx_north, .int bx_west, .int bx_east])) :: (a_g, .inr (2, [.ref a_g_rowCuts, .ref a_g_columnCuts, .ref a_g_bandRows, .ref a_g_zoneColumns, .ref a_g_rows, .ref a_g_sheets])) :: (a_g_bandRows, .inl (ci 0, 5, .inl g_bandRows)) :: (a_g_zoneColumns, .inl (ci 0, 5, .inl g_zoneColumns)) :: (a_g_rows, .inl (ci 0, 5, .inl g_rows)) :: (a_g_sheets, .inl (ci 0, 5, .inl g_sheets)) :: Rw) H := ⟨hP, hD⟩
        obtain ⟨e90, e91, e92, e93, e94, e95, e96, e97, e98, e99, e910, e911, e912, e913, e914, e915, e916, e917, e918, e919, e920, e921, e922, e923⟩ := q_inj24 (Option.some.inj hf)
        rw [hQ, ← e90, ← e91, ← e92, ← e93, ← e94, ← e95, ← e96, ← e97, ← e98, ← e99, ← e910, ← e911, ← e912, ← e913, ← e914, ← e915, ← e916, ← e917, ← e918, ← e919, ← e920, ← e921, ← e922, ← e923]
        exact q_iret (pc := 67) hx hb hr hlocks hP hD hS dX10_answerTo_67
    · refine lv_aload_n (pc := 8) hx hb dX10_answerTo_8 rfl (lv_at hl 1 rfl) ?_
      refine va_getN (pc := 9) (D := D) (ci := 5) (v := .int qu_level) (C := RX5) (T := TX5) (N := 7) hx hb hts hinX5 hown hK hP 1 rfl rfl 3 (by decide) wn_21 (fun _ h9 => h9) rfl dX10_answerTo_9 ?_
      refine q_if_ne (pc := 12) (tgt := 20) hx hb dX10_answerTo_12 (by decide) rfl hf (fun hf => ?_) (fun hf => ?_)
      · refine lv_aload_n (pc := 20) hx hb dX10_answerTo_20 rfl (lv_at hl 0 rfl) ?_
        refine va_get (pc := 21) (D := D) (ci := 10) (v := .ref a_g) (C := RX10) (T := TX10) (N := 14) hx hb hts hinX10 hown hK hP 0 rfl rfl 1 (by decide) w_1 (fun _ h9 => h9) rfl dX10_answerTo_21 ?_
        refine lv_aload_n (pc := 24) hx hb dX10_answerTo_24 rfl (lv_at hl 1 rfl) ?_
        refine va_getN (pc := 25) (D := D) (ci := 5) (v := .int qu_level) (C := RX5) (T := TX5) (N := 7) hx hb hts hinX5 hown hK hP 1 rfl rfl 3 (by decide) wn_21 (fun _ h9 => h9) rfl dX10_answerTo_25 ?_
        refine lv_aload_n (pc := 28) hx hb dX10_answerTo_28 rfl (lv_at hl 1 rfl) ?_
        refine va_getN (pc := 29) (D := D) (ci := 5) (v := .int qu_key) (C := RX5) (T := TX5) (N := 7) hx hb hts hinX5 hown hK hP 1 rfl rfl 4 (by decide) wn_22 (fun _ h9 => h9) rfl dX10_answerTo_29 ?_
        refine lv_aload_n (pc := 32) hx hb dX10_answerTo_32 rfl (lv_at hl 1 rfl) ?_
        refine va_getN (pc := 33) (D := D) (ci := 5) (v := .int qu_level) (C := RX5) (T := TX5) (N := 7) hx hb hts hinX5 hown hK hP 1 rfl rfl 3 (by decide) wn_21 (fun _ h9 => h9) rfl dX10_answerTo_33 ?_
        refine lv_iconst (pc := 36) (v := 1) hx hb dX10_answerTo_36 (by decide) ?_
        refine lv_isub (pc := 37) hx hb dX10_answerTo_37 ?_
        obtain ⟨v33, hm38, hf⟩ := q_b1_e hf
        refine q_cVr (pc := 38) (As := [.int qu_level, .int qu_key, .int (qu_level - 1)]) (rest := []) (v0 := (some (.int v33))) ⟨hx, hb, hml, hown, hts⟩ hK hA hZ hP hD hS hl.1 [12, 13, 14, 15, 16] 17 rfl ⟨rfl, rfl, rfl⟩ (c_Grid_keyAbove l D ci A sa N (Rw) a_g a_g_rowCuts a_g_columnCuts a_g_bandRows a_g_zoneColumns a_g_rows a_g_sheets g_bandRows g_zoneColumns g_rows g_sheets qu_level qu_key (qu_level - 1) v33 hm38) 12 rfl rfl (cwV 3 hts gX10_answerTo_X2_keyAbove rfl rfl rfl (by decide +kernel) ⟨Nat.le_of_ble_eq_true rfl, Nat.le_of_ble_eq_true rfl⟩) rfl rfl (Nat.le_of_ble_eq_true rfl) dX10_answerTo_38 ⟨Nat.zero_le _, Nat.zero_le _⟩ (fun locs hS => ?_)
        obtain ⟨e90, e91, e92, e93, e94, e95, e96, e97, e98, e99, e910, e911, e912, e913, e914, e915, e916, e917, e918, e919, e920, e921, e922, e923⟩ := q_inj24 (Option.some.inj hf)
        rw [hQ, ← e90, ← e91, ← e92, ← e93, ← e94, ← e95, ← e96, ← e97, ← e98, ← e99, ← e910, ← e911, ← e912, ← e913, ← e914, ← e915, ← e916, ← e917, ← e918, ← e919, ← e920, ← e921, ← e922, ← e923]
        exact q_iret (pc := 41) hx hb hr hlocks hP hD hS dX10_answerTo_41
      · refine lv_bipush (pc := 15) (v := (-2)) hx hb dX10_answerTo_15 (by decide) ?_
        refine lv_goto (pc := 17) (tgt := 41) hx hb dX10_answerTo_17 (by decide) ?_
        obtain ⟨e90, e91, e92, e93, e94, e95, e96, e97, e98, e99, e910, e911, e912, e913, e914, e915, e916, e917, e918, e919, e920, e921, e922, e923⟩ := q_inj24 (Option.some.inj hf)
        rw [hQ, ← e90, ← e91, ← e92, ← e93, ← e94, ← e95, ← e96, ← e97, ← e98, ← e99, ← e910, ← e911, ← e912, ← e913, ← e914, ← e915, ← e916, ← e917, ← e918, ← e919, ← e920, ← e921, ← e922, ← e923]
        exact q_iret (pc := 41) hx hb hr hlocks hP hD hS dX10_answerTo_41
  exact hgo _ _ rfl hP hS
/-! X10_around -/
set_option maxRecDepth 100000 in
set_option maxHeartbeats 4000000 in
theorem c_X_around (l : Launch) (D : va_G) (ci : Nat → ClassId) (A : Nat → Prop) (sa : Nat → Nat) (N : Nat) (Rw : va_W) (a_x : Nat) (a_at : Nat) (a_g : Nat) (a_st : Nat) (a_x_kept : Nat) (a_tp : Nat) (a_rd : Nat) (a_qu : Nat) (a_sp : Nat) (a_wk : Nat) (a_bx : Nat) (a_nt : Nat) (a_nu : Nat) (a_x_seen : Nat) (a_sp_first : Nat) (a_sp_many : Nat) (a_sp_corner : Nat) (a_g_rowCuts : Nat) (a_g_columnCuts : Nat) (a_g_bandRows : Nat) (a_g_zoneColumns : Nat) (a_g_rows : Nat) (a_g_sheets : Nat) (x_keptStates : Int32) (sp_cornerCount : Int32) (sp_level : Int32) (sp_row : Int32) (sp_start : Int32) (sp_place : Int32) (sp_length : Int32) (sp_cap : Int32) (sp_first : Nat → Int32) (sp_many : Nat → Int32) (g_bandRows : Nat → Int32) (g_zoneColumns : Nat → Int32) (g_rows : Nat → Int32) (g_sheets : Nat → Int32) (p1 : Int32) (p2 : Int32) (p3 : Int32) (r : Int32) (o1 : Nat → Int32) (o2 : Nat → Int32) (o3 : Int32) (o4 : Int32) (o5 : Int32) (o6 : Int32) (o7 : Int32) (o8 : Int32) (hf : f_X_around N sp_first sp_many sp_level sp_row sp_start sp_place sp_length sp_cap g_bandRows g_zoneColumns g_rows g_sheets p1 p2 p3 = some (r, o1, o2, o3, o4, o5, o6, o7, o8)) : Met l yX10_around wsX10_around ({ frames := 3, cells := 0, slots := 0, locals := 71 }) (va_Pc [.ref a_x, .int p1, .int p2, .int p3] (q_N D ci A sa ((a_x, .inr (10, [.ref a_at, .ref a_g, .ref a_st, .ref a_x_kept, .int x_keptStates, .ref a_tp, .ref a_rd, .ref a_qu, .ref a_sp, .ref a_wk, .ref a_bx, .ref a_nt, .ref a_nu, .ref a_x_seen])) :: (a_sp, .inr (6, [.ref a_g, .ref a_sp_first, .ref a_sp_many, .ref a_sp_corner, .int sp_cornerCount, .int sp_level, .int sp_row, .int sp_start, .int sp_place, .int sp_length, .int sp_cap])) :: (a_sp_first, .inl (ci 0, 4, .inl sp_first)) :: (a_sp_many, .inl (ci 0, 4, .inl sp_many)) :: (a_g, .inr (2, [.ref a_g_rowCuts, .ref a_g_columnCuts, .ref a_g_bandRows, .ref a_g_zoneColumns, .ref a_g_rows, .ref a_g_sheets])) :: (a_g_bandRows, .inl (ci 0, 5, .inl g_bandRows)) :: (a_g_zoneColumns, .inl (ci 0, 5, .inl g_zoneColumns)) :: (a_g_rows, .inl (ci 0, 5, .inl g_rows)) :: (a_g_sheets, .inl (ci 0, 5, .inl g_sheets)) :: Rw))) (q_Q (some (.int r)) (q_O D A ((a_x, .inr (10, [.ref a_at, .ref a_g, .ref a_st, .ref a_x_kept, .int x_keptStates, .ref a_tp, .ref a_rd, .ref a_qu, .ref a_sp, .ref a_wk, .ref a_bx, .ref a_nt, .ref a_nu, .ref a_x_seen])) :: (a_sp, .inr (6, [.ref a_g, .ref a_sp_first, .ref a_sp_many, .ref a_sp_corner, .int sp_cornerCount, .int o3, .int o4, .int o5, .int o6, .int o7, .int o8])) :: (a_sp_first, .inl (ci 0, 4, .inl o1)) :: (a_sp_many, .inl (ci 0, 4, .inl o2)) :: (a_g, .inr (2, [.ref a_g_rowCuts, .ref a_g_columnCuts, .ref a_g_bandRows, .ref a_g_zoneColumns, .ref a_g_rows, .ref a_g_sheets])) :: (a_g_bandRows, .inl (ci 0, 5, .inl g_bandRows)) :: (a_g_zoneColumns, .inl (ci 0, 5, .inl g_zoneColumns)) :: (a_g_rows, .inl (ci 0, 5, .inl g_rows)) :: (a_g_sheets, .inl (ci 0, 5, .inl g_sheets)) :: Rw)) A) 0 0 A := by
  refine q_ofW (cc := cX10_around) (maxL := 4) (ret := (some .int)) [.ref a_x, .int p1, .int p2, .int p3] (plainFor_of_name (by decide)) rfl (Nat.le_of_ble_eq_true rfl) ?_
  intro p e s m below meth c ls Q hQ hx hb hml hr hts hown hlocks hK hA hZ hP hD hS hl
  have hl : lv_has ls 4 [(0, .ref a_x), (1, .int p1), (2, .int p2), (3, .int p3)] := hl
  have hown : s.vm.findClass RX10 = some m.cls := hown
  have hinX10 : ∀ w ∈ wsX100, w ∈ wsX10_around := fun _ h => List.mem_cons_of_mem _ (inWX100 _ h)
  have w_1 := hts (Cond.fieldLink RX10 20 "SheetNames" "grid" "LSheetNames$Grid;") (List.mem_cons_of_mem _ t_w876)
  have w_2 := hts (Cond.fieldLink RX10 66 "SheetNames" "spot" "LSheetNames$Spot;") (List.mem_cons_of_mem _ t_w877)
  unfold f_X_around at hf
  have hgo : ∀ (H : Heap) (locs : List Loc), H = s.heap → va_P D vwCl ((a_x, .inr (10, [.ref a_at, .ref a_g, .ref a_st, .ref a_x_kept, .int x_keptStates, .ref a_tp, .ref a_rd, .ref a_qu, .ref a_sp, .ref a_wk, .ref a_bx, .ref a_nt, .ref a_nu, .ref a_x_seen])) :: (a_sp, .inr (6, [.ref a_g, .ref a_sp_first, .ref a_sp_many, .ref a_sp_corner, .int sp_cornerCount, .int sp_level, .int sp_row, .int sp_start, .int sp_place, .int sp_length, .int sp_cap])) :: (a_sp_first, .inl (ci 0, 4, .inl sp_first)) :: (a_sp_many, .inl (ci 0, 4, .inl sp_many)) :: (a_g, .inr (2, [.ref a_g_rowCuts, .ref a_g_columnCuts, .ref a_g_bandRows, .ref a_g_zoneColumns, .ref a_g_rows, .ref a_g_sheets])) :: (a_g_bandRows, .inl (ci 0, 5, .inl g_bandRows)) :: (a_g_zoneColumns, .inl (ci 0, 5, .inl g_zoneColumns)) :: (a_g_rows, .inl (ci 0, 5, .inl g_rows)) :: (a_g_sheets, .inl (ci 0, 5, .inl g_sheets)) :: Rw) H → va_S A s.heap H locs → W p l e ({ frames := 3, cells := 0, slots := 0, locals := 71 } : Room) s m ([.ref a_x, .int p1, .int p2, .int p3] : List Value).toArray below meth c H locs 0 0 Q (F0 m 0 ls []) := by
    intro H locs hH hP hS
    refine lv_aload_n (pc := 0) hx hb dX10_around_0 rfl (lv_at hl 0 rfl) ?_
    refine va_get (pc := 1) (D := D) (ci := 10) (v := .ref a_g) (C := RX10) (T := TX10) (N := 14) hx hb hts hinX10 hown hK hP 0 rfl rfl 1 (by decide) w_1 (fun _ h9 => h9) rfl dX10_around_1 ?_
    refine lv_iload_n (pc := 4) hx hb dX10_around_4 rfl (lv_at hl 1 rfl) ?_
    refine lv_iload_n (pc := 5) hx hb dX10_around_5 rfl (lv_at hl 2 rfl) ?_
    obtain ⟨v1, hm6, hf⟩ := q_b1_e hf
    refine q_cVr (pc := 6) (As := [.int p1, .int p2]) (rest := []) (v0 := (some (.int v1))) ⟨hx, hb, hml, hown, hts⟩ hK hA hZ hP hD hS hl.1 [4, 8] 9 rfl ⟨rfl, rfl, rfl⟩ (c_Grid_hasSheet l D ci A sa N (Rw) a_g a_g_rowCuts a_g_columnCuts a_g_bandRows a_g_zoneColumns a_g_rows a_g_sheets g_sheets p1 p2 v1 hm6) 4 rfl rfl (cwV 2 hts gX10_around_X2_hasSheet rfl rfl rfl (by decide +kernel) ⟨Nat.le_of_ble_eq_true rfl, Nat.le_of_ble_eq_true rfl⟩) rfl rfl (Nat.le_of_ble_eq_true rfl) dX10_around_6 ⟨Nat.zero_le _, Nat.zero_le _⟩ (fun locs hS => ?_)
    refine q_if_eq (pc := 9) (tgt := 17) hx hb dX10_around_9 (by decide) rfl hf (fun hf => ?_) (fun hf => ?_)
    · refine lv_iconst (pc := 17) (v := (-1)) hx hb dX10_around_17 (by decide) ?_
      obtain ⟨e90, e91, e92, e93, e94, e95, e96, e97, e98⟩ := q_inj9 (Option.some.inj hf)
      rw [hQ, ← e90, ← e91, ← e92, ← e93, ← e94, ← e95, ← e96, ← e97, ← e98]
      exact q_iret (pc := 18) hx hb hr hlocks hP hD hS dX10_around_18
    · refine lv_iload_n (pc := 12) hx hb dX10_around_12 rfl (lv_at hl 3 rfl) ?_
      refine lv_iconst (pc := 13) (v := (-1)) hx hb dX10_around_13 (by decide) ?_
      refine q_icmp_ge (pc := 14) (tgt := 19) hx hb dX10_around_14 (by decide) rfl hf (fun hf => ?_) (fun hf => ?_)
      · refine lv_aload_n (pc := 19) hx hb dX10_around_19 rfl (lv_at hl 0 rfl) ?_
        refine va_get (pc := 20) (D := D) (ci := 10) (v := .ref a_sp) (C := RX10) (T := TX10) (N := 14) hx hb hts hinX10 hown hK hP 0 rfl rfl 8 (by decide) w_2 (fun _ h9 => h9) rfl dX10_around_20 ?_
        refine lv_iload_n (pc := 23) hx hb dX10_around_23 rfl (lv_at hl 1 rfl) ?_
        refine lv_iload_n (pc := 24) hx hb dX10_around_24 rfl (lv_at hl 2 rfl) ?_
        obtain ⟨v2, v3, v4, v5, v6, v7, hm25, hf⟩ := q_b6_e hf
        refine q_cV (pc := 25) (As := [.int p1, .int p2]) (rest := []) (v0 := none) ⟨hx, hb, hml, hown, hts⟩ hK hA hZ hP hD hS hl.1 [1, 4, 5, 6, 7, 8, 0, 2, 3] 9 rfl ⟨rfl, rfl, rfl⟩ (c_Spot_put l D ci A sa N ((a_x, .inr (10, [.ref a_at, .ref a_g, .ref a_st, .ref a_x_kept, .int x_keptStates, .ref a_tp, .ref a_rd, .ref a_qu, .ref a_sp, .ref a_wk, .ref a_bx, .ref a_nt, .ref a_nu, .ref a_x_seen])) :: (a_sp_first, .inl (ci 0, 4, .inl sp_first)) :: (a_sp_many, .inl (ci 0, 4, .inl sp_many)) :: Rw) a_sp a_g a_sp_first a_sp_many a_sp_corner a_g_rowCuts a_g_columnCuts a_g_bandRows a_g_zoneColumns a_g_rows a_g_sheets sp_cornerCount sp_level sp_row sp_start sp_place sp_length sp_cap g_bandRows g_zoneColumns g_rows g_sheets p1 p2 v2 v3 v4 v5 v6 v7 hm25) 1 rfl rfl (cwV 2 hts gX10_around_X6_put rfl rfl rfl (by decide +kernel) ⟨Nat.le_of_ble_eq_true rfl, Nat.le_of_ble_eq_true rfl⟩) rfl rfl (Nat.le_of_ble_eq_true rfl) dX10_around_25 ⟨Nat.zero_le _, Nat.zero_le _⟩ [6, 0, 7, 8, 1, 2, 3, 4, 5] 9 rfl ⟨rfl, rfl, rfl⟩ (fun H locs hP hD hS => ?_)
        obtain ⟨hP, hD⟩ : va_PD D A ((a_x, .inr (10, [.ref a_at, .ref a_g, .ref a_st, .ref a_x_kept, .int x_keptStates, .ref a_tp, .ref a_rd, .ref a_qu, .ref a_sp, .ref a_wk, .ref a_bx, .ref a_nt, .ref a_nu, .ref a_x_seen])) :: (a_sp, .inr (6, [.ref a_g, .ref a_sp_first, .ref a_sp_many, .ref a_sp_corner, .int sp_cornerCount, .int v2, .int v3, .int v4, .int v5, .int v6, .int v7])) :: (a_sp_first, .inl (ci 0, 4, .inl sp_first)) :: (a_sp_many, .inl (ci 0, 4, .inl sp_many)) :: (a_g, .inr (2, [.ref a_g_rowCuts, .ref a_g_columnCuts, .ref a_g_bandRows, .ref a_g_zoneColumns, .ref a_g_rows, .ref a_g_sheets])) :: (a_g_bandRows, .inl (ci 0, 5, .inl g_bandRows)) :: (a_g_zoneColumns, .inl (ci 0, 5, .inl g_zoneColumns)) :: (a_g_rows, .inl (ci 0, 5, .inl g_rows)) :: (a_g_sheets, .inl (ci 0, 5, .inl g_sheets)) :: Rw) H := ⟨hP, hD⟩
        refine lv_aload_n (pc := 28) hx hb dX10_around_28 rfl (lv_at hl 0 rfl) ?_
        refine va_get (pc := 29) (D := D) (ci := 10) (v := .ref a_sp) (C := RX10) (T := TX10) (N := 14) hx hb hts hinX10 hown hK hP 0 rfl rfl 8 (by decide) w_2 (fun _ h9 => h9) rfl dX10_around_29 ?_
        obtain ⟨f8, f9, hm32, hf⟩ := q_b2_e hf
        refine q_cV (pc := 32) (As := []) (rest := []) (v0 := none) ⟨hx, hb, hml, hown, hts⟩ hK hA hZ hP hD hS hl.1 [1, 2, 3, 4, 5, 6, 7, 8, 0] 9 rfl ⟨rfl, rfl, rfl⟩ (c_Spot_lookAround l D ci A sa N ((a_x, .inr (10, [.ref a_at, .ref a_g, .ref a_st, .ref a_x_kept, .int x_keptStates, .ref a_tp, .ref a_rd, .ref a_qu, .ref a_sp, .ref a_wk, .ref a_bx, .ref a_nt, .ref a_nu, .ref a_x_seen])) :: Rw) a_sp a_g a_sp_first a_sp_many a_sp_corner a_g_rowCuts a_g_columnCuts a_g_bandRows a_g_zoneColumns a_g_rows a_g_sheets sp_cornerCount v2 v3 v4 v5 v6 v7 sp_first sp_many g_bandRows g_zoneColumns g_rows g_sheets f8 f9 hm32) 1 rfl rfl (cwV 0 hts gX10_around_X6_lookAround rfl rfl rfl (by decide +kernel) ⟨Nat.le_of_ble_eq_true rfl, Nat.le_of_ble_eq_true rfl⟩) rfl rfl (Nat.le_of_ble_eq_true rfl) dX10_around_32 ⟨Nat.zero_le _, Nat.zero_le _⟩ [8, 0, 1, 2, 3, 4, 5, 6, 7] 9 rfl ⟨rfl, rfl, rfl⟩ (fun H locs hP hD hS => ?_)
        obtain ⟨hP, hD⟩ : va_PD D A ((a_x, .inr (10, [.ref a_at, .ref a_g, .ref a_st, .ref a_x_kept, .int x_keptStates, .ref a_tp, .ref a_rd, .ref a_qu, .ref a_sp, .ref a_wk, .ref a_bx, .ref a_nt, .ref a_nu, .ref a_x_seen])) :: (a_sp, .inr (6, [.ref a_g, .ref a_sp_first, .ref a_sp_many, .ref a_sp_corner, .int sp_cornerCount, .int v2, .int v3, .int v4, .int v5, .int v6, .int v7])) :: (a_sp_first, .inl (ci 0, 4, .inl f8)) :: (a_sp_many, .inl (ci 0, 4, .inl f9)) :: (a_g, .inr (2, [.ref a_g_rowCuts, .ref a_g_columnCuts, .ref a_g_bandRows, .ref a_g_zoneColumns, .ref a_g_rows, .ref a_g_sheets])) :: (a_g_bandRows, .inl (ci 0, 5, .inl g_bandRows)) :: (a_g_zoneColumns, .inl (ci 0, 5, .inl g_zoneColumns)) :: (a_g_rows, .inl (ci 0, 5, .inl g_rows)) :: (a_g_sheets, .inl (ci 0, 5, .inl g_sheets)) :: Rw) H := ⟨hP, hD⟩
        refine lv_iload_n (pc := 35) hx hb dX10_around_35 rfl (lv_at hl 3 rfl) ?_
        refine lv_iconst (pc := 36) (v := (-1)) hx hb dX10_around_36 (by decide) ?_
        refine q_icmp_ne (pc := 37) (tgt := 48) hx hb dX10_around_37 (by decide) rfl hf (fun hf => ?_) (fun hf => ?_)
        · refine lv_iload_n (pc := 48) hx hb dX10_around_48 rfl (lv_at hl 3 rfl) ?_
          refine lv_aload_n (pc := 49) hx hb dX10_around_49 rfl (lv_at hl 0 rfl) ?_
          refine va_get (pc := 50) (D := D) (ci := 10) (v := .ref a_sp) (C := RX10) (T := TX10) (N := 14) hx hb hts hinX10 hown hK hP 0 rfl rfl 8 (by decide) w_2 (fun _ h9 => h9) rfl dX10_around_50 ?_
          obtain ⟨v10, hm53, hf⟩ := q_b1_e hf
          refine q_cVr (pc := 53) (As := []) (rest := [.int p3]) (v0 := (some (.int v10))) ⟨hx, hb, hml, hown, hts⟩ hK hA hZ hP hD hS hl.1 [1, 3] 9 rfl ⟨rfl, rfl, rfl⟩ (c_Spot_allBeside l D ci A sa N (Rw) a_sp a_g a_sp_first a_sp_many a_sp_corner sp_cornerCount v2 v3 v4 v5 v6 v7 f9 v10 hm53) 1 rfl rfl (cwV 0 hts gX10_around_X6_allBeside rfl rfl rfl (by decide +kernel) ⟨Nat.le_of_ble_eq_true rfl, Nat.le_of_ble_eq_true rfl⟩) rfl rfl (Nat.le_of_ble_eq_true rfl) dX10_around_53 ⟨Nat.zero_le _, Nat.zero_le _⟩ (fun locs hS => ?_)
          refine q_icmp_ge (pc := 56) (tgt := 70) hx hb dX10_around_56 (by decide) rfl hf (fun hf => ?_) (fun hf => ?_)
          · refine lv_bipush (pc := 70) (v := (-2)) hx hb dX10_around_70 (by decide) ?_
            obtain ⟨e90, e91, e92, e93, e94, e95, e96, e97, e98⟩ := q_inj9 (Option.some.inj hf)
            rw [hQ, ← e90, ← e91, ← e92, ← e93, ← e94, ← e95, ← e96, ← e97, ← e98]
            exact q_iret (pc := 72) hx hb hr hlocks hP hD hS dX10_around_72
          · refine lv_aload_n (pc := 59) hx hb dX10_around_59 rfl (lv_at hl 0 rfl) ?_
            refine va_get (pc := 60) (D := D) (ci := 10) (v := .ref a_sp) (C := RX10) (T := TX10) (N := 14) hx hb hts hinX10 hown hK hP 0 rfl rfl 8 (by decide) w_2 (fun _ h9 => h9) rfl dX10_around_60 ?_
            refine lv_iload_n (pc := 63) hx hb dX10_around_63 rfl (lv_at hl 3 rfl) ?_
            obtain ⟨v11, hm64, hf⟩ := q_b1_e hf
            refine q_cVr (pc := 64) (As := [.int p3]) (rest := []) (v0 := (some (.int v11))) ⟨hx, hb, hml, hown, hts⟩ hK hA hZ hP hD hS hl.1 [1, 2, 3] 9 rfl ⟨rfl, rfl, rfl⟩ (c_Spot_besideKey l D ci A sa N (Rw) a_sp a_g a_sp_first a_sp_many a_sp_corner sp_cornerCount v2 v3 v4 v5 v6 v7 f8 f9 p3 v11 hm64) 1 rfl rfl (cwV 1 hts gX10_around_X6_besideKey rfl rfl rfl (by decide +kernel) ⟨Nat.le_of_ble_eq_true rfl, Nat.le_of_ble_eq_true rfl⟩) rfl rfl (Nat.le_of_ble_eq_true rfl) dX10_around_64 ⟨Nat.zero_le _, Nat.zero_le _⟩ (fun locs hS => ?_)
            refine lv_goto (pc := 67) (tgt := 72) hx hb dX10_around_67 (by decide) ?_
            obtain ⟨e90, e91, e92, e93, e94, e95, e96, e97, e98⟩ := q_inj9 (Option.some.inj hf)
            rw [hQ, ← e90, ← e91, ← e92, ← e93, ← e94, ← e95, ← e96, ← e97, ← e98]
            exact q_iret (pc := 72) hx hb hr hlocks hP hD hS dX10_around_72
        · refine lv_aload_n (pc := 40) hx hb dX10_around_40 rfl (lv_at hl 0 rfl) ?_
          refine va_get (pc := 41) (D := D) (ci := 10) (v := .ref a_sp) (C := RX10) (T := TX10) (N := 14) hx hb hts hinX10 hown hK hP 0 rfl rfl 8 (by decide) w_2 (fun _ h9 => h9) rfl dX10_around_41 ?_
          obtain ⟨v12, hm44, hf⟩ := q_b1_e hf
          refine q_cVr (pc := 44) (As := []) (rest := []) (v0 := (some (.int v12))) ⟨hx, hb, hml, hown, hts⟩ hK hA hZ hP hD hS hl.1 [1, 3] 9 rfl ⟨rfl, rfl, rfl⟩ (c_Spot_allBeside l D ci A sa N (Rw) a_sp a_g a_sp_first a_sp_many a_sp_corner sp_cornerCount v2 v3 v4 v5 v6 v7 f9 v12 hm44) 1 rfl rfl (cwV 0 hts gX10_around_X6_allBeside rfl rfl rfl (by decide +kernel) ⟨Nat.le_of_ble_eq_true rfl, Nat.le_of_ble_eq_true rfl⟩) rfl rfl (Nat.le_of_ble_eq_true rfl) dX10_around_44 ⟨Nat.zero_le _, Nat.zero_le _⟩ (fun locs hS => ?_)
          obtain ⟨e90, e91, e92, e93, e94, e95, e96, e97, e98⟩ := q_inj9 (Option.some.inj hf)
          rw [hQ, ← e90, ← e91, ← e92, ← e93, ← e94, ← e95, ← e96, ← e97, ← e98]
          exact q_iret (pc := 47) hx hb hr hlocks hP hD hS dX10_around_47
      · refine lv_iconst (pc := 17) (v := (-1)) hx hb dX10_around_17 (by decide) ?_
        obtain ⟨e90, e91, e92, e93, e94, e95, e96, e97, e98⟩ := q_inj9 (Option.some.inj hf)
        rw [hQ, ← e90, ← e91, ← e92, ← e93, ← e94, ← e95, ← e96, ← e97, ← e98]
        exact q_iret (pc := 18) hx hb hr hlocks hP hD hS dX10_around_18
  exact hgo _ _ rfl hP hS
/-! X10_ask -/
set_option maxRecDepth 100000 in
set_option maxHeartbeats 4000000 in
theorem c_X_ask (l : Launch) (D : va_G) (ci : Nat → ClassId) (A : Nat → Prop) (sa : Nat → Nat) (N : Nat) (Rw : va_W) (a_x : Nat) (a_at : Nat) (a_g : Nat) (a_st : Nat) (a_x_kept : Nat) (a_tp : Nat) (a_rd : Nat) (a_qu : Nat) (a_sp : Nat) (a_wk : Nat) (a_bx : Nat) (a_nt : Nat) (a_nu : Nat) (a_x_seen : Nat) (a_tp_bytes : Nat) (a_sp_first : Nat) (a_sp_many : Nat) (a_sp_corner : Nat) (a_ws : Nat) (a_wk_steps : Nat) (a_wk_reached : Nat) (n_wk_steps : Nat) (n_wk_reached : Nat) (a_ws_first : Nat) (a_ws_many : Nat) (a_ws_corner : Nat) (a_g_rowCuts : Nat) (a_g_columnCuts : Nat) (a_g_bandRows : Nat) (a_g_zoneColumns : Nat) (a_g_rows : Nat) (a_g_sheets : Nat) (x_keptStates : Int32) (qu_word : Int32) (qu_level : Int32) (qu_key : Int32) (qu_otherLevel : Int32) (qu_otherKey : Int32) (rd_next : Int32) (rd_end : Int32) (rd_level : Int32) (rd_key : Int32) (rd_fault : Int32) (rd_faultPlace : Int32) (rd_endedSoon : Int32) (tp_length : Int32) (tp_bytes : Nat → Int32) (sp_cornerCount : Int32) (sp_level : Int32) (sp_row : Int32) (sp_start : Int32) (sp_place : Int32) (sp_length : Int32) (sp_cap : Int32) (sp_first : Nat → Int32) (sp_many : Nat → Int32) (wk_many : Int32) (wk_steps : Nat → Int32) (wk_reached : Nat → Int32) (ws_cornerCount : Int32) (ws_level : Int32) (ws_row : Int32) (ws_start : Int32) (ws_place : Int32) (ws_length : Int32) (ws_cap : Int32) (ws_first : Nat → Int32) (ws_many : Nat → Int32) (bx_south : Int32) (bx_north : Int32) (bx_west : Int32) (bx_east : Int32) (at_right : Int32) (at_faulty : Int32) (at_endedSoon : Int32) (at_noSuchNumber : Int32) (g_rowCuts : Nat → Int32) (g_columnCuts : Nat → Int32) (g_bandRows : Nat → Int32) (g_zoneColumns : Nat → Int32) (g_rows : Nat → Int32) (g_sheets : Nat → Int32) (p1 : Int32) (r : Int32) (o1 : Int32) (o2 : Int32) (o3 : Int32) (o4 : Int32) (o5 : Int32) (o6 : Int32) (o7 : Int32) (o8 : Int32) (o9 : Int32) (o10 : Int32) (o11 : Int32) (o12 : Int32) (o13 : Int32) (o14 : Nat → Int32) (o15 : Nat → Int32) (o16 : Int32) (o17 : Int32) (o18 : Int32) (o19 : Int32) (o20 : Int32) (o21 : Int32) (o22 : Nat → Int32) (o23 : Nat → Int32) (o24 : Int32) (o25 : Nat → Int32) (o26 : Nat → Int32) (o27 : Int32) (o28 : Int32) (o29 : Int32) (o30 : Int32) (o31 : Int32) (o32 : Int32) (o33 : Int32) (o34 : Int32) (o35 : Int32) (o36 : Int32) (o37 : Int32) (o38 : Int32) (o39 : Int32) (o40 : Int32) (hf : f_X_ask N n_wk_steps n_wk_reached qu_word qu_level qu_key qu_otherLevel qu_otherKey rd_next rd_end rd_level rd_key rd_fault rd_faultPlace rd_endedSoon tp_bytes tp_length sp_first sp_many sp_level sp_row sp_start sp_place sp_length sp_cap wk_steps wk_reached wk_many ws_first ws_many ws_level ws_row ws_start ws_place ws_length ws_cap bx_south bx_north bx_west bx_east at_right at_faulty at_endedSoon at_noSuchNumber g_rowCuts g_columnCuts g_bandRows g_zoneColumns g_rows g_sheets p1 = some (r, o1, o2, o3, o4, o5, o6, o7, o8, o9, o10, o11, o12, o13, o14, o15, o16, o17, o18, o19, o20, o21, o22, o23, o24, o25, o26, o27, o28, o29, o30, o31, o32, o33, o34, o35, o36, o37, o38, o39, o40)) : Met l yX10_ask wsX10_ask ({ frames := 7, cells := 0, slots := 0, locals := 165 }) (va_Pc [.ref a_x, .int p1] (q_N D ci A sa ((a_x, .inr (10, [.ref a_at, .ref a_g, .ref a_st, .ref a_x_kept, .int x_keptStates, .ref a_tp, .ref a_rd, .ref a_qu, .ref a_sp, .ref a_wk, .ref a_bx, .ref a_nt, .ref a_nu, .ref a_x_seen])) :: (a_qu, .inr (5, [.ref a_rd, .ref a_tp, .int qu_word, .int qu_level, .int qu_key, .int qu_otherLevel, .int qu_otherKey])) :: (a_rd, .inr (3, [.ref a_g, .ref a_tp, .int rd_next, .int rd_end, .int rd_level, .int rd_key, .int rd_fault, .int rd_faultPlace, .int rd_endedSoon])) :: (a_tp, .inr (8, [.ref a_tp_bytes, .int tp_length])) :: (a_tp_bytes, .inl (ci 0, 200, .inl tp_bytes)) :: (a_sp, .inr (6, [.ref a_g, .ref a_sp_first, .ref a_sp_many, .ref a_sp_corner, .int sp_cornerCount, .int sp_level, .int sp_row, .int sp_start, .int sp_place, .int sp_length, .int sp_cap])) :: (a_sp_first, .inl (ci 0, 4, .inl sp_first)) :: (a_sp_many, .inl (ci 0, 4, .inl sp_many)) :: (a_wk, .inr (9, [.ref a_ws, .ref a_wk_steps, .ref a_wk_reached, .int wk_many])) :: (a_wk_steps, .inl (ci 0, n_wk_steps, .inl wk_steps)) :: (a_wk_reached, .inl (ci 0, n_wk_reached, .inl wk_reached)) :: (a_ws, .inr (6, [.ref a_g, .ref a_ws_first, .ref a_ws_many, .ref a_ws_corner, .int ws_cornerCount, .int ws_level, .int ws_row, .int ws_start, .int ws_place, .int ws_length, .int ws_cap])) :: (a_ws_first, .inl (ci 0, 4, .inl ws_first)) :: (a_ws_many, .inl (ci 0, 4, .inl ws_many)) :: (a_bx, .inr (1, [.ref a_g, .int bx_south, .int bx_north, .int bx_west, .int bx_east])) :: (a_at, .inr (0, [.ref a_g, .ref a_st, .int at_right, .int at_faulty, .int at_endedSoon, .int at_noSuchNumber])) :: (a_g, .inr (2, [.ref a_g_rowCuts, .ref a_g_columnCuts, .ref a_g_bandRows, .ref a_g_zoneColumns, .ref a_g_rows, .ref a_g_sheets])) :: (a_g_rowCuts, .inl (ci 0, 5, .inl g_rowCuts)) :: (a_g_columnCuts, .inl (ci 0, 5, .inl g_columnCuts)) :: (a_g_bandRows, .inl (ci 0, 5, .inl g_bandRows)) :: (a_g_zoneColumns, .inl (ci 0, 5, .inl g_zoneColumns)) :: (a_g_rows, .inl (ci 0, 5, .inl g_rows)) :: (a_g_sheets, .inl (ci 0, 5, .inl g_sheets)) :: Rw))) (q_Q (some (.int r)) (q_O D A ((a_x, .inr (10, [.ref a_at, .ref a_g, .ref a_st, .ref a_x_kept, .int x_keptStates, .ref a_tp, .ref a_rd, .ref a_qu, .ref a_sp, .ref a_wk, .ref a_bx, .ref a_nt, .ref a_nu, .ref a_x_seen])) :: (a_qu, .inr (5, [.ref a_rd, .ref a_tp, .int o1, .int o2, .int o3, .int o4, .int o5])) :: (a_rd, .inr (3, [.ref a_g, .ref a_tp, .int o6, .int o7, .int o8, .int o9, .int o10, .int o11, .int o12])) :: (a_tp, .inr (8, [.ref a_tp_bytes, .int o13])) :: (a_tp_bytes, .inl (ci 0, 200, .inl tp_bytes)) :: (a_sp, .inr (6, [.ref a_g, .ref a_sp_first, .ref a_sp_many, .ref a_sp_corner, .int sp_cornerCount, .int o16, .int o17, .int o18, .int o19, .int o20, .int o21])) :: (a_sp_first, .inl (ci 0, 4, .inl o14)) :: (a_sp_many, .inl (ci 0, 4, .inl o15)) :: (a_wk, .inr (9, [.ref a_ws, .ref a_wk_steps, .ref a_wk_reached, .int o24])) :: (a_wk_steps, .inl (ci 0, n_wk_steps, .inl o22)) :: (a_wk_reached, .inl (ci 0, n_wk_reached, .inl o23)) :: (a_ws, .inr (6, [.ref a_g, .ref a_ws_first, .ref a_ws_many, .ref a_ws_corner, .int ws_cornerCount, .int o27, .int o28, .int o29, .int o30, .int o31, .int o32])) :: (a_ws_first, .inl (ci 0, 4, .inl o25)) :: (a_ws_many, .inl (ci 0, 4, .inl o26)) :: (a_bx, .inr (1, [.ref a_g, .int o33, .int o34, .int o35, .int o36])) :: (a_at, .inr (0, [.ref a_g, .ref a_st, .int o37, .int o38, .int o39, .int o40])) :: (a_g, .inr (2, [.ref a_g_rowCuts, .ref a_g_columnCuts, .ref a_g_bandRows, .ref a_g_zoneColumns, .ref a_g_rows, .ref a_g_sheets])) :: (a_g_rowCuts, .inl (ci 0, 5, .inl g_rowCuts)) :: (a_g_columnCuts, .inl (ci 0, 5, .inl g_columnCuts)) :: (a_g_bandRows, .inl (ci 0, 5, .inl g_bandRows)) :: (a_g_zoneColumns, .inl (ci 0, 5, .inl g_zoneColumns)) :: (a_g_rows, .inl (ci 0, 5, .inl g_rows)) :: (a_g_sheets, .inl (ci 0, 5, .inl g_sheets)) :: Rw)) A) 0 0 A := by
  refine q_ofW (cc := cX10_ask) (maxL := 3) (ret := (some .int)) [.ref a_x, .int p1] (plainFor_of_name (by decide)) rfl (Nat.le_of_ble_eq_true rfl) ?_
  intro p e s m below meth c ls Q hQ hx hb hml hr hts hown hlocks hK hA hZ hP hD hS hl
  have hl : lv_has ls 3 [(0, .ref a_x), (1, .int p1)] := hl
  have hown : s.vm.findClass RX10 = some m.cls := hown
  have hinX10 : ∀ w ∈ wsX100, w ∈ wsX10_ask := fun _ h => List.mem_cons_of_mem _ (inWX100 _ h)
  have hinX8 : ∀ w ∈ wsX80, w ∈ wsX10_ask := fun _ h => List.mem_cons_of_mem _ (inWX80 _ h)
  have w_1 := hts (Cond.fieldLink RX10 39 "SheetNames" "tape" "LSheetNames$Tape;") (List.mem_cons_of_mem _ t_w882)
  have w_2 := hts (Cond.fieldLink RX10 57 "SheetNames" "question" "LSheetNames$Question;") (List.mem_cons_of_mem _ t_w883)
  have w_3 := hts (Cond.fieldLink RX10 10 "SheetNames" "now" "LSheetNames$Atlas;") (List.mem_cons_of_mem _ t_w884)
  have w_4 := hts (Cond.fieldLink RX10 48 "SheetNames" "reader" "LSheetNames$NameReader;") (List.mem_cons_of_mem _ t_w885)
  have wn_35 : (Cond.fieldLinkNest "SheetNames" 98 "SheetNames$Tape" "length" "I" "SheetNames").before ([.ref a_x, .int p1] : List Value).toArray s = true := (hZ.2.2.2.2.2.2.2.2.2.1 _ (List.mem_of_getElem? (i := 35) rfl)).use rfl
  unfold f_X_ask at hf
  have hgo : ∀ (H : Heap) (locs : List Loc), H = s.heap → va_P D vwCl ((a_x, .inr (10, [.ref a_at, .ref a_g, .ref a_st, .ref a_x_kept, .int x_keptStates, .ref a_tp, .ref a_rd, .ref a_qu, .ref a_sp, .ref a_wk, .ref a_bx, .ref a_nt, .ref a_nu, .ref a_x_seen])) :: (a_qu, .inr (5, [.ref a_rd, .ref a_tp, .int qu_word, .int qu_level, .int qu_key, .int qu_otherLevel, .int qu_otherKey])) :: (a_rd, .inr (3, [.ref a_g, .ref a_tp, .int rd_next, .int rd_end, .int rd_level, .int rd_key, .int rd_fault, .int rd_faultPlace, .int rd_endedSoon])) :: (a_tp, .inr (8, [.ref a_tp_bytes, .int tp_length])) :: (a_tp_bytes, .inl (ci 0, 200, .inl tp_bytes)) :: (a_sp, .inr (6, [.ref a_g, .ref a_sp_first, .ref a_sp_many, .ref a_sp_corner, .int sp_cornerCount, .int sp_level, .int sp_row, .int sp_start, .int sp_place, .int sp_length, .int sp_cap])) :: (a_sp_first, .inl (ci 0, 4, .inl sp_first)) :: (a_sp_many, .inl (ci 0, 4, .inl sp_many)) :: (a_wk, .inr (9, [.ref a_ws, .ref a_wk_steps, .ref a_wk_reached, .int wk_many])) :: (a_wk_steps, .inl (ci 0, n_wk_steps, .inl wk_steps)) :: (a_wk_reached, .inl (ci 0, n_wk_reached, .inl wk_reached)) :: (a_ws, .inr (6, [.ref a_g, .ref a_ws_first, .ref a_ws_many, .ref a_ws_corner, .int ws_cornerCount, .int ws_level, .int ws_row, .int ws_start, .int ws_place, .int ws_length, .int ws_cap])) :: (a_ws_first, .inl (ci 0, 4, .inl ws_first)) :: (a_ws_many, .inl (ci 0, 4, .inl ws_many)) :: (a_bx, .inr (1, [.ref a_g, .int bx_south, .int bx_north, .int bx_west, .int bx_east])) :: (a_at, .inr (0, [.ref a_g, .ref a_st, .int at_right, .int at_faulty, .int at_endedSoon, .int at_noSuchNumber])) :: (a_g, .inr (2, [.ref a_g_rowCuts, .ref a_g_columnCuts, .ref a_g_bandRows, .ref a_g_zoneColumns, .ref a_g_rows, .ref a_g_sheets])) :: (a_g_rowCuts, .inl (ci 0, 5, .inl g_rowCuts)) :: (a_g_columnCuts, .inl (ci 0, 5, .inl g_columnCuts)) :: (a_g_bandRows, .inl (ci 0, 5, .inl g_bandRows)) :: (a_g_zoneColumns, .inl (ci 0, 5, .inl g_zoneColumns)) :: (a_g_rows, .inl (ci 0, 5, .inl g_rows)) :: (a_g_sheets, .inl (ci 0, 5, .inl g_sheets)) :: Rw) H → va_S A s.heap H locs → W p l e ({ frames := 7, cells := 0, slots := 0, locals := 165 } : Room) s m ([.ref a_x, .int p1] : List Value).toArray below meth c H locs 0 0 Q (F0 m 0 ls []) := by
    intro H locs hH hP hS
    refine lv_iload_n (pc := 0) hx hb dX10_ask_0 rfl (lv_at hl 1 rfl) ?_
    refine lv_iconst (pc := 1) (v := 1) hx hb dX10_ask_1 (by decide) ?_
    refine lv_bipush (pc := 2) (v := 100) hx hb dX10_ask_2 (by decide) ?_
    obtain ⟨v1, hm4, hf⟩ := q_b1_e hf
    refine q_cSr (pc := 4) (As := [.int p1, .int 1, .int 100]) (rest := []) (v0 := (some (.int v1))) ⟨hx, hb, hml, hown, hts⟩ hK hA hZ hP hD hS hl.1 [] 23 rfl ⟨rfl, rfl, rfl⟩ (c_X_isFrom l D ci A sa N (Rw) p1 1 100 v1 hm4) (va_cwS 3 hts gX10_ask_X10_isFrom rfl rfl rfl (by decide +kernel) ⟨Nat.le_of_ble_eq_true rfl, Nat.le_of_ble_eq_true rfl⟩) rfl rfl (Nat.le_of_ble_eq_true rfl) dX10_ask_4 ⟨Nat.zero_le _, Nat.zero_le _⟩ (fun locs hS => ?_)
    refine q_if_eq (pc := 7) (tgt := 21) hx hb dX10_ask_7 (by decide) rfl hf (fun hf => ?_) (fun hf => ?_)
    · refine lv_iconst (pc := 21) (v := (-1)) hx hb dX10_ask_21 (by decide) ?_
      obtain ⟨e90, e91, e92, e93, e94, e95, e96, e97, e98, e99, e910, e911, e912, e913, e914, e915, e916, e917, e918, e919, e920, e921, e922, e923, e924, e925, e926, e927, e928, e929, e930, e931, e932, e933, e934, e935, e936, e937, e938, e939, e940⟩ := q_inj41 (Option.some.inj hf)
      rw [hQ, ← e90, ← e91, ← e92, ← e93, ← e94, ← e95, ← e96, ← e97, ← e98, ← e99, ← e910, ← e911, ← e912, ← e913, ← e914, ← e915, ← e916, ← e917, ← e918, ← e919, ← e920, ← e921, ← e922, ← e923, ← e924, ← e925, ← e926, ← e927, ← e928, ← e929, ← e930, ← e931, ← e932, ← e933, ← e934, ← e935, ← e936, ← e937, ← e938, ← e939, ← e940]
      exact q_iret (pc := 22) hx hb hr hlocks hP hD hS dX10_ask_22
    · refine lv_aload_n (pc := 10) hx hb dX10_ask_10 rfl (lv_at hl 0 rfl) ?_
      refine va_get (pc := 11) (D := D) (ci := 10) (v := .ref a_tp) (C := RX10) (T := TX10) (N := 14) hx hb hts hinX10 hown hK hP 0 rfl rfl 5 (by decide) w_1 (fun _ h9 => h9) rfl dX10_ask_11 ?_
      refine va_getN (pc := 14) (D := D) (ci := 8) (v := .int tp_length) (C := RX8) (T := TX8) (N := 2) hx hb hts hinX8 hown hK hP 3 rfl rfl 1 (by decide) wn_35 (fun _ h9 => h9) rfl dX10_ask_14 ?_
      refine lv_iload_n (pc := 17) hx hb dX10_ask_17 rfl (lv_at hl 1 rfl) ?_
      refine q_icmp_ge (pc := 18) (tgt := 23) hx hb dX10_ask_18 (by decide) rfl hf (fun hf => ?_) (fun hf => ?_)
      · refine lv_aload_n (pc := 23) hx hb dX10_ask_23 rfl (lv_at hl 0 rfl) ?_
        refine va_get (pc := 24) (D := D) (ci := 10) (v := .ref a_qu) (C := RX10) (T := TX10) (N := 14) hx hb hts hinX10 hown hK hP 0 rfl rfl 7 (by decide) w_2 (fun _ h9 => h9) rfl dX10_ask_24 ?_
        refine lv_iload_n (pc := 27) hx hb dX10_ask_27 rfl (lv_at hl 1 rfl) ?_
        obtain ⟨v2, v3, v4, v5, v6, v7, v8, v9, v10, v11, v12, v13, v14, hm28, hf⟩ := q_b13_e hf
        refine q_cV (pc := 28) (As := [.int p1]) (rest := []) (v0 := (some (.int v2))) ⟨hx, hb, hml, hown, hts⟩ hK hA hZ hP hD hS hl.1 [1, 2, 3, 4, 16, 17, 18, 19, 20, 21, 22, 0, 5, 6, 7, 8, 9, 10, 11, 12, 13, 14, 15] 23 rfl ⟨rfl, rfl, rfl⟩ (c_Question_read l D ci A sa N ((a_x, .inr (10, [.ref a_at, .ref a_g, .ref a_st, .ref a_x_kept, .int x_keptStates, .ref a_tp, .ref a_rd, .ref a_qu, .ref a_sp, .ref a_wk, .ref a_bx, .ref a_nt, .ref a_nu, .ref a_x_seen])) :: (a_sp, .inr (6, [.ref a_g, .ref a_sp_first, .ref a_sp_many, .ref a_sp_corner, .int sp_cornerCount, .int sp_level, .int sp_row, .int sp_start, .int sp_place, .int sp_length, .int sp_cap])) :: (a_sp_first, .inl (ci 0, 4, .inl sp_first)) :: (a_sp_many, .inl (ci 0, 4, .inl sp_many)) :: (a_wk, .inr (9, [.ref a_ws, .ref a_wk_steps, .ref a_wk_reached, .int wk_many])) :: (a_wk_steps, .inl (ci 0, n_wk_steps, .inl wk_steps)) :: (a_wk_reached, .inl (ci 0, n_wk_reached, .inl wk_reached)) :: (a_ws, .inr (6, [.ref a_g, .ref a_ws_first, .ref a_ws_many, .ref a_ws_corner, .int ws_cornerCount, .int ws_level, .int ws_row, .int ws_start, .int ws_place, .int ws_length, .int ws_cap])) :: (a_ws_first, .inl (ci 0, 4, .inl ws_first)) :: (a_ws_many, .inl (ci 0, 4, .inl ws_many)) :: (a_bx, .inr (1, [.ref a_g, .int bx_south, .int bx_north, .int bx_west, .int bx_east])) :: (a_at, .inr (0, [.ref a_g, .ref a_st, .int at_right, .int at_faulty, .int at_endedSoon, .int at_noSuchNumber])) :: Rw) a_qu a_rd a_tp a_g a_tp_bytes a_g_rowCuts a_g_columnCuts a_g_bandRows a_g_zoneColumns a_g_rows a_g_sheets qu_word qu_level qu_key qu_otherLevel qu_otherKey rd_next rd_end rd_level rd_key rd_fault rd_faultPlace rd_endedSoon tp_length tp_bytes g_rowCuts g_columnCuts g_bandRows g_zoneColumns g_rows g_sheets p1 v2 v3 v4 v5 v6 v7 v8 v9 v10 v11 v12 v13 v14 hm28) 1 rfl rfl (cwV 1 hts gX10_ask_X5_read rfl rfl rfl (by decide +kernel) ⟨Nat.le_of_ble_eq_true rfl, Nat.le_of_ble_eq_true rfl⟩) rfl rfl (Nat.le_of_ble_eq_true rfl) dX10_ask_28 ⟨Nat.zero_le _, Nat.zero_le _⟩ [11, 0, 1, 2, 3, 12, 13, 14, 15, 16, 17, 18, 19, 20, 21, 22, 4, 5, 6, 7, 8, 9, 10] 23 rfl ⟨rfl, rfl, rfl⟩ (fun H locs hP hD hS => ?_)
        obtain ⟨hP, hD⟩ : va_PD D A ((a_x, .inr (10, [.ref a_at, .ref a_g, .ref a_st, .ref a_x_kept, .int x_keptStates, .ref a_tp, .ref a_rd, .ref a_qu, .ref a_sp, .ref a_wk, .ref a_bx, .ref a_nt, .ref a_nu, .ref a_x_seen])) :: (a_qu, .inr (5, [.ref a_rd, .ref a_tp, .int v3, .int v4, .int v5, .int v6, .int v7])) :: (a_rd, .inr (3, [.ref a_g, .ref a_tp, .int v8, .int v9, .int v10, .int v11, .int v12, .int v13, .int v14])) :: (a_tp, .inr (8, [.ref a_tp_bytes, .int tp_length])) :: (a_tp_bytes, .inl (ci 0, 200, .inl tp_bytes)) :: (a_sp, .inr (6, [.ref a_g, .ref a_sp_first, .ref a_sp_many, .ref a_sp_corner, .int sp_cornerCount, .int sp_level, .int sp_row, .int sp_start, .int sp_place, .int sp_length, .int sp_cap])) :: (a_sp_first, .inl (ci 0, 4, .inl sp_first)) :: (a_sp_many, .inl (ci 0, 4, .inl sp_many)) :: (a_wk, .inr (9, [.ref a_ws, .ref a_wk_steps, .ref a_wk_reached, .int wk_many])) :: (a_wk_steps, .inl (ci 0, n_wk_steps, .inl wk_steps)) :: (a_wk_reached, .inl (ci 0, n_wk_reached, .inl wk_reached)) :: (a_ws, .inr (6, [.ref a_g, .ref a_ws_first, .ref a_ws_many, .ref a_ws_corner, .int ws_cornerCount, .int ws_level, .int ws_row, .int ws_start, .int ws_place, .int ws_length, .int ws_cap])) :: (a_ws_first, .inl (ci 0, 4, .inl ws_first)) :: (a_ws_many, .inl (ci 0, 4, .inl ws_many)) :: (a_bx, .inr (1, [.ref a_g, .int bx_south, .int bx_north, .int bx_west, .int bx_east])) :: (a_at, .inr (0, [.ref a_g, .ref a_st, .int at_right, .int at_faulty, .int at_endedSoon, .int at_noSuchNumber])) :: (a_g, .inr (2, [.ref a_g_rowCuts, .ref a_g_columnCuts, .ref a_g_bandRows, .ref a_g_zoneColumns, .ref a_g_rows, .ref a_g_sheets])) :: (a_g_rowCuts, .inl (ci 0, 5, .inl g_rowCuts)) :: (a_g_columnCuts, .inl (ci 0, 5, .inl g_columnCuts)) :: (a_g_bandRows, .inl (ci 0, 5, .inl g_bandRows)) :: (a_g_zoneColumns, .inl (ci 0, 5, .inl g_zoneColumns)) :: (a_g_rows, .inl (ci 0, 5, .inl g_rows)) :: (a_g_sheets, .inl (ci 0, 5, .inl g_sheets)) :: Rw) H := ⟨hP, hD⟩
        refine lv_istore_n (pc := 31) (lv' := [(2, .int v2), (0, .ref a_x), (1, .int p1)]) hx hb dX10_ask_31 rfl hl (by decide) rfl (fun ls hl => ?_)
        refine lv_aload_n (pc := 32) hx hb dX10_ask_32 rfl (lv_at hl 1 rfl) ?_
        refine va_get (pc := 33) (D := D) (ci := 10) (v := .ref a_tp) (C := RX10) (T := TX10) (N := 14) hx hb hts hinX10 hown hK hP 0 rfl rfl 5 (by decide) w_1 (fun _ h9 => h9) rfl dX10_ask_33 ?_
        refine lv_iconst (pc := 36) (v := 0) hx hb dX10_ask_36 (by decide) ?_
        refine va_putN (pc := 37) (D := D) (ci := 8) (v := .int 0) (ty := .int) (C := RX8) (T := TX8) (N := 2) hx hb hts hinX8 tyX8 tyX8_ok nmX8 hown hK hP hD hS 3 rfl rfl 1 (by decide) wn_35 (fun _ h9 => h9) rfl (by decide +kernel) rfl rfl (Nat.le_of_ble_eq_true rfl) dX10_ask_37 (fun H locs hP hD hS => ?_)
        obtain ⟨hP, hD⟩ : va_PD D A ((a_x, .inr (10, [.ref a_at, .ref a_g, .ref a_st, .ref a_x_kept, .int x_keptStates, .ref a_tp, .ref a_rd, .ref a_qu, .ref a_sp, .ref a_wk, .ref a_bx, .ref a_nt, .ref a_nu, .ref a_x_seen])) :: (a_qu, .inr (5, [.ref a_rd, .ref a_tp, .int v3, .int v4, .int v5, .int v6, .int v7])) :: (a_rd, .inr (3, [.ref a_g, .ref a_tp, .int v8, .int v9, .int v10, .int v11, .int v12, .int v13, .int v14])) :: (a_tp, .inr (8, [.ref a_tp_bytes, .int 0])) :: (a_tp_bytes, .inl (ci 0, 200, .inl tp_bytes)) :: (a_sp, .inr (6, [.ref a_g, .ref a_sp_first, .ref a_sp_many, .ref a_sp_corner, .int sp_cornerCount, .int sp_level, .int sp_row, .int sp_start, .int sp_place, .int sp_length, .int sp_cap])) :: (a_sp_first, .inl (ci 0, 4, .inl sp_first)) :: (a_sp_many, .inl (ci 0, 4, .inl sp_many)) :: (a_wk, .inr (9, [.ref a_ws, .ref a_wk_steps, .ref a_wk_reached, .int wk_many])) :: (a_wk_steps, .inl (ci 0, n_wk_steps, .inl wk_steps)) :: (a_wk_reached, .inl (ci 0, n_wk_reached, .inl wk_reached)) :: (a_ws, .inr (6, [.ref a_g, .ref a_ws_first, .ref a_ws_many, .ref a_ws_corner, .int ws_cornerCount, .int ws_level, .int ws_row, .int ws_start, .int ws_place, .int ws_length, .int ws_cap])) :: (a_ws_first, .inl (ci 0, 4, .inl ws_first)) :: (a_ws_many, .inl (ci 0, 4, .inl ws_many)) :: (a_bx, .inr (1, [.ref a_g, .int bx_south, .int bx_north, .int bx_west, .int bx_east])) :: (a_at, .inr (0, [.ref a_g, .ref a_st, .int at_right, .int at_faulty, .int at_endedSoon, .int at_noSuchNumber])) :: (a_g, .inr (2, [.ref a_g_rowCuts, .ref a_g_columnCuts, .ref a_g_bandRows, .ref a_g_zoneColumns, .ref a_g_rows, .ref a_g_sheets])) :: (a_g_rowCuts, .inl (ci 0, 5, .inl g_rowCuts)) :: (a_g_columnCuts, .inl (ci 0, 5, .inl g_columnCuts)) :: (a_g_bandRows, .inl (ci 0, 5, .inl g_bandRows)) :: (a_g_zoneColumns, .inl (ci 0, 5, .inl g_zoneColumns)) :: (a_g_rows, .inl (ci 0, 5, .inl g_rows)) :: (a_g_sheets, .inl (ci 0, 5, .inl g_sheets)) :: Rw) H := ⟨hP, hD⟩
        refine lv_aload_n (pc := 40) hx hb dX10_ask_40 rfl (lv_at hl 1 rfl) ?_
        refine va_get (pc := 41) (D := D) (ci := 10) (v := .ref a_at) (C := RX10) (T := TX10) (N := 14) hx hb hts hinX10 hown hK hP 0 rfl rfl 0 (by decide) w_3 (fun _ h9 => h9) rfl dX10_ask_41 ?_
        refine lv_aload_n (pc := 44) hx hb dX10_ask_44 rfl (lv_at hl 1 rfl) ?_
        refine va_get (pc := 45) (D := D) (ci := 10) (v := .ref a_rd) (C := RX10) (T := TX10) (N := 14) hx hb hts hinX10 hown hK hP 0 rfl rfl 6 (by decide) w_4 (fun _ h9 => h9) rfl dX10_ask_45 ?_
        refine lv_iload_n (pc := 48) hx hb dX10_ask_48 rfl (lv_at hl 0 rfl) ?_
        obtain ⟨v15, v16, v17, v18, hm49, hf⟩ := q_b4_e hf
        refine q_cV (pc := 49) (As := [.ref a_rd, .int v2]) (rest := []) (v0 := none) ⟨hx, hb, hml, hown, hts⟩ hK hA hZ hP hD hS hl.1 [2, 15, 0, 1, 3, 4, 5, 6, 7, 8, 9, 10, 11, 12, 13, 14, 16, 17, 18, 19, 20, 21, 22] 23 rfl ⟨rfl, rfl, rfl⟩ (c_Atlas_countText l D ci A sa N ((a_x, .inr (10, [.ref a_at, .ref a_g, .ref a_st, .ref a_x_kept, .int x_keptStates, .ref a_tp, .ref a_rd, .ref a_qu, .ref a_sp, .ref a_wk, .ref a_bx, .ref a_nt, .ref a_nu, .ref a_x_seen])) :: (a_qu, .inr (5, [.ref a_rd, .ref a_tp, .int v3, .int v4, .int v5, .int v6, .int v7])) :: (a_tp, .inr (8, [.ref a_tp_bytes, .int 0])) :: (a_tp_bytes, .inl (ci 0, 200, .inl tp_bytes)) :: (a_sp, .inr (6, [.ref a_g, .ref a_sp_first, .ref a_sp_many, .ref a_sp_corner, .int sp_cornerCount, .int sp_level, .int sp_row, .int sp_start, .int sp_place, .int sp_length, .int sp_cap])) :: (a_sp_first, .inl (ci 0, 4, .inl sp_first)) :: (a_sp_many, .inl (ci 0, 4, .inl sp_many)) :: (a_wk, .inr (9, [.ref a_ws, .ref a_wk_steps, .ref a_wk_reached, .int wk_many])) :: (a_wk_steps, .inl (ci 0, n_wk_steps, .inl wk_steps)) :: (a_wk_reached, .inl (ci 0, n_wk_reached, .inl wk_reached)) :: (a_ws, .inr (6, [.ref a_g, .ref a_ws_first, .ref a_ws_many, .ref a_ws_corner, .int ws_cornerCount, .int ws_level, .int ws_row, .int ws_start, .int ws_place, .int ws_length, .int ws_cap])) :: (a_ws_first, .inl (ci 0, 4, .inl ws_first)) :: (a_ws_many, .inl (ci 0, 4, .inl ws_many)) :: (a_bx, .inr (1, [.ref a_g, .int bx_south, .int bx_north, .int bx_west, .int bx_east])) :: (a_g, .inr (2, [.ref a_g_rowCuts, .ref a_g_columnCuts, .ref a_g_bandRows, .ref a_g_zoneColumns, .ref a_g_rows, .ref a_g_sheets])) :: (a_g_rowCuts, .inl (ci 0, 5, .inl g_rowCuts)) :: (a_g_columnCuts, .inl (ci 0, 5, .inl g_columnCuts)) :: (a_g_bandRows, .inl (ci 0, 5, .inl g_bandRows)) :: (a_g_zoneColumns, .inl (ci 0, 5, .inl g_zoneColumns)) :: (a_g_rows, .inl (ci 0, 5, .inl g_rows)) :: (a_g_sheets, .inl (ci 0, 5, .inl g_sheets)) :: Rw) a_rd a_g a_tp a_at a_st v8 v9 v10 v11 v12 v13 v14 at_right at_faulty at_endedSoon at_noSuchNumber v2 v15 v16 v17 v18 hm49) 15 rfl rfl (cwV 2 hts gX10_ask_X0_countText rfl rfl rfl (by decide +kernel) ⟨Nat.le_of_ble_eq_true rfl, Nat.le_of_ble_eq_true rfl⟩) rfl rfl (Nat.le_of_ble_eq_true rfl) dX10_ask_49 ⟨Nat.zero_le _, Nat.zero_le _⟩ [2, 3, 0, 4, 5, 6, 7, 8, 9, 10, 11, 12, 13, 14, 15, 1, 16, 17, 18, 19, 20, 21, 22] 23 rfl ⟨rfl, rfl, rfl⟩ (fun H locs hP hD hS => ?_)
        obtain ⟨hP, hD⟩ : va_PD D A ((a_x, .inr (10, [.ref a_at, .ref a_g, .ref a_st, .ref a_x_kept, .int x_keptStates, .ref a_tp, .ref a_rd, .ref a_qu, .ref a_sp, .ref a_wk, .ref a_bx, .ref a_nt, .ref a_nu, .ref a_x_seen])) :: (a_qu, .inr (5, [.ref a_rd, .ref a_tp, .int v3, .int v4, .int v5, .int v6, .int v7])) :: (a_rd, .inr (3, [.ref a_g, .ref a_tp, .int v8, .int v9, .int v10, .int v11, .int v12, .int v13, .int v14])) :: (a_tp, .inr (8, [.ref a_tp_bytes, .int 0])) :: (a_tp_bytes, .inl (ci 0, 200, .inl tp_bytes)) :: (a_sp, .inr (6, [.ref a_g, .ref a_sp_first, .ref a_sp_many, .ref a_sp_corner, .int sp_cornerCount, .int sp_level, .int sp_row, .int sp_start, .int sp_place, .int sp_length, .int sp_cap])) :: (a_sp_first, .inl (ci 0, 4, .inl sp_first)) :: (a_sp_many, .inl (ci 0, 4, .inl sp_many)) :: (a_wk, .inr (9, [.ref a_ws, .ref a_wk_steps, .ref a_wk_reached, .int wk_many])) :: (a_wk_steps, .inl (ci 0, n_wk_steps, .inl wk_steps)) :: (a_wk_reached, .inl (ci 0, n_wk_reached, .inl wk_reached)) :: (a_ws, .inr (6, [.ref a_g, .ref a_ws_first, .ref a_ws_many, .ref a_ws_corner, .int ws_cornerCount, .int ws_level, .int ws_row, .int ws_start, .int ws_place, .int ws_length, .int ws_cap])) :: (a_ws_first, .inl (ci 0, 4, .inl ws_first)) :: (a_ws_many, .inl (ci 0, 4, .inl ws_many)) :: (a_bx, .inr (1, [.ref a_g, .int bx_south, .int bx_north, .int bx_west, .int bx_east])) :: (a_at, .inr (0, [.ref a_g, .ref a_st, .int v15, .int v16, .int v17, .int v18])) :: (a_g, .inr (2, [.ref a_g_rowCuts, .ref a_g_columnCuts, .ref a_g_bandRows, .ref a_g_zoneColumns, .ref a_g_rows, .ref a_g_sheets])) :: (a_g_rowCuts, .inl (ci 0, 5, .inl g_rowCuts)) :: (a_g_columnCuts, .inl (ci 0, 5, .inl g_columnCuts)) :: (a_g_bandRows, .inl (ci 0, 5, .inl g_bandRows)) :: (a_g_zoneColumns, .inl (ci 0, 5, .inl g_zoneColumns)) :: (a_g_rows, .inl (ci 0, 5, .inl g_rows)) :: (a_g_sheets, .inl (ci 0, 5, .inl g_sheets)) :: Rw) H := ⟨hP, hD⟩
        refine lv_iload_n (pc := 52) hx hb dX10_ask_52 rfl (lv_at hl 0 rfl) ?_
        refine q_if_eq (pc := 53) (tgt := 67) hx hb dX10_ask_53 (by decide) rfl hf (fun hf => ?_) (fun hf => ?_)
        · refine lv_aload_n (pc := 67) hx hb dX10_ask_67 rfl (lv_at hl 1 rfl) ?_
          refine va_get (pc := 68) (D := D) (ci := 10) (v := .ref a_rd) (C := RX10) (T := TX10) (N := 14) hx hb hts hinX10 hown hK hP 0 rfl rfl 6 (by decide) w_4 (fun _ h9 => h9) rfl dX10_ask_68 ?_
          obtain ⟨v19, hm71, hf⟩ := q_b1_e hf
          refine q_cVr (pc := 71) (As := []) (rest := []) (v0 := (some (.int v19))) ⟨hx, hb, hml, hown, hts⟩ hK hA hZ hP hD hS hl.1 [2] 23 rfl ⟨rfl, rfl, rfl⟩ (c_NameReader_told l D ci A sa N (Rw) a_rd a_g a_tp v8 v9 v10 v11 v12 v13 v14 v19 hm71) 2 rfl rfl (cwV 0 hts gX10_ask_X3_told rfl rfl rfl (by decide +kernel) ⟨Nat.le_of_ble_eq_true rfl, Nat.le_of_ble_eq_true rfl⟩) rfl rfl (Nat.le_of_ble_eq_true rfl) dX10_ask_71 ⟨Nat.zero_le _, Nat.zero_le _⟩ (fun locs hS => ?_)
          obtain ⟨e90, e91, e92, e93, e94, e95, e96, e97, e98, e99, e910, e911, e912, e913, e914, e915, e916, e917, e918, e919, e920, e921, e922, e923, e924, e925, e926, e927, e928, e929, e930, e931, e932, e933, e934, e935, e936, e937, e938, e939, e940⟩ := q_inj41 (Option.some.inj hf)
          rw [hQ, ← e90, ← e91, ← e92, ← e93, ← e94, ← e95, ← e96, ← e97, ← e98, ← e99, ← e910, ← e911, ← e912, ← e913, ← e914, ← e915, ← e916, ← e917, ← e918, ← e919, ← e920, ← e921, ← e922, ← e923, ← e924, ← e925, ← e926, ← e927, ← e928, ← e929, ← e930, ← e931, ← e932, ← e933, ← e934, ← e935, ← e936, ← e937, ← e938, ← e939, ← e940]
          exact q_iret (pc := 74) hx hb hr hlocks hP hD hS dX10_ask_74
        · refine lv_aload_n (pc := 56) hx hb dX10_ask_56 rfl (lv_at hl 1 rfl) ?_
          refine lv_aload_n (pc := 57) hx hb dX10_ask_57 rfl (lv_at hl 1 rfl) ?_
          refine va_get (pc := 58) (D := D) (ci := 10) (v := .ref a_qu) (C := RX10) (T := TX10) (N := 14) hx hb hts hinX10 hown hK hP 0 rfl rfl 7 (by decide) w_2 (fun _ h9 => h9) rfl dX10_ask_58 ?_
          obtain ⟨v20, f21, f22, v23, v24, v25, v26, v27, v28, f29, f30, v31, f32, f33, v34, v35, v36, v37, v38, v39, v40, v41, v42, v43, hm61, hf⟩ := q_b24_e hf
          refine q_cV (pc := 61) (As := [.ref a_qu]) (rest := []) (v0 := (some (.int v20))) ⟨hx, hb, hml, hown, hts⟩ hK hA hZ hP hD hS hl.1 [0, 1, 5, 6, 7, 8, 9, 10, 11, 12, 13, 14, 16, 19, 20, 21, 22, 2, 3, 4, 15, 17, 18] 23 rfl ⟨rfl, rfl, rfl⟩ (c_X_answerTo l D ci A sa N ((a_rd, .inr (3, [.ref a_g, .ref a_tp, .int v8, .int v9, .int v10, .int v11, .int v12, .int v13, .int v14])) :: (a_tp, .inr (8, [.ref a_tp_bytes, .int 0])) :: (a_tp_bytes, .inl (ci 0, 200, .inl tp_bytes)) :: (a_at, .inr (0, [.ref a_g, .ref a_st, .int v15, .int v16, .int v17, .int v18])) :: (a_g_rowCuts, .inl (ci 0, 5, .inl g_rowCuts)) :: (a_g_columnCuts, .inl (ci 0, 5, .inl g_columnCuts)) :: Rw) a_x a_at a_g a_st a_x_kept a_tp a_rd a_qu a_sp a_wk a_bx a_nt a_nu a_x_seen a_sp_first a_sp_many a_sp_corner a_ws a_wk_steps a_wk_reached n_wk_steps n_wk_reached a_ws_first a_ws_many a_ws_corner a_g_rowCuts a_g_columnCuts a_g_bandRows a_g_zoneColumns a_g_rows a_g_sheets x_keptStates v3 v4 v5 v6 v7 sp_cornerCount sp_level sp_row sp_start sp_place sp_length sp_cap sp_first sp_many wk_many wk_steps wk_reached ws_cornerCount ws_level ws_row ws_start ws_place ws_length ws_cap ws_first ws_many bx_south bx_north bx_west bx_east g_bandRows g_zoneColumns g_rows g_sheets v20 f21 f22 v23 v24 v25 v26 v27 v28 f29 f30 v31 f32 f33 v34 v35 v36 v37 v38 v39 v40 v41 v42 v43 hm61) 0 rfl rfl (cwV 1 hts gX10_ask_X10_answerTo rfl rfl rfl (by decide +kernel) ⟨Nat.le_of_ble_eq_true rfl, Nat.le_of_ble_eq_true rfl⟩) rfl rfl (Nat.le_of_ble_eq_true rfl) dX10_ask_61 ⟨Nat.zero_le _, Nat.zero_le _⟩ [0, 1, 17, 18, 19, 2, 3, 4, 5, 6, 7, 8, 9, 10, 11, 20, 12, 21, 22, 13, 14, 15, 16] 23 rfl ⟨rfl, rfl, rfl⟩ (fun H locs hP hD hS => ?_)
          obtain ⟨hP, hD⟩ : va_PD D A ((a_x, .inr (10, [.ref a_at, .ref a_g, .ref a_st, .ref a_x_kept, .int x_keptStates, .ref a_tp, .ref a_rd, .ref a_qu, .ref a_sp, .ref a_wk, .ref a_bx, .ref a_nt, .ref a_nu, .ref a_x_seen])) :: (a_qu, .inr (5, [.ref a_rd, .ref a_tp, .int v3, .int v4, .int v5, .int v6, .int v7])) :: (a_rd, .inr (3, [.ref a_g, .ref a_tp, .int v8, .int v9, .int v10, .int v11, .int v12, .int v13, .int v14])) :: (a_tp, .inr (8, [.ref a_tp_bytes, .int 0])) :: (a_tp_bytes, .inl (ci 0, 200, .inl tp_bytes)) :: (a_sp, .inr (6, [.ref a_g, .ref a_sp_first, .ref a_sp_many, .ref a_sp_corner, .int sp_cornerCount, .int v23, .int v24, .int v25, .int v26, .int v27, .int v28])) :: (a_sp_first, .inl (ci 0, 4, .inl f21)) :: (a_sp_many, .inl (ci 0, 4, .inl f22)) :: (a_wk, .inr (9, [.ref a_ws, .ref a_wk_steps, .ref a_wk_reached, .int v31])) :: (a_wk_steps, .inl (ci 0, n_wk_steps, .inl f29)) :: (a_wk_reached, .inl (ci 0, n_wk_reached, .inl f30)) :: (a_ws, .inr (6, [.ref a_g, .ref a_ws_first, .ref a_ws_many, .ref a_ws_corner, .int ws_cornerCount, .int v34, .int v35, .int v36, .int v37, .int v38, .int v39])) :: (a_ws_first, .inl (ci 0, 4, .inl f32)) :: (a_ws_many, .inl (ci 0, 4, .inl f33)) :: (a_bx, .inr (1, [.ref a_g, .int v40, .int v41, .int v42, .int v43])) :: (a_at, .inr (0, [.ref a_g, .ref a_st, .int v15, .int v16, .int v17, .int v18])) :: (a_g, .inr (2, [.ref a_g_rowCuts, .ref a_g_columnCuts, .ref a_g_bandRows, .ref a_g_zoneColumns, .ref a_g_rows, .ref a_g_sheets])) :: (a_g_rowCuts, .inl (ci 0, 5, .inl g_rowCuts)) :: (a_g_columnCuts, .inl (ci 0, 5, .inl g_columnCuts)) :: (a_g_bandRows, .inl (ci 0, 5, .inl g_bandRows)) :: (a_g_zoneColumns, .inl (ci 0, 5, .inl g_zoneColumns)) :: (a_g_rows, .inl (ci 0, 5, .inl g_rows)) :: (a_g_sheets, .inl (ci 0, 5, .inl g_sheets)) :: Rw) H := ⟨hP, hD⟩
          refine lv_goto (pc := 64) (tgt := 74) hx hb dX10_ask_64 (by decide) ?_
          obtain ⟨e90, e91, e92, e93, e94, e95, e96, e97, e98, e99, e910, e911, e912, e913, e914, e915, e916, e917, e918, e919, e920, e921, e922, e923, e924, e925, e926, e927, e928, e929, e930, e931, e932, e933, e934, e935, e936, e937, e938, e939, e940⟩ := q_inj41 (Option.some.inj hf)
          rw [hQ, ← e90, ← e91, ← e92, ← e93, ← e94, ← e95, ← e96, ← e97, ← e98, ← e99, ← e910, ← e911, ← e912, ← e913, ← e914, ← e915, ← e916, ← e917, ← e918, ← e919, ← e920, ← e921, ← e922, ← e923, ← e924, ← e925, ← e926, ← e927, ← e928, ← e929, ← e930, ← e931, ← e932, ← e933, ← e934, ← e935, ← e936, ← e937, ← e938, ← e939, ← e940]
          exact q_iret (pc := 74) hx hb hr hlocks hP hD hS dX10_ask_74
      · refine lv_iconst (pc := 21) (v := (-1)) hx hb dX10_ask_21 (by decide) ?_
        obtain ⟨e90, e91, e92, e93, e94, e95, e96, e97, e98, e99, e910, e911, e912, e913, e914, e915, e916, e917, e918, e919, e920, e921, e922, e923, e924, e925, e926, e927, e928, e929, e930, e931, e932, e933, e934, e935, e936, e937, e938, e939, e940⟩ := q_inj41 (Option.some.inj hf)
        rw [hQ, ← e90, ← e91, ← e92, ← e93, ← e94, ← e95, ← e96, ← e97, ← e98, ← e99, ← e910, ← e911, ← e912, ← e913, ← e914, ← e915, ← e916, ← e917, ← e918, ← e919, ← e920, ← e921, ← e922, ← e923, ← e924, ← e925, ← e926, ← e927, ← e928, ← e929, ← e930, ← e931, ← e932, ← e933, ← e934, ← e935, ← e936, ← e937, ← e938, ← e939, ← e940]
        exact q_iret (pc := 22) hx hb hr hlocks hP hD hS dX10_ask_22
  exact hgo _ _ rfl hP hS
/-! X10_at -/
set_option maxRecDepth 100000 in
set_option maxHeartbeats 4000000 in
theorem c_X_at (l : Launch) (D : va_G) (ci : Nat → ClassId) (A : Nat → Prop) (sa : Nat → Nat) (N : Nat) (Rw : va_W) (a_x : Nat) (a_at : Nat) (a_g : Nat) (a_st : Nat) (a_x_kept : Nat) (a_tp : Nat) (a_rd : Nat) (a_qu : Nat) (a_sp : Nat) (a_wk : Nat) (a_bx : Nat) (a_nt : Nat) (a_nu : Nat) (a_x_seen : Nat) (a_sp_first : Nat) (a_sp_many : Nat) (a_sp_corner : Nat) (a_g_rowCuts : Nat) (a_g_columnCuts : Nat) (a_g_bandRows : Nat) (a_g_zoneColumns : Nat) (a_g_rows : Nat) (a_g_sheets : Nat) (x_keptStates : Int32) (sp_cornerCount : Int32) (sp_level : Int32) (sp_row : Int32) (sp_start : Int32) (sp_place : Int32) (sp_length : Int32) (sp_cap : Int32) (g_rowCuts : Nat → Int32) (g_columnCuts : Nat → Int32) (g_bandRows : Nat → Int32) (g_zoneColumns : Nat → Int32) (g_rows : Nat → Int32) (g_sheets : Nat → Int32) (p1 : Int32) (p2 : Int32) (p3 : Int32) (r : Int32) (o1 : Int32) (o2 : Int32) (o3 : Int32) (o4 : Int32) (o5 : Int32) (o6 : Int32) (hf : f_X_at N sp_level sp_row sp_start sp_place sp_length sp_cap g_rowCuts g_columnCuts g_bandRows g_zoneColumns g_rows g_sheets p1 p2 p3 = some (r, o1, o2, o3, o4, o5, o6)) : Met l yX10_at wsX10_at ({ frames := 3, cells := 0, slots := 0, locals := 71 }) (va_Pc [.ref a_x, .int p1, .int p2, .int p3] (q_N D ci A sa ((a_x, .inr (10, [.ref a_at, .ref a_g, .ref a_st, .ref a_x_kept, .int x_keptStates, .ref a_tp, .ref a_rd, .ref a_qu, .ref a_sp, .ref a_wk, .ref a_bx, .ref a_nt, .ref a_nu, .ref a_x_seen])) :: (a_sp, .inr (6, [.ref a_g, .ref a_sp_first, .ref a_sp_many, .ref a_sp_corner, .int sp_cornerCount, .int sp_level, .int sp_row, .int sp_start, .int sp_place, .int sp_length, .int sp_cap])) :: (a_g, .inr (2, [.ref a_g_rowCuts, .ref a_g_columnCuts, .ref a_g_bandRows, .ref a_g_zoneColumns, .ref a_g_rows, .ref a_g_sheets])) :: (a_g_rowCuts, .inl (ci 0, 5, .inl g_rowCuts)) :: (a_g_columnCuts, .inl (ci 0, 5, .inl g_columnCuts)) :: (a_g_bandRows, .inl (ci 0, 5, .inl g_bandRows)) :: (a_g_zoneColumns, .inl (ci 0, 5, .inl g_zoneColumns)) :: (a_g_rows, .inl (ci 0, 5, .inl g_rows)) :: (a_g_sheets, .inl (ci 0, 5, .inl g_sheets)) :: Rw))) (q_Q (some (.int r)) (q_O D A ((a_x, .inr (10, [.ref a_at, .ref a_g, .ref a_st, .ref a_x_kept, .int x_keptStates, .ref a_tp, .ref a_rd, .ref a_qu, .ref a_sp, .ref a_wk, .ref a_bx, .ref a_nt, .ref a_nu, .ref a_x_seen])) :: (a_sp, .inr (6, [.ref a_g, .ref a_sp_first, .ref a_sp_many, .ref a_sp_corner, .int sp_cornerCount, .int o1, .int o2, .int o3, .int o4, .int o5, .int o6])) :: (a_g, .inr (2, [.ref a_g_rowCuts, .ref a_g_columnCuts, .ref a_g_bandRows, .ref a_g_zoneColumns, .ref a_g_rows, .ref a_g_sheets])) :: (a_g_rowCuts, .inl (ci 0, 5, .inl g_rowCuts)) :: (a_g_columnCuts, .inl (ci 0, 5, .inl g_columnCuts)) :: (a_g_bandRows, .inl (ci 0, 5, .inl g_bandRows)) :: (a_g_zoneColumns, .inl (ci 0, 5, .inl g_zoneColumns)) :: (a_g_rows, .inl (ci 0, 5, .inl g_rows)) :: (a_g_sheets, .inl (ci 0, 5, .inl g_sheets)) :: Rw)) A) 0 0 A := by
  refine q_ofW (cc := cX10_at) (maxL := 4) (ret := (some .int)) [.ref a_x, .int p1, .int p2, .int p3] (plainFor_of_name (by decide)) rfl (Nat.le_of_ble_eq_true rfl) ?_
  intro p e s m below meth c ls Q hQ hx hb hml hr hts hown hlocks hK hA hZ hP hD hS hl
  have hl : lv_has ls 4 [(0, .ref a_x), (1, .int p1), (2, .int p2), (3, .int p3)] := hl
  have hown : s.vm.findClass RX10 = some m.cls := hown
  have hinX10 : ∀ w ∈ wsX100, w ∈ wsX10_at := fun _ h => List.mem_cons_of_mem _ (inWX100 _ h)
  have hinX6 : ∀ w ∈ wsX60, w ∈ wsX10_at := fun _ h => List.mem_cons_of_mem _ (inWX60 _ h)
  have w_1 := hts (Cond.fieldLink RX10 20 "SheetNames" "grid" "LSheetNames$Grid;") (List.mem_cons_of_mem _ t_w876)
  have w_2 := hts (Cond.constant RX10 207 (-1000000)) (List.mem_cons_of_mem _ t_w886)
  have w_3 := hts (Cond.fieldLink RX10 66 "SheetNames" "spot" "LSheetNames$Spot;") (List.mem_cons_of_mem _ t_w877)
  have wn_13 : (Cond.fieldLinkNest "SheetNames" 214 "SheetNames$Spot" "row" "I" "SheetNames").before ([.ref a_x, .int p1, .int p2, .int p3] : List Value).toArray s = true := (hZ.2.2.2.2.2.2.2.2.2.1 _ (List.mem_of_getElem? (i := 13) rfl)).use rfl
  have wn_14 : (Cond.fieldLinkNest "SheetNames" 217 "SheetNames$Spot" "place" "I" "SheetNames").before ([.ref a_x, .int p1, .int p2, .int p3] : List Value).toArray s = true := (hZ.2.2.2.2.2.2.2.2.2.1 _ (List.mem_of_getElem? (i := 14) rfl)).use rfl
  have wn_15 : (Cond.fieldLinkNest "SheetNames" 220 "SheetNames$Spot" "length" "I" "SheetNames").before ([.ref a_x, .int p1, .int p2, .int p3] : List Value).toArray s = true := (hZ.2.2.2.2.2.2.2.2.2.1 _ (List.mem_of_getElem? (i := 15) rfl)).use rfl
  unfold f_X_at at hf
  have hgo : ∀ (H : Heap) (locs : List Loc), H = s.heap → va_P D vwCl ((a_x, .inr (10, [.ref a_at, .ref a_g, .ref a_st, .ref a_x_kept, .int x_keptStates, .ref a_tp, .ref a_rd, .ref a_qu, .ref a_sp, .ref a_wk, .ref a_bx, .ref a_nt, .ref a_nu, .ref a_x_seen])) :: (a_sp, .inr (6, [.ref a_g, .ref a_sp_first, .ref a_sp_many, .ref a_sp_corner, .int sp_cornerCount, .int sp_level, .int sp_row, .int sp_start, .int sp_place, .int sp_length, .int sp_cap])) :: (a_g, .inr (2, [.ref a_g_rowCuts, .ref a_g_columnCuts, .ref a_g_bandRows, .ref a_g_zoneColumns, .ref a_g_rows, .ref a_g_sheets])) :: (a_g_rowCuts, .inl (ci 0, 5, .inl g_rowCuts)) :: (a_g_columnCuts, .inl (ci 0, 5, .inl g_columnCuts)) :: (a_g_bandRows, .inl (ci 0, 5, .inl g_bandRows)) :: (a_g_zoneColumns, .inl (ci 0, 5, .inl g_zoneColumns)) :: (a_g_rows, .inl (ci 0, 5, .inl g_rows)) :: (a_g_sheets, .inl (ci 0, 5, .inl g_sheets)) :: Rw) H → va_S A s.heap H locs → W p l e ({ frames := 3, cells := 0, slots := 0, locals := 71 } : Room) s m ([.ref a_x, .int p1, .int p2, .int p3] : List Value).toArray below meth c H locs 0 0 Q (F0 m 0 ls []) := by
    intro H locs hH hP hS
    refine lv_aload_n (pc := 0) hx hb dX10_at_0 rfl (lv_at hl 0 rfl) ?_
    refine va_get (pc := 1) (D := D) (ci := 10) (v := .ref a_g) (C := RX10) (T := TX10) (N := 14) hx hb hts hinX10 hown hK hP 0 rfl rfl 1 (by decide) w_1 (fun _ h9 => h9) rfl dX10_at_1 ?_
    refine lv_iload_n (pc := 4) hx hb dX10_at_4 rfl (lv_at hl 1 rfl) ?_
    refine lv_iload_n (pc := 5) hx hb dX10_at_5 rfl (lv_at hl 2 rfl) ?_
    obtain ⟨v1, hm6, hf⟩ := q_b1_e hf
    refine q_cVr (pc := 6) (As := [.int p1, .int p2]) (rest := []) (v0 := (some (.int v1))) ⟨hx, hb, hml, hown, hts⟩ hK hA hZ hP hD hS hl.1 [2, 8] 9 rfl ⟨rfl, rfl, rfl⟩ (c_Grid_hasSheet l D ci A sa N (Rw) a_g a_g_rowCuts a_g_columnCuts a_g_bandRows a_g_zoneColumns a_g_rows a_g_sheets g_sheets p1 p2 v1 hm6) 2 rfl rfl (cwV 2 hts gX10_at_X2_hasSheet rfl rfl rfl (by decide +kernel) ⟨Nat.le_of_ble_eq_true rfl, Nat.le_of_ble_eq_true rfl⟩) rfl rfl (Nat.le_of_ble_eq_true rfl) dX10_at_6 ⟨Nat.zero_le _, Nat.zero_le _⟩ (fun locs hS => ?_)
    refine q_if_ne (pc := 9) (tgt := 15) hx hb dX10_at_9 (by decide) rfl hf (fun hf => ?_) (fun hf => ?_)
    · refine lv_aload_n (pc := 15) hx hb dX10_at_15 rfl (lv_at hl 0 rfl) ?_
      refine va_get (pc := 16) (D := D) (ci := 10) (v := .ref a_sp) (C := RX10) (T := TX10) (N := 14) hx hb hts hinX10 hown hK hP 0 rfl rfl 8 (by decide) w_3 (fun _ h9 => h9) rfl dX10_at_16 ?_
      refine lv_iload_n (pc := 19) hx hb dX10_at_19 rfl (lv_at hl 1 rfl) ?_
      refine lv_iload_n (pc := 20) hx hb dX10_at_20 rfl (lv_at hl 2 rfl) ?_
      obtain ⟨v2, v3, v4, v5, v6, v7, hm21, hf⟩ := q_b6_e hf
      refine q_cV (pc := 21) (As := [.int p1, .int p2]) (rest := []) (v0 := none) ⟨hx, hb, hml, hown, hts⟩ hK hA hZ hP hD hS hl.1 [1, 2, 5, 6, 7, 8, 0, 3, 4] 9 rfl ⟨rfl, rfl, rfl⟩ (c_Spot_put l D ci A sa N ((a_x, .inr (10, [.ref a_at, .ref a_g, .ref a_st, .ref a_x_kept, .int x_keptStates, .ref a_tp, .ref a_rd, .ref a_qu, .ref a_sp, .ref a_wk, .ref a_bx, .ref a_nt, .ref a_nu, .ref a_x_seen])) :: (a_g_rowCuts, .inl (ci 0, 5, .inl g_rowCuts)) :: (a_g_columnCuts, .inl (ci 0, 5, .inl g_columnCuts)) :: Rw) a_sp a_g a_sp_first a_sp_many a_sp_corner a_g_rowCuts a_g_columnCuts a_g_bandRows a_g_zoneColumns a_g_rows a_g_sheets sp_cornerCount sp_level sp_row sp_start sp_place sp_length sp_cap g_bandRows g_zoneColumns g_rows g_sheets p1 p2 v2 v3 v4 v5 v6 v7 hm21) 1 rfl rfl (cwV 2 hts gX10_at_X6_put rfl rfl rfl (by decide +kernel) ⟨Nat.le_of_ble_eq_true rfl, Nat.le_of_ble_eq_true rfl⟩) rfl rfl (Nat.le_of_ble_eq_true rfl) dX10_at_21 ⟨Nat.zero_le _, Nat.zero_le _⟩ [6, 0, 1, 7, 8, 2, 3, 4, 5] 9 rfl ⟨rfl, rfl, rfl⟩ (fun H locs hP hD hS => ?_)
      obtain ⟨hP, hD⟩ : va_PD D A ((a_x, .inr (10, [.ref a_at, .ref a_g, .ref a_st, .ref a_x_kept, .int x_keptStates, .ref a_tp, .ref a_rd, .ref a_qu, .ref a_sp, .ref a_wk, .ref a_bx, .ref a_nt, .ref a_nu, .ref a_x_seen])) :: (a_sp, .inr (6, [.ref a_g, .ref a_sp_first, .ref a_sp_many, .ref a_sp_corner, .int sp_cornerCount, .int v2, .int v3, .int v4, .int v5, .int v6, .int v7])) :: (a_g, .inr (2, [.ref a_g_rowCuts, .ref a_g_columnCuts, .ref a_g_bandRows, .ref a_g_zoneColumns, .ref a_g_rows, .ref a_g_sheets])) :: (a_g_rowCuts, .inl (ci 0, 5, .inl g_rowCuts)) :: (a_g_columnCuts, .inl (ci 0, 5, .inl g_columnCuts)) :: (a_g_bandRows, .inl (ci 0, 5, .inl g_bandRows)) :: (a_g_zoneColumns, .inl (ci 0, 5, .inl g_zoneColumns)) :: (a_g_rows, .inl (ci 0, 5, .inl g_rows)) :: (a_g_sheets, .inl (ci 0, 5, .inl g_sheets)) :: Rw) H := ⟨hP, hD⟩
      refine lv_iload_n (pc := 24) hx hb dX10_at_24 rfl (lv_at hl 3 rfl) ?_
      rcases q_if_e hf with ⟨hc0, hf⟩ | ⟨hc0, hf⟩
      · refine lv_tableIn (pc := 25) (tgt := 64) (off := 39) hx hb dX10_at_25 (by rw [hc0]; decide) (by rw [hc0]; decide) (by rw [hc0]; decide) (by decide) ?_
        refine lv_aload_n (pc := 64) hx hb dX10_at_64 rfl (lv_at hl 0 rfl) ?_
        refine va_get (pc := 65) (D := D) (ci := 10) (v := .ref a_sp) (C := RX10) (T := TX10) (N := 14) hx hb hts hinX10 hown hK hP 0 rfl rfl 8 (by decide) w_3 (fun _ h9 => h9) rfl dX10_at_65 ?_
        refine va_getN (pc := 68) (D := D) (ci := 6) (v := .int v3) (C := RX6) (T := TX6) (N := 11) hx hb hts hinX6 hown hK hP 1 rfl rfl 6 (by decide) wn_13 (fun _ h9 => h9) rfl dX10_at_68 ?_
        obtain ⟨e90, e91, e92, e93, e94, e95, e96⟩ := q_inj7 (Option.some.inj hf)
        rw [hQ, ← e90, ← e91, ← e92, ← e93, ← e94, ← e95, ← e96]
        exact q_iret (pc := 71) hx hb hr hlocks hP hD hS dX10_at_71
      rcases q_if_e hf with ⟨hc1, hf⟩ | ⟨hc1, hf⟩
      · refine lv_tableIn (pc := 25) (tgt := 72) (off := 47) hx hb dX10_at_25 (by rw [hc1]; decide) (by rw [hc1]; decide) (by rw [hc1]; decide) (by decide) ?_
        refine lv_aload_n (pc := 72) hx hb dX10_at_72 rfl (lv_at hl 0 rfl) ?_
        refine va_get (pc := 73) (D := D) (ci := 10) (v := .ref a_sp) (C := RX10) (T := TX10) (N := 14) hx hb hts hinX10 hown hK hP 0 rfl rfl 8 (by decide) w_3 (fun _ h9 => h9) rfl dX10_at_73 ?_
        refine va_getN (pc := 76) (D := D) (ci := 6) (v := .int v5) (C := RX6) (T := TX6) (N := 11) hx hb hts hinX6 hown hK hP 1 rfl rfl 8 (by decide) wn_14 (fun _ h9 => h9) rfl dX10_at_76 ?_
        obtain ⟨e90, e91, e92, e93, e94, e95, e96⟩ := q_inj7 (Option.some.inj hf)
        rw [hQ, ← e90, ← e91, ← e92, ← e93, ← e94, ← e95, ← e96]
        exact q_iret (pc := 79) hx hb hr hlocks hP hD hS dX10_at_79
      rcases q_if_e hf with ⟨hc2, hf⟩ | ⟨hc2, hf⟩
      · refine lv_tableIn (pc := 25) (tgt := 80) (off := 55) hx hb dX10_at_25 (by rw [hc2]; decide) (by rw [hc2]; decide) (by rw [hc2]; decide) (by decide) ?_
        refine lv_aload_n (pc := 80) hx hb dX10_at_80 rfl (lv_at hl 0 rfl) ?_
        refine va_get (pc := 81) (D := D) (ci := 10) (v := .ref a_sp) (C := RX10) (T := TX10) (N := 14) hx hb hts hinX10 hown hK hP 0 rfl rfl 8 (by decide) w_3 (fun _ h9 => h9) rfl dX10_at_81 ?_
        refine va_getN (pc := 84) (D := D) (ci := 6) (v := .int v6) (C := RX6) (T := TX6) (N := 11) hx hb hts hinX6 hown hK hP 1 rfl rfl 9 (by decide) wn_15 (fun _ h9 => h9) rfl dX10_at_84 ?_
        obtain ⟨e90, e91, e92, e93, e94, e95, e96⟩ := q_inj7 (Option.some.inj hf)
        rw [hQ, ← e90, ← e91, ← e92, ← e93, ← e94, ← e95, ← e96]
        exact q_iret (pc := 87) hx hb hr hlocks hP hD hS dX10_at_87
      rcases q_if_e hf with ⟨hc3, hf⟩ | ⟨hc3, hf⟩
      · refine lv_tableIn (pc := 25) (tgt := 88) (off := 63) hx hb dX10_at_25 (by rw [hc3]; decide) (by rw [hc3]; decide) (by rw [hc3]; decide) (by decide) ?_
        refine lv_aload_n (pc := 88) hx hb dX10_at_88 rfl (lv_at hl 0 rfl) ?_
        refine va_get (pc := 89) (D := D) (ci := 10) (v := .ref a_sp) (C := RX10) (T := TX10) (N := 14) hx hb hts hinX10 hown hK hP 0 rfl rfl 8 (by decide) w_3 (fun _ h9 => h9) rfl dX10_at_89 ?_
        obtain ⟨v8, hm92, hf⟩ := q_b1_e hf
        refine q_cVr (pc := 92) (As := []) (rest := []) (v0 := (some (.int v8))) ⟨hx, hb, hml, hown, hts⟩ hK hA hZ hP hD hS hl.1 [1, 2, 5] 9 rfl ⟨rfl, rfl, rfl⟩ (c_Spot_band l D ci A sa N (Rw) a_sp a_g a_sp_first a_sp_many a_sp_corner a_g_rowCuts a_g_columnCuts a_g_bandRows a_g_zoneColumns a_g_rows a_g_sheets sp_cornerCount v2 v3 v4 v5 v6 v7 g_bandRows v8 hm92) 1 rfl rfl (cwV 0 hts gX10_at_X6_band rfl rfl rfl (by decide +kernel) ⟨Nat.le_of_ble_eq_true rfl, Nat.le_of_ble_eq_true rfl⟩) rfl rfl (Nat.le_of_ble_eq_true rfl) dX10_at_92 ⟨Nat.zero_le _, Nat.zero_le _⟩ (fun locs hS => ?_)
        obtain ⟨e90, e91, e92, e93, e94, e95, e96⟩ := q_inj7 (Option.some.inj hf)
        rw [hQ, ← e90, ← e91, ← e92, ← e93, ← e94, ← e95, ← e96]
        exact q_iret (pc := 95) hx hb hr hlocks hP hD hS dX10_at_95
      rcases q_if_e hf with ⟨hc4, hf⟩ | ⟨hc4, hf⟩
      · refine lv_tableIn (pc := 25) (tgt := 96) (off := 71) hx hb dX10_at_25 (by rw [hc4]; decide) (by rw [hc4]; decide) (by rw [hc4]; decide) (by decide) ?_
        refine lv_aload_n (pc := 96) hx hb dX10_at_96 rfl (lv_at hl 0 rfl) ?_
        refine va_get (pc := 97) (D := D) (ci := 10) (v := .ref a_sp) (C := RX10) (T := TX10) (N := 14) hx hb hts hinX10 hown hK hP 0 rfl rfl 8 (by decide) w_3 (fun _ h9 => h9) rfl dX10_at_97 ?_
        obtain ⟨v9, hm100, hf⟩ := q_b1_e hf
        refine q_cVr (pc := 100) (As := []) (rest := []) (v0 := (some (.int v9))) ⟨hx, hb, hml, hown, hts⟩ hK hA hZ hP hD hS hl.1 [1, 2, 6] 9 rfl ⟨rfl, rfl, rfl⟩ (c_Spot_zone l D ci A sa N (Rw) a_sp a_g a_sp_first a_sp_many a_sp_corner a_g_rowCuts a_g_columnCuts a_g_bandRows a_g_zoneColumns a_g_rows a_g_sheets sp_cornerCount v2 v3 v4 v5 v6 v7 g_zoneColumns v9 hm100) 1 rfl rfl (cwV 0 hts gX10_at_X6_zone rfl rfl rfl (by decide +kernel) ⟨Nat.le_of_ble_eq_true rfl, Nat.le_of_ble_eq_true rfl⟩) rfl rfl (Nat.le_of_ble_eq_true rfl) dX10_at_100 ⟨Nat.zero_le _, Nat.zero_le _⟩ (fun locs hS => ?_)
        obtain ⟨e90, e91, e92, e93, e94, e95, e96⟩ := q_inj7 (Option.some.inj hf)
        rw [hQ, ← e90, ← e91, ← e92, ← e93, ← e94, ← e95, ← e96]
        exact q_iret (pc := 103) hx hb hr hlocks hP hD hS dX10_at_103
      rcases q_if_e hf with ⟨hc5, hf⟩ | ⟨hc5, hf⟩
      · refine lv_tableIn (pc := 25) (tgt := 104) (off := 79) hx hb dX10_at_25 (by rw [hc5]; decide) (by rw [hc5]; decide) (by rw [hc5]; decide) (by decide) ?_
        refine lv_aload_n (pc := 104) hx hb dX10_at_104 rfl (lv_at hl 0 rfl) ?_
        refine va_get (pc := 105) (D := D) (ci := 10) (v := .ref a_sp) (C := RX10) (T := TX10) (N := 14) hx hb hts hinX10 hown hK hP 0 rfl rfl 8 (by decide) w_3 (fun _ h9 => h9) rfl dX10_at_105 ?_
        refine lv_iload_n (pc := 108) hx hb dX10_at_108 rfl (lv_at hl 1 rfl) ?_
        obtain ⟨v10, hm109, hf⟩ := q_b1_e hf
        refine q_cVr (pc := 109) (As := [.int p1]) (rest := []) (v0 := (some (.int v10))) ⟨hx, hb, hml, hown, hts⟩ hK hA hZ hP hD hS hl.1 [1, 2, 3, 4, 5, 6] 9 rfl ⟨rfl, rfl, rfl⟩ (c_Spot_numberOf l D ci A sa N (Rw) a_sp a_g a_sp_first a_sp_many a_sp_corner a_g_rowCuts a_g_columnCuts a_g_bandRows a_g_zoneColumns a_g_rows a_g_sheets sp_cornerCount v2 v3 v4 v5 v6 v7 g_rowCuts g_columnCuts g_bandRows g_zoneColumns p1 v10 hm109) 1 rfl rfl (cwV 1 hts gX10_at_X6_numberOf rfl rfl rfl (by decide +kernel) ⟨Nat.le_of_ble_eq_true rfl, Nat.le_of_ble_eq_true rfl⟩) rfl rfl (Nat.le_of_ble_eq_true rfl) dX10_at_109 ⟨Nat.zero_le _, Nat.zero_le _⟩ (fun locs hS => ?_)
        obtain ⟨e90, e91, e92, e93, e94, e95, e96⟩ := q_inj7 (Option.some.inj hf)
        rw [hQ, ← e90, ← e91, ← e92, ← e93, ← e94, ← e95, ← e96]
        exact q_iret (pc := 112) hx hb hr hlocks hP hD hS dX10_at_112
      have hsw : p3.toInt < 0 ∨ 5 < p3.toInt := by
        have hd0 := q_nei hc0; have hd1 := q_nei hc1; have hd2 := q_nei hc2; have hd3 := q_nei hc3; have hd4 := q_nei hc4; have hd5 := q_nei hc5
        rw [show (0 : Int32).toInt = 0 from rfl] at hd0; rw [show (1 : Int32).toInt = 1 from rfl] at hd1; rw [show (2 : Int32).toInt = 2 from rfl] at hd2; rw [show (3 : Int32).toInt = 3 from rfl] at hd3; rw [show (4 : Int32).toInt = 4 from rfl] at hd4; rw [show (5 : Int32).toInt = 5 from rfl] at hd5
        omega
      refine lv_tableOut (pc := 25) (tgt := 113) hx hb dX10_at_25 hsw (by decide) ?_
      refine lv_ldc (pc := 113) (v := (-1000000)) hx hb hown w_2 dX10_at_113 ?_
      obtain ⟨e90, e91, e92, e93, e94, e95, e96⟩ := q_inj7 (Option.some.inj hf)
      rw [hQ, ← e90, ← e91, ← e92, ← e93, ← e94, ← e95, ← e96]
      exact q_iret (pc := 115) hx hb hr hlocks hP hD hS dX10_at_115
    · refine lv_ldc (pc := 12) (v := (-1000000)) hx hb hown w_2 dX10_at_12 ?_
      obtain ⟨e90, e91, e92, e93, e94, e95, e96⟩ := q_inj7 (Option.some.inj hf)
      rw [hQ, ← e90, ← e91, ← e92, ← e93, ← e94, ← e95, ← e96]
      exact q_iret (pc := 14) hx hb hr hlocks hP hD hS dX10_at_14
  exact hgo _ _ rfl hP hS
/-! X10_bands -/
set_option maxRecDepth 100000 in
set_option maxHeartbeats 4000000 in
theorem c_X_bands (l : Launch) (D : va_G) (ci : Nat → ClassId) (A : Nat → Prop) (sa : Nat → Nat) (N : Nat) (Rw : va_W) (a_x : Nat) (a_at : Nat) (a_g : Nat) (a_st : Nat) (a_x_kept : Nat) (a_tp : Nat) (a_rd : Nat) (a_qu : Nat) (a_sp : Nat) (a_wk : Nat) (a_bx : Nat) (a_nt : Nat) (a_nu : Nat) (a_x_seen : Nat) (a_g_rowCuts : Nat) (a_g_columnCuts : Nat) (a_g_bandRows : Nat) (a_g_zoneColumns : Nat) (a_g_rows : Nat) (a_g_sheets : Nat) (x_keptStates : Int32) (g_bandRows : Nat → Int32) (g_zoneColumns : Nat → Int32) (g_rows : Nat → Int32) (g_sheets : Nat → Int32) (p1 : Int32) (p2 : Int32) (p3 : Int32) (r : Int32) (hf : f_X_bands N g_bandRows g_zoneColumns g_rows g_sheets p1 p2 p3 = some r) : Met l yX10_bands wsX10_bands ({ frames := 3, cells := 0, slots := 0, locals := 65 }) (va_Pc [.ref a_x, .int p1, .int p2, .int p3] (q_N D ci A sa ((a_x, .inr (10, [.ref a_at, .ref a_g, .ref a_st, .ref a_x_kept, .int x_keptStates, .ref a_tp, .ref a_rd, .ref a_qu, .ref a_sp, .ref a_wk, .ref a_bx, .ref a_nt, .ref a_nu, .ref a_x_seen])) :: (a_g, .inr (2, [.ref a_g_rowCuts, .ref a_g_columnCuts, .ref a_g_bandRows, .ref a_g_zoneColumns, .ref a_g_rows, .ref a_g_sheets])) :: (a_g_bandRows, .inl (ci 0, 5, .inl g_bandRows)) :: (a_g_zoneColumns, .inl (ci 0, 5, .inl g_zoneColumns)) :: (a_g_rows, .inl (ci 0, 5, .inl g_rows)) :: (a_g_sheets, .inl (ci 0, 5, .inl g_sheets)) :: Rw))) (q_R (some (.int r))) 0 0 A := by
  refine q_ofW (cc := cX10_bands) (maxL := 8) (ret := (some .int)) [.ref a_x, .int p1, .int p2, .int p3] (plainFor_of_name (by decide)) rfl (Nat.le_of_ble_eq_true rfl) ?_
  intro p e s m below meth c ls Q hQ hx hb hml hr hts hown hlocks hK hA hZ hP hD hS hl
  have hl : lv_has ls 8 [(0, .ref a_x), (1, .int p1), (2, .int p2), (3, .int p3)] := hl
  have hown : s.vm.findClass RX10 = some m.cls := hown
  have hinX10 : ∀ w ∈ wsX100, w ∈ wsX10_bands := fun _ h => List.mem_cons_of_mem _ (inWX100 _ h)
  have hinX2 : ∀ w ∈ wsX20, w ∈ wsX10_bands := fun _ h => List.mem_cons_of_mem _ (inWX20 _ h)
  have w_1 := hts (Cond.fieldLink RX10 20 "SheetNames" "grid" "LSheetNames$Grid;") (List.mem_cons_of_mem _ t_w876)
  have wn_5 : (Cond.fieldLinkNest "SheetNames" 142 "SheetNames$Grid" "bandRows" "[I" "SheetNames").before ([.ref a_x, .int p1, .int p2, .int p3] : List Value).toArray s = true := (hZ.2.2.2.2.2.2.2.2.2.1 _ (List.mem_of_getElem? (i := 5) rfl)).use rfl
  unfold f_X_bands at hf
  have hgo : ∀ (H : Heap) (locs : List Loc), H = s.heap → va_P D vwCl ((a_x, .inr (10, [.ref a_at, .ref a_g, .ref a_st, .ref a_x_kept, .int x_keptStates, .ref a_tp, .ref a_rd, .ref a_qu, .ref a_sp, .ref a_wk, .ref a_bx, .ref a_nt, .ref a_nu, .ref a_x_seen])) :: (a_g, .inr (2, [.ref a_g_rowCuts, .ref a_g_columnCuts, .ref a_g_bandRows, .ref a_g_zoneColumns, .ref a_g_rows, .ref a_g_sheets])) :: (a_g_bandRows, .inl (ci 0, 5, .inl g_bandRows)) :: (a_g_zoneColumns, .inl (ci 0, 5, .inl g_zoneColumns)) :: (a_g_rows, .inl (ci 0, 5, .inl g_rows)) :: (a_g_sheets, .inl (ci 0, 5, .inl g_sheets)) :: Rw) H → va_S A s.heap H locs → W p l e ({ frames := 3, cells := 0, slots := 0, locals := 65 } : Room) s m ([.ref a_x, .int p1, .int p2, .int p3] : List Value).toArray below meth c H locs 0 0 Q (F0 m 0 ls []) := by
    intro H locs hH hP hS
    subst hH
    refine lv_aload_n (pc := 0) hx hb dX10_bands_0 rfl (lv_at hl 0 rfl) ?_
    refine lv_iload_n (pc := 1) hx hb dX10_bands_1 rfl (lv_at hl 1 rfl) ?_
    refine lv_iload_n (pc := 2) hx hb dX10_bands_2 rfl (lv_at hl 2 rfl) ?_
    refine lv_iload_n (pc := 3) hx hb dX10_bands_3 rfl (lv_at hl 3 rfl) ?_
    obtain ⟨v1, hm4, hf⟩ := q_b1_e hf
    refine q_cVr (pc := 4) (As := [.int p1, .int p2, .int p3]) (rest := []) (v0 := (some (.int v1))) ⟨hx, hb, hml, hown, hts⟩ hK hA hZ hP hD hS hl.1 [0, 1, 5] 6 rfl ⟨rfl, rfl, rfl⟩ (c_X_areSheets l D ci A sa N (Rw) a_x a_at a_g a_st a_x_kept a_tp a_rd a_qu a_sp a_wk a_bx a_nt a_nu a_x_seen a_g_rowCuts a_g_columnCuts a_g_bandRows a_g_zoneColumns a_g_rows a_g_sheets x_keptStates g_sheets p1 p2 p3 v1 hm4) 0 rfl rfl (cwV 3 hts gX10_bands_X10_areSheets rfl rfl rfl (by decide +kernel) ⟨Nat.le_of_ble_eq_true rfl, Nat.le_of_ble_eq_true rfl⟩) rfl rfl (Nat.le_of_ble_eq_true rfl) dX10_bands_4 ⟨Nat.zero_le _, Nat.zero_le _⟩ (fun locs hS => ?_)
    refine q_if_eq (pc := 7) (tgt := 15) hx hb dX10_bands_7 (by decide) rfl hf (fun hf => ?_) (fun hf => ?_)
    · refine lv_iconst (pc := 15) (v := (-1)) hx hb dX10_bands_15 (by decide) ?_
      obtain rfl := Option.some.inj hf
      rw [hQ]
      exact q_iretr (pc := 16) hx hb hr hlocks rfl hS dX10_bands_16
    · refine lv_iload_n (pc := 10) hx hb dX10_bands_10 rfl (lv_at hl 2 rfl) ?_
      refine lv_iload_n (pc := 11) hx hb dX10_bands_11 rfl (lv_at hl 3 rfl) ?_
      refine q_icmp_le (pc := 12) (tgt := 17) hx hb dX10_bands_12 (by decide) rfl hf (fun hf => ?_) (fun hf => ?_)
      · refine lv_iconst (pc := 17) (v := 0) hx hb dX10_bands_17 (by decide) ?_
        obtain ⟨v2, ev2, hf⟩ := q_nm_e hf
        refine q_topi ev2 ?_
        refine lv_istore (pc := 18) (lv' := [(4, .int v2), (0, .ref a_x), (1, .int p1), (2, .int p2), (3, .int p3)]) hx hb dX10_bands_18 hl (by decide) rfl (fun ls hl => ?_)
        refine lv_iconst (pc := 20) (v := 0) hx hb dX10_bands_20 (by decide) ?_
        obtain ⟨v3, ev3, hf⟩ := q_nm_e hf
        refine q_topi ev3 ?_
        refine lv_istore (pc := 21) (lv' := [(5, .int v3), (4, .int v2), (0, .ref a_x), (1, .int p1), (2, .int p2), (3, .int p3)]) hx hb dX10_bands_21 hl (by decide) rfl (fun ls hl => ?_)
        obtain ⟨v6, hm23, hf⟩ := q_b1_e hf
        have JE23 : ∀ (H : Heap) (locs : List Loc) (ls : Array Slot), H = s.heap → va_S A s.heap H locs → lv_has ls 8 [(4, .int v6)] → W p l e ({ frames := 3, cells := 0, slots := 0, locals := 65 } : Room) s m ([.ref a_x, .int p1, .int p2, .int p3] : List Value).toArray below meth c H locs 0 0 Q (F0 m 101 ls []) := by
          intro H locs ls hHs hS hl
          subst hHs
          refine lv_iload (pc := 101) hx hb dX10_bands_101 (lv_at hl 0 rfl) ?_
          obtain rfl := Option.some.inj hf
          rw [hQ]
          exact q_iretr (pc := 103) hx hb hr hlocks rfl hS dX10_bands_103
        have LP23 : ∀ (n23 : Nat) (v4 : Int32) (v5 : Int32) (H : Heap) (locs : List Loc) (ls : Array Slot), f_X_bands_L23 g_bandRows g_rows g_sheets g_zoneColumns p1 p2 p3 n23 v4 v5 = some v6 → H = s.heap → va_S A s.heap H locs → lv_has ls 8 [(0, .ref a_x), (1, .int p1), (2, .int p2), (3, .int p3), (4, .int v4), (5, .int v5)] → W p l e ({ frames := 3, cells := 0, slots := 0, locals := 65 } : Room) s m ([.ref a_x, .int p1, .int p2, .int p3] : List Value).toArray below meth c H locs 0 0 Q (F0 m 23 ls []) := by
          intro n23
          induction n23 with
          | zero => intro v4 v5 H locs ls hf; rw [f_X_bands_L23] at hf; cases hf
          | succ n23 ih23 =>
            intro v4 v5 H locs ls hf hHs hS hl
            subst hHs
            rw [f_X_bands_L23] at hf
            refine lv_iload (pc := 23) hx hb dX10_bands_23 (lv_at hl 5 rfl) ?_
            refine lv_bipush (pc := 25) (v := 44) hx hb dX10_bands_25 (by decide) ?_
            refine q_icmp_ge (pc := 27) (tgt := 101) hx hb dX10_bands_27 (by decide) rfl hf (fun hf => ?_) (fun hf => ?_)
            · obtain rfl := Option.some.inj hf
              exact JE23 _ _ _ rfl hS (lv_sub hl [4] rfl)
            · refine lv_aload_n (pc := 30) hx hb dX10_bands_30 rfl (lv_at hl 0 rfl) ?_
              refine va_get (pc := 31) (D := D) (ci := 10) (v := .ref a_g) (C := RX10) (T := TX10) (N := 14) hx hb hts hinX10 hown hK hP 0 rfl rfl 1 (by decide) w_1 (fun _ h9 => h9) rfl dX10_bands_31 ?_
              refine lv_iload_n (pc := 34) hx hb dX10_bands_34 rfl (lv_at hl 1 rfl) ?_
              refine lv_iload (pc := 35) hx hb dX10_bands_35 (lv_at hl 5 rfl) ?_
              refine lv_aload_n (pc := 37) hx hb dX10_bands_37 rfl (lv_at hl 0 rfl) ?_
              refine va_get (pc := 38) (D := D) (ci := 10) (v := .ref a_g) (C := RX10) (T := TX10) (N := 14) hx hb hts hinX10 hown hK hP 0 rfl rfl 1 (by decide) w_1 (fun _ h9 => h9) rfl dX10_bands_38 ?_
              refine va_getN (pc := 41) (D := D) (ci := 2) (v := .ref a_g_bandRows) (C := RX2) (T := TX2) (N := 6) hx hb hts hinX2 hown hK hP 1 rfl rfl 2 (by decide) wn_5 (fun _ h9 => h9) rfl dX10_bands_41 ?_
              refine lv_iload_n (pc := 44) hx hb dX10_bands_44 rfl (lv_at hl 1 rfl) ?_
              refine q_iald (pc := 45) hx hb hK hP 2 0 hf rfl rfl dX10_bands_45 (fun v7 hf => ?_)
              refine lv_imul (pc := 46) hx hb dX10_bands_46 ?_
              refine lv_iconst (pc := 47) (v := 1) hx hb dX10_bands_47 (by decide) ?_
              refine lv_iadd (pc := 48) hx hb dX10_bands_48 ?_
              obtain ⟨v8, hm49, hf⟩ := q_b1_e hf
              refine q_cVr (pc := 49) (As := [.int p1, .int ((v5 * v7) + 1)]) (rest := []) (v0 := (some (.int v8))) ⟨hx, hb, hml, hown, hts⟩ hK hA hZ hP hD hS hl.1 [1, 2, 3, 4, 5] 6 rfl ⟨rfl, rfl, rfl⟩ (c_Grid_rowStart l D ci A sa N (Rw) a_g a_g_rowCuts a_g_columnCuts a_g_bandRows a_g_zoneColumns a_g_rows a_g_sheets g_bandRows g_zoneColumns g_rows g_sheets p1 ((v5 * v7) + 1) v8 hm49) 1 rfl rfl (cwV 2 hts gX10_bands_X2_rowStart rfl rfl rfl (by decide +kernel) ⟨Nat.le_of_ble_eq_true rfl, Nat.le_of_ble_eq_true rfl⟩) rfl rfl (Nat.le_of_ble_eq_true rfl) dX10_bands_49 ⟨Nat.zero_le _, Nat.zero_le _⟩ (fun locs hS => ?_)
              refine lv_istore (pc := 52) (lv' := [(6, .int v8), (0, .ref a_x), (1, .int p1), (2, .int p2), (3, .int p3), (4, .int v4), (5, .int v5)]) hx hb dX10_bands_52 hl (by decide) rfl (fun ls hl => ?_)
              refine lv_aload_n (pc := 54) hx hb dX10_bands_54 rfl (lv_at hl 1 rfl) ?_
              refine va_get (pc := 55) (D := D) (ci := 10) (v := .ref a_g) (C := RX10) (T := TX10) (N := 14) hx hb hts hinX10 hown hK hP 0 rfl rfl 1 (by decide) w_1 (fun _ h9 => h9) rfl dX10_bands_55 ?_
              refine lv_iload_n (pc := 58) hx hb dX10_bands_58 rfl (lv_at hl 2 rfl) ?_
              refine lv_iload (pc := 59) hx hb dX10_bands_59 (lv_at hl 6 rfl) ?_
              refine lv_iconst (pc := 61) (v := 1) hx hb dX10_bands_61 (by decide) ?_
              refine lv_iadd (pc := 62) hx hb dX10_bands_62 ?_
              refine lv_aload_n (pc := 63) hx hb dX10_bands_63 rfl (lv_at hl 1 rfl) ?_
              refine va_get (pc := 64) (D := D) (ci := 10) (v := .ref a_g) (C := RX10) (T := TX10) (N := 14) hx hb hts hinX10 hown hK hP 0 rfl rfl 1 (by decide) w_1 (fun _ h9 => h9) rfl dX10_bands_64 ?_
              refine va_getN (pc := 67) (D := D) (ci := 2) (v := .ref a_g_bandRows) (C := RX2) (T := TX2) (N := 6) hx hb hts hinX2 hown hK hP 1 rfl rfl 2 (by decide) wn_5 (fun _ h9 => h9) rfl dX10_bands_67 ?_
              refine lv_iload_n (pc := 70) hx hb dX10_bands_70 rfl (lv_at hl 2 rfl) ?_
              refine q_iald (pc := 71) hx hb hK hP 2 0 hf rfl rfl dX10_bands_71 (fun v9 hf => ?_)
              refine lv_imul (pc := 72) hx hb dX10_bands_72 ?_
              refine lv_iconst (pc := 73) (v := 1) hx hb dX10_bands_73 (by decide) ?_
              refine lv_iadd (pc := 74) hx hb dX10_bands_74 ?_
              obtain ⟨v10, hm75, hf⟩ := q_b1_e hf
              refine q_cVr (pc := 75) (As := [.int p1, .int (((v5 + 1) * v9) + 1)]) (rest := []) (v0 := (some (.int v10))) ⟨hx, hb, hml, hown, hts⟩ hK hA hZ hP hD hS hl.1 [1, 2, 3, 4, 5] 6 rfl ⟨rfl, rfl, rfl⟩ (c_Grid_rowStart l D ci A sa N (Rw) a_g a_g_rowCuts a_g_columnCuts a_g_bandRows a_g_zoneColumns a_g_rows a_g_sheets g_bandRows g_zoneColumns g_rows g_sheets p1 (((v5 + 1) * v9) + 1) v10 hm75) 1 rfl rfl (cwV 2 hts gX10_bands_X2_rowStart rfl rfl rfl (by decide +kernel) ⟨Nat.le_of_ble_eq_true rfl, Nat.le_of_ble_eq_true rfl⟩) rfl rfl (Nat.le_of_ble_eq_true rfl) dX10_bands_75 ⟨Nat.zero_le _, Nat.zero_le _⟩ (fun locs hS => ?_)
              refine lv_istore (pc := 78) (lv' := [(7, .int v10), (6, .int v8), (0, .ref a_x), (1, .int p1), (2, .int p2), (3, .int p3), (4, .int v4), (5, .int v5)]) hx hb dX10_bands_78 hl (by decide) rfl (fun ls hl => ?_)
              refine lv_iload_n (pc := 80) hx hb dX10_bands_80 rfl (lv_at hl 4 rfl) ?_
              refine lv_iload (pc := 81) hx hb dX10_bands_81 (lv_at hl 0 rfl) ?_
              obtain ⟨k95, ek95, hf⟩ := q_j1_e hf
              have J95 : ∀ (v11 : Int32) (H : Heap) (locs : List Loc) (ls : Array Slot), k95 v11 = some v6 → H = s.heap → va_S A s.heap H locs → lv_has ls 8 [(0, .ref a_x), (1, .int p1), (2, .int p2), (3, .int p3), (4, .int v11), (5, .int v5)] → W p l e ({ frames := 3, cells := 0, slots := 0, locals := 65 } : Room) s m ([.ref a_x, .int p1, .int p2, .int p3] : List Value).toArray below meth c H locs 0 0 Q (F0 m 95 ls []) := by
                intro v11 H locs ls hf hHs hS hl
                subst hHs
                have hf := (ek95 v11).symm.trans hf
                obtain ⟨v12, ev12, hf⟩ := q_nm_e hf
                refine lv_iinc (pc := 95) (v := v12) (lv' := [(5, .int v12), (0, .ref a_x), (1, .int p1), (2, .int p2), (3, .int p3), (4, .int v11)]) hx hb dX10_bands_95 hl (k := 5) rfl (by rw [ev12]; rfl) (by decide) rfl (fun ls hl => ?_)
                refine lv_goto (pc := 98) (tgt := 23) hx hb dX10_bands_98 (by decide) ?_
                exact ih23 v11 v12 _ _ _ hf rfl hS (lv_sub hl [1, 2, 3, 4, 5, 0] rfl)
              refine q_icmp_ge (pc := 83) (tgt := 95) hx hb dX10_bands_83 (by decide) rfl hf (fun hf => ?_) (fun hf => ?_)
              · exact J95 v4 _ _ _ hf rfl hS (lv_sub hl [2, 3, 4, 5, 6, 7] rfl)
              · refine lv_iload_n (pc := 86) hx hb dX10_bands_86 rfl (lv_at hl 5 rfl) ?_
                refine lv_iload (pc := 87) hx hb dX10_bands_87 (lv_at hl 1 rfl) ?_
                refine q_icmp_lt (pc := 89) (tgt := 95) hx hb dX10_bands_89 (by decide) rfl hf (fun hf => ?_) (fun hf => ?_)
                · exact J95 v4 _ _ _ hf rfl hS (lv_sub hl [2, 3, 4, 5, 6, 7] rfl)
                · obtain ⟨v13, ev13, hf⟩ := q_nm_e hf
                  refine lv_iinc (pc := 92) (v := v13) (lv' := [(4, .int v13), (7, .int v10), (6, .int v8), (0, .ref a_x), (1, .int p1), (2, .int p2), (3, .int p3), (5, .int v5)]) hx hb dX10_bands_92 hl (k := 6) rfl (by rw [ev13]; rfl) (by decide) rfl (fun ls hl => ?_)
                  exact J95 v13 _ _ _ hf rfl hS (lv_sub hl [3, 4, 5, 6, 0, 7] rfl)
        exact LP23 N v2 v3 _ _ _ hm23 rfl hS (lv_sub hl [2, 3, 4, 5, 1, 0] rfl)
      · refine lv_iconst (pc := 15) (v := (-1)) hx hb dX10_bands_15 (by decide) ?_
        obtain rfl := Option.some.inj hf
        rw [hQ]
        exact q_iretr (pc := 16) hx hb hr hlocks rfl hS dX10_bands_16
  exact hgo _ _ rfl hP hS
/-! X10_before -/
set_option maxRecDepth 100000 in
set_option maxHeartbeats 4000000 in
theorem c_X_before (l : Launch) (D : va_G) (ci : Nat → ClassId) (A : Nat → Prop) (sa : Nat → Nat) (N : Nat) (Rw : va_W) (a_x : Nat) (a_at : Nat) (a_g : Nat) (a_st : Nat) (a_x_kept : Nat) (a_tp : Nat) (a_rd : Nat) (a_qu : Nat) (a_sp : Nat) (a_wk : Nat) (a_bx : Nat) (a_nt : Nat) (a_nu : Nat) (a_x_seen : Nat) (a_sp_first : Nat) (a_sp_many : Nat) (a_sp_corner : Nat) (a_nt_bytes : Nat) (a_nu_bytes : Nat) (a_g_rowCuts : Nat) (a_g_columnCuts : Nat) (a_g_bandRows : Nat) (a_g_zoneColumns : Nat) (a_g_rows : Nat) (a_g_sheets : Nat) (x_keptStates : Int32) (sp_cornerCount : Int32) (sp_level : Int32) (sp_row : Int32) (sp_start : Int32) (sp_place : Int32) (sp_length : Int32) (sp_cap : Int32) (nt_length : Int32) (nt_bytes : Nat → Int32) (nu_length : Int32) (nu_bytes : Nat → Int32) (g_rowCuts : Nat → Int32) (g_columnCuts : Nat → Int32) (g_bandRows : Nat → Int32) (g_zoneColumns : Nat → Int32) (g_rows : Nat → Int32) (g_sheets : Nat → Int32) (p1 : Int32) (p2 : Int32) (p3 : Int32) (r : Int32) (o1 : Int32) (o2 : Int32) (o3 : Int32) (o4 : Int32) (o5 : Int32) (o6 : Int32) (o7 : Nat → Int32) (o8 : Int32) (o9 : Nat → Int32) (o10 : Int32) (hf : f_X_before N sp_level sp_row sp_start sp_place sp_length sp_cap nt_bytes nt_length nu_bytes nu_length g_rowCuts g_columnCuts g_bandRows g_zoneColumns g_rows g_sheets p1 p2 p3 = some (r, o1, o2, o3, o4, o5, o6, o7, o8, o9, o10)) : Met l yX10_before wsX10_before ({ frames := 3, cells := 0, slots := 0, locals := 71 }) (va_Pc [.ref a_x, .int p1, .int p2, .int p3] (q_N D ci A sa ((a_x, .inr (10, [.ref a_at, .ref a_g, .ref a_st, .ref a_x_kept, .int x_keptStates, .ref a_tp, .ref a_rd, .ref a_qu, .ref a_sp, .ref a_wk, .ref a_bx, .ref a_nt, .ref a_nu, .ref a_x_seen])) :: (a_sp, .inr (6, [.ref a_g, .ref a_sp_first, .ref a_sp_many, .ref a_sp_corner, .int sp_cornerCount, .int sp_level, .int sp_row, .int sp_start, .int sp_place, .int sp_length, .int sp_cap])) :: (a_nt, .inr (4, [.ref a_nt_bytes, .int nt_length])) :: (a_nt_bytes, .inl (ci 0, 40, .inl nt_bytes)) :: (a_nu, .inr (4, [.ref a_nu_bytes, .int nu_length])) :: (a_nu_bytes, .inl (ci 0, 40, .inl nu_bytes)) :: (a_g, .inr (2, [.ref a_g_rowCuts, .ref a_g_columnCuts, .ref a_g_bandRows, .ref a_g_zoneColumns, .ref a_g_rows, .ref a_g_sheets])) :: (a_g_rowCuts, .inl (ci 0, 5, .inl g_rowCuts)) :: (a_g_columnCuts, .inl (ci 0, 5, .inl g_columnCuts)) :: (a_g_bandRows, .inl (ci 0, 5, .inl g_bandRows)) :: (a_g_zoneColumns, .inl (ci 0, 5, .inl g_zoneColumns)) :: (a_g_rows, .inl (ci 0, 5, .inl g_rows)) :: (a_g_sheets, .inl (ci 0, 5, .inl g_sheets)) :: Rw))) (q_Q (some (.int r)) (q_O D A ((a_x, .inr (10, [.ref a_at, .ref a_g, .ref a_st, .ref a_x_kept, .int x_keptStates, .ref a_tp, .ref a_rd, .ref a_qu, .ref a_sp, .ref a_wk, .ref a_bx, .ref a_nt, .ref a_nu, .ref a_x_seen])) :: (a_sp, .inr (6, [.ref a_g, .ref a_sp_first, .ref a_sp_many, .ref a_sp_corner, .int sp_cornerCount, .int o1, .int o2, .int o3, .int o4, .int o5, .int o6])) :: (a_nt, .inr (4, [.ref a_nt_bytes, .int o8])) :: (a_nt_bytes, .inl (ci 0, 40, .inl o7)) :: (a_nu, .inr (4, [.ref a_nu_bytes, .int o10])) :: (a_nu_bytes, .inl (ci 0, 40, .inl o9)) :: (a_g, .inr (2, [.ref a_g_rowCuts, .ref a_g_columnCuts, .ref a_g_bandRows, .ref a_g_zoneColumns, .ref a_g_rows, .ref a_g_sheets])) :: (a_g_rowCuts, .inl (ci 0, 5, .inl g_rowCuts)) :: (a_g_columnCuts, .inl (ci 0, 5, .inl g_columnCuts)) :: (a_g_bandRows, .inl (ci 0, 5, .inl g_bandRows)) :: (a_g_zoneColumns, .inl (ci 0, 5, .inl g_zoneColumns)) :: (a_g_rows, .inl (ci 0, 5, .inl g_rows)) :: (a_g_sheets, .inl (ci 0, 5, .inl g_sheets)) :: Rw)) A) 0 0 A := by
  refine q_ofW (cc := cX10_before) (maxL := 4) (ret := (some .int)) [.ref a_x, .int p1, .int p2, .int p3] (plainFor_of_name (by decide)) rfl (Nat.le_of_ble_eq_true rfl) ?_
  intro p e s m below meth c ls Q hQ hx hb hml hr hts hown hlocks hK hA hZ hP hD hS hl
  have hl : lv_has ls 4 [(0, .ref a_x), (1, .int p1), (2, .int p2), (3, .int p3)] := hl
  have hown : s.vm.findClass RX10 = some m.cls := hown
  have hinX10 : ∀ w ∈ wsX100, w ∈ wsX10_before := fun _ h => List.mem_cons_of_mem _ (inWX100 _ h)
  have w_1 := hts (Cond.constant RX10 207 (-1000000)) (List.mem_cons_of_mem _ t_w886)
  have w_2 := hts (Cond.fieldLink RX10 66 "SheetNames" "spot" "LSheetNames$Spot;") (List.mem_cons_of_mem _ t_w877)
  have w_3 := hts (Cond.fieldLink RX10 87 "SheetNames" "text" "LSheetNames$NameText;") (List.mem_cons_of_mem _ t_w887)
  have w_4 := hts (Cond.fieldLink RX10 91 "SheetNames" "otherText" "LSheetNames$NameText;") (List.mem_cons_of_mem _ t_w888)
  unfold f_X_before at hf
  have hgo : ∀ (H : Heap) (locs : List Loc), H = s.heap → va_P D vwCl ((a_x, .inr (10, [.ref a_at, .ref a_g, .ref a_st, .ref a_x_kept, .int x_keptStates, .ref a_tp, .ref a_rd, .ref a_qu, .ref a_sp, .ref a_wk, .ref a_bx, .ref a_nt, .ref a_nu, .ref a_x_seen])) :: (a_sp, .inr (6, [.ref a_g, .ref a_sp_first, .ref a_sp_many, .ref a_sp_corner, .int sp_cornerCount, .int sp_level, .int sp_row, .int sp_start, .int sp_place, .int sp_length, .int sp_cap])) :: (a_nt, .inr (4, [.ref a_nt_bytes, .int nt_length])) :: (a_nt_bytes, .inl (ci 0, 40, .inl nt_bytes)) :: (a_nu, .inr (4, [.ref a_nu_bytes, .int nu_length])) :: (a_nu_bytes, .inl (ci 0, 40, .inl nu_bytes)) :: (a_g, .inr (2, [.ref a_g_rowCuts, .ref a_g_columnCuts, .ref a_g_bandRows, .ref a_g_zoneColumns, .ref a_g_rows, .ref a_g_sheets])) :: (a_g_rowCuts, .inl (ci 0, 5, .inl g_rowCuts)) :: (a_g_columnCuts, .inl (ci 0, 5, .inl g_columnCuts)) :: (a_g_bandRows, .inl (ci 0, 5, .inl g_bandRows)) :: (a_g_zoneColumns, .inl (ci 0, 5, .inl g_zoneColumns)) :: (a_g_rows, .inl (ci 0, 5, .inl g_rows)) :: (a_g_sheets, .inl (ci 0, 5, .inl g_sheets)) :: Rw) H → va_S A s.heap H locs → W p l e ({ frames := 3, cells := 0, slots := 0, locals := 71 } : Room) s m ([.ref a_x, .int p1, .int p2, .int p3] : List Value).toArray below meth c H locs 0 0 Q (F0 m 0 ls []) := by
    intro H locs hH hP hS
    refine lv_aload_n (pc := 0) hx hb dX10_before_0 rfl (lv_at hl 0 rfl) ?_
    refine lv_iload_n (pc := 1) hx hb dX10_before_1 rfl (lv_at hl 1 rfl) ?_
    refine lv_iload_n (pc := 2) hx hb dX10_before_2 rfl (lv_at hl 2 rfl) ?_
    refine lv_iload_n (pc := 3) hx hb dX10_before_3 rfl (lv_at hl 3 rfl) ?_
    obtain ⟨v1, hm4, hf⟩ := q_b1_e hf
    refine q_cVr (pc := 4) (As := [.int p1, .int p2, .int p3]) (rest := []) (v0 := (some (.int v1))) ⟨hx, hb, hml, hown, hts⟩ hK hA hZ hP hD hS hl.1 [0, 6, 12] 13 rfl ⟨rfl, rfl, rfl⟩ (c_X_areSheets l D ci A sa N (Rw) a_x a_at a_g a_st a_x_kept a_tp a_rd a_qu a_sp a_wk a_bx a_nt a_nu a_x_seen a_g_rowCuts a_g_columnCuts a_g_bandRows a_g_zoneColumns a_g_rows a_g_sheets x_keptStates g_sheets p1 p2 p3 v1 hm4) 0 rfl rfl (cwV 3 hts gX10_before_X10_areSheets rfl rfl rfl (by decide +kernel) ⟨Nat.le_of_ble_eq_true rfl, Nat.le_of_ble_eq_true rfl⟩) rfl rfl (Nat.le_of_ble_eq_true rfl) dX10_before_4 ⟨Nat.zero_le _, Nat.zero_le _⟩ (fun locs hS => ?_)
    refine q_if_ne (pc := 7) (tgt := 13) hx hb dX10_before_7 (by decide) rfl hf (fun hf => ?_) (fun hf => ?_)
    · refine lv_aload_n (pc := 13) hx hb dX10_before_13 rfl (lv_at hl 0 rfl) ?_
      refine va_get (pc := 14) (D := D) (ci := 10) (v := .ref a_sp) (C := RX10) (T := TX10) (N := 14) hx hb hts hinX10 hown hK hP 0 rfl rfl 8 (by decide) w_2 (fun _ h9 => h9) rfl dX10_before_14 ?_
      refine lv_iload_n (pc := 17) hx hb dX10_before_17 rfl (lv_at hl 1 rfl) ?_
      refine lv_iload_n (pc := 18) hx hb dX10_before_18 rfl (lv_at hl 2 rfl) ?_
      obtain ⟨v2, v3, v4, v5, v6, v7, hm19, hf⟩ := q_b6_e hf
      refine q_cV (pc := 19) (As := [.int p1, .int p2]) (rest := []) (v0 := none) ⟨hx, hb, hml, hown, hts⟩ hK hA hZ hP hD hS hl.1 [1, 6, 9, 10, 11, 12, 0, 2, 3, 4, 5, 7, 8] 13 rfl ⟨rfl, rfl, rfl⟩ (c_Spot_put l D ci A sa N ((a_x, .inr (10, [.ref a_at, .ref a_g, .ref a_st, .ref a_x_kept, .int x_keptStates, .ref a_tp, .ref a_rd, .ref a_qu, .ref a_sp, .ref a_wk, .ref a_bx, .ref a_nt, .ref a_nu, .ref a_x_seen])) :: (a_nt, .inr (4, [.ref a_nt_bytes, .int nt_length])) :: (a_nt_bytes, .inl (ci 0, 40, .inl nt_bytes)) :: (a_nu, .inr (4, [.ref a_nu_bytes, .int nu_length])) :: (a_nu_bytes, .inl (ci 0, 40, .inl nu_bytes)) :: (a_g_rowCuts, .inl (ci 0, 5, .inl g_rowCuts)) :: (a_g_columnCuts, .inl (ci 0, 5, .inl g_columnCuts)) :: Rw) a_sp a_g a_sp_first a_sp_many a_sp_corner a_g_rowCuts a_g_columnCuts a_g_bandRows a_g_zoneColumns a_g_rows a_g_sheets sp_cornerCount sp_level sp_row sp_start sp_place sp_length sp_cap g_bandRows g_zoneColumns g_rows g_sheets p1 p2 v2 v3 v4 v5 v6 v7 hm19) 1 rfl rfl (cwV 2 hts gX10_before_X6_put rfl rfl rfl (by decide +kernel) ⟨Nat.le_of_ble_eq_true rfl, Nat.le_of_ble_eq_true rfl⟩) rfl rfl (Nat.le_of_ble_eq_true rfl) dX10_before_19 ⟨Nat.zero_le _, Nat.zero_le _⟩ [6, 0, 7, 8, 9, 10, 1, 11, 12, 2, 3, 4, 5] 13 rfl ⟨rfl, rfl, rfl⟩ (fun H locs hP hD hS => ?_)
      obtain ⟨hP, hD⟩ : va_PD D A ((a_x, .inr (10, [.ref a_at, .ref a_g, .ref a_st, .ref a_x_kept, .int x_keptStates, .ref a_tp, .ref a_rd, .ref a_qu, .ref a_sp, .ref a_wk, .ref a_bx, .ref a_nt, .ref a_nu, .ref a_x_seen])) :: (a_sp, .inr (6, [.ref a_g, .ref a_sp_first, .ref a_sp_many, .ref a_sp_corner, .int sp_cornerCount, .int v2, .int v3, .int v4, .int v5, .int v6, .int v7])) :: (a_nt, .inr (4, [.ref a_nt_bytes, .int nt_length])) :: (a_nt_bytes, .inl (ci 0, 40, .inl nt_bytes)) :: (a_nu, .inr (4, [.ref a_nu_bytes, .int nu_length])) :: (a_nu_bytes, .inl (ci 0, 40, .inl nu_bytes)) :: (a_g, .inr (2, [.ref a_g_rowCuts, .ref a_g_columnCuts, .ref a_g_bandRows, .ref a_g_zoneColumns, .ref a_g_rows, .ref a_g_sheets])) :: (a_g_rowCuts, .inl (ci 0, 5, .inl g_rowCuts)) :: (a_g_columnCuts, .inl (ci 0, 5, .inl g_columnCuts)) :: (a_g_bandRows, .inl (ci 0, 5, .inl g_bandRows)) :: (a_g_zoneColumns, .inl (ci 0, 5, .inl g_zoneColumns)) :: (a_g_rows, .inl (ci 0, 5, .inl g_rows)) :: (a_g_sheets, .inl (ci 0, 5, .inl g_sheets)) :: Rw) H := ⟨hP, hD⟩
      refine lv_aload_n (pc := 22) hx hb dX10_before_22 rfl (lv_at hl 0 rfl) ?_
      refine va_get (pc := 23) (D := D) (ci := 10) (v := .ref a_nt) (C := RX10) (T := TX10) (N := 14) hx hb hts hinX10 hown hK hP 0 rfl rfl 11 (by decide) w_3 (fun _ h9 => h9) rfl dX10_before_23 ?_
      refine lv_aload_n (pc := 26) hx hb dX10_before_26 rfl (lv_at hl 0 rfl) ?_
      refine va_get (pc := 27) (D := D) (ci := 10) (v := .ref a_sp) (C := RX10) (T := TX10) (N := 14) hx hb hts hinX10 hown hK hP 0 rfl rfl 8 (by decide) w_2 (fun _ h9 => h9) rfl dX10_before_27 ?_
      obtain ⟨f8, v9, hm30, hf⟩ := q_b2_e hf
      refine q_cV (pc := 30) (As := [.ref a_sp]) (rest := []) (v0 := none) ⟨hx, hb, hml, hown, hts⟩ hK hA hZ hP hD hS hl.1 [1, 2, 3, 6, 7, 8, 9, 10, 0, 4, 5, 11, 12] 13 rfl ⟨rfl, rfl, rfl⟩ (c_NameText_write l D ci A sa N ((a_x, .inr (10, [.ref a_at, .ref a_g, .ref a_st, .ref a_x_kept, .int x_keptStates, .ref a_tp, .ref a_rd, .ref a_qu, .ref a_sp, .ref a_wk, .ref a_bx, .ref a_nt, .ref a_nu, .ref a_x_seen])) :: (a_nu, .inr (4, [.ref a_nu_bytes, .int nu_length])) :: (a_nu_bytes, .inl (ci 0, 40, .inl nu_bytes)) :: (a_g_rows, .inl (ci 0, 5, .inl g_rows)) :: (a_g_sheets, .inl (ci 0, 5, .inl g_sheets)) :: Rw) a_sp a_g a_sp_first a_sp_many a_sp_corner a_nt a_nt_bytes a_g_rowCuts a_g_columnCuts a_g_bandRows a_g_zoneColumns a_g_rows a_g_sheets sp_cornerCount v2 v3 v4 v5 v6 v7 nt_length nt_bytes g_rowCuts g_columnCuts g_bandRows g_zoneColumns f8 v9 hm30) 2 rfl rfl (cwV 1 hts gX10_before_X4_write rfl rfl rfl (by decide +kernel) ⟨Nat.le_of_ble_eq_true rfl, Nat.le_of_ble_eq_true rfl⟩) rfl rfl (Nat.le_of_ble_eq_true rfl) dX10_before_30 ⟨Nat.zero_le _, Nat.zero_le _⟩ [8, 0, 1, 2, 9, 10, 3, 4, 5, 6, 7, 11, 12] 13 rfl ⟨rfl, rfl, rfl⟩ (fun H locs hP hD hS => ?_)
      obtain ⟨hP, hD⟩ : va_PD D A ((a_x, .inr (10, [.ref a_at, .ref a_g, .ref a_st, .ref a_x_kept, .int x_keptStates, .ref a_tp, .ref a_rd, .ref a_qu, .ref a_sp, .ref a_wk, .ref a_bx, .ref a_nt, .ref a_nu, .ref a_x_seen])) :: (a_sp, .inr (6, [.ref a_g, .ref a_sp_first, .ref a_sp_many, .ref a_sp_corner, .int sp_cornerCount, .int v2, .int v3, .int v4, .int v5, .int v6, .int v7])) :: (a_nt, .inr (4, [.ref a_nt_bytes, .int v9])) :: (a_nt_bytes, .inl (ci 0, 40, .inl f8)) :: (a_nu, .inr (4, [.ref a_nu_bytes, .int nu_length])) :: (a_nu_bytes, .inl (ci 0, 40, .inl nu_bytes)) :: (a_g, .inr (2, [.ref a_g_rowCuts, .ref a_g_columnCuts, .ref a_g_bandRows, .ref a_g_zoneColumns, .ref a_g_rows, .ref a_g_sheets])) :: (a_g_rowCuts, .inl (ci 0, 5, .inl g_rowCuts)) :: (a_g_columnCuts, .inl (ci 0, 5, .inl g_columnCuts)) :: (a_g_bandRows, .inl (ci 0, 5, .inl g_bandRows)) :: (a_g_zoneColumns, .inl (ci 0, 5, .inl g_zoneColumns)) :: (a_g_rows, .inl (ci 0, 5, .inl g_rows)) :: (a_g_sheets, .inl (ci 0, 5, .inl g_sheets)) :: Rw) H := ⟨hP, hD⟩
      refine lv_aload_n (pc := 33) hx hb dX10_before_33 rfl (lv_at hl 0 rfl) ?_
      refine va_get (pc := 34) (D := D) (ci := 10) (v := .ref a_sp) (C := RX10) (T := TX10) (N := 14) hx hb hts hinX10 hown hK hP 0 rfl rfl 8 (by decide) w_2 (fun _ h9 => h9) rfl dX10_before_34 ?_
      refine lv_iload_n (pc := 37) hx hb dX10_before_37 rfl (lv_at hl 1 rfl) ?_
      refine lv_iload_n (pc := 38) hx hb dX10_before_38 rfl (lv_at hl 3 rfl) ?_
      obtain ⟨v10, v11, v12, v13, v14, v15, hm39, hf⟩ := q_b6_e hf
      refine q_cV (pc := 39) (As := [.int p1, .int p3]) (rest := []) (v0 := none) ⟨hx, hb, hml, hown, hts⟩ hK hA hZ hP hD hS hl.1 [1, 6, 9, 10, 11, 12, 0, 2, 3, 4, 5, 7, 8] 13 rfl ⟨rfl, rfl, rfl⟩ (c_Spot_put l D ci A sa N ((a_x, .inr (10, [.ref a_at, .ref a_g, .ref a_st, .ref a_x_kept, .int x_keptStates, .ref a_tp, .ref a_rd, .ref a_qu, .ref a_sp, .ref a_wk, .ref a_bx, .ref a_nt, .ref a_nu, .ref a_x_seen])) :: (a_nt, .inr (4, [.ref a_nt_bytes, .int v9])) :: (a_nt_bytes, .inl (ci 0, 40, .inl f8)) :: (a_nu, .inr (4, [.ref a_nu_bytes, .int nu_length])) :: (a_nu_bytes, .inl (ci 0, 40, .inl nu_bytes)) :: (a_g_rowCuts, .inl (ci 0, 5, .inl g_rowCuts)) :: (a_g_columnCuts, .inl (ci 0, 5, .inl g_columnCuts)) :: Rw) a_sp a_g a_sp_first a_sp_many a_sp_corner a_g_rowCuts a_g_columnCuts a_g_bandRows a_g_zoneColumns a_g_rows a_g_sheets sp_cornerCount v2 v3 v4 v5 v6 v7 g_bandRows g_zoneColumns g_rows g_sheets p1 p3 v10 v11 v12 v13 v14 v15 hm39) 1 rfl rfl (cwV 2 hts gX10_before_X6_put rfl rfl rfl (by decide +kernel) ⟨Nat.le_of_ble_eq_true rfl, Nat.le_of_ble_eq_true rfl⟩) rfl rfl (Nat.le_of_ble_eq_true rfl) dX10_before_39 ⟨Nat.zero_le _, Nat.zero_le _⟩ [6, 0, 7, 8, 9, 10, 1, 11, 12, 2, 3, 4, 5] 13 rfl ⟨rfl, rfl, rfl⟩ (fun H locs hP hD hS => ?_)
      obtain ⟨hP, hD⟩ : va_PD D A ((a_x, .inr (10, [.ref a_at, .ref a_g, .ref a_st, .ref a_x_kept, .int x_keptStates, .ref a_tp, .ref a_rd, .ref a_qu, .ref a_sp, .ref a_wk, .ref a_bx, .ref a_nt, .ref a_nu, .ref a_x_seen])) :: (a_sp, .inr (6, [.ref a_g, .ref a_sp_first, .ref a_sp_many, .ref a_sp_corner, .int sp_cornerCount, .int v10, .int v11, .int v12, .int v13, .int v14, .int v15])) :: (a_nt, .inr (4, [.ref a_nt_bytes, .int v9])) :: (a_nt_bytes, .inl (ci 0, 40, .inl f8)) :: (a_nu, .inr (4, [.ref a_nu_bytes, .int nu_length])) :: (a_nu_bytes, .inl (ci 0, 40, .inl nu_bytes)) :: (a_g, .inr (2, [.ref a_g_rowCuts, .ref a_g_columnCuts, .ref a_g_bandRows, .ref a_g_zoneColumns, .ref a_g_rows, .ref a_g_sheets])) :: (a_g_rowCuts, .inl (ci 0, 5, .inl g_rowCuts)) :: (a_g_columnCuts, .inl (ci 0, 5, .inl g_columnCuts)) :: (a_g_bandRows, .inl (ci 0, 5, .inl g_bandRows)) :: (a_g_zoneColumns, .inl (ci 0, 5, .inl g_zoneColumns)) :: (a_g_rows, .inl (ci 0, 5, .inl g_rows)) :: (a_g_sheets, .inl (ci 0, 5, .inl g_sheets)) :: Rw) H := ⟨hP, hD⟩
      refine lv_aload_n (pc := 42) hx hb dX10_before_42 rfl (lv_at hl 0 rfl) ?_
      refine va_get (pc := 43) (D := D) (ci := 10) (v := .ref a_nu) (C := RX10) (T := TX10) (N := 14) hx hb hts hinX10 hown hK hP 0 rfl rfl 12 (by decide) w_4 (fun _ h9 => h9) rfl dX10_before_43 ?_
      refine lv_aload_n (pc := 46) hx hb dX10_before_46 rfl (lv_at hl 0 rfl) ?_
      refine va_get (pc := 47) (D := D) (ci := 10) (v := .ref a_sp) (C := RX10) (T := TX10) (N := 14) hx hb hts hinX10 hown hK hP 0 rfl rfl 8 (by decide) w_2 (fun _ h9 => h9) rfl dX10_before_47 ?_
      obtain ⟨f16, v17, hm50, hf⟩ := q_b2_e hf
      refine q_cV (pc := 50) (As := [.ref a_sp]) (rest := []) (v0 := none) ⟨hx, hb, hml, hown, hts⟩ hK hA hZ hP hD hS hl.1 [1, 4, 5, 6, 7, 8, 9, 10, 0, 2, 3, 11, 12] 13 rfl ⟨rfl, rfl, rfl⟩ (c_NameText_write l D ci A sa N ((a_x, .inr (10, [.ref a_at, .ref a_g, .ref a_st, .ref a_x_kept, .int x_keptStates, .ref a_tp, .ref a_rd, .ref a_qu, .ref a_sp, .ref a_wk, .ref a_bx, .ref a_nt, .ref a_nu, .ref a_x_seen])) :: (a_nt, .inr (4, [.ref a_nt_bytes, .int v9])) :: (a_nt_bytes, .inl (ci 0, 40, .inl f8)) :: (a_g_rows, .inl (ci 0, 5, .inl g_rows)) :: (a_g_sheets, .inl (ci 0, 5, .inl g_sheets)) :: Rw) a_sp a_g a_sp_first a_sp_many a_sp_corner a_nu a_nu_bytes a_g_rowCuts a_g_columnCuts a_g_bandRows a_g_zoneColumns a_g_rows a_g_sheets sp_cornerCount v10 v11 v12 v13 v14 v15 nu_length nu_bytes g_rowCuts g_columnCuts g_bandRows g_zoneColumns f16 v17 hm50) 4 rfl rfl (cwV 1 hts gX10_before_X4_write rfl rfl rfl (by decide +kernel) ⟨Nat.le_of_ble_eq_true rfl, Nat.le_of_ble_eq_true rfl⟩) rfl rfl (Nat.le_of_ble_eq_true rfl) dX10_before_50 ⟨Nat.zero_le _, Nat.zero_le _⟩ [8, 0, 9, 10, 1, 2, 3, 4, 5, 6, 7, 11, 12] 13 rfl ⟨rfl, rfl, rfl⟩ (fun H locs hP hD hS => ?_)
      obtain ⟨hP, hD⟩ : va_PD D A ((a_x, .inr (10, [.ref a_at, .ref a_g, .ref a_st, .ref a_x_kept, .int x_keptStates, .ref a_tp, .ref a_rd, .ref a_qu, .ref a_sp, .ref a_wk, .ref a_bx, .ref a_nt, .ref a_nu, .ref a_x_seen])) :: (a_sp, .inr (6, [.ref a_g, .ref a_sp_first, .ref a_sp_many, .ref a_sp_corner, .int sp_cornerCount, .int v10, .int v11, .int v12, .int v13, .int v14, .int v15])) :: (a_nt, .inr (4, [.ref a_nt_bytes, .int v9])) :: (a_nt_bytes, .inl (ci 0, 40, .inl f8)) :: (a_nu, .inr (4, [.ref a_nu_bytes, .int v17])) :: (a_nu_bytes, .inl (ci 0, 40, .inl f16)) :: (a_g, .inr (2, [.ref a_g_rowCuts, .ref a_g_columnCuts, .ref a_g_bandRows, .ref a_g_zoneColumns, .ref a_g_rows, .ref a_g_sheets])) :: (a_g_rowCuts, .inl (ci 0, 5, .inl g_rowCuts)) :: (a_g_columnCuts, .inl (ci 0, 5, .inl g_columnCuts)) :: (a_g_bandRows, .inl (ci 0, 5, .inl g_bandRows)) :: (a_g_zoneColumns, .inl (ci 0, 5, .inl g_zoneColumns)) :: (a_g_rows, .inl (ci 0, 5, .inl g_rows)) :: (a_g_sheets, .inl (ci 0, 5, .inl g_sheets)) :: Rw) H := ⟨hP, hD⟩
      refine lv_aload_n (pc := 53) hx hb dX10_before_53 rfl (lv_at hl 0 rfl) ?_
      refine va_get (pc := 54) (D := D) (ci := 10) (v := .ref a_nt) (C := RX10) (T := TX10) (N := 14) hx hb hts hinX10 hown hK hP 0 rfl rfl 11 (by decide) w_3 (fun _ h9 => h9) rfl dX10_before_54 ?_
      refine lv_aload_n (pc := 57) hx hb dX10_before_57 rfl (lv_at hl 0 rfl) ?_
      refine va_get (pc := 58) (D := D) (ci := 10) (v := .ref a_nu) (C := RX10) (T := TX10) (N := 14) hx hb hts hinX10 hown hK hP 0 rfl rfl 12 (by decide) w_4 (fun _ h9 => h9) rfl dX10_before_58 ?_
      obtain ⟨v18, hm61, hf⟩ := q_b1_e hf
      refine q_cVr (pc := 61) (As := [.ref a_nu]) (rest := []) (v0 := (some (.int v18))) ⟨hx, hb, hml, hown, hts⟩ hK hA hZ hP hD hS hl.1 [2, 3, 4, 5] 13 rfl ⟨rfl, rfl, rfl⟩ (c_NameText_against l D ci A sa N (Rw) a_nt a_nt_bytes a_nu a_nu_bytes v9 f8 v17 f16 v18 hm61) 2 rfl rfl (cwV 1 hts gX10_before_X4_against rfl rfl rfl (by decide +kernel) ⟨Nat.le_of_ble_eq_true rfl, Nat.le_of_ble_eq_true rfl⟩) rfl rfl (Nat.le_of_ble_eq_true rfl) dX10_before_61 ⟨Nat.zero_le _, Nat.zero_le _⟩ (fun locs hS => ?_)
      obtain ⟨e90, e91, e92, e93, e94, e95, e96, e97, e98, e99, e910⟩ := q_inj11 (Option.some.inj hf)
      rw [hQ, ← e90, ← e91, ← e92, ← e93, ← e94, ← e95, ← e96, ← e97, ← e98, ← e99, ← e910]
      exact q_iret (pc := 64) hx hb hr hlocks hP hD hS dX10_before_64
    · refine lv_ldc (pc := 10) (v := (-1000000)) hx hb hown w_1 dX10_before_10 ?_
      obtain ⟨e90, e91, e92, e93, e94, e95, e96, e97, e98, e99, e910⟩ := q_inj11 (Option.some.inj hf)
      rw [hQ, ← e90, ← e91, ← e92, ← e93, ← e94, ← e95, ← e96, ← e97, ← e98, ← e99, ← e910]
      exact q_iret (pc := 12) hx hb hr hlocks hP hD hS dX10_before_12
  exact hgo _ _ rfl hP hS
/-! X10_isPlace -/
set_option maxRecDepth 100000 in
set_option maxHeartbeats 4000000 in
theorem c_X_isPlace (l : Launch) (D : va_G) (ci : Nat → ClassId) (A : Nat → Prop) (sa : Nat → Nat) (N : Nat) (Rw : va_W) (p1 : Int32) (p2 : Int32) (r : Int32) (hf : f_X_isPlace p1 p2 = some r) : Met l yX10_isPlace wsX10_isPlace ({ frames := 1, cells := 0, slots := 0, locals := 22 }) (va_Pc [.int p1, .int p2] (q_N D ci A sa (Rw))) (q_R (some (.int r))) 0 0 A := by
  refine q_ofW (cc := cX10_isPlace) (maxL := 2) (ret := (some .boolean)) [.int p1, .int p2] (plainFor_of_name (by decide)) rfl (Nat.le_of_ble_eq_true rfl) ?_
  intro p e s m below meth c ls Q hQ hx hb hml hr hts hown hlocks hK hA hZ hP hD hS hl
  have hl : lv_has ls 2 [(0, .int p1), (1, .int p2)] := hl
  have hown : s.vm.findClass RX10 = some m.cls := hown
  have w_1 := hts (Cond.constant RX10 445 (-324000)) (List.mem_cons_of_mem _ t_w889)
  have w_2 := hts (Cond.constant RX10 446 (324000)) (List.mem_cons_of_mem _ t_w890)
  have w_3 := hts (Cond.constant RX10 447 (1295999)) (List.mem_cons_of_mem _ t_w891)
  unfold f_X_isPlace at hf
  have hgo : ∀ (H : Heap) (locs : List Loc), H = s.heap → va_P D vwCl (Rw) H → va_S A s.heap H locs → W p l e ({ frames := 1, cells := 0, slots := 0, locals := 22 } : Room) s m ([.int p1, .int p2] : List Value).toArray below meth c H locs 0 0 Q (F0 m 0 ls []) := by
    intro H locs hH hP hS
    subst hH
    refine lv_iload_n (pc := 0) hx hb dX10_isPlace_0 rfl (lv_at hl 0 rfl) ?_
    refine lv_ldcw (pc := 1) (v := (-324000)) hx hb hown w_1 dX10_isPlace_1 ?_
    refine lv_ldcw (pc := 4) (v := 324000) hx hb hown w_2 dX10_isPlace_4 ?_
    obtain ⟨v1, hm7, hf⟩ := q_b1_e hf
    refine q_cSr (pc := 7) (As := [.int p1, .int (-324000), .int 324000]) (rest := []) (v0 := (some (.int v1))) ⟨hx, hb, hml, hown, hts⟩ hK hA hZ hP hD hS hl.1 [] 0 rfl ⟨rfl, rfl, rfl⟩ (c_X_isFrom l D ci A sa N (Rw) p1 (-324000) 324000 v1 hm7) (va_cwS 3 hts gX10_isPlace_X10_isFrom rfl rfl rfl (by decide +kernel) ⟨Nat.le_of_ble_eq_true rfl, Nat.le_of_ble_eq_true rfl⟩) rfl rfl (Nat.le_of_ble_eq_true rfl) dX10_isPlace_7 ⟨Nat.zero_le _, Nat.zero_le _⟩ (fun locs hS => ?_)
    refine q_if_eq (pc := 10) (tgt := 28) hx hb dX10_isPlace_10 (by decide) rfl hf (fun hf => ?_) (fun hf => ?_)
    · refine lv_iconst (pc := 28) (v := 0) hx hb dX10_isPlace_28 (by decide) ?_
      obtain rfl := Option.some.inj hf
      rw [hQ]
      exact q_zretr (pc := 29) hx hb hr rfl hlocks rfl hS dX10_isPlace_29
    · refine lv_iload_n (pc := 13) hx hb dX10_isPlace_13 rfl (lv_at hl 1 rfl) ?_
      refine lv_iconst (pc := 14) (v := 0) hx hb dX10_isPlace_14 (by decide) ?_
      refine lv_ldcw (pc := 15) (v := 1295999) hx hb hown w_3 dX10_isPlace_15 ?_
      obtain ⟨v2, hm18, hf⟩ := q_b1_e hf
      refine q_cSr (pc := 18) (As := [.int p2, .int 0, .int 1295999]) (rest := []) (v0 := (some (.int v2))) ⟨hx, hb, hml, hown, hts⟩ hK hA hZ hP hD hS hl.1 [] 0 rfl ⟨rfl, rfl, rfl⟩ (c_X_isFrom l D ci A sa N (Rw) p2 0 1295999 v2 hm18) (va_cwS 3 hts gX10_isPlace_X10_isFrom rfl rfl rfl (by decide +kernel) ⟨Nat.le_of_ble_eq_true rfl, Nat.le_of_ble_eq_true rfl⟩) rfl rfl (Nat.le_of_ble_eq_true rfl) dX10_isPlace_18 ⟨Nat.zero_le _, Nat.zero_le _⟩ (fun locs hS => ?_)
      refine q_if_eq (pc := 21) (tgt := 28) hx hb dX10_isPlace_21 (by decide) rfl hf (fun hf => ?_) (fun hf => ?_)
      · refine lv_iconst (pc := 28) (v := 0) hx hb dX10_isPlace_28 (by decide) ?_
        obtain rfl := Option.some.inj hf
        rw [hQ]
        exact q_zretr (pc := 29) hx hb hr rfl hlocks rfl hS dX10_isPlace_29
      · refine lv_iconst (pc := 24) (v := 1) hx hb dX10_isPlace_24 (by decide) ?_
        refine lv_goto (pc := 25) (tgt := 29) hx hb dX10_isPlace_25 (by decide) ?_
        obtain rfl := Option.some.inj hf
        rw [hQ]
        exact q_zretr (pc := 29) hx hb hr rfl hlocks rfl hS dX10_isPlace_29
  exact hgo _ _ rfl hP hS
/-! X10_isBox -/
set_option maxRecDepth 100000 in
set_option maxHeartbeats 4000000 in
theorem c_X_isBox (l : Launch) (D : va_G) (ci : Nat → ClassId) (A : Nat → Prop) (sa : Nat → Nat) (N : Nat) (Rw : va_W) (p1 : Int32) (p2 : Int32) (p3 : Int32) (p4 : Int32) (r : Int32) (hf : f_X_isBox p1 p2 p3 p4 = some r) : Met l yX10_isBox wsX10_isBox ({ frames := 2, cells := 0, slots := 0, locals := 43 }) (va_Pc [.int p1, .int p2, .int p3, .int p4] (q_N D ci A sa (Rw))) (q_R (some (.int r))) 0 0 A := by
  refine q_ofW (cc := cX10_isBox) (maxL := 4) (ret := (some .boolean)) [.int p1, .int p2, .int p3, .int p4] (plainFor_of_name (by decide)) rfl (Nat.le_of_ble_eq_true rfl) ?_
  intro p e s m below meth c ls Q hQ hx hb hml hr hts hown hlocks hK hA hZ hP hD hS hl
  have hl : lv_has ls 4 [(0, .int p1), (1, .int p2), (2, .int p3), (3, .int p4)] := hl
  have hown : s.vm.findClass RX10 = some m.cls := hown
  unfold f_X_isBox at hf
  have hgo : ∀ (H : Heap) (locs : List Loc), H = s.heap → va_P D vwCl (Rw) H → va_S A s.heap H locs → W p l e ({ frames := 2, cells := 0, slots := 0, locals := 43 } : Room) s m ([.int p1, .int p2, .int p3, .int p4] : List Value).toArray below meth c H locs 0 0 Q (F0 m 0 ls []) := by
    intro H locs hH hP hS
    subst hH
    refine lv_iload_n (pc := 0) hx hb dX10_isBox_0 rfl (lv_at hl 0 rfl) ?_
    refine lv_iload_n (pc := 1) hx hb dX10_isBox_1 rfl (lv_at hl 2 rfl) ?_
    obtain ⟨v1, hm2, hf⟩ := q_b1_e hf
    refine q_cSr (pc := 2) (As := [.int p1, .int p3]) (rest := []) (v0 := (some (.int v1))) ⟨hx, hb, hml, hown, hts⟩ hK hA hZ hP hD hS hl.1 [] 0 rfl ⟨rfl, rfl, rfl⟩ (c_X_isPlace l D ci A sa N (Rw) p1 p3 v1 hm2) (va_cwS 2 hts gX10_isBox_X10_isPlace rfl rfl rfl (by decide +kernel) ⟨Nat.le_of_ble_eq_true rfl, Nat.le_of_ble_eq_true rfl⟩) rfl rfl (Nat.le_of_ble_eq_true rfl) dX10_isBox_2 ⟨Nat.zero_le _, Nat.zero_le _⟩ (fun locs hS => ?_)
    refine q_if_eq (pc := 5) (tgt := 25) hx hb dX10_isBox_5 (by decide) rfl hf (fun hf => ?_) (fun hf => ?_)
    · refine lv_iconst (pc := 25) (v := 0) hx hb dX10_isBox_25 (by decide) ?_
      obtain rfl := Option.some.inj hf
      rw [hQ]
      exact q_zretr (pc := 26) hx hb hr rfl hlocks rfl hS dX10_isBox_26
    · refine lv_iload_n (pc := 8) hx hb dX10_isBox_8 rfl (lv_at hl 1 rfl) ?_
      refine lv_iload_n (pc := 9) hx hb dX10_isBox_9 rfl (lv_at hl 3 rfl) ?_
      obtain ⟨v2, hm10, hf⟩ := q_b1_e hf
      refine q_cSr (pc := 10) (As := [.int p2, .int p4]) (rest := []) (v0 := (some (.int v2))) ⟨hx, hb, hml, hown, hts⟩ hK hA hZ hP hD hS hl.1 [] 0 rfl ⟨rfl, rfl, rfl⟩ (c_X_isPlace l D ci A sa N (Rw) p2 p4 v2 hm10) (va_cwS 2 hts gX10_isBox_X10_isPlace rfl rfl rfl (by decide +kernel) ⟨Nat.le_of_ble_eq_true rfl, Nat.le_of_ble_eq_true rfl⟩) rfl rfl (Nat.le_of_ble_eq_true rfl) dX10_isBox_10 ⟨Nat.zero_le _, Nat.zero_le _⟩ (fun locs hS => ?_)
      refine q_if_eq (pc := 13) (tgt := 25) hx hb dX10_isBox_13 (by decide) rfl hf (fun hf => ?_) (fun hf => ?_)
      · refine lv_iconst (pc := 25) (v := 0) hx hb dX10_isBox_25 (by decide) ?_
        obtain rfl := Option.some.inj hf
        rw [hQ]
        exact q_zretr (pc := 26) hx hb hr rfl hlocks rfl hS dX10_isBox_26
      · refine lv_iload_n (pc := 16) hx hb dX10_isBox_16 rfl (lv_at hl 0 rfl) ?_
        refine lv_iload_n (pc := 17) hx hb dX10_isBox_17 rfl (lv_at hl 1 rfl) ?_
        refine q_icmp_gt (pc := 18) (tgt := 25) hx hb dX10_isBox_18 (by decide) rfl hf (fun hf => ?_) (fun hf => ?_)
        · refine lv_iconst (pc := 25) (v := 0) hx hb dX10_isBox_25 (by decide) ?_
          obtain rfl := Option.some.inj hf
          rw [hQ]
          exact q_zretr (pc := 26) hx hb hr rfl hlocks rfl hS dX10_isBox_26
        · refine lv_iconst (pc := 21) (v := 1) hx hb dX10_isBox_21 (by decide) ?_
          refine lv_goto (pc := 22) (tgt := 26) hx hb dX10_isBox_22 (by decide) ?_
          obtain rfl := Option.some.inj hf
          rw [hQ]
          exact q_zretr (pc := 26) hx hb hr rfl hlocks rfl hS dX10_isBox_26
  exact hgo _ _ rfl hP hS
/-! X10_box -/
set_option maxRecDepth 100000 in
set_option maxHeartbeats 4000000 in
theorem c_X_box (l : Launch) (D : va_G) (ci : Nat → ClassId) (A : Nat → Prop) (sa : Nat → Nat) (N : Nat) (Rw : va_W) (a_x : Nat) (a_at : Nat) (a_g : Nat) (a_st : Nat) (a_x_kept : Nat) (a_tp : Nat) (a_rd : Nat) (a_qu : Nat) (a_sp : Nat) (a_wk : Nat) (a_bx : Nat) (a_nt : Nat) (a_nu : Nat) (a_x_seen : Nat) (a_g_rowCuts : Nat) (a_g_columnCuts : Nat) (a_g_bandRows : Nat) (a_g_zoneColumns : Nat) (a_g_rows : Nat) (a_g_sheets : Nat) (x_keptStates : Int32) (bx_south : Int32) (bx_north : Int32) (bx_west : Int32) (bx_east : Int32) (g_bandRows : Nat → Int32) (g_zoneColumns : Nat → Int32) (g_rows : Nat → Int32) (g_sheets : Nat → Int32) (p1 : Int32) (p2 : Int32) (p3 : Int32) (p4 : Int32) (p5 : Int32) (p6 : Int32) (r : Int32) (o1 : Int32) (o2 : Int32) (o3 : Int32) (o4 : Int32) (hf : f_X_box N bx_south bx_north bx_west bx_east g_bandRows g_zoneColumns g_rows g_sheets p1 p2 p3 p4 p5 p6 = some (r, o1, o2, o3, o4)) : Met l yX10_box wsX10_box ({ frames := 5, cells := 0, slots := 0, locals := 121 }) (va_Pc [.ref a_x, .int p1, .int p2, .int p3, .int p4, .int p5, .int p6] (q_N D ci A sa ((a_x, .inr (10, [.ref a_at, .ref a_g, .ref a_st, .ref a_x_kept, .int x_keptStates, .ref a_tp, .ref a_rd, .ref a_qu, .ref a_sp, .ref a_wk, .ref a_bx, .ref a_nt, .ref a_nu, .ref a_x_seen])) :: (a_bx, .inr (1, [.ref a_g, .int bx_south, .int bx_north, .int bx_west, .int bx_east])) :: (a_g, .inr (2, [.ref a_g_rowCuts, .ref a_g_columnCuts, .ref a_g_bandRows, .ref a_g_zoneColumns, .ref a_g_rows, .ref a_g_sheets])) :: (a_g_bandRows, .inl (ci 0, 5, .inl g_bandRows)) :: (a_g_zoneColumns, .inl (ci 0, 5, .inl g_zoneColumns)) :: (a_g_rows, .inl (ci 0, 5, .inl g_rows)) :: (a_g_sheets, .inl (ci 0, 5, .inl g_sheets)) :: Rw))) (q_Q (some (.int r)) (q_O D A ((a_x, .inr (10, [.ref a_at, .ref a_g, .ref a_st, .ref a_x_kept, .int x_keptStates, .ref a_tp, .ref a_rd, .ref a_qu, .ref a_sp, .ref a_wk, .ref a_bx, .ref a_nt, .ref a_nu, .ref a_x_seen])) :: (a_bx, .inr (1, [.ref a_g, .int o1, .int o2, .int o3, .int o4])) :: (a_g, .inr (2, [.ref a_g_rowCuts, .ref a_g_columnCuts, .ref a_g_bandRows, .ref a_g_zoneColumns, .ref a_g_rows, .ref a_g_sheets])) :: (a_g_bandRows, .inl (ci 0, 5, .inl g_bandRows)) :: (a_g_zoneColumns, .inl (ci 0, 5, .inl g_zoneColumns)) :: (a_g_rows, .inl (ci 0, 5, .inl g_rows)) :: (a_g_sheets, .inl (ci 0, 5, .inl g_sheets)) :: Rw)) A) 0 0 A := by
  refine q_ofW (cc := cX10_box) (maxL := 8) (ret := (some .int)) [.ref a_x, .int p1, .int p2, .int p3, .int p4, .int p5, .int p6] (plainFor_of_name (by decide)) rfl (Nat.le_of_ble_eq_true rfl) ?_
  intro p e s m below meth c ls Q hQ hx hb hml hr hts hown hlocks hK hA hZ hP hD hS hl
  have hl : lv_has ls 8 [(0, .ref a_x), (1, .int p1), (2, .int p2), (3, .int p3), (4, .int p4), (5, .int p5), (6, .int p6)] := hl
  have hown : s.vm.findClass RX10 = some m.cls := hown
  have hinX10 : ∀ w ∈ wsX100, w ∈ wsX10_box := fun _ h => List.mem_cons_of_mem _ (inWX100 _ h)
  have w_1 := hts (Cond.fieldLink RX10 80 "SheetNames" "area" "LSheetNames$Box;") (List.mem_cons_of_mem _ t_w878)
  unfold f_X_box at hf
  have hgo : ∀ (H : Heap) (locs : List Loc), H = s.heap → va_P D vwCl ((a_x, .inr (10, [.ref a_at, .ref a_g, .ref a_st, .ref a_x_kept, .int x_keptStates, .ref a_tp, .ref a_rd, .ref a_qu, .ref a_sp, .ref a_wk, .ref a_bx, .ref a_nt, .ref a_nu, .ref a_x_seen])) :: (a_bx, .inr (1, [.ref a_g, .int bx_south, .int bx_north, .int bx_west, .int bx_east])) :: (a_g, .inr (2, [.ref a_g_rowCuts, .ref a_g_columnCuts, .ref a_g_bandRows, .ref a_g_zoneColumns, .ref a_g_rows, .ref a_g_sheets])) :: (a_g_bandRows, .inl (ci 0, 5, .inl g_bandRows)) :: (a_g_zoneColumns, .inl (ci 0, 5, .inl g_zoneColumns)) :: (a_g_rows, .inl (ci 0, 5, .inl g_rows)) :: (a_g_sheets, .inl (ci 0, 5, .inl g_sheets)) :: Rw) H → va_S A s.heap H locs → W p l e ({ frames := 5, cells := 0, slots := 0, locals := 121 } : Room) s m ([.ref a_x, .int p1, .int p2, .int p3, .int p4, .int p5, .int p6] : List Value).toArray below meth c H locs 0 0 Q (F0 m 0 ls []) := by
    intro H locs hH hP hS
    refine lv_iload_n (pc := 0) hx hb dX10_box_0 rfl (lv_at hl 1 rfl) ?_
    refine lv_iload_n (pc := 1) hx hb dX10_box_1 rfl (lv_at hl 2 rfl) ?_
    refine lv_iload_n (pc := 2) hx hb dX10_box_2 rfl (lv_at hl 3 rfl) ?_
    refine lv_iload (pc := 3) hx hb dX10_box_3 (lv_at hl 4 rfl) ?_
    obtain ⟨v1, hm5, hf⟩ := q_b1_e hf
    refine q_cSr (pc := 5) (As := [.int p1, .int p2, .int p3, .int p4]) (rest := []) (v0 := (some (.int v1))) ⟨hx, hb, hml, hown, hts⟩ hK hA hZ hP hD hS hl.1 [] 7 rfl ⟨rfl, rfl, rfl⟩ (c_X_isBox l D ci A sa N (Rw) p1 p2 p3 p4 v1 hm5) (va_cwS 4 hts gX10_box_X10_isBox rfl rfl rfl (by decide +kernel) ⟨Nat.le_of_ble_eq_true rfl, Nat.le_of_ble_eq_true rfl⟩) rfl rfl (Nat.le_of_ble_eq_true rfl) dX10_box_5 ⟨Nat.zero_le _, Nat.zero_le _⟩ (fun locs hS => ?_)
    refine q_if_eq (pc := 8) (tgt := 25) hx hb dX10_box_8 (by decide) rfl hf (fun hf => ?_) (fun hf => ?_)
    · refine lv_iconst (pc := 25) (v := (-1)) hx hb dX10_box_25 (by decide) ?_
      obtain ⟨e90, e91, e92, e93, e94⟩ := q_inj5 (Option.some.inj hf)
      rw [hQ, ← e90, ← e91, ← e92, ← e93, ← e94]
      exact q_iret (pc := 26) hx hb hr hlocks hP hD hS dX10_box_26
    · refine lv_iload (pc := 11) hx hb dX10_box_11 (lv_at hl 5 rfl) ?_
      obtain ⟨v2, hm13, hf⟩ := q_b1_e hf
      refine q_cSr (pc := 13) (As := [.int p5]) (rest := []) (v0 := (some (.int v2))) ⟨hx, hb, hml, hown, hts⟩ hK hA hZ hP hD hS hl.1 [] 7 rfl ⟨rfl, rfl, rfl⟩ (c_X_isLevel l D ci A sa N (Rw) p5 v2 hm13) (va_cwS 1 hts gX10_box_X10_isLevel rfl rfl rfl (by decide +kernel) ⟨Nat.le_of_ble_eq_true rfl, Nat.le_of_ble_eq_true rfl⟩) rfl rfl (Nat.le_of_ble_eq_true rfl) dX10_box_13 ⟨Nat.zero_le _, Nat.zero_le _⟩ (fun locs hS => ?_)
      refine q_if_eq (pc := 16) (tgt := 25) hx hb dX10_box_16 (by decide) rfl hf (fun hf => ?_) (fun hf => ?_)
      · refine lv_iconst (pc := 25) (v := (-1)) hx hb dX10_box_25 (by decide) ?_
        obtain ⟨e90, e91, e92, e93, e94⟩ := q_inj5 (Option.some.inj hf)
        rw [hQ, ← e90, ← e91, ← e92, ← e93, ← e94]
        exact q_iret (pc := 26) hx hb hr hlocks hP hD hS dX10_box_26
      · refine lv_iload (pc := 19) hx hb dX10_box_19 (lv_at hl 6 rfl) ?_
        refine lv_iconst (pc := 21) (v := (-1)) hx hb dX10_box_21 (by decide) ?_
        refine q_icmp_ge (pc := 22) (tgt := 27) hx hb dX10_box_22 (by decide) rfl hf (fun hf => ?_) (fun hf => ?_)
        · refine lv_aload_n (pc := 27) hx hb dX10_box_27 rfl (lv_at hl 0 rfl) ?_
          refine va_get (pc := 28) (D := D) (ci := 10) (v := .ref a_bx) (C := RX10) (T := TX10) (N := 14) hx hb hts hinX10 hown hK hP 0 rfl rfl 10 (by decide) w_1 (fun _ h9 => h9) rfl dX10_box_28 ?_
          refine lv_iload_n (pc := 31) hx hb dX10_box_31 rfl (lv_at hl 1 rfl) ?_
          refine lv_iload_n (pc := 32) hx hb dX10_box_32 rfl (lv_at hl 2 rfl) ?_
          refine lv_iload_n (pc := 33) hx hb dX10_box_33 rfl (lv_at hl 3 rfl) ?_
          refine lv_iload (pc := 34) hx hb dX10_box_34 (lv_at hl 4 rfl) ?_
          obtain ⟨v3, v4, v5, v6, hm36, hf⟩ := q_b4_e hf
          refine q_cV (pc := 36) (As := [.int p1, .int p2, .int p3, .int p4]) (rest := []) (v0 := none) ⟨hx, hb, hml, hown, hts⟩ hK hA hZ hP hD hS hl.1 [1, 0, 2, 3, 4, 5, 6] 7 rfl ⟨rfl, rfl, rfl⟩ (c_Box_set l D ci A sa N ((a_x, .inr (10, [.ref a_at, .ref a_g, .ref a_st, .ref a_x_kept, .int x_keptStates, .ref a_tp, .ref a_rd, .ref a_qu, .ref a_sp, .ref a_wk, .ref a_bx, .ref a_nt, .ref a_nu, .ref a_x_seen])) :: (a_g, .inr (2, [.ref a_g_rowCuts, .ref a_g_columnCuts, .ref a_g_bandRows, .ref a_g_zoneColumns, .ref a_g_rows, .ref a_g_sheets])) :: (a_g_bandRows, .inl (ci 0, 5, .inl g_bandRows)) :: (a_g_zoneColumns, .inl (ci 0, 5, .inl g_zoneColumns)) :: (a_g_rows, .inl (ci 0, 5, .inl g_rows)) :: (a_g_sheets, .inl (ci 0, 5, .inl g_sheets)) :: Rw) a_bx a_g bx_south bx_north bx_west bx_east p1 p2 p3 p4 v3 v4 v5 v6 hm36) 1 rfl rfl (cwV 4 hts gX10_box_X1_set rfl rfl rfl (by decide +kernel) ⟨Nat.le_of_ble_eq_true rfl, Nat.le_of_ble_eq_true rfl⟩) rfl rfl (Nat.le_of_ble_eq_true rfl) dX10_box_36 ⟨Nat.zero_le _, Nat.zero_le _⟩ [1, 0, 2, 3, 4, 5, 6] 7 rfl ⟨rfl, rfl, rfl⟩ (fun H locs hP hD hS => ?_)
          obtain ⟨hP, hD⟩ : va_PD D A ((a_x, .inr (10, [.ref a_at, .ref a_g, .ref a_st, .ref a_x_kept, .int x_keptStates, .ref a_tp, .ref a_rd, .ref a_qu, .ref a_sp, .ref a_wk, .ref a_bx, .ref a_nt, .ref a_nu, .ref a_x_seen])) :: (a_bx, .inr (1, [.ref a_g, .int v3, .int v4, .int v5, .int v6])) :: (a_g, .inr (2, [.ref a_g_rowCuts, .ref a_g_columnCuts, .ref a_g_bandRows, .ref a_g_zoneColumns, .ref a_g_rows, .ref a_g_sheets])) :: (a_g_bandRows, .inl (ci 0, 5, .inl g_bandRows)) :: (a_g_zoneColumns, .inl (ci 0, 5, .inl g_zoneColumns)) :: (a_g_rows, .inl (ci 0, 5, .inl g_rows)) :: (a_g_sheets, .inl (ci 0, 5, .inl g_sheets)) :: Rw) H := ⟨hP, hD⟩
          refine lv_aload_n (pc := 39) hx hb dX10_box_39 rfl (lv_at hl 0 rfl) ?_
          refine va_get (pc := 40) (D := D) (ci := 10) (v := .ref a_bx) (C := RX10) (T := TX10) (N := 14) hx hb hts hinX10 hown hK hP 0 rfl rfl 10 (by decide) w_1 (fun _ h9 => h9) rfl dX10_box_40 ?_
          refine lv_iload (pc := 43) hx hb dX10_box_43 (lv_at hl 5 rfl) ?_
          obtain ⟨v7, hm45, hf⟩ := q_b1_e hf
          refine q_cVr (pc := 45) (As := [.int p5]) (rest := []) (v0 := (some (.int v7))) ⟨hx, hb, hml, hown, hts⟩ hK hA hZ hP hD hS hl.1 [1, 2, 3, 4, 5] 7 rfl ⟨rfl, rfl, rfl⟩ (c_Box_sheetsAt l D ci A sa N (Rw) a_bx a_g a_g_rowCuts a_g_columnCuts a_g_bandRows a_g_zoneColumns a_g_rows a_g_sheets v3 v4 v5 v6 g_bandRows g_zoneColumns g_rows p5 v7 hm45) 1 rfl rfl (cwV 1 hts gX10_box_X1_sheetsAt rfl rfl rfl (by decide +kernel) ⟨Nat.le_of_ble_eq_true rfl, Nat.le_of_ble_eq_true rfl⟩) rfl rfl (Nat.le_of_ble_eq_true rfl) dX10_box_45 ⟨Nat.zero_le _, Nat.zero_le _⟩ (fun locs hS => ?_)
          refine lv_istore (pc := 48) (lv' := [(7, .int v7), (0, .ref a_x), (1, .int p1), (2, .int p2), (3, .int p3), (4, .int p4), (5, .int p5), (6, .int p6)]) hx hb dX10_box_48 hl (by decide) rfl (fun ls hl => ?_)
          refine lv_iload (pc := 50) hx hb dX10_box_50 (lv_at hl 7 rfl) ?_
          refine lv_iconst (pc := 52) (v := (-1)) hx hb dX10_box_52 (by decide) ?_
          refine q_icmp_ne (pc := 53) (tgt := 59) hx hb dX10_box_53 (by decide) rfl hf (fun hf => ?_) (fun hf => ?_)
          · refine lv_iload (pc := 59) hx hb dX10_box_59 (lv_at hl 7 rfl) ?_
            refine lv_iload (pc := 61) hx hb dX10_box_61 (lv_at hl 0 rfl) ?_
            refine q_icmp_ge (pc := 63) (tgt := 80) hx hb dX10_box_63 (by decide) rfl hf (fun hf => ?_) (fun hf => ?_)
            · refine lv_bipush (pc := 80) (v := (-2)) hx hb dX10_box_80 (by decide) ?_
              obtain ⟨e90, e91, e92, e93, e94⟩ := q_inj5 (Option.some.inj hf)
              rw [hQ, ← e90, ← e91, ← e92, ← e93, ← e94]
              exact q_iret (pc := 82) hx hb hr hlocks hP hD hS dX10_box_82
            · refine lv_aload_n (pc := 66) hx hb dX10_box_66 rfl (lv_at hl 1 rfl) ?_
              refine va_get (pc := 67) (D := D) (ci := 10) (v := .ref a_bx) (C := RX10) (T := TX10) (N := 14) hx hb hts hinX10 hown hK hP 0 rfl rfl 10 (by decide) w_1 (fun _ h9 => h9) rfl dX10_box_67 ?_
              refine lv_iload (pc := 70) hx hb dX10_box_70 (lv_at hl 6 rfl) ?_
              refine lv_iload (pc := 72) hx hb dX10_box_72 (lv_at hl 7 rfl) ?_
              obtain ⟨v8, hm74, hf⟩ := q_b1_e hf
              refine q_cVr (pc := 74) (As := [.int p5, .int p6]) (rest := []) (v0 := (some (.int v8))) ⟨hx, hb, hml, hown, hts⟩ hK hA hZ hP hD hS hl.1 [1, 2, 3, 4, 5, 6] 7 rfl ⟨rfl, rfl, rfl⟩ (c_Box_sheetAt l D ci A sa N (Rw) a_bx a_g a_g_rowCuts a_g_columnCuts a_g_bandRows a_g_zoneColumns a_g_rows a_g_sheets v3 v4 v5 v6 g_bandRows g_zoneColumns g_rows g_sheets p5 p6 v8 hm74) 1 rfl rfl (cwV 2 hts gX10_box_X1_sheetAt rfl rfl rfl (by decide +kernel) ⟨Nat.le_of_ble_eq_true rfl, Nat.le_of_ble_eq_true rfl⟩) rfl rfl (Nat.le_of_ble_eq_true rfl) dX10_box_74 ⟨Nat.zero_le _, Nat.zero_le _⟩ (fun locs hS => ?_)
              refine lv_goto (pc := 77) (tgt := 82) hx hb dX10_box_77 (by decide) ?_
              obtain ⟨e90, e91, e92, e93, e94⟩ := q_inj5 (Option.some.inj hf)
              rw [hQ, ← e90, ← e91, ← e92, ← e93, ← e94]
              exact q_iret (pc := 82) hx hb hr hlocks hP hD hS dX10_box_82
          · refine lv_iload (pc := 56) hx hb dX10_box_56 (lv_at hl 0 rfl) ?_
            obtain ⟨e90, e91, e92, e93, e94⟩ := q_inj5 (Option.some.inj hf)
            rw [hQ, ← e90, ← e91, ← e92, ← e93, ← e94]
            exact q_iret (pc := 58) hx hb hr hlocks hP hD hS dX10_box_58
        · refine lv_iconst (pc := 25) (v := (-1)) hx hb dX10_box_25 (by decide) ?_
          obtain ⟨e90, e91, e92, e93, e94⟩ := q_inj5 (Option.some.inj hf)
          rw [hQ, ← e90, ← e91, ← e92, ← e93, ← e94]
          exact q_iret (pc := 26) hx hb hr hlocks hP hD hS dX10_box_26
  exact hgo _ _ rfl hP hS
end
section
/-! X10_changes -/
set_option maxRecDepth 100000 in
set_option maxHeartbeats 4000000 in
theorem c_X_changes (l : Launch) (D : va_G) (ci : Nat → ClassId) (A : Nat → Prop) (sa : Nat → Nat) (N : Nat) (Rw : va_W) (a_x : Nat) (a_at : Nat) (a_g : Nat) (a_st : Nat) (a_x_kept : Nat) (a_tp : Nat) (a_rd : Nat) (a_qu : Nat) (a_sp : Nat) (a_wk : Nat) (a_bx : Nat) (a_nt : Nat) (a_nu : Nat) (a_x_seen : Nat) (a_g_rowCuts : Nat) (a_g_columnCuts : Nat) (a_g_bandRows : Nat) (a_g_zoneColumns : Nat) (a_g_rows : Nat) (a_g_sheets : Nat) (x_keptStates : Int32) (g_bandRows : Nat → Int32) (g_zoneColumns : Nat → Int32) (g_rows : Nat → Int32) (g_sheets : Nat → Int32) (p1 : Int32) (p2 : Int32) (p3 : Int32) (p4 : Int32) (p5 : Int32) (p6 : Int32) (r : Int32) (hf : f_X_changes N g_bandRows g_zoneColumns g_rows g_sheets p1 p2 p3 p4 p5 p6 = some r) : Met l yX10_changes wsX10_changes ({ frames := 3, cells := 0, slots := 0, locals := 73 }) (va_Pc [.ref a_x, .int p1, .int p2, .int p3, .int p4, .int p5, .int p6] (q_N D ci A sa ((a_x, .inr (10, [.ref a_at, .ref a_g, .ref a_st, .ref a_x_kept, .int x_keptStates, .ref a_tp, .ref a_rd, .ref a_qu, .ref a_sp, .ref a_wk, .ref a_bx, .ref a_nt, .ref a_nu, .ref a_x_seen])) :: (a_g, .inr (2, [.ref a_g_rowCuts, .ref a_g_columnCuts, .ref a_g_bandRows, .ref a_g_zoneColumns, .ref a_g_rows, .ref a_g_sheets])) :: (a_g_bandRows, .inl (ci 0, 5, .inl g_bandRows)) :: (a_g_zoneColumns, .inl (ci 0, 5, .inl g_zoneColumns)) :: (a_g_rows, .inl (ci 0, 5, .inl g_rows)) :: (a_g_sheets, .inl (ci 0, 5, .inl g_sheets)) :: Rw))) (q_R (some (.int r))) 0 0 A := by
  refine q_ofW (cc := cX10_changes) (maxL := 13) (ret := (some .int)) [.ref a_x, .int p1, .int p2, .int p3, .int p4, .int p5, .int p6] (plainFor_of_name (by decide)) rfl (Nat.le_of_ble_eq_true rfl) ?_
  intro p e s m below meth c ls Q hQ hx hb hml hr hts hown hlocks hK hA hZ hP hD hS hl
  have hl : lv_has ls 13 [(0, .ref a_x), (1, .int p1), (2, .int p2), (3, .int p3), (4, .int p4), (5, .int p5), (6, .int p6)] := hl
  have hown : s.vm.findClass RX10 = some m.cls := hown
  have hinX10 : ∀ w ∈ wsX100, w ∈ wsX10_changes := fun _ h => List.mem_cons_of_mem _ (inWX100 _ h)
  have w_1 := hts (Cond.fieldLink RX10 20 "SheetNames" "grid" "LSheetNames$Grid;") (List.mem_cons_of_mem _ t_w876)
  unfold f_X_changes at hf
  have hgo : ∀ (H : Heap) (locs : List Loc), H = s.heap → va_P D vwCl ((a_x, .inr (10, [.ref a_at, .ref a_g, .ref a_st, .ref a_x_kept, .int x_keptStates, .ref a_tp, .ref a_rd, .ref a_qu, .ref a_sp, .ref a_wk, .ref a_bx, .ref a_nt, .ref a_nu, .ref a_x_seen])) :: (a_g, .inr (2, [.ref a_g_rowCuts, .ref a_g_columnCuts, .ref a_g_bandRows, .ref a_g_zoneColumns, .ref a_g_rows, .ref a_g_sheets])) :: (a_g_bandRows, .inl (ci 0, 5, .inl g_bandRows)) :: (a_g_zoneColumns, .inl (ci 0, 5, .inl g_zoneColumns)) :: (a_g_rows, .inl (ci 0, 5, .inl g_rows)) :: (a_g_sheets, .inl (ci 0, 5, .inl g_sheets)) :: Rw) H → va_S A s.heap H locs → W p l e ({ frames := 3, cells := 0, slots := 0, locals := 73 } : Room) s m ([.ref a_x, .int p1, .int p2, .int p3, .int p4, .int p5, .int p6] : List Value).toArray below meth c H locs 0 0 Q (F0 m 0 ls []) := by
    intro H locs hH hP hS
    subst hH
    refine lv_iload_n (pc := 0) hx hb dX10_changes_0 rfl (lv_at hl 1 rfl) ?_
    refine lv_iload_n (pc := 1) hx hb dX10_changes_1 rfl (lv_at hl 2 rfl) ?_
    obtain ⟨v1, hm2, hf⟩ := q_b1_e hf
    refine q_cSr (pc := 2) (As := [.int p1, .int p2]) (rest := []) (v0 := (some (.int v1))) ⟨hx, hb, hml, hown, hts⟩ hK hA hZ hP hD hS hl.1 [] 6 rfl ⟨rfl, rfl, rfl⟩ (c_X_isPlace l D ci A sa N (Rw) p1 p2 v1 hm2) (va_cwS 2 hts gX10_changes_X10_isPlace rfl rfl rfl (by decide +kernel) ⟨Nat.le_of_ble_eq_true rfl, Nat.le_of_ble_eq_true rfl⟩) rfl rfl (Nat.le_of_ble_eq_true rfl) dX10_changes_2 ⟨Nat.zero_le _, Nat.zero_le _⟩ (fun locs hS => ?_)
    refine q_if_eq (pc := 5) (tgt := 37) hx hb dX10_changes_5 (by decide) rfl hf (fun hf => ?_) (fun hf => ?_)
    · refine lv_iconst (pc := 37) (v := (-1)) hx hb dX10_changes_37 (by decide) ?_
      obtain rfl := Option.some.inj hf
      rw [hQ]
      exact q_iretr (pc := 38) hx hb hr hlocks rfl hS dX10_changes_38
    · refine lv_iload_n (pc := 8) hx hb dX10_changes_8 rfl (lv_at hl 3 rfl) ?_
      refine lv_iload (pc := 9) hx hb dX10_changes_9 (lv_at hl 4 rfl) ?_
      obtain ⟨v2, hm11, hf⟩ := q_b1_e hf
      refine q_cSr (pc := 11) (As := [.int p3, .int p4]) (rest := []) (v0 := (some (.int v2))) ⟨hx, hb, hml, hown, hts⟩ hK hA hZ hP hD hS hl.1 [] 6 rfl ⟨rfl, rfl, rfl⟩ (c_X_isPlace l D ci A sa N (Rw) p3 p4 v2 hm11) (va_cwS 2 hts gX10_changes_X10_isPlace rfl rfl rfl (by decide +kernel) ⟨Nat.le_of_ble_eq_true rfl, Nat.le_of_ble_eq_true rfl⟩) rfl rfl (Nat.le_of_ble_eq_true rfl) dX10_changes_11 ⟨Nat.zero_le _, Nat.zero_le _⟩ (fun locs hS => ?_)
      refine q_if_eq (pc := 14) (tgt := 37) hx hb dX10_changes_14 (by decide) rfl hf (fun hf => ?_) (fun hf => ?_)
      · refine lv_iconst (pc := 37) (v := (-1)) hx hb dX10_changes_37 (by decide) ?_
        obtain rfl := Option.some.inj hf
        rw [hQ]
        exact q_iretr (pc := 38) hx hb hr hlocks rfl hS dX10_changes_38
      · refine lv_iload (pc := 17) hx hb dX10_changes_17 (lv_at hl 5 rfl) ?_
        refine lv_iconst (pc := 19) (v := 1) hx hb dX10_changes_19 (by decide) ?_
        refine lv_sipush (pc := 20) (v := 200) hx hb dX10_changes_20 (by decide) ?_
        obtain ⟨v3, hm23, hf⟩ := q_b1_e hf
        refine q_cSr (pc := 23) (As := [.int p5, .int 1, .int 200]) (rest := []) (v0 := (some (.int v3))) ⟨hx, hb, hml, hown, hts⟩ hK hA hZ hP hD hS hl.1 [] 6 rfl ⟨rfl, rfl, rfl⟩ (c_X_isFrom l D ci A sa N (Rw) p5 1 200 v3 hm23) (va_cwS 3 hts gX10_changes_X10_isFrom rfl rfl rfl (by decide +kernel) ⟨Nat.le_of_ble_eq_true rfl, Nat.le_of_ble_eq_true rfl⟩) rfl rfl (Nat.le_of_ble_eq_true rfl) dX10_changes_23 ⟨Nat.zero_le _, Nat.zero_le _⟩ (fun locs hS => ?_)
        refine q_if_eq (pc := 26) (tgt := 37) hx hb dX10_changes_26 (by decide) rfl hf (fun hf => ?_) (fun hf => ?_)
        · refine lv_iconst (pc := 37) (v := (-1)) hx hb dX10_changes_37 (by decide) ?_
          obtain rfl := Option.some.inj hf
          rw [hQ]
          exact q_iretr (pc := 38) hx hb hr hlocks rfl hS dX10_changes_38
        · refine lv_iload (pc := 29) hx hb dX10_changes_29 (lv_at hl 6 rfl) ?_
          obtain ⟨v4, hm31, hf⟩ := q_b1_e hf
          refine q_cSr (pc := 31) (As := [.int p6]) (rest := []) (v0 := (some (.int v4))) ⟨hx, hb, hml, hown, hts⟩ hK hA hZ hP hD hS hl.1 [] 6 rfl ⟨rfl, rfl, rfl⟩ (c_X_isLevel l D ci A sa N (Rw) p6 v4 hm31) (va_cwS 1 hts gX10_changes_X10_isLevel rfl rfl rfl (by decide +kernel) ⟨Nat.le_of_ble_eq_true rfl, Nat.le_of_ble_eq_true rfl⟩) rfl rfl (Nat.le_of_ble_eq_true rfl) dX10_changes_31 ⟨Nat.zero_le _, Nat.zero_le _⟩ (fun locs hS => ?_)
          refine q_if_ne (pc := 34) (tgt := 39) hx hb dX10_changes_34 (by decide) rfl hf (fun hf => ?_) (fun hf => ?_)
          · refine lv_iconst (pc := 39) (v := 0) hx hb dX10_changes_39 (by decide) ?_
            obtain ⟨v5, ev5, hf⟩ := q_nm_e hf
            refine q_topi ev5 ?_
            refine lv_istore (pc := 40) (lv' := [(7, .int v5), (0, .ref a_x), (1, .int p1), (2, .int p2), (3, .int p3), (4, .int p4), (5, .int p5), (6, .int p6)]) hx hb dX10_changes_40 hl (by decide) rfl (fun ls hl => ?_)
            refine lv_aload_n (pc := 42) hx hb dX10_changes_42 rfl (lv_at hl 1 rfl) ?_
            refine va_get (pc := 43) (D := D) (ci := 10) (v := .ref a_g) (C := RX10) (T := TX10) (N := 14) hx hb hts hinX10 hown hK hP 0 rfl rfl 1 (by decide) w_1 (fun _ h9 => h9) rfl dX10_changes_43 ?_
            refine lv_iload (pc := 46) hx hb dX10_changes_46 (lv_at hl 7 rfl) ?_
            refine lv_iload_n (pc := 48) hx hb dX10_changes_48 rfl (lv_at hl 2 rfl) ?_
            refine lv_iload_n (pc := 49) hx hb dX10_changes_49 rfl (lv_at hl 3 rfl) ?_
            obtain ⟨v6, hm50, hf⟩ := q_b1_e hf
            refine q_cVr (pc := 50) (As := [.int p6, .int p1, .int p2]) (rest := []) (v0 := (some (.int v6))) ⟨hx, hb, hml, hown, hts⟩ hK hA hZ hP hD hS hl.1 [1, 2, 3, 4, 5] 6 rfl ⟨rfl, rfl, rfl⟩ (c_Grid_keyOf l D ci A sa N (Rw) a_g a_g_rowCuts a_g_columnCuts a_g_bandRows a_g_zoneColumns a_g_rows a_g_sheets g_bandRows g_zoneColumns g_rows g_sheets p6 p1 p2 v6 hm50) 1 rfl rfl (cwV 3 hts gX10_changes_X2_keyOf rfl rfl rfl (by decide +kernel) ⟨Nat.le_of_ble_eq_true rfl, Nat.le_of_ble_eq_true rfl⟩) rfl rfl (Nat.le_of_ble_eq_true rfl) dX10_changes_50 ⟨Nat.zero_le _, Nat.zero_le _⟩ (fun locs hS => ?_)
            refine lv_istore (pc := 53) (lv' := [(8, .int v6), (7, .int v5), (0, .ref a_x), (1, .int p1), (2, .int p2), (3, .int p3), (4, .int p4), (5, .int p5), (6, .int p6)]) hx hb dX10_changes_53 hl (by decide) rfl (fun ls hl => ?_)
            refine lv_iconst (pc := 55) (v := 1) hx hb dX10_changes_55 (by decide) ?_
            obtain ⟨v7, ev7, hf⟩ := q_nm_e hf
            refine q_topi ev7 ?_
            refine lv_istore (pc := 56) (lv' := [(9, .int v7), (8, .int v6), (7, .int v5), (0, .ref a_x), (1, .int p1), (2, .int p2), (3, .int p3), (4, .int p4), (5, .int p5), (6, .int p6)]) hx hb dX10_changes_56 hl (by decide) rfl (fun ls hl => ?_)
            obtain ⟨v11, hm58, hf⟩ := q_b1_e hf
            have JE58 : ∀ (H : Heap) (locs : List Loc) (ls : Array Slot), H = s.heap → va_S A s.heap H locs → lv_has ls 13 [(7, .int v11)] → W p l e ({ frames := 3, cells := 0, slots := 0, locals := 73 } : Room) s m ([.ref a_x, .int p1, .int p2, .int p3, .int p4, .int p5, .int p6] : List Value).toArray below meth c H locs 0 0 Q (F0 m 131 ls []) := by
              intro H locs ls hHs hS hl
              subst hHs
              refine lv_iload (pc := 131) hx hb dX10_changes_131 (lv_at hl 0 rfl) ?_
              obtain rfl := Option.some.inj hf
              rw [hQ]
              exact q_iretr (pc := 133) hx hb hr hlocks rfl hS dX10_changes_133
            have LP58 : ∀ (n58 : Nat) (v8 : Int32) (v9 : Int32) (v10 : Int32) (H : Heap) (locs : List Loc) (ls : Array Slot), f_X_changes_L58 g_bandRows g_rows g_sheets g_zoneColumns p1 p2 p3 p4 p5 p6 n58 v8 v9 v10 = some v11 → H = s.heap → va_S A s.heap H locs → lv_has ls 13 [(0, .ref a_x), (1, .int p1), (2, .int p2), (3, .int p3), (4, .int p4), (5, .int p5), (6, .int p6), (7, .int v8), (8, .int v9), (9, .int v10)] → W p l e ({ frames := 3, cells := 0, slots := 0, locals := 73 } : Room) s m ([.ref a_x, .int p1, .int p2, .int p3, .int p4, .int p5, .int p6] : List Value).toArray below meth c H locs 0 0 Q (F0 m 58 ls []) := by
              intro n58
              induction n58 with
              | zero => intro v8 v9 v10 H locs ls hf; rw [f_X_changes_L58] at hf; cases hf
              | succ n58 ih58 =>
                intro v8 v9 v10 H locs ls hf hHs hS hl
                subst hHs
                rw [f_X_changes_L58] at hf
                refine lv_iload (pc := 58) hx hb dX10_changes_58 (lv_at hl 9 rfl) ?_
                refine lv_iload (pc := 60) hx hb dX10_changes_60 (lv_at hl 5 rfl) ?_
                refine q_icmp_gt (pc := 62) (tgt := 131) hx hb dX10_changes_62 (by decide) rfl hf (fun hf => ?_) (fun hf => ?_)
                · obtain rfl := Option.some.inj hf
                  exact JE58 _ _ _ rfl hS (lv_sub hl [7] rfl)
                · refine lv_iload_n (pc := 65) hx hb dX10_changes_65 rfl (lv_at hl 1 rfl) ?_
                  refine lv_iload_n (pc := 66) hx hb dX10_changes_66 rfl (lv_at hl 3 rfl) ?_
                  refine lv_iload_n (pc := 67) hx hb dX10_changes_67 rfl (lv_at hl 1 rfl) ?_
                  refine lv_isub (pc := 68) hx hb dX10_changes_68 ?_
                  refine lv_iload (pc := 69) hx hb dX10_changes_69 (lv_at hl 9 rfl) ?_
                  refine lv_imul (pc := 71) hx hb dX10_changes_71 ?_
                  refine lv_iload (pc := 72) hx hb dX10_changes_72 (lv_at hl 5 rfl) ?_
                  obtain ⟨v12, hm74, hf⟩ := q_b1_e hf
                  refine q_cSr (pc := 74) (As := [.int ((p3 - p1) * v10), .int p5]) (rest := [.int p1]) (v0 := (some (.int v12))) ⟨hx, hb, hml, hown, hts⟩ hK hA hZ hP hD hS hl.1 [] 6 rfl ⟨rfl, rfl, rfl⟩ (c_JMath_floorDiv_7cf53 l D ci A sa N (Rw) ((p3 - p1) * v10) p5 v12 hm74) (va_cwS 2 hts gX10_changes_J9_floorDiv_7cf53 rfl rfl rfl (by decide +kernel) ⟨Nat.le_of_ble_eq_true rfl, Nat.le_of_ble_eq_true rfl⟩) rfl rfl (Nat.le_of_ble_eq_true rfl) dX10_changes_74 ⟨Nat.zero_le _, Nat.zero_le _⟩ (fun locs hS => ?_)
                  refine lv_iadd (pc := 77) hx hb dX10_changes_77 ?_
                  obtain ⟨v13, ev13, hf⟩ := q_nm_e hf
                  refine q_topi ev13 ?_
                  refine lv_istore (pc := 78) (lv' := [(10, .int v13), (0, .ref a_x), (1, .int p1), (2, .int p2), (3, .int p3), (4, .int p4), (5, .int p5), (6, .int p6), (7, .int v8), (8, .int v9), (9, .int v10)]) hx hb dX10_changes_78 hl (by decide) rfl (fun ls hl => ?_)
                  refine lv_iload_n (pc := 80) hx hb dX10_changes_80 rfl (lv_at hl 3 rfl) ?_
                  refine lv_iload (pc := 81) hx hb dX10_changes_81 (lv_at hl 5 rfl) ?_
                  refine lv_iload_n (pc := 83) hx hb dX10_changes_83 rfl (lv_at hl 3 rfl) ?_
                  refine lv_isub (pc := 84) hx hb dX10_changes_84 ?_
                  refine lv_iload (pc := 85) hx hb dX10_changes_85 (lv_at hl 10 rfl) ?_
                  refine lv_imul (pc := 87) hx hb dX10_changes_87 ?_
                  refine lv_iload (pc := 88) hx hb dX10_changes_88 (lv_at hl 6 rfl) ?_
                  obtain ⟨v14, hm90, hf⟩ := q_b1_e hf
                  refine q_cSr (pc := 90) (As := [.int ((p4 - p2) * v10), .int p5]) (rest := [.int p2]) (v0 := (some (.int v14))) ⟨hx, hb, hml, hown, hts⟩ hK hA hZ hP hD hS hl.1 [] 6 rfl ⟨rfl, rfl, rfl⟩ (c_JMath_floorDiv_7cf53 l D ci A sa N (Rw) ((p4 - p2) * v10) p5 v14 hm90) (va_cwS 2 hts gX10_changes_J9_floorDiv_7cf53 rfl rfl rfl (by decide +kernel) ⟨Nat.le_of_ble_eq_true rfl, Nat.le_of_ble_eq_true rfl⟩) rfl rfl (Nat.le_of_ble_eq_true rfl) dX10_changes_90 ⟨Nat.zero_le _, Nat.zero_le _⟩ (fun locs hS => ?_)
                  refine lv_iadd (pc := 93) hx hb dX10_changes_93 ?_
                  obtain ⟨v15, ev15, hf⟩ := q_nm_e hf
                  refine q_topi ev15 ?_
                  refine lv_istore (pc := 94) (lv' := [(11, .int v15), (10, .int v13), (0, .ref a_x), (1, .int p1), (2, .int p2), (3, .int p3), (4, .int p4), (5, .int p5), (6, .int p6), (7, .int v8), (8, .int v9), (9, .int v10)]) hx hb dX10_changes_94 hl (by decide) rfl (fun ls hl => ?_)
                  refine lv_aload_n (pc := 96) hx hb dX10_changes_96 rfl (lv_at hl 2 rfl) ?_
                  refine va_get (pc := 97) (D := D) (ci := 10) (v := .ref a_g) (C := RX10) (T := TX10) (N := 14) hx hb hts hinX10 hown hK hP 0 rfl rfl 1 (by decide) w_1 (fun _ h9 => h9) rfl dX10_changes_97 ?_
                  refine lv_iload (pc := 100) hx hb dX10_changes_100 (lv_at hl 8 rfl) ?_
                  refine lv_iload (pc := 102) hx hb dX10_changes_102 (lv_at hl 1 rfl) ?_
                  refine lv_iload (pc := 104) hx hb dX10_changes_104 (lv_at hl 0 rfl) ?_
                  obtain ⟨v16, hm106, hf⟩ := q_b1_e hf
                  refine q_cVr (pc := 106) (As := [.int p6, .int v13, .int v15]) (rest := []) (v0 := (some (.int v16))) ⟨hx, hb, hml, hown, hts⟩ hK hA hZ hP hD hS hl.1 [1, 2, 3, 4, 5] 6 rfl ⟨rfl, rfl, rfl⟩ (c_Grid_keyOf l D ci A sa N (Rw) a_g a_g_rowCuts a_g_columnCuts a_g_bandRows a_g_zoneColumns a_g_rows a_g_sheets g_bandRows g_zoneColumns g_rows g_sheets p6 v13 v15 v16 hm106) 1 rfl rfl (cwV 3 hts gX10_changes_X2_keyOf rfl rfl rfl (by decide +kernel) ⟨Nat.le_of_ble_eq_true rfl, Nat.le_of_ble_eq_true rfl⟩) rfl rfl (Nat.le_of_ble_eq_true rfl) dX10_changes_106 ⟨Nat.zero_le _, Nat.zero_le _⟩ (fun locs hS => ?_)
                  refine lv_istore (pc := 109) (lv' := [(12, .int v16), (11, .int v15), (10, .int v13), (0, .ref a_x), (1, .int p1), (2, .int p2), (3, .int p3), (4, .int p4), (5, .int p5), (6, .int p6), (7, .int v8), (8, .int v9), (9, .int v10)]) hx hb dX10_changes_109 hl (by decide) rfl (fun ls hl => ?_)
                  refine lv_iload (pc := 111) hx hb dX10_changes_111 (lv_at hl 0 rfl) ?_
                  refine lv_iload (pc := 113) hx hb dX10_changes_113 (lv_at hl 11 rfl) ?_
                  obtain ⟨k121, ek121, hf⟩ := q_j1_e hf
                  have J121 : ∀ (v17 : Int32) (H : Heap) (locs : List Loc) (ls : Array Slot), k121 v17 = some v11 → H = s.heap → va_S A s.heap H locs → lv_has ls 13 [(0, .ref a_x), (1, .int p1), (2, .int p2), (3, .int p3), (4, .int p4), (5, .int p5), (6, .int p6), (7, .int v17), (9, .int v10), (12, .int v16)] → W p l e ({ frames := 3, cells := 0, slots := 0, locals := 73 } : Room) s m ([.ref a_x, .int p1, .int p2, .int p3, .int p4, .int p5, .int p6] : List Value).toArray below meth c H locs 0 0 Q (F0 m 121 ls []) := by
                    intro v17 H locs ls hf hHs hS hl
                    subst hHs
                    have hf := (ek121 v17).symm.trans hf
                    refine lv_iload (pc := 121) hx hb dX10_changes_121 (lv_at hl 9 rfl) ?_
                    refine lv_istore (pc := 123) (lv' := [(8, .int v16), (0, .ref a_x), (1, .int p1), (2, .int p2), (3, .int p3), (4, .int p4), (5, .int p5), (6, .int p6), (7, .int v17), (9, .int v10), (12, .int v16)]) hx hb dX10_changes_123 hl (by decide) rfl (fun ls hl => ?_)
                    obtain ⟨v18, ev18, hf⟩ := q_nm_e hf
                    refine lv_iinc (pc := 125) (v := v18) (lv' := [(9, .int v18), (8, .int v16), (0, .ref a_x), (1, .int p1), (2, .int p2), (3, .int p3), (4, .int p4), (5, .int p5), (6, .int p6), (7, .int v17), (12, .int v16)]) hx hb dX10_changes_125 hl (k := 9) rfl (by rw [ev18]; rfl) (by decide) rfl (fun ls hl => ?_)
                    refine lv_goto (pc := 128) (tgt := 58) hx hb dX10_changes_128 (by decide) ?_
                    exact ih58 v17 v16 v18 _ _ _ hf rfl hS (lv_sub hl [2, 3, 4, 5, 6, 7, 8, 9, 1, 0] rfl)
                  refine q_icmp_eq (pc := 115) (tgt := 121) hx hb dX10_changes_115 (by decide) rfl hf (fun hf => ?_) (fun hf => ?_)
                  · exact J121 v8 _ _ _ hf rfl hS (lv_sub hl [3, 4, 5, 6, 7, 8, 9, 10, 12, 0] rfl)
                  · obtain ⟨v19, ev19, hf⟩ := q_nm_e hf
                    refine lv_iinc (pc := 118) (v := v19) (lv' := [(7, .int v19), (12, .int v16), (11, .int v15), (10, .int v13), (0, .ref a_x), (1, .int p1), (2, .int p2), (3, .int p3), (4, .int p4), (5, .int p5), (6, .int p6), (8, .int v9), (9, .int v10)]) hx hb dX10_changes_118 hl (k := 10) rfl (by rw [ev19]; rfl) (by decide) rfl (fun ls hl => ?_)
                    exact J121 v19 _ _ _ hf rfl hS (lv_sub hl [4, 5, 6, 7, 8, 9, 10, 0, 12, 1] rfl)
            exact LP58 N v5 v6 v7 _ _ _ hm58 rfl hS (lv_sub hl [3, 4, 5, 6, 7, 8, 9, 2, 1, 0] rfl)
          · refine lv_iconst (pc := 37) (v := (-1)) hx hb dX10_changes_37 (by decide) ?_
            obtain rfl := Option.some.inj hf
            rw [hQ]
            exact q_iretr (pc := 38) hx hb hr hlocks rfl hS dX10_changes_38
  exact hgo _ _ rfl hP hS
/-! X10_child -/
set_option maxRecDepth 100000 in
set_option maxHeartbeats 4000000 in
theorem c_X_child (l : Launch) (D : va_G) (ci : Nat → ClassId) (A : Nat → Prop) (sa : Nat → Nat) (N : Nat) (Rw : va_W) (a_x : Nat) (a_at : Nat) (a_g : Nat) (a_st : Nat) (a_x_kept : Nat) (a_tp : Nat) (a_rd : Nat) (a_qu : Nat) (a_sp : Nat) (a_wk : Nat) (a_bx : Nat) (a_nt : Nat) (a_nu : Nat) (a_x_seen : Nat) (a_sp_first : Nat) (a_sp_many : Nat) (a_sp_corner : Nat) (a_g_rowCuts : Nat) (a_g_columnCuts : Nat) (a_g_bandRows : Nat) (a_g_zoneColumns : Nat) (a_g_rows : Nat) (a_g_sheets : Nat) (x_keptStates : Int32) (sp_cornerCount : Int32) (sp_level : Int32) (sp_row : Int32) (sp_start : Int32) (sp_place : Int32) (sp_length : Int32) (sp_cap : Int32) (g_bandRows : Nat → Int32) (g_zoneColumns : Nat → Int32) (g_rows : Nat → Int32) (g_sheets : Nat → Int32) (p1 : Int32) (p2 : Int32) (p3 : Int32) (p4 : Int32) (r : Int32) (o1 : Int32) (o2 : Int32) (o3 : Int32) (o4 : Int32) (o5 : Int32) (o6 : Int32) (hf : f_X_child N sp_level sp_row sp_start sp_place sp_length sp_cap g_bandRows g_zoneColumns g_rows g_sheets p1 p2 p3 p4 = some (r, o1, o2, o3, o4, o5, o6)) : Met l yX10_child wsX10_child ({ frames := 3, cells := 0, slots := 0, locals := 71 }) (va_Pc [.ref a_x, .int p1, .int p2, .int p3, .int p4] (q_N D ci A sa ((a_x, .inr (10, [.ref a_at, .ref a_g, .ref a_st, .ref a_x_kept, .int x_keptStates, .ref a_tp, .ref a_rd, .ref a_qu, .ref a_sp, .ref a_wk, .ref a_bx, .ref a_nt, .ref a_nu, .ref a_x_seen])) :: (a_sp, .inr (6, [.ref a_g, .ref a_sp_first, .ref a_sp_many, .ref a_sp_corner, .int sp_cornerCount, .int sp_level, .int sp_row, .int sp_start, .int sp_place, .int sp_length, .int sp_cap])) :: (a_g, .inr (2, [.ref a_g_rowCuts, .ref a_g_columnCuts, .ref a_g_bandRows, .ref a_g_zoneColumns, .ref a_g_rows, .ref a_g_sheets])) :: (a_g_bandRows, .inl (ci 0, 5, .inl g_bandRows)) :: (a_g_zoneColumns, .inl (ci 0, 5, .inl g_zoneColumns)) :: (a_g_rows, .inl (ci 0, 5, .inl g_rows)) :: (a_g_sheets, .inl (ci 0, 5, .inl g_sheets)) :: Rw))) (q_Q (some (.int r)) (q_O D A ((a_x, .inr (10, [.ref a_at, .ref a_g, .ref a_st, .ref a_x_kept, .int x_keptStates, .ref a_tp, .ref a_rd, .ref a_qu, .ref a_sp, .ref a_wk, .ref a_bx, .ref a_nt, .ref a_nu, .ref a_x_seen])) :: (a_sp, .inr (6, [.ref a_g, .ref a_sp_first, .ref a_sp_many, .ref a_sp_corner, .int sp_cornerCount, .int o1, .int o2, .int o3, .int o4, .int o5, .int o6])) :: (a_g, .inr (2, [.ref a_g_rowCuts, .ref a_g_columnCuts, .ref a_g_bandRows, .ref a_g_zoneColumns, .ref a_g_rows, .ref a_g_sheets])) :: (a_g_bandRows, .inl (ci 0, 5, .inl g_bandRows)) :: (a_g_zoneColumns, .inl (ci 0, 5, .inl g_zoneColumns)) :: (a_g_rows, .inl (ci 0, 5, .inl g_rows)) :: (a_g_sheets, .inl (ci 0, 5, .inl g_sheets)) :: Rw)) A) 0 0 A := by
  refine q_ofW (cc := cX10_child) (maxL := 6) (ret := (some .int)) [.ref a_x, .int p1, .int p2, .int p3, .int p4] (plainFor_of_name (by decide)) rfl (Nat.le_of_ble_eq_true rfl) ?_
  intro p e s m below meth c ls Q hQ hx hb hml hr hts hown hlocks hK hA hZ hP hD hS hl
  have hl : lv_has ls 6 [(0, .ref a_x), (1, .int p1), (2, .int p2), (3, .int p3), (4, .int p4)] := hl
  have hown : s.vm.findClass RX10 = some m.cls := hown
  have hinX10 : ∀ w ∈ wsX100, w ∈ wsX10_child := fun _ h => List.mem_cons_of_mem _ (inWX100 _ h)
  have w_1 := hts (Cond.fieldLink RX10 20 "SheetNames" "grid" "LSheetNames$Grid;") (List.mem_cons_of_mem _ t_w876)
  have w_2 := hts (Cond.fieldLink RX10 66 "SheetNames" "spot" "LSheetNames$Spot;") (List.mem_cons_of_mem _ t_w877)
  unfold f_X_child at hf
  have hgo : ∀ (H : Heap) (locs : List Loc), H = s.heap → va_P D vwCl ((a_x, .inr (10, [.ref a_at, .ref a_g, .ref a_st, .ref a_x_kept, .int x_keptStates, .ref a_tp, .ref a_rd, .ref a_qu, .ref a_sp, .ref a_wk, .ref a_bx, .ref a_nt, .ref a_nu, .ref a_x_seen])) :: (a_sp, .inr (6, [.ref a_g, .ref a_sp_first, .ref a_sp_many, .ref a_sp_corner, .int sp_cornerCount, .int sp_level, .int sp_row, .int sp_start, .int sp_place, .int sp_length, .int sp_cap])) :: (a_g, .inr (2, [.ref a_g_rowCuts, .ref a_g_columnCuts, .ref a_g_bandRows, .ref a_g_zoneColumns, .ref a_g_rows, .ref a_g_sheets])) :: (a_g_bandRows, .inl (ci 0, 5, .inl g_bandRows)) :: (a_g_zoneColumns, .inl (ci 0, 5, .inl g_zoneColumns)) :: (a_g_rows, .inl (ci 0, 5, .inl g_rows)) :: (a_g_sheets, .inl (ci 0, 5, .inl g_sheets)) :: Rw) H → va_S A s.heap H locs → W p l e ({ frames := 3, cells := 0, slots := 0, locals := 71 } : Room) s m ([.ref a_x, .int p1, .int p2, .int p3, .int p4] : List Value).toArray below meth c H locs 0 0 Q (F0 m 0 ls []) := by
    intro H locs hH hP hS
    refine lv_aload_n (pc := 0) hx hb dX10_child_0 rfl (lv_at hl 0 rfl) ?_
    refine va_get (pc := 1) (D := D) (ci := 10) (v := .ref a_g) (C := RX10) (T := TX10) (N := 14) hx hb hts hinX10 hown hK hP 0 rfl rfl 1 (by decide) w_1 (fun _ h9 => h9) rfl dX10_child_1 ?_
    refine lv_iload_n (pc := 4) hx hb dX10_child_4 rfl (lv_at hl 1 rfl) ?_
    refine lv_iload_n (pc := 5) hx hb dX10_child_5 rfl (lv_at hl 2 rfl) ?_
    obtain ⟨v1, hm6, hf⟩ := q_b1_e hf
    refine q_cVr (pc := 6) (As := [.int p1, .int p2]) (rest := []) (v0 := (some (.int v1))) ⟨hx, hb, hml, hown, hts⟩ hK hA hZ hP hD hS hl.1 [2, 6] 7 rfl ⟨rfl, rfl, rfl⟩ (c_Grid_hasSheet l D ci A sa N (Rw) a_g a_g_rowCuts a_g_columnCuts a_g_bandRows a_g_zoneColumns a_g_rows a_g_sheets g_sheets p1 p2 v1 hm6) 2 rfl rfl (cwV 2 hts gX10_child_X2_hasSheet rfl rfl rfl (by decide +kernel) ⟨Nat.le_of_ble_eq_true rfl, Nat.le_of_ble_eq_true rfl⟩) rfl rfl (Nat.le_of_ble_eq_true rfl) dX10_child_6 ⟨Nat.zero_le _, Nat.zero_le _⟩ (fun locs hS => ?_)
    refine q_if_eq (pc := 9) (tgt := 27) hx hb dX10_child_9 (by decide) rfl hf (fun hf => ?_) (fun hf => ?_)
    · refine lv_iconst (pc := 27) (v := (-1)) hx hb dX10_child_27 (by decide) ?_
      obtain ⟨e90, e91, e92, e93, e94, e95, e96⟩ := q_inj7 (Option.some.inj hf)
      rw [hQ, ← e90, ← e91, ← e92, ← e93, ← e94, ← e95, ← e96]
      exact q_iret (pc := 28) hx hb hr hlocks hP hD hS dX10_child_28
    · refine lv_iload_n (pc := 12) hx hb dX10_child_12 rfl (lv_at hl 3 rfl) ?_
      refine lv_iload_n (pc := 13) hx hb dX10_child_13 rfl (lv_at hl 1 rfl) ?_
      refine lv_iconst (pc := 14) (v := 4) hx hb dX10_child_14 (by decide) ?_
      obtain ⟨v2, hm15, hf⟩ := q_b1_e hf
      refine q_cSr (pc := 15) (As := [.int p3, .int p1, .int 4]) (rest := []) (v0 := (some (.int v2))) ⟨hx, hb, hml, hown, hts⟩ hK hA hZ hP hD hS hl.1 [] 7 rfl ⟨rfl, rfl, rfl⟩ (c_X_isFrom l D ci A sa N (Rw) p3 p1 4 v2 hm15) (va_cwS 3 hts gX10_child_X10_isFrom rfl rfl rfl (by decide +kernel) ⟨Nat.le_of_ble_eq_true rfl, Nat.le_of_ble_eq_true rfl⟩) rfl rfl (Nat.le_of_ble_eq_true rfl) dX10_child_15 ⟨Nat.zero_le _, Nat.zero_le _⟩ (fun locs hS => ?_)
      refine q_if_eq (pc := 18) (tgt := 27) hx hb dX10_child_18 (by decide) rfl hf (fun hf => ?_) (fun hf => ?_)
      · refine lv_iconst (pc := 27) (v := (-1)) hx hb dX10_child_27 (by decide) ?_
        obtain ⟨e90, e91, e92, e93, e94, e95, e96⟩ := q_inj7 (Option.some.inj hf)
        rw [hQ, ← e90, ← e91, ← e92, ← e93, ← e94, ← e95, ← e96]
        exact q_iret (pc := 28) hx hb hr hlocks hP hD hS dX10_child_28
      · refine lv_iload (pc := 21) hx hb dX10_child_21 (lv_at hl 4 rfl) ?_
        refine lv_iconst (pc := 23) (v := (-1)) hx hb dX10_child_23 (by decide) ?_
        refine q_icmp_ge (pc := 24) (tgt := 29) hx hb dX10_child_24 (by decide) rfl hf (fun hf => ?_) (fun hf => ?_)
        · refine lv_aload_n (pc := 29) hx hb dX10_child_29 rfl (lv_at hl 0 rfl) ?_
          refine va_get (pc := 30) (D := D) (ci := 10) (v := .ref a_sp) (C := RX10) (T := TX10) (N := 14) hx hb hts hinX10 hown hK hP 0 rfl rfl 8 (by decide) w_2 (fun _ h9 => h9) rfl dX10_child_30 ?_
          refine lv_iload_n (pc := 33) hx hb dX10_child_33 rfl (lv_at hl 1 rfl) ?_
          refine lv_iload_n (pc := 34) hx hb dX10_child_34 rfl (lv_at hl 2 rfl) ?_
          obtain ⟨v3, v4, v5, v6, v7, v8, hm35, hf⟩ := q_b6_e hf
          refine q_cV (pc := 35) (As := [.int p1, .int p2]) (rest := []) (v0 := none) ⟨hx, hb, hml, hown, hts⟩ hK hA hZ hP hD hS hl.1 [1, 2, 3, 4, 5, 6, 0] 7 rfl ⟨rfl, rfl, rfl⟩ (c_Spot_put l D ci A sa N ((a_x, .inr (10, [.ref a_at, .ref a_g, .ref a_st, .ref a_x_kept, .int x_keptStates, .ref a_tp, .ref a_rd, .ref a_qu, .ref a_sp, .ref a_wk, .ref a_bx, .ref a_nt, .ref a_nu, .ref a_x_seen])) :: Rw) a_sp a_g a_sp_first a_sp_many a_sp_corner a_g_rowCuts a_g_columnCuts a_g_bandRows a_g_zoneColumns a_g_rows a_g_sheets sp_cornerCount sp_level sp_row sp_start sp_place sp_length sp_cap g_bandRows g_zoneColumns g_rows g_sheets p1 p2 v3 v4 v5 v6 v7 v8 hm35) 1 rfl rfl (cwV 2 hts gX10_child_X6_put rfl rfl rfl (by decide +kernel) ⟨Nat.le_of_ble_eq_true rfl, Nat.le_of_ble_eq_true rfl⟩) rfl rfl (Nat.le_of_ble_eq_true rfl) dX10_child_35 ⟨Nat.zero_le _, Nat.zero_le _⟩ [6, 0, 1, 2, 3, 4, 5] 7 rfl ⟨rfl, rfl, rfl⟩ (fun H locs hP hD hS => ?_)
          obtain ⟨hP, hD⟩ : va_PD D A ((a_x, .inr (10, [.ref a_at, .ref a_g, .ref a_st, .ref a_x_kept, .int x_keptStates, .ref a_tp, .ref a_rd, .ref a_qu, .ref a_sp, .ref a_wk, .ref a_bx, .ref a_nt, .ref a_nu, .ref a_x_seen])) :: (a_sp, .inr (6, [.ref a_g, .ref a_sp_first, .ref a_sp_many, .ref a_sp_corner, .int sp_cornerCount, .int v3, .int v4, .int v5, .int v6, .int v7, .int v8])) :: (a_g, .inr (2, [.ref a_g_rowCuts, .ref a_g_columnCuts, .ref a_g_bandRows, .ref a_g_zoneColumns, .ref a_g_rows, .ref a_g_sheets])) :: (a_g_bandRows, .inl (ci 0, 5, .inl g_bandRows)) :: (a_g_zoneColumns, .inl (ci 0, 5, .inl g_zoneColumns)) :: (a_g_rows, .inl (ci 0, 5, .inl g_rows)) :: (a_g_sheets, .inl (ci 0, 5, .inl g_sheets)) :: Rw) H := ⟨hP, hD⟩
          refine lv_aload_n (pc := 38) hx hb dX10_child_38 rfl (lv_at hl 0 rfl) ?_
          refine va_get (pc := 39) (D := D) (ci := 10) (v := .ref a_sp) (C := RX10) (T := TX10) (N := 14) hx hb hts hinX10 hown hK hP 0 rfl rfl 8 (by decide) w_2 (fun _ h9 => h9) rfl dX10_child_39 ?_
          refine lv_iload_n (pc := 42) hx hb dX10_child_42 rfl (lv_at hl 3 rfl) ?_
          obtain ⟨v9, hm43, hf⟩ := q_b1_e hf
          refine q_cVr (pc := 43) (As := [.int p3]) (rest := []) (v0 := (some (.int v9))) ⟨hx, hb, hml, hown, hts⟩ hK hA hZ hP hD hS hl.1 [1, 2, 3, 4] 7 rfl ⟨rfl, rfl, rfl⟩ (c_Spot_piecesAt l D ci A sa N (Rw) a_sp a_g a_sp_first a_sp_many a_sp_corner a_g_rowCuts a_g_columnCuts a_g_bandRows a_g_zoneColumns a_g_rows a_g_sheets sp_cornerCount v3 v4 v5 v6 v7 v8 g_bandRows g_zoneColumns p3 v9 hm43) 1 rfl rfl (cwV 1 hts gX10_child_X6_piecesAt rfl rfl rfl (by decide +kernel) ⟨Nat.le_of_ble_eq_true rfl, Nat.le_of_ble_eq_true rfl⟩) rfl rfl (Nat.le_of_ble_eq_true rfl) dX10_child_43 ⟨Nat.zero_le _, Nat.zero_le _⟩ (fun locs hS => ?_)
          refine lv_istore (pc := 46) (lv' := [(5, .int v9), (0, .ref a_x), (1, .int p1), (2, .int p2), (3, .int p3), (4, .int p4)]) hx hb dX10_child_46 hl (by decide) rfl (fun ls hl => ?_)
          refine lv_iload (pc := 48) hx hb dX10_child_48 (lv_at hl 5 rfl) ?_
          refine lv_iconst (pc := 50) (v := (-1)) hx hb dX10_child_50 (by decide) ?_
          refine q_icmp_ne (pc := 51) (tgt := 57) hx hb dX10_child_51 (by decide) rfl hf (fun hf => ?_) (fun hf => ?_)
          · refine lv_iload (pc := 57) hx hb dX10_child_57 (lv_at hl 5 rfl) ?_
            refine lv_iload (pc := 59) hx hb dX10_child_59 (lv_at hl 0 rfl) ?_
            refine q_icmp_ge (pc := 61) (tgt := 77) hx hb dX10_child_61 (by decide) rfl hf (fun hf => ?_) (fun hf => ?_)
            · refine lv_bipush (pc := 77) (v := (-2)) hx hb dX10_child_77 (by decide) ?_
              obtain ⟨e90, e91, e92, e93, e94, e95, e96⟩ := q_inj7 (Option.some.inj hf)
              rw [hQ, ← e90, ← e91, ← e92, ← e93, ← e94, ← e95, ← e96]
              exact q_iret (pc := 79) hx hb hr hlocks hP hD hS dX10_child_79
            · refine lv_aload_n (pc := 64) hx hb dX10_child_64 rfl (lv_at hl 1 rfl) ?_
              refine va_get (pc := 65) (D := D) (ci := 10) (v := .ref a_sp) (C := RX10) (T := TX10) (N := 14) hx hb hts hinX10 hown hK hP 0 rfl rfl 8 (by decide) w_2 (fun _ h9 => h9) rfl dX10_child_65 ?_
              refine lv_iload_n (pc := 68) hx hb dX10_child_68 rfl (lv_at hl 4 rfl) ?_
              refine lv_iload (pc := 69) hx hb dX10_child_69 (lv_at hl 5 rfl) ?_
              obtain ⟨v10, hm71, hf⟩ := q_b1_e hf
              refine q_cVr (pc := 71) (As := [.int p3, .int p4]) (rest := []) (v0 := (some (.int v10))) ⟨hx, hb, hml, hown, hts⟩ hK hA hZ hP hD hS hl.1 [1, 2, 3, 4, 5, 6] 7 rfl ⟨rfl, rfl, rfl⟩ (c_Spot_pieceAt l D ci A sa N (Rw) a_sp a_g a_sp_first a_sp_many a_sp_corner a_g_rowCuts a_g_columnCuts a_g_bandRows a_g_zoneColumns a_g_rows a_g_sheets sp_cornerCount v3 v4 v5 v6 v7 v8 g_bandRows g_zoneColumns g_rows g_sheets p3 p4 v10 hm71) 1 rfl rfl (cwV 2 hts gX10_child_X6_pieceAt rfl rfl rfl (by decide +kernel) ⟨Nat.le_of_ble_eq_true rfl, Nat.le_of_ble_eq_true rfl⟩) rfl rfl (Nat.le_of_ble_eq_true rfl) dX10_child_71 ⟨Nat.zero_le _, Nat.zero_le _⟩ (fun locs hS => ?_)
              refine lv_goto (pc := 74) (tgt := 79) hx hb dX10_child_74 (by decide) ?_
              obtain ⟨e90, e91, e92, e93, e94, e95, e96⟩ := q_inj7 (Option.some.inj hf)
              rw [hQ, ← e90, ← e91, ← e92, ← e93, ← e94, ← e95, ← e96]
              exact q_iret (pc := 79) hx hb hr hlocks hP hD hS dX10_child_79
          · refine lv_iload (pc := 54) hx hb dX10_child_54 (lv_at hl 0 rfl) ?_
            obtain ⟨e90, e91, e92, e93, e94, e95, e96⟩ := q_inj7 (Option.some.inj hf)
            rw [hQ, ← e90, ← e91, ← e92, ← e93, ← e94, ← e95, ← e96]
            exact q_iret (pc := 56) hx hb hr hlocks hP hD hS dX10_child_56
        · refine lv_iconst (pc := 27) (v := (-1)) hx hb dX10_child_27 (by decide) ?_
          obtain ⟨e90, e91, e92, e93, e94, e95, e96⟩ := q_inj7 (Option.some.inj hf)
          rw [hQ, ← e90, ← e91, ← e92, ← e93, ← e94, ← e95, ← e96]
          exact q_iret (pc := 28) hx hb hr hlocks hP hD hS dX10_child_28
  exact hgo _ _ rfl hP hS
/-! X10_common -/
set_option maxRecDepth 100000 in
set_option maxHeartbeats 4000000 in
theorem c_X_common (l : Launch) (D : va_G) (ci : Nat → ClassId) (A : Nat → Prop) (sa : Nat → Nat) (N : Nat) (Rw : va_W) (a_x : Nat) (a_at : Nat) (a_g : Nat) (a_st : Nat) (a_x_kept : Nat) (a_tp : Nat) (a_rd : Nat) (a_qu : Nat) (a_sp : Nat) (a_wk : Nat) (a_bx : Nat) (a_nt : Nat) (a_nu : Nat) (a_x_seen : Nat) (a_g_rowCuts : Nat) (a_g_columnCuts : Nat) (a_g_bandRows : Nat) (a_g_zoneColumns : Nat) (a_g_rows : Nat) (a_g_sheets : Nat) (x_keptStates : Int32) (g_bandRows : Nat → Int32) (g_zoneColumns : Nat → Int32) (g_rows : Nat → Int32) (g_sheets : Nat → Int32) (p1 : Int32) (p2 : Int32) (p3 : Int32) (p4 : Int32) (r : Int32) (hf : f_X_common N g_bandRows g_zoneColumns g_rows g_sheets p1 p2 p3 p4 = some r) : Met l yX10_common wsX10_common ({ frames := 3, cells := 0, slots := 0, locals := 73 }) (va_Pc [.ref a_x, .int p1, .int p2, .int p3, .int p4] (q_N D ci A sa ((a_x, .inr (10, [.ref a_at, .ref a_g, .ref a_st, .ref a_x_kept, .int x_keptStates, .ref a_tp, .ref a_rd, .ref a_qu, .ref a_sp, .ref a_wk, .ref a_bx, .ref a_nt, .ref a_nu, .ref a_x_seen])) :: (a_g, .inr (2, [.ref a_g_rowCuts, .ref a_g_columnCuts, .ref a_g_bandRows, .ref a_g_zoneColumns, .ref a_g_rows, .ref a_g_sheets])) :: (a_g_bandRows, .inl (ci 0, 5, .inl g_bandRows)) :: (a_g_zoneColumns, .inl (ci 0, 5, .inl g_zoneColumns)) :: (a_g_rows, .inl (ci 0, 5, .inl g_rows)) :: (a_g_sheets, .inl (ci 0, 5, .inl g_sheets)) :: Rw))) (q_R (some (.int r))) 0 0 A := by
  refine q_ofW (cc := cX10_common) (maxL := 6) (ret := (some .int)) [.ref a_x, .int p1, .int p2, .int p3, .int p4] (plainFor_of_name (by decide)) rfl (Nat.le_of_ble_eq_true rfl) ?_
  intro p e s m below meth c ls Q hQ hx hb hml hr hts hown hlocks hK hA hZ hP hD hS hl
  have hl : lv_has ls 6 [(0, .ref a_x), (1, .int p1), (2, .int p2), (3, .int p3), (4, .int p4)] := hl
  have hown : s.vm.findClass RX10 = some m.cls := hown
  have hinX10 : ∀ w ∈ wsX100, w ∈ wsX10_common := fun _ h => List.mem_cons_of_mem _ (inWX100 _ h)
  have w_1 := hts (Cond.fieldLink RX10 20 "SheetNames" "grid" "LSheetNames$Grid;") (List.mem_cons_of_mem _ t_w876)
  unfold f_X_common at hf
  have hgo : ∀ (H : Heap) (locs : List Loc), H = s.heap → va_P D vwCl ((a_x, .inr (10, [.ref a_at, .ref a_g, .ref a_st, .ref a_x_kept, .int x_keptStates, .ref a_tp, .ref a_rd, .ref a_qu, .ref a_sp, .ref a_wk, .ref a_bx, .ref a_nt, .ref a_nu, .ref a_x_seen])) :: (a_g, .inr (2, [.ref a_g_rowCuts, .ref a_g_columnCuts, .ref a_g_bandRows, .ref a_g_zoneColumns, .ref a_g_rows, .ref a_g_sheets])) :: (a_g_bandRows, .inl (ci 0, 5, .inl g_bandRows)) :: (a_g_zoneColumns, .inl (ci 0, 5, .inl g_zoneColumns)) :: (a_g_rows, .inl (ci 0, 5, .inl g_rows)) :: (a_g_sheets, .inl (ci 0, 5, .inl g_sheets)) :: Rw) H → va_S A s.heap H locs → W p l e ({ frames := 3, cells := 0, slots := 0, locals := 73 } : Room) s m ([.ref a_x, .int p1, .int p2, .int p3, .int p4] : List Value).toArray below meth c H locs 0 0 Q (F0 m 0 ls []) := by
    intro H locs hH hP hS
    subst hH
    refine lv_iload_n (pc := 0) hx hb dX10_common_0 rfl (lv_at hl 1 rfl) ?_
    refine lv_iload_n (pc := 1) hx hb dX10_common_1 rfl (lv_at hl 2 rfl) ?_
    obtain ⟨v1, hm2, hf⟩ := q_b1_e hf
    refine q_cSr (pc := 2) (As := [.int p1, .int p2]) (rest := []) (v0 := (some (.int v1))) ⟨hx, hb, hml, hown, hts⟩ hK hA hZ hP hD hS hl.1 [] 6 rfl ⟨rfl, rfl, rfl⟩ (c_X_isPlace l D ci A sa N (Rw) p1 p2 v1 hm2) (va_cwS 2 hts gX10_common_X10_isPlace rfl rfl rfl (by decide +kernel) ⟨Nat.le_of_ble_eq_true rfl, Nat.le_of_ble_eq_true rfl⟩) rfl rfl (Nat.le_of_ble_eq_true rfl) dX10_common_2 ⟨Nat.zero_le _, Nat.zero_le _⟩ (fun locs hS => ?_)
    refine q_if_eq (pc := 5) (tgt := 17) hx hb dX10_common_5 (by decide) rfl hf (fun hf => ?_) (fun hf => ?_)
    · refine lv_iconst (pc := 17) (v := (-1)) hx hb dX10_common_17 (by decide) ?_
      obtain rfl := Option.some.inj hf
      rw [hQ]
      exact q_iretr (pc := 18) hx hb hr hlocks rfl hS dX10_common_18
    · refine lv_iload_n (pc := 8) hx hb dX10_common_8 rfl (lv_at hl 3 rfl) ?_
      refine lv_iload (pc := 9) hx hb dX10_common_9 (lv_at hl 4 rfl) ?_
      obtain ⟨v2, hm11, hf⟩ := q_b1_e hf
      refine q_cSr (pc := 11) (As := [.int p3, .int p4]) (rest := []) (v0 := (some (.int v2))) ⟨hx, hb, hml, hown, hts⟩ hK hA hZ hP hD hS hl.1 [] 6 rfl ⟨rfl, rfl, rfl⟩ (c_X_isPlace l D ci A sa N (Rw) p3 p4 v2 hm11) (va_cwS 2 hts gX10_common_X10_isPlace rfl rfl rfl (by decide +kernel) ⟨Nat.le_of_ble_eq_true rfl, Nat.le_of_ble_eq_true rfl⟩) rfl rfl (Nat.le_of_ble_eq_true rfl) dX10_common_11 ⟨Nat.zero_le _, Nat.zero_le _⟩ (fun locs hS => ?_)
      refine q_if_ne (pc := 14) (tgt := 19) hx hb dX10_common_14 (by decide) rfl hf (fun hf => ?_) (fun hf => ?_)
      · refine lv_iconst (pc := 19) (v := 4) hx hb dX10_common_19 (by decide) ?_
        obtain ⟨v3, ev3, hf⟩ := q_nm_e hf
        refine q_topi ev3 ?_
        refine lv_istore (pc := 20) (lv' := [(5, .int v3), (0, .ref a_x), (1, .int p1), (2, .int p2), (3, .int p3), (4, .int p4)]) hx hb dX10_common_20 hl (by decide) rfl (fun ls hl => ?_)
        obtain ⟨k22, o22_, ek22, hm22, hk22⟩ := q_s0_k hf
        have JE22 : ∀  (H : Heap) (locs : List Loc) (ls : Array Slot), k22 = some r → H = s.heap → va_S A s.heap H locs → lv_has ls 6 [] → W p l e ({ frames := 3, cells := 0, slots := 0, locals := 73 } : Room) s m ([.ref a_x, .int p1, .int p2, .int p3, .int p4] : List Value).toArray below meth c H locs 0 0 Q (F0 m 62 ls []) := by
          intro  H locs ls hf hHs hS hl
          subst hHs
          have hf := (ek22).symm.trans hf
          refine lv_bipush (pc := 62) (v := (-2)) hx hb dX10_common_62 (by decide) ?_
          obtain rfl := Option.some.inj hf
          rw [hQ]
          exact q_iretr (pc := 64) hx hb hr hlocks rfl hS dX10_common_64
        have LP22 : ∀ (n22 : Nat) (v4 : Int32) (H : Heap) (locs : List Loc) (ls : Array Slot), f_X_common_L22 g_bandRows g_rows g_sheets g_zoneColumns p1 p2 p3 p4 n22 v4 = some o22_ → H = s.heap → va_S A s.heap H locs → lv_has ls 6 [(0, .ref a_x), (1, .int p1), (2, .int p2), (3, .int p3), (4, .int p4), (5, .int v4)] → W p l e ({ frames := 3, cells := 0, slots := 0, locals := 73 } : Room) s m ([.ref a_x, .int p1, .int p2, .int p3, .int p4] : List Value).toArray below meth c H locs 0 0 Q (F0 m 22 ls []) := by
          intro n22
          induction n22 with
          | zero => intro v4 H locs ls hf; rw [f_X_common_L22] at hf; cases hf
          | succ n22 ih22 =>
            intro v4 H locs ls hf hHs hS hl
            subst hHs
            rw [f_X_common_L22] at hf
            refine lv_iload (pc := 22) hx hb dX10_common_22 (lv_at hl 5 rfl) ?_
            refine q_if_lt (pc := 24) (tgt := 62) hx hb dX10_common_24 (by decide) rfl hf (fun hf => ?_) (fun hf => ?_)
            · obtain rfl := Option.some.inj hf
              exact JE22  _ _ _ hk22 rfl hS (lv_sub hl [] rfl)
            · refine lv_aload_n (pc := 27) hx hb dX10_common_27 rfl (lv_at hl 0 rfl) ?_
              refine va_get (pc := 28) (D := D) (ci := 10) (v := .ref a_g) (C := RX10) (T := TX10) (N := 14) hx hb hts hinX10 hown hK hP 0 rfl rfl 1 (by decide) w_1 (fun _ h9 => h9) rfl dX10_common_28 ?_
              refine lv_iload (pc := 31) hx hb dX10_common_31 (lv_at hl 5 rfl) ?_
              refine lv_iload_n (pc := 33) hx hb dX10_common_33 rfl (lv_at hl 1 rfl) ?_
              refine lv_iload_n (pc := 34) hx hb dX10_common_34 rfl (lv_at hl 2 rfl) ?_
              obtain ⟨v5, hm35, hf⟩ := q_b1_e hf
              refine q_cVr (pc := 35) (As := [.int v4, .int p1, .int p2]) (rest := []) (v0 := (some (.int v5))) ⟨hx, hb, hml, hown, hts⟩ hK hA hZ hP hD hS hl.1 [1, 2, 3, 4, 5] 6 rfl ⟨rfl, rfl, rfl⟩ (c_Grid_keyOf l D ci A sa N (Rw) a_g a_g_rowCuts a_g_columnCuts a_g_bandRows a_g_zoneColumns a_g_rows a_g_sheets g_bandRows g_zoneColumns g_rows g_sheets v4 p1 p2 v5 hm35) 1 rfl rfl (cwV 3 hts gX10_common_X2_keyOf rfl rfl rfl (by decide +kernel) ⟨Nat.le_of_ble_eq_true rfl, Nat.le_of_ble_eq_true rfl⟩) rfl rfl (Nat.le_of_ble_eq_true rfl) dX10_common_35 ⟨Nat.zero_le _, Nat.zero_le _⟩ (fun locs hS => ?_)
              refine lv_aload_n (pc := 38) hx hb dX10_common_38 rfl (lv_at hl 0 rfl) ?_
              refine va_get (pc := 39) (D := D) (ci := 10) (v := .ref a_g) (C := RX10) (T := TX10) (N := 14) hx hb hts hinX10 hown hK hP 0 rfl rfl 1 (by decide) w_1 (fun _ h9 => h9) rfl dX10_common_39 ?_
              refine lv_iload (pc := 42) hx hb dX10_common_42 (lv_at hl 5 rfl) ?_
              refine lv_iload_n (pc := 44) hx hb dX10_common_44 rfl (lv_at hl 3 rfl) ?_
              refine lv_iload (pc := 45) hx hb dX10_common_45 (lv_at hl 4 rfl) ?_
              obtain ⟨v6, hm47, hf⟩ := q_b1_e hf
              refine q_cVr (pc := 47) (As := [.int v4, .int p3, .int p4]) (rest := [.int v5]) (v0 := (some (.int v6))) ⟨hx, hb, hml, hown, hts⟩ hK hA hZ hP hD hS hl.1 [1, 2, 3, 4, 5] 6 rfl ⟨rfl, rfl, rfl⟩ (c_Grid_keyOf l D ci A sa N (Rw) a_g a_g_rowCuts a_g_columnCuts a_g_bandRows a_g_zoneColumns a_g_rows a_g_sheets g_bandRows g_zoneColumns g_rows g_sheets v4 p3 p4 v6 hm47) 1 rfl rfl (cwV 3 hts gX10_common_X2_keyOf rfl rfl rfl (by decide +kernel) ⟨Nat.le_of_ble_eq_true rfl, Nat.le_of_ble_eq_true rfl⟩) rfl rfl (Nat.le_of_ble_eq_true rfl) dX10_common_47 ⟨Nat.zero_le _, Nat.zero_le _⟩ (fun locs hS => ?_)
              refine q_icmp_ne (pc := 50) (tgt := 56) hx hb dX10_common_50 (by decide) rfl hf (fun hf => ?_) (fun hf => ?_)
              · obtain ⟨v7, ev7, hf⟩ := q_nm_e hf
                refine lv_iinc (pc := 56) (v := v7) (lv' := [(5, .int v7), (0, .ref a_x), (1, .int p1), (2, .int p2), (3, .int p3), (4, .int p4)]) hx hb dX10_common_56 hl (k := 5) rfl (by rw [ev7]; rfl) (by decide) rfl (fun ls hl => ?_)
                refine lv_goto (pc := 59) (tgt := 22) hx hb dX10_common_59 (by decide) ?_
                exact ih22 v7 _ _ _ hf rfl hS (lv_sub hl [1, 2, 3, 4, 5, 0] rfl)
              · refine lv_iload (pc := 53) hx hb dX10_common_53 (lv_at hl 5 rfl) ?_
                obtain rfl := Option.some.inj hf
                have hk22 : (v4 : Int32) = r := hk22
                obtain rfl := hk22
                rw [hQ]
                exact q_iretr (pc := 55) hx hb hr hlocks rfl hS dX10_common_55
        exact LP22 N v3 _ _ _ hm22 rfl hS (lv_sub hl [1, 2, 3, 4, 5, 0] rfl)
      · refine lv_iconst (pc := 17) (v := (-1)) hx hb dX10_common_17 (by decide) ?_
        obtain rfl := Option.some.inj hf
        rw [hQ]
        exact q_iretr (pc := 18) hx hb hr hlocks rfl hS dX10_common_18
  exact hgo _ _ rfl hP hS
/-! X10_commonDivisor -/
set_option maxRecDepth 100000 in
set_option maxHeartbeats 4000000 in
theorem c_X_commonDivisor (l : Launch) (D : va_G) (ci : Nat → ClassId) (A : Nat → Prop) (sa : Nat → Nat) (N : Nat) (Rw : va_W) (p1 : Int64) (p2 : Int64) (r : Int64) (hf : f_X_commonDivisor N p1 p2 = some r) : Met l yX10_commonDivisor wsX10_commonDivisor ({ frames := 0, cells := 0, slots := 0, locals := 0 }) (va_Pc [.long p1, .long p2] (q_N D ci A sa (Rw))) (q_R (some (.long r))) 0 0 A := by
  refine q_ofW (cc := cX10_commonDivisor) (maxL := 11) (ret := (some .long)) [.long p1, .long p2] (plainFor_of_name (by decide)) rfl (Nat.le_of_ble_eq_true rfl) ?_
  intro p e s m below meth c ls Q hQ hx hb hml hr hts hown hlocks hK hA hZ hP hD hS hl
  have hl : lv_has ls 11 [(0, .long p1), (2, .long p2)] := hl
  have hown : s.vm.findClass RX10 = some m.cls := hown
  unfold f_X_commonDivisor at hf
  have hgo : ∀ (H : Heap) (locs : List Loc), H = s.heap → va_P D vwCl (Rw) H → va_S A s.heap H locs → W p l e ({ frames := 0, cells := 0, slots := 0, locals := 0 } : Room) s m ([.long p1, .long p2] : List Value).toArray below meth c H locs 0 0 Q (F0 m 0 ls []) := by
    intro H locs hH hP hS
    subst hH
    refine lv_lload_n (pc := 0) hx hb dX10_commonDivisor_0 rfl (lv_at hl 0 rfl) ?_
    refine lv_lstore (pc := 1) (lv' := [(4, .long p1), (0, .long p1), (2, .long p2)]) hx hb dX10_commonDivisor_1 hl (by decide) rfl (fun ls hl => ?_)
    refine lv_lload_n (pc := 3) hx hb dX10_commonDivisor_3 rfl (lv_at hl 2 rfl) ?_
    refine lv_lstore (pc := 4) (lv' := [(6, .long p2), (4, .long p1), (0, .long p1), (2, .long p2)]) hx hb dX10_commonDivisor_4 hl (by decide) rfl (fun ls hl => ?_)
    refine lv_iconst (pc := 6) (v := 0) hx hb dX10_commonDivisor_6 (by decide) ?_
    obtain ⟨v1, ev1, hf⟩ := q_nm_e hf
    refine q_topi ev1 ?_
    refine lv_istore (pc := 7) (lv' := [(8, .int v1), (6, .long p2), (4, .long p1), (0, .long p1), (2, .long p2)]) hx hb dX10_commonDivisor_7 hl (by decide) rfl (fun ls hl => ?_)
    obtain ⟨v5, hm9, hf⟩ := q_b1_e hf
    have JE9 : ∀ (H : Heap) (locs : List Loc) (ls : Array Slot), H = s.heap → va_S A s.heap H locs → lv_has ls 11 [(4, .long v5)] → W p l e ({ frames := 0, cells := 0, slots := 0, locals := 0 } : Room) s m ([.long p1, .long p2] : List Value).toArray below meth c H locs 0 0 Q (F0 m 45 ls []) := by
      intro H locs ls hHs hS hl
      subst hHs
      refine lv_lload (pc := 45) hx hb dX10_commonDivisor_45 (lv_at hl 0 rfl) ?_
      obtain rfl := Option.some.inj hf
      rw [hQ]
      exact q_lretr (pc := 47) hx hb hr hlocks rfl hS dX10_commonDivisor_47
    have LP9 : ∀ (n9 : Nat) (v2 : Int64) (v3 : Int64) (v4 : Int32) (H : Heap) (locs : List Loc) (ls : Array Slot), f_X_commonDivisor_L9 n9 v2 v3 v4 = some v5 → H = s.heap → va_S A s.heap H locs → lv_has ls 11 [(4, .long v2), (6, .long v3), (8, .int v4)] → W p l e ({ frames := 0, cells := 0, slots := 0, locals := 0 } : Room) s m ([.long p1, .long p2] : List Value).toArray below meth c H locs 0 0 Q (F0 m 9 ls []) := by
      intro n9
      induction n9 with
      | zero => intro v2 v3 v4 H locs ls hf; rw [f_X_commonDivisor_L9] at hf; cases hf
      | succ n9 ih9 =>
        intro v2 v3 v4 H locs ls hf hHs hS hl
        subst hHs
        rw [f_X_commonDivisor_L9] at hf
        refine lv_iload (pc := 9) hx hb dX10_commonDivisor_9 (lv_at hl 2 rfl) ?_
        refine lv_sipush (pc := 11) (v := 200) hx hb dX10_commonDivisor_11 (by decide) ?_
        refine q_icmp_ge (pc := 14) (tgt := 45) hx hb dX10_commonDivisor_14 (by decide) rfl hf (fun hf => ?_) (fun hf => ?_)
        · obtain rfl := Option.some.inj hf
          exact JE9 _ _ _ rfl hS (lv_sub hl [0] rfl)
        · refine lv_lload (pc := 17) hx hb dX10_commonDivisor_17 (lv_at hl 1 rfl) ?_
          refine lv_lconst (pc := 19) (v := 0) hx hb dX10_commonDivisor_19 (by decide) ?_
          refine W.lcmp (pc := 20) hx hb dX10_commonDivisor_20 ?_
          refine q_if_eq (pc := 21) (tgt := 45) hx hb dX10_commonDivisor_21 (by decide) rfl hf (fun hf => ?_) (fun hf => ?_)
          · obtain rfl := Option.some.inj hf
            exact JE9 _ _ _ rfl hS (lv_sub hl [0] rfl)
          · refine lv_lload (pc := 24) hx hb dX10_commonDivisor_24 (lv_at hl 0 rfl) ?_
            refine lv_lload (pc := 26) hx hb dX10_commonDivisor_26 (lv_at hl 1 rfl) ?_
            refine q_lrem (pc := 28) hx hb dX10_commonDivisor_28 hf (fun v6 hf => ?_)
            refine lv_lstore (pc := 29) (lv' := [(9, .long v6), (4, .long v2), (6, .long v3), (8, .int v4)]) hx hb dX10_commonDivisor_29 hl (by decide) rfl (fun ls hl => ?_)
            refine lv_lload (pc := 31) hx hb dX10_commonDivisor_31 (lv_at hl 2 rfl) ?_
            refine lv_lstore (pc := 33) (lv' := [(4, .long v3), (9, .long v6), (6, .long v3), (8, .int v4)]) hx hb dX10_commonDivisor_33 hl (by decide) rfl (fun ls hl => ?_)
            refine lv_lload (pc := 35) hx hb dX10_commonDivisor_35 (lv_at hl 1 rfl) ?_
            refine lv_lstore (pc := 37) (lv' := [(6, .long v6), (4, .long v3), (9, .long v6), (8, .int v4)]) hx hb dX10_commonDivisor_37 hl (by decide) rfl (fun ls hl => ?_)
            obtain ⟨v7, ev7, hf⟩ := q_nm_e hf
            refine lv_iinc (pc := 39) (v := v7) (lv' := [(8, .int v7), (6, .long v6), (4, .long v3), (9, .long v6)]) hx hb dX10_commonDivisor_39 hl (k := 3) rfl (by rw [ev7]; rfl) (by decide) rfl (fun ls hl => ?_)
            refine lv_goto (pc := 42) (tgt := 9) hx hb dX10_commonDivisor_42 (by decide) ?_
            exact ih9 v3 v6 v7 _ _ _ hf rfl hS (lv_sub hl [2, 1, 0] rfl)
    exact LP9 N p1 p2 v1 _ _ _ hm9 rfl hS (lv_sub hl [2, 1, 0] rfl)
  exact hgo _ _ rfl hP hS
/-! X10_corners -/
set_option maxRecDepth 100000 in
set_option maxHeartbeats 4000000 in
theorem c_X_corners (l : Launch) (D : va_G) (ci : Nat → ClassId) (A : Nat → Prop) (sa : Nat → Nat) (N : Nat) (Rw : va_W) (a_x : Nat) (a_at : Nat) (a_g : Nat) (a_st : Nat) (a_x_kept : Nat) (a_tp : Nat) (a_rd : Nat) (a_qu : Nat) (a_sp : Nat) (a_wk : Nat) (a_bx : Nat) (a_nt : Nat) (a_nu : Nat) (a_x_seen : Nat) (a_sp_first : Nat) (a_sp_many : Nat) (a_sp_corner : Nat) (a_g_rowCuts : Nat) (a_g_columnCuts : Nat) (a_g_bandRows : Nat) (a_g_zoneColumns : Nat) (a_g_rows : Nat) (a_g_sheets : Nat) (x_keptStates : Int32) (sp_cornerCount : Int32) (sp_level : Int32) (sp_row : Int32) (sp_start : Int32) (sp_place : Int32) (sp_length : Int32) (sp_cap : Int32) (sp_corner : Nat → Int32) (g_bandRows : Nat → Int32) (g_zoneColumns : Nat → Int32) (g_rows : Nat → Int32) (g_sheets : Nat → Int32) (p1 : Int32) (p2 : Int32) (p3 : Int32) (r : Int32) (o1 : Nat → Int32) (o2 : Int32) (o3 : Int32) (o4 : Int32) (o5 : Int32) (o6 : Int32) (o7 : Int32) (o8 : Int32) (hf : f_X_corners N sp_corner sp_cornerCount sp_level sp_row sp_start sp_place sp_length sp_cap g_bandRows g_zoneColumns g_rows g_sheets p1 p2 p3 = some (r, o1, o2, o3, o4, o5, o6, o7, o8)) : Met l yX10_corners wsX10_corners ({ frames := 3, cells := 0, slots := 0, locals := 72 }) (va_Pc [.ref a_x, .int p1, .int p2, .int p3] (q_N D ci A sa ((a_x, .inr (10, [.ref a_at, .ref a_g, .ref a_st, .ref a_x_kept, .int x_keptStates, .ref a_tp, .ref a_rd, .ref a_qu, .ref a_sp, .ref a_wk, .ref a_bx, .ref a_nt, .ref a_nu, .ref a_x_seen])) :: (a_sp, .inr (6, [.ref a_g, .ref a_sp_first, .ref a_sp_many, .ref a_sp_corner, .int sp_cornerCount, .int sp_level, .int sp_row, .int sp_start, .int sp_place, .int sp_length, .int sp_cap])) :: (a_sp_corner, .inl (ci 0, 4, .inl sp_corner)) :: (a_g, .inr (2, [.ref a_g_rowCuts, .ref a_g_columnCuts, .ref a_g_bandRows, .ref a_g_zoneColumns, .ref a_g_rows, .ref a_g_sheets])) :: (a_g_bandRows, .inl (ci 0, 5, .inl g_bandRows)) :: (a_g_zoneColumns, .inl (ci 0, 5, .inl g_zoneColumns)) :: (a_g_rows, .inl (ci 0, 5, .inl g_rows)) :: (a_g_sheets, .inl (ci 0, 5, .inl g_sheets)) :: Rw))) (q_Q (some (.int r)) (q_O D A ((a_x, .inr (10, [.ref a_at, .ref a_g, .ref a_st, .ref a_x_kept, .int x_keptStates, .ref a_tp, .ref a_rd, .ref a_qu, .ref a_sp, .ref a_wk, .ref a_bx, .ref a_nt, .ref a_nu, .ref a_x_seen])) :: (a_sp, .inr (6, [.ref a_g, .ref a_sp_first, .ref a_sp_many, .ref a_sp_corner, .int o2, .int o3, .int o4, .int o5, .int o6, .int o7, .int o8])) :: (a_sp_corner, .inl (ci 0, 4, .inl o1)) :: (a_g, .inr (2, [.ref a_g_rowCuts, .ref a_g_columnCuts, .ref a_g_bandRows, .ref a_g_zoneColumns, .ref a_g_rows, .ref a_g_sheets])) :: (a_g_bandRows, .inl (ci 0, 5, .inl g_bandRows)) :: (a_g_zoneColumns, .inl (ci 0, 5, .inl g_zoneColumns)) :: (a_g_rows, .inl (ci 0, 5, .inl g_rows)) :: (a_g_sheets, .inl (ci 0, 5, .inl g_sheets)) :: Rw)) A) 0 0 A := by
  refine q_ofW (cc := cX10_corners) (maxL := 4) (ret := (some .int)) [.ref a_x, .int p1, .int p2, .int p3] (plainFor_of_name (by decide)) rfl (Nat.le_of_ble_eq_true rfl) ?_
  intro p e s m below meth c ls Q hQ hx hb hml hr hts hown hlocks hK hA hZ hP hD hS hl
  have hl : lv_has ls 4 [(0, .ref a_x), (1, .int p1), (2, .int p2), (3, .int p3)] := hl
  have hown : s.vm.findClass RX10 = some m.cls := hown
  have hinX10 : ∀ w ∈ wsX100, w ∈ wsX10_corners := fun _ h => List.mem_cons_of_mem _ (inWX100 _ h)
  have hinX6 : ∀ w ∈ wsX60, w ∈ wsX10_corners := fun _ h => List.mem_cons_of_mem _ (inWX60 _ h)
  have w_1 := hts (Cond.fieldLink RX10 20 "SheetNames" "grid" "LSheetNames$Grid;") (List.mem_cons_of_mem _ t_w876)
  have w_2 := hts (Cond.fieldLink RX10 66 "SheetNames" "spot" "LSheetNames$Spot;") (List.mem_cons_of_mem _ t_w877)
  have wn_18 : (Cond.fieldLinkNest "SheetNames" 283 "SheetNames$Spot" "cornerCount" "I" "SheetNames").before ([.ref a_x, .int p1, .int p2, .int p3] : List Value).toArray s = true := (hZ.2.2.2.2.2.2.2.2.2.1 _ (List.mem_of_getElem? (i := 18) rfl)).use rfl
  have wn_19 : (Cond.fieldLinkNest "SheetNames" 286 "SheetNames$Spot" "corner" "[I" "SheetNames").before ([.ref a_x, .int p1, .int p2, .int p3] : List Value).toArray s = true := (hZ.2.2.2.2.2.2.2.2.2.1 _ (List.mem_of_getElem? (i := 19) rfl)).use rfl
  unfold f_X_corners at hf
  have hgo : ∀ (H : Heap) (locs : List Loc), H = s.heap → va_P D vwCl ((a_x, .inr (10, [.ref a_at, .ref a_g, .ref a_st, .ref a_x_kept, .int x_keptStates, .ref a_tp, .ref a_rd, .ref a_qu, .ref a_sp, .ref a_wk, .ref a_bx, .ref a_nt, .ref a_nu, .ref a_x_seen])) :: (a_sp, .inr (6, [.ref a_g, .ref a_sp_first, .ref a_sp_many, .ref a_sp_corner, .int sp_cornerCount, .int sp_level, .int sp_row, .int sp_start, .int sp_place, .int sp_length, .int sp_cap])) :: (a_sp_corner, .inl (ci 0, 4, .inl sp_corner)) :: (a_g, .inr (2, [.ref a_g_rowCuts, .ref a_g_columnCuts, .ref a_g_bandRows, .ref a_g_zoneColumns, .ref a_g_rows, .ref a_g_sheets])) :: (a_g_bandRows, .inl (ci 0, 5, .inl g_bandRows)) :: (a_g_zoneColumns, .inl (ci 0, 5, .inl g_zoneColumns)) :: (a_g_rows, .inl (ci 0, 5, .inl g_rows)) :: (a_g_sheets, .inl (ci 0, 5, .inl g_sheets)) :: Rw) H → va_S A s.heap H locs → W p l e ({ frames := 3, cells := 0, slots := 0, locals := 72 } : Room) s m ([.ref a_x, .int p1, .int p2, .int p3] : List Value).toArray below meth c H locs 0 0 Q (F0 m 0 ls []) := by
    intro H locs hH hP hS
    refine lv_aload_n (pc := 0) hx hb dX10_corners_0 rfl (lv_at hl 0 rfl) ?_
    refine va_get (pc := 1) (D := D) (ci := 10) (v := .ref a_g) (C := RX10) (T := TX10) (N := 14) hx hb hts hinX10 hown hK hP 0 rfl rfl 1 (by decide) w_1 (fun _ h9 => h9) rfl dX10_corners_1 ?_
    refine lv_iload_n (pc := 4) hx hb dX10_corners_4 rfl (lv_at hl 1 rfl) ?_
    refine lv_iload_n (pc := 5) hx hb dX10_corners_5 rfl (lv_at hl 2 rfl) ?_
    obtain ⟨v1, hm6, hf⟩ := q_b1_e hf
    refine q_cVr (pc := 6) (As := [.int p1, .int p2]) (rest := []) (v0 := (some (.int v1))) ⟨hx, hb, hml, hown, hts⟩ hK hA hZ hP hD hS hl.1 [3, 7] 8 rfl ⟨rfl, rfl, rfl⟩ (c_Grid_hasSheet l D ci A sa N (Rw) a_g a_g_rowCuts a_g_columnCuts a_g_bandRows a_g_zoneColumns a_g_rows a_g_sheets g_sheets p1 p2 v1 hm6) 3 rfl rfl (cwV 2 hts gX10_corners_X2_hasSheet rfl rfl rfl (by decide +kernel) ⟨Nat.le_of_ble_eq_true rfl, Nat.le_of_ble_eq_true rfl⟩) rfl rfl (Nat.le_of_ble_eq_true rfl) dX10_corners_6 ⟨Nat.zero_le _, Nat.zero_le _⟩ (fun locs hS => ?_)
    refine q_if_eq (pc := 9) (tgt := 17) hx hb dX10_corners_9 (by decide) rfl hf (fun hf => ?_) (fun hf => ?_)
    · refine lv_iconst (pc := 17) (v := (-1)) hx hb dX10_corners_17 (by decide) ?_
      obtain ⟨e90, e91, e92, e93, e94, e95, e96, e97, e98⟩ := q_inj9 (Option.some.inj hf)
      rw [hQ, ← e90, ← e91, ← e92, ← e93, ← e94, ← e95, ← e96, ← e97, ← e98]
      exact q_iret (pc := 18) hx hb hr hlocks hP hD hS dX10_corners_18
    · refine lv_iload_n (pc := 12) hx hb dX10_corners_12 rfl (lv_at hl 3 rfl) ?_
      refine lv_iconst (pc := 13) (v := (-1)) hx hb dX10_corners_13 (by decide) ?_
      refine q_icmp_ge (pc := 14) (tgt := 19) hx hb dX10_corners_14 (by decide) rfl hf (fun hf => ?_) (fun hf => ?_)
      · refine lv_aload_n (pc := 19) hx hb dX10_corners_19 rfl (lv_at hl 0 rfl) ?_
        refine va_get (pc := 20) (D := D) (ci := 10) (v := .ref a_sp) (C := RX10) (T := TX10) (N := 14) hx hb hts hinX10 hown hK hP 0 rfl rfl 8 (by decide) w_2 (fun _ h9 => h9) rfl dX10_corners_20 ?_
        refine lv_iload_n (pc := 23) hx hb dX10_corners_23 rfl (lv_at hl 1 rfl) ?_
        refine lv_iload_n (pc := 24) hx hb dX10_corners_24 rfl (lv_at hl 2 rfl) ?_
        obtain ⟨v2, v3, v4, v5, v6, v7, hm25, hf⟩ := q_b6_e hf
        refine q_cV (pc := 25) (As := [.int p1, .int p2]) (rest := []) (v0 := none) ⟨hx, hb, hml, hown, hts⟩ hK hA hZ hP hD hS hl.1 [1, 3, 4, 5, 6, 7, 0, 2] 8 rfl ⟨rfl, rfl, rfl⟩ (c_Spot_put l D ci A sa N ((a_x, .inr (10, [.ref a_at, .ref a_g, .ref a_st, .ref a_x_kept, .int x_keptStates, .ref a_tp, .ref a_rd, .ref a_qu, .ref a_sp, .ref a_wk, .ref a_bx, .ref a_nt, .ref a_nu, .ref a_x_seen])) :: (a_sp_corner, .inl (ci 0, 4, .inl sp_corner)) :: Rw) a_sp a_g a_sp_first a_sp_many a_sp_corner a_g_rowCuts a_g_columnCuts a_g_bandRows a_g_zoneColumns a_g_rows a_g_sheets sp_cornerCount sp_level sp_row sp_start sp_place sp_length sp_cap g_bandRows g_zoneColumns g_rows g_sheets p1 p2 v2 v3 v4 v5 v6 v7 hm25) 1 rfl rfl (cwV 2 hts gX10_corners_X6_put rfl rfl rfl (by decide +kernel) ⟨Nat.le_of_ble_eq_true rfl, Nat.le_of_ble_eq_true rfl⟩) rfl rfl (Nat.le_of_ble_eq_true rfl) dX10_corners_25 ⟨Nat.zero_le _, Nat.zero_le _⟩ [6, 0, 7, 1, 2, 3, 4, 5] 8 rfl ⟨rfl, rfl, rfl⟩ (fun H locs hP hD hS => ?_)
        obtain ⟨hP, hD⟩ : va_PD D A ((a_x, .inr (10, [.ref a_at, .ref a_g, .ref a_st, .ref a_x_kept, .int x_keptStates, .ref a_tp, .ref a_rd, .ref a_qu, .ref a_sp, .ref a_wk, .ref a_bx, .ref a_nt, .ref a_nu, .ref a_x_seen])) :: (a_sp, .inr (6, [.ref a_g, .ref a_sp_first, .ref a_sp_many, .ref a_sp_corner, .int sp_cornerCount, .int v2, .int v3, .int v4, .int v5, .int v6, .int v7])) :: (a_sp_corner, .inl (ci 0, 4, .inl sp_corner)) :: (a_g, .inr (2, [.ref a_g_rowCuts, .ref a_g_columnCuts, .ref a_g_bandRows, .ref a_g_zoneColumns, .ref a_g_rows, .ref a_g_sheets])) :: (a_g_bandRows, .inl (ci 0, 5, .inl g_bandRows)) :: (a_g_zoneColumns, .inl (ci 0, 5, .inl g_zoneColumns)) :: (a_g_rows, .inl (ci 0, 5, .inl g_rows)) :: (a_g_sheets, .inl (ci 0, 5, .inl g_sheets)) :: Rw) H := ⟨hP, hD⟩
        refine lv_aload_n (pc := 28) hx hb dX10_corners_28 rfl (lv_at hl 0 rfl) ?_
        refine va_get (pc := 29) (D := D) (ci := 10) (v := .ref a_sp) (C := RX10) (T := TX10) (N := 14) hx hb hts hinX10 hown hK hP 0 rfl rfl 8 (by decide) w_2 (fun _ h9 => h9) rfl dX10_corners_29 ?_
        obtain ⟨f8, v9, hm32, hf⟩ := q_b2_e hf
        refine q_cV (pc := 32) (As := []) (rest := []) (v0 := none) ⟨hx, hb, hml, hown, hts⟩ hK hA hZ hP hD hS hl.1 [1, 2, 3, 4, 5, 6, 7, 0] 8 rfl ⟨rfl, rfl, rfl⟩ (c_Spot_lookAtCorners l D ci A sa N ((a_x, .inr (10, [.ref a_at, .ref a_g, .ref a_st, .ref a_x_kept, .int x_keptStates, .ref a_tp, .ref a_rd, .ref a_qu, .ref a_sp, .ref a_wk, .ref a_bx, .ref a_nt, .ref a_nu, .ref a_x_seen])) :: Rw) a_sp a_g a_sp_first a_sp_many a_sp_corner a_g_rowCuts a_g_columnCuts a_g_bandRows a_g_zoneColumns a_g_rows a_g_sheets sp_cornerCount v2 v3 v4 v5 v6 v7 sp_corner g_bandRows g_zoneColumns g_rows g_sheets f8 v9 hm32) 1 rfl rfl (cwV 0 hts gX10_corners_X6_lookAtCorners rfl rfl rfl (by decide +kernel) ⟨Nat.le_of_ble_eq_true rfl, Nat.le_of_ble_eq_true rfl⟩) rfl rfl (Nat.le_of_ble_eq_true rfl) dX10_corners_32 ⟨Nat.zero_le _, Nat.zero_le _⟩ [7, 0, 1, 2, 3, 4, 5, 6] 8 rfl ⟨rfl, rfl, rfl⟩ (fun H locs hP hD hS => ?_)
        obtain ⟨hP, hD⟩ : va_PD D A ((a_x, .inr (10, [.ref a_at, .ref a_g, .ref a_st, .ref a_x_kept, .int x_keptStates, .ref a_tp, .ref a_rd, .ref a_qu, .ref a_sp, .ref a_wk, .ref a_bx, .ref a_nt, .ref a_nu, .ref a_x_seen])) :: (a_sp, .inr (6, [.ref a_g, .ref a_sp_first, .ref a_sp_many, .ref a_sp_corner, .int v9, .int v2, .int v3, .int v4, .int v5, .int v6, .int v7])) :: (a_sp_corner, .inl (ci 0, 4, .inl f8)) :: (a_g, .inr (2, [.ref a_g_rowCuts, .ref a_g_columnCuts, .ref a_g_bandRows, .ref a_g_zoneColumns, .ref a_g_rows, .ref a_g_sheets])) :: (a_g_bandRows, .inl (ci 0, 5, .inl g_bandRows)) :: (a_g_zoneColumns, .inl (ci 0, 5, .inl g_zoneColumns)) :: (a_g_rows, .inl (ci 0, 5, .inl g_rows)) :: (a_g_sheets, .inl (ci 0, 5, .inl g_sheets)) :: Rw) H := ⟨hP, hD⟩
        refine lv_iload_n (pc := 35) hx hb dX10_corners_35 rfl (lv_at hl 3 rfl) ?_
        refine lv_iconst (pc := 36) (v := (-1)) hx hb dX10_corners_36 (by decide) ?_
        refine q_icmp_ne (pc := 37) (tgt := 48) hx hb dX10_corners_37 (by decide) rfl hf (fun hf => ?_) (fun hf => ?_)
        · refine lv_iload_n (pc := 48) hx hb dX10_corners_48 rfl (lv_at hl 3 rfl) ?_
          refine lv_aload_n (pc := 49) hx hb dX10_corners_49 rfl (lv_at hl 0 rfl) ?_
          refine va_get (pc := 50) (D := D) (ci := 10) (v := .ref a_sp) (C := RX10) (T := TX10) (N := 14) hx hb hts hinX10 hown hK hP 0 rfl rfl 8 (by decide) w_2 (fun _ h9 => h9) rfl dX10_corners_50 ?_
          refine va_getN (pc := 53) (D := D) (ci := 6) (v := .int v9) (C := RX6) (T := TX6) (N := 11) hx hb hts hinX6 hown hK hP 1 rfl rfl 4 (by decide) wn_18 (fun _ h9 => h9) rfl dX10_corners_53 ?_
          refine q_icmp_ge (pc := 56) (tgt := 71) hx hb dX10_corners_56 (by decide) rfl hf (fun hf => ?_) (fun hf => ?_)
          · refine lv_bipush (pc := 71) (v := (-2)) hx hb dX10_corners_71 (by decide) ?_
            obtain ⟨e90, e91, e92, e93, e94, e95, e96, e97, e98⟩ := q_inj9 (Option.some.inj hf)
            rw [hQ, ← e90, ← e91, ← e92, ← e93, ← e94, ← e95, ← e96, ← e97, ← e98]
            exact q_iret (pc := 73) hx hb hr hlocks hP hD hS dX10_corners_73
          · refine lv_aload_n (pc := 59) hx hb dX10_corners_59 rfl (lv_at hl 0 rfl) ?_
            refine va_get (pc := 60) (D := D) (ci := 10) (v := .ref a_sp) (C := RX10) (T := TX10) (N := 14) hx hb hts hinX10 hown hK hP 0 rfl rfl 8 (by decide) w_2 (fun _ h9 => h9) rfl dX10_corners_60 ?_
            refine va_getN (pc := 63) (D := D) (ci := 6) (v := .ref a_sp_corner) (C := RX6) (T := TX6) (N := 11) hx hb hts hinX6 hown hK hP 1 rfl rfl 3 (by decide) wn_19 (fun _ h9 => h9) rfl dX10_corners_63 ?_
            refine lv_iload_n (pc := 66) hx hb dX10_corners_66 rfl (lv_at hl 3 rfl) ?_
            refine q_iald (pc := 67) hx hb hK hP 2 0 hf rfl rfl dX10_corners_67 (fun v10 hf => ?_)
            refine lv_goto (pc := 68) (tgt := 73) hx hb dX10_corners_68 (by decide) ?_
            obtain ⟨e90, e91, e92, e93, e94, e95, e96, e97, e98⟩ := q_inj9 (Option.some.inj hf)
            rw [hQ, ← e90, ← e91, ← e92, ← e93, ← e94, ← e95, ← e96, ← e97, ← e98]
            exact q_iret (pc := 73) hx hb hr hlocks hP hD hS dX10_corners_73
        · refine lv_aload_n (pc := 40) hx hb dX10_corners_40 rfl (lv_at hl 0 rfl) ?_
          refine va_get (pc := 41) (D := D) (ci := 10) (v := .ref a_sp) (C := RX10) (T := TX10) (N := 14) hx hb hts hinX10 hown hK hP 0 rfl rfl 8 (by decide) w_2 (fun _ h9 => h9) rfl dX10_corners_41 ?_
          refine va_getN (pc := 44) (D := D) (ci := 6) (v := .int v9) (C := RX6) (T := TX6) (N := 11) hx hb hts hinX6 hown hK hP 1 rfl rfl 4 (by decide) wn_18 (fun _ h9 => h9) rfl dX10_corners_44 ?_
          obtain ⟨e90, e91, e92, e93, e94, e95, e96, e97, e98⟩ := q_inj9 (Option.some.inj hf)
          rw [hQ, ← e90, ← e91, ← e92, ← e93, ← e94, ← e95, ← e96, ← e97, ← e98]
          exact q_iret (pc := 47) hx hb hr hlocks hP hD hS dX10_corners_47
      · refine lv_iconst (pc := 17) (v := (-1)) hx hb dX10_corners_17 (by decide) ?_
        obtain ⟨e90, e91, e92, e93, e94, e95, e96, e97, e98⟩ := q_inj9 (Option.some.inj hf)
        rw [hQ, ← e90, ← e91, ← e92, ← e93, ← e94, ← e95, ← e96, ← e97, ← e98]
        exact q_iret (pc := 18) hx hb hr hlocks hP hD hS dX10_corners_18
  exact hgo _ _ rfl hP hS
/-! X10_count -/
set_option maxRecDepth 100000 in
set_option maxHeartbeats 4000000 in
theorem c_X_count (l : Launch) (D : va_G) (ci : Nat → ClassId) (A : Nat → Prop) (sa : Nat → Nat) (N : Nat) (Rw : va_W) (a_x : Nat) (a_at : Nat) (a_g : Nat) (a_st : Nat) (a_x_kept : Nat) (a_tp : Nat) (a_rd : Nat) (a_qu : Nat) (a_sp : Nat) (a_wk : Nat) (a_bx : Nat) (a_nt : Nat) (a_nu : Nat) (a_x_seen : Nat) (a_tp_bytes : Nat) (a_st_levels : Nat) (a_st_keys : Nat) (a_st_years : Nat) (a_st_keysThere : Nat) (x_keptStates : Int32) (tp_length : Int32) (at_right : Int32) (at_faulty : Int32) (at_endedSoon : Int32) (at_noSuchNumber : Int32) (st_size : Int32) (st_shownBy : Int32) (st_deepestShown : Int32) (st_latestShown : Int32) (p1 : Int32) (r : Int32) (hf : f_X_count x_keptStates tp_length at_right at_faulty at_endedSoon at_noSuchNumber st_size p1 = some r) : Met l yX10_count wsX10_count ({ frames := 0, cells := 0, slots := 0, locals := 0 }) (va_Pc [.ref a_x, .int p1] (q_N D ci A sa ((a_x, .inr (10, [.ref a_at, .ref a_g, .ref a_st, .ref a_x_kept, .int x_keptStates, .ref a_tp, .ref a_rd, .ref a_qu, .ref a_sp, .ref a_wk, .ref a_bx, .ref a_nt, .ref a_nu, .ref a_x_seen])) :: (a_tp, .inr (8, [.ref a_tp_bytes, .int tp_length])) :: (a_at, .inr (0, [.ref a_g, .ref a_st, .int at_right, .int at_faulty, .int at_endedSoon, .int at_noSuchNumber])) :: (a_st, .inr (7, [.ref a_g, .ref a_st_levels, .ref a_st_keys, .ref a_st_years, .ref a_st_keysThere, .int st_size, .int st_shownBy, .int st_deepestShown, .int st_latestShown])) :: Rw))) (q_R (some (.int r))) 0 0 A := by
  refine q_ofW (cc := cX10_count) (maxL := 2) (ret := (some .int)) [.ref a_x, .int p1] (plainFor_of_name (by decide)) rfl (Nat.le_of_ble_eq_true rfl) ?_
  intro p e s m below meth c ls Q hQ hx hb hml hr hts hown hlocks hK hA hZ hP hD hS hl
  have hl : lv_has ls 2 [(0, .ref a_x), (1, .int p1)] := hl
  have hown : s.vm.findClass RX10 = some m.cls := hown
  have hinX0 : ∀ w ∈ wsX00, w ∈ wsX10_count := fun _ h => List.mem_cons_of_mem _ (inWX00 _ h)
  have hinX10 : ∀ w ∈ wsX100, w ∈ wsX10_count := fun _ h => List.mem_cons_of_mem _ (inWX100 _ h)
  have hinX7 : ∀ w ∈ wsX70, w ∈ wsX10_count := fun _ h => List.mem_cons_of_mem _ (inWX70 _ h)
  have hinX8 : ∀ w ∈ wsX80, w ∈ wsX10_count := fun _ h => List.mem_cons_of_mem _ (inWX80 _ h)
  have w_1 := hts (Cond.fieldLink RX10 25 "SheetNames" "pieces" "LSheetNames$Store;") (List.mem_cons_of_mem _ t_w892)
  have w_2 := hts (Cond.fieldLink RX10 39 "SheetNames" "tape" "LSheetNames$Tape;") (List.mem_cons_of_mem _ t_w882)
  have w_3 := hts (Cond.fieldLink RX10 32 "SheetNames" "keptStates" "I") (List.mem_cons_of_mem _ t_w893)
  have w_4 := hts (Cond.fieldLink RX10 10 "SheetNames" "now" "LSheetNames$Atlas;") (List.mem_cons_of_mem _ t_w884)
  have wn_0 : (Cond.fieldLinkNest "SheetNames" 109 "SheetNames$Store" "size" "I" "SheetNames").before ([.ref a_x, .int p1] : List Value).toArray s = true := (hZ.2.2.2.2.2.2.2.2.2.1 _ (List.mem_of_getElem? (i := 0) rfl)).use rfl
  have wn_31 : (Cond.fieldLinkNest "SheetNames" 429 "SheetNames$Atlas" "right" "I" "SheetNames").before ([.ref a_x, .int p1] : List Value).toArray s = true := (hZ.2.2.2.2.2.2.2.2.2.1 _ (List.mem_of_getElem? (i := 31) rfl)).use rfl
  have wn_32 : (Cond.fieldLinkNest "SheetNames" 432 "SheetNames$Atlas" "faulty" "I" "SheetNames").before ([.ref a_x, .int p1] : List Value).toArray s = true := (hZ.2.2.2.2.2.2.2.2.2.1 _ (List.mem_of_getElem? (i := 32) rfl)).use rfl
  have wn_33 : (Cond.fieldLinkNest "SheetNames" 435 "SheetNames$Atlas" "endedSoon" "I" "SheetNames").before ([.ref a_x, .int p1] : List Value).toArray s = true := (hZ.2.2.2.2.2.2.2.2.2.1 _ (List.mem_of_getElem? (i := 33) rfl)).use rfl
  have wn_34 : (Cond.fieldLinkNest "SheetNames" 438 "SheetNames$Atlas" "noSuchNumber" "I" "SheetNames").before ([.ref a_x, .int p1] : List Value).toArray s = true := (hZ.2.2.2.2.2.2.2.2.2.1 _ (List.mem_of_getElem? (i := 34) rfl)).use rfl
  have wn_35 : (Cond.fieldLinkNest "SheetNames" 98 "SheetNames$Tape" "length" "I" "SheetNames").before ([.ref a_x, .int p1] : List Value).toArray s = true := (hZ.2.2.2.2.2.2.2.2.2.1 _ (List.mem_of_getElem? (i := 35) rfl)).use rfl
  unfold f_X_count at hf
  have hgo : ∀ (H : Heap) (locs : List Loc), H = s.heap → va_P D vwCl ((a_x, .inr (10, [.ref a_at, .ref a_g, .ref a_st, .ref a_x_kept, .int x_keptStates, .ref a_tp, .ref a_rd, .ref a_qu, .ref a_sp, .ref a_wk, .ref a_bx, .ref a_nt, .ref a_nu, .ref a_x_seen])) :: (a_tp, .inr (8, [.ref a_tp_bytes, .int tp_length])) :: (a_at, .inr (0, [.ref a_g, .ref a_st, .int at_right, .int at_faulty, .int at_endedSoon, .int at_noSuchNumber])) :: (a_st, .inr (7, [.ref a_g, .ref a_st_levels, .ref a_st_keys, .ref a_st_years, .ref a_st_keysThere, .int st_size, .int st_shownBy, .int st_deepestShown, .int st_latestShown])) :: Rw) H → va_S A s.heap H locs → W p l e ({ frames := 0, cells := 0, slots := 0, locals := 0 } : Room) s m ([.ref a_x, .int p1] : List Value).toArray below meth c H locs 0 0 Q (F0 m 0 ls []) := by
    intro H locs hH hP hS
    subst hH
    refine lv_iload_n (pc := 0) hx hb dX10_count_0 rfl (lv_at hl 1 rfl) ?_
    rcases q_if_e hf with ⟨hc0, hf⟩ | ⟨hc0, hf⟩
    · refine lv_tableIn (pc := 1) (tgt := 44) (off := 43) hx hb dX10_count_1 (by rw [hc0]; decide) (by rw [hc0]; decide) (by rw [hc0]; decide) (by decide) ?_
      refine lv_aload_n (pc := 44) hx hb dX10_count_44 rfl (lv_at hl 0 rfl) ?_
      refine va_get (pc := 45) (D := D) (ci := 10) (v := .ref a_st) (C := RX10) (T := TX10) (N := 14) hx hb hts hinX10 hown hK hP 0 rfl rfl 2 (by decide) w_1 (fun _ h9 => h9) rfl dX10_count_45 ?_
      refine va_getN (pc := 48) (D := D) (ci := 7) (v := .int st_size) (C := RX7) (T := TX7) (N := 9) hx hb hts hinX7 hown hK hP 3 rfl rfl 5 (by decide) wn_0 (fun _ h9 => h9) rfl dX10_count_48 ?_
      obtain rfl := Option.some.inj hf
      rw [hQ]
      exact q_iretr (pc := 51) hx hb hr hlocks rfl hS dX10_count_51
    rcases q_if_e hf with ⟨hc1, hf⟩ | ⟨hc1, hf⟩
    · refine lv_tableIn (pc := 1) (tgt := 52) (off := 51) hx hb dX10_count_1 (by rw [hc1]; decide) (by rw [hc1]; decide) (by rw [hc1]; decide) (by decide) ?_
      refine lv_aload_n (pc := 52) hx hb dX10_count_52 rfl (lv_at hl 0 rfl) ?_
      refine va_get (pc := 53) (D := D) (ci := 10) (v := .ref a_tp) (C := RX10) (T := TX10) (N := 14) hx hb hts hinX10 hown hK hP 0 rfl rfl 5 (by decide) w_2 (fun _ h9 => h9) rfl dX10_count_53 ?_
      refine va_getN (pc := 56) (D := D) (ci := 8) (v := .int tp_length) (C := RX8) (T := TX8) (N := 2) hx hb hts hinX8 hown hK hP 1 rfl rfl 1 (by decide) wn_35 (fun _ h9 => h9) rfl dX10_count_56 ?_
      obtain rfl := Option.some.inj hf
      rw [hQ]
      exact q_iretr (pc := 59) hx hb hr hlocks rfl hS dX10_count_59
    rcases q_if_e hf with ⟨hc2, hf⟩ | ⟨hc2, hf⟩
    · refine lv_tableIn (pc := 1) (tgt := 60) (off := 59) hx hb dX10_count_1 (by rw [hc2]; decide) (by rw [hc2]; decide) (by rw [hc2]; decide) (by decide) ?_
      refine lv_aload_n (pc := 60) hx hb dX10_count_60 rfl (lv_at hl 0 rfl) ?_
      refine va_get (pc := 61) (D := D) (ci := 10) (v := .int x_keptStates) (C := RX10) (T := TX10) (N := 14) hx hb hts hinX10 hown hK hP 0 rfl rfl 4 (by decide) w_3 (fun _ h9 => h9) rfl dX10_count_61 ?_
      obtain rfl := Option.some.inj hf
      rw [hQ]
      exact q_iretr (pc := 64) hx hb hr hlocks rfl hS dX10_count_64
    rcases q_if_e hf with ⟨hc3, hf⟩ | ⟨hc3, hf⟩
    · refine lv_tableIn (pc := 1) (tgt := 65) (off := 64) hx hb dX10_count_1 (by rw [hc3]; decide) (by rw [hc3]; decide) (by rw [hc3]; decide) (by decide) ?_
      refine lv_aload_n (pc := 65) hx hb dX10_count_65 rfl (lv_at hl 0 rfl) ?_
      refine va_get (pc := 66) (D := D) (ci := 10) (v := .ref a_at) (C := RX10) (T := TX10) (N := 14) hx hb hts hinX10 hown hK hP 0 rfl rfl 0 (by decide) w_4 (fun _ h9 => h9) rfl dX10_count_66 ?_
      refine va_getN (pc := 69) (D := D) (ci := 0) (v := .int at_right) (C := RX0) (T := TX0) (N := 6) hx hb hts hinX0 hown hK hP 2 rfl rfl 2 (by decide) wn_31 (fun _ h9 => h9) rfl dX10_count_69 ?_
      obtain rfl := Option.some.inj hf
      rw [hQ]
      exact q_iretr (pc := 72) hx hb hr hlocks rfl hS dX10_count_72
    rcases q_if_e hf with ⟨hc4, hf⟩ | ⟨hc4, hf⟩
    · refine lv_tableIn (pc := 1) (tgt := 73) (off := 72) hx hb dX10_count_1 (by rw [hc4]; decide) (by rw [hc4]; decide) (by rw [hc4]; decide) (by decide) ?_
      refine lv_aload_n (pc := 73) hx hb dX10_count_73 rfl (lv_at hl 0 rfl) ?_
      refine va_get (pc := 74) (D := D) (ci := 10) (v := .ref a_at) (C := RX10) (T := TX10) (N := 14) hx hb hts hinX10 hown hK hP 0 rfl rfl 0 (by decide) w_4 (fun _ h9 => h9) rfl dX10_count_74 ?_
      refine va_getN (pc := 77) (D := D) (ci := 0) (v := .int at_faulty) (C := RX0) (T := TX0) (N := 6) hx hb hts hinX0 hown hK hP 2 rfl rfl 3 (by decide) wn_32 (fun _ h9 => h9) rfl dX10_count_77 ?_
      obtain rfl := Option.some.inj hf
      rw [hQ]
      exact q_iretr (pc := 80) hx hb hr hlocks rfl hS dX10_count_80
    rcases q_if_e hf with ⟨hc5, hf⟩ | ⟨hc5, hf⟩
    · refine lv_tableIn (pc := 1) (tgt := 81) (off := 80) hx hb dX10_count_1 (by rw [hc5]; decide) (by rw [hc5]; decide) (by rw [hc5]; decide) (by decide) ?_
      refine lv_aload_n (pc := 81) hx hb dX10_count_81 rfl (lv_at hl 0 rfl) ?_
      refine va_get (pc := 82) (D := D) (ci := 10) (v := .ref a_at) (C := RX10) (T := TX10) (N := 14) hx hb hts hinX10 hown hK hP 0 rfl rfl 0 (by decide) w_4 (fun _ h9 => h9) rfl dX10_count_82 ?_
      refine va_getN (pc := 85) (D := D) (ci := 0) (v := .int at_endedSoon) (C := RX0) (T := TX0) (N := 6) hx hb hts hinX0 hown hK hP 2 rfl rfl 4 (by decide) wn_33 (fun _ h9 => h9) rfl dX10_count_85 ?_
      obtain rfl := Option.some.inj hf
      rw [hQ]
      exact q_iretr (pc := 88) hx hb hr hlocks rfl hS dX10_count_88
    rcases q_if_e hf with ⟨hc6, hf⟩ | ⟨hc6, hf⟩
    · refine lv_tableIn (pc := 1) (tgt := 89) (off := 88) hx hb dX10_count_1 (by rw [hc6]; decide) (by rw [hc6]; decide) (by rw [hc6]; decide) (by decide) ?_
      refine lv_aload_n (pc := 89) hx hb dX10_count_89 rfl (lv_at hl 0 rfl) ?_
      refine va_get (pc := 90) (D := D) (ci := 10) (v := .ref a_at) (C := RX10) (T := TX10) (N := 14) hx hb hts hinX10 hown hK hP 0 rfl rfl 0 (by decide) w_4 (fun _ h9 => h9) rfl dX10_count_90 ?_
      refine va_getN (pc := 93) (D := D) (ci := 0) (v := .int at_noSuchNumber) (C := RX0) (T := TX0) (N := 6) hx hb hts hinX0 hown hK hP 2 rfl rfl 5 (by decide) wn_34 (fun _ h9 => h9) rfl dX10_count_93 ?_
      obtain rfl := Option.some.inj hf
      rw [hQ]
      exact q_iretr (pc := 96) hx hb hr hlocks rfl hS dX10_count_96
    have hsw : p1.toInt < 0 ∨ 6 < p1.toInt := by
      have hd0 := q_nei hc0; have hd1 := q_nei hc1; have hd2 := q_nei hc2; have hd3 := q_nei hc3; have hd4 := q_nei hc4; have hd5 := q_nei hc5; have hd6 := q_nei hc6
      rw [show (0 : Int32).toInt = 0 from rfl] at hd0; rw [show (1 : Int32).toInt = 1 from rfl] at hd1; rw [show (2 : Int32).toInt = 2 from rfl] at hd2; rw [show (3 : Int32).toInt = 3 from rfl] at hd3; rw [show (4 : Int32).toInt = 4 from rfl] at hd4; rw [show (5 : Int32).toInt = 5 from rfl] at hd5; rw [show (6 : Int32).toInt = 6 from rfl] at hd6
      omega
    refine lv_tableOut (pc := 1) (tgt := 97) hx hb dX10_count_1 hsw (by decide) ?_
    refine lv_iconst (pc := 97) (v := (-1)) hx hb dX10_count_97 (by decide) ?_
    obtain rfl := Option.some.inj hf
    rw [hQ]
    exact q_iretr (pc := 98) hx hb hr hlocks rfl hS dX10_count_98
  exact hgo _ _ rfl hP hS
/-! X10_cover -/
set_option maxRecDepth 100000 in
set_option maxHeartbeats 4000000 in
theorem c_X_cover (l : Launch) (D : va_G) (ci : Nat → ClassId) (A : Nat → Prop) (sa : Nat → Nat) (N : Nat) (Rw : va_W) (a_x : Nat) (a_at : Nat) (a_g : Nat) (a_st : Nat) (a_x_kept : Nat) (a_tp : Nat) (a_rd : Nat) (a_qu : Nat) (a_sp : Nat) (a_wk : Nat) (a_bx : Nat) (a_nt : Nat) (a_nu : Nat) (a_x_seen : Nat) (a_g_rowCuts : Nat) (a_g_columnCuts : Nat) (a_g_bandRows : Nat) (a_g_zoneColumns : Nat) (a_g_rows : Nat) (a_g_sheets : Nat) (x_keptStates : Int32) (bx_south : Int32) (bx_north : Int32) (bx_west : Int32) (bx_east : Int32) (g_rowCuts : Nat → Int32) (g_columnCuts : Nat → Int32) (g_bandRows : Nat → Int32) (g_zoneColumns : Nat → Int32) (g_rows : Nat → Int32) (g_sheets : Nat → Int32) (p1 : Int32) (p2 : Int32) (p3 : Int32) (p4 : Int32) (p5 : Int32) (p6 : Int32) (r : Int32) (o1 : Int32) (o2 : Int32) (o3 : Int32) (o4 : Int32) (hf : f_X_cover N bx_south bx_north bx_west bx_east g_rowCuts g_columnCuts g_bandRows g_zoneColumns g_rows g_sheets p1 p2 p3 p4 p5 p6 = some (r, o1, o2, o3, o4)) : Met l yX10_cover wsX10_cover ({ frames := 6, cells := 0, slots := 0, locals := 154 }) (va_Pc [.ref a_x, .int p1, .int p2, .int p3, .int p4, .int p5, .int p6] (q_N D ci A sa ((a_x, .inr (10, [.ref a_at, .ref a_g, .ref a_st, .ref a_x_kept, .int x_keptStates, .ref a_tp, .ref a_rd, .ref a_qu, .ref a_sp, .ref a_wk, .ref a_bx, .ref a_nt, .ref a_nu, .ref a_x_seen])) :: (a_bx, .inr (1, [.ref a_g, .int bx_south, .int bx_north, .int bx_west, .int bx_east])) :: (a_g, .inr (2, [.ref a_g_rowCuts, .ref a_g_columnCuts, .ref a_g_bandRows, .ref a_g_zoneColumns, .ref a_g_rows, .ref a_g_sheets])) :: (a_g_rowCuts, .inl (ci 0, 5, .inl g_rowCuts)) :: (a_g_columnCuts, .inl (ci 0, 5, .inl g_columnCuts)) :: (a_g_bandRows, .inl (ci 0, 5, .inl g_bandRows)) :: (a_g_zoneColumns, .inl (ci 0, 5, .inl g_zoneColumns)) :: (a_g_rows, .inl (ci 0, 5, .inl g_rows)) :: (a_g_sheets, .inl (ci 0, 5, .inl g_sheets)) :: Rw))) (q_Q (some (.int r)) (q_O D A ((a_x, .inr (10, [.ref a_at, .ref a_g, .ref a_st, .ref a_x_kept, .int x_keptStates, .ref a_tp, .ref a_rd, .ref a_qu, .ref a_sp, .ref a_wk, .ref a_bx, .ref a_nt, .ref a_nu, .ref a_x_seen])) :: (a_bx, .inr (1, [.ref a_g, .int o1, .int o2, .int o3, .int o4])) :: (a_g, .inr (2, [.ref a_g_rowCuts, .ref a_g_columnCuts, .ref a_g_bandRows, .ref a_g_zoneColumns, .ref a_g_rows, .ref a_g_sheets])) :: (a_g_rowCuts, .inl (ci 0, 5, .inl g_rowCuts)) :: (a_g_columnCuts, .inl (ci 0, 5, .inl g_columnCuts)) :: (a_g_bandRows, .inl (ci 0, 5, .inl g_bandRows)) :: (a_g_zoneColumns, .inl (ci 0, 5, .inl g_zoneColumns)) :: (a_g_rows, .inl (ci 0, 5, .inl g_rows)) :: (a_g_sheets, .inl (ci 0, 5, .inl g_sheets)) :: Rw)) A) 0 0 A := by
  refine q_ofW (cc := cX10_cover) (maxL := 10) (ret := (some .int)) [.ref a_x, .int p1, .int p2, .int p3, .int p4, .int p5, .int p6] (plainFor_of_name (by decide)) rfl (Nat.le_of_ble_eq_true rfl) ?_
  intro p e s m below meth c ls Q hQ hx hb hml hr hts hown hlocks hK hA hZ hP hD hS hl
  have hl : lv_has ls 10 [(0, .ref a_x), (1, .int p1), (2, .int p2), (3, .int p3), (4, .int p4), (5, .int p5), (6, .int p6)] := hl
  have hown : s.vm.findClass RX10 = some m.cls := hown
  have hinX10 : ∀ w ∈ wsX100, w ∈ wsX10_cover := fun _ h => List.mem_cons_of_mem _ (inWX100 _ h)
  have w_1 := hts (Cond.fieldLink RX10 80 "SheetNames" "area" "LSheetNames$Box;") (List.mem_cons_of_mem _ t_w878)
  have w_2 := hts (Cond.constant RX10 306 (100000000)) (List.mem_cons_of_mem _ t_w894)
  unfold f_X_cover at hf
  have hgo : ∀ (H : Heap) (locs : List Loc), H = s.heap → va_P D vwCl ((a_x, .inr (10, [.ref a_at, .ref a_g, .ref a_st, .ref a_x_kept, .int x_keptStates, .ref a_tp, .ref a_rd, .ref a_qu, .ref a_sp, .ref a_wk, .ref a_bx, .ref a_nt, .ref a_nu, .ref a_x_seen])) :: (a_bx, .inr (1, [.ref a_g, .int bx_south, .int bx_north, .int bx_west, .int bx_east])) :: (a_g, .inr (2, [.ref a_g_rowCuts, .ref a_g_columnCuts, .ref a_g_bandRows, .ref a_g_zoneColumns, .ref a_g_rows, .ref a_g_sheets])) :: (a_g_rowCuts, .inl (ci 0, 5, .inl g_rowCuts)) :: (a_g_columnCuts, .inl (ci 0, 5, .inl g_columnCuts)) :: (a_g_bandRows, .inl (ci 0, 5, .inl g_bandRows)) :: (a_g_zoneColumns, .inl (ci 0, 5, .inl g_zoneColumns)) :: (a_g_rows, .inl (ci 0, 5, .inl g_rows)) :: (a_g_sheets, .inl (ci 0, 5, .inl g_sheets)) :: Rw) H → va_S A s.heap H locs → W p l e ({ frames := 6, cells := 0, slots := 0, locals := 154 } : Room) s m ([.ref a_x, .int p1, .int p2, .int p3, .int p4, .int p5, .int p6] : List Value).toArray below meth c H locs 0 0 Q (F0 m 0 ls []) := by
    intro H locs hH hP hS
    refine lv_iload_n (pc := 0) hx hb dX10_cover_0 rfl (lv_at hl 1 rfl) ?_
    refine lv_iload_n (pc := 1) hx hb dX10_cover_1 rfl (lv_at hl 2 rfl) ?_
    refine lv_iload_n (pc := 2) hx hb dX10_cover_2 rfl (lv_at hl 3 rfl) ?_
    refine lv_iload (pc := 3) hx hb dX10_cover_3 (lv_at hl 4 rfl) ?_
    obtain ⟨v1, hm5, hf⟩ := q_b1_e hf
    refine q_cSr (pc := 5) (As := [.int p1, .int p2, .int p3, .int p4]) (rest := []) (v0 := (some (.int v1))) ⟨hx, hb, hml, hown, hts⟩ hK hA hZ hP hD hS hl.1 [] 9 rfl ⟨rfl, rfl, rfl⟩ (c_X_isBox l D ci A sa N (Rw) p1 p2 p3 p4 v1 hm5) (va_cwS 4 hts gX10_cover_X10_isBox rfl rfl rfl (by decide +kernel) ⟨Nat.le_of_ble_eq_true rfl, Nat.le_of_ble_eq_true rfl⟩) rfl rfl (Nat.le_of_ble_eq_true rfl) dX10_cover_5 ⟨Nat.zero_le _, Nat.zero_le _⟩ (fun locs hS => ?_)
    refine q_if_eq (pc := 8) (tgt := 25) hx hb dX10_cover_8 (by decide) rfl hf (fun hf => ?_) (fun hf => ?_)
    · refine lv_iconst (pc := 25) (v := (-1)) hx hb dX10_cover_25 (by decide) ?_
      obtain ⟨e90, e91, e92, e93, e94⟩ := q_inj5 (Option.some.inj hf)
      rw [hQ, ← e90, ← e91, ← e92, ← e93, ← e94]
      exact q_iret (pc := 26) hx hb hr hlocks hP hD hS dX10_cover_26
    · refine lv_iload (pc := 11) hx hb dX10_cover_11 (lv_at hl 5 rfl) ?_
      obtain ⟨v2, hm13, hf⟩ := q_b1_e hf
      refine q_cSr (pc := 13) (As := [.int p5]) (rest := []) (v0 := (some (.int v2))) ⟨hx, hb, hml, hown, hts⟩ hK hA hZ hP hD hS hl.1 [] 9 rfl ⟨rfl, rfl, rfl⟩ (c_X_isLevel l D ci A sa N (Rw) p5 v2 hm13) (va_cwS 1 hts gX10_cover_X10_isLevel rfl rfl rfl (by decide +kernel) ⟨Nat.le_of_ble_eq_true rfl, Nat.le_of_ble_eq_true rfl⟩) rfl rfl (Nat.le_of_ble_eq_true rfl) dX10_cover_13 ⟨Nat.zero_le _, Nat.zero_le _⟩ (fun locs hS => ?_)
      refine q_if_eq (pc := 16) (tgt := 25) hx hb dX10_cover_16 (by decide) rfl hf (fun hf => ?_) (fun hf => ?_)
      · refine lv_iconst (pc := 25) (v := (-1)) hx hb dX10_cover_25 (by decide) ?_
        obtain ⟨e90, e91, e92, e93, e94⟩ := q_inj5 (Option.some.inj hf)
        rw [hQ, ← e90, ← e91, ← e92, ← e93, ← e94]
        exact q_iret (pc := 26) hx hb hr hlocks hP hD hS dX10_cover_26
      · refine lv_iload (pc := 19) hx hb dX10_cover_19 (lv_at hl 6 rfl) ?_
        refine lv_iconst (pc := 21) (v := (-1)) hx hb dX10_cover_21 (by decide) ?_
        refine q_icmp_ge (pc := 22) (tgt := 27) hx hb dX10_cover_22 (by decide) rfl hf (fun hf => ?_) (fun hf => ?_)
        · refine lv_aload_n (pc := 27) hx hb dX10_cover_27 rfl (lv_at hl 0 rfl) ?_
          refine va_get (pc := 28) (D := D) (ci := 10) (v := .ref a_bx) (C := RX10) (T := TX10) (N := 14) hx hb hts hinX10 hown hK hP 0 rfl rfl 10 (by decide) w_1 (fun _ h9 => h9) rfl dX10_cover_28 ?_
          refine lv_iload_n (pc := 31) hx hb dX10_cover_31 rfl (lv_at hl 1 rfl) ?_
          refine lv_iload_n (pc := 32) hx hb dX10_cover_32 rfl (lv_at hl 2 rfl) ?_
          refine lv_iload_n (pc := 33) hx hb dX10_cover_33 rfl (lv_at hl 3 rfl) ?_
          refine lv_iload (pc := 34) hx hb dX10_cover_34 (lv_at hl 4 rfl) ?_
          obtain ⟨v3, v4, v5, v6, hm36, hf⟩ := q_b4_e hf
          refine q_cV (pc := 36) (As := [.int p1, .int p2, .int p3, .int p4]) (rest := []) (v0 := none) ⟨hx, hb, hml, hown, hts⟩ hK hA hZ hP hD hS hl.1 [1, 0, 2, 3, 4, 5, 6, 7, 8] 9 rfl ⟨rfl, rfl, rfl⟩ (c_Box_set l D ci A sa N ((a_x, .inr (10, [.ref a_at, .ref a_g, .ref a_st, .ref a_x_kept, .int x_keptStates, .ref a_tp, .ref a_rd, .ref a_qu, .ref a_sp, .ref a_wk, .ref a_bx, .ref a_nt, .ref a_nu, .ref a_x_seen])) :: (a_g, .inr (2, [.ref a_g_rowCuts, .ref a_g_columnCuts, .ref a_g_bandRows, .ref a_g_zoneColumns, .ref a_g_rows, .ref a_g_sheets])) :: (a_g_rowCuts, .inl (ci 0, 5, .inl g_rowCuts)) :: (a_g_columnCuts, .inl (ci 0, 5, .inl g_columnCuts)) :: (a_g_bandRows, .inl (ci 0, 5, .inl g_bandRows)) :: (a_g_zoneColumns, .inl (ci 0, 5, .inl g_zoneColumns)) :: (a_g_rows, .inl (ci 0, 5, .inl g_rows)) :: (a_g_sheets, .inl (ci 0, 5, .inl g_sheets)) :: Rw) a_bx a_g bx_south bx_north bx_west bx_east p1 p2 p3 p4 v3 v4 v5 v6 hm36) 1 rfl rfl (cwV 4 hts gX10_cover_X1_set rfl rfl rfl (by decide +kernel) ⟨Nat.le_of_ble_eq_true rfl, Nat.le_of_ble_eq_true rfl⟩) rfl rfl (Nat.le_of_ble_eq_true rfl) dX10_cover_36 ⟨Nat.zero_le _, Nat.zero_le _⟩ [1, 0, 2, 3, 4, 5, 6, 7, 8] 9 rfl ⟨rfl, rfl, rfl⟩ (fun H locs hP hD hS => ?_)
          obtain ⟨hP, hD⟩ : va_PD D A ((a_x, .inr (10, [.ref a_at, .ref a_g, .ref a_st, .ref a_x_kept, .int x_keptStates, .ref a_tp, .ref a_rd, .ref a_qu, .ref a_sp, .ref a_wk, .ref a_bx, .ref a_nt, .ref a_nu, .ref a_x_seen])) :: (a_bx, .inr (1, [.ref a_g, .int v3, .int v4, .int v5, .int v6])) :: (a_g, .inr (2, [.ref a_g_rowCuts, .ref a_g_columnCuts, .ref a_g_bandRows, .ref a_g_zoneColumns, .ref a_g_rows, .ref a_g_sheets])) :: (a_g_rowCuts, .inl (ci 0, 5, .inl g_rowCuts)) :: (a_g_columnCuts, .inl (ci 0, 5, .inl g_columnCuts)) :: (a_g_bandRows, .inl (ci 0, 5, .inl g_bandRows)) :: (a_g_zoneColumns, .inl (ci 0, 5, .inl g_zoneColumns)) :: (a_g_rows, .inl (ci 0, 5, .inl g_rows)) :: (a_g_sheets, .inl (ci 0, 5, .inl g_sheets)) :: Rw) H := ⟨hP, hD⟩
          refine lv_aload_n (pc := 39) hx hb dX10_cover_39 rfl (lv_at hl 0 rfl) ?_
          refine va_get (pc := 40) (D := D) (ci := 10) (v := .ref a_bx) (C := RX10) (T := TX10) (N := 14) hx hb hts hinX10 hown hK hP 0 rfl rfl 10 (by decide) w_1 (fun _ h9 => h9) rfl dX10_cover_40 ?_
          refine lv_iload (pc := 43) hx hb dX10_cover_43 (lv_at hl 5 rfl) ?_
          obtain ⟨v7, hm45, hf⟩ := q_b1_e hf
          refine q_cVr (pc := 45) (As := [.int p5]) (rest := []) (v0 := (some (.int v7))) ⟨hx, hb, hml, hown, hts⟩ hK hA hZ hP hD hS hl.1 [1, 2, 5, 6, 7] 9 rfl ⟨rfl, rfl, rfl⟩ (c_Box_sheetsAt l D ci A sa N (Rw) a_bx a_g a_g_rowCuts a_g_columnCuts a_g_bandRows a_g_zoneColumns a_g_rows a_g_sheets v3 v4 v5 v6 g_bandRows g_zoneColumns g_rows p5 v7 hm45) 1 rfl rfl (cwV 1 hts gX10_cover_X1_sheetsAt rfl rfl rfl (by decide +kernel) ⟨Nat.le_of_ble_eq_true rfl, Nat.le_of_ble_eq_true rfl⟩) rfl rfl (Nat.le_of_ble_eq_true rfl) dX10_cover_45 ⟨Nat.zero_le _, Nat.zero_le _⟩ (fun locs hS => ?_)
          refine lv_sipush (pc := 48) (v := 4000) hx hb dX10_cover_48 (by decide) ?_
          refine q_icmp_le (pc := 51) (tgt := 57) hx hb dX10_cover_51 (by decide) rfl hf (fun hf => ?_) (fun hf => ?_)
          · refine lv_iconst (pc := 57) (v := 0) hx hb dX10_cover_57 (by decide) ?_
            obtain ⟨v8, ev8, hf⟩ := q_nm_e hf
            refine q_topi ev8 ?_
            refine lv_istore (pc := 58) (lv' := [(7, .int v8), (0, .ref a_x), (1, .int p1), (2, .int p2), (3, .int p3), (4, .int p4), (5, .int p5), (6, .int p6)]) hx hb dX10_cover_58 hl (by decide) rfl (fun ls hl => ?_)
            refine lv_iconst (pc := 60) (v := 0) hx hb dX10_cover_60 (by decide) ?_
            obtain ⟨v9, ev9, hf⟩ := q_nm_e hf
            refine q_topi ev9 ?_
            refine lv_istore (pc := 61) (lv' := [(8, .int v9), (7, .int v8), (0, .ref a_x), (1, .int p1), (2, .int p2), (3, .int p3), (4, .int p4), (5, .int p5), (6, .int p6)]) hx hb dX10_cover_61 hl (by decide) rfl (fun ls hl => ?_)
            obtain ⟨k63, o63_, ek63, hm63, hk63⟩ := q_s1_k hf
            have JE63 : ∀ (v12 : Int32) (H : Heap) (locs : List Loc) (ls : Array Slot), k63 v12 = some (r, o1, o2, o3, o4) → va_P D vwCl ((a_x, .inr (10, [.ref a_at, .ref a_g, .ref a_st, .ref a_x_kept, .int x_keptStates, .ref a_tp, .ref a_rd, .ref a_qu, .ref a_sp, .ref a_wk, .ref a_bx, .ref a_nt, .ref a_nu, .ref a_x_seen])) :: (a_bx, .inr (1, [.ref a_g, .int v3, .int v4, .int v5, .int v6])) :: (a_g, .inr (2, [.ref a_g_rowCuts, .ref a_g_columnCuts, .ref a_g_bandRows, .ref a_g_zoneColumns, .ref a_g_rows, .ref a_g_sheets])) :: (a_g_rowCuts, .inl (ci 0, 5, .inl g_rowCuts)) :: (a_g_columnCuts, .inl (ci 0, 5, .inl g_columnCuts)) :: (a_g_bandRows, .inl (ci 0, 5, .inl g_bandRows)) :: (a_g_zoneColumns, .inl (ci 0, 5, .inl g_zoneColumns)) :: (a_g_rows, .inl (ci 0, 5, .inl g_rows)) :: (a_g_sheets, .inl (ci 0, 5, .inl g_sheets)) :: Rw) H → va_D A ((a_x, .inr (10, [.ref a_at, .ref a_g, .ref a_st, .ref a_x_kept, .int x_keptStates, .ref a_tp, .ref a_rd, .ref a_qu, .ref a_sp, .ref a_wk, .ref a_bx, .ref a_nt, .ref a_nu, .ref a_x_seen])) :: (a_bx, .inr (1, [.ref a_g, .int v3, .int v4, .int v5, .int v6])) :: (a_g, .inr (2, [.ref a_g_rowCuts, .ref a_g_columnCuts, .ref a_g_bandRows, .ref a_g_zoneColumns, .ref a_g_rows, .ref a_g_sheets])) :: (a_g_rowCuts, .inl (ci 0, 5, .inl g_rowCuts)) :: (a_g_columnCuts, .inl (ci 0, 5, .inl g_columnCuts)) :: (a_g_bandRows, .inl (ci 0, 5, .inl g_bandRows)) :: (a_g_zoneColumns, .inl (ci 0, 5, .inl g_zoneColumns)) :: (a_g_rows, .inl (ci 0, 5, .inl g_rows)) :: (a_g_sheets, .inl (ci 0, 5, .inl g_sheets)) :: Rw) → va_S A s.heap H locs → lv_has ls 10 [(6, .int p6), (7, .int v12)] → W p l e ({ frames := 6, cells := 0, slots := 0, locals := 154 } : Room) s m ([.ref a_x, .int p1, .int p2, .int p3, .int p4, .int p5, .int p6] : List Value).toArray below meth c H locs 0 0 Q (F0 m 135 ls []) := by
              intro v12 H locs ls hf hP hD hS hl
              have hf := (ek63 v12).symm.trans hf
              refine lv_iload (pc := 135) hx hb dX10_cover_135 (lv_at hl 0 rfl) ?_
              refine lv_iconst (pc := 137) (v := (-1)) hx hb dX10_cover_137 (by decide) ?_
              refine q_icmp_ne (pc := 138) (tgt := 146) hx hb dX10_cover_138 (by decide) rfl hf (fun hf => ?_) (fun hf => ?_)
              · refine lv_bipush (pc := 146) (v := (-3)) hx hb dX10_cover_146 (by decide) ?_
                obtain ⟨e90, e91, e92, e93, e94⟩ := q_inj5 (Option.some.inj hf)
                rw [hQ, ← e90, ← e91, ← e92, ← e93, ← e94]
                exact q_iret (pc := 148) hx hb hr hlocks hP hD hS dX10_cover_148
              · refine lv_iload (pc := 141) hx hb dX10_cover_141 (lv_at hl 1 rfl) ?_
                refine lv_goto (pc := 143) (tgt := 148) hx hb dX10_cover_143 (by decide) ?_
                obtain ⟨e90, e91, e92, e93, e94⟩ := q_inj5 (Option.some.inj hf)
                rw [hQ, ← e90, ← e91, ← e92, ← e93, ← e94]
                exact q_iret (pc := 148) hx hb hr hlocks hP hD hS dX10_cover_148
            have LP63 : ∀ (n63 : Nat) (v10 : Int32) (v11 : Int32) (H : Heap) (locs : List Loc) (ls : Array Slot), f_X_cover_L63 N g_bandRows g_columnCuts g_rowCuts g_rows g_sheets g_zoneColumns p5 p6 v3 v4 v5 v6 n63 v10 v11 = some o63_ → va_P D vwCl ((a_x, .inr (10, [.ref a_at, .ref a_g, .ref a_st, .ref a_x_kept, .int x_keptStates, .ref a_tp, .ref a_rd, .ref a_qu, .ref a_sp, .ref a_wk, .ref a_bx, .ref a_nt, .ref a_nu, .ref a_x_seen])) :: (a_bx, .inr (1, [.ref a_g, .int v3, .int v4, .int v5, .int v6])) :: (a_g, .inr (2, [.ref a_g_rowCuts, .ref a_g_columnCuts, .ref a_g_bandRows, .ref a_g_zoneColumns, .ref a_g_rows, .ref a_g_sheets])) :: (a_g_rowCuts, .inl (ci 0, 5, .inl g_rowCuts)) :: (a_g_columnCuts, .inl (ci 0, 5, .inl g_columnCuts)) :: (a_g_bandRows, .inl (ci 0, 5, .inl g_bandRows)) :: (a_g_zoneColumns, .inl (ci 0, 5, .inl g_zoneColumns)) :: (a_g_rows, .inl (ci 0, 5, .inl g_rows)) :: (a_g_sheets, .inl (ci 0, 5, .inl g_sheets)) :: Rw) H → va_D A ((a_x, .inr (10, [.ref a_at, .ref a_g, .ref a_st, .ref a_x_kept, .int x_keptStates, .ref a_tp, .ref a_rd, .ref a_qu, .ref a_sp, .ref a_wk, .ref a_bx, .ref a_nt, .ref a_nu, .ref a_x_seen])) :: (a_bx, .inr (1, [.ref a_g, .int v3, .int v4, .int v5, .int v6])) :: (a_g, .inr (2, [.ref a_g_rowCuts, .ref a_g_columnCuts, .ref a_g_bandRows, .ref a_g_zoneColumns, .ref a_g_rows, .ref a_g_sheets])) :: (a_g_rowCuts, .inl (ci 0, 5, .inl g_rowCuts)) :: (a_g_columnCuts, .inl (ci 0, 5, .inl g_columnCuts)) :: (a_g_bandRows, .inl (ci 0, 5, .inl g_bandRows)) :: (a_g_zoneColumns, .inl (ci 0, 5, .inl g_zoneColumns)) :: (a_g_rows, .inl (ci 0, 5, .inl g_rows)) :: (a_g_sheets, .inl (ci 0, 5, .inl g_sheets)) :: Rw) → va_S A s.heap H locs → lv_has ls 10 [(0, .ref a_x), (5, .int p5), (6, .int p6), (7, .int v10), (8, .int v11)] → W p l e ({ frames := 6, cells := 0, slots := 0, locals := 154 } : Room) s m ([.ref a_x, .int p1, .int p2, .int p3, .int p4, .int p5, .int p6] : List Value).toArray below meth c H locs 0 0 Q (F0 m 63 ls []) := by
              intro n63
              induction n63 with
              | zero => intro v10 v11 H locs ls hf; rw [f_X_cover_L63] at hf; cases hf
              | succ n63 ih63 =>
                intro v10 v11 H locs ls hf hP hD hS hl
                rw [f_X_cover_L63] at hf
                refine lv_iload (pc := 63) hx hb dX10_cover_63 (lv_at hl 4 rfl) ?_
                refine lv_iload (pc := 65) hx hb dX10_cover_65 (lv_at hl 1 rfl) ?_
                refine q_icmp_gt (pc := 67) (tgt := 135) hx hb dX10_cover_67 (by decide) rfl hf (fun hf => ?_) (fun hf => ?_)
                · obtain rfl := Option.some.inj hf
                  exact JE63 v10 _ _ _ hk63 hP hD hS (lv_sub hl [2, 3] rfl)
                · refine lv_aload_n (pc := 70) hx hb dX10_cover_70 rfl (lv_at hl 0 rfl) ?_
                  refine va_get (pc := 71) (D := D) (ci := 10) (v := .ref a_bx) (C := RX10) (T := TX10) (N := 14) hx hb hts hinX10 hown hK hP 0 rfl rfl 10 (by decide) w_1 (fun _ h9 => h9) rfl dX10_cover_71 ?_
                  refine lv_iload (pc := 74) hx hb dX10_cover_74 (lv_at hl 4 rfl) ?_
                  refine lv_iload (pc := 76) hx hb dX10_cover_76 (lv_at hl 1 rfl) ?_
                  obtain ⟨v13, hm78, hf⟩ := q_b1_e hf
                  refine q_cVr (pc := 78) (As := [.int v11, .int p5]) (rest := []) (v0 := (some (.int v13))) ⟨hx, hb, hml, hown, hts⟩ hK hA hZ hP hD hS hl.1 [1, 2, 3, 4, 5, 6, 7] 9 rfl ⟨rfl, rfl, rfl⟩ (c_Box_coverAt l D ci A sa N (Rw) a_bx a_g a_g_rowCuts a_g_columnCuts a_g_bandRows a_g_zoneColumns a_g_rows a_g_sheets v3 v4 v5 v6 g_rowCuts g_columnCuts g_bandRows g_zoneColumns g_rows v11 p5 v13 hm78) 1 rfl rfl (cwV 2 hts gX10_cover_X1_coverAt rfl rfl rfl (by decide +kernel) ⟨Nat.le_of_ble_eq_true rfl, Nat.le_of_ble_eq_true rfl⟩) rfl rfl (Nat.le_of_ble_eq_true rfl) dX10_cover_78 ⟨Nat.zero_le _, Nat.zero_le _⟩ (fun locs hS => ?_)
                  refine lv_istore (pc := 81) (lv' := [(9, .int v13), (0, .ref a_x), (5, .int p5), (6, .int p6), (7, .int v10), (8, .int v11)]) hx hb dX10_cover_81 hl (by decide) rfl (fun ls hl => ?_)
                  refine lv_iload (pc := 83) hx hb dX10_cover_83 (lv_at hl 3 rfl) ?_
                  obtain ⟨k122, ek122, hf⟩ := q_j0_e hf
                  have J122 : ∀  (H : Heap) (locs : List Loc) (ls : Array Slot), k122 = some o63_ → va_P D vwCl ((a_x, .inr (10, [.ref a_at, .ref a_g, .ref a_st, .ref a_x_kept, .int x_keptStates, .ref a_tp, .ref a_rd, .ref a_qu, .ref a_sp, .ref a_wk, .ref a_bx, .ref a_nt, .ref a_nu, .ref a_x_seen])) :: (a_bx, .inr (1, [.ref a_g, .int v3, .int v4, .int v5, .int v6])) :: (a_g, .inr (2, [.ref a_g_rowCuts, .ref a_g_columnCuts, .ref a_g_bandRows, .ref a_g_zoneColumns, .ref a_g_rows, .ref a_g_sheets])) :: (a_g_rowCuts, .inl (ci 0, 5, .inl g_rowCuts)) :: (a_g_columnCuts, .inl (ci 0, 5, .inl g_columnCuts)) :: (a_g_bandRows, .inl (ci 0, 5, .inl g_bandRows)) :: (a_g_zoneColumns, .inl (ci 0, 5, .inl g_zoneColumns)) :: (a_g_rows, .inl (ci 0, 5, .inl g_rows)) :: (a_g_sheets, .inl (ci 0, 5, .inl g_sheets)) :: Rw) H → va_D A ((a_x, .inr (10, [.ref a_at, .ref a_g, .ref a_st, .ref a_x_kept, .int x_keptStates, .ref a_tp, .ref a_rd, .ref a_qu, .ref a_sp, .ref a_wk, .ref a_bx, .ref a_nt, .ref a_nu, .ref a_x_seen])) :: (a_bx, .inr (1, [.ref a_g, .int v3, .int v4, .int v5, .int v6])) :: (a_g, .inr (2, [.ref a_g_rowCuts, .ref a_g_columnCuts, .ref a_g_bandRows, .ref a_g_zoneColumns, .ref a_g_rows, .ref a_g_sheets])) :: (a_g_rowCuts, .inl (ci 0, 5, .inl g_rowCuts)) :: (a_g_columnCuts, .inl (ci 0, 5, .inl g_columnCuts)) :: (a_g_bandRows, .inl (ci 0, 5, .inl g_bandRows)) :: (a_g_zoneColumns, .inl (ci 0, 5, .inl g_zoneColumns)) :: (a_g_rows, .inl (ci 0, 5, .inl g_rows)) :: (a_g_sheets, .inl (ci 0, 5, .inl g_sheets)) :: Rw) → va_S A s.heap H locs → lv_has ls 10 [(0, .ref a_x), (5, .int p5), (6, .int p6), (7, .int v10), (8, .int v11), (9, .int v13)] → W p l e ({ frames := 6, cells := 0, slots := 0, locals := 154 } : Room) s m ([.ref a_x, .int p1, .int p2, .int p3, .int p4, .int p5, .int p6] : List Value).toArray below meth c H locs 0 0 Q (F0 m 122 ls []) := by
                    intro  H locs ls hf hP hD hS hl
                    have hf := (ek122).symm.trans hf
                    refine lv_iload (pc := 122) hx hb dX10_cover_122 (lv_at hl 3 rfl) ?_
                    refine lv_iload (pc := 124) hx hb dX10_cover_124 (lv_at hl 5 rfl) ?_
                    refine lv_iadd (pc := 126) hx hb dX10_cover_126 ?_
                    obtain ⟨v14, ev14, hf⟩ := q_nm_e hf
                    refine q_topi ev14 ?_
                    refine lv_istore (pc := 127) (lv' := [(7, .int v14), (0, .ref a_x), (5, .int p5), (6, .int p6), (8, .int v11), (9, .int v13)]) hx hb dX10_cover_127 hl (by decide) rfl (fun ls hl => ?_)
                    obtain ⟨v15, ev15, hf⟩ := q_nm_e hf
                    refine lv_iinc (pc := 129) (v := v15) (lv' := [(8, .int v15), (7, .int v14), (0, .ref a_x), (5, .int p5), (6, .int p6), (9, .int v13)]) hx hb dX10_cover_129 hl (k := 4) rfl (by rw [ev15]; rfl) (by decide) rfl (fun ls hl => ?_)
                    refine lv_goto (pc := 132) (tgt := 63) hx hb dX10_cover_132 (by decide) ?_
                    exact ih63 v14 v15 _ _ _ hf hP hD hS (lv_sub hl [2, 3, 4, 1, 0] rfl)
                  refine q_if_lt (pc := 85) (tgt := 122) hx hb dX10_cover_85 (by decide) rfl hf (fun hf => ?_) (fun hf => ?_)
                  · exact J122  _ _ _ hf hP hD hS (lv_sub hl [1, 2, 3, 4, 5, 0] rfl)
                  · refine lv_iload (pc := 88) hx hb dX10_cover_88 (lv_at hl 3 rfl) ?_
                    refine lv_iload (pc := 90) hx hb dX10_cover_90 (lv_at hl 4 rfl) ?_
                    refine lv_isub (pc := 92) hx hb dX10_cover_92 ?_
                    refine lv_iload (pc := 93) hx hb dX10_cover_93 (lv_at hl 0 rfl) ?_
                    refine q_icmp_ge (pc := 95) (tgt := 122) hx hb dX10_cover_95 (by decide) rfl hf (fun hf => ?_) (fun hf => ?_)
                    · exact J122  _ _ _ hf hP hD hS (lv_sub hl [1, 2, 3, 4, 5, 0] rfl)
                    · refine lv_iload (pc := 98) hx hb dX10_cover_98 (lv_at hl 5 rfl) ?_
                      refine lv_ldcw (pc := 100) (v := 100000000) hx hb hown w_2 dX10_cover_100 ?_
                      refine lv_imul (pc := 103) hx hb dX10_cover_103 ?_
                      refine lv_aload_n (pc := 104) hx hb dX10_cover_104 rfl (lv_at hl 1 rfl) ?_
                      refine va_get (pc := 105) (D := D) (ci := 10) (v := .ref a_bx) (C := RX10) (T := TX10) (N := 14) hx hb hts hinX10 hown hK hP 0 rfl rfl 10 (by decide) w_1 (fun _ h9 => h9) rfl dX10_cover_105 ?_
                      refine lv_iload (pc := 108) hx hb dX10_cover_108 (lv_at hl 5 rfl) ?_
                      refine lv_iload (pc := 110) hx hb dX10_cover_110 (lv_at hl 2 rfl) ?_
                      refine lv_iload (pc := 112) hx hb dX10_cover_112 (lv_at hl 3 rfl) ?_
                      refine lv_iload (pc := 114) hx hb dX10_cover_114 (lv_at hl 4 rfl) ?_
                      refine lv_isub (pc := 116) hx hb dX10_cover_116 ?_
                      obtain ⟨v16, hm117, hf⟩ := q_b1_e hf
                      refine q_cVr (pc := 117) (As := [.int v11, .int p5, .int (p6 - v10)]) (rest := [.int (v11 * 100000000)]) (v0 := (some (.int v16))) ⟨hx, hb, hml, hown, hts⟩ hK hA hZ hP hD hS hl.1 [1, 2, 3, 4, 5, 6, 7, 8] 9 rfl ⟨rfl, rfl, rfl⟩ (c_Box_coverSheet l D ci A sa N (Rw) a_bx a_g a_g_rowCuts a_g_columnCuts a_g_bandRows a_g_zoneColumns a_g_rows a_g_sheets v3 v4 v5 v6 g_rowCuts g_columnCuts g_bandRows g_zoneColumns g_rows g_sheets v11 p5 (p6 - v10) v16 hm117) 1 rfl rfl (cwV 3 hts gX10_cover_X1_coverSheet rfl rfl rfl (by decide +kernel) ⟨Nat.le_of_ble_eq_true rfl, Nat.le_of_ble_eq_true rfl⟩) rfl rfl (Nat.le_of_ble_eq_true rfl) dX10_cover_117 ⟨Nat.zero_le _, Nat.zero_le _⟩ (fun locs hS => ?_)
                      refine lv_iadd (pc := 120) hx hb dX10_cover_120 ?_
                      obtain rfl := Option.some.inj hf
                      have hk63 : ((((v11 * 100000000) + v16), v3, v4, v5, v6) : Int32 × Int32 × Int32 × Int32 × Int32) = (r, o1, o2, o3, o4) := hk63
                      obtain ⟨e90, e91, e92, e93, e94⟩ := q_inj5 (hk63)
                      rw [hQ, ← e90, ← e91, ← e92, ← e93, ← e94]
                      exact q_iret (pc := 121) hx hb hr hlocks hP hD hS dX10_cover_121
            exact LP63 N v8 v9 _ _ _ hm63 hP hD hS (lv_sub hl [2, 7, 8, 1, 0] rfl)
          · refine lv_bipush (pc := 54) (v := (-2)) hx hb dX10_cover_54 (by decide) ?_
            obtain ⟨e90, e91, e92, e93, e94⟩ := q_inj5 (Option.some.inj hf)
            rw [hQ, ← e90, ← e91, ← e92, ← e93, ← e94]
            exact q_iret (pc := 56) hx hb hr hlocks hP hD hS dX10_cover_56
        · refine lv_iconst (pc := 25) (v := (-1)) hx hb dX10_cover_25 (by decide) ?_
          obtain ⟨e90, e91, e92, e93, e94⟩ := q_inj5 (Option.some.inj hf)
          rw [hQ, ← e90, ← e91, ← e92, ← e93, ← e94]
          exact q_iret (pc := 26) hx hb hr hlocks hP hD hS dX10_cover_26
  exact hgo _ _ rfl hP hS
/-! X10_cut -/
set_option maxRecDepth 100000 in
set_option maxHeartbeats 4000000 in
theorem c_X_cut (l : Launch) (D : va_G) (ci : Nat → ClassId) (A : Nat → Prop) (sa : Nat → Nat) (N : Nat) (Rw : va_W) (a_x : Nat) (a_at : Nat) (a_g : Nat) (a_st : Nat) (a_x_kept : Nat) (a_tp : Nat) (a_rd : Nat) (a_qu : Nat) (a_sp : Nat) (a_wk : Nat) (a_bx : Nat) (a_nt : Nat) (a_nu : Nat) (a_x_seen : Nat) (a_st_levels : Nat) (a_st_keys : Nat) (a_st_years : Nat) (a_st_keysThere : Nat) (a_g_rowCuts : Nat) (a_g_columnCuts : Nat) (a_g_bandRows : Nat) (a_g_zoneColumns : Nat) (a_g_rows : Nat) (a_g_sheets : Nat) (x_keptStates : Int32) (st_size : Int32) (st_shownBy : Int32) (st_deepestShown : Int32) (st_latestShown : Int32) (g_rowCuts : Nat → Int32) (g_columnCuts : Nat → Int32) (g_bandRows : Nat → Int32) (g_zoneColumns : Nat → Int32) (g_rows : Nat → Int32) (g_sheets : Nat → Int32) (p1 : Int32) (p2 : Int32) (p3 : Int32) (r : Int32) (o1 : Nat → Int32) (o2 : Nat → Int32) (o3 : Nat → Int32) (o4 : Nat → Int32) (o5 : Nat → Int32) (o6 : Nat → Int32) (hf : f_X_cut N st_size g_rowCuts g_columnCuts g_bandRows g_zoneColumns g_rows g_sheets p1 p2 p3 = some (r, o1, o2, o3, o4, o5, o6)) : Met l yX10_cut wsX10_cut ({ frames := 2, cells := 0, slots := 0, locals := 46 }) (va_Pc [.ref a_x, .int p1, .int p2, .int p3] (q_N D ci A sa ((a_x, .inr (10, [.ref a_at, .ref a_g, .ref a_st, .ref a_x_kept, .int x_keptStates, .ref a_tp, .ref a_rd, .ref a_qu, .ref a_sp, .ref a_wk, .ref a_bx, .ref a_nt, .ref a_nu, .ref a_x_seen])) :: (a_st, .inr (7, [.ref a_g, .ref a_st_levels, .ref a_st_keys, .ref a_st_years, .ref a_st_keysThere, .int st_size, .int st_shownBy, .int st_deepestShown, .int st_latestShown])) :: (a_g, .inr (2, [.ref a_g_rowCuts, .ref a_g_columnCuts, .ref a_g_bandRows, .ref a_g_zoneColumns, .ref a_g_rows, .ref a_g_sheets])) :: (a_g_rowCuts, .inl (ci 0, 5, .inl g_rowCuts)) :: (a_g_columnCuts, .inl (ci 0, 5, .inl g_columnCuts)) :: (a_g_bandRows, .inl (ci 0, 5, .inl g_bandRows)) :: (a_g_zoneColumns, .inl (ci 0, 5, .inl g_zoneColumns)) :: (a_g_rows, .inl (ci 0, 5, .inl g_rows)) :: (a_g_sheets, .inl (ci 0, 5, .inl g_sheets)) :: Rw))) (q_Q (some (.int r)) (q_O D A ((a_x, .inr (10, [.ref a_at, .ref a_g, .ref a_st, .ref a_x_kept, .int x_keptStates, .ref a_tp, .ref a_rd, .ref a_qu, .ref a_sp, .ref a_wk, .ref a_bx, .ref a_nt, .ref a_nu, .ref a_x_seen])) :: (a_st, .inr (7, [.ref a_g, .ref a_st_levels, .ref a_st_keys, .ref a_st_years, .ref a_st_keysThere, .int st_size, .int st_shownBy, .int st_deepestShown, .int st_latestShown])) :: (a_g, .inr (2, [.ref a_g_rowCuts, .ref a_g_columnCuts, .ref a_g_bandRows, .ref a_g_zoneColumns, .ref a_g_rows, .ref a_g_sheets])) :: (a_g_rowCuts, .inl (ci 0, 5, .inl o1)) :: (a_g_columnCuts, .inl (ci 0, 5, .inl o2)) :: (a_g_bandRows, .inl (ci 0, 5, .inl o3)) :: (a_g_zoneColumns, .inl (ci 0, 5, .inl o4)) :: (a_g_rows, .inl (ci 0, 5, .inl o5)) :: (a_g_sheets, .inl (ci 0, 5, .inl o6)) :: Rw)) A) 0 0 A := by
  refine q_ofW (cc := cX10_cut) (maxL := 4) (ret := (some .int)) [.ref a_x, .int p1, .int p2, .int p3] (plainFor_of_name (by decide)) rfl (Nat.le_of_ble_eq_true rfl) ?_
  intro p e s m below meth c ls Q hQ hx hb hml hr hts hown hlocks hK hA hZ hP hD hS hl
  have hl : lv_has ls 4 [(0, .ref a_x), (1, .int p1), (2, .int p2), (3, .int p3)] := hl
  have hown : s.vm.findClass RX10 = some m.cls := hown
  have hinX10 : ∀ w ∈ wsX100, w ∈ wsX10_cut := fun _ h => List.mem_cons_of_mem _ (inWX100 _ h)
  have hinX2 : ∀ w ∈ wsX20, w ∈ wsX10_cut := fun _ h => List.mem_cons_of_mem _ (inWX20 _ h)
  have hinX7 : ∀ w ∈ wsX70, w ∈ wsX10_cut := fun _ h => List.mem_cons_of_mem _ (inWX70 _ h)
  have w_1 := hts (Cond.fieldLink RX10 25 "SheetNames" "pieces" "LSheetNames$Store;") (List.mem_cons_of_mem _ t_w892)
  have w_2 := hts (Cond.fieldLink RX10 20 "SheetNames" "grid" "LSheetNames$Grid;") (List.mem_cons_of_mem _ t_w876)
  have w_3 := hts (Cond.constantLong RX10 120 (20000000)) (List.mem_cons_of_mem _ t_w895)
  have wn_0 : (Cond.fieldLinkNest "SheetNames" 109 "SheetNames$Store" "size" "I" "SheetNames").before ([.ref a_x, .int p1, .int p2, .int p3] : List Value).toArray s = true := (hZ.2.2.2.2.2.2.2.2.2.1 _ (List.mem_of_getElem? (i := 0) rfl)).use rfl
  have wn_1 : (Cond.fieldLinkNest "SheetNames" 126 "SheetNames$Grid" "sheets" "[I" "SheetNames").before ([.ref a_x, .int p1, .int p2, .int p3] : List Value).toArray s = true := (hZ.2.2.2.2.2.2.2.2.2.1 _ (List.mem_of_getElem? (i := 1) rfl)).use rfl
  unfold f_X_cut at hf
  have hgo : ∀ (H : Heap) (locs : List Loc), H = s.heap → va_P D vwCl ((a_x, .inr (10, [.ref a_at, .ref a_g, .ref a_st, .ref a_x_kept, .int x_keptStates, .ref a_tp, .ref a_rd, .ref a_qu, .ref a_sp, .ref a_wk, .ref a_bx, .ref a_nt, .ref a_nu, .ref a_x_seen])) :: (a_st, .inr (7, [.ref a_g, .ref a_st_levels, .ref a_st_keys, .ref a_st_years, .ref a_st_keysThere, .int st_size, .int st_shownBy, .int st_deepestShown, .int st_latestShown])) :: (a_g, .inr (2, [.ref a_g_rowCuts, .ref a_g_columnCuts, .ref a_g_bandRows, .ref a_g_zoneColumns, .ref a_g_rows, .ref a_g_sheets])) :: (a_g_rowCuts, .inl (ci 0, 5, .inl g_rowCuts)) :: (a_g_columnCuts, .inl (ci 0, 5, .inl g_columnCuts)) :: (a_g_bandRows, .inl (ci 0, 5, .inl g_bandRows)) :: (a_g_zoneColumns, .inl (ci 0, 5, .inl g_zoneColumns)) :: (a_g_rows, .inl (ci 0, 5, .inl g_rows)) :: (a_g_sheets, .inl (ci 0, 5, .inl g_sheets)) :: Rw) H → va_S A s.heap H locs → W p l e ({ frames := 2, cells := 0, slots := 0, locals := 46 } : Room) s m ([.ref a_x, .int p1, .int p2, .int p3] : List Value).toArray below meth c H locs 0 0 Q (F0 m 0 ls []) := by
    intro H locs hH hP hS
    refine lv_iload_n (pc := 0) hx hb dX10_cut_0 rfl (lv_at hl 1 rfl) ?_
    refine lv_iconst (pc := 1) (v := 1) hx hb dX10_cut_1 (by decide) ?_
    refine q_icmp_lt (pc := 2) (tgt := 30) hx hb dX10_cut_2 (by decide) rfl hf (fun hf => ?_) (fun hf => ?_)
    · refine lv_iconst (pc := 30) (v := (-1)) hx hb dX10_cut_30 (by decide) ?_
      obtain ⟨e90, e91, e92, e93, e94, e95, e96⟩ := q_inj7 (Option.some.inj hf)
      rw [hQ, ← e90, ← e91, ← e92, ← e93, ← e94, ← e95, ← e96]
      exact q_iret (pc := 31) hx hb hr hlocks hP hD hS dX10_cut_31
    · refine lv_iload_n (pc := 5) hx hb dX10_cut_5 rfl (lv_at hl 1 rfl) ?_
      refine lv_iconst (pc := 6) (v := 4) hx hb dX10_cut_6 (by decide) ?_
      refine q_icmp_gt (pc := 7) (tgt := 30) hx hb dX10_cut_7 (by decide) rfl hf (fun hf => ?_) (fun hf => ?_)
      · refine lv_iconst (pc := 30) (v := (-1)) hx hb dX10_cut_30 (by decide) ?_
        obtain ⟨e90, e91, e92, e93, e94, e95, e96⟩ := q_inj7 (Option.some.inj hf)
        rw [hQ, ← e90, ← e91, ← e92, ← e93, ← e94, ← e95, ← e96]
        exact q_iret (pc := 31) hx hb hr hlocks hP hD hS dX10_cut_31
      · refine lv_iload_n (pc := 10) hx hb dX10_cut_10 rfl (lv_at hl 2 rfl) ?_
        refine lv_iconst (pc := 11) (v := 1) hx hb dX10_cut_11 (by decide) ?_
        refine lv_bipush (pc := 12) (v := 6) hx hb dX10_cut_12 (by decide) ?_
        obtain ⟨v1, hm14, hf⟩ := q_b1_e hf
        refine q_cSr (pc := 14) (As := [.int p2, .int 1, .int 6]) (rest := []) (v0 := (some (.int v1))) ⟨hx, hb, hml, hown, hts⟩ hK hA hZ hP hD hS hl.1 [] 9 rfl ⟨rfl, rfl, rfl⟩ (c_X_isFrom l D ci A sa N (Rw) p2 1 6 v1 hm14) (va_cwS 3 hts gX10_cut_X10_isFrom rfl rfl rfl (by decide +kernel) ⟨Nat.le_of_ble_eq_true rfl, Nat.le_of_ble_eq_true rfl⟩) rfl rfl (Nat.le_of_ble_eq_true rfl) dX10_cut_14 ⟨Nat.zero_le _, Nat.zero_le _⟩ (fun locs hS => ?_)
        refine q_if_eq (pc := 17) (tgt := 30) hx hb dX10_cut_17 (by decide) rfl hf (fun hf => ?_) (fun hf => ?_)
        · refine lv_iconst (pc := 30) (v := (-1)) hx hb dX10_cut_30 (by decide) ?_
          obtain ⟨e90, e91, e92, e93, e94, e95, e96⟩ := q_inj7 (Option.some.inj hf)
          rw [hQ, ← e90, ← e91, ← e92, ← e93, ← e94, ← e95, ← e96]
          exact q_iret (pc := 31) hx hb hr hlocks hP hD hS dX10_cut_31
        · refine lv_iload_n (pc := 20) hx hb dX10_cut_20 rfl (lv_at hl 3 rfl) ?_
          refine lv_iconst (pc := 21) (v := 1) hx hb dX10_cut_21 (by decide) ?_
          refine lv_bipush (pc := 22) (v := 6) hx hb dX10_cut_22 (by decide) ?_
          obtain ⟨v2, hm24, hf⟩ := q_b1_e hf
          refine q_cSr (pc := 24) (As := [.int p3, .int 1, .int 6]) (rest := []) (v0 := (some (.int v2))) ⟨hx, hb, hml, hown, hts⟩ hK hA hZ hP hD hS hl.1 [] 9 rfl ⟨rfl, rfl, rfl⟩ (c_X_isFrom l D ci A sa N (Rw) p3 1 6 v2 hm24) (va_cwS 3 hts gX10_cut_X10_isFrom rfl rfl rfl (by decide +kernel) ⟨Nat.le_of_ble_eq_true rfl, Nat.le_of_ble_eq_true rfl⟩) rfl rfl (Nat.le_of_ble_eq_true rfl) dX10_cut_24 ⟨Nat.zero_le _, Nat.zero_le _⟩ (fun locs hS => ?_)
          refine q_if_ne (pc := 27) (tgt := 32) hx hb dX10_cut_27 (by decide) rfl hf (fun hf => ?_) (fun hf => ?_)
          · refine lv_aload_n (pc := 32) hx hb dX10_cut_32 rfl (lv_at hl 0 rfl) ?_
            refine va_get (pc := 33) (D := D) (ci := 10) (v := .ref a_st) (C := RX10) (T := TX10) (N := 14) hx hb hts hinX10 hown hK hP 0 rfl rfl 2 (by decide) w_1 (fun _ h9 => h9) rfl dX10_cut_33 ?_
            refine va_getN (pc := 36) (D := D) (ci := 7) (v := .int st_size) (C := RX7) (T := TX7) (N := 9) hx hb hts hinX7 hown hK hP 1 rfl rfl 5 (by decide) wn_0 (fun _ h9 => h9) rfl dX10_cut_36 ?_
            refine q_if_le (pc := 39) (tgt := 45) hx hb dX10_cut_39 (by decide) rfl hf (fun hf => ?_) (fun hf => ?_)
            · refine lv_aload_n (pc := 45) hx hb dX10_cut_45 rfl (lv_at hl 0 rfl) ?_
              refine va_get (pc := 46) (D := D) (ci := 10) (v := .ref a_g) (C := RX10) (T := TX10) (N := 14) hx hb hts hinX10 hown hK hP 0 rfl rfl 1 (by decide) w_2 (fun _ h9 => h9) rfl dX10_cut_46 ?_
              refine lv_iload_n (pc := 49) hx hb dX10_cut_49 rfl (lv_at hl 1 rfl) ?_
              refine lv_iload_n (pc := 50) hx hb dX10_cut_50 rfl (lv_at hl 2 rfl) ?_
              refine lv_iload_n (pc := 51) hx hb dX10_cut_51 rfl (lv_at hl 3 rfl) ?_
              obtain ⟨v3, hm52, hf⟩ := q_b1_e hf
              refine q_cVr (pc := 52) (As := [.int p1, .int p2, .int p3]) (rest := []) (v0 := (some (.long v3))) ⟨hx, hb, hml, hown, hts⟩ hK hA hZ hP hD hS hl.1 [2, 3, 4] 9 rfl ⟨rfl, rfl, rfl⟩ (c_Grid_deepestSheetsIf l D ci A sa N (Rw) a_g a_g_rowCuts a_g_columnCuts a_g_bandRows a_g_zoneColumns a_g_rows a_g_sheets g_rowCuts g_columnCuts p1 p2 p3 v3 hm52) 2 rfl rfl (cwV 3 hts gX10_cut_X2_deepestSheetsIf rfl rfl rfl (by decide +kernel) ⟨Nat.le_of_ble_eq_true rfl, Nat.le_of_ble_eq_true rfl⟩) rfl rfl (Nat.le_of_ble_eq_true rfl) dX10_cut_52 ⟨Nat.zero_le _, Nat.zero_le _⟩ (fun locs hS => ?_)
              refine lv_ldc2 (pc := 55) (v := 20000000) hx hb hown w_3 dX10_cut_55 ?_
              refine W.lcmp (pc := 58) hx hb dX10_cut_58 ?_
              refine q_if_le (pc := 59) (tgt := 65) hx hb dX10_cut_59 (by decide) rfl hf (fun hf => ?_) (fun hf => ?_)
              · refine lv_aload_n (pc := 65) hx hb dX10_cut_65 rfl (lv_at hl 0 rfl) ?_
                refine va_get (pc := 66) (D := D) (ci := 10) (v := .ref a_g) (C := RX10) (T := TX10) (N := 14) hx hb hts hinX10 hown hK hP 0 rfl rfl 1 (by decide) w_2 (fun _ h9 => h9) rfl dX10_cut_66 ?_
                refine lv_iload_n (pc := 69) hx hb dX10_cut_69 rfl (lv_at hl 1 rfl) ?_
                refine lv_iload_n (pc := 70) hx hb dX10_cut_70 rfl (lv_at hl 2 rfl) ?_
                refine lv_iload_n (pc := 71) hx hb dX10_cut_71 rfl (lv_at hl 3 rfl) ?_
                obtain ⟨f4, f5, f6, f7, f8, f9, hm72, hf⟩ := q_b6_e hf
                refine q_cV (pc := 72) (As := [.int p1, .int p2, .int p3]) (rest := []) (v0 := none) ⟨hx, hb, hml, hown, hts⟩ hK hA hZ hP hD hS hl.1 [2, 3, 4, 5, 6, 7, 8, 0, 1] 9 rfl ⟨rfl, rfl, rfl⟩ (c_Grid_setCuts l D ci A sa N ((a_x, .inr (10, [.ref a_at, .ref a_g, .ref a_st, .ref a_x_kept, .int x_keptStates, .ref a_tp, .ref a_rd, .ref a_qu, .ref a_sp, .ref a_wk, .ref a_bx, .ref a_nt, .ref a_nu, .ref a_x_seen])) :: (a_st, .inr (7, [.ref a_g, .ref a_st_levels, .ref a_st_keys, .ref a_st_years, .ref a_st_keysThere, .int st_size, .int st_shownBy, .int st_deepestShown, .int st_latestShown])) :: Rw) a_g a_g_rowCuts a_g_columnCuts a_g_bandRows a_g_zoneColumns a_g_rows a_g_sheets g_rowCuts g_columnCuts g_bandRows g_zoneColumns g_rows g_sheets p1 p2 p3 f4 f5 f6 f7 f8 f9 hm72) 2 rfl rfl (cwV 3 hts gX10_cut_X2_setCuts rfl rfl rfl (by decide +kernel) ⟨Nat.le_of_ble_eq_true rfl, Nat.le_of_ble_eq_true rfl⟩) rfl rfl (Nat.le_of_ble_eq_true rfl) dX10_cut_72 ⟨Nat.zero_le _, Nat.zero_le _⟩ [7, 8, 0, 1, 2, 3, 4, 5, 6] 9 rfl ⟨rfl, rfl, rfl⟩ (fun H locs hP hD hS => ?_)
                obtain ⟨hP, hD⟩ : va_PD D A ((a_x, .inr (10, [.ref a_at, .ref a_g, .ref a_st, .ref a_x_kept, .int x_keptStates, .ref a_tp, .ref a_rd, .ref a_qu, .ref a_sp, .ref a_wk, .ref a_bx, .ref a_nt, .ref a_nu, .ref a_x_seen])) :: (a_st, .inr (7, [.ref a_g, .ref a_st_levels, .ref a_st_keys, .ref a_st_years, .ref a_st_keysThere, .int st_size, .int st_shownBy, .int st_deepestShown, .int st_latestShown])) :: (a_g, .inr (2, [.ref a_g_rowCuts, .ref a_g_columnCuts, .ref a_g_bandRows, .ref a_g_zoneColumns, .ref a_g_rows, .ref a_g_sheets])) :: (a_g_rowCuts, .inl (ci 0, 5, .inl f4)) :: (a_g_columnCuts, .inl (ci 0, 5, .inl f5)) :: (a_g_bandRows, .inl (ci 0, 5, .inl f6)) :: (a_g_zoneColumns, .inl (ci 0, 5, .inl f7)) :: (a_g_rows, .inl (ci 0, 5, .inl f8)) :: (a_g_sheets, .inl (ci 0, 5, .inl f9)) :: Rw) H := ⟨hP, hD⟩
                refine lv_aload_n (pc := 75) hx hb dX10_cut_75 rfl (lv_at hl 0 rfl) ?_
                refine va_get (pc := 76) (D := D) (ci := 10) (v := .ref a_g) (C := RX10) (T := TX10) (N := 14) hx hb hts hinX10 hown hK hP 0 rfl rfl 1 (by decide) w_2 (fun _ h9 => h9) rfl dX10_cut_76 ?_
                refine va_getN (pc := 79) (D := D) (ci := 2) (v := .ref a_g_sheets) (C := RX2) (T := TX2) (N := 6) hx hb hts hinX2 hown hK hP 2 rfl rfl 5 (by decide) wn_1 (fun _ h9 => h9) rfl dX10_cut_79 ?_
                refine lv_iload_n (pc := 82) hx hb dX10_cut_82 rfl (lv_at hl 1 rfl) ?_
                refine q_iald (pc := 83) hx hb hK hP 8 0 hf rfl rfl dX10_cut_83 (fun v10 hf => ?_)
                obtain ⟨e90, e91, e92, e93, e94, e95, e96⟩ := q_inj7 (Option.some.inj hf)
                rw [hQ, ← e90, ← e91, ← e92, ← e93, ← e94, ← e95, ← e96]
                exact q_iret (pc := 84) hx hb hr hlocks hP hD hS dX10_cut_84
              · refine lv_bipush (pc := 62) (v := (-3)) hx hb dX10_cut_62 (by decide) ?_
                obtain ⟨e90, e91, e92, e93, e94, e95, e96⟩ := q_inj7 (Option.some.inj hf)
                rw [hQ, ← e90, ← e91, ← e92, ← e93, ← e94, ← e95, ← e96]
                exact q_iret (pc := 64) hx hb hr hlocks hP hD hS dX10_cut_64
            · refine lv_bipush (pc := 42) (v := (-2)) hx hb dX10_cut_42 (by decide) ?_
              obtain ⟨e90, e91, e92, e93, e94, e95, e96⟩ := q_inj7 (Option.some.inj hf)
              rw [hQ, ← e90, ← e91, ← e92, ← e93, ← e94, ← e95, ← e96]
              exact q_iret (pc := 44) hx hb hr hlocks hP hD hS dX10_cut_44
          · refine lv_iconst (pc := 30) (v := (-1)) hx hb dX10_cut_30 (by decide) ?_
            obtain ⟨e90, e91, e92, e93, e94, e95, e96⟩ := q_inj7 (Option.some.inj hf)
            rw [hQ, ← e90, ← e91, ← e92, ← e93, ← e94, ← e95, ← e96]
            exact q_iret (pc := 31) hx hb hr hlocks hP hD hS dX10_cut_31
  exact hgo _ _ rfl hP hS
/-! X10_nextDraw -/
set_option maxRecDepth 100000 in
set_option maxHeartbeats 4000000 in
theorem c_X_nextDraw (l : Launch) (D : va_G) (ci : Nat → ClassId) (A : Nat → Prop) (sa : Nat → Nat) (N : Nat) (Rw : va_W) (p1 : Int32) (r : Int32) (hf : f_X_nextDraw p1 = some r) : Met l yX10_nextDraw wsX10_nextDraw ({ frames := 0, cells := 0, slots := 0, locals := 0 }) (va_Pc [.int p1] (q_N D ci A sa (Rw))) (q_R (some (.int r))) 0 0 A := by
  refine q_ofW (cc := cX10_nextDraw) (maxL := 1) (ret := (some .int)) [.int p1] (plainFor_of_name (by decide)) rfl (Nat.le_of_ble_eq_true rfl) ?_
  intro p e s m below meth c ls Q hQ hx hb hml hr hts hown hlocks hK hA hZ hP hD hS hl
  have hl : lv_has ls 1 [(0, .int p1)] := hl
  have hown : s.vm.findClass RX10 = some m.cls := hown
  have w_1 := hts (Cond.constant RX10 421 (65535)) (List.mem_cons_of_mem _ t_w896)
  unfold f_X_nextDraw at hf
  have hgo : ∀ (H : Heap) (locs : List Loc), H = s.heap → va_P D vwCl (Rw) H → va_S A s.heap H locs → W p l e ({ frames := 0, cells := 0, slots := 0, locals := 0 } : Room) s m ([.int p1] : List Value).toArray below meth c H locs 0 0 Q (F0 m 0 ls []) := by
    intro H locs hH hP hS
    subst hH
    refine lv_sipush (pc := 0) (v := 25173) hx hb dX10_nextDraw_0 (by decide) ?_
    refine lv_iload_n (pc := 3) hx hb dX10_nextDraw_3 rfl (lv_at hl 0 rfl) ?_
    refine lv_imul (pc := 4) hx hb dX10_nextDraw_4 ?_
    refine lv_sipush (pc := 5) (v := 13849) hx hb dX10_nextDraw_5 (by decide) ?_
    refine lv_iadd (pc := 8) hx hb dX10_nextDraw_8 ?_
    refine lv_ldcw (pc := 9) (v := 65535) hx hb hown w_1 dX10_nextDraw_9 ?_
    refine lv_iand (pc := 12) hx hb dX10_nextDraw_12 ?_
    obtain rfl := Option.some.inj hf
    rw [hQ]
    exact q_iretr (pc := 13) hx hb hr hlocks rfl hS dX10_nextDraw_13
  exact hgo _ _ rfl hP hS
/-! X10_isSeen -/
set_option maxRecDepth 100000 in
set_option maxHeartbeats 4000000 in
theorem c_X_isSeen (l : Launch) (D : va_G) (ci : Nat → ClassId) (A : Nat → Prop) (sa : Nat → Nat) (N : Nat) (Rw : va_W) (a_x : Nat) (a_at : Nat) (a_g : Nat) (a_st : Nat) (a_x_kept : Nat) (a_tp : Nat) (a_rd : Nat) (a_qu : Nat) (a_sp : Nat) (a_wk : Nat) (a_bx : Nat) (a_nt : Nat) (a_nu : Nat) (a_x_seen : Nat) (x_keptStates : Int32) (x_seen : Nat → Int32) (p1 : Int32) (p2 : Int32) (r : Int32) (hf : f_X_isSeen N x_seen p1 p2 = some r) : Met l yX10_isSeen wsX10_isSeen ({ frames := 0, cells := 0, slots := 0, locals := 0 }) (va_Pc [.ref a_x, .int p1, .int p2] (q_N D ci A sa ((a_x, .inr (10, [.ref a_at, .ref a_g, .ref a_st, .ref a_x_kept, .int x_keptStates, .ref a_tp, .ref a_rd, .ref a_qu, .ref a_sp, .ref a_wk, .ref a_bx, .ref a_nt, .ref a_nu, .ref a_x_seen])) :: (a_x_seen, .inl (ci 0, 200, .inl x_seen)) :: Rw))) (q_R (some (.int r))) 0 0 A := by
  refine q_ofW (cc := cX10_isSeen) (maxL := 4) (ret := (some .boolean)) [.ref a_x, .int p1, .int p2] (plainFor_of_name (by decide)) rfl (Nat.le_of_ble_eq_true rfl) ?_
  intro p e s m below meth c ls Q hQ hx hb hml hr hts hown hlocks hK hA hZ hP hD hS hl
  have hl : lv_has ls 4 [(0, .ref a_x), (1, .int p1), (2, .int p2)] := hl
  have hown : s.vm.findClass RX10 = some m.cls := hown
  have hinX10 : ∀ w ∈ wsX100, w ∈ wsX10_isSeen := fun _ h => List.mem_cons_of_mem _ (inWX100 _ h)
  have w_1 := hts (Cond.fieldLink RX10 94 "SheetNames" "seen" "[I") (List.mem_cons_of_mem _ t_w897)
  unfold f_X_isSeen at hf
  have hgo : ∀ (H : Heap) (locs : List Loc), H = s.heap → va_P D vwCl ((a_x, .inr (10, [.ref a_at, .ref a_g, .ref a_st, .ref a_x_kept, .int x_keptStates, .ref a_tp, .ref a_rd, .ref a_qu, .ref a_sp, .ref a_wk, .ref a_bx, .ref a_nt, .ref a_nu, .ref a_x_seen])) :: (a_x_seen, .inl (ci 0, 200, .inl x_seen)) :: Rw) H → va_S A s.heap H locs → W p l e ({ frames := 0, cells := 0, slots := 0, locals := 0 } : Room) s m ([.ref a_x, .int p1, .int p2] : List Value).toArray below meth c H locs 0 0 Q (F0 m 0 ls []) := by
    intro H locs hH hP hS
    subst hH
    refine lv_iconst (pc := 0) (v := 0) hx hb dX10_isSeen_0 (by decide) ?_
    obtain ⟨v1, ev1, hf⟩ := q_nm_e hf
    refine q_topi ev1 ?_
    refine lv_istore_n (pc := 1) (lv' := [(3, .int v1), (0, .ref a_x), (1, .int p1), (2, .int p2)]) hx hb dX10_isSeen_1 rfl hl (by decide) rfl (fun ls hl => ?_)
    obtain ⟨k2, o2_, ek2, hm2, hk2⟩ := q_s0_k hf
    have JE2 : ∀  (H : Heap) (locs : List Loc) (ls : Array Slot), k2 = some r → H = s.heap → va_S A s.heap H locs → lv_has ls 4 [] → W p l e ({ frames := 0, cells := 0, slots := 0, locals := 0 } : Room) s m ([.ref a_x, .int p1, .int p2] : List Value).toArray below meth c H locs 0 0 Q (F0 m 34 ls []) := by
      intro  H locs ls hf hHs hS hl
      subst hHs
      have hf := (ek2).symm.trans hf
      refine lv_iconst (pc := 34) (v := 0) hx hb dX10_isSeen_34 (by decide) ?_
      obtain rfl := Option.some.inj hf
      rw [hQ]
      exact q_zretr (pc := 35) hx hb hr rfl hlocks rfl hS dX10_isSeen_35
    have LP2 : ∀ (n2 : Nat) (v2 : Int32) (H : Heap) (locs : List Loc) (ls : Array Slot), f_X_isSeen_L2 p1 p2 x_seen n2 v2 = some o2_ → H = s.heap → va_S A s.heap H locs → lv_has ls 4 [(0, .ref a_x), (1, .int p1), (2, .int p2), (3, .int v2)] → W p l e ({ frames := 0, cells := 0, slots := 0, locals := 0 } : Room) s m ([.ref a_x, .int p1, .int p2] : List Value).toArray below meth c H locs 0 0 Q (F0 m 2 ls []) := by
      intro n2
      induction n2 with
      | zero => intro v2 H locs ls hf; rw [f_X_isSeen_L2] at hf; cases hf
      | succ n2 ih2 =>
        intro v2 H locs ls hf hHs hS hl
        subst hHs
        rw [f_X_isSeen_L2] at hf
        refine lv_iload_n (pc := 2) hx hb dX10_isSeen_2 rfl (lv_at hl 3 rfl) ?_
        refine lv_iload_n (pc := 3) hx hb dX10_isSeen_3 rfl (lv_at hl 2 rfl) ?_
        refine q_icmp_ge (pc := 4) (tgt := 34) hx hb dX10_isSeen_4 (by decide) rfl hf (fun hf => ?_) (fun hf => ?_)
        · obtain rfl := Option.some.inj hf
          exact JE2  _ _ _ hk2 rfl hS (lv_sub hl [] rfl)
        · refine lv_iload_n (pc := 7) hx hb dX10_isSeen_7 rfl (lv_at hl 3 rfl) ?_
          refine lv_aload_n (pc := 8) hx hb dX10_isSeen_8 rfl (lv_at hl 0 rfl) ?_
          refine va_get (pc := 9) (D := D) (ci := 10) (v := .ref a_x_seen) (C := RX10) (T := TX10) (N := 14) hx hb hts hinX10 hown hK hP 0 rfl rfl 13 (by decide) w_1 (fun _ h9 => h9) rfl dX10_isSeen_9 ?_
          refine va_alen (pc := 12) (v := 200) hx hb hK hP 1 0 rfl rfl rfl dX10_isSeen_12 ?_
          refine q_icmp_ge (pc := 13) (tgt := 34) hx hb dX10_isSeen_13 (by decide) rfl hf (fun hf => ?_) (fun hf => ?_)
          · obtain rfl := Option.some.inj hf
            exact JE2  _ _ _ hk2 rfl hS (lv_sub hl [] rfl)
          · refine lv_aload_n (pc := 16) hx hb dX10_isSeen_16 rfl (lv_at hl 0 rfl) ?_
            refine va_get (pc := 17) (D := D) (ci := 10) (v := .ref a_x_seen) (C := RX10) (T := TX10) (N := 14) hx hb hts hinX10 hown hK hP 0 rfl rfl 13 (by decide) w_1 (fun _ h9 => h9) rfl dX10_isSeen_17 ?_
            refine lv_iload_n (pc := 20) hx hb dX10_isSeen_20 rfl (lv_at hl 3 rfl) ?_
            refine q_iald (pc := 21) hx hb hK hP 1 0 hf rfl rfl dX10_isSeen_21 (fun v3 hf => ?_)
            refine lv_iload_n (pc := 22) hx hb dX10_isSeen_22 rfl (lv_at hl 1 rfl) ?_
            refine q_icmp_ne (pc := 23) (tgt := 28) hx hb dX10_isSeen_23 (by decide) rfl hf (fun hf => ?_) (fun hf => ?_)
            · obtain ⟨v4, ev4, hf⟩ := q_nm_e hf
              refine lv_iinc (pc := 28) (v := v4) (lv' := [(3, .int v4), (0, .ref a_x), (1, .int p1), (2, .int p2)]) hx hb dX10_isSeen_28 hl (k := 3) rfl (by rw [ev4]; rfl) (by decide) rfl (fun ls hl => ?_)
              refine lv_goto (pc := 31) (tgt := 2) hx hb dX10_isSeen_31 (by decide) ?_
              exact ih2 v4 _ _ _ hf rfl hS (lv_sub hl [1, 2, 3, 0] rfl)
            · refine lv_iconst (pc := 26) (v := 1) hx hb dX10_isSeen_26 (by decide) ?_
              obtain rfl := Option.some.inj hf
              have hk2 : (1 : Int32) = r := hk2
              obtain rfl := hk2
              rw [hQ]
              exact q_zretr (pc := 27) hx hb hr rfl hlocks rfl hS dX10_isSeen_27
    exact LP2 N v1 _ _ _ hm2 rfl hS (lv_sub hl [1, 2, 3, 0] rfl)
  exact hgo _ _ rfl hP hS
/-! X10_drawn -/
set_option maxRecDepth 100000 in
set_option maxHeartbeats 4000000 in
theorem c_X_drawn (l : Launch) (D : va_G) (ci : Nat → ClassId) (A : Nat → Prop) (sa : Nat → Nat) (N : Nat) (Rw : va_W) (a_x : Nat) (a_at : Nat) (a_g : Nat) (a_st : Nat) (a_x_kept : Nat) (a_tp : Nat) (a_rd : Nat) (a_qu : Nat) (a_sp : Nat) (a_wk : Nat) (a_bx : Nat) (a_nt : Nat) (a_nu : Nat) (a_x_seen : Nat) (a_g_rowCuts : Nat) (a_g_columnCuts : Nat) (a_g_bandRows : Nat) (a_g_zoneColumns : Nat) (a_g_rows : Nat) (a_g_sheets : Nat) (x_keptStates : Int32) (x_seen : Nat → Int32) (g_bandRows : Nat → Int32) (g_zoneColumns : Nat → Int32) (g_rows : Nat → Int32) (g_sheets : Nat → Int32) (p1 : Int32) (p2 : Int32) (p3 : Int32) (r : Int32) (o1 : Nat → Int32) (hf : f_X_drawn N x_seen g_bandRows g_zoneColumns g_rows g_sheets p1 p2 p3 = some (r, o1)) : Met l yX10_drawn wsX10_drawn ({ frames := 3, cells := 0, slots := 0, locals := 73 }) (va_Pc [.ref a_x, .int p1, .int p2, .int p3] (q_N D ci A sa ((a_x, .inr (10, [.ref a_at, .ref a_g, .ref a_st, .ref a_x_kept, .int x_keptStates, .ref a_tp, .ref a_rd, .ref a_qu, .ref a_sp, .ref a_wk, .ref a_bx, .ref a_nt, .ref a_nu, .ref a_x_seen])) :: (a_x_seen, .inl (ci 0, 200, .inl x_seen)) :: (a_g, .inr (2, [.ref a_g_rowCuts, .ref a_g_columnCuts, .ref a_g_bandRows, .ref a_g_zoneColumns, .ref a_g_rows, .ref a_g_sheets])) :: (a_g_bandRows, .inl (ci 0, 5, .inl g_bandRows)) :: (a_g_zoneColumns, .inl (ci 0, 5, .inl g_zoneColumns)) :: (a_g_rows, .inl (ci 0, 5, .inl g_rows)) :: (a_g_sheets, .inl (ci 0, 5, .inl g_sheets)) :: Rw))) (q_Q (some (.int r)) (q_O D A ((a_x, .inr (10, [.ref a_at, .ref a_g, .ref a_st, .ref a_x_kept, .int x_keptStates, .ref a_tp, .ref a_rd, .ref a_qu, .ref a_sp, .ref a_wk, .ref a_bx, .ref a_nt, .ref a_nu, .ref a_x_seen])) :: (a_x_seen, .inl (ci 0, 200, .inl o1)) :: (a_g, .inr (2, [.ref a_g_rowCuts, .ref a_g_columnCuts, .ref a_g_bandRows, .ref a_g_zoneColumns, .ref a_g_rows, .ref a_g_sheets])) :: (a_g_bandRows, .inl (ci 0, 5, .inl g_bandRows)) :: (a_g_zoneColumns, .inl (ci 0, 5, .inl g_zoneColumns)) :: (a_g_rows, .inl (ci 0, 5, .inl g_rows)) :: (a_g_sheets, .inl (ci 0, 5, .inl g_sheets)) :: Rw)) A) 0 0 A := by
  refine q_ofW (cc := cX10_drawn) (maxL := 10) (ret := (some .int)) [.ref a_x, .int p1, .int p2, .int p3] (plainFor_of_name (by decide)) rfl (Nat.le_of_ble_eq_true rfl) ?_
  intro p e s m below meth c ls Q hQ hx hb hml hr hts hown hlocks hK hA hZ hP hD hS hl
  have hl : lv_has ls 10 [(0, .ref a_x), (1, .int p1), (2, .int p2), (3, .int p3)] := hl
  have hown : s.vm.findClass RX10 = some m.cls := hown
  have hinX10 : ∀ w ∈ wsX100, w ∈ wsX10_drawn := fun _ h => List.mem_cons_of_mem _ (inWX100 _ h)
  have w_1 := hts (Cond.constant RX10 421 (65535)) (List.mem_cons_of_mem _ t_w896)
  have w_2 := hts (Cond.constant RX10 425 (319488)) (List.mem_cons_of_mem _ t_w898)
  have w_3 := hts (Cond.fieldLink RX10 20 "SheetNames" "grid" "LSheetNames$Grid;") (List.mem_cons_of_mem _ t_w876)
  have w_4 := hts (Cond.fieldLink RX10 94 "SheetNames" "seen" "[I") (List.mem_cons_of_mem _ t_w897)
  unfold f_X_drawn at hf
  have hgo : ∀ (H : Heap) (locs : List Loc), H = s.heap → va_P D vwCl ((a_x, .inr (10, [.ref a_at, .ref a_g, .ref a_st, .ref a_x_kept, .int x_keptStates, .ref a_tp, .ref a_rd, .ref a_qu, .ref a_sp, .ref a_wk, .ref a_bx, .ref a_nt, .ref a_nu, .ref a_x_seen])) :: (a_x_seen, .inl (ci 0, 200, .inl x_seen)) :: (a_g, .inr (2, [.ref a_g_rowCuts, .ref a_g_columnCuts, .ref a_g_bandRows, .ref a_g_zoneColumns, .ref a_g_rows, .ref a_g_sheets])) :: (a_g_bandRows, .inl (ci 0, 5, .inl g_bandRows)) :: (a_g_zoneColumns, .inl (ci 0, 5, .inl g_zoneColumns)) :: (a_g_rows, .inl (ci 0, 5, .inl g_rows)) :: (a_g_sheets, .inl (ci 0, 5, .inl g_sheets)) :: Rw) H → va_S A s.heap H locs → W p l e ({ frames := 3, cells := 0, slots := 0, locals := 73 } : Room) s m ([.ref a_x, .int p1, .int p2, .int p3] : List Value).toArray below meth c H locs 0 0 Q (F0 m 0 ls []) := by
    intro H locs hH hP hS
    refine lv_iload_n (pc := 0) hx hb dX10_drawn_0 rfl (lv_at hl 2 rfl) ?_
    refine lv_iconst (pc := 1) (v := 1) hx hb dX10_drawn_1 (by decide) ?_
    refine lv_sipush (pc := 2) (v := 200) hx hb dX10_drawn_2 (by decide) ?_
    obtain ⟨v1, hm5, hf⟩ := q_b1_e hf
    refine q_cSr (pc := 5) (As := [.int p2, .int 1, .int 200]) (rest := []) (v0 := (some (.int v1))) ⟨hx, hb, hml, hown, hts⟩ hK hA hZ hP hD hS hl.1 [] 7 rfl ⟨rfl, rfl, rfl⟩ (c_X_isFrom l D ci A sa N (Rw) p2 1 200 v1 hm5) (va_cwS 3 hts gX10_drawn_X10_isFrom rfl rfl rfl (by decide +kernel) ⟨Nat.le_of_ble_eq_true rfl, Nat.le_of_ble_eq_true rfl⟩) rfl rfl (Nat.le_of_ble_eq_true rfl) dX10_drawn_5 ⟨Nat.zero_le _, Nat.zero_le _⟩ (fun locs hS => ?_)
    refine q_if_eq (pc := 8) (tgt := 18) hx hb dX10_drawn_8 (by decide) rfl hf (fun hf => ?_) (fun hf => ?_)
    · refine lv_iconst (pc := 18) (v := (-1)) hx hb dX10_drawn_18 (by decide) ?_
      obtain ⟨rfl, rfl⟩ := q_inj2 (Option.some.inj hf)
      rw [hQ]
      exact q_iret (pc := 19) hx hb hr hlocks hP hD hS dX10_drawn_19
    · refine lv_iload_n (pc := 11) hx hb dX10_drawn_11 rfl (lv_at hl 3 rfl) ?_
      obtain ⟨v2, hm12, hf⟩ := q_b1_e hf
      refine q_cSr (pc := 12) (As := [.int p3]) (rest := []) (v0 := (some (.int v2))) ⟨hx, hb, hml, hown, hts⟩ hK hA hZ hP hD hS hl.1 [] 7 rfl ⟨rfl, rfl, rfl⟩ (c_X_isLevel l D ci A sa N (Rw) p3 v2 hm12) (va_cwS 1 hts gX10_drawn_X10_isLevel rfl rfl rfl (by decide +kernel) ⟨Nat.le_of_ble_eq_true rfl, Nat.le_of_ble_eq_true rfl⟩) rfl rfl (Nat.le_of_ble_eq_true rfl) dX10_drawn_12 ⟨Nat.zero_le _, Nat.zero_le _⟩ (fun locs hS => ?_)
      refine q_if_ne (pc := 15) (tgt := 20) hx hb dX10_drawn_15 (by decide) rfl hf (fun hf => ?_) (fun hf => ?_)
      · refine lv_iload_n (pc := 20) hx hb dX10_drawn_20 rfl (lv_at hl 1 rfl) ?_
        refine lv_ldcw (pc := 21) (v := 65535) hx hb hown w_1 dX10_drawn_21 ?_
        refine lv_iand (pc := 24) hx hb dX10_drawn_24 ?_
        obtain ⟨v3, ev3, hf⟩ := q_nm_e hf
        refine q_topi ev3 ?_
        refine lv_istore (pc := 25) (lv' := [(4, .int v3), (0, .ref a_x), (1, .int p1), (2, .int p2), (3, .int p3)]) hx hb dX10_drawn_25 hl (by decide) rfl (fun ls hl => ?_)
        refine lv_iconst (pc := 27) (v := 0) hx hb dX10_drawn_27 (by decide) ?_
        obtain ⟨v4, ev4, hf⟩ := q_nm_e hf
        refine q_topi ev4 ?_
        refine lv_istore (pc := 28) (lv' := [(5, .int v4), (4, .int v3), (0, .ref a_x), (1, .int p1), (2, .int p2), (3, .int p3)]) hx hb dX10_drawn_28 hl (by decide) rfl (fun ls hl => ?_)
        refine lv_iconst (pc := 30) (v := 0) hx hb dX10_drawn_30 (by decide) ?_
        obtain ⟨v5, ev5, hf⟩ := q_nm_e hf
        refine q_topi ev5 ?_
        refine lv_istore (pc := 31) (lv' := [(6, .int v5), (5, .int v4), (4, .int v3), (0, .ref a_x), (1, .int p1), (2, .int p2), (3, .int p3)]) hx hb dX10_drawn_31 hl (by decide) rfl (fun ls hl => ?_)
        obtain ⟨v10, f11, hm33, hf⟩ := q_b2_e hf
        have JE33 : ∀ (H : Heap) (locs : List Loc) (ls : Array Slot), va_P D vwCl ((a_x, .inr (10, [.ref a_at, .ref a_g, .ref a_st, .ref a_x_kept, .int x_keptStates, .ref a_tp, .ref a_rd, .ref a_qu, .ref a_sp, .ref a_wk, .ref a_bx, .ref a_nt, .ref a_nu, .ref a_x_seen])) :: (a_x_seen, .inl (ci 0, 200, .inl f11)) :: (a_g, .inr (2, [.ref a_g_rowCuts, .ref a_g_columnCuts, .ref a_g_bandRows, .ref a_g_zoneColumns, .ref a_g_rows, .ref a_g_sheets])) :: (a_g_bandRows, .inl (ci 0, 5, .inl g_bandRows)) :: (a_g_zoneColumns, .inl (ci 0, 5, .inl g_zoneColumns)) :: (a_g_rows, .inl (ci 0, 5, .inl g_rows)) :: (a_g_sheets, .inl (ci 0, 5, .inl g_sheets)) :: Rw) H → va_D A ((a_x, .inr (10, [.ref a_at, .ref a_g, .ref a_st, .ref a_x_kept, .int x_keptStates, .ref a_tp, .ref a_rd, .ref a_qu, .ref a_sp, .ref a_wk, .ref a_bx, .ref a_nt, .ref a_nu, .ref a_x_seen])) :: (a_x_seen, .inl (ci 0, 200, .inl f11)) :: (a_g, .inr (2, [.ref a_g_rowCuts, .ref a_g_columnCuts, .ref a_g_bandRows, .ref a_g_zoneColumns, .ref a_g_rows, .ref a_g_sheets])) :: (a_g_bandRows, .inl (ci 0, 5, .inl g_bandRows)) :: (a_g_zoneColumns, .inl (ci 0, 5, .inl g_zoneColumns)) :: (a_g_rows, .inl (ci 0, 5, .inl g_rows)) :: (a_g_sheets, .inl (ci 0, 5, .inl g_sheets)) :: Rw) → va_S A s.heap H locs → lv_has ls 10 [(5, .int v10)] → W p l e ({ frames := 3, cells := 0, slots := 0, locals := 73 } : Room) s m ([.ref a_x, .int p1, .int p2, .int p3] : List Value).toArray below meth c H locs 0 0 Q (F0 m 136 ls []) := by
          intro H locs ls hP hD hS hl
          refine lv_iload (pc := 136) hx hb dX10_drawn_136 (lv_at hl 0 rfl) ?_
          obtain ⟨rfl, rfl⟩ := q_inj2 (Option.some.inj hf)
          rw [hQ]
          exact q_iret (pc := 138) hx hb hr hlocks hP hD hS dX10_drawn_138
        have LP33 : ∀ (n33 : Nat) (v6 : Int32) (v7 : Int32) (v8 : Int32) (f9 : Nat → Int32) (H : Heap) (locs : List Loc) (ls : Array Slot), f_X_drawn_L33 N g_bandRows g_rows g_sheets g_zoneColumns p2 p3 n33 v6 v7 v8 f9 = some (v10, f11) → va_P D vwCl ((a_x, .inr (10, [.ref a_at, .ref a_g, .ref a_st, .ref a_x_kept, .int x_keptStates, .ref a_tp, .ref a_rd, .ref a_qu, .ref a_sp, .ref a_wk, .ref a_bx, .ref a_nt, .ref a_nu, .ref a_x_seen])) :: (a_x_seen, .inl (ci 0, 200, .inl f9)) :: (a_g, .inr (2, [.ref a_g_rowCuts, .ref a_g_columnCuts, .ref a_g_bandRows, .ref a_g_zoneColumns, .ref a_g_rows, .ref a_g_sheets])) :: (a_g_bandRows, .inl (ci 0, 5, .inl g_bandRows)) :: (a_g_zoneColumns, .inl (ci 0, 5, .inl g_zoneColumns)) :: (a_g_rows, .inl (ci 0, 5, .inl g_rows)) :: (a_g_sheets, .inl (ci 0, 5, .inl g_sheets)) :: Rw) H → va_D A ((a_x, .inr (10, [.ref a_at, .ref a_g, .ref a_st, .ref a_x_kept, .int x_keptStates, .ref a_tp, .ref a_rd, .ref a_qu, .ref a_sp, .ref a_wk, .ref a_bx, .ref a_nt, .ref a_nu, .ref a_x_seen])) :: (a_x_seen, .inl (ci 0, 200, .inl f9)) :: (a_g, .inr (2, [.ref a_g_rowCuts, .ref a_g_columnCuts, .ref a_g_bandRows, .ref a_g_zoneColumns, .ref a_g_rows, .ref a_g_sheets])) :: (a_g_bandRows, .inl (ci 0, 5, .inl g_bandRows)) :: (a_g_zoneColumns, .inl (ci 0, 5, .inl g_zoneColumns)) :: (a_g_rows, .inl (ci 0, 5, .inl g_rows)) :: (a_g_sheets, .inl (ci 0, 5, .inl g_sheets)) :: Rw) → va_S A s.heap H locs → lv_has ls 10 [(0, .ref a_x), (2, .int p2), (3, .int p3), (4, .int v6), (5, .int v7), (6, .int v8)] → W p l e ({ frames := 3, cells := 0, slots := 0, locals := 73 } : Room) s m ([.ref a_x, .int p1, .int p2, .int p3] : List Value).toArray below meth c H locs 0 0 Q (F0 m 33 ls []) := by
          intro n33
          induction n33 with
          | zero => intro v6 v7 v8 f9 H locs ls hf; rw [f_X_drawn_L33] at hf; cases hf
          | succ n33 ih33 =>
            intro v6 v7 v8 f9 H locs ls hf hP hD hS hl
            rw [f_X_drawn_L33] at hf
            refine lv_iload (pc := 33) hx hb dX10_drawn_33 (lv_at hl 5 rfl) ?_
            refine lv_iload_n (pc := 35) hx hb dX10_drawn_35 rfl (lv_at hl 1 rfl) ?_
            refine q_icmp_ge (pc := 36) (tgt := 136) hx hb dX10_drawn_36 (by decide) rfl hf (fun hf => ?_) (fun hf => ?_)
            · obtain ⟨rfl, rfl⟩ := q_inj2 (Option.some.inj hf)
              exact JE33 _ _ _ hP hD hS (lv_sub hl [4] rfl)
            · refine lv_iload (pc := 39) hx hb dX10_drawn_39 (lv_at hl 3 rfl) ?_
              obtain ⟨v12, hm41, hf⟩ := q_b1_e hf
              refine q_cSr (pc := 41) (As := [.int v6]) (rest := []) (v0 := (some (.int v12))) ⟨hx, hb, hml, hown, hts⟩ hK hA hZ hP hD hS hl.1 [] 7 rfl ⟨rfl, rfl, rfl⟩ (c_X_nextDraw l D ci A sa N (Rw) v6 v12 hm41) (va_cwS 1 hts gX10_drawn_X10_nextDraw rfl rfl rfl (by decide +kernel) ⟨Nat.le_of_ble_eq_true rfl, Nat.le_of_ble_eq_true rfl⟩) rfl rfl (Nat.le_of_ble_eq_true rfl) dX10_drawn_41 ⟨Nat.zero_le _, Nat.zero_le _⟩ (fun locs hS => ?_)
              refine lv_istore (pc := 44) (lv' := [(4, .int v12), (0, .ref a_x), (2, .int p2), (3, .int p3), (5, .int v7), (6, .int v8)]) hx hb dX10_drawn_44 hl (by decide) rfl (fun ls hl => ?_)
              refine lv_iload (pc := 46) hx hb dX10_drawn_46 (lv_at hl 0 rfl) ?_
              refine lv_iconst (pc := 48) (v := 4) hx hb dX10_drawn_48 (by decide) ?_
              refine q_idiv (pc := 49) hx hb dX10_drawn_49 hf (fun v13 hf => ?_)
              refine lv_sipush (pc := 50) (v := 16384) hx hb dX10_drawn_50 (by decide) ?_
              refine q_irem (pc := 53) hx hb dX10_drawn_53 hf (fun v14 hf => ?_)
              refine lv_bipush (pc := 54) (v := 39) hx hb dX10_drawn_54 (by decide) ?_
              refine lv_imul (pc := 56) hx hb dX10_drawn_56 ?_
              refine lv_ldcw (pc := 57) (v := 319488) hx hb hown w_2 dX10_drawn_57 ?_
              refine lv_isub (pc := 60) hx hb dX10_drawn_60 ?_
              obtain ⟨v15, ev15, hf⟩ := q_nm_e hf
              refine q_topi ev15 ?_
              refine lv_istore (pc := 61) (lv' := [(7, .int v15), (4, .int v12), (0, .ref a_x), (2, .int p2), (3, .int p3), (5, .int v7), (6, .int v8)]) hx hb dX10_drawn_61 hl (by decide) rfl (fun ls hl => ?_)
              refine lv_iload (pc := 63) hx hb dX10_drawn_63 (lv_at hl 1 rfl) ?_
              obtain ⟨v16, hm65, hf⟩ := q_b1_e hf
              refine q_cSr (pc := 65) (As := [.int v12]) (rest := []) (v0 := (some (.int v16))) ⟨hx, hb, hml, hown, hts⟩ hK hA hZ hP hD hS hl.1 [] 7 rfl ⟨rfl, rfl, rfl⟩ (c_X_nextDraw l D ci A sa N (Rw) v12 v16 hm65) (va_cwS 1 hts gX10_drawn_X10_nextDraw rfl rfl rfl (by decide +kernel) ⟨Nat.le_of_ble_eq_true rfl, Nat.le_of_ble_eq_true rfl⟩) rfl rfl (Nat.le_of_ble_eq_true rfl) dX10_drawn_65 ⟨Nat.zero_le _, Nat.zero_le _⟩ (fun locs hS => ?_)
              refine lv_istore (pc := 68) (lv' := [(4, .int v16), (7, .int v15), (0, .ref a_x), (2, .int p2), (3, .int p3), (5, .int v7), (6, .int v8)]) hx hb dX10_drawn_68 hl (by decide) rfl (fun ls hl => ?_)
              refine lv_iload (pc := 70) hx hb dX10_drawn_70 (lv_at hl 0 rfl) ?_
              refine lv_iconst (pc := 72) (v := 4) hx hb dX10_drawn_72 (by decide) ?_
              refine q_idiv (pc := 73) hx hb dX10_drawn_73 hf (fun v17 hf => ?_)
              refine lv_sipush (pc := 74) (v := 16384) hx hb dX10_drawn_74 (by decide) ?_
              refine q_irem (pc := 77) hx hb dX10_drawn_77 hf (fun v18 hf => ?_)
              refine lv_bipush (pc := 78) (v := 79) hx hb dX10_drawn_78 (by decide) ?_
              refine lv_imul (pc := 80) hx hb dX10_drawn_80 ?_
              obtain ⟨v19, ev19, hf⟩ := q_nm_e hf
              refine q_topi ev19 ?_
              refine lv_istore (pc := 81) (lv' := [(8, .int v19), (4, .int v16), (7, .int v15), (0, .ref a_x), (2, .int p2), (3, .int p3), (5, .int v7), (6, .int v8)]) hx hb dX10_drawn_81 hl (by decide) rfl (fun ls hl => ?_)
              refine lv_aload_n (pc := 83) hx hb dX10_drawn_83 rfl (lv_at hl 3 rfl) ?_
              refine va_get (pc := 84) (D := D) (ci := 10) (v := .ref a_g) (C := RX10) (T := TX10) (N := 14) hx hb hts hinX10 hown hK hP 0 rfl rfl 1 (by decide) w_3 (fun _ h9 => h9) rfl dX10_drawn_84 ?_
              refine lv_iload_n (pc := 87) hx hb dX10_drawn_87 rfl (lv_at hl 5 rfl) ?_
              refine lv_iload (pc := 88) hx hb dX10_drawn_88 (lv_at hl 2 rfl) ?_
              refine lv_iload (pc := 90) hx hb dX10_drawn_90 (lv_at hl 0 rfl) ?_
              obtain ⟨v20, hm92, hf⟩ := q_b1_e hf
              refine q_cVr (pc := 92) (As := [.int p3, .int v15, .int v19]) (rest := []) (v0 := (some (.int v20))) ⟨hx, hb, hml, hown, hts⟩ hK hA hZ hP hD hS hl.1 [2, 3, 4, 5, 6] 7 rfl ⟨rfl, rfl, rfl⟩ (c_Grid_keyOf l D ci A sa N (Rw) a_g a_g_rowCuts a_g_columnCuts a_g_bandRows a_g_zoneColumns a_g_rows a_g_sheets g_bandRows g_zoneColumns g_rows g_sheets p3 v15 v19 v20 hm92) 2 rfl rfl (cwV 3 hts gX10_drawn_X2_keyOf rfl rfl rfl (by decide +kernel) ⟨Nat.le_of_ble_eq_true rfl, Nat.le_of_ble_eq_true rfl⟩) rfl rfl (Nat.le_of_ble_eq_true rfl) dX10_drawn_92 ⟨Nat.zero_le _, Nat.zero_le _⟩ (fun locs hS => ?_)
              refine lv_istore (pc := 95) (lv' := [(9, .int v20), (8, .int v19), (4, .int v16), (7, .int v15), (0, .ref a_x), (2, .int p2), (3, .int p3), (5, .int v7), (6, .int v8)]) hx hb dX10_drawn_95 hl (by decide) rfl (fun ls hl => ?_)
              refine lv_aload_n (pc := 97) hx hb dX10_drawn_97 rfl (lv_at hl 4 rfl) ?_
              refine lv_iload (pc := 98) hx hb dX10_drawn_98 (lv_at hl 0 rfl) ?_
              refine lv_iload (pc := 100) hx hb dX10_drawn_100 (lv_at hl 7 rfl) ?_
              obtain ⟨v21, hm102, hf⟩ := q_b1_e hf
              refine q_cVr (pc := 102) (As := [.int v20, .int v7]) (rest := []) (v0 := (some (.int v21))) ⟨hx, hb, hml, hown, hts⟩ hK hA hZ hP hD hS hl.1 [0, 1] 7 rfl ⟨rfl, rfl, rfl⟩ (c_X_isSeen l D ci A sa N (Rw) a_x a_at a_g a_st a_x_kept a_tp a_rd a_qu a_sp a_wk a_bx a_nt a_nu a_x_seen x_keptStates f9 v20 v7 v21 hm102) 0 rfl rfl (cwV 2 hts gX10_drawn_X10_isSeen rfl rfl rfl (by decide +kernel) ⟨Nat.le_of_ble_eq_true rfl, Nat.le_of_ble_eq_true rfl⟩) rfl rfl (Nat.le_of_ble_eq_true rfl) dX10_drawn_102 ⟨Nat.zero_le _, Nat.zero_le _⟩ (fun locs hS => ?_)
              obtain ⟨k130, ek130, hf⟩ := q_j2_e hf
              have J130 : ∀ (v22 : Int32) (f23 : Nat → Int32) (H : Heap) (locs : List Loc) (ls : Array Slot), k130 v22 f23 = some (v10, f11) → va_P D vwCl ((a_x, .inr (10, [.ref a_at, .ref a_g, .ref a_st, .ref a_x_kept, .int x_keptStates, .ref a_tp, .ref a_rd, .ref a_qu, .ref a_sp, .ref a_wk, .ref a_bx, .ref a_nt, .ref a_nu, .ref a_x_seen])) :: (a_x_seen, .inl (ci 0, 200, .inl f23)) :: (a_g, .inr (2, [.ref a_g_rowCuts, .ref a_g_columnCuts, .ref a_g_bandRows, .ref a_g_zoneColumns, .ref a_g_rows, .ref a_g_sheets])) :: (a_g_bandRows, .inl (ci 0, 5, .inl g_bandRows)) :: (a_g_zoneColumns, .inl (ci 0, 5, .inl g_zoneColumns)) :: (a_g_rows, .inl (ci 0, 5, .inl g_rows)) :: (a_g_sheets, .inl (ci 0, 5, .inl g_sheets)) :: Rw) H → va_D A ((a_x, .inr (10, [.ref a_at, .ref a_g, .ref a_st, .ref a_x_kept, .int x_keptStates, .ref a_tp, .ref a_rd, .ref a_qu, .ref a_sp, .ref a_wk, .ref a_bx, .ref a_nt, .ref a_nu, .ref a_x_seen])) :: (a_x_seen, .inl (ci 0, 200, .inl f23)) :: (a_g, .inr (2, [.ref a_g_rowCuts, .ref a_g_columnCuts, .ref a_g_bandRows, .ref a_g_zoneColumns, .ref a_g_rows, .ref a_g_sheets])) :: (a_g_bandRows, .inl (ci 0, 5, .inl g_bandRows)) :: (a_g_zoneColumns, .inl (ci 0, 5, .inl g_zoneColumns)) :: (a_g_rows, .inl (ci 0, 5, .inl g_rows)) :: (a_g_sheets, .inl (ci 0, 5, .inl g_sheets)) :: Rw) → va_S A s.heap H locs → lv_has ls 10 [(0, .ref a_x), (2, .int p2), (3, .int p3), (4, .int v16), (5, .int v22), (6, .int v8)] → W p l e ({ frames := 3, cells := 0, slots := 0, locals := 73 } : Room) s m ([.ref a_x, .int p1, .int p2, .int p3] : List Value).toArray below meth c H locs 0 0 Q (F0 m 130 ls []) := by
                intro v22 f23 H locs ls hf hP hD hS hl
                have hf := (ek130 v22 f23).symm.trans hf
                obtain ⟨v24, ev24, hf⟩ := q_nm_e hf
                refine lv_iinc (pc := 130) (v := v24) (lv' := [(6, .int v24), (0, .ref a_x), (2, .int p2), (3, .int p3), (4, .int v16), (5, .int v22)]) hx hb dX10_drawn_130 hl (k := 5) rfl (by rw [ev24]; rfl) (by decide) rfl (fun ls hl => ?_)
                refine lv_goto (pc := 133) (tgt := 33) hx hb dX10_drawn_133 (by decide) ?_
                exact ih33 v16 v22 v24 f23 _ _ _ hf hP hD hS (lv_sub hl [1, 2, 3, 4, 5, 0] rfl)
              refine q_if_ne (pc := 105) (tgt := 130) hx hb dX10_drawn_105 (by decide) rfl hf (fun hf => ?_) (fun hf => ?_)
              · exact J130 v7 f9 _ _ _ hf hP hD hS (lv_sub hl [4, 5, 6, 2, 7, 8] rfl)
              · refine lv_iload (pc := 108) hx hb dX10_drawn_108 (lv_at hl 7 rfl) ?_
                refine lv_aload_n (pc := 110) hx hb dX10_drawn_110 rfl (lv_at hl 4 rfl) ?_
                refine va_get (pc := 111) (D := D) (ci := 10) (v := .ref a_x_seen) (C := RX10) (T := TX10) (N := 14) hx hb hts hinX10 hown hK hP 0 rfl rfl 13 (by decide) w_4 (fun _ h9 => h9) rfl dX10_drawn_111 ?_
                refine va_alen (pc := 114) (v := 200) hx hb hK hP 1 0 rfl rfl rfl dX10_drawn_114 ?_
                refine q_icmp_ge (pc := 115) (tgt := 130) hx hb dX10_drawn_115 (by decide) rfl hf (fun hf => ?_) (fun hf => ?_)
                · exact J130 v7 f9 _ _ _ hf hP hD hS (lv_sub hl [4, 5, 6, 2, 7, 8] rfl)
                · refine lv_aload_n (pc := 118) hx hb dX10_drawn_118 rfl (lv_at hl 4 rfl) ?_
                  refine va_get (pc := 119) (D := D) (ci := 10) (v := .ref a_x_seen) (C := RX10) (T := TX10) (N := 14) hx hb hts hinX10 hown hK hP 0 rfl rfl 13 (by decide) w_4 (fun _ h9 => h9) rfl dX10_drawn_119 ?_
                  refine lv_iload (pc := 122) hx hb dX10_drawn_122 (lv_at hl 7 rfl) ?_
                  refine lv_iload (pc := 124) hx hb dX10_drawn_124 (lv_at hl 0 rfl) ?_
                  refine q_iast (pc := 126) hx hb hK hP hD hS 1 0 hf rfl rfl dX10_drawn_126 (fun f25 H locs hf hP hD hS => ?_)
                  obtain ⟨hP, hD⟩ : va_PD D A ((a_x, .inr (10, [.ref a_at, .ref a_g, .ref a_st, .ref a_x_kept, .int x_keptStates, .ref a_tp, .ref a_rd, .ref a_qu, .ref a_sp, .ref a_wk, .ref a_bx, .ref a_nt, .ref a_nu, .ref a_x_seen])) :: (a_x_seen, .inl (ci 0, 200, .inl f25)) :: (a_g, .inr (2, [.ref a_g_rowCuts, .ref a_g_columnCuts, .ref a_g_bandRows, .ref a_g_zoneColumns, .ref a_g_rows, .ref a_g_sheets])) :: (a_g_bandRows, .inl (ci 0, 5, .inl g_bandRows)) :: (a_g_zoneColumns, .inl (ci 0, 5, .inl g_zoneColumns)) :: (a_g_rows, .inl (ci 0, 5, .inl g_rows)) :: (a_g_sheets, .inl (ci 0, 5, .inl g_sheets)) :: Rw) H := ⟨hP, hD⟩
                  obtain ⟨v26, ev26, hf⟩ := q_nm_e hf
                  refine lv_iinc (pc := 127) (v := v26) (lv' := [(5, .int v26), (9, .int v20), (8, .int v19), (4, .int v16), (7, .int v15), (0, .ref a_x), (2, .int p2), (3, .int p3), (6, .int v8)]) hx hb dX10_drawn_127 hl (k := 7) rfl (by rw [ev26]; rfl) (by decide) rfl (fun ls hl => ?_)
                  exact J130 v26 f25 _ _ _ hf hP hD hS (lv_sub hl [5, 6, 7, 3, 0, 8] rfl)
        exact LP33 N v3 v4 v5 x_seen _ _ _ hm33 hP hD hS (lv_sub hl [3, 5, 6, 2, 1, 0] rfl)
      · refine lv_iconst (pc := 18) (v := (-1)) hx hb dX10_drawn_18 (by decide) ?_
        obtain ⟨rfl, rfl⟩ := q_inj2 (Option.some.inj hf)
        rw [hQ]
        exact q_iret (pc := 19) hx hb hr hlocks hP hD hS dX10_drawn_19
  exact hgo _ _ rfl hP hS
/-! X10_drop -/
set_option maxRecDepth 100000 in
set_option maxHeartbeats 4000000 in
theorem c_X_drop (l : Launch) (D : va_G) (ci : Nat → ClassId) (A : Nat → Prop) (sa : Nat → Nat) (N : Nat) (Rw : va_W) (a_x : Nat) (a_at : Nat) (a_g : Nat) (a_st : Nat) (a_x_kept : Nat) (a_tp : Nat) (a_rd : Nat) (a_qu : Nat) (a_sp : Nat) (a_wk : Nat) (a_bx : Nat) (a_nt : Nat) (a_nu : Nat) (a_x_seen : Nat) (a_st_levels : Nat) (a_st_keys : Nat) (a_st_years : Nat) (a_st_keysThere : Nat) (a_g_rowCuts : Nat) (a_g_columnCuts : Nat) (a_g_bandRows : Nat) (a_g_zoneColumns : Nat) (a_g_rows : Nat) (a_g_sheets : Nat) (x_keptStates : Int32) (st_size : Int32) (st_shownBy : Int32) (st_deepestShown : Int32) (st_latestShown : Int32) (st_levels : Nat → Int32) (st_keys : Nat → Int32) (st_years : Nat → Int32) (g_bandRows : Nat → Int32) (g_zoneColumns : Nat → Int32) (g_rows : Nat → Int32) (g_sheets : Nat → Int32) (p1 : Int32) (p2 : Int32) (r : Int32) (o1 : Nat → Int32) (o2 : Nat → Int32) (o3 : Nat → Int32) (o4 : Int32) (hf : f_X_drop N st_levels st_keys st_years st_size g_bandRows g_zoneColumns g_rows g_sheets p1 p2 = some (r, o1, o2, o3, o4)) : Met l yX10_drop wsX10_drop ({ frames := 3, cells := 0, slots := 0, locals := 75 }) (va_Pc [.ref a_x, .int p1, .int p2] (q_N D ci A sa ((a_x, .inr (10, [.ref a_at, .ref a_g, .ref a_st, .ref a_x_kept, .int x_keptStates, .ref a_tp, .ref a_rd, .ref a_qu, .ref a_sp, .ref a_wk, .ref a_bx, .ref a_nt, .ref a_nu, .ref a_x_seen])) :: (a_st, .inr (7, [.ref a_g, .ref a_st_levels, .ref a_st_keys, .ref a_st_years, .ref a_st_keysThere, .int st_size, .int st_shownBy, .int st_deepestShown, .int st_latestShown])) :: (a_st_levels, .inl (ci 0, 60, .inl st_levels)) :: (a_st_keys, .inl (ci 0, 60, .inl st_keys)) :: (a_st_years, .inl (ci 0, 60, .inl st_years)) :: (a_g, .inr (2, [.ref a_g_rowCuts, .ref a_g_columnCuts, .ref a_g_bandRows, .ref a_g_zoneColumns, .ref a_g_rows, .ref a_g_sheets])) :: (a_g_bandRows, .inl (ci 0, 5, .inl g_bandRows)) :: (a_g_zoneColumns, .inl (ci 0, 5, .inl g_zoneColumns)) :: (a_g_rows, .inl (ci 0, 5, .inl g_rows)) :: (a_g_sheets, .inl (ci 0, 5, .inl g_sheets)) :: Rw))) (q_Q (some (.int r)) (q_O D A ((a_x, .inr (10, [.ref a_at, .ref a_g, .ref a_st, .ref a_x_kept, .int x_keptStates, .ref a_tp, .ref a_rd, .ref a_qu, .ref a_sp, .ref a_wk, .ref a_bx, .ref a_nt, .ref a_nu, .ref a_x_seen])) :: (a_st, .inr (7, [.ref a_g, .ref a_st_levels, .ref a_st_keys, .ref a_st_years, .ref a_st_keysThere, .int o4, .int st_shownBy, .int st_deepestShown, .int st_latestShown])) :: (a_st_levels, .inl (ci 0, 60, .inl o1)) :: (a_st_keys, .inl (ci 0, 60, .inl o2)) :: (a_st_years, .inl (ci 0, 60, .inl o3)) :: (a_g, .inr (2, [.ref a_g_rowCuts, .ref a_g_columnCuts, .ref a_g_bandRows, .ref a_g_zoneColumns, .ref a_g_rows, .ref a_g_sheets])) :: (a_g_bandRows, .inl (ci 0, 5, .inl g_bandRows)) :: (a_g_zoneColumns, .inl (ci 0, 5, .inl g_zoneColumns)) :: (a_g_rows, .inl (ci 0, 5, .inl g_rows)) :: (a_g_sheets, .inl (ci 0, 5, .inl g_sheets)) :: Rw)) A) 0 0 A := by
  refine q_ofW (cc := cX10_drop) (maxL := 6) (ret := (some .int)) [.ref a_x, .int p1, .int p2] (plainFor_of_name (by decide)) rfl (Nat.le_of_ble_eq_true rfl) ?_
  intro p e s m below meth c ls Q hQ hx hb hml hr hts hown hlocks hK hA hZ hP hD hS hl
  have hl : lv_has ls 6 [(0, .ref a_x), (1, .int p1), (2, .int p2)] := hl
  have hown : s.vm.findClass RX10 = some m.cls := hown
  have hinX10 : ∀ w ∈ wsX100, w ∈ wsX10_drop := fun _ h => List.mem_cons_of_mem _ (inWX100 _ h)
  have hinX7 : ∀ w ∈ wsX70, w ∈ wsX10_drop := fun _ h => List.mem_cons_of_mem _ (inWX70 _ h)
  have w_1 := hts (Cond.fieldLink RX10 20 "SheetNames" "grid" "LSheetNames$Grid;") (List.mem_cons_of_mem _ t_w876)
  have w_2 := hts (Cond.fieldLink RX10 25 "SheetNames" "pieces" "LSheetNames$Store;") (List.mem_cons_of_mem _ t_w892)
  have wn_25 : (Cond.fieldLinkNest "SheetNames" 376 "SheetNames$Store" "years" "[I" "SheetNames").before ([.ref a_x, .int p1, .int p2] : List Value).toArray s = true := (hZ.2.2.2.2.2.2.2.2.2.1 _ (List.mem_of_getElem? (i := 25) rfl)).use rfl
  unfold f_X_drop at hf
  have hgo : ∀ (H : Heap) (locs : List Loc), H = s.heap → va_P D vwCl ((a_x, .inr (10, [.ref a_at, .ref a_g, .ref a_st, .ref a_x_kept, .int x_keptStates, .ref a_tp, .ref a_rd, .ref a_qu, .ref a_sp, .ref a_wk, .ref a_bx, .ref a_nt, .ref a_nu, .ref a_x_seen])) :: (a_st, .inr (7, [.ref a_g, .ref a_st_levels, .ref a_st_keys, .ref a_st_years, .ref a_st_keysThere, .int st_size, .int st_shownBy, .int st_deepestShown, .int st_latestShown])) :: (a_st_levels, .inl (ci 0, 60, .inl st_levels)) :: (a_st_keys, .inl (ci 0, 60, .inl st_keys)) :: (a_st_years, .inl (ci 0, 60, .inl st_years)) :: (a_g, .inr (2, [.ref a_g_rowCuts, .ref a_g_columnCuts, .ref a_g_bandRows, .ref a_g_zoneColumns, .ref a_g_rows, .ref a_g_sheets])) :: (a_g_bandRows, .inl (ci 0, 5, .inl g_bandRows)) :: (a_g_zoneColumns, .inl (ci 0, 5, .inl g_zoneColumns)) :: (a_g_rows, .inl (ci 0, 5, .inl g_rows)) :: (a_g_sheets, .inl (ci 0, 5, .inl g_sheets)) :: Rw) H → va_S A s.heap H locs → W p l e ({ frames := 3, cells := 0, slots := 0, locals := 75 } : Room) s m ([.ref a_x, .int p1, .int p2] : List Value).toArray below meth c H locs 0 0 Q (F0 m 0 ls []) := by
    intro H locs hH hP hS
    refine lv_aload_n (pc := 0) hx hb dX10_drop_0 rfl (lv_at hl 0 rfl) ?_
    refine va_get (pc := 1) (D := D) (ci := 10) (v := .ref a_g) (C := RX10) (T := TX10) (N := 14) hx hb hts hinX10 hown hK hP 0 rfl rfl 1 (by decide) w_1 (fun _ h9 => h9) rfl dX10_drop_1 ?_
    refine lv_iload_n (pc := 4) hx hb dX10_drop_4 rfl (lv_at hl 1 rfl) ?_
    refine lv_iload_n (pc := 5) hx hb dX10_drop_5 rfl (lv_at hl 2 rfl) ?_
    obtain ⟨v1, hm6, hf⟩ := q_b1_e hf
    refine q_cVr (pc := 6) (As := [.int p1, .int p2]) (rest := []) (v0 := (some (.int v1))) ⟨hx, hb, hml, hown, hts⟩ hK hA hZ hP hD hS hl.1 [5, 9] 10 rfl ⟨rfl, rfl, rfl⟩ (c_Grid_hasSheet l D ci A sa N (Rw) a_g a_g_rowCuts a_g_columnCuts a_g_bandRows a_g_zoneColumns a_g_rows a_g_sheets g_sheets p1 p2 v1 hm6) 5 rfl rfl (cwV 2 hts gX10_drop_X2_hasSheet rfl rfl rfl (by decide +kernel) ⟨Nat.le_of_ble_eq_true rfl, Nat.le_of_ble_eq_true rfl⟩) rfl rfl (Nat.le_of_ble_eq_true rfl) dX10_drop_6 ⟨Nat.zero_le _, Nat.zero_le _⟩ (fun locs hS => ?_)
    refine q_if_ne (pc := 9) (tgt := 14) hx hb dX10_drop_9 (by decide) rfl hf (fun hf => ?_) (fun hf => ?_)
    · refine lv_aload_n (pc := 14) hx hb dX10_drop_14 rfl (lv_at hl 0 rfl) ?_
      refine va_get (pc := 15) (D := D) (ci := 10) (v := .ref a_g) (C := RX10) (T := TX10) (N := 14) hx hb hts hinX10 hown hK hP 0 rfl rfl 1 (by decide) w_1 (fun _ h9 => h9) rfl dX10_drop_15 ?_
      refine lv_iload_n (pc := 18) hx hb dX10_drop_18 rfl (lv_at hl 1 rfl) ?_
      refine lv_iload_n (pc := 19) hx hb dX10_drop_19 rfl (lv_at hl 2 rfl) ?_
      obtain ⟨v2, hm20, hf⟩ := q_b1_e hf
      refine q_cVr (pc := 20) (As := [.int p1, .int p2]) (rest := []) (v0 := (some (.int v2))) ⟨hx, hb, hml, hown, hts⟩ hK hA hZ hP hD hS hl.1 [5, 9] 10 rfl ⟨rfl, rfl, rfl⟩ (c_Grid_storedLevel l D ci A sa N (Rw) a_g a_g_rowCuts a_g_columnCuts a_g_bandRows a_g_zoneColumns a_g_rows a_g_sheets g_sheets p1 p2 v2 hm20) 5 rfl rfl (cwV 2 hts gX10_drop_X2_storedLevel rfl rfl rfl (by decide +kernel) ⟨Nat.le_of_ble_eq_true rfl, Nat.le_of_ble_eq_true rfl⟩) rfl rfl (Nat.le_of_ble_eq_true rfl) dX10_drop_20 ⟨Nat.zero_le _, Nat.zero_le _⟩ (fun locs hS => ?_)
      refine lv_istore_n (pc := 23) (lv' := [(3, .int v2), (0, .ref a_x), (1, .int p1), (2, .int p2)]) hx hb dX10_drop_23 rfl hl (by decide) rfl (fun ls hl => ?_)
      refine lv_aload_n (pc := 24) hx hb dX10_drop_24 rfl (lv_at hl 1 rfl) ?_
      refine va_get (pc := 25) (D := D) (ci := 10) (v := .ref a_st) (C := RX10) (T := TX10) (N := 14) hx hb hts hinX10 hown hK hP 0 rfl rfl 2 (by decide) w_2 (fun _ h9 => h9) rfl dX10_drop_25 ?_
      refine lv_iload_n (pc := 28) hx hb dX10_drop_28 rfl (lv_at hl 0 rfl) ?_
      refine lv_aload_n (pc := 29) hx hb dX10_drop_29 rfl (lv_at hl 1 rfl) ?_
      refine va_get (pc := 30) (D := D) (ci := 10) (v := .ref a_g) (C := RX10) (T := TX10) (N := 14) hx hb hts hinX10 hown hK hP 0 rfl rfl 1 (by decide) w_1 (fun _ h9 => h9) rfl dX10_drop_30 ?_
      refine lv_iload_n (pc := 33) hx hb dX10_drop_33 rfl (lv_at hl 2 rfl) ?_
      refine lv_iload_n (pc := 34) hx hb dX10_drop_34 rfl (lv_at hl 3 rfl) ?_
      refine lv_iload_n (pc := 35) hx hb dX10_drop_35 rfl (lv_at hl 0 rfl) ?_
      obtain ⟨v3, hm36, hf⟩ := q_b1_e hf
      refine q_cVr (pc := 36) (As := [.int p1, .int p2, .int v2]) (rest := [.int v2, .ref a_st]) (v0 := (some (.int v3))) ⟨hx, hb, hml, hown, hts⟩ hK hA hZ hP hD hS hl.1 [5, 6, 7, 8, 9] 10 rfl ⟨rfl, rfl, rfl⟩ (c_Grid_keyAbove l D ci A sa N (Rw) a_g a_g_rowCuts a_g_columnCuts a_g_bandRows a_g_zoneColumns a_g_rows a_g_sheets g_bandRows g_zoneColumns g_rows g_sheets p1 p2 v2 v3 hm36) 5 rfl rfl (cwV 3 hts gX10_drop_X2_keyAbove rfl rfl rfl (by decide +kernel) ⟨Nat.le_of_ble_eq_true rfl, Nat.le_of_ble_eq_true rfl⟩) rfl rfl (Nat.le_of_ble_eq_true rfl) dX10_drop_36 ⟨Nat.zero_le _, Nat.zero_le _⟩ (fun locs hS => ?_)
      obtain ⟨v4, hm39, hf⟩ := q_b1_e hf
      refine q_cVr (pc := 39) (As := [.int v2, .int v3]) (rest := []) (v0 := (some (.int v4))) ⟨hx, hb, hml, hown, hts⟩ hK hA hZ hP hD hS hl.1 [1, 2, 3] 10 rfl ⟨rfl, rfl, rfl⟩ (c_Store_find l D ci A sa N (Rw) a_st a_g a_st_levels a_st_keys a_st_years a_st_keysThere st_size st_shownBy st_deepestShown st_latestShown st_levels st_keys v2 v3 v4 hm39) 1 rfl rfl (cwV 2 hts gX10_drop_X7_find rfl rfl rfl (by decide +kernel) ⟨Nat.le_of_ble_eq_true rfl, Nat.le_of_ble_eq_true rfl⟩) rfl rfl (Nat.le_of_ble_eq_true rfl) dX10_drop_39 ⟨Nat.zero_le _, Nat.zero_le _⟩ (fun locs hS => ?_)
      refine lv_istore (pc := 42) (lv' := [(4, .int v4), (3, .int v2), (0, .ref a_x), (1, .int p1), (2, .int p2)]) hx hb dX10_drop_42 hl (by decide) rfl (fun ls hl => ?_)
      refine lv_iload (pc := 44) hx hb dX10_drop_44 (lv_at hl 0 rfl) ?_
      refine lv_iconst (pc := 46) (v := (-1)) hx hb dX10_drop_46 (by decide) ?_
      refine q_icmp_ne (pc := 47) (tgt := 53) hx hb dX10_drop_47 (by decide) rfl hf (fun hf => ?_) (fun hf => ?_)
      · refine lv_aload_n (pc := 53) hx hb dX10_drop_53 rfl (lv_at hl 2 rfl) ?_
        refine va_get (pc := 54) (D := D) (ci := 10) (v := .ref a_st) (C := RX10) (T := TX10) (N := 14) hx hb hts hinX10 hown hK hP 0 rfl rfl 2 (by decide) w_2 (fun _ h9 => h9) rfl dX10_drop_54 ?_
        refine va_getN (pc := 57) (D := D) (ci := 7) (v := .ref a_st_years) (C := RX7) (T := TX7) (N := 9) hx hb hts hinX7 hown hK hP 1 rfl rfl 3 (by decide) wn_25 (fun _ h9 => h9) rfl dX10_drop_57 ?_
        refine lv_iload (pc := 60) hx hb dX10_drop_60 (lv_at hl 0 rfl) ?_
        refine q_iald (pc := 62) hx hb hK hP 4 0 hf rfl rfl dX10_drop_62 (fun v5 hf => ?_)
        refine lv_istore (pc := 63) (lv' := [(5, .int v5), (4, .int v4), (3, .int v2), (0, .ref a_x), (1, .int p1), (2, .int p2)]) hx hb dX10_drop_63 hl (by decide) rfl (fun ls hl => ?_)
        refine lv_aload_n (pc := 65) hx hb dX10_drop_65 rfl (lv_at hl 3 rfl) ?_
        refine va_get (pc := 66) (D := D) (ci := 10) (v := .ref a_st) (C := RX10) (T := TX10) (N := 14) hx hb hts hinX10 hown hK hP 0 rfl rfl 2 (by decide) w_2 (fun _ h9 => h9) rfl dX10_drop_66 ?_
        refine lv_iload (pc := 69) hx hb dX10_drop_69 (lv_at hl 1 rfl) ?_
        obtain ⟨f6, f7, f8, v9, hm71, hf⟩ := q_b4_e hf
        refine q_cV (pc := 71) (As := [.int v4]) (rest := []) (v0 := none) ⟨hx, hb, hml, hown, hts⟩ hK hA hZ hP hD hS hl.1 [1, 2, 3, 4, 0, 5, 6, 7, 8, 9] 10 rfl ⟨rfl, rfl, rfl⟩ (c_Store_remove l D ci A sa N ((a_x, .inr (10, [.ref a_at, .ref a_g, .ref a_st, .ref a_x_kept, .int x_keptStates, .ref a_tp, .ref a_rd, .ref a_qu, .ref a_sp, .ref a_wk, .ref a_bx, .ref a_nt, .ref a_nu, .ref a_x_seen])) :: (a_g, .inr (2, [.ref a_g_rowCuts, .ref a_g_columnCuts, .ref a_g_bandRows, .ref a_g_zoneColumns, .ref a_g_rows, .ref a_g_sheets])) :: (a_g_bandRows, .inl (ci 0, 5, .inl g_bandRows)) :: (a_g_zoneColumns, .inl (ci 0, 5, .inl g_zoneColumns)) :: (a_g_rows, .inl (ci 0, 5, .inl g_rows)) :: (a_g_sheets, .inl (ci 0, 5, .inl g_sheets)) :: Rw) a_st a_g a_st_levels a_st_keys a_st_years a_st_keysThere st_size st_shownBy st_deepestShown st_latestShown st_levels st_keys st_years v4 f6 f7 f8 v9 hm71) 1 rfl rfl (cwV 1 hts gX10_drop_X7_remove rfl rfl rfl (by decide +kernel) ⟨Nat.le_of_ble_eq_true rfl, Nat.le_of_ble_eq_true rfl⟩) rfl rfl (Nat.le_of_ble_eq_true rfl) dX10_drop_71 ⟨Nat.zero_le _, Nat.zero_le _⟩ [4, 0, 1, 2, 3, 5, 6, 7, 8, 9] 10 rfl ⟨rfl, rfl, rfl⟩ (fun H locs hP hD hS => ?_)
        obtain ⟨hP, hD⟩ : va_PD D A ((a_x, .inr (10, [.ref a_at, .ref a_g, .ref a_st, .ref a_x_kept, .int x_keptStates, .ref a_tp, .ref a_rd, .ref a_qu, .ref a_sp, .ref a_wk, .ref a_bx, .ref a_nt, .ref a_nu, .ref a_x_seen])) :: (a_st, .inr (7, [.ref a_g, .ref a_st_levels, .ref a_st_keys, .ref a_st_years, .ref a_st_keysThere, .int v9, .int st_shownBy, .int st_deepestShown, .int st_latestShown])) :: (a_st_levels, .inl (ci 0, 60, .inl f6)) :: (a_st_keys, .inl (ci 0, 60, .inl f7)) :: (a_st_years, .inl (ci 0, 60, .inl f8)) :: (a_g, .inr (2, [.ref a_g_rowCuts, .ref a_g_columnCuts, .ref a_g_bandRows, .ref a_g_zoneColumns, .ref a_g_rows, .ref a_g_sheets])) :: (a_g_bandRows, .inl (ci 0, 5, .inl g_bandRows)) :: (a_g_zoneColumns, .inl (ci 0, 5, .inl g_zoneColumns)) :: (a_g_rows, .inl (ci 0, 5, .inl g_rows)) :: (a_g_sheets, .inl (ci 0, 5, .inl g_sheets)) :: Rw) H := ⟨hP, hD⟩
        refine lv_iload (pc := 74) hx hb dX10_drop_74 (lv_at hl 0 rfl) ?_
        obtain ⟨e90, e91, e92, e93, e94⟩ := q_inj5 (Option.some.inj hf)
        rw [hQ, ← e90, ← e91, ← e92, ← e93, ← e94]
        exact q_iret (pc := 76) hx hb hr hlocks hP hD hS dX10_drop_76
      · refine lv_bipush (pc := 50) (v := (-2)) hx hb dX10_drop_50 (by decide) ?_
        obtain ⟨e90, e91, e92, e93, e94⟩ := q_inj5 (Option.some.inj hf)
        rw [hQ, ← e90, ← e91, ← e92, ← e93, ← e94]
        exact q_iret (pc := 52) hx hb hr hlocks hP hD hS dX10_drop_52
    · refine lv_iconst (pc := 12) (v := (-1)) hx hb dX10_drop_12 (by decide) ?_
      obtain ⟨e90, e91, e92, e93, e94⟩ := q_inj5 (Option.some.inj hf)
      rw [hQ, ← e90, ← e91, ← e92, ← e93, ← e94]
      exact q_iret (pc := 13) hx hb hr hlocks hP hD hS dX10_drop_13
  exact hgo _ _ rfl hP hS
/-! X10_edge -/
set_option maxRecDepth 100000 in
set_option maxHeartbeats 4000000 in
theorem c_X_edge (l : Launch) (D : va_G) (ci : Nat → ClassId) (A : Nat → Prop) (sa : Nat → Nat) (N : Nat) (Rw : va_W) (a_x : Nat) (a_at : Nat) (a_g : Nat) (a_st : Nat) (a_x_kept : Nat) (a_tp : Nat) (a_rd : Nat) (a_qu : Nat) (a_sp : Nat) (a_wk : Nat) (a_bx : Nat) (a_nt : Nat) (a_nu : Nat) (a_x_seen : Nat) (a_sp_first : Nat) (a_sp_many : Nat) (a_sp_corner : Nat) (a_g_rowCuts : Nat) (a_g_columnCuts : Nat) (a_g_bandRows : Nat) (a_g_zoneColumns : Nat) (a_g_rows : Nat) (a_g_sheets : Nat) (x_keptStates : Int32) (sp_cornerCount : Int32) (sp_level : Int32) (sp_row : Int32) (sp_start : Int32) (sp_place : Int32) (sp_length : Int32) (sp_cap : Int32) (g_bandRows : Nat → Int32) (g_zoneColumns : Nat → Int32) (g_rows : Nat → Int32) (g_sheets : Nat → Int32) (p1 : Int32) (p2 : Int32) (p3 : Int32) (r : Int64) (o1 : Int32) (o2 : Int32) (o3 : Int32) (o4 : Int32) (o5 : Int32) (o6 : Int32) (hf : f_X_edge N sp_level sp_row sp_start sp_place sp_length sp_cap g_bandRows g_zoneColumns g_rows g_sheets p1 p2 p3 = some (r, o1, o2, o3, o4, o5, o6)) : Met l yX10_edge wsX10_edge ({ frames := 3, cells := 0, slots := 0, locals := 71 }) (va_Pc [.ref a_x, .int p1, .int p2, .int p3] (q_N D ci A sa ((a_x, .inr (10, [.ref a_at, .ref a_g, .ref a_st, .ref a_x_kept, .int x_keptStates, .ref a_tp, .ref a_rd, .ref a_qu, .ref a_sp, .ref a_wk, .ref a_bx, .ref a_nt, .ref a_nu, .ref a_x_seen])) :: (a_sp, .inr (6, [.ref a_g, .ref a_sp_first, .ref a_sp_many, .ref a_sp_corner, .int sp_cornerCount, .int sp_level, .int sp_row, .int sp_start, .int sp_place, .int sp_length, .int sp_cap])) :: (a_g, .inr (2, [.ref a_g_rowCuts, .ref a_g_columnCuts, .ref a_g_bandRows, .ref a_g_zoneColumns, .ref a_g_rows, .ref a_g_sheets])) :: (a_g_bandRows, .inl (ci 0, 5, .inl g_bandRows)) :: (a_g_zoneColumns, .inl (ci 0, 5, .inl g_zoneColumns)) :: (a_g_rows, .inl (ci 0, 5, .inl g_rows)) :: (a_g_sheets, .inl (ci 0, 5, .inl g_sheets)) :: Rw))) (q_Q (some (.long r)) (q_O D A ((a_x, .inr (10, [.ref a_at, .ref a_g, .ref a_st, .ref a_x_kept, .int x_keptStates, .ref a_tp, .ref a_rd, .ref a_qu, .ref a_sp, .ref a_wk, .ref a_bx, .ref a_nt, .ref a_nu, .ref a_x_seen])) :: (a_sp, .inr (6, [.ref a_g, .ref a_sp_first, .ref a_sp_many, .ref a_sp_corner, .int sp_cornerCount, .int o1, .int o2, .int o3, .int o4, .int o5, .int o6])) :: (a_g, .inr (2, [.ref a_g_rowCuts, .ref a_g_columnCuts, .ref a_g_bandRows, .ref a_g_zoneColumns, .ref a_g_rows, .ref a_g_sheets])) :: (a_g_bandRows, .inl (ci 0, 5, .inl g_bandRows)) :: (a_g_zoneColumns, .inl (ci 0, 5, .inl g_zoneColumns)) :: (a_g_rows, .inl (ci 0, 5, .inl g_rows)) :: (a_g_sheets, .inl (ci 0, 5, .inl g_sheets)) :: Rw)) A) 0 0 A := by
  refine q_ofW (cc := cX10_edge) (maxL := 10) (ret := (some .long)) [.ref a_x, .int p1, .int p2, .int p3] (plainFor_of_name (by decide)) rfl (Nat.le_of_ble_eq_true rfl) ?_
  intro p e s m below meth c ls Q hQ hx hb hml hr hts hown hlocks hK hA hZ hP hD hS hl
  have hl : lv_has ls 10 [(0, .ref a_x), (1, .int p1), (2, .int p2), (3, .int p3)] := hl
  have hown : s.vm.findClass RX10 = some m.cls := hown
  have hinX10 : ∀ w ∈ wsX100, w ∈ wsX10_edge := fun _ h => List.mem_cons_of_mem _ (inWX100 _ h)
  have w_1 := hts (Cond.fieldLink RX10 20 "SheetNames" "grid" "LSheetNames$Grid;") (List.mem_cons_of_mem _ t_w876)
  have w_2 := hts (Cond.constantLong RX10 188 (-9223372036854775808)) (List.mem_cons_of_mem _ t_w899)
  have w_3 := hts (Cond.fieldLink RX10 66 "SheetNames" "spot" "LSheetNames$Spot;") (List.mem_cons_of_mem _ t_w877)
  have w_4 := hts (Cond.methodLink RX10 197 Lib.MathLoose.abs_long.x) (List.mem_cons_of_mem _ t_w900)
  have w_5 := hts (Cond.static Lib.MathLoose.abs_long.x) (List.mem_cons_of_mem _ t_w901)
  have w_6 := hts (Cond.initialized "java/lang/Math") (List.mem_cons_of_mem _ t_w76)
  have w_7 := hts (Cond.code Lib.MathLoose.abs_long.x Lib.MathLoose.abs_long.code 2 (some .long)) (List.mem_cons_of_mem _ t_w902)
  unfold f_X_edge at hf
  have hgo : ∀ (H : Heap) (locs : List Loc), H = s.heap → va_P D vwCl ((a_x, .inr (10, [.ref a_at, .ref a_g, .ref a_st, .ref a_x_kept, .int x_keptStates, .ref a_tp, .ref a_rd, .ref a_qu, .ref a_sp, .ref a_wk, .ref a_bx, .ref a_nt, .ref a_nu, .ref a_x_seen])) :: (a_sp, .inr (6, [.ref a_g, .ref a_sp_first, .ref a_sp_many, .ref a_sp_corner, .int sp_cornerCount, .int sp_level, .int sp_row, .int sp_start, .int sp_place, .int sp_length, .int sp_cap])) :: (a_g, .inr (2, [.ref a_g_rowCuts, .ref a_g_columnCuts, .ref a_g_bandRows, .ref a_g_zoneColumns, .ref a_g_rows, .ref a_g_sheets])) :: (a_g_bandRows, .inl (ci 0, 5, .inl g_bandRows)) :: (a_g_zoneColumns, .inl (ci 0, 5, .inl g_zoneColumns)) :: (a_g_rows, .inl (ci 0, 5, .inl g_rows)) :: (a_g_sheets, .inl (ci 0, 5, .inl g_sheets)) :: Rw) H → va_S A s.heap H locs → W p l e ({ frames := 3, cells := 0, slots := 0, locals := 71 } : Room) s m ([.ref a_x, .int p1, .int p2, .int p3] : List Value).toArray below meth c H locs 0 0 Q (F0 m 0 ls []) := by
    intro H locs hH hP hS
    refine lv_aload_n (pc := 0) hx hb dX10_edge_0 rfl (lv_at hl 0 rfl) ?_
    refine va_get (pc := 1) (D := D) (ci := 10) (v := .ref a_g) (C := RX10) (T := TX10) (N := 14) hx hb hts hinX10 hown hK hP 0 rfl rfl 1 (by decide) w_1 (fun _ h9 => h9) rfl dX10_edge_1 ?_
    refine lv_iload_n (pc := 4) hx hb dX10_edge_4 rfl (lv_at hl 1 rfl) ?_
    refine lv_iload_n (pc := 5) hx hb dX10_edge_5 rfl (lv_at hl 2 rfl) ?_
    obtain ⟨v1, hm6, hf⟩ := q_b1_e hf
    refine q_cVr (pc := 6) (As := [.int p1, .int p2]) (rest := []) (v0 := (some (.int v1))) ⟨hx, hb, hml, hown, hts⟩ hK hA hZ hP hD hS hl.1 [2, 6] 7 rfl ⟨rfl, rfl, rfl⟩ (c_Grid_hasSheet l D ci A sa N (Rw) a_g a_g_rowCuts a_g_columnCuts a_g_bandRows a_g_zoneColumns a_g_rows a_g_sheets g_sheets p1 p2 v1 hm6) 2 rfl rfl (cwV 2 hts gX10_edge_X2_hasSheet rfl rfl rfl (by decide +kernel) ⟨Nat.le_of_ble_eq_true rfl, Nat.le_of_ble_eq_true rfl⟩) rfl rfl (Nat.le_of_ble_eq_true rfl) dX10_edge_6 ⟨Nat.zero_le _, Nat.zero_le _⟩ (fun locs hS => ?_)
    refine q_if_eq (pc := 9) (tgt := 22) hx hb dX10_edge_9 (by decide) rfl hf (fun hf => ?_) (fun hf => ?_)
    · refine lv_ldc2 (pc := 22) (v := (-9223372036854775808)) hx hb hown w_2 dX10_edge_22 ?_
      obtain ⟨e90, e91, e92, e93, e94, e95, e96⟩ := q_inj7 (Option.some.inj hf)
      rw [hQ, ← e90, ← e91, ← e92, ← e93, ← e94, ← e95, ← e96]
      exact q_lret (pc := 25) hx hb hr hlocks hP hD hS dX10_edge_25
    · refine lv_iload_n (pc := 12) hx hb dX10_edge_12 rfl (lv_at hl 3 rfl) ?_
      refine lv_iconst (pc := 13) (v := 0) hx hb dX10_edge_13 (by decide) ?_
      refine lv_bipush (pc := 14) (v := 7) hx hb dX10_edge_14 (by decide) ?_
      obtain ⟨v2, hm16, hf⟩ := q_b1_e hf
      refine q_cSr (pc := 16) (As := [.int p3, .int 0, .int 7]) (rest := []) (v0 := (some (.int v2))) ⟨hx, hb, hml, hown, hts⟩ hK hA hZ hP hD hS hl.1 [] 7 rfl ⟨rfl, rfl, rfl⟩ (c_X_isFrom l D ci A sa N (Rw) p3 0 7 v2 hm16) (va_cwS 3 hts gX10_edge_X10_isFrom rfl rfl rfl (by decide +kernel) ⟨Nat.le_of_ble_eq_true rfl, Nat.le_of_ble_eq_true rfl⟩) rfl rfl (Nat.le_of_ble_eq_true rfl) dX10_edge_16 ⟨Nat.zero_le _, Nat.zero_le _⟩ (fun locs hS => ?_)
      refine q_if_ne (pc := 19) (tgt := 26) hx hb dX10_edge_19 (by decide) rfl hf (fun hf => ?_) (fun hf => ?_)
      · refine lv_aload_n (pc := 26) hx hb dX10_edge_26 rfl (lv_at hl 0 rfl) ?_
        refine va_get (pc := 27) (D := D) (ci := 10) (v := .ref a_sp) (C := RX10) (T := TX10) (N := 14) hx hb hts hinX10 hown hK hP 0 rfl rfl 8 (by decide) w_3 (fun _ h9 => h9) rfl dX10_edge_27 ?_
        refine lv_iload_n (pc := 30) hx hb dX10_edge_30 rfl (lv_at hl 1 rfl) ?_
        refine lv_iload_n (pc := 31) hx hb dX10_edge_31 rfl (lv_at hl 2 rfl) ?_
        obtain ⟨v3, v4, v5, v6, v7, v8, hm32, hf⟩ := q_b6_e hf
        refine q_cV (pc := 32) (As := [.int p1, .int p2]) (rest := []) (v0 := none) ⟨hx, hb, hml, hown, hts⟩ hK hA hZ hP hD hS hl.1 [1, 2, 3, 4, 5, 6, 0] 7 rfl ⟨rfl, rfl, rfl⟩ (c_Spot_put l D ci A sa N ((a_x, .inr (10, [.ref a_at, .ref a_g, .ref a_st, .ref a_x_kept, .int x_keptStates, .ref a_tp, .ref a_rd, .ref a_qu, .ref a_sp, .ref a_wk, .ref a_bx, .ref a_nt, .ref a_nu, .ref a_x_seen])) :: Rw) a_sp a_g a_sp_first a_sp_many a_sp_corner a_g_rowCuts a_g_columnCuts a_g_bandRows a_g_zoneColumns a_g_rows a_g_sheets sp_cornerCount sp_level sp_row sp_start sp_place sp_length sp_cap g_bandRows g_zoneColumns g_rows g_sheets p1 p2 v3 v4 v5 v6 v7 v8 hm32) 1 rfl rfl (cwV 2 hts gX10_edge_X6_put rfl rfl rfl (by decide +kernel) ⟨Nat.le_of_ble_eq_true rfl, Nat.le_of_ble_eq_true rfl⟩) rfl rfl (Nat.le_of_ble_eq_true rfl) dX10_edge_32 ⟨Nat.zero_le _, Nat.zero_le _⟩ [6, 0, 1, 2, 3, 4, 5] 7 rfl ⟨rfl, rfl, rfl⟩ (fun H locs hP hD hS => ?_)
        obtain ⟨hP, hD⟩ : va_PD D A ((a_x, .inr (10, [.ref a_at, .ref a_g, .ref a_st, .ref a_x_kept, .int x_keptStates, .ref a_tp, .ref a_rd, .ref a_qu, .ref a_sp, .ref a_wk, .ref a_bx, .ref a_nt, .ref a_nu, .ref a_x_seen])) :: (a_sp, .inr (6, [.ref a_g, .ref a_sp_first, .ref a_sp_many, .ref a_sp_corner, .int sp_cornerCount, .int v3, .int v4, .int v5, .int v6, .int v7, .int v8])) :: (a_g, .inr (2, [.ref a_g_rowCuts, .ref a_g_columnCuts, .ref a_g_bandRows, .ref a_g_zoneColumns, .ref a_g_rows, .ref a_g_sheets])) :: (a_g_bandRows, .inl (ci 0, 5, .inl g_bandRows)) :: (a_g_zoneColumns, .inl (ci 0, 5, .inl g_zoneColumns)) :: (a_g_rows, .inl (ci 0, 5, .inl g_rows)) :: (a_g_sheets, .inl (ci 0, 5, .inl g_sheets)) :: Rw) H := ⟨hP, hD⟩
        refine lv_aload_n (pc := 35) hx hb dX10_edge_35 rfl (lv_at hl 0 rfl) ?_
        refine va_get (pc := 36) (D := D) (ci := 10) (v := .ref a_sp) (C := RX10) (T := TX10) (N := 14) hx hb hts hinX10 hown hK hP 0 rfl rfl 8 (by decide) w_3 (fun _ h9 => h9) rfl dX10_edge_36 ?_
        refine lv_iload_n (pc := 39) hx hb dX10_edge_39 rfl (lv_at hl 3 rfl) ?_
        refine lv_iconst (pc := 40) (v := 2) hx hb dX10_edge_40 (by decide) ?_
        refine q_idiv (pc := 41) hx hb dX10_edge_41 hf (fun v9 hf => ?_)
        obtain ⟨v10, hm42, hf⟩ := q_b1_e hf
        refine q_cVr (pc := 42) (As := [.int v9]) (rest := []) (v0 := (some (.long v10))) ⟨hx, hb, hml, hown, hts⟩ hK hA hZ hP hD hS hl.1 [1, 2, 3] 7 rfl ⟨rfl, rfl, rfl⟩ (c_Spot_edgeTop l D ci A sa N (Rw) a_sp a_g a_sp_first a_sp_many a_sp_corner a_g_rowCuts a_g_columnCuts a_g_bandRows a_g_zoneColumns a_g_rows a_g_sheets sp_cornerCount v3 v4 v5 v6 v7 v8 g_bandRows v9 v10 hm42) 1 rfl rfl (cwV 1 hts gX10_edge_X6_edgeTop rfl rfl rfl (by decide +kernel) ⟨Nat.le_of_ble_eq_true rfl, Nat.le_of_ble_eq_true rfl⟩) rfl rfl (Nat.le_of_ble_eq_true rfl) dX10_edge_42 ⟨Nat.zero_le _, Nat.zero_le _⟩ (fun locs hS => ?_)
        refine lv_lstore (pc := 45) (lv' := [(4, .long v10), (0, .ref a_x), (1, .int p1), (2, .int p2), (3, .int p3)]) hx hb dX10_edge_45 hl (by decide) rfl (fun ls hl => ?_)
        refine lv_aload_n (pc := 47) hx hb dX10_edge_47 rfl (lv_at hl 1 rfl) ?_
        refine va_get (pc := 48) (D := D) (ci := 10) (v := .ref a_sp) (C := RX10) (T := TX10) (N := 14) hx hb hts hinX10 hown hK hP 0 rfl rfl 8 (by decide) w_3 (fun _ h9 => h9) rfl dX10_edge_48 ?_
        refine lv_iload_n (pc := 51) hx hb dX10_edge_51 rfl (lv_at hl 4 rfl) ?_
        refine lv_iconst (pc := 52) (v := 2) hx hb dX10_edge_52 (by decide) ?_
        refine q_idiv (pc := 53) hx hb dX10_edge_53 hf (fun v11 hf => ?_)
        obtain ⟨v12, hm54, hf⟩ := q_b1_e hf
        refine q_cVr (pc := 54) (As := [.int v11]) (rest := []) (v0 := (some (.long v12))) ⟨hx, hb, hml, hown, hts⟩ hK hA hZ hP hD hS hl.1 [1, 2, 3] 7 rfl ⟨rfl, rfl, rfl⟩ (c_Spot_edgeBottom l D ci A sa N (Rw) a_sp a_g a_sp_first a_sp_many a_sp_corner a_g_rowCuts a_g_columnCuts a_g_bandRows a_g_zoneColumns a_g_rows a_g_sheets sp_cornerCount v3 v4 v5 v6 v7 v8 g_bandRows v11 v12 hm54) 1 rfl rfl (cwV 1 hts gX10_edge_X6_edgeBottom rfl rfl rfl (by decide +kernel) ⟨Nat.le_of_ble_eq_true rfl, Nat.le_of_ble_eq_true rfl⟩) rfl rfl (Nat.le_of_ble_eq_true rfl) dX10_edge_54 ⟨Nat.zero_le _, Nat.zero_le _⟩ (fun locs hS => ?_)
        refine lv_lstore (pc := 57) (lv' := [(6, .long v12), (4, .long v10), (0, .ref a_x), (1, .int p1), (2, .int p2), (3, .int p3)]) hx hb dX10_edge_57 hl (by decide) rfl (fun ls hl => ?_)
        refine lv_lload (pc := 59) hx hb dX10_edge_59 (lv_at hl 1 rfl) ?_
        obtain ⟨v13, ev13, hf⟩ := q_nm_e hf
        refine va_mabs_long (pc := 61) hx hb (hml.trans hl.1.symm) hown w_4 w_5 w_6 w_7 (Nat.le_of_ble_eq_true rfl) (Nat.le_of_ble_eq_true rfl) (Nat.zero_le _) (Nat.zero_le _) dX10_edge_61 ?_
        refine q_topl ev13 ?_
        refine lv_lload (pc := 64) hx hb dX10_edge_64 (lv_at hl 0 rfl) ?_
        obtain ⟨v14, hm66, hf⟩ := q_b1_e hf
        refine q_cSr (pc := 66) (As := [.long v13, .long v12]) (rest := []) (v0 := (some (.long v14))) ⟨hx, hb, hml, hown, hts⟩ hK hA hZ hP hD hS hl.1 [] 7 rfl ⟨rfl, rfl, rfl⟩ (c_X_commonDivisor l D ci A sa N (Rw) v13 v12 v14 hm66) (va_cwS 2 hts gX10_edge_X10_commonDivisor rfl rfl rfl (by decide +kernel) ⟨Nat.le_of_ble_eq_true rfl, Nat.le_of_ble_eq_true rfl⟩) rfl rfl (Nat.le_of_ble_eq_true rfl) dX10_edge_66 ⟨Nat.zero_le _, Nat.zero_le _⟩ (fun locs hS => ?_)
        refine lv_lstore (pc := 69) (lv' := [(8, .long v14), (6, .long v12), (4, .long v10), (0, .ref a_x), (1, .int p1), (2, .int p2), (3, .int p3)]) hx hb dX10_edge_69 hl (by decide) rfl (fun ls hl => ?_)
        refine lv_lload (pc := 71) hx hb dX10_edge_71 (lv_at hl 0 rfl) ?_
        refine lv_lconst (pc := 73) (v := 1) hx hb dX10_edge_73 (by decide) ?_
        refine W.lcmp (pc := 74) hx hb dX10_edge_74 ?_
        refine q_if_ge (pc := 75) (tgt := 82) hx hb dX10_edge_75 (by decide) rfl hf (fun hf => ?_) (fun hf => ?_)
        · refine lv_iload_n (pc := 82) hx hb dX10_edge_82 rfl (lv_at hl 6 rfl) ?_
          refine lv_iconst (pc := 83) (v := 2) hx hb dX10_edge_83 (by decide) ?_
          refine q_irem (pc := 84) hx hb dX10_edge_84 hf (fun v15 hf => ?_)
          refine q_if_ne (pc := 85) (tgt := 96) hx hb dX10_edge_85 (by decide) rfl hf (fun hf => ?_) (fun hf => ?_)
          · refine lv_lload (pc := 96) hx hb dX10_edge_96 (lv_at hl 1 rfl) ?_
            refine lv_lload (pc := 98) hx hb dX10_edge_98 (lv_at hl 0 rfl) ?_
            refine q_ldiv (pc := 100) hx hb dX10_edge_100 hf (fun v16 hf => ?_)
            obtain ⟨e90, e91, e92, e93, e94, e95, e96⟩ := q_inj7 (Option.some.inj hf)
            rw [hQ, ← e90, ← e91, ← e92, ← e93, ← e94, ← e95, ← e96]
            exact q_lret (pc := 101) hx hb hr hlocks hP hD hS dX10_edge_101
          · refine lv_lload (pc := 88) hx hb dX10_edge_88 (lv_at hl 2 rfl) ?_
            refine lv_lload (pc := 90) hx hb dX10_edge_90 (lv_at hl 0 rfl) ?_
            refine q_ldiv (pc := 92) hx hb dX10_edge_92 hf (fun v17 hf => ?_)
            refine lv_goto (pc := 93) (tgt := 101) hx hb dX10_edge_93 (by decide) ?_
            obtain ⟨e90, e91, e92, e93, e94, e95, e96⟩ := q_inj7 (Option.some.inj hf)
            rw [hQ, ← e90, ← e91, ← e92, ← e93, ← e94, ← e95, ← e96]
            exact q_lret (pc := 101) hx hb hr hlocks hP hD hS dX10_edge_101
        · refine lv_ldc2 (pc := 78) (v := (-9223372036854775808)) hx hb hown w_2 dX10_edge_78 ?_
          obtain ⟨e90, e91, e92, e93, e94, e95, e96⟩ := q_inj7 (Option.some.inj hf)
          rw [hQ, ← e90, ← e91, ← e92, ← e93, ← e94, ← e95, ← e96]
          exact q_lret (pc := 81) hx hb hr hlocks hP hD hS dX10_edge_81
      · refine lv_ldc2 (pc := 22) (v := (-9223372036854775808)) hx hb hown w_2 dX10_edge_22 ?_
        obtain ⟨e90, e91, e92, e93, e94, e95, e96⟩ := q_inj7 (Option.some.inj hf)
        rw [hQ, ← e90, ← e91, ← e92, ← e93, ← e94, ← e95, ← e96]
        exact q_lret (pc := 25) hx hb hr hlocks hP hD hS dX10_edge_25
  exact hgo _ _ rfl hP hS
/-! X10_farthest -/
set_option maxRecDepth 100000 in
set_option maxHeartbeats 4000000 in
theorem c_X_farthest (l : Launch) (D : va_G) (ci : Nat → ClassId) (A : Nat → Prop) (sa : Nat → Nat) (N : Nat) (Rw : va_W) (a_x : Nat) (a_at : Nat) (a_g : Nat) (a_st : Nat) (a_x_kept : Nat) (a_tp : Nat) (a_rd : Nat) (a_qu : Nat) (a_sp : Nat) (a_wk : Nat) (a_bx : Nat) (a_nt : Nat) (a_nu : Nat) (a_x_seen : Nat) (a_ws : Nat) (a_wk_steps : Nat) (a_wk_reached : Nat) (n_wk_steps : Nat) (n_wk_reached : Nat) (a_ws_first : Nat) (a_ws_many : Nat) (a_ws_corner : Nat) (a_g_rowCuts : Nat) (a_g_columnCuts : Nat) (a_g_bandRows : Nat) (a_g_zoneColumns : Nat) (a_g_rows : Nat) (a_g_sheets : Nat) (x_keptStates : Int32) (wk_many : Int32) (wk_steps : Nat → Int32) (wk_reached : Nat → Int32) (ws_cornerCount : Int32) (ws_level : Int32) (ws_row : Int32) (ws_start : Int32) (ws_place : Int32) (ws_length : Int32) (ws_cap : Int32) (ws_first : Nat → Int32) (ws_many : Nat → Int32) (g_bandRows : Nat → Int32) (g_zoneColumns : Nat → Int32) (g_rows : Nat → Int32) (g_sheets : Nat → Int32) (p1 : Int32) (p2 : Int32) (p3 : Int32) (r : Int32) (o1 : Nat → Int32) (o2 : Nat → Int32) (o3 : Int32) (o4 : Nat → Int32) (o5 : Nat → Int32) (o6 : Int32) (o7 : Int32) (o8 : Int32) (o9 : Int32) (o10 : Int32) (o11 : Int32) (hf : f_X_farthest N n_wk_steps n_wk_reached wk_steps wk_reached wk_many ws_first ws_many ws_level ws_row ws_start ws_place ws_length ws_cap g_bandRows g_zoneColumns g_rows g_sheets p1 p2 p3 = some (r, o1, o2, o3, o4, o5, o6, o7, o8, o9, o10, o11)) : Met l yX10_farthest wsX10_farthest ({ frames := 4, cells := 0, slots := 0, locals := 112 }) (va_Pc [.ref a_x, .int p1, .int p2, .int p3] (q_N D ci A sa ((a_x, .inr (10, [.ref a_at, .ref a_g, .ref a_st, .ref a_x_kept, .int x_keptStates, .ref a_tp, .ref a_rd, .ref a_qu, .ref a_sp, .ref a_wk, .ref a_bx, .ref a_nt, .ref a_nu, .ref a_x_seen])) :: (a_wk, .inr (9, [.ref a_ws, .ref a_wk_steps, .ref a_wk_reached, .int wk_many])) :: (a_wk_steps, .inl (ci 0, n_wk_steps, .inl wk_steps)) :: (a_wk_reached, .inl (ci 0, n_wk_reached, .inl wk_reached)) :: (a_ws, .inr (6, [.ref a_g, .ref a_ws_first, .ref a_ws_many, .ref a_ws_corner, .int ws_cornerCount, .int ws_level, .int ws_row, .int ws_start, .int ws_place, .int ws_length, .int ws_cap])) :: (a_ws_first, .inl (ci 0, 4, .inl ws_first)) :: (a_ws_many, .inl (ci 0, 4, .inl ws_many)) :: (a_g, .inr (2, [.ref a_g_rowCuts, .ref a_g_columnCuts, .ref a_g_bandRows, .ref a_g_zoneColumns, .ref a_g_rows, .ref a_g_sheets])) :: (a_g_bandRows, .inl (ci 0, 5, .inl g_bandRows)) :: (a_g_zoneColumns, .inl (ci 0, 5, .inl g_zoneColumns)) :: (a_g_rows, .inl (ci 0, 5, .inl g_rows)) :: (a_g_sheets, .inl (ci 0, 5, .inl g_sheets)) :: Rw))) (q_Q (some (.int r)) (q_O D A ((a_x, .inr (10, [.ref a_at, .ref a_g, .ref a_st, .ref a_x_kept, .int x_keptStates, .ref a_tp, .ref a_rd, .ref a_qu, .ref a_sp, .ref a_wk, .ref a_bx, .ref a_nt, .ref a_nu, .ref a_x_seen])) :: (a_wk, .inr (9, [.ref a_ws, .ref a_wk_steps, .ref a_wk_reached, .int o3])) :: (a_wk_steps, .inl (ci 0, n_wk_steps, .inl o1)) :: (a_wk_reached, .inl (ci 0, n_wk_reached, .inl o2)) :: (a_ws, .inr (6, [.ref a_g, .ref a_ws_first, .ref a_ws_many, .ref a_ws_corner, .int ws_cornerCount, .int o6, .int o7, .int o8, .int o9, .int o10, .int o11])) :: (a_ws_first, .inl (ci 0, 4, .inl o4)) :: (a_ws_many, .inl (ci 0, 4, .inl o5)) :: (a_g, .inr (2, [.ref a_g_rowCuts, .ref a_g_columnCuts, .ref a_g_bandRows, .ref a_g_zoneColumns, .ref a_g_rows, .ref a_g_sheets])) :: (a_g_bandRows, .inl (ci 0, 5, .inl g_bandRows)) :: (a_g_zoneColumns, .inl (ci 0, 5, .inl g_zoneColumns)) :: (a_g_rows, .inl (ci 0, 5, .inl g_rows)) :: (a_g_sheets, .inl (ci 0, 5, .inl g_sheets)) :: Rw)) A) 0 0 A := by
  refine q_ofW (cc := cX10_farthest) (maxL := 5) (ret := (some .int)) [.ref a_x, .int p1, .int p2, .int p3] (plainFor_of_name (by decide)) rfl (Nat.le_of_ble_eq_true rfl) ?_
  intro p e s m below meth c ls Q hQ hx hb hml hr hts hown hlocks hK hA hZ hP hD hS hl
  have hl : lv_has ls 5 [(0, .ref a_x), (1, .int p1), (2, .int p2), (3, .int p3)] := hl
  have hown : s.vm.findClass RX10 = some m.cls := hown
  have hinX10 : ∀ w ∈ wsX100, w ∈ wsX10_farthest := fun _ h => List.mem_cons_of_mem _ (inWX100 _ h)
  have hinX2 : ∀ w ∈ wsX20, w ∈ wsX10_farthest := fun _ h => List.mem_cons_of_mem _ (inWX20 _ h)
  have w_1 := hts (Cond.fieldLink RX10 20 "SheetNames" "grid" "LSheetNames$Grid;") (List.mem_cons_of_mem _ t_w876)
  have w_2 := hts (Cond.fieldLink RX10 73 "SheetNames" "walk" "LSheetNames$Walk;") (List.mem_cons_of_mem _ t_w881)
  have wn_1 : (Cond.fieldLinkNest "SheetNames" 126 "SheetNames$Grid" "sheets" "[I" "SheetNames").before ([.ref a_x, .int p1, .int p2, .int p3] : List Value).toArray s = true := (hZ.2.2.2.2.2.2.2.2.2.1 _ (List.mem_of_getElem? (i := 1) rfl)).use rfl
  unfold f_X_farthest at hf
  have hgo : ∀ (H : Heap) (locs : List Loc), H = s.heap → va_P D vwCl ((a_x, .inr (10, [.ref a_at, .ref a_g, .ref a_st, .ref a_x_kept, .int x_keptStates, .ref a_tp, .ref a_rd, .ref a_qu, .ref a_sp, .ref a_wk, .ref a_bx, .ref a_nt, .ref a_nu, .ref a_x_seen])) :: (a_wk, .inr (9, [.ref a_ws, .ref a_wk_steps, .ref a_wk_reached, .int wk_many])) :: (a_wk_steps, .inl (ci 0, n_wk_steps, .inl wk_steps)) :: (a_wk_reached, .inl (ci 0, n_wk_reached, .inl wk_reached)) :: (a_ws, .inr (6, [.ref a_g, .ref a_ws_first, .ref a_ws_many, .ref a_ws_corner, .int ws_cornerCount, .int ws_level, .int ws_row, .int ws_start, .int ws_place, .int ws_length, .int ws_cap])) :: (a_ws_first, .inl (ci 0, 4, .inl ws_first)) :: (a_ws_many, .inl (ci 0, 4, .inl ws_many)) :: (a_g, .inr (2, [.ref a_g_rowCuts, .ref a_g_columnCuts, .ref a_g_bandRows, .ref a_g_zoneColumns, .ref a_g_rows, .ref a_g_sheets])) :: (a_g_bandRows, .inl (ci 0, 5, .inl g_bandRows)) :: (a_g_zoneColumns, .inl (ci 0, 5, .inl g_zoneColumns)) :: (a_g_rows, .inl (ci 0, 5, .inl g_rows)) :: (a_g_sheets, .inl (ci 0, 5, .inl g_sheets)) :: Rw) H → va_S A s.heap H locs → W p l e ({ frames := 4, cells := 0, slots := 0, locals := 112 } : Room) s m ([.ref a_x, .int p1, .int p2, .int p3] : List Value).toArray below meth c H locs 0 0 Q (F0 m 0 ls []) := by
    intro H locs hH hP hS
    refine lv_aload_n (pc := 0) hx hb dX10_farthest_0 rfl (lv_at hl 0 rfl) ?_
    refine va_get (pc := 1) (D := D) (ci := 10) (v := .ref a_g) (C := RX10) (T := TX10) (N := 14) hx hb hts hinX10 hown hK hP 0 rfl rfl 1 (by decide) w_1 (fun _ h9 => h9) rfl dX10_farthest_1 ?_
    refine lv_iload_n (pc := 4) hx hb dX10_farthest_4 rfl (lv_at hl 1 rfl) ?_
    refine lv_iload_n (pc := 5) hx hb dX10_farthest_5 rfl (lv_at hl 2 rfl) ?_
    obtain ⟨v1, hm6, hf⟩ := q_b1_e hf
    refine q_cVr (pc := 6) (As := [.int p1, .int p2]) (rest := []) (v0 := (some (.int v1))) ⟨hx, hb, hml, hown, hts⟩ hK hA hZ hP hD hS hl.1 [7, 11] 12 rfl ⟨rfl, rfl, rfl⟩ (c_Grid_hasSheet l D ci A sa N (Rw) a_g a_g_rowCuts a_g_columnCuts a_g_bandRows a_g_zoneColumns a_g_rows a_g_sheets g_sheets p1 p2 v1 hm6) 7 rfl rfl (cwV 2 hts gX10_farthest_X2_hasSheet rfl rfl rfl (by decide +kernel) ⟨Nat.le_of_ble_eq_true rfl, Nat.le_of_ble_eq_true rfl⟩) rfl rfl (Nat.le_of_ble_eq_true rfl) dX10_farthest_6 ⟨Nat.zero_le _, Nat.zero_le _⟩ (fun locs hS => ?_)
    refine q_if_eq (pc := 9) (tgt := 21) hx hb dX10_farthest_9 (by decide) rfl hf (fun hf => ?_) (fun hf => ?_)
    · refine lv_iconst (pc := 21) (v := (-1)) hx hb dX10_farthest_21 (by decide) ?_
      obtain ⟨e90, e91, e92, e93, e94, e95, e96, e97, e98, e99, e910, e911⟩ := q_inj12 (Option.some.inj hf)
      rw [hQ, ← e90, ← e91, ← e92, ← e93, ← e94, ← e95, ← e96, ← e97, ← e98, ← e99, ← e910, ← e911]
      exact q_iret (pc := 22) hx hb hr hlocks hP hD hS dX10_farthest_22
    · refine lv_iload_n (pc := 12) hx hb dX10_farthest_12 rfl (lv_at hl 3 rfl) ?_
      refine lv_iconst (pc := 13) (v := 0) hx hb dX10_farthest_13 (by decide) ?_
      refine lv_iconst (pc := 14) (v := 1) hx hb dX10_farthest_14 (by decide) ?_
      obtain ⟨v2, hm15, hf⟩ := q_b1_e hf
      refine q_cSr (pc := 15) (As := [.int p3, .int 0, .int 1]) (rest := []) (v0 := (some (.int v2))) ⟨hx, hb, hml, hown, hts⟩ hK hA hZ hP hD hS hl.1 [] 12 rfl ⟨rfl, rfl, rfl⟩ (c_X_isFrom l D ci A sa N (Rw) p3 0 1 v2 hm15) (va_cwS 3 hts gX10_farthest_X10_isFrom rfl rfl rfl (by decide +kernel) ⟨Nat.le_of_ble_eq_true rfl, Nat.le_of_ble_eq_true rfl⟩) rfl rfl (Nat.le_of_ble_eq_true rfl) dX10_farthest_15 ⟨Nat.zero_le _, Nat.zero_le _⟩ (fun locs hS => ?_)
      refine q_if_ne (pc := 18) (tgt := 23) hx hb dX10_farthest_18 (by decide) rfl hf (fun hf => ?_) (fun hf => ?_)
      · refine lv_aload_n (pc := 23) hx hb dX10_farthest_23 rfl (lv_at hl 0 rfl) ?_
        refine va_get (pc := 24) (D := D) (ci := 10) (v := .ref a_g) (C := RX10) (T := TX10) (N := 14) hx hb hts hinX10 hown hK hP 0 rfl rfl 1 (by decide) w_1 (fun _ h9 => h9) rfl dX10_farthest_24 ?_
        refine va_getN (pc := 27) (D := D) (ci := 2) (v := .ref a_g_sheets) (C := RX2) (T := TX2) (N := 6) hx hb hts hinX2 hown hK hP 7 rfl rfl 5 (by decide) wn_1 (fun _ h9 => h9) rfl dX10_farthest_27 ?_
        refine lv_iload_n (pc := 30) hx hb dX10_farthest_30 rfl (lv_at hl 1 rfl) ?_
        refine q_iald (pc := 31) hx hb hK hP 11 0 hf rfl rfl dX10_farthest_31 (fun v3 hf => ?_)
        refine lv_sipush (pc := 32) (v := 20000) hx hb dX10_farthest_32 (by decide) ?_
        refine q_icmp_le (pc := 35) (tgt := 41) hx hb dX10_farthest_35 (by decide) rfl hf (fun hf => ?_) (fun hf => ?_)
        · refine lv_aload_n (pc := 41) hx hb dX10_farthest_41 rfl (lv_at hl 0 rfl) ?_
          refine va_get (pc := 42) (D := D) (ci := 10) (v := .ref a_wk) (C := RX10) (T := TX10) (N := 14) hx hb hts hinX10 hown hK hP 0 rfl rfl 9 (by decide) w_2 (fun _ h9 => h9) rfl dX10_farthest_42 ?_
          refine lv_iload_n (pc := 45) hx hb dX10_farthest_45 rfl (lv_at hl 1 rfl) ?_
          refine lv_iload_n (pc := 46) hx hb dX10_farthest_46 rfl (lv_at hl 2 rfl) ?_
          obtain ⟨f4, f5, v6, f7, f8, v9, v10, v11, v12, v13, v14, hm47, hf⟩ := q_b11_e hf
          refine q_cV (pc := 47) (As := [.int p1, .int p2]) (rest := []) (v0 := none) ⟨hx, hb, hml, hown, hts⟩ hK hA hZ hP hD hS hl.1 [1, 2, 3, 4, 5, 6, 7, 8, 9, 10, 11, 0] 12 rfl ⟨rfl, rfl, rfl⟩ (c_Walk_spread l D ci A sa N ((a_x, .inr (10, [.ref a_at, .ref a_g, .ref a_st, .ref a_x_kept, .int x_keptStates, .ref a_tp, .ref a_rd, .ref a_qu, .ref a_sp, .ref a_wk, .ref a_bx, .ref a_nt, .ref a_nu, .ref a_x_seen])) :: Rw) a_wk a_ws a_wk_steps a_wk_reached n_wk_steps n_wk_reached a_g a_ws_first a_ws_many a_ws_corner a_g_rowCuts a_g_columnCuts a_g_bandRows a_g_zoneColumns a_g_rows a_g_sheets wk_many wk_steps wk_reached ws_cornerCount ws_level ws_row ws_start ws_place ws_length ws_cap ws_first ws_many g_bandRows g_zoneColumns g_rows g_sheets p1 p2 f4 f5 v6 f7 f8 v9 v10 v11 v12 v13 v14 hm47) 1 rfl rfl (cwV 2 hts gX10_farthest_X9_spread rfl rfl rfl (by decide +kernel) ⟨Nat.le_of_ble_eq_true rfl, Nat.le_of_ble_eq_true rfl⟩) rfl rfl (Nat.le_of_ble_eq_true rfl) dX10_farthest_47 ⟨Nat.zero_le _, Nat.zero_le _⟩ [11, 0, 1, 2, 3, 4, 5, 6, 7, 8, 9, 10] 12 rfl ⟨rfl, rfl, rfl⟩ (fun H locs hP hD hS => ?_)
          obtain ⟨hP, hD⟩ : va_PD D A ((a_x, .inr (10, [.ref a_at, .ref a_g, .ref a_st, .ref a_x_kept, .int x_keptStates, .ref a_tp, .ref a_rd, .ref a_qu, .ref a_sp, .ref a_wk, .ref a_bx, .ref a_nt, .ref a_nu, .ref a_x_seen])) :: (a_wk, .inr (9, [.ref a_ws, .ref a_wk_steps, .ref a_wk_reached, .int v6])) :: (a_wk_steps, .inl (ci 0, n_wk_steps, .inl f4)) :: (a_wk_reached, .inl (ci 0, n_wk_reached, .inl f5)) :: (a_ws, .inr (6, [.ref a_g, .ref a_ws_first, .ref a_ws_many, .ref a_ws_corner, .int ws_cornerCount, .int v9, .int v10, .int v11, .int v12, .int v13, .int v14])) :: (a_ws_first, .inl (ci 0, 4, .inl f7)) :: (a_ws_many, .inl (ci 0, 4, .inl f8)) :: (a_g, .inr (2, [.ref a_g_rowCuts, .ref a_g_columnCuts, .ref a_g_bandRows, .ref a_g_zoneColumns, .ref a_g_rows, .ref a_g_sheets])) :: (a_g_bandRows, .inl (ci 0, 5, .inl g_bandRows)) :: (a_g_zoneColumns, .inl (ci 0, 5, .inl g_zoneColumns)) :: (a_g_rows, .inl (ci 0, 5, .inl g_rows)) :: (a_g_sheets, .inl (ci 0, 5, .inl g_sheets)) :: Rw) H := ⟨hP, hD⟩
          refine lv_aload_n (pc := 50) hx hb dX10_farthest_50 rfl (lv_at hl 0 rfl) ?_
          refine va_get (pc := 51) (D := D) (ci := 10) (v := .ref a_wk) (C := RX10) (T := TX10) (N := 14) hx hb hts hinX10 hown hK hP 0 rfl rfl 9 (by decide) w_2 (fun _ h9 => h9) rfl dX10_farthest_51 ?_
          obtain ⟨v15, hm54, hf⟩ := q_b1_e hf
          refine q_cVr (pc := 54) (As := []) (rest := []) (v0 := (some (.int v15))) ⟨hx, hb, hml, hown, hts⟩ hK hA hZ hP hD hS hl.1 [1, 2] 12 rfl ⟨rfl, rfl, rfl⟩ (c_Walk_farthestKey l D ci A sa N (Rw) a_wk a_ws a_wk_steps a_wk_reached n_wk_steps v6 f4 v15 hm54) 1 rfl rfl (cwV 0 hts gX10_farthest_X9_farthestKey rfl rfl rfl (by decide +kernel) ⟨Nat.le_of_ble_eq_true rfl, Nat.le_of_ble_eq_true rfl⟩) rfl rfl (Nat.le_of_ble_eq_true rfl) dX10_farthest_54 ⟨Nat.zero_le _, Nat.zero_le _⟩ (fun locs hS => ?_)
          refine lv_istore (pc := 57) (lv' := [(4, .int v15), (0, .ref a_x), (1, .int p1), (2, .int p2), (3, .int p3)]) hx hb dX10_farthest_57 hl (by decide) rfl (fun ls hl => ?_)
          refine lv_iload_n (pc := 59) hx hb dX10_farthest_59 rfl (lv_at hl 4 rfl) ?_
          refine q_if_ne (pc := 60) (tgt := 75) hx hb dX10_farthest_60 (by decide) rfl hf (fun hf => ?_) (fun hf => ?_)
          · refine lv_iload (pc := 75) hx hb dX10_farthest_75 (lv_at hl 0 rfl) ?_
            obtain ⟨e90, e91, e92, e93, e94, e95, e96, e97, e98, e99, e910, e911⟩ := q_inj12 (Option.some.inj hf)
            rw [hQ, ← e90, ← e91, ← e92, ← e93, ← e94, ← e95, ← e96, ← e97, ← e98, ← e99, ← e910, ← e911]
            exact q_iret (pc := 77) hx hb hr hlocks hP hD hS dX10_farthest_77
          · refine lv_aload_n (pc := 63) hx hb dX10_farthest_63 rfl (lv_at hl 1 rfl) ?_
            refine va_get (pc := 64) (D := D) (ci := 10) (v := .ref a_wk) (C := RX10) (T := TX10) (N := 14) hx hb hts hinX10 hown hK hP 0 rfl rfl 9 (by decide) w_2 (fun _ h9 => h9) rfl dX10_farthest_64 ?_
            refine lv_iload (pc := 67) hx hb dX10_farthest_67 (lv_at hl 0 rfl) ?_
            obtain ⟨v16, hm69, hf⟩ := q_b1_e hf
            refine q_cVr (pc := 69) (As := [.int v15]) (rest := []) (v0 := (some (.int v16))) ⟨hx, hb, hml, hown, hts⟩ hK hA hZ hP hD hS hl.1 [1, 2] 12 rfl ⟨rfl, rfl, rfl⟩ (c_Walk_stepsTo l D ci A sa N (Rw) a_wk a_ws a_wk_steps a_wk_reached n_wk_steps v6 f4 v15 v16 hm69) 1 rfl rfl (cwV 1 hts gX10_farthest_X9_stepsTo rfl rfl rfl (by decide +kernel) ⟨Nat.le_of_ble_eq_true rfl, Nat.le_of_ble_eq_true rfl⟩) rfl rfl (Nat.le_of_ble_eq_true rfl) dX10_farthest_69 ⟨Nat.zero_le _, Nat.zero_le _⟩ (fun locs hS => ?_)
            refine lv_goto (pc := 72) (tgt := 77) hx hb dX10_farthest_72 (by decide) ?_
            obtain ⟨e90, e91, e92, e93, e94, e95, e96, e97, e98, e99, e910, e911⟩ := q_inj12 (Option.some.inj hf)
            rw [hQ, ← e90, ← e91, ← e92, ← e93, ← e94, ← e95, ← e96, ← e97, ← e98, ← e99, ← e910, ← e911]
            exact q_iret (pc := 77) hx hb hr hlocks hP hD hS dX10_farthest_77
        · refine lv_bipush (pc := 38) (v := (-3)) hx hb dX10_farthest_38 (by decide) ?_
          obtain ⟨e90, e91, e92, e93, e94, e95, e96, e97, e98, e99, e910, e911⟩ := q_inj12 (Option.some.inj hf)
          rw [hQ, ← e90, ← e91, ← e92, ← e93, ← e94, ← e95, ← e96, ← e97, ← e98, ← e99, ← e910, ← e911]
          exact q_iret (pc := 40) hx hb hr hlocks hP hD hS dX10_farthest_40
      · refine lv_iconst (pc := 21) (v := (-1)) hx hb dX10_farthest_21 (by decide) ?_
        obtain ⟨e90, e91, e92, e93, e94, e95, e96, e97, e98, e99, e910, e911⟩ := q_inj12 (Option.some.inj hf)
        rw [hQ, ← e90, ← e91, ← e92, ← e93, ← e94, ← e95, ← e96, ← e97, ← e98, ← e99, ← e910, ← e911]
        exact q_iret (pc := 22) hx hb hr hlocks hP hD hS dX10_farthest_22
  exact hgo _ _ rfl hP hS
/-! X10_feed -/
set_option maxRecDepth 100000 in
set_option maxHeartbeats 4000000 in
theorem c_X_feed (l : Launch) (D : va_G) (ci : Nat → ClassId) (A : Nat → Prop) (sa : Nat → Nat) (N : Nat) (Rw : va_W) (a_x : Nat) (a_at : Nat) (a_g : Nat) (a_st : Nat) (a_x_kept : Nat) (a_tp : Nat) (a_rd : Nat) (a_qu : Nat) (a_sp : Nat) (a_wk : Nat) (a_bx : Nat) (a_nt : Nat) (a_nu : Nat) (a_x_seen : Nat) (a_tp_bytes : Nat) (x_keptStates : Int32) (tp_length : Int32) (tp_bytes : Nat → Int32) (p1 : Int32) (p2 : Int32) (p3 : Int32) (p4 : Int32) (p5 : Int32) (r : Int32) (o1 : Nat → Int32) (o2 : Int32) (hf : f_X_feed N tp_bytes tp_length p1 p2 p3 p4 p5 = some (r, o1, o2)) : Met l yX10_feed wsX10_feed ({ frames := 1, cells := 0, slots := 0, locals := 22 }) (va_Pc [.ref a_x, .int p1, .int p2, .int p3, .int p4, .int p5] (q_N D ci A sa ((a_x, .inr (10, [.ref a_at, .ref a_g, .ref a_st, .ref a_x_kept, .int x_keptStates, .ref a_tp, .ref a_rd, .ref a_qu, .ref a_sp, .ref a_wk, .ref a_bx, .ref a_nt, .ref a_nu, .ref a_x_seen])) :: (a_tp, .inr (8, [.ref a_tp_bytes, .int tp_length])) :: (a_tp_bytes, .inl (ci 0, 200, .inl tp_bytes)) :: Rw))) (q_Q (some (.int r)) (q_O D A ((a_x, .inr (10, [.ref a_at, .ref a_g, .ref a_st, .ref a_x_kept, .int x_keptStates, .ref a_tp, .ref a_rd, .ref a_qu, .ref a_sp, .ref a_wk, .ref a_bx, .ref a_nt, .ref a_nu, .ref a_x_seen])) :: (a_tp, .inr (8, [.ref a_tp_bytes, .int o2])) :: (a_tp_bytes, .inl (ci 0, 200, .inl o1)) :: Rw)) A) 0 0 A := by
  refine q_ofW (cc := cX10_feed) (maxL := 6) (ret := (some .int)) [.ref a_x, .int p1, .int p2, .int p3, .int p4, .int p5] (plainFor_of_name (by decide)) rfl (Nat.le_of_ble_eq_true rfl) ?_
  intro p e s m below meth c ls Q hQ hx hb hml hr hts hown hlocks hK hA hZ hP hD hS hl
  have hl : lv_has ls 6 [(0, .ref a_x), (1, .int p1), (2, .int p2), (3, .int p3), (4, .int p4), (5, .int p5)] := hl
  have hown : s.vm.findClass RX10 = some m.cls := hown
  have hinX10 : ∀ w ∈ wsX100, w ∈ wsX10_feed := fun _ h => List.mem_cons_of_mem _ (inWX100 _ h)
  have hinX8 : ∀ w ∈ wsX80, w ∈ wsX10_feed := fun _ h => List.mem_cons_of_mem _ (inWX80 _ h)
  have w_1 := hts (Cond.fieldLink RX10 39 "SheetNames" "tape" "LSheetNames$Tape;") (List.mem_cons_of_mem _ t_w882)
  have wn_35 : (Cond.fieldLinkNest "SheetNames" 98 "SheetNames$Tape" "length" "I" "SheetNames").before ([.ref a_x, .int p1, .int p2, .int p3, .int p4, .int p5] : List Value).toArray s = true := (hZ.2.2.2.2.2.2.2.2.2.1 _ (List.mem_of_getElem? (i := 35) rfl)).use rfl
  unfold f_X_feed at hf
  have hgo : ∀ (H : Heap) (locs : List Loc), H = s.heap → va_P D vwCl ((a_x, .inr (10, [.ref a_at, .ref a_g, .ref a_st, .ref a_x_kept, .int x_keptStates, .ref a_tp, .ref a_rd, .ref a_qu, .ref a_sp, .ref a_wk, .ref a_bx, .ref a_nt, .ref a_nu, .ref a_x_seen])) :: (a_tp, .inr (8, [.ref a_tp_bytes, .int tp_length])) :: (a_tp_bytes, .inl (ci 0, 200, .inl tp_bytes)) :: Rw) H → va_S A s.heap H locs → W p l e ({ frames := 1, cells := 0, slots := 0, locals := 22 } : Room) s m ([.ref a_x, .int p1, .int p2, .int p3, .int p4, .int p5] : List Value).toArray below meth c H locs 0 0 Q (F0 m 0 ls []) := by
    intro H locs hH hP hS
    refine lv_aload_n (pc := 0) hx hb dX10_feed_0 rfl (lv_at hl 0 rfl) ?_
    refine va_get (pc := 1) (D := D) (ci := 10) (v := .ref a_tp) (C := RX10) (T := TX10) (N := 14) hx hb hts hinX10 hown hK hP 0 rfl rfl 5 (by decide) w_1 (fun _ h9 => h9) rfl dX10_feed_1 ?_
    refine va_getN (pc := 4) (D := D) (ci := 8) (v := .int tp_length) (C := RX8) (T := TX8) (N := 2) hx hb hts hinX8 hown hK hP 1 rfl rfl 1 (by decide) wn_35 (fun _ h9 => h9) rfl dX10_feed_4 ?_
    refine lv_bipush (pc := 7) (v := 20) hx hb dX10_feed_7 (by decide) ?_
    refine lv_iadd (pc := 9) hx hb dX10_feed_9 ?_
    refine lv_sipush (pc := 10) (v := 200) hx hb dX10_feed_10 (by decide) ?_
    refine q_icmp_le (pc := 13) (tgt := 18) hx hb dX10_feed_13 (by decide) rfl hf (fun hf => ?_) (fun hf => ?_)
    · refine lv_aload_n (pc := 18) hx hb dX10_feed_18 rfl (lv_at hl 0 rfl) ?_
      refine va_get (pc := 19) (D := D) (ci := 10) (v := .ref a_tp) (C := RX10) (T := TX10) (N := 14) hx hb hts hinX10 hown hK hP 0 rfl rfl 5 (by decide) w_1 (fun _ h9 => h9) rfl dX10_feed_19 ?_
      refine lv_iload_n (pc := 22) hx hb dX10_feed_22 rfl (lv_at hl 1 rfl) ?_
      obtain ⟨f1, v2, hm23, hf⟩ := q_b2_e hf
      refine q_cV (pc := 23) (As := [.int p1]) (rest := []) (v0 := none) ⟨hx, hb, hml, hown, hts⟩ hK hA hZ hP hD hS hl.1 [1, 2, 0] 3 rfl ⟨rfl, rfl, rfl⟩ (c_Tape_add l D ci A sa N ((a_x, .inr (10, [.ref a_at, .ref a_g, .ref a_st, .ref a_x_kept, .int x_keptStates, .ref a_tp, .ref a_rd, .ref a_qu, .ref a_sp, .ref a_wk, .ref a_bx, .ref a_nt, .ref a_nu, .ref a_x_seen])) :: Rw) a_tp a_tp_bytes tp_length tp_bytes p1 f1 v2 hm23) 1 rfl rfl (cwV 1 hts gX10_feed_X8_add rfl rfl rfl (by decide +kernel) ⟨Nat.le_of_ble_eq_true rfl, Nat.le_of_ble_eq_true rfl⟩) rfl rfl (Nat.le_of_ble_eq_true rfl) dX10_feed_23 ⟨Nat.zero_le _, Nat.zero_le _⟩ [2, 0, 1] 3 rfl ⟨rfl, rfl, rfl⟩ (fun H locs hP hD hS => ?_)
      obtain ⟨hP, hD⟩ : va_PD D A ((a_x, .inr (10, [.ref a_at, .ref a_g, .ref a_st, .ref a_x_kept, .int x_keptStates, .ref a_tp, .ref a_rd, .ref a_qu, .ref a_sp, .ref a_wk, .ref a_bx, .ref a_nt, .ref a_nu, .ref a_x_seen])) :: (a_tp, .inr (8, [.ref a_tp_bytes, .int v2])) :: (a_tp_bytes, .inl (ci 0, 200, .inl f1)) :: Rw) H := ⟨hP, hD⟩
      refine lv_aload_n (pc := 26) hx hb dX10_feed_26 rfl (lv_at hl 0 rfl) ?_
      refine va_get (pc := 27) (D := D) (ci := 10) (v := .ref a_tp) (C := RX10) (T := TX10) (N := 14) hx hb hts hinX10 hown hK hP 0 rfl rfl 5 (by decide) w_1 (fun _ h9 => h9) rfl dX10_feed_27 ?_
      refine lv_iload_n (pc := 30) hx hb dX10_feed_30 rfl (lv_at hl 2 rfl) ?_
      obtain ⟨f3, v4, hm31, hf⟩ := q_b2_e hf
      refine q_cV (pc := 31) (As := [.int p2]) (rest := []) (v0 := none) ⟨hx, hb, hml, hown, hts⟩ hK hA hZ hP hD hS hl.1 [1, 2, 0] 3 rfl ⟨rfl, rfl, rfl⟩ (c_Tape_add l D ci A sa N ((a_x, .inr (10, [.ref a_at, .ref a_g, .ref a_st, .ref a_x_kept, .int x_keptStates, .ref a_tp, .ref a_rd, .ref a_qu, .ref a_sp, .ref a_wk, .ref a_bx, .ref a_nt, .ref a_nu, .ref a_x_seen])) :: Rw) a_tp a_tp_bytes v2 f1 p2 f3 v4 hm31) 1 rfl rfl (cwV 1 hts gX10_feed_X8_add rfl rfl rfl (by decide +kernel) ⟨Nat.le_of_ble_eq_true rfl, Nat.le_of_ble_eq_true rfl⟩) rfl rfl (Nat.le_of_ble_eq_true rfl) dX10_feed_31 ⟨Nat.zero_le _, Nat.zero_le _⟩ [2, 0, 1] 3 rfl ⟨rfl, rfl, rfl⟩ (fun H locs hP hD hS => ?_)
      obtain ⟨hP, hD⟩ : va_PD D A ((a_x, .inr (10, [.ref a_at, .ref a_g, .ref a_st, .ref a_x_kept, .int x_keptStates, .ref a_tp, .ref a_rd, .ref a_qu, .ref a_sp, .ref a_wk, .ref a_bx, .ref a_nt, .ref a_nu, .ref a_x_seen])) :: (a_tp, .inr (8, [.ref a_tp_bytes, .int v4])) :: (a_tp_bytes, .inl (ci 0, 200, .inl f3)) :: Rw) H := ⟨hP, hD⟩
      refine lv_aload_n (pc := 34) hx hb dX10_feed_34 rfl (lv_at hl 0 rfl) ?_
      refine va_get (pc := 35) (D := D) (ci := 10) (v := .ref a_tp) (C := RX10) (T := TX10) (N := 14) hx hb hts hinX10 hown hK hP 0 rfl rfl 5 (by decide) w_1 (fun _ h9 => h9) rfl dX10_feed_35 ?_
      refine lv_iload_n (pc := 38) hx hb dX10_feed_38 rfl (lv_at hl 3 rfl) ?_
      obtain ⟨f5, v6, hm39, hf⟩ := q_b2_e hf
      refine q_cV (pc := 39) (As := [.int p3]) (rest := []) (v0 := none) ⟨hx, hb, hml, hown, hts⟩ hK hA hZ hP hD hS hl.1 [1, 2, 0] 3 rfl ⟨rfl, rfl, rfl⟩ (c_Tape_add l D ci A sa N ((a_x, .inr (10, [.ref a_at, .ref a_g, .ref a_st, .ref a_x_kept, .int x_keptStates, .ref a_tp, .ref a_rd, .ref a_qu, .ref a_sp, .ref a_wk, .ref a_bx, .ref a_nt, .ref a_nu, .ref a_x_seen])) :: Rw) a_tp a_tp_bytes v4 f3 p3 f5 v6 hm39) 1 rfl rfl (cwV 1 hts gX10_feed_X8_add rfl rfl rfl (by decide +kernel) ⟨Nat.le_of_ble_eq_true rfl, Nat.le_of_ble_eq_true rfl⟩) rfl rfl (Nat.le_of_ble_eq_true rfl) dX10_feed_39 ⟨Nat.zero_le _, Nat.zero_le _⟩ [2, 0, 1] 3 rfl ⟨rfl, rfl, rfl⟩ (fun H locs hP hD hS => ?_)
      obtain ⟨hP, hD⟩ : va_PD D A ((a_x, .inr (10, [.ref a_at, .ref a_g, .ref a_st, .ref a_x_kept, .int x_keptStates, .ref a_tp, .ref a_rd, .ref a_qu, .ref a_sp, .ref a_wk, .ref a_bx, .ref a_nt, .ref a_nu, .ref a_x_seen])) :: (a_tp, .inr (8, [.ref a_tp_bytes, .int v6])) :: (a_tp_bytes, .inl (ci 0, 200, .inl f5)) :: Rw) H := ⟨hP, hD⟩
      refine lv_aload_n (pc := 42) hx hb dX10_feed_42 rfl (lv_at hl 0 rfl) ?_
      refine va_get (pc := 43) (D := D) (ci := 10) (v := .ref a_tp) (C := RX10) (T := TX10) (N := 14) hx hb hts hinX10 hown hK hP 0 rfl rfl 5 (by decide) w_1 (fun _ h9 => h9) rfl dX10_feed_43 ?_
      refine lv_iload (pc := 46) hx hb dX10_feed_46 (lv_at hl 4 rfl) ?_
      obtain ⟨f7, v8, hm48, hf⟩ := q_b2_e hf
      refine q_cV (pc := 48) (As := [.int p4]) (rest := []) (v0 := none) ⟨hx, hb, hml, hown, hts⟩ hK hA hZ hP hD hS hl.1 [1, 2, 0] 3 rfl ⟨rfl, rfl, rfl⟩ (c_Tape_add l D ci A sa N ((a_x, .inr (10, [.ref a_at, .ref a_g, .ref a_st, .ref a_x_kept, .int x_keptStates, .ref a_tp, .ref a_rd, .ref a_qu, .ref a_sp, .ref a_wk, .ref a_bx, .ref a_nt, .ref a_nu, .ref a_x_seen])) :: Rw) a_tp a_tp_bytes v6 f5 p4 f7 v8 hm48) 1 rfl rfl (cwV 1 hts gX10_feed_X8_add rfl rfl rfl (by decide +kernel) ⟨Nat.le_of_ble_eq_true rfl, Nat.le_of_ble_eq_true rfl⟩) rfl rfl (Nat.le_of_ble_eq_true rfl) dX10_feed_48 ⟨Nat.zero_le _, Nat.zero_le _⟩ [2, 0, 1] 3 rfl ⟨rfl, rfl, rfl⟩ (fun H locs hP hD hS => ?_)
      obtain ⟨hP, hD⟩ : va_PD D A ((a_x, .inr (10, [.ref a_at, .ref a_g, .ref a_st, .ref a_x_kept, .int x_keptStates, .ref a_tp, .ref a_rd, .ref a_qu, .ref a_sp, .ref a_wk, .ref a_bx, .ref a_nt, .ref a_nu, .ref a_x_seen])) :: (a_tp, .inr (8, [.ref a_tp_bytes, .int v8])) :: (a_tp_bytes, .inl (ci 0, 200, .inl f7)) :: Rw) H := ⟨hP, hD⟩
      refine lv_aload_n (pc := 51) hx hb dX10_feed_51 rfl (lv_at hl 0 rfl) ?_
      refine va_get (pc := 52) (D := D) (ci := 10) (v := .ref a_tp) (C := RX10) (T := TX10) (N := 14) hx hb hts hinX10 hown hK hP 0 rfl rfl 5 (by decide) w_1 (fun _ h9 => h9) rfl dX10_feed_52 ?_
      refine lv_iload (pc := 55) hx hb dX10_feed_55 (lv_at hl 5 rfl) ?_
      obtain ⟨f9, v10, hm57, hf⟩ := q_b2_e hf
      refine q_cV (pc := 57) (As := [.int p5]) (rest := []) (v0 := none) ⟨hx, hb, hml, hown, hts⟩ hK hA hZ hP hD hS hl.1 [1, 2, 0] 3 rfl ⟨rfl, rfl, rfl⟩ (c_Tape_add l D ci A sa N ((a_x, .inr (10, [.ref a_at, .ref a_g, .ref a_st, .ref a_x_kept, .int x_keptStates, .ref a_tp, .ref a_rd, .ref a_qu, .ref a_sp, .ref a_wk, .ref a_bx, .ref a_nt, .ref a_nu, .ref a_x_seen])) :: Rw) a_tp a_tp_bytes v8 f7 p5 f9 v10 hm57) 1 rfl rfl (cwV 1 hts gX10_feed_X8_add rfl rfl rfl (by decide +kernel) ⟨Nat.le_of_ble_eq_true rfl, Nat.le_of_ble_eq_true rfl⟩) rfl rfl (Nat.le_of_ble_eq_true rfl) dX10_feed_57 ⟨Nat.zero_le _, Nat.zero_le _⟩ [2, 0, 1] 3 rfl ⟨rfl, rfl, rfl⟩ (fun H locs hP hD hS => ?_)
      obtain ⟨hP, hD⟩ : va_PD D A ((a_x, .inr (10, [.ref a_at, .ref a_g, .ref a_st, .ref a_x_kept, .int x_keptStates, .ref a_tp, .ref a_rd, .ref a_qu, .ref a_sp, .ref a_wk, .ref a_bx, .ref a_nt, .ref a_nu, .ref a_x_seen])) :: (a_tp, .inr (8, [.ref a_tp_bytes, .int v10])) :: (a_tp_bytes, .inl (ci 0, 200, .inl f9)) :: Rw) H := ⟨hP, hD⟩
      refine lv_aload_n (pc := 60) hx hb dX10_feed_60 rfl (lv_at hl 0 rfl) ?_
      refine va_get (pc := 61) (D := D) (ci := 10) (v := .ref a_tp) (C := RX10) (T := TX10) (N := 14) hx hb hts hinX10 hown hK hP 0 rfl rfl 5 (by decide) w_1 (fun _ h9 => h9) rfl dX10_feed_61 ?_
      refine va_getN (pc := 64) (D := D) (ci := 8) (v := .int v10) (C := RX8) (T := TX8) (N := 2) hx hb hts hinX8 hown hK hP 1 rfl rfl 1 (by decide) wn_35 (fun _ h9 => h9) rfl dX10_feed_64 ?_
      obtain ⟨e90, e91, e92⟩ := q_inj3 (Option.some.inj hf)
      rw [hQ, ← e90, ← e91, ← e92]
      exact q_iret (pc := 67) hx hb hr hlocks hP hD hS dX10_feed_67
    · refine lv_iconst (pc := 16) (v := (-1)) hx hb dX10_feed_16 (by decide) ?_
      obtain ⟨e90, e91, e92⟩ := q_inj3 (Option.some.inj hf)
      rw [hQ, ← e90, ← e91, ← e92]
      exact q_iret (pc := 17) hx hb hr hlocks hP hD hS dX10_feed_17
  exact hgo _ _ rfl hP hS
/-! X10_isInt -/
set_option maxRecDepth 100000 in
set_option maxHeartbeats 4000000 in
theorem c_X_isInt (l : Launch) (D : va_G) (ci : Nat → ClassId) (A : Nat → Prop) (sa : Nat → Nat) (N : Nat) (Rw : va_W) (p1 : Int64) (r : Int32) (hf : f_X_isInt p1 = some r) : Met l yX10_isInt wsX10_isInt ({ frames := 0, cells := 0, slots := 0, locals := 0 }) (va_Pc [.long p1] (q_N D ci A sa (Rw))) (q_R (some (.int r))) 0 0 A := by
  refine q_ofW (cc := cX10_isInt) (maxL := 2) (ret := (some .boolean)) [.long p1] (plainFor_of_name (by decide)) rfl (Nat.le_of_ble_eq_true rfl) ?_
  intro p e s m below meth c ls Q hQ hx hb hml hr hts hown hlocks hK hA hZ hP hD hS hl
  have hl : lv_has ls 2 [(0, .long p1)] := hl
  have hown : s.vm.findClass RX10 = some m.cls := hown
  unfold f_X_isInt at hf
  have hgo : ∀ (H : Heap) (locs : List Loc), H = s.heap → va_P D vwCl (Rw) H → va_S A s.heap H locs → W p l e ({ frames := 0, cells := 0, slots := 0, locals := 0 } : Room) s m ([.long p1] : List Value).toArray below meth c H locs 0 0 Q (F0 m 0 ls []) := by
    intro H locs hH hP hS
    subst hH
    refine lv_lload_n (pc := 0) hx hb dX10_isInt_0 rfl (lv_at hl 0 rfl) ?_
    refine lv_lload_n (pc := 1) hx hb dX10_isInt_1 rfl (lv_at hl 0 rfl) ?_
    refine lv_l2i (pc := 2) hx hb dX10_isInt_2 rfl ?_
    refine lv_i2l (pc := 3) hx hb dX10_isInt_3 rfl ?_
    refine W.lcmp (pc := 4) hx hb dX10_isInt_4 ?_
    refine q_if_ne (pc := 5) (tgt := 12) hx hb dX10_isInt_5 (by decide) rfl hf (fun hf => ?_) (fun hf => ?_)
    · refine lv_iconst (pc := 12) (v := 0) hx hb dX10_isInt_12 (by decide) ?_
      obtain rfl := Option.some.inj hf
      rw [hQ]
      exact q_zretr (pc := 13) hx hb hr rfl hlocks rfl hS dX10_isInt_13
    · refine lv_iconst (pc := 8) (v := 1) hx hb dX10_isInt_8 (by decide) ?_
      refine lv_goto (pc := 9) (tgt := 13) hx hb dX10_isInt_9 (by decide) ?_
      obtain rfl := Option.some.inj hf
      rw [hQ]
      exact q_zretr (pc := 13) hx hb hr rfl hlocks rfl hS dX10_isInt_13
  exact hgo _ _ rfl hP hS
end
section
/-! X10_isLacking -/
set_option maxRecDepth 100000 in
set_option maxHeartbeats 4000000 in
theorem c_X_isLacking (l : Launch) (D : va_G) (ci : Nat → ClassId) (A : Nat → Prop) (sa : Nat → Nat) (N : Nat) (Rw : va_W) (a_x : Nat) (a_at : Nat) (a_g : Nat) (a_st : Nat) (a_x_kept : Nat) (a_tp : Nat) (a_rd : Nat) (a_qu : Nat) (a_sp : Nat) (a_wk : Nat) (a_bx : Nat) (a_nt : Nat) (a_nu : Nat) (a_x_seen : Nat) (a_sp_first : Nat) (a_sp_many : Nat) (a_sp_corner : Nat) (a_st_levels : Nat) (a_st_keys : Nat) (a_st_years : Nat) (a_st_keysThere : Nat) (a_g_rowCuts : Nat) (a_g_columnCuts : Nat) (a_g_bandRows : Nat) (a_g_zoneColumns : Nat) (a_g_rows : Nat) (a_g_sheets : Nat) (x_keptStates : Int32) (sp_cornerCount : Int32) (sp_level : Int32) (sp_row : Int32) (sp_start : Int32) (sp_place : Int32) (sp_length : Int32) (sp_cap : Int32) (st_size : Int32) (st_shownBy : Int32) (st_deepestShown : Int32) (st_latestShown : Int32) (st_levels : Nat → Int32) (st_keys : Nat → Int32) (st_years : Nat → Int32) (st_keysThere : Nat → Int32) (g_bandRows : Nat → Int32) (g_zoneColumns : Nat → Int32) (g_rows : Nat → Int32) (g_sheets : Nat → Int32) (p1 : Int32) (p2 : Int32) (p3 : Int32) (r : Int32) (o1 : Int32) (o2 : Int32) (o3 : Int32) (o4 : Int32) (o5 : Int32) (o6 : Int32) (o7 : Nat → Int32) (o8 : Int32) (o9 : Int32) (o10 : Int32) (hf : f_X_isLacking N sp_level sp_row sp_start sp_place sp_length sp_cap st_levels st_keys st_years st_keysThere st_size st_shownBy st_deepestShown st_latestShown g_bandRows g_zoneColumns g_rows g_sheets p1 p2 p3 = some (r, o1, o2, o3, o4, o5, o6, o7, o8, o9, o10)) : Met l yX10_isLacking wsX10_isLacking ({ frames := 4, cells := 0, slots := 0, locals := 96 }) (va_Pc [.ref a_x, .int p1, .int p2, .int p3] (q_N D ci A sa ((a_x, .inr (10, [.ref a_at, .ref a_g, .ref a_st, .ref a_x_kept, .int x_keptStates, .ref a_tp, .ref a_rd, .ref a_qu, .ref a_sp, .ref a_wk, .ref a_bx, .ref a_nt, .ref a_nu, .ref a_x_seen])) :: (a_sp, .inr (6, [.ref a_g, .ref a_sp_first, .ref a_sp_many, .ref a_sp_corner, .int sp_cornerCount, .int sp_level, .int sp_row, .int sp_start, .int sp_place, .int sp_length, .int sp_cap])) :: (a_st, .inr (7, [.ref a_g, .ref a_st_levels, .ref a_st_keys, .ref a_st_years, .ref a_st_keysThere, .int st_size, .int st_shownBy, .int st_deepestShown, .int st_latestShown])) :: (a_st_levels, .inl (ci 0, 60, .inl st_levels)) :: (a_st_keys, .inl (ci 0, 60, .inl st_keys)) :: (a_st_years, .inl (ci 0, 60, .inl st_years)) :: (a_st_keysThere, .inl (ci 0, 5, .inl st_keysThere)) :: (a_g, .inr (2, [.ref a_g_rowCuts, .ref a_g_columnCuts, .ref a_g_bandRows, .ref a_g_zoneColumns, .ref a_g_rows, .ref a_g_sheets])) :: (a_g_bandRows, .inl (ci 0, 5, .inl g_bandRows)) :: (a_g_zoneColumns, .inl (ci 0, 5, .inl g_zoneColumns)) :: (a_g_rows, .inl (ci 0, 5, .inl g_rows)) :: (a_g_sheets, .inl (ci 0, 5, .inl g_sheets)) :: Rw))) (q_Q (some (.int r)) (q_O D A ((a_x, .inr (10, [.ref a_at, .ref a_g, .ref a_st, .ref a_x_kept, .int x_keptStates, .ref a_tp, .ref a_rd, .ref a_qu, .ref a_sp, .ref a_wk, .ref a_bx, .ref a_nt, .ref a_nu, .ref a_x_seen])) :: (a_sp, .inr (6, [.ref a_g, .ref a_sp_first, .ref a_sp_many, .ref a_sp_corner, .int sp_cornerCount, .int o1, .int o2, .int o3, .int o4, .int o5, .int o6])) :: (a_st, .inr (7, [.ref a_g, .ref a_st_levels, .ref a_st_keys, .ref a_st_years, .ref a_st_keysThere, .int st_size, .int o8, .int o9, .int o10])) :: (a_st_levels, .inl (ci 0, 60, .inl st_levels)) :: (a_st_keys, .inl (ci 0, 60, .inl st_keys)) :: (a_st_years, .inl (ci 0, 60, .inl st_years)) :: (a_st_keysThere, .inl (ci 0, 5, .inl o7)) :: (a_g, .inr (2, [.ref a_g_rowCuts, .ref a_g_columnCuts, .ref a_g_bandRows, .ref a_g_zoneColumns, .ref a_g_rows, .ref a_g_sheets])) :: (a_g_bandRows, .inl (ci 0, 5, .inl g_bandRows)) :: (a_g_zoneColumns, .inl (ci 0, 5, .inl g_zoneColumns)) :: (a_g_rows, .inl (ci 0, 5, .inl g_rows)) :: (a_g_sheets, .inl (ci 0, 5, .inl g_sheets)) :: Rw)) A) 0 0 A := by
  refine q_ofW (cc := cX10_isLacking) (maxL := 4) (ret := (some .boolean)) [.ref a_x, .int p1, .int p2, .int p3] (plainFor_of_name (by decide)) rfl (Nat.le_of_ble_eq_true rfl) ?_
  intro p e s m below meth c ls Q hQ hx hb hml hr hts hown hlocks hK hA hZ hP hD hS hl
  have hl : lv_has ls 4 [(0, .ref a_x), (1, .int p1), (2, .int p2), (3, .int p3)] := hl
  have hown : s.vm.findClass RX10 = some m.cls := hown
  have hinX10 : ∀ w ∈ wsX100, w ∈ wsX10_isLacking := fun _ h => List.mem_cons_of_mem _ (inWX100 _ h)
  have hinX7 : ∀ w ∈ wsX70, w ∈ wsX10_isLacking := fun _ h => List.mem_cons_of_mem _ (inWX70 _ h)
  have w_1 := hts (Cond.fieldLink RX10 66 "SheetNames" "spot" "LSheetNames$Spot;") (List.mem_cons_of_mem _ t_w877)
  have w_2 := hts (Cond.fieldLink RX10 25 "SheetNames" "pieces" "LSheetNames$Store;") (List.mem_cons_of_mem _ t_w892)
  have wn_28 : (Cond.fieldLinkNest "SheetNames" 391 "SheetNames$Store" "shownBy" "I" "SheetNames").before ([.ref a_x, .int p1, .int p2, .int p3] : List Value).toArray s = true := (hZ.2.2.2.2.2.2.2.2.2.1 _ (List.mem_of_getElem? (i := 28) rfl)).use rfl
  have wn_30 : (Cond.fieldLinkNest "SheetNames" 397 "SheetNames$Store" "latestShown" "I" "SheetNames").before ([.ref a_x, .int p1, .int p2, .int p3] : List Value).toArray s = true := (hZ.2.2.2.2.2.2.2.2.2.1 _ (List.mem_of_getElem? (i := 30) rfl)).use rfl
  unfold f_X_isLacking at hf
  have hgo : ∀ (H : Heap) (locs : List Loc), H = s.heap → va_P D vwCl ((a_x, .inr (10, [.ref a_at, .ref a_g, .ref a_st, .ref a_x_kept, .int x_keptStates, .ref a_tp, .ref a_rd, .ref a_qu, .ref a_sp, .ref a_wk, .ref a_bx, .ref a_nt, .ref a_nu, .ref a_x_seen])) :: (a_sp, .inr (6, [.ref a_g, .ref a_sp_first, .ref a_sp_many, .ref a_sp_corner, .int sp_cornerCount, .int sp_level, .int sp_row, .int sp_start, .int sp_place, .int sp_length, .int sp_cap])) :: (a_st, .inr (7, [.ref a_g, .ref a_st_levels, .ref a_st_keys, .ref a_st_years, .ref a_st_keysThere, .int st_size, .int st_shownBy, .int st_deepestShown, .int st_latestShown])) :: (a_st_levels, .inl (ci 0, 60, .inl st_levels)) :: (a_st_keys, .inl (ci 0, 60, .inl st_keys)) :: (a_st_years, .inl (ci 0, 60, .inl st_years)) :: (a_st_keysThere, .inl (ci 0, 5, .inl st_keysThere)) :: (a_g, .inr (2, [.ref a_g_rowCuts, .ref a_g_columnCuts, .ref a_g_bandRows, .ref a_g_zoneColumns, .ref a_g_rows, .ref a_g_sheets])) :: (a_g_bandRows, .inl (ci 0, 5, .inl g_bandRows)) :: (a_g_zoneColumns, .inl (ci 0, 5, .inl g_zoneColumns)) :: (a_g_rows, .inl (ci 0, 5, .inl g_rows)) :: (a_g_sheets, .inl (ci 0, 5, .inl g_sheets)) :: Rw) H → va_S A s.heap H locs → W p l e ({ frames := 4, cells := 0, slots := 0, locals := 96 } : Room) s m ([.ref a_x, .int p1, .int p2, .int p3] : List Value).toArray below meth c H locs 0 0 Q (F0 m 0 ls []) := by
    intro H locs hH hP hS
    refine lv_aload_n (pc := 0) hx hb dX10_isLacking_0 rfl (lv_at hl 0 rfl) ?_
    refine va_get (pc := 1) (D := D) (ci := 10) (v := .ref a_sp) (C := RX10) (T := TX10) (N := 14) hx hb hts hinX10 hown hK hP 0 rfl rfl 8 (by decide) w_1 (fun _ h9 => h9) rfl dX10_isLacking_1 ?_
    refine lv_iload_n (pc := 4) hx hb dX10_isLacking_4 rfl (lv_at hl 1 rfl) ?_
    refine lv_iload_n (pc := 5) hx hb dX10_isLacking_5 rfl (lv_at hl 2 rfl) ?_
    obtain ⟨v1, v2, v3, v4, v5, v6, hm6, hf⟩ := q_b6_e hf
    refine q_cV (pc := 6) (As := [.int p1, .int p2]) (rest := []) (v0 := none) ⟨hx, hb, hml, hown, hts⟩ hK hA hZ hP hD hS hl.1 [1, 7, 8, 9, 10, 11, 0, 2, 3, 4, 5, 6] 12 rfl ⟨rfl, rfl, rfl⟩ (c_Spot_put l D ci A sa N ((a_x, .inr (10, [.ref a_at, .ref a_g, .ref a_st, .ref a_x_kept, .int x_keptStates, .ref a_tp, .ref a_rd, .ref a_qu, .ref a_sp, .ref a_wk, .ref a_bx, .ref a_nt, .ref a_nu, .ref a_x_seen])) :: (a_st, .inr (7, [.ref a_g, .ref a_st_levels, .ref a_st_keys, .ref a_st_years, .ref a_st_keysThere, .int st_size, .int st_shownBy, .int st_deepestShown, .int st_latestShown])) :: (a_st_levels, .inl (ci 0, 60, .inl st_levels)) :: (a_st_keys, .inl (ci 0, 60, .inl st_keys)) :: (a_st_years, .inl (ci 0, 60, .inl st_years)) :: (a_st_keysThere, .inl (ci 0, 5, .inl st_keysThere)) :: Rw) a_sp a_g a_sp_first a_sp_many a_sp_corner a_g_rowCuts a_g_columnCuts a_g_bandRows a_g_zoneColumns a_g_rows a_g_sheets sp_cornerCount sp_level sp_row sp_start sp_place sp_length sp_cap g_bandRows g_zoneColumns g_rows g_sheets p1 p2 v1 v2 v3 v4 v5 v6 hm6) 1 rfl rfl (cwV 2 hts gX10_isLacking_X6_put rfl rfl rfl (by decide +kernel) ⟨Nat.le_of_ble_eq_true rfl, Nat.le_of_ble_eq_true rfl⟩) rfl rfl (Nat.le_of_ble_eq_true rfl) dX10_isLacking_6 ⟨Nat.zero_le _, Nat.zero_le _⟩ [6, 0, 7, 8, 9, 10, 11, 1, 2, 3, 4, 5] 12 rfl ⟨rfl, rfl, rfl⟩ (fun H locs hP hD hS => ?_)
    obtain ⟨hP, hD⟩ : va_PD D A ((a_x, .inr (10, [.ref a_at, .ref a_g, .ref a_st, .ref a_x_kept, .int x_keptStates, .ref a_tp, .ref a_rd, .ref a_qu, .ref a_sp, .ref a_wk, .ref a_bx, .ref a_nt, .ref a_nu, .ref a_x_seen])) :: (a_sp, .inr (6, [.ref a_g, .ref a_sp_first, .ref a_sp_many, .ref a_sp_corner, .int sp_cornerCount, .int v1, .int v2, .int v3, .int v4, .int v5, .int v6])) :: (a_st, .inr (7, [.ref a_g, .ref a_st_levels, .ref a_st_keys, .ref a_st_years, .ref a_st_keysThere, .int st_size, .int st_shownBy, .int st_deepestShown, .int st_latestShown])) :: (a_st_levels, .inl (ci 0, 60, .inl st_levels)) :: (a_st_keys, .inl (ci 0, 60, .inl st_keys)) :: (a_st_years, .inl (ci 0, 60, .inl st_years)) :: (a_st_keysThere, .inl (ci 0, 5, .inl st_keysThere)) :: (a_g, .inr (2, [.ref a_g_rowCuts, .ref a_g_columnCuts, .ref a_g_bandRows, .ref a_g_zoneColumns, .ref a_g_rows, .ref a_g_sheets])) :: (a_g_bandRows, .inl (ci 0, 5, .inl g_bandRows)) :: (a_g_zoneColumns, .inl (ci 0, 5, .inl g_zoneColumns)) :: (a_g_rows, .inl (ci 0, 5, .inl g_rows)) :: (a_g_sheets, .inl (ci 0, 5, .inl g_sheets)) :: Rw) H := ⟨hP, hD⟩
    refine lv_aload_n (pc := 9) hx hb dX10_isLacking_9 rfl (lv_at hl 0 rfl) ?_
    refine va_get (pc := 10) (D := D) (ci := 10) (v := .ref a_st) (C := RX10) (T := TX10) (N := 14) hx hb hts hinX10 hown hK hP 0 rfl rfl 2 (by decide) w_2 (fun _ h9 => h9) rfl dX10_isLacking_10 ?_
    refine lv_aload_n (pc := 13) hx hb dX10_isLacking_13 rfl (lv_at hl 0 rfl) ?_
    refine va_get (pc := 14) (D := D) (ci := 10) (v := .ref a_sp) (C := RX10) (T := TX10) (N := 14) hx hb hts hinX10 hown hK hP 0 rfl rfl 8 (by decide) w_1 (fun _ h9 => h9) rfl dX10_isLacking_14 ?_
    obtain ⟨v7, hm17, hf⟩ := q_b1_e hf
    refine q_cVr (pc := 17) (As := []) (rest := [.ref a_st]) (v0 := (some (.int v7))) ⟨hx, hb, hml, hown, hts⟩ hK hA hZ hP hD hS hl.1 [1, 7, 8] 12 rfl ⟨rfl, rfl, rfl⟩ (c_Spot_middleLat l D ci A sa N (Rw) a_sp a_g a_sp_first a_sp_many a_sp_corner a_g_rowCuts a_g_columnCuts a_g_bandRows a_g_zoneColumns a_g_rows a_g_sheets sp_cornerCount v1 v2 v3 v4 v5 v6 g_bandRows v7 hm17) 1 rfl rfl (cwV 0 hts gX10_isLacking_X6_middleLat rfl rfl rfl (by decide +kernel) ⟨Nat.le_of_ble_eq_true rfl, Nat.le_of_ble_eq_true rfl⟩) rfl rfl (Nat.le_of_ble_eq_true rfl) dX10_isLacking_17 ⟨Nat.zero_le _, Nat.zero_le _⟩ (fun locs hS => ?_)
    refine lv_aload_n (pc := 20) hx hb dX10_isLacking_20 rfl (lv_at hl 0 rfl) ?_
    refine va_get (pc := 21) (D := D) (ci := 10) (v := .ref a_sp) (C := RX10) (T := TX10) (N := 14) hx hb hts hinX10 hown hK hP 0 rfl rfl 8 (by decide) w_1 (fun _ h9 => h9) rfl dX10_isLacking_21 ?_
    obtain ⟨v8, hm24, hf⟩ := q_b1_e hf
    refine q_cVr (pc := 24) (As := []) (rest := [.int v7, .ref a_st]) (v0 := (some (.int v8))) ⟨hx, hb, hml, hown, hts⟩ hK hA hZ hP hD hS hl.1 [1, 7, 8] 12 rfl ⟨rfl, rfl, rfl⟩ (c_Spot_middleLon l D ci A sa N (Rw) a_sp a_g a_sp_first a_sp_many a_sp_corner a_g_rowCuts a_g_columnCuts a_g_bandRows a_g_zoneColumns a_g_rows a_g_sheets sp_cornerCount v1 v2 v3 v4 v5 v6 g_bandRows v8 hm24) 1 rfl rfl (cwV 0 hts gX10_isLacking_X6_middleLon rfl rfl rfl (by decide +kernel) ⟨Nat.le_of_ble_eq_true rfl, Nat.le_of_ble_eq_true rfl⟩) rfl rfl (Nat.le_of_ble_eq_true rfl) dX10_isLacking_24 ⟨Nat.zero_le _, Nat.zero_le _⟩ (fun locs hS => ?_)
    obtain ⟨f9, v10, v11, v12, hm27, hf⟩ := q_b4_e hf
    refine q_cV (pc := 27) (As := [.int v7, .int v8]) (rest := []) (v0 := none) ⟨hx, hb, hml, hown, hts⟩ hK hA hZ hP hD hS hl.1 [2, 3, 4, 5, 6, 7, 8, 9, 10, 11, 0, 1] 12 rfl ⟨rfl, rfl, rfl⟩ (c_Store_lookAt l D ci A sa N ((a_x, .inr (10, [.ref a_at, .ref a_g, .ref a_st, .ref a_x_kept, .int x_keptStates, .ref a_tp, .ref a_rd, .ref a_qu, .ref a_sp, .ref a_wk, .ref a_bx, .ref a_nt, .ref a_nu, .ref a_x_seen])) :: (a_sp, .inr (6, [.ref a_g, .ref a_sp_first, .ref a_sp_many, .ref a_sp_corner, .int sp_cornerCount, .int v1, .int v2, .int v3, .int v4, .int v5, .int v6])) :: Rw) a_st a_g a_st_levels a_st_keys a_st_years a_st_keysThere a_g_rowCuts a_g_columnCuts a_g_bandRows a_g_zoneColumns a_g_rows a_g_sheets st_size st_shownBy st_deepestShown st_latestShown st_levels st_keys st_years st_keysThere g_bandRows g_zoneColumns g_rows g_sheets v7 v8 f9 v10 v11 v12 hm27) 2 rfl rfl (cwV 2 hts gX10_isLacking_X7_lookAt rfl rfl rfl (by decide +kernel) ⟨Nat.le_of_ble_eq_true rfl, Nat.le_of_ble_eq_true rfl⟩) rfl rfl (Nat.le_of_ble_eq_true rfl) dX10_isLacking_27 ⟨Nat.zero_le _, Nat.zero_le _⟩ [10, 11, 0, 1, 2, 3, 4, 5, 6, 7, 8, 9] 12 rfl ⟨rfl, rfl, rfl⟩ (fun H locs hP hD hS => ?_)
    obtain ⟨hP, hD⟩ : va_PD D A ((a_x, .inr (10, [.ref a_at, .ref a_g, .ref a_st, .ref a_x_kept, .int x_keptStates, .ref a_tp, .ref a_rd, .ref a_qu, .ref a_sp, .ref a_wk, .ref a_bx, .ref a_nt, .ref a_nu, .ref a_x_seen])) :: (a_sp, .inr (6, [.ref a_g, .ref a_sp_first, .ref a_sp_many, .ref a_sp_corner, .int sp_cornerCount, .int v1, .int v2, .int v3, .int v4, .int v5, .int v6])) :: (a_st, .inr (7, [.ref a_g, .ref a_st_levels, .ref a_st_keys, .ref a_st_years, .ref a_st_keysThere, .int st_size, .int v10, .int v11, .int v12])) :: (a_st_levels, .inl (ci 0, 60, .inl st_levels)) :: (a_st_keys, .inl (ci 0, 60, .inl st_keys)) :: (a_st_years, .inl (ci 0, 60, .inl st_years)) :: (a_st_keysThere, .inl (ci 0, 5, .inl f9)) :: (a_g, .inr (2, [.ref a_g_rowCuts, .ref a_g_columnCuts, .ref a_g_bandRows, .ref a_g_zoneColumns, .ref a_g_rows, .ref a_g_sheets])) :: (a_g_bandRows, .inl (ci 0, 5, .inl g_bandRows)) :: (a_g_zoneColumns, .inl (ci 0, 5, .inl g_zoneColumns)) :: (a_g_rows, .inl (ci 0, 5, .inl g_rows)) :: (a_g_sheets, .inl (ci 0, 5, .inl g_sheets)) :: Rw) H := ⟨hP, hD⟩
    refine lv_aload_n (pc := 30) hx hb dX10_isLacking_30 rfl (lv_at hl 0 rfl) ?_
    refine va_get (pc := 31) (D := D) (ci := 10) (v := .ref a_st) (C := RX10) (T := TX10) (N := 14) hx hb hts hinX10 hown hK hP 0 rfl rfl 2 (by decide) w_2 (fun _ h9 => h9) rfl dX10_isLacking_31 ?_
    refine va_getN (pc := 34) (D := D) (ci := 7) (v := .int v10) (C := RX7) (T := TX7) (N := 9) hx hb hts hinX7 hown hK hP 2 rfl rfl 6 (by decide) wn_28 (fun _ h9 => h9) rfl dX10_isLacking_34 ?_
    obtain ⟨k51, ek51, hf⟩ := q_j0_e hf
    have J51 : ∀  (H : Heap) (locs : List Loc) (ls : Array Slot), k51 = some (r, o1, o2, o3, o4, o5, o6, o7, o8, o9, o10) → va_P D vwCl ((a_x, .inr (10, [.ref a_at, .ref a_g, .ref a_st, .ref a_x_kept, .int x_keptStates, .ref a_tp, .ref a_rd, .ref a_qu, .ref a_sp, .ref a_wk, .ref a_bx, .ref a_nt, .ref a_nu, .ref a_x_seen])) :: (a_sp, .inr (6, [.ref a_g, .ref a_sp_first, .ref a_sp_many, .ref a_sp_corner, .int sp_cornerCount, .int v1, .int v2, .int v3, .int v4, .int v5, .int v6])) :: (a_st, .inr (7, [.ref a_g, .ref a_st_levels, .ref a_st_keys, .ref a_st_years, .ref a_st_keysThere, .int st_size, .int v10, .int v11, .int v12])) :: (a_st_levels, .inl (ci 0, 60, .inl st_levels)) :: (a_st_keys, .inl (ci 0, 60, .inl st_keys)) :: (a_st_years, .inl (ci 0, 60, .inl st_years)) :: (a_st_keysThere, .inl (ci 0, 5, .inl f9)) :: (a_g, .inr (2, [.ref a_g_rowCuts, .ref a_g_columnCuts, .ref a_g_bandRows, .ref a_g_zoneColumns, .ref a_g_rows, .ref a_g_sheets])) :: (a_g_bandRows, .inl (ci 0, 5, .inl g_bandRows)) :: (a_g_zoneColumns, .inl (ci 0, 5, .inl g_zoneColumns)) :: (a_g_rows, .inl (ci 0, 5, .inl g_rows)) :: (a_g_sheets, .inl (ci 0, 5, .inl g_sheets)) :: Rw) H → va_D A ((a_x, .inr (10, [.ref a_at, .ref a_g, .ref a_st, .ref a_x_kept, .int x_keptStates, .ref a_tp, .ref a_rd, .ref a_qu, .ref a_sp, .ref a_wk, .ref a_bx, .ref a_nt, .ref a_nu, .ref a_x_seen])) :: (a_sp, .inr (6, [.ref a_g, .ref a_sp_first, .ref a_sp_many, .ref a_sp_corner, .int sp_cornerCount, .int v1, .int v2, .int v3, .int v4, .int v5, .int v6])) :: (a_st, .inr (7, [.ref a_g, .ref a_st_levels, .ref a_st_keys, .ref a_st_years, .ref a_st_keysThere, .int st_size, .int v10, .int v11, .int v12])) :: (a_st_levels, .inl (ci 0, 60, .inl st_levels)) :: (a_st_keys, .inl (ci 0, 60, .inl st_keys)) :: (a_st_years, .inl (ci 0, 60, .inl st_years)) :: (a_st_keysThere, .inl (ci 0, 5, .inl f9)) :: (a_g, .inr (2, [.ref a_g_rowCuts, .ref a_g_columnCuts, .ref a_g_bandRows, .ref a_g_zoneColumns, .ref a_g_rows, .ref a_g_sheets])) :: (a_g_bandRows, .inl (ci 0, 5, .inl g_bandRows)) :: (a_g_zoneColumns, .inl (ci 0, 5, .inl g_zoneColumns)) :: (a_g_rows, .inl (ci 0, 5, .inl g_rows)) :: (a_g_sheets, .inl (ci 0, 5, .inl g_sheets)) :: Rw) → va_S A s.heap H locs → lv_has ls 4 [] → W p l e ({ frames := 4, cells := 0, slots := 0, locals := 96 } : Room) s m ([.ref a_x, .int p1, .int p2, .int p3] : List Value).toArray below meth c H locs 0 0 Q (F0 m 51 ls []) := by
      intro  H locs ls hf hP hD hS hl
      have hf := (ek51).symm.trans hf
      refine lv_iconst (pc := 51) (v := 1) hx hb dX10_isLacking_51 (by decide) ?_
      refine lv_goto (pc := 52) (tgt := 56) hx hb dX10_isLacking_52 (by decide) ?_
      obtain ⟨e90, e91, e92, e93, e94, e95, e96, e97, e98, e99, e910⟩ := q_inj11 (Option.some.inj hf)
      rw [hQ, ← e90, ← e91, ← e92, ← e93, ← e94, ← e95, ← e96, ← e97, ← e98, ← e99, ← e910]
      exact q_zret (pc := 56) hx hb hr rfl hlocks hP hD hS dX10_isLacking_56
    refine q_if_eq (pc := 37) (tgt := 51) hx hb dX10_isLacking_37 (by decide) rfl hf (fun hf => ?_) (fun hf => ?_)
    · exact J51  _ _ _ hf hP hD hS (lv_sub hl [] rfl)
    · refine lv_aload_n (pc := 40) hx hb dX10_isLacking_40 rfl (lv_at hl 0 rfl) ?_
      refine va_get (pc := 41) (D := D) (ci := 10) (v := .ref a_st) (C := RX10) (T := TX10) (N := 14) hx hb hts hinX10 hown hK hP 0 rfl rfl 2 (by decide) w_2 (fun _ h9 => h9) rfl dX10_isLacking_41 ?_
      refine va_getN (pc := 44) (D := D) (ci := 7) (v := .int v12) (C := RX7) (T := TX7) (N := 9) hx hb hts hinX7 hown hK hP 2 rfl rfl 8 (by decide) wn_30 (fun _ h9 => h9) rfl dX10_isLacking_44 ?_
      refine lv_iload_n (pc := 47) hx hb dX10_isLacking_47 rfl (lv_at hl 3 rfl) ?_
      refine q_icmp_ge (pc := 48) (tgt := 55) hx hb dX10_isLacking_48 (by decide) rfl hf (fun hf => ?_) (fun hf => ?_)
      · refine lv_iconst (pc := 55) (v := 0) hx hb dX10_isLacking_55 (by decide) ?_
        obtain ⟨e90, e91, e92, e93, e94, e95, e96, e97, e98, e99, e910⟩ := q_inj11 (Option.some.inj hf)
        rw [hQ, ← e90, ← e91, ← e92, ← e93, ← e94, ← e95, ← e96, ← e97, ← e98, ← e99, ← e910]
        exact q_zret (pc := 56) hx hb hr rfl hlocks hP hD hS dX10_isLacking_56
      · exact J51  _ _ _ hf hP hD hS (lv_sub hl [] rfl)
  exact hgo _ _ rfl hP hS
/-! X10_jog -/
set_option maxRecDepth 100000 in
set_option maxHeartbeats 4000000 in
theorem c_X_jog (l : Launch) (D : va_G) (ci : Nat → ClassId) (A : Nat → Prop) (sa : Nat → Nat) (N : Nat) (Rw : va_W) (a_x : Nat) (a_at : Nat) (a_g : Nat) (a_st : Nat) (a_x_kept : Nat) (a_tp : Nat) (a_rd : Nat) (a_qu : Nat) (a_sp : Nat) (a_wk : Nat) (a_bx : Nat) (a_nt : Nat) (a_nu : Nat) (a_x_seen : Nat) (a_sp_first : Nat) (a_sp_many : Nat) (a_sp_corner : Nat) (a_g_rowCuts : Nat) (a_g_columnCuts : Nat) (a_g_bandRows : Nat) (a_g_zoneColumns : Nat) (a_g_rows : Nat) (a_g_sheets : Nat) (x_keptStates : Int32) (sp_cornerCount : Int32) (sp_level : Int32) (sp_row : Int32) (sp_start : Int32) (sp_place : Int32) (sp_length : Int32) (sp_cap : Int32) (g_bandRows : Nat → Int32) (g_zoneColumns : Nat → Int32) (g_rows : Nat → Int32) (g_sheets : Nat → Int32) (p1 : Int32) (p2 : Int32) (p3 : Int32) (r : Int32) (o1 : Int32) (o2 : Int32) (o3 : Int32) (o4 : Int32) (o5 : Int32) (o6 : Int32) (hf : f_X_jog N sp_level sp_row sp_start sp_place sp_length sp_cap g_bandRows g_zoneColumns g_rows g_sheets p1 p2 p3 = some (r, o1, o2, o3, o4, o5, o6)) : Met l yX10_jog wsX10_jog ({ frames := 3, cells := 0, slots := 0, locals := 71 }) (va_Pc [.ref a_x, .int p1, .int p2, .int p3] (q_N D ci A sa ((a_x, .inr (10, [.ref a_at, .ref a_g, .ref a_st, .ref a_x_kept, .int x_keptStates, .ref a_tp, .ref a_rd, .ref a_qu, .ref a_sp, .ref a_wk, .ref a_bx, .ref a_nt, .ref a_nu, .ref a_x_seen])) :: (a_sp, .inr (6, [.ref a_g, .ref a_sp_first, .ref a_sp_many, .ref a_sp_corner, .int sp_cornerCount, .int sp_level, .int sp_row, .int sp_start, .int sp_place, .int sp_length, .int sp_cap])) :: (a_g, .inr (2, [.ref a_g_rowCuts, .ref a_g_columnCuts, .ref a_g_bandRows, .ref a_g_zoneColumns, .ref a_g_rows, .ref a_g_sheets])) :: (a_g_bandRows, .inl (ci 0, 5, .inl g_bandRows)) :: (a_g_zoneColumns, .inl (ci 0, 5, .inl g_zoneColumns)) :: (a_g_rows, .inl (ci 0, 5, .inl g_rows)) :: (a_g_sheets, .inl (ci 0, 5, .inl g_sheets)) :: Rw))) (q_Q (some (.int r)) (q_O D A ((a_x, .inr (10, [.ref a_at, .ref a_g, .ref a_st, .ref a_x_kept, .int x_keptStates, .ref a_tp, .ref a_rd, .ref a_qu, .ref a_sp, .ref a_wk, .ref a_bx, .ref a_nt, .ref a_nu, .ref a_x_seen])) :: (a_sp, .inr (6, [.ref a_g, .ref a_sp_first, .ref a_sp_many, .ref a_sp_corner, .int sp_cornerCount, .int o1, .int o2, .int o3, .int o4, .int o5, .int o6])) :: (a_g, .inr (2, [.ref a_g_rowCuts, .ref a_g_columnCuts, .ref a_g_bandRows, .ref a_g_zoneColumns, .ref a_g_rows, .ref a_g_sheets])) :: (a_g_bandRows, .inl (ci 0, 5, .inl g_bandRows)) :: (a_g_zoneColumns, .inl (ci 0, 5, .inl g_zoneColumns)) :: (a_g_rows, .inl (ci 0, 5, .inl g_rows)) :: (a_g_sheets, .inl (ci 0, 5, .inl g_sheets)) :: Rw)) A) 0 0 A := by
  refine q_ofW (cc := cX10_jog) (maxL := 5) (ret := (some .int)) [.ref a_x, .int p1, .int p2, .int p3] (plainFor_of_name (by decide)) rfl (Nat.le_of_ble_eq_true rfl) ?_
  intro p e s m below meth c ls Q hQ hx hb hml hr hts hown hlocks hK hA hZ hP hD hS hl
  have hl : lv_has ls 5 [(0, .ref a_x), (1, .int p1), (2, .int p2), (3, .int p3)] := hl
  have hown : s.vm.findClass RX10 = some m.cls := hown
  have hinX10 : ∀ w ∈ wsX100, w ∈ wsX10_jog := fun _ h => List.mem_cons_of_mem _ (inWX100 _ h)
  have hinX2 : ∀ w ∈ wsX20, w ∈ wsX10_jog := fun _ h => List.mem_cons_of_mem _ (inWX20 _ h)
  have hinX6 : ∀ w ∈ wsX60, w ∈ wsX10_jog := fun _ h => List.mem_cons_of_mem _ (inWX60 _ h)
  have w_1 := hts (Cond.fieldLink RX10 20 "SheetNames" "grid" "LSheetNames$Grid;") (List.mem_cons_of_mem _ t_w876)
  have w_2 := hts (Cond.fieldLink RX10 66 "SheetNames" "spot" "LSheetNames$Spot;") (List.mem_cons_of_mem _ t_w877)
  have wn_2 : (Cond.fieldLinkNest "SheetNames" 133 "SheetNames$Grid" "rows" "[I" "SheetNames").before ([.ref a_x, .int p1, .int p2, .int p3] : List Value).toArray s = true := (hZ.2.2.2.2.2.2.2.2.2.1 _ (List.mem_of_getElem? (i := 2) rfl)).use rfl
  have wn_13 : (Cond.fieldLinkNest "SheetNames" 214 "SheetNames$Spot" "row" "I" "SheetNames").before ([.ref a_x, .int p1, .int p2, .int p3] : List Value).toArray s = true := (hZ.2.2.2.2.2.2.2.2.2.1 _ (List.mem_of_getElem? (i := 13) rfl)).use rfl
  have wn_15 : (Cond.fieldLinkNest "SheetNames" 220 "SheetNames$Spot" "length" "I" "SheetNames").before ([.ref a_x, .int p1, .int p2, .int p3] : List Value).toArray s = true := (hZ.2.2.2.2.2.2.2.2.2.1 _ (List.mem_of_getElem? (i := 15) rfl)).use rfl
  unfold f_X_jog at hf
  have hgo : ∀ (H : Heap) (locs : List Loc), H = s.heap → va_P D vwCl ((a_x, .inr (10, [.ref a_at, .ref a_g, .ref a_st, .ref a_x_kept, .int x_keptStates, .ref a_tp, .ref a_rd, .ref a_qu, .ref a_sp, .ref a_wk, .ref a_bx, .ref a_nt, .ref a_nu, .ref a_x_seen])) :: (a_sp, .inr (6, [.ref a_g, .ref a_sp_first, .ref a_sp_many, .ref a_sp_corner, .int sp_cornerCount, .int sp_level, .int sp_row, .int sp_start, .int sp_place, .int sp_length, .int sp_cap])) :: (a_g, .inr (2, [.ref a_g_rowCuts, .ref a_g_columnCuts, .ref a_g_bandRows, .ref a_g_zoneColumns, .ref a_g_rows, .ref a_g_sheets])) :: (a_g_bandRows, .inl (ci 0, 5, .inl g_bandRows)) :: (a_g_zoneColumns, .inl (ci 0, 5, .inl g_zoneColumns)) :: (a_g_rows, .inl (ci 0, 5, .inl g_rows)) :: (a_g_sheets, .inl (ci 0, 5, .inl g_sheets)) :: Rw) H → va_S A s.heap H locs → W p l e ({ frames := 3, cells := 0, slots := 0, locals := 71 } : Room) s m ([.ref a_x, .int p1, .int p2, .int p3] : List Value).toArray below meth c H locs 0 0 Q (F0 m 0 ls []) := by
    intro H locs hH hP hS
    refine lv_aload_n (pc := 0) hx hb dX10_jog_0 rfl (lv_at hl 0 rfl) ?_
    refine va_get (pc := 1) (D := D) (ci := 10) (v := .ref a_g) (C := RX10) (T := TX10) (N := 14) hx hb hts hinX10 hown hK hP 0 rfl rfl 1 (by decide) w_1 (fun _ h9 => h9) rfl dX10_jog_1 ?_
    refine lv_iload_n (pc := 4) hx hb dX10_jog_4 rfl (lv_at hl 1 rfl) ?_
    refine lv_iload_n (pc := 5) hx hb dX10_jog_5 rfl (lv_at hl 2 rfl) ?_
    obtain ⟨v1, hm6, hf⟩ := q_b1_e hf
    refine q_cVr (pc := 6) (As := [.int p1, .int p2]) (rest := []) (v0 := (some (.int v1))) ⟨hx, hb, hml, hown, hts⟩ hK hA hZ hP hD hS hl.1 [2, 6] 7 rfl ⟨rfl, rfl, rfl⟩ (c_Grid_hasSheet l D ci A sa N (Rw) a_g a_g_rowCuts a_g_columnCuts a_g_bandRows a_g_zoneColumns a_g_rows a_g_sheets g_sheets p1 p2 v1 hm6) 2 rfl rfl (cwV 2 hts gX10_jog_X2_hasSheet rfl rfl rfl (by decide +kernel) ⟨Nat.le_of_ble_eq_true rfl, Nat.le_of_ble_eq_true rfl⟩) rfl rfl (Nat.le_of_ble_eq_true rfl) dX10_jog_6 ⟨Nat.zero_le _, Nat.zero_le _⟩ (fun locs hS => ?_)
    refine q_if_eq (pc := 9) (tgt := 21) hx hb dX10_jog_9 (by decide) rfl hf (fun hf => ?_) (fun hf => ?_)
    · refine lv_iconst (pc := 21) (v := (-1)) hx hb dX10_jog_21 (by decide) ?_
      obtain ⟨e90, e91, e92, e93, e94, e95, e96⟩ := q_inj7 (Option.some.inj hf)
      rw [hQ, ← e90, ← e91, ← e92, ← e93, ← e94, ← e95, ← e96]
      exact q_iret (pc := 22) hx hb hr hlocks hP hD hS dX10_jog_22
    · refine lv_iload_n (pc := 12) hx hb dX10_jog_12 rfl (lv_at hl 3 rfl) ?_
      obtain ⟨k23, ek23, hf⟩ := q_j0_e hf
      have J23 : ∀  (H : Heap) (locs : List Loc) (ls : Array Slot), k23 = some (r, o1, o2, o3, o4, o5, o6) → va_P D vwCl ((a_x, .inr (10, [.ref a_at, .ref a_g, .ref a_st, .ref a_x_kept, .int x_keptStates, .ref a_tp, .ref a_rd, .ref a_qu, .ref a_sp, .ref a_wk, .ref a_bx, .ref a_nt, .ref a_nu, .ref a_x_seen])) :: (a_sp, .inr (6, [.ref a_g, .ref a_sp_first, .ref a_sp_many, .ref a_sp_corner, .int sp_cornerCount, .int sp_level, .int sp_row, .int sp_start, .int sp_place, .int sp_length, .int sp_cap])) :: (a_g, .inr (2, [.ref a_g_rowCuts, .ref a_g_columnCuts, .ref a_g_bandRows, .ref a_g_zoneColumns, .ref a_g_rows, .ref a_g_sheets])) :: (a_g_bandRows, .inl (ci 0, 5, .inl g_bandRows)) :: (a_g_zoneColumns, .inl (ci 0, 5, .inl g_zoneColumns)) :: (a_g_rows, .inl (ci 0, 5, .inl g_rows)) :: (a_g_sheets, .inl (ci 0, 5, .inl g_sheets)) :: Rw) H → va_D A ((a_x, .inr (10, [.ref a_at, .ref a_g, .ref a_st, .ref a_x_kept, .int x_keptStates, .ref a_tp, .ref a_rd, .ref a_qu, .ref a_sp, .ref a_wk, .ref a_bx, .ref a_nt, .ref a_nu, .ref a_x_seen])) :: (a_sp, .inr (6, [.ref a_g, .ref a_sp_first, .ref a_sp_many, .ref a_sp_corner, .int sp_cornerCount, .int sp_level, .int sp_row, .int sp_start, .int sp_place, .int sp_length, .int sp_cap])) :: (a_g, .inr (2, [.ref a_g_rowCuts, .ref a_g_columnCuts, .ref a_g_bandRows, .ref a_g_zoneColumns, .ref a_g_rows, .ref a_g_sheets])) :: (a_g_bandRows, .inl (ci 0, 5, .inl g_bandRows)) :: (a_g_zoneColumns, .inl (ci 0, 5, .inl g_zoneColumns)) :: (a_g_rows, .inl (ci 0, 5, .inl g_rows)) :: (a_g_sheets, .inl (ci 0, 5, .inl g_sheets)) :: Rw) → va_S A s.heap H locs → lv_has ls 5 [(0, .ref a_x), (1, .int p1), (2, .int p2), (3, .int p3)] → W p l e ({ frames := 3, cells := 0, slots := 0, locals := 71 } : Room) s m ([.ref a_x, .int p1, .int p2, .int p3] : List Value).toArray below meth c H locs 0 0 Q (F0 m 23 ls []) := by
        intro  H locs ls hf hP hD hS hl
        have hf := (ek23).symm.trans hf
        refine lv_aload_n (pc := 23) hx hb dX10_jog_23 rfl (lv_at hl 0 rfl) ?_
        refine va_get (pc := 24) (D := D) (ci := 10) (v := .ref a_sp) (C := RX10) (T := TX10) (N := 14) hx hb hts hinX10 hown hK hP 0 rfl rfl 8 (by decide) w_2 (fun _ h9 => h9) rfl dX10_jog_24 ?_
        refine lv_iload_n (pc := 27) hx hb dX10_jog_27 rfl (lv_at hl 1 rfl) ?_
        refine lv_iload_n (pc := 28) hx hb dX10_jog_28 rfl (lv_at hl 2 rfl) ?_
        obtain ⟨v2, v3, v4, v5, v6, v7, hm29, hf⟩ := q_b6_e hf
        refine q_cV (pc := 29) (As := [.int p1, .int p2]) (rest := []) (v0 := none) ⟨hx, hb, hml, hown, hts⟩ hK hA hZ hP hD hS hl.1 [1, 2, 3, 4, 5, 6, 0] 7 rfl ⟨rfl, rfl, rfl⟩ (c_Spot_put l D ci A sa N ((a_x, .inr (10, [.ref a_at, .ref a_g, .ref a_st, .ref a_x_kept, .int x_keptStates, .ref a_tp, .ref a_rd, .ref a_qu, .ref a_sp, .ref a_wk, .ref a_bx, .ref a_nt, .ref a_nu, .ref a_x_seen])) :: Rw) a_sp a_g a_sp_first a_sp_many a_sp_corner a_g_rowCuts a_g_columnCuts a_g_bandRows a_g_zoneColumns a_g_rows a_g_sheets sp_cornerCount sp_level sp_row sp_start sp_place sp_length sp_cap g_bandRows g_zoneColumns g_rows g_sheets p1 p2 v2 v3 v4 v5 v6 v7 hm29) 1 rfl rfl (cwV 2 hts gX10_jog_X6_put rfl rfl rfl (by decide +kernel) ⟨Nat.le_of_ble_eq_true rfl, Nat.le_of_ble_eq_true rfl⟩) rfl rfl (Nat.le_of_ble_eq_true rfl) dX10_jog_29 ⟨Nat.zero_le _, Nat.zero_le _⟩ [6, 0, 1, 2, 3, 4, 5] 7 rfl ⟨rfl, rfl, rfl⟩ (fun H locs hP hD hS => ?_)
        obtain ⟨hP, hD⟩ : va_PD D A ((a_x, .inr (10, [.ref a_at, .ref a_g, .ref a_st, .ref a_x_kept, .int x_keptStates, .ref a_tp, .ref a_rd, .ref a_qu, .ref a_sp, .ref a_wk, .ref a_bx, .ref a_nt, .ref a_nu, .ref a_x_seen])) :: (a_sp, .inr (6, [.ref a_g, .ref a_sp_first, .ref a_sp_many, .ref a_sp_corner, .int sp_cornerCount, .int v2, .int v3, .int v4, .int v5, .int v6, .int v7])) :: (a_g, .inr (2, [.ref a_g_rowCuts, .ref a_g_columnCuts, .ref a_g_bandRows, .ref a_g_zoneColumns, .ref a_g_rows, .ref a_g_sheets])) :: (a_g_bandRows, .inl (ci 0, 5, .inl g_bandRows)) :: (a_g_zoneColumns, .inl (ci 0, 5, .inl g_zoneColumns)) :: (a_g_rows, .inl (ci 0, 5, .inl g_rows)) :: (a_g_sheets, .inl (ci 0, 5, .inl g_sheets)) :: Rw) H := ⟨hP, hD⟩
        refine lv_iload_n (pc := 32) hx hb dX10_jog_32 rfl (lv_at hl 3 rfl) ?_
        obtain ⟨k57, ek57, hf⟩ := q_j1_e hf
        have J57 : ∀ (v8 : Int32) (H : Heap) (locs : List Loc) (ls : Array Slot), k57 v8 = some (r, o1, o2, o3, o4, o5, o6) → va_P D vwCl ((a_x, .inr (10, [.ref a_at, .ref a_g, .ref a_st, .ref a_x_kept, .int x_keptStates, .ref a_tp, .ref a_rd, .ref a_qu, .ref a_sp, .ref a_wk, .ref a_bx, .ref a_nt, .ref a_nu, .ref a_x_seen])) :: (a_sp, .inr (6, [.ref a_g, .ref a_sp_first, .ref a_sp_many, .ref a_sp_corner, .int sp_cornerCount, .int v2, .int v3, .int v4, .int v5, .int v6, .int v7])) :: (a_g, .inr (2, [.ref a_g_rowCuts, .ref a_g_columnCuts, .ref a_g_bandRows, .ref a_g_zoneColumns, .ref a_g_rows, .ref a_g_sheets])) :: (a_g_bandRows, .inl (ci 0, 5, .inl g_bandRows)) :: (a_g_zoneColumns, .inl (ci 0, 5, .inl g_zoneColumns)) :: (a_g_rows, .inl (ci 0, 5, .inl g_rows)) :: (a_g_sheets, .inl (ci 0, 5, .inl g_sheets)) :: Rw) H → va_D A ((a_x, .inr (10, [.ref a_at, .ref a_g, .ref a_st, .ref a_x_kept, .int x_keptStates, .ref a_tp, .ref a_rd, .ref a_qu, .ref a_sp, .ref a_wk, .ref a_bx, .ref a_nt, .ref a_nu, .ref a_x_seen])) :: (a_sp, .inr (6, [.ref a_g, .ref a_sp_first, .ref a_sp_many, .ref a_sp_corner, .int sp_cornerCount, .int v2, .int v3, .int v4, .int v5, .int v6, .int v7])) :: (a_g, .inr (2, [.ref a_g_rowCuts, .ref a_g_columnCuts, .ref a_g_bandRows, .ref a_g_zoneColumns, .ref a_g_rows, .ref a_g_sheets])) :: (a_g_bandRows, .inl (ci 0, 5, .inl g_bandRows)) :: (a_g_zoneColumns, .inl (ci 0, 5, .inl g_zoneColumns)) :: (a_g_rows, .inl (ci 0, 5, .inl g_rows)) :: (a_g_sheets, .inl (ci 0, 5, .inl g_sheets)) :: Rw) → va_S A s.heap H locs → lv_has ls 5 [(0, .ref a_x), (1, .int p1)] → W p l e ({ frames := 3, cells := 0, slots := 0, locals := 71 } : Room) s m ([.ref a_x, .int p1, .int p2, .int p3] : List Value).toArray below meth c H locs 0 0 Q (F0 m 57 ls [.int v8]) := by
          intro v8 H locs ls hf hP hD hS hl
          have hf := (ek57 v8).symm.trans hf
          refine lv_istore (pc := 57) (lv' := [(4, .int v8), (0, .ref a_x), (1, .int p1)]) hx hb dX10_jog_57 hl (by decide) rfl (fun ls hl => ?_)
          refine lv_iload (pc := 59) hx hb dX10_jog_59 (lv_at hl 0 rfl) ?_
          refine lv_iconst (pc := 61) (v := 0) hx hb dX10_jog_61 (by decide) ?_
          refine lv_aload_n (pc := 62) hx hb dX10_jog_62 rfl (lv_at hl 1 rfl) ?_
          refine va_get (pc := 63) (D := D) (ci := 10) (v := .ref a_g) (C := RX10) (T := TX10) (N := 14) hx hb hts hinX10 hown hK hP 0 rfl rfl 1 (by decide) w_1 (fun _ h9 => h9) rfl dX10_jog_63 ?_
          refine va_getN (pc := 66) (D := D) (ci := 2) (v := .ref a_g_rows) (C := RX2) (T := TX2) (N := 6) hx hb hts hinX2 hown hK hP 2 rfl rfl 4 (by decide) wn_2 (fun _ h9 => h9) rfl dX10_jog_66 ?_
          refine lv_iload_n (pc := 69) hx hb dX10_jog_69 rfl (lv_at hl 2 rfl) ?_
          refine q_iald (pc := 70) hx hb hK hP 5 0 hf rfl rfl dX10_jog_70 (fun v9 hf => ?_)
          refine lv_iconst (pc := 71) (v := 1) hx hb dX10_jog_71 (by decide) ?_
          refine lv_isub (pc := 72) hx hb dX10_jog_72 ?_
          obtain ⟨v10, hm73, hf⟩ := q_b1_e hf
          refine q_cSr (pc := 73) (As := [.int v8, .int 0, .int (v9 - 1)]) (rest := []) (v0 := (some (.int v10))) ⟨hx, hb, hml, hown, hts⟩ hK hA hZ hP hD hS hl.1 [] 7 rfl ⟨rfl, rfl, rfl⟩ (c_X_isFrom l D ci A sa N (Rw) v8 0 (v9 - 1) v10 hm73) (va_cwS 3 hts gX10_jog_X10_isFrom rfl rfl rfl (by decide +kernel) ⟨Nat.le_of_ble_eq_true rfl, Nat.le_of_ble_eq_true rfl⟩) rfl rfl (Nat.le_of_ble_eq_true rfl) dX10_jog_73 ⟨Nat.zero_le _, Nat.zero_le _⟩ (fun locs hS => ?_)
          refine q_if_ne (pc := 76) (tgt := 81) hx hb dX10_jog_76 (by decide) rfl hf (fun hf => ?_) (fun hf => ?_)
          · refine lv_aload_n (pc := 81) hx hb dX10_jog_81 rfl (lv_at hl 1 rfl) ?_
            refine va_get (pc := 82) (D := D) (ci := 10) (v := .ref a_g) (C := RX10) (T := TX10) (N := 14) hx hb hts hinX10 hown hK hP 0 rfl rfl 1 (by decide) w_1 (fun _ h9 => h9) rfl dX10_jog_82 ?_
            refine lv_iload_n (pc := 85) hx hb dX10_jog_85 rfl (lv_at hl 2 rfl) ?_
            refine lv_iload (pc := 86) hx hb dX10_jog_86 (lv_at hl 0 rfl) ?_
            obtain ⟨v11, hm88, hf⟩ := q_b1_e hf
            refine q_cVr (pc := 88) (As := [.int p1, .int v8]) (rest := []) (v0 := (some (.int v11))) ⟨hx, hb, hml, hown, hts⟩ hK hA hZ hP hD hS hl.1 [2, 3, 4, 5] 7 rfl ⟨rfl, rfl, rfl⟩ (c_Grid_rowLength l D ci A sa N (Rw) a_g a_g_rowCuts a_g_columnCuts a_g_bandRows a_g_zoneColumns a_g_rows a_g_sheets g_bandRows g_zoneColumns g_rows p1 v8 v11 hm88) 2 rfl rfl (cwV 2 hts gX10_jog_X2_rowLength rfl rfl rfl (by decide +kernel) ⟨Nat.le_of_ble_eq_true rfl, Nat.le_of_ble_eq_true rfl⟩) rfl rfl (Nat.le_of_ble_eq_true rfl) dX10_jog_88 ⟨Nat.zero_le _, Nat.zero_le _⟩ (fun locs hS => ?_)
            refine lv_aload_n (pc := 91) hx hb dX10_jog_91 rfl (lv_at hl 1 rfl) ?_
            refine va_get (pc := 92) (D := D) (ci := 10) (v := .ref a_sp) (C := RX10) (T := TX10) (N := 14) hx hb hts hinX10 hown hK hP 0 rfl rfl 8 (by decide) w_2 (fun _ h9 => h9) rfl dX10_jog_92 ?_
            refine va_getN (pc := 95) (D := D) (ci := 6) (v := .int v6) (C := RX6) (T := TX6) (N := 11) hx hb hts hinX6 hown hK hP 1 rfl rfl 9 (by decide) wn_15 (fun _ h9 => h9) rfl dX10_jog_95 ?_
            refine q_icmp_eq (pc := 98) (tgt := 105) hx hb dX10_jog_98 (by decide) rfl hf (fun hf => ?_) (fun hf => ?_)
            · refine lv_iconst (pc := 105) (v := 0) hx hb dX10_jog_105 (by decide) ?_
              obtain ⟨e90, e91, e92, e93, e94, e95, e96⟩ := q_inj7 (Option.some.inj hf)
              rw [hQ, ← e90, ← e91, ← e92, ← e93, ← e94, ← e95, ← e96]
              exact q_iret (pc := 106) hx hb hr hlocks hP hD hS dX10_jog_106
            · refine lv_iconst (pc := 101) (v := 1) hx hb dX10_jog_101 (by decide) ?_
              refine lv_goto (pc := 102) (tgt := 106) hx hb dX10_jog_102 (by decide) ?_
              obtain ⟨e90, e91, e92, e93, e94, e95, e96⟩ := q_inj7 (Option.some.inj hf)
              rw [hQ, ← e90, ← e91, ← e92, ← e93, ← e94, ← e95, ← e96]
              exact q_iret (pc := 106) hx hb hr hlocks hP hD hS dX10_jog_106
          · refine lv_iconst (pc := 79) (v := 0) hx hb dX10_jog_79 (by decide) ?_
            obtain ⟨e90, e91, e92, e93, e94, e95, e96⟩ := q_inj7 (Option.some.inj hf)
            rw [hQ, ← e90, ← e91, ← e92, ← e93, ← e94, ← e95, ← e96]
            exact q_iret (pc := 80) hx hb hr hlocks hP hD hS dX10_jog_80
        refine q_if_ne (pc := 33) (tgt := 48) hx hb dX10_jog_33 (by decide) rfl hf (fun hf => ?_) (fun hf => ?_)
        · refine lv_aload_n (pc := 48) hx hb dX10_jog_48 rfl (lv_at hl 0 rfl) ?_
          refine va_get (pc := 49) (D := D) (ci := 10) (v := .ref a_sp) (C := RX10) (T := TX10) (N := 14) hx hb hts hinX10 hown hK hP 0 rfl rfl 8 (by decide) w_2 (fun _ h9 => h9) rfl dX10_jog_49 ?_
          refine va_getN (pc := 52) (D := D) (ci := 6) (v := .int v3) (C := RX6) (T := TX6) (N := 11) hx hb hts hinX6 hown hK hP 1 rfl rfl 6 (by decide) wn_13 (fun _ h9 => h9) rfl dX10_jog_52 ?_
          refine lv_iconst (pc := 55) (v := 1) hx hb dX10_jog_55 (by decide) ?_
          refine lv_iadd (pc := 56) hx hb dX10_jog_56 ?_
          exact J57 (v3 + 1) _ _ _ hf hP hD hS (lv_sub hl [0, 1] rfl)
        · refine lv_aload_n (pc := 36) hx hb dX10_jog_36 rfl (lv_at hl 0 rfl) ?_
          refine va_get (pc := 37) (D := D) (ci := 10) (v := .ref a_sp) (C := RX10) (T := TX10) (N := 14) hx hb hts hinX10 hown hK hP 0 rfl rfl 8 (by decide) w_2 (fun _ h9 => h9) rfl dX10_jog_37 ?_
          refine va_getN (pc := 40) (D := D) (ci := 6) (v := .int v3) (C := RX6) (T := TX6) (N := 11) hx hb hts hinX6 hown hK hP 1 rfl rfl 6 (by decide) wn_13 (fun _ h9 => h9) rfl dX10_jog_40 ?_
          refine lv_iconst (pc := 43) (v := 1) hx hb dX10_jog_43 (by decide) ?_
          refine lv_isub (pc := 44) hx hb dX10_jog_44 ?_
          refine lv_goto (pc := 45) (tgt := 57) hx hb dX10_jog_45 (by decide) ?_
          exact J57 (v3 - 1) _ _ _ hf hP hD hS (lv_sub hl [0, 1] rfl)
      refine q_if_eq (pc := 13) (tgt := 23) hx hb dX10_jog_13 (by decide) rfl hf (fun hf => ?_) (fun hf => ?_)
      · exact J23  _ _ _ hf hP hD hS (lv_sub hl [0, 1, 2, 3] rfl)
      · refine lv_iload_n (pc := 16) hx hb dX10_jog_16 rfl (lv_at hl 3 rfl) ?_
        refine lv_iconst (pc := 17) (v := 2) hx hb dX10_jog_17 (by decide) ?_
        refine q_icmp_eq (pc := 18) (tgt := 23) hx hb dX10_jog_18 (by decide) rfl hf (fun hf => ?_) (fun hf => ?_)
        · exact J23  _ _ _ hf hP hD hS (lv_sub hl [0, 1, 2, 3] rfl)
        · refine lv_iconst (pc := 21) (v := (-1)) hx hb dX10_jog_21 (by decide) ?_
          obtain ⟨e90, e91, e92, e93, e94, e95, e96⟩ := q_inj7 (Option.some.inj hf)
          rw [hQ, ← e90, ← e91, ← e92, ← e93, ← e94, ← e95, ← e96]
          exact q_iret (pc := 22) hx hb hr hlocks hP hD hS dX10_jog_22
  exact hgo _ _ rfl hP hS
/-! X10_keep -/
set_option maxRecDepth 100000 in
set_option maxHeartbeats 4000000 in
theorem c_X_keep (l : Launch) (D : va_G) (ci : Nat → ClassId) (A : Nat → Prop) (sa : Nat → Nat) (N : Nat) (Rw : va_W) (a_x : Nat) (a_at : Nat) (a_g : Nat) (a_st : Nat) (a_x_kept : Nat) (a_tp : Nat) (a_rd : Nat) (a_qu : Nat) (a_sp : Nat) (a_wk : Nat) (a_bx : Nat) (a_nt : Nat) (a_nu : Nat) (a_x_seen : Nat) (a_st_levels : Nat) (a_st_keys : Nat) (a_st_years : Nat) (a_st_keysThere : Nat) (a_g_rowCuts : Nat) (a_g_columnCuts : Nat) (a_g_bandRows : Nat) (a_g_zoneColumns : Nat) (a_g_rows : Nat) (a_g_sheets : Nat) (a_at2 : Nat) (a_g2 : Nat) (a_st2 : Nat) (a_st2_levels : Nat) (a_st2_keys : Nat) (a_st2_years : Nat) (a_st2_keysThere : Nat) (a_g2_rowCuts : Nat) (a_g2_columnCuts : Nat) (a_g2_bandRows : Nat) (a_g2_zoneColumns : Nat) (a_g2_rows : Nat) (a_g2_sheets : Nat) (x_keptStates : Int32) (x_kept : Nat → Option Nat) (at_right : Int32) (at_faulty : Int32) (at_endedSoon : Int32) (at_noSuchNumber : Int32) (st_size : Int32) (st_shownBy : Int32) (st_deepestShown : Int32) (st_latestShown : Int32) (st_levels : Nat → Int32) (st_keys : Nat → Int32) (st_years : Nat → Int32) (g_rowCuts : Nat → Int32) (g_columnCuts : Nat → Int32) (at2_right : Int32) (at2_faulty : Int32) (at2_endedSoon : Int32) (at2_noSuchNumber : Int32) (st2_size : Int32) (st2_shownBy : Int32) (st2_deepestShown : Int32) (st2_latestShown : Int32) (st2_levels : Nat → Int32) (st2_keys : Nat → Int32) (st2_years : Nat → Int32) (g2_rowCuts : Nat → Int32) (g2_columnCuts : Nat → Int32) (g2_bandRows : Nat → Int32) (g2_zoneColumns : Nat → Int32) (g2_rows : Nat → Int32) (g2_sheets : Nat → Int32) (r : Int32) (o1 : Int32) (o2 : Int32) (o3 : Int32) (o4 : Int32) (o5 : Int32) (o6 : Nat → Int32) (o7 : Nat → Int32) (o8 : Nat → Int32) (o9 : Int32) (o10 : Nat → Int32) (o11 : Nat → Int32) (o12 : Nat → Int32) (o13 : Nat → Int32) (o14 : Nat → Int32) (o15 : Nat → Int32) (k : Nat) (hkept : x_kept k = some a_at2) (hf : f_X_keep N k x_keptStates at_right at_faulty at_endedSoon at_noSuchNumber st_levels st_keys st_years st_size g_rowCuts g_columnCuts at2_right at2_faulty at2_endedSoon at2_noSuchNumber st2_levels st2_keys st2_years st2_size g2_rowCuts g2_columnCuts g2_bandRows g2_zoneColumns g2_rows g2_sheets = some (r, o1, o2, o3, o4, o5, o6, o7, o8, o9, o10, o11, o12, o13, o14, o15)) : Met l yX10_keep wsX10_keep ({ frames := 3, cells := 0, slots := 0, locals := 82 }) (va_Pc [.ref a_x] (q_N D ci A sa ((a_x, .inr (10, [.ref a_at, .ref a_g, .ref a_st, .ref a_x_kept, .int x_keptStates, .ref a_tp, .ref a_rd, .ref a_qu, .ref a_sp, .ref a_wk, .ref a_bx, .ref a_nt, .ref a_nu, .ref a_x_seen])) :: (a_x_kept, .inl (ci 3, 8, .inr (.inr (.inr (.inr x_kept))))) :: (a_at, .inr (0, [.ref a_g, .ref a_st, .int at_right, .int at_faulty, .int at_endedSoon, .int at_noSuchNumber])) :: (a_st, .inr (7, [.ref a_g, .ref a_st_levels, .ref a_st_keys, .ref a_st_years, .ref a_st_keysThere, .int st_size, .int st_shownBy, .int st_deepestShown, .int st_latestShown])) :: (a_st_levels, .inl (ci 0, 60, .inl st_levels)) :: (a_st_keys, .inl (ci 0, 60, .inl st_keys)) :: (a_st_years, .inl (ci 0, 60, .inl st_years)) :: (a_g, .inr (2, [.ref a_g_rowCuts, .ref a_g_columnCuts, .ref a_g_bandRows, .ref a_g_zoneColumns, .ref a_g_rows, .ref a_g_sheets])) :: (a_g_rowCuts, .inl (ci 0, 5, .inl g_rowCuts)) :: (a_g_columnCuts, .inl (ci 0, 5, .inl g_columnCuts)) :: (a_at2, .inr (0, [.ref a_g2, .ref a_st2, .int at2_right, .int at2_faulty, .int at2_endedSoon, .int at2_noSuchNumber])) :: (a_st2, .inr (7, [.ref a_g2, .ref a_st2_levels, .ref a_st2_keys, .ref a_st2_years, .ref a_st2_keysThere, .int st2_size, .int st2_shownBy, .int st2_deepestShown, .int st2_latestShown])) :: (a_st2_levels, .inl (ci 0, 60, .inl st2_levels)) :: (a_st2_keys, .inl (ci 0, 60, .inl st2_keys)) :: (a_st2_years, .inl (ci 0, 60, .inl st2_years)) :: (a_g2, .inr (2, [.ref a_g2_rowCuts, .ref a_g2_columnCuts, .ref a_g2_bandRows, .ref a_g2_zoneColumns, .ref a_g2_rows, .ref a_g2_sheets])) :: (a_g2_rowCuts, .inl (ci 0, 5, .inl g2_rowCuts)) :: (a_g2_columnCuts, .inl (ci 0, 5, .inl g2_columnCuts)) :: (a_g2_bandRows, .inl (ci 0, 5, .inl g2_bandRows)) :: (a_g2_zoneColumns, .inl (ci 0, 5, .inl g2_zoneColumns)) :: (a_g2_rows, .inl (ci 0, 5, .inl g2_rows)) :: (a_g2_sheets, .inl (ci 0, 5, .inl g2_sheets)) :: Rw))) (q_Q (some (.int r)) (q_O D A ((a_x, .inr (10, [.ref a_at, .ref a_g, .ref a_st, .ref a_x_kept, .int o1, .ref a_tp, .ref a_rd, .ref a_qu, .ref a_sp, .ref a_wk, .ref a_bx, .ref a_nt, .ref a_nu, .ref a_x_seen])) :: (a_x_kept, .inl (ci 3, 8, .inr (.inr (.inr (.inr x_kept))))) :: (a_at, .inr (0, [.ref a_g, .ref a_st, .int at_right, .int at_faulty, .int at_endedSoon, .int at_noSuchNumber])) :: (a_st, .inr (7, [.ref a_g, .ref a_st_levels, .ref a_st_keys, .ref a_st_years, .ref a_st_keysThere, .int st_size, .int st_shownBy, .int st_deepestShown, .int st_latestShown])) :: (a_st_levels, .inl (ci 0, 60, .inl st_levels)) :: (a_st_keys, .inl (ci 0, 60, .inl st_keys)) :: (a_st_years, .inl (ci 0, 60, .inl st_years)) :: (a_g, .inr (2, [.ref a_g_rowCuts, .ref a_g_columnCuts, .ref a_g_bandRows, .ref a_g_zoneColumns, .ref a_g_rows, .ref a_g_sheets])) :: (a_g_rowCuts, .inl (ci 0, 5, .inl g_rowCuts)) :: (a_g_columnCuts, .inl (ci 0, 5, .inl g_columnCuts)) :: (a_at2, .inr (0, [.ref a_g2, .ref a_st2, .int o2, .int o3, .int o4, .int o5])) :: (a_st2, .inr (7, [.ref a_g2, .ref a_st2_levels, .ref a_st2_keys, .ref a_st2_years, .ref a_st2_keysThere, .int o9, .int st2_shownBy, .int st2_deepestShown, .int st2_latestShown])) :: (a_st2_levels, .inl (ci 0, 60, .inl o6)) :: (a_st2_keys, .inl (ci 0, 60, .inl o7)) :: (a_st2_years, .inl (ci 0, 60, .inl o8)) :: (a_g2, .inr (2, [.ref a_g2_rowCuts, .ref a_g2_columnCuts, .ref a_g2_bandRows, .ref a_g2_zoneColumns, .ref a_g2_rows, .ref a_g2_sheets])) :: (a_g2_rowCuts, .inl (ci 0, 5, .inl o10)) :: (a_g2_columnCuts, .inl (ci 0, 5, .inl o11)) :: (a_g2_bandRows, .inl (ci 0, 5, .inl o12)) :: (a_g2_zoneColumns, .inl (ci 0, 5, .inl o13)) :: (a_g2_rows, .inl (ci 0, 5, .inl o14)) :: (a_g2_sheets, .inl (ci 0, 5, .inl o15)) :: Rw)) A) 0 0 A := by
  refine q_ofW (cc := cX10_keep) (maxL := 1) (ret := (some .int)) [.ref a_x] (plainFor_of_name (by decide)) rfl (Nat.le_of_ble_eq_true rfl) ?_
  intro p e s m below meth c ls Q hQ hx hb hml hr hts hown hlocks hK hA hZ hP hD hS hl
  have hl : lv_has ls 1 [(0, .ref a_x)] := hl
  have hown : s.vm.findClass RX10 = some m.cls := hown
  have hinX10 : ∀ w ∈ wsX100, w ∈ wsX10_keep := fun _ h => List.mem_cons_of_mem _ (inWX100 _ h)
  have w_1 := hts (Cond.fieldLink RX10 32 "SheetNames" "keptStates" "I") (List.mem_cons_of_mem _ t_w893)
  have w_2 := hts (Cond.fieldLink RX10 28 "SheetNames" "kept" "[LSheetNames$Atlas;") (List.mem_cons_of_mem _ t_w903)
  have w_3 := hts (Cond.fieldLink RX10 10 "SheetNames" "now" "LSheetNames$Atlas;") (List.mem_cons_of_mem _ t_w884)
  unfold f_X_keep at hf
  have hgo : ∀ (H : Heap) (locs : List Loc), H = s.heap → va_P D vwCl ((a_x, .inr (10, [.ref a_at, .ref a_g, .ref a_st, .ref a_x_kept, .int x_keptStates, .ref a_tp, .ref a_rd, .ref a_qu, .ref a_sp, .ref a_wk, .ref a_bx, .ref a_nt, .ref a_nu, .ref a_x_seen])) :: (a_x_kept, .inl (ci 3, 8, .inr (.inr (.inr (.inr x_kept))))) :: (a_at, .inr (0, [.ref a_g, .ref a_st, .int at_right, .int at_faulty, .int at_endedSoon, .int at_noSuchNumber])) :: (a_st, .inr (7, [.ref a_g, .ref a_st_levels, .ref a_st_keys, .ref a_st_years, .ref a_st_keysThere, .int st_size, .int st_shownBy, .int st_deepestShown, .int st_latestShown])) :: (a_st_levels, .inl (ci 0, 60, .inl st_levels)) :: (a_st_keys, .inl (ci 0, 60, .inl st_keys)) :: (a_st_years, .inl (ci 0, 60, .inl st_years)) :: (a_g, .inr (2, [.ref a_g_rowCuts, .ref a_g_columnCuts, .ref a_g_bandRows, .ref a_g_zoneColumns, .ref a_g_rows, .ref a_g_sheets])) :: (a_g_rowCuts, .inl (ci 0, 5, .inl g_rowCuts)) :: (a_g_columnCuts, .inl (ci 0, 5, .inl g_columnCuts)) :: (a_at2, .inr (0, [.ref a_g2, .ref a_st2, .int at2_right, .int at2_faulty, .int at2_endedSoon, .int at2_noSuchNumber])) :: (a_st2, .inr (7, [.ref a_g2, .ref a_st2_levels, .ref a_st2_keys, .ref a_st2_years, .ref a_st2_keysThere, .int st2_size, .int st2_shownBy, .int st2_deepestShown, .int st2_latestShown])) :: (a_st2_levels, .inl (ci 0, 60, .inl st2_levels)) :: (a_st2_keys, .inl (ci 0, 60, .inl st2_keys)) :: (a_st2_years, .inl (ci 0, 60, .inl st2_years)) :: (a_g2, .inr (2, [.ref a_g2_rowCuts, .ref a_g2_columnCuts, .ref a_g2_bandRows, .ref a_g2_zoneColumns, .ref a_g2_rows, .ref a_g2_sheets])) :: (a_g2_rowCuts, .inl (ci 0, 5, .inl g2_rowCuts)) :: (a_g2_columnCuts, .inl (ci 0, 5, .inl g2_columnCuts)) :: (a_g2_bandRows, .inl (ci 0, 5, .inl g2_bandRows)) :: (a_g2_zoneColumns, .inl (ci 0, 5, .inl g2_zoneColumns)) :: (a_g2_rows, .inl (ci 0, 5, .inl g2_rows)) :: (a_g2_sheets, .inl (ci 0, 5, .inl g2_sheets)) :: Rw) H → va_S A s.heap H locs → W p l e ({ frames := 3, cells := 0, slots := 0, locals := 82 } : Room) s m ([.ref a_x] : List Value).toArray below meth c H locs 0 0 Q (F0 m 0 ls []) := by
    intro H locs hH hP hS
    refine lv_aload_n (pc := 0) hx hb dX10_keep_0 rfl (lv_at hl 0 rfl) ?_
    refine va_get (pc := 1) (D := D) (ci := 10) (v := .int x_keptStates) (C := RX10) (T := TX10) (N := 14) hx hb hts hinX10 hown hK hP 0 rfl rfl 4 (by decide) w_1 (fun _ h9 => h9) rfl dX10_keep_1 ?_
    refine lv_aload_n (pc := 4) hx hb dX10_keep_4 rfl (lv_at hl 0 rfl) ?_
    refine va_get (pc := 5) (D := D) (ci := 10) (v := .ref a_x_kept) (C := RX10) (T := TX10) (N := 14) hx hb hts hinX10 hown hK hP 0 rfl rfl 3 (by decide) w_2 (fun _ h9 => h9) rfl dX10_keep_5 ?_
    refine va_alen (pc := 8) (v := 8) hx hb hK hP 1 3 rfl rfl rfl dX10_keep_8 ?_
    refine q_icmp_lt (pc := 9) (tgt := 14) hx hb dX10_keep_9 (by decide) rfl hf (fun hf => ?_) (fun hf => ?_)
    · refine lv_aload_n (pc := 14) hx hb dX10_keep_14 rfl (lv_at hl 0 rfl) ?_
      refine va_get (pc := 15) (D := D) (ci := 10) (v := .ref a_x_kept) (C := RX10) (T := TX10) (N := 14) hx hb hts hinX10 hown hK hP 0 rfl rfl 3 (by decide) w_2 (fun _ h9 => h9) rfl dX10_keep_15 ?_
      refine lv_aload_n (pc := 18) hx hb dX10_keep_18 rfl (lv_at hl 0 rfl) ?_
      refine va_get (pc := 19) (D := D) (ci := 10) (v := .int x_keptStates) (C := RX10) (T := TX10) (N := 14) hx hb hts hinX10 hown hK hP 0 rfl rfl 4 (by decide) w_1 (fun _ h9 => h9) rfl dX10_keep_19 ?_
      refine q_kld (pc := 22) (k := k) hx hb hK hP 1 hf rfl hkept dX10_keep_22 (fun hf => ?_)
      refine lv_aload_n (pc := 23) hx hb dX10_keep_23 rfl (lv_at hl 0 rfl) ?_
      refine va_get (pc := 24) (D := D) (ci := 10) (v := .ref a_at) (C := RX10) (T := TX10) (N := 14) hx hb hts hinX10 hown hK hP 0 rfl rfl 0 (by decide) w_3 (fun _ h9 => h9) rfl dX10_keep_24 ?_
      obtain ⟨v1, v2, v3, v4, f5, f6, f7, v8, f9, f10, f11, f12, f13, f14, hm27, hf⟩ := q_b14_e hf
      refine q_cV (pc := 27) (As := [.ref a_at]) (rest := []) (v0 := none) ⟨hx, hb, hml, hown, hts⟩ hK hA hZ hP hD hS hl.1 [10, 11, 12, 13, 14, 15, 16, 17, 18, 19, 20, 21, 2, 3, 4, 5, 6, 7, 8, 9, 0, 1] 22 rfl ⟨rfl, rfl, rfl⟩ (c_Atlas_copyFrom l D ci A sa N ((a_x, .inr (10, [.ref a_at, .ref a_g, .ref a_st, .ref a_x_kept, .int x_keptStates, .ref a_tp, .ref a_rd, .ref a_qu, .ref a_sp, .ref a_wk, .ref a_bx, .ref a_nt, .ref a_nu, .ref a_x_seen])) :: (a_x_kept, .inl (ci 3, 8, .inr (.inr (.inr (.inr x_kept))))) :: Rw) a_at2 a_g2 a_st2 a_st2_levels a_st2_keys a_st2_years a_st2_keysThere a_g2_rowCuts a_g2_columnCuts a_g2_bandRows a_g2_zoneColumns a_g2_rows a_g2_sheets a_at a_g a_st a_st_levels a_st_keys a_st_years a_st_keysThere a_g_rowCuts a_g_columnCuts a_g_bandRows a_g_zoneColumns a_g_rows a_g_sheets at2_right at2_faulty at2_endedSoon at2_noSuchNumber st2_size st2_shownBy st2_deepestShown st2_latestShown st2_levels st2_keys st2_years g2_rowCuts g2_columnCuts g2_bandRows g2_zoneColumns g2_rows g2_sheets at_right at_faulty at_endedSoon at_noSuchNumber st_size st_shownBy st_deepestShown st_latestShown st_levels st_keys st_years g_rowCuts g_columnCuts v1 v2 v3 v4 f5 f6 f7 v8 f9 f10 f11 f12 f13 f14 hm27) 10 rfl rfl (cwV 1 hts gX10_keep_X0_copyFrom rfl rfl rfl (by decide +kernel) ⟨Nat.le_of_ble_eq_true rfl, Nat.le_of_ble_eq_true rfl⟩) rfl rfl (Nat.le_of_ble_eq_true rfl) dX10_keep_27 ⟨Nat.zero_le _, Nat.zero_le _⟩ [20, 21, 12, 13, 14, 15, 16, 17, 18, 19, 0, 1, 2, 3, 4, 5, 6, 7, 8, 9, 10, 11] 22 rfl ⟨rfl, rfl, rfl⟩ (fun H locs hP hD hS => ?_)
      obtain ⟨hP, hD⟩ : va_PD D A ((a_x, .inr (10, [.ref a_at, .ref a_g, .ref a_st, .ref a_x_kept, .int x_keptStates, .ref a_tp, .ref a_rd, .ref a_qu, .ref a_sp, .ref a_wk, .ref a_bx, .ref a_nt, .ref a_nu, .ref a_x_seen])) :: (a_x_kept, .inl (ci 3, 8, .inr (.inr (.inr (.inr x_kept))))) :: (a_at, .inr (0, [.ref a_g, .ref a_st, .int at_right, .int at_faulty, .int at_endedSoon, .int at_noSuchNumber])) :: (a_st, .inr (7, [.ref a_g, .ref a_st_levels, .ref a_st_keys, .ref a_st_years, .ref a_st_keysThere, .int st_size, .int st_shownBy, .int st_deepestShown, .int st_latestShown])) :: (a_st_levels, .inl (ci 0, 60, .inl st_levels)) :: (a_st_keys, .inl (ci 0, 60, .inl st_keys)) :: (a_st_years, .inl (ci 0, 60, .inl st_years)) :: (a_g, .inr (2, [.ref a_g_rowCuts, .ref a_g_columnCuts, .ref a_g_bandRows, .ref a_g_zoneColumns, .ref a_g_rows, .ref a_g_sheets])) :: (a_g_rowCuts, .inl (ci 0, 5, .inl g_rowCuts)) :: (a_g_columnCuts, .inl (ci 0, 5, .inl g_columnCuts)) :: (a_at2, .inr (0, [.ref a_g2, .ref a_st2, .int v1, .int v2, .int v3, .int v4])) :: (a_st2, .inr (7, [.ref a_g2, .ref a_st2_levels, .ref a_st2_keys, .ref a_st2_years, .ref a_st2_keysThere, .int v8, .int st2_shownBy, .int st2_deepestShown, .int st2_latestShown])) :: (a_st2_levels, .inl (ci 0, 60, .inl f5)) :: (a_st2_keys, .inl (ci 0, 60, .inl f6)) :: (a_st2_years, .inl (ci 0, 60, .inl f7)) :: (a_g2, .inr (2, [.ref a_g2_rowCuts, .ref a_g2_columnCuts, .ref a_g2_bandRows, .ref a_g2_zoneColumns, .ref a_g2_rows, .ref a_g2_sheets])) :: (a_g2_rowCuts, .inl (ci 0, 5, .inl f9)) :: (a_g2_columnCuts, .inl (ci 0, 5, .inl f10)) :: (a_g2_bandRows, .inl (ci 0, 5, .inl f11)) :: (a_g2_zoneColumns, .inl (ci 0, 5, .inl f12)) :: (a_g2_rows, .inl (ci 0, 5, .inl f13)) :: (a_g2_sheets, .inl (ci 0, 5, .inl f14)) :: Rw) H := ⟨hP, hD⟩
      refine lv_aload_n (pc := 30) hx hb dX10_keep_30 rfl (lv_at hl 0 rfl) ?_
      refine lv_dup (pc := 31) hx hb dX10_keep_31 rfl ?_
      refine va_get (pc := 32) (D := D) (ci := 10) (v := .int x_keptStates) (C := RX10) (T := TX10) (N := 14) hx hb hts hinX10 hown hK hP 0 rfl rfl 4 (by decide) w_1 (fun _ h9 => h9) rfl dX10_keep_32 ?_
      refine lv_iconst (pc := 35) (v := 1) hx hb dX10_keep_35 (by decide) ?_
      refine lv_iadd (pc := 36) hx hb dX10_keep_36 ?_
      obtain ⟨v15, ev15, hf⟩ := q_nm_e hf
      refine q_topi ev15 ?_
      refine va_put (pc := 37) (D := D) (ci := 10) (v := .int v15) (ty := .int) (C := RX10) (T := TX10) (N := 14) hx hb hts hinX10 tyX10 tyX10_ok nmX10 hown hK hP hD hS 0 rfl rfl 4 (by decide) w_1 (fun _ h9 => h9) rfl (by decide +kernel) rfl rfl (Nat.le_of_ble_eq_true rfl) dX10_keep_37 (fun H locs hP hD hS => ?_)
      obtain ⟨hP, hD⟩ : va_PD D A ((a_x, .inr (10, [.ref a_at, .ref a_g, .ref a_st, .ref a_x_kept, .int v15, .ref a_tp, .ref a_rd, .ref a_qu, .ref a_sp, .ref a_wk, .ref a_bx, .ref a_nt, .ref a_nu, .ref a_x_seen])) :: (a_x_kept, .inl (ci 3, 8, .inr (.inr (.inr (.inr x_kept))))) :: (a_at, .inr (0, [.ref a_g, .ref a_st, .int at_right, .int at_faulty, .int at_endedSoon, .int at_noSuchNumber])) :: (a_st, .inr (7, [.ref a_g, .ref a_st_levels, .ref a_st_keys, .ref a_st_years, .ref a_st_keysThere, .int st_size, .int st_shownBy, .int st_deepestShown, .int st_latestShown])) :: (a_st_levels, .inl (ci 0, 60, .inl st_levels)) :: (a_st_keys, .inl (ci 0, 60, .inl st_keys)) :: (a_st_years, .inl (ci 0, 60, .inl st_years)) :: (a_g, .inr (2, [.ref a_g_rowCuts, .ref a_g_columnCuts, .ref a_g_bandRows, .ref a_g_zoneColumns, .ref a_g_rows, .ref a_g_sheets])) :: (a_g_rowCuts, .inl (ci 0, 5, .inl g_rowCuts)) :: (a_g_columnCuts, .inl (ci 0, 5, .inl g_columnCuts)) :: (a_at2, .inr (0, [.ref a_g2, .ref a_st2, .int v1, .int v2, .int v3, .int v4])) :: (a_st2, .inr (7, [.ref a_g2, .ref a_st2_levels, .ref a_st2_keys, .ref a_st2_years, .ref a_st2_keysThere, .int v8, .int st2_shownBy, .int st2_deepestShown, .int st2_latestShown])) :: (a_st2_levels, .inl (ci 0, 60, .inl f5)) :: (a_st2_keys, .inl (ci 0, 60, .inl f6)) :: (a_st2_years, .inl (ci 0, 60, .inl f7)) :: (a_g2, .inr (2, [.ref a_g2_rowCuts, .ref a_g2_columnCuts, .ref a_g2_bandRows, .ref a_g2_zoneColumns, .ref a_g2_rows, .ref a_g2_sheets])) :: (a_g2_rowCuts, .inl (ci 0, 5, .inl f9)) :: (a_g2_columnCuts, .inl (ci 0, 5, .inl f10)) :: (a_g2_bandRows, .inl (ci 0, 5, .inl f11)) :: (a_g2_zoneColumns, .inl (ci 0, 5, .inl f12)) :: (a_g2_rows, .inl (ci 0, 5, .inl f13)) :: (a_g2_sheets, .inl (ci 0, 5, .inl f14)) :: Rw) H := ⟨hP, hD⟩
      refine lv_aload_n (pc := 40) hx hb dX10_keep_40 rfl (lv_at hl 0 rfl) ?_
      refine va_get (pc := 41) (D := D) (ci := 10) (v := .int v15) (C := RX10) (T := TX10) (N := 14) hx hb hts hinX10 hown hK hP 0 rfl rfl 4 (by decide) w_1 (fun _ h9 => h9) rfl dX10_keep_41 ?_
      obtain ⟨e90, e91, e92, e93, e94, e95, e96, e97, e98, e99, e910, e911, e912, e913, e914, e915⟩ := q_inj16 (Option.some.inj hf)
      rw [hQ, ← e90, ← e91, ← e92, ← e93, ← e94, ← e95, ← e96, ← e97, ← e98, ← e99, ← e910, ← e911, ← e912, ← e913, ← e914, ← e915]
      exact q_iret (pc := 44) hx hb hr hlocks hP hD hS dX10_keep_44
    · refine lv_iconst (pc := 12) (v := (-1)) hx hb dX10_keep_12 (by decide) ?_
      obtain ⟨e90, e91, e92, e93, e94, e95, e96, e97, e98, e99, e910, e911, e912, e913, e914, e915⟩ := q_inj16 (Option.some.inj hf)
      rw [hQ, ← e90, ← e91, ← e92, ← e93, ← e94, ← e95, ← e96, ← e97, ← e98, ← e99, ← e910, ← e911, ← e912, ← e913, ← e914, ← e915]
      exact q_iret (pc := 13) hx hb hr hlocks hP hD hS dX10_keep_13
  exact hgo _ _ rfl hP hS
/-! X10_key -/
set_option maxRecDepth 100000 in
set_option maxHeartbeats 4000000 in
theorem c_X_key (l : Launch) (D : va_G) (ci : Nat → ClassId) (A : Nat → Prop) (sa : Nat → Nat) (N : Nat) (Rw : va_W) (a_x : Nat) (a_at : Nat) (a_g : Nat) (a_st : Nat) (a_x_kept : Nat) (a_tp : Nat) (a_rd : Nat) (a_qu : Nat) (a_sp : Nat) (a_wk : Nat) (a_bx : Nat) (a_nt : Nat) (a_nu : Nat) (a_x_seen : Nat) (a_g_rowCuts : Nat) (a_g_columnCuts : Nat) (a_g_bandRows : Nat) (a_g_zoneColumns : Nat) (a_g_rows : Nat) (a_g_sheets : Nat) (x_keptStates : Int32) (g_bandRows : Nat → Int32) (g_zoneColumns : Nat → Int32) (g_rows : Nat → Int32) (g_sheets : Nat → Int32) (p1 : Int32) (p2 : Int32) (p3 : Int32) (r : Int32) (hf : f_X_key g_bandRows g_zoneColumns g_rows g_sheets p1 p2 p3 = some r) : Met l yX10_key wsX10_key ({ frames := 3, cells := 0, slots := 0, locals := 73 }) (va_Pc [.ref a_x, .int p1, .int p2, .int p3] (q_N D ci A sa ((a_x, .inr (10, [.ref a_at, .ref a_g, .ref a_st, .ref a_x_kept, .int x_keptStates, .ref a_tp, .ref a_rd, .ref a_qu, .ref a_sp, .ref a_wk, .ref a_bx, .ref a_nt, .ref a_nu, .ref a_x_seen])) :: (a_g, .inr (2, [.ref a_g_rowCuts, .ref a_g_columnCuts, .ref a_g_bandRows, .ref a_g_zoneColumns, .ref a_g_rows, .ref a_g_sheets])) :: (a_g_bandRows, .inl (ci 0, 5, .inl g_bandRows)) :: (a_g_zoneColumns, .inl (ci 0, 5, .inl g_zoneColumns)) :: (a_g_rows, .inl (ci 0, 5, .inl g_rows)) :: (a_g_sheets, .inl (ci 0, 5, .inl g_sheets)) :: Rw))) (q_R (some (.int r))) 0 0 A := by
  refine q_ofW (cc := cX10_key) (maxL := 4) (ret := (some .int)) [.ref a_x, .int p1, .int p2, .int p3] (plainFor_of_name (by decide)) rfl (Nat.le_of_ble_eq_true rfl) ?_
  intro p e s m below meth c ls Q hQ hx hb hml hr hts hown hlocks hK hA hZ hP hD hS hl
  have hl : lv_has ls 4 [(0, .ref a_x), (1, .int p1), (2, .int p2), (3, .int p3)] := hl
  have hown : s.vm.findClass RX10 = some m.cls := hown
  have hinX10 : ∀ w ∈ wsX100, w ∈ wsX10_key := fun _ h => List.mem_cons_of_mem _ (inWX100 _ h)
  have w_1 := hts (Cond.fieldLink RX10 20 "SheetNames" "grid" "LSheetNames$Grid;") (List.mem_cons_of_mem _ t_w876)
  unfold f_X_key at hf
  have hgo : ∀ (H : Heap) (locs : List Loc), H = s.heap → va_P D vwCl ((a_x, .inr (10, [.ref a_at, .ref a_g, .ref a_st, .ref a_x_kept, .int x_keptStates, .ref a_tp, .ref a_rd, .ref a_qu, .ref a_sp, .ref a_wk, .ref a_bx, .ref a_nt, .ref a_nu, .ref a_x_seen])) :: (a_g, .inr (2, [.ref a_g_rowCuts, .ref a_g_columnCuts, .ref a_g_bandRows, .ref a_g_zoneColumns, .ref a_g_rows, .ref a_g_sheets])) :: (a_g_bandRows, .inl (ci 0, 5, .inl g_bandRows)) :: (a_g_zoneColumns, .inl (ci 0, 5, .inl g_zoneColumns)) :: (a_g_rows, .inl (ci 0, 5, .inl g_rows)) :: (a_g_sheets, .inl (ci 0, 5, .inl g_sheets)) :: Rw) H → va_S A s.heap H locs → W p l e ({ frames := 3, cells := 0, slots := 0, locals := 73 } : Room) s m ([.ref a_x, .int p1, .int p2, .int p3] : List Value).toArray below meth c H locs 0 0 Q (F0 m 0 ls []) := by
    intro H locs hH hP hS
    subst hH
    refine lv_iload_n (pc := 0) hx hb dX10_key_0 rfl (lv_at hl 1 rfl) ?_
    refine lv_iload_n (pc := 1) hx hb dX10_key_1 rfl (lv_at hl 2 rfl) ?_
    obtain ⟨v1, hm2, hf⟩ := q_b1_e hf
    refine q_cSr (pc := 2) (As := [.int p1, .int p2]) (rest := []) (v0 := (some (.int v1))) ⟨hx, hb, hml, hown, hts⟩ hK hA hZ hP hD hS hl.1 [] 6 rfl ⟨rfl, rfl, rfl⟩ (c_X_isPlace l D ci A sa N (Rw) p1 p2 v1 hm2) (va_cwS 2 hts gX10_key_X10_isPlace rfl rfl rfl (by decide +kernel) ⟨Nat.le_of_ble_eq_true rfl, Nat.le_of_ble_eq_true rfl⟩) rfl rfl (Nat.le_of_ble_eq_true rfl) dX10_key_2 ⟨Nat.zero_le _, Nat.zero_le _⟩ (fun locs hS => ?_)
    refine q_if_eq (pc := 5) (tgt := 15) hx hb dX10_key_5 (by decide) rfl hf (fun hf => ?_) (fun hf => ?_)
    · refine lv_iconst (pc := 15) (v := (-1)) hx hb dX10_key_15 (by decide) ?_
      obtain rfl := Option.some.inj hf
      rw [hQ]
      exact q_iretr (pc := 16) hx hb hr hlocks rfl hS dX10_key_16
    · refine lv_iload_n (pc := 8) hx hb dX10_key_8 rfl (lv_at hl 3 rfl) ?_
      obtain ⟨v2, hm9, hf⟩ := q_b1_e hf
      refine q_cSr (pc := 9) (As := [.int p3]) (rest := []) (v0 := (some (.int v2))) ⟨hx, hb, hml, hown, hts⟩ hK hA hZ hP hD hS hl.1 [] 6 rfl ⟨rfl, rfl, rfl⟩ (c_X_isLevel l D ci A sa N (Rw) p3 v2 hm9) (va_cwS 1 hts gX10_key_X10_isLevel rfl rfl rfl (by decide +kernel) ⟨Nat.le_of_ble_eq_true rfl, Nat.le_of_ble_eq_true rfl⟩) rfl rfl (Nat.le_of_ble_eq_true rfl) dX10_key_9 ⟨Nat.zero_le _, Nat.zero_le _⟩ (fun locs hS => ?_)
      refine q_if_ne (pc := 12) (tgt := 17) hx hb dX10_key_12 (by decide) rfl hf (fun hf => ?_) (fun hf => ?_)
      · refine lv_aload_n (pc := 17) hx hb dX10_key_17 rfl (lv_at hl 0 rfl) ?_
        refine va_get (pc := 18) (D := D) (ci := 10) (v := .ref a_g) (C := RX10) (T := TX10) (N := 14) hx hb hts hinX10 hown hK hP 0 rfl rfl 1 (by decide) w_1 (fun _ h9 => h9) rfl dX10_key_18 ?_
        refine lv_iload_n (pc := 21) hx hb dX10_key_21 rfl (lv_at hl 3 rfl) ?_
        refine lv_iload_n (pc := 22) hx hb dX10_key_22 rfl (lv_at hl 1 rfl) ?_
        refine lv_iload_n (pc := 23) hx hb dX10_key_23 rfl (lv_at hl 2 rfl) ?_
        obtain ⟨v3, hm24, hf⟩ := q_b1_e hf
        refine q_cVr (pc := 24) (As := [.int p3, .int p1, .int p2]) (rest := []) (v0 := (some (.int v3))) ⟨hx, hb, hml, hown, hts⟩ hK hA hZ hP hD hS hl.1 [1, 2, 3, 4, 5] 6 rfl ⟨rfl, rfl, rfl⟩ (c_Grid_keyOf l D ci A sa N (Rw) a_g a_g_rowCuts a_g_columnCuts a_g_bandRows a_g_zoneColumns a_g_rows a_g_sheets g_bandRows g_zoneColumns g_rows g_sheets p3 p1 p2 v3 hm24) 1 rfl rfl (cwV 3 hts gX10_key_X2_keyOf rfl rfl rfl (by decide +kernel) ⟨Nat.le_of_ble_eq_true rfl, Nat.le_of_ble_eq_true rfl⟩) rfl rfl (Nat.le_of_ble_eq_true rfl) dX10_key_24 ⟨Nat.zero_le _, Nat.zero_le _⟩ (fun locs hS => ?_)
        obtain rfl := Option.some.inj hf
        rw [hQ]
        exact q_iretr (pc := 27) hx hb hr hlocks rfl hS dX10_key_27
      · refine lv_iconst (pc := 15) (v := (-1)) hx hb dX10_key_15 (by decide) ?_
        obtain rfl := Option.some.inj hf
        rw [hQ]
        exact q_iretr (pc := 16) hx hb hr hlocks rfl hS dX10_key_16
  exact hgo _ _ rfl hP hS
/-! X10_keyAt -/
set_option maxRecDepth 100000 in
set_option maxHeartbeats 4000000 in
theorem c_X_keyAt (l : Launch) (D : va_G) (ci : Nat → ClassId) (A : Nat → Prop) (sa : Nat → Nat) (N : Nat) (Rw : va_W) (a_x : Nat) (a_at : Nat) (a_g : Nat) (a_st : Nat) (a_x_kept : Nat) (a_tp : Nat) (a_rd : Nat) (a_qu : Nat) (a_sp : Nat) (a_wk : Nat) (a_bx : Nat) (a_nt : Nat) (a_nu : Nat) (a_x_seen : Nat) (a_g_rowCuts : Nat) (a_g_columnCuts : Nat) (a_g_bandRows : Nat) (a_g_zoneColumns : Nat) (a_g_rows : Nat) (a_g_sheets : Nat) (x_keptStates : Int32) (g_bandRows : Nat → Int32) (g_zoneColumns : Nat → Int32) (g_rows : Nat → Int32) (g_sheets : Nat → Int32) (p1 : Int32) (p2 : Int32) (p3 : Int32) (r : Int32) (hf : f_X_keyAt g_bandRows g_zoneColumns g_rows g_sheets p1 p2 p3 = some r) : Met l yX10_keyAt wsX10_keyAt ({ frames := 1, cells := 0, slots := 0, locals := 25 }) (va_Pc [.ref a_x, .int p1, .int p2, .int p3] (q_N D ci A sa ((a_x, .inr (10, [.ref a_at, .ref a_g, .ref a_st, .ref a_x_kept, .int x_keptStates, .ref a_tp, .ref a_rd, .ref a_qu, .ref a_sp, .ref a_wk, .ref a_bx, .ref a_nt, .ref a_nu, .ref a_x_seen])) :: (a_g, .inr (2, [.ref a_g_rowCuts, .ref a_g_columnCuts, .ref a_g_bandRows, .ref a_g_zoneColumns, .ref a_g_rows, .ref a_g_sheets])) :: (a_g_bandRows, .inl (ci 0, 5, .inl g_bandRows)) :: (a_g_zoneColumns, .inl (ci 0, 5, .inl g_zoneColumns)) :: (a_g_rows, .inl (ci 0, 5, .inl g_rows)) :: (a_g_sheets, .inl (ci 0, 5, .inl g_sheets)) :: Rw))) (q_R (some (.int r))) 0 0 A := by
  refine q_ofW (cc := cX10_keyAt) (maxL := 4) (ret := (some .int)) [.ref a_x, .int p1, .int p2, .int p3] (plainFor_of_name (by decide)) rfl (Nat.le_of_ble_eq_true rfl) ?_
  intro p e s m below meth c ls Q hQ hx hb hml hr hts hown hlocks hK hA hZ hP hD hS hl
  have hl : lv_has ls 4 [(0, .ref a_x), (1, .int p1), (2, .int p2), (3, .int p3)] := hl
  have hown : s.vm.findClass RX10 = some m.cls := hown
  have hinX10 : ∀ w ∈ wsX100, w ∈ wsX10_keyAt := fun _ h => List.mem_cons_of_mem _ (inWX100 _ h)
  have hinX2 : ∀ w ∈ wsX20, w ∈ wsX10_keyAt := fun _ h => List.mem_cons_of_mem _ (inWX20 _ h)
  have w_1 := hts (Cond.fieldLink RX10 20 "SheetNames" "grid" "LSheetNames$Grid;") (List.mem_cons_of_mem _ t_w876)
  have wn_2 : (Cond.fieldLinkNest "SheetNames" 133 "SheetNames$Grid" "rows" "[I" "SheetNames").before ([.ref a_x, .int p1, .int p2, .int p3] : List Value).toArray s = true := (hZ.2.2.2.2.2.2.2.2.2.1 _ (List.mem_of_getElem? (i := 2) rfl)).use rfl
  unfold f_X_keyAt at hf
  have hgo : ∀ (H : Heap) (locs : List Loc), H = s.heap → va_P D vwCl ((a_x, .inr (10, [.ref a_at, .ref a_g, .ref a_st, .ref a_x_kept, .int x_keptStates, .ref a_tp, .ref a_rd, .ref a_qu, .ref a_sp, .ref a_wk, .ref a_bx, .ref a_nt, .ref a_nu, .ref a_x_seen])) :: (a_g, .inr (2, [.ref a_g_rowCuts, .ref a_g_columnCuts, .ref a_g_bandRows, .ref a_g_zoneColumns, .ref a_g_rows, .ref a_g_sheets])) :: (a_g_bandRows, .inl (ci 0, 5, .inl g_bandRows)) :: (a_g_zoneColumns, .inl (ci 0, 5, .inl g_zoneColumns)) :: (a_g_rows, .inl (ci 0, 5, .inl g_rows)) :: (a_g_sheets, .inl (ci 0, 5, .inl g_sheets)) :: Rw) H → va_S A s.heap H locs → W p l e ({ frames := 1, cells := 0, slots := 0, locals := 25 } : Room) s m ([.ref a_x, .int p1, .int p2, .int p3] : List Value).toArray below meth c H locs 0 0 Q (F0 m 0 ls []) := by
    intro H locs hH hP hS
    subst hH
    refine lv_iload_n (pc := 0) hx hb dX10_keyAt_0 rfl (lv_at hl 1 rfl) ?_
    obtain ⟨v1, hm1, hf⟩ := q_b1_e hf
    refine q_cSr (pc := 1) (As := [.int p1]) (rest := []) (v0 := (some (.int v1))) ⟨hx, hb, hml, hown, hts⟩ hK hA hZ hP hD hS hl.1 [] 6 rfl ⟨rfl, rfl, rfl⟩ (c_X_isLevel l D ci A sa N (Rw) p1 v1 hm1) (va_cwS 1 hts gX10_keyAt_X10_isLevel rfl rfl rfl (by decide +kernel) ⟨Nat.le_of_ble_eq_true rfl, Nat.le_of_ble_eq_true rfl⟩) rfl rfl (Nat.le_of_ble_eq_true rfl) dX10_keyAt_1 ⟨Nat.zero_le _, Nat.zero_le _⟩ (fun locs hS => ?_)
    refine q_if_eq (pc := 4) (tgt := 26) hx hb dX10_keyAt_4 (by decide) rfl hf (fun hf => ?_) (fun hf => ?_)
    · refine lv_iconst (pc := 26) (v := (-1)) hx hb dX10_keyAt_26 (by decide) ?_
      obtain rfl := Option.some.inj hf
      rw [hQ]
      exact q_iretr (pc := 27) hx hb hr hlocks rfl hS dX10_keyAt_27
    · refine lv_iload_n (pc := 7) hx hb dX10_keyAt_7 rfl (lv_at hl 2 rfl) ?_
      refine lv_iconst (pc := 8) (v := 0) hx hb dX10_keyAt_8 (by decide) ?_
      refine lv_aload_n (pc := 9) hx hb dX10_keyAt_9 rfl (lv_at hl 0 rfl) ?_
      refine va_get (pc := 10) (D := D) (ci := 10) (v := .ref a_g) (C := RX10) (T := TX10) (N := 14) hx hb hts hinX10 hown hK hP 0 rfl rfl 1 (by decide) w_1 (fun _ h9 => h9) rfl dX10_keyAt_10 ?_
      refine va_getN (pc := 13) (D := D) (ci := 2) (v := .ref a_g_rows) (C := RX2) (T := TX2) (N := 6) hx hb hts hinX2 hown hK hP 1 rfl rfl 4 (by decide) wn_2 (fun _ h9 => h9) rfl dX10_keyAt_13 ?_
      refine lv_iload_n (pc := 16) hx hb dX10_keyAt_16 rfl (lv_at hl 1 rfl) ?_
      refine q_iald (pc := 17) hx hb hK hP 4 0 hf rfl rfl dX10_keyAt_17 (fun v2 hf => ?_)
      refine lv_iconst (pc := 18) (v := 1) hx hb dX10_keyAt_18 (by decide) ?_
      refine lv_isub (pc := 19) hx hb dX10_keyAt_19 ?_
      obtain ⟨v3, hm20, hf⟩ := q_b1_e hf
      refine q_cSr (pc := 20) (As := [.int p2, .int 0, .int (v2 - 1)]) (rest := []) (v0 := (some (.int v3))) ⟨hx, hb, hml, hown, hts⟩ hK hA hZ hP hD hS hl.1 [] 6 rfl ⟨rfl, rfl, rfl⟩ (c_X_isFrom l D ci A sa N (Rw) p2 0 (v2 - 1) v3 hm20) (va_cwS 3 hts gX10_keyAt_X10_isFrom rfl rfl rfl (by decide +kernel) ⟨Nat.le_of_ble_eq_true rfl, Nat.le_of_ble_eq_true rfl⟩) rfl rfl (Nat.le_of_ble_eq_true rfl) dX10_keyAt_20 ⟨Nat.zero_le _, Nat.zero_le _⟩ (fun locs hS => ?_)
      refine q_if_ne (pc := 23) (tgt := 28) hx hb dX10_keyAt_23 (by decide) rfl hf (fun hf => ?_) (fun hf => ?_)
      · refine lv_iload_n (pc := 28) hx hb dX10_keyAt_28 rfl (lv_at hl 3 rfl) ?_
        refine lv_iconst (pc := 29) (v := 0) hx hb dX10_keyAt_29 (by decide) ?_
        refine lv_aload_n (pc := 30) hx hb dX10_keyAt_30 rfl (lv_at hl 0 rfl) ?_
        refine va_get (pc := 31) (D := D) (ci := 10) (v := .ref a_g) (C := RX10) (T := TX10) (N := 14) hx hb hts hinX10 hown hK hP 0 rfl rfl 1 (by decide) w_1 (fun _ h9 => h9) rfl dX10_keyAt_31 ?_
        refine lv_iload_n (pc := 34) hx hb dX10_keyAt_34 rfl (lv_at hl 1 rfl) ?_
        refine lv_iload_n (pc := 35) hx hb dX10_keyAt_35 rfl (lv_at hl 2 rfl) ?_
        obtain ⟨v4, hm36, hf⟩ := q_b1_e hf
        refine q_cVr (pc := 36) (As := [.int p1, .int p2]) (rest := [.int 0, .int p3]) (v0 := (some (.int v4))) ⟨hx, hb, hml, hown, hts⟩ hK hA hZ hP hD hS hl.1 [1, 2, 3, 4] 6 rfl ⟨rfl, rfl, rfl⟩ (c_Grid_rowLength l D ci A sa N (Rw) a_g a_g_rowCuts a_g_columnCuts a_g_bandRows a_g_zoneColumns a_g_rows a_g_sheets g_bandRows g_zoneColumns g_rows p1 p2 v4 hm36) 1 rfl rfl (cwV 2 hts gX10_keyAt_X2_rowLength rfl rfl rfl (by decide +kernel) ⟨Nat.le_of_ble_eq_true rfl, Nat.le_of_ble_eq_true rfl⟩) rfl rfl (Nat.le_of_ble_eq_true rfl) dX10_keyAt_36 ⟨Nat.zero_le _, Nat.zero_le _⟩ (fun locs hS => ?_)
        refine lv_iconst (pc := 39) (v := 1) hx hb dX10_keyAt_39 (by decide) ?_
        refine lv_isub (pc := 40) hx hb dX10_keyAt_40 ?_
        obtain ⟨v5, hm41, hf⟩ := q_b1_e hf
        refine q_cSr (pc := 41) (As := [.int p3, .int 0, .int (v4 - 1)]) (rest := []) (v0 := (some (.int v5))) ⟨hx, hb, hml, hown, hts⟩ hK hA hZ hP hD hS hl.1 [] 6 rfl ⟨rfl, rfl, rfl⟩ (c_X_isFrom l D ci A sa N (Rw) p3 0 (v4 - 1) v5 hm41) (va_cwS 3 hts gX10_keyAt_X10_isFrom rfl rfl rfl (by decide +kernel) ⟨Nat.le_of_ble_eq_true rfl, Nat.le_of_ble_eq_true rfl⟩) rfl rfl (Nat.le_of_ble_eq_true rfl) dX10_keyAt_41 ⟨Nat.zero_le _, Nat.zero_le _⟩ (fun locs hS => ?_)
        refine q_if_ne (pc := 44) (tgt := 49) hx hb dX10_keyAt_44 (by decide) rfl hf (fun hf => ?_) (fun hf => ?_)
        · refine lv_aload_n (pc := 49) hx hb dX10_keyAt_49 rfl (lv_at hl 0 rfl) ?_
          refine va_get (pc := 50) (D := D) (ci := 10) (v := .ref a_g) (C := RX10) (T := TX10) (N := 14) hx hb hts hinX10 hown hK hP 0 rfl rfl 1 (by decide) w_1 (fun _ h9 => h9) rfl dX10_keyAt_50 ?_
          refine lv_iload_n (pc := 53) hx hb dX10_keyAt_53 rfl (lv_at hl 1 rfl) ?_
          refine lv_iload_n (pc := 54) hx hb dX10_keyAt_54 rfl (lv_at hl 2 rfl) ?_
          obtain ⟨v6, hm55, hf⟩ := q_b1_e hf
          refine q_cVr (pc := 55) (As := [.int p1, .int p2]) (rest := []) (v0 := (some (.int v6))) ⟨hx, hb, hml, hown, hts⟩ hK hA hZ hP hD hS hl.1 [1, 2, 3, 4, 5] 6 rfl ⟨rfl, rfl, rfl⟩ (c_Grid_rowStart l D ci A sa N (Rw) a_g a_g_rowCuts a_g_columnCuts a_g_bandRows a_g_zoneColumns a_g_rows a_g_sheets g_bandRows g_zoneColumns g_rows g_sheets p1 p2 v6 hm55) 1 rfl rfl (cwV 2 hts gX10_keyAt_X2_rowStart rfl rfl rfl (by decide +kernel) ⟨Nat.le_of_ble_eq_true rfl, Nat.le_of_ble_eq_true rfl⟩) rfl rfl (Nat.le_of_ble_eq_true rfl) dX10_keyAt_55 ⟨Nat.zero_le _, Nat.zero_le _⟩ (fun locs hS => ?_)
          refine lv_iload_n (pc := 58) hx hb dX10_keyAt_58 rfl (lv_at hl 3 rfl) ?_
          refine lv_iadd (pc := 59) hx hb dX10_keyAt_59 ?_
          obtain rfl := Option.some.inj hf
          rw [hQ]
          exact q_iretr (pc := 60) hx hb hr hlocks rfl hS dX10_keyAt_60
        · refine lv_iconst (pc := 47) (v := (-1)) hx hb dX10_keyAt_47 (by decide) ?_
          obtain rfl := Option.some.inj hf
          rw [hQ]
          exact q_iretr (pc := 48) hx hb hr hlocks rfl hS dX10_keyAt_48
      · refine lv_iconst (pc := 26) (v := (-1)) hx hb dX10_keyAt_26 (by decide) ?_
        obtain rfl := Option.some.inj hf
        rw [hQ]
        exact q_iretr (pc := 27) hx hb hr hlocks rfl hS dX10_keyAt_27
  exact hgo _ _ rfl hP hS
/-! X10_lacks -/
set_option maxRecDepth 100000 in
set_option maxHeartbeats 4000000 in
theorem c_X_lacks (l : Launch) (D : va_G) (ci : Nat → ClassId) (A : Nat → Prop) (sa : Nat → Nat) (N : Nat) (Rw : va_W) (a_x : Nat) (a_at : Nat) (a_g : Nat) (a_st : Nat) (a_x_kept : Nat) (a_tp : Nat) (a_rd : Nat) (a_qu : Nat) (a_sp : Nat) (a_wk : Nat) (a_bx : Nat) (a_nt : Nat) (a_nu : Nat) (a_x_seen : Nat) (a_sp_first : Nat) (a_sp_many : Nat) (a_sp_corner : Nat) (a_st_levels : Nat) (a_st_keys : Nat) (a_st_years : Nat) (a_st_keysThere : Nat) (a_g_rowCuts : Nat) (a_g_columnCuts : Nat) (a_g_bandRows : Nat) (a_g_zoneColumns : Nat) (a_g_rows : Nat) (a_g_sheets : Nat) (x_keptStates : Int32) (sp_cornerCount : Int32) (sp_level : Int32) (sp_row : Int32) (sp_start : Int32) (sp_place : Int32) (sp_length : Int32) (sp_cap : Int32) (bx_south : Int32) (bx_north : Int32) (bx_west : Int32) (bx_east : Int32) (st_size : Int32) (st_shownBy : Int32) (st_deepestShown : Int32) (st_latestShown : Int32) (st_levels : Nat → Int32) (st_keys : Nat → Int32) (st_years : Nat → Int32) (st_keysThere : Nat → Int32) (g_bandRows : Nat → Int32) (g_zoneColumns : Nat → Int32) (g_rows : Nat → Int32) (g_sheets : Nat → Int32) (p1 : Int32) (p2 : Int32) (p3 : Int32) (p4 : Int32) (p5 : Int32) (p6 : Int32) (p7 : Int32) (r : Int32) (o1 : Int32) (o2 : Int32) (o3 : Int32) (o4 : Int32) (o5 : Int32) (o6 : Int32) (o7 : Int32) (o8 : Int32) (o9 : Int32) (o10 : Int32) (o11 : Nat → Int32) (o12 : Int32) (o13 : Int32) (o14 : Int32) (hf : f_X_lacks N sp_level sp_row sp_start sp_place sp_length sp_cap bx_south bx_north bx_west bx_east st_levels st_keys st_years st_keysThere st_size st_shownBy st_deepestShown st_latestShown g_bandRows g_zoneColumns g_rows g_sheets p1 p2 p3 p4 p5 p6 p7 = some (r, o1, o2, o3, o4, o5, o6, o7, o8, o9, o10, o11, o12, o13, o14)) : Met l yX10_lacks wsX10_lacks ({ frames := 5, cells := 0, slots := 0, locals := 119 }) (va_Pc [.ref a_x, .int p1, .int p2, .int p3, .int p4, .int p5, .int p6, .int p7] (q_N D ci A sa ((a_x, .inr (10, [.ref a_at, .ref a_g, .ref a_st, .ref a_x_kept, .int x_keptStates, .ref a_tp, .ref a_rd, .ref a_qu, .ref a_sp, .ref a_wk, .ref a_bx, .ref a_nt, .ref a_nu, .ref a_x_seen])) :: (a_sp, .inr (6, [.ref a_g, .ref a_sp_first, .ref a_sp_many, .ref a_sp_corner, .int sp_cornerCount, .int sp_level, .int sp_row, .int sp_start, .int sp_place, .int sp_length, .int sp_cap])) :: (a_bx, .inr (1, [.ref a_g, .int bx_south, .int bx_north, .int bx_west, .int bx_east])) :: (a_st, .inr (7, [.ref a_g, .ref a_st_levels, .ref a_st_keys, .ref a_st_years, .ref a_st_keysThere, .int st_size, .int st_shownBy, .int st_deepestShown, .int st_latestShown])) :: (a_st_levels, .inl (ci 0, 60, .inl st_levels)) :: (a_st_keys, .inl (ci 0, 60, .inl st_keys)) :: (a_st_years, .inl (ci 0, 60, .inl st_years)) :: (a_st_keysThere, .inl (ci 0, 5, .inl st_keysThere)) :: (a_g, .inr (2, [.ref a_g_rowCuts, .ref a_g_columnCuts, .ref a_g_bandRows, .ref a_g_zoneColumns, .ref a_g_rows, .ref a_g_sheets])) :: (a_g_bandRows, .inl (ci 0, 5, .inl g_bandRows)) :: (a_g_zoneColumns, .inl (ci 0, 5, .inl g_zoneColumns)) :: (a_g_rows, .inl (ci 0, 5, .inl g_rows)) :: (a_g_sheets, .inl (ci 0, 5, .inl g_sheets)) :: Rw))) (q_Q (some (.int r)) (q_O D A ((a_x, .inr (10, [.ref a_at, .ref a_g, .ref a_st, .ref a_x_kept, .int x_keptStates, .ref a_tp, .ref a_rd, .ref a_qu, .ref a_sp, .ref a_wk, .ref a_bx, .ref a_nt, .ref a_nu, .ref a_x_seen])) :: (a_sp, .inr (6, [.ref a_g, .ref a_sp_first, .ref a_sp_many, .ref a_sp_corner, .int sp_cornerCount, .int o1, .int o2, .int o3, .int o4, .int o5, .int o6])) :: (a_bx, .inr (1, [.ref a_g, .int o7, .int o8, .int o9, .int o10])) :: (a_st, .inr (7, [.ref a_g, .ref a_st_levels, .ref a_st_keys, .ref a_st_years, .ref a_st_keysThere, .int st_size, .int o12, .int o13, .int o14])) :: (a_st_levels, .inl (ci 0, 60, .inl st_levels)) :: (a_st_keys, .inl (ci 0, 60, .inl st_keys)) :: (a_st_years, .inl (ci 0, 60, .inl st_years)) :: (a_st_keysThere, .inl (ci 0, 5, .inl o11)) :: (a_g, .inr (2, [.ref a_g_rowCuts, .ref a_g_columnCuts, .ref a_g_bandRows, .ref a_g_zoneColumns, .ref a_g_rows, .ref a_g_sheets])) :: (a_g_bandRows, .inl (ci 0, 5, .inl g_bandRows)) :: (a_g_zoneColumns, .inl (ci 0, 5, .inl g_zoneColumns)) :: (a_g_rows, .inl (ci 0, 5, .inl g_rows)) :: (a_g_sheets, .inl (ci 0, 5, .inl g_sheets)) :: Rw)) A) 0 0 A := by
  refine q_ofW (cc := cX10_lacks) (maxL := 14) (ret := (some .int)) [.ref a_x, .int p1, .int p2, .int p3, .int p4, .int p5, .int p6, .int p7] (plainFor_of_name (by decide)) rfl (Nat.le_of_ble_eq_true rfl) ?_
  intro p e s m below meth c ls Q hQ hx hb hml hr hts hown hlocks hK hA hZ hP hD hS hl
  have hl : lv_has ls 14 [(0, .ref a_x), (1, .int p1), (2, .int p2), (3, .int p3), (4, .int p4), (5, .int p5), (6, .int p6), (7, .int p7)] := hl
  have hown : s.vm.findClass RX10 = some m.cls := hown
  have hinX10 : ∀ w ∈ wsX100, w ∈ wsX10_lacks := fun _ h => List.mem_cons_of_mem _ (inWX100 _ h)
  have w_1 := hts (Cond.fieldLink RX10 80 "SheetNames" "area" "LSheetNames$Box;") (List.mem_cons_of_mem _ t_w878)
  unfold f_X_lacks at hf
  have hgo : ∀ (H : Heap) (locs : List Loc), H = s.heap → va_P D vwCl ((a_x, .inr (10, [.ref a_at, .ref a_g, .ref a_st, .ref a_x_kept, .int x_keptStates, .ref a_tp, .ref a_rd, .ref a_qu, .ref a_sp, .ref a_wk, .ref a_bx, .ref a_nt, .ref a_nu, .ref a_x_seen])) :: (a_sp, .inr (6, [.ref a_g, .ref a_sp_first, .ref a_sp_many, .ref a_sp_corner, .int sp_cornerCount, .int sp_level, .int sp_row, .int sp_start, .int sp_place, .int sp_length, .int sp_cap])) :: (a_bx, .inr (1, [.ref a_g, .int bx_south, .int bx_north, .int bx_west, .int bx_east])) :: (a_st, .inr (7, [.ref a_g, .ref a_st_levels, .ref a_st_keys, .ref a_st_years, .ref a_st_keysThere, .int st_size, .int st_shownBy, .int st_deepestShown, .int st_latestShown])) :: (a_st_levels, .inl (ci 0, 60, .inl st_levels)) :: (a_st_keys, .inl (ci 0, 60, .inl st_keys)) :: (a_st_years, .inl (ci 0, 60, .inl st_years)) :: (a_st_keysThere, .inl (ci 0, 5, .inl st_keysThere)) :: (a_g, .inr (2, [.ref a_g_rowCuts, .ref a_g_columnCuts, .ref a_g_bandRows, .ref a_g_zoneColumns, .ref a_g_rows, .ref a_g_sheets])) :: (a_g_bandRows, .inl (ci 0, 5, .inl g_bandRows)) :: (a_g_zoneColumns, .inl (ci 0, 5, .inl g_zoneColumns)) :: (a_g_rows, .inl (ci 0, 5, .inl g_rows)) :: (a_g_sheets, .inl (ci 0, 5, .inl g_sheets)) :: Rw) H → va_S A s.heap H locs → W p l e ({ frames := 5, cells := 0, slots := 0, locals := 119 } : Room) s m ([.ref a_x, .int p1, .int p2, .int p3, .int p4, .int p5, .int p6, .int p7] : List Value).toArray below meth c H locs 0 0 Q (F0 m 0 ls []) := by
    intro H locs hH hP hS
    refine lv_iload_n (pc := 0) hx hb dX10_lacks_0 rfl (lv_at hl 1 rfl) ?_
    refine lv_iload_n (pc := 1) hx hb dX10_lacks_1 rfl (lv_at hl 2 rfl) ?_
    refine lv_iload_n (pc := 2) hx hb dX10_lacks_2 rfl (lv_at hl 3 rfl) ?_
    refine lv_iload (pc := 3) hx hb dX10_lacks_3 (lv_at hl 4 rfl) ?_
    obtain ⟨v1, hm5, hf⟩ := q_b1_e hf
    refine q_cSr (pc := 5) (As := [.int p1, .int p2, .int p3, .int p4]) (rest := []) (v0 := (some (.int v1))) ⟨hx, hb, hml, hown, hts⟩ hK hA hZ hP hD hS hl.1 [] 13 rfl ⟨rfl, rfl, rfl⟩ (c_X_isBox l D ci A sa N (Rw) p1 p2 p3 p4 v1 hm5) (va_cwS 4 hts gX10_lacks_X10_isBox rfl rfl rfl (by decide +kernel) ⟨Nat.le_of_ble_eq_true rfl, Nat.le_of_ble_eq_true rfl⟩) rfl rfl (Nat.le_of_ble_eq_true rfl) dX10_lacks_5 ⟨Nat.zero_le _, Nat.zero_le _⟩ (fun locs hS => ?_)
    refine q_if_eq (pc := 8) (tgt := 37) hx hb dX10_lacks_8 (by decide) rfl hf (fun hf => ?_) (fun hf => ?_)
    · refine lv_iconst (pc := 37) (v := (-1)) hx hb dX10_lacks_37 (by decide) ?_
      obtain ⟨e90, e91, e92, e93, e94, e95, e96, e97, e98, e99, e910, e911, e912, e913, e914⟩ := q_inj15 (Option.some.inj hf)
      rw [hQ, ← e90, ← e91, ← e92, ← e93, ← e94, ← e95, ← e96, ← e97, ← e98, ← e99, ← e910, ← e911, ← e912, ← e913, ← e914]
      exact q_iret (pc := 38) hx hb hr hlocks hP hD hS dX10_lacks_38
    · refine lv_iload (pc := 11) hx hb dX10_lacks_11 (lv_at hl 5 rfl) ?_
      obtain ⟨v2, hm13, hf⟩ := q_b1_e hf
      refine q_cSr (pc := 13) (As := [.int p5]) (rest := []) (v0 := (some (.int v2))) ⟨hx, hb, hml, hown, hts⟩ hK hA hZ hP hD hS hl.1 [] 13 rfl ⟨rfl, rfl, rfl⟩ (c_X_isLevel l D ci A sa N (Rw) p5 v2 hm13) (va_cwS 1 hts gX10_lacks_X10_isLevel rfl rfl rfl (by decide +kernel) ⟨Nat.le_of_ble_eq_true rfl, Nat.le_of_ble_eq_true rfl⟩) rfl rfl (Nat.le_of_ble_eq_true rfl) dX10_lacks_13 ⟨Nat.zero_le _, Nat.zero_le _⟩ (fun locs hS => ?_)
      refine q_if_eq (pc := 16) (tgt := 37) hx hb dX10_lacks_16 (by decide) rfl hf (fun hf => ?_) (fun hf => ?_)
      · refine lv_iconst (pc := 37) (v := (-1)) hx hb dX10_lacks_37 (by decide) ?_
        obtain ⟨e90, e91, e92, e93, e94, e95, e96, e97, e98, e99, e910, e911, e912, e913, e914⟩ := q_inj15 (Option.some.inj hf)
        rw [hQ, ← e90, ← e91, ← e92, ← e93, ← e94, ← e95, ← e96, ← e97, ← e98, ← e99, ← e910, ← e911, ← e912, ← e913, ← e914]
        exact q_iret (pc := 38) hx hb hr hlocks hP hD hS dX10_lacks_38
      · refine lv_iload (pc := 19) hx hb dX10_lacks_19 (lv_at hl 6 rfl) ?_
        refine lv_iconst (pc := 21) (v := 0) hx hb dX10_lacks_21 (by decide) ?_
        refine lv_sipush (pc := 22) (v := 2100) hx hb dX10_lacks_22 (by decide) ?_
        obtain ⟨v3, hm25, hf⟩ := q_b1_e hf
        refine q_cSr (pc := 25) (As := [.int p6, .int 0, .int 2100]) (rest := []) (v0 := (some (.int v3))) ⟨hx, hb, hml, hown, hts⟩ hK hA hZ hP hD hS hl.1 [] 13 rfl ⟨rfl, rfl, rfl⟩ (c_X_isFrom l D ci A sa N (Rw) p6 0 2100 v3 hm25) (va_cwS 3 hts gX10_lacks_X10_isFrom rfl rfl rfl (by decide +kernel) ⟨Nat.le_of_ble_eq_true rfl, Nat.le_of_ble_eq_true rfl⟩) rfl rfl (Nat.le_of_ble_eq_true rfl) dX10_lacks_25 ⟨Nat.zero_le _, Nat.zero_le _⟩ (fun locs hS => ?_)
        refine q_if_eq (pc := 28) (tgt := 37) hx hb dX10_lacks_28 (by decide) rfl hf (fun hf => ?_) (fun hf => ?_)
        · refine lv_iconst (pc := 37) (v := (-1)) hx hb dX10_lacks_37 (by decide) ?_
          obtain ⟨e90, e91, e92, e93, e94, e95, e96, e97, e98, e99, e910, e911, e912, e913, e914⟩ := q_inj15 (Option.some.inj hf)
          rw [hQ, ← e90, ← e91, ← e92, ← e93, ← e94, ← e95, ← e96, ← e97, ← e98, ← e99, ← e910, ← e911, ← e912, ← e913, ← e914]
          exact q_iret (pc := 38) hx hb hr hlocks hP hD hS dX10_lacks_38
        · refine lv_iload (pc := 31) hx hb dX10_lacks_31 (lv_at hl 7 rfl) ?_
          refine lv_iconst (pc := 33) (v := (-1)) hx hb dX10_lacks_33 (by decide) ?_
          refine q_icmp_ge (pc := 34) (tgt := 39) hx hb dX10_lacks_34 (by decide) rfl hf (fun hf => ?_) (fun hf => ?_)
          · refine lv_aload_n (pc := 39) hx hb dX10_lacks_39 rfl (lv_at hl 0 rfl) ?_
            refine va_get (pc := 40) (D := D) (ci := 10) (v := .ref a_bx) (C := RX10) (T := TX10) (N := 14) hx hb hts hinX10 hown hK hP 0 rfl rfl 10 (by decide) w_1 (fun _ h9 => h9) rfl dX10_lacks_40 ?_
            refine lv_iload_n (pc := 43) hx hb dX10_lacks_43 rfl (lv_at hl 1 rfl) ?_
            refine lv_iload_n (pc := 44) hx hb dX10_lacks_44 rfl (lv_at hl 2 rfl) ?_
            refine lv_iload_n (pc := 45) hx hb dX10_lacks_45 rfl (lv_at hl 3 rfl) ?_
            refine lv_iload (pc := 46) hx hb dX10_lacks_46 (lv_at hl 4 rfl) ?_
            obtain ⟨v4, v5, v6, v7, hm48, hf⟩ := q_b4_e hf
            refine q_cV (pc := 48) (As := [.int p1, .int p2, .int p3, .int p4]) (rest := []) (v0 := none) ⟨hx, hb, hml, hown, hts⟩ hK hA hZ hP hD hS hl.1 [2, 0, 1, 3, 4, 5, 6, 7, 8, 9, 10, 11, 12] 13 rfl ⟨rfl, rfl, rfl⟩ (c_Box_set l D ci A sa N ((a_x, .inr (10, [.ref a_at, .ref a_g, .ref a_st, .ref a_x_kept, .int x_keptStates, .ref a_tp, .ref a_rd, .ref a_qu, .ref a_sp, .ref a_wk, .ref a_bx, .ref a_nt, .ref a_nu, .ref a_x_seen])) :: (a_sp, .inr (6, [.ref a_g, .ref a_sp_first, .ref a_sp_many, .ref a_sp_corner, .int sp_cornerCount, .int sp_level, .int sp_row, .int sp_start, .int sp_place, .int sp_length, .int sp_cap])) :: (a_st, .inr (7, [.ref a_g, .ref a_st_levels, .ref a_st_keys, .ref a_st_years, .ref a_st_keysThere, .int st_size, .int st_shownBy, .int st_deepestShown, .int st_latestShown])) :: (a_st_levels, .inl (ci 0, 60, .inl st_levels)) :: (a_st_keys, .inl (ci 0, 60, .inl st_keys)) :: (a_st_years, .inl (ci 0, 60, .inl st_years)) :: (a_st_keysThere, .inl (ci 0, 5, .inl st_keysThere)) :: (a_g, .inr (2, [.ref a_g_rowCuts, .ref a_g_columnCuts, .ref a_g_bandRows, .ref a_g_zoneColumns, .ref a_g_rows, .ref a_g_sheets])) :: (a_g_bandRows, .inl (ci 0, 5, .inl g_bandRows)) :: (a_g_zoneColumns, .inl (ci 0, 5, .inl g_zoneColumns)) :: (a_g_rows, .inl (ci 0, 5, .inl g_rows)) :: (a_g_sheets, .inl (ci 0, 5, .inl g_sheets)) :: Rw) a_bx a_g bx_south bx_north bx_west bx_east p1 p2 p3 p4 v4 v5 v6 v7 hm48) 2 rfl rfl (cwV 4 hts gX10_lacks_X1_set rfl rfl rfl (by decide +kernel) ⟨Nat.le_of_ble_eq_true rfl, Nat.le_of_ble_eq_true rfl⟩) rfl rfl (Nat.le_of_ble_eq_true rfl) dX10_lacks_48 ⟨Nat.zero_le _, Nat.zero_le _⟩ [1, 2, 0, 3, 4, 5, 6, 7, 8, 9, 10, 11, 12] 13 rfl ⟨rfl, rfl, rfl⟩ (fun H locs hP hD hS => ?_)
            obtain ⟨hP, hD⟩ : va_PD D A ((a_x, .inr (10, [.ref a_at, .ref a_g, .ref a_st, .ref a_x_kept, .int x_keptStates, .ref a_tp, .ref a_rd, .ref a_qu, .ref a_sp, .ref a_wk, .ref a_bx, .ref a_nt, .ref a_nu, .ref a_x_seen])) :: (a_sp, .inr (6, [.ref a_g, .ref a_sp_first, .ref a_sp_many, .ref a_sp_corner, .int sp_cornerCount, .int sp_level, .int sp_row, .int sp_start, .int sp_place, .int sp_length, .int sp_cap])) :: (a_bx, .inr (1, [.ref a_g, .int v4, .int v5, .int v6, .int v7])) :: (a_st, .inr (7, [.ref a_g, .ref a_st_levels, .ref a_st_keys, .ref a_st_years, .ref a_st_keysThere, .int st_size, .int st_shownBy, .int st_deepestShown, .int st_latestShown])) :: (a_st_levels, .inl (ci 0, 60, .inl st_levels)) :: (a_st_keys, .inl (ci 0, 60, .inl st_keys)) :: (a_st_years, .inl (ci 0, 60, .inl st_years)) :: (a_st_keysThere, .inl (ci 0, 5, .inl st_keysThere)) :: (a_g, .inr (2, [.ref a_g_rowCuts, .ref a_g_columnCuts, .ref a_g_bandRows, .ref a_g_zoneColumns, .ref a_g_rows, .ref a_g_sheets])) :: (a_g_bandRows, .inl (ci 0, 5, .inl g_bandRows)) :: (a_g_zoneColumns, .inl (ci 0, 5, .inl g_zoneColumns)) :: (a_g_rows, .inl (ci 0, 5, .inl g_rows)) :: (a_g_sheets, .inl (ci 0, 5, .inl g_sheets)) :: Rw) H := ⟨hP, hD⟩
            refine lv_aload_n (pc := 51) hx hb dX10_lacks_51 rfl (lv_at hl 0 rfl) ?_
            refine va_get (pc := 52) (D := D) (ci := 10) (v := .ref a_bx) (C := RX10) (T := TX10) (N := 14) hx hb hts hinX10 hown hK hP 0 rfl rfl 10 (by decide) w_1 (fun _ h9 => h9) rfl dX10_lacks_52 ?_
            refine lv_iload (pc := 55) hx hb dX10_lacks_55 (lv_at hl 5 rfl) ?_
            obtain ⟨v8, hm57, hf⟩ := q_b1_e hf
            refine q_cVr (pc := 57) (As := [.int p5]) (rest := []) (v0 := (some (.int v8))) ⟨hx, hb, hml, hown, hts⟩ hK hA hZ hP hD hS hl.1 [2, 8, 9, 10, 11] 13 rfl ⟨rfl, rfl, rfl⟩ (c_Box_sheetsAt l D ci A sa N (Rw) a_bx a_g a_g_rowCuts a_g_columnCuts a_g_bandRows a_g_zoneColumns a_g_rows a_g_sheets v4 v5 v6 v7 g_bandRows g_zoneColumns g_rows p5 v8 hm57) 2 rfl rfl (cwV 1 hts gX10_lacks_X1_sheetsAt rfl rfl rfl (by decide +kernel) ⟨Nat.le_of_ble_eq_true rfl, Nat.le_of_ble_eq_true rfl⟩) rfl rfl (Nat.le_of_ble_eq_true rfl) dX10_lacks_57 ⟨Nat.zero_le _, Nat.zero_le _⟩ (fun locs hS => ?_)
            refine lv_sipush (pc := 60) (v := 4000) hx hb dX10_lacks_60 (by decide) ?_
            refine q_icmp_le (pc := 63) (tgt := 69) hx hb dX10_lacks_63 (by decide) rfl hf (fun hf => ?_) (fun hf => ?_)
            · refine lv_iconst (pc := 69) (v := 0) hx hb dX10_lacks_69 (by decide) ?_
              obtain ⟨v9, ev9, hf⟩ := q_nm_e hf
              refine q_topi ev9 ?_
              refine lv_istore (pc := 70) (lv' := [(8, .int v9), (0, .ref a_x), (1, .int p1), (2, .int p2), (3, .int p3), (4, .int p4), (5, .int p5), (6, .int p6), (7, .int p7)]) hx hb dX10_lacks_70 hl (by decide) rfl (fun ls hl => ?_)
              refine lv_aload_n (pc := 72) hx hb dX10_lacks_72 rfl (lv_at hl 1 rfl) ?_
              refine va_get (pc := 73) (D := D) (ci := 10) (v := .ref a_bx) (C := RX10) (T := TX10) (N := 14) hx hb hts hinX10 hown hK hP 0 rfl rfl 10 (by decide) w_1 (fun _ h9 => h9) rfl dX10_lacks_73 ?_
              refine lv_iload (pc := 76) hx hb dX10_lacks_76 (lv_at hl 6 rfl) ?_
              obtain ⟨v10, hm78, hf⟩ := q_b1_e hf
              refine q_cVr (pc := 78) (As := [.int p5]) (rest := []) (v0 := (some (.int v10))) ⟨hx, hb, hml, hown, hts⟩ hK hA hZ hP hD hS hl.1 [2, 8, 9, 11] 13 rfl ⟨rfl, rfl, rfl⟩ (c_Box_bottomRow l D ci A sa N (Rw) a_bx a_g a_g_rowCuts a_g_columnCuts a_g_bandRows a_g_zoneColumns a_g_rows a_g_sheets v4 v5 v6 v7 g_bandRows g_rows p5 v10 hm78) 2 rfl rfl (cwV 1 hts gX10_lacks_X1_bottomRow rfl rfl rfl (by decide +kernel) ⟨Nat.le_of_ble_eq_true rfl, Nat.le_of_ble_eq_true rfl⟩) rfl rfl (Nat.le_of_ble_eq_true rfl) dX10_lacks_78 ⟨Nat.zero_le _, Nat.zero_le _⟩ (fun locs hS => ?_)
              refine lv_istore (pc := 81) (lv' := [(9, .int v10), (8, .int v9), (0, .ref a_x), (1, .int p1), (2, .int p2), (3, .int p3), (4, .int p4), (5, .int p5), (6, .int p6), (7, .int p7)]) hx hb dX10_lacks_81 hl (by decide) rfl (fun ls hl => ?_)
              refine lv_aload_n (pc := 83) hx hb dX10_lacks_83 rfl (lv_at hl 2 rfl) ?_
              refine va_get (pc := 84) (D := D) (ci := 10) (v := .ref a_bx) (C := RX10) (T := TX10) (N := 14) hx hb hts hinX10 hown hK hP 0 rfl rfl 10 (by decide) w_1 (fun _ h9 => h9) rfl dX10_lacks_84 ?_
              refine lv_iload (pc := 87) hx hb dX10_lacks_87 (lv_at hl 7 rfl) ?_
              obtain ⟨v11, hm89, hf⟩ := q_b1_e hf
              refine q_cVr (pc := 89) (As := [.int p5]) (rest := []) (v0 := (some (.int v11))) ⟨hx, hb, hml, hown, hts⟩ hK hA hZ hP hD hS hl.1 [2, 8, 9, 11] 13 rfl ⟨rfl, rfl, rfl⟩ (c_Box_topRow l D ci A sa N (Rw) a_bx a_g a_g_rowCuts a_g_columnCuts a_g_bandRows a_g_zoneColumns a_g_rows a_g_sheets v4 v5 v6 v7 g_bandRows g_rows p5 v11 hm89) 2 rfl rfl (cwV 1 hts gX10_lacks_X1_topRow rfl rfl rfl (by decide +kernel) ⟨Nat.le_of_ble_eq_true rfl, Nat.le_of_ble_eq_true rfl⟩) rfl rfl (Nat.le_of_ble_eq_true rfl) dX10_lacks_89 ⟨Nat.zero_le _, Nat.zero_le _⟩ (fun locs hS => ?_)
              refine lv_istore (pc := 92) (lv' := [(10, .int v11), (9, .int v10), (8, .int v9), (0, .ref a_x), (1, .int p1), (2, .int p2), (3, .int p3), (4, .int p4), (5, .int p5), (6, .int p6), (7, .int p7)]) hx hb dX10_lacks_92 hl (by decide) rfl (fun ls hl => ?_)
              obtain ⟨k94, o94_, ek94, hm94, hk94⟩ := q_s11_k hf
              have JE94 : ∀ (v24 : Int32) (v25 : Int32) (v26 : Int32) (v27 : Int32) (v28 : Int32) (v29 : Int32) (v30 : Int32) (f31 : Nat → Int32) (v32 : Int32) (v33 : Int32) (v34 : Int32) (H : Heap) (locs : List Loc) (ls : Array Slot), k94 v24 v25 v26 v27 v28 v29 v30 f31 v32 v33 v34 = some (r, o1, o2, o3, o4, o5, o6, o7, o8, o9, o10, o11, o12, o13, o14) → va_P D vwCl ((a_x, .inr (10, [.ref a_at, .ref a_g, .ref a_st, .ref a_x_kept, .int x_keptStates, .ref a_tp, .ref a_rd, .ref a_qu, .ref a_sp, .ref a_wk, .ref a_bx, .ref a_nt, .ref a_nu, .ref a_x_seen])) :: (a_sp, .inr (6, [.ref a_g, .ref a_sp_first, .ref a_sp_many, .ref a_sp_corner, .int sp_cornerCount, .int v25, .int v26, .int v27, .int v28, .int v29, .int v30])) :: (a_bx, .inr (1, [.ref a_g, .int v4, .int v5, .int v6, .int v7])) :: (a_st, .inr (7, [.ref a_g, .ref a_st_levels, .ref a_st_keys, .ref a_st_years, .ref a_st_keysThere, .int st_size, .int v32, .int v33, .int v34])) :: (a_st_levels, .inl (ci 0, 60, .inl st_levels)) :: (a_st_keys, .inl (ci 0, 60, .inl st_keys)) :: (a_st_years, .inl (ci 0, 60, .inl st_years)) :: (a_st_keysThere, .inl (ci 0, 5, .inl f31)) :: (a_g, .inr (2, [.ref a_g_rowCuts, .ref a_g_columnCuts, .ref a_g_bandRows, .ref a_g_zoneColumns, .ref a_g_rows, .ref a_g_sheets])) :: (a_g_bandRows, .inl (ci 0, 5, .inl g_bandRows)) :: (a_g_zoneColumns, .inl (ci 0, 5, .inl g_zoneColumns)) :: (a_g_rows, .inl (ci 0, 5, .inl g_rows)) :: (a_g_sheets, .inl (ci 0, 5, .inl g_sheets)) :: Rw) H → va_D A ((a_x, .inr (10, [.ref a_at, .ref a_g, .ref a_st, .ref a_x_kept, .int x_keptStates, .ref a_tp, .ref a_rd, .ref a_qu, .ref a_sp, .ref a_wk, .ref a_bx, .ref a_nt, .ref a_nu, .ref a_x_seen])) :: (a_sp, .inr (6, [.ref a_g, .ref a_sp_first, .ref a_sp_many, .ref a_sp_corner, .int sp_cornerCount, .int v25, .int v26, .int v27, .int v28, .int v29, .int v30])) :: (a_bx, .inr (1, [.ref a_g, .int v4, .int v5, .int v6, .int v7])) :: (a_st, .inr (7, [.ref a_g, .ref a_st_levels, .ref a_st_keys, .ref a_st_years, .ref a_st_keysThere, .int st_size, .int v32, .int v33, .int v34])) :: (a_st_levels, .inl (ci 0, 60, .inl st_levels)) :: (a_st_keys, .inl (ci 0, 60, .inl st_keys)) :: (a_st_years, .inl (ci 0, 60, .inl st_years)) :: (a_st_keysThere, .inl (ci 0, 5, .inl f31)) :: (a_g, .inr (2, [.ref a_g_rowCuts, .ref a_g_columnCuts, .ref a_g_bandRows, .ref a_g_zoneColumns, .ref a_g_rows, .ref a_g_sheets])) :: (a_g_bandRows, .inl (ci 0, 5, .inl g_bandRows)) :: (a_g_zoneColumns, .inl (ci 0, 5, .inl g_zoneColumns)) :: (a_g_rows, .inl (ci 0, 5, .inl g_rows)) :: (a_g_sheets, .inl (ci 0, 5, .inl g_sheets)) :: Rw) → va_S A s.heap H locs → lv_has ls 14 [(7, .int p7), (8, .int v24)] → W p l e ({ frames := 5, cells := 0, slots := 0, locals := 119 } : Room) s m ([.ref a_x, .int p1, .int p2, .int p3, .int p4, .int p5, .int p6, .int p7] : List Value).toArray below meth c H locs 0 0 Q (F0 m 180 ls []) := by
                intro v24 v25 v26 v27 v28 v29 v30 f31 v32 v33 v34 H locs ls hf hP hD hS hl
                have hf := (ek94 v24 v25 v26 v27 v28 v29 v30 f31 v32 v33 v34).symm.trans hf
                refine lv_iload (pc := 180) hx hb dX10_lacks_180 (lv_at hl 0 rfl) ?_
                refine lv_iconst (pc := 182) (v := (-1)) hx hb dX10_lacks_182 (by decide) ?_
                refine q_icmp_ne (pc := 183) (tgt := 191) hx hb dX10_lacks_183 (by decide) rfl hf (fun hf => ?_) (fun hf => ?_)
                · refine lv_bipush (pc := 191) (v := (-3)) hx hb dX10_lacks_191 (by decide) ?_
                  obtain ⟨e90, e91, e92, e93, e94, e95, e96, e97, e98, e99, e910, e911, e912, e913, e914⟩ := q_inj15 (Option.some.inj hf)
                  rw [hQ, ← e90, ← e91, ← e92, ← e93, ← e94, ← e95, ← e96, ← e97, ← e98, ← e99, ← e910, ← e911, ← e912, ← e913, ← e914]
                  exact q_iret (pc := 193) hx hb hr hlocks hP hD hS dX10_lacks_193
                · refine lv_iload (pc := 186) hx hb dX10_lacks_186 (lv_at hl 1 rfl) ?_
                  refine lv_goto (pc := 188) (tgt := 193) hx hb dX10_lacks_188 (by decide) ?_
                  obtain ⟨e90, e91, e92, e93, e94, e95, e96, e97, e98, e99, e910, e911, e912, e913, e914⟩ := q_inj15 (Option.some.inj hf)
                  rw [hQ, ← e90, ← e91, ← e92, ← e93, ← e94, ← e95, ← e96, ← e97, ← e98, ← e99, ← e910, ← e911, ← e912, ← e913, ← e914]
                  exact q_iret (pc := 193) hx hb hr hlocks hP hD hS dX10_lacks_193
              have LP94 : ∀ (n94 : Nat) (v12 : Int32) (v13 : Int32) (v14 : Int32) (v15 : Int32) (v16 : Int32) (v17 : Int32) (v18 : Int32) (v19 : Int32) (f20 : Nat → Int32) (v21 : Int32) (v22 : Int32) (v23 : Int32) (H : Heap) (locs : List Loc) (ls : Array Slot), f_X_lacks_L94 N g_bandRows g_rows g_sheets g_zoneColumns p5 p6 p7 st_keys st_levels st_size st_years v10 v4 v5 v6 v7 n94 v12 v13 v14 v15 v16 v17 v18 v19 f20 v21 v22 v23 = some o94_ → va_P D vwCl ((a_x, .inr (10, [.ref a_at, .ref a_g, .ref a_st, .ref a_x_kept, .int x_keptStates, .ref a_tp, .ref a_rd, .ref a_qu, .ref a_sp, .ref a_wk, .ref a_bx, .ref a_nt, .ref a_nu, .ref a_x_seen])) :: (a_sp, .inr (6, [.ref a_g, .ref a_sp_first, .ref a_sp_many, .ref a_sp_corner, .int sp_cornerCount, .int v14, .int v15, .int v16, .int v17, .int v18, .int v19])) :: (a_bx, .inr (1, [.ref a_g, .int v4, .int v5, .int v6, .int v7])) :: (a_st, .inr (7, [.ref a_g, .ref a_st_levels, .ref a_st_keys, .ref a_st_years, .ref a_st_keysThere, .int st_size, .int v21, .int v22, .int v23])) :: (a_st_levels, .inl (ci 0, 60, .inl st_levels)) :: (a_st_keys, .inl (ci 0, 60, .inl st_keys)) :: (a_st_years, .inl (ci 0, 60, .inl st_years)) :: (a_st_keysThere, .inl (ci 0, 5, .inl f20)) :: (a_g, .inr (2, [.ref a_g_rowCuts, .ref a_g_columnCuts, .ref a_g_bandRows, .ref a_g_zoneColumns, .ref a_g_rows, .ref a_g_sheets])) :: (a_g_bandRows, .inl (ci 0, 5, .inl g_bandRows)) :: (a_g_zoneColumns, .inl (ci 0, 5, .inl g_zoneColumns)) :: (a_g_rows, .inl (ci 0, 5, .inl g_rows)) :: (a_g_sheets, .inl (ci 0, 5, .inl g_sheets)) :: Rw) H → va_D A ((a_x, .inr (10, [.ref a_at, .ref a_g, .ref a_st, .ref a_x_kept, .int x_keptStates, .ref a_tp, .ref a_rd, .ref a_qu, .ref a_sp, .ref a_wk, .ref a_bx, .ref a_nt, .ref a_nu, .ref a_x_seen])) :: (a_sp, .inr (6, [.ref a_g, .ref a_sp_first, .ref a_sp_many, .ref a_sp_corner, .int sp_cornerCount, .int v14, .int v15, .int v16, .int v17, .int v18, .int v19])) :: (a_bx, .inr (1, [.ref a_g, .int v4, .int v5, .int v6, .int v7])) :: (a_st, .inr (7, [.ref a_g, .ref a_st_levels, .ref a_st_keys, .ref a_st_years, .ref a_st_keysThere, .int st_size, .int v21, .int v22, .int v23])) :: (a_st_levels, .inl (ci 0, 60, .inl st_levels)) :: (a_st_keys, .inl (ci 0, 60, .inl st_keys)) :: (a_st_years, .inl (ci 0, 60, .inl st_years)) :: (a_st_keysThere, .inl (ci 0, 5, .inl f20)) :: (a_g, .inr (2, [.ref a_g_rowCuts, .ref a_g_columnCuts, .ref a_g_bandRows, .ref a_g_zoneColumns, .ref a_g_rows, .ref a_g_sheets])) :: (a_g_bandRows, .inl (ci 0, 5, .inl g_bandRows)) :: (a_g_zoneColumns, .inl (ci 0, 5, .inl g_zoneColumns)) :: (a_g_rows, .inl (ci 0, 5, .inl g_rows)) :: (a_g_sheets, .inl (ci 0, 5, .inl g_sheets)) :: Rw) → va_S A s.heap H locs → lv_has ls 14 [(0, .ref a_x), (5, .int p5), (6, .int p6), (7, .int p7), (8, .int v12), (9, .int v10), (10, .int v13)] → W p l e ({ frames := 5, cells := 0, slots := 0, locals := 119 } : Room) s m ([.ref a_x, .int p1, .int p2, .int p3, .int p4, .int p5, .int p6, .int p7] : List Value).toArray below meth c H locs 0 0 Q (F0 m 94 ls []) := by
                intro n94
                induction n94 with
                | zero => intro v12 v13 v14 v15 v16 v17 v18 v19 f20 v21 v22 v23 H locs ls hf; rw [f_X_lacks_L94] at hf; cases hf
                | succ n94 ih94 =>
                  intro v12 v13 v14 v15 v16 v17 v18 v19 f20 v21 v22 v23 H locs ls hf hP hD hS hl
                  rw [f_X_lacks_L94] at hf
                  refine lv_iload (pc := 94) hx hb dX10_lacks_94 (lv_at hl 6 rfl) ?_
                  refine lv_iload (pc := 96) hx hb dX10_lacks_96 (lv_at hl 5 rfl) ?_
                  refine q_icmp_gt (pc := 98) (tgt := 180) hx hb dX10_lacks_98 (by decide) rfl hf (fun hf => ?_) (fun hf => ?_)
                  · obtain rfl := Option.some.inj hf
                    exact JE94 v12 v14 v15 v16 v17 v18 v19 f20 v21 v22 v23 _ _ _ hk94 hP hD hS (lv_sub hl [3, 4] rfl)
                  · refine lv_aload_n (pc := 101) hx hb dX10_lacks_101 rfl (lv_at hl 0 rfl) ?_
                    refine va_get (pc := 102) (D := D) (ci := 10) (v := .ref a_bx) (C := RX10) (T := TX10) (N := 14) hx hb hts hinX10 hown hK hP 0 rfl rfl 10 (by decide) w_1 (fun _ h9 => h9) rfl dX10_lacks_102 ?_
                    refine lv_iload (pc := 105) hx hb dX10_lacks_105 (lv_at hl 1 rfl) ?_
                    refine lv_iload (pc := 107) hx hb dX10_lacks_107 (lv_at hl 6 rfl) ?_
                    obtain ⟨v35, hm109, hf⟩ := q_b1_e hf
                    refine q_cVr (pc := 109) (As := [.int p5, .int v13]) (rest := []) (v0 := (some (.int v35))) ⟨hx, hb, hml, hown, hts⟩ hK hA hZ hP hD hS hl.1 [2, 8, 9, 10, 11] 13 rfl ⟨rfl, rfl, rfl⟩ (c_Box_inRow l D ci A sa N (Rw) a_bx a_g a_g_rowCuts a_g_columnCuts a_g_bandRows a_g_zoneColumns a_g_rows a_g_sheets v4 v5 v6 v7 g_bandRows g_zoneColumns g_rows p5 v13 v35 hm109) 2 rfl rfl (cwV 2 hts gX10_lacks_X1_inRow rfl rfl rfl (by decide +kernel) ⟨Nat.le_of_ble_eq_true rfl, Nat.le_of_ble_eq_true rfl⟩) rfl rfl (Nat.le_of_ble_eq_true rfl) dX10_lacks_109 ⟨Nat.zero_le _, Nat.zero_le _⟩ (fun locs hS => ?_)
                    refine lv_istore (pc := 112) (lv' := [(11, .int v35), (0, .ref a_x), (5, .int p5), (6, .int p6), (7, .int p7), (8, .int v12), (9, .int v10), (10, .int v13)]) hx hb dX10_lacks_112 hl (by decide) rfl (fun ls hl => ?_)
                    refine lv_iconst (pc := 114) (v := 0) hx hb dX10_lacks_114 (by decide) ?_
                    obtain ⟨v36, ev36, hf⟩ := q_nm_e hf
                    refine q_topi ev36 ?_
                    refine lv_istore (pc := 115) (lv' := [(12, .int v36), (11, .int v35), (0, .ref a_x), (5, .int p5), (6, .int p6), (7, .int p7), (8, .int v12), (9, .int v10), (10, .int v13)]) hx hb dX10_lacks_115 hl (by decide) rfl (fun ls hl => ?_)
                    obtain ⟨k117, o117_, ek117, hm117, hk117⟩ := q_s11_k hf
                    have JE117 : ∀ (v49 : Int32) (v50 : Int32) (v51 : Int32) (v52 : Int32) (v53 : Int32) (v54 : Int32) (v55 : Int32) (f56 : Nat → Int32) (v57 : Int32) (v58 : Int32) (v59 : Int32) (H : Heap) (locs : List Loc) (ls : Array Slot), k117 v49 v50 v51 v52 v53 v54 v55 f56 v57 v58 v59 = some o94_ → va_P D vwCl ((a_x, .inr (10, [.ref a_at, .ref a_g, .ref a_st, .ref a_x_kept, .int x_keptStates, .ref a_tp, .ref a_rd, .ref a_qu, .ref a_sp, .ref a_wk, .ref a_bx, .ref a_nt, .ref a_nu, .ref a_x_seen])) :: (a_sp, .inr (6, [.ref a_g, .ref a_sp_first, .ref a_sp_many, .ref a_sp_corner, .int sp_cornerCount, .int v50, .int v51, .int v52, .int v53, .int v54, .int v55])) :: (a_bx, .inr (1, [.ref a_g, .int v4, .int v5, .int v6, .int v7])) :: (a_st, .inr (7, [.ref a_g, .ref a_st_levels, .ref a_st_keys, .ref a_st_years, .ref a_st_keysThere, .int st_size, .int v57, .int v58, .int v59])) :: (a_st_levels, .inl (ci 0, 60, .inl st_levels)) :: (a_st_keys, .inl (ci 0, 60, .inl st_keys)) :: (a_st_years, .inl (ci 0, 60, .inl st_years)) :: (a_st_keysThere, .inl (ci 0, 5, .inl f56)) :: (a_g, .inr (2, [.ref a_g_rowCuts, .ref a_g_columnCuts, .ref a_g_bandRows, .ref a_g_zoneColumns, .ref a_g_rows, .ref a_g_sheets])) :: (a_g_bandRows, .inl (ci 0, 5, .inl g_bandRows)) :: (a_g_zoneColumns, .inl (ci 0, 5, .inl g_zoneColumns)) :: (a_g_rows, .inl (ci 0, 5, .inl g_rows)) :: (a_g_sheets, .inl (ci 0, 5, .inl g_sheets)) :: Rw) H → va_D A ((a_x, .inr (10, [.ref a_at, .ref a_g, .ref a_st, .ref a_x_kept, .int x_keptStates, .ref a_tp, .ref a_rd, .ref a_qu, .ref a_sp, .ref a_wk, .ref a_bx, .ref a_nt, .ref a_nu, .ref a_x_seen])) :: (a_sp, .inr (6, [.ref a_g, .ref a_sp_first, .ref a_sp_many, .ref a_sp_corner, .int sp_cornerCount, .int v50, .int v51, .int v52, .int v53, .int v54, .int v55])) :: (a_bx, .inr (1, [.ref a_g, .int v4, .int v5, .int v6, .int v7])) :: (a_st, .inr (7, [.ref a_g, .ref a_st_levels, .ref a_st_keys, .ref a_st_years, .ref a_st_keysThere, .int st_size, .int v57, .int v58, .int v59])) :: (a_st_levels, .inl (ci 0, 60, .inl st_levels)) :: (a_st_keys, .inl (ci 0, 60, .inl st_keys)) :: (a_st_years, .inl (ci 0, 60, .inl st_years)) :: (a_st_keysThere, .inl (ci 0, 5, .inl f56)) :: (a_g, .inr (2, [.ref a_g_rowCuts, .ref a_g_columnCuts, .ref a_g_bandRows, .ref a_g_zoneColumns, .ref a_g_rows, .ref a_g_sheets])) :: (a_g_bandRows, .inl (ci 0, 5, .inl g_bandRows)) :: (a_g_zoneColumns, .inl (ci 0, 5, .inl g_zoneColumns)) :: (a_g_rows, .inl (ci 0, 5, .inl g_rows)) :: (a_g_sheets, .inl (ci 0, 5, .inl g_sheets)) :: Rw) → va_S A s.heap H locs → lv_has ls 14 [(0, .ref a_x), (5, .int p5), (6, .int p6), (7, .int p7), (8, .int v49), (9, .int v10), (10, .int v13)] → W p l e ({ frames := 5, cells := 0, slots := 0, locals := 119 } : Room) s m ([.ref a_x, .int p1, .int p2, .int p3, .int p4, .int p5, .int p6, .int p7] : List Value).toArray below meth c H locs 0 0 Q (F0 m 174 ls []) := by
                      intro v49 v50 v51 v52 v53 v54 v55 f56 v57 v58 v59 H locs ls hf hP hD hS hl
                      have hf := (ek117 v49 v50 v51 v52 v53 v54 v55 f56 v57 v58 v59).symm.trans hf
                      obtain ⟨v60, ev60, hf⟩ := q_nm_e hf
                      refine lv_iinc (pc := 174) (v := v60) (lv' := [(10, .int v60), (0, .ref a_x), (5, .int p5), (6, .int p6), (7, .int p7), (8, .int v49), (9, .int v10)]) hx hb dX10_lacks_174 hl (k := 6) rfl (by rw [ev60]; rfl) (by decide) rfl (fun ls hl => ?_)
                      refine lv_goto (pc := 177) (tgt := 94) hx hb dX10_lacks_177 (by decide) ?_
                      exact ih94 v49 v60 v50 v51 v52 v53 v54 v55 f56 v57 v58 v59 _ _ _ hf hP hD hS (lv_sub hl [1, 2, 3, 4, 5, 6, 0] rfl)
                    have LP117 : ∀ (n117 : Nat) (v37 : Int32) (v38 : Int32) (v39 : Int32) (v40 : Int32) (v41 : Int32) (v42 : Int32) (v43 : Int32) (v44 : Int32) (f45 : Nat → Int32) (v46 : Int32) (v47 : Int32) (v48 : Int32) (H : Heap) (locs : List Loc) (ls : Array Slot), f_X_lacks_L117 N g_bandRows g_rows g_sheets g_zoneColumns p5 p6 p7 st_keys st_levels st_size st_years v13 v35 v4 v5 v6 v7 n117 v37 v38 v39 v40 v41 v42 v43 v44 f45 v46 v47 v48 = some o117_ → va_P D vwCl ((a_x, .inr (10, [.ref a_at, .ref a_g, .ref a_st, .ref a_x_kept, .int x_keptStates, .ref a_tp, .ref a_rd, .ref a_qu, .ref a_sp, .ref a_wk, .ref a_bx, .ref a_nt, .ref a_nu, .ref a_x_seen])) :: (a_sp, .inr (6, [.ref a_g, .ref a_sp_first, .ref a_sp_many, .ref a_sp_corner, .int sp_cornerCount, .int v39, .int v40, .int v41, .int v42, .int v43, .int v44])) :: (a_bx, .inr (1, [.ref a_g, .int v4, .int v5, .int v6, .int v7])) :: (a_st, .inr (7, [.ref a_g, .ref a_st_levels, .ref a_st_keys, .ref a_st_years, .ref a_st_keysThere, .int st_size, .int v46, .int v47, .int v48])) :: (a_st_levels, .inl (ci 0, 60, .inl st_levels)) :: (a_st_keys, .inl (ci 0, 60, .inl st_keys)) :: (a_st_years, .inl (ci 0, 60, .inl st_years)) :: (a_st_keysThere, .inl (ci 0, 5, .inl f45)) :: (a_g, .inr (2, [.ref a_g_rowCuts, .ref a_g_columnCuts, .ref a_g_bandRows, .ref a_g_zoneColumns, .ref a_g_rows, .ref a_g_sheets])) :: (a_g_bandRows, .inl (ci 0, 5, .inl g_bandRows)) :: (a_g_zoneColumns, .inl (ci 0, 5, .inl g_zoneColumns)) :: (a_g_rows, .inl (ci 0, 5, .inl g_rows)) :: (a_g_sheets, .inl (ci 0, 5, .inl g_sheets)) :: Rw) H → va_D A ((a_x, .inr (10, [.ref a_at, .ref a_g, .ref a_st, .ref a_x_kept, .int x_keptStates, .ref a_tp, .ref a_rd, .ref a_qu, .ref a_sp, .ref a_wk, .ref a_bx, .ref a_nt, .ref a_nu, .ref a_x_seen])) :: (a_sp, .inr (6, [.ref a_g, .ref a_sp_first, .ref a_sp_many, .ref a_sp_corner, .int sp_cornerCount, .int v39, .int v40, .int v41, .int v42, .int v43, .int v44])) :: (a_bx, .inr (1, [.ref a_g, .int v4, .int v5, .int v6, .int v7])) :: (a_st, .inr (7, [.ref a_g, .ref a_st_levels, .ref a_st_keys, .ref a_st_years, .ref a_st_keysThere, .int st_size, .int v46, .int v47, .int v48])) :: (a_st_levels, .inl (ci 0, 60, .inl st_levels)) :: (a_st_keys, .inl (ci 0, 60, .inl st_keys)) :: (a_st_years, .inl (ci 0, 60, .inl st_years)) :: (a_st_keysThere, .inl (ci 0, 5, .inl f45)) :: (a_g, .inr (2, [.ref a_g_rowCuts, .ref a_g_columnCuts, .ref a_g_bandRows, .ref a_g_zoneColumns, .ref a_g_rows, .ref a_g_sheets])) :: (a_g_bandRows, .inl (ci 0, 5, .inl g_bandRows)) :: (a_g_zoneColumns, .inl (ci 0, 5, .inl g_zoneColumns)) :: (a_g_rows, .inl (ci 0, 5, .inl g_rows)) :: (a_g_sheets, .inl (ci 0, 5, .inl g_sheets)) :: Rw) → va_S A s.heap H locs → lv_has ls 14 [(0, .ref a_x), (5, .int p5), (6, .int p6), (7, .int p7), (8, .int v37), (9, .int v10), (10, .int v13), (11, .int v35), (12, .int v38)] → W p l e ({ frames := 5, cells := 0, slots := 0, locals := 119 } : Room) s m ([.ref a_x, .int p1, .int p2, .int p3, .int p4, .int p5, .int p6, .int p7] : List Value).toArray below meth c H locs 0 0 Q (F0 m 117 ls []) := by
                      intro n117
                      induction n117 with
                      | zero => intro v37 v38 v39 v40 v41 v42 v43 v44 f45 v46 v47 v48 H locs ls hf; rw [f_X_lacks_L117] at hf; cases hf
                      | succ n117 ih117 =>
                        intro v37 v38 v39 v40 v41 v42 v43 v44 f45 v46 v47 v48 H locs ls hf hP hD hS hl
                        rw [f_X_lacks_L117] at hf
                        refine lv_iload (pc := 117) hx hb dX10_lacks_117 (lv_at hl 8 rfl) ?_
                        refine lv_iload (pc := 119) hx hb dX10_lacks_119 (lv_at hl 7 rfl) ?_
                        refine q_icmp_ge (pc := 121) (tgt := 174) hx hb dX10_lacks_121 (by decide) rfl hf (fun hf => ?_) (fun hf => ?_)
                        · obtain rfl := Option.some.inj hf
                          exact JE117 v37 v39 v40 v41 v42 v43 v44 f45 v46 v47 v48 _ _ _ hk117 hP hD hS (lv_sub hl [0, 1, 2, 3, 4, 5, 6] rfl)
                        · refine lv_aload_n (pc := 124) hx hb dX10_lacks_124 rfl (lv_at hl 0 rfl) ?_
                          refine va_get (pc := 125) (D := D) (ci := 10) (v := .ref a_bx) (C := RX10) (T := TX10) (N := 14) hx hb hts hinX10 hown hK hP 0 rfl rfl 10 (by decide) w_1 (fun _ h9 => h9) rfl dX10_lacks_125 ?_
                          refine lv_iload (pc := 128) hx hb dX10_lacks_128 (lv_at hl 1 rfl) ?_
                          refine lv_iload (pc := 130) hx hb dX10_lacks_130 (lv_at hl 6 rfl) ?_
                          refine lv_iload (pc := 132) hx hb dX10_lacks_132 (lv_at hl 8 rfl) ?_
                          obtain ⟨v61, hm134, hf⟩ := q_b1_e hf
                          refine q_cVr (pc := 134) (As := [.int p5, .int v13, .int v38]) (rest := []) (v0 := (some (.int v61))) ⟨hx, hb, hml, hown, hts⟩ hK hA hZ hP hD hS hl.1 [2, 8, 9, 10, 11, 12] 13 rfl ⟨rfl, rfl, rfl⟩ (c_Box_keyFromWest l D ci A sa N (Rw) a_bx a_g a_g_rowCuts a_g_columnCuts a_g_bandRows a_g_zoneColumns a_g_rows a_g_sheets v4 v5 v6 v7 g_bandRows g_zoneColumns g_rows g_sheets p5 v13 v38 v61 hm134) 2 rfl rfl (cwV 3 hts gX10_lacks_X1_keyFromWest rfl rfl rfl (by decide +kernel) ⟨Nat.le_of_ble_eq_true rfl, Nat.le_of_ble_eq_true rfl⟩) rfl rfl (Nat.le_of_ble_eq_true rfl) dX10_lacks_134 ⟨Nat.zero_le _, Nat.zero_le _⟩ (fun locs hS => ?_)
                          refine lv_istore (pc := 137) (lv' := [(13, .int v61), (0, .ref a_x), (5, .int p5), (6, .int p6), (7, .int p7), (8, .int v37), (9, .int v10), (10, .int v13), (11, .int v35), (12, .int v38)]) hx hb dX10_lacks_137 hl (by decide) rfl (fun ls hl => ?_)
                          refine lv_aload_n (pc := 139) hx hb dX10_lacks_139 rfl (lv_at hl 1 rfl) ?_
                          refine lv_iload (pc := 140) hx hb dX10_lacks_140 (lv_at hl 2 rfl) ?_
                          refine lv_iload (pc := 142) hx hb dX10_lacks_142 (lv_at hl 0 rfl) ?_
                          refine lv_iload (pc := 144) hx hb dX10_lacks_144 (lv_at hl 3 rfl) ?_
                          obtain ⟨v62, v63, v64, v65, v66, v67, v68, f69, v70, v71, v72, hm146, hf⟩ := q_b11_e hf
                          refine q_cV (pc := 146) (As := [.int p5, .int v61, .int p6]) (rest := []) (v0 := (some (.int v62))) ⟨hx, hb, hml, hown, hts⟩ hK hA hZ hP hD hS hl.1 [0, 1, 3, 4, 5, 6, 7, 8, 9, 10, 11, 12, 2] 13 rfl ⟨rfl, rfl, rfl⟩ (c_X_isLacking l D ci A sa N ((a_bx, .inr (1, [.ref a_g, .int v4, .int v5, .int v6, .int v7])) :: Rw) a_x a_at a_g a_st a_x_kept a_tp a_rd a_qu a_sp a_wk a_bx a_nt a_nu a_x_seen a_sp_first a_sp_many a_sp_corner a_st_levels a_st_keys a_st_years a_st_keysThere a_g_rowCuts a_g_columnCuts a_g_bandRows a_g_zoneColumns a_g_rows a_g_sheets x_keptStates sp_cornerCount v39 v40 v41 v42 v43 v44 st_size v46 v47 v48 st_levels st_keys st_years f45 g_bandRows g_zoneColumns g_rows g_sheets p5 v61 p6 v62 v63 v64 v65 v66 v67 v68 f69 v70 v71 v72 hm146) 0 rfl rfl (cwV 3 hts gX10_lacks_X10_isLacking rfl rfl rfl (by decide +kernel) ⟨Nat.le_of_ble_eq_true rfl, Nat.le_of_ble_eq_true rfl⟩) rfl rfl (Nat.le_of_ble_eq_true rfl) dX10_lacks_146 ⟨Nat.zero_le _, Nat.zero_le _⟩ [0, 1, 12, 2, 3, 4, 5, 6, 7, 8, 9, 10, 11] 13 rfl ⟨rfl, rfl, rfl⟩ (fun H locs hP hD hS => ?_)
                          obtain ⟨hP, hD⟩ : va_PD D A ((a_x, .inr (10, [.ref a_at, .ref a_g, .ref a_st, .ref a_x_kept, .int x_keptStates, .ref a_tp, .ref a_rd, .ref a_qu, .ref a_sp, .ref a_wk, .ref a_bx, .ref a_nt, .ref a_nu, .ref a_x_seen])) :: (a_sp, .inr (6, [.ref a_g, .ref a_sp_first, .ref a_sp_many, .ref a_sp_corner, .int sp_cornerCount, .int v63, .int v64, .int v65, .int v66, .int v67, .int v68])) :: (a_bx, .inr (1, [.ref a_g, .int v4, .int v5, .int v6, .int v7])) :: (a_st, .inr (7, [.ref a_g, .ref a_st_levels, .ref a_st_keys, .ref a_st_years, .ref a_st_keysThere, .int st_size, .int v70, .int v71, .int v72])) :: (a_st_levels, .inl (ci 0, 60, .inl st_levels)) :: (a_st_keys, .inl (ci 0, 60, .inl st_keys)) :: (a_st_years, .inl (ci 0, 60, .inl st_years)) :: (a_st_keysThere, .inl (ci 0, 5, .inl f69)) :: (a_g, .inr (2, [.ref a_g_rowCuts, .ref a_g_columnCuts, .ref a_g_bandRows, .ref a_g_zoneColumns, .ref a_g_rows, .ref a_g_sheets])) :: (a_g_bandRows, .inl (ci 0, 5, .inl g_bandRows)) :: (a_g_zoneColumns, .inl (ci 0, 5, .inl g_zoneColumns)) :: (a_g_rows, .inl (ci 0, 5, .inl g_rows)) :: (a_g_sheets, .inl (ci 0, 5, .inl g_sheets)) :: Rw) H := ⟨hP, hD⟩
                          obtain ⟨k168, ek168, hf⟩ := q_j1_e hf
                          have J168 : ∀ (v73 : Int32) (H : Heap) (locs : List Loc) (ls : Array Slot), k168 v73 = some o117_ → va_P D vwCl ((a_x, .inr (10, [.ref a_at, .ref a_g, .ref a_st, .ref a_x_kept, .int x_keptStates, .ref a_tp, .ref a_rd, .ref a_qu, .ref a_sp, .ref a_wk, .ref a_bx, .ref a_nt, .ref a_nu, .ref a_x_seen])) :: (a_sp, .inr (6, [.ref a_g, .ref a_sp_first, .ref a_sp_many, .ref a_sp_corner, .int sp_cornerCount, .int v63, .int v64, .int v65, .int v66, .int v67, .int v68])) :: (a_bx, .inr (1, [.ref a_g, .int v4, .int v5, .int v6, .int v7])) :: (a_st, .inr (7, [.ref a_g, .ref a_st_levels, .ref a_st_keys, .ref a_st_years, .ref a_st_keysThere, .int st_size, .int v70, .int v71, .int v72])) :: (a_st_levels, .inl (ci 0, 60, .inl st_levels)) :: (a_st_keys, .inl (ci 0, 60, .inl st_keys)) :: (a_st_years, .inl (ci 0, 60, .inl st_years)) :: (a_st_keysThere, .inl (ci 0, 5, .inl f69)) :: (a_g, .inr (2, [.ref a_g_rowCuts, .ref a_g_columnCuts, .ref a_g_bandRows, .ref a_g_zoneColumns, .ref a_g_rows, .ref a_g_sheets])) :: (a_g_bandRows, .inl (ci 0, 5, .inl g_bandRows)) :: (a_g_zoneColumns, .inl (ci 0, 5, .inl g_zoneColumns)) :: (a_g_rows, .inl (ci 0, 5, .inl g_rows)) :: (a_g_sheets, .inl (ci 0, 5, .inl g_sheets)) :: Rw) H → va_D A ((a_x, .inr (10, [.ref a_at, .ref a_g, .ref a_st, .ref a_x_kept, .int x_keptStates, .ref a_tp, .ref a_rd, .ref a_qu, .ref a_sp, .ref a_wk, .ref a_bx, .ref a_nt, .ref a_nu, .ref a_x_seen])) :: (a_sp, .inr (6, [.ref a_g, .ref a_sp_first, .ref a_sp_many, .ref a_sp_corner, .int sp_cornerCount, .int v63, .int v64, .int v65, .int v66, .int v67, .int v68])) :: (a_bx, .inr (1, [.ref a_g, .int v4, .int v5, .int v6, .int v7])) :: (a_st, .inr (7, [.ref a_g, .ref a_st_levels, .ref a_st_keys, .ref a_st_years, .ref a_st_keysThere, .int st_size, .int v70, .int v71, .int v72])) :: (a_st_levels, .inl (ci 0, 60, .inl st_levels)) :: (a_st_keys, .inl (ci 0, 60, .inl st_keys)) :: (a_st_years, .inl (ci 0, 60, .inl st_years)) :: (a_st_keysThere, .inl (ci 0, 5, .inl f69)) :: (a_g, .inr (2, [.ref a_g_rowCuts, .ref a_g_columnCuts, .ref a_g_bandRows, .ref a_g_zoneColumns, .ref a_g_rows, .ref a_g_sheets])) :: (a_g_bandRows, .inl (ci 0, 5, .inl g_bandRows)) :: (a_g_zoneColumns, .inl (ci 0, 5, .inl g_zoneColumns)) :: (a_g_rows, .inl (ci 0, 5, .inl g_rows)) :: (a_g_sheets, .inl (ci 0, 5, .inl g_sheets)) :: Rw) → va_S A s.heap H locs → lv_has ls 14 [(0, .ref a_x), (5, .int p5), (6, .int p6), (7, .int p7), (8, .int v73), (9, .int v10), (10, .int v13), (11, .int v35), (12, .int v38)] → W p l e ({ frames := 5, cells := 0, slots := 0, locals := 119 } : Room) s m ([.ref a_x, .int p1, .int p2, .int p3, .int p4, .int p5, .int p6, .int p7] : List Value).toArray below meth c H locs 0 0 Q (F0 m 168 ls []) := by
                            intro v73 H locs ls hf hP hD hS hl
                            have hf := (ek168 v73).symm.trans hf
                            obtain ⟨v74, ev74, hf⟩ := q_nm_e hf
                            refine lv_iinc (pc := 168) (v := v74) (lv' := [(12, .int v74), (0, .ref a_x), (5, .int p5), (6, .int p6), (7, .int p7), (8, .int v73), (9, .int v10), (10, .int v13), (11, .int v35)]) hx hb dX10_lacks_168 hl (k := 8) rfl (by rw [ev74]; rfl) (by decide) rfl (fun ls hl => ?_)
                            refine lv_goto (pc := 171) (tgt := 117) hx hb dX10_lacks_171 (by decide) ?_
                            exact ih117 v73 v74 v63 v64 v65 v66 v67 v68 f69 v70 v71 v72 _ _ _ hf hP hD hS (lv_sub hl [1, 2, 3, 4, 5, 6, 7, 8, 0] rfl)
                          refine q_if_ne (pc := 149) (tgt := 155) hx hb dX10_lacks_149 (by decide) rfl hf (fun hf => ?_) (fun hf => ?_)
                          · refine lv_iload (pc := 155) hx hb dX10_lacks_155 (lv_at hl 5 rfl) ?_
                            refine lv_iload (pc := 157) hx hb dX10_lacks_157 (lv_at hl 4 rfl) ?_
                            refine q_icmp_ne (pc := 159) (tgt := 165) hx hb dX10_lacks_159 (by decide) rfl hf (fun hf => ?_) (fun hf => ?_)
                            · obtain ⟨v75, ev75, hf⟩ := q_nm_e hf
                              refine lv_iinc (pc := 165) (v := v75) (lv' := [(8, .int v75), (13, .int v61), (0, .ref a_x), (5, .int p5), (6, .int p6), (7, .int p7), (9, .int v10), (10, .int v13), (11, .int v35), (12, .int v38)]) hx hb dX10_lacks_165 hl (k := 5) rfl (by rw [ev75]; rfl) (by decide) rfl (fun ls hl => ?_)
                              exact J168 v75 _ _ _ hf hP hD hS (lv_sub hl [2, 3, 4, 5, 0, 6, 7, 8, 9] rfl)
                            · refine lv_iload (pc := 162) hx hb dX10_lacks_162 (lv_at hl 0 rfl) ?_
                              obtain rfl := Option.some.inj hf
                              have hk117 : ((.inr (v61, v63, v64, v65, v66, v67, v68, v4, v5, v6, v7, f69, v70, v71, v72)) : (Int32 × Int32 × Int32 × Int32 × Int32 × Int32 × Int32 × (Nat → Int32) × Int32 × Int32 × Int32) ⊕ (Int32 × Int32 × Int32 × Int32 × Int32 × Int32 × Int32 × Int32 × Int32 × Int32 × Int32 × (Nat → Int32) × Int32 × Int32 × Int32)) = o94_ := hk117
                              obtain rfl := hk117
                              have hk94 : ((v61, v63, v64, v65, v66, v67, v68, v4, v5, v6, v7, f69, v70, v71, v72) : Int32 × Int32 × Int32 × Int32 × Int32 × Int32 × Int32 × Int32 × Int32 × Int32 × Int32 × (Nat → Int32) × Int32 × Int32 × Int32) = (r, o1, o2, o3, o4, o5, o6, o7, o8, o9, o10, o11, o12, o13, o14) := hk94
                              obtain ⟨e90, e91, e92, e93, e94, e95, e96, e97, e98, e99, e910, e911, e912, e913, e914⟩ := q_inj15 (hk94)
                              rw [hQ, ← e90, ← e91, ← e92, ← e93, ← e94, ← e95, ← e96, ← e97, ← e98, ← e99, ← e910, ← e911, ← e912, ← e913, ← e914]
                              exact q_iret (pc := 164) hx hb hr hlocks hP hD hS dX10_lacks_164
                          · refine lv_goto (pc := 152) (tgt := 168) hx hb dX10_lacks_152 (by decide) ?_
                            exact J168 v37 _ _ _ hf hP hD hS (lv_sub hl [1, 2, 3, 4, 5, 6, 7, 8, 9] rfl)
                    exact LP117 N v12 v36 v14 v15 v16 v17 v18 v19 f20 v21 v22 v23 _ _ _ hm117 hP hD hS (lv_sub hl [2, 3, 4, 5, 6, 7, 8, 1, 0] rfl)
              exact LP94 N v9 v11 sp_level sp_row sp_start sp_place sp_length sp_cap st_keysThere st_shownBy st_deepestShown st_latestShown _ _ _ hm94 hP hD hS (lv_sub hl [3, 8, 9, 10, 2, 1, 0] rfl)
            · refine lv_bipush (pc := 66) (v := (-2)) hx hb dX10_lacks_66 (by decide) ?_
              obtain ⟨e90, e91, e92, e93, e94, e95, e96, e97, e98, e99, e910, e911, e912, e913, e914⟩ := q_inj15 (Option.some.inj hf)
              rw [hQ, ← e90, ← e91, ← e92, ← e93, ← e94, ← e95, ← e96, ← e97, ← e98, ← e99, ← e910, ← e911, ← e912, ← e913, ← e914]
              exact q_iret (pc := 68) hx hb hr hlocks hP hD hS dX10_lacks_68
          · refine lv_iconst (pc := 37) (v := (-1)) hx hb dX10_lacks_37 (by decide) ?_
            obtain ⟨e90, e91, e92, e93, e94, e95, e96, e97, e98, e99, e910, e911, e912, e913, e914⟩ := q_inj15 (Option.some.inj hf)
            rw [hQ, ← e90, ← e91, ← e92, ← e93, ← e94, ← e95, ← e96, ← e97, ← e98, ← e99, ← e910, ← e911, ← e912, ← e913, ← e914]
            exact q_iret (pc := 38) hx hb hr hlocks hP hD hS dX10_lacks_38
  exact hgo _ _ rfl hP hS
/-! X10_level -/
set_option maxRecDepth 100000 in
set_option maxHeartbeats 4000000 in
theorem c_X_level (l : Launch) (D : va_G) (ci : Nat → ClassId) (A : Nat → Prop) (sa : Nat → Nat) (N : Nat) (Rw : va_W) (a_x : Nat) (a_at : Nat) (a_g : Nat) (a_st : Nat) (a_x_kept : Nat) (a_tp : Nat) (a_rd : Nat) (a_qu : Nat) (a_sp : Nat) (a_wk : Nat) (a_bx : Nat) (a_nt : Nat) (a_nu : Nat) (a_x_seen : Nat) (a_g_rowCuts : Nat) (a_g_columnCuts : Nat) (a_g_bandRows : Nat) (a_g_zoneColumns : Nat) (a_g_rows : Nat) (a_g_sheets : Nat) (x_keptStates : Int32) (g_rowCuts : Nat → Int32) (g_columnCuts : Nat → Int32) (g_bandRows : Nat → Int32) (g_zoneColumns : Nat → Int32) (g_rows : Nat → Int32) (g_sheets : Nat → Int32) (p1 : Int32) (p2 : Int32) (r : Int32) (hf : f_X_level g_rowCuts g_columnCuts g_bandRows g_zoneColumns g_rows g_sheets p1 p2 = some r) : Met l yX10_level wsX10_level ({ frames := 1, cells := 0, slots := 0, locals := 20 }) (va_Pc [.ref a_x, .int p1, .int p2] (q_N D ci A sa ((a_x, .inr (10, [.ref a_at, .ref a_g, .ref a_st, .ref a_x_kept, .int x_keptStates, .ref a_tp, .ref a_rd, .ref a_qu, .ref a_sp, .ref a_wk, .ref a_bx, .ref a_nt, .ref a_nu, .ref a_x_seen])) :: (a_g, .inr (2, [.ref a_g_rowCuts, .ref a_g_columnCuts, .ref a_g_bandRows, .ref a_g_zoneColumns, .ref a_g_rows, .ref a_g_sheets])) :: (a_g_rowCuts, .inl (ci 0, 5, .inl g_rowCuts)) :: (a_g_columnCuts, .inl (ci 0, 5, .inl g_columnCuts)) :: (a_g_bandRows, .inl (ci 0, 5, .inl g_bandRows)) :: (a_g_zoneColumns, .inl (ci 0, 5, .inl g_zoneColumns)) :: (a_g_rows, .inl (ci 0, 5, .inl g_rows)) :: (a_g_sheets, .inl (ci 0, 5, .inl g_sheets)) :: Rw))) (q_R (some (.int r))) 0 0 A := by
  refine q_ofW (cc := cX10_level) (maxL := 3) (ret := (some .int)) [.ref a_x, .int p1, .int p2] (plainFor_of_name (by decide)) rfl (Nat.le_of_ble_eq_true rfl) ?_
  intro p e s m below meth c ls Q hQ hx hb hml hr hts hown hlocks hK hA hZ hP hD hS hl
  have hl : lv_has ls 3 [(0, .ref a_x), (1, .int p1), (2, .int p2)] := hl
  have hown : s.vm.findClass RX10 = some m.cls := hown
  have hinX10 : ∀ w ∈ wsX100, w ∈ wsX10_level := fun _ h => List.mem_cons_of_mem _ (inWX100 _ h)
  have hinX2 : ∀ w ∈ wsX20, w ∈ wsX10_level := fun _ h => List.mem_cons_of_mem _ (inWX20 _ h)
  have w_1 := hts (Cond.fieldLink RX10 20 "SheetNames" "grid" "LSheetNames$Grid;") (List.mem_cons_of_mem _ t_w876)
  have wn_1 : (Cond.fieldLinkNest "SheetNames" 126 "SheetNames$Grid" "sheets" "[I" "SheetNames").before ([.ref a_x, .int p1, .int p2] : List Value).toArray s = true := (hZ.2.2.2.2.2.2.2.2.2.1 _ (List.mem_of_getElem? (i := 1) rfl)).use rfl
  have wn_2 : (Cond.fieldLinkNest "SheetNames" 133 "SheetNames$Grid" "rows" "[I" "SheetNames").before ([.ref a_x, .int p1, .int p2] : List Value).toArray s = true := (hZ.2.2.2.2.2.2.2.2.2.1 _ (List.mem_of_getElem? (i := 2) rfl)).use rfl
  have wn_3 : (Cond.fieldLinkNest "SheetNames" 136 "SheetNames$Grid" "rowCuts" "[I" "SheetNames").before ([.ref a_x, .int p1, .int p2] : List Value).toArray s = true := (hZ.2.2.2.2.2.2.2.2.2.1 _ (List.mem_of_getElem? (i := 3) rfl)).use rfl
  have wn_4 : (Cond.fieldLinkNest "SheetNames" 139 "SheetNames$Grid" "columnCuts" "[I" "SheetNames").before ([.ref a_x, .int p1, .int p2] : List Value).toArray s = true := (hZ.2.2.2.2.2.2.2.2.2.1 _ (List.mem_of_getElem? (i := 4) rfl)).use rfl
  have wn_5 : (Cond.fieldLinkNest "SheetNames" 142 "SheetNames$Grid" "bandRows" "[I" "SheetNames").before ([.ref a_x, .int p1, .int p2] : List Value).toArray s = true := (hZ.2.2.2.2.2.2.2.2.2.1 _ (List.mem_of_getElem? (i := 5) rfl)).use rfl
  have wn_6 : (Cond.fieldLinkNest "SheetNames" 145 "SheetNames$Grid" "zoneColumns" "[I" "SheetNames").before ([.ref a_x, .int p1, .int p2] : List Value).toArray s = true := (hZ.2.2.2.2.2.2.2.2.2.1 _ (List.mem_of_getElem? (i := 6) rfl)).use rfl
  unfold f_X_level at hf
  have hgo : ∀ (H : Heap) (locs : List Loc), H = s.heap → va_P D vwCl ((a_x, .inr (10, [.ref a_at, .ref a_g, .ref a_st, .ref a_x_kept, .int x_keptStates, .ref a_tp, .ref a_rd, .ref a_qu, .ref a_sp, .ref a_wk, .ref a_bx, .ref a_nt, .ref a_nu, .ref a_x_seen])) :: (a_g, .inr (2, [.ref a_g_rowCuts, .ref a_g_columnCuts, .ref a_g_bandRows, .ref a_g_zoneColumns, .ref a_g_rows, .ref a_g_sheets])) :: (a_g_rowCuts, .inl (ci 0, 5, .inl g_rowCuts)) :: (a_g_columnCuts, .inl (ci 0, 5, .inl g_columnCuts)) :: (a_g_bandRows, .inl (ci 0, 5, .inl g_bandRows)) :: (a_g_zoneColumns, .inl (ci 0, 5, .inl g_zoneColumns)) :: (a_g_rows, .inl (ci 0, 5, .inl g_rows)) :: (a_g_sheets, .inl (ci 0, 5, .inl g_sheets)) :: Rw) H → va_S A s.heap H locs → W p l e ({ frames := 1, cells := 0, slots := 0, locals := 20 } : Room) s m ([.ref a_x, .int p1, .int p2] : List Value).toArray below meth c H locs 0 0 Q (F0 m 0 ls []) := by
    intro H locs hH hP hS
    subst hH
    refine lv_iload_n (pc := 0) hx hb dX10_level_0 rfl (lv_at hl 1 rfl) ?_
    obtain ⟨v1, hm1, hf⟩ := q_b1_e hf
    refine q_cSr (pc := 1) (As := [.int p1]) (rest := []) (v0 := (some (.int v1))) ⟨hx, hb, hml, hown, hts⟩ hK hA hZ hP hD hS hl.1 [] 8 rfl ⟨rfl, rfl, rfl⟩ (c_X_isLevel l D ci A sa N (Rw) p1 v1 hm1) (va_cwS 1 hts gX10_level_X10_isLevel rfl rfl rfl (by decide +kernel) ⟨Nat.le_of_ble_eq_true rfl, Nat.le_of_ble_eq_true rfl⟩) rfl rfl (Nat.le_of_ble_eq_true rfl) dX10_level_1 ⟨Nat.zero_le _, Nat.zero_le _⟩ (fun locs hS => ?_)
    refine q_if_ne (pc := 4) (tgt := 9) hx hb dX10_level_4 (by decide) rfl hf (fun hf => ?_) (fun hf => ?_)
    · refine lv_iload_n (pc := 9) hx hb dX10_level_9 rfl (lv_at hl 2 rfl) ?_
      rcases q_if_e hf with ⟨hc0, hf⟩ | ⟨hc0, hf⟩
      · refine lv_tableIn (pc := 10) (tgt := 48) (off := 38) hx hb dX10_level_10 (by rw [hc0]; decide) (by rw [hc0]; decide) (by rw [hc0]; decide) (by decide) ?_
        refine lv_aload_n (pc := 48) hx hb dX10_level_48 rfl (lv_at hl 0 rfl) ?_
        refine va_get (pc := 49) (D := D) (ci := 10) (v := .ref a_g) (C := RX10) (T := TX10) (N := 14) hx hb hts hinX10 hown hK hP 0 rfl rfl 1 (by decide) w_1 (fun _ h9 => h9) rfl dX10_level_49 ?_
        refine va_getN (pc := 52) (D := D) (ci := 2) (v := .ref a_g_sheets) (C := RX2) (T := TX2) (N := 6) hx hb hts hinX2 hown hK hP 1 rfl rfl 5 (by decide) wn_1 (fun _ h9 => h9) rfl dX10_level_52 ?_
        refine lv_iload_n (pc := 55) hx hb dX10_level_55 rfl (lv_at hl 1 rfl) ?_
        refine q_iald (pc := 56) hx hb hK hP 7 0 hf rfl rfl dX10_level_56 (fun v2 hf => ?_)
        obtain rfl := Option.some.inj hf
        rw [hQ]
        exact q_iretr (pc := 57) hx hb hr hlocks rfl hS dX10_level_57
      rcases q_if_e hf with ⟨hc1, hf⟩ | ⟨hc1, hf⟩
      · refine lv_tableIn (pc := 10) (tgt := 58) (off := 48) hx hb dX10_level_10 (by rw [hc1]; decide) (by rw [hc1]; decide) (by rw [hc1]; decide) (by decide) ?_
        refine lv_aload_n (pc := 58) hx hb dX10_level_58 rfl (lv_at hl 0 rfl) ?_
        refine va_get (pc := 59) (D := D) (ci := 10) (v := .ref a_g) (C := RX10) (T := TX10) (N := 14) hx hb hts hinX10 hown hK hP 0 rfl rfl 1 (by decide) w_1 (fun _ h9 => h9) rfl dX10_level_59 ?_
        refine va_getN (pc := 62) (D := D) (ci := 2) (v := .ref a_g_rows) (C := RX2) (T := TX2) (N := 6) hx hb hts hinX2 hown hK hP 1 rfl rfl 4 (by decide) wn_2 (fun _ h9 => h9) rfl dX10_level_62 ?_
        refine lv_iload_n (pc := 65) hx hb dX10_level_65 rfl (lv_at hl 1 rfl) ?_
        refine q_iald (pc := 66) hx hb hK hP 6 0 hf rfl rfl dX10_level_66 (fun v3 hf => ?_)
        obtain rfl := Option.some.inj hf
        rw [hQ]
        exact q_iretr (pc := 67) hx hb hr hlocks rfl hS dX10_level_67
      rcases q_if_e hf with ⟨hc2, hf⟩ | ⟨hc2, hf⟩
      · refine lv_tableIn (pc := 10) (tgt := 68) (off := 58) hx hb dX10_level_10 (by rw [hc2]; decide) (by rw [hc2]; decide) (by rw [hc2]; decide) (by decide) ?_
        refine lv_aload_n (pc := 68) hx hb dX10_level_68 rfl (lv_at hl 0 rfl) ?_
        refine va_get (pc := 69) (D := D) (ci := 10) (v := .ref a_g) (C := RX10) (T := TX10) (N := 14) hx hb hts hinX10 hown hK hP 0 rfl rfl 1 (by decide) w_1 (fun _ h9 => h9) rfl dX10_level_69 ?_
        refine va_getN (pc := 72) (D := D) (ci := 2) (v := .ref a_g_rowCuts) (C := RX2) (T := TX2) (N := 6) hx hb hts hinX2 hown hK hP 1 rfl rfl 0 (by decide) wn_3 (fun _ h9 => h9) rfl dX10_level_72 ?_
        refine lv_iload_n (pc := 75) hx hb dX10_level_75 rfl (lv_at hl 1 rfl) ?_
        refine q_iald (pc := 76) hx hb hK hP 2 0 hf rfl rfl dX10_level_76 (fun v4 hf => ?_)
        obtain rfl := Option.some.inj hf
        rw [hQ]
        exact q_iretr (pc := 77) hx hb hr hlocks rfl hS dX10_level_77
      rcases q_if_e hf with ⟨hc3, hf⟩ | ⟨hc3, hf⟩
      · refine lv_tableIn (pc := 10) (tgt := 78) (off := 68) hx hb dX10_level_10 (by rw [hc3]; decide) (by rw [hc3]; decide) (by rw [hc3]; decide) (by decide) ?_
        refine lv_aload_n (pc := 78) hx hb dX10_level_78 rfl (lv_at hl 0 rfl) ?_
        refine va_get (pc := 79) (D := D) (ci := 10) (v := .ref a_g) (C := RX10) (T := TX10) (N := 14) hx hb hts hinX10 hown hK hP 0 rfl rfl 1 (by decide) w_1 (fun _ h9 => h9) rfl dX10_level_79 ?_
        refine va_getN (pc := 82) (D := D) (ci := 2) (v := .ref a_g_columnCuts) (C := RX2) (T := TX2) (N := 6) hx hb hts hinX2 hown hK hP 1 rfl rfl 1 (by decide) wn_4 (fun _ h9 => h9) rfl dX10_level_82 ?_
        refine lv_iload_n (pc := 85) hx hb dX10_level_85 rfl (lv_at hl 1 rfl) ?_
        refine q_iald (pc := 86) hx hb hK hP 3 0 hf rfl rfl dX10_level_86 (fun v5 hf => ?_)
        obtain rfl := Option.some.inj hf
        rw [hQ]
        exact q_iretr (pc := 87) hx hb hr hlocks rfl hS dX10_level_87
      rcases q_if_e hf with ⟨hc4, hf⟩ | ⟨hc4, hf⟩
      · refine lv_tableIn (pc := 10) (tgt := 88) (off := 78) hx hb dX10_level_10 (by rw [hc4]; decide) (by rw [hc4]; decide) (by rw [hc4]; decide) (by decide) ?_
        refine lv_aload_n (pc := 88) hx hb dX10_level_88 rfl (lv_at hl 0 rfl) ?_
        refine va_get (pc := 89) (D := D) (ci := 10) (v := .ref a_g) (C := RX10) (T := TX10) (N := 14) hx hb hts hinX10 hown hK hP 0 rfl rfl 1 (by decide) w_1 (fun _ h9 => h9) rfl dX10_level_89 ?_
        refine va_getN (pc := 92) (D := D) (ci := 2) (v := .ref a_g_bandRows) (C := RX2) (T := TX2) (N := 6) hx hb hts hinX2 hown hK hP 1 rfl rfl 2 (by decide) wn_5 (fun _ h9 => h9) rfl dX10_level_92 ?_
        refine lv_iload_n (pc := 95) hx hb dX10_level_95 rfl (lv_at hl 1 rfl) ?_
        refine q_iald (pc := 96) hx hb hK hP 4 0 hf rfl rfl dX10_level_96 (fun v6 hf => ?_)
        obtain rfl := Option.some.inj hf
        rw [hQ]
        exact q_iretr (pc := 97) hx hb hr hlocks rfl hS dX10_level_97
      rcases q_if_e hf with ⟨hc5, hf⟩ | ⟨hc5, hf⟩
      · refine lv_tableIn (pc := 10) (tgt := 98) (off := 88) hx hb dX10_level_10 (by rw [hc5]; decide) (by rw [hc5]; decide) (by rw [hc5]; decide) (by decide) ?_
        refine lv_aload_n (pc := 98) hx hb dX10_level_98 rfl (lv_at hl 0 rfl) ?_
        refine va_get (pc := 99) (D := D) (ci := 10) (v := .ref a_g) (C := RX10) (T := TX10) (N := 14) hx hb hts hinX10 hown hK hP 0 rfl rfl 1 (by decide) w_1 (fun _ h9 => h9) rfl dX10_level_99 ?_
        refine va_getN (pc := 102) (D := D) (ci := 2) (v := .ref a_g_zoneColumns) (C := RX2) (T := TX2) (N := 6) hx hb hts hinX2 hown hK hP 1 rfl rfl 3 (by decide) wn_6 (fun _ h9 => h9) rfl dX10_level_102 ?_
        refine lv_iload_n (pc := 105) hx hb dX10_level_105 rfl (lv_at hl 1 rfl) ?_
        refine q_iald (pc := 106) hx hb hK hP 5 0 hf rfl rfl dX10_level_106 (fun v7 hf => ?_)
        obtain rfl := Option.some.inj hf
        rw [hQ]
        exact q_iretr (pc := 107) hx hb hr hlocks rfl hS dX10_level_107
      have hsw : p2.toInt < 0 ∨ 5 < p2.toInt := by
        have hd0 := q_nei hc0; have hd1 := q_nei hc1; have hd2 := q_nei hc2; have hd3 := q_nei hc3; have hd4 := q_nei hc4; have hd5 := q_nei hc5
        rw [show (0 : Int32).toInt = 0 from rfl] at hd0; rw [show (1 : Int32).toInt = 1 from rfl] at hd1; rw [show (2 : Int32).toInt = 2 from rfl] at hd2; rw [show (3 : Int32).toInt = 3 from rfl] at hd3; rw [show (4 : Int32).toInt = 4 from rfl] at hd4; rw [show (5 : Int32).toInt = 5 from rfl] at hd5
        omega
      refine lv_tableOut (pc := 10) (tgt := 108) hx hb dX10_level_10 hsw (by decide) ?_
      refine lv_iconst (pc := 108) (v := (-1)) hx hb dX10_level_108 (by decide) ?_
      obtain rfl := Option.some.inj hf
      rw [hQ]
      exact q_iretr (pc := 109) hx hb hr hlocks rfl hS dX10_level_109
    · refine lv_iconst (pc := 7) (v := (-1)) hx hb dX10_level_7 (by decide) ?_
      obtain rfl := Option.some.inj hf
      rw [hQ]
      exact q_iretr (pc := 8) hx hb hr hlocks rfl hS dX10_level_8
  exact hgo _ _ rfl hP hS
/-! X10_middle -/
set_option maxRecDepth 100000 in
set_option maxHeartbeats 4000000 in
theorem c_X_middle (l : Launch) (D : va_G) (ci : Nat → ClassId) (A : Nat → Prop) (sa : Nat → Nat) (N : Nat) (Rw : va_W) (a_x : Nat) (a_at : Nat) (a_g : Nat) (a_st : Nat) (a_x_kept : Nat) (a_tp : Nat) (a_rd : Nat) (a_qu : Nat) (a_sp : Nat) (a_wk : Nat) (a_bx : Nat) (a_nt : Nat) (a_nu : Nat) (a_x_seen : Nat) (a_sp_first : Nat) (a_sp_many : Nat) (a_sp_corner : Nat) (a_g_rowCuts : Nat) (a_g_columnCuts : Nat) (a_g_bandRows : Nat) (a_g_zoneColumns : Nat) (a_g_rows : Nat) (a_g_sheets : Nat) (x_keptStates : Int32) (sp_cornerCount : Int32) (sp_level : Int32) (sp_row : Int32) (sp_start : Int32) (sp_place : Int32) (sp_length : Int32) (sp_cap : Int32) (g_bandRows : Nat → Int32) (g_zoneColumns : Nat → Int32) (g_rows : Nat → Int32) (g_sheets : Nat → Int32) (p1 : Int32) (p2 : Int32) (p3 : Int32) (r : Int32) (o1 : Int32) (o2 : Int32) (o3 : Int32) (o4 : Int32) (o5 : Int32) (o6 : Int32) (hf : f_X_middle N sp_level sp_row sp_start sp_place sp_length sp_cap g_bandRows g_zoneColumns g_rows g_sheets p1 p2 p3 = some (r, o1, o2, o3, o4, o5, o6)) : Met l yX10_middle wsX10_middle ({ frames := 3, cells := 0, slots := 0, locals := 71 }) (va_Pc [.ref a_x, .int p1, .int p2, .int p3] (q_N D ci A sa ((a_x, .inr (10, [.ref a_at, .ref a_g, .ref a_st, .ref a_x_kept, .int x_keptStates, .ref a_tp, .ref a_rd, .ref a_qu, .ref a_sp, .ref a_wk, .ref a_bx, .ref a_nt, .ref a_nu, .ref a_x_seen])) :: (a_sp, .inr (6, [.ref a_g, .ref a_sp_first, .ref a_sp_many, .ref a_sp_corner, .int sp_cornerCount, .int sp_level, .int sp_row, .int sp_start, .int sp_place, .int sp_length, .int sp_cap])) :: (a_g, .inr (2, [.ref a_g_rowCuts, .ref a_g_columnCuts, .ref a_g_bandRows, .ref a_g_zoneColumns, .ref a_g_rows, .ref a_g_sheets])) :: (a_g_bandRows, .inl (ci 0, 5, .inl g_bandRows)) :: (a_g_zoneColumns, .inl (ci 0, 5, .inl g_zoneColumns)) :: (a_g_rows, .inl (ci 0, 5, .inl g_rows)) :: (a_g_sheets, .inl (ci 0, 5, .inl g_sheets)) :: Rw))) (q_Q (some (.int r)) (q_O D A ((a_x, .inr (10, [.ref a_at, .ref a_g, .ref a_st, .ref a_x_kept, .int x_keptStates, .ref a_tp, .ref a_rd, .ref a_qu, .ref a_sp, .ref a_wk, .ref a_bx, .ref a_nt, .ref a_nu, .ref a_x_seen])) :: (a_sp, .inr (6, [.ref a_g, .ref a_sp_first, .ref a_sp_many, .ref a_sp_corner, .int sp_cornerCount, .int o1, .int o2, .int o3, .int o4, .int o5, .int o6])) :: (a_g, .inr (2, [.ref a_g_rowCuts, .ref a_g_columnCuts, .ref a_g_bandRows, .ref a_g_zoneColumns, .ref a_g_rows, .ref a_g_sheets])) :: (a_g_bandRows, .inl (ci 0, 5, .inl g_bandRows)) :: (a_g_zoneColumns, .inl (ci 0, 5, .inl g_zoneColumns)) :: (a_g_rows, .inl (ci 0, 5, .inl g_rows)) :: (a_g_sheets, .inl (ci 0, 5, .inl g_sheets)) :: Rw)) A) 0 0 A := by
  refine q_ofW (cc := cX10_middle) (maxL := 4) (ret := (some .int)) [.ref a_x, .int p1, .int p2, .int p3] (plainFor_of_name (by decide)) rfl (Nat.le_of_ble_eq_true rfl) ?_
  intro p e s m below meth c ls Q hQ hx hb hml hr hts hown hlocks hK hA hZ hP hD hS hl
  have hl : lv_has ls 4 [(0, .ref a_x), (1, .int p1), (2, .int p2), (3, .int p3)] := hl
  have hown : s.vm.findClass RX10 = some m.cls := hown
  have hinX10 : ∀ w ∈ wsX100, w ∈ wsX10_middle := fun _ h => List.mem_cons_of_mem _ (inWX100 _ h)
  have w_1 := hts (Cond.fieldLink RX10 20 "SheetNames" "grid" "LSheetNames$Grid;") (List.mem_cons_of_mem _ t_w876)
  have w_2 := hts (Cond.constant RX10 207 (-1000000)) (List.mem_cons_of_mem _ t_w886)
  have w_3 := hts (Cond.fieldLink RX10 66 "SheetNames" "spot" "LSheetNames$Spot;") (List.mem_cons_of_mem _ t_w877)
  unfold f_X_middle at hf
  have hgo : ∀ (H : Heap) (locs : List Loc), H = s.heap → va_P D vwCl ((a_x, .inr (10, [.ref a_at, .ref a_g, .ref a_st, .ref a_x_kept, .int x_keptStates, .ref a_tp, .ref a_rd, .ref a_qu, .ref a_sp, .ref a_wk, .ref a_bx, .ref a_nt, .ref a_nu, .ref a_x_seen])) :: (a_sp, .inr (6, [.ref a_g, .ref a_sp_first, .ref a_sp_many, .ref a_sp_corner, .int sp_cornerCount, .int sp_level, .int sp_row, .int sp_start, .int sp_place, .int sp_length, .int sp_cap])) :: (a_g, .inr (2, [.ref a_g_rowCuts, .ref a_g_columnCuts, .ref a_g_bandRows, .ref a_g_zoneColumns, .ref a_g_rows, .ref a_g_sheets])) :: (a_g_bandRows, .inl (ci 0, 5, .inl g_bandRows)) :: (a_g_zoneColumns, .inl (ci 0, 5, .inl g_zoneColumns)) :: (a_g_rows, .inl (ci 0, 5, .inl g_rows)) :: (a_g_sheets, .inl (ci 0, 5, .inl g_sheets)) :: Rw) H → va_S A s.heap H locs → W p l e ({ frames := 3, cells := 0, slots := 0, locals := 71 } : Room) s m ([.ref a_x, .int p1, .int p2, .int p3] : List Value).toArray below meth c H locs 0 0 Q (F0 m 0 ls []) := by
    intro H locs hH hP hS
    refine lv_aload_n (pc := 0) hx hb dX10_middle_0 rfl (lv_at hl 0 rfl) ?_
    refine va_get (pc := 1) (D := D) (ci := 10) (v := .ref a_g) (C := RX10) (T := TX10) (N := 14) hx hb hts hinX10 hown hK hP 0 rfl rfl 1 (by decide) w_1 (fun _ h9 => h9) rfl dX10_middle_1 ?_
    refine lv_iload_n (pc := 4) hx hb dX10_middle_4 rfl (lv_at hl 1 rfl) ?_
    refine lv_iload_n (pc := 5) hx hb dX10_middle_5 rfl (lv_at hl 2 rfl) ?_
    obtain ⟨v1, hm6, hf⟩ := q_b1_e hf
    refine q_cVr (pc := 6) (As := [.int p1, .int p2]) (rest := []) (v0 := (some (.int v1))) ⟨hx, hb, hml, hown, hts⟩ hK hA hZ hP hD hS hl.1 [2, 6] 7 rfl ⟨rfl, rfl, rfl⟩ (c_Grid_hasSheet l D ci A sa N (Rw) a_g a_g_rowCuts a_g_columnCuts a_g_bandRows a_g_zoneColumns a_g_rows a_g_sheets g_sheets p1 p2 v1 hm6) 2 rfl rfl (cwV 2 hts gX10_middle_X2_hasSheet rfl rfl rfl (by decide +kernel) ⟨Nat.le_of_ble_eq_true rfl, Nat.le_of_ble_eq_true rfl⟩) rfl rfl (Nat.le_of_ble_eq_true rfl) dX10_middle_6 ⟨Nat.zero_le _, Nat.zero_le _⟩ (fun locs hS => ?_)
    refine q_if_eq (pc := 9) (tgt := 21) hx hb dX10_middle_9 (by decide) rfl hf (fun hf => ?_) (fun hf => ?_)
    · refine lv_ldc (pc := 21) (v := (-1000000)) hx hb hown w_2 dX10_middle_21 ?_
      obtain ⟨e90, e91, e92, e93, e94, e95, e96⟩ := q_inj7 (Option.some.inj hf)
      rw [hQ, ← e90, ← e91, ← e92, ← e93, ← e94, ← e95, ← e96]
      exact q_iret (pc := 23) hx hb hr hlocks hP hD hS dX10_middle_23
    · refine lv_iload_n (pc := 12) hx hb dX10_middle_12 rfl (lv_at hl 3 rfl) ?_
      refine lv_iconst (pc := 13) (v := 0) hx hb dX10_middle_13 (by decide) ?_
      refine lv_iconst (pc := 14) (v := 1) hx hb dX10_middle_14 (by decide) ?_
      obtain ⟨v2, hm15, hf⟩ := q_b1_e hf
      refine q_cSr (pc := 15) (As := [.int p3, .int 0, .int 1]) (rest := []) (v0 := (some (.int v2))) ⟨hx, hb, hml, hown, hts⟩ hK hA hZ hP hD hS hl.1 [] 7 rfl ⟨rfl, rfl, rfl⟩ (c_X_isFrom l D ci A sa N (Rw) p3 0 1 v2 hm15) (va_cwS 3 hts gX10_middle_X10_isFrom rfl rfl rfl (by decide +kernel) ⟨Nat.le_of_ble_eq_true rfl, Nat.le_of_ble_eq_true rfl⟩) rfl rfl (Nat.le_of_ble_eq_true rfl) dX10_middle_15 ⟨Nat.zero_le _, Nat.zero_le _⟩ (fun locs hS => ?_)
      refine q_if_ne (pc := 18) (tgt := 24) hx hb dX10_middle_18 (by decide) rfl hf (fun hf => ?_) (fun hf => ?_)
      · refine lv_aload_n (pc := 24) hx hb dX10_middle_24 rfl (lv_at hl 0 rfl) ?_
        refine va_get (pc := 25) (D := D) (ci := 10) (v := .ref a_sp) (C := RX10) (T := TX10) (N := 14) hx hb hts hinX10 hown hK hP 0 rfl rfl 8 (by decide) w_3 (fun _ h9 => h9) rfl dX10_middle_25 ?_
        refine lv_iload_n (pc := 28) hx hb dX10_middle_28 rfl (lv_at hl 1 rfl) ?_
        refine lv_iload_n (pc := 29) hx hb dX10_middle_29 rfl (lv_at hl 2 rfl) ?_
        obtain ⟨v3, v4, v5, v6, v7, v8, hm30, hf⟩ := q_b6_e hf
        refine q_cV (pc := 30) (As := [.int p1, .int p2]) (rest := []) (v0 := none) ⟨hx, hb, hml, hown, hts⟩ hK hA hZ hP hD hS hl.1 [1, 2, 3, 4, 5, 6, 0] 7 rfl ⟨rfl, rfl, rfl⟩ (c_Spot_put l D ci A sa N ((a_x, .inr (10, [.ref a_at, .ref a_g, .ref a_st, .ref a_x_kept, .int x_keptStates, .ref a_tp, .ref a_rd, .ref a_qu, .ref a_sp, .ref a_wk, .ref a_bx, .ref a_nt, .ref a_nu, .ref a_x_seen])) :: Rw) a_sp a_g a_sp_first a_sp_many a_sp_corner a_g_rowCuts a_g_columnCuts a_g_bandRows a_g_zoneColumns a_g_rows a_g_sheets sp_cornerCount sp_level sp_row sp_start sp_place sp_length sp_cap g_bandRows g_zoneColumns g_rows g_sheets p1 p2 v3 v4 v5 v6 v7 v8 hm30) 1 rfl rfl (cwV 2 hts gX10_middle_X6_put rfl rfl rfl (by decide +kernel) ⟨Nat.le_of_ble_eq_true rfl, Nat.le_of_ble_eq_true rfl⟩) rfl rfl (Nat.le_of_ble_eq_true rfl) dX10_middle_30 ⟨Nat.zero_le _, Nat.zero_le _⟩ [6, 0, 1, 2, 3, 4, 5] 7 rfl ⟨rfl, rfl, rfl⟩ (fun H locs hP hD hS => ?_)
        obtain ⟨hP, hD⟩ : va_PD D A ((a_x, .inr (10, [.ref a_at, .ref a_g, .ref a_st, .ref a_x_kept, .int x_keptStates, .ref a_tp, .ref a_rd, .ref a_qu, .ref a_sp, .ref a_wk, .ref a_bx, .ref a_nt, .ref a_nu, .ref a_x_seen])) :: (a_sp, .inr (6, [.ref a_g, .ref a_sp_first, .ref a_sp_many, .ref a_sp_corner, .int sp_cornerCount, .int v3, .int v4, .int v5, .int v6, .int v7, .int v8])) :: (a_g, .inr (2, [.ref a_g_rowCuts, .ref a_g_columnCuts, .ref a_g_bandRows, .ref a_g_zoneColumns, .ref a_g_rows, .ref a_g_sheets])) :: (a_g_bandRows, .inl (ci 0, 5, .inl g_bandRows)) :: (a_g_zoneColumns, .inl (ci 0, 5, .inl g_zoneColumns)) :: (a_g_rows, .inl (ci 0, 5, .inl g_rows)) :: (a_g_sheets, .inl (ci 0, 5, .inl g_sheets)) :: Rw) H := ⟨hP, hD⟩
        refine lv_iload_n (pc := 33) hx hb dX10_middle_33 rfl (lv_at hl 3 rfl) ?_
        refine q_if_ne (pc := 34) (tgt := 47) hx hb dX10_middle_34 (by decide) rfl hf (fun hf => ?_) (fun hf => ?_)
        · refine lv_aload_n (pc := 47) hx hb dX10_middle_47 rfl (lv_at hl 0 rfl) ?_
          refine va_get (pc := 48) (D := D) (ci := 10) (v := .ref a_sp) (C := RX10) (T := TX10) (N := 14) hx hb hts hinX10 hown hK hP 0 rfl rfl 8 (by decide) w_3 (fun _ h9 => h9) rfl dX10_middle_48 ?_
          obtain ⟨v9, hm51, hf⟩ := q_b1_e hf
          refine q_cVr (pc := 51) (As := []) (rest := []) (v0 := (some (.int v9))) ⟨hx, hb, hml, hown, hts⟩ hK hA hZ hP hD hS hl.1 [1, 2, 3] 7 rfl ⟨rfl, rfl, rfl⟩ (c_Spot_middleLon l D ci A sa N (Rw) a_sp a_g a_sp_first a_sp_many a_sp_corner a_g_rowCuts a_g_columnCuts a_g_bandRows a_g_zoneColumns a_g_rows a_g_sheets sp_cornerCount v3 v4 v5 v6 v7 v8 g_bandRows v9 hm51) 1 rfl rfl (cwV 0 hts gX10_middle_X6_middleLon rfl rfl rfl (by decide +kernel) ⟨Nat.le_of_ble_eq_true rfl, Nat.le_of_ble_eq_true rfl⟩) rfl rfl (Nat.le_of_ble_eq_true rfl) dX10_middle_51 ⟨Nat.zero_le _, Nat.zero_le _⟩ (fun locs hS => ?_)
          obtain ⟨e90, e91, e92, e93, e94, e95, e96⟩ := q_inj7 (Option.some.inj hf)
          rw [hQ, ← e90, ← e91, ← e92, ← e93, ← e94, ← e95, ← e96]
          exact q_iret (pc := 54) hx hb hr hlocks hP hD hS dX10_middle_54
        · refine lv_aload_n (pc := 37) hx hb dX10_middle_37 rfl (lv_at hl 0 rfl) ?_
          refine va_get (pc := 38) (D := D) (ci := 10) (v := .ref a_sp) (C := RX10) (T := TX10) (N := 14) hx hb hts hinX10 hown hK hP 0 rfl rfl 8 (by decide) w_3 (fun _ h9 => h9) rfl dX10_middle_38 ?_
          obtain ⟨v10, hm41, hf⟩ := q_b1_e hf
          refine q_cVr (pc := 41) (As := []) (rest := []) (v0 := (some (.int v10))) ⟨hx, hb, hml, hown, hts⟩ hK hA hZ hP hD hS hl.1 [1, 2, 3] 7 rfl ⟨rfl, rfl, rfl⟩ (c_Spot_middleLat l D ci A sa N (Rw) a_sp a_g a_sp_first a_sp_many a_sp_corner a_g_rowCuts a_g_columnCuts a_g_bandRows a_g_zoneColumns a_g_rows a_g_sheets sp_cornerCount v3 v4 v5 v6 v7 v8 g_bandRows v10 hm41) 1 rfl rfl (cwV 0 hts gX10_middle_X6_middleLat rfl rfl rfl (by decide +kernel) ⟨Nat.le_of_ble_eq_true rfl, Nat.le_of_ble_eq_true rfl⟩) rfl rfl (Nat.le_of_ble_eq_true rfl) dX10_middle_41 ⟨Nat.zero_le _, Nat.zero_le _⟩ (fun locs hS => ?_)
          refine lv_goto (pc := 44) (tgt := 54) hx hb dX10_middle_44 (by decide) ?_
          obtain ⟨e90, e91, e92, e93, e94, e95, e96⟩ := q_inj7 (Option.some.inj hf)
          rw [hQ, ← e90, ← e91, ← e92, ← e93, ← e94, ← e95, ← e96]
          exact q_iret (pc := 54) hx hb hr hlocks hP hD hS dX10_middle_54
      · refine lv_ldc (pc := 21) (v := (-1000000)) hx hb hown w_2 dX10_middle_21 ?_
        obtain ⟨e90, e91, e92, e93, e94, e95, e96⟩ := q_inj7 (Option.some.inj hf)
        rw [hQ, ← e90, ← e91, ← e92, ← e93, ← e94, ← e95, ← e96]
        exact q_iret (pc := 23) hx hb hr hlocks hP hD hS dX10_middle_23
  exact hgo _ _ rfl hP hS
/-! X10_moved -/
set_option maxRecDepth 100000 in
set_option maxHeartbeats 4000000 in
theorem c_X_moved (l : Launch) (D : va_G) (ci : Nat → ClassId) (A : Nat → Prop) (sa : Nat → Nat) (N : Nat) (Rw : va_W) (a_x : Nat) (a_at : Nat) (a_g : Nat) (a_st : Nat) (a_x_kept : Nat) (a_tp : Nat) (a_rd : Nat) (a_qu : Nat) (a_sp : Nat) (a_wk : Nat) (a_bx : Nat) (a_nt : Nat) (a_nu : Nat) (a_x_seen : Nat) (a_g_rowCuts : Nat) (a_g_columnCuts : Nat) (a_g_bandRows : Nat) (a_g_zoneColumns : Nat) (a_g_rows : Nat) (a_g_sheets : Nat) (x_keptStates : Int32) (g_bandRows : Nat → Int32) (g_zoneColumns : Nat → Int32) (g_rows : Nat → Int32) (g_sheets : Nat → Int32) (p1 : Int32) (p2 : Int32) (p3 : Int32) (p4 : Int32) (p5 : Int32) (r : Int32) (hf : f_X_moved g_bandRows g_zoneColumns g_rows g_sheets p1 p2 p3 p4 p5 = some r) : Met l yX10_moved wsX10_moved ({ frames := 3, cells := 0, slots := 0, locals := 73 }) (va_Pc [.ref a_x, .int p1, .int p2, .int p3, .int p4, .int p5] (q_N D ci A sa ((a_x, .inr (10, [.ref a_at, .ref a_g, .ref a_st, .ref a_x_kept, .int x_keptStates, .ref a_tp, .ref a_rd, .ref a_qu, .ref a_sp, .ref a_wk, .ref a_bx, .ref a_nt, .ref a_nu, .ref a_x_seen])) :: (a_g, .inr (2, [.ref a_g_rowCuts, .ref a_g_columnCuts, .ref a_g_bandRows, .ref a_g_zoneColumns, .ref a_g_rows, .ref a_g_sheets])) :: (a_g_bandRows, .inl (ci 0, 5, .inl g_bandRows)) :: (a_g_zoneColumns, .inl (ci 0, 5, .inl g_zoneColumns)) :: (a_g_rows, .inl (ci 0, 5, .inl g_rows)) :: (a_g_sheets, .inl (ci 0, 5, .inl g_sheets)) :: Rw))) (q_R (some (.int r))) 0 0 A := by
  refine q_ofW (cc := cX10_moved) (maxL := 10) (ret := (some .int)) [.ref a_x, .int p1, .int p2, .int p3, .int p4, .int p5] (plainFor_of_name (by decide)) rfl (Nat.le_of_ble_eq_true rfl) ?_
  intro p e s m below meth c ls Q hQ hx hb hml hr hts hown hlocks hK hA hZ hP hD hS hl
  have hl : lv_has ls 10 [(0, .ref a_x), (1, .int p1), (2, .int p2), (3, .int p3), (4, .int p4), (5, .int p5)] := hl
  have hown : s.vm.findClass RX10 = some m.cls := hown
  have hinX10 : ∀ w ∈ wsX100, w ∈ wsX10_moved := fun _ h => List.mem_cons_of_mem _ (inWX100 _ h)
  have w_1 := hts (Cond.constantLong RX10 332 (-324000)) (List.mem_cons_of_mem _ t_w904)
  have w_2 := hts (Cond.constantLong RX10 334 (324000)) (List.mem_cons_of_mem _ t_w905)
  have w_3 := hts (Cond.fieldLink RX10 20 "SheetNames" "grid" "LSheetNames$Grid;") (List.mem_cons_of_mem _ t_w876)
  have w_4 := hts (Cond.constantLong RX10 336 (1296000)) (List.mem_cons_of_mem _ t_w906)
  unfold f_X_moved at hf
  have hgo : ∀ (H : Heap) (locs : List Loc), H = s.heap → va_P D vwCl ((a_x, .inr (10, [.ref a_at, .ref a_g, .ref a_st, .ref a_x_kept, .int x_keptStates, .ref a_tp, .ref a_rd, .ref a_qu, .ref a_sp, .ref a_wk, .ref a_bx, .ref a_nt, .ref a_nu, .ref a_x_seen])) :: (a_g, .inr (2, [.ref a_g_rowCuts, .ref a_g_columnCuts, .ref a_g_bandRows, .ref a_g_zoneColumns, .ref a_g_rows, .ref a_g_sheets])) :: (a_g_bandRows, .inl (ci 0, 5, .inl g_bandRows)) :: (a_g_zoneColumns, .inl (ci 0, 5, .inl g_zoneColumns)) :: (a_g_rows, .inl (ci 0, 5, .inl g_rows)) :: (a_g_sheets, .inl (ci 0, 5, .inl g_sheets)) :: Rw) H → va_S A s.heap H locs → W p l e ({ frames := 3, cells := 0, slots := 0, locals := 73 } : Room) s m ([.ref a_x, .int p1, .int p2, .int p3, .int p4, .int p5] : List Value).toArray below meth c H locs 0 0 Q (F0 m 0 ls []) := by
    intro H locs hH hP hS
    subst hH
    refine lv_iload_n (pc := 0) hx hb dX10_moved_0 rfl (lv_at hl 1 rfl) ?_
    refine lv_iload_n (pc := 1) hx hb dX10_moved_1 rfl (lv_at hl 2 rfl) ?_
    obtain ⟨v1, hm2, hf⟩ := q_b1_e hf
    refine q_cSr (pc := 2) (As := [.int p1, .int p2]) (rest := []) (v0 := (some (.int v1))) ⟨hx, hb, hml, hown, hts⟩ hK hA hZ hP hD hS hl.1 [] 6 rfl ⟨rfl, rfl, rfl⟩ (c_X_isPlace l D ci A sa N (Rw) p1 p2 v1 hm2) (va_cwS 2 hts gX10_moved_X10_isPlace rfl rfl rfl (by decide +kernel) ⟨Nat.le_of_ble_eq_true rfl, Nat.le_of_ble_eq_true rfl⟩) rfl rfl (Nat.le_of_ble_eq_true rfl) dX10_moved_2 ⟨Nat.zero_le _, Nat.zero_le _⟩ (fun locs hS => ?_)
    refine q_if_eq (pc := 5) (tgt := 16) hx hb dX10_moved_5 (by decide) rfl hf (fun hf => ?_) (fun hf => ?_)
    · refine lv_iconst (pc := 16) (v := (-1)) hx hb dX10_moved_16 (by decide) ?_
      obtain rfl := Option.some.inj hf
      rw [hQ]
      exact q_iretr (pc := 17) hx hb hr hlocks rfl hS dX10_moved_17
    · refine lv_iload (pc := 8) hx hb dX10_moved_8 (lv_at hl 5 rfl) ?_
      obtain ⟨v2, hm10, hf⟩ := q_b1_e hf
      refine q_cSr (pc := 10) (As := [.int p5]) (rest := []) (v0 := (some (.int v2))) ⟨hx, hb, hml, hown, hts⟩ hK hA hZ hP hD hS hl.1 [] 6 rfl ⟨rfl, rfl, rfl⟩ (c_X_isLevel l D ci A sa N (Rw) p5 v2 hm10) (va_cwS 1 hts gX10_moved_X10_isLevel rfl rfl rfl (by decide +kernel) ⟨Nat.le_of_ble_eq_true rfl, Nat.le_of_ble_eq_true rfl⟩) rfl rfl (Nat.le_of_ble_eq_true rfl) dX10_moved_10 ⟨Nat.zero_le _, Nat.zero_le _⟩ (fun locs hS => ?_)
      refine q_if_ne (pc := 13) (tgt := 18) hx hb dX10_moved_13 (by decide) rfl hf (fun hf => ?_) (fun hf => ?_)
      · refine lv_iload_n (pc := 18) hx hb dX10_moved_18 rfl (lv_at hl 1 rfl) ?_
        refine lv_i2l (pc := 19) hx hb dX10_moved_19 rfl ?_
        refine lv_iload_n (pc := 20) hx hb dX10_moved_20 rfl (lv_at hl 3 rfl) ?_
        refine lv_i2l (pc := 21) hx hb dX10_moved_21 rfl ?_
        refine lv_ladd (pc := 22) hx hb dX10_moved_22 ?_
        obtain ⟨v3, ev3, hf⟩ := q_nm_e hf
        refine q_topl ev3 ?_
        refine lv_lstore (pc := 23) (lv' := [(6, .long v3), (0, .ref a_x), (1, .int p1), (2, .int p2), (3, .int p3), (4, .int p4), (5, .int p5)]) hx hb dX10_moved_23 hl (by decide) rfl (fun ls hl => ?_)
        refine lv_iload_n (pc := 25) hx hb dX10_moved_25 rfl (lv_at hl 3 rfl) ?_
        refine lv_i2l (pc := 26) hx hb dX10_moved_26 rfl ?_
        refine lv_iload (pc := 27) hx hb dX10_moved_27 (lv_at hl 5 rfl) ?_
        refine lv_i2l (pc := 29) hx hb dX10_moved_29 rfl ?_
        refine lv_ladd (pc := 30) hx hb dX10_moved_30 ?_
        obtain ⟨v4, ev4, hf⟩ := q_nm_e hf
        refine q_topl ev4 ?_
        refine lv_lstore (pc := 31) (lv' := [(8, .long v4), (6, .long v3), (0, .ref a_x), (1, .int p1), (2, .int p2), (3, .int p3), (4, .int p4), (5, .int p5)]) hx hb dX10_moved_31 hl (by decide) rfl (fun ls hl => ?_)
        refine lv_lload (pc := 33) hx hb dX10_moved_33 (lv_at hl 1 rfl) ?_
        obtain ⟨v5, hm35, hf⟩ := q_b1_e hf
        refine q_cSr (pc := 35) (As := [.long v3]) (rest := []) (v0 := (some (.int v5))) ⟨hx, hb, hml, hown, hts⟩ hK hA hZ hP hD hS hl.1 [] 6 rfl ⟨rfl, rfl, rfl⟩ (c_X_isInt l D ci A sa N (Rw) v3 v5 hm35) (va_cwS 1 hts gX10_moved_X10_isInt rfl rfl rfl (by decide +kernel) ⟨Nat.le_of_ble_eq_true rfl, Nat.le_of_ble_eq_true rfl⟩) rfl rfl (Nat.le_of_ble_eq_true rfl) dX10_moved_35 ⟨Nat.zero_le _, Nat.zero_le _⟩ (fun locs hS => ?_)
        refine q_if_eq (pc := 38) (tgt := 49) hx hb dX10_moved_38 (by decide) rfl hf (fun hf => ?_) (fun hf => ?_)
        · refine lv_bipush (pc := 49) (v := (-2)) hx hb dX10_moved_49 (by decide) ?_
          obtain rfl := Option.some.inj hf
          rw [hQ]
          exact q_iretr (pc := 51) hx hb hr hlocks rfl hS dX10_moved_51
        · refine lv_lload (pc := 41) hx hb dX10_moved_41 (lv_at hl 0 rfl) ?_
          obtain ⟨v6, hm43, hf⟩ := q_b1_e hf
          refine q_cSr (pc := 43) (As := [.long v4]) (rest := []) (v0 := (some (.int v6))) ⟨hx, hb, hml, hown, hts⟩ hK hA hZ hP hD hS hl.1 [] 6 rfl ⟨rfl, rfl, rfl⟩ (c_X_isInt l D ci A sa N (Rw) v4 v6 hm43) (va_cwS 1 hts gX10_moved_X10_isInt rfl rfl rfl (by decide +kernel) ⟨Nat.le_of_ble_eq_true rfl, Nat.le_of_ble_eq_true rfl⟩) rfl rfl (Nat.le_of_ble_eq_true rfl) dX10_moved_43 ⟨Nat.zero_le _, Nat.zero_le _⟩ (fun locs hS => ?_)
          refine q_if_ne (pc := 46) (tgt := 52) hx hb dX10_moved_46 (by decide) rfl hf (fun hf => ?_) (fun hf => ?_)
          · refine lv_lload (pc := 52) hx hb dX10_moved_52 (lv_at hl 1 rfl) ?_
            refine lv_ldc2 (pc := 54) (v := (-324000)) hx hb hown w_1 dX10_moved_54 ?_
            refine W.lcmp (pc := 57) hx hb dX10_moved_57 ?_
            refine q_if_lt (pc := 58) (tgt := 70) hx hb dX10_moved_58 (by decide) rfl hf (fun hf => ?_) (fun hf => ?_)
            · refine lv_bipush (pc := 70) (v := (-3)) hx hb dX10_moved_70 (by decide) ?_
              obtain rfl := Option.some.inj hf
              rw [hQ]
              exact q_iretr (pc := 72) hx hb hr hlocks rfl hS dX10_moved_72
            · refine lv_lload (pc := 61) hx hb dX10_moved_61 (lv_at hl 1 rfl) ?_
              refine lv_ldc2 (pc := 63) (v := 324000) hx hb hown w_2 dX10_moved_63 ?_
              refine W.lcmp (pc := 66) hx hb dX10_moved_66 ?_
              refine q_if_le (pc := 67) (tgt := 73) hx hb dX10_moved_67 (by decide) rfl hf (fun hf => ?_) (fun hf => ?_)
              · refine lv_aload_n (pc := 73) hx hb dX10_moved_73 rfl (lv_at hl 2 rfl) ?_
                refine va_get (pc := 74) (D := D) (ci := 10) (v := .ref a_g) (C := RX10) (T := TX10) (N := 14) hx hb hts hinX10 hown hK hP 0 rfl rfl 1 (by decide) w_3 (fun _ h9 => h9) rfl dX10_moved_74 ?_
                refine lv_iload (pc := 77) hx hb dX10_moved_77 (lv_at hl 7 rfl) ?_
                refine lv_lload (pc := 79) hx hb dX10_moved_79 (lv_at hl 1 rfl) ?_
                refine lv_l2i (pc := 81) hx hb dX10_moved_81 rfl ?_
                refine lv_lload (pc := 82) hx hb dX10_moved_82 (lv_at hl 0 rfl) ?_
                refine lv_ldc2 (pc := 84) (v := 1296000) hx hb hown w_4 dX10_moved_84 ?_
                obtain ⟨v7, hm87, hf⟩ := q_b1_e hf
                refine q_cSr (pc := 87) (As := [.long v4, .long 1296000]) (rest := [.int v3.toInt32, .int p5, .ref a_g]) (v0 := (some (.long v7))) ⟨hx, hb, hml, hown, hts⟩ hK hA hZ hP hD hS hl.1 [] 6 rfl ⟨rfl, rfl, rfl⟩ (c_JMath_floorMod_f86c9 l D ci A sa N (Rw) v4 1296000 v7 hm87) (va_cwS 2 hts gX10_moved_J9_floorMod_f86c9 rfl rfl rfl (by decide +kernel) ⟨Nat.le_of_ble_eq_true rfl, Nat.le_of_ble_eq_true rfl⟩) rfl rfl (Nat.le_of_ble_eq_true rfl) dX10_moved_87 ⟨Nat.zero_le _, Nat.zero_le _⟩ (fun locs hS => ?_)
                refine lv_l2i (pc := 90) hx hb dX10_moved_90 rfl ?_
                obtain ⟨v8, hm91, hf⟩ := q_b1_e hf
                refine q_cVr (pc := 91) (As := [.int p5, .int v3.toInt32, .int v7.toInt32]) (rest := []) (v0 := (some (.int v8))) ⟨hx, hb, hml, hown, hts⟩ hK hA hZ hP hD hS hl.1 [1, 2, 3, 4, 5] 6 rfl ⟨rfl, rfl, rfl⟩ (c_Grid_keyOf l D ci A sa N (Rw) a_g a_g_rowCuts a_g_columnCuts a_g_bandRows a_g_zoneColumns a_g_rows a_g_sheets g_bandRows g_zoneColumns g_rows g_sheets p5 v3.toInt32 v7.toInt32 v8 hm91) 1 rfl rfl (cwV 3 hts gX10_moved_X2_keyOf rfl rfl rfl (by decide +kernel) ⟨Nat.le_of_ble_eq_true rfl, Nat.le_of_ble_eq_true rfl⟩) rfl rfl (Nat.le_of_ble_eq_true rfl) dX10_moved_91 ⟨Nat.zero_le _, Nat.zero_le _⟩ (fun locs hS => ?_)
                obtain rfl := Option.some.inj hf
                rw [hQ]
                exact q_iretr (pc := 94) hx hb hr hlocks rfl hS dX10_moved_94
              · refine lv_bipush (pc := 70) (v := (-3)) hx hb dX10_moved_70 (by decide) ?_
                obtain rfl := Option.some.inj hf
                rw [hQ]
                exact q_iretr (pc := 72) hx hb hr hlocks rfl hS dX10_moved_72
          · refine lv_bipush (pc := 49) (v := (-2)) hx hb dX10_moved_49 (by decide) ?_
            obtain rfl := Option.some.inj hf
            rw [hQ]
            exact q_iretr (pc := 51) hx hb hr hlocks rfl hS dX10_moved_51
      · refine lv_iconst (pc := 16) (v := (-1)) hx hb dX10_moved_16 (by decide) ?_
        obtain rfl := Option.some.inj hf
        rw [hQ]
        exact q_iretr (pc := 17) hx hb hr hlocks rfl hS dX10_moved_17
  exact hgo _ _ rfl hP hS
/-! X10_name -/
set_option maxRecDepth 100000 in
set_option maxHeartbeats 4000000 in
theorem c_X_name (l : Launch) (D : va_G) (ci : Nat → ClassId) (A : Nat → Prop) (sa : Nat → Nat) (N : Nat) (Rw : va_W) (a_x : Nat) (a_at : Nat) (a_g : Nat) (a_st : Nat) (a_x_kept : Nat) (a_tp : Nat) (a_rd : Nat) (a_qu : Nat) (a_sp : Nat) (a_wk : Nat) (a_bx : Nat) (a_nt : Nat) (a_nu : Nat) (a_x_seen : Nat) (a_sp_first : Nat) (a_sp_many : Nat) (a_sp_corner : Nat) (a_nt_bytes : Nat) (a_g_rowCuts : Nat) (a_g_columnCuts : Nat) (a_g_bandRows : Nat) (a_g_zoneColumns : Nat) (a_g_rows : Nat) (a_g_sheets : Nat) (x_keptStates : Int32) (sp_cornerCount : Int32) (sp_level : Int32) (sp_row : Int32) (sp_start : Int32) (sp_place : Int32) (sp_length : Int32) (sp_cap : Int32) (nt_length : Int32) (nt_bytes : Nat → Int32) (g_rowCuts : Nat → Int32) (g_columnCuts : Nat → Int32) (g_bandRows : Nat → Int32) (g_zoneColumns : Nat → Int32) (g_rows : Nat → Int32) (g_sheets : Nat → Int32) (p1 : Int32) (p2 : Int32) (p3 : Int32) (r : Int32) (o1 : Int32) (o2 : Int32) (o3 : Int32) (o4 : Int32) (o5 : Int32) (o6 : Int32) (o7 : Nat → Int32) (o8 : Int32) (hf : f_X_name N sp_level sp_row sp_start sp_place sp_length sp_cap nt_bytes nt_length g_rowCuts g_columnCuts g_bandRows g_zoneColumns g_rows g_sheets p1 p2 p3 = some (r, o1, o2, o3, o4, o5, o6, o7, o8)) : Met l yX10_name wsX10_name ({ frames := 3, cells := 0, slots := 0, locals := 71 }) (va_Pc [.ref a_x, .int p1, .int p2, .int p3] (q_N D ci A sa ((a_x, .inr (10, [.ref a_at, .ref a_g, .ref a_st, .ref a_x_kept, .int x_keptStates, .ref a_tp, .ref a_rd, .ref a_qu, .ref a_sp, .ref a_wk, .ref a_bx, .ref a_nt, .ref a_nu, .ref a_x_seen])) :: (a_sp, .inr (6, [.ref a_g, .ref a_sp_first, .ref a_sp_many, .ref a_sp_corner, .int sp_cornerCount, .int sp_level, .int sp_row, .int sp_start, .int sp_place, .int sp_length, .int sp_cap])) :: (a_nt, .inr (4, [.ref a_nt_bytes, .int nt_length])) :: (a_nt_bytes, .inl (ci 0, 40, .inl nt_bytes)) :: (a_g, .inr (2, [.ref a_g_rowCuts, .ref a_g_columnCuts, .ref a_g_bandRows, .ref a_g_zoneColumns, .ref a_g_rows, .ref a_g_sheets])) :: (a_g_rowCuts, .inl (ci 0, 5, .inl g_rowCuts)) :: (a_g_columnCuts, .inl (ci 0, 5, .inl g_columnCuts)) :: (a_g_bandRows, .inl (ci 0, 5, .inl g_bandRows)) :: (a_g_zoneColumns, .inl (ci 0, 5, .inl g_zoneColumns)) :: (a_g_rows, .inl (ci 0, 5, .inl g_rows)) :: (a_g_sheets, .inl (ci 0, 5, .inl g_sheets)) :: Rw))) (q_Q (some (.int r)) (q_O D A ((a_x, .inr (10, [.ref a_at, .ref a_g, .ref a_st, .ref a_x_kept, .int x_keptStates, .ref a_tp, .ref a_rd, .ref a_qu, .ref a_sp, .ref a_wk, .ref a_bx, .ref a_nt, .ref a_nu, .ref a_x_seen])) :: (a_sp, .inr (6, [.ref a_g, .ref a_sp_first, .ref a_sp_many, .ref a_sp_corner, .int sp_cornerCount, .int o1, .int o2, .int o3, .int o4, .int o5, .int o6])) :: (a_nt, .inr (4, [.ref a_nt_bytes, .int o8])) :: (a_nt_bytes, .inl (ci 0, 40, .inl o7)) :: (a_g, .inr (2, [.ref a_g_rowCuts, .ref a_g_columnCuts, .ref a_g_bandRows, .ref a_g_zoneColumns, .ref a_g_rows, .ref a_g_sheets])) :: (a_g_rowCuts, .inl (ci 0, 5, .inl g_rowCuts)) :: (a_g_columnCuts, .inl (ci 0, 5, .inl g_columnCuts)) :: (a_g_bandRows, .inl (ci 0, 5, .inl g_bandRows)) :: (a_g_zoneColumns, .inl (ci 0, 5, .inl g_zoneColumns)) :: (a_g_rows, .inl (ci 0, 5, .inl g_rows)) :: (a_g_sheets, .inl (ci 0, 5, .inl g_sheets)) :: Rw)) A) 0 0 A := by
  refine q_ofW (cc := cX10_name) (maxL := 4) (ret := (some .int)) [.ref a_x, .int p1, .int p2, .int p3] (plainFor_of_name (by decide)) rfl (Nat.le_of_ble_eq_true rfl) ?_
  intro p e s m below meth c ls Q hQ hx hb hml hr hts hown hlocks hK hA hZ hP hD hS hl
  have hl : lv_has ls 4 [(0, .ref a_x), (1, .int p1), (2, .int p2), (3, .int p3)] := hl
  have hown : s.vm.findClass RX10 = some m.cls := hown
  have hinX10 : ∀ w ∈ wsX100, w ∈ wsX10_name := fun _ h => List.mem_cons_of_mem _ (inWX100 _ h)
  have hinX4 : ∀ w ∈ wsX40, w ∈ wsX10_name := fun _ h => List.mem_cons_of_mem _ (inWX40 _ h)
  have w_1 := hts (Cond.fieldLink RX10 20 "SheetNames" "grid" "LSheetNames$Grid;") (List.mem_cons_of_mem _ t_w876)
  have w_2 := hts (Cond.fieldLink RX10 66 "SheetNames" "spot" "LSheetNames$Spot;") (List.mem_cons_of_mem _ t_w877)
  have w_3 := hts (Cond.fieldLink RX10 87 "SheetNames" "text" "LSheetNames$NameText;") (List.mem_cons_of_mem _ t_w887)
  have wn_8 : (Cond.fieldLinkNest "SheetNames" 167 "SheetNames$NameText" "length" "I" "SheetNames").before ([.ref a_x, .int p1, .int p2, .int p3] : List Value).toArray s = true := (hZ.2.2.2.2.2.2.2.2.2.1 _ (List.mem_of_getElem? (i := 8) rfl)).use rfl
  have wn_9 : (Cond.fieldLinkNest "SheetNames" 168 "SheetNames$NameText" "bytes" "[I" "SheetNames").before ([.ref a_x, .int p1, .int p2, .int p3] : List Value).toArray s = true := (hZ.2.2.2.2.2.2.2.2.2.1 _ (List.mem_of_getElem? (i := 9) rfl)).use rfl
  unfold f_X_name at hf
  have hgo : ∀ (H : Heap) (locs : List Loc), H = s.heap → va_P D vwCl ((a_x, .inr (10, [.ref a_at, .ref a_g, .ref a_st, .ref a_x_kept, .int x_keptStates, .ref a_tp, .ref a_rd, .ref a_qu, .ref a_sp, .ref a_wk, .ref a_bx, .ref a_nt, .ref a_nu, .ref a_x_seen])) :: (a_sp, .inr (6, [.ref a_g, .ref a_sp_first, .ref a_sp_many, .ref a_sp_corner, .int sp_cornerCount, .int sp_level, .int sp_row, .int sp_start, .int sp_place, .int sp_length, .int sp_cap])) :: (a_nt, .inr (4, [.ref a_nt_bytes, .int nt_length])) :: (a_nt_bytes, .inl (ci 0, 40, .inl nt_bytes)) :: (a_g, .inr (2, [.ref a_g_rowCuts, .ref a_g_columnCuts, .ref a_g_bandRows, .ref a_g_zoneColumns, .ref a_g_rows, .ref a_g_sheets])) :: (a_g_rowCuts, .inl (ci 0, 5, .inl g_rowCuts)) :: (a_g_columnCuts, .inl (ci 0, 5, .inl g_columnCuts)) :: (a_g_bandRows, .inl (ci 0, 5, .inl g_bandRows)) :: (a_g_zoneColumns, .inl (ci 0, 5, .inl g_zoneColumns)) :: (a_g_rows, .inl (ci 0, 5, .inl g_rows)) :: (a_g_sheets, .inl (ci 0, 5, .inl g_sheets)) :: Rw) H → va_S A s.heap H locs → W p l e ({ frames := 3, cells := 0, slots := 0, locals := 71 } : Room) s m ([.ref a_x, .int p1, .int p2, .int p3] : List Value).toArray below meth c H locs 0 0 Q (F0 m 0 ls []) := by
    intro H locs hH hP hS
    refine lv_aload_n (pc := 0) hx hb dX10_name_0 rfl (lv_at hl 0 rfl) ?_
    refine va_get (pc := 1) (D := D) (ci := 10) (v := .ref a_g) (C := RX10) (T := TX10) (N := 14) hx hb hts hinX10 hown hK hP 0 rfl rfl 1 (by decide) w_1 (fun _ h9 => h9) rfl dX10_name_1 ?_
    refine lv_iload_n (pc := 4) hx hb dX10_name_4 rfl (lv_at hl 1 rfl) ?_
    refine lv_iload_n (pc := 5) hx hb dX10_name_5 rfl (lv_at hl 2 rfl) ?_
    obtain ⟨v1, hm6, hf⟩ := q_b1_e hf
    refine q_cVr (pc := 6) (As := [.int p1, .int p2]) (rest := []) (v0 := (some (.int v1))) ⟨hx, hb, hml, hown, hts⟩ hK hA hZ hP hD hS hl.1 [4, 10] 11 rfl ⟨rfl, rfl, rfl⟩ (c_Grid_hasSheet l D ci A sa N (Rw) a_g a_g_rowCuts a_g_columnCuts a_g_bandRows a_g_zoneColumns a_g_rows a_g_sheets g_sheets p1 p2 v1 hm6) 4 rfl rfl (cwV 2 hts gX10_name_X2_hasSheet rfl rfl rfl (by decide +kernel) ⟨Nat.le_of_ble_eq_true rfl, Nat.le_of_ble_eq_true rfl⟩) rfl rfl (Nat.le_of_ble_eq_true rfl) dX10_name_6 ⟨Nat.zero_le _, Nat.zero_le _⟩ (fun locs hS => ?_)
    refine q_if_eq (pc := 9) (tgt := 17) hx hb dX10_name_9 (by decide) rfl hf (fun hf => ?_) (fun hf => ?_)
    · refine lv_iconst (pc := 17) (v := (-1)) hx hb dX10_name_17 (by decide) ?_
      obtain ⟨e90, e91, e92, e93, e94, e95, e96, e97, e98⟩ := q_inj9 (Option.some.inj hf)
      rw [hQ, ← e90, ← e91, ← e92, ← e93, ← e94, ← e95, ← e96, ← e97, ← e98]
      exact q_iret (pc := 18) hx hb hr hlocks hP hD hS dX10_name_18
    · refine lv_iload_n (pc := 12) hx hb dX10_name_12 rfl (lv_at hl 3 rfl) ?_
      refine lv_iconst (pc := 13) (v := (-1)) hx hb dX10_name_13 (by decide) ?_
      refine q_icmp_ge (pc := 14) (tgt := 19) hx hb dX10_name_14 (by decide) rfl hf (fun hf => ?_) (fun hf => ?_)
      · refine lv_aload_n (pc := 19) hx hb dX10_name_19 rfl (lv_at hl 0 rfl) ?_
        refine va_get (pc := 20) (D := D) (ci := 10) (v := .ref a_sp) (C := RX10) (T := TX10) (N := 14) hx hb hts hinX10 hown hK hP 0 rfl rfl 8 (by decide) w_2 (fun _ h9 => h9) rfl dX10_name_20 ?_
        refine lv_iload_n (pc := 23) hx hb dX10_name_23 rfl (lv_at hl 1 rfl) ?_
        refine lv_iload_n (pc := 24) hx hb dX10_name_24 rfl (lv_at hl 2 rfl) ?_
        obtain ⟨v2, v3, v4, v5, v6, v7, hm25, hf⟩ := q_b6_e hf
        refine q_cV (pc := 25) (As := [.int p1, .int p2]) (rest := []) (v0 := none) ⟨hx, hb, hml, hown, hts⟩ hK hA hZ hP hD hS hl.1 [1, 4, 7, 8, 9, 10, 0, 2, 3, 5, 6] 11 rfl ⟨rfl, rfl, rfl⟩ (c_Spot_put l D ci A sa N ((a_x, .inr (10, [.ref a_at, .ref a_g, .ref a_st, .ref a_x_kept, .int x_keptStates, .ref a_tp, .ref a_rd, .ref a_qu, .ref a_sp, .ref a_wk, .ref a_bx, .ref a_nt, .ref a_nu, .ref a_x_seen])) :: (a_nt, .inr (4, [.ref a_nt_bytes, .int nt_length])) :: (a_nt_bytes, .inl (ci 0, 40, .inl nt_bytes)) :: (a_g_rowCuts, .inl (ci 0, 5, .inl g_rowCuts)) :: (a_g_columnCuts, .inl (ci 0, 5, .inl g_columnCuts)) :: Rw) a_sp a_g a_sp_first a_sp_many a_sp_corner a_g_rowCuts a_g_columnCuts a_g_bandRows a_g_zoneColumns a_g_rows a_g_sheets sp_cornerCount sp_level sp_row sp_start sp_place sp_length sp_cap g_bandRows g_zoneColumns g_rows g_sheets p1 p2 v2 v3 v4 v5 v6 v7 hm25) 1 rfl rfl (cwV 2 hts gX10_name_X6_put rfl rfl rfl (by decide +kernel) ⟨Nat.le_of_ble_eq_true rfl, Nat.le_of_ble_eq_true rfl⟩) rfl rfl (Nat.le_of_ble_eq_true rfl) dX10_name_25 ⟨Nat.zero_le _, Nat.zero_le _⟩ [6, 0, 7, 8, 1, 9, 10, 2, 3, 4, 5] 11 rfl ⟨rfl, rfl, rfl⟩ (fun H locs hP hD hS => ?_)
        obtain ⟨hP, hD⟩ : va_PD D A ((a_x, .inr (10, [.ref a_at, .ref a_g, .ref a_st, .ref a_x_kept, .int x_keptStates, .ref a_tp, .ref a_rd, .ref a_qu, .ref a_sp, .ref a_wk, .ref a_bx, .ref a_nt, .ref a_nu, .ref a_x_seen])) :: (a_sp, .inr (6, [.ref a_g, .ref a_sp_first, .ref a_sp_many, .ref a_sp_corner, .int sp_cornerCount, .int v2, .int v3, .int v4, .int v5, .int v6, .int v7])) :: (a_nt, .inr (4, [.ref a_nt_bytes, .int nt_length])) :: (a_nt_bytes, .inl (ci 0, 40, .inl nt_bytes)) :: (a_g, .inr (2, [.ref a_g_rowCuts, .ref a_g_columnCuts, .ref a_g_bandRows, .ref a_g_zoneColumns, .ref a_g_rows, .ref a_g_sheets])) :: (a_g_rowCuts, .inl (ci 0, 5, .inl g_rowCuts)) :: (a_g_columnCuts, .inl (ci 0, 5, .inl g_columnCuts)) :: (a_g_bandRows, .inl (ci 0, 5, .inl g_bandRows)) :: (a_g_zoneColumns, .inl (ci 0, 5, .inl g_zoneColumns)) :: (a_g_rows, .inl (ci 0, 5, .inl g_rows)) :: (a_g_sheets, .inl (ci 0, 5, .inl g_sheets)) :: Rw) H := ⟨hP, hD⟩
        refine lv_aload_n (pc := 28) hx hb dX10_name_28 rfl (lv_at hl 0 rfl) ?_
        refine va_get (pc := 29) (D := D) (ci := 10) (v := .ref a_nt) (C := RX10) (T := TX10) (N := 14) hx hb hts hinX10 hown hK hP 0 rfl rfl 11 (by decide) w_3 (fun _ h9 => h9) rfl dX10_name_29 ?_
        refine lv_aload_n (pc := 32) hx hb dX10_name_32 rfl (lv_at hl 0 rfl) ?_
        refine va_get (pc := 33) (D := D) (ci := 10) (v := .ref a_sp) (C := RX10) (T := TX10) (N := 14) hx hb hts hinX10 hown hK hP 0 rfl rfl 8 (by decide) w_2 (fun _ h9 => h9) rfl dX10_name_33 ?_
        obtain ⟨f8, v9, hm36, hf⟩ := q_b2_e hf
        refine q_cV (pc := 36) (As := [.ref a_sp]) (rest := []) (v0 := none) ⟨hx, hb, hml, hown, hts⟩ hK hA hZ hP hD hS hl.1 [1, 2, 3, 4, 5, 6, 7, 8, 0, 9, 10] 11 rfl ⟨rfl, rfl, rfl⟩ (c_NameText_write l D ci A sa N ((a_x, .inr (10, [.ref a_at, .ref a_g, .ref a_st, .ref a_x_kept, .int x_keptStates, .ref a_tp, .ref a_rd, .ref a_qu, .ref a_sp, .ref a_wk, .ref a_bx, .ref a_nt, .ref a_nu, .ref a_x_seen])) :: (a_g_rows, .inl (ci 0, 5, .inl g_rows)) :: (a_g_sheets, .inl (ci 0, 5, .inl g_sheets)) :: Rw) a_sp a_g a_sp_first a_sp_many a_sp_corner a_nt a_nt_bytes a_g_rowCuts a_g_columnCuts a_g_bandRows a_g_zoneColumns a_g_rows a_g_sheets sp_cornerCount v2 v3 v4 v5 v6 v7 nt_length nt_bytes g_rowCuts g_columnCuts g_bandRows g_zoneColumns f8 v9 hm36) 2 rfl rfl (cwV 1 hts gX10_name_X4_write rfl rfl rfl (by decide +kernel) ⟨Nat.le_of_ble_eq_true rfl, Nat.le_of_ble_eq_true rfl⟩) rfl rfl (Nat.le_of_ble_eq_true rfl) dX10_name_36 ⟨Nat.zero_le _, Nat.zero_le _⟩ [8, 0, 1, 2, 3, 4, 5, 6, 7, 9, 10] 11 rfl ⟨rfl, rfl, rfl⟩ (fun H locs hP hD hS => ?_)
        obtain ⟨hP, hD⟩ : va_PD D A ((a_x, .inr (10, [.ref a_at, .ref a_g, .ref a_st, .ref a_x_kept, .int x_keptStates, .ref a_tp, .ref a_rd, .ref a_qu, .ref a_sp, .ref a_wk, .ref a_bx, .ref a_nt, .ref a_nu, .ref a_x_seen])) :: (a_sp, .inr (6, [.ref a_g, .ref a_sp_first, .ref a_sp_many, .ref a_sp_corner, .int sp_cornerCount, .int v2, .int v3, .int v4, .int v5, .int v6, .int v7])) :: (a_nt, .inr (4, [.ref a_nt_bytes, .int v9])) :: (a_nt_bytes, .inl (ci 0, 40, .inl f8)) :: (a_g, .inr (2, [.ref a_g_rowCuts, .ref a_g_columnCuts, .ref a_g_bandRows, .ref a_g_zoneColumns, .ref a_g_rows, .ref a_g_sheets])) :: (a_g_rowCuts, .inl (ci 0, 5, .inl g_rowCuts)) :: (a_g_columnCuts, .inl (ci 0, 5, .inl g_columnCuts)) :: (a_g_bandRows, .inl (ci 0, 5, .inl g_bandRows)) :: (a_g_zoneColumns, .inl (ci 0, 5, .inl g_zoneColumns)) :: (a_g_rows, .inl (ci 0, 5, .inl g_rows)) :: (a_g_sheets, .inl (ci 0, 5, .inl g_sheets)) :: Rw) H := ⟨hP, hD⟩
        refine lv_iload_n (pc := 39) hx hb dX10_name_39 rfl (lv_at hl 3 rfl) ?_
        refine lv_iconst (pc := 40) (v := (-1)) hx hb dX10_name_40 (by decide) ?_
        refine q_icmp_ne (pc := 41) (tgt := 52) hx hb dX10_name_41 (by decide) rfl hf (fun hf => ?_) (fun hf => ?_)
        · refine lv_iload_n (pc := 52) hx hb dX10_name_52 rfl (lv_at hl 3 rfl) ?_
          refine lv_aload_n (pc := 53) hx hb dX10_name_53 rfl (lv_at hl 0 rfl) ?_
          refine va_get (pc := 54) (D := D) (ci := 10) (v := .ref a_nt) (C := RX10) (T := TX10) (N := 14) hx hb hts hinX10 hown hK hP 0 rfl rfl 11 (by decide) w_3 (fun _ h9 => h9) rfl dX10_name_54 ?_
          refine va_getN (pc := 57) (D := D) (ci := 4) (v := .int v9) (C := RX4) (T := TX4) (N := 2) hx hb hts hinX4 hown hK hP 2 rfl rfl 1 (by decide) wn_8 (fun _ h9 => h9) rfl dX10_name_57 ?_
          refine q_icmp_ge (pc := 60) (tgt := 75) hx hb dX10_name_60 (by decide) rfl hf (fun hf => ?_) (fun hf => ?_)
          · refine lv_bipush (pc := 75) (v := (-2)) hx hb dX10_name_75 (by decide) ?_
            obtain ⟨e90, e91, e92, e93, e94, e95, e96, e97, e98⟩ := q_inj9 (Option.some.inj hf)
            rw [hQ, ← e90, ← e91, ← e92, ← e93, ← e94, ← e95, ← e96, ← e97, ← e98]
            exact q_iret (pc := 77) hx hb hr hlocks hP hD hS dX10_name_77
          · refine lv_aload_n (pc := 63) hx hb dX10_name_63 rfl (lv_at hl 0 rfl) ?_
            refine va_get (pc := 64) (D := D) (ci := 10) (v := .ref a_nt) (C := RX10) (T := TX10) (N := 14) hx hb hts hinX10 hown hK hP 0 rfl rfl 11 (by decide) w_3 (fun _ h9 => h9) rfl dX10_name_64 ?_
            refine va_getN (pc := 67) (D := D) (ci := 4) (v := .ref a_nt_bytes) (C := RX4) (T := TX4) (N := 2) hx hb hts hinX4 hown hK hP 2 rfl rfl 0 (by decide) wn_9 (fun _ h9 => h9) rfl dX10_name_67 ?_
            refine lv_iload_n (pc := 70) hx hb dX10_name_70 rfl (lv_at hl 3 rfl) ?_
            refine q_iald (pc := 71) hx hb hK hP 3 0 hf rfl rfl dX10_name_71 (fun v10 hf => ?_)
            refine lv_goto (pc := 72) (tgt := 77) hx hb dX10_name_72 (by decide) ?_
            obtain ⟨e90, e91, e92, e93, e94, e95, e96, e97, e98⟩ := q_inj9 (Option.some.inj hf)
            rw [hQ, ← e90, ← e91, ← e92, ← e93, ← e94, ← e95, ← e96, ← e97, ← e98]
            exact q_iret (pc := 77) hx hb hr hlocks hP hD hS dX10_name_77
        · refine lv_aload_n (pc := 44) hx hb dX10_name_44 rfl (lv_at hl 0 rfl) ?_
          refine va_get (pc := 45) (D := D) (ci := 10) (v := .ref a_nt) (C := RX10) (T := TX10) (N := 14) hx hb hts hinX10 hown hK hP 0 rfl rfl 11 (by decide) w_3 (fun _ h9 => h9) rfl dX10_name_45 ?_
          refine va_getN (pc := 48) (D := D) (ci := 4) (v := .int v9) (C := RX4) (T := TX4) (N := 2) hx hb hts hinX4 hown hK hP 2 rfl rfl 1 (by decide) wn_8 (fun _ h9 => h9) rfl dX10_name_48 ?_
          obtain ⟨e90, e91, e92, e93, e94, e95, e96, e97, e98⟩ := q_inj9 (Option.some.inj hf)
          rw [hQ, ← e90, ← e91, ← e92, ← e93, ← e94, ← e95, ← e96, ← e97, ← e98]
          exact q_iret (pc := 51) hx hb hr hlocks hP hD hS dX10_name_51
      · refine lv_iconst (pc := 17) (v := (-1)) hx hb dX10_name_17 (by decide) ?_
        obtain ⟨e90, e91, e92, e93, e94, e95, e96, e97, e98⟩ := q_inj9 (Option.some.inj hf)
        rw [hQ, ← e90, ← e91, ← e92, ← e93, ← e94, ← e95, ← e96, ← e97, ← e98]
        exact q_iret (pc := 18) hx hb hr hlocks hP hD hS dX10_name_18
  exact hgo _ _ rfl hP hS
/-! X10_named -/
set_option maxRecDepth 100000 in
set_option maxHeartbeats 4000000 in
theorem c_X_named (l : Launch) (D : va_G) (ci : Nat → ClassId) (A : Nat → Prop) (sa : Nat → Nat) (N : Nat) (Rw : va_W) (a_x : Nat) (a_at : Nat) (a_g : Nat) (a_st : Nat) (a_x_kept : Nat) (a_tp : Nat) (a_rd : Nat) (a_qu : Nat) (a_sp : Nat) (a_wk : Nat) (a_bx : Nat) (a_nt : Nat) (a_nu : Nat) (a_x_seen : Nat) (a_tp_bytes : Nat) (a_g_rowCuts : Nat) (a_g_columnCuts : Nat) (a_g_bandRows : Nat) (a_g_zoneColumns : Nat) (a_g_rows : Nat) (a_g_sheets : Nat) (x_keptStates : Int32) (rd_next : Int32) (rd_end : Int32) (rd_level : Int32) (rd_key : Int32) (rd_fault : Int32) (rd_faultPlace : Int32) (rd_endedSoon : Int32) (tp_length : Int32) (tp_bytes : Nat → Int32) (at_right : Int32) (at_faulty : Int32) (at_endedSoon : Int32) (at_noSuchNumber : Int32) (g_rowCuts : Nat → Int32) (g_columnCuts : Nat → Int32) (g_bandRows : Nat → Int32) (g_zoneColumns : Nat → Int32) (g_rows : Nat → Int32) (g_sheets : Nat → Int32) (p1 : Int32) (p2 : Int32) (r : Int32) (o1 : Int32) (o2 : Int32) (o3 : Int32) (o4 : Int32) (o5 : Int32) (o6 : Int32) (o7 : Int32) (o8 : Int32) (o9 : Int32) (o10 : Int32) (o11 : Int32) (o12 : Int32) (hf : f_X_named N rd_next rd_end rd_level rd_key rd_fault rd_faultPlace rd_endedSoon tp_bytes tp_length at_right at_faulty at_endedSoon at_noSuchNumber g_rowCuts g_columnCuts g_bandRows g_zoneColumns g_rows g_sheets p1 p2 = some (r, o1, o2, o3, o4, o5, o6, o7, o8, o9, o10, o11, o12)) : Met l yX10_named wsX10_named ({ frames := 4, cells := 0, slots := 0, locals := 95 }) (va_Pc [.ref a_x, .int p1, .int p2] (q_N D ci A sa ((a_x, .inr (10, [.ref a_at, .ref a_g, .ref a_st, .ref a_x_kept, .int x_keptStates, .ref a_tp, .ref a_rd, .ref a_qu, .ref a_sp, .ref a_wk, .ref a_bx, .ref a_nt, .ref a_nu, .ref a_x_seen])) :: (a_rd, .inr (3, [.ref a_g, .ref a_tp, .int rd_next, .int rd_end, .int rd_level, .int rd_key, .int rd_fault, .int rd_faultPlace, .int rd_endedSoon])) :: (a_tp, .inr (8, [.ref a_tp_bytes, .int tp_length])) :: (a_tp_bytes, .inl (ci 0, 200, .inl tp_bytes)) :: (a_at, .inr (0, [.ref a_g, .ref a_st, .int at_right, .int at_faulty, .int at_endedSoon, .int at_noSuchNumber])) :: (a_g, .inr (2, [.ref a_g_rowCuts, .ref a_g_columnCuts, .ref a_g_bandRows, .ref a_g_zoneColumns, .ref a_g_rows, .ref a_g_sheets])) :: (a_g_rowCuts, .inl (ci 0, 5, .inl g_rowCuts)) :: (a_g_columnCuts, .inl (ci 0, 5, .inl g_columnCuts)) :: (a_g_bandRows, .inl (ci 0, 5, .inl g_bandRows)) :: (a_g_zoneColumns, .inl (ci 0, 5, .inl g_zoneColumns)) :: (a_g_rows, .inl (ci 0, 5, .inl g_rows)) :: (a_g_sheets, .inl (ci 0, 5, .inl g_sheets)) :: Rw))) (q_Q (some (.int r)) (q_O D A ((a_x, .inr (10, [.ref a_at, .ref a_g, .ref a_st, .ref a_x_kept, .int x_keptStates, .ref a_tp, .ref a_rd, .ref a_qu, .ref a_sp, .ref a_wk, .ref a_bx, .ref a_nt, .ref a_nu, .ref a_x_seen])) :: (a_rd, .inr (3, [.ref a_g, .ref a_tp, .int o1, .int o2, .int o3, .int o4, .int o5, .int o6, .int o7])) :: (a_tp, .inr (8, [.ref a_tp_bytes, .int o8])) :: (a_tp_bytes, .inl (ci 0, 200, .inl tp_bytes)) :: (a_at, .inr (0, [.ref a_g, .ref a_st, .int o9, .int o10, .int o11, .int o12])) :: (a_g, .inr (2, [.ref a_g_rowCuts, .ref a_g_columnCuts, .ref a_g_bandRows, .ref a_g_zoneColumns, .ref a_g_rows, .ref a_g_sheets])) :: (a_g_rowCuts, .inl (ci 0, 5, .inl g_rowCuts)) :: (a_g_columnCuts, .inl (ci 0, 5, .inl g_columnCuts)) :: (a_g_bandRows, .inl (ci 0, 5, .inl g_bandRows)) :: (a_g_zoneColumns, .inl (ci 0, 5, .inl g_zoneColumns)) :: (a_g_rows, .inl (ci 0, 5, .inl g_rows)) :: (a_g_sheets, .inl (ci 0, 5, .inl g_sheets)) :: Rw)) A) 0 0 A := by
  refine q_ofW (cc := cX10_named) (maxL := 4) (ret := (some .int)) [.ref a_x, .int p1, .int p2] (plainFor_of_name (by decide)) rfl (Nat.le_of_ble_eq_true rfl) ?_
  intro p e s m below meth c ls Q hQ hx hb hml hr hts hown hlocks hK hA hZ hP hD hS hl
  have hl : lv_has ls 4 [(0, .ref a_x), (1, .int p1), (2, .int p2)] := hl
  have hown : s.vm.findClass RX10 = some m.cls := hown
  have hinX10 : ∀ w ∈ wsX100, w ∈ wsX10_named := fun _ h => List.mem_cons_of_mem _ (inWX100 _ h)
  have hinX3 : ∀ w ∈ wsX30, w ∈ wsX10_named := fun _ h => List.mem_cons_of_mem _ (inWX30 _ h)
  have hinX8 : ∀ w ∈ wsX80, w ∈ wsX10_named := fun _ h => List.mem_cons_of_mem _ (inWX80 _ h)
  have w_1 := hts (Cond.fieldLink RX10 39 "SheetNames" "tape" "LSheetNames$Tape;") (List.mem_cons_of_mem _ t_w882)
  have w_2 := hts (Cond.fieldLink RX10 48 "SheetNames" "reader" "LSheetNames$NameReader;") (List.mem_cons_of_mem _ t_w885)
  have w_3 := hts (Cond.fieldLink RX10 10 "SheetNames" "now" "LSheetNames$Atlas;") (List.mem_cons_of_mem _ t_w884)
  have wn_10 : (Cond.fieldLinkNest "SheetNames" 182 "SheetNames$NameReader" "level" "I" "SheetNames").before ([.ref a_x, .int p1, .int p2] : List Value).toArray s = true := (hZ.2.2.2.2.2.2.2.2.2.1 _ (List.mem_of_getElem? (i := 10) rfl)).use rfl
  have wn_11 : (Cond.fieldLinkNest "SheetNames" 185 "SheetNames$NameReader" "key" "I" "SheetNames").before ([.ref a_x, .int p1, .int p2] : List Value).toArray s = true := (hZ.2.2.2.2.2.2.2.2.2.1 _ (List.mem_of_getElem? (i := 11) rfl)).use rfl
  have wn_35 : (Cond.fieldLinkNest "SheetNames" 98 "SheetNames$Tape" "length" "I" "SheetNames").before ([.ref a_x, .int p1, .int p2] : List Value).toArray s = true := (hZ.2.2.2.2.2.2.2.2.2.1 _ (List.mem_of_getElem? (i := 35) rfl)).use rfl
  unfold f_X_named at hf
  have hgo : ∀ (H : Heap) (locs : List Loc), H = s.heap → va_P D vwCl ((a_x, .inr (10, [.ref a_at, .ref a_g, .ref a_st, .ref a_x_kept, .int x_keptStates, .ref a_tp, .ref a_rd, .ref a_qu, .ref a_sp, .ref a_wk, .ref a_bx, .ref a_nt, .ref a_nu, .ref a_x_seen])) :: (a_rd, .inr (3, [.ref a_g, .ref a_tp, .int rd_next, .int rd_end, .int rd_level, .int rd_key, .int rd_fault, .int rd_faultPlace, .int rd_endedSoon])) :: (a_tp, .inr (8, [.ref a_tp_bytes, .int tp_length])) :: (a_tp_bytes, .inl (ci 0, 200, .inl tp_bytes)) :: (a_at, .inr (0, [.ref a_g, .ref a_st, .int at_right, .int at_faulty, .int at_endedSoon, .int at_noSuchNumber])) :: (a_g, .inr (2, [.ref a_g_rowCuts, .ref a_g_columnCuts, .ref a_g_bandRows, .ref a_g_zoneColumns, .ref a_g_rows, .ref a_g_sheets])) :: (a_g_rowCuts, .inl (ci 0, 5, .inl g_rowCuts)) :: (a_g_columnCuts, .inl (ci 0, 5, .inl g_columnCuts)) :: (a_g_bandRows, .inl (ci 0, 5, .inl g_bandRows)) :: (a_g_zoneColumns, .inl (ci 0, 5, .inl g_zoneColumns)) :: (a_g_rows, .inl (ci 0, 5, .inl g_rows)) :: (a_g_sheets, .inl (ci 0, 5, .inl g_sheets)) :: Rw) H → va_S A s.heap H locs → W p l e ({ frames := 4, cells := 0, slots := 0, locals := 95 } : Room) s m ([.ref a_x, .int p1, .int p2] : List Value).toArray below meth c H locs 0 0 Q (F0 m 0 ls []) := by
    intro H locs hH hP hS
    refine lv_iload_n (pc := 0) hx hb dX10_named_0 rfl (lv_at hl 1 rfl) ?_
    refine lv_iconst (pc := 1) (v := 1) hx hb dX10_named_1 (by decide) ?_
    refine lv_bipush (pc := 2) (v := 40) hx hb dX10_named_2 (by decide) ?_
    obtain ⟨v1, hm4, hf⟩ := q_b1_e hf
    refine q_cSr (pc := 4) (As := [.int p1, .int 1, .int 40]) (rest := []) (v0 := (some (.int v1))) ⟨hx, hb, hml, hown, hts⟩ hK hA hZ hP hD hS hl.1 [] 12 rfl ⟨rfl, rfl, rfl⟩ (c_X_isFrom l D ci A sa N (Rw) p1 1 40 v1 hm4) (va_cwS 3 hts gX10_named_X10_isFrom rfl rfl rfl (by decide +kernel) ⟨Nat.le_of_ble_eq_true rfl, Nat.le_of_ble_eq_true rfl⟩) rfl rfl (Nat.le_of_ble_eq_true rfl) dX10_named_4 ⟨Nat.zero_le _, Nat.zero_le _⟩ (fun locs hS => ?_)
    refine q_if_eq (pc := 7) (tgt := 30) hx hb dX10_named_7 (by decide) rfl hf (fun hf => ?_) (fun hf => ?_)
    · refine lv_iconst (pc := 30) (v := (-1)) hx hb dX10_named_30 (by decide) ?_
      obtain ⟨e90, e91, e92, e93, e94, e95, e96, e97, e98, e99, e910, e911, e912⟩ := q_inj13 (Option.some.inj hf)
      rw [hQ, ← e90, ← e91, ← e92, ← e93, ← e94, ← e95, ← e96, ← e97, ← e98, ← e99, ← e910, ← e911, ← e912]
      exact q_iret (pc := 31) hx hb hr hlocks hP hD hS dX10_named_31
    · refine lv_iload_n (pc := 10) hx hb dX10_named_10 rfl (lv_at hl 2 rfl) ?_
      refine lv_iconst (pc := 11) (v := 0) hx hb dX10_named_11 (by decide) ?_
      refine lv_iconst (pc := 12) (v := 1) hx hb dX10_named_12 (by decide) ?_
      obtain ⟨v2, hm13, hf⟩ := q_b1_e hf
      refine q_cSr (pc := 13) (As := [.int p2, .int 0, .int 1]) (rest := []) (v0 := (some (.int v2))) ⟨hx, hb, hml, hown, hts⟩ hK hA hZ hP hD hS hl.1 [] 12 rfl ⟨rfl, rfl, rfl⟩ (c_X_isFrom l D ci A sa N (Rw) p2 0 1 v2 hm13) (va_cwS 3 hts gX10_named_X10_isFrom rfl rfl rfl (by decide +kernel) ⟨Nat.le_of_ble_eq_true rfl, Nat.le_of_ble_eq_true rfl⟩) rfl rfl (Nat.le_of_ble_eq_true rfl) dX10_named_13 ⟨Nat.zero_le _, Nat.zero_le _⟩ (fun locs hS => ?_)
      refine q_if_eq (pc := 16) (tgt := 30) hx hb dX10_named_16 (by decide) rfl hf (fun hf => ?_) (fun hf => ?_)
      · refine lv_iconst (pc := 30) (v := (-1)) hx hb dX10_named_30 (by decide) ?_
        obtain ⟨e90, e91, e92, e93, e94, e95, e96, e97, e98, e99, e910, e911, e912⟩ := q_inj13 (Option.some.inj hf)
        rw [hQ, ← e90, ← e91, ← e92, ← e93, ← e94, ← e95, ← e96, ← e97, ← e98, ← e99, ← e910, ← e911, ← e912]
        exact q_iret (pc := 31) hx hb hr hlocks hP hD hS dX10_named_31
      · refine lv_aload_n (pc := 19) hx hb dX10_named_19 rfl (lv_at hl 0 rfl) ?_
        refine va_get (pc := 20) (D := D) (ci := 10) (v := .ref a_tp) (C := RX10) (T := TX10) (N := 14) hx hb hts hinX10 hown hK hP 0 rfl rfl 5 (by decide) w_1 (fun _ h9 => h9) rfl dX10_named_20 ?_
        refine va_getN (pc := 23) (D := D) (ci := 8) (v := .int tp_length) (C := RX8) (T := TX8) (N := 2) hx hb hts hinX8 hown hK hP 2 rfl rfl 1 (by decide) wn_35 (fun _ h9 => h9) rfl dX10_named_23 ?_
        refine lv_iload_n (pc := 26) hx hb dX10_named_26 rfl (lv_at hl 1 rfl) ?_
        refine q_icmp_ge (pc := 27) (tgt := 32) hx hb dX10_named_27 (by decide) rfl hf (fun hf => ?_) (fun hf => ?_)
        · refine lv_aload_n (pc := 32) hx hb dX10_named_32 rfl (lv_at hl 0 rfl) ?_
          refine va_get (pc := 33) (D := D) (ci := 10) (v := .ref a_rd) (C := RX10) (T := TX10) (N := 14) hx hb hts hinX10 hown hK hP 0 rfl rfl 6 (by decide) w_2 (fun _ h9 => h9) rfl dX10_named_33 ?_
          refine lv_iconst (pc := 36) (v := 0) hx hb dX10_named_36 (by decide) ?_
          refine lv_iload_n (pc := 37) hx hb dX10_named_37 rfl (lv_at hl 1 rfl) ?_
          obtain ⟨v3, v4, v5, v6, v7, v8, v9, v10, hm38, hf⟩ := q_b8_e hf
          refine q_cV (pc := 38) (As := [.int 0, .int p1]) (rest := []) (v0 := (some (.int v3))) ⟨hx, hb, hml, hown, hts⟩ hK hA hZ hP hD hS hl.1 [1, 2, 3, 5, 6, 7, 8, 9, 10, 11, 0, 4] 12 rfl ⟨rfl, rfl, rfl⟩ (c_NameReader_read l D ci A sa N ((a_x, .inr (10, [.ref a_at, .ref a_g, .ref a_st, .ref a_x_kept, .int x_keptStates, .ref a_tp, .ref a_rd, .ref a_qu, .ref a_sp, .ref a_wk, .ref a_bx, .ref a_nt, .ref a_nu, .ref a_x_seen])) :: (a_at, .inr (0, [.ref a_g, .ref a_st, .int at_right, .int at_faulty, .int at_endedSoon, .int at_noSuchNumber])) :: Rw) a_rd a_g a_tp a_tp_bytes a_g_rowCuts a_g_columnCuts a_g_bandRows a_g_zoneColumns a_g_rows a_g_sheets rd_next rd_end rd_level rd_key rd_fault rd_faultPlace rd_endedSoon tp_length tp_bytes g_rowCuts g_columnCuts g_bandRows g_zoneColumns g_rows g_sheets 0 p1 v3 v4 v5 v6 v7 v8 v9 v10 hm38) 1 rfl rfl (cwV 2 hts gX10_named_X3_read rfl rfl rfl (by decide +kernel) ⟨Nat.le_of_ble_eq_true rfl, Nat.le_of_ble_eq_true rfl⟩) rfl rfl (Nat.le_of_ble_eq_true rfl) dX10_named_38 ⟨Nat.zero_le _, Nat.zero_le _⟩ [10, 0, 1, 2, 11, 3, 4, 5, 6, 7, 8, 9] 12 rfl ⟨rfl, rfl, rfl⟩ (fun H locs hP hD hS => ?_)
          obtain ⟨hP, hD⟩ : va_PD D A ((a_x, .inr (10, [.ref a_at, .ref a_g, .ref a_st, .ref a_x_kept, .int x_keptStates, .ref a_tp, .ref a_rd, .ref a_qu, .ref a_sp, .ref a_wk, .ref a_bx, .ref a_nt, .ref a_nu, .ref a_x_seen])) :: (a_rd, .inr (3, [.ref a_g, .ref a_tp, .int v4, .int v5, .int v6, .int v7, .int v8, .int v9, .int v10])) :: (a_tp, .inr (8, [.ref a_tp_bytes, .int tp_length])) :: (a_tp_bytes, .inl (ci 0, 200, .inl tp_bytes)) :: (a_at, .inr (0, [.ref a_g, .ref a_st, .int at_right, .int at_faulty, .int at_endedSoon, .int at_noSuchNumber])) :: (a_g, .inr (2, [.ref a_g_rowCuts, .ref a_g_columnCuts, .ref a_g_bandRows, .ref a_g_zoneColumns, .ref a_g_rows, .ref a_g_sheets])) :: (a_g_rowCuts, .inl (ci 0, 5, .inl g_rowCuts)) :: (a_g_columnCuts, .inl (ci 0, 5, .inl g_columnCuts)) :: (a_g_bandRows, .inl (ci 0, 5, .inl g_bandRows)) :: (a_g_zoneColumns, .inl (ci 0, 5, .inl g_zoneColumns)) :: (a_g_rows, .inl (ci 0, 5, .inl g_rows)) :: (a_g_sheets, .inl (ci 0, 5, .inl g_sheets)) :: Rw) H := ⟨hP, hD⟩
          refine lv_istore_n (pc := 41) (lv' := [(3, .int v3), (0, .ref a_x), (1, .int p1), (2, .int p2)]) hx hb dX10_named_41 rfl hl (by decide) rfl (fun ls hl => ?_)
          refine lv_aload_n (pc := 42) hx hb dX10_named_42 rfl (lv_at hl 1 rfl) ?_
          refine va_get (pc := 43) (D := D) (ci := 10) (v := .ref a_tp) (C := RX10) (T := TX10) (N := 14) hx hb hts hinX10 hown hK hP 0 rfl rfl 5 (by decide) w_1 (fun _ h9 => h9) rfl dX10_named_43 ?_
          refine lv_iconst (pc := 46) (v := 0) hx hb dX10_named_46 (by decide) ?_
          refine va_putN (pc := 47) (D := D) (ci := 8) (v := .int 0) (ty := .int) (C := RX8) (T := TX8) (N := 2) hx hb hts hinX8 tyX8 tyX8_ok nmX8 hown hK hP hD hS 2 rfl rfl 1 (by decide) wn_35 (fun _ h9 => h9) rfl (by decide +kernel) rfl rfl (Nat.le_of_ble_eq_true rfl) dX10_named_47 (fun H locs hP hD hS => ?_)
          obtain ⟨hP, hD⟩ : va_PD D A ((a_x, .inr (10, [.ref a_at, .ref a_g, .ref a_st, .ref a_x_kept, .int x_keptStates, .ref a_tp, .ref a_rd, .ref a_qu, .ref a_sp, .ref a_wk, .ref a_bx, .ref a_nt, .ref a_nu, .ref a_x_seen])) :: (a_rd, .inr (3, [.ref a_g, .ref a_tp, .int v4, .int v5, .int v6, .int v7, .int v8, .int v9, .int v10])) :: (a_tp, .inr (8, [.ref a_tp_bytes, .int 0])) :: (a_tp_bytes, .inl (ci 0, 200, .inl tp_bytes)) :: (a_at, .inr (0, [.ref a_g, .ref a_st, .int at_right, .int at_faulty, .int at_endedSoon, .int at_noSuchNumber])) :: (a_g, .inr (2, [.ref a_g_rowCuts, .ref a_g_columnCuts, .ref a_g_bandRows, .ref a_g_zoneColumns, .ref a_g_rows, .ref a_g_sheets])) :: (a_g_rowCuts, .inl (ci 0, 5, .inl g_rowCuts)) :: (a_g_columnCuts, .inl (ci 0, 5, .inl g_columnCuts)) :: (a_g_bandRows, .inl (ci 0, 5, .inl g_bandRows)) :: (a_g_zoneColumns, .inl (ci 0, 5, .inl g_zoneColumns)) :: (a_g_rows, .inl (ci 0, 5, .inl g_rows)) :: (a_g_sheets, .inl (ci 0, 5, .inl g_sheets)) :: Rw) H := ⟨hP, hD⟩
          refine lv_aload_n (pc := 50) hx hb dX10_named_50 rfl (lv_at hl 1 rfl) ?_
          refine va_get (pc := 51) (D := D) (ci := 10) (v := .ref a_at) (C := RX10) (T := TX10) (N := 14) hx hb hts hinX10 hown hK hP 0 rfl rfl 0 (by decide) w_3 (fun _ h9 => h9) rfl dX10_named_51 ?_
          refine lv_aload_n (pc := 54) hx hb dX10_named_54 rfl (lv_at hl 1 rfl) ?_
          refine va_get (pc := 55) (D := D) (ci := 10) (v := .ref a_rd) (C := RX10) (T := TX10) (N := 14) hx hb hts hinX10 hown hK hP 0 rfl rfl 6 (by decide) w_2 (fun _ h9 => h9) rfl dX10_named_55 ?_
          refine lv_iload_n (pc := 58) hx hb dX10_named_58 rfl (lv_at hl 0 rfl) ?_
          obtain ⟨v11, v12, v13, v14, hm59, hf⟩ := q_b4_e hf
          refine q_cV (pc := 59) (As := [.ref a_rd, .int v3]) (rest := []) (v0 := none) ⟨hx, hb, hml, hown, hts⟩ hK hA hZ hP hD hS hl.1 [1, 4, 0, 2, 3, 5, 6, 7, 8, 9, 10, 11] 12 rfl ⟨rfl, rfl, rfl⟩ (c_Atlas_countText l D ci A sa N ((a_x, .inr (10, [.ref a_at, .ref a_g, .ref a_st, .ref a_x_kept, .int x_keptStates, .ref a_tp, .ref a_rd, .ref a_qu, .ref a_sp, .ref a_wk, .ref a_bx, .ref a_nt, .ref a_nu, .ref a_x_seen])) :: (a_tp, .inr (8, [.ref a_tp_bytes, .int 0])) :: (a_tp_bytes, .inl (ci 0, 200, .inl tp_bytes)) :: (a_g, .inr (2, [.ref a_g_rowCuts, .ref a_g_columnCuts, .ref a_g_bandRows, .ref a_g_zoneColumns, .ref a_g_rows, .ref a_g_sheets])) :: (a_g_rowCuts, .inl (ci 0, 5, .inl g_rowCuts)) :: (a_g_columnCuts, .inl (ci 0, 5, .inl g_columnCuts)) :: (a_g_bandRows, .inl (ci 0, 5, .inl g_bandRows)) :: (a_g_zoneColumns, .inl (ci 0, 5, .inl g_zoneColumns)) :: (a_g_rows, .inl (ci 0, 5, .inl g_rows)) :: (a_g_sheets, .inl (ci 0, 5, .inl g_sheets)) :: Rw) a_rd a_g a_tp a_at a_st v4 v5 v6 v7 v8 v9 v10 at_right at_faulty at_endedSoon at_noSuchNumber v3 v11 v12 v13 v14 hm59) 4 rfl rfl (cwV 2 hts gX10_named_X0_countText rfl rfl rfl (by decide +kernel) ⟨Nat.le_of_ble_eq_true rfl, Nat.le_of_ble_eq_true rfl⟩) rfl rfl (Nat.le_of_ble_eq_true rfl) dX10_named_59 ⟨Nat.zero_le _, Nat.zero_le _⟩ [2, 0, 3, 4, 1, 5, 6, 7, 8, 9, 10, 11] 12 rfl ⟨rfl, rfl, rfl⟩ (fun H locs hP hD hS => ?_)
          obtain ⟨hP, hD⟩ : va_PD D A ((a_x, .inr (10, [.ref a_at, .ref a_g, .ref a_st, .ref a_x_kept, .int x_keptStates, .ref a_tp, .ref a_rd, .ref a_qu, .ref a_sp, .ref a_wk, .ref a_bx, .ref a_nt, .ref a_nu, .ref a_x_seen])) :: (a_rd, .inr (3, [.ref a_g, .ref a_tp, .int v4, .int v5, .int v6, .int v7, .int v8, .int v9, .int v10])) :: (a_tp, .inr (8, [.ref a_tp_bytes, .int 0])) :: (a_tp_bytes, .inl (ci 0, 200, .inl tp_bytes)) :: (a_at, .inr (0, [.ref a_g, .ref a_st, .int v11, .int v12, .int v13, .int v14])) :: (a_g, .inr (2, [.ref a_g_rowCuts, .ref a_g_columnCuts, .ref a_g_bandRows, .ref a_g_zoneColumns, .ref a_g_rows, .ref a_g_sheets])) :: (a_g_rowCuts, .inl (ci 0, 5, .inl g_rowCuts)) :: (a_g_columnCuts, .inl (ci 0, 5, .inl g_columnCuts)) :: (a_g_bandRows, .inl (ci 0, 5, .inl g_bandRows)) :: (a_g_zoneColumns, .inl (ci 0, 5, .inl g_zoneColumns)) :: (a_g_rows, .inl (ci 0, 5, .inl g_rows)) :: (a_g_sheets, .inl (ci 0, 5, .inl g_sheets)) :: Rw) H := ⟨hP, hD⟩
          refine lv_iload_n (pc := 62) hx hb dX10_named_62 rfl (lv_at hl 0 rfl) ?_
          refine q_if_ne (pc := 63) (tgt := 74) hx hb dX10_named_63 (by decide) rfl hf (fun hf => ?_) (fun hf => ?_)
          · refine lv_iload_n (pc := 74) hx hb dX10_named_74 rfl (lv_at hl 3 rfl) ?_
            refine q_if_ne (pc := 75) (tgt := 88) hx hb dX10_named_75 (by decide) rfl hf (fun hf => ?_) (fun hf => ?_)
            · refine lv_aload_n (pc := 88) hx hb dX10_named_88 rfl (lv_at hl 1 rfl) ?_
              refine va_get (pc := 89) (D := D) (ci := 10) (v := .ref a_rd) (C := RX10) (T := TX10) (N := 14) hx hb hts hinX10 hown hK hP 0 rfl rfl 6 (by decide) w_2 (fun _ h9 => h9) rfl dX10_named_89 ?_
              refine va_getN (pc := 92) (D := D) (ci := 3) (v := .int v7) (C := RX3) (T := TX3) (N := 9) hx hb hts hinX3 hown hK hP 1 rfl rfl 5 (by decide) wn_11 (fun _ h9 => h9) rfl dX10_named_92 ?_
              obtain ⟨e90, e91, e92, e93, e94, e95, e96, e97, e98, e99, e910, e911, e912⟩ := q_inj13 (Option.some.inj hf)
              rw [hQ, ← e90, ← e91, ← e92, ← e93, ← e94, ← e95, ← e96, ← e97, ← e98, ← e99, ← e910, ← e911, ← e912]
              exact q_iret (pc := 95) hx hb hr hlocks hP hD hS dX10_named_95
            · refine lv_aload_n (pc := 78) hx hb dX10_named_78 rfl (lv_at hl 1 rfl) ?_
              refine va_get (pc := 79) (D := D) (ci := 10) (v := .ref a_rd) (C := RX10) (T := TX10) (N := 14) hx hb hts hinX10 hown hK hP 0 rfl rfl 6 (by decide) w_2 (fun _ h9 => h9) rfl dX10_named_79 ?_
              refine va_getN (pc := 82) (D := D) (ci := 3) (v := .int v6) (C := RX3) (T := TX3) (N := 9) hx hb hts hinX3 hown hK hP 1 rfl rfl 4 (by decide) wn_10 (fun _ h9 => h9) rfl dX10_named_82 ?_
              refine lv_goto (pc := 85) (tgt := 95) hx hb dX10_named_85 (by decide) ?_
              obtain ⟨e90, e91, e92, e93, e94, e95, e96, e97, e98, e99, e910, e911, e912⟩ := q_inj13 (Option.some.inj hf)
              rw [hQ, ← e90, ← e91, ← e92, ← e93, ← e94, ← e95, ← e96, ← e97, ← e98, ← e99, ← e910, ← e911, ← e912]
              exact q_iret (pc := 95) hx hb hr hlocks hP hD hS dX10_named_95
          · refine lv_aload_n (pc := 66) hx hb dX10_named_66 rfl (lv_at hl 1 rfl) ?_
            refine va_get (pc := 67) (D := D) (ci := 10) (v := .ref a_rd) (C := RX10) (T := TX10) (N := 14) hx hb hts hinX10 hown hK hP 0 rfl rfl 6 (by decide) w_2 (fun _ h9 => h9) rfl dX10_named_67 ?_
            obtain ⟨v15, hm70, hf⟩ := q_b1_e hf
            refine q_cVr (pc := 70) (As := []) (rest := []) (v0 := (some (.int v15))) ⟨hx, hb, hml, hown, hts⟩ hK hA hZ hP hD hS hl.1 [1] 12 rfl ⟨rfl, rfl, rfl⟩ (c_NameReader_told l D ci A sa N (Rw) a_rd a_g a_tp v4 v5 v6 v7 v8 v9 v10 v15 hm70) 1 rfl rfl (cwV 0 hts gX10_named_X3_told rfl rfl rfl (by decide +kernel) ⟨Nat.le_of_ble_eq_true rfl, Nat.le_of_ble_eq_true rfl⟩) rfl rfl (Nat.le_of_ble_eq_true rfl) dX10_named_70 ⟨Nat.zero_le _, Nat.zero_le _⟩ (fun locs hS => ?_)
            obtain ⟨e90, e91, e92, e93, e94, e95, e96, e97, e98, e99, e910, e911, e912⟩ := q_inj13 (Option.some.inj hf)
            rw [hQ, ← e90, ← e91, ← e92, ← e93, ← e94, ← e95, ← e96, ← e97, ← e98, ← e99, ← e910, ← e911, ← e912]
            exact q_iret (pc := 73) hx hb hr hlocks hP hD hS dX10_named_73
        · refine lv_iconst (pc := 30) (v := (-1)) hx hb dX10_named_30 (by decide) ?_
          obtain ⟨e90, e91, e92, e93, e94, e95, e96, e97, e98, e99, e910, e911, e912⟩ := q_inj13 (Option.some.inj hf)
          rw [hQ, ← e90, ← e91, ← e92, ← e93, ← e94, ← e95, ← e96, ← e97, ← e98, ← e99, ← e910, ← e911, ← e912]
          exact q_iret (pc := 31) hx hb hr hlocks hP hD hS dX10_named_31
  exact hgo _ _ rfl hP hS
/-! X10_oldest -/
set_option maxRecDepth 100000 in
set_option maxHeartbeats 4000000 in
theorem c_X_oldest (l : Launch) (D : va_G) (ci : Nat → ClassId) (A : Nat → Prop) (sa : Nat → Nat) (N : Nat) (Rw : va_W) (a_x : Nat) (a_at : Nat) (a_g : Nat) (a_st : Nat) (a_x_kept : Nat) (a_tp : Nat) (a_rd : Nat) (a_qu : Nat) (a_sp : Nat) (a_wk : Nat) (a_bx : Nat) (a_nt : Nat) (a_nu : Nat) (a_x_seen : Nat) (a_st_levels : Nat) (a_st_keys : Nat) (a_st_years : Nat) (a_st_keysThere : Nat) (x_keptStates : Int32) (st_size : Int32) (st_shownBy : Int32) (st_deepestShown : Int32) (st_latestShown : Int32) (st_levels : Nat → Int32) (st_keys : Nat → Int32) (st_years : Nat → Int32) (p1 : Int32) (p2 : Int32) (r : Int32) (hf : f_X_oldest N st_levels st_keys st_years st_size p1 p2 = some r) : Met l yX10_oldest wsX10_oldest ({ frames := 1, cells := 0, slots := 0, locals := 22 }) (va_Pc [.ref a_x, .int p1, .int p2] (q_N D ci A sa ((a_x, .inr (10, [.ref a_at, .ref a_g, .ref a_st, .ref a_x_kept, .int x_keptStates, .ref a_tp, .ref a_rd, .ref a_qu, .ref a_sp, .ref a_wk, .ref a_bx, .ref a_nt, .ref a_nu, .ref a_x_seen])) :: (a_st, .inr (7, [.ref a_g, .ref a_st_levels, .ref a_st_keys, .ref a_st_years, .ref a_st_keysThere, .int st_size, .int st_shownBy, .int st_deepestShown, .int st_latestShown])) :: (a_st_levels, .inl (ci 0, 60, .inl st_levels)) :: (a_st_keys, .inl (ci 0, 60, .inl st_keys)) :: (a_st_years, .inl (ci 0, 60, .inl st_years)) :: Rw))) (q_R (some (.int r))) 0 0 A := by
  refine q_ofW (cc := cX10_oldest) (maxL := 6) (ret := (some .int)) [.ref a_x, .int p1, .int p2] (plainFor_of_name (by decide)) rfl (Nat.le_of_ble_eq_true rfl) ?_
  intro p e s m below meth c ls Q hQ hx hb hml hr hts hown hlocks hK hA hZ hP hD hS hl
  have hl : lv_has ls 6 [(0, .ref a_x), (1, .int p1), (2, .int p2)] := hl
  have hown : s.vm.findClass RX10 = some m.cls := hown
  have hinX10 : ∀ w ∈ wsX100, w ∈ wsX10_oldest := fun _ h => List.mem_cons_of_mem _ (inWX100 _ h)
  have hinX7 : ∀ w ∈ wsX70, w ∈ wsX10_oldest := fun _ h => List.mem_cons_of_mem _ (inWX70 _ h)
  have w_1 := hts (Cond.fieldLink RX10 25 "SheetNames" "pieces" "LSheetNames$Store;") (List.mem_cons_of_mem _ t_w892)
  have wn_0 : (Cond.fieldLinkNest "SheetNames" 109 "SheetNames$Store" "size" "I" "SheetNames").before ([.ref a_x, .int p1, .int p2] : List Value).toArray s = true := (hZ.2.2.2.2.2.2.2.2.2.1 _ (List.mem_of_getElem? (i := 0) rfl)).use rfl
  have wn_25 : (Cond.fieldLinkNest "SheetNames" 376 "SheetNames$Store" "years" "[I" "SheetNames").before ([.ref a_x, .int p1, .int p2] : List Value).toArray s = true := (hZ.2.2.2.2.2.2.2.2.2.1 _ (List.mem_of_getElem? (i := 25) rfl)).use rfl
  have wn_26 : (Cond.fieldLinkNest "SheetNames" 382 "SheetNames$Store" "levels" "[I" "SheetNames").before ([.ref a_x, .int p1, .int p2] : List Value).toArray s = true := (hZ.2.2.2.2.2.2.2.2.2.1 _ (List.mem_of_getElem? (i := 26) rfl)).use rfl
  have wn_27 : (Cond.fieldLinkNest "SheetNames" 385 "SheetNames$Store" "keys" "[I" "SheetNames").before ([.ref a_x, .int p1, .int p2] : List Value).toArray s = true := (hZ.2.2.2.2.2.2.2.2.2.1 _ (List.mem_of_getElem? (i := 27) rfl)).use rfl
  unfold f_X_oldest at hf
  have hgo : ∀ (H : Heap) (locs : List Loc), H = s.heap → va_P D vwCl ((a_x, .inr (10, [.ref a_at, .ref a_g, .ref a_st, .ref a_x_kept, .int x_keptStates, .ref a_tp, .ref a_rd, .ref a_qu, .ref a_sp, .ref a_wk, .ref a_bx, .ref a_nt, .ref a_nu, .ref a_x_seen])) :: (a_st, .inr (7, [.ref a_g, .ref a_st_levels, .ref a_st_keys, .ref a_st_years, .ref a_st_keysThere, .int st_size, .int st_shownBy, .int st_deepestShown, .int st_latestShown])) :: (a_st_levels, .inl (ci 0, 60, .inl st_levels)) :: (a_st_keys, .inl (ci 0, 60, .inl st_keys)) :: (a_st_years, .inl (ci 0, 60, .inl st_years)) :: Rw) H → va_S A s.heap H locs → W p l e ({ frames := 1, cells := 0, slots := 0, locals := 22 } : Room) s m ([.ref a_x, .int p1, .int p2] : List Value).toArray below meth c H locs 0 0 Q (F0 m 0 ls []) := by
    intro H locs hH hP hS
    subst hH
    refine lv_iload_n (pc := 0) hx hb dX10_oldest_0 rfl (lv_at hl 1 rfl) ?_
    obtain ⟨v1, hm1, hf⟩ := q_b1_e hf
    refine q_cSr (pc := 1) (As := [.int p1]) (rest := []) (v0 := (some (.int v1))) ⟨hx, hb, hml, hown, hts⟩ hK hA hZ hP hD hS hl.1 [] 5 rfl ⟨rfl, rfl, rfl⟩ (c_X_isLevel l D ci A sa N (Rw) p1 v1 hm1) (va_cwS 1 hts gX10_oldest_X10_isLevel rfl rfl rfl (by decide +kernel) ⟨Nat.le_of_ble_eq_true rfl, Nat.le_of_ble_eq_true rfl⟩) rfl rfl (Nat.le_of_ble_eq_true rfl) dX10_oldest_1 ⟨Nat.zero_le _, Nat.zero_le _⟩ (fun locs hS => ?_)
    refine q_if_eq (pc := 4) (tgt := 16) hx hb dX10_oldest_4 (by decide) rfl hf (fun hf => ?_) (fun hf => ?_)
    · refine lv_iconst (pc := 16) (v := (-1)) hx hb dX10_oldest_16 (by decide) ?_
      obtain rfl := Option.some.inj hf
      rw [hQ]
      exact q_iretr (pc := 17) hx hb hr hlocks rfl hS dX10_oldest_17
    · refine lv_iload_n (pc := 7) hx hb dX10_oldest_7 rfl (lv_at hl 2 rfl) ?_
      refine lv_iconst (pc := 8) (v := 0) hx hb dX10_oldest_8 (by decide) ?_
      refine lv_iconst (pc := 9) (v := 2) hx hb dX10_oldest_9 (by decide) ?_
      obtain ⟨v2, hm10, hf⟩ := q_b1_e hf
      refine q_cSr (pc := 10) (As := [.int p2, .int 0, .int 2]) (rest := []) (v0 := (some (.int v2))) ⟨hx, hb, hml, hown, hts⟩ hK hA hZ hP hD hS hl.1 [] 5 rfl ⟨rfl, rfl, rfl⟩ (c_X_isFrom l D ci A sa N (Rw) p2 0 2 v2 hm10) (va_cwS 3 hts gX10_oldest_X10_isFrom rfl rfl rfl (by decide +kernel) ⟨Nat.le_of_ble_eq_true rfl, Nat.le_of_ble_eq_true rfl⟩) rfl rfl (Nat.le_of_ble_eq_true rfl) dX10_oldest_10 ⟨Nat.zero_le _, Nat.zero_le _⟩ (fun locs hS => ?_)
      refine q_if_ne (pc := 13) (tgt := 18) hx hb dX10_oldest_13 (by decide) rfl hf (fun hf => ?_) (fun hf => ?_)
      · refine lv_iconst (pc := 18) (v := (-1)) hx hb dX10_oldest_18 (by decide) ?_
        obtain ⟨v3, ev3, hf⟩ := q_nm_e hf
        refine q_topi ev3 ?_
        refine lv_istore_n (pc := 19) (lv' := [(3, .int v3), (0, .ref a_x), (1, .int p1), (2, .int p2)]) hx hb dX10_oldest_19 rfl hl (by decide) rfl (fun ls hl => ?_)
        refine lv_iconst (pc := 20) (v := 0) hx hb dX10_oldest_20 (by decide) ?_
        obtain ⟨v4, ev4, hf⟩ := q_nm_e hf
        refine q_topi ev4 ?_
        refine lv_istore (pc := 21) (lv' := [(4, .int v4), (3, .int v3), (0, .ref a_x), (1, .int p1), (2, .int p2)]) hx hb dX10_oldest_21 hl (by decide) rfl (fun ls hl => ?_)
        refine lv_iconst (pc := 23) (v := 0) hx hb dX10_oldest_23 (by decide) ?_
        obtain ⟨v5, ev5, hf⟩ := q_nm_e hf
        refine q_topi ev5 ?_
        refine lv_istore (pc := 24) (lv' := [(5, .int v5), (4, .int v4), (3, .int v3), (0, .ref a_x), (1, .int p1), (2, .int p2)]) hx hb dX10_oldest_24 hl (by decide) rfl (fun ls hl => ?_)
        obtain ⟨v9, v10, hm26, hf⟩ := q_b2_e hf
        have JE26 : ∀ (H : Heap) (locs : List Loc) (ls : Array Slot), H = s.heap → va_S A s.heap H locs → lv_has ls 6 [(0, .ref a_x), (2, .int p2), (3, .int v9), (4, .int v10)] → W p l e ({ frames := 1, cells := 0, slots := 0, locals := 22 } : Room) s m ([.ref a_x, .int p1, .int p2] : List Value).toArray below meth c H locs 0 0 Q (F0 m 119 ls []) := by
          intro H locs ls hHs hS hl
          subst hHs
          refine lv_iload_n (pc := 119) hx hb dX10_oldest_119 rfl (lv_at hl 2 rfl) ?_
          refine lv_iconst (pc := 120) (v := (-1)) hx hb dX10_oldest_120 (by decide) ?_
          refine q_icmp_ne (pc := 121) (tgt := 127) hx hb dX10_oldest_121 (by decide) rfl hf (fun hf => ?_) (fun hf => ?_)
          · refine lv_iload_n (pc := 127) hx hb dX10_oldest_127 rfl (lv_at hl 1 rfl) ?_
            refine q_if_ne (pc := 128) (tgt := 141) hx hb dX10_oldest_128 (by decide) rfl hf (fun hf => ?_) (fun hf => ?_)
            · refine lv_iload_n (pc := 141) hx hb dX10_oldest_141 rfl (lv_at hl 1 rfl) ?_
              refine lv_iconst (pc := 142) (v := 1) hx hb dX10_oldest_142 (by decide) ?_
              refine q_icmp_ne (pc := 143) (tgt := 158) hx hb dX10_oldest_143 (by decide) rfl hf (fun hf => ?_) (fun hf => ?_)
              · refine lv_iload (pc := 158) hx hb dX10_oldest_158 (lv_at hl 3 rfl) ?_
                obtain rfl := Option.some.inj hf
                rw [hQ]
                exact q_iretr (pc := 160) hx hb hr hlocks rfl hS dX10_oldest_160
              · refine lv_aload_n (pc := 146) hx hb dX10_oldest_146 rfl (lv_at hl 0 rfl) ?_
                refine va_get (pc := 147) (D := D) (ci := 10) (v := .ref a_st) (C := RX10) (T := TX10) (N := 14) hx hb hts hinX10 hown hK hP 0 rfl rfl 2 (by decide) w_1 (fun _ h9 => h9) rfl dX10_oldest_147 ?_
                refine va_getN (pc := 150) (D := D) (ci := 7) (v := .ref a_st_years) (C := RX7) (T := TX7) (N := 9) hx hb hts hinX7 hown hK hP 1 rfl rfl 3 (by decide) wn_25 (fun _ h9 => h9) rfl dX10_oldest_150 ?_
                refine lv_iload_n (pc := 153) hx hb dX10_oldest_153 rfl (lv_at hl 2 rfl) ?_
                refine q_iald (pc := 154) hx hb hK hP 4 0 hf rfl rfl dX10_oldest_154 (fun v11 hf => ?_)
                refine lv_goto (pc := 155) (tgt := 160) hx hb dX10_oldest_155 (by decide) ?_
                obtain rfl := Option.some.inj hf
                rw [hQ]
                exact q_iretr (pc := 160) hx hb hr hlocks rfl hS dX10_oldest_160
            · refine lv_aload_n (pc := 131) hx hb dX10_oldest_131 rfl (lv_at hl 0 rfl) ?_
              refine va_get (pc := 132) (D := D) (ci := 10) (v := .ref a_st) (C := RX10) (T := TX10) (N := 14) hx hb hts hinX10 hown hK hP 0 rfl rfl 2 (by decide) w_1 (fun _ h9 => h9) rfl dX10_oldest_132 ?_
              refine va_getN (pc := 135) (D := D) (ci := 7) (v := .ref a_st_keys) (C := RX7) (T := TX7) (N := 9) hx hb hts hinX7 hown hK hP 1 rfl rfl 2 (by decide) wn_27 (fun _ h9 => h9) rfl dX10_oldest_135 ?_
              refine lv_iload_n (pc := 138) hx hb dX10_oldest_138 rfl (lv_at hl 2 rfl) ?_
              refine q_iald (pc := 139) hx hb hK hP 3 0 hf rfl rfl dX10_oldest_139 (fun v12 hf => ?_)
              obtain rfl := Option.some.inj hf
              rw [hQ]
              exact q_iretr (pc := 140) hx hb hr hlocks rfl hS dX10_oldest_140
          · refine lv_bipush (pc := 124) (v := (-2)) hx hb dX10_oldest_124 (by decide) ?_
            obtain rfl := Option.some.inj hf
            rw [hQ]
            exact q_iretr (pc := 126) hx hb hr hlocks rfl hS dX10_oldest_126
        have LP26 : ∀ (n26 : Nat) (v6 : Int32) (v7 : Int32) (v8 : Int32) (H : Heap) (locs : List Loc) (ls : Array Slot), f_X_oldest_L26 p1 st_levels st_size st_years n26 v6 v7 v8 = some (v9, v10) → H = s.heap → va_S A s.heap H locs → lv_has ls 6 [(0, .ref a_x), (1, .int p1), (2, .int p2), (3, .int v6), (4, .int v7), (5, .int v8)] → W p l e ({ frames := 1, cells := 0, slots := 0, locals := 22 } : Room) s m ([.ref a_x, .int p1, .int p2] : List Value).toArray below meth c H locs 0 0 Q (F0 m 26 ls []) := by
          intro n26
          induction n26 with
          | zero => intro v6 v7 v8 H locs ls hf; rw [f_X_oldest_L26] at hf; cases hf
          | succ n26 ih26 =>
            intro v6 v7 v8 H locs ls hf hHs hS hl
            subst hHs
            rw [f_X_oldest_L26] at hf
            refine lv_iload (pc := 26) hx hb dX10_oldest_26 (lv_at hl 5 rfl) ?_
            refine lv_aload_n (pc := 28) hx hb dX10_oldest_28 rfl (lv_at hl 0 rfl) ?_
            refine va_get (pc := 29) (D := D) (ci := 10) (v := .ref a_st) (C := RX10) (T := TX10) (N := 14) hx hb hts hinX10 hown hK hP 0 rfl rfl 2 (by decide) w_1 (fun _ h9 => h9) rfl dX10_oldest_29 ?_
            refine va_getN (pc := 32) (D := D) (ci := 7) (v := .int st_size) (C := RX7) (T := TX7) (N := 9) hx hb hts hinX7 hown hK hP 1 rfl rfl 5 (by decide) wn_0 (fun _ h9 => h9) rfl dX10_oldest_32 ?_
            refine q_icmp_ge (pc := 35) (tgt := 119) hx hb dX10_oldest_35 (by decide) rfl hf (fun hf => ?_) (fun hf => ?_)
            · obtain ⟨rfl, rfl⟩ := q_inj2 (Option.some.inj hf)
              exact JE26 _ _ _ rfl hS (lv_sub hl [0, 2, 3, 4] rfl)
            · refine lv_aload_n (pc := 38) hx hb dX10_oldest_38 rfl (lv_at hl 0 rfl) ?_
              refine va_get (pc := 39) (D := D) (ci := 10) (v := .ref a_st) (C := RX10) (T := TX10) (N := 14) hx hb hts hinX10 hown hK hP 0 rfl rfl 2 (by decide) w_1 (fun _ h9 => h9) rfl dX10_oldest_39 ?_
              refine va_getN (pc := 42) (D := D) (ci := 7) (v := .ref a_st_levels) (C := RX7) (T := TX7) (N := 9) hx hb hts hinX7 hown hK hP 1 rfl rfl 1 (by decide) wn_26 (fun _ h9 => h9) rfl dX10_oldest_42 ?_
              refine lv_iload (pc := 45) hx hb dX10_oldest_45 (lv_at hl 5 rfl) ?_
              refine q_iald (pc := 47) hx hb hK hP 2 0 hf rfl rfl dX10_oldest_47 (fun v13 hf => ?_)
              refine lv_iload_n (pc := 48) hx hb dX10_oldest_48 rfl (lv_at hl 1 rfl) ?_
              obtain ⟨k113, ek113, hf⟩ := q_j2_e hf
              have J113 : ∀ (v14 : Int32) (v15 : Int32) (H : Heap) (locs : List Loc) (ls : Array Slot), k113 v14 v15 = some (v9, v10) → H = s.heap → va_S A s.heap H locs → lv_has ls 6 [(0, .ref a_x), (1, .int p1), (2, .int p2), (3, .int v14), (4, .int v15), (5, .int v8)] → W p l e ({ frames := 1, cells := 0, slots := 0, locals := 22 } : Room) s m ([.ref a_x, .int p1, .int p2] : List Value).toArray below meth c H locs 0 0 Q (F0 m 113 ls []) := by
                intro v14 v15 H locs ls hf hHs hS hl
                subst hHs
                have hf := (ek113 v14 v15).symm.trans hf
                obtain ⟨v16, ev16, hf⟩ := q_nm_e hf
                refine lv_iinc (pc := 113) (v := v16) (lv' := [(5, .int v16), (0, .ref a_x), (1, .int p1), (2, .int p2), (3, .int v14), (4, .int v15)]) hx hb dX10_oldest_113 hl (k := 5) rfl (by rw [ev16]; rfl) (by decide) rfl (fun ls hl => ?_)
                refine lv_goto (pc := 116) (tgt := 26) hx hb dX10_oldest_116 (by decide) ?_
                exact ih26 v14 v15 v16 _ _ _ hf rfl hS (lv_sub hl [1, 2, 3, 4, 5, 0] rfl)
              refine q_icmp_eq (pc := 49) (tgt := 55) hx hb dX10_oldest_49 (by decide) rfl hf (fun hf => ?_) (fun hf => ?_)
              · refine lv_iload_n (pc := 55) hx hb dX10_oldest_55 rfl (lv_at hl 3 rfl) ?_
                refine lv_iconst (pc := 56) (v := (-1)) hx hb dX10_oldest_56 (by decide) ?_
                obtain ⟨k88, ek88, hf⟩ := q_j2_e hf
                have J88 : ∀ (v17 : Int32) (v18 : Int32) (H : Heap) (locs : List Loc) (ls : Array Slot), k88 v17 v18 = some (v9, v10) → H = s.heap → va_S A s.heap H locs → lv_has ls 6 [(0, .ref a_x), (1, .int p1), (2, .int p2), (3, .int v17), (4, .int v18), (5, .int v8)] → W p l e ({ frames := 1, cells := 0, slots := 0, locals := 22 } : Room) s m ([.ref a_x, .int p1, .int p2] : List Value).toArray below meth c H locs 0 0 Q (F0 m 88 ls []) := by
                  intro v17 v18 H locs ls hf hHs hS hl
                  subst hHs
                  have hf := (ek88 v17 v18).symm.trans hf
                  refine lv_aload_n (pc := 88) hx hb dX10_oldest_88 rfl (lv_at hl 0 rfl) ?_
                  refine va_get (pc := 89) (D := D) (ci := 10) (v := .ref a_st) (C := RX10) (T := TX10) (N := 14) hx hb hts hinX10 hown hK hP 0 rfl rfl 2 (by decide) w_1 (fun _ h9 => h9) rfl dX10_oldest_89 ?_
                  refine va_getN (pc := 92) (D := D) (ci := 7) (v := .ref a_st_years) (C := RX7) (T := TX7) (N := 9) hx hb hts hinX7 hown hK hP 1 rfl rfl 3 (by decide) wn_25 (fun _ h9 => h9) rfl dX10_oldest_92 ?_
                  refine lv_iload (pc := 95) hx hb dX10_oldest_95 (lv_at hl 5 rfl) ?_
                  refine q_iald (pc := 97) hx hb hK hP 4 0 hf rfl rfl dX10_oldest_97 (fun v19 hf => ?_)
                  refine lv_aload_n (pc := 98) hx hb dX10_oldest_98 rfl (lv_at hl 0 rfl) ?_
                  refine va_get (pc := 99) (D := D) (ci := 10) (v := .ref a_st) (C := RX10) (T := TX10) (N := 14) hx hb hts hinX10 hown hK hP 0 rfl rfl 2 (by decide) w_1 (fun _ h9 => h9) rfl dX10_oldest_99 ?_
                  refine va_getN (pc := 102) (D := D) (ci := 7) (v := .ref a_st_years) (C := RX7) (T := TX7) (N := 9) hx hb hts hinX7 hown hK hP 1 rfl rfl 3 (by decide) wn_25 (fun _ h9 => h9) rfl dX10_oldest_102 ?_
                  refine lv_iload_n (pc := 105) hx hb dX10_oldest_105 rfl (lv_at hl 3 rfl) ?_
                  refine q_iald (pc := 106) hx hb hK hP 4 0 hf rfl rfl dX10_oldest_106 (fun v20 hf => ?_)
                  refine q_icmp_ne (pc := 107) (tgt := 113) hx hb dX10_oldest_107 (by decide) rfl hf (fun hf => ?_) (fun hf => ?_)
                  · exact J113 v17 v18 _ _ _ hf rfl hS (lv_sub hl [0, 1, 2, 3, 4, 5] rfl)
                  · obtain ⟨v21, ev21, hf⟩ := q_nm_e hf
                    refine lv_iinc (pc := 110) (v := v21) (lv' := [(4, .int v21), (0, .ref a_x), (1, .int p1), (2, .int p2), (3, .int v17), (5, .int v8)]) hx hb dX10_oldest_110 hl (k := 4) rfl (by rw [ev21]; rfl) (by decide) rfl (fun ls hl => ?_)
                    exact J113 v17 v21 _ _ _ hf rfl hS (lv_sub hl [1, 2, 3, 4, 0, 5] rfl)
                obtain ⟨k82, ek82, hf⟩ := q_j0_e hf
                have J82 : ∀  (H : Heap) (locs : List Loc) (ls : Array Slot), k82 = some (v9, v10) → H = s.heap → va_S A s.heap H locs → lv_has ls 6 [(0, .ref a_x), (1, .int p1), (2, .int p2), (5, .int v8)] → W p l e ({ frames := 1, cells := 0, slots := 0, locals := 22 } : Room) s m ([.ref a_x, .int p1, .int p2] : List Value).toArray below meth c H locs 0 0 Q (F0 m 82 ls []) := by
                  intro  H locs ls hf hHs hS hl
                  subst hHs
                  have hf := (ek82).symm.trans hf
                  refine lv_iload (pc := 82) hx hb dX10_oldest_82 (lv_at hl 3 rfl) ?_
                  refine lv_istore_n (pc := 84) (lv' := [(3, .int v8), (0, .ref a_x), (1, .int p1), (2, .int p2), (5, .int v8)]) hx hb dX10_oldest_84 rfl hl (by decide) rfl (fun ls hl => ?_)
                  refine lv_iconst (pc := 85) (v := 0) hx hb dX10_oldest_85 (by decide) ?_
                  obtain ⟨v22, ev22, hf⟩ := q_nm_e hf
                  refine q_topi ev22 ?_
                  refine lv_istore (pc := 86) (lv' := [(4, .int v22), (3, .int v8), (0, .ref a_x), (1, .int p1), (2, .int p2), (5, .int v8)]) hx hb dX10_oldest_86 hl (by decide) rfl (fun ls hl => ?_)
                  exact J88 v8 v22 _ _ _ hf rfl hS (lv_sub hl [2, 3, 4, 1, 0, 5] rfl)
                refine q_icmp_eq (pc := 57) (tgt := 82) hx hb dX10_oldest_57 (by decide) rfl hf (fun hf => ?_) (fun hf => ?_)
                · exact J82  _ _ _ hf rfl hS (lv_sub hl [0, 1, 2, 5] rfl)
                · refine lv_aload_n (pc := 60) hx hb dX10_oldest_60 rfl (lv_at hl 0 rfl) ?_
                  refine va_get (pc := 61) (D := D) (ci := 10) (v := .ref a_st) (C := RX10) (T := TX10) (N := 14) hx hb hts hinX10 hown hK hP 0 rfl rfl 2 (by decide) w_1 (fun _ h9 => h9) rfl dX10_oldest_61 ?_
                  refine va_getN (pc := 64) (D := D) (ci := 7) (v := .ref a_st_years) (C := RX7) (T := TX7) (N := 9) hx hb hts hinX7 hown hK hP 1 rfl rfl 3 (by decide) wn_25 (fun _ h9 => h9) rfl dX10_oldest_64 ?_
                  refine lv_iload (pc := 67) hx hb dX10_oldest_67 (lv_at hl 5 rfl) ?_
                  refine q_iald (pc := 69) hx hb hK hP 4 0 hf rfl rfl dX10_oldest_69 (fun v23 hf => ?_)
                  refine lv_aload_n (pc := 70) hx hb dX10_oldest_70 rfl (lv_at hl 0 rfl) ?_
                  refine va_get (pc := 71) (D := D) (ci := 10) (v := .ref a_st) (C := RX10) (T := TX10) (N := 14) hx hb hts hinX10 hown hK hP 0 rfl rfl 2 (by decide) w_1 (fun _ h9 => h9) rfl dX10_oldest_71 ?_
                  refine va_getN (pc := 74) (D := D) (ci := 7) (v := .ref a_st_years) (C := RX7) (T := TX7) (N := 9) hx hb hts hinX7 hown hK hP 1 rfl rfl 3 (by decide) wn_25 (fun _ h9 => h9) rfl dX10_oldest_74 ?_
                  refine lv_iload_n (pc := 77) hx hb dX10_oldest_77 rfl (lv_at hl 3 rfl) ?_
                  refine q_iald (pc := 78) hx hb hK hP 4 0 hf rfl rfl dX10_oldest_78 (fun v24 hf => ?_)
                  refine q_icmp_ge (pc := 79) (tgt := 88) hx hb dX10_oldest_79 (by decide) rfl hf (fun hf => ?_) (fun hf => ?_)
                  · exact J88 v6 v7 _ _ _ hf rfl hS (lv_sub hl [0, 1, 2, 3, 4, 5] rfl)
                  · exact J82  _ _ _ hf rfl hS (lv_sub hl [0, 1, 2, 5] rfl)
              · refine lv_goto (pc := 52) (tgt := 113) hx hb dX10_oldest_52 (by decide) ?_
                exact J113 v6 v7 _ _ _ hf rfl hS (lv_sub hl [0, 1, 2, 3, 4, 5] rfl)
        exact LP26 N v3 v4 v5 _ _ _ hm26 rfl hS (lv_sub hl [3, 4, 5, 2, 1, 0] rfl)
      · refine lv_iconst (pc := 16) (v := (-1)) hx hb dX10_oldest_16 (by decide) ?_
        obtain rfl := Option.some.inj hf
        rw [hQ]
        exact q_iretr (pc := 17) hx hb hr hlocks rfl hS dX10_oldest_17
  exact hgo _ _ rfl hP hS
end
section
/-! X10_parent -/
set_option maxRecDepth 100000 in
set_option maxHeartbeats 4000000 in
theorem c_X_parent (l : Launch) (D : va_G) (ci : Nat → ClassId) (A : Nat → Prop) (sa : Nat → Nat) (N : Nat) (Rw : va_W) (a_x : Nat) (a_at : Nat) (a_g : Nat) (a_st : Nat) (a_x_kept : Nat) (a_tp : Nat) (a_rd : Nat) (a_qu : Nat) (a_sp : Nat) (a_wk : Nat) (a_bx : Nat) (a_nt : Nat) (a_nu : Nat) (a_x_seen : Nat) (a_g_rowCuts : Nat) (a_g_columnCuts : Nat) (a_g_bandRows : Nat) (a_g_zoneColumns : Nat) (a_g_rows : Nat) (a_g_sheets : Nat) (x_keptStates : Int32) (g_bandRows : Nat → Int32) (g_zoneColumns : Nat → Int32) (g_rows : Nat → Int32) (g_sheets : Nat → Int32) (p1 : Int32) (p2 : Int32) (p3 : Int32) (r : Int32) (hf : f_X_parent N g_bandRows g_zoneColumns g_rows g_sheets p1 p2 p3 = some r) : Met l yX10_parent wsX10_parent ({ frames := 3, cells := 0, slots := 0, locals := 75 }) (va_Pc [.ref a_x, .int p1, .int p2, .int p3] (q_N D ci A sa ((a_x, .inr (10, [.ref a_at, .ref a_g, .ref a_st, .ref a_x_kept, .int x_keptStates, .ref a_tp, .ref a_rd, .ref a_qu, .ref a_sp, .ref a_wk, .ref a_bx, .ref a_nt, .ref a_nu, .ref a_x_seen])) :: (a_g, .inr (2, [.ref a_g_rowCuts, .ref a_g_columnCuts, .ref a_g_bandRows, .ref a_g_zoneColumns, .ref a_g_rows, .ref a_g_sheets])) :: (a_g_bandRows, .inl (ci 0, 5, .inl g_bandRows)) :: (a_g_zoneColumns, .inl (ci 0, 5, .inl g_zoneColumns)) :: (a_g_rows, .inl (ci 0, 5, .inl g_rows)) :: (a_g_sheets, .inl (ci 0, 5, .inl g_sheets)) :: Rw))) (q_R (some (.int r))) 0 0 A := by
  refine q_ofW (cc := cX10_parent) (maxL := 4) (ret := (some .int)) [.ref a_x, .int p1, .int p2, .int p3] (plainFor_of_name (by decide)) rfl (Nat.le_of_ble_eq_true rfl) ?_
  intro p e s m below meth c ls Q hQ hx hb hml hr hts hown hlocks hK hA hZ hP hD hS hl
  have hl : lv_has ls 4 [(0, .ref a_x), (1, .int p1), (2, .int p2), (3, .int p3)] := hl
  have hown : s.vm.findClass RX10 = some m.cls := hown
  have hinX10 : ∀ w ∈ wsX100, w ∈ wsX10_parent := fun _ h => List.mem_cons_of_mem _ (inWX100 _ h)
  have w_1 := hts (Cond.fieldLink RX10 20 "SheetNames" "grid" "LSheetNames$Grid;") (List.mem_cons_of_mem _ t_w876)
  unfold f_X_parent at hf
  have hgo : ∀ (H : Heap) (locs : List Loc), H = s.heap → va_P D vwCl ((a_x, .inr (10, [.ref a_at, .ref a_g, .ref a_st, .ref a_x_kept, .int x_keptStates, .ref a_tp, .ref a_rd, .ref a_qu, .ref a_sp, .ref a_wk, .ref a_bx, .ref a_nt, .ref a_nu, .ref a_x_seen])) :: (a_g, .inr (2, [.ref a_g_rowCuts, .ref a_g_columnCuts, .ref a_g_bandRows, .ref a_g_zoneColumns, .ref a_g_rows, .ref a_g_sheets])) :: (a_g_bandRows, .inl (ci 0, 5, .inl g_bandRows)) :: (a_g_zoneColumns, .inl (ci 0, 5, .inl g_zoneColumns)) :: (a_g_rows, .inl (ci 0, 5, .inl g_rows)) :: (a_g_sheets, .inl (ci 0, 5, .inl g_sheets)) :: Rw) H → va_S A s.heap H locs → W p l e ({ frames := 3, cells := 0, slots := 0, locals := 75 } : Room) s m ([.ref a_x, .int p1, .int p2, .int p3] : List Value).toArray below meth c H locs 0 0 Q (F0 m 0 ls []) := by
    intro H locs hH hP hS
    subst hH
    refine lv_aload_n (pc := 0) hx hb dX10_parent_0 rfl (lv_at hl 0 rfl) ?_
    refine va_get (pc := 1) (D := D) (ci := 10) (v := .ref a_g) (C := RX10) (T := TX10) (N := 14) hx hb hts hinX10 hown hK hP 0 rfl rfl 1 (by decide) w_1 (fun _ h9 => h9) rfl dX10_parent_1 ?_
    refine lv_iload_n (pc := 4) hx hb dX10_parent_4 rfl (lv_at hl 1 rfl) ?_
    refine lv_iload_n (pc := 5) hx hb dX10_parent_5 rfl (lv_at hl 2 rfl) ?_
    obtain ⟨v1, hm6, hf⟩ := q_b1_e hf
    refine q_cVr (pc := 6) (As := [.int p1, .int p2]) (rest := []) (v0 := (some (.int v1))) ⟨hx, hb, hml, hown, hts⟩ hK hA hZ hP hD hS hl.1 [1, 5] 6 rfl ⟨rfl, rfl, rfl⟩ (c_Grid_hasSheet l D ci A sa N (Rw) a_g a_g_rowCuts a_g_columnCuts a_g_bandRows a_g_zoneColumns a_g_rows a_g_sheets g_sheets p1 p2 v1 hm6) 1 rfl rfl (cwV 2 hts gX10_parent_X2_hasSheet rfl rfl rfl (by decide +kernel) ⟨Nat.le_of_ble_eq_true rfl, Nat.le_of_ble_eq_true rfl⟩) rfl rfl (Nat.le_of_ble_eq_true rfl) dX10_parent_6 ⟨Nat.zero_le _, Nat.zero_le _⟩ (fun locs hS => ?_)
    refine q_if_eq (pc := 9) (tgt := 21) hx hb dX10_parent_9 (by decide) rfl hf (fun hf => ?_) (fun hf => ?_)
    · refine lv_iconst (pc := 21) (v := (-1)) hx hb dX10_parent_21 (by decide) ?_
      obtain rfl := Option.some.inj hf
      rw [hQ]
      exact q_iretr (pc := 22) hx hb hr hlocks rfl hS dX10_parent_22
    · refine lv_iload_n (pc := 12) hx hb dX10_parent_12 rfl (lv_at hl 3 rfl) ?_
      refine lv_iconst (pc := 13) (v := 0) hx hb dX10_parent_13 (by decide) ?_
      refine lv_iload_n (pc := 14) hx hb dX10_parent_14 rfl (lv_at hl 1 rfl) ?_
      obtain ⟨v2, hm15, hf⟩ := q_b1_e hf
      refine q_cSr (pc := 15) (As := [.int p3, .int 0, .int p1]) (rest := []) (v0 := (some (.int v2))) ⟨hx, hb, hml, hown, hts⟩ hK hA hZ hP hD hS hl.1 [] 6 rfl ⟨rfl, rfl, rfl⟩ (c_X_isFrom l D ci A sa N (Rw) p3 0 p1 v2 hm15) (va_cwS 3 hts gX10_parent_X10_isFrom rfl rfl rfl (by decide +kernel) ⟨Nat.le_of_ble_eq_true rfl, Nat.le_of_ble_eq_true rfl⟩) rfl rfl (Nat.le_of_ble_eq_true rfl) dX10_parent_15 ⟨Nat.zero_le _, Nat.zero_le _⟩ (fun locs hS => ?_)
      refine q_if_ne (pc := 18) (tgt := 23) hx hb dX10_parent_18 (by decide) rfl hf (fun hf => ?_) (fun hf => ?_)
      · refine lv_aload_n (pc := 23) hx hb dX10_parent_23 rfl (lv_at hl 0 rfl) ?_
        refine va_get (pc := 24) (D := D) (ci := 10) (v := .ref a_g) (C := RX10) (T := TX10) (N := 14) hx hb hts hinX10 hown hK hP 0 rfl rfl 1 (by decide) w_1 (fun _ h9 => h9) rfl dX10_parent_24 ?_
        refine lv_iload_n (pc := 27) hx hb dX10_parent_27 rfl (lv_at hl 1 rfl) ?_
        refine lv_iload_n (pc := 28) hx hb dX10_parent_28 rfl (lv_at hl 2 rfl) ?_
        refine lv_iload_n (pc := 29) hx hb dX10_parent_29 rfl (lv_at hl 3 rfl) ?_
        obtain ⟨v3, hm30, hf⟩ := q_b1_e hf
        refine q_cVr (pc := 30) (As := [.int p1, .int p2, .int p3]) (rest := []) (v0 := (some (.int v3))) ⟨hx, hb, hml, hown, hts⟩ hK hA hZ hP hD hS hl.1 [1, 2, 3, 4, 5] 6 rfl ⟨rfl, rfl, rfl⟩ (c_Grid_keyAbove l D ci A sa N (Rw) a_g a_g_rowCuts a_g_columnCuts a_g_bandRows a_g_zoneColumns a_g_rows a_g_sheets g_bandRows g_zoneColumns g_rows g_sheets p1 p2 p3 v3 hm30) 1 rfl rfl (cwV 3 hts gX10_parent_X2_keyAbove rfl rfl rfl (by decide +kernel) ⟨Nat.le_of_ble_eq_true rfl, Nat.le_of_ble_eq_true rfl⟩) rfl rfl (Nat.le_of_ble_eq_true rfl) dX10_parent_30 ⟨Nat.zero_le _, Nat.zero_le _⟩ (fun locs hS => ?_)
        obtain rfl := Option.some.inj hf
        rw [hQ]
        exact q_iretr (pc := 33) hx hb hr hlocks rfl hS dX10_parent_33
      · refine lv_iconst (pc := 21) (v := (-1)) hx hb dX10_parent_21 (by decide) ?_
        obtain rfl := Option.some.inj hf
        rw [hQ]
        exact q_iretr (pc := 22) hx hb hr hlocks rfl hS dX10_parent_22
  exact hgo _ _ rfl hP hS
/-! X10_piece -/
set_option maxRecDepth 100000 in
set_option maxHeartbeats 4000000 in
theorem c_X_piece (l : Launch) (D : va_G) (ci : Nat → ClassId) (A : Nat → Prop) (sa : Nat → Nat) (N : Nat) (Rw : va_W) (a_x : Nat) (a_at : Nat) (a_g : Nat) (a_st : Nat) (a_x_kept : Nat) (a_tp : Nat) (a_rd : Nat) (a_qu : Nat) (a_sp : Nat) (a_wk : Nat) (a_bx : Nat) (a_nt : Nat) (a_nu : Nat) (a_x_seen : Nat) (a_st_levels : Nat) (a_st_keys : Nat) (a_st_years : Nat) (a_st_keysThere : Nat) (x_keptStates : Int32) (st_size : Int32) (st_shownBy : Int32) (st_deepestShown : Int32) (st_latestShown : Int32) (st_levels : Nat → Int32) (st_keys : Nat → Int32) (st_years : Nat → Int32) (p1 : Int32) (p2 : Int32) (r : Int32) (hf : f_X_piece st_levels st_keys st_years st_size p1 p2 = some r) : Met l yX10_piece wsX10_piece ({ frames := 1, cells := 0, slots := 0, locals := 22 }) (va_Pc [.ref a_x, .int p1, .int p2] (q_N D ci A sa ((a_x, .inr (10, [.ref a_at, .ref a_g, .ref a_st, .ref a_x_kept, .int x_keptStates, .ref a_tp, .ref a_rd, .ref a_qu, .ref a_sp, .ref a_wk, .ref a_bx, .ref a_nt, .ref a_nu, .ref a_x_seen])) :: (a_st, .inr (7, [.ref a_g, .ref a_st_levels, .ref a_st_keys, .ref a_st_years, .ref a_st_keysThere, .int st_size, .int st_shownBy, .int st_deepestShown, .int st_latestShown])) :: (a_st_levels, .inl (ci 0, 60, .inl st_levels)) :: (a_st_keys, .inl (ci 0, 60, .inl st_keys)) :: (a_st_years, .inl (ci 0, 60, .inl st_years)) :: Rw))) (q_R (some (.int r))) 0 0 A := by
  refine q_ofW (cc := cX10_piece) (maxL := 3) (ret := (some .int)) [.ref a_x, .int p1, .int p2] (plainFor_of_name (by decide)) rfl (Nat.le_of_ble_eq_true rfl) ?_
  intro p e s m below meth c ls Q hQ hx hb hml hr hts hown hlocks hK hA hZ hP hD hS hl
  have hl : lv_has ls 3 [(0, .ref a_x), (1, .int p1), (2, .int p2)] := hl
  have hown : s.vm.findClass RX10 = some m.cls := hown
  have hinX10 : ∀ w ∈ wsX100, w ∈ wsX10_piece := fun _ h => List.mem_cons_of_mem _ (inWX100 _ h)
  have hinX7 : ∀ w ∈ wsX70, w ∈ wsX10_piece := fun _ h => List.mem_cons_of_mem _ (inWX70 _ h)
  have w_1 := hts (Cond.fieldLink RX10 25 "SheetNames" "pieces" "LSheetNames$Store;") (List.mem_cons_of_mem _ t_w892)
  have wn_0 : (Cond.fieldLinkNest "SheetNames" 109 "SheetNames$Store" "size" "I" "SheetNames").before ([.ref a_x, .int p1, .int p2] : List Value).toArray s = true := (hZ.2.2.2.2.2.2.2.2.2.1 _ (List.mem_of_getElem? (i := 0) rfl)).use rfl
  have wn_25 : (Cond.fieldLinkNest "SheetNames" 376 "SheetNames$Store" "years" "[I" "SheetNames").before ([.ref a_x, .int p1, .int p2] : List Value).toArray s = true := (hZ.2.2.2.2.2.2.2.2.2.1 _ (List.mem_of_getElem? (i := 25) rfl)).use rfl
  have wn_26 : (Cond.fieldLinkNest "SheetNames" 382 "SheetNames$Store" "levels" "[I" "SheetNames").before ([.ref a_x, .int p1, .int p2] : List Value).toArray s = true := (hZ.2.2.2.2.2.2.2.2.2.1 _ (List.mem_of_getElem? (i := 26) rfl)).use rfl
  have wn_27 : (Cond.fieldLinkNest "SheetNames" 385 "SheetNames$Store" "keys" "[I" "SheetNames").before ([.ref a_x, .int p1, .int p2] : List Value).toArray s = true := (hZ.2.2.2.2.2.2.2.2.2.1 _ (List.mem_of_getElem? (i := 27) rfl)).use rfl
  unfold f_X_piece at hf
  have hgo : ∀ (H : Heap) (locs : List Loc), H = s.heap → va_P D vwCl ((a_x, .inr (10, [.ref a_at, .ref a_g, .ref a_st, .ref a_x_kept, .int x_keptStates, .ref a_tp, .ref a_rd, .ref a_qu, .ref a_sp, .ref a_wk, .ref a_bx, .ref a_nt, .ref a_nu, .ref a_x_seen])) :: (a_st, .inr (7, [.ref a_g, .ref a_st_levels, .ref a_st_keys, .ref a_st_years, .ref a_st_keysThere, .int st_size, .int st_shownBy, .int st_deepestShown, .int st_latestShown])) :: (a_st_levels, .inl (ci 0, 60, .inl st_levels)) :: (a_st_keys, .inl (ci 0, 60, .inl st_keys)) :: (a_st_years, .inl (ci 0, 60, .inl st_years)) :: Rw) H → va_S A s.heap H locs → W p l e ({ frames := 1, cells := 0, slots := 0, locals := 22 } : Room) s m ([.ref a_x, .int p1, .int p2] : List Value).toArray below meth c H locs 0 0 Q (F0 m 0 ls []) := by
    intro H locs hH hP hS
    subst hH
    refine lv_iload_n (pc := 0) hx hb dX10_piece_0 rfl (lv_at hl 1 rfl) ?_
    refine q_if_lt (pc := 1) (tgt := 13) hx hb dX10_piece_1 (by decide) rfl hf (fun hf => ?_) (fun hf => ?_)
    · refine lv_iconst (pc := 13) (v := (-1)) hx hb dX10_piece_13 (by decide) ?_
      obtain rfl := Option.some.inj hf
      rw [hQ]
      exact q_iretr (pc := 14) hx hb hr hlocks rfl hS dX10_piece_14
    · refine lv_iload_n (pc := 4) hx hb dX10_piece_4 rfl (lv_at hl 2 rfl) ?_
      refine lv_iconst (pc := 5) (v := 0) hx hb dX10_piece_5 (by decide) ?_
      refine lv_iconst (pc := 6) (v := 2) hx hb dX10_piece_6 (by decide) ?_
      obtain ⟨v1, hm7, hf⟩ := q_b1_e hf
      refine q_cSr (pc := 7) (As := [.int p2, .int 0, .int 2]) (rest := []) (v0 := (some (.int v1))) ⟨hx, hb, hml, hown, hts⟩ hK hA hZ hP hD hS hl.1 [] 5 rfl ⟨rfl, rfl, rfl⟩ (c_X_isFrom l D ci A sa N (Rw) p2 0 2 v1 hm7) (va_cwS 3 hts gX10_piece_X10_isFrom rfl rfl rfl (by decide +kernel) ⟨Nat.le_of_ble_eq_true rfl, Nat.le_of_ble_eq_true rfl⟩) rfl rfl (Nat.le_of_ble_eq_true rfl) dX10_piece_7 ⟨Nat.zero_le _, Nat.zero_le _⟩ (fun locs hS => ?_)
      refine q_if_ne (pc := 10) (tgt := 15) hx hb dX10_piece_10 (by decide) rfl hf (fun hf => ?_) (fun hf => ?_)
      · refine lv_iload_n (pc := 15) hx hb dX10_piece_15 rfl (lv_at hl 1 rfl) ?_
        refine lv_aload_n (pc := 16) hx hb dX10_piece_16 rfl (lv_at hl 0 rfl) ?_
        refine va_get (pc := 17) (D := D) (ci := 10) (v := .ref a_st) (C := RX10) (T := TX10) (N := 14) hx hb hts hinX10 hown hK hP 0 rfl rfl 2 (by decide) w_1 (fun _ h9 => h9) rfl dX10_piece_17 ?_
        refine va_getN (pc := 20) (D := D) (ci := 7) (v := .int st_size) (C := RX7) (T := TX7) (N := 9) hx hb hts hinX7 hown hK hP 1 rfl rfl 5 (by decide) wn_0 (fun _ h9 => h9) rfl dX10_piece_20 ?_
        refine q_icmp_lt (pc := 23) (tgt := 29) hx hb dX10_piece_23 (by decide) rfl hf (fun hf => ?_) (fun hf => ?_)
        · refine lv_iload_n (pc := 29) hx hb dX10_piece_29 rfl (lv_at hl 2 rfl) ?_
          rcases q_if_e hf with ⟨hc0, hf⟩ | ⟨hc0, hf⟩
          · refine lv_lookup (pc := 30) (tgt := 56) (off := 26) hx hb dX10_piece_30 (by decide) (by rw [hc0]; decide) (by decide) ?_
            refine lv_aload_n (pc := 56) hx hb dX10_piece_56 rfl (lv_at hl 0 rfl) ?_
            refine va_get (pc := 57) (D := D) (ci := 10) (v := .ref a_st) (C := RX10) (T := TX10) (N := 14) hx hb hts hinX10 hown hK hP 0 rfl rfl 2 (by decide) w_1 (fun _ h9 => h9) rfl dX10_piece_57 ?_
            refine va_getN (pc := 60) (D := D) (ci := 7) (v := .ref a_st_levels) (C := RX7) (T := TX7) (N := 9) hx hb hts hinX7 hown hK hP 1 rfl rfl 1 (by decide) wn_26 (fun _ h9 => h9) rfl dX10_piece_60 ?_
            refine lv_iload_n (pc := 63) hx hb dX10_piece_63 rfl (lv_at hl 1 rfl) ?_
            refine q_iald (pc := 64) hx hb hK hP 2 0 hf rfl rfl dX10_piece_64 (fun v2 hf => ?_)
            obtain rfl := Option.some.inj hf
            rw [hQ]
            exact q_iretr (pc := 65) hx hb hr hlocks rfl hS dX10_piece_65
          rcases q_if_e hf with ⟨hc1, hf⟩ | ⟨hc1, hf⟩
          · refine lv_lookup (pc := 30) (tgt := 66) (off := 36) hx hb dX10_piece_30 (by decide) (by rw [hc1]; decide) (by decide) ?_
            refine lv_aload_n (pc := 66) hx hb dX10_piece_66 rfl (lv_at hl 0 rfl) ?_
            refine va_get (pc := 67) (D := D) (ci := 10) (v := .ref a_st) (C := RX10) (T := TX10) (N := 14) hx hb hts hinX10 hown hK hP 0 rfl rfl 2 (by decide) w_1 (fun _ h9 => h9) rfl dX10_piece_67 ?_
            refine va_getN (pc := 70) (D := D) (ci := 7) (v := .ref a_st_keys) (C := RX7) (T := TX7) (N := 9) hx hb hts hinX7 hown hK hP 1 rfl rfl 2 (by decide) wn_27 (fun _ h9 => h9) rfl dX10_piece_70 ?_
            refine lv_iload_n (pc := 73) hx hb dX10_piece_73 rfl (lv_at hl 1 rfl) ?_
            refine q_iald (pc := 74) hx hb hK hP 3 0 hf rfl rfl dX10_piece_74 (fun v3 hf => ?_)
            obtain rfl := Option.some.inj hf
            rw [hQ]
            exact q_iretr (pc := 75) hx hb hr hlocks rfl hS dX10_piece_75
          refine lv_lookup (pc := 30) (tgt := 76) (off := 46) hx hb dX10_piece_30 (by decide) ((lv_osw (k := 0) (a := 0) hc0 rfl).trans ((lv_osw (k := 1) (a := 1) hc1 rfl).trans rfl)) (by decide) ?_
          refine lv_aload_n (pc := 76) hx hb dX10_piece_76 rfl (lv_at hl 0 rfl) ?_
          refine va_get (pc := 77) (D := D) (ci := 10) (v := .ref a_st) (C := RX10) (T := TX10) (N := 14) hx hb hts hinX10 hown hK hP 0 rfl rfl 2 (by decide) w_1 (fun _ h9 => h9) rfl dX10_piece_77 ?_
          refine va_getN (pc := 80) (D := D) (ci := 7) (v := .ref a_st_years) (C := RX7) (T := TX7) (N := 9) hx hb hts hinX7 hown hK hP 1 rfl rfl 3 (by decide) wn_25 (fun _ h9 => h9) rfl dX10_piece_80 ?_
          refine lv_iload_n (pc := 83) hx hb dX10_piece_83 rfl (lv_at hl 1 rfl) ?_
          refine q_iald (pc := 84) hx hb hK hP 4 0 hf rfl rfl dX10_piece_84 (fun v4 hf => ?_)
          obtain rfl := Option.some.inj hf
          rw [hQ]
          exact q_iretr (pc := 85) hx hb hr hlocks rfl hS dX10_piece_85
        · refine lv_bipush (pc := 26) (v := (-2)) hx hb dX10_piece_26 (by decide) ?_
          obtain rfl := Option.some.inj hf
          rw [hQ]
          exact q_iretr (pc := 28) hx hb hr hlocks rfl hS dX10_piece_28
      · refine lv_iconst (pc := 13) (v := (-1)) hx hb dX10_piece_13 (by decide) ?_
        obtain rfl := Option.some.inj hf
        rw [hQ]
        exact q_iretr (pc := 14) hx hb hr hlocks rfl hS dX10_piece_14
  exact hgo _ _ rfl hP hS
/-! X10_reach -/
set_option maxRecDepth 100000 in
set_option maxHeartbeats 4000000 in
theorem c_X_reach (l : Launch) (D : va_G) (ci : Nat → ClassId) (A : Nat → Prop) (sa : Nat → Nat) (N : Nat) (Rw : va_W) (a_x : Nat) (a_at : Nat) (a_g : Nat) (a_st : Nat) (a_x_kept : Nat) (a_tp : Nat) (a_rd : Nat) (a_qu : Nat) (a_sp : Nat) (a_wk : Nat) (a_bx : Nat) (a_nt : Nat) (a_nu : Nat) (a_x_seen : Nat) (a_ws : Nat) (a_wk_steps : Nat) (a_wk_reached : Nat) (n_wk_steps : Nat) (n_wk_reached : Nat) (a_ws_first : Nat) (a_ws_many : Nat) (a_ws_corner : Nat) (a_g_rowCuts : Nat) (a_g_columnCuts : Nat) (a_g_bandRows : Nat) (a_g_zoneColumns : Nat) (a_g_rows : Nat) (a_g_sheets : Nat) (x_keptStates : Int32) (wk_many : Int32) (wk_steps : Nat → Int32) (wk_reached : Nat → Int32) (ws_cornerCount : Int32) (ws_level : Int32) (ws_row : Int32) (ws_start : Int32) (ws_place : Int32) (ws_length : Int32) (ws_cap : Int32) (ws_first : Nat → Int32) (ws_many : Nat → Int32) (g_bandRows : Nat → Int32) (g_zoneColumns : Nat → Int32) (g_rows : Nat → Int32) (g_sheets : Nat → Int32) (p1 : Int32) (p2 : Int32) (p3 : Int32) (r : Int32) (o1 : Nat → Int32) (o2 : Nat → Int32) (o3 : Int32) (o4 : Nat → Int32) (o5 : Nat → Int32) (o6 : Int32) (o7 : Int32) (o8 : Int32) (o9 : Int32) (o10 : Int32) (o11 : Int32) (hf : f_X_reach N n_wk_steps n_wk_reached wk_steps wk_reached wk_many ws_first ws_many ws_level ws_row ws_start ws_place ws_length ws_cap g_bandRows g_zoneColumns g_rows g_sheets p1 p2 p3 = some (r, o1, o2, o3, o4, o5, o6, o7, o8, o9, o10, o11)) : Met l yX10_reach wsX10_reach ({ frames := 4, cells := 0, slots := 0, locals := 112 }) (va_Pc [.ref a_x, .int p1, .int p2, .int p3] (q_N D ci A sa ((a_x, .inr (10, [.ref a_at, .ref a_g, .ref a_st, .ref a_x_kept, .int x_keptStates, .ref a_tp, .ref a_rd, .ref a_qu, .ref a_sp, .ref a_wk, .ref a_bx, .ref a_nt, .ref a_nu, .ref a_x_seen])) :: (a_wk, .inr (9, [.ref a_ws, .ref a_wk_steps, .ref a_wk_reached, .int wk_many])) :: (a_wk_steps, .inl (ci 0, n_wk_steps, .inl wk_steps)) :: (a_wk_reached, .inl (ci 0, n_wk_reached, .inl wk_reached)) :: (a_ws, .inr (6, [.ref a_g, .ref a_ws_first, .ref a_ws_many, .ref a_ws_corner, .int ws_cornerCount, .int ws_level, .int ws_row, .int ws_start, .int ws_place, .int ws_length, .int ws_cap])) :: (a_ws_first, .inl (ci 0, 4, .inl ws_first)) :: (a_ws_many, .inl (ci 0, 4, .inl ws_many)) :: (a_g, .inr (2, [.ref a_g_rowCuts, .ref a_g_columnCuts, .ref a_g_bandRows, .ref a_g_zoneColumns, .ref a_g_rows, .ref a_g_sheets])) :: (a_g_bandRows, .inl (ci 0, 5, .inl g_bandRows)) :: (a_g_zoneColumns, .inl (ci 0, 5, .inl g_zoneColumns)) :: (a_g_rows, .inl (ci 0, 5, .inl g_rows)) :: (a_g_sheets, .inl (ci 0, 5, .inl g_sheets)) :: Rw))) (q_Q (some (.int r)) (q_O D A ((a_x, .inr (10, [.ref a_at, .ref a_g, .ref a_st, .ref a_x_kept, .int x_keptStates, .ref a_tp, .ref a_rd, .ref a_qu, .ref a_sp, .ref a_wk, .ref a_bx, .ref a_nt, .ref a_nu, .ref a_x_seen])) :: (a_wk, .inr (9, [.ref a_ws, .ref a_wk_steps, .ref a_wk_reached, .int o3])) :: (a_wk_steps, .inl (ci 0, n_wk_steps, .inl o1)) :: (a_wk_reached, .inl (ci 0, n_wk_reached, .inl o2)) :: (a_ws, .inr (6, [.ref a_g, .ref a_ws_first, .ref a_ws_many, .ref a_ws_corner, .int ws_cornerCount, .int o6, .int o7, .int o8, .int o9, .int o10, .int o11])) :: (a_ws_first, .inl (ci 0, 4, .inl o4)) :: (a_ws_many, .inl (ci 0, 4, .inl o5)) :: (a_g, .inr (2, [.ref a_g_rowCuts, .ref a_g_columnCuts, .ref a_g_bandRows, .ref a_g_zoneColumns, .ref a_g_rows, .ref a_g_sheets])) :: (a_g_bandRows, .inl (ci 0, 5, .inl g_bandRows)) :: (a_g_zoneColumns, .inl (ci 0, 5, .inl g_zoneColumns)) :: (a_g_rows, .inl (ci 0, 5, .inl g_rows)) :: (a_g_sheets, .inl (ci 0, 5, .inl g_sheets)) :: Rw)) A) 0 0 A := by
  refine q_ofW (cc := cX10_reach) (maxL := 4) (ret := (some .int)) [.ref a_x, .int p1, .int p2, .int p3] (plainFor_of_name (by decide)) rfl (Nat.le_of_ble_eq_true rfl) ?_
  intro p e s m below meth c ls Q hQ hx hb hml hr hts hown hlocks hK hA hZ hP hD hS hl
  have hl : lv_has ls 4 [(0, .ref a_x), (1, .int p1), (2, .int p2), (3, .int p3)] := hl
  have hown : s.vm.findClass RX10 = some m.cls := hown
  have hinX10 : ∀ w ∈ wsX100, w ∈ wsX10_reach := fun _ h => List.mem_cons_of_mem _ (inWX100 _ h)
  have hinX2 : ∀ w ∈ wsX20, w ∈ wsX10_reach := fun _ h => List.mem_cons_of_mem _ (inWX20 _ h)
  have w_1 := hts (Cond.fieldLink RX10 20 "SheetNames" "grid" "LSheetNames$Grid;") (List.mem_cons_of_mem _ t_w876)
  have w_2 := hts (Cond.fieldLink RX10 73 "SheetNames" "walk" "LSheetNames$Walk;") (List.mem_cons_of_mem _ t_w881)
  have wn_1 : (Cond.fieldLinkNest "SheetNames" 126 "SheetNames$Grid" "sheets" "[I" "SheetNames").before ([.ref a_x, .int p1, .int p2, .int p3] : List Value).toArray s = true := (hZ.2.2.2.2.2.2.2.2.2.1 _ (List.mem_of_getElem? (i := 1) rfl)).use rfl
  unfold f_X_reach at hf
  have hgo : ∀ (H : Heap) (locs : List Loc), H = s.heap → va_P D vwCl ((a_x, .inr (10, [.ref a_at, .ref a_g, .ref a_st, .ref a_x_kept, .int x_keptStates, .ref a_tp, .ref a_rd, .ref a_qu, .ref a_sp, .ref a_wk, .ref a_bx, .ref a_nt, .ref a_nu, .ref a_x_seen])) :: (a_wk, .inr (9, [.ref a_ws, .ref a_wk_steps, .ref a_wk_reached, .int wk_many])) :: (a_wk_steps, .inl (ci 0, n_wk_steps, .inl wk_steps)) :: (a_wk_reached, .inl (ci 0, n_wk_reached, .inl wk_reached)) :: (a_ws, .inr (6, [.ref a_g, .ref a_ws_first, .ref a_ws_many, .ref a_ws_corner, .int ws_cornerCount, .int ws_level, .int ws_row, .int ws_start, .int ws_place, .int ws_length, .int ws_cap])) :: (a_ws_first, .inl (ci 0, 4, .inl ws_first)) :: (a_ws_many, .inl (ci 0, 4, .inl ws_many)) :: (a_g, .inr (2, [.ref a_g_rowCuts, .ref a_g_columnCuts, .ref a_g_bandRows, .ref a_g_zoneColumns, .ref a_g_rows, .ref a_g_sheets])) :: (a_g_bandRows, .inl (ci 0, 5, .inl g_bandRows)) :: (a_g_zoneColumns, .inl (ci 0, 5, .inl g_zoneColumns)) :: (a_g_rows, .inl (ci 0, 5, .inl g_rows)) :: (a_g_sheets, .inl (ci 0, 5, .inl g_sheets)) :: Rw) H → va_S A s.heap H locs → W p l e ({ frames := 4, cells := 0, slots := 0, locals := 112 } : Room) s m ([.ref a_x, .int p1, .int p2, .int p3] : List Value).toArray below meth c H locs 0 0 Q (F0 m 0 ls []) := by
    intro H locs hH hP hS
    refine lv_aload_n (pc := 0) hx hb dX10_reach_0 rfl (lv_at hl 0 rfl) ?_
    refine va_get (pc := 1) (D := D) (ci := 10) (v := .ref a_g) (C := RX10) (T := TX10) (N := 14) hx hb hts hinX10 hown hK hP 0 rfl rfl 1 (by decide) w_1 (fun _ h9 => h9) rfl dX10_reach_1 ?_
    refine lv_iload_n (pc := 4) hx hb dX10_reach_4 rfl (lv_at hl 1 rfl) ?_
    refine lv_iload_n (pc := 5) hx hb dX10_reach_5 rfl (lv_at hl 2 rfl) ?_
    obtain ⟨v1, hm6, hf⟩ := q_b1_e hf
    refine q_cVr (pc := 6) (As := [.int p1, .int p2]) (rest := []) (v0 := (some (.int v1))) ⟨hx, hb, hml, hown, hts⟩ hK hA hZ hP hD hS hl.1 [7, 11] 12 rfl ⟨rfl, rfl, rfl⟩ (c_Grid_hasSheet l D ci A sa N (Rw) a_g a_g_rowCuts a_g_columnCuts a_g_bandRows a_g_zoneColumns a_g_rows a_g_sheets g_sheets p1 p2 v1 hm6) 7 rfl rfl (cwV 2 hts gX10_reach_X2_hasSheet rfl rfl rfl (by decide +kernel) ⟨Nat.le_of_ble_eq_true rfl, Nat.le_of_ble_eq_true rfl⟩) rfl rfl (Nat.le_of_ble_eq_true rfl) dX10_reach_6 ⟨Nat.zero_le _, Nat.zero_le _⟩ (fun locs hS => ?_)
    refine q_if_eq (pc := 9) (tgt := 16) hx hb dX10_reach_9 (by decide) rfl hf (fun hf => ?_) (fun hf => ?_)
    · refine lv_iconst (pc := 16) (v := (-1)) hx hb dX10_reach_16 (by decide) ?_
      obtain ⟨e90, e91, e92, e93, e94, e95, e96, e97, e98, e99, e910, e911⟩ := q_inj12 (Option.some.inj hf)
      rw [hQ, ← e90, ← e91, ← e92, ← e93, ← e94, ← e95, ← e96, ← e97, ← e98, ← e99, ← e910, ← e911]
      exact q_iret (pc := 17) hx hb hr hlocks hP hD hS dX10_reach_17
    · refine lv_iload_n (pc := 12) hx hb dX10_reach_12 rfl (lv_at hl 3 rfl) ?_
      refine q_if_ge (pc := 13) (tgt := 18) hx hb dX10_reach_13 (by decide) rfl hf (fun hf => ?_) (fun hf => ?_)
      · refine lv_aload_n (pc := 18) hx hb dX10_reach_18 rfl (lv_at hl 0 rfl) ?_
        refine va_get (pc := 19) (D := D) (ci := 10) (v := .ref a_g) (C := RX10) (T := TX10) (N := 14) hx hb hts hinX10 hown hK hP 0 rfl rfl 1 (by decide) w_1 (fun _ h9 => h9) rfl dX10_reach_19 ?_
        refine va_getN (pc := 22) (D := D) (ci := 2) (v := .ref a_g_sheets) (C := RX2) (T := TX2) (N := 6) hx hb hts hinX2 hown hK hP 7 rfl rfl 5 (by decide) wn_1 (fun _ h9 => h9) rfl dX10_reach_22 ?_
        refine lv_iload_n (pc := 25) hx hb dX10_reach_25 rfl (lv_at hl 1 rfl) ?_
        refine q_iald (pc := 26) hx hb hK hP 11 0 hf rfl rfl dX10_reach_26 (fun v2 hf => ?_)
        refine lv_sipush (pc := 27) (v := 20000) hx hb dX10_reach_27 (by decide) ?_
        refine q_icmp_le (pc := 30) (tgt := 36) hx hb dX10_reach_30 (by decide) rfl hf (fun hf => ?_) (fun hf => ?_)
        · refine lv_aload_n (pc := 36) hx hb dX10_reach_36 rfl (lv_at hl 0 rfl) ?_
          refine va_get (pc := 37) (D := D) (ci := 10) (v := .ref a_wk) (C := RX10) (T := TX10) (N := 14) hx hb hts hinX10 hown hK hP 0 rfl rfl 9 (by decide) w_2 (fun _ h9 => h9) rfl dX10_reach_37 ?_
          refine lv_iload_n (pc := 40) hx hb dX10_reach_40 rfl (lv_at hl 1 rfl) ?_
          refine lv_iload_n (pc := 41) hx hb dX10_reach_41 rfl (lv_at hl 2 rfl) ?_
          obtain ⟨f3, f4, v5, f6, f7, v8, v9, v10, v11, v12, v13, hm42, hf⟩ := q_b11_e hf
          refine q_cV (pc := 42) (As := [.int p1, .int p2]) (rest := []) (v0 := none) ⟨hx, hb, hml, hown, hts⟩ hK hA hZ hP hD hS hl.1 [1, 2, 3, 4, 5, 6, 7, 8, 9, 10, 11, 0] 12 rfl ⟨rfl, rfl, rfl⟩ (c_Walk_spread l D ci A sa N ((a_x, .inr (10, [.ref a_at, .ref a_g, .ref a_st, .ref a_x_kept, .int x_keptStates, .ref a_tp, .ref a_rd, .ref a_qu, .ref a_sp, .ref a_wk, .ref a_bx, .ref a_nt, .ref a_nu, .ref a_x_seen])) :: Rw) a_wk a_ws a_wk_steps a_wk_reached n_wk_steps n_wk_reached a_g a_ws_first a_ws_many a_ws_corner a_g_rowCuts a_g_columnCuts a_g_bandRows a_g_zoneColumns a_g_rows a_g_sheets wk_many wk_steps wk_reached ws_cornerCount ws_level ws_row ws_start ws_place ws_length ws_cap ws_first ws_many g_bandRows g_zoneColumns g_rows g_sheets p1 p2 f3 f4 v5 f6 f7 v8 v9 v10 v11 v12 v13 hm42) 1 rfl rfl (cwV 2 hts gX10_reach_X9_spread rfl rfl rfl (by decide +kernel) ⟨Nat.le_of_ble_eq_true rfl, Nat.le_of_ble_eq_true rfl⟩) rfl rfl (Nat.le_of_ble_eq_true rfl) dX10_reach_42 ⟨Nat.zero_le _, Nat.zero_le _⟩ [11, 0, 1, 2, 3, 4, 5, 6, 7, 8, 9, 10] 12 rfl ⟨rfl, rfl, rfl⟩ (fun H locs hP hD hS => ?_)
          obtain ⟨hP, hD⟩ : va_PD D A ((a_x, .inr (10, [.ref a_at, .ref a_g, .ref a_st, .ref a_x_kept, .int x_keptStates, .ref a_tp, .ref a_rd, .ref a_qu, .ref a_sp, .ref a_wk, .ref a_bx, .ref a_nt, .ref a_nu, .ref a_x_seen])) :: (a_wk, .inr (9, [.ref a_ws, .ref a_wk_steps, .ref a_wk_reached, .int v5])) :: (a_wk_steps, .inl (ci 0, n_wk_steps, .inl f3)) :: (a_wk_reached, .inl (ci 0, n_wk_reached, .inl f4)) :: (a_ws, .inr (6, [.ref a_g, .ref a_ws_first, .ref a_ws_many, .ref a_ws_corner, .int ws_cornerCount, .int v8, .int v9, .int v10, .int v11, .int v12, .int v13])) :: (a_ws_first, .inl (ci 0, 4, .inl f6)) :: (a_ws_many, .inl (ci 0, 4, .inl f7)) :: (a_g, .inr (2, [.ref a_g_rowCuts, .ref a_g_columnCuts, .ref a_g_bandRows, .ref a_g_zoneColumns, .ref a_g_rows, .ref a_g_sheets])) :: (a_g_bandRows, .inl (ci 0, 5, .inl g_bandRows)) :: (a_g_zoneColumns, .inl (ci 0, 5, .inl g_zoneColumns)) :: (a_g_rows, .inl (ci 0, 5, .inl g_rows)) :: (a_g_sheets, .inl (ci 0, 5, .inl g_sheets)) :: Rw) H := ⟨hP, hD⟩
          refine lv_aload_n (pc := 45) hx hb dX10_reach_45 rfl (lv_at hl 0 rfl) ?_
          refine va_get (pc := 46) (D := D) (ci := 10) (v := .ref a_wk) (C := RX10) (T := TX10) (N := 14) hx hb hts hinX10 hown hK hP 0 rfl rfl 9 (by decide) w_2 (fun _ h9 => h9) rfl dX10_reach_46 ?_
          refine lv_iload_n (pc := 49) hx hb dX10_reach_49 rfl (lv_at hl 3 rfl) ?_
          obtain ⟨v14, hm50, hf⟩ := q_b1_e hf
          refine q_cVr (pc := 50) (As := [.int p3]) (rest := []) (v0 := (some (.int v14))) ⟨hx, hb, hml, hown, hts⟩ hK hA hZ hP hD hS hl.1 [1, 2] 12 rfl ⟨rfl, rfl, rfl⟩ (c_Walk_within l D ci A sa N (Rw) a_wk a_ws a_wk_steps a_wk_reached n_wk_steps v5 f3 p3 v14 hm50) 1 rfl rfl (cwV 1 hts gX10_reach_X9_within rfl rfl rfl (by decide +kernel) ⟨Nat.le_of_ble_eq_true rfl, Nat.le_of_ble_eq_true rfl⟩) rfl rfl (Nat.le_of_ble_eq_true rfl) dX10_reach_50 ⟨Nat.zero_le _, Nat.zero_le _⟩ (fun locs hS => ?_)
          obtain ⟨e90, e91, e92, e93, e94, e95, e96, e97, e98, e99, e910, e911⟩ := q_inj12 (Option.some.inj hf)
          rw [hQ, ← e90, ← e91, ← e92, ← e93, ← e94, ← e95, ← e96, ← e97, ← e98, ← e99, ← e910, ← e911]
          exact q_iret (pc := 53) hx hb hr hlocks hP hD hS dX10_reach_53
        · refine lv_bipush (pc := 33) (v := (-3)) hx hb dX10_reach_33 (by decide) ?_
          obtain ⟨e90, e91, e92, e93, e94, e95, e96, e97, e98, e99, e910, e911⟩ := q_inj12 (Option.some.inj hf)
          rw [hQ, ← e90, ← e91, ← e92, ← e93, ← e94, ← e95, ← e96, ← e97, ← e98, ← e99, ← e910, ← e911]
          exact q_iret (pc := 35) hx hb hr hlocks hP hD hS dX10_reach_35
      · refine lv_iconst (pc := 16) (v := (-1)) hx hb dX10_reach_16 (by decide) ?_
        obtain ⟨e90, e91, e92, e93, e94, e95, e96, e97, e98, e99, e910, e911⟩ := q_inj12 (Option.some.inj hf)
        rw [hQ, ← e90, ← e91, ← e92, ← e93, ← e94, ← e95, ← e96, ← e97, ← e98, ← e99, ← e910, ← e911]
        exact q_iret (pc := 17) hx hb hr hlocks hP hD hS dX10_reach_17
  exact hgo _ _ rfl hP hS
/-! X10_renew -/
set_option maxRecDepth 100000 in
set_option maxHeartbeats 4000000 in
theorem c_X_renew (l : Launch) (D : va_G) (ci : Nat → ClassId) (A : Nat → Prop) (sa : Nat → Nat) (N : Nat) (Rw : va_W) (a_x : Nat) (a_at : Nat) (a_g : Nat) (a_st : Nat) (a_x_kept : Nat) (a_tp : Nat) (a_rd : Nat) (a_qu : Nat) (a_sp : Nat) (a_wk : Nat) (a_bx : Nat) (a_nt : Nat) (a_nu : Nat) (a_x_seen : Nat) (a_st_levels : Nat) (a_st_keys : Nat) (a_st_years : Nat) (a_st_keysThere : Nat) (x_keptStates : Int32) (st_size : Int32) (st_shownBy : Int32) (st_deepestShown : Int32) (st_latestShown : Int32) (st_levels : Nat → Int32) (st_years : Nat → Int32) (p1 : Int32) (p2 : Int32) (r : Int32) (o1 : Nat → Int32) (hf : f_X_renew N st_levels st_years st_size p1 p2 = some (r, o1)) : Met l yX10_renew wsX10_renew ({ frames := 1, cells := 0, slots := 0, locals := 22 }) (va_Pc [.ref a_x, .int p1, .int p2] (q_N D ci A sa ((a_x, .inr (10, [.ref a_at, .ref a_g, .ref a_st, .ref a_x_kept, .int x_keptStates, .ref a_tp, .ref a_rd, .ref a_qu, .ref a_sp, .ref a_wk, .ref a_bx, .ref a_nt, .ref a_nu, .ref a_x_seen])) :: (a_st, .inr (7, [.ref a_g, .ref a_st_levels, .ref a_st_keys, .ref a_st_years, .ref a_st_keysThere, .int st_size, .int st_shownBy, .int st_deepestShown, .int st_latestShown])) :: (a_st_levels, .inl (ci 0, 60, .inl st_levels)) :: (a_st_years, .inl (ci 0, 60, .inl st_years)) :: Rw))) (q_Q (some (.int r)) (q_O D A ((a_x, .inr (10, [.ref a_at, .ref a_g, .ref a_st, .ref a_x_kept, .int x_keptStates, .ref a_tp, .ref a_rd, .ref a_qu, .ref a_sp, .ref a_wk, .ref a_bx, .ref a_nt, .ref a_nu, .ref a_x_seen])) :: (a_st, .inr (7, [.ref a_g, .ref a_st_levels, .ref a_st_keys, .ref a_st_years, .ref a_st_keysThere, .int st_size, .int st_shownBy, .int st_deepestShown, .int st_latestShown])) :: (a_st_levels, .inl (ci 0, 60, .inl st_levels)) :: (a_st_years, .inl (ci 0, 60, .inl o1)) :: Rw)) A) 0 0 A := by
  refine q_ofW (cc := cX10_renew) (maxL := 5) (ret := (some .int)) [.ref a_x, .int p1, .int p2] (plainFor_of_name (by decide)) rfl (Nat.le_of_ble_eq_true rfl) ?_
  intro p e s m below meth c ls Q hQ hx hb hml hr hts hown hlocks hK hA hZ hP hD hS hl
  have hl : lv_has ls 5 [(0, .ref a_x), (1, .int p1), (2, .int p2)] := hl
  have hown : s.vm.findClass RX10 = some m.cls := hown
  have hinX10 : ∀ w ∈ wsX100, w ∈ wsX10_renew := fun _ h => List.mem_cons_of_mem _ (inWX100 _ h)
  have hinX7 : ∀ w ∈ wsX70, w ∈ wsX10_renew := fun _ h => List.mem_cons_of_mem _ (inWX70 _ h)
  have w_1 := hts (Cond.fieldLink RX10 25 "SheetNames" "pieces" "LSheetNames$Store;") (List.mem_cons_of_mem _ t_w892)
  have wn_0 : (Cond.fieldLinkNest "SheetNames" 109 "SheetNames$Store" "size" "I" "SheetNames").before ([.ref a_x, .int p1, .int p2] : List Value).toArray s = true := (hZ.2.2.2.2.2.2.2.2.2.1 _ (List.mem_of_getElem? (i := 0) rfl)).use rfl
  have wn_25 : (Cond.fieldLinkNest "SheetNames" 376 "SheetNames$Store" "years" "[I" "SheetNames").before ([.ref a_x, .int p1, .int p2] : List Value).toArray s = true := (hZ.2.2.2.2.2.2.2.2.2.1 _ (List.mem_of_getElem? (i := 25) rfl)).use rfl
  have wn_26 : (Cond.fieldLinkNest "SheetNames" 382 "SheetNames$Store" "levels" "[I" "SheetNames").before ([.ref a_x, .int p1, .int p2] : List Value).toArray s = true := (hZ.2.2.2.2.2.2.2.2.2.1 _ (List.mem_of_getElem? (i := 26) rfl)).use rfl
  unfold f_X_renew at hf
  have hgo : ∀ (H : Heap) (locs : List Loc), H = s.heap → va_P D vwCl ((a_x, .inr (10, [.ref a_at, .ref a_g, .ref a_st, .ref a_x_kept, .int x_keptStates, .ref a_tp, .ref a_rd, .ref a_qu, .ref a_sp, .ref a_wk, .ref a_bx, .ref a_nt, .ref a_nu, .ref a_x_seen])) :: (a_st, .inr (7, [.ref a_g, .ref a_st_levels, .ref a_st_keys, .ref a_st_years, .ref a_st_keysThere, .int st_size, .int st_shownBy, .int st_deepestShown, .int st_latestShown])) :: (a_st_levels, .inl (ci 0, 60, .inl st_levels)) :: (a_st_years, .inl (ci 0, 60, .inl st_years)) :: Rw) H → va_S A s.heap H locs → W p l e ({ frames := 1, cells := 0, slots := 0, locals := 22 } : Room) s m ([.ref a_x, .int p1, .int p2] : List Value).toArray below meth c H locs 0 0 Q (F0 m 0 ls []) := by
    intro H locs hH hP hS
    refine lv_iload_n (pc := 0) hx hb dX10_renew_0 rfl (lv_at hl 1 rfl) ?_
    obtain ⟨v1, hm1, hf⟩ := q_b1_e hf
    refine q_cSr (pc := 1) (As := [.int p1]) (rest := []) (v0 := (some (.int v1))) ⟨hx, hb, hml, hown, hts⟩ hK hA hZ hP hD hS hl.1 [] 4 rfl ⟨rfl, rfl, rfl⟩ (c_X_isLevel l D ci A sa N (Rw) p1 v1 hm1) (va_cwS 1 hts gX10_renew_X10_isLevel rfl rfl rfl (by decide +kernel) ⟨Nat.le_of_ble_eq_true rfl, Nat.le_of_ble_eq_true rfl⟩) rfl rfl (Nat.le_of_ble_eq_true rfl) dX10_renew_1 ⟨Nat.zero_le _, Nat.zero_le _⟩ (fun locs hS => ?_)
    refine q_if_eq (pc := 4) (tgt := 20) hx hb dX10_renew_4 (by decide) rfl hf (fun hf => ?_) (fun hf => ?_)
    · refine lv_iconst (pc := 20) (v := (-1)) hx hb dX10_renew_20 (by decide) ?_
      obtain ⟨rfl, rfl⟩ := q_inj2 (Option.some.inj hf)
      rw [hQ]
      exact q_iret (pc := 21) hx hb hr hlocks hP hD hS dX10_renew_21
    · refine lv_iload_n (pc := 7) hx hb dX10_renew_7 rfl (lv_at hl 2 rfl) ?_
      refine lv_sipush (pc := 8) (v := 1800) hx hb dX10_renew_8 (by decide) ?_
      refine lv_sipush (pc := 11) (v := 2100) hx hb dX10_renew_11 (by decide) ?_
      obtain ⟨v2, hm14, hf⟩ := q_b1_e hf
      refine q_cSr (pc := 14) (As := [.int p2, .int 1800, .int 2100]) (rest := []) (v0 := (some (.int v2))) ⟨hx, hb, hml, hown, hts⟩ hK hA hZ hP hD hS hl.1 [] 4 rfl ⟨rfl, rfl, rfl⟩ (c_X_isFrom l D ci A sa N (Rw) p2 1800 2100 v2 hm14) (va_cwS 3 hts gX10_renew_X10_isFrom rfl rfl rfl (by decide +kernel) ⟨Nat.le_of_ble_eq_true rfl, Nat.le_of_ble_eq_true rfl⟩) rfl rfl (Nat.le_of_ble_eq_true rfl) dX10_renew_14 ⟨Nat.zero_le _, Nat.zero_le _⟩ (fun locs hS => ?_)
      refine q_if_ne (pc := 17) (tgt := 22) hx hb dX10_renew_17 (by decide) rfl hf (fun hf => ?_) (fun hf => ?_)
      · refine lv_iconst (pc := 22) (v := 0) hx hb dX10_renew_22 (by decide) ?_
        obtain ⟨v3, ev3, hf⟩ := q_nm_e hf
        refine q_topi ev3 ?_
        refine lv_istore_n (pc := 23) (lv' := [(3, .int v3), (0, .ref a_x), (1, .int p1), (2, .int p2)]) hx hb dX10_renew_23 rfl hl (by decide) rfl (fun ls hl => ?_)
        refine lv_iconst (pc := 24) (v := 0) hx hb dX10_renew_24 (by decide) ?_
        obtain ⟨v4, ev4, hf⟩ := q_nm_e hf
        refine q_topi ev4 ?_
        refine lv_istore (pc := 25) (lv' := [(4, .int v4), (3, .int v3), (0, .ref a_x), (1, .int p1), (2, .int p2)]) hx hb dX10_renew_25 hl (by decide) rfl (fun ls hl => ?_)
        obtain ⟨v8, f9, hm27, hf⟩ := q_b2_e hf
        have JE27 : ∀ (H : Heap) (locs : List Loc) (ls : Array Slot), va_P D vwCl ((a_x, .inr (10, [.ref a_at, .ref a_g, .ref a_st, .ref a_x_kept, .int x_keptStates, .ref a_tp, .ref a_rd, .ref a_qu, .ref a_sp, .ref a_wk, .ref a_bx, .ref a_nt, .ref a_nu, .ref a_x_seen])) :: (a_st, .inr (7, [.ref a_g, .ref a_st_levels, .ref a_st_keys, .ref a_st_years, .ref a_st_keysThere, .int st_size, .int st_shownBy, .int st_deepestShown, .int st_latestShown])) :: (a_st_levels, .inl (ci 0, 60, .inl st_levels)) :: (a_st_years, .inl (ci 0, 60, .inl f9)) :: Rw) H → va_D A ((a_x, .inr (10, [.ref a_at, .ref a_g, .ref a_st, .ref a_x_kept, .int x_keptStates, .ref a_tp, .ref a_rd, .ref a_qu, .ref a_sp, .ref a_wk, .ref a_bx, .ref a_nt, .ref a_nu, .ref a_x_seen])) :: (a_st, .inr (7, [.ref a_g, .ref a_st_levels, .ref a_st_keys, .ref a_st_years, .ref a_st_keysThere, .int st_size, .int st_shownBy, .int st_deepestShown, .int st_latestShown])) :: (a_st_levels, .inl (ci 0, 60, .inl st_levels)) :: (a_st_years, .inl (ci 0, 60, .inl f9)) :: Rw) → va_S A s.heap H locs → lv_has ls 5 [(3, .int v8)] → W p l e ({ frames := 1, cells := 0, slots := 0, locals := 22 } : Room) s m ([.ref a_x, .int p1, .int p2] : List Value).toArray below meth c H locs 0 0 Q (F0 m 87 ls []) := by
          intro H locs ls hP hD hS hl
          refine lv_iload_n (pc := 87) hx hb dX10_renew_87 rfl (lv_at hl 0 rfl) ?_
          obtain ⟨rfl, rfl⟩ := q_inj2 (Option.some.inj hf)
          rw [hQ]
          exact q_iret (pc := 88) hx hb hr hlocks hP hD hS dX10_renew_88
        have LP27 : ∀ (n27 : Nat) (v5 : Int32) (v6 : Int32) (f7 : Nat → Int32) (H : Heap) (locs : List Loc) (ls : Array Slot), f_X_renew_L27 p1 p2 st_levels st_size n27 v5 v6 f7 = some (v8, f9) → va_P D vwCl ((a_x, .inr (10, [.ref a_at, .ref a_g, .ref a_st, .ref a_x_kept, .int x_keptStates, .ref a_tp, .ref a_rd, .ref a_qu, .ref a_sp, .ref a_wk, .ref a_bx, .ref a_nt, .ref a_nu, .ref a_x_seen])) :: (a_st, .inr (7, [.ref a_g, .ref a_st_levels, .ref a_st_keys, .ref a_st_years, .ref a_st_keysThere, .int st_size, .int st_shownBy, .int st_deepestShown, .int st_latestShown])) :: (a_st_levels, .inl (ci 0, 60, .inl st_levels)) :: (a_st_years, .inl (ci 0, 60, .inl f7)) :: Rw) H → va_D A ((a_x, .inr (10, [.ref a_at, .ref a_g, .ref a_st, .ref a_x_kept, .int x_keptStates, .ref a_tp, .ref a_rd, .ref a_qu, .ref a_sp, .ref a_wk, .ref a_bx, .ref a_nt, .ref a_nu, .ref a_x_seen])) :: (a_st, .inr (7, [.ref a_g, .ref a_st_levels, .ref a_st_keys, .ref a_st_years, .ref a_st_keysThere, .int st_size, .int st_shownBy, .int st_deepestShown, .int st_latestShown])) :: (a_st_levels, .inl (ci 0, 60, .inl st_levels)) :: (a_st_years, .inl (ci 0, 60, .inl f7)) :: Rw) → va_S A s.heap H locs → lv_has ls 5 [(0, .ref a_x), (1, .int p1), (2, .int p2), (3, .int v5), (4, .int v6)] → W p l e ({ frames := 1, cells := 0, slots := 0, locals := 22 } : Room) s m ([.ref a_x, .int p1, .int p2] : List Value).toArray below meth c H locs 0 0 Q (F0 m 27 ls []) := by
          intro n27
          induction n27 with
          | zero => intro v5 v6 f7 H locs ls hf; rw [f_X_renew_L27] at hf; cases hf
          | succ n27 ih27 =>
            intro v5 v6 f7 H locs ls hf hP hD hS hl
            rw [f_X_renew_L27] at hf
            refine lv_iload (pc := 27) hx hb dX10_renew_27 (lv_at hl 4 rfl) ?_
            refine lv_aload_n (pc := 29) hx hb dX10_renew_29 rfl (lv_at hl 0 rfl) ?_
            refine va_get (pc := 30) (D := D) (ci := 10) (v := .ref a_st) (C := RX10) (T := TX10) (N := 14) hx hb hts hinX10 hown hK hP 0 rfl rfl 2 (by decide) w_1 (fun _ h9 => h9) rfl dX10_renew_30 ?_
            refine va_getN (pc := 33) (D := D) (ci := 7) (v := .int st_size) (C := RX7) (T := TX7) (N := 9) hx hb hts hinX7 hown hK hP 1 rfl rfl 5 (by decide) wn_0 (fun _ h9 => h9) rfl dX10_renew_33 ?_
            refine q_icmp_ge (pc := 36) (tgt := 87) hx hb dX10_renew_36 (by decide) rfl hf (fun hf => ?_) (fun hf => ?_)
            · obtain ⟨rfl, rfl⟩ := q_inj2 (Option.some.inj hf)
              exact JE27 _ _ _ hP hD hS (lv_sub hl [3] rfl)
            · refine lv_aload_n (pc := 39) hx hb dX10_renew_39 rfl (lv_at hl 0 rfl) ?_
              refine va_get (pc := 40) (D := D) (ci := 10) (v := .ref a_st) (C := RX10) (T := TX10) (N := 14) hx hb hts hinX10 hown hK hP 0 rfl rfl 2 (by decide) w_1 (fun _ h9 => h9) rfl dX10_renew_40 ?_
              refine va_getN (pc := 43) (D := D) (ci := 7) (v := .ref a_st_levels) (C := RX7) (T := TX7) (N := 9) hx hb hts hinX7 hown hK hP 1 rfl rfl 1 (by decide) wn_26 (fun _ h9 => h9) rfl dX10_renew_43 ?_
              refine lv_iload (pc := 46) hx hb dX10_renew_46 (lv_at hl 4 rfl) ?_
              refine q_iald (pc := 48) hx hb hK hP 2 0 hf rfl rfl dX10_renew_48 (fun v10 hf => ?_)
              refine lv_iload_n (pc := 49) hx hb dX10_renew_49 rfl (lv_at hl 1 rfl) ?_
              obtain ⟨k81, ek81, hf⟩ := q_j2_e hf
              have J81 : ∀ (v11 : Int32) (f12 : Nat → Int32) (H : Heap) (locs : List Loc) (ls : Array Slot), k81 v11 f12 = some (v8, f9) → va_P D vwCl ((a_x, .inr (10, [.ref a_at, .ref a_g, .ref a_st, .ref a_x_kept, .int x_keptStates, .ref a_tp, .ref a_rd, .ref a_qu, .ref a_sp, .ref a_wk, .ref a_bx, .ref a_nt, .ref a_nu, .ref a_x_seen])) :: (a_st, .inr (7, [.ref a_g, .ref a_st_levels, .ref a_st_keys, .ref a_st_years, .ref a_st_keysThere, .int st_size, .int st_shownBy, .int st_deepestShown, .int st_latestShown])) :: (a_st_levels, .inl (ci 0, 60, .inl st_levels)) :: (a_st_years, .inl (ci 0, 60, .inl f12)) :: Rw) H → va_D A ((a_x, .inr (10, [.ref a_at, .ref a_g, .ref a_st, .ref a_x_kept, .int x_keptStates, .ref a_tp, .ref a_rd, .ref a_qu, .ref a_sp, .ref a_wk, .ref a_bx, .ref a_nt, .ref a_nu, .ref a_x_seen])) :: (a_st, .inr (7, [.ref a_g, .ref a_st_levels, .ref a_st_keys, .ref a_st_years, .ref a_st_keysThere, .int st_size, .int st_shownBy, .int st_deepestShown, .int st_latestShown])) :: (a_st_levels, .inl (ci 0, 60, .inl st_levels)) :: (a_st_years, .inl (ci 0, 60, .inl f12)) :: Rw) → va_S A s.heap H locs → lv_has ls 5 [(0, .ref a_x), (1, .int p1), (2, .int p2), (3, .int v11), (4, .int v6)] → W p l e ({ frames := 1, cells := 0, slots := 0, locals := 22 } : Room) s m ([.ref a_x, .int p1, .int p2] : List Value).toArray below meth c H locs 0 0 Q (F0 m 81 ls []) := by
                intro v11 f12 H locs ls hf hP hD hS hl
                have hf := (ek81 v11 f12).symm.trans hf
                obtain ⟨v13, ev13, hf⟩ := q_nm_e hf
                refine lv_iinc (pc := 81) (v := v13) (lv' := [(4, .int v13), (0, .ref a_x), (1, .int p1), (2, .int p2), (3, .int v11)]) hx hb dX10_renew_81 hl (k := 4) rfl (by rw [ev13]; rfl) (by decide) rfl (fun ls hl => ?_)
                refine lv_goto (pc := 84) (tgt := 27) hx hb dX10_renew_84 (by decide) ?_
                exact ih27 v11 v13 f12 _ _ _ hf hP hD hS (lv_sub hl [1, 2, 3, 4, 0] rfl)
              refine q_icmp_ne (pc := 50) (tgt := 81) hx hb dX10_renew_50 (by decide) rfl hf (fun hf => ?_) (fun hf => ?_)
              · exact J81 v5 f7 _ _ _ hf hP hD hS (lv_sub hl [0, 1, 2, 3, 4] rfl)
              · refine lv_aload_n (pc := 53) hx hb dX10_renew_53 rfl (lv_at hl 0 rfl) ?_
                refine va_get (pc := 54) (D := D) (ci := 10) (v := .ref a_st) (C := RX10) (T := TX10) (N := 14) hx hb hts hinX10 hown hK hP 0 rfl rfl 2 (by decide) w_1 (fun _ h9 => h9) rfl dX10_renew_54 ?_
                refine va_getN (pc := 57) (D := D) (ci := 7) (v := .ref a_st_years) (C := RX7) (T := TX7) (N := 9) hx hb hts hinX7 hown hK hP 1 rfl rfl 3 (by decide) wn_25 (fun _ h9 => h9) rfl dX10_renew_57 ?_
                refine lv_iload (pc := 60) hx hb dX10_renew_60 (lv_at hl 4 rfl) ?_
                refine q_iald (pc := 62) hx hb hK hP 3 0 hf rfl rfl dX10_renew_62 (fun v14 hf => ?_)
                refine lv_iload_n (pc := 63) hx hb dX10_renew_63 rfl (lv_at hl 2 rfl) ?_
                refine q_icmp_ge (pc := 64) (tgt := 81) hx hb dX10_renew_64 (by decide) rfl hf (fun hf => ?_) (fun hf => ?_)
                · exact J81 v5 f7 _ _ _ hf hP hD hS (lv_sub hl [0, 1, 2, 3, 4] rfl)
                · refine lv_aload_n (pc := 67) hx hb dX10_renew_67 rfl (lv_at hl 0 rfl) ?_
                  refine va_get (pc := 68) (D := D) (ci := 10) (v := .ref a_st) (C := RX10) (T := TX10) (N := 14) hx hb hts hinX10 hown hK hP 0 rfl rfl 2 (by decide) w_1 (fun _ h9 => h9) rfl dX10_renew_68 ?_
                  refine va_getN (pc := 71) (D := D) (ci := 7) (v := .ref a_st_years) (C := RX7) (T := TX7) (N := 9) hx hb hts hinX7 hown hK hP 1 rfl rfl 3 (by decide) wn_25 (fun _ h9 => h9) rfl dX10_renew_71 ?_
                  refine lv_iload (pc := 74) hx hb dX10_renew_74 (lv_at hl 4 rfl) ?_
                  refine lv_iload_n (pc := 76) hx hb dX10_renew_76 rfl (lv_at hl 2 rfl) ?_
                  refine q_iast (pc := 77) hx hb hK hP hD hS 3 0 hf rfl rfl dX10_renew_77 (fun f15 H locs hf hP hD hS => ?_)
                  obtain ⟨hP, hD⟩ : va_PD D A ((a_x, .inr (10, [.ref a_at, .ref a_g, .ref a_st, .ref a_x_kept, .int x_keptStates, .ref a_tp, .ref a_rd, .ref a_qu, .ref a_sp, .ref a_wk, .ref a_bx, .ref a_nt, .ref a_nu, .ref a_x_seen])) :: (a_st, .inr (7, [.ref a_g, .ref a_st_levels, .ref a_st_keys, .ref a_st_years, .ref a_st_keysThere, .int st_size, .int st_shownBy, .int st_deepestShown, .int st_latestShown])) :: (a_st_levels, .inl (ci 0, 60, .inl st_levels)) :: (a_st_years, .inl (ci 0, 60, .inl f15)) :: Rw) H := ⟨hP, hD⟩
                  obtain ⟨v16, ev16, hf⟩ := q_nm_e hf
                  refine lv_iinc (pc := 78) (v := v16) (lv' := [(3, .int v16), (0, .ref a_x), (1, .int p1), (2, .int p2), (4, .int v6)]) hx hb dX10_renew_78 hl (k := 3) rfl (by rw [ev16]; rfl) (by decide) rfl (fun ls hl => ?_)
                  exact J81 v16 f15 _ _ _ hf hP hD hS (lv_sub hl [1, 2, 3, 0, 4] rfl)
        exact LP27 N v3 v4 st_years _ _ _ hm27 hP hD hS (lv_sub hl [2, 3, 4, 1, 0] rfl)
      · refine lv_iconst (pc := 20) (v := (-1)) hx hb dX10_renew_20 (by decide) ?_
        obtain ⟨rfl, rfl⟩ := q_inj2 (Option.some.inj hf)
        rw [hQ]
        exact q_iret (pc := 21) hx hb hr hlocks hP hD hS dX10_renew_21
  exact hgo _ _ rfl hP hS
/-! X10_shown -/
set_option maxRecDepth 100000 in
set_option maxHeartbeats 4000000 in
theorem c_X_shown (l : Launch) (D : va_G) (ci : Nat → ClassId) (A : Nat → Prop) (sa : Nat → Nat) (N : Nat) (Rw : va_W) (a_x : Nat) (a_at : Nat) (a_g : Nat) (a_st : Nat) (a_x_kept : Nat) (a_tp : Nat) (a_rd : Nat) (a_qu : Nat) (a_sp : Nat) (a_wk : Nat) (a_bx : Nat) (a_nt : Nat) (a_nu : Nat) (a_x_seen : Nat) (a_st_levels : Nat) (a_st_keys : Nat) (a_st_years : Nat) (a_st_keysThere : Nat) (a_g_rowCuts : Nat) (a_g_columnCuts : Nat) (a_g_bandRows : Nat) (a_g_zoneColumns : Nat) (a_g_rows : Nat) (a_g_sheets : Nat) (x_keptStates : Int32) (st_size : Int32) (st_shownBy : Int32) (st_deepestShown : Int32) (st_latestShown : Int32) (st_levels : Nat → Int32) (st_keys : Nat → Int32) (st_years : Nat → Int32) (st_keysThere : Nat → Int32) (g_bandRows : Nat → Int32) (g_zoneColumns : Nat → Int32) (g_rows : Nat → Int32) (g_sheets : Nat → Int32) (p1 : Int32) (p2 : Int32) (p3 : Int32) (r : Int32) (o1 : Nat → Int32) (o2 : Int32) (o3 : Int32) (o4 : Int32) (hf : f_X_shown N st_levels st_keys st_years st_keysThere st_size st_shownBy st_deepestShown st_latestShown g_bandRows g_zoneColumns g_rows g_sheets p1 p2 p3 = some (r, o1, o2, o3, o4)) : Met l yX10_shown wsX10_shown ({ frames := 4, cells := 0, slots := 0, locals := 96 }) (va_Pc [.ref a_x, .int p1, .int p2, .int p3] (q_N D ci A sa ((a_x, .inr (10, [.ref a_at, .ref a_g, .ref a_st, .ref a_x_kept, .int x_keptStates, .ref a_tp, .ref a_rd, .ref a_qu, .ref a_sp, .ref a_wk, .ref a_bx, .ref a_nt, .ref a_nu, .ref a_x_seen])) :: (a_st, .inr (7, [.ref a_g, .ref a_st_levels, .ref a_st_keys, .ref a_st_years, .ref a_st_keysThere, .int st_size, .int st_shownBy, .int st_deepestShown, .int st_latestShown])) :: (a_st_levels, .inl (ci 0, 60, .inl st_levels)) :: (a_st_keys, .inl (ci 0, 60, .inl st_keys)) :: (a_st_years, .inl (ci 0, 60, .inl st_years)) :: (a_st_keysThere, .inl (ci 0, 5, .inl st_keysThere)) :: (a_g, .inr (2, [.ref a_g_rowCuts, .ref a_g_columnCuts, .ref a_g_bandRows, .ref a_g_zoneColumns, .ref a_g_rows, .ref a_g_sheets])) :: (a_g_bandRows, .inl (ci 0, 5, .inl g_bandRows)) :: (a_g_zoneColumns, .inl (ci 0, 5, .inl g_zoneColumns)) :: (a_g_rows, .inl (ci 0, 5, .inl g_rows)) :: (a_g_sheets, .inl (ci 0, 5, .inl g_sheets)) :: Rw))) (q_Q (some (.int r)) (q_O D A ((a_x, .inr (10, [.ref a_at, .ref a_g, .ref a_st, .ref a_x_kept, .int x_keptStates, .ref a_tp, .ref a_rd, .ref a_qu, .ref a_sp, .ref a_wk, .ref a_bx, .ref a_nt, .ref a_nu, .ref a_x_seen])) :: (a_st, .inr (7, [.ref a_g, .ref a_st_levels, .ref a_st_keys, .ref a_st_years, .ref a_st_keysThere, .int st_size, .int o2, .int o3, .int o4])) :: (a_st_levels, .inl (ci 0, 60, .inl st_levels)) :: (a_st_keys, .inl (ci 0, 60, .inl st_keys)) :: (a_st_years, .inl (ci 0, 60, .inl st_years)) :: (a_st_keysThere, .inl (ci 0, 5, .inl o1)) :: (a_g, .inr (2, [.ref a_g_rowCuts, .ref a_g_columnCuts, .ref a_g_bandRows, .ref a_g_zoneColumns, .ref a_g_rows, .ref a_g_sheets])) :: (a_g_bandRows, .inl (ci 0, 5, .inl g_bandRows)) :: (a_g_zoneColumns, .inl (ci 0, 5, .inl g_zoneColumns)) :: (a_g_rows, .inl (ci 0, 5, .inl g_rows)) :: (a_g_sheets, .inl (ci 0, 5, .inl g_sheets)) :: Rw)) A) 0 0 A := by
  refine q_ofW (cc := cX10_shown) (maxL := 4) (ret := (some .int)) [.ref a_x, .int p1, .int p2, .int p3] (plainFor_of_name (by decide)) rfl (Nat.le_of_ble_eq_true rfl) ?_
  intro p e s m below meth c ls Q hQ hx hb hml hr hts hown hlocks hK hA hZ hP hD hS hl
  have hl : lv_has ls 4 [(0, .ref a_x), (1, .int p1), (2, .int p2), (3, .int p3)] := hl
  have hown : s.vm.findClass RX10 = some m.cls := hown
  have hinX10 : ∀ w ∈ wsX100, w ∈ wsX10_shown := fun _ h => List.mem_cons_of_mem _ (inWX100 _ h)
  have hinX7 : ∀ w ∈ wsX70, w ∈ wsX10_shown := fun _ h => List.mem_cons_of_mem _ (inWX70 _ h)
  have w_1 := hts (Cond.fieldLink RX10 25 "SheetNames" "pieces" "LSheetNames$Store;") (List.mem_cons_of_mem _ t_w892)
  have wn_28 : (Cond.fieldLinkNest "SheetNames" 391 "SheetNames$Store" "shownBy" "I" "SheetNames").before ([.ref a_x, .int p1, .int p2, .int p3] : List Value).toArray s = true := (hZ.2.2.2.2.2.2.2.2.2.1 _ (List.mem_of_getElem? (i := 28) rfl)).use rfl
  have wn_29 : (Cond.fieldLinkNest "SheetNames" 394 "SheetNames$Store" "deepestShown" "I" "SheetNames").before ([.ref a_x, .int p1, .int p2, .int p3] : List Value).toArray s = true := (hZ.2.2.2.2.2.2.2.2.2.1 _ (List.mem_of_getElem? (i := 29) rfl)).use rfl
  have wn_30 : (Cond.fieldLinkNest "SheetNames" 397 "SheetNames$Store" "latestShown" "I" "SheetNames").before ([.ref a_x, .int p1, .int p2, .int p3] : List Value).toArray s = true := (hZ.2.2.2.2.2.2.2.2.2.1 _ (List.mem_of_getElem? (i := 30) rfl)).use rfl
  unfold f_X_shown at hf
  have hgo : ∀ (H : Heap) (locs : List Loc), H = s.heap → va_P D vwCl ((a_x, .inr (10, [.ref a_at, .ref a_g, .ref a_st, .ref a_x_kept, .int x_keptStates, .ref a_tp, .ref a_rd, .ref a_qu, .ref a_sp, .ref a_wk, .ref a_bx, .ref a_nt, .ref a_nu, .ref a_x_seen])) :: (a_st, .inr (7, [.ref a_g, .ref a_st_levels, .ref a_st_keys, .ref a_st_years, .ref a_st_keysThere, .int st_size, .int st_shownBy, .int st_deepestShown, .int st_latestShown])) :: (a_st_levels, .inl (ci 0, 60, .inl st_levels)) :: (a_st_keys, .inl (ci 0, 60, .inl st_keys)) :: (a_st_years, .inl (ci 0, 60, .inl st_years)) :: (a_st_keysThere, .inl (ci 0, 5, .inl st_keysThere)) :: (a_g, .inr (2, [.ref a_g_rowCuts, .ref a_g_columnCuts, .ref a_g_bandRows, .ref a_g_zoneColumns, .ref a_g_rows, .ref a_g_sheets])) :: (a_g_bandRows, .inl (ci 0, 5, .inl g_bandRows)) :: (a_g_zoneColumns, .inl (ci 0, 5, .inl g_zoneColumns)) :: (a_g_rows, .inl (ci 0, 5, .inl g_rows)) :: (a_g_sheets, .inl (ci 0, 5, .inl g_sheets)) :: Rw) H → va_S A s.heap H locs → W p l e ({ frames := 4, cells := 0, slots := 0, locals := 96 } : Room) s m ([.ref a_x, .int p1, .int p2, .int p3] : List Value).toArray below meth c H locs 0 0 Q (F0 m 0 ls []) := by
    intro H locs hH hP hS
    refine lv_iload_n (pc := 0) hx hb dX10_shown_0 rfl (lv_at hl 1 rfl) ?_
    refine lv_iload_n (pc := 1) hx hb dX10_shown_1 rfl (lv_at hl 2 rfl) ?_
    obtain ⟨v1, hm2, hf⟩ := q_b1_e hf
    refine q_cSr (pc := 2) (As := [.int p1, .int p2]) (rest := []) (v0 := (some (.int v1))) ⟨hx, hb, hml, hown, hts⟩ hK hA hZ hP hD hS hl.1 [] 11 rfl ⟨rfl, rfl, rfl⟩ (c_X_isPlace l D ci A sa N (Rw) p1 p2 v1 hm2) (va_cwS 2 hts gX10_shown_X10_isPlace rfl rfl rfl (by decide +kernel) ⟨Nat.le_of_ble_eq_true rfl, Nat.le_of_ble_eq_true rfl⟩) rfl rfl (Nat.le_of_ble_eq_true rfl) dX10_shown_2 ⟨Nat.zero_le _, Nat.zero_le _⟩ (fun locs hS => ?_)
    refine q_if_eq (pc := 5) (tgt := 17) hx hb dX10_shown_5 (by decide) rfl hf (fun hf => ?_) (fun hf => ?_)
    · refine lv_iconst (pc := 17) (v := (-1)) hx hb dX10_shown_17 (by decide) ?_
      obtain ⟨e90, e91, e92, e93, e94⟩ := q_inj5 (Option.some.inj hf)
      rw [hQ, ← e90, ← e91, ← e92, ← e93, ← e94]
      exact q_iret (pc := 18) hx hb hr hlocks hP hD hS dX10_shown_18
    · refine lv_iload_n (pc := 8) hx hb dX10_shown_8 rfl (lv_at hl 3 rfl) ?_
      refine lv_iconst (pc := 9) (v := 0) hx hb dX10_shown_9 (by decide) ?_
      refine lv_iconst (pc := 10) (v := 2) hx hb dX10_shown_10 (by decide) ?_
      obtain ⟨v2, hm11, hf⟩ := q_b1_e hf
      refine q_cSr (pc := 11) (As := [.int p3, .int 0, .int 2]) (rest := []) (v0 := (some (.int v2))) ⟨hx, hb, hml, hown, hts⟩ hK hA hZ hP hD hS hl.1 [] 11 rfl ⟨rfl, rfl, rfl⟩ (c_X_isFrom l D ci A sa N (Rw) p3 0 2 v2 hm11) (va_cwS 3 hts gX10_shown_X10_isFrom rfl rfl rfl (by decide +kernel) ⟨Nat.le_of_ble_eq_true rfl, Nat.le_of_ble_eq_true rfl⟩) rfl rfl (Nat.le_of_ble_eq_true rfl) dX10_shown_11 ⟨Nat.zero_le _, Nat.zero_le _⟩ (fun locs hS => ?_)
      refine q_if_ne (pc := 14) (tgt := 19) hx hb dX10_shown_14 (by decide) rfl hf (fun hf => ?_) (fun hf => ?_)
      · refine lv_aload_n (pc := 19) hx hb dX10_shown_19 rfl (lv_at hl 0 rfl) ?_
        refine va_get (pc := 20) (D := D) (ci := 10) (v := .ref a_st) (C := RX10) (T := TX10) (N := 14) hx hb hts hinX10 hown hK hP 0 rfl rfl 2 (by decide) w_1 (fun _ h9 => h9) rfl dX10_shown_20 ?_
        refine lv_iload_n (pc := 23) hx hb dX10_shown_23 rfl (lv_at hl 1 rfl) ?_
        refine lv_iload_n (pc := 24) hx hb dX10_shown_24 rfl (lv_at hl 2 rfl) ?_
        obtain ⟨f3, v4, v5, v6, hm25, hf⟩ := q_b4_e hf
        refine q_cV (pc := 25) (As := [.int p1, .int p2]) (rest := []) (v0 := none) ⟨hx, hb, hml, hown, hts⟩ hK hA hZ hP hD hS hl.1 [1, 2, 3, 4, 5, 6, 7, 8, 9, 10, 0] 11 rfl ⟨rfl, rfl, rfl⟩ (c_Store_lookAt l D ci A sa N ((a_x, .inr (10, [.ref a_at, .ref a_g, .ref a_st, .ref a_x_kept, .int x_keptStates, .ref a_tp, .ref a_rd, .ref a_qu, .ref a_sp, .ref a_wk, .ref a_bx, .ref a_nt, .ref a_nu, .ref a_x_seen])) :: Rw) a_st a_g a_st_levels a_st_keys a_st_years a_st_keysThere a_g_rowCuts a_g_columnCuts a_g_bandRows a_g_zoneColumns a_g_rows a_g_sheets st_size st_shownBy st_deepestShown st_latestShown st_levels st_keys st_years st_keysThere g_bandRows g_zoneColumns g_rows g_sheets p1 p2 f3 v4 v5 v6 hm25) 1 rfl rfl (cwV 2 hts gX10_shown_X7_lookAt rfl rfl rfl (by decide +kernel) ⟨Nat.le_of_ble_eq_true rfl, Nat.le_of_ble_eq_true rfl⟩) rfl rfl (Nat.le_of_ble_eq_true rfl) dX10_shown_25 ⟨Nat.zero_le _, Nat.zero_le _⟩ [10, 0, 1, 2, 3, 4, 5, 6, 7, 8, 9] 11 rfl ⟨rfl, rfl, rfl⟩ (fun H locs hP hD hS => ?_)
        obtain ⟨hP, hD⟩ : va_PD D A ((a_x, .inr (10, [.ref a_at, .ref a_g, .ref a_st, .ref a_x_kept, .int x_keptStates, .ref a_tp, .ref a_rd, .ref a_qu, .ref a_sp, .ref a_wk, .ref a_bx, .ref a_nt, .ref a_nu, .ref a_x_seen])) :: (a_st, .inr (7, [.ref a_g, .ref a_st_levels, .ref a_st_keys, .ref a_st_years, .ref a_st_keysThere, .int st_size, .int v4, .int v5, .int v6])) :: (a_st_levels, .inl (ci 0, 60, .inl st_levels)) :: (a_st_keys, .inl (ci 0, 60, .inl st_keys)) :: (a_st_years, .inl (ci 0, 60, .inl st_years)) :: (a_st_keysThere, .inl (ci 0, 5, .inl f3)) :: (a_g, .inr (2, [.ref a_g_rowCuts, .ref a_g_columnCuts, .ref a_g_bandRows, .ref a_g_zoneColumns, .ref a_g_rows, .ref a_g_sheets])) :: (a_g_bandRows, .inl (ci 0, 5, .inl g_bandRows)) :: (a_g_zoneColumns, .inl (ci 0, 5, .inl g_zoneColumns)) :: (a_g_rows, .inl (ci 0, 5, .inl g_rows)) :: (a_g_sheets, .inl (ci 0, 5, .inl g_sheets)) :: Rw) H := ⟨hP, hD⟩
        refine lv_iload_n (pc := 28) hx hb dX10_shown_28 rfl (lv_at hl 3 rfl) ?_
        refine q_if_ne (pc := 29) (tgt := 40) hx hb dX10_shown_29 (by decide) rfl hf (fun hf => ?_) (fun hf => ?_)
        · refine lv_aload_n (pc := 40) hx hb dX10_shown_40 rfl (lv_at hl 0 rfl) ?_
          refine va_get (pc := 41) (D := D) (ci := 10) (v := .ref a_st) (C := RX10) (T := TX10) (N := 14) hx hb hts hinX10 hown hK hP 0 rfl rfl 2 (by decide) w_1 (fun _ h9 => h9) rfl dX10_shown_41 ?_
          refine va_getN (pc := 44) (D := D) (ci := 7) (v := .int v4) (C := RX7) (T := TX7) (N := 9) hx hb hts hinX7 hown hK hP 1 rfl rfl 6 (by decide) wn_28 (fun _ h9 => h9) rfl dX10_shown_44 ?_
          refine q_if_ne (pc := 47) (tgt := 53) hx hb dX10_shown_47 (by decide) rfl hf (fun hf => ?_) (fun hf => ?_)
          · refine lv_iload_n (pc := 53) hx hb dX10_shown_53 rfl (lv_at hl 3 rfl) ?_
            refine lv_iconst (pc := 54) (v := 1) hx hb dX10_shown_54 (by decide) ?_
            refine q_icmp_ne (pc := 55) (tgt := 68) hx hb dX10_shown_55 (by decide) rfl hf (fun hf => ?_) (fun hf => ?_)
            · refine lv_aload_n (pc := 68) hx hb dX10_shown_68 rfl (lv_at hl 0 rfl) ?_
              refine va_get (pc := 69) (D := D) (ci := 10) (v := .ref a_st) (C := RX10) (T := TX10) (N := 14) hx hb hts hinX10 hown hK hP 0 rfl rfl 2 (by decide) w_1 (fun _ h9 => h9) rfl dX10_shown_69 ?_
              refine va_getN (pc := 72) (D := D) (ci := 7) (v := .int v6) (C := RX7) (T := TX7) (N := 9) hx hb hts hinX7 hown hK hP 1 rfl rfl 8 (by decide) wn_30 (fun _ h9 => h9) rfl dX10_shown_72 ?_
              obtain ⟨e90, e91, e92, e93, e94⟩ := q_inj5 (Option.some.inj hf)
              rw [hQ, ← e90, ← e91, ← e92, ← e93, ← e94]
              exact q_iret (pc := 75) hx hb hr hlocks hP hD hS dX10_shown_75
            · refine lv_aload_n (pc := 58) hx hb dX10_shown_58 rfl (lv_at hl 0 rfl) ?_
              refine va_get (pc := 59) (D := D) (ci := 10) (v := .ref a_st) (C := RX10) (T := TX10) (N := 14) hx hb hts hinX10 hown hK hP 0 rfl rfl 2 (by decide) w_1 (fun _ h9 => h9) rfl dX10_shown_59 ?_
              refine va_getN (pc := 62) (D := D) (ci := 7) (v := .int v5) (C := RX7) (T := TX7) (N := 9) hx hb hts hinX7 hown hK hP 1 rfl rfl 7 (by decide) wn_29 (fun _ h9 => h9) rfl dX10_shown_62 ?_
              refine lv_goto (pc := 65) (tgt := 75) hx hb dX10_shown_65 (by decide) ?_
              obtain ⟨e90, e91, e92, e93, e94⟩ := q_inj5 (Option.some.inj hf)
              rw [hQ, ← e90, ← e91, ← e92, ← e93, ← e94]
              exact q_iret (pc := 75) hx hb hr hlocks hP hD hS dX10_shown_75
          · refine lv_bipush (pc := 50) (v := (-2)) hx hb dX10_shown_50 (by decide) ?_
            obtain ⟨e90, e91, e92, e93, e94⟩ := q_inj5 (Option.some.inj hf)
            rw [hQ, ← e90, ← e91, ← e92, ← e93, ← e94]
            exact q_iret (pc := 52) hx hb hr hlocks hP hD hS dX10_shown_52
        · refine lv_aload_n (pc := 32) hx hb dX10_shown_32 rfl (lv_at hl 0 rfl) ?_
          refine va_get (pc := 33) (D := D) (ci := 10) (v := .ref a_st) (C := RX10) (T := TX10) (N := 14) hx hb hts hinX10 hown hK hP 0 rfl rfl 2 (by decide) w_1 (fun _ h9 => h9) rfl dX10_shown_33 ?_
          refine va_getN (pc := 36) (D := D) (ci := 7) (v := .int v4) (C := RX7) (T := TX7) (N := 9) hx hb hts hinX7 hown hK hP 1 rfl rfl 6 (by decide) wn_28 (fun _ h9 => h9) rfl dX10_shown_36 ?_
          obtain ⟨e90, e91, e92, e93, e94⟩ := q_inj5 (Option.some.inj hf)
          rw [hQ, ← e90, ← e91, ← e92, ← e93, ← e94]
          exact q_iret (pc := 39) hx hb hr hlocks hP hD hS dX10_shown_39
      · refine lv_iconst (pc := 17) (v := (-1)) hx hb dX10_shown_17 (by decide) ?_
        obtain ⟨e90, e91, e92, e93, e94⟩ := q_inj5 (Option.some.inj hf)
        rw [hQ, ← e90, ← e91, ← e92, ← e93, ← e94]
        exact q_iret (pc := 18) hx hb hr hlocks hP hD hS dX10_shown_18
  exact hgo _ _ rfl hP hS
/-! X10_side -/
set_option maxRecDepth 100000 in
set_option maxHeartbeats 4000000 in
theorem c_X_side (l : Launch) (D : va_G) (ci : Nat → ClassId) (A : Nat → Prop) (sa : Nat → Nat) (N : Nat) (Rw : va_W) (a_x : Nat) (a_at : Nat) (a_g : Nat) (a_st : Nat) (a_x_kept : Nat) (a_tp : Nat) (a_rd : Nat) (a_qu : Nat) (a_sp : Nat) (a_wk : Nat) (a_bx : Nat) (a_nt : Nat) (a_nu : Nat) (a_x_seen : Nat) (a_sp_first : Nat) (a_sp_many : Nat) (a_sp_corner : Nat) (a_g_rowCuts : Nat) (a_g_columnCuts : Nat) (a_g_bandRows : Nat) (a_g_zoneColumns : Nat) (a_g_rows : Nat) (a_g_sheets : Nat) (x_keptStates : Int32) (sp_cornerCount : Int32) (sp_level : Int32) (sp_row : Int32) (sp_start : Int32) (sp_place : Int32) (sp_length : Int32) (sp_cap : Int32) (sp_first : Nat → Int32) (sp_many : Nat → Int32) (g_bandRows : Nat → Int32) (g_zoneColumns : Nat → Int32) (g_rows : Nat → Int32) (g_sheets : Nat → Int32) (p1 : Int32) (p2 : Int32) (p3 : Int32) (r : Int32) (o1 : Nat → Int32) (o2 : Nat → Int32) (o3 : Int32) (o4 : Int32) (o5 : Int32) (o6 : Int32) (o7 : Int32) (o8 : Int32) (hf : f_X_side N sp_first sp_many sp_level sp_row sp_start sp_place sp_length sp_cap g_bandRows g_zoneColumns g_rows g_sheets p1 p2 p3 = some (r, o1, o2, o3, o4, o5, o6, o7, o8)) : Met l yX10_side wsX10_side ({ frames := 3, cells := 0, slots := 0, locals := 71 }) (va_Pc [.ref a_x, .int p1, .int p2, .int p3] (q_N D ci A sa ((a_x, .inr (10, [.ref a_at, .ref a_g, .ref a_st, .ref a_x_kept, .int x_keptStates, .ref a_tp, .ref a_rd, .ref a_qu, .ref a_sp, .ref a_wk, .ref a_bx, .ref a_nt, .ref a_nu, .ref a_x_seen])) :: (a_sp, .inr (6, [.ref a_g, .ref a_sp_first, .ref a_sp_many, .ref a_sp_corner, .int sp_cornerCount, .int sp_level, .int sp_row, .int sp_start, .int sp_place, .int sp_length, .int sp_cap])) :: (a_sp_first, .inl (ci 0, 4, .inl sp_first)) :: (a_sp_many, .inl (ci 0, 4, .inl sp_many)) :: (a_g, .inr (2, [.ref a_g_rowCuts, .ref a_g_columnCuts, .ref a_g_bandRows, .ref a_g_zoneColumns, .ref a_g_rows, .ref a_g_sheets])) :: (a_g_bandRows, .inl (ci 0, 5, .inl g_bandRows)) :: (a_g_zoneColumns, .inl (ci 0, 5, .inl g_zoneColumns)) :: (a_g_rows, .inl (ci 0, 5, .inl g_rows)) :: (a_g_sheets, .inl (ci 0, 5, .inl g_sheets)) :: Rw))) (q_Q (some (.int r)) (q_O D A ((a_x, .inr (10, [.ref a_at, .ref a_g, .ref a_st, .ref a_x_kept, .int x_keptStates, .ref a_tp, .ref a_rd, .ref a_qu, .ref a_sp, .ref a_wk, .ref a_bx, .ref a_nt, .ref a_nu, .ref a_x_seen])) :: (a_sp, .inr (6, [.ref a_g, .ref a_sp_first, .ref a_sp_many, .ref a_sp_corner, .int sp_cornerCount, .int o3, .int o4, .int o5, .int o6, .int o7, .int o8])) :: (a_sp_first, .inl (ci 0, 4, .inl o1)) :: (a_sp_many, .inl (ci 0, 4, .inl o2)) :: (a_g, .inr (2, [.ref a_g_rowCuts, .ref a_g_columnCuts, .ref a_g_bandRows, .ref a_g_zoneColumns, .ref a_g_rows, .ref a_g_sheets])) :: (a_g_bandRows, .inl (ci 0, 5, .inl g_bandRows)) :: (a_g_zoneColumns, .inl (ci 0, 5, .inl g_zoneColumns)) :: (a_g_rows, .inl (ci 0, 5, .inl g_rows)) :: (a_g_sheets, .inl (ci 0, 5, .inl g_sheets)) :: Rw)) A) 0 0 A := by
  refine q_ofW (cc := cX10_side) (maxL := 5) (ret := (some .int)) [.ref a_x, .int p1, .int p2, .int p3] (plainFor_of_name (by decide)) rfl (Nat.le_of_ble_eq_true rfl) ?_
  intro p e s m below meth c ls Q hQ hx hb hml hr hts hown hlocks hK hA hZ hP hD hS hl
  have hl : lv_has ls 5 [(0, .ref a_x), (1, .int p1), (2, .int p2), (3, .int p3)] := hl
  have hown : s.vm.findClass RX10 = some m.cls := hown
  have hinX10 : ∀ w ∈ wsX100, w ∈ wsX10_side := fun _ h => List.mem_cons_of_mem _ (inWX100 _ h)
  have hinX6 : ∀ w ∈ wsX60, w ∈ wsX10_side := fun _ h => List.mem_cons_of_mem _ (inWX60 _ h)
  have w_1 := hts (Cond.fieldLink RX10 66 "SheetNames" "spot" "LSheetNames$Spot;") (List.mem_cons_of_mem _ t_w877)
  have wn_16 : (Cond.fieldLinkNest "SheetNames" 250 "SheetNames$Spot" "many" "[I" "SheetNames").before ([.ref a_x, .int p1, .int p2, .int p3] : List Value).toArray s = true := (hZ.2.2.2.2.2.2.2.2.2.1 _ (List.mem_of_getElem? (i := 16) rfl)).use rfl
  have wn_17 : (Cond.fieldLinkNest "SheetNames" 253 "SheetNames$Spot" "first" "[I" "SheetNames").before ([.ref a_x, .int p1, .int p2, .int p3] : List Value).toArray s = true := (hZ.2.2.2.2.2.2.2.2.2.1 _ (List.mem_of_getElem? (i := 17) rfl)).use rfl
  unfold f_X_side at hf
  have hgo : ∀ (H : Heap) (locs : List Loc), H = s.heap → va_P D vwCl ((a_x, .inr (10, [.ref a_at, .ref a_g, .ref a_st, .ref a_x_kept, .int x_keptStates, .ref a_tp, .ref a_rd, .ref a_qu, .ref a_sp, .ref a_wk, .ref a_bx, .ref a_nt, .ref a_nu, .ref a_x_seen])) :: (a_sp, .inr (6, [.ref a_g, .ref a_sp_first, .ref a_sp_many, .ref a_sp_corner, .int sp_cornerCount, .int sp_level, .int sp_row, .int sp_start, .int sp_place, .int sp_length, .int sp_cap])) :: (a_sp_first, .inl (ci 0, 4, .inl sp_first)) :: (a_sp_many, .inl (ci 0, 4, .inl sp_many)) :: (a_g, .inr (2, [.ref a_g_rowCuts, .ref a_g_columnCuts, .ref a_g_bandRows, .ref a_g_zoneColumns, .ref a_g_rows, .ref a_g_sheets])) :: (a_g_bandRows, .inl (ci 0, 5, .inl g_bandRows)) :: (a_g_zoneColumns, .inl (ci 0, 5, .inl g_zoneColumns)) :: (a_g_rows, .inl (ci 0, 5, .inl g_rows)) :: (a_g_sheets, .inl (ci 0, 5, .inl g_sheets)) :: Rw) H → va_S A s.heap H locs → W p l e ({ frames := 3, cells := 0, slots := 0, locals := 71 } : Room) s m ([.ref a_x, .int p1, .int p2, .int p3] : List Value).toArray below meth c H locs 0 0 Q (F0 m 0 ls []) := by
    intro H locs hH hP hS
    refine lv_aload_n (pc := 0) hx hb dX10_side_0 rfl (lv_at hl 0 rfl) ?_
    refine lv_iload_n (pc := 1) hx hb dX10_side_1 rfl (lv_at hl 1 rfl) ?_
    refine lv_iload_n (pc := 2) hx hb dX10_side_2 rfl (lv_at hl 2 rfl) ?_
    refine lv_iload_n (pc := 3) hx hb dX10_side_3 rfl (lv_at hl 3 rfl) ?_
    obtain ⟨v1, hm4, hf⟩ := q_b1_e hf
    refine q_cVr (pc := 4) (As := [.int p1, .int p2, .int p3]) (rest := []) (v0 := (some (.int v1))) ⟨hx, hb, hml, hown, hts⟩ hK hA hZ hP hD hS hl.1 [0, 4, 8] 9 rfl ⟨rfl, rfl, rfl⟩ (c_X_areSheets l D ci A sa N (Rw) a_x a_at a_g a_st a_x_kept a_tp a_rd a_qu a_sp a_wk a_bx a_nt a_nu a_x_seen a_g_rowCuts a_g_columnCuts a_g_bandRows a_g_zoneColumns a_g_rows a_g_sheets x_keptStates g_sheets p1 p2 p3 v1 hm4) 0 rfl rfl (cwV 3 hts gX10_side_X10_areSheets rfl rfl rfl (by decide +kernel) ⟨Nat.le_of_ble_eq_true rfl, Nat.le_of_ble_eq_true rfl⟩) rfl rfl (Nat.le_of_ble_eq_true rfl) dX10_side_4 ⟨Nat.zero_le _, Nat.zero_le _⟩ (fun locs hS => ?_)
    refine q_if_eq (pc := 7) (tgt := 15) hx hb dX10_side_7 (by decide) rfl hf (fun hf => ?_) (fun hf => ?_)
    · refine lv_iconst (pc := 15) (v := (-1)) hx hb dX10_side_15 (by decide) ?_
      obtain ⟨e90, e91, e92, e93, e94, e95, e96, e97, e98⟩ := q_inj9 (Option.some.inj hf)
      rw [hQ, ← e90, ← e91, ← e92, ← e93, ← e94, ← e95, ← e96, ← e97, ← e98]
      exact q_iret (pc := 16) hx hb hr hlocks hP hD hS dX10_side_16
    · refine lv_iload_n (pc := 10) hx hb dX10_side_10 rfl (lv_at hl 2 rfl) ?_
      refine lv_iload_n (pc := 11) hx hb dX10_side_11 rfl (lv_at hl 3 rfl) ?_
      refine q_icmp_ne (pc := 12) (tgt := 17) hx hb dX10_side_12 (by decide) rfl hf (fun hf => ?_) (fun hf => ?_)
      · refine lv_aload_n (pc := 17) hx hb dX10_side_17 rfl (lv_at hl 0 rfl) ?_
        refine va_get (pc := 18) (D := D) (ci := 10) (v := .ref a_sp) (C := RX10) (T := TX10) (N := 14) hx hb hts hinX10 hown hK hP 0 rfl rfl 8 (by decide) w_1 (fun _ h9 => h9) rfl dX10_side_18 ?_
        refine lv_iload_n (pc := 21) hx hb dX10_side_21 rfl (lv_at hl 1 rfl) ?_
        refine lv_iload_n (pc := 22) hx hb dX10_side_22 rfl (lv_at hl 2 rfl) ?_
        obtain ⟨v2, v3, v4, v5, v6, v7, hm23, hf⟩ := q_b6_e hf
        refine q_cV (pc := 23) (As := [.int p1, .int p2]) (rest := []) (v0 := none) ⟨hx, hb, hml, hown, hts⟩ hK hA hZ hP hD hS hl.1 [1, 4, 5, 6, 7, 8, 0, 2, 3] 9 rfl ⟨rfl, rfl, rfl⟩ (c_Spot_put l D ci A sa N ((a_x, .inr (10, [.ref a_at, .ref a_g, .ref a_st, .ref a_x_kept, .int x_keptStates, .ref a_tp, .ref a_rd, .ref a_qu, .ref a_sp, .ref a_wk, .ref a_bx, .ref a_nt, .ref a_nu, .ref a_x_seen])) :: (a_sp_first, .inl (ci 0, 4, .inl sp_first)) :: (a_sp_many, .inl (ci 0, 4, .inl sp_many)) :: Rw) a_sp a_g a_sp_first a_sp_many a_sp_corner a_g_rowCuts a_g_columnCuts a_g_bandRows a_g_zoneColumns a_g_rows a_g_sheets sp_cornerCount sp_level sp_row sp_start sp_place sp_length sp_cap g_bandRows g_zoneColumns g_rows g_sheets p1 p2 v2 v3 v4 v5 v6 v7 hm23) 1 rfl rfl (cwV 2 hts gX10_side_X6_put rfl rfl rfl (by decide +kernel) ⟨Nat.le_of_ble_eq_true rfl, Nat.le_of_ble_eq_true rfl⟩) rfl rfl (Nat.le_of_ble_eq_true rfl) dX10_side_23 ⟨Nat.zero_le _, Nat.zero_le _⟩ [6, 0, 7, 8, 1, 2, 3, 4, 5] 9 rfl ⟨rfl, rfl, rfl⟩ (fun H locs hP hD hS => ?_)
        obtain ⟨hP, hD⟩ : va_PD D A ((a_x, .inr (10, [.ref a_at, .ref a_g, .ref a_st, .ref a_x_kept, .int x_keptStates, .ref a_tp, .ref a_rd, .ref a_qu, .ref a_sp, .ref a_wk, .ref a_bx, .ref a_nt, .ref a_nu, .ref a_x_seen])) :: (a_sp, .inr (6, [.ref a_g, .ref a_sp_first, .ref a_sp_many, .ref a_sp_corner, .int sp_cornerCount, .int v2, .int v3, .int v4, .int v5, .int v6, .int v7])) :: (a_sp_first, .inl (ci 0, 4, .inl sp_first)) :: (a_sp_many, .inl (ci 0, 4, .inl sp_many)) :: (a_g, .inr (2, [.ref a_g_rowCuts, .ref a_g_columnCuts, .ref a_g_bandRows, .ref a_g_zoneColumns, .ref a_g_rows, .ref a_g_sheets])) :: (a_g_bandRows, .inl (ci 0, 5, .inl g_bandRows)) :: (a_g_zoneColumns, .inl (ci 0, 5, .inl g_zoneColumns)) :: (a_g_rows, .inl (ci 0, 5, .inl g_rows)) :: (a_g_sheets, .inl (ci 0, 5, .inl g_sheets)) :: Rw) H := ⟨hP, hD⟩
        refine lv_aload_n (pc := 26) hx hb dX10_side_26 rfl (lv_at hl 0 rfl) ?_
        refine va_get (pc := 27) (D := D) (ci := 10) (v := .ref a_sp) (C := RX10) (T := TX10) (N := 14) hx hb hts hinX10 hown hK hP 0 rfl rfl 8 (by decide) w_1 (fun _ h9 => h9) rfl dX10_side_27 ?_
        obtain ⟨f8, f9, hm30, hf⟩ := q_b2_e hf
        refine q_cV (pc := 30) (As := []) (rest := []) (v0 := none) ⟨hx, hb, hml, hown, hts⟩ hK hA hZ hP hD hS hl.1 [1, 2, 3, 4, 5, 6, 7, 8, 0] 9 rfl ⟨rfl, rfl, rfl⟩ (c_Spot_lookAround l D ci A sa N ((a_x, .inr (10, [.ref a_at, .ref a_g, .ref a_st, .ref a_x_kept, .int x_keptStates, .ref a_tp, .ref a_rd, .ref a_qu, .ref a_sp, .ref a_wk, .ref a_bx, .ref a_nt, .ref a_nu, .ref a_x_seen])) :: Rw) a_sp a_g a_sp_first a_sp_many a_sp_corner a_g_rowCuts a_g_columnCuts a_g_bandRows a_g_zoneColumns a_g_rows a_g_sheets sp_cornerCount v2 v3 v4 v5 v6 v7 sp_first sp_many g_bandRows g_zoneColumns g_rows g_sheets f8 f9 hm30) 1 rfl rfl (cwV 0 hts gX10_side_X6_lookAround rfl rfl rfl (by decide +kernel) ⟨Nat.le_of_ble_eq_true rfl, Nat.le_of_ble_eq_true rfl⟩) rfl rfl (Nat.le_of_ble_eq_true rfl) dX10_side_30 ⟨Nat.zero_le _, Nat.zero_le _⟩ [8, 0, 1, 2, 3, 4, 5, 6, 7] 9 rfl ⟨rfl, rfl, rfl⟩ (fun H locs hP hD hS => ?_)
        obtain ⟨hP, hD⟩ : va_PD D A ((a_x, .inr (10, [.ref a_at, .ref a_g, .ref a_st, .ref a_x_kept, .int x_keptStates, .ref a_tp, .ref a_rd, .ref a_qu, .ref a_sp, .ref a_wk, .ref a_bx, .ref a_nt, .ref a_nu, .ref a_x_seen])) :: (a_sp, .inr (6, [.ref a_g, .ref a_sp_first, .ref a_sp_many, .ref a_sp_corner, .int sp_cornerCount, .int v2, .int v3, .int v4, .int v5, .int v6, .int v7])) :: (a_sp_first, .inl (ci 0, 4, .inl f8)) :: (a_sp_many, .inl (ci 0, 4, .inl f9)) :: (a_g, .inr (2, [.ref a_g_rowCuts, .ref a_g_columnCuts, .ref a_g_bandRows, .ref a_g_zoneColumns, .ref a_g_rows, .ref a_g_sheets])) :: (a_g_bandRows, .inl (ci 0, 5, .inl g_bandRows)) :: (a_g_zoneColumns, .inl (ci 0, 5, .inl g_zoneColumns)) :: (a_g_rows, .inl (ci 0, 5, .inl g_rows)) :: (a_g_sheets, .inl (ci 0, 5, .inl g_sheets)) :: Rw) H := ⟨hP, hD⟩
        refine lv_iconst (pc := 33) (v := 0) hx hb dX10_side_33 (by decide) ?_
        obtain ⟨v10, ev10, hf⟩ := q_nm_e hf
        refine q_topi ev10 ?_
        refine lv_istore (pc := 34) (lv' := [(4, .int v10), (0, .ref a_x), (1, .int p1), (2, .int p2), (3, .int p3)]) hx hb dX10_side_34 hl (by decide) rfl (fun ls hl => ?_)
        obtain ⟨k36, o36_, ek36, hm36, hk36⟩ := q_s0_k hf
        have JE36 : ∀  (H : Heap) (locs : List Loc) (ls : Array Slot), k36 = some (r, o1, o2, o3, o4, o5, o6, o7, o8) → va_P D vwCl ((a_x, .inr (10, [.ref a_at, .ref a_g, .ref a_st, .ref a_x_kept, .int x_keptStates, .ref a_tp, .ref a_rd, .ref a_qu, .ref a_sp, .ref a_wk, .ref a_bx, .ref a_nt, .ref a_nu, .ref a_x_seen])) :: (a_sp, .inr (6, [.ref a_g, .ref a_sp_first, .ref a_sp_many, .ref a_sp_corner, .int sp_cornerCount, .int v2, .int v3, .int v4, .int v5, .int v6, .int v7])) :: (a_sp_first, .inl (ci 0, 4, .inl f8)) :: (a_sp_many, .inl (ci 0, 4, .inl f9)) :: (a_g, .inr (2, [.ref a_g_rowCuts, .ref a_g_columnCuts, .ref a_g_bandRows, .ref a_g_zoneColumns, .ref a_g_rows, .ref a_g_sheets])) :: (a_g_bandRows, .inl (ci 0, 5, .inl g_bandRows)) :: (a_g_zoneColumns, .inl (ci 0, 5, .inl g_zoneColumns)) :: (a_g_rows, .inl (ci 0, 5, .inl g_rows)) :: (a_g_sheets, .inl (ci 0, 5, .inl g_sheets)) :: Rw) H → va_D A ((a_x, .inr (10, [.ref a_at, .ref a_g, .ref a_st, .ref a_x_kept, .int x_keptStates, .ref a_tp, .ref a_rd, .ref a_qu, .ref a_sp, .ref a_wk, .ref a_bx, .ref a_nt, .ref a_nu, .ref a_x_seen])) :: (a_sp, .inr (6, [.ref a_g, .ref a_sp_first, .ref a_sp_many, .ref a_sp_corner, .int sp_cornerCount, .int v2, .int v3, .int v4, .int v5, .int v6, .int v7])) :: (a_sp_first, .inl (ci 0, 4, .inl f8)) :: (a_sp_many, .inl (ci 0, 4, .inl f9)) :: (a_g, .inr (2, [.ref a_g_rowCuts, .ref a_g_columnCuts, .ref a_g_bandRows, .ref a_g_zoneColumns, .ref a_g_rows, .ref a_g_sheets])) :: (a_g_bandRows, .inl (ci 0, 5, .inl g_bandRows)) :: (a_g_zoneColumns, .inl (ci 0, 5, .inl g_zoneColumns)) :: (a_g_rows, .inl (ci 0, 5, .inl g_rows)) :: (a_g_sheets, .inl (ci 0, 5, .inl g_sheets)) :: Rw) → va_S A s.heap H locs → lv_has ls 5 [] → W p l e ({ frames := 3, cells := 0, slots := 0, locals := 71 } : Room) s m ([.ref a_x, .int p1, .int p2, .int p3] : List Value).toArray below meth c H locs 0 0 Q (F0 m 90 ls []) := by
          intro  H locs ls hf hP hD hS hl
          have hf := (ek36).symm.trans hf
          refine lv_bipush (pc := 90) (v := (-2)) hx hb dX10_side_90 (by decide) ?_
          obtain ⟨e90, e91, e92, e93, e94, e95, e96, e97, e98⟩ := q_inj9 (Option.some.inj hf)
          rw [hQ, ← e90, ← e91, ← e92, ← e93, ← e94, ← e95, ← e96, ← e97, ← e98]
          exact q_iret (pc := 92) hx hb hr hlocks hP hD hS dX10_side_92
        have LP36 : ∀ (n36 : Nat) (v11 : Int32) (H : Heap) (locs : List Loc) (ls : Array Slot), f_X_side_L36 f8 f9 p3 v2 v3 v4 v5 v6 v7 n36 v11 = some o36_ → va_P D vwCl ((a_x, .inr (10, [.ref a_at, .ref a_g, .ref a_st, .ref a_x_kept, .int x_keptStates, .ref a_tp, .ref a_rd, .ref a_qu, .ref a_sp, .ref a_wk, .ref a_bx, .ref a_nt, .ref a_nu, .ref a_x_seen])) :: (a_sp, .inr (6, [.ref a_g, .ref a_sp_first, .ref a_sp_many, .ref a_sp_corner, .int sp_cornerCount, .int v2, .int v3, .int v4, .int v5, .int v6, .int v7])) :: (a_sp_first, .inl (ci 0, 4, .inl f8)) :: (a_sp_many, .inl (ci 0, 4, .inl f9)) :: (a_g, .inr (2, [.ref a_g_rowCuts, .ref a_g_columnCuts, .ref a_g_bandRows, .ref a_g_zoneColumns, .ref a_g_rows, .ref a_g_sheets])) :: (a_g_bandRows, .inl (ci 0, 5, .inl g_bandRows)) :: (a_g_zoneColumns, .inl (ci 0, 5, .inl g_zoneColumns)) :: (a_g_rows, .inl (ci 0, 5, .inl g_rows)) :: (a_g_sheets, .inl (ci 0, 5, .inl g_sheets)) :: Rw) H → va_D A ((a_x, .inr (10, [.ref a_at, .ref a_g, .ref a_st, .ref a_x_kept, .int x_keptStates, .ref a_tp, .ref a_rd, .ref a_qu, .ref a_sp, .ref a_wk, .ref a_bx, .ref a_nt, .ref a_nu, .ref a_x_seen])) :: (a_sp, .inr (6, [.ref a_g, .ref a_sp_first, .ref a_sp_many, .ref a_sp_corner, .int sp_cornerCount, .int v2, .int v3, .int v4, .int v5, .int v6, .int v7])) :: (a_sp_first, .inl (ci 0, 4, .inl f8)) :: (a_sp_many, .inl (ci 0, 4, .inl f9)) :: (a_g, .inr (2, [.ref a_g_rowCuts, .ref a_g_columnCuts, .ref a_g_bandRows, .ref a_g_zoneColumns, .ref a_g_rows, .ref a_g_sheets])) :: (a_g_bandRows, .inl (ci 0, 5, .inl g_bandRows)) :: (a_g_zoneColumns, .inl (ci 0, 5, .inl g_zoneColumns)) :: (a_g_rows, .inl (ci 0, 5, .inl g_rows)) :: (a_g_sheets, .inl (ci 0, 5, .inl g_sheets)) :: Rw) → va_S A s.heap H locs → lv_has ls 5 [(0, .ref a_x), (3, .int p3), (4, .int v11)] → W p l e ({ frames := 3, cells := 0, slots := 0, locals := 71 } : Room) s m ([.ref a_x, .int p1, .int p2, .int p3] : List Value).toArray below meth c H locs 0 0 Q (F0 m 36 ls []) := by
          intro n36
          induction n36 with
          | zero => intro v11 H locs ls hf; rw [f_X_side_L36] at hf; cases hf
          | succ n36 ih36 =>
            intro v11 H locs ls hf hP hD hS hl
            rw [f_X_side_L36] at hf
            refine lv_iload (pc := 36) hx hb dX10_side_36 (lv_at hl 2 rfl) ?_
            refine lv_iconst (pc := 38) (v := 3) hx hb dX10_side_38 (by decide) ?_
            refine q_icmp_gt (pc := 39) (tgt := 90) hx hb dX10_side_39 (by decide) rfl hf (fun hf => ?_) (fun hf => ?_)
            · obtain rfl := Option.some.inj hf
              exact JE36  _ _ _ hk36 hP hD hS (lv_sub hl [] rfl)
            · refine lv_iload_n (pc := 42) hx hb dX10_side_42 rfl (lv_at hl 1 rfl) ?_
              refine lv_aload_n (pc := 43) hx hb dX10_side_43 rfl (lv_at hl 0 rfl) ?_
              refine va_get (pc := 44) (D := D) (ci := 10) (v := .ref a_sp) (C := RX10) (T := TX10) (N := 14) hx hb hts hinX10 hown hK hP 0 rfl rfl 8 (by decide) w_1 (fun _ h9 => h9) rfl dX10_side_44 ?_
              refine va_getN (pc := 47) (D := D) (ci := 6) (v := .ref a_sp_first) (C := RX6) (T := TX6) (N := 11) hx hb hts hinX6 hown hK hP 1 rfl rfl 1 (by decide) wn_17 (fun _ h9 => h9) rfl dX10_side_47 ?_
              refine lv_iload (pc := 50) hx hb dX10_side_50 (lv_at hl 2 rfl) ?_
              refine q_iald (pc := 52) hx hb hK hP 2 0 hf rfl rfl dX10_side_52 (fun v12 hf => ?_)
              obtain ⟨k84, ek84, hf⟩ := q_j0_e hf
              have J84 : ∀  (H : Heap) (locs : List Loc) (ls : Array Slot), k84 = some o36_ → va_P D vwCl ((a_x, .inr (10, [.ref a_at, .ref a_g, .ref a_st, .ref a_x_kept, .int x_keptStates, .ref a_tp, .ref a_rd, .ref a_qu, .ref a_sp, .ref a_wk, .ref a_bx, .ref a_nt, .ref a_nu, .ref a_x_seen])) :: (a_sp, .inr (6, [.ref a_g, .ref a_sp_first, .ref a_sp_many, .ref a_sp_corner, .int sp_cornerCount, .int v2, .int v3, .int v4, .int v5, .int v6, .int v7])) :: (a_sp_first, .inl (ci 0, 4, .inl f8)) :: (a_sp_many, .inl (ci 0, 4, .inl f9)) :: (a_g, .inr (2, [.ref a_g_rowCuts, .ref a_g_columnCuts, .ref a_g_bandRows, .ref a_g_zoneColumns, .ref a_g_rows, .ref a_g_sheets])) :: (a_g_bandRows, .inl (ci 0, 5, .inl g_bandRows)) :: (a_g_zoneColumns, .inl (ci 0, 5, .inl g_zoneColumns)) :: (a_g_rows, .inl (ci 0, 5, .inl g_rows)) :: (a_g_sheets, .inl (ci 0, 5, .inl g_sheets)) :: Rw) H → va_D A ((a_x, .inr (10, [.ref a_at, .ref a_g, .ref a_st, .ref a_x_kept, .int x_keptStates, .ref a_tp, .ref a_rd, .ref a_qu, .ref a_sp, .ref a_wk, .ref a_bx, .ref a_nt, .ref a_nu, .ref a_x_seen])) :: (a_sp, .inr (6, [.ref a_g, .ref a_sp_first, .ref a_sp_many, .ref a_sp_corner, .int sp_cornerCount, .int v2, .int v3, .int v4, .int v5, .int v6, .int v7])) :: (a_sp_first, .inl (ci 0, 4, .inl f8)) :: (a_sp_many, .inl (ci 0, 4, .inl f9)) :: (a_g, .inr (2, [.ref a_g_rowCuts, .ref a_g_columnCuts, .ref a_g_bandRows, .ref a_g_zoneColumns, .ref a_g_rows, .ref a_g_sheets])) :: (a_g_bandRows, .inl (ci 0, 5, .inl g_bandRows)) :: (a_g_zoneColumns, .inl (ci 0, 5, .inl g_zoneColumns)) :: (a_g_rows, .inl (ci 0, 5, .inl g_rows)) :: (a_g_sheets, .inl (ci 0, 5, .inl g_sheets)) :: Rw) → va_S A s.heap H locs → lv_has ls 5 [(0, .ref a_x), (3, .int p3), (4, .int v11)] → W p l e ({ frames := 3, cells := 0, slots := 0, locals := 71 } : Room) s m ([.ref a_x, .int p1, .int p2, .int p3] : List Value).toArray below meth c H locs 0 0 Q (F0 m 84 ls []) := by
                intro  H locs ls hf hP hD hS hl
                have hf := (ek84).symm.trans hf
                obtain ⟨v13, ev13, hf⟩ := q_nm_e hf
                refine lv_iinc (pc := 84) (v := v13) (lv' := [(4, .int v13), (0, .ref a_x), (3, .int p3)]) hx hb dX10_side_84 hl (k := 2) rfl (by rw [ev13]; rfl) (by decide) rfl (fun ls hl => ?_)
                refine lv_goto (pc := 87) (tgt := 36) hx hb dX10_side_87 (by decide) ?_
                exact ih36 v13 _ _ _ hf hP hD hS (lv_sub hl [1, 2, 0] rfl)
              refine q_icmp_lt (pc := 53) (tgt := 84) hx hb dX10_side_53 (by decide) rfl hf (fun hf => ?_) (fun hf => ?_)
              · exact J84  _ _ _ hf hP hD hS (lv_sub hl [0, 1, 2] rfl)
              · refine lv_iload_n (pc := 56) hx hb dX10_side_56 rfl (lv_at hl 1 rfl) ?_
                refine lv_aload_n (pc := 57) hx hb dX10_side_57 rfl (lv_at hl 0 rfl) ?_
                refine va_get (pc := 58) (D := D) (ci := 10) (v := .ref a_sp) (C := RX10) (T := TX10) (N := 14) hx hb hts hinX10 hown hK hP 0 rfl rfl 8 (by decide) w_1 (fun _ h9 => h9) rfl dX10_side_58 ?_
                refine va_getN (pc := 61) (D := D) (ci := 6) (v := .ref a_sp_first) (C := RX6) (T := TX6) (N := 11) hx hb hts hinX6 hown hK hP 1 rfl rfl 1 (by decide) wn_17 (fun _ h9 => h9) rfl dX10_side_61 ?_
                refine lv_iload (pc := 64) hx hb dX10_side_64 (lv_at hl 2 rfl) ?_
                refine q_iald (pc := 66) hx hb hK hP 2 0 hf rfl rfl dX10_side_66 (fun v14 hf => ?_)
                refine lv_aload_n (pc := 67) hx hb dX10_side_67 rfl (lv_at hl 0 rfl) ?_
                refine va_get (pc := 68) (D := D) (ci := 10) (v := .ref a_sp) (C := RX10) (T := TX10) (N := 14) hx hb hts hinX10 hown hK hP 0 rfl rfl 8 (by decide) w_1 (fun _ h9 => h9) rfl dX10_side_68 ?_
                refine va_getN (pc := 71) (D := D) (ci := 6) (v := .ref a_sp_many) (C := RX6) (T := TX6) (N := 11) hx hb hts hinX6 hown hK hP 1 rfl rfl 2 (by decide) wn_16 (fun _ h9 => h9) rfl dX10_side_71 ?_
                refine lv_iload (pc := 74) hx hb dX10_side_74 (lv_at hl 2 rfl) ?_
                refine q_iald (pc := 76) hx hb hK hP 3 0 hf rfl rfl dX10_side_76 (fun v15 hf => ?_)
                refine lv_iadd (pc := 77) hx hb dX10_side_77 ?_
                refine q_icmp_ge (pc := 78) (tgt := 84) hx hb dX10_side_78 (by decide) rfl hf (fun hf => ?_) (fun hf => ?_)
                · exact J84  _ _ _ hf hP hD hS (lv_sub hl [0, 1, 2] rfl)
                · refine lv_iload (pc := 81) hx hb dX10_side_81 (lv_at hl 2 rfl) ?_
                  obtain rfl := Option.some.inj hf
                  have hk36 : ((v11, f8, f9, v2, v3, v4, v5, v6, v7) : Int32 × (Nat → Int32) × (Nat → Int32) × Int32 × Int32 × Int32 × Int32 × Int32 × Int32) = (r, o1, o2, o3, o4, o5, o6, o7, o8) := hk36
                  obtain ⟨e90, e91, e92, e93, e94, e95, e96, e97, e98⟩ := q_inj9 (hk36)
                  rw [hQ, ← e90, ← e91, ← e92, ← e93, ← e94, ← e95, ← e96, ← e97, ← e98]
                  exact q_iret (pc := 83) hx hb hr hlocks hP hD hS dX10_side_83
        exact LP36 N v10 _ _ _ hm36 hP hD hS (lv_sub hl [1, 4, 0] rfl)
      · refine lv_iconst (pc := 15) (v := (-1)) hx hb dX10_side_15 (by decide) ?_
        obtain ⟨e90, e91, e92, e93, e94, e95, e96, e97, e98⟩ := q_inj9 (Option.some.inj hf)
        rw [hQ, ← e90, ← e91, ← e92, ← e93, ← e94, ← e95, ← e96, ← e97, ← e98]
        exact q_iret (pc := 16) hx hb hr hlocks hP hD hS dX10_side_16
  exact hgo _ _ rfl hP hS
/-! X10_store -/
set_option maxRecDepth 100000 in
set_option maxHeartbeats 4000000 in
theorem c_X_store (l : Launch) (D : va_G) (ci : Nat → ClassId) (A : Nat → Prop) (sa : Nat → Nat) (N : Nat) (Rw : va_W) (a_x : Nat) (a_at : Nat) (a_g : Nat) (a_st : Nat) (a_x_kept : Nat) (a_tp : Nat) (a_rd : Nat) (a_qu : Nat) (a_sp : Nat) (a_wk : Nat) (a_bx : Nat) (a_nt : Nat) (a_nu : Nat) (a_x_seen : Nat) (a_st_levels : Nat) (a_st_keys : Nat) (a_st_years : Nat) (a_st_keysThere : Nat) (a_g_rowCuts : Nat) (a_g_columnCuts : Nat) (a_g_bandRows : Nat) (a_g_zoneColumns : Nat) (a_g_rows : Nat) (a_g_sheets : Nat) (x_keptStates : Int32) (st_size : Int32) (st_shownBy : Int32) (st_deepestShown : Int32) (st_latestShown : Int32) (st_levels : Nat → Int32) (st_keys : Nat → Int32) (st_years : Nat → Int32) (g_bandRows : Nat → Int32) (g_zoneColumns : Nat → Int32) (g_rows : Nat → Int32) (g_sheets : Nat → Int32) (p1 : Int32) (p2 : Int32) (p3 : Int32) (r : Int32) (o1 : Nat → Int32) (o2 : Nat → Int32) (o3 : Nat → Int32) (o4 : Int32) (hf : f_X_store N st_levels st_keys st_years st_size g_bandRows g_zoneColumns g_rows g_sheets p1 p2 p3 = some (r, o1, o2, o3, o4)) : Met l yX10_store wsX10_store ({ frames := 3, cells := 0, slots := 0, locals := 75 }) (va_Pc [.ref a_x, .int p1, .int p2, .int p3] (q_N D ci A sa ((a_x, .inr (10, [.ref a_at, .ref a_g, .ref a_st, .ref a_x_kept, .int x_keptStates, .ref a_tp, .ref a_rd, .ref a_qu, .ref a_sp, .ref a_wk, .ref a_bx, .ref a_nt, .ref a_nu, .ref a_x_seen])) :: (a_st, .inr (7, [.ref a_g, .ref a_st_levels, .ref a_st_keys, .ref a_st_years, .ref a_st_keysThere, .int st_size, .int st_shownBy, .int st_deepestShown, .int st_latestShown])) :: (a_st_levels, .inl (ci 0, 60, .inl st_levels)) :: (a_st_keys, .inl (ci 0, 60, .inl st_keys)) :: (a_st_years, .inl (ci 0, 60, .inl st_years)) :: (a_g, .inr (2, [.ref a_g_rowCuts, .ref a_g_columnCuts, .ref a_g_bandRows, .ref a_g_zoneColumns, .ref a_g_rows, .ref a_g_sheets])) :: (a_g_bandRows, .inl (ci 0, 5, .inl g_bandRows)) :: (a_g_zoneColumns, .inl (ci 0, 5, .inl g_zoneColumns)) :: (a_g_rows, .inl (ci 0, 5, .inl g_rows)) :: (a_g_sheets, .inl (ci 0, 5, .inl g_sheets)) :: Rw))) (q_Q (some (.int r)) (q_O D A ((a_x, .inr (10, [.ref a_at, .ref a_g, .ref a_st, .ref a_x_kept, .int x_keptStates, .ref a_tp, .ref a_rd, .ref a_qu, .ref a_sp, .ref a_wk, .ref a_bx, .ref a_nt, .ref a_nu, .ref a_x_seen])) :: (a_st, .inr (7, [.ref a_g, .ref a_st_levels, .ref a_st_keys, .ref a_st_years, .ref a_st_keysThere, .int o4, .int st_shownBy, .int st_deepestShown, .int st_latestShown])) :: (a_st_levels, .inl (ci 0, 60, .inl o1)) :: (a_st_keys, .inl (ci 0, 60, .inl o2)) :: (a_st_years, .inl (ci 0, 60, .inl o3)) :: (a_g, .inr (2, [.ref a_g_rowCuts, .ref a_g_columnCuts, .ref a_g_bandRows, .ref a_g_zoneColumns, .ref a_g_rows, .ref a_g_sheets])) :: (a_g_bandRows, .inl (ci 0, 5, .inl g_bandRows)) :: (a_g_zoneColumns, .inl (ci 0, 5, .inl g_zoneColumns)) :: (a_g_rows, .inl (ci 0, 5, .inl g_rows)) :: (a_g_sheets, .inl (ci 0, 5, .inl g_sheets)) :: Rw)) A) 0 0 A := by
  refine q_ofW (cc := cX10_store) (maxL := 6) (ret := (some .int)) [.ref a_x, .int p1, .int p2, .int p3] (plainFor_of_name (by decide)) rfl (Nat.le_of_ble_eq_true rfl) ?_
  intro p e s m below meth c ls Q hQ hx hb hml hr hts hown hlocks hK hA hZ hP hD hS hl
  have hl : lv_has ls 6 [(0, .ref a_x), (1, .int p1), (2, .int p2), (3, .int p3)] := hl
  have hown : s.vm.findClass RX10 = some m.cls := hown
  have hinX10 : ∀ w ∈ wsX100, w ∈ wsX10_store := fun _ h => List.mem_cons_of_mem _ (inWX100 _ h)
  have hinX7 : ∀ w ∈ wsX70, w ∈ wsX10_store := fun _ h => List.mem_cons_of_mem _ (inWX70 _ h)
  have w_1 := hts (Cond.fieldLink RX10 20 "SheetNames" "grid" "LSheetNames$Grid;") (List.mem_cons_of_mem _ t_w876)
  have w_2 := hts (Cond.fieldLink RX10 25 "SheetNames" "pieces" "LSheetNames$Store;") (List.mem_cons_of_mem _ t_w892)
  have wn_0 : (Cond.fieldLinkNest "SheetNames" 109 "SheetNames$Store" "size" "I" "SheetNames").before ([.ref a_x, .int p1, .int p2, .int p3] : List Value).toArray s = true := (hZ.2.2.2.2.2.2.2.2.2.1 _ (List.mem_of_getElem? (i := 0) rfl)).use rfl
  unfold f_X_store at hf
  have hgo : ∀ (H : Heap) (locs : List Loc), H = s.heap → va_P D vwCl ((a_x, .inr (10, [.ref a_at, .ref a_g, .ref a_st, .ref a_x_kept, .int x_keptStates, .ref a_tp, .ref a_rd, .ref a_qu, .ref a_sp, .ref a_wk, .ref a_bx, .ref a_nt, .ref a_nu, .ref a_x_seen])) :: (a_st, .inr (7, [.ref a_g, .ref a_st_levels, .ref a_st_keys, .ref a_st_years, .ref a_st_keysThere, .int st_size, .int st_shownBy, .int st_deepestShown, .int st_latestShown])) :: (a_st_levels, .inl (ci 0, 60, .inl st_levels)) :: (a_st_keys, .inl (ci 0, 60, .inl st_keys)) :: (a_st_years, .inl (ci 0, 60, .inl st_years)) :: (a_g, .inr (2, [.ref a_g_rowCuts, .ref a_g_columnCuts, .ref a_g_bandRows, .ref a_g_zoneColumns, .ref a_g_rows, .ref a_g_sheets])) :: (a_g_bandRows, .inl (ci 0, 5, .inl g_bandRows)) :: (a_g_zoneColumns, .inl (ci 0, 5, .inl g_zoneColumns)) :: (a_g_rows, .inl (ci 0, 5, .inl g_rows)) :: (a_g_sheets, .inl (ci 0, 5, .inl g_sheets)) :: Rw) H → va_S A s.heap H locs → W p l e ({ frames := 3, cells := 0, slots := 0, locals := 75 } : Room) s m ([.ref a_x, .int p1, .int p2, .int p3] : List Value).toArray below meth c H locs 0 0 Q (F0 m 0 ls []) := by
    intro H locs hH hP hS
    refine lv_aload_n (pc := 0) hx hb dX10_store_0 rfl (lv_at hl 0 rfl) ?_
    refine va_get (pc := 1) (D := D) (ci := 10) (v := .ref a_g) (C := RX10) (T := TX10) (N := 14) hx hb hts hinX10 hown hK hP 0 rfl rfl 1 (by decide) w_1 (fun _ h9 => h9) rfl dX10_store_1 ?_
    refine lv_iload_n (pc := 4) hx hb dX10_store_4 rfl (lv_at hl 1 rfl) ?_
    refine lv_iload_n (pc := 5) hx hb dX10_store_5 rfl (lv_at hl 2 rfl) ?_
    obtain ⟨v1, hm6, hf⟩ := q_b1_e hf
    refine q_cVr (pc := 6) (As := [.int p1, .int p2]) (rest := []) (v0 := (some (.int v1))) ⟨hx, hb, hml, hown, hts⟩ hK hA hZ hP hD hS hl.1 [5, 9] 10 rfl ⟨rfl, rfl, rfl⟩ (c_Grid_hasSheet l D ci A sa N (Rw) a_g a_g_rowCuts a_g_columnCuts a_g_bandRows a_g_zoneColumns a_g_rows a_g_sheets g_sheets p1 p2 v1 hm6) 5 rfl rfl (cwV 2 hts gX10_store_X2_hasSheet rfl rfl rfl (by decide +kernel) ⟨Nat.le_of_ble_eq_true rfl, Nat.le_of_ble_eq_true rfl⟩) rfl rfl (Nat.le_of_ble_eq_true rfl) dX10_store_6 ⟨Nat.zero_le _, Nat.zero_le _⟩ (fun locs hS => ?_)
    refine q_if_eq (pc := 9) (tgt := 25) hx hb dX10_store_9 (by decide) rfl hf (fun hf => ?_) (fun hf => ?_)
    · refine lv_iconst (pc := 25) (v := (-1)) hx hb dX10_store_25 (by decide) ?_
      obtain ⟨e90, e91, e92, e93, e94⟩ := q_inj5 (Option.some.inj hf)
      rw [hQ, ← e90, ← e91, ← e92, ← e93, ← e94]
      exact q_iret (pc := 26) hx hb hr hlocks hP hD hS dX10_store_26
    · refine lv_iload_n (pc := 12) hx hb dX10_store_12 rfl (lv_at hl 3 rfl) ?_
      refine lv_sipush (pc := 13) (v := 1800) hx hb dX10_store_13 (by decide) ?_
      refine lv_sipush (pc := 16) (v := 2100) hx hb dX10_store_16 (by decide) ?_
      obtain ⟨v2, hm19, hf⟩ := q_b1_e hf
      refine q_cSr (pc := 19) (As := [.int p3, .int 1800, .int 2100]) (rest := []) (v0 := (some (.int v2))) ⟨hx, hb, hml, hown, hts⟩ hK hA hZ hP hD hS hl.1 [] 10 rfl ⟨rfl, rfl, rfl⟩ (c_X_isFrom l D ci A sa N (Rw) p3 1800 2100 v2 hm19) (va_cwS 3 hts gX10_store_X10_isFrom rfl rfl rfl (by decide +kernel) ⟨Nat.le_of_ble_eq_true rfl, Nat.le_of_ble_eq_true rfl⟩) rfl rfl (Nat.le_of_ble_eq_true rfl) dX10_store_19 ⟨Nat.zero_le _, Nat.zero_le _⟩ (fun locs hS => ?_)
      refine q_if_ne (pc := 22) (tgt := 27) hx hb dX10_store_22 (by decide) rfl hf (fun hf => ?_) (fun hf => ?_)
      · refine lv_aload_n (pc := 27) hx hb dX10_store_27 rfl (lv_at hl 0 rfl) ?_
        refine va_get (pc := 28) (D := D) (ci := 10) (v := .ref a_g) (C := RX10) (T := TX10) (N := 14) hx hb hts hinX10 hown hK hP 0 rfl rfl 1 (by decide) w_1 (fun _ h9 => h9) rfl dX10_store_28 ?_
        refine lv_iload_n (pc := 31) hx hb dX10_store_31 rfl (lv_at hl 1 rfl) ?_
        refine lv_iload_n (pc := 32) hx hb dX10_store_32 rfl (lv_at hl 2 rfl) ?_
        obtain ⟨v3, hm33, hf⟩ := q_b1_e hf
        refine q_cVr (pc := 33) (As := [.int p1, .int p2]) (rest := []) (v0 := (some (.int v3))) ⟨hx, hb, hml, hown, hts⟩ hK hA hZ hP hD hS hl.1 [5, 9] 10 rfl ⟨rfl, rfl, rfl⟩ (c_Grid_storedLevel l D ci A sa N (Rw) a_g a_g_rowCuts a_g_columnCuts a_g_bandRows a_g_zoneColumns a_g_rows a_g_sheets g_sheets p1 p2 v3 hm33) 5 rfl rfl (cwV 2 hts gX10_store_X2_storedLevel rfl rfl rfl (by decide +kernel) ⟨Nat.le_of_ble_eq_true rfl, Nat.le_of_ble_eq_true rfl⟩) rfl rfl (Nat.le_of_ble_eq_true rfl) dX10_store_33 ⟨Nat.zero_le _, Nat.zero_le _⟩ (fun locs hS => ?_)
        refine lv_istore (pc := 36) (lv' := [(4, .int v3), (0, .ref a_x), (1, .int p1), (2, .int p2), (3, .int p3)]) hx hb dX10_store_36 hl (by decide) rfl (fun ls hl => ?_)
        refine lv_aload_n (pc := 38) hx hb dX10_store_38 rfl (lv_at hl 1 rfl) ?_
        refine va_get (pc := 39) (D := D) (ci := 10) (v := .ref a_g) (C := RX10) (T := TX10) (N := 14) hx hb hts hinX10 hown hK hP 0 rfl rfl 1 (by decide) w_1 (fun _ h9 => h9) rfl dX10_store_39 ?_
        refine lv_iload_n (pc := 42) hx hb dX10_store_42 rfl (lv_at hl 2 rfl) ?_
        refine lv_iload_n (pc := 43) hx hb dX10_store_43 rfl (lv_at hl 3 rfl) ?_
        refine lv_iload (pc := 44) hx hb dX10_store_44 (lv_at hl 0 rfl) ?_
        obtain ⟨v4, hm46, hf⟩ := q_b1_e hf
        refine q_cVr (pc := 46) (As := [.int p1, .int p2, .int v3]) (rest := []) (v0 := (some (.int v4))) ⟨hx, hb, hml, hown, hts⟩ hK hA hZ hP hD hS hl.1 [5, 6, 7, 8, 9] 10 rfl ⟨rfl, rfl, rfl⟩ (c_Grid_keyAbove l D ci A sa N (Rw) a_g a_g_rowCuts a_g_columnCuts a_g_bandRows a_g_zoneColumns a_g_rows a_g_sheets g_bandRows g_zoneColumns g_rows g_sheets p1 p2 v3 v4 hm46) 5 rfl rfl (cwV 3 hts gX10_store_X2_keyAbove rfl rfl rfl (by decide +kernel) ⟨Nat.le_of_ble_eq_true rfl, Nat.le_of_ble_eq_true rfl⟩) rfl rfl (Nat.le_of_ble_eq_true rfl) dX10_store_46 ⟨Nat.zero_le _, Nat.zero_le _⟩ (fun locs hS => ?_)
        refine lv_istore (pc := 49) (lv' := [(5, .int v4), (4, .int v3), (0, .ref a_x), (1, .int p1), (2, .int p2), (3, .int p3)]) hx hb dX10_store_49 hl (by decide) rfl (fun ls hl => ?_)
        refine lv_aload_n (pc := 51) hx hb dX10_store_51 rfl (lv_at hl 2 rfl) ?_
        refine va_get (pc := 52) (D := D) (ci := 10) (v := .ref a_st) (C := RX10) (T := TX10) (N := 14) hx hb hts hinX10 hown hK hP 0 rfl rfl 2 (by decide) w_2 (fun _ h9 => h9) rfl dX10_store_52 ?_
        refine lv_iload (pc := 55) hx hb dX10_store_55 (lv_at hl 1 rfl) ?_
        refine lv_iload (pc := 57) hx hb dX10_store_57 (lv_at hl 0 rfl) ?_
        refine lv_iload_n (pc := 59) hx hb dX10_store_59 rfl (lv_at hl 5 rfl) ?_
        obtain ⟨v5, f6, f7, f8, v9, hm60, hf⟩ := q_b5_e hf
        refine q_cV (pc := 60) (As := [.int v3, .int v4, .int p3]) (rest := []) (v0 := (some (.int v5))) ⟨hx, hb, hml, hown, hts⟩ hK hA hZ hP hD hS hl.1 [1, 2, 3, 4, 0, 5, 6, 7, 8, 9] 10 rfl ⟨rfl, rfl, rfl⟩ (c_Store_put l D ci A sa N ((a_x, .inr (10, [.ref a_at, .ref a_g, .ref a_st, .ref a_x_kept, .int x_keptStates, .ref a_tp, .ref a_rd, .ref a_qu, .ref a_sp, .ref a_wk, .ref a_bx, .ref a_nt, .ref a_nu, .ref a_x_seen])) :: (a_g, .inr (2, [.ref a_g_rowCuts, .ref a_g_columnCuts, .ref a_g_bandRows, .ref a_g_zoneColumns, .ref a_g_rows, .ref a_g_sheets])) :: (a_g_bandRows, .inl (ci 0, 5, .inl g_bandRows)) :: (a_g_zoneColumns, .inl (ci 0, 5, .inl g_zoneColumns)) :: (a_g_rows, .inl (ci 0, 5, .inl g_rows)) :: (a_g_sheets, .inl (ci 0, 5, .inl g_sheets)) :: Rw) a_st a_g a_st_levels a_st_keys a_st_years a_st_keysThere st_size st_shownBy st_deepestShown st_latestShown st_levels st_keys st_years v3 v4 p3 v5 f6 f7 f8 v9 hm60) 1 rfl rfl (cwV 3 hts gX10_store_X7_put rfl rfl rfl (by decide +kernel) ⟨Nat.le_of_ble_eq_true rfl, Nat.le_of_ble_eq_true rfl⟩) rfl rfl (Nat.le_of_ble_eq_true rfl) dX10_store_60 ⟨Nat.zero_le _, Nat.zero_le _⟩ [4, 0, 1, 2, 3, 5, 6, 7, 8, 9] 10 rfl ⟨rfl, rfl, rfl⟩ (fun H locs hP hD hS => ?_)
        obtain ⟨hP, hD⟩ : va_PD D A ((a_x, .inr (10, [.ref a_at, .ref a_g, .ref a_st, .ref a_x_kept, .int x_keptStates, .ref a_tp, .ref a_rd, .ref a_qu, .ref a_sp, .ref a_wk, .ref a_bx, .ref a_nt, .ref a_nu, .ref a_x_seen])) :: (a_st, .inr (7, [.ref a_g, .ref a_st_levels, .ref a_st_keys, .ref a_st_years, .ref a_st_keysThere, .int v9, .int st_shownBy, .int st_deepestShown, .int st_latestShown])) :: (a_st_levels, .inl (ci 0, 60, .inl f6)) :: (a_st_keys, .inl (ci 0, 60, .inl f7)) :: (a_st_years, .inl (ci 0, 60, .inl f8)) :: (a_g, .inr (2, [.ref a_g_rowCuts, .ref a_g_columnCuts, .ref a_g_bandRows, .ref a_g_zoneColumns, .ref a_g_rows, .ref a_g_sheets])) :: (a_g_bandRows, .inl (ci 0, 5, .inl g_bandRows)) :: (a_g_zoneColumns, .inl (ci 0, 5, .inl g_zoneColumns)) :: (a_g_rows, .inl (ci 0, 5, .inl g_rows)) :: (a_g_sheets, .inl (ci 0, 5, .inl g_sheets)) :: Rw) H := ⟨hP, hD⟩
        refine q_if_eq (pc := 63) (tgt := 76) hx hb dX10_store_63 (by decide) rfl hf (fun hf => ?_) (fun hf => ?_)
        · refine lv_bipush (pc := 76) (v := (-2)) hx hb dX10_store_76 (by decide) ?_
          obtain ⟨e90, e91, e92, e93, e94⟩ := q_inj5 (Option.some.inj hf)
          rw [hQ, ← e90, ← e91, ← e92, ← e93, ← e94]
          exact q_iret (pc := 78) hx hb hr hlocks hP hD hS dX10_store_78
        · refine lv_aload_n (pc := 66) hx hb dX10_store_66 rfl (lv_at hl 2 rfl) ?_
          refine va_get (pc := 67) (D := D) (ci := 10) (v := .ref a_st) (C := RX10) (T := TX10) (N := 14) hx hb hts hinX10 hown hK hP 0 rfl rfl 2 (by decide) w_2 (fun _ h9 => h9) rfl dX10_store_67 ?_
          refine va_getN (pc := 70) (D := D) (ci := 7) (v := .int v9) (C := RX7) (T := TX7) (N := 9) hx hb hts hinX7 hown hK hP 1 rfl rfl 5 (by decide) wn_0 (fun _ h9 => h9) rfl dX10_store_70 ?_
          refine lv_goto (pc := 73) (tgt := 78) hx hb dX10_store_73 (by decide) ?_
          obtain ⟨e90, e91, e92, e93, e94⟩ := q_inj5 (Option.some.inj hf)
          rw [hQ, ← e90, ← e91, ← e92, ← e93, ← e94]
          exact q_iret (pc := 78) hx hb hr hlocks hP hD hS dX10_store_78
      · refine lv_iconst (pc := 25) (v := (-1)) hx hb dX10_store_25 (by decide) ?_
        obtain ⟨e90, e91, e92, e93, e94⟩ := q_inj5 (Option.some.inj hf)
        rw [hQ, ← e90, ← e91, ← e92, ← e93, ← e94]
        exact q_iret (pc := 26) hx hb hr hlocks hP hD hS dX10_store_26
  exact hgo _ _ rfl hP hS
/-! X10_tidy -/
set_option maxRecDepth 100000 in
set_option maxHeartbeats 4000000 in
theorem c_X_tidy (l : Launch) (D : va_G) (ci : Nat → ClassId) (A : Nat → Prop) (sa : Nat → Nat) (N : Nat) (Rw : va_W) (a_x : Nat) (a_at : Nat) (a_g : Nat) (a_st : Nat) (a_x_kept : Nat) (a_tp : Nat) (a_rd : Nat) (a_qu : Nat) (a_sp : Nat) (a_wk : Nat) (a_bx : Nat) (a_nt : Nat) (a_nu : Nat) (a_x_seen : Nat) (a_st_levels : Nat) (a_st_keys : Nat) (a_st_years : Nat) (a_st_keysThere : Nat) (a_g_rowCuts : Nat) (a_g_columnCuts : Nat) (a_g_bandRows : Nat) (a_g_zoneColumns : Nat) (a_g_rows : Nat) (a_g_sheets : Nat) (x_keptStates : Int32) (st_size : Int32) (st_shownBy : Int32) (st_deepestShown : Int32) (st_latestShown : Int32) (st_levels : Nat → Int32) (st_keys : Nat → Int32) (st_years : Nat → Int32) (g_bandRows : Nat → Int32) (g_zoneColumns : Nat → Int32) (g_rows : Nat → Int32) (g_sheets : Nat → Int32) (r : Int32) (o1 : Nat → Int32) (o2 : Nat → Int32) (o3 : Nat → Int32) (o4 : Int32) (hf : f_X_tidy N st_levels st_keys st_years st_size g_bandRows g_zoneColumns g_rows g_sheets = some (r, o1, o2, o3, o4)) : Met l yX10_tidy wsX10_tidy ({ frames := 4, cells := 0, slots := 0, locals := 97 }) (va_Pc [.ref a_x] (q_N D ci A sa ((a_x, .inr (10, [.ref a_at, .ref a_g, .ref a_st, .ref a_x_kept, .int x_keptStates, .ref a_tp, .ref a_rd, .ref a_qu, .ref a_sp, .ref a_wk, .ref a_bx, .ref a_nt, .ref a_nu, .ref a_x_seen])) :: (a_st, .inr (7, [.ref a_g, .ref a_st_levels, .ref a_st_keys, .ref a_st_years, .ref a_st_keysThere, .int st_size, .int st_shownBy, .int st_deepestShown, .int st_latestShown])) :: (a_st_levels, .inl (ci 0, 60, .inl st_levels)) :: (a_st_keys, .inl (ci 0, 60, .inl st_keys)) :: (a_st_years, .inl (ci 0, 60, .inl st_years)) :: (a_g, .inr (2, [.ref a_g_rowCuts, .ref a_g_columnCuts, .ref a_g_bandRows, .ref a_g_zoneColumns, .ref a_g_rows, .ref a_g_sheets])) :: (a_g_bandRows, .inl (ci 0, 5, .inl g_bandRows)) :: (a_g_zoneColumns, .inl (ci 0, 5, .inl g_zoneColumns)) :: (a_g_rows, .inl (ci 0, 5, .inl g_rows)) :: (a_g_sheets, .inl (ci 0, 5, .inl g_sheets)) :: Rw))) (q_Q (some (.int r)) (q_O D A ((a_x, .inr (10, [.ref a_at, .ref a_g, .ref a_st, .ref a_x_kept, .int x_keptStates, .ref a_tp, .ref a_rd, .ref a_qu, .ref a_sp, .ref a_wk, .ref a_bx, .ref a_nt, .ref a_nu, .ref a_x_seen])) :: (a_st, .inr (7, [.ref a_g, .ref a_st_levels, .ref a_st_keys, .ref a_st_years, .ref a_st_keysThere, .int o4, .int st_shownBy, .int st_deepestShown, .int st_latestShown])) :: (a_st_levels, .inl (ci 0, 60, .inl o1)) :: (a_st_keys, .inl (ci 0, 60, .inl o2)) :: (a_st_years, .inl (ci 0, 60, .inl o3)) :: (a_g, .inr (2, [.ref a_g_rowCuts, .ref a_g_columnCuts, .ref a_g_bandRows, .ref a_g_zoneColumns, .ref a_g_rows, .ref a_g_sheets])) :: (a_g_bandRows, .inl (ci 0, 5, .inl g_bandRows)) :: (a_g_zoneColumns, .inl (ci 0, 5, .inl g_zoneColumns)) :: (a_g_rows, .inl (ci 0, 5, .inl g_rows)) :: (a_g_sheets, .inl (ci 0, 5, .inl g_sheets)) :: Rw)) A) 0 0 A := by
  refine q_ofW (cc := cX10_tidy) (maxL := 3) (ret := (some .int)) [.ref a_x] (plainFor_of_name (by decide)) rfl (Nat.le_of_ble_eq_true rfl) ?_
  intro p e s m below meth c ls Q hQ hx hb hml hr hts hown hlocks hK hA hZ hP hD hS hl
  have hl : lv_has ls 3 [(0, .ref a_x)] := hl
  have hown : s.vm.findClass RX10 = some m.cls := hown
  have hinX10 : ∀ w ∈ wsX100, w ∈ wsX10_tidy := fun _ h => List.mem_cons_of_mem _ (inWX100 _ h)
  have hinX7 : ∀ w ∈ wsX70, w ∈ wsX10_tidy := fun _ h => List.mem_cons_of_mem _ (inWX70 _ h)
  have w_1 := hts (Cond.fieldLink RX10 25 "SheetNames" "pieces" "LSheetNames$Store;") (List.mem_cons_of_mem _ t_w892)
  have wn_0 : (Cond.fieldLinkNest "SheetNames" 109 "SheetNames$Store" "size" "I" "SheetNames").before ([.ref a_x] : List Value).toArray s = true := (hZ.2.2.2.2.2.2.2.2.2.1 _ (List.mem_of_getElem? (i := 0) rfl)).use rfl
  unfold f_X_tidy at hf
  have hgo : ∀ (H : Heap) (locs : List Loc), H = s.heap → va_P D vwCl ((a_x, .inr (10, [.ref a_at, .ref a_g, .ref a_st, .ref a_x_kept, .int x_keptStates, .ref a_tp, .ref a_rd, .ref a_qu, .ref a_sp, .ref a_wk, .ref a_bx, .ref a_nt, .ref a_nu, .ref a_x_seen])) :: (a_st, .inr (7, [.ref a_g, .ref a_st_levels, .ref a_st_keys, .ref a_st_years, .ref a_st_keysThere, .int st_size, .int st_shownBy, .int st_deepestShown, .int st_latestShown])) :: (a_st_levels, .inl (ci 0, 60, .inl st_levels)) :: (a_st_keys, .inl (ci 0, 60, .inl st_keys)) :: (a_st_years, .inl (ci 0, 60, .inl st_years)) :: (a_g, .inr (2, [.ref a_g_rowCuts, .ref a_g_columnCuts, .ref a_g_bandRows, .ref a_g_zoneColumns, .ref a_g_rows, .ref a_g_sheets])) :: (a_g_bandRows, .inl (ci 0, 5, .inl g_bandRows)) :: (a_g_zoneColumns, .inl (ci 0, 5, .inl g_zoneColumns)) :: (a_g_rows, .inl (ci 0, 5, .inl g_rows)) :: (a_g_sheets, .inl (ci 0, 5, .inl g_sheets)) :: Rw) H → va_S A s.heap H locs → W p l e ({ frames := 4, cells := 0, slots := 0, locals := 97 } : Room) s m ([.ref a_x] : List Value).toArray below meth c H locs 0 0 Q (F0 m 0 ls []) := by
    intro H locs hH hP hS
    refine lv_iconst (pc := 0) (v := 0) hx hb dX10_tidy_0 (by decide) ?_
    obtain ⟨v1, ev1, hf⟩ := q_nm_e hf
    refine q_topi ev1 ?_
    refine lv_istore_n (pc := 1) (lv' := [(1, .int v1), (0, .ref a_x)]) hx hb dX10_tidy_1 rfl hl (by decide) rfl (fun ls hl => ?_)
    refine lv_aload_n (pc := 2) hx hb dX10_tidy_2 rfl (lv_at hl 1 rfl) ?_
    refine va_get (pc := 3) (D := D) (ci := 10) (v := .ref a_st) (C := RX10) (T := TX10) (N := 14) hx hb hts hinX10 hown hK hP 0 rfl rfl 2 (by decide) w_1 (fun _ h9 => h9) rfl dX10_tidy_3 ?_
    refine va_getN (pc := 6) (D := D) (ci := 7) (v := .int st_size) (C := RX7) (T := TX7) (N := 9) hx hb hts hinX7 hown hK hP 1 rfl rfl 5 (by decide) wn_0 (fun _ h9 => h9) rfl dX10_tidy_6 ?_
    refine lv_iconst (pc := 9) (v := 1) hx hb dX10_tidy_9 (by decide) ?_
    refine lv_isub (pc := 10) hx hb dX10_tidy_10 ?_
    obtain ⟨v2, ev2, hf⟩ := q_nm_e hf
    refine q_topi ev2 ?_
    refine lv_istore_n (pc := 11) (lv' := [(2, .int v2), (1, .int v1), (0, .ref a_x)]) hx hb dX10_tidy_11 rfl hl (by decide) rfl (fun ls hl => ?_)
    obtain ⟨v9, f10, f11, f12, v13, hm12, hf⟩ := q_b5_e hf
    have JE12 : ∀ (H : Heap) (locs : List Loc) (ls : Array Slot), va_P D vwCl ((a_x, .inr (10, [.ref a_at, .ref a_g, .ref a_st, .ref a_x_kept, .int x_keptStates, .ref a_tp, .ref a_rd, .ref a_qu, .ref a_sp, .ref a_wk, .ref a_bx, .ref a_nt, .ref a_nu, .ref a_x_seen])) :: (a_st, .inr (7, [.ref a_g, .ref a_st_levels, .ref a_st_keys, .ref a_st_years, .ref a_st_keysThere, .int v13, .int st_shownBy, .int st_deepestShown, .int st_latestShown])) :: (a_st_levels, .inl (ci 0, 60, .inl f10)) :: (a_st_keys, .inl (ci 0, 60, .inl f11)) :: (a_st_years, .inl (ci 0, 60, .inl f12)) :: (a_g, .inr (2, [.ref a_g_rowCuts, .ref a_g_columnCuts, .ref a_g_bandRows, .ref a_g_zoneColumns, .ref a_g_rows, .ref a_g_sheets])) :: (a_g_bandRows, .inl (ci 0, 5, .inl g_bandRows)) :: (a_g_zoneColumns, .inl (ci 0, 5, .inl g_zoneColumns)) :: (a_g_rows, .inl (ci 0, 5, .inl g_rows)) :: (a_g_sheets, .inl (ci 0, 5, .inl g_sheets)) :: Rw) H → va_D A ((a_x, .inr (10, [.ref a_at, .ref a_g, .ref a_st, .ref a_x_kept, .int x_keptStates, .ref a_tp, .ref a_rd, .ref a_qu, .ref a_sp, .ref a_wk, .ref a_bx, .ref a_nt, .ref a_nu, .ref a_x_seen])) :: (a_st, .inr (7, [.ref a_g, .ref a_st_levels, .ref a_st_keys, .ref a_st_years, .ref a_st_keysThere, .int v13, .int st_shownBy, .int st_deepestShown, .int st_latestShown])) :: (a_st_levels, .inl (ci 0, 60, .inl f10)) :: (a_st_keys, .inl (ci 0, 60, .inl f11)) :: (a_st_years, .inl (ci 0, 60, .inl f12)) :: (a_g, .inr (2, [.ref a_g_rowCuts, .ref a_g_columnCuts, .ref a_g_bandRows, .ref a_g_zoneColumns, .ref a_g_rows, .ref a_g_sheets])) :: (a_g_bandRows, .inl (ci 0, 5, .inl g_bandRows)) :: (a_g_zoneColumns, .inl (ci 0, 5, .inl g_zoneColumns)) :: (a_g_rows, .inl (ci 0, 5, .inl g_rows)) :: (a_g_sheets, .inl (ci 0, 5, .inl g_sheets)) :: Rw) → va_S A s.heap H locs → lv_has ls 3 [(1, .int v9)] → W p l e ({ frames := 4, cells := 0, slots := 0, locals := 97 } : Room) s m ([.ref a_x] : List Value).toArray below meth c H locs 0 0 Q (F0 m 44 ls []) := by
      intro H locs ls hP hD hS hl
      refine lv_iload_n (pc := 44) hx hb dX10_tidy_44 rfl (lv_at hl 0 rfl) ?_
      obtain ⟨e90, e91, e92, e93, e94⟩ := q_inj5 (Option.some.inj hf)
      rw [hQ, ← e90, ← e91, ← e92, ← e93, ← e94]
      exact q_iret (pc := 45) hx hb hr hlocks hP hD hS dX10_tidy_45
    have LP12 : ∀ (n12 : Nat) (v3 : Int32) (v4 : Int32) (f5 : Nat → Int32) (f6 : Nat → Int32) (f7 : Nat → Int32) (v8 : Int32) (H : Heap) (locs : List Loc) (ls : Array Slot), f_X_tidy_L12 N g_bandRows g_rows g_sheets g_zoneColumns n12 v3 v4 f5 f6 f7 v8 = some (v9, f10, f11, f12, v13) → va_P D vwCl ((a_x, .inr (10, [.ref a_at, .ref a_g, .ref a_st, .ref a_x_kept, .int x_keptStates, .ref a_tp, .ref a_rd, .ref a_qu, .ref a_sp, .ref a_wk, .ref a_bx, .ref a_nt, .ref a_nu, .ref a_x_seen])) :: (a_st, .inr (7, [.ref a_g, .ref a_st_levels, .ref a_st_keys, .ref a_st_years, .ref a_st_keysThere, .int v8, .int st_shownBy, .int st_deepestShown, .int st_latestShown])) :: (a_st_levels, .inl (ci 0, 60, .inl f5)) :: (a_st_keys, .inl (ci 0, 60, .inl f6)) :: (a_st_years, .inl (ci 0, 60, .inl f7)) :: (a_g, .inr (2, [.ref a_g_rowCuts, .ref a_g_columnCuts, .ref a_g_bandRows, .ref a_g_zoneColumns, .ref a_g_rows, .ref a_g_sheets])) :: (a_g_bandRows, .inl (ci 0, 5, .inl g_bandRows)) :: (a_g_zoneColumns, .inl (ci 0, 5, .inl g_zoneColumns)) :: (a_g_rows, .inl (ci 0, 5, .inl g_rows)) :: (a_g_sheets, .inl (ci 0, 5, .inl g_sheets)) :: Rw) H → va_D A ((a_x, .inr (10, [.ref a_at, .ref a_g, .ref a_st, .ref a_x_kept, .int x_keptStates, .ref a_tp, .ref a_rd, .ref a_qu, .ref a_sp, .ref a_wk, .ref a_bx, .ref a_nt, .ref a_nu, .ref a_x_seen])) :: (a_st, .inr (7, [.ref a_g, .ref a_st_levels, .ref a_st_keys, .ref a_st_years, .ref a_st_keysThere, .int v8, .int st_shownBy, .int st_deepestShown, .int st_latestShown])) :: (a_st_levels, .inl (ci 0, 60, .inl f5)) :: (a_st_keys, .inl (ci 0, 60, .inl f6)) :: (a_st_years, .inl (ci 0, 60, .inl f7)) :: (a_g, .inr (2, [.ref a_g_rowCuts, .ref a_g_columnCuts, .ref a_g_bandRows, .ref a_g_zoneColumns, .ref a_g_rows, .ref a_g_sheets])) :: (a_g_bandRows, .inl (ci 0, 5, .inl g_bandRows)) :: (a_g_zoneColumns, .inl (ci 0, 5, .inl g_zoneColumns)) :: (a_g_rows, .inl (ci 0, 5, .inl g_rows)) :: (a_g_sheets, .inl (ci 0, 5, .inl g_sheets)) :: Rw) → va_S A s.heap H locs → lv_has ls 3 [(0, .ref a_x), (1, .int v3), (2, .int v4)] → W p l e ({ frames := 4, cells := 0, slots := 0, locals := 97 } : Room) s m ([.ref a_x] : List Value).toArray below meth c H locs 0 0 Q (F0 m 12 ls []) := by
      intro n12
      induction n12 with
      | zero => intro v3 v4 f5 f6 f7 v8 H locs ls hf; rw [f_X_tidy_L12] at hf; cases hf
      | succ n12 ih12 =>
        intro v3 v4 f5 f6 f7 v8 H locs ls hf hP hD hS hl
        rw [f_X_tidy_L12] at hf
        refine lv_iload_n (pc := 12) hx hb dX10_tidy_12 rfl (lv_at hl 2 rfl) ?_
        refine q_if_lt (pc := 13) (tgt := 44) hx hb dX10_tidy_13 (by decide) rfl hf (fun hf => ?_) (fun hf => ?_)
        · obtain ⟨rfl, rfl, rfl, rfl, rfl⟩ := q_inj5 (Option.some.inj hf)
          exact JE12 _ _ _ hP hD hS (lv_sub hl [1] rfl)
        · refine lv_aload_n (pc := 16) hx hb dX10_tidy_16 rfl (lv_at hl 0 rfl) ?_
          refine va_get (pc := 17) (D := D) (ci := 10) (v := .ref a_st) (C := RX10) (T := TX10) (N := 14) hx hb hts hinX10 hown hK hP 0 rfl rfl 2 (by decide) w_1 (fun _ h9 => h9) rfl dX10_tidy_17 ?_
          refine lv_iload_n (pc := 20) hx hb dX10_tidy_20 rfl (lv_at hl 2 rfl) ?_
          obtain ⟨v14, hm21, hf⟩ := q_b1_e hf
          refine q_cVr (pc := 21) (As := [.int v4]) (rest := []) (v0 := (some (.int v14))) ⟨hx, hb, hml, hown, hts⟩ hK hA hZ hP hD hS hl.1 [1, 2, 3, 4, 5, 6, 7, 8, 9] 10 rfl ⟨rfl, rfl, rfl⟩ (c_Store_isNeedless l D ci A sa N (Rw) a_st a_g a_st_levels a_st_keys a_st_years a_st_keysThere a_g_rowCuts a_g_columnCuts a_g_bandRows a_g_zoneColumns a_g_rows a_g_sheets v8 st_shownBy st_deepestShown st_latestShown f5 f6 f7 g_bandRows g_zoneColumns g_rows g_sheets v4 v14 hm21) 1 rfl rfl (cwV 1 hts gX10_tidy_X7_isNeedless rfl rfl rfl (by decide +kernel) ⟨Nat.le_of_ble_eq_true rfl, Nat.le_of_ble_eq_true rfl⟩) rfl rfl (Nat.le_of_ble_eq_true rfl) dX10_tidy_21 ⟨Nat.zero_le _, Nat.zero_le _⟩ (fun locs hS => ?_)
          obtain ⟨k38, ek38, hf⟩ := q_j5_e hf
          have J38 : ∀ (v15 : Int32) (f16 : Nat → Int32) (f17 : Nat → Int32) (f18 : Nat → Int32) (v19 : Int32) (H : Heap) (locs : List Loc) (ls : Array Slot), k38 v15 f16 f17 f18 v19 = some (v9, f10, f11, f12, v13) → va_P D vwCl ((a_x, .inr (10, [.ref a_at, .ref a_g, .ref a_st, .ref a_x_kept, .int x_keptStates, .ref a_tp, .ref a_rd, .ref a_qu, .ref a_sp, .ref a_wk, .ref a_bx, .ref a_nt, .ref a_nu, .ref a_x_seen])) :: (a_st, .inr (7, [.ref a_g, .ref a_st_levels, .ref a_st_keys, .ref a_st_years, .ref a_st_keysThere, .int v19, .int st_shownBy, .int st_deepestShown, .int st_latestShown])) :: (a_st_levels, .inl (ci 0, 60, .inl f16)) :: (a_st_keys, .inl (ci 0, 60, .inl f17)) :: (a_st_years, .inl (ci 0, 60, .inl f18)) :: (a_g, .inr (2, [.ref a_g_rowCuts, .ref a_g_columnCuts, .ref a_g_bandRows, .ref a_g_zoneColumns, .ref a_g_rows, .ref a_g_sheets])) :: (a_g_bandRows, .inl (ci 0, 5, .inl g_bandRows)) :: (a_g_zoneColumns, .inl (ci 0, 5, .inl g_zoneColumns)) :: (a_g_rows, .inl (ci 0, 5, .inl g_rows)) :: (a_g_sheets, .inl (ci 0, 5, .inl g_sheets)) :: Rw) H → va_D A ((a_x, .inr (10, [.ref a_at, .ref a_g, .ref a_st, .ref a_x_kept, .int x_keptStates, .ref a_tp, .ref a_rd, .ref a_qu, .ref a_sp, .ref a_wk, .ref a_bx, .ref a_nt, .ref a_nu, .ref a_x_seen])) :: (a_st, .inr (7, [.ref a_g, .ref a_st_levels, .ref a_st_keys, .ref a_st_years, .ref a_st_keysThere, .int v19, .int st_shownBy, .int st_deepestShown, .int st_latestShown])) :: (a_st_levels, .inl (ci 0, 60, .inl f16)) :: (a_st_keys, .inl (ci 0, 60, .inl f17)) :: (a_st_years, .inl (ci 0, 60, .inl f18)) :: (a_g, .inr (2, [.ref a_g_rowCuts, .ref a_g_columnCuts, .ref a_g_bandRows, .ref a_g_zoneColumns, .ref a_g_rows, .ref a_g_sheets])) :: (a_g_bandRows, .inl (ci 0, 5, .inl g_bandRows)) :: (a_g_zoneColumns, .inl (ci 0, 5, .inl g_zoneColumns)) :: (a_g_rows, .inl (ci 0, 5, .inl g_rows)) :: (a_g_sheets, .inl (ci 0, 5, .inl g_sheets)) :: Rw) → va_S A s.heap H locs → lv_has ls 3 [(0, .ref a_x), (1, .int v15), (2, .int v4)] → W p l e ({ frames := 4, cells := 0, slots := 0, locals := 97 } : Room) s m ([.ref a_x] : List Value).toArray below meth c H locs 0 0 Q (F0 m 38 ls []) := by
            intro v15 f16 f17 f18 v19 H locs ls hf hP hD hS hl
            have hf := (ek38 v15 f16 f17 f18 v19).symm.trans hf
            obtain ⟨v20, ev20, hf⟩ := q_nm_e hf
            refine lv_iinc (pc := 38) (v := v20) (lv' := [(2, .int v20), (0, .ref a_x), (1, .int v15)]) hx hb dX10_tidy_38 hl (k := 2) rfl (by rw [ev20]; rfl) (by decide) rfl (fun ls hl => ?_)
            refine lv_goto (pc := 41) (tgt := 12) hx hb dX10_tidy_41 (by decide) ?_
            exact ih12 v15 v20 f16 f17 f18 v19 _ _ _ hf hP hD hS (lv_sub hl [1, 2, 0] rfl)
          refine q_if_eq (pc := 24) (tgt := 38) hx hb dX10_tidy_24 (by decide) rfl hf (fun hf => ?_) (fun hf => ?_)
          · exact J38 v3 f5 f6 f7 v8 _ _ _ hf hP hD hS (lv_sub hl [0, 1, 2] rfl)
          · refine lv_aload_n (pc := 27) hx hb dX10_tidy_27 rfl (lv_at hl 0 rfl) ?_
            refine va_get (pc := 28) (D := D) (ci := 10) (v := .ref a_st) (C := RX10) (T := TX10) (N := 14) hx hb hts hinX10 hown hK hP 0 rfl rfl 2 (by decide) w_1 (fun _ h9 => h9) rfl dX10_tidy_28 ?_
            refine lv_iload_n (pc := 31) hx hb dX10_tidy_31 rfl (lv_at hl 2 rfl) ?_
            obtain ⟨f21, f22, f23, v24, hm32, hf⟩ := q_b4_e hf
            refine q_cV (pc := 32) (As := [.int v4]) (rest := []) (v0 := none) ⟨hx, hb, hml, hown, hts⟩ hK hA hZ hP hD hS hl.1 [1, 2, 3, 4, 0, 5, 6, 7, 8, 9] 10 rfl ⟨rfl, rfl, rfl⟩ (c_Store_remove l D ci A sa N ((a_x, .inr (10, [.ref a_at, .ref a_g, .ref a_st, .ref a_x_kept, .int x_keptStates, .ref a_tp, .ref a_rd, .ref a_qu, .ref a_sp, .ref a_wk, .ref a_bx, .ref a_nt, .ref a_nu, .ref a_x_seen])) :: (a_g, .inr (2, [.ref a_g_rowCuts, .ref a_g_columnCuts, .ref a_g_bandRows, .ref a_g_zoneColumns, .ref a_g_rows, .ref a_g_sheets])) :: (a_g_bandRows, .inl (ci 0, 5, .inl g_bandRows)) :: (a_g_zoneColumns, .inl (ci 0, 5, .inl g_zoneColumns)) :: (a_g_rows, .inl (ci 0, 5, .inl g_rows)) :: (a_g_sheets, .inl (ci 0, 5, .inl g_sheets)) :: Rw) a_st a_g a_st_levels a_st_keys a_st_years a_st_keysThere v8 st_shownBy st_deepestShown st_latestShown f5 f6 f7 v4 f21 f22 f23 v24 hm32) 1 rfl rfl (cwV 1 hts gX10_tidy_X7_remove rfl rfl rfl (by decide +kernel) ⟨Nat.le_of_ble_eq_true rfl, Nat.le_of_ble_eq_true rfl⟩) rfl rfl (Nat.le_of_ble_eq_true rfl) dX10_tidy_32 ⟨Nat.zero_le _, Nat.zero_le _⟩ [4, 0, 1, 2, 3, 5, 6, 7, 8, 9] 10 rfl ⟨rfl, rfl, rfl⟩ (fun H locs hP hD hS => ?_)
            obtain ⟨hP, hD⟩ : va_PD D A ((a_x, .inr (10, [.ref a_at, .ref a_g, .ref a_st, .ref a_x_kept, .int x_keptStates, .ref a_tp, .ref a_rd, .ref a_qu, .ref a_sp, .ref a_wk, .ref a_bx, .ref a_nt, .ref a_nu, .ref a_x_seen])) :: (a_st, .inr (7, [.ref a_g, .ref a_st_levels, .ref a_st_keys, .ref a_st_years, .ref a_st_keysThere, .int v24, .int st_shownBy, .int st_deepestShown, .int st_latestShown])) :: (a_st_levels, .inl (ci 0, 60, .inl f21)) :: (a_st_keys, .inl (ci 0, 60, .inl f22)) :: (a_st_years, .inl (ci 0, 60, .inl f23)) :: (a_g, .inr (2, [.ref a_g_rowCuts, .ref a_g_columnCuts, .ref a_g_bandRows, .ref a_g_zoneColumns, .ref a_g_rows, .ref a_g_sheets])) :: (a_g_bandRows, .inl (ci 0, 5, .inl g_bandRows)) :: (a_g_zoneColumns, .inl (ci 0, 5, .inl g_zoneColumns)) :: (a_g_rows, .inl (ci 0, 5, .inl g_rows)) :: (a_g_sheets, .inl (ci 0, 5, .inl g_sheets)) :: Rw) H := ⟨hP, hD⟩
            obtain ⟨v25, ev25, hf⟩ := q_nm_e hf
            refine lv_iinc (pc := 35) (v := v25) (lv' := [(1, .int v25), (0, .ref a_x), (2, .int v4)]) hx hb dX10_tidy_35 hl (k := 1) rfl (by rw [ev25]; rfl) (by decide) rfl (fun ls hl => ?_)
            exact J38 v25 f21 f22 f23 v24 _ _ _ hf hP hD hS (lv_sub hl [1, 0, 2] rfl)
    exact LP12 N v1 v2 st_levels st_keys st_years st_size _ _ _ hm12 hP hD hS (lv_sub hl [2, 1, 0] rfl)
  exact hgo _ _ rfl hP hS
/-! X10_undo -/
set_option maxRecDepth 100000 in
set_option maxHeartbeats 4000000 in
theorem c_X_undo (l : Launch) (D : va_G) (ci : Nat → ClassId) (A : Nat → Prop) (sa : Nat → Nat) (N : Nat) (Rw : va_W) (a_x : Nat) (a_at : Nat) (a_g : Nat) (a_st : Nat) (a_x_kept : Nat) (a_tp : Nat) (a_rd : Nat) (a_qu : Nat) (a_sp : Nat) (a_wk : Nat) (a_bx : Nat) (a_nt : Nat) (a_nu : Nat) (a_x_seen : Nat) (a_st_levels : Nat) (a_st_keys : Nat) (a_st_years : Nat) (a_st_keysThere : Nat) (a_g_rowCuts : Nat) (a_g_columnCuts : Nat) (a_g_bandRows : Nat) (a_g_zoneColumns : Nat) (a_g_rows : Nat) (a_g_sheets : Nat) (a_at2 : Nat) (a_g2 : Nat) (a_st2 : Nat) (a_st2_levels : Nat) (a_st2_keys : Nat) (a_st2_years : Nat) (a_st2_keysThere : Nat) (a_g2_rowCuts : Nat) (a_g2_columnCuts : Nat) (a_g2_bandRows : Nat) (a_g2_zoneColumns : Nat) (a_g2_rows : Nat) (a_g2_sheets : Nat) (x_keptStates : Int32) (x_kept : Nat → Option Nat) (at_right : Int32) (at_faulty : Int32) (at_endedSoon : Int32) (at_noSuchNumber : Int32) (st_size : Int32) (st_shownBy : Int32) (st_deepestShown : Int32) (st_latestShown : Int32) (st_levels : Nat → Int32) (st_keys : Nat → Int32) (st_years : Nat → Int32) (g_rowCuts : Nat → Int32) (g_columnCuts : Nat → Int32) (g_bandRows : Nat → Int32) (g_zoneColumns : Nat → Int32) (g_rows : Nat → Int32) (g_sheets : Nat → Int32) (at2_right : Int32) (at2_faulty : Int32) (at2_endedSoon : Int32) (at2_noSuchNumber : Int32) (st2_size : Int32) (st2_shownBy : Int32) (st2_deepestShown : Int32) (st2_latestShown : Int32) (st2_levels : Nat → Int32) (st2_keys : Nat → Int32) (st2_years : Nat → Int32) (g2_rowCuts : Nat → Int32) (g2_columnCuts : Nat → Int32) (r : Int32) (o1 : Int32) (o2 : Int32) (o3 : Int32) (o4 : Int32) (o5 : Int32) (o6 : Nat → Int32) (o7 : Nat → Int32) (o8 : Nat → Int32) (o9 : Int32) (o10 : Nat → Int32) (o11 : Nat → Int32) (o12 : Nat → Int32) (o13 : Nat → Int32) (o14 : Nat → Int32) (o15 : Nat → Int32) (k : Nat) (hkept : x_kept k = some a_at2) (hf : f_X_undo N k x_keptStates at_right at_faulty at_endedSoon at_noSuchNumber st_levels st_keys st_years st_size g_rowCuts g_columnCuts g_bandRows g_zoneColumns g_rows g_sheets at2_right at2_faulty at2_endedSoon at2_noSuchNumber st2_levels st2_keys st2_years st2_size g2_rowCuts g2_columnCuts = some (r, o1, o2, o3, o4, o5, o6, o7, o8, o9, o10, o11, o12, o13, o14, o15)) : Met l yX10_undo wsX10_undo ({ frames := 3, cells := 0, slots := 0, locals := 82 }) (va_Pc [.ref a_x] (q_N D ci A sa ((a_x, .inr (10, [.ref a_at, .ref a_g, .ref a_st, .ref a_x_kept, .int x_keptStates, .ref a_tp, .ref a_rd, .ref a_qu, .ref a_sp, .ref a_wk, .ref a_bx, .ref a_nt, .ref a_nu, .ref a_x_seen])) :: (a_x_kept, .inl (ci 3, 8, .inr (.inr (.inr (.inr x_kept))))) :: (a_at, .inr (0, [.ref a_g, .ref a_st, .int at_right, .int at_faulty, .int at_endedSoon, .int at_noSuchNumber])) :: (a_st, .inr (7, [.ref a_g, .ref a_st_levels, .ref a_st_keys, .ref a_st_years, .ref a_st_keysThere, .int st_size, .int st_shownBy, .int st_deepestShown, .int st_latestShown])) :: (a_st_levels, .inl (ci 0, 60, .inl st_levels)) :: (a_st_keys, .inl (ci 0, 60, .inl st_keys)) :: (a_st_years, .inl (ci 0, 60, .inl st_years)) :: (a_g, .inr (2, [.ref a_g_rowCuts, .ref a_g_columnCuts, .ref a_g_bandRows, .ref a_g_zoneColumns, .ref a_g_rows, .ref a_g_sheets])) :: (a_g_rowCuts, .inl (ci 0, 5, .inl g_rowCuts)) :: (a_g_columnCuts, .inl (ci 0, 5, .inl g_columnCuts)) :: (a_g_bandRows, .inl (ci 0, 5, .inl g_bandRows)) :: (a_g_zoneColumns, .inl (ci 0, 5, .inl g_zoneColumns)) :: (a_g_rows, .inl (ci 0, 5, .inl g_rows)) :: (a_g_sheets, .inl (ci 0, 5, .inl g_sheets)) :: (a_at2, .inr (0, [.ref a_g2, .ref a_st2, .int at2_right, .int at2_faulty, .int at2_endedSoon, .int at2_noSuchNumber])) :: (a_st2, .inr (7, [.ref a_g2, .ref a_st2_levels, .ref a_st2_keys, .ref a_st2_years, .ref a_st2_keysThere, .int st2_size, .int st2_shownBy, .int st2_deepestShown, .int st2_latestShown])) :: (a_st2_levels, .inl (ci 0, 60, .inl st2_levels)) :: (a_st2_keys, .inl (ci 0, 60, .inl st2_keys)) :: (a_st2_years, .inl (ci 0, 60, .inl st2_years)) :: (a_g2, .inr (2, [.ref a_g2_rowCuts, .ref a_g2_columnCuts, .ref a_g2_bandRows, .ref a_g2_zoneColumns, .ref a_g2_rows, .ref a_g2_sheets])) :: (a_g2_rowCuts, .inl (ci 0, 5, .inl g2_rowCuts)) :: (a_g2_columnCuts, .inl (ci 0, 5, .inl g2_columnCuts)) :: Rw))) (q_Q (some (.int r)) (q_O D A ((a_x, .inr (10, [.ref a_at, .ref a_g, .ref a_st, .ref a_x_kept, .int o1, .ref a_tp, .ref a_rd, .ref a_qu, .ref a_sp, .ref a_wk, .ref a_bx, .ref a_nt, .ref a_nu, .ref a_x_seen])) :: (a_x_kept, .inl (ci 3, 8, .inr (.inr (.inr (.inr x_kept))))) :: (a_at, .inr (0, [.ref a_g, .ref a_st, .int o2, .int o3, .int o4, .int o5])) :: (a_st, .inr (7, [.ref a_g, .ref a_st_levels, .ref a_st_keys, .ref a_st_years, .ref a_st_keysThere, .int o9, .int st_shownBy, .int st_deepestShown, .int st_latestShown])) :: (a_st_levels, .inl (ci 0, 60, .inl o6)) :: (a_st_keys, .inl (ci 0, 60, .inl o7)) :: (a_st_years, .inl (ci 0, 60, .inl o8)) :: (a_g, .inr (2, [.ref a_g_rowCuts, .ref a_g_columnCuts, .ref a_g_bandRows, .ref a_g_zoneColumns, .ref a_g_rows, .ref a_g_sheets])) :: (a_g_rowCuts, .inl (ci 0, 5, .inl o10)) :: (a_g_columnCuts, .inl (ci 0, 5, .inl o11)) :: (a_g_bandRows, .inl (ci 0, 5, .inl o12)) :: (a_g_zoneColumns, .inl (ci 0, 5, .inl o13)) :: (a_g_rows, .inl (ci 0, 5, .inl o14)) :: (a_g_sheets, .inl (ci 0, 5, .inl o15)) :: (a_at2, .inr (0, [.ref a_g2, .ref a_st2, .int at2_right, .int at2_faulty, .int at2_endedSoon, .int at2_noSuchNumber])) :: (a_st2, .inr (7, [.ref a_g2, .ref a_st2_levels, .ref a_st2_keys, .ref a_st2_years, .ref a_st2_keysThere, .int st2_size, .int st2_shownBy, .int st2_deepestShown, .int st2_latestShown])) :: (a_st2_levels, .inl (ci 0, 60, .inl st2_levels)) :: (a_st2_keys, .inl (ci 0, 60, .inl st2_keys)) :: (a_st2_years, .inl (ci 0, 60, .inl st2_years)) :: (a_g2, .inr (2, [.ref a_g2_rowCuts, .ref a_g2_columnCuts, .ref a_g2_bandRows, .ref a_g2_zoneColumns, .ref a_g2_rows, .ref a_g2_sheets])) :: (a_g2_rowCuts, .inl (ci 0, 5, .inl g2_rowCuts)) :: (a_g2_columnCuts, .inl (ci 0, 5, .inl g2_columnCuts)) :: Rw)) A) 0 0 A := by
  refine q_ofW (cc := cX10_undo) (maxL := 1) (ret := (some .int)) [.ref a_x] (plainFor_of_name (by decide)) rfl (Nat.le_of_ble_eq_true rfl) ?_
  intro p e s m below meth c ls Q hQ hx hb hml hr hts hown hlocks hK hA hZ hP hD hS hl
  have hl : lv_has ls 1 [(0, .ref a_x)] := hl
  have hown : s.vm.findClass RX10 = some m.cls := hown
  have hinX10 : ∀ w ∈ wsX100, w ∈ wsX10_undo := fun _ h => List.mem_cons_of_mem _ (inWX100 _ h)
  have w_1 := hts (Cond.fieldLink RX10 32 "SheetNames" "keptStates" "I") (List.mem_cons_of_mem _ t_w893)
  have w_2 := hts (Cond.fieldLink RX10 10 "SheetNames" "now" "LSheetNames$Atlas;") (List.mem_cons_of_mem _ t_w884)
  have w_3 := hts (Cond.fieldLink RX10 28 "SheetNames" "kept" "[LSheetNames$Atlas;") (List.mem_cons_of_mem _ t_w903)
  unfold f_X_undo at hf
  have hgo : ∀ (H : Heap) (locs : List Loc), H = s.heap → va_P D vwCl ((a_x, .inr (10, [.ref a_at, .ref a_g, .ref a_st, .ref a_x_kept, .int x_keptStates, .ref a_tp, .ref a_rd, .ref a_qu, .ref a_sp, .ref a_wk, .ref a_bx, .ref a_nt, .ref a_nu, .ref a_x_seen])) :: (a_x_kept, .inl (ci 3, 8, .inr (.inr (.inr (.inr x_kept))))) :: (a_at, .inr (0, [.ref a_g, .ref a_st, .int at_right, .int at_faulty, .int at_endedSoon, .int at_noSuchNumber])) :: (a_st, .inr (7, [.ref a_g, .ref a_st_levels, .ref a_st_keys, .ref a_st_years, .ref a_st_keysThere, .int st_size, .int st_shownBy, .int st_deepestShown, .int st_latestShown])) :: (a_st_levels, .inl (ci 0, 60, .inl st_levels)) :: (a_st_keys, .inl (ci 0, 60, .inl st_keys)) :: (a_st_years, .inl (ci 0, 60, .inl st_years)) :: (a_g, .inr (2, [.ref a_g_rowCuts, .ref a_g_columnCuts, .ref a_g_bandRows, .ref a_g_zoneColumns, .ref a_g_rows, .ref a_g_sheets])) :: (a_g_rowCuts, .inl (ci 0, 5, .inl g_rowCuts)) :: (a_g_columnCuts, .inl (ci 0, 5, .inl g_columnCuts)) :: (a_g_bandRows, .inl (ci 0, 5, .inl g_bandRows)) :: (a_g_zoneColumns, .inl (ci 0, 5, .inl g_zoneColumns)) :: (a_g_rows, .inl (ci 0, 5, .inl g_rows)) :: (a_g_sheets, .inl (ci 0, 5, .inl g_sheets)) :: (a_at2, .inr (0, [.ref a_g2, .ref a_st2, .int at2_right, .int at2_faulty, .int at2_endedSoon, .int at2_noSuchNumber])) :: (a_st2, .inr (7, [.ref a_g2, .ref a_st2_levels, .ref a_st2_keys, .ref a_st2_years, .ref a_st2_keysThere, .int st2_size, .int st2_shownBy, .int st2_deepestShown, .int st2_latestShown])) :: (a_st2_levels, .inl (ci 0, 60, .inl st2_levels)) :: (a_st2_keys, .inl (ci 0, 60, .inl st2_keys)) :: (a_st2_years, .inl (ci 0, 60, .inl st2_years)) :: (a_g2, .inr (2, [.ref a_g2_rowCuts, .ref a_g2_columnCuts, .ref a_g2_bandRows, .ref a_g2_zoneColumns, .ref a_g2_rows, .ref a_g2_sheets])) :: (a_g2_rowCuts, .inl (ci 0, 5, .inl g2_rowCuts)) :: (a_g2_columnCuts, .inl (ci 0, 5, .inl g2_columnCuts)) :: Rw) H → va_S A s.heap H locs → W p l e ({ frames := 3, cells := 0, slots := 0, locals := 82 } : Room) s m ([.ref a_x] : List Value).toArray below meth c H locs 0 0 Q (F0 m 0 ls []) := by
    intro H locs hH hP hS
    refine lv_aload_n (pc := 0) hx hb dX10_undo_0 rfl (lv_at hl 0 rfl) ?_
    refine va_get (pc := 1) (D := D) (ci := 10) (v := .int x_keptStates) (C := RX10) (T := TX10) (N := 14) hx hb hts hinX10 hown hK hP 0 rfl rfl 4 (by decide) w_1 (fun _ h9 => h9) rfl dX10_undo_1 ?_
    refine q_if_gt (pc := 4) (tgt := 9) hx hb dX10_undo_4 (by decide) rfl hf (fun hf => ?_) (fun hf => ?_)
    · refine lv_aload_n (pc := 9) hx hb dX10_undo_9 rfl (lv_at hl 0 rfl) ?_
      refine lv_dup (pc := 10) hx hb dX10_undo_10 rfl ?_
      refine va_get (pc := 11) (D := D) (ci := 10) (v := .int x_keptStates) (C := RX10) (T := TX10) (N := 14) hx hb hts hinX10 hown hK hP 0 rfl rfl 4 (by decide) w_1 (fun _ h9 => h9) rfl dX10_undo_11 ?_
      refine lv_iconst (pc := 14) (v := 1) hx hb dX10_undo_14 (by decide) ?_
      refine lv_isub (pc := 15) hx hb dX10_undo_15 ?_
      obtain ⟨v1, ev1, hf⟩ := q_nm_e hf
      refine q_topi ev1 ?_
      refine va_put (pc := 16) (D := D) (ci := 10) (v := .int v1) (ty := .int) (C := RX10) (T := TX10) (N := 14) hx hb hts hinX10 tyX10 tyX10_ok nmX10 hown hK hP hD hS 0 rfl rfl 4 (by decide) w_1 (fun _ h9 => h9) rfl (by decide +kernel) rfl rfl (Nat.le_of_ble_eq_true rfl) dX10_undo_16 (fun H locs hP hD hS => ?_)
      obtain ⟨hP, hD⟩ : va_PD D A ((a_x, .inr (10, [.ref a_at, .ref a_g, .ref a_st, .ref a_x_kept, .int v1, .ref a_tp, .ref a_rd, .ref a_qu, .ref a_sp, .ref a_wk, .ref a_bx, .ref a_nt, .ref a_nu, .ref a_x_seen])) :: (a_x_kept, .inl (ci 3, 8, .inr (.inr (.inr (.inr x_kept))))) :: (a_at, .inr (0, [.ref a_g, .ref a_st, .int at_right, .int at_faulty, .int at_endedSoon, .int at_noSuchNumber])) :: (a_st, .inr (7, [.ref a_g, .ref a_st_levels, .ref a_st_keys, .ref a_st_years, .ref a_st_keysThere, .int st_size, .int st_shownBy, .int st_deepestShown, .int st_latestShown])) :: (a_st_levels, .inl (ci 0, 60, .inl st_levels)) :: (a_st_keys, .inl (ci 0, 60, .inl st_keys)) :: (a_st_years, .inl (ci 0, 60, .inl st_years)) :: (a_g, .inr (2, [.ref a_g_rowCuts, .ref a_g_columnCuts, .ref a_g_bandRows, .ref a_g_zoneColumns, .ref a_g_rows, .ref a_g_sheets])) :: (a_g_rowCuts, .inl (ci 0, 5, .inl g_rowCuts)) :: (a_g_columnCuts, .inl (ci 0, 5, .inl g_columnCuts)) :: (a_g_bandRows, .inl (ci 0, 5, .inl g_bandRows)) :: (a_g_zoneColumns, .inl (ci 0, 5, .inl g_zoneColumns)) :: (a_g_rows, .inl (ci 0, 5, .inl g_rows)) :: (a_g_sheets, .inl (ci 0, 5, .inl g_sheets)) :: (a_at2, .inr (0, [.ref a_g2, .ref a_st2, .int at2_right, .int at2_faulty, .int at2_endedSoon, .int at2_noSuchNumber])) :: (a_st2, .inr (7, [.ref a_g2, .ref a_st2_levels, .ref a_st2_keys, .ref a_st2_years, .ref a_st2_keysThere, .int st2_size, .int st2_shownBy, .int st2_deepestShown, .int st2_latestShown])) :: (a_st2_levels, .inl (ci 0, 60, .inl st2_levels)) :: (a_st2_keys, .inl (ci 0, 60, .inl st2_keys)) :: (a_st2_years, .inl (ci 0, 60, .inl st2_years)) :: (a_g2, .inr (2, [.ref a_g2_rowCuts, .ref a_g2_columnCuts, .ref a_g2_bandRows, .ref a_g2_zoneColumns, .ref a_g2_rows, .ref a_g2_sheets])) :: (a_g2_rowCuts, .inl (ci 0, 5, .inl g2_rowCuts)) :: (a_g2_columnCuts, .inl (ci 0, 5, .inl g2_columnCuts)) :: Rw) H := ⟨hP, hD⟩
      refine lv_aload_n (pc := 19) hx hb dX10_undo_19 rfl (lv_at hl 0 rfl) ?_
      refine va_get (pc := 20) (D := D) (ci := 10) (v := .ref a_at) (C := RX10) (T := TX10) (N := 14) hx hb hts hinX10 hown hK hP 0 rfl rfl 0 (by decide) w_2 (fun _ h9 => h9) rfl dX10_undo_20 ?_
      refine lv_aload_n (pc := 23) hx hb dX10_undo_23 rfl (lv_at hl 0 rfl) ?_
      refine va_get (pc := 24) (D := D) (ci := 10) (v := .ref a_x_kept) (C := RX10) (T := TX10) (N := 14) hx hb hts hinX10 hown hK hP 0 rfl rfl 3 (by decide) w_3 (fun _ h9 => h9) rfl dX10_undo_24 ?_
      refine lv_aload_n (pc := 27) hx hb dX10_undo_27 rfl (lv_at hl 0 rfl) ?_
      refine va_get (pc := 28) (D := D) (ci := 10) (v := .int v1) (C := RX10) (T := TX10) (N := 14) hx hb hts hinX10 hown hK hP 0 rfl rfl 4 (by decide) w_1 (fun _ h9 => h9) rfl dX10_undo_28 ?_
      refine q_kld (pc := 31) (k := k) hx hb hK hP 1 hf rfl hkept dX10_undo_31 (fun hf => ?_)
      obtain ⟨v2, v3, v4, v5, f6, f7, f8, v9, f10, f11, f12, f13, f14, f15, hm32, hf⟩ := q_b14_e hf
      refine q_cV (pc := 32) (As := [.ref a_at2]) (rest := []) (v0 := none) ⟨hx, hb, hml, hown, hts⟩ hK hA hZ hP hD hS hl.1 [2, 3, 4, 5, 6, 7, 8, 9, 10, 11, 12, 13, 14, 15, 16, 17, 18, 19, 20, 21, 0, 1] 22 rfl ⟨rfl, rfl, rfl⟩ (c_Atlas_copyFrom l D ci A sa N ((a_x, .inr (10, [.ref a_at, .ref a_g, .ref a_st, .ref a_x_kept, .int v1, .ref a_tp, .ref a_rd, .ref a_qu, .ref a_sp, .ref a_wk, .ref a_bx, .ref a_nt, .ref a_nu, .ref a_x_seen])) :: (a_x_kept, .inl (ci 3, 8, .inr (.inr (.inr (.inr x_kept))))) :: Rw) a_at a_g a_st a_st_levels a_st_keys a_st_years a_st_keysThere a_g_rowCuts a_g_columnCuts a_g_bandRows a_g_zoneColumns a_g_rows a_g_sheets a_at2 a_g2 a_st2 a_st2_levels a_st2_keys a_st2_years a_st2_keysThere a_g2_rowCuts a_g2_columnCuts a_g2_bandRows a_g2_zoneColumns a_g2_rows a_g2_sheets at_right at_faulty at_endedSoon at_noSuchNumber st_size st_shownBy st_deepestShown st_latestShown st_levels st_keys st_years g_rowCuts g_columnCuts g_bandRows g_zoneColumns g_rows g_sheets at2_right at2_faulty at2_endedSoon at2_noSuchNumber st2_size st2_shownBy st2_deepestShown st2_latestShown st2_levels st2_keys st2_years g2_rowCuts g2_columnCuts v2 v3 v4 v5 f6 f7 f8 v9 f10 f11 f12 f13 f14 f15 hm32) 2 rfl rfl (cwV 1 hts gX10_undo_X0_copyFrom rfl rfl rfl (by decide +kernel) ⟨Nat.le_of_ble_eq_true rfl, Nat.le_of_ble_eq_true rfl⟩) rfl rfl (Nat.le_of_ble_eq_true rfl) dX10_undo_32 ⟨Nat.zero_le _, Nat.zero_le _⟩ [20, 21, 0, 1, 2, 3, 4, 5, 6, 7, 8, 9, 10, 11, 12, 13, 14, 15, 16, 17, 18, 19] 22 rfl ⟨rfl, rfl, rfl⟩ (fun H locs hP hD hS => ?_)
      obtain ⟨hP, hD⟩ : va_PD D A ((a_x, .inr (10, [.ref a_at, .ref a_g, .ref a_st, .ref a_x_kept, .int v1, .ref a_tp, .ref a_rd, .ref a_qu, .ref a_sp, .ref a_wk, .ref a_bx, .ref a_nt, .ref a_nu, .ref a_x_seen])) :: (a_x_kept, .inl (ci 3, 8, .inr (.inr (.inr (.inr x_kept))))) :: (a_at, .inr (0, [.ref a_g, .ref a_st, .int v2, .int v3, .int v4, .int v5])) :: (a_st, .inr (7, [.ref a_g, .ref a_st_levels, .ref a_st_keys, .ref a_st_years, .ref a_st_keysThere, .int v9, .int st_shownBy, .int st_deepestShown, .int st_latestShown])) :: (a_st_levels, .inl (ci 0, 60, .inl f6)) :: (a_st_keys, .inl (ci 0, 60, .inl f7)) :: (a_st_years, .inl (ci 0, 60, .inl f8)) :: (a_g, .inr (2, [.ref a_g_rowCuts, .ref a_g_columnCuts, .ref a_g_bandRows, .ref a_g_zoneColumns, .ref a_g_rows, .ref a_g_sheets])) :: (a_g_rowCuts, .inl (ci 0, 5, .inl f10)) :: (a_g_columnCuts, .inl (ci 0, 5, .inl f11)) :: (a_g_bandRows, .inl (ci 0, 5, .inl f12)) :: (a_g_zoneColumns, .inl (ci 0, 5, .inl f13)) :: (a_g_rows, .inl (ci 0, 5, .inl f14)) :: (a_g_sheets, .inl (ci 0, 5, .inl f15)) :: (a_at2, .inr (0, [.ref a_g2, .ref a_st2, .int at2_right, .int at2_faulty, .int at2_endedSoon, .int at2_noSuchNumber])) :: (a_st2, .inr (7, [.ref a_g2, .ref a_st2_levels, .ref a_st2_keys, .ref a_st2_years, .ref a_st2_keysThere, .int st2_size, .int st2_shownBy, .int st2_deepestShown, .int st2_latestShown])) :: (a_st2_levels, .inl (ci 0, 60, .inl st2_levels)) :: (a_st2_keys, .inl (ci 0, 60, .inl st2_keys)) :: (a_st2_years, .inl (ci 0, 60, .inl st2_years)) :: (a_g2, .inr (2, [.ref a_g2_rowCuts, .ref a_g2_columnCuts, .ref a_g2_bandRows, .ref a_g2_zoneColumns, .ref a_g2_rows, .ref a_g2_sheets])) :: (a_g2_rowCuts, .inl (ci 0, 5, .inl g2_rowCuts)) :: (a_g2_columnCuts, .inl (ci 0, 5, .inl g2_columnCuts)) :: Rw) H := ⟨hP, hD⟩
      refine lv_aload_n (pc := 35) hx hb dX10_undo_35 rfl (lv_at hl 0 rfl) ?_
      refine va_get (pc := 36) (D := D) (ci := 10) (v := .int v1) (C := RX10) (T := TX10) (N := 14) hx hb hts hinX10 hown hK hP 0 rfl rfl 4 (by decide) w_1 (fun _ h9 => h9) rfl dX10_undo_36 ?_
      obtain ⟨e90, e91, e92, e93, e94, e95, e96, e97, e98, e99, e910, e911, e912, e913, e914, e915⟩ := q_inj16 (Option.some.inj hf)
      rw [hQ, ← e90, ← e91, ← e92, ← e93, ← e94, ← e95, ← e96, ← e97, ← e98, ← e99, ← e910, ← e911, ← e912, ← e913, ← e914, ← e915]
      exact q_iret (pc := 39) hx hb hr hlocks hP hD hS dX10_undo_39
    · refine lv_iconst (pc := 7) (v := (-1)) hx hb dX10_undo_7 (by decide) ?_
      obtain ⟨e90, e91, e92, e93, e94, e95, e96, e97, e98, e99, e910, e911, e912, e913, e914, e915⟩ := q_inj16 (Option.some.inj hf)
      rw [hQ, ← e90, ← e91, ← e92, ← e93, ← e94, ← e95, ← e96, ← e97, ← e98, ← e99, ← e910, ← e911, ← e912, ← e913, ← e914, ← e915]
      exact q_iret (pc := 8) hx hb hr hlocks hP hD hS dX10_undo_8
  exact hgo _ _ rfl hP hS
/-! X10_way -/
set_option maxRecDepth 100000 in
set_option maxHeartbeats 4000000 in
theorem c_X_way (l : Launch) (D : va_G) (ci : Nat → ClassId) (A : Nat → Prop) (sa : Nat → Nat) (N : Nat) (Rw : va_W) (a_x : Nat) (a_at : Nat) (a_g : Nat) (a_st : Nat) (a_x_kept : Nat) (a_tp : Nat) (a_rd : Nat) (a_qu : Nat) (a_sp : Nat) (a_wk : Nat) (a_bx : Nat) (a_nt : Nat) (a_nu : Nat) (a_x_seen : Nat) (a_ws : Nat) (a_wk_steps : Nat) (a_wk_reached : Nat) (n_wk_steps : Nat) (n_wk_reached : Nat) (a_ws_first : Nat) (a_ws_many : Nat) (a_ws_corner : Nat) (a_g_rowCuts : Nat) (a_g_columnCuts : Nat) (a_g_bandRows : Nat) (a_g_zoneColumns : Nat) (a_g_rows : Nat) (a_g_sheets : Nat) (x_keptStates : Int32) (wk_many : Int32) (wk_steps : Nat → Int32) (wk_reached : Nat → Int32) (ws_cornerCount : Int32) (ws_level : Int32) (ws_row : Int32) (ws_start : Int32) (ws_place : Int32) (ws_length : Int32) (ws_cap : Int32) (ws_first : Nat → Int32) (ws_many : Nat → Int32) (g_bandRows : Nat → Int32) (g_zoneColumns : Nat → Int32) (g_rows : Nat → Int32) (g_sheets : Nat → Int32) (p1 : Int32) (p2 : Int32) (p3 : Int32) (p4 : Int32) (r : Int32) (o1 : Nat → Int32) (o2 : Nat → Int32) (o3 : Int32) (o4 : Nat → Int32) (o5 : Nat → Int32) (o6 : Int32) (o7 : Int32) (o8 : Int32) (o9 : Int32) (o10 : Int32) (o11 : Int32) (hf : f_X_way N n_wk_steps n_wk_reached wk_steps wk_reached wk_many ws_first ws_many ws_level ws_row ws_start ws_place ws_length ws_cap g_bandRows g_zoneColumns g_rows g_sheets p1 p2 p3 p4 = some (r, o1, o2, o3, o4, o5, o6, o7, o8, o9, o10, o11)) : Met l yX10_way wsX10_way ({ frames := 4, cells := 0, slots := 0, locals := 112 }) (va_Pc [.ref a_x, .int p1, .int p2, .int p3, .int p4] (q_N D ci A sa ((a_x, .inr (10, [.ref a_at, .ref a_g, .ref a_st, .ref a_x_kept, .int x_keptStates, .ref a_tp, .ref a_rd, .ref a_qu, .ref a_sp, .ref a_wk, .ref a_bx, .ref a_nt, .ref a_nu, .ref a_x_seen])) :: (a_wk, .inr (9, [.ref a_ws, .ref a_wk_steps, .ref a_wk_reached, .int wk_many])) :: (a_wk_steps, .inl (ci 0, n_wk_steps, .inl wk_steps)) :: (a_wk_reached, .inl (ci 0, n_wk_reached, .inl wk_reached)) :: (a_ws, .inr (6, [.ref a_g, .ref a_ws_first, .ref a_ws_many, .ref a_ws_corner, .int ws_cornerCount, .int ws_level, .int ws_row, .int ws_start, .int ws_place, .int ws_length, .int ws_cap])) :: (a_ws_first, .inl (ci 0, 4, .inl ws_first)) :: (a_ws_many, .inl (ci 0, 4, .inl ws_many)) :: (a_g, .inr (2, [.ref a_g_rowCuts, .ref a_g_columnCuts, .ref a_g_bandRows, .ref a_g_zoneColumns, .ref a_g_rows, .ref a_g_sheets])) :: (a_g_bandRows, .inl (ci 0, 5, .inl g_bandRows)) :: (a_g_zoneColumns, .inl (ci 0, 5, .inl g_zoneColumns)) :: (a_g_rows, .inl (ci 0, 5, .inl g_rows)) :: (a_g_sheets, .inl (ci 0, 5, .inl g_sheets)) :: Rw))) (q_Q (some (.int r)) (q_O D A ((a_x, .inr (10, [.ref a_at, .ref a_g, .ref a_st, .ref a_x_kept, .int x_keptStates, .ref a_tp, .ref a_rd, .ref a_qu, .ref a_sp, .ref a_wk, .ref a_bx, .ref a_nt, .ref a_nu, .ref a_x_seen])) :: (a_wk, .inr (9, [.ref a_ws, .ref a_wk_steps, .ref a_wk_reached, .int o3])) :: (a_wk_steps, .inl (ci 0, n_wk_steps, .inl o1)) :: (a_wk_reached, .inl (ci 0, n_wk_reached, .inl o2)) :: (a_ws, .inr (6, [.ref a_g, .ref a_ws_first, .ref a_ws_many, .ref a_ws_corner, .int ws_cornerCount, .int o6, .int o7, .int o8, .int o9, .int o10, .int o11])) :: (a_ws_first, .inl (ci 0, 4, .inl o4)) :: (a_ws_many, .inl (ci 0, 4, .inl o5)) :: (a_g, .inr (2, [.ref a_g_rowCuts, .ref a_g_columnCuts, .ref a_g_bandRows, .ref a_g_zoneColumns, .ref a_g_rows, .ref a_g_sheets])) :: (a_g_bandRows, .inl (ci 0, 5, .inl g_bandRows)) :: (a_g_zoneColumns, .inl (ci 0, 5, .inl g_zoneColumns)) :: (a_g_rows, .inl (ci 0, 5, .inl g_rows)) :: (a_g_sheets, .inl (ci 0, 5, .inl g_sheets)) :: Rw)) A) 0 0 A := by
  refine q_ofW (cc := cX10_way) (maxL := 5) (ret := (some .int)) [.ref a_x, .int p1, .int p2, .int p3, .int p4] (plainFor_of_name (by decide)) rfl (Nat.le_of_ble_eq_true rfl) ?_
  intro p e s m below meth c ls Q hQ hx hb hml hr hts hown hlocks hK hA hZ hP hD hS hl
  have hl : lv_has ls 5 [(0, .ref a_x), (1, .int p1), (2, .int p2), (3, .int p3), (4, .int p4)] := hl
  have hown : s.vm.findClass RX10 = some m.cls := hown
  have hinX10 : ∀ w ∈ wsX100, w ∈ wsX10_way := fun _ h => List.mem_cons_of_mem _ (inWX100 _ h)
  have hinX2 : ∀ w ∈ wsX20, w ∈ wsX10_way := fun _ h => List.mem_cons_of_mem _ (inWX20 _ h)
  have w_1 := hts (Cond.fieldLink RX10 20 "SheetNames" "grid" "LSheetNames$Grid;") (List.mem_cons_of_mem _ t_w876)
  have w_2 := hts (Cond.fieldLink RX10 73 "SheetNames" "walk" "LSheetNames$Walk;") (List.mem_cons_of_mem _ t_w881)
  have wn_1 : (Cond.fieldLinkNest "SheetNames" 126 "SheetNames$Grid" "sheets" "[I" "SheetNames").before ([.ref a_x, .int p1, .int p2, .int p3, .int p4] : List Value).toArray s = true := (hZ.2.2.2.2.2.2.2.2.2.1 _ (List.mem_of_getElem? (i := 1) rfl)).use rfl
  unfold f_X_way at hf
  have hgo : ∀ (H : Heap) (locs : List Loc), H = s.heap → va_P D vwCl ((a_x, .inr (10, [.ref a_at, .ref a_g, .ref a_st, .ref a_x_kept, .int x_keptStates, .ref a_tp, .ref a_rd, .ref a_qu, .ref a_sp, .ref a_wk, .ref a_bx, .ref a_nt, .ref a_nu, .ref a_x_seen])) :: (a_wk, .inr (9, [.ref a_ws, .ref a_wk_steps, .ref a_wk_reached, .int wk_many])) :: (a_wk_steps, .inl (ci 0, n_wk_steps, .inl wk_steps)) :: (a_wk_reached, .inl (ci 0, n_wk_reached, .inl wk_reached)) :: (a_ws, .inr (6, [.ref a_g, .ref a_ws_first, .ref a_ws_many, .ref a_ws_corner, .int ws_cornerCount, .int ws_level, .int ws_row, .int ws_start, .int ws_place, .int ws_length, .int ws_cap])) :: (a_ws_first, .inl (ci 0, 4, .inl ws_first)) :: (a_ws_many, .inl (ci 0, 4, .inl ws_many)) :: (a_g, .inr (2, [.ref a_g_rowCuts, .ref a_g_columnCuts, .ref a_g_bandRows, .ref a_g_zoneColumns, .ref a_g_rows, .ref a_g_sheets])) :: (a_g_bandRows, .inl (ci 0, 5, .inl g_bandRows)) :: (a_g_zoneColumns, .inl (ci 0, 5, .inl g_zoneColumns)) :: (a_g_rows, .inl (ci 0, 5, .inl g_rows)) :: (a_g_sheets, .inl (ci 0, 5, .inl g_sheets)) :: Rw) H → va_S A s.heap H locs → W p l e ({ frames := 4, cells := 0, slots := 0, locals := 112 } : Room) s m ([.ref a_x, .int p1, .int p2, .int p3, .int p4] : List Value).toArray below meth c H locs 0 0 Q (F0 m 0 ls []) := by
    intro H locs hH hP hS
    refine lv_aload_n (pc := 0) hx hb dX10_way_0 rfl (lv_at hl 0 rfl) ?_
    refine lv_iload_n (pc := 1) hx hb dX10_way_1 rfl (lv_at hl 1 rfl) ?_
    refine lv_iload_n (pc := 2) hx hb dX10_way_2 rfl (lv_at hl 2 rfl) ?_
    refine lv_iload_n (pc := 3) hx hb dX10_way_3 rfl (lv_at hl 3 rfl) ?_
    obtain ⟨v1, hm4, hf⟩ := q_b1_e hf
    refine q_cVr (pc := 4) (As := [.int p1, .int p2, .int p3]) (rest := []) (v0 := (some (.int v1))) ⟨hx, hb, hml, hown, hts⟩ hK hA hZ hP hD hS hl.1 [0, 7, 11] 12 rfl ⟨rfl, rfl, rfl⟩ (c_X_areSheets l D ci A sa N (Rw) a_x a_at a_g a_st a_x_kept a_tp a_rd a_qu a_sp a_wk a_bx a_nt a_nu a_x_seen a_g_rowCuts a_g_columnCuts a_g_bandRows a_g_zoneColumns a_g_rows a_g_sheets x_keptStates g_sheets p1 p2 p3 v1 hm4) 0 rfl rfl (cwV 3 hts gX10_way_X10_areSheets rfl rfl rfl (by decide +kernel) ⟨Nat.le_of_ble_eq_true rfl, Nat.le_of_ble_eq_true rfl⟩) rfl rfl (Nat.le_of_ble_eq_true rfl) dX10_way_4 ⟨Nat.zero_le _, Nat.zero_le _⟩ (fun locs hS => ?_)
    refine q_if_eq (pc := 7) (tgt := 15) hx hb dX10_way_7 (by decide) rfl hf (fun hf => ?_) (fun hf => ?_)
    · refine lv_iconst (pc := 15) (v := (-1)) hx hb dX10_way_15 (by decide) ?_
      obtain ⟨e90, e91, e92, e93, e94, e95, e96, e97, e98, e99, e910, e911⟩ := q_inj12 (Option.some.inj hf)
      rw [hQ, ← e90, ← e91, ← e92, ← e93, ← e94, ← e95, ← e96, ← e97, ← e98, ← e99, ← e910, ← e911]
      exact q_iret (pc := 16) hx hb hr hlocks hP hD hS dX10_way_16
    · refine lv_iload (pc := 10) hx hb dX10_way_10 (lv_at hl 4 rfl) ?_
      refine q_if_ge (pc := 12) (tgt := 17) hx hb dX10_way_12 (by decide) rfl hf (fun hf => ?_) (fun hf => ?_)
      · refine lv_aload_n (pc := 17) hx hb dX10_way_17 rfl (lv_at hl 0 rfl) ?_
        refine va_get (pc := 18) (D := D) (ci := 10) (v := .ref a_g) (C := RX10) (T := TX10) (N := 14) hx hb hts hinX10 hown hK hP 0 rfl rfl 1 (by decide) w_1 (fun _ h9 => h9) rfl dX10_way_18 ?_
        refine va_getN (pc := 21) (D := D) (ci := 2) (v := .ref a_g_sheets) (C := RX2) (T := TX2) (N := 6) hx hb hts hinX2 hown hK hP 7 rfl rfl 5 (by decide) wn_1 (fun _ h9 => h9) rfl dX10_way_21 ?_
        refine lv_iload_n (pc := 24) hx hb dX10_way_24 rfl (lv_at hl 1 rfl) ?_
        refine q_iald (pc := 25) hx hb hK hP 11 0 hf rfl rfl dX10_way_25 (fun v2 hf => ?_)
        refine lv_sipush (pc := 26) (v := 20000) hx hb dX10_way_26 (by decide) ?_
        refine q_icmp_le (pc := 29) (tgt := 35) hx hb dX10_way_29 (by decide) rfl hf (fun hf => ?_) (fun hf => ?_)
        · refine lv_aload_n (pc := 35) hx hb dX10_way_35 rfl (lv_at hl 0 rfl) ?_
          refine va_get (pc := 36) (D := D) (ci := 10) (v := .ref a_wk) (C := RX10) (T := TX10) (N := 14) hx hb hts hinX10 hown hK hP 0 rfl rfl 9 (by decide) w_2 (fun _ h9 => h9) rfl dX10_way_36 ?_
          refine lv_iload_n (pc := 39) hx hb dX10_way_39 rfl (lv_at hl 1 rfl) ?_
          refine lv_iload_n (pc := 40) hx hb dX10_way_40 rfl (lv_at hl 3 rfl) ?_
          obtain ⟨f3, f4, v5, f6, f7, v8, v9, v10, v11, v12, v13, hm41, hf⟩ := q_b11_e hf
          refine q_cV (pc := 41) (As := [.int p1, .int p3]) (rest := []) (v0 := none) ⟨hx, hb, hml, hown, hts⟩ hK hA hZ hP hD hS hl.1 [1, 2, 3, 4, 5, 6, 7, 8, 9, 10, 11, 0] 12 rfl ⟨rfl, rfl, rfl⟩ (c_Walk_spread l D ci A sa N ((a_x, .inr (10, [.ref a_at, .ref a_g, .ref a_st, .ref a_x_kept, .int x_keptStates, .ref a_tp, .ref a_rd, .ref a_qu, .ref a_sp, .ref a_wk, .ref a_bx, .ref a_nt, .ref a_nu, .ref a_x_seen])) :: Rw) a_wk a_ws a_wk_steps a_wk_reached n_wk_steps n_wk_reached a_g a_ws_first a_ws_many a_ws_corner a_g_rowCuts a_g_columnCuts a_g_bandRows a_g_zoneColumns a_g_rows a_g_sheets wk_many wk_steps wk_reached ws_cornerCount ws_level ws_row ws_start ws_place ws_length ws_cap ws_first ws_many g_bandRows g_zoneColumns g_rows g_sheets p1 p3 f3 f4 v5 f6 f7 v8 v9 v10 v11 v12 v13 hm41) 1 rfl rfl (cwV 2 hts gX10_way_X9_spread rfl rfl rfl (by decide +kernel) ⟨Nat.le_of_ble_eq_true rfl, Nat.le_of_ble_eq_true rfl⟩) rfl rfl (Nat.le_of_ble_eq_true rfl) dX10_way_41 ⟨Nat.zero_le _, Nat.zero_le _⟩ [11, 0, 1, 2, 3, 4, 5, 6, 7, 8, 9, 10] 12 rfl ⟨rfl, rfl, rfl⟩ (fun H locs hP hD hS => ?_)
          obtain ⟨hP, hD⟩ : va_PD D A ((a_x, .inr (10, [.ref a_at, .ref a_g, .ref a_st, .ref a_x_kept, .int x_keptStates, .ref a_tp, .ref a_rd, .ref a_qu, .ref a_sp, .ref a_wk, .ref a_bx, .ref a_nt, .ref a_nu, .ref a_x_seen])) :: (a_wk, .inr (9, [.ref a_ws, .ref a_wk_steps, .ref a_wk_reached, .int v5])) :: (a_wk_steps, .inl (ci 0, n_wk_steps, .inl f3)) :: (a_wk_reached, .inl (ci 0, n_wk_reached, .inl f4)) :: (a_ws, .inr (6, [.ref a_g, .ref a_ws_first, .ref a_ws_many, .ref a_ws_corner, .int ws_cornerCount, .int v8, .int v9, .int v10, .int v11, .int v12, .int v13])) :: (a_ws_first, .inl (ci 0, 4, .inl f6)) :: (a_ws_many, .inl (ci 0, 4, .inl f7)) :: (a_g, .inr (2, [.ref a_g_rowCuts, .ref a_g_columnCuts, .ref a_g_bandRows, .ref a_g_zoneColumns, .ref a_g_rows, .ref a_g_sheets])) :: (a_g_bandRows, .inl (ci 0, 5, .inl g_bandRows)) :: (a_g_zoneColumns, .inl (ci 0, 5, .inl g_zoneColumns)) :: (a_g_rows, .inl (ci 0, 5, .inl g_rows)) :: (a_g_sheets, .inl (ci 0, 5, .inl g_sheets)) :: Rw) H := ⟨hP, hD⟩
          refine lv_iload (pc := 44) hx hb dX10_way_44 (lv_at hl 4 rfl) ?_
          refine lv_aload_n (pc := 46) hx hb dX10_way_46 rfl (lv_at hl 0 rfl) ?_
          refine va_get (pc := 47) (D := D) (ci := 10) (v := .ref a_wk) (C := RX10) (T := TX10) (N := 14) hx hb hts hinX10 hown hK hP 0 rfl rfl 9 (by decide) w_2 (fun _ h9 => h9) rfl dX10_way_47 ?_
          refine lv_iload_n (pc := 50) hx hb dX10_way_50 rfl (lv_at hl 2 rfl) ?_
          obtain ⟨v14, hm51, hf⟩ := q_b1_e hf
          refine q_cVr (pc := 51) (As := [.int p2]) (rest := [.int p4]) (v0 := (some (.int v14))) ⟨hx, hb, hml, hown, hts⟩ hK hA hZ hP hD hS hl.1 [1, 2] 12 rfl ⟨rfl, rfl, rfl⟩ (c_Walk_stepsTo l D ci A sa N (Rw) a_wk a_ws a_wk_steps a_wk_reached n_wk_steps v5 f3 p2 v14 hm51) 1 rfl rfl (cwV 1 hts gX10_way_X9_stepsTo rfl rfl rfl (by decide +kernel) ⟨Nat.le_of_ble_eq_true rfl, Nat.le_of_ble_eq_true rfl⟩) rfl rfl (Nat.le_of_ble_eq_true rfl) dX10_way_51 ⟨Nat.zero_le _, Nat.zero_le _⟩ (fun locs hS => ?_)
          refine q_icmp_le (pc := 54) (tgt := 62) hx hb dX10_way_54 (by decide) rfl hf (fun hf => ?_) (fun hf => ?_)
          · refine lv_aload_n (pc := 62) hx hb dX10_way_62 rfl (lv_at hl 0 rfl) ?_
            refine va_get (pc := 63) (D := D) (ci := 10) (v := .ref a_wk) (C := RX10) (T := TX10) (N := 14) hx hb hts hinX10 hown hK hP 0 rfl rfl 9 (by decide) w_2 (fun _ h9 => h9) rfl dX10_way_63 ?_
            refine lv_iload_n (pc := 66) hx hb dX10_way_66 rfl (lv_at hl 1 rfl) ?_
            refine lv_iload_n (pc := 67) hx hb dX10_way_67 rfl (lv_at hl 2 rfl) ?_
            refine lv_iload (pc := 68) hx hb dX10_way_68 (lv_at hl 4 rfl) ?_
            obtain ⟨v15, f16, f17, v18, v19, v20, v21, v22, v23, hm70, hf⟩ := q_b9_e hf
            refine q_cV (pc := 70) (As := [.int p1, .int p2, .int p4]) (rest := []) (v0 := (some (.int v15))) ⟨hx, hb, hml, hown, hts⟩ hK hA hZ hP hD hS hl.1 [1, 2, 4, 5, 6, 7, 8, 9, 10, 11, 0, 3] 12 rfl ⟨rfl, rfl, rfl⟩ (c_Walk_onTheWay l D ci A sa N ((a_x, .inr (10, [.ref a_at, .ref a_g, .ref a_st, .ref a_x_kept, .int x_keptStates, .ref a_tp, .ref a_rd, .ref a_qu, .ref a_sp, .ref a_wk, .ref a_bx, .ref a_nt, .ref a_nu, .ref a_x_seen])) :: (a_wk_reached, .inl (ci 0, n_wk_reached, .inl f4)) :: Rw) a_wk a_ws a_wk_steps a_wk_reached n_wk_steps a_g a_ws_first a_ws_many a_ws_corner a_g_rowCuts a_g_columnCuts a_g_bandRows a_g_zoneColumns a_g_rows a_g_sheets v5 f3 ws_cornerCount v8 v9 v10 v11 v12 v13 f6 f7 g_bandRows g_zoneColumns g_rows g_sheets p1 p2 p4 v15 f16 f17 v18 v19 v20 v21 v22 v23 hm70) 1 rfl rfl (cwV 3 hts gX10_way_X9_onTheWay rfl rfl rfl (by decide +kernel) ⟨Nat.le_of_ble_eq_true rfl, Nat.le_of_ble_eq_true rfl⟩) rfl rfl (Nat.le_of_ble_eq_true rfl) dX10_way_70 ⟨Nat.zero_le _, Nat.zero_le _⟩ [10, 0, 1, 11, 2, 3, 4, 5, 6, 7, 8, 9] 12 rfl ⟨rfl, rfl, rfl⟩ (fun H locs hP hD hS => ?_)
            obtain ⟨hP, hD⟩ : va_PD D A ((a_x, .inr (10, [.ref a_at, .ref a_g, .ref a_st, .ref a_x_kept, .int x_keptStates, .ref a_tp, .ref a_rd, .ref a_qu, .ref a_sp, .ref a_wk, .ref a_bx, .ref a_nt, .ref a_nu, .ref a_x_seen])) :: (a_wk, .inr (9, [.ref a_ws, .ref a_wk_steps, .ref a_wk_reached, .int v5])) :: (a_wk_steps, .inl (ci 0, n_wk_steps, .inl f3)) :: (a_wk_reached, .inl (ci 0, n_wk_reached, .inl f4)) :: (a_ws, .inr (6, [.ref a_g, .ref a_ws_first, .ref a_ws_many, .ref a_ws_corner, .int ws_cornerCount, .int v18, .int v19, .int v20, .int v21, .int v22, .int v23])) :: (a_ws_first, .inl (ci 0, 4, .inl f16)) :: (a_ws_many, .inl (ci 0, 4, .inl f17)) :: (a_g, .inr (2, [.ref a_g_rowCuts, .ref a_g_columnCuts, .ref a_g_bandRows, .ref a_g_zoneColumns, .ref a_g_rows, .ref a_g_sheets])) :: (a_g_bandRows, .inl (ci 0, 5, .inl g_bandRows)) :: (a_g_zoneColumns, .inl (ci 0, 5, .inl g_zoneColumns)) :: (a_g_rows, .inl (ci 0, 5, .inl g_rows)) :: (a_g_sheets, .inl (ci 0, 5, .inl g_sheets)) :: Rw) H := ⟨hP, hD⟩
            obtain ⟨e90, e91, e92, e93, e94, e95, e96, e97, e98, e99, e910, e911⟩ := q_inj12 (Option.some.inj hf)
            rw [hQ, ← e90, ← e91, ← e92, ← e93, ← e94, ← e95, ← e96, ← e97, ← e98, ← e99, ← e910, ← e911]
            exact q_iret (pc := 73) hx hb hr hlocks hP hD hS dX10_way_73
          · refine lv_bipush (pc := 57) (v := (-2)) hx hb dX10_way_57 (by decide) ?_
            refine lv_goto (pc := 59) (tgt := 73) hx hb dX10_way_59 (by decide) ?_
            obtain ⟨e90, e91, e92, e93, e94, e95, e96, e97, e98, e99, e910, e911⟩ := q_inj12 (Option.some.inj hf)
            rw [hQ, ← e90, ← e91, ← e92, ← e93, ← e94, ← e95, ← e96, ← e97, ← e98, ← e99, ← e910, ← e911]
            exact q_iret (pc := 73) hx hb hr hlocks hP hD hS dX10_way_73
        · refine lv_bipush (pc := 32) (v := (-3)) hx hb dX10_way_32 (by decide) ?_
          obtain ⟨e90, e91, e92, e93, e94, e95, e96, e97, e98, e99, e910, e911⟩ := q_inj12 (Option.some.inj hf)
          rw [hQ, ← e90, ← e91, ← e92, ← e93, ← e94, ← e95, ← e96, ← e97, ← e98, ← e99, ← e910, ← e911]
          exact q_iret (pc := 34) hx hb hr hlocks hP hD hS dX10_way_34
      · refine lv_iconst (pc := 15) (v := (-1)) hx hb dX10_way_15 (by decide) ?_
        obtain ⟨e90, e91, e92, e93, e94, e95, e96, e97, e98, e99, e910, e911⟩ := q_inj12 (Option.some.inj hf)
        rw [hQ, ← e90, ← e91, ← e92, ← e93, ← e94, ← e95, ← e96, ← e97, ← e98, ← e99, ← e910, ← e911]
        exact q_iret (pc := 16) hx hb hr hlocks hP hD hS dX10_way_16
  exact hgo _ _ rfl hP hS
/-! X10_wider -/
set_option maxRecDepth 100000 in
set_option maxHeartbeats 4000000 in
theorem c_X_wider (l : Launch) (D : va_G) (ci : Nat → ClassId) (A : Nat → Prop) (sa : Nat → Nat) (N : Nat) (Rw : va_W) (a_x : Nat) (a_at : Nat) (a_g : Nat) (a_st : Nat) (a_x_kept : Nat) (a_tp : Nat) (a_rd : Nat) (a_qu : Nat) (a_sp : Nat) (a_wk : Nat) (a_bx : Nat) (a_nt : Nat) (a_nu : Nat) (a_x_seen : Nat) (a_g_rowCuts : Nat) (a_g_columnCuts : Nat) (a_g_bandRows : Nat) (a_g_zoneColumns : Nat) (a_g_rows : Nat) (a_g_sheets : Nat) (x_keptStates : Int32) (g_bandRows : Nat → Int32) (g_zoneColumns : Nat → Int32) (g_rows : Nat → Int32) (g_sheets : Nat → Int32) (p1 : Int32) (p2 : Int32) (p3 : Int32) (r : Int32) (hf : f_X_wider N g_bandRows g_zoneColumns g_rows g_sheets p1 p2 p3 = some r) : Met l yX10_wider wsX10_wider ({ frames := 3, cells := 0, slots := 0, locals := 65 }) (va_Pc [.ref a_x, .int p1, .int p2, .int p3] (q_N D ci A sa ((a_x, .inr (10, [.ref a_at, .ref a_g, .ref a_st, .ref a_x_kept, .int x_keptStates, .ref a_tp, .ref a_rd, .ref a_qu, .ref a_sp, .ref a_wk, .ref a_bx, .ref a_nt, .ref a_nu, .ref a_x_seen])) :: (a_g, .inr (2, [.ref a_g_rowCuts, .ref a_g_columnCuts, .ref a_g_bandRows, .ref a_g_zoneColumns, .ref a_g_rows, .ref a_g_sheets])) :: (a_g_bandRows, .inl (ci 0, 5, .inl g_bandRows)) :: (a_g_zoneColumns, .inl (ci 0, 5, .inl g_zoneColumns)) :: (a_g_rows, .inl (ci 0, 5, .inl g_rows)) :: (a_g_sheets, .inl (ci 0, 5, .inl g_sheets)) :: Rw))) (q_R (some (.int r))) 0 0 A := by
  refine q_ofW (cc := cX10_wider) (maxL := 6) (ret := (some .int)) [.ref a_x, .int p1, .int p2, .int p3] (plainFor_of_name (by decide)) rfl (Nat.le_of_ble_eq_true rfl) ?_
  intro p e s m below meth c ls Q hQ hx hb hml hr hts hown hlocks hK hA hZ hP hD hS hl
  have hl : lv_has ls 6 [(0, .ref a_x), (1, .int p1), (2, .int p2), (3, .int p3)] := hl
  have hown : s.vm.findClass RX10 = some m.cls := hown
  have hinX10 : ∀ w ∈ wsX100, w ∈ wsX10_wider := fun _ h => List.mem_cons_of_mem _ (inWX100 _ h)
  have w_1 := hts (Cond.constant RX10 207 (-1000000)) (List.mem_cons_of_mem _ t_w886)
  have w_2 := hts (Cond.fieldLink RX10 20 "SheetNames" "grid" "LSheetNames$Grid;") (List.mem_cons_of_mem _ t_w876)
  unfold f_X_wider at hf
  have hgo : ∀ (H : Heap) (locs : List Loc), H = s.heap → va_P D vwCl ((a_x, .inr (10, [.ref a_at, .ref a_g, .ref a_st, .ref a_x_kept, .int x_keptStates, .ref a_tp, .ref a_rd, .ref a_qu, .ref a_sp, .ref a_wk, .ref a_bx, .ref a_nt, .ref a_nu, .ref a_x_seen])) :: (a_g, .inr (2, [.ref a_g_rowCuts, .ref a_g_columnCuts, .ref a_g_bandRows, .ref a_g_zoneColumns, .ref a_g_rows, .ref a_g_sheets])) :: (a_g_bandRows, .inl (ci 0, 5, .inl g_bandRows)) :: (a_g_zoneColumns, .inl (ci 0, 5, .inl g_zoneColumns)) :: (a_g_rows, .inl (ci 0, 5, .inl g_rows)) :: (a_g_sheets, .inl (ci 0, 5, .inl g_sheets)) :: Rw) H → va_S A s.heap H locs → W p l e ({ frames := 3, cells := 0, slots := 0, locals := 65 } : Room) s m ([.ref a_x, .int p1, .int p2, .int p3] : List Value).toArray below meth c H locs 0 0 Q (F0 m 0 ls []) := by
    intro H locs hH hP hS
    subst hH
    refine lv_aload_n (pc := 0) hx hb dX10_wider_0 rfl (lv_at hl 0 rfl) ?_
    refine lv_iload_n (pc := 1) hx hb dX10_wider_1 rfl (lv_at hl 1 rfl) ?_
    refine lv_iload_n (pc := 2) hx hb dX10_wider_2 rfl (lv_at hl 2 rfl) ?_
    refine lv_iload_n (pc := 3) hx hb dX10_wider_3 rfl (lv_at hl 3 rfl) ?_
    obtain ⟨v1, hm4, hf⟩ := q_b1_e hf
    refine q_cVr (pc := 4) (As := [.int p1, .int p2, .int p3]) (rest := []) (v0 := (some (.int v1))) ⟨hx, hb, hml, hown, hts⟩ hK hA hZ hP hD hS hl.1 [0, 1, 5] 6 rfl ⟨rfl, rfl, rfl⟩ (c_X_areSheets l D ci A sa N (Rw) a_x a_at a_g a_st a_x_kept a_tp a_rd a_qu a_sp a_wk a_bx a_nt a_nu a_x_seen a_g_rowCuts a_g_columnCuts a_g_bandRows a_g_zoneColumns a_g_rows a_g_sheets x_keptStates g_sheets p1 p2 p3 v1 hm4) 0 rfl rfl (cwV 3 hts gX10_wider_X10_areSheets rfl rfl rfl (by decide +kernel) ⟨Nat.le_of_ble_eq_true rfl, Nat.le_of_ble_eq_true rfl⟩) rfl rfl (Nat.le_of_ble_eq_true rfl) dX10_wider_4 ⟨Nat.zero_le _, Nat.zero_le _⟩ (fun locs hS => ?_)
    refine q_if_ne (pc := 7) (tgt := 13) hx hb dX10_wider_7 (by decide) rfl hf (fun hf => ?_) (fun hf => ?_)
    · refine lv_aload_n (pc := 13) hx hb dX10_wider_13 rfl (lv_at hl 0 rfl) ?_
      refine va_get (pc := 14) (D := D) (ci := 10) (v := .ref a_g) (C := RX10) (T := TX10) (N := 14) hx hb hts hinX10 hown hK hP 0 rfl rfl 1 (by decide) w_2 (fun _ h9 => h9) rfl dX10_wider_14 ?_
      refine lv_iload_n (pc := 17) hx hb dX10_wider_17 rfl (lv_at hl 1 rfl) ?_
      refine lv_aload_n (pc := 18) hx hb dX10_wider_18 rfl (lv_at hl 0 rfl) ?_
      refine va_get (pc := 19) (D := D) (ci := 10) (v := .ref a_g) (C := RX10) (T := TX10) (N := 14) hx hb hts hinX10 hown hK hP 0 rfl rfl 1 (by decide) w_2 (fun _ h9 => h9) rfl dX10_wider_19 ?_
      refine lv_iload_n (pc := 22) hx hb dX10_wider_22 rfl (lv_at hl 1 rfl) ?_
      refine lv_iload_n (pc := 23) hx hb dX10_wider_23 rfl (lv_at hl 2 rfl) ?_
      obtain ⟨v2, hm24, hf⟩ := q_b1_e hf
      refine q_cVr (pc := 24) (As := [.int p1, .int p2]) (rest := [.int p1, .ref a_g]) (v0 := (some (.int v2))) ⟨hx, hb, hml, hown, hts⟩ hK hA hZ hP hD hS hl.1 [1, 2, 3, 4, 5] 6 rfl ⟨rfl, rfl, rfl⟩ (c_Grid_rowOfKey l D ci A sa N (Rw) a_g a_g_rowCuts a_g_columnCuts a_g_bandRows a_g_zoneColumns a_g_rows a_g_sheets g_bandRows g_zoneColumns g_rows g_sheets p1 p2 v2 hm24) 1 rfl rfl (cwV 2 hts gX10_wider_X2_rowOfKey rfl rfl rfl (by decide +kernel) ⟨Nat.le_of_ble_eq_true rfl, Nat.le_of_ble_eq_true rfl⟩) rfl rfl (Nat.le_of_ble_eq_true rfl) dX10_wider_24 ⟨Nat.zero_le _, Nat.zero_le _⟩ (fun locs hS => ?_)
      obtain ⟨v3, hm27, hf⟩ := q_b1_e hf
      refine q_cVr (pc := 27) (As := [.int p1, .int v2]) (rest := []) (v0 := (some (.int v3))) ⟨hx, hb, hml, hown, hts⟩ hK hA hZ hP hD hS hl.1 [1, 2, 3, 4] 6 rfl ⟨rfl, rfl, rfl⟩ (c_Grid_rowLength l D ci A sa N (Rw) a_g a_g_rowCuts a_g_columnCuts a_g_bandRows a_g_zoneColumns a_g_rows a_g_sheets g_bandRows g_zoneColumns g_rows p1 v2 v3 hm27) 1 rfl rfl (cwV 2 hts gX10_wider_X2_rowLength rfl rfl rfl (by decide +kernel) ⟨Nat.le_of_ble_eq_true rfl, Nat.le_of_ble_eq_true rfl⟩) rfl rfl (Nat.le_of_ble_eq_true rfl) dX10_wider_27 ⟨Nat.zero_le _, Nat.zero_le _⟩ (fun locs hS => ?_)
      refine lv_istore (pc := 30) (lv' := [(4, .int v3), (0, .ref a_x), (1, .int p1), (2, .int p2), (3, .int p3)]) hx hb dX10_wider_30 hl (by decide) rfl (fun ls hl => ?_)
      refine lv_aload_n (pc := 32) hx hb dX10_wider_32 rfl (lv_at hl 1 rfl) ?_
      refine va_get (pc := 33) (D := D) (ci := 10) (v := .ref a_g) (C := RX10) (T := TX10) (N := 14) hx hb hts hinX10 hown hK hP 0 rfl rfl 1 (by decide) w_2 (fun _ h9 => h9) rfl dX10_wider_33 ?_
      refine lv_iload_n (pc := 36) hx hb dX10_wider_36 rfl (lv_at hl 2 rfl) ?_
      refine lv_aload_n (pc := 37) hx hb dX10_wider_37 rfl (lv_at hl 1 rfl) ?_
      refine va_get (pc := 38) (D := D) (ci := 10) (v := .ref a_g) (C := RX10) (T := TX10) (N := 14) hx hb hts hinX10 hown hK hP 0 rfl rfl 1 (by decide) w_2 (fun _ h9 => h9) rfl dX10_wider_38 ?_
      refine lv_iload_n (pc := 41) hx hb dX10_wider_41 rfl (lv_at hl 2 rfl) ?_
      refine lv_iload_n (pc := 42) hx hb dX10_wider_42 rfl (lv_at hl 4 rfl) ?_
      obtain ⟨v4, hm43, hf⟩ := q_b1_e hf
      refine q_cVr (pc := 43) (As := [.int p1, .int p3]) (rest := [.int p1, .ref a_g]) (v0 := (some (.int v4))) ⟨hx, hb, hml, hown, hts⟩ hK hA hZ hP hD hS hl.1 [1, 2, 3, 4, 5] 6 rfl ⟨rfl, rfl, rfl⟩ (c_Grid_rowOfKey l D ci A sa N (Rw) a_g a_g_rowCuts a_g_columnCuts a_g_bandRows a_g_zoneColumns a_g_rows a_g_sheets g_bandRows g_zoneColumns g_rows g_sheets p1 p3 v4 hm43) 1 rfl rfl (cwV 2 hts gX10_wider_X2_rowOfKey rfl rfl rfl (by decide +kernel) ⟨Nat.le_of_ble_eq_true rfl, Nat.le_of_ble_eq_true rfl⟩) rfl rfl (Nat.le_of_ble_eq_true rfl) dX10_wider_43 ⟨Nat.zero_le _, Nat.zero_le _⟩ (fun locs hS => ?_)
      obtain ⟨v5, hm46, hf⟩ := q_b1_e hf
      refine q_cVr (pc := 46) (As := [.int p1, .int v4]) (rest := []) (v0 := (some (.int v5))) ⟨hx, hb, hml, hown, hts⟩ hK hA hZ hP hD hS hl.1 [1, 2, 3, 4] 6 rfl ⟨rfl, rfl, rfl⟩ (c_Grid_rowLength l D ci A sa N (Rw) a_g a_g_rowCuts a_g_columnCuts a_g_bandRows a_g_zoneColumns a_g_rows a_g_sheets g_bandRows g_zoneColumns g_rows p1 v4 v5 hm46) 1 rfl rfl (cwV 2 hts gX10_wider_X2_rowLength rfl rfl rfl (by decide +kernel) ⟨Nat.le_of_ble_eq_true rfl, Nat.le_of_ble_eq_true rfl⟩) rfl rfl (Nat.le_of_ble_eq_true rfl) dX10_wider_46 ⟨Nat.zero_le _, Nat.zero_le _⟩ (fun locs hS => ?_)
      refine lv_istore (pc := 49) (lv' := [(5, .int v5), (4, .int v3), (0, .ref a_x), (1, .int p1), (2, .int p2), (3, .int p3)]) hx hb dX10_wider_49 hl (by decide) rfl (fun ls hl => ?_)
      refine lv_iload (pc := 51) hx hb dX10_wider_51 (lv_at hl 0 rfl) ?_
      refine lv_iload (pc := 53) hx hb dX10_wider_53 (lv_at hl 1 rfl) ?_
      obtain ⟨v6, hm55, hf⟩ := q_b1_e hf
      refine q_cSr (pc := 55) (As := [.int v5, .int v3]) (rest := []) (v0 := (some (.int v6))) ⟨hx, hb, hml, hown, hts⟩ hK hA hZ hP hD hS hl.1 [] 6 rfl ⟨rfl, rfl, rfl⟩ (c_JInteger_compare_7cf53 l D ci A sa N (Rw) v5 v3 v6 hm55) (va_cwS 2 hts gX10_wider_J6_compare_7cf53 rfl rfl rfl (by decide +kernel) ⟨Nat.le_of_ble_eq_true rfl, Nat.le_of_ble_eq_true rfl⟩) rfl rfl (Nat.le_of_ble_eq_true rfl) dX10_wider_55 ⟨Nat.zero_le _, Nat.zero_le _⟩ (fun locs hS => ?_)
      obtain rfl := Option.some.inj hf
      rw [hQ]
      exact q_iretr (pc := 58) hx hb hr hlocks rfl hS dX10_wider_58
    · refine lv_ldc (pc := 10) (v := (-1000000)) hx hb hown w_1 dX10_wider_10 ?_
      obtain rfl := Option.some.inj hf
      rw [hQ]
      exact q_iretr (pc := 12) hx hb hr hlocks rfl hS dX10_wider_12
  exact hgo _ _ rfl hP hS
/-! X10_years -/
set_option maxRecDepth 100000 in
set_option maxHeartbeats 4000000 in
theorem c_X_years (l : Launch) (D : va_G) (ci : Nat → ClassId) (A : Nat → Prop) (sa : Nat → Nat) (N : Nat) (Rw : va_W) (a_x : Nat) (a_at : Nat) (a_g : Nat) (a_st : Nat) (a_x_kept : Nat) (a_tp : Nat) (a_rd : Nat) (a_qu : Nat) (a_sp : Nat) (a_wk : Nat) (a_bx : Nat) (a_nt : Nat) (a_nu : Nat) (a_x_seen : Nat) (a_st_levels : Nat) (a_st_keys : Nat) (a_st_years : Nat) (a_st_keysThere : Nat) (x_keptStates : Int32) (st_size : Int32) (st_shownBy : Int32) (st_deepestShown : Int32) (st_latestShown : Int32) (st_years : Nat → Int32) (p1 : Int32) (p2 : Int32) (p3 : Int32) (r : Int32) (hf : f_X_years N st_years st_size p1 p2 p3 = some r) : Met l yX10_years wsX10_years ({ frames := 1, cells := 0, slots := 0, locals := 40 }) (va_Pc [.ref a_x, .int p1, .int p2, .int p3] (q_N D ci A sa ((a_x, .inr (10, [.ref a_at, .ref a_g, .ref a_st, .ref a_x_kept, .int x_keptStates, .ref a_tp, .ref a_rd, .ref a_qu, .ref a_sp, .ref a_wk, .ref a_bx, .ref a_nt, .ref a_nu, .ref a_x_seen])) :: (a_st, .inr (7, [.ref a_g, .ref a_st_levels, .ref a_st_keys, .ref a_st_years, .ref a_st_keysThere, .int st_size, .int st_shownBy, .int st_deepestShown, .int st_latestShown])) :: (a_st_years, .inl (ci 0, 60, .inl st_years)) :: Rw))) (q_R (some (.int r))) 0 0 A := by
  refine q_ofW (cc := cX10_years) (maxL := 9) (ret := (some .int)) [.ref a_x, .int p1, .int p2, .int p3] (plainFor_of_name (by decide)) rfl (Nat.le_of_ble_eq_true rfl) ?_
  intro p e s m below meth c ls Q hQ hx hb hml hr hts hown hlocks hK hA hZ hP hD hS hl
  have hl : lv_has ls 9 [(0, .ref a_x), (1, .int p1), (2, .int p2), (3, .int p3)] := hl
  have hown : s.vm.findClass RX10 = some m.cls := hown
  have hinX10 : ∀ w ∈ wsX100, w ∈ wsX10_years := fun _ h => List.mem_cons_of_mem _ (inWX100 _ h)
  have hinX7 : ∀ w ∈ wsX70, w ∈ wsX10_years := fun _ h => List.mem_cons_of_mem _ (inWX70 _ h)
  have w_1 := hts (Cond.fieldLink RX10 25 "SheetNames" "pieces" "LSheetNames$Store;") (List.mem_cons_of_mem _ t_w892)
  have w_2 := hts (Cond.methodLink RX10 310 Lib.Math.min.name) (List.mem_cons_of_mem _ t_w879)
  have w_3 := hts (Cond.static Lib.Math.min.name) (List.mem_cons_of_mem _ t_w810)
  have w_4 := hts (Cond.initialized "java/lang/Math") (List.mem_cons_of_mem _ t_w76)
  have w_5 := hts (Cond.code Lib.Math.min.name Lib.Math.min.code 2 (some .int)) (List.mem_cons_of_mem _ t_w811)
  have w_6 := hts (Cond.methodLink RX10 313 Lib.Math.max.name) (List.mem_cons_of_mem _ t_w880)
  have w_7 := hts (Cond.static Lib.Math.max.name) (List.mem_cons_of_mem _ t_w813)
  have w_8 := hts (Cond.code Lib.Math.max.name Lib.Math.max.code 2 (some .int)) (List.mem_cons_of_mem _ t_w814)
  have wn_0 : (Cond.fieldLinkNest "SheetNames" 109 "SheetNames$Store" "size" "I" "SheetNames").before ([.ref a_x, .int p1, .int p2, .int p3] : List Value).toArray s = true := (hZ.2.2.2.2.2.2.2.2.2.1 _ (List.mem_of_getElem? (i := 0) rfl)).use rfl
  have wn_25 : (Cond.fieldLinkNest "SheetNames" 376 "SheetNames$Store" "years" "[I" "SheetNames").before ([.ref a_x, .int p1, .int p2, .int p3] : List Value).toArray s = true := (hZ.2.2.2.2.2.2.2.2.2.1 _ (List.mem_of_getElem? (i := 25) rfl)).use rfl
  unfold f_X_years at hf
  have hgo : ∀ (H : Heap) (locs : List Loc), H = s.heap → va_P D vwCl ((a_x, .inr (10, [.ref a_at, .ref a_g, .ref a_st, .ref a_x_kept, .int x_keptStates, .ref a_tp, .ref a_rd, .ref a_qu, .ref a_sp, .ref a_wk, .ref a_bx, .ref a_nt, .ref a_nu, .ref a_x_seen])) :: (a_st, .inr (7, [.ref a_g, .ref a_st_levels, .ref a_st_keys, .ref a_st_years, .ref a_st_keysThere, .int st_size, .int st_shownBy, .int st_deepestShown, .int st_latestShown])) :: (a_st_years, .inl (ci 0, 60, .inl st_years)) :: Rw) H → va_S A s.heap H locs → W p l e ({ frames := 1, cells := 0, slots := 0, locals := 40 } : Room) s m ([.ref a_x, .int p1, .int p2, .int p3] : List Value).toArray below meth c H locs 0 0 Q (F0 m 0 ls []) := by
    intro H locs hH hP hS
    subst hH
    refine lv_iload_n (pc := 0) hx hb dX10_years_0 rfl (lv_at hl 1 rfl) ?_
    refine lv_iconst (pc := 1) (v := 0) hx hb dX10_years_1 (by decide) ?_
    refine lv_sipush (pc := 2) (v := 2100) hx hb dX10_years_2 (by decide) ?_
    obtain ⟨v1, hm5, hf⟩ := q_b1_e hf
    refine q_cSr (pc := 5) (As := [.int p1, .int 0, .int 2100]) (rest := []) (v0 := (some (.int v1))) ⟨hx, hb, hml, hown, hts⟩ hK hA hZ hP hD hS hl.1 [] 3 rfl ⟨rfl, rfl, rfl⟩ (c_X_isFrom l D ci A sa N (Rw) p1 0 2100 v1 hm5) (va_cwS 3 hts gX10_years_X10_isFrom rfl rfl rfl (by decide +kernel) ⟨Nat.le_of_ble_eq_true rfl, Nat.le_of_ble_eq_true rfl⟩) rfl rfl (Nat.le_of_ble_eq_true rfl) dX10_years_5 ⟨Nat.zero_le _, Nat.zero_le _⟩ (fun locs hS => ?_)
    refine q_if_eq (pc := 8) (tgt := 31) hx hb dX10_years_8 (by decide) rfl hf (fun hf => ?_) (fun hf => ?_)
    · refine lv_iconst (pc := 31) (v := (-1)) hx hb dX10_years_31 (by decide) ?_
      obtain rfl := Option.some.inj hf
      rw [hQ]
      exact q_iretr (pc := 32) hx hb hr hlocks rfl hS dX10_years_32
    · refine lv_iload_n (pc := 11) hx hb dX10_years_11 rfl (lv_at hl 2 rfl) ?_
      refine lv_iconst (pc := 12) (v := 0) hx hb dX10_years_12 (by decide) ?_
      refine lv_sipush (pc := 13) (v := 2100) hx hb dX10_years_13 (by decide) ?_
      obtain ⟨v2, hm16, hf⟩ := q_b1_e hf
      refine q_cSr (pc := 16) (As := [.int p2, .int 0, .int 2100]) (rest := []) (v0 := (some (.int v2))) ⟨hx, hb, hml, hown, hts⟩ hK hA hZ hP hD hS hl.1 [] 3 rfl ⟨rfl, rfl, rfl⟩ (c_X_isFrom l D ci A sa N (Rw) p2 0 2100 v2 hm16) (va_cwS 3 hts gX10_years_X10_isFrom rfl rfl rfl (by decide +kernel) ⟨Nat.le_of_ble_eq_true rfl, Nat.le_of_ble_eq_true rfl⟩) rfl rfl (Nat.le_of_ble_eq_true rfl) dX10_years_16 ⟨Nat.zero_le _, Nat.zero_le _⟩ (fun locs hS => ?_)
      refine q_if_eq (pc := 19) (tgt := 31) hx hb dX10_years_19 (by decide) rfl hf (fun hf => ?_) (fun hf => ?_)
      · refine lv_iconst (pc := 31) (v := (-1)) hx hb dX10_years_31 (by decide) ?_
        obtain rfl := Option.some.inj hf
        rw [hQ]
        exact q_iretr (pc := 32) hx hb hr hlocks rfl hS dX10_years_32
      · refine lv_iload_n (pc := 22) hx hb dX10_years_22 rfl (lv_at hl 3 rfl) ?_
        refine lv_iconst (pc := 23) (v := 0) hx hb dX10_years_23 (by decide) ?_
        refine lv_iconst (pc := 24) (v := 2) hx hb dX10_years_24 (by decide) ?_
        obtain ⟨v3, hm25, hf⟩ := q_b1_e hf
        refine q_cSr (pc := 25) (As := [.int p3, .int 0, .int 2]) (rest := []) (v0 := (some (.int v3))) ⟨hx, hb, hml, hown, hts⟩ hK hA hZ hP hD hS hl.1 [] 3 rfl ⟨rfl, rfl, rfl⟩ (c_X_isFrom l D ci A sa N (Rw) p3 0 2 v3 hm25) (va_cwS 3 hts gX10_years_X10_isFrom rfl rfl rfl (by decide +kernel) ⟨Nat.le_of_ble_eq_true rfl, Nat.le_of_ble_eq_true rfl⟩) rfl rfl (Nat.le_of_ble_eq_true rfl) dX10_years_25 ⟨Nat.zero_le _, Nat.zero_le _⟩ (fun locs hS => ?_)
        refine q_if_ne (pc := 28) (tgt := 33) hx hb dX10_years_28 (by decide) rfl hf (fun hf => ?_) (fun hf => ?_)
        · refine lv_iconst (pc := 33) (v := 0) hx hb dX10_years_33 (by decide) ?_
          obtain ⟨v4, ev4, hf⟩ := q_nm_e hf
          refine q_topi ev4 ?_
          refine lv_istore (pc := 34) (lv' := [(4, .int v4), (0, .ref a_x), (1, .int p1), (2, .int p2), (3, .int p3)]) hx hb dX10_years_34 hl (by decide) rfl (fun ls hl => ?_)
          refine lv_sipush (pc := 36) (v := 2100) hx hb dX10_years_36 (by decide) ?_
          obtain ⟨v5, ev5, hf⟩ := q_nm_e hf
          refine q_topi ev5 ?_
          refine lv_istore (pc := 39) (lv' := [(5, .int v5), (4, .int v4), (0, .ref a_x), (1, .int p1), (2, .int p2), (3, .int p3)]) hx hb dX10_years_39 hl (by decide) rfl (fun ls hl => ?_)
          refine lv_iconst (pc := 41) (v := 0) hx hb dX10_years_41 (by decide) ?_
          obtain ⟨v6, ev6, hf⟩ := q_nm_e hf
          refine q_topi ev6 ?_
          refine lv_istore (pc := 42) (lv' := [(6, .int v6), (5, .int v5), (4, .int v4), (0, .ref a_x), (1, .int p1), (2, .int p2), (3, .int p3)]) hx hb dX10_years_42 hl (by decide) rfl (fun ls hl => ?_)
          refine lv_iconst (pc := 44) (v := 0) hx hb dX10_years_44 (by decide) ?_
          obtain ⟨v7, ev7, hf⟩ := q_nm_e hf
          refine q_topi ev7 ?_
          refine lv_istore (pc := 45) (lv' := [(7, .int v7), (6, .int v6), (5, .int v5), (4, .int v4), (0, .ref a_x), (1, .int p1), (2, .int p2), (3, .int p3)]) hx hb dX10_years_45 hl (by decide) rfl (fun ls hl => ?_)
          obtain ⟨v12, v13, v14, hm47, hf⟩ := q_b3_e hf
          have JE47 : ∀ (H : Heap) (locs : List Loc) (ls : Array Slot), H = s.heap → va_S A s.heap H locs → lv_has ls 9 [(3, .int p3), (4, .int v12), (5, .int v13), (6, .int v14)] → W p l e ({ frames := 1, cells := 0, slots := 0, locals := 40 } : Room) s m ([.ref a_x, .int p1, .int p2, .int p3] : List Value).toArray below meth c H locs 0 0 Q (F0 m 108 ls []) := by
            intro H locs ls hHs hS hl
            subst hHs
            refine lv_iload_n (pc := 108) hx hb dX10_years_108 rfl (lv_at hl 0 rfl) ?_
            refine q_if_ne (pc := 109) (tgt := 115) hx hb dX10_years_109 (by decide) rfl hf (fun hf => ?_) (fun hf => ?_)
            · refine lv_iload (pc := 115) hx hb dX10_years_115 (lv_at hl 1 rfl) ?_
              refine q_if_ne (pc := 117) (tgt := 123) hx hb dX10_years_117 (by decide) rfl hf (fun hf => ?_) (fun hf => ?_)
              · refine lv_iload_n (pc := 123) hx hb dX10_years_123 rfl (lv_at hl 0 rfl) ?_
                refine lv_iconst (pc := 124) (v := 1) hx hb dX10_years_124 (by decide) ?_
                refine q_icmp_ne (pc := 125) (tgt := 133) hx hb dX10_years_125 (by decide) rfl hf (fun hf => ?_) (fun hf => ?_)
                · refine lv_iload (pc := 133) hx hb dX10_years_133 (lv_at hl 3 rfl) ?_
                  obtain rfl := Option.some.inj hf
                  rw [hQ]
                  exact q_iretr (pc := 135) hx hb hr hlocks rfl hS dX10_years_135
                · refine lv_iload (pc := 128) hx hb dX10_years_128 (lv_at hl 2 rfl) ?_
                  refine lv_goto (pc := 130) (tgt := 135) hx hb dX10_years_130 (by decide) ?_
                  obtain rfl := Option.some.inj hf
                  rw [hQ]
                  exact q_iretr (pc := 135) hx hb hr hlocks rfl hS dX10_years_135
              · refine lv_bipush (pc := 120) (v := (-2)) hx hb dX10_years_120 (by decide) ?_
                obtain rfl := Option.some.inj hf
                rw [hQ]
                exact q_iretr (pc := 122) hx hb hr hlocks rfl hS dX10_years_122
            · refine lv_iload (pc := 112) hx hb dX10_years_112 (lv_at hl 1 rfl) ?_
              obtain rfl := Option.some.inj hf
              rw [hQ]
              exact q_iretr (pc := 114) hx hb hr hlocks rfl hS dX10_years_114
          have LP47 : ∀ (n47 : Nat) (v8 : Int32) (v9 : Int32) (v10 : Int32) (v11 : Int32) (H : Heap) (locs : List Loc) (ls : Array Slot), f_X_years_L47 p1 p2 st_size st_years n47 v8 v9 v10 v11 = some (v12, v13, v14) → H = s.heap → va_S A s.heap H locs → lv_has ls 9 [(0, .ref a_x), (1, .int p1), (2, .int p2), (3, .int p3), (4, .int v8), (5, .int v9), (6, .int v10), (7, .int v11)] → W p l e ({ frames := 1, cells := 0, slots := 0, locals := 40 } : Room) s m ([.ref a_x, .int p1, .int p2, .int p3] : List Value).toArray below meth c H locs 0 0 Q (F0 m 47 ls []) := by
            intro n47
            induction n47 with
            | zero => intro v8 v9 v10 v11 H locs ls hf; rw [f_X_years_L47] at hf; cases hf
            | succ n47 ih47 =>
              intro v8 v9 v10 v11 H locs ls hf hHs hS hl
              subst hHs
              rw [f_X_years_L47] at hf
              refine lv_iload (pc := 47) hx hb dX10_years_47 (lv_at hl 7 rfl) ?_
              refine lv_aload_n (pc := 49) hx hb dX10_years_49 rfl (lv_at hl 0 rfl) ?_
              refine va_get (pc := 50) (D := D) (ci := 10) (v := .ref a_st) (C := RX10) (T := TX10) (N := 14) hx hb hts hinX10 hown hK hP 0 rfl rfl 2 (by decide) w_1 (fun _ h9 => h9) rfl dX10_years_50 ?_
              refine va_getN (pc := 53) (D := D) (ci := 7) (v := .int st_size) (C := RX7) (T := TX7) (N := 9) hx hb hts hinX7 hown hK hP 1 rfl rfl 5 (by decide) wn_0 (fun _ h9 => h9) rfl dX10_years_53 ?_
              refine q_icmp_ge (pc := 56) (tgt := 108) hx hb dX10_years_56 (by decide) rfl hf (fun hf => ?_) (fun hf => ?_)
              · obtain ⟨rfl, rfl, rfl⟩ := q_inj3 (Option.some.inj hf)
                exact JE47 _ _ _ rfl hS (lv_sub hl [3, 4, 5, 6] rfl)
              · refine lv_aload_n (pc := 59) hx hb dX10_years_59 rfl (lv_at hl 0 rfl) ?_
                refine va_get (pc := 60) (D := D) (ci := 10) (v := .ref a_st) (C := RX10) (T := TX10) (N := 14) hx hb hts hinX10 hown hK hP 0 rfl rfl 2 (by decide) w_1 (fun _ h9 => h9) rfl dX10_years_60 ?_
                refine va_getN (pc := 63) (D := D) (ci := 7) (v := .ref a_st_years) (C := RX7) (T := TX7) (N := 9) hx hb hts hinX7 hown hK hP 1 rfl rfl 3 (by decide) wn_25 (fun _ h9 => h9) rfl dX10_years_63 ?_
                refine lv_iload (pc := 66) hx hb dX10_years_66 (lv_at hl 7 rfl) ?_
                refine q_iald (pc := 68) hx hb hK hP 2 0 hf rfl rfl dX10_years_68 (fun v15 hf => ?_)
                refine lv_istore (pc := 69) (lv' := [(8, .int v15), (0, .ref a_x), (1, .int p1), (2, .int p2), (3, .int p3), (4, .int v8), (5, .int v9), (6, .int v10), (7, .int v11)]) hx hb dX10_years_69 hl (by decide) rfl (fun ls hl => ?_)
                refine lv_iload (pc := 71) hx hb dX10_years_71 (lv_at hl 0 rfl) ?_
                refine lv_iload_n (pc := 73) hx hb dX10_years_73 rfl (lv_at hl 2 rfl) ?_
                refine lv_iload_n (pc := 74) hx hb dX10_years_74 rfl (lv_at hl 3 rfl) ?_
                obtain ⟨v16, hm75, hf⟩ := q_b1_e hf
                refine q_cSr (pc := 75) (As := [.int v15, .int p1, .int p2]) (rest := []) (v0 := (some (.int v16))) ⟨hx, hb, hml, hown, hts⟩ hK hA hZ hP hD hS hl.1 [] 3 rfl ⟨rfl, rfl, rfl⟩ (c_X_isFrom l D ci A sa N (Rw) v15 p1 p2 v16 hm75) (va_cwS 3 hts gX10_years_X10_isFrom rfl rfl rfl (by decide +kernel) ⟨Nat.le_of_ble_eq_true rfl, Nat.le_of_ble_eq_true rfl⟩) rfl rfl (Nat.le_of_ble_eq_true rfl) dX10_years_75 ⟨Nat.zero_le _, Nat.zero_le _⟩ (fun locs hS => ?_)
                obtain ⟨k102, ek102, hf⟩ := q_j3_e hf
                have J102 : ∀ (v17 : Int32) (v18 : Int32) (v19 : Int32) (H : Heap) (locs : List Loc) (ls : Array Slot), k102 v17 v18 v19 = some (v12, v13, v14) → H = s.heap → va_S A s.heap H locs → lv_has ls 9 [(0, .ref a_x), (1, .int p1), (2, .int p2), (3, .int p3), (4, .int v17), (5, .int v18), (6, .int v19), (7, .int v11)] → W p l e ({ frames := 1, cells := 0, slots := 0, locals := 40 } : Room) s m ([.ref a_x, .int p1, .int p2, .int p3] : List Value).toArray below meth c H locs 0 0 Q (F0 m 102 ls []) := by
                  intro v17 v18 v19 H locs ls hf hHs hS hl
                  subst hHs
                  have hf := (ek102 v17 v18 v19).symm.trans hf
                  obtain ⟨v20, ev20, hf⟩ := q_nm_e hf
                  refine lv_iinc (pc := 102) (v := v20) (lv' := [(7, .int v20), (0, .ref a_x), (1, .int p1), (2, .int p2), (3, .int p3), (4, .int v17), (5, .int v18), (6, .int v19)]) hx hb dX10_years_102 hl (k := 7) rfl (by rw [ev20]; rfl) (by decide) rfl (fun ls hl => ?_)
                  refine lv_goto (pc := 105) (tgt := 47) hx hb dX10_years_105 (by decide) ?_
                  exact ih47 v17 v18 v19 v20 _ _ _ hf rfl hS (lv_sub hl [1, 2, 3, 4, 5, 6, 7, 0] rfl)
                refine q_if_eq (pc := 78) (tgt := 102) hx hb dX10_years_78 (by decide) rfl hf (fun hf => ?_) (fun hf => ?_)
                · exact J102 v8 v9 v10 _ _ _ hf rfl hS (lv_sub hl [1, 2, 3, 4, 5, 6, 7, 8] rfl)
                · obtain ⟨v21, ev21, hf⟩ := q_nm_e hf
                  refine lv_iinc (pc := 81) (v := v21) (lv' := [(4, .int v21), (8, .int v15), (0, .ref a_x), (1, .int p1), (2, .int p2), (3, .int p3), (5, .int v9), (6, .int v10), (7, .int v11)]) hx hb dX10_years_81 hl (k := 5) rfl (by rw [ev21]; rfl) (by decide) rfl (fun ls hl => ?_)
                  refine lv_iload (pc := 84) hx hb dX10_years_84 (lv_at hl 6 rfl) ?_
                  refine lv_iload (pc := 86) hx hb dX10_years_86 (lv_at hl 1 rfl) ?_
                  obtain ⟨v22, ev22, hf⟩ := q_nm_e hf
                  refine va_mmin (pc := 88) hx hb (hml.trans hl.1.symm) hown w_2 w_3 w_4 w_5 (Nat.le_of_ble_eq_true rfl) (Nat.le_of_ble_eq_true rfl) (Nat.zero_le _) (Nat.zero_le _) dX10_years_88 ?_
                  refine q_topi ev22 ?_
                  refine lv_istore (pc := 91) (lv' := [(5, .int v22), (4, .int v21), (8, .int v15), (0, .ref a_x), (1, .int p1), (2, .int p2), (3, .int p3), (6, .int v10), (7, .int v11)]) hx hb dX10_years_91 hl (by decide) rfl (fun ls hl => ?_)
                  refine lv_iload (pc := 93) hx hb dX10_years_93 (lv_at hl 7 rfl) ?_
                  refine lv_iload (pc := 95) hx hb dX10_years_95 (lv_at hl 2 rfl) ?_
                  obtain ⟨v23, ev23, hf⟩ := q_nm_e hf
                  refine va_mmax (pc := 97) hx hb (hml.trans hl.1.symm) hown w_6 w_7 w_4 w_8 (Nat.le_of_ble_eq_true rfl) (Nat.le_of_ble_eq_true rfl) (Nat.zero_le _) (Nat.zero_le _) dX10_years_97 ?_
                  refine q_topi ev23 ?_
                  refine lv_istore (pc := 100) (lv' := [(6, .int v23), (5, .int v22), (4, .int v21), (8, .int v15), (0, .ref a_x), (1, .int p1), (2, .int p2), (3, .int p3), (7, .int v11)]) hx hb dX10_years_100 hl (by decide) rfl (fun ls hl => ?_)
                  exact J102 v21 v22 v23 _ _ _ hf rfl hS (lv_sub hl [4, 5, 6, 7, 2, 1, 0, 8] rfl)
          exact LP47 N v4 v5 v6 v7 _ _ _ hm47 rfl hS (lv_sub hl [4, 5, 6, 7, 3, 2, 1, 0] rfl)
        · refine lv_iconst (pc := 31) (v := (-1)) hx hb dX10_years_31 (by decide) ?_
          obtain rfl := Option.some.inj hf
          rw [hQ]
          exact q_iretr (pc := 32) hx hb hr hlocks rfl hS dX10_years_32
  exact hgo _ _ rfl hP hS
end
section
/-! X9_makeRoom!N -/
set_option maxRecDepth 100000 in
set_option maxHeartbeats 4000000 in
theorem c_Walk_makeRoomN (l : Launch) (D : va_G) (ci : Nat → ClassId) (A : Nat → Prop) (sa : Nat → Nat) (N : Nat) (Rw : va_W) (nL : Nat) (a_wk : Nat) (a_ws : Nat) (a_wk_steps : Nat) (a_wk_reached : Nat) (n_wk_steps : Nat) (n_wk_reached : Nat) (wk_many : Int32) (wk_steps : Nat → Int32) (wk_reached : Nat → Int32) (p1 : Int32) (o1 : Nat → Int32) (o2 : Nat → Int32) (o3 : Int32) (hf : f_Walk_makeRoomN N nL n_wk_steps wk_steps wk_reached wk_many p1 = some (o1, o2, o3)) : Met l yX9_makeRoom wsX9_makeRoom ({ frames := 0, cells := 2, slots := (nL + nL), locals := 0 }) (va_Pc [.ref a_wk, .int p1] (q_N D ci A sa ((a_wk, .inr (9, [.ref a_ws, .ref a_wk_steps, .ref a_wk_reached, .int wk_many])) :: (a_wk_steps, .inl (ci 0, n_wk_steps, .inl wk_steps)) :: (a_wk_reached, .inl (ci 0, n_wk_reached, .inl wk_reached)) :: Rw))) (q_Q none (fun t => ∃ b1 b2 : Nat, q_O D A ((a_wk, .inr (9, [.ref a_ws, .ref b1, .ref b2, .int o3])) :: (b1, .inl (ci 0, nL, .inl o1)) :: (b2, .inl (ci 0, nL, .inl o2)) :: Rw) t) A) 2 (nL + nL) A := by
  refine q_ofW (cc := cX9_makeRoom) (maxL := 3) (ret := none) [.ref a_wk, .int p1] (plainFor_of_name (by decide)) rfl (Nat.le_of_ble_eq_true rfl) ?_
  intro p e s m below meth c ls Q hQ hx hb hml hr hts hown hlocks hK hA hZ hP hD hS hl
  have hl : lv_has ls 3 [(0, .ref a_wk), (1, .int p1)] := hl
  have hown : s.vm.findClass RX9 = some m.cls := hown
  have hinX9 : ∀ w ∈ wsX90, w ∈ wsX9_makeRoom := fun _ h => List.mem_cons_of_mem _ (inWX90 _ h)
  have w_1 := hts (Cond.fieldLink RX9 18 "SheetNames$Walk" "many" "I") (List.mem_cons_of_mem _ t_w823)
  have w_2 := hts (Cond.fieldLink RX9 9 "SheetNames$Walk" "steps" "[I") (List.mem_cons_of_mem _ t_w824)
  have w_3 := hts (Cond.arrayClass .int) (List.mem_cons_of_mem _ t_w907)
  have w_4 := hts (Cond.fieldLink RX9 15 "SheetNames$Walk" "reached" "[I") (List.mem_cons_of_mem _ t_w826)
  unfold f_Walk_makeRoomN at hf
  have hgo : ∀ (H : Heap) (locs : List Loc), H = s.heap → va_P D vwCl ((a_wk, .inr (9, [.ref a_ws, .ref a_wk_steps, .ref a_wk_reached, .int wk_many])) :: (a_wk_steps, .inl (ci 0, n_wk_steps, .inl wk_steps)) :: (a_wk_reached, .inl (ci 0, n_wk_reached, .inl wk_reached)) :: Rw) H → va_S A s.heap H locs → W p l e ({ frames := 0, cells := 2, slots := (nL + nL), locals := 0 } : Room) s m ([.ref a_wk, .int p1] : List Value).toArray below meth c H locs 0 0 Q (F0 m 0 ls []) := by
    intro H locs hH hP hS
    refine lv_aload_n (pc := 0) hx hb dX9_makeRoom_0 rfl (lv_at hl 0 rfl) ?_
    refine lv_iload_n (pc := 1) hx hb dX9_makeRoom_1 rfl (lv_at hl 1 rfl) ?_
    refine va_put (pc := 2) (D := D) (ci := 9) (v := .int p1) (ty := .int) (C := RX9) (T := TX9) (N := 4) hx hb hts hinX9 tyX9 tyX9_ok nmX9 hown hK hP hD hS 0 rfl rfl 3 (by decide) w_1 (fun _ h9 => h9) rfl (by decide +kernel) rfl rfl (Nat.le_of_ble_eq_true rfl) dX9_makeRoom_2 (fun H locs hP hD hS => ?_)
    obtain ⟨hP, hD⟩ : va_PD D A ((a_wk, .inr (9, [.ref a_ws, .ref a_wk_steps, .ref a_wk_reached, .int p1])) :: (a_wk_steps, .inl (ci 0, n_wk_steps, .inl wk_steps)) :: (a_wk_reached, .inl (ci 0, n_wk_reached, .inl wk_reached)) :: Rw) H := ⟨hP, hD⟩
    refine lv_aload_n (pc := 5) hx hb dX9_makeRoom_5 rfl (lv_at hl 0 rfl) ?_
    refine va_get (pc := 6) (D := D) (ci := 9) (v := .ref a_wk_steps) (C := RX9) (T := TX9) (N := 4) hx hb hts hinX9 hown hK hP 0 rfl rfl 1 (by decide) w_2 (fun _ h9 => h9) rfl dX9_makeRoom_6 ?_
    refine va_alen (pc := 9) (v := (nI n_wk_steps)) hx hb hK hP 1 0 rfl rfl rfl dX9_makeRoom_9 ?_
    refine lv_iload_n (pc := 10) hx hb dX9_makeRoom_10 rfl (lv_at hl 1 rfl) ?_
    refine q_icmp_ge (pc := 11) (tgt := 28) hx hb dX9_makeRoom_11 (by decide) rfl hf (fun hf => ?_) (fun hf => ?_)
    · cases hf
    · refine lv_aload_n (pc := 14) hx hb dX9_makeRoom_14 rfl (lv_at hl 0 rfl) ?_
      refine lv_iload_n (pc := 15) hx hb dX9_makeRoom_15 rfl (lv_at hl 1 rfl) ?_
      refine q_newi (pc := 16) (L := nL) hx hb w_3 hK hA hP hD hS hf (by simp only []; omega) (by simp only []; omega) dX9_makeRoom_16 (fun q16 H hf hP hD hS => ?_)
      refine va_put (pc := 18) (D := D) (ci := 9) (v := .ref q16) (ty := .array .int) (C := RX9) (T := TX9) (N := 4) hx hb hts hinX9 tyX9 tyX9_ok nmX9 hown hK hP hD hS 1 rfl rfl 1 (by decide) w_2 (fun _ h9 => h9) rfl (by decide +kernel) rfl rfl (Nat.le_of_ble_eq_true rfl) dX9_makeRoom_18 (fun H locs hP hD hS => ?_)
      have hP : va_P D vwCl ((a_wk, .inr (9, [.ref a_ws, .ref q16, .ref a_wk_reached, .int p1])) :: (q16, .inl (ci 0, nL, .inl (fun _ => 0))) :: (a_wk_reached, .inl (ci 0, n_wk_reached, .inl wk_reached)) :: Rw) H := q_pk_P (n := 4) (is := [1, 0, 3]) hP rfl
      have hD : va_D A ((a_wk, .inr (9, [.ref a_ws, .ref q16, .ref a_wk_reached, .int p1])) :: (q16, .inl (ci 0, nL, .inl (fun _ => 0))) :: (a_wk_reached, .inl (ci 0, n_wk_reached, .inl wk_reached)) :: Rw) := q_pk_D (n := 4) (is := [1, 0, 3]) hD rfl ⟨rfl, rfl, rfl⟩
      refine lv_aload_n (pc := 21) hx hb dX9_makeRoom_21 rfl (lv_at hl 0 rfl) ?_
      refine lv_iload_n (pc := 22) hx hb dX9_makeRoom_22 rfl (lv_at hl 1 rfl) ?_
      refine q_newi (pc := 23) (L := nL) hx hb w_3 hK hA hP hD hS hf (by simp only []; omega) (by simp only []; omega) dX9_makeRoom_23 (fun q23 H hf hP hD hS => ?_)
      refine va_put (pc := 25) (D := D) (ci := 9) (v := .ref q23) (ty := .array .int) (C := RX9) (T := TX9) (N := 4) hx hb hts hinX9 tyX9 tyX9_ok nmX9 hown hK hP hD hS 1 rfl rfl 2 (by decide) w_4 (fun _ h9 => h9) rfl (by decide +kernel) rfl rfl (Nat.le_of_ble_eq_true rfl) dX9_makeRoom_25 (fun H locs hP hD hS => ?_)
      have hP : va_P D vwCl ((a_wk, .inr (9, [.ref a_ws, .ref q16, .ref q23, .int p1])) :: (q16, .inl (ci 0, nL, .inl (fun _ => 0))) :: (q23, .inl (ci 0, nL, .inl (fun _ => 0))) :: Rw) H := q_pk_P (n := 4) (is := [1, 2, 0]) hP rfl
      have hD : va_D A ((a_wk, .inr (9, [.ref a_ws, .ref q16, .ref q23, .int p1])) :: (q16, .inl (ci 0, nL, .inl (fun _ => 0))) :: (q23, .inl (ci 0, nL, .inl (fun _ => 0))) :: Rw) := q_pk_D (n := 4) (is := [1, 2, 0]) hD rfl ⟨rfl, rfl, rfl⟩
      refine W.widen (k := 2) (n := nL + nL) (by omega) (by omega) ?_
      refine lv_iconst (pc := 28) (v := 0) hx hb dX9_makeRoom_28 (by decide) ?_
      obtain ⟨v1, ev1, hf⟩ := q_nm_e hf
      refine q_topi ev1 ?_
      refine lv_istore_n (pc := 29) (lv' := [(2, .int v1), (0, .ref a_wk), (1, .int p1)]) hx hb dX9_makeRoom_29 rfl hl (by decide) rfl (fun ls hl => ?_)
      obtain ⟨f4, hm30, hf⟩ := q_b1_e hf
      have JE30 : ∀ (H : Heap) (locs : List Loc) (ls : Array Slot), va_P D vwCl ((a_wk, .inr (9, [.ref a_ws, .ref q16, .ref q23, .int p1])) :: (q16, .inl (ci 0, nL, .inl f4)) :: (q23, .inl (ci 0, nL, .inl (fun _ => 0))) :: Rw) H → va_D A ((a_wk, .inr (9, [.ref a_ws, .ref q16, .ref q23, .int p1])) :: (q16, .inl (ci 0, nL, .inl f4)) :: (q23, .inl (ci 0, nL, .inl (fun _ => 0))) :: Rw) → va_S A s.heap H locs → lv_has ls 3 [] → W p l e ({ frames := 0, cells := 2, slots := (nL + nL), locals := 0 } : Room) s m ([.ref a_wk, .int p1] : List Value).toArray below meth c H locs 2 (nL + nL) Q (F0 m 48 ls []) := by
        intro H locs ls hP hD hS hl
        obtain ⟨rfl, rfl, rfl⟩ := q_inj3 (Option.some.inj hf)
        rw [hQ]
        exact q_vretx (pc := 48) hx hb hr hlocks (fun t ht => ⟨_, _, by rw [ht]; exact hP, hD⟩) hS dX9_makeRoom_48
      have LP30 : ∀ (n30 : Nat) (v2 : Int32) (f3 : Nat → Int32) (H : Heap) (locs : List Loc) (ls : Array Slot), f_Walk_makeRoomN_L30 nL p1 n30 v2 f3 = some f4 → va_P D vwCl ((a_wk, .inr (9, [.ref a_ws, .ref q16, .ref q23, .int p1])) :: (q16, .inl (ci 0, nL, .inl f3)) :: (q23, .inl (ci 0, nL, .inl (fun _ => 0))) :: Rw) H → va_D A ((a_wk, .inr (9, [.ref a_ws, .ref q16, .ref q23, .int p1])) :: (q16, .inl (ci 0, nL, .inl f3)) :: (q23, .inl (ci 0, nL, .inl (fun _ => 0))) :: Rw) → va_S A s.heap H locs → lv_has ls 3 [(0, .ref a_wk), (1, .int p1), (2, .int v2)] → W p l e ({ frames := 0, cells := 2, slots := (nL + nL), locals := 0 } : Room) s m ([.ref a_wk, .int p1] : List Value).toArray below meth c H locs 2 (nL + nL) Q (F0 m 30 ls []) := by
        intro n30
        induction n30 with
        | zero => intro v2 f3 H locs ls hf; rw [f_Walk_makeRoomN_L30] at hf; cases hf
        | succ n30 ih30 =>
          intro v2 f3 H locs ls hf hP hD hS hl
          rw [f_Walk_makeRoomN_L30] at hf
          refine lv_iload_n (pc := 30) hx hb dX9_makeRoom_30 rfl (lv_at hl 2 rfl) ?_
          refine lv_iload_n (pc := 31) hx hb dX9_makeRoom_31 rfl (lv_at hl 1 rfl) ?_
          refine q_icmp_ge (pc := 32) (tgt := 48) hx hb dX9_makeRoom_32 (by decide) rfl hf (fun hf => ?_) (fun hf => ?_)
          · obtain rfl := Option.some.inj hf
            exact JE30 _ _ _ hP hD hS (lv_sub hl [] rfl)
          · refine lv_aload_n (pc := 35) hx hb dX9_makeRoom_35 rfl (lv_at hl 0 rfl) ?_
            refine va_get (pc := 36) (D := D) (ci := 9) (v := .ref q16) (C := RX9) (T := TX9) (N := 4) hx hb hts hinX9 hown hK hP 0 rfl rfl 1 (by decide) w_2 (fun _ h9 => h9) rfl dX9_makeRoom_36 ?_
            refine lv_iload_n (pc := 39) hx hb dX9_makeRoom_39 rfl (lv_at hl 2 rfl) ?_
            refine lv_iconst (pc := 40) (v := (-1)) hx hb dX9_makeRoom_40 (by decide) ?_
            refine q_iast (pc := 41) hx hb hK hP hD hS 1 0 hf rfl rfl dX9_makeRoom_41 (fun f5 H locs hf hP hD hS => ?_)
            obtain ⟨hP, hD⟩ : va_PD D A ((a_wk, .inr (9, [.ref a_ws, .ref q16, .ref q23, .int p1])) :: (q16, .inl (ci 0, nL, .inl f5)) :: (q23, .inl (ci 0, nL, .inl (fun _ => 0))) :: Rw) H := ⟨hP, hD⟩
            obtain ⟨v6, ev6, hf⟩ := q_nm_e hf
            refine lv_iinc (pc := 42) (v := v6) (lv' := [(2, .int v6), (0, .ref a_wk), (1, .int p1)]) hx hb dX9_makeRoom_42 hl (k := 2) rfl (by rw [ev6]; rfl) (by decide) rfl (fun ls hl => ?_)
            refine lv_goto (pc := 45) (tgt := 30) hx hb dX9_makeRoom_45 (by decide) ?_
            exact ih30 v6 f5 _ _ _ hf hP hD hS (lv_sub hl [1, 2, 0] rfl)
      exact LP30 N v1 (fun _ => 0) _ _ _ hm30 hP hD hS (lv_sub hl [1, 2, 0] rfl)
  exact hgo _ _ rfl hP hS
/-! X9_spread!N -/
set_option maxRecDepth 100000 in
set_option maxHeartbeats 4000000 in
theorem c_Walk_spreadN (l : Launch) (D : va_G) (ci : Nat → ClassId) (A : Nat → Prop) (sa : Nat → Nat) (N : Nat) (Rw : va_W) (nL : Nat) (a_wk : Nat) (a_ws : Nat) (a_wk_steps : Nat) (a_wk_reached : Nat) (n_wk_steps : Nat) (n_wk_reached : Nat) (a_g : Nat) (a_ws_first : Nat) (a_ws_many : Nat) (a_ws_corner : Nat) (a_g_rowCuts : Nat) (a_g_columnCuts : Nat) (a_g_bandRows : Nat) (a_g_zoneColumns : Nat) (a_g_rows : Nat) (a_g_sheets : Nat) (wk_many : Int32) (wk_steps : Nat → Int32) (wk_reached : Nat → Int32) (ws_cornerCount : Int32) (ws_level : Int32) (ws_row : Int32) (ws_start : Int32) (ws_place : Int32) (ws_length : Int32) (ws_cap : Int32) (ws_first : Nat → Int32) (ws_many : Nat → Int32) (g_bandRows : Nat → Int32) (g_zoneColumns : Nat → Int32) (g_rows : Nat → Int32) (g_sheets : Nat → Int32) (p1 : Int32) (p2 : Int32) (o1 : Nat → Int32) (o2 : Nat → Int32) (o3 : Int32) (o4 : Nat → Int32) (o5 : Nat → Int32) (o6 : Int32) (o7 : Int32) (o8 : Int32) (o9 : Int32) (o10 : Int32) (o11 : Int32) (hf : f_Walk_spreadN N nL n_wk_steps wk_steps wk_reached wk_many ws_first ws_many ws_level ws_row ws_start ws_place ws_length ws_cap g_bandRows g_zoneColumns g_rows g_sheets p1 p2 = some (o1, o2, o3, o4, o5, o6, o7, o8, o9, o10, o11)) : Met l yX9_spread wsX9_spread ({ frames := 3, cells := 2, slots := (nL + nL), locals := 88 }) (va_Pc [.ref a_wk, .int p1, .int p2] (q_N D ci A sa ((a_wk, .inr (9, [.ref a_ws, .ref a_wk_steps, .ref a_wk_reached, .int wk_many])) :: (a_wk_steps, .inl (ci 0, n_wk_steps, .inl wk_steps)) :: (a_wk_reached, .inl (ci 0, n_wk_reached, .inl wk_reached)) :: (a_ws, .inr (6, [.ref a_g, .ref a_ws_first, .ref a_ws_many, .ref a_ws_corner, .int ws_cornerCount, .int ws_level, .int ws_row, .int ws_start, .int ws_place, .int ws_length, .int ws_cap])) :: (a_ws_first, .inl (ci 0, 4, .inl ws_first)) :: (a_ws_many, .inl (ci 0, 4, .inl ws_many)) :: (a_g, .inr (2, [.ref a_g_rowCuts, .ref a_g_columnCuts, .ref a_g_bandRows, .ref a_g_zoneColumns, .ref a_g_rows, .ref a_g_sheets])) :: (a_g_bandRows, .inl (ci 0, 5, .inl g_bandRows)) :: (a_g_zoneColumns, .inl (ci 0, 5, .inl g_zoneColumns)) :: (a_g_rows, .inl (ci 0, 5, .inl g_rows)) :: (a_g_sheets, .inl (ci 0, 5, .inl g_sheets)) :: Rw))) (q_Q none (fun t => ∃ b1 b2 : Nat, q_O D A ((a_wk, .inr (9, [.ref a_ws, .ref b1, .ref b2, .int o3])) :: (b1, .inl (ci 0, nL, .inl o1)) :: (b2, .inl (ci 0, nL, .inl o2)) :: (a_ws, .inr (6, [.ref a_g, .ref a_ws_first, .ref a_ws_many, .ref a_ws_corner, .int ws_cornerCount, .int o6, .int o7, .int o8, .int o9, .int o10, .int o11])) :: (a_ws_first, .inl (ci 0, 4, .inl o4)) :: (a_ws_many, .inl (ci 0, 4, .inl o5)) :: (a_g, .inr (2, [.ref a_g_rowCuts, .ref a_g_columnCuts, .ref a_g_bandRows, .ref a_g_zoneColumns, .ref a_g_rows, .ref a_g_sheets])) :: (a_g_bandRows, .inl (ci 0, 5, .inl g_bandRows)) :: (a_g_zoneColumns, .inl (ci 0, 5, .inl g_zoneColumns)) :: (a_g_rows, .inl (ci 0, 5, .inl g_rows)) :: (a_g_sheets, .inl (ci 0, 5, .inl g_sheets)) :: Rw) t) A) 2 (nL + nL) A := by
  refine q_ofW (cc := cX9_spread) (maxL := 5) (ret := none) [.ref a_wk, .int p1, .int p2] (plainFor_of_name (by decide)) rfl (Nat.le_of_ble_eq_true rfl) ?_
  intro p e s m below meth c ls Q hQ hx hb hml hr hts hown hlocks hK hA hZ hP hD hS hl
  have hl : lv_has ls 5 [(0, .ref a_wk), (1, .int p1), (2, .int p2)] := hl
  have hown : s.vm.findClass RX9 = some m.cls := hown
  have hinX2 : ∀ w ∈ wsX20, w ∈ wsX9_spread := fun _ h => List.mem_cons_of_mem _ (inWX20 _ h)
  have hinX6 : ∀ w ∈ wsX60, w ∈ wsX9_spread := fun _ h => List.mem_cons_of_mem _ (inWX60 _ h)
  have hinX9 : ∀ w ∈ wsX90, w ∈ wsX9_spread := fun _ h => List.mem_cons_of_mem _ (inWX90 _ h)
  have w_1 := hts (Cond.fieldLink RX9 27 "SheetNames$Walk" "spot" "LSheetNames$Spot;") (List.mem_cons_of_mem _ t_w825)
  have w_2 := hts (Cond.fieldLink RX9 15 "SheetNames$Walk" "reached" "[I") (List.mem_cons_of_mem _ t_w826)
  have w_3 := hts (Cond.fieldLink RX9 9 "SheetNames$Walk" "steps" "[I") (List.mem_cons_of_mem _ t_w824)
  have w_4 := hts (Cond.fieldLink RX9 18 "SheetNames$Walk" "many" "I") (List.mem_cons_of_mem _ t_w823)
  have wn_61 : (Cond.fieldLinkNest "SheetNames$Walk" 31 "SheetNames$Spot" "grid" "LSheetNames$Grid;" "SheetNames").before ([.ref a_wk, .int p1, .int p2] : List Value).toArray s = true := (hZ.2.2.2.2.2.2.2.2.2.1 _ (List.mem_of_getElem? (i := 61) rfl)).use rfl
  have wn_62 : (Cond.fieldLinkNest "SheetNames$Walk" 35 "SheetNames$Grid" "sheets" "[I" "SheetNames").before ([.ref a_wk, .int p1, .int p2] : List Value).toArray s = true := (hZ.2.2.2.2.2.2.2.2.2.1 _ (List.mem_of_getElem? (i := 62) rfl)).use rfl
  unfold f_Walk_spreadN at hf
  have hgo : ∀ (H : Heap) (locs : List Loc), H = s.heap → va_P D vwCl ((a_wk, .inr (9, [.ref a_ws, .ref a_wk_steps, .ref a_wk_reached, .int wk_many])) :: (a_wk_steps, .inl (ci 0, n_wk_steps, .inl wk_steps)) :: (a_wk_reached, .inl (ci 0, n_wk_reached, .inl wk_reached)) :: (a_ws, .inr (6, [.ref a_g, .ref a_ws_first, .ref a_ws_many, .ref a_ws_corner, .int ws_cornerCount, .int ws_level, .int ws_row, .int ws_start, .int ws_place, .int ws_length, .int ws_cap])) :: (a_ws_first, .inl (ci 0, 4, .inl ws_first)) :: (a_ws_many, .inl (ci 0, 4, .inl ws_many)) :: (a_g, .inr (2, [.ref a_g_rowCuts, .ref a_g_columnCuts, .ref a_g_bandRows, .ref a_g_zoneColumns, .ref a_g_rows, .ref a_g_sheets])) :: (a_g_bandRows, .inl (ci 0, 5, .inl g_bandRows)) :: (a_g_zoneColumns, .inl (ci 0, 5, .inl g_zoneColumns)) :: (a_g_rows, .inl (ci 0, 5, .inl g_rows)) :: (a_g_sheets, .inl (ci 0, 5, .inl g_sheets)) :: Rw) H → va_S A s.heap H locs → W p l e ({ frames := 3, cells := 2, slots := (nL + nL), locals := 88 } : Room) s m ([.ref a_wk, .int p1, .int p2] : List Value).toArray below meth c H locs 0 0 Q (F0 m 0 ls []) := by
    intro H locs hH hP hS
    refine lv_aload_n (pc := 0) hx hb dX9_spread_0 rfl (lv_at hl 0 rfl) ?_
    refine lv_aload_n (pc := 1) hx hb dX9_spread_1 rfl (lv_at hl 0 rfl) ?_
    refine va_get (pc := 2) (D := D) (ci := 9) (v := .ref a_ws) (C := RX9) (T := TX9) (N := 4) hx hb hts hinX9 hown hK hP 0 rfl rfl 0 (by decide) w_1 (fun _ h9 => h9) rfl dX9_spread_2 ?_
    refine va_getN (pc := 5) (D := D) (ci := 6) (v := .ref a_g) (C := RX6) (T := TX6) (N := 11) hx hb hts hinX6 hown hK hP 3 rfl rfl 0 (by decide) wn_61 (fun _ h9 => h9) rfl dX9_spread_5 ?_
    refine va_getN (pc := 8) (D := D) (ci := 2) (v := .ref a_g_sheets) (C := RX2) (T := TX2) (N := 6) hx hb hts hinX2 hown hK hP 6 rfl rfl 5 (by decide) wn_62 (fun _ h9 => h9) rfl dX9_spread_8 ?_
    refine lv_iload_n (pc := 11) hx hb dX9_spread_11 rfl (lv_at hl 1 rfl) ?_
    refine q_iald (pc := 12) hx hb hK hP 10 0 hf rfl rfl dX9_spread_12 (fun v1 hf => ?_)
    obtain ⟨f2, f3, v4, hm13, hf⟩ := q_b3_e hf
    refine q_cVx (W2x := fun b1 b2 => (a_wk, .inr (9, [.ref a_ws, .ref b1, .ref b2, .int v4])) :: (b1, .inl (ci 0, nL, .inl f2)) :: (b2, .inl (ci 0, nL, .inl f3)) :: (a_ws, .inr (6, [.ref a_g, .ref a_ws_first, .ref a_ws_many, .ref a_ws_corner, .int ws_cornerCount, .int ws_level, .int ws_row, .int ws_start, .int ws_place, .int ws_length, .int ws_cap])) :: (a_ws_first, .inl (ci 0, 4, .inl ws_first)) :: (a_ws_many, .inl (ci 0, 4, .inl ws_many)) :: (a_g, .inr (2, [.ref a_g_rowCuts, .ref a_g_columnCuts, .ref a_g_bandRows, .ref a_g_zoneColumns, .ref a_g_rows, .ref a_g_sheets])) :: (a_g_bandRows, .inl (ci 0, 5, .inl g_bandRows)) :: (a_g_zoneColumns, .inl (ci 0, 5, .inl g_zoneColumns)) :: (a_g_rows, .inl (ci 0, 5, .inl g_rows)) :: (a_g_sheets, .inl (ci 0, 5, .inl g_sheets)) :: Rw) (W3x := fun b1 b2 => (a_wk, .inr (9, [.ref a_ws, .ref b1, .ref b2, .int v4])) :: (b1, .inl (ci 0, nL, .inl f2)) :: (b2, .inl (ci 0, nL, .inl f3)) :: (a_ws, .inr (6, [.ref a_g, .ref a_ws_first, .ref a_ws_many, .ref a_ws_corner, .int ws_cornerCount, .int ws_level, .int ws_row, .int ws_start, .int ws_place, .int ws_length, .int ws_cap])) :: (a_ws_first, .inl (ci 0, 4, .inl ws_first)) :: (a_ws_many, .inl (ci 0, 4, .inl ws_many)) :: (a_g, .inr (2, [.ref a_g_rowCuts, .ref a_g_columnCuts, .ref a_g_bandRows, .ref a_g_zoneColumns, .ref a_g_rows, .ref a_g_sheets])) :: (a_g_bandRows, .inl (ci 0, 5, .inl g_bandRows)) :: (a_g_zoneColumns, .inl (ci 0, 5, .inl g_zoneColumns)) :: (a_g_rows, .inl (ci 0, 5, .inl g_rows)) :: (a_g_sheets, .inl (ci 0, 5, .inl g_sheets)) :: Rw) (pc := 13) (As := [.int v1]) (rest := []) (v0 := none) ⟨hx, hb, hml, hown, hts⟩ hK hA hZ hP hD hS hl.1 [0, 1, 2, 3, 4, 5, 6, 7, 8, 9, 10] 11 rfl ⟨rfl, rfl, rfl⟩ (c_Walk_makeRoomN l D ci A sa N ((a_ws, .inr (6, [.ref a_g, .ref a_ws_first, .ref a_ws_many, .ref a_ws_corner, .int ws_cornerCount, .int ws_level, .int ws_row, .int ws_start, .int ws_place, .int ws_length, .int ws_cap])) :: (a_ws_first, .inl (ci 0, 4, .inl ws_first)) :: (a_ws_many, .inl (ci 0, 4, .inl ws_many)) :: (a_g, .inr (2, [.ref a_g_rowCuts, .ref a_g_columnCuts, .ref a_g_bandRows, .ref a_g_zoneColumns, .ref a_g_rows, .ref a_g_sheets])) :: (a_g_bandRows, .inl (ci 0, 5, .inl g_bandRows)) :: (a_g_zoneColumns, .inl (ci 0, 5, .inl g_zoneColumns)) :: (a_g_rows, .inl (ci 0, 5, .inl g_rows)) :: (a_g_sheets, .inl (ci 0, 5, .inl g_sheets)) :: Rw) nL a_wk a_ws a_wk_steps a_wk_reached n_wk_steps n_wk_reached wk_many wk_steps wk_reached v1 f2 f3 v4 hm13) 0 rfl rfl (cwV 1 hts gX9_spread_X9_makeRoom rfl rfl rfl (by decide +kernel) ⟨Nat.le_of_ble_eq_true rfl, Nat.le_of_ble_eq_true rfl⟩) rfl rfl (Nat.le_of_ble_eq_true rfl) dX9_spread_13 ⟨Nat.le_of_eq (Nat.zero_add _), Nat.le_of_eq (Nat.zero_add _)⟩ [0, 1, 2, 3, 4, 5, 6, 7, 8, 9, 10] 11 (fun _ _ => rfl) (fun _ _ => ⟨rfl, rfl, rfl⟩) (fun b1_13 b2_13 H locs hP hD hS => ?_)
    obtain ⟨hP, hD⟩ : va_PD D A ((a_wk, .inr (9, [.ref a_ws, .ref b1_13, .ref b2_13, .int v4])) :: (b1_13, .inl (ci 0, nL, .inl f2)) :: (b2_13, .inl (ci 0, nL, .inl f3)) :: (a_ws, .inr (6, [.ref a_g, .ref a_ws_first, .ref a_ws_many, .ref a_ws_corner, .int ws_cornerCount, .int ws_level, .int ws_row, .int ws_start, .int ws_place, .int ws_length, .int ws_cap])) :: (a_ws_first, .inl (ci 0, 4, .inl ws_first)) :: (a_ws_many, .inl (ci 0, 4, .inl ws_many)) :: (a_g, .inr (2, [.ref a_g_rowCuts, .ref a_g_columnCuts, .ref a_g_bandRows, .ref a_g_zoneColumns, .ref a_g_rows, .ref a_g_sheets])) :: (a_g_bandRows, .inl (ci 0, 5, .inl g_bandRows)) :: (a_g_zoneColumns, .inl (ci 0, 5, .inl g_zoneColumns)) :: (a_g_rows, .inl (ci 0, 5, .inl g_rows)) :: (a_g_sheets, .inl (ci 0, 5, .inl g_sheets)) :: Rw) H := ⟨hP, hD⟩
    refine W.widen (k := 2) (n := nL + nL) (by omega) (by omega) ?_
    refine lv_aload_n (pc := 16) hx hb dX9_spread_16 rfl (lv_at hl 0 rfl) ?_
    refine va_get (pc := 17) (D := D) (ci := 9) (v := .ref b2_13) (C := RX9) (T := TX9) (N := 4) hx hb hts hinX9 hown hK hP 0 rfl rfl 2 (by decide) w_2 (fun _ h9 => h9) rfl dX9_spread_17 ?_
    refine lv_iconst (pc := 20) (v := 0) hx hb dX9_spread_20 (by decide) ?_
    refine lv_iload_n (pc := 21) hx hb dX9_spread_21 rfl (lv_at hl 2 rfl) ?_
    refine q_iast (pc := 22) hx hb hK hP hD hS 2 0 hf rfl rfl dX9_spread_22 (fun f5 H locs hf hP hD hS => ?_)
    obtain ⟨hP, hD⟩ : va_PD D A ((a_wk, .inr (9, [.ref a_ws, .ref b1_13, .ref b2_13, .int v4])) :: (b1_13, .inl (ci 0, nL, .inl f2)) :: (b2_13, .inl (ci 0, nL, .inl f5)) :: (a_ws, .inr (6, [.ref a_g, .ref a_ws_first, .ref a_ws_many, .ref a_ws_corner, .int ws_cornerCount, .int ws_level, .int ws_row, .int ws_start, .int ws_place, .int ws_length, .int ws_cap])) :: (a_ws_first, .inl (ci 0, 4, .inl ws_first)) :: (a_ws_many, .inl (ci 0, 4, .inl ws_many)) :: (a_g, .inr (2, [.ref a_g_rowCuts, .ref a_g_columnCuts, .ref a_g_bandRows, .ref a_g_zoneColumns, .ref a_g_rows, .ref a_g_sheets])) :: (a_g_bandRows, .inl (ci 0, 5, .inl g_bandRows)) :: (a_g_zoneColumns, .inl (ci 0, 5, .inl g_zoneColumns)) :: (a_g_rows, .inl (ci 0, 5, .inl g_rows)) :: (a_g_sheets, .inl (ci 0, 5, .inl g_sheets)) :: Rw) H := ⟨hP, hD⟩
    refine lv_aload_n (pc := 23) hx hb dX9_spread_23 rfl (lv_at hl 0 rfl) ?_
    refine va_get (pc := 24) (D := D) (ci := 9) (v := .ref b1_13) (C := RX9) (T := TX9) (N := 4) hx hb hts hinX9 hown hK hP 0 rfl rfl 1 (by decide) w_3 (fun _ h9 => h9) rfl dX9_spread_24 ?_
    refine lv_iload_n (pc := 27) hx hb dX9_spread_27 rfl (lv_at hl 2 rfl) ?_
    refine lv_iconst (pc := 28) (v := 0) hx hb dX9_spread_28 (by decide) ?_
    refine q_iast (pc := 29) hx hb hK hP hD hS 1 0 hf rfl rfl dX9_spread_29 (fun f6 H locs hf hP hD hS => ?_)
    obtain ⟨hP, hD⟩ : va_PD D A ((a_wk, .inr (9, [.ref a_ws, .ref b1_13, .ref b2_13, .int v4])) :: (b1_13, .inl (ci 0, nL, .inl f6)) :: (b2_13, .inl (ci 0, nL, .inl f5)) :: (a_ws, .inr (6, [.ref a_g, .ref a_ws_first, .ref a_ws_many, .ref a_ws_corner, .int ws_cornerCount, .int ws_level, .int ws_row, .int ws_start, .int ws_place, .int ws_length, .int ws_cap])) :: (a_ws_first, .inl (ci 0, 4, .inl ws_first)) :: (a_ws_many, .inl (ci 0, 4, .inl ws_many)) :: (a_g, .inr (2, [.ref a_g_rowCuts, .ref a_g_columnCuts, .ref a_g_bandRows, .ref a_g_zoneColumns, .ref a_g_rows, .ref a_g_sheets])) :: (a_g_bandRows, .inl (ci 0, 5, .inl g_bandRows)) :: (a_g_zoneColumns, .inl (ci 0, 5, .inl g_zoneColumns)) :: (a_g_rows, .inl (ci 0, 5, .inl g_rows)) :: (a_g_sheets, .inl (ci 0, 5, .inl g_sheets)) :: Rw) H := ⟨hP, hD⟩
    refine lv_iconst (pc := 30) (v := 1) hx hb dX9_spread_30 (by decide) ?_
    obtain ⟨v7, ev7, hf⟩ := q_nm_e hf
    refine q_topi ev7 ?_
    refine lv_istore_n (pc := 31) (lv' := [(3, .int v7), (0, .ref a_wk), (1, .int p1), (2, .int p2)]) hx hb dX9_spread_31 rfl hl (by decide) rfl (fun ls hl => ?_)
    refine lv_iconst (pc := 32) (v := 0) hx hb dX9_spread_32 (by decide) ?_
    obtain ⟨v8, ev8, hf⟩ := q_nm_e hf
    refine q_topi ev8 ?_
    refine lv_istore (pc := 33) (lv' := [(4, .int v8), (3, .int v7), (0, .ref a_wk), (1, .int p1), (2, .int p2)]) hx hb dX9_spread_33 hl (by decide) rfl (fun ls hl => ?_)
    obtain ⟨f21, f22, f23, f24, v25, v26, v27, v28, v29, v30, hm35, hf⟩ := q_b10_e hf
    have JE35 : ∀ (H : Heap) (locs : List Loc) (ls : Array Slot), va_P D vwCl ((a_wk, .inr (9, [.ref a_ws, .ref b1_13, .ref b2_13, .int v4])) :: (b1_13, .inl (ci 0, nL, .inl f21)) :: (b2_13, .inl (ci 0, nL, .inl f22)) :: (a_ws, .inr (6, [.ref a_g, .ref a_ws_first, .ref a_ws_many, .ref a_ws_corner, .int ws_cornerCount, .int v25, .int v26, .int v27, .int v28, .int v29, .int v30])) :: (a_ws_first, .inl (ci 0, 4, .inl f23)) :: (a_ws_many, .inl (ci 0, 4, .inl f24)) :: (a_g, .inr (2, [.ref a_g_rowCuts, .ref a_g_columnCuts, .ref a_g_bandRows, .ref a_g_zoneColumns, .ref a_g_rows, .ref a_g_sheets])) :: (a_g_bandRows, .inl (ci 0, 5, .inl g_bandRows)) :: (a_g_zoneColumns, .inl (ci 0, 5, .inl g_zoneColumns)) :: (a_g_rows, .inl (ci 0, 5, .inl g_rows)) :: (a_g_sheets, .inl (ci 0, 5, .inl g_sheets)) :: Rw) H → va_D A ((a_wk, .inr (9, [.ref a_ws, .ref b1_13, .ref b2_13, .int v4])) :: (b1_13, .inl (ci 0, nL, .inl f21)) :: (b2_13, .inl (ci 0, nL, .inl f22)) :: (a_ws, .inr (6, [.ref a_g, .ref a_ws_first, .ref a_ws_many, .ref a_ws_corner, .int ws_cornerCount, .int v25, .int v26, .int v27, .int v28, .int v29, .int v30])) :: (a_ws_first, .inl (ci 0, 4, .inl f23)) :: (a_ws_many, .inl (ci 0, 4, .inl f24)) :: (a_g, .inr (2, [.ref a_g_rowCuts, .ref a_g_columnCuts, .ref a_g_bandRows, .ref a_g_zoneColumns, .ref a_g_rows, .ref a_g_sheets])) :: (a_g_bandRows, .inl (ci 0, 5, .inl g_bandRows)) :: (a_g_zoneColumns, .inl (ci 0, 5, .inl g_zoneColumns)) :: (a_g_rows, .inl (ci 0, 5, .inl g_rows)) :: (a_g_sheets, .inl (ci 0, 5, .inl g_sheets)) :: Rw) → va_S A s.heap H locs → lv_has ls 5 [] → W p l e ({ frames := 3, cells := 2, slots := (nL + nL), locals := 88 } : Room) s m ([.ref a_wk, .int p1, .int p2] : List Value).toArray below meth c H locs 2 (nL + nL) Q (F0 m 98 ls []) := by
      intro H locs ls hP hD hS hl
      obtain ⟨rfl, rfl, rfl, rfl, rfl, rfl, rfl, rfl, rfl, rfl, rfl⟩ := q_inj11 (Option.some.inj hf)
      rw [hQ]
      exact q_vretx (pc := 98) hx hb hr hlocks (fun t ht => ⟨_, _, by rw [ht]; exact hP, hD⟩) hS dX9_spread_98
    have LP35 : ∀ (n35 : Nat) (v9 : Int32) (v10 : Int32) (f11 : Nat → Int32) (f12 : Nat → Int32) (f13 : Nat → Int32) (f14 : Nat → Int32) (v15 : Int32) (v16 : Int32) (v17 : Int32) (v18 : Int32) (v19 : Int32) (v20 : Int32) (H : Heap) (locs : List Loc) (ls : Array Slot), f_Walk_spreadN_L35 N g_bandRows g_rows g_sheets g_zoneColumns nL p1 v4 n35 v9 v10 f11 f12 f13 f14 v15 v16 v17 v18 v19 v20 = some (f21, f22, f23, f24, v25, v26, v27, v28, v29, v30) → va_P D vwCl ((a_wk, .inr (9, [.ref a_ws, .ref b1_13, .ref b2_13, .int v4])) :: (b1_13, .inl (ci 0, nL, .inl f11)) :: (b2_13, .inl (ci 0, nL, .inl f12)) :: (a_ws, .inr (6, [.ref a_g, .ref a_ws_first, .ref a_ws_many, .ref a_ws_corner, .int ws_cornerCount, .int v15, .int v16, .int v17, .int v18, .int v19, .int v20])) :: (a_ws_first, .inl (ci 0, 4, .inl f13)) :: (a_ws_many, .inl (ci 0, 4, .inl f14)) :: (a_g, .inr (2, [.ref a_g_rowCuts, .ref a_g_columnCuts, .ref a_g_bandRows, .ref a_g_zoneColumns, .ref a_g_rows, .ref a_g_sheets])) :: (a_g_bandRows, .inl (ci 0, 5, .inl g_bandRows)) :: (a_g_zoneColumns, .inl (ci 0, 5, .inl g_zoneColumns)) :: (a_g_rows, .inl (ci 0, 5, .inl g_rows)) :: (a_g_sheets, .inl (ci 0, 5, .inl g_sheets)) :: Rw) H → va_D A ((a_wk, .inr (9, [.ref a_ws, .ref b1_13, .ref b2_13, .int v4])) :: (b1_13, .inl (ci 0, nL, .inl f11)) :: (b2_13, .inl (ci 0, nL, .inl f12)) :: (a_ws, .inr (6, [.ref a_g, .ref a_ws_first, .ref a_ws_many, .ref a_ws_corner, .int ws_cornerCount, .int v15, .int v16, .int v17, .int v18, .int v19, .int v20])) :: (a_ws_first, .inl (ci 0, 4, .inl f13)) :: (a_ws_many, .inl (ci 0, 4, .inl f14)) :: (a_g, .inr (2, [.ref a_g_rowCuts, .ref a_g_columnCuts, .ref a_g_bandRows, .ref a_g_zoneColumns, .ref a_g_rows, .ref a_g_sheets])) :: (a_g_bandRows, .inl (ci 0, 5, .inl g_bandRows)) :: (a_g_zoneColumns, .inl (ci 0, 5, .inl g_zoneColumns)) :: (a_g_rows, .inl (ci 0, 5, .inl g_rows)) :: (a_g_sheets, .inl (ci 0, 5, .inl g_sheets)) :: Rw) → va_S A s.heap H locs → lv_has ls 5 [(0, .ref a_wk), (1, .int p1), (3, .int v9), (4, .int v10)] → W p l e ({ frames := 3, cells := 2, slots := (nL + nL), locals := 88 } : Room) s m ([.ref a_wk, .int p1, .int p2] : List Value).toArray below meth c H locs 2 (nL + nL) Q (F0 m 35 ls []) := by
      intro n35
      induction n35 with
      | zero => intro v9 v10 f11 f12 f13 f14 v15 v16 v17 v18 v19 v20 H locs ls hf; rw [f_Walk_spreadN_L35] at hf; cases hf
      | succ n35 ih35 =>
        intro v9 v10 f11 f12 f13 f14 v15 v16 v17 v18 v19 v20 H locs ls hf hP hD hS hl
        rw [f_Walk_spreadN_L35] at hf
        refine lv_iload (pc := 35) hx hb dX9_spread_35 (lv_at hl 3 rfl) ?_
        refine lv_iload_n (pc := 37) hx hb dX9_spread_37 rfl (lv_at hl 2 rfl) ?_
        refine q_icmp_ge (pc := 38) (tgt := 98) hx hb dX9_spread_38 (by decide) rfl hf (fun hf => ?_) (fun hf => ?_)
        · obtain ⟨rfl, rfl, rfl, rfl, rfl, rfl, rfl, rfl, rfl, rfl⟩ := q_inj10 (Option.some.inj hf)
          exact JE35 _ _ _ hP hD hS (lv_sub hl [] rfl)
        · refine lv_iload (pc := 41) hx hb dX9_spread_41 (lv_at hl 3 rfl) ?_
          refine lv_aload_n (pc := 43) hx hb dX9_spread_43 rfl (lv_at hl 0 rfl) ?_
          refine va_get (pc := 44) (D := D) (ci := 9) (v := .int v4) (C := RX9) (T := TX9) (N := 4) hx hb hts hinX9 hown hK hP 0 rfl rfl 3 (by decide) w_4 (fun _ h9 => h9) rfl dX9_spread_44 ?_
          refine q_icmp_ge (pc := 47) (tgt := 98) hx hb dX9_spread_47 (by decide) rfl hf (fun hf => ?_) (fun hf => ?_)
          · obtain ⟨rfl, rfl, rfl, rfl, rfl, rfl, rfl, rfl, rfl, rfl⟩ := q_inj10 (Option.some.inj hf)
            exact JE35 _ _ _ hP hD hS (lv_sub hl [] rfl)
          · refine lv_aload_n (pc := 50) hx hb dX9_spread_50 rfl (lv_at hl 0 rfl) ?_
            refine va_get (pc := 51) (D := D) (ci := 9) (v := .ref a_ws) (C := RX9) (T := TX9) (N := 4) hx hb hts hinX9 hown hK hP 0 rfl rfl 0 (by decide) w_1 (fun _ h9 => h9) rfl dX9_spread_51 ?_
            refine lv_iload_n (pc := 54) hx hb dX9_spread_54 rfl (lv_at hl 1 rfl) ?_
            refine lv_aload_n (pc := 55) hx hb dX9_spread_55 rfl (lv_at hl 0 rfl) ?_
            refine va_get (pc := 56) (D := D) (ci := 9) (v := .ref b2_13) (C := RX9) (T := TX9) (N := 4) hx hb hts hinX9 hown hK hP 0 rfl rfl 2 (by decide) w_2 (fun _ h9 => h9) rfl dX9_spread_56 ?_
            refine lv_iload (pc := 59) hx hb dX9_spread_59 (lv_at hl 3 rfl) ?_
            refine q_iald (pc := 61) hx hb hK hP 2 0 hf rfl rfl dX9_spread_61 (fun v31 hf => ?_)
            obtain ⟨v32, v33, v34, v35, v36, v37, hm62, hf⟩ := q_b6_e hf
            refine q_cV (pc := 62) (As := [.int p1, .int v31]) (rest := []) (v0 := none) ⟨hx, hb, hml, hown, hts⟩ hK hA hZ hP hD hS hl.1 [3, 6, 7, 8, 9, 10, 0, 1, 2, 4, 5] 11 rfl ⟨rfl, rfl, rfl⟩ (c_Spot_put l D ci A sa N ((a_wk, .inr (9, [.ref a_ws, .ref b1_13, .ref b2_13, .int v4])) :: (b1_13, .inl (ci 0, nL, .inl f11)) :: (b2_13, .inl (ci 0, nL, .inl f12)) :: (a_ws_first, .inl (ci 0, 4, .inl f13)) :: (a_ws_many, .inl (ci 0, 4, .inl f14)) :: Rw) a_ws a_g a_ws_first a_ws_many a_ws_corner a_g_rowCuts a_g_columnCuts a_g_bandRows a_g_zoneColumns a_g_rows a_g_sheets ws_cornerCount v15 v16 v17 v18 v19 v20 g_bandRows g_zoneColumns g_rows g_sheets p1 v31 v32 v33 v34 v35 v36 v37 hm62) 3 rfl rfl (cwV 2 hts gX9_spread_X6_put rfl rfl rfl (by decide +kernel) ⟨Nat.le_of_ble_eq_true rfl, Nat.le_of_ble_eq_true rfl⟩) rfl rfl (Nat.le_of_ble_eq_true rfl) dX9_spread_62 ⟨Nat.le_refl _, Nat.le_refl _⟩ [6, 7, 8, 0, 9, 10, 1, 2, 3, 4, 5] 11 rfl ⟨rfl, rfl, rfl⟩ (fun H locs hP hD hS => ?_)
            obtain ⟨hP, hD⟩ : va_PD D A ((a_wk, .inr (9, [.ref a_ws, .ref b1_13, .ref b2_13, .int v4])) :: (b1_13, .inl (ci 0, nL, .inl f11)) :: (b2_13, .inl (ci 0, nL, .inl f12)) :: (a_ws, .inr (6, [.ref a_g, .ref a_ws_first, .ref a_ws_many, .ref a_ws_corner, .int ws_cornerCount, .int v32, .int v33, .int v34, .int v35, .int v36, .int v37])) :: (a_ws_first, .inl (ci 0, 4, .inl f13)) :: (a_ws_many, .inl (ci 0, 4, .inl f14)) :: (a_g, .inr (2, [.ref a_g_rowCuts, .ref a_g_columnCuts, .ref a_g_bandRows, .ref a_g_zoneColumns, .ref a_g_rows, .ref a_g_sheets])) :: (a_g_bandRows, .inl (ci 0, 5, .inl g_bandRows)) :: (a_g_zoneColumns, .inl (ci 0, 5, .inl g_zoneColumns)) :: (a_g_rows, .inl (ci 0, 5, .inl g_rows)) :: (a_g_sheets, .inl (ci 0, 5, .inl g_sheets)) :: Rw) H := ⟨hP, hD⟩
            refine lv_aload_n (pc := 65) hx hb dX9_spread_65 rfl (lv_at hl 0 rfl) ?_
            refine va_get (pc := 66) (D := D) (ci := 9) (v := .ref a_ws) (C := RX9) (T := TX9) (N := 4) hx hb hts hinX9 hown hK hP 0 rfl rfl 0 (by decide) w_1 (fun _ h9 => h9) rfl dX9_spread_66 ?_
            obtain ⟨f38, f39, hm69, hf⟩ := q_b2_e hf
            refine q_cV (pc := 69) (As := []) (rest := []) (v0 := none) ⟨hx, hb, hml, hown, hts⟩ hK hA hZ hP hD hS hl.1 [3, 4, 5, 6, 7, 8, 9, 10, 0, 1, 2] 11 rfl ⟨rfl, rfl, rfl⟩ (c_Spot_lookAround l D ci A sa N ((a_wk, .inr (9, [.ref a_ws, .ref b1_13, .ref b2_13, .int v4])) :: (b1_13, .inl (ci 0, nL, .inl f11)) :: (b2_13, .inl (ci 0, nL, .inl f12)) :: Rw) a_ws a_g a_ws_first a_ws_many a_ws_corner a_g_rowCuts a_g_columnCuts a_g_bandRows a_g_zoneColumns a_g_rows a_g_sheets ws_cornerCount v32 v33 v34 v35 v36 v37 f13 f14 g_bandRows g_zoneColumns g_rows g_sheets f38 f39 hm69) 3 rfl rfl (cwV 0 hts gX9_spread_X6_lookAround rfl rfl rfl (by decide +kernel) ⟨Nat.le_of_ble_eq_true rfl, Nat.le_of_ble_eq_true rfl⟩) rfl rfl (Nat.le_of_ble_eq_true rfl) dX9_spread_69 ⟨Nat.le_refl _, Nat.le_refl _⟩ [8, 9, 10, 0, 1, 2, 3, 4, 5, 6, 7] 11 rfl ⟨rfl, rfl, rfl⟩ (fun H locs hP hD hS => ?_)
            obtain ⟨hP, hD⟩ : va_PD D A ((a_wk, .inr (9, [.ref a_ws, .ref b1_13, .ref b2_13, .int v4])) :: (b1_13, .inl (ci 0, nL, .inl f11)) :: (b2_13, .inl (ci 0, nL, .inl f12)) :: (a_ws, .inr (6, [.ref a_g, .ref a_ws_first, .ref a_ws_many, .ref a_ws_corner, .int ws_cornerCount, .int v32, .int v33, .int v34, .int v35, .int v36, .int v37])) :: (a_ws_first, .inl (ci 0, 4, .inl f38)) :: (a_ws_many, .inl (ci 0, 4, .inl f39)) :: (a_g, .inr (2, [.ref a_g_rowCuts, .ref a_g_columnCuts, .ref a_g_bandRows, .ref a_g_zoneColumns, .ref a_g_rows, .ref a_g_sheets])) :: (a_g_bandRows, .inl (ci 0, 5, .inl g_bandRows)) :: (a_g_zoneColumns, .inl (ci 0, 5, .inl g_zoneColumns)) :: (a_g_rows, .inl (ci 0, 5, .inl g_rows)) :: (a_g_sheets, .inl (ci 0, 5, .inl g_sheets)) :: Rw) H := ⟨hP, hD⟩
            refine lv_aload_n (pc := 72) hx hb dX9_spread_72 rfl (lv_at hl 0 rfl) ?_
            refine lv_aload_n (pc := 73) hx hb dX9_spread_73 rfl (lv_at hl 0 rfl) ?_
            refine va_get (pc := 74) (D := D) (ci := 9) (v := .ref b1_13) (C := RX9) (T := TX9) (N := 4) hx hb hts hinX9 hown hK hP 0 rfl rfl 1 (by decide) w_3 (fun _ h9 => h9) rfl dX9_spread_74 ?_
            refine lv_aload_n (pc := 77) hx hb dX9_spread_77 rfl (lv_at hl 0 rfl) ?_
            refine va_get (pc := 78) (D := D) (ci := 9) (v := .ref b2_13) (C := RX9) (T := TX9) (N := 4) hx hb hts hinX9 hown hK hP 0 rfl rfl 2 (by decide) w_2 (fun _ h9 => h9) rfl dX9_spread_78 ?_
            refine lv_iload (pc := 81) hx hb dX9_spread_81 (lv_at hl 3 rfl) ?_
            refine q_iald (pc := 83) hx hb hK hP 2 0 hf rfl rfl dX9_spread_83 (fun v40 hf => ?_)
            refine q_iald (pc := 84) hx hb hK hP 1 0 hf rfl rfl dX9_spread_84 (fun v41 hf => ?_)
            refine lv_iconst (pc := 85) (v := 1) hx hb dX9_spread_85 (by decide) ?_
            refine lv_iadd (pc := 86) hx hb dX9_spread_86 ?_
            refine lv_iload_n (pc := 87) hx hb dX9_spread_87 rfl (lv_at hl 2 rfl) ?_
            obtain ⟨v42, f43, f44, hm88, hf⟩ := q_b3_e hf
            refine q_cV (pc := 88) (As := [.int (v41 + 1), .int v9]) (rest := []) (v0 := (some (.int v42))) ⟨hx, hb, hml, hown, hts⟩ hK hA hZ hP hD hS hl.1 [0, 1, 2, 3, 4, 5, 6, 7, 8, 9, 10] 11 rfl ⟨rfl, rfl, rfl⟩ (c_Walk_spreadOn l D ci A sa N ((a_g, .inr (2, [.ref a_g_rowCuts, .ref a_g_columnCuts, .ref a_g_bandRows, .ref a_g_zoneColumns, .ref a_g_rows, .ref a_g_sheets])) :: (a_g_bandRows, .inl (ci 0, 5, .inl g_bandRows)) :: (a_g_zoneColumns, .inl (ci 0, 5, .inl g_zoneColumns)) :: (a_g_rows, .inl (ci 0, 5, .inl g_rows)) :: (a_g_sheets, .inl (ci 0, 5, .inl g_sheets)) :: Rw) a_wk a_ws b1_13 b2_13 nL nL a_g a_ws_first a_ws_many a_ws_corner v4 f11 f12 ws_cornerCount v32 v33 v34 v35 v36 v37 f38 f39 (v41 + 1) v9 v42 f43 f44 hm88) 0 rfl rfl (cwV 2 hts gX9_spread_X9_spreadOn rfl rfl rfl (by decide +kernel) ⟨Nat.le_of_ble_eq_true rfl, Nat.le_of_ble_eq_true rfl⟩) rfl rfl (Nat.le_of_ble_eq_true rfl) dX9_spread_88 ⟨Nat.le_refl _, Nat.le_refl _⟩ [0, 1, 2, 3, 4, 5, 6, 7, 8, 9, 10] 11 rfl ⟨rfl, rfl, rfl⟩ (fun H locs hP hD hS => ?_)
            obtain ⟨hP, hD⟩ : va_PD D A ((a_wk, .inr (9, [.ref a_ws, .ref b1_13, .ref b2_13, .int v4])) :: (b1_13, .inl (ci 0, nL, .inl f43)) :: (b2_13, .inl (ci 0, nL, .inl f44)) :: (a_ws, .inr (6, [.ref a_g, .ref a_ws_first, .ref a_ws_many, .ref a_ws_corner, .int ws_cornerCount, .int v32, .int v33, .int v34, .int v35, .int v36, .int v37])) :: (a_ws_first, .inl (ci 0, 4, .inl f38)) :: (a_ws_many, .inl (ci 0, 4, .inl f39)) :: (a_g, .inr (2, [.ref a_g_rowCuts, .ref a_g_columnCuts, .ref a_g_bandRows, .ref a_g_zoneColumns, .ref a_g_rows, .ref a_g_sheets])) :: (a_g_bandRows, .inl (ci 0, 5, .inl g_bandRows)) :: (a_g_zoneColumns, .inl (ci 0, 5, .inl g_zoneColumns)) :: (a_g_rows, .inl (ci 0, 5, .inl g_rows)) :: (a_g_sheets, .inl (ci 0, 5, .inl g_sheets)) :: Rw) H := ⟨hP, hD⟩
            refine lv_istore_n (pc := 91) (lv' := [(3, .int v42), (0, .ref a_wk), (1, .int p1), (4, .int v10)]) hx hb dX9_spread_91 rfl hl (by decide) rfl (fun ls hl => ?_)
            obtain ⟨v45, ev45, hf⟩ := q_nm_e hf
            refine lv_iinc (pc := 92) (v := v45) (lv' := [(4, .int v45), (3, .int v42), (0, .ref a_wk), (1, .int p1)]) hx hb dX9_spread_92 hl (k := 3) rfl (by rw [ev45]; rfl) (by decide) rfl (fun ls hl => ?_)
            refine lv_goto (pc := 95) (tgt := 35) hx hb dX9_spread_95 (by decide) ?_
            exact ih35 v42 v45 f43 f44 f38 f39 v32 v33 v34 v35 v36 v37 _ _ _ hf hP hD hS (lv_sub hl [2, 3, 1, 0] rfl)
    exact LP35 N v7 v8 f6 f5 ws_first ws_many ws_level ws_row ws_start ws_place ws_length ws_cap _ _ _ hm35 hP hD hS (lv_sub hl [2, 3, 1, 0] rfl)
  exact hgo _ _ rfl hP hS
/-! X10_steps!N -/
set_option maxRecDepth 100000 in
set_option maxHeartbeats 4000000 in
theorem c_X_stepsN (l : Launch) (D : va_G) (ci : Nat → ClassId) (A : Nat → Prop) (sa : Nat → Nat) (N : Nat) (Rw : va_W) (nL : Nat) (a_x : Nat) (a_at : Nat) (a_g : Nat) (a_st : Nat) (a_x_kept : Nat) (a_tp : Nat) (a_rd : Nat) (a_qu : Nat) (a_sp : Nat) (a_wk : Nat) (a_bx : Nat) (a_nt : Nat) (a_nu : Nat) (a_x_seen : Nat) (a_ws : Nat) (a_wk_steps : Nat) (a_wk_reached : Nat) (n_wk_steps : Nat) (n_wk_reached : Nat) (a_ws_first : Nat) (a_ws_many : Nat) (a_ws_corner : Nat) (a_g_rowCuts : Nat) (a_g_columnCuts : Nat) (a_g_bandRows : Nat) (a_g_zoneColumns : Nat) (a_g_rows : Nat) (a_g_sheets : Nat) (x_keptStates : Int32) (wk_many : Int32) (wk_steps : Nat → Int32) (wk_reached : Nat → Int32) (ws_cornerCount : Int32) (ws_level : Int32) (ws_row : Int32) (ws_start : Int32) (ws_place : Int32) (ws_length : Int32) (ws_cap : Int32) (ws_first : Nat → Int32) (ws_many : Nat → Int32) (g_bandRows : Nat → Int32) (g_zoneColumns : Nat → Int32) (g_rows : Nat → Int32) (g_sheets : Nat → Int32) (p1 : Int32) (p2 : Int32) (p3 : Int32) (r : Int32) (o1 : Nat → Int32) (o2 : Nat → Int32) (o3 : Int32) (o4 : Nat → Int32) (o5 : Nat → Int32) (o6 : Int32) (o7 : Int32) (o8 : Int32) (o9 : Int32) (o10 : Int32) (o11 : Int32) (hf : f_X_stepsN N nL n_wk_steps wk_steps wk_reached wk_many ws_first ws_many ws_level ws_row ws_start ws_place ws_length ws_cap g_bandRows g_zoneColumns g_rows g_sheets p1 p2 p3 = some (r, o1, o2, o3, o4, o5, o6, o7, o8, o9, o10, o11)) : Met l yX10_steps wsX10_steps ({ frames := 4, cells := 2, slots := (nL + nL), locals := 112 }) (va_Pc [.ref a_x, .int p1, .int p2, .int p3] (q_N D ci A sa ((a_x, .inr (10, [.ref a_at, .ref a_g, .ref a_st, .ref a_x_kept, .int x_keptStates, .ref a_tp, .ref a_rd, .ref a_qu, .ref a_sp, .ref a_wk, .ref a_bx, .ref a_nt, .ref a_nu, .ref a_x_seen])) :: (a_wk, .inr (9, [.ref a_ws, .ref a_wk_steps, .ref a_wk_reached, .int wk_many])) :: (a_wk_steps, .inl (ci 0, n_wk_steps, .inl wk_steps)) :: (a_wk_reached, .inl (ci 0, n_wk_reached, .inl wk_reached)) :: (a_ws, .inr (6, [.ref a_g, .ref a_ws_first, .ref a_ws_many, .ref a_ws_corner, .int ws_cornerCount, .int ws_level, .int ws_row, .int ws_start, .int ws_place, .int ws_length, .int ws_cap])) :: (a_ws_first, .inl (ci 0, 4, .inl ws_first)) :: (a_ws_many, .inl (ci 0, 4, .inl ws_many)) :: (a_g, .inr (2, [.ref a_g_rowCuts, .ref a_g_columnCuts, .ref a_g_bandRows, .ref a_g_zoneColumns, .ref a_g_rows, .ref a_g_sheets])) :: (a_g_bandRows, .inl (ci 0, 5, .inl g_bandRows)) :: (a_g_zoneColumns, .inl (ci 0, 5, .inl g_zoneColumns)) :: (a_g_rows, .inl (ci 0, 5, .inl g_rows)) :: (a_g_sheets, .inl (ci 0, 5, .inl g_sheets)) :: Rw))) (q_Q (some (.int r)) (fun t => ∃ b1 b2 : Nat, q_O D A ((a_x, .inr (10, [.ref a_at, .ref a_g, .ref a_st, .ref a_x_kept, .int x_keptStates, .ref a_tp, .ref a_rd, .ref a_qu, .ref a_sp, .ref a_wk, .ref a_bx, .ref a_nt, .ref a_nu, .ref a_x_seen])) :: (a_wk, .inr (9, [.ref a_ws, .ref b1, .ref b2, .int o3])) :: (b1, .inl (ci 0, nL, .inl o1)) :: (b2, .inl (ci 0, nL, .inl o2)) :: (a_ws, .inr (6, [.ref a_g, .ref a_ws_first, .ref a_ws_many, .ref a_ws_corner, .int ws_cornerCount, .int o6, .int o7, .int o8, .int o9, .int o10, .int o11])) :: (a_ws_first, .inl (ci 0, 4, .inl o4)) :: (a_ws_many, .inl (ci 0, 4, .inl o5)) :: (a_g, .inr (2, [.ref a_g_rowCuts, .ref a_g_columnCuts, .ref a_g_bandRows, .ref a_g_zoneColumns, .ref a_g_rows, .ref a_g_sheets])) :: (a_g_bandRows, .inl (ci 0, 5, .inl g_bandRows)) :: (a_g_zoneColumns, .inl (ci 0, 5, .inl g_zoneColumns)) :: (a_g_rows, .inl (ci 0, 5, .inl g_rows)) :: (a_g_sheets, .inl (ci 0, 5, .inl g_sheets)) :: Rw) t) A) 2 (nL + nL) A := by
  refine q_ofW (cc := cX10_steps) (maxL := 4) (ret := (some .int)) [.ref a_x, .int p1, .int p2, .int p3] (plainFor_of_name (by decide)) rfl (Nat.le_of_ble_eq_true rfl) ?_
  intro p e s m below meth c ls Q hQ hx hb hml hr hts hown hlocks hK hA hZ hP hD hS hl
  have hl : lv_has ls 4 [(0, .ref a_x), (1, .int p1), (2, .int p2), (3, .int p3)] := hl
  have hown : s.vm.findClass RX10 = some m.cls := hown
  have hinX10 : ∀ w ∈ wsX100, w ∈ wsX10_steps := fun _ h => List.mem_cons_of_mem _ (inWX100 _ h)
  have hinX2 : ∀ w ∈ wsX20, w ∈ wsX10_steps := fun _ h => List.mem_cons_of_mem _ (inWX20 _ h)
  have w_1 := hts (Cond.fieldLink RX10 20 "SheetNames" "grid" "LSheetNames$Grid;") (List.mem_cons_of_mem _ t_w876)
  have w_2 := hts (Cond.fieldLink RX10 73 "SheetNames" "walk" "LSheetNames$Walk;") (List.mem_cons_of_mem _ t_w881)
  have wn_1 : (Cond.fieldLinkNest "SheetNames" 126 "SheetNames$Grid" "sheets" "[I" "SheetNames").before ([.ref a_x, .int p1, .int p2, .int p3] : List Value).toArray s = true := (hZ.2.2.2.2.2.2.2.2.2.1 _ (List.mem_of_getElem? (i := 1) rfl)).use rfl
  unfold f_X_stepsN at hf
  have hgo : ∀ (H : Heap) (locs : List Loc), H = s.heap → va_P D vwCl ((a_x, .inr (10, [.ref a_at, .ref a_g, .ref a_st, .ref a_x_kept, .int x_keptStates, .ref a_tp, .ref a_rd, .ref a_qu, .ref a_sp, .ref a_wk, .ref a_bx, .ref a_nt, .ref a_nu, .ref a_x_seen])) :: (a_wk, .inr (9, [.ref a_ws, .ref a_wk_steps, .ref a_wk_reached, .int wk_many])) :: (a_wk_steps, .inl (ci 0, n_wk_steps, .inl wk_steps)) :: (a_wk_reached, .inl (ci 0, n_wk_reached, .inl wk_reached)) :: (a_ws, .inr (6, [.ref a_g, .ref a_ws_first, .ref a_ws_many, .ref a_ws_corner, .int ws_cornerCount, .int ws_level, .int ws_row, .int ws_start, .int ws_place, .int ws_length, .int ws_cap])) :: (a_ws_first, .inl (ci 0, 4, .inl ws_first)) :: (a_ws_many, .inl (ci 0, 4, .inl ws_many)) :: (a_g, .inr (2, [.ref a_g_rowCuts, .ref a_g_columnCuts, .ref a_g_bandRows, .ref a_g_zoneColumns, .ref a_g_rows, .ref a_g_sheets])) :: (a_g_bandRows, .inl (ci 0, 5, .inl g_bandRows)) :: (a_g_zoneColumns, .inl (ci 0, 5, .inl g_zoneColumns)) :: (a_g_rows, .inl (ci 0, 5, .inl g_rows)) :: (a_g_sheets, .inl (ci 0, 5, .inl g_sheets)) :: Rw) H → va_S A s.heap H locs → W p l e ({ frames := 4, cells := 2, slots := (nL + nL), locals := 112 } : Room) s m ([.ref a_x, .int p1, .int p2, .int p3] : List Value).toArray below meth c H locs 0 0 Q (F0 m 0 ls []) := by
    intro H locs hH hP hS
    refine lv_aload_n (pc := 0) hx hb dX10_steps_0 rfl (lv_at hl 0 rfl) ?_
    refine lv_iload_n (pc := 1) hx hb dX10_steps_1 rfl (lv_at hl 1 rfl) ?_
    refine lv_iload_n (pc := 2) hx hb dX10_steps_2 rfl (lv_at hl 2 rfl) ?_
    refine lv_iload_n (pc := 3) hx hb dX10_steps_3 rfl (lv_at hl 3 rfl) ?_
    obtain ⟨v1, hm4, hf⟩ := q_b1_e hf
    refine q_cVr (pc := 4) (As := [.int p1, .int p2, .int p3]) (rest := []) (v0 := (some (.int v1))) ⟨hx, hb, hml, hown, hts⟩ hK hA hZ hP hD hS hl.1 [0, 7, 11] 12 rfl ⟨rfl, rfl, rfl⟩ (c_X_areSheets l D ci A sa N (Rw) a_x a_at a_g a_st a_x_kept a_tp a_rd a_qu a_sp a_wk a_bx a_nt a_nu a_x_seen a_g_rowCuts a_g_columnCuts a_g_bandRows a_g_zoneColumns a_g_rows a_g_sheets x_keptStates g_sheets p1 p2 p3 v1 hm4) 0 rfl rfl (cwV 3 hts gX10_steps_X10_areSheets rfl rfl rfl (by decide +kernel) ⟨Nat.le_of_ble_eq_true rfl, Nat.le_of_ble_eq_true rfl⟩) rfl rfl (Nat.le_of_ble_eq_true rfl) dX10_steps_4 ⟨Nat.zero_le _, Nat.zero_le _⟩ (fun locs hS => ?_)
    refine q_if_ne (pc := 7) (tgt := 12) hx hb dX10_steps_7 (by decide) rfl hf (fun hf => ?_) (fun hf => ?_)
    · refine lv_aload_n (pc := 12) hx hb dX10_steps_12 rfl (lv_at hl 0 rfl) ?_
      refine va_get (pc := 13) (D := D) (ci := 10) (v := .ref a_g) (C := RX10) (T := TX10) (N := 14) hx hb hts hinX10 hown hK hP 0 rfl rfl 1 (by decide) w_1 (fun _ h9 => h9) rfl dX10_steps_13 ?_
      refine va_getN (pc := 16) (D := D) (ci := 2) (v := .ref a_g_sheets) (C := RX2) (T := TX2) (N := 6) hx hb hts hinX2 hown hK hP 7 rfl rfl 5 (by decide) wn_1 (fun _ h9 => h9) rfl dX10_steps_16 ?_
      refine lv_iload_n (pc := 19) hx hb dX10_steps_19 rfl (lv_at hl 1 rfl) ?_
      refine q_iald (pc := 20) hx hb hK hP 11 0 hf rfl rfl dX10_steps_20 (fun v2 hf => ?_)
      refine lv_sipush (pc := 21) (v := 20000) hx hb dX10_steps_21 (by decide) ?_
      refine q_icmp_le (pc := 24) (tgt := 30) hx hb dX10_steps_24 (by decide) rfl hf (fun hf => ?_) (fun hf => ?_)
      · refine lv_aload_n (pc := 30) hx hb dX10_steps_30 rfl (lv_at hl 0 rfl) ?_
        refine va_get (pc := 31) (D := D) (ci := 10) (v := .ref a_wk) (C := RX10) (T := TX10) (N := 14) hx hb hts hinX10 hown hK hP 0 rfl rfl 9 (by decide) w_2 (fun _ h9 => h9) rfl dX10_steps_31 ?_
        refine lv_iload_n (pc := 34) hx hb dX10_steps_34 rfl (lv_at hl 1 rfl) ?_
        refine lv_iload_n (pc := 35) hx hb dX10_steps_35 rfl (lv_at hl 2 rfl) ?_
        obtain ⟨f3, f4, v5, f6, f7, v8, v9, v10, v11, v12, v13, hm36, hf⟩ := q_b11_e hf
        refine q_cVx (W2x := fun b1 b2 => (a_wk, .inr (9, [.ref a_ws, .ref b1, .ref b2, .int v5])) :: (b1, .inl (ci 0, nL, .inl f3)) :: (b2, .inl (ci 0, nL, .inl f4)) :: (a_ws, .inr (6, [.ref a_g, .ref a_ws_first, .ref a_ws_many, .ref a_ws_corner, .int ws_cornerCount, .int v8, .int v9, .int v10, .int v11, .int v12, .int v13])) :: (a_ws_first, .inl (ci 0, 4, .inl f6)) :: (a_ws_many, .inl (ci 0, 4, .inl f7)) :: (a_g, .inr (2, [.ref a_g_rowCuts, .ref a_g_columnCuts, .ref a_g_bandRows, .ref a_g_zoneColumns, .ref a_g_rows, .ref a_g_sheets])) :: (a_g_bandRows, .inl (ci 0, 5, .inl g_bandRows)) :: (a_g_zoneColumns, .inl (ci 0, 5, .inl g_zoneColumns)) :: (a_g_rows, .inl (ci 0, 5, .inl g_rows)) :: (a_g_sheets, .inl (ci 0, 5, .inl g_sheets)) :: (a_x, .inr (10, [.ref a_at, .ref a_g, .ref a_st, .ref a_x_kept, .int x_keptStates, .ref a_tp, .ref a_rd, .ref a_qu, .ref a_sp, .ref a_wk, .ref a_bx, .ref a_nt, .ref a_nu, .ref a_x_seen])) :: Rw) (W3x := fun b1 b2 => (a_x, .inr (10, [.ref a_at, .ref a_g, .ref a_st, .ref a_x_kept, .int x_keptStates, .ref a_tp, .ref a_rd, .ref a_qu, .ref a_sp, .ref a_wk, .ref a_bx, .ref a_nt, .ref a_nu, .ref a_x_seen])) :: (a_wk, .inr (9, [.ref a_ws, .ref b1, .ref b2, .int v5])) :: (b1, .inl (ci 0, nL, .inl f3)) :: (b2, .inl (ci 0, nL, .inl f4)) :: (a_ws, .inr (6, [.ref a_g, .ref a_ws_first, .ref a_ws_many, .ref a_ws_corner, .int ws_cornerCount, .int v8, .int v9, .int v10, .int v11, .int v12, .int v13])) :: (a_ws_first, .inl (ci 0, 4, .inl f6)) :: (a_ws_many, .inl (ci 0, 4, .inl f7)) :: (a_g, .inr (2, [.ref a_g_rowCuts, .ref a_g_columnCuts, .ref a_g_bandRows, .ref a_g_zoneColumns, .ref a_g_rows, .ref a_g_sheets])) :: (a_g_bandRows, .inl (ci 0, 5, .inl g_bandRows)) :: (a_g_zoneColumns, .inl (ci 0, 5, .inl g_zoneColumns)) :: (a_g_rows, .inl (ci 0, 5, .inl g_rows)) :: (a_g_sheets, .inl (ci 0, 5, .inl g_sheets)) :: Rw) (pc := 36) (As := [.int p1, .int p2]) (rest := []) (v0 := none) ⟨hx, hb, hml, hown, hts⟩ hK hA hZ hP hD hS hl.1 [1, 2, 3, 4, 5, 6, 7, 8, 9, 10, 11, 0] 12 rfl ⟨rfl, rfl, rfl⟩ (c_Walk_spreadN l D ci A sa N ((a_x, .inr (10, [.ref a_at, .ref a_g, .ref a_st, .ref a_x_kept, .int x_keptStates, .ref a_tp, .ref a_rd, .ref a_qu, .ref a_sp, .ref a_wk, .ref a_bx, .ref a_nt, .ref a_nu, .ref a_x_seen])) :: Rw) nL a_wk a_ws a_wk_steps a_wk_reached n_wk_steps n_wk_reached a_g a_ws_first a_ws_many a_ws_corner a_g_rowCuts a_g_columnCuts a_g_bandRows a_g_zoneColumns a_g_rows a_g_sheets wk_many wk_steps wk_reached ws_cornerCount ws_level ws_row ws_start ws_place ws_length ws_cap ws_first ws_many g_bandRows g_zoneColumns g_rows g_sheets p1 p2 f3 f4 v5 f6 f7 v8 v9 v10 v11 v12 v13 hm36) 1 rfl rfl (cwV 2 hts gX10_steps_X9_spread rfl rfl rfl (by decide +kernel) ⟨Nat.le_of_ble_eq_true rfl, Nat.le_of_ble_eq_true rfl⟩) rfl rfl (Nat.le_of_ble_eq_true rfl) dX10_steps_36 ⟨Nat.le_of_eq (Nat.zero_add _), Nat.le_of_eq (Nat.zero_add _)⟩ [11, 0, 1, 2, 3, 4, 5, 6, 7, 8, 9, 10] 12 (fun _ _ => rfl) (fun _ _ => ⟨rfl, rfl, rfl⟩) (fun b1_36 b2_36 H locs hP hD hS => ?_)
        obtain ⟨hP, hD⟩ : va_PD D A ((a_x, .inr (10, [.ref a_at, .ref a_g, .ref a_st, .ref a_x_kept, .int x_keptStates, .ref a_tp, .ref a_rd, .ref a_qu, .ref a_sp, .ref a_wk, .ref a_bx, .ref a_nt, .ref a_nu, .ref a_x_seen])) :: (a_wk, .inr (9, [.ref a_ws, .ref b1_36, .ref b2_36, .int v5])) :: (b1_36, .inl (ci 0, nL, .inl f3)) :: (b2_36, .inl (ci 0, nL, .inl f4)) :: (a_ws, .inr (6, [.ref a_g, .ref a_ws_first, .ref a_ws_many, .ref a_ws_corner, .int ws_cornerCount, .int v8, .int v9, .int v10, .int v11, .int v12, .int v13])) :: (a_ws_first, .inl (ci 0, 4, .inl f6)) :: (a_ws_many, .inl (ci 0, 4, .inl f7)) :: (a_g, .inr (2, [.ref a_g_rowCuts, .ref a_g_columnCuts, .ref a_g_bandRows, .ref a_g_zoneColumns, .ref a_g_rows, .ref a_g_sheets])) :: (a_g_bandRows, .inl (ci 0, 5, .inl g_bandRows)) :: (a_g_zoneColumns, .inl (ci 0, 5, .inl g_zoneColumns)) :: (a_g_rows, .inl (ci 0, 5, .inl g_rows)) :: (a_g_sheets, .inl (ci 0, 5, .inl g_sheets)) :: Rw) H := ⟨hP, hD⟩
        refine W.widen (k := 2) (n := nL + nL) (by omega) (by omega) ?_
        refine lv_aload_n (pc := 39) hx hb dX10_steps_39 rfl (lv_at hl 0 rfl) ?_
        refine va_get (pc := 40) (D := D) (ci := 10) (v := .ref a_wk) (C := RX10) (T := TX10) (N := 14) hx hb hts hinX10 hown hK hP 0 rfl rfl 9 (by decide) w_2 (fun _ h9 => h9) rfl dX10_steps_40 ?_
        refine lv_iload_n (pc := 43) hx hb dX10_steps_43 rfl (lv_at hl 3 rfl) ?_
        obtain ⟨v14, hm44, hf⟩ := q_b1_e hf
        refine q_cVr (pc := 44) (As := [.int p3]) (rest := []) (v0 := (some (.int v14))) ⟨hx, hb, hml, hown, hts⟩ hK hA hZ hP hD hS hl.1 [1, 2] 12 rfl ⟨rfl, rfl, rfl⟩ (c_Walk_stepsTo l D ci A sa N (Rw) a_wk a_ws b1_36 b2_36 nL v5 f3 p3 v14 hm44) 1 rfl rfl (cwV 1 hts gX10_steps_X9_stepsTo rfl rfl rfl (by decide +kernel) ⟨Nat.le_of_ble_eq_true rfl, Nat.le_of_ble_eq_true rfl⟩) rfl rfl (Nat.le_of_ble_eq_true rfl) dX10_steps_44 ⟨Nat.le_refl _, Nat.le_refl _⟩ (fun locs hS => ?_)
        obtain ⟨rfl, rfl, rfl, rfl, rfl, rfl, rfl, rfl, rfl, rfl, rfl, rfl⟩ := q_inj12 (Option.some.inj hf)
        rw [hQ]
        exact q_iretx (pc := 47) hx hb hr hlocks (fun t ht => ⟨_, _, by rw [ht]; exact hP, hD⟩) hS dX10_steps_47
      · refine lv_bipush (pc := 27) (v := (-3)) hx hb dX10_steps_27 (by decide) ?_
        cases hf
    · refine lv_iconst (pc := 10) (v := (-1)) hx hb dX10_steps_10 (by decide) ?_
      cases hf
  exact hgo _ _ rfl hP hS
/-! X10_answerTo!N -/
set_option maxRecDepth 100000 in
set_option maxHeartbeats 4000000 in
theorem c_X_answerToN (l : Launch) (D : va_G) (ci : Nat → ClassId) (A : Nat → Prop) (sa : Nat → Nat) (N : Nat) (Rw : va_W) (nL : Nat) (a_x : Nat) (a_at : Nat) (a_g : Nat) (a_st : Nat) (a_x_kept : Nat) (a_tp : Nat) (a_rd : Nat) (a_qu : Nat) (a_sp : Nat) (a_wk : Nat) (a_bx : Nat) (a_nt : Nat) (a_nu : Nat) (a_x_seen : Nat) (a_sp_first : Nat) (a_sp_many : Nat) (a_sp_corner : Nat) (a_ws : Nat) (a_wk_steps : Nat) (a_wk_reached : Nat) (n_wk_steps : Nat) (n_wk_reached : Nat) (a_ws_first : Nat) (a_ws_many : Nat) (a_ws_corner : Nat) (a_g_rowCuts : Nat) (a_g_columnCuts : Nat) (a_g_bandRows : Nat) (a_g_zoneColumns : Nat) (a_g_rows : Nat) (a_g_sheets : Nat) (x_keptStates : Int32) (qu_word : Int32) (qu_level : Int32) (qu_key : Int32) (qu_otherLevel : Int32) (qu_otherKey : Int32) (sp_cornerCount : Int32) (sp_level : Int32) (sp_row : Int32) (sp_start : Int32) (sp_place : Int32) (sp_length : Int32) (sp_cap : Int32) (sp_first : Nat → Int32) (sp_many : Nat → Int32) (wk_many : Int32) (wk_steps : Nat → Int32) (wk_reached : Nat → Int32) (ws_cornerCount : Int32) (ws_level : Int32) (ws_row : Int32) (ws_start : Int32) (ws_place : Int32) (ws_length : Int32) (ws_cap : Int32) (ws_first : Nat → Int32) (ws_many : Nat → Int32) (bx_south : Int32) (bx_north : Int32) (bx_west : Int32) (bx_east : Int32) (g_bandRows : Nat → Int32) (g_zoneColumns : Nat → Int32) (g_rows : Nat → Int32) (g_sheets : Nat → Int32) (r : Int32) (o1 : Nat → Int32) (o2 : Nat → Int32) (o3 : Int32) (o4 : Int32) (o5 : Int32) (o6 : Int32) (o7 : Int32) (o8 : Int32) (o9 : Nat → Int32) (o10 : Nat → Int32) (o11 : Int32) (o12 : Nat → Int32) (o13 : Nat → Int32) (o14 : Int32) (o15 : Int32) (o16 : Int32) (o17 : Int32) (o18 : Int32) (o19 : Int32) (o20 : Int32) (o21 : Int32) (o22 : Int32) (o23 : Int32) (hf : f_X_answerToN N nL n_wk_steps qu_word qu_level qu_key qu_otherLevel qu_otherKey sp_first sp_many sp_level sp_row sp_start sp_place sp_length sp_cap wk_steps wk_reached wk_many ws_first ws_many ws_level ws_row ws_start ws_place ws_length ws_cap bx_south bx_north bx_west bx_east g_bandRows g_zoneColumns g_rows g_sheets = some (r, o1, o2, o3, o4, o5, o6, o7, o8, o9, o10, o11, o12, o13, o14, o15, o16, o17, o18, o19, o20, o21, o22, o23)) : Met l yX10_answerTo wsX10_answerTo ({ frames := 6, cells := 2, slots := (nL + nL), locals := 144 }) (va_Pc [.ref a_x, .ref a_qu] (q_N D ci A sa ((a_x, .inr (10, [.ref a_at, .ref a_g, .ref a_st, .ref a_x_kept, .int x_keptStates, .ref a_tp, .ref a_rd, .ref a_qu, .ref a_sp, .ref a_wk, .ref a_bx, .ref a_nt, .ref a_nu, .ref a_x_seen])) :: (a_qu, .inr (5, [.ref a_rd, .ref a_tp, .int qu_word, .int qu_level, .int qu_key, .int qu_otherLevel, .int qu_otherKey])) :: (a_sp, .inr (6, [.ref a_g, .ref a_sp_first, .ref a_sp_many, .ref a_sp_corner, .int sp_cornerCount, .int sp_level, .int sp_row, .int sp_start, .int sp_place, .int sp_length, .int sp_cap])) :: (a_sp_first, .inl (ci 0, 4, .inl sp_first)) :: (a_sp_many, .inl (ci 0, 4, .inl sp_many)) :: (a_wk, .inr (9, [.ref a_ws, .ref a_wk_steps, .ref a_wk_reached, .int wk_many])) :: (a_wk_steps, .inl (ci 0, n_wk_steps, .inl wk_steps)) :: (a_wk_reached, .inl (ci 0, n_wk_reached, .inl wk_reached)) :: (a_ws, .inr (6, [.ref a_g, .ref a_ws_first, .ref a_ws_many, .ref a_ws_corner, .int ws_cornerCount, .int ws_level, .int ws_row, .int ws_start, .int ws_place, .int ws_length, .int ws_cap])) :: (a_ws_first, .inl (ci 0, 4, .inl ws_first)) :: (a_ws_many, .inl (ci 0, 4, .inl ws_many)) :: (a_bx, .inr (1, [.ref a_g, .int bx_south, .int bx_north, .int bx_west, .int bx_east])) :: (a_g, .inr (2, [.ref a_g_rowCuts, .ref a_g_columnCuts, .ref a_g_bandRows, .ref a_g_zoneColumns, .ref a_g_rows, .ref a_g_sheets])) :: (a_g_bandRows, .inl (ci 0, 5, .inl g_bandRows)) :: (a_g_zoneColumns, .inl (ci 0, 5, .inl g_zoneColumns)) :: (a_g_rows, .inl (ci 0, 5, .inl g_rows)) :: (a_g_sheets, .inl (ci 0, 5, .inl g_sheets)) :: Rw))) (q_Q (some (.int r)) (fun t => ∃ b1 b2 : Nat, q_O D A ((a_x, .inr (10, [.ref a_at, .ref a_g, .ref a_st, .ref a_x_kept, .int x_keptStates, .ref a_tp, .ref a_rd, .ref a_qu, .ref a_sp, .ref a_wk, .ref a_bx, .ref a_nt, .ref a_nu, .ref a_x_seen])) :: (a_qu, .inr (5, [.ref a_rd, .ref a_tp, .int qu_word, .int qu_level, .int qu_key, .int qu_otherLevel, .int qu_otherKey])) :: (a_sp, .inr (6, [.ref a_g, .ref a_sp_first, .ref a_sp_many, .ref a_sp_corner, .int sp_cornerCount, .int o3, .int o4, .int o5, .int o6, .int o7, .int o8])) :: (a_sp_first, .inl (ci 0, 4, .inl o1)) :: (a_sp_many, .inl (ci 0, 4, .inl o2)) :: (a_wk, .inr (9, [.ref a_ws, .ref b1, .ref b2, .int o11])) :: (b1, .inl (ci 0, nL, .inl o9)) :: (b2, .inl (ci 0, nL, .inl o10)) :: (a_ws, .inr (6, [.ref a_g, .ref a_ws_first, .ref a_ws_many, .ref a_ws_corner, .int ws_cornerCount, .int o14, .int o15, .int o16, .int o17, .int o18, .int o19])) :: (a_ws_first, .inl (ci 0, 4, .inl o12)) :: (a_ws_many, .inl (ci 0, 4, .inl o13)) :: (a_bx, .inr (1, [.ref a_g, .int o20, .int o21, .int o22, .int o23])) :: (a_g, .inr (2, [.ref a_g_rowCuts, .ref a_g_columnCuts, .ref a_g_bandRows, .ref a_g_zoneColumns, .ref a_g_rows, .ref a_g_sheets])) :: (a_g_bandRows, .inl (ci 0, 5, .inl g_bandRows)) :: (a_g_zoneColumns, .inl (ci 0, 5, .inl g_zoneColumns)) :: (a_g_rows, .inl (ci 0, 5, .inl g_rows)) :: (a_g_sheets, .inl (ci 0, 5, .inl g_sheets)) :: Rw) t) A) 2 (nL + nL) A := by
  refine q_ofW (cc := cX10_answerTo) (maxL := 2) (ret := (some .int)) [.ref a_x, .ref a_qu] (plainFor_of_name (by decide)) rfl (Nat.le_of_ble_eq_true rfl) ?_
  intro p e s m below meth c ls Q hQ hx hb hml hr hts hown hlocks hK hA hZ hP hD hS hl
  have hl : lv_has ls 2 [(0, .ref a_x), (1, .ref a_qu)] := hl
  have hown : s.vm.findClass RX10 = some m.cls := hown
  have hinX10 : ∀ w ∈ wsX100, w ∈ wsX10_answerTo := fun _ h => List.mem_cons_of_mem _ (inWX100 _ h)
  have hinX5 : ∀ w ∈ wsX50, w ∈ wsX10_answerTo := fun _ h => List.mem_cons_of_mem _ (inWX50 _ h)
  have w_1 := hts (Cond.fieldLink RX10 20 "SheetNames" "grid" "LSheetNames$Grid;") (List.mem_cons_of_mem _ t_w876)
  have wn_20 : (Cond.fieldLinkNest "SheetNames" 347 "SheetNames$Question" "word" "I" "SheetNames").before ([.ref a_x, .ref a_qu] : List Value).toArray s = true := (hZ.2.2.2.2.2.2.2.2.2.1 _ (List.mem_of_getElem? (i := 20) rfl)).use rfl
  have wn_21 : (Cond.fieldLinkNest "SheetNames" 350 "SheetNames$Question" "level" "I" "SheetNames").before ([.ref a_x, .ref a_qu] : List Value).toArray s = true := (hZ.2.2.2.2.2.2.2.2.2.1 _ (List.mem_of_getElem? (i := 21) rfl)).use rfl
  have wn_22 : (Cond.fieldLinkNest "SheetNames" 351 "SheetNames$Question" "key" "I" "SheetNames").before ([.ref a_x, .ref a_qu] : List Value).toArray s = true := (hZ.2.2.2.2.2.2.2.2.2.1 _ (List.mem_of_getElem? (i := 22) rfl)).use rfl
  have wn_23 : (Cond.fieldLinkNest "SheetNames" 356 "SheetNames$Question" "otherLevel" "I" "SheetNames").before ([.ref a_x, .ref a_qu] : List Value).toArray s = true := (hZ.2.2.2.2.2.2.2.2.2.1 _ (List.mem_of_getElem? (i := 23) rfl)).use rfl
  have wn_24 : (Cond.fieldLinkNest "SheetNames" 359 "SheetNames$Question" "otherKey" "I" "SheetNames").before ([.ref a_x, .ref a_qu] : List Value).toArray s = true := (hZ.2.2.2.2.2.2.2.2.2.1 _ (List.mem_of_getElem? (i := 24) rfl)).use rfl
  unfold f_X_answerToN at hf
  have hgo : ∀ (H : Heap) (locs : List Loc), H = s.heap → va_P D vwCl ((a_x, .inr (10, [.ref a_at, .ref a_g, .ref a_st, .ref a_x_kept, .int x_keptStates, .ref a_tp, .ref a_rd, .ref a_qu, .ref a_sp, .ref a_wk, .ref a_bx, .ref a_nt, .ref a_nu, .ref a_x_seen])) :: (a_qu, .inr (5, [.ref a_rd, .ref a_tp, .int qu_word, .int qu_level, .int qu_key, .int qu_otherLevel, .int qu_otherKey])) :: (a_sp, .inr (6, [.ref a_g, .ref a_sp_first, .ref a_sp_many, .ref a_sp_corner, .int sp_cornerCount, .int sp_level, .int sp_row, .int sp_start, .int sp_place, .int sp_length, .int sp_cap])) :: (a_sp_first, .inl (ci 0, 4, .inl sp_first)) :: (a_sp_many, .inl (ci 0, 4, .inl sp_many)) :: (a_wk, .inr (9, [.ref a_ws, .ref a_wk_steps, .ref a_wk_reached, .int wk_many])) :: (a_wk_steps, .inl (ci 0, n_wk_steps, .inl wk_steps)) :: (a_wk_reached, .inl (ci 0, n_wk_reached, .inl wk_reached)) :: (a_ws, .inr (6, [.ref a_g, .ref a_ws_first, .ref a_ws_many, .ref a_ws_corner, .int ws_cornerCount, .int ws_level, .int ws_row, .int ws_start, .int ws_place, .int ws_length, .int ws_cap])) :: (a_ws_first, .inl (ci 0, 4, .inl ws_first)) :: (a_ws_many, .inl (ci 0, 4, .inl ws_many)) :: (a_bx, .inr (1, [.ref a_g, .int bx_south, .int bx_north, .int bx_west, .int bx_east])) :: (a_g, .inr (2, [.ref a_g_rowCuts, .ref a_g_columnCuts, .ref a_g_bandRows, .ref a_g_zoneColumns, .ref a_g_rows, .ref a_g_sheets])) :: (a_g_bandRows, .inl (ci 0, 5, .inl g_bandRows)) :: (a_g_zoneColumns, .inl (ci 0, 5, .inl g_zoneColumns)) :: (a_g_rows, .inl (ci 0, 5, .inl g_rows)) :: (a_g_sheets, .inl (ci 0, 5, .inl g_sheets)) :: Rw) H → va_S A s.heap H locs → W p l e ({ frames := 6, cells := 2, slots := (nL + nL), locals := 144 } : Room) s m ([.ref a_x, .ref a_qu] : List Value).toArray below meth c H locs 0 0 Q (F0 m 0 ls []) := by
    intro H locs hH hP hS
    refine lv_aload_n (pc := 0) hx hb dX10_answerTo_0 rfl (lv_at hl 1 rfl) ?_
    refine va_getN (pc := 1) (D := D) (ci := 5) (v := .int qu_word) (C := RX5) (T := TX5) (N := 7) hx hb hts hinX5 hown hK hP 1 rfl rfl 2 (by decide) wn_20 (fun _ h9 => h9) rfl dX10_answerTo_1 ?_
    refine lv_iconst (pc := 4) (v := 4) hx hb dX10_answerTo_4 (by decide) ?_
    refine q_icmp_ne (pc := 5) (tgt := 42) hx hb dX10_answerTo_5 (by decide) rfl hf (fun hf => ?_) (fun hf => ?_)
    · refine lv_aload_n (pc := 42) hx hb dX10_answerTo_42 rfl (lv_at hl 1 rfl) ?_
      refine va_getN (pc := 43) (D := D) (ci := 5) (v := .int qu_word) (C := RX5) (T := TX5) (N := 7) hx hb hts hinX5 hown hK hP 1 rfl rfl 2 (by decide) wn_20 (fun _ h9 => h9) rfl dX10_answerTo_43 ?_
      refine lv_iconst (pc := 46) (v := 4) hx hb dX10_answerTo_46 (by decide) ?_
      refine q_icmp_ge (pc := 47) (tgt := 68) hx hb dX10_answerTo_47 (by decide) rfl hf (fun hf => ?_) (fun hf => ?_)
      · refine lv_aload_n (pc := 68) hx hb dX10_answerTo_68 rfl (lv_at hl 1 rfl) ?_
        refine va_getN (pc := 69) (D := D) (ci := 5) (v := .int qu_level) (C := RX5) (T := TX5) (N := 7) hx hb hts hinX5 hown hK hP 1 rfl rfl 3 (by decide) wn_21 (fun _ h9 => h9) rfl dX10_answerTo_69 ?_
        refine lv_aload_n (pc := 72) hx hb dX10_answerTo_72 rfl (lv_at hl 1 rfl) ?_
        refine va_getN (pc := 73) (D := D) (ci := 5) (v := .int qu_otherLevel) (C := RX5) (T := TX5) (N := 7) hx hb hts hinX5 hown hK hP 1 rfl rfl 5 (by decide) wn_23 (fun _ h9 => h9) rfl dX10_answerTo_73 ?_
        refine q_icmp_eq (pc := 76) (tgt := 82) hx hb dX10_answerTo_76 (by decide) rfl hf (fun hf => ?_) (fun hf => ?_)
        · refine lv_aload_n (pc := 82) hx hb dX10_answerTo_82 rfl (lv_at hl 1 rfl) ?_
          refine va_getN (pc := 83) (D := D) (ci := 5) (v := .int qu_word) (C := RX5) (T := TX5) (N := 7) hx hb hts hinX5 hown hK hP 1 rfl rfl 2 (by decide) wn_20 (fun _ h9 => h9) rfl dX10_answerTo_83 ?_
          refine lv_iconst (pc := 86) (v := 5) hx hb dX10_answerTo_86 (by decide) ?_
          refine q_icmp_ne (pc := 87) (tgt := 107) hx hb dX10_answerTo_87 (by decide) rfl hf (fun hf => ?_) (fun hf => ?_)
          · refine lv_aload_n (pc := 107) hx hb dX10_answerTo_107 rfl (lv_at hl 0 rfl) ?_
            refine lv_aload_n (pc := 108) hx hb dX10_answerTo_108 rfl (lv_at hl 1 rfl) ?_
            refine va_getN (pc := 109) (D := D) (ci := 5) (v := .int qu_level) (C := RX5) (T := TX5) (N := 7) hx hb hts hinX5 hown hK hP 1 rfl rfl 3 (by decide) wn_21 (fun _ h9 => h9) rfl dX10_answerTo_109 ?_
            refine lv_aload_n (pc := 112) hx hb dX10_answerTo_112 rfl (lv_at hl 1 rfl) ?_
            refine va_getN (pc := 113) (D := D) (ci := 5) (v := .int qu_key) (C := RX5) (T := TX5) (N := 7) hx hb hts hinX5 hown hK hP 1 rfl rfl 4 (by decide) wn_22 (fun _ h9 => h9) rfl dX10_answerTo_113 ?_
            refine lv_aload_n (pc := 116) hx hb dX10_answerTo_116 rfl (lv_at hl 1 rfl) ?_
            refine va_getN (pc := 117) (D := D) (ci := 5) (v := .int qu_otherKey) (C := RX5) (T := TX5) (N := 7) hx hb hts hinX5 hown hK hP 1 rfl rfl 6 (by decide) wn_24 (fun _ h9 => h9) rfl dX10_answerTo_117 ?_
            obtain ⟨v1, v2, v3, v4, v5, v6, v7, v8, v9, v10, v11, hm120, hf⟩ := q_b11_e hf
            refine q_cV (pc := 120) (As := [.int qu_level, .int qu_key, .int qu_otherKey]) (rest := []) (v0 := (some (.int v1))) ⟨hx, hb, hml, hown, hts⟩ hK hA hZ hP hD hS hl.1 [0, 2, 11, 12, 13, 14, 15, 16, 1, 3, 4, 5, 6, 7, 8, 9, 10] 17 rfl ⟨rfl, rfl, rfl⟩ (c_X_between l D ci A sa N ((a_qu, .inr (5, [.ref a_rd, .ref a_tp, .int qu_word, .int qu_level, .int qu_key, .int qu_otherLevel, .int qu_otherKey])) :: (a_sp_first, .inl (ci 0, 4, .inl sp_first)) :: (a_sp_many, .inl (ci 0, 4, .inl sp_many)) :: (a_wk, .inr (9, [.ref a_ws, .ref a_wk_steps, .ref a_wk_reached, .int wk_many])) :: (a_wk_steps, .inl (ci 0, n_wk_steps, .inl wk_steps)) :: (a_wk_reached, .inl (ci 0, n_wk_reached, .inl wk_reached)) :: (a_ws, .inr (6, [.ref a_g, .ref a_ws_first, .ref a_ws_many, .ref a_ws_corner, .int ws_cornerCount, .int ws_level, .int ws_row, .int ws_start, .int ws_place, .int ws_length, .int ws_cap])) :: (a_ws_first, .inl (ci 0, 4, .inl ws_first)) :: (a_ws_many, .inl (ci 0, 4, .inl ws_many)) :: Rw) a_x a_at a_g a_st a_x_kept a_tp a_rd a_qu a_sp a_wk a_bx a_nt a_nu a_x_seen a_sp_first a_sp_many a_sp_corner a_g_rowCuts a_g_columnCuts a_g_bandRows a_g_zoneColumns a_g_rows a_g_sheets x_keptStates sp_cornerCount sp_level sp_row sp_start sp_place sp_length sp_cap bx_south bx_north bx_west bx_east g_bandRows g_zoneColumns g_rows g_sheets qu_level qu_key qu_otherKey v1 v2 v3 v4 v5 v6 v7 v8 v9 v10 v11 hm120) 0 rfl rfl (cwV 3 hts gX10_answerTo_X10_between rfl rfl rfl (by decide +kernel) ⟨Nat.le_of_ble_eq_true rfl, Nat.le_of_ble_eq_true rfl⟩) rfl rfl (Nat.le_of_ble_eq_true rfl) dX10_answerTo_120 ⟨Nat.zero_le _, Nat.zero_le _⟩ [0, 8, 1, 9, 10, 11, 12, 13, 14, 15, 16, 2, 3, 4, 5, 6, 7] 17 rfl ⟨rfl, rfl, rfl⟩ (fun H locs hP hD hS => ?_)
            obtain ⟨hP, hD⟩ : va_PD D A ((a_x, .inr (10, [.ref a_at, .ref a_g, .ref a_st, .ref a_x_kept, .int x_keptStates, .ref a_tp, .ref a_rd, .ref a_qu, .ref a_sp, .ref a_wk, .ref a_bx, .ref a_nt, .ref a_nu, .ref a_x_seen])) :: (a_qu, .inr (5, [.ref a_rd, .ref a_tp, .int qu_word, .int qu_level, .int qu_key, .int qu_otherLevel, .int qu_otherKey])) :: (a_sp, .inr (6, [.ref a_g, .ref a_sp_first, .ref a_sp_many, .ref a_sp_corner, .int sp_cornerCount, .int v2, .int v3, .int v4, .int v5, .int v6, .int v7])) :: (a_sp_first, .inl (ci 0, 4, .inl sp_first)) :: (a_sp_many, .inl (ci 0, 4, .inl sp_many)) :: (a_wk, .inr (9, [.ref a_ws, .ref a_wk_steps, .ref a_wk_reached, .int wk_many])) :: (a_wk_steps, .inl (ci 0, n_wk_steps, .inl wk_steps)) :: (a_wk_reached, .inl (ci 0, n_wk_reached, .inl wk_reached)) :: (a_ws, .inr (6, [.ref a_g, .ref a_ws_first, .ref a_ws_many, .ref a_ws_corner, .int ws_cornerCount, .int ws_level, .int ws_row, .int ws_start, .int ws_place, .int ws_length, .int ws_cap])) :: (a_ws_first, .inl (ci 0, 4, .inl ws_first)) :: (a_ws_many, .inl (ci 0, 4, .inl ws_many)) :: (a_bx, .inr (1, [.ref a_g, .int v8, .int v9, .int v10, .int v11])) :: (a_g, .inr (2, [.ref a_g_rowCuts, .ref a_g_columnCuts, .ref a_g_bandRows, .ref a_g_zoneColumns, .ref a_g_rows, .ref a_g_sheets])) :: (a_g_bandRows, .inl (ci 0, 5, .inl g_bandRows)) :: (a_g_zoneColumns, .inl (ci 0, 5, .inl g_zoneColumns)) :: (a_g_rows, .inl (ci 0, 5, .inl g_rows)) :: (a_g_sheets, .inl (ci 0, 5, .inl g_sheets)) :: Rw) H := ⟨hP, hD⟩
            cases hf
          · refine lv_aload_n (pc := 90) hx hb dX10_answerTo_90 rfl (lv_at hl 0 rfl) ?_
            refine lv_aload_n (pc := 91) hx hb dX10_answerTo_91 rfl (lv_at hl 1 rfl) ?_
            refine va_getN (pc := 92) (D := D) (ci := 5) (v := .int qu_level) (C := RX5) (T := TX5) (N := 7) hx hb hts hinX5 hown hK hP 1 rfl rfl 3 (by decide) wn_21 (fun _ h9 => h9) rfl dX10_answerTo_92 ?_
            refine lv_aload_n (pc := 95) hx hb dX10_answerTo_95 rfl (lv_at hl 1 rfl) ?_
            refine va_getN (pc := 96) (D := D) (ci := 5) (v := .int qu_key) (C := RX5) (T := TX5) (N := 7) hx hb hts hinX5 hown hK hP 1 rfl rfl 4 (by decide) wn_22 (fun _ h9 => h9) rfl dX10_answerTo_96 ?_
            refine lv_aload_n (pc := 99) hx hb dX10_answerTo_99 rfl (lv_at hl 1 rfl) ?_
            refine va_getN (pc := 100) (D := D) (ci := 5) (v := .int qu_otherKey) (C := RX5) (T := TX5) (N := 7) hx hb hts hinX5 hown hK hP 1 rfl rfl 6 (by decide) wn_24 (fun _ h9 => h9) rfl dX10_answerTo_100 ?_
            obtain ⟨v12, f13, f14, v15, f16, f17, v18, v19, v20, v21, v22, v23, hm103, hf⟩ := q_b12_e hf
            refine q_cVx (W2x := fun b1 b2 => (a_x, .inr (10, [.ref a_at, .ref a_g, .ref a_st, .ref a_x_kept, .int x_keptStates, .ref a_tp, .ref a_rd, .ref a_qu, .ref a_sp, .ref a_wk, .ref a_bx, .ref a_nt, .ref a_nu, .ref a_x_seen])) :: (a_wk, .inr (9, [.ref a_ws, .ref b1, .ref b2, .int v15])) :: (b1, .inl (ci 0, nL, .inl f13)) :: (b2, .inl (ci 0, nL, .inl f14)) :: (a_ws, .inr (6, [.ref a_g, .ref a_ws_first, .ref a_ws_many, .ref a_ws_corner, .int ws_cornerCount, .int v18, .int v19, .int v20, .int v21, .int v22, .int v23])) :: (a_ws_first, .inl (ci 0, 4, .inl f16)) :: (a_ws_many, .inl (ci 0, 4, .inl f17)) :: (a_g, .inr (2, [.ref a_g_rowCuts, .ref a_g_columnCuts, .ref a_g_bandRows, .ref a_g_zoneColumns, .ref a_g_rows, .ref a_g_sheets])) :: (a_g_bandRows, .inl (ci 0, 5, .inl g_bandRows)) :: (a_g_zoneColumns, .inl (ci 0, 5, .inl g_zoneColumns)) :: (a_g_rows, .inl (ci 0, 5, .inl g_rows)) :: (a_g_sheets, .inl (ci 0, 5, .inl g_sheets)) :: (a_qu, .inr (5, [.ref a_rd, .ref a_tp, .int qu_word, .int qu_level, .int qu_key, .int qu_otherLevel, .int qu_otherKey])) :: (a_sp, .inr (6, [.ref a_g, .ref a_sp_first, .ref a_sp_many, .ref a_sp_corner, .int sp_cornerCount, .int sp_level, .int sp_row, .int sp_start, .int sp_place, .int sp_length, .int sp_cap])) :: (a_sp_first, .inl (ci 0, 4, .inl sp_first)) :: (a_sp_many, .inl (ci 0, 4, .inl sp_many)) :: (a_bx, .inr (1, [.ref a_g, .int bx_south, .int bx_north, .int bx_west, .int bx_east])) :: Rw) (W3x := fun b1 b2 => (a_x, .inr (10, [.ref a_at, .ref a_g, .ref a_st, .ref a_x_kept, .int x_keptStates, .ref a_tp, .ref a_rd, .ref a_qu, .ref a_sp, .ref a_wk, .ref a_bx, .ref a_nt, .ref a_nu, .ref a_x_seen])) :: (a_qu, .inr (5, [.ref a_rd, .ref a_tp, .int qu_word, .int qu_level, .int qu_key, .int qu_otherLevel, .int qu_otherKey])) :: (a_sp, .inr (6, [.ref a_g, .ref a_sp_first, .ref a_sp_many, .ref a_sp_corner, .int sp_cornerCount, .int sp_level, .int sp_row, .int sp_start, .int sp_place, .int sp_length, .int sp_cap])) :: (a_sp_first, .inl (ci 0, 4, .inl sp_first)) :: (a_sp_many, .inl (ci 0, 4, .inl sp_many)) :: (a_wk, .inr (9, [.ref a_ws, .ref b1, .ref b2, .int v15])) :: (b1, .inl (ci 0, nL, .inl f13)) :: (b2, .inl (ci 0, nL, .inl f14)) :: (a_ws, .inr (6, [.ref a_g, .ref a_ws_first, .ref a_ws_many, .ref a_ws_corner, .int ws_cornerCount, .int v18, .int v19, .int v20, .int v21, .int v22, .int v23])) :: (a_ws_first, .inl (ci 0, 4, .inl f16)) :: (a_ws_many, .inl (ci 0, 4, .inl f17)) :: (a_bx, .inr (1, [.ref a_g, .int bx_south, .int bx_north, .int bx_west, .int bx_east])) :: (a_g, .inr (2, [.ref a_g_rowCuts, .ref a_g_columnCuts, .ref a_g_bandRows, .ref a_g_zoneColumns, .ref a_g_rows, .ref a_g_sheets])) :: (a_g_bandRows, .inl (ci 0, 5, .inl g_bandRows)) :: (a_g_zoneColumns, .inl (ci 0, 5, .inl g_zoneColumns)) :: (a_g_rows, .inl (ci 0, 5, .inl g_rows)) :: (a_g_sheets, .inl (ci 0, 5, .inl g_sheets)) :: Rw) (pc := 103) (As := [.int qu_level, .int qu_key, .int qu_otherKey]) (rest := []) (v0 := (some (.int v12))) ⟨hx, hb, hml, hown, hts⟩ hK hA hZ hP hD hS hl.1 [0, 5, 6, 7, 8, 9, 10, 12, 13, 14, 15, 16, 1, 2, 3, 4, 11] 17 rfl ⟨rfl, rfl, rfl⟩ (c_X_stepsN l D ci A sa N ((a_qu, .inr (5, [.ref a_rd, .ref a_tp, .int qu_word, .int qu_level, .int qu_key, .int qu_otherLevel, .int qu_otherKey])) :: (a_sp, .inr (6, [.ref a_g, .ref a_sp_first, .ref a_sp_many, .ref a_sp_corner, .int sp_cornerCount, .int sp_level, .int sp_row, .int sp_start, .int sp_place, .int sp_length, .int sp_cap])) :: (a_sp_first, .inl (ci 0, 4, .inl sp_first)) :: (a_sp_many, .inl (ci 0, 4, .inl sp_many)) :: (a_bx, .inr (1, [.ref a_g, .int bx_south, .int bx_north, .int bx_west, .int bx_east])) :: Rw) nL a_x a_at a_g a_st a_x_kept a_tp a_rd a_qu a_sp a_wk a_bx a_nt a_nu a_x_seen a_ws a_wk_steps a_wk_reached n_wk_steps n_wk_reached a_ws_first a_ws_many a_ws_corner a_g_rowCuts a_g_columnCuts a_g_bandRows a_g_zoneColumns a_g_rows a_g_sheets x_keptStates wk_many wk_steps wk_reached ws_cornerCount ws_level ws_row ws_start ws_place ws_length ws_cap ws_first ws_many g_bandRows g_zoneColumns g_rows g_sheets qu_level qu_key qu_otherKey v12 f13 f14 v15 f16 f17 v18 v19 v20 v21 v22 v23 hm103) 0 rfl rfl (cwV 3 hts gX10_answerTo_X10_steps rfl rfl rfl (by decide +kernel) ⟨Nat.le_of_ble_eq_true rfl, Nat.le_of_ble_eq_true rfl⟩) rfl rfl (Nat.le_of_ble_eq_true rfl) dX10_answerTo_103 ⟨Nat.le_of_eq (Nat.zero_add _), Nat.le_of_eq (Nat.zero_add _)⟩ [0, 12, 13, 14, 15, 1, 2, 3, 4, 5, 6, 16, 7, 8, 9, 10, 11] 17 (fun _ _ => rfl) (fun _ _ => ⟨rfl, rfl, rfl⟩) (fun b1_103 b2_103 H locs hP hD hS => ?_)
            obtain ⟨hP, hD⟩ : va_PD D A ((a_x, .inr (10, [.ref a_at, .ref a_g, .ref a_st, .ref a_x_kept, .int x_keptStates, .ref a_tp, .ref a_rd, .ref a_qu, .ref a_sp, .ref a_wk, .ref a_bx, .ref a_nt, .ref a_nu, .ref a_x_seen])) :: (a_qu, .inr (5, [.ref a_rd, .ref a_tp, .int qu_word, .int qu_level, .int qu_key, .int qu_otherLevel, .int qu_otherKey])) :: (a_sp, .inr (6, [.ref a_g, .ref a_sp_first, .ref a_sp_many, .ref a_sp_corner, .int sp_cornerCount, .int sp_level, .int sp_row, .int sp_start, .int sp_place, .int sp_length, .int sp_cap])) :: (a_sp_first, .inl (ci 0, 4, .inl sp_first)) :: (a_sp_many, .inl (ci 0, 4, .inl sp_many)) :: (a_wk, .inr (9, [.ref a_ws, .ref b1_103, .ref b2_103, .int v15])) :: (b1_103, .inl (ci 0, nL, .inl f13)) :: (b2_103, .inl (ci 0, nL, .inl f14)) :: (a_ws, .inr (6, [.ref a_g, .ref a_ws_first, .ref a_ws_many, .ref a_ws_corner, .int ws_cornerCount, .int v18, .int v19, .int v20, .int v21, .int v22, .int v23])) :: (a_ws_first, .inl (ci 0, 4, .inl f16)) :: (a_ws_many, .inl (ci 0, 4, .inl f17)) :: (a_bx, .inr (1, [.ref a_g, .int bx_south, .int bx_north, .int bx_west, .int bx_east])) :: (a_g, .inr (2, [.ref a_g_rowCuts, .ref a_g_columnCuts, .ref a_g_bandRows, .ref a_g_zoneColumns, .ref a_g_rows, .ref a_g_sheets])) :: (a_g_bandRows, .inl (ci 0, 5, .inl g_bandRows)) :: (a_g_zoneColumns, .inl (ci 0, 5, .inl g_zoneColumns)) :: (a_g_rows, .inl (ci 0, 5, .inl g_rows)) :: (a_g_sheets, .inl (ci 0, 5, .inl g_sheets)) :: Rw) H := ⟨hP, hD⟩
            refine W.widen (k := 2) (n := nL + nL) (by omega) (by omega) ?_
            obtain ⟨rfl, rfl, rfl, rfl, rfl, rfl, rfl, rfl, rfl, rfl, rfl, rfl, rfl, rfl, rfl, rfl, rfl, rfl, rfl, rfl, rfl, rfl, rfl, rfl⟩ := q_inj24 (Option.some.inj hf)
            rw [hQ]
            exact q_iretx (pc := 106) hx hb hr hlocks (fun t ht => ⟨_, _, by rw [ht]; exact hP, hD⟩) hS dX10_answerTo_106
        · refine lv_bipush (pc := 79) (v := (-2)) hx hb dX10_answerTo_79 (by decide) ?_
          cases hf
      · refine lv_aload_n (pc := 50) hx hb dX10_answerTo_50 rfl (lv_at hl 0 rfl) ?_
        refine lv_aload_n (pc := 51) hx hb dX10_answerTo_51 rfl (lv_at hl 1 rfl) ?_
        refine va_getN (pc := 52) (D := D) (ci := 5) (v := .int qu_level) (C := RX5) (T := TX5) (N := 7) hx hb hts hinX5 hown hK hP 1 rfl rfl 3 (by decide) wn_21 (fun _ h9 => h9) rfl dX10_answerTo_52 ?_
        refine lv_aload_n (pc := 55) hx hb dX10_answerTo_55 rfl (lv_at hl 1 rfl) ?_
        refine va_getN (pc := 56) (D := D) (ci := 5) (v := .int qu_key) (C := RX5) (T := TX5) (N := 7) hx hb hts hinX5 hown hK hP 1 rfl rfl 4 (by decide) wn_22 (fun _ h9 => h9) rfl dX10_answerTo_56 ?_
        refine lv_aload_n (pc := 59) hx hb dX10_answerTo_59 rfl (lv_at hl 1 rfl) ?_
        refine va_getN (pc := 60) (D := D) (ci := 5) (v := .int qu_word) (C := RX5) (T := TX5) (N := 7) hx hb hts hinX5 hown hK hP 1 rfl rfl 2 (by decide) wn_20 (fun _ h9 => h9) rfl dX10_answerTo_60 ?_
        refine lv_iconst (pc := 63) (v := 0) hx hb dX10_answerTo_63 (by decide) ?_
        obtain ⟨v24, f25, f26, v27, v28, v29, v30, v31, v32, hm64, hf⟩ := q_b9_e hf
        refine q_cV (pc := 64) (As := [.int qu_level, .int qu_key, .int qu_word, .int 0]) (rest := []) (v0 := (some (.int v24))) ⟨hx, hb, hml, hown, hts⟩ hK hA hZ hP hD hS hl.1 [0, 2, 3, 4, 12, 13, 14, 15, 16, 1, 5, 6, 7, 8, 9, 10, 11] 17 rfl ⟨rfl, rfl, rfl⟩ (c_X_neighbour l D ci A sa N ((a_qu, .inr (5, [.ref a_rd, .ref a_tp, .int qu_word, .int qu_level, .int qu_key, .int qu_otherLevel, .int qu_otherKey])) :: (a_wk, .inr (9, [.ref a_ws, .ref a_wk_steps, .ref a_wk_reached, .int wk_many])) :: (a_wk_steps, .inl (ci 0, n_wk_steps, .inl wk_steps)) :: (a_wk_reached, .inl (ci 0, n_wk_reached, .inl wk_reached)) :: (a_ws, .inr (6, [.ref a_g, .ref a_ws_first, .ref a_ws_many, .ref a_ws_corner, .int ws_cornerCount, .int ws_level, .int ws_row, .int ws_start, .int ws_place, .int ws_length, .int ws_cap])) :: (a_ws_first, .inl (ci 0, 4, .inl ws_first)) :: (a_ws_many, .inl (ci 0, 4, .inl ws_many)) :: (a_bx, .inr (1, [.ref a_g, .int bx_south, .int bx_north, .int bx_west, .int bx_east])) :: Rw) a_x a_at a_g a_st a_x_kept a_tp a_rd a_qu a_sp a_wk a_bx a_nt a_nu a_x_seen a_sp_first a_sp_many a_sp_corner a_g_rowCuts a_g_columnCuts a_g_bandRows a_g_zoneColumns a_g_rows a_g_sheets x_keptStates sp_cornerCount sp_level sp_row sp_start sp_place sp_length sp_cap sp_first sp_many g_bandRows g_zoneColumns g_rows g_sheets qu_level qu_key qu_word 0 v24 f25 f26 v27 v28 v29 v30 v31 v32 hm64) 0 rfl rfl (cwV 4 hts gX10_answerTo_X10_neighbour rfl rfl rfl (by decide +kernel) ⟨Nat.le_of_ble_eq_true rfl, Nat.le_of_ble_eq_true rfl⟩) rfl rfl (Nat.le_of_ble_eq_true rfl) dX10_answerTo_64 ⟨Nat.zero_le _, Nat.zero_le _⟩ [0, 9, 1, 2, 3, 10, 11, 12, 13, 14, 15, 16, 4, 5, 6, 7, 8] 17 rfl ⟨rfl, rfl, rfl⟩ (fun H locs hP hD hS => ?_)
        obtain ⟨hP, hD⟩ : va_PD D A ((a_x, .inr (10, [.ref a_at, .ref a_g, .ref a_st, .ref a_x_kept, .int x_keptStates, .ref a_tp, .ref a_rd, .ref a_qu, .ref a_sp, .ref a_wk, .ref a_bx, .ref a_nt, .ref a_nu, .ref a_x_seen])) :: (a_qu, .inr (5, [.ref a_rd, .ref a_tp, .int qu_word, .int qu_level, .int qu_key, .int qu_otherLevel, .int qu_otherKey])) :: (a_sp, .inr (6, [.ref a_g, .ref a_sp_first, .ref a_sp_many, .ref a_sp_corner, .int sp_cornerCount, .int v27, .int v28, .int v29, .int v30, .int v31, .int v32])) :: (a_sp_first, .inl (ci 0, 4, .inl f25)) :: (a_sp_many, .inl (ci 0, 4, .inl f26)) :: (a_wk, .inr (9, [.ref a_ws, .ref a_wk_steps, .ref a_wk_reached, .int wk_many])) :: (a_wk_steps, .inl (ci 0, n_wk_steps, .inl wk_steps)) :: (a_wk_reached, .inl (ci 0, n_wk_reached, .inl wk_reached)) :: (a_ws, .inr (6, [.ref a_g, .ref a_ws_first, .ref a_ws_many, .ref a_ws_corner, .int ws_cornerCount, .int ws_level, .int ws_row, .int ws_start, .int ws_place, .int ws_length, .int ws_cap])) :: (a_ws_first, .inl (ci 0, 4, .inl ws_first)) :: (a_ws_many, .inl (ci 0, 4, .inl ws_many)) :: (a_bx, .inr (1, [.ref a_g, .int bx_south, .int bx_north, .int bx_west, .int bx_east])) :: (a_g, .inr (2, [.ref a_g_rowCuts, .ref a_g_columnCuts, .ref a_g_bandRows, .ref a_g_zoneColumns, .ref a_g_rows, .ref a_g_sheets])) :: (a_g_bandRows, .inl (ci 0, 5, .inl g_bandRows)) :: (a_g_zoneColumns, .inl (ci 0, 5, .inl g_zoneColumns)) :: (a_g_rows, .inl (ci 0, 5, .inl g_rows)) :: (a_g_sheets, .inl (ci 0, 5, .inl g_sheets)) :: Rw) H := ⟨hP, hD⟩
        cases hf
    · refine lv_aload_n (pc := 8) hx hb dX10_answerTo_8 rfl (lv_at hl 1 rfl) ?_
      refine va_getN (pc := 9) (D := D) (ci := 5) (v := .int qu_level) (C := RX5) (T := TX5) (N := 7) hx hb hts hinX5 hown hK hP 1 rfl rfl 3 (by decide) wn_21 (fun _ h9 => h9) rfl dX10_answerTo_9 ?_
      refine q_if_ne (pc := 12) (tgt := 20) hx hb dX10_answerTo_12 (by decide) rfl hf (fun hf => ?_) (fun hf => ?_)
      · refine lv_aload_n (pc := 20) hx hb dX10_answerTo_20 rfl (lv_at hl 0 rfl) ?_
        refine va_get (pc := 21) (D := D) (ci := 10) (v := .ref a_g) (C := RX10) (T := TX10) (N := 14) hx hb hts hinX10 hown hK hP 0 rfl rfl 1 (by decide) w_1 (fun _ h9 => h9) rfl dX10_answerTo_21 ?_
        refine lv_aload_n (pc := 24) hx hb dX10_answerTo_24 rfl (lv_at hl 1 rfl) ?_
        refine va_getN (pc := 25) (D := D) (ci := 5) (v := .int qu_level) (C := RX5) (T := TX5) (N := 7) hx hb hts hinX5 hown hK hP 1 rfl rfl 3 (by decide) wn_21 (fun _ h9 => h9) rfl dX10_answerTo_25 ?_
        refine lv_aload_n (pc := 28) hx hb dX10_answerTo_28 rfl (lv_at hl 1 rfl) ?_
        refine va_getN (pc := 29) (D := D) (ci := 5) (v := .int qu_key) (C := RX5) (T := TX5) (N := 7) hx hb hts hinX5 hown hK hP 1 rfl rfl 4 (by decide) wn_22 (fun _ h9 => h9) rfl dX10_answerTo_29 ?_
        refine lv_aload_n (pc := 32) hx hb dX10_answerTo_32 rfl (lv_at hl 1 rfl) ?_
        refine va_getN (pc := 33) (D := D) (ci := 5) (v := .int qu_level) (C := RX5) (T := TX5) (N := 7) hx hb hts hinX5 hown hK hP 1 rfl rfl 3 (by decide) wn_21 (fun _ h9 => h9) rfl dX10_answerTo_33 ?_
        refine lv_iconst (pc := 36) (v := 1) hx hb dX10_answerTo_36 (by decide) ?_
        refine lv_isub (pc := 37) hx hb dX10_answerTo_37 ?_
        obtain ⟨v33, hm38, hf⟩ := q_b1_e hf
        refine q_cVr (pc := 38) (As := [.int qu_level, .int qu_key, .int (qu_level - 1)]) (rest := []) (v0 := (some (.int v33))) ⟨hx, hb, hml, hown, hts⟩ hK hA hZ hP hD hS hl.1 [12, 13, 14, 15, 16] 17 rfl ⟨rfl, rfl, rfl⟩ (c_Grid_keyAbove l D ci A sa N (Rw) a_g a_g_rowCuts a_g_columnCuts a_g_bandRows a_g_zoneColumns a_g_rows a_g_sheets g_bandRows g_zoneColumns g_rows g_sheets qu_level qu_key (qu_level - 1) v33 hm38) 12 rfl rfl (cwV 3 hts gX10_answerTo_X2_keyAbove rfl rfl rfl (by decide +kernel) ⟨Nat.le_of_ble_eq_true rfl, Nat.le_of_ble_eq_true rfl⟩) rfl rfl (Nat.le_of_ble_eq_true rfl) dX10_answerTo_38 ⟨Nat.zero_le _, Nat.zero_le _⟩ (fun locs hS => ?_)
        cases hf
      · refine lv_bipush (pc := 15) (v := (-2)) hx hb dX10_answerTo_15 (by decide) ?_
        refine lv_goto (pc := 17) (tgt := 41) hx hb dX10_answerTo_17 (by decide) ?_
        cases hf
  exact hgo _ _ rfl hP hS
/-! X10_ask!N -/
set_option maxRecDepth 100000 in
set_option maxHeartbeats 4000000 in
theorem c_X_askN (l : Launch) (D : va_G) (ci : Nat → ClassId) (A : Nat → Prop) (sa : Nat → Nat) (N : Nat) (Rw : va_W) (nL : Nat) (a_x : Nat) (a_at : Nat) (a_g : Nat) (a_st : Nat) (a_x_kept : Nat) (a_tp : Nat) (a_rd : Nat) (a_qu : Nat) (a_sp : Nat) (a_wk : Nat) (a_bx : Nat) (a_nt : Nat) (a_nu : Nat) (a_x_seen : Nat) (a_tp_bytes : Nat) (a_sp_first : Nat) (a_sp_many : Nat) (a_sp_corner : Nat) (a_ws : Nat) (a_wk_steps : Nat) (a_wk_reached : Nat) (n_wk_steps : Nat) (n_wk_reached : Nat) (a_ws_first : Nat) (a_ws_many : Nat) (a_ws_corner : Nat) (a_g_rowCuts : Nat) (a_g_columnCuts : Nat) (a_g_bandRows : Nat) (a_g_zoneColumns : Nat) (a_g_rows : Nat) (a_g_sheets : Nat) (x_keptStates : Int32) (qu_word : Int32) (qu_level : Int32) (qu_key : Int32) (qu_otherLevel : Int32) (qu_otherKey : Int32) (rd_next : Int32) (rd_end : Int32) (rd_level : Int32) (rd_key : Int32) (rd_fault : Int32) (rd_faultPlace : Int32) (rd_endedSoon : Int32) (tp_length : Int32) (tp_bytes : Nat → Int32) (sp_cornerCount : Int32) (sp_level : Int32) (sp_row : Int32) (sp_start : Int32) (sp_place : Int32) (sp_length : Int32) (sp_cap : Int32) (sp_first : Nat → Int32) (sp_many : Nat → Int32) (wk_many : Int32) (wk_steps : Nat → Int32) (wk_reached : Nat → Int32) (ws_cornerCount : Int32) (ws_level : Int32) (ws_row : Int32) (ws_start : Int32) (ws_place : Int32) (ws_length : Int32) (ws_cap : Int32) (ws_first : Nat → Int32) (ws_many : Nat → Int32) (bx_south : Int32) (bx_north : Int32) (bx_west : Int32) (bx_east : Int32) (at_right : Int32) (at_faulty : Int32) (at_endedSoon : Int32) (at_noSuchNumber : Int32) (g_rowCuts : Nat → Int32) (g_columnCuts : Nat → Int32) (g_bandRows : Nat → Int32) (g_zoneColumns : Nat → Int32) (g_rows : Nat → Int32) (g_sheets : Nat → Int32) (p1 : Int32) (r : Int32) (o1 : Int32) (o2 : Int32) (o3 : Int32) (o4 : Int32) (o5 : Int32) (o6 : Int32) (o7 : Int32) (o8 : Int32) (o9 : Int32) (o10 : Int32) (o11 : Int32) (o12 : Int32) (o13 : Int32) (o14 : Nat → Int32) (o15 : Nat → Int32) (o16 : Int32) (o17 : Int32) (o18 : Int32) (o19 : Int32) (o20 : Int32) (o21 : Int32) (o22 : Nat → Int32) (o23 : Nat → Int32) (o24 : Int32) (o25 : Nat → Int32) (o26 : Nat → Int32) (o27 : Int32) (o28 : Int32) (o29 : Int32) (o30 : Int32) (o31 : Int32) (o32 : Int32) (o33 : Int32) (o34 : Int32) (o35 : Int32) (o36 : Int32) (o37 : Int32) (o38 : Int32) (o39 : Int32) (o40 : Int32) (hf : f_X_askN N nL n_wk_steps qu_word qu_level qu_key qu_otherLevel qu_otherKey rd_next rd_end rd_level rd_key rd_fault rd_faultPlace rd_endedSoon tp_bytes tp_length sp_first sp_many sp_level sp_row sp_start sp_place sp_length sp_cap wk_steps wk_reached wk_many ws_first ws_many ws_level ws_row ws_start ws_place ws_length ws_cap bx_south bx_north bx_west bx_east at_right at_faulty at_endedSoon at_noSuchNumber g_rowCuts g_columnCuts g_bandRows g_zoneColumns g_rows g_sheets p1 = some (r, o1, o2, o3, o4, o5, o6, o7, o8, o9, o10, o11, o12, o13, o14, o15, o16, o17, o18, o19, o20, o21, o22, o23, o24, o25, o26, o27, o28, o29, o30, o31, o32, o33, o34, o35, o36, o37, o38, o39, o40)) : Met l yX10_ask wsX10_ask ({ frames := 7, cells := 2, slots := (nL + nL), locals := 165 }) (va_Pc [.ref a_x, .int p1] (q_N D ci A sa ((a_x, .inr (10, [.ref a_at, .ref a_g, .ref a_st, .ref a_x_kept, .int x_keptStates, .ref a_tp, .ref a_rd, .ref a_qu, .ref a_sp, .ref a_wk, .ref a_bx, .ref a_nt, .ref a_nu, .ref a_x_seen])) :: (a_qu, .inr (5, [.ref a_rd, .ref a_tp, .int qu_word, .int qu_level, .int qu_key, .int qu_otherLevel, .int qu_otherKey])) :: (a_rd, .inr (3, [.ref a_g, .ref a_tp, .int rd_next, .int rd_end, .int rd_level, .int rd_key, .int rd_fault, .int rd_faultPlace, .int rd_endedSoon])) :: (a_tp, .inr (8, [.ref a_tp_bytes, .int tp_length])) :: (a_tp_bytes, .inl (ci 0, 200, .inl tp_bytes)) :: (a_sp, .inr (6, [.ref a_g, .ref a_sp_first, .ref a_sp_many, .ref a_sp_corner, .int sp_cornerCount, .int sp_level, .int sp_row, .int sp_start, .int sp_place, .int sp_length, .int sp_cap])) :: (a_sp_first, .inl (ci 0, 4, .inl sp_first)) :: (a_sp_many, .inl (ci 0, 4, .inl sp_many)) :: (a_wk, .inr (9, [.ref a_ws, .ref a_wk_steps, .ref a_wk_reached, .int wk_many])) :: (a_wk_steps, .inl (ci 0, n_wk_steps, .inl wk_steps)) :: (a_wk_reached, .inl (ci 0, n_wk_reached, .inl wk_reached)) :: (a_ws, .inr (6, [.ref a_g, .ref a_ws_first, .ref a_ws_many, .ref a_ws_corner, .int ws_cornerCount, .int ws_level, .int ws_row, .int ws_start, .int ws_place, .int ws_length, .int ws_cap])) :: (a_ws_first, .inl (ci 0, 4, .inl ws_first)) :: (a_ws_many, .inl (ci 0, 4, .inl ws_many)) :: (a_bx, .inr (1, [.ref a_g, .int bx_south, .int bx_north, .int bx_west, .int bx_east])) :: (a_at, .inr (0, [.ref a_g, .ref a_st, .int at_right, .int at_faulty, .int at_endedSoon, .int at_noSuchNumber])) :: (a_g, .inr (2, [.ref a_g_rowCuts, .ref a_g_columnCuts, .ref a_g_bandRows, .ref a_g_zoneColumns, .ref a_g_rows, .ref a_g_sheets])) :: (a_g_rowCuts, .inl (ci 0, 5, .inl g_rowCuts)) :: (a_g_columnCuts, .inl (ci 0, 5, .inl g_columnCuts)) :: (a_g_bandRows, .inl (ci 0, 5, .inl g_bandRows)) :: (a_g_zoneColumns, .inl (ci 0, 5, .inl g_zoneColumns)) :: (a_g_rows, .inl (ci 0, 5, .inl g_rows)) :: (a_g_sheets, .inl (ci 0, 5, .inl g_sheets)) :: Rw))) (q_Q (some (.int r)) (fun t => ∃ b1 b2 : Nat, q_O D A ((a_x, .inr (10, [.ref a_at, .ref a_g, .ref a_st, .ref a_x_kept, .int x_keptStates, .ref a_tp, .ref a_rd, .ref a_qu, .ref a_sp, .ref a_wk, .ref a_bx, .ref a_nt, .ref a_nu, .ref a_x_seen])) :: (a_qu, .inr (5, [.ref a_rd, .ref a_tp, .int o1, .int o2, .int o3, .int o4, .int o5])) :: (a_rd, .inr (3, [.ref a_g, .ref a_tp, .int o6, .int o7, .int o8, .int o9, .int o10, .int o11, .int o12])) :: (a_tp, .inr (8, [.ref a_tp_bytes, .int o13])) :: (a_tp_bytes, .inl (ci 0, 200, .inl tp_bytes)) :: (a_sp, .inr (6, [.ref a_g, .ref a_sp_first, .ref a_sp_many, .ref a_sp_corner, .int sp_cornerCount, .int o16, .int o17, .int o18, .int o19, .int o20, .int o21])) :: (a_sp_first, .inl (ci 0, 4, .inl o14)) :: (a_sp_many, .inl (ci 0, 4, .inl o15)) :: (a_wk, .inr (9, [.ref a_ws, .ref b1, .ref b2, .int o24])) :: (b1, .inl (ci 0, nL, .inl o22)) :: (b2, .inl (ci 0, nL, .inl o23)) :: (a_ws, .inr (6, [.ref a_g, .ref a_ws_first, .ref a_ws_many, .ref a_ws_corner, .int ws_cornerCount, .int o27, .int o28, .int o29, .int o30, .int o31, .int o32])) :: (a_ws_first, .inl (ci 0, 4, .inl o25)) :: (a_ws_many, .inl (ci 0, 4, .inl o26)) :: (a_bx, .inr (1, [.ref a_g, .int o33, .int o34, .int o35, .int o36])) :: (a_at, .inr (0, [.ref a_g, .ref a_st, .int o37, .int o38, .int o39, .int o40])) :: (a_g, .inr (2, [.ref a_g_rowCuts, .ref a_g_columnCuts, .ref a_g_bandRows, .ref a_g_zoneColumns, .ref a_g_rows, .ref a_g_sheets])) :: (a_g_rowCuts, .inl (ci 0, 5, .inl g_rowCuts)) :: (a_g_columnCuts, .inl (ci 0, 5, .inl g_columnCuts)) :: (a_g_bandRows, .inl (ci 0, 5, .inl g_bandRows)) :: (a_g_zoneColumns, .inl (ci 0, 5, .inl g_zoneColumns)) :: (a_g_rows, .inl (ci 0, 5, .inl g_rows)) :: (a_g_sheets, .inl (ci 0, 5, .inl g_sheets)) :: Rw) t) A) 2 (nL + nL) A := by
  refine q_ofW (cc := cX10_ask) (maxL := 3) (ret := (some .int)) [.ref a_x, .int p1] (plainFor_of_name (by decide)) rfl (Nat.le_of_ble_eq_true rfl) ?_
  intro p e s m below meth c ls Q hQ hx hb hml hr hts hown hlocks hK hA hZ hP hD hS hl
  have hl : lv_has ls 3 [(0, .ref a_x), (1, .int p1)] := hl
  have hown : s.vm.findClass RX10 = some m.cls := hown
  have hinX10 : ∀ w ∈ wsX100, w ∈ wsX10_ask := fun _ h => List.mem_cons_of_mem _ (inWX100 _ h)
  have hinX8 : ∀ w ∈ wsX80, w ∈ wsX10_ask := fun _ h => List.mem_cons_of_mem _ (inWX80 _ h)
  have w_1 := hts (Cond.fieldLink RX10 39 "SheetNames" "tape" "LSheetNames$Tape;") (List.mem_cons_of_mem _ t_w882)
  have w_2 := hts (Cond.fieldLink RX10 57 "SheetNames" "question" "LSheetNames$Question;") (List.mem_cons_of_mem _ t_w883)
  have w_3 := hts (Cond.fieldLink RX10 10 "SheetNames" "now" "LSheetNames$Atlas;") (List.mem_cons_of_mem _ t_w884)
  have w_4 := hts (Cond.fieldLink RX10 48 "SheetNames" "reader" "LSheetNames$NameReader;") (List.mem_cons_of_mem _ t_w885)
  have wn_35 : (Cond.fieldLinkNest "SheetNames" 98 "SheetNames$Tape" "length" "I" "SheetNames").before ([.ref a_x, .int p1] : List Value).toArray s = true := (hZ.2.2.2.2.2.2.2.2.2.1 _ (List.mem_of_getElem? (i := 35) rfl)).use rfl
  unfold f_X_askN at hf
  have hgo : ∀ (H : Heap) (locs : List Loc), H = s.heap → va_P D vwCl ((a_x, .inr (10, [.ref a_at, .ref a_g, .ref a_st, .ref a_x_kept, .int x_keptStates, .ref a_tp, .ref a_rd, .ref a_qu, .ref a_sp, .ref a_wk, .ref a_bx, .ref a_nt, .ref a_nu, .ref a_x_seen])) :: (a_qu, .inr (5, [.ref a_rd, .ref a_tp, .int qu_word, .int qu_level, .int qu_key, .int qu_otherLevel, .int qu_otherKey])) :: (a_rd, .inr (3, [.ref a_g, .ref a_tp, .int rd_next, .int rd_end, .int rd_level, .int rd_key, .int rd_fault, .int rd_faultPlace, .int rd_endedSoon])) :: (a_tp, .inr (8, [.ref a_tp_bytes, .int tp_length])) :: (a_tp_bytes, .inl (ci 0, 200, .inl tp_bytes)) :: (a_sp, .inr (6, [.ref a_g, .ref a_sp_first, .ref a_sp_many, .ref a_sp_corner, .int sp_cornerCount, .int sp_level, .int sp_row, .int sp_start, .int sp_place, .int sp_length, .int sp_cap])) :: (a_sp_first, .inl (ci 0, 4, .inl sp_first)) :: (a_sp_many, .inl (ci 0, 4, .inl sp_many)) :: (a_wk, .inr (9, [.ref a_ws, .ref a_wk_steps, .ref a_wk_reached, .int wk_many])) :: (a_wk_steps, .inl (ci 0, n_wk_steps, .inl wk_steps)) :: (a_wk_reached, .inl (ci 0, n_wk_reached, .inl wk_reached)) :: (a_ws, .inr (6, [.ref a_g, .ref a_ws_first, .ref a_ws_many, .ref a_ws_corner, .int ws_cornerCount, .int ws_level, .int ws_row, .int ws_start, .int ws_place, .int ws_length, .int ws_cap])) :: (a_ws_first, .inl (ci 0, 4, .inl ws_first)) :: (a_ws_many, .inl (ci 0, 4, .inl ws_many)) :: (a_bx, .inr (1, [.ref a_g, .int bx_south, .int bx_north, .int bx_west, .int bx_east])) :: (a_at, .inr (0, [.ref a_g, .ref a_st, .int at_right, .int at_faulty, .int at_endedSoon, .int at_noSuchNumber])) :: (a_g, .inr (2, [.ref a_g_rowCuts, .ref a_g_columnCuts, .ref a_g_bandRows, .ref a_g_zoneColumns, .ref a_g_rows, .ref a_g_sheets])) :: (a_g_rowCuts, .inl (ci 0, 5, .inl g_rowCuts)) :: (a_g_columnCuts, .inl (ci 0, 5, .inl g_columnCuts)) :: (a_g_bandRows, .inl (ci 0, 5, .inl g_bandRows)) :: (a_g_zoneColumns, .inl (ci 0, 5, .inl g_zoneColumns)) :: (a_g_rows, .inl (ci 0, 5, .inl g_rows)) :: (a_g_sheets, .inl (ci 0, 5, .inl g_sheets)) :: Rw) H → va_S A s.heap H locs → W p l e ({ frames := 7, cells := 2, slots := (nL + nL), locals := 165 } : Room) s m ([.ref a_x, .int p1] : List Value).toArray below meth c H locs 0 0 Q (F0 m 0 ls []) := by
    intro H locs hH hP hS
    refine lv_iload_n (pc := 0) hx hb dX10_ask_0 rfl (lv_at hl 1 rfl) ?_
    refine lv_iconst (pc := 1) (v := 1) hx hb dX10_ask_1 (by decide) ?_
    refine lv_bipush (pc := 2) (v := 100) hx hb dX10_ask_2 (by decide) ?_
    obtain ⟨v1, hm4, hf⟩ := q_b1_e hf
    refine q_cSr (pc := 4) (As := [.int p1, .int 1, .int 100]) (rest := []) (v0 := (some (.int v1))) ⟨hx, hb, hml, hown, hts⟩ hK hA hZ hP hD hS hl.1 [] 23 rfl ⟨rfl, rfl, rfl⟩ (c_X_isFrom l D ci A sa N (Rw) p1 1 100 v1 hm4) (va_cwS 3 hts gX10_ask_X10_isFrom rfl rfl rfl (by decide +kernel) ⟨Nat.le_of_ble_eq_true rfl, Nat.le_of_ble_eq_true rfl⟩) rfl rfl (Nat.le_of_ble_eq_true rfl) dX10_ask_4 ⟨Nat.zero_le _, Nat.zero_le _⟩ (fun locs hS => ?_)
    refine q_if_eq (pc := 7) (tgt := 21) hx hb dX10_ask_7 (by decide) rfl hf (fun hf => ?_) (fun hf => ?_)
    · refine lv_iconst (pc := 21) (v := (-1)) hx hb dX10_ask_21 (by decide) ?_
      cases hf
    · refine lv_aload_n (pc := 10) hx hb dX10_ask_10 rfl (lv_at hl 0 rfl) ?_
      refine va_get (pc := 11) (D := D) (ci := 10) (v := .ref a_tp) (C := RX10) (T := TX10) (N := 14) hx hb hts hinX10 hown hK hP 0 rfl rfl 5 (by decide) w_1 (fun _ h9 => h9) rfl dX10_ask_11 ?_
      refine va_getN (pc := 14) (D := D) (ci := 8) (v := .int tp_length) (C := RX8) (T := TX8) (N := 2) hx hb hts hinX8 hown hK hP 3 rfl rfl 1 (by decide) wn_35 (fun _ h9 => h9) rfl dX10_ask_14 ?_
      refine lv_iload_n (pc := 17) hx hb dX10_ask_17 rfl (lv_at hl 1 rfl) ?_
      refine q_icmp_ge (pc := 18) (tgt := 23) hx hb dX10_ask_18 (by decide) rfl hf (fun hf => ?_) (fun hf => ?_)
      · refine lv_aload_n (pc := 23) hx hb dX10_ask_23 rfl (lv_at hl 0 rfl) ?_
        refine va_get (pc := 24) (D := D) (ci := 10) (v := .ref a_qu) (C := RX10) (T := TX10) (N := 14) hx hb hts hinX10 hown hK hP 0 rfl rfl 7 (by decide) w_2 (fun _ h9 => h9) rfl dX10_ask_24 ?_
        refine lv_iload_n (pc := 27) hx hb dX10_ask_27 rfl (lv_at hl 1 rfl) ?_
        obtain ⟨v2, v3, v4, v5, v6, v7, v8, v9, v10, v11, v12, v13, v14, hm28, hf⟩ := q_b13_e hf
        refine q_cV (pc := 28) (As := [.int p1]) (rest := []) (v0 := (some (.int v2))) ⟨hx, hb, hml, hown, hts⟩ hK hA hZ hP hD hS hl.1 [1, 2, 3, 4, 16, 17, 18, 19, 20, 21, 22, 0, 5, 6, 7, 8, 9, 10, 11, 12, 13, 14, 15] 23 rfl ⟨rfl, rfl, rfl⟩ (c_Question_read l D ci A sa N ((a_x, .inr (10, [.ref a_at, .ref a_g, .ref a_st, .ref a_x_kept, .int x_keptStates, .ref a_tp, .ref a_rd, .ref a_qu, .ref a_sp, .ref a_wk, .ref a_bx, .ref a_nt, .ref a_nu, .ref a_x_seen])) :: (a_sp, .inr (6, [.ref a_g, .ref a_sp_first, .ref a_sp_many, .ref a_sp_corner, .int sp_cornerCount, .int sp_level, .int sp_row, .int sp_start, .int sp_place, .int sp_length, .int sp_cap])) :: (a_sp_first, .inl (ci 0, 4, .inl sp_first)) :: (a_sp_many, .inl (ci 0, 4, .inl sp_many)) :: (a_wk, .inr (9, [.ref a_ws, .ref a_wk_steps, .ref a_wk_reached, .int wk_many])) :: (a_wk_steps, .inl (ci 0, n_wk_steps, .inl wk_steps)) :: (a_wk_reached, .inl (ci 0, n_wk_reached, .inl wk_reached)) :: (a_ws, .inr (6, [.ref a_g, .ref a_ws_first, .ref a_ws_many, .ref a_ws_corner, .int ws_cornerCount, .int ws_level, .int ws_row, .int ws_start, .int ws_place, .int ws_length, .int ws_cap])) :: (a_ws_first, .inl (ci 0, 4, .inl ws_first)) :: (a_ws_many, .inl (ci 0, 4, .inl ws_many)) :: (a_bx, .inr (1, [.ref a_g, .int bx_south, .int bx_north, .int bx_west, .int bx_east])) :: (a_at, .inr (0, [.ref a_g, .ref a_st, .int at_right, .int at_faulty, .int at_endedSoon, .int at_noSuchNumber])) :: Rw) a_qu a_rd a_tp a_g a_tp_bytes a_g_rowCuts a_g_columnCuts a_g_bandRows a_g_zoneColumns a_g_rows a_g_sheets qu_word qu_level qu_key qu_otherLevel qu_otherKey rd_next rd_end rd_level rd_key rd_fault rd_faultPlace rd_endedSoon tp_length tp_bytes g_rowCuts g_columnCuts g_bandRows g_zoneColumns g_rows g_sheets p1 v2 v3 v4 v5 v6 v7 v8 v9 v10 v11 v12 v13 v14 hm28) 1 rfl rfl (cwV 1 hts gX10_ask_X5_read rfl rfl rfl (by decide +kernel) ⟨Nat.le_of_ble_eq_true rfl, Nat.le_of_ble_eq_true rfl⟩) rfl rfl (Nat.le_of_ble_eq_true rfl) dX10_ask_28 ⟨Nat.zero_le _, Nat.zero_le _⟩ [11, 0, 1, 2, 3, 12, 13, 14, 15, 16, 17, 18, 19, 20, 21, 22, 4, 5, 6, 7, 8, 9, 10] 23 rfl ⟨rfl, rfl, rfl⟩ (fun H locs hP hD hS => ?_)
        obtain ⟨hP, hD⟩ : va_PD D A ((a_x, .inr (10, [.ref a_at, .ref a_g, .ref a_st, .ref a_x_kept, .int x_keptStates, .ref a_tp, .ref a_rd, .ref a_qu, .ref a_sp, .ref a_wk, .ref a_bx, .ref a_nt, .ref a_nu, .ref a_x_seen])) :: (a_qu, .inr (5, [.ref a_rd, .ref a_tp, .int v3, .int v4, .int v5, .int v6, .int v7])) :: (a_rd, .inr (3, [.ref a_g, .ref a_tp, .int v8, .int v9, .int v10, .int v11, .int v12, .int v13, .int v14])) :: (a_tp, .inr (8, [.ref a_tp_bytes, .int tp_length])) :: (a_tp_bytes, .inl (ci 0, 200, .inl tp_bytes)) :: (a_sp, .inr (6, [.ref a_g, .ref a_sp_first, .ref a_sp_many, .ref a_sp_corner, .int sp_cornerCount, .int sp_level, .int sp_row, .int sp_start, .int sp_place, .int sp_length, .int sp_cap])) :: (a_sp_first, .inl (ci 0, 4, .inl sp_first)) :: (a_sp_many, .inl (ci 0, 4, .inl sp_many)) :: (a_wk, .inr (9, [.ref a_ws, .ref a_wk_steps, .ref a_wk_reached, .int wk_many])) :: (a_wk_steps, .inl (ci 0, n_wk_steps, .inl wk_steps)) :: (a_wk_reached, .inl (ci 0, n_wk_reached, .inl wk_reached)) :: (a_ws, .inr (6, [.ref a_g, .ref a_ws_first, .ref a_ws_many, .ref a_ws_corner, .int ws_cornerCount, .int ws_level, .int ws_row, .int ws_start, .int ws_place, .int ws_length, .int ws_cap])) :: (a_ws_first, .inl (ci 0, 4, .inl ws_first)) :: (a_ws_many, .inl (ci 0, 4, .inl ws_many)) :: (a_bx, .inr (1, [.ref a_g, .int bx_south, .int bx_north, .int bx_west, .int bx_east])) :: (a_at, .inr (0, [.ref a_g, .ref a_st, .int at_right, .int at_faulty, .int at_endedSoon, .int at_noSuchNumber])) :: (a_g, .inr (2, [.ref a_g_rowCuts, .ref a_g_columnCuts, .ref a_g_bandRows, .ref a_g_zoneColumns, .ref a_g_rows, .ref a_g_sheets])) :: (a_g_rowCuts, .inl (ci 0, 5, .inl g_rowCuts)) :: (a_g_columnCuts, .inl (ci 0, 5, .inl g_columnCuts)) :: (a_g_bandRows, .inl (ci 0, 5, .inl g_bandRows)) :: (a_g_zoneColumns, .inl (ci 0, 5, .inl g_zoneColumns)) :: (a_g_rows, .inl (ci 0, 5, .inl g_rows)) :: (a_g_sheets, .inl (ci 0, 5, .inl g_sheets)) :: Rw) H := ⟨hP, hD⟩
        refine lv_istore_n (pc := 31) (lv' := [(2, .int v2), (0, .ref a_x), (1, .int p1)]) hx hb dX10_ask_31 rfl hl (by decide) rfl (fun ls hl => ?_)
        refine lv_aload_n (pc := 32) hx hb dX10_ask_32 rfl (lv_at hl 1 rfl) ?_
        refine va_get (pc := 33) (D := D) (ci := 10) (v := .ref a_tp) (C := RX10) (T := TX10) (N := 14) hx hb hts hinX10 hown hK hP 0 rfl rfl 5 (by decide) w_1 (fun _ h9 => h9) rfl dX10_ask_33 ?_
        refine lv_iconst (pc := 36) (v := 0) hx hb dX10_ask_36 (by decide) ?_
        refine va_putN (pc := 37) (D := D) (ci := 8) (v := .int 0) (ty := .int) (C := RX8) (T := TX8) (N := 2) hx hb hts hinX8 tyX8 tyX8_ok nmX8 hown hK hP hD hS 3 rfl rfl 1 (by decide) wn_35 (fun _ h9 => h9) rfl (by decide +kernel) rfl rfl (Nat.le_of_ble_eq_true rfl) dX10_ask_37 (fun H locs hP hD hS => ?_)
        obtain ⟨hP, hD⟩ : va_PD D A ((a_x, .inr (10, [.ref a_at, .ref a_g, .ref a_st, .ref a_x_kept, .int x_keptStates, .ref a_tp, .ref a_rd, .ref a_qu, .ref a_sp, .ref a_wk, .ref a_bx, .ref a_nt, .ref a_nu, .ref a_x_seen])) :: (a_qu, .inr (5, [.ref a_rd, .ref a_tp, .int v3, .int v4, .int v5, .int v6, .int v7])) :: (a_rd, .inr (3, [.ref a_g, .ref a_tp, .int v8, .int v9, .int v10, .int v11, .int v12, .int v13, .int v14])) :: (a_tp, .inr (8, [.ref a_tp_bytes, .int 0])) :: (a_tp_bytes, .inl (ci 0, 200, .inl tp_bytes)) :: (a_sp, .inr (6, [.ref a_g, .ref a_sp_first, .ref a_sp_many, .ref a_sp_corner, .int sp_cornerCount, .int sp_level, .int sp_row, .int sp_start, .int sp_place, .int sp_length, .int sp_cap])) :: (a_sp_first, .inl (ci 0, 4, .inl sp_first)) :: (a_sp_many, .inl (ci 0, 4, .inl sp_many)) :: (a_wk, .inr (9, [.ref a_ws, .ref a_wk_steps, .ref a_wk_reached, .int wk_many])) :: (a_wk_steps, .inl (ci 0, n_wk_steps, .inl wk_steps)) :: (a_wk_reached, .inl (ci 0, n_wk_reached, .inl wk_reached)) :: (a_ws, .inr (6, [.ref a_g, .ref a_ws_first, .ref a_ws_many, .ref a_ws_corner, .int ws_cornerCount, .int ws_level, .int ws_row, .int ws_start, .int ws_place, .int ws_length, .int ws_cap])) :: (a_ws_first, .inl (ci 0, 4, .inl ws_first)) :: (a_ws_many, .inl (ci 0, 4, .inl ws_many)) :: (a_bx, .inr (1, [.ref a_g, .int bx_south, .int bx_north, .int bx_west, .int bx_east])) :: (a_at, .inr (0, [.ref a_g, .ref a_st, .int at_right, .int at_faulty, .int at_endedSoon, .int at_noSuchNumber])) :: (a_g, .inr (2, [.ref a_g_rowCuts, .ref a_g_columnCuts, .ref a_g_bandRows, .ref a_g_zoneColumns, .ref a_g_rows, .ref a_g_sheets])) :: (a_g_rowCuts, .inl (ci 0, 5, .inl g_rowCuts)) :: (a_g_columnCuts, .inl (ci 0, 5, .inl g_columnCuts)) :: (a_g_bandRows, .inl (ci 0, 5, .inl g_bandRows)) :: (a_g_zoneColumns, .inl (ci 0, 5, .inl g_zoneColumns)) :: (a_g_rows, .inl (ci 0, 5, .inl g_rows)) :: (a_g_sheets, .inl (ci 0, 5, .inl g_sheets)) :: Rw) H := ⟨hP, hD⟩
        refine lv_aload_n (pc := 40) hx hb dX10_ask_40 rfl (lv_at hl 1 rfl) ?_
        refine va_get (pc := 41) (D := D) (ci := 10) (v := .ref a_at) (C := RX10) (T := TX10) (N := 14) hx hb hts hinX10 hown hK hP 0 rfl rfl 0 (by decide) w_3 (fun _ h9 => h9) rfl dX10_ask_41 ?_
        refine lv_aload_n (pc := 44) hx hb dX10_ask_44 rfl (lv_at hl 1 rfl) ?_
        refine va_get (pc := 45) (D := D) (ci := 10) (v := .ref a_rd) (C := RX10) (T := TX10) (N := 14) hx hb hts hinX10 hown hK hP 0 rfl rfl 6 (by decide) w_4 (fun _ h9 => h9) rfl dX10_ask_45 ?_
        refine lv_iload_n (pc := 48) hx hb dX10_ask_48 rfl (lv_at hl 0 rfl) ?_
        obtain ⟨v15, v16, v17, v18, hm49, hf⟩ := q_b4_e hf
        refine q_cV (pc := 49) (As := [.ref a_rd, .int v2]) (rest := []) (v0 := none) ⟨hx, hb, hml, hown, hts⟩ hK hA hZ hP hD hS hl.1 [2, 15, 0, 1, 3, 4, 5, 6, 7, 8, 9, 10, 11, 12, 13, 14, 16, 17, 18, 19, 20, 21, 22] 23 rfl ⟨rfl, rfl, rfl⟩ (c_Atlas_countText l D ci A sa N ((a_x, .inr (10, [.ref a_at, .ref a_g, .ref a_st, .ref a_x_kept, .int x_keptStates, .ref a_tp, .ref a_rd, .ref a_qu, .ref a_sp, .ref a_wk, .ref a_bx, .ref a_nt, .ref a_nu, .ref a_x_seen])) :: (a_qu, .inr (5, [.ref a_rd, .ref a_tp, .int v3, .int v4, .int v5, .int v6, .int v7])) :: (a_tp, .inr (8, [.ref a_tp_bytes, .int 0])) :: (a_tp_bytes, .inl (ci 0, 200, .inl tp_bytes)) :: (a_sp, .inr (6, [.ref a_g, .ref a_sp_first, .ref a_sp_many, .ref a_sp_corner, .int sp_cornerCount, .int sp_level, .int sp_row, .int sp_start, .int sp_place, .int sp_length, .int sp_cap])) :: (a_sp_first, .inl (ci 0, 4, .inl sp_first)) :: (a_sp_many, .inl (ci 0, 4, .inl sp_many)) :: (a_wk, .inr (9, [.ref a_ws, .ref a_wk_steps, .ref a_wk_reached, .int wk_many])) :: (a_wk_steps, .inl (ci 0, n_wk_steps, .inl wk_steps)) :: (a_wk_reached, .inl (ci 0, n_wk_reached, .inl wk_reached)) :: (a_ws, .inr (6, [.ref a_g, .ref a_ws_first, .ref a_ws_many, .ref a_ws_corner, .int ws_cornerCount, .int ws_level, .int ws_row, .int ws_start, .int ws_place, .int ws_length, .int ws_cap])) :: (a_ws_first, .inl (ci 0, 4, .inl ws_first)) :: (a_ws_many, .inl (ci 0, 4, .inl ws_many)) :: (a_bx, .inr (1, [.ref a_g, .int bx_south, .int bx_north, .int bx_west, .int bx_east])) :: (a_g, .inr (2, [.ref a_g_rowCuts, .ref a_g_columnCuts, .ref a_g_bandRows, .ref a_g_zoneColumns, .ref a_g_rows, .ref a_g_sheets])) :: (a_g_rowCuts, .inl (ci 0, 5, .inl g_rowCuts)) :: (a_g_columnCuts, .inl (ci 0, 5, .inl g_columnCuts)) :: (a_g_bandRows, .inl (ci 0, 5, .inl g_bandRows)) :: (a_g_zoneColumns, .inl (ci 0, 5, .inl g_zoneColumns)) :: (a_g_rows, .inl (ci 0, 5, .inl g_rows)) :: (a_g_sheets, .inl (ci 0, 5, .inl g_sheets)) :: Rw) a_rd a_g a_tp a_at a_st v8 v9 v10 v11 v12 v13 v14 at_right at_faulty at_endedSoon at_noSuchNumber v2 v15 v16 v17 v18 hm49) 15 rfl rfl (cwV 2 hts gX10_ask_X0_countText rfl rfl rfl (by decide +kernel) ⟨Nat.le_of_ble_eq_true rfl, Nat.le_of_ble_eq_true rfl⟩) rfl rfl (Nat.le_of_ble_eq_true rfl) dX10_ask_49 ⟨Nat.zero_le _, Nat.zero_le _⟩ [2, 3, 0, 4, 5, 6, 7, 8, 9, 10, 11, 12, 13, 14, 15, 1, 16, 17, 18, 19, 20, 21, 22] 23 rfl ⟨rfl, rfl, rfl⟩ (fun H locs hP hD hS => ?_)
        obtain ⟨hP, hD⟩ : va_PD D A ((a_x, .inr (10, [.ref a_at, .ref a_g, .ref a_st, .ref a_x_kept, .int x_keptStates, .ref a_tp, .ref a_rd, .ref a_qu, .ref a_sp, .ref a_wk, .ref a_bx, .ref a_nt, .ref a_nu, .ref a_x_seen])) :: (a_qu, .inr (5, [.ref a_rd, .ref a_tp, .int v3, .int v4, .int v5, .int v6, .int v7])) :: (a_rd, .inr (3, [.ref a_g, .ref a_tp, .int v8, .int v9, .int v10, .int v11, .int v12, .int v13, .int v14])) :: (a_tp, .inr (8, [.ref a_tp_bytes, .int 0])) :: (a_tp_bytes, .inl (ci 0, 200, .inl tp_bytes)) :: (a_sp, .inr (6, [.ref a_g, .ref a_sp_first, .ref a_sp_many, .ref a_sp_corner, .int sp_cornerCount, .int sp_level, .int sp_row, .int sp_start, .int sp_place, .int sp_length, .int sp_cap])) :: (a_sp_first, .inl (ci 0, 4, .inl sp_first)) :: (a_sp_many, .inl (ci 0, 4, .inl sp_many)) :: (a_wk, .inr (9, [.ref a_ws, .ref a_wk_steps, .ref a_wk_reached, .int wk_many])) :: (a_wk_steps, .inl (ci 0, n_wk_steps, .inl wk_steps)) :: (a_wk_reached, .inl (ci 0, n_wk_reached, .inl wk_reached)) :: (a_ws, .inr (6, [.ref a_g, .ref a_ws_first, .ref a_ws_many, .ref a_ws_corner, .int ws_cornerCount, .int ws_level, .int ws_row, .int ws_start, .int ws_place, .int ws_length, .int ws_cap])) :: (a_ws_first, .inl (ci 0, 4, .inl ws_first)) :: (a_ws_many, .inl (ci 0, 4, .inl ws_many)) :: (a_bx, .inr (1, [.ref a_g, .int bx_south, .int bx_north, .int bx_west, .int bx_east])) :: (a_at, .inr (0, [.ref a_g, .ref a_st, .int v15, .int v16, .int v17, .int v18])) :: (a_g, .inr (2, [.ref a_g_rowCuts, .ref a_g_columnCuts, .ref a_g_bandRows, .ref a_g_zoneColumns, .ref a_g_rows, .ref a_g_sheets])) :: (a_g_rowCuts, .inl (ci 0, 5, .inl g_rowCuts)) :: (a_g_columnCuts, .inl (ci 0, 5, .inl g_columnCuts)) :: (a_g_bandRows, .inl (ci 0, 5, .inl g_bandRows)) :: (a_g_zoneColumns, .inl (ci 0, 5, .inl g_zoneColumns)) :: (a_g_rows, .inl (ci 0, 5, .inl g_rows)) :: (a_g_sheets, .inl (ci 0, 5, .inl g_sheets)) :: Rw) H := ⟨hP, hD⟩
        refine lv_iload_n (pc := 52) hx hb dX10_ask_52 rfl (lv_at hl 0 rfl) ?_
        refine q_if_eq (pc := 53) (tgt := 67) hx hb dX10_ask_53 (by decide) rfl hf (fun hf => ?_) (fun hf => ?_)
        · refine lv_aload_n (pc := 67) hx hb dX10_ask_67 rfl (lv_at hl 1 rfl) ?_
          refine va_get (pc := 68) (D := D) (ci := 10) (v := .ref a_rd) (C := RX10) (T := TX10) (N := 14) hx hb hts hinX10 hown hK hP 0 rfl rfl 6 (by decide) w_4 (fun _ h9 => h9) rfl dX10_ask_68 ?_
          obtain ⟨v19, hm71, hf⟩ := q_b1_e hf
          refine q_cVr (pc := 71) (As := []) (rest := []) (v0 := (some (.int v19))) ⟨hx, hb, hml, hown, hts⟩ hK hA hZ hP hD hS hl.1 [2] 23 rfl ⟨rfl, rfl, rfl⟩ (c_NameReader_told l D ci A sa N (Rw) a_rd a_g a_tp v8 v9 v10 v11 v12 v13 v14 v19 hm71) 2 rfl rfl (cwV 0 hts gX10_ask_X3_told rfl rfl rfl (by decide +kernel) ⟨Nat.le_of_ble_eq_true rfl, Nat.le_of_ble_eq_true rfl⟩) rfl rfl (Nat.le_of_ble_eq_true rfl) dX10_ask_71 ⟨Nat.zero_le _, Nat.zero_le _⟩ (fun locs hS => ?_)
          cases hf
        · refine lv_aload_n (pc := 56) hx hb dX10_ask_56 rfl (lv_at hl 1 rfl) ?_
          refine lv_aload_n (pc := 57) hx hb dX10_ask_57 rfl (lv_at hl 1 rfl) ?_
          refine va_get (pc := 58) (D := D) (ci := 10) (v := .ref a_qu) (C := RX10) (T := TX10) (N := 14) hx hb hts hinX10 hown hK hP 0 rfl rfl 7 (by decide) w_2 (fun _ h9 => h9) rfl dX10_ask_58 ?_
          obtain ⟨v20, f21, f22, v23, v24, v25, v26, v27, v28, f29, f30, v31, f32, f33, v34, v35, v36, v37, v38, v39, v40, v41, v42, v43, hm61, hf⟩ := q_b24_e hf
          refine q_cVx (W2x := fun b1 b2 => (a_x, .inr (10, [.ref a_at, .ref a_g, .ref a_st, .ref a_x_kept, .int x_keptStates, .ref a_tp, .ref a_rd, .ref a_qu, .ref a_sp, .ref a_wk, .ref a_bx, .ref a_nt, .ref a_nu, .ref a_x_seen])) :: (a_qu, .inr (5, [.ref a_rd, .ref a_tp, .int v3, .int v4, .int v5, .int v6, .int v7])) :: (a_sp, .inr (6, [.ref a_g, .ref a_sp_first, .ref a_sp_many, .ref a_sp_corner, .int sp_cornerCount, .int v23, .int v24, .int v25, .int v26, .int v27, .int v28])) :: (a_sp_first, .inl (ci 0, 4, .inl f21)) :: (a_sp_many, .inl (ci 0, 4, .inl f22)) :: (a_wk, .inr (9, [.ref a_ws, .ref b1, .ref b2, .int v31])) :: (b1, .inl (ci 0, nL, .inl f29)) :: (b2, .inl (ci 0, nL, .inl f30)) :: (a_ws, .inr (6, [.ref a_g, .ref a_ws_first, .ref a_ws_many, .ref a_ws_corner, .int ws_cornerCount, .int v34, .int v35, .int v36, .int v37, .int v38, .int v39])) :: (a_ws_first, .inl (ci 0, 4, .inl f32)) :: (a_ws_many, .inl (ci 0, 4, .inl f33)) :: (a_bx, .inr (1, [.ref a_g, .int v40, .int v41, .int v42, .int v43])) :: (a_g, .inr (2, [.ref a_g_rowCuts, .ref a_g_columnCuts, .ref a_g_bandRows, .ref a_g_zoneColumns, .ref a_g_rows, .ref a_g_sheets])) :: (a_g_bandRows, .inl (ci 0, 5, .inl g_bandRows)) :: (a_g_zoneColumns, .inl (ci 0, 5, .inl g_zoneColumns)) :: (a_g_rows, .inl (ci 0, 5, .inl g_rows)) :: (a_g_sheets, .inl (ci 0, 5, .inl g_sheets)) :: (a_rd, .inr (3, [.ref a_g, .ref a_tp, .int v8, .int v9, .int v10, .int v11, .int v12, .int v13, .int v14])) :: (a_tp, .inr (8, [.ref a_tp_bytes, .int 0])) :: (a_tp_bytes, .inl (ci 0, 200, .inl tp_bytes)) :: (a_at, .inr (0, [.ref a_g, .ref a_st, .int v15, .int v16, .int v17, .int v18])) :: (a_g_rowCuts, .inl (ci 0, 5, .inl g_rowCuts)) :: (a_g_columnCuts, .inl (ci 0, 5, .inl g_columnCuts)) :: Rw) (W3x := fun b1 b2 => (a_x, .inr (10, [.ref a_at, .ref a_g, .ref a_st, .ref a_x_kept, .int x_keptStates, .ref a_tp, .ref a_rd, .ref a_qu, .ref a_sp, .ref a_wk, .ref a_bx, .ref a_nt, .ref a_nu, .ref a_x_seen])) :: (a_qu, .inr (5, [.ref a_rd, .ref a_tp, .int v3, .int v4, .int v5, .int v6, .int v7])) :: (a_rd, .inr (3, [.ref a_g, .ref a_tp, .int v8, .int v9, .int v10, .int v11, .int v12, .int v13, .int v14])) :: (a_tp, .inr (8, [.ref a_tp_bytes, .int 0])) :: (a_tp_bytes, .inl (ci 0, 200, .inl tp_bytes)) :: (a_sp, .inr (6, [.ref a_g, .ref a_sp_first, .ref a_sp_many, .ref a_sp_corner, .int sp_cornerCount, .int v23, .int v24, .int v25, .int v26, .int v27, .int v28])) :: (a_sp_first, .inl (ci 0, 4, .inl f21)) :: (a_sp_many, .inl (ci 0, 4, .inl f22)) :: (a_wk, .inr (9, [.ref a_ws, .ref b1, .ref b2, .int v31])) :: (b1, .inl (ci 0, nL, .inl f29)) :: (b2, .inl (ci 0, nL, .inl f30)) :: (a_ws, .inr (6, [.ref a_g, .ref a_ws_first, .ref a_ws_many, .ref a_ws_corner, .int ws_cornerCount, .int v34, .int v35, .int v36, .int v37, .int v38, .int v39])) :: (a_ws_first, .inl (ci 0, 4, .inl f32)) :: (a_ws_many, .inl (ci 0, 4, .inl f33)) :: (a_bx, .inr (1, [.ref a_g, .int v40, .int v41, .int v42, .int v43])) :: (a_at, .inr (0, [.ref a_g, .ref a_st, .int v15, .int v16, .int v17, .int v18])) :: (a_g, .inr (2, [.ref a_g_rowCuts, .ref a_g_columnCuts, .ref a_g_bandRows, .ref a_g_zoneColumns, .ref a_g_rows, .ref a_g_sheets])) :: (a_g_rowCuts, .inl (ci 0, 5, .inl g_rowCuts)) :: (a_g_columnCuts, .inl (ci 0, 5, .inl g_columnCuts)) :: (a_g_bandRows, .inl (ci 0, 5, .inl g_bandRows)) :: (a_g_zoneColumns, .inl (ci 0, 5, .inl g_zoneColumns)) :: (a_g_rows, .inl (ci 0, 5, .inl g_rows)) :: (a_g_sheets, .inl (ci 0, 5, .inl g_sheets)) :: Rw) (pc := 61) (As := [.ref a_qu]) (rest := []) (v0 := (some (.int v20))) ⟨hx, hb, hml, hown, hts⟩ hK hA hZ hP hD hS hl.1 [0, 1, 5, 6, 7, 8, 9, 10, 11, 12, 13, 14, 16, 19, 20, 21, 22, 2, 3, 4, 15, 17, 18] 23 rfl ⟨rfl, rfl, rfl⟩ (c_X_answerToN l D ci A sa N ((a_rd, .inr (3, [.ref a_g, .ref a_tp, .int v8, .int v9, .int v10, .int v11, .int v12, .int v13, .int v14])) :: (a_tp, .inr (8, [.ref a_tp_bytes, .int 0])) :: (a_tp_bytes, .inl (ci 0, 200, .inl tp_bytes)) :: (a_at, .inr (0, [.ref a_g, .ref a_st, .int v15, .int v16, .int v17, .int v18])) :: (a_g_rowCuts, .inl (ci 0, 5, .inl g_rowCuts)) :: (a_g_columnCuts, .inl (ci 0, 5, .inl g_columnCuts)) :: Rw) nL a_x a_at a_g a_st a_x_kept a_tp a_rd a_qu a_sp a_wk a_bx a_nt a_nu a_x_seen a_sp_first a_sp_many a_sp_corner a_ws a_wk_steps a_wk_reached n_wk_steps n_wk_reached a_ws_first a_ws_many a_ws_corner a_g_rowCuts a_g_columnCuts a_g_bandRows a_g_zoneColumns a_g_rows a_g_sheets x_keptStates v3 v4 v5 v6 v7 sp_cornerCount sp_level sp_row sp_start sp_place sp_length sp_cap sp_first sp_many wk_many wk_steps wk_reached ws_cornerCount ws_level ws_row ws_start ws_place ws_length ws_cap ws_first ws_many bx_south bx_north bx_west bx_east g_bandRows g_zoneColumns g_rows g_sheets v20 f21 f22 v23 v24 v25 v26 v27 v28 f29 f30 v31 f32 f33 v34 v35 v36 v37 v38 v39 v40 v41 v42 v43 hm61) 0 rfl rfl (cwV 1 hts gX10_ask_X10_answerTo rfl rfl rfl (by decide +kernel) ⟨Nat.le_of_ble_eq_true rfl, Nat.le_of_ble_eq_true rfl⟩) rfl rfl (Nat.le_of_ble_eq_true rfl) dX10_ask_61 ⟨Nat.le_of_eq (Nat.zero_add _), Nat.le_of_eq (Nat.zero_add _)⟩ [0, 1, 17, 18, 19, 2, 3, 4, 5, 6, 7, 8, 9, 10, 11, 20, 12, 21, 22, 13, 14, 15, 16] 23 (fun _ _ => rfl) (fun _ _ => ⟨rfl, rfl, rfl⟩) (fun b1_61 b2_61 H locs hP hD hS => ?_)
          obtain ⟨hP, hD⟩ : va_PD D A ((a_x, .inr (10, [.ref a_at, .ref a_g, .ref a_st, .ref a_x_kept, .int x_keptStates, .ref a_tp, .ref a_rd, .ref a_qu, .ref a_sp, .ref a_wk, .ref a_bx, .ref a_nt, .ref a_nu, .ref a_x_seen])) :: (a_qu, .inr (5, [.ref a_rd, .ref a_tp, .int v3, .int v4, .int v5, .int v6, .int v7])) :: (a_rd, .inr (3, [.ref a_g, .ref a_tp, .int v8, .int v9, .int v10, .int v11, .int v12, .int v13, .int v14])) :: (a_tp, .inr (8, [.ref a_tp_bytes, .int 0])) :: (a_tp_bytes, .inl (ci 0, 200, .inl tp_bytes)) :: (a_sp, .inr (6, [.ref a_g, .ref a_sp_first, .ref a_sp_many, .ref a_sp_corner, .int sp_cornerCount, .int v23, .int v24, .int v25, .int v26, .int v27, .int v28])) :: (a_sp_first, .inl (ci 0, 4, .inl f21)) :: (a_sp_many, .inl (ci 0, 4, .inl f22)) :: (a_wk, .inr (9, [.ref a_ws, .ref b1_61, .ref b2_61, .int v31])) :: (b1_61, .inl (ci 0, nL, .inl f29)) :: (b2_61, .inl (ci 0, nL, .inl f30)) :: (a_ws, .inr (6, [.ref a_g, .ref a_ws_first, .ref a_ws_many, .ref a_ws_corner, .int ws_cornerCount, .int v34, .int v35, .int v36, .int v37, .int v38, .int v39])) :: (a_ws_first, .inl (ci 0, 4, .inl f32)) :: (a_ws_many, .inl (ci 0, 4, .inl f33)) :: (a_bx, .inr (1, [.ref a_g, .int v40, .int v41, .int v42, .int v43])) :: (a_at, .inr (0, [.ref a_g, .ref a_st, .int v15, .int v16, .int v17, .int v18])) :: (a_g, .inr (2, [.ref a_g_rowCuts, .ref a_g_columnCuts, .ref a_g_bandRows, .ref a_g_zoneColumns, .ref a_g_rows, .ref a_g_sheets])) :: (a_g_rowCuts, .inl (ci 0, 5, .inl g_rowCuts)) :: (a_g_columnCuts, .inl (ci 0, 5, .inl g_columnCuts)) :: (a_g_bandRows, .inl (ci 0, 5, .inl g_bandRows)) :: (a_g_zoneColumns, .inl (ci 0, 5, .inl g_zoneColumns)) :: (a_g_rows, .inl (ci 0, 5, .inl g_rows)) :: (a_g_sheets, .inl (ci 0, 5, .inl g_sheets)) :: Rw) H := ⟨hP, hD⟩
          refine W.widen (k := 2) (n := nL + nL) (by omega) (by omega) ?_
          refine lv_goto (pc := 64) (tgt := 74) hx hb dX10_ask_64 (by decide) ?_
          obtain ⟨rfl, rfl, rfl, rfl, rfl, rfl, rfl, rfl, rfl, rfl, rfl, rfl, rfl, rfl, rfl, rfl, rfl, rfl, rfl, rfl, rfl, rfl, rfl, rfl, rfl, rfl, rfl, rfl, rfl, rfl, rfl, rfl, rfl, rfl, rfl, rfl, rfl, rfl, rfl, rfl, rfl⟩ := q_inj41 (Option.some.inj hf)
          rw [hQ]
          exact q_iretx (pc := 74) hx hb hr hlocks (fun t ht => ⟨_, _, by rw [ht]; exact hP, hD⟩) hS dX10_ask_74
      · refine lv_iconst (pc := 21) (v := (-1)) hx hb dX10_ask_21 (by decide) ?_
        cases hf
  exact hgo _ _ rfl hP hS
/-! X10_farthest!N -/
set_option maxRecDepth 100000 in
set_option maxHeartbeats 4000000 in
theorem c_X_farthestN (l : Launch) (D : va_G) (ci : Nat → ClassId) (A : Nat → Prop) (sa : Nat → Nat) (N : Nat) (Rw : va_W) (nL : Nat) (a_x : Nat) (a_at : Nat) (a_g : Nat) (a_st : Nat) (a_x_kept : Nat) (a_tp : Nat) (a_rd : Nat) (a_qu : Nat) (a_sp : Nat) (a_wk : Nat) (a_bx : Nat) (a_nt : Nat) (a_nu : Nat) (a_x_seen : Nat) (a_ws : Nat) (a_wk_steps : Nat) (a_wk_reached : Nat) (n_wk_steps : Nat) (n_wk_reached : Nat) (a_ws_first : Nat) (a_ws_many : Nat) (a_ws_corner : Nat) (a_g_rowCuts : Nat) (a_g_columnCuts : Nat) (a_g_bandRows : Nat) (a_g_zoneColumns : Nat) (a_g_rows : Nat) (a_g_sheets : Nat) (x_keptStates : Int32) (wk_many : Int32) (wk_steps : Nat → Int32) (wk_reached : Nat → Int32) (ws_cornerCount : Int32) (ws_level : Int32) (ws_row : Int32) (ws_start : Int32) (ws_place : Int32) (ws_length : Int32) (ws_cap : Int32) (ws_first : Nat → Int32) (ws_many : Nat → Int32) (g_bandRows : Nat → Int32) (g_zoneColumns : Nat → Int32) (g_rows : Nat → Int32) (g_sheets : Nat → Int32) (p1 : Int32) (p2 : Int32) (p3 : Int32) (r : Int32) (o1 : Nat → Int32) (o2 : Nat → Int32) (o3 : Int32) (o4 : Nat → Int32) (o5 : Nat → Int32) (o6 : Int32) (o7 : Int32) (o8 : Int32) (o9 : Int32) (o10 : Int32) (o11 : Int32) (hf : f_X_farthestN N nL n_wk_steps wk_steps wk_reached wk_many ws_first ws_many ws_level ws_row ws_start ws_place ws_length ws_cap g_bandRows g_zoneColumns g_rows g_sheets p1 p2 p3 = some (r, o1, o2, o3, o4, o5, o6, o7, o8, o9, o10, o11)) : Met l yX10_farthest wsX10_farthest ({ frames := 4, cells := 2, slots := (nL + nL), locals := 112 }) (va_Pc [.ref a_x, .int p1, .int p2, .int p3] (q_N D ci A sa ((a_x, .inr (10, [.ref a_at, .ref a_g, .ref a_st, .ref a_x_kept, .int x_keptStates, .ref a_tp, .ref a_rd, .ref a_qu, .ref a_sp, .ref a_wk, .ref a_bx, .ref a_nt, .ref a_nu, .ref a_x_seen])) :: (a_wk, .inr (9, [.ref a_ws, .ref a_wk_steps, .ref a_wk_reached, .int wk_many])) :: (a_wk_steps, .inl (ci 0, n_wk_steps, .inl wk_steps)) :: (a_wk_reached, .inl (ci 0, n_wk_reached, .inl wk_reached)) :: (a_ws, .inr (6, [.ref a_g, .ref a_ws_first, .ref a_ws_many, .ref a_ws_corner, .int ws_cornerCount, .int ws_level, .int ws_row, .int ws_start, .int ws_place, .int ws_length, .int ws_cap])) :: (a_ws_first, .inl (ci 0, 4, .inl ws_first)) :: (a_ws_many, .inl (ci 0, 4, .inl ws_many)) :: (a_g, .inr (2, [.ref a_g_rowCuts, .ref a_g_columnCuts, .ref a_g_bandRows, .ref a_g_zoneColumns, .ref a_g_rows, .ref a_g_sheets])) :: (a_g_bandRows, .inl (ci 0, 5, .inl g_bandRows)) :: (a_g_zoneColumns, .inl (ci 0, 5, .inl g_zoneColumns)) :: (a_g_rows, .inl (ci 0, 5, .inl g_rows)) :: (a_g_sheets, .inl (ci 0, 5, .inl g_sheets)) :: Rw))) (q_Q (some (.int r)) (fun t => ∃ b1 b2 : Nat, q_O D A ((a_x, .inr (10, [.ref a_at, .ref a_g, .ref a_st, .ref a_x_kept, .int x_keptStates, .ref a_tp, .ref a_rd, .ref a_qu, .ref a_sp, .ref a_wk, .ref a_bx, .ref a_nt, .ref a_nu, .ref a_x_seen])) :: (a_wk, .inr (9, [.ref a_ws, .ref b1, .ref b2, .int o3])) :: (b1, .inl (ci 0, nL, .inl o1)) :: (b2, .inl (ci 0, nL, .inl o2)) :: (a_ws, .inr (6, [.ref a_g, .ref a_ws_first, .ref a_ws_many, .ref a_ws_corner, .int ws_cornerCount, .int o6, .int o7, .int o8, .int o9, .int o10, .int o11])) :: (a_ws_first, .inl (ci 0, 4, .inl o4)) :: (a_ws_many, .inl (ci 0, 4, .inl o5)) :: (a_g, .inr (2, [.ref a_g_rowCuts, .ref a_g_columnCuts, .ref a_g_bandRows, .ref a_g_zoneColumns, .ref a_g_rows, .ref a_g_sheets])) :: (a_g_bandRows, .inl (ci 0, 5, .inl g_bandRows)) :: (a_g_zoneColumns, .inl (ci 0, 5, .inl g_zoneColumns)) :: (a_g_rows, .inl (ci 0, 5, .inl g_rows)) :: (a_g_sheets, .inl (ci 0, 5, .inl g_sheets)) :: Rw) t) A) 2 (nL + nL) A := by
  refine q_ofW (cc := cX10_farthest) (maxL := 5) (ret := (some .int)) [.ref a_x, .int p1, .int p2, .int p3] (plainFor_of_name (by decide)) rfl (Nat.le_of_ble_eq_true rfl) ?_
  intro p e s m below meth c ls Q hQ hx hb hml hr hts hown hlocks hK hA hZ hP hD hS hl
  have hl : lv_has ls 5 [(0, .ref a_x), (1, .int p1), (2, .int p2), (3, .int p3)] := hl
  have hown : s.vm.findClass RX10 = some m.cls := hown
  have hinX10 : ∀ w ∈ wsX100, w ∈ wsX10_farthest := fun _ h => List.mem_cons_of_mem _ (inWX100 _ h)
  have hinX2 : ∀ w ∈ wsX20, w ∈ wsX10_farthest := fun _ h => List.mem_cons_of_mem _ (inWX20 _ h)
  have w_1 := hts (Cond.fieldLink RX10 20 "SheetNames" "grid" "LSheetNames$Grid;") (List.mem_cons_of_mem _ t_w876)
  have w_2 := hts (Cond.fieldLink RX10 73 "SheetNames" "walk" "LSheetNames$Walk;") (List.mem_cons_of_mem _ t_w881)
  have wn_1 : (Cond.fieldLinkNest "SheetNames" 126 "SheetNames$Grid" "sheets" "[I" "SheetNames").before ([.ref a_x, .int p1, .int p2, .int p3] : List Value).toArray s = true := (hZ.2.2.2.2.2.2.2.2.2.1 _ (List.mem_of_getElem? (i := 1) rfl)).use rfl
  unfold f_X_farthestN at hf
  have hgo : ∀ (H : Heap) (locs : List Loc), H = s.heap → va_P D vwCl ((a_x, .inr (10, [.ref a_at, .ref a_g, .ref a_st, .ref a_x_kept, .int x_keptStates, .ref a_tp, .ref a_rd, .ref a_qu, .ref a_sp, .ref a_wk, .ref a_bx, .ref a_nt, .ref a_nu, .ref a_x_seen])) :: (a_wk, .inr (9, [.ref a_ws, .ref a_wk_steps, .ref a_wk_reached, .int wk_many])) :: (a_wk_steps, .inl (ci 0, n_wk_steps, .inl wk_steps)) :: (a_wk_reached, .inl (ci 0, n_wk_reached, .inl wk_reached)) :: (a_ws, .inr (6, [.ref a_g, .ref a_ws_first, .ref a_ws_many, .ref a_ws_corner, .int ws_cornerCount, .int ws_level, .int ws_row, .int ws_start, .int ws_place, .int ws_length, .int ws_cap])) :: (a_ws_first, .inl (ci 0, 4, .inl ws_first)) :: (a_ws_many, .inl (ci 0, 4, .inl ws_many)) :: (a_g, .inr (2, [.ref a_g_rowCuts, .ref a_g_columnCuts, .ref a_g_bandRows, .ref a_g_zoneColumns, .ref a_g_rows, .ref a_g_sheets])) :: (a_g_bandRows, .inl (ci 0, 5, .inl g_bandRows)) :: (a_g_zoneColumns, .inl (ci 0, 5, .inl g_zoneColumns)) :: (a_g_rows, .inl (ci 0, 5, .inl g_rows)) :: (a_g_sheets, .inl (ci 0, 5, .inl g_sheets)) :: Rw) H → va_S A s.heap H locs → W p l e ({ frames := 4, cells := 2, slots := (nL + nL), locals := 112 } : Room) s m ([.ref a_x, .int p1, .int p2, .int p3] : List Value).toArray below meth c H locs 0 0 Q (F0 m 0 ls []) := by
    intro H locs hH hP hS
    refine lv_aload_n (pc := 0) hx hb dX10_farthest_0 rfl (lv_at hl 0 rfl) ?_
    refine va_get (pc := 1) (D := D) (ci := 10) (v := .ref a_g) (C := RX10) (T := TX10) (N := 14) hx hb hts hinX10 hown hK hP 0 rfl rfl 1 (by decide) w_1 (fun _ h9 => h9) rfl dX10_farthest_1 ?_
    refine lv_iload_n (pc := 4) hx hb dX10_farthest_4 rfl (lv_at hl 1 rfl) ?_
    refine lv_iload_n (pc := 5) hx hb dX10_farthest_5 rfl (lv_at hl 2 rfl) ?_
    obtain ⟨v1, hm6, hf⟩ := q_b1_e hf
    refine q_cVr (pc := 6) (As := [.int p1, .int p2]) (rest := []) (v0 := (some (.int v1))) ⟨hx, hb, hml, hown, hts⟩ hK hA hZ hP hD hS hl.1 [7, 11] 12 rfl ⟨rfl, rfl, rfl⟩ (c_Grid_hasSheet l D ci A sa N (Rw) a_g a_g_rowCuts a_g_columnCuts a_g_bandRows a_g_zoneColumns a_g_rows a_g_sheets g_sheets p1 p2 v1 hm6) 7 rfl rfl (cwV 2 hts gX10_farthest_X2_hasSheet rfl rfl rfl (by decide +kernel) ⟨Nat.le_of_ble_eq_true rfl, Nat.le_of_ble_eq_true rfl⟩) rfl rfl (Nat.le_of_ble_eq_true rfl) dX10_farthest_6 ⟨Nat.zero_le _, Nat.zero_le _⟩ (fun locs hS => ?_)
    refine q_if_eq (pc := 9) (tgt := 21) hx hb dX10_farthest_9 (by decide) rfl hf (fun hf => ?_) (fun hf => ?_)
    · refine lv_iconst (pc := 21) (v := (-1)) hx hb dX10_farthest_21 (by decide) ?_
      cases hf
    · refine lv_iload_n (pc := 12) hx hb dX10_farthest_12 rfl (lv_at hl 3 rfl) ?_
      refine lv_iconst (pc := 13) (v := 0) hx hb dX10_farthest_13 (by decide) ?_
      refine lv_iconst (pc := 14) (v := 1) hx hb dX10_farthest_14 (by decide) ?_
      obtain ⟨v2, hm15, hf⟩ := q_b1_e hf
      refine q_cSr (pc := 15) (As := [.int p3, .int 0, .int 1]) (rest := []) (v0 := (some (.int v2))) ⟨hx, hb, hml, hown, hts⟩ hK hA hZ hP hD hS hl.1 [] 12 rfl ⟨rfl, rfl, rfl⟩ (c_X_isFrom l D ci A sa N (Rw) p3 0 1 v2 hm15) (va_cwS 3 hts gX10_farthest_X10_isFrom rfl rfl rfl (by decide +kernel) ⟨Nat.le_of_ble_eq_true rfl, Nat.le_of_ble_eq_true rfl⟩) rfl rfl (Nat.le_of_ble_eq_true rfl) dX10_farthest_15 ⟨Nat.zero_le _, Nat.zero_le _⟩ (fun locs hS => ?_)
      refine q_if_ne (pc := 18) (tgt := 23) hx hb dX10_farthest_18 (by decide) rfl hf (fun hf => ?_) (fun hf => ?_)
      · refine lv_aload_n (pc := 23) hx hb dX10_farthest_23 rfl (lv_at hl 0 rfl) ?_
        refine va_get (pc := 24) (D := D) (ci := 10) (v := .ref a_g) (C := RX10) (T := TX10) (N := 14) hx hb hts hinX10 hown hK hP 0 rfl rfl 1 (by decide) w_1 (fun _ h9 => h9) rfl dX10_farthest_24 ?_
        refine va_getN (pc := 27) (D := D) (ci := 2) (v := .ref a_g_sheets) (C := RX2) (T := TX2) (N := 6) hx hb hts hinX2 hown hK hP 7 rfl rfl 5 (by decide) wn_1 (fun _ h9 => h9) rfl dX10_farthest_27 ?_
        refine lv_iload_n (pc := 30) hx hb dX10_farthest_30 rfl (lv_at hl 1 rfl) ?_
        refine q_iald (pc := 31) hx hb hK hP 11 0 hf rfl rfl dX10_farthest_31 (fun v3 hf => ?_)
        refine lv_sipush (pc := 32) (v := 20000) hx hb dX10_farthest_32 (by decide) ?_
        refine q_icmp_le (pc := 35) (tgt := 41) hx hb dX10_farthest_35 (by decide) rfl hf (fun hf => ?_) (fun hf => ?_)
        · refine lv_aload_n (pc := 41) hx hb dX10_farthest_41 rfl (lv_at hl 0 rfl) ?_
          refine va_get (pc := 42) (D := D) (ci := 10) (v := .ref a_wk) (C := RX10) (T := TX10) (N := 14) hx hb hts hinX10 hown hK hP 0 rfl rfl 9 (by decide) w_2 (fun _ h9 => h9) rfl dX10_farthest_42 ?_
          refine lv_iload_n (pc := 45) hx hb dX10_farthest_45 rfl (lv_at hl 1 rfl) ?_
          refine lv_iload_n (pc := 46) hx hb dX10_farthest_46 rfl (lv_at hl 2 rfl) ?_
          obtain ⟨f4, f5, v6, f7, f8, v9, v10, v11, v12, v13, v14, hm47, hf⟩ := q_b11_e hf
          refine q_cVx (W2x := fun b1 b2 => (a_wk, .inr (9, [.ref a_ws, .ref b1, .ref b2, .int v6])) :: (b1, .inl (ci 0, nL, .inl f4)) :: (b2, .inl (ci 0, nL, .inl f5)) :: (a_ws, .inr (6, [.ref a_g, .ref a_ws_first, .ref a_ws_many, .ref a_ws_corner, .int ws_cornerCount, .int v9, .int v10, .int v11, .int v12, .int v13, .int v14])) :: (a_ws_first, .inl (ci 0, 4, .inl f7)) :: (a_ws_many, .inl (ci 0, 4, .inl f8)) :: (a_g, .inr (2, [.ref a_g_rowCuts, .ref a_g_columnCuts, .ref a_g_bandRows, .ref a_g_zoneColumns, .ref a_g_rows, .ref a_g_sheets])) :: (a_g_bandRows, .inl (ci 0, 5, .inl g_bandRows)) :: (a_g_zoneColumns, .inl (ci 0, 5, .inl g_zoneColumns)) :: (a_g_rows, .inl (ci 0, 5, .inl g_rows)) :: (a_g_sheets, .inl (ci 0, 5, .inl g_sheets)) :: (a_x, .inr (10, [.ref a_at, .ref a_g, .ref a_st, .ref a_x_kept, .int x_keptStates, .ref a_tp, .ref a_rd, .ref a_qu, .ref a_sp, .ref a_wk, .ref a_bx, .ref a_nt, .ref a_nu, .ref a_x_seen])) :: Rw) (W3x := fun b1 b2 => (a_x, .inr (10, [.ref a_at, .ref a_g, .ref a_st, .ref a_x_kept, .int x_keptStates, .ref a_tp, .ref a_rd, .ref a_qu, .ref a_sp, .ref a_wk, .ref a_bx, .ref a_nt, .ref a_nu, .ref a_x_seen])) :: (a_wk, .inr (9, [.ref a_ws, .ref b1, .ref b2, .int v6])) :: (b1, .inl (ci 0, nL, .inl f4)) :: (b2, .inl (ci 0, nL, .inl f5)) :: (a_ws, .inr (6, [.ref a_g, .ref a_ws_first, .ref a_ws_many, .ref a_ws_corner, .int ws_cornerCount, .int v9, .int v10, .int v11, .int v12, .int v13, .int v14])) :: (a_ws_first, .inl (ci 0, 4, .inl f7)) :: (a_ws_many, .inl (ci 0, 4, .inl f8)) :: (a_g, .inr (2, [.ref a_g_rowCuts, .ref a_g_columnCuts, .ref a_g_bandRows, .ref a_g_zoneColumns, .ref a_g_rows, .ref a_g_sheets])) :: (a_g_bandRows, .inl (ci 0, 5, .inl g_bandRows)) :: (a_g_zoneColumns, .inl (ci 0, 5, .inl g_zoneColumns)) :: (a_g_rows, .inl (ci 0, 5, .inl g_rows)) :: (a_g_sheets, .inl (ci 0, 5, .inl g_sheets)) :: Rw) (pc := 47) (As := [.int p1, .int p2]) (rest := []) (v0 := none) ⟨hx, hb, hml, hown, hts⟩ hK hA hZ hP hD hS hl.1 [1, 2, 3, 4, 5, 6, 7, 8, 9, 10, 11, 0] 12 rfl ⟨rfl, rfl, rfl⟩ (c_Walk_spreadN l D ci A sa N ((a_x, .inr (10, [.ref a_at, .ref a_g, .ref a_st, .ref a_x_kept, .int x_keptStates, .ref a_tp, .ref a_rd, .ref a_qu, .ref a_sp, .ref a_wk, .ref a_bx, .ref a_nt, .ref a_nu, .ref a_x_seen])) :: Rw) nL a_wk a_ws a_wk_steps a_wk_reached n_wk_steps n_wk_reached a_g a_ws_first a_ws_many a_ws_corner a_g_rowCuts a_g_columnCuts a_g_bandRows a_g_zoneColumns a_g_rows a_g_sheets wk_many wk_steps wk_reached ws_cornerCount ws_level ws_row ws_start ws_place ws_length ws_cap ws_first ws_many g_bandRows g_zoneColumns g_rows g_sheets p1 p2 f4 f5 v6 f7 f8 v9 v10 v11 v12 v13 v14 hm47) 1 rfl rfl (cwV 2 hts gX10_farthest_X9_spread rfl rfl rfl (by decide +kernel) ⟨Nat.le_of_ble_eq_true rfl, Nat.le_of_ble_eq_true rfl⟩) rfl rfl (Nat.le_of_ble_eq_true rfl) dX10_farthest_47 ⟨Nat.le_of_eq (Nat.zero_add _), Nat.le_of_eq (Nat.zero_add _)⟩ [11, 0, 1, 2, 3, 4, 5, 6, 7, 8, 9, 10] 12 (fun _ _ => rfl) (fun _ _ => ⟨rfl, rfl, rfl⟩) (fun b1_47 b2_47 H locs hP hD hS => ?_)
          obtain ⟨hP, hD⟩ : va_PD D A ((a_x, .inr (10, [.ref a_at, .ref a_g, .ref a_st, .ref a_x_kept, .int x_keptStates, .ref a_tp, .ref a_rd, .ref a_qu, .ref a_sp, .ref a_wk, .ref a_bx, .ref a_nt, .ref a_nu, .ref a_x_seen])) :: (a_wk, .inr (9, [.ref a_ws, .ref b1_47, .ref b2_47, .int v6])) :: (b1_47, .inl (ci 0, nL, .inl f4)) :: (b2_47, .inl (ci 0, nL, .inl f5)) :: (a_ws, .inr (6, [.ref a_g, .ref a_ws_first, .ref a_ws_many, .ref a_ws_corner, .int ws_cornerCount, .int v9, .int v10, .int v11, .int v12, .int v13, .int v14])) :: (a_ws_first, .inl (ci 0, 4, .inl f7)) :: (a_ws_many, .inl (ci 0, 4, .inl f8)) :: (a_g, .inr (2, [.ref a_g_rowCuts, .ref a_g_columnCuts, .ref a_g_bandRows, .ref a_g_zoneColumns, .ref a_g_rows, .ref a_g_sheets])) :: (a_g_bandRows, .inl (ci 0, 5, .inl g_bandRows)) :: (a_g_zoneColumns, .inl (ci 0, 5, .inl g_zoneColumns)) :: (a_g_rows, .inl (ci 0, 5, .inl g_rows)) :: (a_g_sheets, .inl (ci 0, 5, .inl g_sheets)) :: Rw) H := ⟨hP, hD⟩
          refine W.widen (k := 2) (n := nL + nL) (by omega) (by omega) ?_
          refine lv_aload_n (pc := 50) hx hb dX10_farthest_50 rfl (lv_at hl 0 rfl) ?_
          refine va_get (pc := 51) (D := D) (ci := 10) (v := .ref a_wk) (C := RX10) (T := TX10) (N := 14) hx hb hts hinX10 hown hK hP 0 rfl rfl 9 (by decide) w_2 (fun _ h9 => h9) rfl dX10_farthest_51 ?_
          obtain ⟨v15, hm54, hf⟩ := q_b1_e hf
          refine q_cVr (pc := 54) (As := []) (rest := []) (v0 := (some (.int v15))) ⟨hx, hb, hml, hown, hts⟩ hK hA hZ hP hD hS hl.1 [1, 2] 12 rfl ⟨rfl, rfl, rfl⟩ (c_Walk_farthestKey l D ci A sa N (Rw) a_wk a_ws b1_47 b2_47 nL v6 f4 v15 hm54) 1 rfl rfl (cwV 0 hts gX10_farthest_X9_farthestKey rfl rfl rfl (by decide +kernel) ⟨Nat.le_of_ble_eq_true rfl, Nat.le_of_ble_eq_true rfl⟩) rfl rfl (Nat.le_of_ble_eq_true rfl) dX10_farthest_54 ⟨Nat.le_refl _, Nat.le_refl _⟩ (fun locs hS => ?_)
          refine lv_istore (pc := 57) (lv' := [(4, .int v15), (0, .ref a_x), (1, .int p1), (2, .int p2), (3, .int p3)]) hx hb dX10_farthest_57 hl (by decide) rfl (fun ls hl => ?_)
          refine lv_iload_n (pc := 59) hx hb dX10_farthest_59 rfl (lv_at hl 4 rfl) ?_
          refine q_if_ne (pc := 60) (tgt := 75) hx hb dX10_farthest_60 (by decide) rfl hf (fun hf => ?_) (fun hf => ?_)
          · refine lv_iload (pc := 75) hx hb dX10_farthest_75 (lv_at hl 0 rfl) ?_
            obtain ⟨rfl, rfl, rfl, rfl, rfl, rfl, rfl, rfl, rfl, rfl, rfl, rfl⟩ := q_inj12 (Option.some.inj hf)
            rw [hQ]
            exact q_iretx (pc := 77) hx hb hr hlocks (fun t ht => ⟨_, _, by rw [ht]; exact hP, hD⟩) hS dX10_farthest_77
          · refine lv_aload_n (pc := 63) hx hb dX10_farthest_63 rfl (lv_at hl 1 rfl) ?_
            refine va_get (pc := 64) (D := D) (ci := 10) (v := .ref a_wk) (C := RX10) (T := TX10) (N := 14) hx hb hts hinX10 hown hK hP 0 rfl rfl 9 (by decide) w_2 (fun _ h9 => h9) rfl dX10_farthest_64 ?_
            refine lv_iload (pc := 67) hx hb dX10_farthest_67 (lv_at hl 0 rfl) ?_
            obtain ⟨v16, hm69, hf⟩ := q_b1_e hf
            refine q_cVr (pc := 69) (As := [.int v15]) (rest := []) (v0 := (some (.int v16))) ⟨hx, hb, hml, hown, hts⟩ hK hA hZ hP hD hS hl.1 [1, 2] 12 rfl ⟨rfl, rfl, rfl⟩ (c_Walk_stepsTo l D ci A sa N (Rw) a_wk a_ws b1_47 b2_47 nL v6 f4 v15 v16 hm69) 1 rfl rfl (cwV 1 hts gX10_farthest_X9_stepsTo rfl rfl rfl (by decide +kernel) ⟨Nat.le_of_ble_eq_true rfl, Nat.le_of_ble_eq_true rfl⟩) rfl rfl (Nat.le_of_ble_eq_true rfl) dX10_farthest_69 ⟨Nat.le_refl _, Nat.le_refl _⟩ (fun locs hS => ?_)
            refine lv_goto (pc := 72) (tgt := 77) hx hb dX10_farthest_72 (by decide) ?_
            obtain ⟨rfl, rfl, rfl, rfl, rfl, rfl, rfl, rfl, rfl, rfl, rfl, rfl⟩ := q_inj12 (Option.some.inj hf)
            rw [hQ]
            exact q_iretx (pc := 77) hx hb hr hlocks (fun t ht => ⟨_, _, by rw [ht]; exact hP, hD⟩) hS dX10_farthest_77
        · refine lv_bipush (pc := 38) (v := (-3)) hx hb dX10_farthest_38 (by decide) ?_
          cases hf
      · refine lv_iconst (pc := 21) (v := (-1)) hx hb dX10_farthest_21 (by decide) ?_
        cases hf
  exact hgo _ _ rfl hP hS
/-! X10_reach!N -/
set_option maxRecDepth 100000 in
set_option maxHeartbeats 4000000 in
theorem c_X_reachN (l : Launch) (D : va_G) (ci : Nat → ClassId) (A : Nat → Prop) (sa : Nat → Nat) (N : Nat) (Rw : va_W) (nL : Nat) (a_x : Nat) (a_at : Nat) (a_g : Nat) (a_st : Nat) (a_x_kept : Nat) (a_tp : Nat) (a_rd : Nat) (a_qu : Nat) (a_sp : Nat) (a_wk : Nat) (a_bx : Nat) (a_nt : Nat) (a_nu : Nat) (a_x_seen : Nat) (a_ws : Nat) (a_wk_steps : Nat) (a_wk_reached : Nat) (n_wk_steps : Nat) (n_wk_reached : Nat) (a_ws_first : Nat) (a_ws_many : Nat) (a_ws_corner : Nat) (a_g_rowCuts : Nat) (a_g_columnCuts : Nat) (a_g_bandRows : Nat) (a_g_zoneColumns : Nat) (a_g_rows : Nat) (a_g_sheets : Nat) (x_keptStates : Int32) (wk_many : Int32) (wk_steps : Nat → Int32) (wk_reached : Nat → Int32) (ws_cornerCount : Int32) (ws_level : Int32) (ws_row : Int32) (ws_start : Int32) (ws_place : Int32) (ws_length : Int32) (ws_cap : Int32) (ws_first : Nat → Int32) (ws_many : Nat → Int32) (g_bandRows : Nat → Int32) (g_zoneColumns : Nat → Int32) (g_rows : Nat → Int32) (g_sheets : Nat → Int32) (p1 : Int32) (p2 : Int32) (p3 : Int32) (r : Int32) (o1 : Nat → Int32) (o2 : Nat → Int32) (o3 : Int32) (o4 : Nat → Int32) (o5 : Nat → Int32) (o6 : Int32) (o7 : Int32) (o8 : Int32) (o9 : Int32) (o10 : Int32) (o11 : Int32) (hf : f_X_reachN N nL n_wk_steps wk_steps wk_reached wk_many ws_first ws_many ws_level ws_row ws_start ws_place ws_length ws_cap g_bandRows g_zoneColumns g_rows g_sheets p1 p2 p3 = some (r, o1, o2, o3, o4, o5, o6, o7, o8, o9, o10, o11)) : Met l yX10_reach wsX10_reach ({ frames := 4, cells := 2, slots := (nL + nL), locals := 112 }) (va_Pc [.ref a_x, .int p1, .int p2, .int p3] (q_N D ci A sa ((a_x, .inr (10, [.ref a_at, .ref a_g, .ref a_st, .ref a_x_kept, .int x_keptStates, .ref a_tp, .ref a_rd, .ref a_qu, .ref a_sp, .ref a_wk, .ref a_bx, .ref a_nt, .ref a_nu, .ref a_x_seen])) :: (a_wk, .inr (9, [.ref a_ws, .ref a_wk_steps, .ref a_wk_reached, .int wk_many])) :: (a_wk_steps, .inl (ci 0, n_wk_steps, .inl wk_steps)) :: (a_wk_reached, .inl (ci 0, n_wk_reached, .inl wk_reached)) :: (a_ws, .inr (6, [.ref a_g, .ref a_ws_first, .ref a_ws_many, .ref a_ws_corner, .int ws_cornerCount, .int ws_level, .int ws_row, .int ws_start, .int ws_place, .int ws_length, .int ws_cap])) :: (a_ws_first, .inl (ci 0, 4, .inl ws_first)) :: (a_ws_many, .inl (ci 0, 4, .inl ws_many)) :: (a_g, .inr (2, [.ref a_g_rowCuts, .ref a_g_columnCuts, .ref a_g_bandRows, .ref a_g_zoneColumns, .ref a_g_rows, .ref a_g_sheets])) :: (a_g_bandRows, .inl (ci 0, 5, .inl g_bandRows)) :: (a_g_zoneColumns, .inl (ci 0, 5, .inl g_zoneColumns)) :: (a_g_rows, .inl (ci 0, 5, .inl g_rows)) :: (a_g_sheets, .inl (ci 0, 5, .inl g_sheets)) :: Rw))) (q_Q (some (.int r)) (fun t => ∃ b1 b2 : Nat, q_O D A ((a_x, .inr (10, [.ref a_at, .ref a_g, .ref a_st, .ref a_x_kept, .int x_keptStates, .ref a_tp, .ref a_rd, .ref a_qu, .ref a_sp, .ref a_wk, .ref a_bx, .ref a_nt, .ref a_nu, .ref a_x_seen])) :: (a_wk, .inr (9, [.ref a_ws, .ref b1, .ref b2, .int o3])) :: (b1, .inl (ci 0, nL, .inl o1)) :: (b2, .inl (ci 0, nL, .inl o2)) :: (a_ws, .inr (6, [.ref a_g, .ref a_ws_first, .ref a_ws_many, .ref a_ws_corner, .int ws_cornerCount, .int o6, .int o7, .int o8, .int o9, .int o10, .int o11])) :: (a_ws_first, .inl (ci 0, 4, .inl o4)) :: (a_ws_many, .inl (ci 0, 4, .inl o5)) :: (a_g, .inr (2, [.ref a_g_rowCuts, .ref a_g_columnCuts, .ref a_g_bandRows, .ref a_g_zoneColumns, .ref a_g_rows, .ref a_g_sheets])) :: (a_g_bandRows, .inl (ci 0, 5, .inl g_bandRows)) :: (a_g_zoneColumns, .inl (ci 0, 5, .inl g_zoneColumns)) :: (a_g_rows, .inl (ci 0, 5, .inl g_rows)) :: (a_g_sheets, .inl (ci 0, 5, .inl g_sheets)) :: Rw) t) A) 2 (nL + nL) A := by
  refine q_ofW (cc := cX10_reach) (maxL := 4) (ret := (some .int)) [.ref a_x, .int p1, .int p2, .int p3] (plainFor_of_name (by decide)) rfl (Nat.le_of_ble_eq_true rfl) ?_
  intro p e s m below meth c ls Q hQ hx hb hml hr hts hown hlocks hK hA hZ hP hD hS hl
  have hl : lv_has ls 4 [(0, .ref a_x), (1, .int p1), (2, .int p2), (3, .int p3)] := hl
  have hown : s.vm.findClass RX10 = some m.cls := hown
  have hinX10 : ∀ w ∈ wsX100, w ∈ wsX10_reach := fun _ h => List.mem_cons_of_mem _ (inWX100 _ h)
  have hinX2 : ∀ w ∈ wsX20, w ∈ wsX10_reach := fun _ h => List.mem_cons_of_mem _ (inWX20 _ h)
  have w_1 := hts (Cond.fieldLink RX10 20 "SheetNames" "grid" "LSheetNames$Grid;") (List.mem_cons_of_mem _ t_w876)
  have w_2 := hts (Cond.fieldLink RX10 73 "SheetNames" "walk" "LSheetNames$Walk;") (List.mem_cons_of_mem _ t_w881)
  have wn_1 : (Cond.fieldLinkNest "SheetNames" 126 "SheetNames$Grid" "sheets" "[I" "SheetNames").before ([.ref a_x, .int p1, .int p2, .int p3] : List Value).toArray s = true := (hZ.2.2.2.2.2.2.2.2.2.1 _ (List.mem_of_getElem? (i := 1) rfl)).use rfl
  unfold f_X_reachN at hf
  have hgo : ∀ (H : Heap) (locs : List Loc), H = s.heap → va_P D vwCl ((a_x, .inr (10, [.ref a_at, .ref a_g, .ref a_st, .ref a_x_kept, .int x_keptStates, .ref a_tp, .ref a_rd, .ref a_qu, .ref a_sp, .ref a_wk, .ref a_bx, .ref a_nt, .ref a_nu, .ref a_x_seen])) :: (a_wk, .inr (9, [.ref a_ws, .ref a_wk_steps, .ref a_wk_reached, .int wk_many])) :: (a_wk_steps, .inl (ci 0, n_wk_steps, .inl wk_steps)) :: (a_wk_reached, .inl (ci 0, n_wk_reached, .inl wk_reached)) :: (a_ws, .inr (6, [.ref a_g, .ref a_ws_first, .ref a_ws_many, .ref a_ws_corner, .int ws_cornerCount, .int ws_level, .int ws_row, .int ws_start, .int ws_place, .int ws_length, .int ws_cap])) :: (a_ws_first, .inl (ci 0, 4, .inl ws_first)) :: (a_ws_many, .inl (ci 0, 4, .inl ws_many)) :: (a_g, .inr (2, [.ref a_g_rowCuts, .ref a_g_columnCuts, .ref a_g_bandRows, .ref a_g_zoneColumns, .ref a_g_rows, .ref a_g_sheets])) :: (a_g_bandRows, .inl (ci 0, 5, .inl g_bandRows)) :: (a_g_zoneColumns, .inl (ci 0, 5, .inl g_zoneColumns)) :: (a_g_rows, .inl (ci 0, 5, .inl g_rows)) :: (a_g_sheets, .inl (ci 0, 5, .inl g_sheets)) :: Rw) H → va_S A s.heap H locs → W p l e ({ frames := 4, cells := 2, slots := (nL + nL), locals := 112 } : Room) s m ([.ref a_x, .int p1, .int p2, .int p3] : List Value).toArray below meth c H locs 0 0 Q (F0 m 0 ls []) := by
    intro H locs hH hP hS
    refine lv_aload_n (pc := 0) hx hb dX10_reach_0 rfl (lv_at hl 0 rfl) ?_
    refine va_get (pc := 1) (D := D) (ci := 10) (v := .ref a_g) (C := RX10) (T := TX10) (N := 14) hx hb hts hinX10 hown hK hP 0 rfl rfl 1 (by decide) w_1 (fun _ h9 => h9) rfl dX10_reach_1 ?_
    refine lv_iload_n (pc := 4) hx hb dX10_reach_4 rfl (lv_at hl 1 rfl) ?_
    refine lv_iload_n (pc := 5) hx hb dX10_reach_5 rfl (lv_at hl 2 rfl) ?_
    obtain ⟨v1, hm6, hf⟩ := q_b1_e hf
    refine q_cVr (pc := 6) (As := [.int p1, .int p2]) (rest := []) (v0 := (some (.int v1))) ⟨hx, hb, hml, hown, hts⟩ hK hA hZ hP hD hS hl.1 [7, 11] 12 rfl ⟨rfl, rfl, rfl⟩ (c_Grid_hasSheet l D ci A sa N (Rw) a_g a_g_rowCuts a_g_columnCuts a_g_bandRows a_g_zoneColumns a_g_rows a_g_sheets g_sheets p1 p2 v1 hm6) 7 rfl rfl (cwV 2 hts gX10_reach_X2_hasSheet rfl rfl rfl (by decide +kernel) ⟨Nat.le_of_ble_eq_true rfl, Nat.le_of_ble_eq_true rfl⟩) rfl rfl (Nat.le_of_ble_eq_true rfl) dX10_reach_6 ⟨Nat.zero_le _, Nat.zero_le _⟩ (fun locs hS => ?_)
    refine q_if_eq (pc := 9) (tgt := 16) hx hb dX10_reach_9 (by decide) rfl hf (fun hf => ?_) (fun hf => ?_)
    · refine lv_iconst (pc := 16) (v := (-1)) hx hb dX10_reach_16 (by decide) ?_
      cases hf
    · refine lv_iload_n (pc := 12) hx hb dX10_reach_12 rfl (lv_at hl 3 rfl) ?_
      refine q_if_ge (pc := 13) (tgt := 18) hx hb dX10_reach_13 (by decide) rfl hf (fun hf => ?_) (fun hf => ?_)
      · refine lv_aload_n (pc := 18) hx hb dX10_reach_18 rfl (lv_at hl 0 rfl) ?_
        refine va_get (pc := 19) (D := D) (ci := 10) (v := .ref a_g) (C := RX10) (T := TX10) (N := 14) hx hb hts hinX10 hown hK hP 0 rfl rfl 1 (by decide) w_1 (fun _ h9 => h9) rfl dX10_reach_19 ?_
        refine va_getN (pc := 22) (D := D) (ci := 2) (v := .ref a_g_sheets) (C := RX2) (T := TX2) (N := 6) hx hb hts hinX2 hown hK hP 7 rfl rfl 5 (by decide) wn_1 (fun _ h9 => h9) rfl dX10_reach_22 ?_
        refine lv_iload_n (pc := 25) hx hb dX10_reach_25 rfl (lv_at hl 1 rfl) ?_
        refine q_iald (pc := 26) hx hb hK hP 11 0 hf rfl rfl dX10_reach_26 (fun v2 hf => ?_)
        refine lv_sipush (pc := 27) (v := 20000) hx hb dX10_reach_27 (by decide) ?_
        refine q_icmp_le (pc := 30) (tgt := 36) hx hb dX10_reach_30 (by decide) rfl hf (fun hf => ?_) (fun hf => ?_)
        · refine lv_aload_n (pc := 36) hx hb dX10_reach_36 rfl (lv_at hl 0 rfl) ?_
          refine va_get (pc := 37) (D := D) (ci := 10) (v := .ref a_wk) (C := RX10) (T := TX10) (N := 14) hx hb hts hinX10 hown hK hP 0 rfl rfl 9 (by decide) w_2 (fun _ h9 => h9) rfl dX10_reach_37 ?_
          refine lv_iload_n (pc := 40) hx hb dX10_reach_40 rfl (lv_at hl 1 rfl) ?_
          refine lv_iload_n (pc := 41) hx hb dX10_reach_41 rfl (lv_at hl 2 rfl) ?_
          obtain ⟨f3, f4, v5, f6, f7, v8, v9, v10, v11, v12, v13, hm42, hf⟩ := q_b11_e hf
          refine q_cVx (W2x := fun b1 b2 => (a_wk, .inr (9, [.ref a_ws, .ref b1, .ref b2, .int v5])) :: (b1, .inl (ci 0, nL, .inl f3)) :: (b2, .inl (ci 0, nL, .inl f4)) :: (a_ws, .inr (6, [.ref a_g, .ref a_ws_first, .ref a_ws_many, .ref a_ws_corner, .int ws_cornerCount, .int v8, .int v9, .int v10, .int v11, .int v12, .int v13])) :: (a_ws_first, .inl (ci 0, 4, .inl f6)) :: (a_ws_many, .inl (ci 0, 4, .inl f7)) :: (a_g, .inr (2, [.ref a_g_rowCuts, .ref a_g_columnCuts, .ref a_g_bandRows, .ref a_g_zoneColumns, .ref a_g_rows, .ref a_g_sheets])) :: (a_g_bandRows, .inl (ci 0, 5, .inl g_bandRows)) :: (a_g_zoneColumns, .inl (ci 0, 5, .inl g_zoneColumns)) :: (a_g_rows, .inl (ci 0, 5, .inl g_rows)) :: (a_g_sheets, .inl (ci 0, 5, .inl g_sheets)) :: (a_x, .inr (10, [.ref a_at, .ref a_g, .ref a_st, .ref a_x_kept, .int x_keptStates, .ref a_tp, .ref a_rd, .ref a_qu, .ref a_sp, .ref a_wk, .ref a_bx, .ref a_nt, .ref a_nu, .ref a_x_seen])) :: Rw) (W3x := fun b1 b2 => (a_x, .inr (10, [.ref a_at, .ref a_g, .ref a_st, .ref a_x_kept, .int x_keptStates, .ref a_tp, .ref a_rd, .ref a_qu, .ref a_sp, .ref a_wk, .ref a_bx, .ref a_nt, .ref a_nu, .ref a_x_seen])) :: (a_wk, .inr (9, [.ref a_ws, .ref b1, .ref b2, .int v5])) :: (b1, .inl (ci 0, nL, .inl f3)) :: (b2, .inl (ci 0, nL, .inl f4)) :: (a_ws, .inr (6, [.ref a_g, .ref a_ws_first, .ref a_ws_many, .ref a_ws_corner, .int ws_cornerCount, .int v8, .int v9, .int v10, .int v11, .int v12, .int v13])) :: (a_ws_first, .inl (ci 0, 4, .inl f6)) :: (a_ws_many, .inl (ci 0, 4, .inl f7)) :: (a_g, .inr (2, [.ref a_g_rowCuts, .ref a_g_columnCuts, .ref a_g_bandRows, .ref a_g_zoneColumns, .ref a_g_rows, .ref a_g_sheets])) :: (a_g_bandRows, .inl (ci 0, 5, .inl g_bandRows)) :: (a_g_zoneColumns, .inl (ci 0, 5, .inl g_zoneColumns)) :: (a_g_rows, .inl (ci 0, 5, .inl g_rows)) :: (a_g_sheets, .inl (ci 0, 5, .inl g_sheets)) :: Rw) (pc := 42) (As := [.int p1, .int p2]) (rest := []) (v0 := none) ⟨hx, hb, hml, hown, hts⟩ hK hA hZ hP hD hS hl.1 [1, 2, 3, 4, 5, 6, 7, 8, 9, 10, 11, 0] 12 rfl ⟨rfl, rfl, rfl⟩ (c_Walk_spreadN l D ci A sa N ((a_x, .inr (10, [.ref a_at, .ref a_g, .ref a_st, .ref a_x_kept, .int x_keptStates, .ref a_tp, .ref a_rd, .ref a_qu, .ref a_sp, .ref a_wk, .ref a_bx, .ref a_nt, .ref a_nu, .ref a_x_seen])) :: Rw) nL a_wk a_ws a_wk_steps a_wk_reached n_wk_steps n_wk_reached a_g a_ws_first a_ws_many a_ws_corner a_g_rowCuts a_g_columnCuts a_g_bandRows a_g_zoneColumns a_g_rows a_g_sheets wk_many wk_steps wk_reached ws_cornerCount ws_level ws_row ws_start ws_place ws_length ws_cap ws_first ws_many g_bandRows g_zoneColumns g_rows g_sheets p1 p2 f3 f4 v5 f6 f7 v8 v9 v10 v11 v12 v13 hm42) 1 rfl rfl (cwV 2 hts gX10_reach_X9_spread rfl rfl rfl (by decide +kernel) ⟨Nat.le_of_ble_eq_true rfl, Nat.le_of_ble_eq_true rfl⟩) rfl rfl (Nat.le_of_ble_eq_true rfl) dX10_reach_42 ⟨Nat.le_of_eq (Nat.zero_add _), Nat.le_of_eq (Nat.zero_add _)⟩ [11, 0, 1, 2, 3, 4, 5, 6, 7, 8, 9, 10] 12 (fun _ _ => rfl) (fun _ _ => ⟨rfl, rfl, rfl⟩) (fun b1_42 b2_42 H locs hP hD hS => ?_)
          obtain ⟨hP, hD⟩ : va_PD D A ((a_x, .inr (10, [.ref a_at, .ref a_g, .ref a_st, .ref a_x_kept, .int x_keptStates, .ref a_tp, .ref a_rd, .ref a_qu, .ref a_sp, .ref a_wk, .ref a_bx, .ref a_nt, .ref a_nu, .ref a_x_seen])) :: (a_wk, .inr (9, [.ref a_ws, .ref b1_42, .ref b2_42, .int v5])) :: (b1_42, .inl (ci 0, nL, .inl f3)) :: (b2_42, .inl (ci 0, nL, .inl f4)) :: (a_ws, .inr (6, [.ref a_g, .ref a_ws_first, .ref a_ws_many, .ref a_ws_corner, .int ws_cornerCount, .int v8, .int v9, .int v10, .int v11, .int v12, .int v13])) :: (a_ws_first, .inl (ci 0, 4, .inl f6)) :: (a_ws_many, .inl (ci 0, 4, .inl f7)) :: (a_g, .inr (2, [.ref a_g_rowCuts, .ref a_g_columnCuts, .ref a_g_bandRows, .ref a_g_zoneColumns, .ref a_g_rows, .ref a_g_sheets])) :: (a_g_bandRows, .inl (ci 0, 5, .inl g_bandRows)) :: (a_g_zoneColumns, .inl (ci 0, 5, .inl g_zoneColumns)) :: (a_g_rows, .inl (ci 0, 5, .inl g_rows)) :: (a_g_sheets, .inl (ci 0, 5, .inl g_sheets)) :: Rw) H := ⟨hP, hD⟩
          refine W.widen (k := 2) (n := nL + nL) (by omega) (by omega) ?_
          refine lv_aload_n (pc := 45) hx hb dX10_reach_45 rfl (lv_at hl 0 rfl) ?_
          refine va_get (pc := 46) (D := D) (ci := 10) (v := .ref a_wk) (C := RX10) (T := TX10) (N := 14) hx hb hts hinX10 hown hK hP 0 rfl rfl 9 (by decide) w_2 (fun _ h9 => h9) rfl dX10_reach_46 ?_
          refine lv_iload_n (pc := 49) hx hb dX10_reach_49 rfl (lv_at hl 3 rfl) ?_
          obtain ⟨v14, hm50, hf⟩ := q_b1_e hf
          refine q_cVr (pc := 50) (As := [.int p3]) (rest := []) (v0 := (some (.int v14))) ⟨hx, hb, hml, hown, hts⟩ hK hA hZ hP hD hS hl.1 [1, 2] 12 rfl ⟨rfl, rfl, rfl⟩ (c_Walk_within l D ci A sa N (Rw) a_wk a_ws b1_42 b2_42 nL v5 f3 p3 v14 hm50) 1 rfl rfl (cwV 1 hts gX10_reach_X9_within rfl rfl rfl (by decide +kernel) ⟨Nat.le_of_ble_eq_true rfl, Nat.le_of_ble_eq_true rfl⟩) rfl rfl (Nat.le_of_ble_eq_true rfl) dX10_reach_50 ⟨Nat.le_refl _, Nat.le_refl _⟩ (fun locs hS => ?_)
          obtain ⟨rfl, rfl, rfl, rfl, rfl, rfl, rfl, rfl, rfl, rfl, rfl, rfl⟩ := q_inj12 (Option.some.inj hf)
          rw [hQ]
          exact q_iretx (pc := 53) hx hb hr hlocks (fun t ht => ⟨_, _, by rw [ht]; exact hP, hD⟩) hS dX10_reach_53
        · refine lv_bipush (pc := 33) (v := (-3)) hx hb dX10_reach_33 (by decide) ?_
          cases hf
      · refine lv_iconst (pc := 16) (v := (-1)) hx hb dX10_reach_16 (by decide) ?_
        cases hf
  exact hgo _ _ rfl hP hS
/-! X10_way!N -/
set_option maxRecDepth 100000 in
set_option maxHeartbeats 4000000 in
theorem c_X_wayN (l : Launch) (D : va_G) (ci : Nat → ClassId) (A : Nat → Prop) (sa : Nat → Nat) (N : Nat) (Rw : va_W) (nL : Nat) (a_x : Nat) (a_at : Nat) (a_g : Nat) (a_st : Nat) (a_x_kept : Nat) (a_tp : Nat) (a_rd : Nat) (a_qu : Nat) (a_sp : Nat) (a_wk : Nat) (a_bx : Nat) (a_nt : Nat) (a_nu : Nat) (a_x_seen : Nat) (a_ws : Nat) (a_wk_steps : Nat) (a_wk_reached : Nat) (n_wk_steps : Nat) (n_wk_reached : Nat) (a_ws_first : Nat) (a_ws_many : Nat) (a_ws_corner : Nat) (a_g_rowCuts : Nat) (a_g_columnCuts : Nat) (a_g_bandRows : Nat) (a_g_zoneColumns : Nat) (a_g_rows : Nat) (a_g_sheets : Nat) (x_keptStates : Int32) (wk_many : Int32) (wk_steps : Nat → Int32) (wk_reached : Nat → Int32) (ws_cornerCount : Int32) (ws_level : Int32) (ws_row : Int32) (ws_start : Int32) (ws_place : Int32) (ws_length : Int32) (ws_cap : Int32) (ws_first : Nat → Int32) (ws_many : Nat → Int32) (g_bandRows : Nat → Int32) (g_zoneColumns : Nat → Int32) (g_rows : Nat → Int32) (g_sheets : Nat → Int32) (p1 : Int32) (p2 : Int32) (p3 : Int32) (p4 : Int32) (r : Int32) (o1 : Nat → Int32) (o2 : Nat → Int32) (o3 : Int32) (o4 : Nat → Int32) (o5 : Nat → Int32) (o6 : Int32) (o7 : Int32) (o8 : Int32) (o9 : Int32) (o10 : Int32) (o11 : Int32) (hf : f_X_wayN N nL n_wk_steps wk_steps wk_reached wk_many ws_first ws_many ws_level ws_row ws_start ws_place ws_length ws_cap g_bandRows g_zoneColumns g_rows g_sheets p1 p2 p3 p4 = some (r, o1, o2, o3, o4, o5, o6, o7, o8, o9, o10, o11)) : Met l yX10_way wsX10_way ({ frames := 4, cells := 2, slots := (nL + nL), locals := 112 }) (va_Pc [.ref a_x, .int p1, .int p2, .int p3, .int p4] (q_N D ci A sa ((a_x, .inr (10, [.ref a_at, .ref a_g, .ref a_st, .ref a_x_kept, .int x_keptStates, .ref a_tp, .ref a_rd, .ref a_qu, .ref a_sp, .ref a_wk, .ref a_bx, .ref a_nt, .ref a_nu, .ref a_x_seen])) :: (a_wk, .inr (9, [.ref a_ws, .ref a_wk_steps, .ref a_wk_reached, .int wk_many])) :: (a_wk_steps, .inl (ci 0, n_wk_steps, .inl wk_steps)) :: (a_wk_reached, .inl (ci 0, n_wk_reached, .inl wk_reached)) :: (a_ws, .inr (6, [.ref a_g, .ref a_ws_first, .ref a_ws_many, .ref a_ws_corner, .int ws_cornerCount, .int ws_level, .int ws_row, .int ws_start, .int ws_place, .int ws_length, .int ws_cap])) :: (a_ws_first, .inl (ci 0, 4, .inl ws_first)) :: (a_ws_many, .inl (ci 0, 4, .inl ws_many)) :: (a_g, .inr (2, [.ref a_g_rowCuts, .ref a_g_columnCuts, .ref a_g_bandRows, .ref a_g_zoneColumns, .ref a_g_rows, .ref a_g_sheets])) :: (a_g_bandRows, .inl (ci 0, 5, .inl g_bandRows)) :: (a_g_zoneColumns, .inl (ci 0, 5, .inl g_zoneColumns)) :: (a_g_rows, .inl (ci 0, 5, .inl g_rows)) :: (a_g_sheets, .inl (ci 0, 5, .inl g_sheets)) :: Rw))) (q_Q (some (.int r)) (fun t => ∃ b1 b2 : Nat, q_O D A ((a_x, .inr (10, [.ref a_at, .ref a_g, .ref a_st, .ref a_x_kept, .int x_keptStates, .ref a_tp, .ref a_rd, .ref a_qu, .ref a_sp, .ref a_wk, .ref a_bx, .ref a_nt, .ref a_nu, .ref a_x_seen])) :: (a_wk, .inr (9, [.ref a_ws, .ref b1, .ref b2, .int o3])) :: (b1, .inl (ci 0, nL, .inl o1)) :: (b2, .inl (ci 0, nL, .inl o2)) :: (a_ws, .inr (6, [.ref a_g, .ref a_ws_first, .ref a_ws_many, .ref a_ws_corner, .int ws_cornerCount, .int o6, .int o7, .int o8, .int o9, .int o10, .int o11])) :: (a_ws_first, .inl (ci 0, 4, .inl o4)) :: (a_ws_many, .inl (ci 0, 4, .inl o5)) :: (a_g, .inr (2, [.ref a_g_rowCuts, .ref a_g_columnCuts, .ref a_g_bandRows, .ref a_g_zoneColumns, .ref a_g_rows, .ref a_g_sheets])) :: (a_g_bandRows, .inl (ci 0, 5, .inl g_bandRows)) :: (a_g_zoneColumns, .inl (ci 0, 5, .inl g_zoneColumns)) :: (a_g_rows, .inl (ci 0, 5, .inl g_rows)) :: (a_g_sheets, .inl (ci 0, 5, .inl g_sheets)) :: Rw) t) A) 2 (nL + nL) A := by
  refine q_ofW (cc := cX10_way) (maxL := 5) (ret := (some .int)) [.ref a_x, .int p1, .int p2, .int p3, .int p4] (plainFor_of_name (by decide)) rfl (Nat.le_of_ble_eq_true rfl) ?_
  intro p e s m below meth c ls Q hQ hx hb hml hr hts hown hlocks hK hA hZ hP hD hS hl
  have hl : lv_has ls 5 [(0, .ref a_x), (1, .int p1), (2, .int p2), (3, .int p3), (4, .int p4)] := hl
  have hown : s.vm.findClass RX10 = some m.cls := hown
  have hinX10 : ∀ w ∈ wsX100, w ∈ wsX10_way := fun _ h => List.mem_cons_of_mem _ (inWX100 _ h)
  have hinX2 : ∀ w ∈ wsX20, w ∈ wsX10_way := fun _ h => List.mem_cons_of_mem _ (inWX20 _ h)
  have w_1 := hts (Cond.fieldLink RX10 20 "SheetNames" "grid" "LSheetNames$Grid;") (List.mem_cons_of_mem _ t_w876)
  have w_2 := hts (Cond.fieldLink RX10 73 "SheetNames" "walk" "LSheetNames$Walk;") (List.mem_cons_of_mem _ t_w881)
  have wn_1 : (Cond.fieldLinkNest "SheetNames" 126 "SheetNames$Grid" "sheets" "[I" "SheetNames").before ([.ref a_x, .int p1, .int p2, .int p3, .int p4] : List Value).toArray s = true := (hZ.2.2.2.2.2.2.2.2.2.1 _ (List.mem_of_getElem? (i := 1) rfl)).use rfl
  unfold f_X_wayN at hf
  have hgo : ∀ (H : Heap) (locs : List Loc), H = s.heap → va_P D vwCl ((a_x, .inr (10, [.ref a_at, .ref a_g, .ref a_st, .ref a_x_kept, .int x_keptStates, .ref a_tp, .ref a_rd, .ref a_qu, .ref a_sp, .ref a_wk, .ref a_bx, .ref a_nt, .ref a_nu, .ref a_x_seen])) :: (a_wk, .inr (9, [.ref a_ws, .ref a_wk_steps, .ref a_wk_reached, .int wk_many])) :: (a_wk_steps, .inl (ci 0, n_wk_steps, .inl wk_steps)) :: (a_wk_reached, .inl (ci 0, n_wk_reached, .inl wk_reached)) :: (a_ws, .inr (6, [.ref a_g, .ref a_ws_first, .ref a_ws_many, .ref a_ws_corner, .int ws_cornerCount, .int ws_level, .int ws_row, .int ws_start, .int ws_place, .int ws_length, .int ws_cap])) :: (a_ws_first, .inl (ci 0, 4, .inl ws_first)) :: (a_ws_many, .inl (ci 0, 4, .inl ws_many)) :: (a_g, .inr (2, [.ref a_g_rowCuts, .ref a_g_columnCuts, .ref a_g_bandRows, .ref a_g_zoneColumns, .ref a_g_rows, .ref a_g_sheets])) :: (a_g_bandRows, .inl (ci 0, 5, .inl g_bandRows)) :: (a_g_zoneColumns, .inl (ci 0, 5, .inl g_zoneColumns)) :: (a_g_rows, .inl (ci 0, 5, .inl g_rows)) :: (a_g_sheets, .inl (ci 0, 5, .inl g_sheets)) :: Rw) H → va_S A s.heap H locs → W p l e ({ frames := 4, cells := 2, slots := (nL + nL), locals := 112 } : Room) s m ([.ref a_x, .int p1, .int p2, .int p3, .int p4] : List Value).toArray below meth c H locs 0 0 Q (F0 m 0 ls []) := by
    intro H locs hH hP hS
    refine lv_aload_n (pc := 0) hx hb dX10_way_0 rfl (lv_at hl 0 rfl) ?_
    refine lv_iload_n (pc := 1) hx hb dX10_way_1 rfl (lv_at hl 1 rfl) ?_
    refine lv_iload_n (pc := 2) hx hb dX10_way_2 rfl (lv_at hl 2 rfl) ?_
    refine lv_iload_n (pc := 3) hx hb dX10_way_3 rfl (lv_at hl 3 rfl) ?_
    obtain ⟨v1, hm4, hf⟩ := q_b1_e hf
    refine q_cVr (pc := 4) (As := [.int p1, .int p2, .int p3]) (rest := []) (v0 := (some (.int v1))) ⟨hx, hb, hml, hown, hts⟩ hK hA hZ hP hD hS hl.1 [0, 7, 11] 12 rfl ⟨rfl, rfl, rfl⟩ (c_X_areSheets l D ci A sa N (Rw) a_x a_at a_g a_st a_x_kept a_tp a_rd a_qu a_sp a_wk a_bx a_nt a_nu a_x_seen a_g_rowCuts a_g_columnCuts a_g_bandRows a_g_zoneColumns a_g_rows a_g_sheets x_keptStates g_sheets p1 p2 p3 v1 hm4) 0 rfl rfl (cwV 3 hts gX10_way_X10_areSheets rfl rfl rfl (by decide +kernel) ⟨Nat.le_of_ble_eq_true rfl, Nat.le_of_ble_eq_true rfl⟩) rfl rfl (Nat.le_of_ble_eq_true rfl) dX10_way_4 ⟨Nat.zero_le _, Nat.zero_le _⟩ (fun locs hS => ?_)
    refine q_if_eq (pc := 7) (tgt := 15) hx hb dX10_way_7 (by decide) rfl hf (fun hf => ?_) (fun hf => ?_)
    · refine lv_iconst (pc := 15) (v := (-1)) hx hb dX10_way_15 (by decide) ?_
      cases hf
    · refine lv_iload (pc := 10) hx hb dX10_way_10 (lv_at hl 4 rfl) ?_
      refine q_if_ge (pc := 12) (tgt := 17) hx hb dX10_way_12 (by decide) rfl hf (fun hf => ?_) (fun hf => ?_)
      · refine lv_aload_n (pc := 17) hx hb dX10_way_17 rfl (lv_at hl 0 rfl) ?_
        refine va_get (pc := 18) (D := D) (ci := 10) (v := .ref a_g) (C := RX10) (T := TX10) (N := 14) hx hb hts hinX10 hown hK hP 0 rfl rfl 1 (by decide) w_1 (fun _ h9 => h9) rfl dX10_way_18 ?_
        refine va_getN (pc := 21) (D := D) (ci := 2) (v := .ref a_g_sheets) (C := RX2) (T := TX2) (N := 6) hx hb hts hinX2 hown hK hP 7 rfl rfl 5 (by decide) wn_1 (fun _ h9 => h9) rfl dX10_way_21 ?_
        refine lv_iload_n (pc := 24) hx hb dX10_way_24 rfl (lv_at hl 1 rfl) ?_
        refine q_iald (pc := 25) hx hb hK hP 11 0 hf rfl rfl dX10_way_25 (fun v2 hf => ?_)
        refine lv_sipush (pc := 26) (v := 20000) hx hb dX10_way_26 (by decide) ?_
        refine q_icmp_le (pc := 29) (tgt := 35) hx hb dX10_way_29 (by decide) rfl hf (fun hf => ?_) (fun hf => ?_)
        · refine lv_aload_n (pc := 35) hx hb dX10_way_35 rfl (lv_at hl 0 rfl) ?_
          refine va_get (pc := 36) (D := D) (ci := 10) (v := .ref a_wk) (C := RX10) (T := TX10) (N := 14) hx hb hts hinX10 hown hK hP 0 rfl rfl 9 (by decide) w_2 (fun _ h9 => h9) rfl dX10_way_36 ?_
          refine lv_iload_n (pc := 39) hx hb dX10_way_39 rfl (lv_at hl 1 rfl) ?_
          refine lv_iload_n (pc := 40) hx hb dX10_way_40 rfl (lv_at hl 3 rfl) ?_
          obtain ⟨f3, f4, v5, f6, f7, v8, v9, v10, v11, v12, v13, hm41, hf⟩ := q_b11_e hf
          refine q_cVx (W2x := fun b1 b2 => (a_wk, .inr (9, [.ref a_ws, .ref b1, .ref b2, .int v5])) :: (b1, .inl (ci 0, nL, .inl f3)) :: (b2, .inl (ci 0, nL, .inl f4)) :: (a_ws, .inr (6, [.ref a_g, .ref a_ws_first, .ref a_ws_many, .ref a_ws_corner, .int ws_cornerCount, .int v8, .int v9, .int v10, .int v11, .int v12, .int v13])) :: (a_ws_first, .inl (ci 0, 4, .inl f6)) :: (a_ws_many, .inl (ci 0, 4, .inl f7)) :: (a_g, .inr (2, [.ref a_g_rowCuts, .ref a_g_columnCuts, .ref a_g_bandRows, .ref a_g_zoneColumns, .ref a_g_rows, .ref a_g_sheets])) :: (a_g_bandRows, .inl (ci 0, 5, .inl g_bandRows)) :: (a_g_zoneColumns, .inl (ci 0, 5, .inl g_zoneColumns)) :: (a_g_rows, .inl (ci 0, 5, .inl g_rows)) :: (a_g_sheets, .inl (ci 0, 5, .inl g_sheets)) :: (a_x, .inr (10, [.ref a_at, .ref a_g, .ref a_st, .ref a_x_kept, .int x_keptStates, .ref a_tp, .ref a_rd, .ref a_qu, .ref a_sp, .ref a_wk, .ref a_bx, .ref a_nt, .ref a_nu, .ref a_x_seen])) :: Rw) (W3x := fun b1 b2 => (a_x, .inr (10, [.ref a_at, .ref a_g, .ref a_st, .ref a_x_kept, .int x_keptStates, .ref a_tp, .ref a_rd, .ref a_qu, .ref a_sp, .ref a_wk, .ref a_bx, .ref a_nt, .ref a_nu, .ref a_x_seen])) :: (a_wk, .inr (9, [.ref a_ws, .ref b1, .ref b2, .int v5])) :: (b1, .inl (ci 0, nL, .inl f3)) :: (b2, .inl (ci 0, nL, .inl f4)) :: (a_ws, .inr (6, [.ref a_g, .ref a_ws_first, .ref a_ws_many, .ref a_ws_corner, .int ws_cornerCount, .int v8, .int v9, .int v10, .int v11, .int v12, .int v13])) :: (a_ws_first, .inl (ci 0, 4, .inl f6)) :: (a_ws_many, .inl (ci 0, 4, .inl f7)) :: (a_g, .inr (2, [.ref a_g_rowCuts, .ref a_g_columnCuts, .ref a_g_bandRows, .ref a_g_zoneColumns, .ref a_g_rows, .ref a_g_sheets])) :: (a_g_bandRows, .inl (ci 0, 5, .inl g_bandRows)) :: (a_g_zoneColumns, .inl (ci 0, 5, .inl g_zoneColumns)) :: (a_g_rows, .inl (ci 0, 5, .inl g_rows)) :: (a_g_sheets, .inl (ci 0, 5, .inl g_sheets)) :: Rw) (pc := 41) (As := [.int p1, .int p3]) (rest := []) (v0 := none) ⟨hx, hb, hml, hown, hts⟩ hK hA hZ hP hD hS hl.1 [1, 2, 3, 4, 5, 6, 7, 8, 9, 10, 11, 0] 12 rfl ⟨rfl, rfl, rfl⟩ (c_Walk_spreadN l D ci A sa N ((a_x, .inr (10, [.ref a_at, .ref a_g, .ref a_st, .ref a_x_kept, .int x_keptStates, .ref a_tp, .ref a_rd, .ref a_qu, .ref a_sp, .ref a_wk, .ref a_bx, .ref a_nt, .ref a_nu, .ref a_x_seen])) :: Rw) nL a_wk a_ws a_wk_steps a_wk_reached n_wk_steps n_wk_reached a_g a_ws_first a_ws_many a_ws_corner a_g_rowCuts a_g_columnCuts a_g_bandRows a_g_zoneColumns a_g_rows a_g_sheets wk_many wk_steps wk_reached ws_cornerCount ws_level ws_row ws_start ws_place ws_length ws_cap ws_first ws_many g_bandRows g_zoneColumns g_rows g_sheets p1 p3 f3 f4 v5 f6 f7 v8 v9 v10 v11 v12 v13 hm41) 1 rfl rfl (cwV 2 hts gX10_way_X9_spread rfl rfl rfl (by decide +kernel) ⟨Nat.le_of_ble_eq_true rfl, Nat.le_of_ble_eq_true rfl⟩) rfl rfl (Nat.le_of_ble_eq_true rfl) dX10_way_41 ⟨Nat.le_of_eq (Nat.zero_add _), Nat.le_of_eq (Nat.zero_add _)⟩ [11, 0, 1, 2, 3, 4, 5, 6, 7, 8, 9, 10] 12 (fun _ _ => rfl) (fun _ _ => ⟨rfl, rfl, rfl⟩) (fun b1_41 b2_41 H locs hP hD hS => ?_)
          obtain ⟨hP, hD⟩ : va_PD D A ((a_x, .inr (10, [.ref a_at, .ref a_g, .ref a_st, .ref a_x_kept, .int x_keptStates, .ref a_tp, .ref a_rd, .ref a_qu, .ref a_sp, .ref a_wk, .ref a_bx, .ref a_nt, .ref a_nu, .ref a_x_seen])) :: (a_wk, .inr (9, [.ref a_ws, .ref b1_41, .ref b2_41, .int v5])) :: (b1_41, .inl (ci 0, nL, .inl f3)) :: (b2_41, .inl (ci 0, nL, .inl f4)) :: (a_ws, .inr (6, [.ref a_g, .ref a_ws_first, .ref a_ws_many, .ref a_ws_corner, .int ws_cornerCount, .int v8, .int v9, .int v10, .int v11, .int v12, .int v13])) :: (a_ws_first, .inl (ci 0, 4, .inl f6)) :: (a_ws_many, .inl (ci 0, 4, .inl f7)) :: (a_g, .inr (2, [.ref a_g_rowCuts, .ref a_g_columnCuts, .ref a_g_bandRows, .ref a_g_zoneColumns, .ref a_g_rows, .ref a_g_sheets])) :: (a_g_bandRows, .inl (ci 0, 5, .inl g_bandRows)) :: (a_g_zoneColumns, .inl (ci 0, 5, .inl g_zoneColumns)) :: (a_g_rows, .inl (ci 0, 5, .inl g_rows)) :: (a_g_sheets, .inl (ci 0, 5, .inl g_sheets)) :: Rw) H := ⟨hP, hD⟩
          refine W.widen (k := 2) (n := nL + nL) (by omega) (by omega) ?_
          refine lv_iload (pc := 44) hx hb dX10_way_44 (lv_at hl 4 rfl) ?_
          refine lv_aload_n (pc := 46) hx hb dX10_way_46 rfl (lv_at hl 0 rfl) ?_
          refine va_get (pc := 47) (D := D) (ci := 10) (v := .ref a_wk) (C := RX10) (T := TX10) (N := 14) hx hb hts hinX10 hown hK hP 0 rfl rfl 9 (by decide) w_2 (fun _ h9 => h9) rfl dX10_way_47 ?_
          refine lv_iload_n (pc := 50) hx hb dX10_way_50 rfl (lv_at hl 2 rfl) ?_
          obtain ⟨v14, hm51, hf⟩ := q_b1_e hf
          refine q_cVr (pc := 51) (As := [.int p2]) (rest := [.int p4]) (v0 := (some (.int v14))) ⟨hx, hb, hml, hown, hts⟩ hK hA hZ hP hD hS hl.1 [1, 2] 12 rfl ⟨rfl, rfl, rfl⟩ (c_Walk_stepsTo l D ci A sa N (Rw) a_wk a_ws b1_41 b2_41 nL v5 f3 p2 v14 hm51) 1 rfl rfl (cwV 1 hts gX10_way_X9_stepsTo rfl rfl rfl (by decide +kernel) ⟨Nat.le_of_ble_eq_true rfl, Nat.le_of_ble_eq_true rfl⟩) rfl rfl (Nat.le_of_ble_eq_true rfl) dX10_way_51 ⟨Nat.le_refl _, Nat.le_refl _⟩ (fun locs hS => ?_)
          refine q_icmp_le (pc := 54) (tgt := 62) hx hb dX10_way_54 (by decide) rfl hf (fun hf => ?_) (fun hf => ?_)
          · refine lv_aload_n (pc := 62) hx hb dX10_way_62 rfl (lv_at hl 0 rfl) ?_
            refine va_get (pc := 63) (D := D) (ci := 10) (v := .ref a_wk) (C := RX10) (T := TX10) (N := 14) hx hb hts hinX10 hown hK hP 0 rfl rfl 9 (by decide) w_2 (fun _ h9 => h9) rfl dX10_way_63 ?_
            refine lv_iload_n (pc := 66) hx hb dX10_way_66 rfl (lv_at hl 1 rfl) ?_
            refine lv_iload_n (pc := 67) hx hb dX10_way_67 rfl (lv_at hl 2 rfl) ?_
            refine lv_iload (pc := 68) hx hb dX10_way_68 (lv_at hl 4 rfl) ?_
            obtain ⟨v15, f16, f17, v18, v19, v20, v21, v22, v23, hm70, hf⟩ := q_b9_e hf
            refine q_cV (pc := 70) (As := [.int p1, .int p2, .int p4]) (rest := []) (v0 := (some (.int v15))) ⟨hx, hb, hml, hown, hts⟩ hK hA hZ hP hD hS hl.1 [1, 2, 4, 5, 6, 7, 8, 9, 10, 11, 0, 3] 12 rfl ⟨rfl, rfl, rfl⟩ (c_Walk_onTheWay l D ci A sa N ((a_x, .inr (10, [.ref a_at, .ref a_g, .ref a_st, .ref a_x_kept, .int x_keptStates, .ref a_tp, .ref a_rd, .ref a_qu, .ref a_sp, .ref a_wk, .ref a_bx, .ref a_nt, .ref a_nu, .ref a_x_seen])) :: (b2_41, .inl (ci 0, nL, .inl f4)) :: Rw) a_wk a_ws b1_41 b2_41 nL a_g a_ws_first a_ws_many a_ws_corner a_g_rowCuts a_g_columnCuts a_g_bandRows a_g_zoneColumns a_g_rows a_g_sheets v5 f3 ws_cornerCount v8 v9 v10 v11 v12 v13 f6 f7 g_bandRows g_zoneColumns g_rows g_sheets p1 p2 p4 v15 f16 f17 v18 v19 v20 v21 v22 v23 hm70) 1 rfl rfl (cwV 3 hts gX10_way_X9_onTheWay rfl rfl rfl (by decide +kernel) ⟨Nat.le_of_ble_eq_true rfl, Nat.le_of_ble_eq_true rfl⟩) rfl rfl (Nat.le_of_ble_eq_true rfl) dX10_way_70 ⟨Nat.le_refl _, Nat.le_refl _⟩ [10, 0, 1, 11, 2, 3, 4, 5, 6, 7, 8, 9] 12 rfl ⟨rfl, rfl, rfl⟩ (fun H locs hP hD hS => ?_)
            obtain ⟨hP, hD⟩ : va_PD D A ((a_x, .inr (10, [.ref a_at, .ref a_g, .ref a_st, .ref a_x_kept, .int x_keptStates, .ref a_tp, .ref a_rd, .ref a_qu, .ref a_sp, .ref a_wk, .ref a_bx, .ref a_nt, .ref a_nu, .ref a_x_seen])) :: (a_wk, .inr (9, [.ref a_ws, .ref b1_41, .ref b2_41, .int v5])) :: (b1_41, .inl (ci 0, nL, .inl f3)) :: (b2_41, .inl (ci 0, nL, .inl f4)) :: (a_ws, .inr (6, [.ref a_g, .ref a_ws_first, .ref a_ws_many, .ref a_ws_corner, .int ws_cornerCount, .int v18, .int v19, .int v20, .int v21, .int v22, .int v23])) :: (a_ws_first, .inl (ci 0, 4, .inl f16)) :: (a_ws_many, .inl (ci 0, 4, .inl f17)) :: (a_g, .inr (2, [.ref a_g_rowCuts, .ref a_g_columnCuts, .ref a_g_bandRows, .ref a_g_zoneColumns, .ref a_g_rows, .ref a_g_sheets])) :: (a_g_bandRows, .inl (ci 0, 5, .inl g_bandRows)) :: (a_g_zoneColumns, .inl (ci 0, 5, .inl g_zoneColumns)) :: (a_g_rows, .inl (ci 0, 5, .inl g_rows)) :: (a_g_sheets, .inl (ci 0, 5, .inl g_sheets)) :: Rw) H := ⟨hP, hD⟩
            obtain ⟨rfl, rfl, rfl, rfl, rfl, rfl, rfl, rfl, rfl, rfl, rfl, rfl⟩ := q_inj12 (Option.some.inj hf)
            rw [hQ]
            exact q_iretx (pc := 73) hx hb hr hlocks (fun t ht => ⟨_, _, by rw [ht]; exact hP, hD⟩) hS dX10_way_73
          · refine lv_bipush (pc := 57) (v := (-2)) hx hb dX10_way_57 (by decide) ?_
            refine lv_goto (pc := 59) (tgt := 73) hx hb dX10_way_59 (by decide) ?_
            obtain ⟨rfl, rfl, rfl, rfl, rfl, rfl, rfl, rfl, rfl, rfl, rfl, rfl⟩ := q_inj12 (Option.some.inj hf)
            rw [hQ]
            exact q_iretx (pc := 73) hx hb hr hlocks (fun t ht => ⟨_, _, by rw [ht]; exact hP, hD⟩) hS dX10_way_73
        · refine lv_bipush (pc := 32) (v := (-3)) hx hb dX10_way_32 (by decide) ?_
          cases hf
      · refine lv_iconst (pc := 15) (v := (-1)) hx hb dX10_way_15 (by decide) ?_
        cases hf
  exact hgo _ _ rfl hP hS
end
