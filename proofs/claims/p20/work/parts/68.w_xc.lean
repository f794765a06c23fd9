/-! X10_isLacking -/
set_option maxRecDepth 100000 in
set_option maxHeartbeats 4000000 in
theorem c_X_isLacking (l : Launch) (D : va_G) (ci : Nat → ClassId) (A : Nat → Prop) (sa : Nat → Nat) (N : Nat) (Rw : va_W) (a_x : Nat) (a_at : Nat) (a_g : Nat) (a_st : Nat) (a_x_kept : Nat) (a_tp : Nat) (a_rd : Nat) (a_qu : Nat) (a_sp : Nat) (a_wk : Nat) (a_bx : Nat) (a_nt : Nat) (a_nu : Nat) (a_x_seen : Nat) (a_sp_first : Nat) (a_sp_many : Nat) (a_sp_corner : Nat) (a_st_levels : Nat) (a_st_keys : Nat) (a_st_years : Nat) (a_st_keysThere : Nat) (a_g_rowCuts : Nat) (a_g_columnCuts : Nat) (a_g_bandRows : Nat) (a_g_zoneColumns : Nat) (a_g_rows : Nat) (a_g_sheets : Nat) (x_keptStates : Int32) (sp_cornerCount : Int32) (sp_level : Int32) (sp_row : Int32) (sp_start : Int32) (sp_place : Int32) (sp_length : Int32) (sp_cap : Int32) (st_size : Int32) (st_shownBy : Int32) (st_deepestShown : Int32) (st_latestShown : Int32) (st_levels : Nat → Int32) (st_keys : Nat → Int32) (st_years : Nat → Int32) (st_keysThere : Nat → Int32) (g_bandRows : Nat → Int32) (g_zoneColumns : Nat → Int32) (g_rows : Nat → Int32) (g_sheets : Nat → Int32) (p1 : Int32) (p2 : Int32) (p3 : Int32) (r : Int32) (o1 : Int32) (o2 : Int32) (o3 : Int32) (o4 : Int32) (o5 : Int32) (o6 : Int32) (o7 : Nat → Int32) (o8 : Int32) (o9 : Int32) (o10 : Int32) (hf : f_X_isLacking N sp_level sp_row sp_start sp_place sp_length sp_cap st_levels st_keys st_years st_keysThere st_size st_shownBy st_deepestShown st_latestShown g_bandRows g_zoneColumns g_rows g_sheets p1 p2 p3 = some (r, o1, o2, o3, o4, o5, o6, o7, o8, o9, o10)) : Met l yX10_isLacking wsX10_isLacking ({ frames := 4, cells := 0, slots := 0, locals := 96 }) (va_Pc [.ref a_x, .int p1, .int p2, .int p3] (q_N D ci A sa ((a_x, .inr (10, [.ref a_at, .ref a_g, .ref a_st, .ref a_x_kept, .int x_keptStates, .ref a_tp, .ref a_rd, .ref a_qu, .ref a_sp, .ref a_wk, .ref a_bx, .ref a_nt, .ref a_nu, .ref a_x_seen])) :: (a_sp, .inr (6, [.ref a_g, .ref a_sp_first, .ref a_sp_many, .ref a_sp_corner, .int sp_cornerCount, .int sp_level, .int sp_row, .int sp_start, .int sp_place, .int sp_length, .int sp_cap])) :: (a_st, .inr (7, [.ref a_g, .ref a_st_levels, .ref a_st_keys, .ref a_st_years, .ref a_st_keysThere, .int st_size, .int st_shownBy, .int st_deepestShown, .int st_latestShown])) :: (a_st_levels, .inl (ci 0, 60, .inl st_levels)) :: (a_st_keys, .inl (ci 0, 60, .inl st_keys)) :: (a_st_years, .inl (ci 0, 60, .inl st_years)) :: (a_st_keysThere, .inl (ci 0, 5, .inl st_keysThere)) :: (a_g, .inr (2, [.ref a_g_rowCuts, .ref a_g_columnCuts, .ref a_g_bandRows, .ref a_g_zoneColumns, .ref a_g_rows, .ref a_g_sheets])) :: (a_g_bandRows, .inl (ci 0, 5, .inl g_bandRows)) :: (a_g_zoneColumns, .inl (ci 0, 5, .inl g_zoneColumns)) :: (a_g_rows, .inl (ci 0, 5, .inl g_rows)) :: (a_g_sheets, .inl (ci 0, 5, .inl g_sheets)) :: Rw))) (q_Q (some (.int r)) (q_O D A ((a_x, .inr (10, [.ref a_at, .ref a_g, .ref a_st, .ref a_x_kept, .int x_keptStates, .ref a_tp, .ref a_rd, .ref a_qu, .ref a_sp, .ref a_wk, .ref a_bx, .ref a_nt, .ref a_nu, .ref a_x_seen])) :: (a_sp, .inr (6, [.ref a_g, .ref a_sp_first, .ref a_sp_many, .ref a_sp_corner, .int sp_cornerCount, .int o1, .int o2, .int o3, .int o4, .int o5, .int o6])) :: (a_st, .inr (7, [.ref a_g, .ref a_st_levels, .ref a_st_keys, .ref a_st_years, .ref a_st_keysThere, .int st_size, .int o8, .int o9, .int o10])) :: (a_st_levels, .inl (ci 0, 60, .inl st_levels)) :: (a_st_keys, .inl (ci 0, 60, .inl st_keys)) :: (a_st_years, .inl (ci 0, 60, .inl st_years)) :: (a_st_keysThere, .inl (ci 0, 5, .inl o7)) :: (a_g, .inr (2, [.ref a_g_rowCuts, .ref a_g_columnCuts, .ref a_g_bandRows, .ref a_g_zoneColumns, .ref a_g_rows, .ref a_g_sheets])) :: (a_g_bandRows, .inl (ci 0, 5, .inl g_bandRows)) :: (a_g_zoneColumns, .inl (ci 0, 5, .inl g_zoneColumns)) :: (a_g_rows, .inl (ci 0, 5, .inl g_rows)) :: (a_g_sheets, .inl (ci 0, 5, .inl g_sheets)) :: Rw)) A) 0 0 A := by
  refine q_ofW (cc := cX10_isLacking) (maxL := 4) (ret := (some .boolean)) [.ref a_x, .int p1, .int p2, .int p3] (plainFor_of_name (by decide)) rfl (Nat.le_of_ble_eq_true rfl) ?_
  intro p e s m below meth c ls Q hQ hx hb hml hr hts hown hlocks hK hA hZ hP hD hS hl
  have hl : lv_has ls 4 [(0, .ref a_x), (1, .int p1), (2, .int p2), (3, .int p3)] := hl
  have hown : s.vm.findClass RX10 = some m.cls := hown
  have hinX10 : ∀ w ∈ wsX100, w ∈ wsX10_isLacking := fun _ h => List.mem_cons_of_mem _ (inWX100 _ h)
  have hinX7 : ∀ w ∈ wsX70, w ∈ wsX10_isLacking := fun _ h => List.mem_cons_of_mem _ (inWX70 _ h)
  have w_1 := hts (Cond.fieldLink RX10 66 "SheetNames" "spot" "LSheetNames$Spot;") (List.mem_cons_of_mem _ t_w877)
  have w_2 := hts (Cond.fieldLink RX10 25 "SheetNames" "pieces" "LSheetNames$Store;") (List.mem_cons_of_mem _ t_w892)
  have wn_28 : (Cond.fieldLinkNest "SheetNames" 391 "SheetNames$Store" "shownBy" "I" "SheetNames").before ([.ref a_x, .int p1, .int p2, .int p3] : List Value).toArray s = true := (hZ.2.2.2.2.2.2.2.2.2.1 _ (List.mem_of_getElem? (i := 28) rfl)).use rfl
  have wn_30 : (Cond.fieldLinkNest "SheetNames" 397 "SheetNames$Store" "latestShown" "I" "SheetNames").before ([.ref a_x, .int p1, .int p2, .int p3] : List Value).toArray s = true := (hZ.2.2.2.2.2.2.2.2.2.1 _ (List.mem_of_getElem? (i := 30) rfl)).use rfl
  unfold f_X_isLacking at hf
  have hgo : ∀ (H : Heap) (locs : List Loc), H = s.heap → va_P D vwCl ((a_x, .inr (10, [.ref a_at, .ref a_g, .ref a_st, .ref a_x_kept, .int x_keptStates, .ref a_tp, .ref a_rd, .ref a_qu, .ref a_sp, .ref a_wk, .ref a_bx, .ref a_nt, .ref a_nu, .ref a_x_seen])) :: (a_sp, .inr (6, [.ref a_g, .ref a_sp_first, .ref a_sp_many, .ref a_sp_corner, .int sp_cornerCount, .int sp_level, .int sp_row, .int sp_start, .int sp_place, .int sp_length, .int sp_cap])) :: (a_st, .inr (7, [.ref a_g, .ref a_st_levels, .ref a_st_keys, .ref a_st_years, .ref a_st_keysThere, .int st_size, .int st_shownBy, .int st_deepestShown, .int st_latestShown])) :: (a_st_levels, .inl (ci 0, 60, .inl st_levels)) :: (a_st_keys, .inl (ci 0, 60, .inl st_keys)) :: (a_st_years, .inl (ci 0, 60, .inl st_years)) :: (a_st_keysThere, .inl (ci 0, 5, .inl st_keysThere)) :: (a_g, .inr (2, [.ref a_g_rowCuts, .ref a_g_columnCuts, .ref a_g_bandRows, .ref a_g_zoneColumns, .ref a_g_rows, .ref a_g_sheets])) :: (a_g_bandRows, .inl (ci 0, 5, .inl g_bandRows)) :: (a_g_zoneColumns, .inl (ci 0, 5, .inl g_zoneColumns)) :: (a_g_rows, .inl (ci 0, 5, .inl g_rows)) :: (a_g_sheets, .inl (ci 0, 5, .inl g_sheets)) :: Rw) H → va_S A s.heap H locs → W p l e ({ frames := 4, cells := 0, slots := 0, locals := 96 } : Room) s m ([.ref a_x, .int p1, .int p2, .int p3] : List Value).toArray below meth c H locs 0 0 Q (F0 m 0 ls []) := by
    intro H locs hH hP hS
    refine lv_aload_n (pc := 0) hx hb dX10_isLacking_0 rfl (lv_at hl 0 rfl) ?_
    refine va_get (pc := 1) (D := D) (ci := 10) (v := .ref a_sp) (C := RX10) (T := TX10) (N := 14) hx hb hts hinX10 hown hK hP 0 rfl rfl 8 (by decide) w_1 (fun _ h9 => h9) rfl dX10_isLacking_1 ?_
    refine lv_iload_n (pc := 4) hx hb dX10_isLacking_4 rfl (lv_at hl 1 rfl) ?_
    refine lv_iload_n (pc := 5) hx hb dX10_isLacking_5 rfl (lv_at hl 2 rfl) ?_
    obtain ⟨v1, v2, v3, v4, v5, v6, hm6, hf⟩ := q_b6_e hf
    refine q_cV (pc := 6) (As := [.int p1, .int p2]) (rest := []) (v0 := none) ⟨hx, hb, hml, hown, hts⟩ hK hA hZ hP hD hS hl.1 [1, 7, 8, 9, 10, 11, 0, 2, 3, 4, 5, 6] 12 rfl ⟨rfl, rfl, rfl⟩ (c_Spot_put l D ci A sa N ((a_x, .inr (10, [.ref a_at, .ref a_g, .ref a_st, .ref a_x_kept, .int x_keptStates, .ref a_tp, .ref a_rd, .ref a_qu, .ref a_sp, .ref a_wk, .ref a_bx, .ref a_nt, .ref a_nu, .ref a_x_seen])) :: (a_st, .inr (7, [.ref a_g, .ref a_st_levels, .ref a_st_keys, .ref a_st_years, .ref a_st_keysThere, .int st_size, .int st_shownBy, .int st_deepestShown, .int st_latestShown])) :: (a_st_levels, .inl (ci 0, 60, .inl st_levels)) :: (a_st_keys, .inl (ci 0, 60, .inl st_keys)) :: (a_st_years, .inl (ci 0, 60, .inl st_years)) :: (a_st_keysThere, .inl (ci 0, 5, .inl st_keysThere)) :: Rw) a_sp a_g a_sp_first a_sp_many a_sp_corner a_g_rowCuts a_g_columnCuts a_g_bandRows a_g_zoneColumns a_g_rows a_g_sheets sp_cornerCount sp_level sp_row sp_start sp_place sp_length sp_cap g_bandRows g_zoneColumns g_rows g_sheets p1 p2 v1 v2 v3 v4 v5 v6 hm6) 1 rfl rfl (cwV 2 hts gX10_isLacking_X6_put rfl rfl rfl (by decide +kernel) ⟨Nat.le_of_ble_eq_true rfl, Nat.le_of_ble_eq_true rfl⟩) rfl rfl (Nat.le_of_ble_eq_true rfl) dX10_isLacking_6 ⟨Nat.zero_le _, Nat.zero_le _⟩ [6, 0, 7, 8, 9, 10, 11, 1, 2, 3, 4, 5] 12 rfl ⟨rfl, rfl, rfl⟩ (fun H locs hP hD hS => ?_)
    obtain ⟨hP, hD⟩ : va_PD D A ((a_x, .inr (10, [.ref a_at, .ref a_g, .ref a_st, .ref a_x_kept, .int x_keptStates, .ref a_tp, .ref a_rd, .ref a_qu, .ref a_sp, .ref a_wk, .ref a_bx, .ref a_nt, .ref a_nu, .ref a_x_seen])) :: (a_sp, .inr (6, [.ref a_g, .ref a_sp_first, .ref a_sp_many, .ref a_sp_corner, .int sp_cornerCount, .int v1, .int v2, .int v3, .int v4, .int v5, .int v6])) :: (a_st, .inr (7, [.ref a_g, .ref a_st_levels, .ref a_st_keys, .ref a_st_years, .ref a_st_keysThere, .int st_size, .int st_shownBy, .int st_deepestShown, .int st_latestShown])) :: (a_st_levels, .inl (ci 0, 60, .inl st_levels)) :: (a_st_keys, .inl (ci 0, 60, .inl st_keys)) :: (a_st_years, .inl (ci 0, 60, .inl st_years)) :: (a_st_keysThere, .inl (ci 0, 5, .inl st_keysThere)) :: (a_g, .inr (2, [.ref a_g_rowCuts, .ref a_g_columnCuts, .ref a_g_bandRows, .ref a_g_zoneColumns, .ref a_g_rows, .ref a_g_sheets])) :: (a_g_bandRows, .inl (ci 0, 5, .inl g_bandRows)) :: (a_g_zoneColumns, .inl (ci 0, 5, .inl g_zoneColumns)) :: (a_g_rows, .inl (ci 0, 5, .inl g_rows)) :: (a_g_sheets, .inl (ci 0, 5, .inl g_sheets)) :: Rw) H := ⟨hP, hD⟩
    refine lv_aload_n (pc := 9) hx hb dX10_isLacking_9 rfl (lv_at hl 0 rfl) ?_
    refine va_get (pc := 10) (D := D) (ci := 10) (v := .ref a_st) (C := RX10) (T := TX10) (N := 14) hx hb hts hinX10 hown hK hP 0 rfl rfl 2 (by decide) w_2 (fun _ h9 => h9) rfl dX10_isLacking_10 ?_
    refine lv_aload_n (pc := 13) hx hb dX10_isLacking_13 rfl (lv_at hl 0 rfl) ?_
    refine va_get (pc := 14) (D := D) (ci := 10) (v := .ref a_sp) (C := RX10) (T := TX10) (N := 14) hx hb hts hinX10 hown hK hP 0 rfl rfl 8 (by decide) w_1 (fun _ h9 => h9) rfl dX10_isLacking_14 ?_
    obtain ⟨v7, hm17, hf⟩ := q_b1_e hf
    refine q_cVr (pc := 17) (As := []) (rest := [.ref a_st]) (v0 := (some (.int v7))) ⟨hx, hb, hml, hown, hts⟩ hK hA hZ hP hD hS hl.1 [1, 7, 8] 12 rfl ⟨rfl, rfl, rfl⟩ (c_Spot_middleLat l D ci A sa N (Rw) a_sp a_g a_sp_first a_sp_many a_sp_corner a_g_rowCuts a_g_columnCuts a_g_bandRows a_g_zoneColumns a_g_rows a_g_sheets sp_cornerCount v1 v2 v3 v4 v5 v6 g_bandRows v7 hm17) 1 rfl rfl (cwV 0 hts gX10_isLacking_X6_middleLat rfl rfl rfl (by decide +kernel) ⟨Nat.le_of_ble_eq_true rfl, Nat.le_of_ble_eq_true rfl⟩) rfl rfl (Nat.le_of_ble_eq_true rfl) dX10_isLacking_17 ⟨Nat.zero_le _, Nat.zero_le _⟩ (fun locs hS => ?_)
    refine lv_aload_n (pc := 20) hx hb dX10_isLacking_20 rfl (lv_at hl 0 rfl) ?_
    refine va_get (pc := 21) (D := D) (ci := 10) (v := .ref a_sp) (C := RX10) (T := TX10) (N := 14) hx hb hts hinX10 hown hK hP 0 rfl rfl 8 (by decide) w_1 (fun _ h9 => h9) rfl dX10_isLacking_21 ?_
    obtain ⟨v8, hm24, hf⟩ := q_b1_e hf
    refine q_cVr (pc := 24) (As := []) (rest := [.int v7, .ref a_st]) (v0 := (some (.int v8))) ⟨hx, hb, hml, hown, hts⟩ hK hA hZ hP hD hS hl.1 [1, 7, 8] 12 rfl ⟨rfl, rfl, rfl⟩ (c_Spot_middleLon l D ci A sa N (Rw) a_sp a_g a_sp_first a_sp_many a_sp_corner a_g_rowCuts a_g_columnCuts a_g_bandRows a_g_zoneColumns a_g_rows a_g_sheets sp_cornerCount v1 v2 v3 v4 v5 v6 g_bandRows v8 hm24) 1 rfl rfl (cwV 0 hts gX10_isLacking_X6_middleLon rfl rfl rfl (by decide +kernel) ⟨Nat.le_of_ble_eq_true rfl, Nat.le_of_ble_eq_true rfl⟩) rfl rfl (Nat.le_of_ble_eq_true rfl) dX10_isLacking_24 ⟨Nat.zero_le _, Nat.zero_le _⟩ (fun locs hS => ?_)
    obtain ⟨f9, v10, v11, v12, hm27, hf⟩ := q_b4_e hf
    refine q_cV (pc := 27) (As := [.int v7, .int v8]) (rest := []) (v0 := none) ⟨hx, hb, hml, hown, hts⟩ hK hA hZ hP hD hS hl.1 [2, 3, 4, 5, 6, 7, 8, 9, 10, 11, 0, 1] 12 rfl ⟨rfl, rfl, rfl⟩ (c_Store_lookAt l D ci A sa N ((a_x, .inr (10, [.ref a_at, .ref a_g, .ref a_st, .ref a_x_kept, .int x_keptStates, .ref a_tp, .ref a_rd, .ref a_qu, .ref a_sp, .ref a_wk, .ref a_bx, .ref a_nt, .ref a_nu, .ref a_x_seen])) :: (a_sp, .inr (6, [.ref a_g, .ref a_sp_first, .ref a_sp_many, .ref a_sp_corner, .int sp_cornerCount, .int v1, .int v2, .int v3, .int v4, .int v5, .int v6])) :: Rw) a_st a_g a_st_levels a_st_keys a_st_years a_st_keysThere a_g_rowCuts a_g_columnCuts a_g_bandRows a_g_zoneColumns a_g_rows a_g_sheets st_size st_shownBy st_deepestShown st_latestShown st_levels st_keys st_years st_keysThere g_bandRows g_zoneColumns g_rows g_sheets v7 v8 f9 v10 v11 v12 hm27) 2 rfl rfl (cwV 2 hts gX10_isLacking_X7_lookAt rfl rfl rfl (by decide +kernel) ⟨Nat.le_of_ble_eq_true rfl, Nat.le_of_ble_eq_true rfl⟩) rfl rfl (Nat.le_of_ble_eq_true rfl) dX10_isLacking_27 ⟨Nat.zero_le _, Nat.zero_le _⟩ [10, 11, 0, 1, 2, 3, 4, 5, 6, 7, 8, 9] 12 rfl ⟨rfl, rfl, rfl⟩ (fun H locs hP hD hS => ?_)
    obtain ⟨hP, hD⟩ : va_PD D A ((a_x, .inr (10, [.ref a_at, .ref a_g, .ref a_st, .ref a_x_kept, .int x_keptStates, .ref a_tp, .ref a_rd, .ref a_qu, .ref a_sp, .ref a_wk, .ref a_bx, .ref a_nt, .ref a_nu, .ref a_x_seen])) :: (a_sp, .inr (6, [.ref a_g, .ref a_sp_first, .ref a_sp_many, .ref a_sp_corner, .int sp_cornerCount, .int v1, .int v2, .int v3, .int v4, .int v5, .int v6])) :: (a_st, .inr (7, [.ref a_g, .ref a_st_levels, .ref a_st_keys, .ref a_st_years, .ref a_st_keysThere, .int st_size, .int v10, .int v11, .int v12])) :: (a_st_levels, .inl (ci 0, 60, .inl st_levels)) :: (a_st_keys, .inl (ci 0, 60, .inl st_keys)) :: (a_st_years, .inl (ci 0, 60, .inl st_years)) :: (a_st_keysThere, .inl (ci 0, 5, .inl f9)) :: (a_g, .inr (2, [.ref a_g_rowCuts, .ref a_g_columnCuts, .ref a_g_bandRows, .ref a_g_zoneColumns, .ref a_g_rows, .ref a_g_sheets])) :: (a_g_bandRows, .inl (ci 0, 5, .inl g_bandRows)) :: (a_g_zoneColumns, .inl (ci 0, 5, .inl g_zoneColumns)) :: (a_g_rows, .inl (ci 0, 5, .inl g_rows)) :: (a_g_sheets, .inl (ci 0, 5, .inl g_sheets)) :: Rw) H := ⟨hP, hD⟩
    refine lv_aload_n (pc := 30) hx hb dX10_isLacking_30 rfl (lv_at hl 0 rfl) ?_
    refine va_get (pc := 31) (D := D) (ci := 10) (v := .ref a_st) (C := RX10) (T := TX10) (N := 14) hx hb hts hinX10 hown hK hP 0 rfl rfl 2 (by decide) w_2 (fun _ h9 => h9) rfl dX10_isLacking_31 ?_
    refine va_getN (pc := 34) (D := D) (ci := 7) (v := .int v10) (C := RX7) (T := TX7) (N := 9) hx hb hts hinX7 hown hK hP 2 rfl rfl 6 (by decide) wn_28 (fun _ h9 => h9) rfl dX10_isLacking_34 ?_
    obtain ⟨k51, ek51, hf⟩ := q_j0_e hf
    have J51 : ∀  (H : Heap) (locs : List Loc) (ls : Array Slot), k51 = some (r, o1, o2, o3, o4, o5, o6, o7, o8, o9, o10) → va_P D vwCl ((a_x, .inr (10, [.ref a_at, .ref a_g, .ref a_st, .ref a_x_kept, .int x_keptStates, .ref a_tp, .ref a_rd, .ref a_qu, .ref a_sp, .ref a_wk, .ref a_bx, .ref a_nt, .ref a_nu, .ref a_x_seen])) :: (a_sp, .inr (6, [.ref a_g, .ref a_sp_first, .ref a_sp_many, .ref a_sp_corner, .int sp_cornerCount, .int v1, .int v2, .int v3, .int v4, .int v5, .int v6])) :: (a_st, .inr (7, [.ref a_g, .ref a_st_levels, .ref a_st_keys, .ref a_st_years, .ref a_st_keysThere, .int st_size, .int v10, .int v11, .int v12])) :: (a_st_levels, .inl (ci 0, 60, .inl st_levels)) :: (a_st_keys, .inl (ci 0, 60, .inl st_keys)) :: (a_st_years, .inl (ci 0, 60, .inl st_years)) :: (a_st_keysThere, .inl (ci 0, 5, .inl f9)) :: (a_g, .inr (2, [.ref a_g_rowCuts, .ref a_g_columnCuts, .ref a_g_bandRows, .ref a_g_zoneColumns, .ref a_g_rows, .ref a_g_sheets])) :: (a_g_bandRows, .inl (ci 0, 5, .inl g_bandRows)) :: (a_g_zoneColumns, .inl (ci 0, 5, .inl g_zoneColumns)) :: (a_g_rows, .inl (ci 0, 5, .inl g_rows)) :: (a_g_sheets, .inl (ci 0, 5, .inl g_sheets)) :: Rw) H → va_D A ((a_x, .inr (10, [.ref a_at, .ref a_g, .ref a_st, .ref a_x_kept, .int x_keptStates, .ref a_tp, .ref a_rd, .ref a_qu, .ref a_sp, .ref a_wk, .ref a_bx, .ref a_nt, .ref a_nu, .ref a_x_seen])) :: (a_sp, .inr (6, [.ref a_g, .ref a_sp_first, .ref a_sp_many, .ref a_sp_corner, .int sp_cornerCount, .int v1, .int v2, .int v3, .int v4, .int v5, .int v6])) :: (a_st, .inr (7, [.ref a_g, .ref a_st_levels, .ref a_st_keys, .ref a_st_years, .ref a_st_keysThere, .int st_size, .int v10, .int v11, .int v12])) :: (a_st_levels, .inl (ci 0, 60, .inl st_levels)) :: (a_st_keys, .inl (ci 0, 60, .inl st_keys)) :: (a_st_years, .inl (ci 0, 60, .inl st_years)) :: (a_st_keysThere, .inl (ci 0, 5, .inl f9)) :: (a_g, .inr (2, [.ref a_g_rowCuts, .ref a_g_columnCuts, .ref a_g_bandRows, .ref a_g_zoneColumns, .ref a_g_rows, .ref a_g_sheets])) :: (a_g_bandRows, .inl (ci 0, 5, .inl g_bandRows)) :: (a_g_zoneColumns, .inl (ci 0, 5, .inl g_zoneColumns)) :: (a_g_rows, .inl (ci 0, 5, .inl g_rows)) :: (a_g_sheets, .inl (ci 0, 5, .inl g_sheets)) :: Rw) → va_S A s.heap H locs → lv_has ls 4 [] → W p l e ({ frames := 4, cells := 0, slots := 0, locals := 96 } : Room) s m ([.ref a_x, .int p1, .int p2, .int p3] : List Value).toArray below meth c H locs 0 0 Q (F0 m 51 ls []) := by
      intro  H locs ls hf hP hD hS hl
      have hf := (ek51).symm.trans hf
      refine lv_iconst (pc := 51) (v := 1) hx hb dX10_isLacking_51 (by decide) ?_
      refine lv_goto (pc := 52) (tgt := 56) hx hb dX10_isLacking_52 (by decide) ?_
      obtain ⟨e90, e91, e92, e93, e94, e95, e96, e97, e98, e99, e910⟩ := q_inj11 (Option.some.inj hf)
      rw [hQ, ← e90, ← e91, ← e92, ← e93, ← e94, ← e95, ← e96, ← e97, ← e98, ← e99, ← e910]
      exact q_zret (pc := 56) hx hb hr rfl hlocks hP hD hS dX10_isLacking_56
    refine q_if_eq (pc := 37) (tgt := 51) hx hb dX10_isLacking_37 (by decide) rfl hf (fun hf => ?_) (fun hf => ?_)
    · exact J51  _ _ _ hf hP hD hS (lv_sub hl [] rfl)
    · refine lv_aload_n (pc := 40) hx hb dX10_isLacking_40 rfl (lv_at hl 0 rfl) ?_
      refine va_get (pc := 41) (D := D) (ci := 10) (v := .ref a_st) (C := RX10) (T := TX10) (N := 14) hx hb hts hinX10 hown hK hP 0 rfl rfl 2 (by decide) w_2 (fun _ h9 => h9) rfl dX10_isLacking_41 ?_
      refine va_getN (pc := 44) (D := D) (ci := 7) (v := .int v12) (C := RX7) (T := TX7) (N := 9) hx hb hts hinX7 hown hK hP 2 rfl rfl 8 (by decide) wn_30 (fun _ h9 => h9) rfl dX10_isLacking_44 ?_
      refine lv_iload_n (pc := 47) hx hb dX10_isLacking_47 rfl (lv_at hl 3 rfl) ?_
      refine q_icmp_ge (pc := 48) (tgt := 55) hx hb dX10_isLacking_48 (by decide) rfl hf (fun hf => ?_) (fun hf => ?_)
      · refine lv_iconst (pc := 55) (v := 0) hx hb dX10_isLacking_55 (by decide) ?_
        obtain ⟨e90, e91, e92, e93, e94, e95, e96, e97, e98, e99, e910⟩ := q_inj11 (Option.some.inj hf)
        rw [hQ, ← e90, ← e91, ← e92, ← e93, ← e94, ← e95, ← e96, ← e97, ← e98, ← e99, ← e910]
        exact q_zret (pc := 56) hx hb hr rfl hlocks hP hD hS dX10_isLacking_56
      · exact J51  _ _ _ hf hP hD hS (lv_sub hl [] rfl)
  exact hgo _ _ rfl hP hS
/-! X10_jog -/
set_option maxRecDepth 100000 in
set_option maxHeartbeats 4000000 in
theorem c_X_jog (l : Launch) (D : va_G) (ci : Nat → ClassId) (A : Nat → Prop) (sa : Nat → Nat) (N : Nat) (Rw : va_W) (a_x : Nat) (a_at : Nat) (a_g : Nat) (a_st : Nat) (a_x_kept : Nat) (a_tp : Nat) (a_rd : Nat) (a_qu : Nat) (a_sp : Nat) (a_wk : Nat) (a_bx : Nat) (a_nt : Nat) (a_nu : Nat) (a_x_seen : Nat) (a_sp_first : Nat) (a_sp_many : Nat) (a_sp_corner : Nat) (a_g_rowCuts : Nat) (a_g_columnCuts : Nat) (a_g_bandRows : Nat) (a_g_zoneColumns : Nat) (a_g_rows : Nat) (a_g_sheets : Nat) (x_keptStates : Int32) (sp_cornerCount : Int32) (sp_level : Int32) (sp_row : Int32) (sp_start : Int32) (sp_place : Int32) (sp_length : Int32) (sp_cap : Int32) (g_bandRows : Nat → Int32) (g_zoneColumns : Nat → Int32) (g_rows : Nat → Int32) (g_sheets : Nat → Int32) (p1 : Int32) (p2 : Int32) (p3 : Int32) (r : Int32) (o1 : Int32) (o2 : Int32) (o3 : Int32) (o4 : Int32) (o5 : Int32) (o6 : Int32) (hf : f_X_jog N sp_level sp_row sp_start sp_place sp_length sp_cap g_bandRows g_zoneColumns g_rows g_sheets p1 p2 p3 = some (r, o1, o2, o3, o4, o5, o6)) : Met l yX10_jog wsX10_jog ({ frames := 3, cells := 0, slots := 0, locals := 71 }) (va_Pc [.ref a_x, .int p1, .int p2, .int p3] (q_N D ci A sa ((a_x, .inr (10, [.ref a_at, .ref a_g, .ref a_st, .ref a_x_kept, .int x_keptStates, .ref a_tp, .ref a_rd, .ref a_qu, .ref a_sp, .ref a_wk, .ref a_bx, .ref a_nt, .ref a_nu, .ref a_x_seen])) :: (a_sp, .inr (6, [.ref a_g, .ref a_sp_first, .ref a_sp_many, .ref a_sp_corner, .int sp_cornerCount, .int sp_level, .int sp_row, .int sp_start, .int sp_place, .int sp_length, .int sp_cap])) :: (a_g, .inr (2, [.ref a_g_rowCuts, .ref a_g_columnCuts, .ref a_g_bandRows, .ref a_g_zoneColumns, .ref a_g_rows, .ref a_g_sheets])) :: (a_g_bandRows, .inl (ci 0, 5, .inl g_bandRows)) :: (a_g_zoneColumns, .inl (ci 0, 5, .inl g_zoneColumns)) :: (a_g_rows, .inl (ci 0, 5, .inl g_rows)) :: (a_g_sheets, .inl (ci 0, 5, .inl g_sheets)) :: Rw))) (q_Q (some (.int r)) (q_O D A ((a_x, .inr (10, [.ref a_at, .ref a_g, .ref a_st, .ref a_x_kept, .int x_keptStates, .ref a_tp, .ref a_rd, .ref a_qu, .ref a_sp, .ref a_wk, .ref a_bx, .ref a_nt, .ref a_nu, .ref a_x_seen])) :: (a_sp, .inr (6, [.ref a_g, .ref a_sp_first, .ref a_sp_many, .ref a_sp_corner, .int sp_cornerCount, .int o1, .int o2, .int o3, .int o4, .int o5, .int o6])) :: (a_g, .inr (2, [.ref a_g_rowCuts, .ref a_g_columnCuts, .ref a_g_bandRows, .ref a_g_zoneColumns, .ref a_g_rows, .ref a_g_sheets])) :: (a_g_bandRows, .inl (ci 0, 5, .inl g_bandRows)) :: (a_g_zoneColumns, .inl (ci 0, 5, .inl g_zoneColumns)) :: (a_g_rows, .inl (ci 0, 5, .inl g_rows)) :: (a_g_sheets, .inl (ci 0, 5, .inl g_sheets)) :: Rw)) A) 0 0 A := by
  refine q_ofW (cc := cX10_jog) (maxL := 5) (ret := (some .int)) [.ref a_x, .int p1, .int p2, .int p3] (plainFor_of_name (by decide)) rfl (Nat.le_of_ble_eq_true rfl) ?_
  intro p e s m below meth c ls Q hQ hx hb hml hr hts hown hlocks hK hA hZ hP hD hS hl
  have hl : lv_has ls 5 [(0, .ref a_x), (1, .int p1), (2, .int p2), (3, .int p3)] := hl
  have hown : s.vm.findClass RX10 = some m.cls := hown
  have hinX10 : ∀ w ∈ wsX100, w ∈ wsX10_jog := fun _ h => List.mem_cons_of_mem _ (inWX100 _ h)
  have hinX2 : ∀ w ∈ wsX20, w ∈ wsX10_jog := fun _ h => List.mem_cons_of_mem _ (inWX20 _ h)
  have hinX6 : ∀ w ∈ wsX60, w ∈ wsX10_jog := fun _ h => List.mem_cons_of_mem _ (inWX60 _ h)
  have w_1 := hts (Cond.fieldLink RX10 20 "SheetNames" "grid" "LSheetNames$Grid;") (List.mem_cons_of_mem _ t_w876)
  have w_2 := hts (Cond.fieldLink RX10 66 "SheetNames" "spot" "LSheetNames$Spot;") (List.mem_cons_of_mem _ t_w877)
  have wn_2 : (Cond.fieldLinkNest "SheetNames" 133 "SheetNames$Grid" "rows" "[I" "SheetNames").before ([.ref a_x, .int p1, .int p2, .int p3] : List Value).toArray s = true := (hZ.2.2.2.2.2.2.2.2.2.1 _ (List.mem_of_getElem? (i := 2) rfl)).use rfl
  have wn_13 : (Cond.fieldLinkNest "SheetNames" 214 "SheetNames$Spot" "row" "I" "SheetNames").before ([.ref a_x, .int p1, .int p2, .int p3] : List Value).toArray s = true := (hZ.2.2.2.2.2.2.2.2.2.1 _ (List.mem_of_getElem? (i := 13) rfl)).use rfl
  have wn_15 : (Cond.fieldLinkNest "SheetNames" 220 "SheetNames$Spot" "length" "I" "SheetNames").before ([.ref a_x, .int p1, .int p2, .int p3] : List Value).toArray s = true := (hZ.2.2.2.2.2.2.2.2.2.1 _ (List.mem_of_getElem? (i := 15) rfl)).use rfl
  unfold f_X_jog at hf
  have hgo : ∀ (H : Heap) (locs : List Loc), H = s.heap → va_P D vwCl ((a_x, .inr (10, [.ref a_at, .ref a_g, .ref a_st, .ref a_x_kept, .int x_keptStates, .ref a_tp, .ref a_rd, .ref a_qu, .ref a_sp, .ref a_wk, .ref a_bx, .ref a_nt, .ref a_nu, .ref a_x_seen])) :: (a_sp, .inr (6, [.ref a_g, .ref a_sp_first, .ref a_sp_many, .ref a_sp_corner, .int sp_cornerCount, .int sp_level, .int sp_row, .int sp_start, .int sp_place, .int sp_length, .int sp_cap])) :: (a_g, .inr (2, [.ref a_g_rowCuts, .ref a_g_columnCuts, .ref a_g_bandRows, .ref a_g_zoneColumns, .ref a_g_rows, .ref a_g_sheets])) :: (a_g_bandRows, .inl (ci 0, 5, .inl g_bandRows)) :: (a_g_zoneColumns, .inl (ci 0, 5, .inl g_zoneColumns)) :: (a_g_rows, .inl (ci 0, 5, .inl g_rows)) :: (a_g_sheets, .inl (ci 0, 5, .inl g_sheets)) :: Rw) H → va_S A s.heap H locs → W p l e ({ frames := 3, cells := 0, slots := 0, locals := 71 } : Room) s m ([.ref a_x, .int p1, .int p2, .int p3] : List Value).toArray below meth c H locs 0 0 Q (F0 m 0 ls []) := by
    intro H locs hH hP hS
    refine lv_aload_n (pc := 0) hx hb dX10_jog_0 rfl (lv_at hl 0 rfl) ?_
    refine va_get (pc := 1) (D := D) (ci := 10) (v := .ref a_g) (C := RX10) (T := TX10) (N := 14) hx hb hts hinX10 hown hK hP 0 rfl rfl 1 (by decide) w_1 (fun _ h9 => h9) rfl dX10_jog_1 ?_
    refine lv_iload_n (pc := 4) hx hb dX10_jog_4 rfl (lv_at hl 1 rfl) ?_
    refine lv_iload_n (pc := 5) hx hb dX10_jog_5 rfl (lv_at hl 2 rfl) ?_
    obtain ⟨v1, hm6, hf⟩ := q_b1_e hf
    refine q_cVr (pc := 6) (As := [.int p1, .int p2]) (rest := []) (v0 := (some (.int v1))) ⟨hx, hb, hml, hown, hts⟩ hK hA hZ hP hD hS hl.1 [2, 6] 7 rfl ⟨rfl, rfl, rfl⟩ (c_Grid_hasSheet l D ci A sa N (Rw) a_g a_g_rowCuts a_g_columnCuts a_g_bandRows a_g_zoneColumns a_g_rows a_g_sheets g_sheets p1 p2 v1 hm6) 2 rfl rfl (cwV 2 hts gX10_jog_X2_hasSheet rfl rfl rfl (by decide +kernel) ⟨Nat.le_of_ble_eq_true rfl, Nat.le_of_ble_eq_true rfl⟩) rfl rfl (Nat.le_of_ble_eq_true rfl) dX10_jog_6 ⟨Nat.zero_le _, Nat.zero_le _⟩ (fun locs hS => ?_)
    refine q_if_eq (pc := 9) (tgt := 21) hx hb dX10_jog_9 (by decide) rfl hf (fun hf => ?_) (fun hf => ?_)
    · refine lv_iconst (pc := 21) (v := (-1)) hx hb dX10_jog_21 (by decide) ?_
      obtain ⟨e90, e91, e92, e93, e94, e95, e96⟩ := q_inj7 (Option.some.inj hf)
      rw [hQ, ← e90, ← e91, ← e92, ← e93, ← e94, ← e95, ← e96]
      exact q_iret (pc := 22) hx hb hr hlocks hP hD hS dX10_jog_22
    · refine lv_iload_n (pc := 12) hx hb dX10_jog_12 rfl (lv_at hl 3 rfl) ?_
      obtain ⟨k23, ek23, hf⟩ := q_j0_e hf
      have J23 : ∀  (H : Heap) (locs : List Loc) (ls : Array Slot), k23 = some (r, o1, o2, o3, o4, o5, o6) → va_P D vwCl ((a_x, .inr (10, [.ref a_at, .ref a_g, .ref a_st, .ref a_x_kept, .int x_keptStates, .ref a_tp, .ref a_rd, .ref a_qu, .ref a_sp, .ref a_wk, .ref a_bx, .ref a_nt, .ref a_nu, .ref a_x_seen])) :: (a_sp, .inr (6, [.ref a_g, .ref a_sp_first, .ref a_sp_many, .ref a_sp_corner, .int sp_cornerCount, .int sp_level, .int sp_row, .int sp_start, .int sp_place, .int sp_length, .int sp_cap])) :: (a_g, .inr (2, [.ref a_g_rowCuts, .ref a_g_columnCuts, .ref a_g_bandRows, .ref a_g_zoneColumns, .ref a_g_rows, .ref a_g_sheets])) :: (a_g_bandRows, .inl (ci 0, 5, .inl g_bandRows)) :: (a_g_zoneColumns, .inl (ci 0, 5, .inl g_zoneColumns)) :: (a_g_rows, .inl (ci 0, 5, .inl g_rows)) :: (a_g_sheets, .inl (ci 0, 5, .inl g_sheets)) :: Rw) H → va_D A ((a_x, .inr (10, [.ref a_at, .ref a_g, .ref a_st, .ref a_x_kept, .int x_keptStates, .ref a_tp, .ref a_rd, .ref a_qu, .ref a_sp, .ref a_wk, .ref a_bx, .ref a_nt, .ref a_nu, .ref a_x_seen])) :: (a_sp, .inr (6, [.ref a_g, .ref a_sp_first, .ref a_sp_many, .ref a_sp_corner, .int sp_cornerCount, .int sp_level, .int sp_row, .int sp_start, .int sp_place, .int sp_length, .int sp_cap])) :: (a_g, .inr (2, [.ref a_g_rowCuts, .ref a_g_columnCuts, .ref a_g_bandRows, .ref a_g_zoneColumns, .ref a_g_rows, .ref a_g_sheets])) :: (a_g_bandRows, .inl (ci 0, 5, .inl g_bandRows)) :: (a_g_zoneColumns, .inl (ci 0, 5, .inl g_zoneColumns)) :: (a_g_rows, .inl (ci 0, 5, .inl g_rows)) :: (a_g_sheets, .inl (ci 0, 5, .inl g_sheets)) :: Rw) → va_S A s.heap H locs → lv_has ls 5 [(0, .ref a_x), (1, .int p1), (2, .int p2), (3, .int p3)] → W p l e ({ frames := 3, cells := 0, slots := 0, locals := 71 } : Room) s m ([.ref a_x, .int p1, .int p2, .int p3] : List Value).toArray below meth c H locs 0 0 Q (F0 m 23 ls []) := by
        intro  H locs ls hf hP hD hS hl
        have hf := (ek23).symm.trans hf
        refine lv_aload_n (pc := 23) hx hb dX10_jog_23 rfl (lv_at hl 0 rfl) ?_
        refine va_get (pc := 24) (D := D) (ci := 10) (v := .ref a_sp) (C := RX10) (T := TX10) (N := 14) hx hb hts hinX10 hown hK hP 0 rfl rfl 8 (by decide) w_2 (fun _ h9 => h9) rfl dX10_jog_24 ?_
        refine lv_iload_n (pc := 27) hx hb dX10_jog_27 rfl (lv_at hl 1 rfl) ?_
        refine lv_iload_n (pc := 28) hx hb dX10_jog_28 rfl (lv_at hl 2 rfl) ?_
        obtain ⟨v2, v3, v4, v5, v6, v7, hm29, hf⟩ := q_b6_e hf
        refine q_cV (pc := 29) (As := [.int p1, .int p2]) (rest := []) (v0 := none) ⟨hx, hb, hml, hown, hts⟩ hK hA hZ hP hD hS hl.1 [1, 2, 3, 4, 5, 6, 0] 7 rfl ⟨rfl, rfl, rfl⟩ (c_Spot_put l D ci A sa N ((a_x, .inr (10, [.ref a_at, .ref a_g, .ref a_st, .ref a_x_kept, .int x_keptStates, .ref a_tp, .ref a_rd, .ref a_qu, .ref a_sp, .ref a_wk, .ref a_bx, .ref a_nt, .ref a_nu, .ref a_x_seen])) :: Rw) a_sp a_g a_sp_first a_sp_many a_sp_corner a_g_rowCuts a_g_columnCuts a_g_bandRows a_g_zoneColumns a_g_rows a_g_sheets sp_cornerCount sp_level sp_row sp_start sp_place sp_length sp_cap g_bandRows g_zoneColumns g_rows g_sheets p1 p2 v2 v3 v4 v5 v6 v7 hm29) 1 rfl rfl (cwV 2 hts gX10_jog_X6_put rfl rfl rfl (by decide +kernel) ⟨Nat.le_of_ble_eq_true rfl, Nat.le_of_ble_eq_true rfl⟩) rfl rfl (Nat.le_of_ble_eq_true rfl) dX10_jog_29 ⟨Nat.zero_le _, Nat.zero_le _⟩ [6, 0, 1, 2, 3, 4, 5] 7 rfl ⟨rfl, rfl, rfl⟩ (fun H locs hP hD hS => ?_)
        obtain ⟨hP, hD⟩ : va_PD D A ((a_x, .inr (10, [.ref a_at, .ref a_g, .ref a_st, .ref a_x_kept, .int x_keptStates, .ref a_tp, .ref a_rd, .ref a_qu, .ref a_sp, .ref a_wk, .ref a_bx, .ref a_nt, .ref a_nu, .ref a_x_seen])) :: (a_sp, .inr (6, [.ref a_g, .ref a_sp_first, .ref a_sp_many, .ref a_sp_corner, .int sp_cornerCount, .int v2, .int v3, .int v4, .int v5, .int v6, .int v7])) :: (a_g, .inr (2, [.ref a_g_rowCuts, .ref a_g_columnCuts, .ref a_g_bandRows, .ref a_g_zoneColumns, .ref a_g_rows, .ref a_g_sheets])) :: (a_g_bandRows, .inl (ci 0, 5, .inl g_bandRows)) :: (a_g_zoneColumns, .inl (ci 0, 5, .inl g_zoneColumns)) :: (a_g_rows, .inl (ci 0, 5, .inl g_rows)) :: (a_g_sheets, .inl (ci 0, 5, .inl g_sheets)) :: Rw) H := ⟨hP, hD⟩
        refine lv_iload_n (pc := 32) hx hb dX10_jog_32 rfl (lv_at hl 3 rfl) ?_
        obtain ⟨k57, ek57, hf⟩ := q_j1_e hf
        have J57 : ∀ (v8 : Int32) (H : Heap) (locs : List Loc) (ls : Array Slot), k57 v8 = some (r, o1, o2, o3, o4, o5, o6) → va_P D vwCl ((a_x, .inr (10, [.ref a_at, .ref a_g, .ref a_st, .ref a_x_kept, .int x_keptStates, .ref a_tp, .ref a_rd, .ref a_qu, .ref a_sp, .ref a_wk, .ref a_bx, .ref a_nt, .ref a_nu, .ref a_x_seen])) :: (a_sp, .inr (6, [.ref a_g, .ref a_sp_first, .ref a_sp_many, .ref a_sp_corner, .int sp_cornerCount, .int v2, .int v3, .int v4, .int v5, .int v6, .int v7])) :: (a_g, .inr (2, [.ref a_g_rowCuts, .ref a_g_columnCuts, .ref a_g_bandRows, .ref a_g_zoneColumns, .ref a_g_rows, .ref a_g_sheets])) :: (a_g_bandRows, .inl (ci 0, 5, .inl g_bandRows)) :: (a_g_zoneColumns, .inl (ci 0, 5, .inl g_zoneColumns)) :: (a_g_rows, .inl (ci 0, 5, .inl g_rows)) :: (a_g_sheets, .inl (ci 0, 5, .inl g_sheets)) :: Rw) H → va_D A ((a_x, .inr (10, [.ref a_at, .ref a_g, .ref a_st, .ref a_x_kept, .int x_keptStates, .ref a_tp, .ref a_rd, .ref a_qu, .ref a_sp, .ref a_wk, .ref a_bx, .ref a_nt, .ref a_nu, .ref a_x_seen])) :: (a_sp, .inr (6, [.ref a_g, .ref a_sp_first, .ref a_sp_many, .ref a_sp_corner, .int sp_cornerCount, .int v2, .int v3, .int v4, .int v5, .int v6, .int v7])) :: (a_g, .inr (2, [.ref a_g_rowCuts, .ref a_g_columnCuts, .ref a_g_bandRows, .ref a_g_zoneColumns, .ref a_g_rows, .ref a_g_sheets])) :: (a_g_bandRows, .inl (ci 0, 5, .inl g_bandRows)) :: (a_g_zoneColumns, .inl (ci 0, 5, .inl g_zoneColumns)) :: (a_g_rows, .inl (ci 0, 5, .inl g_rows)) :: (a_g_sheets, .inl (ci 0, 5, .inl g_sheets)) :: Rw) → va_S A s.heap H locs → lv_has ls 5 [(0, .ref a_x), (1, .int p1)] → W p l e ({ frames := 3, cells := 0, slots := 0, locals := 71 } : Room) s m ([.ref a_x, .int p1, .int p2, .int p3] : List Value).toArray below meth c H locs 0 0 Q (F0 m 57 ls [.int v8]) := by
          intro v8 H locs ls hf hP hD hS hl
          have hf := (ek57 v8).symm.trans hf
          refine lv_istore (pc := 57) (lv' := [(4, .int v8), (0, .ref a_x), (1, .int p1)]) hx hb dX10_jog_57 hl (by decide) rfl (fun ls hl => ?_)
          refine lv_iload (pc := 59) hx hb dX10_jog_59 (lv_at hl 0 rfl) ?_
          refine lv_iconst (pc := 61) (v := 0) hx hb dX10_jog_61 (by decide) ?_
          refine lv_aload_n (pc := 62) hx hb dX10_jog_62 rfl (lv_at hl 1 rfl) ?_
          refine va_get (pc := 63) (D := D) (ci := 10) (v := .ref a_g) (C := RX10) (T := TX10) (N := 14) hx hb hts hinX10 hown hK hP 0 rfl rfl 1 (by decide) w_1 (fun _ h9 => h9) rfl dX10_jog_63 ?_
          refine va_getN (pc := 66) (D := D) (ci := 2) (v := .ref a_g_rows) (C := RX2) (T := TX2) (N := 6) hx hb hts hinX2 hown hK hP 2 rfl rfl 4 (by decide) wn_2 (fun _ h9 => h9) rfl dX10_jog_66 ?_
          refine lv_iload_n (pc := 69) hx hb dX10_jog_69 rfl (lv_at hl 2 rfl) ?_
          refine q_iald (pc := 70) hx hb hK hP 5 0 hf rfl rfl dX10_jog_70 (fun v9 hf => ?_)
          refine lv_iconst (pc := 71) (v := 1) hx hb dX10_jog_71 (by decide) ?_
          refine lv_isub (pc := 72) hx hb dX10_jog_72 ?_
          obtain ⟨v10, hm73, hf⟩ := q_b1_e hf
          refine q_cSr (pc := 73) (As := [.int v8, .int 0, .int (v9 - 1)]) (rest := []) (v0 := (some (.int v10))) ⟨hx, hb, hml, hown, hts⟩ hK hA hZ hP hD hS hl.1 [] 7 rfl ⟨rfl, rfl, rfl⟩ (c_X_isFrom l D ci A sa N (Rw) v8 0 (v9 - 1) v10 hm73) (va_cwS 3 hts gX10_jog_X10_isFrom rfl rfl rfl (by decide +kernel) ⟨Nat.le_of_ble_eq_true rfl, Nat.le_of_ble_eq_true rfl⟩) rfl rfl (Nat.le_of_ble_eq_true rfl) dX10_jog_73 ⟨Nat.zero_le _, Nat.zero_le _⟩ (fun locs hS => ?_)
          refine q_if_ne (pc := 76) (tgt := 81) hx hb dX10_jog_76 (by decide) rfl hf (fun hf => ?_) (fun hf => ?_)
          · refine lv_aload_n (pc := 81) hx hb dX10_jog_81 rfl (lv_at hl 1 rfl) ?_
            refine va_get (pc := 82) (D := D) (ci := 10) (v := .ref a_g) (C := RX10) (T := TX10) (N := 14) hx hb hts hinX10 hown hK hP 0 rfl rfl 1 (by decide) w_1 (fun _ h9 => h9) rfl dX10_jog_82 ?_
            refine lv_iload_n (pc := 85) hx hb dX10_jog_85 rfl (lv_at hl 2 rfl) ?_
            refine lv_iload (pc := 86) hx hb dX10_jog_86 (lv_at hl 0 rfl) ?_
            obtain ⟨v11, hm88, hf⟩ := q_b1_e hf
            refine q_cVr (pc := 88) (As := [.int p1, .int v8]) (rest := []) (v0 := (some (.int v11))) ⟨hx, hb, hml, hown, hts⟩ hK hA hZ hP hD hS hl.1 [2, 3, 4, 5] 7 rfl ⟨rfl, rfl, rfl⟩ (c_Grid_rowLength l D ci A sa N (Rw) a_g a_g_rowCuts a_g_columnCuts a_g_bandRows a_g_zoneColumns a_g_rows a_g_sheets g_bandRows g_zoneColumns g_rows p1 v8 v11 hm88) 2 rfl rfl (cwV 2 hts gX10_jog_X2_rowLength rfl rfl rfl (by decide +kernel) ⟨Nat.le_of_ble_eq_true rfl, Nat.le_of_ble_eq_true rfl⟩) rfl rfl (Nat.le_of_ble_eq_true rfl) dX10_jog_88 ⟨Nat.zero_le _, Nat.zero_le _⟩ (fun locs hS => ?_)
            refine lv_aload_n (pc := 91) hx hb dX10_jog_91 rfl (lv_at hl 1 rfl) ?_
            refine va_get (pc := 92) (D := D) (ci := 10) (v := .ref a_sp) (C := RX10) (T := TX10) (N := 14) hx hb hts hinX10 hown hK hP 0 rfl rfl 8 (by decide) w_2 (fun _ h9 => h9) rfl dX10_jog_92 ?_
            refine va_getN (pc := 95) (D := D) (ci := 6) (v := .int v6) (C := RX6) (T := TX6) (N := 11) hx hb hts hinX6 hown hK hP 1 rfl rfl 9 (by decide) wn_15 (fun _ h9 => h9) rfl dX10_jog_95 ?_
            refine q_icmp_eq (pc := 98) (tgt := 105) hx hb dX10_jog_98 (by decide) rfl hf (fun hf => ?_) (fun hf => ?_)
            · refine lv_iconst (pc := 105) (v := 0) hx hb dX10_jog_105 (by decide) ?_
              obtain ⟨e90, e91, e92, e93, e94, e95, e96⟩ := q_inj7 (Option.some.inj hf)
              rw [hQ, ← e90, ← e91, ← e92, ← e93, ← e94, ← e95, ← e96]
              exact q_iret (pc := 106) hx hb hr hlocks hP hD hS dX10_jog_106
            · refine lv_iconst (pc := 101) (v := 1) hx hb dX10_jog_101 (by decide) ?_
              refine lv_goto (pc := 102) (tgt := 106) hx hb dX10_jog_102 (by decide) ?_
              obtain ⟨e90, e91, e92, e93, e94, e95, e96⟩ := q_inj7 (Option.some.inj hf)
              rw [hQ, ← e90, ← e91, ← e92, ← e93, ← e94, ← e95, ← e96]
              exact q_iret (pc := 106) hx hb hr hlocks hP hD hS dX10_jog_106
          · refine lv_iconst (pc := 79) (v := 0) hx hb dX10_jog_79 (by decide) ?_
            obtain ⟨e90, e91, e92, e93, e94, e95, e96⟩ := q_inj7 (Option.some.inj hf)
            rw [hQ, ← e90, ← e91, ← e92, ← e93, ← e94, ← e95, ← e96]
            exact q_iret (pc := 80) hx hb hr hlocks hP hD hS dX10_jog_80
        refine q_if_ne (pc := 33) (tgt := 48) hx hb dX10_jog_33 (by decide) rfl hf (fun hf => ?_) (fun hf => ?_)
        · refine lv_aload_n (pc := 48) hx hb dX10_jog_48 rfl (lv_at hl 0 rfl) ?_
          refine va_get (pc := 49) (D := D) (ci := 10) (v := .ref a_sp) (C := RX10) (T := TX10) (N := 14) hx hb hts hinX10 hown hK hP 0 rfl rfl 8 (by decide) w_2 (fun _ h9 => h9) rfl dX10_jog_49 ?_
          refine va_getN (pc := 52) (D := D) (ci := 6) (v := .int v3) (C := RX6) (T := TX6) (N := 11) hx hb hts hinX6 hown hK hP 1 rfl rfl 6 (by decide) wn_13 (fun _ h9 => h9) rfl dX10_jog_52 ?_
          refine lv_iconst (pc := 55) (v := 1) hx hb dX10_jog_55 (by decide) ?_
          refine lv_iadd (pc := 56) hx hb dX10_jog_56 ?_
          exact J57 (v3 + 1) _ _ _ hf hP hD hS (lv_sub hl [0, 1] rfl)
        · refine lv_aload_n (pc := 36) hx hb dX10_jog_36 rfl (lv_at hl 0 rfl) ?_
          refine va_get (pc := 37) (D := D) (ci := 10) (v := .ref a_sp) (C := RX10) (T := TX10) (N := 14) hx hb hts hinX10 hown hK hP 0 rfl rfl 8 (by decide) w_2 (fun _ h9 => h9) rfl dX10_jog_37 ?_
          refine va_getN (pc := 40) (D := D) (ci := 6) (v := .int v3) (C := RX6) (T := TX6) (N := 11) hx hb hts hinX6 hown hK hP 1 rfl rfl 6 (by decide) wn_13 (fun _ h9 => h9) rfl dX10_jog_40 ?_
          refine lv_iconst (pc := 43) (v := 1) hx hb dX10_jog_43 (by decide) ?_
          refine lv_isub (pc := 44) hx hb dX10_jog_44 ?_
          refine lv_goto (pc := 45) (tgt := 57) hx hb dX10_jog_45 (by decide) ?_
          exact J57 (v3 - 1) _ _ _ hf hP hD hS (lv_sub hl [0, 1] rfl)
      refine q_if_eq (pc := 13) (tgt := 23) hx hb dX10_jog_13 (by decide) rfl hf (fun hf => ?_) (fun hf => ?_)
      · exact J23  _ _ _ hf hP hD hS (lv_sub hl [0, 1, 2, 3] rfl)
      · refine lv_iload_n (pc := 16) hx hb dX10_jog_16 rfl (lv_at hl 3 rfl) ?_
        refine lv_iconst (pc := 17) (v := 2) hx hb dX10_jog_17 (by decide) ?_
        refine q_icmp_eq (pc := 18) (tgt := 23) hx hb dX10_jog_18 (by decide) rfl hf (fun hf => ?_) (fun hf => ?_)
        · exact J23  _ _ _ hf hP hD hS (lv_sub hl [0, 1, 2, 3] rfl)
        · refine lv_iconst (pc := 21) (v := (-1)) hx hb dX10_jog_21 (by decide) ?_
          obtain ⟨e90, e91, e92, e93, e94, e95, e96⟩ := q_inj7 (Option.some.inj hf)
          rw [hQ, ← e90, ← e91, ← e92, ← e93, ← e94, ← e95, ← e96]
          exact q_iret (pc := 22) hx hb hr hlocks hP hD hS dX10_jog_22
  exact hgo _ _ rfl hP hS
/-! X10_keep -/
set_option maxRecDepth 100000 in
set_option maxHeartbeats 4000000 in
theorem c_X_keep (l : Launch) (D : va_G) (ci : Nat → ClassId) (A : Nat → Prop) (sa : Nat → Nat) (N : Nat) (Rw : va_W) (a_x : Nat) (a_at : Nat) (a_g : Nat) (a_st : Nat) (a_x_kept : Nat) (a_tp : Nat) (a_rd : Nat) (a_qu : Nat) (a_sp : Nat) (a_wk : Nat) (a_bx : Nat) (a_nt : Nat) (a_nu : Nat) (a_x_seen : Nat) (a_st_levels : Nat) (a_st_keys : Nat) (a_st_years : Nat) (a_st_keysThere : Nat) (a_g_rowCuts : Nat) (a_g_columnCuts : Nat) (a_g_bandRows : Nat) (a_g_zoneColumns : Nat) (a_g_rows : Nat) (a_g_sheets : Nat) (a_at2 : Nat) (a_g2 : Nat) (a_st2 : Nat) (a_st2_levels : Nat) (a_st2_keys : Nat) (a_st2_years : Nat) (a_st2_keysThere : Nat) (a_g2_rowCuts : Nat) (a_g2_columnCuts : Nat) (a_g2_bandRows : Nat) (a_g2_zoneColumns : Nat) (a_g2_rows : Nat) (a_g2_sheets : Nat) (x_keptStates : Int32) (x_kept : Nat → Option Nat) (at_right : Int32) (at_faulty : Int32) (at_endedSoon : Int32) (at_noSuchNumber : Int32) (st_size : Int32) (st_shownBy : Int32) (st_deepestShown : Int32) (st_latestShown : Int32) (st_levels : Nat → Int32) (st_keys : Nat → Int32) (st_years : Nat → Int32) (g_rowCuts : Nat → Int32) (g_columnCuts : Nat → Int32) (at2_right : Int32) (at2_faulty : Int32) (at2_endedSoon : Int32) (at2_noSuchNumber : Int32) (st2_size : Int32) (st2_shownBy : Int32) (st2_deepestShown : Int32) (st2_latestShown : Int32) (st2_levels : Nat → Int32) (st2_keys : Nat → Int32) (st2_years : Nat → Int32) (g2_rowCuts : Nat → Int32) (g2_columnCuts : Nat → Int32) (g2_bandRows : Nat → Int32) (g2_zoneColumns : Nat → Int32) (g2_rows : Nat → Int32) (g2_sheets : Nat → Int32) (r : Int32) (o1 : Int32) (o2 : Int32) (o3 : Int32) (o4 : Int32) (o5 : Int32) (o6 : Nat → Int32) (o7 : Nat → Int32) (o8 : Nat → Int32) (o9 : Int32) (o10 : Nat → Int32) (o11 : Nat → Int32) (o12 : Nat → Int32) (o13 : Nat → Int32) (o14 : Nat → Int32) (o15 : Nat → Int32) (k : Nat) (hkept : x_kept k = some a_at2) (hf : f_X_keep N k x_keptStates at_right at_faulty at_endedSoon at_noSuchNumber st_levels st_keys st_years st_size g_rowCuts g_columnCuts at2_right at2_faulty at2_endedSoon at2_noSuchNumber st2_levels st2_keys st2_years st2_size g2_rowCuts g2_columnCuts g2_bandRows g2_zoneColumns g2_rows g2_sheets = some (r, o1, o2, o3, o4, o5, o6, o7, o8, o9, o10, o11, o12, o13, o14, o15)) : Met l yX10_keep wsX10_keep ({ frames := 3, cells := 0, slots := 0, locals := 82 }) (va_Pc [.ref a_x] (q_N D ci A sa ((a_x, .inr (10, [.ref a_at, .ref a_g, .ref a_st, .ref a_x_kept, .int x_keptStates, .ref a_tp, .ref a_rd, .ref a_qu, .ref a_sp, .ref a_wk, .ref a_bx, .ref a_nt, .ref a_nu, .ref a_x_seen])) :: (a_x_kept, .inl (ci 3, 8, .inr (.inr (.inr (.inr x_kept))))) :: (a_at, .inr (0, [.ref a_g, .ref a_st, .int at_right, .int at_faulty, .int at_endedSoon, .int at_noSuchNumber])) :: (a_st, .inr (7, [.ref a_g, .ref a_st_levels, .ref a_st_keys, .ref a_st_years, .ref a_st_keysThere, .int st_size, .int st_shownBy, .int st_deepestShown, .int st_latestShown])) :: (a_st_levels, .inl (ci 0, 60, .inl st_levels)) :: (a_st_keys, .inl (ci 0, 60, .inl st_keys)) :: (a_st_years, .inl (ci 0, 60, .inl st_years)) :: (a_g, .inr (2, [.ref a_g_rowCuts, .ref a_g_columnCuts, .ref a_g_bandRows, .ref a_g_zoneColumns, .ref a_g_rows, .ref a_g_sheets])) :: (a_g_rowCuts, .inl (ci 0, 5, .inl g_rowCuts)) :: (a_g_columnCuts, .inl (ci 0, 5, .inl g_columnCuts)) :: (a_at2, .inr (0, [.ref a_g2, .ref a_st2, .int at2_right, .int at2_faulty, .int at2_endedSoon, .int at2_noSuchNumber])) :: (a_st2, .inr (7, [.ref a_g2, .ref a_st2_levels, .ref a_st2_keys, .ref a_st2_years, .ref a_st2_keysThere, .int st2_size, .int st2_shownBy, .int st2_deepestShown, .int st2_latestShown])) :: (a_st2_levels, .inl (ci 0, 60, .inl st2_levels)) :: (a_st2_keys, .inl (ci 0, 60, .inl st2_keys)) :: (a_st2_years, .inl (ci 0, 60, .inl st2_years)) :: (a_g2, .inr (2, [.ref a_g2_rowCuts, .ref a_g2_columnCuts, .ref a_g2_bandRows, .ref a_g2_zoneColumns, .ref a_g2_rows, .ref a_g2_sheets])) :: (a_g2_rowCuts, .inl (ci 0, 5, .inl g2_rowCuts)) :: (a_g2_columnCuts, .inl (ci 0, 5, .inl g2_columnCuts)) :: (a_g2_bandRows, .inl (ci 0, 5, .inl g2_bandRows)) :: (a_g2_zoneColumns, .inl (ci 0, 5, .inl g2_zoneColumns)) :: (a_g2_rows, .inl (ci 0, 5, .inl g2_rows)) :: (a_g2_sheets, .inl (ci 0, 5, .inl g2_sheets)) :: Rw))) (q_Q (some (.int r)) (q_O D A ((a_x, .inr (10, [.ref a_at, .ref a_g, .ref a_st, .ref a_x_kept, .int o1, .ref a_tp, .ref a_rd, .ref a_qu, .ref a_sp, .ref a_wk, .ref a_bx, .ref a_nt, .ref a_nu, .ref a_x_seen])) :: (a_x_kept, .inl (ci 3, 8, .inr (.inr (.inr (.inr x_kept))))) :: (a_at, .inr (0, [.ref a_g, .ref a_st, .int at_right, .int at_faulty, .int at_endedSoon, .int at_noSuchNumber])) :: (a_st, .inr (7, [.ref a_g, .ref a_st_levels, .ref a_st_keys, .ref a_st_years, .ref a_st_keysThere, .int st_size, .int st_shownBy, .int st_deepestShown, .int st_latestShown])) :: (a_st_levels, .inl (ci 0, 60, .inl st_levels)) :: (a_st_keys, .inl (ci 0, 60, .inl st_keys)) :: (a_st_years, .inl (ci 0, 60, .inl st_years)) :: (a_g, .inr (2, [.ref a_g_rowCuts, .ref a_g_columnCuts, .ref a_g_bandRows, .ref a_g_zoneColumns, .ref a_g_rows, .ref a_g_sheets])) :: (a_g_rowCuts, .inl (ci 0, 5, .inl g_rowCuts)) :: (a_g_columnCuts, .inl (ci 0, 5, .inl g_columnCuts)) :: (a_at2, .inr (0, [.ref a_g2, .ref a_st2, .int o2, .int o3, .int o4, .int o5])) :: (a_st2, .inr (7, [.ref a_g2, .ref a_st2_levels, .ref a_st2_keys, .ref a_st2_years, .ref a_st2_keysThere, .int o9, .int st2_shownBy, .int st2_deepestShown, .int st2_latestShown])) :: (a_st2_levels, .inl (ci 0, 60, .inl o6)) :: (a_st2_keys, .inl (ci 0, 60, .inl o7)) :: (a_st2_years, .inl (ci 0, 60, .inl o8)) :: (a_g2, .inr (2, [.ref a_g2_rowCuts, .ref a_g2_columnCuts, .ref a_g2_bandRows, .ref a_g2_zoneColumns, .ref a_g2_rows, .ref a_g2_sheets])) :: (a_g2_rowCuts, .inl (ci 0, 5, .inl o10)) :: (a_g2_columnCuts, .inl (ci 0, 5, .inl o11)) :: (a_g2_bandRows, .inl (ci 0, 5, .inl o12)) :: (a_g2_zoneColumns, .inl (ci 0, 5, .inl o13)) :: (a_g2_rows, .inl (ci 0, 5, .inl o14)) :: (a_g2_sheets, .inl (ci 0, 5, .inl o15)) :: Rw)) A) 0 0 A := by
  refine q_ofW (cc := cX10_keep) (maxL := 1) (ret := (some .int)) [.ref a_x] (plainFor_of_name (by decide)) rfl (Nat.le_of_ble_eq_true rfl) ?_
  intro p e s m below meth c ls Q hQ hx hb hml hr hts hown hlocks hK hA hZ hP hD hS hl
  have hl : lv_has ls 1 [(0, .ref a_x)] := hl
  have hown : s.vm.findClass RX10 = some m.cls := hown
  have hinX10 : ∀ w ∈ wsX100, w ∈ wsX10_keep := fun _ h => List.mem_cons_of_mem _ (inWX100 _ h)
  have w_1 := hts (Cond.fieldLink RX10 32 "SheetNames" "keptStates" "I") (List.mem_cons_of_mem _ t_w893)
  have w_2 := hts (Cond.fieldLink RX10 28 "SheetNames" "kept" "[LSheetNames$Atlas;") (List.mem_cons_of_mem _ t_w903)
  have w_3 := hts (Cond.fieldLink RX10 10 "SheetNames" "now" "LSheetNames$Atlas;") (List.mem_cons_of_mem _ t_w884)
  unfold f_X_keep at hf
  have hgo : ∀ (H : Heap) (locs : List Loc), H = s.heap → va_P D vwCl ((a_x, .inr (10, [.ref a_at, .ref a_g, .ref a_st, .ref a_x_kept, .int x_keptStates, .ref a_tp, .ref a_rd, .ref a_qu, .ref a_sp, .ref a_wk, .ref a_bx, .ref a_nt, .ref a_nu, .ref a_x_seen])) :: (a_x_kept, .inl (ci 3, 8, .inr (.inr (.inr (.inr x_kept))))) :: (a_at, .inr (0, [.ref a_g, .ref a_st, .int at_right, .int at_faulty, .int at_endedSoon, .int at_noSuchNumber])) :: (a_st, .inr (7, [.ref a_g, .ref a_st_levels, .ref a_st_keys, .ref a_st_years, .ref a_st_keysThere, .int st_size, .int st_shownBy, .int st_deepestShown, .int st_latestShown])) :: (a_st_levels, .inl (ci 0, 60, .inl st_levels)) :: (a_st_keys, .inl (ci 0, 60, .inl st_keys)) :: (a_st_years, .inl (ci 0, 60, .inl st_years)) :: (a_g, .inr (2, [.ref a_g_rowCuts, .ref a_g_columnCuts, .ref a_g_bandRows, .ref a_g_zoneColumns, .ref a_g_rows, .ref a_g_sheets])) :: (a_g_rowCuts, .inl (ci 0, 5, .inl g_rowCuts)) :: (a_g_columnCuts, .inl (ci 0, 5, .inl g_columnCuts)) :: (a_at2, .inr (0, [.ref a_g2, .ref a_st2, .int at2_right, .int at2_faulty, .int at2_endedSoon, .int at2_noSuchNumber])) :: (a_st2, .inr (7, [.ref a_g2, .ref a_st2_levels, .ref a_st2_keys, .ref a_st2_years, .ref a_st2_keysThere, .int st2_size, .int st2_shownBy, .int st2_deepestShown, .int st2_latestShown])) :: (a_st2_levels, .inl (ci 0, 60, .inl st2_levels)) :: (a_st2_keys, .inl (ci 0, 60, .inl st2_keys)) :: (a_st2_years, .inl (ci 0, 60, .inl st2_years)) :: (a_g2, .inr (2, [.ref a_g2_rowCuts, .ref a_g2_columnCuts, .ref a_g2_bandRows, .ref a_g2_zoneColumns, .ref a_g2_rows, .ref a_g2_sheets])) :: (a_g2_rowCuts, .inl (ci 0, 5, .inl g2_rowCuts)) :: (a_g2_columnCuts, .inl (ci 0, 5, .inl g2_columnCuts)) :: (a_g2_bandRows, .inl (ci 0, 5, .inl g2_bandRows)) :: (a_g2_zoneColumns, .inl (ci 0, 5, .inl g2_zoneColumns)) :: (a_g2_rows, .inl (ci 0, 5, .inl g2_rows)) :: (a_g2_sheets, .inl (ci 0, 5, .inl g2_sheets)) :: Rw) H → va_S A s.heap H locs → W p l e ({ frames := 3, cells := 0, slots := 0, locals := 82 } : Room) s m ([.ref a_x] : List Value).toArray below meth c H locs 0 0 Q (F0 m 0 ls []) := by
    intro H locs hH hP hS
    refine lv_aload_n (pc := 0) hx hb dX10_keep_0 rfl (lv_at hl 0 rfl) ?_
    refine va_get (pc := 1) (D := D) (ci := 10) (v := .int x_keptStates) (C := RX10) (T := TX10) (N := 14) hx hb hts hinX10 hown hK hP 0 rfl rfl 4 (by decide) w_1 (fun _ h9 => h9) rfl dX10_keep_1 ?_
    refine lv_aload_n (pc := 4) hx hb dX10_keep_4 rfl (lv_at hl 0 rfl) ?_
    refine va_get (pc := 5) (D := D) (ci := 10) (v := .ref a_x_kept) (C := RX10) (T := TX10) (N := 14) hx hb hts hinX10 hown hK hP 0 rfl rfl 3 (by decide) w_2 (fun _ h9 => h9) rfl dX10_keep_5 ?_
    refine va_alen (pc := 8) (v := 8) hx hb hK hP 1 3 rfl rfl rfl dX10_keep_8 ?_
    refine q_icmp_lt (pc := 9) (tgt := 14) hx hb dX10_keep_9 (by decide) rfl hf (fun hf => ?_) (fun hf => ?_)
    · refine lv_aload_n (pc := 14) hx hb dX10_keep_14 rfl (lv_at hl 0 rfl) ?_
      refine va_get (pc := 15) (D := D) (ci := 10) (v := .ref a_x_kept) (C := RX10) (T := TX10) (N := 14) hx hb hts hinX10 hown hK hP 0 rfl rfl 3 (by decide) w_2 (fun _ h9 => h9) rfl dX10_keep_15 ?_
      refine lv_aload_n (pc := 18) hx hb dX10_keep_18 rfl (lv_at hl 0 rfl) ?_
      refine va_get (pc := 19) (D := D) (ci := 10) (v := .int x_keptStates) (C := RX10) (T := TX10) (N := 14) hx hb hts hinX10 hown hK hP 0 rfl rfl 4 (by decide) w_1 (fun _ h9 => h9) rfl dX10_keep_19 ?_
      refine q_kld (pc := 22) (k := k) hx hb hK hP 1 hf rfl hkept dX10_keep_22 (fun hf => ?_)
      refine lv_aload_n (pc := 23) hx hb dX10_keep_23 rfl (lv_at hl 0 rfl) ?_
      refine va_get (pc := 24) (D := D) (ci := 10) (v := .ref a_at) (C := RX10) (T := TX10) (N := 14) hx hb hts hinX10 hown hK hP 0 rfl rfl 0 (by decide) w_3 (fun _ h9 => h9) rfl dX10_keep_24 ?_
      obtain ⟨v1, v2, v3, v4, f5, f6, f7, v8, f9, f10, f11, f12, f13, f14, hm27, hf⟩ := q_b14_e hf
      refine q_cV (pc := 27) (As := [.ref a_at]) (rest := []) (v0 := none) ⟨hx, hb, hml, hown, hts⟩ hK hA hZ hP hD hS hl.1 [10, 11, 12, 13, 14, 15, 16, 17, 18, 19, 20, 21, 2, 3, 4, 5, 6, 7, 8, 9, 0, 1] 22 rfl ⟨rfl, rfl, rfl⟩ (c_Atlas_copyFrom l D ci A sa N ((a_x, .inr (10, [.ref a_at, .ref a_g, .ref a_st, .ref a_x_kept, .int x_keptStates, .ref a_tp, .ref a_rd, .ref a_qu, .ref a_sp, .ref a_wk, .ref a_bx, .ref a_nt, .ref a_nu, .ref a_x_seen])) :: (a_x_kept, .inl (ci 3, 8, .inr (.inr (.inr (.inr x_kept))))) :: Rw) a_at2 a_g2 a_st2 a_st2_levels a_st2_keys a_st2_years a_st2_keysThere a_g2_rowCuts a_g2_columnCuts a_g2_bandRows a_g2_zoneColumns a_g2_rows a_g2_sheets a_at a_g a_st a_st_levels a_st_keys a_st_years a_st_keysThere a_g_rowCuts a_g_columnCuts a_g_bandRows a_g_zoneColumns a_g_rows a_g_sheets at2_right at2_faulty at2_endedSoon at2_noSuchNumber st2_size st2_shownBy st2_deepestShown st2_latestShown st2_levels st2_keys st2_years g2_rowCuts g2_columnCuts g2_bandRows g2_zoneColumns g2_rows g2_sheets at_right at_faulty at_endedSoon at_noSuchNumber st_size st_shownBy st_deepestShown st_latestShown st_levels st_keys st_years g_rowCuts g_columnCuts v1 v2 v3 v4 f5 f6 f7 v8 f9 f10 f11 f12 f13 f14 hm27) 10 rfl rfl (cwV 1 hts gX10_keep_X0_copyFrom rfl rfl rfl (by decide +kernel) ⟨Nat.le_of_ble_eq_true rfl, Nat.le_of_ble_eq_true rfl⟩) rfl rfl (Nat.le_of_ble_eq_true rfl) dX10_keep_27 ⟨Nat.zero_le _, Nat.zero_le _⟩ [20, 21, 12, 13, 14, 15, 16, 17, 18, 19, 0, 1, 2, 3, 4, 5, 6, 7, 8, 9, 10, 11] 22 rfl ⟨rfl, rfl, rfl⟩ (fun H locs hP hD hS => ?_)
      obtain ⟨hP, hD⟩ : va_PD D A ((a_x, .inr (10, [.ref a_at, .ref a_g, .ref a_st, .ref a_x_kept, .int x_keptStates, .ref a_tp, .ref a_rd, .ref a_qu, .ref a_sp, .ref a_wk, .ref a_bx, .ref a_nt, .ref a_nu, .ref a_x_seen])) :: (a_x_kept, .inl (ci 3, 8, .inr (.inr (.inr (.inr x_kept))))) :: (a_at, .inr (0, [.ref a_g, .ref a_st, .int at_right, .int at_faulty, .int at_endedSoon, .int at_noSuchNumber])) :: (a_st, .inr (7, [.ref a_g, .ref a_st_levels, .ref a_st_keys, .ref a_st_years, .ref a_st_keysThere, .int st_size, .int st_shownBy, .int st_deepestShown, .int st_latestShown])) :: (a_st_levels, .inl (ci 0, 60, .inl st_levels)) :: (a_st_keys, .inl (ci 0, 60, .inl st_keys)) :: (a_st_years, .inl (ci 0, 60, .inl st_years)) :: (a_g, .inr (2, [.ref a_g_rowCuts, .ref a_g_columnCuts, .ref a_g_bandRows, .ref a_g_zoneColumns, .ref a_g_rows, .ref a_g_sheets])) :: (a_g_rowCuts, .inl (ci 0, 5, .inl g_rowCuts)) :: (a_g_columnCuts, .inl (ci 0, 5, .inl g_columnCuts)) :: (a_at2, .inr (0, [.ref a_g2, .ref a_st2, .int v1, .int v2, .int v3, .int v4])) :: (a_st2, .inr (7, [.ref a_g2, .ref a_st2_levels, .ref a_st2_keys, .ref a_st2_years, .ref a_st2_keysThere, .int v8, .int st2_shownBy, .int st2_deepestShown, .int st2_latestShown])) :: (a_st2_levels, .inl (ci 0, 60, .inl f5)) :: (a_st2_keys, .inl (ci 0, 60, .inl f6)) :: (a_st2_years, .inl (ci 0, 60, .inl f7)) :: (a_g2, .inr (2, [.ref a_g2_rowCuts, .ref a_g2_columnCuts, .ref a_g2_bandRows, .ref a_g2_zoneColumns, .ref a_g2_rows, .ref a_g2_sheets])) :: (a_g2_rowCuts, .inl (ci 0, 5, .inl f9)) :: (a_g2_columnCuts, .inl (ci 0, 5, .inl f10)) :: (a_g2_bandRows, .inl (ci 0, 5, .inl f11)) :: (a_g2_zoneColumns, .inl (ci 0, 5, .inl f12)) :: (a_g2_rows, .inl (ci 0, 5, .inl f13)) :: (a_g2_sheets, .inl (ci 0, 5, .inl f14)) :: Rw) H := ⟨hP, hD⟩
      refine lv_aload_n (pc := 30) hx hb dX10_keep_30 rfl (lv_at hl 0 rfl) ?_
      refine lv_dup (pc := 31) hx hb dX10_keep_31 rfl ?_
      refine va_get (pc := 32) (D := D) (ci := 10) (v := .int x_keptStates) (C := RX10) (T := TX10) (N := 14) hx hb hts hinX10 hown hK hP 0 rfl rfl 4 (by decide) w_1 (fun _ h9 => h9) rfl dX10_keep_32 ?_
      refine lv_iconst (pc := 35) (v := 1) hx hb dX10_keep_35 (by decide) ?_
      refine lv_iadd (pc := 36) hx hb dX10_keep_36 ?_
      obtain ⟨v15, ev15, hf⟩ := q_nm_e hf
      refine q_topi ev15 ?_
      refine va_put (pc := 37) (D := D) (ci := 10) (v := .int v15) (ty := .int) (C := RX10) (T := TX10) (N := 14) hx hb hts hinX10 tyX10 tyX10_ok nmX10 hown hK hP hD hS 0 rfl rfl 4 (by decide) w_1 (fun _ h9 => h9) rfl (by decide +kernel) rfl rfl (Nat.le_of_ble_eq_true rfl) dX10_keep_37 (fun H locs hP hD hS => ?_)
      obtain ⟨hP, hD⟩ : va_PD D A ((a_x, .inr (10, [.ref a_at, .ref a_g, .ref a_st, .ref a_x_kept, .int v15, .ref a_tp, .ref a_rd, .ref a_qu, .ref a_sp, .ref a_wk, .ref a_bx, .ref a_nt, .ref a_nu, .ref a_x_seen])) :: (a_x_kept, .inl (ci 3, 8, .inr (.inr (.inr (.inr x_kept))))) :: (a_at, .inr (0, [.ref a_g, .ref a_st, .int at_right, .int at_faulty, .int at_endedSoon, .int at_noSuchNumber])) :: (a_st, .inr (7, [.ref a_g, .ref a_st_levels, .ref a_st_keys, .ref a_st_years, .ref a_st_keysThere, .int st_size, .int st_shownBy, .int st_deepestShown, .int st_latestShown])) :: (a_st_levels, .inl (ci 0, 60, .inl st_levels)) :: (a_st_keys, .inl (ci 0, 60, .inl st_keys)) :: (a_st_years, .inl (ci 0, 60, .inl st_years)) :: (a_g, .inr (2, [.ref a_g_rowCuts, .ref a_g_columnCuts, .ref a_g_bandRows, .ref a_g_zoneColumns, .ref a_g_rows, .ref a_g_sheets])) :: (a_g_rowCuts, .inl (ci 0, 5, .inl g_rowCuts)) :: (a_g_columnCuts, .inl (ci 0, 5, .inl g_columnCuts)) :: (a_at2, .inr (0, [.ref a_g2, .ref a_st2, .int v1, .int v2, .int v3, .int v4])) :: (a_st2, .inr (7, [.ref a_g2, .ref a_st2_levels, .ref a_st2_keys, .ref a_st2_years, .ref a_st2_keysThere, .int v8, .int st2_shownBy, .int st2_deepestShown, .int st2_latestShown])) :: (a_st2_levels, .inl (ci 0, 60, .inl f5)) :: (a_st2_keys, .inl (ci 0, 60, .inl f6)) :: (a_st2_years, .inl (ci 0, 60, .inl f7)) :: (a_g2, .inr (2, [.ref a_g2_rowCuts, .ref a_g2_columnCuts, .ref a_g2_bandRows, .ref a_g2_zoneColumns, .ref a_g2_rows, .ref a_g2_sheets])) :: (a_g2_rowCuts, .inl (ci 0, 5, .inl f9)) :: (a_g2_columnCuts, .inl (ci 0, 5, .inl f10)) :: (a_g2_bandRows, .inl (ci 0, 5, .inl f11)) :: (a_g2_zoneColumns, .inl (ci 0, 5, .inl f12)) :: (a_g2_rows, .inl (ci 0, 5, .inl f13)) :: (a_g2_sheets, .inl (ci 0, 5, .inl f14)) :: Rw) H := ⟨hP, hD⟩
      refine lv_aload_n (pc := 40) hx hb dX10_keep_40 rfl (lv_at hl 0 rfl) ?_
      refine va_get (pc := 41) (D := D) (ci := 10) (v := .int v15) (C := RX10) (T := TX10) (N := 14) hx hb hts hinX10 hown hK hP 0 rfl rfl 4 (by decide) w_1 (fun _ h9 => h9) rfl dX10_keep_41 ?_
      obtain ⟨e90, e91, e92, e93, e94, e95, e96, e97, e98, e99, e910, e911, e912, e913, e914, e915⟩ := q_inj16 (Option.some.inj hf)
      rw [hQ, ← e90, ← e91, ← e92, ← e93, ← e94, ← e95, ← e96, ← e97, ← e98, ← e99, ← e910, ← e911, ← e912, ← e913, ← e914, ← e915]
      exact q_iret (pc := 44) hx hb hr hlocks hP hD hS dX10_keep_44
    · refine lv_iconst (pc := 12) (v := (-1)) hx hb dX10_keep_12 (by decide) ?_
      obtain ⟨e90, e91, e92, e93, e94, e95, e96, e97, e98, e99, e910, e911, e912, e913, e914, e915⟩ := q_inj16 (Option.some.inj hf)
      rw [hQ, ← e90, ← e91, ← e92, ← e93, ← e94, ← e95, ← e96, ← e97, ← e98, ← e99, ← e910, ← e911, ← e912, ← e913, ← e914, ← e915]
      exact q_iret (pc := 13) hx hb hr hlocks hP hD hS dX10_keep_13
  exact hgo _ _ rfl hP hS
/-! X10_key -/
set_option maxRecDepth 100000 in
set_option maxHeartbeats 4000000 in
theorem c_X_key (l : Launch) (D : va_G) (ci : Nat → ClassId) (A : Nat → Prop) (sa : Nat → Nat) (N : Nat) (Rw : va_W) (a_x : Nat) (a_at : Nat) (a_g : Nat) (a_st : Nat) (a_x_kept : Nat) (a_tp : Nat) (a_rd : Nat) (a_qu : Nat) (a_sp : Nat) (a_wk : Nat) (a_bx : Nat) (a_nt : Nat) (a_nu : Nat) (a_x_seen : Nat) (a_g_rowCuts : Nat) (a_g_columnCuts : Nat) (a_g_bandRows : Nat) (a_g_zoneColumns : Nat) (a_g_rows : Nat) (a_g_sheets : Nat) (x_keptStates : Int32) (g_bandRows : Nat → Int32) (g_zoneColumns : Nat → Int32) (g_rows : Nat → Int32) (g_sheets : Nat → Int32) (p1 : Int32) (p2 : Int32) (p3 : Int32) (r : Int32) (hf : f_X_key g_bandRows g_zoneColumns g_rows g_sheets p1 p2 p3 = some r) : Met l yX10_key wsX10_key ({ frames := 3, cells := 0, slots := 0, locals := 73 }) (va_Pc [.ref a_x, .int p1, .int p2, .int p3] (q_N D ci A sa ((a_x, .inr (10, [.ref a_at, .ref a_g, .ref a_st, .ref a_x_kept, .int x_keptStates, .ref a_tp, .ref a_rd, .ref a_qu, .ref a_sp, .ref a_wk, .ref a_bx, .ref a_nt, .ref a_nu, .ref a_x_seen])) :: (a_g, .inr (2, [.ref a_g_rowCuts, .ref a_g_columnCuts, .ref a_g_bandRows, .ref a_g_zoneColumns, .ref a_g_rows, .ref a_g_sheets])) :: (a_g_bandRows, .inl (ci 0, 5, .inl g_bandRows)) :: (a_g_zoneColumns, .inl (ci 0, 5, .inl g_zoneColumns)) :: (a_g_rows, .inl (ci 0, 5, .inl g_rows)) :: (a_g_sheets, .inl (ci 0, 5, .inl g_sheets)) :: Rw))) (q_R (some (.int r))) 0 0 A := by
  refine q_ofW (cc := cX10_key) (maxL := 4) (ret := (some .int)) [.ref a_x, .int p1, .int p2, .int p3] (plainFor_of_name (by decide)) rfl (Nat.le_of_ble_eq_true rfl) ?_
  intro p e s m below meth c ls Q hQ hx hb hml hr hts hown hlocks hK hA hZ hP hD hS hl
  have hl : lv_has ls 4 [(0, .ref a_x), (1, .int p1), (2, .int p2), (3, .int p3)] := hl
  have hown : s.vm.findClass RX10 = some m.cls := hown
  have hinX10 : ∀ w ∈ wsX100, w ∈ wsX10_key := fun _ h => List.mem_cons_of_mem _ (inWX100 _ h)
  have w_1 := hts (Cond.fieldLink RX10 20 "SheetNames" "grid" "LSheetNames$Grid;") (List.mem_cons_of_mem _ t_w876)
  unfold f_X_key at hf
  have hgo : ∀ (H : Heap) (locs : List Loc), H = s.heap → va_P D vwCl ((a_x, .inr (10, [.ref a_at, .ref a_g, .ref a_st, .ref a_x_kept, .int x_keptStates, .ref a_tp, .ref a_rd, .ref a_qu, .ref a_sp, .ref a_wk, .ref a_bx, .ref a_nt, .ref a_nu, .ref a_x_seen])) :: (a_g, .inr (2, [.ref a_g_rowCuts, .ref a_g_columnCuts, .ref a_g_bandRows, .ref a_g_zoneColumns, .ref a_g_rows, .ref a_g_sheets])) :: (a_g_bandRows, .inl (ci 0, 5, .inl g_bandRows)) :: (a_g_zoneColumns, .inl (ci 0, 5, .inl g_zoneColumns)) :: (a_g_rows, .inl (ci 0, 5, .inl g_rows)) :: (a_g_sheets, .inl (ci 0, 5, .inl g_sheets)) :: Rw) H → va_S A s.heap H locs → W p l e ({ frames := 3, cells := 0, slots := 0, locals := 73 } : Room) s m ([.ref a_x, .int p1, .int p2, .int p3] : List Value).toArray below meth c H locs 0 0 Q (F0 m 0 ls []) := by
    intro H locs hH hP hS
    subst hH
    refine lv_iload_n (pc := 0) hx hb dX10_key_0 rfl (lv_at hl 1 rfl) ?_
    refine lv_iload_n (pc := 1) hx hb dX10_key_1 rfl (lv_at hl 2 rfl) ?_
    obtain ⟨v1, hm2, hf⟩ := q_b1_e hf
    refine q_cSr (pc := 2) (As := [.int p1, .int p2]) (rest := []) (v0 := (some (.int v1))) ⟨hx, hb, hml, hown, hts⟩ hK hA hZ hP hD hS hl.1 [] 6 rfl ⟨rfl, rfl, rfl⟩ (c_X_isPlace l D ci A sa N (Rw) p1 p2 v1 hm2) (va_cwS 2 hts gX10_key_X10_isPlace rfl rfl rfl (by decide +kernel) ⟨Nat.le_of_ble_eq_true rfl, Nat.le_of_ble_eq_true rfl⟩) rfl rfl (Nat.le_of_ble_eq_true rfl) dX10_key_2 ⟨Nat.zero_le _, Nat.zero_le _⟩ (fun locs hS => ?_)
    refine q_if_eq (pc := 5) (tgt := 15) hx hb dX10_key_5 (by decide) rfl hf (fun hf => ?_) (fun hf => ?_)
    · refine lv_iconst (pc := 15) (v := (-1)) hx hb dX10_key_15 (by decide) ?_
      obtain rfl := Option.some.inj hf
      rw [hQ]
      exact q_iretr (pc := 16) hx hb hr hlocks rfl hS dX10_key_16
    · refine lv_iload_n (pc := 8) hx hb dX10_key_8 rfl (lv_at hl 3 rfl) ?_
      obtain ⟨v2, hm9, hf⟩ := q_b1_e hf
      refine q_cSr (pc := 9) (As := [.int p3]) (rest := []) (v0 := (some (.int v2))) ⟨hx, hb, hml, hown, hts⟩ hK hA hZ hP hD hS hl.1 [] 6 rfl ⟨rfl, rfl, rfl⟩ (c_X_isLevel l D ci A sa N (Rw) p3 v2 hm9) (va_cwS 1 hts gX10_key_X10_isLevel rfl rfl rfl (by decide +kernel) ⟨Nat.le_of_ble_eq_true rfl, Nat.le_of_ble_eq_true rfl⟩) rfl rfl (Nat.le_of_ble_eq_true rfl) dX10_key_9 ⟨Nat.zero_le _, Nat.zero_le _⟩ (fun locs hS => ?_)
      refine q_if_ne (pc := 12) (tgt := 17) hx hb dX10_key_12 (by decide) rfl hf (fun hf => ?_) (fun hf => ?_)
      · refine lv_aload_n (pc := 17) hx hb dX10_key_17 rfl (lv_at hl 0 rfl) ?_
        refine va_get (pc := 18) (D := D) (ci := 10) (v := .ref a_g) (C := RX10) (T := TX10) (N := 14) hx hb hts hinX10 hown hK hP 0 rfl rfl 1 (by decide) w_1 (fun _ h9 => h9) rfl dX10_key_18 ?_
        refine lv_iload_n (pc := 21) hx hb dX10_key_21 rfl (lv_at hl 3 rfl) ?_
        refine lv_iload_n (pc := 22) hx hb dX10_key_22 rfl (lv_at hl 1 rfl) ?_
        refine lv_iload_n (pc := 23) hx hb dX10_key_23 rfl (lv_at hl 2 rfl) ?_
        obtain ⟨v3, hm24, hf⟩ := q_b1_e hf
        refine q_cVr (pc := 24) (As := [.int p3, .int p1, .int p2]) (rest := []) (v0 := (some (.int v3))) ⟨hx, hb, hml, hown, hts⟩ hK hA hZ hP hD hS hl.1 [1, 2, 3, 4, 5] 6 rfl ⟨rfl, rfl, rfl⟩ (c_Grid_keyOf l D ci A sa N (Rw) a_g a_g_rowCuts a_g_columnCuts a_g_bandRows a_g_zoneColumns a_g_rows a_g_sheets g_bandRows g_zoneColumns g_rows g_sheets p3 p1 p2 v3 hm24) 1 rfl rfl (cwV 3 hts gX10_key_X2_keyOf rfl rfl rfl (by decide +kernel) ⟨Nat.le_of_ble_eq_true rfl, Nat.le_of_ble_eq_true rfl⟩) rfl rfl (Nat.le_of_ble_eq_true rfl) dX10_key_24 ⟨Nat.zero_le _, Nat.zero_le _⟩ (fun locs hS => ?_)
        obtain rfl := Option.some.inj hf
        rw [hQ]
        exact q_iretr (pc := 27) hx hb hr hlocks rfl hS dX10_key_27
      · refine lv_iconst (pc := 15) (v := (-1)) hx hb dX10_key_15 (by decide) ?_
        obtain rfl := Option.some.inj hf
        rw [hQ]
        exact q_iretr (pc := 16) hx hb hr hlocks rfl hS dX10_key_16
  exact hgo _ _ rfl hP hS
/-! X10_keyAt -/
set_option maxRecDepth 100000 in
set_option maxHeartbeats 4000000 in
theorem c_X_keyAt (l : Launch) (D : va_G) (ci : Nat → ClassId) (A : Nat → Prop) (sa : Nat → Nat) (N : Nat) (Rw : va_W) (a_x : Nat) (a_at : Nat) (a_g : Nat) (a_st : Nat) (a_x_kept : Nat) (a_tp : Nat) (a_rd : Nat) (a_qu : Nat) (a_sp : Nat) (a_wk : Nat) (a_bx : Nat) (a_nt : Nat) (a_nu : Nat) (a_x_seen : Nat) (a_g_rowCuts : Nat) (a_g_columnCuts : Nat) (a_g_bandRows : Nat) (a_g_zoneColumns : Nat) (a_g_rows : Nat) (a_g_sheets : Nat) (x_keptStates : Int32) (g_bandRows : Nat → Int32) (g_zoneColumns : Nat → Int32) (g_rows : Nat → Int32) (g_sheets : Nat → Int32) (p1 : Int32) (p2 : Int32) (p3 : Int32) (r : Int32) (hf : f_X_keyAt g_bandRows g_zoneColumns g_rows g_sheets p1 p2 p3 = some r) : Met l yX10_keyAt wsX10_keyAt ({ frames := 1, cells := 0, slots := 0, locals := 25 }) (va_Pc [.ref a_x, .int p1, .int p2, .int p3] (q_N D ci A sa ((a_x, .inr (10, [.ref a_at, .ref a_g, .ref a_st, .ref a_x_kept, .int x_keptStates, .ref a_tp, .ref a_rd, .ref a_qu, .ref a_sp, .ref a_wk, .ref a_bx, .ref a_nt, .ref a_nu, .ref a_x_seen])) :: (a_g, .inr (2, [.ref a_g_rowCuts, .ref a_g_columnCuts, .ref a_g_bandRows, .ref a_g_zoneColumns, .ref a_g_rows, .ref a_g_sheets])) :: (a_g_bandRows, .inl (ci 0, 5, .inl g_bandRows)) :: (a_g_zoneColumns, .inl (ci 0, 5, .inl g_zoneColumns)) :: (a_g_rows, .inl (ci 0, 5, .inl g_rows)) :: (a_g_sheets, .inl (ci 0, 5, .inl g_sheets)) :: Rw))) (q_R (some (.int r))) 0 0 A := by
  refine q_ofW (cc := cX10_keyAt) (maxL := 4) (ret := (some .int)) [.ref a_x, .int p1, .int p2, .int p3] (plainFor_of_name (by decide)) rfl (Nat.le_of_ble_eq_true rfl) ?_
  intro p e s m below meth c ls Q hQ hx hb hml hr hts hown hlocks hK hA hZ hP hD hS hl
  have hl : lv_has ls 4 [(0, .ref a_x), (1, .int p1), (2, .int p2), (3, .int p3)] := hl
  have hown : s.vm.findClass RX10 = some m.cls := hown
  have hinX10 : ∀ w ∈ wsX100, w ∈ wsX10_keyAt := fun _ h => List.mem_cons_of_mem _ (inWX100 _ h)
  have hinX2 : ∀ w ∈ wsX20, w ∈ wsX10_keyAt := fun _ h => List.mem_cons_of_mem _ (inWX20 _ h)
  have w_1 := hts (Cond.fieldLink RX10 20 "SheetNames" "grid" "LSheetNames$Grid;") (List.mem_cons_of_mem _ t_w876)
  have wn_2 : (Cond.fieldLinkNest "SheetNames" 133 "SheetNames$Grid" "rows" "[I" "SheetNames").before ([.ref a_x, .int p1, .int p2, .int p3] : List Value).toArray s = true := (hZ.2.2.2.2.2.2.2.2.2.1 _ (List.mem_of_getElem? (i := 2) rfl)).use rfl
  unfold f_X_keyAt at hf
  have hgo : ∀ (H : Heap) (locs : List Loc), H = s.heap → va_P D vwCl ((a_x, .inr (10, [.ref a_at, .ref a_g, .ref a_st, .ref a_x_kept, .int x_keptStates, .ref a_tp, .ref a_rd, .ref a_qu, .ref a_sp, .ref a_wk, .ref a_bx, .ref a_nt, .ref a_nu, .ref a_x_seen])) :: (a_g, .inr (2, [.ref a_g_rowCuts, .ref a_g_columnCuts, .ref a_g_bandRows, .ref a_g_zoneColumns, .ref a_g_rows, .ref a_g_sheets])) :: (a_g_bandRows, .inl (ci 0, 5, .inl g_bandRows)) :: (a_g_zoneColumns, .inl (ci 0, 5, .inl g_zoneColumns)) :: (a_g_rows, .inl (ci 0, 5, .inl g_rows)) :: (a_g_sheets, .inl (ci 0, 5, .inl g_sheets)) :: Rw) H → va_S A s.heap H locs → W p l e ({ frames := 1, cells := 0, slots := 0, locals := 25 } : Room) s m ([.ref a_x, .int p1, .int p2, .int p3] : List Value).toArray below meth c H locs 0 0 Q (F0 m 0 ls []) := by
    intro H locs hH hP hS
    subst hH
    refine lv_iload_n (pc := 0) hx hb dX10_keyAt_0 rfl (lv_at hl 1 rfl) ?_
    obtain ⟨v1, hm1, hf⟩ := q_b1_e hf
    refine q_cSr (pc := 1) (As := [.int p1]) (rest := []) (v0 := (some (.int v1))) ⟨hx, hb, hml, hown, hts⟩ hK hA hZ hP hD hS hl.1 [] 6 rfl ⟨rfl, rfl, rfl⟩ (c_X_isLevel l D ci A sa N (Rw) p1 v1 hm1) (va_cwS 1 hts gX10_keyAt_X10_isLevel rfl rfl rfl (by decide +kernel) ⟨Nat.le_of_ble_eq_true rfl, Nat.le_of_ble_eq_true rfl⟩) rfl rfl (Nat.le_of_ble_eq_true rfl) dX10_keyAt_1 ⟨Nat.zero_le _, Nat.zero_le _⟩ (fun locs hS => ?_)
    refine q_if_eq (pc := 4) (tgt := 26) hx hb dX10_keyAt_4 (by decide) rfl hf (fun hf => ?_) (fun hf => ?_)
    · refine lv_iconst (pc := 26) (v := (-1)) hx hb dX10_keyAt_26 (by decide) ?_
      obtain rfl := Option.some.inj hf
      rw [hQ]
      exact q_iretr (pc := 27) hx hb hr hlocks rfl hS dX10_keyAt_27
    · refine lv_iload_n (pc := 7) hx hb dX10_keyAt_7 rfl (lv_at hl 2 rfl) ?_
      refine lv_iconst (pc := 8) (v := 0) hx hb dX10_keyAt_8 (by decide) ?_
      refine lv_aload_n (pc := 9) hx hb dX10_keyAt_9 rfl (lv_at hl 0 rfl) ?_
      refine va_get (pc := 10) (D := D) (ci := 10) (v := .ref a_g) (C := RX10) (T := TX10) (N := 14) hx hb hts hinX10 hown hK hP 0 rfl rfl 1 (by decide) w_1 (fun _ h9 => h9) rfl dX10_keyAt_10 ?_
      refine va_getN (pc := 13) (D := D) (ci := 2) (v := .ref a_g_rows) (C := RX2) (T := TX2) (N := 6) hx hb hts hinX2 hown hK hP 1 rfl rfl 4 (by decide) wn_2 (fun _ h9 => h9) rfl dX10_keyAt_13 ?_
      refine lv_iload_n (pc := 16) hx hb dX10_keyAt_16 rfl (lv_at hl 1 rfl) ?_
      refine q_iald (pc := 17) hx hb hK hP 4 0 hf rfl rfl dX10_keyAt_17 (fun v2 hf => ?_)
      refine lv_iconst (pc := 18) (v := 1) hx hb dX10_keyAt_18 (by decide) ?_
      refine lv_isub (pc := 19) hx hb dX10_keyAt_19 ?_
      obtain ⟨v3, hm20, hf⟩ := q_b1_e hf
      refine q_cSr (pc := 20) (As := [.int p2, .int 0, .int (v2 - 1)]) (rest := []) (v0 := (some (.int v3))) ⟨hx, hb, hml, hown, hts⟩ hK hA hZ hP hD hS hl.1 [] 6 rfl ⟨rfl, rfl, rfl⟩ (c_X_isFrom l D ci A sa N (Rw) p2 0 (v2 - 1) v3 hm20) (va_cwS 3 hts gX10_keyAt_X10_isFrom rfl rfl rfl (by decide +kernel) ⟨Nat.le_of_ble_eq_true rfl, Nat.le_of_ble_eq_true rfl⟩) rfl rfl (Nat.le_of_ble_eq_true rfl) dX10_keyAt_20 ⟨Nat.zero_le _, Nat.zero_le _⟩ (fun locs hS => ?_)
      refine q_if_ne (pc := 23) (tgt := 28) hx hb dX10_keyAt_23 (by decide) rfl hf (fun hf => ?_) (fun hf => ?_)
      · refine lv_iload_n (pc := 28) hx hb dX10_keyAt_28 rfl (lv_at hl 3 rfl) ?_
        refine lv_iconst (pc := 29) (v := 0) hx hb dX10_keyAt_29 (by decide) ?_
        refine lv_aload_n (pc := 30) hx hb dX10_keyAt_30 rfl (lv_at hl 0 rfl) ?_
        refine va_get (pc := 31) (D := D) (ci := 10) (v := .ref a_g) (C := RX10) (T := TX10) (N := 14) hx hb hts hinX10 hown hK hP 0 rfl rfl 1 (by decide) w_1 (fun _ h9 => h9) rfl dX10_keyAt_31 ?_
        refine lv_iload_n (pc := 34) hx hb dX10_keyAt_34 rfl (lv_at hl 1 rfl) ?_
        refine lv_iload_n (pc := 35) hx hb dX10_keyAt_35 rfl (lv_at hl 2 rfl) ?_
        obtain ⟨v4, hm36, hf⟩ := q_b1_e hf
        refine q_cVr (pc := 36) (As := [.int p1, .int p2]) (rest := [.int 0, .int p3]) (v0 := (some (.int v4))) ⟨hx, hb, hml, hown, hts⟩ hK hA hZ hP hD hS hl.1 [1, 2, 3, 4] 6 rfl ⟨rfl, rfl, rfl⟩ (c_Grid_rowLength l D ci A sa N (Rw) a_g a_g_rowCuts a_g_columnCuts a_g_bandRows a_g_zoneColumns a_g_rows a_g_sheets g_bandRows g_zoneColumns g_rows p1 p2 v4 hm36) 1 rfl rfl (cwV 2 hts gX10_keyAt_X2_rowLength rfl rfl rfl (by decide +kernel) ⟨Nat.le_of_ble_eq_true rfl, Nat.le_of_ble_eq_true rfl⟩) rfl rfl (Nat.le_of_ble_eq_true rfl) dX10_keyAt_36 ⟨Nat.zero_le _, Nat.zero_le _⟩ (fun locs hS => ?_)
        refine lv_iconst (pc := 39) (v := 1) hx hb dX10_keyAt_39 (by decide) ?_
        refine lv_isub (pc := 40) hx hb dX10_keyAt_40 ?_
        obtain ⟨v5, hm41, hf⟩ := q_b1_e hf
        refine q_cSr (pc := 41) (As := [.int p3, .int 0, .int (v4 - 1)]) (rest := []) (v0 := (some (.int v5))) ⟨hx, hb, hml, hown, hts⟩ hK hA hZ hP hD hS hl.1 [] 6 rfl ⟨rfl, rfl, rfl⟩ (c_X_isFrom l D ci A sa N (Rw) p3 0 (v4 - 1) v5 hm41) (va_cwS 3 hts gX10_keyAt_X10_isFrom rfl rfl rfl (by decide +kernel) ⟨Nat.le_of_ble_eq_true rfl, Nat.le_of_ble_eq_true rfl⟩) rfl rfl (Nat.le_of_ble_eq_true rfl) dX10_keyAt_41 ⟨Nat.zero_le _, Nat.zero_le _⟩ (fun locs hS => ?_)
        refine q_if_ne (pc := 44) (tgt := 49) hx hb dX10_keyAt_44 (by decide) rfl hf (fun hf => ?_) (fun hf => ?_)
        · refine lv_aload_n (pc := 49) hx hb dX10_keyAt_49 rfl (lv_at hl 0 rfl) ?_
          refine va_get (pc := 50) (D := D) (ci := 10) (v := .ref a_g) (C := RX10) (T := TX10) (N := 14) hx hb hts hinX10 hown hK hP 0 rfl rfl 1 (by decide) w_1 (fun _ h9 => h9) rfl dX10_keyAt_50 ?_
          refine lv_iload_n (pc := 53) hx hb dX10_keyAt_53 rfl (lv_at hl 1 rfl) ?_
          refine lv_iload_n (pc := 54) hx hb dX10_keyAt_54 rfl (lv_at hl 2 rfl) ?_
          obtain ⟨v6, hm55, hf⟩ := q_b1_e hf
          refine q_cVr (pc := 55) (As := [.int p1, .int p2]) (rest := []) (v0 := (some (.int v6))) ⟨hx, hb, hml, hown, hts⟩ hK hA hZ hP hD hS hl.1 [1, 2, 3, 4, 5] 6 rfl ⟨rfl, rfl, rfl⟩ (c_Grid_rowStart l D ci A sa N (Rw) a_g a_g_rowCuts a_g_columnCuts a_g_bandRows a_g_zoneColumns a_g_rows a_g_sheets g_bandRows g_zoneColumns g_rows g_sheets p1 p2 v6 hm55) 1 rfl rfl (cwV 2 hts gX10_keyAt_X2_rowStart rfl rfl rfl (by decide +kernel) ⟨Nat.le_of_ble_eq_true rfl, Nat.le_of_ble_eq_true rfl⟩) rfl rfl (Nat.le_of_ble_eq_true rfl) dX10_keyAt_55 ⟨Nat.zero_le _, Nat.zero_le _⟩ (fun locs hS => ?_)
          refine lv_iload_n (pc := 58) hx hb dX10_keyAt_58 rfl (lv_at hl 3 rfl) ?_
          refine lv_iadd (pc := 59) hx hb dX10_keyAt_59 ?_
          obtain rfl := Option.some.inj hf
          rw [hQ]
          exact q_iretr (pc := 60) hx hb hr hlocks rfl hS dX10_keyAt_60
        · refine lv_iconst (pc := 47) (v := (-1)) hx hb dX10_keyAt_47 (by decide) ?_
          obtain rfl := Option.some.inj hf
          rw [hQ]
          exact q_iretr (pc := 48) hx hb hr hlocks rfl hS dX10_keyAt_48
      · refine lv_iconst (pc := 26) (v := (-1)) hx hb dX10_keyAt_26 (by decide) ?_
        obtain rfl := Option.some.inj hf
        rw [hQ]
        exact q_iretr (pc := 27) hx hb hr hlocks rfl hS dX10_keyAt_27
  exact hgo _ _ rfl hP hS
/-! X10_lacks -/
set_option maxRecDepth 100000 in
set_option maxHeartbeats 4000000 in
theorem c_X_lacks (l : Launch) (D : va_G) (ci : Nat → ClassId) (A : Nat → Prop) (sa : Nat → Nat) (N : Nat) (Rw : va_W) (a_x : Nat) (a_at : Nat) (a_g : Nat) (a_st : Nat) (a_x_kept : Nat) (a_tp : Nat) (a_rd : Nat) (a_qu : Nat) (a_sp : Nat) (a_wk : Nat) (a_bx : Nat) (a_nt : Nat) (a_nu : Nat) (a_x_seen : Nat) (a_sp_first : Nat) (a_sp_many : Nat) (a_sp_corner : Nat) (a_st_levels : Nat) (a_st_keys : Nat) (a_st_years : Nat) (a_st_keysThere : Nat) (a_g_rowCuts : Nat) (a_g_columnCuts : Nat) (a_g_bandRows : Nat) (a_g_zoneColumns : Nat) (a_g_rows : Nat) (a_g_sheets : Nat) (x_keptStates : Int32) (sp_cornerCount : Int32) (sp_level : Int32) (sp_row : Int32) (sp_start : Int32) (sp_place : Int32) (sp_length : Int32) (sp_cap : Int32) (bx_south : Int32) (bx_north : Int32) (bx_west : Int32) (bx_east : Int32) (st_size : Int32) (st_shownBy : Int32) (st_deepestShown : Int32) (st_latestShown : Int32) (st_levels : Nat → Int32) (st_keys : Nat → Int32) (st_years : Nat → Int32) (st_keysThere : Nat → Int32) (g_bandRows : Nat → Int32) (g_zoneColumns : Nat → Int32) (g_rows : Nat → Int32) (g_sheets : Nat → Int32) (p1 : Int32) (p2 : Int32) (p3 : Int32) (p4 : Int32) (p5 : Int32) (p6 : Int32) (p7 : Int32) (r : Int32) (o1 : Int32) (o2 : Int32) (o3 : Int32) (o4 : Int32) (o5 : Int32) (o6 : Int32) (o7 : Int32) (o8 : Int32) (o9 : Int32) (o10 : Int32) (o11 : Nat → Int32) (o12 : Int32) (o13 : Int32) (o14 : Int32) (hf : f_X_lacks N sp_level sp_row sp_start sp_place sp_length sp_cap bx_south bx_north bx_west bx_east st_levels st_keys st_years st_keysThere st_size st_shownBy st_deepestShown st_latestShown g_bandRows g_zoneColumns g_rows g_sheets p1 p2 p3 p4 p5 p6 p7 = some (r, o1, o2, o3, o4, o5, o6, o7, o8, o9, o10, o11, o12, o13, o14)) : Met l yX10_lacks wsX10_lacks ({ frames := 5, cells := 0, slots := 0, locals := 119 }) (va_Pc [.ref a_x, .int p1, .int p2, .int p3, .int p4, .int p5, .int p6, .int p7] (q_N D ci A sa ((a_x, .inr (10, [.ref a_at, .ref a_g, .ref a_st, .ref a_x_kept, .int x_keptStates, .ref a_tp, .ref a_rd, .ref a_qu, .ref a_sp, .ref a_wk, .ref a_bx, .ref a_nt, .ref a_nu, .ref a_x_seen])) :: (a_sp, .inr (6, [.ref a_g, .ref a_sp_first, .ref a_sp_many, .ref a_sp_corner, .int sp_cornerCount, .int sp_level, .int sp_row, .int sp_start, .int sp_place, .int sp_length, .int sp_cap])) :: (a_bx, .inr (1, [.ref a_g, .int bx_south, .int bx_north, .int bx_west, .int bx_east])) :: (a_st, .inr (7, [.ref a_g, .ref a_st_levels, .ref a_st_keys, .ref a_st_years, .ref a_st_keysThere, .int st_size, .int st_shownBy, .int st_deepestShown, .int st_latestShown])) :: (a_st_levels, .inl (ci 0, 60, .inl st_levels)) :: (a_st_keys, .inl (ci 0, 60, .inl st_keys)) :: (a_st_years, .inl (ci 0, 60, .inl st_years)) :: (a_st_keysThere, .inl (ci 0, 5, .inl st_keysThere)) :: (a_g, .inr (2, [.ref a_g_rowCuts, .ref a_g_columnCuts, .ref a_g_bandRows, .ref a_g_zoneColumns, .ref a_g_rows, .ref a_g_sheets])) :: (a_g_bandRows, .inl (ci 0, 5, .inl g_bandRows)) :: (a_g_zoneColumns, .inl (ci 0, 5, .inl g_zoneColumns)) :: (a_g_rows, .inl (ci 0, 5, .inl g_rows)) :: (a_g_sheets, .inl (ci 0, 5, .inl g_sheets)) :: Rw))) (q_Q (some (.int r)) (q_O D A ((a_x, .inr (10, [.ref a_at, .ref a_g, .ref a_st, .ref a_x_kept, .int x_keptStates, .ref a_tp, .ref a_rd, .ref a_qu, .ref a_sp, .ref a_wk, .ref a_bx, .ref a_nt, .ref a_nu, .ref a_x_seen])) :: (a_sp, .inr (6, [.ref a_g, .ref a_sp_first, .ref a_sp_many, .ref a_sp_corner, .int sp_cornerCount, .int o1, .int o2, .int o3, .int o4, .int o5, .int o6])) :: (a_bx, .inr (1, [.ref a_g, .int o7, .int o8, .int o9, .int o10])) :: (a_st, .inr (7, [.ref a_g, .ref a_st_levels, .ref a_st_keys, .ref a_st_years, .ref a_st_keysThere, .int st_size, .int o12, .int o13, .int o14])) :: (a_st_levels, .inl (ci 0, 60, .inl st_levels)) :: (a_st_keys, .inl (ci 0, 60, .inl st_keys)) :: (a_st_years, .inl (ci 0, 60, .inl st_years)) :: (a_st_keysThere, .inl (ci 0, 5, .inl o11)) :: (a_g, .inr (2, [.ref a_g_rowCuts, .ref a_g_columnCuts, .ref a_g_bandRows, .ref a_g_zoneColumns, .ref a_g_rows, .ref a_g_sheets])) :: (a_g_bandRows, .inl (ci 0, 5, .inl g_bandRows)) :: (a_g_zoneColumns, .inl (ci 0, 5, .inl g_zoneColumns)) :: (a_g_rows, .inl (ci 0, 5, .inl g_rows)) :: (a_g_sheets, .inl (ci 0, 5, .inl g_sheets)) :: Rw)) A) 0 0 A := by
  refine q_ofW (cc := cX10_lacks) (maxL := 14) (ret := (some .int)) [.ref a_x, .int p1, .int p2, .int p3, .int p4, .int p5, .int p6, .int p7] (plainFor_of_name (by decide)) rfl (Nat.le_of_ble_eq_true rfl) ?_
  intro p e s m below meth c ls Q hQ hx hb hml hr hts hown hlocks hK hA hZ hP hD hS hl
  have hl : lv_has ls 14 [(0, .ref a_x), (1, .int p1), (2, .int p2), (3, .int p3), (4, .int p4), (5, .int p5), (6, .int p6), (7, .int p7)] := hl
  have hown : s.vm.findClass RX10 = some m.cls := hown
  have hinX10 : ∀ w ∈ wsX100, w ∈ wsX10_lacks := fun _ h => List.mem_cons_of_mem _ (inWX100 _ h)
  have w_1 := hts (Cond.fieldLink RX10 80 "SheetNames" "area" "LSheetNames$Box;") (List.mem_cons_of_mem _ t_w878)
  unfold f_X_lacks at hf
  have hgo : ∀ (H : Heap) (locs : List Loc), H = s.heap → va_P D vwCl ((a_x, .inr (10, [.ref a_at, .ref a_g, .ref a_st, .ref a_x_kept, .int x_keptStates, .ref a_tp, .ref a_rd, .ref a_qu, .ref a_sp, .ref a_wk, .ref a_bx, .ref a_nt, .ref a_nu, .ref a_x_seen])) :: (a_sp, .inr (6, [.ref a_g, .ref a_sp_first, .ref a_sp_many, .ref a_sp_corner, .int sp_cornerCount, .int sp_level, .int sp_row, .int sp_start, .int sp_place, .int sp_length, .int sp_cap])) :: (a_bx, .inr (1, [.ref a_g, .int bx_south, .int bx_north, .int bx_west, .int bx_east])) :: (a_st, .inr (7, [.ref a_g, .ref a_st_levels, .ref a_st_keys, .ref a_st_years, .ref a_st_keysThere, .int st_size, .int st_shownBy, .int st_deepestShown, .int st_latestShown])) :: (a_st_levels, .inl (ci 0, 60, .inl st_levels)) :: (a_st_keys, .inl (ci 0, 60, .inl st_keys)) :: (a_st_years, .inl (ci 0, 60, .inl st_years)) :: (a_st_keysThere, .inl (ci 0, 5, .inl st_keysThere)) :: (a_g, .inr (2, [.ref a_g_rowCuts, .ref a_g_columnCuts, .ref a_g_bandRows, .ref a_g_zoneColumns, .ref a_g_rows, .ref a_g_sheets])) :: (a_g_bandRows, .inl (ci 0, 5, .inl g_bandRows)) :: (a_g_zoneColumns, .inl (ci 0, 5, .inl g_zoneColumns)) :: (a_g_rows, .inl (ci 0, 5, .inl g_rows)) :: (a_g_sheets, .inl (ci 0, 5, .inl g_sheets)) :: Rw) H → va_S A s.heap H locs → W p l e ({ frames := 5, cells := 0, slots := 0, locals := 119 } : Room) s m ([.ref a_x, .int p1, .int p2, .int p3, .int p4, .int p5, .int p6, .int p7] : List Value).toArray below meth c H locs 0 0 Q (F0 m 0 ls []) := by
    intro H locs hH hP hS
    refine lv_iload_n (pc := 0) hx hb dX10_lacks_0 rfl (lv_at hl 1 rfl) ?_
    refine lv_iload_n (pc := 1) hx hb dX10_lacks_1 rfl (lv_at hl 2 rfl) ?_
    refine lv_iload_n (pc := 2) hx hb dX10_lacks_2 rfl (lv_at hl 3 rfl) ?_
    refine lv_iload (pc := 3) hx hb dX10_lacks_3 (lv_at hl 4 rfl) ?_
    obtain ⟨v1, hm5, hf⟩ := q_b1_e hf
    refine q_cSr (pc := 5) (As := [.int p1, .int p2, .int p3, .int p4]) (rest := []) (v0 := (some (.int v1))) ⟨hx, hb, hml, hown, hts⟩ hK hA hZ hP hD hS hl.1 [] 13 rfl ⟨rfl, rfl, rfl⟩ (c_X_isBox l D ci A sa N (Rw) p1 p2 p3 p4 v1 hm5) (va_cwS 4 hts gX10_lacks_X10_isBox rfl rfl rfl (by decide +kernel) ⟨Nat.le_of_ble_eq_true rfl, Nat.le_of_ble_eq_true rfl⟩) rfl rfl (Nat.le_of_ble_eq_true rfl) dX10_lacks_5 ⟨Nat.zero_le _, Nat.zero_le _⟩ (fun locs hS => ?_)
    refine q_if_eq (pc := 8) (tgt := 37) hx hb dX10_lacks_8 (by decide) rfl hf (fun hf => ?_) (fun hf => ?_)
    · refine lv_iconst (pc := 37) (v := (-1)) hx hb dX10_lacks_37 (by decide) ?_
      obtain ⟨e90, e91, e92, e93, e94, e95, e96, e97, e98, e99, e910, e911, e912, e913, e914⟩ := q_inj15 (Option.some.inj hf)
      rw [hQ, ← e90, ← e91, ← e92, ← e93, ← e94, ← e95, ← e96, ← e97, ← e98, ← e99, ← e910, ← e911, ← e912, ← e913, ← e914]
      exact q_iret (pc := 38) hx hb hr hlocks hP hD hS dX10_lacks_38
    · refine lv_iload (pc := 11) hx hb dX10_lacks_11 (lv_at hl 5 rfl) ?_
      obtain ⟨v2, hm13, hf⟩ := q_b1_e hf
      refine q_cSr (pc := 13) (As := [.int p5]) (rest := []) (v0 := (some (.int v2))) ⟨hx, hb, hml, hown, hts⟩ hK hA hZ hP hD hS hl.1 [] 13 rfl ⟨rfl, rfl, rfl⟩ (c_X_isLevel l D ci A sa N (Rw) p5 v2 hm13) (va_cwS 1 hts gX10_lacks_X10_isLevel rfl rfl rfl (by decide +kernel) ⟨Nat.le_of_ble_eq_true rfl, Nat.le_of_ble_eq_true rfl⟩) rfl rfl (Nat.le_of_ble_eq_true rfl) dX10_lacks_13 ⟨Nat.zero_le _, Nat.zero_le _⟩ (fun locs hS => ?_)
      refine q_if_eq (pc := 16) (tgt := 37) hx hb dX10_lacks_16 (by decide) rfl hf (fun hf => ?_) (fun hf => ?_)
      · refine lv_iconst (pc := 37) (v := (-1)) hx hb dX10_lacks_37 (by decide) ?_
        obtain ⟨e90, e91, e92, e93, e94, e95, e96, e97, e98, e99, e910, e911, e912, e913, e914⟩ := q_inj15 (Option.some.inj hf)
        rw [hQ, ← e90, ← e91, ← e92, ← e93, ← e94, ← e95, ← e96, ← e97, ← e98, ← e99, ← e910, ← e911, ← e912, ← e913, ← e914]
        exact q_iret (pc := 38) hx hb hr hlocks hP hD hS dX10_lacks_38
      · refine lv_iload (pc := 19) hx hb dX10_lacks_19 (lv_at hl 6 rfl) ?_
        refine lv_iconst (pc := 21) (v := 0) hx hb dX10_lacks_21 (by decide) ?_
        refine lv_sipush (pc := 22) (v := 2100) hx hb dX10_lacks_22 (by decide) ?_
        obtain ⟨v3, hm25, hf⟩ := q_b1_e hf
        refine q_cSr (pc := 25) (As := [.int p6, .int 0, .int 2100]) (rest := []) (v0 := (some (.int v3))) ⟨hx, hb, hml, hown, hts⟩ hK hA hZ hP hD hS hl.1 [] 13 rfl ⟨rfl, rfl, rfl⟩ (c_X_isFrom l D ci A sa N (Rw) p6 0 2100 v3 hm25) (va_cwS 3 hts gX10_lacks_X10_isFrom rfl rfl rfl (by decide +kernel) ⟨Nat.le_of_ble_eq_true rfl, Nat.le_of_ble_eq_true rfl⟩) rfl rfl (Nat.le_of_ble_eq_true rfl) dX10_lacks_25 ⟨Nat.zero_le _, Nat.zero_le _⟩ (fun locs hS => ?_)
        refine q_if_eq (pc := 28) (tgt := 37) hx hb dX10_lacks_28 (by decide) rfl hf (fun hf => ?_) (fun hf => ?_)
        · refine lv_iconst (pc := 37) (v := (-1)) hx hb dX10_lacks_37 (by decide) ?_
          obtain ⟨e90, e91, e92, e93, e94, e95, e96, e97, e98, e99, e910, e911, e912, e913, e914⟩ := q_inj15 (Option.some.inj hf)
          rw [hQ, ← e90, ← e91, ← e92, ← e93, ← e94, ← e95, ← e96, ← e97, ← e98, ← e99, ← e910, ← e911, ← e912, ← e913, ← e914]
          exact q_iret (pc := 38) hx hb hr hlocks hP hD hS dX10_lacks_38
        · refine lv_iload (pc := 31) hx hb dX10_lacks_31 (lv_at hl 7 rfl) ?_
          refine lv_iconst (pc := 33) (v := (-1)) hx hb dX10_lacks_33 (by decide) ?_
          refine q_icmp_ge (pc := 34) (tgt := 39) hx hb dX10_lacks_34 (by decide) rfl hf (fun hf => ?_) (fun hf => ?_)
          · refine lv_aload_n (pc := 39) hx hb dX10_lacks_39 rfl (lv_at hl 0 rfl) ?_
            refine va_get (pc := 40) (D := D) (ci := 10) (v := .ref a_bx) (C := RX10) (T := TX10) (N := 14) hx hb hts hinX10 hown hK hP 0 rfl rfl 10 (by decide) w_1 (fun _ h9 => h9) rfl dX10_lacks_40 ?_
            refine lv_iload_n (pc := 43) hx hb dX10_lacks_43 rfl (lv_at hl 1 rfl) ?_
            refine lv_iload_n (pc := 44) hx hb dX10_lacks_44 rfl (lv_at hl 2 rfl) ?_
            refine lv_iload_n (pc := 45) hx hb dX10_lacks_45 rfl (lv_at hl 3 rfl) ?_
            refine lv_iload (pc := 46) hx hb dX10_lacks_46 (lv_at hl 4 rfl) ?_
            obtain ⟨v4, v5, v6, v7, hm48, hf⟩ := q_b4_e hf
            refine q_cV (pc := 48) (As := [.int p1, .int p2, .int p3, .int p4]) (rest := []) (v0 := none) ⟨hx, hb, hml, hown, hts⟩ hK hA hZ hP hD hS hl.1 [2, 0, 1, 3, 4, 5, 6, 7, 8, 9, 10, 11, 12] 13 rfl ⟨rfl, rfl, rfl⟩ (c_Box_set l D ci A sa N ((a_x, .inr (10, [.ref a_at, .ref a_g, .ref a_st, .ref a_x_kept, .int x_keptStates, .ref a_tp, .ref a_rd, .ref a_qu, .ref a_sp, .ref a_wk, .ref a_bx, .ref a_nt, .ref a_nu, .ref a_x_seen])) :: (a_sp, .inr (6, [.ref a_g, .ref a_sp_first, .ref a_sp_many, .ref a_sp_corner, .int sp_cornerCount, .int sp_level, .int sp_row, .int sp_start, .int sp_place, .int sp_length, .int sp_cap])) :: (a_st, .inr (7, [.ref a_g, .ref a_st_levels, .ref a_st_keys, .ref a_st_years, .ref a_st_keysThere, .int st_size, .int st_shownBy, .int st_deepestShown, .int st_latestShown])) :: (a_st_levels, .inl (ci 0, 60, .inl st_levels)) :: (a_st_keys, .inl (ci 0, 60, .inl st_keys)) :: (a_st_years, .inl (ci 0, 60, .inl st_years)) :: (a_st_keysThere, .inl (ci 0, 5, .inl st_keysThere)) :: (a_g, .inr (2, [.ref a_g_rowCuts, .ref a_g_columnCuts, .ref a_g_bandRows, .ref a_g_zoneColumns, .ref a_g_rows, .ref a_g_sheets])) :: (a_g_bandRows, .inl (ci 0, 5, .inl g_bandRows)) :: (a_g_zoneColumns, .inl (ci 0, 5, .inl g_zoneColumns)) :: (a_g_rows, .inl (ci 0, 5, .inl g_rows)) :: (a_g_sheets, .inl (ci 0, 5, .inl g_sheets)) :: Rw) a_bx a_g bx_south bx_north bx_west bx_east p1 p2 p3 p4 v4 v5 v6 v7 hm48) 2 rfl rfl (cwV 4 hts gX10_lacks_X1_set rfl rfl rfl (by decide +kernel) ⟨Nat.le_of_ble_eq_true rfl, Nat.le_of_ble_eq_true rfl⟩) rfl rfl (Nat.le_of_ble_eq_true rfl) dX10_lacks_48 ⟨Nat.zero_le _, Nat.zero_le _⟩ [1, 2, 0, 3, 4, 5, 6, 7, 8, 9, 10, 11, 12] 13 rfl ⟨rfl, rfl, rfl⟩ (fun H locs hP hD hS => ?_)
            obtain ⟨hP, hD⟩ : va_PD D A ((a_x, .inr (10, [.ref a_at, .ref a_g, .ref a_st, .ref a_x_kept, .int x_keptStates, .ref a_tp, .ref a_rd, .ref a_qu, .ref a_sp, .ref a_wk, .ref a_bx, .ref a_nt, .ref a_nu, .ref a_x_seen])) :: (a_sp, .inr (6, [.ref a_g, .ref a_sp_first, .ref a_sp_many, .ref a_sp_corner, .int sp_cornerCount, .int sp_level, .int sp_row, .int sp_start, .int sp_place, .int sp_length, .int sp_cap])) :: (a_bx, .inr (1, [.ref a_g, .int v4, .int v5, .int v6, .int v7])) :: (a_st, .inr (7, [.ref a_g, .ref a_st_levels, .ref a_st_keys, .ref a_st_years, .ref a_st_keysThere, .int st_size, .int st_shownBy, .int st_deepestShown, .int st_latestShown])) :: (a_st_levels, .inl (ci 0, 60, .inl st_levels)) :: (a_st_keys, .inl (ci 0, 60, .inl st_keys)) :: (a_st_years, .inl (ci 0, 60, .inl st_years)) :: (a_st_keysThere, .inl (ci 0, 5, .inl st_keysThere)) :: (a_g, .inr (2, [.ref a_g_rowCuts, .ref a_g_columnCuts, .ref a_g_bandRows, .ref a_g_zoneColumns, .ref a_g_rows, .ref a_g_sheets])) :: (a_g_bandRows, .inl (ci 0, 5, .inl g_bandRows)) :: (a_g_zoneColumns, .inl (ci 0, 5, .inl g_zoneColumns)) :: (a_g_rows, .inl (ci 0, 5, .inl g_rows)) :: (a_g_sheets, .inl (ci 0, 5, .inl g_sheets)) :: Rw) H := ⟨hP, hD⟩
            refine lv_aload_n (pc := 51) hx hb dX10_lacks_51 rfl (lv_at hl 0 rfl) ?_
            refine va_get (pc := 52) (D := D) (ci := 10) (v := .ref a_bx) (C := RX10) (T := TX10) (N := 14) hx hb hts hinX10 hown hK hP 0 rfl rfl 10 (by decide) w_1 (fun _ h9 => h9) rfl dX10_lacks_52 ?_
            refine lv_iload (pc := 55) hx hb dX10_lacks_55 (lv_at hl 5 rfl) ?_
            obtain ⟨v8, hm57, hf⟩ := q_b1_e hf
            refine q_cVr (pc := 57) (As := [.int p5]) (rest := []) (v0 := (some (.int v8))) ⟨hx, hb, hml, hown, hts⟩ hK hA hZ hP hD hS hl.1 [2, 8, 9, 10, 11] 13 rfl ⟨rfl, rfl, rfl⟩ (c_Box_sheetsAt l D ci A sa N (Rw) a_bx a_g a_g_rowCuts a_g_columnCuts a_g_bandRows a_g_zoneColumns a_g_rows a_g_sheets v4 v5 v6 v7 g_bandRows g_zoneColumns g_rows p5 v8 hm57) 2 rfl rfl (cwV 1 hts gX10_lacks_X1_sheetsAt rfl rfl rfl (by decide +kernel) ⟨Nat.le_of_ble_eq_true rfl, Nat.le_of_ble_eq_true rfl⟩) rfl rfl (Nat.le_of_ble_eq_true rfl) dX10_lacks_57 ⟨Nat.zero_le _, Nat.zero_le _⟩ (fun locs hS => ?_)
            refine lv_sipush (pc := 60) (v := 4000) hx hb dX10_lacks_60 (by decide) ?_
            refine q_icmp_le (pc := 63) (tgt := 69) hx hb dX10_lacks_63 (by decide) rfl hf (fun hf => ?_) (fun hf => ?_)
            · refine lv_iconst (pc := 69) (v := 0) hx hb dX10_lacks_69 (by decide) ?_
              obtain ⟨v9, ev9, hf⟩ := q_nm_e hf
              refine q_topi ev9 ?_
              refine lv_istore (pc := 70) (lv' := [(8, .int v9), (0, .ref a_x), (1, .int p1), (2, .int p2), (3, .int p3), (4, .int p4), (5, .int p5), (6, .int p6), (7, .int p7)]) hx hb dX10_lacks_70 hl (by decide) rfl (fun ls hl => ?_)
              refine lv_aload_n (pc := 72) hx hb dX10_lacks_72 rfl (lv_at hl 1 rfl) ?_
              refine va_get (pc := 73) (D := D) (ci := 10) (v := .ref a_bx) (C := RX10) (T := TX10) (N := 14) hx hb hts hinX10 hown hK hP 0 rfl rfl 10 (by decide) w_1 (fun _ h9 => h9) rfl dX10_lacks_73 ?_
              refine lv_iload (pc := 76) hx hb dX10_lacks_76 (lv_at hl 6 rfl) ?_
              obtain ⟨v10, hm78, hf⟩ := q_b1_e hf
              refine q_cVr (pc := 78) (As := [.int p5]) (rest := []) (v0 := (some (.int v10))) ⟨hx, hb, hml, hown, hts⟩ hK hA hZ hP hD hS hl.1 [2, 8, 9, 11] 13 rfl ⟨rfl, rfl, rfl⟩ (c_Box_bottomRow l D ci A sa N (Rw) a_bx a_g a_g_rowCuts a_g_columnCuts a_g_bandRows a_g_zoneColumns a_g_rows a_g_sheets v4 v5 v6 v7 g_bandRows g_rows p5 v10 hm78) 2 rfl rfl (cwV 1 hts gX10_lacks_X1_bottomRow rfl rfl rfl (by decide +kernel) ⟨Nat.le_of_ble_eq_true rfl, Nat.le_of_ble_eq_true rfl⟩) rfl rfl (Nat.le_of_ble_eq_true rfl) dX10_lacks_78 ⟨Nat.zero_le _, Nat.zero_le _⟩ (fun locs hS => ?_)
              refine lv_istore (pc := 81) (lv' := [(9, .int v10), (8, .int v9), (0, .ref a_x), (1, .int p1), (2, .int p2), (3, .int p3), (4, .int p4), (5, .int p5), (6, .int p6), (7, .int p7)]) hx hb dX10_lacks_81 hl (by decide) rfl (fun ls hl => ?_)
              refine lv_aload_n (pc := 83) hx hb dX10_lacks_83 rfl (lv_at hl 2 rfl) ?_
              refine va_get (pc := 84) (D := D) (ci := 10) (v := .ref a_bx) (C := RX10) (T := TX10) (N := 14) hx hb hts hinX10 hown hK hP 0 rfl rfl 10 (by decide) w_1 (fun _ h9 => h9) rfl dX10_lacks_84 ?_
              refine lv_iload (pc := 87) hx hb dX10_lacks_87 (lv_at hl 7 rfl) ?_
              obtain ⟨v11, hm89, hf⟩ := q_b1_e hf
              refine q_cVr (pc := 89) (As := [.int p5]) (rest := []) (v0 := (some (.int v11))) ⟨hx, hb, hml, hown, hts⟩ hK hA hZ hP hD hS hl.1 [2, 8, 9, 11] 13 rfl ⟨rfl, rfl, rfl⟩ (c_Box_topRow l D ci A sa N (Rw) a_bx a_g a_g_rowCuts a_g_columnCuts a_g_bandRows a_g_zoneColumns a_g_rows a_g_sheets v4 v5 v6 v7 g_bandRows g_rows p5 v11 hm89) 2 rfl rfl (cwV 1 hts gX10_lacks_X1_topRow rfl rfl rfl (by decide +kernel) ⟨Nat.le_of_ble_eq_true rfl, Nat.le_of_ble_eq_true rfl⟩) rfl rfl (Nat.le_of_ble_eq_true rfl) dX10_lacks_89 ⟨Nat.zero_le _, Nat.zero_le _⟩ (fun locs hS => ?_)
              refine lv_istore (pc := 92) (lv' := [(10, .int v11), (9, .int v10), (8, .int v9), (0, .ref a_x), (1, .int p1), (2, .int p2), (3, .int p3), (4, .int p4), (5, .int p5), (6, .int p6), (7, .int p7)]) hx hb dX10_lacks_92 hl (by decide) rfl (fun ls hl => ?_)
              obtain ⟨k94, o94_, ek94, hm94, hk94⟩ := q_s11_k hf
              have JE94 : ∀ (v24 : Int32) (v25 : Int32) (v26 : Int32) (v27 : Int32) (v28 : Int32) (v29 : Int32) (v30 : Int32) (f31 : Nat → Int32) (v32 : Int32) (v33 : Int32) (v34 : Int32) (H : Heap) (locs : List Loc) (ls : Array Slot), k94 v24 v25 v26 v27 v28 v29 v30 f31 v32 v33 v34 = some (r, o1, o2, o3, o4, o5, o6, o7, o8, o9, o10, o11, o12, o13, o14) → va_P D vwCl ((a_x, .inr (10, [.ref a_at, .ref a_g, .ref a_st, .ref a_x_kept, .int x_keptStates, .ref a_tp, .ref a_rd, .ref a_qu, .ref a_sp, .ref a_wk, .ref a_bx, .ref a_nt, .ref a_nu, .ref a_x_seen])) :: (a_sp, .inr (6, [.ref a_g, .ref a_sp_first, .ref a_sp_many, .ref a_sp_corner, .int sp_cornerCount, .int v25, .int v26, .int v27, .int v28, .int v29, .int v30])) :: (a_bx, .inr (1, [.ref a_g, .int v4, .int v5, .int v6, .int v7])) :: (a_st, .inr (7, [.ref a_g, .ref a_st_levels, .ref a_st_keys, .ref a_st_years, .ref a_st_keysThere, .int st_size, .int v32, .int v33, .int v34])) :: (a_st_levels, .inl (ci 0, 60, .inl st_levels)) :: (a_st_keys, .inl (ci 0, 60, .inl st_keys)) :: (a_st_years, .inl (ci 0, 60, .inl st_years)) :: (a_st_keysThere, .inl (ci 0, 5, .inl f31)) :: (a_g, .inr (2, [.ref a_g_rowCuts, .ref a_g_columnCuts, .ref a_g_bandRows, .ref a_g_zoneColumns, .ref a_g_rows, .ref a_g_sheets])) :: (a_g_bandRows, .inl (ci 0, 5, .inl g_bandRows)) :: (a_g_zoneColumns, .inl (ci 0, 5, .inl g_zoneColumns)) :: (a_g_rows, .inl (ci 0, 5, .inl g_rows)) :: (a_g_sheets, .inl (ci 0, 5, .inl g_sheets)) :: Rw) H → va_D A ((a_x, .inr (10, [.ref a_at, .ref a_g, .ref a_st, .ref a_x_kept, .int x_keptStates, .ref a_tp, .ref a_rd, .ref a_qu, .ref a_sp, .ref a_wk, .ref a_bx, .ref a_nt, .ref a_nu, .ref a_x_seen])) :: (a_sp, .inr (6, [.ref a_g, .ref a_sp_first, .ref a_sp_many, .ref a_sp_corner, .int sp_cornerCount, .int v25, .int v26, .int v27, .int v28, .int v29, .int v30])) :: (a_bx, .inr (1, [.ref a_g, .int v4, .int v5, .int v6, .int v7])) :: (a_st, .inr (7, [.ref a_g, .ref a_st_levels, .ref a_st_keys, .ref a_st_years, .ref a_st_keysThere, .int st_size, .int v32, .int v33, .int v34])) :: (a_st_levels, .inl (ci 0, 60, .inl st_levels)) :: (a_st_keys, .inl (ci 0, 60, .inl st_keys)) :: (a_st_years, .inl (ci 0, 60, .inl st_years)) :: (a_st_keysThere, .inl (ci 0, 5, .inl f31)) :: (a_g, .inr (2, [.ref a_g_rowCuts, .ref a_g_columnCuts, .ref a_g_bandRows, .ref a_g_zoneColumns, .ref a_g_rows, .ref a_g_sheets])) :: (a_g_bandRows, .inl (ci 0, 5, .inl g_bandRows)) :: (a_g_zoneColumns, .inl (ci 0, 5, .inl g_zoneColumns)) :: (a_g_rows, .inl (ci 0, 5, .inl g_rows)) :: (a_g_sheets, .inl (ci 0, 5, .inl g_sheets)) :: Rw) → va_S A s.heap H locs → lv_has ls 14 [(7, .int p7), (8, .int v24)] → W p l e ({ frames := 5, cells := 0, slots := 0, locals := 119 } : Room) s m ([.ref a_x, .int p1, .int p2, .int p3, .int p4, .int p5, .int p6, .int p7] : List Value).toArray below meth c H locs 0 0 Q (F0 m 180 ls []) := by
                intro v24 v25 v26 v27 v28 v29 v30 f31 v32 v33 v34 H locs ls hf hP hD hS hl
                have hf := (ek94 v24 v25 v26 v27 v28 v29 v30 f31 v32 v33 v34).symm.trans hf
                refine lv_iload (pc := 180) hx hb dX10_lacks_180 (lv_at hl 0 rfl) ?_
                refine lv_iconst (pc := 182) (v := (-1)) hx hb dX10_lacks_182 (by decide) ?_
                refine q_icmp_ne (pc := 183) (tgt := 191) hx hb dX10_lacks_183 (by decide) rfl hf (fun hf => ?_) (fun hf => ?_)
                · refine lv_bipush (pc := 191) (v := (-3)) hx hb dX10_lacks_191 (by decide) ?_
                  obtain ⟨e90, e91, e92, e93, e94, e95, e96, e97, e98, e99, e910, e911, e912, e913, e914⟩ := q_inj15 (Option.some.inj hf)
                  rw [hQ, ← e90, ← e91, ← e92, ← e93, ← e94, ← e95, ← e96, ← e97, ← e98, ← e99, ← e910, ← e911, ← e912, ← e913, ← e914]
                  exact q_iret (pc := 193) hx hb hr hlocks hP hD hS dX10_lacks_193
                · refine lv_iload (pc := 186) hx hb dX10_lacks_186 (lv_at hl 1 rfl) ?_
                  refine lv_goto (pc := 188) (tgt := 193) hx hb dX10_lacks_188 (by decide) ?_
                  obtain ⟨e90, e91, e92, e93, e94, e95, e96, e97, e98, e99, e910, e911, e912, e913, e914⟩ := q_inj15 (Option.some.inj hf)
                  rw [hQ, ← e90, ← e91, ← e92, ← e93, ← e94, ← e95, ← e96, ← e97, ← e98, ← e99, ← e910, ← e911, ← e912, ← e913, ← e914]
                  exact q_iret (pc := 193) hx hb hr hlocks hP hD hS dX10_lacks_193
              have LP94 : ∀ (n94 : Nat) (v12 : Int32) (v13 : Int32) (v14 : Int32) (v15 : Int32) (v16 : Int32) (v17 : Int32) (v18 : Int32) (v19 : Int32) (f20 : Nat → Int32) (v21 : Int32) (v22 : Int32) (v23 : Int32) (H : Heap) (locs : List Loc) (ls : Array Slot), f_X_lacks_L94 N g_bandRows g_rows g_sheets g_zoneColumns p5 p6 p7 st_keys st_levels st_size st_years v10 v4 v5 v6 v7 n94 v12 v13 v14 v15 v16 v17 v18 v19 f20 v21 v22 v23 = some o94_ → va_P D vwCl ((a_x, .inr (10, [.ref a_at, .ref a_g, .ref a_st, .ref a_x_kept, .int x_keptStates, .ref a_tp, .ref a_rd, .ref a_qu, .ref a_sp, .ref a_wk, .ref a_bx, .ref a_nt, .ref a_nu, .ref a_x_seen])) :: (a_sp, .inr (6, [.ref a_g, .ref a_sp_first, .ref a_sp_many, .ref a_sp_corner, .int sp_cornerCount, .int v14, .int v15, .int v16, .int v17, .int v18, .int v19])) :: (a_bx, .inr (1, [.ref a_g, .int v4, .int v5, .int v6, .int v7])) :: (a_st, .inr (7, [.ref a_g, .ref a_st_levels, .ref a_st_keys, .ref a_st_years, .ref a_st_keysThere, .int st_size, .int v21, .int v22, .int v23])) :: (a_st_levels, .inl (ci 0, 60, .inl st_levels)) :: (a_st_keys, .inl (ci 0, 60, .inl st_keys)) :: (a_st_years, .inl (ci 0, 60, .inl st_years)) :: (a_st_keysThere, .inl (ci 0, 5, .inl f20)) :: (a_g, .inr (2, [.ref a_g_rowCuts, .ref a_g_columnCuts, .ref a_g_bandRows, .ref a_g_zoneColumns, .ref a_g_rows, .ref a_g_sheets])) :: (a_g_bandRows, .inl (ci 0, 5, .inl g_bandRows)) :: (a_g_zoneColumns, .inl (ci 0, 5, .inl g_zoneColumns)) :: (a_g_rows, .inl (ci 0, 5, .inl g_rows)) :: (a_g_sheets, .inl (ci 0, 5, .inl g_sheets)) :: Rw) H → va_D A ((a_x, .inr (10, [.ref a_at, .ref a_g, .ref a_st, .ref a_x_kept, .int x_keptStates, .ref a_tp, .ref a_rd, .ref a_qu, .ref a_sp, .ref a_wk, .ref a_bx, .ref a_nt, .ref a_nu, .ref a_x_seen])) :: (a_sp, .inr (6, [.ref a_g, .ref a_sp_first, .ref a_sp_many, .ref a_sp_corner, .int sp_cornerCount, .int v14, .int v15, .int v16, .int v17, .int v18, .int v19])) :: (a_bx, .inr (1, [.ref a_g, .int v4, .int v5, .int v6, .int v7])) :: (a_st, .inr (7, [.ref a_g, .ref a_st_levels, .ref a_st_keys, .ref a_st_years, .ref a_st_keysThere, .int st_size, .int v21, .int v22, .int v23])) :: (a_st_levels, .inl (ci 0, 60, .inl st_levels)) :: (a_st_keys, .inl (ci 0, 60, .inl st_keys)) :: (a_st_years, .inl (ci 0, 60, .inl st_years)) :: (a_st_keysThere, .inl (ci 0, 5, .inl f20)) :: (a_g, .inr (2, [.ref a_g_rowCuts, .ref a_g_columnCuts, .ref a_g_bandRows, .ref a_g_zoneColumns, .ref a_g_rows, .ref a_g_sheets])) :: (a_g_bandRows, .inl (ci 0, 5, .inl g_bandRows)) :: (a_g_zoneColumns, .inl (ci 0, 5, .inl g_zoneColumns)) :: (a_g_rows, .inl (ci 0, 5, .inl g_rows)) :: (a_g_sheets, .inl (ci 0, 5, .inl g_sheets)) :: Rw) → va_S A s.heap H locs → lv_has ls 14 [(0, .ref a_x), (5, .int p5), (6, .int p6), (7, .int p7), (8, .int v12), (9, .int v10), (10, .int v13)] → W p l e ({ frames := 5, cells := 0, slots := 0, locals := 119 } : Room) s m ([.ref a_x, .int p1, .int p2, .int p3, .int p4, .int p5, .int p6, .int p7] : List Value).toArray below meth c H locs 0 0 Q (F0 m 94 ls []) := by
                intro n94
                induction n94 with
                | zero => intro v12 v13 v14 v15 v16 v17 v18 v19 f20 v21 v22 v23 H locs ls hf; rw [f_X_lacks_L94] at hf; cases hf
                | succ n94 ih94 =>
                  intro v12 v13 v14 v15 v16 v17 v18 v19 f20 v21 v22 v23 H locs ls hf hP hD hS hl
                  rw [f_X_lacks_L94] at hf
                  refine lv_iload (pc := 94) hx hb dX10_lacks_94 (lv_at hl 6 rfl) ?_
                  refine lv_iload (pc := 96) hx hb dX10_lacks_96 (lv_at hl 5 rfl) ?_
                  refine q_icmp_gt (pc := 98) (tgt := 180) hx hb dX10_lacks_98 (by decide) rfl hf (fun hf => ?_) (fun hf => ?_)
                  · obtain rfl := Option.some.inj hf
                    exact JE94 v12 v14 v15 v16 v17 v18 v19 f20 v21 v22 v23 _ _ _ hk94 hP hD hS (lv_sub hl [3, 4] rfl)
                  · refine lv_aload_n (pc := 101) hx hb dX10_lacks_101 rfl (lv_at hl 0 rfl) ?_
                    refine va_get (pc := 102) (D := D) (ci := 10) (v := .ref a_bx) (C := RX10) (T := TX10) (N := 14) hx hb hts hinX10 hown hK hP 0 rfl rfl 10 (by decide) w_1 (fun _ h9 => h9) rfl dX10_lacks_102 ?_
                    refine lv_iload (pc := 105) hx hb dX10_lacks_105 (lv_at hl 1 rfl) ?_
                    refine lv_iload (pc := 107) hx hb dX10_lacks_107 (lv_at hl 6 rfl) ?_
                    obtain ⟨v35, hm109, hf⟩ := q_b1_e hf
                    refine q_cVr (pc := 109) (As := [.int p5, .int v13]) (rest := []) (v0 := (some (.int v35))) ⟨hx, hb, hml, hown, hts⟩ hK hA hZ hP hD hS hl.1 [2, 8, 9, 10, 11] 13 rfl ⟨rfl, rfl, rfl⟩ (c_Box_inRow l D ci A sa N (Rw) a_bx a_g a_g_rowCuts a_g_columnCuts a_g_bandRows a_g_zoneColumns a_g_rows a_g_sheets v4 v5 v6 v7 g_bandRows g_zoneColumns g_rows p5 v13 v35 hm109) 2 rfl rfl (cwV 2 hts gX10_lacks_X1_inRow rfl rfl rfl (by decide +kernel) ⟨Nat.le_of_ble_eq_true rfl, Nat.le_of_ble_eq_true rfl⟩) rfl rfl (Nat.le_of_ble_eq_true rfl) dX10_lacks_109 ⟨Nat.zero_le _, Nat.zero_le _⟩ (fun locs hS => ?_)
                    refine lv_istore (pc := 112) (lv' := [(11, .int v35), (0, .ref a_x), (5, .int p5), (6, .int p6), (7, .int p7), (8, .int v12), (9, .int v10), (10, .int v13)]) hx hb dX10_lacks_112 hl (by decide) rfl (fun ls hl => ?_)
                    refine lv_iconst (pc := 114) (v := 0) hx hb dX10_lacks_114 (by decide) ?_
                    obtain ⟨v36, ev36, hf⟩ := q_nm_e hf
                    refine q_topi ev36 ?_
                    refine lv_istore (pc := 115) (lv' := [(12, .int v36), (11, .int v35), (0, .ref a_x), (5, .int p5), (6, .int p6), (7, .int p7), (8, .int v12), (9, .int v10), (10, .int v13)]) hx hb dX10_lacks_115 hl (by decide) rfl (fun ls hl => ?_)
                    obtain ⟨k117, o117_, ek117, hm117, hk117⟩ := q_s11_k hf
                    have JE117 : ∀ (v49 : Int32) (v50 : Int32) (v51 : Int32) (v52 : Int32) (v53 : Int32) (v54 : Int32) (v55 : Int32) (f56 : Nat → Int32) (v57 : Int32) (v58 : Int32) (v59 : Int32) (H : Heap) (locs : List Loc) (ls : Array Slot), k117 v49 v50 v51 v52 v53 v54 v55 f56 v57 v58 v59 = some o94_ → va_P D vwCl ((a_x, .inr (10, [.ref a_at, .ref a_g, .ref a_st, .ref a_x_kept, .int x_keptStates, .ref a_tp, .ref a_rd, .ref a_qu, .ref a_sp, .ref a_wk, .ref a_bx, .ref a_nt, .ref a_nu, .ref a_x_seen])) :: (a_sp, .inr (6, [.ref a_g, .ref a_sp_first, .ref a_sp_many, .ref a_sp_corner, .int sp_cornerCount, .int v50, .int v51, .int v52, .int v53, .int v54, .int v55])) :: (a_bx, .inr (1, [.ref a_g, .int v4, .int v5, .int v6, .int v7])) :: (a_st, .inr (7, [.ref a_g, .ref a_st_levels, .ref a_st_keys, .ref a_st_years, .ref a_st_keysThere, .int st_size, .int v57, .int v58, .int v59])) :: (a_st_levels, .inl (ci 0, 60, .inl st_levels)) :: (a_st_keys, .inl (ci 0, 60, .inl st_keys)) :: (a_st_years, .inl (ci 0, 60, .inl st_years)) :: (a_st_keysThere, .inl (ci 0, 5, .inl f56)) :: (a_g, .inr (2, [.ref a_g_rowCuts, .ref a_g_columnCuts, .ref a_g_bandRows, .ref a_g_zoneColumns, .ref a_g_rows, .ref a_g_sheets])) :: (a_g_bandRows, .inl (ci 0, 5, .inl g_bandRows)) :: (a_g_zoneColumns, .inl (ci 0, 5, .inl g_zoneColumns)) :: (a_g_rows, .inl (ci 0, 5, .inl g_rows)) :: (a_g_sheets, .inl (ci 0, 5, .inl g_sheets)) :: Rw) H → va_D A ((a_x, .inr (10, [.ref a_at, .ref a_g, .ref a_st, .ref a_x_kept, .int x_keptStates, .ref a_tp, .ref a_rd, .ref a_qu, .ref a_sp, .ref a_wk, .ref a_bx, .ref a_nt, .ref a_nu, .ref a_x_seen])) :: (a_sp, .inr (6, [.ref a_g, .ref a_sp_first, .ref a_sp_many, .ref a_sp_corner, .int sp_cornerCount, .int v50, .int v51, .int v52, .int v53, .int v54, .int v55])) :: (a_bx, .inr (1, [.ref a_g, .int v4, .int v5, .int v6, .int v7])) :: (a_st, .inr (7, [.ref a_g, .ref a_st_levels, .ref a_st_keys, .ref a_st_years, .ref a_st_keysThere, .int st_size, .int v57, .int v58, .int v59])) :: (a_st_levels, .inl (ci 0, 60, .inl st_levels)) :: (a_st_keys, .inl (ci 0, 60, .inl st_keys)) :: (a_st_years, .inl (ci 0, 60, .inl st_years)) :: (a_st_keysThere, .inl (ci 0, 5, .inl f56)) :: (a_g, .inr (2, [.ref a_g_rowCuts, .ref a_g_columnCuts, .ref a_g_bandRows, .ref a_g_zoneColumns, .ref a_g_rows, .ref a_g_sheets])) :: (a_g_bandRows, .inl (ci 0, 5, .inl g_bandRows)) :: (a_g_zoneColumns, .inl (ci 0, 5, .inl g_zoneColumns)) :: (a_g_rows, .inl (ci 0, 5, .inl g_rows)) :: (a_g_sheets, .inl (ci 0, 5, .inl g_sheets)) :: Rw) → va_S A s.heap H locs → lv_has ls 14 [(0, .ref a_x), (5, .int p5), (6, .int p6), (7, .int p7), (8, .int v49), (9, .int v10), (10, .int v13)] → W p l e ({ frames := 5, cells := 0, slots := 0, locals := 119 } : Room) s m ([.ref a_x, .int p1, .int p2, .int p3, .int p4, .int p5, .int p6, .int p7] : List Value).toArray below meth c H locs 0 0 Q (F0 m 174 ls []) := by
                      intro v49 v50 v51 v52 v53 v54 v55 f56 v57 v58 v59 H locs ls hf hP hD hS hl
                      have hf := (ek117 v49 v50 v51 v52 v53 v54 v55 f56 v57 v58 v59).symm.trans hf
                      obtain ⟨v60, ev60, hf⟩ := q_nm_e hf
                      refine lv_iinc (pc := 174) (v := v60) (lv' := [(10, .int v60), (0, .ref a_x), (5, .int p5), (6, .int p6), (7, .int p7), (8, .int v49), (9, .int v10)]) hx hb dX10_lacks_174 hl (k := 6) rfl (by rw [ev60]; rfl) (by decide) rfl (fun ls hl => ?_)
                      refine lv_goto (pc := 177) (tgt := 94) hx hb dX10_lacks_177 (by decide) ?_
                      exact ih94 v49 v60 v50 v51 v52 v53 v54 v55 f56 v57 v58 v59 _ _ _ hf hP hD hS (lv_sub hl [1, 2, 3, 4, 5, 6, 0] rfl)
                    have LP117 : ∀ (n117 : Nat) (v37 : Int32) (v38 : Int32) (v39 : Int32) (v40 : Int32) (v41 : Int32) (v42 : Int32) (v43 : Int32) (v44 : Int32) (f45 : Nat → Int32) (v46 : Int32) (v47 : Int32) (v48 : Int32) (H : Heap) (locs : List Loc) (ls : Array Slot), f_X_lacks_L117 N g_bandRows g_rows g_sheets g_zoneColumns p5 p6 p7 st_keys st_levels st_size st_years v13 v35 v4 v5 v6 v7 n117 v37 v38 v39 v40 v41 v42 v43 v44 f45 v46 v47 v48 = some o117_ → va_P D vwCl ((a_x, .inr (10, [.ref a_at, .ref a_g, .ref a_st, .ref a_x_kept, .int x_keptStates, .ref a_tp, .ref a_rd, .ref a_qu, .ref a_sp, .ref a_wk, .ref a_bx, .ref a_nt, .ref a_nu, .ref a_x_seen])) :: (a_sp, .inr (6, [.ref a_g, .ref a_sp_first, .ref a_sp_many, .ref a_sp_corner, .int sp_cornerCount, .int v39, .int v40, .int v41, .int v42, .int v43, .int v44])) :: (a_bx, .inr (1, [.ref a_g, .int v4, .int v5, .int v6, .int v7])) :: (a_st, .inr (7, [.ref a_g, .ref a_st_levels, .ref a_st_keys, .ref a_st_years, .ref a_st_keysThere, .int st_size, .int v46, .int v47, .int v48])) :: (a_st_levels, .inl (ci 0, 60, .inl st_levels)) :: (a_st_keys, .inl (ci 0, 60, .inl st_keys)) :: (a_st_years, .inl (ci 0, 60, .inl st_years)) :: (a_st_keysThere, .inl (ci 0, 5, .inl f45)) :: (a_g, .inr (2, [.ref a_g_rowCuts, .ref a_g_columnCuts, .ref a_g_bandRows, .ref a_g_zoneColumns, .ref a_g_rows, .ref a_g_sheets])) :: (a_g_bandRows, .inl (ci 0, 5, .inl g_bandRows)) :: (a_g_zoneColumns, .inl (ci 0, 5, .inl g_zoneColumns)) :: (a_g_rows, .inl (ci 0, 5, .inl g_rows)) :: (a_g_sheets, .inl (ci 0, 5, .inl g_sheets)) :: Rw) H → va_D A ((a_x, .inr (10, [.ref a_at, .ref a_g, .ref a_st, .ref a_x_kept, .int x_keptStates, .ref a_tp, .ref a_rd, .ref a_qu, .ref a_sp, .ref a_wk, .ref a_bx, .ref a_nt, .ref a_nu, .ref a_x_seen])) :: (a_sp, .inr (6, [.ref a_g, .ref a_sp_first, .ref a_sp_many, .ref a_sp_corner, .int sp_cornerCount, .int v39, .int v40, .int v41, .int v42, .int v43, .int v44])) :: (a_bx, .inr (1, [.ref a_g, .int v4, .int v5, .int v6, .int v7])) :: (a_st, .inr (7, [.ref a_g, .ref a_st_levels, .ref a_st_keys, .ref a_st_years, .ref a_st_keysThere, .int st_size, .int v46, .int v47, .int v48])) :: (a_st_levels, .inl (ci 0, 60, .inl st_levels)) :: (a_st_keys, .inl (ci 0, 60, .inl st_keys)) :: (a_st_years, .inl (ci 0, 60, .inl st_years)) :: (a_st_keysThere, .inl (ci 0, 5, .inl f45)) :: (a_g, .inr (2, [.ref a_g_rowCuts, .ref a_g_columnCuts, .ref a_g_bandRows, .ref a_g_zoneColumns, .ref a_g_rows, .ref a_g_sheets])) :: (a_g_bandRows, .inl (ci 0, 5, .inl g_bandRows)) :: (a_g_zoneColumns, .inl (ci 0, 5, .inl g_zoneColumns)) :: (a_g_rows, .inl (ci 0, 5, .inl g_rows)) :: (a_g_sheets, .inl (ci 0, 5, .inl g_sheets)) :: Rw) → va_S A s.heap H locs → lv_has ls 14 [(0, .ref a_x), (5, .int p5), (6, .int p6), (7, .int p7), (8, .int v37), (9, .int v10), (10, .int v13), (11, .int v35), (12, .int v38)] → W p l e ({ frames := 5, cells := 0, slots := 0, locals := 119 } : Room) s m ([.ref a_x, .int p1, .int p2, .int p3, .int p4, .int p5, .int p6, .int p7] : List Value).toArray below meth c H locs 0 0 Q (F0 m 117 ls []) := by
                      intro n117
                      induction n117 with
                      | zero => intro v37 v38 v39 v40 v41 v42 v43 v44 f45 v46 v47 v48 H locs ls hf; rw [f_X_lacks_L117] at hf; cases hf
                      | succ n117 ih117 =>
                        intro v37 v38 v39 v40 v41 v42 v43 v44 f45 v46 v47 v48 H locs ls hf hP hD hS hl
                        rw [f_X_lacks_L117] at hf
                        refine lv_iload (pc := 117) hx hb dX10_lacks_117 (lv_at hl 8 rfl) ?_
                        refine lv_iload (pc := 119) hx hb dX10_lacks_119 (lv_at hl 7 rfl) ?_
                        refine q_icmp_ge (pc := 121) (tgt := 174) hx hb dX10_lacks_121 (by decide) rfl hf (fun hf => ?_) (fun hf => ?_)
                        · obtain rfl := Option.some.inj hf
                          exact JE117 v37 v39 v40 v41 v42 v43 v44 f45 v46 v47 v48 _ _ _ hk117 hP hD hS (lv_sub hl [0, 1, 2, 3, 4, 5, 6] rfl)
                        · refine lv_aload_n (pc := 124) hx hb dX10_lacks_124 rfl (lv_at hl 0 rfl) ?_
                          refine va_get (pc := 125) (D := D) (ci := 10) (v := .ref a_bx) (C := RX10) (T := TX10) (N := 14) hx hb hts hinX10 hown hK hP 0 rfl rfl 10 (by decide) w_1 (fun _ h9 => h9) rfl dX10_lacks_125 ?_
                          refine lv_iload (pc := 128) hx hb dX10_lacks_128 (lv_at hl 1 rfl) ?_
                          refine lv_iload (pc := 130) hx hb dX10_lacks_130 (lv_at hl 6 rfl) ?_
                          refine lv_iload (pc := 132) hx hb dX10_lacks_132 (lv_at hl 8 rfl) ?_
                          obtain ⟨v61, hm134, hf⟩ := q_b1_e hf
                          refine q_cVr (pc := 134) (As := [.int p5, .int v13, .int v38]) (rest := []) (v0 := (some (.int v61))) ⟨hx, hb, hml, hown, hts⟩ hK hA hZ hP hD hS hl.1 [2, 8, 9, 10, 11, 12] 13 rfl ⟨rfl, rfl, rfl⟩ (c_Box_keyFromWest l D ci A sa N (Rw) a_bx a_g a_g_rowCuts a_g_columnCuts a_g_bandRows a_g_zoneColumns a_g_rows a_g_sheets v4 v5 v6 v7 g_bandRows g_zoneColumns g_rows g_sheets p5 v13 v38 v61 hm134) 2 rfl rfl (cwV 3 hts gX10_lacks_X1_keyFromWest rfl rfl rfl (by decide +kernel) ⟨Nat.le_of_ble_eq_true rfl, Nat.le_of_ble_eq_true rfl⟩) rfl rfl (Nat.le_of_ble_eq_true rfl) dX10_lacks_134 ⟨Nat.zero_le _, Nat.zero_le _⟩ (fun locs hS => ?_)
                          refine lv_istore (pc := 137) (lv' := [(13, .int v61), (0, .ref a_x), (5, .int p5), (6, .int p6), (7, .int p7), (8, .int v37), (9, .int v10), (10, .int v13), (11, .int v35), (12, .int v38)]) hx hb dX10_lacks_137 hl (by decide) rfl (fun ls hl => ?_)
                          refine lv_aload_n (pc := 139) hx hb dX10_lacks_139 rfl (lv_at hl 1 rfl) ?_
                          refine lv_iload (pc := 140) hx hb dX10_lacks_140 (lv_at hl 2 rfl) ?_
                          refine lv_iload (pc := 142) hx hb dX10_lacks_142 (lv_at hl 0 rfl) ?_
                          refine lv_iload (pc := 144) hx hb dX10_lacks_144 (lv_at hl 3 rfl) ?_
                          obtain ⟨v62, v63, v64, v65, v66, v67, v68, f69, v70, v71, v72, hm146, hf⟩ := q_b11_e hf
                          refine q_cV (pc := 146) (As := [.int p5, .int v61, .int p6]) (rest := []) (v0 := (some (.int v62))) ⟨hx, hb, hml, hown, hts⟩ hK hA hZ hP hD hS hl.1 [0, 1, 3, 4, 5, 6, 7, 8, 9, 10, 11, 12, 2] 13 rfl ⟨rfl, rfl, rfl⟩ (c_X_isLacking l D ci A sa N ((a_bx, .inr (1, [.ref a_g, .int v4, .int v5, .int v6, .int v7])) :: Rw) a_x a_at a_g a_st a_x_kept a_tp a_rd a_qu a_sp a_wk a_bx a_nt a_nu a_x_seen a_sp_first a_sp_many a_sp_corner a_st_levels a_st_keys a_st_years a_st_keysThere a_g_rowCuts a_g_columnCuts a_g_bandRows a_g_zoneColumns a_g_rows a_g_sheets x_keptStates sp_cornerCount v39 v40 v41 v42 v43 v44 st_size v46 v47 v48 st_levels st_keys st_years f45 g_bandRows g_zoneColumns g_rows g_sheets p5 v61 p6 v62 v63 v64 v65 v66 v67 v68 f69 v70 v71 v72 hm146) 0 rfl rfl (cwV 3 hts gX10_lacks_X10_isLacking rfl rfl rfl (by decide +kernel) ⟨Nat.le_of_ble_eq_true rfl, Nat.le_of_ble_eq_true rfl⟩) rfl rfl (Nat.le_of_ble_eq_true rfl) dX10_lacks_146 ⟨Nat.zero_le _, Nat.zero_le _⟩ [0, 1, 12, 2, 3, 4, 5, 6, 7, 8, 9, 10, 11] 13 rfl ⟨rfl, rfl, rfl⟩ (fun H locs hP hD hS => ?_)
                          obtain ⟨hP, hD⟩ : va_PD D A ((a_x, .inr (10, [.ref a_at, .ref a_g, .ref a_st, .ref a_x_kept, .int x_keptStates, .ref a_tp, .ref a_rd, .ref a_qu, .ref a_sp, .ref a_wk, .ref a_bx, .ref a_nt, .ref a_nu, .ref a_x_seen])) :: (a_sp, .inr (6, [.ref a_g, .ref a_sp_first, .ref a_sp_many, .ref a_sp_corner, .int sp_cornerCount, .int v63, .int v64, .int v65, .int v66, .int v67, .int v68])) :: (a_bx, .inr (1, [.ref a_g, .int v4, .int v5, .int v6, .int v7])) :: (a_st, .inr (7, [.ref a_g, .ref a_st_levels, .ref a_st_keys, .ref a_st_years, .ref a_st_keysThere, .int st_size, .int v70, .int v71, .int v72])) :: (a_st_levels, .inl (ci 0, 60, .inl st_levels)) :: (a_st_keys, .inl (ci 0, 60, .inl st_keys)) :: (a_st_years, .inl (ci 0, 60, .inl st_years)) :: (a_st_keysThere, .inl (ci 0, 5, .inl f69)) :: (a_g, .inr (2, [.ref a_g_rowCuts, .ref a_g_columnCuts, .ref a_g_bandRows, .ref a_g_zoneColumns, .ref a_g_rows, .ref a_g_sheets])) :: (a_g_bandRows, .inl (ci 0, 5, .inl g_bandRows)) :: (a_g_zoneColumns, .inl (ci 0, 5, .inl g_zoneColumns)) :: (a_g_rows, .inl (ci 0, 5, .inl g_rows)) :: (a_g_sheets, .inl (ci 0, 5, .inl g_sheets)) :: Rw) H := ⟨hP, hD⟩
                          obtain ⟨k168, ek168, hf⟩ := q_j1_e hf
                          have J168 : ∀ (v73 : Int32) (H : Heap) (locs : List Loc) (ls : Array Slot), k168 v73 = some o117_ → va_P D vwCl ((a_x, .inr (10, [.ref a_at, .ref a_g, .ref a_st, .ref a_x_kept, .int x_keptStates, .ref a_tp, .ref a_rd, .ref a_qu, .ref a_sp, .ref a_wk, .ref a_bx, .ref a_nt, .ref a_nu, .ref a_x_seen])) :: (a_sp, .inr (6, [.ref a_g, .ref a_sp_first, .ref a_sp_many, .ref a_sp_corner, .int sp_cornerCount, .int v63, .int v64, .int v65, .int v66, .int v67, .int v68])) :: (a_bx, .inr (1, [.ref a_g, .int v4, .int v5, .int v6, .int v7])) :: (a_st, .inr (7, [.ref a_g, .ref a_st_levels, .ref a_st_keys, .ref a_st_years, .ref a_st_keysThere, .int st_size, .int v70, .int v71, .int v72])) :: (a_st_levels, .inl (ci 0, 60, .inl st_levels)) :: (a_st_keys, .inl (ci 0, 60, .inl st_keys)) :: (a_st_years, .inl (ci 0, 60, .inl st_years)) :: (a_st_keysThere, .inl (ci 0, 5, .inl f69)) :: (a_g, .inr (2, [.ref a_g_rowCuts, .ref a_g_columnCuts, .ref a_g_bandRows, .ref a_g_zoneColumns, .ref a_g_rows, .ref a_g_sheets])) :: (a_g_bandRows, .inl (ci 0, 5, .inl g_bandRows)) :: (a_g_zoneColumns, .inl (ci 0, 5, .inl g_zoneColumns)) :: (a_g_rows, .inl (ci 0, 5, .inl g_rows)) :: (a_g_sheets, .inl (ci 0, 5, .inl g_sheets)) :: Rw) H → va_D A ((a_x, .inr (10, [.ref a_at, .ref a_g, .ref a_st, .ref a_x_kept, .int x_keptStates, .ref a_tp, .ref a_rd, .ref a_qu, .ref a_sp, .ref a_wk, .ref a_bx, .ref a_nt, .ref a_nu, .ref a_x_seen])) :: (a_sp, .inr (6, [.ref a_g, .ref a_sp_first, .ref a_sp_many, .ref a_sp_corner, .int sp_cornerCount, .int v63, .int v64, .int v65, .int v66, .int v67, .int v68])) :: (a_bx, .inr (1, [.ref a_g, .int v4, .int v5, .int v6, .int v7])) :: (a_st, .inr (7, [.ref a_g, .ref a_st_levels, .ref a_st_keys, .ref a_st_years, .ref a_st_keysThere, .int st_size, .int v70, .int v71, .int v72])) :: (a_st_levels, .inl (ci 0, 60, .inl st_levels)) :: (a_st_keys, .inl (ci 0, 60, .inl st_keys)) :: (a_st_years, .inl (ci 0, 60, .inl st_years)) :: (a_st_keysThere, .inl (ci 0, 5, .inl f69)) :: (a_g, .inr (2, [.ref a_g_rowCuts, .ref a_g_columnCuts, .ref a_g_bandRows, .ref a_g_zoneColumns, .ref a_g_rows, .ref a_g_sheets])) :: (a_g_bandRows, .inl (ci 0, 5, .inl g_bandRows)) :: (a_g_zoneColumns, .inl (ci 0, 5, .inl g_zoneColumns)) :: (a_g_rows, .inl (ci 0, 5, .inl g_rows)) :: (a_g_sheets, .inl (ci 0, 5, .inl g_sheets)) :: Rw) → va_S A s.heap H locs → lv_has ls 14 [(0, .ref a_x), (5, .int p5), (6, .int p6), (7, .int p7), (8, .int v73), (9, .int v10), (10, .int v13), (11, .int v35), (12, .int v38)] → W p l e ({ frames := 5, cells := 0, slots := 0, locals := 119 } : Room) s m ([.ref a_x, .int p1, .int p2, .int p3, .int p4, .int p5, .int p6, .int p7] : List Value).toArray below meth c H locs 0 0 Q (F0 m 168 ls []) := by
                            intro v73 H locs ls hf hP hD hS hl
                            have hf := (ek168 v73).symm.trans hf
                            obtain ⟨v74, ev74, hf⟩ := q_nm_e hf
                            refine lv_iinc (pc := 168) (v := v74) (lv' := [(12, .int v74), (0, .ref a_x), (5, .int p5), (6, .int p6), (7, .int p7), (8, .int v73), (9, .int v10), (10, .int v13), (11, .int v35)]) hx hb dX10_lacks_168 hl (k := 8) rfl (by rw [ev74]; rfl) (by decide) rfl (fun ls hl => ?_)
                            refine lv_goto (pc := 171) (tgt := 117) hx hb dX10_lacks_171 (by decide) ?_
                            exact ih117 v73 v74 v63 v64 v65 v66 v67 v68 f69 v70 v71 v72 _ _ _ hf hP hD hS (lv_sub hl [1, 2, 3, 4, 5, 6, 7, 8, 0] rfl)
                          refine q_if_ne (pc := 149) (tgt := 155) hx hb dX10_lacks_149 (by decide) rfl hf (fun hf => ?_) (fun hf => ?_)
                          · refine lv_iload (pc := 155) hx hb dX10_lacks_155 (lv_at hl 5 rfl) ?_
                            refine lv_iload (pc := 157) hx hb dX10_lacks_157 (lv_at hl 4 rfl) ?_
                            refine q_icmp_ne (pc := 159) (tgt := 165) hx hb dX10_lacks_159 (by decide) rfl hf (fun hf => ?_) (fun hf => ?_)
                            · obtain ⟨v75, ev75, hf⟩ := q_nm_e hf
                              refine lv_iinc (pc := 165) (v := v75) (lv' := [(8, .int v75), (13, .int v61), (0, .ref a_x), (5, .int p5), (6, .int p6), (7, .int p7), (9, .int v10), (10, .int v13), (11, .int v35), (12, .int v38)]) hx hb dX10_lacks_165 hl (k := 5) rfl (by rw [ev75]; rfl) (by decide) rfl (fun ls hl => ?_)
                              exact J168 v75 _ _ _ hf hP hD hS (lv_sub hl [2, 3, 4, 5, 0, 6, 7, 8, 9] rfl)
                            · refine lv_iload (pc := 162) hx hb dX10_lacks_162 (lv_at hl 0 rfl) ?_
                              obtain rfl := Option.some.inj hf
                              have hk117 : ((.inr (v61, v63, v64, v65, v66, v67, v68, v4, v5, v6, v7, f69, v70, v71, v72)) : (Int32 × Int32 × Int32 × Int32 × Int32 × Int32 × Int32 × (Nat → Int32) × Int32 × Int32 × Int32) ⊕ (Int32 × Int32 × Int32 × Int32 × Int32 × Int32 × Int32 × Int32 × Int32 × Int32 × Int32 × (Nat → Int32) × Int32 × Int32 × Int32)) = o94_ := hk117
                              obtain rfl := hk117
                              have hk94 : ((v61, v63, v64, v65, v66, v67, v68, v4, v5, v6, v7, f69, v70, v71, v72) : Int32 × Int32 × Int32 × Int32 × Int32 × Int32 × Int32 × Int32 × Int32 × Int32 × Int32 × (Nat → Int32) × Int32 × Int32 × Int32) = (r, o1, o2, o3, o4, o5, o6, o7, o8, o9, o10, o11, o12, o13, o14) := hk94
                              obtain ⟨e90, e91, e92, e93, e94, e95, e96, e97, e98, e99, e910, e911, e912, e913, e914⟩ := q_inj15 (hk94)
                              rw [hQ, ← e90, ← e91, ← e92, ← e93, ← e94, ← e95, ← e96, ← e97, ← e98, ← e99, ← e910, ← e911, ← e912, ← e913, ← e914]
                              exact q_iret (pc := 164) hx hb hr hlocks hP hD hS dX10_lacks_164
                          · refine lv_goto (pc := 152) (tgt := 168) hx hb dX10_lacks_152 (by decide) ?_
                            exact J168 v37 _ _ _ hf hP hD hS (lv_sub hl [1, 2, 3, 4, 5, 6, 7, 8, 9] rfl)
                    exact LP117 N v12 v36 v14 v15 v16 v17 v18 v19 f20 v21 v22 v23 _ _ _ hm117 hP hD hS (lv_sub hl [2, 3, 4, 5, 6, 7, 8, 1, 0] rfl)
              exact LP94 N v9 v11 sp_level sp_row sp_start sp_place sp_length sp_cap st_keysThere st_shownBy st_deepestShown st_latestShown _ _ _ hm94 hP hD hS (lv_sub hl [3, 8, 9, 10, 2, 1, 0] rfl)
            · refine lv_bipush (pc := 66) (v := (-2)) hx hb dX10_lacks_66 (by decide) ?_
              obtain ⟨e90, e91, e92, e93, e94, e95, e96, e97, e98, e99, e910, e911, e912, e913, e914⟩ := q_inj15 (Option.some.inj hf)
              rw [hQ, ← e90, ← e91, ← e92, ← e93, ← e94, ← e95, ← e96, ← e97, ← e98, ← e99, ← e910, ← e911, ← e912, ← e913, ← e914]
              exact q_iret (pc := 68) hx hb hr hlocks hP hD hS dX10_lacks_68
          · refine lv_iconst (pc := 37) (v := (-1)) hx hb dX10_lacks_37 (by decide) ?_
            obtain ⟨e90, e91, e92, e93, e94, e95, e96, e97, e98, e99, e910, e911, e912, e913, e914⟩ := q_inj15 (Option.some.inj hf)
            rw [hQ, ← e90, ← e91, ← e92, ← e93, ← e94, ← e95, ← e96, ← e97, ← e98, ← e99, ← e910, ← e911, ← e912, ← e913, ← e914]
            exact q_iret (pc := 38) hx hb hr hlocks hP hD hS dX10_lacks_38
  exact hgo _ _ rfl hP hS
/-! X10_level -/
set_option maxRecDepth 100000 in
set_option maxHeartbeats 4000000 in
theorem c_X_level (l : Launch) (D : va_G) (ci : Nat → ClassId) (A : Nat → Prop) (sa : Nat → Nat) (N : Nat) (Rw : va_W) (a_x : Nat) (a_at : Nat) (a_g : Nat) (a_st : Nat) (a_x_kept : Nat) (a_tp : Nat) (a_rd : Nat) (a_qu : Nat) (a_sp : Nat) (a_wk : Nat) (a_bx : Nat) (a_nt : Nat) (a_nu : Nat) (a_x_seen : Nat) (a_g_rowCuts : Nat) (a_g_columnCuts : Nat) (a_g_bandRows : Nat) (a_g_zoneColumns : Nat) (a_g_rows : Nat) (a_g_sheets : Nat) (x_keptStates : Int32) (g_rowCuts : Nat → Int32) (g_columnCuts : Nat → Int32) (g_bandRows : Nat → Int32) (g_zoneColumns : Nat → Int32) (g_rows : Nat → Int32) (g_sheets : Nat → Int32) (p1 : Int32) (p2 : Int32) (r : Int32) (hf : f_X_level g_rowCuts g_columnCuts g_bandRows g_zoneColumns g_rows g_sheets p1 p2 = some r) : Met l yX10_level wsX10_level ({ frames := 1, cells := 0, slots := 0, locals := 20 }) (va_Pc [.ref a_x, .int p1, .int p2] (q_N D ci A sa ((a_x, .inr (10, [.ref a_at, .ref a_g, .ref a_st, .ref a_x_kept, .int x_keptStates, .ref a_tp, .ref a_rd, .ref a_qu, .ref a_sp, .ref a_wk, .ref a_bx, .ref a_nt, .ref a_nu, .ref a_x_seen])) :: (a_g, .inr (2, [.ref a_g_rowCuts, .ref a_g_columnCuts, .ref a_g_bandRows, .ref a_g_zoneColumns, .ref a_g_rows, .ref a_g_sheets])) :: (a_g_rowCuts, .inl (ci 0, 5, .inl g_rowCuts)) :: (a_g_columnCuts, .inl (ci 0, 5, .inl g_columnCuts)) :: (a_g_bandRows, .inl (ci 0, 5, .inl g_bandRows)) :: (a_g_zoneColumns, .inl (ci 0, 5, .inl g_zoneColumns)) :: (a_g_rows, .inl (ci 0, 5, .inl g_rows)) :: (a_g_sheets, .inl (ci 0, 5, .inl g_sheets)) :: Rw))) (q_R (some (.int r))) 0 0 A := by
  refine q_ofW (cc := cX10_level) (maxL := 3) (ret := (some .int)) [.ref a_x, .int p1, .int p2] (plainFor_of_name (by decide)) rfl (Nat.le_of_ble_eq_true rfl) ?_
  intro p e s m below meth c ls Q hQ hx hb hml hr hts hown hlocks hK hA hZ hP hD hS hl
  have hl : lv_has ls 3 [(0, .ref a_x), (1, .int p1), (2, .int p2)] := hl
  have hown : s.vm.findClass RX10 = some m.cls := hown
  have hinX10 : ∀ w ∈ wsX100, w ∈ wsX10_level := fun _ h => List.mem_cons_of_mem _ (inWX100 _ h)
  have hinX2 : ∀ w ∈ wsX20, w ∈ wsX10_level := fun _ h => List.mem_cons_of_mem _ (inWX20 _ h)
  have w_1 := hts (Cond.fieldLink RX10 20 "SheetNames" "grid" "LSheetNames$Grid;") (List.mem_cons_of_mem _ t_w876)
  have wn_1 : (Cond.fieldLinkNest "SheetNames" 126 "SheetNames$Grid" "sheets" "[I" "SheetNames").before ([.ref a_x, .int p1, .int p2] : List Value).toArray s = true := (hZ.2.2.2.2.2.2.2.2.2.1 _ (List.mem_of_getElem? (i := 1) rfl)).use rfl
  have wn_2 : (Cond.fieldLinkNest "SheetNames" 133 "SheetNames$Grid" "rows" "[I" "SheetNames").before ([.ref a_x, .int p1, .int p2] : List Value).toArray s = true := (hZ.2.2.2.2.2.2.2.2.2.1 _ (List.mem_of_getElem? (i := 2) rfl)).use rfl
  have wn_3 : (Cond.fieldLinkNest "SheetNames" 136 "SheetNames$Grid" "rowCuts" "[I" "SheetNames").before ([.ref a_x, .int p1, .int p2] : List Value).toArray s = true := (hZ.2.2.2.2.2.2.2.2.2.1 _ (List.mem_of_getElem? (i := 3) rfl)).use rfl
  have wn_4 : (Cond.fieldLinkNest "SheetNames" 139 "SheetNames$Grid" "columnCuts" "[I" "SheetNames").before ([.ref a_x, .int p1, .int p2] : List Value).toArray s = true := (hZ.2.2.2.2.2.2.2.2.2.1 _ (List.mem_of_getElem? (i := 4) rfl)).use rfl
  have wn_5 : (Cond.fieldLinkNest "SheetNames" 142 "SheetNames$Grid" "bandRows" "[I" "SheetNames").before ([.ref a_x, .int p1, .int p2] : List Value).toArray s = true := (hZ.2.2.2.2.2.2.2.2.2.1 _ (List.mem_of_getElem? (i := 5) rfl)).use rfl
  have wn_6 : (Cond.fieldLinkNest "SheetNames" 145 "SheetNames$Grid" "zoneColumns" "[I" "SheetNames").before ([.ref a_x, .int p1, .int p2] : List Value).toArray s = true := (hZ.2.2.2.2.2.2.2.2.2.1 _ (List.mem_of_getElem? (i := 6) rfl)).use rfl
  unfold f_X_level at hf
  have hgo : ∀ (H : Heap) (locs : List Loc), H = s.heap → va_P D vwCl ((a_x, .inr (10, [.ref a_at, .ref a_g, .ref a_st, .ref a_x_kept, .int x_keptStates, .ref a_tp, .ref a_rd, .ref a_qu, .ref a_sp, .ref a_wk, .ref a_bx, .ref a_nt, .ref a_nu, .ref a_x_seen])) :: (a_g, .inr (2, [.ref a_g_rowCuts, .ref a_g_columnCuts, .ref a_g_bandRows, .ref a_g_zoneColumns, .ref a_g_rows, .ref a_g_sheets])) :: (a_g_rowCuts, .inl (ci 0, 5, .inl g_rowCuts)) :: (a_g_columnCuts, .inl (ci 0, 5, .inl g_columnCuts)) :: (a_g_bandRows, .inl (ci 0, 5, .inl g_bandRows)) :: (a_g_zoneColumns, .inl (ci 0, 5, .inl g_zoneColumns)) :: (a_g_rows, .inl (ci 0, 5, .inl g_rows)) :: (a_g_sheets, .inl (ci 0, 5, .inl g_sheets)) :: Rw) H → va_S A s.heap H locs → W p l e ({ frames := 1, cells := 0, slots := 0, locals := 20 } : Room) s m ([.ref a_x, .int p1, .int p2] : List Value).toArray below meth c H locs 0 0 Q (F0 m 0 ls []) := by
    intro H locs hH hP hS
    subst hH
    refine lv_iload_n (pc := 0) hx hb dX10_level_0 rfl (lv_at hl 1 rfl) ?_
    obtain ⟨v1, hm1, hf⟩ := q_b1_e hf
    refine q_cSr (pc := 1) (As := [.int p1]) (rest := []) (v0 := (some (.int v1))) ⟨hx, hb, hml, hown, hts⟩ hK hA hZ hP hD hS hl.1 [] 8 rfl ⟨rfl, rfl, rfl⟩ (c_X_isLevel l D ci A sa N (Rw) p1 v1 hm1) (va_cwS 1 hts gX10_level_X10_isLevel rfl rfl rfl (by decide +kernel) ⟨Nat.le_of_ble_eq_true rfl, Nat.le_of_ble_eq_true rfl⟩) rfl rfl (Nat.le_of_ble_eq_true rfl) dX10_level_1 ⟨Nat.zero_le _, Nat.zero_le _⟩ (fun locs hS => ?_)
    refine q_if_ne (pc := 4) (tgt := 9) hx hb dX10_level_4 (by decide) rfl hf (fun hf => ?_) (fun hf => ?_)
    · refine lv_iload_n (pc := 9) hx hb dX10_level_9 rfl (lv_at hl 2 rfl) ?_
      rcases q_if_e hf with ⟨hc0, hf⟩ | ⟨hc0, hf⟩
      · refine lv_tableIn (pc := 10) (tgt := 48) (off := 38) hx hb dX10_level_10 (by rw [hc0]; decide) (by rw [hc0]; decide) (by rw [hc0]; decide) (by decide) ?_
        refine lv_aload_n (pc := 48) hx hb dX10_level_48 rfl (lv_at hl 0 rfl) ?_
        refine va_get (pc := 49) (D := D) (ci := 10) (v := .ref a_g) (C := RX10) (T := TX10) (N := 14) hx hb hts hinX10 hown hK hP 0 rfl rfl 1 (by decide) w_1 (fun _ h9 => h9) rfl dX10_level_49 ?_
        refine va_getN (pc := 52) (D := D) (ci := 2) (v := .ref a_g_sheets) (C := RX2) (T := TX2) (N := 6) hx hb hts hinX2 hown hK hP 1 rfl rfl 5 (by decide) wn_1 (fun _ h9 => h9) rfl dX10_level_52 ?_
        refine lv_iload_n (pc := 55) hx hb dX10_level_55 rfl (lv_at hl 1 rfl) ?_
        refine q_iald (pc := 56) hx hb hK hP 7 0 hf rfl rfl dX10_level_56 (fun v2 hf => ?_)
        obtain rfl := Option.some.inj hf
        rw [hQ]
        exact q_iretr (pc := 57) hx hb hr hlocks rfl hS dX10_level_57
      rcases q_if_e hf with ⟨hc1, hf⟩ | ⟨hc1, hf⟩
      · refine lv_tableIn (pc := 10) (tgt := 58) (off := 48) hx hb dX10_level_10 (by rw [hc1]; decide) (by rw [hc1]; decide) (by rw [hc1]; decide) (by decide) ?_
        refine lv_aload_n (pc := 58) hx hb dX10_level_58 rfl (lv_at hl 0 rfl) ?_
        refine va_get (pc := 59) (D := D) (ci := 10) (v := .ref a_g) (C := RX10) (T := TX10) (N := 14) hx hb hts hinX10 hown hK hP 0 rfl rfl 1 (by decide) w_1 (fun _ h9 => h9) rfl dX10_level_59 ?_
        refine va_getN (pc := 62) (D := D) (ci := 2) (v := .ref a_g_rows) (C := RX2) (T := TX2) (N := 6) hx hb hts hinX2 hown hK hP 1 rfl rfl 4 (by decide) wn_2 (fun _ h9 => h9) rfl dX10_level_62 ?_
        refine lv_iload_n (pc := 65) hx hb dX10_level_65 rfl (lv_at hl 1 rfl) ?_
        refine q_iald (pc := 66) hx hb hK hP 6 0 hf rfl rfl dX10_level_66 (fun v3 hf => ?_)
        obtain rfl := Option.some.inj hf
        rw [hQ]
        exact q_iretr (pc := 67) hx hb hr hlocks rfl hS dX10_level_67
      rcases q_if_e hf with ⟨hc2, hf⟩ | ⟨hc2, hf⟩
      · refine lv_tableIn (pc := 10) (tgt := 68) (off := 58) hx hb dX10_level_10 (by rw [hc2]; decide) (by rw [hc2]; decide) (by rw [hc2]; decide) (by decide) ?_
        refine lv_aload_n (pc := 68) hx hb dX10_level_68 rfl (lv_at hl 0 rfl) ?_
        refine va_get (pc := 69) (D := D) (ci := 10) (v := .ref a_g) (C := RX10) (T := TX10) (N := 14) hx hb hts hinX10 hown hK hP 0 rfl rfl 1 (by decide) w_1 (fun _ h9 => h9) rfl dX10_level_69 ?_
        refine va_getN (pc := 72) (D := D) (ci := 2) (v := .ref a_g_rowCuts) (C := RX2) (T := TX2) (N := 6) hx hb hts hinX2 hown hK hP 1 rfl rfl 0 (by decide) wn_3 (fun _ h9 => h9) rfl dX10_level_72 ?_
        refine lv_iload_n (pc := 75) hx hb dX10_level_75 rfl (lv_at hl 1 rfl) ?_
        refine q_iald (pc := 76) hx hb hK hP 2 0 hf rfl rfl dX10_level_76 (fun v4 hf => ?_)
        obtain rfl := Option.some.inj hf
        rw [hQ]
        exact q_iretr (pc := 77) hx hb hr hlocks rfl hS dX10_level_77
      rcases q_if_e hf with ⟨hc3, hf⟩ | ⟨hc3, hf⟩
      · refine lv_tableIn (pc := 10) (tgt := 78) (off := 68) hx hb dX10_level_10 (by rw [hc3]; decide) (by rw [hc3]; decide) (by rw [hc3]; decide) (by decide) ?_
        refine lv_aload_n (pc := 78) hx hb dX10_level_78 rfl (lv_at hl 0 rfl) ?_
        refine va_get (pc := 79) (D := D) (ci := 10) (v := .ref a_g) (C := RX10) (T := TX10) (N := 14) hx hb hts hinX10 hown hK hP 0 rfl rfl 1 (by decide) w_1 (fun _ h9 => h9) rfl dX10_level_79 ?_
        refine va_getN (pc := 82) (D := D) (ci := 2) (v := .ref a_g_columnCuts) (C := RX2) (T := TX2) (N := 6) hx hb hts hinX2 hown hK hP 1 rfl rfl 1 (by decide) wn_4 (fun _ h9 => h9) rfl dX10_level_82 ?_
        refine lv_iload_n (pc := 85) hx hb dX10_level_85 rfl (lv_at hl 1 rfl) ?_
        refine q_iald (pc := 86) hx hb hK hP 3 0 hf rfl rfl dX10_level_86 (fun v5 hf => ?_)
        obtain rfl := Option.some.inj hf
        rw [hQ]
        exact q_iretr (pc := 87) hx hb hr hlocks rfl hS dX10_level_87
      rcases q_if_e hf with ⟨hc4, hf⟩ | ⟨hc4, hf⟩
      · refine lv_tableIn (pc := 10) (tgt := 88) (off := 78) hx hb dX10_level_10 (by rw [hc4]; decide) (by rw [hc4]; decide) (by rw [hc4]; decide) (by decide) ?_
        refine lv_aload_n (pc := 88) hx hb dX10_level_88 rfl (lv_at hl 0 rfl) ?_
        refine va_get (pc := 89) (D := D) (ci := 10) (v := .ref a_g) (C := RX10) (T := TX10) (N := 14) hx hb hts hinX10 hown hK hP 0 rfl rfl 1 (by decide) w_1 (fun _ h9 => h9) rfl dX10_level_89 ?_
        refine va_getN (pc := 92) (D := D) (ci := 2) (v := .ref a_g_bandRows) (C := RX2) (T := TX2) (N := 6) hx hb hts hinX2 hown hK hP 1 rfl rfl 2 (by decide) wn_5 (fun _ h9 => h9) rfl dX10_level_92 ?_
        refine lv_iload_n (pc := 95) hx hb dX10_level_95 rfl (lv_at hl 1 rfl) ?_
        refine q_iald (pc := 96) hx hb hK hP 4 0 hf rfl rfl dX10_level_96 (fun v6 hf => ?_)
        obtain rfl := Option.some.inj hf
        rw [hQ]
        exact q_iretr (pc := 97) hx hb hr hlocks rfl hS dX10_level_97
      rcases q_if_e hf with ⟨hc5, hf⟩ | ⟨hc5, hf⟩
      · refine lv_tableIn (pc := 10) (tgt := 98) (off := 88) hx hb dX10_level_10 (by rw [hc5]; decide) (by rw [hc5]; decide) (by rw [hc5]; decide) (by decide) ?_
        refine lv_aload_n (pc := 98) hx hb dX10_level_98 rfl (lv_at hl 0 rfl) ?_
        refine va_get (pc := 99) (D := D) (ci := 10) (v := .ref a_g) (C := RX10) (T := TX10) (N := 14) hx hb hts hinX10 hown hK hP 0 rfl rfl 1 (by decide) w_1 (fun _ h9 => h9) rfl dX10_level_99 ?_
        refine va_getN (pc := 102) (D := D) (ci := 2) (v := .ref a_g_zoneColumns) (C := RX2) (T := TX2) (N := 6) hx hb hts hinX2 hown hK hP 1 rfl rfl 3 (by decide) wn_6 (fun _ h9 => h9) rfl dX10_level_102 ?_
        refine lv_iload_n (pc := 105) hx hb dX10_level_105 rfl (lv_at hl 1 rfl) ?_
        refine q_iald (pc := 106) hx hb hK hP 5 0 hf rfl rfl dX10_level_106 (fun v7 hf => ?_)
        obtain rfl := Option.some.inj hf
        rw [hQ]
        exact q_iretr (pc := 107) hx hb hr hlocks rfl hS dX10_level_107
      have hsw : p2.toInt < 0 ∨ 5 < p2.toInt := by
        have hd0 := q_nei hc0; have hd1 := q_nei hc1; have hd2 := q_nei hc2; have hd3 := q_nei hc3; have hd4 := q_nei hc4; have hd5 := q_nei hc5
        rw [show (0 : Int32).toInt = 0 from rfl] at hd0; rw [show (1 : Int32).toInt = 1 from rfl] at hd1; rw [show (2 : Int32).toInt = 2 from rfl] at hd2; rw [show (3 : Int32).toInt = 3 from rfl] at hd3; rw [show (4 : Int32).toInt = 4 from rfl] at hd4; rw [show (5 : Int32).toInt = 5 from rfl] at hd5
        omega
      refine lv_tableOut (pc := 10) (tgt := 108) hx hb dX10_level_10 hsw (by decide) ?_
      refine lv_iconst (pc := 108) (v := (-1)) hx hb dX10_level_108 (by decide) ?_
      obtain rfl := Option.some.inj hf
      rw [hQ]
      exact q_iretr (pc := 109) hx hb hr hlocks rfl hS dX10_level_109
    · refine lv_iconst (pc := 7) (v := (-1)) hx hb dX10_level_7 (by decide) ?_
      obtain rfl := Option.some.inj hf
      rw [hQ]
      exact q_iretr (pc := 8) hx hb hr hlocks rfl hS dX10_level_8
  exact hgo _ _ rfl hP hS
/-! X10_middle -/
set_option maxRecDepth 100000 in
set_option maxHeartbeats 4000000 in
theorem c_X_middle (l : Launch) (D : va_G) (ci : Nat → ClassId) (A : Nat → Prop) (sa : Nat → Nat) (N : Nat) (Rw : va_W) (a_x : Nat) (a_at : Nat) (a_g : Nat) (a_st : Nat) (a_x_kept : Nat) (a_tp : Nat) (a_rd : Nat) (a_qu : Nat) (a_sp : Nat) (a_wk : Nat) (a_bx : Nat) (a_nt : Nat) (a_nu : Nat) (a_x_seen : Nat) (a_sp_first : Nat) (a_sp_many : Nat) (a_sp_corner : Nat) (a_g_rowCuts : Nat) (a_g_columnCuts : Nat) (a_g_bandRows : Nat) (a_g_zoneColumns : Nat) (a_g_rows : Nat) (a_g_sheets : Nat) (x_keptStates : Int32) (sp_cornerCount : Int32) (sp_level : Int32) (sp_row : Int32) (sp_start : Int32) (sp_place : Int32) (sp_length : Int32) (sp_cap : Int32) (g_bandRows : Nat → Int32) (g_zoneColumns : Nat → Int32) (g_rows : Nat → Int32) (g_sheets : Nat → Int32) (p1 : Int32) (p2 : Int32) (p3 : Int32) (r : Int32) (o1 : Int32) (o2 : Int32) (o3 : Int32) (o4 : Int32) (o5 : Int32) (o6 : Int32) (hf : f_X_middle N sp_level sp_row sp_start sp_place sp_length sp_cap g_bandRows g_zoneColumns g_rows g_sheets p1 p2 p3 = some (r, o1, o2, o3, o4, o5, o6)) : Met l yX10_middle wsX10_middle ({ frames := 3, cells := 0, slots := 0, locals := 71 }) (va_Pc [.ref a_x, .int p1, .int p2, .int p3] (q_N D ci A sa ((a_x, .inr (10, [.ref a_at, .ref a_g, .ref a_st, .ref a_x_kept, .int x_keptStates, .ref a_tp, .ref a_rd, .ref a_qu, .ref a_sp, .ref a_wk, .ref a_bx, .ref a_nt, .ref a_nu, .ref a_x_seen])) :: (a_sp, .inr (6, [.ref a_g, .ref a_sp_first, .ref a_sp_many, .ref a_sp_corner, .int sp_cornerCount, .int sp_level, .int sp_row, .int sp_start, .int sp_place, .int sp_length, .int sp_cap])) :: (a_g, .inr (2, [.ref a_g_rowCuts, .ref a_g_columnCuts, .ref a_g_bandRows, .ref a_g_zoneColumns, .ref a_g_rows, .ref a_g_sheets])) :: (a_g_bandRows, .inl (ci 0, 5, .inl g_bandRows)) :: (a_g_zoneColumns, .inl (ci 0, 5, .inl g_zoneColumns)) :: (a_g_rows, .inl (ci 0, 5, .inl g_rows)) :: (a_g_sheets, .inl (ci 0, 5, .inl g_sheets)) :: Rw))) (q_Q (some (.int r)) (q_O D A ((a_x, .inr (10, [.ref a_at, .ref a_g, .ref a_st, .ref a_x_kept, .int x_keptStates, .ref a_tp, .ref a_rd, .ref a_qu, .ref a_sp, .ref a_wk, .ref a_bx, .ref a_nt, .ref a_nu, .ref a_x_seen])) :: (a_sp, .inr (6, [.ref a_g, .ref a_sp_first, .ref a_sp_many, .ref a_sp_corner, .int sp_cornerCount, .int o1, .int o2, .int o3, .int o4, .int o5, .int o6])) :: (a_g, .inr (2, [.ref a_g_rowCuts, .ref a_g_columnCuts, .ref a_g_bandRows, .ref a_g_zoneColumns, .ref a_g_rows, .ref a_g_sheets])) :: (a_g_bandRows, .inl (ci 0, 5, .inl g_bandRows)) :: (a_g_zoneColumns, .inl (ci 0, 5, .inl g_zoneColumns)) :: (a_g_rows, .inl (ci 0, 5, .inl g_rows)) :: (a_g_sheets, .inl (ci 0, 5, .inl g_sheets)) :: Rw)) A) 0 0 A := by
  refine q_ofW (cc := cX10_middle) (maxL := 4) (ret := (some .int)) [.ref a_x, .int p1, .int p2, .int p3] (plainFor_of_name (by decide)) rfl (Nat.le_of_ble_eq_true rfl) ?_
  intro p e s m below meth c ls Q hQ hx hb hml hr hts hown hlocks hK hA hZ hP hD hS hl
  have hl : lv_has ls 4 [(0, .ref a_x), (1, .int p1), (2, .int p2), (3, .int p3)] := hl
  have hown : s.vm.findClass RX10 = some m.cls := hown
  have hinX10 : ∀ w ∈ wsX100, w ∈ wsX10_middle := fun _ h => List.mem_cons_of_mem _ (inWX100 _ h)
  have w_1 := hts (Cond.fieldLink RX10 20 "SheetNames" "grid" "LSheetNames$Grid;") (List.mem_cons_of_mem _ t_w876)
  have w_2 := hts (Cond.constant RX10 207 (-1000000)) (List.mem_cons_of_mem _ t_w886)
  have w_3 := hts (Cond.fieldLink RX10 66 "SheetNames" "spot" "LSheetNames$Spot;") (List.mem_cons_of_mem _ t_w877)
  unfold f_X_middle at hf
  have hgo : ∀ (H : Heap) (locs : List Loc), H = s.heap → va_P D vwCl ((a_x, .inr (10, [.ref a_at, .ref a_g, .ref a_st, .ref a_x_kept, .int x_keptStates, .ref a_tp, .ref a_rd, .ref a_qu, .ref a_sp, .ref a_wk, .ref a_bx, .ref a_nt, .ref a_nu, .ref a_x_seen])) :: (a_sp, .inr (6, [.ref a_g, .ref a_sp_first, .ref a_sp_many, .ref a_sp_corner, .int sp_cornerCount, .int sp_level, .int sp_row, .int sp_start, .int sp_place, .int sp_length, .int sp_cap])) :: (a_g, .inr (2, [.ref a_g_rowCuts, .ref a_g_columnCuts, .ref a_g_bandRows, .ref a_g_zoneColumns, .ref a_g_rows, .ref a_g_sheets])) :: (a_g_bandRows, .inl (ci 0, 5, .inl g_bandRows)) :: (a_g_zoneColumns, .inl (ci 0, 5, .inl g_zoneColumns)) :: (a_g_rows, .inl (ci 0, 5, .inl g_rows)) :: (a_g_sheets, .inl (ci 0, 5, .inl g_sheets)) :: Rw) H → va_S A s.heap H locs → W p l e ({ frames := 3, cells := 0, slots := 0, locals := 71 } : Room) s m ([.ref a_x, .int p1, .int p2, .int p3] : List Value).toArray below meth c H locs 0 0 Q (F0 m 0 ls []) := by
    intro H locs hH hP hS
    refine lv_aload_n (pc := 0) hx hb dX10_middle_0 rfl (lv_at hl 0 rfl) ?_
    refine va_get (pc := 1) (D := D) (ci := 10) (v := .ref a_g) (C := RX10) (T := TX10) (N := 14) hx hb hts hinX10 hown hK hP 0 rfl rfl 1 (by decide) w_1 (fun _ h9 => h9) rfl dX10_middle_1 ?_
    refine lv_iload_n (pc := 4) hx hb dX10_middle_4 rfl (lv_at hl 1 rfl) ?_
    refine lv_iload_n (pc := 5) hx hb dX10_middle_5 rfl (lv_at hl 2 rfl) ?_
    obtain ⟨v1, hm6, hf⟩ := q_b1_e hf
    refine q_cVr (pc := 6) (As := [.int p1, .int p2]) (rest := []) (v0 := (some (.int v1))) ⟨hx, hb, hml, hown, hts⟩ hK hA hZ hP hD hS hl.1 [2, 6] 7 rfl ⟨rfl, rfl, rfl⟩ (c_Grid_hasSheet l D ci A sa N (Rw) a_g a_g_rowCuts a_g_columnCuts a_g_bandRows a_g_zoneColumns a_g_rows a_g_sheets g_sheets p1 p2 v1 hm6) 2 rfl rfl (cwV 2 hts gX10_middle_X2_hasSheet rfl rfl rfl (by decide +kernel) ⟨Nat.le_of_ble_eq_true rfl, Nat.le_of_ble_eq_true rfl⟩) rfl rfl (Nat.le_of_ble_eq_true rfl) dX10_middle_6 ⟨Nat.zero_le _, Nat.zero_le _⟩ (fun locs hS => ?_)
    refine q_if_eq (pc := 9) (tgt := 21) hx hb dX10_middle_9 (by decide) rfl hf (fun hf => ?_) (fun hf => ?_)
    · refine lv_ldc (pc := 21) (v := (-1000000)) hx hb hown w_2 dX10_middle_21 ?_
      obtain ⟨e90, e91, e92, e93, e94, e95, e96⟩ := q_inj7 (Option.some.inj hf)
      rw [hQ, ← e90, ← e91, ← e92, ← e93, ← e94, ← e95, ← e96]
      exact q_iret (pc := 23) hx hb hr hlocks hP hD hS dX10_middle_23
    · refine lv_iload_n (pc := 12) hx hb dX10_middle_12 rfl (lv_at hl 3 rfl) ?_
      refine lv_iconst (pc := 13) (v := 0) hx hb dX10_middle_13 (by decide) ?_
      refine lv_iconst (pc := 14) (v := 1) hx hb dX10_middle_14 (by decide) ?_
      obtain ⟨v2, hm15, hf⟩ := q_b1_e hf
      refine q_cSr (pc := 15) (As := [.int p3, .int 0, .int 1]) (rest := []) (v0 := (some (.int v2))) ⟨hx, hb, hml, hown, hts⟩ hK hA hZ hP hD hS hl.1 [] 7 rfl ⟨rfl, rfl, rfl⟩ (c_X_isFrom l D ci A sa N (Rw) p3 0 1 v2 hm15) (va_cwS 3 hts gX10_middle_X10_isFrom rfl rfl rfl (by decide +kernel) ⟨Nat.le_of_ble_eq_true rfl, Nat.le_of_ble_eq_true rfl⟩) rfl rfl (Nat.le_of_ble_eq_true rfl) dX10_middle_15 ⟨Nat.zero_le _, Nat.zero_le _⟩ (fun locs hS => ?_)
      refine q_if_ne (pc := 18) (tgt := 24) hx hb dX10_middle_18 (by decide) rfl hf (fun hf => ?_) (fun hf => ?_)
      · refine lv_aload_n (pc := 24) hx hb dX10_middle_24 rfl (lv_at hl 0 rfl) ?_
        refine va_get (pc := 25) (D := D) (ci := 10) (v := .ref a_sp) (C := RX10) (T := TX10) (N := 14) hx hb hts hinX10 hown hK hP 0 rfl rfl 8 (by decide) w_3 (fun _ h9 => h9) rfl dX10_middle_25 ?_
        refine lv_iload_n (pc := 28) hx hb dX10_middle_28 rfl (lv_at hl 1 rfl) ?_
        refine lv_iload_n (pc := 29) hx hb dX10_middle_29 rfl (lv_at hl 2 rfl) ?_
        obtain ⟨v3, v4, v5, v6, v7, v8, hm30, hf⟩ := q_b6_e hf
        refine q_cV (pc := 30) (As := [.int p1, .int p2]) (rest := []) (v0 := none) ⟨hx, hb, hml, hown, hts⟩ hK hA hZ hP hD hS hl.1 [1, 2, 3, 4, 5, 6, 0] 7 rfl ⟨rfl, rfl, rfl⟩ (c_Spot_put l D ci A sa N ((a_x, .inr (10, [.ref a_at, .ref a_g, .ref a_st, .ref a_x_kept, .int x_keptStates, .ref a_tp, .ref a_rd, .ref a_qu, .ref a_sp, .ref a_wk, .ref a_bx, .ref a_nt, .ref a_nu, .ref a_x_seen])) :: Rw) a_sp a_g a_sp_first a_sp_many a_sp_corner a_g_rowCuts a_g_columnCuts a_g_bandRows a_g_zoneColumns a_g_rows a_g_sheets sp_cornerCount sp_level sp_row sp_start sp_place sp_length sp_cap g_bandRows g_zoneColumns g_rows g_sheets p1 p2 v3 v4 v5 v6 v7 v8 hm30) 1 rfl rfl (cwV 2 hts gX10_middle_X6_put rfl rfl rfl (by decide +kernel) ⟨Nat.le_of_ble_eq_true rfl, Nat.le_of_ble_eq_true rfl⟩) rfl rfl (Nat.le_of_ble_eq_true rfl) dX10_middle_30 ⟨Nat.zero_le _, Nat.zero_le _⟩ [6, 0, 1, 2, 3, 4, 5] 7 rfl ⟨rfl, rfl, rfl⟩ (fun H locs hP hD hS => ?_)
        obtain ⟨hP, hD⟩ : va_PD D A ((a_x, .inr (10, [.ref a_at, .ref a_g, .ref a_st, .ref a_x_kept, .int x_keptStates, .ref a_tp, .ref a_rd, .ref a_qu, .ref a_sp, .ref a_wk, .ref a_bx, .ref a_nt, .ref a_nu, .ref a_x_seen])) :: (a_sp, .inr (6, [.ref a_g, .ref a_sp_first, .ref a_sp_many, .ref a_sp_corner, .int sp_cornerCount, .int v3, .int v4, .int v5, .int v6, .int v7, .int v8])) :: (a_g, .inr (2, [.ref a_g_rowCuts, .ref a_g_columnCuts, .ref a_g_bandRows, .ref a_g_zoneColumns, .ref a_g_rows, .ref a_g_sheets])) :: (a_g_bandRows, .inl (ci 0, 5, .inl g_bandRows)) :: (a_g_zoneColumns, .inl (ci 0, 5, .inl g_zoneColumns)) :: (a_g_rows, .inl (ci 0, 5, .inl g_rows)) :: (a_g_sheets, .inl (ci 0, 5, .inl g_sheets)) :: Rw) H := ⟨hP, hD⟩
        refine lv_iload_n (pc := 33) hx hb dX10_middle_33 rfl (lv_at hl 3 rfl) ?_
        refine q_if_ne (pc := 34) (tgt := 47) hx hb dX10_middle_34 (by decide) rfl hf (fun hf => ?_) (fun hf => ?_)
        · refine lv_aload_n (pc := 47) hx hb dX10_middle_47 rfl (lv_at hl 0 rfl) ?_
          refine va_get (pc := 48) (D := D) (ci := 10) (v := .ref a_sp) (C := RX10) (T := TX10) (N := 14) hx hb hts hinX10 hown hK hP 0 rfl rfl 8 (by decide) w_3 (fun _ h9 => h9) rfl dX10_middle_48 ?_
          obtain ⟨v9, hm51, hf⟩ := q_b1_e hf
          refine q_cVr (pc := 51) (As := []) (rest := []) (v0 := (some (.int v9))) ⟨hx, hb, hml, hown, hts⟩ hK hA hZ hP hD hS hl.1 [1, 2, 3] 7 rfl ⟨rfl, rfl, rfl⟩ (c_Spot_middleLon l D ci A sa N (Rw) a_sp a_g a_sp_first a_sp_many a_sp_corner a_g_rowCuts a_g_columnCuts a_g_bandRows a_g_zoneColumns a_g_rows a_g_sheets sp_cornerCount v3 v4 v5 v6 v7 v8 g_bandRows v9 hm51) 1 rfl rfl (cwV 0 hts gX10_middle_X6_middleLon rfl rfl rfl (by decide +kernel) ⟨Nat.le_of_ble_eq_true rfl, Nat.le_of_ble_eq_true rfl⟩) rfl rfl (Nat.le_of_ble_eq_true rfl) dX10_middle_51 ⟨Nat.zero_le _, Nat.zero_le _⟩ (fun locs hS => ?_)
          obtain ⟨e90, e91, e92, e93, e94, e95, e96⟩ := q_inj7 (Option.some.inj hf)
          rw [hQ, ← e90, ← e91, ← e92, ← e93, ← e94, ← e95, ← e96]
          exact q_iret (pc := 54) hx hb hr hlocks hP hD hS dX10_middle_54
        · refine lv_aload_n (pc := 37) hx hb dX10_middle_37 rfl (lv_at hl 0 rfl) ?_
          refine va_get (pc := 38) (D := D) (ci := 10) (v := .ref a_sp) (C := RX10) (T := TX10) (N := 14) hx hb hts hinX10 hown hK hP 0 rfl rfl 8 (by decide) w_3 (fun _ h9 => h9) rfl dX10_middle_38 ?_
          obtain ⟨v10, hm41, hf⟩ := q_b1_e hf
          refine q_cVr (pc := 41) (As := []) (rest := []) (v0 := (some (.int v10))) ⟨hx, hb, hml, hown, hts⟩ hK hA hZ hP hD hS hl.1 [1, 2, 3] 7 rfl ⟨rfl, rfl, rfl⟩ (c_Spot_middleLat l D ci A sa N (Rw) a_sp a_g a_sp_first a_sp_many a_sp_corner a_g_rowCuts a_g_columnCuts a_g_bandRows a_g_zoneColumns a_g_rows a_g_sheets sp_cornerCount v3 v4 v5 v6 v7 v8 g_bandRows v10 hm41) 1 rfl rfl (cwV 0 hts gX10_middle_X6_middleLat rfl rfl rfl (by decide +kernel) ⟨Nat.le_of_ble_eq_true rfl, Nat.le_of_ble_eq_true rfl⟩) rfl rfl (Nat.le_of_ble_eq_true rfl) dX10_middle_41 ⟨Nat.zero_le _, Nat.zero_le _⟩ (fun locs hS => ?_)
          refine lv_goto (pc := 44) (tgt := 54) hx hb dX10_middle_44 (by decide) ?_
          obtain ⟨e90, e91, e92, e93, e94, e95, e96⟩ := q_inj7 (Option.some.inj hf)
          rw [hQ, ← e90, ← e91, ← e92, ← e93, ← e94, ← e95, ← e96]
          exact q_iret (pc := 54) hx hb hr hlocks hP hD hS dX10_middle_54
      · refine lv_ldc (pc := 21) (v := (-1000000)) hx hb hown w_2 dX10_middle_21 ?_
        obtain ⟨e90, e91, e92, e93, e94, e95, e96⟩ := q_inj7 (Option.some.inj hf)
        rw [hQ, ← e90, ← e91, ← e92, ← e93, ← e94, ← e95, ← e96]
        exact q_iret (pc := 23) hx hb hr hlocks hP hD hS dX10_middle_23
  exact hgo _ _ rfl hP hS
/-! X10_moved -/
set_option maxRecDepth 100000 in
set_option maxHeartbeats 4000000 in
theorem c_X_moved (l : Launch) (D : va_G) (ci : Nat → ClassId) (A : Nat → Prop) (sa : Nat → Nat) (N : Nat) (Rw : va_W) (a_x : Nat) (a_at : Nat) (a_g : Nat) (a_st : Nat) (a_x_kept : Nat) (a_tp : Nat) (a_rd : Nat) (a_qu : Nat) (a_sp : Nat) (a_wk : Nat) (a_bx : Nat) (a_nt : Nat) (a_nu : Nat) (a_x_seen : Nat) (a_g_rowCuts : Nat) (a_g_columnCuts : Nat) (a_g_bandRows : Nat) (a_g_zoneColumns : Nat) (a_g_rows : Nat) (a_g_sheets : Nat) (x_keptStates : Int32) (g_bandRows : Nat → Int32) (g_zoneColumns : Nat → Int32) (g_rows : Nat → Int32) (g_sheets : Nat → Int32) (p1 : Int32) (p2 : Int32) (p3 : Int32) (p4 : Int32) (p5 : Int32) (r : Int32) (hf : f_X_moved g_bandRows g_zoneColumns g_rows g_sheets p1 p2 p3 p4 p5 = some r) : Met l yX10_moved wsX10_moved ({ frames := 3, cells := 0, slots := 0, locals := 73 }) (va_Pc [.ref a_x, .int p1, .int p2, .int p3, .int p4, .int p5] (q_N D ci A sa ((a_x, .inr (10, [.ref a_at, .ref a_g, .ref a_st, .ref a_x_kept, .int x_keptStates, .ref a_tp, .ref a_rd, .ref a_qu, .ref a_sp, .ref a_wk, .ref a_bx, .ref a_nt, .ref a_nu, .ref a_x_seen])) :: (a_g, .inr (2, [.ref a_g_rowCuts, .ref a_g_columnCuts, .ref a_g_bandRows, .ref a_g_zoneColumns, .ref a_g_rows, .ref a_g_sheets])) :: (a_g_bandRows, .inl (ci 0, 5, .inl g_bandRows)) :: (a_g_zoneColumns, .inl (ci 0, 5, .inl g_zoneColumns)) :: (a_g_rows, .inl (ci 0, 5, .inl g_rows)) :: (a_g_sheets, .inl (ci 0, 5, .inl g_sheets)) :: Rw))) (q_R (some (.int r))) 0 0 A := by
  refine q_ofW (cc := cX10_moved) (maxL := 10) (ret := (some .int)) [.ref a_x, .int p1, .int p2, .int p3, .int p4, .int p5] (plainFor_of_name (by decide)) rfl (Nat.le_of_ble_eq_true rfl) ?_
  intro p e s m below meth c ls Q hQ hx hb hml hr hts hown hlocks hK hA hZ hP hD hS hl
  have hl : lv_has ls 10 [(0, .ref a_x), (1, .int p1), (2, .int p2), (3, .int p3), (4, .int p4), (5, .int p5)] := hl
  have hown : s.vm.findClass RX10 = some m.cls := hown
  have hinX10 : ∀ w ∈ wsX100, w ∈ wsX10_moved := fun _ h => List.mem_cons_of_mem _ (inWX100 _ h)
  have w_1 := hts (Cond.constantLong RX10 332 (-324000)) (List.mem_cons_of_mem _ t_w904)
  have w_2 := hts (Cond.constantLong RX10 334 (324000)) (List.mem_cons_of_mem _ t_w905)
  have w_3 := hts (Cond.fieldLink RX10 20 "SheetNames" "grid" "LSheetNames$Grid;") (List.mem_cons_of_mem _ t_w876)
  have w_4 := hts (Cond.constantLong RX10 336 (1296000)) (List.mem_cons_of_mem _ t_w906)
  unfold f_X_moved at hf
  have hgo : ∀ (H : Heap) (locs : List Loc), H = s.heap → va_P D vwCl ((a_x, .inr (10, [.ref a_at, .ref a_g, .ref a_st, .ref a_x_kept, .int x_keptStates, .ref a_tp, .ref a_rd, .ref a_qu, .ref a_sp, .ref a_wk, .ref a_bx, .ref a_nt, .ref a_nu, .ref a_x_seen])) :: (a_g, .inr (2, [.ref a_g_rowCuts, .ref a_g_columnCuts, .ref a_g_bandRows, .ref a_g_zoneColumns, .ref a_g_rows, .ref a_g_sheets])) :: (a_g_bandRows, .inl (ci 0, 5, .inl g_bandRows)) :: (a_g_zoneColumns, .inl (ci 0, 5, .inl g_zoneColumns)) :: (a_g_rows, .inl (ci 0, 5, .inl g_rows)) :: (a_g_sheets, .inl (ci 0, 5, .inl g_sheets)) :: Rw) H → va_S A s.heap H locs → W p l e ({ frames := 3, cells := 0, slots := 0, locals := 73 } : Room) s m ([.ref a_x, .int p1, .int p2, .int p3, .int p4, .int p5] : List Value).toArray below meth c H locs 0 0 Q (F0 m 0 ls []) := by
    intro H locs hH hP hS
    subst hH
    refine lv_iload_n (pc := 0) hx hb dX10_moved_0 rfl (lv_at hl 1 rfl) ?_
    refine lv_iload_n (pc := 1) hx hb dX10_moved_1 rfl (lv_at hl 2 rfl) ?_
    obtain ⟨v1, hm2, hf⟩ := q_b1_e hf
    refine q_cSr (pc := 2) (As := [.int p1, .int p2]) (rest := []) (v0 := (some (.int v1))) ⟨hx, hb, hml, hown, hts⟩ hK hA hZ hP hD hS hl.1 [] 6 rfl ⟨rfl, rfl, rfl⟩ (c_X_isPlace l D ci A sa N (Rw) p1 p2 v1 hm2) (va_cwS 2 hts gX10_moved_X10_isPlace rfl rfl rfl (by decide +kernel) ⟨Nat.le_of_ble_eq_true rfl, Nat.le_of_ble_eq_true rfl⟩) rfl rfl (Nat.le_of_ble_eq_true rfl) dX10_moved_2 ⟨Nat.zero_le _, Nat.zero_le _⟩ (fun locs hS => ?_)
    refine q_if_eq (pc := 5) (tgt := 16) hx hb dX10_moved_5 (by decide) rfl hf (fun hf => ?_) (fun hf => ?_)
    · refine lv_iconst (pc := 16) (v := (-1)) hx hb dX10_moved_16 (by decide) ?_
      obtain rfl := Option.some.inj hf
      rw [hQ]
      exact q_iretr (pc := 17) hx hb hr hlocks rfl hS dX10_moved_17
    · refine lv_iload (pc := 8) hx hb dX10_moved_8 (lv_at hl 5 rfl) ?_
      obtain ⟨v2, hm10, hf⟩ := q_b1_e hf
      refine q_cSr (pc := 10) (As := [.int p5]) (rest := []) (v0 := (some (.int v2))) ⟨hx, hb, hml, hown, hts⟩ hK hA hZ hP hD hS hl.1 [] 6 rfl ⟨rfl, rfl, rfl⟩ (c_X_isLevel l D ci A sa N (Rw) p5 v2 hm10) (va_cwS 1 hts gX10_moved_X10_isLevel rfl rfl rfl (by decide +kernel) ⟨Nat.le_of_ble_eq_true rfl, Nat.le_of_ble_eq_true rfl⟩) rfl rfl (Nat.le_of_ble_eq_true rfl) dX10_moved_10 ⟨Nat.zero_le _, Nat.zero_le _⟩ (fun locs hS => ?_)
      refine q_if_ne (pc := 13) (tgt := 18) hx hb dX10_moved_13 (by decide) rfl hf (fun hf => ?_) (fun hf => ?_)
      · refine lv_iload_n (pc := 18) hx hb dX10_moved_18 rfl (lv_at hl 1 rfl) ?_
        refine lv_i2l (pc := 19) hx hb dX10_moved_19 rfl ?_
        refine lv_iload_n (pc := 20) hx hb dX10_moved_20 rfl (lv_at hl 3 rfl) ?_
        refine lv_i2l (pc := 21) hx hb dX10_moved_21 rfl ?_
        refine lv_ladd (pc := 22) hx hb dX10_moved_22 ?_
        obtain ⟨v3, ev3, hf⟩ := q_nm_e hf
        refine q_topl ev3 ?_
        refine lv_lstore (pc := 23) (lv' := [(6, .long v3), (0, .ref a_x), (1, .int p1), (2, .int p2), (3, .int p3), (4, .int p4), (5, .int p5)]) hx hb dX10_moved_23 hl (by decide) rfl (fun ls hl => ?_)
        refine lv_iload_n (pc := 25) hx hb dX10_moved_25 rfl (lv_at hl 3 rfl) ?_
        refine lv_i2l (pc := 26) hx hb dX10_moved_26 rfl ?_
        refine lv_iload (pc := 27) hx hb dX10_moved_27 (lv_at hl 5 rfl) ?_
        refine lv_i2l (pc := 29) hx hb dX10_moved_29 rfl ?_
        refine lv_ladd (pc := 30) hx hb dX10_moved_30 ?_
        obtain ⟨v4, ev4, hf⟩ := q_nm_e hf
        refine q_topl ev4 ?_
        refine lv_lstore (pc := 31) (lv' := [(8, .long v4), (6, .long v3), (0, .ref a_x), (1, .int p1), (2, .int p2), (3, .int p3), (4, .int p4), (5, .int p5)]) hx hb dX10_moved_31 hl (by decide) rfl (fun ls hl => ?_)
        refine lv_lload (pc := 33) hx hb dX10_moved_33 (lv_at hl 1 rfl) ?_
        obtain ⟨v5, hm35, hf⟩ := q_b1_e hf
        refine q_cSr (pc := 35) (As := [.long v3]) (rest := []) (v0 := (some (.int v5))) ⟨hx, hb, hml, hown, hts⟩ hK hA hZ hP hD hS hl.1 [] 6 rfl ⟨rfl, rfl, rfl⟩ (c_X_isInt l D ci A sa N (Rw) v3 v5 hm35) (va_cwS 1 hts gX10_moved_X10_isInt rfl rfl rfl (by decide +kernel) ⟨Nat.le_of_ble_eq_true rfl, Nat.le_of_ble_eq_true rfl⟩) rfl rfl (Nat.le_of_ble_eq_true rfl) dX10_moved_35 ⟨Nat.zero_le _, Nat.zero_le _⟩ (fun locs hS => ?_)
        refine q_if_eq (pc := 38) (tgt := 49) hx hb dX10_moved_38 (by decide) rfl hf (fun hf => ?_) (fun hf => ?_)
        · refine lv_bipush (pc := 49) (v := (-2)) hx hb dX10_moved_49 (by decide) ?_
          obtain rfl := Option.some.inj hf
          rw [hQ]
          exact q_iretr (pc := 51) hx hb hr hlocks rfl hS dX10_moved_51
        · refine lv_lload (pc := 41) hx hb dX10_moved_41 (lv_at hl 0 rfl) ?_
          obtain ⟨v6, hm43, hf⟩ := q_b1_e hf
          refine q_cSr (pc := 43) (As := [.long v4]) (rest := []) (v0 := (some (.int v6))) ⟨hx, hb, hml, hown, hts⟩ hK hA hZ hP hD hS hl.1 [] 6 rfl ⟨rfl, rfl, rfl⟩ (c_X_isInt l D ci A sa N (Rw) v4 v6 hm43) (va_cwS 1 hts gX10_moved_X10_isInt rfl rfl rfl (by decide +kernel) ⟨Nat.le_of_ble_eq_true rfl, Nat.le_of_ble_eq_true rfl⟩) rfl rfl (Nat.le_of_ble_eq_true rfl) dX10_moved_43 ⟨Nat.zero_le _, Nat.zero_le _⟩ (fun locs hS => ?_)
          refine q_if_ne (pc := 46) (tgt := 52) hx hb dX10_moved_46 (by decide) rfl hf (fun hf => ?_) (fun hf => ?_)
          · refine lv_lload (pc := 52) hx hb dX10_moved_52 (lv_at hl 1 rfl) ?_
            refine lv_ldc2 (pc := 54) (v := (-324000)) hx hb hown w_1 dX10_moved_54 ?_
            refine W.lcmp (pc := 57) hx hb dX10_moved_57 ?_
            refine q_if_lt (pc := 58) (tgt := 70) hx hb dX10_moved_58 (by decide) rfl hf (fun hf => ?_) (fun hf => ?_)
            · refine lv_bipush (pc := 70) (v := (-3)) hx hb dX10_moved_70 (by decide) ?_
              obtain rfl := Option.some.inj hf
              rw [hQ]
              exact q_iretr (pc := 72) hx hb hr hlocks rfl hS dX10_moved_72
            · refine lv_lload (pc := 61) hx hb dX10_moved_61 (lv_at hl 1 rfl) ?_
              refine lv_ldc2 (pc := 63) (v := 324000) hx hb hown w_2 dX10_moved_63 ?_
              refine W.lcmp (pc := 66) hx hb dX10_moved_66 ?_
              refine q_if_le (pc := 67) (tgt := 73) hx hb dX10_moved_67 (by decide) rfl hf (fun hf => ?_) (fun hf => ?_)
              · refine lv_aload_n (pc := 73) hx hb dX10_moved_73 rfl (lv_at hl 2 rfl) ?_
                refine va_get (pc := 74) (D := D) (ci := 10) (v := .ref a_g) (C := RX10) (T := TX10) (N := 14) hx hb hts hinX10 hown hK hP 0 rfl rfl 1 (by decide) w_3 (fun _ h9 => h9) rfl dX10_moved_74 ?_
                refine lv_iload (pc := 77) hx hb dX10_moved_77 (lv_at hl 7 rfl) ?_
                refine lv_lload (pc := 79) hx hb dX10_moved_79 (lv_at hl 1 rfl) ?_
                refine lv_l2i (pc := 81) hx hb dX10_moved_81 rfl ?_
                refine lv_lload (pc := 82) hx hb dX10_moved_82 (lv_at hl 0 rfl) ?_
                refine lv_ldc2 (pc := 84) (v := 1296000) hx hb hown w_4 dX10_moved_84 ?_
                obtain ⟨v7, hm87, hf⟩ := q_b1_e hf
                refine q_cSr (pc := 87) (As := [.long v4, .long 1296000]) (rest := [.int v3.toInt32, .int p5, .ref a_g]) (v0 := (some (.long v7))) ⟨hx, hb, hml, hown, hts⟩ hK hA hZ hP hD hS hl.1 [] 6 rfl ⟨rfl, rfl, rfl⟩ (c_JMath_floorMod_f86c9 l D ci A sa N (Rw) v4 1296000 v7 hm87) (va_cwS 2 hts gX10_moved_J9_floorMod_f86c9 rfl rfl rfl (by decide +kernel) ⟨Nat.le_of_ble_eq_true rfl, Nat.le_of_ble_eq_true rfl⟩) rfl rfl (Nat.le_of_ble_eq_true rfl) dX10_moved_87 ⟨Nat.zero_le _, Nat.zero_le _⟩ (fun locs hS => ?_)
                refine lv_l2i (pc := 90) hx hb dX10_moved_90 rfl ?_
                obtain ⟨v8, hm91, hf⟩ := q_b1_e hf
                refine q_cVr (pc := 91) (As := [.int p5, .int v3.toInt32, .int v7.toInt32]) (rest := []) (v0 := (some (.int v8))) ⟨hx, hb, hml, hown, hts⟩ hK hA hZ hP hD hS hl.1 [1, 2, 3, 4, 5] 6 rfl ⟨rfl, rfl, rfl⟩ (c_Grid_keyOf l D ci A sa N (Rw) a_g a_g_rowCuts a_g_columnCuts a_g_bandRows a_g_zoneColumns a_g_rows a_g_sheets g_bandRows g_zoneColumns g_rows g_sheets p5 v3.toInt32 v7.toInt32 v8 hm91) 1 rfl rfl (cwV 3 hts gX10_moved_X2_keyOf rfl rfl rfl (by decide +kernel) ⟨Nat.le_of_ble_eq_true rfl, Nat.le_of_ble_eq_true rfl⟩) rfl rfl (Nat.le_of_ble_eq_true rfl) dX10_moved_91 ⟨Nat.zero_le _, Nat.zero_le _⟩ (fun locs hS => ?_)
                obtain rfl := Option.some.inj hf
                rw [hQ]
                exact q_iretr (pc := 94) hx hb hr hlocks rfl hS dX10_moved_94
              · refine lv_bipush (pc := 70) (v := (-3)) hx hb dX10_moved_70 (by decide) ?_
                obtain rfl := Option.some.inj hf
                rw [hQ]
                exact q_iretr (pc := 72) hx hb hr hlocks rfl hS dX10_moved_72
          · refine lv_bipush (pc := 49) (v := (-2)) hx hb dX10_moved_49 (by decide) ?_
            obtain rfl := Option.some.inj hf
            rw [hQ]
            exact q_iretr (pc := 51) hx hb hr hlocks rfl hS dX10_moved_51
      · refine lv_iconst (pc := 16) (v := (-1)) hx hb dX10_moved_16 (by decide) ?_
        obtain rfl := Option.some.inj hf
        rw [hQ]
        exact q_iretr (pc := 17) hx hb hr hlocks rfl hS dX10_moved_17
  exact hgo _ _ rfl hP hS
/-! X10_name -/
set_option maxRecDepth 100000 in
set_option maxHeartbeats 4000000 in
theorem c_X_name (l : Launch) (D : va_G) (ci : Nat → ClassId) (A : Nat → Prop) (sa : Nat → Nat) (N : Nat) (Rw : va_W) (a_x : Nat) (a_at : Nat) (a_g : Nat) (a_st : Nat) (a_x_kept : Nat) (a_tp : Nat) (a_rd : Nat) (a_qu : Nat) (a_sp : Nat) (a_wk : Nat) (a_bx : Nat) (a_nt : Nat) (a_nu : Nat) (a_x_seen : Nat) (a_sp_first : Nat) (a_sp_many : Nat) (a_sp_corner : Nat) (a_nt_bytes : Nat) (a_g_rowCuts : Nat) (a_g_columnCuts : Nat) (a_g_bandRows : Nat) (a_g_zoneColumns : Nat) (a_g_rows : Nat) (a_g_sheets : Nat) (x_keptStates : Int32) (sp_cornerCount : Int32) (sp_level : Int32) (sp_row : Int32) (sp_start : Int32) (sp_place : Int32) (sp_length : Int32) (sp_cap : Int32) (nt_length : Int32) (nt_bytes : Nat → Int32) (g_rowCuts : Nat → Int32) (g_columnCuts : Nat → Int32) (g_bandRows : Nat → Int32) (g_zoneColumns : Nat → Int32) (g_rows : Nat → Int32) (g_sheets : Nat → Int32) (p1 : Int32) (p2 : Int32) (p3 : Int32) (r : Int32) (o1 : Int32) (o2 : Int32) (o3 : Int32) (o4 : Int32) (o5 : Int32) (o6 : Int32) (o7 : Nat → Int32) (o8 : Int32) (hf : f_X_name N sp_level sp_row sp_start sp_place sp_length sp_cap nt_bytes nt_length g_rowCuts g_columnCuts g_bandRows g_zoneColumns g_rows g_sheets p1 p2 p3 = some (r, o1, o2, o3, o4, o5, o6, o7, o8)) : Met l yX10_name wsX10_name ({ frames := 3, cells := 0, slots := 0, locals := 71 }) (va_Pc [.ref a_x, .int p1, .int p2, .int p3] (q_N D ci A sa ((a_x, .inr (10, [.ref a_at, .ref a_g, .ref a_st, .ref a_x_kept, .int x_keptStates, .ref a_tp, .ref a_rd, .ref a_qu, .ref a_sp, .ref a_wk, .ref a_bx, .ref a_nt, .ref a_nu, .ref a_x_seen])) :: (a_sp, .inr (6, [.ref a_g, .ref a_sp_first, .ref a_sp_many, .ref a_sp_corner, .int sp_cornerCount, .int sp_level, .int sp_row, .int sp_start, .int sp_place, .int sp_length, .int sp_cap])) :: (a_nt, .inr (4, [.ref a_nt_bytes, .int nt_length])) :: (a_nt_bytes, .inl (ci 0, 40, .inl nt_bytes)) :: (a_g, .inr (2, [.ref a_g_rowCuts, .ref a_g_columnCuts, .ref a_g_bandRows, .ref a_g_zoneColumns, .ref a_g_rows, .ref a_g_sheets])) :: (a_g_rowCuts, .inl (ci 0, 5, .inl g_rowCuts)) :: (a_g_columnCuts, .inl (ci 0, 5, .inl g_columnCuts)) :: (a_g_bandRows, .inl (ci 0, 5, .inl g_bandRows)) :: (a_g_zoneColumns, .inl (ci 0, 5, .inl g_zoneColumns)) :: (a_g_rows, .inl (ci 0, 5, .inl g_rows)) :: (a_g_sheets, .inl (ci 0, 5, .inl g_sheets)) :: Rw))) (q_Q (some (.int r)) (q_O D A ((a_x, .inr (10, [.ref a_at, .ref a_g, .ref a_st, .ref a_x_kept, .int x_keptStates, .ref a_tp, .ref a_rd, .ref a_qu, .ref a_sp, .ref a_wk, .ref a_bx, .ref a_nt, .ref a_nu, .ref a_x_seen])) :: (a_sp, .inr (6, [.ref a_g, .ref a_sp_first, .ref a_sp_many, .ref a_sp_corner, .int sp_cornerCount, .int o1, .int o2, .int o3, .int o4, .int o5, .int o6])) :: (a_nt, .inr (4, [.ref a_nt_bytes, .int o8])) :: (a_nt_bytes, .inl (ci 0, 40, .inl o7)) :: (a_g, .inr (2, [.ref a_g_rowCuts, .ref a_g_columnCuts, .ref a_g_bandRows, .ref a_g_zoneColumns, .ref a_g_rows, .ref a_g_sheets])) :: (a_g_rowCuts, .inl (ci 0, 5, .inl g_rowCuts)) :: (a_g_columnCuts, .inl (ci 0, 5, .inl g_columnCuts)) :: (a_g_bandRows, .inl (ci 0, 5, .inl g_bandRows)) :: (a_g_zoneColumns, .inl (ci 0, 5, .inl g_zoneColumns)) :: (a_g_rows, .inl (ci 0, 5, .inl g_rows)) :: (a_g_sheets, .inl (ci 0, 5, .inl g_sheets)) :: Rw)) A) 0 0 A := by
  refine q_ofW (cc := cX10_name) (maxL := 4) (ret := (some .int)) [.ref a_x, .int p1, .int p2, .int p3] (plainFor_of_name (by decide)) rfl (Nat.le_of_ble_eq_true rfl) ?_
  intro p e s m below meth c ls Q hQ hx hb hml hr hts hown hlocks hK hA hZ hP hD hS hl
  have hl : lv_has ls 4 [(0, .ref a_x), (1, .int p1), (2, .int p2), (3, .int p3)] := hl
  have hown : s.vm.findClass RX10 = some m.cls := hown
  have hinX10 : ∀ w ∈ wsX100, w ∈ wsX10_name := fun _ h => List.mem_cons_of_mem _ (inWX100 _ h)
  have hinX4 : ∀ w ∈ wsX40, w ∈ wsX10_name := fun _ h => List.mem_cons_of_mem _ (inWX40 _ h)
  have w_1 := hts (Cond.fieldLink RX10 20 "SheetNames" "grid" "LSheetNames$Grid;") (List.mem_cons_of_mem _ t_w876)
  have w_2 := hts (Cond.fieldLink RX10 66 "SheetNames" "spot" "LSheetNames$Spot;") (List.mem_cons_of_mem _ t_w877)
  have w_3 := hts (Cond.fieldLink RX10 87 "SheetNames" "text" "LSheetNames$NameText;") (List.mem_cons_of_mem _ t_w887)
  have wn_8 : (Cond.fieldLinkNest "SheetNames" 167 "SheetNames$NameText" "length" "I" "SheetNames").before ([.ref a_x, .int p1, .int p2, .int p3] : List Value).toArray s = true := (hZ.2.2.2.2.2.2.2.2.2.1 _ (List.mem_of_getElem? (i := 8) rfl)).use rfl
  have wn_9 : (Cond.fieldLinkNest "SheetNames" 168 "SheetNames$NameText" "bytes" "[I" "SheetNames").before ([.ref a_x, .int p1, .int p2, .int p3] : List Value).toArray s = true := (hZ.2.2.2.2.2.2.2.2.2.1 _ (List.mem_of_getElem? (i := 9) rfl)).use rfl
  unfold f_X_name at hf
  have hgo : ∀ (H : Heap) (locs : List Loc), H = s.heap → va_P D vwCl ((a_x, .inr (10, [.ref a_at, .ref a_g, .ref a_st, .ref a_x_kept, .int x_keptStates, .ref a_tp, .ref a_rd, .ref a_qu, .ref a_sp, .ref a_wk, .ref a_bx, .ref a_nt, .ref a_nu, .ref a_x_seen])) :: (a_sp, .inr (6, [.ref a_g, .ref a_sp_first, .ref a_sp_many, .ref a_sp_corner, .int sp_cornerCount, .int sp_level, .int sp_row, .int sp_start, .int sp_place, .int sp_length, .int sp_cap])) :: (a_nt, .inr (4, [.ref a_nt_bytes, .int nt_length])) :: (a_nt_bytes, .inl (ci 0, 40, .inl nt_bytes)) :: (a_g, .inr (2, [.ref a_g_rowCuts, .ref a_g_columnCuts, .ref a_g_bandRows, .ref a_g_zoneColumns, .ref a_g_rows, .ref a_g_sheets])) :: (a_g_rowCuts, .inl (ci 0, 5, .inl g_rowCuts)) :: (a_g_columnCuts, .inl (ci 0, 5, .inl g_columnCuts)) :: (a_g_bandRows, .inl (ci 0, 5, .inl g_bandRows)) :: (a_g_zoneColumns, .inl (ci 0, 5, .inl g_zoneColumns)) :: (a_g_rows, .inl (ci 0, 5, .inl g_rows)) :: (a_g_sheets, .inl (ci 0, 5, .inl g_sheets)) :: Rw) H → va_S A s.heap H locs → W p l e ({ frames := 3, cells := 0, slots := 0, locals := 71 } : Room) s m ([.ref a_x, .int p1, .int p2, .int p3] : List Value).toArray below meth c H locs 0 0 Q (F0 m 0 ls []) := by
    intro H locs hH hP hS
    refine lv_aload_n (pc := 0) hx hb dX10_name_0 rfl (lv_at hl 0 rfl) ?_
    refine va_get (pc := 1) (D := D) (ci := 10) (v := .ref a_g) (C := RX10) (T := TX10) (N := 14) hx hb hts hinX10 hown hK hP 0 rfl rfl 1 (by decide) w_1 (fun _ h9 => h9) rfl dX10_name_1 ?_
    refine lv_iload_n (pc := 4) hx hb dX10_name_4 rfl (lv_at hl 1 rfl) ?_
    refine lv_iload_n (pc := 5) hx hb dX10_name_5 rfl (lv_at hl 2 rfl) ?_
    obtain ⟨v1, hm6, hf⟩ := q_b1_e hf
    refine q_cVr (pc := 6) (As := [.int p1, .int p2]) (rest := []) (v0 := (some (.int v1))) ⟨hx, hb, hml, hown, hts⟩ hK hA hZ hP hD hS hl.1 [4, 10] 11 rfl ⟨rfl, rfl, rfl⟩ (c_Grid_hasSheet l D ci A sa N (Rw) a_g a_g_rowCuts a_g_columnCuts a_g_bandRows a_g_zoneColumns a_g_rows a_g_sheets g_sheets p1 p2 v1 hm6) 4 rfl rfl (cwV 2 hts gX10_name_X2_hasSheet rfl rfl rfl (by decide +kernel) ⟨Nat.le_of_ble_eq_true rfl, Nat.le_of_ble_eq_true rfl⟩) rfl rfl (Nat.le_of_ble_eq_true rfl) dX10_name_6 ⟨Nat.zero_le _, Nat.zero_le _⟩ (fun locs hS => ?_)
    refine q_if_eq (pc := 9) (tgt := 17) hx hb dX10_name_9 (by decide) rfl hf (fun hf => ?_) (fun hf => ?_)
    · refine lv_iconst (pc := 17) (v := (-1)) hx hb dX10_name_17 (by decide) ?_
      obtain ⟨e90, e91, e92, e93, e94, e95, e96, e97, e98⟩ := q_inj9 (Option.some.inj hf)
      rw [hQ, ← e90, ← e91, ← e92, ← e93, ← e94, ← e95, ← e96, ← e97, ← e98]
      exact q_iret (pc := 18) hx hb hr hlocks hP hD hS dX10_name_18
    · refine lv_iload_n (pc := 12) hx hb dX10_name_12 rfl (lv_at hl 3 rfl) ?_
      refine lv_iconst (pc := 13) (v := (-1)) hx hb dX10_name_13 (by decide) ?_
      refine q_icmp_ge (pc := 14) (tgt := 19) hx hb dX10_name_14 (by decide) rfl hf (fun hf => ?_) (fun hf => ?_)
      · refine lv_aload_n (pc := 19) hx hb dX10_name_19 rfl (lv_at hl 0 rfl) ?_
        refine va_get (pc := 20) (D := D) (ci := 10) (v := .ref a_sp) (C := RX10) (T := TX10) (N := 14) hx hb hts hinX10 hown hK hP 0 rfl rfl 8 (by decide) w_2 (fun _ h9 => h9) rfl dX10_name_20 ?_
        refine lv_iload_n (pc := 23) hx hb dX10_name_23 rfl (lv_at hl 1 rfl) ?_
        refine lv_iload_n (pc := 24) hx hb dX10_name_24 rfl (lv_at hl 2 rfl) ?_
        obtain ⟨v2, v3, v4, v5, v6, v7, hm25, hf⟩ := q_b6_e hf
        refine q_cV (pc := 25) (As := [.int p1, .int p2]) (rest := []) (v0 := none) ⟨hx, hb, hml, hown, hts⟩ hK hA hZ hP hD hS hl.1 [1, 4, 7, 8, 9, 10, 0, 2, 3, 5, 6] 11 rfl ⟨rfl, rfl, rfl⟩ (c_Spot_put l D ci A sa N ((a_x, .inr (10, [.ref a_at, .ref a_g, .ref a_st, .ref a_x_kept, .int x_keptStates, .ref a_tp, .ref a_rd, .ref a_qu, .ref a_sp, .ref a_wk, .ref a_bx, .ref a_nt, .ref a_nu, .ref a_x_seen])) :: (a_nt, .inr (4, [.ref a_nt_bytes, .int nt_length])) :: (a_nt_bytes, .inl (ci 0, 40, .inl nt_bytes)) :: (a_g_rowCuts, .inl (ci 0, 5, .inl g_rowCuts)) :: (a_g_columnCuts, .inl (ci 0, 5, .inl g_columnCuts)) :: Rw) a_sp a_g a_sp_first a_sp_many a_sp_corner a_g_rowCuts a_g_columnCuts a_g_bandRows a_g_zoneColumns a_g_rows a_g_sheets sp_cornerCount sp_level sp_row sp_start sp_place sp_length sp_cap g_bandRows g_zoneColumns g_rows g_sheets p1 p2 v2 v3 v4 v5 v6 v7 hm25) 1 rfl rfl (cwV 2 hts gX10_name_X6_put rfl rfl rfl (by decide +kernel) ⟨Nat.le_of_ble_eq_true rfl, Nat.le_of_ble_eq_true rfl⟩) rfl rfl (Nat.le_of_ble_eq_true rfl) dX10_name_25 ⟨Nat.zero_le _, Nat.zero_le _⟩ [6, 0, 7, 8, 1, 9, 10, 2, 3, 4, 5] 11 rfl ⟨rfl, rfl, rfl⟩ (fun H locs hP hD hS => ?_)
        obtain ⟨hP, hD⟩ : va_PD D A ((a_x, .inr (10, [.ref a_at, .ref a_g, .ref a_st, .ref a_x_kept, .int x_keptStates, .ref a_tp, .ref a_rd, .ref a_qu, .ref a_sp, .ref a_wk, .ref a_bx, .ref a_nt, .ref a_nu, .ref a_x_seen])) :: (a_sp, .inr (6, [.ref a_g, .ref a_sp_first, .ref a_sp_many, .ref a_sp_corner, .int sp_cornerCount, .int v2, .int v3, .int v4, .int v5, .int v6, .int v7])) :: (a_nt, .inr (4, [.ref a_nt_bytes, .int nt_length])) :: (a_nt_bytes, .inl (ci 0, 40, .inl nt_bytes)) :: (a_g, .inr (2, [.ref a_g_rowCuts, .ref a_g_columnCuts, .ref a_g_bandRows, .ref a_g_zoneColumns, .ref a_g_rows, .ref a_g_sheets])) :: (a_g_rowCuts, .inl (ci 0, 5, .inl g_rowCuts)) :: (a_g_columnCuts, .inl (ci 0, 5, .inl g_columnCuts)) :: (a_g_bandRows, .inl (ci 0, 5, .inl g_bandRows)) :: (a_g_zoneColumns, .inl (ci 0, 5, .inl g_zoneColumns)) :: (a_g_rows, .inl (ci 0, 5, .inl g_rows)) :: (a_g_sheets, .inl (ci 0, 5, .inl g_sheets)) :: Rw) H := ⟨hP, hD⟩
        refine lv_aload_n (pc := 28) hx hb dX10_name_28 rfl (lv_at hl 0 rfl) ?_
        refine va_get (pc := 29) (D := D) (ci := 10) (v := .ref a_nt) (C := RX10) (T := TX10) (N := 14) hx hb hts hinX10 hown hK hP 0 rfl rfl 11 (by decide) w_3 (fun _ h9 => h9) rfl dX10_name_29 ?_
        refine lv_aload_n (pc := 32) hx hb dX10_name_32 rfl (lv_at hl 0 rfl) ?_
        refine va_get (pc := 33) (D := D) (ci := 10) (v := .ref a_sp) (C := RX10) (T := TX10) (N := 14) hx hb hts hinX10 hown hK hP 0 rfl rfl 8 (by decide) w_2 (fun _ h9 => h9) rfl dX10_name_33 ?_
        obtain ⟨f8, v9, hm36, hf⟩ := q_b2_e hf
        refine q_cV (pc := 36) (As := [.ref a_sp]) (rest := []) (v0 := none) ⟨hx, hb, hml, hown, hts⟩ hK hA hZ hP hD hS hl.1 [1, 2, 3, 4, 5, 6, 7, 8, 0, 9, 10] 11 rfl ⟨rfl, rfl, rfl⟩ (c_NameText_write l D ci A sa N ((a_x, .inr (10, [.ref a_at, .ref a_g, .ref a_st, .ref a_x_kept, .int x_keptStates, .ref a_tp, .ref a_rd, .ref a_qu, .ref a_sp, .ref a_wk, .ref a_bx, .ref a_nt, .ref a_nu, .ref a_x_seen])) :: (a_g_rows, .inl (ci 0, 5, .inl g_rows)) :: (a_g_sheets, .inl (ci 0, 5, .inl g_sheets)) :: Rw) a_sp a_g a_sp_first a_sp_many a_sp_corner a_nt a_nt_bytes a_g_rowCuts a_g_columnCuts a_g_bandRows a_g_zoneColumns a_g_rows a_g_sheets sp_cornerCount v2 v3 v4 v5 v6 v7 nt_length nt_bytes g_rowCuts g_columnCuts g_bandRows g_zoneColumns f8 v9 hm36) 2 rfl rfl (cwV 1 hts gX10_name_X4_write rfl rfl rfl (by decide +kernel) ⟨Nat.le_of_ble_eq_true rfl, Nat.le_of_ble_eq_true rfl⟩) rfl rfl (Nat.le_of_ble_eq_true rfl) dX10_name_36 ⟨Nat.zero_le _, Nat.zero_le _⟩ [8, 0, 1, 2, 3, 4, 5, 6, 7, 9, 10] 11 rfl ⟨rfl, rfl, rfl⟩ (fun H locs hP hD hS => ?_)
        obtain ⟨hP, hD⟩ : va_PD D A ((a_x, .inr (10, [.ref a_at, .ref a_g, .ref a_st, .ref a_x_kept, .int x_keptStates, .ref a_tp, .ref a_rd, .ref a_qu, .ref a_sp, .ref a_wk, .ref a_bx, .ref a_nt, .ref a_nu, .ref a_x_seen])) :: (a_sp, .inr (6, [.ref a_g, .ref a_sp_first, .ref a_sp_many, .ref a_sp_corner, .int sp_cornerCount, .int v2, .int v3, .int v4, .int v5, .int v6, .int v7])) :: (a_nt, .inr (4, [.ref a_nt_bytes, .int v9])) :: (a_nt_bytes, .inl (ci 0, 40, .inl f8)) :: (a_g, .inr (2, [.ref a_g_rowCuts, .ref a_g_columnCuts, .ref a_g_bandRows, .ref a_g_zoneColumns, .ref a_g_rows, .ref a_g_sheets])) :: (a_g_rowCuts, .inl (ci 0, 5, .inl g_rowCuts)) :: (a_g_columnCuts, .inl (ci 0, 5, .inl g_columnCuts)) :: (a_g_bandRows, .inl (ci 0, 5, .inl g_bandRows)) :: (a_g_zoneColumns, .inl (ci 0, 5, .inl g_zoneColumns)) :: (a_g_rows, .inl (ci 0, 5, .inl g_rows)) :: (a_g_sheets, .inl (ci 0, 5, .inl g_sheets)) :: Rw) H := ⟨hP, hD⟩
        refine lv_iload_n (pc := 39) hx hb dX10_name_39 rfl (lv_at hl 3 rfl) ?_
        refine lv_iconst (pc := 40) (v := (-1)) hx hb dX10_name_40 (by decide) ?_
        refine q_icmp_ne (pc := 41) (tgt := 52) hx hb dX10_name_41 (by decide) rfl hf (fun hf => ?_) (fun hf => ?_)
        · refine lv_iload_n (pc := 52) hx hb dX10_name_52 rfl (lv_at hl 3 rfl) ?_
          refine lv_aload_n (pc := 53) hx hb dX10_name_53 rfl (lv_at hl 0 rfl) ?_
          refine va_get (pc := 54) (D := D) (ci := 10) (v := .ref a_nt) (C := RX10) (T := TX10) (N := 14) hx hb hts hinX10 hown hK hP 0 rfl rfl 11 (by decide) w_3 (fun _ h9 => h9) rfl dX10_name_54 ?_
          refine va_getN (pc := 57) (D := D) (ci := 4) (v := .int v9) (C := RX4) (T := TX4) (N := 2) hx hb hts hinX4 hown hK hP 2 rfl rfl 1 (by decide) wn_8 (fun _ h9 => h9) rfl dX10_name_57 ?_
          refine q_icmp_ge (pc := 60) (tgt := 75) hx hb dX10_name_60 (by decide) rfl hf (fun hf => ?_) (fun hf => ?_)
          · refine lv_bipush (pc := 75) (v := (-2)) hx hb dX10_name_75 (by decide) ?_
            obtain ⟨e90, e91, e92, e93, e94, e95, e96, e97, e98⟩ := q_inj9 (Option.some.inj hf)
            rw [hQ, ← e90, ← e91, ← e92, ← e93, ← e94, ← e95, ← e96, ← e97, ← e98]
            exact q_iret (pc := 77) hx hb hr hlocks hP hD hS dX10_name_77
          · refine lv_aload_n (pc := 63) hx hb dX10_name_63 rfl (lv_at hl 0 rfl) ?_
            refine va_get (pc := 64) (D := D) (ci := 10) (v := .ref a_nt) (C := RX10) (T := TX10) (N := 14) hx hb hts hinX10 hown hK hP 0 rfl rfl 11 (by decide) w_3 (fun _ h9 => h9) rfl dX10_name_64 ?_
            refine va_getN (pc := 67) (D := D) (ci := 4) (v := .ref a_nt_bytes) (C := RX4) (T := TX4) (N := 2) hx hb hts hinX4 hown hK hP 2 rfl rfl 0 (by decide) wn_9 (fun _ h9 => h9) rfl dX10_name_67 ?_
            refine lv_iload_n (pc := 70) hx hb dX10_name_70 rfl (lv_at hl 3 rfl) ?_
            refine q_iald (pc := 71) hx hb hK hP 3 0 hf rfl rfl dX10_name_71 (fun v10 hf => ?_)
            refine lv_goto (pc := 72) (tgt := 77) hx hb dX10_name_72 (by decide) ?_
            obtain ⟨e90, e91, e92, e93, e94, e95, e96, e97, e98⟩ := q_inj9 (Option.some.inj hf)
            rw [hQ, ← e90, ← e91, ← e92, ← e93, ← e94, ← e95, ← e96, ← e97, ← e98]
            exact q_iret (pc := 77) hx hb hr hlocks hP hD hS dX10_name_77
        · refine lv_aload_n (pc := 44) hx hb dX10_name_44 rfl (lv_at hl 0 rfl) ?_
          refine va_get (pc := 45) (D := D) (ci := 10) (v := .ref a_nt) (C := RX10) (T := TX10) (N := 14) hx hb hts hinX10 hown hK hP 0 rfl rfl 11 (by decide) w_3 (fun _ h9 => h9) rfl dX10_name_45 ?_
          refine va_getN (pc := 48) (D := D) (ci := 4) (v := .int v9) (C := RX4) (T := TX4) (N := 2) hx hb hts hinX4 hown hK hP 2 rfl rfl 1 (by decide) wn_8 (fun _ h9 => h9) rfl dX10_name_48 ?_
          obtain ⟨e90, e91, e92, e93, e94, e95, e96, e97, e98⟩ := q_inj9 (Option.some.inj hf)
          rw [hQ, ← e90, ← e91, ← e92, ← e93, ← e94, ← e95, ← e96, ← e97, ← e98]
          exact q_iret (pc := 51) hx hb hr hlocks hP hD hS dX10_name_51
      · refine lv_iconst (pc := 17) (v := (-1)) hx hb dX10_name_17 (by decide) ?_
        obtain ⟨e90, e91, e92, e93, e94, e95, e96, e97, e98⟩ := q_inj9 (Option.some.inj hf)
        rw [hQ, ← e90, ← e91, ← e92, ← e93, ← e94, ← e95, ← e96, ← e97, ← e98]
        exact q_iret (pc := 18) hx hb hr hlocks hP hD hS dX10_name_18
  exact hgo _ _ rfl hP hS
/-! X10_named -/
set_option maxRecDepth 100000 in
set_option maxHeartbeats 4000000 in
theorem c_X_named (l : Launch) (D : va_G) (ci : Nat → ClassId) (A : Nat → Prop) (sa : Nat → Nat) (N : Nat) (Rw : va_W) (a_x : Nat) (a_at : Nat) (a_g : Nat) (a_st : Nat) (a_x_kept : Nat) (a_tp : Nat) (a_rd : Nat) (a_qu : Nat) (a_sp : Nat) (a_wk : Nat) (a_bx : Nat) (a_nt : Nat) (a_nu : Nat) (a_x_seen : Nat) (a_tp_bytes : Nat) (a_g_rowCuts : Nat) (a_g_columnCuts : Nat) (a_g_bandRows : Nat) (a_g_zoneColumns : Nat) (a_g_rows : Nat) (a_g_sheets : Nat) (x_keptStates : Int32) (rd_next : Int32) (rd_end : Int32) (rd_level : Int32) (rd_key : Int32) (rd_fault : Int32) (rd_faultPlace : Int32) (rd_endedSoon : Int32) (tp_length : Int32) (tp_bytes : Nat → Int32) (at_right : Int32) (at_faulty : Int32) (at_endedSoon : Int32) (at_noSuchNumber : Int32) (g_rowCuts : Nat → Int32) (g_columnCuts : Nat → Int32) (g_bandRows : Nat → Int32) (g_zoneColumns : Nat → Int32) (g_rows : Nat → Int32) (g_sheets : Nat → Int32) (p1 : Int32) (p2 : Int32) (r : Int32) (o1 : Int32) (o2 : Int32) (o3 : Int32) (o4 : Int32) (o5 : Int32) (o6 : Int32) (o7 : Int32) (o8 : Int32) (o9 : Int32) (o10 : Int32) (o11 : Int32) (o12 : Int32) (hf : f_X_named N rd_next rd_end rd_level rd_key rd_fault rd_faultPlace rd_endedSoon tp_bytes tp_length at_right at_faulty at_endedSoon at_noSuchNumber g_rowCuts g_columnCuts g_bandRows g_zoneColumns g_rows g_sheets p1 p2 = some (r, o1, o2, o3, o4, o5, o6, o7, o8, o9, o10, o11, o12)) : Met l yX10_named wsX10_named ({ frames := 4, cells := 0, slots := 0, locals := 95 }) (va_Pc [.ref a_x, .int p1, .int p2] (q_N D ci A sa ((a_x, .inr (10, [.ref a_at, .ref a_g, .ref a_st, .ref a_x_kept, .int x_keptStates, .ref a_tp, .ref a_rd, .ref a_qu, .ref a_sp, .ref a_wk, .ref a_bx, .ref a_nt, .ref a_nu, .ref a_x_seen])) :: (a_rd, .inr (3, [.ref a_g, .ref a_tp, .int rd_next, .int rd_end, .int rd_level, .int rd_key, .int rd_fault, .int rd_faultPlace, .int rd_endedSoon])) :: (a_tp, .inr (8, [.ref a_tp_bytes, .int tp_length])) :: (a_tp_bytes, .inl (ci 0, 200, .inl tp_bytes)) :: (a_at, .inr (0, [.ref a_g, .ref a_st, .int at_right, .int at_faulty, .int at_endedSoon, .int at_noSuchNumber])) :: (a_g, .inr (2, [.ref a_g_rowCuts, .ref a_g_columnCuts, .ref a_g_bandRows, .ref a_g_zoneColumns, .ref a_g_rows, .ref a_g_sheets])) :: (a_g_rowCuts, .inl (ci 0, 5, .inl g_rowCuts)) :: (a_g_columnCuts, .inl (ci 0, 5, .inl g_columnCuts)) :: (a_g_bandRows, .inl (ci 0, 5, .inl g_bandRows)) :: (a_g_zoneColumns, .inl (ci 0, 5, .inl g_zoneColumns)) :: (a_g_rows, .inl (ci 0, 5, .inl g_rows)) :: (a_g_sheets, .inl (ci 0, 5, .inl g_sheets)) :: Rw))) (q_Q (some (.int r)) (q_O D A ((a_x, .inr (10, [.ref a_at, .ref a_g, .ref a_st, .ref a_x_kept, .int x_keptStates, .ref a_tp, .ref a_rd, .ref a_qu, .ref a_sp, .ref a_wk, .ref a_bx, .ref a_nt, .ref a_nu, .ref a_x_seen])) :: (a_rd, .inr (3, [.ref a_g, .ref a_tp, .int o1, .int o2, .int o3, .int o4, .int o5, .int o6, .int o7])) :: (a_tp, .inr (8, [.ref a_tp_bytes, .int o8])) :: (a_tp_bytes, .inl (ci 0, 200, .inl tp_bytes)) :: (a_at, .inr (0, [.ref a_g, .ref a_st, .int o9, .int o10, .int o11, .int o12])) :: (a_g, .inr (2, [.ref a_g_rowCuts, .ref a_g_columnCuts, .ref a_g_bandRows, .ref a_g_zoneColumns, .ref a_g_rows, .ref a_g_sheets])) :: (a_g_rowCuts, .inl (ci 0, 5, .inl g_rowCuts)) :: (a_g_columnCuts, .inl (ci 0, 5, .inl g_columnCuts)) :: (a_g_bandRows, .inl (ci 0, 5, .inl g_bandRows)) :: (a_g_zoneColumns, .inl (ci 0, 5, .inl g_zoneColumns)) :: (a_g_rows, .inl (ci 0, 5, .inl g_rows)) :: (a_g_sheets, .inl (ci 0, 5, .inl g_sheets)) :: Rw)) A) 0 0 A := by
  refine q_ofW (cc := cX10_named) (maxL := 4) (ret := (some .int)) [.ref a_x, .int p1, .int p2] (plainFor_of_name (by decide)) rfl (Nat.le_of_ble_eq_true rfl) ?_
  intro p e s m below meth c ls Q hQ hx hb hml hr hts hown hlocks hK hA hZ hP hD hS hl
  have hl : lv_has ls 4 [(0, .ref a_x), (1, .int p1), (2, .int p2)] := hl
  have hown : s.vm.findClass RX10 = some m.cls := hown
  have hinX10 : ∀ w ∈ wsX100, w ∈ wsX10_named := fun _ h => List.mem_cons_of_mem _ (inWX100 _ h)
  have hinX3 : ∀ w ∈ wsX30, w ∈ wsX10_named := fun _ h => List.mem_cons_of_mem _ (inWX30 _ h)
  have hinX8 : ∀ w ∈ wsX80, w ∈ wsX10_named := fun _ h => List.mem_cons_of_mem _ (inWX80 _ h)
  have w_1 := hts (Cond.fieldLink RX10 39 "SheetNames" "tape" "LSheetNames$Tape;") (List.mem_cons_of_mem _ t_w882)
  have w_2 := hts (Cond.fieldLink RX10 48 "SheetNames" "reader" "LSheetNames$NameReader;") (List.mem_cons_of_mem _ t_w885)
  have w_3 := hts (Cond.fieldLink RX10 10 "SheetNames" "now" "LSheetNames$Atlas;") (List.mem_cons_of_mem _ t_w884)
  have wn_10 : (Cond.fieldLinkNest "SheetNames" 182 "SheetNames$NameReader" "level" "I" "SheetNames").before ([.ref a_x, .int p1, .int p2] : List Value).toArray s = true := (hZ.2.2.2.2.2.2.2.2.2.1 _ (List.mem_of_getElem? (i := 10) rfl)).use rfl
  have wn_11 : (Cond.fieldLinkNest "SheetNames" 185 "SheetNames$NameReader" "key" "I" "SheetNames").before ([.ref a_x, .int p1, .int p2] : List Value).toArray s = true := (hZ.2.2.2.2.2.2.2.2.2.1 _ (List.mem_of_getElem? (i := 11) rfl)).use rfl
  have wn_35 : (Cond.fieldLinkNest "SheetNames" 98 "SheetNames$Tape" "length" "I" "SheetNames").before ([.ref a_x, .int p1, .int p2] : List Value).toArray s = true := (hZ.2.2.2.2.2.2.2.2.2.1 _ (List.mem_of_getElem? (i := 35) rfl)).use rfl
  unfold f_X_named at hf
  have hgo : ∀ (H : Heap) (locs : List Loc), H = s.heap → va_P D vwCl ((a_x, .inr (10, [.ref a_at, .ref a_g, .ref a_st, .ref a_x_kept, .int x_keptStates, .ref a_tp, .ref a_rd, .ref a_qu, .ref a_sp, .ref a_wk, .ref a_bx, .ref a_nt, .ref a_nu, .ref a_x_seen])) :: (a_rd, .inr (3, [.ref a_g, .ref a_tp, .int rd_next, .int rd_end, .int rd_level, .int rd_key, .int rd_fault, .int rd_faultPlace, .int rd_endedSoon])) :: (a_tp, .inr (8, [.ref a_tp_bytes, .int tp_length])) :: (a_tp_bytes, .inl (ci 0, 200, .inl tp_bytes)) :: (a_at, .inr (0, [.ref a_g, .ref a_st, .int at_right, .int at_faulty, .int at_endedSoon, .int at_noSuchNumber])) :: (a_g, .inr (2, [.ref a_g_rowCuts, .ref a_g_columnCuts, .ref a_g_bandRows, .ref a_g_zoneColumns, .ref a_g_rows, .ref a_g_sheets])) :: (a_g_rowCuts, .inl (ci 0, 5, .inl g_rowCuts)) :: (a_g_columnCuts, .inl (ci 0, 5, .inl g_columnCuts)) :: (a_g_bandRows, .inl (ci 0, 5, .inl g_bandRows)) :: (a_g_zoneColumns, .inl (ci 0, 5, .inl g_zoneColumns)) :: (a_g_rows, .inl (ci 0, 5, .inl g_rows)) :: (a_g_sheets, .inl (ci 0, 5, .inl g_sheets)) :: Rw) H → va_S A s.heap H locs → W p l e ({ frames := 4, cells := 0, slots := 0, locals := 95 } : Room) s m ([.ref a_x, .int p1, .int p2] : List Value).toArray below meth c H locs 0 0 Q (F0 m 0 ls []) := by
    intro H locs hH hP hS
    refine lv_iload_n (pc := 0) hx hb dX10_named_0 rfl (lv_at hl 1 rfl) ?_
    refine lv_iconst (pc := 1) (v := 1) hx hb dX10_named_1 (by decide) ?_
    refine lv_bipush (pc := 2) (v := 40) hx hb dX10_named_2 (by decide) ?_
    obtain ⟨v1, hm4, hf⟩ := q_b1_e hf
    refine q_cSr (pc := 4) (As := [.int p1, .int 1, .int 40]) (rest := []) (v0 := (some (.int v1))) ⟨hx, hb, hml, hown, hts⟩ hK hA hZ hP hD hS hl.1 [] 12 rfl ⟨rfl, rfl, rfl⟩ (c_X_isFrom l D ci A sa N (Rw) p1 1 40 v1 hm4) (va_cwS 3 hts gX10_named_X10_isFrom rfl rfl rfl (by decide +kernel) ⟨Nat.le_of_ble_eq_true rfl, Nat.le_of_ble_eq_true rfl⟩) rfl rfl (Nat.le_of_ble_eq_true rfl) dX10_named_4 ⟨Nat.zero_le _, Nat.zero_le _⟩ (fun locs hS => ?_)
    refine q_if_eq (pc := 7) (tgt := 30) hx hb dX10_named_7 (by decide) rfl hf (fun hf => ?_) (fun hf => ?_)
    · refine lv_iconst (pc := 30) (v := (-1)) hx hb dX10_named_30 (by decide) ?_
      obtain ⟨e90, e91, e92, e93, e94, e95, e96, e97, e98, e99, e910, e911, e912⟩ := q_inj13 (Option.some.inj hf)
      rw [hQ, ← e90, ← e91, ← e92, ← e93, ← e94, ← e95, ← e96, ← e97, ← e98, ← e99, ← e910, ← e911, ← e912]
      exact q_iret (pc := 31) hx hb hr hlocks hP hD hS dX10_named_31
    · refine lv_iload_n (pc := 10) hx hb dX10_named_10 rfl (lv_at hl 2 rfl) ?_
      refine lv_iconst (pc := 11) (v := 0) hx hb dX10_named_11 (by decide) ?_
      refine lv_iconst (pc := 12) (v := 1) hx hb dX10_named_12 (by decide) ?_
      obtain ⟨v2, hm13, hf⟩ := q_b1_e hf
      refine q_cSr (pc := 13) (As := [.int p2, .int 0, .int 1]) (rest := []) (v0 := (some (.int v2))) ⟨hx, hb, hml, hown, hts⟩ hK hA hZ hP hD hS hl.1 [] 12 rfl ⟨rfl, rfl, rfl⟩ (c_X_isFrom l D ci A sa N (Rw) p2 0 1 v2 hm13) (va_cwS 3 hts gX10_named_X10_isFrom rfl rfl rfl (by decide +kernel) ⟨Nat.le_of_ble_eq_true rfl, Nat.le_of_ble_eq_true rfl⟩) rfl rfl (Nat.le_of_ble_eq_true rfl) dX10_named_13 ⟨Nat.zero_le _, Nat.zero_le _⟩ (fun locs hS => ?_)
      refine q_if_eq (pc := 16) (tgt := 30) hx hb dX10_named_16 (by decide) rfl hf (fun hf => ?_) (fun hf => ?_)
      · refine lv_iconst (pc := 30) (v := (-1)) hx hb dX10_named_30 (by decide) ?_
        obtain ⟨e90, e91, e92, e93, e94, e95, e96, e97, e98, e99, e910, e911, e912⟩ := q_inj13 (Option.some.inj hf)
        rw [hQ, ← e90, ← e91, ← e92, ← e93, ← e94, ← e95, ← e96, ← e97, ← e98, ← e99, ← e910, ← e911, ← e912]
        exact q_iret (pc := 31) hx hb hr hlocks hP hD hS dX10_named_31
      · refine lv_aload_n (pc := 19) hx hb dX10_named_19 rfl (lv_at hl 0 rfl) ?_
        refine va_get (pc := 20) (D := D) (ci := 10) (v := .ref a_tp) (C := RX10) (T := TX10) (N := 14) hx hb hts hinX10 hown hK hP 0 rfl rfl 5 (by decide) w_1 (fun _ h9 => h9) rfl dX10_named_20 ?_
        refine va_getN (pc := 23) (D := D) (ci := 8) (v := .int tp_length) (C := RX8) (T := TX8) (N := 2) hx hb hts hinX8 hown hK hP 2 rfl rfl 1 (by decide) wn_35 (fun _ h9 => h9) rfl dX10_named_23 ?_
        refine lv_iload_n (pc := 26) hx hb dX10_named_26 rfl (lv_at hl 1 rfl) ?_
        refine q_icmp_ge (pc := 27) (tgt := 32) hx hb dX10_named_27 (by decide) rfl hf (fun hf => ?_) (fun hf => ?_)
        · refine lv_aload_n (pc := 32) hx hb dX10_named_32 rfl (lv_at hl 0 rfl) ?_
          refine va_get (pc := 33) (D := D) (ci := 10) (v := .ref a_rd) (C := RX10) (T := TX10) (N := 14) hx hb hts hinX10 hown hK hP 0 rfl rfl 6 (by decide) w_2 (fun _ h9 => h9) rfl dX10_named_33 ?_
          refine lv_iconst (pc := 36) (v := 0) hx hb dX10_named_36 (by decide) ?_
          refine lv_iload_n (pc := 37) hx hb dX10_named_37 rfl (lv_at hl 1 rfl) ?_
          obtain ⟨v3, v4, v5, v6, v7, v8, v9, v10, hm38, hf⟩ := q_b8_e hf
          refine q_cV (pc := 38) (As := [.int 0, .int p1]) (rest := []) (v0 := (some (.int v3))) ⟨hx, hb, hml, hown, hts⟩ hK hA hZ hP hD hS hl.1 [1, 2, 3, 5, 6, 7, 8, 9, 10, 11, 0, 4] 12 rfl ⟨rfl, rfl, rfl⟩ (c_NameReader_read l D ci A sa N ((a_x, .inr (10, [.ref a_at, .ref a_g, .ref a_st, .ref a_x_kept, .int x_keptStates, .ref a_tp, .ref a_rd, .ref a_qu, .ref a_sp, .ref a_wk, .ref a_bx, .ref a_nt, .ref a_nu, .ref a_x_seen])) :: (a_at, .inr (0, [.ref a_g, .ref a_st, .int at_right, .int at_faulty, .int at_endedSoon, .int at_noSuchNumber])) :: Rw) a_rd a_g a_tp a_tp_bytes a_g_rowCuts a_g_columnCuts a_g_bandRows a_g_zoneColumns a_g_rows a_g_sheets rd_next rd_end rd_level rd_key rd_fault rd_faultPlace rd_endedSoon tp_length tp_bytes g_rowCuts g_columnCuts g_bandRows g_zoneColumns g_rows g_sheets 0 p1 v3 v4 v5 v6 v7 v8 v9 v10 hm38) 1 rfl rfl (cwV 2 hts gX10_named_X3_read rfl rfl rfl (by decide +kernel) ⟨Nat.le_of_ble_eq_true rfl, Nat.le_of_ble_eq_true rfl⟩) rfl rfl (Nat.le_of_ble_eq_true rfl) dX10_named_38 ⟨Nat.zero_le _, Nat.zero_le _⟩ [10, 0, 1, 2, 11, 3, 4, 5, 6, 7, 8, 9] 12 rfl ⟨rfl, rfl, rfl⟩ (fun H locs hP hD hS => ?_)
          obtain ⟨hP, hD⟩ : va_PD D A ((a_x, .inr (10, [.ref a_at, .ref a_g, .ref a_st, .ref a_x_kept, .int x_keptStates, .ref a_tp, .ref a_rd, .ref a_qu, .ref a_sp, .ref a_wk, .ref a_bx, .ref a_nt, .ref a_nu, .ref a_x_seen])) :: (a_rd, .inr (3, [.ref a_g, .ref a_tp, .int v4, .int v5, .int v6, .int v7, .int v8, .int v9, .int v10])) :: (a_tp, .inr (8, [.ref a_tp_bytes, .int tp_length])) :: (a_tp_bytes, .inl (ci 0, 200, .inl tp_bytes)) :: (a_at, .inr (0, [.ref a_g, .ref a_st, .int at_right, .int at_faulty, .int at_endedSoon, .int at_noSuchNumber])) :: (a_g, .inr (2, [.ref a_g_rowCuts, .ref a_g_columnCuts, .ref a_g_bandRows, .ref a_g_zoneColumns, .ref a_g_rows, .ref a_g_sheets])) :: (a_g_rowCuts, .inl (ci 0, 5, .inl g_rowCuts)) :: (a_g_columnCuts, .inl (ci 0, 5, .inl g_columnCuts)) :: (a_g_bandRows, .inl (ci 0, 5, .inl g_bandRows)) :: (a_g_zoneColumns, .inl (ci 0, 5, .inl g_zoneColumns)) :: (a_g_rows, .inl (ci 0, 5, .inl g_rows)) :: (a_g_sheets, .inl (ci 0, 5, .inl g_sheets)) :: Rw) H := ⟨hP, hD⟩
          refine lv_istore_n (pc := 41) (lv' := [(3, .int v3), (0, .ref a_x), (1, .int p1), (2, .int p2)]) hx hb dX10_named_41 rfl hl (by decide) rfl (fun ls hl => ?_)
          refine lv_aload_n (pc := 42) hx hb dX10_named_42 rfl (lv_at hl 1 rfl) ?_
          refine va_get (pc := 43) (D := D) (ci := 10) (v := .ref a_tp) (C := RX10) (T := TX10) (N := 14) hx hb hts hinX10 hown hK hP 0 rfl rfl 5 (by decide) w_1 (fun _ h9 => h9) rfl dX10_named_43 ?_
          refine lv_iconst (pc := 46) (v := 0) hx hb dX10_named_46 (by decide) ?_
          refine va_putN (pc := 47) (D := D) (ci := 8) (v := .int 0) (ty := .int) (C := RX8) (T := TX8) (N := 2) hx hb hts hinX8 tyX8 tyX8_ok nmX8 hown hK hP hD hS 2 rfl rfl 1 (by decide) wn_35 (fun _ h9 => h9) rfl (by decide +kernel) rfl rfl (Nat.le_of_ble_eq_true rfl) dX10_named_47 (fun H locs hP hD hS => ?_)
          obtain ⟨hP, hD⟩ : va_PD D A ((a_x, .inr (10, [.ref a_at, .ref a_g, .ref a_st, .ref a_x_kept, .int x_keptStates, .ref a_tp, .ref a_rd, .ref a_qu, .ref a_sp, .ref a_wk, .ref a_bx, .ref a_nt, .ref a_nu, .ref a_x_seen])) :: (a_rd, .inr (3, [.ref a_g, .ref a_tp, .int v4, .int v5, .int v6, .int v7, .int v8, .int v9, .int v10])) :: (a_tp, .inr (8, [.ref a_tp_bytes, .int 0])) :: (a_tp_bytes, .inl (ci 0, 200, .inl tp_bytes)) :: (a_at, .inr (0, [.ref a_g, .ref a_st, .int at_right, .int at_faulty, .int at_endedSoon, .int at_noSuchNumber])) :: (a_g, .inr (2, [.ref a_g_rowCuts, .ref a_g_columnCuts, .ref a_g_bandRows, .ref a_g_zoneColumns, .ref a_g_rows, .ref a_g_sheets])) :: (a_g_rowCuts, .inl (ci 0, 5, .inl g_rowCuts)) :: (a_g_columnCuts, .inl (ci 0, 5, .inl g_columnCuts)) :: (a_g_bandRows, .inl (ci 0, 5, .inl g_bandRows)) :: (a_g_zoneColumns, .inl (ci 0, 5, .inl g_zoneColumns)) :: (a_g_rows, .inl (ci 0, 5, .inl g_rows)) :: (a_g_sheets, .inl (ci 0, 5, .inl g_sheets)) :: Rw) H := ⟨hP, hD⟩
          refine lv_aload_n (pc := 50) hx hb dX10_named_50 rfl (lv_at hl 1 rfl) ?_
          refine va_get (pc := 51) (D := D) (ci := 10) (v := .ref a_at) (C := RX10) (T := TX10) (N := 14) hx hb hts hinX10 hown hK hP 0 rfl rfl 0 (by decide) w_3 (fun _ h9 => h9) rfl dX10_named_51 ?_
          refine lv_aload_n (pc := 54) hx hb dX10_named_54 rfl (lv_at hl 1 rfl) ?_
          refine va_get (pc := 55) (D := D) (ci := 10) (v := .ref a_rd) (C := RX10) (T := TX10) (N := 14) hx hb hts hinX10 hown hK hP 0 rfl rfl 6 (by decide) w_2 (fun _ h9 => h9) rfl dX10_named_55 ?_
          refine lv_iload_n (pc := 58) hx hb dX10_named_58 rfl (lv_at hl 0 rfl) ?_
          obtain ⟨v11, v12, v13, v14, hm59, hf⟩ := q_b4_e hf
          refine q_cV (pc := 59) (As := [.ref a_rd, .int v3]) (rest := []) (v0 := none) ⟨hx, hb, hml, hown, hts⟩ hK hA hZ hP hD hS hl.1 [1, 4, 0, 2, 3, 5, 6, 7, 8, 9, 10, 11] 12 rfl ⟨rfl, rfl, rfl⟩ (c_Atlas_countText l D ci A sa N ((a_x, .inr (10, [.ref a_at, .ref a_g, .ref a_st, .ref a_x_kept, .int x_keptStates, .ref a_tp, .ref a_rd, .ref a_qu, .ref a_sp, .ref a_wk, .ref a_bx, .ref a_nt, .ref a_nu, .ref a_x_seen])) :: (a_tp, .inr (8, [.ref a_tp_bytes, .int 0])) :: (a_tp_bytes, .inl (ci 0, 200, .inl tp_bytes)) :: (a_g, .inr (2, [.ref a_g_rowCuts, .ref a_g_columnCuts, .ref a_g_bandRows, .ref a_g_zoneColumns, .ref a_g_rows, .ref a_g_sheets])) :: (a_g_rowCuts, .inl (ci 0, 5, .inl g_rowCuts)) :: (a_g_columnCuts, .inl (ci 0, 5, .inl g_columnCuts)) :: (a_g_bandRows, .inl (ci 0, 5, .inl g_bandRows)) :: (a_g_zoneColumns, .inl (ci 0, 5, .inl g_zoneColumns)) :: (a_g_rows, .inl (ci 0, 5, .inl g_rows)) :: (a_g_sheets, .inl (ci 0, 5, .inl g_sheets)) :: Rw) a_rd a_g a_tp a_at a_st v4 v5 v6 v7 v8 v9 v10 at_right at_faulty at_endedSoon at_noSuchNumber v3 v11 v12 v13 v14 hm59) 4 rfl rfl (cwV 2 hts gX10_named_X0_countText rfl rfl rfl (by decide +kernel) ⟨Nat.le_of_ble_eq_true rfl, Nat.le_of_ble_eq_true rfl⟩) rfl rfl (Nat.le_of_ble_eq_true rfl) dX10_named_59 ⟨Nat.zero_le _, Nat.zero_le _⟩ [2, 0, 3, 4, 1, 5, 6, 7, 8, 9, 10, 11] 12 rfl ⟨rfl, rfl, rfl⟩ (fun H locs hP hD hS => ?_)
          obtain ⟨hP, hD⟩ : va_PD D A ((a_x, .inr (10, [.ref a_at, .ref a_g, .ref a_st, .ref a_x_kept, .int x_keptStates, .ref a_tp, .ref a_rd, .ref a_qu, .ref a_sp, .ref a_wk, .ref a_bx, .ref a_nt, .ref a_nu, .ref a_x_seen])) :: (a_rd, .inr (3, [.ref a_g, .ref a_tp, .int v4, .int v5, .int v6, .int v7, .int v8, .int v9, .int v10])) :: (a_tp, .inr (8, [.ref a_tp_bytes, .int 0])) :: (a_tp_bytes, .inl (ci 0, 200, .inl tp_bytes)) :: (a_at, .inr (0, [.ref a_g, .ref a_st, .int v11, .int v12, .int v13, .int v14])) :: (a_g, .inr (2, [.ref a_g_rowCuts, .ref a_g_columnCuts, .ref a_g_bandRows, .ref a_g_zoneColumns, .ref a_g_rows, .ref a_g_sheets])) :: (a_g_rowCuts, .inl (ci 0, 5, .inl g_rowCuts)) :: (a_g_columnCuts, .inl (ci 0, 5, .inl g_columnCuts)) :: (a_g_bandRows, .inl (ci 0, 5, .inl g_bandRows)) :: (a_g_zoneColumns, .inl (ci 0, 5, .inl g_zoneColumns)) :: (a_g_rows, .inl (ci 0, 5, .inl g_rows)) :: (a_g_sheets, .inl (ci 0, 5, .inl g_sheets)) :: Rw) H := ⟨hP, hD⟩
          refine lv_iload_n (pc := 62) hx hb dX10_named_62 rfl (lv_at hl 0 rfl) ?_
          refine q_if_ne (pc := 63) (tgt := 74) hx hb dX10_named_63 (by decide) rfl hf (fun hf => ?_) (fun hf => ?_)
          · refine lv_iload_n (pc := 74) hx hb dX10_named_74 rfl (lv_at hl 3 rfl) ?_
            refine q_if_ne (pc := 75) (tgt := 88) hx hb dX10_named_75 (by decide) rfl hf (fun hf => ?_) (fun hf => ?_)
            · refine lv_aload_n (pc := 88) hx hb dX10_named_88 rfl (lv_at hl 1 rfl) ?_
              refine va_get (pc := 89) (D := D) (ci := 10) (v := .ref a_rd) (C := RX10) (T := TX10) (N := 14) hx hb hts hinX10 hown hK hP 0 rfl rfl 6 (by decide) w_2 (fun _ h9 => h9) rfl dX10_named_89 ?_
              refine va_getN (pc := 92) (D := D) (ci := 3) (v := .int v7) (C := RX3) (T := TX3) (N := 9) hx hb hts hinX3 hown hK hP 1 rfl rfl 5 (by decide) wn_11 (fun _ h9 => h9) rfl dX10_named_92 ?_
              obtain ⟨e90, e91, e92, e93, e94, e95, e96, e97, e98, e99, e910, e911, e912⟩ := q_inj13 (Option.some.inj hf)
              rw [hQ, ← e90, ← e91, ← e92, ← e93, ← e94, ← e95, ← e96, ← e97, ← e98, ← e99, ← e910, ← e911, ← e912]
              exact q_iret (pc := 95) hx hb hr hlocks hP hD hS dX10_named_95
            · refine lv_aload_n (pc := 78) hx hb dX10_named_78 rfl (lv_at hl 1 rfl) ?_
              refine va_get (pc := 79) (D := D) (ci := 10) (v := .ref a_rd) (C := RX10) (T := TX10) (N := 14) hx hb hts hinX10 hown hK hP 0 rfl rfl 6 (by decide) w_2 (fun _ h9 => h9) rfl dX10_named_79 ?_
              refine va_getN (pc := 82) (D := D) (ci := 3) (v := .int v6) (C := RX3) (T := TX3) (N := 9) hx hb hts hinX3 hown hK hP 1 rfl rfl 4 (by decide) wn_10 (fun _ h9 => h9) rfl dX10_named_82 ?_
              refine lv_goto (pc := 85) (tgt := 95) hx hb dX10_named_85 (by decide) ?_
              obtain ⟨e90, e91, e92, e93, e94, e95, e96, e97, e98, e99, e910, e911, e912⟩ := q_inj13 (Option.some.inj hf)
              rw [hQ, ← e90, ← e91, ← e92, ← e93, ← e94, ← e95, ← e96, ← e97, ← e98, ← e99, ← e910, ← e911, ← e912]
              exact q_iret (pc := 95) hx hb hr hlocks hP hD hS dX10_named_95
          · refine lv_aload_n (pc := 66) hx hb dX10_named_66 rfl (lv_at hl 1 rfl) ?_
            refine va_get (pc := 67) (D := D) (ci := 10) (v := .ref a_rd) (C := RX10) (T := TX10) (N := 14) hx hb hts hinX10 hown hK hP 0 rfl rfl 6 (by decide) w_2 (fun _ h9 => h9) rfl dX10_named_67 ?_
            obtain ⟨v15, hm70, hf⟩ := q_b1_e hf
            refine q_cVr (pc := 70) (As := []) (rest := []) (v0 := (some (.int v15))) ⟨hx, hb, hml, hown, hts⟩ hK hA hZ hP hD hS hl.1 [1] 12 rfl ⟨rfl, rfl, rfl⟩ (c_NameReader_told l D ci A sa N (Rw) a_rd a_g a_tp v4 v5 v6 v7 v8 v9 v10 v15 hm70) 1 rfl rfl (cwV 0 hts gX10_named_X3_told rfl rfl rfl (by decide +kernel) ⟨Nat.le_of_ble_eq_true rfl, Nat.le_of_ble_eq_true rfl⟩) rfl rfl (Nat.le_of_ble_eq_true rfl) dX10_named_70 ⟨Nat.zero_le _, Nat.zero_le _⟩ (fun locs hS => ?_)
            obtain ⟨e90, e91, e92, e93, e94, e95, e96, e97, e98, e99, e910, e911, e912⟩ := q_inj13 (Option.some.inj hf)
            rw [hQ, ← e90, ← e91, ← e92, ← e93, ← e94, ← e95, ← e96, ← e97, ← e98, ← e99, ← e910, ← e911, ← e912]
            exact q_iret (pc := 73) hx hb hr hlocks hP hD hS dX10_named_73
        · refine lv_iconst (pc := 30) (v := (-1)) hx hb dX10_named_30 (by decide) ?_
          obtain ⟨e90, e91, e92, e93, e94, e95, e96, e97, e98, e99, e910, e911, e912⟩ := q_inj13 (Option.some.inj hf)
          rw [hQ, ← e90, ← e91, ← e92, ← e93, ← e94, ← e95, ← e96, ← e97, ← e98, ← e99, ← e910, ← e911, ← e912]
          exact q_iret (pc := 31) hx hb hr hlocks hP hD hS dX10_named_31
  exact hgo _ _ rfl hP hS
/-! X10_oldest -/
set_option maxRecDepth 100000 in
set_option maxHeartbeats 4000000 in
theorem c_X_oldest (l : Launch) (D : va_G) (ci : Nat → ClassId) (A : Nat → Prop) (sa : Nat → Nat) (N : Nat) (Rw : va_W) (a_x : Nat) (a_at : Nat) (a_g : Nat) (a_st : Nat) (a_x_kept : Nat) (a_tp : Nat) (a_rd : Nat) (a_qu : Nat) (a_sp : Nat) (a_wk : Nat) (a_bx : Nat) (a_nt : Nat) (a_nu : Nat) (a_x_seen : Nat) (a_st_levels : Nat) (a_st_keys : Nat) (a_st_years : Nat) (a_st_keysThere : Nat) (x_keptStates : Int32) (st_size : Int32) (st_shownBy : Int32) (st_deepestShown : Int32) (st_latestShown : Int32) (st_levels : Nat → Int32) (st_keys : Nat → Int32) (st_years : Nat → Int32) (p1 : Int32) (p2 : Int32) (r : Int32) (hf : f_X_oldest N st_levels st_keys st_years st_size p1 p2 = some r) : Met l yX10_oldest wsX10_oldest ({ frames := 1, cells := 0, slots := 0, locals := 22 }) (va_Pc [.ref a_x, .int p1, .int p2] (q_N D ci A sa ((a_x, .inr (10, [.ref a_at, .ref a_g, .ref a_st, .ref a_x_kept, .int x_keptStates, .ref a_tp, .ref a_rd, .ref a_qu, .ref a_sp, .ref a_wk, .ref a_bx, .ref a_nt, .ref a_nu, .ref a_x_seen])) :: (a_st, .inr (7, [.ref a_g, .ref a_st_levels, .ref a_st_keys, .ref a_st_years, .ref a_st_keysThere, .int st_size, .int st_shownBy, .int st_deepestShown, .int st_latestShown])) :: (a_st_levels, .inl (ci 0, 60, .inl st_levels)) :: (a_st_keys, .inl (ci 0, 60, .inl st_keys)) :: (a_st_years, .inl (ci 0, 60, .inl st_years)) :: Rw))) (q_R (some (.int r))) 0 0 A := by
  refine q_ofW (cc := cX10_oldest) (maxL := 6) (ret := (some .int)) [.ref a_x, .int p1, .int p2] (plainFor_of_name (by decide)) rfl (Nat.le_of_ble_eq_true rfl) ?_
  intro p e s m below meth c ls Q hQ hx hb hml hr hts hown hlocks hK hA hZ hP hD hS hl
  have hl : lv_has ls 6 [(0, .ref a_x), (1, .int p1), (2, .int p2)] := hl
  have hown : s.vm.findClass RX10 = some m.cls := hown
  have hinX10 : ∀ w ∈ wsX100, w ∈ wsX10_oldest := fun _ h => List.mem_cons_of_mem _ (inWX100 _ h)
  have hinX7 : ∀ w ∈ wsX70, w ∈ wsX10_oldest := fun _ h => List.mem_cons_of_mem _ (inWX70 _ h)
  have w_1 := hts (Cond.fieldLink RX10 25 "SheetNames" "pieces" "LSheetNames$Store;") (List.mem_cons_of_mem _ t_w892)
  have wn_0 : (Cond.fieldLinkNest "SheetNames" 109 "SheetNames$Store" "size" "I" "SheetNames").before ([.ref a_x, .int p1, .int p2] : List Value).toArray s = true := (hZ.2.2.2.2.2.2.2.2.2.1 _ (List.mem_of_getElem? (i := 0) rfl)).use rfl
  have wn_25 : (Cond.fieldLinkNest "SheetNames" 376 "SheetNames$Store" "years" "[I" "SheetNames").before ([.ref a_x, .int p1, .int p2] : List Value).toArray s = true := (hZ.2.2.2.2.2.2.2.2.2.1 _ (List.mem_of_getElem? (i := 25) rfl)).use rfl
  have wn_26 : (Cond.fieldLinkNest "SheetNames" 382 "SheetNames$Store" "levels" "[I" "SheetNames").before ([.ref a_x, .int p1, .int p2] : List Value).toArray s = true := (hZ.2.2.2.2.2.2.2.2.2.1 _ (List.mem_of_getElem? (i := 26) rfl)).use rfl
  have wn_27 : (Cond.fieldLinkNest "SheetNames" 385 "SheetNames$Store" "keys" "[I" "SheetNames").before ([.ref a_x, .int p1, .int p2] : List Value).toArray s = true := (hZ.2.2.2.2.2.2.2.2.2.1 _ (List.mem_of_getElem? (i := 27) rfl)).use rfl
  unfold f_X_oldest at hf
  have hgo : ∀ (H : Heap) (locs : List Loc), H = s.heap → va_P D vwCl ((a_x, .inr (10, [.ref a_at, .ref a_g, .ref a_st, .ref a_x_kept, .int x_keptStates, .ref a_tp, .ref a_rd, .ref a_qu, .ref a_sp, .ref a_wk, .ref a_bx, .ref a_nt, .ref a_nu, .ref a_x_seen])) :: (a_st, .inr (7, [.ref a_g, .ref a_st_levels, .ref a_st_keys, .ref a_st_years, .ref a_st_keysThere, .int st_size, .int st_shownBy, .int st_deepestShown, .int st_latestShown])) :: (a_st_levels, .inl (ci 0, 60, .inl st_levels)) :: (a_st_keys, .inl (ci 0, 60, .inl st_keys)) :: (a_st_years, .inl (ci 0, 60, .inl st_years)) :: Rw) H → va_S A s.heap H locs → W p l e ({ frames := 1, cells := 0, slots := 0, locals := 22 } : Room) s m ([.ref a_x, .int p1, .int p2] : List Value).toArray below meth c H locs 0 0 Q (F0 m 0 ls []) := by
    intro H locs hH hP hS
    subst hH
    refine lv_iload_n (pc := 0) hx hb dX10_oldest_0 rfl (lv_at hl 1 rfl) ?_
    obtain ⟨v1, hm1, hf⟩ := q_b1_e hf
    refine q_cSr (pc := 1) (As := [.int p1]) (rest := []) (v0 := (some (.int v1))) ⟨hx, hb, hml, hown, hts⟩ hK hA hZ hP hD hS hl.1 [] 5 rfl ⟨rfl, rfl, rfl⟩ (c_X_isLevel l D ci A sa N (Rw) p1 v1 hm1) (va_cwS 1 hts gX10_oldest_X10_isLevel rfl rfl rfl (by decide +kernel) ⟨Nat.le_of_ble_eq_true rfl, Nat.le_of_ble_eq_true rfl⟩) rfl rfl (Nat.le_of_ble_eq_true rfl) dX10_oldest_1 ⟨Nat.zero_le _, Nat.zero_le _⟩ (fun locs hS => ?_)
    refine q_if_eq (pc := 4) (tgt := 16) hx hb dX10_oldest_4 (by decide) rfl hf (fun hf => ?_) (fun hf => ?_)
    · refine lv_iconst (pc := 16) (v := (-1)) hx hb dX10_oldest_16 (by decide) ?_
      obtain rfl := Option.some.inj hf
      rw [hQ]
      exact q_iretr (pc := 17) hx hb hr hlocks rfl hS dX10_oldest_17
    · refine lv_iload_n (pc := 7) hx hb dX10_oldest_7 rfl (lv_at hl 2 rfl) ?_
      refine lv_iconst (pc := 8) (v := 0) hx hb dX10_oldest_8 (by decide) ?_
      refine lv_iconst (pc := 9) (v := 2) hx hb dX10_oldest_9 (by decide) ?_
      obtain ⟨v2, hm10, hf⟩ := q_b1_e hf
      refine q_cSr (pc := 10) (As := [.int p2, .int 0, .int 2]) (rest := []) (v0 := (some (.int v2))) ⟨hx, hb, hml, hown, hts⟩ hK hA hZ hP hD hS hl.1 [] 5 rfl ⟨rfl, rfl, rfl⟩ (c_X_isFrom l D ci A sa N (Rw) p2 0 2 v2 hm10) (va_cwS 3 hts gX10_oldest_X10_isFrom rfl rfl rfl (by decide +kernel) ⟨Nat.le_of_ble_eq_true rfl, Nat.le_of_ble_eq_true rfl⟩) rfl rfl (Nat.le_of_ble_eq_true rfl) dX10_oldest_10 ⟨Nat.zero_le _, Nat.zero_le _⟩ (fun locs hS => ?_)
      refine q_if_ne (pc := 13) (tgt := 18) hx hb dX10_oldest_13 (by decide) rfl hf (fun hf => ?_) (fun hf => ?_)
      · refine lv_iconst (pc := 18) (v := (-1)) hx hb dX10_oldest_18 (by decide) ?_
        obtain ⟨v3, ev3, hf⟩ := q_nm_e hf
        refine q_topi ev3 ?_
        refine lv_istore_n (pc := 19) (lv' := [(3, .int v3), (0, .ref a_x), (1, .int p1), (2, .int p2)]) hx hb dX10_oldest_19 rfl hl (by decide) rfl (fun ls hl => ?_)
        refine lv_iconst (pc := 20) (v := 0) hx hb dX10_oldest_20 (by decide) ?_
        obtain ⟨v4, ev4, hf⟩ := q_nm_e hf
        refine q_topi ev4 ?_
        refine lv_istore (pc := 21) (lv' := [(4, .int v4), (3, .int v3), (0, .ref a_x), (1, .int p1), (2, .int p2)]) hx hb dX10_oldest_21 hl (by decide) rfl (fun ls hl => ?_)
        refine lv_iconst (pc := 23) (v := 0) hx hb dX10_oldest_23 (by decide) ?_
        obtain ⟨v5, ev5, hf⟩ := q_nm_e hf
        refine q_topi ev5 ?_
        refine lv_istore (pc := 24) (lv' := [(5, .int v5), (4, .int v4), (3, .int v3), (0, .ref a_x), (1, .int p1), (2, .int p2)]) hx hb dX10_oldest_24 hl (by decide) rfl (fun ls hl => ?_)
        obtain ⟨v9, v10, hm26, hf⟩ := q_b2_e hf
        have JE26 : ∀ (H : Heap) (locs : List Loc) (ls : Array Slot), H = s.heap → va_S A s.heap H locs → lv_has ls 6 [(0, .ref a_x), (2, .int p2), (3, .int v9), (4, .int v10)] → W p l e ({ frames := 1, cells := 0, slots := 0, locals := 22 } : Room) s m ([.ref a_x, .int p1, .int p2] : List Value).toArray below meth c H locs 0 0 Q (F0 m 119 ls []) := by
          intro H locs ls hHs hS hl
          subst hHs
          refine lv_iload_n (pc := 119) hx hb dX10_oldest_119 rfl (lv_at hl 2 rfl) ?_
          refine lv_iconst (pc := 120) (v := (-1)) hx hb dX10_oldest_120 (by decide) ?_
          refine q_icmp_ne (pc := 121) (tgt := 127) hx hb dX10_oldest_121 (by decide) rfl hf (fun hf => ?_) (fun hf => ?_)
          · refine lv_iload_n (pc := 127) hx hb dX10_oldest_127 rfl (lv_at hl 1 rfl) ?_
            refine q_if_ne (pc := 128) (tgt := 141) hx hb dX10_oldest_128 (by decide) rfl hf (fun hf => ?_) (fun hf => ?_)
            · refine lv_iload_n (pc := 141) hx hb dX10_oldest_141 rfl (lv_at hl 1 rfl) ?_
              refine lv_iconst (pc := 142) (v := 1) hx hb dX10_oldest_142 (by decide) ?_
              refine q_icmp_ne (pc := 143) (tgt := 158) hx hb dX10_oldest_143 (by decide) rfl hf (fun hf => ?_) (fun hf => ?_)
              · refine lv_iload (pc := 158) hx hb dX10_oldest_158 (lv_at hl 3 rfl) ?_
                obtain rfl := Option.some.inj hf
                rw [hQ]
                exact q_iretr (pc := 160) hx hb hr hlocks rfl hS dX10_oldest_160
              · refine lv_aload_n (pc := 146) hx hb dX10_oldest_146 rfl (lv_at hl 0 rfl) ?_
                refine va_get (pc := 147) (D := D) (ci := 10) (v := .ref a_st) (C := RX10) (T := TX10) (N := 14) hx hb hts hinX10 hown hK hP 0 rfl rfl 2 (by decide) w_1 (fun _ h9 => h9) rfl dX10_oldest_147 ?_
                refine va_getN (pc := 150) (D := D) (ci := 7) (v := .ref a_st_years) (C := RX7) (T := TX7) (N := 9) hx hb hts hinX7 hown hK hP 1 rfl rfl 3 (by decide) wn_25 (fun _ h9 => h9) rfl dX10_oldest_150 ?_
                refine lv_iload_n (pc := 153) hx hb dX10_oldest_153 rfl (lv_at hl 2 rfl) ?_
                refine q_iald (pc := 154) hx hb hK hP 4 0 hf rfl rfl dX10_oldest_154 (fun v11 hf => ?_)
                refine lv_goto (pc := 155) (tgt := 160) hx hb dX10_oldest_155 (by decide) ?_
                obtain rfl := Option.some.inj hf
                rw [hQ]
                exact q_iretr (pc := 160) hx hb hr hlocks rfl hS dX10_oldest_160
            · refine lv_aload_n (pc := 131) hx hb dX10_oldest_131 rfl (lv_at hl 0 rfl) ?_
              refine va_get (pc := 132) (D := D) (ci := 10) (v := .ref a_st) (C := RX10) (T := TX10) (N := 14) hx hb hts hinX10 hown hK hP 0 rfl rfl 2 (by decide) w_1 (fun _ h9 => h9) rfl dX10_oldest_132 ?_
              refine va_getN (pc := 135) (D := D) (ci := 7) (v := .ref a_st_keys) (C := RX7) (T := TX7) (N := 9) hx hb hts hinX7 hown hK hP 1 rfl rfl 2 (by decide) wn_27 (fun _ h9 => h9) rfl dX10_oldest_135 ?_
              refine lv_iload_n (pc := 138) hx hb dX10_oldest_138 rfl (lv_at hl 2 rfl) ?_
              refine q_iald (pc := 139) hx hb hK hP 3 0 hf rfl rfl dX10_oldest_139 (fun v12 hf => ?_)
              obtain rfl := Option.some.inj hf
              rw [hQ]
              exact q_iretr (pc := 140) hx hb hr hlocks rfl hS dX10_oldest_140
          · refine lv_bipush (pc := 124) (v := (-2)) hx hb dX10_oldest_124 (by decide) ?_
            obtain rfl := Option.some.inj hf
            rw [hQ]
            exact q_iretr (pc := 126) hx hb hr hlocks rfl hS dX10_oldest_126
        have LP26 : ∀ (n26 : Nat) (v6 : Int32) (v7 : Int32) (v8 : Int32) (H : Heap) (locs : List Loc) (ls : Array Slot), f_X_oldest_L26 p1 st_levels st_size st_years n26 v6 v7 v8 = some (v9, v10) → H = s.heap → va_S A s.heap H locs → lv_has ls 6 [(0, .ref a_x), (1, .int p1), (2, .int p2), (3, .int v6), (4, .int v7), (5, .int v8)] → W p l e ({ frames := 1, cells := 0, slots := 0, locals := 22 } : Room) s m ([.ref a_x, .int p1, .int p2] : List Value).toArray below meth c H locs 0 0 Q (F0 m 26 ls []) := by
          intro n26
          induction n26 with
          | zero => intro v6 v7 v8 H locs ls hf; rw [f_X_oldest_L26] at hf; cases hf
          | succ n26 ih26 =>
            intro v6 v7 v8 H locs ls hf hHs hS hl
            subst hHs
            rw [f_X_oldest_L26] at hf
            refine lv_iload (pc := 26) hx hb dX10_oldest_26 (lv_at hl 5 rfl) ?_
            refine lv_aload_n (pc := 28) hx hb dX10_oldest_28 rfl (lv_at hl 0 rfl) ?_
            refine va_get (pc := 29) (D := D) (ci := 10) (v := .ref a_st) (C := RX10) (T := TX10) (N := 14) hx hb hts hinX10 hown hK hP 0 rfl rfl 2 (by decide) w_1 (fun _ h9 => h9) rfl dX10_oldest_29 ?_
            refine va_getN (pc := 32) (D := D) (ci := 7) (v := .int st_size) (C := RX7) (T := TX7) (N := 9) hx hb hts hinX7 hown hK hP 1 rfl rfl 5 (by decide) wn_0 (fun _ h9 => h9) rfl dX10_oldest_32 ?_
            refine q_icmp_ge (pc := 35) (tgt := 119) hx hb dX10_oldest_35 (by decide) rfl hf (fun hf => ?_) (fun hf => ?_)
            · obtain ⟨rfl, rfl⟩ := q_inj2 (Option.some.inj hf)
              exact JE26 _ _ _ rfl hS (lv_sub hl [0, 2, 3, 4] rfl)
            · refine lv_aload_n (pc := 38) hx hb dX10_oldest_38 rfl (lv_at hl 0 rfl) ?_
              refine va_get (pc := 39) (D := D) (ci := 10) (v := .ref a_st) (C := RX10) (T := TX10) (N := 14) hx hb hts hinX10 hown hK hP 0 rfl rfl 2 (by decide) w_1 (fun _ h9 => h9) rfl dX10_oldest_39 ?_
              refine va_getN (pc := 42) (D := D) (ci := 7) (v := .ref a_st_levels) (C := RX7) (T := TX7) (N := 9) hx hb hts hinX7 hown hK hP 1 rfl rfl 1 (by decide) wn_26 (fun _ h9 => h9) rfl dX10_oldest_42 ?_
              refine lv_iload (pc := 45) hx hb dX10_oldest_45 (lv_at hl 5 rfl) ?_
              refine q_iald (pc := 47) hx hb hK hP 2 0 hf rfl rfl dX10_oldest_47 (fun v13 hf => ?_)
              refine lv_iload_n (pc := 48) hx hb dX10_oldest_48 rfl (lv_at hl 1 rfl) ?_
              obtain ⟨k113, ek113, hf⟩ := q_j2_e hf
              have J113 : ∀ (v14 : Int32) (v15 : Int32) (H : Heap) (locs : List Loc) (ls : Array Slot), k113 v14 v15 = some (v9, v10) → H = s.heap → va_S A s.heap H locs → lv_has ls 6 [(0, .ref a_x), (1, .int p1), (2, .int p2), (3, .int v14), (4, .int v15), (5, .int v8)] → W p l e ({ frames := 1, cells := 0, slots := 0, locals := 22 } : Room) s m ([.ref a_x, .int p1, .int p2] : List Value).toArray below meth c H locs 0 0 Q (F0 m 113 ls []) := by
                intro v14 v15 H locs ls hf hHs hS hl
                subst hHs
                have hf := (ek113 v14 v15).symm.trans hf
                obtain ⟨v16, ev16, hf⟩ := q_nm_e hf
                refine lv_iinc (pc := 113) (v := v16) (lv' := [(5, .int v16), (0, .ref a_x), (1, .int p1), (2, .int p2), (3, .int v14), (4, .int v15)]) hx hb dX10_oldest_113 hl (k := 5) rfl (by rw [ev16]; rfl) (by decide) rfl (fun ls hl => ?_)
                refine lv_goto (pc := 116) (tgt := 26) hx hb dX10_oldest_116 (by decide) ?_
                exact ih26 v14 v15 v16 _ _ _ hf rfl hS (lv_sub hl [1, 2, 3, 4, 5, 0] rfl)
              refine q_icmp_eq (pc := 49) (tgt := 55) hx hb dX10_oldest_49 (by decide) rfl hf (fun hf => ?_) (fun hf => ?_)
              · refine lv_iload_n (pc := 55) hx hb dX10_oldest_55 rfl (lv_at hl 3 rfl) ?_
                refine lv_iconst (pc := 56) (v := (-1)) hx hb dX10_oldest_56 (by decide) ?_
                obtain ⟨k88, ek88, hf⟩ := q_j2_e hf
                have J88 : ∀ (v17 : Int32) (v18 : Int32) (H : Heap) (locs : List Loc) (ls : Array Slot), k88 v17 v18 = some (v9, v10) → H = s.heap → va_S A s.heap H locs → lv_has ls 6 [(0, .ref a_x), (1, .int p1), (2, .int p2), (3, .int v17), (4, .int v18), (5, .int v8)] → W p l e ({ frames := 1, cells := 0, slots := 0, locals := 22 } : Room) s m ([.ref a_x, .int p1, .int p2] : List Value).toArray below meth c H locs 0 0 Q (F0 m 88 ls []) := by
                  intro v17 v18 H locs ls hf hHs hS hl
                  subst hHs
                  have hf := (ek88 v17 v18).symm.trans hf
                  refine lv_aload_n (pc := 88) hx hb dX10_oldest_88 rfl (lv_at hl 0 rfl) ?_
                  refine va_get (pc := 89) (D := D) (ci := 10) (v := .ref a_st) (C := RX10) (T := TX10) (N := 14) hx hb hts hinX10 hown hK hP 0 rfl rfl 2 (by decide) w_1 (fun _ h9 => h9) rfl dX10_oldest_89 ?_
                  refine va_getN (pc := 92) (D := D) (ci := 7) (v := .ref a_st_years) (C := RX7) (T := TX7) (N := 9) hx hb hts hinX7 hown hK hP 1 rfl rfl 3 (by decide) wn_25 (fun _ h9 => h9) rfl dX10_oldest_92 ?_
                  refine lv_iload (pc := 95) hx hb dX10_oldest_95 (lv_at hl 5 rfl) ?_
                  refine q_iald (pc := 97) hx hb hK hP 4 0 hf rfl rfl dX10_oldest_97 (fun v19 hf => ?_)
                  refine lv_aload_n (pc := 98) hx hb dX10_oldest_98 rfl (lv_at hl 0 rfl) ?_
                  refine va_get (pc := 99) (D := D) (ci := 10) (v := .ref a_st) (C := RX10) (T := TX10) (N := 14) hx hb hts hinX10 hown hK hP 0 rfl rfl 2 (by decide) w_1 (fun _ h9 => h9) rfl dX10_oldest_99 ?_
                  refine va_getN (pc := 102) (D := D) (ci := 7) (v := .ref a_st_years) (C := RX7) (T := TX7) (N := 9) hx hb hts hinX7 hown hK hP 1 rfl rfl 3 (by decide) wn_25 (fun _ h9 => h9) rfl dX10_oldest_102 ?_
                  refine lv_iload_n (pc := 105) hx hb dX10_oldest_105 rfl (lv_at hl 3 rfl) ?_
                  refine q_iald (pc := 106) hx hb hK hP 4 0 hf rfl rfl dX10_oldest_106 (fun v20 hf => ?_)
                  refine q_icmp_ne (pc := 107) (tgt := 113) hx hb dX10_oldest_107 (by decide) rfl hf (fun hf => ?_) (fun hf => ?_)
                  · exact J113 v17 v18 _ _ _ hf rfl hS (lv_sub hl [0, 1, 2, 3, 4, 5] rfl)
                  · obtain ⟨v21, ev21, hf⟩ := q_nm_e hf
                    refine lv_iinc (pc := 110) (v := v21) (lv' := [(4, .int v21), (0, .ref a_x), (1, .int p1), (2, .int p2), (3, .int v17), (5, .int v8)]) hx hb dX10_oldest_110 hl (k := 4) rfl (by rw [ev21]; rfl) (by decide) rfl (fun ls hl => ?_)
                    exact J113 v17 v21 _ _ _ hf rfl hS (lv_sub hl [1, 2, 3, 4, 0, 5] rfl)
                obtain ⟨k82, ek82, hf⟩ := q_j0_e hf
                have J82 : ∀  (H : Heap) (locs : List Loc) (ls : Array Slot), k82 = some (v9, v10) → H = s.heap → va_S A s.heap H locs → lv_has ls 6 [(0, .ref a_x), (1, .int p1), (2, .int p2), (5, .int v8)] → W p l e ({ frames := 1, cells := 0, slots := 0, locals := 22 } : Room) s m ([.ref a_x, .int p1, .int p2] : List Value).toArray below meth c H locs 0 0 Q (F0 m 82 ls []) := by
                  intro  H locs ls hf hHs hS hl
                  subst hHs
                  have hf := (ek82).symm.trans hf
                  refine lv_iload (pc := 82) hx hb dX10_oldest_82 (lv_at hl 3 rfl) ?_
                  refine lv_istore_n (pc := 84) (lv' := [(3, .int v8), (0, .ref a_x), (1, .int p1), (2, .int p2), (5, .int v8)]) hx hb dX10_oldest_84 rfl hl (by decide) rfl (fun ls hl => ?_)
                  refine lv_iconst (pc := 85) (v := 0) hx hb dX10_oldest_85 (by decide) ?_
                  obtain ⟨v22, ev22, hf⟩ := q_nm_e hf
                  refine q_topi ev22 ?_
                  refine lv_istore (pc := 86) (lv' := [(4, .int v22), (3, .int v8), (0, .ref a_x), (1, .int p1), (2, .int p2), (5, .int v8)]) hx hb dX10_oldest_86 hl (by decide) rfl (fun ls hl => ?_)
                  exact J88 v8 v22 _ _ _ hf rfl hS (lv_sub hl [2, 3, 4, 1, 0, 5] rfl)
                refine q_icmp_eq (pc := 57) (tgt := 82) hx hb dX10_oldest_57 (by decide) rfl hf (fun hf => ?_) (fun hf => ?_)
                · exact J82  _ _ _ hf rfl hS (lv_sub hl [0, 1, 2, 5] rfl)
                · refine lv_aload_n (pc := 60) hx hb dX10_oldest_60 rfl (lv_at hl 0 rfl) ?_
                  refine va_get (pc := 61) (D := D) (ci := 10) (v := .ref a_st) (C := RX10) (T := TX10) (N := 14) hx hb hts hinX10 hown hK hP 0 rfl rfl 2 (by decide) w_1 (fun _ h9 => h9) rfl dX10_oldest_61 ?_
                  refine va_getN (pc := 64) (D := D) (ci := 7) (v := .ref a_st_years) (C := RX7) (T := TX7) (N := 9) hx hb hts hinX7 hown hK hP 1 rfl rfl 3 (by decide) wn_25 (fun _ h9 => h9) rfl dX10_oldest_64 ?_
                  refine lv_iload (pc := 67) hx hb dX10_oldest_67 (lv_at hl 5 rfl) ?_
                  refine q_iald (pc := 69) hx hb hK hP 4 0 hf rfl rfl dX10_oldest_69 (fun v23 hf => ?_)
                  refine lv_aload_n (pc := 70) hx hb dX10_oldest_70 rfl (lv_at hl 0 rfl) ?_
                  refine va_get (pc := 71) (D := D) (ci := 10) (v := .ref a_st) (C := RX10) (T := TX10) (N := 14) hx hb hts hinX10 hown hK hP 0 rfl rfl 2 (by decide) w_1 (fun _ h9 => h9) rfl dX10_oldest_71 ?_
                  refine va_getN (pc := 74) (D := D) (ci := 7) (v := .ref a_st_years) (C := RX7) (T := TX7) (N := 9) hx hb hts hinX7 hown hK hP 1 rfl rfl 3 (by decide) wn_25 (fun _ h9 => h9) rfl dX10_oldest_74 ?_
                  refine lv_iload_n (pc := 77) hx hb dX10_oldest_77 rfl (lv_at hl 3 rfl) ?_
                  refine q_iald (pc := 78) hx hb hK hP 4 0 hf rfl rfl dX10_oldest_78 (fun v24 hf => ?_)
                  refine q_icmp_ge (pc := 79) (tgt := 88) hx hb dX10_oldest_79 (by decide) rfl hf (fun hf => ?_) (fun hf => ?_)
                  · exact J88 v6 v7 _ _ _ hf rfl hS (lv_sub hl [0, 1, 2, 3, 4, 5] rfl)
                  · exact J82  _ _ _ hf rfl hS (lv_sub hl [0, 1, 2, 5] rfl)
              · refine lv_goto (pc := 52) (tgt := 113) hx hb dX10_oldest_52 (by decide) ?_
                exact J113 v6 v7 _ _ _ hf rfl hS (lv_sub hl [0, 1, 2, 3, 4, 5] rfl)
        exact LP26 N v3 v4 v5 _ _ _ hm26 rfl hS (lv_sub hl [3, 4, 5, 2, 1, 0] rfl)
      · refine lv_iconst (pc := 16) (v := (-1)) hx hb dX10_oldest_16 (by decide) ?_
        obtain rfl := Option.some.inj hf
        rw [hQ]
        exact q_iretr (pc := 17) hx hb hr hlocks rfl hS dX10_oldest_17
  exact hgo _ _ rfl hP hS
