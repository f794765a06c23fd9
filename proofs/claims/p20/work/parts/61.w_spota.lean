/-! X6_addCorner -/
set_option maxRecDepth 100000 in
set_option maxHeartbeats 4000000 in
theorem c_Spot_addCorner (l : Launch) (D : va_G) (ci : Nat → ClassId) (A : Nat → Prop) (sa : Nat → Nat) (N : Nat) (Rw : va_W) (a_sp : Nat) (a_g : Nat) (a_sp_first : Nat) (a_sp_many : Nat) (a_sp_corner : Nat) (sp_cornerCount : Int32) (sp_level : Int32) (sp_row : Int32) (sp_start : Int32) (sp_place : Int32) (sp_length : Int32) (sp_cap : Int32) (sp_corner : Nat → Int32) (p1 : Int32) (o1 : Nat → Int32) (o2 : Int32) (hf : f_Spot_addCorner N sp_corner sp_cornerCount p1 = some (o1, o2)) : Met l yX6_addCorner wsX6_addCorner ({ frames := 0, cells := 0, slots := 0, locals := 0 }) (va_Pc [.ref a_sp, .int p1] (q_N D ci A sa ((a_sp, .inr (6, [.ref a_g, .ref a_sp_first, .ref a_sp_many, .ref a_sp_corner, .int sp_cornerCount, .int sp_level, .int sp_row, .int sp_start, .int sp_place, .int sp_length, .int sp_cap])) :: (a_sp_corner, .inl (ci 0, 4, .inl sp_corner)) :: Rw))) (q_Q none (q_O D A ((a_sp, .inr (6, [.ref a_g, .ref a_sp_first, .ref a_sp_many, .ref a_sp_corner, .int o2, .int sp_level, .int sp_row, .int sp_start, .int sp_place, .int sp_length, .int sp_cap])) :: (a_sp_corner, .inl (ci 0, 4, .inl o1)) :: Rw)) A) 0 0 A := by
  refine q_ofW (cc := cX6_addCorner) (maxL := 3) (ret := none) [.ref a_sp, .int p1] (plainFor_of_name (by decide)) rfl (Nat.le_of_ble_eq_true rfl) ?_
  intro p e s m below meth c ls Q hQ hx hb hml hr hts hown hlocks hK hA hZ hP hD hS hl
  have hl : lv_has ls 3 [(0, .ref a_sp), (1, .int p1)] := hl
  have hown : s.vm.findClass RX6 = some m.cls := hown
  have hinX6 : ∀ w ∈ wsX60, w ∈ wsX6_addCorner := fun _ h => List.mem_cons_of_mem _ (inWX60 _ h)
  have w_1 := hts (Cond.fieldLink RX6 21 "SheetNames$Spot" "cornerCount" "I") (List.mem_cons_of_mem _ t_w799)
  have w_2 := hts (Cond.fieldLink RX6 18 "SheetNames$Spot" "corner" "[I") (List.mem_cons_of_mem _ t_w800)
  unfold f_Spot_addCorner at hf
  have hgo : ∀ (H : Heap) (locs : List Loc), H = s.heap → va_P D vwCl ((a_sp, .inr (6, [.ref a_g, .ref a_sp_first, .ref a_sp_many, .ref a_sp_corner, .int sp_cornerCount, .int sp_level, .int sp_row, .int sp_start, .int sp_place, .int sp_length, .int sp_cap])) :: (a_sp_corner, .inl (ci 0, 4, .inl sp_corner)) :: Rw) H → va_S A s.heap H locs → W p l e ({ frames := 0, cells := 0, slots := 0, locals := 0 } : Room) s m ([.ref a_sp, .int p1] : List Value).toArray below meth c H locs 0 0 Q (F0 m 0 ls []) := by
    intro H locs hH hP hS
    refine lv_aload_n (pc := 0) hx hb dX6_addCorner_0 rfl (lv_at hl 0 rfl) ?_
    refine va_get (pc := 1) (D := D) (ci := 6) (v := .int sp_cornerCount) (C := RX6) (T := TX6) (N := 11) hx hb hts hinX6 hown hK hP 0 rfl rfl 4 (by decide) w_1 (fun _ h9 => h9) rfl dX6_addCorner_1 ?_
    refine lv_istore_n (pc := 4) (lv' := [(2, .int sp_cornerCount), (0, .ref a_sp), (1, .int p1)]) hx hb dX6_addCorner_4 rfl hl (by decide) rfl (fun ls hl => ?_)
    refine lv_iload_n (pc := 5) hx hb dX6_addCorner_5 rfl (lv_at hl 0 rfl) ?_
    refine lv_aload_n (pc := 6) hx hb dX6_addCorner_6 rfl (lv_at hl 1 rfl) ?_
    refine va_get (pc := 7) (D := D) (ci := 6) (v := .ref a_sp_corner) (C := RX6) (T := TX6) (N := 11) hx hb hts hinX6 hown hK hP 0 rfl rfl 3 (by decide) w_2 (fun _ h9 => h9) rfl dX6_addCorner_7 ?_
    refine va_alen (pc := 10) (v := 4) hx hb hK hP 1 0 rfl rfl rfl dX6_addCorner_10 ?_
    refine q_icmp_lt (pc := 11) (tgt := 15) hx hb dX6_addCorner_11 (by decide) rfl hf (fun hf => ?_) (fun hf => ?_)
    · obtain ⟨v3, f4, hm15, hf⟩ := q_b2_e hf
      have JE15 : ∀ (H : Heap) (locs : List Loc) (ls : Array Slot), va_P D vwCl ((a_sp, .inr (6, [.ref a_g, .ref a_sp_first, .ref a_sp_many, .ref a_sp_corner, .int sp_cornerCount, .int sp_level, .int sp_row, .int sp_start, .int sp_place, .int sp_length, .int sp_cap])) :: (a_sp_corner, .inl (ci 0, 4, .inl f4)) :: Rw) H → va_D A ((a_sp, .inr (6, [.ref a_g, .ref a_sp_first, .ref a_sp_many, .ref a_sp_corner, .int sp_cornerCount, .int sp_level, .int sp_row, .int sp_start, .int sp_place, .int sp_length, .int sp_cap])) :: (a_sp_corner, .inl (ci 0, 4, .inl f4)) :: Rw) → va_S A s.heap H locs → lv_has ls 3 [(0, .ref a_sp), (1, .int p1), (2, .int v3)] → W p l e ({ frames := 0, cells := 0, slots := 0, locals := 0 } : Room) s m ([.ref a_sp, .int p1] : List Value).toArray below meth c H locs 0 0 Q (F0 m 51 ls []) := by
        intro H locs ls hP hD hS hl
        refine lv_aload_n (pc := 51) hx hb dX6_addCorner_51 rfl (lv_at hl 0 rfl) ?_
        refine va_get (pc := 52) (D := D) (ci := 6) (v := .ref a_sp_corner) (C := RX6) (T := TX6) (N := 11) hx hb hts hinX6 hown hK hP 0 rfl rfl 3 (by decide) w_2 (fun _ h9 => h9) rfl dX6_addCorner_52 ?_
        refine lv_iload_n (pc := 55) hx hb dX6_addCorner_55 rfl (lv_at hl 2 rfl) ?_
        refine lv_iload_n (pc := 56) hx hb dX6_addCorner_56 rfl (lv_at hl 1 rfl) ?_
        refine q_iast (pc := 57) hx hb hK hP hD hS 1 0 hf rfl rfl dX6_addCorner_57 (fun f5 H locs hf hP hD hS => ?_)
        obtain ⟨hP, hD⟩ : va_PD D A ((a_sp, .inr (6, [.ref a_g, .ref a_sp_first, .ref a_sp_many, .ref a_sp_corner, .int sp_cornerCount, .int sp_level, .int sp_row, .int sp_start, .int sp_place, .int sp_length, .int sp_cap])) :: (a_sp_corner, .inl (ci 0, 4, .inl f5)) :: Rw) H := ⟨hP, hD⟩
        refine lv_aload_n (pc := 58) hx hb dX6_addCorner_58 rfl (lv_at hl 0 rfl) ?_
        refine lv_dup (pc := 59) hx hb dX6_addCorner_59 rfl ?_
        refine va_get (pc := 60) (D := D) (ci := 6) (v := .int sp_cornerCount) (C := RX6) (T := TX6) (N := 11) hx hb hts hinX6 hown hK hP 0 rfl rfl 4 (by decide) w_1 (fun _ h9 => h9) rfl dX6_addCorner_60 ?_
        refine lv_iconst (pc := 63) (v := 1) hx hb dX6_addCorner_63 (by decide) ?_
        refine lv_iadd (pc := 64) hx hb dX6_addCorner_64 ?_
        obtain ⟨v6, ev6, hf⟩ := q_nm_e hf
        refine q_topi ev6 ?_
        refine va_put (pc := 65) (D := D) (ci := 6) (v := .int v6) (ty := .int) (C := RX6) (T := TX6) (N := 11) hx hb hts hinX6 tyX6 tyX6_ok nmX6 hown hK hP hD hS 0 rfl rfl 4 (by decide) w_1 (fun _ h9 => h9) rfl (by decide +kernel) rfl rfl (Nat.le_of_ble_eq_true rfl) dX6_addCorner_65 (fun H locs hP hD hS => ?_)
        obtain ⟨hP, hD⟩ : va_PD D A ((a_sp, .inr (6, [.ref a_g, .ref a_sp_first, .ref a_sp_many, .ref a_sp_corner, .int v6, .int sp_level, .int sp_row, .int sp_start, .int sp_place, .int sp_length, .int sp_cap])) :: (a_sp_corner, .inl (ci 0, 4, .inl f5)) :: Rw) H := ⟨hP, hD⟩
        obtain ⟨rfl, rfl⟩ := q_inj2 (Option.some.inj hf)
        rw [hQ]
        exact q_vret (pc := 68) hx hb hr hlocks hP hD hS dX6_addCorner_68
      have LP15 : ∀ (n15 : Nat) (v1 : Int32) (f2 : Nat → Int32) (H : Heap) (locs : List Loc) (ls : Array Slot), f_Spot_addCorner_L15 p1 n15 v1 f2 = some (v3, f4) → va_P D vwCl ((a_sp, .inr (6, [.ref a_g, .ref a_sp_first, .ref a_sp_many, .ref a_sp_corner, .int sp_cornerCount, .int sp_level, .int sp_row, .int sp_start, .int sp_place, .int sp_length, .int sp_cap])) :: (a_sp_corner, .inl (ci 0, 4, .inl f2)) :: Rw) H → va_D A ((a_sp, .inr (6, [.ref a_g, .ref a_sp_first, .ref a_sp_many, .ref a_sp_corner, .int sp_cornerCount, .int sp_level, .int sp_row, .int sp_start, .int sp_place, .int sp_length, .int sp_cap])) :: (a_sp_corner, .inl (ci 0, 4, .inl f2)) :: Rw) → va_S A s.heap H locs → lv_has ls 3 [(0, .ref a_sp), (1, .int p1), (2, .int v1)] → W p l e ({ frames := 0, cells := 0, slots := 0, locals := 0 } : Room) s m ([.ref a_sp, .int p1] : List Value).toArray below meth c H locs 0 0 Q (F0 m 15 ls []) := by
        intro n15
        induction n15 with
        | zero => intro v1 f2 H locs ls hf; rw [f_Spot_addCorner_L15] at hf; cases hf
        | succ n15 ih15 =>
          intro v1 f2 H locs ls hf hP hD hS hl
          rw [f_Spot_addCorner_L15] at hf
          refine lv_iload_n (pc := 15) hx hb dX6_addCorner_15 rfl (lv_at hl 2 rfl) ?_
          refine q_if_le (pc := 16) (tgt := 51) hx hb dX6_addCorner_16 (by decide) rfl hf (fun hf => ?_) (fun hf => ?_)
          · obtain ⟨rfl, rfl⟩ := q_inj2 (Option.some.inj hf)
            exact JE15 _ _ _ hP hD hS (lv_sub hl [0, 1, 2] rfl)
          · refine lv_aload_n (pc := 19) hx hb dX6_addCorner_19 rfl (lv_at hl 0 rfl) ?_
            refine va_get (pc := 20) (D := D) (ci := 6) (v := .ref a_sp_corner) (C := RX6) (T := TX6) (N := 11) hx hb hts hinX6 hown hK hP 0 rfl rfl 3 (by decide) w_2 (fun _ h9 => h9) rfl dX6_addCorner_20 ?_
            refine lv_iload_n (pc := 23) hx hb dX6_addCorner_23 rfl (lv_at hl 2 rfl) ?_
            refine lv_iconst (pc := 24) (v := 1) hx hb dX6_addCorner_24 (by decide) ?_
            refine lv_isub (pc := 25) hx hb dX6_addCorner_25 ?_
            refine q_iald (pc := 26) hx hb hK hP 1 0 hf rfl rfl dX6_addCorner_26 (fun v7 hf => ?_)
            refine lv_iload_n (pc := 27) hx hb dX6_addCorner_27 rfl (lv_at hl 1 rfl) ?_
            refine q_icmp_le (pc := 28) (tgt := 51) hx hb dX6_addCorner_28 (by decide) rfl hf (fun hf => ?_) (fun hf => ?_)
            · obtain ⟨rfl, rfl⟩ := q_inj2 (Option.some.inj hf)
              exact JE15 _ _ _ hP hD hS (lv_sub hl [0, 1, 2] rfl)
            · refine lv_aload_n (pc := 31) hx hb dX6_addCorner_31 rfl (lv_at hl 0 rfl) ?_
              refine va_get (pc := 32) (D := D) (ci := 6) (v := .ref a_sp_corner) (C := RX6) (T := TX6) (N := 11) hx hb hts hinX6 hown hK hP 0 rfl rfl 3 (by decide) w_2 (fun _ h9 => h9) rfl dX6_addCorner_32 ?_
              refine lv_iload_n (pc := 35) hx hb dX6_addCorner_35 rfl (lv_at hl 2 rfl) ?_
              refine lv_aload_n (pc := 36) hx hb dX6_addCorner_36 rfl (lv_at hl 0 rfl) ?_
              refine va_get (pc := 37) (D := D) (ci := 6) (v := .ref a_sp_corner) (C := RX6) (T := TX6) (N := 11) hx hb hts hinX6 hown hK hP 0 rfl rfl 3 (by decide) w_2 (fun _ h9 => h9) rfl dX6_addCorner_37 ?_
              refine lv_iload_n (pc := 40) hx hb dX6_addCorner_40 rfl (lv_at hl 2 rfl) ?_
              refine lv_iconst (pc := 41) (v := 1) hx hb dX6_addCorner_41 (by decide) ?_
              refine lv_isub (pc := 42) hx hb dX6_addCorner_42 ?_
              refine q_iald (pc := 43) hx hb hK hP 1 0 hf rfl rfl dX6_addCorner_43 (fun v8 hf => ?_)
              refine q_iast (pc := 44) hx hb hK hP hD hS 1 0 hf rfl rfl dX6_addCorner_44 (fun f9 H locs hf hP hD hS => ?_)
              obtain ⟨hP, hD⟩ : va_PD D A ((a_sp, .inr (6, [.ref a_g, .ref a_sp_first, .ref a_sp_many, .ref a_sp_corner, .int sp_cornerCount, .int sp_level, .int sp_row, .int sp_start, .int sp_place, .int sp_length, .int sp_cap])) :: (a_sp_corner, .inl (ci 0, 4, .inl f9)) :: Rw) H := ⟨hP, hD⟩
              obtain ⟨v10, ev10, hf⟩ := q_nm_e hf
              refine lv_iinc (pc := 45) (v := v10) (lv' := [(2, .int v10), (0, .ref a_sp), (1, .int p1)]) hx hb dX6_addCorner_45 hl (k := 2) rfl (by rw [ev10]; rfl) (by decide) rfl (fun ls hl => ?_)
              refine lv_goto (pc := 48) (tgt := 15) hx hb dX6_addCorner_48 (by decide) ?_
              exact ih15 v10 f9 _ _ _ hf hP hD hS (lv_sub hl [1, 2, 0] rfl)
      exact LP15 N sp_cornerCount sp_corner _ _ _ hm15 hP hD hS (lv_sub hl [1, 2, 0] rfl)
    · obtain ⟨rfl, rfl⟩ := q_inj2 (Option.some.inj hf)
      rw [hQ]
      exact q_vret (pc := 14) hx hb hr hlocks hP hD hS dX6_addCorner_14
  exact hgo _ _ rfl hP hS
/-! X6_addCorners -/
set_option maxRecDepth 100000 in
set_option maxHeartbeats 4000000 in
theorem c_Spot_addCorners (l : Launch) (D : va_G) (ci : Nat → ClassId) (A : Nat → Prop) (sa : Nat → Nat) (N : Nat) (Rw : va_W) (a_sp : Nat) (a_g : Nat) (a_sp_first : Nat) (a_sp_many : Nat) (a_sp_corner : Nat) (a_g_rowCuts : Nat) (a_g_columnCuts : Nat) (a_g_bandRows : Nat) (a_g_zoneColumns : Nat) (a_g_rows : Nat) (a_g_sheets : Nat) (sp_cornerCount : Int32) (sp_level : Int32) (sp_row : Int32) (sp_start : Int32) (sp_place : Int32) (sp_length : Int32) (sp_cap : Int32) (sp_corner : Nat → Int32) (g_bandRows : Nat → Int32) (g_zoneColumns : Nat → Int32) (g_rows : Nat → Int32) (g_sheets : Nat → Int32) (p1 : Int32) (o1 : Nat → Int32) (o2 : Int32) (hf : f_Spot_addCorners N sp_corner sp_cornerCount sp_level sp_place sp_length g_bandRows g_zoneColumns g_rows g_sheets p1 = some (o1, o2)) : Met l yX6_addCorners wsX6_addCorners ({ frames := 1, cells := 0, slots := 0, locals := 25 }) (va_Pc [.ref a_sp, .int p1] (q_N D ci A sa ((a_sp, .inr (6, [.ref a_g, .ref a_sp_first, .ref a_sp_many, .ref a_sp_corner, .int sp_cornerCount, .int sp_level, .int sp_row, .int sp_start, .int sp_place, .int sp_length, .int sp_cap])) :: (a_sp_corner, .inl (ci 0, 4, .inl sp_corner)) :: (a_g, .inr (2, [.ref a_g_rowCuts, .ref a_g_columnCuts, .ref a_g_bandRows, .ref a_g_zoneColumns, .ref a_g_rows, .ref a_g_sheets])) :: (a_g_bandRows, .inl (ci 0, 5, .inl g_bandRows)) :: (a_g_zoneColumns, .inl (ci 0, 5, .inl g_zoneColumns)) :: (a_g_rows, .inl (ci 0, 5, .inl g_rows)) :: (a_g_sheets, .inl (ci 0, 5, .inl g_sheets)) :: Rw))) (q_Q none (q_O D A ((a_sp, .inr (6, [.ref a_g, .ref a_sp_first, .ref a_sp_many, .ref a_sp_corner, .int o2, .int sp_level, .int sp_row, .int sp_start, .int sp_place, .int sp_length, .int sp_cap])) :: (a_sp_corner, .inl (ci 0, 4, .inl o1)) :: (a_g, .inr (2, [.ref a_g_rowCuts, .ref a_g_columnCuts, .ref a_g_bandRows, .ref a_g_zoneColumns, .ref a_g_rows, .ref a_g_sheets])) :: (a_g_bandRows, .inl (ci 0, 5, .inl g_bandRows)) :: (a_g_zoneColumns, .inl (ci 0, 5, .inl g_zoneColumns)) :: (a_g_rows, .inl (ci 0, 5, .inl g_rows)) :: (a_g_sheets, .inl (ci 0, 5, .inl g_sheets)) :: Rw)) A) 0 0 A := by
  refine q_ofW (cc := cX6_addCorners) (maxL := 8) (ret := none) [.ref a_sp, .int p1] (plainFor_of_name (by decide)) rfl (Nat.le_of_ble_eq_true rfl) ?_
  intro p e s m below meth c ls Q hQ hx hb hml hr hts hown hlocks hK hA hZ hP hD hS hl
  have hl : lv_has ls 8 [(0, .ref a_sp), (1, .int p1)] := hl
  have hown : s.vm.findClass RX6 = some m.cls := hown
  have hinX6 : ∀ w ∈ wsX60, w ∈ wsX6_addCorners := fun _ h => List.mem_cons_of_mem _ (inWX60 _ h)
  have w_1 := hts (Cond.fieldLink RX6 44 "SheetNames$Spot" "grid" "LSheetNames$Grid;") (List.mem_cons_of_mem _ t_w801)
  have w_2 := hts (Cond.fieldLink RX6 25 "SheetNames$Spot" "level" "I") (List.mem_cons_of_mem _ t_w802)
  have w_3 := hts (Cond.fieldLink RX6 34 "SheetNames$Spot" "place" "I") (List.mem_cons_of_mem _ t_w803)
  have w_4 := hts (Cond.fieldLink RX6 37 "SheetNames$Spot" "length" "I") (List.mem_cons_of_mem _ t_w804)
  unfold f_Spot_addCorners at hf
  have hgo : ∀ (H : Heap) (locs : List Loc), H = s.heap → va_P D vwCl ((a_sp, .inr (6, [.ref a_g, .ref a_sp_first, .ref a_sp_many, .ref a_sp_corner, .int sp_cornerCount, .int sp_level, .int sp_row, .int sp_start, .int sp_place, .int sp_length, .int sp_cap])) :: (a_sp_corner, .inl (ci 0, 4, .inl sp_corner)) :: (a_g, .inr (2, [.ref a_g_rowCuts, .ref a_g_columnCuts, .ref a_g_bandRows, .ref a_g_zoneColumns, .ref a_g_rows, .ref a_g_sheets])) :: (a_g_bandRows, .inl (ci 0, 5, .inl g_bandRows)) :: (a_g_zoneColumns, .inl (ci 0, 5, .inl g_zoneColumns)) :: (a_g_rows, .inl (ci 0, 5, .inl g_rows)) :: (a_g_sheets, .inl (ci 0, 5, .inl g_sheets)) :: Rw) H → va_S A s.heap H locs → W p l e ({ frames := 1, cells := 0, slots := 0, locals := 25 } : Room) s m ([.ref a_sp, .int p1] : List Value).toArray below meth c H locs 0 0 Q (F0 m 0 ls []) := by
    intro H locs hH hP hS
    refine lv_aload_n (pc := 0) hx hb dX6_addCorners_0 rfl (lv_at hl 0 rfl) ?_
    refine va_get (pc := 1) (D := D) (ci := 6) (v := .ref a_g) (C := RX6) (T := TX6) (N := 11) hx hb hts hinX6 hown hK hP 0 rfl rfl 0 (by decide) w_1 (fun _ h9 => h9) rfl dX6_addCorners_1 ?_
    refine lv_aload_n (pc := 4) hx hb dX6_addCorners_4 rfl (lv_at hl 0 rfl) ?_
    refine va_get (pc := 5) (D := D) (ci := 6) (v := .int sp_level) (C := RX6) (T := TX6) (N := 11) hx hb hts hinX6 hown hK hP 0 rfl rfl 5 (by decide) w_2 (fun _ h9 => h9) rfl dX6_addCorners_5 ?_
    refine lv_iload_n (pc := 8) hx hb dX6_addCorners_8 rfl (lv_at hl 1 rfl) ?_
    obtain ⟨v1, hm9, hf⟩ := q_b1_e hf
    refine q_cVr (pc := 9) (As := [.int sp_level, .int p1]) (rest := []) (v0 := (some (.int v1))) ⟨hx, hb, hml, hown, hts⟩ hK hA hZ hP hD hS hl.1 [2, 5] 7 rfl ⟨rfl, rfl, rfl⟩ (c_Grid_isCapRow l D ci A sa N (Rw) a_g a_g_rowCuts a_g_columnCuts a_g_bandRows a_g_zoneColumns a_g_rows a_g_sheets g_rows sp_level p1 v1 hm9) 2 rfl rfl (cwV 2 hts gX6_addCorners_X2_isCapRow rfl rfl rfl (by decide +kernel) ⟨Nat.le_of_ble_eq_true rfl, Nat.le_of_ble_eq_true rfl⟩) rfl rfl (Nat.le_of_ble_eq_true rfl) dX6_addCorners_9 ⟨Nat.zero_le _, Nat.zero_le _⟩ (fun locs hS => ?_)
    refine q_if_eq (pc := 12) (tgt := 16) hx hb dX6_addCorners_12 (by decide) rfl hf (fun hf => ?_) (fun hf => ?_)
    · refine lv_aload_n (pc := 16) hx hb dX6_addCorners_16 rfl (lv_at hl 0 rfl) ?_
      refine va_get (pc := 17) (D := D) (ci := 6) (v := .ref a_g) (C := RX6) (T := TX6) (N := 11) hx hb hts hinX6 hown hK hP 0 rfl rfl 0 (by decide) w_1 (fun _ h9 => h9) rfl dX6_addCorners_17 ?_
      refine lv_aload_n (pc := 20) hx hb dX6_addCorners_20 rfl (lv_at hl 0 rfl) ?_
      refine va_get (pc := 21) (D := D) (ci := 6) (v := .int sp_level) (C := RX6) (T := TX6) (N := 11) hx hb hts hinX6 hown hK hP 0 rfl rfl 5 (by decide) w_2 (fun _ h9 => h9) rfl dX6_addCorners_21 ?_
      refine lv_iload_n (pc := 24) hx hb dX6_addCorners_24 rfl (lv_at hl 1 rfl) ?_
      obtain ⟨v2, hm25, hf⟩ := q_b1_e hf
      refine q_cVr (pc := 25) (As := [.int sp_level, .int p1]) (rest := []) (v0 := (some (.int v2))) ⟨hx, hb, hml, hown, hts⟩ hK hA hZ hP hD hS hl.1 [2, 3, 4, 5] 7 rfl ⟨rfl, rfl, rfl⟩ (c_Grid_rowLength l D ci A sa N (Rw) a_g a_g_rowCuts a_g_columnCuts a_g_bandRows a_g_zoneColumns a_g_rows a_g_sheets g_bandRows g_zoneColumns g_rows sp_level p1 v2 hm25) 2 rfl rfl (cwV 2 hts gX6_addCorners_X2_rowLength rfl rfl rfl (by decide +kernel) ⟨Nat.le_of_ble_eq_true rfl, Nat.le_of_ble_eq_true rfl⟩) rfl rfl (Nat.le_of_ble_eq_true rfl) dX6_addCorners_25 ⟨Nat.zero_le _, Nat.zero_le _⟩ (fun locs hS => ?_)
      refine lv_istore_n (pc := 28) (lv' := [(2, .int v2), (0, .ref a_sp), (1, .int p1)]) hx hb dX6_addCorners_28 rfl hl (by decide) rfl (fun ls hl => ?_)
      refine lv_aload_n (pc := 29) hx hb dX6_addCorners_29 rfl (lv_at hl 1 rfl) ?_
      refine va_get (pc := 30) (D := D) (ci := 6) (v := .ref a_g) (C := RX6) (T := TX6) (N := 11) hx hb hts hinX6 hown hK hP 0 rfl rfl 0 (by decide) w_1 (fun _ h9 => h9) rfl dX6_addCorners_30 ?_
      refine lv_aload_n (pc := 33) hx hb dX6_addCorners_33 rfl (lv_at hl 1 rfl) ?_
      refine va_get (pc := 34) (D := D) (ci := 6) (v := .int sp_level) (C := RX6) (T := TX6) (N := 11) hx hb hts hinX6 hown hK hP 0 rfl rfl 5 (by decide) w_2 (fun _ h9 => h9) rfl dX6_addCorners_34 ?_
      refine lv_iload_n (pc := 37) hx hb dX6_addCorners_37 rfl (lv_at hl 2 rfl) ?_
      obtain ⟨v3, hm38, hf⟩ := q_b1_e hf
      refine q_cVr (pc := 38) (As := [.int sp_level, .int p1]) (rest := []) (v0 := (some (.int v3))) ⟨hx, hb, hml, hown, hts⟩ hK hA hZ hP hD hS hl.1 [2, 3, 4, 5, 6] 7 rfl ⟨rfl, rfl, rfl⟩ (c_Grid_rowStart l D ci A sa N (Rw) a_g a_g_rowCuts a_g_columnCuts a_g_bandRows a_g_zoneColumns a_g_rows a_g_sheets g_bandRows g_zoneColumns g_rows g_sheets sp_level p1 v3 hm38) 2 rfl rfl (cwV 2 hts gX6_addCorners_X2_rowStart rfl rfl rfl (by decide +kernel) ⟨Nat.le_of_ble_eq_true rfl, Nat.le_of_ble_eq_true rfl⟩) rfl rfl (Nat.le_of_ble_eq_true rfl) dX6_addCorners_38 ⟨Nat.zero_le _, Nat.zero_le _⟩ (fun locs hS => ?_)
      refine lv_istore_n (pc := 41) (lv' := [(3, .int v3), (2, .int v2), (0, .ref a_sp), (1, .int p1)]) hx hb dX6_addCorners_41 rfl hl (by decide) rfl (fun ls hl => ?_)
      refine lv_aload_n (pc := 42) hx hb dX6_addCorners_42 rfl (lv_at hl 2 rfl) ?_
      refine va_get (pc := 43) (D := D) (ci := 6) (v := .int sp_place) (C := RX6) (T := TX6) (N := 11) hx hb hts hinX6 hown hK hP 0 rfl rfl 8 (by decide) w_3 (fun _ h9 => h9) rfl dX6_addCorners_43 ?_
      refine lv_i2l (pc := 46) hx hb dX6_addCorners_46 rfl ?_
      refine lv_iload_n (pc := 47) hx hb dX6_addCorners_47 rfl (lv_at hl 1 rfl) ?_
      refine lv_i2l (pc := 48) hx hb dX6_addCorners_48 rfl ?_
      refine lv_lmul (pc := 49) hx hb dX6_addCorners_49 ?_
      obtain ⟨v4, ev4, hf⟩ := q_nm_e hf
      refine q_topl ev4 ?_
      refine lv_lstore (pc := 50) (lv' := [(4, .long v4), (3, .int v3), (2, .int v2), (0, .ref a_sp), (1, .int p1)]) hx hb dX6_addCorners_50 hl (by decide) rfl (fun ls hl => ?_)
      refine lv_lload (pc := 52) hx hb dX6_addCorners_52 (lv_at hl 0 rfl) ?_
      refine lv_aload_n (pc := 54) hx hb dX6_addCorners_54 rfl (lv_at hl 3 rfl) ?_
      refine va_get (pc := 55) (D := D) (ci := 6) (v := .int sp_length) (C := RX6) (T := TX6) (N := 11) hx hb hts hinX6 hown hK hP 0 rfl rfl 9 (by decide) w_4 (fun _ h9 => h9) rfl dX6_addCorners_55 ?_
      refine lv_i2l (pc := 58) hx hb dX6_addCorners_58 rfl ?_
      refine q_lrem (pc := 59) hx hb dX6_addCorners_59 hf (fun v5 hf => ?_)
      refine lv_lconst (pc := 60) (v := 0) hx hb dX6_addCorners_60 (by decide) ?_
      refine W.lcmp (pc := 61) hx hb dX6_addCorners_61 ?_
      obtain ⟨k87, ek87, hf⟩ := q_j2_e hf
      have J87 : ∀ (f6 : Nat → Int32) (v7 : Int32) (H : Heap) (locs : List Loc) (ls : Array Slot), k87 f6 v7 = some (o1, o2) → va_P D vwCl ((a_sp, .inr (6, [.ref a_g, .ref a_sp_first, .ref a_sp_many, .ref a_sp_corner, .int v7, .int sp_level, .int sp_row, .int sp_start, .int sp_place, .int sp_length, .int sp_cap])) :: (a_sp_corner, .inl (ci 0, 4, .inl f6)) :: (a_g, .inr (2, [.ref a_g_rowCuts, .ref a_g_columnCuts, .ref a_g_bandRows, .ref a_g_zoneColumns, .ref a_g_rows, .ref a_g_sheets])) :: (a_g_bandRows, .inl (ci 0, 5, .inl g_bandRows)) :: (a_g_zoneColumns, .inl (ci 0, 5, .inl g_zoneColumns)) :: (a_g_rows, .inl (ci 0, 5, .inl g_rows)) :: (a_g_sheets, .inl (ci 0, 5, .inl g_sheets)) :: Rw) H → va_D A ((a_sp, .inr (6, [.ref a_g, .ref a_sp_first, .ref a_sp_many, .ref a_sp_corner, .int v7, .int sp_level, .int sp_row, .int sp_start, .int sp_place, .int sp_length, .int sp_cap])) :: (a_sp_corner, .inl (ci 0, 4, .inl f6)) :: (a_g, .inr (2, [.ref a_g_rowCuts, .ref a_g_columnCuts, .ref a_g_bandRows, .ref a_g_zoneColumns, .ref a_g_rows, .ref a_g_sheets])) :: (a_g_bandRows, .inl (ci 0, 5, .inl g_bandRows)) :: (a_g_zoneColumns, .inl (ci 0, 5, .inl g_zoneColumns)) :: (a_g_rows, .inl (ci 0, 5, .inl g_rows)) :: (a_g_sheets, .inl (ci 0, 5, .inl g_sheets)) :: Rw) → va_S A s.heap H locs → lv_has ls 8 [(0, .ref a_sp), (2, .int v2), (3, .int v3), (4, .long v4)] → W p l e ({ frames := 1, cells := 0, slots := 0, locals := 25 } : Room) s m ([.ref a_sp, .int p1] : List Value).toArray below meth c H locs 0 0 Q (F0 m 87 ls []) := by
        intro f6 v7 H locs ls hf hP hD hS hl
        have hf := (ek87 f6 v7).symm.trans hf
        refine lv_lload (pc := 87) hx hb dX6_addCorners_87 (lv_at hl 3 rfl) ?_
        refine lv_iload_n (pc := 89) hx hb dX6_addCorners_89 rfl (lv_at hl 1 rfl) ?_
        refine lv_i2l (pc := 90) hx hb dX6_addCorners_90 rfl ?_
        refine lv_ladd (pc := 91) hx hb dX6_addCorners_91 ?_
        obtain ⟨v8, ev8, hf⟩ := q_nm_e hf
        refine q_topl ev8 ?_
        refine lv_lstore (pc := 92) (lv' := [(6, .long v8), (0, .ref a_sp), (2, .int v2), (3, .int v3), (4, .long v4)]) hx hb dX6_addCorners_92 hl (by decide) rfl (fun ls hl => ?_)
        refine lv_lload (pc := 94) hx hb dX6_addCorners_94 (lv_at hl 0 rfl) ?_
        refine lv_aload_n (pc := 96) hx hb dX6_addCorners_96 rfl (lv_at hl 1 rfl) ?_
        refine va_get (pc := 97) (D := D) (ci := 6) (v := .int sp_length) (C := RX6) (T := TX6) (N := 11) hx hb hts hinX6 hown hK hP 0 rfl rfl 9 (by decide) w_4 (fun _ h9 => h9) rfl dX6_addCorners_97 ?_
        refine lv_i2l (pc := 100) hx hb dX6_addCorners_100 rfl ?_
        refine q_lrem (pc := 101) hx hb dX6_addCorners_101 hf (fun v9 hf => ?_)
        refine lv_lconst (pc := 102) (v := 0) hx hb dX6_addCorners_102 (by decide) ?_
        refine W.lcmp (pc := 103) hx hb dX6_addCorners_103 ?_
        refine q_if_ne (pc := 104) (tgt := 124) hx hb dX6_addCorners_104 (by decide) rfl hf (fun hf => ?_) (fun hf => ?_)
        · obtain ⟨rfl, rfl⟩ := q_inj2 (Option.some.inj hf)
          rw [hQ]
          exact q_vret (pc := 124) hx hb hr hlocks hP hD hS dX6_addCorners_124
        · refine lv_aload_n (pc := 107) hx hb dX6_addCorners_107 rfl (lv_at hl 1 rfl) ?_
          refine lv_iload_n (pc := 108) hx hb dX6_addCorners_108 rfl (lv_at hl 3 rfl) ?_
          refine lv_lload (pc := 109) hx hb dX6_addCorners_109 (lv_at hl 0 rfl) ?_
          refine lv_aload_n (pc := 111) hx hb dX6_addCorners_111 rfl (lv_at hl 1 rfl) ?_
          refine va_get (pc := 112) (D := D) (ci := 6) (v := .int sp_length) (C := RX6) (T := TX6) (N := 11) hx hb hts hinX6 hown hK hP 0 rfl rfl 9 (by decide) w_4 (fun _ h9 => h9) rfl dX6_addCorners_112 ?_
          refine lv_i2l (pc := 115) hx hb dX6_addCorners_115 rfl ?_
          refine q_ldiv (pc := 116) hx hb dX6_addCorners_116 hf (fun v10 hf => ?_)
          refine lv_l2i (pc := 117) hx hb dX6_addCorners_117 rfl ?_
          refine lv_iload_n (pc := 118) hx hb dX6_addCorners_118 rfl (lv_at hl 2 rfl) ?_
          refine q_irem (pc := 119) hx hb dX6_addCorners_119 hf (fun v11 hf => ?_)
          refine lv_iadd (pc := 120) hx hb dX6_addCorners_120 ?_
          obtain ⟨f12, v13, hm121, hf⟩ := q_b2_e hf
          refine q_cV (pc := 121) (As := [.int (v3 + v11)]) (rest := []) (v0 := none) ⟨hx, hb, hml, hown, hts⟩ hK hA hZ hP hD hS hl.1 [0, 1, 2, 3, 4, 5, 6] 7 rfl ⟨rfl, rfl, rfl⟩ (c_Spot_addCorner l D ci A sa N ((a_g, .inr (2, [.ref a_g_rowCuts, .ref a_g_columnCuts, .ref a_g_bandRows, .ref a_g_zoneColumns, .ref a_g_rows, .ref a_g_sheets])) :: (a_g_bandRows, .inl (ci 0, 5, .inl g_bandRows)) :: (a_g_zoneColumns, .inl (ci 0, 5, .inl g_zoneColumns)) :: (a_g_rows, .inl (ci 0, 5, .inl g_rows)) :: (a_g_sheets, .inl (ci 0, 5, .inl g_sheets)) :: Rw) a_sp a_g a_sp_first a_sp_many a_sp_corner v7 sp_level sp_row sp_start sp_place sp_length sp_cap f6 (v3 + v11) f12 v13 hm121) 0 rfl rfl (cwV 1 hts gX6_addCorners_X6_addCorner rfl rfl rfl (by decide +kernel) ⟨Nat.le_of_ble_eq_true rfl, Nat.le_of_ble_eq_true rfl⟩) rfl rfl (Nat.le_of_ble_eq_true rfl) dX6_addCorners_121 ⟨Nat.zero_le _, Nat.zero_le _⟩ [0, 1, 2, 3, 4, 5, 6] 7 rfl ⟨rfl, rfl, rfl⟩ (fun H locs hP hD hS => ?_)
          obtain ⟨hP, hD⟩ : va_PD D A ((a_sp, .inr (6, [.ref a_g, .ref a_sp_first, .ref a_sp_many, .ref a_sp_corner, .int v13, .int sp_level, .int sp_row, .int sp_start, .int sp_place, .int sp_length, .int sp_cap])) :: (a_sp_corner, .inl (ci 0, 4, .inl f12)) :: (a_g, .inr (2, [.ref a_g_rowCuts, .ref a_g_columnCuts, .ref a_g_bandRows, .ref a_g_zoneColumns, .ref a_g_rows, .ref a_g_sheets])) :: (a_g_bandRows, .inl (ci 0, 5, .inl g_bandRows)) :: (a_g_zoneColumns, .inl (ci 0, 5, .inl g_zoneColumns)) :: (a_g_rows, .inl (ci 0, 5, .inl g_rows)) :: (a_g_sheets, .inl (ci 0, 5, .inl g_sheets)) :: Rw) H := ⟨hP, hD⟩
          obtain ⟨rfl, rfl⟩ := q_inj2 (Option.some.inj hf)
          rw [hQ]
          exact q_vret (pc := 124) hx hb hr hlocks hP hD hS dX6_addCorners_124
      refine q_if_ne (pc := 62) (tgt := 87) hx hb dX6_addCorners_62 (by decide) rfl hf (fun hf => ?_) (fun hf => ?_)
      · exact J87 sp_corner sp_cornerCount _ _ _ hf hP hD hS (lv_sub hl [3, 2, 1, 0] rfl)
      · refine lv_aload_n (pc := 65) hx hb dX6_addCorners_65 rfl (lv_at hl 3 rfl) ?_
        refine lv_iload_n (pc := 66) hx hb dX6_addCorners_66 rfl (lv_at hl 1 rfl) ?_
        refine lv_lload (pc := 67) hx hb dX6_addCorners_67 (lv_at hl 0 rfl) ?_
        refine lv_aload_n (pc := 69) hx hb dX6_addCorners_69 rfl (lv_at hl 3 rfl) ?_
        refine va_get (pc := 70) (D := D) (ci := 6) (v := .int sp_length) (C := RX6) (T := TX6) (N := 11) hx hb hts hinX6 hown hK hP 0 rfl rfl 9 (by decide) w_4 (fun _ h9 => h9) rfl dX6_addCorners_70 ?_
        refine lv_i2l (pc := 73) hx hb dX6_addCorners_73 rfl ?_
        refine q_ldiv (pc := 74) hx hb dX6_addCorners_74 hf (fun v14 hf => ?_)
        refine lv_iload_n (pc := 75) hx hb dX6_addCorners_75 rfl (lv_at hl 2 rfl) ?_
        refine lv_i2l (pc := 76) hx hb dX6_addCorners_76 rfl ?_
        refine lv_ladd (pc := 77) hx hb dX6_addCorners_77 ?_
        refine lv_lconst (pc := 78) (v := 1) hx hb dX6_addCorners_78 (by decide) ?_
        refine lv_lsub (pc := 79) hx hb dX6_addCorners_79 ?_
        refine lv_l2i (pc := 80) hx hb dX6_addCorners_80 rfl ?_
        refine lv_iload_n (pc := 81) hx hb dX6_addCorners_81 rfl (lv_at hl 2 rfl) ?_
        refine q_irem (pc := 82) hx hb dX6_addCorners_82 hf (fun v15 hf => ?_)
        refine lv_iadd (pc := 83) hx hb dX6_addCorners_83 ?_
        obtain ⟨f16, v17, hm84, hf⟩ := q_b2_e hf
        refine q_cV (pc := 84) (As := [.int (v3 + v15)]) (rest := []) (v0 := none) ⟨hx, hb, hml, hown, hts⟩ hK hA hZ hP hD hS hl.1 [0, 1, 2, 3, 4, 5, 6] 7 rfl ⟨rfl, rfl, rfl⟩ (c_Spot_addCorner l D ci A sa N ((a_g, .inr (2, [.ref a_g_rowCuts, .ref a_g_columnCuts, .ref a_g_bandRows, .ref a_g_zoneColumns, .ref a_g_rows, .ref a_g_sheets])) :: (a_g_bandRows, .inl (ci 0, 5, .inl g_bandRows)) :: (a_g_zoneColumns, .inl (ci 0, 5, .inl g_zoneColumns)) :: (a_g_rows, .inl (ci 0, 5, .inl g_rows)) :: (a_g_sheets, .inl (ci 0, 5, .inl g_sheets)) :: Rw) a_sp a_g a_sp_first a_sp_many a_sp_corner sp_cornerCount sp_level sp_row sp_start sp_place sp_length sp_cap sp_corner (v3 + v15) f16 v17 hm84) 0 rfl rfl (cwV 1 hts gX6_addCorners_X6_addCorner rfl rfl rfl (by decide +kernel) ⟨Nat.le_of_ble_eq_true rfl, Nat.le_of_ble_eq_true rfl⟩) rfl rfl (Nat.le_of_ble_eq_true rfl) dX6_addCorners_84 ⟨Nat.zero_le _, Nat.zero_le _⟩ [0, 1, 2, 3, 4, 5, 6] 7 rfl ⟨rfl, rfl, rfl⟩ (fun H locs hP hD hS => ?_)
        obtain ⟨hP, hD⟩ : va_PD D A ((a_sp, .inr (6, [.ref a_g, .ref a_sp_first, .ref a_sp_many, .ref a_sp_corner, .int v17, .int sp_level, .int sp_row, .int sp_start, .int sp_place, .int sp_length, .int sp_cap])) :: (a_sp_corner, .inl (ci 0, 4, .inl f16)) :: (a_g, .inr (2, [.ref a_g_rowCuts, .ref a_g_columnCuts, .ref a_g_bandRows, .ref a_g_zoneColumns, .ref a_g_rows, .ref a_g_sheets])) :: (a_g_bandRows, .inl (ci 0, 5, .inl g_bandRows)) :: (a_g_zoneColumns, .inl (ci 0, 5, .inl g_zoneColumns)) :: (a_g_rows, .inl (ci 0, 5, .inl g_rows)) :: (a_g_sheets, .inl (ci 0, 5, .inl g_sheets)) :: Rw) H := ⟨hP, hD⟩
        exact J87 f16 v17 _ _ _ hf hP hD hS (lv_sub hl [3, 2, 1, 0] rfl)
    · obtain ⟨rfl, rfl⟩ := q_inj2 (Option.some.inj hf)
      rw [hQ]
      exact q_vret (pc := 15) hx hb hr hlocks hP hD hS dX6_addCorners_15
  exact hgo _ _ rfl hP hS
/-! X6_allBeside -/
set_option maxRecDepth 100000 in
set_option maxHeartbeats 4000000 in
theorem c_Spot_allBeside (l : Launch) (D : va_G) (ci : Nat → ClassId) (A : Nat → Prop) (sa : Nat → Nat) (N : Nat) (Rw : va_W) (a_sp : Nat) (a_g : Nat) (a_sp_first : Nat) (a_sp_many : Nat) (a_sp_corner : Nat) (sp_cornerCount : Int32) (sp_level : Int32) (sp_row : Int32) (sp_start : Int32) (sp_place : Int32) (sp_length : Int32) (sp_cap : Int32) (sp_many : Nat → Int32) (r : Int32) (hf : f_Spot_allBeside sp_many = some r) : Met l yX6_allBeside wsX6_allBeside ({ frames := 0, cells := 0, slots := 0, locals := 0 }) (va_Pc [.ref a_sp] (q_N D ci A sa ((a_sp, .inr (6, [.ref a_g, .ref a_sp_first, .ref a_sp_many, .ref a_sp_corner, .int sp_cornerCount, .int sp_level, .int sp_row, .int sp_start, .int sp_place, .int sp_length, .int sp_cap])) :: (a_sp_many, .inl (ci 0, 4, .inl sp_many)) :: Rw))) (q_R (some (.int r))) 0 0 A := by
  refine q_ofW (cc := cX6_allBeside) (maxL := 1) (ret := (some .int)) [.ref a_sp] (plainFor_of_name (by decide)) rfl (Nat.le_of_ble_eq_true rfl) ?_
  intro p e s m below meth c ls Q hQ hx hb hml hr hts hown hlocks hK hA hZ hP hD hS hl
  have hl : lv_has ls 1 [(0, .ref a_sp)] := hl
  have hown : s.vm.findClass RX6 = some m.cls := hown
  have hinX6 : ∀ w ∈ wsX60, w ∈ wsX6_allBeside := fun _ h => List.mem_cons_of_mem _ (inWX60 _ h)
  have w_1 := hts (Cond.fieldLink RX6 15 "SheetNames$Spot" "many" "[I") (List.mem_cons_of_mem _ t_w805)
  unfold f_Spot_allBeside at hf
  have hgo : ∀ (H : Heap) (locs : List Loc), H = s.heap → va_P D vwCl ((a_sp, .inr (6, [.ref a_g, .ref a_sp_first, .ref a_sp_many, .ref a_sp_corner, .int sp_cornerCount, .int sp_level, .int sp_row, .int sp_start, .int sp_place, .int sp_length, .int sp_cap])) :: (a_sp_many, .inl (ci 0, 4, .inl sp_many)) :: Rw) H → va_S A s.heap H locs → W p l e ({ frames := 0, cells := 0, slots := 0, locals := 0 } : Room) s m ([.ref a_sp] : List Value).toArray below meth c H locs 0 0 Q (F0 m 0 ls []) := by
    intro H locs hH hP hS
    subst hH
    refine lv_aload_n (pc := 0) hx hb dX6_allBeside_0 rfl (lv_at hl 0 rfl) ?_
    refine va_get (pc := 1) (D := D) (ci := 6) (v := .ref a_sp_many) (C := RX6) (T := TX6) (N := 11) hx hb hts hinX6 hown hK hP 0 rfl rfl 2 (by decide) w_1 (fun _ h9 => h9) rfl dX6_allBeside_1 ?_
    refine lv_iconst (pc := 4) (v := 0) hx hb dX6_allBeside_4 (by decide) ?_
    refine q_iald (pc := 5) hx hb hK hP 1 0 hf rfl rfl dX6_allBeside_5 (fun v1 hf => ?_)
    refine lv_aload_n (pc := 6) hx hb dX6_allBeside_6 rfl (lv_at hl 0 rfl) ?_
    refine va_get (pc := 7) (D := D) (ci := 6) (v := .ref a_sp_many) (C := RX6) (T := TX6) (N := 11) hx hb hts hinX6 hown hK hP 0 rfl rfl 2 (by decide) w_1 (fun _ h9 => h9) rfl dX6_allBeside_7 ?_
    refine lv_iconst (pc := 10) (v := 1) hx hb dX6_allBeside_10 (by decide) ?_
    refine q_iald (pc := 11) hx hb hK hP 1 0 hf rfl rfl dX6_allBeside_11 (fun v2 hf => ?_)
    refine lv_iadd (pc := 12) hx hb dX6_allBeside_12 ?_
    refine lv_aload_n (pc := 13) hx hb dX6_allBeside_13 rfl (lv_at hl 0 rfl) ?_
    refine va_get (pc := 14) (D := D) (ci := 6) (v := .ref a_sp_many) (C := RX6) (T := TX6) (N := 11) hx hb hts hinX6 hown hK hP 0 rfl rfl 2 (by decide) w_1 (fun _ h9 => h9) rfl dX6_allBeside_14 ?_
    refine lv_iconst (pc := 17) (v := 2) hx hb dX6_allBeside_17 (by decide) ?_
    refine q_iald (pc := 18) hx hb hK hP 1 0 hf rfl rfl dX6_allBeside_18 (fun v3 hf => ?_)
    refine lv_iadd (pc := 19) hx hb dX6_allBeside_19 ?_
    refine lv_aload_n (pc := 20) hx hb dX6_allBeside_20 rfl (lv_at hl 0 rfl) ?_
    refine va_get (pc := 21) (D := D) (ci := 6) (v := .ref a_sp_many) (C := RX6) (T := TX6) (N := 11) hx hb hts hinX6 hown hK hP 0 rfl rfl 2 (by decide) w_1 (fun _ h9 => h9) rfl dX6_allBeside_21 ?_
    refine lv_iconst (pc := 24) (v := 3) hx hb dX6_allBeside_24 (by decide) ?_
    refine q_iald (pc := 25) hx hb hK hP 1 0 hf rfl rfl dX6_allBeside_25 (fun v4 hf => ?_)
    refine lv_iadd (pc := 26) hx hb dX6_allBeside_26 ?_
    obtain rfl := Option.some.inj hf
    rw [hQ]
    exact q_iretr (pc := 27) hx hb hr hlocks rfl hS dX6_allBeside_27
  exact hgo _ _ rfl hP hS
/-! X6_band -/
set_option maxRecDepth 100000 in
set_option maxHeartbeats 4000000 in
theorem c_Spot_band (l : Launch) (D : va_G) (ci : Nat → ClassId) (A : Nat → Prop) (sa : Nat → Nat) (N : Nat) (Rw : va_W) (a_sp : Nat) (a_g : Nat) (a_sp_first : Nat) (a_sp_many : Nat) (a_sp_corner : Nat) (a_g_rowCuts : Nat) (a_g_columnCuts : Nat) (a_g_bandRows : Nat) (a_g_zoneColumns : Nat) (a_g_rows : Nat) (a_g_sheets : Nat) (sp_cornerCount : Int32) (sp_level : Int32) (sp_row : Int32) (sp_start : Int32) (sp_place : Int32) (sp_length : Int32) (sp_cap : Int32) (g_bandRows : Nat → Int32) (r : Int32) (hf : f_Spot_band sp_level sp_row sp_cap g_bandRows = some r) : Met l yX6_band wsX6_band ({ frames := 0, cells := 0, slots := 0, locals := 0 }) (va_Pc [.ref a_sp] (q_N D ci A sa ((a_sp, .inr (6, [.ref a_g, .ref a_sp_first, .ref a_sp_many, .ref a_sp_corner, .int sp_cornerCount, .int sp_level, .int sp_row, .int sp_start, .int sp_place, .int sp_length, .int sp_cap])) :: (a_g, .inr (2, [.ref a_g_rowCuts, .ref a_g_columnCuts, .ref a_g_bandRows, .ref a_g_zoneColumns, .ref a_g_rows, .ref a_g_sheets])) :: (a_g_bandRows, .inl (ci 0, 5, .inl g_bandRows)) :: Rw))) (q_R (some (.int r))) 0 0 A := by
  refine q_ofW (cc := cX6_band) (maxL := 1) (ret := (some .int)) [.ref a_sp] (plainFor_of_name (by decide)) rfl (Nat.le_of_ble_eq_true rfl) ?_
  intro p e s m below meth c ls Q hQ hx hb hml hr hts hown hlocks hK hA hZ hP hD hS hl
  have hl : lv_has ls 1 [(0, .ref a_sp)] := hl
  have hown : s.vm.findClass RX6 = some m.cls := hown
  have hinX2 : ∀ w ∈ wsX20, w ∈ wsX6_band := fun _ h => List.mem_cons_of_mem _ (inWX20 _ h)
  have hinX6 : ∀ w ∈ wsX60, w ∈ wsX6_band := fun _ h => List.mem_cons_of_mem _ (inWX60 _ h)
  have w_1 := hts (Cond.fieldLink RX6 40 "SheetNames$Spot" "cap" "Z") (List.mem_cons_of_mem _ t_w806)
  have w_2 := hts (Cond.fieldLink RX6 28 "SheetNames$Spot" "row" "I") (List.mem_cons_of_mem _ t_w807)
  have w_3 := hts (Cond.fieldLink RX6 44 "SheetNames$Spot" "grid" "LSheetNames$Grid;") (List.mem_cons_of_mem _ t_w801)
  have w_4 := hts (Cond.fieldLink RX6 25 "SheetNames$Spot" "level" "I") (List.mem_cons_of_mem _ t_w802)
  have wn_57 : (Cond.fieldLinkNest "SheetNames$Spot" 64 "SheetNames$Grid" "bandRows" "[I" "SheetNames").before ([.ref a_sp] : List Value).toArray s = true := (hZ.2.2.2.2.2.2.2.2.2.1 _ (List.mem_of_getElem? (i := 57) rfl)).use rfl
  unfold f_Spot_band at hf
  have hgo : ∀ (H : Heap) (locs : List Loc), H = s.heap → va_P D vwCl ((a_sp, .inr (6, [.ref a_g, .ref a_sp_first, .ref a_sp_many, .ref a_sp_corner, .int sp_cornerCount, .int sp_level, .int sp_row, .int sp_start, .int sp_place, .int sp_length, .int sp_cap])) :: (a_g, .inr (2, [.ref a_g_rowCuts, .ref a_g_columnCuts, .ref a_g_bandRows, .ref a_g_zoneColumns, .ref a_g_rows, .ref a_g_sheets])) :: (a_g_bandRows, .inl (ci 0, 5, .inl g_bandRows)) :: Rw) H → va_S A s.heap H locs → W p l e ({ frames := 0, cells := 0, slots := 0, locals := 0 } : Room) s m ([.ref a_sp] : List Value).toArray below meth c H locs 0 0 Q (F0 m 0 ls []) := by
    intro H locs hH hP hS
    subst hH
    refine lv_aload_n (pc := 0) hx hb dX6_band_0 rfl (lv_at hl 0 rfl) ?_
    refine va_get (pc := 1) (D := D) (ci := 6) (v := .int sp_cap) (C := RX6) (T := TX6) (N := 11) hx hb hts hinX6 hown hK hP 0 rfl rfl 10 (by decide) w_1 (fun _ h9 => h9) rfl dX6_band_1 ?_
    refine q_if_eq (pc := 4) (tgt := 22) hx hb dX6_band_4 (by decide) rfl hf (fun hf => ?_) (fun hf => ?_)
    · refine lv_bipush (pc := 22) (v := 21) hx hb dX6_band_22 (by decide) ?_
      refine lv_aload_n (pc := 24) hx hb dX6_band_24 rfl (lv_at hl 0 rfl) ?_
      refine va_get (pc := 25) (D := D) (ci := 6) (v := .int sp_row) (C := RX6) (T := TX6) (N := 11) hx hb hts hinX6 hown hK hP 0 rfl rfl 6 (by decide) w_2 (fun _ h9 => h9) rfl dX6_band_25 ?_
      refine lv_iconst (pc := 28) (v := 1) hx hb dX6_band_28 (by decide) ?_
      refine lv_isub (pc := 29) hx hb dX6_band_29 ?_
      refine lv_aload_n (pc := 30) hx hb dX6_band_30 rfl (lv_at hl 0 rfl) ?_
      refine va_get (pc := 31) (D := D) (ci := 6) (v := .ref a_g) (C := RX6) (T := TX6) (N := 11) hx hb hts hinX6 hown hK hP 0 rfl rfl 0 (by decide) w_3 (fun _ h9 => h9) rfl dX6_band_31 ?_
      refine va_getN (pc := 34) (D := D) (ci := 2) (v := .ref a_g_bandRows) (C := RX2) (T := TX2) (N := 6) hx hb hts hinX2 hown hK hP 1 rfl rfl 2 (by decide) wn_57 (fun _ h9 => h9) rfl dX6_band_34 ?_
      refine lv_aload_n (pc := 37) hx hb dX6_band_37 rfl (lv_at hl 0 rfl) ?_
      refine va_get (pc := 38) (D := D) (ci := 6) (v := .int sp_level) (C := RX6) (T := TX6) (N := 11) hx hb hts hinX6 hown hK hP 0 rfl rfl 5 (by decide) w_4 (fun _ h9 => h9) rfl dX6_band_38 ?_
      refine q_iald (pc := 41) hx hb hK hP 2 0 hf rfl rfl dX6_band_41 (fun v1 hf => ?_)
      refine q_idiv (pc := 42) hx hb dX6_band_42 hf (fun v2 hf => ?_)
      refine lv_isub (pc := 43) hx hb dX6_band_43 ?_
      obtain rfl := Option.some.inj hf
      rw [hQ]
      exact q_iretr (pc := 44) hx hb hr hlocks rfl hS dX6_band_44
    · refine lv_aload_n (pc := 7) hx hb dX6_band_7 rfl (lv_at hl 0 rfl) ?_
      refine va_get (pc := 8) (D := D) (ci := 6) (v := .int sp_row) (C := RX6) (T := TX6) (N := 11) hx hb hts hinX6 hown hK hP 0 rfl rfl 6 (by decide) w_2 (fun _ h9 => h9) rfl dX6_band_8 ?_
      refine q_if_ne (pc := 11) (tgt := 19) hx hb dX6_band_11 (by decide) rfl hf (fun hf => ?_) (fun hf => ?_)
      · refine lv_bipush (pc := 19) (v := (-100)) hx hb dX6_band_19 (by decide) ?_
        obtain rfl := Option.some.inj hf
        rw [hQ]
        exact q_iretr (pc := 21) hx hb hr hlocks rfl hS dX6_band_21
      · refine lv_bipush (pc := 14) (v := 100) hx hb dX6_band_14 (by decide) ?_
        refine lv_goto (pc := 16) (tgt := 21) hx hb dX6_band_16 (by decide) ?_
        obtain rfl := Option.some.inj hf
        rw [hQ]
        exact q_iretr (pc := 21) hx hb hr hlocks rfl hS dX6_band_21
  exact hgo _ _ rfl hP hS
/-! X6_besideKey -/
set_option maxRecDepth 100000 in
set_option maxHeartbeats 4000000 in
theorem c_Spot_besideKey (l : Launch) (D : va_G) (ci : Nat → ClassId) (A : Nat → Prop) (sa : Nat → Nat) (N : Nat) (Rw : va_W) (a_sp : Nat) (a_g : Nat) (a_sp_first : Nat) (a_sp_many : Nat) (a_sp_corner : Nat) (sp_cornerCount : Int32) (sp_level : Int32) (sp_row : Int32) (sp_start : Int32) (sp_place : Int32) (sp_length : Int32) (sp_cap : Int32) (sp_first : Nat → Int32) (sp_many : Nat → Int32) (p1 : Int32) (r : Int32) (hf : f_Spot_besideKey sp_first sp_many p1 = some r) : Met l yX6_besideKey wsX6_besideKey ({ frames := 1, cells := 0, slots := 0, locals := 40 }) (va_Pc [.ref a_sp, .int p1] (q_N D ci A sa ((a_sp, .inr (6, [.ref a_g, .ref a_sp_first, .ref a_sp_many, .ref a_sp_corner, .int sp_cornerCount, .int sp_level, .int sp_row, .int sp_start, .int sp_place, .int sp_length, .int sp_cap])) :: (a_sp_first, .inl (ci 0, 4, .inl sp_first)) :: (a_sp_many, .inl (ci 0, 4, .inl sp_many)) :: Rw))) (q_R (some (.int r))) 0 0 A := by
  refine q_ofW (cc := cX6_besideKey) (maxL := 3) (ret := (some .int)) [.ref a_sp, .int p1] (plainFor_of_name (by decide)) rfl (Nat.le_of_ble_eq_true rfl) ?_
  intro p e s m below meth c ls Q hQ hx hb hml hr hts hown hlocks hK hA hZ hP hD hS hl
  have hl : lv_has ls 3 [(0, .ref a_sp), (1, .int p1)] := hl
  have hown : s.vm.findClass RX6 = some m.cls := hown
  have hinX6 : ∀ w ∈ wsX60, w ∈ wsX6_besideKey := fun _ h => List.mem_cons_of_mem _ (inWX60 _ h)
  have w_1 := hts (Cond.fieldLink RX6 15 "SheetNames$Spot" "many" "[I") (List.mem_cons_of_mem _ t_w805)
  have w_2 := hts (Cond.fieldLink RX6 9 "SheetNames$Spot" "first" "[I") (List.mem_cons_of_mem _ t_w808)
  have w_3 := hts (Cond.methodLink RX6 123 Lib.Math.min.name) (List.mem_cons_of_mem _ t_w809)
  have w_4 := hts (Cond.static Lib.Math.min.name) (List.mem_cons_of_mem _ t_w810)
  have w_5 := hts (Cond.initialized "java/lang/Math") (List.mem_cons_of_mem _ t_w76)
  have w_6 := hts (Cond.code Lib.Math.min.name Lib.Math.min.code 2 (some .int)) (List.mem_cons_of_mem _ t_w811)
  have w_7 := hts (Cond.methodLink RX6 126 Lib.Math.max.name) (List.mem_cons_of_mem _ t_w812)
  have w_8 := hts (Cond.static Lib.Math.max.name) (List.mem_cons_of_mem _ t_w813)
  have w_9 := hts (Cond.code Lib.Math.max.name Lib.Math.max.code 2 (some .int)) (List.mem_cons_of_mem _ t_w814)
  unfold f_Spot_besideKey at hf
  have hgo : ∀ (H : Heap) (locs : List Loc), H = s.heap → va_P D vwCl ((a_sp, .inr (6, [.ref a_g, .ref a_sp_first, .ref a_sp_many, .ref a_sp_corner, .int sp_cornerCount, .int sp_level, .int sp_row, .int sp_start, .int sp_place, .int sp_length, .int sp_cap])) :: (a_sp_first, .inl (ci 0, 4, .inl sp_first)) :: (a_sp_many, .inl (ci 0, 4, .inl sp_many)) :: Rw) H → va_S A s.heap H locs → W p l e ({ frames := 1, cells := 0, slots := 0, locals := 40 } : Room) s m ([.ref a_sp, .int p1] : List Value).toArray below meth c H locs 0 0 Q (F0 m 0 ls []) := by
    intro H locs hH hP hS
    subst hH
    refine lv_iload_n (pc := 0) hx hb dX6_besideKey_0 rfl (lv_at hl 1 rfl) ?_
    refine lv_aload_n (pc := 1) hx hb dX6_besideKey_1 rfl (lv_at hl 0 rfl) ?_
    refine va_get (pc := 2) (D := D) (ci := 6) (v := .ref a_sp_many) (C := RX6) (T := TX6) (N := 11) hx hb hts hinX6 hown hK hP 0 rfl rfl 2 (by decide) w_1 (fun _ h9 => h9) rfl dX6_besideKey_2 ?_
    refine lv_iconst (pc := 5) (v := 0) hx hb dX6_besideKey_5 (by decide) ?_
    refine q_iald (pc := 6) hx hb hK hP 2 0 hf rfl rfl dX6_besideKey_6 (fun v1 hf => ?_)
    refine q_icmp_ge (pc := 7) (tgt := 19) hx hb dX6_besideKey_7 (by decide) rfl hf (fun hf => ?_) (fun hf => ?_)
    · refine lv_iload_n (pc := 19) hx hb dX6_besideKey_19 rfl (lv_at hl 1 rfl) ?_
      refine lv_aload_n (pc := 20) hx hb dX6_besideKey_20 rfl (lv_at hl 0 rfl) ?_
      refine va_get (pc := 21) (D := D) (ci := 6) (v := .ref a_sp_many) (C := RX6) (T := TX6) (N := 11) hx hb hts hinX6 hown hK hP 0 rfl rfl 2 (by decide) w_1 (fun _ h9 => h9) rfl dX6_besideKey_21 ?_
      refine lv_iconst (pc := 24) (v := 0) hx hb dX6_besideKey_24 (by decide) ?_
      refine q_iald (pc := 25) hx hb hK hP 2 0 hf rfl rfl dX6_besideKey_25 (fun v2 hf => ?_)
      refine lv_isub (pc := 26) hx hb dX6_besideKey_26 ?_
      obtain ⟨v3, ev3, hf⟩ := q_nm_e hf
      refine q_topi ev3 ?_
      refine lv_istore_n (pc := 27) (lv' := [(2, .int v3), (0, .ref a_sp), (1, .int p1)]) hx hb dX6_besideKey_27 rfl hl (by decide) rfl (fun ls hl => ?_)
      refine lv_iload_n (pc := 28) hx hb dX6_besideKey_28 rfl (lv_at hl 0 rfl) ?_
      refine lv_aload_n (pc := 29) hx hb dX6_besideKey_29 rfl (lv_at hl 1 rfl) ?_
      refine va_get (pc := 30) (D := D) (ci := 6) (v := .ref a_sp_many) (C := RX6) (T := TX6) (N := 11) hx hb hts hinX6 hown hK hP 0 rfl rfl 2 (by decide) w_1 (fun _ h9 => h9) rfl dX6_besideKey_30 ?_
      refine lv_iconst (pc := 33) (v := 1) hx hb dX6_besideKey_33 (by decide) ?_
      refine q_iald (pc := 34) hx hb hK hP 2 0 hf rfl rfl dX6_besideKey_34 (fun v4 hf => ?_)
      refine lv_aload_n (pc := 35) hx hb dX6_besideKey_35 rfl (lv_at hl 1 rfl) ?_
      refine va_get (pc := 36) (D := D) (ci := 6) (v := .ref a_sp_many) (C := RX6) (T := TX6) (N := 11) hx hb hts hinX6 hown hK hP 0 rfl rfl 2 (by decide) w_1 (fun _ h9 => h9) rfl dX6_besideKey_36 ?_
      refine lv_iconst (pc := 39) (v := 3) hx hb dX6_besideKey_39 (by decide) ?_
      refine q_iald (pc := 40) hx hb hK hP 2 0 hf rfl rfl dX6_besideKey_40 (fun v5 hf => ?_)
      refine lv_iadd (pc := 41) hx hb dX6_besideKey_41 ?_
      refine q_icmp_lt (pc := 42) (tgt := 68) hx hb dX6_besideKey_42 (by decide) rfl hf (fun hf => ?_) (fun hf => ?_)
      · refine lv_iload_n (pc := 68) hx hb dX6_besideKey_68 rfl (lv_at hl 0 rfl) ?_
        refine q_if_ne (pc := 69) (tgt := 88) hx hb dX6_besideKey_69 (by decide) rfl hf (fun hf => ?_) (fun hf => ?_)
        · refine lv_aload_n (pc := 88) hx hb dX6_besideKey_88 rfl (lv_at hl 1 rfl) ?_
          refine va_get (pc := 89) (D := D) (ci := 6) (v := .ref a_sp_first) (C := RX6) (T := TX6) (N := 11) hx hb hts hinX6 hown hK hP 0 rfl rfl 1 (by decide) w_2 (fun _ h9 => h9) rfl dX6_besideKey_89 ?_
          refine lv_iconst (pc := 92) (v := 1) hx hb dX6_besideKey_92 (by decide) ?_
          refine q_iald (pc := 93) hx hb hK hP 1 0 hf rfl rfl dX6_besideKey_93 (fun v6 hf => ?_)
          refine lv_aload_n (pc := 94) hx hb dX6_besideKey_94 rfl (lv_at hl 1 rfl) ?_
          refine va_get (pc := 95) (D := D) (ci := 6) (v := .ref a_sp_first) (C := RX6) (T := TX6) (N := 11) hx hb hts hinX6 hown hK hP 0 rfl rfl 1 (by decide) w_2 (fun _ h9 => h9) rfl dX6_besideKey_95 ?_
          refine lv_iconst (pc := 98) (v := 3) hx hb dX6_besideKey_98 (by decide) ?_
          refine q_iald (pc := 99) hx hb hK hP 1 0 hf rfl rfl dX6_besideKey_99 (fun v7 hf => ?_)
          obtain ⟨v8, ev8, hf⟩ := q_nm_e hf
          refine va_mmax (pc := 100) hx hb (hml.trans hl.1.symm) hown w_7 w_8 w_5 w_9 (Nat.le_of_ble_eq_true rfl) (Nat.le_of_ble_eq_true rfl) (Nat.zero_le _) (Nat.zero_le _) dX6_besideKey_100 ?_
          refine q_topi ev8 ?_
          obtain rfl := Option.some.inj hf
          rw [hQ]
          exact q_iretr (pc := 103) hx hb hr hlocks rfl hS dX6_besideKey_103
        · refine lv_aload_n (pc := 72) hx hb dX6_besideKey_72 rfl (lv_at hl 1 rfl) ?_
          refine va_get (pc := 73) (D := D) (ci := 6) (v := .ref a_sp_first) (C := RX6) (T := TX6) (N := 11) hx hb hts hinX6 hown hK hP 0 rfl rfl 1 (by decide) w_2 (fun _ h9 => h9) rfl dX6_besideKey_73 ?_
          refine lv_iconst (pc := 76) (v := 1) hx hb dX6_besideKey_76 (by decide) ?_
          refine q_iald (pc := 77) hx hb hK hP 1 0 hf rfl rfl dX6_besideKey_77 (fun v9 hf => ?_)
          refine lv_aload_n (pc := 78) hx hb dX6_besideKey_78 rfl (lv_at hl 1 rfl) ?_
          refine va_get (pc := 79) (D := D) (ci := 6) (v := .ref a_sp_first) (C := RX6) (T := TX6) (N := 11) hx hb hts hinX6 hown hK hP 0 rfl rfl 1 (by decide) w_2 (fun _ h9 => h9) rfl dX6_besideKey_79 ?_
          refine lv_iconst (pc := 82) (v := 3) hx hb dX6_besideKey_82 (by decide) ?_
          refine q_iald (pc := 83) hx hb hK hP 1 0 hf rfl rfl dX6_besideKey_83 (fun v10 hf => ?_)
          obtain ⟨v11, ev11, hf⟩ := q_nm_e hf
          refine va_mmin (pc := 84) hx hb (hml.trans hl.1.symm) hown w_3 w_4 w_5 w_6 (Nat.le_of_ble_eq_true rfl) (Nat.le_of_ble_eq_true rfl) (Nat.zero_le _) (Nat.zero_le _) dX6_besideKey_84 ?_
          refine q_topi ev11 ?_
          obtain rfl := Option.some.inj hf
          rw [hQ]
          exact q_iretr (pc := 87) hx hb hr hlocks rfl hS dX6_besideKey_87
      · refine lv_aload_n (pc := 45) hx hb dX6_besideKey_45 rfl (lv_at hl 1 rfl) ?_
        refine va_get (pc := 46) (D := D) (ci := 6) (v := .ref a_sp_first) (C := RX6) (T := TX6) (N := 11) hx hb hts hinX6 hown hK hP 0 rfl rfl 1 (by decide) w_2 (fun _ h9 => h9) rfl dX6_besideKey_46 ?_
        refine lv_iconst (pc := 49) (v := 2) hx hb dX6_besideKey_49 (by decide) ?_
        refine q_iald (pc := 50) hx hb hK hP 1 0 hf rfl rfl dX6_besideKey_50 (fun v12 hf => ?_)
        refine lv_iload_n (pc := 51) hx hb dX6_besideKey_51 rfl (lv_at hl 0 rfl) ?_
        refine lv_iadd (pc := 52) hx hb dX6_besideKey_52 ?_
        refine lv_aload_n (pc := 53) hx hb dX6_besideKey_53 rfl (lv_at hl 1 rfl) ?_
        refine va_get (pc := 54) (D := D) (ci := 6) (v := .ref a_sp_many) (C := RX6) (T := TX6) (N := 11) hx hb hts hinX6 hown hK hP 0 rfl rfl 2 (by decide) w_1 (fun _ h9 => h9) rfl dX6_besideKey_54 ?_
        refine lv_iconst (pc := 57) (v := 1) hx hb dX6_besideKey_57 (by decide) ?_
        refine q_iald (pc := 58) hx hb hK hP 2 0 hf rfl rfl dX6_besideKey_58 (fun v13 hf => ?_)
        refine lv_isub (pc := 59) hx hb dX6_besideKey_59 ?_
        refine lv_aload_n (pc := 60) hx hb dX6_besideKey_60 rfl (lv_at hl 1 rfl) ?_
        refine va_get (pc := 61) (D := D) (ci := 6) (v := .ref a_sp_many) (C := RX6) (T := TX6) (N := 11) hx hb hts hinX6 hown hK hP 0 rfl rfl 2 (by decide) w_1 (fun _ h9 => h9) rfl dX6_besideKey_61 ?_
        refine lv_iconst (pc := 64) (v := 3) hx hb dX6_besideKey_64 (by decide) ?_
        refine q_iald (pc := 65) hx hb hK hP 2 0 hf rfl rfl dX6_besideKey_65 (fun v14 hf => ?_)
        refine lv_isub (pc := 66) hx hb dX6_besideKey_66 ?_
        obtain rfl := Option.some.inj hf
        rw [hQ]
        exact q_iretr (pc := 67) hx hb hr hlocks rfl hS dX6_besideKey_67
    · refine lv_aload_n (pc := 10) hx hb dX6_besideKey_10 rfl (lv_at hl 0 rfl) ?_
      refine va_get (pc := 11) (D := D) (ci := 6) (v := .ref a_sp_first) (C := RX6) (T := TX6) (N := 11) hx hb hts hinX6 hown hK hP 0 rfl rfl 1 (by decide) w_2 (fun _ h9 => h9) rfl dX6_besideKey_11 ?_
      refine lv_iconst (pc := 14) (v := 0) hx hb dX6_besideKey_14 (by decide) ?_
      refine q_iald (pc := 15) hx hb hK hP 1 0 hf rfl rfl dX6_besideKey_15 (fun v15 hf => ?_)
      refine lv_iload_n (pc := 16) hx hb dX6_besideKey_16 rfl (lv_at hl 1 rfl) ?_
      refine lv_iadd (pc := 17) hx hb dX6_besideKey_17 ?_
      obtain rfl := Option.some.inj hf
      rw [hQ]
      exact q_iretr (pc := 18) hx hb hr hlocks rfl hS dX6_besideKey_18
  exact hgo _ _ rfl hP hS
/-! X6_edgeBottom -/
set_option maxRecDepth 100000 in
set_option maxHeartbeats 4000000 in
theorem c_Spot_edgeBottom (l : Launch) (D : va_G) (ci : Nat → ClassId) (A : Nat → Prop) (sa : Nat → Nat) (N : Nat) (Rw : va_W) (a_sp : Nat) (a_g : Nat) (a_sp_first : Nat) (a_sp_many : Nat) (a_sp_corner : Nat) (a_g_rowCuts : Nat) (a_g_columnCuts : Nat) (a_g_bandRows : Nat) (a_g_zoneColumns : Nat) (a_g_rows : Nat) (a_g_sheets : Nat) (sp_cornerCount : Int32) (sp_level : Int32) (sp_row : Int32) (sp_start : Int32) (sp_place : Int32) (sp_length : Int32) (sp_cap : Int32) (g_bandRows : Nat → Int32) (p1 : Int32) (r : Int64) (hf : f_Spot_edgeBottom sp_level sp_length sp_cap g_bandRows p1 = some r) : Met l yX6_edgeBottom wsX6_edgeBottom ({ frames := 0, cells := 0, slots := 0, locals := 0 }) (va_Pc [.ref a_sp, .int p1] (q_N D ci A sa ((a_sp, .inr (6, [.ref a_g, .ref a_sp_first, .ref a_sp_many, .ref a_sp_corner, .int sp_cornerCount, .int sp_level, .int sp_row, .int sp_start, .int sp_place, .int sp_length, .int sp_cap])) :: (a_g, .inr (2, [.ref a_g_rowCuts, .ref a_g_columnCuts, .ref a_g_bandRows, .ref a_g_zoneColumns, .ref a_g_rows, .ref a_g_sheets])) :: (a_g_bandRows, .inl (ci 0, 5, .inl g_bandRows)) :: Rw))) (q_R (some (.long r))) 0 0 A := by
  refine q_ofW (cc := cX6_edgeBottom) (maxL := 2) (ret := (some .long)) [.ref a_sp, .int p1] (plainFor_of_name (by decide)) rfl (Nat.le_of_ble_eq_true rfl) ?_
  intro p e s m below meth c ls Q hQ hx hb hml hr hts hown hlocks hK hA hZ hP hD hS hl
  have hl : lv_has ls 2 [(0, .ref a_sp), (1, .int p1)] := hl
  have hown : s.vm.findClass RX6 = some m.cls := hown
  have hinX2 : ∀ w ∈ wsX20, w ∈ wsX6_edgeBottom := fun _ h => List.mem_cons_of_mem _ (inWX20 _ h)
  have hinX6 : ∀ w ∈ wsX60, w ∈ wsX6_edgeBottom := fun _ h => List.mem_cons_of_mem _ (inWX60 _ h)
  have w_1 := hts (Cond.fieldLink RX6 37 "SheetNames$Spot" "length" "I") (List.mem_cons_of_mem _ t_w804)
  have w_2 := hts (Cond.fieldLink RX6 40 "SheetNames$Spot" "cap" "Z") (List.mem_cons_of_mem _ t_w806)
  have w_3 := hts (Cond.fieldLink RX6 44 "SheetNames$Spot" "grid" "LSheetNames$Grid;") (List.mem_cons_of_mem _ t_w801)
  have w_4 := hts (Cond.fieldLink RX6 25 "SheetNames$Spot" "level" "I") (List.mem_cons_of_mem _ t_w802)
  have wn_57 : (Cond.fieldLinkNest "SheetNames$Spot" 64 "SheetNames$Grid" "bandRows" "[I" "SheetNames").before ([.ref a_sp, .int p1] : List Value).toArray s = true := (hZ.2.2.2.2.2.2.2.2.2.1 _ (List.mem_of_getElem? (i := 57) rfl)).use rfl
  unfold f_Spot_edgeBottom at hf
  have hgo : ∀ (H : Heap) (locs : List Loc), H = s.heap → va_P D vwCl ((a_sp, .inr (6, [.ref a_g, .ref a_sp_first, .ref a_sp_many, .ref a_sp_corner, .int sp_cornerCount, .int sp_level, .int sp_row, .int sp_start, .int sp_place, .int sp_length, .int sp_cap])) :: (a_g, .inr (2, [.ref a_g_rowCuts, .ref a_g_columnCuts, .ref a_g_bandRows, .ref a_g_zoneColumns, .ref a_g_rows, .ref a_g_sheets])) :: (a_g_bandRows, .inl (ci 0, 5, .inl g_bandRows)) :: Rw) H → va_S A s.heap H locs → W p l e ({ frames := 0, cells := 0, slots := 0, locals := 0 } : Room) s m ([.ref a_sp, .int p1] : List Value).toArray below meth c H locs 0 0 Q (F0 m 0 ls []) := by
    intro H locs hH hP hS
    subst hH
    refine lv_iload_n (pc := 0) hx hb dX6_edgeBottom_0 rfl (lv_at hl 1 rfl) ?_
    refine lv_iconst (pc := 1) (v := 2) hx hb dX6_edgeBottom_1 (by decide) ?_
    refine q_icmp_lt (pc := 2) (tgt := 11) hx hb dX6_edgeBottom_2 (by decide) rfl hf (fun hf => ?_) (fun hf => ?_)
    · refine lv_aload_n (pc := 11) hx hb dX6_edgeBottom_11 rfl (lv_at hl 0 rfl) ?_
      refine va_get (pc := 12) (D := D) (ci := 6) (v := .int sp_cap) (C := RX6) (T := TX6) (N := 11) hx hb hts hinX6 hown hK hP 0 rfl rfl 10 (by decide) w_2 (fun _ h9 => h9) rfl dX6_edgeBottom_12 ?_
      refine q_if_eq (pc := 15) (tgt := 22) hx hb dX6_edgeBottom_15 (by decide) rfl hf (fun hf => ?_) (fun hf => ?_)
      · refine lv_aload_n (pc := 22) hx hb dX6_edgeBottom_22 rfl (lv_at hl 0 rfl) ?_
        refine va_get (pc := 23) (D := D) (ci := 6) (v := .ref a_g) (C := RX6) (T := TX6) (N := 11) hx hb hts hinX6 hown hK hP 0 rfl rfl 0 (by decide) w_3 (fun _ h9 => h9) rfl dX6_edgeBottom_23 ?_
        refine va_getN (pc := 26) (D := D) (ci := 2) (v := .ref a_g_bandRows) (C := RX2) (T := TX2) (N := 6) hx hb hts hinX2 hown hK hP 1 rfl rfl 2 (by decide) wn_57 (fun _ h9 => h9) rfl dX6_edgeBottom_26 ?_
        refine lv_aload_n (pc := 29) hx hb dX6_edgeBottom_29 rfl (lv_at hl 0 rfl) ?_
        refine va_get (pc := 30) (D := D) (ci := 6) (v := .int sp_level) (C := RX6) (T := TX6) (N := 11) hx hb hts hinX6 hown hK hP 0 rfl rfl 5 (by decide) w_4 (fun _ h9 => h9) rfl dX6_edgeBottom_30 ?_
        refine q_iald (pc := 33) hx hb hK hP 2 0 hf rfl rfl dX6_edgeBottom_33 (fun v1 hf => ?_)
        refine lv_i2l (pc := 34) hx hb dX6_edgeBottom_34 rfl ?_
        obtain rfl := Option.some.inj hf
        rw [hQ]
        exact q_lretr (pc := 35) hx hb hr hlocks rfl hS dX6_edgeBottom_35
      · refine lv_lconst (pc := 18) (v := 1) hx hb dX6_edgeBottom_18 (by decide) ?_
        refine lv_goto (pc := 19) (tgt := 35) hx hb dX6_edgeBottom_19 (by decide) ?_
        obtain rfl := Option.some.inj hf
        rw [hQ]
        exact q_lretr (pc := 35) hx hb hr hlocks rfl hS dX6_edgeBottom_35
    · refine lv_aload_n (pc := 5) hx hb dX6_edgeBottom_5 rfl (lv_at hl 0 rfl) ?_
      refine va_get (pc := 6) (D := D) (ci := 6) (v := .int sp_length) (C := RX6) (T := TX6) (N := 11) hx hb hts hinX6 hown hK hP 0 rfl rfl 9 (by decide) w_1 (fun _ h9 => h9) rfl dX6_edgeBottom_6 ?_
      refine lv_i2l (pc := 9) hx hb dX6_edgeBottom_9 rfl ?_
      obtain rfl := Option.some.inj hf
      rw [hQ]
      exact q_lretr (pc := 10) hx hb hr hlocks rfl hS dX6_edgeBottom_10
  exact hgo _ _ rfl hP hS
/-! X6_edgeTop -/
set_option maxRecDepth 100000 in
set_option maxHeartbeats 4000000 in
theorem c_Spot_edgeTop (l : Launch) (D : va_G) (ci : Nat → ClassId) (A : Nat → Prop) (sa : Nat → Nat) (N : Nat) (Rw : va_W) (a_sp : Nat) (a_g : Nat) (a_sp_first : Nat) (a_sp_many : Nat) (a_sp_corner : Nat) (a_g_rowCuts : Nat) (a_g_columnCuts : Nat) (a_g_bandRows : Nat) (a_g_zoneColumns : Nat) (a_g_rows : Nat) (a_g_sheets : Nat) (sp_cornerCount : Int32) (sp_level : Int32) (sp_row : Int32) (sp_start : Int32) (sp_place : Int32) (sp_length : Int32) (sp_cap : Int32) (g_bandRows : Nat → Int32) (p1 : Int32) (r : Int64) (hf : f_Spot_edgeTop sp_level sp_row sp_place sp_cap g_bandRows p1 = some r) : Met l yX6_edgeTop wsX6_edgeTop ({ frames := 0, cells := 0, slots := 0, locals := 0 }) (va_Pc [.ref a_sp, .int p1] (q_N D ci A sa ((a_sp, .inr (6, [.ref a_g, .ref a_sp_first, .ref a_sp_many, .ref a_sp_corner, .int sp_cornerCount, .int sp_level, .int sp_row, .int sp_start, .int sp_place, .int sp_length, .int sp_cap])) :: (a_g, .inr (2, [.ref a_g_rowCuts, .ref a_g_columnCuts, .ref a_g_bandRows, .ref a_g_zoneColumns, .ref a_g_rows, .ref a_g_sheets])) :: (a_g_bandRows, .inl (ci 0, 5, .inl g_bandRows)) :: Rw))) (q_R (some (.long r))) 0 0 A := by
  refine q_ofW (cc := cX6_edgeTop) (maxL := 4) (ret := (some .long)) [.ref a_sp, .int p1] (plainFor_of_name (by decide)) rfl (Nat.le_of_ble_eq_true rfl) ?_
  intro p e s m below meth c ls Q hQ hx hb hml hr hts hown hlocks hK hA hZ hP hD hS hl
  have hl : lv_has ls 4 [(0, .ref a_sp), (1, .int p1)] := hl
  have hown : s.vm.findClass RX6 = some m.cls := hown
  have hinX2 : ∀ w ∈ wsX20, w ∈ wsX6_edgeTop := fun _ h => List.mem_cons_of_mem _ (inWX20 _ h)
  have hinX6 : ∀ w ∈ wsX60, w ∈ wsX6_edgeTop := fun _ h => List.mem_cons_of_mem _ (inWX60 _ h)
  have w_1 := hts (Cond.constantLong RX6 86 (1296000)) (List.mem_cons_of_mem _ t_w815)
  have w_2 := hts (Cond.fieldLink RX6 34 "SheetNames$Spot" "place" "I") (List.mem_cons_of_mem _ t_w803)
  have w_3 := hts (Cond.fieldLink RX6 40 "SheetNames$Spot" "cap" "Z") (List.mem_cons_of_mem _ t_w806)
  have w_4 := hts (Cond.fieldLink RX6 28 "SheetNames$Spot" "row" "I") (List.mem_cons_of_mem _ t_w807)
  have w_5 := hts (Cond.constant RX6 88 (316800)) (List.mem_cons_of_mem _ t_w816)
  have w_6 := hts (Cond.constant RX6 89 (-324000)) (List.mem_cons_of_mem _ t_w817)
  have w_7 := hts (Cond.constant RX6 90 (324000)) (List.mem_cons_of_mem _ t_w818)
  have w_8 := hts (Cond.constantLong RX6 91 (22)) (List.mem_cons_of_mem _ t_w819)
  have w_9 := hts (Cond.fieldLink RX6 44 "SheetNames$Spot" "grid" "LSheetNames$Grid;") (List.mem_cons_of_mem _ t_w801)
  have w_10 := hts (Cond.fieldLink RX6 25 "SheetNames$Spot" "level" "I") (List.mem_cons_of_mem _ t_w802)
  have w_11 := hts (Cond.constantLong RX6 93 (14400)) (List.mem_cons_of_mem _ t_w820)
  have wn_57 : (Cond.fieldLinkNest "SheetNames$Spot" 64 "SheetNames$Grid" "bandRows" "[I" "SheetNames").before ([.ref a_sp, .int p1] : List Value).toArray s = true := (hZ.2.2.2.2.2.2.2.2.2.1 _ (List.mem_of_getElem? (i := 57) rfl)).use rfl
  unfold f_Spot_edgeTop at hf
  have hgo : ∀ (H : Heap) (locs : List Loc), H = s.heap → va_P D vwCl ((a_sp, .inr (6, [.ref a_g, .ref a_sp_first, .ref a_sp_many, .ref a_sp_corner, .int sp_cornerCount, .int sp_level, .int sp_row, .int sp_start, .int sp_place, .int sp_length, .int sp_cap])) :: (a_g, .inr (2, [.ref a_g_rowCuts, .ref a_g_columnCuts, .ref a_g_bandRows, .ref a_g_zoneColumns, .ref a_g_rows, .ref a_g_sheets])) :: (a_g_bandRows, .inl (ci 0, 5, .inl g_bandRows)) :: Rw) H → va_S A s.heap H locs → W p l e ({ frames := 0, cells := 0, slots := 0, locals := 0 } : Room) s m ([.ref a_sp, .int p1] : List Value).toArray below meth c H locs 0 0 Q (F0 m 0 ls []) := by
    intro H locs hH hP hS
    subst hH
    refine lv_iload_n (pc := 0) hx hb dX6_edgeTop_0 rfl (lv_at hl 1 rfl) ?_
    refine lv_iconst (pc := 1) (v := 2) hx hb dX6_edgeTop_1 (by decide) ?_
    refine q_icmp_lt (pc := 2) (tgt := 29) hx hb dX6_edgeTop_2 (by decide) rfl hf (fun hf => ?_) (fun hf => ?_)
    · refine lv_aload_n (pc := 29) hx hb dX6_edgeTop_29 rfl (lv_at hl 0 rfl) ?_
      refine va_get (pc := 30) (D := D) (ci := 6) (v := .int sp_cap) (C := RX6) (T := TX6) (N := 11) hx hb hts hinX6 hown hK hP 0 rfl rfl 10 (by decide) w_3 (fun _ h9 => h9) rfl dX6_edgeTop_30 ?_
      refine q_if_eq (pc := 33) (tgt := 69) hx hb dX6_edgeTop_33 (by decide) rfl hf (fun hf => ?_) (fun hf => ?_)
      · refine lv_ldc2 (pc := 69) (v := 22) hx hb hown w_8 dX6_edgeTop_69 ?_
        refine lv_aload_n (pc := 72) hx hb dX6_edgeTop_72 rfl (lv_at hl 0 rfl) ?_
        refine va_get (pc := 73) (D := D) (ci := 6) (v := .ref a_g) (C := RX6) (T := TX6) (N := 11) hx hb hts hinX6 hown hK hP 0 rfl rfl 0 (by decide) w_9 (fun _ h9 => h9) rfl dX6_edgeTop_73 ?_
        refine va_getN (pc := 76) (D := D) (ci := 2) (v := .ref a_g_bandRows) (C := RX2) (T := TX2) (N := 6) hx hb hts hinX2 hown hK hP 1 rfl rfl 2 (by decide) wn_57 (fun _ h9 => h9) rfl dX6_edgeTop_76 ?_
        refine lv_aload_n (pc := 79) hx hb dX6_edgeTop_79 rfl (lv_at hl 0 rfl) ?_
        refine va_get (pc := 80) (D := D) (ci := 6) (v := .int sp_level) (C := RX6) (T := TX6) (N := 11) hx hb hts hinX6 hown hK hP 0 rfl rfl 5 (by decide) w_10 (fun _ h9 => h9) rfl dX6_edgeTop_80 ?_
        refine q_iald (pc := 83) hx hb hK hP 2 0 hf rfl rfl dX6_edgeTop_83 (fun v1 hf => ?_)
        refine lv_i2l (pc := 84) hx hb dX6_edgeTop_84 rfl ?_
        refine lv_lmul (pc := 85) hx hb dX6_edgeTop_85 ?_
        refine lv_aload_n (pc := 86) hx hb dX6_edgeTop_86 rfl (lv_at hl 0 rfl) ?_
        refine va_get (pc := 87) (D := D) (ci := 6) (v := .int sp_row) (C := RX6) (T := TX6) (N := 11) hx hb hts hinX6 hown hK hP 0 rfl rfl 6 (by decide) w_4 (fun _ h9 => h9) rfl dX6_edgeTop_87 ?_
        refine lv_i2l (pc := 90) hx hb dX6_edgeTop_90 rfl ?_
        refine lv_lsub (pc := 91) hx hb dX6_edgeTop_91 ?_
        obtain ⟨v2, ev2, hf⟩ := q_nm_e hf
        refine q_topl ev2 ?_
        refine lv_lstore_n (pc := 92) (lv' := [(2, .long v2), (0, .ref a_sp), (1, .int p1)]) hx hb dX6_edgeTop_92 rfl hl (by decide) rfl (fun ls hl => ?_)
        refine lv_ldc2 (pc := 93) (v := 14400) hx hb hown w_11 dX6_edgeTop_93 ?_
        refine lv_iload_n (pc := 96) hx hb dX6_edgeTop_96 rfl (lv_at hl 2 rfl) ?_
        refine q_if_ne (pc := 97) (tgt := 104) hx hb dX6_edgeTop_97 (by decide) rfl hf (fun hf => ?_) (fun hf => ?_)
        · refine lv_lload_n (pc := 104) hx hb dX6_edgeTop_104 rfl (lv_at hl 0 rfl) ?_
          refine lv_lconst (pc := 105) (v := 1) hx hb dX6_edgeTop_105 (by decide) ?_
          refine lv_ladd (pc := 106) hx hb dX6_edgeTop_106 ?_
          refine lv_lmul (pc := 107) hx hb dX6_edgeTop_107 ?_
          obtain rfl := Option.some.inj hf
          rw [hQ]
          exact q_lretr (pc := 108) hx hb hr hlocks rfl hS dX6_edgeTop_108
        · refine lv_lload_n (pc := 100) hx hb dX6_edgeTop_100 rfl (lv_at hl 0 rfl) ?_
          refine lv_goto (pc := 101) (tgt := 107) hx hb dX6_edgeTop_101 (by decide) ?_
          refine lv_lmul (pc := 107) hx hb dX6_edgeTop_107 ?_
          obtain rfl := Option.some.inj hf
          rw [hQ]
          exact q_lretr (pc := 108) hx hb hr hlocks rfl hS dX6_edgeTop_108
      · refine lv_aload_n (pc := 36) hx hb dX6_edgeTop_36 rfl (lv_at hl 0 rfl) ?_
        refine va_get (pc := 37) (D := D) (ci := 6) (v := .int sp_row) (C := RX6) (T := TX6) (N := 11) hx hb hts hinX6 hown hK hP 0 rfl rfl 6 (by decide) w_4 (fun _ h9 => h9) rfl dX6_edgeTop_37 ?_
        obtain ⟨k50, ek50, hf⟩ := q_j1_e hf
        have J50 : ∀ (v3 : Int32) (H : Heap) (locs : List Loc) (ls : Array Slot), k50 v3 = some r → H = s.heap → va_S A s.heap H locs → lv_has ls 4 [(1, .int p1)] → W p l e ({ frames := 0, cells := 0, slots := 0, locals := 0 } : Room) s m ([.ref a_sp, .int p1] : List Value).toArray below meth c H locs 0 0 Q (F0 m 50 ls [.int v3]) := by
          intro v3 H locs ls hf hHs hS hl
          subst hHs
          have hf := (ek50 v3).symm.trans hf
          refine lv_istore_n (pc := 50) (lv' := [(2, .int v3), (1, .int p1)]) hx hb dX6_edgeTop_50 rfl hl (by decide) rfl (fun ls hl => ?_)
          refine lv_iload_n (pc := 51) hx hb dX6_edgeTop_51 rfl (lv_at hl 1 rfl) ?_
          refine q_if_ne (pc := 52) (tgt := 60) hx hb dX6_edgeTop_52 (by decide) rfl hf (fun hf => ?_) (fun hf => ?_)
          · refine lv_iload_n (pc := 60) hx hb dX6_edgeTop_60 rfl (lv_at hl 0 rfl) ?_
            refine lv_ldc (pc := 61) (v := 324000) hx hb hown w_7 dX6_edgeTop_61 ?_
            refine lv_iadd (pc := 63) hx hb dX6_edgeTop_63 ?_
            refine lv_ldc (pc := 64) (v := 316800) hx hb hown w_5 dX6_edgeTop_64 ?_
            refine lv_isub (pc := 66) hx hb dX6_edgeTop_66 ?_
            refine lv_i2l (pc := 67) hx hb dX6_edgeTop_67 rfl ?_
            obtain rfl := Option.some.inj hf
            rw [hQ]
            exact q_lretr (pc := 68) hx hb hr hlocks rfl hS dX6_edgeTop_68
          · refine lv_iload_n (pc := 55) hx hb dX6_edgeTop_55 rfl (lv_at hl 0 rfl) ?_
            refine lv_i2l (pc := 56) hx hb dX6_edgeTop_56 rfl ?_
            refine lv_goto (pc := 57) (tgt := 68) hx hb dX6_edgeTop_57 (by decide) ?_
            obtain rfl := Option.some.inj hf
            rw [hQ]
            exact q_lretr (pc := 68) hx hb hr hlocks rfl hS dX6_edgeTop_68
        refine q_if_ne (pc := 40) (tgt := 48) hx hb dX6_edgeTop_40 (by decide) rfl hf (fun hf => ?_) (fun hf => ?_)
        · refine lv_ldc (pc := 48) (v := (-324000)) hx hb hown w_6 dX6_edgeTop_48 ?_
          exact J50 (-324000) _ _ _ hf rfl hS (lv_sub hl [1] rfl)
        · refine lv_ldc (pc := 43) (v := 316800) hx hb hown w_5 dX6_edgeTop_43 ?_
          refine lv_goto (pc := 45) (tgt := 50) hx hb dX6_edgeTop_45 (by decide) ?_
          exact J50 316800 _ _ _ hf rfl hS (lv_sub hl [1] rfl)
    · refine lv_ldc2 (pc := 5) (v := 1296000) hx hb hown w_1 dX6_edgeTop_5 ?_
      refine lv_iload_n (pc := 8) hx hb dX6_edgeTop_8 rfl (lv_at hl 1 rfl) ?_
      refine lv_iconst (pc := 9) (v := 2) hx hb dX6_edgeTop_9 (by decide) ?_
      refine q_icmp_ne (pc := 10) (tgt := 20) hx hb dX6_edgeTop_10 (by decide) rfl hf (fun hf => ?_) (fun hf => ?_)
      · refine lv_aload_n (pc := 20) hx hb dX6_edgeTop_20 rfl (lv_at hl 0 rfl) ?_
        refine va_get (pc := 21) (D := D) (ci := 6) (v := .int sp_place) (C := RX6) (T := TX6) (N := 11) hx hb hts hinX6 hown hK hP 0 rfl rfl 8 (by decide) w_2 (fun _ h9 => h9) rfl dX6_edgeTop_21 ?_
        refine lv_iconst (pc := 24) (v := 1) hx hb dX6_edgeTop_24 (by decide) ?_
        refine lv_iadd (pc := 25) hx hb dX6_edgeTop_25 ?_
        refine lv_i2l (pc := 26) hx hb dX6_edgeTop_26 rfl ?_
        refine lv_lmul (pc := 27) hx hb dX6_edgeTop_27 ?_
        obtain rfl := Option.some.inj hf
        rw [hQ]
        exact q_lretr (pc := 28) hx hb hr hlocks rfl hS dX6_edgeTop_28
      · refine lv_aload_n (pc := 13) hx hb dX6_edgeTop_13 rfl (lv_at hl 0 rfl) ?_
        refine va_get (pc := 14) (D := D) (ci := 6) (v := .int sp_place) (C := RX6) (T := TX6) (N := 11) hx hb hts hinX6 hown hK hP 0 rfl rfl 8 (by decide) w_2 (fun _ h9 => h9) rfl dX6_edgeTop_14 ?_
        refine lv_goto (pc := 17) (tgt := 26) hx hb dX6_edgeTop_17 (by decide) ?_
        refine lv_i2l (pc := 26) hx hb dX6_edgeTop_26 rfl ?_
        refine lv_lmul (pc := 27) hx hb dX6_edgeTop_27 ?_
        obtain rfl := Option.some.inj hf
        rw [hQ]
        exact q_lretr (pc := 28) hx hb hr hlocks rfl hS dX6_edgeTop_28
  exact hgo _ _ rfl hP hS
/-! X6_lookAcross -/
set_option maxRecDepth 100000 in
set_option maxHeartbeats 4000000 in
theorem c_Spot_lookAcross (l : Launch) (D : va_G) (ci : Nat → ClassId) (A : Nat → Prop) (sa : Nat → Nat) (N : Nat) (Rw : va_W) (a_sp : Nat) (a_g : Nat) (a_sp_first : Nat) (a_sp_many : Nat) (a_sp_corner : Nat) (a_g_rowCuts : Nat) (a_g_columnCuts : Nat) (a_g_bandRows : Nat) (a_g_zoneColumns : Nat) (a_g_rows : Nat) (a_g_sheets : Nat) (sp_cornerCount : Int32) (sp_level : Int32) (sp_row : Int32) (sp_start : Int32) (sp_place : Int32) (sp_length : Int32) (sp_cap : Int32) (sp_first : Nat → Int32) (sp_many : Nat → Int32) (g_bandRows : Nat → Int32) (g_zoneColumns : Nat → Int32) (g_rows : Nat → Int32) (g_sheets : Nat → Int32) (p1 : Int32) (p2 : Int32) (o1 : Nat → Int32) (o2 : Nat → Int32) (hf : f_Spot_lookAcross sp_first sp_many sp_level sp_place sp_length g_bandRows g_zoneColumns g_rows g_sheets p1 p2 = some (o1, o2)) : Met l yX6_lookAcross wsX6_lookAcross ({ frames := 1, cells := 0, slots := 0, locals := 25 }) (va_Pc [.ref a_sp, .int p1, .int p2] (q_N D ci A sa ((a_sp, .inr (6, [.ref a_g, .ref a_sp_first, .ref a_sp_many, .ref a_sp_corner, .int sp_cornerCount, .int sp_level, .int sp_row, .int sp_start, .int sp_place, .int sp_length, .int sp_cap])) :: (a_sp_first, .inl (ci 0, 4, .inl sp_first)) :: (a_sp_many, .inl (ci 0, 4, .inl sp_many)) :: (a_g, .inr (2, [.ref a_g_rowCuts, .ref a_g_columnCuts, .ref a_g_bandRows, .ref a_g_zoneColumns, .ref a_g_rows, .ref a_g_sheets])) :: (a_g_bandRows, .inl (ci 0, 5, .inl g_bandRows)) :: (a_g_zoneColumns, .inl (ci 0, 5, .inl g_zoneColumns)) :: (a_g_rows, .inl (ci 0, 5, .inl g_rows)) :: (a_g_sheets, .inl (ci 0, 5, .inl g_sheets)) :: Rw))) (q_Q none (q_O D A ((a_sp, .inr (6, [.ref a_g, .ref a_sp_first, .ref a_sp_many, .ref a_sp_corner, .int sp_cornerCount, .int sp_level, .int sp_row, .int sp_start, .int sp_place, .int sp_length, .int sp_cap])) :: (a_sp_first, .inl (ci 0, 4, .inl o1)) :: (a_sp_many, .inl (ci 0, 4, .inl o2)) :: (a_g, .inr (2, [.ref a_g_rowCuts, .ref a_g_columnCuts, .ref a_g_bandRows, .ref a_g_zoneColumns, .ref a_g_rows, .ref a_g_sheets])) :: (a_g_bandRows, .inl (ci 0, 5, .inl g_bandRows)) :: (a_g_zoneColumns, .inl (ci 0, 5, .inl g_zoneColumns)) :: (a_g_rows, .inl (ci 0, 5, .inl g_rows)) :: (a_g_sheets, .inl (ci 0, 5, .inl g_sheets)) :: Rw)) A) 0 0 A := by
  refine q_ofW (cc := cX6_lookAcross) (maxL := 7) (ret := none) [.ref a_sp, .int p1, .int p2] (plainFor_of_name (by decide)) rfl (Nat.le_of_ble_eq_true rfl) ?_
  intro p e s m below meth c ls Q hQ hx hb hml hr hts hown hlocks hK hA hZ hP hD hS hl
  have hl : lv_has ls 7 [(0, .ref a_sp), (1, .int p1), (2, .int p2)] := hl
  have hown : s.vm.findClass RX6 = some m.cls := hown
  have hinX2 : ∀ w ∈ wsX20, w ∈ wsX6_lookAcross := fun _ h => List.mem_cons_of_mem _ (inWX20 _ h)
  have hinX6 : ∀ w ∈ wsX60, w ∈ wsX6_lookAcross := fun _ h => List.mem_cons_of_mem _ (inWX60 _ h)
  have w_1 := hts (Cond.fieldLink RX6 9 "SheetNames$Spot" "first" "[I") (List.mem_cons_of_mem _ t_w808)
  have w_2 := hts (Cond.fieldLink RX6 15 "SheetNames$Spot" "many" "[I") (List.mem_cons_of_mem _ t_w805)
  have w_3 := hts (Cond.fieldLink RX6 44 "SheetNames$Spot" "grid" "LSheetNames$Grid;") (List.mem_cons_of_mem _ t_w801)
  have w_4 := hts (Cond.fieldLink RX6 25 "SheetNames$Spot" "level" "I") (List.mem_cons_of_mem _ t_w802)
  have w_5 := hts (Cond.fieldLink RX6 34 "SheetNames$Spot" "place" "I") (List.mem_cons_of_mem _ t_w803)
  have w_6 := hts (Cond.fieldLink RX6 37 "SheetNames$Spot" "length" "I") (List.mem_cons_of_mem _ t_w804)
  have wn_56 : (Cond.fieldLinkNest "SheetNames$Spot" 120 "SheetNames$Grid" "rows" "[I" "SheetNames").before ([.ref a_sp, .int p1, .int p2] : List Value).toArray s = true := (hZ.2.2.2.2.2.2.2.2.2.1 _ (List.mem_of_getElem? (i := 56) rfl)).use rfl
  unfold f_Spot_lookAcross at hf
  have hgo : ∀ (H : Heap) (locs : List Loc), H = s.heap → va_P D vwCl ((a_sp, .inr (6, [.ref a_g, .ref a_sp_first, .ref a_sp_many, .ref a_sp_corner, .int sp_cornerCount, .int sp_level, .int sp_row, .int sp_start, .int sp_place, .int sp_length, .int sp_cap])) :: (a_sp_first, .inl (ci 0, 4, .inl sp_first)) :: (a_sp_many, .inl (ci 0, 4, .inl sp_many)) :: (a_g, .inr (2, [.ref a_g_rowCuts, .ref a_g_columnCuts, .ref a_g_bandRows, .ref a_g_zoneColumns, .ref a_g_rows, .ref a_g_sheets])) :: (a_g_bandRows, .inl (ci 0, 5, .inl g_bandRows)) :: (a_g_zoneColumns, .inl (ci 0, 5, .inl g_zoneColumns)) :: (a_g_rows, .inl (ci 0, 5, .inl g_rows)) :: (a_g_sheets, .inl (ci 0, 5, .inl g_sheets)) :: Rw) H → va_S A s.heap H locs → W p l e ({ frames := 1, cells := 0, slots := 0, locals := 25 } : Room) s m ([.ref a_sp, .int p1, .int p2] : List Value).toArray below meth c H locs 0 0 Q (F0 m 0 ls []) := by
    intro H locs hH hP hS
    refine lv_aload_n (pc := 0) hx hb dX6_lookAcross_0 rfl (lv_at hl 0 rfl) ?_
    refine va_get (pc := 1) (D := D) (ci := 6) (v := .ref a_sp_first) (C := RX6) (T := TX6) (N := 11) hx hb hts hinX6 hown hK hP 0 rfl rfl 1 (by decide) w_1 (fun _ h9 => h9) rfl dX6_lookAcross_1 ?_
    refine lv_iload_n (pc := 4) hx hb dX6_lookAcross_4 rfl (lv_at hl 1 rfl) ?_
    refine lv_iconst (pc := 5) (v := 0) hx hb dX6_lookAcross_5 (by decide) ?_
    refine q_iast (pc := 6) hx hb hK hP hD hS 1 0 hf rfl rfl dX6_lookAcross_6 (fun f1 H locs hf hP hD hS => ?_)
    obtain ⟨hP, hD⟩ : va_PD D A ((a_sp, .inr (6, [.ref a_g, .ref a_sp_first, .ref a_sp_many, .ref a_sp_corner, .int sp_cornerCount, .int sp_level, .int sp_row, .int sp_start, .int sp_place, .int sp_length, .int sp_cap])) :: (a_sp_first, .inl (ci 0, 4, .inl f1)) :: (a_sp_many, .inl (ci 0, 4, .inl sp_many)) :: (a_g, .inr (2, [.ref a_g_rowCuts, .ref a_g_columnCuts, .ref a_g_bandRows, .ref a_g_zoneColumns, .ref a_g_rows, .ref a_g_sheets])) :: (a_g_bandRows, .inl (ci 0, 5, .inl g_bandRows)) :: (a_g_zoneColumns, .inl (ci 0, 5, .inl g_zoneColumns)) :: (a_g_rows, .inl (ci 0, 5, .inl g_rows)) :: (a_g_sheets, .inl (ci 0, 5, .inl g_sheets)) :: Rw) H := ⟨hP, hD⟩
    refine lv_aload_n (pc := 7) hx hb dX6_lookAcross_7 rfl (lv_at hl 0 rfl) ?_
    refine va_get (pc := 8) (D := D) (ci := 6) (v := .ref a_sp_many) (C := RX6) (T := TX6) (N := 11) hx hb hts hinX6 hown hK hP 0 rfl rfl 2 (by decide) w_2 (fun _ h9 => h9) rfl dX6_lookAcross_8 ?_
    refine lv_iload_n (pc := 11) hx hb dX6_lookAcross_11 rfl (lv_at hl 1 rfl) ?_
    refine lv_iconst (pc := 12) (v := 0) hx hb dX6_lookAcross_12 (by decide) ?_
    refine q_iast (pc := 13) hx hb hK hP hD hS 2 0 hf rfl rfl dX6_lookAcross_13 (fun f2 H locs hf hP hD hS => ?_)
    obtain ⟨hP, hD⟩ : va_PD D A ((a_sp, .inr (6, [.ref a_g, .ref a_sp_first, .ref a_sp_many, .ref a_sp_corner, .int sp_cornerCount, .int sp_level, .int sp_row, .int sp_start, .int sp_place, .int sp_length, .int sp_cap])) :: (a_sp_first, .inl (ci 0, 4, .inl f1)) :: (a_sp_many, .inl (ci 0, 4, .inl f2)) :: (a_g, .inr (2, [.ref a_g_rowCuts, .ref a_g_columnCuts, .ref a_g_bandRows, .ref a_g_zoneColumns, .ref a_g_rows, .ref a_g_sheets])) :: (a_g_bandRows, .inl (ci 0, 5, .inl g_bandRows)) :: (a_g_zoneColumns, .inl (ci 0, 5, .inl g_zoneColumns)) :: (a_g_rows, .inl (ci 0, 5, .inl g_rows)) :: (a_g_sheets, .inl (ci 0, 5, .inl g_sheets)) :: Rw) H := ⟨hP, hD⟩
    refine lv_iload_n (pc := 14) hx hb dX6_lookAcross_14 rfl (lv_at hl 2 rfl) ?_
    refine q_if_lt (pc := 15) (tgt := 34) hx hb dX6_lookAcross_15 (by decide) rfl hf (fun hf => ?_) (fun hf => ?_)
    · obtain ⟨rfl, rfl⟩ := q_inj2 (Option.some.inj hf)
      rw [hQ]
      exact q_vret (pc := 34) hx hb hr hlocks hP hD hS dX6_lookAcross_34
    · refine lv_iload_n (pc := 18) hx hb dX6_lookAcross_18 rfl (lv_at hl 2 rfl) ?_
      refine lv_aload_n (pc := 19) hx hb dX6_lookAcross_19 rfl (lv_at hl 0 rfl) ?_
      refine va_get (pc := 20) (D := D) (ci := 6) (v := .ref a_g) (C := RX6) (T := TX6) (N := 11) hx hb hts hinX6 hown hK hP 0 rfl rfl 0 (by decide) w_3 (fun _ h9 => h9) rfl dX6_lookAcross_20 ?_
      refine va_getN (pc := 23) (D := D) (ci := 2) (v := .ref a_g_rows) (C := RX2) (T := TX2) (N := 6) hx hb hts hinX2 hown hK hP 3 rfl rfl 4 (by decide) wn_56 (fun _ h9 => h9) rfl dX6_lookAcross_23 ?_
      refine lv_aload_n (pc := 26) hx hb dX6_lookAcross_26 rfl (lv_at hl 0 rfl) ?_
      refine va_get (pc := 27) (D := D) (ci := 6) (v := .int sp_level) (C := RX6) (T := TX6) (N := 11) hx hb hts hinX6 hown hK hP 0 rfl rfl 5 (by decide) w_4 (fun _ h9 => h9) rfl dX6_lookAcross_27 ?_
      refine q_iald (pc := 30) hx hb hK hP 6 0 hf rfl rfl dX6_lookAcross_30 (fun v3 hf => ?_)
      refine q_icmp_lt (pc := 31) (tgt := 35) hx hb dX6_lookAcross_31 (by decide) rfl hf (fun hf => ?_) (fun hf => ?_)
      · refine lv_aload_n (pc := 35) hx hb dX6_lookAcross_35 rfl (lv_at hl 0 rfl) ?_
        refine va_get (pc := 36) (D := D) (ci := 6) (v := .ref a_g) (C := RX6) (T := TX6) (N := 11) hx hb hts hinX6 hown hK hP 0 rfl rfl 0 (by decide) w_3 (fun _ h9 => h9) rfl dX6_lookAcross_36 ?_
        refine lv_aload_n (pc := 39) hx hb dX6_lookAcross_39 rfl (lv_at hl 0 rfl) ?_
        refine va_get (pc := 40) (D := D) (ci := 6) (v := .int sp_level) (C := RX6) (T := TX6) (N := 11) hx hb hts hinX6 hown hK hP 0 rfl rfl 5 (by decide) w_4 (fun _ h9 => h9) rfl dX6_lookAcross_40 ?_
        refine lv_iload_n (pc := 43) hx hb dX6_lookAcross_43 rfl (lv_at hl 2 rfl) ?_
        obtain ⟨v4, hm44, hf⟩ := q_b1_e hf
        refine q_cVr (pc := 44) (As := [.int sp_level, .int p2]) (rest := []) (v0 := (some (.int v4))) ⟨hx, hb, hml, hown, hts⟩ hK hA hZ hP hD hS hl.1 [3, 4, 5, 6] 8 rfl ⟨rfl, rfl, rfl⟩ (c_Grid_rowLength l D ci A sa N (Rw) a_g a_g_rowCuts a_g_columnCuts a_g_bandRows a_g_zoneColumns a_g_rows a_g_sheets g_bandRows g_zoneColumns g_rows sp_level p2 v4 hm44) 3 rfl rfl (cwV 2 hts gX6_lookAcross_X2_rowLength rfl rfl rfl (by decide +kernel) ⟨Nat.le_of_ble_eq_true rfl, Nat.le_of_ble_eq_true rfl⟩) rfl rfl (Nat.le_of_ble_eq_true rfl) dX6_lookAcross_44 ⟨Nat.zero_le _, Nat.zero_le _⟩ (fun locs hS => ?_)
        refine lv_i2l (pc := 47) hx hb dX6_lookAcross_47 rfl ?_
        obtain ⟨v5, ev5, hf⟩ := q_nm_e hf
        refine q_topl ev5 ?_
        refine lv_lstore_n (pc := 48) (lv' := [(3, .long v5), (0, .ref a_sp), (1, .int p1), (2, .int p2)]) hx hb dX6_lookAcross_48 rfl hl (by decide) rfl (fun ls hl => ?_)
        refine lv_aload_n (pc := 49) hx hb dX6_lookAcross_49 rfl (lv_at hl 1 rfl) ?_
        refine va_get (pc := 50) (D := D) (ci := 6) (v := .int sp_place) (C := RX6) (T := TX6) (N := 11) hx hb hts hinX6 hown hK hP 0 rfl rfl 8 (by decide) w_5 (fun _ h9 => h9) rfl dX6_lookAcross_50 ?_
        refine lv_i2l (pc := 53) hx hb dX6_lookAcross_53 rfl ?_
        refine lv_lload_n (pc := 54) hx hb dX6_lookAcross_54 rfl (lv_at hl 0 rfl) ?_
        refine lv_lmul (pc := 55) hx hb dX6_lookAcross_55 ?_
        refine lv_aload_n (pc := 56) hx hb dX6_lookAcross_56 rfl (lv_at hl 1 rfl) ?_
        refine va_get (pc := 57) (D := D) (ci := 6) (v := .int sp_length) (C := RX6) (T := TX6) (N := 11) hx hb hts hinX6 hown hK hP 0 rfl rfl 9 (by decide) w_6 (fun _ h9 => h9) rfl dX6_lookAcross_57 ?_
        refine lv_i2l (pc := 60) hx hb dX6_lookAcross_60 rfl ?_
        refine q_ldiv (pc := 61) hx hb dX6_lookAcross_61 hf (fun v6 hf => ?_)
        refine lv_l2i (pc := 62) hx hb dX6_lookAcross_62 rfl ?_
        obtain ⟨v7, ev7, hf⟩ := q_nm_e hf
        refine q_topi ev7 ?_
        refine lv_istore (pc := 63) (lv' := [(5, .int v7), (3, .long v5), (0, .ref a_sp), (1, .int p1), (2, .int p2)]) hx hb dX6_lookAcross_63 hl (by decide) rfl (fun ls hl => ?_)
        refine lv_aload_n (pc := 65) hx hb dX6_lookAcross_65 rfl (lv_at hl 2 rfl) ?_
        refine va_get (pc := 66) (D := D) (ci := 6) (v := .int sp_place) (C := RX6) (T := TX6) (N := 11) hx hb hts hinX6 hown hK hP 0 rfl rfl 8 (by decide) w_5 (fun _ h9 => h9) rfl dX6_lookAcross_66 ?_
        refine lv_iconst (pc := 69) (v := 1) hx hb dX6_lookAcross_69 (by decide) ?_
        refine lv_iadd (pc := 70) hx hb dX6_lookAcross_70 ?_
        refine lv_i2l (pc := 71) hx hb dX6_lookAcross_71 rfl ?_
        refine lv_lload_n (pc := 72) hx hb dX6_lookAcross_72 rfl (lv_at hl 1 rfl) ?_
        refine lv_lmul (pc := 73) hx hb dX6_lookAcross_73 ?_
        refine lv_lconst (pc := 74) (v := 1) hx hb dX6_lookAcross_74 (by decide) ?_
        refine lv_lsub (pc := 75) hx hb dX6_lookAcross_75 ?_
        refine lv_aload_n (pc := 76) hx hb dX6_lookAcross_76 rfl (lv_at hl 2 rfl) ?_
        refine va_get (pc := 77) (D := D) (ci := 6) (v := .int sp_length) (C := RX6) (T := TX6) (N := 11) hx hb hts hinX6 hown hK hP 0 rfl rfl 9 (by decide) w_6 (fun _ h9 => h9) rfl dX6_lookAcross_77 ?_
        refine lv_i2l (pc := 80) hx hb dX6_lookAcross_80 rfl ?_
        refine q_ldiv (pc := 81) hx hb dX6_lookAcross_81 hf (fun v8 hf => ?_)
        refine lv_l2i (pc := 82) hx hb dX6_lookAcross_82 rfl ?_
        obtain ⟨v9, ev9, hf⟩ := q_nm_e hf
        refine q_topi ev9 ?_
        refine lv_istore (pc := 83) (lv' := [(6, .int v9), (5, .int v7), (3, .long v5), (0, .ref a_sp), (1, .int p1), (2, .int p2)]) hx hb dX6_lookAcross_83 hl (by decide) rfl (fun ls hl => ?_)
        refine lv_aload_n (pc := 85) hx hb dX6_lookAcross_85 rfl (lv_at hl 3 rfl) ?_
        refine va_get (pc := 86) (D := D) (ci := 6) (v := .ref a_sp_first) (C := RX6) (T := TX6) (N := 11) hx hb hts hinX6 hown hK hP 0 rfl rfl 1 (by decide) w_1 (fun _ h9 => h9) rfl dX6_lookAcross_86 ?_
        refine lv_iload_n (pc := 89) hx hb dX6_lookAcross_89 rfl (lv_at hl 4 rfl) ?_
        refine lv_aload_n (pc := 90) hx hb dX6_lookAcross_90 rfl (lv_at hl 3 rfl) ?_
        refine va_get (pc := 91) (D := D) (ci := 6) (v := .ref a_g) (C := RX6) (T := TX6) (N := 11) hx hb hts hinX6 hown hK hP 0 rfl rfl 0 (by decide) w_3 (fun _ h9 => h9) rfl dX6_lookAcross_91 ?_
        refine lv_aload_n (pc := 94) hx hb dX6_lookAcross_94 rfl (lv_at hl 3 rfl) ?_
        refine va_get (pc := 95) (D := D) (ci := 6) (v := .int sp_level) (C := RX6) (T := TX6) (N := 11) hx hb hts hinX6 hown hK hP 0 rfl rfl 5 (by decide) w_4 (fun _ h9 => h9) rfl dX6_lookAcross_95 ?_
        refine lv_iload_n (pc := 98) hx hb dX6_lookAcross_98 rfl (lv_at hl 5 rfl) ?_
        obtain ⟨v10, hm99, hf⟩ := q_b1_e hf
        refine q_cVr (pc := 99) (As := [.int sp_level, .int p2]) (rest := [.int p1, .ref a_sp_first]) (v0 := (some (.int v10))) ⟨hx, hb, hml, hown, hts⟩ hK hA hZ hP hD hS hl.1 [3, 4, 5, 6, 7] 8 rfl ⟨rfl, rfl, rfl⟩ (c_Grid_rowStart l D ci A sa N (Rw) a_g a_g_rowCuts a_g_columnCuts a_g_bandRows a_g_zoneColumns a_g_rows a_g_sheets g_bandRows g_zoneColumns g_rows g_sheets sp_level p2 v10 hm99) 3 rfl rfl (cwV 2 hts gX6_lookAcross_X2_rowStart rfl rfl rfl (by decide +kernel) ⟨Nat.le_of_ble_eq_true rfl, Nat.le_of_ble_eq_true rfl⟩) rfl rfl (Nat.le_of_ble_eq_true rfl) dX6_lookAcross_99 ⟨Nat.zero_le _, Nat.zero_le _⟩ (fun locs hS => ?_)
        refine lv_iload (pc := 102) hx hb dX6_lookAcross_102 (lv_at hl 1 rfl) ?_
        refine lv_iadd (pc := 104) hx hb dX6_lookAcross_104 ?_
        refine q_iast (pc := 105) hx hb hK hP hD hS 1 0 hf rfl rfl dX6_lookAcross_105 (fun f11 H locs hf hP hD hS => ?_)
        obtain ⟨hP, hD⟩ : va_PD D A ((a_sp, .inr (6, [.ref a_g, .ref a_sp_first, .ref a_sp_many, .ref a_sp_corner, .int sp_cornerCount, .int sp_level, .int sp_row, .int sp_start, .int sp_place, .int sp_length, .int sp_cap])) :: (a_sp_first, .inl (ci 0, 4, .inl f11)) :: (a_sp_many, .inl (ci 0, 4, .inl f2)) :: (a_g, .inr (2, [.ref a_g_rowCuts, .ref a_g_columnCuts, .ref a_g_bandRows, .ref a_g_zoneColumns, .ref a_g_rows, .ref a_g_sheets])) :: (a_g_bandRows, .inl (ci 0, 5, .inl g_bandRows)) :: (a_g_zoneColumns, .inl (ci 0, 5, .inl g_zoneColumns)) :: (a_g_rows, .inl (ci 0, 5, .inl g_rows)) :: (a_g_sheets, .inl (ci 0, 5, .inl g_sheets)) :: Rw) H := ⟨hP, hD⟩
        refine lv_aload_n (pc := 106) hx hb dX6_lookAcross_106 rfl (lv_at hl 3 rfl) ?_
        refine va_get (pc := 107) (D := D) (ci := 6) (v := .ref a_sp_many) (C := RX6) (T := TX6) (N := 11) hx hb hts hinX6 hown hK hP 0 rfl rfl 2 (by decide) w_2 (fun _ h9 => h9) rfl dX6_lookAcross_107 ?_
        refine lv_iload_n (pc := 110) hx hb dX6_lookAcross_110 rfl (lv_at hl 4 rfl) ?_
        refine lv_iload (pc := 111) hx hb dX6_lookAcross_111 (lv_at hl 0 rfl) ?_
        refine lv_iload (pc := 113) hx hb dX6_lookAcross_113 (lv_at hl 1 rfl) ?_
        refine lv_isub (pc := 115) hx hb dX6_lookAcross_115 ?_
        refine lv_iconst (pc := 116) (v := 1) hx hb dX6_lookAcross_116 (by decide) ?_
        refine lv_iadd (pc := 117) hx hb dX6_lookAcross_117 ?_
        refine q_iast (pc := 118) hx hb hK hP hD hS 2 0 hf rfl rfl dX6_lookAcross_118 (fun f12 H locs hf hP hD hS => ?_)
        obtain ⟨hP, hD⟩ : va_PD D A ((a_sp, .inr (6, [.ref a_g, .ref a_sp_first, .ref a_sp_many, .ref a_sp_corner, .int sp_cornerCount, .int sp_level, .int sp_row, .int sp_start, .int sp_place, .int sp_length, .int sp_cap])) :: (a_sp_first, .inl (ci 0, 4, .inl f11)) :: (a_sp_many, .inl (ci 0, 4, .inl f12)) :: (a_g, .inr (2, [.ref a_g_rowCuts, .ref a_g_columnCuts, .ref a_g_bandRows, .ref a_g_zoneColumns, .ref a_g_rows, .ref a_g_sheets])) :: (a_g_bandRows, .inl (ci 0, 5, .inl g_bandRows)) :: (a_g_zoneColumns, .inl (ci 0, 5, .inl g_zoneColumns)) :: (a_g_rows, .inl (ci 0, 5, .inl g_rows)) :: (a_g_sheets, .inl (ci 0, 5, .inl g_sheets)) :: Rw) H := ⟨hP, hD⟩
        obtain ⟨rfl, rfl⟩ := q_inj2 (Option.some.inj hf)
        rw [hQ]
        exact q_vret (pc := 119) hx hb hr hlocks hP hD hS dX6_lookAcross_119
      · obtain ⟨rfl, rfl⟩ := q_inj2 (Option.some.inj hf)
        rw [hQ]
        exact q_vret (pc := 34) hx hb hr hlocks hP hD hS dX6_lookAcross_34
  exact hgo _ _ rfl hP hS
/-! X6_lookAlong -/
set_option maxRecDepth 100000 in
set_option maxHeartbeats 4000000 in
theorem c_Spot_lookAlong (l : Launch) (D : va_G) (ci : Nat → ClassId) (A : Nat → Prop) (sa : Nat → Nat) (N : Nat) (Rw : va_W) (a_sp : Nat) (a_g : Nat) (a_sp_first : Nat) (a_sp_many : Nat) (a_sp_corner : Nat) (sp_cornerCount : Int32) (sp_level : Int32) (sp_row : Int32) (sp_start : Int32) (sp_place : Int32) (sp_length : Int32) (sp_cap : Int32) (sp_first : Nat → Int32) (sp_many : Nat → Int32) (p1 : Int32) (p2 : Int32) (o1 : Nat → Int32) (o2 : Nat → Int32) (hf : f_Spot_lookAlong sp_first sp_many sp_start sp_place sp_length sp_cap p1 p2 = some (o1, o2)) : Met l yX6_lookAlong wsX6_lookAlong ({ frames := 0, cells := 0, slots := 0, locals := 0 }) (va_Pc [.ref a_sp, .int p1, .int p2] (q_N D ci A sa ((a_sp, .inr (6, [.ref a_g, .ref a_sp_first, .ref a_sp_many, .ref a_sp_corner, .int sp_cornerCount, .int sp_level, .int sp_row, .int sp_start, .int sp_place, .int sp_length, .int sp_cap])) :: (a_sp_first, .inl (ci 0, 4, .inl sp_first)) :: (a_sp_many, .inl (ci 0, 4, .inl sp_many)) :: Rw))) (q_Q none (q_O D A ((a_sp, .inr (6, [.ref a_g, .ref a_sp_first, .ref a_sp_many, .ref a_sp_corner, .int sp_cornerCount, .int sp_level, .int sp_row, .int sp_start, .int sp_place, .int sp_length, .int sp_cap])) :: (a_sp_first, .inl (ci 0, 4, .inl o1)) :: (a_sp_many, .inl (ci 0, 4, .inl o2)) :: Rw)) A) 0 0 A := by
  refine q_ofW (cc := cX6_lookAlong) (maxL := 3) (ret := none) [.ref a_sp, .int p1, .int p2] (plainFor_of_name (by decide)) rfl (Nat.le_of_ble_eq_true rfl) ?_
  intro p e s m below meth c ls Q hQ hx hb hml hr hts hown hlocks hK hA hZ hP hD hS hl
  have hl : lv_has ls 3 [(0, .ref a_sp), (1, .int p1), (2, .int p2)] := hl
  have hown : s.vm.findClass RX6 = some m.cls := hown
  have hinX6 : ∀ w ∈ wsX60, w ∈ wsX6_lookAlong := fun _ h => List.mem_cons_of_mem _ (inWX60 _ h)
  have w_1 := hts (Cond.fieldLink RX6 9 "SheetNames$Spot" "first" "[I") (List.mem_cons_of_mem _ t_w808)
  have w_2 := hts (Cond.fieldLink RX6 31 "SheetNames$Spot" "start" "I") (List.mem_cons_of_mem _ t_w821)
  have w_3 := hts (Cond.fieldLink RX6 34 "SheetNames$Spot" "place" "I") (List.mem_cons_of_mem _ t_w803)
  have w_4 := hts (Cond.fieldLink RX6 37 "SheetNames$Spot" "length" "I") (List.mem_cons_of_mem _ t_w804)
  have w_5 := hts (Cond.fieldLink RX6 15 "SheetNames$Spot" "many" "[I") (List.mem_cons_of_mem _ t_w805)
  have w_6 := hts (Cond.fieldLink RX6 40 "SheetNames$Spot" "cap" "Z") (List.mem_cons_of_mem _ t_w806)
  unfold f_Spot_lookAlong at hf
  have hgo : ∀ (H : Heap) (locs : List Loc), H = s.heap → va_P D vwCl ((a_sp, .inr (6, [.ref a_g, .ref a_sp_first, .ref a_sp_many, .ref a_sp_corner, .int sp_cornerCount, .int sp_level, .int sp_row, .int sp_start, .int sp_place, .int sp_length, .int sp_cap])) :: (a_sp_first, .inl (ci 0, 4, .inl sp_first)) :: (a_sp_many, .inl (ci 0, 4, .inl sp_many)) :: Rw) H → va_S A s.heap H locs → W p l e ({ frames := 0, cells := 0, slots := 0, locals := 0 } : Room) s m ([.ref a_sp, .int p1, .int p2] : List Value).toArray below meth c H locs 0 0 Q (F0 m 0 ls []) := by
    intro H locs hH hP hS
    refine lv_aload_n (pc := 0) hx hb dX6_lookAlong_0 rfl (lv_at hl 0 rfl) ?_
    refine va_get (pc := 1) (D := D) (ci := 6) (v := .ref a_sp_first) (C := RX6) (T := TX6) (N := 11) hx hb hts hinX6 hown hK hP 0 rfl rfl 1 (by decide) w_1 (fun _ h9 => h9) rfl dX6_lookAlong_1 ?_
    refine lv_iload_n (pc := 4) hx hb dX6_lookAlong_4 rfl (lv_at hl 1 rfl) ?_
    refine lv_aload_n (pc := 5) hx hb dX6_lookAlong_5 rfl (lv_at hl 0 rfl) ?_
    refine va_get (pc := 6) (D := D) (ci := 6) (v := .int sp_start) (C := RX6) (T := TX6) (N := 11) hx hb hts hinX6 hown hK hP 0 rfl rfl 7 (by decide) w_2 (fun _ h9 => h9) rfl dX6_lookAlong_6 ?_
    refine lv_aload_n (pc := 9) hx hb dX6_lookAlong_9 rfl (lv_at hl 0 rfl) ?_
    refine va_get (pc := 10) (D := D) (ci := 6) (v := .int sp_place) (C := RX6) (T := TX6) (N := 11) hx hb hts hinX6 hown hK hP 0 rfl rfl 8 (by decide) w_3 (fun _ h9 => h9) rfl dX6_lookAlong_10 ?_
    refine lv_iload_n (pc := 13) hx hb dX6_lookAlong_13 rfl (lv_at hl 2 rfl) ?_
    refine lv_iadd (pc := 14) hx hb dX6_lookAlong_14 ?_
    refine lv_aload_n (pc := 15) hx hb dX6_lookAlong_15 rfl (lv_at hl 0 rfl) ?_
    refine va_get (pc := 16) (D := D) (ci := 6) (v := .int sp_length) (C := RX6) (T := TX6) (N := 11) hx hb hts hinX6 hown hK hP 0 rfl rfl 9 (by decide) w_4 (fun _ h9 => h9) rfl dX6_lookAlong_16 ?_
    refine q_irem (pc := 19) hx hb dX6_lookAlong_19 hf (fun v1 hf => ?_)
    refine lv_iadd (pc := 20) hx hb dX6_lookAlong_20 ?_
    refine q_iast (pc := 21) hx hb hK hP hD hS 1 0 hf rfl rfl dX6_lookAlong_21 (fun f2 H locs hf hP hD hS => ?_)
    obtain ⟨hP, hD⟩ : va_PD D A ((a_sp, .inr (6, [.ref a_g, .ref a_sp_first, .ref a_sp_many, .ref a_sp_corner, .int sp_cornerCount, .int sp_level, .int sp_row, .int sp_start, .int sp_place, .int sp_length, .int sp_cap])) :: (a_sp_first, .inl (ci 0, 4, .inl f2)) :: (a_sp_many, .inl (ci 0, 4, .inl sp_many)) :: Rw) H := ⟨hP, hD⟩
    refine lv_aload_n (pc := 22) hx hb dX6_lookAlong_22 rfl (lv_at hl 0 rfl) ?_
    refine va_get (pc := 23) (D := D) (ci := 6) (v := .ref a_sp_many) (C := RX6) (T := TX6) (N := 11) hx hb hts hinX6 hown hK hP 0 rfl rfl 2 (by decide) w_5 (fun _ h9 => h9) rfl dX6_lookAlong_23 ?_
    refine lv_iload_n (pc := 26) hx hb dX6_lookAlong_26 rfl (lv_at hl 1 rfl) ?_
    refine lv_aload_n (pc := 27) hx hb dX6_lookAlong_27 rfl (lv_at hl 0 rfl) ?_
    refine va_get (pc := 28) (D := D) (ci := 6) (v := .int sp_cap) (C := RX6) (T := TX6) (N := 11) hx hb hts hinX6 hown hK hP 0 rfl rfl 10 (by decide) w_6 (fun _ h9 => h9) rfl dX6_lookAlong_28 ?_
    obtain ⟨k39, ek39, hf⟩ := q_j1_e hf
    have J39 : ∀ (v3 : Int32) (H : Heap) (locs : List Loc) (ls : Array Slot), k39 v3 = some (o1, o2) → va_P D vwCl ((a_sp, .inr (6, [.ref a_g, .ref a_sp_first, .ref a_sp_many, .ref a_sp_corner, .int sp_cornerCount, .int sp_level, .int sp_row, .int sp_start, .int sp_place, .int sp_length, .int sp_cap])) :: (a_sp_first, .inl (ci 0, 4, .inl f2)) :: (a_sp_many, .inl (ci 0, 4, .inl sp_many)) :: Rw) H → va_D A ((a_sp, .inr (6, [.ref a_g, .ref a_sp_first, .ref a_sp_many, .ref a_sp_corner, .int sp_cornerCount, .int sp_level, .int sp_row, .int sp_start, .int sp_place, .int sp_length, .int sp_cap])) :: (a_sp_first, .inl (ci 0, 4, .inl f2)) :: (a_sp_many, .inl (ci 0, 4, .inl sp_many)) :: Rw) → va_S A s.heap H locs → lv_has ls 3 [] → W p l e ({ frames := 0, cells := 0, slots := 0, locals := 0 } : Room) s m ([.ref a_sp, .int p1, .int p2] : List Value).toArray below meth c H locs 0 0 Q (F0 m 39 ls [.int v3, .int p1, .ref a_sp_many]) := by
      intro v3 H locs ls hf hP hD hS hl
      have hf := (ek39 v3).symm.trans hf
      refine q_iast (pc := 39) hx hb hK hP hD hS 2 0 hf rfl rfl dX6_lookAlong_39 (fun f4 H locs hf hP hD hS => ?_)
      obtain ⟨hP, hD⟩ : va_PD D A ((a_sp, .inr (6, [.ref a_g, .ref a_sp_first, .ref a_sp_many, .ref a_sp_corner, .int sp_cornerCount, .int sp_level, .int sp_row, .int sp_start, .int sp_place, .int sp_length, .int sp_cap])) :: (a_sp_first, .inl (ci 0, 4, .inl f2)) :: (a_sp_many, .inl (ci 0, 4, .inl f4)) :: Rw) H := ⟨hP, hD⟩
      obtain ⟨rfl, rfl⟩ := q_inj2 (Option.some.inj hf)
      rw [hQ]
      exact q_vret (pc := 40) hx hb hr hlocks hP hD hS dX6_lookAlong_40
    refine q_if_eq (pc := 31) (tgt := 38) hx hb dX6_lookAlong_31 (by decide) rfl hf (fun hf => ?_) (fun hf => ?_)
    · refine lv_iconst (pc := 38) (v := 1) hx hb dX6_lookAlong_38 (by decide) ?_
      exact J39 1 _ _ _ hf hP hD hS (lv_sub hl [] rfl)
    · refine lv_iconst (pc := 34) (v := 0) hx hb dX6_lookAlong_34 (by decide) ?_
      refine lv_goto (pc := 35) (tgt := 39) hx hb dX6_lookAlong_35 (by decide) ?_
      exact J39 0 _ _ _ hf hP hD hS (lv_sub hl [] rfl)
  exact hgo _ _ rfl hP hS
/-! X6_lookAround -/
set_option maxRecDepth 100000 in
set_option maxHeartbeats 4000000 in
theorem c_Spot_lookAround (l : Launch) (D : va_G) (ci : Nat → ClassId) (A : Nat → Prop) (sa : Nat → Nat) (N : Nat) (Rw : va_W) (a_sp : Nat) (a_g : Nat) (a_sp_first : Nat) (a_sp_many : Nat) (a_sp_corner : Nat) (a_g_rowCuts : Nat) (a_g_columnCuts : Nat) (a_g_bandRows : Nat) (a_g_zoneColumns : Nat) (a_g_rows : Nat) (a_g_sheets : Nat) (sp_cornerCount : Int32) (sp_level : Int32) (sp_row : Int32) (sp_start : Int32) (sp_place : Int32) (sp_length : Int32) (sp_cap : Int32) (sp_first : Nat → Int32) (sp_many : Nat → Int32) (g_bandRows : Nat → Int32) (g_zoneColumns : Nat → Int32) (g_rows : Nat → Int32) (g_sheets : Nat → Int32) (o1 : Nat → Int32) (o2 : Nat → Int32) (hf : f_Spot_lookAround sp_first sp_many sp_level sp_row sp_start sp_place sp_length sp_cap g_bandRows g_zoneColumns g_rows g_sheets = some (o1, o2)) : Met l yX6_lookAround wsX6_lookAround ({ frames := 2, cells := 0, slots := 0, locals := 51 }) (va_Pc [.ref a_sp] (q_N D ci A sa ((a_sp, .inr (6, [.ref a_g, .ref a_sp_first, .ref a_sp_many, .ref a_sp_corner, .int sp_cornerCount, .int sp_level, .int sp_row, .int sp_start, .int sp_place, .int sp_length, .int sp_cap])) :: (a_sp_first, .inl (ci 0, 4, .inl sp_first)) :: (a_sp_many, .inl (ci 0, 4, .inl sp_many)) :: (a_g, .inr (2, [.ref a_g_rowCuts, .ref a_g_columnCuts, .ref a_g_bandRows, .ref a_g_zoneColumns, .ref a_g_rows, .ref a_g_sheets])) :: (a_g_bandRows, .inl (ci 0, 5, .inl g_bandRows)) :: (a_g_zoneColumns, .inl (ci 0, 5, .inl g_zoneColumns)) :: (a_g_rows, .inl (ci 0, 5, .inl g_rows)) :: (a_g_sheets, .inl (ci 0, 5, .inl g_sheets)) :: Rw))) (q_Q none (q_O D A ((a_sp, .inr (6, [.ref a_g, .ref a_sp_first, .ref a_sp_many, .ref a_sp_corner, .int sp_cornerCount, .int sp_level, .int sp_row, .int sp_start, .int sp_place, .int sp_length, .int sp_cap])) :: (a_sp_first, .inl (ci 0, 4, .inl o1)) :: (a_sp_many, .inl (ci 0, 4, .inl o2)) :: (a_g, .inr (2, [.ref a_g_rowCuts, .ref a_g_columnCuts, .ref a_g_bandRows, .ref a_g_zoneColumns, .ref a_g_rows, .ref a_g_sheets])) :: (a_g_bandRows, .inl (ci 0, 5, .inl g_bandRows)) :: (a_g_zoneColumns, .inl (ci 0, 5, .inl g_zoneColumns)) :: (a_g_rows, .inl (ci 0, 5, .inl g_rows)) :: (a_g_sheets, .inl (ci 0, 5, .inl g_sheets)) :: Rw)) A) 0 0 A := by
  refine q_ofW (cc := cX6_lookAround) (maxL := 1) (ret := none) [.ref a_sp] (plainFor_of_name (by decide)) rfl (Nat.le_of_ble_eq_true rfl) ?_
  intro p e s m below meth c ls Q hQ hx hb hml hr hts hown hlocks hK hA hZ hP hD hS hl
  have hl : lv_has ls 1 [(0, .ref a_sp)] := hl
  have hown : s.vm.findClass RX6 = some m.cls := hown
  have hinX6 : ∀ w ∈ wsX60, w ∈ wsX6_lookAround := fun _ h => List.mem_cons_of_mem _ (inWX60 _ h)
  have w_1 := hts (Cond.fieldLink RX6 28 "SheetNames$Spot" "row" "I") (List.mem_cons_of_mem _ t_w807)
  have w_2 := hts (Cond.fieldLink RX6 37 "SheetNames$Spot" "length" "I") (List.mem_cons_of_mem _ t_w804)
  unfold f_Spot_lookAround at hf
  have hgo : ∀ (H : Heap) (locs : List Loc), H = s.heap → va_P D vwCl ((a_sp, .inr (6, [.ref a_g, .ref a_sp_first, .ref a_sp_many, .ref a_sp_corner, .int sp_cornerCount, .int sp_level, .int sp_row, .int sp_start, .int sp_place, .int sp_length, .int sp_cap])) :: (a_sp_first, .inl (ci 0, 4, .inl sp_first)) :: (a_sp_many, .inl (ci 0, 4, .inl sp_many)) :: (a_g, .inr (2, [.ref a_g_rowCuts, .ref a_g_columnCuts, .ref a_g_bandRows, .ref a_g_zoneColumns, .ref a_g_rows, .ref a_g_sheets])) :: (a_g_bandRows, .inl (ci 0, 5, .inl g_bandRows)) :: (a_g_zoneColumns, .inl (ci 0, 5, .inl g_zoneColumns)) :: (a_g_rows, .inl (ci 0, 5, .inl g_rows)) :: (a_g_sheets, .inl (ci 0, 5, .inl g_sheets)) :: Rw) H → va_S A s.heap H locs → W p l e ({ frames := 2, cells := 0, slots := 0, locals := 51 } : Room) s m ([.ref a_sp] : List Value).toArray below meth c H locs 0 0 Q (F0 m 0 ls []) := by
    intro H locs hH hP hS
    refine lv_aload_n (pc := 0) hx hb dX6_lookAround_0 rfl (lv_at hl 0 rfl) ?_
    refine lv_iconst (pc := 1) (v := 0) hx hb dX6_lookAround_1 (by decide) ?_
    refine lv_aload_n (pc := 2) hx hb dX6_lookAround_2 rfl (lv_at hl 0 rfl) ?_
    refine va_get (pc := 3) (D := D) (ci := 6) (v := .int sp_row) (C := RX6) (T := TX6) (N := 11) hx hb hts hinX6 hown hK hP 0 rfl rfl 6 (by decide) w_1 (fun _ h9 => h9) rfl dX6_lookAround_3 ?_
    refine lv_iconst (pc := 6) (v := 1) hx hb dX6_lookAround_6 (by decide) ?_
    refine lv_isub (pc := 7) hx hb dX6_lookAround_7 ?_
    obtain ⟨f1, f2, hm8, hf⟩ := q_b2_e hf
    refine q_cV (pc := 8) (As := [.int 0, .int (sp_row - 1)]) (rest := []) (v0 := none) ⟨hx, hb, hml, hown, hts⟩ hK hA hZ hP hD hS hl.1 [0, 1, 2, 3, 4, 5, 6, 7] 8 rfl ⟨rfl, rfl, rfl⟩ (c_Spot_lookAcross l D ci A sa N (Rw) a_sp a_g a_sp_first a_sp_many a_sp_corner a_g_rowCuts a_g_columnCuts a_g_bandRows a_g_zoneColumns a_g_rows a_g_sheets sp_cornerCount sp_level sp_row sp_start sp_place sp_length sp_cap sp_first sp_many g_bandRows g_zoneColumns g_rows g_sheets 0 (sp_row - 1) f1 f2 hm8) 0 rfl rfl (cwV 2 hts gX6_lookAround_X6_lookAcross rfl rfl rfl (by decide +kernel) ⟨Nat.le_of_ble_eq_true rfl, Nat.le_of_ble_eq_true rfl⟩) rfl rfl (Nat.le_of_ble_eq_true rfl) dX6_lookAround_8 ⟨Nat.zero_le _, Nat.zero_le _⟩ [0, 1, 2, 3, 4, 5, 6, 7] 8 rfl ⟨rfl, rfl, rfl⟩ (fun H locs hP hD hS => ?_)
    obtain ⟨hP, hD⟩ : va_PD D A ((a_sp, .inr (6, [.ref a_g, .ref a_sp_first, .ref a_sp_many, .ref a_sp_corner, .int sp_cornerCount, .int sp_level, .int sp_row, .int sp_start, .int sp_place, .int sp_length, .int sp_cap])) :: (a_sp_first, .inl (ci 0, 4, .inl f1)) :: (a_sp_many, .inl (ci 0, 4, .inl f2)) :: (a_g, .inr (2, [.ref a_g_rowCuts, .ref a_g_columnCuts, .ref a_g_bandRows, .ref a_g_zoneColumns, .ref a_g_rows, .ref a_g_sheets])) :: (a_g_bandRows, .inl (ci 0, 5, .inl g_bandRows)) :: (a_g_zoneColumns, .inl (ci 0, 5, .inl g_zoneColumns)) :: (a_g_rows, .inl (ci 0, 5, .inl g_rows)) :: (a_g_sheets, .inl (ci 0, 5, .inl g_sheets)) :: Rw) H := ⟨hP, hD⟩
    refine lv_aload_n (pc := 11) hx hb dX6_lookAround_11 rfl (lv_at hl 0 rfl) ?_
    refine lv_iconst (pc := 12) (v := 1) hx hb dX6_lookAround_12 (by decide) ?_
    refine lv_iconst (pc := 13) (v := 1) hx hb dX6_lookAround_13 (by decide) ?_
    obtain ⟨f3, f4, hm14, hf⟩ := q_b2_e hf
    refine q_cV (pc := 14) (As := [.int 1, .int 1]) (rest := []) (v0 := none) ⟨hx, hb, hml, hown, hts⟩ hK hA hZ hP hD hS hl.1 [0, 1, 2, 3, 4, 5, 6, 7] 8 rfl ⟨rfl, rfl, rfl⟩ (c_Spot_lookAlong l D ci A sa N ((a_g, .inr (2, [.ref a_g_rowCuts, .ref a_g_columnCuts, .ref a_g_bandRows, .ref a_g_zoneColumns, .ref a_g_rows, .ref a_g_sheets])) :: (a_g_bandRows, .inl (ci 0, 5, .inl g_bandRows)) :: (a_g_zoneColumns, .inl (ci 0, 5, .inl g_zoneColumns)) :: (a_g_rows, .inl (ci 0, 5, .inl g_rows)) :: (a_g_sheets, .inl (ci 0, 5, .inl g_sheets)) :: Rw) a_sp a_g a_sp_first a_sp_many a_sp_corner sp_cornerCount sp_level sp_row sp_start sp_place sp_length sp_cap f1 f2 1 1 f3 f4 hm14) 0 rfl rfl (cwV 2 hts gX6_lookAround_X6_lookAlong rfl rfl rfl (by decide +kernel) ⟨Nat.le_of_ble_eq_true rfl, Nat.le_of_ble_eq_true rfl⟩) rfl rfl (Nat.le_of_ble_eq_true rfl) dX6_lookAround_14 ⟨Nat.zero_le _, Nat.zero_le _⟩ [0, 1, 2, 3, 4, 5, 6, 7] 8 rfl ⟨rfl, rfl, rfl⟩ (fun H locs hP hD hS => ?_)
    obtain ⟨hP, hD⟩ : va_PD D A ((a_sp, .inr (6, [.ref a_g, .ref a_sp_first, .ref a_sp_many, .ref a_sp_corner, .int sp_cornerCount, .int sp_level, .int sp_row, .int sp_start, .int sp_place, .int sp_length, .int sp_cap])) :: (a_sp_first, .inl (ci 0, 4, .inl f3)) :: (a_sp_many, .inl (ci 0, 4, .inl f4)) :: (a_g, .inr (2, [.ref a_g_rowCuts, .ref a_g_columnCuts, .ref a_g_bandRows, .ref a_g_zoneColumns, .ref a_g_rows, .ref a_g_sheets])) :: (a_g_bandRows, .inl (ci 0, 5, .inl g_bandRows)) :: (a_g_zoneColumns, .inl (ci 0, 5, .inl g_zoneColumns)) :: (a_g_rows, .inl (ci 0, 5, .inl g_rows)) :: (a_g_sheets, .inl (ci 0, 5, .inl g_sheets)) :: Rw) H := ⟨hP, hD⟩
    refine lv_aload_n (pc := 17) hx hb dX6_lookAround_17 rfl (lv_at hl 0 rfl) ?_
    refine lv_iconst (pc := 18) (v := 2) hx hb dX6_lookAround_18 (by decide) ?_
    refine lv_aload_n (pc := 19) hx hb dX6_lookAround_19 rfl (lv_at hl 0 rfl) ?_
    refine va_get (pc := 20) (D := D) (ci := 6) (v := .int sp_row) (C := RX6) (T := TX6) (N := 11) hx hb hts hinX6 hown hK hP 0 rfl rfl 6 (by decide) w_1 (fun _ h9 => h9) rfl dX6_lookAround_20 ?_
    refine lv_iconst (pc := 23) (v := 1) hx hb dX6_lookAround_23 (by decide) ?_
    refine lv_iadd (pc := 24) hx hb dX6_lookAround_24 ?_
    obtain ⟨f5, f6, hm25, hf⟩ := q_b2_e hf
    refine q_cV (pc := 25) (As := [.int 2, .int (sp_row + 1)]) (rest := []) (v0 := none) ⟨hx, hb, hml, hown, hts⟩ hK hA hZ hP hD hS hl.1 [0, 1, 2, 3, 4, 5, 6, 7] 8 rfl ⟨rfl, rfl, rfl⟩ (c_Spot_lookAcross l D ci A sa N (Rw) a_sp a_g a_sp_first a_sp_many a_sp_corner a_g_rowCuts a_g_columnCuts a_g_bandRows a_g_zoneColumns a_g_rows a_g_sheets sp_cornerCount sp_level sp_row sp_start sp_place sp_length sp_cap f3 f4 g_bandRows g_zoneColumns g_rows g_sheets 2 (sp_row + 1) f5 f6 hm25) 0 rfl rfl (cwV 2 hts gX6_lookAround_X6_lookAcross rfl rfl rfl (by decide +kernel) ⟨Nat.le_of_ble_eq_true rfl, Nat.le_of_ble_eq_true rfl⟩) rfl rfl (Nat.le_of_ble_eq_true rfl) dX6_lookAround_25 ⟨Nat.zero_le _, Nat.zero_le _⟩ [0, 1, 2, 3, 4, 5, 6, 7] 8 rfl ⟨rfl, rfl, rfl⟩ (fun H locs hP hD hS => ?_)
    obtain ⟨hP, hD⟩ : va_PD D A ((a_sp, .inr (6, [.ref a_g, .ref a_sp_first, .ref a_sp_many, .ref a_sp_corner, .int sp_cornerCount, .int sp_level, .int sp_row, .int sp_start, .int sp_place, .int sp_length, .int sp_cap])) :: (a_sp_first, .inl (ci 0, 4, .inl f5)) :: (a_sp_many, .inl (ci 0, 4, .inl f6)) :: (a_g, .inr (2, [.ref a_g_rowCuts, .ref a_g_columnCuts, .ref a_g_bandRows, .ref a_g_zoneColumns, .ref a_g_rows, .ref a_g_sheets])) :: (a_g_bandRows, .inl (ci 0, 5, .inl g_bandRows)) :: (a_g_zoneColumns, .inl (ci 0, 5, .inl g_zoneColumns)) :: (a_g_rows, .inl (ci 0, 5, .inl g_rows)) :: (a_g_sheets, .inl (ci 0, 5, .inl g_sheets)) :: Rw) H := ⟨hP, hD⟩
    refine lv_aload_n (pc := 28) hx hb dX6_lookAround_28 rfl (lv_at hl 0 rfl) ?_
    refine lv_iconst (pc := 29) (v := 3) hx hb dX6_lookAround_29 (by decide) ?_
    refine lv_aload_n (pc := 30) hx hb dX6_lookAround_30 rfl (lv_at hl 0 rfl) ?_
    refine va_get (pc := 31) (D := D) (ci := 6) (v := .int sp_length) (C := RX6) (T := TX6) (N := 11) hx hb hts hinX6 hown hK hP 0 rfl rfl 9 (by decide) w_2 (fun _ h9 => h9) rfl dX6_lookAround_31 ?_
    refine lv_iconst (pc := 34) (v := 1) hx hb dX6_lookAround_34 (by decide) ?_
    refine lv_isub (pc := 35) hx hb dX6_lookAround_35 ?_
    obtain ⟨f7, f8, hm36, hf⟩ := q_b2_e hf
    refine q_cV (pc := 36) (As := [.int 3, .int (sp_length - 1)]) (rest := []) (v0 := none) ⟨hx, hb, hml, hown, hts⟩ hK hA hZ hP hD hS hl.1 [0, 1, 2, 3, 4, 5, 6, 7] 8 rfl ⟨rfl, rfl, rfl⟩ (c_Spot_lookAlong l D ci A sa N ((a_g, .inr (2, [.ref a_g_rowCuts, .ref a_g_columnCuts, .ref a_g_bandRows, .ref a_g_zoneColumns, .ref a_g_rows, .ref a_g_sheets])) :: (a_g_bandRows, .inl (ci 0, 5, .inl g_bandRows)) :: (a_g_zoneColumns, .inl (ci 0, 5, .inl g_zoneColumns)) :: (a_g_rows, .inl (ci 0, 5, .inl g_rows)) :: (a_g_sheets, .inl (ci 0, 5, .inl g_sheets)) :: Rw) a_sp a_g a_sp_first a_sp_many a_sp_corner sp_cornerCount sp_level sp_row sp_start sp_place sp_length sp_cap f5 f6 3 (sp_length - 1) f7 f8 hm36) 0 rfl rfl (cwV 2 hts gX6_lookAround_X6_lookAlong rfl rfl rfl (by decide +kernel) ⟨Nat.le_of_ble_eq_true rfl, Nat.le_of_ble_eq_true rfl⟩) rfl rfl (Nat.le_of_ble_eq_true rfl) dX6_lookAround_36 ⟨Nat.zero_le _, Nat.zero_le _⟩ [0, 1, 2, 3, 4, 5, 6, 7] 8 rfl ⟨rfl, rfl, rfl⟩ (fun H locs hP hD hS => ?_)
    obtain ⟨hP, hD⟩ : va_PD D A ((a_sp, .inr (6, [.ref a_g, .ref a_sp_first, .ref a_sp_many, .ref a_sp_corner, .int sp_cornerCount, .int sp_level, .int sp_row, .int sp_start, .int sp_place, .int sp_length, .int sp_cap])) :: (a_sp_first, .inl (ci 0, 4, .inl f7)) :: (a_sp_many, .inl (ci 0, 4, .inl f8)) :: (a_g, .inr (2, [.ref a_g_rowCuts, .ref a_g_columnCuts, .ref a_g_bandRows, .ref a_g_zoneColumns, .ref a_g_rows, .ref a_g_sheets])) :: (a_g_bandRows, .inl (ci 0, 5, .inl g_bandRows)) :: (a_g_zoneColumns, .inl (ci 0, 5, .inl g_zoneColumns)) :: (a_g_rows, .inl (ci 0, 5, .inl g_rows)) :: (a_g_sheets, .inl (ci 0, 5, .inl g_sheets)) :: Rw) H := ⟨hP, hD⟩
    obtain ⟨rfl, rfl⟩ := q_inj2 (Option.some.inj hf)
    rw [hQ]
    exact q_vret (pc := 39) hx hb hr hlocks hP hD hS dX6_lookAround_39
  exact hgo _ _ rfl hP hS
/-! X6_lookAtCorners -/
set_option maxRecDepth 100000 in
set_option maxHeartbeats 4000000 in
theorem c_Spot_lookAtCorners (l : Launch) (D : va_G) (ci : Nat → ClassId) (A : Nat → Prop) (sa : Nat → Nat) (N : Nat) (Rw : va_W) (a_sp : Nat) (a_g : Nat) (a_sp_first : Nat) (a_sp_many : Nat) (a_sp_corner : Nat) (a_g_rowCuts : Nat) (a_g_columnCuts : Nat) (a_g_bandRows : Nat) (a_g_zoneColumns : Nat) (a_g_rows : Nat) (a_g_sheets : Nat) (sp_cornerCount : Int32) (sp_level : Int32) (sp_row : Int32) (sp_start : Int32) (sp_place : Int32) (sp_length : Int32) (sp_cap : Int32) (sp_corner : Nat → Int32) (g_bandRows : Nat → Int32) (g_zoneColumns : Nat → Int32) (g_rows : Nat → Int32) (g_sheets : Nat → Int32) (o1 : Nat → Int32) (o2 : Int32) (hf : f_Spot_lookAtCorners N sp_corner sp_cornerCount sp_level sp_row sp_place sp_length sp_cap g_bandRows g_zoneColumns g_rows g_sheets = some (o1, o2)) : Met l yX6_lookAtCorners wsX6_lookAtCorners ({ frames := 2, cells := 0, slots := 0, locals := 52 }) (va_Pc [.ref a_sp] (q_N D ci A sa ((a_sp, .inr (6, [.ref a_g, .ref a_sp_first, .ref a_sp_many, .ref a_sp_corner, .int sp_cornerCount, .int sp_level, .int sp_row, .int sp_start, .int sp_place, .int sp_length, .int sp_cap])) :: (a_sp_corner, .inl (ci 0, 4, .inl sp_corner)) :: (a_g, .inr (2, [.ref a_g_rowCuts, .ref a_g_columnCuts, .ref a_g_bandRows, .ref a_g_zoneColumns, .ref a_g_rows, .ref a_g_sheets])) :: (a_g_bandRows, .inl (ci 0, 5, .inl g_bandRows)) :: (a_g_zoneColumns, .inl (ci 0, 5, .inl g_zoneColumns)) :: (a_g_rows, .inl (ci 0, 5, .inl g_rows)) :: (a_g_sheets, .inl (ci 0, 5, .inl g_sheets)) :: Rw))) (q_Q none (q_O D A ((a_sp, .inr (6, [.ref a_g, .ref a_sp_first, .ref a_sp_many, .ref a_sp_corner, .int o2, .int sp_level, .int sp_row, .int sp_start, .int sp_place, .int sp_length, .int sp_cap])) :: (a_sp_corner, .inl (ci 0, 4, .inl o1)) :: (a_g, .inr (2, [.ref a_g_rowCuts, .ref a_g_columnCuts, .ref a_g_bandRows, .ref a_g_zoneColumns, .ref a_g_rows, .ref a_g_sheets])) :: (a_g_bandRows, .inl (ci 0, 5, .inl g_bandRows)) :: (a_g_zoneColumns, .inl (ci 0, 5, .inl g_zoneColumns)) :: (a_g_rows, .inl (ci 0, 5, .inl g_rows)) :: (a_g_sheets, .inl (ci 0, 5, .inl g_sheets)) :: Rw)) A) 0 0 A := by
  refine q_ofW (cc := cX6_lookAtCorners) (maxL := 1) (ret := none) [.ref a_sp] (plainFor_of_name (by decide)) rfl (Nat.le_of_ble_eq_true rfl) ?_
  intro p e s m below meth c ls Q hQ hx hb hml hr hts hown hlocks hK hA hZ hP hD hS hl
  have hl : lv_has ls 1 [(0, .ref a_sp)] := hl
  have hown : s.vm.findClass RX6 = some m.cls := hown
  have hinX6 : ∀ w ∈ wsX60, w ∈ wsX6_lookAtCorners := fun _ h => List.mem_cons_of_mem _ (inWX60 _ h)
  have w_1 := hts (Cond.fieldLink RX6 21 "SheetNames$Spot" "cornerCount" "I") (List.mem_cons_of_mem _ t_w799)
  have w_2 := hts (Cond.fieldLink RX6 40 "SheetNames$Spot" "cap" "Z") (List.mem_cons_of_mem _ t_w806)
  have w_3 := hts (Cond.fieldLink RX6 28 "SheetNames$Spot" "row" "I") (List.mem_cons_of_mem _ t_w807)
  unfold f_Spot_lookAtCorners at hf
  have hgo : ∀ (H : Heap) (locs : List Loc), H = s.heap → va_P D vwCl ((a_sp, .inr (6, [.ref a_g, .ref a_sp_first, .ref a_sp_many, .ref a_sp_corner, .int sp_cornerCount, .int sp_level, .int sp_row, .int sp_start, .int sp_place, .int sp_length, .int sp_cap])) :: (a_sp_corner, .inl (ci 0, 4, .inl sp_corner)) :: (a_g, .inr (2, [.ref a_g_rowCuts, .ref a_g_columnCuts, .ref a_g_bandRows, .ref a_g_zoneColumns, .ref a_g_rows, .ref a_g_sheets])) :: (a_g_bandRows, .inl (ci 0, 5, .inl g_bandRows)) :: (a_g_zoneColumns, .inl (ci 0, 5, .inl g_zoneColumns)) :: (a_g_rows, .inl (ci 0, 5, .inl g_rows)) :: (a_g_sheets, .inl (ci 0, 5, .inl g_sheets)) :: Rw) H → va_S A s.heap H locs → W p l e ({ frames := 2, cells := 0, slots := 0, locals := 52 } : Room) s m ([.ref a_sp] : List Value).toArray below meth c H locs 0 0 Q (F0 m 0 ls []) := by
    intro H locs hH hP hS
    refine lv_aload_n (pc := 0) hx hb dX6_lookAtCorners_0 rfl (lv_at hl 0 rfl) ?_
    refine lv_iconst (pc := 1) (v := 0) hx hb dX6_lookAtCorners_1 (by decide) ?_
    refine va_put (pc := 2) (D := D) (ci := 6) (v := .int 0) (ty := .int) (C := RX6) (T := TX6) (N := 11) hx hb hts hinX6 tyX6 tyX6_ok nmX6 hown hK hP hD hS 0 rfl rfl 4 (by decide) w_1 (fun _ h9 => h9) rfl (by decide +kernel) rfl rfl (Nat.le_of_ble_eq_true rfl) dX6_lookAtCorners_2 (fun H locs hP hD hS => ?_)
    obtain ⟨hP, hD⟩ : va_PD D A ((a_sp, .inr (6, [.ref a_g, .ref a_sp_first, .ref a_sp_many, .ref a_sp_corner, .int 0, .int sp_level, .int sp_row, .int sp_start, .int sp_place, .int sp_length, .int sp_cap])) :: (a_sp_corner, .inl (ci 0, 4, .inl sp_corner)) :: (a_g, .inr (2, [.ref a_g_rowCuts, .ref a_g_columnCuts, .ref a_g_bandRows, .ref a_g_zoneColumns, .ref a_g_rows, .ref a_g_sheets])) :: (a_g_bandRows, .inl (ci 0, 5, .inl g_bandRows)) :: (a_g_zoneColumns, .inl (ci 0, 5, .inl g_zoneColumns)) :: (a_g_rows, .inl (ci 0, 5, .inl g_rows)) :: (a_g_sheets, .inl (ci 0, 5, .inl g_sheets)) :: Rw) H := ⟨hP, hD⟩
    refine lv_aload_n (pc := 5) hx hb dX6_lookAtCorners_5 rfl (lv_at hl 0 rfl) ?_
    refine va_get (pc := 6) (D := D) (ci := 6) (v := .int sp_cap) (C := RX6) (T := TX6) (N := 11) hx hb hts hinX6 hown hK hP 0 rfl rfl 10 (by decide) w_2 (fun _ h9 => h9) rfl dX6_lookAtCorners_6 ?_
    refine q_if_ne (pc := 9) (tgt := 32) hx hb dX6_lookAtCorners_9 (by decide) rfl hf (fun hf => ?_) (fun hf => ?_)
    · obtain ⟨rfl, rfl⟩ := q_inj2 (Option.some.inj hf)
      rw [hQ]
      exact q_vret (pc := 32) hx hb hr hlocks hP hD hS dX6_lookAtCorners_32
    · refine lv_aload_n (pc := 12) hx hb dX6_lookAtCorners_12 rfl (lv_at hl 0 rfl) ?_
      refine lv_aload_n (pc := 13) hx hb dX6_lookAtCorners_13 rfl (lv_at hl 0 rfl) ?_
      refine va_get (pc := 14) (D := D) (ci := 6) (v := .int sp_row) (C := RX6) (T := TX6) (N := 11) hx hb hts hinX6 hown hK hP 0 rfl rfl 6 (by decide) w_3 (fun _ h9 => h9) rfl dX6_lookAtCorners_14 ?_
      refine lv_iconst (pc := 17) (v := 1) hx hb dX6_lookAtCorners_17 (by decide) ?_
      refine lv_isub (pc := 18) hx hb dX6_lookAtCorners_18 ?_
      obtain ⟨f1, v2, hm19, hf⟩ := q_b2_e hf
      refine q_cV (pc := 19) (As := [.int (sp_row - 1)]) (rest := []) (v0 := none) ⟨hx, hb, hml, hown, hts⟩ hK hA hZ hP hD hS hl.1 [0, 1, 2, 3, 4, 5, 6] 7 rfl ⟨rfl, rfl, rfl⟩ (c_Spot_addCorners l D ci A sa N (Rw) a_sp a_g a_sp_first a_sp_many a_sp_corner a_g_rowCuts a_g_columnCuts a_g_bandRows a_g_zoneColumns a_g_rows a_g_sheets 0 sp_level sp_row sp_start sp_place sp_length sp_cap sp_corner g_bandRows g_zoneColumns g_rows g_sheets (sp_row - 1) f1 v2 hm19) 0 rfl rfl (cwV 1 hts gX6_lookAtCorners_X6_addCorners rfl rfl rfl (by decide +kernel) ⟨Nat.le_of_ble_eq_true rfl, Nat.le_of_ble_eq_true rfl⟩) rfl rfl (Nat.le_of_ble_eq_true rfl) dX6_lookAtCorners_19 ⟨Nat.zero_le _, Nat.zero_le _⟩ [0, 1, 2, 3, 4, 5, 6] 7 rfl ⟨rfl, rfl, rfl⟩ (fun H locs hP hD hS => ?_)
      obtain ⟨hP, hD⟩ : va_PD D A ((a_sp, .inr (6, [.ref a_g, .ref a_sp_first, .ref a_sp_many, .ref a_sp_corner, .int v2, .int sp_level, .int sp_row, .int sp_start, .int sp_place, .int sp_length, .int sp_cap])) :: (a_sp_corner, .inl (ci 0, 4, .inl f1)) :: (a_g, .inr (2, [.ref a_g_rowCuts, .ref a_g_columnCuts, .ref a_g_bandRows, .ref a_g_zoneColumns, .ref a_g_rows, .ref a_g_sheets])) :: (a_g_bandRows, .inl (ci 0, 5, .inl g_bandRows)) :: (a_g_zoneColumns, .inl (ci 0, 5, .inl g_zoneColumns)) :: (a_g_rows, .inl (ci 0, 5, .inl g_rows)) :: (a_g_sheets, .inl (ci 0, 5, .inl g_sheets)) :: Rw) H := ⟨hP, hD⟩
      refine lv_aload_n (pc := 22) hx hb dX6_lookAtCorners_22 rfl (lv_at hl 0 rfl) ?_
      refine lv_aload_n (pc := 23) hx hb dX6_lookAtCorners_23 rfl (lv_at hl 0 rfl) ?_
      refine va_get (pc := 24) (D := D) (ci := 6) (v := .int sp_row) (C := RX6) (T := TX6) (N := 11) hx hb hts hinX6 hown hK hP 0 rfl rfl 6 (by decide) w_3 (fun _ h9 => h9) rfl dX6_lookAtCorners_24 ?_
      refine lv_iconst (pc := 27) (v := 1) hx hb dX6_lookAtCorners_27 (by decide) ?_
      refine lv_iadd (pc := 28) hx hb dX6_lookAtCorners_28 ?_
      obtain ⟨f3, v4, hm29, hf⟩ := q_b2_e hf
      refine q_cV (pc := 29) (As := [.int (sp_row + 1)]) (rest := []) (v0 := none) ⟨hx, hb, hml, hown, hts⟩ hK hA hZ hP hD hS hl.1 [0, 1, 2, 3, 4, 5, 6] 7 rfl ⟨rfl, rfl, rfl⟩ (c_Spot_addCorners l D ci A sa N (Rw) a_sp a_g a_sp_first a_sp_many a_sp_corner a_g_rowCuts a_g_columnCuts a_g_bandRows a_g_zoneColumns a_g_rows a_g_sheets v2 sp_level sp_row sp_start sp_place sp_length sp_cap f1 g_bandRows g_zoneColumns g_rows g_sheets (sp_row + 1) f3 v4 hm29) 0 rfl rfl (cwV 1 hts gX6_lookAtCorners_X6_addCorners rfl rfl rfl (by decide +kernel) ⟨Nat.le_of_ble_eq_true rfl, Nat.le_of_ble_eq_true rfl⟩) rfl rfl (Nat.le_of_ble_eq_true rfl) dX6_lookAtCorners_29 ⟨Nat.zero_le _, Nat.zero_le _⟩ [0, 1, 2, 3, 4, 5, 6] 7 rfl ⟨rfl, rfl, rfl⟩ (fun H locs hP hD hS => ?_)
      obtain ⟨hP, hD⟩ : va_PD D A ((a_sp, .inr (6, [.ref a_g, .ref a_sp_first, .ref a_sp_many, .ref a_sp_corner, .int v4, .int sp_level, .int sp_row, .int sp_start, .int sp_place, .int sp_length, .int sp_cap])) :: (a_sp_corner, .inl (ci 0, 4, .inl f3)) :: (a_g, .inr (2, [.ref a_g_rowCuts, .ref a_g_columnCuts, .ref a_g_bandRows, .ref a_g_zoneColumns, .ref a_g_rows, .ref a_g_sheets])) :: (a_g_bandRows, .inl (ci 0, 5, .inl g_bandRows)) :: (a_g_zoneColumns, .inl (ci 0, 5, .inl g_zoneColumns)) :: (a_g_rows, .inl (ci 0, 5, .inl g_rows)) :: (a_g_sheets, .inl (ci 0, 5, .inl g_sheets)) :: Rw) H := ⟨hP, hD⟩
      obtain ⟨rfl, rfl⟩ := q_inj2 (Option.some.inj hf)
      rw [hQ]
      exact q_vret (pc := 32) hx hb hr hlocks hP hD hS dX6_lookAtCorners_32
  exact hgo _ _ rfl hP hS
/-! X6_middleLat -/
set_option maxRecDepth 100000 in
set_option maxHeartbeats 4000000 in
theorem c_Spot_middleLat (l : Launch) (D : va_G) (ci : Nat → ClassId) (A : Nat → Prop) (sa : Nat → Nat) (N : Nat) (Rw : va_W) (a_sp : Nat) (a_g : Nat) (a_sp_first : Nat) (a_sp_many : Nat) (a_sp_corner : Nat) (a_g_rowCuts : Nat) (a_g_columnCuts : Nat) (a_g_bandRows : Nat) (a_g_zoneColumns : Nat) (a_g_rows : Nat) (a_g_sheets : Nat) (sp_cornerCount : Int32) (sp_level : Int32) (sp_row : Int32) (sp_start : Int32) (sp_place : Int32) (sp_length : Int32) (sp_cap : Int32) (g_bandRows : Nat → Int32) (r : Int32) (hf : f_Spot_middleLat sp_level sp_row sp_place sp_length sp_cap g_bandRows = some r) : Met l yX6_middleLat wsX6_middleLat ({ frames := 1, cells := 0, slots := 0, locals := 25 }) (va_Pc [.ref a_sp] (q_N D ci A sa ((a_sp, .inr (6, [.ref a_g, .ref a_sp_first, .ref a_sp_many, .ref a_sp_corner, .int sp_cornerCount, .int sp_level, .int sp_row, .int sp_start, .int sp_place, .int sp_length, .int sp_cap])) :: (a_g, .inr (2, [.ref a_g_rowCuts, .ref a_g_columnCuts, .ref a_g_bandRows, .ref a_g_zoneColumns, .ref a_g_rows, .ref a_g_sheets])) :: (a_g_bandRows, .inl (ci 0, 5, .inl g_bandRows)) :: Rw))) (q_R (some (.int r))) 0 0 A := by
  refine q_ofW (cc := cX6_middleLat) (maxL := 1) (ret := (some .int)) [.ref a_sp] (plainFor_of_name (by decide)) rfl (Nat.le_of_ble_eq_true rfl) ?_
  intro p e s m below meth c ls Q hQ hx hb hml hr hts hown hlocks hK hA hZ hP hD hS hl
  have hl : lv_has ls 1 [(0, .ref a_sp)] := hl
  have hown : s.vm.findClass RX6 = some m.cls := hown
  have hinX6 : ∀ w ∈ wsX60, w ∈ wsX6_middleLat := fun _ h => List.mem_cons_of_mem _ (inWX60 _ h)
  have w_1 := hts (Cond.fieldLink RX6 40 "SheetNames$Spot" "cap" "Z") (List.mem_cons_of_mem _ t_w806)
  have w_2 := hts (Cond.fieldLink RX6 28 "SheetNames$Spot" "row" "I") (List.mem_cons_of_mem _ t_w807)
  have w_3 := hts (Cond.constant RX6 90 (324000)) (List.mem_cons_of_mem _ t_w818)
  have w_4 := hts (Cond.constant RX6 89 (-324000)) (List.mem_cons_of_mem _ t_w817)
  have w_5 := hts (Cond.constantLong RX6 99 (2)) (List.mem_cons_of_mem _ t_w822)
  unfold f_Spot_middleLat at hf
  have hgo : ∀ (H : Heap) (locs : List Loc), H = s.heap → va_P D vwCl ((a_sp, .inr (6, [.ref a_g, .ref a_sp_first, .ref a_sp_many, .ref a_sp_corner, .int sp_cornerCount, .int sp_level, .int sp_row, .int sp_start, .int sp_place, .int sp_length, .int sp_cap])) :: (a_g, .inr (2, [.ref a_g_rowCuts, .ref a_g_columnCuts, .ref a_g_bandRows, .ref a_g_zoneColumns, .ref a_g_rows, .ref a_g_sheets])) :: (a_g_bandRows, .inl (ci 0, 5, .inl g_bandRows)) :: Rw) H → va_S A s.heap H locs → W p l e ({ frames := 1, cells := 0, slots := 0, locals := 25 } : Room) s m ([.ref a_sp] : List Value).toArray below meth c H locs 0 0 Q (F0 m 0 ls []) := by
    intro H locs hH hP hS
    subst hH
    refine lv_aload_n (pc := 0) hx hb dX6_middleLat_0 rfl (lv_at hl 0 rfl) ?_
    refine va_get (pc := 1) (D := D) (ci := 6) (v := .int sp_cap) (C := RX6) (T := TX6) (N := 11) hx hb hts hinX6 hown hK hP 0 rfl rfl 10 (by decide) w_1 (fun _ h9 => h9) rfl dX6_middleLat_1 ?_
    refine q_if_eq (pc := 4) (tgt := 22) hx hb dX6_middleLat_4 (by decide) rfl hf (fun hf => ?_) (fun hf => ?_)
    · refine lv_aload_n (pc := 22) hx hb dX6_middleLat_22 rfl (lv_at hl 0 rfl) ?_
      refine lv_iconst (pc := 23) (v := 0) hx hb dX6_middleLat_23 (by decide) ?_
      obtain ⟨v1, hm24, hf⟩ := q_b1_e hf
      refine q_cVr (pc := 24) (As := [.int 0]) (rest := []) (v0 := (some (.long v1))) ⟨hx, hb, hml, hown, hts⟩ hK hA hZ hP hD hS hl.1 [0, 1, 2] 3 rfl ⟨rfl, rfl, rfl⟩ (c_Spot_edgeTop l D ci A sa N (Rw) a_sp a_g a_sp_first a_sp_many a_sp_corner a_g_rowCuts a_g_columnCuts a_g_bandRows a_g_zoneColumns a_g_rows a_g_sheets sp_cornerCount sp_level sp_row sp_start sp_place sp_length sp_cap g_bandRows 0 v1 hm24) 0 rfl rfl (cwV 1 hts gX6_middleLat_X6_edgeTop rfl rfl rfl (by decide +kernel) ⟨Nat.le_of_ble_eq_true rfl, Nat.le_of_ble_eq_true rfl⟩) rfl rfl (Nat.le_of_ble_eq_true rfl) dX6_middleLat_24 ⟨Nat.zero_le _, Nat.zero_le _⟩ (fun locs hS => ?_)
      refine lv_aload_n (pc := 27) hx hb dX6_middleLat_27 rfl (lv_at hl 0 rfl) ?_
      refine lv_iconst (pc := 28) (v := 1) hx hb dX6_middleLat_28 (by decide) ?_
      obtain ⟨v2, hm29, hf⟩ := q_b1_e hf
      refine q_cVr (pc := 29) (As := [.int 1]) (rest := [.long v1]) (v0 := (some (.long v2))) ⟨hx, hb, hml, hown, hts⟩ hK hA hZ hP hD hS hl.1 [0, 1, 2] 3 rfl ⟨rfl, rfl, rfl⟩ (c_Spot_edgeTop l D ci A sa N (Rw) a_sp a_g a_sp_first a_sp_many a_sp_corner a_g_rowCuts a_g_columnCuts a_g_bandRows a_g_zoneColumns a_g_rows a_g_sheets sp_cornerCount sp_level sp_row sp_start sp_place sp_length sp_cap g_bandRows 1 v2 hm29) 0 rfl rfl (cwV 1 hts gX6_middleLat_X6_edgeTop rfl rfl rfl (by decide +kernel) ⟨Nat.le_of_ble_eq_true rfl, Nat.le_of_ble_eq_true rfl⟩) rfl rfl (Nat.le_of_ble_eq_true rfl) dX6_middleLat_29 ⟨Nat.zero_le _, Nat.zero_le _⟩ (fun locs hS => ?_)
      refine lv_ladd (pc := 32) hx hb dX6_middleLat_32 ?_
      refine lv_ldc2 (pc := 33) (v := 2) hx hb hown w_5 dX6_middleLat_33 ?_
      refine lv_aload_n (pc := 36) hx hb dX6_middleLat_36 rfl (lv_at hl 0 rfl) ?_
      refine lv_iconst (pc := 37) (v := 0) hx hb dX6_middleLat_37 (by decide) ?_
      obtain ⟨v3, hm38, hf⟩ := q_b1_e hf
      refine q_cVr (pc := 38) (As := [.int 0]) (rest := [.long 2, .long (v1 + v2)]) (v0 := (some (.long v3))) ⟨hx, hb, hml, hown, hts⟩ hK hA hZ hP hD hS hl.1 [0, 1, 2] 3 rfl ⟨rfl, rfl, rfl⟩ (c_Spot_edgeBottom l D ci A sa N (Rw) a_sp a_g a_sp_first a_sp_many a_sp_corner a_g_rowCuts a_g_columnCuts a_g_bandRows a_g_zoneColumns a_g_rows a_g_sheets sp_cornerCount sp_level sp_row sp_start sp_place sp_length sp_cap g_bandRows 0 v3 hm38) 0 rfl rfl (cwV 1 hts gX6_middleLat_X6_edgeBottom rfl rfl rfl (by decide +kernel) ⟨Nat.le_of_ble_eq_true rfl, Nat.le_of_ble_eq_true rfl⟩) rfl rfl (Nat.le_of_ble_eq_true rfl) dX6_middleLat_38 ⟨Nat.zero_le _, Nat.zero_le _⟩ (fun locs hS => ?_)
      refine lv_lmul (pc := 41) hx hb dX6_middleLat_41 ?_
      obtain ⟨v4, hm42, hf⟩ := q_b1_e hf
      refine q_cSr (pc := 42) (As := [.long (v1 + v2), .long (2 * v3)]) (rest := []) (v0 := (some (.long v4))) ⟨hx, hb, hml, hown, hts⟩ hK hA hZ hP hD hS hl.1 [] 3 rfl ⟨rfl, rfl, rfl⟩ (c_JMath_floorDiv_f86c9 l D ci A sa N (Rw) (v1 + v2) (2 * v3) v4 hm42) (va_cwS 2 hts gX6_middleLat_J9_floorDiv_f86c9 rfl rfl rfl (by decide +kernel) ⟨Nat.le_of_ble_eq_true rfl, Nat.le_of_ble_eq_true rfl⟩) rfl rfl (Nat.le_of_ble_eq_true rfl) dX6_middleLat_42 ⟨Nat.zero_le _, Nat.zero_le _⟩ (fun locs hS => ?_)
      refine lv_l2i (pc := 45) hx hb dX6_middleLat_45 rfl ?_
      obtain rfl := Option.some.inj hf
      rw [hQ]
      exact q_iretr (pc := 46) hx hb hr hlocks rfl hS dX6_middleLat_46
    · refine lv_aload_n (pc := 7) hx hb dX6_middleLat_7 rfl (lv_at hl 0 rfl) ?_
      refine va_get (pc := 8) (D := D) (ci := 6) (v := .int sp_row) (C := RX6) (T := TX6) (N := 11) hx hb hts hinX6 hown hK hP 0 rfl rfl 6 (by decide) w_2 (fun _ h9 => h9) rfl dX6_middleLat_8 ?_
      refine q_if_ne (pc := 11) (tgt := 19) hx hb dX6_middleLat_11 (by decide) rfl hf (fun hf => ?_) (fun hf => ?_)
      · refine lv_ldc (pc := 19) (v := (-324000)) hx hb hown w_4 dX6_middleLat_19 ?_
        obtain rfl := Option.some.inj hf
        rw [hQ]
        exact q_iretr (pc := 21) hx hb hr hlocks rfl hS dX6_middleLat_21
      · refine lv_ldc (pc := 14) (v := 324000) hx hb hown w_3 dX6_middleLat_14 ?_
        refine lv_goto (pc := 16) (tgt := 21) hx hb dX6_middleLat_16 (by decide) ?_
        obtain rfl := Option.some.inj hf
        rw [hQ]
        exact q_iretr (pc := 21) hx hb hr hlocks rfl hS dX6_middleLat_21
  exact hgo _ _ rfl hP hS
/-! X6_middleLon -/
set_option maxRecDepth 100000 in
set_option maxHeartbeats 4000000 in
theorem c_Spot_middleLon (l : Launch) (D : va_G) (ci : Nat → ClassId) (A : Nat → Prop) (sa : Nat → Nat) (N : Nat) (Rw : va_W) (a_sp : Nat) (a_g : Nat) (a_sp_first : Nat) (a_sp_many : Nat) (a_sp_corner : Nat) (a_g_rowCuts : Nat) (a_g_columnCuts : Nat) (a_g_bandRows : Nat) (a_g_zoneColumns : Nat) (a_g_rows : Nat) (a_g_sheets : Nat) (sp_cornerCount : Int32) (sp_level : Int32) (sp_row : Int32) (sp_start : Int32) (sp_place : Int32) (sp_length : Int32) (sp_cap : Int32) (g_bandRows : Nat → Int32) (r : Int32) (hf : f_Spot_middleLon sp_level sp_row sp_place sp_length sp_cap g_bandRows = some r) : Met l yX6_middleLon wsX6_middleLon ({ frames := 1, cells := 0, slots := 0, locals := 25 }) (va_Pc [.ref a_sp] (q_N D ci A sa ((a_sp, .inr (6, [.ref a_g, .ref a_sp_first, .ref a_sp_many, .ref a_sp_corner, .int sp_cornerCount, .int sp_level, .int sp_row, .int sp_start, .int sp_place, .int sp_length, .int sp_cap])) :: (a_g, .inr (2, [.ref a_g_rowCuts, .ref a_g_columnCuts, .ref a_g_bandRows, .ref a_g_zoneColumns, .ref a_g_rows, .ref a_g_sheets])) :: (a_g_bandRows, .inl (ci 0, 5, .inl g_bandRows)) :: Rw))) (q_R (some (.int r))) 0 0 A := by
  refine q_ofW (cc := cX6_middleLon) (maxL := 1) (ret := (some .int)) [.ref a_sp] (plainFor_of_name (by decide)) rfl (Nat.le_of_ble_eq_true rfl) ?_
  intro p e s m below meth c ls Q hQ hx hb hml hr hts hown hlocks hK hA hZ hP hD hS hl
  have hl : lv_has ls 1 [(0, .ref a_sp)] := hl
  have hown : s.vm.findClass RX6 = some m.cls := hown
  have hinX6 : ∀ w ∈ wsX60, w ∈ wsX6_middleLon := fun _ h => List.mem_cons_of_mem _ (inWX60 _ h)
  have w_1 := hts (Cond.fieldLink RX6 40 "SheetNames$Spot" "cap" "Z") (List.mem_cons_of_mem _ t_w806)
  have w_2 := hts (Cond.constantLong RX6 99 (2)) (List.mem_cons_of_mem _ t_w822)
  unfold f_Spot_middleLon at hf
  have hgo : ∀ (H : Heap) (locs : List Loc), H = s.heap → va_P D vwCl ((a_sp, .inr (6, [.ref a_g, .ref a_sp_first, .ref a_sp_many, .ref a_sp_corner, .int sp_cornerCount, .int sp_level, .int sp_row, .int sp_start, .int sp_place, .int sp_length, .int sp_cap])) :: (a_g, .inr (2, [.ref a_g_rowCuts, .ref a_g_columnCuts, .ref a_g_bandRows, .ref a_g_zoneColumns, .ref a_g_rows, .ref a_g_sheets])) :: (a_g_bandRows, .inl (ci 0, 5, .inl g_bandRows)) :: Rw) H → va_S A s.heap H locs → W p l e ({ frames := 1, cells := 0, slots := 0, locals := 25 } : Room) s m ([.ref a_sp] : List Value).toArray below meth c H locs 0 0 Q (F0 m 0 ls []) := by
    intro H locs hH hP hS
    subst hH
    refine lv_aload_n (pc := 0) hx hb dX6_middleLon_0 rfl (lv_at hl 0 rfl) ?_
    refine va_get (pc := 1) (D := D) (ci := 6) (v := .int sp_cap) (C := RX6) (T := TX6) (N := 11) hx hb hts hinX6 hown hK hP 0 rfl rfl 10 (by decide) w_1 (fun _ h9 => h9) rfl dX6_middleLon_1 ?_
    refine q_if_eq (pc := 4) (tgt := 9) hx hb dX6_middleLon_4 (by decide) rfl hf (fun hf => ?_) (fun hf => ?_)
    · refine lv_aload_n (pc := 9) hx hb dX6_middleLon_9 rfl (lv_at hl 0 rfl) ?_
      refine lv_iconst (pc := 10) (v := 2) hx hb dX6_middleLon_10 (by decide) ?_
      obtain ⟨v1, hm11, hf⟩ := q_b1_e hf
      refine q_cVr (pc := 11) (As := [.int 2]) (rest := []) (v0 := (some (.long v1))) ⟨hx, hb, hml, hown, hts⟩ hK hA hZ hP hD hS hl.1 [0, 1, 2] 3 rfl ⟨rfl, rfl, rfl⟩ (c_Spot_edgeTop l D ci A sa N (Rw) a_sp a_g a_sp_first a_sp_many a_sp_corner a_g_rowCuts a_g_columnCuts a_g_bandRows a_g_zoneColumns a_g_rows a_g_sheets sp_cornerCount sp_level sp_row sp_start sp_place sp_length sp_cap g_bandRows 2 v1 hm11) 0 rfl rfl (cwV 1 hts gX6_middleLon_X6_edgeTop rfl rfl rfl (by decide +kernel) ⟨Nat.le_of_ble_eq_true rfl, Nat.le_of_ble_eq_true rfl⟩) rfl rfl (Nat.le_of_ble_eq_true rfl) dX6_middleLon_11 ⟨Nat.zero_le _, Nat.zero_le _⟩ (fun locs hS => ?_)
      refine lv_aload_n (pc := 14) hx hb dX6_middleLon_14 rfl (lv_at hl 0 rfl) ?_
      refine lv_iconst (pc := 15) (v := 3) hx hb dX6_middleLon_15 (by decide) ?_
      obtain ⟨v2, hm16, hf⟩ := q_b1_e hf
      refine q_cVr (pc := 16) (As := [.int 3]) (rest := [.long v1]) (v0 := (some (.long v2))) ⟨hx, hb, hml, hown, hts⟩ hK hA hZ hP hD hS hl.1 [0, 1, 2] 3 rfl ⟨rfl, rfl, rfl⟩ (c_Spot_edgeTop l D ci A sa N (Rw) a_sp a_g a_sp_first a_sp_many a_sp_corner a_g_rowCuts a_g_columnCuts a_g_bandRows a_g_zoneColumns a_g_rows a_g_sheets sp_cornerCount sp_level sp_row sp_start sp_place sp_length sp_cap g_bandRows 3 v2 hm16) 0 rfl rfl (cwV 1 hts gX6_middleLon_X6_edgeTop rfl rfl rfl (by decide +kernel) ⟨Nat.le_of_ble_eq_true rfl, Nat.le_of_ble_eq_true rfl⟩) rfl rfl (Nat.le_of_ble_eq_true rfl) dX6_middleLon_16 ⟨Nat.zero_le _, Nat.zero_le _⟩ (fun locs hS => ?_)
      refine lv_ladd (pc := 19) hx hb dX6_middleLon_19 ?_
      refine lv_ldc2 (pc := 20) (v := 2) hx hb hown w_2 dX6_middleLon_20 ?_
      refine lv_aload_n (pc := 23) hx hb dX6_middleLon_23 rfl (lv_at hl 0 rfl) ?_
      refine lv_iconst (pc := 24) (v := 2) hx hb dX6_middleLon_24 (by decide) ?_
      obtain ⟨v3, hm25, hf⟩ := q_b1_e hf
      refine q_cVr (pc := 25) (As := [.int 2]) (rest := [.long 2, .long (v1 + v2)]) (v0 := (some (.long v3))) ⟨hx, hb, hml, hown, hts⟩ hK hA hZ hP hD hS hl.1 [0, 1, 2] 3 rfl ⟨rfl, rfl, rfl⟩ (c_Spot_edgeBottom l D ci A sa N (Rw) a_sp a_g a_sp_first a_sp_many a_sp_corner a_g_rowCuts a_g_columnCuts a_g_bandRows a_g_zoneColumns a_g_rows a_g_sheets sp_cornerCount sp_level sp_row sp_start sp_place sp_length sp_cap g_bandRows 2 v3 hm25) 0 rfl rfl (cwV 1 hts gX6_middleLon_X6_edgeBottom rfl rfl rfl (by decide +kernel) ⟨Nat.le_of_ble_eq_true rfl, Nat.le_of_ble_eq_true rfl⟩) rfl rfl (Nat.le_of_ble_eq_true rfl) dX6_middleLon_25 ⟨Nat.zero_le _, Nat.zero_le _⟩ (fun locs hS => ?_)
      refine lv_lmul (pc := 28) hx hb dX6_middleLon_28 ?_
      obtain ⟨v4, hm29, hf⟩ := q_b1_e hf
      refine q_cSr (pc := 29) (As := [.long (v1 + v2), .long (2 * v3)]) (rest := []) (v0 := (some (.long v4))) ⟨hx, hb, hml, hown, hts⟩ hK hA hZ hP hD hS hl.1 [] 3 rfl ⟨rfl, rfl, rfl⟩ (c_JMath_floorDiv_f86c9 l D ci A sa N (Rw) (v1 + v2) (2 * v3) v4 hm29) (va_cwS 2 hts gX6_middleLon_J9_floorDiv_f86c9 rfl rfl rfl (by decide +kernel) ⟨Nat.le_of_ble_eq_true rfl, Nat.le_of_ble_eq_true rfl⟩) rfl rfl (Nat.le_of_ble_eq_true rfl) dX6_middleLon_29 ⟨Nat.zero_le _, Nat.zero_le _⟩ (fun locs hS => ?_)
      refine lv_l2i (pc := 32) hx hb dX6_middleLon_32 rfl ?_
      obtain rfl := Option.some.inj hf
      rw [hQ]
      exact q_iretr (pc := 33) hx hb hr hlocks rfl hS dX6_middleLon_33
    · refine lv_iconst (pc := 7) (v := 0) hx hb dX6_middleLon_7 (by decide) ?_
      obtain rfl := Option.some.inj hf
      rw [hQ]
      exact q_iretr (pc := 8) hx hb hr hlocks rfl hS dX6_middleLon_8
  exact hgo _ _ rfl hP hS
/-! X6_zone -/
set_option maxRecDepth 100000 in
set_option maxHeartbeats 4000000 in
theorem c_Spot_zone (l : Launch) (D : va_G) (ci : Nat → ClassId) (A : Nat → Prop) (sa : Nat → Nat) (N : Nat) (Rw : va_W) (a_sp : Nat) (a_g : Nat) (a_sp_first : Nat) (a_sp_many : Nat) (a_sp_corner : Nat) (a_g_rowCuts : Nat) (a_g_columnCuts : Nat) (a_g_bandRows : Nat) (a_g_zoneColumns : Nat) (a_g_rows : Nat) (a_g_sheets : Nat) (sp_cornerCount : Int32) (sp_level : Int32) (sp_row : Int32) (sp_start : Int32) (sp_place : Int32) (sp_length : Int32) (sp_cap : Int32) (g_zoneColumns : Nat → Int32) (r : Int32) (hf : f_Spot_zone sp_level sp_place sp_cap g_zoneColumns = some r) : Met l yX6_zone wsX6_zone ({ frames := 0, cells := 0, slots := 0, locals := 0 }) (va_Pc [.ref a_sp] (q_N D ci A sa ((a_sp, .inr (6, [.ref a_g, .ref a_sp_first, .ref a_sp_many, .ref a_sp_corner, .int sp_cornerCount, .int sp_level, .int sp_row, .int sp_start, .int sp_place, .int sp_length, .int sp_cap])) :: (a_g, .inr (2, [.ref a_g_rowCuts, .ref a_g_columnCuts, .ref a_g_bandRows, .ref a_g_zoneColumns, .ref a_g_rows, .ref a_g_sheets])) :: (a_g_zoneColumns, .inl (ci 0, 5, .inl g_zoneColumns)) :: Rw))) (q_R (some (.int r))) 0 0 A := by
  refine q_ofW (cc := cX6_zone) (maxL := 1) (ret := (some .int)) [.ref a_sp] (plainFor_of_name (by decide)) rfl (Nat.le_of_ble_eq_true rfl) ?_
  intro p e s m below meth c ls Q hQ hx hb hml hr hts hown hlocks hK hA hZ hP hD hS hl
  have hl : lv_has ls 1 [(0, .ref a_sp)] := hl
  have hown : s.vm.findClass RX6 = some m.cls := hown
  have hinX2 : ∀ w ∈ wsX20, w ∈ wsX6_zone := fun _ h => List.mem_cons_of_mem _ (inWX20 _ h)
  have hinX6 : ∀ w ∈ wsX60, w ∈ wsX6_zone := fun _ h => List.mem_cons_of_mem _ (inWX60 _ h)
  have w_1 := hts (Cond.fieldLink RX6 40 "SheetNames$Spot" "cap" "Z") (List.mem_cons_of_mem _ t_w806)
  have w_2 := hts (Cond.fieldLink RX6 34 "SheetNames$Spot" "place" "I") (List.mem_cons_of_mem _ t_w803)
  have w_3 := hts (Cond.fieldLink RX6 44 "SheetNames$Spot" "grid" "LSheetNames$Grid;") (List.mem_cons_of_mem _ t_w801)
  have w_4 := hts (Cond.fieldLink RX6 25 "SheetNames$Spot" "level" "I") (List.mem_cons_of_mem _ t_w802)
  have wn_58 : (Cond.fieldLinkNest "SheetNames$Spot" 67 "SheetNames$Grid" "zoneColumns" "[I" "SheetNames").before ([.ref a_sp] : List Value).toArray s = true := (hZ.2.2.2.2.2.2.2.2.2.1 _ (List.mem_of_getElem? (i := 58) rfl)).use rfl
  unfold f_Spot_zone at hf
  have hgo : ∀ (H : Heap) (locs : List Loc), H = s.heap → va_P D vwCl ((a_sp, .inr (6, [.ref a_g, .ref a_sp_first, .ref a_sp_many, .ref a_sp_corner, .int sp_cornerCount, .int sp_level, .int sp_row, .int sp_start, .int sp_place, .int sp_length, .int sp_cap])) :: (a_g, .inr (2, [.ref a_g_rowCuts, .ref a_g_columnCuts, .ref a_g_bandRows, .ref a_g_zoneColumns, .ref a_g_rows, .ref a_g_sheets])) :: (a_g_zoneColumns, .inl (ci 0, 5, .inl g_zoneColumns)) :: Rw) H → va_S A s.heap H locs → W p l e ({ frames := 0, cells := 0, slots := 0, locals := 0 } : Room) s m ([.ref a_sp] : List Value).toArray below meth c H locs 0 0 Q (F0 m 0 ls []) := by
    intro H locs hH hP hS
    subst hH
    refine lv_aload_n (pc := 0) hx hb dX6_zone_0 rfl (lv_at hl 0 rfl) ?_
    refine va_get (pc := 1) (D := D) (ci := 6) (v := .int sp_cap) (C := RX6) (T := TX6) (N := 11) hx hb hts hinX6 hown hK hP 0 rfl rfl 10 (by decide) w_1 (fun _ h9 => h9) rfl dX6_zone_1 ?_
    refine q_if_eq (pc := 4) (tgt := 11) hx hb dX6_zone_4 (by decide) rfl hf (fun hf => ?_) (fun hf => ?_)
    · refine lv_aload_n (pc := 11) hx hb dX6_zone_11 rfl (lv_at hl 0 rfl) ?_
      refine va_get (pc := 12) (D := D) (ci := 6) (v := .int sp_place) (C := RX6) (T := TX6) (N := 11) hx hb hts hinX6 hown hK hP 0 rfl rfl 8 (by decide) w_2 (fun _ h9 => h9) rfl dX6_zone_12 ?_
      refine lv_aload_n (pc := 15) hx hb dX6_zone_15 rfl (lv_at hl 0 rfl) ?_
      refine va_get (pc := 16) (D := D) (ci := 6) (v := .ref a_g) (C := RX6) (T := TX6) (N := 11) hx hb hts hinX6 hown hK hP 0 rfl rfl 0 (by decide) w_3 (fun _ h9 => h9) rfl dX6_zone_16 ?_
      refine va_getN (pc := 19) (D := D) (ci := 2) (v := .ref a_g_zoneColumns) (C := RX2) (T := TX2) (N := 6) hx hb hts hinX2 hown hK hP 1 rfl rfl 3 (by decide) wn_58 (fun _ h9 => h9) rfl dX6_zone_19 ?_
      refine lv_aload_n (pc := 22) hx hb dX6_zone_22 rfl (lv_at hl 0 rfl) ?_
      refine va_get (pc := 23) (D := D) (ci := 6) (v := .int sp_level) (C := RX6) (T := TX6) (N := 11) hx hb hts hinX6 hown hK hP 0 rfl rfl 5 (by decide) w_4 (fun _ h9 => h9) rfl dX6_zone_23 ?_
      refine q_iald (pc := 26) hx hb hK hP 2 0 hf rfl rfl dX6_zone_26 (fun v1 hf => ?_)
      refine q_idiv (pc := 27) hx hb dX6_zone_27 hf (fun v2 hf => ?_)
      obtain rfl := Option.some.inj hf
      rw [hQ]
      exact q_iretr (pc := 28) hx hb hr hlocks rfl hS dX6_zone_28
    · refine lv_iconst (pc := 7) (v := 0) hx hb dX6_zone_7 (by decide) ?_
      refine lv_goto (pc := 8) (tgt := 28) hx hb dX6_zone_8 (by decide) ?_
      obtain rfl := Option.some.inj hf
      rw [hQ]
      exact q_iretr (pc := 28) hx hb hr hlocks rfl hS dX6_zone_28
  exact hgo _ _ rfl hP hS
/-! X6_numberOf -/
set_option maxRecDepth 100000 in
set_option maxHeartbeats 4000000 in
theorem c_Spot_numberOf (l : Launch) (D : va_G) (ci : Nat → ClassId) (A : Nat → Prop) (sa : Nat → Nat) (N : Nat) (Rw : va_W) (a_sp : Nat) (a_g : Nat) (a_sp_first : Nat) (a_sp_many : Nat) (a_sp_corner : Nat) (a_g_rowCuts : Nat) (a_g_columnCuts : Nat) (a_g_bandRows : Nat) (a_g_zoneColumns : Nat) (a_g_rows : Nat) (a_g_sheets : Nat) (sp_cornerCount : Int32) (sp_level : Int32) (sp_row : Int32) (sp_start : Int32) (sp_place : Int32) (sp_length : Int32) (sp_cap : Int32) (g_rowCuts : Nat → Int32) (g_columnCuts : Nat → Int32) (g_bandRows : Nat → Int32) (g_zoneColumns : Nat → Int32) (p1 : Int32) (r : Int32) (hf : f_Spot_numberOf sp_level sp_row sp_place sp_cap g_rowCuts g_columnCuts g_bandRows g_zoneColumns p1 = some r) : Met l yX6_numberOf wsX6_numberOf ({ frames := 1, cells := 0, slots := 0, locals := 22 }) (va_Pc [.ref a_sp, .int p1] (q_N D ci A sa ((a_sp, .inr (6, [.ref a_g, .ref a_sp_first, .ref a_sp_many, .ref a_sp_corner, .int sp_cornerCount, .int sp_level, .int sp_row, .int sp_start, .int sp_place, .int sp_length, .int sp_cap])) :: (a_g, .inr (2, [.ref a_g_rowCuts, .ref a_g_columnCuts, .ref a_g_bandRows, .ref a_g_zoneColumns, .ref a_g_rows, .ref a_g_sheets])) :: (a_g_rowCuts, .inl (ci 0, 5, .inl g_rowCuts)) :: (a_g_columnCuts, .inl (ci 0, 5, .inl g_columnCuts)) :: (a_g_bandRows, .inl (ci 0, 5, .inl g_bandRows)) :: (a_g_zoneColumns, .inl (ci 0, 5, .inl g_zoneColumns)) :: Rw))) (q_R (some (.int r))) 0 0 A := by
  refine q_ofW (cc := cX6_numberOf) (maxL := 4) (ret := (some .int)) [.ref a_sp, .int p1] (plainFor_of_name (by decide)) rfl (Nat.le_of_ble_eq_true rfl) ?_
  intro p e s m below meth c ls Q hQ hx hb hml hr hts hown hlocks hK hA hZ hP hD hS hl
  have hl : lv_has ls 4 [(0, .ref a_sp), (1, .int p1)] := hl
  have hown : s.vm.findClass RX6 = some m.cls := hown
  have hinX2 : ∀ w ∈ wsX20, w ∈ wsX6_numberOf := fun _ h => List.mem_cons_of_mem _ (inWX20 _ h)
  have hinX6 : ∀ w ∈ wsX60, w ∈ wsX6_numberOf := fun _ h => List.mem_cons_of_mem _ (inWX60 _ h)
  have w_1 := hts (Cond.fieldLink RX6 40 "SheetNames$Spot" "cap" "Z") (List.mem_cons_of_mem _ t_w806)
  have w_2 := hts (Cond.fieldLink RX6 28 "SheetNames$Spot" "row" "I") (List.mem_cons_of_mem _ t_w807)
  have w_3 := hts (Cond.fieldLink RX6 44 "SheetNames$Spot" "grid" "LSheetNames$Grid;") (List.mem_cons_of_mem _ t_w801)
  have w_4 := hts (Cond.fieldLink RX6 25 "SheetNames$Spot" "level" "I") (List.mem_cons_of_mem _ t_w802)
  have w_5 := hts (Cond.fieldLink RX6 34 "SheetNames$Spot" "place" "I") (List.mem_cons_of_mem _ t_w803)
  have wn_59 : (Cond.fieldLinkNest "SheetNames$Spot" 77 "SheetNames$Grid" "rowCuts" "[I" "SheetNames").before ([.ref a_sp, .int p1] : List Value).toArray s = true := (hZ.2.2.2.2.2.2.2.2.2.1 _ (List.mem_of_getElem? (i := 59) rfl)).use rfl
  have wn_60 : (Cond.fieldLinkNest "SheetNames$Spot" 83 "SheetNames$Grid" "columnCuts" "[I" "SheetNames").before ([.ref a_sp, .int p1] : List Value).toArray s = true := (hZ.2.2.2.2.2.2.2.2.2.1 _ (List.mem_of_getElem? (i := 60) rfl)).use rfl
  unfold f_Spot_numberOf at hf
  have hgo : ∀ (H : Heap) (locs : List Loc), H = s.heap → va_P D vwCl ((a_sp, .inr (6, [.ref a_g, .ref a_sp_first, .ref a_sp_many, .ref a_sp_corner, .int sp_cornerCount, .int sp_level, .int sp_row, .int sp_start, .int sp_place, .int sp_length, .int sp_cap])) :: (a_g, .inr (2, [.ref a_g_rowCuts, .ref a_g_columnCuts, .ref a_g_bandRows, .ref a_g_zoneColumns, .ref a_g_rows, .ref a_g_sheets])) :: (a_g_rowCuts, .inl (ci 0, 5, .inl g_rowCuts)) :: (a_g_columnCuts, .inl (ci 0, 5, .inl g_columnCuts)) :: (a_g_bandRows, .inl (ci 0, 5, .inl g_bandRows)) :: (a_g_zoneColumns, .inl (ci 0, 5, .inl g_zoneColumns)) :: Rw) H → va_S A s.heap H locs → W p l e ({ frames := 1, cells := 0, slots := 0, locals := 22 } : Room) s m ([.ref a_sp, .int p1] : List Value).toArray below meth c H locs 0 0 Q (F0 m 0 ls []) := by
    intro H locs hH hP hS
    subst hH
    refine lv_aload_n (pc := 0) hx hb dX6_numberOf_0 rfl (lv_at hl 0 rfl) ?_
    refine va_get (pc := 1) (D := D) (ci := 6) (v := .int sp_cap) (C := RX6) (T := TX6) (N := 11) hx hb hts hinX6 hown hK hP 0 rfl rfl 10 (by decide) w_1 (fun _ h9 => h9) rfl dX6_numberOf_1 ?_
    refine q_if_eq (pc := 4) (tgt := 9) hx hb dX6_numberOf_4 (by decide) rfl hf (fun hf => ?_) (fun hf => ?_)
    · refine lv_iload_n (pc := 9) hx hb dX6_numberOf_9 rfl (lv_at hl 1 rfl) ?_
      refine q_if_ne (pc := 10) (tgt := 20) hx hb dX6_numberOf_10 (by decide) rfl hf (fun hf => ?_) (fun hf => ?_)
      · refine lv_aload_n (pc := 20) hx hb dX6_numberOf_20 rfl (lv_at hl 0 rfl) ?_
        refine va_get (pc := 21) (D := D) (ci := 6) (v := .int sp_row) (C := RX6) (T := TX6) (N := 11) hx hb hts hinX6 hown hK hP 0 rfl rfl 6 (by decide) w_2 (fun _ h9 => h9) rfl dX6_numberOf_21 ?_
        refine lv_iconst (pc := 24) (v := 1) hx hb dX6_numberOf_24 (by decide) ?_
        refine lv_isub (pc := 25) hx hb dX6_numberOf_25 ?_
        refine lv_aload_n (pc := 26) hx hb dX6_numberOf_26 rfl (lv_at hl 0 rfl) ?_
        refine va_get (pc := 27) (D := D) (ci := 6) (v := .ref a_g) (C := RX6) (T := TX6) (N := 11) hx hb hts hinX6 hown hK hP 0 rfl rfl 0 (by decide) w_3 (fun _ h9 => h9) rfl dX6_numberOf_27 ?_
        refine lv_iload_n (pc := 30) hx hb dX6_numberOf_30 rfl (lv_at hl 1 rfl) ?_
        refine lv_aload_n (pc := 31) hx hb dX6_numberOf_31 rfl (lv_at hl 0 rfl) ?_
        refine va_get (pc := 32) (D := D) (ci := 6) (v := .int sp_level) (C := RX6) (T := TX6) (N := 11) hx hb hts hinX6 hown hK hP 0 rfl rfl 5 (by decide) w_4 (fun _ h9 => h9) rfl dX6_numberOf_32 ?_
        obtain ⟨v1, hm35, hf⟩ := q_b1_e hf
        refine q_cVr (pc := 35) (As := [.int p1, .int sp_level]) (rest := [.int (sp_row - 1)]) (v0 := (some (.int v1))) ⟨hx, hb, hml, hown, hts⟩ hK hA hZ hP hD hS hl.1 [1, 4] 6 rfl ⟨rfl, rfl, rfl⟩ (c_Grid_rowsIn l D ci A sa N (Rw) a_g a_g_rowCuts a_g_columnCuts a_g_bandRows a_g_zoneColumns a_g_rows a_g_sheets g_bandRows p1 sp_level v1 hm35) 1 rfl rfl (cwV 2 hts gX6_numberOf_X2_rowsIn rfl rfl rfl (by decide +kernel) ⟨Nat.le_of_ble_eq_true rfl, Nat.le_of_ble_eq_true rfl⟩) rfl rfl (Nat.le_of_ble_eq_true rfl) dX6_numberOf_35 ⟨Nat.zero_le _, Nat.zero_le _⟩ (fun locs hS => ?_)
        refine q_idiv (pc := 38) hx hb dX6_numberOf_38 hf (fun v2 hf => ?_)
        refine lv_aload_n (pc := 39) hx hb dX6_numberOf_39 rfl (lv_at hl 0 rfl) ?_
        refine va_get (pc := 40) (D := D) (ci := 6) (v := .ref a_g) (C := RX6) (T := TX6) (N := 11) hx hb hts hinX6 hown hK hP 0 rfl rfl 0 (by decide) w_3 (fun _ h9 => h9) rfl dX6_numberOf_40 ?_
        refine va_getN (pc := 43) (D := D) (ci := 2) (v := .ref a_g_rowCuts) (C := RX2) (T := TX2) (N := 6) hx hb hts hinX2 hown hK hP 1 rfl rfl 0 (by decide) wn_59 (fun _ h9 => h9) rfl dX6_numberOf_43 ?_
        refine lv_iload_n (pc := 46) hx hb dX6_numberOf_46 rfl (lv_at hl 1 rfl) ?_
        refine q_iald (pc := 47) hx hb hK hP 2 0 hf rfl rfl dX6_numberOf_47 (fun v3 hf => ?_)
        refine q_irem (pc := 48) hx hb dX6_numberOf_48 hf (fun v4 hf => ?_)
        refine lv_istore_n (pc := 49) (lv' := [(2, .int v4), (0, .ref a_sp), (1, .int p1)]) hx hb dX6_numberOf_49 rfl hl (by decide) rfl (fun ls hl => ?_)
        refine lv_aload_n (pc := 50) hx hb dX6_numberOf_50 rfl (lv_at hl 1 rfl) ?_
        refine va_get (pc := 51) (D := D) (ci := 6) (v := .int sp_place) (C := RX6) (T := TX6) (N := 11) hx hb hts hinX6 hown hK hP 0 rfl rfl 8 (by decide) w_5 (fun _ h9 => h9) rfl dX6_numberOf_51 ?_
        refine lv_aload_n (pc := 54) hx hb dX6_numberOf_54 rfl (lv_at hl 1 rfl) ?_
        refine va_get (pc := 55) (D := D) (ci := 6) (v := .ref a_g) (C := RX6) (T := TX6) (N := 11) hx hb hts hinX6 hown hK hP 0 rfl rfl 0 (by decide) w_3 (fun _ h9 => h9) rfl dX6_numberOf_55 ?_
        refine lv_iload_n (pc := 58) hx hb dX6_numberOf_58 rfl (lv_at hl 2 rfl) ?_
        refine lv_aload_n (pc := 59) hx hb dX6_numberOf_59 rfl (lv_at hl 1 rfl) ?_
        refine va_get (pc := 60) (D := D) (ci := 6) (v := .int sp_level) (C := RX6) (T := TX6) (N := 11) hx hb hts hinX6 hown hK hP 0 rfl rfl 5 (by decide) w_4 (fun _ h9 => h9) rfl dX6_numberOf_60 ?_
        obtain ⟨v5, hm63, hf⟩ := q_b1_e hf
        refine q_cVr (pc := 63) (As := [.int p1, .int sp_level]) (rest := [.int sp_place]) (v0 := (some (.int v5))) ⟨hx, hb, hml, hown, hts⟩ hK hA hZ hP hD hS hl.1 [1, 5] 6 rfl ⟨rfl, rfl, rfl⟩ (c_Grid_columnsIn l D ci A sa N (Rw) a_g a_g_rowCuts a_g_columnCuts a_g_bandRows a_g_zoneColumns a_g_rows a_g_sheets g_zoneColumns p1 sp_level v5 hm63) 1 rfl rfl (cwV 2 hts gX6_numberOf_X2_columnsIn rfl rfl rfl (by decide +kernel) ⟨Nat.le_of_ble_eq_true rfl, Nat.le_of_ble_eq_true rfl⟩) rfl rfl (Nat.le_of_ble_eq_true rfl) dX6_numberOf_63 ⟨Nat.zero_le _, Nat.zero_le _⟩ (fun locs hS => ?_)
        refine q_idiv (pc := 66) hx hb dX6_numberOf_66 hf (fun v6 hf => ?_)
        refine lv_aload_n (pc := 67) hx hb dX6_numberOf_67 rfl (lv_at hl 1 rfl) ?_
        refine va_get (pc := 68) (D := D) (ci := 6) (v := .ref a_g) (C := RX6) (T := TX6) (N := 11) hx hb hts hinX6 hown hK hP 0 rfl rfl 0 (by decide) w_3 (fun _ h9 => h9) rfl dX6_numberOf_68 ?_
        refine va_getN (pc := 71) (D := D) (ci := 2) (v := .ref a_g_columnCuts) (C := RX2) (T := TX2) (N := 6) hx hb hts hinX2 hown hK hP 1 rfl rfl 1 (by decide) wn_60 (fun _ h9 => h9) rfl dX6_numberOf_71 ?_
        refine lv_iload_n (pc := 74) hx hb dX6_numberOf_74 rfl (lv_at hl 2 rfl) ?_
        refine q_iald (pc := 75) hx hb hK hP 3 0 hf rfl rfl dX6_numberOf_75 (fun v7 hf => ?_)
        refine q_irem (pc := 76) hx hb dX6_numberOf_76 hf (fun v8 hf => ?_)
        refine lv_istore_n (pc := 77) (lv' := [(3, .int v8), (2, .int v4), (0, .ref a_sp), (1, .int p1)]) hx hb dX6_numberOf_77 rfl hl (by decide) rfl (fun ls hl => ?_)
        refine lv_iload_n (pc := 78) hx hb dX6_numberOf_78 rfl (lv_at hl 1 rfl) ?_
        refine lv_aload_n (pc := 79) hx hb dX6_numberOf_79 rfl (lv_at hl 2 rfl) ?_
        refine va_get (pc := 80) (D := D) (ci := 6) (v := .ref a_g) (C := RX6) (T := TX6) (N := 11) hx hb hts hinX6 hown hK hP 0 rfl rfl 0 (by decide) w_3 (fun _ h9 => h9) rfl dX6_numberOf_80 ?_
        refine va_getN (pc := 83) (D := D) (ci := 2) (v := .ref a_g_columnCuts) (C := RX2) (T := TX2) (N := 6) hx hb hts hinX2 hown hK hP 1 rfl rfl 1 (by decide) wn_60 (fun _ h9 => h9) rfl dX6_numberOf_83 ?_
        refine lv_iload_n (pc := 86) hx hb dX6_numberOf_86 rfl (lv_at hl 3 rfl) ?_
        refine q_iald (pc := 87) hx hb hK hP 3 0 hf rfl rfl dX6_numberOf_87 (fun v9 hf => ?_)
        refine lv_imul (pc := 88) hx hb dX6_numberOf_88 ?_
        refine lv_iload_n (pc := 89) hx hb dX6_numberOf_89 rfl (lv_at hl 0 rfl) ?_
        refine lv_iadd (pc := 90) hx hb dX6_numberOf_90 ?_
        refine lv_iconst (pc := 91) (v := 1) hx hb dX6_numberOf_91 (by decide) ?_
        refine lv_iadd (pc := 92) hx hb dX6_numberOf_92 ?_
        obtain rfl := Option.some.inj hf
        rw [hQ]
        exact q_iretr (pc := 93) hx hb hr hlocks rfl hS dX6_numberOf_93
      · refine lv_aload_n (pc := 13) hx hb dX6_numberOf_13 rfl (lv_at hl 0 rfl) ?_
        obtain ⟨v10, hm14, hf⟩ := q_b1_e hf
        refine q_cVr (pc := 14) (As := []) (rest := []) (v0 := (some (.int v10))) ⟨hx, hb, hml, hown, hts⟩ hK hA hZ hP hD hS hl.1 [0, 1, 5] 6 rfl ⟨rfl, rfl, rfl⟩ (c_Spot_zone l D ci A sa N (Rw) a_sp a_g a_sp_first a_sp_many a_sp_corner a_g_rowCuts a_g_columnCuts a_g_bandRows a_g_zoneColumns a_g_rows a_g_sheets sp_cornerCount sp_level sp_row sp_start sp_place sp_length sp_cap g_zoneColumns v10 hm14) 0 rfl rfl (cwV 0 hts gX6_numberOf_X6_zone rfl rfl rfl (by decide +kernel) ⟨Nat.le_of_ble_eq_true rfl, Nat.le_of_ble_eq_true rfl⟩) rfl rfl (Nat.le_of_ble_eq_true rfl) dX6_numberOf_14 ⟨Nat.zero_le _, Nat.zero_le _⟩ (fun locs hS => ?_)
        refine lv_iconst (pc := 17) (v := 1) hx hb dX6_numberOf_17 (by decide) ?_
        refine lv_iadd (pc := 18) hx hb dX6_numberOf_18 ?_
        obtain rfl := Option.some.inj hf
        rw [hQ]
        exact q_iretr (pc := 19) hx hb hr hlocks rfl hS dX6_numberOf_19
    · refine lv_iconst (pc := 7) (v := 0) hx hb dX6_numberOf_7 (by decide) ?_
      obtain rfl := Option.some.inj hf
      rw [hQ]
      exact q_iretr (pc := 8) hx hb hr hlocks rfl hS dX6_numberOf_8
  exact hgo _ _ rfl hP hS
/-! X6_pieceAt -/
set_option maxRecDepth 100000 in
set_option maxHeartbeats 4000000 in
theorem c_Spot_pieceAt (l : Launch) (D : va_G) (ci : Nat → ClassId) (A : Nat → Prop) (sa : Nat → Nat) (N : Nat) (Rw : va_W) (a_sp : Nat) (a_g : Nat) (a_sp_first : Nat) (a_sp_many : Nat) (a_sp_corner : Nat) (a_g_rowCuts : Nat) (a_g_columnCuts : Nat) (a_g_bandRows : Nat) (a_g_zoneColumns : Nat) (a_g_rows : Nat) (a_g_sheets : Nat) (sp_cornerCount : Int32) (sp_level : Int32) (sp_row : Int32) (sp_start : Int32) (sp_place : Int32) (sp_length : Int32) (sp_cap : Int32) (g_bandRows : Nat → Int32) (g_zoneColumns : Nat → Int32) (g_rows : Nat → Int32) (g_sheets : Nat → Int32) (p1 : Int32) (p2 : Int32) (r : Int32) (hf : f_Spot_pieceAt sp_level sp_row sp_place sp_cap g_bandRows g_zoneColumns g_rows g_sheets p1 p2 = some r) : Met l yX6_pieceAt wsX6_pieceAt ({ frames := 1, cells := 0, slots := 0, locals := 25 }) (va_Pc [.ref a_sp, .int p1, .int p2] (q_N D ci A sa ((a_sp, .inr (6, [.ref a_g, .ref a_sp_first, .ref a_sp_many, .ref a_sp_corner, .int sp_cornerCount, .int sp_level, .int sp_row, .int sp_start, .int sp_place, .int sp_length, .int sp_cap])) :: (a_g, .inr (2, [.ref a_g_rowCuts, .ref a_g_columnCuts, .ref a_g_bandRows, .ref a_g_zoneColumns, .ref a_g_rows, .ref a_g_sheets])) :: (a_g_bandRows, .inl (ci 0, 5, .inl g_bandRows)) :: (a_g_zoneColumns, .inl (ci 0, 5, .inl g_zoneColumns)) :: (a_g_rows, .inl (ci 0, 5, .inl g_rows)) :: (a_g_sheets, .inl (ci 0, 5, .inl g_sheets)) :: Rw))) (q_R (some (.int r))) 0 0 A := by
  refine q_ofW (cc := cX6_pieceAt) (maxL := 5) (ret := (some .int)) [.ref a_sp, .int p1, .int p2] (plainFor_of_name (by decide)) rfl (Nat.le_of_ble_eq_true rfl) ?_
  intro p e s m below meth c ls Q hQ hx hb hml hr hts hown hlocks hK hA hZ hP hD hS hl
  have hl : lv_has ls 5 [(0, .ref a_sp), (1, .int p1), (2, .int p2)] := hl
  have hown : s.vm.findClass RX6 = some m.cls := hown
  have hinX2 : ∀ w ∈ wsX20, w ∈ wsX6_pieceAt := fun _ h => List.mem_cons_of_mem _ (inWX20 _ h)
  have hinX6 : ∀ w ∈ wsX60, w ∈ wsX6_pieceAt := fun _ h => List.mem_cons_of_mem _ (inWX60 _ h)
  have w_1 := hts (Cond.fieldLink RX6 40 "SheetNames$Spot" "cap" "Z") (List.mem_cons_of_mem _ t_w806)
  have w_2 := hts (Cond.fieldLink RX6 28 "SheetNames$Spot" "row" "I") (List.mem_cons_of_mem _ t_w807)
  have w_3 := hts (Cond.fieldLink RX6 44 "SheetNames$Spot" "grid" "LSheetNames$Grid;") (List.mem_cons_of_mem _ t_w801)
  have w_4 := hts (Cond.fieldLink RX6 25 "SheetNames$Spot" "level" "I") (List.mem_cons_of_mem _ t_w802)
  have w_5 := hts (Cond.fieldLink RX6 34 "SheetNames$Spot" "place" "I") (List.mem_cons_of_mem _ t_w803)
  have wn_55 : (Cond.fieldLinkNest "SheetNames$Spot" 110 "SheetNames$Grid" "sheets" "[I" "SheetNames").before ([.ref a_sp, .int p1, .int p2] : List Value).toArray s = true := (hZ.2.2.2.2.2.2.2.2.2.1 _ (List.mem_of_getElem? (i := 55) rfl)).use rfl
  unfold f_Spot_pieceAt at hf
  have hgo : ∀ (H : Heap) (locs : List Loc), H = s.heap → va_P D vwCl ((a_sp, .inr (6, [.ref a_g, .ref a_sp_first, .ref a_sp_many, .ref a_sp_corner, .int sp_cornerCount, .int sp_level, .int sp_row, .int sp_start, .int sp_place, .int sp_length, .int sp_cap])) :: (a_g, .inr (2, [.ref a_g_rowCuts, .ref a_g_columnCuts, .ref a_g_bandRows, .ref a_g_zoneColumns, .ref a_g_rows, .ref a_g_sheets])) :: (a_g_bandRows, .inl (ci 0, 5, .inl g_bandRows)) :: (a_g_zoneColumns, .inl (ci 0, 5, .inl g_zoneColumns)) :: (a_g_rows, .inl (ci 0, 5, .inl g_rows)) :: (a_g_sheets, .inl (ci 0, 5, .inl g_sheets)) :: Rw) H → va_S A s.heap H locs → W p l e ({ frames := 1, cells := 0, slots := 0, locals := 25 } : Room) s m ([.ref a_sp, .int p1, .int p2] : List Value).toArray below meth c H locs 0 0 Q (F0 m 0 ls []) := by
    intro H locs hH hP hS
    subst hH
    refine lv_aload_n (pc := 0) hx hb dX6_pieceAt_0 rfl (lv_at hl 0 rfl) ?_
    refine va_get (pc := 1) (D := D) (ci := 6) (v := .int sp_cap) (C := RX6) (T := TX6) (N := 11) hx hb hts hinX6 hown hK hP 0 rfl rfl 10 (by decide) w_1 (fun _ h9 => h9) rfl dX6_pieceAt_1 ?_
    refine q_if_eq (pc := 4) (tgt := 30) hx hb dX6_pieceAt_4 (by decide) rfl hf (fun hf => ?_) (fun hf => ?_)
    · refine lv_aload_n (pc := 30) hx hb dX6_pieceAt_30 rfl (lv_at hl 0 rfl) ?_
      refine va_get (pc := 31) (D := D) (ci := 6) (v := .ref a_g) (C := RX6) (T := TX6) (N := 11) hx hb hts hinX6 hown hK hP 0 rfl rfl 0 (by decide) w_3 (fun _ h9 => h9) rfl dX6_pieceAt_31 ?_
      refine lv_aload_n (pc := 34) hx hb dX6_pieceAt_34 rfl (lv_at hl 0 rfl) ?_
      refine va_get (pc := 35) (D := D) (ci := 6) (v := .int sp_level) (C := RX6) (T := TX6) (N := 11) hx hb hts hinX6 hown hK hP 0 rfl rfl 5 (by decide) w_4 (fun _ h9 => h9) rfl dX6_pieceAt_35 ?_
      refine lv_iload_n (pc := 38) hx hb dX6_pieceAt_38 rfl (lv_at hl 1 rfl) ?_
      obtain ⟨v1, hm39, hf⟩ := q_b1_e hf
      refine q_cVr (pc := 39) (As := [.int sp_level, .int p1]) (rest := []) (v0 := (some (.int v1))) ⟨hx, hb, hml, hown, hts⟩ hK hA hZ hP hD hS hl.1 [1, 3] 6 rfl ⟨rfl, rfl, rfl⟩ (c_Grid_columnsIn l D ci A sa N (Rw) a_g a_g_rowCuts a_g_columnCuts a_g_bandRows a_g_zoneColumns a_g_rows a_g_sheets g_zoneColumns sp_level p1 v1 hm39) 1 rfl rfl (cwV 2 hts gX6_pieceAt_X2_columnsIn rfl rfl rfl (by decide +kernel) ⟨Nat.le_of_ble_eq_true rfl, Nat.le_of_ble_eq_true rfl⟩) rfl rfl (Nat.le_of_ble_eq_true rfl) dX6_pieceAt_39 ⟨Nat.zero_le _, Nat.zero_le _⟩ (fun locs hS => ?_)
      refine lv_istore_n (pc := 42) (lv' := [(3, .int v1), (0, .ref a_sp), (1, .int p1), (2, .int p2)]) hx hb dX6_pieceAt_42 rfl hl (by decide) rfl (fun ls hl => ?_)
      refine lv_aload_n (pc := 43) hx hb dX6_pieceAt_43 rfl (lv_at hl 1 rfl) ?_
      refine va_get (pc := 44) (D := D) (ci := 6) (v := .int sp_row) (C := RX6) (T := TX6) (N := 11) hx hb hts hinX6 hown hK hP 0 rfl rfl 6 (by decide) w_2 (fun _ h9 => h9) rfl dX6_pieceAt_44 ?_
      refine lv_iconst (pc := 47) (v := 1) hx hb dX6_pieceAt_47 (by decide) ?_
      refine lv_isub (pc := 48) hx hb dX6_pieceAt_48 ?_
      refine lv_aload_n (pc := 49) hx hb dX6_pieceAt_49 rfl (lv_at hl 1 rfl) ?_
      refine va_get (pc := 50) (D := D) (ci := 6) (v := .ref a_g) (C := RX6) (T := TX6) (N := 11) hx hb hts hinX6 hown hK hP 0 rfl rfl 0 (by decide) w_3 (fun _ h9 => h9) rfl dX6_pieceAt_50 ?_
      refine lv_aload_n (pc := 53) hx hb dX6_pieceAt_53 rfl (lv_at hl 1 rfl) ?_
      refine va_get (pc := 54) (D := D) (ci := 6) (v := .int sp_level) (C := RX6) (T := TX6) (N := 11) hx hb hts hinX6 hown hK hP 0 rfl rfl 5 (by decide) w_4 (fun _ h9 => h9) rfl dX6_pieceAt_54 ?_
      refine lv_iload_n (pc := 57) hx hb dX6_pieceAt_57 rfl (lv_at hl 2 rfl) ?_
      obtain ⟨v2, hm58, hf⟩ := q_b1_e hf
      refine q_cVr (pc := 58) (As := [.int sp_level, .int p1]) (rest := [.int (sp_row - 1)]) (v0 := (some (.int v2))) ⟨hx, hb, hml, hown, hts⟩ hK hA hZ hP hD hS hl.1 [1, 2] 6 rfl ⟨rfl, rfl, rfl⟩ (c_Grid_rowsIn l D ci A sa N (Rw) a_g a_g_rowCuts a_g_columnCuts a_g_bandRows a_g_zoneColumns a_g_rows a_g_sheets g_bandRows sp_level p1 v2 hm58) 1 rfl rfl (cwV 2 hts gX6_pieceAt_X2_rowsIn rfl rfl rfl (by decide +kernel) ⟨Nat.le_of_ble_eq_true rfl, Nat.le_of_ble_eq_true rfl⟩) rfl rfl (Nat.le_of_ble_eq_true rfl) dX6_pieceAt_58 ⟨Nat.zero_le _, Nat.zero_le _⟩ (fun locs hS => ?_)
      refine lv_imul (pc := 61) hx hb dX6_pieceAt_61 ?_
      refine lv_iload_n (pc := 62) hx hb dX6_pieceAt_62 rfl (lv_at hl 3 rfl) ?_
      refine lv_iload_n (pc := 63) hx hb dX6_pieceAt_63 rfl (lv_at hl 0 rfl) ?_
      refine q_idiv (pc := 64) hx hb dX6_pieceAt_64 hf (fun v3 hf => ?_)
      refine lv_iadd (pc := 65) hx hb dX6_pieceAt_65 ?_
      refine lv_iconst (pc := 66) (v := 1) hx hb dX6_pieceAt_66 (by decide) ?_
      refine lv_iadd (pc := 67) hx hb dX6_pieceAt_67 ?_
      obtain ⟨v4, ev4, hf⟩ := q_nm_e hf
      refine q_topi ev4 ?_
      refine lv_istore (pc := 68) (lv' := [(4, .int v4), (3, .int v1), (0, .ref a_sp), (1, .int p1), (2, .int p2)]) hx hb dX6_pieceAt_68 hl (by decide) rfl (fun ls hl => ?_)
      refine lv_aload_n (pc := 70) hx hb dX6_pieceAt_70 rfl (lv_at hl 2 rfl) ?_
      refine va_get (pc := 71) (D := D) (ci := 6) (v := .ref a_g) (C := RX6) (T := TX6) (N := 11) hx hb hts hinX6 hown hK hP 0 rfl rfl 0 (by decide) w_3 (fun _ h9 => h9) rfl dX6_pieceAt_71 ?_
      refine lv_iload_n (pc := 74) hx hb dX6_pieceAt_74 rfl (lv_at hl 3 rfl) ?_
      refine lv_iload (pc := 75) hx hb dX6_pieceAt_75 (lv_at hl 0 rfl) ?_
      obtain ⟨v5, hm77, hf⟩ := q_b1_e hf
      refine q_cVr (pc := 77) (As := [.int p1, .int v4]) (rest := []) (v0 := (some (.int v5))) ⟨hx, hb, hml, hown, hts⟩ hK hA hZ hP hD hS hl.1 [1, 2, 3, 4, 5] 6 rfl ⟨rfl, rfl, rfl⟩ (c_Grid_rowStart l D ci A sa N (Rw) a_g a_g_rowCuts a_g_columnCuts a_g_bandRows a_g_zoneColumns a_g_rows a_g_sheets g_bandRows g_zoneColumns g_rows g_sheets p1 v4 v5 hm77) 1 rfl rfl (cwV 2 hts gX6_pieceAt_X2_rowStart rfl rfl rfl (by decide +kernel) ⟨Nat.le_of_ble_eq_true rfl, Nat.le_of_ble_eq_true rfl⟩) rfl rfl (Nat.le_of_ble_eq_true rfl) dX6_pieceAt_77 ⟨Nat.zero_le _, Nat.zero_le _⟩ (fun locs hS => ?_)
      refine lv_aload_n (pc := 80) hx hb dX6_pieceAt_80 rfl (lv_at hl 2 rfl) ?_
      refine va_get (pc := 81) (D := D) (ci := 6) (v := .int sp_place) (C := RX6) (T := TX6) (N := 11) hx hb hts hinX6 hown hK hP 0 rfl rfl 8 (by decide) w_5 (fun _ h9 => h9) rfl dX6_pieceAt_81 ?_
      refine lv_iload_n (pc := 84) hx hb dX6_pieceAt_84 rfl (lv_at hl 1 rfl) ?_
      refine lv_imul (pc := 85) hx hb dX6_pieceAt_85 ?_
      refine lv_iadd (pc := 86) hx hb dX6_pieceAt_86 ?_
      refine lv_iload_n (pc := 87) hx hb dX6_pieceAt_87 rfl (lv_at hl 4 rfl) ?_
      refine lv_iload_n (pc := 88) hx hb dX6_pieceAt_88 rfl (lv_at hl 1 rfl) ?_
      refine q_irem (pc := 89) hx hb dX6_pieceAt_89 hf (fun v6 hf => ?_)
      refine lv_iadd (pc := 90) hx hb dX6_pieceAt_90 ?_
      obtain rfl := Option.some.inj hf
      rw [hQ]
      exact q_iretr (pc := 91) hx hb hr hlocks rfl hS dX6_pieceAt_91
    · refine lv_aload_n (pc := 7) hx hb dX6_pieceAt_7 rfl (lv_at hl 0 rfl) ?_
      refine va_get (pc := 8) (D := D) (ci := 6) (v := .int sp_row) (C := RX6) (T := TX6) (N := 11) hx hb hts hinX6 hown hK hP 0 rfl rfl 6 (by decide) w_2 (fun _ h9 => h9) rfl dX6_pieceAt_8 ?_
      refine q_if_ne (pc := 11) (tgt := 18) hx hb dX6_pieceAt_11 (by decide) rfl hf (fun hf => ?_) (fun hf => ?_)
      · refine lv_aload_n (pc := 18) hx hb dX6_pieceAt_18 rfl (lv_at hl 0 rfl) ?_
        refine va_get (pc := 19) (D := D) (ci := 6) (v := .ref a_g) (C := RX6) (T := TX6) (N := 11) hx hb hts hinX6 hown hK hP 0 rfl rfl 0 (by decide) w_3 (fun _ h9 => h9) rfl dX6_pieceAt_19 ?_
        refine va_getN (pc := 22) (D := D) (ci := 2) (v := .ref a_g_sheets) (C := RX2) (T := TX2) (N := 6) hx hb hts hinX2 hown hK hP 1 rfl rfl 5 (by decide) wn_55 (fun _ h9 => h9) rfl dX6_pieceAt_22 ?_
        refine lv_iload_n (pc := 25) hx hb dX6_pieceAt_25 rfl (lv_at hl 1 rfl) ?_
        refine q_iald (pc := 26) hx hb hK hP 5 0 hf rfl rfl dX6_pieceAt_26 (fun v7 hf => ?_)
        refine lv_iconst (pc := 27) (v := 1) hx hb dX6_pieceAt_27 (by decide) ?_
        refine lv_isub (pc := 28) hx hb dX6_pieceAt_28 ?_
        obtain rfl := Option.some.inj hf
        rw [hQ]
        exact q_iretr (pc := 29) hx hb hr hlocks rfl hS dX6_pieceAt_29
      · refine lv_iconst (pc := 14) (v := 0) hx hb dX6_pieceAt_14 (by decide) ?_
        refine lv_goto (pc := 15) (tgt := 29) hx hb dX6_pieceAt_15 (by decide) ?_
        obtain rfl := Option.some.inj hf
        rw [hQ]
        exact q_iretr (pc := 29) hx hb hr hlocks rfl hS dX6_pieceAt_29
  exact hgo _ _ rfl hP hS
/-! X6_piecesAt -/
set_option maxRecDepth 100000 in
set_option maxHeartbeats 4000000 in
theorem c_Spot_piecesAt (l : Launch) (D : va_G) (ci : Nat → ClassId) (A : Nat → Prop) (sa : Nat → Nat) (N : Nat) (Rw : va_W) (a_sp : Nat) (a_g : Nat) (a_sp_first : Nat) (a_sp_many : Nat) (a_sp_corner : Nat) (a_g_rowCuts : Nat) (a_g_columnCuts : Nat) (a_g_bandRows : Nat) (a_g_zoneColumns : Nat) (a_g_rows : Nat) (a_g_sheets : Nat) (sp_cornerCount : Int32) (sp_level : Int32) (sp_row : Int32) (sp_start : Int32) (sp_place : Int32) (sp_length : Int32) (sp_cap : Int32) (g_bandRows : Nat → Int32) (g_zoneColumns : Nat → Int32) (p1 : Int32) (r : Int32) (hf : f_Spot_piecesAt sp_level sp_cap g_bandRows g_zoneColumns p1 = some r) : Met l yX6_piecesAt wsX6_piecesAt ({ frames := 1, cells := 0, slots := 0, locals := 22 }) (va_Pc [.ref a_sp, .int p1] (q_N D ci A sa ((a_sp, .inr (6, [.ref a_g, .ref a_sp_first, .ref a_sp_many, .ref a_sp_corner, .int sp_cornerCount, .int sp_level, .int sp_row, .int sp_start, .int sp_place, .int sp_length, .int sp_cap])) :: (a_g, .inr (2, [.ref a_g_rowCuts, .ref a_g_columnCuts, .ref a_g_bandRows, .ref a_g_zoneColumns, .ref a_g_rows, .ref a_g_sheets])) :: (a_g_bandRows, .inl (ci 0, 5, .inl g_bandRows)) :: (a_g_zoneColumns, .inl (ci 0, 5, .inl g_zoneColumns)) :: Rw))) (q_R (some (.int r))) 0 0 A := by
  refine q_ofW (cc := cX6_piecesAt) (maxL := 2) (ret := (some .int)) [.ref a_sp, .int p1] (plainFor_of_name (by decide)) rfl (Nat.le_of_ble_eq_true rfl) ?_
  intro p e s m below meth c ls Q hQ hx hb hml hr hts hown hlocks hK hA hZ hP hD hS hl
  have hl : lv_has ls 2 [(0, .ref a_sp), (1, .int p1)] := hl
  have hown : s.vm.findClass RX6 = some m.cls := hown
  have hinX6 : ∀ w ∈ wsX60, w ∈ wsX6_piecesAt := fun _ h => List.mem_cons_of_mem _ (inWX60 _ h)
  have w_1 := hts (Cond.fieldLink RX6 40 "SheetNames$Spot" "cap" "Z") (List.mem_cons_of_mem _ t_w806)
  have w_2 := hts (Cond.fieldLink RX6 44 "SheetNames$Spot" "grid" "LSheetNames$Grid;") (List.mem_cons_of_mem _ t_w801)
  have w_3 := hts (Cond.fieldLink RX6 25 "SheetNames$Spot" "level" "I") (List.mem_cons_of_mem _ t_w802)
  unfold f_Spot_piecesAt at hf
  have hgo : ∀ (H : Heap) (locs : List Loc), H = s.heap → va_P D vwCl ((a_sp, .inr (6, [.ref a_g, .ref a_sp_first, .ref a_sp_many, .ref a_sp_corner, .int sp_cornerCount, .int sp_level, .int sp_row, .int sp_start, .int sp_place, .int sp_length, .int sp_cap])) :: (a_g, .inr (2, [.ref a_g_rowCuts, .ref a_g_columnCuts, .ref a_g_bandRows, .ref a_g_zoneColumns, .ref a_g_rows, .ref a_g_sheets])) :: (a_g_bandRows, .inl (ci 0, 5, .inl g_bandRows)) :: (a_g_zoneColumns, .inl (ci 0, 5, .inl g_zoneColumns)) :: Rw) H → va_S A s.heap H locs → W p l e ({ frames := 1, cells := 0, slots := 0, locals := 22 } : Room) s m ([.ref a_sp, .int p1] : List Value).toArray below meth c H locs 0 0 Q (F0 m 0 ls []) := by
    intro H locs hH hP hS
    subst hH
    refine lv_aload_n (pc := 0) hx hb dX6_piecesAt_0 rfl (lv_at hl 0 rfl) ?_
    refine va_get (pc := 1) (D := D) (ci := 6) (v := .int sp_cap) (C := RX6) (T := TX6) (N := 11) hx hb hts hinX6 hown hK hP 0 rfl rfl 10 (by decide) w_1 (fun _ h9 => h9) rfl dX6_piecesAt_1 ?_
    refine q_if_eq (pc := 4) (tgt := 11) hx hb dX6_piecesAt_4 (by decide) rfl hf (fun hf => ?_) (fun hf => ?_)
    · refine lv_aload_n (pc := 11) hx hb dX6_piecesAt_11 rfl (lv_at hl 0 rfl) ?_
      refine va_get (pc := 12) (D := D) (ci := 6) (v := .ref a_g) (C := RX6) (T := TX6) (N := 11) hx hb hts hinX6 hown hK hP 0 rfl rfl 0 (by decide) w_2 (fun _ h9 => h9) rfl dX6_piecesAt_12 ?_
      refine lv_aload_n (pc := 15) hx hb dX6_piecesAt_15 rfl (lv_at hl 0 rfl) ?_
      refine va_get (pc := 16) (D := D) (ci := 6) (v := .int sp_level) (C := RX6) (T := TX6) (N := 11) hx hb hts hinX6 hown hK hP 0 rfl rfl 5 (by decide) w_3 (fun _ h9 => h9) rfl dX6_piecesAt_16 ?_
      refine lv_iload_n (pc := 19) hx hb dX6_piecesAt_19 rfl (lv_at hl 1 rfl) ?_
      obtain ⟨v1, hm20, hf⟩ := q_b1_e hf
      refine q_cVr (pc := 20) (As := [.int sp_level, .int p1]) (rest := []) (v0 := (some (.int v1))) ⟨hx, hb, hml, hown, hts⟩ hK hA hZ hP hD hS hl.1 [1, 2] 4 rfl ⟨rfl, rfl, rfl⟩ (c_Grid_rowsIn l D ci A sa N (Rw) a_g a_g_rowCuts a_g_columnCuts a_g_bandRows a_g_zoneColumns a_g_rows a_g_sheets g_bandRows sp_level p1 v1 hm20) 1 rfl rfl (cwV 2 hts gX6_piecesAt_X2_rowsIn rfl rfl rfl (by decide +kernel) ⟨Nat.le_of_ble_eq_true rfl, Nat.le_of_ble_eq_true rfl⟩) rfl rfl (Nat.le_of_ble_eq_true rfl) dX6_piecesAt_20 ⟨Nat.zero_le _, Nat.zero_le _⟩ (fun locs hS => ?_)
      refine lv_aload_n (pc := 23) hx hb dX6_piecesAt_23 rfl (lv_at hl 0 rfl) ?_
      refine va_get (pc := 24) (D := D) (ci := 6) (v := .ref a_g) (C := RX6) (T := TX6) (N := 11) hx hb hts hinX6 hown hK hP 0 rfl rfl 0 (by decide) w_2 (fun _ h9 => h9) rfl dX6_piecesAt_24 ?_
      refine lv_aload_n (pc := 27) hx hb dX6_piecesAt_27 rfl (lv_at hl 0 rfl) ?_
      refine va_get (pc := 28) (D := D) (ci := 6) (v := .int sp_level) (C := RX6) (T := TX6) (N := 11) hx hb hts hinX6 hown hK hP 0 rfl rfl 5 (by decide) w_3 (fun _ h9 => h9) rfl dX6_piecesAt_28 ?_
      refine lv_iload_n (pc := 31) hx hb dX6_piecesAt_31 rfl (lv_at hl 1 rfl) ?_
      obtain ⟨v2, hm32, hf⟩ := q_b1_e hf
      refine q_cVr (pc := 32) (As := [.int sp_level, .int p1]) (rest := [.int v1]) (v0 := (some (.int v2))) ⟨hx, hb, hml, hown, hts⟩ hK hA hZ hP hD hS hl.1 [1, 3] 4 rfl ⟨rfl, rfl, rfl⟩ (c_Grid_columnsIn l D ci A sa N (Rw) a_g a_g_rowCuts a_g_columnCuts a_g_bandRows a_g_zoneColumns a_g_rows a_g_sheets g_zoneColumns sp_level p1 v2 hm32) 1 rfl rfl (cwV 2 hts gX6_piecesAt_X2_columnsIn rfl rfl rfl (by decide +kernel) ⟨Nat.le_of_ble_eq_true rfl, Nat.le_of_ble_eq_true rfl⟩) rfl rfl (Nat.le_of_ble_eq_true rfl) dX6_piecesAt_32 ⟨Nat.zero_le _, Nat.zero_le _⟩ (fun locs hS => ?_)
      refine lv_imul (pc := 35) hx hb dX6_piecesAt_35 ?_
      obtain rfl := Option.some.inj hf
      rw [hQ]
      exact q_iretr (pc := 36) hx hb hr hlocks rfl hS dX6_piecesAt_36
    · refine lv_iconst (pc := 7) (v := 1) hx hb dX6_piecesAt_7 (by decide) ?_
      refine lv_goto (pc := 8) (tgt := 36) hx hb dX6_piecesAt_8 (by decide) ?_
      obtain rfl := Option.some.inj hf
      rw [hQ]
      exact q_iretr (pc := 36) hx hb hr hlocks rfl hS dX6_piecesAt_36
  exact hgo _ _ rfl hP hS
/-! X6_put -/
set_option maxRecDepth 100000 in
set_option maxHeartbeats 4000000 in
theorem c_Spot_put (l : Launch) (D : va_G) (ci : Nat → ClassId) (A : Nat → Prop) (sa : Nat → Nat) (N : Nat) (Rw : va_W) (a_sp : Nat) (a_g : Nat) (a_sp_first : Nat) (a_sp_many : Nat) (a_sp_corner : Nat) (a_g_rowCuts : Nat) (a_g_columnCuts : Nat) (a_g_bandRows : Nat) (a_g_zoneColumns : Nat) (a_g_rows : Nat) (a_g_sheets : Nat) (sp_cornerCount : Int32) (sp_level : Int32) (sp_row : Int32) (sp_start : Int32) (sp_place : Int32) (sp_length : Int32) (sp_cap : Int32) (g_bandRows : Nat → Int32) (g_zoneColumns : Nat → Int32) (g_rows : Nat → Int32) (g_sheets : Nat → Int32) (p1 : Int32) (p2 : Int32) (o1 : Int32) (o2 : Int32) (o3 : Int32) (o4 : Int32) (o5 : Int32) (o6 : Int32) (hf : f_Spot_put N sp_level sp_row sp_start sp_place sp_length sp_cap g_bandRows g_zoneColumns g_rows g_sheets p1 p2 = some (o1, o2, o3, o4, o5, o6)) : Met l yX6_put wsX6_put ({ frames := 2, cells := 0, slots := 0, locals := 49 }) (va_Pc [.ref a_sp, .int p1, .int p2] (q_N D ci A sa ((a_sp, .inr (6, [.ref a_g, .ref a_sp_first, .ref a_sp_many, .ref a_sp_corner, .int sp_cornerCount, .int sp_level, .int sp_row, .int sp_start, .int sp_place, .int sp_length, .int sp_cap])) :: (a_g, .inr (2, [.ref a_g_rowCuts, .ref a_g_columnCuts, .ref a_g_bandRows, .ref a_g_zoneColumns, .ref a_g_rows, .ref a_g_sheets])) :: (a_g_bandRows, .inl (ci 0, 5, .inl g_bandRows)) :: (a_g_zoneColumns, .inl (ci 0, 5, .inl g_zoneColumns)) :: (a_g_rows, .inl (ci 0, 5, .inl g_rows)) :: (a_g_sheets, .inl (ci 0, 5, .inl g_sheets)) :: Rw))) (q_Q none (q_O D A ((a_sp, .inr (6, [.ref a_g, .ref a_sp_first, .ref a_sp_many, .ref a_sp_corner, .int sp_cornerCount, .int o1, .int o2, .int o3, .int o4, .int o5, .int o6])) :: (a_g, .inr (2, [.ref a_g_rowCuts, .ref a_g_columnCuts, .ref a_g_bandRows, .ref a_g_zoneColumns, .ref a_g_rows, .ref a_g_sheets])) :: (a_g_bandRows, .inl (ci 0, 5, .inl g_bandRows)) :: (a_g_zoneColumns, .inl (ci 0, 5, .inl g_zoneColumns)) :: (a_g_rows, .inl (ci 0, 5, .inl g_rows)) :: (a_g_sheets, .inl (ci 0, 5, .inl g_sheets)) :: Rw)) A) 0 0 A := by
  refine q_ofW (cc := cX6_put) (maxL := 3) (ret := none) [.ref a_sp, .int p1, .int p2] (plainFor_of_name (by decide)) rfl (Nat.le_of_ble_eq_true rfl) ?_
  intro p e s m below meth c ls Q hQ hx hb hml hr hts hown hlocks hK hA hZ hP hD hS hl
  have hl : lv_has ls 3 [(0, .ref a_sp), (1, .int p1), (2, .int p2)] := hl
  have hown : s.vm.findClass RX6 = some m.cls := hown
  have hinX6 : ∀ w ∈ wsX60, w ∈ wsX6_put := fun _ h => List.mem_cons_of_mem _ (inWX60 _ h)
  have w_1 := hts (Cond.fieldLink RX6 25 "SheetNames$Spot" "level" "I") (List.mem_cons_of_mem _ t_w802)
  have w_2 := hts (Cond.fieldLink RX6 44 "SheetNames$Spot" "grid" "LSheetNames$Grid;") (List.mem_cons_of_mem _ t_w801)
  have w_3 := hts (Cond.fieldLink RX6 28 "SheetNames$Spot" "row" "I") (List.mem_cons_of_mem _ t_w807)
  have w_4 := hts (Cond.fieldLink RX6 31 "SheetNames$Spot" "start" "I") (List.mem_cons_of_mem _ t_w821)
  have w_5 := hts (Cond.fieldLink RX6 37 "SheetNames$Spot" "length" "I") (List.mem_cons_of_mem _ t_w804)
  have w_6 := hts (Cond.fieldLink RX6 34 "SheetNames$Spot" "place" "I") (List.mem_cons_of_mem _ t_w803)
  have w_7 := hts (Cond.fieldLink RX6 40 "SheetNames$Spot" "cap" "Z") (List.mem_cons_of_mem _ t_w806)
  unfold f_Spot_put at hf
  have hgo : ∀ (H : Heap) (locs : List Loc), H = s.heap → va_P D vwCl ((a_sp, .inr (6, [.ref a_g, .ref a_sp_first, .ref a_sp_many, .ref a_sp_corner, .int sp_cornerCount, .int sp_level, .int sp_row, .int sp_start, .int sp_place, .int sp_length, .int sp_cap])) :: (a_g, .inr (2, [.ref a_g_rowCuts, .ref a_g_columnCuts, .ref a_g_bandRows, .ref a_g_zoneColumns, .ref a_g_rows, .ref a_g_sheets])) :: (a_g_bandRows, .inl (ci 0, 5, .inl g_bandRows)) :: (a_g_zoneColumns, .inl (ci 0, 5, .inl g_zoneColumns)) :: (a_g_rows, .inl (ci 0, 5, .inl g_rows)) :: (a_g_sheets, .inl (ci 0, 5, .inl g_sheets)) :: Rw) H → va_S A s.heap H locs → W p l e ({ frames := 2, cells := 0, slots := 0, locals := 49 } : Room) s m ([.ref a_sp, .int p1, .int p2] : List Value).toArray below meth c H locs 0 0 Q (F0 m 0 ls []) := by
    intro H locs hH hP hS
    refine lv_aload_n (pc := 0) hx hb dX6_put_0 rfl (lv_at hl 0 rfl) ?_
    refine lv_iload_n (pc := 1) hx hb dX6_put_1 rfl (lv_at hl 1 rfl) ?_
    refine va_put (pc := 2) (D := D) (ci := 6) (v := .int p1) (ty := .int) (C := RX6) (T := TX6) (N := 11) hx hb hts hinX6 tyX6 tyX6_ok nmX6 hown hK hP hD hS 0 rfl rfl 5 (by decide) w_1 (fun _ h9 => h9) rfl (by decide +kernel) rfl rfl (Nat.le_of_ble_eq_true rfl) dX6_put_2 (fun H locs hP hD hS => ?_)
    obtain ⟨hP, hD⟩ : va_PD D A ((a_sp, .inr (6, [.ref a_g, .ref a_sp_first, .ref a_sp_many, .ref a_sp_corner, .int sp_cornerCount, .int p1, .int sp_row, .int sp_start, .int sp_place, .int sp_length, .int sp_cap])) :: (a_g, .inr (2, [.ref a_g_rowCuts, .ref a_g_columnCuts, .ref a_g_bandRows, .ref a_g_zoneColumns, .ref a_g_rows, .ref a_g_sheets])) :: (a_g_bandRows, .inl (ci 0, 5, .inl g_bandRows)) :: (a_g_zoneColumns, .inl (ci 0, 5, .inl g_zoneColumns)) :: (a_g_rows, .inl (ci 0, 5, .inl g_rows)) :: (a_g_sheets, .inl (ci 0, 5, .inl g_sheets)) :: Rw) H := ⟨hP, hD⟩
    refine lv_aload_n (pc := 5) hx hb dX6_put_5 rfl (lv_at hl 0 rfl) ?_
    refine lv_aload_n (pc := 6) hx hb dX6_put_6 rfl (lv_at hl 0 rfl) ?_
    refine va_get (pc := 7) (D := D) (ci := 6) (v := .ref a_g) (C := RX6) (T := TX6) (N := 11) hx hb hts hinX6 hown hK hP 0 rfl rfl 0 (by decide) w_2 (fun _ h9 => h9) rfl dX6_put_7 ?_
    refine lv_aload_n (pc := 10) hx hb dX6_put_10 rfl (lv_at hl 0 rfl) ?_
    refine va_get (pc := 11) (D := D) (ci := 6) (v := .int p1) (C := RX6) (T := TX6) (N := 11) hx hb hts hinX6 hown hK hP 0 rfl rfl 5 (by decide) w_1 (fun _ h9 => h9) rfl dX6_put_11 ?_
    refine lv_iload_n (pc := 14) hx hb dX6_put_14 rfl (lv_at hl 2 rfl) ?_
    obtain ⟨v1, hm15, hf⟩ := q_b1_e hf
    refine q_cVr (pc := 15) (As := [.int p1, .int p2]) (rest := [.ref a_sp]) (v0 := (some (.int v1))) ⟨hx, hb, hml, hown, hts⟩ hK hA hZ hP hD hS hl.1 [1, 2, 3, 4, 5] 6 rfl ⟨rfl, rfl, rfl⟩ (c_Grid_rowOfKey l D ci A sa N (Rw) a_g a_g_rowCuts a_g_columnCuts a_g_bandRows a_g_zoneColumns a_g_rows a_g_sheets g_bandRows g_zoneColumns g_rows g_sheets p1 p2 v1 hm15) 1 rfl rfl (cwV 2 hts gX6_put_X2_rowOfKey rfl rfl rfl (by decide +kernel) ⟨Nat.le_of_ble_eq_true rfl, Nat.le_of_ble_eq_true rfl⟩) rfl rfl (Nat.le_of_ble_eq_true rfl) dX6_put_15 ⟨Nat.zero_le _, Nat.zero_le _⟩ (fun locs hS => ?_)
    refine va_put (pc := 18) (D := D) (ci := 6) (v := .int v1) (ty := .int) (C := RX6) (T := TX6) (N := 11) hx hb hts hinX6 tyX6 tyX6_ok nmX6 hown hK hP hD hS 0 rfl rfl 6 (by decide) w_3 (fun _ h9 => h9) rfl (by decide +kernel) rfl rfl (Nat.le_of_ble_eq_true rfl) dX6_put_18 (fun H locs hP hD hS => ?_)
    obtain ⟨hP, hD⟩ : va_PD D A ((a_sp, .inr (6, [.ref a_g, .ref a_sp_first, .ref a_sp_many, .ref a_sp_corner, .int sp_cornerCount, .int p1, .int v1, .int sp_start, .int sp_place, .int sp_length, .int sp_cap])) :: (a_g, .inr (2, [.ref a_g_rowCuts, .ref a_g_columnCuts, .ref a_g_bandRows, .ref a_g_zoneColumns, .ref a_g_rows, .ref a_g_sheets])) :: (a_g_bandRows, .inl (ci 0, 5, .inl g_bandRows)) :: (a_g_zoneColumns, .inl (ci 0, 5, .inl g_zoneColumns)) :: (a_g_rows, .inl (ci 0, 5, .inl g_rows)) :: (a_g_sheets, .inl (ci 0, 5, .inl g_sheets)) :: Rw) H := ⟨hP, hD⟩
    refine lv_aload_n (pc := 21) hx hb dX6_put_21 rfl (lv_at hl 0 rfl) ?_
    refine lv_aload_n (pc := 22) hx hb dX6_put_22 rfl (lv_at hl 0 rfl) ?_
    refine va_get (pc := 23) (D := D) (ci := 6) (v := .ref a_g) (C := RX6) (T := TX6) (N := 11) hx hb hts hinX6 hown hK hP 0 rfl rfl 0 (by decide) w_2 (fun _ h9 => h9) rfl dX6_put_23 ?_
    refine lv_aload_n (pc := 26) hx hb dX6_put_26 rfl (lv_at hl 0 rfl) ?_
    refine va_get (pc := 27) (D := D) (ci := 6) (v := .int p1) (C := RX6) (T := TX6) (N := 11) hx hb hts hinX6 hown hK hP 0 rfl rfl 5 (by decide) w_1 (fun _ h9 => h9) rfl dX6_put_27 ?_
    refine lv_aload_n (pc := 30) hx hb dX6_put_30 rfl (lv_at hl 0 rfl) ?_
    refine va_get (pc := 31) (D := D) (ci := 6) (v := .int v1) (C := RX6) (T := TX6) (N := 11) hx hb hts hinX6 hown hK hP 0 rfl rfl 6 (by decide) w_3 (fun _ h9 => h9) rfl dX6_put_31 ?_
    obtain ⟨v2, hm34, hf⟩ := q_b1_e hf
    refine q_cVr (pc := 34) (As := [.int p1, .int v1]) (rest := [.ref a_sp]) (v0 := (some (.int v2))) ⟨hx, hb, hml, hown, hts⟩ hK hA hZ hP hD hS hl.1 [1, 2, 3, 4, 5] 6 rfl ⟨rfl, rfl, rfl⟩ (c_Grid_rowStart l D ci A sa N (Rw) a_g a_g_rowCuts a_g_columnCuts a_g_bandRows a_g_zoneColumns a_g_rows a_g_sheets g_bandRows g_zoneColumns g_rows g_sheets p1 v1 v2 hm34) 1 rfl rfl (cwV 2 hts gX6_put_X2_rowStart rfl rfl rfl (by decide +kernel) ⟨Nat.le_of_ble_eq_true rfl, Nat.le_of_ble_eq_true rfl⟩) rfl rfl (Nat.le_of_ble_eq_true rfl) dX6_put_34 ⟨Nat.zero_le _, Nat.zero_le _⟩ (fun locs hS => ?_)
    refine va_put (pc := 37) (D := D) (ci := 6) (v := .int v2) (ty := .int) (C := RX6) (T := TX6) (N := 11) hx hb hts hinX6 tyX6 tyX6_ok nmX6 hown hK hP hD hS 0 rfl rfl 7 (by decide) w_4 (fun _ h9 => h9) rfl (by decide +kernel) rfl rfl (Nat.le_of_ble_eq_true rfl) dX6_put_37 (fun H locs hP hD hS => ?_)
    obtain ⟨hP, hD⟩ : va_PD D A ((a_sp, .inr (6, [.ref a_g, .ref a_sp_first, .ref a_sp_many, .ref a_sp_corner, .int sp_cornerCount, .int p1, .int v1, .int v2, .int sp_place, .int sp_length, .int sp_cap])) :: (a_g, .inr (2, [.ref a_g_rowCuts, .ref a_g_columnCuts, .ref a_g_bandRows, .ref a_g_zoneColumns, .ref a_g_rows, .ref a_g_sheets])) :: (a_g_bandRows, .inl (ci 0, 5, .inl g_bandRows)) :: (a_g_zoneColumns, .inl (ci 0, 5, .inl g_zoneColumns)) :: (a_g_rows, .inl (ci 0, 5, .inl g_rows)) :: (a_g_sheets, .inl (ci 0, 5, .inl g_sheets)) :: Rw) H := ⟨hP, hD⟩
    refine lv_aload_n (pc := 40) hx hb dX6_put_40 rfl (lv_at hl 0 rfl) ?_
    refine lv_aload_n (pc := 41) hx hb dX6_put_41 rfl (lv_at hl 0 rfl) ?_
    refine va_get (pc := 42) (D := D) (ci := 6) (v := .ref a_g) (C := RX6) (T := TX6) (N := 11) hx hb hts hinX6 hown hK hP 0 rfl rfl 0 (by decide) w_2 (fun _ h9 => h9) rfl dX6_put_42 ?_
    refine lv_aload_n (pc := 45) hx hb dX6_put_45 rfl (lv_at hl 0 rfl) ?_
    refine va_get (pc := 46) (D := D) (ci := 6) (v := .int p1) (C := RX6) (T := TX6) (N := 11) hx hb hts hinX6 hown hK hP 0 rfl rfl 5 (by decide) w_1 (fun _ h9 => h9) rfl dX6_put_46 ?_
    refine lv_aload_n (pc := 49) hx hb dX6_put_49 rfl (lv_at hl 0 rfl) ?_
    refine va_get (pc := 50) (D := D) (ci := 6) (v := .int v1) (C := RX6) (T := TX6) (N := 11) hx hb hts hinX6 hown hK hP 0 rfl rfl 6 (by decide) w_3 (fun _ h9 => h9) rfl dX6_put_50 ?_
    obtain ⟨v3, hm53, hf⟩ := q_b1_e hf
    refine q_cVr (pc := 53) (As := [.int p1, .int v1]) (rest := [.ref a_sp]) (v0 := (some (.int v3))) ⟨hx, hb, hml, hown, hts⟩ hK hA hZ hP hD hS hl.1 [1, 2, 3, 4] 6 rfl ⟨rfl, rfl, rfl⟩ (c_Grid_rowLength l D ci A sa N (Rw) a_g a_g_rowCuts a_g_columnCuts a_g_bandRows a_g_zoneColumns a_g_rows a_g_sheets g_bandRows g_zoneColumns g_rows p1 v1 v3 hm53) 1 rfl rfl (cwV 2 hts gX6_put_X2_rowLength rfl rfl rfl (by decide +kernel) ⟨Nat.le_of_ble_eq_true rfl, Nat.le_of_ble_eq_true rfl⟩) rfl rfl (Nat.le_of_ble_eq_true rfl) dX6_put_53 ⟨Nat.zero_le _, Nat.zero_le _⟩ (fun locs hS => ?_)
    refine va_put (pc := 56) (D := D) (ci := 6) (v := .int v3) (ty := .int) (C := RX6) (T := TX6) (N := 11) hx hb hts hinX6 tyX6 tyX6_ok nmX6 hown hK hP hD hS 0 rfl rfl 9 (by decide) w_5 (fun _ h9 => h9) rfl (by decide +kernel) rfl rfl (Nat.le_of_ble_eq_true rfl) dX6_put_56 (fun H locs hP hD hS => ?_)
    obtain ⟨hP, hD⟩ : va_PD D A ((a_sp, .inr (6, [.ref a_g, .ref a_sp_first, .ref a_sp_many, .ref a_sp_corner, .int sp_cornerCount, .int p1, .int v1, .int v2, .int sp_place, .int v3, .int sp_cap])) :: (a_g, .inr (2, [.ref a_g_rowCuts, .ref a_g_columnCuts, .ref a_g_bandRows, .ref a_g_zoneColumns, .ref a_g_rows, .ref a_g_sheets])) :: (a_g_bandRows, .inl (ci 0, 5, .inl g_bandRows)) :: (a_g_zoneColumns, .inl (ci 0, 5, .inl g_zoneColumns)) :: (a_g_rows, .inl (ci 0, 5, .inl g_rows)) :: (a_g_sheets, .inl (ci 0, 5, .inl g_sheets)) :: Rw) H := ⟨hP, hD⟩
    refine lv_aload_n (pc := 59) hx hb dX6_put_59 rfl (lv_at hl 0 rfl) ?_
    refine lv_iload_n (pc := 60) hx hb dX6_put_60 rfl (lv_at hl 2 rfl) ?_
    refine lv_aload_n (pc := 61) hx hb dX6_put_61 rfl (lv_at hl 0 rfl) ?_
    refine va_get (pc := 62) (D := D) (ci := 6) (v := .int v2) (C := RX6) (T := TX6) (N := 11) hx hb hts hinX6 hown hK hP 0 rfl rfl 7 (by decide) w_4 (fun _ h9 => h9) rfl dX6_put_62 ?_
    refine lv_isub (pc := 65) hx hb dX6_put_65 ?_
    obtain ⟨v4, ev4, hf⟩ := q_nm_e hf
    refine q_topi ev4 ?_
    refine va_put (pc := 66) (D := D) (ci := 6) (v := .int v4) (ty := .int) (C := RX6) (T := TX6) (N := 11) hx hb hts hinX6 tyX6 tyX6_ok nmX6 hown hK hP hD hS 0 rfl rfl 8 (by decide) w_6 (fun _ h9 => h9) rfl (by decide +kernel) rfl rfl (Nat.le_of_ble_eq_true rfl) dX6_put_66 (fun H locs hP hD hS => ?_)
    obtain ⟨hP, hD⟩ : va_PD D A ((a_sp, .inr (6, [.ref a_g, .ref a_sp_first, .ref a_sp_many, .ref a_sp_corner, .int sp_cornerCount, .int p1, .int v1, .int v2, .int v4, .int v3, .int sp_cap])) :: (a_g, .inr (2, [.ref a_g_rowCuts, .ref a_g_columnCuts, .ref a_g_bandRows, .ref a_g_zoneColumns, .ref a_g_rows, .ref a_g_sheets])) :: (a_g_bandRows, .inl (ci 0, 5, .inl g_bandRows)) :: (a_g_zoneColumns, .inl (ci 0, 5, .inl g_zoneColumns)) :: (a_g_rows, .inl (ci 0, 5, .inl g_rows)) :: (a_g_sheets, .inl (ci 0, 5, .inl g_sheets)) :: Rw) H := ⟨hP, hD⟩
    refine lv_aload_n (pc := 69) hx hb dX6_put_69 rfl (lv_at hl 0 rfl) ?_
    refine lv_aload_n (pc := 70) hx hb dX6_put_70 rfl (lv_at hl 0 rfl) ?_
    refine va_get (pc := 71) (D := D) (ci := 6) (v := .ref a_g) (C := RX6) (T := TX6) (N := 11) hx hb hts hinX6 hown hK hP 0 rfl rfl 0 (by decide) w_2 (fun _ h9 => h9) rfl dX6_put_71 ?_
    refine lv_aload_n (pc := 74) hx hb dX6_put_74 rfl (lv_at hl 0 rfl) ?_
    refine va_get (pc := 75) (D := D) (ci := 6) (v := .int p1) (C := RX6) (T := TX6) (N := 11) hx hb hts hinX6 hown hK hP 0 rfl rfl 5 (by decide) w_1 (fun _ h9 => h9) rfl dX6_put_75 ?_
    refine lv_aload_n (pc := 78) hx hb dX6_put_78 rfl (lv_at hl 0 rfl) ?_
    refine va_get (pc := 79) (D := D) (ci := 6) (v := .int v1) (C := RX6) (T := TX6) (N := 11) hx hb hts hinX6 hown hK hP 0 rfl rfl 6 (by decide) w_3 (fun _ h9 => h9) rfl dX6_put_79 ?_
    obtain ⟨v5, hm82, hf⟩ := q_b1_e hf
    refine q_cVr (pc := 82) (As := [.int p1, .int v1]) (rest := [.ref a_sp]) (v0 := (some (.int v5))) ⟨hx, hb, hml, hown, hts⟩ hK hA hZ hP hD hS hl.1 [1, 4] 6 rfl ⟨rfl, rfl, rfl⟩ (c_Grid_isCapRow l D ci A sa N (Rw) a_g a_g_rowCuts a_g_columnCuts a_g_bandRows a_g_zoneColumns a_g_rows a_g_sheets g_rows p1 v1 v5 hm82) 1 rfl rfl (cwV 2 hts gX6_put_X2_isCapRow rfl rfl rfl (by decide +kernel) ⟨Nat.le_of_ble_eq_true rfl, Nat.le_of_ble_eq_true rfl⟩) rfl rfl (Nat.le_of_ble_eq_true rfl) dX6_put_82 ⟨Nat.zero_le _, Nat.zero_le _⟩ (fun locs hS => ?_)
    obtain ⟨hn9, hf9, hf⟩ := q_bo_e hf
    refine va_put (pc := 85) (D := D) (ci := 6) (v := .int v5) (ty := .boolean) (C := RX6) (T := TX6) (N := 11) hx hb hts hinX6 tyX6 tyX6_ok nmX6 hown hK hP hD hS 0 rfl rfl 10 (by decide) w_7 (fun _ h9 => h9) rfl (by decide +kernel) hn9 hf9 (Nat.le_of_ble_eq_true rfl) dX6_put_85 (fun H locs hP hD hS => ?_)
    obtain ⟨hP, hD⟩ : va_PD D A ((a_sp, .inr (6, [.ref a_g, .ref a_sp_first, .ref a_sp_many, .ref a_sp_corner, .int sp_cornerCount, .int p1, .int v1, .int v2, .int v4, .int v3, .int v5])) :: (a_g, .inr (2, [.ref a_g_rowCuts, .ref a_g_columnCuts, .ref a_g_bandRows, .ref a_g_zoneColumns, .ref a_g_rows, .ref a_g_sheets])) :: (a_g_bandRows, .inl (ci 0, 5, .inl g_bandRows)) :: (a_g_zoneColumns, .inl (ci 0, 5, .inl g_zoneColumns)) :: (a_g_rows, .inl (ci 0, 5, .inl g_rows)) :: (a_g_sheets, .inl (ci 0, 5, .inl g_sheets)) :: Rw) H := ⟨hP, hD⟩
    obtain ⟨e90, e91, e92, e93, e94, e95⟩ := q_inj6 (Option.some.inj hf)
    rw [hQ, ← e90, ← e91, ← e92, ← e93, ← e94, ← e95]
    exact q_vret (pc := 88) hx hb hr hlocks hP hD hS dX6_put_88
  exact hgo _ _ rfl hP hS
