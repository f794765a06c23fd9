/-! X7_copyFrom -/
set_option maxRecDepth 100000 in
set_option maxHeartbeats 4000000 in
theorem c_Store_copyFrom (l : Launch) (D : va_G) (ci : Nat → ClassId) (A : Nat → Prop) (sa : Nat → Nat) (N : Nat) (Rw : va_W) (a_st : Nat) (a_g : Nat) (a_st_levels : Nat) (a_st_keys : Nat) (a_st_years : Nat) (a_st_keysThere : Nat) (a_st2 : Nat) (a_g2 : Nat) (a_st2_levels : Nat) (a_st2_keys : Nat) (a_st2_years : Nat) (a_st2_keysThere : Nat) (st_size : Int32) (st_shownBy : Int32) (st_deepestShown : Int32) (st_latestShown : Int32) (st_levels : Nat → Int32) (st_keys : Nat → Int32) (st_years : Nat → Int32) (st2_size : Int32) (st2_shownBy : Int32) (st2_deepestShown : Int32) (st2_latestShown : Int32) (st2_levels : Nat → Int32) (st2_keys : Nat → Int32) (st2_years : Nat → Int32) (o1 : Nat → Int32) (o2 : Nat → Int32) (o3 : Nat → Int32) (o4 : Int32) (hf : f_Store_copyFrom st_levels st_keys st_years st_size st2_levels st2_keys st2_years st2_size = some (o1, o2, o3, o4)) : Met l yX7_copyFrom wsX7_copyFrom ({ frames := 1, cells := 0, slots := 0, locals := 40 }) (va_Pc [.ref a_st, .ref a_st2] (q_N D ci A sa ((a_st, .inr (7, [.ref a_g, .ref a_st_levels, .ref a_st_keys, .ref a_st_years, .ref a_st_keysThere, .int st_size, .int st_shownBy, .int st_deepestShown, .int st_latestShown])) :: (a_st_levels, .inl (ci 0, 60, .inl st_levels)) :: (a_st_keys, .inl (ci 0, 60, .inl st_keys)) :: (a_st_years, .inl (ci 0, 60, .inl st_years)) :: (a_st2, .inr (7, [.ref a_g2, .ref a_st2_levels, .ref a_st2_keys, .ref a_st2_years, .ref a_st2_keysThere, .int st2_size, .int st2_shownBy, .int st2_deepestShown, .int st2_latestShown])) :: (a_st2_levels, .inl (ci 0, 60, .inl st2_levels)) :: (a_st2_keys, .inl (ci 0, 60, .inl st2_keys)) :: (a_st2_years, .inl (ci 0, 60, .inl st2_years)) :: Rw))) (q_Q none (q_O D A ((a_st, .inr (7, [.ref a_g, .ref a_st_levels, .ref a_st_keys, .ref a_st_years, .ref a_st_keysThere, .int o4, .int st_shownBy, .int st_deepestShown, .int st_latestShown])) :: (a_st_levels, .inl (ci 0, 60, .inl o1)) :: (a_st_keys, .inl (ci 0, 60, .inl o2)) :: (a_st_years, .inl (ci 0, 60, .inl o3)) :: (a_st2, .inr (7, [.ref a_g2, .ref a_st2_levels, .ref a_st2_keys, .ref a_st2_years, .ref a_st2_keysThere, .int st2_size, .int st2_shownBy, .int st2_deepestShown, .int st2_latestShown])) :: (a_st2_levels, .inl (ci 0, 60, .inl st2_levels)) :: (a_st2_keys, .inl (ci 0, 60, .inl st2_keys)) :: (a_st2_years, .inl (ci 0, 60, .inl st2_years)) :: Rw)) A) 0 0 A := by
  refine q_ofW (cc := cX7_copyFrom) (maxL := 2) (ret := none) [.ref a_st, .ref a_st2] (plainFor_of_name (by decide)) rfl (Nat.le_of_ble_eq_true rfl) ?_
  intro p e s m below meth c ls Q hQ hx hb hml hr hts hown hlocks hK hA hZ hP hD hS hl
  have hl : lv_has ls 2 [(0, .ref a_st), (1, .ref a_st2)] := hl
  have hown : s.vm.findClass RX7 = some m.cls := hown
  have hinX7 : ∀ w ∈ wsX70, w ∈ wsX7_copyFrom := fun _ h => List.mem_cons_of_mem _ (inWX70 _ h)
  have w_1 := hts (Cond.fieldLink RX7 9 "SheetNames$Store" "levels" "[I") (List.mem_cons_of_mem _ t_w859)
  have w_2 := hts (Cond.methodLink RX7 67 arraycopyName) (List.mem_cons_of_mem _ t_w860)
  have w_3 := hts (Cond.native arraycopyName) (List.mem_cons_of_mem _ t_w790)
  have w_4 := hts (Cond.static arraycopyName) (List.mem_cons_of_mem _ t_w791)
  have w_5 := hts (Cond.initialized "java/lang/System") (List.mem_cons_of_mem _ t_w792)
  have w_6 := hts (Cond.fieldLink RX7 15 "SheetNames$Store" "keys" "[I") (List.mem_cons_of_mem _ t_w861)
  have w_7 := hts (Cond.fieldLink RX7 18 "SheetNames$Store" "years" "[I") (List.mem_cons_of_mem _ t_w862)
  have w_8 := hts (Cond.fieldLink RX7 24 "SheetNames$Store" "size" "I") (List.mem_cons_of_mem _ t_w863)
  unfold f_Store_copyFrom at hf
  have hgo : ∀ (H : Heap) (locs : List Loc), H = s.heap → va_P D vwCl ((a_st, .inr (7, [.ref a_g, .ref a_st_levels, .ref a_st_keys, .ref a_st_years, .ref a_st_keysThere, .int st_size, .int st_shownBy, .int st_deepestShown, .int st_latestShown])) :: (a_st_levels, .inl (ci 0, 60, .inl st_levels)) :: (a_st_keys, .inl (ci 0, 60, .inl st_keys)) :: (a_st_years, .inl (ci 0, 60, .inl st_years)) :: (a_st2, .inr (7, [.ref a_g2, .ref a_st2_levels, .ref a_st2_keys, .ref a_st2_years, .ref a_st2_keysThere, .int st2_size, .int st2_shownBy, .int st2_deepestShown, .int st2_latestShown])) :: (a_st2_levels, .inl (ci 0, 60, .inl st2_levels)) :: (a_st2_keys, .inl (ci 0, 60, .inl st2_keys)) :: (a_st2_years, .inl (ci 0, 60, .inl st2_years)) :: Rw) H → va_S A s.heap H locs → W p l e ({ frames := 1, cells := 0, slots := 0, locals := 40 } : Room) s m ([.ref a_st, .ref a_st2] : List Value).toArray below meth c H locs 0 0 Q (F0 m 0 ls []) := by
    intro H locs hH hP hS
    refine lv_aload_n (pc := 0) hx hb dX7_copyFrom_0 rfl (lv_at hl 1 rfl) ?_
    refine va_get (pc := 1) (D := D) (ci := 7) (v := .ref a_st2_levels) (C := RX7) (T := TX7) (N := 9) hx hb hts hinX7 hown hK hP 4 rfl rfl 1 (by decide) w_1 (fun _ h9 => h9) rfl dX7_copyFrom_1 ?_
    refine lv_iconst (pc := 4) (v := 0) hx hb dX7_copyFrom_4 (by decide) ?_
    refine lv_aload_n (pc := 5) hx hb dX7_copyFrom_5 rfl (lv_at hl 0 rfl) ?_
    refine va_get (pc := 6) (D := D) (ci := 7) (v := .ref a_st_levels) (C := RX7) (T := TX7) (N := 9) hx hb hts hinX7 hown hK hP 0 rfl rfl 1 (by decide) w_1 (fun _ h9 => h9) rfl dX7_copyFrom_6 ?_
    refine lv_iconst (pc := 9) (v := 0) hx hb dX7_copyFrom_9 (by decide) ?_
    refine lv_aload_n (pc := 10) hx hb dX7_copyFrom_10 rfl (lv_at hl 0 rfl) ?_
    refine va_get (pc := 11) (D := D) (ci := 7) (v := .ref a_st_levels) (C := RX7) (T := TX7) (N := 9) hx hb hts hinX7 hown hK hP 0 rfl rfl 1 (by decide) w_1 (fun _ h9 => h9) rfl dX7_copyFrom_11 ?_
    refine va_alen (pc := 14) (v := 60) hx hb hK hP 1 0 rfl rfl rfl dX7_copyFrom_14 ?_
    obtain ⟨f1, ef1, hf⟩ := q_nm_e hf
    refine va_copyi (pc := 15) hx hb (hml.trans hl.1.symm) hown w_2 w_3 w_4 w_5 hK hP hD hS 5 1 0 0 rfl rfl rfl rfl rfl (by decide) (by decide) (by decide) (by decide) (by decide) (fun i _ => rfl) (Nat.le_of_ble_eq_true rfl) (by decide) dX7_copyFrom_15 (fun H locs hP hD hS => ?_)
    have ec : va_cpy st2_levels st_levels (0 : Int32).toNatClampNeg (0 : Int32).toNatClampNeg (60 : Int32).toNatClampNeg = f1 := by rw [ef1]; rfl
    have hP : va_P D vwCl ((a_st, .inr (7, [.ref a_g, .ref a_st_levels, .ref a_st_keys, .ref a_st_years, .ref a_st_keysThere, .int st_size, .int st_shownBy, .int st_deepestShown, .int st_latestShown])) :: (a_st_levels, .inl (ci 0, 60, .inl f1)) :: (a_st_keys, .inl (ci 0, 60, .inl st_keys)) :: (a_st_years, .inl (ci 0, 60, .inl st_years)) :: (a_st2, .inr (7, [.ref a_g2, .ref a_st2_levels, .ref a_st2_keys, .ref a_st2_years, .ref a_st2_keysThere, .int st2_size, .int st2_shownBy, .int st2_deepestShown, .int st2_latestShown])) :: (a_st2_levels, .inl (ci 0, 60, .inl st2_levels)) :: (a_st2_keys, .inl (ci 0, 60, .inl st2_keys)) :: (a_st2_years, .inl (ci 0, 60, .inl st2_years)) :: Rw) H := by rw [← ec]; exact hP
    have hD : va_D A ((a_st, .inr (7, [.ref a_g, .ref a_st_levels, .ref a_st_keys, .ref a_st_years, .ref a_st_keysThere, .int st_size, .int st_shownBy, .int st_deepestShown, .int st_latestShown])) :: (a_st_levels, .inl (ci 0, 60, .inl f1)) :: (a_st_keys, .inl (ci 0, 60, .inl st_keys)) :: (a_st_years, .inl (ci 0, 60, .inl st_years)) :: (a_st2, .inr (7, [.ref a_g2, .ref a_st2_levels, .ref a_st2_keys, .ref a_st2_years, .ref a_st2_keysThere, .int st2_size, .int st2_shownBy, .int st2_deepestShown, .int st2_latestShown])) :: (a_st2_levels, .inl (ci 0, 60, .inl st2_levels)) :: (a_st2_keys, .inl (ci 0, 60, .inl st2_keys)) :: (a_st2_years, .inl (ci 0, 60, .inl st2_years)) :: Rw) := by rw [← ec]; exact hD
    refine lv_aload_n (pc := 18) hx hb dX7_copyFrom_18 rfl (lv_at hl 1 rfl) ?_
    refine va_get (pc := 19) (D := D) (ci := 7) (v := .ref a_st2_keys) (C := RX7) (T := TX7) (N := 9) hx hb hts hinX7 hown hK hP 4 rfl rfl 2 (by decide) w_6 (fun _ h9 => h9) rfl dX7_copyFrom_19 ?_
    refine lv_iconst (pc := 22) (v := 0) hx hb dX7_copyFrom_22 (by decide) ?_
    refine lv_aload_n (pc := 23) hx hb dX7_copyFrom_23 rfl (lv_at hl 0 rfl) ?_
    refine va_get (pc := 24) (D := D) (ci := 7) (v := .ref a_st_keys) (C := RX7) (T := TX7) (N := 9) hx hb hts hinX7 hown hK hP 0 rfl rfl 2 (by decide) w_6 (fun _ h9 => h9) rfl dX7_copyFrom_24 ?_
    refine lv_iconst (pc := 27) (v := 0) hx hb dX7_copyFrom_27 (by decide) ?_
    refine lv_aload_n (pc := 28) hx hb dX7_copyFrom_28 rfl (lv_at hl 0 rfl) ?_
    refine va_get (pc := 29) (D := D) (ci := 7) (v := .ref a_st_keys) (C := RX7) (T := TX7) (N := 9) hx hb hts hinX7 hown hK hP 0 rfl rfl 2 (by decide) w_6 (fun _ h9 => h9) rfl dX7_copyFrom_29 ?_
    refine va_alen (pc := 32) (v := 60) hx hb hK hP 2 0 rfl rfl rfl dX7_copyFrom_32 ?_
    obtain ⟨f2, ef2, hf⟩ := q_nm_e hf
    refine va_copyi (pc := 33) hx hb (hml.trans hl.1.symm) hown w_2 w_3 w_4 w_5 hK hP hD hS 6 2 0 0 rfl rfl rfl rfl rfl (by decide) (by decide) (by decide) (by decide) (by decide) (fun i _ => rfl) (Nat.le_of_ble_eq_true rfl) (by decide) dX7_copyFrom_33 (fun H locs hP hD hS => ?_)
    have ec : va_cpy st2_keys st_keys (0 : Int32).toNatClampNeg (0 : Int32).toNatClampNeg (60 : Int32).toNatClampNeg = f2 := by rw [ef2]; rfl
    have hP : va_P D vwCl ((a_st, .inr (7, [.ref a_g, .ref a_st_levels, .ref a_st_keys, .ref a_st_years, .ref a_st_keysThere, .int st_size, .int st_shownBy, .int st_deepestShown, .int st_latestShown])) :: (a_st_levels, .inl (ci 0, 60, .inl f1)) :: (a_st_keys, .inl (ci 0, 60, .inl f2)) :: (a_st_years, .inl (ci 0, 60, .inl st_years)) :: (a_st2, .inr (7, [.ref a_g2, .ref a_st2_levels, .ref a_st2_keys, .ref a_st2_years, .ref a_st2_keysThere, .int st2_size, .int st2_shownBy, .int st2_deepestShown, .int st2_latestShown])) :: (a_st2_levels, .inl (ci 0, 60, .inl st2_levels)) :: (a_st2_keys, .inl (ci 0, 60, .inl st2_keys)) :: (a_st2_years, .inl (ci 0, 60, .inl st2_years)) :: Rw) H := by rw [← ec]; exact hP
    have hD : va_D A ((a_st, .inr (7, [.ref a_g, .ref a_st_levels, .ref a_st_keys, .ref a_st_years, .ref a_st_keysThere, .int st_size, .int st_shownBy, .int st_deepestShown, .int st_latestShown])) :: (a_st_levels, .inl (ci 0, 60, .inl f1)) :: (a_st_keys, .inl (ci 0, 60, .inl f2)) :: (a_st_years, .inl (ci 0, 60, .inl st_years)) :: (a_st2, .inr (7, [.ref a_g2, .ref a_st2_levels, .ref a_st2_keys, .ref a_st2_years, .ref a_st2_keysThere, .int st2_size, .int st2_shownBy, .int st2_deepestShown, .int st2_latestShown])) :: (a_st2_levels, .inl (ci 0, 60, .inl st2_levels)) :: (a_st2_keys, .inl (ci 0, 60, .inl st2_keys)) :: (a_st2_years, .inl (ci 0, 60, .inl st2_years)) :: Rw) := by rw [← ec]; exact hD
    refine lv_aload_n (pc := 36) hx hb dX7_copyFrom_36 rfl (lv_at hl 1 rfl) ?_
    refine va_get (pc := 37) (D := D) (ci := 7) (v := .ref a_st2_years) (C := RX7) (T := TX7) (N := 9) hx hb hts hinX7 hown hK hP 4 rfl rfl 3 (by decide) w_7 (fun _ h9 => h9) rfl dX7_copyFrom_37 ?_
    refine lv_iconst (pc := 40) (v := 0) hx hb dX7_copyFrom_40 (by decide) ?_
    refine lv_aload_n (pc := 41) hx hb dX7_copyFrom_41 rfl (lv_at hl 0 rfl) ?_
    refine va_get (pc := 42) (D := D) (ci := 7) (v := .ref a_st_years) (C := RX7) (T := TX7) (N := 9) hx hb hts hinX7 hown hK hP 0 rfl rfl 3 (by decide) w_7 (fun _ h9 => h9) rfl dX7_copyFrom_42 ?_
    refine lv_iconst (pc := 45) (v := 0) hx hb dX7_copyFrom_45 (by decide) ?_
    refine lv_aload_n (pc := 46) hx hb dX7_copyFrom_46 rfl (lv_at hl 0 rfl) ?_
    refine va_get (pc := 47) (D := D) (ci := 7) (v := .ref a_st_years) (C := RX7) (T := TX7) (N := 9) hx hb hts hinX7 hown hK hP 0 rfl rfl 3 (by decide) w_7 (fun _ h9 => h9) rfl dX7_copyFrom_47 ?_
    refine va_alen (pc := 50) (v := 60) hx hb hK hP 3 0 rfl rfl rfl dX7_copyFrom_50 ?_
    obtain ⟨f3, ef3, hf⟩ := q_nm_e hf
    refine va_copyi (pc := 51) hx hb (hml.trans hl.1.symm) hown w_2 w_3 w_4 w_5 hK hP hD hS 7 3 0 0 rfl rfl rfl rfl rfl (by decide) (by decide) (by decide) (by decide) (by decide) (fun i _ => rfl) (Nat.le_of_ble_eq_true rfl) (by decide) dX7_copyFrom_51 (fun H locs hP hD hS => ?_)
    have ec : va_cpy st2_years st_years (0 : Int32).toNatClampNeg (0 : Int32).toNatClampNeg (60 : Int32).toNatClampNeg = f3 := by rw [ef3]; rfl
    have hP : va_P D vwCl ((a_st, .inr (7, [.ref a_g, .ref a_st_levels, .ref a_st_keys, .ref a_st_years, .ref a_st_keysThere, .int st_size, .int st_shownBy, .int st_deepestShown, .int st_latestShown])) :: (a_st_levels, .inl (ci 0, 60, .inl f1)) :: (a_st_keys, .inl (ci 0, 60, .inl f2)) :: (a_st_years, .inl (ci 0, 60, .inl f3)) :: (a_st2, .inr (7, [.ref a_g2, .ref a_st2_levels, .ref a_st2_keys, .ref a_st2_years, .ref a_st2_keysThere, .int st2_size, .int st2_shownBy, .int st2_deepestShown, .int st2_latestShown])) :: (a_st2_levels, .inl (ci 0, 60, .inl st2_levels)) :: (a_st2_keys, .inl (ci 0, 60, .inl st2_keys)) :: (a_st2_years, .inl (ci 0, 60, .inl st2_years)) :: Rw) H := by rw [← ec]; exact hP
    have hD : va_D A ((a_st, .inr (7, [.ref a_g, .ref a_st_levels, .ref a_st_keys, .ref a_st_years, .ref a_st_keysThere, .int st_size, .int st_shownBy, .int st_deepestShown, .int st_latestShown])) :: (a_st_levels, .inl (ci 0, 60, .inl f1)) :: (a_st_keys, .inl (ci 0, 60, .inl f2)) :: (a_st_years, .inl (ci 0, 60, .inl f3)) :: (a_st2, .inr (7, [.ref a_g2, .ref a_st2_levels, .ref a_st2_keys, .ref a_st2_years, .ref a_st2_keysThere, .int st2_size, .int st2_shownBy, .int st2_deepestShown, .int st2_latestShown])) :: (a_st2_levels, .inl (ci 0, 60, .inl st2_levels)) :: (a_st2_keys, .inl (ci 0, 60, .inl st2_keys)) :: (a_st2_years, .inl (ci 0, 60, .inl st2_years)) :: Rw) := by rw [← ec]; exact hD
    refine lv_aload_n (pc := 54) hx hb dX7_copyFrom_54 rfl (lv_at hl 0 rfl) ?_
    refine lv_aload_n (pc := 55) hx hb dX7_copyFrom_55 rfl (lv_at hl 1 rfl) ?_
    refine va_get (pc := 56) (D := D) (ci := 7) (v := .int st2_size) (C := RX7) (T := TX7) (N := 9) hx hb hts hinX7 hown hK hP 4 rfl rfl 5 (by decide) w_8 (fun _ h9 => h9) rfl dX7_copyFrom_56 ?_
    refine va_put (pc := 59) (D := D) (ci := 7) (v := .int st2_size) (ty := .int) (C := RX7) (T := TX7) (N := 9) hx hb hts hinX7 tyX7 tyX7_ok nmX7 hown hK hP hD hS 0 rfl rfl 5 (by decide) w_8 (fun _ h9 => h9) rfl (by decide +kernel) rfl rfl (Nat.le_of_ble_eq_true rfl) dX7_copyFrom_59 (fun H locs hP hD hS => ?_)
    obtain ⟨hP, hD⟩ : va_PD D A ((a_st, .inr (7, [.ref a_g, .ref a_st_levels, .ref a_st_keys, .ref a_st_years, .ref a_st_keysThere, .int st2_size, .int st_shownBy, .int st_deepestShown, .int st_latestShown])) :: (a_st_levels, .inl (ci 0, 60, .inl f1)) :: (a_st_keys, .inl (ci 0, 60, .inl f2)) :: (a_st_years, .inl (ci 0, 60, .inl f3)) :: (a_st2, .inr (7, [.ref a_g2, .ref a_st2_levels, .ref a_st2_keys, .ref a_st2_years, .ref a_st2_keysThere, .int st2_size, .int st2_shownBy, .int st2_deepestShown, .int st2_latestShown])) :: (a_st2_levels, .inl (ci 0, 60, .inl st2_levels)) :: (a_st2_keys, .inl (ci 0, 60, .inl st2_keys)) :: (a_st2_years, .inl (ci 0, 60, .inl st2_years)) :: Rw) H := ⟨hP, hD⟩
    obtain ⟨e90, e91, e92, e93⟩ := q_inj4 (Option.some.inj hf)
    rw [hQ, ← e90, ← e91, ← e92, ← e93]
    exact q_vret (pc := 62) hx hb hr hlocks hP hD hS dX7_copyFrom_62
  exact hgo _ _ rfl hP hS
/-! X7_find -/
set_option maxRecDepth 100000 in
set_option maxHeartbeats 4000000 in
theorem c_Store_find (l : Launch) (D : va_G) (ci : Nat → ClassId) (A : Nat → Prop) (sa : Nat → Nat) (N : Nat) (Rw : va_W) (a_st : Nat) (a_g : Nat) (a_st_levels : Nat) (a_st_keys : Nat) (a_st_years : Nat) (a_st_keysThere : Nat) (st_size : Int32) (st_shownBy : Int32) (st_deepestShown : Int32) (st_latestShown : Int32) (st_levels : Nat → Int32) (st_keys : Nat → Int32) (p1 : Int32) (p2 : Int32) (r : Int32) (hf : f_Store_find N st_levels st_keys st_size p1 p2 = some r) : Met l yX7_find wsX7_find ({ frames := 0, cells := 0, slots := 0, locals := 0 }) (va_Pc [.ref a_st, .int p1, .int p2] (q_N D ci A sa ((a_st, .inr (7, [.ref a_g, .ref a_st_levels, .ref a_st_keys, .ref a_st_years, .ref a_st_keysThere, .int st_size, .int st_shownBy, .int st_deepestShown, .int st_latestShown])) :: (a_st_levels, .inl (ci 0, 60, .inl st_levels)) :: (a_st_keys, .inl (ci 0, 60, .inl st_keys)) :: Rw))) (q_R (some (.int r))) 0 0 A := by
  refine q_ofW (cc := cX7_find) (maxL := 4) (ret := (some .int)) [.ref a_st, .int p1, .int p2] (plainFor_of_name (by decide)) rfl (Nat.le_of_ble_eq_true rfl) ?_
  intro p e s m below meth c ls Q hQ hx hb hml hr hts hown hlocks hK hA hZ hP hD hS hl
  have hl : lv_has ls 4 [(0, .ref a_st), (1, .int p1), (2, .int p2)] := hl
  have hown : s.vm.findClass RX7 = some m.cls := hown
  have hinX7 : ∀ w ∈ wsX70, w ∈ wsX7_find := fun _ h => List.mem_cons_of_mem _ (inWX70 _ h)
  have w_1 := hts (Cond.fieldLink RX7 24 "SheetNames$Store" "size" "I") (List.mem_cons_of_mem _ t_w863)
  have w_2 := hts (Cond.fieldLink RX7 9 "SheetNames$Store" "levels" "[I") (List.mem_cons_of_mem _ t_w859)
  have w_3 := hts (Cond.fieldLink RX7 15 "SheetNames$Store" "keys" "[I") (List.mem_cons_of_mem _ t_w861)
  unfold f_Store_find at hf
  have hgo : ∀ (H : Heap) (locs : List Loc), H = s.heap → va_P D vwCl ((a_st, .inr (7, [.ref a_g, .ref a_st_levels, .ref a_st_keys, .ref a_st_years, .ref a_st_keysThere, .int st_size, .int st_shownBy, .int st_deepestShown, .int st_latestShown])) :: (a_st_levels, .inl (ci 0, 60, .inl st_levels)) :: (a_st_keys, .inl (ci 0, 60, .inl st_keys)) :: Rw) H → va_S A s.heap H locs → W p l e ({ frames := 0, cells := 0, slots := 0, locals := 0 } : Room) s m ([.ref a_st, .int p1, .int p2] : List Value).toArray below meth c H locs 0 0 Q (F0 m 0 ls []) := by
    intro H locs hH hP hS
    subst hH
    refine lv_iconst (pc := 0) (v := 0) hx hb dX7_find_0 (by decide) ?_
    obtain ⟨v1, ev1, hf⟩ := q_nm_e hf
    refine q_topi ev1 ?_
    refine lv_istore_n (pc := 1) (lv' := [(3, .int v1), (0, .ref a_st), (1, .int p1), (2, .int p2)]) hx hb dX7_find_1 rfl hl (by decide) rfl (fun ls hl => ?_)
    obtain ⟨k2, o2_, ek2, hm2, hk2⟩ := q_s0_k hf
    have JE2 : ∀  (H : Heap) (locs : List Loc) (ls : Array Slot), k2 = some r → H = s.heap → va_S A s.heap H locs → lv_has ls 4 [] → W p l e ({ frames := 0, cells := 0, slots := 0, locals := 0 } : Room) s m ([.ref a_st, .int p1, .int p2] : List Value).toArray below meth c H locs 0 0 Q (F0 m 38 ls []) := by
      intro  H locs ls hf hHs hS hl
      subst hHs
      have hf := (ek2).symm.trans hf
      refine lv_iconst (pc := 38) (v := (-1)) hx hb dX7_find_38 (by decide) ?_
      obtain rfl := Option.some.inj hf
      rw [hQ]
      exact q_iretr (pc := 39) hx hb hr hlocks rfl hS dX7_find_39
    have LP2 : ∀ (n2 : Nat) (v2 : Int32) (H : Heap) (locs : List Loc) (ls : Array Slot), f_Store_find_L2 p1 p2 st_keys st_levels st_size n2 v2 = some o2_ → H = s.heap → va_S A s.heap H locs → lv_has ls 4 [(0, .ref a_st), (1, .int p1), (2, .int p2), (3, .int v2)] → W p l e ({ frames := 0, cells := 0, slots := 0, locals := 0 } : Room) s m ([.ref a_st, .int p1, .int p2] : List Value).toArray below meth c H locs 0 0 Q (F0 m 2 ls []) := by
      intro n2
      induction n2 with
      | zero => intro v2 H locs ls hf; rw [f_Store_find_L2] at hf; cases hf
      | succ n2 ih2 =>
        intro v2 H locs ls hf hHs hS hl
        subst hHs
        rw [f_Store_find_L2] at hf
        refine lv_iload_n (pc := 2) hx hb dX7_find_2 rfl (lv_at hl 3 rfl) ?_
        refine lv_aload_n (pc := 3) hx hb dX7_find_3 rfl (lv_at hl 0 rfl) ?_
        refine va_get (pc := 4) (D := D) (ci := 7) (v := .int st_size) (C := RX7) (T := TX7) (N := 9) hx hb hts hinX7 hown hK hP 0 rfl rfl 5 (by decide) w_1 (fun _ h9 => h9) rfl dX7_find_4 ?_
        refine q_icmp_ge (pc := 7) (tgt := 38) hx hb dX7_find_7 (by decide) rfl hf (fun hf => ?_) (fun hf => ?_)
        · obtain rfl := Option.some.inj hf
          exact JE2  _ _ _ hk2 rfl hS (lv_sub hl [] rfl)
        · refine lv_aload_n (pc := 10) hx hb dX7_find_10 rfl (lv_at hl 0 rfl) ?_
          refine va_get (pc := 11) (D := D) (ci := 7) (v := .ref a_st_levels) (C := RX7) (T := TX7) (N := 9) hx hb hts hinX7 hown hK hP 0 rfl rfl 1 (by decide) w_2 (fun _ h9 => h9) rfl dX7_find_11 ?_
          refine lv_iload_n (pc := 14) hx hb dX7_find_14 rfl (lv_at hl 3 rfl) ?_
          refine q_iald (pc := 15) hx hb hK hP 1 0 hf rfl rfl dX7_find_15 (fun v3 hf => ?_)
          refine lv_iload_n (pc := 16) hx hb dX7_find_16 rfl (lv_at hl 1 rfl) ?_
          obtain ⟨k32, ek32, hf⟩ := q_j0_e hf
          have J32 : ∀  (H : Heap) (locs : List Loc) (ls : Array Slot), k32 = some o2_ → H = s.heap → va_S A s.heap H locs → lv_has ls 4 [(0, .ref a_st), (1, .int p1), (2, .int p2), (3, .int v2)] → W p l e ({ frames := 0, cells := 0, slots := 0, locals := 0 } : Room) s m ([.ref a_st, .int p1, .int p2] : List Value).toArray below meth c H locs 0 0 Q (F0 m 32 ls []) := by
            intro  H locs ls hf hHs hS hl
            subst hHs
            have hf := (ek32).symm.trans hf
            obtain ⟨v4, ev4, hf⟩ := q_nm_e hf
            refine lv_iinc (pc := 32) (v := v4) (lv' := [(3, .int v4), (0, .ref a_st), (1, .int p1), (2, .int p2)]) hx hb dX7_find_32 hl (k := 3) rfl (by rw [ev4]; rfl) (by decide) rfl (fun ls hl => ?_)
            refine lv_goto (pc := 35) (tgt := 2) hx hb dX7_find_35 (by decide) ?_
            exact ih2 v4 _ _ _ hf rfl hS (lv_sub hl [1, 2, 3, 0] rfl)
          refine q_icmp_ne (pc := 17) (tgt := 32) hx hb dX7_find_17 (by decide) rfl hf (fun hf => ?_) (fun hf => ?_)
          · exact J32  _ _ _ hf rfl hS (lv_sub hl [0, 1, 2, 3] rfl)
          · refine lv_aload_n (pc := 20) hx hb dX7_find_20 rfl (lv_at hl 0 rfl) ?_
            refine va_get (pc := 21) (D := D) (ci := 7) (v := .ref a_st_keys) (C := RX7) (T := TX7) (N := 9) hx hb hts hinX7 hown hK hP 0 rfl rfl 2 (by decide) w_3 (fun _ h9 => h9) rfl dX7_find_21 ?_
            refine lv_iload_n (pc := 24) hx hb dX7_find_24 rfl (lv_at hl 3 rfl) ?_
            refine q_iald (pc := 25) hx hb hK hP 2 0 hf rfl rfl dX7_find_25 (fun v5 hf => ?_)
            refine lv_iload_n (pc := 26) hx hb dX7_find_26 rfl (lv_at hl 2 rfl) ?_
            refine q_icmp_ne (pc := 27) (tgt := 32) hx hb dX7_find_27 (by decide) rfl hf (fun hf => ?_) (fun hf => ?_)
            · exact J32  _ _ _ hf rfl hS (lv_sub hl [0, 1, 2, 3] rfl)
            · refine lv_iload_n (pc := 30) hx hb dX7_find_30 rfl (lv_at hl 3 rfl) ?_
              obtain rfl := Option.some.inj hf
              have hk2 : (v2 : Int32) = r := hk2
              obtain rfl := hk2
              rw [hQ]
              exact q_iretr (pc := 31) hx hb hr hlocks rfl hS dX7_find_31
    exact LP2 N v1 _ _ _ hm2 rfl hS (lv_sub hl [1, 2, 3, 0] rfl)
  exact hgo _ _ rfl hP hS
/-! X7_isBehind -/
set_option maxRecDepth 100000 in
set_option maxHeartbeats 4000000 in
theorem c_Store_isBehind (l : Launch) (D : va_G) (ci : Nat → ClassId) (A : Nat → Prop) (sa : Nat → Nat) (N : Nat) (Rw : va_W) (a_st : Nat) (a_g : Nat) (a_st_levels : Nat) (a_st_keys : Nat) (a_st_years : Nat) (a_st_keysThere : Nat) (st_size : Int32) (st_shownBy : Int32) (st_deepestShown : Int32) (st_latestShown : Int32) (st_levels : Nat → Int32) (st_keys : Nat → Int32) (p1 : Int32) (p2 : Int32) (p3 : Int32) (r : Int32) (hf : f_Store_isBehind st_levels st_keys p1 p2 p3 = some r) : Met l yX7_isBehind wsX7_isBehind ({ frames := 0, cells := 0, slots := 0, locals := 0 }) (va_Pc [.ref a_st, .int p1, .int p2, .int p3] (q_N D ci A sa ((a_st, .inr (7, [.ref a_g, .ref a_st_levels, .ref a_st_keys, .ref a_st_years, .ref a_st_keysThere, .int st_size, .int st_shownBy, .int st_deepestShown, .int st_latestShown])) :: (a_st_levels, .inl (ci 0, 60, .inl st_levels)) :: (a_st_keys, .inl (ci 0, 60, .inl st_keys)) :: Rw))) (q_R (some (.int r))) 0 0 A := by
  refine q_ofW (cc := cX7_isBehind) (maxL := 4) (ret := (some .boolean)) [.ref a_st, .int p1, .int p2, .int p3] (plainFor_of_name (by decide)) rfl (Nat.le_of_ble_eq_true rfl) ?_
  intro p e s m below meth c ls Q hQ hx hb hml hr hts hown hlocks hK hA hZ hP hD hS hl
  have hl : lv_has ls 4 [(0, .ref a_st), (1, .int p1), (2, .int p2), (3, .int p3)] := hl
  have hown : s.vm.findClass RX7 = some m.cls := hown
  have hinX7 : ∀ w ∈ wsX70, w ∈ wsX7_isBehind := fun _ h => List.mem_cons_of_mem _ (inWX70 _ h)
  have w_1 := hts (Cond.fieldLink RX7 9 "SheetNames$Store" "levels" "[I") (List.mem_cons_of_mem _ t_w859)
  have w_2 := hts (Cond.fieldLink RX7 15 "SheetNames$Store" "keys" "[I") (List.mem_cons_of_mem _ t_w861)
  unfold f_Store_isBehind at hf
  have hgo : ∀ (H : Heap) (locs : List Loc), H = s.heap → va_P D vwCl ((a_st, .inr (7, [.ref a_g, .ref a_st_levels, .ref a_st_keys, .ref a_st_years, .ref a_st_keysThere, .int st_size, .int st_shownBy, .int st_deepestShown, .int st_latestShown])) :: (a_st_levels, .inl (ci 0, 60, .inl st_levels)) :: (a_st_keys, .inl (ci 0, 60, .inl st_keys)) :: Rw) H → va_S A s.heap H locs → W p l e ({ frames := 0, cells := 0, slots := 0, locals := 0 } : Room) s m ([.ref a_st, .int p1, .int p2, .int p3] : List Value).toArray below meth c H locs 0 0 Q (F0 m 0 ls []) := by
    intro H locs hH hP hS
    subst hH
    refine lv_aload_n (pc := 0) hx hb dX7_isBehind_0 rfl (lv_at hl 0 rfl) ?_
    refine va_get (pc := 1) (D := D) (ci := 7) (v := .ref a_st_levels) (C := RX7) (T := TX7) (N := 9) hx hb hts hinX7 hown hK hP 0 rfl rfl 1 (by decide) w_1 (fun _ h9 => h9) rfl dX7_isBehind_1 ?_
    refine lv_iload_n (pc := 4) hx hb dX7_isBehind_4 rfl (lv_at hl 1 rfl) ?_
    refine q_iald (pc := 5) hx hb hK hP 1 0 hf rfl rfl dX7_isBehind_5 (fun v1 hf => ?_)
    refine lv_iload_n (pc := 6) hx hb dX7_isBehind_6 rfl (lv_at hl 2 rfl) ?_
    obtain ⟨k30, ek30, hf⟩ := q_j0_e hf
    have J30 : ∀  (H : Heap) (locs : List Loc) (ls : Array Slot), k30 = some r → H = s.heap → va_S A s.heap H locs → lv_has ls 4 [] → W p l e ({ frames := 0, cells := 0, slots := 0, locals := 0 } : Room) s m ([.ref a_st, .int p1, .int p2, .int p3] : List Value).toArray below meth c H locs 0 0 Q (F0 m 30 ls []) := by
      intro  H locs ls hf hHs hS hl
      subst hHs
      have hf := (ek30).symm.trans hf
      refine lv_iconst (pc := 30) (v := 1) hx hb dX7_isBehind_30 (by decide) ?_
      refine lv_goto (pc := 31) (tgt := 35) hx hb dX7_isBehind_31 (by decide) ?_
      obtain rfl := Option.some.inj hf
      rw [hQ]
      exact q_zretr (pc := 35) hx hb hr rfl hlocks rfl hS dX7_isBehind_35
    refine q_icmp_gt (pc := 7) (tgt := 30) hx hb dX7_isBehind_7 (by decide) rfl hf (fun hf => ?_) (fun hf => ?_)
    · exact J30  _ _ _ hf rfl hS (lv_sub hl [] rfl)
    · refine lv_aload_n (pc := 10) hx hb dX7_isBehind_10 rfl (lv_at hl 0 rfl) ?_
      refine va_get (pc := 11) (D := D) (ci := 7) (v := .ref a_st_levels) (C := RX7) (T := TX7) (N := 9) hx hb hts hinX7 hown hK hP 0 rfl rfl 1 (by decide) w_1 (fun _ h9 => h9) rfl dX7_isBehind_11 ?_
      refine lv_iload_n (pc := 14) hx hb dX7_isBehind_14 rfl (lv_at hl 1 rfl) ?_
      refine q_iald (pc := 15) hx hb hK hP 1 0 hf rfl rfl dX7_isBehind_15 (fun v2 hf => ?_)
      refine lv_iload_n (pc := 16) hx hb dX7_isBehind_16 rfl (lv_at hl 2 rfl) ?_
      refine q_icmp_ne (pc := 17) (tgt := 34) hx hb dX7_isBehind_17 (by decide) rfl hf (fun hf => ?_) (fun hf => ?_)
      · refine lv_iconst (pc := 34) (v := 0) hx hb dX7_isBehind_34 (by decide) ?_
        obtain rfl := Option.some.inj hf
        rw [hQ]
        exact q_zretr (pc := 35) hx hb hr rfl hlocks rfl hS dX7_isBehind_35
      · refine lv_aload_n (pc := 20) hx hb dX7_isBehind_20 rfl (lv_at hl 0 rfl) ?_
        refine va_get (pc := 21) (D := D) (ci := 7) (v := .ref a_st_keys) (C := RX7) (T := TX7) (N := 9) hx hb hts hinX7 hown hK hP 0 rfl rfl 2 (by decide) w_2 (fun _ h9 => h9) rfl dX7_isBehind_21 ?_
        refine lv_iload_n (pc := 24) hx hb dX7_isBehind_24 rfl (lv_at hl 1 rfl) ?_
        refine q_iald (pc := 25) hx hb hK hP 2 0 hf rfl rfl dX7_isBehind_25 (fun v3 hf => ?_)
        refine lv_iload_n (pc := 26) hx hb dX7_isBehind_26 rfl (lv_at hl 3 rfl) ?_
        refine q_icmp_le (pc := 27) (tgt := 34) hx hb dX7_isBehind_27 (by decide) rfl hf (fun hf => ?_) (fun hf => ?_)
        · refine lv_iconst (pc := 34) (v := 0) hx hb dX7_isBehind_34 (by decide) ?_
          obtain rfl := Option.some.inj hf
          rw [hQ]
          exact q_zretr (pc := 35) hx hb hr rfl hlocks rfl hS dX7_isBehind_35
        · exact J30  _ _ _ hf rfl hS (lv_sub hl [] rfl)
  exact hgo _ _ rfl hP hS
/-! X7_isNeedless -/
set_option maxRecDepth 100000 in
set_option maxHeartbeats 4000000 in
theorem c_Store_isNeedless (l : Launch) (D : va_G) (ci : Nat → ClassId) (A : Nat → Prop) (sa : Nat → Nat) (N : Nat) (Rw : va_W) (a_st : Nat) (a_g : Nat) (a_st_levels : Nat) (a_st_keys : Nat) (a_st_years : Nat) (a_st_keysThere : Nat) (a_g_rowCuts : Nat) (a_g_columnCuts : Nat) (a_g_bandRows : Nat) (a_g_zoneColumns : Nat) (a_g_rows : Nat) (a_g_sheets : Nat) (st_size : Int32) (st_shownBy : Int32) (st_deepestShown : Int32) (st_latestShown : Int32) (st_levels : Nat → Int32) (st_keys : Nat → Int32) (st_years : Nat → Int32) (g_bandRows : Nat → Int32) (g_zoneColumns : Nat → Int32) (g_rows : Nat → Int32) (g_sheets : Nat → Int32) (p1 : Int32) (r : Int32) (hf : f_Store_isNeedless N st_levels st_keys st_years g_bandRows g_zoneColumns g_rows g_sheets p1 = some r) : Met l yX7_isNeedless wsX7_isNeedless ({ frames := 3, cells := 0, slots := 0, locals := 75 }) (va_Pc [.ref a_st, .int p1] (q_N D ci A sa ((a_st, .inr (7, [.ref a_g, .ref a_st_levels, .ref a_st_keys, .ref a_st_years, .ref a_st_keysThere, .int st_size, .int st_shownBy, .int st_deepestShown, .int st_latestShown])) :: (a_st_levels, .inl (ci 0, 60, .inl st_levels)) :: (a_st_keys, .inl (ci 0, 60, .inl st_keys)) :: (a_st_years, .inl (ci 0, 60, .inl st_years)) :: (a_g, .inr (2, [.ref a_g_rowCuts, .ref a_g_columnCuts, .ref a_g_bandRows, .ref a_g_zoneColumns, .ref a_g_rows, .ref a_g_sheets])) :: (a_g_bandRows, .inl (ci 0, 5, .inl g_bandRows)) :: (a_g_zoneColumns, .inl (ci 0, 5, .inl g_zoneColumns)) :: (a_g_rows, .inl (ci 0, 5, .inl g_rows)) :: (a_g_sheets, .inl (ci 0, 5, .inl g_sheets)) :: Rw))) (q_R (some (.int r))) 0 0 A := by
  refine q_ofW (cc := cX7_isNeedless) (maxL := 3) (ret := (some .boolean)) [.ref a_st, .int p1] (plainFor_of_name (by decide)) rfl (Nat.le_of_ble_eq_true rfl) ?_
  intro p e s m below meth c ls Q hQ hx hb hml hr hts hown hlocks hK hA hZ hP hD hS hl
  have hl : lv_has ls 3 [(0, .ref a_st), (1, .int p1)] := hl
  have hown : s.vm.findClass RX7 = some m.cls := hown
  have hinX7 : ∀ w ∈ wsX70, w ∈ wsX7_isNeedless := fun _ h => List.mem_cons_of_mem _ (inWX70 _ h)
  have w_1 := hts (Cond.fieldLink RX7 9 "SheetNames$Store" "levels" "[I") (List.mem_cons_of_mem _ t_w859)
  have w_2 := hts (Cond.fieldLink RX7 18 "SheetNames$Store" "years" "[I") (List.mem_cons_of_mem _ t_w862)
  have w_3 := hts (Cond.fieldLink RX7 37 "SheetNames$Store" "grid" "LSheetNames$Grid;") (List.mem_cons_of_mem _ t_w864)
  have w_4 := hts (Cond.fieldLink RX7 15 "SheetNames$Store" "keys" "[I") (List.mem_cons_of_mem _ t_w861)
  unfold f_Store_isNeedless at hf
  have hgo : ∀ (H : Heap) (locs : List Loc), H = s.heap → va_P D vwCl ((a_st, .inr (7, [.ref a_g, .ref a_st_levels, .ref a_st_keys, .ref a_st_years, .ref a_st_keysThere, .int st_size, .int st_shownBy, .int st_deepestShown, .int st_latestShown])) :: (a_st_levels, .inl (ci 0, 60, .inl st_levels)) :: (a_st_keys, .inl (ci 0, 60, .inl st_keys)) :: (a_st_years, .inl (ci 0, 60, .inl st_years)) :: (a_g, .inr (2, [.ref a_g_rowCuts, .ref a_g_columnCuts, .ref a_g_bandRows, .ref a_g_zoneColumns, .ref a_g_rows, .ref a_g_sheets])) :: (a_g_bandRows, .inl (ci 0, 5, .inl g_bandRows)) :: (a_g_zoneColumns, .inl (ci 0, 5, .inl g_zoneColumns)) :: (a_g_rows, .inl (ci 0, 5, .inl g_rows)) :: (a_g_sheets, .inl (ci 0, 5, .inl g_sheets)) :: Rw) H → va_S A s.heap H locs → W p l e ({ frames := 3, cells := 0, slots := 0, locals := 75 } : Room) s m ([.ref a_st, .int p1] : List Value).toArray below meth c H locs 0 0 Q (F0 m 0 ls []) := by
    intro H locs hH hP hS
    subst hH
    refine lv_iconst (pc := 0) (v := 0) hx hb dX7_isNeedless_0 (by decide) ?_
    obtain ⟨v1, ev1, hf⟩ := q_nm_e hf
    refine q_topi ev1 ?_
    refine lv_istore_n (pc := 1) (lv' := [(2, .int v1), (0, .ref a_st), (1, .int p1)]) hx hb dX7_isNeedless_1 rfl hl (by decide) rfl (fun ls hl => ?_)
    obtain ⟨k2, o2_, ek2, hm2, hk2⟩ := q_s0_k hf
    have JE2 : ∀  (H : Heap) (locs : List Loc) (ls : Array Slot), k2 = some r → H = s.heap → va_S A s.heap H locs → lv_has ls 3 [] → W p l e ({ frames := 3, cells := 0, slots := 0, locals := 75 } : Room) s m ([.ref a_st, .int p1] : List Value).toArray below meth c H locs 0 0 Q (F0 m 79 ls []) := by
      intro  H locs ls hf hHs hS hl
      subst hHs
      have hf := (ek2).symm.trans hf
      refine lv_iconst (pc := 79) (v := 0) hx hb dX7_isNeedless_79 (by decide) ?_
      obtain rfl := Option.some.inj hf
      rw [hQ]
      exact q_zretr (pc := 80) hx hb hr rfl hlocks rfl hS dX7_isNeedless_80
    have LP2 : ∀ (n2 : Nat) (v2 : Int32) (H : Heap) (locs : List Loc) (ls : Array Slot), f_Store_isNeedless_L2 N g_bandRows g_rows g_sheets g_zoneColumns p1 st_keys st_levels st_years n2 v2 = some o2_ → H = s.heap → va_S A s.heap H locs → lv_has ls 3 [(0, .ref a_st), (1, .int p1), (2, .int v2)] → W p l e ({ frames := 3, cells := 0, slots := 0, locals := 75 } : Room) s m ([.ref a_st, .int p1] : List Value).toArray below meth c H locs 0 0 Q (F0 m 2 ls []) := by
      intro n2
      induction n2 with
      | zero => intro v2 H locs ls hf; rw [f_Store_isNeedless_L2] at hf; cases hf
      | succ n2 ih2 =>
        intro v2 H locs ls hf hHs hS hl
        subst hHs
        rw [f_Store_isNeedless_L2] at hf
        refine lv_iload_n (pc := 2) hx hb dX7_isNeedless_2 rfl (lv_at hl 2 rfl) ?_
        refine lv_iload_n (pc := 3) hx hb dX7_isNeedless_3 rfl (lv_at hl 1 rfl) ?_
        refine q_icmp_ge (pc := 4) (tgt := 79) hx hb dX7_isNeedless_4 (by decide) rfl hf (fun hf => ?_) (fun hf => ?_)
        · obtain rfl := Option.some.inj hf
          exact JE2  _ _ _ hk2 rfl hS (lv_sub hl [] rfl)
        · refine lv_aload_n (pc := 7) hx hb dX7_isNeedless_7 rfl (lv_at hl 0 rfl) ?_
          refine va_get (pc := 8) (D := D) (ci := 7) (v := .ref a_st_levels) (C := RX7) (T := TX7) (N := 9) hx hb hts hinX7 hown hK hP 0 rfl rfl 1 (by decide) w_1 (fun _ h9 => h9) rfl dX7_isNeedless_8 ?_
          refine lv_iload_n (pc := 11) hx hb dX7_isNeedless_11 rfl (lv_at hl 2 rfl) ?_
          refine q_iald (pc := 12) hx hb hK hP 1 0 hf rfl rfl dX7_isNeedless_12 (fun v3 hf => ?_)
          refine lv_aload_n (pc := 13) hx hb dX7_isNeedless_13 rfl (lv_at hl 0 rfl) ?_
          refine va_get (pc := 14) (D := D) (ci := 7) (v := .ref a_st_levels) (C := RX7) (T := TX7) (N := 9) hx hb hts hinX7 hown hK hP 0 rfl rfl 1 (by decide) w_1 (fun _ h9 => h9) rfl dX7_isNeedless_14 ?_
          refine lv_iload_n (pc := 17) hx hb dX7_isNeedless_17 rfl (lv_at hl 1 rfl) ?_
          refine q_iald (pc := 18) hx hb hK hP 1 0 hf rfl rfl dX7_isNeedless_18 (fun v4 hf => ?_)
          obtain ⟨k73, ek73, hf⟩ := q_j0_e hf
          have J73 : ∀  (H : Heap) (locs : List Loc) (ls : Array Slot), k73 = some o2_ → H = s.heap → va_S A s.heap H locs → lv_has ls 3 [(0, .ref a_st), (1, .int p1), (2, .int v2)] → W p l e ({ frames := 3, cells := 0, slots := 0, locals := 75 } : Room) s m ([.ref a_st, .int p1] : List Value).toArray below meth c H locs 0 0 Q (F0 m 73 ls []) := by
            intro  H locs ls hf hHs hS hl
            subst hHs
            have hf := (ek73).symm.trans hf
            obtain ⟨v5, ev5, hf⟩ := q_nm_e hf
            refine lv_iinc (pc := 73) (v := v5) (lv' := [(2, .int v5), (0, .ref a_st), (1, .int p1)]) hx hb dX7_isNeedless_73 hl (k := 2) rfl (by rw [ev5]; rfl) (by decide) rfl (fun ls hl => ?_)
            refine lv_goto (pc := 76) (tgt := 2) hx hb dX7_isNeedless_76 (by decide) ?_
            exact ih2 v5 _ _ _ hf rfl hS (lv_sub hl [1, 2, 0] rfl)
          refine q_icmp_ge (pc := 19) (tgt := 73) hx hb dX7_isNeedless_19 (by decide) rfl hf (fun hf => ?_) (fun hf => ?_)
          · exact J73  _ _ _ hf rfl hS (lv_sub hl [0, 1, 2] rfl)
          · refine lv_aload_n (pc := 22) hx hb dX7_isNeedless_22 rfl (lv_at hl 0 rfl) ?_
            refine va_get (pc := 23) (D := D) (ci := 7) (v := .ref a_st_years) (C := RX7) (T := TX7) (N := 9) hx hb hts hinX7 hown hK hP 0 rfl rfl 3 (by decide) w_2 (fun _ h9 => h9) rfl dX7_isNeedless_23 ?_
            refine lv_iload_n (pc := 26) hx hb dX7_isNeedless_26 rfl (lv_at hl 2 rfl) ?_
            refine q_iald (pc := 27) hx hb hK hP 3 0 hf rfl rfl dX7_isNeedless_27 (fun v6 hf => ?_)
            refine lv_aload_n (pc := 28) hx hb dX7_isNeedless_28 rfl (lv_at hl 0 rfl) ?_
            refine va_get (pc := 29) (D := D) (ci := 7) (v := .ref a_st_years) (C := RX7) (T := TX7) (N := 9) hx hb hts hinX7 hown hK hP 0 rfl rfl 3 (by decide) w_2 (fun _ h9 => h9) rfl dX7_isNeedless_29 ?_
            refine lv_iload_n (pc := 32) hx hb dX7_isNeedless_32 rfl (lv_at hl 1 rfl) ?_
            refine q_iald (pc := 33) hx hb hK hP 3 0 hf rfl rfl dX7_isNeedless_33 (fun v7 hf => ?_)
            refine q_icmp_lt (pc := 34) (tgt := 73) hx hb dX7_isNeedless_34 (by decide) rfl hf (fun hf => ?_) (fun hf => ?_)
            · exact J73  _ _ _ hf rfl hS (lv_sub hl [0, 1, 2] rfl)
            · refine lv_aload_n (pc := 37) hx hb dX7_isNeedless_37 rfl (lv_at hl 0 rfl) ?_
              refine va_get (pc := 38) (D := D) (ci := 7) (v := .ref a_g) (C := RX7) (T := TX7) (N := 9) hx hb hts hinX7 hown hK hP 0 rfl rfl 0 (by decide) w_3 (fun _ h9 => h9) rfl dX7_isNeedless_38 ?_
              refine lv_aload_n (pc := 41) hx hb dX7_isNeedless_41 rfl (lv_at hl 0 rfl) ?_
              refine va_get (pc := 42) (D := D) (ci := 7) (v := .ref a_st_levels) (C := RX7) (T := TX7) (N := 9) hx hb hts hinX7 hown hK hP 0 rfl rfl 1 (by decide) w_1 (fun _ h9 => h9) rfl dX7_isNeedless_42 ?_
              refine lv_iload_n (pc := 45) hx hb dX7_isNeedless_45 rfl (lv_at hl 1 rfl) ?_
              refine q_iald (pc := 46) hx hb hK hP 1 0 hf rfl rfl dX7_isNeedless_46 (fun v8 hf => ?_)
              refine lv_aload_n (pc := 47) hx hb dX7_isNeedless_47 rfl (lv_at hl 0 rfl) ?_
              refine va_get (pc := 48) (D := D) (ci := 7) (v := .ref a_st_keys) (C := RX7) (T := TX7) (N := 9) hx hb hts hinX7 hown hK hP 0 rfl rfl 2 (by decide) w_4 (fun _ h9 => h9) rfl dX7_isNeedless_48 ?_
              refine lv_iload_n (pc := 51) hx hb dX7_isNeedless_51 rfl (lv_at hl 1 rfl) ?_
              refine q_iald (pc := 52) hx hb hK hP 2 0 hf rfl rfl dX7_isNeedless_52 (fun v9 hf => ?_)
              refine lv_aload_n (pc := 53) hx hb dX7_isNeedless_53 rfl (lv_at hl 0 rfl) ?_
              refine va_get (pc := 54) (D := D) (ci := 7) (v := .ref a_st_levels) (C := RX7) (T := TX7) (N := 9) hx hb hts hinX7 hown hK hP 0 rfl rfl 1 (by decide) w_1 (fun _ h9 => h9) rfl dX7_isNeedless_54 ?_
              refine lv_iload_n (pc := 57) hx hb dX7_isNeedless_57 rfl (lv_at hl 2 rfl) ?_
              refine q_iald (pc := 58) hx hb hK hP 1 0 hf rfl rfl dX7_isNeedless_58 (fun v10 hf => ?_)
              obtain ⟨v11, hm59, hf⟩ := q_b1_e hf
              refine q_cVr (pc := 59) (As := [.int v8, .int v9, .int v10]) (rest := []) (v0 := (some (.int v11))) ⟨hx, hb, hml, hown, hts⟩ hK hA hZ hP hD hS hl.1 [4, 5, 6, 7, 8] 9 rfl ⟨rfl, rfl, rfl⟩ (c_Grid_keyAbove l D ci A sa N (Rw) a_g a_g_rowCuts a_g_columnCuts a_g_bandRows a_g_zoneColumns a_g_rows a_g_sheets g_bandRows g_zoneColumns g_rows g_sheets v8 v9 v10 v11 hm59) 4 rfl rfl (cwV 3 hts gX7_isNeedless_X2_keyAbove rfl rfl rfl (by decide +kernel) ⟨Nat.le_of_ble_eq_true rfl, Nat.le_of_ble_eq_true rfl⟩) rfl rfl (Nat.le_of_ble_eq_true rfl) dX7_isNeedless_59 ⟨Nat.zero_le _, Nat.zero_le _⟩ (fun locs hS => ?_)
              refine lv_aload_n (pc := 62) hx hb dX7_isNeedless_62 rfl (lv_at hl 0 rfl) ?_
              refine va_get (pc := 63) (D := D) (ci := 7) (v := .ref a_st_keys) (C := RX7) (T := TX7) (N := 9) hx hb hts hinX7 hown hK hP 0 rfl rfl 2 (by decide) w_4 (fun _ h9 => h9) rfl dX7_isNeedless_63 ?_
              refine lv_iload_n (pc := 66) hx hb dX7_isNeedless_66 rfl (lv_at hl 2 rfl) ?_
              refine q_iald (pc := 67) hx hb hK hP 2 0 hf rfl rfl dX7_isNeedless_67 (fun v12 hf => ?_)
              refine q_icmp_ne (pc := 68) (tgt := 73) hx hb dX7_isNeedless_68 (by decide) rfl hf (fun hf => ?_) (fun hf => ?_)
              · exact J73  _ _ _ hf rfl hS (lv_sub hl [0, 1, 2] rfl)
              · refine lv_iconst (pc := 71) (v := 1) hx hb dX7_isNeedless_71 (by decide) ?_
                obtain rfl := Option.some.inj hf
                have hk2 : (1 : Int32) = r := hk2
                obtain rfl := hk2
                rw [hQ]
                exact q_zretr (pc := 72) hx hb hr rfl hlocks rfl hS dX7_isNeedless_72
    exact LP2 N v1 _ _ _ hm2 rfl hS (lv_sub hl [1, 2, 0] rfl)
  exact hgo _ _ rfl hP hS
/-! X7_lookAt -/
set_option maxRecDepth 100000 in
set_option maxHeartbeats 4000000 in
theorem c_Store_lookAt (l : Launch) (D : va_G) (ci : Nat → ClassId) (A : Nat → Prop) (sa : Nat → Nat) (N : Nat) (Rw : va_W) (a_st : Nat) (a_g : Nat) (a_st_levels : Nat) (a_st_keys : Nat) (a_st_years : Nat) (a_st_keysThere : Nat) (a_g_rowCuts : Nat) (a_g_columnCuts : Nat) (a_g_bandRows : Nat) (a_g_zoneColumns : Nat) (a_g_rows : Nat) (a_g_sheets : Nat) (st_size : Int32) (st_shownBy : Int32) (st_deepestShown : Int32) (st_latestShown : Int32) (st_levels : Nat → Int32) (st_keys : Nat → Int32) (st_years : Nat → Int32) (st_keysThere : Nat → Int32) (g_bandRows : Nat → Int32) (g_zoneColumns : Nat → Int32) (g_rows : Nat → Int32) (g_sheets : Nat → Int32) (p1 : Int32) (p2 : Int32) (o1 : Nat → Int32) (o2 : Int32) (o3 : Int32) (o4 : Int32) (hf : f_Store_lookAt N st_levels st_keys st_years st_keysThere st_size st_shownBy st_deepestShown st_latestShown g_bandRows g_zoneColumns g_rows g_sheets p1 p2 = some (o1, o2, o3, o4)) : Met l yX7_lookAt wsX7_lookAt ({ frames := 3, cells := 0, slots := 0, locals := 73 }) (va_Pc [.ref a_st, .int p1, .int p2] (q_N D ci A sa ((a_st, .inr (7, [.ref a_g, .ref a_st_levels, .ref a_st_keys, .ref a_st_years, .ref a_st_keysThere, .int st_size, .int st_shownBy, .int st_deepestShown, .int st_latestShown])) :: (a_st_levels, .inl (ci 0, 60, .inl st_levels)) :: (a_st_keys, .inl (ci 0, 60, .inl st_keys)) :: (a_st_years, .inl (ci 0, 60, .inl st_years)) :: (a_st_keysThere, .inl (ci 0, 5, .inl st_keysThere)) :: (a_g, .inr (2, [.ref a_g_rowCuts, .ref a_g_columnCuts, .ref a_g_bandRows, .ref a_g_zoneColumns, .ref a_g_rows, .ref a_g_sheets])) :: (a_g_bandRows, .inl (ci 0, 5, .inl g_bandRows)) :: (a_g_zoneColumns, .inl (ci 0, 5, .inl g_zoneColumns)) :: (a_g_rows, .inl (ci 0, 5, .inl g_rows)) :: (a_g_sheets, .inl (ci 0, 5, .inl g_sheets)) :: Rw))) (q_Q none (q_O D A ((a_st, .inr (7, [.ref a_g, .ref a_st_levels, .ref a_st_keys, .ref a_st_years, .ref a_st_keysThere, .int st_size, .int o2, .int o3, .int o4])) :: (a_st_levels, .inl (ci 0, 60, .inl st_levels)) :: (a_st_keys, .inl (ci 0, 60, .inl st_keys)) :: (a_st_years, .inl (ci 0, 60, .inl st_years)) :: (a_st_keysThere, .inl (ci 0, 5, .inl o1)) :: (a_g, .inr (2, [.ref a_g_rowCuts, .ref a_g_columnCuts, .ref a_g_bandRows, .ref a_g_zoneColumns, .ref a_g_rows, .ref a_g_sheets])) :: (a_g_bandRows, .inl (ci 0, 5, .inl g_bandRows)) :: (a_g_zoneColumns, .inl (ci 0, 5, .inl g_zoneColumns)) :: (a_g_rows, .inl (ci 0, 5, .inl g_rows)) :: (a_g_sheets, .inl (ci 0, 5, .inl g_sheets)) :: Rw)) A) 0 0 A := by
  refine q_ofW (cc := cX7_lookAt) (maxL := 4) (ret := none) [.ref a_st, .int p1, .int p2] (plainFor_of_name (by decide)) rfl (Nat.le_of_ble_eq_true rfl) ?_
  intro p e s m below meth c ls Q hQ hx hb hml hr hts hown hlocks hK hA hZ hP hD hS hl
  have hl : lv_has ls 4 [(0, .ref a_st), (1, .int p1), (2, .int p2)] := hl
  have hown : s.vm.findClass RX7 = some m.cls := hown
  have hinX7 : ∀ w ∈ wsX70, w ∈ wsX7_lookAt := fun _ h => List.mem_cons_of_mem _ (inWX70 _ h)
  have w_1 := hts (Cond.fieldLink RX7 21 "SheetNames$Store" "keysThere" "[I") (List.mem_cons_of_mem _ t_w865)
  have w_2 := hts (Cond.fieldLink RX7 37 "SheetNames$Store" "grid" "LSheetNames$Grid;") (List.mem_cons_of_mem _ t_w864)
  have w_3 := hts (Cond.fieldLink RX7 28 "SheetNames$Store" "shownBy" "I") (List.mem_cons_of_mem _ t_w866)
  have w_4 := hts (Cond.fieldLink RX7 31 "SheetNames$Store" "deepestShown" "I") (List.mem_cons_of_mem _ t_w867)
  have w_5 := hts (Cond.fieldLink RX7 34 "SheetNames$Store" "latestShown" "I") (List.mem_cons_of_mem _ t_w868)
  have w_6 := hts (Cond.fieldLink RX7 24 "SheetNames$Store" "size" "I") (List.mem_cons_of_mem _ t_w863)
  have w_7 := hts (Cond.fieldLink RX7 9 "SheetNames$Store" "levels" "[I") (List.mem_cons_of_mem _ t_w859)
  have w_8 := hts (Cond.fieldLink RX7 15 "SheetNames$Store" "keys" "[I") (List.mem_cons_of_mem _ t_w861)
  have w_9 := hts (Cond.fieldLink RX7 18 "SheetNames$Store" "years" "[I") (List.mem_cons_of_mem _ t_w862)
  have w_10 := hts (Cond.methodLink RX7 59 Lib.Math.max.name) (List.mem_cons_of_mem _ t_w869)
  have w_11 := hts (Cond.static Lib.Math.max.name) (List.mem_cons_of_mem _ t_w813)
  have w_12 := hts (Cond.initialized "java/lang/Math") (List.mem_cons_of_mem _ t_w76)
  have w_13 := hts (Cond.code Lib.Math.max.name Lib.Math.max.code 2 (some .int)) (List.mem_cons_of_mem _ t_w814)
  unfold f_Store_lookAt at hf
  have hgo : ∀ (H : Heap) (locs : List Loc), H = s.heap → va_P D vwCl ((a_st, .inr (7, [.ref a_g, .ref a_st_levels, .ref a_st_keys, .ref a_st_years, .ref a_st_keysThere, .int st_size, .int st_shownBy, .int st_deepestShown, .int st_latestShown])) :: (a_st_levels, .inl (ci 0, 60, .inl st_levels)) :: (a_st_keys, .inl (ci 0, 60, .inl st_keys)) :: (a_st_years, .inl (ci 0, 60, .inl st_years)) :: (a_st_keysThere, .inl (ci 0, 5, .inl st_keysThere)) :: (a_g, .inr (2, [.ref a_g_rowCuts, .ref a_g_columnCuts, .ref a_g_bandRows, .ref a_g_zoneColumns, .ref a_g_rows, .ref a_g_sheets])) :: (a_g_bandRows, .inl (ci 0, 5, .inl g_bandRows)) :: (a_g_zoneColumns, .inl (ci 0, 5, .inl g_zoneColumns)) :: (a_g_rows, .inl (ci 0, 5, .inl g_rows)) :: (a_g_sheets, .inl (ci 0, 5, .inl g_sheets)) :: Rw) H → va_S A s.heap H locs → W p l e ({ frames := 3, cells := 0, slots := 0, locals := 73 } : Room) s m ([.ref a_st, .int p1, .int p2] : List Value).toArray below meth c H locs 0 0 Q (F0 m 0 ls []) := by
    intro H locs hH hP hS
    refine lv_iconst (pc := 0) (v := 0) hx hb dX7_lookAt_0 (by decide) ?_
    obtain ⟨v1, ev1, hf⟩ := q_nm_e hf
    refine q_topi ev1 ?_
    refine lv_istore_n (pc := 1) (lv' := [(3, .int v1), (0, .ref a_st), (1, .int p1), (2, .int p2)]) hx hb dX7_lookAt_1 rfl hl (by decide) rfl (fun ls hl => ?_)
    obtain ⟨f4, hm2, hf⟩ := q_b1_e hf
    have JE2 : ∀ (H : Heap) (locs : List Loc) (ls : Array Slot), va_P D vwCl ((a_st, .inr (7, [.ref a_g, .ref a_st_levels, .ref a_st_keys, .ref a_st_years, .ref a_st_keysThere, .int st_size, .int st_shownBy, .int st_deepestShown, .int st_latestShown])) :: (a_st_levels, .inl (ci 0, 60, .inl st_levels)) :: (a_st_keys, .inl (ci 0, 60, .inl st_keys)) :: (a_st_years, .inl (ci 0, 60, .inl st_years)) :: (a_st_keysThere, .inl (ci 0, 5, .inl f4)) :: (a_g, .inr (2, [.ref a_g_rowCuts, .ref a_g_columnCuts, .ref a_g_bandRows, .ref a_g_zoneColumns, .ref a_g_rows, .ref a_g_sheets])) :: (a_g_bandRows, .inl (ci 0, 5, .inl g_bandRows)) :: (a_g_zoneColumns, .inl (ci 0, 5, .inl g_zoneColumns)) :: (a_g_rows, .inl (ci 0, 5, .inl g_rows)) :: (a_g_sheets, .inl (ci 0, 5, .inl g_sheets)) :: Rw) H → va_D A ((a_st, .inr (7, [.ref a_g, .ref a_st_levels, .ref a_st_keys, .ref a_st_years, .ref a_st_keysThere, .int st_size, .int st_shownBy, .int st_deepestShown, .int st_latestShown])) :: (a_st_levels, .inl (ci 0, 60, .inl st_levels)) :: (a_st_keys, .inl (ci 0, 60, .inl st_keys)) :: (a_st_years, .inl (ci 0, 60, .inl st_years)) :: (a_st_keysThere, .inl (ci 0, 5, .inl f4)) :: (a_g, .inr (2, [.ref a_g_rowCuts, .ref a_g_columnCuts, .ref a_g_bandRows, .ref a_g_zoneColumns, .ref a_g_rows, .ref a_g_sheets])) :: (a_g_bandRows, .inl (ci 0, 5, .inl g_bandRows)) :: (a_g_zoneColumns, .inl (ci 0, 5, .inl g_zoneColumns)) :: (a_g_rows, .inl (ci 0, 5, .inl g_rows)) :: (a_g_sheets, .inl (ci 0, 5, .inl g_sheets)) :: Rw) → va_S A s.heap H locs → lv_has ls 4 [(0, .ref a_st)] → W p l e ({ frames := 3, cells := 0, slots := 0, locals := 73 } : Room) s m ([.ref a_st, .int p1, .int p2] : List Value).toArray below meth c H locs 0 0 Q (F0 m 29 ls []) := by
      intro H locs ls hP hD hS hl
      refine lv_aload_n (pc := 29) hx hb dX7_lookAt_29 rfl (lv_at hl 0 rfl) ?_
      refine lv_iconst (pc := 30) (v := 0) hx hb dX7_lookAt_30 (by decide) ?_
      refine va_put (pc := 31) (D := D) (ci := 7) (v := .int 0) (ty := .int) (C := RX7) (T := TX7) (N := 9) hx hb hts hinX7 tyX7 tyX7_ok nmX7 hown hK hP hD hS 0 rfl rfl 6 (by decide) w_3 (fun _ h9 => h9) rfl (by decide +kernel) rfl rfl (Nat.le_of_ble_eq_true rfl) dX7_lookAt_31 (fun H locs hP hD hS => ?_)
      obtain ⟨hP, hD⟩ : va_PD D A ((a_st, .inr (7, [.ref a_g, .ref a_st_levels, .ref a_st_keys, .ref a_st_years, .ref a_st_keysThere, .int st_size, .int 0, .int st_deepestShown, .int st_latestShown])) :: (a_st_levels, .inl (ci 0, 60, .inl st_levels)) :: (a_st_keys, .inl (ci 0, 60, .inl st_keys)) :: (a_st_years, .inl (ci 0, 60, .inl st_years)) :: (a_st_keysThere, .inl (ci 0, 5, .inl f4)) :: (a_g, .inr (2, [.ref a_g_rowCuts, .ref a_g_columnCuts, .ref a_g_bandRows, .ref a_g_zoneColumns, .ref a_g_rows, .ref a_g_sheets])) :: (a_g_bandRows, .inl (ci 0, 5, .inl g_bandRows)) :: (a_g_zoneColumns, .inl (ci 0, 5, .inl g_zoneColumns)) :: (a_g_rows, .inl (ci 0, 5, .inl g_rows)) :: (a_g_sheets, .inl (ci 0, 5, .inl g_sheets)) :: Rw) H := ⟨hP, hD⟩
      refine lv_aload_n (pc := 34) hx hb dX7_lookAt_34 rfl (lv_at hl 0 rfl) ?_
      refine lv_iconst (pc := 35) (v := 0) hx hb dX7_lookAt_35 (by decide) ?_
      refine va_put (pc := 36) (D := D) (ci := 7) (v := .int 0) (ty := .int) (C := RX7) (T := TX7) (N := 9) hx hb hts hinX7 tyX7 tyX7_ok nmX7 hown hK hP hD hS 0 rfl rfl 7 (by decide) w_4 (fun _ h9 => h9) rfl (by decide +kernel) rfl rfl (Nat.le_of_ble_eq_true rfl) dX7_lookAt_36 (fun H locs hP hD hS => ?_)
      obtain ⟨hP, hD⟩ : va_PD D A ((a_st, .inr (7, [.ref a_g, .ref a_st_levels, .ref a_st_keys, .ref a_st_years, .ref a_st_keysThere, .int st_size, .int 0, .int 0, .int st_latestShown])) :: (a_st_levels, .inl (ci 0, 60, .inl st_levels)) :: (a_st_keys, .inl (ci 0, 60, .inl st_keys)) :: (a_st_years, .inl (ci 0, 60, .inl st_years)) :: (a_st_keysThere, .inl (ci 0, 5, .inl f4)) :: (a_g, .inr (2, [.ref a_g_rowCuts, .ref a_g_columnCuts, .ref a_g_bandRows, .ref a_g_zoneColumns, .ref a_g_rows, .ref a_g_sheets])) :: (a_g_bandRows, .inl (ci 0, 5, .inl g_bandRows)) :: (a_g_zoneColumns, .inl (ci 0, 5, .inl g_zoneColumns)) :: (a_g_rows, .inl (ci 0, 5, .inl g_rows)) :: (a_g_sheets, .inl (ci 0, 5, .inl g_sheets)) :: Rw) H := ⟨hP, hD⟩
      refine lv_aload_n (pc := 39) hx hb dX7_lookAt_39 rfl (lv_at hl 0 rfl) ?_
      refine lv_iconst (pc := 40) (v := 0) hx hb dX7_lookAt_40 (by decide) ?_
      refine va_put (pc := 41) (D := D) (ci := 7) (v := .int 0) (ty := .int) (C := RX7) (T := TX7) (N := 9) hx hb hts hinX7 tyX7 tyX7_ok nmX7 hown hK hP hD hS 0 rfl rfl 8 (by decide) w_5 (fun _ h9 => h9) rfl (by decide +kernel) rfl rfl (Nat.le_of_ble_eq_true rfl) dX7_lookAt_41 (fun H locs hP hD hS => ?_)
      obtain ⟨hP, hD⟩ : va_PD D A ((a_st, .inr (7, [.ref a_g, .ref a_st_levels, .ref a_st_keys, .ref a_st_years, .ref a_st_keysThere, .int st_size, .int 0, .int 0, .int 0])) :: (a_st_levels, .inl (ci 0, 60, .inl st_levels)) :: (a_st_keys, .inl (ci 0, 60, .inl st_keys)) :: (a_st_years, .inl (ci 0, 60, .inl st_years)) :: (a_st_keysThere, .inl (ci 0, 5, .inl f4)) :: (a_g, .inr (2, [.ref a_g_rowCuts, .ref a_g_columnCuts, .ref a_g_bandRows, .ref a_g_zoneColumns, .ref a_g_rows, .ref a_g_sheets])) :: (a_g_bandRows, .inl (ci 0, 5, .inl g_bandRows)) :: (a_g_zoneColumns, .inl (ci 0, 5, .inl g_zoneColumns)) :: (a_g_rows, .inl (ci 0, 5, .inl g_rows)) :: (a_g_sheets, .inl (ci 0, 5, .inl g_sheets)) :: Rw) H := ⟨hP, hD⟩
      refine lv_iconst (pc := 44) (v := 0) hx hb dX7_lookAt_44 (by decide) ?_
      obtain ⟨v5, ev5, hf⟩ := q_nm_e hf
      refine q_topi ev5 ?_
      refine lv_istore_n (pc := 45) (lv' := [(3, .int v5), (0, .ref a_st)]) hx hb dX7_lookAt_45 rfl hl (by decide) rfl (fun ls hl => ?_)
      obtain ⟨v10, v11, v12, hm46, hf⟩ := q_b3_e hf
      have JE46 : ∀ (H : Heap) (locs : List Loc) (ls : Array Slot), va_P D vwCl ((a_st, .inr (7, [.ref a_g, .ref a_st_levels, .ref a_st_keys, .ref a_st_years, .ref a_st_keysThere, .int st_size, .int v10, .int v11, .int v12])) :: (a_st_levels, .inl (ci 0, 60, .inl st_levels)) :: (a_st_keys, .inl (ci 0, 60, .inl st_keys)) :: (a_st_years, .inl (ci 0, 60, .inl st_years)) :: (a_st_keysThere, .inl (ci 0, 5, .inl f4)) :: (a_g, .inr (2, [.ref a_g_rowCuts, .ref a_g_columnCuts, .ref a_g_bandRows, .ref a_g_zoneColumns, .ref a_g_rows, .ref a_g_sheets])) :: (a_g_bandRows, .inl (ci 0, 5, .inl g_bandRows)) :: (a_g_zoneColumns, .inl (ci 0, 5, .inl g_zoneColumns)) :: (a_g_rows, .inl (ci 0, 5, .inl g_rows)) :: (a_g_sheets, .inl (ci 0, 5, .inl g_sheets)) :: Rw) H → va_D A ((a_st, .inr (7, [.ref a_g, .ref a_st_levels, .ref a_st_keys, .ref a_st_years, .ref a_st_keysThere, .int st_size, .int v10, .int v11, .int v12])) :: (a_st_levels, .inl (ci 0, 60, .inl st_levels)) :: (a_st_keys, .inl (ci 0, 60, .inl st_keys)) :: (a_st_years, .inl (ci 0, 60, .inl st_years)) :: (a_st_keysThere, .inl (ci 0, 5, .inl f4)) :: (a_g, .inr (2, [.ref a_g_rowCuts, .ref a_g_columnCuts, .ref a_g_bandRows, .ref a_g_zoneColumns, .ref a_g_rows, .ref a_g_sheets])) :: (a_g_bandRows, .inl (ci 0, 5, .inl g_bandRows)) :: (a_g_zoneColumns, .inl (ci 0, 5, .inl g_zoneColumns)) :: (a_g_rows, .inl (ci 0, 5, .inl g_rows)) :: (a_g_sheets, .inl (ci 0, 5, .inl g_sheets)) :: Rw) → va_S A s.heap H locs → lv_has ls 4 [] → W p l e ({ frames := 3, cells := 0, slots := 0, locals := 73 } : Room) s m ([.ref a_st, .int p1, .int p2] : List Value).toArray below meth c H locs 0 0 Q (F0 m 117 ls []) := by
        intro H locs ls hP hD hS hl
        obtain ⟨e90, e91, e92, e93⟩ := q_inj4 (Option.some.inj hf)
        rw [hQ, ← e90, ← e91, ← e92, ← e93]
        exact q_vret (pc := 117) hx hb hr hlocks hP hD hS dX7_lookAt_117
      have LP46 : ∀ (n46 : Nat) (v6 : Int32) (v7 : Int32) (v8 : Int32) (v9 : Int32) (H : Heap) (locs : List Loc) (ls : Array Slot), f_Store_lookAt_L46 f4 st_keys st_levels st_size st_years n46 v6 v7 v8 v9 = some (v10, v11, v12) → va_P D vwCl ((a_st, .inr (7, [.ref a_g, .ref a_st_levels, .ref a_st_keys, .ref a_st_years, .ref a_st_keysThere, .int st_size, .int v7, .int v8, .int v9])) :: (a_st_levels, .inl (ci 0, 60, .inl st_levels)) :: (a_st_keys, .inl (ci 0, 60, .inl st_keys)) :: (a_st_years, .inl (ci 0, 60, .inl st_years)) :: (a_st_keysThere, .inl (ci 0, 5, .inl f4)) :: (a_g, .inr (2, [.ref a_g_rowCuts, .ref a_g_columnCuts, .ref a_g_bandRows, .ref a_g_zoneColumns, .ref a_g_rows, .ref a_g_sheets])) :: (a_g_bandRows, .inl (ci 0, 5, .inl g_bandRows)) :: (a_g_zoneColumns, .inl (ci 0, 5, .inl g_zoneColumns)) :: (a_g_rows, .inl (ci 0, 5, .inl g_rows)) :: (a_g_sheets, .inl (ci 0, 5, .inl g_sheets)) :: Rw) H → va_D A ((a_st, .inr (7, [.ref a_g, .ref a_st_levels, .ref a_st_keys, .ref a_st_years, .ref a_st_keysThere, .int st_size, .int v7, .int v8, .int v9])) :: (a_st_levels, .inl (ci 0, 60, .inl st_levels)) :: (a_st_keys, .inl (ci 0, 60, .inl st_keys)) :: (a_st_years, .inl (ci 0, 60, .inl st_years)) :: (a_st_keysThere, .inl (ci 0, 5, .inl f4)) :: (a_g, .inr (2, [.ref a_g_rowCuts, .ref a_g_columnCuts, .ref a_g_bandRows, .ref a_g_zoneColumns, .ref a_g_rows, .ref a_g_sheets])) :: (a_g_bandRows, .inl (ci 0, 5, .inl g_bandRows)) :: (a_g_zoneColumns, .inl (ci 0, 5, .inl g_zoneColumns)) :: (a_g_rows, .inl (ci 0, 5, .inl g_rows)) :: (a_g_sheets, .inl (ci 0, 5, .inl g_sheets)) :: Rw) → va_S A s.heap H locs → lv_has ls 4 [(0, .ref a_st), (3, .int v6)] → W p l e ({ frames := 3, cells := 0, slots := 0, locals := 73 } : Room) s m ([.ref a_st, .int p1, .int p2] : List Value).toArray below meth c H locs 0 0 Q (F0 m 46 ls []) := by
        intro n46
        induction n46 with
        | zero => intro v6 v7 v8 v9 H locs ls hf; rw [f_Store_lookAt_L46] at hf; cases hf
        | succ n46 ih46 =>
          intro v6 v7 v8 v9 H locs ls hf hP hD hS hl
          rw [f_Store_lookAt_L46] at hf
          refine lv_iload_n (pc := 46) hx hb dX7_lookAt_46 rfl (lv_at hl 1 rfl) ?_
          refine lv_aload_n (pc := 47) hx hb dX7_lookAt_47 rfl (lv_at hl 0 rfl) ?_
          refine va_get (pc := 48) (D := D) (ci := 7) (v := .int st_size) (C := RX7) (T := TX7) (N := 9) hx hb hts hinX7 hown hK hP 0 rfl rfl 5 (by decide) w_6 (fun _ h9 => h9) rfl dX7_lookAt_48 ?_
          refine q_icmp_ge (pc := 51) (tgt := 117) hx hb dX7_lookAt_51 (by decide) rfl hf (fun hf => ?_) (fun hf => ?_)
          · obtain ⟨rfl, rfl, rfl⟩ := q_inj3 (Option.some.inj hf)
            exact JE46 _ _ _ hP hD hS (lv_sub hl [] rfl)
          · refine lv_aload_n (pc := 54) hx hb dX7_lookAt_54 rfl (lv_at hl 0 rfl) ?_
            refine va_get (pc := 55) (D := D) (ci := 7) (v := .ref a_st_keysThere) (C := RX7) (T := TX7) (N := 9) hx hb hts hinX7 hown hK hP 0 rfl rfl 4 (by decide) w_1 (fun _ h9 => h9) rfl dX7_lookAt_55 ?_
            refine lv_aload_n (pc := 58) hx hb dX7_lookAt_58 rfl (lv_at hl 0 rfl) ?_
            refine va_get (pc := 59) (D := D) (ci := 7) (v := .ref a_st_levels) (C := RX7) (T := TX7) (N := 9) hx hb hts hinX7 hown hK hP 0 rfl rfl 1 (by decide) w_7 (fun _ h9 => h9) rfl dX7_lookAt_59 ?_
            refine lv_iload_n (pc := 62) hx hb dX7_lookAt_62 rfl (lv_at hl 1 rfl) ?_
            refine q_iald (pc := 63) hx hb hK hP 1 0 hf rfl rfl dX7_lookAt_63 (fun v13 hf => ?_)
            refine q_iald (pc := 64) hx hb hK hP 4 0 hf rfl rfl dX7_lookAt_64 (fun v14 hf => ?_)
            refine lv_aload_n (pc := 65) hx hb dX7_lookAt_65 rfl (lv_at hl 0 rfl) ?_
            refine va_get (pc := 66) (D := D) (ci := 7) (v := .ref a_st_keys) (C := RX7) (T := TX7) (N := 9) hx hb hts hinX7 hown hK hP 0 rfl rfl 2 (by decide) w_8 (fun _ h9 => h9) rfl dX7_lookAt_66 ?_
            refine lv_iload_n (pc := 69) hx hb dX7_lookAt_69 rfl (lv_at hl 1 rfl) ?_
            refine q_iald (pc := 70) hx hb hK hP 2 0 hf rfl rfl dX7_lookAt_70 (fun v15 hf => ?_)
            obtain ⟨k111, ek111, hf⟩ := q_j3_e hf
            have J111 : ∀ (v16 : Int32) (v17 : Int32) (v18 : Int32) (H : Heap) (locs : List Loc) (ls : Array Slot), k111 v16 v17 v18 = some (v10, v11, v12) → va_P D vwCl ((a_st, .inr (7, [.ref a_g, .ref a_st_levels, .ref a_st_keys, .ref a_st_years, .ref a_st_keysThere, .int st_size, .int v16, .int v17, .int v18])) :: (a_st_levels, .inl (ci 0, 60, .inl st_levels)) :: (a_st_keys, .inl (ci 0, 60, .inl st_keys)) :: (a_st_years, .inl (ci 0, 60, .inl st_years)) :: (a_st_keysThere, .inl (ci 0, 5, .inl f4)) :: (a_g, .inr (2, [.ref a_g_rowCuts, .ref a_g_columnCuts, .ref a_g_bandRows, .ref a_g_zoneColumns, .ref a_g_rows, .ref a_g_sheets])) :: (a_g_bandRows, .inl (ci 0, 5, .inl g_bandRows)) :: (a_g_zoneColumns, .inl (ci 0, 5, .inl g_zoneColumns)) :: (a_g_rows, .inl (ci 0, 5, .inl g_rows)) :: (a_g_sheets, .inl (ci 0, 5, .inl g_sheets)) :: Rw) H → va_D A ((a_st, .inr (7, [.ref a_g, .ref a_st_levels, .ref a_st_keys, .ref a_st_years, .ref a_st_keysThere, .int st_size, .int v16, .int v17, .int v18])) :: (a_st_levels, .inl (ci 0, 60, .inl st_levels)) :: (a_st_keys, .inl (ci 0, 60, .inl st_keys)) :: (a_st_years, .inl (ci 0, 60, .inl st_years)) :: (a_st_keysThere, .inl (ci 0, 5, .inl f4)) :: (a_g, .inr (2, [.ref a_g_rowCuts, .ref a_g_columnCuts, .ref a_g_bandRows, .ref a_g_zoneColumns, .ref a_g_rows, .ref a_g_sheets])) :: (a_g_bandRows, .inl (ci 0, 5, .inl g_bandRows)) :: (a_g_zoneColumns, .inl (ci 0, 5, .inl g_zoneColumns)) :: (a_g_rows, .inl (ci 0, 5, .inl g_rows)) :: (a_g_sheets, .inl (ci 0, 5, .inl g_sheets)) :: Rw) → va_S A s.heap H locs → lv_has ls 4 [(0, .ref a_st), (3, .int v6)] → W p l e ({ frames := 3, cells := 0, slots := 0, locals := 73 } : Room) s m ([.ref a_st, .int p1, .int p2] : List Value).toArray below meth c H locs 0 0 Q (F0 m 111 ls []) := by
              intro v16 v17 v18 H locs ls hf hP hD hS hl
              have hf := (ek111 v16 v17 v18).symm.trans hf
              obtain ⟨v19, ev19, hf⟩ := q_nm_e hf
              refine lv_iinc (pc := 111) (v := v19) (lv' := [(3, .int v19), (0, .ref a_st)]) hx hb dX7_lookAt_111 hl (k := 1) rfl (by rw [ev19]; rfl) (by decide) rfl (fun ls hl => ?_)
              refine lv_goto (pc := 114) (tgt := 46) hx hb dX7_lookAt_114 (by decide) ?_
              exact ih46 v19 v16 v17 v18 _ _ _ hf hP hD hS (lv_sub hl [1, 0] rfl)
            refine q_icmp_ne (pc := 71) (tgt := 111) hx hb dX7_lookAt_71 (by decide) rfl hf (fun hf => ?_) (fun hf => ?_)
            · exact J111 v7 v8 v9 _ _ _ hf hP hD hS (lv_sub hl [0, 1] rfl)
            · refine lv_aload_n (pc := 74) hx hb dX7_lookAt_74 rfl (lv_at hl 0 rfl) ?_
              refine lv_dup (pc := 75) hx hb dX7_lookAt_75 rfl ?_
              refine va_get (pc := 76) (D := D) (ci := 7) (v := .int v7) (C := RX7) (T := TX7) (N := 9) hx hb hts hinX7 hown hK hP 0 rfl rfl 6 (by decide) w_3 (fun _ h9 => h9) rfl dX7_lookAt_76 ?_
              refine lv_iconst (pc := 79) (v := 1) hx hb dX7_lookAt_79 (by decide) ?_
              refine lv_iadd (pc := 80) hx hb dX7_lookAt_80 ?_
              obtain ⟨v20, ev20, hf⟩ := q_nm_e hf
              refine q_topi ev20 ?_
              refine va_put (pc := 81) (D := D) (ci := 7) (v := .int v20) (ty := .int) (C := RX7) (T := TX7) (N := 9) hx hb hts hinX7 tyX7 tyX7_ok nmX7 hown hK hP hD hS 0 rfl rfl 6 (by decide) w_3 (fun _ h9 => h9) rfl (by decide +kernel) rfl rfl (Nat.le_of_ble_eq_true rfl) dX7_lookAt_81 (fun H locs hP hD hS => ?_)
              obtain ⟨hP, hD⟩ : va_PD D A ((a_st, .inr (7, [.ref a_g, .ref a_st_levels, .ref a_st_keys, .ref a_st_years, .ref a_st_keysThere, .int st_size, .int v20, .int v8, .int v9])) :: (a_st_levels, .inl (ci 0, 60, .inl st_levels)) :: (a_st_keys, .inl (ci 0, 60, .inl st_keys)) :: (a_st_years, .inl (ci 0, 60, .inl st_years)) :: (a_st_keysThere, .inl (ci 0, 5, .inl f4)) :: (a_g, .inr (2, [.ref a_g_rowCuts, .ref a_g_columnCuts, .ref a_g_bandRows, .ref a_g_zoneColumns, .ref a_g_rows, .ref a_g_sheets])) :: (a_g_bandRows, .inl (ci 0, 5, .inl g_bandRows)) :: (a_g_zoneColumns, .inl (ci 0, 5, .inl g_zoneColumns)) :: (a_g_rows, .inl (ci 0, 5, .inl g_rows)) :: (a_g_sheets, .inl (ci 0, 5, .inl g_sheets)) :: Rw) H := ⟨hP, hD⟩
              refine lv_aload_n (pc := 84) hx hb dX7_lookAt_84 rfl (lv_at hl 0 rfl) ?_
              refine lv_aload_n (pc := 85) hx hb dX7_lookAt_85 rfl (lv_at hl 0 rfl) ?_
              refine va_get (pc := 86) (D := D) (ci := 7) (v := .ref a_st_levels) (C := RX7) (T := TX7) (N := 9) hx hb hts hinX7 hown hK hP 0 rfl rfl 1 (by decide) w_7 (fun _ h9 => h9) rfl dX7_lookAt_86 ?_
              refine lv_iload_n (pc := 89) hx hb dX7_lookAt_89 rfl (lv_at hl 1 rfl) ?_
              refine q_iald (pc := 90) hx hb hK hP 1 0 hf rfl rfl dX7_lookAt_90 (fun v21 hf => ?_)
              refine va_put (pc := 91) (D := D) (ci := 7) (v := .int v21) (ty := .int) (C := RX7) (T := TX7) (N := 9) hx hb hts hinX7 tyX7 tyX7_ok nmX7 hown hK hP hD hS 0 rfl rfl 7 (by decide) w_4 (fun _ h9 => h9) rfl (by decide +kernel) rfl rfl (Nat.le_of_ble_eq_true rfl) dX7_lookAt_91 (fun H locs hP hD hS => ?_)
              obtain ⟨hP, hD⟩ : va_PD D A ((a_st, .inr (7, [.ref a_g, .ref a_st_levels, .ref a_st_keys, .ref a_st_years, .ref a_st_keysThere, .int st_size, .int v20, .int v21, .int v9])) :: (a_st_levels, .inl (ci 0, 60, .inl st_levels)) :: (a_st_keys, .inl (ci 0, 60, .inl st_keys)) :: (a_st_years, .inl (ci 0, 60, .inl st_years)) :: (a_st_keysThere, .inl (ci 0, 5, .inl f4)) :: (a_g, .inr (2, [.ref a_g_rowCuts, .ref a_g_columnCuts, .ref a_g_bandRows, .ref a_g_zoneColumns, .ref a_g_rows, .ref a_g_sheets])) :: (a_g_bandRows, .inl (ci 0, 5, .inl g_bandRows)) :: (a_g_zoneColumns, .inl (ci 0, 5, .inl g_zoneColumns)) :: (a_g_rows, .inl (ci 0, 5, .inl g_rows)) :: (a_g_sheets, .inl (ci 0, 5, .inl g_sheets)) :: Rw) H := ⟨hP, hD⟩
              refine lv_aload_n (pc := 94) hx hb dX7_lookAt_94 rfl (lv_at hl 0 rfl) ?_
              refine lv_aload_n (pc := 95) hx hb dX7_lookAt_95 rfl (lv_at hl 0 rfl) ?_
              refine va_get (pc := 96) (D := D) (ci := 7) (v := .int v9) (C := RX7) (T := TX7) (N := 9) hx hb hts hinX7 hown hK hP 0 rfl rfl 8 (by decide) w_5 (fun _ h9 => h9) rfl dX7_lookAt_96 ?_
              refine lv_aload_n (pc := 99) hx hb dX7_lookAt_99 rfl (lv_at hl 0 rfl) ?_
              refine va_get (pc := 100) (D := D) (ci := 7) (v := .ref a_st_years) (C := RX7) (T := TX7) (N := 9) hx hb hts hinX7 hown hK hP 0 rfl rfl 3 (by decide) w_9 (fun _ h9 => h9) rfl dX7_lookAt_100 ?_
              refine lv_iload_n (pc := 103) hx hb dX7_lookAt_103 rfl (lv_at hl 1 rfl) ?_
              refine q_iald (pc := 104) hx hb hK hP 3 0 hf rfl rfl dX7_lookAt_104 (fun v22 hf => ?_)
              obtain ⟨v23, ev23, hf⟩ := q_nm_e hf
              refine va_mmax (pc := 105) hx hb (hml.trans hl.1.symm) hown w_10 w_11 w_12 w_13 (Nat.le_of_ble_eq_true rfl) (Nat.le_of_ble_eq_true rfl) (Nat.zero_le _) (Nat.zero_le _) dX7_lookAt_105 ?_
              refine q_topi ev23 ?_
              refine va_put (pc := 108) (D := D) (ci := 7) (v := .int v23) (ty := .int) (C := RX7) (T := TX7) (N := 9) hx hb hts hinX7 tyX7 tyX7_ok nmX7 hown hK hP hD hS 0 rfl rfl 8 (by decide) w_5 (fun _ h9 => h9) rfl (by decide +kernel) rfl rfl (Nat.le_of_ble_eq_true rfl) dX7_lookAt_108 (fun H locs hP hD hS => ?_)
              obtain ⟨hP, hD⟩ : va_PD D A ((a_st, .inr (7, [.ref a_g, .ref a_st_levels, .ref a_st_keys, .ref a_st_years, .ref a_st_keysThere, .int st_size, .int v20, .int v21, .int v23])) :: (a_st_levels, .inl (ci 0, 60, .inl st_levels)) :: (a_st_keys, .inl (ci 0, 60, .inl st_keys)) :: (a_st_years, .inl (ci 0, 60, .inl st_years)) :: (a_st_keysThere, .inl (ci 0, 5, .inl f4)) :: (a_g, .inr (2, [.ref a_g_rowCuts, .ref a_g_columnCuts, .ref a_g_bandRows, .ref a_g_zoneColumns, .ref a_g_rows, .ref a_g_sheets])) :: (a_g_bandRows, .inl (ci 0, 5, .inl g_bandRows)) :: (a_g_zoneColumns, .inl (ci 0, 5, .inl g_zoneColumns)) :: (a_g_rows, .inl (ci 0, 5, .inl g_rows)) :: (a_g_sheets, .inl (ci 0, 5, .inl g_sheets)) :: Rw) H := ⟨hP, hD⟩
              exact J111 v20 v21 v23 _ _ _ hf hP hD hS (lv_sub hl [0, 1] rfl)
      exact LP46 N v5 0 0 0 _ _ _ hm46 hP hD hS (lv_sub hl [1, 0] rfl)
    have LP2 : ∀ (n2 : Nat) (v2 : Int32) (f3 : Nat → Int32) (H : Heap) (locs : List Loc) (ls : Array Slot), f_Store_lookAt_L2 g_bandRows g_rows g_sheets g_zoneColumns p1 p2 n2 v2 f3 = some f4 → va_P D vwCl ((a_st, .inr (7, [.ref a_g, .ref a_st_levels, .ref a_st_keys, .ref a_st_years, .ref a_st_keysThere, .int st_size, .int st_shownBy, .int st_deepestShown, .int st_latestShown])) :: (a_st_levels, .inl (ci 0, 60, .inl st_levels)) :: (a_st_keys, .inl (ci 0, 60, .inl st_keys)) :: (a_st_years, .inl (ci 0, 60, .inl st_years)) :: (a_st_keysThere, .inl (ci 0, 5, .inl f3)) :: (a_g, .inr (2, [.ref a_g_rowCuts, .ref a_g_columnCuts, .ref a_g_bandRows, .ref a_g_zoneColumns, .ref a_g_rows, .ref a_g_sheets])) :: (a_g_bandRows, .inl (ci 0, 5, .inl g_bandRows)) :: (a_g_zoneColumns, .inl (ci 0, 5, .inl g_zoneColumns)) :: (a_g_rows, .inl (ci 0, 5, .inl g_rows)) :: (a_g_sheets, .inl (ci 0, 5, .inl g_sheets)) :: Rw) H → va_D A ((a_st, .inr (7, [.ref a_g, .ref a_st_levels, .ref a_st_keys, .ref a_st_years, .ref a_st_keysThere, .int st_size, .int st_shownBy, .int st_deepestShown, .int st_latestShown])) :: (a_st_levels, .inl (ci 0, 60, .inl st_levels)) :: (a_st_keys, .inl (ci 0, 60, .inl st_keys)) :: (a_st_years, .inl (ci 0, 60, .inl st_years)) :: (a_st_keysThere, .inl (ci 0, 5, .inl f3)) :: (a_g, .inr (2, [.ref a_g_rowCuts, .ref a_g_columnCuts, .ref a_g_bandRows, .ref a_g_zoneColumns, .ref a_g_rows, .ref a_g_sheets])) :: (a_g_bandRows, .inl (ci 0, 5, .inl g_bandRows)) :: (a_g_zoneColumns, .inl (ci 0, 5, .inl g_zoneColumns)) :: (a_g_rows, .inl (ci 0, 5, .inl g_rows)) :: (a_g_sheets, .inl (ci 0, 5, .inl g_sheets)) :: Rw) → va_S A s.heap H locs → lv_has ls 4 [(0, .ref a_st), (1, .int p1), (2, .int p2), (3, .int v2)] → W p l e ({ frames := 3, cells := 0, slots := 0, locals := 73 } : Room) s m ([.ref a_st, .int p1, .int p2] : List Value).toArray below meth c H locs 0 0 Q (F0 m 2 ls []) := by
      intro n2
      induction n2 with
      | zero => intro v2 f3 H locs ls hf; rw [f_Store_lookAt_L2] at hf; cases hf
      | succ n2 ih2 =>
        intro v2 f3 H locs ls hf hP hD hS hl
        rw [f_Store_lookAt_L2] at hf
        refine lv_iload_n (pc := 2) hx hb dX7_lookAt_2 rfl (lv_at hl 3 rfl) ?_
        refine lv_iconst (pc := 3) (v := 4) hx hb dX7_lookAt_3 (by decide) ?_
        refine q_icmp_gt (pc := 4) (tgt := 29) hx hb dX7_lookAt_4 (by decide) rfl hf (fun hf => ?_) (fun hf => ?_)
        · obtain rfl := Option.some.inj hf
          exact JE2 _ _ _ hP hD hS (lv_sub hl [0] rfl)
        · refine lv_aload_n (pc := 7) hx hb dX7_lookAt_7 rfl (lv_at hl 0 rfl) ?_
          refine va_get (pc := 8) (D := D) (ci := 7) (v := .ref a_st_keysThere) (C := RX7) (T := TX7) (N := 9) hx hb hts hinX7 hown hK hP 0 rfl rfl 4 (by decide) w_1 (fun _ h9 => h9) rfl dX7_lookAt_8 ?_
          refine lv_iload_n (pc := 11) hx hb dX7_lookAt_11 rfl (lv_at hl 3 rfl) ?_
          refine lv_aload_n (pc := 12) hx hb dX7_lookAt_12 rfl (lv_at hl 0 rfl) ?_
          refine va_get (pc := 13) (D := D) (ci := 7) (v := .ref a_g) (C := RX7) (T := TX7) (N := 9) hx hb hts hinX7 hown hK hP 0 rfl rfl 0 (by decide) w_2 (fun _ h9 => h9) rfl dX7_lookAt_13 ?_
          refine lv_iload_n (pc := 16) hx hb dX7_lookAt_16 rfl (lv_at hl 3 rfl) ?_
          refine lv_iload_n (pc := 17) hx hb dX7_lookAt_17 rfl (lv_at hl 1 rfl) ?_
          refine lv_iload_n (pc := 18) hx hb dX7_lookAt_18 rfl (lv_at hl 2 rfl) ?_
          obtain ⟨v24, hm19, hf⟩ := q_b1_e hf
          refine q_cVr (pc := 19) (As := [.int v2, .int p1, .int p2]) (rest := [.int v2, .ref a_st_keysThere]) (v0 := (some (.int v24))) ⟨hx, hb, hml, hown, hts⟩ hK hA hZ hP hD hS hl.1 [5, 6, 7, 8, 9] 10 rfl ⟨rfl, rfl, rfl⟩ (c_Grid_keyOf l D ci A sa N (Rw) a_g a_g_rowCuts a_g_columnCuts a_g_bandRows a_g_zoneColumns a_g_rows a_g_sheets g_bandRows g_zoneColumns g_rows g_sheets v2 p1 p2 v24 hm19) 5 rfl rfl (cwV 3 hts gX7_lookAt_X2_keyOf rfl rfl rfl (by decide +kernel) ⟨Nat.le_of_ble_eq_true rfl, Nat.le_of_ble_eq_true rfl⟩) rfl rfl (Nat.le_of_ble_eq_true rfl) dX7_lookAt_19 ⟨Nat.zero_le _, Nat.zero_le _⟩ (fun locs hS => ?_)
          refine q_iast (pc := 22) hx hb hK hP hD hS 4 0 hf rfl rfl dX7_lookAt_22 (fun f25 H locs hf hP hD hS => ?_)
          obtain ⟨hP, hD⟩ : va_PD D A ((a_st, .inr (7, [.ref a_g, .ref a_st_levels, .ref a_st_keys, .ref a_st_years, .ref a_st_keysThere, .int st_size, .int st_shownBy, .int st_deepestShown, .int st_latestShown])) :: (a_st_levels, .inl (ci 0, 60, .inl st_levels)) :: (a_st_keys, .inl (ci 0, 60, .inl st_keys)) :: (a_st_years, .inl (ci 0, 60, .inl st_years)) :: (a_st_keysThere, .inl (ci 0, 5, .inl f25)) :: (a_g, .inr (2, [.ref a_g_rowCuts, .ref a_g_columnCuts, .ref a_g_bandRows, .ref a_g_zoneColumns, .ref a_g_rows, .ref a_g_sheets])) :: (a_g_bandRows, .inl (ci 0, 5, .inl g_bandRows)) :: (a_g_zoneColumns, .inl (ci 0, 5, .inl g_zoneColumns)) :: (a_g_rows, .inl (ci 0, 5, .inl g_rows)) :: (a_g_sheets, .inl (ci 0, 5, .inl g_sheets)) :: Rw) H := ⟨hP, hD⟩
          obtain ⟨v26, ev26, hf⟩ := q_nm_e hf
          refine lv_iinc (pc := 23) (v := v26) (lv' := [(3, .int v26), (0, .ref a_st), (1, .int p1), (2, .int p2)]) hx hb dX7_lookAt_23 hl (k := 3) rfl (by rw [ev26]; rfl) (by decide) rfl (fun ls hl => ?_)
          refine lv_goto (pc := 26) (tgt := 2) hx hb dX7_lookAt_26 (by decide) ?_
          exact ih2 v26 f25 _ _ _ hf hP hD hS (lv_sub hl [1, 2, 3, 0] rfl)
    exact LP2 N v1 st_keysThere _ _ _ hm2 hP hD hS (lv_sub hl [1, 2, 3, 0] rfl)
  exact hgo _ _ rfl hP hS
/-! X7_move -/
set_option maxRecDepth 100000 in
set_option maxHeartbeats 4000000 in
theorem c_Store_move (l : Launch) (D : va_G) (ci : Nat → ClassId) (A : Nat → Prop) (sa : Nat → Nat) (N : Nat) (Rw : va_W) (a_st : Nat) (a_g : Nat) (a_st_levels : Nat) (a_st_keys : Nat) (a_st_years : Nat) (a_st_keysThere : Nat) (st_size : Int32) (st_shownBy : Int32) (st_deepestShown : Int32) (st_latestShown : Int32) (st_levels : Nat → Int32) (st_keys : Nat → Int32) (st_years : Nat → Int32) (p1 : Int32) (p2 : Int32) (o1 : Nat → Int32) (o2 : Nat → Int32) (o3 : Nat → Int32) (hf : f_Store_move st_levels st_keys st_years p1 p2 = some (o1, o2, o3)) : Met l yX7_move wsX7_move ({ frames := 0, cells := 0, slots := 0, locals := 0 }) (va_Pc [.ref a_st, .int p1, .int p2] (q_N D ci A sa ((a_st, .inr (7, [.ref a_g, .ref a_st_levels, .ref a_st_keys, .ref a_st_years, .ref a_st_keysThere, .int st_size, .int st_shownBy, .int st_deepestShown, .int st_latestShown])) :: (a_st_levels, .inl (ci 0, 60, .inl st_levels)) :: (a_st_keys, .inl (ci 0, 60, .inl st_keys)) :: (a_st_years, .inl (ci 0, 60, .inl st_years)) :: Rw))) (q_Q none (q_O D A ((a_st, .inr (7, [.ref a_g, .ref a_st_levels, .ref a_st_keys, .ref a_st_years, .ref a_st_keysThere, .int st_size, .int st_shownBy, .int st_deepestShown, .int st_latestShown])) :: (a_st_levels, .inl (ci 0, 60, .inl o1)) :: (a_st_keys, .inl (ci 0, 60, .inl o2)) :: (a_st_years, .inl (ci 0, 60, .inl o3)) :: Rw)) A) 0 0 A := by
  refine q_ofW (cc := cX7_move) (maxL := 3) (ret := none) [.ref a_st, .int p1, .int p2] (plainFor_of_name (by decide)) rfl (Nat.le_of_ble_eq_true rfl) ?_
  intro p e s m below meth c ls Q hQ hx hb hml hr hts hown hlocks hK hA hZ hP hD hS hl
  have hl : lv_has ls 3 [(0, .ref a_st), (1, .int p1), (2, .int p2)] := hl
  have hown : s.vm.findClass RX7 = some m.cls := hown
  have hinX7 : ∀ w ∈ wsX70, w ∈ wsX7_move := fun _ h => List.mem_cons_of_mem _ (inWX70 _ h)
  have w_1 := hts (Cond.fieldLink RX7 9 "SheetNames$Store" "levels" "[I") (List.mem_cons_of_mem _ t_w859)
  have w_2 := hts (Cond.fieldLink RX7 15 "SheetNames$Store" "keys" "[I") (List.mem_cons_of_mem _ t_w861)
  have w_3 := hts (Cond.fieldLink RX7 18 "SheetNames$Store" "years" "[I") (List.mem_cons_of_mem _ t_w862)
  unfold f_Store_move at hf
  have hgo : ∀ (H : Heap) (locs : List Loc), H = s.heap → va_P D vwCl ((a_st, .inr (7, [.ref a_g, .ref a_st_levels, .ref a_st_keys, .ref a_st_years, .ref a_st_keysThere, .int st_size, .int st_shownBy, .int st_deepestShown, .int st_latestShown])) :: (a_st_levels, .inl (ci 0, 60, .inl st_levels)) :: (a_st_keys, .inl (ci 0, 60, .inl st_keys)) :: (a_st_years, .inl (ci 0, 60, .inl st_years)) :: Rw) H → va_S A s.heap H locs → W p l e ({ frames := 0, cells := 0, slots := 0, locals := 0 } : Room) s m ([.ref a_st, .int p1, .int p2] : List Value).toArray below meth c H locs 0 0 Q (F0 m 0 ls []) := by
    intro H locs hH hP hS
    refine lv_aload_n (pc := 0) hx hb dX7_move_0 rfl (lv_at hl 0 rfl) ?_
    refine va_get (pc := 1) (D := D) (ci := 7) (v := .ref a_st_levels) (C := RX7) (T := TX7) (N := 9) hx hb hts hinX7 hown hK hP 0 rfl rfl 1 (by decide) w_1 (fun _ h9 => h9) rfl dX7_move_1 ?_
    refine lv_iload_n (pc := 4) hx hb dX7_move_4 rfl (lv_at hl 2 rfl) ?_
    refine lv_aload_n (pc := 5) hx hb dX7_move_5 rfl (lv_at hl 0 rfl) ?_
    refine va_get (pc := 6) (D := D) (ci := 7) (v := .ref a_st_levels) (C := RX7) (T := TX7) (N := 9) hx hb hts hinX7 hown hK hP 0 rfl rfl 1 (by decide) w_1 (fun _ h9 => h9) rfl dX7_move_6 ?_
    refine lv_iload_n (pc := 9) hx hb dX7_move_9 rfl (lv_at hl 1 rfl) ?_
    refine q_iald (pc := 10) hx hb hK hP 1 0 hf rfl rfl dX7_move_10 (fun v1 hf => ?_)
    refine q_iast (pc := 11) hx hb hK hP hD hS 1 0 hf rfl rfl dX7_move_11 (fun f2 H locs hf hP hD hS => ?_)
    obtain ⟨hP, hD⟩ : va_PD D A ((a_st, .inr (7, [.ref a_g, .ref a_st_levels, .ref a_st_keys, .ref a_st_years, .ref a_st_keysThere, .int st_size, .int st_shownBy, .int st_deepestShown, .int st_latestShown])) :: (a_st_levels, .inl (ci 0, 60, .inl f2)) :: (a_st_keys, .inl (ci 0, 60, .inl st_keys)) :: (a_st_years, .inl (ci 0, 60, .inl st_years)) :: Rw) H := ⟨hP, hD⟩
    refine lv_aload_n (pc := 12) hx hb dX7_move_12 rfl (lv_at hl 0 rfl) ?_
    refine va_get (pc := 13) (D := D) (ci := 7) (v := .ref a_st_keys) (C := RX7) (T := TX7) (N := 9) hx hb hts hinX7 hown hK hP 0 rfl rfl 2 (by decide) w_2 (fun _ h9 => h9) rfl dX7_move_13 ?_
    refine lv_iload_n (pc := 16) hx hb dX7_move_16 rfl (lv_at hl 2 rfl) ?_
    refine lv_aload_n (pc := 17) hx hb dX7_move_17 rfl (lv_at hl 0 rfl) ?_
    refine va_get (pc := 18) (D := D) (ci := 7) (v := .ref a_st_keys) (C := RX7) (T := TX7) (N := 9) hx hb hts hinX7 hown hK hP 0 rfl rfl 2 (by decide) w_2 (fun _ h9 => h9) rfl dX7_move_18 ?_
    refine lv_iload_n (pc := 21) hx hb dX7_move_21 rfl (lv_at hl 1 rfl) ?_
    refine q_iald (pc := 22) hx hb hK hP 2 0 hf rfl rfl dX7_move_22 (fun v3 hf => ?_)
    refine q_iast (pc := 23) hx hb hK hP hD hS 2 0 hf rfl rfl dX7_move_23 (fun f4 H locs hf hP hD hS => ?_)
    obtain ⟨hP, hD⟩ : va_PD D A ((a_st, .inr (7, [.ref a_g, .ref a_st_levels, .ref a_st_keys, .ref a_st_years, .ref a_st_keysThere, .int st_size, .int st_shownBy, .int st_deepestShown, .int st_latestShown])) :: (a_st_levels, .inl (ci 0, 60, .inl f2)) :: (a_st_keys, .inl (ci 0, 60, .inl f4)) :: (a_st_years, .inl (ci 0, 60, .inl st_years)) :: Rw) H := ⟨hP, hD⟩
    refine lv_aload_n (pc := 24) hx hb dX7_move_24 rfl (lv_at hl 0 rfl) ?_
    refine va_get (pc := 25) (D := D) (ci := 7) (v := .ref a_st_years) (C := RX7) (T := TX7) (N := 9) hx hb hts hinX7 hown hK hP 0 rfl rfl 3 (by decide) w_3 (fun _ h9 => h9) rfl dX7_move_25 ?_
    refine lv_iload_n (pc := 28) hx hb dX7_move_28 rfl (lv_at hl 2 rfl) ?_
    refine lv_aload_n (pc := 29) hx hb dX7_move_29 rfl (lv_at hl 0 rfl) ?_
    refine va_get (pc := 30) (D := D) (ci := 7) (v := .ref a_st_years) (C := RX7) (T := TX7) (N := 9) hx hb hts hinX7 hown hK hP 0 rfl rfl 3 (by decide) w_3 (fun _ h9 => h9) rfl dX7_move_30 ?_
    refine lv_iload_n (pc := 33) hx hb dX7_move_33 rfl (lv_at hl 1 rfl) ?_
    refine q_iald (pc := 34) hx hb hK hP 3 0 hf rfl rfl dX7_move_34 (fun v5 hf => ?_)
    refine q_iast (pc := 35) hx hb hK hP hD hS 3 0 hf rfl rfl dX7_move_35 (fun f6 H locs hf hP hD hS => ?_)
    obtain ⟨hP, hD⟩ : va_PD D A ((a_st, .inr (7, [.ref a_g, .ref a_st_levels, .ref a_st_keys, .ref a_st_years, .ref a_st_keysThere, .int st_size, .int st_shownBy, .int st_deepestShown, .int st_latestShown])) :: (a_st_levels, .inl (ci 0, 60, .inl f2)) :: (a_st_keys, .inl (ci 0, 60, .inl f4)) :: (a_st_years, .inl (ci 0, 60, .inl f6)) :: Rw) H := ⟨hP, hD⟩
    obtain ⟨e90, e91, e92⟩ := q_inj3 (Option.some.inj hf)
    rw [hQ, ← e90, ← e91, ← e92]
    exact q_vret (pc := 36) hx hb hr hlocks hP hD hS dX7_move_36
  exact hgo _ _ rfl hP hS
/-! X7_put -/
set_option maxRecDepth 100000 in
set_option maxHeartbeats 4000000 in
theorem c_Store_put (l : Launch) (D : va_G) (ci : Nat → ClassId) (A : Nat → Prop) (sa : Nat → Nat) (N : Nat) (Rw : va_W) (a_st : Nat) (a_g : Nat) (a_st_levels : Nat) (a_st_keys : Nat) (a_st_years : Nat) (a_st_keysThere : Nat) (st_size : Int32) (st_shownBy : Int32) (st_deepestShown : Int32) (st_latestShown : Int32) (st_levels : Nat → Int32) (st_keys : Nat → Int32) (st_years : Nat → Int32) (p1 : Int32) (p2 : Int32) (p3 : Int32) (r : Int32) (o1 : Nat → Int32) (o2 : Nat → Int32) (o3 : Nat → Int32) (o4 : Int32) (hf : f_Store_put N st_levels st_keys st_years st_size p1 p2 p3 = some (r, o1, o2, o3, o4)) : Met l yX7_put wsX7_put ({ frames := 1, cells := 0, slots := 0, locals := 23 }) (va_Pc [.ref a_st, .int p1, .int p2, .int p3] (q_N D ci A sa ((a_st, .inr (7, [.ref a_g, .ref a_st_levels, .ref a_st_keys, .ref a_st_years, .ref a_st_keysThere, .int st_size, .int st_shownBy, .int st_deepestShown, .int st_latestShown])) :: (a_st_levels, .inl (ci 0, 60, .inl st_levels)) :: (a_st_keys, .inl (ci 0, 60, .inl st_keys)) :: (a_st_years, .inl (ci 0, 60, .inl st_years)) :: Rw))) (q_Q (some (.int r)) (q_O D A ((a_st, .inr (7, [.ref a_g, .ref a_st_levels, .ref a_st_keys, .ref a_st_years, .ref a_st_keysThere, .int o4, .int st_shownBy, .int st_deepestShown, .int st_latestShown])) :: (a_st_levels, .inl (ci 0, 60, .inl o1)) :: (a_st_keys, .inl (ci 0, 60, .inl o2)) :: (a_st_years, .inl (ci 0, 60, .inl o3)) :: Rw)) A) 0 0 A := by
  refine q_ofW (cc := cX7_put) (maxL := 6) (ret := (some .boolean)) [.ref a_st, .int p1, .int p2, .int p3] (plainFor_of_name (by decide)) rfl (Nat.le_of_ble_eq_true rfl) ?_
  intro p e s m below meth c ls Q hQ hx hb hml hr hts hown hlocks hK hA hZ hP hD hS hl
  have hl : lv_has ls 6 [(0, .ref a_st), (1, .int p1), (2, .int p2), (3, .int p3)] := hl
  have hown : s.vm.findClass RX7 = some m.cls := hown
  have hinX7 : ∀ w ∈ wsX70, w ∈ wsX7_put := fun _ h => List.mem_cons_of_mem _ (inWX70 _ h)
  have w_1 := hts (Cond.fieldLink RX7 18 "SheetNames$Store" "years" "[I") (List.mem_cons_of_mem _ t_w862)
  have w_2 := hts (Cond.fieldLink RX7 24 "SheetNames$Store" "size" "I") (List.mem_cons_of_mem _ t_w863)
  have w_3 := hts (Cond.fieldLink RX7 9 "SheetNames$Store" "levels" "[I") (List.mem_cons_of_mem _ t_w859)
  have w_4 := hts (Cond.fieldLink RX7 15 "SheetNames$Store" "keys" "[I") (List.mem_cons_of_mem _ t_w861)
  unfold f_Store_put at hf
  have hgo : ∀ (H : Heap) (locs : List Loc), H = s.heap → va_P D vwCl ((a_st, .inr (7, [.ref a_g, .ref a_st_levels, .ref a_st_keys, .ref a_st_years, .ref a_st_keysThere, .int st_size, .int st_shownBy, .int st_deepestShown, .int st_latestShown])) :: (a_st_levels, .inl (ci 0, 60, .inl st_levels)) :: (a_st_keys, .inl (ci 0, 60, .inl st_keys)) :: (a_st_years, .inl (ci 0, 60, .inl st_years)) :: Rw) H → va_S A s.heap H locs → W p l e ({ frames := 1, cells := 0, slots := 0, locals := 23 } : Room) s m ([.ref a_st, .int p1, .int p2, .int p3] : List Value).toArray below meth c H locs 0 0 Q (F0 m 0 ls []) := by
    intro H locs hH hP hS
    refine lv_aload_n (pc := 0) hx hb dX7_put_0 rfl (lv_at hl 0 rfl) ?_
    refine lv_iload_n (pc := 1) hx hb dX7_put_1 rfl (lv_at hl 1 rfl) ?_
    refine lv_iload_n (pc := 2) hx hb dX7_put_2 rfl (lv_at hl 2 rfl) ?_
    obtain ⟨v1, hm3, hf⟩ := q_b1_e hf
    refine q_cVr (pc := 3) (As := [.int p1, .int p2]) (rest := []) (v0 := (some (.int v1))) ⟨hx, hb, hml, hown, hts⟩ hK hA hZ hP hD hS hl.1 [0, 1, 2] 4 rfl ⟨rfl, rfl, rfl⟩ (c_Store_find l D ci A sa N (Rw) a_st a_g a_st_levels a_st_keys a_st_years a_st_keysThere st_size st_shownBy st_deepestShown st_latestShown st_levels st_keys p1 p2 v1 hm3) 0 rfl rfl (cwV 2 hts gX7_put_X7_find rfl rfl rfl (by decide +kernel) ⟨Nat.le_of_ble_eq_true rfl, Nat.le_of_ble_eq_true rfl⟩) rfl rfl (Nat.le_of_ble_eq_true rfl) dX7_put_3 ⟨Nat.zero_le _, Nat.zero_le _⟩ (fun locs hS => ?_)
    refine lv_istore (pc := 6) (lv' := [(4, .int v1), (0, .ref a_st), (1, .int p1), (2, .int p2), (3, .int p3)]) hx hb dX7_put_6 hl (by decide) rfl (fun ls hl => ?_)
    refine lv_iload (pc := 8) hx hb dX7_put_8 (lv_at hl 0 rfl) ?_
    refine lv_iconst (pc := 10) (v := (-1)) hx hb dX7_put_10 (by decide) ?_
    refine q_icmp_eq (pc := 11) (tgt := 24) hx hb dX7_put_11 (by decide) rfl hf (fun hf => ?_) (fun hf => ?_)
    · refine lv_aload_n (pc := 24) hx hb dX7_put_24 rfl (lv_at hl 1 rfl) ?_
      refine va_get (pc := 25) (D := D) (ci := 7) (v := .int st_size) (C := RX7) (T := TX7) (N := 9) hx hb hts hinX7 hown hK hP 0 rfl rfl 5 (by decide) w_2 (fun _ h9 => h9) rfl dX7_put_25 ?_
      refine lv_bipush (pc := 28) (v := 60) hx hb dX7_put_28 (by decide) ?_
      refine q_icmp_lt (pc := 30) (tgt := 35) hx hb dX7_put_30 (by decide) rfl hf (fun hf => ?_) (fun hf => ?_)
      · refine lv_aload_n (pc := 35) hx hb dX7_put_35 rfl (lv_at hl 1 rfl) ?_
        refine va_get (pc := 36) (D := D) (ci := 7) (v := .int st_size) (C := RX7) (T := TX7) (N := 9) hx hb hts hinX7 hown hK hP 0 rfl rfl 5 (by decide) w_2 (fun _ h9 => h9) rfl dX7_put_36 ?_
        refine lv_istore (pc := 39) (lv' := [(5, .int st_size), (4, .int v1), (0, .ref a_st), (1, .int p1), (2, .int p2), (3, .int p3)]) hx hb dX7_put_39 hl (by decide) rfl (fun ls hl => ?_)
        obtain ⟨v6, f7, f8, f9, hm41, hf⟩ := q_b4_e hf
        have JE41 : ∀ (H : Heap) (locs : List Loc) (ls : Array Slot), va_P D vwCl ((a_st, .inr (7, [.ref a_g, .ref a_st_levels, .ref a_st_keys, .ref a_st_years, .ref a_st_keysThere, .int st_size, .int st_shownBy, .int st_deepestShown, .int st_latestShown])) :: (a_st_levels, .inl (ci 0, 60, .inl f7)) :: (a_st_keys, .inl (ci 0, 60, .inl f8)) :: (a_st_years, .inl (ci 0, 60, .inl f9)) :: Rw) H → va_D A ((a_st, .inr (7, [.ref a_g, .ref a_st_levels, .ref a_st_keys, .ref a_st_years, .ref a_st_keysThere, .int st_size, .int st_shownBy, .int st_deepestShown, .int st_latestShown])) :: (a_st_levels, .inl (ci 0, 60, .inl f7)) :: (a_st_keys, .inl (ci 0, 60, .inl f8)) :: (a_st_years, .inl (ci 0, 60, .inl f9)) :: Rw) → va_S A s.heap H locs → lv_has ls 6 [(0, .ref a_st), (1, .int p1), (2, .int p2), (3, .int p3), (5, .int v6)] → W p l e ({ frames := 1, cells := 0, slots := 0, locals := 23 } : Room) s m ([.ref a_st, .int p1, .int p2, .int p3] : List Value).toArray below meth c H locs 0 0 Q (F0 m 75 ls []) := by
          intro H locs ls hP hD hS hl
          refine lv_aload_n (pc := 75) hx hb dX7_put_75 rfl (lv_at hl 0 rfl) ?_
          refine va_get (pc := 76) (D := D) (ci := 7) (v := .ref a_st_levels) (C := RX7) (T := TX7) (N := 9) hx hb hts hinX7 hown hK hP 0 rfl rfl 1 (by decide) w_3 (fun _ h9 => h9) rfl dX7_put_76 ?_
          refine lv_iload (pc := 79) hx hb dX7_put_79 (lv_at hl 4 rfl) ?_
          refine lv_iload_n (pc := 81) hx hb dX7_put_81 rfl (lv_at hl 1 rfl) ?_
          refine q_iast (pc := 82) hx hb hK hP hD hS 1 0 hf rfl rfl dX7_put_82 (fun f10 H locs hf hP hD hS => ?_)
          obtain ⟨hP, hD⟩ : va_PD D A ((a_st, .inr (7, [.ref a_g, .ref a_st_levels, .ref a_st_keys, .ref a_st_years, .ref a_st_keysThere, .int st_size, .int st_shownBy, .int st_deepestShown, .int st_latestShown])) :: (a_st_levels, .inl (ci 0, 60, .inl f10)) :: (a_st_keys, .inl (ci 0, 60, .inl f8)) :: (a_st_years, .inl (ci 0, 60, .inl f9)) :: Rw) H := ⟨hP, hD⟩
          refine lv_aload_n (pc := 83) hx hb dX7_put_83 rfl (lv_at hl 0 rfl) ?_
          refine va_get (pc := 84) (D := D) (ci := 7) (v := .ref a_st_keys) (C := RX7) (T := TX7) (N := 9) hx hb hts hinX7 hown hK hP 0 rfl rfl 2 (by decide) w_4 (fun _ h9 => h9) rfl dX7_put_84 ?_
          refine lv_iload (pc := 87) hx hb dX7_put_87 (lv_at hl 4 rfl) ?_
          refine lv_iload_n (pc := 89) hx hb dX7_put_89 rfl (lv_at hl 2 rfl) ?_
          refine q_iast (pc := 90) hx hb hK hP hD hS 2 0 hf rfl rfl dX7_put_90 (fun f11 H locs hf hP hD hS => ?_)
          obtain ⟨hP, hD⟩ : va_PD D A ((a_st, .inr (7, [.ref a_g, .ref a_st_levels, .ref a_st_keys, .ref a_st_years, .ref a_st_keysThere, .int st_size, .int st_shownBy, .int st_deepestShown, .int st_latestShown])) :: (a_st_levels, .inl (ci 0, 60, .inl f10)) :: (a_st_keys, .inl (ci 0, 60, .inl f11)) :: (a_st_years, .inl (ci 0, 60, .inl f9)) :: Rw) H := ⟨hP, hD⟩
          refine lv_aload_n (pc := 91) hx hb dX7_put_91 rfl (lv_at hl 0 rfl) ?_
          refine va_get (pc := 92) (D := D) (ci := 7) (v := .ref a_st_years) (C := RX7) (T := TX7) (N := 9) hx hb hts hinX7 hown hK hP 0 rfl rfl 3 (by decide) w_1 (fun _ h9 => h9) rfl dX7_put_92 ?_
          refine lv_iload (pc := 95) hx hb dX7_put_95 (lv_at hl 4 rfl) ?_
          refine lv_iload_n (pc := 97) hx hb dX7_put_97 rfl (lv_at hl 3 rfl) ?_
          refine q_iast (pc := 98) hx hb hK hP hD hS 3 0 hf rfl rfl dX7_put_98 (fun f12 H locs hf hP hD hS => ?_)
          obtain ⟨hP, hD⟩ : va_PD D A ((a_st, .inr (7, [.ref a_g, .ref a_st_levels, .ref a_st_keys, .ref a_st_years, .ref a_st_keysThere, .int st_size, .int st_shownBy, .int st_deepestShown, .int st_latestShown])) :: (a_st_levels, .inl (ci 0, 60, .inl f10)) :: (a_st_keys, .inl (ci 0, 60, .inl f11)) :: (a_st_years, .inl (ci 0, 60, .inl f12)) :: Rw) H := ⟨hP, hD⟩
          refine lv_aload_n (pc := 99) hx hb dX7_put_99 rfl (lv_at hl 0 rfl) ?_
          refine lv_dup (pc := 100) hx hb dX7_put_100 rfl ?_
          refine va_get (pc := 101) (D := D) (ci := 7) (v := .int st_size) (C := RX7) (T := TX7) (N := 9) hx hb hts hinX7 hown hK hP 0 rfl rfl 5 (by decide) w_2 (fun _ h9 => h9) rfl dX7_put_101 ?_
          refine lv_iconst (pc := 104) (v := 1) hx hb dX7_put_104 (by decide) ?_
          refine lv_iadd (pc := 105) hx hb dX7_put_105 ?_
          obtain ⟨v13, ev13, hf⟩ := q_nm_e hf
          refine q_topi ev13 ?_
          refine va_put (pc := 106) (D := D) (ci := 7) (v := .int v13) (ty := .int) (C := RX7) (T := TX7) (N := 9) hx hb hts hinX7 tyX7 tyX7_ok nmX7 hown hK hP hD hS 0 rfl rfl 5 (by decide) w_2 (fun _ h9 => h9) rfl (by decide +kernel) rfl rfl (Nat.le_of_ble_eq_true rfl) dX7_put_106 (fun H locs hP hD hS => ?_)
          obtain ⟨hP, hD⟩ : va_PD D A ((a_st, .inr (7, [.ref a_g, .ref a_st_levels, .ref a_st_keys, .ref a_st_years, .ref a_st_keysThere, .int v13, .int st_shownBy, .int st_deepestShown, .int st_latestShown])) :: (a_st_levels, .inl (ci 0, 60, .inl f10)) :: (a_st_keys, .inl (ci 0, 60, .inl f11)) :: (a_st_years, .inl (ci 0, 60, .inl f12)) :: Rw) H := ⟨hP, hD⟩
          refine lv_iconst (pc := 109) (v := 1) hx hb dX7_put_109 (by decide) ?_
          obtain ⟨e90, e91, e92, e93, e94⟩ := q_inj5 (Option.some.inj hf)
          rw [hQ, ← e90, ← e91, ← e92, ← e93, ← e94]
          exact q_zret (pc := 110) hx hb hr rfl hlocks hP hD hS dX7_put_110
        have LP41 : ∀ (n41 : Nat) (v2 : Int32) (f3 : Nat → Int32) (f4 : Nat → Int32) (f5 : Nat → Int32) (H : Heap) (locs : List Loc) (ls : Array Slot), f_Store_put_L41 p1 p2 n41 v2 f3 f4 f5 = some (v6, f7, f8, f9) → va_P D vwCl ((a_st, .inr (7, [.ref a_g, .ref a_st_levels, .ref a_st_keys, .ref a_st_years, .ref a_st_keysThere, .int st_size, .int st_shownBy, .int st_deepestShown, .int st_latestShown])) :: (a_st_levels, .inl (ci 0, 60, .inl f3)) :: (a_st_keys, .inl (ci 0, 60, .inl f4)) :: (a_st_years, .inl (ci 0, 60, .inl f5)) :: Rw) H → va_D A ((a_st, .inr (7, [.ref a_g, .ref a_st_levels, .ref a_st_keys, .ref a_st_years, .ref a_st_keysThere, .int st_size, .int st_shownBy, .int st_deepestShown, .int st_latestShown])) :: (a_st_levels, .inl (ci 0, 60, .inl f3)) :: (a_st_keys, .inl (ci 0, 60, .inl f4)) :: (a_st_years, .inl (ci 0, 60, .inl f5)) :: Rw) → va_S A s.heap H locs → lv_has ls 6 [(0, .ref a_st), (1, .int p1), (2, .int p2), (3, .int p3), (5, .int v2)] → W p l e ({ frames := 1, cells := 0, slots := 0, locals := 23 } : Room) s m ([.ref a_st, .int p1, .int p2, .int p3] : List Value).toArray below meth c H locs 0 0 Q (F0 m 41 ls []) := by
          intro n41
          induction n41 with
          | zero => intro v2 f3 f4 f5 H locs ls hf; rw [f_Store_put_L41] at hf; cases hf
          | succ n41 ih41 =>
            intro v2 f3 f4 f5 H locs ls hf hP hD hS hl
            rw [f_Store_put_L41] at hf
            refine lv_iload (pc := 41) hx hb dX7_put_41 (lv_at hl 4 rfl) ?_
            refine q_if_le (pc := 43) (tgt := 75) hx hb dX7_put_43 (by decide) rfl hf (fun hf => ?_) (fun hf => ?_)
            · obtain ⟨rfl, rfl, rfl, rfl⟩ := q_inj4 (Option.some.inj hf)
              exact JE41 _ _ _ hP hD hS (lv_sub hl [0, 1, 2, 3, 4] rfl)
            · refine lv_aload_n (pc := 46) hx hb dX7_put_46 rfl (lv_at hl 0 rfl) ?_
              refine lv_iload (pc := 47) hx hb dX7_put_47 (lv_at hl 4 rfl) ?_
              refine lv_iconst (pc := 49) (v := 1) hx hb dX7_put_49 (by decide) ?_
              refine lv_isub (pc := 50) hx hb dX7_put_50 ?_
              refine lv_iload_n (pc := 51) hx hb dX7_put_51 rfl (lv_at hl 1 rfl) ?_
              refine lv_iload_n (pc := 52) hx hb dX7_put_52 rfl (lv_at hl 2 rfl) ?_
              obtain ⟨v14, hm53, hf⟩ := q_b1_e hf
              refine q_cVr (pc := 53) (As := [.int (v2 - 1), .int p1, .int p2]) (rest := []) (v0 := (some (.int v14))) ⟨hx, hb, hml, hown, hts⟩ hK hA hZ hP hD hS hl.1 [0, 1, 2] 4 rfl ⟨rfl, rfl, rfl⟩ (c_Store_isBehind l D ci A sa N (Rw) a_st a_g a_st_levels a_st_keys a_st_years a_st_keysThere st_size st_shownBy st_deepestShown st_latestShown f3 f4 (v2 - 1) p1 p2 v14 hm53) 0 rfl rfl (cwV 3 hts gX7_put_X7_isBehind rfl rfl rfl (by decide +kernel) ⟨Nat.le_of_ble_eq_true rfl, Nat.le_of_ble_eq_true rfl⟩) rfl rfl (Nat.le_of_ble_eq_true rfl) dX7_put_53 ⟨Nat.zero_le _, Nat.zero_le _⟩ (fun locs hS => ?_)
              refine q_if_eq (pc := 56) (tgt := 75) hx hb dX7_put_56 (by decide) rfl hf (fun hf => ?_) (fun hf => ?_)
              · obtain ⟨rfl, rfl, rfl, rfl⟩ := q_inj4 (Option.some.inj hf)
                exact JE41 _ _ _ hP hD hS (lv_sub hl [0, 1, 2, 3, 4] rfl)
              · refine lv_aload_n (pc := 59) hx hb dX7_put_59 rfl (lv_at hl 0 rfl) ?_
                refine lv_iload (pc := 60) hx hb dX7_put_60 (lv_at hl 4 rfl) ?_
                refine lv_iconst (pc := 62) (v := 1) hx hb dX7_put_62 (by decide) ?_
                refine lv_isub (pc := 63) hx hb dX7_put_63 ?_
                refine lv_iload (pc := 64) hx hb dX7_put_64 (lv_at hl 4 rfl) ?_
                obtain ⟨f15, f16, f17, hm66, hf⟩ := q_b3_e hf
                refine q_cV (pc := 66) (As := [.int (v2 - 1), .int v2]) (rest := []) (v0 := none) ⟨hx, hb, hml, hown, hts⟩ hK hA hZ hP hD hS hl.1 [0, 1, 2, 3] 4 rfl ⟨rfl, rfl, rfl⟩ (c_Store_move l D ci A sa N (Rw) a_st a_g a_st_levels a_st_keys a_st_years a_st_keysThere st_size st_shownBy st_deepestShown st_latestShown f3 f4 f5 (v2 - 1) v2 f15 f16 f17 hm66) 0 rfl rfl (cwV 2 hts gX7_put_X7_move rfl rfl rfl (by decide +kernel) ⟨Nat.le_of_ble_eq_true rfl, Nat.le_of_ble_eq_true rfl⟩) rfl rfl (Nat.le_of_ble_eq_true rfl) dX7_put_66 ⟨Nat.zero_le _, Nat.zero_le _⟩ [0, 1, 2, 3] 4 rfl ⟨rfl, rfl, rfl⟩ (fun H locs hP hD hS => ?_)
                obtain ⟨hP, hD⟩ : va_PD D A ((a_st, .inr (7, [.ref a_g, .ref a_st_levels, .ref a_st_keys, .ref a_st_years, .ref a_st_keysThere, .int st_size, .int st_shownBy, .int st_deepestShown, .int st_latestShown])) :: (a_st_levels, .inl (ci 0, 60, .inl f15)) :: (a_st_keys, .inl (ci 0, 60, .inl f16)) :: (a_st_years, .inl (ci 0, 60, .inl f17)) :: Rw) H := ⟨hP, hD⟩
                obtain ⟨v18, ev18, hf⟩ := q_nm_e hf
                refine lv_iinc (pc := 69) (v := v18) (lv' := [(5, .int v18), (0, .ref a_st), (1, .int p1), (2, .int p2), (3, .int p3)]) hx hb dX7_put_69 hl (k := 4) rfl (by rw [ev18]; rfl) (by decide) rfl (fun ls hl => ?_)
                refine lv_goto (pc := 72) (tgt := 41) hx hb dX7_put_72 (by decide) ?_
                exact ih41 v18 f15 f16 f17 _ _ _ hf hP hD hS (lv_sub hl [1, 2, 3, 4, 0] rfl)
        exact LP41 N st_size st_levels st_keys st_years _ _ _ hm41 hP hD hS (lv_sub hl [2, 3, 4, 5, 0] rfl)
      · refine lv_iconst (pc := 33) (v := 0) hx hb dX7_put_33 (by decide) ?_
        obtain ⟨e90, e91, e92, e93, e94⟩ := q_inj5 (Option.some.inj hf)
        rw [hQ, ← e90, ← e91, ← e92, ← e93, ← e94]
        exact q_zret (pc := 34) hx hb hr rfl hlocks hP hD hS dX7_put_34
    · refine lv_aload_n (pc := 14) hx hb dX7_put_14 rfl (lv_at hl 1 rfl) ?_
      refine va_get (pc := 15) (D := D) (ci := 7) (v := .ref a_st_years) (C := RX7) (T := TX7) (N := 9) hx hb hts hinX7 hown hK hP 0 rfl rfl 3 (by decide) w_1 (fun _ h9 => h9) rfl dX7_put_15 ?_
      refine lv_iload (pc := 18) hx hb dX7_put_18 (lv_at hl 0 rfl) ?_
      refine lv_iload_n (pc := 20) hx hb dX7_put_20 rfl (lv_at hl 4 rfl) ?_
      refine q_iast (pc := 21) hx hb hK hP hD hS 3 0 hf rfl rfl dX7_put_21 (fun f19 H locs hf hP hD hS => ?_)
      obtain ⟨hP, hD⟩ : va_PD D A ((a_st, .inr (7, [.ref a_g, .ref a_st_levels, .ref a_st_keys, .ref a_st_years, .ref a_st_keysThere, .int st_size, .int st_shownBy, .int st_deepestShown, .int st_latestShown])) :: (a_st_levels, .inl (ci 0, 60, .inl st_levels)) :: (a_st_keys, .inl (ci 0, 60, .inl st_keys)) :: (a_st_years, .inl (ci 0, 60, .inl f19)) :: Rw) H := ⟨hP, hD⟩
      refine lv_iconst (pc := 22) (v := 1) hx hb dX7_put_22 (by decide) ?_
      obtain ⟨e90, e91, e92, e93, e94⟩ := q_inj5 (Option.some.inj hf)
      rw [hQ, ← e90, ← e91, ← e92, ← e93, ← e94]
      exact q_zret (pc := 23) hx hb hr rfl hlocks hP hD hS dX7_put_23
  exact hgo _ _ rfl hP hS
/-! X7_remove -/
set_option maxRecDepth 100000 in
set_option maxHeartbeats 4000000 in
theorem c_Store_remove (l : Launch) (D : va_G) (ci : Nat → ClassId) (A : Nat → Prop) (sa : Nat → Nat) (N : Nat) (Rw : va_W) (a_st : Nat) (a_g : Nat) (a_st_levels : Nat) (a_st_keys : Nat) (a_st_years : Nat) (a_st_keysThere : Nat) (st_size : Int32) (st_shownBy : Int32) (st_deepestShown : Int32) (st_latestShown : Int32) (st_levels : Nat → Int32) (st_keys : Nat → Int32) (st_years : Nat → Int32) (p1 : Int32) (o1 : Nat → Int32) (o2 : Nat → Int32) (o3 : Nat → Int32) (o4 : Int32) (hf : f_Store_remove N st_levels st_keys st_years st_size p1 = some (o1, o2, o3, o4)) : Met l yX7_remove wsX7_remove ({ frames := 1, cells := 0, slots := 0, locals := 22 }) (va_Pc [.ref a_st, .int p1] (q_N D ci A sa ((a_st, .inr (7, [.ref a_g, .ref a_st_levels, .ref a_st_keys, .ref a_st_years, .ref a_st_keysThere, .int st_size, .int st_shownBy, .int st_deepestShown, .int st_latestShown])) :: (a_st_levels, .inl (ci 0, 60, .inl st_levels)) :: (a_st_keys, .inl (ci 0, 60, .inl st_keys)) :: (a_st_years, .inl (ci 0, 60, .inl st_years)) :: Rw))) (q_Q none (q_O D A ((a_st, .inr (7, [.ref a_g, .ref a_st_levels, .ref a_st_keys, .ref a_st_years, .ref a_st_keysThere, .int o4, .int st_shownBy, .int st_deepestShown, .int st_latestShown])) :: (a_st_levels, .inl (ci 0, 60, .inl o1)) :: (a_st_keys, .inl (ci 0, 60, .inl o2)) :: (a_st_years, .inl (ci 0, 60, .inl o3)) :: Rw)) A) 0 0 A := by
  refine q_ofW (cc := cX7_remove) (maxL := 3) (ret := none) [.ref a_st, .int p1] (plainFor_of_name (by decide)) rfl (Nat.le_of_ble_eq_true rfl) ?_
  intro p e s m below meth c ls Q hQ hx hb hml hr hts hown hlocks hK hA hZ hP hD hS hl
  have hl : lv_has ls 3 [(0, .ref a_st), (1, .int p1)] := hl
  have hown : s.vm.findClass RX7 = some m.cls := hown
  have hinX7 : ∀ w ∈ wsX70, w ∈ wsX7_remove := fun _ h => List.mem_cons_of_mem _ (inWX70 _ h)
  have w_1 := hts (Cond.fieldLink RX7 24 "SheetNames$Store" "size" "I") (List.mem_cons_of_mem _ t_w863)
  unfold f_Store_remove at hf
  have hgo : ∀ (H : Heap) (locs : List Loc), H = s.heap → va_P D vwCl ((a_st, .inr (7, [.ref a_g, .ref a_st_levels, .ref a_st_keys, .ref a_st_years, .ref a_st_keysThere, .int st_size, .int st_shownBy, .int st_deepestShown, .int st_latestShown])) :: (a_st_levels, .inl (ci 0, 60, .inl st_levels)) :: (a_st_keys, .inl (ci 0, 60, .inl st_keys)) :: (a_st_years, .inl (ci 0, 60, .inl st_years)) :: Rw) H → va_S A s.heap H locs → W p l e ({ frames := 1, cells := 0, slots := 0, locals := 22 } : Room) s m ([.ref a_st, .int p1] : List Value).toArray below meth c H locs 0 0 Q (F0 m 0 ls []) := by
    intro H locs hH hP hS
    refine lv_iload_n (pc := 0) hx hb dX7_remove_0 rfl (lv_at hl 1 rfl) ?_
    refine lv_iconst (pc := 1) (v := 1) hx hb dX7_remove_1 (by decide) ?_
    refine lv_iadd (pc := 2) hx hb dX7_remove_2 ?_
    obtain ⟨v1, ev1, hf⟩ := q_nm_e hf
    refine q_topi ev1 ?_
    refine lv_istore_n (pc := 3) (lv' := [(2, .int v1), (0, .ref a_st), (1, .int p1)]) hx hb dX7_remove_3 rfl hl (by decide) rfl (fun ls hl => ?_)
    obtain ⟨f6, f7, f8, hm4, hf⟩ := q_b3_e hf
    have JE4 : ∀ (H : Heap) (locs : List Loc) (ls : Array Slot), va_P D vwCl ((a_st, .inr (7, [.ref a_g, .ref a_st_levels, .ref a_st_keys, .ref a_st_years, .ref a_st_keysThere, .int st_size, .int st_shownBy, .int st_deepestShown, .int st_latestShown])) :: (a_st_levels, .inl (ci 0, 60, .inl f6)) :: (a_st_keys, .inl (ci 0, 60, .inl f7)) :: (a_st_years, .inl (ci 0, 60, .inl f8)) :: Rw) H → va_D A ((a_st, .inr (7, [.ref a_g, .ref a_st_levels, .ref a_st_keys, .ref a_st_years, .ref a_st_keysThere, .int st_size, .int st_shownBy, .int st_deepestShown, .int st_latestShown])) :: (a_st_levels, .inl (ci 0, 60, .inl f6)) :: (a_st_keys, .inl (ci 0, 60, .inl f7)) :: (a_st_years, .inl (ci 0, 60, .inl f8)) :: Rw) → va_S A s.heap H locs → lv_has ls 3 [(0, .ref a_st)] → W p l e ({ frames := 1, cells := 0, slots := 0, locals := 22 } : Room) s m ([.ref a_st, .int p1] : List Value).toArray below meth c H locs 0 0 Q (F0 m 26 ls []) := by
      intro H locs ls hP hD hS hl
      refine lv_aload_n (pc := 26) hx hb dX7_remove_26 rfl (lv_at hl 0 rfl) ?_
      refine lv_dup (pc := 27) hx hb dX7_remove_27 rfl ?_
      refine va_get (pc := 28) (D := D) (ci := 7) (v := .int st_size) (C := RX7) (T := TX7) (N := 9) hx hb hts hinX7 hown hK hP 0 rfl rfl 5 (by decide) w_1 (fun _ h9 => h9) rfl dX7_remove_28 ?_
      refine lv_iconst (pc := 31) (v := 1) hx hb dX7_remove_31 (by decide) ?_
      refine lv_isub (pc := 32) hx hb dX7_remove_32 ?_
      obtain ⟨v9, ev9, hf⟩ := q_nm_e hf
      refine q_topi ev9 ?_
      refine va_put (pc := 33) (D := D) (ci := 7) (v := .int v9) (ty := .int) (C := RX7) (T := TX7) (N := 9) hx hb hts hinX7 tyX7 tyX7_ok nmX7 hown hK hP hD hS 0 rfl rfl 5 (by decide) w_1 (fun _ h9 => h9) rfl (by decide +kernel) rfl rfl (Nat.le_of_ble_eq_true rfl) dX7_remove_33 (fun H locs hP hD hS => ?_)
      obtain ⟨hP, hD⟩ : va_PD D A ((a_st, .inr (7, [.ref a_g, .ref a_st_levels, .ref a_st_keys, .ref a_st_years, .ref a_st_keysThere, .int v9, .int st_shownBy, .int st_deepestShown, .int st_latestShown])) :: (a_st_levels, .inl (ci 0, 60, .inl f6)) :: (a_st_keys, .inl (ci 0, 60, .inl f7)) :: (a_st_years, .inl (ci 0, 60, .inl f8)) :: Rw) H := ⟨hP, hD⟩
      obtain ⟨e90, e91, e92, e93⟩ := q_inj4 (Option.some.inj hf)
      rw [hQ, ← e90, ← e91, ← e92, ← e93]
      exact q_vret (pc := 36) hx hb hr hlocks hP hD hS dX7_remove_36
    have LP4 : ∀ (n4 : Nat) (v2 : Int32) (f3 : Nat → Int32) (f4 : Nat → Int32) (f5 : Nat → Int32) (H : Heap) (locs : List Loc) (ls : Array Slot), f_Store_remove_L4 st_size n4 v2 f3 f4 f5 = some (f6, f7, f8) → va_P D vwCl ((a_st, .inr (7, [.ref a_g, .ref a_st_levels, .ref a_st_keys, .ref a_st_years, .ref a_st_keysThere, .int st_size, .int st_shownBy, .int st_deepestShown, .int st_latestShown])) :: (a_st_levels, .inl (ci 0, 60, .inl f3)) :: (a_st_keys, .inl (ci 0, 60, .inl f4)) :: (a_st_years, .inl (ci 0, 60, .inl f5)) :: Rw) H → va_D A ((a_st, .inr (7, [.ref a_g, .ref a_st_levels, .ref a_st_keys, .ref a_st_years, .ref a_st_keysThere, .int st_size, .int st_shownBy, .int st_deepestShown, .int st_latestShown])) :: (a_st_levels, .inl (ci 0, 60, .inl f3)) :: (a_st_keys, .inl (ci 0, 60, .inl f4)) :: (a_st_years, .inl (ci 0, 60, .inl f5)) :: Rw) → va_S A s.heap H locs → lv_has ls 3 [(0, .ref a_st), (2, .int v2)] → W p l e ({ frames := 1, cells := 0, slots := 0, locals := 22 } : Room) s m ([.ref a_st, .int p1] : List Value).toArray below meth c H locs 0 0 Q (F0 m 4 ls []) := by
      intro n4
      induction n4 with
      | zero => intro v2 f3 f4 f5 H locs ls hf; rw [f_Store_remove_L4] at hf; cases hf
      | succ n4 ih4 =>
        intro v2 f3 f4 f5 H locs ls hf hP hD hS hl
        rw [f_Store_remove_L4] at hf
        refine lv_iload_n (pc := 4) hx hb dX7_remove_4 rfl (lv_at hl 1 rfl) ?_
        refine lv_aload_n (pc := 5) hx hb dX7_remove_5 rfl (lv_at hl 0 rfl) ?_
        refine va_get (pc := 6) (D := D) (ci := 7) (v := .int st_size) (C := RX7) (T := TX7) (N := 9) hx hb hts hinX7 hown hK hP 0 rfl rfl 5 (by decide) w_1 (fun _ h9 => h9) rfl dX7_remove_6 ?_
        refine q_icmp_ge (pc := 9) (tgt := 26) hx hb dX7_remove_9 (by decide) rfl hf (fun hf => ?_) (fun hf => ?_)
        · obtain ⟨rfl, rfl, rfl⟩ := q_inj3 (Option.some.inj hf)
          exact JE4 _ _ _ hP hD hS (lv_sub hl [0] rfl)
        · refine lv_aload_n (pc := 12) hx hb dX7_remove_12 rfl (lv_at hl 0 rfl) ?_
          refine lv_iload_n (pc := 13) hx hb dX7_remove_13 rfl (lv_at hl 1 rfl) ?_
          refine lv_iload_n (pc := 14) hx hb dX7_remove_14 rfl (lv_at hl 1 rfl) ?_
          refine lv_iconst (pc := 15) (v := 1) hx hb dX7_remove_15 (by decide) ?_
          refine lv_isub (pc := 16) hx hb dX7_remove_16 ?_
          obtain ⟨f10, f11, f12, hm17, hf⟩ := q_b3_e hf
          refine q_cV (pc := 17) (As := [.int v2, .int (v2 - 1)]) (rest := []) (v0 := none) ⟨hx, hb, hml, hown, hts⟩ hK hA hZ hP hD hS hl.1 [0, 1, 2, 3] 4 rfl ⟨rfl, rfl, rfl⟩ (c_Store_move l D ci A sa N (Rw) a_st a_g a_st_levels a_st_keys a_st_years a_st_keysThere st_size st_shownBy st_deepestShown st_latestShown f3 f4 f5 v2 (v2 - 1) f10 f11 f12 hm17) 0 rfl rfl (cwV 2 hts gX7_remove_X7_move rfl rfl rfl (by decide +kernel) ⟨Nat.le_of_ble_eq_true rfl, Nat.le_of_ble_eq_true rfl⟩) rfl rfl (Nat.le_of_ble_eq_true rfl) dX7_remove_17 ⟨Nat.zero_le _, Nat.zero_le _⟩ [0, 1, 2, 3] 4 rfl ⟨rfl, rfl, rfl⟩ (fun H locs hP hD hS => ?_)
          obtain ⟨hP, hD⟩ : va_PD D A ((a_st, .inr (7, [.ref a_g, .ref a_st_levels, .ref a_st_keys, .ref a_st_years, .ref a_st_keysThere, .int st_size, .int st_shownBy, .int st_deepestShown, .int st_latestShown])) :: (a_st_levels, .inl (ci 0, 60, .inl f10)) :: (a_st_keys, .inl (ci 0, 60, .inl f11)) :: (a_st_years, .inl (ci 0, 60, .inl f12)) :: Rw) H := ⟨hP, hD⟩
          obtain ⟨v13, ev13, hf⟩ := q_nm_e hf
          refine lv_iinc (pc := 20) (v := v13) (lv' := [(2, .int v13), (0, .ref a_st)]) hx hb dX7_remove_20 hl (k := 1) rfl (by rw [ev13]; rfl) (by decide) rfl (fun ls hl => ?_)
          refine lv_goto (pc := 23) (tgt := 4) hx hb dX7_remove_23 (by decide) ?_
          exact ih4 v13 f10 f11 f12 _ _ _ hf hP hD hS (lv_sub hl [1, 0] rfl)
    exact LP4 N v1 st_levels st_keys st_years _ _ _ hm4 hP hD hS (lv_sub hl [1, 0] rfl)
  exact hgo _ _ rfl hP hS
/-! X0_copyFrom -/
set_option maxRecDepth 100000 in
set_option maxHeartbeats 4000000 in
theorem c_Atlas_copyFrom (l : Launch) (D : va_G) (ci : Nat → ClassId) (A : Nat → Prop) (sa : Nat → Nat) (N : Nat) (Rw : va_W) (a_at : Nat) (a_g : Nat) (a_st : Nat) (a_st_levels : Nat) (a_st_keys : Nat) (a_st_years : Nat) (a_st_keysThere : Nat) (a_g_rowCuts : Nat) (a_g_columnCuts : Nat) (a_g_bandRows : Nat) (a_g_zoneColumns : Nat) (a_g_rows : Nat) (a_g_sheets : Nat) (a_at2 : Nat) (a_g2 : Nat) (a_st2 : Nat) (a_st2_levels : Nat) (a_st2_keys : Nat) (a_st2_years : Nat) (a_st2_keysThere : Nat) (a_g2_rowCuts : Nat) (a_g2_columnCuts : Nat) (a_g2_bandRows : Nat) (a_g2_zoneColumns : Nat) (a_g2_rows : Nat) (a_g2_sheets : Nat) (at_right : Int32) (at_faulty : Int32) (at_endedSoon : Int32) (at_noSuchNumber : Int32) (st_size : Int32) (st_shownBy : Int32) (st_deepestShown : Int32) (st_latestShown : Int32) (st_levels : Nat → Int32) (st_keys : Nat → Int32) (st_years : Nat → Int32) (g_rowCuts : Nat → Int32) (g_columnCuts : Nat → Int32) (g_bandRows : Nat → Int32) (g_zoneColumns : Nat → Int32) (g_rows : Nat → Int32) (g_sheets : Nat → Int32) (at2_right : Int32) (at2_faulty : Int32) (at2_endedSoon : Int32) (at2_noSuchNumber : Int32) (st2_size : Int32) (st2_shownBy : Int32) (st2_deepestShown : Int32) (st2_latestShown : Int32) (st2_levels : Nat → Int32) (st2_keys : Nat → Int32) (st2_years : Nat → Int32) (g2_rowCuts : Nat → Int32) (g2_columnCuts : Nat → Int32) (o1 : Int32) (o2 : Int32) (o3 : Int32) (o4 : Int32) (o5 : Nat → Int32) (o6 : Nat → Int32) (o7 : Nat → Int32) (o8 : Int32) (o9 : Nat → Int32) (o10 : Nat → Int32) (o11 : Nat → Int32) (o12 : Nat → Int32) (o13 : Nat → Int32) (o14 : Nat → Int32) (hf : f_Atlas_copyFrom N at_right at_faulty at_endedSoon at_noSuchNumber st_levels st_keys st_years st_size g_rowCuts g_columnCuts g_bandRows g_zoneColumns g_rows g_sheets at2_right at2_faulty at2_endedSoon at2_noSuchNumber st2_levels st2_keys st2_years st2_size g2_rowCuts g2_columnCuts = some (o1, o2, o3, o4, o5, o6, o7, o8, o9, o10, o11, o12, o13, o14)) : Met l yX0_copyFrom wsX0_copyFrom ({ frames := 2, cells := 0, slots := 0, locals := 61 }) (va_Pc [.ref a_at, .ref a_at2] (q_N D ci A sa ((a_at, .inr (0, [.ref a_g, .ref a_st, .int at_right, .int at_faulty, .int at_endedSoon, .int at_noSuchNumber])) :: (a_st, .inr (7, [.ref a_g, .ref a_st_levels, .ref a_st_keys, .ref a_st_years, .ref a_st_keysThere, .int st_size, .int st_shownBy, .int st_deepestShown, .int st_latestShown])) :: (a_st_levels, .inl (ci 0, 60, .inl st_levels)) :: (a_st_keys, .inl (ci 0, 60, .inl st_keys)) :: (a_st_years, .inl (ci 0, 60, .inl st_years)) :: (a_g, .inr (2, [.ref a_g_rowCuts, .ref a_g_columnCuts, .ref a_g_bandRows, .ref a_g_zoneColumns, .ref a_g_rows, .ref a_g_sheets])) :: (a_g_rowCuts, .inl (ci 0, 5, .inl g_rowCuts)) :: (a_g_columnCuts, .inl (ci 0, 5, .inl g_columnCuts)) :: (a_g_bandRows, .inl (ci 0, 5, .inl g_bandRows)) :: (a_g_zoneColumns, .inl (ci 0, 5, .inl g_zoneColumns)) :: (a_g_rows, .inl (ci 0, 5, .inl g_rows)) :: (a_g_sheets, .inl (ci 0, 5, .inl g_sheets)) :: (a_at2, .inr (0, [.ref a_g2, .ref a_st2, .int at2_right, .int at2_faulty, .int at2_endedSoon, .int at2_noSuchNumber])) :: (a_st2, .inr (7, [.ref a_g2, .ref a_st2_levels, .ref a_st2_keys, .ref a_st2_years, .ref a_st2_keysThere, .int st2_size, .int st2_shownBy, .int st2_deepestShown, .int st2_latestShown])) :: (a_st2_levels, .inl (ci 0, 60, .inl st2_levels)) :: (a_st2_keys, .inl (ci 0, 60, .inl st2_keys)) :: (a_st2_years, .inl (ci 0, 60, .inl st2_years)) :: (a_g2, .inr (2, [.ref a_g2_rowCuts, .ref a_g2_columnCuts, .ref a_g2_bandRows, .ref a_g2_zoneColumns, .ref a_g2_rows, .ref a_g2_sheets])) :: (a_g2_rowCuts, .inl (ci 0, 5, .inl g2_rowCuts)) :: (a_g2_columnCuts, .inl (ci 0, 5, .inl g2_columnCuts)) :: Rw))) (q_Q none (q_O D A ((a_at, .inr (0, [.ref a_g, .ref a_st, .int o1, .int o2, .int o3, .int o4])) :: (a_st, .inr (7, [.ref a_g, .ref a_st_levels, .ref a_st_keys, .ref a_st_years, .ref a_st_keysThere, .int o8, .int st_shownBy, .int st_deepestShown, .int st_latestShown])) :: (a_st_levels, .inl (ci 0, 60, .inl o5)) :: (a_st_keys, .inl (ci 0, 60, .inl o6)) :: (a_st_years, .inl (ci 0, 60, .inl o7)) :: (a_g, .inr (2, [.ref a_g_rowCuts, .ref a_g_columnCuts, .ref a_g_bandRows, .ref a_g_zoneColumns, .ref a_g_rows, .ref a_g_sheets])) :: (a_g_rowCuts, .inl (ci 0, 5, .inl o9)) :: (a_g_columnCuts, .inl (ci 0, 5, .inl o10)) :: (a_g_bandRows, .inl (ci 0, 5, .inl o11)) :: (a_g_zoneColumns, .inl (ci 0, 5, .inl o12)) :: (a_g_rows, .inl (ci 0, 5, .inl o13)) :: (a_g_sheets, .inl (ci 0, 5, .inl o14)) :: (a_at2, .inr (0, [.ref a_g2, .ref a_st2, .int at2_right, .int at2_faulty, .int at2_endedSoon, .int at2_noSuchNumber])) :: (a_st2, .inr (7, [.ref a_g2, .ref a_st2_levels, .ref a_st2_keys, .ref a_st2_years, .ref a_st2_keysThere, .int st2_size, .int st2_shownBy, .int st2_deepestShown, .int st2_latestShown])) :: (a_st2_levels, .inl (ci 0, 60, .inl st2_levels)) :: (a_st2_keys, .inl (ci 0, 60, .inl st2_keys)) :: (a_st2_years, .inl (ci 0, 60, .inl st2_years)) :: (a_g2, .inr (2, [.ref a_g2_rowCuts, .ref a_g2_columnCuts, .ref a_g2_bandRows, .ref a_g2_zoneColumns, .ref a_g2_rows, .ref a_g2_sheets])) :: (a_g2_rowCuts, .inl (ci 0, 5, .inl g2_rowCuts)) :: (a_g2_columnCuts, .inl (ci 0, 5, .inl g2_columnCuts)) :: Rw)) A) 0 0 A := by
  refine q_ofW (cc := cX0_copyFrom) (maxL := 2) (ret := none) [.ref a_at, .ref a_at2] (plainFor_of_name (by decide)) rfl (Nat.le_of_ble_eq_true rfl) ?_
  intro p e s m below meth c ls Q hQ hx hb hml hr hts hown hlocks hK hA hZ hP hD hS hl
  have hl : lv_has ls 2 [(0, .ref a_at), (1, .ref a_at2)] := hl
  have hown : s.vm.findClass RX0 = some m.cls := hown
  have hinX0 : ∀ w ∈ wsX00, w ∈ wsX0_copyFrom := fun _ h => List.mem_cons_of_mem _ (inWX00 _ h)
  have w_1 := hts (Cond.fieldLink RX0 12 "SheetNames$Atlas" "grid" "LSheetNames$Grid;") (List.mem_cons_of_mem _ t_w870)
  have w_2 := hts (Cond.fieldLink RX0 23 "SheetNames$Atlas" "store" "LSheetNames$Store;") (List.mem_cons_of_mem _ t_w871)
  have w_3 := hts (Cond.fieldLink RX0 27 "SheetNames$Atlas" "right" "I") (List.mem_cons_of_mem _ t_w872)
  have w_4 := hts (Cond.fieldLink RX0 31 "SheetNames$Atlas" "faulty" "I") (List.mem_cons_of_mem _ t_w873)
  have w_5 := hts (Cond.fieldLink RX0 34 "SheetNames$Atlas" "endedSoon" "I") (List.mem_cons_of_mem _ t_w874)
  have w_6 := hts (Cond.fieldLink RX0 37 "SheetNames$Atlas" "noSuchNumber" "I") (List.mem_cons_of_mem _ t_w875)
  unfold f_Atlas_copyFrom at hf
  have hgo : ∀ (H : Heap) (locs : List Loc), H = s.heap → va_P D vwCl ((a_at, .inr (0, [.ref a_g, .ref a_st, .int at_right, .int at_faulty, .int at_endedSoon, .int at_noSuchNumber])) :: (a_st, .inr (7, [.ref a_g, .ref a_st_levels, .ref a_st_keys, .ref a_st_years, .ref a_st_keysThere, .int st_size, .int st_shownBy, .int st_deepestShown, .int st_latestShown])) :: (a_st_levels, .inl (ci 0, 60, .inl st_levels)) :: (a_st_keys, .inl (ci 0, 60, .inl st_keys)) :: (a_st_years, .inl (ci 0, 60, .inl st_years)) :: (a_g, .inr (2, [.ref a_g_rowCuts, .ref a_g_columnCuts, .ref a_g_bandRows, .ref a_g_zoneColumns, .ref a_g_rows, .ref a_g_sheets])) :: (a_g_rowCuts, .inl (ci 0, 5, .inl g_rowCuts)) :: (a_g_columnCuts, .inl (ci 0, 5, .inl g_columnCuts)) :: (a_g_bandRows, .inl (ci 0, 5, .inl g_bandRows)) :: (a_g_zoneColumns, .inl (ci 0, 5, .inl g_zoneColumns)) :: (a_g_rows, .inl (ci 0, 5, .inl g_rows)) :: (a_g_sheets, .inl (ci 0, 5, .inl g_sheets)) :: (a_at2, .inr (0, [.ref a_g2, .ref a_st2, .int at2_right, .int at2_faulty, .int at2_endedSoon, .int at2_noSuchNumber])) :: (a_st2, .inr (7, [.ref a_g2, .ref a_st2_levels, .ref a_st2_keys, .ref a_st2_years, .ref a_st2_keysThere, .int st2_size, .int st2_shownBy, .int st2_deepestShown, .int st2_latestShown])) :: (a_st2_levels, .inl (ci 0, 60, .inl st2_levels)) :: (a_st2_keys, .inl (ci 0, 60, .inl st2_keys)) :: (a_st2_years, .inl (ci 0, 60, .inl st2_years)) :: (a_g2, .inr (2, [.ref a_g2_rowCuts, .ref a_g2_columnCuts, .ref a_g2_bandRows, .ref a_g2_zoneColumns, .ref a_g2_rows, .ref a_g2_sheets])) :: (a_g2_rowCuts, .inl (ci 0, 5, .inl g2_rowCuts)) :: (a_g2_columnCuts, .inl (ci 0, 5, .inl g2_columnCuts)) :: Rw) H → va_S A s.heap H locs → W p l e ({ frames := 2, cells := 0, slots := 0, locals := 61 } : Room) s m ([.ref a_at, .ref a_at2] : List Value).toArray below meth c H locs 0 0 Q (F0 m 0 ls []) := by
    intro H locs hH hP hS
    refine lv_aload_n (pc := 0) hx hb dX0_copyFrom_0 rfl (lv_at hl 0 rfl) ?_
    refine va_get (pc := 1) (D := D) (ci := 0) (v := .ref a_g) (C := RX0) (T := TX0) (N := 6) hx hb hts hinX0 hown hK hP 0 rfl rfl 0 (by decide) w_1 (fun _ h9 => h9) rfl dX0_copyFrom_1 ?_
    refine lv_aload_n (pc := 4) hx hb dX0_copyFrom_4 rfl (lv_at hl 1 rfl) ?_
    refine va_get (pc := 5) (D := D) (ci := 0) (v := .ref a_g2) (C := RX0) (T := TX0) (N := 6) hx hb hts hinX0 hown hK hP 12 rfl rfl 0 (by decide) w_1 (fun _ h9 => h9) rfl dX0_copyFrom_5 ?_
    obtain ⟨f1, f2, f3, f4, f5, f6, hm8, hf⟩ := q_b6_e hf
    refine q_cV (pc := 8) (As := [.ref a_g2]) (rest := []) (v0 := none) ⟨hx, hb, hml, hown, hts⟩ hK hA hZ hP hD hS hl.1 [5, 6, 7, 8, 9, 10, 11, 17, 18, 19, 0, 1, 2, 3, 4, 12, 13, 14, 15, 16] 20 rfl ⟨rfl, rfl, rfl⟩ (c_Grid_copyFrom l D ci A sa N ((a_at, .inr (0, [.ref a_g, .ref a_st, .int at_right, .int at_faulty, .int at_endedSoon, .int at_noSuchNumber])) :: (a_st, .inr (7, [.ref a_g, .ref a_st_levels, .ref a_st_keys, .ref a_st_years, .ref a_st_keysThere, .int st_size, .int st_shownBy, .int st_deepestShown, .int st_latestShown])) :: (a_st_levels, .inl (ci 0, 60, .inl st_levels)) :: (a_st_keys, .inl (ci 0, 60, .inl st_keys)) :: (a_st_years, .inl (ci 0, 60, .inl st_years)) :: (a_at2, .inr (0, [.ref a_g2, .ref a_st2, .int at2_right, .int at2_faulty, .int at2_endedSoon, .int at2_noSuchNumber])) :: (a_st2, .inr (7, [.ref a_g2, .ref a_st2_levels, .ref a_st2_keys, .ref a_st2_years, .ref a_st2_keysThere, .int st2_size, .int st2_shownBy, .int st2_deepestShown, .int st2_latestShown])) :: (a_st2_levels, .inl (ci 0, 60, .inl st2_levels)) :: (a_st2_keys, .inl (ci 0, 60, .inl st2_keys)) :: (a_st2_years, .inl (ci 0, 60, .inl st2_years)) :: Rw) a_g a_g_rowCuts a_g_columnCuts a_g_bandRows a_g_zoneColumns a_g_rows a_g_sheets a_g2 a_g2_rowCuts a_g2_columnCuts a_g2_bandRows a_g2_zoneColumns a_g2_rows a_g2_sheets g_rowCuts g_columnCuts g_bandRows g_zoneColumns g_rows g_sheets g2_rowCuts g2_columnCuts f1 f2 f3 f4 f5 f6 hm8) 5 rfl rfl (cwV 1 hts gX0_copyFrom_X2_copyFrom rfl rfl rfl (by decide +kernel) ⟨Nat.le_of_ble_eq_true rfl, Nat.le_of_ble_eq_true rfl⟩) rfl rfl (Nat.le_of_ble_eq_true rfl) dX0_copyFrom_8 ⟨Nat.zero_le _, Nat.zero_le _⟩ [10, 11, 12, 13, 14, 0, 1, 2, 3, 4, 5, 6, 15, 16, 17, 18, 19, 7, 8, 9] 20 rfl ⟨rfl, rfl, rfl⟩ (fun H locs hP hD hS => ?_)
    obtain ⟨hP, hD⟩ : va_PD D A ((a_at, .inr (0, [.ref a_g, .ref a_st, .int at_right, .int at_faulty, .int at_endedSoon, .int at_noSuchNumber])) :: (a_st, .inr (7, [.ref a_g, .ref a_st_levels, .ref a_st_keys, .ref a_st_years, .ref a_st_keysThere, .int st_size, .int st_shownBy, .int st_deepestShown, .int st_latestShown])) :: (a_st_levels, .inl (ci 0, 60, .inl st_levels)) :: (a_st_keys, .inl (ci 0, 60, .inl st_keys)) :: (a_st_years, .inl (ci 0, 60, .inl st_years)) :: (a_g, .inr (2, [.ref a_g_rowCuts, .ref a_g_columnCuts, .ref a_g_bandRows, .ref a_g_zoneColumns, .ref a_g_rows, .ref a_g_sheets])) :: (a_g_rowCuts, .inl (ci 0, 5, .inl f1)) :: (a_g_columnCuts, .inl (ci 0, 5, .inl f2)) :: (a_g_bandRows, .inl (ci 0, 5, .inl f3)) :: (a_g_zoneColumns, .inl (ci 0, 5, .inl f4)) :: (a_g_rows, .inl (ci 0, 5, .inl f5)) :: (a_g_sheets, .inl (ci 0, 5, .inl f6)) :: (a_at2, .inr (0, [.ref a_g2, .ref a_st2, .int at2_right, .int at2_faulty, .int at2_endedSoon, .int at2_noSuchNumber])) :: (a_st2, .inr (7, [.ref a_g2, .ref a_st2_levels, .ref a_st2_keys, .ref a_st2_years, .ref a_st2_keysThere, .int st2_size, .int st2_shownBy, .int st2_deepestShown, .int st2_latestShown])) :: (a_st2_levels, .inl (ci 0, 60, .inl st2_levels)) :: (a_st2_keys, .inl (ci 0, 60, .inl st2_keys)) :: (a_st2_years, .inl (ci 0, 60, .inl st2_years)) :: (a_g2, .inr (2, [.ref a_g2_rowCuts, .ref a_g2_columnCuts, .ref a_g2_bandRows, .ref a_g2_zoneColumns, .ref a_g2_rows, .ref a_g2_sheets])) :: (a_g2_rowCuts, .inl (ci 0, 5, .inl g2_rowCuts)) :: (a_g2_columnCuts, .inl (ci 0, 5, .inl g2_columnCuts)) :: Rw) H := ⟨hP, hD⟩
    refine lv_aload_n (pc := 11) hx hb dX0_copyFrom_11 rfl (lv_at hl 0 rfl) ?_
    refine va_get (pc := 12) (D := D) (ci := 0) (v := .ref a_st) (C := RX0) (T := TX0) (N := 6) hx hb hts hinX0 hown hK hP 0 rfl rfl 1 (by decide) w_2 (fun _ h9 => h9) rfl dX0_copyFrom_12 ?_
    refine lv_aload_n (pc := 15) hx hb dX0_copyFrom_15 rfl (lv_at hl 1 rfl) ?_
    refine va_get (pc := 16) (D := D) (ci := 0) (v := .ref a_st2) (C := RX0) (T := TX0) (N := 6) hx hb hts hinX0 hown hK hP 12 rfl rfl 1 (by decide) w_2 (fun _ h9 => h9) rfl dX0_copyFrom_16 ?_
    obtain ⟨f7, f8, f9, v10, hm19, hf⟩ := q_b4_e hf
    refine q_cV (pc := 19) (As := [.ref a_st2]) (rest := []) (v0 := none) ⟨hx, hb, hml, hown, hts⟩ hK hA hZ hP hD hS hl.1 [1, 2, 3, 4, 13, 14, 15, 16, 0, 5, 6, 7, 8, 9, 10, 11, 12, 17, 18, 19] 20 rfl ⟨rfl, rfl, rfl⟩ (c_Store_copyFrom l D ci A sa N ((a_at, .inr (0, [.ref a_g, .ref a_st, .int at_right, .int at_faulty, .int at_endedSoon, .int at_noSuchNumber])) :: (a_g, .inr (2, [.ref a_g_rowCuts, .ref a_g_columnCuts, .ref a_g_bandRows, .ref a_g_zoneColumns, .ref a_g_rows, .ref a_g_sheets])) :: (a_g_rowCuts, .inl (ci 0, 5, .inl f1)) :: (a_g_columnCuts, .inl (ci 0, 5, .inl f2)) :: (a_g_bandRows, .inl (ci 0, 5, .inl f3)) :: (a_g_zoneColumns, .inl (ci 0, 5, .inl f4)) :: (a_g_rows, .inl (ci 0, 5, .inl f5)) :: (a_g_sheets, .inl (ci 0, 5, .inl f6)) :: (a_at2, .inr (0, [.ref a_g2, .ref a_st2, .int at2_right, .int at2_faulty, .int at2_endedSoon, .int at2_noSuchNumber])) :: (a_g2, .inr (2, [.ref a_g2_rowCuts, .ref a_g2_columnCuts, .ref a_g2_bandRows, .ref a_g2_zoneColumns, .ref a_g2_rows, .ref a_g2_sheets])) :: (a_g2_rowCuts, .inl (ci 0, 5, .inl g2_rowCuts)) :: (a_g2_columnCuts, .inl (ci 0, 5, .inl g2_columnCuts)) :: Rw) a_st a_g a_st_levels a_st_keys a_st_years a_st_keysThere a_st2 a_g2 a_st2_levels a_st2_keys a_st2_years a_st2_keysThere st_size st_shownBy st_deepestShown st_latestShown st_levels st_keys st_years st2_size st2_shownBy st2_deepestShown st2_latestShown st2_levels st2_keys st2_years f7 f8 f9 v10 hm19) 1 rfl rfl (cwV 1 hts gX0_copyFrom_X7_copyFrom rfl rfl rfl (by decide +kernel) ⟨Nat.le_of_ble_eq_true rfl, Nat.le_of_ble_eq_true rfl⟩) rfl rfl (Nat.le_of_ble_eq_true rfl) dX0_copyFrom_19 ⟨Nat.zero_le _, Nat.zero_le _⟩ [8, 0, 1, 2, 3, 9, 10, 11, 12, 13, 14, 15, 16, 4, 5, 6, 7, 17, 18, 19] 20 rfl ⟨rfl, rfl, rfl⟩ (fun H locs hP hD hS => ?_)
    obtain ⟨hP, hD⟩ : va_PD D A ((a_at, .inr (0, [.ref a_g, .ref a_st, .int at_right, .int at_faulty, .int at_endedSoon, .int at_noSuchNumber])) :: (a_st, .inr (7, [.ref a_g, .ref a_st_levels, .ref a_st_keys, .ref a_st_years, .ref a_st_keysThere, .int v10, .int st_shownBy, .int st_deepestShown, .int st_latestShown])) :: (a_st_levels, .inl (ci 0, 60, .inl f7)) :: (a_st_keys, .inl (ci 0, 60, .inl f8)) :: (a_st_years, .inl (ci 0, 60, .inl f9)) :: (a_g, .inr (2, [.ref a_g_rowCuts, .ref a_g_columnCuts, .ref a_g_bandRows, .ref a_g_zoneColumns, .ref a_g_rows, .ref a_g_sheets])) :: (a_g_rowCuts, .inl (ci 0, 5, .inl f1)) :: (a_g_columnCuts, .inl (ci 0, 5, .inl f2)) :: (a_g_bandRows, .inl (ci 0, 5, .inl f3)) :: (a_g_zoneColumns, .inl (ci 0, 5, .inl f4)) :: (a_g_rows, .inl (ci 0, 5, .inl f5)) :: (a_g_sheets, .inl (ci 0, 5, .inl f6)) :: (a_at2, .inr (0, [.ref a_g2, .ref a_st2, .int at2_right, .int at2_faulty, .int at2_endedSoon, .int at2_noSuchNumber])) :: (a_st2, .inr (7, [.ref a_g2, .ref a_st2_levels, .ref a_st2_keys, .ref a_st2_years, .ref a_st2_keysThere, .int st2_size, .int st2_shownBy, .int st2_deepestShown, .int st2_latestShown])) :: (a_st2_levels, .inl (ci 0, 60, .inl st2_levels)) :: (a_st2_keys, .inl (ci 0, 60, .inl st2_keys)) :: (a_st2_years, .inl (ci 0, 60, .inl st2_years)) :: (a_g2, .inr (2, [.ref a_g2_rowCuts, .ref a_g2_columnCuts, .ref a_g2_bandRows, .ref a_g2_zoneColumns, .ref a_g2_rows, .ref a_g2_sheets])) :: (a_g2_rowCuts, .inl (ci 0, 5, .inl g2_rowCuts)) :: (a_g2_columnCuts, .inl (ci 0, 5, .inl g2_columnCuts)) :: Rw) H := ⟨hP, hD⟩
    refine lv_aload_n (pc := 22) hx hb dX0_copyFrom_22 rfl (lv_at hl 0 rfl) ?_
    refine lv_aload_n (pc := 23) hx hb dX0_copyFrom_23 rfl (lv_at hl 1 rfl) ?_
    refine va_get (pc := 24) (D := D) (ci := 0) (v := .int at2_right) (C := RX0) (T := TX0) (N := 6) hx hb hts hinX0 hown hK hP 12 rfl rfl 2 (by decide) w_3 (fun _ h9 => h9) rfl dX0_copyFrom_24 ?_
    refine va_put (pc := 27) (D := D) (ci := 0) (v := .int at2_right) (ty := .int) (C := RX0) (T := TX0) (N := 6) hx hb hts hinX0 tyX0 tyX0_ok nmX0 hown hK hP hD hS 0 rfl rfl 2 (by decide) w_3 (fun _ h9 => h9) rfl (by decide +kernel) rfl rfl (Nat.le_of_ble_eq_true rfl) dX0_copyFrom_27 (fun H locs hP hD hS => ?_)
    obtain ⟨hP, hD⟩ : va_PD D A ((a_at, .inr (0, [.ref a_g, .ref a_st, .int at2_right, .int at_faulty, .int at_endedSoon, .int at_noSuchNumber])) :: (a_st, .inr (7, [.ref a_g, .ref a_st_levels, .ref a_st_keys, .ref a_st_years, .ref a_st_keysThere, .int v10, .int st_shownBy, .int st_deepestShown, .int st_latestShown])) :: (a_st_levels, .inl (ci 0, 60, .inl f7)) :: (a_st_keys, .inl (ci 0, 60, .inl f8)) :: (a_st_years, .inl (ci 0, 60, .inl f9)) :: (a_g, .inr (2, [.ref a_g_rowCuts, .ref a_g_columnCuts, .ref a_g_bandRows, .ref a_g_zoneColumns, .ref a_g_rows, .ref a_g_sheets])) :: (a_g_rowCuts, .inl (ci 0, 5, .inl f1)) :: (a_g_columnCuts, .inl (ci 0, 5, .inl f2)) :: (a_g_bandRows, .inl (ci 0, 5, .inl f3)) :: (a_g_zoneColumns, .inl (ci 0, 5, .inl f4)) :: (a_g_rows, .inl (ci 0, 5, .inl f5)) :: (a_g_sheets, .inl (ci 0, 5, .inl f6)) :: (a_at2, .inr (0, [.ref a_g2, .ref a_st2, .int at2_right, .int at2_faulty, .int at2_endedSoon, .int at2_noSuchNumber])) :: (a_st2, .inr (7, [.ref a_g2, .ref a_st2_levels, .ref a_st2_keys, .ref a_st2_years, .ref a_st2_keysThere, .int st2_size, .int st2_shownBy, .int st2_deepestShown, .int st2_latestShown])) :: (a_st2_levels, .inl (ci 0, 60, .inl st2_levels)) :: (a_st2_keys, .inl (ci 0, 60, .inl st2_keys)) :: (a_st2_years, .inl (ci 0, 60, .inl st2_years)) :: (a_g2, .inr (2, [.ref a_g2_rowCuts, .ref a_g2_columnCuts, .ref a_g2_bandRows, .ref a_g2_zoneColumns, .ref a_g2_rows, .ref a_g2_sheets])) :: (a_g2_rowCuts, .inl (ci 0, 5, .inl g2_rowCuts)) :: (a_g2_columnCuts, .inl (ci 0, 5, .inl g2_columnCuts)) :: Rw) H := ⟨hP, hD⟩
    refine lv_aload_n (pc := 30) hx hb dX0_copyFrom_30 rfl (lv_at hl 0 rfl) ?_
    refine lv_aload_n (pc := 31) hx hb dX0_copyFrom_31 rfl (lv_at hl 1 rfl) ?_
    refine va_get (pc := 32) (D := D) (ci := 0) (v := .int at2_faulty) (C := RX0) (T := TX0) (N := 6) hx hb hts hinX0 hown hK hP 12 rfl rfl 3 (by decide) w_4 (fun _ h9 => h9) rfl dX0_copyFrom_32 ?_
    refine va_put (pc := 35) (D := D) (ci := 0) (v := .int at2_faulty) (ty := .int) (C := RX0) (T := TX0) (N := 6) hx hb hts hinX0 tyX0 tyX0_ok nmX0 hown hK hP hD hS 0 rfl rfl 3 (by decide) w_4 (fun _ h9 => h9) rfl (by decide +kernel) rfl rfl (Nat.le_of_ble_eq_true rfl) dX0_copyFrom_35 (fun H locs hP hD hS => ?_)
    obtain ⟨hP, hD⟩ : va_PD D A ((a_at, .inr (0, [.ref a_g, .ref a_st, .int at2_right, .int at2_faulty, .int at_endedSoon, .int at_noSuchNumber])) :: (a_st, .inr (7, [.ref a_g, .ref a_st_levels, .ref a_st_keys, .ref a_st_years, .ref a_st_keysThere, .int v10, .int st_shownBy, .int st_deepestShown, .int st_latestShown])) :: (a_st_levels, .inl (ci 0, 60, .inl f7)) :: (a_st_keys, .inl (ci 0, 60, .inl f8)) :: (a_st_years, .inl (ci 0, 60, .inl f9)) :: (a_g, .inr (2, [.ref a_g_rowCuts, .ref a_g_columnCuts, .ref a_g_bandRows, .ref a_g_zoneColumns, .ref a_g_rows, .ref a_g_sheets])) :: (a_g_rowCuts, .inl (ci 0, 5, .inl f1)) :: (a_g_columnCuts, .inl (ci 0, 5, .inl f2)) :: (a_g_bandRows, .inl (ci 0, 5, .inl f3)) :: (a_g_zoneColumns, .inl (ci 0, 5, .inl f4)) :: (a_g_rows, .inl (ci 0, 5, .inl f5)) :: (a_g_sheets, .inl (ci 0, 5, .inl f6)) :: (a_at2, .inr (0, [.ref a_g2, .ref a_st2, .int at2_right, .int at2_faulty, .int at2_endedSoon, .int at2_noSuchNumber])) :: (a_st2, .inr (7, [.ref a_g2, .ref a_st2_levels, .ref a_st2_keys, .ref a_st2_years, .ref a_st2_keysThere, .int st2_size, .int st2_shownBy, .int st2_deepestShown, .int st2_latestShown])) :: (a_st2_levels, .inl (ci 0, 60, .inl st2_levels)) :: (a_st2_keys, .inl (ci 0, 60, .inl st2_keys)) :: (a_st2_years, .inl (ci 0, 60, .inl st2_years)) :: (a_g2, .inr (2, [.ref a_g2_rowCuts, .ref a_g2_columnCuts, .ref a_g2_bandRows, .ref a_g2_zoneColumns, .ref a_g2_rows, .ref a_g2_sheets])) :: (a_g2_rowCuts, .inl (ci 0, 5, .inl g2_rowCuts)) :: (a_g2_columnCuts, .inl (ci 0, 5, .inl g2_columnCuts)) :: Rw) H := ⟨hP, hD⟩
    refine lv_aload_n (pc := 38) hx hb dX0_copyFrom_38 rfl (lv_at hl 0 rfl) ?_
    refine lv_aload_n (pc := 39) hx hb dX0_copyFrom_39 rfl (lv_at hl 1 rfl) ?_
    refine va_get (pc := 40) (D := D) (ci := 0) (v := .int at2_endedSoon) (C := RX0) (T := TX0) (N := 6) hx hb hts hinX0 hown hK hP 12 rfl rfl 4 (by decide) w_5 (fun _ h9 => h9) rfl dX0_copyFrom_40 ?_
    refine va_put (pc := 43) (D := D) (ci := 0) (v := .int at2_endedSoon) (ty := .int) (C := RX0) (T := TX0) (N := 6) hx hb hts hinX0 tyX0 tyX0_ok nmX0 hown hK hP hD hS 0 rfl rfl 4 (by decide) w_5 (fun _ h9 => h9) rfl (by decide +kernel) rfl rfl (Nat.le_of_ble_eq_true rfl) dX0_copyFrom_43 (fun H locs hP hD hS => ?_)
    obtain ⟨hP, hD⟩ : va_PD D A ((a_at, .inr (0, [.ref a_g, .ref a_st, .int at2_right, .int at2_faulty, .int at2_endedSoon, .int at_noSuchNumber])) :: (a_st, .inr (7, [.ref a_g, .ref a_st_levels, .ref a_st_keys, .ref a_st_years, .ref a_st_keysThere, .int v10, .int st_shownBy, .int st_deepestShown, .int st_latestShown])) :: (a_st_levels, .inl (ci 0, 60, .inl f7)) :: (a_st_keys, .inl (ci 0, 60, .inl f8)) :: (a_st_years, .inl (ci 0, 60, .inl f9)) :: (a_g, .inr (2, [.ref a_g_rowCuts, .ref a_g_columnCuts, .ref a_g_bandRows, .ref a_g_zoneColumns, .ref a_g_rows, .ref a_g_sheets])) :: (a_g_rowCuts, .inl (ci 0, 5, .inl f1)) :: (a_g_columnCuts, .inl (ci 0, 5, .inl f2)) :: (a_g_bandRows, .inl (ci 0, 5, .inl f3)) :: (a_g_zoneColumns, .inl (ci 0, 5, .inl f4)) :: (a_g_rows, .inl (ci 0, 5, .inl f5)) :: (a_g_sheets, .inl (ci 0, 5, .inl f6)) :: (a_at2, .inr (0, [.ref a_g2, .ref a_st2, .int at2_right, .int at2_faulty, .int at2_endedSoon, .int at2_noSuchNumber])) :: (a_st2, .inr (7, [.ref a_g2, .ref a_st2_levels, .ref a_st2_keys, .ref a_st2_years, .ref a_st2_keysThere, .int st2_size, .int st2_shownBy, .int st2_deepestShown, .int st2_latestShown])) :: (a_st2_levels, .inl (ci 0, 60, .inl st2_levels)) :: (a_st2_keys, .inl (ci 0, 60, .inl st2_keys)) :: (a_st2_years, .inl (ci 0, 60, .inl st2_years)) :: (a_g2, .inr (2, [.ref a_g2_rowCuts, .ref a_g2_columnCuts, .ref a_g2_bandRows, .ref a_g2_zoneColumns, .ref a_g2_rows, .ref a_g2_sheets])) :: (a_g2_rowCuts, .inl (ci 0, 5, .inl g2_rowCuts)) :: (a_g2_columnCuts, .inl (ci 0, 5, .inl g2_columnCuts)) :: Rw) H := ⟨hP, hD⟩
    refine lv_aload_n (pc := 46) hx hb dX0_copyFrom_46 rfl (lv_at hl 0 rfl) ?_
    refine lv_aload_n (pc := 47) hx hb dX0_copyFrom_47 rfl (lv_at hl 1 rfl) ?_
    refine va_get (pc := 48) (D := D) (ci := 0) (v := .int at2_noSuchNumber) (C := RX0) (T := TX0) (N := 6) hx hb hts hinX0 hown hK hP 12 rfl rfl 5 (by decide) w_6 (fun _ h9 => h9) rfl dX0_copyFrom_48 ?_
    refine va_put (pc := 51) (D := D) (ci := 0) (v := .int at2_noSuchNumber) (ty := .int) (C := RX0) (T := TX0) (N := 6) hx hb hts hinX0 tyX0 tyX0_ok nmX0 hown hK hP hD hS 0 rfl rfl 5 (by decide) w_6 (fun _ h9 => h9) rfl (by decide +kernel) rfl rfl (Nat.le_of_ble_eq_true rfl) dX0_copyFrom_51 (fun H locs hP hD hS => ?_)
    obtain ⟨hP, hD⟩ : va_PD D A ((a_at, .inr (0, [.ref a_g, .ref a_st, .int at2_right, .int at2_faulty, .int at2_endedSoon, .int at2_noSuchNumber])) :: (a_st, .inr (7, [.ref a_g, .ref a_st_levels, .ref a_st_keys, .ref a_st_years, .ref a_st_keysThere, .int v10, .int st_shownBy, .int st_deepestShown, .int st_latestShown])) :: (a_st_levels, .inl (ci 0, 60, .inl f7)) :: (a_st_keys, .inl (ci 0, 60, .inl f8)) :: (a_st_years, .inl (ci 0, 60, .inl f9)) :: (a_g, .inr (2, [.ref a_g_rowCuts, .ref a_g_columnCuts, .ref a_g_bandRows, .ref a_g_zoneColumns, .ref a_g_rows, .ref a_g_sheets])) :: (a_g_rowCuts, .inl (ci 0, 5, .inl f1)) :: (a_g_columnCuts, .inl (ci 0, 5, .inl f2)) :: (a_g_bandRows, .inl (ci 0, 5, .inl f3)) :: (a_g_zoneColumns, .inl (ci 0, 5, .inl f4)) :: (a_g_rows, .inl (ci 0, 5, .inl f5)) :: (a_g_sheets, .inl (ci 0, 5, .inl f6)) :: (a_at2, .inr (0, [.ref a_g2, .ref a_st2, .int at2_right, .int at2_faulty, .int at2_endedSoon, .int at2_noSuchNumber])) :: (a_st2, .inr (7, [.ref a_g2, .ref a_st2_levels, .ref a_st2_keys, .ref a_st2_years, .ref a_st2_keysThere, .int st2_size, .int st2_shownBy, .int st2_deepestShown, .int st2_latestShown])) :: (a_st2_levels, .inl (ci 0, 60, .inl st2_levels)) :: (a_st2_keys, .inl (ci 0, 60, .inl st2_keys)) :: (a_st2_years, .inl (ci 0, 60, .inl st2_years)) :: (a_g2, .inr (2, [.ref a_g2_rowCuts, .ref a_g2_columnCuts, .ref a_g2_bandRows, .ref a_g2_zoneColumns, .ref a_g2_rows, .ref a_g2_sheets])) :: (a_g2_rowCuts, .inl (ci 0, 5, .inl g2_rowCuts)) :: (a_g2_columnCuts, .inl (ci 0, 5, .inl g2_columnCuts)) :: Rw) H := ⟨hP, hD⟩
    obtain ⟨e90, e91, e92, e93, e94, e95, e96, e97, e98, e99, e910, e911, e912, e913⟩ := q_inj14 (Option.some.inj hf)
    rw [hQ, ← e90, ← e91, ← e92, ← e93, ← e94, ← e95, ← e96, ← e97, ← e98, ← e99, ← e910, ← e911, ← e912, ← e913]
    exact q_vret (pc := 54) hx hb hr hlocks hP hD hS dX0_copyFrom_54
  exact hgo _ _ rfl hP hS
/-! X0_countText -/
set_option maxRecDepth 100000 in
set_option maxHeartbeats 4000000 in
theorem c_Atlas_countText (l : Launch) (D : va_G) (ci : Nat → ClassId) (A : Nat → Prop) (sa : Nat → Nat) (N : Nat) (Rw : va_W) (a_rd : Nat) (a_g : Nat) (a_tp : Nat) (a_at : Nat) (a_st : Nat) (rd_next : Int32) (rd_end : Int32) (rd_level : Int32) (rd_key : Int32) (rd_fault : Int32) (rd_faultPlace : Int32) (rd_endedSoon : Int32) (at_right : Int32) (at_faulty : Int32) (at_endedSoon : Int32) (at_noSuchNumber : Int32) (p2 : Int32) (o1 : Int32) (o2 : Int32) (o3 : Int32) (o4 : Int32) (hf : f_Atlas_countText rd_fault rd_endedSoon at_right at_faulty at_endedSoon at_noSuchNumber p2 = some (o1, o2, o3, o4)) : Met l yX0_countText wsX0_countText ({ frames := 0, cells := 0, slots := 0, locals := 0 }) (va_Pc [.ref a_at, .ref a_rd, .int p2] (q_N D ci A sa ((a_rd, .inr (3, [.ref a_g, .ref a_tp, .int rd_next, .int rd_end, .int rd_level, .int rd_key, .int rd_fault, .int rd_faultPlace, .int rd_endedSoon])) :: (a_at, .inr (0, [.ref a_g, .ref a_st, .int at_right, .int at_faulty, .int at_endedSoon, .int at_noSuchNumber])) :: Rw))) (q_Q none (q_O D A ((a_rd, .inr (3, [.ref a_g, .ref a_tp, .int rd_next, .int rd_end, .int rd_level, .int rd_key, .int rd_fault, .int rd_faultPlace, .int rd_endedSoon])) :: (a_at, .inr (0, [.ref a_g, .ref a_st, .int o1, .int o2, .int o3, .int o4])) :: Rw)) A) 0 0 A := by
  refine q_ofW (cc := cX0_countText) (maxL := 3) (ret := none) [.ref a_at, .ref a_rd, .int p2] (plainFor_of_name (by decide)) rfl (Nat.le_of_ble_eq_true rfl) ?_
  intro p e s m below meth c ls Q hQ hx hb hml hr hts hown hlocks hK hA hZ hP hD hS hl
  have hl : lv_has ls 3 [(0, .ref a_at), (1, .ref a_rd), (2, .int p2)] := hl
  have hown : s.vm.findClass RX0 = some m.cls := hown
  have hinX0 : ∀ w ∈ wsX00, w ∈ wsX0_countText := fun _ h => List.mem_cons_of_mem _ (inWX00 _ h)
  have hinX3 : ∀ w ∈ wsX30, w ∈ wsX0_countText := fun _ h => List.mem_cons_of_mem _ (inWX30 _ h)
  have w_1 := hts (Cond.fieldLink RX0 27 "SheetNames$Atlas" "right" "I") (List.mem_cons_of_mem _ t_w872)
  have w_2 := hts (Cond.fieldLink RX0 31 "SheetNames$Atlas" "faulty" "I") (List.mem_cons_of_mem _ t_w873)
  have w_3 := hts (Cond.fieldLink RX0 34 "SheetNames$Atlas" "endedSoon" "I") (List.mem_cons_of_mem _ t_w874)
  have w_4 := hts (Cond.fieldLink RX0 37 "SheetNames$Atlas" "noSuchNumber" "I") (List.mem_cons_of_mem _ t_w875)
  have wn_36 : (Cond.fieldLinkNest "SheetNames$Atlas" 40 "SheetNames$NameReader" "endedSoon" "Z" "SheetNames").before ([.ref a_at, .ref a_rd, .int p2] : List Value).toArray s = true := (hZ.2.2.2.2.2.2.2.2.2.1 _ (List.mem_of_getElem? (i := 36) rfl)).use rfl
  have wn_37 : (Cond.fieldLinkNest "SheetNames$Atlas" 45 "SheetNames$NameReader" "fault" "I" "SheetNames").before ([.ref a_at, .ref a_rd, .int p2] : List Value).toArray s = true := (hZ.2.2.2.2.2.2.2.2.2.1 _ (List.mem_of_getElem? (i := 37) rfl)).use rfl
  unfold f_Atlas_countText at hf
  have hgo : ∀ (H : Heap) (locs : List Loc), H = s.heap → va_P D vwCl ((a_rd, .inr (3, [.ref a_g, .ref a_tp, .int rd_next, .int rd_end, .int rd_level, .int rd_key, .int rd_fault, .int rd_faultPlace, .int rd_endedSoon])) :: (a_at, .inr (0, [.ref a_g, .ref a_st, .int at_right, .int at_faulty, .int at_endedSoon, .int at_noSuchNumber])) :: Rw) H → va_S A s.heap H locs → W p l e ({ frames := 0, cells := 0, slots := 0, locals := 0 } : Room) s m ([.ref a_at, .ref a_rd, .int p2] : List Value).toArray below meth c H locs 0 0 Q (F0 m 0 ls []) := by
    intro H locs hH hP hS
    refine lv_iload_n (pc := 0) hx hb dX0_countText_0 rfl (lv_at hl 2 rfl) ?_
    refine q_if_eq (pc := 1) (tgt := 15) hx hb dX0_countText_1 (by decide) rfl hf (fun hf => ?_) (fun hf => ?_)
    · refine lv_aload_n (pc := 15) hx hb dX0_countText_15 rfl (lv_at hl 0 rfl) ?_
      refine lv_dup (pc := 16) hx hb dX0_countText_16 rfl ?_
      refine va_get (pc := 17) (D := D) (ci := 0) (v := .int at_faulty) (C := RX0) (T := TX0) (N := 6) hx hb hts hinX0 hown hK hP 1 rfl rfl 3 (by decide) w_2 (fun _ h9 => h9) rfl dX0_countText_17 ?_
      refine lv_iconst (pc := 20) (v := 1) hx hb dX0_countText_20 (by decide) ?_
      refine lv_iadd (pc := 21) hx hb dX0_countText_21 ?_
      obtain ⟨v1, ev1, hf⟩ := q_nm_e hf
      refine q_topi ev1 ?_
      refine va_put (pc := 22) (D := D) (ci := 0) (v := .int v1) (ty := .int) (C := RX0) (T := TX0) (N := 6) hx hb hts hinX0 tyX0 tyX0_ok nmX0 hown hK hP hD hS 1 rfl rfl 3 (by decide) w_2 (fun _ h9 => h9) rfl (by decide +kernel) rfl rfl (Nat.le_of_ble_eq_true rfl) dX0_countText_22 (fun H locs hP hD hS => ?_)
      obtain ⟨hP, hD⟩ : va_PD D A ((a_rd, .inr (3, [.ref a_g, .ref a_tp, .int rd_next, .int rd_end, .int rd_level, .int rd_key, .int rd_fault, .int rd_faultPlace, .int rd_endedSoon])) :: (a_at, .inr (0, [.ref a_g, .ref a_st, .int at_right, .int v1, .int at_endedSoon, .int at_noSuchNumber])) :: Rw) H := ⟨hP, hD⟩
      refine lv_aload_n (pc := 25) hx hb dX0_countText_25 rfl (lv_at hl 1 rfl) ?_
      refine va_getN (pc := 26) (D := D) (ci := 3) (v := .int rd_endedSoon) (C := RX3) (T := TX3) (N := 9) hx hb hts hinX3 hown hK hP 0 rfl rfl 8 (by decide) wn_36 (fun _ h9 => h9) rfl dX0_countText_26 ?_
      obtain ⟨k42, ek42, hf⟩ := q_j1_e hf
      have J42 : ∀ (v2 : Int32) (H : Heap) (locs : List Loc) (ls : Array Slot), k42 v2 = some (o1, o2, o3, o4) → va_P D vwCl ((a_rd, .inr (3, [.ref a_g, .ref a_tp, .int rd_next, .int rd_end, .int rd_level, .int rd_key, .int rd_fault, .int rd_faultPlace, .int rd_endedSoon])) :: (a_at, .inr (0, [.ref a_g, .ref a_st, .int at_right, .int v1, .int v2, .int at_noSuchNumber])) :: Rw) H → va_D A ((a_rd, .inr (3, [.ref a_g, .ref a_tp, .int rd_next, .int rd_end, .int rd_level, .int rd_key, .int rd_fault, .int rd_faultPlace, .int rd_endedSoon])) :: (a_at, .inr (0, [.ref a_g, .ref a_st, .int at_right, .int v1, .int v2, .int at_noSuchNumber])) :: Rw) → va_S A s.heap H locs → lv_has ls 3 [(0, .ref a_at), (1, .ref a_rd)] → W p l e ({ frames := 0, cells := 0, slots := 0, locals := 0 } : Room) s m ([.ref a_at, .ref a_rd, .int p2] : List Value).toArray below meth c H locs 0 0 Q (F0 m 42 ls []) := by
        intro v2 H locs ls hf hP hD hS hl
        have hf := (ek42 v2).symm.trans hf
        refine lv_aload_n (pc := 42) hx hb dX0_countText_42 rfl (lv_at hl 1 rfl) ?_
        refine va_getN (pc := 43) (D := D) (ci := 3) (v := .int rd_fault) (C := RX3) (T := TX3) (N := 9) hx hb hts hinX3 hown hK hP 0 rfl rfl 6 (by decide) wn_37 (fun _ h9 => h9) rfl dX0_countText_43 ?_
        refine lv_iconst (pc := 46) (v := 2) hx hb dX0_countText_46 (by decide) ?_
        refine q_icmp_ne (pc := 47) (tgt := 60) hx hb dX0_countText_47 (by decide) rfl hf (fun hf => ?_) (fun hf => ?_)
        · obtain ⟨e90, e91, e92, e93⟩ := q_inj4 (Option.some.inj hf)
          rw [hQ, ← e90, ← e91, ← e92, ← e93]
          exact q_vret (pc := 60) hx hb hr hlocks hP hD hS dX0_countText_60
        · refine lv_aload_n (pc := 50) hx hb dX0_countText_50 rfl (lv_at hl 0 rfl) ?_
          refine lv_dup (pc := 51) hx hb dX0_countText_51 rfl ?_
          refine va_get (pc := 52) (D := D) (ci := 0) (v := .int at_noSuchNumber) (C := RX0) (T := TX0) (N := 6) hx hb hts hinX0 hown hK hP 1 rfl rfl 5 (by decide) w_4 (fun _ h9 => h9) rfl dX0_countText_52 ?_
          refine lv_iconst (pc := 55) (v := 1) hx hb dX0_countText_55 (by decide) ?_
          refine lv_iadd (pc := 56) hx hb dX0_countText_56 ?_
          obtain ⟨v3, ev3, hf⟩ := q_nm_e hf
          refine q_topi ev3 ?_
          refine va_put (pc := 57) (D := D) (ci := 0) (v := .int v3) (ty := .int) (C := RX0) (T := TX0) (N := 6) hx hb hts hinX0 tyX0 tyX0_ok nmX0 hown hK hP hD hS 1 rfl rfl 5 (by decide) w_4 (fun _ h9 => h9) rfl (by decide +kernel) rfl rfl (Nat.le_of_ble_eq_true rfl) dX0_countText_57 (fun H locs hP hD hS => ?_)
          obtain ⟨hP, hD⟩ : va_PD D A ((a_rd, .inr (3, [.ref a_g, .ref a_tp, .int rd_next, .int rd_end, .int rd_level, .int rd_key, .int rd_fault, .int rd_faultPlace, .int rd_endedSoon])) :: (a_at, .inr (0, [.ref a_g, .ref a_st, .int at_right, .int v1, .int v2, .int v3])) :: Rw) H := ⟨hP, hD⟩
          obtain ⟨e90, e91, e92, e93⟩ := q_inj4 (Option.some.inj hf)
          rw [hQ, ← e90, ← e91, ← e92, ← e93]
          exact q_vret (pc := 60) hx hb hr hlocks hP hD hS dX0_countText_60
      refine q_if_eq (pc := 29) (tgt := 42) hx hb dX0_countText_29 (by decide) rfl hf (fun hf => ?_) (fun hf => ?_)
      · exact J42 at_endedSoon _ _ _ hf hP hD hS (lv_sub hl [0, 1] rfl)
      · refine lv_aload_n (pc := 32) hx hb dX0_countText_32 rfl (lv_at hl 0 rfl) ?_
        refine lv_dup (pc := 33) hx hb dX0_countText_33 rfl ?_
        refine va_get (pc := 34) (D := D) (ci := 0) (v := .int at_endedSoon) (C := RX0) (T := TX0) (N := 6) hx hb hts hinX0 hown hK hP 1 rfl rfl 4 (by decide) w_3 (fun _ h9 => h9) rfl dX0_countText_34 ?_
        refine lv_iconst (pc := 37) (v := 1) hx hb dX0_countText_37 (by decide) ?_
        refine lv_iadd (pc := 38) hx hb dX0_countText_38 ?_
        obtain ⟨v4, ev4, hf⟩ := q_nm_e hf
        refine q_topi ev4 ?_
        refine va_put (pc := 39) (D := D) (ci := 0) (v := .int v4) (ty := .int) (C := RX0) (T := TX0) (N := 6) hx hb hts hinX0 tyX0 tyX0_ok nmX0 hown hK hP hD hS 1 rfl rfl 4 (by decide) w_3 (fun _ h9 => h9) rfl (by decide +kernel) rfl rfl (Nat.le_of_ble_eq_true rfl) dX0_countText_39 (fun H locs hP hD hS => ?_)
        obtain ⟨hP, hD⟩ : va_PD D A ((a_rd, .inr (3, [.ref a_g, .ref a_tp, .int rd_next, .int rd_end, .int rd_level, .int rd_key, .int rd_fault, .int rd_faultPlace, .int rd_endedSoon])) :: (a_at, .inr (0, [.ref a_g, .ref a_st, .int at_right, .int v1, .int v4, .int at_noSuchNumber])) :: Rw) H := ⟨hP, hD⟩
        exact J42 v4 _ _ _ hf hP hD hS (lv_sub hl [0, 1] rfl)
    · refine lv_aload_n (pc := 4) hx hb dX0_countText_4 rfl (lv_at hl 0 rfl) ?_
      refine lv_dup (pc := 5) hx hb dX0_countText_5 rfl ?_
      refine va_get (pc := 6) (D := D) (ci := 0) (v := .int at_right) (C := RX0) (T := TX0) (N := 6) hx hb hts hinX0 hown hK hP 1 rfl rfl 2 (by decide) w_1 (fun _ h9 => h9) rfl dX0_countText_6 ?_
      refine lv_iconst (pc := 9) (v := 1) hx hb dX0_countText_9 (by decide) ?_
      refine lv_iadd (pc := 10) hx hb dX0_countText_10 ?_
      obtain ⟨v5, ev5, hf⟩ := q_nm_e hf
      refine q_topi ev5 ?_
      refine va_put (pc := 11) (D := D) (ci := 0) (v := .int v5) (ty := .int) (C := RX0) (T := TX0) (N := 6) hx hb hts hinX0 tyX0 tyX0_ok nmX0 hown hK hP hD hS 1 rfl rfl 2 (by decide) w_1 (fun _ h9 => h9) rfl (by decide +kernel) rfl rfl (Nat.le_of_ble_eq_true rfl) dX0_countText_11 (fun H locs hP hD hS => ?_)
      obtain ⟨hP, hD⟩ : va_PD D A ((a_rd, .inr (3, [.ref a_g, .ref a_tp, .int rd_next, .int rd_end, .int rd_level, .int rd_key, .int rd_fault, .int rd_faultPlace, .int rd_endedSoon])) :: (a_at, .inr (0, [.ref a_g, .ref a_st, .int v5, .int at_faulty, .int at_endedSoon, .int at_noSuchNumber])) :: Rw) H := ⟨hP, hD⟩
      obtain ⟨e90, e91, e92, e93⟩ := q_inj4 (Option.some.inj hf)
      rw [hQ, ← e90, ← e91, ← e92, ← e93]
      exact q_vret (pc := 14) hx hb hr hlocks hP hD hS dX0_countText_14
  exact hgo _ _ rfl hP hS
