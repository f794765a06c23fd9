/-! X4_add -/
set_option maxRecDepth 100000 in
set_option maxHeartbeats 4000000 in
theorem c_NameText_add (l : Launch) (D : va_G) (ci : Nat → ClassId) (A : Nat → Prop) (sa : Nat → Nat) (N : Nat) (Rw : va_W) (a_nt : Nat) (a_nt_bytes : Nat) (nt_length : Int32) (nt_bytes : Nat → Int32) (p1 : Int32) (o1 : Nat → Int32) (o2 : Int32) (hf : f_NameText_add nt_bytes nt_length p1 = some (o1, o2)) : Met l yX4_add wsX4_add ({ frames := 0, cells := 0, slots := 0, locals := 0 }) (va_Pc [.ref a_nt, .int p1] (q_N D ci A sa ((a_nt, .inr (4, [.ref a_nt_bytes, .int nt_length])) :: (a_nt_bytes, .inl (ci 0, 40, .inl nt_bytes)) :: Rw))) (q_Q none (q_O D A ((a_nt, .inr (4, [.ref a_nt_bytes, .int o2])) :: (a_nt_bytes, .inl (ci 0, 40, .inl o1)) :: Rw)) A) 0 0 A := by
  refine q_ofW (cc := cX4_add) (maxL := 2) (ret := none) [.ref a_nt, .int p1] (plainFor_of_name (by decide)) rfl (Nat.le_of_ble_eq_true rfl) ?_
  intro p e s m below meth c ls Q hQ hx hb hml hr hts hown hlocks hK hA hZ hP hD hS hl
  have hl : lv_has ls 2 [(0, .ref a_nt), (1, .int p1)] := hl
  have hown : s.vm.findClass RX4 = some m.cls := hown
  have hinX4 : ∀ w ∈ wsX40, w ∈ wsX4_add := fun _ h => List.mem_cons_of_mem _ (inWX40 _ h)
  have w_1 := hts (Cond.fieldLink RX4 15 "SheetNames$NameText" "length" "I") (List.mem_cons_of_mem _ t_w834)
  have w_2 := hts (Cond.fieldLink RX4 9 "SheetNames$NameText" "bytes" "[I") (List.mem_cons_of_mem _ t_w835)
  unfold f_NameText_add at hf
  have hgo : ∀ (H : Heap) (locs : List Loc), H = s.heap → va_P D vwCl ((a_nt, .inr (4, [.ref a_nt_bytes, .int nt_length])) :: (a_nt_bytes, .inl (ci 0, 40, .inl nt_bytes)) :: Rw) H → va_S A s.heap H locs → W p l e ({ frames := 0, cells := 0, slots := 0, locals := 0 } : Room) s m ([.ref a_nt, .int p1] : List Value).toArray below meth c H locs 0 0 Q (F0 m 0 ls []) := by
    intro H locs hH hP hS
    refine lv_aload_n (pc := 0) hx hb dX4_add_0 rfl (lv_at hl 0 rfl) ?_
    refine va_get (pc := 1) (D := D) (ci := 4) (v := .int nt_length) (C := RX4) (T := TX4) (N := 2) hx hb hts hinX4 hown hK hP 0 rfl rfl 1 (by decide) w_1 (fun _ h9 => h9) rfl dX4_add_1 ?_
    refine lv_aload_n (pc := 4) hx hb dX4_add_4 rfl (lv_at hl 0 rfl) ?_
    refine va_get (pc := 5) (D := D) (ci := 4) (v := .ref a_nt_bytes) (C := RX4) (T := TX4) (N := 2) hx hb hts hinX4 hown hK hP 0 rfl rfl 0 (by decide) w_2 (fun _ h9 => h9) rfl dX4_add_5 ?_
    refine va_alen (pc := 8) (v := 40) hx hb hK hP 1 0 rfl rfl rfl dX4_add_8 ?_
    refine q_icmp_ge (pc := 9) (tgt := 32) hx hb dX4_add_9 (by decide) rfl hf (fun hf => ?_) (fun hf => ?_)
    · obtain ⟨rfl, rfl⟩ := q_inj2 (Option.some.inj hf)
      rw [hQ]
      exact q_vret (pc := 32) hx hb hr hlocks hP hD hS dX4_add_32
    · refine lv_aload_n (pc := 12) hx hb dX4_add_12 rfl (lv_at hl 0 rfl) ?_
      refine va_get (pc := 13) (D := D) (ci := 4) (v := .ref a_nt_bytes) (C := RX4) (T := TX4) (N := 2) hx hb hts hinX4 hown hK hP 0 rfl rfl 0 (by decide) w_2 (fun _ h9 => h9) rfl dX4_add_13 ?_
      refine lv_aload_n (pc := 16) hx hb dX4_add_16 rfl (lv_at hl 0 rfl) ?_
      refine va_get (pc := 17) (D := D) (ci := 4) (v := .int nt_length) (C := RX4) (T := TX4) (N := 2) hx hb hts hinX4 hown hK hP 0 rfl rfl 1 (by decide) w_1 (fun _ h9 => h9) rfl dX4_add_17 ?_
      refine lv_iload_n (pc := 20) hx hb dX4_add_20 rfl (lv_at hl 1 rfl) ?_
      refine q_iast (pc := 21) hx hb hK hP hD hS 1 0 hf rfl rfl dX4_add_21 (fun f1 H locs hf hP hD hS => ?_)
      obtain ⟨hP, hD⟩ : va_PD D A ((a_nt, .inr (4, [.ref a_nt_bytes, .int nt_length])) :: (a_nt_bytes, .inl (ci 0, 40, .inl f1)) :: Rw) H := ⟨hP, hD⟩
      refine lv_aload_n (pc := 22) hx hb dX4_add_22 rfl (lv_at hl 0 rfl) ?_
      refine lv_dup (pc := 23) hx hb dX4_add_23 rfl ?_
      refine va_get (pc := 24) (D := D) (ci := 4) (v := .int nt_length) (C := RX4) (T := TX4) (N := 2) hx hb hts hinX4 hown hK hP 0 rfl rfl 1 (by decide) w_1 (fun _ h9 => h9) rfl dX4_add_24 ?_
      refine lv_iconst (pc := 27) (v := 1) hx hb dX4_add_27 (by decide) ?_
      refine lv_iadd (pc := 28) hx hb dX4_add_28 ?_
      obtain ⟨v2, ev2, hf⟩ := q_nm_e hf
      refine q_topi ev2 ?_
      refine va_put (pc := 29) (D := D) (ci := 4) (v := .int v2) (ty := .int) (C := RX4) (T := TX4) (N := 2) hx hb hts hinX4 tyX4 tyX4_ok nmX4 hown hK hP hD hS 0 rfl rfl 1 (by decide) w_1 (fun _ h9 => h9) rfl (by decide +kernel) rfl rfl (Nat.le_of_ble_eq_true rfl) dX4_add_29 (fun H locs hP hD hS => ?_)
      obtain ⟨hP, hD⟩ : va_PD D A ((a_nt, .inr (4, [.ref a_nt_bytes, .int v2])) :: (a_nt_bytes, .inl (ci 0, 40, .inl f1)) :: Rw) H := ⟨hP, hD⟩
      obtain ⟨rfl, rfl⟩ := q_inj2 (Option.some.inj hf)
      rw [hQ]
      exact q_vret (pc := 32) hx hb hr hlocks hP hD hS dX4_add_32
  exact hgo _ _ rfl hP hS
/-! X4_addNumber -/
set_option maxRecDepth 100000 in
set_option maxHeartbeats 4000000 in
theorem c_NameText_addNumber (l : Launch) (D : va_G) (ci : Nat → ClassId) (A : Nat → Prop) (sa : Nat → Nat) (N : Nat) (Rw : va_W) (a_nt : Nat) (a_nt_bytes : Nat) (nt_length : Int32) (nt_bytes : Nat → Int32) (p1 : Int32) (o1 : Nat → Int32) (o2 : Int32) (hf : f_NameText_addNumber nt_bytes nt_length p1 = some (o1, o2)) : Met l yX4_addNumber wsX4_addNumber ({ frames := 1, cells := 0, slots := 0, locals := 21 }) (va_Pc [.ref a_nt, .int p1] (q_N D ci A sa ((a_nt, .inr (4, [.ref a_nt_bytes, .int nt_length])) :: (a_nt_bytes, .inl (ci 0, 40, .inl nt_bytes)) :: Rw))) (q_Q none (q_O D A ((a_nt, .inr (4, [.ref a_nt_bytes, .int o2])) :: (a_nt_bytes, .inl (ci 0, 40, .inl o1)) :: Rw)) A) 0 0 A := by
  refine q_ofW (cc := cX4_addNumber) (maxL := 2) (ret := none) [.ref a_nt, .int p1] (plainFor_of_name (by decide)) rfl (Nat.le_of_ble_eq_true rfl) ?_
  intro p e s m below meth c ls Q hQ hx hb hml hr hts hown hlocks hK hA hZ hP hD hS hl
  have hl : lv_has ls 2 [(0, .ref a_nt), (1, .int p1)] := hl
  have hown : s.vm.findClass RX4 = some m.cls := hown
  unfold f_NameText_addNumber at hf
  have hgo : ∀ (H : Heap) (locs : List Loc), H = s.heap → va_P D vwCl ((a_nt, .inr (4, [.ref a_nt_bytes, .int nt_length])) :: (a_nt_bytes, .inl (ci 0, 40, .inl nt_bytes)) :: Rw) H → va_S A s.heap H locs → W p l e ({ frames := 1, cells := 0, slots := 0, locals := 21 } : Room) s m ([.ref a_nt, .int p1] : List Value).toArray below meth c H locs 0 0 Q (F0 m 0 ls []) := by
    intro H locs hH hP hS
    refine lv_iload_n (pc := 0) hx hb dX4_addNumber_0 rfl (lv_at hl 1 rfl) ?_
    refine lv_bipush (pc := 1) (v := 10) hx hb dX4_addNumber_1 (by decide) ?_
    obtain ⟨k17, ek17, hf⟩ := q_j2_e hf
    have J17 : ∀ (f1 : Nat → Int32) (v2 : Int32) (H : Heap) (locs : List Loc) (ls : Array Slot), k17 f1 v2 = some (o1, o2) → va_P D vwCl ((a_nt, .inr (4, [.ref a_nt_bytes, .int v2])) :: (a_nt_bytes, .inl (ci 0, 40, .inl f1)) :: Rw) H → va_D A ((a_nt, .inr (4, [.ref a_nt_bytes, .int v2])) :: (a_nt_bytes, .inl (ci 0, 40, .inl f1)) :: Rw) → va_S A s.heap H locs → lv_has ls 2 [(0, .ref a_nt), (1, .int p1)] → W p l e ({ frames := 1, cells := 0, slots := 0, locals := 21 } : Room) s m ([.ref a_nt, .int p1] : List Value).toArray below meth c H locs 0 0 Q (F0 m 17 ls []) := by
      intro f1 v2 H locs ls hf hP hD hS hl
      have hf := (ek17 f1 v2).symm.trans hf
      refine lv_aload_n (pc := 17) hx hb dX4_addNumber_17 rfl (lv_at hl 0 rfl) ?_
      refine lv_bipush (pc := 18) (v := 48) hx hb dX4_addNumber_18 (by decide) ?_
      refine lv_iload_n (pc := 20) hx hb dX4_addNumber_20 rfl (lv_at hl 1 rfl) ?_
      refine lv_bipush (pc := 21) (v := 10) hx hb dX4_addNumber_21 (by decide) ?_
      refine q_irem (pc := 23) hx hb dX4_addNumber_23 hf (fun v3 hf => ?_)
      refine lv_iadd (pc := 24) hx hb dX4_addNumber_24 ?_
      obtain ⟨f4, v5, hm25, hf⟩ := q_b2_e hf
      refine q_cV (pc := 25) (As := [.int (48 + v3)]) (rest := []) (v0 := none) ⟨hx, hb, hml, hown, hts⟩ hK hA hZ hP hD hS hl.1 [0, 1] 2 rfl ⟨rfl, rfl, rfl⟩ (c_NameText_add l D ci A sa N (Rw) a_nt a_nt_bytes v2 f1 (48 + v3) f4 v5 hm25) 0 rfl rfl (cwV 1 hts gX4_addNumber_X4_add rfl rfl rfl (by decide +kernel) ⟨Nat.le_of_ble_eq_true rfl, Nat.le_of_ble_eq_true rfl⟩) rfl rfl (Nat.le_of_ble_eq_true rfl) dX4_addNumber_25 ⟨Nat.zero_le _, Nat.zero_le _⟩ [0, 1] 2 rfl ⟨rfl, rfl, rfl⟩ (fun H locs hP hD hS => ?_)
      obtain ⟨hP, hD⟩ : va_PD D A ((a_nt, .inr (4, [.ref a_nt_bytes, .int v5])) :: (a_nt_bytes, .inl (ci 0, 40, .inl f4)) :: Rw) H := ⟨hP, hD⟩
      obtain ⟨rfl, rfl⟩ := q_inj2 (Option.some.inj hf)
      rw [hQ]
      exact q_vret (pc := 28) hx hb hr hlocks hP hD hS dX4_addNumber_28
    refine q_icmp_lt (pc := 3) (tgt := 17) hx hb dX4_addNumber_3 (by decide) rfl hf (fun hf => ?_) (fun hf => ?_)
    · exact J17 nt_bytes nt_length _ _ _ hf hP hD hS (lv_sub hl [0, 1] rfl)
    · refine lv_aload_n (pc := 6) hx hb dX4_addNumber_6 rfl (lv_at hl 0 rfl) ?_
      refine lv_bipush (pc := 7) (v := 48) hx hb dX4_addNumber_7 (by decide) ?_
      refine lv_iload_n (pc := 9) hx hb dX4_addNumber_9 rfl (lv_at hl 1 rfl) ?_
      refine lv_bipush (pc := 10) (v := 10) hx hb dX4_addNumber_10 (by decide) ?_
      refine q_idiv (pc := 12) hx hb dX4_addNumber_12 hf (fun v6 hf => ?_)
      refine lv_iadd (pc := 13) hx hb dX4_addNumber_13 ?_
      obtain ⟨f7, v8, hm14, hf⟩ := q_b2_e hf
      refine q_cV (pc := 14) (As := [.int (48 + v6)]) (rest := []) (v0 := none) ⟨hx, hb, hml, hown, hts⟩ hK hA hZ hP hD hS hl.1 [0, 1] 2 rfl ⟨rfl, rfl, rfl⟩ (c_NameText_add l D ci A sa N (Rw) a_nt a_nt_bytes nt_length nt_bytes (48 + v6) f7 v8 hm14) 0 rfl rfl (cwV 1 hts gX4_addNumber_X4_add rfl rfl rfl (by decide +kernel) ⟨Nat.le_of_ble_eq_true rfl, Nat.le_of_ble_eq_true rfl⟩) rfl rfl (Nat.le_of_ble_eq_true rfl) dX4_addNumber_14 ⟨Nat.zero_le _, Nat.zero_le _⟩ [0, 1] 2 rfl ⟨rfl, rfl, rfl⟩ (fun H locs hP hD hS => ?_)
      obtain ⟨hP, hD⟩ : va_PD D A ((a_nt, .inr (4, [.ref a_nt_bytes, .int v8])) :: (a_nt_bytes, .inl (ci 0, 40, .inl f7)) :: Rw) H := ⟨hP, hD⟩
      exact J17 f7 v8 _ _ _ hf hP hD hS (lv_sub hl [0, 1] rfl)
  exact hgo _ _ rfl hP hS
/-! X4_against -/
set_option maxRecDepth 100000 in
set_option maxHeartbeats 4000000 in
theorem c_NameText_against (l : Launch) (D : va_G) (ci : Nat → ClassId) (A : Nat → Prop) (sa : Nat → Nat) (N : Nat) (Rw : va_W) (a_nt : Nat) (a_nt_bytes : Nat) (a_nu : Nat) (a_nu_bytes : Nat) (nt_length : Int32) (nt_bytes : Nat → Int32) (nu_length : Int32) (nu_bytes : Nat → Int32) (r : Int32) (hf : f_NameText_against N nt_bytes nt_length nu_bytes nu_length = some r) : Met l yX4_against wsX4_against ({ frames := 1, cells := 0, slots := 0, locals := 40 }) (va_Pc [.ref a_nt, .ref a_nu] (q_N D ci A sa ((a_nt, .inr (4, [.ref a_nt_bytes, .int nt_length])) :: (a_nt_bytes, .inl (ci 0, 40, .inl nt_bytes)) :: (a_nu, .inr (4, [.ref a_nu_bytes, .int nu_length])) :: (a_nu_bytes, .inl (ci 0, 40, .inl nu_bytes)) :: Rw))) (q_R (some (.int r))) 0 0 A := by
  refine q_ofW (cc := cX4_against) (maxL := 4) (ret := (some .int)) [.ref a_nt, .ref a_nu] (plainFor_of_name (by decide)) rfl (Nat.le_of_ble_eq_true rfl) ?_
  intro p e s m below meth c ls Q hQ hx hb hml hr hts hown hlocks hK hA hZ hP hD hS hl
  have hl : lv_has ls 4 [(0, .ref a_nt), (1, .ref a_nu)] := hl
  have hown : s.vm.findClass RX4 = some m.cls := hown
  have hinX4 : ∀ w ∈ wsX40, w ∈ wsX4_against := fun _ h => List.mem_cons_of_mem _ (inWX40 _ h)
  have w_1 := hts (Cond.fieldLink RX4 15 "SheetNames$NameText" "length" "I") (List.mem_cons_of_mem _ t_w834)
  have w_2 := hts (Cond.methodLink RX4 46 Lib.Math.min.name) (List.mem_cons_of_mem _ t_w836)
  have w_3 := hts (Cond.static Lib.Math.min.name) (List.mem_cons_of_mem _ t_w810)
  have w_4 := hts (Cond.initialized "java/lang/Math") (List.mem_cons_of_mem _ t_w76)
  have w_5 := hts (Cond.code Lib.Math.min.name Lib.Math.min.code 2 (some .int)) (List.mem_cons_of_mem _ t_w811)
  have w_6 := hts (Cond.fieldLink RX4 9 "SheetNames$NameText" "bytes" "[I") (List.mem_cons_of_mem _ t_w835)
  unfold f_NameText_against at hf
  have hgo : ∀ (H : Heap) (locs : List Loc), H = s.heap → va_P D vwCl ((a_nt, .inr (4, [.ref a_nt_bytes, .int nt_length])) :: (a_nt_bytes, .inl (ci 0, 40, .inl nt_bytes)) :: (a_nu, .inr (4, [.ref a_nu_bytes, .int nu_length])) :: (a_nu_bytes, .inl (ci 0, 40, .inl nu_bytes)) :: Rw) H → va_S A s.heap H locs → W p l e ({ frames := 1, cells := 0, slots := 0, locals := 40 } : Room) s m ([.ref a_nt, .ref a_nu] : List Value).toArray below meth c H locs 0 0 Q (F0 m 0 ls []) := by
    intro H locs hH hP hS
    subst hH
    refine lv_aload_n (pc := 0) hx hb dX4_against_0 rfl (lv_at hl 0 rfl) ?_
    refine va_get (pc := 1) (D := D) (ci := 4) (v := .int nt_length) (C := RX4) (T := TX4) (N := 2) hx hb hts hinX4 hown hK hP 0 rfl rfl 1 (by decide) w_1 (fun _ h9 => h9) rfl dX4_against_1 ?_
    refine lv_aload_n (pc := 4) hx hb dX4_against_4 rfl (lv_at hl 1 rfl) ?_
    refine va_get (pc := 5) (D := D) (ci := 4) (v := .int nu_length) (C := RX4) (T := TX4) (N := 2) hx hb hts hinX4 hown hK hP 2 rfl rfl 1 (by decide) w_1 (fun _ h9 => h9) rfl dX4_against_5 ?_
    obtain ⟨v1, ev1, hf⟩ := q_nm_e hf
    refine va_mmin (pc := 8) hx hb (hml.trans hl.1.symm) hown w_2 w_3 w_4 w_5 (Nat.le_of_ble_eq_true rfl) (Nat.le_of_ble_eq_true rfl) (Nat.zero_le _) (Nat.zero_le _) dX4_against_8 ?_
    refine q_topi ev1 ?_
    refine lv_istore_n (pc := 11) (lv' := [(2, .int v1), (0, .ref a_nt), (1, .ref a_nu)]) hx hb dX4_against_11 rfl hl (by decide) rfl (fun ls hl => ?_)
    refine lv_iconst (pc := 12) (v := 0) hx hb dX4_against_12 (by decide) ?_
    obtain ⟨v2, ev2, hf⟩ := q_nm_e hf
    refine q_topi ev2 ?_
    refine lv_istore_n (pc := 13) (lv' := [(3, .int v2), (2, .int v1), (0, .ref a_nt), (1, .ref a_nu)]) hx hb dX4_against_13 rfl hl (by decide) rfl (fun ls hl => ?_)
    obtain ⟨k14, o14_, ek14, hm14, hk14⟩ := q_s0_k hf
    have JE14 : ∀  (H : Heap) (locs : List Loc) (ls : Array Slot), k14 = some r → H = s.heap → va_S A s.heap H locs → lv_has ls 4 [(0, .ref a_nt), (1, .ref a_nu)] → W p l e ({ frames := 1, cells := 0, slots := 0, locals := 40 } : Room) s m ([.ref a_nt, .ref a_nu] : List Value).toArray below meth c H locs 0 0 Q (F0 m 56 ls []) := by
      intro  H locs ls hf hHs hS hl
      subst hHs
      have hf := (ek14).symm.trans hf
      refine lv_aload_n (pc := 56) hx hb dX4_against_56 rfl (lv_at hl 0 rfl) ?_
      refine va_get (pc := 57) (D := D) (ci := 4) (v := .int nt_length) (C := RX4) (T := TX4) (N := 2) hx hb hts hinX4 hown hK hP 0 rfl rfl 1 (by decide) w_1 (fun _ h9 => h9) rfl dX4_against_57 ?_
      refine lv_aload_n (pc := 60) hx hb dX4_against_60 rfl (lv_at hl 1 rfl) ?_
      refine va_get (pc := 61) (D := D) (ci := 4) (v := .int nu_length) (C := RX4) (T := TX4) (N := 2) hx hb hts hinX4 hown hK hP 2 rfl rfl 1 (by decide) w_1 (fun _ h9 => h9) rfl dX4_against_61 ?_
      obtain ⟨v4, hm64, hf⟩ := q_b1_e hf
      refine q_cSr (pc := 64) (As := [.int nt_length, .int nu_length]) (rest := []) (v0 := (some (.int v4))) ⟨hx, hb, hml, hown, hts⟩ hK hA hZ hP hD hS hl.1 [] 4 rfl ⟨rfl, rfl, rfl⟩ (c_JInteger_compare_7cf53 l D ci A sa N (Rw) nt_length nu_length v4 hm64) (va_cwS 2 hts gX4_against_J6_compare_7cf53 rfl rfl rfl (by decide +kernel) ⟨Nat.le_of_ble_eq_true rfl, Nat.le_of_ble_eq_true rfl⟩) rfl rfl (Nat.le_of_ble_eq_true rfl) dX4_against_64 ⟨Nat.zero_le _, Nat.zero_le _⟩ (fun locs hS => ?_)
      obtain rfl := Option.some.inj hf
      rw [hQ]
      exact q_iretr (pc := 67) hx hb hr hlocks rfl hS dX4_against_67
    have LP14 : ∀ (n14 : Nat) (v3 : Int32) (H : Heap) (locs : List Loc) (ls : Array Slot), f_NameText_against_L14 nt_bytes nu_bytes v1 n14 v3 = some o14_ → H = s.heap → va_S A s.heap H locs → lv_has ls 4 [(0, .ref a_nt), (1, .ref a_nu), (2, .int v1), (3, .int v3)] → W p l e ({ frames := 1, cells := 0, slots := 0, locals := 40 } : Room) s m ([.ref a_nt, .ref a_nu] : List Value).toArray below meth c H locs 0 0 Q (F0 m 14 ls []) := by
      intro n14
      induction n14 with
      | zero => intro v3 H locs ls hf; rw [f_NameText_against_L14] at hf; cases hf
      | succ n14 ih14 =>
        intro v3 H locs ls hf hHs hS hl
        subst hHs
        rw [f_NameText_against_L14] at hf
        refine lv_iload_n (pc := 14) hx hb dX4_against_14 rfl (lv_at hl 3 rfl) ?_
        refine lv_iload_n (pc := 15) hx hb dX4_against_15 rfl (lv_at hl 2 rfl) ?_
        refine q_icmp_ge (pc := 16) (tgt := 56) hx hb dX4_against_16 (by decide) rfl hf (fun hf => ?_) (fun hf => ?_)
        · obtain rfl := Option.some.inj hf
          exact JE14  _ _ _ hk14 rfl hS (lv_sub hl [0, 1] rfl)
        · refine lv_aload_n (pc := 19) hx hb dX4_against_19 rfl (lv_at hl 0 rfl) ?_
          refine va_get (pc := 20) (D := D) (ci := 4) (v := .ref a_nt_bytes) (C := RX4) (T := TX4) (N := 2) hx hb hts hinX4 hown hK hP 0 rfl rfl 0 (by decide) w_6 (fun _ h9 => h9) rfl dX4_against_20 ?_
          refine lv_iload_n (pc := 23) hx hb dX4_against_23 rfl (lv_at hl 3 rfl) ?_
          refine q_iald (pc := 24) hx hb hK hP 1 0 hf rfl rfl dX4_against_24 (fun v5 hf => ?_)
          refine lv_aload_n (pc := 25) hx hb dX4_against_25 rfl (lv_at hl 1 rfl) ?_
          refine va_get (pc := 26) (D := D) (ci := 4) (v := .ref a_nu_bytes) (C := RX4) (T := TX4) (N := 2) hx hb hts hinX4 hown hK hP 2 rfl rfl 0 (by decide) w_6 (fun _ h9 => h9) rfl dX4_against_26 ?_
          refine lv_iload_n (pc := 29) hx hb dX4_against_29 rfl (lv_at hl 3 rfl) ?_
          refine q_iald (pc := 30) hx hb hK hP 3 0 hf rfl rfl dX4_against_30 (fun v6 hf => ?_)
          refine q_icmp_eq (pc := 31) (tgt := 50) hx hb dX4_against_31 (by decide) rfl hf (fun hf => ?_) (fun hf => ?_)
          · obtain ⟨v7, ev7, hf⟩ := q_nm_e hf
            refine lv_iinc (pc := 50) (v := v7) (lv' := [(3, .int v7), (0, .ref a_nt), (1, .ref a_nu), (2, .int v1)]) hx hb dX4_against_50 hl (k := 3) rfl (by rw [ev7]; rfl) (by decide) rfl (fun ls hl => ?_)
            refine lv_goto (pc := 53) (tgt := 14) hx hb dX4_against_53 (by decide) ?_
            exact ih14 v7 _ _ _ hf rfl hS (lv_sub hl [1, 2, 3, 0] rfl)
          · refine lv_aload_n (pc := 34) hx hb dX4_against_34 rfl (lv_at hl 0 rfl) ?_
            refine va_get (pc := 35) (D := D) (ci := 4) (v := .ref a_nt_bytes) (C := RX4) (T := TX4) (N := 2) hx hb hts hinX4 hown hK hP 0 rfl rfl 0 (by decide) w_6 (fun _ h9 => h9) rfl dX4_against_35 ?_
            refine lv_iload_n (pc := 38) hx hb dX4_against_38 rfl (lv_at hl 3 rfl) ?_
            refine q_iald (pc := 39) hx hb hK hP 1 0 hf rfl rfl dX4_against_39 (fun v8 hf => ?_)
            refine lv_aload_n (pc := 40) hx hb dX4_against_40 rfl (lv_at hl 1 rfl) ?_
            refine va_get (pc := 41) (D := D) (ci := 4) (v := .ref a_nu_bytes) (C := RX4) (T := TX4) (N := 2) hx hb hts hinX4 hown hK hP 2 rfl rfl 0 (by decide) w_6 (fun _ h9 => h9) rfl dX4_against_41 ?_
            refine lv_iload_n (pc := 44) hx hb dX4_against_44 rfl (lv_at hl 3 rfl) ?_
            refine q_iald (pc := 45) hx hb hK hP 3 0 hf rfl rfl dX4_against_45 (fun v9 hf => ?_)
            obtain ⟨v10, hm46, hf⟩ := q_b1_e hf
            refine q_cSr (pc := 46) (As := [.int v8, .int v9]) (rest := []) (v0 := (some (.int v10))) ⟨hx, hb, hml, hown, hts⟩ hK hA hZ hP hD hS hl.1 [] 4 rfl ⟨rfl, rfl, rfl⟩ (c_JInteger_compare_7cf53 l D ci A sa N (Rw) v8 v9 v10 hm46) (va_cwS 2 hts gX4_against_J6_compare_7cf53 rfl rfl rfl (by decide +kernel) ⟨Nat.le_of_ble_eq_true rfl, Nat.le_of_ble_eq_true rfl⟩) rfl rfl (Nat.le_of_ble_eq_true rfl) dX4_against_46 ⟨Nat.zero_le _, Nat.zero_le _⟩ (fun locs hS => ?_)
            obtain rfl := Option.some.inj hf
            have hk14 : (v10 : Int32) = r := hk14
            obtain rfl := hk14
            rw [hQ]
            exact q_iretr (pc := 49) hx hb hr hlocks rfl hS dX4_against_49
    exact LP14 N v2 _ _ _ hm14 rfl hS (lv_sub hl [2, 3, 1, 0] rfl)
  exact hgo _ _ rfl hP hS
/-! X4_write -/
set_option maxRecDepth 100000 in
set_option maxHeartbeats 4000000 in
theorem c_NameText_write (l : Launch) (D : va_G) (ci : Nat → ClassId) (A : Nat → Prop) (sa : Nat → Nat) (N : Nat) (Rw : va_W) (a_sp : Nat) (a_g : Nat) (a_sp_first : Nat) (a_sp_many : Nat) (a_sp_corner : Nat) (a_nt : Nat) (a_nt_bytes : Nat) (a_g_rowCuts : Nat) (a_g_columnCuts : Nat) (a_g_bandRows : Nat) (a_g_zoneColumns : Nat) (a_g_rows : Nat) (a_g_sheets : Nat) (sp_cornerCount : Int32) (sp_level : Int32) (sp_row : Int32) (sp_start : Int32) (sp_place : Int32) (sp_length : Int32) (sp_cap : Int32) (nt_length : Int32) (nt_bytes : Nat → Int32) (g_rowCuts : Nat → Int32) (g_columnCuts : Nat → Int32) (g_bandRows : Nat → Int32) (g_zoneColumns : Nat → Int32) (o1 : Nat → Int32) (o2 : Int32) (hf : f_NameText_write N sp_level sp_row sp_place sp_cap nt_bytes nt_length g_rowCuts g_columnCuts g_bandRows g_zoneColumns = some (o1, o2)) : Met l yX4_write wsX4_write ({ frames := 2, cells := 0, slots := 0, locals := 45 }) (va_Pc [.ref a_nt, .ref a_sp] (q_N D ci A sa ((a_sp, .inr (6, [.ref a_g, .ref a_sp_first, .ref a_sp_many, .ref a_sp_corner, .int sp_cornerCount, .int sp_level, .int sp_row, .int sp_start, .int sp_place, .int sp_length, .int sp_cap])) :: (a_nt, .inr (4, [.ref a_nt_bytes, .int nt_length])) :: (a_nt_bytes, .inl (ci 0, 40, .inl nt_bytes)) :: (a_g, .inr (2, [.ref a_g_rowCuts, .ref a_g_columnCuts, .ref a_g_bandRows, .ref a_g_zoneColumns, .ref a_g_rows, .ref a_g_sheets])) :: (a_g_rowCuts, .inl (ci 0, 5, .inl g_rowCuts)) :: (a_g_columnCuts, .inl (ci 0, 5, .inl g_columnCuts)) :: (a_g_bandRows, .inl (ci 0, 5, .inl g_bandRows)) :: (a_g_zoneColumns, .inl (ci 0, 5, .inl g_zoneColumns)) :: Rw))) (q_Q none (q_O D A ((a_sp, .inr (6, [.ref a_g, .ref a_sp_first, .ref a_sp_many, .ref a_sp_corner, .int sp_cornerCount, .int sp_level, .int sp_row, .int sp_start, .int sp_place, .int sp_length, .int sp_cap])) :: (a_nt, .inr (4, [.ref a_nt_bytes, .int o2])) :: (a_nt_bytes, .inl (ci 0, 40, .inl o1)) :: (a_g, .inr (2, [.ref a_g_rowCuts, .ref a_g_columnCuts, .ref a_g_bandRows, .ref a_g_zoneColumns, .ref a_g_rows, .ref a_g_sheets])) :: (a_g_rowCuts, .inl (ci 0, 5, .inl g_rowCuts)) :: (a_g_columnCuts, .inl (ci 0, 5, .inl g_columnCuts)) :: (a_g_bandRows, .inl (ci 0, 5, .inl g_bandRows)) :: (a_g_zoneColumns, .inl (ci 0, 5, .inl g_zoneColumns)) :: Rw)) A) 0 0 A := by
  refine q_ofW (cc := cX4_write) (maxL := 4) (ret := none) [.ref a_nt, .ref a_sp] (plainFor_of_name (by decide)) rfl (Nat.le_of_ble_eq_true rfl) ?_
  intro p e s m below meth c ls Q hQ hx hb hml hr hts hown hlocks hK hA hZ hP hD hS hl
  have hl : lv_has ls 4 [(0, .ref a_nt), (1, .ref a_sp)] := hl
  have hown : s.vm.findClass RX4 = some m.cls := hown
  have hinX4 : ∀ w ∈ wsX40, w ∈ wsX4_write := fun _ h => List.mem_cons_of_mem _ (inWX40 _ h)
  have hinX6 : ∀ w ∈ wsX60, w ∈ wsX4_write := fun _ h => List.mem_cons_of_mem _ (inWX60 _ h)
  have w_1 := hts (Cond.fieldLink RX4 15 "SheetNames$NameText" "length" "I") (List.mem_cons_of_mem _ t_w834)
  have wn_50 : (Cond.fieldLinkNest "SheetNames$NameText" 19 "SheetNames$Spot" "cap" "Z" "SheetNames").before ([.ref a_nt, .ref a_sp] : List Value).toArray s = true := (hZ.2.2.2.2.2.2.2.2.2.1 _ (List.mem_of_getElem? (i := 50) rfl)).use rfl
  have wn_51 : (Cond.fieldLinkNest "SheetNames$NameText" 25 "SheetNames$Spot" "row" "I" "SheetNames").before ([.ref a_nt, .ref a_sp] : List Value).toArray s = true := (hZ.2.2.2.2.2.2.2.2.2.1 _ (List.mem_of_getElem? (i := 51) rfl)).use rfl
  have wn_52 : (Cond.fieldLinkNest "SheetNames$NameText" 43 "SheetNames$Spot" "level" "I" "SheetNames").before ([.ref a_nt, .ref a_sp] : List Value).toArray s = true := (hZ.2.2.2.2.2.2.2.2.2.1 _ (List.mem_of_getElem? (i := 52) rfl)).use rfl
  unfold f_NameText_write at hf
  have hgo : ∀ (H : Heap) (locs : List Loc), H = s.heap → va_P D vwCl ((a_sp, .inr (6, [.ref a_g, .ref a_sp_first, .ref a_sp_many, .ref a_sp_corner, .int sp_cornerCount, .int sp_level, .int sp_row, .int sp_start, .int sp_place, .int sp_length, .int sp_cap])) :: (a_nt, .inr (4, [.ref a_nt_bytes, .int nt_length])) :: (a_nt_bytes, .inl (ci 0, 40, .inl nt_bytes)) :: (a_g, .inr (2, [.ref a_g_rowCuts, .ref a_g_columnCuts, .ref a_g_bandRows, .ref a_g_zoneColumns, .ref a_g_rows, .ref a_g_sheets])) :: (a_g_rowCuts, .inl (ci 0, 5, .inl g_rowCuts)) :: (a_g_columnCuts, .inl (ci 0, 5, .inl g_columnCuts)) :: (a_g_bandRows, .inl (ci 0, 5, .inl g_bandRows)) :: (a_g_zoneColumns, .inl (ci 0, 5, .inl g_zoneColumns)) :: Rw) H → va_S A s.heap H locs → W p l e ({ frames := 2, cells := 0, slots := 0, locals := 45 } : Room) s m ([.ref a_nt, .ref a_sp] : List Value).toArray below meth c H locs 0 0 Q (F0 m 0 ls []) := by
    intro H locs hH hP hS
    refine lv_aload_n (pc := 0) hx hb dX4_write_0 rfl (lv_at hl 0 rfl) ?_
    refine lv_iconst (pc := 1) (v := 0) hx hb dX4_write_1 (by decide) ?_
    refine va_put (pc := 2) (D := D) (ci := 4) (v := .int 0) (ty := .int) (C := RX4) (T := TX4) (N := 2) hx hb hts hinX4 tyX4 tyX4_ok nmX4 hown hK hP hD hS 1 rfl rfl 1 (by decide) w_1 (fun _ h9 => h9) rfl (by decide +kernel) rfl rfl (Nat.le_of_ble_eq_true rfl) dX4_write_2 (fun H locs hP hD hS => ?_)
    obtain ⟨hP, hD⟩ : va_PD D A ((a_sp, .inr (6, [.ref a_g, .ref a_sp_first, .ref a_sp_many, .ref a_sp_corner, .int sp_cornerCount, .int sp_level, .int sp_row, .int sp_start, .int sp_place, .int sp_length, .int sp_cap])) :: (a_nt, .inr (4, [.ref a_nt_bytes, .int 0])) :: (a_nt_bytes, .inl (ci 0, 40, .inl nt_bytes)) :: (a_g, .inr (2, [.ref a_g_rowCuts, .ref a_g_columnCuts, .ref a_g_bandRows, .ref a_g_zoneColumns, .ref a_g_rows, .ref a_g_sheets])) :: (a_g_rowCuts, .inl (ci 0, 5, .inl g_rowCuts)) :: (a_g_columnCuts, .inl (ci 0, 5, .inl g_columnCuts)) :: (a_g_bandRows, .inl (ci 0, 5, .inl g_bandRows)) :: (a_g_zoneColumns, .inl (ci 0, 5, .inl g_zoneColumns)) :: Rw) H := ⟨hP, hD⟩
    refine lv_aload_n (pc := 5) hx hb dX4_write_5 rfl (lv_at hl 1 rfl) ?_
    refine va_getN (pc := 6) (D := D) (ci := 6) (v := .int sp_cap) (C := RX6) (T := TX6) (N := 11) hx hb hts hinX6 hown hK hP 0 rfl rfl 10 (by decide) wn_50 (fun _ h9 => h9) rfl dX4_write_6 ?_
    refine q_if_eq (pc := 9) (tgt := 37) hx hb dX4_write_9 (by decide) rfl hf (fun hf => ?_) (fun hf => ?_)
    · refine lv_aload_n (pc := 37) hx hb dX4_write_37 rfl (lv_at hl 1 rfl) ?_
      obtain ⟨v1, hm38, hf⟩ := q_b1_e hf
      refine q_cVr (pc := 38) (As := []) (rest := []) (v0 := (some (.int v1))) ⟨hx, hb, hml, hown, hts⟩ hK hA hZ hP hD hS hl.1 [0, 3, 6] 8 rfl ⟨rfl, rfl, rfl⟩ (c_Spot_band l D ci A sa N (Rw) a_sp a_g a_sp_first a_sp_many a_sp_corner a_g_rowCuts a_g_columnCuts a_g_bandRows a_g_zoneColumns a_g_rows a_g_sheets sp_cornerCount sp_level sp_row sp_start sp_place sp_length sp_cap g_bandRows v1 hm38) 0 rfl rfl (cwV 0 hts gX4_write_X6_band rfl rfl rfl (by decide +kernel) ⟨Nat.le_of_ble_eq_true rfl, Nat.le_of_ble_eq_true rfl⟩) rfl rfl (Nat.le_of_ble_eq_true rfl) dX4_write_38 ⟨Nat.zero_le _, Nat.zero_le _⟩ (fun locs hS => ?_)
      refine lv_istore_n (pc := 41) (lv' := [(2, .int v1), (0, .ref a_nt), (1, .ref a_sp)]) hx hb dX4_write_41 rfl hl (by decide) rfl (fun ls hl => ?_)
      refine lv_aload_n (pc := 42) hx hb dX4_write_42 rfl (lv_at hl 1 rfl) ?_
      refine lv_iload_n (pc := 43) hx hb dX4_write_43 rfl (lv_at hl 0 rfl) ?_
      obtain ⟨k54, ek54, hf⟩ := q_j1_e hf
      have J54 : ∀ (v2 : Int32) (H : Heap) (locs : List Loc) (ls : Array Slot), k54 v2 = some (o1, o2) → va_P D vwCl ((a_sp, .inr (6, [.ref a_g, .ref a_sp_first, .ref a_sp_many, .ref a_sp_corner, .int sp_cornerCount, .int sp_level, .int sp_row, .int sp_start, .int sp_place, .int sp_length, .int sp_cap])) :: (a_nt, .inr (4, [.ref a_nt_bytes, .int 0])) :: (a_nt_bytes, .inl (ci 0, 40, .inl nt_bytes)) :: (a_g, .inr (2, [.ref a_g_rowCuts, .ref a_g_columnCuts, .ref a_g_bandRows, .ref a_g_zoneColumns, .ref a_g_rows, .ref a_g_sheets])) :: (a_g_rowCuts, .inl (ci 0, 5, .inl g_rowCuts)) :: (a_g_columnCuts, .inl (ci 0, 5, .inl g_columnCuts)) :: (a_g_bandRows, .inl (ci 0, 5, .inl g_bandRows)) :: (a_g_zoneColumns, .inl (ci 0, 5, .inl g_zoneColumns)) :: Rw) H → va_D A ((a_sp, .inr (6, [.ref a_g, .ref a_sp_first, .ref a_sp_many, .ref a_sp_corner, .int sp_cornerCount, .int sp_level, .int sp_row, .int sp_start, .int sp_place, .int sp_length, .int sp_cap])) :: (a_nt, .inr (4, [.ref a_nt_bytes, .int 0])) :: (a_nt_bytes, .inl (ci 0, 40, .inl nt_bytes)) :: (a_g, .inr (2, [.ref a_g_rowCuts, .ref a_g_columnCuts, .ref a_g_bandRows, .ref a_g_zoneColumns, .ref a_g_rows, .ref a_g_sheets])) :: (a_g_rowCuts, .inl (ci 0, 5, .inl g_rowCuts)) :: (a_g_columnCuts, .inl (ci 0, 5, .inl g_columnCuts)) :: (a_g_bandRows, .inl (ci 0, 5, .inl g_bandRows)) :: (a_g_zoneColumns, .inl (ci 0, 5, .inl g_zoneColumns)) :: Rw) → va_S A s.heap H locs → lv_has ls 4 [(0, .ref a_nt), (1, .ref a_sp), (2, .int v1)] → W p l e ({ frames := 2, cells := 0, slots := 0, locals := 45 } : Room) s m ([.ref a_nt, .ref a_sp] : List Value).toArray below meth c H locs 0 0 Q (F0 m 54 ls [.int v2, .ref a_nt]) := by
        intro v2 H locs ls hf hP hD hS hl
        have hf := (ek54 v2).symm.trans hf
        obtain ⟨f3, v4, hm54, hf⟩ := q_b2_e hf
        refine q_cV (pc := 54) (As := [.int v2]) (rest := []) (v0 := none) ⟨hx, hb, hml, hown, hts⟩ hK hA hZ hP hD hS hl.1 [1, 2, 0, 3, 4, 5, 6, 7] 8 rfl ⟨rfl, rfl, rfl⟩ (c_NameText_add l D ci A sa N ((a_sp, .inr (6, [.ref a_g, .ref a_sp_first, .ref a_sp_many, .ref a_sp_corner, .int sp_cornerCount, .int sp_level, .int sp_row, .int sp_start, .int sp_place, .int sp_length, .int sp_cap])) :: (a_g, .inr (2, [.ref a_g_rowCuts, .ref a_g_columnCuts, .ref a_g_bandRows, .ref a_g_zoneColumns, .ref a_g_rows, .ref a_g_sheets])) :: (a_g_rowCuts, .inl (ci 0, 5, .inl g_rowCuts)) :: (a_g_columnCuts, .inl (ci 0, 5, .inl g_columnCuts)) :: (a_g_bandRows, .inl (ci 0, 5, .inl g_bandRows)) :: (a_g_zoneColumns, .inl (ci 0, 5, .inl g_zoneColumns)) :: Rw) a_nt a_nt_bytes 0 nt_bytes v2 f3 v4 hm54) 1 rfl rfl (cwV 1 hts gX4_write_X4_add rfl rfl rfl (by decide +kernel) ⟨Nat.le_of_ble_eq_true rfl, Nat.le_of_ble_eq_true rfl⟩) rfl rfl (Nat.le_of_ble_eq_true rfl) dX4_write_54 ⟨Nat.zero_le _, Nat.zero_le _⟩ [2, 0, 1, 3, 4, 5, 6, 7] 8 rfl ⟨rfl, rfl, rfl⟩ (fun H locs hP hD hS => ?_)
        obtain ⟨hP, hD⟩ : va_PD D A ((a_sp, .inr (6, [.ref a_g, .ref a_sp_first, .ref a_sp_many, .ref a_sp_corner, .int sp_cornerCount, .int sp_level, .int sp_row, .int sp_start, .int sp_place, .int sp_length, .int sp_cap])) :: (a_nt, .inr (4, [.ref a_nt_bytes, .int v4])) :: (a_nt_bytes, .inl (ci 0, 40, .inl f3)) :: (a_g, .inr (2, [.ref a_g_rowCuts, .ref a_g_columnCuts, .ref a_g_bandRows, .ref a_g_zoneColumns, .ref a_g_rows, .ref a_g_sheets])) :: (a_g_rowCuts, .inl (ci 0, 5, .inl g_rowCuts)) :: (a_g_columnCuts, .inl (ci 0, 5, .inl g_columnCuts)) :: (a_g_bandRows, .inl (ci 0, 5, .inl g_bandRows)) :: (a_g_zoneColumns, .inl (ci 0, 5, .inl g_zoneColumns)) :: Rw) H := ⟨hP, hD⟩
        refine lv_aload_n (pc := 57) hx hb dX4_write_57 rfl (lv_at hl 0 rfl) ?_
        refine lv_bipush (pc := 58) (v := 65) hx hb dX4_write_58 (by decide) ?_
        refine lv_iload_n (pc := 60) hx hb dX4_write_60 rfl (lv_at hl 2 rfl) ?_
        obtain ⟨k71, ek71, hf⟩ := q_j1_e hf
        have J71 : ∀ (v5 : Int32) (H : Heap) (locs : List Loc) (ls : Array Slot), k71 v5 = some (o1, o2) → va_P D vwCl ((a_sp, .inr (6, [.ref a_g, .ref a_sp_first, .ref a_sp_many, .ref a_sp_corner, .int sp_cornerCount, .int sp_level, .int sp_row, .int sp_start, .int sp_place, .int sp_length, .int sp_cap])) :: (a_nt, .inr (4, [.ref a_nt_bytes, .int v4])) :: (a_nt_bytes, .inl (ci 0, 40, .inl f3)) :: (a_g, .inr (2, [.ref a_g_rowCuts, .ref a_g_columnCuts, .ref a_g_bandRows, .ref a_g_zoneColumns, .ref a_g_rows, .ref a_g_sheets])) :: (a_g_rowCuts, .inl (ci 0, 5, .inl g_rowCuts)) :: (a_g_columnCuts, .inl (ci 0, 5, .inl g_columnCuts)) :: (a_g_bandRows, .inl (ci 0, 5, .inl g_bandRows)) :: (a_g_zoneColumns, .inl (ci 0, 5, .inl g_zoneColumns)) :: Rw) H → va_D A ((a_sp, .inr (6, [.ref a_g, .ref a_sp_first, .ref a_sp_many, .ref a_sp_corner, .int sp_cornerCount, .int sp_level, .int sp_row, .int sp_start, .int sp_place, .int sp_length, .int sp_cap])) :: (a_nt, .inr (4, [.ref a_nt_bytes, .int v4])) :: (a_nt_bytes, .inl (ci 0, 40, .inl f3)) :: (a_g, .inr (2, [.ref a_g_rowCuts, .ref a_g_columnCuts, .ref a_g_bandRows, .ref a_g_zoneColumns, .ref a_g_rows, .ref a_g_sheets])) :: (a_g_rowCuts, .inl (ci 0, 5, .inl g_rowCuts)) :: (a_g_columnCuts, .inl (ci 0, 5, .inl g_columnCuts)) :: (a_g_bandRows, .inl (ci 0, 5, .inl g_bandRows)) :: (a_g_zoneColumns, .inl (ci 0, 5, .inl g_zoneColumns)) :: Rw) → va_S A s.heap H locs → lv_has ls 4 [(0, .ref a_nt), (1, .ref a_sp)] → W p l e ({ frames := 2, cells := 0, slots := 0, locals := 45 } : Room) s m ([.ref a_nt, .ref a_sp] : List Value).toArray below meth c H locs 0 0 Q (F0 m 71 ls [.int v5, .int 65, .ref a_nt]) := by
          intro v5 H locs ls hf hP hD hS hl
          have hf := (ek71 v5).symm.trans hf
          refine lv_iadd (pc := 71) hx hb dX4_write_71 ?_
          obtain ⟨f6, v7, hm72, hf⟩ := q_b2_e hf
          refine q_cV (pc := 72) (As := [.int (65 + v5)]) (rest := []) (v0 := none) ⟨hx, hb, hml, hown, hts⟩ hK hA hZ hP hD hS hl.1 [1, 2, 0, 3, 4, 5, 6, 7] 8 rfl ⟨rfl, rfl, rfl⟩ (c_NameText_add l D ci A sa N ((a_sp, .inr (6, [.ref a_g, .ref a_sp_first, .ref a_sp_many, .ref a_sp_corner, .int sp_cornerCount, .int sp_level, .int sp_row, .int sp_start, .int sp_place, .int sp_length, .int sp_cap])) :: (a_g, .inr (2, [.ref a_g_rowCuts, .ref a_g_columnCuts, .ref a_g_bandRows, .ref a_g_zoneColumns, .ref a_g_rows, .ref a_g_sheets])) :: (a_g_rowCuts, .inl (ci 0, 5, .inl g_rowCuts)) :: (a_g_columnCuts, .inl (ci 0, 5, .inl g_columnCuts)) :: (a_g_bandRows, .inl (ci 0, 5, .inl g_bandRows)) :: (a_g_zoneColumns, .inl (ci 0, 5, .inl g_zoneColumns)) :: Rw) a_nt a_nt_bytes v4 f3 (65 + v5) f6 v7 hm72) 1 rfl rfl (cwV 1 hts gX4_write_X4_add rfl rfl rfl (by decide +kernel) ⟨Nat.le_of_ble_eq_true rfl, Nat.le_of_ble_eq_true rfl⟩) rfl rfl (Nat.le_of_ble_eq_true rfl) dX4_write_72 ⟨Nat.zero_le _, Nat.zero_le _⟩ [2, 0, 1, 3, 4, 5, 6, 7] 8 rfl ⟨rfl, rfl, rfl⟩ (fun H locs hP hD hS => ?_)
          obtain ⟨hP, hD⟩ : va_PD D A ((a_sp, .inr (6, [.ref a_g, .ref a_sp_first, .ref a_sp_many, .ref a_sp_corner, .int sp_cornerCount, .int sp_level, .int sp_row, .int sp_start, .int sp_place, .int sp_length, .int sp_cap])) :: (a_nt, .inr (4, [.ref a_nt_bytes, .int v7])) :: (a_nt_bytes, .inl (ci 0, 40, .inl f6)) :: (a_g, .inr (2, [.ref a_g_rowCuts, .ref a_g_columnCuts, .ref a_g_bandRows, .ref a_g_zoneColumns, .ref a_g_rows, .ref a_g_sheets])) :: (a_g_rowCuts, .inl (ci 0, 5, .inl g_rowCuts)) :: (a_g_columnCuts, .inl (ci 0, 5, .inl g_columnCuts)) :: (a_g_bandRows, .inl (ci 0, 5, .inl g_bandRows)) :: (a_g_zoneColumns, .inl (ci 0, 5, .inl g_zoneColumns)) :: Rw) H := ⟨hP, hD⟩
          refine lv_aload_n (pc := 75) hx hb dX4_write_75 rfl (lv_at hl 0 rfl) ?_
          refine lv_aload_n (pc := 76) hx hb dX4_write_76 rfl (lv_at hl 1 rfl) ?_
          refine lv_iconst (pc := 77) (v := 0) hx hb dX4_write_77 (by decide) ?_
          obtain ⟨v8, hm78, hf⟩ := q_b1_e hf
          refine q_cVr (pc := 78) (As := [.int 0]) (rest := [.ref a_nt]) (v0 := (some (.int v8))) ⟨hx, hb, hml, hown, hts⟩ hK hA hZ hP hD hS hl.1 [0, 3, 4, 5, 6, 7] 8 rfl ⟨rfl, rfl, rfl⟩ (c_Spot_numberOf l D ci A sa N (Rw) a_sp a_g a_sp_first a_sp_many a_sp_corner a_g_rowCuts a_g_columnCuts a_g_bandRows a_g_zoneColumns a_g_rows a_g_sheets sp_cornerCount sp_level sp_row sp_start sp_place sp_length sp_cap g_rowCuts g_columnCuts g_bandRows g_zoneColumns 0 v8 hm78) 0 rfl rfl (cwV 1 hts gX4_write_X6_numberOf rfl rfl rfl (by decide +kernel) ⟨Nat.le_of_ble_eq_true rfl, Nat.le_of_ble_eq_true rfl⟩) rfl rfl (Nat.le_of_ble_eq_true rfl) dX4_write_78 ⟨Nat.zero_le _, Nat.zero_le _⟩ (fun locs hS => ?_)
          obtain ⟨f9, v10, hm81, hf⟩ := q_b2_e hf
          refine q_cV (pc := 81) (As := [.int v8]) (rest := []) (v0 := none) ⟨hx, hb, hml, hown, hts⟩ hK hA hZ hP hD hS hl.1 [1, 2, 0, 3, 4, 5, 6, 7] 8 rfl ⟨rfl, rfl, rfl⟩ (c_NameText_addNumber l D ci A sa N ((a_sp, .inr (6, [.ref a_g, .ref a_sp_first, .ref a_sp_many, .ref a_sp_corner, .int sp_cornerCount, .int sp_level, .int sp_row, .int sp_start, .int sp_place, .int sp_length, .int sp_cap])) :: (a_g, .inr (2, [.ref a_g_rowCuts, .ref a_g_columnCuts, .ref a_g_bandRows, .ref a_g_zoneColumns, .ref a_g_rows, .ref a_g_sheets])) :: (a_g_rowCuts, .inl (ci 0, 5, .inl g_rowCuts)) :: (a_g_columnCuts, .inl (ci 0, 5, .inl g_columnCuts)) :: (a_g_bandRows, .inl (ci 0, 5, .inl g_bandRows)) :: (a_g_zoneColumns, .inl (ci 0, 5, .inl g_zoneColumns)) :: Rw) a_nt a_nt_bytes v7 f6 v8 f9 v10 hm81) 1 rfl rfl (cwV 1 hts gX4_write_X4_addNumber rfl rfl rfl (by decide +kernel) ⟨Nat.le_of_ble_eq_true rfl, Nat.le_of_ble_eq_true rfl⟩) rfl rfl (Nat.le_of_ble_eq_true rfl) dX4_write_81 ⟨Nat.zero_le _, Nat.zero_le _⟩ [2, 0, 1, 3, 4, 5, 6, 7] 8 rfl ⟨rfl, rfl, rfl⟩ (fun H locs hP hD hS => ?_)
          obtain ⟨hP, hD⟩ : va_PD D A ((a_sp, .inr (6, [.ref a_g, .ref a_sp_first, .ref a_sp_many, .ref a_sp_corner, .int sp_cornerCount, .int sp_level, .int sp_row, .int sp_start, .int sp_place, .int sp_length, .int sp_cap])) :: (a_nt, .inr (4, [.ref a_nt_bytes, .int v10])) :: (a_nt_bytes, .inl (ci 0, 40, .inl f9)) :: (a_g, .inr (2, [.ref a_g_rowCuts, .ref a_g_columnCuts, .ref a_g_bandRows, .ref a_g_zoneColumns, .ref a_g_rows, .ref a_g_sheets])) :: (a_g_rowCuts, .inl (ci 0, 5, .inl g_rowCuts)) :: (a_g_columnCuts, .inl (ci 0, 5, .inl g_columnCuts)) :: (a_g_bandRows, .inl (ci 0, 5, .inl g_bandRows)) :: (a_g_zoneColumns, .inl (ci 0, 5, .inl g_zoneColumns)) :: Rw) H := ⟨hP, hD⟩
          refine lv_iconst (pc := 84) (v := 1) hx hb dX4_write_84 (by decide) ?_
          obtain ⟨v11, ev11, hf⟩ := q_nm_e hf
          refine q_topi ev11 ?_
          refine lv_istore_n (pc := 85) (lv' := [(3, .int v11), (0, .ref a_nt), (1, .ref a_sp)]) hx hb dX4_write_85 rfl hl (by decide) rfl (fun ls hl => ?_)
          obtain ⟨f15, v16, hm86, hf⟩ := q_b2_e hf
          have JE86 : ∀ (H : Heap) (locs : List Loc) (ls : Array Slot), va_P D vwCl ((a_sp, .inr (6, [.ref a_g, .ref a_sp_first, .ref a_sp_many, .ref a_sp_corner, .int sp_cornerCount, .int sp_level, .int sp_row, .int sp_start, .int sp_place, .int sp_length, .int sp_cap])) :: (a_nt, .inr (4, [.ref a_nt_bytes, .int v16])) :: (a_nt_bytes, .inl (ci 0, 40, .inl f15)) :: (a_g, .inr (2, [.ref a_g_rowCuts, .ref a_g_columnCuts, .ref a_g_bandRows, .ref a_g_zoneColumns, .ref a_g_rows, .ref a_g_sheets])) :: (a_g_rowCuts, .inl (ci 0, 5, .inl g_rowCuts)) :: (a_g_columnCuts, .inl (ci 0, 5, .inl g_columnCuts)) :: (a_g_bandRows, .inl (ci 0, 5, .inl g_bandRows)) :: (a_g_zoneColumns, .inl (ci 0, 5, .inl g_zoneColumns)) :: Rw) H → va_D A ((a_sp, .inr (6, [.ref a_g, .ref a_sp_first, .ref a_sp_many, .ref a_sp_corner, .int sp_cornerCount, .int sp_level, .int sp_row, .int sp_start, .int sp_place, .int sp_length, .int sp_cap])) :: (a_nt, .inr (4, [.ref a_nt_bytes, .int v16])) :: (a_nt_bytes, .inl (ci 0, 40, .inl f15)) :: (a_g, .inr (2, [.ref a_g_rowCuts, .ref a_g_columnCuts, .ref a_g_bandRows, .ref a_g_zoneColumns, .ref a_g_rows, .ref a_g_sheets])) :: (a_g_rowCuts, .inl (ci 0, 5, .inl g_rowCuts)) :: (a_g_columnCuts, .inl (ci 0, 5, .inl g_columnCuts)) :: (a_g_bandRows, .inl (ci 0, 5, .inl g_bandRows)) :: (a_g_zoneColumns, .inl (ci 0, 5, .inl g_zoneColumns)) :: Rw) → va_S A s.heap H locs → lv_has ls 4 [] → W p l e ({ frames := 2, cells := 0, slots := 0, locals := 45 } : Room) s m ([.ref a_nt, .ref a_sp] : List Value).toArray below meth c H locs 0 0 Q (F0 m 115 ls []) := by
            intro H locs ls hP hD hS hl
            obtain ⟨rfl, rfl⟩ := q_inj2 (Option.some.inj hf)
            rw [hQ]
            exact q_vret (pc := 115) hx hb hr hlocks hP hD hS dX4_write_115
          have LP86 : ∀ (n86 : Nat) (v12 : Int32) (f13 : Nat → Int32) (v14 : Int32) (H : Heap) (locs : List Loc) (ls : Array Slot), f_NameText_write_L86 g_bandRows g_columnCuts g_rowCuts g_zoneColumns sp_cap sp_level sp_place sp_row n86 v12 f13 v14 = some (f15, v16) → va_P D vwCl ((a_sp, .inr (6, [.ref a_g, .ref a_sp_first, .ref a_sp_many, .ref a_sp_corner, .int sp_cornerCount, .int sp_level, .int sp_row, .int sp_start, .int sp_place, .int sp_length, .int sp_cap])) :: (a_nt, .inr (4, [.ref a_nt_bytes, .int v14])) :: (a_nt_bytes, .inl (ci 0, 40, .inl f13)) :: (a_g, .inr (2, [.ref a_g_rowCuts, .ref a_g_columnCuts, .ref a_g_bandRows, .ref a_g_zoneColumns, .ref a_g_rows, .ref a_g_sheets])) :: (a_g_rowCuts, .inl (ci 0, 5, .inl g_rowCuts)) :: (a_g_columnCuts, .inl (ci 0, 5, .inl g_columnCuts)) :: (a_g_bandRows, .inl (ci 0, 5, .inl g_bandRows)) :: (a_g_zoneColumns, .inl (ci 0, 5, .inl g_zoneColumns)) :: Rw) H → va_D A ((a_sp, .inr (6, [.ref a_g, .ref a_sp_first, .ref a_sp_many, .ref a_sp_corner, .int sp_cornerCount, .int sp_level, .int sp_row, .int sp_start, .int sp_place, .int sp_length, .int sp_cap])) :: (a_nt, .inr (4, [.ref a_nt_bytes, .int v14])) :: (a_nt_bytes, .inl (ci 0, 40, .inl f13)) :: (a_g, .inr (2, [.ref a_g_rowCuts, .ref a_g_columnCuts, .ref a_g_bandRows, .ref a_g_zoneColumns, .ref a_g_rows, .ref a_g_sheets])) :: (a_g_rowCuts, .inl (ci 0, 5, .inl g_rowCuts)) :: (a_g_columnCuts, .inl (ci 0, 5, .inl g_columnCuts)) :: (a_g_bandRows, .inl (ci 0, 5, .inl g_bandRows)) :: (a_g_zoneColumns, .inl (ci 0, 5, .inl g_zoneColumns)) :: Rw) → va_S A s.heap H locs → lv_has ls 4 [(0, .ref a_nt), (1, .ref a_sp), (3, .int v12)] → W p l e ({ frames := 2, cells := 0, slots := 0, locals := 45 } : Room) s m ([.ref a_nt, .ref a_sp] : List Value).toArray below meth c H locs 0 0 Q (F0 m 86 ls []) := by
            intro n86
            induction n86 with
            | zero => intro v12 f13 v14 H locs ls hf; rw [f_NameText_write_L86] at hf; cases hf
            | succ n86 ih86 =>
              intro v12 f13 v14 H locs ls hf hP hD hS hl
              rw [f_NameText_write_L86] at hf
              refine lv_iload_n (pc := 86) hx hb dX4_write_86 rfl (lv_at hl 2 rfl) ?_
              refine lv_aload_n (pc := 87) hx hb dX4_write_87 rfl (lv_at hl 1 rfl) ?_
              refine va_getN (pc := 88) (D := D) (ci := 6) (v := .int sp_level) (C := RX6) (T := TX6) (N := 11) hx hb hts hinX6 hown hK hP 0 rfl rfl 5 (by decide) wn_52 (fun _ h9 => h9) rfl dX4_write_88 ?_
              refine q_icmp_gt (pc := 91) (tgt := 115) hx hb dX4_write_91 (by decide) rfl hf (fun hf => ?_) (fun hf => ?_)
              · obtain ⟨rfl, rfl⟩ := q_inj2 (Option.some.inj hf)
                exact JE86 _ _ _ hP hD hS (lv_sub hl [] rfl)
              · refine lv_aload_n (pc := 94) hx hb dX4_write_94 rfl (lv_at hl 0 rfl) ?_
                refine lv_bipush (pc := 95) (v := 45) hx hb dX4_write_95 (by decide) ?_
                obtain ⟨f17, v18, hm97, hf⟩ := q_b2_e hf
                refine q_cV (pc := 97) (As := [.int 45]) (rest := []) (v0 := none) ⟨hx, hb, hml, hown, hts⟩ hK hA hZ hP hD hS hl.1 [1, 2, 0, 3, 4, 5, 6, 7] 8 rfl ⟨rfl, rfl, rfl⟩ (c_NameText_add l D ci A sa N ((a_sp, .inr (6, [.ref a_g, .ref a_sp_first, .ref a_sp_many, .ref a_sp_corner, .int sp_cornerCount, .int sp_level, .int sp_row, .int sp_start, .int sp_place, .int sp_length, .int sp_cap])) :: (a_g, .inr (2, [.ref a_g_rowCuts, .ref a_g_columnCuts, .ref a_g_bandRows, .ref a_g_zoneColumns, .ref a_g_rows, .ref a_g_sheets])) :: (a_g_rowCuts, .inl (ci 0, 5, .inl g_rowCuts)) :: (a_g_columnCuts, .inl (ci 0, 5, .inl g_columnCuts)) :: (a_g_bandRows, .inl (ci 0, 5, .inl g_bandRows)) :: (a_g_zoneColumns, .inl (ci 0, 5, .inl g_zoneColumns)) :: Rw) a_nt a_nt_bytes v14 f13 45 f17 v18 hm97) 1 rfl rfl (cwV 1 hts gX4_write_X4_add rfl rfl rfl (by decide +kernel) ⟨Nat.le_of_ble_eq_true rfl, Nat.le_of_ble_eq_true rfl⟩) rfl rfl (Nat.le_of_ble_eq_true rfl) dX4_write_97 ⟨Nat.zero_le _, Nat.zero_le _⟩ [2, 0, 1, 3, 4, 5, 6, 7] 8 rfl ⟨rfl, rfl, rfl⟩ (fun H locs hP hD hS => ?_)
                obtain ⟨hP, hD⟩ : va_PD D A ((a_sp, .inr (6, [.ref a_g, .ref a_sp_first, .ref a_sp_many, .ref a_sp_corner, .int sp_cornerCount, .int sp_level, .int sp_row, .int sp_start, .int sp_place, .int sp_length, .int sp_cap])) :: (a_nt, .inr (4, [.ref a_nt_bytes, .int v18])) :: (a_nt_bytes, .inl (ci 0, 40, .inl f17)) :: (a_g, .inr (2, [.ref a_g_rowCuts, .ref a_g_columnCuts, .ref a_g_bandRows, .ref a_g_zoneColumns, .ref a_g_rows, .ref a_g_sheets])) :: (a_g_rowCuts, .inl (ci 0, 5, .inl g_rowCuts)) :: (a_g_columnCuts, .inl (ci 0, 5, .inl g_columnCuts)) :: (a_g_bandRows, .inl (ci 0, 5, .inl g_bandRows)) :: (a_g_zoneColumns, .inl (ci 0, 5, .inl g_zoneColumns)) :: Rw) H := ⟨hP, hD⟩
                refine lv_aload_n (pc := 100) hx hb dX4_write_100 rfl (lv_at hl 0 rfl) ?_
                refine lv_aload_n (pc := 101) hx hb dX4_write_101 rfl (lv_at hl 1 rfl) ?_
                refine lv_iload_n (pc := 102) hx hb dX4_write_102 rfl (lv_at hl 2 rfl) ?_
                obtain ⟨v19, hm103, hf⟩ := q_b1_e hf
                refine q_cVr (pc := 103) (As := [.int v12]) (rest := [.ref a_nt]) (v0 := (some (.int v19))) ⟨hx, hb, hml, hown, hts⟩ hK hA hZ hP hD hS hl.1 [0, 3, 4, 5, 6, 7] 8 rfl ⟨rfl, rfl, rfl⟩ (c_Spot_numberOf l D ci A sa N (Rw) a_sp a_g a_sp_first a_sp_many a_sp_corner a_g_rowCuts a_g_columnCuts a_g_bandRows a_g_zoneColumns a_g_rows a_g_sheets sp_cornerCount sp_level sp_row sp_start sp_place sp_length sp_cap g_rowCuts g_columnCuts g_bandRows g_zoneColumns v12 v19 hm103) 0 rfl rfl (cwV 1 hts gX4_write_X6_numberOf rfl rfl rfl (by decide +kernel) ⟨Nat.le_of_ble_eq_true rfl, Nat.le_of_ble_eq_true rfl⟩) rfl rfl (Nat.le_of_ble_eq_true rfl) dX4_write_103 ⟨Nat.zero_le _, Nat.zero_le _⟩ (fun locs hS => ?_)
                obtain ⟨f20, v21, hm106, hf⟩ := q_b2_e hf
                refine q_cV (pc := 106) (As := [.int v19]) (rest := []) (v0 := none) ⟨hx, hb, hml, hown, hts⟩ hK hA hZ hP hD hS hl.1 [1, 2, 0, 3, 4, 5, 6, 7] 8 rfl ⟨rfl, rfl, rfl⟩ (c_NameText_addNumber l D ci A sa N ((a_sp, .inr (6, [.ref a_g, .ref a_sp_first, .ref a_sp_many, .ref a_sp_corner, .int sp_cornerCount, .int sp_level, .int sp_row, .int sp_start, .int sp_place, .int sp_length, .int sp_cap])) :: (a_g, .inr (2, [.ref a_g_rowCuts, .ref a_g_columnCuts, .ref a_g_bandRows, .ref a_g_zoneColumns, .ref a_g_rows, .ref a_g_sheets])) :: (a_g_rowCuts, .inl (ci 0, 5, .inl g_rowCuts)) :: (a_g_columnCuts, .inl (ci 0, 5, .inl g_columnCuts)) :: (a_g_bandRows, .inl (ci 0, 5, .inl g_bandRows)) :: (a_g_zoneColumns, .inl (ci 0, 5, .inl g_zoneColumns)) :: Rw) a_nt a_nt_bytes v18 f17 v19 f20 v21 hm106) 1 rfl rfl (cwV 1 hts gX4_write_X4_addNumber rfl rfl rfl (by decide +kernel) ⟨Nat.le_of_ble_eq_true rfl, Nat.le_of_ble_eq_true rfl⟩) rfl rfl (Nat.le_of_ble_eq_true rfl) dX4_write_106 ⟨Nat.zero_le _, Nat.zero_le _⟩ [2, 0, 1, 3, 4, 5, 6, 7] 8 rfl ⟨rfl, rfl, rfl⟩ (fun H locs hP hD hS => ?_)
                obtain ⟨hP, hD⟩ : va_PD D A ((a_sp, .inr (6, [.ref a_g, .ref a_sp_first, .ref a_sp_many, .ref a_sp_corner, .int sp_cornerCount, .int sp_level, .int sp_row, .int sp_start, .int sp_place, .int sp_length, .int sp_cap])) :: (a_nt, .inr (4, [.ref a_nt_bytes, .int v21])) :: (a_nt_bytes, .inl (ci 0, 40, .inl f20)) :: (a_g, .inr (2, [.ref a_g_rowCuts, .ref a_g_columnCuts, .ref a_g_bandRows, .ref a_g_zoneColumns, .ref a_g_rows, .ref a_g_sheets])) :: (a_g_rowCuts, .inl (ci 0, 5, .inl g_rowCuts)) :: (a_g_columnCuts, .inl (ci 0, 5, .inl g_columnCuts)) :: (a_g_bandRows, .inl (ci 0, 5, .inl g_bandRows)) :: (a_g_zoneColumns, .inl (ci 0, 5, .inl g_zoneColumns)) :: Rw) H := ⟨hP, hD⟩
                obtain ⟨v22, ev22, hf⟩ := q_nm_e hf
                refine lv_iinc (pc := 109) (v := v22) (lv' := [(3, .int v22), (0, .ref a_nt), (1, .ref a_sp)]) hx hb dX4_write_109 hl (k := 2) rfl (by rw [ev22]; rfl) (by decide) rfl (fun ls hl => ?_)
                refine lv_goto (pc := 112) (tgt := 86) hx hb dX4_write_112 (by decide) ?_
                exact ih86 v22 f20 v21 _ _ _ hf hP hD hS (lv_sub hl [1, 2, 0] rfl)
          exact LP86 N v11 f9 v10 _ _ _ hm86 hP hD hS (lv_sub hl [1, 2, 0] rfl)
        refine q_if_lt (pc := 61) (tgt := 68) hx hb dX4_write_61 (by decide) rfl hf (fun hf => ?_) (fun hf => ?_)
        · refine lv_iconst (pc := 68) (v := (-1)) hx hb dX4_write_68 (by decide) ?_
          refine lv_iload_n (pc := 69) hx hb dX4_write_69 rfl (lv_at hl 2 rfl) ?_
          refine lv_isub (pc := 70) hx hb dX4_write_70 ?_
          exact J71 ((-1) - v1) _ _ _ hf hP hD hS (lv_sub hl [0, 1] rfl)
        · refine lv_iload_n (pc := 64) hx hb dX4_write_64 rfl (lv_at hl 2 rfl) ?_
          refine lv_goto (pc := 65) (tgt := 71) hx hb dX4_write_65 (by decide) ?_
          exact J71 v1 _ _ _ hf hP hD hS (lv_sub hl [0, 1] rfl)
      refine q_if_lt (pc := 44) (tgt := 52) hx hb dX4_write_44 (by decide) rfl hf (fun hf => ?_) (fun hf => ?_)
      · refine lv_bipush (pc := 52) (v := 83) hx hb dX4_write_52 (by decide) ?_
        exact J54 83 _ _ _ hf hP hD hS (lv_sub hl [1, 2, 0] rfl)
      · refine lv_bipush (pc := 47) (v := 78) hx hb dX4_write_47 (by decide) ?_
        refine lv_goto (pc := 49) (tgt := 54) hx hb dX4_write_49 (by decide) ?_
        exact J54 78 _ _ _ hf hP hD hS (lv_sub hl [1, 2, 0] rfl)
    · refine lv_aload_n (pc := 12) hx hb dX4_write_12 rfl (lv_at hl 0 rfl) ?_
      refine lv_aload_n (pc := 13) hx hb dX4_write_13 rfl (lv_at hl 1 rfl) ?_
      refine va_getN (pc := 14) (D := D) (ci := 6) (v := .int sp_row) (C := RX6) (T := TX6) (N := 11) hx hb hts hinX6 hown hK hP 0 rfl rfl 6 (by decide) wn_51 (fun _ h9 => h9) rfl dX4_write_14 ?_
      obtain ⟨k27, ek27, hf⟩ := q_j1_e hf
      have J27 : ∀ (v23 : Int32) (H : Heap) (locs : List Loc) (ls : Array Slot), k27 v23 = some (o1, o2) → va_P D vwCl ((a_sp, .inr (6, [.ref a_g, .ref a_sp_first, .ref a_sp_many, .ref a_sp_corner, .int sp_cornerCount, .int sp_level, .int sp_row, .int sp_start, .int sp_place, .int sp_length, .int sp_cap])) :: (a_nt, .inr (4, [.ref a_nt_bytes, .int 0])) :: (a_nt_bytes, .inl (ci 0, 40, .inl nt_bytes)) :: (a_g, .inr (2, [.ref a_g_rowCuts, .ref a_g_columnCuts, .ref a_g_bandRows, .ref a_g_zoneColumns, .ref a_g_rows, .ref a_g_sheets])) :: (a_g_rowCuts, .inl (ci 0, 5, .inl g_rowCuts)) :: (a_g_columnCuts, .inl (ci 0, 5, .inl g_columnCuts)) :: (a_g_bandRows, .inl (ci 0, 5, .inl g_bandRows)) :: (a_g_zoneColumns, .inl (ci 0, 5, .inl g_zoneColumns)) :: Rw) H → va_D A ((a_sp, .inr (6, [.ref a_g, .ref a_sp_first, .ref a_sp_many, .ref a_sp_corner, .int sp_cornerCount, .int sp_level, .int sp_row, .int sp_start, .int sp_place, .int sp_length, .int sp_cap])) :: (a_nt, .inr (4, [.ref a_nt_bytes, .int 0])) :: (a_nt_bytes, .inl (ci 0, 40, .inl nt_bytes)) :: (a_g, .inr (2, [.ref a_g_rowCuts, .ref a_g_columnCuts, .ref a_g_bandRows, .ref a_g_zoneColumns, .ref a_g_rows, .ref a_g_sheets])) :: (a_g_rowCuts, .inl (ci 0, 5, .inl g_rowCuts)) :: (a_g_columnCuts, .inl (ci 0, 5, .inl g_columnCuts)) :: (a_g_bandRows, .inl (ci 0, 5, .inl g_bandRows)) :: (a_g_zoneColumns, .inl (ci 0, 5, .inl g_zoneColumns)) :: Rw) → va_S A s.heap H locs → lv_has ls 4 [(0, .ref a_nt)] → W p l e ({ frames := 2, cells := 0, slots := 0, locals := 45 } : Room) s m ([.ref a_nt, .ref a_sp] : List Value).toArray below meth c H locs 0 0 Q (F0 m 27 ls [.int v23, .ref a_nt]) := by
        intro v23 H locs ls hf hP hD hS hl
        have hf := (ek27 v23).symm.trans hf
        obtain ⟨f24, v25, hm27, hf⟩ := q_b2_e hf
        refine q_cV (pc := 27) (As := [.int v23]) (rest := []) (v0 := none) ⟨hx, hb, hml, hown, hts⟩ hK hA hZ hP hD hS hl.1 [1, 2, 0, 3, 4, 5, 6, 7] 8 rfl ⟨rfl, rfl, rfl⟩ (c_NameText_add l D ci A sa N ((a_sp, .inr (6, [.ref a_g, .ref a_sp_first, .ref a_sp_many, .ref a_sp_corner, .int sp_cornerCount, .int sp_level, .int sp_row, .int sp_start, .int sp_place, .int sp_length, .int sp_cap])) :: (a_g, .inr (2, [.ref a_g_rowCuts, .ref a_g_columnCuts, .ref a_g_bandRows, .ref a_g_zoneColumns, .ref a_g_rows, .ref a_g_sheets])) :: (a_g_rowCuts, .inl (ci 0, 5, .inl g_rowCuts)) :: (a_g_columnCuts, .inl (ci 0, 5, .inl g_columnCuts)) :: (a_g_bandRows, .inl (ci 0, 5, .inl g_bandRows)) :: (a_g_zoneColumns, .inl (ci 0, 5, .inl g_zoneColumns)) :: Rw) a_nt a_nt_bytes 0 nt_bytes v23 f24 v25 hm27) 1 rfl rfl (cwV 1 hts gX4_write_X4_add rfl rfl rfl (by decide +kernel) ⟨Nat.le_of_ble_eq_true rfl, Nat.le_of_ble_eq_true rfl⟩) rfl rfl (Nat.le_of_ble_eq_true rfl) dX4_write_27 ⟨Nat.zero_le _, Nat.zero_le _⟩ [2, 0, 1, 3, 4, 5, 6, 7] 8 rfl ⟨rfl, rfl, rfl⟩ (fun H locs hP hD hS => ?_)
        obtain ⟨hP, hD⟩ : va_PD D A ((a_sp, .inr (6, [.ref a_g, .ref a_sp_first, .ref a_sp_many, .ref a_sp_corner, .int sp_cornerCount, .int sp_level, .int sp_row, .int sp_start, .int sp_place, .int sp_length, .int sp_cap])) :: (a_nt, .inr (4, [.ref a_nt_bytes, .int v25])) :: (a_nt_bytes, .inl (ci 0, 40, .inl f24)) :: (a_g, .inr (2, [.ref a_g_rowCuts, .ref a_g_columnCuts, .ref a_g_bandRows, .ref a_g_zoneColumns, .ref a_g_rows, .ref a_g_sheets])) :: (a_g_rowCuts, .inl (ci 0, 5, .inl g_rowCuts)) :: (a_g_columnCuts, .inl (ci 0, 5, .inl g_columnCuts)) :: (a_g_bandRows, .inl (ci 0, 5, .inl g_bandRows)) :: (a_g_zoneColumns, .inl (ci 0, 5, .inl g_zoneColumns)) :: Rw) H := ⟨hP, hD⟩
        refine lv_aload_n (pc := 30) hx hb dX4_write_30 rfl (lv_at hl 0 rfl) ?_
        refine lv_bipush (pc := 31) (v := 90) hx hb dX4_write_31 (by decide) ?_
        obtain ⟨f26, v27, hm33, hf⟩ := q_b2_e hf
        refine q_cV (pc := 33) (As := [.int 90]) (rest := []) (v0 := none) ⟨hx, hb, hml, hown, hts⟩ hK hA hZ hP hD hS hl.1 [1, 2, 0, 3, 4, 5, 6, 7] 8 rfl ⟨rfl, rfl, rfl⟩ (c_NameText_add l D ci A sa N ((a_sp, .inr (6, [.ref a_g, .ref a_sp_first, .ref a_sp_many, .ref a_sp_corner, .int sp_cornerCount, .int sp_level, .int sp_row, .int sp_start, .int sp_place, .int sp_length, .int sp_cap])) :: (a_g, .inr (2, [.ref a_g_rowCuts, .ref a_g_columnCuts, .ref a_g_bandRows, .ref a_g_zoneColumns, .ref a_g_rows, .ref a_g_sheets])) :: (a_g_rowCuts, .inl (ci 0, 5, .inl g_rowCuts)) :: (a_g_columnCuts, .inl (ci 0, 5, .inl g_columnCuts)) :: (a_g_bandRows, .inl (ci 0, 5, .inl g_bandRows)) :: (a_g_zoneColumns, .inl (ci 0, 5, .inl g_zoneColumns)) :: Rw) a_nt a_nt_bytes v25 f24 90 f26 v27 hm33) 1 rfl rfl (cwV 1 hts gX4_write_X4_add rfl rfl rfl (by decide +kernel) ⟨Nat.le_of_ble_eq_true rfl, Nat.le_of_ble_eq_true rfl⟩) rfl rfl (Nat.le_of_ble_eq_true rfl) dX4_write_33 ⟨Nat.zero_le _, Nat.zero_le _⟩ [2, 0, 1, 3, 4, 5, 6, 7] 8 rfl ⟨rfl, rfl, rfl⟩ (fun H locs hP hD hS => ?_)
        obtain ⟨hP, hD⟩ : va_PD D A ((a_sp, .inr (6, [.ref a_g, .ref a_sp_first, .ref a_sp_many, .ref a_sp_corner, .int sp_cornerCount, .int sp_level, .int sp_row, .int sp_start, .int sp_place, .int sp_length, .int sp_cap])) :: (a_nt, .inr (4, [.ref a_nt_bytes, .int v27])) :: (a_nt_bytes, .inl (ci 0, 40, .inl f26)) :: (a_g, .inr (2, [.ref a_g_rowCuts, .ref a_g_columnCuts, .ref a_g_bandRows, .ref a_g_zoneColumns, .ref a_g_rows, .ref a_g_sheets])) :: (a_g_rowCuts, .inl (ci 0, 5, .inl g_rowCuts)) :: (a_g_columnCuts, .inl (ci 0, 5, .inl g_columnCuts)) :: (a_g_bandRows, .inl (ci 0, 5, .inl g_bandRows)) :: (a_g_zoneColumns, .inl (ci 0, 5, .inl g_zoneColumns)) :: Rw) H := ⟨hP, hD⟩
        obtain ⟨rfl, rfl⟩ := q_inj2 (Option.some.inj hf)
        rw [hQ]
        exact q_vret (pc := 36) hx hb hr hlocks hP hD hS dX4_write_36
      refine q_if_ne (pc := 17) (tgt := 25) hx hb dX4_write_17 (by decide) rfl hf (fun hf => ?_) (fun hf => ?_)
      · refine lv_bipush (pc := 25) (v := 83) hx hb dX4_write_25 (by decide) ?_
        exact J27 83 _ _ _ hf hP hD hS (lv_sub hl [0] rfl)
      · refine lv_bipush (pc := 20) (v := 78) hx hb dX4_write_20 (by decide) ?_
        refine lv_goto (pc := 22) (tgt := 27) hx hb dX4_write_22 (by decide) ?_
        exact J27 78 _ _ _ hf hP hD hS (lv_sub hl [0] rfl)
  exact hgo _ _ rfl hP hS
/-! X8_add -/
set_option maxRecDepth 100000 in
set_option maxHeartbeats 4000000 in
theorem c_Tape_add (l : Launch) (D : va_G) (ci : Nat → ClassId) (A : Nat → Prop) (sa : Nat → Nat) (N : Nat) (Rw : va_W) (a_tp : Nat) (a_tp_bytes : Nat) (tp_length : Int32) (tp_bytes : Nat → Int32) (p1 : Int32) (o1 : Nat → Int32) (o2 : Int32) (hf : f_Tape_add N tp_bytes tp_length p1 = some (o1, o2)) : Met l yX8_add wsX8_add ({ frames := 0, cells := 0, slots := 0, locals := 0 }) (va_Pc [.ref a_tp, .int p1] (q_N D ci A sa ((a_tp, .inr (8, [.ref a_tp_bytes, .int tp_length])) :: (a_tp_bytes, .inl (ci 0, 200, .inl tp_bytes)) :: Rw))) (q_Q none (q_O D A ((a_tp, .inr (8, [.ref a_tp_bytes, .int o2])) :: (a_tp_bytes, .inl (ci 0, 200, .inl o1)) :: Rw)) A) 0 0 A := by
  refine q_ofW (cc := cX8_add) (maxL := 3) (ret := none) [.ref a_tp, .int p1] (plainFor_of_name (by decide)) rfl (Nat.le_of_ble_eq_true rfl) ?_
  intro p e s m below meth c ls Q hQ hx hb hml hr hts hown hlocks hK hA hZ hP hD hS hl
  have hl : lv_has ls 3 [(0, .ref a_tp), (1, .int p1)] := hl
  have hown : s.vm.findClass RX8 = some m.cls := hown
  have hinX8 : ∀ w ∈ wsX80, w ∈ wsX8_add := fun _ h => List.mem_cons_of_mem _ (inWX80 _ h)
  have w_1 := hts (Cond.fieldLink RX8 15 "SheetNames$Tape" "length" "I") (List.mem_cons_of_mem _ t_w837)
  have w_2 := hts (Cond.fieldLink RX8 9 "SheetNames$Tape" "bytes" "[I") (List.mem_cons_of_mem _ t_w838)
  unfold f_Tape_add at hf
  have hgo : ∀ (H : Heap) (locs : List Loc), H = s.heap → va_P D vwCl ((a_tp, .inr (8, [.ref a_tp_bytes, .int tp_length])) :: (a_tp_bytes, .inl (ci 0, 200, .inl tp_bytes)) :: Rw) H → va_S A s.heap H locs → W p l e ({ frames := 0, cells := 0, slots := 0, locals := 0 } : Room) s m ([.ref a_tp, .int p1] : List Value).toArray below meth c H locs 0 0 Q (F0 m 0 ls []) := by
    intro H locs hH hP hS
    refine lv_bipush (pc := 0) (v := 24) hx hb dX8_add_0 (by decide) ?_
    obtain ⟨v1, ev1, hf⟩ := q_nm_e hf
    refine q_topi ev1 ?_
    refine lv_istore_n (pc := 2) (lv' := [(2, .int v1), (0, .ref a_tp), (1, .int p1)]) hx hb dX8_add_2 rfl hl (by decide) rfl (fun ls hl => ?_)
    obtain ⟨f5, v6, hm3, hf⟩ := q_b2_e hf
    have JE3 : ∀ (H : Heap) (locs : List Loc) (ls : Array Slot), va_P D vwCl ((a_tp, .inr (8, [.ref a_tp_bytes, .int v6])) :: (a_tp_bytes, .inl (ci 0, 200, .inl f5)) :: Rw) H → va_D A ((a_tp, .inr (8, [.ref a_tp_bytes, .int v6])) :: (a_tp_bytes, .inl (ci 0, 200, .inl f5)) :: Rw) → va_S A s.heap H locs → lv_has ls 3 [] → W p l e ({ frames := 0, cells := 0, slots := 0, locals := 0 } : Room) s m ([.ref a_tp, .int p1] : List Value).toArray below meth c H locs 0 0 Q (F0 m 51 ls []) := by
      intro H locs ls hP hD hS hl
      obtain ⟨rfl, rfl⟩ := q_inj2 (Option.some.inj hf)
      rw [hQ]
      exact q_vret (pc := 51) hx hb hr hlocks hP hD hS dX8_add_51
    have LP3 : ∀ (n3 : Nat) (v2 : Int32) (f3 : Nat → Int32) (v4 : Int32) (H : Heap) (locs : List Loc) (ls : Array Slot), f_Tape_add_L3 p1 n3 v2 f3 v4 = some (f5, v6) → va_P D vwCl ((a_tp, .inr (8, [.ref a_tp_bytes, .int v4])) :: (a_tp_bytes, .inl (ci 0, 200, .inl f3)) :: Rw) H → va_D A ((a_tp, .inr (8, [.ref a_tp_bytes, .int v4])) :: (a_tp_bytes, .inl (ci 0, 200, .inl f3)) :: Rw) → va_S A s.heap H locs → lv_has ls 3 [(0, .ref a_tp), (1, .int p1), (2, .int v2)] → W p l e ({ frames := 0, cells := 0, slots := 0, locals := 0 } : Room) s m ([.ref a_tp, .int p1] : List Value).toArray below meth c H locs 0 0 Q (F0 m 3 ls []) := by
      intro n3
      induction n3 with
      | zero => intro v2 f3 v4 H locs ls hf; rw [f_Tape_add_L3] at hf; cases hf
      | succ n3 ih3 =>
        intro v2 f3 v4 H locs ls hf hP hD hS hl
        rw [f_Tape_add_L3] at hf
        refine lv_iload_n (pc := 3) hx hb dX8_add_3 rfl (lv_at hl 2 rfl) ?_
        refine q_if_lt (pc := 4) (tgt := 51) hx hb dX8_add_4 (by decide) rfl hf (fun hf => ?_) (fun hf => ?_)
        · obtain ⟨rfl, rfl⟩ := q_inj2 (Option.some.inj hf)
          exact JE3 _ _ _ hP hD hS (lv_sub hl [] rfl)
        · refine lv_aload_n (pc := 7) hx hb dX8_add_7 rfl (lv_at hl 0 rfl) ?_
          refine va_get (pc := 8) (D := D) (ci := 8) (v := .int v4) (C := RX8) (T := TX8) (N := 2) hx hb hts hinX8 hown hK hP 0 rfl rfl 1 (by decide) w_1 (fun _ h9 => h9) rfl dX8_add_8 ?_
          refine lv_aload_n (pc := 11) hx hb dX8_add_11 rfl (lv_at hl 0 rfl) ?_
          refine va_get (pc := 12) (D := D) (ci := 8) (v := .ref a_tp_bytes) (C := RX8) (T := TX8) (N := 2) hx hb hts hinX8 hown hK hP 0 rfl rfl 0 (by decide) w_2 (fun _ h9 => h9) rfl dX8_add_12 ?_
          refine va_alen (pc := 15) (v := 200) hx hb hK hP 1 0 rfl rfl rfl dX8_add_15 ?_
          refine q_icmp_ge (pc := 16) (tgt := 51) hx hb dX8_add_16 (by decide) rfl hf (fun hf => ?_) (fun hf => ?_)
          · obtain ⟨rfl, rfl⟩ := q_inj2 (Option.some.inj hf)
            exact JE3 _ _ _ hP hD hS (lv_sub hl [] rfl)
          · refine lv_aload_n (pc := 19) hx hb dX8_add_19 rfl (lv_at hl 0 rfl) ?_
            refine va_get (pc := 20) (D := D) (ci := 8) (v := .ref a_tp_bytes) (C := RX8) (T := TX8) (N := 2) hx hb hts hinX8 hown hK hP 0 rfl rfl 0 (by decide) w_2 (fun _ h9 => h9) rfl dX8_add_20 ?_
            refine lv_aload_n (pc := 23) hx hb dX8_add_23 rfl (lv_at hl 0 rfl) ?_
            refine va_get (pc := 24) (D := D) (ci := 8) (v := .int v4) (C := RX8) (T := TX8) (N := 2) hx hb hts hinX8 hown hK hP 0 rfl rfl 1 (by decide) w_1 (fun _ h9 => h9) rfl dX8_add_24 ?_
            refine lv_iload_n (pc := 27) hx hb dX8_add_27 rfl (lv_at hl 1 rfl) ?_
            refine lv_iload_n (pc := 28) hx hb dX8_add_28 rfl (lv_at hl 2 rfl) ?_
            refine lv_ishr (pc := 29) hx hb dX8_add_29 ?_
            refine lv_sipush (pc := 30) (v := 255) hx hb dX8_add_30 (by decide) ?_
            refine lv_iand (pc := 33) hx hb dX8_add_33 ?_
            refine q_iast (pc := 34) hx hb hK hP hD hS 1 0 hf rfl rfl dX8_add_34 (fun f7 H locs hf hP hD hS => ?_)
            obtain ⟨hP, hD⟩ : va_PD D A ((a_tp, .inr (8, [.ref a_tp_bytes, .int v4])) :: (a_tp_bytes, .inl (ci 0, 200, .inl f7)) :: Rw) H := ⟨hP, hD⟩
            refine lv_aload_n (pc := 35) hx hb dX8_add_35 rfl (lv_at hl 0 rfl) ?_
            refine lv_dup (pc := 36) hx hb dX8_add_36 rfl ?_
            refine va_get (pc := 37) (D := D) (ci := 8) (v := .int v4) (C := RX8) (T := TX8) (N := 2) hx hb hts hinX8 hown hK hP 0 rfl rfl 1 (by decide) w_1 (fun _ h9 => h9) rfl dX8_add_37 ?_
            refine lv_iconst (pc := 40) (v := 1) hx hb dX8_add_40 (by decide) ?_
            refine lv_iadd (pc := 41) hx hb dX8_add_41 ?_
            obtain ⟨v8, ev8, hf⟩ := q_nm_e hf
            refine q_topi ev8 ?_
            refine va_put (pc := 42) (D := D) (ci := 8) (v := .int v8) (ty := .int) (C := RX8) (T := TX8) (N := 2) hx hb hts hinX8 tyX8 tyX8_ok nmX8 hown hK hP hD hS 0 rfl rfl 1 (by decide) w_1 (fun _ h9 => h9) rfl (by decide +kernel) rfl rfl (Nat.le_of_ble_eq_true rfl) dX8_add_42 (fun H locs hP hD hS => ?_)
            obtain ⟨hP, hD⟩ : va_PD D A ((a_tp, .inr (8, [.ref a_tp_bytes, .int v8])) :: (a_tp_bytes, .inl (ci 0, 200, .inl f7)) :: Rw) H := ⟨hP, hD⟩
            obtain ⟨v9, ev9, hf⟩ := q_nm_e hf
            refine lv_iinc (pc := 45) (v := v9) (lv' := [(2, .int v9), (0, .ref a_tp), (1, .int p1)]) hx hb dX8_add_45 hl (k := 2) rfl (by rw [ev9]; rfl) (by decide) rfl (fun ls hl => ?_)
            refine lv_goto (pc := 48) (tgt := 3) hx hb dX8_add_48 (by decide) ?_
            exact ih3 v9 f7 v8 _ _ _ hf hP hD hS (lv_sub hl [1, 2, 0] rfl)
    exact LP3 N v1 tp_bytes tp_length _ _ _ hm3 hP hD hS (lv_sub hl [1, 2, 0] rfl)
  exact hgo _ _ rfl hP hS
/-! X8_blankFrom -/
set_option maxRecDepth 100000 in
set_option maxHeartbeats 4000000 in
theorem c_Tape_blankFrom (l : Launch) (D : va_G) (ci : Nat → ClassId) (A : Nat → Prop) (sa : Nat → Nat) (N : Nat) (Rw : va_W) (a_tp : Nat) (a_tp_bytes : Nat) (tp_length : Int32) (tp_bytes : Nat → Int32) (p1 : Int32) (p2 : Int32) (r : Int32) (hf : f_Tape_blankFrom N tp_bytes tp_length p1 p2 = some r) : Met l yX8_blankFrom wsX8_blankFrom ({ frames := 0, cells := 0, slots := 0, locals := 0 }) (va_Pc [.ref a_tp, .int p1, .int p2] (q_N D ci A sa ((a_tp, .inr (8, [.ref a_tp_bytes, .int tp_length])) :: (a_tp_bytes, .inl (ci 0, 200, .inl tp_bytes)) :: Rw))) (q_R (some (.int r))) 0 0 A := by
  refine q_ofW (cc := cX8_blankFrom) (maxL := 4) (ret := (some .int)) [.ref a_tp, .int p1, .int p2] (plainFor_of_name (by decide)) rfl (Nat.le_of_ble_eq_true rfl) ?_
  intro p e s m below meth c ls Q hQ hx hb hml hr hts hown hlocks hK hA hZ hP hD hS hl
  have hl : lv_has ls 4 [(0, .ref a_tp), (1, .int p1), (2, .int p2)] := hl
  have hown : s.vm.findClass RX8 = some m.cls := hown
  have hinX8 : ∀ w ∈ wsX80, w ∈ wsX8_blankFrom := fun _ h => List.mem_cons_of_mem _ (inWX80 _ h)
  have w_1 := hts (Cond.fieldLink RX8 15 "SheetNames$Tape" "length" "I") (List.mem_cons_of_mem _ t_w837)
  have w_2 := hts (Cond.fieldLink RX8 9 "SheetNames$Tape" "bytes" "[I") (List.mem_cons_of_mem _ t_w838)
  unfold f_Tape_blankFrom at hf
  have hgo : ∀ (H : Heap) (locs : List Loc), H = s.heap → va_P D vwCl ((a_tp, .inr (8, [.ref a_tp_bytes, .int tp_length])) :: (a_tp_bytes, .inl (ci 0, 200, .inl tp_bytes)) :: Rw) H → va_S A s.heap H locs → W p l e ({ frames := 0, cells := 0, slots := 0, locals := 0 } : Room) s m ([.ref a_tp, .int p1, .int p2] : List Value).toArray below meth c H locs 0 0 Q (F0 m 0 ls []) := by
    intro H locs hH hP hS
    subst hH
    refine lv_iload_n (pc := 0) hx hb dX8_blankFrom_0 rfl (lv_at hl 1 rfl) ?_
    refine lv_istore_n (pc := 1) (lv' := [(3, .int p1), (0, .ref a_tp), (1, .int p1), (2, .int p2)]) hx hb dX8_blankFrom_1 rfl hl (by decide) rfl (fun ls hl => ?_)
    obtain ⟨k2, o2_, ek2, hm2, hk2⟩ := q_s0_k hf
    have JE2 : ∀  (H : Heap) (locs : List Loc) (ls : Array Slot), k2 = some r → H = s.heap → va_S A s.heap H locs → lv_has ls 4 [(2, .int p2)] → W p l e ({ frames := 0, cells := 0, slots := 0, locals := 0 } : Room) s m ([.ref a_tp, .int p1, .int p2] : List Value).toArray below meth c H locs 0 0 Q (F0 m 34 ls []) := by
      intro  H locs ls hf hHs hS hl
      subst hHs
      have hf := (ek2).symm.trans hf
      refine lv_iload_n (pc := 34) hx hb dX8_blankFrom_34 rfl (lv_at hl 0 rfl) ?_
      obtain rfl := Option.some.inj hf
      rw [hQ]
      exact q_iretr (pc := 35) hx hb hr hlocks rfl hS dX8_blankFrom_35
    have LP2 : ∀ (n2 : Nat) (v1 : Int32) (H : Heap) (locs : List Loc) (ls : Array Slot), f_Tape_blankFrom_L2 p2 tp_bytes tp_length n2 v1 = some o2_ → H = s.heap → va_S A s.heap H locs → lv_has ls 4 [(0, .ref a_tp), (2, .int p2), (3, .int v1)] → W p l e ({ frames := 0, cells := 0, slots := 0, locals := 0 } : Room) s m ([.ref a_tp, .int p1, .int p2] : List Value).toArray below meth c H locs 0 0 Q (F0 m 2 ls []) := by
      intro n2
      induction n2 with
      | zero => intro v1 H locs ls hf; rw [f_Tape_blankFrom_L2] at hf; cases hf
      | succ n2 ih2 =>
        intro v1 H locs ls hf hHs hS hl
        subst hHs
        rw [f_Tape_blankFrom_L2] at hf
        refine lv_iload_n (pc := 2) hx hb dX8_blankFrom_2 rfl (lv_at hl 2 rfl) ?_
        refine lv_iload_n (pc := 3) hx hb dX8_blankFrom_3 rfl (lv_at hl 1 rfl) ?_
        refine q_icmp_ge (pc := 4) (tgt := 34) hx hb dX8_blankFrom_4 (by decide) rfl hf (fun hf => ?_) (fun hf => ?_)
        · obtain rfl := Option.some.inj hf
          exact JE2  _ _ _ hk2 rfl hS (lv_sub hl [1] rfl)
        · refine lv_iload_n (pc := 7) hx hb dX8_blankFrom_7 rfl (lv_at hl 2 rfl) ?_
          refine lv_aload_n (pc := 8) hx hb dX8_blankFrom_8 rfl (lv_at hl 0 rfl) ?_
          refine va_get (pc := 9) (D := D) (ci := 8) (v := .int tp_length) (C := RX8) (T := TX8) (N := 2) hx hb hts hinX8 hown hK hP 0 rfl rfl 1 (by decide) w_1 (fun _ h9 => h9) rfl dX8_blankFrom_9 ?_
          refine q_icmp_ge (pc := 12) (tgt := 34) hx hb dX8_blankFrom_12 (by decide) rfl hf (fun hf => ?_) (fun hf => ?_)
          · obtain rfl := Option.some.inj hf
            exact JE2  _ _ _ hk2 rfl hS (lv_sub hl [1] rfl)
          · refine lv_aload_n (pc := 15) hx hb dX8_blankFrom_15 rfl (lv_at hl 0 rfl) ?_
            refine va_get (pc := 16) (D := D) (ci := 8) (v := .ref a_tp_bytes) (C := RX8) (T := TX8) (N := 2) hx hb hts hinX8 hown hK hP 0 rfl rfl 0 (by decide) w_2 (fun _ h9 => h9) rfl dX8_blankFrom_16 ?_
            refine lv_iload_n (pc := 19) hx hb dX8_blankFrom_19 rfl (lv_at hl 2 rfl) ?_
            refine q_iald (pc := 20) hx hb hK hP 1 0 hf rfl rfl dX8_blankFrom_20 (fun v2 hf => ?_)
            refine lv_bipush (pc := 21) (v := 32) hx hb dX8_blankFrom_21 (by decide) ?_
            refine q_icmp_ne (pc := 23) (tgt := 28) hx hb dX8_blankFrom_23 (by decide) rfl hf (fun hf => ?_) (fun hf => ?_)
            · obtain ⟨v3, ev3, hf⟩ := q_nm_e hf
              refine lv_iinc (pc := 28) (v := v3) (lv' := [(3, .int v3), (0, .ref a_tp), (2, .int p2)]) hx hb dX8_blankFrom_28 hl (k := 2) rfl (by rw [ev3]; rfl) (by decide) rfl (fun ls hl => ?_)
              refine lv_goto (pc := 31) (tgt := 2) hx hb dX8_blankFrom_31 (by decide) ?_
              exact ih2 v3 _ _ _ hf rfl hS (lv_sub hl [1, 2, 0] rfl)
            · refine lv_iload_n (pc := 26) hx hb dX8_blankFrom_26 rfl (lv_at hl 2 rfl) ?_
              obtain rfl := Option.some.inj hf
              have hk2 : (v1 : Int32) = r := hk2
              obtain rfl := hk2
              rw [hQ]
              exact q_iretr (pc := 27) hx hb hr hlocks rfl hS dX8_blankFrom_27
    exact LP2 N p1 _ _ _ hm2 rfl hS (lv_sub hl [1, 3, 0] rfl)
  exact hgo _ _ rfl hP hS
/-! J0_coder_7d493 -/
set_option maxRecDepth 100000 in
set_option maxHeartbeats 4000000 in
theorem c_JString_coder_7d493 (l : Launch) (D : va_G) (ci : Nat → ClassId) (A : Nat → Prop) (sa : Nat → Nat) (N : Nat) (Rw : va_W) (k : Nat) (hk : k < 7) (r : Int32) (hf : f_JString_coder_7d493 k = some r) : Met l yJ0_coder_7d493 wsJ0_coder_7d493 ({ frames := 0, cells := 0, slots := 0, locals := 0 }) (va_Pc [.ref (sa (2 + k))] (q_N D ci A sa (Rw))) (q_R (some (.int r))) 0 0 A := by
  refine q_ofW (cc := cJ0_coder_7d493) (maxL := 1) (ret := (some .byte)) [.ref (sa (2 + k))] (plainFor_of_name (by decide)) rfl (Nat.le_of_ble_eq_true rfl) ?_
  intro p e s m below meth c ls Q hQ hx hb hml hr hts hown hlocks hK hA hZ hP hD hS hl
  have hl : lv_has ls 1 [(0, .ref (sa (2 + k)))] := hl
  have hown : s.vm.findClass RJ0 = some m.cls := hown
  have w_1 := hts (Cond.fieldLink RJ0 38 "java/lang/String" "COMPACT_STRINGS" "Z") (List.mem_cons_of_mem _ t_w839)
  have w_2 := hts (Cond.fieldLink RJ0 15 "java/lang/String" "coder" "B") (List.mem_cons_of_mem _ t_w840)
  unfold f_JString_coder_7d493 at hf
  have hgo : ∀ (H : Heap) (locs : List Loc), H = s.heap → va_P D vwCl (Rw) H → va_S A s.heap H locs → W p l e ({ frames := 0, cells := 0, slots := 0, locals := 0 } : Room) s m ([.ref (sa (2 + k))] : List Value).toArray below meth c H locs 0 0 Q (F0 m 0 ls []) := by
    intro H locs hH hP hS
    subst hH
    refine va_gets (pc := 0) hx hb hZ.2.2.2.2.1 hS hown w_1 (fun _ h9 => h9) dJ0_coder_7d493_0 ?_
    refine lv_if_eq (pc := 3) (tgt := 13) hx hb dJ0_coder_7d493_3 (by decide) (fun h9 => absurd h9 (by decide)) (fun _ => ?_)
    refine lv_aload_n (pc := 6) hx hb dJ0_coder_7d493_6 rfl (lv_at hl 0 rfl) ?_
    refine vk_getf (pc := 7) hx hb (hZ.2.2.2.2.2.1.1 k hk).2.1 hS hown w_2 (fun _ h9 => h9) dJ0_coder_7d493_7 ?_
    refine lv_goto (pc := 10) (tgt := 14) hx hb dJ0_coder_7d493_10 (by decide) ?_
    obtain rfl := Option.some.inj hf
    rw [hQ]
    exact q_zretr (pc := 14) hx hb hr rfl hlocks rfl hS dJ0_coder_7d493_14
  exact hgo _ _ rfl hP hS
/-! J0_length_8abf5 -/
set_option maxRecDepth 100000 in
set_option maxHeartbeats 4000000 in
theorem c_JString_length_8abf5 (l : Launch) (D : va_G) (ci : Nat → ClassId) (A : Nat → Prop) (sa : Nat → Nat) (N : Nat) (Rw : va_W) (k : Nat) (hk : k < 7) (r : Int32) (hf : f_JString_length_8abf5 k = some r) : Met l yJ0_length_8abf5 wsJ0_length_8abf5 ({ frames := 1, cells := 0, slots := 0, locals := 20 }) (va_Pc [.ref (sa (2 + k))] (q_N D ci A sa (Rw))) (q_R (some (.int r))) 0 0 A := by
  refine q_ofW (cc := cJ0_length_8abf5) (maxL := 1) (ret := (some .int)) [.ref (sa (2 + k))] (plainFor_of_name (by decide)) rfl (Nat.le_of_ble_eq_true rfl) ?_
  intro p e s m below meth c ls Q hQ hx hb hml hr hts hown hlocks hK hA hZ hP hD hS hl
  have hl : lv_has ls 1 [(0, .ref (sa (2 + k)))] := hl
  have hown : s.vm.findClass RJ0 = some m.cls := hown
  have w_1 := hts (Cond.fieldLink RJ0 9 "java/lang/String" "value" "[B") (List.mem_cons_of_mem _ t_w841)
  unfold f_JString_length_8abf5 at hf
  have hgo : ∀ (H : Heap) (locs : List Loc), H = s.heap → va_P D vwCl (Rw) H → va_S A s.heap H locs → W p l e ({ frames := 1, cells := 0, slots := 0, locals := 20 } : Room) s m ([.ref (sa (2 + k))] : List Value).toArray below meth c H locs 0 0 Q (F0 m 0 ls []) := by
    intro H locs hH hP hS
    subst hH
    refine lv_aload_n (pc := 0) hx hb dJ0_length_8abf5_0 rfl (lv_at hl 0 rfl) ?_
    refine vk_getf (pc := 1) hx hb (hZ.2.2.2.2.2.1.1 k hk).2.2.1 hS hown w_1 (fun _ h9 => h9) dJ0_length_8abf5_1 ?_
    refine va_tlen (pc := 4) (v := (Int32.ofNat (q_slen.getD k 0))) hx hb (hZ.2.2.2.2.2.1.1 k hk).2.2.2 hS rfl dJ0_length_8abf5_4 ?_
    refine lv_aload_n (pc := 5) hx hb dJ0_length_8abf5_5 rfl (lv_at hl 0 rfl) ?_
    obtain ⟨v1, hm6, hf⟩ := q_b1_e hf
    refine q_cVs (pc := 6) (As := []) (rest := [.int (Int32.ofNat (q_slen.getD k 0))]) (v0 := (some (.int v1))) ⟨hx, hb, hml, hown, hts⟩ hK hA hZ hP hD hS hl.1 [] 0 rfl ⟨rfl, rfl, rfl⟩ (c_JString_coder_7d493 l D ci A sa N (Rw) k hk v1 hm6) (vk_recv (N := 7) (adK := fun i => sa (2 + i)) (i := k) hZ.2.2.2.2.2.1 hk hS) (cwV 0 hts gJ0_length_8abf5_J0_coder_7d493 rfl rfl rfl (by decide +kernel) ⟨Nat.le_of_ble_eq_true rfl, Nat.le_of_ble_eq_true rfl⟩) rfl rfl (Nat.le_of_ble_eq_true rfl) dJ0_length_8abf5_6 ⟨Nat.zero_le _, Nat.zero_le _⟩ (fun locs hS => ?_)
    refine lv_ishr (pc := 9) hx hb dJ0_length_8abf5_9 ?_
    obtain rfl := Option.some.inj hf
    rw [hQ]
    exact q_iretr (pc := 10) hx hb hr hlocks rfl hS dJ0_length_8abf5_10
  exact hgo _ _ rfl hP hS
/-! J0_isLatin1_aae02 -/
set_option maxRecDepth 100000 in
set_option maxHeartbeats 4000000 in
theorem c_JString_isLatin1_aae02 (l : Launch) (D : va_G) (ci : Nat → ClassId) (A : Nat → Prop) (sa : Nat → Nat) (N : Nat) (Rw : va_W) (k : Nat) (hk : k < 7) (r : Int32) (hf : f_JString_isLatin1_aae02 k = some r) : Met l yJ0_isLatin1_aae02 wsJ0_isLatin1_aae02 ({ frames := 0, cells := 0, slots := 0, locals := 0 }) (va_Pc [.ref (sa (2 + k))] (q_N D ci A sa (Rw))) (q_R (some (.int r))) 0 0 A := by
  refine q_ofW (cc := cJ0_isLatin1_aae02) (maxL := 1) (ret := (some .boolean)) [.ref (sa (2 + k))] (plainFor_of_name (by decide)) rfl (Nat.le_of_ble_eq_true rfl) ?_
  intro p e s m below meth c ls Q hQ hx hb hml hr hts hown hlocks hK hA hZ hP hD hS hl
  have hl : lv_has ls 1 [(0, .ref (sa (2 + k)))] := hl
  have hown : s.vm.findClass RJ0 = some m.cls := hown
  have w_1 := hts (Cond.fieldLink RJ0 38 "java/lang/String" "COMPACT_STRINGS" "Z") (List.mem_cons_of_mem _ t_w839)
  have w_2 := hts (Cond.fieldLink RJ0 15 "java/lang/String" "coder" "B") (List.mem_cons_of_mem _ t_w840)
  unfold f_JString_isLatin1_aae02 at hf
  have hgo : ∀ (H : Heap) (locs : List Loc), H = s.heap → va_P D vwCl (Rw) H → va_S A s.heap H locs → W p l e ({ frames := 0, cells := 0, slots := 0, locals := 0 } : Room) s m ([.ref (sa (2 + k))] : List Value).toArray below meth c H locs 0 0 Q (F0 m 0 ls []) := by
    intro H locs hH hP hS
    subst hH
    refine va_gets (pc := 0) hx hb hZ.2.2.2.2.1 hS hown w_1 (fun _ h9 => h9) dJ0_isLatin1_aae02_0 ?_
    refine lv_if_eq (pc := 3) (tgt := 17) hx hb dJ0_isLatin1_aae02_3 (by decide) (fun h9 => absurd h9 (by decide)) (fun _ => ?_)
    refine lv_aload_n (pc := 6) hx hb dJ0_isLatin1_aae02_6 rfl (lv_at hl 0 rfl) ?_
    refine vk_getf (pc := 7) hx hb (hZ.2.2.2.2.2.1.1 k hk).2.1 hS hown w_2 (fun _ h9 => h9) dJ0_isLatin1_aae02_7 ?_
    refine lv_if_ne (pc := 10) (tgt := 17) hx hb dJ0_isLatin1_aae02_10 (by decide) (fun h9 => absurd h9 (by decide)) (fun _ => ?_)
    refine lv_iconst (pc := 13) (v := 1) hx hb dJ0_isLatin1_aae02_13 (by decide) ?_
    refine lv_goto (pc := 14) (tgt := 18) hx hb dJ0_isLatin1_aae02_14 (by decide) ?_
    obtain rfl := Option.some.inj hf
    rw [hQ]
    exact q_zretr (pc := 18) hx hb hr rfl hlocks rfl hS dJ0_isLatin1_aae02_18
  exact hgo _ _ rfl hP hS
/-! J3_checkIndex_8e157 -/
set_option maxRecDepth 100000 in
set_option maxHeartbeats 4000000 in
theorem c_JPreconditions_checkIndex_8e157_n (l : Launch) (D : va_G) (ci : Nat → ClassId) (A : Nat → Prop) (sa : Nat → Nat) (N : Nat) (Rw : va_W)  (p1 : Int32) (p2 : Int32) (r : Int32) (hf : f_JPreconditions_checkIndex_8e157 p1 p2 = some r) : Met l yJ3_checkIndex_8e157 wsJ3_checkIndex_8e157 ({ frames := 0, cells := 0, slots := 0, locals := 0 }) (va_Pc [.int p1, .int p2, .null] (q_N D ci A sa (Rw))) (q_R (some (.int r))) 0 0 A := by
  refine q_ofW (cc := cJ3_checkIndex_8e157) (maxL := 3) (ret := (some .int)) [.int p1, .int p2, .null] (plainFor_of_name (by decide)) rfl (Nat.le_of_ble_eq_true rfl) ?_
  intro p e s m below meth c ls Q hQ hx hb hml hr hts hown hlocks hK hA hZ hP hD hS hl
  have hl : lv_has ls 3 [(0, .int p1), (1, .int p2), (2, .null)] := hl
  have hown : s.vm.findClass RJ3 = some m.cls := hown
  unfold f_JPreconditions_checkIndex_8e157 at hf
  have hgo : ∀ (H : Heap) (locs : List Loc), H = s.heap → va_P D vwCl (Rw) H → va_S A s.heap H locs → W p l e ({ frames := 0, cells := 0, slots := 0, locals := 0 } : Room) s m ([.int p1, .int p2, .null] : List Value).toArray below meth c H locs 0 0 Q (F0 m 0 ls []) := by
    intro H locs hH hP hS
    subst hH
    refine lv_iload_n (pc := 0) hx hb dJ3_checkIndex_8e157_0 rfl (lv_at hl 0 rfl) ?_
    obtain ⟨k9, ek9, hf⟩ := q_j0_e hf
    have J9 : ∀  (H : Heap) (locs : List Loc) (ls : Array Slot), k9 = some r → H = s.heap → va_S A s.heap H locs → lv_has ls 3 [(2, .null)] → W p l e ({ frames := 0, cells := 0, slots := 0, locals := 0 } : Room) s m ([.int p1, .int p2, .null] : List Value).toArray below meth c H locs 0 0 Q (F0 m 9 ls []) := by
      intro  H locs ls hf hHs hS hl
      subst hHs
      have hf := (ek9).symm.trans hf
      cases hf
    refine q_if_lt (pc := 1) (tgt := 9) hx hb dJ3_checkIndex_8e157_1 (by decide) rfl hf (fun hf => ?_) (fun hf => ?_)
    · exact J9  _ _ _ hf rfl hS (lv_sub hl [2] rfl)
    · refine lv_iload_n (pc := 4) hx hb dJ3_checkIndex_8e157_4 rfl (lv_at hl 0 rfl) ?_
      refine lv_iload_n (pc := 5) hx hb dJ3_checkIndex_8e157_5 rfl (lv_at hl 1 rfl) ?_
      refine q_icmp_lt (pc := 6) (tgt := 16) hx hb dJ3_checkIndex_8e157_6 (by decide) rfl hf (fun hf => ?_) (fun hf => ?_)
      · refine lv_iload_n (pc := 16) hx hb dJ3_checkIndex_8e157_16 rfl (lv_at hl 0 rfl) ?_
        obtain rfl := Option.some.inj hf
        rw [hQ]
        exact q_iretr (pc := 17) hx hb hr hlocks rfl hS dJ3_checkIndex_8e157_17
      · exact J9  _ _ _ hf rfl hS (lv_sub hl [2] rfl)
  exact hgo _ _ rfl hP hS
set_option maxRecDepth 100000 in
set_option maxHeartbeats 4000000 in
theorem c_JPreconditions_checkIndex_8e157_s (l : Launch) (D : va_G) (ci : Nat → ClassId) (A : Nat → Prop) (sa : Nat → Nat) (N : Nat) (Rw : va_W) (z : Nat) (p1 : Int32) (p2 : Int32) (r : Int32) (hf : f_JPreconditions_checkIndex_8e157 p1 p2 = some r) : Met l yJ3_checkIndex_8e157 wsJ3_checkIndex_8e157 ({ frames := 0, cells := 0, slots := 0, locals := 0 }) (va_Pc [.int p1, .int p2, .ref z] (q_N D ci A sa (Rw))) (q_R (some (.int r))) 0 0 A := by
  refine q_ofW (cc := cJ3_checkIndex_8e157) (maxL := 3) (ret := (some .int)) [.int p1, .int p2, .ref z] (plainFor_of_name (by decide)) rfl (Nat.le_of_ble_eq_true rfl) ?_
  intro p e s m below meth c ls Q hQ hx hb hml hr hts hown hlocks hK hA hZ hP hD hS hl
  have hl : lv_has ls 3 [(0, .int p1), (1, .int p2), (2, .ref z)] := hl
  have hown : s.vm.findClass RJ3 = some m.cls := hown
  unfold f_JPreconditions_checkIndex_8e157 at hf
  have hgo : ∀ (H : Heap) (locs : List Loc), H = s.heap → va_P D vwCl (Rw) H → va_S A s.heap H locs → W p l e ({ frames := 0, cells := 0, slots := 0, locals := 0 } : Room) s m ([.int p1, .int p2, .ref z] : List Value).toArray below meth c H locs 0 0 Q (F0 m 0 ls []) := by
    intro H locs hH hP hS
    subst hH
    refine lv_iload_n (pc := 0) hx hb dJ3_checkIndex_8e157_0 rfl (lv_at hl 0 rfl) ?_
    obtain ⟨k9, ek9, hf⟩ := q_j0_e hf
    have J9 : ∀  (H : Heap) (locs : List Loc) (ls : Array Slot), k9 = some r → H = s.heap → va_S A s.heap H locs → lv_has ls 3 [(2, .ref z)] → W p l e ({ frames := 0, cells := 0, slots := 0, locals := 0 } : Room) s m ([.int p1, .int p2, .ref z] : List Value).toArray below meth c H locs 0 0 Q (F0 m 9 ls []) := by
      intro  H locs ls hf hHs hS hl
      subst hHs
      have hf := (ek9).symm.trans hf
      cases hf
    refine q_if_lt (pc := 1) (tgt := 9) hx hb dJ3_checkIndex_8e157_1 (by decide) rfl hf (fun hf => ?_) (fun hf => ?_)
    · exact J9  _ _ _ hf rfl hS (lv_sub hl [2] rfl)
    · refine lv_iload_n (pc := 4) hx hb dJ3_checkIndex_8e157_4 rfl (lv_at hl 0 rfl) ?_
      refine lv_iload_n (pc := 5) hx hb dJ3_checkIndex_8e157_5 rfl (lv_at hl 1 rfl) ?_
      refine q_icmp_lt (pc := 6) (tgt := 16) hx hb dJ3_checkIndex_8e157_6 (by decide) rfl hf (fun hf => ?_) (fun hf => ?_)
      · refine lv_iload_n (pc := 16) hx hb dJ3_checkIndex_8e157_16 rfl (lv_at hl 0 rfl) ?_
        obtain rfl := Option.some.inj hf
        rw [hQ]
        exact q_iretr (pc := 17) hx hb hr hlocks rfl hS dJ3_checkIndex_8e157_17
      · exact J9  _ _ _ hf rfl hS (lv_sub hl [2] rfl)
  exact hgo _ _ rfl hP hS
set_option maxRecDepth 100000 in
set_option maxHeartbeats 4000000 in
theorem c_JPreconditions_checkIndex_8e157 (l : Launch) (D : va_G) (ci : Nat → ClassId) (A : Nat → Prop) (sa : Nat → Nat) (N : Nat) (Rw : va_W) (fo : Option Nat) (p1 : Int32) (p2 : Int32) (r : Int32) (hf : f_JPreconditions_checkIndex_8e157 p1 p2 = some r) : Met l yJ3_checkIndex_8e157 wsJ3_checkIndex_8e157 ({ frames := 0, cells := 0, slots := 0, locals := 0 }) (va_Pc [.int p1, .int p2, va_rf fo] (q_N D ci A sa (Rw))) (q_R (some (.int r))) 0 0 A := by
  cases fo with
  | none => exact c_JPreconditions_checkIndex_8e157_n l D ci A sa N Rw p1 p2 r hf
  | some z => exact c_JPreconditions_checkIndex_8e157_s l D ci A sa N Rw z p1 p2 r hf
/-! J0_checkIndex_df160 -/
set_option maxRecDepth 100000 in
set_option maxHeartbeats 4000000 in
theorem c_JString_checkIndex_df160 (l : Launch) (D : va_G) (ci : Nat → ClassId) (A : Nat → Prop) (sa : Nat → Nat) (N : Nat) (Rw : va_W) (p1 : Int32) (p2 : Int32) (hf : f_JString_checkIndex_df160 p1 p2 = some ()) : Met l yJ0_checkIndex_df160 wsJ0_checkIndex_df160 ({ frames := 1, cells := 0, slots := 0, locals := 22 }) (va_Pc [.int p1, .int p2] (q_N D ci A sa (Rw))) (q_R none) 0 0 A := by
  refine q_ofW (cc := cJ0_checkIndex_df160) (maxL := 2) (ret := none) [.int p1, .int p2] (plainFor_of_name (by decide)) rfl (Nat.le_of_ble_eq_true rfl) ?_
  intro p e s m below meth c ls Q hQ hx hb hml hr hts hown hlocks hK hA hZ hP hD hS hl
  have hl : lv_has ls 2 [(0, .int p1), (1, .int p2)] := hl
  have hown : s.vm.findClass RJ0 = some m.cls := hown
  have w_1 := hts (Cond.fieldLink RJ0 1053 "jdk/internal/util/Preconditions" "SIOOBE_FORMATTER" "Ljava/util/function/BiFunction;") (List.mem_cons_of_mem _ t_w842)
  unfold f_JString_checkIndex_df160 at hf
  have hgo : ∀ (H : Heap) (locs : List Loc), H = s.heap → va_P D vwCl (Rw) H → va_S A s.heap H locs → W p l e ({ frames := 1, cells := 0, slots := 0, locals := 22 } : Room) s m ([.int p1, .int p2] : List Value).toArray below meth c H locs 0 0 Q (F0 m 0 ls []) := by
    intro H locs hH hP hS
    subst hH
    refine lv_iload_n (pc := 0) hx hb dJ0_checkIndex_df160_0 rfl (lv_at hl 0 rfl) ?_
    refine lv_iload_n (pc := 1) hx hb dJ0_checkIndex_df160_1 rfl (lv_at hl 1 rfl) ?_
    refine va_gets (pc := 2) hx hb hZ.2.2.2.2.2.2.2.1 hS hown w_1 (fun _ h9 => h9) dJ0_checkIndex_df160_2 ?_
    obtain ⟨v1, hm5, hf⟩ := q_b1_e hf
    refine q_cSr (pc := 5) (As := [.int p1, .int p2, q_fo sa]) (rest := []) (v0 := (some (.int v1))) ⟨hx, hb, hml, hown, hts⟩ hK hA hZ hP hD hS hl.1 [] 0 rfl ⟨rfl, rfl, rfl⟩ (c_JPreconditions_checkIndex_8e157 l D ci A sa N (Rw) (if sa 16 = 0 then none else some (sa 16 - 1)) p1 p2 v1 hm5) (va_cwS 3 hts gJ0_checkIndex_df160_J3_checkIndex_8e157 rfl rfl rfl (by decide +kernel) ⟨Nat.le_of_ble_eq_true rfl, Nat.le_of_ble_eq_true rfl⟩) rfl rfl (Nat.le_of_ble_eq_true rfl) dJ0_checkIndex_df160_5 ⟨Nat.zero_le _, Nat.zero_le _⟩ (fun locs hS => ?_)
    refine lv_pop (pc := 8) hx hb dJ0_checkIndex_df160_8 rfl ?_
    rw [hQ]
    exact q_vretr (pc := 9) hx hb hr hlocks rfl hS dJ0_checkIndex_df160_9
  exact hgo _ _ rfl hP hS
/-! J1_charAt_3b067 -/
set_option maxRecDepth 100000 in
set_option maxHeartbeats 4000000 in
theorem c_JStringLatin1_charAt_3b067 (l : Launch) (D : va_G) (ci : Nat → ClassId) (A : Nat → Prop) (sa : Nat → Nat) (N : Nat) (Rw : va_W) (k : Nat) (hk : k < 7) (p2 : Int32) (r : Int32) (hf : f_JStringLatin1_charAt_3b067 k p2 = some r) : Met l yJ1_charAt_3b067 wsJ1_charAt_3b067 ({ frames := 2, cells := 0, slots := 0, locals := 43 }) (va_Pc [.ref (sa (9 + k)), .int p2] (q_N D ci A sa (Rw))) (q_R (some (.int r))) 0 0 A := by
  refine q_ofW (cc := cJ1_charAt_3b067) (maxL := 2) (ret := (some .char)) [.ref (sa (9 + k)), .int p2] (plainFor_of_name (by decide)) rfl (Nat.le_of_ble_eq_true rfl) ?_
  intro p e s m below meth c ls Q hQ hx hb hml hr hts hown hlocks hK hA hZ hP hD hS hl
  have hl : lv_has ls 2 [(0, .ref (sa (9 + k))), (1, .int p2)] := hl
  have hown : s.vm.findClass RJ1 = some m.cls := hown
  unfold f_JStringLatin1_charAt_3b067 at hf
  have hgo : ∀ (H : Heap) (locs : List Loc), H = s.heap → va_P D vwCl (Rw) H → va_S A s.heap H locs → W p l e ({ frames := 2, cells := 0, slots := 0, locals := 43 } : Room) s m ([.ref (sa (9 + k)), .int p2] : List Value).toArray below meth c H locs 0 0 Q (F0 m 0 ls []) := by
    intro H locs hH hP hS
    subst hH
    refine lv_iload_n (pc := 0) hx hb dJ1_charAt_3b067_0 rfl (lv_at hl 1 rfl) ?_
    refine lv_aload_n (pc := 1) hx hb dJ1_charAt_3b067_1 rfl (lv_at hl 0 rfl) ?_
    refine va_tlen (pc := 2) (v := (Int32.ofNat (q_slen.getD k 0))) hx hb (hZ.2.2.2.2.2.1.1 k hk).2.2.2 hS rfl dJ1_charAt_3b067_2 ?_
    obtain ⟨_u3, hm3, hf⟩ := q_b1_e hf
    refine q_cSr (pc := 3) (As := [.int p2, .int (Int32.ofNat (q_slen.getD k 0))]) (rest := []) (v0 := none) ⟨hx, hb, hml, hown, hts⟩ hK hA hZ hP hD hS hl.1 [] 0 rfl ⟨rfl, rfl, rfl⟩ (c_JString_checkIndex_df160 l D ci A sa N (Rw) p2 (Int32.ofNat (q_slen.getD k 0)) hm3) (va_cwS 2 hts gJ1_charAt_3b067_J0_checkIndex_df160 rfl rfl rfl (by decide +kernel) ⟨Nat.le_of_ble_eq_true rfl, Nat.le_of_ble_eq_true rfl⟩) rfl rfl (Nat.le_of_ble_eq_true rfl) dJ1_charAt_3b067_3 ⟨Nat.zero_le _, Nat.zero_le _⟩ (fun locs hS => ?_)
    refine lv_aload_n (pc := 6) hx hb dJ1_charAt_3b067_6 rfl (lv_at hl 0 rfl) ?_
    refine lv_iload_n (pc := 7) hx hb dJ1_charAt_3b067_7 rfl (lv_at hl 1 rfl) ?_
    refine q_sbld (pc := 8) (f := (fun j => (q_sbyt.getD k []).getD j 0)) (N := (q_slen.getD k 0)) hx hb hf (hZ.2.2.2.2.2.1.1 k hk).2.2.2 hS dJ1_charAt_3b067_8 (fun v1 hf => ?_)
    refine lv_sipush (pc := 9) (v := 255) hx hb dJ1_charAt_3b067_9 (by decide) ?_
    refine lv_iand (pc := 12) hx hb dJ1_charAt_3b067_12 ?_
    refine lv_i2c (pc := 13) hx hb dJ1_charAt_3b067_13 rfl ?_
    obtain rfl := Option.some.inj hf
    rw [hQ]
    exact q_zretr (pc := 14) hx hb hr (pk_nc _) hlocks rfl hS dJ1_charAt_3b067_14
  exact hgo _ _ rfl hP hS
/-! J0_charAt_5068e -/
set_option maxRecDepth 100000 in
set_option maxHeartbeats 4000000 in
theorem c_JString_charAt_5068e (l : Launch) (D : va_G) (ci : Nat → ClassId) (A : Nat → Prop) (sa : Nat → Nat) (N : Nat) (Rw : va_W) (k : Nat) (hk : k < 7) (p1 : Int32) (r : Int32) (hf : f_JString_charAt_5068e k p1 = some r) : Met l yJ0_charAt_5068e wsJ0_charAt_5068e ({ frames := 3, cells := 0, slots := 0, locals := 64 }) (va_Pc [.ref (sa (2 + k)), .int p1] (q_N D ci A sa (Rw))) (q_R (some (.int r))) 0 0 A := by
  refine q_ofW (cc := cJ0_charAt_5068e) (maxL := 2) (ret := (some .char)) [.ref (sa (2 + k)), .int p1] (plainFor_of_name (by decide)) rfl (Nat.le_of_ble_eq_true rfl) ?_
  intro p e s m below meth c ls Q hQ hx hb hml hr hts hown hlocks hK hA hZ hP hD hS hl
  have hl : lv_has ls 2 [(0, .ref (sa (2 + k))), (1, .int p1)] := hl
  have hown : s.vm.findClass RJ0 = some m.cls := hown
  have w_1 := hts (Cond.fieldLink RJ0 9 "java/lang/String" "value" "[B") (List.mem_cons_of_mem _ t_w841)
  unfold f_JString_charAt_5068e at hf
  have hgo : ∀ (H : Heap) (locs : List Loc), H = s.heap → va_P D vwCl (Rw) H → va_S A s.heap H locs → W p l e ({ frames := 3, cells := 0, slots := 0, locals := 64 } : Room) s m ([.ref (sa (2 + k)), .int p1] : List Value).toArray below meth c H locs 0 0 Q (F0 m 0 ls []) := by
    intro H locs hH hP hS
    subst hH
    refine lv_aload_n (pc := 0) hx hb dJ0_charAt_5068e_0 rfl (lv_at hl 0 rfl) ?_
    obtain ⟨v1, hm1, hf⟩ := q_b1_e hf
    refine q_cVs (pc := 1) (As := []) (rest := []) (v0 := (some (.int v1))) ⟨hx, hb, hml, hown, hts⟩ hK hA hZ hP hD hS hl.1 [] 0 rfl ⟨rfl, rfl, rfl⟩ (c_JString_isLatin1_aae02 l D ci A sa N (Rw) k hk v1 hm1) (vk_recv (N := 7) (adK := fun i => sa (2 + i)) (i := k) hZ.2.2.2.2.2.1 hk hS) (cwV 0 hts gJ0_charAt_5068e_J0_isLatin1_aae02 rfl rfl rfl (by decide +kernel) ⟨Nat.le_of_ble_eq_true rfl, Nat.le_of_ble_eq_true rfl⟩) rfl rfl (Nat.le_of_ble_eq_true rfl) dJ0_charAt_5068e_1 ⟨Nat.zero_le _, Nat.zero_le _⟩ (fun locs hS => ?_)
    refine q_if_eq (pc := 4) (tgt := 16) hx hb dJ0_charAt_5068e_4 (by decide) rfl hf (fun hf => ?_) (fun hf => ?_)
    · cases hf
    · refine lv_aload_n (pc := 7) hx hb dJ0_charAt_5068e_7 rfl (lv_at hl 0 rfl) ?_
      refine vk_getf (pc := 8) hx hb (hZ.2.2.2.2.2.1.1 k hk).2.2.1 hS hown w_1 (fun _ h9 => h9) dJ0_charAt_5068e_8 ?_
      refine lv_iload_n (pc := 11) hx hb dJ0_charAt_5068e_11 rfl (lv_at hl 1 rfl) ?_
      obtain ⟨v2, hm12, hf⟩ := q_b1_e hf
      refine q_cSr (pc := 12) (As := [.ref (sa (9 + k)), .int p1]) (rest := []) (v0 := (some (.int v2))) ⟨hx, hb, hml, hown, hts⟩ hK hA hZ hP hD hS hl.1 [] 0 rfl ⟨rfl, rfl, rfl⟩ (c_JStringLatin1_charAt_3b067 l D ci A sa N (Rw) k hk p1 v2 hm12) (va_cwS 2 hts gJ0_charAt_5068e_J1_charAt_3b067 rfl rfl rfl (by decide +kernel) ⟨Nat.le_of_ble_eq_true rfl, Nat.le_of_ble_eq_true rfl⟩) rfl rfl (Nat.le_of_ble_eq_true rfl) dJ0_charAt_5068e_12 ⟨Nat.zero_le _, Nat.zero_le _⟩ (fun locs hS => ?_)
      obtain ⟨hn9, hf⟩ := q_ch_e hf
      obtain rfl := Option.some.inj hf
      rw [hQ]
      exact q_zretr (pc := 15) hx hb hr hn9 hlocks rfl hS dJ0_charAt_5068e_15
  exact hgo _ _ rfl hP hS
/-! X8_isWord -/
set_option maxRecDepth 100000 in
set_option maxHeartbeats 4000000 in
theorem c_Tape_isWord (l : Launch) (D : va_G) (ci : Nat → ClassId) (A : Nat → Prop) (sa : Nat → Nat) (N : Nat) (Rw : va_W) (k : Nat) (hk : k < 7) (a_tp : Nat) (a_tp_bytes : Nat) (tp_length : Int32) (tp_bytes : Nat → Int32) (p2 : Int32) (r : Int32) (hf : f_Tape_isWord N k tp_bytes tp_length p2 = some r) : Met l yX8_isWord wsX8_isWord ({ frames := 4, cells := 0, slots := 0, locals := 85 }) (va_Pc [.ref a_tp, .ref (sa (2 + k)), .int p2] (q_N D ci A sa ((a_tp, .inr (8, [.ref a_tp_bytes, .int tp_length])) :: (a_tp_bytes, .inl (ci 0, 200, .inl tp_bytes)) :: Rw))) (q_R (some (.int r))) 0 0 A := by
  refine q_ofW (cc := cX8_isWord) (maxL := 4) (ret := (some .boolean)) [.ref a_tp, .ref (sa (2 + k)), .int p2] (plainFor_of_name (by decide)) rfl (Nat.le_of_ble_eq_true rfl) ?_
  intro p e s m below meth c ls Q hQ hx hb hml hr hts hown hlocks hK hA hZ hP hD hS hl
  have hl : lv_has ls 4 [(0, .ref a_tp), (1, .ref (sa (2 + k))), (2, .int p2)] := hl
  have hown : s.vm.findClass RX8 = some m.cls := hown
  have hinX8 : ∀ w ∈ wsX80, w ∈ wsX8_isWord := fun _ h => List.mem_cons_of_mem _ (inWX80 _ h)
  have w_1 := hts (Cond.fieldLink RX8 15 "SheetNames$Tape" "length" "I") (List.mem_cons_of_mem _ t_w837)
  have w_2 := hts (Cond.fieldLink RX8 9 "SheetNames$Tape" "bytes" "[I") (List.mem_cons_of_mem _ t_w838)
  unfold f_Tape_isWord at hf
  have hgo : ∀ (H : Heap) (locs : List Loc), H = s.heap → va_P D vwCl ((a_tp, .inr (8, [.ref a_tp_bytes, .int tp_length])) :: (a_tp_bytes, .inl (ci 0, 200, .inl tp_bytes)) :: Rw) H → va_S A s.heap H locs → W p l e ({ frames := 4, cells := 0, slots := 0, locals := 85 } : Room) s m ([.ref a_tp, .ref (sa (2 + k)), .int p2] : List Value).toArray below meth c H locs 0 0 Q (F0 m 0 ls []) := by
    intro H locs hH hP hS
    subst hH
    refine lv_aload_n (pc := 0) hx hb dX8_isWord_0 rfl (lv_at hl 1 rfl) ?_
    obtain ⟨v1, hm1, hf⟩ := q_b1_e hf
    refine q_cVs (pc := 1) (As := []) (rest := []) (v0 := (some (.int v1))) ⟨hx, hb, hml, hown, hts⟩ hK hA hZ hP hD hS hl.1 [] 2 rfl ⟨rfl, rfl, rfl⟩ (c_JString_length_8abf5 l D ci A sa N (Rw) k hk v1 hm1) (vk_recv (N := 7) (adK := fun i => sa (2 + i)) (i := k) hZ.2.2.2.2.2.1 hk hS) (cwV 0 hts gX8_isWord_J0_length_8abf5 rfl rfl rfl (by decide +kernel) ⟨Nat.le_of_ble_eq_true rfl, Nat.le_of_ble_eq_true rfl⟩) rfl rfl (Nat.le_of_ble_eq_true rfl) dX8_isWord_1 ⟨Nat.zero_le _, Nat.zero_le _⟩ (fun locs hS => ?_)
    refine lv_iload_n (pc := 4) hx hb dX8_isWord_4 rfl (lv_at hl 2 rfl) ?_
    refine q_icmp_ne (pc := 5) (tgt := 16) hx hb dX8_isWord_5 (by decide) rfl hf (fun hf => ?_) (fun hf => ?_)
    · refine lv_iconst (pc := 16) (v := 0) hx hb dX8_isWord_16 (by decide) ?_
      obtain rfl := Option.some.inj hf
      rw [hQ]
      exact q_zretr (pc := 17) hx hb hr rfl hlocks rfl hS dX8_isWord_17
    · refine lv_iload_n (pc := 8) hx hb dX8_isWord_8 rfl (lv_at hl 2 rfl) ?_
      refine lv_aload_n (pc := 9) hx hb dX8_isWord_9 rfl (lv_at hl 0 rfl) ?_
      refine va_get (pc := 10) (D := D) (ci := 8) (v := .int tp_length) (C := RX8) (T := TX8) (N := 2) hx hb hts hinX8 hown hK hP 0 rfl rfl 1 (by decide) w_1 (fun _ h9 => h9) rfl dX8_isWord_10 ?_
      refine q_icmp_le (pc := 13) (tgt := 18) hx hb dX8_isWord_13 (by decide) rfl hf (fun hf => ?_) (fun hf => ?_)
      · refine lv_iconst (pc := 18) (v := 0) hx hb dX8_isWord_18 (by decide) ?_
        obtain ⟨v2, ev2, hf⟩ := q_nm_e hf
        refine q_topi ev2 ?_
        refine lv_istore_n (pc := 19) (lv' := [(3, .int v2), (0, .ref a_tp), (1, .ref (sa (2 + k))), (2, .int p2)]) hx hb dX8_isWord_19 rfl hl (by decide) rfl (fun ls hl => ?_)
        obtain ⟨k20, o20_, ek20, hm20, hk20⟩ := q_s0_k hf
        have JE20 : ∀  (H : Heap) (locs : List Loc) (ls : Array Slot), k20 = some r → H = s.heap → va_S A s.heap H locs → lv_has ls 4 [] → W p l e ({ frames := 4, cells := 0, slots := 0, locals := 85 } : Room) s m ([.ref a_tp, .ref (sa (2 + k)), .int p2] : List Value).toArray below meth c H locs 0 0 Q (F0 m 47 ls []) := by
          intro  H locs ls hf hHs hS hl
          subst hHs
          have hf := (ek20).symm.trans hf
          refine lv_iconst (pc := 47) (v := 1) hx hb dX8_isWord_47 (by decide) ?_
          obtain rfl := Option.some.inj hf
          rw [hQ]
          exact q_zretr (pc := 48) hx hb hr rfl hlocks rfl hS dX8_isWord_48
        have LP20 : ∀ (n20 : Nat) (v3 : Int32) (H : Heap) (locs : List Loc) (ls : Array Slot), f_Tape_isWord_L20 k p2 tp_bytes n20 v3 = some o20_ → H = s.heap → va_S A s.heap H locs → lv_has ls 4 [(0, .ref a_tp), (1, .ref (sa (2 + k))), (2, .int p2), (3, .int v3)] → W p l e ({ frames := 4, cells := 0, slots := 0, locals := 85 } : Room) s m ([.ref a_tp, .ref (sa (2 + k)), .int p2] : List Value).toArray below meth c H locs 0 0 Q (F0 m 20 ls []) := by
          intro n20
          induction n20 with
          | zero => intro v3 H locs ls hf; rw [f_Tape_isWord_L20] at hf; cases hf
          | succ n20 ih20 =>
            intro v3 H locs ls hf hHs hS hl
            subst hHs
            rw [f_Tape_isWord_L20] at hf
            refine lv_iload_n (pc := 20) hx hb dX8_isWord_20 rfl (lv_at hl 3 rfl) ?_
            refine lv_iload_n (pc := 21) hx hb dX8_isWord_21 rfl (lv_at hl 2 rfl) ?_
            refine q_icmp_ge (pc := 22) (tgt := 47) hx hb dX8_isWord_22 (by decide) rfl hf (fun hf => ?_) (fun hf => ?_)
            · obtain rfl := Option.some.inj hf
              exact JE20  _ _ _ hk20 rfl hS (lv_sub hl [] rfl)
            · refine lv_aload_n (pc := 25) hx hb dX8_isWord_25 rfl (lv_at hl 0 rfl) ?_
              refine va_get (pc := 26) (D := D) (ci := 8) (v := .ref a_tp_bytes) (C := RX8) (T := TX8) (N := 2) hx hb hts hinX8 hown hK hP 0 rfl rfl 0 (by decide) w_2 (fun _ h9 => h9) rfl dX8_isWord_26 ?_
              refine lv_iload_n (pc := 29) hx hb dX8_isWord_29 rfl (lv_at hl 3 rfl) ?_
              refine q_iald (pc := 30) hx hb hK hP 1 0 hf rfl rfl dX8_isWord_30 (fun v4 hf => ?_)
              refine lv_aload_n (pc := 31) hx hb dX8_isWord_31 rfl (lv_at hl 1 rfl) ?_
              refine lv_iload_n (pc := 32) hx hb dX8_isWord_32 rfl (lv_at hl 3 rfl) ?_
              obtain ⟨v5, hm33, hf⟩ := q_b1_e hf
              refine q_cVs (pc := 33) (As := [.int v3]) (rest := [.int v4]) (v0 := (some (.int v5))) ⟨hx, hb, hml, hown, hts⟩ hK hA hZ hP hD hS hl.1 [] 2 rfl ⟨rfl, rfl, rfl⟩ (c_JString_charAt_5068e l D ci A sa N (Rw) k hk v3 v5 hm33) (vk_recv (N := 7) (adK := fun i => sa (2 + i)) (i := k) hZ.2.2.2.2.2.1 hk hS) (cwV 1 hts gX8_isWord_J0_charAt_5068e rfl rfl rfl (by decide +kernel) ⟨Nat.le_of_ble_eq_true rfl, Nat.le_of_ble_eq_true rfl⟩) rfl rfl (Nat.le_of_ble_eq_true rfl) dX8_isWord_33 ⟨Nat.zero_le _, Nat.zero_le _⟩ (fun locs hS => ?_)
              refine q_icmp_eq (pc := 36) (tgt := 41) hx hb dX8_isWord_36 (by decide) rfl hf (fun hf => ?_) (fun hf => ?_)
              · obtain ⟨v6, ev6, hf⟩ := q_nm_e hf
                refine lv_iinc (pc := 41) (v := v6) (lv' := [(3, .int v6), (0, .ref a_tp), (1, .ref (sa (2 + k))), (2, .int p2)]) hx hb dX8_isWord_41 hl (k := 3) rfl (by rw [ev6]; rfl) (by decide) rfl (fun ls hl => ?_)
                refine lv_goto (pc := 44) (tgt := 20) hx hb dX8_isWord_44 (by decide) ?_
                exact ih20 v6 _ _ _ hf rfl hS (lv_sub hl [1, 2, 3, 0] rfl)
              · refine lv_iconst (pc := 39) (v := 0) hx hb dX8_isWord_39 (by decide) ?_
                obtain rfl := Option.some.inj hf
                have hk20 : (0 : Int32) = r := hk20
                obtain rfl := hk20
                rw [hQ]
                exact q_zretr (pc := 40) hx hb hr rfl hlocks rfl hS dX8_isWord_40
        exact LP20 N v2 _ _ _ hm20 rfl hS (lv_sub hl [1, 2, 3, 0] rfl)
      · refine lv_iconst (pc := 16) (v := 0) hx hb dX8_isWord_16 (by decide) ?_
        obtain rfl := Option.some.inj hf
        rw [hQ]
        exact q_zretr (pc := 17) hx hb hr rfl hlocks rfl hS dX8_isWord_17
  exact hgo _ _ rfl hP hS
