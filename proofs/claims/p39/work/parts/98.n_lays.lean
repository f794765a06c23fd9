/-! the reference's neighbours -/
theorem z_cmplt {x y : Int64} : lg_cmp x y < 0 ↔ x.toInt < y.toInt := by
  unfold lg_cmp
  by_cases h1 : x > y
  · have := Int64.lt_iff_toInt_lt.mp h1
    rw [if_pos h1]; exact ⟨fun h => absurd h (by decide), fun h => by omega⟩
  · have h1' : ¬ y.toInt < x.toInt := fun z => h1 (Int64.lt_iff_toInt_lt.mpr z)
    rw [if_neg h1]
    by_cases h2 : x = y
    · rw [if_pos h2, h2]; exact ⟨fun h => absurd h (by decide), fun h => by omega⟩
    · rw [if_neg h2]
      have h3 : x.toInt ≠ y.toInt := fun h => h2 (Int64.toInt_inj.mp h)
      exact ⟨fun _ => by omega, fun _ => by decide⟩
theorem z_cmpgt {x y : Int64} : 0 < lg_cmp x y ↔ y.toInt < x.toInt := by
  unfold lg_cmp
  by_cases h1 : x > y
  · have := Int64.lt_iff_toInt_lt.mp h1
    rw [if_pos h1]; exact ⟨fun _ => by omega, fun _ => by decide⟩
  · have h1' : ¬ y.toInt < x.toInt := fun z => h1 (Int64.lt_iff_toInt_lt.mpr z)
    rw [if_neg h1]
    by_cases h2 : x = y
    · rw [if_pos h2]; exact ⟨fun h => absurd h (by decide), fun h => by omega⟩
    · rw [if_neg h2]; exact ⟨fun h => absurd h (by decide), fun h => by omega⟩
theorem m_in (x a b : Int64) : f_M_in x a b = some (if a.toInt ≤ x.toInt ∧ x.toInt ≤ b.toInt then 1 else 0) := by
  unfold f_M_in
  by_cases h1 : lg_cmp x a < 0
  · rw [if_pos h1]; have := z_cmplt.mp h1; rw [if_neg (by omega)]
  · have h1' : ¬ x.toInt < a.toInt := fun z => h1 (z_cmplt.mpr z)
    rw [if_neg h1]
    by_cases h2 : 0 < lg_cmp x b
    · rw [if_pos h2]; have := z_cmpgt.mp h2; rw [if_neg (by omega)]
    · have h2' : ¬ b.toInt < x.toInt := fun z => h2 (z_cmpgt.mpr z)
      rw [if_neg h2, if_pos (by omega)]
/-- two sheets beside each other: keys by rows and places -/
def z_adj (H0 V0 : Nat) (k k2 : Nat) : Prop := ∃ r p r2 p2, r ≤ 44 * H0 + 1 ∧ r2 ≤ 44 * H0 + 1 ∧ p < z_rl H0 V0 r ∧ p2 < z_rl H0 V0 r2 ∧ k = z_rs H0 V0 r + p ∧ k2 = z_rs H0 V0 r2 + p2 ∧
  (((r2 = r + 1 ∨ r = r2 + 1) ∧ p * z_rl H0 V0 r2 < (p2 + 1) * z_rl H0 V0 r ∧ p2 * z_rl H0 V0 r < (p + 1) * z_rl H0 V0 r2) ∨ (r2 = r ∧ z_rl H0 V0 r ≠ 1 ∧ ((p + 1) % z_rl H0 V0 r = p2 ∨ (p2 + 1) % z_rl H0 V0 r = p)))
theorem z_adj_symm {H0 V0 k k2 : Nat} (h : z_adj H0 V0 k k2) : z_adj H0 V0 k2 k := by
  obtain ⟨r, p, r2, p2, h1, h2, h3, h4, h5, h6, h7⟩ := h
  refine ⟨r2, p2, r, p, h2, h1, h4, h3, h6, h5, ?_⟩
  rcases h7 with ⟨a, b, c⟩ | ⟨a, b, c⟩
  · exact Or.inl ⟨by omega, c, b⟩
  · subst a; exact Or.inr ⟨rfl, b, by omega⟩
section ML
variable {R C H V : Nat → Nat} {cr cq dp wd za : Nat → Int32} {N l : Nat}
/-- to the row ahead or behind -/
theorem m_laysV (g : MOK R C H V cr cq dp wd za) (hN : 50 ≤ N) (hl : l < 5) {r p b : Nat} (hr : r ≤ 44 * H l + 1) (hp : p < z_rl (H l) (V l) r) (hb : b ≤ 44 * H l + 1) (fb mb : Int32) {i : Nat} (hi : (i = 0 ∧ r = b + 1) ∨ (i = 2 ∧ b = r + 1)) :
    f_M_laysBeside N dp wd za fb mb (nI l) (nI (z_rs (H l) (V l) r + p)) (nI i) = some (nI (z_rs (H l) (V l) b + p * z_rl (H l) (V l) b / z_rl (H l) (V l) r), nI (((p + 1) * z_rl (H l) (V l) b + z_rl (H l) (V l) r - 1) / z_rl (H l) (V l) r - p * z_rl (H l) (V l) b / z_rl (H l) (V l) r)) := by
  have hv := g.2.2.hv hl
  have hps := g.2.2.pos l hl
  have la := z_rl_pos hps.1 hps.2 hr
  have lb := z_rl_pos hps.1 hps.2 hb
  have hre := z_rs_end (V := V l) hps.1 hr
  obtain ⟨e1, e2⟩ := m_placeOf (N := N) g hN hl hr (k := z_rs (H l) (V l) r + p) (by omega) (by omega)
  have e3 := m_many g hl hr
  have e4 := m_many g hl hb
  have e5 := fun x hx => m_keyOf g hl hb (p := x) hx
  rw [show z_rs (H l) (V l) r + p - z_rs (H l) (V l) r = p by omega] at e2
  generalize hA : z_rl (H l) (V l) r = a at *
  generalize hB : z_rl (H l) (V l) b = t at *
  have m1 : p * t + t ≤ a * t := by
    have := Nat.mul_le_mul_right t (show p + 1 ≤ a by omega)
    rw [Nat.add_mul, Nat.one_mul] at this; exact this
  have m2 : a * t ≤ (60 * V l) * t := Nat.mul_le_mul_right t la.2
  have m3 : (60 * V l) * t ≤ (60 * V l) * (60 * V l) := Nat.mul_le_mul_left _ lb.2
  have m4 : (60 * V l) * (60 * V l) ≤ (60 * 9390) * (60 * 9390) := Nat.mul_le_mul (by omega) (by omega)
  have e6 : (p + 1) * t = p * t + t := by rw [Nat.add_mul, Nat.one_mul]
  have hd : p * t / a < t := by
    apply Nat.div_lt_of_lt_mul; omega
  have hd2 : p * t / a ≤ ((p + 1) * t + a - 1) / a := Nat.div_le_div_right (by omega)
  have hd3 : ((p + 1) * t + a - 1) / a ≤ t := by
    rw [Nat.div_le_iff_le_mul_add_pred (by omega)]; omega
  have hrow : ∀ x, x = nI b → (q_b1 (f_M_lastRow dp (nI l)) (fun (v6 : Int32) =>
    q_b1 (f_M_in (x : Int32).toInt64 0 v6.toInt64) (fun (v7 : Int32) =>
    if v7 = 0 then (
    some (fb, 0)) else (
    q_b1 (f_M_many dp wd (nI l) x) (fun (v8 : Int32) =>
    q_nm (v8.toInt64 : Int64) (fun (v9 : Int64) =>
    q_dvl ((nI p).toInt64 * v9) (nI a).toInt64 (fun (v10 : Int64) =>
    q_dvl (((((nI p + 1).toInt64) * v9) + (nI a).toInt64) - 1) (nI a).toInt64 (fun (v11 : Int64) =>
    q_b1 (f_M_keyOf dp wd za (nI l) x v10.toInt32) (fun (v12 : Int32) =>
    q_nm ((v11 - v10).toInt32 : Int32) (fun (v13 : Int32) =>
    some (v12, v13)))))))))) : Option (Int32 × Int32)) = some (nI (z_rs (H l) (V l) b + p * t / a), nI (((p + 1) * t + a - 1) / a - p * t / a)) := by
    intro x hx
    subst hx
    have hin : f_M_in (nI b).toInt64 0 (nI (44 * H l + 1)).toInt64 = some 1 := by
      rw [m_in, z_i64 (by omega), z_i64 (by omega), show (0 : Int64).toInt = 0 from rfl, if_pos (by omega)]
    rw [m_lastRow g hl, q_b1_s, hin, q_b1_s, if_neg (by decide), e4, q_b1_s, z_nm, nI_1, nI_l (by omega), nI_l (by omega), nI_l (by omega), nI_l (by omega), lN_mul, z_dvl (by omega) (by omega) (by omega), lN_mul, lN_add, z_l 1, lN_sub (by omega), z_dvl (by omega) (by omega) (by omega), lN_i, e5 _ hd, q_b1_s, z_nm, lN_sub hd2, lN_i]
  unfold f_M_laysBeside
  rw [e1, q_b1_s, e2, q_b1_s, e3, q_b1_s]
  rcases hi with ⟨rfl, hrb⟩ | ⟨rfl, hrb⟩
  · rw [z_i 2, z_rm (by omega) (by omega) (by omega), if_neg (by decide), z_j1, if_pos (by decide)]
    exact hrow _ (by rw [z_sub1 (by omega)]; congr 1; omega)
  · rw [z_i 2, z_rm (by omega) (by omega) (by omega), if_neg (by decide), z_j1, if_neg (by decide)]
    exact hrow _ (by rw [nI_1, hrb])
/-- no row there -/
theorem m_lays0 (g : MOK R C H V cr cq dp wd za) (hN : 50 ≤ N) (hl : l < 5) {r p : Nat} (hr : r ≤ 44 * H l + 1) (hp : p < z_rl (H l) (V l) r) (fb mb : Int32) {i : Nat} (hi : (i = 0 ∧ r = 0) ∨ (i = 2 ∧ r = 44 * H l + 1)) :
    f_M_laysBeside N dp wd za fb mb (nI l) (nI (z_rs (H l) (V l) r + p)) (nI i) = some (fb, 0) := by
  have hv := g.2.2.hv hl
  have hps := g.2.2.pos l hl
  have hre := z_rs_end (V := V l) hps.1 hr
  obtain ⟨e1, e2⟩ := m_placeOf (N := N) g hN hl hr (k := z_rs (H l) (V l) r + p) (by omega) (by omega)
  have e3 := m_many g hl hr
  unfold f_M_laysBeside
  rw [e1, q_b1_s, e2, q_b1_s, e3, q_b1_s]
  rcases hi with ⟨rfl, hrb⟩ | ⟨rfl, hrb⟩
  · rw [z_i 2, z_rm (by omega) (by omega) (by omega), if_neg (by decide), z_j1, if_pos (by decide)]
    dsimp only
    rw [m_lastRow g hl, q_b1_s, m_in, hrb, z_i64 (by omega), show (nI 0 - 1).toInt64.toInt = -1 by decide, show (0 : Int64).toInt = 0 from rfl, if_neg (by omega), q_b1_s, if_pos rfl]
  · rw [z_i 2, z_rm (by omega) (by omega) (by omega), if_neg (by decide), z_j1, if_neg (by decide)]
    dsimp only
    rw [m_lastRow g hl, q_b1_s, nI_1, m_in, z_i64 (by omega), z_i64 (by omega), if_neg (by omega), q_b1_s, if_pos rfl]
/-- along its own row -/
theorem m_laysH (g : MOK R C H V cr cq dp wd za) (hN : 50 ≤ N) (hl : l < 5) {r p : Nat} (hr : r ≤ 44 * H l + 1) (hp : p < z_rl (H l) (V l) r) (fb mb : Int32) {i by1 : Nat} (hi : (i = 1 ∧ by1 = 1) ∨ (i = 3 ∧ by1 = z_rl (H l) (V l) r - 1)) :
    f_M_laysBeside N dp wd za fb mb (nI l) (nI (z_rs (H l) (V l) r + p)) (nI i) = some (if z_rl (H l) (V l) r = 1 then (fb, 0) else (nI (z_rs (H l) (V l) r + (p + by1) % z_rl (H l) (V l) r), 1)) := by
  have hv := g.2.2.hv hl
  have hps := g.2.2.pos l hl
  have la := z_rl_pos hps.1 hps.2 hr
  have hre := z_rs_end (V := V l) hps.1 hr
  obtain ⟨e1, e2⟩ := m_placeOf (N := N) g hN hl hr (k := z_rs (H l) (V l) r + p) (by omega) (by omega)
  have e3 := m_many g hl hr
  have e5 := fun x hx => m_keyOf g hl hr (p := x) hx
  rw [show z_rs (H l) (V l) r + p - z_rs (H l) (V l) r = p by omega] at e2
  generalize hA : z_rl (H l) (V l) r = a at *
  have hm := Nat.mod_lt (p + by1) (show 0 < a by omega)
  have hi3 : i % 2 = 1 ∧ i < 4 := by omega
  unfold f_M_laysBeside
  rw [e1, q_b1_s, e2, q_b1_s, e3, q_b1_s, z_i 2, z_rm (by omega) (by omega) (by omega), hi3.1, if_pos (by decide)]
  by_cases h1 : a = 1
  · rw [if_pos (by rw [h1]; rfl), if_pos h1]
  · rw [if_neg (by rw [z_i 1, nI_eq (by omega) (by omega)]; exact h1), if_neg h1, z_j1]
    have fin : ∀ x, x = nI by1 → (q_rm (nI p + x) (nI a) (fun (v15 : Int32) => q_b1 (f_M_keyOf dp wd za (nI l) (nI r) v15) (fun (v16 : Int32) => some (v16, 1))) : Option (Int32 × Int32)) = some (nI (z_rs (H l) (V l) r + (p + by1) % a), 1) := by
      intro x hx
      subst hx
      rw [nI_add, z_rm (by omega) (by omega) (by omega), e5 _ hm, q_b1_s]
    rcases hi with ⟨rfl, hb⟩ | ⟨rfl, hb⟩
    · rw [if_pos (by decide)]
      exact fin _ (by rw [hb]; rfl)
    · rw [if_neg (by decide)]
      exact fin _ (by rw [hb, z_sub1 la.1])
/-- to a side: from which key on, how many; all are beside -/
theorem s_lays (g : MOK R C H V cr cq dp wd za) (hN : 50 ≤ N) (hl : l < 5) {k : Nat} (hk : k < 2130 * (H l * V l) + 2) (fb mb : Int32) {i : Nat} (hi : i < 4) :
    Ok (f_M_laysBeside N dp wd za fb mb (nI l) (nI k) (nI i)) (fun x => ∃ F M, x.2 = nI M ∧ (M ≠ 0 → x.1 = nI F) ∧ F + M ≤ 2130 * (H l * V l) + 2 ∧ M ≤ 563400 ∧ ∀ j, j < M → z_adj (H l) (V l) k (F + j)) := by
  have hv := g.2.2.hv hl
  have hps := g.2.2.pos l hl
  obtain ⟨r, -, hr, h1, h2⟩ := m_rowOf (N := N) g hN hl hk
  obtain ⟨p, rfl⟩ : ∃ p, k = z_rs (H l) (V l) r + p := ⟨k - z_rs (H l) (V l) r, by omega⟩
  have hp : p < z_rl (H l) (V l) r := by omega
  have la := z_rl_pos hps.1 hps.2 hr
  have hre := z_rs_end (V := V l) hps.1 hr
  have vert : ∀ b, b ≤ 44 * H l + 1 → ((i = 0 ∧ r = b + 1) ∨ (i = 2 ∧ b = r + 1)) → Ok (f_M_laysBeside N dp wd za fb mb (nI l) (nI (z_rs (H l) (V l) r + p)) (nI i)) (fun x => ∃ F M, x.2 = nI M ∧ (M ≠ 0 → x.1 = nI F) ∧ F + M ≤ 2130 * (H l * V l) + 2 ∧ M ≤ 563400 ∧ ∀ j, j < M → z_adj (H l) (V l) (z_rs (H l) (V l) r + p) (F + j)) := by
    intro b hb hib
    have e := m_laysV g hN hl hr hp hb fb mb hib
    have lb := z_rl_pos hps.1 hps.2 hb
    have hbe := z_rs_end (V := V l) hps.1 hb
    refine ⟨_, e, _, _, rfl, fun _ => rfl, ?_, ?_, ?_⟩
    all_goals
      have hd3 : ((p + 1) * z_rl (H l) (V l) b + z_rl (H l) (V l) r - 1) / z_rl (H l) (V l) r ≤ z_rl (H l) (V l) b := by
        have m1 : (p + 1) * z_rl (H l) (V l) b ≤ z_rl (H l) (V l) r * z_rl (H l) (V l) b := Nat.mul_le_mul_right _ (by omega)
        rw [Nat.div_le_iff_le_mul_add_pred (by omega)]; omega
      have hd2 : p * z_rl (H l) (V l) b / z_rl (H l) (V l) r ≤ ((p + 1) * z_rl (H l) (V l) b + z_rl (H l) (V l) r - 1) / z_rl (H l) (V l) r := Nat.div_le_div_right (by rw [Nat.add_mul, Nat.one_mul]; omega)
    · omega
    · exact Nat.le_trans (Nat.sub_le _ _) (Nat.le_trans hd3 (by omega))
    · intro j hj
      refine ⟨r, p, b, p * z_rl (H l) (V l) b / z_rl (H l) (V l) r + j, hr, hb, hp, by omega, rfl, by omega, Or.inl ⟨by omega, ?_, ?_⟩⟩
      · have := Nat.lt_div_mul_add (a := p * z_rl (H l) (V l) b) (show 0 < z_rl (H l) (V l) r by omega)
        have h3 : (p * z_rl (H l) (V l) b / z_rl (H l) (V l) r + 1) * z_rl (H l) (V l) r ≤ (p * z_rl (H l) (V l) b / z_rl (H l) (V l) r + j + 1) * z_rl (H l) (V l) r := Nat.mul_le_mul_right _ (by omega)
        rw [Nat.add_mul _ 1, Nat.one_mul] at h3
        omega
      · have h3 : p * z_rl (H l) (V l) b / z_rl (H l) (V l) r + j + 1 ≤ ((p + 1) * z_rl (H l) (V l) b + z_rl (H l) (V l) r - 1) / z_rl (H l) (V l) r := by omega
        have h4 := Nat.mul_le_mul_right (z_rl (H l) (V l) r) h3
        have h5 := Nat.div_mul_le_self ((p + 1) * z_rl (H l) (V l) b + z_rl (H l) (V l) r - 1) (z_rl (H l) (V l) r)
        rw [Nat.add_mul _ 1, Nat.one_mul] at h4
        omega
  have none0 : ((i = 0 ∧ r = 0) ∨ (i = 2 ∧ r = 44 * H l + 1)) → Ok (f_M_laysBeside N dp wd za fb mb (nI l) (nI (z_rs (H l) (V l) r + p)) (nI i)) (fun x => ∃ F M, x.2 = nI M ∧ (M ≠ 0 → x.1 = nI F) ∧ F + M ≤ 2130 * (H l * V l) + 2 ∧ M ≤ 563400 ∧ ∀ j, j < M → z_adj (H l) (V l) (z_rs (H l) (V l) r + p) (F + j)) := by
    intro hi
    exact ⟨_, m_lays0 g hN hl hr hp fb mb hi, 0, 0, rfl, fun z => absurd rfl z, by omega, by omega, fun j hj => by omega⟩
  have hor : ∀ by1, ((i = 1 ∧ by1 = 1) ∨ (i = 3 ∧ by1 = z_rl (H l) (V l) r - 1)) → Ok (f_M_laysBeside N dp wd za fb mb (nI l) (nI (z_rs (H l) (V l) r + p)) (nI i)) (fun x => ∃ F M, x.2 = nI M ∧ (M ≠ 0 → x.1 = nI F) ∧ F + M ≤ 2130 * (H l * V l) + 2 ∧ M ≤ 563400 ∧ ∀ j, j < M → z_adj (H l) (V l) (z_rs (H l) (V l) r + p) (F + j)) := by
    intro by1 hb
    have e := m_laysH g hN hl hr hp fb mb hb
    have hm := Nat.mod_lt (p + by1) (show 0 < z_rl (H l) (V l) r by omega)
    by_cases h1 : z_rl (H l) (V l) r = 1
    · rw [if_pos h1] at e
      exact ⟨_, e, 0, 0, rfl, fun z => absurd rfl z, by omega, by omega, fun j hj => by omega⟩
    · rw [if_neg h1] at e
      refine ⟨_, e, _, 1, rfl, fun _ => rfl, by omega, by omega, fun j hj => ?_⟩
      have : j = 0 := by omega
      subst this
      refine ⟨r, p, r, (p + by1) % z_rl (H l) (V l) r, hr, hr, hp, hm, rfl, rfl, Or.inr ⟨rfl, h1, ?_⟩⟩
      rcases hb with ⟨-, rfl⟩ | ⟨-, hb⟩
      · exact Or.inl rfl
      · right
        rw [Nat.mod_add_mod, hb, show p + (z_rl (H l) (V l) r - 1) + 1 = p + z_rl (H l) (V l) r by omega, Nat.add_mod_right, Nat.mod_eq_of_lt hp]
  rcases (show i = 0 ∨ i = 1 ∨ i = 2 ∨ i = 3 by omega) with h | h | h | h
  · rcases Nat.eq_zero_or_pos r with h0 | h0
    · exact none0 (Or.inl ⟨h, h0⟩)
    · exact vert (r - 1) (by omega) (Or.inl ⟨h, by omega⟩)
  · exact hor 1 (Or.inl ⟨h, rfl⟩)
  · by_cases h0 : r = 44 * H l + 1
    · exact none0 (Or.inr ⟨h, h0⟩)
    · exact vert (r + 1) (by omega) (Or.inr ⟨h, rfl⟩)
  · exact hor _ (Or.inr ⟨h, rfl⟩)
end ML
