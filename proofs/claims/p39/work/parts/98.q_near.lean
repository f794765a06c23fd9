/-! a neighbour is among those of the four sides -/
section MN
variable {R C H V : Nat → Nat} {cr cq dp wd za : Nat → Int32} {N l : Nat}
/-- what laysBeside says of a side -/
def z_side (H0 V0 k : Nat) (i F M : Nat) : Prop := ∃ r p, r ≤ 44 * H0 + 1 ∧ p < z_rl H0 V0 r ∧ k = z_rs H0 V0 r + p ∧
  (((i = 0 ∨ i = 2) ∧ (∃ b, b ≤ 44 * H0 + 1 ∧ ((i = 0 ∧ r = b + 1) ∨ (i = 2 ∧ b = r + 1)) ∧ F = z_rs H0 V0 b + p * z_rl H0 V0 b / z_rl H0 V0 r ∧ M = ((p + 1) * z_rl H0 V0 b + z_rl H0 V0 r - 1) / z_rl H0 V0 r - p * z_rl H0 V0 b / z_rl H0 V0 r)) ∨
   (((i = 0 ∧ r = 0) ∨ (i = 2 ∧ r = 44 * H0 + 1)) ∧ M = 0) ∨
   (((i = 1 ∨ i = 3) ∧ ((z_rl H0 V0 r = 1 ∧ M = 0) ∨ (z_rl H0 V0 r ≠ 1 ∧ M = 1 ∧ F = z_rs H0 V0 r + (p + (if i = 1 then 1 else z_rl H0 V0 r - 1)) % z_rl H0 V0 r)))))
theorem s_sides (g : MOK R C H V cr cq dp wd za) (hN : 50 ≤ N) (hl : l < 5) {k : Nat} (hk : k < 2130 * (H l * V l) + 2) (fb mb : Int32) {i : Nat} (hi : i < 4) :
    Ok (f_M_laysBeside N dp wd za fb mb (nI l) (nI k) (nI i)) (fun x => ∃ F M, x.2 = nI M ∧ (M ≠ 0 → x.1 = nI F) ∧ z_side (H l) (V l) k i F M) := by
  obtain ⟨r, -, hr, h1, h2⟩ := m_rowOf (N := N) g hN hl hk
  obtain ⟨p, rfl⟩ : ∃ p, k = z_rs (H l) (V l) r + p := ⟨k - z_rs (H l) (V l) r, by omega⟩
  have hp : p < z_rl (H l) (V l) r := by omega
  have vert : ∀ b, b ≤ 44 * H l + 1 → ((i = 0 ∧ r = b + 1) ∨ (i = 2 ∧ b = r + 1)) → Ok (f_M_laysBeside N dp wd za fb mb (nI l) (nI (z_rs (H l) (V l) r + p)) (nI i)) (fun x => ∃ F M, x.2 = nI M ∧ (M ≠ 0 → x.1 = nI F) ∧ z_side (H l) (V l) (z_rs (H l) (V l) r + p) i F M) := by
    intro b hb hib
    exact ⟨_, m_laysV g hN hl hr hp hb fb mb hib, _, _, rfl, fun _ => rfl, r, p, hr, hp, rfl, Or.inl ⟨by omega, b, hb, hib, rfl, rfl⟩⟩
  have none0 : ((i = 0 ∧ r = 0) ∨ (i = 2 ∧ r = 44 * H l + 1)) → Ok (f_M_laysBeside N dp wd za fb mb (nI l) (nI (z_rs (H l) (V l) r + p)) (nI i)) (fun x => ∃ F M, x.2 = nI M ∧ (M ≠ 0 → x.1 = nI F) ∧ z_side (H l) (V l) (z_rs (H l) (V l) r + p) i F M) := by
    intro hi
    exact ⟨_, m_lays0 g hN hl hr hp fb mb hi, 0, 0, rfl, fun z => absurd rfl z, r, p, hr, hp, rfl, Or.inr (Or.inl ⟨hi, rfl⟩)⟩
  have hor : ∀ by1, ((i = 1 ∧ by1 = 1) ∨ (i = 3 ∧ by1 = z_rl (H l) (V l) r - 1)) → Ok (f_M_laysBeside N dp wd za fb mb (nI l) (nI (z_rs (H l) (V l) r + p)) (nI i)) (fun x => ∃ F M, x.2 = nI M ∧ (M ≠ 0 → x.1 = nI F) ∧ z_side (H l) (V l) (z_rs (H l) (V l) r + p) i F M) := by
    intro by1 hb
    have e := m_laysH g hN hl hr hp fb mb hb
    have hby : by1 = (if i = 1 then 1 else z_rl (H l) (V l) r - 1) := by split <;> omega
    by_cases h1 : z_rl (H l) (V l) r = 1
    · rw [if_pos h1] at e
      exact ⟨_, e, 0, 0, rfl, fun z => absurd rfl z, r, p, hr, hp, rfl, Or.inr (Or.inr ⟨by omega, Or.inl ⟨h1, rfl⟩⟩)⟩
    · rw [if_neg h1] at e
      exact ⟨_, e, _, 1, rfl, fun _ => rfl, r, p, hr, hp, rfl, Or.inr (Or.inr ⟨by omega, Or.inr ⟨h1, rfl, by rw [hby]⟩⟩)⟩
  rcases (show i = 0 ∨ i = 1 ∨ i = 2 ∨ i = 3 by omega) with h | h | h | h
  · rcases Nat.eq_zero_or_pos r with h0 | h0
    · exact none0 (Or.inl ⟨h, h0⟩)
    · exact vert (r - 1) (by omega) (Or.inl ⟨h, by omega⟩)
  · exact hor 1 (Or.inl ⟨h, rfl⟩)
  · by_cases h0 : r = 44 * H l + 1
    · exact none0 (Or.inr ⟨h, h0⟩)
    · exact vert (r + 1) (by omega) (Or.inr ⟨h, rfl⟩)
  · exact hor _ (Or.inr ⟨h, rfl⟩)
theorem z_adj_side {H0 V0 k k2 : Nat} (hH : 1 ≤ H0) (hV : 1 ≤ V0) (h : z_adj H0 V0 k k2) : ∃ i, i < 4 ∧ ∀ F M, z_side H0 V0 k i F M → F ≤ k2 ∧ k2 < F + M := by
  obtain ⟨r, p, r2, p2, hr, hr2, hp, hp2, rfl, rfl, hc⟩ := h
  have la := z_rl_pos hH hV hr
  have same : ∀ r' p', r' ≤ 44 * H0 + 1 → p' < z_rl H0 V0 r' → z_rs H0 V0 r + p = z_rs H0 V0 r' + p' → r' = r ∧ p' = p := by
    intro r' p' h1 h2 h3
    have : r' = r := z_row_one (V := V0) hH h1 hr (k := z_rs H0 V0 r + p) (by omega) (by omega) (by omega) (by omega)
    subst this
    exact ⟨rfl, by omega⟩
  have mid : ∀ t a : Nat, 1 ≤ a → p * t < (p2 + 1) * a → p2 * a < (p + 1) * t → p * t / a ≤ p2 ∧ p2 < ((p + 1) * t + a - 1) / a := by
    intro t a ha h1 h2
    constructor
    · exact Nat.le_of_lt_succ (Nat.div_lt_of_lt_mul (by rw [Nat.mul_comm a]; exact h1))
    · exact (Nat.le_div_iff_mul_le (by omega)).mpr (by
        have h3 : (p2 + 1) * a = p2 * a + a := by rw [Nat.add_mul, Nat.one_mul]
        show (p2 + 1) * a ≤ _
        rw [h3]
        generalize p2 * a = y at *
        generalize (p + 1) * t = x at *
        omega)
  rcases hc with ⟨hv, h1, h2⟩ | ⟨rfl, h1, h2⟩
  · obtain ⟨m1, m2⟩ := mid _ _ la.1 h1 h2
    rcases hv with hv | hv
    · refine ⟨2, by omega, fun F M hs => ?_⟩
      obtain ⟨r', p', a1, a2, a3, a4⟩ := hs
      obtain ⟨rfl, rfl⟩ := same r' p' a1 a2 a3
      rcases a4 with ⟨-, b, b1, b2, b3, b4⟩ | ⟨b1, b2⟩ | ⟨b1, -⟩
      · have : b = r2 := by omega
        subst this
        omega
      · omega
      · omega
    · refine ⟨0, by omega, fun F M hs => ?_⟩
      obtain ⟨r', p', a1, a2, a3, a4⟩ := hs
      obtain ⟨rfl, rfl⟩ := same r' p' a1 a2 a3
      rcases a4 with ⟨-, b, b1, b2, b3, b4⟩ | ⟨b1, b2⟩ | ⟨b1, -⟩
      · have : b = r2 := by omega
        subst this
        omega
      · omega
      · omega
  · rcases h2 with h2 | h2
    · refine ⟨1, by omega, fun F M hs => ?_⟩
      obtain ⟨r', p', a1, a2, a3, a4⟩ := hs
      obtain ⟨rfl, rfl⟩ := same r' p' a1 a2 a3
      rcases a4 with ⟨b1, -⟩ | ⟨b1, -⟩ | ⟨-, b2⟩
      · omega
      · omega
      · rcases b2 with ⟨c1, -⟩ | ⟨-, c2, c3⟩
        · exact absurd c1 h1
        · rw [if_pos rfl, h2] at c3
          omega
    · refine ⟨3, by omega, fun F M hs => ?_⟩
      obtain ⟨r', p', a1, a2, a3, a4⟩ := hs
      obtain ⟨rfl, rfl⟩ := same r' p' a1 a2 a3
      rcases a4 with ⟨b1, -⟩ | ⟨b1, -⟩ | ⟨-, b2⟩
      · omega
      · omega
      · rcases b2 with ⟨c1, -⟩ | ⟨-, c2, c3⟩
        · exact absurd c1 h1
        · rw [if_neg (by omega)] at c3
          have hm : (p' + (z_rl H0 V0 r' - 1)) % z_rl H0 V0 r' = p2 := by
            rcases Nat.lt_or_ge (p2 + 1) (z_rl H0 V0 r') with g | g
            · rw [Nat.mod_eq_of_lt g] at h2
              rw [← h2, show p2 + 1 + (z_rl H0 V0 r' - 1) = p2 + z_rl H0 V0 r' by omega, Nat.add_mod_right, Nat.mod_eq_of_lt hp2]
            · have e : p2 + 1 = z_rl H0 V0 r' := by omega
              rw [e, Nat.mod_self] at h2
              rw [← h2, Nat.zero_add, Nat.mod_eq_of_lt (by omega)]; omega
          rw [hm] at c3
          omega
end MN
