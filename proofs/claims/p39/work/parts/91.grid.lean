/-! the rows of a level: how long, where they begin -/
def z_rl (H V r : Nat) : Nat := if r = 0 ∨ r = 44 * H + 1 then 1 else z_bz ((r - 1) / H) * V
def z_rs (H V r : Nat) : Nat := if r = 0 then 0 else if r = 44 * H + 1 then 2130 * (H * V) + 1 else 1 + (z_za ((r - 1) / H) * H + (r - 1) % H * z_bz ((r - 1) / H)) * V
theorem z_q {H r : Nat} (h1 : 1 ≤ r) (h2 : r ≤ 44 * H) : (r - 1) / H < 44 := Nat.div_lt_of_lt_mul (by omega)
theorem z_rs_succ {H V r : Nat} (hH : 1 ≤ H) (hr : r ≤ 44 * H) : z_rs H V (r + 1) = z_rs H V r + z_rl H V r := by
  by_cases h0 : r = 0
  · subst h0
    unfold z_rs z_rl
    rw [if_neg (by omega), if_neg (by omega), if_pos rfl, if_pos (Or.inl rfl)]
    simp [z_za_0]
  · have hq := z_q (r := r) (H := H) (by omega) hr
    have e1 : z_rs H V r = 1 + (z_za ((r - 1) / H) * H + (r - 1) % H * z_bz ((r - 1) / H)) * V := by
      unfold z_rs; rw [if_neg h0, if_neg (by omega)]
    have e2 : z_rl H V r = z_bz ((r - 1) / H) * V := by
      unfold z_rl; rw [if_neg (by omega)]
    have hd := Nat.div_add_mod (r - 1) H
    have hm := Nat.mod_lt (r - 1) (show 0 < H by omega)
    generalize hqe : (r - 1) / H = q at *
    generalize hme : (r - 1) % H = m at *
    have hs := z_za_succ q hq
    by_cases hc : m + 1 < H
    · have hr44 : r ≠ 44 * H := by
        intro e
        have : H * q ≤ H * 43 := Nat.mul_le_mul_left H (by omega)
        omega
      have d1 : r / H = q := by
        have : r = H * q + (m + 1) := by omega
        rw [this, Nat.mul_add_div (by omega), Nat.div_eq_of_lt hc, Nat.add_zero]
      have d2 : r % H = m + 1 := by
        have : r = H * q + (m + 1) := by omega
        rw [this, Nat.mul_add_mod, Nat.mod_eq_of_lt hc]
      have e3 : z_rs H V (r + 1) = 1 + (z_za q * H + (m + 1) * z_bz q) * V := by
        unfold z_rs; rw [if_neg (by omega), if_neg (by omega), Nat.add_sub_cancel, d1, d2]
      rw [e1, e2, e3, Nat.add_mul m 1, Nat.one_mul, ← Nat.add_assoc, Nat.add_mul _ (z_bz q) V]
      omega
    · have hmH : m + 1 = H := by omega
      have hrH : r = H * (q + 1) := by rw [Nat.mul_add, Nat.mul_one]; omega
      have key : z_rs H V r + z_rl H V r = 1 + z_za (q + 1) * H * V := by
        rw [e1, e2, hs]
        have : (z_za q * H + m * z_bz q) * V + z_bz q * V = (z_za q + z_bz q) * H * V := by
          rw [← Nat.add_mul, Nat.add_mul (z_za q), Nat.add_assoc]
          congr 2
          rw [← hmH, Nat.mul_add, Nat.mul_one, Nat.mul_comm m]
        omega
      rw [key]
      by_cases h44 : q = 43
      · subst h44
        have : r = 44 * H := by rw [hrH]; exact Nat.mul_comm _ _
        unfold z_rs
        rw [if_neg (by omega), if_pos (by omega), z_za_44, Nat.mul_assoc]; omega
      · have d1 : r / H = q + 1 := by rw [hrH, Nat.mul_div_cancel_left _ (by omega)]
        have d2 : r % H = 0 := by rw [hrH, Nat.mul_mod_right]
        have hne : r ≠ 44 * H := by
          intro e
          rw [hrH, Nat.mul_comm] at e
          have := Nat.eq_of_mul_eq_mul_right (show 0 < H by omega) e
          omega
        unfold z_rs
        rw [if_neg (by omega), if_neg (by omega), Nat.add_sub_cancel, d1, d2]
        simp
theorem z_rl_pos {H V r : Nat} (hH : 1 ≤ H) (hV : 1 ≤ V) (hr : r ≤ 44 * H + 1) : 1 ≤ z_rl H V r ∧ z_rl H V r ≤ 60 * V := by
  unfold z_rl
  split
  · omega
  · rename_i h
    have hq := z_q (r := r) (H := H) (by omega) (by omega)
    have hb := z_bz_in _ hq
    constructor
    · exact Nat.le_trans hV (Nat.le_mul_of_pos_left V (by omega))
    · exact Nat.mul_le_mul_right V hb.2
theorem z_rs_last {H V : Nat} (hH : 1 ≤ H) : z_rs H V (44 * H + 1) = 2130 * (H * V) + 1 := by
  unfold z_rs; rw [if_neg (by omega), if_pos rfl]
theorem z_rl_last {H V : Nat} : z_rl H V (44 * H + 1) = 1 := by
  unfold z_rl; rw [if_pos (Or.inr rfl)]
theorem z_rs_mono {H V : Nat} (hH : 1 ≤ H) : ∀ b, b ≤ 44 * H + 1 → ∀ a, a < b → z_rs H V a + z_rl H V a ≤ z_rs H V b := by
  intro b
  induction b with
  | zero => intro _ a h; omega
  | succ b ih =>
    intro hb a ha
    have e := z_rs_succ (V := V) hH (show b ≤ 44 * H by omega)
    rcases Nat.lt_or_ge a b with h | h
    · have := ih (by omega) a h
      omega
    · have : a = b := by omega
      subst this; omega
theorem z_rs_end {H V r : Nat} (hH : 1 ≤ H) (hr : r ≤ 44 * H + 1) : z_rs H V r + z_rl H V r ≤ 2130 * (H * V) + 2 := by
  rcases Nat.lt_or_ge r (44 * H + 1) with h | h
  · have := z_rs_mono (V := V) hH (44 * H + 1) (Nat.le_refl _) r h
    rw [z_rs_last hH] at this; omega
  · have : r = 44 * H + 1 := by omega
    subst this
    rw [z_rs_last hH, z_rl_last]; omega
/-- a key lies in one row -/
theorem z_row_one {H V a b k : Nat} (hH : 1 ≤ H) (ha : a ≤ 44 * H + 1) (hb : b ≤ 44 * H + 1) (a1 : z_rs H V a ≤ k) (a2 : k < z_rs H V a + z_rl H V a) (b1 : z_rs H V b ≤ k) (b2 : k < z_rs H V b + z_rl H V b) : a = b := by
  rcases Nat.lt_trichotomy a b with h | h | h
  · have := z_rs_mono (V := V) hH b hb a h; omega
  · exact h
  · have := z_rs_mono (V := V) hH a ha b h; omega
/-- the numbers of a level -/
theorem GOK.at {R C H V : Nat → Nat} {rc cc br zc rw sh : Nat → Int32} (h : GOK R C H V rc cc br zc rw sh) {l : Nat} (hl : l < 5) : rc l = nI (R l) ∧ cc l = nI (C l) ∧ br l = nI (H l) ∧ zc l = nI (V l) ∧ rw l = nI (44 * H l + 2) ∧ sh l = nI (2130 * (H l * V l) + 2) := h.1 l hl
section GRIDF
variable {R C H V : Nat → Nat} {rc cc br zc rw sh : Nat → Int32} {N l : Nat}
theorem k_isLevel (p : Int32) : f_X_isLevel p = some (if 0 ≤ p.toInt ∧ p.toInt ≤ 4 then 1 else 0) := by
  unfold f_X_isLevel
  by_cases h0 : p < 0
  · have h1 : p.toInt < 0 := z_lt.mp h0
    rw [if_pos h0, if_neg (by omega)]
  · rw [if_neg h0]
    have b : ¬ p.toInt < 0 := fun z => h0 (z_lt.mpr z)
    by_cases h4 : 4 < p
    · have a : (4 : Int32).toInt < p.toInt := z_lt.mp h4
      rw [show (4 : Int32).toInt = 4 from rfl] at a
      rw [if_pos h4, if_neg (by omega)]
    · have a : ¬ (4 : Int32).toInt < p.toInt := fun z => h4 (z_lt.mpr z)
      rw [show (4 : Int32).toInt = 4 from rfl] at a
      rw [if_neg h4, if_pos (by omega)]
theorem k_rowLength (g : GOK R C H V rc cc br zc rw sh) (hl : l < 5) {r : Nat} (hr : r ≤ 44 * H l + 1) : f_Grid_rowLength br zc rw (nI l) (nI r) = some (nI (z_rl (H l) (V l) r)) := by
  obtain ⟨-, -, e3, e4, e5, -⟩ := g.at hl
  have hv := g.2.hv hl
  have hp := g.2.pos l hl
  unfold f_Grid_rowLength z_rl
  by_cases h0 : r = 0
  · subst h0
    rw [if_pos (by decide), if_pos (Or.inl rfl)]; rfl
  · rw [if_neg (by rw [z_le0 (by omega)]; exact h0), z_ai hl (by omega), e5, z_sub1 (by omega)]
    by_cases h1 : r = 44 * H l + 1
    · rw [if_neg (by rw [nI_ltI (by omega) (by omega)]; omega), if_pos (Or.inr h1)]; rfl
    · have hq := z_q (r := r) (H := H l) (by omega) (by omega)
      rw [if_pos (by rw [nI_ltI (by omega) (by omega)]; omega), if_neg (by omega), z_ai hl (by omega), e3, z_sub1 (by omega), z_dv (by omega) (by omega) (by omega), z_ai hq (by omega), z_ai hl (by omega), z_bZ _ hq, e4, pk_mul]
theorem k_rowStart (g : GOK R C H V rc cc br zc rw sh) (hl : l < 5) {r : Nat} (hr : r ≤ 44 * H l + 1) : f_Grid_rowStart br zc rw sh (nI l) (nI r) = some (nI (z_rs (H l) (V l) r)) := by
  obtain ⟨-, -, e3, e4, e5, e6⟩ := g.at hl
  have hv := g.2.hv hl
  have hp := g.2.pos l hl
  unfold f_Grid_rowStart z_rs
  by_cases h0 : r = 0
  · subst h0
    rw [if_neg (by decide), if_pos rfl]; rfl
  · rw [if_pos (by rw [z_0lt (by omega)]; omega), if_neg h0, z_ai hl (by omega), e5, z_sub1 (by omega)]
    by_cases h1 : r = 44 * H l + 1
    · rw [if_neg (by rw [nI_ltI (by omega) (by omega)]; omega), if_pos h1, z_ai hl (by omega), e6, z_sub1 (by omega)]; rfl
    · have hq := z_q (r := r) (H := H l) (by omega) (by omega)
      rw [if_pos (by rw [nI_ltI (by omega) (by omega)]; omega), if_neg h1, z_ai hl (by omega), e3, z_sub1 (by omega), z_dv (by omega) (by omega) (by omega), z_ai hl (by omega), e3, z_rm (by omega) (by omega) (by omega), z_ai hq (by omega), z_ai hl (by omega), z_ai hq (by omega), z_zA _ hq, z_bZ _ hq, e3, pk_mul, pk_mul, nI_add, z_nm, z_ai hl (by omega), e4, pk_mul, z_i 1, nI_add]
theorem k_bandOfZone {z q : Nat} (hq : q < 44) (h1 : z_za q ≤ z) (h2 : z < z_za (q + 1)) : ∀ n a b i, a ≤ q → q ≤ b → b ≤ 43 → b - a < n → i + (b - a) ≤ 43 → f_Grid_bandOfZone_L7 (nI z) n (nI a) (nI b) (nI i) = some (nI q) := by
  intro n
  induction n with
  | zero => intro a b i _ _ _ h; omega
  | succ n ih =>
    intro a b i ha hb hb3 hn hi
    have hz : z < 2130 := by have := z_za_le (q + 1) (by omega); omega
    rw [f_Grid_bandOfZone_L7, if_neg (by rw [z_i 44, nI_leI (by omega) (by omega)]; omega)]
    by_cases hab : b ≤ a
    · rw [if_pos (by rw [nI_leI (by omega) (by omega)]; exact hab)]
      have : a = q := by omega
      rw [this]
    · have hh : (a + b + 1) / 2 < 44 := by omega
      rw [if_neg (by rw [nI_leI (by omega) (by omega)]; exact hab), nI_add, nI_1, z_i 2, z_dv (by omega) (by omega) (by omega), z_ai hh (by omega), z_zA _ hh, z_j2]
      have hzh : z_za ((a + b + 1) / 2) ≤ 2130 := z_za_le _ (by omega)
      by_cases hc : z < z_za ((a + b + 1) / 2)
      · rw [if_pos (by rw [nI_ltI (by omega) (by omega)]; exact hc), z_nm, z_sub1 (by omega)]
        dsimp only
        rw [z_nm, nI_1]
        have : q < (a + b + 1) / 2 := by
          rcases Nat.lt_or_ge q ((a + b + 1) / 2) with g | g
          · exact g
          · rcases Nat.lt_or_ge ((a + b + 1) / 2) q with g2 | g2
            · have := z_za_mono q (by omega) _ g2; omega
            · have : (a + b + 1) / 2 = q := by omega
              rw [this] at hc; omega
        exact ih _ _ _ ha (by omega) (by omega) (by omega) (by omega)
      · rw [if_neg (by rw [nI_ltI (by omega) (by omega)]; exact hc)]
        dsimp only
        rw [z_nm, nI_1]
        have : (a + b + 1) / 2 ≤ q := by
          rcases Nat.lt_or_ge q ((a + b + 1) / 2) with g | g
          · have : z_za (q + 1) ≤ z_za ((a + b + 1) / 2) := by
              rcases Nat.lt_or_ge (q + 1) ((a + b + 1) / 2) with g2 | g2
              · exact Nat.le_of_lt (z_za_mono _ (by omega) _ g2)
              · have : q + 1 = (a + b + 1) / 2 := by omega
                rw [this]; exact Nat.le_refl _
            omega
          · exact g
        exact ih _ _ _ this hb hb3 (by omega) (by omega)
theorem k_rowOfKey (g : GOK R C H V rc cc br zc rw sh) (hN : 50 ≤ N) (hl : l < 5) {k : Nat} (hk : k < 2130 * (H l * V l) + 2) : ∃ r, f_Grid_rowOfKey N br zc rw sh (nI l) (nI k) = some (nI r) ∧ r ≤ 44 * H l + 1 ∧ z_rs (H l) (V l) r ≤ k ∧ k < z_rs (H l) (V l) r + z_rl (H l) (V l) r := by
  obtain ⟨-, -, e3, e4, e5, e6⟩ := g.at hl
  have hv := g.2.hv hl
  have hp := g.2.pos l hl
  have hs := g.2.sh hl
  unfold f_Grid_rowOfKey
  by_cases h0 : k = 0
  · subst h0
    refine ⟨0, ?_, by omega, ?_, ?_⟩
    · rw [if_neg (by decide)]; rfl
    · unfold z_rs; rw [if_pos rfl]; omega
    · unfold z_rs z_rl; rw [if_pos rfl, if_pos (Or.inl rfl)]; omega
  · rw [if_pos (by rw [z_0lt (by omega)]; omega), z_ai hl (by omega), e6, z_sub1 (by omega)]
    by_cases h1 : k = 2130 * (H l * V l) + 1
    · refine ⟨44 * H l + 1, ?_, Nat.le_refl _, ?_, ?_⟩
      · rw [if_neg (by rw [nI_ltI (by omega) (by omega)]; omega), z_ai hl (by omega), e5, z_sub1 (by omega)]; rfl
      · rw [z_rs_last hp.1]; omega
      · rw [z_rs_last hp.1, z_rl_last]; omega
    · have hHV : 0 < H l * V l := Nat.mul_pos hp.1 hp.2
      have hz : (k - 1) / (H l * V l) < 2130 := Nat.div_lt_of_lt_mul (by rw [Nat.mul_comm]; omega)
      obtain ⟨q, hq, q1, q2⟩ := z_band_ex _ hz
      have hb := z_bz_in q hq
      have c1 : z_za q * (H l * V l) ≤ k - 1 := by
        have := Nat.mul_le_mul_right (H l * V l) q1
        have := Nat.div_mul_le_self (k - 1) (H l * V l)
        omega
      have c2 : k - 1 < z_za (q + 1) * (H l * V l) := Nat.lt_mul_of_div_lt q2 hHV
      rw [z_za_succ q hq, Nat.add_mul] at c2
      have hbV : 0 < z_bz q * V l := Nat.mul_pos (by omega) hp.2
      have hbV2 : z_bz q * V l ≤ 60 * V l := Nat.mul_le_mul_right _ hb.2
      generalize hin : k - 1 - z_za q * (H l * V l) = inb at *
      have hin2 : inb < z_bz q * V l * H l := by
        have : z_bz q * (H l * V l) = z_bz q * V l * H l := by rw [Nat.mul_comm (H l), Nat.mul_assoc]
        omega
      have hm : inb / (z_bz q * V l) < H l := Nat.div_lt_of_lt_mul hin2
      generalize hme : inb / (z_bz q * V l) = m at *
      have d1 : (q * H l + m) / H l = q := by rw [Nat.mul_comm q, Nat.mul_add_div hp.1, Nat.div_eq_of_lt hm, Nat.add_zero]
      have d2 : (q * H l + m) % H l = m := by rw [Nat.mul_comm q, Nat.mul_add_mod, Nat.mod_eq_of_lt hm]
      have hqH : q * H l ≤ 43 * H l := Nat.mul_le_mul_right _ (by omega)
      have ers : z_rs (H l) (V l) (1 + q * H l + m) = 1 + (z_za q * H l + m * z_bz q) * V l := by
        unfold z_rs
        rw [if_neg (by omega), if_neg (by omega), show 1 + q * H l + m - 1 = q * H l + m by omega, d1, d2]
      have erl : z_rl (H l) (V l) (1 + q * H l + m) = z_bz q * V l := by
        unfold z_rl
        rw [if_neg (by omega), show 1 + q * H l + m - 1 = q * H l + m by omega, d1]
      have eq1 : (z_za q * H l + m * z_bz q) * V l = z_za q * (H l * V l) + m * (z_bz q * V l) := by
        rw [Nat.add_mul, Nat.mul_assoc, Nat.mul_assoc]
      have m1 : m * (z_bz q * V l) ≤ inb := by rw [← hme]; exact Nat.div_mul_le_self _ _
      have m2 : inb < m * (z_bz q * V l) + z_bz q * V l := by
        have := Nat.lt_div_mul_add (a := inb) hbV
        rw [hme] at this; exact this
      refine ⟨1 + q * H l + m, ?_, by omega, ?_, ?_⟩
      · rw [if_pos (by rw [nI_ltI (by omega) (by omega)]; omega), z_ai hl (by omega), e3, z_ai hl (by omega), e4, pk_mul, z_nm, z_sub1 (by omega), z_dv (by omega) hHV (by omega)]
        unfold f_Grid_bandOfZone
        rw [z_nm, z_nm, z_nm, show (0 : Int32) = nI 0 from rfl, z_i 43, k_bandOfZone hq q1 q2 N 0 43 0 (by omega) (by omega) (by omega) (by omega) (by omega)]
        rw [q_b1_s, q_b1_s, z_ai hq (by omega), z_zA _ hq, pk_mul, pk_sub c1, hin, z_nm, z_ai hl (by omega), e3, z_ai hq (by omega), z_bZ _ hq, z_ai hl (by omega), e4, pk_mul, z_dv (by omega) hbV (by omega), hme, pk_mul, z_i 1, nI_add, nI_add]
      · rw [ers, eq1]; omega
      · rw [ers, erl, eq1]; omega
end GRIDF
