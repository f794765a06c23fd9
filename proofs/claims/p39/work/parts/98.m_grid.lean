/-! the reference's grid -/
def MOK (R C H V : Nat → Nat) (cr cq dp wd za : Nat → Int32) : Prop := (∀ l, l < 5 → cr l = nI (R l) ∧ cq l = nI (C l) ∧ dp l = nI (H l) ∧ wd l = nI (V l)) ∧ (∀ q, q < 45 → za q = nI (z_za q)) ∧ CUT R C H V
section MG
variable {R C H V : Nat → Nat} {cr cq dp wd za : Nat → Int32} {N l : Nat}
theorem m_sheets (g : MOK R C H V cr cq dp wd za) (hl : l < 5) : f_M_sheets dp wd za (nI l) = some (nI (2130 * (H l * V l) + 2)) := by
  obtain ⟨-, -, e3, e4⟩ := g.1 l hl
  unfold f_M_sheets
  rw [z_ai hl (by omega), z_ai hl (by omega), z_i 44, z_ai (by omega) (by omega), e3, e4, g.2.1 44 (by omega), z_za_44, pk_mul, pk_mul, z_i 2, nI_add, Nat.add_comm, Nat.mul_comm _ 2130]
theorem m_zonesOf : ∀ q, q < 44 → f_M_zonesOf (nI q) = some (nI (z_bz q)) := by decide +kernel
theorem m_lastRow (g : MOK R C H V cr cq dp wd za) (hl : l < 5) : f_M_lastRow dp (nI l) = some (nI (44 * H l + 1)) := by
  have hv := g.2.2.hv hl
  obtain ⟨-, -, e3, e4⟩ := g.1 l hl
  unfold f_M_lastRow f_M_rows
  rw [z_ai hl (by omega), e3, z_i 44, pk_mul, z_i 2, nI_add, q_b1_s, z_sub1 (by omega), show 2 + 44 * H l - 1 = 44 * H l + 1 by omega]
theorem m_bandOf (g : MOK R C H V cr cq dp wd za) (hl : l < 5) {r : Nat} (h1 : 1 ≤ r) (hr : r ≤ 44 * H l) : f_M_bandOf dp (nI l) (nI r) = some (nI ((r - 1) / H l)) := by
  have hv := g.2.2.hv hl
  have hp := g.2.2.pos l hl
  obtain ⟨-, -, e3, e4⟩ := g.1 l hl
  unfold f_M_bandOf
  rw [z_ai hl (by omega), e3, z_sub1 h1, z_dv (by omega) (by omega) (by omega)]
theorem m_many (g : MOK R C H V cr cq dp wd za) (hl : l < 5) {r : Nat} (hr : r ≤ 44 * H l + 1) : f_M_many dp wd (nI l) (nI r) = some (nI (z_rl (H l) (V l) r)) := by
  have hv := g.2.2.hv hl
  have hp := g.2.2.pos l hl
  obtain ⟨-, -, e3, e4⟩ := g.1 l hl
  unfold f_M_many z_rl
  rw [z_j0]
  by_cases h0 : r = 0
  · subst h0; rw [if_pos (by decide), if_pos (Or.inl rfl)]; rfl
  · rw [if_neg (by rw [z_eq0 (by omega)]; exact h0), m_lastRow g hl, q_b1_s]
    by_cases h1 : r = 44 * H l + 1
    · rw [if_pos (by rw [h1]), if_pos (Or.inr h1)]; rfl
    · have hq := z_q (r := r) (H := H l) (by omega) (by omega)
      rw [if_neg (by rw [nI_eq (by omega) (by omega)]; exact h1), if_neg (by omega), m_bandOf g hl (by omega) (by omega), q_b1_s, m_zonesOf _ hq, q_b1_s, z_ai hl (by omega), e4, pk_mul]
theorem m_keyOf (g : MOK R C H V cr cq dp wd za) (hl : l < 5) {r p : Nat} (hr : r ≤ 44 * H l + 1) (hp0 : p < z_rl (H l) (V l) r) : f_M_keyOf dp wd za (nI l) (nI r) (nI p) = some (nI (z_rs (H l) (V l) r + p)) := by
  have hv := g.2.2.hv hl
  have hp := g.2.2.pos l hl
  obtain ⟨-, -, e3, e4⟩ := g.1 l hl
  unfold f_M_keyOf
  unfold z_rl at hp0
  unfold z_rs
  by_cases h0 : r = 0
  · subst h0
    rw [if_pos (Or.inl rfl)] at hp0
    have : p = 0 := by omega
    subst this
    rw [if_pos (by decide), if_pos rfl]; rfl
  · rw [if_neg (by rw [z_eq0 (by omega)]; exact h0), if_neg h0, m_lastRow g hl, q_b1_s]
    by_cases h1 : r = 44 * H l + 1
    · rw [if_pos (Or.inr h1)] at hp0
      have : p = 0 := by omega
      subst this
      rw [if_pos (by rw [h1]), if_pos h1, m_sheets g hl, q_b1_s, z_sub1 (by omega), Nat.add_sub_assoc (by omega)]
    · have hq := z_q (r := r) (H := H l) (by omega) (by omega)
      rw [if_neg (by rw [nI_eq (by omega) (by omega)]; exact h1), if_neg h1, m_bandOf g hl (by omega) (by omega), q_b1_s, z_ai hl (by omega), z_ai hl (by omega), z_ai (by omega) (by omega), m_zonesOf _ hq, q_b1_s, z_ai hl (by omega), e3, e4, g.2.1 _ (by omega), z_sub1 (by omega), z_rm (by omega) (by omega) (by omega), pk_mul, pk_mul, nI_add, pk_mul, z_i 1, nI_add, nI_add]
      congr 3
      rw [Nat.mul_comm (H l), Nat.mul_comm (z_bz _), Nat.mul_comm (V l)]
theorem m_rowOf_L {each q k : Nat} (he : each ≤ 9390) (hq : q < 44) (hza : ∀ q, q < 45 → za q = nI (z_za q)) (h1 : each * z_za q ≤ k) (h2 : k < each * z_za (q + 1)) (hk : k < 20000000) : ∀ n i, i ≤ q → q - i < n → f_M_rowOf_L40 za (nI (k + 1)) (nI each) n (nI i) = some (nI q) := by
  intro n
  induction n with
  | zero => intro i _ h; omega
  | succ n ih =>
    intro i hi hn
    have hb : each * z_za (i + 1) ≤ 9390 * 2130 := Nat.mul_le_mul he (z_za_le (i + 1) (by omega))
    rw [f_M_rowOf_L40, nI_1, z_ai (by omega) (by omega), hza _ (by omega), pk_mul, z_sub1 (by omega), Nat.add_sub_cancel]
    by_cases hc : i = q
    · subst hc
      rw [if_pos (by rw [nI_ltI (by omega) (by omega)]; exact h2)]
    · have hm : each * z_za (i + 1) ≤ each * z_za q := by
        apply Nat.mul_le_mul_left
        rcases Nat.lt_or_ge (i + 1) q with h | h
        · exact Nat.le_of_lt (z_za_mono q (by omega) _ h)
        · have : i + 1 = q := by omega
          rw [this]; exact Nat.le_refl _
      rw [if_neg (by rw [nI_ltI (by omega) (by omega)]; omega), z_nm]
      exact ih (i + 1) (by omega) (by omega)
theorem m_rowOf (g : MOK R C H V cr cq dp wd za) (hN : 50 ≤ N) (hl : l < 5) {k : Nat} (hk : k < 2130 * (H l * V l) + 2) : ∃ r, f_M_rowOf N dp wd za (nI l) (nI k) = some (nI r) ∧ r ≤ 44 * H l + 1 ∧ z_rs (H l) (V l) r ≤ k ∧ k < z_rs (H l) (V l) r + z_rl (H l) (V l) r := by
  obtain ⟨-, -, e3, e4⟩ := g.1 l hl
  have hv := g.2.2.hv hl
  have hp := g.2.2.pos l hl
  have hs := g.2.2.sh hl
  unfold f_M_rowOf
  by_cases h0 : k = 0
  · subst h0
    refine ⟨0, ?_, by omega, ?_, ?_⟩
    · rw [if_pos (by decide)]; rfl
    · unfold z_rs; rw [if_pos rfl]; omega
    · unfold z_rs z_rl; rw [if_pos rfl, if_pos (Or.inl rfl)]; omega
  · rw [if_neg (by rw [z_eq0 (by omega)]; exact h0), m_sheets g hl, q_b1_s, z_sub1 (by omega)]
    by_cases h1 : k = 2130 * (H l * V l) + 1
    · refine ⟨44 * H l + 1, ?_, Nat.le_refl _, ?_, ?_⟩
      · rw [if_pos (by rw [h1, Nat.add_sub_assoc (by omega)]), m_lastRow g hl, q_b1_s]
      · rw [z_rs_last hp.1]; omega
      · rw [z_rs_last hp.1, z_rl_last]; omega
    · have hHV : 0 < H l * V l := Nat.mul_pos hp.1 hp.2
      have hz : (k - 1) / (H l * V l) < 2130 := Nat.div_lt_of_lt_mul (by rw [Nat.mul_comm]; omega)
      obtain ⟨q, hq, q1, q2⟩ := z_band_ex _ hz
      have hb := z_bz_in q hq
      have c1 : z_za q * (H l * V l) ≤ k - 1 := by
        have := Nat.mul_le_mul_right (H l * V l) q1
        have := Nat.div_mul_le_self (k - 1) (H l * V l)
        omega
      have c2 : k - 1 < z_za (q + 1) * (H l * V l) := Nat.lt_mul_of_div_lt q2 hHV
      have c2' := c2
      rw [z_za_succ q hq, Nat.add_mul] at c2
      have hL := m_rowOf_L (za := za) (each := H l * V l) (q := q) (k := k - 1) hv.2.2 hq g.2.1 (by rw [Nat.mul_comm]; exact c1) (by rw [Nat.mul_comm]; exact c2') (by omega) N 0 (by omega) (by omega)
      rw [show k - 1 + 1 = k by omega] at hL
      have hbV : 0 < z_bz q * V l := Nat.mul_pos (by omega) hp.2
      have hbV2 : z_bz q * V l ≤ 60 * V l := Nat.mul_le_mul_right _ hb.2
      generalize hin : k - 1 - z_za q * (H l * V l) = inb at *
      have hin2 : inb < z_bz q * V l * H l := by
        have : z_bz q * (H l * V l) = z_bz q * V l * H l := by rw [Nat.mul_comm (H l), Nat.mul_assoc]
        omega
      have hm : inb / (z_bz q * V l) < H l := Nat.div_lt_of_lt_mul hin2
      generalize hme : inb / (z_bz q * V l) = m at *
      have d1 : (q * H l + m) / H l = q := by rw [Nat.mul_comm q, Nat.mul_add_div hp.1, Nat.div_eq_of_lt hm, Nat.add_zero]
      have d2 : (q * H l + m) % H l = m := by rw [Nat.mul_comm q, Nat.mul_add_mod, Nat.mod_eq_of_lt hm]
      have hqH : q * H l ≤ 43 * H l := Nat.mul_le_mul_right _ (by omega)
      have ers : z_rs (H l) (V l) (1 + q * H l + m) = 1 + (z_za q * H l + m * z_bz q) * V l := by
        unfold z_rs
        rw [if_neg (by omega), if_neg (by omega), show 1 + q * H l + m - 1 = q * H l + m by omega, d1, d2]
      have erl : z_rl (H l) (V l) (1 + q * H l + m) = z_bz q * V l := by
        unfold z_rl
        rw [if_neg (by omega), show 1 + q * H l + m - 1 = q * H l + m by omega, d1]
      have eq1 : (z_za q * H l + m * z_bz q) * V l = z_za q * (H l * V l) + m * (z_bz q * V l) := by
        rw [Nat.add_mul, Nat.mul_assoc, Nat.mul_assoc]
      have m1 : m * (z_bz q * V l) ≤ inb := by rw [← hme]; exact Nat.div_mul_le_self _ _
      have m2 : inb < m * (z_bz q * V l) + z_bz q * V l := by
        have := Nat.lt_div_mul_add (a := inb) hbV
        rw [hme] at this; exact this
      refine ⟨1 + q * H l + m, ?_, by omega, ?_, ?_⟩
      · rw [if_neg (by rw [nI_eq (by omega) (by omega)]; omega), z_nm, z_ai hl (by omega), e3, z_ai hl (by omega), e4, pk_mul, z_nm, show (0 : Int32) = nI 0 from rfl, hL, q_b1_s, z_ai hl (by omega), e3, z_ai (by omega) (by omega), g.2.1 q (by omega), m_zonesOf q hq, q_b1_s, z_ai hl (by omega), e4, z_sub1 (by omega), pk_mul, Nat.mul_comm (H l * V l), pk_sub c1, hin, pk_mul, z_dv (by omega) hbV (by omega), hme, pk_mul, z_i 1, nI_add, nI_add]
      · rw [ers, eq1]; omega
      · rw [ers, erl, eq1]; omega
theorem m_placeOf (g : MOK R C H V cr cq dp wd za) (hN : 50 ≤ N) (hl : l < 5) {k r : Nat} (hr : r ≤ 44 * H l + 1) (h1 : z_rs (H l) (V l) r ≤ k) (h2 : k < z_rs (H l) (V l) r + z_rl (H l) (V l) r) : f_M_rowOf N dp wd za (nI l) (nI k) = some (nI r) ∧ f_M_placeOf N dp wd za (nI l) (nI k) = some (nI (k - z_rs (H l) (V l) r)) := by
  have hp := g.2.2.pos l hl
  have he := z_rs_end (V := V l) hp.1 hr
  obtain ⟨r2, e, a1, a2, a3⟩ := m_rowOf (N := N) g hN hl (k := k) (by omega)
  have : r2 = r := z_row_one hp.1 a1 hr a2 a3 h1 h2
  subst this
  refine ⟨e, ?_⟩
  unfold f_M_placeOf
  rw [e, q_b1_s, show (0 : Int32) = nI 0 from rfl, m_keyOf g hl hr (by omega), q_b1_s, Nat.add_zero, pk_sub h1]
end MG
