section
/-! the reference's grid -/
def MOK (R C H V : Nat → Nat) (cr cq dp wd za : Nat → Int32) : Prop := (∀ l, l < 5 → cr l = nI (R l) ∧ cq l = nI (C l) ∧ dp l = nI (H l) ∧ wd l = nI (V l)) ∧ (∀ q, q < 45 → za q = nI (z_za q)) ∧ CUT R C H V
section MG
variable {R C H V : Nat → Nat} {cr cq dp wd za : Nat → Int32} {N l : Nat}
theorem m_sheets (g : MOK R C H V cr cq dp wd za) (hl : l < 5) : f_M_sheets dp wd za (nI l) = some (nI (2130 * (H l * V l) + 2)) := by
  obtain ⟨-, -, e3, e4⟩ := g.1 l hl
  unfold f_M_sheets
  rw [z_ai hl (by omega), z_ai hl (by omega), z_i 44, z_ai (by omega) (by omega), e3, e4, g.2.1 44 (by omega), z_za_44, pk_mul, pk_mul, z_i 2, nI_add, Nat.add_comm, Nat.mul_comm _ 2130]
theorem m_zonesOf : ∀ q, q < 44 → f_M_zonesOf (nI q) = some (nI (z_bz q)) := by decide +kernel
theorem m_lastRow (g : MOK R C H V cr cq dp wd za) (hl : l < 5) : f_M_lastRow dp (nI l) = some (nI (44 * H l + 1)) := by
  have hv := g.2.2.hv hl
  obtain ⟨-, -, e3, e4⟩ := g.1 l hl
  unfold f_M_lastRow f_M_rows
  rw [z_ai hl (by omega), e3, z_i 44, pk_mul, z_i 2, nI_add, q_b1_s, z_sub1 (by omega), show 2 + 44 * H l - 1 = 44 * H l + 1 by omega]
theorem m_bandOf (g : MOK R C H V cr cq dp wd za) (hl : l < 5) {r : Nat} (h1 : 1 ≤ r) (hr : r ≤ 44 * H l) : f_M_bandOf dp (nI l) (nI r) = some (nI ((r - 1) / H l)) := by
  have hv := g.2.2.hv hl
  have hp := g.2.2.pos l hl
  obtain ⟨-, -, e3, e4⟩ := g.1 l hl
  unfold f_M_bandOf
  rw [z_ai hl (by omega), e3, z_sub1 h1, z_dv (by omega) (by omega) (by omega)]
theorem m_many (g : MOK R C H V cr cq dp wd za) (hl : l < 5) {r : Nat} (hr : r ≤ 44 * H l + 1) : f_M_many dp wd (nI l) (nI r) = some (nI (z_rl (H l) (V l) r)) := by
  have hv := g.2.2.hv hl
  have hp := g.2.2.pos l hl
  obtain ⟨-, -, e3, e4⟩ := g.1 l hl
  unfold f_M_many z_rl
  rw [z_j0]
  by_cases h0 : r = 0
  · subst h0; rw [if_pos (by decide), if_pos (Or.inl rfl)]; rfl
  · rw [if_neg (by rw [z_eq0 (by omega)]; exact h0), m_lastRow g hl, q_b1_s]
    by_cases h1 : r = 44 * H l + 1
    · rw [if_pos (by rw [h1]), if_pos (Or.inr h1)]; rfl
    · have hq := z_q (r := r) (H := H l) (by omega) (by omega)
      rw [if_neg (by rw [nI_eq (by omega) (by omega)]; exact h1), if_neg (by omega), m_bandOf g hl (by omega) (by omega), q_b1_s, m_zonesOf _ hq, q_b1_s, z_ai hl (by omega), e4, pk_mul]
theorem m_keyOf (g : MOK R C H V cr cq dp wd za) (hl : l < 5) {r p : Nat} (hr : r ≤ 44 * H l + 1) (hp0 : p < z_rl (H l) (V l) r) : f_M_keyOf dp wd za (nI l) (nI r) (nI p) = some (nI (z_rs (H l) (V l) r + p)) := by
  have hv := g.2.2.hv hl
  have hp := g.2.2.pos l hl
  obtain ⟨-, -, e3, e4⟩ := g.1 l hl
  unfold f_M_keyOf
  unfold z_rl at hp0
  unfold z_rs
  by_cases h0 : r = 0
  · subst h0
    rw [if_pos (Or.inl rfl)] at hp0
    have : p = 0 := by omega
    subst this
    rw [if_pos (by decide), if_pos rfl]; rfl
  · rw [if_neg (by rw [z_eq0 (by omega)]; exact h0), if_neg h0, m_lastRow g hl, q_b1_s]
    by_cases h1 : r = 44 * H l + 1
    · rw [if_pos (Or.inr h1)] at hp0
      have : p = 0 := by omega
      subst this
      rw [if_pos (by rw [h1]), if_pos h1, m_sheets g hl, q_b1_s, z_sub1 (by omega), Nat.add_sub_assoc (by omega)]
    · have hq := z_q (r := r) (H := H l) (by omega) (by omega)
      rw [if_neg (by rw [nI_eq (by omega) (by omega)]; exact h1), if_neg h1, m_bandOf g hl (by omega) (by omega), q_b1_s, z_ai hl (by omega), z_ai hl (by omega), z_ai (by omega) (by omega), m_zonesOf _ hq, q_b1_s, z_ai hl (by omega), e3, e4, g.2.1 _ (by omega), z_sub1 (by omega), z_rm (by omega) (by omega) (by omega), pk_mul, pk_mul, nI_add, pk_mul, z_i 1, nI_add, nI_add]
      congr 3
      rw [Nat.mul_comm (H l), Nat.mul_comm (z_bz _), Nat.mul_comm (V l)]
theorem m_rowOf_L {each q k : Nat} (he : each ≤ 9390) (hq : q < 44) (hza : ∀ q, q < 45 → za q = nI (z_za q)) (h1 : each * z_za q ≤ k) (h2 : k < each * z_za (q + 1)) (hk : k < 20000000) : ∀ n i, i ≤ q → q - i < n → f_M_rowOf_L40 za (nI (k + 1)) (nI each) n (nI i) = some (nI q) := by
  intro n
  induction n with
  | zero => intro i _ h; omega
  | succ n ih =>
    intro i hi hn
    have hb : each * z_za (i + 1) ≤ 9390 * 2130 := Nat.mul_le_mul he (z_za_le (i + 1) (by omega))
    rw [f_M_rowOf_L40, nI_1, z_ai (by omega) (by omega), hza _ (by omega), pk_mul, z_sub1 (by omega), Nat.add_sub_cancel]
    by_cases hc : i = q
    · subst hc
      rw [if_pos (by rw [nI_ltI (by omega) (by omega)]; exact h2)]
    · have hm : each * z_za (i + 1) ≤ each * z_za q := by
        apply Nat.mul_le_mul_left
        rcases Nat.lt_or_ge (i + 1) q with h | h
        · exact Nat.le_of_lt (z_za_mono q (by omega) _ h)
        · have : i + 1 = q := by omega
          rw [this]; exact Nat.le_refl _
      rw [if_neg (by rw [nI_ltI (by omega) (by omega)]; omega), z_nm]
      exact ih (i + 1) (by omega) (by omega)
theorem m_rowOf (g : MOK R C H V cr cq dp wd za) (hN : 50 ≤ N) (hl : l < 5) {k : Nat} (hk : k < 2130 * (H l * V l) + 2) : ∃ r, f_M_rowOf N dp wd za (nI l) (nI k) = some (nI r) ∧ r ≤ 44 * H l + 1 ∧ z_rs (H l) (V l) r ≤ k ∧ k < z_rs (H l) (V l) r + z_rl (H l) (V l) r := by
  obtain ⟨-, -, e3, e4⟩ := g.1 l hl
  have hv := g.2.2.hv hl
  have hp := g.2.2.pos l hl
  have hs := g.2.2.sh hl
  unfold f_M_rowOf
  by_cases h0 : k = 0
  · subst h0
    refine ⟨0, ?_, by omega, ?_, ?_⟩
    · rw [if_pos (by decide)]; rfl
    · unfold z_rs; rw [if_pos rfl]; omega
    · unfold z_rs z_rl; rw [if_pos rfl, if_pos (Or.inl rfl)]; omega
  · rw [if_neg (by rw [z_eq0 (by omega)]; exact h0), m_sheets g hl, q_b1_s, z_sub1 (by omega)]
    by_cases h1 : k = 2130 * (H l * V l) + 1
    · refine ⟨44 * H l + 1, ?_, Nat.le_refl _, ?_, ?_⟩
      · rw [if_pos (by rw [h1, Nat.add_sub_assoc (by omega)]), m_lastRow g hl, q_b1_s]
      · rw [z_rs_last hp.1]; omega
      · rw [z_rs_last hp.1, z_rl_last]; omega
    · have hHV : 0 < H l * V l := Nat.mul_pos hp.1 hp.2
      have hz : (k - 1) / (H l * V l) < 2130 := Nat.div_lt_of_lt_mul (by rw [Nat.mul_comm]; omega)
      obtain ⟨q, hq, q1, q2⟩ := z_band_ex _ hz
      have hb := z_bz_in q hq
      have c1 : z_za q * (H l * V l) ≤ k - 1 := by
        have := Nat.mul_le_mul_right (H l * V l) q1
        have := Nat.div_mul_le_self (k - 1) (H l * V l)
        omega
      have c2 : k - 1 < z_za (q + 1) * (H l * V l) := Nat.lt_mul_of_div_lt q2 hHV
      have c2' := c2
      rw [z_za_succ q hq, Nat.add_mul] at c2
      have hL := m_rowOf_L (za := za) (each := H l * V l) (q := q) (k := k - 1) hv.2.2 hq g.2.1 (by rw [Nat.mul_comm]; exact c1) (by rw [Nat.mul_comm]; exact c2') (by omega) N 0 (by omega) (by omega)
      rw [show k - 1 + 1 = k by omega] at hL
      have hbV : 0 < z_bz q * V l := Nat.mul_pos (by omega) hp.2
      have hbV2 : z_bz q * V l ≤ 60 * V l := Nat.mul_le_mul_right _ hb.2
      generalize hin : k - 1 - z_za q * (H l * V l) = inb at *
      have hin2 : inb < z_bz q * V l * H l := by
        have : z_bz q * (H l * V l) = z_bz q * V l * H l := by rw [Nat.mul_comm (H l), Nat.mul_assoc]
        omega
      have hm : inb / (z_bz q * V l) < H l := Nat.div_lt_of_lt_mul hin2
      generalize hme : inb / (z_bz q * V l) = m at *
      have d1 : (q * H l + m) / H l = q := by rw [Nat.mul_comm q, Nat.mul_add_div hp.1, Nat.div_eq_of_lt hm, Nat.add_zero]
      have d2 : (q * H l + m) % H l = m := by rw [Nat.mul_comm q, Nat.mul_add_mod, Nat.mod_eq_of_lt hm]
      have hqH : q * H l ≤ 43 * H l := Nat.mul_le_mul_right _ (by omega)
      have ers : z_rs (H l) (V l) (1 + q * H l + m) = 1 + (z_za q * H l + m * z_bz q) * V l := by
        unfold z_rs
        rw [if_neg (by omega), if_neg (by omega), show 1 + q * H l + m - 1 = q * H l + m by omega, d1, d2]
      have erl : z_rl (H l) (V l) (1 + q * H l + m) = z_bz q * V l := by
        unfold z_rl
        rw [if_neg (by omega), show 1 + q * H l + m - 1 = q * H l + m by omega, d1]
      have eq1 : (z_za q * H l + m * z_bz q) * V l = z_za q * (H l * V l) + m * (z_bz q * V l) := by
        rw [Nat.add_mul, Nat.mul_assoc, Nat.mul_assoc]
      have m1 : m * (z_bz q * V l) ≤ inb := by rw [← hme]; exact Nat.div_mul_le_self _ _
      have m2 : inb < m * (z_bz q * V l) + z_bz q * V l := by
        have := Nat.lt_div_mul_add (a := inb) hbV
        rw [hme] at this; exact this
      refine ⟨1 + q * H l + m, ?_, by omega, ?_, ?_⟩
      · rw [if_neg (by rw [nI_eq (by omega) (by omega)]; omega), z_nm, z_ai hl (by omega), e3, z_ai hl (by omega), e4, pk_mul, z_nm, show (0 : Int32) = nI 0 from rfl, hL, q_b1_s, z_ai hl (by omega), e3, z_ai (by omega) (by omega), g.2.1 q (by omega), m_zonesOf q hq, q_b1_s, z_ai hl (by omega), e4, z_sub1 (by omega), pk_mul, Nat.mul_comm (H l * V l), pk_sub c1, hin, pk_mul, z_dv (by omega) hbV (by omega), hme, pk_mul, z_i 1, nI_add, nI_add]
      · rw [ers, eq1]; omega
      · rw [ers, erl, eq1]; omega
theorem m_placeOf (g : MOK R C H V cr cq dp wd za) (hN : 50 ≤ N) (hl : l < 5) {k r : Nat} (hr : r ≤ 44 * H l + 1) (h1 : z_rs (H l) (V l) r ≤ k) (h2 : k < z_rs (H l) (V l) r + z_rl (H l) (V l) r) : f_M_rowOf N dp wd za (nI l) (nI k) = some (nI r) ∧ f_M_placeOf N dp wd za (nI l) (nI k) = some (nI (k - z_rs (H l) (V l) r)) := by
  have hp := g.2.2.pos l hl
  have he := z_rs_end (V := V l) hp.1 hr
  obtain ⟨r2, e, a1, a2, a3⟩ := m_rowOf (N := N) g hN hl (k := k) (by omega)
  have : r2 = r := z_row_one hp.1 a1 hr a2 a3 h1 h2
  subst this
  refine ⟨e, ?_⟩
  unfold f_M_placeOf
  rw [e, q_b1_s, show (0 : Int32) = nI 0 from rfl, m_keyOf g hl hr (by omega), q_b1_s, Nat.add_zero, pk_sub h1]
end MG
end
section
/-! the reference's neighbours -/
theorem z_cmplt {x y : Int64} : lg_cmp x y < 0 ↔ x.toInt < y.toInt := by
  unfold lg_cmp
  by_cases h1 : x > y
  · have := Int64.lt_iff_toInt_lt.mp h1
    rw [if_pos h1]; exact ⟨fun h => absurd h (by decide), fun h => by omega⟩
  · have h1' : ¬ y.toInt < x.toInt := fun z => h1 (Int64.lt_iff_toInt_lt.mpr z)
    rw [if_neg h1]
    by_cases h2 : x = y
    · rw [if_pos h2, h2]; exact ⟨fun h => absurd h (by decide), fun h => by omega⟩
    · rw [if_neg h2]
      have h3 : x.toInt ≠ y.toInt := fun h => h2 (Int64.toInt_inj.mp h)
      exact ⟨fun _ => by omega, fun _ => by decide⟩
theorem z_cmpgt {x y : Int64} : 0 < lg_cmp x y ↔ y.toInt < x.toInt := by
  unfold lg_cmp
  by_cases h1 : x > y
  · have := Int64.lt_iff_toInt_lt.mp h1
    rw [if_pos h1]; exact ⟨fun _ => by omega, fun _ => by decide⟩
  · have h1' : ¬ y.toInt < x.toInt := fun z => h1 (Int64.lt_iff_toInt_lt.mpr z)
    rw [if_neg h1]
    by_cases h2 : x = y
    · rw [if_pos h2]; exact ⟨fun h => absurd h (by decide), fun h => by omega⟩
    · rw [if_neg h2]; exact ⟨fun h => absurd h (by decide), fun h => by omega⟩
theorem m_in (x a b : Int64) : f_M_in x a b = some (if a.toInt ≤ x.toInt ∧ x.toInt ≤ b.toInt then 1 else 0) := by
  unfold f_M_in
  by_cases h1 : lg_cmp x a < 0
  · rw [if_pos h1]; have := z_cmplt.mp h1; rw [if_neg (by omega)]
  · have h1' : ¬ x.toInt < a.toInt := fun z => h1 (z_cmplt.mpr z)
    rw [if_neg h1]
    by_cases h2 : 0 < lg_cmp x b
    · rw [if_pos h2]; have := z_cmpgt.mp h2; rw [if_neg (by omega)]
    · have h2' : ¬ b.toInt < x.toInt := fun z => h2 (z_cmpgt.mpr z)
      rw [if_neg h2, if_pos (by omega)]
/-- two sheets beside each other: keys by rows and places -/
def z_adj (H0 V0 : Nat) (k k2 : Nat) : Prop := ∃ r p r2 p2, r ≤ 44 * H0 + 1 ∧ r2 ≤ 44 * H0 + 1 ∧ p < z_rl H0 V0 r ∧ p2 < z_rl H0 V0 r2 ∧ k = z_rs H0 V0 r + p ∧ k2 = z_rs H0 V0 r2 + p2 ∧
  (((r2 = r + 1 ∨ r = r2 + 1) ∧ p * z_rl H0 V0 r2 < (p2 + 1) * z_rl H0 V0 r ∧ p2 * z_rl H0 V0 r < (p + 1) * z_rl H0 V0 r2) ∨ (r2 = r ∧ z_rl H0 V0 r ≠ 1 ∧ ((p + 1) % z_rl H0 V0 r = p2 ∨ (p2 + 1) % z_rl H0 V0 r = p)))
theorem z_adj_symm {H0 V0 k k2 : Nat} (h : z_adj H0 V0 k k2) : z_adj H0 V0 k2 k := by
  obtain ⟨r, p, r2, p2, h1, h2, h3, h4, h5, h6, h7⟩ := h
  refine ⟨r2, p2, r, p, h2, h1, h4, h3, h6, h5, ?_⟩
  rcases h7 with ⟨a, b, c⟩ | ⟨a, b, c⟩
  · exact Or.inl ⟨by omega, c, b⟩
  · subst a; exact Or.inr ⟨rfl, b, by omega⟩
section ML
variable {R C H V : Nat → Nat} {cr cq dp wd za : Nat → Int32} {N l : Nat}
/-- to the row ahead or behind -/
theorem m_laysV (g : MOK R C H V cr cq dp wd za) (hN : 50 ≤ N) (hl : l < 5) {r p b : Nat} (hr : r ≤ 44 * H l + 1) (hp : p < z_rl (H l) (V l) r) (hb : b ≤ 44 * H l + 1) (fb mb : Int32) {i : Nat} (hi : (i = 0 ∧ r = b + 1) ∨ (i = 2 ∧ b = r + 1)) :
    f_M_laysBeside N dp wd za fb mb (nI l) (nI (z_rs (H l) (V l) r + p)) (nI i) = some (nI (z_rs (H l) (V l) b + p * z_rl (H l) (V l) b / z_rl (H l) (V l) r), nI (((p + 1) * z_rl (H l) (V l) b + z_rl (H l) (V l) r - 1) / z_rl (H l) (V l) r - p * z_rl (H l) (V l) b / z_rl (H l) (V l) r)) := by
  have hv := g.2.2.hv hl
  have hps := g.2.2.pos l hl
  have la := z_rl_pos hps.1 hps.2 hr
  have lb := z_rl_pos hps.1 hps.2 hb
  have hre := z_rs_end (V := V l) hps.1 hr
  obtain ⟨e1, e2⟩ := m_placeOf (N := N) g hN hl hr (k := z_rs (H l) (V l) r + p) (by omega) (by omega)
  have e3 := m_many g hl hr
  have e4 := m_many g hl hb
  have e5 := fun x hx => m_keyOf g hl hb (p := x) hx
  rw [show z_rs (H l) (V l) r + p - z_rs (H l) (V l) r = p by omega] at e2
  generalize hA : z_rl (H l) (V l) r = a at *
  generalize hB : z_rl (H l) (V l) b = t at *
  have m1 : p * t + t ≤ a * t := by
    have := Nat.mul_le_mul_right t (show p + 1 ≤ a by omega)
    rw [Nat.add_mul, Nat.one_mul] at this; exact this
  have m2 : a * t ≤ (60 * V l) * t := Nat.mul_le_mul_right t la.2
  have m3 : (60 * V l) * t ≤ (60 * V l) * (60 * V l) := Nat.mul_le_mul_left _ lb.2
  have m4 : (60 * V l) * (60 * V l) ≤ (60 * 9390) * (60 * 9390) := Nat.mul_le_mul (by omega) (by omega)
  have e6 : (p + 1) * t = p * t + t := by rw [Nat.add_mul, Nat.one_mul]
  have hd : p * t / a < t := by
    apply Nat.div_lt_of_lt_mul; omega
  have hd2 : p * t / a ≤ ((p + 1) * t + a - 1) / a := Nat.div_le_div_right (by omega)
  have hd3 : ((p + 1) * t + a - 1) / a ≤ t := by
    rw [Nat.div_le_iff_le_mul_add_pred (by omega)]; omega
  have hrow : ∀ x, x = nI b → (q_b1 (f_M_lastRow dp (nI l)) (fun (v6 : Int32) =>
    q_b1 (f_M_in (x : Int32).toInt64 0 v6.toInt64) (fun (v7 : Int32) =>
    if v7 = 0 then (
    some (fb, 0)) else (
    q_b1 (f_M_many dp wd (nI l) x) (fun (v8 : Int32) =>
    q_nm (v8.toInt64 : Int64) (fun (v9 : Int64) =>
    q_dvl ((nI p).toInt64 * v9) (nI a).toInt64 (fun (v10 : Int64) =>
    q_dvl (((((nI p + 1).toInt64) * v9) + (nI a).toInt64) - 1) (nI a).toInt64 (fun (v11 : Int64) =>
    q_b1 (f_M_keyOf dp wd za (nI l) x v10.toInt32) (fun (v12 : Int32) =>
    q_nm ((v11 - v10).toInt32 : Int32) (fun (v13 : Int32) =>
    some (v12, v13)))))))))) : Option (Int32 × Int32)) = some (nI (z_rs (H l) (V l) b + p * t / a), nI (((p + 1) * t + a - 1) / a - p * t / a)) := by
    intro x hx
    subst hx
    have hin : f_M_in (nI b).toInt64 0 (nI (44 * H l + 1)).toInt64 = some 1 := by
      rw [m_in, z_i64 (by omega), z_i64 (by omega), show (0 : Int64).toInt = 0 from rfl, if_pos (by omega)]
    rw [m_lastRow g hl, q_b1_s, hin, q_b1_s, if_neg (by decide), e4, q_b1_s, z_nm, nI_1, nI_l (by omega), nI_l (by omega), nI_l (by omega), nI_l (by omega), lN_mul, z_dvl (by omega) (by omega) (by omega), lN_mul, lN_add, z_l 1, lN_sub (by omega), z_dvl (by omega) (by omega) (by omega), lN_i, e5 _ hd, q_b1_s, z_nm, lN_sub hd2, lN_i]
  unfold f_M_laysBeside
  rw [e1, q_b1_s, e2, q_b1_s, e3, q_b1_s]
  rcases hi with ⟨rfl, hrb⟩ | ⟨rfl, hrb⟩
  · rw [z_i 2, z_rm (by omega) (by omega) (by omega), if_neg (by decide), z_j1, if_pos (by decide)]
    exact hrow _ (by rw [z_sub1 (by omega)]; congr 1; omega)
  · rw [z_i 2, z_rm (by omega) (by omega) (by omega), if_neg (by decide), z_j1, if_neg (by decide)]
    exact hrow _ (by rw [nI_1, hrb])
/-- no row there -/
theorem m_lays0 (g : MOK R C H V cr cq dp wd za) (hN : 50 ≤ N) (hl : l < 5) {r p : Nat} (hr : r ≤ 44 * H l + 1) (hp : p < z_rl (H l) (V l) r) (fb mb : Int32) {i : Nat} (hi : (i = 0 ∧ r = 0) ∨ (i = 2 ∧ r = 44 * H l + 1)) :
    f_M_laysBeside N dp wd za fb mb (nI l) (nI (z_rs (H l) (V l) r + p)) (nI i) = some (fb, 0) := by
  have hv := g.2.2.hv hl
  have hps := g.2.2.pos l hl
  have hre := z_rs_end (V := V l) hps.1 hr
  obtain ⟨e1, e2⟩ := m_placeOf (N := N) g hN hl hr (k := z_rs (H l) (V l) r + p) (by omega) (by omega)
  have e3 := m_many g hl hr
  unfold f_M_laysBeside
  rw [e1, q_b1_s, e2, q_b1_s, e3, q_b1_s]
  rcases hi with ⟨rfl, hrb⟩ | ⟨rfl, hrb⟩
  · rw [z_i 2, z_rm (by omega) (by omega) (by omega), if_neg (by decide), z_j1, if_pos (by decide)]
    dsimp only
    rw [m_lastRow g hl, q_b1_s, m_in, hrb, z_i64 (by omega), show (nI 0 - 1).toInt64.toInt = -1 by decide, show (0 : Int64).toInt = 0 from rfl, if_neg (by omega), q_b1_s, if_pos rfl]
  · rw [z_i 2, z_rm (by omega) (by omega) (by omega), if_neg (by decide), z_j1, if_neg (by decide)]
    dsimp only
    rw [m_lastRow g hl, q_b1_s, nI_1, m_in, z_i64 (by omega), z_i64 (by omega), if_neg (by omega), q_b1_s, if_pos rfl]
/-- along its own row -/
theorem m_laysH (g : MOK R C H V cr cq dp wd za) (hN : 50 ≤ N) (hl : l < 5) {r p : Nat} (hr : r ≤ 44 * H l + 1) (hp : p < z_rl (H l) (V l) r) (fb mb : Int32) {i by1 : Nat} (hi : (i = 1 ∧ by1 = 1) ∨ (i = 3 ∧ by1 = z_rl (H l) (V l) r - 1)) :
    f_M_laysBeside N dp wd za fb mb (nI l) (nI (z_rs (H l) (V l) r + p)) (nI i) = some (if z_rl (H l) (V l) r = 1 then (fb, 0) else (nI (z_rs (H l) (V l) r + (p + by1) % z_rl (H l) (V l) r), 1)) := by
  have hv := g.2.2.hv hl
  have hps := g.2.2.pos l hl
  have la := z_rl_pos hps.1 hps.2 hr
  have hre := z_rs_end (V := V l) hps.1 hr
  obtain ⟨e1, e2⟩ := m_placeOf (N := N) g hN hl hr (k := z_rs (H l) (V l) r + p) (by omega) (by omega)
  have e3 := m_many g hl hr
  have e5 := fun x hx => m_keyOf g hl hr (p := x) hx
  rw [show z_rs (H l) (V l) r + p - z_rs (H l) (V l) r = p by omega] at e2
  generalize hA : z_rl (H l) (V l) r = a at *
  have hm := Nat.mod_lt (p + by1) (show 0 < a by omega)
  have hi3 : i % 2 = 1 ∧ i < 4 := by omega
  unfold f_M_laysBeside
  rw [e1, q_b1_s, e2, q_b1_s, e3, q_b1_s, z_i 2, z_rm (by omega) (by omega) (by omega), hi3.1, if_pos (by decide)]
  by_cases h1 : a = 1
  · rw [if_pos (by rw [h1]; rfl), if_pos h1]
  · rw [if_neg (by rw [z_i 1, nI_eq (by omega) (by omega)]; exact h1), if_neg h1, z_j1]
    have fin : ∀ x, x = nI by1 → (q_rm (nI p + x) (nI a) (fun (v15 : Int32) => q_b1 (f_M_keyOf dp wd za (nI l) (nI r) v15) (fun (v16 : Int32) => some (v16, 1))) : Option (Int32 × Int32)) = some (nI (z_rs (H l) (V l) r + (p + by1) % a), 1) := by
      intro x hx
      subst hx
      rw [nI_add, z_rm (by omega) (by omega) (by omega), e5 _ hm, q_b1_s]
    rcases hi with ⟨rfl, hb⟩ | ⟨rfl, hb⟩
    · rw [if_pos (by decide)]
      exact fin _ (by rw [hb]; rfl)
    · rw [if_neg (by decide)]
      exact fin _ (by rw [hb, z_sub1 la.1])
/-- to a side: from which key on, how many; all are beside -/
theorem s_lays (g : MOK R C H V cr cq dp wd za) (hN : 50 ≤ N) (hl : l < 5) {k : Nat} (hk : k < 2130 * (H l * V l) + 2) (fb mb : Int32) {i : Nat} (hi : i < 4) :
    Ok (f_M_laysBeside N dp wd za fb mb (nI l) (nI k) (nI i)) (fun x => ∃ F M, x.2 = nI M ∧ (M ≠ 0 → x.1 = nI F) ∧ F + M ≤ 2130 * (H l * V l) + 2 ∧ M ≤ 563400 ∧ ∀ j, j < M → z_adj (H l) (V l) k (F + j)) := by
  have hv := g.2.2.hv hl
  have hps := g.2.2.pos l hl
  obtain ⟨r, -, hr, h1, h2⟩ := m_rowOf (N := N) g hN hl hk
  obtain ⟨p, rfl⟩ : ∃ p, k = z_rs (H l) (V l) r + p := ⟨k - z_rs (H l) (V l) r, by omega⟩
  have hp : p < z_rl (H l) (V l) r := by omega
  have la := z_rl_pos hps.1 hps.2 hr
  have hre := z_rs_end (V := V l) hps.1 hr
  have vert : ∀ b, b ≤ 44 * H l + 1 → ((i = 0 ∧ r = b + 1) ∨ (i = 2 ∧ b = r + 1)) → Ok (f_M_laysBeside N dp wd za fb mb (nI l) (nI (z_rs (H l) (V l) r + p)) (nI i)) (fun x => ∃ F M, x.2 = nI M ∧ (M ≠ 0 → x.1 = nI F) ∧ F + M ≤ 2130 * (H l * V l) + 2 ∧ M ≤ 563400 ∧ ∀ j, j < M → z_adj (H l) (V l) (z_rs (H l) (V l) r + p) (F + j)) := by
    intro b hb hib
    have e := m_laysV g hN hl hr hp hb fb mb hib
    have lb := z_rl_pos hps.1 hps.2 hb
    have hbe := z_rs_end (V := V l) hps.1 hb
    refine ⟨_, e, _, _, rfl, fun _ => rfl, ?_, ?_, ?_⟩
    all_goals
      have hd3 : ((p + 1) * z_rl (H l) (V l) b + z_rl (H l) (V l) r - 1) / z_rl (H l) (V l) r ≤ z_rl (H l) (V l) b := by
        have m1 : (p + 1) * z_rl (H l) (V l) b ≤ z_rl (H l) (V l) r * z_rl (H l) (V l) b := Nat.mul_le_mul_right _ (by omega)
        rw [Nat.div_le_iff_le_mul_add_pred (by omega)]; omega
      have hd2 : p * z_rl (H l) (V l) b / z_rl (H l) (V l) r ≤ ((p + 1) * z_rl (H l) (V l) b + z_rl (H l) (V l) r - 1) / z_rl (H l) (V l) r := Nat.div_le_div_right (by rw [Nat.add_mul, Nat.one_mul]; omega)
    · omega
    · exact Nat.le_trans (Nat.sub_le _ _) (Nat.le_trans hd3 (by omega))
    · intro j hj
      refine ⟨r, p, b, p * z_rl (H l) (V l) b / z_rl (H l) (V l) r + j, hr, hb, hp, by omega, rfl, by omega, Or.inl ⟨by omega, ?_, ?_⟩⟩
      · have := Nat.lt_div_mul_add (a := p * z_rl (H l) (V l) b) (show 0 < z_rl (H l) (V l) r by omega)
        have h3 : (p * z_rl (H l) (V l) b / z_rl (H l) (V l) r + 1) * z_rl (H l) (V l) r ≤ (p * z_rl (H l) (V l) b / z_rl (H l) (V l) r + j + 1) * z_rl (H l) (V l) r := Nat.mul_le_mul_right _ (by omega)
        rw [Nat.add_mul _ 1, Nat.one_mul] at h3
        omega
      · have h3 : p * z_rl (H l) (V l) b / z_rl (H l) (V l) r + j + 1 ≤ ((p + 1) * z_rl (H l) (V l) b + z_rl (H l) (V l) r - 1) / z_rl (H l) (V l) r := by omega
        have h4 := Nat.mul_le_mul_right (z_rl (H l) (V l) r) h3
        have h5 := Nat.div_mul_le_self ((p + 1) * z_rl (H l) (V l) b + z_rl (H l) (V l) r - 1) (z_rl (H l) (V l) r)
        rw [Nat.add_mul _ 1, Nat.one_mul] at h4
        omega
  have none0 : ((i = 0 ∧ r = 0) ∨ (i = 2 ∧ r = 44 * H l + 1)) → Ok (f_M_laysBeside N dp wd za fb mb (nI l) (nI (z_rs (H l) (V l) r + p)) (nI i)) (fun x => ∃ F M, x.2 = nI M ∧ (M ≠ 0 → x.1 = nI F) ∧ F + M ≤ 2130 * (H l * V l) + 2 ∧ M ≤ 563400 ∧ ∀ j, j < M → z_adj (H l) (V l) (z_rs (H l) (V l) r + p) (F + j)) := by
    intro hi
    exact ⟨_, m_lays0 g hN hl hr hp fb mb hi, 0, 0, rfl, fun z => absurd rfl z, by omega, by omega, fun j hj => by omega⟩
  have hor : ∀ by1, ((i = 1 ∧ by1 = 1) ∨ (i = 3 ∧ by1 = z_rl (H l) (V l) r - 1)) → Ok (f_M_laysBeside N dp wd za fb mb (nI l) (nI (z_rs (H l) (V l) r + p)) (nI i)) (fun x => ∃ F M, x.2 = nI M ∧ (M ≠ 0 → x.1 = nI F) ∧ F + M ≤ 2130 * (H l * V l) + 2 ∧ M ≤ 563400 ∧ ∀ j, j < M → z_adj (H l) (V l) (z_rs (H l) (V l) r + p) (F + j)) := by
    intro by1 hb
    have e := m_laysH g hN hl hr hp fb mb hb
    have hm := Nat.mod_lt (p + by1) (show 0 < z_rl (H l) (V l) r by omega)
    by_cases h1 : z_rl (H l) (V l) r = 1
    · rw [if_pos h1] at e
      exact ⟨_, e, 0, 0, rfl, fun z => absurd rfl z, by omega, by omega, fun j hj => by omega⟩
    · rw [if_neg h1] at e
      refine ⟨_, e, _, 1, rfl, fun _ => rfl, by omega, by omega, fun j hj => ?_⟩
      have : j = 0 := by omega
      subst this
      refine ⟨r, p, r, (p + by1) % z_rl (H l) (V l) r, hr, hr, hp, hm, rfl, rfl, Or.inr ⟨rfl, h1, ?_⟩⟩
      rcases hb with ⟨-, rfl⟩ | ⟨-, hb⟩
      · exact Or.inl rfl
      · right
        rw [Nat.mod_add_mod, hb, show p + (z_rl (H l) (V l) r - 1) + 1 = p + z_rl (H l) (V l) r by omega, Nat.add_mod_right, Nat.mod_eq_of_lt hp]
  rcases (show i = 0 ∨ i = 1 ∨ i = 2 ∨ i = 3 by omega) with h | h | h | h
  · rcases Nat.eq_zero_or_pos r with h0 | h0
    · exact none0 (Or.inl ⟨h, h0⟩)
    · exact vert (r - 1) (by omega) (Or.inl ⟨h, by omega⟩)
  · exact hor 1 (Or.inl ⟨h, rfl⟩)
  · by_cases h0 : r = 44 * H l + 1
    · exact none0 (Or.inr ⟨h, h0⟩)
    · exact vert (r + 1) (by omega) (Or.inr ⟨h, rfl⟩)
  · exact hor _ (Or.inr ⟨h, rfl⟩)
end ML
end
section
/-! the reference's steps: what is known of distances and queue -/
def z_cnt (f : Nat → Int32) : Nat → Nat
  | 0 => 0
  | n + 1 => z_cnt f n + (if f n = -1 then 0 else 1)
theorem z_cnt_le (f : Nat → Int32) : ∀ n, z_cnt f n ≤ n := by
  intro n
  induction n with
  | zero => exact Nat.le_refl 0
  | succ n ih => unfold z_cnt; split <;> omega
theorem z_cnt_lt {f : Nat → Int32} {k : Nat} (h : f k = -1) : ∀ n, k < n → z_cnt f n < n := by
  intro n
  induction n with
  | zero => intro h; omega
  | succ n ih =>
    intro hk
    have := z_cnt_le f n
    unfold z_cnt
    by_cases e : n = k
    · subst e; rw [if_pos h]; omega
    · have := ih (by omega)
      split <;> omega
theorem z_cnt_same {f f2 : Nat → Int32} : ∀ n, (∀ j, j < n → f2 j = f j) → z_cnt f2 n = z_cnt f n := by
  intro n
  induction n with
  | zero => intro _; rfl
  | succ n ih =>
    intro h
    unfold z_cnt
    rw [ih (fun j hj => h j (by omega)), h n (by omega)]
theorem z_cnt_upd {f : Nat → Int32} {k : Nat} {x : Int32} (h : f k = -1) (hx : x ≠ -1) : ∀ n, k < n → z_cnt (upd f k x) n = z_cnt f n + 1 := by
  intro n
  induction n with
  | zero => intro h; omega
  | succ n ih =>
    intro hk
    unfold z_cnt
    by_cases e : n = k
    · subst e
      rw [z_updS, if_neg hx, if_pos h, z_cnt_same n (fun j hj => z_updN (by omega))]
    · rw [z_updN e, ih (by omega)]; omega
theorem z_cnt_none {f : Nat → Int32} : ∀ n, (∀ j, j < n → f j = -1) → z_cnt f n = 0 := by
  intro n
  induction n with
  | zero => intro _; rfl
  | succ n ih =>
    intro h
    unfold z_cnt
    rw [ih (fun j hj => h j (by omega)), if_pos (h n (by omega))]
theorem z_nIm1 {d : Nat} (h : d < 2 ^ 31) : nI d ≠ -1 := by
  intro e
  have := congrArg Int32.toInt e
  rw [nI_toInt h, show (-1 : Int32).toInt = -1 from rfl] at this
  omega
def z_bfs (A : Nat → Nat → Prop) (tot : Nat) (f qu : Nat → Int32) (e : Nat) : Prop :=
  z_cnt f tot = e ∧ (∀ j, j < e → ∃ k, k < tot ∧ qu j = nI k ∧ f k ≠ -1) ∧ (∀ k, k < tot → f k = -1 ∨ ∃ d, d < e ∧ f k = nI d) ∧
  (∀ k, k < tot → ∀ d, d + 1 < 2 ^ 31 → f k = nI (d + 1) → ∃ k2, k2 < tot ∧ A k2 k ∧ f k2 = nI d)
theorem s_meets {A : Nat → Nat → Prop} {tot : Nat} (ht : tot ≤ 20000) {f qu : Nat → Int32} {e : Nat} (h : z_bfs A tot f qu e) {k : Nat} (hk : k < tot) {d : Nat} (hd : d ≤ e) (hb : d = 0 ∨ ∃ k2, k2 < tot ∧ A k2 k ∧ f k2 = nI (d - 1)) :
    Ok (f_M_meets f qu (nI e) (nI k) (nI d)) (fun x => ∃ e2, x.2.2 = nI e2 ∧ z_bfs A tot x.1 x.2.1 e2 ∧ e ≤ e2 ∧ x.1 k ≠ -1 ∧ ∀ j, f j ≠ -1 → x.1 j = f j) := by
  obtain ⟨h1, h2, h3, h4⟩ := h
  have hc := z_cnt_le f tot
  unfold f_M_meets
  rw [z_ai (by omega) (by omega)]
  refine Ok.ite (fun hm => ?_) (fun hm => Ok.ret ⟨e, rfl, ⟨h1, h2, h3, h4⟩, Nat.le_refl e, hm, fun _ _ => rfl⟩)
  have hlt := z_cnt_lt hm tot hk
  refine Ok.asn (by omega) (by decide) (Ok.asn (by omega) (by decide) (Ok.nm (Ok.ret ⟨e + 1, nI_1 e, ⟨?_, ?_, ?_, ?_⟩, by omega, ?_, ?_⟩)))
  · dsimp only
    rw [z_cnt_upd hm (z_nIm1 (by omega)) tot hk, h1]
  · intro j hj
    dsimp only
    by_cases ej : j = e
    · subst ej
      exact ⟨k, hk, z_updS, by rw [z_updS]; exact z_nIm1 (by omega)⟩
    · obtain ⟨q, q1, q2, q3⟩ := h2 j (by omega)
      refine ⟨q, q1, by rw [z_updN ej]; exact q2, ?_⟩
      have : q ≠ k := fun z => q3 (by rw [z]; exact hm)
      rw [z_updN this]; exact q3
  · intro q hq
    dsimp only
    by_cases eq : q = k
    · subst eq; exact Or.inr ⟨d, by omega, z_updS⟩
    · rw [z_updN eq]
      rcases h3 q hq with z | ⟨d2, z1, z2⟩
      · exact Or.inl z
      · exact Or.inr ⟨d2, by omega, z2⟩
  · intro q hq d2 hd2 hf
    dsimp only at hf ⊢
    have keep : ∀ k2, f k2 ≠ -1 → upd f k (nI d) k2 = f k2 := fun k2 z => z_updN (fun e2 => z (by rw [e2]; exact hm))
    by_cases eq : q = k
    · subst eq
      rw [z_updS, nI_eq (by omega) hd2] at hf
      rcases hb with z | ⟨k2, z1, z2, z3⟩
      · omega
      · refine ⟨k2, z1, z2, ?_⟩
        rw [keep k2 (by rw [z3]; exact z_nIm1 (by omega)), z3]
        congr 1; omega
    · rw [z_updN eq] at hf
      obtain ⟨k2, z1, z2, z3⟩ := h4 q hq d2 hd2 hf
      exact ⟨k2, z1, z2, by rw [keep k2 (by rw [z3]; exact z_nIm1 (by omega))]; exact z3⟩
  · dsimp only
    rw [z_updS]; exact z_nIm1 (by omega)
  · intro j hj
    dsimp only
    exact z_updN (fun e2 => hj (by rw [e2]; exact hm))
end
section
/-! the reference's steps: no stop -/
section MS
variable {R C H V : Nat → Nat} {cr cq dp wd za : Nat → Int32} {N l tot : Nat}
theorem s_steps_L74 {A : Nat → Nat → Prop} (ht : tot ≤ 20000) {key F M dk : Nat} {x : Int32} (hk : key < tot) (hx : M ≠ 0 → x = nI F) (hF : F + M ≤ tot) (hA : ∀ j, j < M → A key (F + j)) : ∀ n i e (f qu : Nat → Int32), i ≤ M → M - i < n → z_bfs A tot f qu e → f key = nI dk → dk < e →
    Ok (f_M_laysSteps_L74 (nI key) x (nI M) n (nI i) f qu (nI e)) (fun y => ∃ e2, y.2.2 = nI e2 ∧ z_bfs A tot y.1 y.2.1 e2 ∧ e ≤ e2 ∧ y.1 key = nI dk) := by
  intro n
  induction n with
  | zero => intro i e f qu _ h; omega
  | succ n ih =>
    intro i e f qu hi hn hb hf hd
    have he := z_cnt_le f tot
    rw [hb.1] at he
    rw [f_M_laysSteps_L74]
    refine Ok.ite (fun _ => Ok.ret ⟨e, rfl, hb, Nat.le_refl e, hf⟩) (fun hc => ?_)
    rw [nI_leI (by omega) (by omega)] at hc
    have hx' := hx (by omega)
    subst hx'
    rw [z_ai (by omega) (by omega), hf, nI_1, nI_add]
    refine Ok.b3 (s_meets ht hb (k := F + i) (by omega) (d := dk + 1) (by omega) (Or.inr ⟨key, hk, hA i (by omega), by rw [hf]; rfl⟩)) (fun f2 q2 v h => ?_)
    obtain ⟨e2, h1, h2, h3, -, h5⟩ := h
    dsimp only at h1 h2 h5
    subst h1
    rw [z_nm, nI_1]
    refine Ok.weak (ih (i + 1) e2 f2 q2 (by omega) (by omega) h2 (by rw [h5 key (by rw [hf]; exact z_nIm1 (by omega))]; exact hf) (by omega)) (fun y hy => ?_)
    obtain ⟨e3, y1, y2, y3, y4⟩ := hy
    exact ⟨e3, y1, y2, by omega, y4⟩
theorem s_steps_L56 (g : MOK R C H V cr cq dp wd za) (hN : 1000000 ≤ N) (hl : l < 5) (ht : tot = 2130 * (H l * V l) + 2) (ht2 : tot ≤ 20000) {key dk : Nat} (hk : key < tot) : ∀ n i e (a b : Int32) (f qu : Nat → Int32), i ≤ 4 → 4 - i < n → z_bfs (z_adj (H l) (V l)) tot f qu e → f key = nI dk → dk < e →
    Ok (f_M_laysSteps_L56 N dp wd za (nI l) (nI key) n (nI i) a b f qu (nI e)) (fun y => ∃ e2, y.2.2.2.2 = nI e2 ∧ z_bfs (z_adj (H l) (V l)) tot y.2.2.1 y.2.2.2.1 e2 ∧ e ≤ e2) := by
  intro n
  induction n with
  | zero => intro i e a b f qu _ h; omega
  | succ n ih =>
    intro i e a b f qu hi hn hb hf hd
    rw [f_M_laysSteps_L56]
    refine Ok.ite (fun _ => Ok.ret ⟨e, rfl, hb, Nat.le_refl e⟩) (fun hc => ?_)
    rw [z_i 4, nI_leI (by omega) (by omega)] at hc
    refine Ok.b2 (s_lays g (by omega) hl (k := key) (by omega) a b (i := i) (by omega)) (fun x1 x2 hx => ?_)
    obtain ⟨F, M, y1, y2, y3, y4, y5⟩ := hx
    dsimp only at y1 y2
    subst y1
    rw [z_nm]
    refine Ok.b3 (s_steps_L74 (A := z_adj (H l) (V l)) ht2 hk y2 (by omega) y5 N 0 e f qu (by omega) (by omega) hb hf hd) (fun f2 q2 v h => ?_)
    obtain ⟨e2, h1, h2, h3, h4⟩ := h
    dsimp only at h1 h2 h4
    subst h1
    rw [z_nm, nI_1]
    refine Ok.weak (ih (i + 1) e2 _ _ f2 q2 (by omega) (by omega) h2 h4 (by omega)) (fun y hy => ?_)
    obtain ⟨e3, z1, z2, z3⟩ := hy
    exact ⟨e3, z1, z2, by omega⟩
theorem s_steps_L37 (g : MOK R C H V cr cq dp wd za) (hN : 1000000 ≤ N) (hl : l < 5) (ht : tot = 2130 * (H l * V l) + 2) (ht2 : tot ≤ 20000) : ∀ n i e (a b : Int32) (f qu : Nat → Int32), i ≤ tot → tot - i < n → z_bfs (z_adj (H l) (V l)) tot f qu e →
    Ok (f_M_laysSteps_L37 N dp wd za (nI l) n (nI i) a b f qu (nI e)) (fun y => ∃ e2, z_bfs (z_adj (H l) (V l)) tot y.2.2.1 y.2.2.2.1 e2) := by
  intro n
  induction n with
  | zero => intro i e a b f qu _ h; omega
  | succ n ih =>
    intro i e a b f qu hi hn hb
    have he := z_cnt_le f tot
    rw [hb.1] at he
    rw [f_M_laysSteps_L37]
    refine Ok.ite (fun _ => Ok.ret ⟨e, hb⟩) (fun hc => ?_)
    rw [nI_leI (by omega) (by omega)] at hc
    obtain ⟨key, k1, k2, k3⟩ := hb.2.1 i (by omega)
    obtain ⟨dk, d1, d2⟩ : ∃ d, d < e ∧ f key = nI d := by
      rcases hb.2.2.1 key k1 with z | z
      · exact absurd z k3
      · exact z
    rw [z_ai (by omega) (by omega), k2, z_nm]
    refine Ok.b5 (s_steps_L56 g hN hl ht ht2 k1 N 0 e a b f qu (by omega) (by omega) hb d2 d1) (fun x1 x2 f2 q2 v h => ?_)
    obtain ⟨e2, h1, h2, h3⟩ := h
    dsimp only at h1 h2
    subst h1
    rw [z_nm, nI_1]
    exact ih (i + 1) e2 _ _ f2 q2 (by omega) (by omega) h2
theorem s_steps_L2 (g : MOK R C H V cr cq dp wd za) (hl : l < 5) (ht : tot = 2130 * (H l * V l) + 2) (ht2 : tot ≤ 20000) : ∀ n i (f : Nat → Int32), i ≤ tot → tot - i < n → (∀ j, j < i → f j = -1) → Ok (f_M_laysSteps_L2 dp wd za (nI l) n (nI i) f) (fun f2 => ∀ j, j < tot → f2 j = -1) := by
  intro n
  induction n with
  | zero => intro i f _ h; omega
  | succ n ih =>
    intro i f hi hn hf
    rw [f_M_laysSteps_L2, m_sheets g hl, q_b1_s, ← ht]
    refine Ok.ite (fun hc => Ok.ret ?_) (fun hc => ?_)
    · rw [nI_leI (by omega) (by omega)] at hc
      exact fun j hj => hf j (by omega)
    · rw [nI_leI (by omega) (by omega)] at hc
      refine Ok.asn (by omega) (by decide) (Ok.nm ?_)
      rw [nI_1]
      refine ih (i + 1) _ (by omega) (by omega) (fun j hj => ?_)
      by_cases e : j = i
      · subst e; exact z_updS
      · rw [z_updN e]; exact hf j (by omega)
theorem s_laysSteps (g : MOK R C H V cr cq dp wd za) (hN : 1000000 ≤ N) (hl : l < 5) (ht : tot = 2130 * (H l * V l) + 2) (ht2 : tot ≤ 20000) {k : Nat} (hk : k < tot) (a b : Int32) (f qu : Nat → Int32) (m : Int32) : Ok (f_M_laysSteps N dp wd za a b f qu m (nI l) (nI k)) (fun y => ∃ e2, z_bfs (z_adj (H l) (V l)) tot y.2.2.1 y.2.2.2.1 e2) := by
  unfold f_M_laysSteps
  rw [z_nm]
  refine Ok.b1 (s_steps_L2 g hl ht ht2 N 0 f (by omega) (by omega) (fun j hj => by omega)) (fun f4 h4 => ?_)
  have h0 : z_bfs (z_adj (H l) (V l)) tot f4 qu 0 := by
    refine ⟨z_cnt_none tot h4, fun j hj => by omega, fun q hq => Or.inl (h4 q hq), fun q hq d hd hf => ?_⟩
    rw [h4 q hq] at hf
    exact absurd hf.symm (z_nIm1 hd)
  refine Ok.b3 (s_meets ht2 h0 hk (d := 0) (by omega) (Or.inl rfl)) (fun f5 q6 v7 h => ?_)
  obtain ⟨e2, h1, h2, -⟩ := h
  dsimp only at h1 h2
  subst h1
  rw [z_nm]
  exact Ok.b5 (s_steps_L37 g hN hl ht ht2 N 0 e2 a b f5 q6 (by omega) (by omega) h2) (fun _ _ _ _ _ h => Ok.ret h)
end MS
end
section
/-! a neighbour is among those of the four sides -/
section MN
variable {R C H V : Nat → Nat} {cr cq dp wd za : Nat → Int32} {N l : Nat}
/-- what laysBeside says of a side -/
def z_side (H0 V0 k : Nat) (i F M : Nat) : Prop := ∃ r p, r ≤ 44 * H0 + 1 ∧ p < z_rl H0 V0 r ∧ k = z_rs H0 V0 r + p ∧
  (((i = 0 ∨ i = 2) ∧ (∃ b, b ≤ 44 * H0 + 1 ∧ ((i = 0 ∧ r = b + 1) ∨ (i = 2 ∧ b = r + 1)) ∧ F = z_rs H0 V0 b + p * z_rl H0 V0 b / z_rl H0 V0 r ∧ M = ((p + 1) * z_rl H0 V0 b + z_rl H0 V0 r - 1) / z_rl H0 V0 r - p * z_rl H0 V0 b / z_rl H0 V0 r)) ∨
   (((i = 0 ∧ r = 0) ∨ (i = 2 ∧ r = 44 * H0 + 1)) ∧ M = 0) ∨
   (((i = 1 ∨ i = 3) ∧ ((z_rl H0 V0 r = 1 ∧ M = 0) ∨ (z_rl H0 V0 r ≠ 1 ∧ M = 1 ∧ F = z_rs H0 V0 r + (p + (if i = 1 then 1 else z_rl H0 V0 r - 1)) % z_rl H0 V0 r)))))
theorem s_sides (g : MOK R C H V cr cq dp wd za) (hN : 50 ≤ N) (hl : l < 5) {k : Nat} (hk : k < 2130 * (H l * V l) + 2) (fb mb : Int32) {i : Nat} (hi : i < 4) :
    Ok (f_M_laysBeside N dp wd za fb mb (nI l) (nI k) (nI i)) (fun x => ∃ F M, x.2 = nI M ∧ (M ≠ 0 → x.1 = nI F) ∧ z_side (H l) (V l) k i F M) := by
  obtain ⟨r, -, hr, h1, h2⟩ := m_rowOf (N := N) g hN hl hk
  obtain ⟨p, rfl⟩ : ∃ p, k = z_rs (H l) (V l) r + p := ⟨k - z_rs (H l) (V l) r, by omega⟩
  have hp : p < z_rl (H l) (V l) r := by omega
  have vert : ∀ b, b ≤ 44 * H l + 1 → ((i = 0 ∧ r = b + 1) ∨ (i = 2 ∧ b = r + 1)) → Ok (f_M_laysBeside N dp wd za fb mb (nI l) (nI (z_rs (H l) (V l) r + p)) (nI i)) (fun x => ∃ F M, x.2 = nI M ∧ (M ≠ 0 → x.1 = nI F) ∧ z_side (H l) (V l) (z_rs (H l) (V l) r + p) i F M) := by
    intro b hb hib
    exact ⟨_, m_laysV g hN hl hr hp hb fb mb hib, _, _, rfl, fun _ => rfl, r, p, hr, hp, rfl, Or.inl ⟨by omega, b, hb, hib, rfl, rfl⟩⟩
  have none0 : ((i = 0 ∧ r = 0) ∨ (i = 2 ∧ r = 44 * H l + 1)) → Ok (f_M_laysBeside N dp wd za fb mb (nI l) (nI (z_rs (H l) (V l) r + p)) (nI i)) (fun x => ∃ F M, x.2 = nI M ∧ (M ≠ 0 → x.1 = nI F) ∧ z_side (H l) (V l) (z_rs (H l) (V l) r + p) i F M) := by
    intro hi
    exact ⟨_, m_lays0 g hN hl hr hp fb mb hi, 0, 0, rfl, fun z => absurd rfl z, r, p, hr, hp, rfl, Or.inr (Or.inl ⟨hi, rfl⟩)⟩
  have hor : ∀ by1, ((i = 1 ∧ by1 = 1) ∨ (i = 3 ∧ by1 = z_rl (H l) (V l) r - 1)) → Ok (f_M_laysBeside N dp wd za fb mb (nI l) (nI (z_rs (H l) (V l) r + p)) (nI i)) (fun x => ∃ F M, x.2 = nI M ∧ (M ≠ 0 → x.1 = nI F) ∧ z_side (H l) (V l) (z_rs (H l) (V l) r + p) i F M) := by
    intro by1 hb
    have e := m_laysH g hN hl hr hp fb mb hb
    have hby : by1 = (if i = 1 then 1 else z_rl (H l) (V l) r - 1) := by split <;> omega
    by_cases h1 : z_rl (H l) (V l) r = 1
    · rw [if_pos h1] at e
      exact ⟨_, e, 0, 0, rfl, fun z => absurd rfl z, r, p, hr, hp, rfl, Or.inr (Or.inr ⟨by omega, Or.inl ⟨h1, rfl⟩⟩)⟩
    · rw [if_neg h1] at e
      exact ⟨_, e, _, 1, rfl, fun _ => rfl, r, p, hr, hp, rfl, Or.inr (Or.inr ⟨by omega, Or.inr ⟨h1, rfl, by rw [hby]⟩⟩)⟩
  rcases (show i = 0 ∨ i = 1 ∨ i = 2 ∨ i = 3 by omega) with h | h | h | h
  · rcases Nat.eq_zero_or_pos r with h0 | h0
    · exact none0 (Or.inl ⟨h, h0⟩)
    · exact vert (r - 1) (by omega) (Or.inl ⟨h, by omega⟩)
  · exact hor 1 (Or.inl ⟨h, rfl⟩)
  · by_cases h0 : r = 44 * H l + 1
    · exact none0 (Or.inr ⟨h, h0⟩)
    · exact vert (r + 1) (by omega) (Or.inr ⟨h, rfl⟩)
  · exact hor _ (Or.inr ⟨h, rfl⟩)
theorem z_adj_side {H0 V0 k k2 : Nat} (hH : 1 ≤ H0) (hV : 1 ≤ V0) (h : z_adj H0 V0 k k2) : ∃ i, i < 4 ∧ ∀ F M, z_side H0 V0 k i F M → F ≤ k2 ∧ k2 < F + M := by
  obtain ⟨r, p, r2, p2, hr, hr2, hp, hp2, rfl, rfl, hc⟩ := h
  have la := z_rl_pos hH hV hr
  have same : ∀ r' p', r' ≤ 44 * H0 + 1 → p' < z_rl H0 V0 r' → z_rs H0 V0 r + p = z_rs H0 V0 r' + p' → r' = r ∧ p' = p := by
    intro r' p' h1 h2 h3
    have : r' = r := z_row_one (V := V0) hH h1 hr (k := z_rs H0 V0 r + p) (by omega) (by omega) (by omega) (by omega)
    subst this
    exact ⟨rfl, by omega⟩
  have mid : ∀ t a : Nat, 1 ≤ a → p * t < (p2 + 1) * a → p2 * a < (p + 1) * t → p * t / a ≤ p2 ∧ p2 < ((p + 1) * t + a - 1) / a := by
    intro t a ha h1 h2
    constructor
    · exact Nat.le_of_lt_succ (Nat.div_lt_of_lt_mul (by rw [Nat.mul_comm a]; exact h1))
    · exact (Nat.le_div_iff_mul_le (by omega)).mpr (by
        have h3 : (p2 + 1) * a = p2 * a + a := by rw [Nat.add_mul, Nat.one_mul]
        show (p2 + 1) * a ≤ _
        rw [h3]
        generalize p2 * a = y at *
        generalize (p + 1) * t = x at *
        omega)
  rcases hc with ⟨hv, h1, h2⟩ | ⟨rfl, h1, h2⟩
  · obtain ⟨m1, m2⟩ := mid _ _ la.1 h1 h2
    rcases hv with hv | hv
    · refine ⟨2, by omega, fun F M hs => ?_⟩
      obtain ⟨r', p', a1, a2, a3, a4⟩ := hs
      obtain ⟨rfl, rfl⟩ := same r' p' a1 a2 a3
      rcases a4 with ⟨-, b, b1, b2, b3, b4⟩ | ⟨b1, b2⟩ | ⟨b1, -⟩
      · have : b = r2 := by omega
        subst this
        omega
      · omega
      · omega
    · refine ⟨0, by omega, fun F M hs => ?_⟩
      obtain ⟨r', p', a1, a2, a3, a4⟩ := hs
      obtain ⟨rfl, rfl⟩ := same r' p' a1 a2 a3
      rcases a4 with ⟨-, b, b1, b2, b3, b4⟩ | ⟨b1, b2⟩ | ⟨b1, -⟩
      · have : b = r2 := by omega
        subst this
        omega
      · omega
      · omega
  · rcases h2 with h2 | h2
    · refine ⟨1, by omega, fun F M hs => ?_⟩
      obtain ⟨r', p', a1, a2, a3, a4⟩ := hs
      obtain ⟨rfl, rfl⟩ := same r' p' a1 a2 a3
      rcases a4 with ⟨b1, -⟩ | ⟨b1, -⟩ | ⟨-, b2⟩
      · omega
      · omega
      · rcases b2 with ⟨c1, -⟩ | ⟨-, c2, c3⟩
        · exact absurd c1 h1
        · rw [if_pos rfl, h2] at c3
          omega
    · refine ⟨3, by omega, fun F M hs => ?_⟩
      obtain ⟨r', p', a1, a2, a3, a4⟩ := hs
      obtain ⟨rfl, rfl⟩ := same r' p' a1 a2 a3
      rcases a4 with ⟨b1, -⟩ | ⟨b1, -⟩ | ⟨-, b2⟩
      · omega
      · omega
      · rcases b2 with ⟨c1, -⟩ | ⟨-, c2, c3⟩
        · exact absurd c1 h1
        · rw [if_neg (by omega)] at c3
          have hm : (p' + (z_rl H0 V0 r' - 1)) % z_rl H0 V0 r' = p2 := by
            rcases Nat.lt_or_ge (p2 + 1) (z_rl H0 V0 r') with g | g
            · rw [Nat.mod_eq_of_lt g] at h2
              rw [← h2, show p2 + 1 + (z_rl H0 V0 r' - 1) = p2 + z_rl H0 V0 r' by omega, Nat.add_mod_right, Nat.mod_eq_of_lt hp2]
            · have e : p2 + 1 = z_rl H0 V0 r' := by omega
              rw [e, Nat.mod_self] at h2
              rw [← h2, Nat.zero_add, Nat.mod_eq_of_lt (by omega)]; omega
          rw [hm] at c3
          omega
end MN
end
section
/-! nearer, way, reach, farthest, steps of the reference -/
section MW
variable {R C H V : Nat → Nat} {cr cq dp wd za : Nat → Int32} {N l tot : Nat}
theorem z_side_b {H0 V0 k i F M : Nat} (hH : 1 ≤ H0) (hV : 1 ≤ V0) (h : z_side H0 V0 k i F M) : M ≠ 0 → F + M ≤ 2130 * (H0 * V0) + 2 := by
  intro hM
  obtain ⟨r, p, hr, hp, -, hc⟩ := h
  have la := z_rl_pos hH hV hr
  have hre := z_rs_end (V := V0) hH hr
  rcases hc with ⟨-, b, hb, -, b3, b4⟩ | ⟨-, b2⟩ | ⟨-, b2⟩
  · have lb := z_rl_pos hH hV hb
    have hbe := z_rs_end (V := V0) hH hb
    have hd3 : ((p + 1) * z_rl H0 V0 b + z_rl H0 V0 r - 1) / z_rl H0 V0 r ≤ z_rl H0 V0 b := by
      have m1 : (p + 1) * z_rl H0 V0 b ≤ z_rl H0 V0 r * z_rl H0 V0 b := Nat.mul_le_mul_right _ (by omega)
      rw [Nat.div_le_iff_le_mul_add_pred (by omega)]; omega
    have hd2 : p * z_rl H0 V0 b / z_rl H0 V0 r ≤ ((p + 1) * z_rl H0 V0 b + z_rl H0 V0 r - 1) / z_rl H0 V0 r := Nat.div_le_div_right (by rw [Nat.add_mul, Nat.one_mul]; omega)
    omega
  · omega
  · rcases b2 with ⟨-, c⟩ | ⟨-, c2, c3⟩
    · omega
    · have hm := Nat.mod_lt (p + (if i = 1 then 1 else z_rl H0 V0 r - 1)) (show 0 < z_rl H0 V0 r by omega)
      omega
theorem s_near_L22 (ht : tot ≤ 20000) {f : Nat → Int32} {key F M : Nat} {x : Int32} (hk : key < tot) (hx : M ≠ 0 → x = nI F) (hF : M ≠ 0 → F + M ≤ tot) : ∀ n i (v : Int32), i ≤ M → M - i < n → (v = -1 ∨ ∃ q, q < tot ∧ v = nI q ∧ f q = f key - 1) →
    Ok (f_M_nearer_L22 f (nI key) x (nI M) n v (nI i)) (fun y => (y = -1 ∨ ∃ q, q < tot ∧ y = nI q ∧ f q = f key - 1) ∧ (v ≠ -1 → y ≠ -1) ∧ ∀ j, i ≤ j → j < M → f (F + j) = f key - 1 → y ≠ -1) := by
  by_cases hM : M = 0
  · subst hM
    intro n i v hi hn hv
    obtain ⟨n, rfl⟩ : ∃ k, n = k + 1 := ⟨n - 1, by omega⟩
    have : i = 0 := by omega
    subst this
    rw [f_M_nearer_L22, if_pos (by decide)]
    exact Ok.ret ⟨hv, fun h => h, fun j _ h => by omega⟩
  have hF := hF hM
  have hx := hx hM
  subst hx
  intro n
  induction n with
  | zero => intro i v _ h; omega
  | succ n ih =>
    intro i v hi hn hv
    have hMb : M ≤ 20000 := by omega
    rw [f_M_nearer_L22]
    refine Ok.ite (fun hc => Ok.ret ⟨hv, fun h => h, fun j h1 h2 => ?_⟩) (fun hc => ?_)
    · rw [nI_leI (by omega) (by omega)] at hc; omega
    · rw [nI_leI (by omega) (by omega)] at hc
      rw [nI_add, z_nm, z_ai (by omega) (by omega), z_ai (by omega) (by omega), nI_1, z_j1]
      dsimp only
      have hnew : (nI (F + i) : Int32) ≠ -1 := z_nIm1 (by omega)
      by_cases hg : f (F + i) = f key - 1
      · have hK1 : Ok (q_nm (nI (i + 1) : Int32) (fun (v21 : Int32) => f_M_nearer_L22 f (nI key) (nI F) (nI M) n (nI (F + i)) v21)) (fun y => (y = -1 ∨ ∃ q, q < tot ∧ y = nI q ∧ f q = f key - 1) ∧ (v ≠ -1 → y ≠ -1) ∧ ∀ j, i ≤ j → j < M → f (F + j) = f key - 1 → y ≠ -1) := by
          rw [z_nm]
          refine Ok.weak (ih (i + 1) (nI (F + i)) (by omega) (by omega) (Or.inr ⟨F + i, by omega, rfl, hg⟩)) (fun y hy => ⟨hy.1, fun _ => hy.2.1 hnew, fun j _ _ _ => hy.2.1 hnew⟩)
        rw [if_pos hg, z_j0]
        refine Ok.ite (fun _ => hK1) (fun hv1 => Ok.ite (fun _ => ?_) (fun _ => hK1))
        rw [z_nm]
        exact Ok.weak (ih (i + 1) v (by omega) (by omega) hv) (fun y hy => ⟨hy.1, hy.2.1, fun j _ _ _ => hy.2.1 hv1⟩)
      · rw [if_neg hg, z_nm]
        refine Ok.weak (ih (i + 1) v (by omega) (by omega) hv) (fun y hy => ⟨hy.1, hy.2.1, fun j h1 h2 h3 => ?_⟩)
        by_cases e : j = i
        · subst e; exact absurd h3 hg
        · exact hy.2.2 j (by omega) h2 h3
theorem s_near_L5 (g : MOK R C H V cr cq dp wd za) (hN : 1000000 ≤ N) (hl : l < 5) (ht : tot = 2130 * (H l * V l) + 2) (ht2 : tot ≤ 20000) {f : Nat → Int32} {key : Nat} (hk : key < tot) : ∀ n i (v a b : Int32), i ≤ 4 → 4 - i < n → (v = -1 ∨ ∃ q, q < tot ∧ v = nI q ∧ f q = f key - 1) →
    Ok (f_M_nearer_L5 N dp f wd za (nI l) (nI key) n v (nI i) a b) (fun y => (y.1 = -1 ∨ ∃ q, q < tot ∧ y.1 = nI q ∧ f q = f key - 1) ∧ (v ≠ -1 → y.1 ≠ -1) ∧ ∀ i2, i ≤ i2 → i2 < 4 → ∀ k2, (∀ F M, z_side (H l) (V l) key i2 F M → F ≤ k2 ∧ k2 < F + M) → f k2 = f key - 1 → y.1 ≠ -1) := by
  have hp := g.2.2.pos l hl
  intro n
  induction n with
  | zero => intro i v a b _ h; omega
  | succ n ih =>
    intro i v a b hi hn hv
    rw [f_M_nearer_L5]
    refine Ok.ite (fun hc => Ok.ret ⟨hv, fun h => h, fun i2 h1 h2 => ?_⟩) (fun hc => ?_)
    · rw [z_i 4, nI_leI (by omega) (by omega)] at hc; omega
    · rw [z_i 4, nI_leI (by omega) (by omega)] at hc
      refine Ok.b2 (s_sides g (by omega) hl (k := key) (by omega) a b (i := i) (by omega)) (fun x1 x2 hx => ?_)
      obtain ⟨F, M, y1, y2, y3⟩ := hx
      dsimp only at y1 y2
      subst y1
      have hb := z_side_b hp.1 hp.2 y3
      have hMb : M ≤ 20000 := by
        rcases Nat.eq_zero_or_pos M with z | z
        · omega
        · have := hb (by omega); omega
      rw [z_nm]
      refine Ok.b1 (s_near_L22 ht2 hk y2 (fun h => by have := hb h; omega) N 0 v (by omega) (by omega) hv) (fun w hw => ?_)
      rw [z_nm, nI_1]
      refine Ok.weak (ih (i + 1) w x1 (nI M) (by omega) (by omega) hw.1) (fun y hy => ⟨hy.1, fun h => hy.2.1 (hw.2.1 h), fun i2 h1 h2 k2 h3 h4 => ?_⟩)
      by_cases e : i2 = i
      · subst e
        have h5 := h3 F M y3
        refine hy.2.1 (hw.2.2 (k2 - F) (by omega) (by omega) ?_)
        rw [show F + (k2 - F) = k2 by omega]; exact h4
      · exact hy.2.2 i2 (by omega) h2 k2 h3 h4
theorem s_nearer (g : MOK R C H V cr cq dp wd za) (hN : 1000000 ≤ N) (hl : l < 5) (ht : tot = 2130 * (H l * V l) + 2) (ht2 : tot ≤ 20000) {f qu : Nat → Int32} {e : Nat} (hb : z_bfs (z_adj (H l) (V l)) tot f qu e) {key d : Nat} (hk : key < tot) (hd : d + 1 < 2 ^ 31) (hf : f key = nI (d + 1)) (a b : Int32) : Ok (f_M_nearer N dp wd za a b f (nI l) (nI key)) (fun y => ∃ q, q < tot ∧ y.1 = nI q ∧ f q = nI d) := by
  have hp := g.2.2.pos l hl
  unfold f_M_nearer
  rw [z_nm, z_nm]
  refine Ok.b3 (s_near_L5 g hN hl ht ht2 hk N 0 (-1) a b (by omega) (by omega) (Or.inl rfl)) (fun y1 y2 y3 hy => Ok.ret ?_)
  obtain ⟨k2, h1, h2, h3⟩ := hb.2.2.2 key hk d hd hf
  obtain ⟨i, hi, hs⟩ := z_adj_side hp.1 hp.2 (z_adj_symm h2)
  have hdd : f key - 1 = nI d := by rw [hf, z_sub1 (by omega), Nat.add_sub_cancel]
  have hne := hy.2.2 i (by omega) hi k2 hs (by rw [hdd]; exact h3)
  rcases hy.1 with z | ⟨q, q1, q2, q3⟩
  · exact absurd z hne
  · exact ⟨q, q1, q2, by rw [q3, hdd]⟩
end MW
end
section
/-! the reference: what is asked first; steps, way, reach, farthest -/
section MX
variable {R C H V : Nat → Nat} {cr cq dp wd za : Nat → Int32} {N l tot : Nat}
theorem z_toL (x : Int32) : x.toInt64.toInt = x.toInt := Int32.toInt_toInt64 x
theorem t_isLevel (p : Int32) : Ok (f_M_isLevel p) (fun x => x = (if 0 ≤ p.toInt ∧ p.toInt ≤ 4 then 1 else 0)) := by
  unfold f_M_isLevel
  rw [m_in, q_b1_s, z_toL, show (0 : Int64).toInt = 0 from rfl, show (4 : Int64).toInt = 4 from rfl]
  refine Ok.bo ?_ (Ok.ret rfl)
  split
  · exact Or.inr rfl
  · exact Or.inl rfl
theorem t_level {p : Int32} (h : 0 ≤ p.toInt ∧ p.toInt ≤ 4) : ∃ l, l < 5 ∧ p = nI l := by
  obtain ⟨j, h1, h2, h3⟩ := z_nat h.1
  exact ⟨j, by omega, h2⟩
theorem t_isKey (g : MOK R C H V cr cq dp wd za) (p q : Int32) : Ok (f_M_isKey dp wd za p q) (fun x => x ≠ 0 → z_hs H V p q) := by
  unfold f_M_isKey
  refine Ok.b1 (t_isLevel p) (fun v1 h1 => Ok.ite (fun _ => Ok.ret (fun z => absurd rfl z)) (fun n1 => ?_))
  obtain ⟨l, hl, rfl⟩ := t_level (z_if1 h1 n1)
  have hs := g.2.2.sh hl
  rw [m_sheets g hl, q_b1_s, m_in, q_b1_s, z_toL, z_sub1 (by omega), z_toL, nI_toInt (by omega), show (0 : Int64).toInt = 0 from rfl]
  refine Ok.ite (fun _ => Ok.ret (fun z => absurd rfl z)) (fun n2 => Ok.ret (fun _ => ?_))
  by_cases hc : 0 ≤ q.toInt ∧ q.toInt ≤ ((2130 * (H l * V l) + 2 - 1 : Nat) : Int)
  · obtain ⟨j, j1, j2, j3⟩ := z_nat hc.1
    exact ⟨l, j, hl, rfl, j2, by omega⟩
  · rw [if_neg hc] at n2; exact absurd rfl n2
theorem t_isGreat (g : MOK R C H V cr cq dp wd za) (hl : l < 5) : f_M_isGreat dp wd za (nI l) = some (if 2130 * (H l * V l) + 2 ≤ 20000 then 0 else 1) := by
  have hs := g.2.2.sh hl
  unfold f_M_isGreat
  rw [m_sheets g hl, q_b1_s]
  by_cases h : 2130 * (H l * V l) + 2 ≤ 20000
  · rw [if_pos (by rw [z_i 20000, nI_leI (by omega) (by omega)]; exact h), if_pos h]
  · rw [if_neg (by rw [z_i 20000, nI_leI (by omega) (by omega)]; exact h), if_neg h]
theorem t_stepsOf (g : MOK R C H V cr cq dp wd za) (hN : 1000000 ≤ N) (hl : l < 5) {k k2 : Nat} (hk : k < 2130 * (H l * V l) + 2) (hk2 : k2 < 2130 * (H l * V l) + 2) (a b : Int32) (f qu : Nat → Int32) (m : Int32) : Ok (f_M_stepsOf N dp wd za a b f qu m (nI l) (nI k) (nI k2)) (fun _ => True) := by
  unfold f_M_stepsOf
  rw [t_isGreat g hl, q_b1_s]
  by_cases h : 2130 * (H l * V l) + 2 ≤ 20000
  · rw [if_pos h, if_pos rfl]
    exact Ok.b5 (s_laysSteps g hN hl rfl h hk2 a b f qu m) (fun _ _ _ _ _ _ => Ok.ain (by omega) (by decide) Ok.t)
  · rw [if_neg h, if_neg (by decide)]; exact Ok.t
theorem t_steps (g : MOK R C H V cr cq dp wd za) (hN : 1000000 ≤ N) (a b : Int32) (f qu : Nat → Int32) (m p q r : Int32) : Ok (f_M_steps N dp wd za a b f qu m p q r) (fun _ => True) := by
  unfold f_M_steps
  refine Ok.b1 (t_isKey g p q) (fun v1 h1 => Ok.ite (fun _ => Ok.t) (fun n1 => Ok.b1 (t_isKey g p r) (fun v2 h2 => Ok.ite (fun _ => Ok.t) (fun n2 => ?_))))
  obtain ⟨l, k, hl, rfl, rfl, hk⟩ := h1 n1
  obtain ⟨l2, k2, hl2, el, rfl, hk2⟩ := h2 n2
  have : l = l2 := by rw [nI_eq (by omega) (by omega)] at el; exact el
  subst this
  exact Ok.b6 (t_stepsOf g hN hl hk hk2 a b f qu m) (fun _ _ _ _ _ _ _ => Ok.t)
theorem t_way_L (g : MOK R C H V cr cq dp wd za) (hN : 1000000 ≤ N) (hl : l < 5) (ht : tot = 2130 * (H l * V l) + 2) (ht2 : tot ≤ 20000) {f qu : Nat → Int32} {e : Nat} (hb : z_bfs (z_adj (H l) (V l)) tot f qu e) {p : Nat} (hp : p ≤ tot) : ∀ n i key (a b : Int32), i ≤ p → p - i < n → key < tot → (∃ d, d < 2 ^ 31 ∧ f key = nI d ∧ p - i ≤ d) → Ok (f_M_way_L62 N f dp wd za (nI l) (nI p) n (nI key) (nI i) a b) (fun _ => True) := by
  intro n
  induction n with
  | zero => intro i key a b _ h; omega
  | succ n ih =>
    intro i key a b hi hn hk hf
    rw [f_M_way_L62]
    refine Ok.ite (fun _ => Ok.t) (fun hc => ?_)
    rw [nI_leI (by omega) (by omega)] at hc
    obtain ⟨d, d1, d2, d3⟩ := hf
    obtain ⟨d, rfl⟩ : ∃ x, d = x + 1 := ⟨d - 1, by omega⟩
    refine Ok.b3 (s_nearer g hN hl ht ht2 hb hk (d := d) (by omega) d2 a b) (fun y1 y2 y3 hy => ?_)
    obtain ⟨q, q1, q2, q3⟩ := hy
    dsimp only at q2
    subst q2
    rw [z_nm, nI_1]
    exact ih (i + 1) q _ _ (by omega) (by omega) q1 ⟨d, by omega, q3, by omega⟩
theorem t_way (g : MOK R C H V cr cq dp wd za) (hN : 1000000 ≤ N) (a b : Int32) (f qu : Nat → Int32) (m p q r i : Int32) : Ok (f_M_way N dp wd za a b f qu m p q r i) (fun _ => True) := by
  unfold f_M_way
  refine Ok.b1 (t_isKey g p q) (fun v1 h1 => Ok.ite (fun _ => Ok.t) (fun n1 => Ok.b1 (t_isKey g p r) (fun v2 h2 => Ok.ite (fun _ => Ok.t) (fun n2 => Ok.ite (fun hi => ?_) (fun _ => Ok.t)))))
  obtain ⟨l, k, hl, rfl, rfl, hk⟩ := h1 n1
  obtain ⟨l2, k2, hl2, el, rfl, hk2⟩ := h2 n2
  have : l = l2 := by rw [nI_eq (by omega) (by omega)] at el; exact el
  subst this
  rw [t_isGreat g hl, q_b1_s]
  by_cases h : 2130 * (H l * V l) + 2 ≤ 20000
  · rw [if_pos h, if_pos rfl]
    refine Ok.b5 (s_laysSteps g hN hl rfl h hk2 a b f qu m) (fun v4 v5 f6 f7 v8 hb => Ok.ain (by omega) (by decide) (Ok.ite (fun hle => Ok.nm ?_) (fun _ => Ok.t)))
    obtain ⟨e, hb⟩ := hb
    dsimp only at hb
    have h0 := z_le.mp hi
    rw [show (0 : Int32).toInt = 0 from rfl] at h0
    obtain ⟨j, j1, rfl, j3⟩ := z_nat h0
    have he := z_cnt_le f6 (2130 * (H l * V l) + 2)
    rw [hb.1] at he
    have hle' := z_le.mp hle
    rcases hb.2.2.1 k hk with z | ⟨d, d1, d2⟩
    · rw [z, show (-1 : Int32).toInt = -1 from rfl] at hle'; omega
    · rw [d2, nI_toInt (by omega), nI_toInt (by omega)] at hle'
      exact Ok.b3 (t_way_L g hN hl rfl h hb (p := j) (by omega) N 0 k v4 v5 (by omega) (by omega) hk ⟨d, by omega, d2, by omega⟩) (fun _ _ _ _ => Ok.t)
  · rw [if_neg h, if_neg (by decide)]; exact Ok.t
theorem t_reach (g : MOK R C H V cr cq dp wd za) (hN : 1000000 ≤ N) (a b : Int32) (f qu : Nat → Int32) (m p q i : Int32) : Ok (f_M_reach N dp wd za a b f qu m p q i) (fun _ => True) := by
  unfold f_M_reach
  refine Ok.b1 (t_isKey g p q) (fun v1 h1 => Ok.ite (fun _ => Ok.t) (fun n1 => Ok.ite (fun hi => ?_) (fun _ => Ok.t)))
  obtain ⟨l, k, hl, rfl, rfl, hk⟩ := h1 n1
  rw [t_isGreat g hl, q_b1_s]
  by_cases h : 2130 * (H l * V l) + 2 ≤ 20000
  · rw [if_pos h, if_pos rfl]
    refine Ok.b5 (s_laysSteps g hN hl rfl h hk a b f qu m) (fun v4 v5 f6 f7 v8 _ => Ok.nm (Ok.nm ?_))
    have L : ∀ n j (v : Int32), j ≤ 2130 * (H l * V l) + 2 → 2130 * (H l * V l) + 2 - j < n → Ok (f_M_reach_L38 f6 dp wd za (nI l) i n v (nI j)) (fun _ => True) := by
      intro n
      induction n with
      | zero => intro j v _ h; omega
      | succ n ih =>
        intro j v hj hn
        rw [f_M_reach_L38, m_sheets g hl, q_b1_s]
        refine Ok.ite (fun _ => Ok.t) (fun hc => ?_)
        rw [nI_leI (by omega) (by omega)] at hc
        have hx := fun v => ih (j + 1) v (by omega) (by omega)
        rw [← nI_1] at hx
        exact Ok.ain (by omega) (by decide) (Ok.k1 (fun _ => True) (fun _ => True) (fun v _ => Ok.nm (Ok.nm (hx _))) (fun K hK => Ok.ite (fun _ => hK _ trivial) (fun _ => hK _ trivial)))
    exact Ok.b1 (L N 0 0 (by omega) (by omega)) (fun _ _ => Ok.t)
  · rw [if_neg h, if_neg (by decide)]; exact Ok.t
theorem t_farthest (g : MOK R C H V cr cq dp wd za) (hN : 1000000 ≤ N) (a b : Int32) (f qu : Nat → Int32) (m p q i : Int32) : Ok (f_M_farthest N dp wd za a b f qu m p q i) (fun _ => True) := by
  unfold f_M_farthest
  refine Ok.b1 (t_isKey g p q) (fun v1 h1 => Ok.ite (fun _ => Ok.t) (fun n1 => ?_))
  rw [m_in, q_b1_s]
  refine Ok.ite (fun _ => Ok.t) (fun _ => ?_)
  obtain ⟨l, k, hl, rfl, rfl, hk⟩ := h1 n1
  rw [t_isGreat g hl, q_b1_s]
  by_cases h : 2130 * (H l * V l) + 2 ≤ 20000
  · rw [if_pos h, if_pos rfl]
    refine Ok.b5 (s_laysSteps g hN hl rfl h hk a b f qu m) (fun v4 v5 f6 f7 v8 _ => Ok.nm (Ok.nm ?_))
    have L : ∀ n j c, j ≤ 2130 * (H l * V l) + 2 → 2130 * (H l * V l) + 2 - j < n → c < 20000 → Ok (f_M_farthest_L44 f6 dp wd za (nI l) n (nI c) (nI j)) (fun x => ∃ c, c < 20000 ∧ x = nI c) := by
      intro n
      induction n with
      | zero => intro j c _ h; omega
      | succ n ih =>
        intro j c hj hn hc
        rw [f_M_farthest_L44, m_sheets g hl, q_b1_s]
        refine Ok.ite (fun _ => Ok.ret ⟨c, hc, rfl⟩) (fun hc2 => ?_)
        rw [nI_leI (by omega) (by omega)] at hc2
        have hx := fun c h => ih (j + 1) c (by omega) (by omega) h
        rw [← nI_1] at hx
        exact Ok.ain (by omega) (by decide) (Ok.ain hc (by decide) (Ok.k1 (fun v => ∃ c, c < 20000 ∧ v = nI c) (fun x => ∃ c, c < 20000 ∧ x = nI c) (fun v hv => by obtain ⟨c, h1, rfl⟩ := hv; exact Ok.nm (hx c h1)) (fun K hK => Ok.ite (fun _ => hK _ ⟨c, hc, rfl⟩) (fun _ => hK _ ⟨j, by omega, rfl⟩))))
    refine Ok.b1 (L N 1 0 (by omega) (by omega) (by omega)) (fun v hv => ?_)
    obtain ⟨c, hc, rfl⟩ := hv
    exact Ok.ite (fun _ => Ok.ain hc (by decide) Ok.t) (fun _ => Ok.t)
  · rw [if_neg h, if_neg (by decide)]; exact Ok.t
end MX
end
