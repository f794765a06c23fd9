section
/-! the reference's grid -/
def MOK (R C H V : Nat → Nat) (cr cq dp wd za : Nat → Int32) : Prop := (∀ l, l < 5 → cr l = nI (R l) ∧ cq l = nI (C l) ∧ dp l = nI (H l) ∧ wd l = nI (V l)) ∧ (∀ q, q < 45 → za q = nI (z_za q)) ∧ CUT R C H V
section MG
variable {R C H V : Nat → Nat} {cr cq dp wd za : Nat → Int32} {N l : Nat}
theorem m_sheets (g : MOK R C H V cr cq dp wd za) (hl : l < 5) : f_M_sheets dp wd za (nI l) = some (nI (2130 * (H l * V l) + 2)) := by
  obtain ⟨-, -, e3, e4⟩ := g.1 l hl
  unfold f_M_sheets
  rw [z_ai hl (by omega), z_ai hl (by omega), z_i 44, z_ai (by omega) (by omega), e3, e4, g.2.1 44 (by omega), z_za_44, pk_mul, pk_mul, z_i 2, nI_add, Nat.add_comm, Nat.mul_comm _ 2130]
theorem m_zonesOf : ∀ q, q < 44 → f_M_zonesOf (nI q) = some (nI (z_bz q)) := by decide +kernel
theorem m_lastRow (g : MOK R C H V cr cq dp wd za) (hl : l < 5) : f_M_lastRow dp (nI l) = some (nI (44 * H l + 1)) := by
  have hv := g.2.2.hv hl
  obtain ⟨-, -, e3, e4⟩ := g.1 l hl
  unfold f_M_lastRow f_M_rows
  rw [z_ai hl (by omega), e3, z_i 44, pk_mul, z_i 2, nI_add, q_b1_s, z_sub1 (by omega), show 2 + 44 * H l - 1 = 44 * H l + 1 by omega]
theorem m_bandOf (g : MOK R C H V cr cq dp wd za) (hl : l < 5) {r : Nat} (h1 : 1 ≤ r) (hr : r ≤ 44 * H l) : f_M_bandOf dp (nI l) (nI r) = some (nI ((r - 1) / H l)) := by
  have hv := g.2.2.hv hl
  have hp := g.2.2.pos l hl
  obtain ⟨-, -, e3, e4⟩ := g.1 l hl
  unfold f_M_bandOf
  rw [z_ai hl (by omega), e3, z_sub1 h1, z_dv (by omega) (by omega) (by omega)]
theorem m_many (g : MOK R C H V cr cq dp wd za) (hl : l < 5) {r : Nat} (hr : r ≤ 44 * H l + 1) : f_M_many dp wd (nI l) (nI r) = some (nI (z_rl (H l) (V l) r)) := by
  have hv := g.2.2.hv hl
  have hp := g.2.2.pos l hl
  obtain ⟨-, -, e3, e4⟩ := g.1 l hl
  unfold f_M_many z_rl
  rw [z_j0]
  by_cases h0 : r = 0
  · subst h0; rw [if_pos (by decide), if_pos (Or.inl rfl)]; rfl
  · rw [if_neg (by rw [z_eq0 (by omega)]; exact h0), m_lastRow g hl, q_b1_s]
    by_cases h1 : r = 44 * H l + 1
    · rw [if_pos (by rw [h1]), if_pos (Or.inr h1)]; rfl
    · have hq := z_q (r := r) (H := H l) (by omega) (by omega)
      rw [if_neg (by rw [nI_eq (by omega) (by omega)]; exact h1), if_neg (by omega), m_bandOf g hl (by omega) (by omega), q_b1_s, m_zonesOf _ hq, q_b1_s, z_ai hl (by omega), e4, pk_mul]
theorem m_keyOf (g : MOK R C H V cr cq dp wd za) (hl : l < 5) {r p : Nat} (hr : r ≤ 44 * H l + 1) (hp0 : p < z_rl (H l) (V l) r) : f_M_keyOf dp wd za (nI l) (nI r) (nI p) = some (nI (z_rs (H l) (V l) r + p)) := by
  have hv := g.2.2.hv hl
  have hp := g.2.2.pos l hl
  obtain ⟨-, -, e3, e4⟩ := g.1 l hl
  unfold f_M_keyOf
  unfold z_rl at hp0
  unfold z_rs
  by_cases h0 : r = 0
  · subst h0
    rw [if_pos (Or.inl rfl)] at hp0
    have : p = 0 := by omega
    subst this
    rw [if_pos (by decide), if_pos rfl]; rfl
  · rw [if_neg (by rw [z_eq0 (by omega)]; exact h0), if_neg h0, m_lastRow g hl, q_b1_s]
    by_cases h1 : r = 44 * H l + 1
    · rw [if_pos (Or.inr h1)] at hp0
      have : p = 0 := by omega
      subst this
      rw [if_pos (by rw [h1]), if_pos h1, m_sheets g hl, q_b1_s, z_sub1 (by omega), Nat.add_sub_assoc (by omega)]
    · have hq := z_q (r := r) (H := H l) (by omega) (by omega)
      rw [if_neg (by rw [nI_eq (by omega) (by omega)]; exact h1), if_neg h1, m_bandOf g hl (by omega) (by omega), q_b1_s, z_ai hl (by omega), z_ai hl (by omega), z_ai (by omega) (by omega), m_zonesOf _ hq, q_b1_s, z_ai hl (by omega), e3, e4, g.2.1 _ (by omega), z_sub1 (by omega), z_rm (by omega) (by omega) (by omega), pk_mul, pk_mul, nI_add, pk_mul, z_i 1, nI_add, nI_add]
      congr 3
      rw [Nat.mul_comm (H l), Nat.mul_comm (z_bz _), Nat.mul_comm (V l)]
theorem m_rowOf_L {each q k : Nat} (he : each ≤ 9390) (hq : q < 44) (hza : ∀ q, q < 45 → za q = nI (z_za q)) (h1 : each * z_za q ≤ k) (h2 : k < each * z_za (q + 1)) (hk : k < 20000000) : ∀ n i, i ≤ q → q - i < n → f_M_rowOf_L40 za (nI (k + 1)) (nI each) n (nI i) = some (nI q) := by
  intro n
  induction n with
  | zero => intro i _ h; omega
  | succ n ih =>
    intro i hi hn
    have hb : each * z_za (i + 1) ≤ 9390 * 2130 := Nat.mul_le_mul he (z_za_le (i + 1) (by omega))
    rw [f_M_rowOf_L40, nI_1, z_ai (by omega) (by omega), hza _ (by omega), pk_mul, z_sub1 (by omega), Nat.add_sub_cancel]
    by_cases hc : i = q
    · subst hc
      rw [if_pos (by rw [nI_ltI (by omega) (by omega)]; exact h2)]
    · have hm : each * z_za (i + 1) ≤ each * z_za q := by
        apply Nat.mul_le_mul_left
        rcases Nat.lt_or_ge (i + 1) q with h | h
        · exact Nat.le_of_lt (z_za_mono q (by omega) _ h)
        · have : i + 1 = q := by omega
          rw [this]; exact Nat.le_refl _
      rw [if_neg (by rw [nI_ltI (by omega) (by omega)]; omega), z_nm]
      exact ih (i + 1) (by omega) (by omega)
theorem m_rowOf (g : MOK R C H V cr cq dp wd za) (hN : 50 ≤ N) (hl : l < 5) {k : Nat} (hk : k < 2130 * (H l * V l) + 2) : ∃ r, f_M_rowOf N dp wd za (nI l) (nI k) = some (nI r) ∧ r ≤ 44 * H l + 1 ∧ z_rs (H l) (V l) r ≤ k ∧ k < z_rs (H l) (V l) r + z_rl (H l) (V l) r := by
  obtain ⟨-, -, e3, e4⟩ := g.1 l hl
  have hv := g.2.2.hv hl
  have hp := g.2.2.pos l hl
  have hs := g.2.2.sh hl
  unfold f_M_rowOf
  by_cases h0 : k = 0
  · subst h0
    refine ⟨0, ?_, by omega, ?_, ?_⟩
    · rw [if_pos (by decide)]; rfl
    · unfold z_rs; rw [if_pos rfl]; omega
    · unfold z_rs z_rl; rw [if_pos rfl, if_pos (Or.inl rfl)]; omega
  · rw [if_neg (by rw [z_eq0 (by omega)]; exact h0), m_sheets g hl, q_b1_s, z_sub1 (by omega)]
    by_cases h1 : k = 2130 * (H l * V l) + 1
    · refine ⟨44 * H l + 1, ?_, Nat.le_refl _, ?_, ?_⟩
      · rw [if_pos (by rw [h1, Nat.add_sub_assoc (by omega)]), m_lastRow g hl, q_b1_s]
      · rw [z_rs_last hp.1]; omega
      · rw [z_rs_last hp.1, z_rl_last]; omega
    · have hHV : 0 < H l * V l := Nat.mul_pos hp.1 hp.2
      have hz : (k - 1) / (H l * V l) < 2130 := Nat.div_lt_of_lt_mul (by rw [Nat.mul_comm]; omega)
      obtain ⟨q, hq, q1, q2⟩ := z_band_ex _ hz
      have hb := z_bz_in q hq
      have c1 : z_za q * (H l * V l) ≤ k - 1 := by
        have := Nat.mul_le_mul_right (H l * V l) q1
        have := Nat.div_mul_le_self (k - 1) (H l * V l)
        omega
      have c2 : k - 1 < z_za (q + 1) * (H l * V l) := Nat.lt_mul_of_div_lt q2 hHV
      have c2' := c2
      rw [z_za_succ q hq, Nat.add_mul] at c2
      have hL := m_rowOf_L (za := za) (each := H l * V l) (q := q) (k := k - 1) hv.2.2 hq g.2.1 (by rw [Nat.mul_comm]; exact c1) (by rw [Nat.mul_comm]; exact c2') (by omega) N 0 (by omega) (by omega)
      rw [show k - 1 + 1 = k by omega] at hL
      have hbV : 0 < z_bz q * V l := Nat.mul_pos (by omega) hp.2
      have hbV2 : z_bz q * V l ≤ 60 * V l := Nat.mul_le_mul_right _ hb.2
      generalize hin : k - 1 - z_za q * (H l * V l) = inb at *
      have hin2 : inb < z_bz q * V l * H l := by
        have : z_bz q * (H l * V l) = z_bz q * V l * H l := by rw [Nat.mul_comm (H l), Nat.mul_assoc]
        omega
      have hm : inb / (z_bz q * V l) < H l := Nat.div_lt_of_lt_mul hin2
      generalize hme : inb / (z_bz q * V l) = m at *
      have d1 : (q * H l + m) / H l = q := by rw [Nat.mul_comm q, Nat.mul_add_div hp.1, Nat.div_eq_of_lt hm, Nat.add_zero]
      have d2 : (q * H l + m) % H l = m := by rw [Nat.mul_comm q, Nat.mul_add_mod, Nat.mod_eq_of_lt hm]
      have hqH : q * H l ≤ 43 * H l := Nat.mul_le_mul_right _ (by omega)
      have ers : z_rs (H l) (V l) (1 + q * H l + m) = 1 + (z_za q * H l + m * z_bz q) * V l := by
        unfold z_rs
        rw [if_neg (by omega), if_neg (by omega), show 1 + q * H l + m - 1 = q * H l + m by omega, d1, d2]
      have erl : z_rl (H l) (V l) (1 + q * H l + m) = z_bz q * V l := by
        unfold z_rl
        rw [if_neg (by omega), show 1 + q * H l + m - 1 = q * H l + m by omega, d1]
      have eq1 : (z_za q * H l + m * z_bz q) * V l = z_za q * (H l * V l) + m * (z_bz q * V l) := by
        rw [Nat.add_mul, Nat.mul_assoc, Nat.mul_assoc]
      have m1 : m * (z_bz q * V l) ≤ inb := by rw [← hme]; exact Nat.div_mul_le_self _ _
      have m2 : inb < m * (z_bz q * V l) + z_bz q * V l := by
        have := Nat.lt_div_mul_add (a := inb) hbV
        rw [hme] at this; exact this
      refine ⟨1 + q * H l + m, ?_, by omega, ?_, ?_⟩
      · rw [if_neg (by rw [nI_eq (by omega) (by omega)]; omega), z_nm, z_ai hl (by omega), e3, z_ai hl (by omega), e4, pk_mul, z_nm, show (0 : Int32) = nI 0 from rfl, hL, q_b1_s, z_ai hl (by omega), e3, z_ai (by omega) (by omega), g.2.1 q (by omega), m_zonesOf q hq, q_b1_s, z_ai hl (by omega), e4, z_sub1 (by omega), pk_mul, Nat.mul_comm (H l * V l), pk_sub c1, hin, pk_mul, z_dv (by omega) hbV (by omega), hme, pk_mul, z_i 1, nI_add, nI_add]
      · rw [ers, eq1]; omega
      · rw [ers, erl, eq1]; omega
theorem m_placeOf (g : MOK R C H V cr cq dp wd za) (hN : 50 ≤ N) (hl : l < 5) {k r : Nat} (hr : r ≤ 44 * H l + 1) (h1 : z_rs (H l) (V l) r ≤ k) (h2 : k < z_rs (H l) (V l) r + z_rl (H l) (V l) r) : f_M_rowOf N dp wd za (nI l) (nI k) = some (nI r) ∧ f_M_placeOf N dp wd za (nI l) (nI k) = some (nI (k - z_rs (H l) (V l) r)) := by
  have hp := g.2.2.pos l hl
  have he := z_rs_end (V := V l) hp.1 hr
  obtain ⟨r2, e, a1, a2, a3⟩ := m_rowOf (N := N) g hN hl (k := k) (by omega)
  have : r2 = r := z_row_one hp.1 a1 hr a2 a3 h1 h2
  subst this
  refine ⟨e, ?_⟩
  unfold f_M_placeOf
  rw [e, q_b1_s, show (0 : Int32) = nI 0 from rfl, m_keyOf g hl hr (by omega), q_b1_s, Nat.add_zero, pk_sub h1]
end MG
end
section
/-! the reference's neighbours -/
theorem z_cmplt {x y : Int64} : lg_cmp x y < 0 ↔ x.toInt < y.toInt := by
  unfold lg_cmp
  by_cases h1 : x > y
  · have := Int64.lt_iff_toInt_lt.mp h1
    rw [if_pos h1]; exact ⟨fun h => absurd h (by decide), fun h => by omega⟩
  · have h1' : ¬ y.toInt < x.toInt := fun z => h1 (Int64.lt_iff_toInt_lt.mpr z)
    rw [if_neg h1]
    by_cases h2 : x = y
    · rw [if_pos h2, h2]; exact ⟨fun h => absurd h (by decide), fun h => by omega⟩
    · rw [if_neg h2]
      have h3 : x.toInt ≠ y.toInt := fun h => h2 (Int64.toInt_inj.mp h)
      exact ⟨fun _ => by omega, fun _ => by decide⟩
theorem z_cmpgt {x y : Int64} : 0 < lg_cmp x y ↔ y.toInt < x.toInt := by
  unfold lg_cmp
  by_cases h1 : x > y
  · have := Int64.lt_iff_toInt_lt.mp h1
    rw [if_pos h1]; exact ⟨fun _ => by omega, fun _ => by decide⟩
  · have h1' : ¬ y.toInt < x.toInt := fun z => h1 (Int64.lt_iff_toInt_lt.mpr z)
    rw [if_neg h1]
    by_cases h2 : x = y
    · rw [if_pos h2]; exact ⟨fun h => absurd h (by decide), fun h => by omega⟩
    · rw [if_neg h2]; exact ⟨fun h => absurd h (by decide), fun h => by omega⟩
theorem m_in (x a b : Int64) : f_M_in x a b = some (if a.toInt ≤ x.toInt ∧ x.toInt ≤ b.toInt then 1 else 0) := by
  unfold f_M_in
  by_cases h1 : lg_cmp x a < 0
  · rw [if_pos h1]; have := z_cmplt.mp h1; rw [if_neg (by omega)]
  · have h1' : ¬ x.toInt < a.toInt := fun z => h1 (z_cmplt.mpr z)
    rw [if_neg h1]
    by_cases h2 : 0 < lg_cmp x b
    · rw [if_pos h2]; have := z_cmpgt.mp h2; rw [if_neg (by omega)]
    · have h2' : ¬ b.toInt < x.toInt := fun z => h2 (z_cmpgt.mpr z)
      rw [if_neg h2, if_pos (by omega)]
/-- two sheets beside each other: keys by rows and places -/
def z_adj (H0 V0 : Nat) (k k2 : Nat) : Prop := ∃ r p r2 p2, r ≤ 44 * H0 + 1 ∧ r2 ≤ 44 * H0 + 1 ∧ p < z_rl H0 V0 r ∧ p2 < z_rl H0 V0 r2 ∧ k = z_rs H0 V0 r + p ∧ k2 = z_rs H0 V0 r2 + p2 ∧
  (((r2 = r + 1 ∨ r = r2 + 1) ∧ p * z_rl H0 V0 r2 < (p2 + 1) * z_rl H0 V0 r ∧ p2 * z_rl H0 V0 r < (p + 1) * z_rl H0 V0 r2) ∨ (r2 = r ∧ z_rl H0 V0 r ≠ 1 ∧ ((p + 1) % z_rl H0 V0 r = p2 ∨ (p2 + 1) % z_rl H0 V0 r = p)))
theorem z_adj_symm {H0 V0 k k2 : Nat} (h : z_adj H0 V0 k k2) : z_adj H0 V0 k2 k := by
  obtain ⟨r, p, r2, p2, h1, h2, h3, h4, h5, h6, h7⟩ := h
  refine ⟨r2, p2, r, p, h2, h1, h4, h3, h6, h5, ?_⟩
  rcases h7 with ⟨a, b, c⟩ | ⟨a, b, c⟩
  · exact Or.inl ⟨by omega, c, b⟩
  · subst a; exact Or.inr ⟨rfl, b, by omega⟩
section ML
variable {R C H V : Nat → Nat} {cr cq dp wd za : Nat → Int32} {N l : Nat}
/-- to the row ahead or behind -/
theorem m_laysV (g : MOK R C H V cr cq dp wd za) (hN : 50 ≤ N) (hl : l < 5) {r p b : Nat} (hr : r ≤ 44 * H l + 1) (hp : p < z_rl (H l) (V l) r) (hb : b ≤ 44 * H l + 1) (fb mb : Int32) {i : Nat} (hi : (i = 0 ∧ r = b + 1) ∨ (i = 2 ∧ b = r + 1)) :
    f_M_laysBeside N dp wd za fb mb (nI l) (nI (z_rs (H l) (V l) r + p)) (nI i) = some (nI (z_rs (H l) (V l) b + p * z_rl (H l) (V l) b / z_rl (H l) (V l) r), nI (((p + 1) * z_rl (H l) (V l) b + z_rl (H l) (V l) r - 1) / z_rl (H l) (V l) r - p * z_rl (H l) (V l) b / z_rl (H l) (V l) r)) := by
  have hv := g.2.2.hv hl
  have hps := g.2.2.pos l hl
  have la := z_rl_pos hps.1 hps.2 hr
  have lb := z_rl_pos hps.1 hps.2 hb
  have hre := z_rs_end (V := V l) hps.1 hr
  obtain ⟨e1, e2⟩ := m_placeOf (N := N) g hN hl hr (k := z_rs (H l) (V l) r + p) (by omega) (by omega)
  have e3 := m_many g hl hr
  have e4 := m_many g hl hb
  have e5 := fun x hx => m_keyOf g hl hb (p := x) hx
  rw [show z_rs (H l) (V l) r + p - z_rs (H l) (V l) r = p by omega] at e2
  generalize hA : z_rl (H l) (V l) r = a at *
  generalize hB : z_rl (H l) (V l) b = t at *
  have m1 : p * t + t ≤ a * t := by
    have := Nat.mul_le_mul_right t (show p + 1 ≤ a by omega)
    rw [Nat.add_mul, Nat.one_mul] at this; exact this
  have m2 : a * t ≤ (60 * V l) * t := Nat.mul_le_mul_right t la.2
  have m3 : (60 * V l) * t ≤ (60 * V l) * (60 * V l) := Nat.mul_le_mul_left _ lb.2
  have m4 : (60 * V l) * (60 * V l) ≤ (60 * 9390) * (60 * 9390) := Nat.mul_le_mul (by omega) (by omega)
  have e6 : (p + 1) * t = p * t + t := by rw [Nat.add_mul, Nat.one_mul]
  have hd : p * t / a < t := by
    apply Nat.div_lt_of_lt_mul; omega
  have hd2 : p * t / a ≤ ((p + 1) * t + a - 1) / a := Nat.div_le_div_right (by omega)
  have hd3 : ((p + 1) * t + a - 1) / a ≤ t := by
    rw [Nat.div_le_iff_le_mul_add_pred (by omega)]; omega
  have hrow : ∀ x, x = nI b → (q_b1 (f_M_lastRow dp (nI l)) (fun (v6 : Int32) =>
    q_b1 (f_M_in (x : Int32).toInt64 0 v6.toInt64) (fun (v7 : Int32) =>
    if v7 = 0 then (
    some (fb, 0)) else (
    q_b1 (f_M_many dp wd (nI l) x) (fun (v8 : Int32) =>
    q_nm (v8.toInt64 : Int64) (fun (v9 : Int64) =>
    q_dvl ((nI p).toInt64 * v9) (nI a).toInt64 (fun (v10 : Int64) =>
    q_dvl (((((nI p + 1).toInt64) * v9) + (nI a).toInt64) - 1) (nI a).toInt64 (fun (v11 : Int64) =>
    q_b1 (f_M_keyOf dp wd za (nI l) x v10.toInt32) (fun (v12 : Int32) =>
    q_nm ((v11 - v10).toInt32 : Int32) (fun (v13 : Int32) =>
    some (v12, v13)))))))))) : Option (Int32 × Int32)) = some (nI (z_rs (H l) (V l) b + p * t / a), nI (((p + 1) * t + a - 1) / a - p * t / a)) := by
    intro x hx
    subst hx
    have hin : f_M_in (nI b).toInt64 0 (nI (44 * H l + 1)).toInt64 = some 1 := by
      rw [m_in, z_i64 (by omega), z_i64 (by omega), show (0 : Int64).toInt = 0 from rfl, if_pos (by omega)]
    rw [m_lastRow g hl, q_b1_s, hin, q_b1_s, if_neg (by decide), e4, q_b1_s, z_nm, nI_1, nI_l (by omega), nI_l (by omega), nI_l (by omega), nI_l (by omega), lN_mul, z_dvl (by omega) (by omega) (by omega), lN_mul, lN_add, z_l 1, lN_sub (by omega), z_dvl (by omega) (by omega) (by omega), lN_i, e5 _ hd, q_b1_s, z_nm, lN_sub hd2, lN_i]
  unfold f_M_laysBeside
  rw [e1, q_b1_s, e2, q_b1_s, e3, q_b1_s]
  rcases hi with ⟨rfl, hrb⟩ | ⟨rfl, hrb⟩
  · rw [z_i 2, z_rm (by omega) (by omega) (by omega), if_neg (by decide), z_j1, if_pos (by decide)]
    exact hrow _ (by rw [z_sub1 (by omega)]; congr 1; omega)
  · rw [z_i 2, z_rm (by omega) (by omega) (by omega), if_neg (by decide), z_j1, if_neg (by decide)]
    exact hrow _ (by rw [nI_1, hrb])
/-- no row there -/
theorem m_lays0 (g : MOK R C H V cr cq dp wd za) (hN : 50 ≤ N) (hl : l < 5) {r p : Nat} (hr : r ≤ 44 * H l + 1) (hp : p < z_rl (H l) (V l) r) (fb mb : Int32) {i : Nat} (hi : (i = 0 ∧ r = 0) ∨ (i = 2 ∧ r = 44 * H l + 1)) :
    f_M_laysBeside N dp wd za fb mb (nI l) (nI (z_rs (H l) (V l) r + p)) (nI i) = some (fb, 0) := by
  have hv := g.2.2.hv hl
  have hps := g.2.2.pos l hl
  have hre := z_rs_end (V := V l) hps.1 hr
  obtain ⟨e1, e2⟩ := m_placeOf (N := N) g hN hl hr (k := z_rs (H l) (V l) r + p) (by omega) (by omega)
  have e3 := m_many g hl hr
  unfold f_M_laysBeside
  rw [e1, q_b1_s, e2, q_b1_s, e3, q_b1_s]
  rcases hi with ⟨rfl, hrb⟩ | ⟨rfl, hrb⟩
  · rw [z_i 2, z_rm (by omega) (by omega) (by omega), if_neg (by decide), z_j1, if_pos (by decide)]
    dsimp only
    rw [m_lastRow g hl, q_b1_s, m_in, hrb, z_i64 (by omega), show (nI 0 - 1).toInt64.toInt = -1 by decide, show (0 : Int64).toInt = 0 from rfl, if_neg (by omega), q_b1_s, if_pos rfl]
  · rw [z_i 2, z_rm (by omega) (by omega) (by omega), if_neg (by decide), z_j1, if_neg (by decide)]
    dsimp only
    rw [m_lastRow g hl, q_b1_s, nI_1, m_in, z_i64 (by omega), z_i64 (by omega), if_neg (by omega), q_b1_s, if_pos rfl]
/-- along its own row -/
theorem m_laysH (g : MOK R C H V cr cq dp wd za) (hN : 50 ≤ N) (hl : l < 5) {r p : Nat} (hr : r ≤ 44 * H l + 1) (hp : p < z_rl (H l) (V l) r) (fb mb : Int32) {i by1 : Nat} (hi : (i = 1 ∧ by1 = 1) ∨ (i = 3 ∧ by1 = z_rl (H l) (V l) r - 1)) :
    f_M_laysBeside N dp wd za fb mb (nI l) (nI (z_rs (H l) (V l) r + p)) (nI i) = some (if z_rl (H l) (V l) r = 1 then (fb, 0) else (nI (z_rs (H l) (V l) r + (p + by1) % z_rl (H l) (V l) r), 1)) := by
  have hv := g.2.2.hv hl
  have hps := g.2.2.pos l hl
  have la := z_rl_pos hps.1 hps.2 hr
  have hre := z_rs_end (V := V l) hps.1 hr
  obtain ⟨e1, e2⟩ := m_placeOf (N := N) g hN hl hr (k := z_rs (H l) (V l) r + p) (by omega) (by omega)
  have e3 := m_many g hl hr
  have e5 := fun x hx => m_keyOf g hl hr (p := x) hx
  rw [show z_rs (H l) (V l) r + p - z_rs (H l) (V l) r = p by omega] at e2
  generalize hA : z_rl (H l) (V l) r = a at *
  have hm := Nat.mod_lt (p + by1) (show 0 < a by omega)
  have hi3 : i % 2 = 1 ∧ i < 4 := by omega
  unfold f_M_laysBeside
  rw [e1, q_b1_s, e2, q_b1_s, e3, q_b1_s, z_i 2, z_rm (by omega) (by omega) (by omega), hi3.1, if_pos (by decide)]
  by_cases h1 : a = 1
  · rw [if_pos (by rw [h1]; rfl), if_pos h1]
  · rw [if_neg (by rw [z_i 1, nI_eq (by omega) (by omega)]; exact h1), if_neg h1, z_j1]
    have fin : ∀ x, x = nI by1 → (q_rm (nI p + x) (nI a) (fun (v15 : Int32) => q_b1 (f_M_keyOf dp wd za (nI l) (nI r) v15) (fun (v16 : Int32) => some (v16, 1))) : Option (Int32 × Int32)) = some (nI (z_rs (H l) (V l) r + (p + by1) % a), 1) := by
      intro x hx
      subst hx
      rw [nI_add, z_rm (by omega) (by omega) (by omega), e5 _ hm, q_b1_s]
    rcases hi with ⟨rfl, hb⟩ | ⟨rfl, hb⟩
    · rw [if_pos (by decide)]
      exact fin _ (by rw [hb]; rfl)
    · rw [if_neg (by decide)]
      exact fin _ (by rw [hb, z_sub1 la.1])
/-- to a side: from which key on, how many; all are beside -/
theorem s_lays (g : MOK R C H V cr cq dp wd za) (hN : 50 ≤ N) (hl : l < 5) {k : Nat} (hk : k < 2130 * (H l * V l) + 2) (fb mb : Int32) {i : Nat} (hi : i < 4) :
    Ok (f_M_laysBeside N dp wd za fb mb (nI l) (nI k) (nI i)) (fun x => ∃ F M, x.2 = nI M ∧ (M ≠ 0 → x.1 = nI F) ∧ F + M ≤ 2130 * (H l * V l) + 2 ∧ M ≤ 563400 ∧ ∀ j, j < M → z_adj (H l) (V l) k (F + j)) := by
  have hv := g.2.2.hv hl
  have hps := g.2.2.pos l hl
  obtain ⟨r, -, hr, h1, h2⟩ := m_rowOf (N := N) g hN hl hk
  obtain ⟨p, rfl⟩ : ∃ p, k = z_rs (H l) (V l) r + p := ⟨k - z_rs (H l) (V l) r, by omega⟩
  have hp : p < z_rl (H l) (V l) r := by omega
  have la := z_rl_pos hps.1 hps.2 hr
  have hre := z_rs_end (V := V l) hps.1 hr
  have vert : ∀ b, b ≤ 44 * H l + 1 → ((i = 0 ∧ r = b + 1) ∨ (i = 2 ∧ b = r + 1)) → Ok (f_M_laysBeside N dp wd za fb mb (nI l) (nI (z_rs (H l) (V l) r + p)) (nI i)) (fun x => ∃ F M, x.2 = nI M ∧ (M ≠ 0 → x.1 = nI F) ∧ F + M ≤ 2130 * (H l * V l) + 2 ∧ M ≤ 563400 ∧ ∀ j, j < M → z_adj (H l) (V l) (z_rs (H l) (V l) r + p) (F + j)) := by
    intro b hb hib
    have e := m_laysV g hN hl hr hp hb fb mb hib
    have lb := z_rl_pos hps.1 hps.2 hb
    have hbe := z_rs_end (V := V l) hps.1 hb
    refine ⟨_, e, _, _, rfl, fun _ => rfl, ?_, ?_, ?_⟩
    all_goals
      have hd3 : ((p + 1) * z_rl (H l) (V l) b + z_rl (H l) (V l) r - 1) / z_rl (H l) (V l) r ≤ z_rl (H l) (V l) b := by
        have m1 : (p + 1) * z_rl (H l) (V l) b ≤ z_rl (H l) (V l) r * z_rl (H l) (V l) b := Nat.mul_le_mul_right _ (by omega)
        rw [Nat.div_le_iff_le_mul_add_pred (by omega)]; omega
      have hd2 : p * z_rl (H l) (V l) b / z_rl (H l) (V l) r ≤ ((p + 1) * z_rl (H l) (V l) b + z_rl (H l) (V l) r - 1) / z_rl (H l) (V l) r := Nat.div_le_div_right (by rw [Nat.add_mul, Nat.one_mul]; omega)
    · omega
    · exact Nat.le_trans (Nat.sub_le _ _) (Nat.le_trans hd3 (by omega))
    · intro j hj
      refine ⟨r, p, b, p * z_rl (H l) (V l) b / z_rl (H l) (V l) r + j, hr, hb, hp, by omega, rfl, by omega, Or.inl ⟨by omega, ?_, ?_⟩⟩
      · have := Nat.lt_div_mul_add (a := p * z_rl (H l) (V l) b) (show 0 < z_rl (H l) (V l) r by omega)
        have h3 : (p * z_rl (H l) (V l) b / z_rl (H l) (V l) r + 1) * z_rl (H l) (V l) r ≤ (p * z_rl (H l) (V l) b / z_rl (H l) (V l) r + j + 1) * z_rl (H l) (V l) r := Nat.mul_le_mul_right _ (by omega)
        rw [Nat.add_mul _ 1, Nat.one_mul] at h3
        omega
      · have h3 : p * z_rl (H l) (V l) b / z_rl (H l) (V l) r + j + 1 ≤ ((p + 1) * z_rl (H l) (V l) b + z_rl (H l) (V l) r - 1) / z_rl (H l) (V l) r := by omega
        have h4 := Nat.mul_le_mul_right (z_rl (H l) (V l) r) h3
        have h5 := Nat.div_mul_le_self ((p + 1) * z_rl (H l) (V l) b + z_rl (H l) (V l) r - 1) (z_rl (H l) (V l) r)
        rw [Nat.add_mul _ 1, Nat.one_mul] at h4
        omega
  have none0 : ((i = 0 ∧ r = 0) ∨ (i = 2 ∧ r = 44 * H l + 1)) → Ok (f_M_laysBeside N dp wd za fb mb (nI l) (nI (z_rs (H l) (V l) r + p)) (nI i)) (fun x => ∃ F M, x.2 = nI M ∧ (M ≠ 0 → x.1 = nI F) ∧ F + M ≤ 2130 * (H l * V l) + 2 ∧ M ≤ 563400 ∧ ∀ j, j < M → z_adj (H l) (V l) (z_rs (H l) (V l) r + p) (F + j)) := by
    intro hi
    exact ⟨_, m_lays0 g hN hl hr hp fb mb hi, 0, 0, rfl, fun z => absurd rfl z, by omega, by omega, fun j hj => by omega⟩
  have hor : ∀ by1, ((i = 1 ∧ by1 = 1) ∨ (i = 3 ∧ by1 = z_rl (H l) (V l) r - 1)) → Ok (f_M_laysBeside N dp wd za fb mb (nI l) (nI (z_rs (H l) (V l) r + p)) (nI i)) (fun x => ∃ F M, x.2 = nI M ∧ (M ≠ 0 → x.1 = nI F) ∧ F + M ≤ 2130 * (H l * V l) + 2 ∧ M ≤ 563400 ∧ ∀ j, j < M → z_adj (H l) (V l) (z_rs (H l) (V l) r + p) (F + j)) := by
    intro by1 hb
    have e := m_laysH g hN hl hr hp fb mb hb
    have hm := Nat.mod_lt (p + by1) (show 0 < z_rl (H l) (V l) r by omega)
    by_cases h1 : z_rl (H l) (V l) r = 1
    · rw [if_pos h1] at e
      exact ⟨_, e, 0, 0, rfl, fun z => absurd rfl z, by omega, by omega, fun j hj => by omega⟩
    · rw [if_neg h1] at e
      refine ⟨_, e, _, 1, rfl, fun _ => rfl, by omega, by omega, fun j hj => ?_⟩
      have : j = 0 := by omega
      subst this
      refine ⟨r, p, r, (p + by1) % z_rl (H l) (V l) r, hr, hr, hp, hm, rfl, rfl, Or.inr ⟨rfl, h1, ?_⟩⟩
      rcases hb with ⟨-, rfl⟩ | ⟨-, hb⟩
      · exact Or.inl rfl
      · right
        rw [Nat.mod_add_mod, hb, show p + (z_rl (H l) (V l) r - 1) + 1 = p + z_rl (H l) (V l) r by omega, Nat.add_mod_right, Nat.mod_eq_of_lt hp]
  rcases (show i = 0 ∨ i = 1 ∨ i = 2 ∨ i = 3 by omega) with h | h | h | h
  · rcases Nat.eq_zero_or_pos r with h0 | h0
    · exact none0 (Or.inl ⟨h, h0⟩)
    · exact vert (r - 1) (by omega) (Or.inl ⟨h, by omega⟩)
  · exact hor 1 (Or.inl ⟨h, rfl⟩)
  · by_cases h0 : r = 44 * H l + 1
    · exact none0 (Or.inr ⟨h, h0⟩)
    · exact vert (r + 1) (by omega) (Or.inr ⟨h, rfl⟩)
  · exact hor _ (Or.inr ⟨h, rfl⟩)
end ML
end
section
/-! the reference's steps: what is known of distances and queue -/
def z_cnt (f : Nat → Int32) : Nat → Nat
  | 0 => 0
  | n + 1 => z_cnt f n + (if f n = -1 then 0 else 1)
theorem z_cnt_le (f : Nat → Int32) : ∀ n, z_cnt f n ≤ n := by
  intro n
  induction n with
  | zero => exact Nat.le_refl 0
  | succ n ih => unfold z_cnt; split <;> omega
theorem z_cnt_lt {f : Nat → Int32} {k : Nat} (h : f k = -1) : ∀ n, k < n → z_cnt f n < n := by
  intro n
  induction n with
  | zero => intro h; omega
  | succ n ih =>
    intro hk
    have := z_cnt_le f n
    unfold z_cnt
    by_cases e : n = k
    · subst e; rw [if_pos h]; omega
    · have := ih (by omega)
      split <;> omega
theorem z_cnt_same {f f2 : Nat → Int32} : ∀ n, (∀ j, j < n → f2 j = f j) → z_cnt f2 n = z_cnt f n := by
  intro n
  induction n with
  | zero => intro _; rfl
  | succ n ih =>
    intro h
    unfold z_cnt
    rw [ih (fun j hj => h j (by omega)), h n (by omega)]
theorem z_cnt_upd {f : Nat → Int32} {k : Nat} {x : Int32} (h : f k = -1) (hx : x ≠ -1) : ∀ n, k < n → z_cnt (upd f k x) n = z_cnt f n + 1 := by
  intro n
  induction n with
  | zero => intro h; omega
  | succ n ih =>
    intro hk
    unfold z_cnt
    by_cases e : n = k
    · subst e
      rw [z_updS, if_neg hx, if_pos h, z_cnt_same n (fun j hj => z_updN (by omega))]
    · rw [z_updN e, ih (by omega)]; omega
theorem z_cnt_none {f : Nat → Int32} : ∀ n, (∀ j, j < n → f j = -1) → z_cnt f n = 0 := by
  intro n
  induction n with
  | zero => intro _; rfl
  | succ n ih =>
    intro h
    unfold z_cnt
    rw [ih (fun j hj => h j (by omega)), if_pos (h n (by omega))]
theorem z_nIm1 {d : Nat} (h : d < 2 ^ 31) : nI d ≠ -1 := by
  intro e
  have := congrArg Int32.toInt e
  rw [nI_toInt h, show (-1 : Int32).toInt = -1 from rfl] at this
  omega
def z_bfs (A : Nat → Nat → Prop) (tot : Nat) (f qu : Nat → Int32) (e : Nat) : Prop :=
  z_cnt f tot = e ∧ (∀ j, j < e → ∃ k, k < tot ∧ qu j = nI k ∧ f k ≠ -1) ∧ (∀ k, k < tot → f k = -1 ∨ ∃ d, d < e ∧ f k = nI d) ∧
  (∀ k, k < tot → ∀ d, d + 1 < 2 ^ 31 → f k = nI (d + 1) → ∃ k2, k2 < tot ∧ A k2 k ∧ f k2 = nI d)
theorem s_meets {A : Nat → Nat → Prop} {tot : Nat} (ht : tot ≤ 20000) {f qu : Nat → Int32} {e : Nat} (h : z_bfs A tot f qu e) {k : Nat} (hk : k < tot) {d : Nat} (hd : d ≤ e) (hb : d = 0 ∨ ∃ k2, k2 < tot ∧ A k2 k ∧ f k2 = nI (d - 1)) :
    Ok (f_M_meets f qu (nI e) (nI k) (nI d)) (fun x => ∃ e2, x.2.2 = nI e2 ∧ z_bfs A tot x.1 x.2.1 e2 ∧ e ≤ e2 ∧ x.1 k ≠ -1 ∧ ∀ j, f j ≠ -1 → x.1 j = f j) := by
  obtain ⟨h1, h2, h3, h4⟩ := h
  have hc := z_cnt_le f tot
  unfold f_M_meets
  rw [z_ai (by omega) (by omega)]
  refine Ok.ite (fun hm => ?_) (fun hm => Ok.ret ⟨e, rfl, ⟨h1, h2, h3, h4⟩, Nat.le_refl e, hm, fun _ _ => rfl⟩)
  have hlt := z_cnt_lt hm tot hk
  refine Ok.asn (by omega) (by decide) (Ok.asn (by omega) (by decide) (Ok.nm (Ok.ret ⟨e + 1, nI_1 e, ⟨?_, ?_, ?_, ?_⟩, by omega, ?_, ?_⟩)))
  · dsimp only
    rw [z_cnt_upd hm (z_nIm1 (by omega)) tot hk, h1]
  · intro j hj
    dsimp only
    by_cases ej : j = e
    · subst ej
      exact ⟨k, hk, z_updS, by rw [z_updS]; exact z_nIm1 (by omega)⟩
    · obtain ⟨q, q1, q2, q3⟩ := h2 j (by omega)
      refine ⟨q, q1, by rw [z_updN ej]; exact q2, ?_⟩
      have : q ≠ k := fun z => q3 (by rw [z]; exact hm)
      rw [z_updN this]; exact q3
  · intro q hq
    dsimp only
    by_cases eq : q = k
    · subst eq; exact Or.inr ⟨d, by omega, z_updS⟩
    · rw [z_updN eq]
      rcases h3 q hq with z | ⟨d2, z1, z2⟩
      · exact Or.inl z
      · exact Or.inr ⟨d2, by omega, z2⟩
  · intro q hq d2 hd2 hf
    dsimp only at hf ⊢
    have keep : ∀ k2, f k2 ≠ -1 → upd f k (nI d) k2 = f k2 := fun k2 z => z_updN (fun e2 => z (by rw [e2]; exact hm))
    by_cases eq : q = k
    · subst eq
      rw [z_updS, nI_eq (by omega) hd2] at hf
      rcases hb with z | ⟨k2, z1, z2, z3⟩
      · omega
      · refine ⟨k2, z1, z2, ?_⟩
        rw [keep k2 (by rw [z3]; exact z_nIm1 (by omega)), z3]
        congr 1; omega
    · rw [z_updN eq] at hf
      obtain ⟨k2, z1, z2, z3⟩ := h4 q hq d2 hd2 hf
      exact ⟨k2, z1, z2, by rw [keep k2 (by rw [z3]; exact z_nIm1 (by omega))]; exact z3⟩
  · dsimp only
    rw [z_updS]; exact z_nIm1 (by omega)
  · intro j hj
    dsimp only
    exact z_updN (fun e2 => hj (by rw [e2]; exact hm))
end
section
/-! the reference's steps: no stop -/
section MS
variable {R C H V : Nat → Nat} {cr cq dp wd za : Nat → Int32} {N l tot : Nat}
theorem s_steps_L74 {A : Nat → Nat → Prop} (ht : tot ≤ 20000) {key F M dk : Nat} {x : Int32} (hk : key < tot) (hx : M ≠ 0 → x = nI F) (hF : F + M ≤ tot) (hA : ∀ j, j < M → A key (F + j)) : ∀ n i e (f qu : Nat → Int32), i ≤ M → M - i < n → z_bfs A tot f qu e → f key = nI dk → dk < e →
    Ok (f_M_laysSteps_L74 (nI key) x (nI M) n (nI i) f qu (nI e)) (fun y => ∃ e2, y.2.2 = nI e2 ∧ z_bfs A tot y.1 y.2.1 e2 ∧ e ≤ e2 ∧ y.1 key = nI dk) := by
  intro n
  induction n with
  | zero => intro i e f qu _ h; omega
  | succ n ih =>
    intro i e f qu hi hn hb hf hd
    have he := z_cnt_le f tot
    rw [hb.1] at he
    rw [f_M_laysSteps_L74]
    refine Ok.ite (fun _ => Ok.ret ⟨e, rfl, hb, Nat.le_refl e, hf⟩) (fun hc => ?_)
    rw [nI_leI (by omega) (by omega)] at hc
    have hx' := hx (by omega)
    subst hx'
    rw [z_ai (by omega) (by omega), hf, nI_1, nI_add]
    refine Ok.b3 (s_meets ht hb (k := F + i) (by omega) (d := dk + 1) (by omega) (Or.inr ⟨key, hk, hA i (by omega), by rw [hf]; rfl⟩)) (fun f2 q2 v h => ?_)
    obtain ⟨e2, h1, h2, h3, -, h5⟩ := h
    dsimp only at h1 h2 h5
    subst h1
    rw [z_nm, nI_1]
    refine Ok.weak (ih (i + 1) e2 f2 q2 (by omega) (by omega) h2 (by rw [h5 key (by rw [hf]; exact z_nIm1 (by omega))]; exact hf) (by omega)) (fun y hy => ?_)
    obtain ⟨e3, y1, y2, y3, y4⟩ := hy
    exact ⟨e3, y1, y2, by omega, y4⟩
theorem s_steps_L56 (g : MOK R C H V cr cq dp wd za) (hN : 1000000 ≤ N) (hl : l < 5) (ht : tot = 2130 * (H l * V l) + 2) (ht2 : tot ≤ 20000) {key dk : Nat} (hk : key < tot) : ∀ n i e (a b : Int32) (f qu : Nat → Int32), i ≤ 4 → 4 - i < n → z_bfs (z_adj (H l) (V l)) tot f qu e → f key = nI dk → dk < e →
    Ok (f_M_laysSteps_L56 N dp wd za (nI l) (nI key) n (nI i) a b f qu (nI e)) (fun y => ∃ e2, y.2.2.2.2 = nI e2 ∧ z_bfs (z_adj (H l) (V l)) tot y.2.2.1 y.2.2.2.1 e2 ∧ e ≤ e2) := by
  intro n
  induction n with
  | zero => intro i e a b f qu _ h; omega
  | succ n ih =>
    intro i e a b f qu hi hn hb hf hd
    rw [f_M_laysSteps_L56]
    refine Ok.ite (fun _ => Ok.ret ⟨e, rfl, hb, Nat.le_refl e⟩) (fun hc => ?_)
    rw [z_i 4, nI_leI (by omega) (by omega)] at hc
    refine Ok.b2 (s_lays g (by omega) hl (k := key) (by omega) a b (i := i) (by omega)) (fun x1 x2 hx => ?_)
    obtain ⟨F, M, y1, y2, y3, y4, y5⟩ := hx
    dsimp only at y1 y2
    subst y1
    rw [z_nm]
    refine Ok.b3 (s_steps_L74 (A := z_adj (H l) (V l)) ht2 hk y2 (by omega) y5 N 0 e f qu (by omega) (by omega) hb hf hd) (fun f2 q2 v h => ?_)
    obtain ⟨e2, h1, h2, h3, h4⟩ := h
    dsimp only at h1 h2 h4
    subst h1
    rw [z_nm, nI_1]
    refine Ok.weak (ih (i + 1) e2 _ _ f2 q2 (by omega) (by omega) h2 h4 (by omega)) (fun y hy => ?_)
    obtain ⟨e3, z1, z2, z3⟩ := hy
    exact ⟨e3, z1, z2, by omega⟩
theorem s_steps_L37 (g : MOK R C H V cr cq dp wd za) (hN : 1000000 ≤ N) (hl : l < 5) (ht : tot = 2130 * (H l * V l) + 2) (ht2 : tot ≤ 20000) : ∀ n i e (a b : Int32) (f qu : Nat → Int32), i ≤ tot → tot - i < n → z_bfs (z_adj (H l) (V l)) tot f qu e →
    Ok (f_M_laysSteps_L37 N dp wd za (nI l) n (nI i) a b f qu (nI e)) (fun y => ∃ e2, z_bfs (z_adj (H l) (V l)) tot y.2.2.1 y.2.2.2.1 e2) := by
  intro n
  induction n with
  | zero => intro i e a b f qu _ h; omega
  | succ n ih =>
    intro i e a b f qu hi hn hb
    have he := z_cnt_le f tot
    rw [hb.1] at he
    rw [f_M_laysSteps_L37]
    refine Ok.ite (fun _ => Ok.ret ⟨e, hb⟩) (fun hc => ?_)
    rw [nI_leI (by omega) (by omega)] at hc
    obtain ⟨key, k1, k2, k3⟩ := hb.2.1 i (by omega)
    obtain ⟨dk, d1, d2⟩ : ∃ d, d < e ∧ f key = nI d := by
      rcases hb.2.2.1 key k1 with z | z
      · exact absurd z k3
      · exact z
    rw [z_ai (by omega) (by omega), k2, z_nm]
    refine Ok.b5 (s_steps_L56 g hN hl ht ht2 k1 N 0 e a b f qu (by omega) (by omega) hb d2 d1) (fun x1 x2 f2 q2 v h => ?_)
    obtain ⟨e2, h1, h2, h3⟩ := h
    dsimp only at h1 h2
    subst h1
    rw [z_nm, nI_1]
    exact ih (i + 1) e2 _ _ f2 q2 (by omega) (by omega) h2
theorem s_steps_L2 (g : MOK R C H V cr cq dp wd za) (hl : l < 5) (ht : tot = 2130 * (H l * V l) + 2) (ht2 : tot ≤ 20000) : ∀ n i (f : Nat → Int32), i ≤ tot → tot - i < n → (∀ j, j < i → f j = -1) → Ok (f_M_laysSteps_L2 dp wd za (nI l) n (nI i) f) (fun f2 => ∀ j, j < tot → f2 j = -1) := by
  intro n
  induction n with
  | zero => intro i f _ h; omega
  | succ n ih =>
    intro i f hi hn hf
    rw [f_M_laysSteps_L2, m_sheets g hl, q_b1_s, ← ht]
    refine Ok.ite (fun hc => Ok.ret ?_) (fun hc => ?_)
    · rw [nI_leI (by omega) (by omega)] at hc
      exact fun j hj => hf j (by omega)
    · rw [nI_leI (by omega) (by omega)] at hc
      refine Ok.asn (by omega) (by decide) (Ok.nm ?_)
      rw [nI_1]
      refine ih (i + 1) _ (by omega) (by omega) (fun j hj => ?_)
      by_cases e : j = i
      · subst e; exact z_updS
      · rw [z_updN e]; exact hf j (by omega)
theorem s_laysSteps (g : MOK R C H V cr cq dp wd za) (hN : 1000000 ≤ N) (hl : l < 5) (ht : tot = 2130 * (H l * V l) + 2) (ht2 : tot ≤ 20000) {k : Nat} (hk : k < tot) (a b : Int32) (f qu : Nat → Int32) (m : Int32) : Ok (f_M_laysSteps N dp wd za a b f qu m (nI l) (nI k)) (fun y => ∃ e2, z_bfs (z_adj (H l) (V l)) tot y.2.2.1 y.2.2.2.1 e2) := by
  unfold f_M_laysSteps
  rw [z_nm]
  refine Ok.b1 (s_steps_L2 g hl ht ht2 N 0 f (by omega) (by omega) (fun j hj => by omega)) (fun f4 h4 => ?_)
  have h0 : z_bfs (z_adj (H l) (V l)) tot f4 qu 0 := by
    refine ⟨z_cnt_none tot h4, fun j hj => by omega, fun q hq => Or.inl (h4 q hq), fun q hq d hd hf => ?_⟩
    rw [h4 q hq] at hf
    exact absurd hf.symm (z_nIm1 hd)
  refine Ok.b3 (s_meets ht2 h0 hk (d := 0) (by omega) (Or.inl rfl)) (fun f5 q6 v7 h => ?_)
  obtain ⟨e2, h1, h2, -⟩ := h
  dsimp only at h1 h2
  subst h1
  rw [z_nm]
  exact Ok.b5 (s_steps_L37 g hN hl ht ht2 N 0 e2 a b f5 q6 (by omega) (by omega) h2) (fun _ _ _ _ _ h => Ok.ret h)
end MS
end
section
/-! a neighbour is among those of the four sides -/
section MN
variable {R C H V : Nat → Nat} {cr cq dp wd za : Nat → Int32} {N l : Nat}
/-- what laysBeside says of a side -/
def z_side (H0 V0 k : Nat) (i F M : Nat) : Prop := ∃ r p, r ≤ 44 * H0 + 1 ∧ p < z_rl H0 V0 r ∧ k = z_rs H0 V0 r + p ∧
  (((i = 0 ∨ i = 2) ∧ (∃ b, b ≤ 44 * H0 + 1 ∧ ((i = 0 ∧ r = b + 1) ∨ (i = 2 ∧ b = r + 1)) ∧ F = z_rs H0 V0 b + p * z_rl H0 V0 b / z_rl H0 V0 r ∧ M = ((p + 1) * z_rl H0 V0 b + z_rl H0 V0 r - 1) / z_rl H0 V0 r - p * z_rl H0 V0 b / z_rl H0 V0 r)) ∨
   (((i = 0 ∧ r = 0) ∨ (i = 2 ∧ r = 44 * H0 + 1)) ∧ M = 0) ∨
   (((i = 1 ∨ i = 3) ∧ ((z_rl H0 V0 r = 1 ∧ M = 0) ∨ (z_rl H0 V0 r ≠ 1 ∧ M = 1 ∧ F = z_rs H0 V0 r + (p + (if i = 1 then 1 else z_rl H0 V0 r - 1)) % z_rl H0 V0 r)))))
theorem s_sides (g : MOK R C H V cr cq dp wd za) (hN : 50 ≤ N) (hl : l < 5) {k : Nat} (hk : k < 2130 * (H l * V l) + 2) (fb mb : Int32) {i : Nat} (hi : i < 4) :
    Ok (f_M_laysBeside N dp wd za fb mb (nI l) (nI k) (nI i)) (fun x => ∃ F M, x.2 = nI M ∧ (M ≠ 0 → x.1 = nI F) ∧ z_side (H l) (V l) k i F M) := by
  obtain ⟨r, -, hr, h1, h2⟩ := m_rowOf (N := N) g hN hl hk
  obtain ⟨p, rfl⟩ : ∃ p, k = z_rs (H l) (V l) r + p := ⟨k - z_rs (H l) (V l) r, by omega⟩
  have hp : p < z_rl (H l) (V l) r := by omega
  have vert : ∀ b, b ≤ 44 * H l + 1 → ((i = 0 ∧ r = b + 1) ∨ (i = 2 ∧ b = r + 1)) → Ok (f_M_laysBeside N dp wd za fb mb (nI l) (nI (z_rs (H l) (V l) r + p)) (nI i)) (fun x => ∃ F M, x.2 = nI M ∧ (M ≠ 0 → x.1 = nI F) ∧ z_side (H l) (V l) (z_rs (H l) (V l) r + p) i F M) := by
    intro b hb hib
    exact ⟨_, m_laysV g hN hl hr hp hb fb mb hib, _, _, rfl, fun _ => rfl, r, p, hr, hp, rfl, Or.inl ⟨by omega, b, hb, hib, rfl, rfl⟩⟩
  have none0 : ((i = 0 ∧ r = 0) ∨ (i = 2 ∧ r = 44 * H l + 1)) → Ok (f_M_laysBeside N dp wd za fb mb (nI l) (nI (z_rs (H l) (V l) r + p)) (nI i)) (fun x => ∃ F M, x.2 = nI M ∧ (M ≠ 0 → x.1 = nI F) ∧ z_side (H l) (V l) (z_rs (H l) (V l) r + p) i F M) := by
    intro hi
    exact ⟨_, m_lays0 g hN hl hr hp fb mb hi, 0, 0, rfl, fun z => absurd rfl z, r, p, hr, hp, rfl, Or.inr (Or.inl ⟨hi, rfl⟩)⟩
  have hor : ∀ by1, ((i = 1 ∧ by1 = 1) ∨ (i = 3 ∧ by1 = z_rl (H l) (V l) r - 1)) → Ok (f_M_laysBeside N dp wd za fb mb (nI l) (nI (z_rs (H l) (V l) r + p)) (nI i)) (fun x => ∃ F M, x.2 = nI M ∧ (M ≠ 0 → x.1 = nI F) ∧ z_side (H l) (V l) (z_rs (H l) (V l) r + p) i F M) := by
    intro by1 hb
    have e := m_laysH g hN hl hr hp fb mb hb
    have hby : by1 = (if i = 1 then 1 else z_rl (H l) (V l) r - 1) := by split <;> omega
    by_cases h1 : z_rl (H l) (V l) r = 1
    · rw [if_pos h1] at e
      exact ⟨_, e, 0, 0, rfl, fun z => absurd rfl z, r, p, hr, hp, rfl, Or.inr (Or.inr ⟨by omega, Or.inl ⟨h1, rfl⟩⟩)⟩
    · rw [if_neg h1] at e
      exact ⟨_, e, _, 1, rfl, fun _ => rfl, r, p, hr, hp, rfl, Or.inr (Or.inr ⟨by omega, Or.inr ⟨h1, rfl, by rw [hby]⟩⟩)⟩
  rcases (show i = 0 ∨ i = 1 ∨ i = 2 ∨ i = 3 by omega) with h | h | h | h
  · rcases Nat.eq_zero_or_pos r with h0 | h0
    · exact none0 (Or.inl ⟨h, h0⟩)
    · exact vert (r - 1) (by omega) (Or.inl ⟨h, by omega⟩)
  · exact hor 1 (Or.inl ⟨h, rfl⟩)
  · by_cases h0 : r = 44 * H l + 1
    · exact none0 (Or.inr ⟨h, h0⟩)
    · exact vert (r + 1) (by omega) (Or.inr ⟨h, rfl⟩)
  · exact hor _ (Or.inr ⟨h, rfl⟩)
theorem z_adj_side {H0 V0 k k2 : Nat} (hH : 1 ≤ H0) (hV : 1 ≤ V0) (h : z_adj H0 V0 k k2) : ∃ i, i < 4 ∧ ∀ F M, z_side H0 V0 k i F M → F ≤ k2 ∧ k2 < F + M := by
  obtain ⟨r, p, r2, p2, hr, hr2, hp, hp2, rfl, rfl, hc⟩ := h
  have la := z_rl_pos hH hV hr
  have same : ∀ r' p', r' ≤ 44 * H0 + 1 → p' < z_rl H0 V0 r' → z_rs H0 V0 r + p = z_rs H0 V0 r' + p' → r' = r ∧ p' = p := by
    intro r' p' h1 h2 h3
    have : r' = r := z_row_one (V := V0) hH h1 hr (k := z_rs H0 V0 r + p) (by omega) (by omega) (by omega) (by omega)
    subst this
    exact ⟨rfl, by omega⟩
  have mid : ∀ t a : Nat, 1 ≤ a → p * t < (p2 + 1) * a → p2 * a < (p + 1) * t → p * t / a ≤ p2 ∧ p2 < ((p + 1) * t + a - 1) / a := by
    intro t a ha h1 h2
    constructor
    · exact Nat.le_of_lt_succ (Nat.div_lt_of_lt_mul (by rw [Nat.mul_comm a]; exact h1))
    · exact (Nat.le_div_iff_mul_le (by omega)).mpr (by
        have h3 : (p2 + 1) * a = p2 * a + a := by rw [Nat.add_mul, Nat.one_mul]
        show (p2 + 1) * a ≤ _
        rw [h3]
        generalize p2 * a = y at *
        generalize (p + 1) * t = x at *
        omega)
  rcases hc with ⟨hv, h1, h2⟩ | ⟨rfl, h1, h2⟩
  · obtain ⟨m1, m2⟩ := mid _ _ la.1 h1 h2
    rcases hv with hv | hv
    · refine ⟨2, by omega, fun F M hs => ?_⟩
      obtain ⟨r', p', a1, a2, a3, a4⟩ := hs
      obtain ⟨rfl, rfl⟩ := same r' p' a1 a2 a3
      rcases a4 with ⟨-, b, b1, b2, b3, b4⟩ | ⟨b1, b2⟩ | ⟨b1, -⟩
      · have : b = r2 := by omega
        subst this
        omega
      · omega
      · omega
    · refine ⟨0, by omega, fun F M hs => ?_⟩
      obtain ⟨r', p', a1, a2, a3, a4⟩ := hs
      obtain ⟨rfl, rfl⟩ := same r' p' a1 a2 a3
      rcases a4 with ⟨-, b, b1, b2, b3, b4⟩ | ⟨b1, b2⟩ | ⟨b1, -⟩
      · have : b = r2 := by omega
        subst this
        omega
      · omega
      · omega
  · rcases h2 with h2 | h2
    · refine ⟨1, by omega, fun F M hs => ?_⟩
      obtain ⟨r', p', a1, a2, a3, a4⟩ := hs
      obtain ⟨rfl, rfl⟩ := same r' p' a1 a2 a3
      rcases a4 with ⟨b1, -⟩ | ⟨b1, -⟩ | ⟨-, b2⟩
      · omega
      · omega
      · rcases b2 with ⟨c1, -⟩ | ⟨-, c2, c3⟩
        · exact absurd c1 h1
        · rw [if_pos rfl, h2] at c3
          omega
    · refine ⟨3, by omega, fun F M hs => ?_⟩
      obtain ⟨r', p', a1, a2, a3, a4⟩ := hs
      obtain ⟨rfl, rfl⟩ := same r' p' a1 a2 a3
      rcases a4 with ⟨b1, -⟩ | ⟨b1, -⟩ | ⟨-, b2⟩
      · omega
      · omega
      · rcases b2 with ⟨c1, -⟩ | ⟨-, c2, c3⟩
        · exact absurd c1 h1
        · rw [if_neg (by omega)] at c3
          have hm : (p' + (z_rl H0 V0 r' - 1)) % z_rl H0 V0 r' = p2 := by
            rcases Nat.lt_or_ge (p2 + 1) (z_rl H0 V0 r') with g | g
            · rw [Nat.mod_eq_of_lt g] at h2
              rw [← h2, show p2 + 1 + (z_rl H0 V0 r' - 1) = p2 + z_rl H0 V0 r' by omega, Nat.add_mod_right, Nat.mod_eq_of_lt hp2]
            · have e : p2 + 1 = z_rl H0 V0 r' := by omega
              rw [e, Nat.mod_self] at h2
              rw [← h2, Nat.zero_add, Nat.mod_eq_of_lt (by omega)]; omega
          rw [hm] at c3
          omega
end MN
end
section
/-! nearer, way, reach, farthest, steps of the reference -/
section MW
variable {R C H V : Nat → Nat} {cr cq dp wd za : Nat → Int32} {N l tot : Nat}
theorem z_side_b {H0 V0 k i F M : Nat} (hH : 1 ≤ H0) (hV : 1 ≤ V0) (h : z_side H0 V0 k i F M) : M ≠ 0 → F + M ≤ 2130 * (H0 * V0) + 2 := by
  intro hM
  obtain ⟨r, p, hr, hp, -, hc⟩ := h
  have la := z_rl_pos hH hV hr
  have hre := z_rs_end (V := V0) hH hr
  rcases hc with ⟨-, b, hb, -, b3, b4⟩ | ⟨-, b2⟩ | ⟨-, b2⟩
  · have lb := z_rl_pos hH hV hb
    have hbe := z_rs_end (V := V0) hH hb
    have hd3 : ((p + 1) * z_rl H0 V0 b + z_rl H0 V0 r - 1) / z_rl H0 V0 r ≤ z_rl H0 V0 b := by
      have m1 : (p + 1) * z_rl H0 V0 b ≤ z_rl H0 V0 r * z_rl H0 V0 b := Nat.mul_le_mul_right _ (by omega)
      rw [Nat.div_le_iff_le_mul_add_pred (by omega)]; omega
    have hd2 : p * z_rl H0 V0 b / z_rl H0 V0 r ≤ ((p + 1) * z_rl H0 V0 b + z_rl H0 V0 r - 1) / z_rl H0 V0 r := Nat.div_le_div_right (by rw [Nat.add_mul, Nat.one_mul]; omega)
    omega
  · omega
  · rcases b2 with ⟨-, c⟩ | ⟨-, c2, c3⟩
    · omega
    · have hm := Nat.mod_lt (p + (if i = 1 then 1 else z_rl H0 V0 r - 1)) (show 0 < z_rl H0 V0 r by omega)
      omega
theorem s_near_L22 (ht : tot ≤ 20000) {f : Nat → Int32} {key F M : Nat} {x : Int32} (hk : key < tot) (hx : M ≠ 0 → x = nI F) (hF : M ≠ 0 → F + M ≤ tot) : ∀ n i (v : Int32), i ≤ M → M - i < n → (v = -1 ∨ ∃ q, q < tot ∧ v = nI q ∧ f q = f key - 1) →
    Ok (f_M_nearer_L22 f (nI key) x (nI M) n v (nI i)) (fun y => (y = -1 ∨ ∃ q, q < tot ∧ y = nI q ∧ f q = f key - 1) ∧ (v ≠ -1 → y ≠ -1) ∧ ∀ j, i ≤ j → j < M → f (F + j) = f key - 1 → y ≠ -1) := by
  by_cases hM : M = 0
  · subst hM
    intro n i v hi hn hv
    obtain ⟨n, rfl⟩ : ∃ k, n = k + 1 := ⟨n - 1, by omega⟩
    have : i = 0 := by omega
    subst this
    rw [f_M_nearer_L22, if_pos (by decide)]
    exact Ok.ret ⟨hv, fun h => h, fun j _ h => by omega⟩
  have hF := hF hM
  have hx := hx hM
  subst hx
  intro n
  induction n with
  | zero => intro i v _ h; omega
  | succ n ih =>
    intro i v hi hn hv
    have hMb : M ≤ 20000 := by omega
    rw [f_M_nearer_L22]
    refine Ok.ite (fun hc => Ok.ret ⟨hv, fun h => h, fun j h1 h2 => ?_⟩) (fun hc => ?_)
    · rw [nI_leI (by omega) (by omega)] at hc; omega
    · rw [nI_leI (by omega) (by omega)] at hc
      rw [nI_add, z_nm, z_ai (by omega) (by omega), z_ai (by omega) (by omega), nI_1, z_j1]
      dsimp only
      have hnew : (nI (F + i) : Int32) ≠ -1 := z_nIm1 (by omega)
      by_cases hg : f (F + i) = f key - 1
      · have hK1 : Ok (q_nm (nI (i + 1) : Int32) (fun (v21 : Int32) => f_M_nearer_L22 f (nI key) (nI F) (nI M) n (nI (F + i)) v21)) (fun y => (y = -1 ∨ ∃ q, q < tot ∧ y = nI q ∧ f q = f key - 1) ∧ (v ≠ -1 → y ≠ -1) ∧ ∀ j, i ≤ j → j < M → f (F + j) = f key - 1 → y ≠ -1) := by
          rw [z_nm]
          refine Ok.weak (ih (i + 1) (nI (F + i)) (by omega) (by omega) (Or.inr ⟨F + i, by omega, rfl, hg⟩)) (fun y hy => ⟨hy.1, fun _ => hy.2.1 hnew, fun j _ _ _ => hy.2.1 hnew⟩)
        rw [if_pos hg, z_j0]
        refine Ok.ite (fun _ => hK1) (fun hv1 => Ok.ite (fun _ => ?_) (fun _ => hK1))
        rw [z_nm]
        exact Ok.weak (ih (i + 1) v (by omega) (by omega) hv) (fun y hy => ⟨hy.1, hy.2.1, fun j _ _ _ => hy.2.1 hv1⟩)
      · rw [if_neg hg, z_nm]
        refine Ok.weak (ih (i + 1) v (by omega) (by omega) hv) (fun y hy => ⟨hy.1, hy.2.1, fun j h1 h2 h3 => ?_⟩)
        by_cases e : j = i
        · subst e; exact absurd h3 hg
        · exact hy.2.2 j (by omega) h2 h3
theorem s_near_L5 (g : MOK R C H V cr cq dp wd za) (hN : 1000000 ≤ N) (hl : l < 5) (ht : tot = 2130 * (H l * V l) + 2) (ht2 : tot ≤ 20000) {f : Nat → Int32} {key : Nat} (hk : key < tot) : ∀ n i (v a b : Int32), i ≤ 4 → 4 - i < n → (v = -1 ∨ ∃ q, q < tot ∧ v = nI q ∧ f q = f key - 1) →
    Ok (f_M_nearer_L5 N dp f wd za (nI l) (nI key) n v (nI i) a b) (fun y => (y.1 = -1 ∨ ∃ q, q < tot ∧ y.1 = nI q ∧ f q = f key - 1) ∧ (v ≠ -1 → y.1 ≠ -1) ∧ ∀ i2, i ≤ i2 → i2 < 4 → ∀ k2, (∀ F M, z_side (H l) (V l) key i2 F M → F ≤ k2 ∧ k2 < F + M) → f k2 = f key - 1 → y.1 ≠ -1) := by
  have hp := g.2.2.pos l hl
  intro n
  induction n with
  | zero => intro i v a b _ h; omega
  | succ n ih =>
    intro i v a b hi hn hv
    rw [f_M_nearer_L5]
    refine Ok.ite (fun hc => Ok.ret ⟨hv, fun h => h, fun i2 h1 h2 => ?_⟩) (fun hc => ?_)
    · rw [z_i 4, nI_leI (by omega) (by omega)] at hc; omega
    · rw [z_i 4, nI_leI (by omega) (by omega)] at hc
      refine Ok.b2 (s_sides g (by omega) hl (k := key) (by omega) a b (i := i) (by omega)) (fun x1 x2 hx => ?_)
      obtain ⟨F, M, y1, y2, y3⟩ := hx
      dsimp only at y1 y2
      subst y1
      have hb := z_side_b hp.1 hp.2 y3
      have hMb : M ≤ 20000 := by
        rcases Nat.eq_zero_or_pos M with z | z
        · omega
        · have := hb (by omega); omega
      rw [z_nm]
      refine Ok.b1 (s_near_L22 ht2 hk y2 (fun h => by have := hb h; omega) N 0 v (by omega) (by omega) hv) (fun w hw => ?_)
      rw [z_nm, nI_1]
      refine Ok.weak (ih (i + 1) w x1 (nI M) (by omega) (by omega) hw.1) (fun y hy => ⟨hy.1, fun h => hy.2.1 (hw.2.1 h), fun i2 h1 h2 k2 h3 h4 => ?_⟩)
      by_cases e : i2 = i
      · subst e
        have h5 := h3 F M y3
        refine hy.2.1 (hw.2.2 (k2 - F) (by omega) (by omega) ?_)
        rw [show F + (k2 - F) = k2 by omega]; exact h4
      · exact hy.2.2 i2 (by omega) h2 k2 h3 h4
theorem s_nearer (g : MOK R C H V cr cq dp wd za) (hN : 1000000 ≤ N) (hl : l < 5) (ht : tot = 2130 * (H l * V l) + 2) (ht2 : tot ≤ 20000) {f qu : Nat → Int32} {e : Nat} (hb : z_bfs (z_adj (H l) (V l)) tot f qu e) {key d : Nat} (hk : key < tot) (hd : d + 1 < 2 ^ 31) (hf : f key = nI (d + 1)) (a b : Int32) : Ok (f_M_nearer N dp wd za a b f (nI l) (nI key)) (fun y => ∃ q, q < tot ∧ y.1 = nI q ∧ f q = nI d) := by
  have hp := g.2.2.pos l hl
  unfold f_M_nearer
  rw [z_nm, z_nm]
  refine Ok.b3 (s_near_L5 g hN hl ht ht2 hk N 0 (-1) a b (by omega) (by omega) (Or.inl rfl)) (fun y1 y2 y3 hy => Ok.ret ?_)
  obtain ⟨k2, h1, h2, h3⟩ := hb.2.2.2 key hk d hd hf
  obtain ⟨i, hi, hs⟩ := z_adj_side hp.1 hp.2 (z_adj_symm h2)
  have hdd : f key - 1 = nI d := by rw [hf, z_sub1 (by omega), Nat.add_sub_cancel]
  have hne := hy.2.2 i (by omega) hi k2 hs (by rw [hdd]; exact h3)
  rcases hy.1 with z | ⟨q, q1, q2, q3⟩
  · exact absurd z hne
  · exact ⟨q, q1, q2, by rw [q3, hdd]⟩
end MW
end
section
/-! the reference: what is asked first; steps, way, reach, farthest -/
section MX
variable {R C H V : Nat → Nat} {cr cq dp wd za : Nat → Int32} {N l tot : Nat}
theorem z_toL (x : Int32) : x.toInt64.toInt = x.toInt := Int32.toInt_toInt64 x
theorem t_isLevel (p : Int32) : Ok (f_M_isLevel p) (fun x => x = (if 0 ≤ p.toInt ∧ p.toInt ≤ 4 then 1 else 0)) := by
  unfold f_M_isLevel
  rw [m_in, q_b1_s, z_toL, show (0 : Int64).toInt = 0 from rfl, show (4 : Int64).toInt = 4 from rfl]
  refine Ok.bo ?_ (Ok.ret rfl)
  split
  · exact Or.inr rfl
  · exact Or.inl rfl
theorem t_level {p : Int32} (h : 0 ≤ p.toInt ∧ p.toInt ≤ 4) : ∃ l, l < 5 ∧ p = nI l := by
  obtain ⟨j, h1, h2, h3⟩ := z_nat h.1
  exact ⟨j, by omega, h2⟩
theorem t_isKey (g : MOK R C H V cr cq dp wd za) (p q : Int32) : Ok (f_M_isKey dp wd za p q) (fun x => x ≠ 0 → z_hs H V p q) := by
  unfold f_M_isKey
  refine Ok.b1 (t_isLevel p) (fun v1 h1 => Ok.ite (fun _ => Ok.ret (fun z => absurd rfl z)) (fun n1 => ?_))
  obtain ⟨l, hl, rfl⟩ := t_level (z_if1 h1 n1)
  have hs := g.2.2.sh hl
  rw [m_sheets g hl, q_b1_s, m_in, q_b1_s, z_toL, z_sub1 (by omega), z_toL, nI_toInt (by omega), show (0 : Int64).toInt = 0 from rfl]
  refine Ok.ite (fun _ => Ok.ret (fun z => absurd rfl z)) (fun n2 => Ok.ret (fun _ => ?_))
  by_cases hc : 0 ≤ q.toInt ∧ q.toInt ≤ ((2130 * (H l * V l) + 2 - 1 : Nat) : Int)
  · obtain ⟨j, j1, j2, j3⟩ := z_nat hc.1
    exact ⟨l, j, hl, rfl, j2, by omega⟩
  · rw [if_neg hc] at n2; exact absurd rfl n2
theorem t_isGreat (g : MOK R C H V cr cq dp wd za) (hl : l < 5) : f_M_isGreat dp wd za (nI l) = some (if 2130 * (H l * V l) + 2 ≤ 20000 then 0 else 1) := by
  have hs := g.2.2.sh hl
  unfold f_M_isGreat
  rw [m_sheets g hl, q_b1_s]
  by_cases h : 2130 * (H l * V l) + 2 ≤ 20000
  · rw [if_pos (by rw [z_i 20000, nI_leI (by omega) (by omega)]; exact h), if_pos h]
  · rw [if_neg (by rw [z_i 20000, nI_leI (by omega) (by omega)]; exact h), if_neg h]
theorem t_stepsOf (g : MOK R C H V cr cq dp wd za) (hN : 1000000 ≤ N) (hl : l < 5) {k k2 : Nat} (hk : k < 2130 * (H l * V l) + 2) (hk2 : k2 < 2130 * (H l * V l) + 2) (a b : Int32) (f qu : Nat → Int32) (m : Int32) : Ok (f_M_stepsOf N dp wd za a b f qu m (nI l) (nI k) (nI k2)) (fun _ => True) := by
  unfold f_M_stepsOf
  rw [t_isGreat g hl, q_b1_s]
  by_cases h : 2130 * (H l * V l) + 2 ≤ 20000
  · rw [if_pos h, if_pos rfl]
    exact Ok.b5 (s_laysSteps g hN hl rfl h hk2 a b f qu m) (fun _ _ _ _ _ _ => Ok.ain (by omega) (by decide) Ok.t)
  · rw [if_neg h, if_neg (by decide)]; exact Ok.t
theorem t_steps (g : MOK R C H V cr cq dp wd za) (hN : 1000000 ≤ N) (a b : Int32) (f qu : Nat → Int32) (m p q r : Int32) : Ok (f_M_steps N dp wd za a b f qu m p q r) (fun _ => True) := by
  unfold f_M_steps
  refine Ok.b1 (t_isKey g p q) (fun v1 h1 => Ok.ite (fun _ => Ok.t) (fun n1 => Ok.b1 (t_isKey g p r) (fun v2 h2 => Ok.ite (fun _ => Ok.t) (fun n2 => ?_))))
  obtain ⟨l, k, hl, rfl, rfl, hk⟩ := h1 n1
  obtain ⟨l2, k2, hl2, el, rfl, hk2⟩ := h2 n2
  have : l = l2 := by rw [nI_eq (by omega) (by omega)] at el; exact el
  subst this
  exact Ok.b6 (t_stepsOf g hN hl hk hk2 a b f qu m) (fun _ _ _ _ _ _ _ => Ok.t)
theorem t_way_L (g : MOK R C H V cr cq dp wd za) (hN : 1000000 ≤ N) (hl : l < 5) (ht : tot = 2130 * (H l * V l) + 2) (ht2 : tot ≤ 20000) {f qu : Nat → Int32} {e : Nat} (hb : z_bfs (z_adj (H l) (V l)) tot f qu e) {p : Nat} (hp : p ≤ tot) : ∀ n i key (a b : Int32), i ≤ p → p - i < n → key < tot → (∃ d, d < 2 ^ 31 ∧ f key = nI d ∧ p - i ≤ d) → Ok (f_M_way_L62 N f dp wd za (nI l) (nI p) n (nI key) (nI i) a b) (fun _ => True) := by
  intro n
  induction n with
  | zero => intro i key a b _ h; omega
  | succ n ih =>
    intro i key a b hi hn hk hf
    rw [f_M_way_L62]
    refine Ok.ite (fun _ => Ok.t) (fun hc => ?_)
    rw [nI_leI (by omega) (by omega)] at hc
    obtain ⟨d, d1, d2, d3⟩ := hf
    obtain ⟨d, rfl⟩ : ∃ x, d = x + 1 := ⟨d - 1, by omega⟩
    refine Ok.b3 (s_nearer g hN hl ht ht2 hb hk (d := d) (by omega) d2 a b) (fun y1 y2 y3 hy => ?_)
    obtain ⟨q, q1, q2, q3⟩ := hy
    dsimp only at q2
    subst q2
    rw [z_nm, nI_1]
    exact ih (i + 1) q _ _ (by omega) (by omega) q1 ⟨d, by omega, q3, by omega⟩
theorem t_way (g : MOK R C H V cr cq dp wd za) (hN : 1000000 ≤ N) (a b : Int32) (f qu : Nat → Int32) (m p q r i : Int32) : Ok (f_M_way N dp wd za a b f qu m p q r i) (fun _ => True) := by
  unfold f_M_way
  refine Ok.b1 (t_isKey g p q) (fun v1 h1 => Ok.ite (fun _ => Ok.t) (fun n1 => Ok.b1 (t_isKey g p r) (fun v2 h2 => Ok.ite (fun _ => Ok.t) (fun n2 => Ok.ite (fun hi => ?_) (fun _ => Ok.t)))))
  obtain ⟨l, k, hl, rfl, rfl, hk⟩ := h1 n1
  obtain ⟨l2, k2, hl2, el, rfl, hk2⟩ := h2 n2
  have : l = l2 := by rw [nI_eq (by omega) (by omega)] at el; exact el
  subst this
  rw [t_isGreat g hl, q_b1_s]
  by_cases h : 2130 * (H l * V l) + 2 ≤ 20000
  · rw [if_pos h, if_pos rfl]
    refine Ok.b5 (s_laysSteps g hN hl rfl h hk2 a b f qu m) (fun v4 v5 f6 f7 v8 hb => Ok.ain (by omega) (by decide) (Ok.ite (fun hle => Ok.nm ?_) (fun _ => Ok.t)))
    obtain ⟨e, hb⟩ := hb
    dsimp only at hb
    have h0 := z_le.mp hi
    rw [show (0 : Int32).toInt = 0 from rfl] at h0
    obtain ⟨j, j1, rfl, j3⟩ := z_nat h0
    have he := z_cnt_le f6 (2130 * (H l * V l) + 2)
    rw [hb.1] at he
    have hle' := z_le.mp hle
    rcases hb.2.2.1 k hk with z | ⟨d, d1, d2⟩
    · rw [z, show (-1 : Int32).toInt = -1 from rfl] at hle'; omega
    · rw [d2, nI_toInt (by omega), nI_toInt (by omega)] at hle'
      exact Ok.b3 (t_way_L g hN hl rfl h hb (p := j) (by omega) N 0 k v4 v5 (by omega) (by omega) hk ⟨d, by omega, d2, by omega⟩) (fun _ _ _ _ => Ok.t)
  · rw [if_neg h, if_neg (by decide)]; exact Ok.t
theorem t_reach (g : MOK R C H V cr cq dp wd za) (hN : 1000000 ≤ N) (a b : Int32) (f qu : Nat → Int32) (m p q i : Int32) : Ok (f_M_reach N dp wd za a b f qu m p q i) (fun _ => True) := by
  unfold f_M_reach
  refine Ok.b1 (t_isKey g p q) (fun v1 h1 => Ok.ite (fun _ => Ok.t) (fun n1 => Ok.ite (fun hi => ?_) (fun _ => Ok.t)))
  obtain ⟨l, k, hl, rfl, rfl, hk⟩ := h1 n1
  rw [t_isGreat g hl, q_b1_s]
  by_cases h : 2130 * (H l * V l) + 2 ≤ 20000
  · rw [if_pos h, if_pos rfl]
    refine Ok.b5 (s_laysSteps g hN hl rfl h hk a b f qu m) (fun v4 v5 f6 f7 v8 _ => Ok.nm (Ok.nm ?_))
    have L : ∀ n j (v : Int32), j ≤ 2130 * (H l * V l) + 2 → 2130 * (H l * V l) + 2 - j < n → Ok (f_M_reach_L38 f6 dp wd za (nI l) i n v (nI j)) (fun _ => True) := by
      intro n
      induction n with
      | zero => intro j v _ h; omega
      | succ n ih =>
        intro j v hj hn
        rw [f_M_reach_L38, m_sheets g hl, q_b1_s]
        refine Ok.ite (fun _ => Ok.t) (fun hc => ?_)
        rw [nI_leI (by omega) (by omega)] at hc
        have hx := fun v => ih (j + 1) v (by omega) (by omega)
        rw [← nI_1] at hx
        exact Ok.ain (by omega) (by decide) (Ok.k1 (fun _ => True) (fun _ => True) (fun v _ => Ok.nm (Ok.nm (hx _))) (fun K hK => Ok.ite (fun _ => hK _ trivial) (fun _ => hK _ trivial)))
    exact Ok.b1 (L N 0 0 (by omega) (by omega)) (fun _ _ => Ok.t)
  · rw [if_neg h, if_neg (by decide)]; exact Ok.t
theorem t_farthest (g : MOK R C H V cr cq dp wd za) (hN : 1000000 ≤ N) (a b : Int32) (f qu : Nat → Int32) (m p q i : Int32) : Ok (f_M_farthest N dp wd za a b f qu m p q i) (fun _ => True) := by
  unfold f_M_farthest
  refine Ok.b1 (t_isKey g p q) (fun v1 h1 => Ok.ite (fun _ => Ok.t) (fun n1 => ?_))
  rw [m_in, q_b1_s]
  refine Ok.ite (fun _ => Ok.t) (fun _ => ?_)
  obtain ⟨l, k, hl, rfl, rfl, hk⟩ := h1 n1
  rw [t_isGreat g hl, q_b1_s]
  by_cases h : 2130 * (H l * V l) + 2 ≤ 20000
  · rw [if_pos h, if_pos rfl]
    refine Ok.b5 (s_laysSteps g hN hl rfl h hk a b f qu m) (fun v4 v5 f6 f7 v8 _ => Ok.nm (Ok.nm ?_))
    have L : ∀ n j c, j ≤ 2130 * (H l * V l) + 2 → 2130 * (H l * V l) + 2 - j < n → c < 20000 → Ok (f_M_farthest_L44 f6 dp wd za (nI l) n (nI c) (nI j)) (fun x => ∃ c, c < 20000 ∧ x = nI c) := by
      intro n
      induction n with
      | zero => intro j c _ h; omega
      | succ n ih =>
        intro j c hj hn hc
        rw [f_M_farthest_L44, m_sheets g hl, q_b1_s]
        refine Ok.ite (fun _ => Ok.ret ⟨c, hc, rfl⟩) (fun hc2 => ?_)
        rw [nI_leI (by omega) (by omega)] at hc2
        have hx := fun c h => ih (j + 1) c (by omega) (by omega) h
        rw [← nI_1] at hx
        exact Ok.ain (by omega) (by decide) (Ok.ain hc (by decide) (Ok.k1 (fun v => ∃ c, c < 20000 ∧ v = nI c) (fun x => ∃ c, c < 20000 ∧ x = nI c) (fun v hv => by obtain ⟨c, h1, rfl⟩ := hv; exact Ok.nm (hx c h1)) (fun K hK => Ok.ite (fun _ => hK _ ⟨c, hc, rfl⟩) (fun _ => hK _ ⟨j, by omega, rfl⟩))))
    refine Ok.b1 (L N 1 0 (by omega) (by omega) (by omega)) (fun v hv => ?_)
    obtain ⟨c, hc, rfl⟩ := hv
    exact Ok.ite (fun _ => Ok.ain hc (by decide) Ok.t) (fun _ => Ok.t)
  · rw [if_neg h, if_neg (by decide)]; exact Ok.t
end MX
end
section
/-! the reference: rows, places, edges, the common divisor -/
section MT
variable {R C H V : Nat → Nat} {cr cq dp wd za : Nat → Int32} {N l : Nat}
theorem t_spot (g : MOK R C H V cr cq dp wd za) (hN : 50 ≤ N) (hl : l < 5) {k : Nat} (hk : k < 2130 * (H l * V l) + 2) : ∃ r p, r ≤ 44 * H l + 1 ∧ p < z_rl (H l) (V l) r ∧ k = z_rs (H l) (V l) r + p ∧ f_M_rowOf N dp wd za (nI l) (nI k) = some (nI r) ∧ f_M_placeOf N dp wd za (nI l) (nI k) = some (nI p) := by
  obtain ⟨r, -, h1, h2, h3⟩ := m_rowOf (N := N) g hN hl hk
  obtain ⟨e1, e2⟩ := m_placeOf (N := N) g hN hl h1 h2 h3
  exact ⟨r, k - z_rs (H l) (V l) r, h1, by omega, by omega, e1, e2⟩
def z_capk (H0 V0 k : Nat) : Prop := k = 0 ∨ k = 2130 * (H0 * V0) + 1
theorem z_notcap {H0 V0 r p k : Nat} (hH : 1 ≤ H0) (hr : r ≤ 44 * H0 + 1) (hp : p < z_rl H0 V0 r) (hk : k = z_rs H0 V0 r + p) (h : ¬ z_capk H0 V0 k) : 1 ≤ r ∧ r ≤ 44 * H0 := by
  unfold z_capk at h
  rcases Nat.lt_or_ge r 1 with h0 | h0
  · exfalso
    have : r = 0 := by omega
    subst this
    rw [show z_rl H0 V0 0 = 1 from if_pos (Or.inl rfl)] at hp
    rw [show z_rs H0 V0 0 = 0 from if_pos rfl] at hk
    omega
  · rcases Nat.lt_or_ge (44 * H0) r with h1 | h1
    · exfalso
      have : r = 44 * H0 + 1 := by omega
      subst this
      rw [z_rl_last] at hp
      rw [z_rs_last hH] at hk
      omega
    · exact ⟨h0, h1⟩
theorem t_isCap (g : MOK R C H V cr cq dp wd za) (hl : l < 5) {k : Nat} (hk : k < 2130 * (H l * V l) + 2) : (z_capk (H l) (V l) k ∧ f_M_isCap dp wd za (nI l) (nI k) = some 1) ∨ (¬ z_capk (H l) (V l) k ∧ f_M_isCap dp wd za (nI l) (nI k) = some 0) := by
  have hs := g.2.2.sh hl
  unfold f_M_isCap z_capk
  rw [z_j0]
  by_cases h0 : k = 0
  · exact Or.inl ⟨Or.inl h0, by rw [if_pos (by rw [h0]; rfl)]⟩
  · rw [if_neg (by rw [z_eq0 (by omega)]; exact h0), m_sheets g hl, q_b1_s, z_sub1 (by omega)]
    by_cases h1 : k = 2130 * (H l * V l) + 1
    · exact Or.inl ⟨Or.inr h1, by rw [if_pos (by rw [nI_eq (by omega) (by omega)]; omega)]⟩
    · exact Or.inr ⟨by omega, by rw [if_neg (by rw [nI_eq (by omega) (by omega)]; omega)]⟩
theorem t_zonesOf (x : Int32) : Ok (f_M_zonesOf x) (fun y => ∃ z, y = nI z ∧ 1 ≤ z ∧ z ≤ 60) := by
  unfold f_M_zonesOf
  refine Ok.k1 (fun _ => True) (fun y => ∃ z, y = nI z ∧ 1 ≤ z ∧ z ≤ 60) (fun v _ => ?_) (fun K hK => Ok.ite (fun _ => hK _ trivial) (fun _ => hK _ trivial))
  exact Ok.ite (fun _ => Ok.ite (fun _ => Ok.ret ⟨15, rfl, by omega, by omega⟩) (fun _ => Ok.ret ⟨30, rfl, by omega, by omega⟩)) (fun _ => Ok.ret ⟨60, rfl, by omega, by omega⟩)
theorem z_dpne (g : MOK R C H V cr cq dp wd za) (hl : l < 5) : dp l ≠ 0 ∧ wd l ≠ 0 ∧ cr l ≠ 0 ∧ cq l ≠ 0 := by
  obtain ⟨e1, e2, e3, e4⟩ := g.1 l hl
  have hv := g.2.2.hv hl
  have hp := g.2.2.pos l hl
  have hr := g.2.2.2.2.2.2.2.1 l hl
  rw [e1, e2, e3, e4]
  exact ⟨nI_ne0 (by omega) (by omega), nI_ne0 (by omega) (by omega), nI_ne0 (by omega) (by omega), nI_ne0 (by omega) (by omega)⟩
theorem t_bandOf (g : MOK R C H V cr cq dp wd za) (hl : l < 5) (x : Int32) : Ok (f_M_bandOf dp (nI l) x) (fun _ => True) := by
  unfold f_M_bandOf
  exact Ok.ain hl (by decide) (Ok.dv (z_dpne g hl).1 Ok.t)
theorem t_lastRow (g : MOK R C H V cr cq dp wd za) (hl : l < 5) : Ok (f_M_lastRow dp (nI l)) (fun y => y = nI (44 * H l + 1)) := ⟨_, m_lastRow g hl, rfl⟩
theorem t_sheets (g : MOK R C H V cr cq dp wd za) (hl : l < 5) : Ok (f_M_sheets dp wd za (nI l)) (fun y => y = nI (2130 * (H l * V l) + 2)) := ⟨_, m_sheets g hl, rfl⟩
theorem t_many (g : MOK R C H V cr cq dp wd za) (hl : l < 5) (x : Int32) : Ok (f_M_many dp wd (nI l) x) (fun y => ∃ L, y = nI L ∧ 1 ≤ L ∧ L ≤ 563400) := by
  obtain ⟨e1, e2, e3, e4⟩ := g.1 l hl
  have hv := g.2.2.hv hl
  have hp := g.2.2.pos l hl
  unfold f_M_many
  refine Ok.k0 (fun y => ∃ L, y = nI L ∧ 1 ≤ L ∧ L ≤ 563400) (Ok.ret ⟨1, rfl, by omega, by omega⟩) (fun K hK => Ok.ite (fun _ => hK) (fun _ => Ok.b1 (t_lastRow g hl) (fun v1 _ => Ok.ite (fun _ => hK) (fun _ => Ok.b1 (t_bandOf g hl _) (fun v2 _ => Ok.b1 (t_zonesOf _) (fun v3 h3 => Ok.ain hl (by decide) ?_))))))
  obtain ⟨z, rfl, z1, z2⟩ := h3
  rw [e4, pk_mul]
  have a1 : 1 * 1 ≤ z * V l := Nat.mul_le_mul z1 hp.2
  have a2 : z * V l ≤ 60 * 9390 := Nat.mul_le_mul z2 hv.2.1
  exact Ok.ret ⟨z * V l, rfl, by omega, by omega⟩
theorem t_keyOf (g : MOK R C H V cr cq dp wd za) (hl : l < 5) {r : Nat} (hr : r ≤ 44 * H l + 1) (x : Int32) : Ok (f_M_keyOf dp wd za (nI l) (nI r) x) (fun _ => True) := by
  have hv := g.2.2.hv hl
  have hp := g.2.2.pos l hl
  unfold f_M_keyOf
  refine Ok.ite (fun _ => Ok.t) (fun h0 => ?_)
  rw [m_lastRow g hl, q_b1_s]
  refine Ok.ite (fun _ => Ok.b1 (t_sheets g hl) (fun _ _ => Ok.t)) (fun h1 => ?_)
  rw [z_eq0 (by omega)] at h0
  rw [nI_eq (by omega) (by omega)] at h1
  have hq := z_q (r := r) (H := H l) (by omega) (by omega)
  rw [m_bandOf g hl (by omega) (by omega), q_b1_s]
  refine Ok.ain hl (by decide) (Ok.ain hl (by decide) (Ok.ain (by omega) (by decide) (Ok.b1 (t_zonesOf _) (fun _ _ => Ok.ain hl (by decide) (Ok.rm (z_dpne g hl).1 Ok.t)))))
theorem t_placeAt (x y : Int32) : Ok (f_M_placeAt x y) (fun _ => True) := by
  unfold f_M_placeAt
  exact Ok.dvl (by decide) Ok.t
theorem t_rowAt (g : MOK R C H V cr cq dp wd za) (hl : l < 5) (x : Int32) : Ok (f_M_rowAt dp x (nI l)) (fun y => ∃ r, y = nI r ∧ r ≤ 44 * H l + 1) := by
  obtain ⟨e1, e2, e3, e4⟩ := g.1 l hl
  have hv := g.2.2.hv hl
  have hp := g.2.2.pos l hl
  unfold f_M_rowAt
  refine Ok.ite (fun h1 => Ok.ite (fun h2 => Ok.nm ?_) (fun _ => ?_)) (fun _ => Ok.ret ⟨0, rfl, by omega⟩)
  · have a1 := z_lt.mp h1
    have a2 := z_le.mp h2
    rw [show (316800 : Int32).toInt = 316800 from rfl] at a1
    rw [show (-316800 : Int32).toInt = -316800 from rfl] at a2
    have e : (x + 316800).toInt = x.toInt + 316800 := by
      rw [Int32.toInt_add, show (316800 : Int32).toInt = 316800 from rfl, Int.bmod_eq_of_le (by omega) (by omega)]
    obtain ⟨f, f1, f2, f3⟩ := z_nat (r := x + 316800) (by omega)
    have f4 : f < 633600 := by omega
    have hq : f / 14400 ≤ 43 := by omega
    have hm : f % 14400 < 14400 := Nat.mod_lt _ (by decide)
    have e5 : nI (f / 14400) = nI (f / 14400) := rfl
    rw [f2, z_i 14400, z_dv (by omega) (by omega) (by omega), z_nm, z_i 43, pk_sub hq, z_ai hl (by omega), z_ai hl (by omega), z_rm (by omega) (by omega) (by omega), z_ai hl (by omega), e3]
    generalize f / 14400 = q at *
    generalize f % 14400 = m at *
    have b1 : m * H l < 14400 * H l := Nat.mul_lt_mul_of_lt_of_le hm (Nat.le_refl _) hp.1
    have b2 : m * H l / 14400 < H l := Nat.div_lt_of_lt_mul b1
    have b3 : (43 - q) * H l ≤ 43 * H l := Nat.mul_le_mul_right _ (by omega)
    rw [pk_mul, pk_mul]
    generalize (43 - q) * H l = a at *
    generalize hb : m * H l = b at *
    rw [z_dv (by omega) (by omega) (by omega), z_i 1, nI_add, nI_add, pk_sub (by omega), pk_sub (by omega)]
    exact Ok.ret ⟨_, rfl, by omega⟩
  · exact Ok.b1 (t_lastRow g hl) (fun v hv => Ok.ret ⟨_, hv, Nat.le_refl _⟩)
theorem t_keyAtPlace (g : MOK R C H V cr cq dp wd za) (hl : l < 5) (x y : Int32) : Ok (f_M_keyAtPlace dp wd za x y (nI l)) (fun _ => True) := by
  unfold f_M_keyAtPlace
  refine Ok.b1 (t_rowAt g hl x) (fun v1 h1 => ?_)
  obtain ⟨r, rfl, hr⟩ := h1
  exact Ok.b1 (t_many g hl _) (fun v2 _ => Ok.b1 (t_placeAt _ _) (fun v3 _ => Ok.b1 (t_keyOf g hl hr _) (fun _ _ => Ok.t)))
theorem t_laysEdges (g : MOK R C H V cr cq dp wd za) (hN : 50 ≤ N) (hl : l < 5) {k : Nat} (hk : k < 2130 * (H l * V l) + 2) (bl bo : Int64) (ed : Nat → Int64) : Ok (f_M_laysEdges N dp wd za bl bo ed (nI l) (nI k)) (fun y => ∃ a b, y.1 = lN a ∧ y.2.1 = lN b ∧ 1 ≤ a ∧ a ≤ 563400 ∧ 1 ≤ b ∧ b ≤ 563400) := by
  obtain ⟨e1, e2, e3, e4⟩ := g.1 l hl
  have hv := g.2.2.hv hl
  have hp := g.2.2.pos l hl
  obtain ⟨r, p, hr, hpr, -, er, ep⟩ := t_spot (N := N) g hN hl hk
  unfold f_M_laysEdges
  rw [er, q_b1_s]
  refine Ok.asl (by decide) (Ok.asl (by decide) (Ok.ite (fun _ => ?_) (fun _ => Ok.b1 (t_lastRow g hl) (fun v4 _ => Ok.ite (fun _ => ?_) (fun _ => ?_)))))
  · exact Ok.asl (by decide) (Ok.asl (by decide) (Ok.ret ⟨1, 1, rfl, rfl, by omega, by omega, by omega, by omega⟩))
  · exact Ok.asl (by decide) (Ok.asl (by decide) (Ok.ret ⟨1, 1, rfl, rfl, by omega, by omega, by omega, by omega⟩))
  · refine Ok.ain hl (by decide) (Ok.nm (Ok.b1 (t_many g hl _) (fun v7 h7 => Ok.nm (Ok.ain hl (by decide) (Ok.asl (by decide) (Ok.al (by decide) (Ok.asl (by decide) ?_)))))))
    rw [ep, q_b1_s]
    refine Ok.asl (by decide) (Ok.al (by decide) (Ok.asl (by decide) ?_))
    obtain ⟨L, rfl, L1, L2⟩ := h7
    refine Ok.ret ⟨H l, L, ?_, ?_, by omega, by omega, by omega, by omega⟩
    · dsimp only; rw [e3, nI_l (by omega)]
    · dsimp only; rw [nI_l (by omega)]
theorem t_down (x : Int64) {y : Int64} (h : y ≠ 0) : Ok (f_M_down x y) (fun _ => True) := by
  unfold f_M_down
  exact Ok.ite (fun _ => Ok.dvl h Ok.t) (fun _ => Ok.dvl h Ok.t)
theorem z_2lne {a : Nat} (h1 : 1 ≤ a) (h2 : a ≤ 563400) : (2 : Int64) * lN a ≠ 0 := by
  rw [z_l 2, lN_mul]; exact z_lne0 (by omega) (by omega)
theorem t_middleOf (g : MOK R C H V cr cq dp wd za) (hN : 50 ≤ N) (hl : l < 5) {k : Nat} (hk : k < 2130 * (H l * V l) + 2) (bl bo : Int64) (ed : Nat → Int64) (x : Int32) : Ok (f_M_middleOf N dp wd za bl bo ed (nI l) (nI k) x) (fun _ => True) := by
  unfold f_M_middleOf
  rcases t_isCap g hl hk with ⟨-, e⟩ | ⟨-, e⟩ <;> rw [e, q_b1_s]
  · exact Ok.ite (fun h => absurd h (by decide)) (fun _ => Ok.ite (fun _ => Ok.t) (fun _ => Ok.ite (fun _ => Ok.t) (fun _ => Ok.t)))
  · refine Ok.ite (fun _ => Ok.b3 (t_laysEdges g hN hl hk bl bo ed) (fun v2 v3 f4 h => ?_)) (fun h => absurd rfl h)
    obtain ⟨a, b, ha, hb, a1, a2, b1, b2⟩ := h
    dsimp only at ha hb
    subst ha; subst hb
    exact Ok.ite (fun _ => Ok.al (by decide) (Ok.al (by decide) (Ok.b1 (t_down _ (z_2lne a1 a2)) (fun _ _ => Ok.t)))) (fun _ => Ok.al (by decide) (Ok.al (by decide) (Ok.b1 (t_down _ (z_2lne b1 b2)) (fun _ _ => Ok.t))))
theorem t_in (x a b : Int64) : Ok (f_M_in x a b) (fun y => y = if a.toInt ≤ x.toInt ∧ x.toInt ≤ b.toInt then 1 else 0) := ⟨_, m_in x a b, rfl⟩
theorem z_in01 {x a b : Int64} {y : Int32} (h : y = if a.toInt ≤ x.toInt ∧ x.toInt ≤ b.toInt then 1 else 0) : y = 0 ∨ y = 1 := by
  rw [h]; split
  · exact Or.inr rfl
  · exact Or.inl rfl
/-- a number between two small ones -/
theorem t_inN (x : Int32) (a b : Nat) (ha : a < 2 ^ 31) (hb : b < 2 ^ 31) : Ok (f_M_in x.toInt64 (lN a) (lN b)) (fun y => (y = 0 ∨ y = 1) ∧ (¬ y = 0 → ∃ j, x = nI j ∧ a ≤ j ∧ j ≤ b)) := by
  refine Ok.weak (t_in _ _ _) (fun y hy => ⟨z_in01 hy, fun h0 => ?_⟩)
  have h := z_if1 hy h0
  rw [z_toL, lN_toInt ha, lN_toInt hb] at h
  obtain ⟨j, j1, j2, j3⟩ := z_nat (r := x) (by omega)
  exact ⟨j, j2, by omega, by omega⟩
theorem z_rmlt (x y : Int64) (hy : y ≠ 0) : (x - x / y * y).toInt.natAbs < y.toInt.natAbs := by
  have e : (x - x / y * y).toInt = (x.toInt.tmod y.toInt).bmod (2 ^ 64) := by
    rw [Int64.toInt_sub, Int64.toInt_mul, Int64.toInt_div, Int.bmod_mul_bmod, Int.sub_bmod_bmod, Int.tmod_def, Int.mul_comm y.toInt]
  have h0 : y.toInt ≠ 0 := fun z => hy (Int64.toInt_inj.mp (by rw [z]; rfl))
  have ht := Int.natAbs_tmod x.toInt y.toInt
  have hl : x.toInt.natAbs % y.toInt.natAbs < y.toInt.natAbs := Nat.mod_lt _ (Int.natAbs_pos.mpr h0)
  have b1 := y.toInt_lt
  have b2 := y.le_toInt
  rw [e, Int.bmod_eq_of_le (by omega) (by omega)]
  omega
theorem t_common_L : ∀ n (x y : Int64), y.toInt.natAbs < n → (x ≠ 0 ∨ y ≠ 0) → Ok (f_M_common_L17 n x y) (fun z => z ≠ 0) := by
  intro n
  induction n with
  | zero => intro x y h; omega
  | succ n ih =>
    intro x y hn h
    rw [f_M_common_L17]
    refine Ok.ite (fun h0 => ?_) (fun h0 => ?_)
    · have h1 := z_lcmpE.mp h0
      exact Ok.ret (h.resolve_right (fun z => z h1))
    · have hy : y ≠ 0 := fun e => h0 (z_lcmpE.mpr e)
      have := z_rmlt x y hy
      exact Ok.rml hy (ih _ _ (by omega) (Or.inl hy))
theorem t_common (hN : 1000000 ≤ N) (x : Int64) {b : Nat} (h1 : 1 ≤ b) (h2 : b ≤ 563400) : Ok (f_M_common N x (lN b)) (fun z => z ≠ 0) := by
  have hb : (lN b).toInt = (b : Int) := lN_toInt (by omega)
  have hne : lN b ≠ 0 := z_lne0 (by omega) (by omega)
  unfold f_M_common
  refine Ok.k1 (fun _ => True) (fun z => z ≠ 0) (fun v _ => Ok.b1 (t_common_L N v (lN b) (by rw [hb]; omega) (Or.inr hne)) (fun v4 h4 => Ok.ret h4)) (fun K hK => Ok.ite (fun _ => hK _ trivial) (fun _ => hK _ trivial))
theorem t_edge (g : MOK R C H V cr cq dp wd za) (hN : 1000000 ≤ N) (bl bo : Int64) (ed : Nat → Int64) (p q w : Int32) : Ok (f_M_edge N dp wd za bl bo ed p q w) (fun _ => True) := by
  unfold f_M_edge
  refine Ok.b1 (t_isKey g p q) (fun v1 h1 => Ok.ite (fun _ => Ok.t) (fun n1 => Ok.b1 (t_inN w 0 7 (by decide) (by decide)) (fun v2 h2 => Ok.ite (fun _ => Ok.t) (fun n2 => ?_))))
  obtain ⟨l, k, hl, rfl, rfl, hk⟩ := h1 n1
  obtain ⟨j, rfl, -, hj⟩ := h2.2 n2
  refine Ok.b3 (t_laysEdges g (by omega) hl hk bl bo ed) (fun v3 v4 f5 h => ?_)
  obtain ⟨a, b, ha, hb, a1, a2, b1, b2⟩ := h
  dsimp only at ha hb
  subst ha; subst hb
  rw [z_i 2, z_dv (by omega) (by omega) (by omega)]
  refine Ok.aln (by omega) (by decide) (Ok.k1 (fun v => ∃ c, v = lN c ∧ 1 ≤ c ∧ c ≤ 563400) (fun _ => True) (fun v8 h8 => ?_) (fun K hK => Ok.ite (fun _ => hK _ ⟨b, rfl, b1, b2⟩) (fun _ => hK _ ⟨a, rfl, a1, a2⟩)))
  obtain ⟨c, rfl, c1, c2⟩ := h8
  exact Ok.b1 (t_common hN _ c1 c2) (fun v9 h9 => Ok.rm (nI_ne0 (by omega) (by omega)) (Ok.ite (fun _ => Ok.dvl h9 Ok.t) (fun _ => Ok.dvl h9 Ok.t)))
theorem t_middle (g : MOK R C H V cr cq dp wd za) (hN : 1000000 ≤ N) (bl bo : Int64) (ed : Nat → Int64) (p q w : Int32) : Ok (f_M_middle N dp wd za bl bo ed p q w) (fun _ => True) := by
  unfold f_M_middle
  refine Ok.b1 (t_isKey g p q) (fun v1 h1 => Ok.ite (fun _ => Ok.t) (fun n1 => Ok.b1 (t_inN w 0 1 (by decide) (by decide)) (fun v2 h2 => Ok.ite (fun _ => Ok.t) (fun n2 => ?_))))
  obtain ⟨l, k, hl, rfl, rfl, hk⟩ := h1 n1
  exact Ok.b4 (t_middleOf g (by omega) hl hk bl bo ed w) (fun _ _ _ _ _ => Ok.t)
theorem t_pieceNumber (g : MOK R C H V cr cq dp wd za) (hl : l < 5) (x y : Int32) : Ok (f_M_pieceNumber cr cq dp (nI l) x y) (fun _ => True) := by
  obtain ⟨d1, d2, d3, d4⟩ := z_dpne g hl
  unfold f_M_pieceNumber
  exact Ok.ain hl (by decide) (Ok.rm d1 (Ok.ain hl (by decide) (Ok.rm d3 (Ok.ain hl (by decide) (Ok.ain hl (by decide) (Ok.rm d4 Ok.t))))))
theorem t_at (g : MOK R C H V cr cq dp wd za) (hN : 1000000 ≤ N) (p q w : Int32) : Ok (f_M_at N cr cq dp wd za p q w) (fun _ => True) := by
  unfold f_M_at
  refine Ok.b1 (t_isKey g p q) (fun v1 h1 => Ok.ite (fun _ => Ok.t) (fun n1 => Ok.b1 (t_inN w 0 5 (by decide) (by decide)) (fun v2 h2 => Ok.ite (fun _ => Ok.t) (fun n2 => ?_))))
  obtain ⟨l, k, hl, rfl, rfl, hk⟩ := h1 n1
  obtain ⟨r, p, hr, hpr, -, er, ep⟩ := t_spot (N := N) g (by omega) hl hk
  rw [er, q_b1_s, ep, q_b1_s]
  have hc : Ok (f_M_isCap dp wd za (nI l) (nI k)) (fun _ => True) := by
    rcases t_isCap g hl hk with ⟨-, e⟩ | ⟨-, e⟩ <;> rw [e] <;> exact Ok.t
  refine Ok.b1 hc (fun v5 _ => Ok.ite (fun _ => Ok.t) (fun _ => Ok.ite (fun _ => Ok.t) (fun _ => Ok.ite (fun _ => Ok.b1 (t_many g hl _) (fun _ _ => Ok.t)) (fun _ => Ok.ite (fun _ => Ok.ite (fun _ => Ok.b1 (t_bandOf g hl _) (fun _ _ => Ok.t)) (fun _ => Ok.ite (fun _ => Ok.t) (fun _ => Ok.t))) (fun _ => Ok.ite (fun _ => Ok.ite (fun _ => Ok.ain hl (by decide) (Ok.dv (z_dpne g hl).2.1 Ok.t)) (fun _ => Ok.t)) (fun _ => Ok.ite (fun _ => Ok.ite (fun _ => Ok.t) (fun _ => Ok.b1 (t_pieceNumber g hl _ _) (fun _ _ => Ok.t))) (fun _ => Ok.t)))))))
theorem t_keyAt (g : MOK R C H V cr cq dp wd za) (p q w : Int32) : Ok (f_M_keyAt dp wd za p q w) (fun _ => True) := by
  unfold f_M_keyAt
  refine Ok.b1 (t_isLevel p) (fun v1 h1 => Ok.ite (fun _ => Ok.t) (fun n1 => ?_))
  obtain ⟨l, hl, rfl⟩ := t_level (z_if1 h1 n1)
  have hv := g.2.2.hv hl
  rw [m_lastRow g hl, q_b1_s, nI_l (by omega)]
  refine Ok.b1 (t_inN q 0 _ (by decide) (by omega)) (fun v3 h3 => Ok.ite (fun _ => Ok.t) (fun n3 => ?_))
  obtain ⟨r, rfl, -, hr⟩ := h3.2 n3
  exact Ok.b1 (t_many g hl _) (fun v4 _ => Ok.b1 (t_in _ _ _) (fun _ _ => Ok.ite (fun _ => Ok.t) (fun _ => Ok.b1 (t_keyOf g hl hr _) (fun _ _ => Ok.t))))
theorem z_quot {a b : Nat} (h : a ∣ b) (ha : 1 ≤ a) (hb : 1 ≤ b) : 1 ≤ b / a ∧ b / a ≤ b ∧ a * (b / a) = b := by
  obtain ⟨c, rfl⟩ := h
  rw [Nat.mul_div_cancel_left c ha]
  have : 1 ≤ c := Nat.pos_of_ne_zero (fun z => by rw [z] at hb; omega)
  exact ⟨this, Nat.le_mul_of_pos_left c ha, rfl⟩
theorem t_parentOf (g : MOK R C H V cr cq dp wd za) (hN : 50 ≤ N) (hl : l < 5) {t : Nat} (ht : t ≤ l) {k : Nat} (hk : k < 2130 * (H l * V l) + 2) : Ok (f_M_parentOf N dp wd za (nI l) (nI k) (nI t)) (fun y => z_capk (H l) (V l) k → ∃ k2, y = nI k2 ∧ k2 < 2130 * (H t * V t) + 2) := by
  have ht5 : t < 5 := by omega
  have hv := g.2.2.hv hl
  have hvt := g.2.2.hv ht5
  have hp := g.2.2.pos l hl
  have hpt := g.2.2.pos t ht5
  have hd := g.2.2.dvd l hl t ht
  have q1 := z_quot hd.1 hpt.1 hp.1
  have q2 := z_quot hd.2 hpt.2 hp.2
  have hs := g.2.2.sh ht5
  unfold f_M_parentOf
  rcases t_isCap g hl hk with ⟨-, e⟩ | ⟨c, e⟩ <;> rw [e, q_b1_s]
  · refine Ok.ite (fun h => absurd h (by decide)) (fun _ => Ok.ite (fun _ => Ok.ret (fun _ => ⟨0, rfl, by omega⟩)) (fun _ => ?_))
    rw [m_sheets g ht5, q_b1_s, z_sub1 (by omega)]
    exact Ok.ret (fun _ => ⟨_, rfl, by omega⟩)
  · refine Ok.ite (fun _ => ?_) (fun h => absurd rfl h)
    obtain ⟨r, p, hr, hpr, hk2, er, ep⟩ := t_spot (N := N) g hN hl hk
    obtain ⟨r1, r2⟩ := z_notcap hp.1 hr hpr hk2 c
    have hpl := (z_rl_pos (V := V l) hp.1 hp.2 hr).2
    rw [er, q_b1_s, z_ai hl (by omega), (g.1 l hl).2.2.1, z_ai ht5 (by omega), (g.1 t ht5).2.2.1, z_dv (by omega) (by omega) (by omega), z_sub1 r1, z_dv (by omega) (by omega) (by omega), ep, q_b1_s, z_ai hl (by omega), (g.1 l hl).2.2.2, z_ai ht5 (by omega), (g.1 t ht5).2.2.2, z_dv (by omega) (by omega) (by omega), z_dv (by omega) (by omega) (by omega), z_i 1, nI_add]
    have hrow : (r - 1) / (H l / H t) < 44 * H t := by
      apply Nat.div_lt_of_lt_mul
      have : H l / H t * (44 * H t) = 44 * H l := by
        rw [Nat.mul_left_comm, Nat.mul_comm (H l / H t), q1.2.2]
      omega
    exact Ok.b1 (t_keyOf g ht5 (by omega) _) (fun _ _ => Ok.ret (fun z => absurd z c))
theorem t_parent (g : MOK R C H V cr cq dp wd za) (hN : 1000000 ≤ N) (p q w : Int32) : Ok (f_M_parent N dp wd za p q w) (fun _ => True) := by
  unfold f_M_parent
  refine Ok.b1 (t_isKey g p q) (fun v1 h1 => Ok.ite (fun _ => Ok.t) (fun n1 => ?_))
  obtain ⟨l, k, hl, rfl, rfl, hk⟩ := h1 n1
  rw [nI_l (by omega)]
  refine Ok.b1 (t_inN w 0 l (by decide) (by omega)) (fun v2 h2 => Ok.ite (fun _ => Ok.t) (fun n2 => ?_))
  obtain ⟨t, rfl, -, ht⟩ := h2.2 n2
  exact Ok.b1 (t_parentOf g (by omega) hl ht hk) (fun _ _ => Ok.t)
theorem t_child (g : MOK R C H V cr cq dp wd za) (hN : 1000000 ≤ N) (p q w i : Int32) : Ok (f_M_child N dp wd za p q w i) (fun _ => True) := by
  unfold f_M_child
  refine Ok.b1 (t_isKey g p q) (fun v1 h1 => Ok.ite (fun _ => Ok.t) (fun n1 => ?_))
  obtain ⟨l, k, hl, rfl, rfl, hk⟩ := h1 n1
  rw [nI_l (by omega)]
  refine Ok.b1 (t_inN w l 4 (by omega) (by decide)) (fun v2 h2 => Ok.ite (fun _ => Ok.t) (fun n2 => Ok.ite (fun hi => ?_) (fun _ => Ok.t)))
  obtain ⟨t, rfl, ht, ht4⟩ := h2.2 n2
  have ht5 : t < 5 := by omega
  have hv := g.2.2.hv hl
  have hvt := g.2.2.hv ht5
  have hp := g.2.2.pos l hl
  have hpt := g.2.2.pos t ht5
  have hd := g.2.2.dvd t ht5 l ht
  have q1 := z_quot hd.1 hp.1 hpt.1
  have q2 := z_quot hd.2 hp.2 hpt.2
  rcases t_isCap g hl hk with ⟨-, e⟩ | ⟨c, e⟩ <;> rw [e, q_b1_s]
  · refine Ok.k1 (fun _ => True) (fun _ => True) (fun v4 _ => ?_) (fun K hK => Ok.ite (fun h => absurd h (by decide)) (fun _ => hK _ trivial))
    refine Ok.k1 (fun _ => True) (fun _ => True) (fun v5 _ => ?_) (fun K hK => Ok.ite (fun h => absurd h (by decide)) (fun _ => hK _ trivial))
    exact Ok.ite (fun _ => Ok.t) (fun _ => Ok.ite (fun _ => Ok.ite (fun h => absurd h (by decide)) (fun _ => Ok.ite (fun _ => Ok.t) (fun _ => Ok.b1 (t_sheets g ht5) (fun _ _ => Ok.t)))) (fun _ => Ok.t))
  · refine Ok.k1 (fun v => v = nI (H t / H l)) (fun _ => True) (fun v4 h4 => ?_) (fun K hK => Ok.ite (fun _ => ?_) (fun h => absurd rfl h))
    · subst h4
      refine Ok.k1 (fun v => v = nI (V t / V l)) (fun _ => True) (fun v5 h5 => ?_) (fun K hK => Ok.ite (fun _ => ?_) (fun h => absurd rfl h))
      · subst h5
        refine Ok.ite (fun _ => Ok.t) (fun hne => Ok.ite (fun hlt => Ok.ite (fun _ => ?_) (fun h => absurd rfl h)) (fun _ => Ok.t))
        have a1 := z_le.mp hi
        rw [show (-1 : Int32).toInt = -1 from rfl] at a1
        have a2 : i.toInt ≠ -1 := fun z => hne (Int32.toInt_inj.mp (by rw [z]; rfl))
        obtain ⟨j, j1, rfl, j3⟩ := z_nat (r := i) (by omega)
        have hda : H t / H l * (V t / V l) ≤ H t * V t := Nat.mul_le_mul q1.2.1 q2.2.1
        rw [pk_mul, nI_ltI (by omega) (by omega)] at hlt
        obtain ⟨r, p, hr, hpr, hk2, er, ep⟩ := t_spot (N := N) g (by omega) hl hk
        obtain ⟨r1, r2⟩ := z_notcap hp.1 hr hpr hk2 c
        rw [er, q_b1_s, z_dv (by omega) (by omega) (by omega), ep, q_b1_s, z_rm (by omega) (by omega) (by omega), z_sub1 r1, pk_mul, z_i 1, nI_add, nI_add]
        have c1 : j / (V t / V l) < H t / H l := Nat.div_lt_of_lt_mul (by rw [Nat.mul_comm]; exact hlt)
        have c2 : (r - 1) * (H t / H l) ≤ (44 * H l - 1) * (H t / H l) := Nat.mul_le_mul_right _ (by omega)
        have c3 : (44 * H l - 1) * (H t / H l) + H t / H l = 44 * H t := by
          rw [← Nat.succ_mul, Nat.succ_eq_add_one, Nat.sub_add_cancel (by omega), Nat.mul_assoc, q1.2.2]
        exact Ok.b1 (t_keyOf g ht5 (by omega) _) (fun _ _ => Ok.t)
      · rw [z_ai ht5 (by omega), (g.1 t ht5).2.2.2, z_ai hl (by omega), (g.1 l hl).2.2.2, z_dv (by omega) (by omega) (by omega)]
        exact hK _ rfl
    · rw [z_ai ht5 (by omega), (g.1 t ht5).2.2.1, z_ai hl (by omega), (g.1 l hl).2.2.1, z_dv (by omega) (by omega) (by omega)]
      exact hK _ rfl
end MT
end
section
/-! the reference: neighbours, corners, jogs, levels, keys of places -/
section MU
variable {R C H V : Nat → Nat} {cr cq dp wd za : Nat → Int32} {N l : Nat}
theorem t_layB (g : MOK R C H V cr cq dp wd za) (hN : 50 ≤ N) (hl : l < 5) {k : Nat} (hk : k < 2130 * (H l * V l) + 2) (fb mb : Int32) {i : Nat} (hi : i < 4) : Ok (f_M_laysBeside N dp wd za fb mb (nI l) (nI k) (nI i)) (fun _ => True) := Ok.weak (s_lays g hN hl hk fb mb hi) (fun _ _ => trivial)
theorem t_isSide (x : Int32) : Ok (f_M_isSide x) (fun y => ¬ y = 0 → ∃ j, x = nI j ∧ j ≤ 3) := by
  unfold f_M_isSide
  refine Ok.b1 (t_inN x 0 3 (by decide) (by decide)) (fun v1 h1 => Ok.bo h1.1 (Ok.ret (fun h0 => ?_)))
  obtain ⟨j, e, -, h⟩ := h1.2 h0
  exact ⟨j, e, h⟩
theorem t_isPlace (x y : Int32) : Ok (f_M_isPlace x y) (fun _ => True) := by
  unfold f_M_isPlace
  exact Ok.b1 (t_in _ _ _) (fun _ _ => Ok.ite (fun _ => Ok.t) (fun _ => Ok.b1 (t_in _ _ _) (fun _ _ => Ok.ite (fun _ => Ok.t) (fun _ => Ok.t))))
theorem t_isBox (a b c d : Int32) : Ok (f_M_isBox a b c d) (fun _ => True) := by
  unfold f_M_isBox
  exact Ok.b1 (t_isPlace _ _) (fun _ _ => Ok.ite (fun _ => Ok.t) (fun _ => Ok.b1 (t_isPlace _ _) (fun _ _ => Ok.ite (fun _ => Ok.t) (fun _ => Ok.ite (fun _ => Ok.t) (fun _ => Ok.t)))))
theorem t_isAnyYear (x : Int32) : Ok (f_M_isAnyYear x) (fun _ => True) := by
  unfold f_M_isAnyYear
  exact Ok.b1 (t_in _ _ _) (fun _ h => Ok.bo (z_in01 h) Ok.t)
theorem t_isYear (x : Int32) : Ok (f_M_isYear x) (fun _ => True) := by
  unfold f_M_isYear
  exact Ok.b1 (t_in _ _ _) (fun _ h => Ok.bo (z_in01 h) Ok.t)
theorem t_neighbour (g : MOK R C H V cr cq dp wd za) (hN : 1000000 ≤ N) (fb mb p q w i : Int32) : Ok (f_M_neighbour N dp wd za fb mb p q w i) (fun _ => True) := by
  unfold f_M_neighbour
  refine Ok.b1 (t_isKey g p q) (fun v1 h1 => Ok.ite (fun _ => Ok.t) (fun n1 => Ok.b1 (t_isSide w) (fun v2 h2 => Ok.ite (fun _ => Ok.t) (fun n2 => Ok.ite (fun _ => ?_) (fun _ => Ok.t)))))
  obtain ⟨l, k, hl, rfl, rfl, hk⟩ := h1 n1
  obtain ⟨j, rfl, hj⟩ := h2 n2
  exact Ok.b2 (t_layB g (by omega) hl hk fb mb (by omega)) (fun _ _ _ => Ok.ite (fun _ => Ok.t) (fun _ => Ok.ite (fun _ => Ok.t) (fun _ => Ok.t)))
theorem t_allBeside (g : MOK R C H V cr cq dp wd za) (hN : 1000000 ≤ N) (hl : l < 5) {k : Nat} (hk : k < 2130 * (H l * V l) + 2) (fb mb : Int32) : Ok (f_M_allBeside N dp wd za fb mb (nI l) (nI k)) (fun _ => True) := by
  have L : ∀ n i (v a b : Int32), i ≤ 4 → 4 - i < n → Ok (f_M_allBeside_L5 N dp wd za (nI l) (nI k) n v (nI i) a b) (fun _ => True) := by
    intro n
    induction n with
    | zero => intro i v a b _ h; omega
    | succ n ih =>
      intro i v a b hi hn
      rw [f_M_allBeside_L5]
      refine Ok.ite (fun _ => Ok.t) (fun hc => ?_)
      rw [z_i 4, nI_leI (by omega) (by omega)] at hc
      refine Ok.b2 (t_layB g (by omega) hl hk a b (by omega)) (fun y1 y2 _ => ?_)
      rw [z_nm, z_nm, nI_1]
      exact ih (i + 1) _ _ _ (by omega) (by omega)
  unfold f_M_allBeside
  exact Ok.nm (Ok.nm (Ok.b3 (L N 0 _ _ _ (by omega) (by omega)) (fun _ _ _ _ => Ok.t)))
theorem t_besideAll (g : MOK R C H V cr cq dp wd za) (hN : 1000000 ≤ N) (hl : l < 5) {k : Nat} (hk : k < 2130 * (H l * V l) + 2) (fb mb x : Int32) : Ok (f_M_besideAll N dp wd za fb mb (nI l) (nI k) x) (fun _ => True) := by
  have T : ∀ (a b : Int32) (i : Nat), i < 4 → Ok (f_M_laysBeside N dp wd za a b (nI l) (nI k) (nI i)) (fun _ => True) := fun a b i hi => t_layB g (by omega) hl hk a b hi
  unfold f_M_besideAll
  refine Ok.b2 (T fb mb 0 (by omega)) (fun v1 v2 _ => Ok.ite (fun _ => Ok.nm (Ok.b2 (T v1 v2 1 (by omega)) (fun v4 v5 _ => Ok.b2 (T v4 v5 3 (by omega)) (fun v6 v7 _ => ?_)))) (fun _ => Ok.t))
  refine Ok.k0 (fun _ => True) (Ok.nm (Ok.b2 (T v6 v7 2 (by omega)) (fun v9 v10 _ => Ok.ite (fun _ => Ok.t) (fun _ => Ok.t)))) (fun K hK => Ok.ite (fun _ => Ok.ite (fun _ => hK) (fun _ => ?_)) (fun _ => hK))
  refine Ok.k1 (fun _ => True) (fun _ => True) (fun a _ => Ok.k1 (fun _ => True) (fun _ => True) (fun b _ => Ok.ite (fun _ => Ok.t) (fun _ => Ok.t)) (fun K2 h2 => Ok.ite (fun _ => h2 _ trivial) (fun _ => h2 _ trivial))) (fun K3 h3 => Ok.ite (fun _ => h3 _ trivial) (fun _ => h3 _ trivial))
theorem t_around (g : MOK R C H V cr cq dp wd za) (hN : 1000000 ≤ N) (fb mb p q i : Int32) : Ok (f_M_around N dp wd za fb mb p q i) (fun _ => True) := by
  unfold f_M_around
  refine Ok.b1 (t_isKey g p q) (fun v1 h1 => Ok.ite (fun _ => Ok.t) (fun n1 => Ok.ite (fun _ => ?_) (fun _ => Ok.t)))
  obtain ⟨l, k, hl, rfl, rfl, hk⟩ := h1 n1
  exact Ok.b3 (t_allBeside g hN hl hk fb mb) (fun _ _ _ _ => Ok.ite (fun _ => Ok.t) (fun _ => Ok.ite (fun _ => Ok.t) (fun _ => Ok.b3 (t_besideAll g hN hl hk _ _ _) (fun _ _ _ _ => Ok.t))))
theorem t_side (g : MOK R C H V cr cq dp wd za) (hN : 1000000 ≤ N) (fb mb p q w : Int32) : Ok (f_M_side N dp wd za fb mb p q w) (fun _ => True) := by
  unfold f_M_side
  refine Ok.b1 (t_isKey g p q) (fun v1 h1 => Ok.ite (fun _ => Ok.t) (fun n1 => Ok.b1 (t_isKey g p w) (fun v2 _ => Ok.ite (fun _ => Ok.t) (fun _ => Ok.ite (fun _ => Ok.t) (fun _ => Ok.nm ?_)))))
  obtain ⟨l, k, hl, rfl, rfl, hk⟩ := h1 n1
  have L : ∀ n i (a b : Int32), i ≤ 4 → 4 - i < n → Ok (f_M_side_L28 N dp wd za (nI l) (nI k) w n (nI i) a b) (fun _ => True) := by
    intro n
    induction n with
    | zero => intro i a b _ h; omega
    | succ n ih =>
      intro i a b hi hn
      rw [f_M_side_L28]
      refine Ok.ite (fun _ => Ok.t) (fun hc => ?_)
      rw [z_i 4, nI_leI (by omega) (by omega)] at hc
      refine Ok.b2 (t_layB g (by omega) hl hk a b (by omega)) (fun y1 y2 _ => Ok.b1 (t_in _ _ _) (fun _ _ => Ok.ite (fun _ => ?_) (fun _ => Ok.t)))
      rw [z_nm, nI_1]
      exact ih (i + 1) _ _ (by omega) (by omega)
  exact Ok.s2 (L N 0 fb mb (by omega) (by omega)) (fun _ _ _ => Ok.t) (fun _ _ => trivial)
theorem z_i64o {x : Int32} (h : x ≠ 0) : x.toInt64 ≠ 0 := by
  intro z
  apply h
  apply Int32.toInt_inj.mp
  have := congrArg Int64.toInt z
  rw [z_toL] at this
  exact this
theorem t_cornerOf (g : MOK R C H V cr cq dp wd za) (hN : 1000000 ≤ N) (hl : l < 5) {k : Nat} (hk : k < 2130 * (H l * V l) + 2) {i : Nat} (hi : i = 0 ∨ i = 2) (e : Int32) : Ok (f_M_cornerOf N dp wd za (nI l) (nI k) (nI i) e) (fun _ => True) := by
  have hv := g.2.2.hv hl
  have hp := g.2.2.pos l hl
  obtain ⟨r, p, hr, hpr, hk2, er, ep⟩ := t_spot (N := N) g (by omega) hl hk
  have hL := z_rl_pos (V := V l) hp.1 hp.2 hr
  unfold f_M_cornerOf
  rw [er, q_b1_s]
  by_cases hc : z_rl (H l) (V l) r = 1
  · refine Ok.k1 (fun _ => True) (fun _ => True) (fun v2 _ => ?_) (fun K hK => Ok.ite (fun _ => hK _ trivial) (fun _ => hK _ trivial))
    rw [m_many g hl hr, q_b1_s, hc, z_nm, nI_l (by omega)]
    exact Ok.ite (fun _ => Ok.t) (fun h => absurd (by decide) h)
  · have hr1 : 1 ≤ r ∧ r ≤ 44 * H l := by
      unfold z_rl at hc
      by_cases h : r = 0 ∨ r = 44 * H l + 1
      · rw [if_pos h] at hc; exact absurd rfl hc
      · omega
    refine Ok.k1 (fun v => ∃ b, v = nI b ∧ b ≤ 44 * H l + 1) (fun _ => True) (fun v2 h2 => ?_) (fun K hK => ?_)
    · obtain ⟨b, rfl, hb⟩ := h2
      have hLb := z_rl_pos (V := V l) hp.1 hp.2 hb
      have n1 : lN (z_rl (H l) (V l) r) ≠ 0 := z_lne0 (by omega) (by omega)
      have n2 : lN (z_rl (H l) (V l) b) ≠ 0 := z_lne0 (by omega) (by omega)
      rw [m_many g hl hr, q_b1_s, z_nm, nI_l (by omega)]
      refine Ok.ite (fun _ => Ok.t) (fun _ => ?_)
      rw [m_many g hl hb, q_b1_s]
      refine Ok.ite (fun _ => Ok.t) (fun _ => ?_)
      rw [q_b1_s, z_nm, nI_l (by omega), ep, q_b1_s, z_nm]
      refine Ok.rml n1 (Ok.ite (fun _ => Ok.dvl n1 ?_) (fun _ => Ok.t))
      exact Ok.k1 (fun _ => True) (fun _ => True) (fun v12 _ => Ok.b1 (t_keyOf g hl hb _) (fun _ _ => Ok.t)) (fun K hK => Ok.ite (fun _ => Ok.rml n2 (hK _ trivial)) (fun _ => Ok.rml n2 (hK _ trivial)))
    · rcases hi with rfl | rfl
      · refine Ok.ite (fun _ => hK _ ⟨r - 1, ?_, by omega⟩) (fun h => absurd rfl h)
        rw [z_sub1 (by omega)]
      · refine Ok.ite (fun h => absurd h (by decide)) (fun _ => hK _ ⟨r + 1, ?_, by omega⟩)
        rw [nI_1]
theorem t_corners_L (g : MOK R C H V cr cq dp wd za) (hN : 1000000 ≤ N) (hl : l < 5) {k : Nat} (hk : k < 2130 * (H l * V l) + 2) (w : Int32) : ∀ n i (a b : Int32), (i = 0 ∨ i = 2 ∨ i = 4) → 4 - i < n → Ok (f_M_corners_L25 N dp wd za (nI l) (nI k) w n a b (nI i)) (fun _ => True) := by
  intro n
  induction n with
  | zero => intro i a b _ h; omega
  | succ n ih =>
    intro i a b hi hn
    rw [f_M_corners_L25]
    refine Ok.ite (fun _ => Ok.t) (fun hc => ?_)
    rw [z_i 3, nI_leI (by omega) (by omega)] at hc
    refine Ok.b1 (t_cornerOf g hN hl hk (by omega) 0) (fun v8 _ => Ok.b1 (t_cornerOf g hN hl hk (by omega) 1) (fun v9 _ => ?_))
    refine Ok.k1 (fun _ => True) (fun _ => True) (fun v10 _ => ?_) (fun K hK => Ok.ite (fun _ => hK _ trivial) (fun _ => hK _ trivial))
    refine Ok.k1 (fun _ => True) (fun _ => True) (fun v11 _ => ?_) (fun K hK => Ok.ite (fun _ => hK _ trivial) (fun _ => hK _ trivial))
    refine Ok.nm (Ok.b1 (t_in _ _ _) (fun v13 _ => Ok.ite (fun _ => ?_) (fun _ => ?_)))
    · refine Ok.k1 (fun _ => True) (fun _ => True) (fun v14 _ => Ok.nm (Ok.nm ?_)) (fun K hK => Ok.ite (fun _ => hK _ trivial) (fun _ => hK _ trivial))
      rw [z_nm, z_i 2, nI_add]
      exact ih (i + 2) _ _ (by omega) (by omega)
    · refine Ok.k1 (fun _ => True) (fun _ => True) (fun v18 _ => Ok.ite (fun _ => Ok.t) (fun _ => Ok.ite (fun _ => Ok.t) (fun _ => Ok.t))) (fun K hK => ?_)
      exact Ok.k0 (fun _ => True) (hK _ trivial) (fun K2 h2 => Ok.ite (fun _ => h2) (fun _ => Ok.k0 (fun _ => True) (hK _ trivial) (fun K3 h3 => Ok.ite (fun _ => h3) (fun _ => Ok.ite (fun _ => h3) (fun _ => h2)))))
theorem t_corners (g : MOK R C H V cr cq dp wd za) (hN : 1000000 ≤ N) (p q w : Int32) : Ok (f_M_corners N dp wd za p q w) (fun _ => True) := by
  unfold f_M_corners
  refine Ok.b1 (t_isKey g p q) (fun v1 h1 => Ok.ite (fun _ => Ok.t) (fun n1 => Ok.ite (fun _ => Ok.nm (Ok.nm ?_)) (fun _ => Ok.t)))
  obtain ⟨l, k, hl, rfl, rfl, hk⟩ := h1 n1
  exact Ok.s1 (t_corners_L g hN hl hk w N 0 _ _ (Or.inl rfl) (by omega)) (fun _ _ => Ok.ite (fun _ => Ok.t) (fun _ => Ok.t)) (fun _ _ => trivial)
theorem t_jog (g : MOK R C H V cr cq dp wd za) (hN : 1000000 ≤ N) (p q w : Int32) : Ok (f_M_jog N dp wd za p q w) (fun _ => True) := by
  unfold f_M_jog
  refine Ok.b1 (t_isKey g p q) (fun v1 h1 => Ok.ite (fun _ => Ok.t) (fun n1 => ?_))
  obtain ⟨l, k, hl, rfl, rfl, hk⟩ := h1 n1
  obtain ⟨r, p, hr, hpr, hk2, er, ep⟩ := t_spot (N := N) g (by omega) hl hk
  refine Ok.k0 (fun _ => True) ?_ (fun K hK => Ok.ite (fun _ => hK) (fun _ => Ok.ite (fun _ => hK) (fun _ => Ok.t)))
  rw [er, q_b1_s]
  exact Ok.k1 (fun _ => True) (fun _ => True) (fun v3 _ => Ok.b1 (t_lastRow g hl) (fun v4 _ => Ok.b1 (t_in _ _ _) (fun _ _ => Ok.ite (fun _ => Ok.t) (fun _ => Ok.b1 (t_many g hl _) (fun _ _ => Ok.b1 (t_many g hl _) (fun _ _ => Ok.ite (fun _ => Ok.t) (fun _ => Ok.t))))))) (fun K hK => Ok.ite (fun _ => hK _ trivial) (fun _ => hK _ trivial))
theorem t_rowOf (g : MOK R C H V cr cq dp wd za) (hN : 1000000 ≤ N) (hl : l < 5) {k : Nat} (hk : k < 2130 * (H l * V l) + 2) : Ok (f_M_rowOf N dp wd za (nI l) (nI k)) (fun _ => True) := by
  obtain ⟨r, p, hr, hpr, hk2, er, ep⟩ := t_spot (N := N) g (by omega) hl hk
  rw [er]; exact Ok.t
theorem t_two (g : MOK R C H V cr cq dp wd za) {p q w : Int32} (h1 : z_hs H V p q) (h2 : z_hs H V p w) : ∃ l k k2, l < 5 ∧ p = nI l ∧ q = nI k ∧ w = nI k2 ∧ k < 2130 * (H l * V l) + 2 ∧ k2 < 2130 * (H l * V l) + 2 := by
  obtain ⟨l, k, hl, rfl, rfl, hk⟩ := h1
  obtain ⟨l2, k2, hl2, el, rfl, hk2⟩ := h2
  have : l = l2 := by rw [nI_eq (by omega) (by omega)] at el; exact el
  subst this
  exact ⟨l, k, k2, hl, rfl, rfl, rfl, hk, hk2⟩
theorem t_wider (g : MOK R C H V cr cq dp wd za) (hN : 1000000 ≤ N) (p q w : Int32) : Ok (f_M_wider N dp wd za p q w) (fun _ => True) := by
  unfold f_M_wider
  refine Ok.b1 (t_isKey g p q) (fun v1 h1 => Ok.ite (fun _ => Ok.t) (fun n1 => Ok.b1 (t_isKey g p w) (fun v2 h2 => Ok.ite (fun _ => Ok.t) (fun n2 => ?_))))
  obtain ⟨l, k, k2, hl, rfl, rfl, rfl, hk, hk2⟩ := t_two g (h1 n1) (h2 n2)
  exact Ok.b1 (t_rowOf g hN hl hk) (fun _ _ => Ok.b1 (t_many g hl _) (fun _ _ => Ok.b1 (t_rowOf g hN hl hk2) (fun _ _ => Ok.b1 (t_many g hl _) (fun _ _ => Ok.ite (fun _ => Ok.ite (fun _ => Ok.t) (fun _ => Ok.t)) (fun _ => Ok.t)))))
theorem t_bands (g : MOK R C H V cr cq dp wd za) (hN : 1000000 ≤ N) (p q w : Int32) : Ok (f_M_bands N dp wd za p q w) (fun _ => True) := by
  unfold f_M_bands
  refine Ok.b1 (t_isKey g p q) (fun v1 h1 => Ok.ite (fun _ => Ok.t) (fun n1 => Ok.b1 (t_isKey g p w) (fun v2 h2 => Ok.ite (fun _ => Ok.t) (fun n2 => Ok.ite (fun _ => ?_) (fun _ => Ok.t)))))
  obtain ⟨l, k, k2, hl, rfl, rfl, rfl, hk, hk2⟩ := t_two g (h1 n1) (h2 n2)
  refine Ok.b1 (t_rowOf g hN hl hk) (fun v3 _ => Ok.b1 (t_rowOf g hN hl hk2) (fun v4 _ => ?_))
  refine Ok.k1 (fun _ => True) (fun _ => True) (fun v5 _ => Ok.b1 (t_lastRow g hl) (fun v6 _ => ?_)) (fun K hK => Ok.ite (fun _ => hK _ trivial) (fun _ => hK _ trivial))
  exact Ok.k1 (fun _ => True) (fun _ => True) (fun v7 _ => Ok.ite (fun _ => Ok.b1 (t_bandOf g hl _) (fun _ _ => Ok.b1 (t_bandOf g hl _) (fun _ _ => Ok.t))) (fun _ => Ok.t)) (fun K hK => Ok.ite (fun _ => hK _ trivial) (fun _ => hK _ trivial))
theorem t_lev (g : MOK R C H V cr cq dp wd za) (p w : Int32) : Ok (f_M_level cr cq dp wd za p w) (fun _ => True) := by
  unfold f_M_level
  refine Ok.b1 (t_isLevel p) (fun v1 h1 => Ok.ite (fun _ => Ok.t) (fun n1 => ?_))
  obtain ⟨l, hl, rfl⟩ := t_level (z_if1 h1 n1)
  have hr : Ok (f_M_rows dp (nI l)) (fun _ => True) := by
    unfold f_M_rows; exact Ok.ain hl (by decide) Ok.t
  exact Ok.b1 (t_in _ _ _) (fun _ _ => Ok.ite (fun _ => Ok.t) (fun _ => Ok.ite (fun _ => Ok.b1 (t_sheets g hl) (fun _ _ => Ok.t)) (fun _ => Ok.ite (fun _ => Ok.b1 hr (fun _ _ => Ok.t)) (fun _ => Ok.ite (fun _ => Ok.ain hl (by decide) Ok.t) (fun _ => Ok.ite (fun _ => Ok.ain hl (by decide) Ok.t) (fun _ => Ok.ite (fun _ => Ok.ain hl (by decide) Ok.t) (fun _ => Ok.ain hl (by decide) Ok.t)))))))
theorem t_key (g : MOK R C H V cr cq dp wd za) (p q w : Int32) : Ok (f_M_key dp wd za p q w) (fun _ => True) := by
  unfold f_M_key
  refine Ok.b1 (t_isPlace p q) (fun _ _ => Ok.ite (fun _ => Ok.t) (fun _ => Ok.b1 (t_isLevel w) (fun v1 h1 => Ok.ite (fun _ => Ok.t) (fun n1 => ?_))))
  obtain ⟨l, hl, rfl⟩ := t_level (z_if1 h1 n1)
  exact Ok.b1 (t_keyAtPlace g hl _ _) (fun _ _ => Ok.t)
theorem t_common_ (g : MOK R C H V cr cq dp wd za) (hN : 1000000 ≤ N) (a b c d : Int32) : Ok (f_M_common_ N dp wd za a b c d) (fun _ => True) := by
  have L : ∀ n j, j ≤ 5 → j < n → Ok (f_M_common__L22 dp wd za a b c d n (nI j - 1)) (fun _ => True) := by
    intro n
    induction n with
    | zero => intro j _ h; omega
    | succ n ih =>
      intro j hj hn
      rw [f_M_common__L22]
      by_cases h0 : j = 0
      · subst h0
        exact Ok.ite (fun _ => Ok.t) (fun h => absurd (by decide) h)
      · rw [z_sub1 (by omega)]
        refine Ok.ite (fun _ => Ok.t) (fun _ => Ok.b1 (t_keyAtPlace g (by omega) _ _) (fun _ _ => Ok.b1 (t_keyAtPlace g (by omega) _ _) (fun _ _ => Ok.ite (fun _ => Ok.t) (fun _ => ?_))))
        rw [z_nm, z_m1]
        exact ih (j - 1) (by omega) (by omega)
  unfold f_M_common_
  exact Ok.b1 (t_isPlace _ _) (fun _ _ => Ok.ite (fun _ => Ok.t) (fun _ => Ok.b1 (t_isPlace _ _) (fun _ _ => Ok.ite (fun _ => Ok.t) (fun _ => Ok.nm (Ok.s0 (L N 5 (by omega) (by omega)) (fun _ => Ok.t) (fun _ _ => trivial))))))
theorem t_moved (g : MOK R C H V cr cq dp wd za) (p q a b w : Int32) : Ok (f_M_moved dp wd za p q a b w) (fun _ => True) := by
  unfold f_M_moved
  refine Ok.b1 (t_isPlace p q) (fun _ _ => Ok.ite (fun _ => Ok.t) (fun _ => Ok.b1 (t_isLevel w) (fun v1 h1 => Ok.ite (fun _ => Ok.t) (fun n1 => ?_))))
  obtain ⟨l, hl, rfl⟩ := t_level (z_if1 h1 n1)
  exact Ok.nm (Ok.nm (Ok.ite (fun _ => Ok.ite (fun _ => Ok.b1 (t_in _ _ _) (fun _ _ => Ok.ite (fun _ => Ok.t) (fun _ => Ok.b1 (t_down _ (by decide)) (fun _ _ => Ok.nm (Ok.b1 (t_keyAtPlace g hl _ _) (fun _ _ => Ok.t)))))) (fun _ => Ok.t)) (fun _ => Ok.t)))
theorem t_changes (g : MOK R C H V cr cq dp wd za) (hN : 1000000 ≤ N) (a b c d e w : Int32) : Ok (f_M_changes N dp wd za a b c d e w) (fun _ => True) := by
  unfold f_M_changes
  refine Ok.b1 (t_isPlace _ _) (fun _ _ => Ok.ite (fun _ => Ok.t) (fun _ => Ok.b1 (t_isPlace _ _) (fun _ _ => Ok.ite (fun _ => Ok.t) (fun _ => Ok.b1 (t_inN e 1 200 (by decide) (by decide)) (fun v3 h3 => Ok.ite (fun _ => Ok.t) (fun n3 => Ok.b1 (t_isLevel w) (fun v1 h1 => Ok.ite (fun _ => Ok.t) (fun n1 => ?_))))))))
  obtain ⟨l, hl, rfl⟩ := t_level (z_if1 h1 n1)
  obtain ⟨m, rfl, m1, m2⟩ := h3.2 n3
  have hm : (nI m).toInt64 ≠ 0 := z_i64o (nI_ne0 (by omega) (by omega))
  have L : ∀ n i (v u : Int32), i ≤ 201 → 201 - i < n → Ok (f_M_changes_L56 dp wd za a b c d (nI m) (nI l) n v u (nI i)) (fun _ => True) := by
    intro n
    induction n with
    | zero => intro i v u _ h; omega
    | succ n ih =>
      intro i v u hi hn
      rw [f_M_changes_L56]
      refine Ok.ite (fun _ => Ok.t) (fun hc => ?_)
      rw [nI_ltI (by omega) (by omega)] at hc
      refine Ok.b1 (t_down _ hm) (fun _ _ => Ok.nm (Ok.b1 (t_down _ hm) (fun _ _ => Ok.nm (Ok.b1 (t_keyAtPlace g hl _ _) (fun v16 _ => ?_)))))
      refine Ok.k1 (fun _ => True) (fun _ => True) (fun v17 _ => Ok.nm ?_) (fun K hK => Ok.ite (fun _ => hK _ trivial) (fun _ => hK _ trivial))
      rw [z_nm, nI_1]
      exact ih (i + 1) _ _ (by omega) (by omega)
  exact Ok.nm (Ok.b1 (t_keyAtPlace g hl _ _) (fun _ _ => Ok.nm (Ok.b1 (L N 1 _ _ (by omega) (by omega)) (fun _ _ => Ok.t))))
theorem t_draw (x : Int32) : Ok (f_M_draw x 16384) (fun _ => True) := by
  unfold f_M_draw
  exact Ok.rm (by decide) (Ok.dv (by decide) (Ok.rm (by decide) Ok.t))
theorem t_drawn (g : MOK R C H V cr cq dp wd za) (hN : 1000000 ≤ N) (x : Int32) (f : Nat → Int32) (a e w : Int32) : Ok (f_M_drawn N dp wd za x f a e w) (fun _ => True) := by
  have L1 : ∀ (f : Nat → Int32) (y : Int32) {m : Nat}, m ≤ 200 → ∀ n i (v : Int32), i ≤ m → m - i < n → Ok (f_M_drawn_L83 f y (nI m) n v (nI i)) (fun y => y = y) := by
    intro f y m hm n
    induction n with
    | zero => intro i v _ h; omega
    | succ n ih =>
      intro i v hi hn
      rw [f_M_drawn_L83]
      refine Ok.ite (fun _ => Ok.ret rfl) (fun hc => ?_)
      rw [nI_leI (by omega) (by omega)] at hc
      refine Ok.k1 (fun _ => True) (fun y => y = y) (fun v28 _ => ?_) (fun K hK => Ok.k0 (fun y => y = y) (hK _ trivial) (fun K2 h2 => Ok.ite (fun _ => h2) (fun _ => Ok.ain (by omega) (by decide) (Ok.ite (fun _ => h2) (fun _ => hK _ trivial)))))
      rw [z_nm, nI_1]
      exact ih (i + 1) _ (by omega) (by omega)
  unfold f_M_drawn
  refine Ok.b1 (t_inN e 1 200 (by decide) (by decide)) (fun v3 h3 => Ok.ite (fun _ => Ok.t) (fun n3 => Ok.b1 (t_isLevel w) (fun v1 h1 => Ok.ite (fun _ => Ok.t) (fun n1 => Ok.nm (Ok.nm (Ok.nm ?_))))))
  obtain ⟨l, hl, rfl⟩ := t_level (z_if1 h1 n1)
  obtain ⟨m, rfl, m1, m2⟩ := h3.2 n3
  have L2 : ∀ n i j (u : Int32) (f : Nat → Int32), i ≤ j → j ≤ m → m - j < n → Ok (f_M_drawn_L36 N dp wd za (nI m) (nI l) n (nI i) (nI j) u f) (fun _ => True) := by
    intro n
    induction n with
    | zero => intro i j u f _ _ h; omega
    | succ n ih =>
      intro i j u f hi hj hn
      rw [f_M_drawn_L36]
      refine Ok.ite (fun _ => Ok.t) (fun hc => ?_)
      rw [nI_leI (by omega) (by omega)] at hc
      refine Ok.b2 (t_draw _) (fun v13 v14 _ => Ok.nm (Ok.b2 (t_draw _) (fun v16 v17 _ => Ok.b1 (t_keyAtPlace g hl _ _) (fun v18 _ => Ok.nm (Ok.nm (Ok.b1 (L1 f v18 (m := i) (by omega) N 0 1 (by omega) (by omega)) (fun v23 _ => Ok.asn (by omega) (by decide) ?_)))))))
      refine Ok.k1 (fun v => v = nI 0 ∨ v = nI 1) (fun _ => True) (fun v25 h25 => ?_) (fun K hK => Ok.ite (fun _ => hK _ (Or.inl rfl)) (fun _ => hK _ (Or.inr rfl)))
      rcases h25 with rfl | rfl
      · rw [z_nm, nI_add, z_nm, nI_1]
        exact ih (i + 0) (j + 1) _ _ (by omega) (by omega) (by omega)
      · rw [z_nm, nI_add, z_nm, nI_1]
        exact ih (i + 1) (j + 1) _ _ (by omega) (by omega) (by omega)
  exact Ok.b3 (L2 N 0 0 _ f (by omega) (by omega) (by omega)) (fun _ _ _ _ => Ok.t)
end MU
end
section
/-! the reference: boxes, covers, what lies between -/
section MV
variable {R C H V : Nat → Nat} {cr cq dp wd za : Nat → Int32} {N l t : Nat}
theorem t_laysBox (g : MOK R C H V cr cq dp wd za) (hl : l < 5) (x1 x2 x3 x4 x5 a b w e : Int32) : Ok (f_M_laysBox dp x1 x2 x3 x4 x5 a b w e (nI l)) (fun y => ∃ r1 r2, y = (nI l, nI r1, nI r2, w, e) ∧ r1 ≤ 44 * H l + 1 ∧ r2 ≤ 44 * H l + 1) := by
  unfold f_M_laysBox
  refine Ok.b1 (t_rowAt g hl _) (fun v1 h1 => Ok.b1 (t_rowAt g hl _) (fun v2 h2 => ?_))
  obtain ⟨r1, rfl, a1⟩ := h1
  obtain ⟨r2, rfl, a2⟩ := h2
  exact Ok.ret ⟨r1, r2, rfl, a1, a2⟩
theorem t_boxMany (g : MOK R C H V cr cq dp wd za) (hl : l < 5) (w e x : Int32) : Ok (f_M_boxMany dp wd (nI l) w e x) (fun _ => True) := by
  unfold f_M_boxMany
  exact Ok.b1 (t_many g hl _) (fun _ _ => Ok.b1 (t_placeAt _ _) (fun _ _ => Ok.b1 (t_placeAt _ _) (fun _ _ => Ok.ite (fun _ => Ok.ite (fun _ => Ok.t) (fun _ => Ok.t)) (fun _ => Ok.t))))
theorem t_westOf (g : MOK R C H V cr cq dp wd za) (hl : l < 5) (w x : Int32) : Ok (f_M_westOf dp wd (nI l) w x) (fun _ => True) := by
  unfold f_M_westOf
  exact Ok.b1 (t_many g hl _) (fun _ _ => Ok.b1 (t_placeAt _ _) (fun _ _ => Ok.t))
theorem t_boxAll (g : MOK R C H V cr cq dp wd za) (hN : 1000000 ≤ N) (hl : l < 5) {a b : Nat} (ha : a ≤ 44 * H l + 1) (hb : b ≤ 44 * H l + 1) (w e : Int32) : Ok (f_M_boxAll N dp wd (nI l) (nI a) (nI b) w e) (fun _ => True) := by
  have hv := g.2.2.hv hl
  have hp := g.2.2.pos l hl
  have L : ∀ n r (v : Int32), r ≤ 44 * H l + 2 → 44 * H l + 2 - r < n → Ok (f_M_boxAll_L7 (nI b) e (nI l) w dp wd n v (nI r)) (fun _ => True) := by
    intro n
    induction n with
    | zero => intro r v _ h; omega
    | succ n ih =>
      intro r v hr hn
      rw [f_M_boxAll_L7]
      refine Ok.ite (fun _ => Ok.t) (fun hc => ?_)
      rw [nI_ltI (by omega) (by omega)] at hc
      refine Ok.k1 (fun v5 => ∃ j, v5 = nI j ∧ r ≤ j ∧ j < 1000000) (fun _ => True) (fun v5 h5 => ?_) (fun K hK => ?_)
      · obtain ⟨j, rfl, j1, j2⟩ := h5
        refine Ok.k1 (fun v6 => ∃ j, v6 = nI j ∧ r ≤ j ∧ j ≤ b) (fun _ => True) (fun v6 h6 => ?_) (fun K hK => Ok.ite (fun _ => hK _ ⟨b, rfl, by omega, Nat.le_refl _⟩) (fun h => hK _ ⟨j, rfl, j1, ?_⟩))
        · obtain ⟨i, rfl, i1, i2⟩ := h6
          refine Ok.b1 (t_boxMany g hl w e _) (fun v7 _ => Ok.nm ?_)
          rw [nI_1, z_nm]
          exact ih (i + 1) _ (by omega) (by omega)
        · rw [nI_leI (by omega) (by omega)] at h; omega
      · refine Ok.k0 (fun _ => True) (hK _ ⟨r, rfl, Nat.le_refl _, by omega⟩) (fun K2 h2 => Ok.ite (fun _ => h2) (fun h0 => ?_))
        rw [m_lastRow g hl, q_b1_s]
        refine Ok.ite (fun _ => h2) (fun h1 => ?_)
        rw [z_eq0 (by omega)] at h0
        rw [nI_eq (by omega) (by omega)] at h1
        rw [m_bandOf g hl (by omega) (by omega), q_b1_s, z_ai hl (by omega), (g.1 l hl).2.2.1, nI_1, pk_mul]
        have c1 := Nat.lt_div_mul_add (a := r - 1) (b := H l) hp.1
        have c2 := Nat.div_mul_le_self (r - 1) (H l)
        exact hK _ ⟨_, rfl, by rw [Nat.succ_mul]; omega, by rw [Nat.succ_mul]; omega⟩
  unfold f_M_boxAll
  exact Ok.nm (Ok.b1 (L N a _ (by omega) (by omega)) (fun _ _ => Ok.t))
theorem t_boxKey (g : MOK R C H V cr cq dp wd za) (hN : 1000000 ≤ N) (hl : l < 5) {a b : Nat} (ha : a ≤ 44 * H l + 1) (hb : b ≤ 44 * H l + 1) (w e x : Int32) : Ok (f_M_boxKey N dp wd za (nI l) (nI a) (nI b) w e x) (fun _ => True) := by
  have hv := g.2.2.hv hl
  have hp := g.2.2.pos l hl
  have L : ∀ n r (v : Int32), r ≤ 44 * H l + 2 → 44 * H l + 2 - r < n → Ok (f_M_boxKey_L7 (nI b) e (nI l) w dp wd za n v (nI r)) (fun _ => True) := by
    intro n
    induction n with
    | zero => intro r v _ h; omega
    | succ n ih =>
      intro r v hr hn
      rw [f_M_boxKey_L7]
      refine Ok.ite (fun _ => Ok.t) (fun hc => ?_)
      rw [nI_ltI (by omega) (by omega)] at hc
      refine Ok.b1 (t_boxMany g hl w e _) (fun v3 _ => Ok.ite (fun _ => Ok.nm ?_) (fun _ => Ok.b1 (t_westOf g hl w _) (fun v6 _ => Ok.b1 (t_many g hl _) (fun v7 h7 => ?_))))
      · rw [nI_1, z_nm]
        exact ih (r + 1) _ (by omega) (by omega)
      · obtain ⟨m, rfl, m1, m2⟩ := h7
        exact Ok.rm (nI_ne0 (by omega) (by omega)) (Ok.b1 (t_keyOf g hl (by omega) _) (fun _ _ => Ok.t))
  unfold f_M_boxKey
  exact Ok.s0 (L N a x (by omega) (by omega)) (fun _ => Ok.t) (fun _ _ => trivial)
theorem t_box (g : MOK R C H V cr cq dp wd za) (hN : 1000000 ≤ N) (x1 x2 x3 x4 x5 a b w e p i : Int32) : Ok (f_M_box N dp wd za x1 x2 x3 x4 x5 a b w e p i) (fun _ => True) := by
  unfold f_M_box
  refine Ok.b1 (t_isBox _ _ _ _) (fun _ _ => Ok.ite (fun _ => Ok.t) (fun _ => Ok.b1 (t_isLevel p) (fun v1 h1 => Ok.ite (fun _ => Ok.t) (fun n1 => Ok.ite (fun _ => ?_) (fun _ => Ok.t)))))
  obtain ⟨l, hl, rfl⟩ := t_level (z_if1 h1 n1)
  refine Ok.b5 (t_laysBox g hl x1 x2 x3 x4 x5 a b w e) (fun v3 v4 v5 v6 v7 h => ?_)
  obtain ⟨r1, r2, h, a1, a2⟩ := h
  cases h
  exact Ok.b1 (t_boxAll g hN hl a1 a2 w e) (fun _ _ => Ok.ite (fun _ => Ok.t) (fun _ => Ok.ite (fun _ => Ok.t) (fun _ => Ok.b1 (t_boxKey g hN hl a1 a2 w e i) (fun _ _ => Ok.t))))
theorem t_isWhole (g : MOK R C H V cr cq dp wd za) (ht : t < 5) (hl : l < 5) (a b w e x y : Int32) : Ok (f_M_isWhole dp wd (nI t) a b w e (nI l) x y) (fun z => z = 0 ∨ z = 1) := by
  have T0 : Ok (some (0 : Int32)) (fun z => z = 0 ∨ z = 1) := Ok.ret (Or.inl rfl)
  have T1 : Ok (some (1 : Int32)) (fun z => z = 0 ∨ z = 1) := Ok.ret (Or.inr rfl)
  unfold f_M_isWhole
  refine Ok.ite (fun _ => Ok.ite (fun _ => T1) (fun _ => T0)) (fun _ => Ok.b1 (t_lastRow g hl) (fun v1 _ => Ok.ite (fun _ => Ok.b1 (t_lastRow g ht) (fun _ _ => Ok.ite (fun _ => T1) (fun _ => T0))) (fun _ => ?_)))
  refine Ok.ain ht (by decide) (Ok.ain hl (by decide) (Ok.dv (z_dpne g hl).1 (Ok.ain ht (by decide) (Ok.ain hl (by decide) (Ok.dv (z_dpne g hl).2.1 (Ok.nm (Ok.ite (fun _ => T0) (fun _ => Ok.ite (fun _ => ?_) (fun _ => T0)))))))))
  refine Ok.b1 (t_many g ht _) (fun v9 h9 => Ok.b1 (t_boxMany g ht w e _) (fun v10 _ => Ok.b1 (t_westOf g ht w _) (fun v11 _ => ?_)))
  obtain ⟨m, rfl, m1, m2⟩ := h9
  exact Ok.rm (nI_ne0 (by omega) (by omega)) (Ok.k0 (fun z => z = 0 ∨ z = 1) T1 (fun K hK => Ok.ite (fun _ => hK) (fun _ => Ok.ite (fun _ => T0) (fun _ => hK))))
theorem t_isWholeAbove (g : MOK R C H V cr cq dp wd za) (ht : t < 5) (hl : l < 5) (h1 : 1 ≤ l) (a b w e x y : Int32) : Ok (f_M_isWholeAbove cr cq dp wd (nI t) a b w e (nI l) x y) (fun _ => True) := by
  unfold f_M_isWholeAbove
  refine Ok.ite (fun _ => Ok.t) (fun _ => Ok.b1 (t_lastRow g hl) (fun v1 _ => Ok.ite (fun _ => Ok.t) (fun _ => ?_)))
  refine Ok.ain hl (by decide) (Ok.dv (z_dpne g hl).2.2.1 (Ok.ain hl (by decide) (Ok.dv (z_dpne g hl).2.2.2 ?_)))
  rw [z_sub1 h1]
  exact Ok.b1 (t_isWhole g ht (by omega) a b w e _ _) (fun v6 h6 => Ok.bo h6 Ok.t)
theorem t_covers_L198 (g : MOK R C H V cr cq dp wd za) (ht : t < 5) (hl : l < 5) {r m : Nat} (hr : r ≤ 44 * H l + 1) (hm : m ≤ 563400) (a b w e x x15 x16 x17 : Int32) : ∀ n i (v : Int32), i ≤ m → m - i < n → Ok (f_M_covers_L198 b e (nI t) a w cq cr dp wd za x (nI r) (nI m) x15 x16 x17 (nI l) n v (nI i)) (fun _ => True) := by
  intro n
  induction n with
  | zero => intro i v _ h; omega
  | succ n ih =>
    intro i v hi hn
    rw [f_M_covers_L198]
    refine Ok.ite (fun _ => Ok.t) (fun hc => ?_)
    rw [nI_leI (by omega) (by omega)] at hc
    refine Ok.k1 (fun _ => True) (fun _ => True) (fun v23 _ => ?_) (fun K hK => Ok.ite (fun _ => Ok.b1 (t_in _ _ _) (fun _ _ => hK _ trivial)) (fun _ => Ok.k0 (fun _ => True) (hK _ trivial) (fun K2 h2 => Ok.ite (fun _ => h2) (fun _ => Ok.ite (fun _ => hK _ trivial) (fun _ => h2)))))
    refine Ok.k1 (fun _ => True) (fun _ => True) (fun v24 _ => ?_) (fun K hK => Ok.ite (fun _ => hK _ trivial) (fun _ => Ok.b1 (t_isWhole g ht hl a b w e _ _) (fun v26 _ => Ok.ite (fun _ => hK _ trivial) (fun _ => ?_))))
    · rw [z_nm, nI_1]
      exact ih (i + 1) _ (by omega) (by omega)
    · refine Ok.k0 (fun _ => True) (Ok.ite (fun _ => Ok.b1 (t_keyOf g hl hr _) (fun _ _ => Ok.t)) (fun _ => Ok.nm (hK _ trivial))) (fun K2 h2 => Ok.ite (fun _ => h2) (fun h => ?_))
      have h1 : 1 ≤ l := by
        rcases Nat.eq_zero_or_pos l with z | z
        · exfalso; apply h; rw [z]; decide
        · exact z
      exact Ok.b1 (t_isWholeAbove g ht hl h1 a b w e _ _) (fun _ _ => Ok.ite (fun _ => h2) (fun _ => hK _ trivial))
theorem t_covers_L137 (g : MOK R C H V cr cq dp wd za) (hN : 1000000 ≤ N) (ht : t < 5) (hl : l < 5) {z : Nat} (hz : z ≤ 44 * H l + 1) (a b w e x : Int32) : ∀ n r (v : Int32), r ≤ 1000000 → z + 1 - r < n → Ok (f_M_covers_L137 N b e (nI t) a w cq cr dp wd za x (nI l) (nI z) n v (nI r)) (fun _ => True) := by
  have hv := g.2.2.hv hl
  intro n
  induction n with
  | zero => intro r v _ h; omega
  | succ n ih =>
    intro r v hr hn
    rw [f_M_covers_L137]
    refine Ok.ite (fun _ => Ok.t) (fun hc => ?_)
    rw [nI_ltI (by omega) (by omega)] at hc
    refine Ok.b1 (t_many g hl _) (fun v14 h14 => Ok.b1 (t_placeAt _ _) (fun v15 _ => Ok.b1 (t_placeAt _ _) (fun v16 _ => ?_)))
    obtain ⟨m, rfl, m1, m2⟩ := h14
    refine Ok.k1 (fun _ => True) (fun _ => True) (fun v17 _ => Ok.nm (Ok.s1 (t_covers_L198 g ht hl (r := r) (m := m) (by omega) m2 a b w e x v15 v16 v17 N 0 v (by omega) (by omega)) (fun v21 _ => ?_) (fun _ _ => trivial))) (fun K hK => Ok.ite (fun _ => hK _ trivial) (fun _ => hK _ trivial))
    rw [z_nm, nI_1]
    exact ih (r + 1) _ (by omega) (by omega)
theorem z_topOf {H0 H1 a : Nat} (hd : H0 ∣ H1) (h0 : 1 ≤ H0) (h1 : 1 ≤ H1) (ha : a ≤ 44 * H1 + 1) : (a - 1) / (H1 / H0) ≤ 44 * H0 := by
  obtain ⟨q1, q2, q3⟩ := z_quot hd h0 h1
  have : (a - 1) / (H1 / H0) < 44 * H0 + 1 := by
    apply Nat.div_lt_of_lt_mul
    rw [Nat.mul_succ, Nat.mul_left_comm, Nat.mul_comm (H1 / H0) H0, q3]
    omega
  omega
theorem t_covers_L4 (g : MOK R C H V cr cq dp wd za) (hN : 1000000 ≤ N) (ht : t < 5) {a b : Nat} (ha : a ≤ 44 * H t + 1) (hb : b ≤ 44 * H t + 1) (w e x : Int32) : ∀ n l (v : Int32), l ≤ t + 1 → t + 1 - l < n → Ok (f_M_covers_L4 N (nI b) e (nI t) (nI a) w cq cr dp wd za x n v (nI l)) (fun _ => True) := by
  have hvt := g.2.2.hv ht
  have hpt := g.2.2.pos t ht
  intro n
  induction n with
  | zero => intro l v _ h; omega
  | succ n ih =>
    intro l v hlt hn
    rw [f_M_covers_L4]
    refine Ok.ite (fun _ => Ok.t) (fun hc => ?_)
    rw [nI_ltI (by omega) (by omega)] at hc
    have hl : l < 5 := by omega
    have hv := g.2.2.hv hl
    have hp := g.2.2.pos l hl
    have hd := g.2.2.dvd t ht l (by omega)
    obtain ⟨q1, q2, q3⟩ := z_quot hd.1 hp.1 hpt.1
    refine Ok.k1 (fun v6 => ∃ j, v6 = nI j ∧ j ≤ 44 * H l + 1) (fun _ => True) (fun v6 h6 => ?_) (fun K hK => Ok.ite (fun _ => hK _ ⟨0, rfl, by omega⟩) (fun h0 => ?_))
    · obtain ⟨j6, rfl, j6b⟩ := h6
      refine Ok.k1 (fun v7 => ∃ j, v7 = nI j ∧ j ≤ 44 * H l + 1) (fun _ => True) (fun v7 h7 => ?_) (fun K hK => Ok.ite (fun _ => hK _ ⟨0, rfl, by omega⟩) (fun h0 => ?_))
      · obtain ⟨j7, rfl, j7b⟩ := h7
        rw [m_lastRow g ht, q_b1_s]
        refine Ok.k1 (fun v9 => ∃ j, v9 = nI j ∧ j ≤ 44 * H l + 1) (fun _ => True) (fun v9 h9 => ?_) (fun K hK => Ok.ite (fun _ => ?_) (fun _ => hK _ ⟨j6, rfl, j6b⟩))
        · obtain ⟨j9, rfl, j9b⟩ := h9
          refine Ok.s1 (t_covers_L137 g hN ht hl j7b (nI a) (nI b) w e x N j9 v (by omega) (by omega)) (fun v12 _ => ?_) (fun _ _ => trivial)
          rw [z_nm, nI_1]
          exact ih (l + 1) _ (by omega) (by omega)
        · rw [m_lastRow g hl, q_b1_s]
          exact hK _ ⟨_, rfl, Nat.le_refl _⟩
      · rw [z_eq0 (by omega)] at h0
        rw [m_lastRow g ht, q_b1_s]
        refine Ok.ite (fun _ => ?_) (fun _ => ?_)
        · rw [m_lastRow g hl, q_b1_s]
          exact hK _ ⟨_, rfl, Nat.le_refl _⟩
        · have := z_topOf hd.1 hp.1 hpt.1 hb
          rw [z_ai ht (by omega), (g.1 t ht).2.2.1, z_ai hl (by omega), (g.1 l hl).2.2.1, z_dv (by omega) (by omega) (by omega), z_sub1 (by omega), z_dv (by omega) (by omega) (by omega), z_i 1, nI_add]
          exact hK _ ⟨_, rfl, by omega⟩
    · rw [z_eq0 (by omega)] at h0
      have := z_topOf hd.1 hp.1 hpt.1 ha
      rw [z_ai ht (by omega), (g.1 t ht).2.2.1, z_ai hl (by omega), (g.1 l hl).2.2.1, z_dv (by omega) (by omega) (by omega), z_sub1 (by omega), z_dv (by omega) (by omega) (by omega), z_i 1, nI_add]
      exact hK _ ⟨_, rfl, by omega⟩
theorem t_cover (g : MOK R C H V cr cq dp wd za) (hN : 1000000 ≤ N) (x1 x2 x3 x4 x5 a b w e p i : Int32) : Ok (f_M_cover N cr cq dp wd za x1 x2 x3 x4 x5 a b w e p i) (fun _ => True) := by
  unfold f_M_cover
  refine Ok.b1 (t_isBox _ _ _ _) (fun _ _ => Ok.ite (fun _ => Ok.t) (fun _ => Ok.b1 (t_isLevel p) (fun v1 h1 => Ok.ite (fun _ => Ok.t) (fun n1 => Ok.ite (fun _ => ?_) (fun _ => Ok.t)))))
  obtain ⟨l, hl, rfl⟩ := t_level (z_if1 h1 n1)
  refine Ok.b5 (t_laysBox g hl x1 x2 x3 x4 x5 a b w e) (fun v3 v4 v5 v6 v7 h => ?_)
  obtain ⟨r1, r2, h, a1, a2⟩ := h
  cases h
  have hc : Ok (f_M_covers N cr cq dp wd za (nI l) (nI r1) (nI r2) w e i) (fun _ => True) := by
    unfold f_M_covers
    exact Ok.nm (Ok.nm (Ok.s1 (t_covers_L4 g hN hl a1 a2 w e i N 0 _ (by omega) (by omega)) (fun _ _ => Ok.ite (fun _ => Ok.t) (fun _ => Ok.t)) (fun _ _ => trivial)))
  exact Ok.b1 (t_boxAll g hN hl a1 a2 w e) (fun _ _ => Ok.ite (fun _ => Ok.b1 hc (fun _ _ => Ok.t)) (fun _ => Ok.t))
theorem t_betweenOf (g : MOK R C H V cr cq dp wd za) (hN : 1000000 ≤ N) (hl : l < 5) {k k2 : Nat} (hk : k < 2130 * (H l * V l) + 2) (hk2 : k2 < 2130 * (H l * V l) + 2) (bl bo : Int64) (ed : Nat → Int64) (x1 x2 x3 x4 x5 : Int32) : Ok (f_M_betweenOf N dp wd za bl bo ed x1 x2 x3 x4 x5 (nI l) (nI k) (nI k2)) (fun _ => True) := by
  unfold f_M_betweenOf
  refine Ok.b4 (t_middleOf g (by omega) hl hk _ _ _ _) (fun v1 v2 v3 f4 _ => Ok.b4 (t_middleOf g (by omega) hl hk2 _ _ _ _) (fun v5 v6 v7 f8 _ => ?_))
  refine Ok.k1 (fun _ => True) (fun _ => True) (fun v9 _ => ?_) (fun K hK => Ok.ite (fun _ => hK _ trivial) (fun _ => hK _ trivial))
  refine Ok.k1 (fun _ => True) (fun _ => True) (fun v10 _ => ?_) (fun K hK => Ok.ite (fun _ => hK _ trivial) (fun _ => hK _ trivial))
  refine Ok.b4 (t_middleOf g (by omega) hl hk _ _ _ _) (fun v11 v12 v13 f14 _ => Ok.b4 (t_middleOf g (by omega) hl hk2 _ _ _ _) (fun v15 v16 v17 f18 _ => Ok.b5 (t_laysBox g hl x1 x2 x3 x4 x5 _ _ _ _) (fun v19 v20 v21 v22 v23 h => ?_)))
  obtain ⟨r1, r2, h, a1, a2⟩ := h
  cases h
  exact Ok.b1 (t_boxAll g hN hl a1 a2 _ _) (fun _ _ => Ok.t)
theorem t_between (g : MOK R C H V cr cq dp wd za) (hN : 1000000 ≤ N) (bl bo : Int64) (ed : Nat → Int64) (x1 x2 x3 x4 x5 p q w : Int32) : Ok (f_M_between N dp wd za bl bo ed x1 x2 x3 x4 x5 p q w) (fun _ => True) := by
  unfold f_M_between
  refine Ok.b1 (t_isKey g p q) (fun v1 h1 => Ok.ite (fun _ => Ok.t) (fun n1 => Ok.b1 (t_isKey g p w) (fun v2 h2 => Ok.ite (fun _ => Ok.t) (fun n2 => ?_))))
  obtain ⟨l, k, k2, hl, rfl, rfl, rfl, hk, hk2⟩ := t_two g (h1 n1) (h2 n2)
  exact Ok.b9 (t_betweenOf g hN hl hk hk2 bl bo ed x1 x2 x3 x4 x5) (fun _ _ _ _ _ _ _ _ _ _ => Ok.t)
end MV
end
section
/-! the reference: names; the order of names -/
section MW
variable {R C H V : Nat → Nat} {cr cq dp wd za : Nat → Int32} {N l : Nat}
theorem t_digitsInto (f : Nat → Int32) {p : Nat} (hp : p + 2 ≤ 20) (v : Int32) : Ok (f_M_digitsInto f (nI p) v) (fun y => ∃ j, y.1 = nI j ∧ j ≤ p + 2) := by
  unfold f_M_digitsInto
  refine Ok.k2 (fun v1 _ => ∃ j, v1 = nI j ∧ j ≤ p + 1) (fun y => ∃ j, y.1 = nI j ∧ j ≤ p + 2) (fun v1 f2 h1 => ?_) (fun K hK => Ok.ite (fun _ => hK _ _ ⟨p, rfl, by omega⟩) (fun _ => Ok.dv (by decide) (Ok.asn (by omega) (by decide) ?_)))
  · obtain ⟨j, rfl, hj⟩ := h1
    refine Ok.rm (by decide) (Ok.asn (by omega) (by decide) (Ok.ret ⟨j + 1, ?_, by omega⟩))
    dsimp only; rw [nI_1]
  · rw [z_nm, nI_1]
    exact hK _ _ ⟨p + 1, rfl, by omega⟩
theorem t_spells_L (g : MOK R C H V cr cq dp wd za) (hl : l < 5) (x y : Int32) : ∀ n i j (f : Nat → Int32), 1 ≤ i → i ≤ l + 1 → l + 1 - i < n → j + 3 ≤ 4 + 3 * i → Ok (f_M_spells_L120 cq cr dp wd (nI l) x y n (nI j) (nI i) f) (fun z => ∃ k, z.1 = nI k ∧ k ≤ 16) := by
  have hv := g.2.2.hv hl
  have hp := g.2.2.pos l hl
  intro n
  induction n with
  | zero => intro i j f _ _ h; omega
  | succ n ih =>
    intro i j f h1 hi hn hj
    rw [f_M_spells_L120]
    refine Ok.ite (fun _ => Ok.ret ⟨j, rfl, by omega⟩) (fun hc => ?_)
    rw [nI_ltI (by omega) (by omega)] at hc
    have hi5 : i < 5 := by omega
    have hvi := g.2.2.hv hi5
    have hpi := g.2.2.pos i hi5
    have hd := g.2.2.dvd l hl i (by omega)
    have q1 := z_quot hd.1 hpi.1 hp.1
    have q2 := z_quot hd.2 hpi.2 hp.2
    rw [z_ai hl (by omega), (g.1 l hl).2.2.1, z_ai hi5 (by omega), (g.1 i hi5).2.2.1, z_dv (by omega) (by omega) (by omega)]
    refine Ok.dv (nI_ne0 (by omega) (by omega)) (Ok.nm (Ok.asn (by omega) (by decide) ?_))
    rw [z_ai hl (by omega), (g.1 l hl).2.2.2, z_ai hi5 (by omega), (g.1 i hi5).2.2.2, z_dv (by omega) (by omega) (by omega)]
    refine Ok.dv (nI_ne0 (by omega) (by omega)) (Ok.b1 (t_pieceNumber g hi5 _ _) (fun v29 _ => ?_))
    rw [nI_1]
    refine Ok.b2 (t_digitsInto _ (p := j + 1) (by omega) v29) (fun v30 f31 h => ?_)
    obtain ⟨k, h, hk⟩ := h
    dsimp only at h
    subst h
    rw [z_nm, nI_1]
    exact ih (i + 1) k _ (by omega) (by omega) (by omega) (by omega)
theorem t_spells (g : MOK R C H V cr cq dp wd za) (hN : 1000000 ≤ N) (hl : l < 5) {k : Nat} (hk : k < 2130 * (H l * V l) + 2) (f : Nat → Int32) : Ok (f_M_spells N cr cq dp wd za f (nI l) (nI k)) (fun z => ∃ j, z.1 = nI j ∧ j ≤ 16) := by
  have hv := g.2.2.hv hl
  have hp := g.2.2.pos l hl
  unfold f_M_spells
  rcases t_isCap g hl hk with ⟨-, e⟩ | ⟨c, e⟩ <;> rw [e, q_b1_s]
  · refine Ok.ite (fun h => absurd h (by decide)) (fun _ => Ok.k1 (fun _ => True) (fun z => ∃ j, z.1 = nI j ∧ j ≤ 16) (fun v33 _ => Ok.as (by decide) (Ok.as (by decide) (Ok.ret ⟨2, rfl, by omega⟩))) (fun K hK => Ok.ite (fun _ => hK _ trivial) (fun _ => hK _ trivial)))
  · refine Ok.ite (fun _ => ?_) (fun h => absurd rfl h)
    obtain ⟨r, p, hr, hpr, hk2, er, ep⟩ := t_spot (N := N) g (by omega) hl hk
    rw [er, q_b1_s, ep, q_b1_s]
    refine Ok.b1 (t_bandOf g hl _) (fun v4 _ => Ok.k1 (fun _ => True) (fun z => ∃ j, z.1 = nI j ∧ j ≤ 16) (fun v5 _ => Ok.as (by decide) ?_) (fun K hK => Ok.ite (fun _ => hK _ trivial) (fun _ => hK _ trivial)))
    refine Ok.k1 (fun _ => True) (fun z => ∃ j, z.1 = nI j ∧ j ≤ 16) (fun v7 _ => Ok.as (by decide) (Ok.ain hl (by decide) (Ok.dv (z_dpne g hl).2.1 ?_))) (fun K hK => Ok.ite (fun _ => hK _ trivial) (fun _ => hK _ trivial))
    rw [z_i 2]
    refine Ok.b2 (t_digitsInto _ (p := 2) (by omega) _) (fun v11 f12 h => Ok.nm ?_)
    obtain ⟨j, h, hj⟩ := h
    dsimp only at h
    subst h
    exact Ok.b2 (t_spells_L g hl _ _ N 1 j f12 (by omega) (by omega) (by omega) (by omega)) (fun v17 f18 h => Ok.ret h)
theorem t_name (g : MOK R C H V cr cq dp wd za) (hN : 1000000 ≤ N) (f : Nat → Int32) (p q w : Int32) : Ok (f_M_name N cr cq dp wd za f p q w) (fun _ => True) := by
  unfold f_M_name
  refine Ok.b1 (t_isKey g p q) (fun v1 h1 => Ok.ite (fun _ => Ok.t) (fun n1 => Ok.ite (fun hi => ?_) (fun _ => Ok.t)))
  obtain ⟨l, k, hl, rfl, rfl, hk⟩ := h1 n1
  refine Ok.b2 (t_spells g hN hl hk f) (fun v2 f3 h => Ok.ite (fun _ => Ok.t) (fun hne => Ok.ite (fun _ => Ok.t) (fun hlt => Ok.ai ?_ Ok.t)))
  obtain ⟨j, h, hj⟩ := h
  dsimp only at h
  subst h
  have a1 := z_le.mp hi
  rw [show (-1 : Int32).toInt = -1 from rfl] at a1
  have a2 : w.toInt ≠ -1 := fun z => hne (Int32.toInt_inj.mp (by rw [z]; rfl))
  have a3 : ¬ (nI j).toInt ≤ w.toInt := fun z => hlt (z_le.mpr z)
  rw [nI_toInt (by omega)] at a3
  exact ⟨by omega, by omega⟩
theorem t_before (g : MOK R C H V cr cq dp wd za) (hN : 1000000 ≤ N) (f f' : Nat → Int32) (p q w : Int32) : Ok (f_M_before N cr cq dp wd za f f' p q w) (fun _ => True) := by
  unfold f_M_before
  refine Ok.b1 (t_isKey g p q) (fun v1 h1 => Ok.ite (fun _ => Ok.t) (fun n1 => Ok.b1 (t_isKey g p w) (fun v2 h2 => Ok.ite (fun _ => Ok.t) (fun n2 => ?_))))
  obtain ⟨l, k, k2, hl, rfl, rfl, rfl, hk, hk2⟩ := t_two g (h1 n1) (h2 n2)
  refine Ok.b2 (t_spells g hN hl hk f) (fun v3 f4 h3 => Ok.b2 (t_spells g hN hl hk2 f') (fun v5 f6 h5 => Ok.nm ?_))
  obtain ⟨a, h3, ha⟩ := h3
  obtain ⟨b, h5, hb⟩ := h5
  dsimp only at h3 h5
  subst h3; subst h5
  have L : ∀ n i, i ≤ 16 → 16 - i < n → Ok (f_M_before_L48 f4 f6 (nI a) (nI b) n (nI i)) (fun _ => True) := by
    intro n
    induction n with
    | zero => intro i _ h; omega
    | succ n ih =>
      intro i hi hn
      rw [f_M_before_L48]
      refine Ok.ite (fun _ => Ok.t) (fun hc => Ok.ite (fun _ => Ok.t) (fun _ => ?_))
      rw [nI_leI (by omega) (by omega)] at hc
      refine Ok.ain (by omega) (by decide) (Ok.ain (by omega) (by decide) (Ok.ite (fun _ => ?_) (fun _ => Ok.ain (by omega) (by decide) (Ok.ain (by omega) (by decide) (Ok.ite (fun _ => Ok.t) (fun _ => Ok.t))))))
      rw [z_nm, nI_1]
      exact ih (i + 1) (by omega) (by omega)
  exact Ok.s0 (L N 0 (by omega) (by omega)) (fun _ => Ok.ite (fun _ => Ok.ite (fun _ => Ok.t) (fun _ => Ok.t)) (fun _ => Ok.t)) (fun _ _ => trivial)
end MW
end
section
/-! the reference: its store -/
section MS
variable {R C H V : Nat → Nat} {cr cq dp wd za : Nat → Int32} {N l m : Nat} {pl pk py : Nat → Int32}
def z_ps (H V : Nat → Nat) (pl pk : Nat → Int32) (m : Nat) : Prop := m ≤ 60 ∧ ∀ i, i < m → z_hs H V (pl i) (pk i)
theorem t_slotOf (hN : 1000000 ≤ N) (hm : m ≤ 60) (p q : Int32) : Ok (f_M_slotOf N (nI m) pl pk p q) (fun y => ∃ j, y = nI j ∧ j ≤ m) := by
  have L : ∀ n i, i ≤ m → m - i < n → Ok (f_M_slotOf_L2 pk pl (nI m) p q n (nI i)) (fun y => ∃ j, y = nI j ∧ j ≤ m) := by
    intro n
    induction n with
    | zero => intro i _ h; omega
    | succ n ih =>
      intro i hi hn
      rw [f_M_slotOf_L2]
      refine Ok.ite (fun _ => Ok.ret ⟨i, rfl, hi⟩) (fun hc => ?_)
      rw [nI_leI (by omega) (by omega)] at hc
      refine Ok.ain (by omega) (by decide) (Ok.k0 (fun y => ∃ j, y = nI j ∧ j ≤ m) ?_ (fun K hK => Ok.ite (fun _ => hK) (fun _ => Ok.ain (by omega) (by decide) (Ok.ite (fun _ => Ok.ain (by omega) (by decide) (Ok.ite (fun _ => Ok.ret ⟨i, rfl, hi⟩) (fun _ => hK))) (fun _ => Ok.ret ⟨i, rfl, hi⟩)))))
      rw [z_nm, nI_1]
      exact ih (i + 1) (by omega) (by omega)
  unfold f_M_slotOf
  exact Ok.nm (Ok.b1 (L N 0 (by omega) (by omega)) (fun _ h => Ok.ret h))
theorem t_isPiece (hm : m ≤ 60) {j : Nat} (hj : j ≤ m) (p q : Int32) : Ok (f_M_isPiece (nI m) pl pk (nI j) p q) (fun y => ¬ y = 0 → j < m) := by
  unfold f_M_isPiece
  refine Ok.ite (fun _ => Ok.ret (fun h => absurd rfl h)) (fun hc => ?_)
  rw [nI_leI (by omega) (by omega)] at hc
  have hjm : j < m := by omega
  exact Ok.ain (by omega) (by decide) (Ok.ite (fun _ => Ok.ain (by omega) (by decide) (Ok.ite (fun _ => Ok.ret (fun _ => hjm)) (fun _ => Ok.ret (fun _ => hjm)))) (fun _ => Ok.ret (fun _ => hjm)))
theorem m_puts {i : Nat} (hi : i < 60) (a b c : Int32) : f_M_puts pl pk py (nI i) a b c = some (upd pl i a, upd pk i b, upd py i c) := by
  unfold f_M_puts
  rw [z_as hi (by omega), z_as hi (by omega), z_as hi (by omega)]
theorem t_removes (hN : 1000000 ≤ N) (h : z_ps H V pl pk m) {j : Nat} (hj : j < m) : Ok (f_M_removes N (nI m) pl pk py (nI j)) (fun y => y.1 = nI (m - 1) ∧ z_ps H V y.2.1 y.2.2.1 (m - 1)) := by
  obtain ⟨hm, h⟩ := h
  have L : ∀ n i (a b c : Nat → Int32), i ≤ m - 1 → m - 1 - i < n → (∀ x, x < m → z_hs H V (a x) (b x)) → Ok (f_M_removes_L12 (nI (m - 1)) n (nI i) a b c) (fun y => ∀ x, x < m → z_hs H V (y.1 x) (y.2.1 x)) := by
    intro n
    induction n with
    | zero => intro i a b c _ h; omega
    | succ n ih =>
      intro i a b c hi hn ha
      rw [f_M_removes_L12]
      refine Ok.ite (fun _ => Ok.ret ha) (fun hc => ?_)
      rw [nI_leI (by omega) (by omega)] at hc
      rw [nI_1, z_ai (by omega) (by omega), z_ai (by omega) (by omega), z_ai (by omega) (by omega), m_puts (by omega), q_b3_s, z_nm]
      refine ih (i + 1) _ _ _ (by omega) (by omega) (fun x hx => ?_)
      by_cases e : x = i
      · subst e; rw [z_updS, z_updS]; exact ha _ (by omega)
      · rw [z_updN e, z_updN e]; exact ha _ hx
  unfold f_M_removes
  rw [z_sub1 (by omega)]
  exact Ok.nm (Ok.b3 (L N j pl pk py (by omega) (by omega) h) (fun f6 f7 f8 hq => Ok.ret ⟨rfl, by omega, fun i hi => hq i (by omega)⟩))
/-- what is stored: a cap at level 0 -/
theorem t_where (g : MOK R C H V cr cq dp wd za) (hN : 1000000 ≤ N) (hl : l < 5) {k : Nat} (hk : k < 2130 * (H l * V l) + 2) {α : Type} {P : α → Prop} {G : Int32 → Int32 → Option α} (hG : ∀ a b, z_hs H V a b → Ok (G a b) P) : Ok (q_b1 (f_M_isCap dp wd za (nI l) (nI k)) (fun (v3 : Int32) => q_j1 (fun (v4 : Int32) => (q_b1 (f_M_isCap dp wd za (nI l) (nI k)) (fun (v5 : Int32) => q_j1 (fun (v6 : Int32) => (G v4 v6 : Option α)) (fun (k54 : Int32 → Option α) => if v5 = 0 then (k54 (nI k)) else (q_b1 (f_M_parentOf N dp wd za (nI l) (nI k) 0) (fun (v31 : Int32) => k54 v31)))) : Option α)) (fun (k32 : Int32 → Option α) => if v3 = 0 then (k32 (nI l)) else (k32 0)))) P := by
  rcases t_isCap g hl hk with ⟨c, e⟩ | ⟨c, e⟩ <;> rw [e, q_b1_s]
  · refine Ok.k1 (fun v => v = nI 0) P (fun v4 h4 => ?_) (fun K hK => Ok.ite (fun h => absurd h (by decide)) (fun _ => hK _ rfl))
    subst h4
    rw [q_b1_s]
    refine Ok.k1 (fun v => z_hs H V (nI 0) v) P (fun v6 h6 => hG _ _ h6) (fun K hK => Ok.ite (fun h => absurd h (by decide)) (fun _ => ?_))
    refine Ok.b1 (t_parentOf g (by omega) hl (t := 0) (by omega) hk) (fun v31 h31 => hK _ ?_)
    obtain ⟨k2, e2, hk2⟩ := h31 c
    exact ⟨0, k2, by omega, rfl, e2, hk2⟩
  · refine Ok.k1 (fun v => v = nI l) P (fun v4 h4 => ?_) (fun K hK => Ok.ite (fun _ => hK _ rfl) (fun h => absurd rfl h))
    subst h4
    rw [q_b1_s]
    exact Ok.k1 (fun v => z_hs H V (nI l) v) P (fun v6 h6 => hG _ _ h6) (fun K hK => Ok.ite (fun _ => hK _ ⟨l, k, hl, rfl, rfl, hk⟩) (fun h => absurd rfl h))
theorem t_store (g : MOK R C H V cr cq dp wd za) (hN : 1000000 ≤ N) (h : z_ps H V pl pk m) (p q y : Int32) : Ok (f_M_store N dp wd za (nI m) pl pk py p q y) (fun x => ∃ m2, x.2.1 = nI m2 ∧ z_ps H V x.2.2.1 x.2.2.2.1 m2) := by
  have hno : ∀ a : Int32, Ok (some (a, nI m, pl, pk, py)) (fun x => ∃ m2, x.2.1 = nI m2 ∧ z_ps H V x.2.2.1 x.2.2.2.1 m2) := fun a => Ok.ret ⟨m, rfl, h⟩
  obtain ⟨hm, hv⟩ := h
  unfold f_M_store
  refine Ok.b1 (t_isKey g p q) (fun v1 h1 => Ok.ite (fun _ => hno _) (fun n1 => Ok.b1 (t_isYear y) (fun v2 h2 => Ok.ite (fun _ => hno _) (fun n2 => ?_))))
  obtain ⟨l, k, hl, rfl, rfl, hk⟩ := h1 n1
  refine t_where g hN hl hk (fun a b hab => ?_)
  refine Ok.b1 (t_slotOf hN hm a b) (fun v7 h7 => ?_)
  obtain ⟨j, rfl, hj⟩ := h7
  refine Ok.b1 (t_isPiece hm hj a b) (fun v8 h8 => ?_)
  refine Ok.k4 (fun v9 f10 f11 _ => ∃ m2, v9 = nI m2 ∧ m2 ≤ 60 ∧ j < m2 ∧ ∀ i, i < m2 → i ≠ j → z_hs H V (f10 i) (f11 i)) (fun x => ∃ m2, x.2.1 = nI m2 ∧ z_ps H V x.2.2.1 x.2.2.2.1 m2) (fun v9 f10 f11 f12 h9 => ?_) (fun K hK => Ok.ite (fun _ => Ok.ite (fun _ => hno _) (fun h60 => ?_)) (fun n8 => hK _ _ _ _ ⟨m, rfl, hm, h8 n8, fun i hi _ => hv i hi⟩))
  · obtain ⟨m2, rfl, a1, a2, a3⟩ := h9
    rw [m_puts (by omega), q_b3_s]
    refine Ok.ret ⟨m2, rfl, a1, fun i hi => ?_⟩
    dsimp only
    by_cases e : i = j
    · subst e; rw [z_updS, z_updS]; exact hab
    · rw [z_updN e, z_updN e]; exact a3 i hi e
  · rw [z_i 60, nI_eq (by omega) (by omega)] at h60
    have L : ∀ n i (a b c : Nat → Int32), j ≤ i → i ≤ m → i - j < n → (∀ x, x ≤ m → x ≠ i → z_hs H V (a x) (b x)) → Ok (f_M_store_L97 (nI j) n (nI i) a b c) (fun y => ∀ x, x ≤ m → x ≠ j → z_hs H V (y.1 x) (y.2.1 x)) := by
      intro n
      induction n with
      | zero => intro i a b c _ _ h; omega
      | succ n ih =>
        intro i a b c hij him hn ha
        rw [f_M_store_L97]
        by_cases e : i = j
        · subst e
          exact Ok.ite (fun _ => Ok.ret ha) (fun hc => absurd (by rw [nI_leI (by omega) (by omega)]; omega) hc)
        · refine Ok.ite (fun hc => absurd hc (by rw [nI_leI (by omega) (by omega)]; omega)) (fun _ => ?_)
          rw [z_m1, z_sub1 (by omega), z_ai (by omega) (by omega), z_ai (by omega) (by omega), z_ai (by omega) (by omega), m_puts (by omega), q_b3_s, z_nm]
          refine ih (i - 1) _ _ _ (by omega) (by omega) (by omega) (fun x hx hne => ?_)
          by_cases e2 : x = i
          · subst e2; rw [z_updS, z_updS]; exact ha _ (by omega) (by omega)
          · rw [z_updN e2, z_updN e2]; exact ha _ hx e2
    refine Ok.b3 (L N m pl pk py hj (Nat.le_refl _) (by omega) (fun x hx hne => hv x (by omega))) (fun f20 f21 f22 hq => Ok.nm ?_)
    rw [nI_1]
    exact hK _ _ _ _ ⟨m + 1, rfl, by omega, by omega, fun i hi hne => hq i (by omega) hne⟩
theorem t_drop (g : MOK R C H V cr cq dp wd za) (hN : 1000000 ≤ N) (h : z_ps H V pl pk m) (p q : Int32) : Ok (f_M_drop N dp wd za (nI m) pl pk py p q) (fun x => ∃ m2, x.2.1 = nI m2 ∧ z_ps H V x.2.2.1 x.2.2.2.1 m2) := by
  have hno : ∀ a : Int32, Ok (some (a, nI m, pl, pk, py)) (fun x => ∃ m2, x.2.1 = nI m2 ∧ z_ps H V x.2.2.1 x.2.2.2.1 m2) := fun a => Ok.ret ⟨m, rfl, h⟩
  have hm := h.1
  unfold f_M_drop
  refine Ok.b1 (t_isKey g p q) (fun v1 h1 => Ok.ite (fun _ => hno _) (fun n1 => ?_))
  obtain ⟨l, k, hl, rfl, rfl, hk⟩ := h1 n1
  refine t_where g hN hl hk (fun a b hab => ?_)
  refine Ok.b1 (t_slotOf hN hm a b) (fun v7 h7 => ?_)
  obtain ⟨j, rfl, hj⟩ := h7
  refine Ok.b1 (t_isPiece hm hj a b) (fun v8 h8 => Ok.ite (fun _ => hno _) (fun n8 => ?_))
  have hjm := h8 n8
  refine Ok.ain (by omega) (by decide) (Ok.b4 (t_removes hN h hjm) (fun v9 f10 f11 f12 hq => Ok.ret ⟨m - 1, ?_, ?_⟩))
  · exact hq.1
  · exact hq.2
theorem t_piece (hm : m ≤ 60) (p q : Int32) : Ok (f_M_piece (nI m) pl pk py p q) (fun _ => True) := by
  unfold f_M_piece
  refine Ok.ite (fun _ => Ok.t) (fun h0 => Ok.b1 (t_in _ _ _) (fun _ _ => Ok.ite (fun _ => Ok.t) (fun _ => Ok.ite (fun h1 => ?_) (fun _ => Ok.t))))
  obtain ⟨j, j1, rfl⟩ := nI_of h0
  rw [nI_ltI (by omega) (by omega)] at h1
  exact Ok.ite (fun _ => Ok.ain (by omega) (by decide) Ok.t) (fun _ => Ok.ite (fun _ => Ok.ain (by omega) (by decide) Ok.t) (fun _ => Ok.ain (by omega) (by decide) Ok.t))
theorem t_shownOf (g : MOK R C H V cr cq dp wd za) (hN : 1000000 ≤ N) (h : z_ps H V pl pk m) (a b c : Int32) : Ok (f_M_shownOf N dp wd za (nI m) pl pk py a b c) (fun _ => True) := by
  obtain ⟨hm, hv⟩ := h
  have L : ∀ n i (x y z : Int32), i ≤ m → m - i < n → Ok (f_M_shownOf_L14 dp pk pl py (nI m) wd za a b n x y z (nI i)) (fun _ => True) := by
    intro n
    induction n with
    | zero => intro i x y z _ h; omega
    | succ n ih =>
      intro i x y z hi hn
      rw [f_M_shownOf_L14]
      refine Ok.ite (fun _ => Ok.t) (fun hc => ?_)
      rw [nI_leI (by omega) (by omega)] at hc
      obtain ⟨l, k, hl, el, ek, hk⟩ := hv i (by omega)
      refine Ok.ain (by omega) (by decide) ?_
      rw [el]
      refine Ok.b1 (t_keyAtPlace g hl _ _) (fun v13 _ => Ok.ain (by omega) (by decide) ?_)
      refine Ok.k3 (fun _ _ _ => True) (fun _ => True) (fun v15 v16 v17 _ => ?_) (fun K hK => Ok.ite (fun _ => Ok.nm (Ok.ain (by omega) (by decide) (Ok.ain (by omega) (by decide) (Ok.k1 (fun _ => True) (fun _ => True) (fun v22 _ => hK _ _ _ trivial) (fun K2 h2 => Ok.ite (fun _ => h2 _ trivial) (fun _ => Ok.ain (by omega) (by decide) (h2 _ trivial))))))) (fun _ => hK _ _ _ trivial))
      rw [z_nm, nI_1]
      exact ih (i + 1) _ _ _ (by omega) (by omega)
  unfold f_M_shownOf
  exact Ok.nm (Ok.nm (Ok.nm (Ok.nm (Ok.b3 (L N 0 _ _ _ (by omega) (by omega)) (fun _ _ _ _ => Ok.ite (fun _ => Ok.t) (fun _ => Ok.ite (fun _ => Ok.t) (fun _ => Ok.t)))))))
theorem t_shown (g : MOK R C H V cr cq dp wd za) (hN : 1000000 ≤ N) (h : z_ps H V pl pk m) (a b c : Int32) : Ok (f_M_shown N dp wd za (nI m) pl pk py a b c) (fun _ => True) := by
  unfold f_M_shown
  exact Ok.b1 (t_isPlace _ _) (fun _ _ => Ok.ite (fun _ => Ok.t) (fun _ => Ok.b1 (t_in _ _ _) (fun _ _ => Ok.ite (fun _ => Ok.t) (fun _ => Ok.b1 (t_shownOf g hN h _ _ _) (fun _ _ => Ok.t)))))
theorem t_isLacking (g : MOK R C H V cr cq dp wd za) (hN : 1000000 ≤ N) (h : z_ps H V pl pk m) (hl : l < 5) {k : Nat} (hk : k < 2130 * (H l * V l) + 2) (bl bo : Int64) (ed : Nat → Int64) (y : Int32) : Ok (f_M_isLacking N dp wd za bl bo ed (nI m) pl pk py (nI l) (nI k) y) (fun _ => True) := by
  unfold f_M_isLacking
  exact Ok.b4 (t_middleOf g (by omega) hl hk _ _ _ _) (fun _ _ _ _ _ => Ok.b4 (t_middleOf g (by omega) hl hk _ _ _ _) (fun _ _ _ _ _ => Ok.b1 (t_shownOf g hN h _ _ _) (fun _ _ => Ok.k0 (fun _ => True) Ok.t (fun K hK => Ok.ite (fun _ => hK) (fun _ => Ok.ite (fun _ => hK) (fun _ => Ok.t))))))
theorem t_years (hN : 1000000 ≤ N) (hm : m ≤ 60) (a b c : Int32) : Ok (f_M_years N (nI m) py a b c) (fun _ => True) := by
  have L : ∀ n i (x y z : Int32), i ≤ m → m - i < n → Ok (f_M_years_L48 py (nI m) a b n x y z (nI i)) (fun _ => True) := by
    intro n
    induction n with
    | zero => intro i x y z _ h; omega
    | succ n ih =>
      intro i x y z hi hn
      rw [f_M_years_L48]
      refine Ok.ite (fun _ => Ok.t) (fun hc => ?_)
      rw [nI_leI (by omega) (by omega)] at hc
      have hi60 : i < 60 := by omega
      refine Ok.ain hi60 (by decide) (Ok.b1 (t_in _ _ _) (fun v16 _ => Ok.k3 (fun _ _ _ => True) (fun _ => True) (fun v17 v18 v19 _ => ?_) (fun K hK => Ok.ite (fun _ => hK _ _ _ trivial) (fun _ => Ok.nm (Ok.k1 (fun _ => True) (fun _ => True) (fun v22 _ => Ok.ain hi60 (by decide) (Ok.k1 (fun _ => True) (fun _ => True) (fun v24 _ => hK _ _ _ trivial) (fun K2 h2 => Ok.ite (fun _ => h2 _ trivial) (fun _ => Ok.ain hi60 (by decide) (h2 _ trivial))))) (fun K1 h1 => Ok.k0 (fun _ => True) (Ok.ain hi60 (by decide) (h1 _ trivial)) (fun K3 h3 => Ok.ite (fun _ => h3) (fun _ => Ok.ain hi60 (by decide) (Ok.ite (fun _ => h1 _ trivial) (fun _ => h3))))))))))
      rw [z_nm, nI_1]
      exact ih (i + 1) _ _ _ (by omega) (by omega)
  unfold f_M_years
  exact Ok.b1 (t_isAnyYear _) (fun _ _ => Ok.ite (fun _ => Ok.t) (fun _ => Ok.b1 (t_in _ _ _) (fun _ _ => Ok.ite (fun _ => Ok.t) (fun _ => Ok.b1 (t_in _ _ _) (fun _ _ => Ok.ite (fun _ => Ok.t) (fun _ => Ok.nm (Ok.nm (Ok.nm (Ok.nm (Ok.b3 (L N 0 _ _ _ (by omega) (by omega)) (fun _ _ _ _ => Ok.ite (fun _ => Ok.t) (fun _ => Ok.ite (fun _ => Ok.t) (fun _ => Ok.t)))))))))))))
theorem t_renew (hN : 1000000 ≤ N) (hm : m ≤ 60) (a b : Int32) : Ok (f_M_renew N (nI m) pl py a b) (fun _ => True) := by
  have L : ∀ n i (x : Int32) (f : Nat → Int32), i ≤ m → m - i < n → Ok (f_M_renew_L21 pl (nI m) a b n x (nI i) f) (fun _ => True) := by
    intro n
    induction n with
    | zero => intro i x f _ h; omega
    | succ n ih =>
      intro i x f hi hn
      rw [f_M_renew_L21]
      refine Ok.ite (fun _ => Ok.t) (fun hc => ?_)
      rw [nI_leI (by omega) (by omega)] at hc
      have hi60 : i < 60 := by omega
      refine Ok.ain hi60 (by decide) (Ok.k2 (fun _ _ => True) (fun _ => True) (fun v11 f12 _ => ?_) (fun K hK => Ok.ite (fun _ => Ok.ain hi60 (by decide) (Ok.ite (fun _ => Ok.asn hi60 (by decide) (Ok.nm (hK _ _ trivial))) (fun _ => hK _ _ trivial))) (fun _ => hK _ _ trivial)))
      rw [z_nm, nI_1]
      exact ih (i + 1) _ _ (by omega) (by omega)
  unfold f_M_renew
  exact Ok.b1 (t_isLevel _) (fun _ _ => Ok.ite (fun _ => Ok.t) (fun _ => Ok.b1 (t_isYear _) (fun _ _ => Ok.ite (fun _ => Ok.t) (fun _ => Ok.nm (Ok.nm (Ok.b2 (L N 0 _ _ (by omega) (by omega)) (fun _ _ _ => Ok.t)))))))
theorem t_oldest (hN : 1000000 ≤ N) (hm : m ≤ 60) (a b : Int32) : Ok (f_M_oldest N (nI m) pl pk py a b) (fun _ => True) := by
  have L : ∀ n i (x y : Int32), i ≤ m → m - i < n → (x = -1 ∨ ∃ j, j < 60 ∧ x = nI j) → Ok (f_M_oldest_L29 pl py (nI m) a n x y (nI i)) (fun z => z.1 = -1 ∨ ∃ j, j < 60 ∧ z.1 = nI j) := by
    intro n
    induction n with
    | zero => intro i x y _ h; omega
    | succ n ih =>
      intro i x y hi hn hx
      rw [f_M_oldest_L29]
      refine Ok.ite (fun _ => Ok.ret hx) (fun hc => ?_)
      rw [nI_leI (by omega) (by omega)] at hc
      have hi60 : i < 60 := by omega
      refine Ok.ain hi60 (by decide) (Ok.k2 (fun v _ => v = -1 ∨ ∃ j, j < 60 ∧ v = nI j) (fun z => z.1 = -1 ∨ ∃ j, j < 60 ∧ z.1 = nI j) (fun v14 v15 h14 => ?_) (fun K hK => Ok.ite (fun _ => ?_) (fun _ => hK _ _ hx)))
      · rw [z_nm, nI_1]
        exact ih (i + 1) _ _ (by omega) (by omega) h14
      · refine Ok.k0 (fun z => z.1 = -1 ∨ ∃ j, j < 60 ∧ z.1 = nI j) ?_ (fun K73 h73 => Ok.ite (fun _ => h73) (fun hne => ?_))
        · refine Ok.k1 (fun _ => True) (fun z => z.1 = -1 ∨ ∃ j, j < 60 ∧ z.1 = nI j) (fun v17 _ => Ok.ite (fun _ => hK _ _ (Or.inr ⟨i, hi60, rfl⟩)) (fun _ => hK _ _ hx)) (fun K2 h2 => Ok.k0 (fun z => z.1 = -1 ∨ ∃ j, j < 60 ∧ z.1 = nI j) (h2 _ trivial) (fun K3 h3 => Ok.ite (fun _ => h3) (fun hne => ?_)))
          rcases hx with rfl | ⟨j, hj, rfl⟩
          · exact absurd rfl hne
          · exact Ok.ain hi60 (by decide) (Ok.ain hj (by decide) (Ok.ite (fun _ => h2 _ trivial) (fun _ => h3)))
        · rcases hx with rfl | ⟨j, hj, rfl⟩
          · exact absurd rfl hne
          · exact Ok.ain hi60 (by decide) (Ok.ain hj (by decide) (Ok.ite (fun _ => h73) (fun _ => hK _ _ (Or.inr ⟨j, hj, rfl⟩))))
  unfold f_M_oldest
  refine Ok.b1 (t_isLevel _) (fun _ _ => Ok.ite (fun _ => Ok.t) (fun _ => Ok.b1 (t_in _ _ _) (fun _ _ => Ok.ite (fun _ => Ok.t) (fun _ => Ok.nm (Ok.nm (Ok.nm (Ok.b2 (L N 0 _ _ (by omega) (by omega) (Or.inl rfl)) (fun v9 v10 h9 => Ok.ite (fun _ => Ok.t) (fun hne => ?_)))))))))
  rcases h9 with h9 | ⟨j, hj, h9⟩
  · exact absurd h9 hne
  · dsimp only at h9
    subst h9
    exact Ok.ite (fun _ => Ok.ain hj (by decide) Ok.t) (fun _ => Ok.ite (fun _ => Ok.ain hj (by decide) Ok.t) (fun _ => Ok.t))
theorem t_isNeedless (g : MOK R C H V cr cq dp wd za) (hN : 1000000 ≤ N) (h : z_ps H V pl pk m) {j : Nat} (hj : j < m) : Ok (f_M_isNeedless N dp wd za (nI m) pl pk py (nI j)) (fun _ => True) := by
  obtain ⟨hm, hv⟩ := h
  have L : ∀ n i, i ≤ m → m - i < n → Ok (f_M_isNeedless_L2 N dp pk pl py (nI m) wd za (nI j) n (nI i)) (fun _ => True) := by
    intro n
    induction n with
    | zero => intro i _ h; omega
    | succ n ih =>
      intro i hi hn
      rw [f_M_isNeedless_L2]
      refine Ok.ite (fun _ => Ok.t) (fun hc => ?_)
      rw [nI_leI (by omega) (by omega)] at hc
      have hi60 : i < 60 := by omega
      have hj60 : j < 60 := by omega
      obtain ⟨t, k, ht, et, ek, hk⟩ := hv i (by omega)
      obtain ⟨l, k2, hl, el, ek2, hk2⟩ := hv j (by omega)
      refine Ok.ain hi60 (by decide) (Ok.ain hj60 (by decide) (Ok.k0 (fun _ => True) ?_ (fun K hK => Ok.ite (fun _ => hK) (fun hlt => Ok.ain hi60 (by decide) (Ok.ain hj60 (by decide) (Ok.ite (fun _ => hK) (fun _ => Ok.ain hj60 (by decide) (Ok.ain hj60 (by decide) (Ok.ain hi60 (by decide) ?_)))))))))
      · rw [z_nm, nI_1]
        exact ih (i + 1) (by omega) (by omega)
      · rw [et, el, nI_leI (by omega) (by omega)] at hlt
        rw [et, el, ek2]
        exact Ok.b1 (t_parentOf g (by omega) hl (t := t) (by omega) hk2) (fun _ _ => Ok.ain hi60 (by decide) (Ok.ite (fun _ => Ok.t) (fun _ => hK)))
  unfold f_M_isNeedless
  exact Ok.nm (Ok.s0 (L N 0 (by omega) (by omega)) (fun _ => Ok.t) (fun _ _ => trivial))
theorem t_tidy (g : MOK R C H V cr cq dp wd za) (hN : 1000000 ≤ N) (h : z_ps H V pl pk m) : Ok (f_M_tidy N dp wd za (nI m) pl pk py) (fun x => ∃ m2, x.2.1 = nI m2 ∧ z_ps H V x.2.2.1 x.2.2.2.1 m2) := by
  have L : ∀ n j m (x : Int32) (a b c : Nat → Int32), j ≤ m → j < n → z_ps H V a b m → Ok (f_M_tidy_L9 N dp wd za n x (nI j - 1) (nI m) a b c) (fun x => ∃ m2, x.2.1 = nI m2 ∧ z_ps H V x.2.2.1 x.2.2.2.1 m2) := by
    intro n
    induction n with
    | zero => intro j m x a b c _ h; omega
    | succ n ih =>
      intro j m x a b c hj hn hp
      have hm := hp.1
      rw [f_M_tidy_L9]
      by_cases h0 : j = 0
      · subst h0
        exact Ok.ite (fun _ => Ok.ret ⟨m, rfl, hp⟩) (fun h => absurd (by decide) h)
      · rw [z_sub1 (by omega)]
        refine Ok.ite (fun hc => absurd hc (z_lt0 (by omega))) (fun _ => Ok.b1 (t_isNeedless g hN hp (by omega)) (fun v14 _ => ?_))
        refine Ok.k5 (fun _ v16 f17 f18 _ => ∃ m2, v16 = nI m2 ∧ j - 1 ≤ m2 ∧ z_ps H V f17 f18 m2) (fun x => ∃ m2, x.2.1 = nI m2 ∧ z_ps H V x.2.2.1 x.2.2.2.1 m2) (fun v15 v16 f17 f18 f19 h16 => ?_) (fun K hK => Ok.ite (fun _ => hK _ _ _ _ _ ⟨m, rfl, by omega, hp⟩) (fun _ => Ok.b4 (t_removes hN hp (by omega)) (fun v21 f22 f23 f24 hq => Ok.nm (hK _ _ _ _ _ ⟨m - 1, hq.1, by omega, hq.2⟩))))
        obtain ⟨m2, rfl, b1, b2⟩ := h16
        rw [z_nm, z_m1]
        exact ih (j - 1) m2 _ _ _ _ b1 (by omega) b2
  have hm := h.1
  unfold f_M_tidy
  exact Ok.nm (Ok.nm (Ok.b5 (L N m m 0 pl pk py (Nat.le_refl _) (by omega) h) (fun _ _ _ _ _ hq => Ok.ret hq)))
end MS
end
section
/-! the reference: cut, keep, undo -/
section MK
variable {R C H V : Nat → Nat} {cr cq dp wd za : Nat → Int32} {N l m s : Nat} {pl pk py : Nat → Int32}
theorem MOK.kg (g : MOK R C H V cr cq dp wd za) : z_kg R C cr cq := by
  have h4 := z_pr_eq g.2.2 4 (by omega)
  have h := g.2.2
  obtain ⟨a, b, -, -, -, c, d⟩ := h
  refine ⟨a, b, c, fun l hl => ⟨(g.1 l hl).1, (g.1 l hl).2.1⟩, ?_⟩
  rw [← h4.1, ← h4.2]; exact d
theorem z_mok (h : z_kg R C cr cq) (hza : ∀ q, q < 45 → za q = nI (z_za q)) (hg : ∀ l, l < 5 → dp l = nI (z_pr R l) ∧ wd l = nI (z_pr C l)) : MOK R C (z_pr R) (z_pr C) cr cq dp wd za := by
  obtain ⟨h1, h2, h3, h4, h5⟩ := h
  refine ⟨fun l hl => ⟨(h4 l hl).1, (h4 l hl).2, (hg l hl).1, (hg l hl).2⟩, hza, h1, h2, h1, h2, fun l _ => ⟨rfl, rfl⟩, h3, h5⟩
theorem z_kg_same {a b a2 b2 : Nat → Int32} (h : z_kg R C a b) (e : ∀ l, l < 5 → a2 l = a l ∧ b2 l = b l) : z_kg R C a2 b2 := by
  obtain ⟨h1, h2, h3, h4, h5⟩ := h
  exact ⟨h1, h2, h3, fun l hl => ⟨by rw [(e l hl).1]; exact (h4 l hl).1, by rw [(e l hl).2]; exact (h4 l hl).2⟩, h5⟩
theorem z_ps_same {a b a2 b2 : Nat → Int32} (h : z_ps H V a b m) (e : ∀ i, i < 60 → a2 i = a i ∧ b2 i = b i) : z_ps H V a2 b2 m := by
  obtain ⟨h1, h2⟩ := h
  refine ⟨h1, fun i hi => ?_⟩
  rw [(e i (by omega)).1, (e i (by omega)).2]
  exact h2 i hi
theorem t_laysGrids (h : z_kg R C cr cq) (hN : 1000000 ≤ N) (dp wd : Nat → Int32) : Ok (f_M_laysGrids N cr cq dp wd) (fun y => ∀ l, l < 5 → y.1 l = nI (z_pr R l) ∧ y.2 l = nI (z_pr C l)) := by
  obtain ⟨h1, h2, h3, h4, h5⟩ := h
  have L : ∀ n i (a b : Nat → Int32), i ≤ 4 → 4 - i + 1 < n → (∀ l, l < i + 1 → a l = nI (z_pr R l) ∧ b l = nI (z_pr C l)) → Ok (f_M_laysGrids_L16 cq cr n (nI (i + 1)) a b) (fun y => ∀ l, l < 5 → y.1 l = nI (z_pr R l) ∧ y.2 l = nI (z_pr C l)) := by
    intro n
    induction n with
    | zero => intro i a b _ h; omega
    | succ n ih =>
      intro i a b hi hn ha
      rw [f_M_laysGrids_L16]
      refine Ok.ite (fun hc => ?_) (fun hc => ?_)
      all_goals rw [z_i 5, nI_leI (by omega) (by omega)] at hc
      · exact Ok.ret (fun l hl => ha l (by omega))
      · rw [z_sub1 (by omega), Nat.add_sub_cancel, z_ai (by omega) (by omega), z_ai (by omega) (by omega), z_as (by omega) (by omega), z_ai (by omega) (by omega), z_ai (by omega) (by omega), z_as (by omega) (by omega), (ha i (by omega)).1, (ha i (by omega)).2, (h4 (i + 1) (by omega)).1, (h4 (i + 1) (by omega)).2, pk_mul, pk_mul, z_nm, nI_1]
        refine ih (i + 1) _ _ (by omega) (by omega) (fun l hl => ?_)
        by_cases e : l = i + 1
        · subst e; rw [z_updS, z_updS]; exact ⟨rfl, rfl⟩
        · rw [z_updN e, z_updN e]; exact ha l (by omega)
  unfold f_M_laysGrids
  refine Ok.as (by decide) (Ok.as (by decide) (Ok.nm (Ok.b2 (L N 0 _ _ (by omega) (by omega) (fun l hl => ?_)) (fun _ _ h => Ok.ret h))))
  have : l = 0 := by omega
  subst this
  have e1 : z_pr R 0 = 1 := h1
  have e2 : z_pr C 0 = 1 := h2
  rw [e1, e2]
  exact ⟨rfl, rfl⟩
theorem m_cut_L61 (hkg : z_kg R C cr cq) {v r c : Nat} (hv : 1 ≤ v) (hv4 : v ≤ 4) (hr : r ≤ 6) (hc : c ≤ 6) : ∀ n i, i ≤ 4 → 4 - i + 1 < n → f_M_cut_L61 cq cr (nI v) (nI r) (nI c) n (lN (2130 * (z_pr (z_up1 R v r) i * z_pr (z_up1 C v c) i))) (nI (i + 1)) = some (lN (2130 * (z_pr (z_up1 R v r) 4 * z_pr (z_up1 C v c) 4))) := by
  obtain ⟨h1, h2, h3, h4, -⟩ := hkg
  intro n
  induction n with
  | zero => intro i _ h; omega
  | succ n ih =>
    intro i hi hn
    rw [f_M_cut_L61]
    by_cases h5 : i = 4
    · subst h5
      rw [if_pos (by rw [z_i 5, nI_leI (by omega) (by omega)]; omega)]
    · rw [if_neg (by rw [z_i 5, nI_leI (by omega) (by omega)]; omega), z_j1]
      have hs : ∀ x, x = z_up1 R v r (i + 1) * z_up1 C v c (i + 1) → lN (2130 * (z_pr (z_up1 R v r) i * z_pr (z_up1 C v c) i)) * lN x = lN (2130 * (z_pr (z_up1 R v r) (i + 1) * z_pr (z_up1 C v c) (i + 1))) := by
        intro x hx
        rw [lN_mul, hx]
        congr 1
        show _ = 2130 * (z_pr (z_up1 R v r) i * z_up1 R v r (i + 1) * (z_pr (z_up1 C v c) i * z_up1 C v c (i + 1)))
        rw [Nat.mul_assoc, Nat.mul_mul_mul_comm]
      by_cases hiv : i + 1 = v
      · rw [if_pos (by rw [hiv])]
        dsimp only
        have hrc : r * c ≤ 36 := Nat.mul_le_mul hr hc
        rw [z_nm, z_nm, pk_mul, nI_l (by omega), hs (r * c) (by unfold z_up1; rw [if_pos hiv, if_pos hiv]), nI_1]
        exact ih (i + 1) (by omega) (by omega)
      · have hRC := h3 (i + 1) (by omega)
        have hb : R (i + 1) * C (i + 1) ≤ 36 := Nat.mul_le_mul hRC.2.1 hRC.2.2.2
        rw [if_neg (by rw [nI_eq (by omega) (by omega)]; exact hiv), z_ai (by omega) (by omega), z_ai (by omega) (by omega), (h4 (i + 1) (by omega)).1, (h4 (i + 1) (by omega)).2]
        dsimp only
        rw [z_nm, z_nm, pk_mul, nI_l (by omega), hs (R (i + 1) * C (i + 1)) (by unfold z_up1; rw [if_neg hiv, if_neg hiv]), nI_1]
        exact ih (i + 1) (by omega) (by omega)
theorem t_cut (g : MOK R C H V cr cq dp wd za) (hN : 1000000 ≤ N) (hm : m ≤ 60) (p q w : Int32) : Ok (f_M_cut N cr cq dp wd za (nI m) p q w) (fun y => ∃ R2 C2 H2 V2, MOK R2 C2 H2 V2 y.2.1 y.2.2.1 y.2.2.2.1 y.2.2.2.2 za ∧ (m = 0 ∨ (H2 = H ∧ V2 = V))) := by
  have no : ∀ a : Int32, Ok (some (a, cr, cq, dp, wd)) (fun y => ∃ R2 C2 H2 V2, MOK R2 C2 H2 V2 y.2.1 y.2.2.1 y.2.2.2.1 y.2.2.2.2 za ∧ (m = 0 ∨ (H2 = H ∧ V2 = V))) := fun a => Ok.ret ⟨R, C, H, V, g, Or.inr ⟨rfl, rfl⟩⟩
  unfold f_M_cut
  refine Ok.b1 (t_inN p 1 4 (by decide) (by decide)) (fun v1 h1 => Ok.ite (fun _ => no _) (fun n1 => Ok.b1 (t_inN q 1 6 (by decide) (by decide)) (fun v2 h2 => Ok.ite (fun _ => no _) (fun n2 => Ok.b1 (t_inN w 1 6 (by decide) (by decide)) (fun v3 h3 => Ok.ite (fun _ => no _) (fun n3 => Ok.ite (fun hle => ?_) (fun _ => no _)))))))
  obtain ⟨v, rfl, j1, j2⟩ := h1.2 n1
  obtain ⟨y, rfl, y1, y2⟩ := h2.2 n2
  obtain ⟨w, rfl, w1, w2⟩ := h3.2 n3
  rw [z_le0 (by omega)] at hle
  subst hle
  have hkg := g.kg
  have hkg' := hkg
  obtain ⟨k1, k2, k3, k4, -⟩ := hkg'
  have hR1 : ∀ l, l < 5 → 1 ≤ z_up1 R v y l ∧ z_up1 R v y l ≤ 6 ∧ 1 ≤ z_up1 C v w l ∧ z_up1 C v w l ≤ 6 := by
    intro l hl
    have := k3 l hl
    unfold z_up1
    split <;> omega
  have hR0 : z_up1 R v y 0 = 1 := by unfold z_up1; rw [if_neg (by omega)]; exact k1
  have hC0 : z_up1 C v w 0 = 1 := by unfold z_up1; rw [if_neg (by omega)]; exact k2
  have b1 := (z_pr_b hR0 (fun l hl => ⟨(hR1 l hl).1, (hR1 l hl).2.1⟩) 4 (by omega)).2
  have b2 := (z_pr_b hC0 (fun l hl => ⟨(hR1 l hl).2.2.1, (hR1 l hl).2.2.2⟩) 4 (by omega)).2
  have b3 := Nat.mul_le_mul b1 b2
  have e0 : lN 2130 = lN (2130 * (z_pr (z_up1 R v y) 0 * z_pr (z_up1 C v w) 0)) := by
    unfold z_pr
    rw [hR0, hC0]
  rw [z_i 44, z_ai (by omega) (by omega), g.2.1 44 (by omega), z_za_44, nI_l (by omega), z_nm, z_nm, z_i 1, e0, m_cut_L61 hkg j1 j2 y2 w2 N 0 (by omega) (by omega), q_b1_s, z_l 2, lN_add]
  refine Ok.ite (fun hle => ?_) (fun _ => no _)
  have hbig := z_cmple (b := 20000000) (by omega) (by omega) hle
  have hk2 : z_kg (z_up1 R v y) (z_up1 C v w) (upd cr v (nI y)) (upd cq v (nI w)) := by
    refine ⟨hR0, hC0, hR1, fun l hl => ?_, hbig⟩
    unfold z_up1
    by_cases e : l = v
    · subst e; rw [z_updS, z_updS, if_pos rfl, if_pos rfl]; exact ⟨rfl, rfl⟩
    · rw [z_updN e, z_updN e, if_neg e, if_neg e]; exact k4 l hl
  refine Ok.asn (by omega) (by decide) (Ok.asn (by omega) (by decide) (Ok.b2 (t_laysGrids hk2 hN dp wd) (fun f12 f13 h12 => ?_)))
  have gm := z_mok hk2 g.2.1 h12
  exact Ok.b1 (t_sheets gm (by omega)) (fun _ _ => Ok.ret ⟨_, _, _, _, gm, Or.inl rfl⟩)
def z_mk (kp : Nat → Int32) (s : Nat) : Prop := ∃ R2 C2 m2, z_kg R2 C2 (fun l => kp (194 * s + 2 * l)) (fun l => kp (194 * s + 2 * l + 1)) ∧ kp (194 * s + 10) = nI m2 ∧ z_ps (z_pr R2) (z_pr C2) (fun i => kp (194 * s + 14 + 3 * i)) (fun i => kp (194 * s + 14 + 3 * i + 1)) m2
theorem z_mk_same {kp kp2 : Nat → Int32} (h : z_mk kp s) (e : ∀ x, x < 194 * (s + 1) → kp2 x = kp x) : z_mk kp2 s := by
  obtain ⟨R2, C2, m2, h1, h2, h3⟩ := h
  refine ⟨R2, C2, m2, z_kg_same h1 (fun l hl => ⟨e _ (by omega), e _ (by omega)⟩), by rw [e _ (by omega)]; exact h2, z_ps_same h3 (fun i hi => ⟨e _ (by omega), e _ (by omega)⟩)⟩
theorem m_keeps {f : Nat → Int32} {a : Nat} (h : a < 1552) (v : Int32) : f_M_keeps f (nI a) v = some (upd f a v, nI (a + 1)) := by
  unfold f_M_keeps
  rw [z_as h (by omega), nI_1, z_nm]
theorem m_tells {f : Nat → Int32} {a : Nat} (h : a < 1552) : f_M_tells f (nI a) = some (f a, nI (a + 1)) := by
  unfold f_M_tells
  rw [nI_1, z_nm, z_sub1 (by omega), Nat.add_sub_cancel, z_ai h (by omega)]
theorem t_keep_L25 {B : Nat} (hB : B + 194 ≤ 1552) (kp : Nat → Int32) : ∀ n i (f : Nat → Int32), i ≤ 5 → 5 - i < n → (∀ x, x < B → f x = kp x) → (∀ l, l < i → f (B + 2 * l) = cr l ∧ f (B + 2 * l + 1) = cq l) → Ok (f_M_keep_L25 cq cr n (nI i) f (nI (B + 2 * i))) (fun y => y.2 = nI (B + 10) ∧ (∀ x, x < B → y.1 x = kp x) ∧ ∀ l, l < 5 → y.1 (B + 2 * l) = cr l ∧ y.1 (B + 2 * l + 1) = cq l) := by
  intro n
  induction n with
  | zero => intro i f _ h; omega
  | succ n ih =>
    intro i f hi hn h1 h2
    rw [f_M_keep_L25]
    refine Ok.ite (fun hc => ?_) (fun hc => ?_)
    all_goals rw [z_i 5, nI_leI (by omega) (by omega)] at hc
    · have : i = 5 := by omega
      subst this
      exact Ok.ret ⟨rfl, h1, h2⟩
    · rw [z_ai (by omega) (by omega), m_keeps (by omega), q_b2_s, z_ai (by omega) (by omega), m_keeps (by omega), q_b2_s, z_nm, nI_1]
      refine ih (i + 1) _ (by omega) (by omega) (fun x hx => ?_) (fun l hl => ?_)
      · rw [z_updN (by omega), z_updN (by omega)]; exact h1 x hx
      · by_cases e : l = i
        · subst e
          exact ⟨by rw [z_updN (by omega), z_updS], by rw [z_updS]⟩
        · rw [z_updN (by omega), z_updN (by omega), z_updN (by omega), z_updN (by omega)]
          exact h2 l (by omega)
theorem t_keep_L90 {B : Nat} (hB : B + 194 ≤ 1552) (kp : Nat → Int32) : ∀ n i (f : Nat → Int32), i ≤ 60 → 60 - i < n → (∀ x, x < B + 14 → f x = kp x) → (∀ l, l < i → f (B + 14 + 3 * l) = pl l ∧ f (B + 14 + 3 * l + 1) = pk l) → Ok (f_M_keep_L90 pk pl py n (nI i) f (nI (B + 14 + 3 * i))) (fun y => (∀ x, x < B + 14 → y.1 x = kp x) ∧ ∀ l, l < 60 → y.1 (B + 14 + 3 * l) = pl l ∧ y.1 (B + 14 + 3 * l + 1) = pk l) := by
  intro n
  induction n with
  | zero => intro i f _ h; omega
  | succ n ih =>
    intro i f hi hn h1 h2
    rw [f_M_keep_L90]
    refine Ok.ite (fun hc => ?_) (fun hc => ?_)
    all_goals rw [z_i 60, nI_leI (by omega) (by omega)] at hc
    · have : i = 60 := by omega
      subst this
      exact Ok.ret ⟨h1, h2⟩
    · rw [z_ai (by omega) (by omega), m_keeps (by omega), q_b2_s, z_ai (by omega) (by omega), m_keeps (by omega), q_b2_s, z_ai (by omega) (by omega), m_keeps (by omega), q_b2_s, z_nm, nI_1]
      refine ih (i + 1) _ (by omega) (by omega) (fun x hx => ?_) (fun l hl => ?_)
      · rw [z_updN (by omega), z_updN (by omega), z_updN (by omega)]; exact h1 x hx
      · by_cases e : l = i
        · subst e
          exact ⟨by rw [z_updN (by omega), z_updN (by omega), z_updS], by rw [z_updN (by omega), z_updS]⟩
        · rw [z_updN (by omega), z_updN (by omega), z_updN (by omega), z_updN (by omega), z_updN (by omega), z_updN (by omega)]
          exact h2 l (by omega)
theorem t_keep (g : MOK R C H V cr cq dp wd za) (hN : 1000000 ≤ N) (h : z_ps H V pl pk m) (hs : s < 8) (a b c d : Int32) (kp : Nat → Int32) (ka : Int32) (nn : Nat → Int32) : Ok (f_M_keep N cr cq a b c d (nI m) (nI s) pl pk py kp ka nn) (fun x => x.1 = nI (s + 1) ∧ x.2.1 = nI (s + 1) ∧ z_mk x.2.2.1 s ∧ ∀ i, i < 194 * s → x.2.2.1 i = kp i) := by
  have hB : 194 * s + 194 ≤ 1552 := by omega
  unfold f_M_keep
  refine Ok.ite (fun hc => ?_) (fun _ => Ok.nm (Ok.nm ?_))
  · exfalso
    rw [z_i 8, nI_eq (by omega) (by omega)] at hc
    omega
  rw [z_i 194, pk_mul]
  refine Ok.b2 (t_keep_L25 (cr := cr) (cq := cq) hB kp N 0 kp (by omega) (by omega) (fun _ _ => rfl) (fun l hl => absurd hl (by omega))) (fun f6 v7 h6 => ?_)
  obtain ⟨e7, k1, k2⟩ := h6
  dsimp only at e7 k1 k2
  subst e7
  rw [m_keeps (by omega), q_b2_s, m_keeps (by omega), q_b2_s, m_keeps (by omega), q_b2_s, m_keeps (by omega), q_b2_s, z_nm]
  refine Ok.b2 (t_keep_L90 (pl := pl) (pk := pk) (py := py) hB _ N 0 _ (by omega) (by omega) (fun _ _ => rfl) (fun l hl => absurd hl (by omega))) (fun f20 v21 h20 => Ok.asn hs (by decide) (Ok.nm ?_))
  obtain ⟨k3, k4⟩ := h20
  dsimp only at k3 k4
  have g3 : ∀ x, x < 194 * s + 10 → f20 x = f6 x := by
    intro x hx
    rw [k3 x (by omega), z_updN (by omega), z_updN (by omega), z_updN (by omega), z_updN (by omega)]
  refine Ok.ret ⟨?_, ?_, ⟨R, C, m, ?_, ?_, ?_⟩, ?_⟩
  · dsimp only; rw [nI_1]
  · dsimp only; rw [nI_1]
  · dsimp only
    exact z_kg_same g.kg (fun l hl => ⟨by rw [g3 _ (by omega)]; exact (k2 l hl).1, by rw [g3 _ (by omega)]; exact (k2 l hl).2⟩)
  · dsimp only
    rw [k3 _ (by omega), z_updN (by omega), z_updN (by omega), z_updN (by omega), z_updS]
  · dsimp only
    refine ⟨h.1, fun i hi => ?_⟩
    have hi60 : i < 60 := by have := h.1; omega
    dsimp only
    rw [(k4 i hi60).1, (k4 i hi60).2]
    obtain ⟨l, k, hl, el, ek, hk⟩ := h.2 i hi
    have he := z_pr_eq g.2.2 l hl
    exact ⟨l, k, hl, el, ek, by rw [← he.1, ← he.2]; exact hk⟩
  · intro i hi
    dsimp only
    rw [g3 i (by omega)]
    exact k1 i hi
theorem t_keepNo (a b c d e : Int32) (pl pk py kp : Nat → Int32) (ka : Int32) (nn : Nat → Int32) (cr cq : Nat → Int32) : f_M_keep N cr cq a b c d e 8 pl pk py kp ka nn = some (-1, 8, kp, ka, nn) := by
  unfold f_M_keep
  rw [if_pos rfl]
theorem t_undo_L33 {B : Nat} (hB : B + 194 ≤ 1552) (kp : Nat → Int32) : ∀ n i (a b : Nat → Int32), i ≤ 5 → 5 - i < n → (∀ l, l < i → a l = kp (B + 2 * l) ∧ b l = kp (B + 2 * l + 1)) → Ok (f_M_undo_L33 kp n (nI i) a b (nI (B + 2 * i))) (fun y => y.2.2 = nI (B + 10) ∧ ∀ l, l < 5 → y.1 l = kp (B + 2 * l) ∧ y.2.1 l = kp (B + 2 * l + 1)) := by
  intro n
  induction n with
  | zero => intro i a b _ h; omega
  | succ n ih =>
    intro i a b hi hn h1
    rw [f_M_undo_L33]
    refine Ok.ite (fun hc => ?_) (fun hc => ?_)
    all_goals rw [z_i 5, nI_leI (by omega) (by omega)] at hc
    · have : i = 5 := by omega
      subst this
      exact Ok.ret ⟨rfl, h1⟩
    · rw [m_tells (by omega), q_b2_s, z_as (by omega) (by omega), m_tells (by omega), q_b2_s, z_as (by omega) (by omega), z_nm, nI_1]
      refine ih (i + 1) _ _ (by omega) (by omega) (fun l hl => ?_)
      by_cases e : l = i
      · subst e; rw [z_updS, z_updS]; exact ⟨rfl, rfl⟩
      · rw [z_updN e, z_updN e]; exact h1 l (by omega)
theorem t_undo_L98 {B : Nat} (hB : B + 194 ≤ 1552) (kp : Nat → Int32) : ∀ n i (a b c : Nat → Int32), i ≤ 60 → 60 - i < n → (∀ l, l < i → a l = kp (B + 14 + 3 * l) ∧ b l = kp (B + 14 + 3 * l + 1)) → Ok (f_M_undo_L98 kp n (nI i) a b c (nI (B + 14 + 3 * i))) (fun y => ∀ l, l < 60 → y.1 l = kp (B + 14 + 3 * l) ∧ y.2.1 l = kp (B + 14 + 3 * l + 1)) := by
  intro n
  induction n with
  | zero => intro i a b c _ h; omega
  | succ n ih =>
    intro i a b c hi hn h1
    rw [f_M_undo_L98]
    refine Ok.ite (fun hc => ?_) (fun hc => ?_)
    all_goals rw [z_i 60, nI_leI (by omega) (by omega)] at hc
    · have : i = 60 := by omega
      subst this
      exact Ok.ret h1
    · rw [m_tells (by omega), q_b2_s, z_as (by omega) (by omega), m_tells (by omega), q_b2_s, z_as (by omega) (by omega), m_tells (by omega), q_b2_s, z_as (by omega) (by omega), z_nm, nI_1]
      refine ih (i + 1) _ _ _ (by omega) (by omega) (fun l hl => ?_)
      by_cases e : l = i
      · subst e; rw [z_updS, z_updS]; exact ⟨rfl, rfl⟩
      · rw [z_updN e, z_updN e]; exact h1 l (by omega)
theorem t_undo (g : MOK R C H V cr cq dp wd za) (hN : 1000000 ≤ N) {kp : Nat → Int32} (h : z_mk kp s) (hs : s < 8) (a b c d e : Int32) (ka : Int32) (nn : Nat → Int32) : Ok (f_M_undo N cr cq dp wd a b c d e (nI (s + 1)) pl pk py kp ka nn) (fun x => x.1 = nI s ∧ ∃ R2 C2 m2, MOK R2 C2 (z_pr R2) (z_pr C2) x.2.1 x.2.2.1 x.2.2.2.1 x.2.2.2.2.1 za ∧ x.2.2.2.2.2.2.2.2.2.1 = nI m2 ∧ x.2.2.2.2.2.2.2.2.2.2.1 = nI s ∧ z_ps (z_pr R2) (z_pr C2) x.2.2.2.2.2.2.2.2.2.2.2.1 x.2.2.2.2.2.2.2.2.2.2.2.2.1 m2) := by
  have hB : 194 * s + 194 ≤ 1552 := by omega
  obtain ⟨R2, C2, m2, k1, k2, k3⟩ := h
  unfold f_M_undo
  refine Ok.ite (fun hc => absurd hc (nI_ne0 (by omega) (by omega))) (fun _ => ?_)
  rw [z_sub1 (by omega), Nat.add_sub_cancel, z_nm, z_i 194, pk_mul, z_nm, z_nm]
  refine Ok.b3 (t_undo_L33 hB kp N 0 cr cq (by omega) (by omega) (fun l hl => absurd hl (by omega))) (fun f8 f9 v10 h8 => ?_)
  obtain ⟨e10, h8⟩ := h8
  dsimp only at e10 h8
  subst e10
  rw [m_tells (by omega), q_b2_s, m_tells (by omega), q_b2_s, m_tells (by omega), q_b2_s, m_tells (by omega), q_b2_s, z_nm]
  refine Ok.b4 (t_undo_L98 hB kp N 0 pl pk py (by omega) (by omega) (fun l hl => absurd hl (by omega))) (fun f25 f26 f27 v28 h25 => Ok.ain hs (by decide) ?_)
  dsimp only at h25
  have hk8 := z_kg_same k1 h8
  refine Ok.b2 (t_laysGrids hk8 hN dp wd) (fun f30 f31 h30 => Ok.ret ⟨rfl, R2, C2, m2, z_mok hk8 g.2.1 h30, ?_, rfl, z_ps_same k3 h25⟩)
  exact k2
theorem t_undo0 (a b c d e : Int32) (kp : Nat → Int32) (ka : Int32) (nn : Nat → Int32) : f_M_undo N cr cq dp wd a b c d e 0 pl pk py kp ka nn = some (-1, cr, cq, dp, wd, a, b, c, d, e, 0, pl, pk, py, ka) := by
  unfold f_M_undo
  rw [if_pos rfl]
end MK
end
section
/-! the reference: feed, named, ask -/
section MA
variable {R C H V : Nat → Nat} {cr cq dp wd za : Nat → Int32} {N l : Nat} {tb : Nat → Int32}
theorem m_typed4 (hN : 1000000 ≤ N) (v : Int32) (f : Nat → Int32) {t : Nat} (h : t + 4 ≤ 200) : ∃ f2, f_M_typed4 N f (nI t) v = some (f2, nI (t + 4)) := by
  have L : ∀ n j t (f : Nat → Int32), j < n → t + j ≤ 200 → ∃ f2, f_M_typed4_L2 v n (nI j - 1) f (nI t) = some (f2, nI (t + j)) := by
    intro n
    induction n with
    | zero => intro j t f h; omega
    | succ n ih =>
      intro j t f hj ht
      rw [f_M_typed4_L2]
      by_cases h0 : j = 0
      · subst h0
        exact ⟨f, by rw [if_pos (by decide)]; rfl⟩
      · rw [z_sub1 (by omega), if_neg (z_lt0 (by omega)), z_asb (by omega) (by omega), nI_1, z_nm, z_m1, z_nm]
        obtain ⟨f2, e⟩ := ih (j - 1) (t + 1) (upd f t (vp_nar .byte ((v >>> ((8 * nI (j - 1)) &&& 31)).toInt8.toInt32))) (by omega) (by omega)
        exact ⟨f2, by rw [e, show t + 1 + (j - 1) = t + j by omega]⟩
  obtain ⟨f2, e⟩ := L N 4 t f (by omega) h
  refine ⟨f2, ?_⟩
  unfold f_M_typed4
  rw [z_nm]
  exact (congrArg (fun m => q_b2 m (fun (f5 : Nat → Int32) (v6 : Int32) => some (f5, v6))) e)
theorem t_feed (hN : 1000000 ≤ N) (f : Nat → Int32) {t : Nat} (ht : t ≤ 200) (a b c d e : Int32) : Ok (f_M_feed N f (nI t) a b c d e) (fun x => x.1 = (if t ≤ 180 then nI (t + 20) else -1) ∧ x.2.2 = (if t ≤ 180 then nI (t + 20) else nI t)) := by
  unfold f_M_feed
  rw [z_i 20, nI_add, z_i 200]
  refine Ok.ite (fun h => ?_) (fun h => ?_)
  all_goals rw [nI_leI (by omega) (by omega)] at h
  · obtain ⟨f1, h1⟩ := m_typed4 hN a f (t := t) (by omega)
    obtain ⟨f2, h2⟩ := m_typed4 hN b f1 (t := t + 4) (by omega)
    obtain ⟨f3, h3⟩ := m_typed4 hN c f2 (t := t + 4 + 4) (by omega)
    obtain ⟨f4, h4⟩ := m_typed4 hN d f3 (t := t + 4 + 4 + 4) (by omega)
    obtain ⟨f5, h5⟩ := m_typed4 hN e f4 (t := t + 4 + 4 + 4 + 4) (by omega)
    rw [h1, q_b2_s, h2, q_b2_s, h3, q_b2_s, h4, q_b2_s, h5, q_b2_s]
    exact Ok.ret ⟨by rw [if_pos (by omega)], by rw [if_pos (by omega)]⟩
  · exact Ok.ret ⟨by rw [if_neg (by omega)], by rw [if_neg (by omega)]⟩
theorem t_see {p e : Nat} (hp : p < 2 ^ 31) (he : e ≤ 200) : Ok (f_M_see tb (nI p) (nI e)) (fun y => y = -1 ∨ p < e) := by
  unfold f_M_see
  refine Ok.ite (fun _ => Ok.ret (Or.inl rfl)) (fun h => ?_)
  rw [nI_leI (by omega) (by omega)] at h
  exact Ok.ain (by omega) (by decide) (Ok.ret (Or.inr (by omega)))
theorem t_wrong (a b c : Int32) : Ok (f_M_wrong a b c) (fun y => y.1 = 0) := by
  unfold f_M_wrong
  exact Ok.ite (fun _ => Ok.nm (Ok.ret rfl)) (fun _ => Ok.ret rfl)
theorem t_counts_L {p e : Nat} (hp : p ≤ 1000) (he : e ≤ 200) : ∀ n q (a b : Int32), p ≤ q → q ≤ p + 2 → p + 2 - q < n → Ok (f_M_counts_L10 (nI p) tb (nI e) n (nI q) a b) (Sum.elim (fun x => ∃ q, x.1 = nI q ∧ p ≤ q ∧ q ≤ p + 2) (fun r => r.1 = 0 ∧ ∃ q, r.2.1 = nI q ∧ q ≤ p + 2)) := by
  intro n
  induction n with
  | zero => intro q a b _ _ h; omega
  | succ n ih =>
    intro q a b h1 h2 hn
    rw [f_M_counts_L10]
    refine Ok.b1 (t_see (by omega) he) (fun v13 h13 => Ok.b1 (t_in _ _ _) (fun v14 h14 => Ok.ite (fun _ => Ok.ret (show ∃ _, _ from ⟨q, rfl, h1, h2⟩)) (fun n14 => ?_)))
    have hin := z_if1 h14 n14
    rw [z_toL, show (48 : Int64).toInt = 48 from rfl] at hin
    have hq : q < e := by
      rcases h13 with z | z
      · rw [z, show (-1 : Int32).toInt = -1 from rfl] at hin; omega
      · exact z
    rw [pk_sub h1, z_i 2]
    refine Ok.ite (fun _ => Ok.b2 (t_wrong _ _ _) (fun v18 v19 h18 => Ok.bo (Or.inl h18) (Ok.ret (show _ ∧ _ from ⟨h18, q, rfl, h2⟩)))) (fun h5 => Ok.ain (by omega) (by decide) (Ok.nm ?_))
    rw [nI_eq (by omega) (by omega)] at h5
    rw [z_nm, nI_1]
    exact ih (q + 1) _ _ (by omega) (by omega) (by omega)
theorem t_counts (hN : 1000000 ≤ N) {p e : Nat} (hp : p ≤ 1000) (he : e ≤ 200) (fa nu mo : Int32) : Ok (f_M_counts N tb (nI p) fa nu (nI e) mo) (fun y => (y.1 = 0 ∨ y.1 = 1) ∧ (∃ q, y.2.1 = nI q ∧ q ≤ p + 2) ∧ (¬ y.1 = 0 → 1 ≤ y.2.2.2.toInt ∧ y.2.2.2.toInt ≤ mo.toInt)) := by
  unfold f_M_counts
  refine Ok.s3 (t_counts_L (tb := tb) hp he N p fa 0 (Nat.le_refl _) (by omega) (by omega)) (fun v4 v5 v6 h4 => ?_) (fun r hr => ?_)
  · obtain ⟨q, e4, q1, q2⟩ := h4
    dsimp only at e4
    subst e4
    refine Ok.ite (fun _ => Ok.b2 (t_wrong _ _ _) (fun v11 v12 h11 => Ok.bo (Or.inl h11) (Ok.ret ⟨Or.inl h11, ⟨q, rfl, q2⟩, fun z => absurd h11 z⟩))) (fun _ => Ok.b1 (t_in _ _ _) (fun v7 h7 => ?_))
    refine Ok.k1 (fun _ => 1 ≤ v6.toInt ∧ v6.toInt ≤ mo.toInt) (fun y => (y.1 = 0 ∨ y.1 = 1) ∧ (∃ q, y.2.1 = nI q ∧ q ≤ p + 2) ∧ (¬ y.1 = 0 → 1 ≤ y.2.2.2.toInt ∧ y.2.2.2.toInt ≤ mo.toInt)) (fun v8 h8 => Ok.ret ⟨Or.inr rfl, ⟨q, rfl, q2⟩, fun _ => h8⟩) (fun K hK => Ok.ite (fun _ => Ok.b2 (t_wrong _ _ _) (fun v9 v10 h9 => Ok.ite (fun _ => Ok.ret ⟨Or.inl rfl, ⟨q, rfl, q2⟩, fun z => absurd rfl z⟩) (fun z => absurd h9 z))) (fun n7 => hK _ ?_))
    have hin := z_if1 h7 n7
    rw [z_toL, z_toL, show (1 : Int64).toInt = 1 from rfl] at hin
    exact hin
  · obtain ⟨h0, q, e4, q2⟩ := hr
    exact ⟨Or.inl h0, ⟨q, e4, q2⟩, fun z => absurd h0 z⟩
def z_nm2 (H V : Nat → Nat) (i r c : Nat) : Prop := i ≤ 4 ∧ r < 44 * H i ∧ c < z_bz (r / H i) * V i
theorem t_read_L (g : MOK R C H V cr cq dp wd za) (hN : 1000000 ≤ N) {e : Nat} (he : e ≤ 200) (ky : Int32) : ∀ n i r c p (fa nu : Int32), 4 - i < n → p + 3 * (4 - i) ≤ 900 → z_nm2 H V i r c → Ok (f_M_readsName_L194 N cq cr ky tb (nI e) n (nI r) (nI c) (nI p) fa nu (nI i)) (Sum.elim (fun x => ∃ i r c, x.1 = nI r ∧ x.2.1 = nI c ∧ x.2.2.2.2.2 = nI i ∧ z_nm2 H V i r c) (fun x => x.1 = 0)) := by
  intro n
  induction n with
  | zero => intro i r c p fa nu h; omega
  | succ n ih =>
    intro i r c p fa nu hn hp hz
    have hz' := hz
    obtain ⟨hi, hr, hc⟩ := hz'
    have hi5 : i < 5 := by omega
    have hv := g.2.2.hv hi5
    have hps := g.2.2.pos i hi5
    rw [f_M_readsName_L194]
    refine Ok.ite (fun _ => Ok.ret (show ∃ _, _ from ⟨i, r, c, rfl, rfl, rfl, hz⟩)) (fun _ => Ok.b1 (t_see (by omega) he) (fun v26 _ => Ok.ite (fun _ => Ok.ite (fun _ => Ok.b2 (t_wrong _ _ _) (fun v40 v41 h40 => Ok.bo (Or.inl h40) (Ok.ret h40))) (fun h4 => ?_)) (fun _ => Ok.b2 (t_wrong _ _ _) (fun v42 v43 h42 => Ok.bo (Or.inl h42) (Ok.ret h42)))))
    rw [z_i 4, nI_eq (by omega) (by omega)] at h4
    have hj5 : i + 1 < 5 := by omega
    have hRC := g.2.2.2.2.2.2.2.1 (i + 1) hj5
    have hst := g.2.2.2.2.2.2.1 i (by omega)
    obtain ⟨e1, e2, -, -⟩ := g.1 (i + 1) hj5
    rw [nI_1, z_nm, nI_1, z_nm, z_ai hj5 (by omega), z_ai hj5 (by omega), e1, e2, pk_mul]
    have hb : R (i + 1) * C (i + 1) ≤ 36 := Nat.mul_le_mul hRC.2.1 hRC.2.2.2
    refine Ok.b4 (t_counts hN (p := p + 1) (by omega) he fa nu _) (fun v31 v32 v33 v34 h31 => Ok.ite (fun _ => Ok.ret rfl) (fun n31 => ?_))
    obtain ⟨-, ⟨q, hq, q2⟩, h3⟩ := h31
    dsimp only at hq h3
    subst hq
    have h3' := h3 n31
    rw [nI_toInt (by omega)] at h3'
    obtain ⟨u, u1, rfl, u3⟩ := z_nat (r := v34) (by omega)
    have hRc : 1 * 1 ≤ R (i + 1) * C (i + 1) := Nat.mul_le_mul hRC.1 hRC.2.2.1
    have hu : u - 1 < R (i + 1) * C (i + 1) := by omega
    have hu1 : (u - 1) / C (i + 1) < R (i + 1) := Nat.div_lt_of_lt_mul (by rw [Nat.mul_comm]; exact hu)
    have hu2 : (u - 1) % C (i + 1) < C (i + 1) := Nat.mod_lt _ hRC.2.2.1
    have hrR : r * R (i + 1) + (u - 1) / C (i + 1) < 44 * H (i + 1) := by
      rw [hst.1, ← Nat.mul_assoc]
      calc r * R (i + 1) + (u - 1) / C (i + 1) < r * R (i + 1) + R (i + 1) := by omega
        _ = (r + 1) * R (i + 1) := (Nat.succ_mul _ _).symm
        _ ≤ 44 * H i * R (i + 1) := Nat.mul_le_mul_right _ (by omega)
    have hdiv : (r * R (i + 1) + (u - 1) / C (i + 1)) / H (i + 1) = r / H i := by
      rw [hst.1, Nat.mul_comm (H i), ← Nat.div_div_eq_div_mul, Nat.mul_comm r, Nat.mul_add_div hRC.1, Nat.div_eq_of_lt hu1, Nat.add_zero]
    have hcC : c * C (i + 1) + (u - 1) % C (i + 1) < z_bz (r / H i) * V (i + 1) := by
      rw [hst.2, ← Nat.mul_assoc]
      calc c * C (i + 1) + (u - 1) % C (i + 1) < c * C (i + 1) + C (i + 1) := by omega
        _ = (c + 1) * C (i + 1) := (Nat.succ_mul _ _).symm
        _ ≤ z_bz (r / H i) * V i * C (i + 1) := Nat.mul_le_mul_right _ (by omega)
    rw [z_ai hj5 (by omega), e1, z_sub1 (by omega), z_dv (by omega) hRC.2.2.1 (by omega), pk_mul, pk_mul, nI_add, z_nm, z_rm (by omega) hRC.2.2.1 (by omega), nI_add, z_nm]
    exact ih (i + 1) _ _ q v33 _ (by omega) (by omega) ⟨by omega, hrR, by rw [hdiv]; exact hcC⟩
abbrev z_rdm (H V : Nat → Nat) (y : Int32 × Int32 × Int32 × Int32 × Int32 × Int32) : Prop := (y.1 = 0 ∨ y.1 = 1) ∧ (¬ y.1 = 0 → z_hs H V y.2.2.2.2.1 y.2.2.2.2.2)
theorem t_readsName (g : MOK R C H V cr cq dp wd za) (hN : 1000000 ≤ N) {p e : Nat} (hp : p ≤ 300) (he : e ≤ 200) (fa nu lv ky : Int32) : Ok (f_M_readsName N cr cq dp wd za tb (nI p) fa nu lv ky (nI e)) (z_rdm H V) := by
  have W : ∀ (a b c : Int32) (k : Int32 → Int32 → Option (Int32 × Int32 × Int32 × Int32 × Int32 × Int32)), (∀ x y, x = 0 → Ok (k x y) (z_rdm H V)) → Ok (q_b2 (f_M_wrong a b c) k) (z_rdm H V) := fun a b c k h => Ok.b2 (t_wrong a b c) (fun x y hx => h x y hx)
  have W0 : ∀ (x a b c d e : Int32), x = 0 → Ok (q_bo x (some (x, a, b, c, d, e))) (z_rdm H V) := fun x a b c d e hx => Ok.bo (Or.inl hx) (Ok.ret ⟨Or.inl hx, fun z => absurd hx z⟩)
  have h00 := g.2.2.2.2.1
  have h01 := g.2.2.2.2.2.1
  have hs0 := g.2.2.sh (l := 0) (by omega)
  unfold f_M_readsName
  refine Ok.b1 (t_see (by omega) he) (fun v1 _ => ?_)
  refine Ok.k0 (z_rdm H V) ?_ (fun K hK => Ok.ite (fun _ => hK) (fun _ => Ok.ite (fun _ => hK) (fun _ => W _ _ _ _ (fun x y hx => W0 x _ _ _ _ _ hx))))
  rw [nI_1, z_nm]
  refine Ok.b1 (t_see (by omega) he) (fun v3 _ => Ok.b1 (t_inN v3 65 86 (by decide) (by decide)) (fun v4 h4 => ?_))
  by_cases hc : v4 = 0 ∧ ¬ v3 = 90
  · exact Ok.j0 (Ok.ite (fun _ => Ok.ite (fun z => absurd z hc.2) (fun _ => W _ _ _ _ (fun x y hx => W0 x _ _ _ _ _ hx))) (fun z => absurd hc.1 z))
  refine Ok.k0 (z_rdm H V) ?_ (fun K hK => Ok.ite (fun z1 => Ok.ite (fun _ => hK) (fun z2 => absurd ⟨z1, z2⟩ hc)) (fun _ => hK))
  rw [nI_1, z_nm]
  refine Ok.ite (fun _ => ?_) (fun h90 => ?_)
  · refine Ok.k1 (fun v => ∃ k, v = nI k ∧ k < 2130 * (H 0 * V 0) + 2) (z_rdm H V) (fun v44 h44 => ?_) (fun K hK => Ok.ite (fun _ => hK _ ⟨0, rfl, by omega⟩) (fun _ => ?_))
    · obtain ⟨k, rfl, hk⟩ := h44
      exact Ok.k1 (fun _ => True) (z_rdm H V) (fun v45 _ => Ok.ret ⟨Or.inr rfl, fun _ => ⟨0, k, by omega, rfl, rfl, hk⟩⟩) (fun K hK => Ok.ite (fun _ => hK _ trivial) (fun _ => W _ _ _ _ (fun x y hx => Ok.ite (fun _ => Ok.ret ⟨Or.inl rfl, fun z => absurd rfl z⟩) (fun z => absurd hx z))))
    · refine Ok.b1 (t_sheets g (l := 0) (by omega)) (fun v48 h48 => ?_)
      rw [h48, z_sub1 (by omega)]
      exact hK _ ⟨_, rfl, by omega⟩
  · have h40 : ¬ v4 = 0 := fun z => hc ⟨z, h90⟩
    obtain ⟨j, rfl, j1, j2⟩ := h4.2 h40
    refine Ok.k1 (fun v => ∃ q, v = nI q ∧ q < 44) (z_rdm H V) (fun v6 h6 => ?_) (fun K hK => Ok.ite (fun _ => ?_) (fun _ => ?_))
    · obtain ⟨q, rfl, hq⟩ := h6
      rw [m_zonesOf q hq, q_b1_s]
      have hbz := z_bz_in q hq
      refine Ok.b4 (t_counts hN (p := p + 1 + 1) (by omega) he fa nu _) (fun v8 v9 v10 v11 h8 => Ok.ite (fun _ => Ok.ret ⟨Or.inl rfl, fun z => absurd rfl z⟩) (fun n8 => ?_))
      obtain ⟨-, ⟨p2, hp2, hp3⟩, h3⟩ := h8
      dsimp only at hp2 h3
      subst hp2
      have h3' := h3 n8
      rw [nI_toInt (by omega)] at h3'
      obtain ⟨u, u1, rfl, u3⟩ := z_nat (r := v11) (by omega)
      rw [z_sub1 (by omega), z_nm]
      refine Ok.s6 (t_read_L g hN he ky N 0 q (u - 1) p2 v10 (nI u) (by omega) (by omega) ⟨by omega, by rw [h00]; omega, by rw [h00, h01, Nat.div_one]; omega⟩) (fun v19 v20 v21 v22 v23 v24 h19 => ?_) (fun r hr => ⟨Or.inl hr, fun z => absurd hr z⟩)
      obtain ⟨i, r, c, a1, a2, a3, hi, hr, hc2⟩ := h19
      dsimp only at a1 a2 a3
      subst a1; subst a2; subst a3
      have hi5 : i < 5 := by omega
      have hps := g.2.2.pos i hi5
      have hv := g.2.2.hv hi5
      have erl : z_rl (H i) (V i) (1 + r) = z_bz (r / H i) * V i := by
        unfold z_rl
        rw [if_neg (by omega), show 1 + r - 1 = r by omega]
      rw [z_i 1, nI_add, m_keyOf g hi5 (by omega) (by rw [erl]; exact hc2), q_b1_s]
      have hend := z_rs_end (H := H i) (V := V i) (r := 1 + r) hps.1 (by omega)
      refine Ok.ret ⟨Or.inr rfl, fun _ => ⟨i, _, hi5, rfl, rfl, ?_⟩⟩
      rw [erl] at hend
      omega
    · rw [z_i 65, pk_sub j1, z_i 21, pk_sub (by omega)]
      exact hK _ ⟨_, rfl, by omega⟩
    · rw [z_i 22, nI_add, z_i 65, pk_sub (by omega)]
      exact hK _ ⟨_, rfl, by omega⟩
theorem t_counted (a b c d e : Int32) {x : Int32} (hx : x = 0 ∨ x = 1) (y : Int32) : Ok (f_M_counted a b c d e x y) (fun z => z.1 = x) := by
  unfold f_M_counted
  refine Ok.k1 (fun _ => True) (fun z => z.1 = x) (fun v1 _ => Ok.nm ?_) (fun K hK => Ok.ite (fun _ => hK _ trivial) (fun _ => hK _ trivial))
  refine Ok.k1 (fun _ => True) (fun z => z.1 = x) (fun v3 _ => Ok.nm ?_) (fun K hK => Ok.ite (fun _ => hK _ trivial) (fun _ => hK _ trivial))
  refine Ok.k1 (fun _ => True) (fun z => z.1 = x) (fun v5 _ => Ok.nm ?_) (fun K hK => Ok.k0 (fun z => z.1 = x) (hK _ trivial) (fun K2 h2 => Ok.ite (fun _ => Ok.ite (fun _ => h2) (fun _ => hK _ trivial)) (fun _ => h2)))
  exact Ok.k1 (fun _ => True) (fun z => z.1 = x) (fun v7 _ => Ok.nm (Ok.bo hx (Ok.ret rfl))) (fun K hK => Ok.k0 (fun z => z.1 = x) (hK _ trivial) (fun K2 h2 => Ok.ite (fun _ => Ok.ite (fun _ => h2) (fun _ => Ok.ite (fun _ => h2) (fun _ => hK _ trivial))) (fun _ => h2)))
theorem t_named (g : MOK R C H V cr cq dp wd za) (hN : 1000000 ≤ N) {t : Nat} (ht : t ≤ 200) (pa fa nu lv ky a b c d p q : Int32) : Ok (f_M_named N cr cq dp wd za tb (nI t) pa fa nu lv ky a b c d p q) (fun x => (z_txc 40 p t ∧ (0 ≤ q.toInt ∧ q.toInt ≤ 1) ∧ x.2.1 = nI 0) ∨ (¬ (z_txc 40 p t ∧ (0 ≤ q.toInt ∧ q.toInt ≤ 1)) ∧ x.2.1 = nI t)) := by
  unfold f_M_named
  refine Ok.b1 (t_in _ _ _) (fun v1 h1 => ?_)
  rw [z_toL, show (1 : Int64).toInt = 1 from rfl, show (40 : Int64).toInt = 40 from rfl] at h1
  refine Ok.ite (fun n1 => Ok.ret (Or.inr ⟨fun z => z_if0 h1 n1 ⟨z.1.1, z.1.2.1⟩, rfl⟩)) (fun n1 => Ok.ite (fun h3 => ?_) (fun h3 => ?_))
  · have := z_lt.mp h3
    rw [nI_toInt (by omega)] at this
    exact Ok.ret (Or.inr ⟨fun z => by have := z.1.2.2; omega, rfl⟩)
  · have hin := z_if1 h1 n1
    have h4 : p.toInt ≤ t := by
      rcases Int.lt_or_le (t : Int) p.toInt with z | z
      · exact absurd (z_lt.mpr (by rw [nI_toInt (by omega)]; exact z)) h3
      · exact z
    refine Ok.b1 (t_in _ _ _) (fun v2 h2 => ?_)
    rw [z_toL, show (0 : Int64).toInt = 0 from rfl, show (1 : Int64).toInt = 1 from rfl] at h2
    refine Ok.ite (fun n2 => Ok.ret (Or.inr ⟨fun z => z_if0 h2 n2 z.2, rfl⟩)) (fun n2 => ?_)
    have hq := z_if1 h2 n2
    obtain ⟨j, j1, rfl, j3⟩ := z_nat (r := p) (by omega)
    refine Ok.weak (Q := fun (x : Int32 × Int32 × Int32 × Int32 × Int32 × Int32 × Int32 × Int32 × Int32 × Int32 × Int32) => x.2.1 = nI 0) ?_ (fun x hx => Or.inl ⟨⟨hin.1, hin.2, h4⟩, hq, hx⟩)
    refine Ok.b6 (t_readsName g hN (p := 0) (e := j) (by omega) (by omega) 0 nu lv ky) (fun v3 v4 v5 v6 v7 v8 h => ?_)
    exact Ok.k1 (fun _ => True) (fun x => x.2.1 = nI 0) (fun v9 _ => Ok.b5 (t_counted _ _ _ _ _ h.1 _) (fun v10 v11 v12 v13 v14 _ => Ok.ite (fun _ => Ok.ret rfl) (fun _ => Ok.ite (fun _ => Ok.ret rfl) (fun _ => Ok.ret rfl)))) (fun K hK => Ok.ite (fun _ => hK _ trivial) (fun _ => hK _ trivial))
theorem t_blankFrom (hN : 1000000 ≤ N) {p e B : Nat} (hp : p ≤ B) (he : e ≤ B) (hB : B ≤ 150) : Ok (f_M_blankFrom N tb (nI p) (nI e)) (fun y => ∃ j, y = nI j ∧ j ≤ B) := by
  have L : ∀ n i, i ≤ B → B - i < n → Ok (f_M_blankFrom_L2 tb (nI e) n (nI i)) (fun y => ∃ j, y = nI j ∧ j ≤ B) := by
    intro n
    induction n with
    | zero => intro i _ h; omega
    | succ n ih =>
      intro i hi hn
      rw [f_M_blankFrom_L2]
      refine Ok.ite (fun _ => Ok.ret ⟨i, rfl, hi⟩) (fun hc => ?_)
      rw [nI_leI (by omega) (by omega)] at hc
      refine Ok.ain (by omega) (by decide) (Ok.ite (fun _ => Ok.ret ⟨i, rfl, hi⟩) (fun _ => ?_))
      rw [nI_1, z_nm]
      exact ih (i + 1) (by omega) (by omega)
  unfold f_M_blankFrom
  exact Ok.b1 (L N p hp (by omega)) (fun _ h => Ok.ret h)
theorem t_readsUpTo (g : MOK R C H V cr cq dp wd za) (hN : 1000000 ≤ N) {p e : Nat} (hp : p ≤ 300) (he : e ≤ 200) (fa nu lv ky ea : Int32) : Ok (f_M_readsUpTo N cr cq dp wd za tb (nI p) fa nu lv ky ea (nI e)) (fun y => (y.1 = 0 ∨ y.1 = 1) ∧ (¬ y.1 = 0 → z_hs H V y.2.2.2.2.1 y.2.2.2.2.2.1)) := by
  unfold f_M_readsUpTo
  refine Ok.b6 (t_readsName g hN hp he fa nu lv ky) (fun v1 v2 v3 v4 v5 v6 h => ?_)
  refine Ok.k1 (fun v => v = 0 ∨ v = 1) (fun y => (y.1 = 0 ∨ y.1 = 1) ∧ (¬ y.1 = 0 → z_hs H V y.2.2.2.2.1 y.2.2.2.2.2.1)) (fun v7 h7 => Ok.bo h7 (Ok.bo h.1 (Ok.ret h))) (fun K hK => Ok.k0 (fun y => (y.1 = 0 ∨ y.1 = 1) ∧ (¬ y.1 = 0 → z_hs H V y.2.2.2.2.1 y.2.2.2.2.2.1)) (hK _ (Or.inl rfl)) (fun K2 h2 => Ok.ite (fun _ => Ok.ite (fun _ => hK _ (Or.inr rfl)) (fun _ => h2)) (fun _ => h2)))
theorem t_answersOne (g : MOK R C H V cr cq dp wd za) (hN : 1000000 ≤ N) {p e : Nat} (hp : p ≤ 300) (he : e ≤ 200) (fa nu lv ky a b c d fb mb ea : Int32) (w : Int64) : Ok (f_M_answersOne N cr cq dp wd za tb (nI p) fa nu lv ky a b c d fb mb ea w (nI e)) (fun _ => True) := by
  unfold f_M_answersOne
  refine Ok.b7 (t_readsUpTo g hN hp he fa nu lv ky ea) (fun v1 v2 v3 v4 v5 v6 v7 h => Ok.b5 (t_counted _ _ _ _ _ h.1 _) (fun v8 v9 v10 v11 v12 h8 => Ok.ite (fun _ => Ok.t) (fun n8 => ?_)))
  dsimp only at h h8
  rw [h8] at n8
  obtain ⟨l, k, hl, rfl, rfl, hk⟩ := h.2 n8
  refine Ok.ite (fun _ => Ok.ite (fun _ => Ok.t) (fun h0 => ?_)) (fun _ => ?_)
  · rw [z_eq0 (by omega)] at h0
    rw [z_sub1 (by omega)]
    exact Ok.b1 (t_parentOf g (by omega) hl (t := l - 1) (by omega) hk) (fun _ _ => Ok.t)
  · refine Ok.k1 (fun v => ∃ i, v = nI i ∧ i < 4) (fun _ => True) (fun v13 h13 => ?_) (fun K hK => Ok.ite (fun _ => hK _ ⟨0, rfl, by omega⟩) (fun _ => Ok.ite (fun _ => hK _ ⟨1, rfl, by omega⟩) (fun _ => Ok.ite (fun _ => hK _ ⟨2, rfl, by omega⟩) (fun _ => hK _ ⟨3, rfl, by omega⟩))))
    obtain ⟨i, rfl, hi⟩ := h13
    have hb : Ok (f_M_besideFirst N dp wd za (nI l) (nI k) fb mb (nI i)) (fun _ => True) := by
      unfold f_M_besideFirst
      exact Ok.b2 (t_layB g (by omega) hl hk fb mb hi) (fun _ _ _ => Ok.ite (fun _ => Ok.t) (fun _ => Ok.t))
    exact Ok.b3 hb (fun _ _ _ _ => Ok.t)
theorem t_answersTwo (g : MOK R C H V cr cq dp wd za) (hN : 1000000 ≤ N) {p e : Nat} (hp : p ≤ 101) (he : e ≤ 100) (fa nu lv ky a b c d : Int32) (bl bo : Int64) (ed : Nat → Int64) (fb mb : Int32) (di qu : Nat → Int32) (qd x1 x2 x3 x4 x5 ea z : Int32) : Ok (f_M_answersTwo N cr cq dp wd za tb (nI p) fa nu lv ky a b c d bl bo ed fb mb di qu qd x1 x2 x3 x4 x5 ea z (nI e)) (fun _ => True) := by
  unfold f_M_answersTwo
  refine Ok.b1 (t_blankFrom hN (B := 101) hp (by omega) (by omega)) (fun v1 h1 => ?_)
  obtain ⟨j, rfl, hj⟩ := h1
  refine Ok.b7 (t_readsUpTo g hN (p := p) (e := j) (by omega) (by omega) fa nu lv ky ea) (fun v2 v3 v4 v5 v6 v7 v8 h2 => ?_)
  dsimp only at h2
  refine Ok.k3 (fun v9 _ _ => v9 = 0 ∨ (v9 = 1 ∧ z_hs H V v6 v7)) (fun _ => True) (fun v9 v10 v11 h9 => ?_) (fun K hK => Ok.ite (fun h0 => hK _ _ _ (Or.inl h0)) (fun n2 => Ok.ite (fun _ => Ok.b2 (t_wrong _ _ _) (fun v53 v54 h53 => hK _ _ _ (Or.inl h53))) (fun _ => hK _ _ _ (Or.inr ⟨h2.1.resolve_left n2, h2.2 n2⟩))))
  rw [nI_1, z_nm]
  refine Ok.k7 (fun v13 _ _ _ v17 v18 _ => v13 = 0 ∨ (v13 = 1 ∧ z_hs H V v6 v7 ∧ z_hs H V v17 v18)) (fun _ => True) (fun v13 v14 v15 v16 v17 v18 v19 h13 => ?_) (fun K hK => ?_)
  · refine Ok.b5 (t_counted _ _ _ _ _ (x := v13) (by rcases h13 with h | h; exact Or.inl h; exact Or.inr h.1) _) (fun v20 v21 v22 v23 v24 h20 => Ok.ite (fun _ => Ok.t) (fun n20 => Ok.ite (fun el => ?_) (fun _ => Ok.t)))
    dsimp only at h20
    rw [h20] at n20
    obtain ⟨-, g1, g2⟩ := h13.resolve_left n20
    subst el
    obtain ⟨l, k, k2, hl, rfl, rfl, rfl, hk, hk2⟩ := t_two g g1 g2
    exact Ok.ite (fun _ => Ok.b9 (t_betweenOf g hN hl hk hk2 bl bo ed x1 x2 x3 x4 x5) (fun _ _ _ _ _ _ _ _ _ _ => Ok.t)) (fun _ => Ok.b6 (t_stepsOf g hN hl hk hk2 fb mb di qu qd) (fun _ _ _ _ _ _ _ => Ok.t))
  · refine Ok.k6 (fun _ _ _ _ _ _ => True) (fun _ => True) (fun v40 v41 v42 v43 v44 v45 _ => hK _ _ _ _ _ _ _ (Or.inl rfl)) (fun K2 hK2 => Ok.ite (fun _ => hK2 _ _ _ _ _ _ trivial) (fun n9 => ?_))
    have h67 := h9.resolve_left n9
    refine Ok.b7 (t_readsUpTo g hN (p := j + 1) (e := e) (by omega) (by omega) _ _ _ _ _) (fun v46 v47 v48 v49 v50 v51 v52 h46 => Ok.ite (fun _ => hK2 _ _ _ _ _ _ trivial) (fun n46 => hK _ _ _ _ _ _ _ (Or.inr ⟨rfl, h67.2, h46.2 n46⟩)))
theorem t_wordTo (hN : 1000000 ≤ N) {e : Nat} (he : e ≤ 150) : Ok (f_M_wordTo N tb (nI e)) (fun _ => True) := by
  have L : ∀ n i (v : Int64), i ≤ 150 → 150 - i < n → Ok (f_M_wordTo_L5 tb (nI e) n v (nI i)) (fun _ => True) := by
    intro n
    induction n with
    | zero => intro i v _ h; omega
    | succ n ih =>
      intro i v hi hn
      rw [f_M_wordTo_L5]
      refine Ok.ite (fun _ => Ok.t) (fun hc => ?_)
      rw [nI_leI (by omega) (by omega)] at hc
      refine Ok.ain (by omega) (by decide) (Ok.b1 (t_in _ _ _) (fun _ _ => Ok.ite (fun _ => Ok.t) (fun _ => Ok.ite (fun _ => Ok.ain (by omega) (by decide) (Ok.nm ?_)) (fun _ => Ok.t))))
      rw [z_nm, nI_1]
      exact ih (i + 1) _ (by omega) (by omega)
  unfold f_M_wordTo
  exact Ok.nm (Ok.nm (Ok.s1 (L N 0 _ (by omega) (by omega)) (fun _ _ => Ok.t) (fun _ _ => trivial)))
theorem t_ask (g : MOK R C H V cr cq dp wd za) (hN : 1000000 ≤ N) {t : Nat} (ht : t ≤ 200) (pa fa nu lv ky a b c d : Int32) (bl bo : Int64) (ed : Nat → Int64) (fb mb : Int32) (di qu : Nat → Int32) (qd x1 x2 x3 x4 x5 ea p : Int32) : Ok (f_M_ask N cr cq dp wd za tb (nI t) pa fa nu lv ky a b c d bl bo ed fb mb di qu qd x1 x2 x3 x4 x5 ea p) (fun x => z_tl p t x.2.1) := by
  unfold f_M_ask
  refine Ok.b1 (t_in _ _ _) (fun v1 h1 => ?_)
  rw [z_toL, show (1 : Int64).toInt = 1 from rfl, show (100 : Int64).toInt = 100 from rfl] at h1
  refine Ok.ite (fun n1 => Ok.ret (Or.inr ⟨fun z => z_if0 h1 n1 ⟨z.1, z.2.1⟩, rfl⟩)) (fun n1 => Ok.ite (fun h3 => ?_) (fun h3 => ?_))
  rotate_left
  · exact Ok.ret (Or.inr ⟨fun z => h3 (z_le.mpr (by rw [nI_toInt (by omega)]; exact z.2.2)), rfl⟩)
  have hin := z_if1 h1 n1
  have h4 := z_le.mp h3
  rw [nI_toInt (by omega)] at h4
  obtain ⟨j, j1, rfl, j3⟩ := z_nat (r := p) (by omega)
  refine Ok.weak (Q := fun (x : Int32 × Int32 × Int32 × Int32 × Int32 × Int32 × Int32 × Int32 × Int32 × Int32 × Int32 × Int64 × Int64 × (Nat → Int64) × Int32 × Int32 × (Nat → Int32) × (Nat → Int32) × Int32 × Int32 × Int32 × Int32 × Int32 × Int32 × Int32) => x.2.1 = 0) ?_ (fun x hx => Or.inl ⟨⟨hin.1, hin.2, h4⟩, hx⟩)
  refine Ok.b1 (t_blankFrom hN (p := 0) (e := j) (B := 100) (by omega) (by omega) (by omega)) (fun v2 h2 => ?_)
  obtain ⟨i, rfl, hi⟩ := h2
  refine Ok.k2 (fun _ _ => True) (fun x => x.2.1 = 0) (fun v3 v4 _ => Ok.ite (fun _ => Ok.b5 (t_counted _ _ _ _ _ (Or.inl rfl) _) (fun _ _ _ _ _ _ => Ok.ret rfl)) (fun _ => Ok.b1 (t_wordTo hN (by omega)) (fun v5 _ => ?_))) (fun K hK => Ok.k1 (fun _ => True) (fun x => x.2.1 = 0) (fun v59 _ => hK _ _ trivial) (fun K2 h2 => Ok.ite (fun _ => h2 _ trivial) (fun _ => Ok.b2 (t_wrong _ _ _) (fun v60 v61 _ => Ok.ite (fun _ => hK _ _ trivial) (fun _ => h2 _ trivial)))))
  refine Ok.k1 (fun _ => True) (fun x => x.2.1 = 0) (fun v6 _ => ?_) (fun K hK => Ok.k0 (fun x => x.2.1 = 0) (hK _ trivial) (fun K2 h2 => Ok.ite (fun _ => h2) (fun _ => Ok.ite (fun _ => h2) (fun _ => hK _ trivial))))
  refine Ok.k1 (fun _ => True) (fun x => x.2.1 = 0) (fun v7 _ => ?_) (fun K hK => Ok.k0 (fun x => x.2.1 = 0) (hK _ trivial) (fun K2 h2 => Ok.ite (fun _ => h2) (fun _ => Ok.ite (fun _ => h2) (fun _ => Ok.ite (fun _ => h2) (fun _ => Ok.ite (fun _ => h2) (fun _ => Ok.ite (fun _ => h2) (fun _ => hK _ trivial)))))))
  refine Ok.k0 (fun x => x.2.1 = 0) ?_ (fun K hK => Ok.ite (fun _ => Ok.ite (fun _ => Ok.b2 (t_wrong _ _ _) (fun _ _ _ => Ok.b5 (t_counted _ _ _ _ _ (Or.inl rfl) _) (fun _ _ _ _ _ _ => Ok.ret rfl))) (fun _ => hK)) (fun _ => hK))
  rw [nI_1, z_nm]
  refine Ok.ite (fun _ => Ok.b13 (t_answersOne g hN (p := i + 1) (e := j) (by omega) (by omega) v4 nu lv ky a b c d fb mb 0 v5) (fun _ _ _ _ _ _ _ _ _ _ _ _ _ _ => Ok.ret rfl)) (fun _ => ?_)
  exact Ok.k1 (fun _ => True) (fun x => x.2.1 = 0) (fun v22 _ => Ok.b24 (t_answersTwo g hN (p := i + 1) (e := j) (by omega) (by omega) v4 nu lv ky a b c d bl bo ed fb mb di qu qd x1 x2 x3 x4 x5 0 v22) (fun _ _ _ _ _ _ _ _ _ _ _ _ _ _ _ _ _ _ _ _ _ _ _ _ _ => Ok.ret rfl)) (fun K hK => Ok.ite (fun _ => hK _ trivial) (fun _ => hK _ trivial))
end MA
end
section
/-! the reference: what it lacks; counts -/
section ML
variable {R C H V : Nat → Nat} {cr cq dp wd za : Nat → Int32} {N l m : Nat} {pl pk py : Nat → Int32}
theorem t_isPlaceB (x y : Int32) : Ok (f_M_isPlace x y) (fun z => ¬ z = 0 → ∃ o, y = nI o ∧ o < 1296000) := by
  unfold f_M_isPlace
  refine Ok.b1 (t_in _ _ _) (fun _ _ => Ok.ite (fun _ => Ok.ret (fun h => absurd rfl h)) (fun _ => Ok.b1 (t_inN y 0 1295999 (by decide) (by decide)) (fun v2 h2 => Ok.ite (fun _ => Ok.ret (fun h => absurd rfl h)) (fun n2 => Ok.ret (fun _ => ?_)))))
  obtain ⟨o, e, -, h⟩ := h2.2 n2
  exact ⟨o, e, by omega⟩
theorem t_isBoxB (a b c d : Int32) : Ok (f_M_isBox a b c d) (fun z => ¬ z = 0 → (∃ o, c = nI o ∧ o < 1296000) ∧ ∃ o, d = nI o ∧ o < 1296000) := by
  unfold f_M_isBox
  exact Ok.b1 (t_isPlaceB _ _) (fun v1 h1 => Ok.ite (fun _ => Ok.ret (fun h => absurd rfl h)) (fun n1 => Ok.b1 (t_isPlaceB _ _) (fun v2 h2 => Ok.ite (fun _ => Ok.ret (fun h => absurd rfl h)) (fun n2 => Ok.ite (fun _ => Ok.ret (fun h => absurd rfl h)) (fun _ => Ok.ret (fun _ => ⟨h1 n1, h2 n2⟩))))))
theorem m_placeAt {o L : Nat} (ho : o < 1296000) (hL : L ≤ 563400) : f_M_placeAt (nI o) (nI L) = some (nI (o * L / 1296000)) := by
  have h1 : o * L ≤ 1296000 * 563400 := Nat.mul_le_mul (by omega) hL
  unfold f_M_placeAt
  rw [nI_l (by omega), nI_l (by omega), lN_mul, z_l 1296000, z_dvl (by omega) (by omega) (by omega), lN_i]
theorem z_plIn {o L : Nat} (ho : o < 1296000) (hL : 1 ≤ L) : o * L / 1296000 < L := Nat.div_lt_of_lt_mul (Nat.mul_lt_mul_of_lt_of_le ho (Nat.le_refl _) hL)
theorem t_boxManyB (g : MOK R C H V cr cq dp wd za) (hl : l < 5) {w e r : Nat} (hw : w < 1296000) (he : e < 1296000) (hr : r ≤ 44 * H l + 1) : Ok (f_M_boxMany dp wd (nI l) (nI w) (nI e) (nI r)) (fun y => ∃ m, y = nI m ∧ m ≤ 563400) := by
  have hv := g.2.2.hv hl
  have hp := g.2.2.pos l hl
  have hL := z_rl_pos (V := V l) hp.1 hp.2 hr
  have h1 := z_plIn hw hL.1
  have h2 := z_plIn he hL.1
  unfold f_M_boxMany
  rw [m_many g hl hr, q_b1_s, m_placeAt hw (by omega), q_b1_s, m_placeAt he (by omega), q_b1_s]
  refine Ok.ite (fun _ => Ok.ite (fun h => ?_) (fun _ => Ok.ret ⟨_, rfl, by omega⟩)) (fun hwe => ?_)
  · rw [pk_sub (by omega), nI_add, nI_1]
    rw [nI_ltI (by omega) (by omega)] at h
    exact Ok.ret ⟨_, rfl, by omega⟩
  · rw [nI_ltI (by omega) (by omega)] at hwe
    have h3 : w * z_rl (H l) (V l) r / 1296000 ≤ e * z_rl (H l) (V l) r / 1296000 := Nat.div_le_div_right (Nat.mul_le_mul_right _ (by omega))
    rw [pk_sub h3, nI_1]
    exact Ok.ret ⟨_, rfl, by omega⟩
theorem t_lacks_L81 (g : MOK R C H V cr cq dp wd za) (hN : 1000000 ≤ N) (h : z_ps H V pl pk m) (hl : l < 5) {w e r : Nat} (hw : w < 1296000) (he : e < 1296000) (hr : r ≤ 44 * H l + 1) (y i5 a b : Int32) : ∀ n i (v : Int32) (bl bo : Int64) (ed : Nat → Int64), i ≤ 563401 → 563401 - i < n → Ok (f_M_lacks_L81 N dp pk pl py (nI m) wd za (nI l) y i5 (nI r) (nI l) a b (nI w) (nI e) n v (nI i) bl bo ed) (fun _ => True) := by
  have hv := g.2.2.hv hl
  have hp := g.2.2.pos l hl
  have hL := z_rl_pos (V := V l) hp.1 hp.2 hr
  have h1 := z_plIn hw hL.1
  intro n
  induction n with
  | zero => intro i v bl bo ed _ h; omega
  | succ n ih =>
    intro i v bl bo ed hi hn
    rw [f_M_lacks_L81]
    refine Ok.b1 (t_boxManyB g hl hw he hr) (fun v31 h31 => ?_)
    obtain ⟨q, rfl, hq⟩ := h31
    refine Ok.ite (fun _ => Ok.t) (fun hc => ?_)
    rw [nI_leI (by omega) (by omega)] at hc
    have ew : f_M_westOf dp wd (nI l) (nI w) (nI r) = some (nI (w * z_rl (H l) (V l) r / 1296000)) := by
      unfold f_M_westOf
      rw [m_many g hl hr, q_b1_s, m_placeAt hw (by omega), q_b1_s]
    have hm : (w * z_rl (H l) (V l) r / 1296000 + i) % z_rl (H l) (V l) r < z_rl (H l) (V l) r := Nat.mod_lt _ hL.1
    have hend := z_rs_end (V := V l) hp.1 hr
    rw [ew, q_b1_s, m_many g hl hr, q_b1_s, nI_add, z_rm (by omega) (by omega) (by omega), m_keyOf g hl hr hm, q_b1_s]
    refine Ok.b4 (t_isLacking g hN h hl (by omega) bl bo ed y) (fun v36 v37 v38 f39 _ => ?_)
    refine Ok.k1 (fun _ => True) (fun _ => True) (fun v40 _ => ?_) (fun K hK => Ok.ite (fun _ => hK _ trivial) (fun _ => Ok.ite (fun _ => Ok.t) (fun _ => Ok.nm (hK _ trivial))))
    rw [z_nm, nI_1]
    exact ih (i + 1) _ _ _ _ (by omega) (by omega)
theorem t_lacks (g : MOK R C H V cr cq dp wd za) (hN : 1000000 ≤ N) (h : z_ps H V pl pk m) (bl bo : Int64) (ed : Nat → Int64) (x1 x2 x3 x4 x5 a b w e p y i5 : Int32) : Ok (f_M_lacks N dp wd za bl bo ed x1 x2 x3 x4 x5 (nI m) pl pk py a b w e p y i5) (fun _ => True) := by
  unfold f_M_lacks
  refine Ok.b1 (t_isBoxB _ _ _ _) (fun v0 h0 => Ok.ite (fun _ => Ok.t) (fun n0 => Ok.b1 (t_isLevel p) (fun v1 h1 => Ok.ite (fun _ => Ok.t) (fun n1 => Ok.b1 (t_isAnyYear y) (fun _ _ => Ok.ite (fun _ => Ok.t) (fun _ => Ok.ite (fun _ => ?_) (fun _ => Ok.t)))))))
  obtain ⟨l, hl, rfl⟩ := t_level (z_if1 h1 n1)
  obtain ⟨⟨w', rfl, hw⟩, e', rfl, he⟩ := h0 n0
  have hv := g.2.2.hv hl
  refine Ok.b5 (t_laysBox g hl x1 x2 x3 x4 x5 a b _ _) (fun v3 v4 v5 v6 v7 h5 => ?_)
  obtain ⟨r1, r2, h5, a1, a2⟩ := h5
  cases h5
  have L : ∀ n r (v : Int32) (bl bo : Int64) (ed : Nat → Int64), r ≤ 1000000 → r2 + 1 - r < n → Ok (f_M_lacks_L69 N dp pk pl py (nI m) wd za (nI l) y i5 (nI l) (nI r1) (nI r2) (nI w') (nI e') n v (nI r) bl bo ed) (fun _ => True) := by
    intro n
    induction n with
    | zero => intro r v bl bo ed _ h; omega
    | succ n ih =>
      intro r v bl bo ed hr hn
      rw [f_M_lacks_L69]
      refine Ok.ite (fun _ => Ok.t) (fun hc => ?_)
      rw [nI_ltI (by omega) (by omega)] at hc
      refine Ok.nm (Ok.s4 (t_lacks_L81 g hN h hl hw he (r := r) (by omega) y i5 (nI r1) (nI r2) N 0 v bl bo ed (by omega) (by omega)) (fun v26 v27 v28 f29 _ => ?_) (fun _ _ => trivial))
      rw [z_nm, nI_1]
      exact ih (r + 1) _ _ _ _ (by omega) (by omega)
  exact Ok.b1 (t_boxAll g hN hl a1 a2 _ _) (fun _ _ => Ok.ite (fun _ => Ok.nm (Ok.s4 (L N r1 _ bl bo ed (by omega) (by omega)) (fun _ _ _ _ _ => Ok.ite (fun _ => Ok.t) (fun _ => Ok.t)) (fun _ _ => trivial))) (fun _ => Ok.t))
theorem t_count (a b c d e f h p : Int32) : Ok (f_M_count a b c d e f h p) (fun _ => True) := by
  unfold f_M_count
  exact Ok.ite (fun _ => Ok.t) (fun _ => Ok.ite (fun _ => Ok.t) (fun _ => Ok.ite (fun _ => Ok.t) (fun _ => Ok.ite (fun _ => Ok.t) (fun _ => Ok.ite (fun _ => Ok.t) (fun _ => Ok.ite (fun _ => Ok.t) (fun _ => Ok.ite (fun _ => Ok.t) (fun _ => Ok.t)))))))
end ML
end
section
/-! both sides at their start -/
section MI0
variable {N : Nat}
def z_R1 : Nat → Nat := fun l => if l = 0 then 1 else 2
theorem z_R1_kg {a b : Nat → Int32} (h : ∀ l, l < 5 → a l = nI (z_R1 l) ∧ b l = nI (z_R1 l)) : z_kg z_R1 z_R1 a b := by
  refine ⟨rfl, rfl, fun l _ => ?_, h, by decide⟩
  unfold z_R1
  split <;> omega
theorem z_c2kg : z_kg z_R1 z_R1 q_c2 q_c2 := z_R1_kg (fun l hl => by
  rcases (show l = 0 ∨ l = 1 ∨ l = 2 ∨ l = 3 ∨ l = 4 by omega) with rfl | rfl | rfl | rfl | rfl <;> exact ⟨rfl, rfl⟩)
theorem t_init_L142 : ∀ n i (f f' : Nat → Int32), i ≤ 5 → 5 - i < n → (∀ l, l < i → f l = nI (z_R1 l) ∧ f' l = nI (z_R1 l)) → Ok (f_M_init_L142 n (nI i) f f') (fun y => ∀ l, l < 5 → y.1 l = nI (z_R1 l) ∧ y.2 l = nI (z_R1 l)) := by
  intro n
  induction n with
  | zero => intro i f f' _ h; omega
  | succ n ih =>
    intro i f f' hi hn h
    rw [f_M_init_L142]
    refine Ok.ite (fun hc => ?_) (fun hc => ?_)
    all_goals rw [z_i 5, nI_leI (by omega) (by omega)] at hc
    · exact Ok.ret (fun l hl => h l (by omega))
    · have hk : ∀ {K : Int32 → Option ((Nat → Int32) × (Nat → Int32))} {P : (Nat → Int32) × (Nat → Int32) → Prop}, (∀ v, v = nI (z_R1 i) → Ok (K v) P) → Ok (if nI i = 0 then K 1 else K 2) P := by
        intro K P hK
        refine Ok.ite (fun h0 => hK 1 ?_) (fun h0 => hK 2 ?_)
        · rw [z_eq0 (by omega)] at h0; rw [h0]; rfl
        · rw [z_eq0 (by omega)] at h0; unfold z_R1; rw [if_neg h0]; rfl
      refine Ok.k1 (fun v => v = nI (z_R1 i)) (fun y => ∀ l, l < 5 → y.1 l = nI (z_R1 l) ∧ y.2 l = nI (z_R1 l)) (fun v17 h17 => Ok.asn (by omega) (by decide) ?_) (fun K hK => hk hK)
      refine Ok.k1 (fun v => v = nI (z_R1 i)) (fun y => ∀ l, l < 5 → y.1 l = nI (z_R1 l) ∧ y.2 l = nI (z_R1 l)) (fun v19 h19 => Ok.asn (by omega) (by decide) ?_) (fun K hK => hk hK)
      rw [z_nm, nI_1]
      refine ih (i + 1) _ _ (by omega) (by omega) (fun l hl => ?_)
      by_cases e : l = i
      · subst e; rw [z_updS, z_updS]; exact ⟨h17, h19⟩
      · rw [z_updN e, z_updN e]; exact h l (by omega)
theorem t_init_L185 : ∀ n i (f : Nat → Int32), i ≤ 44 → 44 - i < n → (∀ q, q < i + 1 → f q = nI (z_za q)) → Ok (f_M_init_L185 n (nI i) f) (fun y => ∀ q, q < 45 → y q = nI (z_za q)) := by
  intro n
  induction n with
  | zero => intro i f _ h; omega
  | succ n ih =>
    intro i f hi hn h
    rw [f_M_init_L185]
    refine Ok.ite (fun hc => ?_) (fun hc => ?_)
    all_goals rw [z_i 44, nI_leI (by omega) (by omega)] at hc
    · exact Ok.ret (fun q hq => h q (by omega))
    · rw [z_ai (by omega) (by omega), m_zonesOf i (by omega), q_b1_s, nI_1, z_as (by omega) (by omega), h i (by omega), nI_add, ← z_za_succ i (by omega), z_nm]
      refine ih (i + 1) _ (by omega) (by omega) (fun q hq => ?_)
      by_cases e : q = i + 1
      · subst e; rw [z_updS]
      · rw [z_updN e]; exact h q (by omega)
theorem t_init (hN : 1000000 ≤ N) : Ok (f_M_init N) (fun y => MOK z_R1 z_R1 (z_pr z_R1) (z_pr z_R1) y.1 y.2.1 y.2.2.1 y.2.2.2.1 y.2.2.2.2) := by
  unfold f_M_init
  refine Ok.nm (Ok.b2 (t_init_L142 N 0 _ _ (by omega) (by omega) (fun l hl => absurd hl (by omega))) (fun f5 f6 h5 => Ok.nm (Ok.b1 (t_init_L185 N 0 _ (by omega) (by omega) (fun q hq => ?_)) (fun f10 h10 => ?_))))
  · have : q = 0 := by omega
    subst this
    rfl
  · have hkg : z_kg z_R1 z_R1 f5 f6 := z_R1_kg h5
    exact Ok.b2 (t_laysGrids hkg hN _ _) (fun f11 f12 h11 => Ok.ret (z_mok hkg h10 h11))
end MI0
end
