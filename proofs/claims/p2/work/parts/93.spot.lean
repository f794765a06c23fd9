/-! a sheet of a level -/
section SPOTF
variable {R C H V : Nat → Nat} {rc cc br zc rw sh : Nat → Int32} {N l : Nat}
def z_cap (H r : Nat) : Int32 := if r = 0 ∨ r = 44 * H + 1 then 1 else 0
theorem k_isCapRow (g : GOK R C H V rc cc br zc rw sh) (hl : l < 5) {r : Nat} (hr : r ≤ 44 * H l + 1) : f_Grid_isCapRow rw (nI l) (nI r) = some (z_cap (H l) r) := by
  obtain ⟨-, -, e3, e4, e5, -⟩ := g.at hl
  have hv := g.2.hv hl
  have hp := g.2.pos l hl
  unfold f_Grid_isCapRow
  rw [z_j0]
  dsimp only
  unfold z_cap
  by_cases h0 : r = 0
  · subst h0; rw [if_pos (by decide), if_pos (Or.inl rfl)]
  · rw [if_neg (by rw [z_le0 (by omega)]; exact h0), z_ai hl (by omega), e5, z_sub1 (by omega)]
    by_cases h1 : r = 44 * H l + 1
    · rw [if_neg (by rw [nI_ltI (by omega) (by omega)]; omega), if_pos (Or.inr h1)]
    · rw [if_pos (by rw [nI_ltI (by omega) (by omega)]; omega), if_neg (by omega)]
theorem k_hasSheet (g : GOK R C H V rc cc br zc rw sh) (p q : Int32) : (f_Grid_hasSheet sh p q = some 0) ∨ (∃ l k, l < 5 ∧ p = nI l ∧ q = nI k ∧ k < 2130 * (H l * V l) + 2 ∧ f_Grid_hasSheet sh p q = some 1) := by
  unfold f_Grid_hasSheet
  rw [k_isLevel, q_b1_s]
  by_cases h : 0 ≤ p.toInt ∧ p.toInt ≤ 4
  · rw [if_pos h, if_neg (by decide)]
    obtain ⟨l, hl, rfl⟩ : ∃ l, l < 5 ∧ p = nI l := by
      obtain ⟨j, h1, h2⟩ := nI_of (x := p) (fun z => by have := z_lt.mp z; rw [show (0 : Int32).toInt = 0 from rfl] at this; omega)
      refine ⟨j, ?_, h2⟩
      rw [h2, nI_toInt h1] at h; omega
    obtain ⟨-, -, -, -, -, e6⟩ := g.at hl
    have hs := g.2.sh hl
    by_cases hq : q < 0
    · rw [if_pos hq]; exact Or.inl rfl
    · rw [if_neg hq, z_ai hl (by omega), e6]
      obtain ⟨k, h1, rfl⟩ := nI_of hq
      by_cases hk : 2130 * (H l * V l) + 2 ≤ k
      · rw [if_pos (by rw [nI_leI (by omega) h1]; exact hk)]; exact Or.inl rfl
      · rw [if_neg (by rw [nI_leI (by omega) h1]; exact hk)]
        exact Or.inr ⟨l, k, hl, rfl, rfl, by omega, rfl⟩
  · rw [if_neg h, if_pos rfl]; exact Or.inl rfl
/-- put(): row, place in the row -/
theorem k_put (g : GOK R C H V rc cc br zc rw sh) (hN : 50 ≤ N) (hl : l < 5) {k : Nat} (hk : k < 2130 * (H l * V l) + 2) (a1 a2 a3 a4 a5 a6 : Int32) : ∃ r p, f_Spot_put N a1 a2 a3 a4 a5 a6 br zc rw sh (nI l) (nI k) = some (nI l, nI r, nI (z_rs (H l) (V l) r), nI p, nI (z_rl (H l) (V l) r), z_cap (H l) r) ∧ r ≤ 44 * H l + 1 ∧ p < z_rl (H l) (V l) r ∧ k = z_rs (H l) (V l) r + p := by
  obtain ⟨r, h1, h2, h3, h4⟩ := k_rowOfKey g hN hl hk
  refine ⟨r, k - z_rs (H l) (V l) r, ?_, h2, by omega, by omega⟩
  unfold f_Spot_put
  rw [h1, q_b1_s, k_rowStart g hl h2, q_b1_s, k_rowLength g hl h2, q_b1_s, z_nm, k_isCapRow g hl h2, q_b1_s, pk_sub h3, z_bo (by unfold z_cap; split; exact Or.inr rfl; exact Or.inl rfl)]
/-- the neighbours to a side where there is a row -/
theorem k_across (g : GOK R C H V rc cc br zc rw sh) (hl : l < 5) {r p b : Nat} (hr : r ≤ 44 * H l + 1) (hp : p < z_rl (H l) (V l) r) (hb : b ≤ 44 * H l + 1) {i : Nat} (hi : i < 4) (f m : Nat → Int32) :
    f_Spot_lookAcross f m (nI l) (nI p) (nI (z_rl (H l) (V l) r)) br zc rw sh (nI i) (nI b) = some (upd (upd f i 0) i (nI (z_rs (H l) (V l) b + p * z_rl (H l) (V l) b / z_rl (H l) (V l) r)), upd (upd m i 0) i (nI (((p + 1) * z_rl (H l) (V l) b - 1) / z_rl (H l) (V l) r - p * z_rl (H l) (V l) b / z_rl (H l) (V l) r + 1))) ∧
    p * z_rl (H l) (V l) b / z_rl (H l) (V l) r ≤ ((p + 1) * z_rl (H l) (V l) b - 1) / z_rl (H l) (V l) r ∧ ((p + 1) * z_rl (H l) (V l) b - 1) / z_rl (H l) (V l) r < z_rl (H l) (V l) b := by
  obtain ⟨-, -, e3, e4, e5, -⟩ := g.at hl
  have hv := g.2.hv hl
  have hps := g.2.pos l hl
  have la := z_rl_pos hps.1 hps.2 hr
  have lb := z_rl_pos hps.1 hps.2 hb
  have hbe := z_rs_end (V := V l) hps.1 hb
  have hs := g.2.sh hl
  generalize hA : z_rl (H l) (V l) r = a at *
  generalize hB : z_rl (H l) (V l) b = t at *
  have m1 : p * t + t ≤ a * t := by
    have := Nat.mul_le_mul_right t (show p + 1 ≤ a by omega)
    rw [Nat.add_mul, Nat.one_mul] at this; exact this
  have m2 : a * t ≤ (60 * V l) * t := Nat.mul_le_mul_right t la.2
  have m3 : (60 * V l) * t ≤ (60 * V l) * (60 * V l) := Nat.mul_le_mul_left _ lb.2
  have m4 : (60 * V l) * (60 * V l) ≤ (60 * 9390) * (60 * 9390) := Nat.mul_le_mul (by omega) (by omega)
  have e1 : (p + 1) * t = p * t + t := by rw [Nat.add_mul, Nat.one_mul]
  have d1 : p * t / a ≤ ((p + 1) * t - 1) / a := Nat.div_le_div_right (by omega)
  have d2 : ((p + 1) * t - 1) / a < t := by
    apply Nat.div_lt_of_lt_mul
    omega
  refine ⟨?_, d1, d2⟩
  unfold f_Spot_lookAcross
  rw [z_as hi (by omega), z_as hi (by omega), if_neg (z_lt0 (by omega)), z_ai hl (by omega), e5, if_pos (by rw [nI_ltI (by omega) (by omega)]; omega), k_rowLength g hl hb, hB, q_b1_s, z_nm, nI_l (by omega), nI_l (by omega), nI_l (by omega), lN_mul, z_dvl (by omega) (by omega) (by omega), z_nm, nI_1, nI_l (by omega), lN_mul, z_l 1, lN_sub (by omega), z_dvl (by omega) (by omega) (by omega), z_nm, k_rowStart g hl hb, q_b1_s, lN_i, lN_i, nI_add, z_as hi (by omega), pk_sub d1, nI_1, z_as hi (by omega)]
theorem k_along {r p s by1 : Nat} {V0 H0 : Nat} {i : Nat} (hi : i < 4) {L : Nat} (hL : 1 ≤ L) (hL2 : L ≤ 600000) (hp : p < L) (hby : by1 ≤ L) (hs : s + L ≤ 20000002) (f m : Nat → Int32) :
    f_Spot_lookAlong f m (nI s) (nI p) (nI L) (z_cap H0 r) (nI i) (nI by1) = some (upd f i (nI (s + (p + by1) % L)), upd m i (if r = 0 ∨ r = 44 * H0 + 1 then 0 else 1)) := by
  have hm := Nat.mod_lt (p + by1) (show 0 < L by omega)
  unfold f_Spot_lookAlong
  rw [nI_add, z_rm (by omega) (by omega) (by omega), nI_add, z_as hi (by omega)]
  rw [z_j1]
  unfold z_cap
  split
  · rw [if_neg (by decide)]; dsimp only; rw [z_as hi (by omega)]
  · rw [if_pos rfl]; dsimp only; rw [z_as hi (by omega)]
end SPOTF
