/-! a sheet of a level -/
section SPOTF
variable {R C H V : Nat → Nat} {rc cc br zc rw sh : Nat → Int32} {N l : Nat}
def z_cap (H r : Nat) : Int32 := if r = 0 ∨ r = 44 * H + 1 then 1 else 0
theorem k_isCapRow (g : GOK R C H V rc cc br zc rw sh) (hl : l < 5) {r : Nat} (hr : r ≤ 44 * H l + 1) : f_Grid_isCapRow rw (nI l) (nI r) = some (z_cap (H l) r) := by
  obtain ⟨-, -, e3, e4, e5, -⟩ := g.at hl
  have hv := g.2.hv hl
  have hp := g.2.pos l hl
  unfold f_Grid_isCapRow
  rw [z_j0]
  unfold z_cap
  by_cases h0 : r = 0
  · subst h0; rw [if_pos (by decide), if_pos (Or.inl rfl)]
  · rw [if_neg (by rw [z_le0 (by omega)]; exact h0), z_ai hl (by omega), e5, z_sub1 (by omega)]
    by_cases h1 : r = 44 * H l + 1
    · rw [if_neg (by rw [nI_ltI (by omega) (by omega)]; omega), if_pos (Or.inr h1)]
    · rw [if_pos (by rw [nI_ltI (by omega) (by omega)]; omega), if_neg (by omega)]
theorem k_hasSheet (g : GOK R C H V rc cc br zc rw sh) (p q : Int32) : (f_Grid_hasSheet sh p q = some 0) ∨ (∃ l k, l < 5 ∧ p = nI l ∧ q = nI k ∧ k < 2130 * (H l * V l) + 2 ∧ f_Grid_hasSheet sh p q = some 1) := by
  unfold f_Grid_hasSheet
  rw [k_isLevel, q_b1_s]
  by_cases h : 0 ≤ p.toInt ∧ p.toInt ≤ 4
  · rw [if_pos h, if_neg (by decide)]
    obtain ⟨l, hl, rfl⟩ : ∃ l, l < 5 ∧ p = nI l := by
      obtain ⟨j, h1, h2⟩ := nI_of (x := p) (fun z => by have := z_lt.mp z; rw [show (0 : Int32).toInt = 0 from rfl] at this; omega)
      refine ⟨j, ?_, h2⟩
      rw [h2, nI_toInt h1] at h; omega
    obtain ⟨-, -, -, -, -, e6⟩ := g.at hl
    have hs := g.2.sh hl
    by_cases hq : q < 0
    · rw [if_pos hq]; exact Or.inl rfl
    · rw [if_neg hq, z_ai hl (by omega), e6]
      obtain ⟨k, h1, rfl⟩ := nI_of hq
      by_cases hk : 2130 * (H l * V l) + 2 ≤ k
      · rw [if_pos (by rw [nI_leI (by omega) h1]; exact hk)]; exact Or.inl rfl
      · rw [if_neg (by rw [nI_leI (by omega) h1]; exact hk)]
        exact Or.inr ⟨l, k, hl, rfl, rfl, by omega, rfl⟩
  · rw [if_neg h, if_pos rfl]; exact Or.inl rfl
/-- put(): row, place in the row -/
theorem k_put (g : GOK R C H V rc cc br zc rw sh) (hN : 50 ≤ N) (hl : l < 5) {k : Nat} (hk : k < 2130 * (H l * V l) + 2) (a1 a2 a3 a4 a5 a6 : Int32) : ∃ r p, f_Spot_put N a1 a2 a3 a4 a5 a6 br zc rw sh (nI l) (nI k) = some (nI l, nI r, nI (z_rs (H l) (V l) r), nI p, nI (z_rl (H l) (V l) r), z_cap (H l) r) ∧ r ≤ 44 * H l + 1 ∧ p < z_rl (H l) (V l) r ∧ k = z_rs (H l) (V l) r + p := by
  obtain ⟨r, h1, h2, h3, h4⟩ := k_rowOfKey g hN hl hk
  refine ⟨r, k - z_rs (H l) (V l) r, ?_, h2, by omega, by omega⟩
  unfold f_Spot_put
  rw [h1, q_b1_s, k_rowStart g hl h2, q_b1_s, k_rowLength g hl h2, q_b1_s, z_nm, k_isCapRow g hl h2, q_b1_s, pk_sub h3, z_bo (by unfold z_cap; split; exact Or.inr rfl; exact Or.inl rfl)]
/-- the neighbours to a side where there is a row -/
theorem k_across (g : GOK R C H V rc cc br zc rw sh) (hl : l < 5) {r p b : Nat} (hr : r ≤ 44 * H l + 1) (hp : p < z_rl (H l) (V l) r) (hb : b ≤ 44 * H l + 1) {i : Nat} (hi : i < 4) (f m : Nat → Int32) :
    f_Spot_lookAcross f m (nI l) (nI p) (nI (z_rl (H l) (V l) r)) br zc rw sh (nI i) (nI b) = some (upd (upd f i 0) i (nI (z_rs (H l) (V l) b + p * z_rl (H l) (V l) b / z_rl (H l) (V l) r)), upd (upd m i 0) i (nI (((p + 1) * z_rl (H l) (V l) b - 1) / z_rl (H l) (V l) r - p * z_rl (H l) (V l) b / z_rl (H l) (V l) r + 1))) ∧
    p * z_rl (H l) (V l) b / z_rl (H l) (V l) r ≤ ((p + 1) * z_rl (H l) (V l) b - 1) / z_rl (H l) (V l) r ∧ ((p + 1) * z_rl (H l) (V l) b - 1) / z_rl (H l) (V l) r < z_rl (H l) (V l) b := by
  obtain ⟨-, -, e3, e4, e5, -⟩ := g.at hl
  have hv := g.2.hv hl
  have hps := g.2.pos l hl
  have la := z_rl_pos hps.1 hps.2 hr
  have lb := z_rl_pos hps.1 hps.2 hb
  have hbe := z_rs_end (V := V l) hps.1 hb
  have hs := g.2.sh hl
  generalize hA : z_rl (H l) (V l) r = a at *
  generalize hB : z_rl (H l) (V l) b = t at *
  have m1 : p * t + t ≤ a * t := by
    have := Nat.mul_le_mul_right t (show p + 1 ≤ a by omega)
    rw [Nat.add_mul, Nat.one_mul] at this; exact this
  have m2 : a * t ≤ (60 * V l) * t := Nat.mul_le_mul_right t la.2
  have m3 : (60 * V l) * t ≤ (60 * V l) * (60 * V l) := Nat.mul_le_mul_left _ lb.2
  have m4 : (60 * V l) * (60 * V l) ≤ (60 * 9390) * (60 * 9390) := Nat.mul_le_mul (by omega) (by omega)
  have e1 : (p + 1) * t = p * t + t := by rw [Nat.add_mul, Nat.one_mul]
  have d1 : p * t / a ≤ ((p + 1) * t - 1) / a := Nat.div_le_div_right (by omega)
  have d2 : ((p + 1) * t - 1) / a < t := by
    apply Nat.div_lt_of_lt_mul
    omega
  refine ⟨?_, d1, d2⟩
  unfold f_Spot_lookAcross
  rw [z_as hi (by omega), z_as hi (by omega), if_neg (z_lt0 (by omega)), z_ai hl (by omega), e5, if_pos (by rw [nI_ltI (by omega) (by omega)]; omega), k_rowLength g hl hb, hB, q_b1_s, z_nm, nI_l (by omega), nI_l (by omega), nI_l (by omega), lN_mul, z_dvl (by omega) (by omega) (by omega), z_nm, nI_1, nI_l (by omega), lN_mul, z_l 1, lN_sub (by omega), z_dvl (by omega) (by omega) (by omega), z_nm, k_rowStart g hl hb, q_b1_s, lN_i, lN_i, nI_add, z_as hi (by omega), pk_sub d1, nI_1, z_as hi (by omega)]
theorem k_along {r p s by1 : Nat} {H0 : Nat} {i : Nat} (hi : i < 4) {L : Nat} (hL : 1 ≤ L) (hL2 : L ≤ 600000) (hp : p < L) (hby : by1 ≤ L) (hs : s + L ≤ 20000002) (f m : Nat → Int32) :
    f_Spot_lookAlong f m (nI s) (nI p) (nI L) (z_cap H0 r) (nI i) (nI by1) = some (upd f i (nI (s + (p + by1) % L)), upd m i (if r = 0 ∨ r = 44 * H0 + 1 then 0 else 1)) := by
  have hm := Nat.mod_lt (p + by1) (show 0 < L by omega)
  unfold f_Spot_lookAlong
  rw [nI_add, z_rm (by omega) (by omega) (by omega), nI_add, z_as hi (by omega)]
  rw [z_j1]
  unfold z_cap
  split
  · rw [if_neg (by decide)]; dsimp only; rw [z_as hi (by omega)]
  · rw [if_pos rfl]; dsimp only; rw [z_as hi (by omega)]
/-- the neighbours where there is no row -/
theorem k_across0 (g : GOK R C H V rc cc br zc rw sh) (hl : l < 5) {i : Nat} (hi : i < 4) (f m : Nat → Int32) (a b q : Int32) (hq : q < 0 ∨ q = nI (44 * H l + 2)) : f_Spot_lookAcross f m (nI l) a b br zc rw sh (nI i) q = some (upd f i 0, upd m i 0) := by
  obtain ⟨-, -, e3, e4, e5, -⟩ := g.at hl
  have hv := g.2.hv hl
  unfold f_Spot_lookAcross
  rw [z_as hi (by omega), z_as hi (by omega)]
  rcases hq with h | h
  · rw [if_pos h]
  · rw [h, if_neg (z_lt0 (by omega)), z_ai hl (by omega), e5, if_neg (by rw [nI_ltI (by omega) (by omega)]; omega)]
/-- what lies around a sheet: to each side from which key on, how many -/
def z_FM (tot : Nat) (f m : Nat → Int32) (F M : Nat → Nat) : Prop := (∀ i, i < 4 → f i = nI (F i) ∧ m i = nI (M i) ∧ F i + M i ≤ tot ∧ M i ≤ 600000) ∧ (M 1 = M 3 ∧ M 1 ≤ 1)
theorem z_tot_in {H0 V0 : Nat} (hH : 1 ≤ H0) (hV : 1 ≤ V0) : 2132 ≤ 2130 * (H0 * V0) + 2 := by
  have := Nat.mul_pos hH hV
  omega
theorem k_lookAround (g : GOK R C H V rc cc br zc rw sh) (hl : l < 5) {r p : Nat} (hr : r ≤ 44 * H l + 1) (hp : p < z_rl (H l) (V l) r) (f m : Nat → Int32) :
    ∃ f' m' F M, f_Spot_lookAround f m (nI l) (nI r) (nI (z_rs (H l) (V l) r)) (nI p) (nI (z_rl (H l) (V l) r)) (z_cap (H l) r) br zc rw sh = some (f', m') ∧ z_FM (2130 * (H l * V l) + 2) f' m' F M := by
  have hv := g.2.hv hl
  have hps := g.2.pos l hl
  have hs := g.2.sh hl
  have la := z_rl_pos hps.1 hps.2 hr
  have hre := z_rs_end (V := V l) hps.1 hr
  -- one side with a row or none
  have side : ∀ (i b : Nat) (q : Int32) (f m : Nat → Int32), i < 4 → ((b ≤ 44 * H l + 1 ∧ q = nI b) ∨ (q < 0 ∨ q = nI (44 * H l + 2))) → ∃ f' m' a c, f_Spot_lookAcross f m (nI l) (nI p) (nI (z_rl (H l) (V l) r)) br zc rw sh (nI i) q = some (f', m') ∧ f' i = nI a ∧ m' i = nI c ∧ a + c ≤ 2130 * (H l * V l) + 2 ∧ c ≤ 600000 ∧ ∀ j, j ≠ i → f' j = f j ∧ m' j = m j := by
    intro i b q f m hi hq
    rcases hq with ⟨hb, rfl⟩ | hq
    · obtain ⟨h1, h2, h3⟩ := k_across g hl hr hp hb hi f m
      have lb := z_rl_pos hps.1 hps.2 hb
      have hbe := z_rs_end (V := V l) hps.1 hb
      generalize p * z_rl (H l) (V l) b / z_rl (H l) (V l) r = s1 at h1 h2 h3
      generalize ((p + 1) * z_rl (H l) (V l) b - 1) / z_rl (H l) (V l) r = s2 at h1 h2 h3
      refine ⟨_, _, _, _, h1, z_updS, z_updS, by omega, by omega, fun j hj => ⟨by rw [z_updN hj, z_updN hj], by rw [z_updN hj, z_updN hj]⟩⟩
    · refine ⟨_, _, 0, 0, k_across0 g hl hi f m _ _ _ hq, z_updS, z_updS, by omega, by omega, fun j hj => ⟨by rw [z_updN hj], by rw [z_updN hj]⟩⟩
  unfold f_Spot_lookAround
  obtain ⟨f1, m1, a1, c1, e1, p1, p2, p3, p4, p5⟩ := side 0 (r - 1) (nI r - 1) f m (by omega) (by
    by_cases h0 : r = 0
    · right; left; subst h0; decide
    · left; exact ⟨by omega, z_sub1 (by omega)⟩)
  rw [show (0 : Int32) = nI 0 from rfl, e1, q_b2_s, show (1 : Int32) = nI 1 from rfl, k_along (r := r) (H0 := H l) (i := 1) (by omega) la.1 (by omega) hp la.1 (by omega), q_b2_s]
  generalize hf2 : upd f1 1 (nI (z_rs (H l) (V l) r + (p + 1) % z_rl (H l) (V l) r)) = f2
  generalize hm2 : upd m1 1 (if r = 0 ∨ r = 44 * H l + 1 then 0 else 1) = m2
  obtain ⟨f3, m3, a3, c3, e3, q1, q2, q3, q4, q5⟩ := side 2 (r + 1) (nI (r + 1)) f2 m2 (by omega) (by
    by_cases h0 : r = 44 * H l + 1
    · right; right; rw [h0]
    · left; exact ⟨by omega, rfl⟩)
  rw [nI_add, z_i 2, e3, q_b2_s, pk_sub la.1, z_i 3, k_along (r := r) (H0 := H l) (i := 3) (by omega) la.1 (by omega) hp (by omega) (by omega), q_b2_s]
  have hm1 := Nat.mod_lt (p + 1) (show 0 < z_rl (H l) (V l) r by omega)
  have hm3 := Nat.mod_lt (p + (z_rl (H l) (V l) r - 1)) (show 0 < z_rl (H l) (V l) r by omega)
  generalize hcap : (if r = 0 ∨ r = 44 * H l + 1 then 0 else 1 : Nat) = cp
  have hcp : cp ≤ 1 := by rw [← hcap]; split <;> omega
  have hcpI : (if r = 0 ∨ r = 44 * H l + 1 then 0 else 1 : Int32) = nI cp := by rw [← hcap]; split <;> rfl
  refine ⟨_, _, fun i => if i = 0 then a1 else if i = 1 then z_rs (H l) (V l) r + (p + 1) % z_rl (H l) (V l) r else if i = 2 then a3 else z_rs (H l) (V l) r + (p + (z_rl (H l) (V l) r - 1)) % z_rl (H l) (V l) r, fun i => if i = 0 then c1 else if i = 2 then c3 else cp, rfl, ?_, ?_⟩
  · intro i hi
    rcases (show i = 0 ∨ i = 1 ∨ i = 2 ∨ i = 3 by omega) with rfl | rfl | rfl | rfl
    · refine ⟨?_, ?_, ?_, ?_⟩
      · rw [z_updN (by omega), (q5 0 (by omega)).1, ← hf2, z_updN (by omega), p1]; rfl
      · rw [z_updN (by omega), (q5 0 (by omega)).2, ← hm2, z_updN (by omega), p2]; rfl
      · simpa using p3
      · simpa using p4
    · refine ⟨?_, ?_, ?_, ?_⟩
      · rw [z_updN (by omega), (q5 1 (by omega)).1, ← hf2, z_updS]; rfl
      · rw [z_updN (by omega), (q5 1 (by omega)).2, ← hm2, z_updS, hcpI]; rfl
      · simp only [show ¬ (1 : Nat) = 0 by omega, show ¬ (1 : Nat) = 2 by omega, if_false, if_true]; omega
      · simp only [show ¬ (1 : Nat) = 0 by omega, show ¬ (1 : Nat) = 2 by omega, if_false]; omega
    · refine ⟨?_, ?_, ?_, ?_⟩
      · rw [z_updN (by omega), q1]; rfl
      · rw [z_updN (by omega), q2]; rfl
      · simpa using q3
      · simpa using q4
    · refine ⟨?_, ?_, ?_, ?_⟩
      · rw [z_updS]; rfl
      · rw [z_updS, hcpI]; rfl
      · simp only [show ¬ (3 : Nat) = 0 by omega, show ¬ (3 : Nat) = 1 by omega, show ¬ (3 : Nat) = 2 by omega, if_false]; omega
      · simp only [show ¬ (3 : Nat) = 0 by omega, show ¬ (3 : Nat) = 2 by omega, if_false]; omega
  · exact ⟨rfl, by simpa using hcp⟩
theorem k_allBeside {tot : Nat} {f m : Nat → Int32} {F M : Nat → Nat} (h : z_FM tot f m F M) : f_Spot_allBeside m = some (nI (M 0 + M 1 + M 2 + M 3)) := by
  unfold f_Spot_allBeside
  rw [show (0 : Int32) = nI 0 from rfl, z_ai (by omega) (by omega), z_i 1, z_ai (by omega) (by omega), z_i 2, z_ai (by omega) (by omega), z_i 3, z_ai (by omega) (by omega), (h.1 0 (by omega)).2.1, (h.1 1 (by omega)).2.1, (h.1 2 (by omega)).2.1, (h.1 3 (by omega)).2.1, nI_add, nI_add, nI_add]
theorem k_besideKey {tot : Nat} {f m : Nat → Int32} {F M : Nat → Nat} (h : z_FM tot f m F M) (htot : tot ≤ 20000000) {i : Nat} (hi : i < M 0 + M 1 + M 2 + M 3) : ∃ k, f_Spot_besideKey f m (nI i) = some (nI k) ∧ k < tot := by
  obtain ⟨hh, h13, h1⟩ := h
  obtain ⟨f0, m0, s0, b0⟩ := hh 0 (by omega)
  obtain ⟨f1, m1, s1, b1⟩ := hh 1 (by omega)
  obtain ⟨f2, m2, s2, b2⟩ := hh 2 (by omega)
  obtain ⟨f3, m3, s3, b3⟩ := hh 3 (by omega)
  unfold f_Spot_besideKey
  rw [show (0 : Int32) = nI 0 from rfl, z_ai (by omega) (by omega), m0]
  by_cases c0 : M 0 ≤ i
  · rw [if_pos (by rw [nI_leI (by omega) (by omega)]; exact c0), z_ai (by omega) (by omega), m0, z_nm, pk_sub c0, z_i 1, z_ai (by omega) (by omega), z_i 3, z_ai (by omega) (by omega), m1, m3, nI_add]
    by_cases c1 : i - M 0 < M 1 + M 3
    · rw [if_pos (by rw [nI_ltI (by omega) (by omega)]; exact c1)]
      by_cases c2 : i - M 0 = 0
      · rw [if_pos (by rw [c2]), z_ai (by omega) (by omega), z_ai (by omega) (by omega), z_nm, f1, f3]
        by_cases c3 : nI (F 3) < nI (F 1)
        · rw [if_pos c3]; exact ⟨_, rfl, by omega⟩
        · rw [if_neg c3]; exact ⟨_, rfl, by omega⟩
      · rw [if_neg (by rw [nI_eq (by omega) (by omega)]; exact c2), z_ai (by omega) (by omega), z_ai (by omega) (by omega), z_nm, f1, f3]
        by_cases c3 : nI (F 1) < nI (F 3)
        · rw [if_pos c3]; exact ⟨_, rfl, by omega⟩
        · rw [if_neg c3]; exact ⟨_, rfl, by omega⟩
    · rw [if_neg (by rw [nI_ltI (by omega) (by omega)]; exact c1), z_i 2, z_ai (by omega) (by omega), z_ai (by omega) (by omega), z_ai (by omega) (by omega), f2, m1, m3, nI_add, pk_sub (by omega), pk_sub (by omega)]
      exact ⟨_, rfl, by omega⟩
  · rw [if_neg (by rw [nI_leI (by omega) (by omega)]; exact c0), z_ai (by omega) (by omega), f0, nI_add]
    exact ⟨_, rfl, by omega⟩
end SPOTF
