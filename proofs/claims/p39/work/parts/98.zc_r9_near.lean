/-! neighbours on both sides: the first to a side, how many -/
section R9
variable {R C H V : Nat → Nat} {rc cc br zc rw sh cr cq dp wd za : Nat → Int32} {N l : Nat}
def z_bF (H V r p i : Nat) : Nat := if i = 0 then z_rs H V (r - 1) + p * z_rl H V (r - 1) / z_rl H V r else if i = 2 then z_rs H V (r + 1) + p * z_rl H V (r + 1) / z_rl H V r else if i = 1 then z_rs H V r + (p + 1) % z_rl H V r else z_rs H V r + (p + (z_rl H V r - 1)) % z_rl H V r
def z_bM (H V r p i : Nat) : Nat := if i = 0 then (if r = 0 then 0 else ((p + 1) * z_rl H V (r - 1) - 1) / z_rl H V r - p * z_rl H V (r - 1) / z_rl H V r + 1) else if i = 2 then (if r = 44 * H + 1 then 0 else ((p + 1) * z_rl H V (r + 1) - 1) / z_rl H V r - p * z_rl H V (r + 1) / z_rl H V r + 1) else (if r = 0 ∨ r = 44 * H + 1 then 0 else 1)
theorem z_ceil {a d s : Nat} (ha : 1 ≤ a) (hd : 1 ≤ d) (hs : s ≤ (a - 1) / d) : (a + d - 1) / d - s = (a - 1) / d - s + 1 := by
  have e : a + d - 1 = (a - 1) + d := by omega
  rw [e, Nat.add_div_right _ hd]
  generalize (a - 1) / d = x at *
  show x + 1 - s = x - s + 1
  omega
theorem z_rl1 {H0 V0 r : Nat} (hH : 1 ≤ H0) (hV : 1 ≤ V0) (hr : r ≤ 44 * H0 + 1) : z_rl H0 V0 r = 1 ↔ (r = 0 ∨ r = 44 * H0 + 1) := by
  unfold z_rl
  by_cases h : r = 0 ∨ r = 44 * H0 + 1
  · rw [if_pos h]; exact ⟨fun _ => h, fun _ => rfl⟩
  · rw [if_neg h]
    have hq := z_q (r := r) (H := H0) (by omega) (by omega)
    have hb := z_bz_in _ hq
    have hm : 15 * 1 ≤ z_bz ((r - 1) / H0) * V0 := Nat.mul_le_mul hb.1 hV
    exact ⟨fun z => absurd z (by omega), fun z => absurd z h⟩
theorem r_laysBeside (g : MOK R C H V cr cq dp wd za) (hN : 50 ≤ N) (hl : l < 5) {r p : Nat} (hr : r ≤ 44 * H l + 1) (hp : p < z_rl (H l) (V l) r) (fb mb : Int32) {i : Nat} (hi : i < 4) : ∃ x, f_M_laysBeside N dp wd za fb mb (nI l) (nI (z_rs (H l) (V l) r + p)) (nI i) = some (x, nI (z_bM (H l) (V l) r p i)) ∧ (z_bM (H l) (V l) r p i ≠ 0 → x = nI (z_bF (H l) (V l) r p i)) := by
  have hps := g.2.2.pos l hl
  have la := z_rl_pos (V := V l) hps.1 hps.2 hr
  have up : ∀ b, b ≤ 44 * H l + 1 → ((p + 1) * z_rl (H l) (V l) b + z_rl (H l) (V l) r - 1) / z_rl (H l) (V l) r - p * z_rl (H l) (V l) b / z_rl (H l) (V l) r = ((p + 1) * z_rl (H l) (V l) b - 1) / z_rl (H l) (V l) r - p * z_rl (H l) (V l) b / z_rl (H l) (V l) r + 1 := by
    intro b hb
    have lb := z_rl_pos (V := V l) hps.1 hps.2 hb
    have e : (p + 1) * z_rl (H l) (V l) b = p * z_rl (H l) (V l) b + z_rl (H l) (V l) b := Nat.succ_mul _ _
    exact z_ceil (by omega) la.1 (Nat.div_le_div_right (by omega))
  rcases (show i = 0 ∨ i = 1 ∨ i = 2 ∨ i = 3 by omega) with rfl | rfl | rfl | rfl
  · by_cases h0 : r = 0
    · have e : z_bM (H l) (V l) r p 0 = 0 := by unfold z_bM; rw [if_pos rfl, if_pos h0]
      rw [e]
      exact ⟨_, m_lays0 g hN hl hr hp fb mb (Or.inl ⟨rfl, h0⟩), fun z => absurd rfl z⟩
    · have e : z_bM (H l) (V l) r p 0 = ((p + 1) * z_rl (H l) (V l) (r - 1) - 1) / z_rl (H l) (V l) r - p * z_rl (H l) (V l) (r - 1) / z_rl (H l) (V l) r + 1 := by unfold z_bM; rw [if_pos rfl, if_neg h0]
      have e2 : z_bF (H l) (V l) r p 0 = z_rs (H l) (V l) (r - 1) + p * z_rl (H l) (V l) (r - 1) / z_rl (H l) (V l) r := if_pos rfl
      have t := m_laysV g hN hl hr hp (b := r - 1) (by omega) fb mb (i := 0) (Or.inl ⟨rfl, by omega⟩)
      rw [up (r - 1) (by omega)] at t
      rw [e, e2]
      exact ⟨_, t, fun _ => rfl⟩
  · have t := m_laysH g hN hl hr hp fb mb (i := 1) (Or.inl ⟨rfl, rfl⟩)
    by_cases hc : r = 0 ∨ r = 44 * H l + 1
    · have e : z_bM (H l) (V l) r p 1 = 0 := by unfold z_bM; rw [if_neg (by omega), if_neg (by omega), if_pos hc]
      rw [if_pos ((z_rl1 hps.1 hps.2 hr).mpr hc)] at t
      rw [e]
      exact ⟨_, t, fun z => absurd rfl z⟩
    · have e : z_bM (H l) (V l) r p 1 = 1 := by unfold z_bM; rw [if_neg (by omega), if_neg (by omega), if_neg hc]
      have e2 : z_bF (H l) (V l) r p 1 = z_rs (H l) (V l) r + (p + 1) % z_rl (H l) (V l) r := by unfold z_bF; rw [if_neg (by omega), if_neg (by omega), if_pos rfl]
      rw [if_neg (fun z => hc ((z_rl1 hps.1 hps.2 hr).mp z))] at t
      rw [e, e2]
      exact ⟨_, t, fun _ => rfl⟩
  · by_cases h0 : r = 44 * H l + 1
    · have e : z_bM (H l) (V l) r p 2 = 0 := by unfold z_bM; rw [if_neg (by omega), if_pos rfl, if_pos h0]
      rw [e]
      exact ⟨_, m_lays0 g hN hl hr hp fb mb (Or.inr ⟨rfl, h0⟩), fun z => absurd rfl z⟩
    · have e : z_bM (H l) (V l) r p 2 = ((p + 1) * z_rl (H l) (V l) (r + 1) - 1) / z_rl (H l) (V l) r - p * z_rl (H l) (V l) (r + 1) / z_rl (H l) (V l) r + 1 := by unfold z_bM; rw [if_neg (by omega), if_pos rfl, if_neg h0]
      have e2 : z_bF (H l) (V l) r p 2 = z_rs (H l) (V l) (r + 1) + p * z_rl (H l) (V l) (r + 1) / z_rl (H l) (V l) r := by unfold z_bF; rw [if_neg (by omega), if_pos rfl]
      have t := m_laysV g hN hl hr hp (b := r + 1) (by omega) fb mb (i := 2) (Or.inr ⟨rfl, rfl⟩)
      rw [up (r + 1) (by omega)] at t
      rw [e, e2]
      exact ⟨_, t, fun _ => rfl⟩
  · have t := m_laysH g hN hl hr hp fb mb (i := 3) (Or.inr ⟨rfl, rfl⟩)
    by_cases hc : r = 0 ∨ r = 44 * H l + 1
    · have e : z_bM (H l) (V l) r p 3 = 0 := by unfold z_bM; rw [if_neg (by omega), if_neg (by omega), if_pos hc]
      rw [if_pos ((z_rl1 hps.1 hps.2 hr).mpr hc)] at t
      rw [e]
      exact ⟨_, t, fun z => absurd rfl z⟩
    · have e : z_bM (H l) (V l) r p 3 = 1 := by unfold z_bM; rw [if_neg (by omega), if_neg (by omega), if_neg hc]
      have e2 : z_bF (H l) (V l) r p 3 = z_rs (H l) (V l) r + (p + (z_rl (H l) (V l) r - 1)) % z_rl (H l) (V l) r := by unfold z_bF; rw [if_neg (by omega), if_neg (by omega), if_neg (by omega)]
      rw [if_neg (fun z => hc ((z_rl1 hps.1 hps.2 hr).mp z))] at t
      rw [e, e2]
      exact ⟨_, t, fun _ => rfl⟩
/-- the class's rows of neighbours, side by side -/
theorem r_lookAround (g : GOK R C H V rc cc br zc rw sh) (hl : l < 5) {r p : Nat} (hr : r ≤ 44 * H l + 1) (hp : p < z_rl (H l) (V l) r) (f m : Nat → Int32) : ∃ f' m', f_Spot_lookAround f m (nI l) (nI r) (nI (z_rs (H l) (V l) r)) (nI p) (nI (z_rl (H l) (V l) r)) (z_cap (H l) r) br zc rw sh = some (f', m') ∧ ∀ i, i < 4 → m' i = nI (z_bM (H l) (V l) r p i) ∧ (z_bM (H l) (V l) r p i ≠ 0 → f' i = nI (z_bF (H l) (V l) r p i)) := by
  have hv := g.2.hv hl
  have hps := g.2.pos l hl
  have hs := g.2.sh hl
  have la := z_rl_pos (V := V l) hps.1 hps.2 hr
  have hre := z_rs_end (V := V l) hps.1 hr
  have side : ∀ (i b : Nat) (q : Int32) (f m : Nat → Int32), (i = 0 ∧ q = nI r - 1 ∧ b = r - 1) ∨ (i = 2 ∧ q = nI (r + 1) ∧ b = r + 1) → ∃ f' m', f_Spot_lookAcross f m (nI l) (nI p) (nI (z_rl (H l) (V l) r)) br zc rw sh (nI i) q = some (f', m') ∧ (m' i = nI (z_bM (H l) (V l) r p i) ∧ (z_bM (H l) (V l) r p i ≠ 0 → f' i = nI (z_bF (H l) (V l) r p i))) ∧ ∀ j, j ≠ i → f' j = f j ∧ m' j = m j := by
    intro i b q f m hi
    rcases hi with ⟨rfl, rfl, rfl⟩ | ⟨rfl, rfl, rfl⟩
    · by_cases h0 : r = 0
      · have e : z_bM (H l) (V l) r p 0 = 0 := by unfold z_bM; rw [if_pos rfl, if_pos h0]
        rw [e]
        refine ⟨_, _, k_across0 g hl (by omega) f m _ _ _ (Or.inl (by subst h0; decide)), ⟨z_updS, fun z => absurd rfl z⟩, fun j hj => ⟨by rw [z_updN hj], by rw [z_updN hj]⟩⟩
      · have e : z_bM (H l) (V l) r p 0 = ((p + 1) * z_rl (H l) (V l) (r - 1) - 1) / z_rl (H l) (V l) r - p * z_rl (H l) (V l) (r - 1) / z_rl (H l) (V l) r + 1 := by unfold z_bM; rw [if_pos rfl, if_neg h0]
        have e2 : z_bF (H l) (V l) r p 0 = z_rs (H l) (V l) (r - 1) + p * z_rl (H l) (V l) (r - 1) / z_rl (H l) (V l) r := if_pos rfl
        obtain ⟨h1, -, -⟩ := k_across g hl hr hp (b := r - 1) (by omega) (i := 0) (by omega) f m
        rw [e, e2, z_sub1 (by omega)]
        exact ⟨_, _, h1, ⟨z_updS, fun _ => z_updS⟩, fun j hj => ⟨by rw [z_updN hj, z_updN hj], by rw [z_updN hj, z_updN hj]⟩⟩
    · by_cases h0 : r = 44 * H l + 1
      · have e : z_bM (H l) (V l) r p 2 = 0 := by unfold z_bM; rw [if_neg (by omega), if_pos rfl, if_pos h0]
        rw [e]
        refine ⟨_, _, k_across0 g hl (by omega) f m _ _ _ (Or.inr (by rw [h0])), ⟨z_updS, fun z => absurd rfl z⟩, fun j hj => ⟨by rw [z_updN hj], by rw [z_updN hj]⟩⟩
      · have e : z_bM (H l) (V l) r p 2 = ((p + 1) * z_rl (H l) (V l) (r + 1) - 1) / z_rl (H l) (V l) r - p * z_rl (H l) (V l) (r + 1) / z_rl (H l) (V l) r + 1 := by unfold z_bM; rw [if_neg (by omega), if_pos rfl, if_neg h0]
        have e2 : z_bF (H l) (V l) r p 2 = z_rs (H l) (V l) (r + 1) + p * z_rl (H l) (V l) (r + 1) / z_rl (H l) (V l) r := by unfold z_bF; rw [if_neg (by omega), if_pos rfl]
        obtain ⟨h1, -, -⟩ := k_across g hl hr hp (b := r + 1) (by omega) (i := 2) (by omega) f m
        rw [e, e2]
        exact ⟨_, _, h1, ⟨z_updS, fun _ => z_updS⟩, fun j hj => ⟨by rw [z_updN hj, z_updN hj], by rw [z_updN hj, z_updN hj]⟩⟩
  have hM : ∀ i, i = 1 ∨ i = 3 → (if r = 0 ∨ r = 44 * H l + 1 then 0 else 1 : Int32) = nI (z_bM (H l) (V l) r p i) := by
    intro i hi
    unfold z_bM
    rw [if_neg (show ¬ i = 0 by omega), if_neg (show ¬ i = 2 by omega)]
    split <;> rfl
  unfold f_Spot_lookAround
  obtain ⟨f1, m1, e1, p1, p5⟩ := side 0 (r - 1) (nI r - 1) f m (Or.inl ⟨rfl, rfl, rfl⟩)
  rw [show (0 : Int32) = nI 0 from rfl, e1, q_b2_s, show (1 : Int32) = nI 1 from rfl, k_along (r := r) (H0 := H l) (i := 1) (by omega) la.1 (by omega) hp la.1 (by omega), q_b2_s, hM 1 (Or.inl rfl)]
  obtain ⟨f3, m3, e3, q1, q5⟩ := side 2 (r + 1) (nI (r + 1)) (upd f1 1 (nI (z_rs (H l) (V l) r + (p + 1) % z_rl (H l) (V l) r))) (upd m1 1 (nI (z_bM (H l) (V l) r p 1))) (Or.inr ⟨rfl, rfl, rfl⟩)
  rw [nI_add, z_i 2, e3, q_b2_s, pk_sub la.1, z_i 3, k_along (r := r) (H0 := H l) (i := 3) (by omega) la.1 (by omega) hp (by omega) (by omega), q_b2_s, hM 3 (Or.inr rfl)]
  refine ⟨_, _, rfl, fun i hi => ?_⟩
  rcases (show i = 0 ∨ i = 1 ∨ i = 2 ∨ i = 3 by omega) with rfl | rfl | rfl | rfl
  · rw [z_updN (by omega), z_updN (by omega), (q5 0 (by omega)).1, (q5 0 (by omega)).2, z_updN (by omega), z_updN (by omega)]
    exact p1
  · rw [z_updN (by omega), z_updN (by omega), (q5 1 (by omega)).1, (q5 1 (by omega)).2, z_updS, z_updS]
    refine ⟨rfl, fun _ => ?_⟩
    unfold z_bF
    rw [if_neg (by omega), if_neg (by omega), if_pos rfl]
  · rw [z_updN (by omega), z_updN (by omega)]
    exact q1
  · rw [z_updS, z_updS]
    refine ⟨rfl, fun _ => ?_⟩
    unfold z_bF
    rw [if_neg (by omega), if_neg (by omega), if_neg (by omega)]
end R9
