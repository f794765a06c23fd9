/-! answers: middle, edge -/
section S8A
variable {R C H V : Nat → Nat} {rc cc br zc rw sh cr cq dp wd za : Nat → Int32} {sv : l_T} {N l t : Nat}
/-- the edges' tops (0 south, 1 north, 2 west, 3 east), their bottoms -/
def z_eT (H : Nat → Nat) (l ro pl e : Nat) : Int := if e = 0 then (if ro = 0 then 316800 else if ro = 44 * H l + 1 then -324000 else 14400 * (22 * (H l : Int) - ro)) else if e = 1 then (if ro = 0 then 324000 else if ro = 44 * H l + 1 then -316800 else 14400 * (22 * (H l : Int) - ro) + 14400) else if e = 2 then 1296000 * (pl : Int) else 1296000 * (pl : Int) + 1296000
def z_eB (H V : Nat → Nat) (l ro e : Nat) : Nat := if e < 2 then (if ro = 0 ∨ ro = 44 * H l + 1 then 1 else H l) else z_rl (H l) (V l) ro
theorem z_eT0 {H : Nat → Nat} {ro pl : Nat} : z_eT H l ro pl 0 = if ro = 0 then 316800 else if ro = 44 * H l + 1 then -324000 else 14400 * (22 * (H l : Int) - ro) := if_pos rfl
theorem z_eT1 {H : Nat → Nat} {ro pl : Nat} : z_eT H l ro pl 1 = if ro = 0 then 324000 else if ro = 44 * H l + 1 then -316800 else 14400 * (22 * (H l : Int) - ro) + 14400 := (if_neg (show ¬ (1 : Nat) = 0 by omega)).trans (if_pos rfl)
theorem z_eT2 {H : Nat → Nat} {ro pl : Nat} : z_eT H l ro pl 2 = 1296000 * (pl : Int) := (if_neg (show ¬ (2 : Nat) = 0 by omega)).trans ((if_neg (show ¬ (2 : Nat) = 1 by omega)).trans (if_pos rfl))
theorem z_eT3 {H : Nat → Nat} {ro pl : Nat} : z_eT H l ro pl 3 = 1296000 * (pl : Int) + 1296000 := (if_neg (show ¬ (3 : Nat) = 0 by omega)).trans ((if_neg (show ¬ (3 : Nat) = 1 by omega)).trans (if_neg (show ¬ (3 : Nat) = 2 by omega)))
theorem z_eBlo {H V : Nat → Nat} {ro e : Nat} (h : e < 2) : z_eB H V l ro e = if ro = 0 ∨ ro = 44 * H l + 1 then 1 else H l := if_pos h
theorem z_eBhi {H V : Nat → Nat} {ro e : Nat} (h : ¬ e < 2) : z_eB H V l ro e = z_rl (H l) (V l) ro := if_neg h
theorem z_capY {H0 ro : Nat} (h : ro = 0 ∨ ro = 44 * H0 + 1) : z_cap H0 ro = 1 := if_pos h
theorem z_capN {H0 ro : Nat} (h : ¬ (ro = 0 ∨ ro = 44 * H0 + 1)) : z_cap H0 ro = 0 := if_neg h
theorem z_updLS {f : Nat → Int64} {k : Nat} {x : Int64} : vp_updL f k x k = x := if_pos rfl
theorem z_updLN {f : Nat → Int64} {k j : Nat} {x : Int64} (h : j ≠ k) : vp_updL f k x j = f j := if_neg h
theorem z_toL64 {n : Nat} (h : n < 2 ^ 31) : (nI n).toInt64 = lN n := by
  apply Int64.toInt_inj.mp
  rw [z_i64 h, lN_toInt h]
theorem z_ofI64 {x : Int64} {z : Int} (h : x.toInt = z) : x = Int64.ofInt z := by
  rw [← h, Int64.ofInt_toInt]
theorem z_ofT {z : Int} (h1 : -9223372036854775808 ≤ z) (h2 : z < 9223372036854775808) : (Int64.ofInt z).toInt = z := Int64.toInt_ofInt_of_le (by omega) (by omega)
theorem z_eTb {H0 : Nat → Nat} {ro pl e : Nat} (hH : H0 l ≤ 9390) (hr : ro ≤ 44 * H0 l + 1) (hp : pl ≤ 563400) : -1000000000000 ≤ z_eT H0 l ro pl e ∧ z_eT H0 l ro pl e ≤ 1000000000000 := by
  unfold z_eT
  split
  · split
    · omega
    · split <;> omega
  · split
    · split
      · omega
      · split <;> omega
    · split <;> omega
theorem z_eBb (g : CUT R C H V) (hl : l < 5) {ro e : Nat} (hr : ro ≤ 44 * H l + 1) : 1 ≤ z_eB H V l ro e ∧ z_eB H V l ro e ≤ 563400 := by
  have hv := g.hv hl
  have hps := g.pos l hl
  have la := z_rl_pos (V := V l) hps.1 hps.2 hr
  unfold z_eB
  split
  · split <;> omega
  · omega
theorem r_edgeTop (g : GOK R C H V rc cc br zc rw sh) (hl : l < 5) {ro pl e : Nat} (hr : ro ≤ 44 * H l + 1) (hp : pl < z_rl (H l) (V l) ro) (he : e < 4) : f_Spot_edgeTop (nI l) (nI ro) (nI pl) (z_cap (H l) ro) br (nI e) = some (Int64.ofInt (z_eT H l ro pl e)) := by
  have hv := g.2.hv hl
  have hps := g.2.pos l hl
  have la := z_rl_pos (V := V l) hps.1 hps.2 hr
  have t1 : (14400 : Int64).toInt = 14400 := rfl
  have t2 : (1296000 : Int64).toInt = 1296000 := rfl
  have t3 : (22 : Int64).toInt = 22 := rfl
  have t4 : (1 : Int64).toInt = 1 := rfl
  unfold f_Spot_edgeTop
  rcases (show e = 0 ∨ e = 1 ∨ e = 2 ∨ e = 3 by omega) with rfl | rfl | rfl | rfl
  · rw [z_eT0, if_pos (show nI 0 < 2 by decide)]
    by_cases hc : ro = 0 ∨ ro = 44 * H l + 1
    · rw [z_capY hc, if_neg (show ¬ (1 : Int32) = 0 by decide), z_j1]
      by_cases h0 : ro = 0
      · rw [if_pos h0, if_pos (show nI ro = 0 by rw [h0]; rfl)]
        dsimp only
        rw [if_pos (show nI 0 = 0 from rfl)]; rfl
      · rw [if_neg h0, if_pos (show ro = 44 * H l + 1 by omega), if_neg (show ¬ nI ro = 0 by rw [z_eq0 (by omega)]; exact h0)]
        dsimp only
        rw [if_pos (show nI 0 = 0 from rfl)]; rfl
    · have b1 : ((22 : Int64) * lN (H l)).toInt = 22 * (H l : Int) := by
        rw [fb_mulL (by rw [t3, lN_toInt (by omega)]; omega) (by rw [t3, lN_toInt (by omega)]; omega), t3, lN_toInt (by omega)]
      have b2 : ((22 : Int64) * lN (H l) - lN ro).toInt = 22 * (H l : Int) - ro := by
        rw [fb_subL (by rw [b1, lN_toInt (by omega)]; omega) (by rw [b1, lN_toInt (by omega)]; omega), b1, lN_toInt (by omega)]
      rw [z_capN hc, if_pos (show (0 : Int32) = 0 from rfl), z_ai hl (by omega), (g.at hl).2.2.1, z_nm, z_toL64 (by omega), z_toL64 (by omega), if_pos (show nI 0 = 0 from rfl), if_neg (show ¬ ro = 0 by omega), if_neg (show ¬ ro = 44 * H l + 1 by omega)]
      refine z_some (z_ofI64 ?_)
      rw [fb_mulL (by rw [t1, b2]; omega) (by rw [t1, b2]; omega), t1, b2]
  · rw [z_eT1, if_pos (show nI 1 < 2 by decide)]
    by_cases hc : ro = 0 ∨ ro = 44 * H l + 1
    · rw [z_capY hc, if_neg (show ¬ (1 : Int32) = 0 by decide), z_j1]
      by_cases h0 : ro = 0
      · rw [if_pos h0, if_pos (show nI ro = 0 by rw [h0]; rfl)]
        dsimp only
        rw [if_neg (show ¬ nI 1 = 0 by decide)]; rfl
      · rw [if_neg h0, if_pos (show ro = 44 * H l + 1 by omega), if_neg (show ¬ nI ro = 0 by rw [z_eq0 (by omega)]; exact h0)]
        dsimp only
        rw [if_neg (show ¬ nI 1 = 0 by decide)]; rfl
    · have b1 : ((22 : Int64) * lN (H l)).toInt = 22 * (H l : Int) := by
        rw [fb_mulL (by rw [t3, lN_toInt (by omega)]; omega) (by rw [t3, lN_toInt (by omega)]; omega), t3, lN_toInt (by omega)]
      have b2 : ((22 : Int64) * lN (H l) - lN ro).toInt = 22 * (H l : Int) - ro := by
        rw [fb_subL (by rw [b1, lN_toInt (by omega)]; omega) (by rw [b1, lN_toInt (by omega)]; omega), b1, lN_toInt (by omega)]
      have b3 : ((22 : Int64) * lN (H l) - lN ro + 1).toInt = 22 * (H l : Int) - ro + 1 := by
        rw [fb_addL (by rw [b2, t4]; omega) (by rw [b2, t4]; omega), b2, t4]
      rw [z_capN hc, if_pos (show (0 : Int32) = 0 from rfl), z_ai hl (by omega), (g.at hl).2.2.1, z_nm, z_toL64 (by omega), z_toL64 (by omega), if_neg (show ¬ nI 1 = 0 by decide), if_neg (show ¬ ro = 0 by omega), if_neg (show ¬ ro = 44 * H l + 1 by omega)]
      refine z_some (z_ofI64 ?_)
      rw [fb_mulL (by rw [t1, b3]; omega) (by rw [t1, b3]; omega), t1, b3]
      omega
  · rw [z_eT2, if_neg (show ¬ nI 2 < 2 by decide), if_pos (show nI 2 = 2 from rfl), z_toL64 (by omega)]
    refine z_some (z_ofI64 ?_)
    rw [fb_mulL (by rw [t2, lN_toInt (by omega)]; omega) (by rw [t2, lN_toInt (by omega)]; omega), t2, lN_toInt (by omega)]
  · rw [z_eT3, if_neg (show ¬ nI 3 < 2 by decide), if_neg (show ¬ nI 3 = 2 by decide), nI_1, z_toL64 (by omega)]
    refine z_some (z_ofI64 ?_)
    rw [fb_mulL (by rw [t2, lN_toInt (by omega)]; omega) (by rw [t2, lN_toInt (by omega)]; omega), t2, lN_toInt (by omega)]
    omega
theorem r_edgeBottom (g : GOK R C H V rc cc br zc rw sh) (hl : l < 5) {ro e : Nat} (hr : ro ≤ 44 * H l + 1) (he : e < 4) : f_Spot_edgeBottom (nI l) (nI (z_rl (H l) (V l) ro)) (z_cap (H l) ro) br (nI e) = some (lN (z_eB H V l ro e)) := by
  have hv := g.2.hv hl
  have hps := g.2.pos l hl
  have la := z_rl_pos (V := V l) hps.1 hps.2 hr
  unfold f_Spot_edgeBottom
  by_cases c : e < 2
  · rw [z_eBlo c, z_i 2, if_pos (show nI e < nI 2 by rw [nI_ltI (by omega) (by omega)]; exact c)]
    by_cases hc : ro = 0 ∨ ro = 44 * H l + 1
    · rw [if_pos hc, z_capY hc, if_neg (show ¬ (1 : Int32) = 0 by decide)]; rfl
    · rw [if_neg hc, z_capN hc, if_pos (show (0 : Int32) = 0 from rfl), z_ai hl (by omega), (g.at hl).2.2.1, z_toL64 (by omega)]
  · rw [z_eBhi c, z_i 2, if_neg (show ¬ nI e < nI 2 by rw [nI_ltI (by omega) (by omega)]; exact c), z_toL64 (by omega)]
/-- the reference's edges -/
theorem r_laysEdges (g : MOK R C H V cr cq dp wd za) (hN : 50 ≤ N) (hl : l < 5) {k ro pl : Nat} (hr : ro ≤ 44 * H l + 1) (hp : pl < z_rl (H l) (V l) ro) (hk2 : k = z_rs (H l) (V l) ro + pl) (bl bo : Int64) (ed : Nat → Int64) : Ok (f_M_laysEdges N dp wd za bl bo ed (nI l) (nI k)) (fun x => x.1 = lN (z_eB H V l ro 0) ∧ x.2.1 = lN (z_eB H V l ro 2) ∧ ∀ e, e < 4 → x.2.2 e = Int64.ofInt (z_eT H l ro pl e)) := by
  have hv := g.2.2.hv hl
  have hps := g.2.2.pos l hl
  have la := z_rl_pos (V := V l) hps.1 hps.2 hr
  have t1 : (14400 : Int64).toInt = 14400 := rfl
  have t2 : (1296000 : Int64).toInt = 1296000 := rfl
  have t3 : (316800 : Int64).toInt = 316800 := rfl
  obtain ⟨gl1, gl2, gl3, gl4⟩ := g.1 l hl
  obtain ⟨er, ep⟩ := m_placeOf (N := N) g hN hl hr (k := k) (by omega) (by omega)
  unfold f_M_laysEdges
  rw [er, q_b1_s, z_i 2, z_asl (by omega) (by omega), z_i 3, z_asl (by omega) (by omega)]
  by_cases h0 : ro = 0
  · have el : z_rl (H l) (V l) ro = 1 := (z_rl1 hps.1 hps.2 hr).mpr (Or.inl h0)
    rw [if_pos (show nI ro = 0 by rw [h0]; rfl), show (0 : Int32) = nI 0 from rfl, z_asl (by omega) (by omega), z_i 1, z_asl (by omega) (by omega)]
    refine Ok.ret ⟨?_, ?_, fun e he => ?_⟩
    · rw [z_eBlo (by omega), if_pos (Or.inl h0)]; rfl
    · rw [z_eBhi (by omega), el]; rfl
    · have e0 : pl = 0 := by omega
      dsimp only
      rcases (show e = 0 ∨ e = 1 ∨ e = 2 ∨ e = 3 by omega) with rfl | rfl | rfl | rfl
      · rw [z_updLN (by omega), z_updLS, z_eT0, if_pos h0]; rfl
      · rw [z_updLS, z_eT1, if_pos h0]; rfl
      · rw [z_updLN (by omega), z_updLN (by omega), z_updLN (by omega), z_updLS, z_eT2, e0]; rfl
      · rw [z_updLN (by omega), z_updLN (by omega), z_updLS, z_eT3, e0]; rfl
  rw [if_neg (show ¬ nI ro = 0 by rw [z_eq0 (by omega)]; exact h0), m_lastRow g hl, q_b1_s]
  by_cases h1 : ro = 44 * H l + 1
  · have el : z_rl (H l) (V l) ro = 1 := (z_rl1 hps.1 hps.2 hr).mpr (Or.inr h1)
    rw [if_pos (show nI ro = nI (44 * H l + 1) by rw [h1]), show (0 : Int32) = nI 0 from rfl, z_asl (by omega) (by omega), z_i 1, z_asl (by omega) (by omega)]
    refine Ok.ret ⟨?_, ?_, fun e he => ?_⟩
    · rw [z_eBlo (by omega), if_pos (Or.inr h1)]; rfl
    · rw [z_eBhi (by omega), el]; rfl
    · have e0 : pl = 0 := by omega
      dsimp only
      rcases (show e = 0 ∨ e = 1 ∨ e = 2 ∨ e = 3 by omega) with rfl | rfl | rfl | rfl
      · rw [z_updLN (by omega), z_updLS, z_eT0, if_neg h0, if_pos h1]; rfl
      · rw [z_updLS, z_eT1, if_neg h0, if_pos h1]; rfl
      · rw [z_updLN (by omega), z_updLN (by omega), z_updLN (by omega), z_updLS, z_eT2, e0]; rfl
      · rw [z_updLN (by omega), z_updLN (by omega), z_updLS, z_eT3, e0]; rfl
  rw [if_neg (show ¬ nI ro = nI (44 * H l + 1) by rw [nI_eq (by omega) (by omega)]; exact h1), z_ai hl (by omega), gl3, z_nm, m_many g hl hr, q_b1_s, z_nm, z_ai hl (by omega), gl3, z_i 1, z_asl (by omega) (by omega), z_al (by omega) (by omega), z_updLS, show (0 : Int32) = nI 0 from rfl, z_asl (by omega) (by omega), ep, q_b1_s, z_asl (by omega) (by omega), z_al (by omega) (by omega), z_updLS, z_asl (by omega) (by omega), show k - z_rs (H l) (V l) ro = pl by omega, pk_sub (show 1 ≤ ro by omega), z_toL64 (by omega), z_toL64 (by omega), z_toL64 (by omega), z_toL64 (by omega)]
  have b1 : ((316800 : Int64) * lN (H l)).toInt = 316800 * (H l : Int) := by
    rw [fb_mulL (by rw [t3, lN_toInt (by omega)]; omega) (by rw [t3, lN_toInt (by omega)]; omega), t3, lN_toInt (by omega)]
  have b2 : ((14400 : Int64) * lN (ro - 1)).toInt = 14400 * ((ro - 1 : Nat) : Int) := by
    rw [fb_mulL (by rw [t1, lN_toInt (by omega)]; omega) (by rw [t1, lN_toInt (by omega)]; omega), t1, lN_toInt (by omega)]
  have b3 : ((316800 : Int64) * lN (H l) - 14400 * lN (ro - 1)).toInt = 316800 * (H l : Int) - 14400 * ((ro - 1 : Nat) : Int) := by
    rw [fb_subL (by rw [b1, b2]; omega) (by rw [b1, b2]; omega), b1, b2]
  have b4 : ((1296000 : Int64) * lN pl).toInt = 1296000 * (pl : Int) := by
    rw [fb_mulL (by rw [t2, lN_toInt (by omega)]; omega) (by rw [t2, lN_toInt (by omega)]; omega), t2, lN_toInt (by omega)]
  refine Ok.ret ⟨?_, ?_, fun e he => ?_⟩
  · rw [z_eBlo (by omega), if_neg (show ¬ (ro = 0 ∨ ro = 44 * H l + 1) by omega)]
  · rw [z_eBhi (by omega)]
  · dsimp only
    rcases (show e = 0 ∨ e = 1 ∨ e = 2 ∨ e = 3 by omega) with rfl | rfl | rfl | rfl
    · rw [z_updLN (by omega), z_updLN (by omega), z_updLS, z_eT0, if_neg h0, if_neg h1]
      refine z_ofI64 ?_
      rw [fb_subL (by rw [b3, t1]; omega) (by rw [b3, t1]; omega), b3, t1]
      omega
    · rw [z_updLN (by omega), z_updLN (by omega), z_updLN (by omega), z_updLS, z_eT1, if_neg h0, if_neg h1]
      refine z_ofI64 ?_
      rw [b3]
      omega
    · rw [z_updLN (by omega), z_updLS, z_eT2]
      exact z_ofI64 b4
    · rw [z_updLS, z_eT3]
      refine z_ofI64 ?_
      rw [fb_addL (by rw [b4, t2]; omega) (by rw [b4, t2]; omega), b4, t2]
theorem m_down {a b : Int64} (hb : 0 < b.toInt) (h1 : -4611686018427387904 ≤ a.toInt) (h2 : a.toInt < 4611686018427387904) (h3 : b.toInt < 4611686018427387904) : f_M_down a b = some (Int64.ofInt (a.toInt / b.toInt)) := by
  have hb0 : ¬ b = 0 := by
    intro h; rw [h] at hb; exact absurd hb (by decide)
  have hb1 : b ≠ -1 := by
    intro h; rw [h] at hb; exact absurd hb (by decide)
  unfold f_M_down q_dvl
  rw [if_neg hb0]
  by_cases ha : 0 ≤ a.toInt
  · rw [if_pos (z_lcmp0.mpr ha)]
    have hd : (a / b).toInt = a.toInt.tdiv b.toInt := Int64.toInt_div_of_ne_right a b hb1
    rw [Int.tdiv_eq_ediv_of_nonneg ha] at hd
    exact z_some (z_ofI64 hd)
  · rw [if_neg (fun z => ha (z_lcmp0.mp z)), if_neg hb0]
    have t1 : (1 : Int64).toInt = 1 := rfl
    have e1 : (b - 1).toInt = b.toInt - 1 := by rw [fb_subL (by rw [t1]; omega) (by rw [t1]; omega), t1]
    have e2 : (b - 1 - a).toInt = b.toInt - 1 - a.toInt := by rw [fb_subL (by rw [e1]; omega) (by rw [e1]; omega), e1]
    have hd : ((b - 1 - a) / b).toInt = (b - 1 - a).toInt.tdiv b.toInt := Int64.toInt_div_of_ne_right _ b hb1
    rw [Int.tdiv_eq_ediv_of_nonneg (by omega), e2] at hd
    have q0 : 0 ≤ (b.toInt - 1 - a.toInt) / b.toInt := Int.ediv_nonneg (by omega) (by omega)
    have q1 := Int.mul_ediv_add_emod (b.toInt - 1 - a.toInt) b.toInt
    have q2 := Int.emod_nonneg (b.toInt - 1 - a.toInt) (show b.toInt ≠ 0 by omega)
    have q3 := Int.emod_lt_of_pos (b.toInt - 1 - a.toInt) hb
    have q4 : (b.toInt - 1 - a.toInt) / b.toInt ≤ b.toInt - 1 - a.toInt := Int.ediv_le_self _ (by omega)
    have key : a.toInt / b.toInt = -((b.toInt - 1 - a.toInt) / b.toInt) := by
      refine ((Int.ediv_emod_unique (r := b.toInt - 1 - (b.toInt - 1 - a.toInt) % b.toInt) hb).mpr ⟨?_, by omega, by omega⟩).1
      rw [Int.mul_neg]
      omega
    refine z_some (z_ofI64 ?_)
    rw [key, Int64.toInt_neg, hd, fb_bmodL (by omega) (by omega)]
/-- the middle's seconds -/
def z_mdl (H V : Nat → Nat) (l ro pl w : Nat) : Int32 := if ro = 0 ∨ ro = 44 * H l + 1 then (if w = 0 then (if ro = 0 then 324000 else -324000) else 0) else (Int64.ofInt ((z_eT H l ro pl (2 * w) + z_eT H l ro pl (2 * w + 1)) / (2 * (z_eB H V l ro (2 * w) : Int)))).toInt32
theorem z_mdlQ (g : CUT R C H V) (hl : l < 5) {ro pl e : Nat} (hr : ro ≤ 44 * H l + 1) (hp : pl < z_rl (H l) (V l) ro) : (Int64.ofInt (z_eT H l ro pl e) + Int64.ofInt (z_eT H l ro pl (e + 1))).toInt = z_eT H l ro pl e + z_eT H l ro pl (e + 1) ∧ ((2 : Int64) * lN (z_eB H V l ro e)).toInt = 2 * (z_eB H V l ro e : Int) ∧ 0 < 2 * (z_eB H V l ro e : Int) ∧ 2 * (z_eB H V l ro e : Int) ≤ 1126800 := by
  have hv := g.hv hl
  have hps := g.pos l hl
  have la := z_rl_pos (V := V l) hps.1 hps.2 hr
  have b1 := z_eTb (l := l) (H0 := H) (ro := ro) (pl := pl) (e := e) hv.1 hr (by omega)
  have b2 := z_eTb (l := l) (H0 := H) (ro := ro) (pl := pl) (e := e + 1) hv.1 hr (by omega)
  have b3 := z_eBb g hl (ro := ro) (e := e) hr
  have t2 : (2 : Int64).toInt = 2 := rfl
  refine ⟨?_, ?_, by omega, by omega⟩
  · rw [fb_addL (by rw [z_ofT (by omega) (by omega), z_ofT (by omega) (by omega)]; omega) (by rw [z_ofT (by omega) (by omega), z_ofT (by omega) (by omega)]; omega), z_ofT (by omega) (by omega), z_ofT (by omega) (by omega)]
  · rw [fb_mulL (by rw [t2, lN_toInt (by omega)]; omega) (by rw [t2, lN_toInt (by omega)]; omega), t2, lN_toInt (by omega)]
theorem z_mdlC0 {H V : Nat → Nat} {ro pl : Nat} (h : ro = 0 ∨ ro = 44 * H l + 1) : z_mdl H V l ro pl 0 = if ro = 0 then 324000 else -324000 := (if_pos h).trans (if_pos rfl)
theorem z_mdlC1 {H V : Nat → Nat} {ro pl : Nat} (h : ro = 0 ∨ ro = 44 * H l + 1) : z_mdl H V l ro pl 1 = 0 := (if_pos h).trans (if_neg (show ¬ (1 : Nat) = 0 by omega))
theorem z_mdlN {H V : Nat → Nat} {ro pl w : Nat} (h : ¬ (ro = 0 ∨ ro = 44 * H l + 1)) : z_mdl H V l ro pl w = (Int64.ofInt ((z_eT H l ro pl (2 * w) + z_eT H l ro pl (2 * w + 1)) / (2 * (z_eB H V l ro (2 * w) : Int)))).toInt32 := if_neg h
theorem r_middleLat (g : GOK R C H V rc cc br zc rw sh) (hl : l < 5) {ro pl : Nat} (hr : ro ≤ 44 * H l + 1) (hp : pl < z_rl (H l) (V l) ro) : f_Spot_middleLat (nI l) (nI ro) (nI pl) (nI (z_rl (H l) (V l) ro)) (z_cap (H l) ro) br = some (z_mdl H V l ro pl 0) := by
  have hv := g.2.hv hl
  unfold f_Spot_middleLat
  by_cases hc : ro = 0 ∨ ro = 44 * H l + 1
  · rw [z_mdlC0 hc, z_capY hc, if_neg (show ¬ (1 : Int32) = 0 by decide)]
    by_cases h0 : ro = 0
    · rw [if_pos h0, if_pos (show nI ro = 0 by rw [h0]; rfl)]
    · rw [if_neg h0, if_neg (show ¬ nI ro = 0 by rw [z_eq0 (by omega)]; exact h0)]
  · obtain ⟨q1, q2, q3, q4⟩ := z_mdlQ g.2 hl (e := 0) hr hp
    have e0 := r_edgeTop g hl hr hp (e := 0) (by omega)
    have e1 := r_edgeTop g hl hr hp (e := 1) (by omega)
    have eb := r_edgeBottom g hl hr (e := 0) (by omega)
    rw [z_capN hc] at e0 e1 eb
    rw [z_mdlN hc, z_capN hc, if_pos (show (0 : Int32) = 0 from rfl), show f_Spot_edgeTop (nI l) (nI ro) (nI pl) 0 br 0 = _ from e0, q_b1_s, show f_Spot_edgeTop (nI l) (nI ro) (nI pl) 0 br 1 = _ from e1, q_b1_s, show f_Spot_edgeBottom (nI l) (nI (z_rl (H l) (V l) ro)) 0 br 0 = _ from eb, q_b1_s, k_floorDivL (by rw [q2]; exact q3), q_b1_s, q1, q2]
theorem r_middleLon (g : GOK R C H V rc cc br zc rw sh) (hl : l < 5) {ro pl : Nat} (hr : ro ≤ 44 * H l + 1) (hp : pl < z_rl (H l) (V l) ro) : f_Spot_middleLon (nI l) (nI ro) (nI pl) (nI (z_rl (H l) (V l) ro)) (z_cap (H l) ro) br = some (z_mdl H V l ro pl 1) := by
  have hv := g.2.hv hl
  unfold f_Spot_middleLon
  by_cases hc : ro = 0 ∨ ro = 44 * H l + 1
  · rw [z_mdlC1 hc, z_capY hc, if_neg (show ¬ (1 : Int32) = 0 by decide)]
  · obtain ⟨q1, q2, q3, q4⟩ := z_mdlQ g.2 hl (e := 2) hr hp
    have e0 := r_edgeTop g hl hr hp (e := 2) (by omega)
    have e1 := r_edgeTop g hl hr hp (e := 3) (by omega)
    have eb := r_edgeBottom g hl hr (e := 2) (by omega)
    rw [z_capN hc] at e0 e1 eb
    rw [z_mdlN hc, z_capN hc, if_pos (show (0 : Int32) = 0 from rfl), show f_Spot_edgeTop (nI l) (nI ro) (nI pl) 0 br 2 = _ from e0, q_b1_s, show f_Spot_edgeTop (nI l) (nI ro) (nI pl) 0 br 3 = _ from e1, q_b1_s, show f_Spot_edgeBottom (nI l) (nI (z_rl (H l) (V l) ro)) 0 br 2 = _ from eb, q_b1_s, k_floorDivL (by rw [q2]; exact q3), q_b1_s, q1, q2]
theorem r_middleOf (g : MOK R C H V cr cq dp wd za) (hN : 50 ≤ N) (hl : l < 5) {k ro pl w : Nat} (hk : k < 2130 * (H l * V l) + 2) (hr : ro ≤ 44 * H l + 1) (hp : pl < z_rl (H l) (V l) ro) (hk2 : k = z_rs (H l) (V l) ro + pl) (hw : w < 2) (bl bo : Int64) (ed : Nat → Int64) : Ok (f_M_middleOf N dp wd za bl bo ed (nI l) (nI k) (nI w)) (fun x => x.1 = z_mdl H V l ro pl w) := by
  have hv := g.2.2.hv hl
  have hps := g.2.2.pos l hl
  have hs := g.2.2.sh hl
  obtain ⟨cz, cc1⟩ := z_capR hps.1 hr hp hk2
  unfold f_M_middleOf
  rcases t_isCap g hl hk with ⟨c1, e1⟩ | ⟨c1, e1⟩
  · have hc := cc1.mp c1
    rw [e1, q_b1_s, if_neg (show ¬ (1 : Int32) = 0 by decide)]
    rcases (show w = 0 ∨ w = 1 by omega) with rfl | rfl
    · rw [if_neg (show ¬ nI 0 = 1 by decide), z_mdlC0 hc]
      by_cases h0 : ro = 0
      · rw [if_pos h0, if_pos (show nI k = 0 by rw [z_eq0 (by omega)]; exact cz.mpr h0)]; exact Ok.ret rfl
      · rw [if_neg h0, if_neg (show ¬ nI k = 0 by rw [z_eq0 (by omega)]; exact fun z => h0 (cz.mp z))]; exact Ok.ret rfl
    · rw [if_pos (show nI 1 = 1 from rfl), z_mdlC1 hc]; exact Ok.ret rfl
  · have hc : ¬ (ro = 0 ∨ ro = 44 * H l + 1) := fun z => c1 (cc1.mpr z)
    rw [e1, q_b1_s, if_pos (show (0 : Int32) = 0 from rfl), z_mdlN hc]
    refine Ok.b3 (r_laysEdges g hN hl hr hp hk2 bl bo ed) (fun v2 v3 f4 h => ?_)
    obtain ⟨h1, h2, h3⟩ := h
    dsimp only at h1 h2 h3
    rcases (show w = 0 ∨ w = 1 by omega) with rfl | rfl
    · obtain ⟨q1, q2, q3, q4⟩ := z_mdlQ g.2.2 hl (e := 0) hr hp
      have b1 := z_eTb (l := l) (H0 := H) (ro := ro) (pl := pl) (e := 0) hv.1 hr (by have := z_rl_pos (V := V l) hps.1 hps.2 hr; omega)
      have b2 := z_eTb (l := l) (H0 := H) (ro := ro) (pl := pl) (e := 0 + 1) hv.1 hr (by have := z_rl_pos (V := V l) hps.1 hps.2 hr; omega)
      rw [if_pos (show nI 0 = 0 from rfl), show (0 : Int32) = nI 0 from rfl, z_al (by omega) (by omega), z_i 1, z_al (by omega) (by omega), h3 0 (by omega), h3 1 (by omega), h1, m_down (by rw [q2]; exact q3) (by rw [q1]; omega) (by rw [q1]; omega) (by rw [q2]; omega), q_b1_s, q1, q2]
      exact Ok.ret rfl
    · obtain ⟨q1, q2, q3, q4⟩ := z_mdlQ g.2.2 hl (e := 2) hr hp
      have b1 := z_eTb (l := l) (H0 := H) (ro := ro) (pl := pl) (e := 2) hv.1 hr (by have := z_rl_pos (V := V l) hps.1 hps.2 hr; omega)
      have b2 := z_eTb (l := l) (H0 := H) (ro := ro) (pl := pl) (e := 2 + 1) hv.1 hr (by have := z_rl_pos (V := V l) hps.1 hps.2 hr; omega)
      rw [if_neg (show ¬ nI 1 = 0 by decide), z_i 2, z_al (by omega) (by omega), z_i 3, z_al (by omega) (by omega), h3 2 (by omega), h3 3 (by omega), h2, m_down (by rw [q2]; exact q3) (by rw [q1]; omega) (by rw [q1]; omega) (by rw [q2]; omega), q_b1_s, q1, q2]
      exact Ok.ret rfl
/-! middle -/
def l_Cmiddle (sv : l_T) (p q w : Int32) : Prop := z_hs (z_pr (l_R sv)) (z_pr (l_C sv)) p q ∧ (0 ≤ w.toInt ∧ w.toInt ≤ 1)
def l_Fmiddle (sv : l_T) (w : Int32) (s : Nat × Nat × Nat × Nat) : Int32 := z_mdl (z_pr (l_R sv)) (z_pr (l_C sv)) s.1 s.2.2.1 s.2.2.2 w.toInt.toNat
def l_amiddle (sv : l_T) (p q w r : Int32) : Prop := l_rel (l_Cmiddle sv p q w) (-1000000) (l_sp sv p q) (l_Fmiddle sv w) r
theorem l_amiddle_one {p q w r r' : Int32} (h : l_ok sv) (h1 : l_amiddle sv p q w r) (h2 : l_amiddle sv p q w r') : r = r' := l_rel_one (l_sp_one h) h1 h2
theorem a_x_middle (g : GOK (l_R sv) (l_C sv) (z_pr (l_R sv)) (z_pr (l_C sv)) rc cc br zc rw sh) (hN : 1000000 ≤ N) (a1 a2 a3 a4 a5 a6 p q w : Int32) : Ok (f_X_middle N a1 a2 a3 a4 a5 a6 br zc rw sh p q w) (fun x => l_amiddle sv p q w x.1) := by
  unfold f_X_middle
  refine Ok.b1 (r_hasSheet g p q) (fun v1 h1 => ?_)
  rcases h1 with ⟨z, rfl⟩ | ⟨z, rfl⟩
  rotate_left
  · exact Ok.ite (fun _ => Ok.ret (l_relN (fun u => z u.1))) (fun c => absurd rfl c)
  refine Ok.ite (fun c => absurd c (by decide)) (fun _ => Ok.b1 (s_isFrom w 0 1) (fun v2 h2 => ?_))
  rw [show (0 : Int32).toInt = 0 from rfl, show (1 : Int32).toInt = 1 from rfl] at h2
  refine Ok.ite (fun c => Ok.ret (l_relN (fun u => z_if0 h2 c u.2))) (fun c => ?_)
  have hw := z_if1 h2 c
  have z' := z
  obtain ⟨l, k, hl, rfl, rfl, hk⟩ := z'
  obtain ⟨j, -, rfl, hjj⟩ := z_nat (r := w) (by omega)
  have hs := g.2.sh hl
  obtain ⟨ro, pl, e, d1, d2, d3⟩ := k_put (N := N) g (by omega) hl hk a1 a2 a3 a4 a5 a6
  have hsp : l_sp sv (nI l) (nI k) (l, k, ro, pl) := ⟨⟨hl, (show k < 20000000 by omega), d1, d2, d3⟩, rfl, rfl⟩
  rw [e, q_b6_s]
  rcases (show j = 0 ∨ j = 1 by omega) with rfl | rfl
  · rw [if_pos (show nI 0 = 0 from rfl), r_middleLat g hl d1 d2, q_b1_s]
    exact Ok.ret (l_relY ⟨z, hw⟩ hsp rfl)
  · rw [if_neg (show ¬ nI 1 = 0 by decide), r_middleLon g hl d1 d2, q_b1_s]
    exact Ok.ret (l_relY ⟨z, hw⟩ hsp rfl)
theorem a_m_middle (g : MOK (l_R sv) (l_C sv) (z_pr (l_R sv)) (z_pr (l_C sv)) cr cq dp wd za) (hN : 1000000 ≤ N) (bl bo : Int64) (ed : Nat → Int64) (p q w : Int32) : Ok (f_M_middle N dp wd za bl bo ed p q w) (fun x => l_amiddle sv p q w x.1) := by
  unfold f_M_middle
  refine Ok.b1 (r_isKey g p q) (fun v1 h1 => ?_)
  rcases h1 with ⟨z, rfl⟩ | ⟨z, rfl⟩
  rotate_left
  · exact Ok.ite (fun _ => Ok.ret (l_relN (fun u => z u.1))) (fun c => absurd rfl c)
  refine Ok.ite (fun c => absurd c (by decide)) (fun _ => Ok.b1 (t_in _ _ _) (fun v2 h2 => ?_))
  rw [z_toL, show (0 : Int64).toInt = 0 from rfl, show (1 : Int64).toInt = 1 from rfl] at h2
  refine Ok.ite (fun c => Ok.ret (l_relN (fun u => z_if0 h2 c u.2))) (fun c => ?_)
  have hw := z_if1 h2 c
  have z' := z
  obtain ⟨l, k, hl, rfl, rfl, hk⟩ := z'
  obtain ⟨j, -, rfl, hjj⟩ := z_nat (r := w) (by omega)
  have hs := g.2.2.sh hl
  obtain ⟨ro, pl, d1, d2, d3, -, -⟩ := t_spot (N := N) g (by omega) hl hk
  have hsp : l_sp sv (nI l) (nI k) (l, k, ro, pl) := ⟨⟨hl, (show k < 20000000 by omega), d1, d2, d3⟩, rfl, rfl⟩
  have hj : (nI j).toInt.toNat = j := by rw [hjj]; rfl
  refine Ok.b4 (r_middleOf (N := N) g (by omega) hl hk d1 d2 d3 (w := j) (by omega) bl bo ed) (fun v3 v4 v5 f6 h3 => Ok.ret (l_relY ⟨z, hw⟩ hsp ?_))
  dsimp only at h3
  rw [h3]
  unfold l_Fmiddle
  rw [hj]
/-! edge: the common divisor of both sides -/
theorem z_gcdI {a b : Nat} (ha : a < 2 ^ 62) (hb : b < 2 ^ 31) (h0 : b ≠ 0) {β : Type} {k : Int64 → Option β} : q_rml (lN a) (lN b) k = k (lN (a % b)) := z_rml (by omega) (by omega) (by omega)
theorem z_cmp0N {b : Nat} (hb : b < 2 ^ 31) : lg_cmp (lN b) 0 = 0 ↔ b = 0 := by
  rw [z_lcmpE, show (0 : Int64) = lN 0 from rfl, lN_eq hb (by omega)]
theorem r_gcdM_L : ∀ n a b, a < 2 ^ 62 → b < 2 ^ 31 → b < n → f_M_common_L17 n (lN a) (lN b) = some (lN (Nat.gcd a b)) := by
  intro n
  induction n with
  | zero => intro a b h1 h2 h3; omega
  | succ n ih =>
    intro a b h1 h2 h3
    unfold f_M_common_L17
    by_cases c : b = 0
    · rw [if_pos ((z_cmp0N h2).mpr c), c, Nat.gcd_zero_right]
    · have hm : a % b < b := Nat.mod_lt _ (by omega)
      rw [if_neg (fun z => c ((z_cmp0N h2).mp z)), z_gcdI h1 h2 c, ih b (a % b) (by omega) (by omega) (by omega), Nat.gcd_comm a b, Nat.gcd_rec b a, Nat.gcd_comm]
theorem r_gcdX_L : ∀ m n a b i, a < 2 ^ 62 → b < 2 ^ 31 → i + 2 * m + 2 ≤ 200 → b < 2 ^ m → b ≤ a → 2 * m + 2 < n → f_X_commonDivisor_L9 n (lN a) (lN b) (nI i) = some (lN (Nat.gcd a b)) := by
  intro m
  induction m with
  | zero =>
    intro n a b i h1 h2 h3 h4 h5 h6
    obtain ⟨n, rfl⟩ : ∃ k, n = k + 1 := ⟨n - 1, by omega⟩
    have hb : b = 0 := by omega
    unfold f_X_commonDivisor_L9
    rw [if_neg (by rw [z_i 200, nI_leI (by omega) (by omega)]; omega), if_pos ((z_cmp0N h2).mpr hb), hb, Nat.gcd_zero_right]
  | succ m ih =>
    intro n a b i h1 h2 h3 h4 h5 h6
    obtain ⟨n, rfl⟩ : ∃ k, n = k + 1 + 1 := ⟨n - 2, by omega⟩
    unfold f_X_commonDivisor_L9
    rw [if_neg (by rw [z_i 200, nI_leI (by omega) (by omega)]; omega)]
    by_cases c : b = 0
    · rw [if_pos ((z_cmp0N h2).mpr c), c, Nat.gcd_zero_right]
    · have hm : a % b < b := Nat.mod_lt _ (by omega)
      rw [if_neg (fun z => c ((z_cmp0N h2).mp z)), z_gcdI h1 h2 c, nI_1, z_nm]
      unfold f_X_commonDivisor_L9
      rw [if_neg (by rw [z_i 200, nI_leI (by omega) (by omega)]; omega)]
      have e1 : Nat.gcd b (a % b) = Nat.gcd a b := by rw [Nat.gcd_comm a b, Nat.gcd_rec b a, Nat.gcd_comm]
      by_cases c2 : a % b = 0
      · rw [if_pos ((z_cmp0N (by omega)).mpr c2), ← e1, c2, Nat.gcd_zero_right]
      · have hm2 : b % (a % b) < a % b := Nat.mod_lt _ (by omega)
        have hh : b % (a % b) + a % b ≤ b := by
          have h7 := Nat.div_add_mod b (a % b)
          have h8 : 1 ≤ b / (a % b) := Nat.div_pos (by omega) (by omega)
          have h9 : (a % b) * 1 ≤ (a % b) * (b / (a % b)) := Nat.mul_le_mul_left _ h8
          omega
        have h10 : 2 ^ (m + 1) = 2 * 2 ^ m := by rw [Nat.pow_succ, Nat.mul_comm]
        have e2 : Nat.gcd (a % b) (b % (a % b)) = Nat.gcd b (a % b) := by rw [Nat.gcd_comm b (a % b), Nat.gcd_rec (a % b) b, Nat.gcd_comm]
        rw [if_neg (fun z => c2 ((z_cmp0N (by omega)).mp z)), z_gcdI (by omega) (by omega) c2, nI_1, z_nm, ih n (a % b) (b % (a % b)) (i + 1 + 1) (by omega) (by omega) (by omega) (by omega) (by omega) (by omega), e2, e1]
theorem z_gcd1 {a b : Nat} (h0 : b ≠ 0) : Nat.gcd b (a % b) = Nat.gcd a b := by rw [Nat.gcd_comm a b, Nat.gcd_rec b a, Nat.gcd_comm]
theorem r_gcdX (hN : 1000000 ≤ N) {a b : Nat} (ha : a < 2 ^ 62) (h1 : 1 ≤ b) (hb : b < 2 ^ 20) : f_X_commonDivisor N (lN a) (lN b) = some (lN (Nat.gcd a b)) := by
  obtain ⟨n, rfl⟩ : ∃ k, N = k + 1 := ⟨N - 1, by omega⟩
  unfold f_X_commonDivisor
  rw [z_nm]
  have hm : a % b < b := Nat.mod_lt _ (by omega)
  have e : f_X_commonDivisor_L9 (n + 1) (lN a) (lN b) 0 = some (lN (Nat.gcd a b)) := by
    unfold f_X_commonDivisor_L9
    rw [if_neg (by decide), if_neg (fun z => absurd ((z_cmp0N (by omega)).mp z) (by omega)), z_gcdI ha (by omega) (by omega), show (0 : Int32) + 1 = nI 1 from rfl, z_nm, r_gcdX_L 20 n b (a % b) 1 (by omega) (by omega) (by omega) (by omega) (by omega) (by omega), z_gcd1 (by omega)]
  rw [e, q_b1_s]
theorem r_gcdM (hN : 1000000 ≤ N) {x : Int64} (hx : -1000000000000 ≤ x.toInt ∧ x.toInt ≤ 1000000000000) {b : Nat} (h1 : 1 ≤ b) (hb : b < 2 ^ 19 + 2 ^ 18) : f_M_common N x (lN b) = some (lN (Nat.gcd x.toInt.natAbs b)) := by
  unfold f_M_common
  rw [z_j1]
  have e : ∀ y : Int64, y.toInt = (x.toInt.natAbs : Int) → f_M_common_L17 N y (lN b) = some (lN (Nat.gcd x.toInt.natAbs b)) := by
    intro y hy
    have ey : y = lN x.toInt.natAbs := by
      apply Int64.toInt_inj.mp
      rw [hy]
      exact (lg_ofNat_toInt (by omega)).symm
    rw [ey, r_gcdM_L N _ b (by omega) (by omega) (by omega)]
  by_cases c : 0 ≤ x.toInt
  · rw [if_pos (z_lcmp0.mpr c)]
    dsimp only
    rw [e x (by omega), q_b1_s]
  · rw [if_neg (fun z => c (z_lcmp0.mp z))]
    dsimp only
    rw [e (-x) (by rw [Int64.toInt_neg, fb_bmodL (by omega) (by omega)]; omega), q_b1_s]
/-- a fraction's top and bottom in lowest terms -/
def z_frT (T : Int) (B : Nat) : Int64 := Int64.ofInt T / lN (Nat.gcd T.natAbs B)
def z_frB (T : Int) (B : Nat) : Int64 := lN B / lN (Nat.gcd T.natAbs B)
def l_Cedge (sv : l_T) (p q w : Int32) : Prop := z_hs (z_pr (l_R sv)) (z_pr (l_C sv)) p q ∧ (0 ≤ w.toInt ∧ w.toInt ≤ 7)
def l_Fedge (sv : l_T) (j : Nat) (s : Nat × Nat × Nat × Nat) : Int64 := if j % 2 = 0 then z_frT (z_eT (z_pr (l_R sv)) s.1 s.2.2.1 s.2.2.2 (j / 2)) (z_eB (z_pr (l_R sv)) (z_pr (l_C sv)) s.1 s.2.2.1 (j / 2)) else z_frB (z_eT (z_pr (l_R sv)) s.1 s.2.2.1 s.2.2.2 (j / 2)) (z_eB (z_pr (l_R sv)) (z_pr (l_C sv)) s.1 s.2.2.1 (j / 2))
def l_aedge (sv : l_T) (p q w : Int32) (r : Int64) : Prop := (¬ l_Cedge sv p q w ∧ r = -9223372036854775808) ∨ (l_Cedge sv p q w ∧ ∃ s, l_sp sv p q s ∧ r = l_Fedge sv w.toInt.toNat s)
theorem l_aedge_one {p q w : Int32} {r r' : Int64} (h : l_ok sv) (h1 : l_aedge sv p q w r) (h2 : l_aedge sv p q w r') : r = r' := by
  rcases h1 with ⟨a, b⟩ | ⟨a, s, h1, e⟩ <;> rcases h2 with ⟨a', b'⟩ | ⟨a', s', h1', e'⟩
  · exact b.trans b'.symm
  · exact absurd a' a
  · exact absurd a a'
  · rw [l_sp_one h s s' h1 h1'] at e
    exact e.trans e'.symm
theorem z_absI {x : Int64} (hx : -1000000000000 ≤ x.toInt ∧ x.toInt ≤ 1000000000000) : (if 0 < x then x else -x : Int64) = lN x.toInt.natAbs := by
  apply Int64.toInt_inj.mp
  have e : (lN x.toInt.natAbs).toInt = (x.toInt.natAbs : Int) := lg_ofNat_toInt (by omega)
  rw [e]
  by_cases c : 0 < x
  · have c' := Int64.lt_iff_toInt_lt.mp c
    rw [show (0 : Int64).toInt = 0 from rfl] at c'
    rw [if_pos c]; omega
  · have c' : ¬ 0 < x.toInt := fun z => c (Int64.lt_iff_toInt_lt.mpr (by rw [show (0 : Int64).toInt = 0 from rfl]; exact z))
    rw [if_neg c, Int64.toInt_neg, fb_bmodL (by omega) (by omega)]; omega
theorem z_gcdB {T : Int} {B : Nat} (h1 : 1 ≤ B) (h2 : B ≤ 563400) : 1 ≤ Nat.gcd T.natAbs B ∧ Nat.gcd T.natAbs B ≤ 563400 := ⟨Nat.gcd_pos_of_pos_right _ h1, Nat.le_trans (Nat.gcd_le_right _ h1) h2⟩
theorem a_x_edge (g : GOK (l_R sv) (l_C sv) (z_pr (l_R sv)) (z_pr (l_C sv)) rc cc br zc rw sh) (hN : 1000000 ≤ N) (a1 a2 a3 a4 a5 a6 p q w : Int32) : Ok (f_X_edge N a1 a2 a3 a4 a5 a6 br zc rw sh p q w) (fun x => l_aedge sv p q w x.1) := by
  unfold f_X_edge
  refine Ok.b1 (r_hasSheet g p q) (fun v1 h1 => ?_)
  rcases h1 with ⟨z, rfl⟩ | ⟨z, rfl⟩
  rotate_left
  · exact Ok.ite (fun _ => Ok.ret (Or.inl ⟨fun u => z u.1, rfl⟩)) (fun c => absurd rfl c)
  refine Ok.ite (fun c => absurd c (by decide)) (fun _ => Ok.b1 (s_isFrom w 0 7) (fun v2 h2 => ?_))
  rw [show (0 : Int32).toInt = 0 from rfl, show (7 : Int32).toInt = 7 from rfl] at h2
  refine Ok.ite (fun c => Ok.ret (Or.inl ⟨fun u => z_if0 h2 c u.2, rfl⟩)) (fun c => ?_)
  have hw := z_if1 h2 c
  have z' := z
  obtain ⟨l, k, hl, rfl, rfl, hk⟩ := z'
  obtain ⟨j, -, rfl, hjj⟩ := z_nat (r := w) (by omega)
  have hs := g.2.sh hl
  have hv := g.2.hv hl
  have hps := g.2.pos l hl
  obtain ⟨ro, pl, e, d1, d2, d3⟩ := k_put (N := N) g (by omega) hl hk a1 a2 a3 a4 a5 a6
  have la := z_rl_pos (V := z_pr (l_C sv) l) hps.1 hps.2 d1
  have hsp : l_sp sv (nI l) (nI k) (l, k, ro, pl) := ⟨⟨hl, (show k < 20000000 by omega), d1, d2, d3⟩, rfl, rfl⟩
  have bT := z_eTb (l := l) (H0 := z_pr (l_R sv)) (ro := ro) (pl := pl) (e := j / 2) hv.1 d1 (by omega)
  have bB := z_eBb g.2 hl (ro := ro) (e := j / 2) d1
  have tT := z_ofT (z := z_eT (z_pr (l_R sv)) l ro pl (j / 2)) (by omega) (by omega)
  have bG := z_gcdB (T := z_eT (z_pr (l_R sv)) l ro pl (j / 2)) bB.1 bB.2
  have fin : ∀ r : Int64, r = l_Fedge sv j (l, k, ro, pl) → l_aedge sv (nI l) (nI k) (nI j) r := fun r h => Or.inr ⟨⟨z, hw⟩, _, hsp, by rw [h, hjj]; rfl⟩
  unfold l_Fedge z_frT z_frB at fin
  rw [e, q_b6_s, z_i 2, z_dv (by omega) (by omega) (by omega), r_edgeTop g hl d1 d2 (by omega), q_b1_s, z_dv (by omega) (by omega) (by omega), r_edgeBottom g hl d1 (by omega), q_b1_s, z_nm, z_absI (by rw [tT]; exact bT), tT, r_gcdX hN (by omega) bB.1 (by omega), q_b1_s]
  refine Ok.ite (fun _ => ?_) (fun c => absurd ((lg_cmp_ge _ _).mpr ((lN_le (a := 1) (by omega) (by omega)).mpr bG.1)) c)
  rw [z_rm (by omega) (by omega) (by omega)]
  unfold q_dvl
  have g0 : ¬ lN (Nat.gcd (z_eT (z_pr (l_R sv)) l ro pl (j / 2)).natAbs (z_eB (z_pr (l_R sv)) (z_pr (l_C sv)) l ro (j / 2))) = 0 := z_lne0 bG.1 (by omega)
  by_cases c : j % 2 = 0
  · rw [if_pos (by rw [c]; rfl), if_neg g0]
    exact Ok.ret (fin _ (by rw [if_pos c]))
  · rw [if_neg (by rw [z_eq0 (by omega)]; exact c), if_neg g0]
    exact Ok.ret (fin _ (by rw [if_neg c]))
theorem a_m_edge (g : MOK (l_R sv) (l_C sv) (z_pr (l_R sv)) (z_pr (l_C sv)) cr cq dp wd za) (hN : 1000000 ≤ N) (bl bo : Int64) (ed : Nat → Int64) (p q w : Int32) : Ok (f_M_edge N dp wd za bl bo ed p q w) (fun x => l_aedge sv p q w x.1) := by
  unfold f_M_edge
  refine Ok.b1 (r_isKey g p q) (fun v1 h1 => ?_)
  rcases h1 with ⟨z, rfl⟩ | ⟨z, rfl⟩
  rotate_left
  · exact Ok.ite (fun _ => Ok.ret (Or.inl ⟨fun u => z u.1, rfl⟩)) (fun c => absurd rfl c)
  refine Ok.ite (fun c => absurd c (by decide)) (fun _ => Ok.b1 (t_in _ _ _) (fun v2 h2 => ?_))
  rw [z_toL, show (0 : Int64).toInt = 0 from rfl, show (7 : Int64).toInt = 7 from rfl] at h2
  refine Ok.ite (fun c => Ok.ret (Or.inl ⟨fun u => z_if0 h2 c u.2, rfl⟩)) (fun c => ?_)
  have hw := z_if1 h2 c
  have z' := z
  obtain ⟨l, k, hl, rfl, rfl, hk⟩ := z'
  obtain ⟨j, -, rfl, hjj⟩ := z_nat (r := w) (by omega)
  have hs := g.2.2.sh hl
  have hv := g.2.2.hv hl
  have hps := g.2.2.pos l hl
  obtain ⟨ro, pl, d1, d2, d3, -, -⟩ := t_spot (N := N) g (by omega) hl hk
  have la := z_rl_pos (V := z_pr (l_C sv) l) hps.1 hps.2 d1
  have hsp : l_sp sv (nI l) (nI k) (l, k, ro, pl) := ⟨⟨hl, (show k < 20000000 by omega), d1, d2, d3⟩, rfl, rfl⟩
  have bT := z_eTb (l := l) (H0 := z_pr (l_R sv)) (ro := ro) (pl := pl) (e := j / 2) hv.1 d1 (by omega)
  have bB := z_eBb g.2.2 hl (ro := ro) (e := j / 2) d1
  have tT := z_ofT (z := z_eT (z_pr (l_R sv)) l ro pl (j / 2)) (by omega) (by omega)
  have bG := z_gcdB (T := z_eT (z_pr (l_R sv)) l ro pl (j / 2)) bB.1 bB.2
  have fin : ∀ r : Int64, r = l_Fedge sv j (l, k, ro, pl) → l_aedge sv (nI l) (nI k) (nI j) r := fun r h => Or.inr ⟨⟨z, hw⟩, _, hsp, by rw [h, hjj]; rfl⟩
  unfold l_Fedge z_frT z_frB at fin
  refine Ok.b3 (r_laysEdges (N := N) g (by omega) hl d1 d2 d3 bl bo ed) (fun v3 v4 f5 h => ?_)
  obtain ⟨h1, h2, h3⟩ := h
  dsimp only at h1 h2 h3
  have g0 : ¬ lN (Nat.gcd (z_eT (z_pr (l_R sv)) l ro pl (j / 2)).natAbs (z_eB (z_pr (l_R sv)) (z_pr (l_C sv)) l ro (j / 2))) = 0 := z_lne0 bG.1 (by omega)
  have K : ∀ v8 : Int64, v8 = lN (z_eB (z_pr (l_R sv)) (z_pr (l_C sv)) l ro (j / 2)) → Ok (q_b1 (f_M_common N (f5 (j / 2)) v8) (fun (v9 : Int64) => q_rm (nI j) (nI 2) (fun (v10 : Int32) => if v10 = 0 then (q_dvl (f5 (j / 2)) v9 (fun (v12 : Int64) => some (v12, v3, v4, f5))) else (q_dvl v8 v9 (fun (v11 : Int64) => some (v11, v3, v4, f5)))))) (fun x => l_aedge sv (nI l) (nI k) (nI j) x.1) := by
    intro v8 h8
    rw [h8, h3 (j / 2) (by omega), r_gcdM hN (by rw [tT]; exact bT) bB.1 (by omega), q_b1_s, tT, z_rm (by omega) (by omega) (by omega)]
    unfold q_dvl
    by_cases c : j % 2 = 0
    · rw [if_pos (by rw [c]; rfl), if_neg g0]
      exact Ok.ret (fin _ (by rw [if_pos c]))
    · rw [if_neg (by rw [z_eq0 (by omega)]; exact c), if_neg g0]
      exact Ok.ret (fin _ (by rw [if_neg c]))
  rw [z_i 2, z_dv (by omega) (by omega) (by omega), z_al (by omega) (by omega)]
  refine Ok.j1 ?_
  by_cases c : 4 ≤ j
  · rw [if_pos (by rw [z_i 4, nI_leI (by omega) (by omega)]; exact c)]
    exact K v4 (by rw [h2, z_eBhi (show ¬ 2 < 2 by omega), z_eBhi (show ¬ j / 2 < 2 by omega)])
  · rw [if_neg (by rw [z_i 4, nI_leI (by omega) (by omega)]; exact c)]
    exact K v3 (by rw [h1, z_eBlo (show 0 < 2 by omega), z_eBlo (show j / 2 < 2 by omega)])
end S8A
