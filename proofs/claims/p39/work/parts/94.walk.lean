/-! the walk: steps from one sheet on -/
/-- the first e places hold keys below tot -/
def z_keys (tot e : Nat) (f : Nat → Int32) : Prop := ∀ j, j < e → ∃ k, k < tot ∧ f j = nI k
theorem z_m1 (x : Int32) : x + (-1) = x - 1 := by
  rw [Int32.sub_eq_add_neg]
section WALKF
variable {R C H V : Nat → Nat} {rc cc br zc rw sh : Nat → Int32} {N l tot ns nr : Nat}
theorem k_makeRoom_L (h1 : tot ≤ ns) (h2 : ns < 2 ^ 31) : ∀ n i (f : Nat → Int32), i ≤ tot → tot - i < n → ∃ f', f_Walk_makeRoom_L30 ns (nI tot) n (nI i) f = some f' := by
  intro n
  induction n with
  | zero => intro i f _ h; omega
  | succ n ih =>
    intro i f hi hn
    rw [f_Walk_makeRoom_L30]
    by_cases hc : tot ≤ i
    · rw [if_pos (by rw [nI_leI (by omega) (by omega)]; exact hc)]; exact ⟨_, rfl⟩
    · rw [if_neg (by rw [nI_leI (by omega) (by omega)]; exact hc), z_as (by omega) h2, z_nm, nI_1]
      exact ih (i + 1) _ (by omega) (by omega)
theorem k_makeRoomN_L (h1 : tot ≤ ns) (h2 : ns < 2 ^ 31) : ∀ n i (f : Nat → Int32), i ≤ tot → tot - i < n → ∃ f', f_Walk_makeRoomN_L30 ns (nI tot) n (nI i) f = some f' := by
  intro n
  induction n with
  | zero => intro i f _ h; omega
  | succ n ih =>
    intro i f hi hn
    rw [f_Walk_makeRoomN_L30]
    by_cases hc : tot ≤ i
    · rw [if_pos (by rw [nI_leI (by omega) (by omega)]; exact hc)]; exact ⟨_, rfl⟩
    · rw [if_neg (by rw [nI_leI (by omega) (by omega)]; exact hc), z_as (by omega) h2, z_nm, nI_1]
      exact ih (i + 1) _ (by omega) (by omega)
theorem k_makeRoom (hN : tot < N) (h1 : tot ≤ ns) (h2 : ns < 2 ^ 31) (s : Nat → Int32) (m : Int32) : ∃ f, f_Walk_makeRoom N ns s m (nI tot) = some (f, nI tot) := by
  unfold f_Walk_makeRoom
  rw [if_pos (by rw [nI_leI (by omega) h2]; exact h1), z_nm]
  obtain ⟨f, hf⟩ := k_makeRoom_L h1 h2 N 0 s (by omega) (by omega)
  rw [show (0 : Int32) = nI 0 from rfl, hf, q_b1_s]
  exact ⟨f, rfl⟩
theorem k_makeRoomN (hN : tot < N) (h1 : ns < tot) (h2 : tot ≤ 20000) (s r : Nat → Int32) (m : Int32) : ∃ f, f_Walk_makeRoomN N tot ns s r m (nI tot) = some (f, (fun _ => 0), nI tot) := by
  unfold f_Walk_makeRoomN q_na
  rw [if_neg (by rw [nI_leI (by omega) (by omega)]; omega)]
  have hc : ¬ (nI tot < 0 ∨ 134217728 < tot ∨ (nI tot).toNatClampNeg ≠ tot) := by
    rw [nI_clamp (by omega)]
    rintro (h | h | h)
    · exact z_lt0 (by omega) h
    · omega
    · exact h rfl
  rw [if_neg hc, if_neg hc, z_nm]
  obtain ⟨f, hf⟩ := k_makeRoomN_L (ns := tot) (Nat.le_refl tot) (by omega) N 0 (fun _ => 0) (by omega) (by omega)
  rw [show f_Walk_makeRoomN_L30 tot (nI tot) N 0 (fun _ => 0) = some f from hf, q_b1_s]
  exact ⟨f, rfl⟩
theorem k_spreadOn_L {f m : Nat → Int32} {F M : Nat → Nat} (h : z_FM tot f m F M) (ht : tot ≤ 20000) (hs : tot ≤ ns) (hr : tot ≤ nr) (hs2 : ns < 2 ^ 31) (hr2 : nr < 2 ^ 31) (p : Int32) :
    ∀ n i e (a b : Nat → Int32), i ≤ M 0 + M 1 + M 2 + M 3 → M 0 + M 1 + M 2 + M 3 - i < n → e ≤ tot → z_keys tot e b → ∃ e' a' b', f_Walk_spreadOn_L14 nr ns p (nI (M 0 + M 1 + M 2 + M 3)) (nI tot) f m n (nI e) (nI i) a b = some (nI e', a', b') ∧ e' ≤ tot ∧ z_keys tot e' b' := by
  have hM : M 0 + M 1 + M 2 + M 3 ≤ 80000 := by
    have b0 := (h.1 0 (by omega)).2.2.1
    have b1 := (h.1 1 (by omega)).2.2.1
    have b2 := (h.1 2 (by omega)).2.2.1
    have b3 := (h.1 3 (by omega)).2.2.1
    omega
  intro n
  induction n with
  | zero => intro i e a b _ h; omega
  | succ n ih =>
    intro i e a b hi hn he hb
    rw [f_Walk_spreadOn_L14]
    by_cases hc : M 0 + M 1 + M 2 + M 3 ≤ i
    · rw [if_pos (by rw [nI_leI (by omega) (by omega)]; exact hc)]
      exact ⟨e, a, b, rfl, he, hb⟩
    · obtain ⟨k, hk1, hk2⟩ := k_besideKey h (by omega) (show i < M 0 + M 1 + M 2 + M 3 by omega)
      rw [if_neg (by rw [nI_leI (by omega) (by omega)]; exact hc), hk1, q_b1_s, z_ai (by omega) hs2, z_j3]
      dsimp only
      by_cases h1 : a k = -1
      · rw [if_pos h1]
        by_cases h2 : tot ≤ e
        · rw [if_pos (by rw [nI_leI (by omega) (by omega)]; exact h2), z_nm, nI_1]
          exact ih (i + 1) e a b (by omega) (by omega) he hb
        · rw [if_neg (by rw [nI_leI (by omega) (by omega)]; exact h2), z_as (by omega) hs2, z_as (by omega) hr2, z_nm, z_nm, nI_1, nI_1]
          refine ih (i + 1) (e + 1) _ _ (by omega) (by omega) (by omega) ?_
          intro j hj
          by_cases e1 : j = e
          · subst e1; exact ⟨k, hk2, z_updS⟩
          · rw [z_updN e1]; exact hb j (by omega)
      · rw [if_neg h1, z_nm, nI_1]
        exact ih (i + 1) e a b (by omega) (by omega) he hb
theorem k_spreadOn {f m : Nat → Int32} {F M : Nat → Nat} (h : z_FM tot f m F M) (hN : 100000 ≤ N) (ht : tot ≤ 20000) (hs : tot ≤ ns) (hr : tot ≤ nr) (hs2 : ns < 2 ^ 31) (hr2 : nr < 2 ^ 31) (p : Int32) {e : Nat} (he : e ≤ tot) (a b : Nat → Int32) (hb : z_keys tot e b) :
    ∃ e' a' b', f_Walk_spreadOn N ns nr a b (nI tot) f m p (nI e) = some (nI e', a', b') ∧ e' ≤ tot ∧ z_keys tot e' b' := by
  have hM : M 0 + M 1 + M 2 + M 3 ≤ 80000 := by
    have b0 := (h.1 0 (by omega)).2.2.1
    have b1 := (h.1 1 (by omega)).2.2.1
    have b2 := (h.1 2 (by omega)).2.2.1
    have b3 := (h.1 3 (by omega)).2.2.1
    omega
  obtain ⟨e', a', b', h1, h2, h3⟩ := k_spreadOn_L h ht hs hr hs2 hr2 p N 0 e a b (by omega) (by omega) he hb
  refine ⟨e', a', b', ?_, h2, h3⟩
  unfold f_Walk_spreadOn
  rw [k_allBeside h, q_b1_s, z_nm, show (0 : Int32) = nI 0 from rfl, h1, q_b3_s]
theorem k_spread_L (g : GOK R C H V rc cc br zc rw sh) (hN : 100000 ≤ N) (hl : l < 5) (ht : tot = 2130 * (H l * V l) + 2) (ht2 : tot ≤ 20000) (hs : tot ≤ ns) (hr : tot ≤ nr) (hs2 : ns < 2 ^ 31) (hr2 : nr < 2 ^ 31) :
    ∀ n i e (a b c d : Nat → Int32) (v1 v2 v3 v4 v5 v6 : Int32), i ≤ tot → tot - i < n → e ≤ tot → z_keys tot e b → ∃ a' b' c' d' w1 w2 w3 w4 w5 w6, f_Walk_spread_L35 N br rw sh zc nr ns (nI l) (nI tot) n (nI e) (nI i) a b c d v1 v2 v3 v4 v5 v6 = some (a', b', c', d', w1, w2, w3, w4, w5, w6) := by
  intro n
  induction n with
  | zero => intro i e a b c d v1 v2 v3 v4 v5 v6 _ h; omega
  | succ n ih =>
    intro i e a b c d v1 v2 v3 v4 v5 v6 hi hn he hb
    rw [f_Walk_spread_L35]
    by_cases h1 : e ≤ i
    · rw [if_pos (by rw [nI_leI (by omega) (by omega)]; exact h1)]
      exact ⟨_, _, _, _, _, _, _, _, _, _, rfl⟩
    · rw [if_neg (by rw [nI_leI (by omega) (by omega)]; exact h1)]
      by_cases h2 : tot ≤ i
      · rw [if_pos (by rw [nI_leI (by omega) (by omega)]; exact h2)]
        exact ⟨_, _, _, _, _, _, _, _, _, _, rfl⟩
      · obtain ⟨k, hk, hbk⟩ := hb i (by omega)
        obtain ⟨r, p, hput, hr1, hp1, -⟩ := k_put g (N := N) (by omega) hl (k := k) (by omega) v1 v2 v3 v4 v5 v6
        obtain ⟨f', m', F, M, hla, hFM⟩ := k_lookAround g hl hr1 hp1 c d
        rw [← ht] at hFM
        obtain ⟨e', a', b', hso, he', hb'⟩ := k_spreadOn hFM hN ht2 hs hr hs2 hr2 (a k + 1) he a b hb
        rw [if_neg (by rw [nI_leI (by omega) (by omega)]; exact h2), z_ai (by omega) hr2, hbk, hput, q_b6_s, hla, q_b2_s, z_ai (by omega) hr2, hbk, z_ai (by omega) hs2, hso, q_b3_s, z_nm, nI_1]
        exact ih (i + 1) e' a' b' f' m' _ _ _ _ _ _ (by omega) (by omega) he' hb'
theorem k_spread (g : GOK R C H V rc cc br zc rw sh) (hN : 100000 ≤ N) (hl : l < 5) (ht2 : 2130 * (H l * V l) + 2 ≤ 20000) (hs : 2130 * (H l * V l) + 2 ≤ ns) (hr : 2130 * (H l * V l) + 2 ≤ nr) (hs2 : ns < 2 ^ 31) (hr2 : nr < 2 ^ 31) {k : Nat} (hk : k < 2130 * (H l * V l) + 2) (a b c d : Nat → Int32) (mm v1 v2 v3 v4 v5 v6 : Int32) :
    ∃ a' b' c' d' w1 w2 w3 w4 w5 w6, f_Walk_spread N ns nr a b mm c d v1 v2 v3 v4 v5 v6 br zc rw sh (nI l) (nI k) = some (a', b', nI (2130 * (H l * V l) + 2), c', d', w1, w2, w3, w4, w5, w6) := by
  obtain ⟨-, -, -, -, -, e6⟩ := g.at hl
  obtain ⟨f, hf⟩ := k_makeRoom (N := N) (tot := 2130 * (H l * V l) + 2) (ns := ns) (by omega) hs hs2 a mm
  unfold f_Walk_spread
  rw [z_ai hl (by omega), e6, hf, q_b2_s, show (0 : Int32) = nI 0 from rfl, z_as (by omega) hr2, z_as (by omega) hs2, z_nm, z_nm, z_i 1]
  obtain ⟨a', b', c', d', w1, w2, w3, w4, w5, w6, h⟩ := k_spread_L g hN hl rfl ht2 hs hr hs2 hr2 N 0 1 (upd f k (nI 0)) (upd b 0 (nI k)) c d v1 v2 v3 v4 v5 v6 (by omega) (by omega) (by omega) (by
    intro j hj
    have : j = 0 := by omega
    subst this
    exact ⟨k, hk, z_updS⟩)
  rw [h, q_b10_s]
  exact ⟨a', b', c', d', w1, w2, w3, w4, w5, w6, rfl⟩
theorem k_stepsTo {k : Nat} (hk : k < ns) (hs2 : ns < 2 ^ 31) (a : Nat → Int32) : f_Walk_stepsTo ns a (nI k) = some (a k) := by
  unfold f_Walk_stepsTo
  rw [z_ai hk hs2]
theorem k_within_L (hs : tot ≤ ns) (hs2 : ns < 2 ^ 31) (p : Int32) (a : Nat → Int32) : ∀ n i (v : Int32), i ≤ tot → tot - i < n → ∃ r, f_Walk_within_L4 ns p (nI tot) a n v (nI i) = some r := by
  intro n
  induction n with
  | zero => intro i v _ h; omega
  | succ n ih =>
    intro i v hi hn
    rw [f_Walk_within_L4]
    by_cases h2 : tot ≤ i
    · rw [if_pos (by rw [nI_leI (by omega) (by omega)]; exact h2)]; exact ⟨_, rfl⟩
    · rw [if_neg (by rw [nI_leI (by omega) (by omega)]; exact h2), z_ai (by omega) hs2, z_j1]
      dsimp only
      by_cases h3 : p < a i
      · rw [if_pos h3, z_nm, nI_1]; exact ih (i + 1) _ (by omega) (by omega)
      · rw [if_neg h3, z_nm, z_nm, nI_1]; exact ih (i + 1) _ (by omega) (by omega)
theorem k_within (hN : tot < N) (hs : tot ≤ ns) (hs2 : ns < 2 ^ 31) (p : Int32) (a : Nat → Int32) : ∃ r, f_Walk_within N ns a (nI tot) p = some r := by
  unfold f_Walk_within
  obtain ⟨r, h⟩ := k_within_L hs hs2 p a N 0 0 (by omega) (by omega)
  rw [z_nm, z_nm, show f_Walk_within_L4 ns p (nI tot) a N 0 0 = some r from h, q_b1_s]
  exact ⟨r, rfl⟩
theorem k_farthest_L (hs : tot ≤ ns) (hs2 : ns < 2 ^ 31) (h0 : 1 ≤ tot) (a : Nat → Int32) : ∀ n i k, i ≤ tot → k < tot → tot - i < n → ∃ r, f_Walk_farthestKey_L4 ns (nI tot) a n (nI k) (nI i) = some (nI r) ∧ r < tot := by
  intro n
  induction n with
  | zero => intro i k _ _ h; omega
  | succ n ih =>
    intro i k hi hk hn
    rw [f_Walk_farthestKey_L4]
    by_cases h2 : tot ≤ i
    · rw [if_pos (by rw [nI_leI (by omega) (by omega)]; exact h2)]; exact ⟨_, rfl, hk⟩
    · rw [if_neg (by rw [nI_leI (by omega) (by omega)]; exact h2), z_ai (by omega) hs2, z_ai (by omega) hs2, z_j1]
      dsimp only
      by_cases h3 : a i ≤ a k
      · rw [if_pos h3, z_nm, nI_1]; exact ih (i + 1) k (by omega) hk (by omega)
      · rw [if_neg h3, z_nm, nI_1]; exact ih (i + 1) i (by omega) (by omega) (by omega)
theorem k_farthestKey (hN : tot < N) (hs : tot ≤ ns) (hs2 : ns < 2 ^ 31) (h0 : 1 ≤ tot) (a : Nat → Int32) : ∃ r, f_Walk_farthestKey N ns a (nI tot) = some (nI r) ∧ r < tot := by
  unfold f_Walk_farthestKey
  obtain ⟨r, h, hr⟩ := k_farthest_L hs hs2 h0 a N 1 0 (by omega) (by omega) (by omega)
  rw [z_nm, z_nm, show f_Walk_farthestKey_L4 ns (nI tot) a N 0 1 = some (nI r) from h, q_b1_s]
  exact ⟨r, rfl, hr⟩
theorem k_nearer {f m : Nat → Int32} {F M : Nat → Nat} (h : z_FM tot f m F M) (hN : 100000 ≤ N) (ht : tot ≤ 20000) (hs : tot ≤ ns) (hs2 : ns < 2 ^ 31) (a : Nat → Int32) {k : Nat} (hk : k < tot) : ∃ r, f_Walk_nearer N ns a f m (nI k) = some (nI r) ∧ r < tot := by
  have hM : M 0 + M 1 + M 2 + M 3 ≤ 80000 := by
    have b0 := (h.1 0 (by omega)).2.2.1
    have b1 := (h.1 1 (by omega)).2.2.1
    have b2 := (h.1 2 (by omega)).2.2.1
    have b3 := (h.1 3 (by omega)).2.2.1
    omega
  have L : ∀ n i, i ≤ M 0 + M 1 + M 2 + M 3 → M 0 + M 1 + M 2 + M 3 - i < n → ∃ o, f_Walk_nearer_L10 ns (nI k) (nI (M 0 + M 1 + M 2 + M 3)) a f m n (nI i) = some o ∧ (o = .inl () ∨ ∃ r, r < tot ∧ o = .inr (nI r)) := by
    intro n
    induction n with
    | zero => intro i _ h; omega
    | succ n ih =>
      intro i hi hn
      rw [f_Walk_nearer_L10]
      by_cases hc : M 0 + M 1 + M 2 + M 3 ≤ i
      · rw [if_pos (by rw [nI_leI (by omega) (by omega)]; exact hc)]
        exact ⟨_, rfl, Or.inl rfl⟩
      · obtain ⟨q, hq1, hq2⟩ := k_besideKey h (by omega) (show i < M 0 + M 1 + M 2 + M 3 by omega)
        rw [if_neg (by rw [nI_leI (by omega) (by omega)]; exact hc), hq1, q_b1_s, z_ai (by omega) hs2, z_ai (by omega) hs2]
        by_cases h1 : a q = a k - 1
        · rw [if_pos h1]; exact ⟨_, rfl, Or.inr ⟨q, hq2, rfl⟩⟩
        · rw [if_neg h1, z_nm, nI_1]; exact ih (i + 1) (by omega) (by omega)
  obtain ⟨o, ho, hd⟩ := L N 0 (by omega) (by omega)
  unfold f_Walk_nearer
  rw [k_allBeside h, q_b1_s, z_nm, show f_Walk_nearer_L10 ns (nI k) (nI (M 0 + M 1 + M 2 + M 3)) a f m N 0 = some o from ho]
  rcases hd with rfl | ⟨r, hr, rfl⟩
  · exact ⟨k, rfl, hk⟩
  · exact ⟨r, rfl, hr⟩
theorem k_onTheWay_L (g : GOK R C H V rc cc br zc rw sh) (hN : 100000 ≤ N) (hl : l < 5) (ht : tot = 2130 * (H l * V l) + 2) (ht2 : tot ≤ 20000) (hs : tot ≤ ns) (hs2 : ns < 2 ^ 31) (a : Nat → Int32) (p3 : Int32) :
    ∀ n i k (c d : Nat → Int32) (v1 v2 v3 v4 v5 v6 : Int32), i ≤ tot → tot - i < n → k < tot → ∃ r c' d' w1 w2 w3 w4 w5 w6, f_Walk_onTheWay_L6 N br rw sh zc ns (nI l) p3 (nI tot) a n (nI k) (nI i) c d v1 v2 v3 v4 v5 v6 = some (nI r, c', d', w1, w2, w3, w4, w5, w6) ∧ r < tot := by
  intro n
  induction n with
  | zero => intro i k c d v1 v2 v3 v4 v5 v6 _ h; omega
  | succ n ih =>
    intro i k c d v1 v2 v3 v4 v5 v6 hi hn hk
    rw [f_Walk_onTheWay_L6]
    by_cases h1 : p3 ≤ nI i
    · rw [if_pos h1]; exact ⟨k, _, _, _, _, _, _, _, _, rfl, hk⟩
    · rw [if_neg h1]
      by_cases h2 : tot ≤ i
      · rw [if_pos (by rw [nI_leI (by omega) (by omega)]; exact h2)]
        exact ⟨k, _, _, _, _, _, _, _, _, rfl, hk⟩
      · obtain ⟨r, p, hput, hr1, hp1, -⟩ := k_put g (N := N) (by omega) hl (k := k) (by omega) v1 v2 v3 v4 v5 v6
        obtain ⟨f', m', F, M, hla, hFM⟩ := k_lookAround g hl hr1 hp1 c d
        rw [← ht] at hFM
        obtain ⟨q, hq, hqt⟩ := k_nearer hFM hN ht2 hs hs2 a hk
        rw [if_neg (by rw [nI_leI (by omega) (by omega)]; exact h2), hput, q_b6_s, hla, q_b2_s, hq, q_b1_s, z_nm, nI_1]
        exact ih (i + 1) q f' m' _ _ _ _ _ _ (by omega) (by omega) hqt
end WALKF
