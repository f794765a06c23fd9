/-! answers: walks; distances, pure -/
section S18A
variable {A : Nat → Nat → Prop} {tot src : Nat}
/-- what a walk has written when it has ended -/
def z_S (A : Nat → Nat → Prop) (tot src : Nat) (f : Nat → Int32) : Prop :=
  f src = nI 0 ∧ (∀ k, k < tot → f k = -1 ∨ ∃ d, d < tot ∧ f k = nI d) ∧
  (∀ k, k < tot → f k = nI 0 → k = src) ∧
  (∀ k, k < tot → ∀ d, d + 1 < 2 ^ 31 → f k = nI (d + 1) → ∃ k2, k2 < tot ∧ A k2 k ∧ f k2 = nI d) ∧
  (∀ k, k < tot → ∀ d, d < 2 ^ 31 → f k = nI d → ∀ k2, k2 < tot → A k k2 → ∃ d2, d2 ≤ d + 1 ∧ f k2 = nI d2)
theorem z_S_le {f g : Nat → Int32} (hf : z_S A tot src f) (hg : z_S A tot src g) : ∀ d, d < 2 ^ 31 → ∀ k, k < tot → f k = nI d → ∃ d2, d2 ≤ d ∧ g k = nI d2 := by
  intro d
  induction d with
  | zero =>
    intro _ k hk h
    have := hf.2.2.1 k hk h
    subst this
    exact ⟨0, Nat.le_refl 0, hg.1⟩
  | succ d ih =>
    intro hd k hk h
    obtain ⟨k2, h1, h2, h3⟩ := hf.2.2.2.1 k hk d hd h
    obtain ⟨d2, h4, h5⟩ := ih (by omega) k2 h1 h3
    obtain ⟨d3, h6, h7⟩ := hg.2.2.2.2 k2 h1 d2 (by omega) h5 k hk h2
    exact ⟨d3, by omega, h7⟩
theorem z_S_one {f g : Nat → Int32} (ht : tot ≤ 20000) (hf : z_S A tot src f) (hg : z_S A tot src g) : ∀ k, k < tot → f k = g k := by
  intro k hk
  rcases hf.2.1 k hk with h | ⟨d, hd, h⟩
  · rcases hg.2.1 k hk with h2 | ⟨d2, hd2, h2⟩
    · rw [h, h2]
    · obtain ⟨d3, h3, h4⟩ := z_S_le hg hf d2 (by omega) k hk h2
      rw [h] at h4
      exact absurd h4.symm (z_nIm1 (by omega))
  · obtain ⟨d3, h3, h4⟩ := z_S_le hf hg d (by omega) k hk h
    obtain ⟨d5, h5, h6⟩ := z_S_le hg hf d3 (by omega) k hk h4
    rw [h, nI_eq (by omega) (by omega)] at h6
    rw [h, h4]
    refine congrArg nI ?_
    omega
theorem z_S_sym {a b : Nat} {f g : Nat → Int32} (hA : ∀ k k2, A k k2 → A k2 k) (hf : z_S A tot a f) (hg : z_S A tot b g) : ∀ d, d < 2 ^ 31 → ∀ k, k < tot → f k = nI d → ∀ d2, d2 + d < 2 ^ 31 → g k = nI d2 → ∃ d3, d3 ≤ d2 + d ∧ g a = nI d3 := by
  intro d
  induction d with
  | zero =>
    intro _ k hk h d2 _ h2
    have := hf.2.2.1 k hk h
    subst this
    exact ⟨d2, by omega, h2⟩
  | succ d ih =>
    intro hd k hk h d2 hd2 h2
    obtain ⟨k2, h3, h4, h5⟩ := hf.2.2.2.1 k hk d hd h
    obtain ⟨d4, h6, h7⟩ := hg.2.2.2.2 k hk d2 (by omega) h2 k2 h3 (hA _ _ h4)
    obtain ⟨d5, h8, h9⟩ := ih (by omega) k2 h3 h5 d4 (by omega) h7
    exact ⟨d5, by omega, h9⟩
theorem z_S_both {a b : Nat} {f g : Nat → Int32} (ht : tot ≤ 20000) (hA : ∀ k k2, A k k2 → A k2 k) (ha : a < tot) (hb : b < tot) (hf : z_S A tot a f) (hg : z_S A tot b g) : f b = g a := by
  rcases hf.2.1 b hb with h | ⟨d, hd, h⟩
  · rcases hg.2.1 a ha with h2 | ⟨d2, hd2, h2⟩
    · rw [h, h2]
    · obtain ⟨d3, h3, h4⟩ := z_S_sym hA hg hf d2 (by omega) a ha h2 0 (by omega) hf.1
      rw [h] at h4
      exact absurd h4.symm (z_nIm1 (by omega))
  · obtain ⟨d3, h3, h4⟩ := z_S_sym hA hf hg d (by omega) b hb h 0 (by omega) hg.1
    obtain ⟨d5, h5, h6⟩ := z_S_sym hA hg hf d3 (by omega) a ha h4 0 (by omega) hf.1
    rw [h, nI_eq (by omega) (by omega)] at h6
    rw [h, h4]
    refine congrArg nI ?_
    omega
/-- a walk under way: i keys are done, e are in the row Q; D: how far -/
def z_bq (A : Nat → Nat → Prop) (tot src : Nat) (f qu : Nat → Int32) (i e : Nat) (Q D : Nat → Nat) : Prop :=
  z_cnt f tot = e ∧
  (∀ j, j < e → Q j < tot ∧ qu j = nI (Q j) ∧ f (Q j) = nI (D (Q j)) ∧ D (Q j) ≤ j) ∧
  (∀ k, k < tot → f k = -1 ∨ ∃ j, j < e ∧ Q j = k) ∧
  (0 < e ∧ Q 0 = src ∧ D src = 0) ∧
  (∀ j, j < e → j ≠ 0 → ∃ j2, j2 < e ∧ A (Q j2) (Q j) ∧ D (Q j) = D (Q j2) + 1) ∧
  (∀ j j2, j ≤ j2 → j2 < e → D (Q j) ≤ D (Q j2) ∧ (i ≤ j → D (Q j2) ≤ D (Q j) + 1)) ∧
  (∀ j, j < i → ∀ k2, k2 < tot → A (Q j) k2 → f k2 ≠ -1 ∧ D k2 ≤ D (Q j) + 1)
def z_bx (A : Nat → Nat → Prop) (tot src i : Nat) (f qu : Nat → Int32) (e : Nat) : Prop := ∃ Q D, z_bq A tot src f qu i e Q D
/-- the i-th key is being done -/
def z_bi (A : Nat → Nat → Prop) (tot src key dk i : Nat) (f qu : Nat → Int32) (e : Nat) : Prop := ∃ Q D, z_bq A tot src f qu i e Q D ∧ i < e ∧ Q i = key ∧ D key = dk
theorem z_bi_f {key dk i e : Nat} {f qu : Nat → Int32} (h : z_bi A tot src key dk i f qu e) : key < tot ∧ f key = nI dk ∧ dk < e ∧ e ≤ tot ∧ i < e := by
  obtain ⟨Q, D, ⟨h1, h2, -⟩, hi, rfl, rfl⟩ := h
  have he := z_cnt_le f tot
  obtain ⟨a, -, b, c⟩ := h2 i hi
  exact ⟨a, b, by omega, by omega, hi⟩
theorem z_bi_meet {key dk i e : Nat} {f qu : Nat → Int32} (ht : tot ≤ 20000) (h : z_bi A tot src key dk i f qu e) {k : Nat} (hk : k < tot) (hA : A key k) (hm : f k = -1) : e < tot ∧ z_bi A tot src key dk i (upd f k (nI (dk + 1))) (upd qu e (nI k)) (e + 1) := by
  obtain ⟨Q, D, ⟨h1, h2, h3, ⟨h4, h5, h6⟩, h7, h8, h9⟩, hi, rfl, rfl⟩ := h
  have he := z_cnt_lt hm tot hk
  rw [h1] at he
  have hne : ∀ j, j < e → Q j ≠ k := by
    intro j hj z
    obtain ⟨-, -, b, c⟩ := h2 j hj
    rw [z, hm] at b
    exact z_nIm1 (by rw [z] at c; omega) b.symm
  have hdi := (h2 i hi).2.2.2
  obtain ⟨Q2, hQ, hQe⟩ : ∃ Q2 : Nat → Nat, (∀ j, j < e → Q2 j = Q j) ∧ Q2 e = k := ⟨fun j => if j = e then k else Q j, fun j hj => if_neg (by omega), if_pos rfl⟩
  obtain ⟨D2, hDk, hDo⟩ : ∃ D2 : Nat → Nat, D2 k = D (Q i) + 1 ∧ ∀ q, q ≠ k → D2 q = D q := ⟨fun q => if q = k then D (Q i) + 1 else D q, if_pos rfl, fun q hq => if_neg hq⟩
  have hD : ∀ j, j < e → D2 (Q j) = D (Q j) := fun j hj => hDo _ (hne j hj)
  refine ⟨he, Q2, D2, ⟨?_, ?_, ?_, ?_, ?_, ?_, ?_⟩, by omega, hQ i hi, hD i hi⟩
  · rw [z_cnt_upd hm (z_nIm1 (by omega)) tot hk, h1]
  · intro j hj
    by_cases ej : j = e
    · subst ej
      rw [hQe, hDk]
      exact ⟨hk, z_updS, z_updS, by omega⟩
    · obtain ⟨a, b, c, d⟩ := h2 j (by omega)
      rw [hQ j (by omega), hD j (by omega), z_updN ej, z_updN (hne j (by omega))]
      exact ⟨a, b, c, d⟩
  · intro q hq
    by_cases eq : q = k
    · subst eq; exact Or.inr ⟨e, by omega, hQe⟩
    · rw [z_updN eq]
      rcases h3 q hq with z | ⟨j, a, b⟩
      · exact Or.inl z
      · exact Or.inr ⟨j, by omega, by rw [hQ j a]; exact b⟩
  · refine ⟨by omega, by rw [hQ 0 h4]; exact h5, ?_⟩
    have := hD 0 h4
    rw [h5, h6] at this
    exact this
  · intro j hj hj0
    by_cases ej : j = e
    · subst ej
      exact ⟨i, by omega, by rw [hQ i hi, hQe]; exact hA, by rw [hQe, hDk, hQ i hi, hD i hi]⟩
    · obtain ⟨j2, a, b, c⟩ := h7 j (by omega) hj0
      exact ⟨j2, by omega, by rw [hQ j (by omega), hQ j2 a]; exact b, by rw [hQ j (by omega), hQ j2 a, hD j (by omega), hD j2 a]; exact c⟩
  · intro j j2 hjj hj2
    by_cases e2 : j2 = e
    · subst e2
      rw [hQe, hDk]
      by_cases ej : j = j2
      · subst ej; rw [hQe, hDk]; exact ⟨by omega, fun _ => by omega⟩
      · rw [hQ j (by omega), hD j (by omega)]
        rcases Nat.lt_or_ge j i with c | c
        · exact ⟨by have := (h8 j i (by omega) hi).1; omega, fun z => by omega⟩
        · have u := h8 i j c (by omega)
          have v := u.2 (Nat.le_refl i)
          exact ⟨by omega, fun _ => by have := u.1; omega⟩
    · rw [hQ j (by omega), hD j (by omega), hQ j2 (by omega), hD j2 (by omega)]
      exact h8 j j2 hjj (by omega)
  · intro j hj k2 hk2 ha
    rw [hQ j (by omega)] at ha ⊢
    rw [hD j (by omega)]
    obtain ⟨a, b⟩ := h9 j hj k2 hk2 ha
    have : k2 ≠ k := fun z => a (by rw [z]; exact hm)
    rw [z_updN this, hDo k2 this]
    exact ⟨a, b⟩
theorem z_bi_next {key dk i e : Nat} {f qu : Nat → Int32} (h : z_bi A tot src key dk i f qu e) (hm : ∀ k2, k2 < tot → A key k2 → f k2 ≠ -1) : z_bx A tot src (i + 1) f qu e := by
  obtain ⟨Q, D, ⟨h1, h2, h3, h4, h7, h8, h9⟩, hi, rfl, rfl⟩ := h
  refine ⟨Q, D, h1, h2, h3, h4, h7, fun j j2 a b => ⟨(h8 j j2 a b).1, fun c => (h8 j j2 a b).2 (by omega)⟩, fun j hj k2 hk2 ha => ?_⟩
  by_cases ej : j = i
  · subst ej
    have h0 := hm k2 hk2 ha
    refine ⟨h0, ?_⟩
    rcases h3 k2 hk2 with z | ⟨j2, a, b⟩
    · exact absurd z h0
    · subst b
      rcases Nat.lt_or_ge j2 j with c | c
      · have := (h8 j2 j (by omega) hi).1; omega
      · exact (h8 j j2 c a).2 (Nat.le_refl j)
  · exact h9 j (by omega) k2 hk2 ha
theorem z_bx_at {i e : Nat} {f qu : Nat → Int32} (h : z_bx A tot src i f qu e) (hi : i < e) : ∃ key dk, z_bi A tot src key dk i f qu e ∧ qu i = nI key := by
  obtain ⟨Q, D, h⟩ := h
  exact ⟨Q i, D (Q i), ⟨Q, D, h, hi, rfl, rfl⟩, (h.2.1 i hi).2.1⟩
theorem z_bx_e {i e : Nat} {f qu : Nat → Int32} (h : z_bx A tot src i f qu e) : e ≤ tot := by
  obtain ⟨Q, D, h1, -⟩ := h
  have := z_cnt_le f tot
  omega
theorem z_bx_end {i e : Nat} {f qu : Nat → Int32} (ht : tot ≤ 20000) (h : z_bx A tot src i f qu e) (hi : e ≤ i) : z_S A tot src f := by
  have het := z_bx_e h
  obtain ⟨Q, D, h1, h2, h3, ⟨h4, h5, h6⟩, h7, h8, h9⟩ := h
  have here : ∀ k, k < tot → f k ≠ -1 → ∃ j, j < e ∧ Q j = k ∧ f k = nI (D k) ∧ D k ≤ j := by
    intro k hk hf
    rcases h3 k hk with z | ⟨j, a, b⟩
    · exact absurd z hf
    · subst b
      obtain ⟨-, -, c, d⟩ := h2 j a
      exact ⟨j, a, rfl, c, d⟩
  refine ⟨?_, fun k hk => ?_, fun k hk h => ?_, fun k hk d hd h => ?_, fun k hk d hd h k2 hk2 ha => ?_⟩
  · have := (h2 0 h4).2.2.1
    rw [h5, h6] at this
    exact this
  · by_cases c : f k = -1
    · exact Or.inl c
    · obtain ⟨j, a, -, b, d⟩ := here k hk c
      exact Or.inr ⟨D k, by omega, b⟩
  · obtain ⟨j, a, b, c, d⟩ := here k hk (by rw [h]; exact z_nIm1 (by omega))
    rw [c, nI_eq (by omega) (by omega)] at h
    by_cases ej : j = 0
    · subst ej; rw [← b]; exact h5
    · obtain ⟨j2, -, -, x⟩ := h7 j a ej
      rw [b] at x
      omega
  · obtain ⟨j, a, b, c, x⟩ := here k hk (by rw [h]; exact z_nIm1 hd)
    rw [c, nI_eq (by omega) hd] at h
    have ej : j ≠ 0 := by
      intro z
      subst z
      rw [← b, h5] at h
      omega
    obtain ⟨j2, y1, y2, y3⟩ := h7 j a ej
    obtain ⟨z1, -, z2, -⟩ := h2 j2 y1
    rw [b] at y2 y3
    refine ⟨Q j2, z1, y2, ?_⟩
    rw [z2]
    refine congrArg nI ?_
    omega
  · obtain ⟨j, a, b, c, x⟩ := here k hk (by rw [h]; exact z_nIm1 hd)
    rw [c, nI_eq (by omega) hd] at h
    rw [← b] at ha
    obtain ⟨y1, y2⟩ := h9 j (by omega) k2 hk2 ha
    obtain ⟨j2, z1, z2, z3, z4⟩ := here k2 hk2 y1
    rw [b] at y2
    exact ⟨D k2, by omega, z3⟩
theorem z_bx_0 {f qu : Nat → Int32} (hs : src < tot) (h : ∀ j, j < tot → f j = -1) : z_bx A tot src 0 (upd f src (nI 0)) (upd qu 0 (nI src)) 1 := by
  refine ⟨fun _ => src, fun _ => 0, ?_, fun j hj => ?_, fun k hk => ?_, ⟨by omega, rfl, rfl⟩, fun j hj h0 => by omega, fun j j2 h1 h2 => ⟨Nat.le_refl 0, fun _ => Nat.zero_le _⟩, fun j hj => by omega⟩
  · rw [z_cnt_upd (h src hs) (z_nIm1 (by omega)) tot hs, z_cnt_none tot h]
  · have : j = 0 := by omega
    subst this
    exact ⟨hs, z_updS, z_updS, Nat.le_refl 0⟩
  · by_cases e : k = src
    · exact Or.inr ⟨0, by omega, e.symm⟩
    · rw [z_updN e]; exact Or.inl (h k hk)
/-- the next one on the way: the least key of those that are a step nearer -/
def z_nx (A : Nat → Nat → Prop) (tot : Nat) (f : Nat → Int32) (k k2 : Nat) : Prop := k2 < tot ∧ A k k2 ∧ f k2 = f k - 1 ∧ ∀ q, q < tot → A k q → f q = f k - 1 → k2 ≤ q
def z_wy (A : Nat → Nat → Prop) (tot : Nat) (f : Nat → Int32) : Nat → Nat → Nat → Prop
  | 0, k, r => r = k
  | n + 1, k, r => ∃ k2, z_nx A tot f k k2 ∧ z_wy A tot f n k2 r
theorem z_nx_one {f g : Nat → Int32} (h : ∀ k, k < tot → f k = g k) {k a b : Nat} (hk : k < tot) (h1 : z_nx A tot f k a) (h2 : z_nx A tot g k b) : a = b := by
  obtain ⟨a1, a2, a3, a4⟩ := h1
  obtain ⟨b1, b2, b3, b4⟩ := h2
  have := a4 b b1 b2 (by rw [h b b1, h k hk]; exact b3)
  have := b4 a a1 a2 (by rw [← h a a1, ← h k hk]; exact a3)
  omega
theorem z_wy_one {f g : Nat → Int32} (h : ∀ k, k < tot → f k = g k) : ∀ n k r r2, k < tot → z_wy A tot f n k r → z_wy A tot g n k r2 → r = r2 := by
  intro n
  induction n with
  | zero => intro k r r2 _ h1 h2; exact Eq.trans h1 (Eq.symm h2)
  | succ n ih =>
    intro k r r2 hk ⟨a, a1, a2⟩ ⟨b, b1, b2⟩
    have := z_nx_one h hk a1 b1
    subst this
    exact ih a r r2 a1.1 a2 b2
/-- how many are so near -/
def z_cnl (f : Nat → Int32) (d : Int32) : Nat → Nat
  | 0 => 0
  | n + 1 => z_cnl f d n + (if d < f n then 0 else 1)
theorem z_cnl_le (f : Nat → Int32) (d : Int32) : ∀ n, z_cnl f d n ≤ n := by
  intro n
  induction n with
  | zero => exact Nat.le_refl 0
  | succ n ih => unfold z_cnl; split <;> omega
theorem z_cnl_one {f g : Nat → Int32} (d : Int32) : ∀ n, (∀ k, k < n → f k = g k) → z_cnl f d n = z_cnl g d n := by
  intro n
  induction n with
  | zero => intro _; rfl
  | succ n ih =>
    intro h
    unfold z_cnl
    rw [ih (fun k hk => h k (by omega)), h n (by omega)]
/-- the farthest of the first n -/
def z_far (f : Nat → Int32) : Nat → Nat
  | 0 => 0
  | n + 1 => if f n ≤ f (z_far f n) then z_far f n else n
theorem z_far_s (f : Nat → Int32) (n : Nat) : z_far f (n + 1) = if f n ≤ f (z_far f n) then z_far f n else n := rfl
theorem z_cnl_s (f : Nat → Int32) (d : Int32) (n : Nat) : z_cnl f d (n + 1) = z_cnl f d n + (if d < f n then 0 else 1) := rfl
theorem z_far_lt (f : Nat → Int32) : ∀ n, 1 ≤ n → z_far f n < n := by
  intro n
  induction n with
  | zero => intro h; omega
  | succ n ih =>
    intro _
    unfold z_far
    split
    · rcases Nat.eq_zero_or_pos n with z | z
      · subst z; exact Nat.lt_succ_self 0
      · have := ih z; omega
    · omega
theorem z_far_1 (f : Nat → Int32) : z_far f 1 = 0 := by
  unfold z_far
  split
  · rfl
  · rfl
theorem z_far_one {f g : Nat → Int32} : ∀ n, (∀ k, k < n → f k = g k) → z_far f n = z_far g n := by
  intro n
  induction n with
  | zero => intro _; rfl
  | succ n ih =>
    intro h
    have e := ih (fun k hk => h k (by omega))
    unfold z_far
    rcases Nat.eq_zero_or_pos n with z | z
    · subst z
      show (if f 0 ≤ f 0 then 0 else 0) = (if g 0 ≤ g 0 then 0 else 0)
      split <;> split <;> rfl
    · have l1 := z_far_lt g n z
      rw [e, h n (by omega), h (z_far g n) (by omega)]
end S18A
/-! neighbours: by sides, by keys -/
section S18B
theorem z_side_b9 {H0 V0 r p i : Nat} (hH : 1 ≤ H0) (hV : 1 ≤ V0) (hr : r ≤ 44 * H0 + 1) (hp : p < z_rl H0 V0 r) (hi : i < 4) : z_side H0 V0 (z_rs H0 V0 r + p) i (z_bF H0 V0 r p i) (z_bM H0 V0 r p i) := by
  have la := z_rl_pos (V := V0) hH hV hr
  have up : ∀ b, b ≤ 44 * H0 + 1 → ((p + 1) * z_rl H0 V0 b + z_rl H0 V0 r - 1) / z_rl H0 V0 r - p * z_rl H0 V0 b / z_rl H0 V0 r = ((p + 1) * z_rl H0 V0 b - 1) / z_rl H0 V0 r - p * z_rl H0 V0 b / z_rl H0 V0 r + 1 := by
    intro b hb
    have lb := z_rl_pos (V := V0) hH hV hb
    have e : (p + 1) * z_rl H0 V0 b = p * z_rl H0 V0 b + z_rl H0 V0 b := Nat.succ_mul _ _
    exact z_ceil (by omega) la.1 (Nat.div_le_div_right (by omega))
  have one := z_rl1 hH hV hr
  refine ⟨r, p, hr, hp, rfl, ?_⟩
  rcases (show i = 0 ∨ i = 2 ∨ i = 1 ∨ i = 3 by omega) with rfl | rfl | rfl | rfl
  · by_cases h0 : r = 0
    · exact Or.inr (Or.inl ⟨Or.inl ⟨rfl, h0⟩, by rw [z_bM0, if_pos h0]⟩)
    · exact Or.inl ⟨Or.inl rfl, r - 1, by omega, Or.inl ⟨rfl, by omega⟩, z_bF0, by rw [z_bM0, if_neg h0, up (r - 1) (by omega)]⟩
  · by_cases h0 : r = 44 * H0 + 1
    · exact Or.inr (Or.inl ⟨Or.inr ⟨rfl, h0⟩, by rw [z_bM2, if_pos h0]⟩)
    · exact Or.inl ⟨Or.inr rfl, r + 1, by omega, Or.inr ⟨rfl, rfl⟩, z_bF2, by rw [z_bM2, if_neg h0, up (r + 1) (by omega)]⟩
  · by_cases hc : r = 0 ∨ r = 44 * H0 + 1
    · exact Or.inr (Or.inr ⟨Or.inl rfl, Or.inl ⟨one.mpr hc, by rw [z_bM1, if_pos hc]⟩⟩)
    · exact Or.inr (Or.inr ⟨Or.inl rfl, Or.inr ⟨fun z => hc (one.mp z), by rw [z_bM1, if_neg hc], by rw [z_bF1, if_pos rfl]⟩⟩)
  · by_cases hc : r = 0 ∨ r = 44 * H0 + 1
    · exact Or.inr (Or.inr ⟨Or.inr rfl, Or.inl ⟨one.mpr hc, by rw [z_bM3, if_pos hc]⟩⟩)
    · exact Or.inr (Or.inr ⟨Or.inr rfl, Or.inr ⟨fun z => hc (one.mp z), by rw [z_bM3, if_neg hc], by rw [z_bF3, if_neg (show ¬ (3 : Nat) = 1 by omega)]⟩⟩)
/-- what is beside lies to a side -/
theorem z_adj_in {H0 V0 r p k2 : Nat} (hH : 1 ≤ H0) (hV : 1 ≤ V0) (hr : r ≤ 44 * H0 + 1) (hp : p < z_rl H0 V0 r) (h : z_adj H0 V0 (z_rs H0 V0 r + p) k2) : ∃ i, i < 4 ∧ z_bF H0 V0 r p i ≤ k2 ∧ k2 < z_bF H0 V0 r p i + z_bM H0 V0 r p i := by
  obtain ⟨i, hi, hh⟩ := z_adj_side hH hV h
  exact ⟨i, hi, hh _ _ (z_side_b9 hH hV hr hp hi)⟩
/-- what lies to a side is beside -/
theorem z_adj_of {H0 V0 r p i j : Nat} (hH : 1 ≤ H0) (hV : 1 ≤ V0) (hr : r ≤ 44 * H0 + 1) (hp : p < z_rl H0 V0 r) (hi : i < 4) (hj : j < z_bM H0 V0 r p i) : z_adj H0 V0 (z_rs H0 V0 r + p) (z_bF H0 V0 r p i + j) := by
  have la := z_rl_pos (V := V0) hH hV hr
  have one := z_rl1 hH hV hr
  have vert : ∀ b, b ≤ 44 * H0 + 1 → (b = r + 1 ∨ r = b + 1) → j < ((p + 1) * z_rl H0 V0 b - 1) / z_rl H0 V0 r - p * z_rl H0 V0 b / z_rl H0 V0 r + 1 → z_adj H0 V0 (z_rs H0 V0 r + p) (z_rs H0 V0 b + p * z_rl H0 V0 b / z_rl H0 V0 r + j) := by
    intro b hb hib hj
    have lb := z_rl_pos (V := V0) hH hV hb
    have m1 : (p + 1) * z_rl H0 V0 b ≤ z_rl H0 V0 r * z_rl H0 V0 b := Nat.mul_le_mul_right _ (by omega)
    have m2 : 1 * 1 ≤ (p + 1) * z_rl H0 V0 b := Nat.mul_le_mul (by omega) lb.1
    have d1 : ((p + 1) * z_rl H0 V0 b - 1) / z_rl H0 V0 r < z_rl H0 V0 b := Nat.div_lt_of_lt_mul (by omega)
    have e : (p + 1) * z_rl H0 V0 b = p * z_rl H0 V0 b + z_rl H0 V0 b := Nat.succ_mul _ _
    have d2 : p * z_rl H0 V0 b / z_rl H0 V0 r ≤ ((p + 1) * z_rl H0 V0 b - 1) / z_rl H0 V0 r := Nat.div_le_div_right (by omega)
    refine ⟨r, p, b, p * z_rl H0 V0 b / z_rl H0 V0 r + j, hr, hb, hp, by omega, rfl, Nat.add_assoc _ _ _, Or.inl ⟨hib, ?_, ?_⟩⟩
    · have := Nat.lt_div_mul_add (a := p * z_rl H0 V0 b) (show 0 < z_rl H0 V0 r by omega)
      have h3 : (p * z_rl H0 V0 b / z_rl H0 V0 r + 1) * z_rl H0 V0 r ≤ (p * z_rl H0 V0 b / z_rl H0 V0 r + j + 1) * z_rl H0 V0 r := Nat.mul_le_mul_right _ (by omega)
      rw [Nat.add_mul _ 1, Nat.one_mul] at h3
      omega
    · have h3 : p * z_rl H0 V0 b / z_rl H0 V0 r + j ≤ ((p + 1) * z_rl H0 V0 b - 1) / z_rl H0 V0 r := by omega
      have h4 := Nat.mul_le_mul_right (z_rl H0 V0 r) h3
      have h5 := Nat.div_mul_le_self ((p + 1) * z_rl H0 V0 b - 1) (z_rl H0 V0 r)
      omega
  have hor : ∀ by1, (by1 = 1 ∨ by1 = z_rl H0 V0 r - 1) → ¬ (r = 0 ∨ r = 44 * H0 + 1) → j < 1 → z_adj H0 V0 (z_rs H0 V0 r + p) (z_rs H0 V0 r + (p + by1) % z_rl H0 V0 r + j) := by
    intro by1 hb hc hj
    have hm := Nat.mod_lt (p + by1) (show 0 < z_rl H0 V0 r by omega)
    have : j = 0 := by omega
    subst this
    refine ⟨r, p, r, (p + by1) % z_rl H0 V0 r, hr, hr, hp, hm, rfl, rfl, Or.inr ⟨rfl, fun z => hc (one.mp z), ?_⟩⟩
    rcases hb with rfl | hb
    · exact Or.inl rfl
    · right
      rw [Nat.mod_add_mod, hb, show p + (z_rl H0 V0 r - 1) + 1 = p + z_rl H0 V0 r by omega, Nat.add_mod_right, Nat.mod_eq_of_lt hp]
  rcases (show i = 0 ∨ i = 2 ∨ i = 1 ∨ i = 3 by omega) with rfl | rfl | rfl | rfl
  · rw [z_bM0] at hj
    rw [z_bF0]
    by_cases h0 : r = 0
    · rw [if_pos h0] at hj; omega
    · rw [if_neg h0] at hj; exact vert (r - 1) (by omega) (by omega) hj
  · rw [z_bM2] at hj
    rw [z_bF2]
    by_cases h0 : r = 44 * H0 + 1
    · rw [if_pos h0] at hj; omega
    · rw [if_neg h0] at hj; exact vert (r + 1) (by omega) (Or.inl rfl) hj
  · rw [z_bM1] at hj
    rw [z_bF1]
    by_cases hc : r = 0 ∨ r = 44 * H0 + 1
    · rw [if_pos hc] at hj; omega
    · rw [if_neg hc] at hj; exact hor 1 (Or.inl rfl) hc hj
  · rw [z_bM3] at hj
    rw [z_bF3]
    by_cases hc : r = 0 ∨ r = 44 * H0 + 1
    · rw [if_pos hc] at hj; omega
    · rw [if_neg hc] at hj; exact hor _ (Or.inr rfl) hc hj
/-- the rows of neighbours lie in order -/
def l_ord (M F : Nat → Nat) : Prop := (M 0 ≠ 0 → M 1 ≠ 0 → F 0 + M 0 ≤ F 1 ∧ F 0 + M 0 ≤ F 3) ∧ (M 1 ≠ 0 → M 2 ≠ 0 → F 1 < F 2 ∧ F 3 < F 2) ∧ (M 0 ≠ 0 → M 2 ≠ 0 → F 0 + M 0 ≤ F 2)
theorem l_ord_of {H0 V0 r p : Nat} (hH : 1 ≤ H0) (hV : 1 ≤ V0) (hr : r ≤ 44 * H0 + 1) (hp : p < z_rl H0 V0 r) : l_ord (z_bM H0 V0 r p) (z_bF H0 V0 r p) := by
  have la := z_rl_pos (V := V0) hH hV hr
  have h1 := Nat.mod_lt (p + 1) (show 0 < z_rl H0 V0 r by omega)
  have h3 := Nat.mod_lt (p + (z_rl H0 V0 r - 1)) (show 0 < z_rl H0 V0 r by omega)
  have up : z_bM H0 V0 r p 0 ≠ 0 → z_bF H0 V0 r p 0 + z_bM H0 V0 r p 0 ≤ z_rs H0 V0 r := by
    rw [z_bM0, z_bF0]
    by_cases h0 : r = 0
    · rw [if_pos h0]; exact fun z => absurd rfl z
    · rw [if_neg h0]
      intro _
      have lb := z_rl_pos (V := V0) hH hV (show r - 1 ≤ 44 * H0 + 1 by omega)
      have m1 : (p + 1) * z_rl H0 V0 (r - 1) ≤ z_rl H0 V0 r * z_rl H0 V0 (r - 1) := Nat.mul_le_mul_right _ (by omega)
      have m2 : 1 * 1 ≤ (p + 1) * z_rl H0 V0 (r - 1) := Nat.mul_le_mul (by omega) lb.1
      have d1 : ((p + 1) * z_rl H0 V0 (r - 1) - 1) / z_rl H0 V0 r < z_rl H0 V0 (r - 1) := Nat.div_lt_of_lt_mul (by omega)
      have e : (p + 1) * z_rl H0 V0 (r - 1) = p * z_rl H0 V0 (r - 1) + z_rl H0 V0 (r - 1) := Nat.succ_mul _ _
      have d2 : p * z_rl H0 V0 (r - 1) / z_rl H0 V0 r ≤ ((p + 1) * z_rl H0 V0 (r - 1) - 1) / z_rl H0 V0 r := Nat.div_le_div_right (by omega)
      have hn := z_rs_succ (V := V0) hH (show r - 1 ≤ 44 * H0 by omega)
      rw [show r - 1 + 1 = r by omega] at hn
      generalize ((p + 1) * z_rl H0 V0 (r - 1) - 1) / z_rl H0 V0 r = y at *
      generalize p * z_rl H0 V0 (r - 1) / z_rl H0 V0 r = x at *
      omega
  have dn : z_bM H0 V0 r p 2 ≠ 0 → z_rs H0 V0 r + z_rl H0 V0 r ≤ z_bF H0 V0 r p 2 := by
    rw [z_bM2, z_bF2]
    by_cases h0 : r = 44 * H0 + 1
    · rw [if_pos h0]; exact fun z => absurd rfl z
    · rw [if_neg h0]
      intro _
      rw [z_rs_succ (V := V0) hH (show r ≤ 44 * H0 by omega)]
      exact Nat.le_add_right _ _
  unfold l_ord
  rw [show z_bF H0 V0 r p 1 = _ from z_bF1, show z_bF H0 V0 r p 3 = _ from z_bF3]
  refine ⟨fun a b => ?_, fun a b => ?_, fun a b => ?_⟩
  · have := up a; omega
  · have := dn b; omega
  · have := up a; have := dn b; omega
theorem l_nA_side {M F : Nat → Nat} (h : l_MF M F) {j : Nat} (hj : j < l_tot M) : ∃ i j2, i < 4 ∧ j2 < M i ∧ l_nA M F j = F i + j2 := by
  unfold l_tot at hj
  obtain ⟨⟨h13, h1⟩, -⟩ := h
  unfold l_nA
  by_cases c0 : j < M 0
  · rw [if_pos c0]; exact ⟨0, j, by omega, c0, rfl⟩
  rw [if_neg c0]
  by_cases c1 : j - M 0 < M 1 + M 3
  · rw [if_pos c1]
    split
    · split
      · exact ⟨3, 0, by omega, by omega, rfl⟩
      · exact ⟨1, 0, by omega, by omega, rfl⟩
    · split
      · exact ⟨1, 0, by omega, by omega, rfl⟩
      · exact ⟨3, 0, by omega, by omega, rfl⟩
  · rw [if_neg c1]
    exact ⟨2, j - M 0 - M 1 - M 3, by omega, by omega, rfl⟩
theorem l_nA_all {M F : Nat → Nat} (h : l_MF M F) {i k : Nat} (hi : i < 4) (h1 : F i ≤ k) (h2 : k < F i + M i) : ∃ j, j < l_tot M ∧ l_nA M F j = k := by
  obtain ⟨⟨h13, h1'⟩, -⟩ := h
  unfold l_tot
  rcases (show i = 0 ∨ i = 2 ∨ i = 1 ∨ i = 3 by omega) with rfl | rfl | rfl | rfl
  · refine ⟨k - F 0, by omega, ?_⟩
    unfold l_nA
    rw [if_pos (show k - F 0 < M 0 by omega)]; omega
  · refine ⟨M 0 + M 1 + M 3 + (k - F 2), by omega, ?_⟩
    unfold l_nA
    rw [if_neg (show ¬ M 0 + M 1 + M 3 + (k - F 2) < M 0 by omega), if_neg (show ¬ M 0 + M 1 + M 3 + (k - F 2) - M 0 < M 1 + M 3 by omega)]; omega
  · by_cases c : F 3 < F 1
    · refine ⟨M 0 + 1, by omega, ?_⟩
      unfold l_nA
      rw [if_neg (show ¬ M 0 + 1 < M 0 by omega), if_pos (show M 0 + 1 - M 0 < M 1 + M 3 by omega), if_neg (show ¬ M 0 + 1 - M 0 = 0 by omega), if_pos (show F 3 ≤ F 1 by omega)]; omega
    · refine ⟨M 0, by omega, ?_⟩
      unfold l_nA
      rw [if_neg (show ¬ M 0 < M 0 by omega), if_pos (show M 0 - M 0 < M 1 + M 3 by omega), if_pos (show M 0 - M 0 = 0 by omega), if_neg c]; omega
  · by_cases c : F 3 < F 1
    · refine ⟨M 0, by omega, ?_⟩
      unfold l_nA
      rw [if_neg (show ¬ M 0 < M 0 by omega), if_pos (show M 0 - M 0 < M 1 + M 3 by omega), if_pos (show M 0 - M 0 = 0 by omega), if_pos c]; omega
    · by_cases c2 : F 3 = F 1
      · refine ⟨M 0, by omega, ?_⟩
        unfold l_nA
        rw [if_neg (show ¬ M 0 < M 0 by omega), if_pos (show M 0 - M 0 < M 1 + M 3 by omega), if_pos (show M 0 - M 0 = 0 by omega), if_neg c]; omega
      · refine ⟨M 0 + 1, by omega, ?_⟩
        unfold l_nA
        rw [if_neg (show ¬ M 0 + 1 < M 0 by omega), if_pos (show M 0 + 1 - M 0 < M 1 + M 3 by omega), if_neg (show ¬ M 0 + 1 - M 0 = 0 by omega), if_neg (show ¬ F 3 ≤ F 1 by omega)]; omega
theorem l_nA_mono {M F : Nat → Nat} (h : l_MF M F) (ho : l_ord M F) {i j : Nat} (hij : i ≤ j) (hj : j < l_tot M) : l_nA M F i ≤ l_nA M F j := by
  unfold l_tot at hj
  obtain ⟨⟨h13, h1⟩, -⟩ := h
  obtain ⟨o1, o2, o3⟩ := ho
  unfold l_nA
  by_cases a0 : i < M 0
  · rw [if_pos a0]
    by_cases b0 : j < M 0
    · rw [if_pos b0]; omega
    rw [if_neg b0]
    by_cases b1 : j - M 0 < M 1 + M 3
    · rw [if_pos b1]
      have := o1 (by omega) (by omega)
      split
      · split <;> omega
      · split <;> omega
    · rw [if_neg b1]
      have := o3 (by omega) (by omega)
      omega
  rw [if_neg a0, if_neg (show ¬ j < M 0 by omega)]
  by_cases a1 : i - M 0 < M 1 + M 3
  · rw [if_pos a1]
    by_cases b1 : j - M 0 < M 1 + M 3
    · rw [if_pos b1]
      split
      · split
        · split
          · omega
          · split <;> omega
        · split
          · omega
          · split <;> omega
      · rw [if_neg (show ¬ j - M 0 = 0 by omega)]
        exact Nat.le_refl _
    · rw [if_neg b1]
      have := o2 (by omega) (by omega)
      split
      · split <;> omega
      · split <;> omega
  · rw [if_neg a1, if_neg (show ¬ j - M 0 < M 1 + M 3 by omega)]
    omega
end S18B
/-! the class's walk -/
section S18C
variable {R C H V : Nat → Nat} {rc cc br zc rw sh : Nat → Int32} {N l tot ns nr : Nat} {A : Nat → Nat → Prop}
theorem l_tot_b {M F : Nat → Nat} (h : l_MF M F) : l_tot M ≤ 2400000 := by
  have h0 := (h.2 0 (by omega)).1
  have h1 := (h.2 1 (by omega)).1
  have h2 := (h.2 2 (by omega)).1
  have h3 := (h.2 3 (by omega)).1
  unfold l_tot
  omega
theorem r_makeRoom_L (h1 : tot ≤ ns) (h2 : ns < 2 ^ 31) : ∀ n i (f : Nat → Int32), i ≤ tot → tot - i < n → (∀ j, j < i → f j = -1) → Ok (f_Walk_makeRoom_L30 ns (nI tot) n (nI i) f) (fun f2 => ∀ j, j < tot → f2 j = -1) := by
  intro n
  induction n with
  | zero => intro i f _ h; omega
  | succ n ih =>
    intro i f hi hn hf
    rw [f_Walk_makeRoom_L30]
    refine Ok.ite (fun hc => Ok.ret (fun j hj => hf j ?_)) (fun hc => ?_)
    all_goals rw [nI_leI (by omega) (by omega)] at hc
    · omega
    · refine Ok.asn (by omega) h2 (Ok.nm ?_)
      rw [nI_1]
      refine ih (i + 1) _ (by omega) (by omega) (fun j hj => ?_)
      by_cases e : j = i
      · subst e; exact z_updS
      · rw [z_updN e]; exact hf j (by omega)
theorem r_makeRoomN_eq (nL : Nat) (p1 : Int32) : ∀ n (v : Int32) (f : Nat → Int32), f_Walk_makeRoomN_L30 nL p1 n v f = f_Walk_makeRoom_L30 nL p1 n v f := by
  intro n
  induction n with
  | zero => intros; rfl
  | succ n ih =>
    intro v f
    rw [f_Walk_makeRoomN_L30, f_Walk_makeRoom_L30]
    simp only [ih]
theorem r_spreadOn_L {f m : Nat → Int32} {F M : Nat → Nat} (h : l_MF M F) (hfm : ∀ i, i < 4 → m i = nI (M i) ∧ (M i ≠ 0 → f i = nI (F i))) (ht : tot ≤ 20000) (hs : tot ≤ ns) (hr : tot ≤ nr) (hs2 : ns < 2 ^ 31) (hr2 : nr < 2 ^ 31) {src key dk q : Nat} (hA : ∀ j, j < l_tot M → l_nA M F j < tot ∧ A key (l_nA M F j)) :
    ∀ n i e (a b : Nat → Int32), i ≤ l_tot M → l_tot M - i < n → z_bi A tot src key dk q a b e → (∀ j, j < i → a (l_nA M F j) ≠ -1) → Ok (f_Walk_spreadOn_L14 nr ns (nI (dk + 1)) (nI (l_tot M)) (nI tot) f m n (nI e) (nI i) a b) (fun y => ∃ e2, y.1 = nI e2 ∧ z_bi A tot src key dk q y.2.1 y.2.2 e2 ∧ ∀ j, j < l_tot M → y.2.1 (l_nA M F j) ≠ -1) := by
  have hM := l_tot_b h
  intro n
  induction n with
  | zero => intro i e a b _ h; omega
  | succ n ih =>
    intro i e a b hi hn hb ha
    obtain ⟨-, -, hde, he, -⟩ := z_bi_f hb
    rw [f_Walk_spreadOn_L14]
    refine Ok.ite (fun hc => Ok.ret ⟨e, rfl, hb, fun j hj => ha j ?_⟩) (fun hc => ?_)
    all_goals rw [nI_leI (by omega) (by omega)] at hc
    · omega
    · obtain ⟨hk, hAk⟩ := hA i (by omega)
      rw [r_besideKey h hfm (show i < l_tot M by omega), q_b1_s]
      generalize hkk : l_nA M F i = k at *
      refine Ok.ain (by omega) hs2 ?_
      rw [z_j3]
      dsimp only
      refine Ok.ite (fun h1 => ?_) (fun h1 => ?_)
      · obtain ⟨hlt, hb2⟩ := z_bi_meet ht hb hk hAk h1
        refine Ok.ite (fun h2 => ?_) (fun h2 => ?_)
        · rw [nI_leI (by omega) (by omega)] at h2; omega
        · refine Ok.asn (by omega) hs2 (Ok.asn (by omega) hr2 (Ok.nm (Ok.nm ?_)))
          rw [nI_1, nI_1]
          refine ih (i + 1) (e + 1) _ _ (by omega) (by omega) hb2 (fun j hj => ?_)
          by_cases ej : j = i
          · subst ej
            rw [hkk, z_updS]
            exact z_nIm1 (by omega)
          · have := ha j (by omega)
            rw [z_updN (fun z => this (by rw [z]; exact h1))]
            exact this
      · refine Ok.nm ?_
        rw [nI_1]
        refine ih (i + 1) e a b (by omega) (by omega) hb (fun j hj => ?_)
        by_cases ej : j = i
        · subst ej; rw [hkk]; exact h1
        · exact ha j (by omega)
theorem r_spread_L (g : GOK R C H V rc cc br zc rw sh) (hN : 3000000 ≤ N) (hl : l < 5) (ht : tot = 2130 * (H l * V l) + 2) (ht2 : tot ≤ 20000) (hs : tot ≤ ns) (hr : tot ≤ nr) (hs2 : ns < 2 ^ 31) (hr2 : nr < 2 ^ 31) {src : Nat} :
    ∀ n i e (a b c d : Nat → Int32) (v1 v2 v3 v4 v5 v6 : Int32), i ≤ tot → tot - i < n → z_bx (z_adj (H l) (V l)) tot src i a b e → Ok (f_Walk_spread_L35 N br rw sh zc nr ns (nI l) (nI tot) n (nI e) (nI i) a b c d v1 v2 v3 v4 v5 v6) (fun y => z_S (z_adj (H l) (V l)) tot src y.1) := by
  have hps := g.2.pos l hl
  intro n
  induction n with
  | zero => intro i e a b c d v1 v2 v3 v4 v5 v6 _ h; omega
  | succ n ih =>
    intro i e a b c d v1 v2 v3 v4 v5 v6 hi hn hb
    have he := z_bx_e hb
    rw [f_Walk_spread_L35]
    refine Ok.ite (fun h1 => Ok.ret (z_bx_end ht2 hb ?_)) (fun h1 => ?_)
    all_goals rw [nI_leI (by omega) (by omega)] at h1
    · exact h1
    refine Ok.ite (fun h2 => Ok.ret (z_bx_end ht2 hb ?_)) (fun h2 => ?_)
    all_goals rw [nI_leI (by omega) (by omega)] at h2
    · omega
    obtain ⟨key, dk, hbi, hq⟩ := z_bx_at hb (show i < e by omega)
    obtain ⟨hk, hak, hde, -, -⟩ := z_bi_f hbi
    obtain ⟨r, p, hput, hr1, hp1, hkk⟩ := k_put g (N := N) (by omega) hl (k := key) (by omega) v1 v2 v3 v4 v5 v6
    obtain ⟨f', m', hla, hfm⟩ := r_lookAround g hl hr1 hp1 c d
    have hMF := l_MF_of g.2 hl hr1 hp1
    have hM := l_tot_b hMF
    have hA : ∀ j, j < l_tot (z_bM (H l) (V l) r p) → l_nA (z_bM (H l) (V l) r p) (z_bF (H l) (V l) r p) j < tot ∧ z_adj (H l) (V l) key (l_nA (z_bM (H l) (V l) r p) (z_bF (H l) (V l) r p) j) := by
      intro j hj
      obtain ⟨i2, j2, a1, a2, a3⟩ := l_nA_side hMF hj
      have := (z_bB hps.1 hps.2 hr1 hp1 a1).2 (by omega)
      rw [a3, hkk, ht]
      exact ⟨by omega, z_adj_of hps.1 hps.2 hr1 hp1 a1 a2⟩
    refine Ok.ain (by omega) hr2 ?_
    rw [hq, hput, q_b6_s, hla, q_b2_s]
    refine Ok.ain (by omega) hr2 ?_
    rw [hq]
    refine Ok.ain (by omega) hs2 ?_
    rw [hak, nI_1]
    have hso : Ok (f_Walk_spreadOn N ns nr a b (nI tot) f' m' (nI (dk + 1)) (nI e)) (fun y => ∃ e2, y.1 = nI e2 ∧ z_bi (z_adj (H l) (V l)) tot src key dk i y.2.1 y.2.2 e2 ∧ ∀ j, j < l_tot (z_bM (H l) (V l) r p) → y.2.1 (l_nA (z_bM (H l) (V l) r p) (z_bF (H l) (V l) r p) j) ≠ -1) := by
      unfold f_Walk_spreadOn
      rw [r_allBeside hfm, q_b1_s, z_nm]
      exact Ok.b3 (r_spreadOn_L hMF hfm ht2 hs hr hs2 hr2 hA N 0 e a b (by omega) (by omega) hbi (fun j hj => by omega)) (fun _ _ _ h => Ok.ret h)
    refine Ok.b3 hso (fun v41 f42 f43 h => Ok.nm ?_)
    obtain ⟨e2, y1, y2, y3⟩ := h
    dsimp only at y1 y2 y3
    subst y1
    rw [nI_1]
    refine ih (i + 1) e2 _ _ _ _ _ _ _ _ _ _ (by omega) (by omega) (z_bi_next y2 (fun k2 hk2 ha => ?_))
    rw [hkk] at ha
    obtain ⟨i2, b1, b2, b3⟩ := z_adj_in hps.1 hps.2 hr1 hp1 ha
    obtain ⟨j, c1, c2⟩ := l_nA_all hMF b1 b2 b3
    rw [← c2]
    exact y3 j c1
theorem r_spread (g : GOK R C H V rc cc br zc rw sh) (hN : 3000000 ≤ N) (hl : l < 5) (ht2 : 2130 * (H l * V l) + 2 ≤ 20000) (hs : 2130 * (H l * V l) + 2 ≤ ns) (hs2 : ns < 2 ^ 31) {k : Nat} (hk : k < 2130 * (H l * V l) + 2) (a b c d : Nat → Int32) (mm v1 v2 v3 v4 v5 v6 : Int32) : Ok (f_Walk_spread N ns ns a b mm c d v1 v2 v3 v4 v5 v6 br zc rw sh (nI l) (nI k)) (fun x => x.2.2.1 = nI (2130 * (H l * V l) + 2) ∧ z_S (z_adj (H l) (V l)) (2130 * (H l * V l) + 2) k x.1) := by
  obtain ⟨-, -, -, -, -, e6⟩ := g.at hl
  unfold f_Walk_spread
  rw [z_ai hl (by omega), e6]
  have hm : Ok (f_Walk_makeRoom N ns a mm (nI (2130 * (H l * V l) + 2))) (fun y => y.2 = nI (2130 * (H l * V l) + 2) ∧ ∀ j, j < 2130 * (H l * V l) + 2 → y.1 j = -1) := by
    unfold f_Walk_makeRoom
    rw [if_pos (by rw [nI_leI (by omega) hs2]; exact hs), z_nm]
    exact Ok.b1 (r_makeRoom_L hs hs2 N 0 a (by omega) (by omega) (fun j hj => by omega)) (fun f2 h => Ok.ret ⟨rfl, h⟩)
  refine Ok.b2 hm (fun f2 v3 h => ?_)
  obtain ⟨h1, h2⟩ := h
  dsimp only at h1 h2
  subst h1
  refine Ok.asn (j := 0) (by omega) hs2 (Ok.asn (by omega) hs2 ?_)
  rw [z_nm, z_nm]
  exact Ok.b10 (r_spread_L g hN hl rfl ht2 hs hs hs2 hs2 N 0 1 _ _ c d v1 v2 v3 v4 v5 v6 (by omega) (by omega) (z_bx_0 hk h2)) (fun _ _ _ _ _ _ _ _ _ _ h => Ok.ret ⟨rfl, h⟩)
theorem r_spreadN (g : GOK R C H V rc cc br zc rw sh) (hN : 3000000 ≤ N) (hl : l < 5) (ht : tot = 2130 * (H l * V l) + 2) (ht2 : tot ≤ 20000) (hs : ns < tot) {k : Nat} (hk : k < tot) (a b c d : Nat → Int32) (mm v1 v2 v3 v4 v5 v6 : Int32) : Ok (f_Walk_spreadN N tot ns a b mm c d v1 v2 v3 v4 v5 v6 br zc rw sh (nI l) (nI k)) (fun x => x.2.2.1 = nI tot ∧ z_S (z_adj (H l) (V l)) tot k x.1) := by
  obtain ⟨-, -, -, -, -, e6⟩ := g.at hl
  unfold f_Walk_spreadN
  rw [z_ai hl (by omega), e6, ← ht]
  have hm : Ok (f_Walk_makeRoomN N tot ns a b mm (nI tot)) (fun y => y.2.2 = nI tot ∧ ∀ j, j < tot → y.1 j = -1) := by
    unfold f_Walk_makeRoomN q_na
    have hc : ¬ (nI tot < 0 ∨ 134217728 < tot ∨ (nI tot).toNatClampNeg ≠ tot) := by
      rw [nI_clamp (by omega)]
      rintro (h | h | h)
      · exact z_lt0 (by omega) h
      · omega
      · exact h rfl
    rw [if_neg (by rw [nI_leI (by omega) (by omega)]; omega), if_neg hc, if_neg hc, z_nm, r_makeRoomN_eq]
    exact Ok.b1 (r_makeRoom_L (Nat.le_refl tot) (by omega) N 0 (fun _ => 0) (by omega) (by omega) (fun j hj => by omega)) (fun f2 h => Ok.ret ⟨rfl, h⟩)
  refine Ok.b3 hm (fun f2 f3 v4 h => ?_)
  obtain ⟨h1, h2⟩ := h
  dsimp only at h1 h2
  subst h1
  refine Ok.asn (j := 0) (by omega) (by omega) (Ok.asn hk (by omega) ?_)
  rw [z_nm, z_nm, k_spreadN_eq]
  exact Ok.b10 (r_spread_L g hN hl ht ht2 (Nat.le_refl tot) (Nat.le_refl tot) (by omega) (by omega) N 0 1 _ _ c d v1 v2 v3 v4 v5 v6 (by omega) (by omega) (z_bx_0 hk h2)) (fun _ _ _ _ _ _ _ _ _ _ h => Ok.ret ⟨rfl, h⟩)
theorem r_within (hN : tot < N) (hs : tot ≤ ns) (hs2 : ns < 2 ^ 31) (p : Int32) (a : Nat → Int32) : Ok (f_Walk_within N ns a (nI tot) p) (fun x => x = nI (z_cnl a p tot)) := by
  have L : ∀ n i, i ≤ tot → tot - i < n → Ok (f_Walk_within_L4 ns p (nI tot) a n (nI (z_cnl a p i)) (nI i)) (fun x => x = nI (z_cnl a p tot)) := by
    intro n
    induction n with
    | zero => intro i _ h; omega
    | succ n ih =>
      intro i hi hn
      rw [f_Walk_within_L4]
      refine Ok.ite (fun hc => Ok.ret ?_) (fun hc => ?_)
      all_goals rw [nI_leI (by omega) (by omega)] at hc
      · have : i = tot := by omega
        subst this; rfl
      · refine Ok.ain (by omega) hs2 ?_
        rw [z_j1]
        dsimp only
        have t := ih (i + 1) (by omega) (by omega)
        rw [z_cnl_s] at t
        refine Ok.ite (fun h3 => Ok.nm ?_) (fun h3 => Ok.nm (Ok.nm ?_))
        · rw [if_pos h3] at t
          rw [nI_1]; exact t
        · rw [if_neg h3] at t
          rw [nI_1, nI_1]; exact t
  unfold f_Walk_within
  exact Ok.nm (Ok.nm (Ok.b1 (L N 0 (by omega) (by omega)) (fun v h => Ok.ret h)))
theorem r_farthestKey (hN : tot < N) (hs : tot ≤ ns) (hs2 : ns < 2 ^ 31) (h0 : 1 ≤ tot) (a : Nat → Int32) : Ok (f_Walk_farthestKey N ns a (nI tot)) (fun x => x = nI (z_far a tot)) := by
  have L : ∀ n i, 1 ≤ i → i ≤ tot → tot - i < n → Ok (f_Walk_farthestKey_L4 ns (nI tot) a n (nI (z_far a i)) (nI i)) (fun x => x = nI (z_far a tot)) := by
    intro n
    induction n with
    | zero => intro i _ _ h; omega
    | succ n ih =>
      intro i h1 hi hn
      have hlt := z_far_lt a i h1
      rw [f_Walk_farthestKey_L4]
      refine Ok.ite (fun hc => Ok.ret ?_) (fun hc => ?_)
      all_goals rw [nI_leI (by omega) (by omega)] at hc
      · have : i = tot := by omega
        subst this; rfl
      · refine Ok.ain (by omega) hs2 (Ok.ain (by omega) hs2 ?_)
        rw [z_j1]
        dsimp only
        have t := ih (i + 1) (by omega) (by omega) (by omega)
        rw [z_far_s] at t
        refine Ok.ite (fun h3 => Ok.nm ?_) (fun h3 => Ok.nm ?_)
        · rw [if_pos h3] at t
          rw [nI_1]; exact t
        · rw [if_neg h3] at t
          rw [nI_1]; exact t
  unfold f_Walk_farthestKey
  have t := L N 1 (by omega) (by omega) (by omega)
  rw [z_far_1] at t
  exact Ok.nm (Ok.nm (Ok.b1 t (fun v h => Ok.ret h)))
theorem r_nearer {f m : Nat → Int32} {F M : Nat → Nat} (h : l_MF M F) (ho : l_ord M F) (hfm : ∀ i, i < 4 → m i = nI (M i) ∧ (M i ≠ 0 → f i = nI (F i))) (hN : 3000000 ≤ N) (ht : tot ≤ 20000) (hs : tot ≤ ns) (hs2 : ns < 2 ^ 31) (a : Nat → Int32) {k : Nat} (hk : k < tot) (hA : ∀ j, j < l_tot M → l_nA M F j < tot ∧ A k (l_nA M F j)) (hB : ∀ q, q < tot → A k q → ∃ j, j < l_tot M ∧ l_nA M F j = q) (hx : ∃ q, q < tot ∧ A k q ∧ a q = a k - 1) : Ok (f_Walk_nearer N ns a f m (nI k)) (fun x => ∃ q, x = nI q ∧ z_nx A tot a k q) := by
  have hM := l_tot_b h
  obtain ⟨q0, x1, x2, x3⟩ := hx
  obtain ⟨j0, x4, x5⟩ := hB q0 x1 x2
  have L : ∀ n i, i ≤ j0 → l_tot M - i < n → (∀ j, j < i → a (l_nA M F j) ≠ a k - 1) → Ok (f_Walk_nearer_L10 ns (nI k) (nI (l_tot M)) a f m n (nI i)) (fun o => ∃ q, o = .inr (nI q) ∧ z_nx A tot a k q) := by
    intro n
    induction n with
    | zero => intro i _ h; omega
    | succ n ih =>
      intro i hi hn hne
      rw [f_Walk_nearer_L10]
      refine Ok.ite (fun hc => ?_) (fun hc => ?_)
      all_goals rw [nI_leI (by omega) (by omega)] at hc
      · omega
      · obtain ⟨y1, y2⟩ := hA i (by omega)
        rw [r_besideKey h hfm (show i < l_tot M by omega), q_b1_s]
        refine Ok.ain (by omega) hs2 (Ok.ain (by omega) hs2 (Ok.ite (fun h1 => Ok.ret ⟨_, rfl, y1, y2, h1, fun q hq1 hq2 hq3 => ?_⟩) (fun h1 => Ok.nm ?_)))
        · obtain ⟨j, z1, z2⟩ := hB q hq1 hq2
          rcases Nat.lt_or_ge j i with c | c
          · exact absurd (by rw [z2]; exact hq3) (hne j c)
          · rw [← z2]; exact l_nA_mono h ho c z1
        · rw [nI_1]
          have : i ≠ j0 := by
            intro z
            subst z
            rw [x5] at h1
            exact h1 x3
          refine ih (i + 1) (by omega) (by omega) (fun j hj => ?_)
          by_cases ej : j = i
          · subst ej; exact h1
          · exact hne j (by omega)
  unfold f_Walk_nearer
  rw [r_allBeside hfm, q_b1_s, z_nm]
  obtain ⟨o, e, q, rfl, hq⟩ := L N 0 (by omega) (by omega) (fun j hj => by omega)
  rw [show f_Walk_nearer_L10 ns (nI k) (nI (l_tot M)) a f m N 0 = some (.inr (nI q)) from e]
  exact ⟨_, rfl, q, rfl, hq⟩
theorem r_onTheWay (g : GOK R C H V rc cc br zc rw sh) (hN : 3000000 ≤ N) (hl : l < 5) (ht : tot = 2130 * (H l * V l) + 2) (ht2 : tot ≤ 20000) (hs : tot ≤ ns) (hs2 : ns < 2 ^ 31) {src : Nat} {a : Nat → Int32} (hS : z_S (z_adj (H l) (V l)) tot src a) {k p : Nat} (hk : k < tot) (hp : ∃ d, d < tot ∧ a k = nI d ∧ p ≤ d) (c d : Nat → Int32) (v1 v2 v3 v4 v5 v6 : Int32) : Ok (f_Walk_onTheWay N ns a (nI tot) c d v1 v2 v3 v4 v5 v6 br zc rw sh (nI l) (nI k) (nI p)) (fun x => ∃ q, x.1 = nI q ∧ z_wy (z_adj (H l) (V l)) tot a p k q) := by
  have hps := g.2.pos l hl
  have hpb : p < tot := by obtain ⟨d, h1, -, h3⟩ := hp; omega
  have L : ∀ n i k (c d : Nat → Int32) (v1 v2 v3 v4 v5 v6 : Int32), i ≤ p → p - i < n → k < tot → (∃ d, d < tot ∧ a k = nI d ∧ p - i ≤ d) → Ok (f_Walk_onTheWay_L6 N br rw sh zc ns (nI l) (nI p) (nI tot) a n (nI k) (nI i) c d v1 v2 v3 v4 v5 v6) (fun x => ∃ q, x.1 = nI q ∧ z_wy (z_adj (H l) (V l)) tot a (p - i) k q) := by
    intro n
    induction n with
    | zero => intro i k c d v1 v2 v3 v4 v5 v6 _ h; omega
    | succ n ih =>
      intro i k c d v1 v2 v3 v4 v5 v6 hi hn hk hd
      rw [f_Walk_onTheWay_L6]
      refine Ok.ite (fun hc => Ok.ret ⟨k, rfl, ?_⟩) (fun hc => ?_)
      all_goals rw [nI_leI (by omega) (by omega)] at hc
      · rw [show p - i = 0 by omega]; exact Eq.refl k
      refine Ok.ite (fun hc2 => ?_) (fun hc2 => ?_)
      all_goals rw [nI_leI (by omega) (by omega)] at hc2
      · omega
      obtain ⟨dd, d1, d2, d3⟩ := hd
      obtain ⟨dd, rfl⟩ : ∃ x, dd = x + 1 := ⟨dd - 1, by omega⟩
      obtain ⟨r, pl, hput, hr1, hp1, hkk⟩ := k_put g (N := N) (by omega) hl (k := k) (by omega) v1 v2 v3 v4 v5 v6
      obtain ⟨f', m', hla, hfm⟩ := r_lookAround g hl hr1 hp1 c d
      have hMF := l_MF_of g.2 hl hr1 hp1
      obtain ⟨q0, x1, x2, x3⟩ := hS.2.2.2.1 k hk dd (by omega) d2
      have hnr := r_nearer (A := z_adj (H l) (V l)) (N := N) hMF (l_ord_of hps.1 hps.2 hr1 hp1) hfm hN ht2 hs hs2 a hk (by
        intro j hj
        obtain ⟨i2, j2, a1, a2, a3⟩ := l_nA_side hMF hj
        have := (z_bB hps.1 hps.2 hr1 hp1 a1).2 (by omega)
        rw [a3, hkk, ht]
        exact ⟨by omega, z_adj_of hps.1 hps.2 hr1 hp1 a1 a2⟩) (by
        intro q hq ha
        rw [hkk] at ha
        obtain ⟨i2, b1, b2, b3⟩ := z_adj_in hps.1 hps.2 hr1 hp1 ha
        exact l_nA_all hMF b1 b2 b3) ⟨q0, x1, z_adj_symm x2, by rw [x3, d2, z_sub1 (by omega)]; rfl⟩
      rw [hput, q_b6_s, hla, q_b2_s]
      refine Ok.b1 hnr (fun v h => Ok.nm ?_)
      obtain ⟨q, rfl, hq⟩ := h
      rw [nI_1]
      have hqd : a q = nI dd := by rw [hq.2.2.1, d2, z_sub1 (by omega)]; rfl
      refine Ok.weak (ih (i + 1) q _ _ _ _ _ _ _ _ (by omega) (by omega) hq.1 ⟨dd, by omega, hqd, by omega⟩) (fun x hx => ?_)
      obtain ⟨w, w1, w2⟩ := hx
      refine ⟨w, w1, ?_⟩
      rw [show p - i = (p - (i + 1)) + 1 by omega]
      exact ⟨q, hq, w2⟩
  unfold f_Walk_onTheWay
  exact Ok.nm (Ok.b9 (L N 0 k c d v1 v2 v3 v4 v5 v6 (by omega) (by omega) hk hp) (fun _ _ _ _ _ _ _ _ _ h => Ok.ret h))
end S18C
/-! the reference's walk -/
section S18D
variable {R C H V : Nat → Nat} {cr cq dp wd za : Nat → Int32} {N l tot : Nat} {A : Nat → Nat → Prop}
/-- what is not below 0 stays so -/
def z_nb (a b : Int32) : Prop := 0 ≤ a.toInt → 0 ≤ b.toInt
theorem z_nb_r (a : Int32) : z_nb a a := fun h => h
theorem z_nb_t {a b c : Int32} (h1 : z_nb a b) (h2 : z_nb b c) : z_nb a c := fun h => h2 (h1 h)
theorem r_lays2 (g : MOK R C H V cr cq dp wd za) (hN : 50 ≤ N) (hl : l < 5) {r p : Nat} (hr : r ≤ 44 * H l + 1) (hp : p < z_rl (H l) (V l) r) (fb mb : Int32) {i : Nat} (hi : i < 4) : ∃ x, f_M_laysBeside N dp wd za fb mb (nI l) (nI (z_rs (H l) (V l) r + p)) (nI i) = some (x, nI (z_bM (H l) (V l) r p i)) ∧ (z_bM (H l) (V l) r p i ≠ 0 → x = nI (z_bF (H l) (V l) r p i)) ∧ z_nb fb x := by
  have hps := g.2.2.pos l hl
  obtain ⟨x, e, hx⟩ := r_laysBeside (N := N) g hN hl hr hp fb mb hi
  refine ⟨x, e, hx, fun h0 => ?_⟩
  by_cases c : z_bM (H l) (V l) r p i = 0
  · have fin : ∀ y, f_M_laysBeside N dp wd za fb mb (nI l) (nI (z_rs (H l) (V l) r + p)) (nI i) = some (fb, y) → x = fb := by
      intro y t
      rw [e] at t
      exact (Prod.mk.inj (Option.some.inj t)).1
    have e2 : x = fb := by
      rcases (show i = 0 ∨ i = 2 ∨ i = 1 ∨ i = 3 by omega) with rfl | rfl | rfl | rfl
      · rw [z_bM0] at c
        by_cases h : r = 0
        · exact fin _ (m_lays0 g hN hl hr hp fb mb (i := 0) (Or.inl ⟨rfl, h⟩))
        · rw [if_neg h] at c; exact absurd c (Nat.succ_ne_zero _)
      · rw [z_bM2] at c
        by_cases h : r = 44 * H l + 1
        · exact fin _ (m_lays0 g hN hl hr hp fb mb (i := 2) (Or.inr ⟨rfl, h⟩))
        · rw [if_neg h] at c; exact absurd c (Nat.succ_ne_zero _)
      · rw [z_bM1] at c
        by_cases h : r = 0 ∨ r = 44 * H l + 1
        · have t := m_laysH g hN hl hr hp fb mb (i := 1) (Or.inl ⟨rfl, rfl⟩)
          rw [if_pos ((z_rl1 hps.1 hps.2 hr).mpr h)] at t
          exact fin _ t
        · rw [if_neg h] at c; omega
      · rw [z_bM3] at c
        by_cases h : r = 0 ∨ r = 44 * H l + 1
        · have t := m_laysH g hN hl hr hp fb mb (i := 3) (Or.inr ⟨rfl, rfl⟩)
          rw [if_pos ((z_rl1 hps.1 hps.2 hr).mpr h)] at t
          exact fin _ t
        · rw [if_neg h] at c; omega
    rw [e2]; exact h0
  · have h2 := ((l_MF_of g.2.2 hl hr hp).2 i hi).2 c
    rw [hx c, nI_toInt (by omega)]
    omega
theorem r_meets (ht : tot ≤ 20000) {src key dk i e k : Nat} {f qu : Nat → Int32} (h : z_bi A tot src key dk i f qu e) (hk : k < tot) (hA : A key k) : Ok (f_M_meets f qu (nI e) (nI k) (nI (dk + 1))) (fun y => ∃ e2, y.2.2 = nI e2 ∧ z_bi A tot src key dk i y.1 y.2.1 e2 ∧ (∀ q, f q ≠ -1 → y.1 q ≠ -1) ∧ y.1 k ≠ -1) := by
  obtain ⟨-, -, hde, he, -⟩ := z_bi_f h
  unfold f_M_meets
  refine Ok.ain (by omega) (by decide) (Ok.ite (fun hm => ?_) (fun hm => Ok.ret ⟨e, rfl, h, fun _ z => z, hm⟩))
  obtain ⟨hlt, h2⟩ := z_bi_meet ht h hk hA hm
  refine Ok.asn (by omega) (by decide) (Ok.asn (by omega) (by decide) (Ok.nm (Ok.ret ⟨e + 1, nI_1 e, h2, fun q hq => ?_, ?_⟩)))
  · dsimp only
    rw [z_updN (fun z => hq (by rw [z]; exact hm))]; exact hq
  · dsimp only
    rw [z_updS]; exact z_nIm1 (by omega)
theorem r_steps_L74 (ht : tot ≤ 20000) {src key dk q F M : Nat} {x : Int32} (hx : M ≠ 0 → x = nI F) (hF : M ≠ 0 → F + M ≤ tot) (hA : ∀ j, j < M → A key (F + j)) : ∀ n i e (f qu : Nat → Int32), i ≤ M → M - i < n → z_bi A tot src key dk q f qu e → (∀ j, j < i → f (F + j) ≠ -1) →
    Ok (f_M_laysSteps_L74 (nI key) x (nI M) n (nI i) f qu (nI e)) (fun y => ∃ e2, y.2.2 = nI e2 ∧ z_bi A tot src key dk q y.1 y.2.1 e2 ∧ (∀ q, f q ≠ -1 → y.1 q ≠ -1) ∧ ∀ j, j < M → y.1 (F + j) ≠ -1) := by
  intro n
  induction n with
  | zero => intro i e f qu _ h; omega
  | succ n ih =>
    intro i e f qu hi hn hb hf
    obtain ⟨hk, hkf, hde, he, -⟩ := z_bi_f hb
    have hMb : M ≤ 20000 := by
      rcases Nat.eq_zero_or_pos M with z | z
      · omega
      · have := hF (by omega); omega
    rw [f_M_laysSteps_L74]
    refine Ok.ite (fun hc => Ok.ret ⟨e, rfl, hb, fun _ z => z, fun j hj => hf j ?_⟩) (fun hc => ?_)
    all_goals rw [nI_leI (by omega) (by omega)] at hc
    · omega
    · have hx' := hx (by omega)
      have hF' := hF (by omega)
      subst hx'
      refine Ok.ain (by omega) (by decide) ?_
      rw [hkf, nI_1, nI_add]
      refine Ok.b3 (r_meets ht hb (k := F + i) (by omega) (hA i (by omega))) (fun f2 q2 v h => Ok.nm ?_)
      obtain ⟨e2, h1, h2, h3, h4⟩ := h
      dsimp only at h1 h2 h3 h4
      subst h1
      rw [nI_1]
      refine Ok.weak (ih (i + 1) e2 f2 q2 (by omega) (by omega) h2 (fun j hj => ?_)) (fun y hy => ?_)
      · by_cases ej : j = i
        · subst ej; exact h4
        · exact h3 _ (hf j (by omega))
      · obtain ⟨e3, y1, y2, y3, y4⟩ := hy
        exact ⟨e3, y1, y2, fun q hq => y3 q (h3 q hq), y4⟩
theorem r_steps_L56 (g : MOK R C H V cr cq dp wd za) (hN : 1000000 ≤ N) (hl : l < 5) (ht : tot = 2130 * (H l * V l) + 2) (ht2 : tot ≤ 20000) {src key dk q r p : Nat} (hr : r ≤ 44 * H l + 1) (hp : p < z_rl (H l) (V l) r) (hkk : key = z_rs (H l) (V l) r + p) : ∀ n i e (a b : Int32) (f qu : Nat → Int32), i ≤ 4 → 4 - i < n → z_bi (z_adj (H l) (V l)) tot src key dk q f qu e → (∀ i2, i2 < i → ∀ j, j < z_bM (H l) (V l) r p i2 → f (z_bF (H l) (V l) r p i2 + j) ≠ -1) →
    Ok (f_M_laysSteps_L56 N dp wd za (nI l) (nI key) n (nI i) a b f qu (nI e)) (fun y => ∃ e2, y.2.2.2.2 = nI e2 ∧ z_bi (z_adj (H l) (V l)) tot src key dk q y.2.2.1 y.2.2.2.1 e2 ∧ (∀ i2, i2 < 4 → ∀ j, j < z_bM (H l) (V l) r p i2 → y.2.2.1 (z_bF (H l) (V l) r p i2 + j) ≠ -1) ∧ z_nb a y.1) := by
  have hps := g.2.2.pos l hl
  intro n
  induction n with
  | zero => intro i e a b f qu _ h; omega
  | succ n ih =>
    intro i e a b f qu hi hn hb hf
    rw [f_M_laysSteps_L56]
    refine Ok.ite (fun hc => Ok.ret ⟨e, rfl, hb, fun i2 hi2 => hf i2 ?_, z_nb_r a⟩) (fun hc => ?_)
    all_goals rw [z_i 4, nI_leI (by omega) (by omega)] at hc
    · omega
    obtain ⟨x, e1, hx, hnb⟩ := r_lays2 (N := N) g (by omega) hl hr hp a b (i := i) (by omega)
    rw [hkk, e1, q_b2_s, z_nm, ← hkk]
    refine Ok.b3 (r_steps_L74 (A := z_adj (H l) (V l)) (F := z_bF (H l) (V l) r p i) ht2 hx (fun z => by rw [ht]; exact (z_bB hps.1 hps.2 hr hp (show i < 4 by omega)).2 z) (fun j hj => by rw [hkk]; exact z_adj_of hps.1 hps.2 hr hp (by omega) hj) N 0 e f qu (by omega) (by have := (z_bB hps.1 hps.2 hr hp (show i < 4 by omega)).1; have := g.2.2.hv hl; omega) hb (fun j hj => by omega)) (fun f2 q2 v h => Ok.nm ?_)
    obtain ⟨e2, h1, h2, h3, h4⟩ := h
    dsimp only at h1 h2 h3 h4
    subst h1
    rw [nI_1]
    refine Ok.weak (ih (i + 1) e2 _ _ f2 q2 (by omega) (by omega) h2 (fun i2 hi2 j hj => ?_)) (fun y hy => ?_)
    · by_cases ei : i2 = i
      · subst ei; exact h4 j hj
      · exact h3 _ (hf i2 (by omega) j hj)
    · obtain ⟨e3, z1, z2, z3, z4⟩ := hy
      exact ⟨e3, z1, z2, z3, z_nb_t hnb z4⟩
theorem r_steps_L37 (g : MOK R C H V cr cq dp wd za) (hN : 1000000 ≤ N) (hl : l < 5) (ht : tot = 2130 * (H l * V l) + 2) (ht2 : tot ≤ 20000) {src : Nat} : ∀ n i e (a b : Int32) (f qu : Nat → Int32), i ≤ tot → tot - i < n → z_bx (z_adj (H l) (V l)) tot src i f qu e →
    Ok (f_M_laysSteps_L37 N dp wd za (nI l) n (nI i) a b f qu (nI e)) (fun y => z_S (z_adj (H l) (V l)) tot src y.2.2.1 ∧ z_nb a y.1) := by
  have hps := g.2.2.pos l hl
  intro n
  induction n with
  | zero => intro i e a b f qu _ h; omega
  | succ n ih =>
    intro i e a b f qu hi hn hb
    have he := z_bx_e hb
    rw [f_M_laysSteps_L37]
    refine Ok.ite (fun hc => Ok.ret ⟨z_bx_end ht2 hb ?_, z_nb_r a⟩) (fun hc => ?_)
    all_goals rw [nI_leI (by omega) (by omega)] at hc
    · exact hc
    obtain ⟨key, dk, hbi, hq⟩ := z_bx_at hb (show i < e by omega)
    obtain ⟨hk, -, -, -, -⟩ := z_bi_f hbi
    obtain ⟨r, p, hr1, hp1, hkk, -, -⟩ := t_spot (N := N) g (by omega) hl (k := key) (by omega)
    refine Ok.ain (by omega) (by decide) ?_
    rw [hq, z_nm]
    refine Ok.b5 (r_steps_L56 g hN hl ht ht2 hr1 hp1 hkk N 0 e a b f qu (by omega) (by omega) hbi (fun i2 hi2 => by omega)) (fun x1 x2 f2 q2 v h => Ok.nm ?_)
    obtain ⟨e2, h1, h2, h3, h4⟩ := h
    dsimp only at h1 h2 h3 h4
    subst h1
    rw [nI_1]
    refine Ok.weak (ih (i + 1) e2 _ _ f2 q2 (by omega) (by omega) (z_bi_next h2 (fun k2 hk2 ha => ?_))) (fun y hy => ⟨hy.1, z_nb_t h4 hy.2⟩)
    rw [hkk] at ha
    obtain ⟨i2, b1, b2, b3⟩ := z_adj_in hps.1 hps.2 hr1 hp1 ha
    have := h3 i2 b1 (k2 - z_bF (H l) (V l) r p i2) (by omega)
    rw [show z_bF (H l) (V l) r p i2 + (k2 - z_bF (H l) (V l) r p i2) = k2 by omega] at this
    exact this
theorem r_laysSteps (g : MOK R C H V cr cq dp wd za) (hN : 1000000 ≤ N) (hl : l < 5) (ht : tot = 2130 * (H l * V l) + 2) (ht2 : tot ≤ 20000) {k : Nat} (hk : k < tot) (a b : Int32) (f qu : Nat → Int32) (m : Int32) : Ok (f_M_laysSteps N dp wd za a b f qu m (nI l) (nI k)) (fun y => z_S (z_adj (H l) (V l)) tot k y.2.2.1 ∧ z_nb a y.1) := by
  unfold f_M_laysSteps
  rw [z_nm]
  refine Ok.b1 (s_steps_L2 g hl ht ht2 N 0 f (by omega) (by omega) (fun j hj => by omega)) (fun f4 h4 => ?_)
  have hm : f_M_meets f4 qu 0 (nI k) 0 = some (upd f4 k (nI 0), upd qu 0 (nI k), nI 1) := by
    unfold f_M_meets
    rw [z_ai (by omega) (by decide), if_pos (h4 k hk), z_as (by omega) (by decide), show (0 : Int32) = nI 0 from rfl, z_as (by omega) (by decide), z_nm, nI_1]
  rw [hm, q_b3_s, z_nm]
  exact Ok.b5 (r_steps_L37 g hN hl ht ht2 N 0 1 a b _ _ (by omega) (by omega) (z_bx_0 hk h4)) (fun _ _ _ _ _ h => Ok.ret h)
/-- the least of those that are P -/
def z_bs (P : Nat → Prop) (v : Int32) : Prop := (v = -1 ∧ ∀ q, ¬ P q) ∨ ∃ q, q < 2 ^ 31 ∧ v = nI q ∧ P q ∧ ∀ q2, P q2 → q ≤ q2
theorem z_bs_iff {P P2 : Nat → Prop} {v : Int32} (h : ∀ q, P q ↔ P2 q) (hv : z_bs P v) : z_bs P2 v := by
  rcases hv with ⟨a, b⟩ | ⟨q, a, b, c, d⟩
  · exact Or.inl ⟨a, fun q z => b q ((h q).mpr z)⟩
  · exact Or.inr ⟨q, a, b, (h q).mp c, fun q2 z => d q2 ((h q2).mpr z)⟩
theorem r_near_L22 (ht : tot ≤ 20000) {f : Nat → Int32} {key F M : Nat} {x : Int32} (hk : key < tot) (hx : M ≠ 0 → x = nI F) (hF : M ≠ 0 → F + M ≤ tot) : ∀ n i (v : Int32) (P : Nat → Prop), i ≤ M → M - i < n → z_bs P v →
    Ok (f_M_nearer_L22 f (nI key) x (nI M) n v (nI i)) (z_bs (fun q => P q ∨ ∃ j, i ≤ j ∧ j < M ∧ q = F + j ∧ f q = f key - 1)) := by
  have hMb : M ≤ 20000 := by
    rcases Nat.eq_zero_or_pos M with z | z
    · omega
    · have := hF (by omega); omega
  intro n
  induction n with
  | zero => intro i v P _ h; omega
  | succ n ih =>
    intro i v P hi hn hv
    rw [f_M_nearer_L22]
    refine Ok.ite (fun hc => Ok.ret (z_bs_iff (fun q => ⟨Or.inl, fun z => ?_⟩) hv)) (fun hc => ?_)
    all_goals rw [nI_leI (by omega) (by omega)] at hc
    · rcases z with z | ⟨j, j1, j2, -⟩
      · exact z
      · omega
    have hF := hF (by omega)
    have hx := hx (by omega)
    subst hx
    have next : ∀ w, z_bs (fun q => P q ∨ (q = F + i ∧ f q = f key - 1)) w → Ok (q_nm (nI i + 1 : Int32) (fun (v21 : Int32) => f_M_nearer_L22 f (nI key) (nI F) (nI M) n w v21)) (z_bs (fun q => P q ∨ ∃ j, i ≤ j ∧ j < M ∧ q = F + j ∧ f q = f key - 1)) := by
      intro w hw
      rw [z_nm, nI_1]
      refine Ok.weak (ih (i + 1) w _ (by omega) (by omega) hw) (fun y hy => z_bs_iff (fun q => ⟨fun z => ?_, fun z => ?_⟩) hy)
      · rcases z with (z | ⟨z1, z2⟩) | ⟨j, j1, j2, j3, j4⟩
        · exact Or.inl z
        · exact Or.inr ⟨i, Nat.le_refl i, by omega, z1, z2⟩
        · exact Or.inr ⟨j, by omega, j2, j3, j4⟩
      · rcases z with z | ⟨j, j1, j2, j3, j4⟩
        · exact Or.inl (Or.inl z)
        · by_cases ej : j = i
          · subst ej; exact Or.inl (Or.inr ⟨j3, j4⟩)
          · exact Or.inr ⟨j, by omega, j2, j3, j4⟩
    rw [nI_add, z_nm]
    refine Ok.ain (by omega) (by decide) (Ok.ain (by omega) (by decide) ?_)
    rw [z_j1]
    dsimp only
    by_cases hg : f (F + i) = f key - 1
    · rw [if_pos hg, z_j0]
      rcases hv with ⟨rfl, hv⟩ | ⟨q0, b1, rfl, b3, b4⟩
      · rw [if_pos rfl]
        refine next _ (Or.inr ⟨F + i, by omega, rfl, Or.inr ⟨rfl, hg⟩, fun q2 z => ?_⟩)
        rcases z with z | ⟨z, -⟩
        · exact absurd z (hv q2)
        · omega
      · rw [if_neg (z_nIm1 b1)]
        by_cases hle : q0 ≤ F + i
        · rw [if_pos (by rw [nI_leI b1 (by omega)]; exact hle)]
          refine next _ (Or.inr ⟨q0, b1, rfl, Or.inl b3, fun q2 z => ?_⟩)
          rcases z with z | ⟨z, -⟩
          · exact b4 q2 z
          · omega
        · rw [if_neg (by rw [nI_leI b1 (by omega)]; exact hle)]
          refine next _ (Or.inr ⟨F + i, by omega, rfl, Or.inr ⟨rfl, hg⟩, fun q2 z => ?_⟩)
          rcases z with z | ⟨z, -⟩
          · have := b4 q2 z; omega
          · omega
    · rw [if_neg hg]
      refine next v (z_bs_iff (fun q => ⟨Or.inl, fun z => ?_⟩) hv)
      rcases z with z | ⟨rfl, z⟩
      · exact z
      · exact absurd z hg
theorem r_near_L5 (g : MOK R C H V cr cq dp wd za) (hN : 1000000 ≤ N) (hl : l < 5) (ht : tot = 2130 * (H l * V l) + 2) (ht2 : tot ≤ 20000) {f : Nat → Int32} {key r p : Nat} (hk : key < tot) (hr : r ≤ 44 * H l + 1) (hp : p < z_rl (H l) (V l) r) (hkk : key = z_rs (H l) (V l) r + p) : ∀ n i (v a b : Int32) (P : Nat → Prop), i ≤ 4 → 4 - i < n → z_bs P v →
    Ok (f_M_nearer_L5 N dp f wd za (nI l) (nI key) n v (nI i) a b) (fun y => z_bs (fun q => P q ∨ ∃ i2 j, i ≤ i2 ∧ i2 < 4 ∧ j < z_bM (H l) (V l) r p i2 ∧ q = z_bF (H l) (V l) r p i2 + j ∧ f q = f key - 1) y.1 ∧ z_nb a y.2.1) := by
  have hps := g.2.2.pos l hl
  intro n
  induction n with
  | zero => intro i v a b P _ h; omega
  | succ n ih =>
    intro i v a b P hi hn hv
    rw [f_M_nearer_L5]
    refine Ok.ite (fun hc => Ok.ret ⟨z_bs_iff (fun q => ⟨Or.inl, fun z => ?_⟩) hv, z_nb_r a⟩) (fun hc => ?_)
    all_goals rw [z_i 4, nI_leI (by omega) (by omega)] at hc
    · rcases z with z | ⟨i2, j, j1, j2, -⟩
      · exact z
      · omega
    obtain ⟨x, e1, hx, hnb⟩ := r_lays2 (N := N) g (by omega) hl hr hp a b (i := i) (by omega)
    rw [hkk, e1, q_b2_s, z_nm, ← hkk]
    refine Ok.b1 (r_near_L22 (F := z_bF (H l) (V l) r p i) ht2 hk hx (fun z => by rw [ht]; exact (z_bB hps.1 hps.2 hr hp (show i < 4 by omega)).2 z) N 0 v P (by omega) (by have := (z_bB hps.1 hps.2 hr hp (show i < 4 by omega)).1; have := g.2.2.hv hl; omega) hv) (fun w hw => Ok.nm ?_)
    rw [nI_1]
    refine Ok.weak (ih (i + 1) w _ _ _ (by omega) (by omega) hw) (fun y hy => ⟨z_bs_iff (fun q => ⟨fun z => ?_, fun z => ?_⟩) hy.1, z_nb_t hnb hy.2⟩)
    · rcases z with (z | ⟨j, -, j2, j3, j4⟩) | ⟨i2, j, j1, j2, j3, j4, j5⟩
      · exact Or.inl z
      · exact Or.inr ⟨i, j, Nat.le_refl i, by omega, j2, j3, j4⟩
      · exact Or.inr ⟨i2, j, by omega, j2, j3, j4, j5⟩
    · rcases z with z | ⟨i2, j, j1, j2, j3, j4, j5⟩
      · exact Or.inl (Or.inl z)
      · by_cases ei : i2 = i
        · subst ei; exact Or.inl (Or.inr ⟨j, Nat.zero_le j, j3, j4, j5⟩)
        · exact Or.inr ⟨i2, j, by omega, j2, j3, j4, j5⟩
theorem r_nearerM (g : MOK R C H V cr cq dp wd za) (hN : 1000000 ≤ N) (hl : l < 5) (ht : tot = 2130 * (H l * V l) + 2) (ht2 : tot ≤ 20000) {f : Nat → Int32} {key : Nat} (hk : key < tot) (hx : ∃ q, q < tot ∧ z_adj (H l) (V l) key q ∧ f q = f key - 1) (a b : Int32) : Ok (f_M_nearer N dp wd za a b f (nI l) (nI key)) (fun y => (∃ q, y.1 = nI q ∧ z_nx (z_adj (H l) (V l)) tot f key q) ∧ z_nb a y.2.1) := by
  have hps := g.2.2.pos l hl
  obtain ⟨r, p, hr1, hp1, hkk, -, -⟩ := t_spot (N := N) g (by omega) hl (k := key) (by omega)
  obtain ⟨q0, x1, x2, x3⟩ := hx
  have all : ∀ q, z_adj (H l) (V l) key q → f q = f key - 1 → ∃ i2 j, 0 ≤ i2 ∧ i2 < 4 ∧ j < z_bM (H l) (V l) r p i2 ∧ q = z_bF (H l) (V l) r p i2 + j ∧ f q = f key - 1 := by
    intro q ha hf
    rw [hkk] at ha
    obtain ⟨i2, b1, b2, b3⟩ := z_adj_in hps.1 hps.2 hr1 hp1 ha
    exact ⟨i2, q - z_bF (H l) (V l) r p i2, by omega, b1, by omega, by omega, hf⟩
  unfold f_M_nearer
  rw [z_nm, z_nm]
  refine Ok.b3 (r_near_L5 g hN hl ht ht2 hk hr1 hp1 hkk N 0 (-1) a b (fun _ => False) (by omega) (by omega) (Or.inl ⟨rfl, fun _ z => z⟩)) (fun y1 y2 y3 hy => Ok.ret ⟨?_, hy.2⟩)
  rcases hy.1 with ⟨-, z⟩ | ⟨q, q1, q2, q3, q4⟩
  · exact absurd (Or.inr (all q0 x2 x3)) (z q0)
  · refine ⟨q, q2, ?_⟩
    rcases q3 with z | ⟨i2, j, -, c2, c3, c4, c5⟩
    · exact absurd z (fun z => z)
    · have hb := (z_bB hps.1 hps.2 hr1 hp1 c2).2 (by omega)
      have ha := z_adj_of hps.1 hps.2 hr1 hp1 c2 c3
      rw [← hkk, ← c4] at ha
      exact ⟨by omega, ha, c5, fun q5 z1 z2 z3 => q4 q5 (Or.inr (all q5 z2 z3))⟩
theorem r_way_L (g : MOK R C H V cr cq dp wd za) (hN : 1000000 ≤ N) (hl : l < 5) (ht : tot = 2130 * (H l * V l) + 2) (ht2 : tot ≤ 20000) {src : Nat} {f : Nat → Int32} (hS : z_S (z_adj (H l) (V l)) tot src f) {p : Nat} (hp : p ≤ tot) : ∀ n i key (a b : Int32), i ≤ p → p - i < n → key < tot → (∃ d, d < tot ∧ f key = nI d ∧ p - i ≤ d) → Ok (f_M_way_L62 N f dp wd za (nI l) (nI p) n (nI key) (nI i) a b) (fun y => (∃ q, y.1 = nI q ∧ z_wy (z_adj (H l) (V l)) tot f (p - i) key q) ∧ z_nb a y.2.1) := by
  intro n
  induction n with
  | zero => intro i key a b _ h; omega
  | succ n ih =>
    intro i key a b hi hn hk hf
    rw [f_M_way_L62]
    refine Ok.ite (fun hc => Ok.ret ⟨⟨key, rfl, ?_⟩, z_nb_r a⟩) (fun hc => ?_)
    all_goals rw [nI_leI (by omega) (by omega)] at hc
    · rw [show p - i = 0 by omega]; exact Eq.refl key
    obtain ⟨d, d1, d2, d3⟩ := hf
    obtain ⟨d, rfl⟩ : ∃ x, d = x + 1 := ⟨d - 1, by omega⟩
    obtain ⟨q0, x1, x2, x3⟩ := hS.2.2.2.1 key hk d (by omega) d2
    refine Ok.b3 (r_nearerM g hN hl ht ht2 hk ⟨q0, x1, z_adj_symm x2, by rw [x3, d2, z_sub1 (by omega)]; rfl⟩ a b) (fun y1 y2 y3 hy => Ok.nm ?_)
    obtain ⟨⟨q, q1, hq⟩, hnb⟩ := hy
    dsimp only at q1 hnb
    subst q1
    rw [nI_1]
    have hqd : f q = nI d := by rw [hq.2.2.1, d2, z_sub1 (by omega)]; rfl
    refine Ok.weak (ih (i + 1) q _ _ (by omega) (by omega) hq.1 ⟨d, by omega, hqd, by omega⟩) (fun x hx => ?_)
    obtain ⟨⟨w, w1, w2⟩, w3⟩ := hx
    refine ⟨⟨w, w1, ?_⟩, z_nb_t hnb w3⟩
    rw [show p - i = (p - (i + 1)) + 1 by omega]
    exact ⟨q, hq, w2⟩
end S18D
/-! what steps, way, reach, farthest answer -/
section S18E
variable {rc cc br zc rw sh cr cq dp wd za fl fk fy : Nat → Int32} {sv : l_T} {N l ns : Nat}
def l_tt (sv : l_T) (l : Nat) : Nat := 2130 * (z_pr (l_R sv) l * z_pr (l_C sv) l) + 2
def l_adj (sv : l_T) (l : Nat) : Nat → Nat → Prop := z_adj (z_pr (l_R sv) l) (z_pr (l_C sv) l)
/-- two sheets of a level -/
def l_w2 (sv : l_T) (p q r : Int32) (l a b : Nat) : Prop := l < 5 ∧ p = nI l ∧ q = nI a ∧ r = nI b ∧ a < l_tt sv l ∧ b < l_tt sv l
def l_hs2 (sv : l_T) (p q r : Int32) : Prop := z_hs (z_pr (l_R sv)) (z_pr (l_C sv)) p q ∧ z_hs (z_pr (l_R sv)) (z_pr (l_C sv)) p r
theorem l_w2_ex {p q r : Int32} (h : l_hs2 sv p q r) : ∃ l a b, l_w2 sv p q r l a b := by
  obtain ⟨⟨l, a, hl, rfl, rfl, ha⟩, ⟨l2, b, hl2, el, rfl, hb⟩⟩ := h
  have : l = l2 := by rw [nI_eq (by omega) (by omega)] at el; exact el
  subst this
  exact ⟨l, a, b, hl, rfl, rfl, rfl, ha, hb⟩
theorem l_w2_hs {p q r : Int32} {l a b : Nat} (h : l_w2 sv p q r l a b) : l_hs2 sv p q r := ⟨⟨l, a, h.1, h.2.1, h.2.2.1, h.2.2.2.2.1⟩, ⟨l, b, h.1, h.2.1, h.2.2.2.1, h.2.2.2.2.2⟩⟩
/-- an answer about two sheets: what is refused, else what they give -/
def l_rl2 (sv : l_T) (p q r : Int32) (C : Prop) (Q : Nat → Nat → Nat → Int32 → Prop) (x : Int32) : Prop := (¬ (l_hs2 sv p q r ∧ C) ∧ x = -1) ∨ (C ∧ ∃ l a b, l_w2 sv p q r l a b ∧ Q l a b x)
theorem l_rl2N {p q r : Int32} {C : Prop} {Q : Nat → Nat → Nat → Int32 → Prop} (h : ¬ (l_hs2 sv p q r ∧ C)) : l_rl2 sv p q r C Q (-1) := Or.inl ⟨h, rfl⟩
theorem l_rl2Y {p q r x : Int32} {C : Prop} {Q : Nat → Nat → Nat → Int32 → Prop} (h : C) {l a b : Nat} (hw : l_w2 sv p q r l a b) (hq : Q l a b x) : l_rl2 sv p q r C Q x := Or.inr ⟨h, l, a, b, hw, hq⟩
theorem l_tt_b (h : l_ok sv) (hl : l < 5) : l_tt sv l ≤ 20000000 := h.1.sh hl
theorem l_rl2_one {p q r x x2 : Int32} {C : Prop} {Q : Nat → Nat → Nat → Int32 → Prop} (h : l_ok sv) (hQ : ∀ l a b x x2, l < 5 → a < l_tt sv l → b < l_tt sv l → Q l a b x → Q l a b x2 → x = x2) (h1 : l_rl2 sv p q r C Q x) (h2 : l_rl2 sv p q r C Q x2) : x = x2 := by
  rcases h1 with ⟨a1, rfl⟩ | ⟨c1, l, a, b, w1, q1⟩ <;> rcases h2 with ⟨a2, rfl⟩ | ⟨c2, l', a', b', w2, q2⟩
  · rfl
  · exact absurd ⟨l_w2_hs w2, c2⟩ a1
  · exact absurd ⟨l_w2_hs w1, c1⟩ a2
  · obtain ⟨hl, rfl, rfl, rfl, ha, hb⟩ := w1
    obtain ⟨hl', e1, e2, e3, ha', hb'⟩ := w2
    have t1 := l_tt_b h hl
    have t2 := l_tt_b h hl'
    rw [nI_eq (by omega) (by omega)] at e1 e2 e3
    subst e1 e2 e3
    exact hQ l a b x x2 hl ha hb q1 q2
/-- -3 where there are too many sheets -/
def l_fw (sv : l_T) (l : Nat) (x : Int32) (P : Prop) : Prop := (20000 < l_tt sv l ∧ x = -3) ∨ (l_tt sv l ≤ 20000 ∧ P)
theorem l_fw_one {x x2 : Int32} {P P2 : Prop} (h1 : l_fw sv l x P) (h2 : l_fw sv l x2 P2) (h : l_tt sv l ≤ 20000 → P → P2 → x = x2) : x = x2 := by
  rcases h1 with ⟨a, rfl⟩ | ⟨a, b⟩ <;> rcases h2 with ⟨c, rfl⟩ | ⟨c, d⟩
  · rfl
  · omega
  · omega
  · exact h a b d
def l_Qsteps (sv : l_T) (l a b : Nat) (x : Int32) : Prop := l_fw sv l x (∃ f, (z_S (l_adj sv l) (l_tt sv l) a f ∧ x = f b) ∨ (z_S (l_adj sv l) (l_tt sv l) b f ∧ x = f a))
def l_Qway (sv : l_T) (i : Int32) (l a b : Nat) (x : Int32) : Prop := l_fw sv l x (∃ f, z_S (l_adj sv l) (l_tt sv l) b f ∧ ((¬ i ≤ f a ∧ x = -2) ∨ (i ≤ f a ∧ ∃ k, z_wy (l_adj sv l) (l_tt sv l) f i.toInt.toNat a k ∧ x = nI k)))
def l_Qreach (sv : l_T) (i : Int32) (l a _b : Nat) (x : Int32) : Prop := l_fw sv l x (∃ f, z_S (l_adj sv l) (l_tt sv l) a f ∧ x = nI (z_cnl f i (l_tt sv l)))
def l_Qfar (sv : l_T) (i : Int32) (l a _b : Nat) (x : Int32) : Prop := l_fw sv l x (∃ f, z_S (l_adj sv l) (l_tt sv l) a f ∧ x = if i = 0 then f (z_far f (l_tt sv l)) else nI (z_far f (l_tt sv l)))
def l_asteps (sv : l_T) (p q r x : Int32) : Prop := l_rl2 sv p q r True (l_Qsteps sv) x
def l_away (sv : l_T) (p q r i x : Int32) : Prop := l_rl2 sv p q r (0 ≤ i) (l_Qway sv i) x
def l_areach (sv : l_T) (p q i x : Int32) : Prop := l_rl2 sv p q q (0 ≤ i) (l_Qreach sv i) x
def l_afarthest (sv : l_T) (p q i x : Int32) : Prop := l_rl2 sv p q q (0 ≤ i.toInt ∧ i.toInt ≤ 1) (l_Qfar sv i) x
theorem l_asteps_one {p q r x x2 : Int32} (h : l_ok sv) (h1 : l_asteps sv p q r x) (h2 : l_asteps sv p q r x2) : x = x2 := by
  refine l_rl2_one (Q := l_Qsteps sv) h (fun l a b x x2 hl ha hb q1 q2 => l_fw_one q1 q2 (fun ht z1 z2 => ?_)) h1 h2
  have sy : ∀ k k2, l_adj sv l k k2 → l_adj sv l k2 k := fun _ _ z => z_adj_symm z
  obtain ⟨f, z1⟩ := z1
  obtain ⟨g, z2⟩ := z2
  rcases z1 with ⟨s1, rfl⟩ | ⟨s1, rfl⟩ <;> rcases z2 with ⟨s2, rfl⟩ | ⟨s2, rfl⟩
  · exact z_S_one ht s1 s2 b hb
  · exact z_S_both ht sy ha hb s1 s2
  · exact (z_S_both ht sy ha hb s2 s1).symm
  · exact z_S_one ht s1 s2 a ha
theorem l_away_one {p q r i x x2 : Int32} (h : l_ok sv) (h1 : l_away sv p q r i x) (h2 : l_away sv p q r i x2) : x = x2 := by
  refine l_rl2_one (Q := l_Qway sv i) h (fun l a b x x2 hl ha hb q1 q2 => l_fw_one q1 q2 (fun ht z1 z2 => ?_)) h1 h2
  obtain ⟨f, s1, z1⟩ := z1
  obtain ⟨g, s2, z2⟩ := z2
  have e := z_S_one ht s1 s2
  rw [← e a ha] at z2
  rcases z1 with ⟨c1, rfl⟩ | ⟨c1, k, k1, rfl⟩ <;> rcases z2 with ⟨c2, rfl⟩ | ⟨c2, k', k2, rfl⟩
  · rfl
  · exact absurd c2 c1
  · exact absurd c1 c2
  · rw [z_wy_one e _ a k k' ha k1 k2]
theorem l_areach_one {p q i x x2 : Int32} (h : l_ok sv) (h1 : l_areach sv p q i x) (h2 : l_areach sv p q i x2) : x = x2 := by
  refine l_rl2_one (Q := l_Qreach sv i) h (fun l a b x x2 hl ha hb q1 q2 => l_fw_one q1 q2 (fun ht z1 z2 => ?_)) h1 h2
  obtain ⟨f, s1, rfl⟩ := z1
  obtain ⟨g, s2, rfl⟩ := z2
  rw [z_cnl_one i _ (z_S_one ht s1 s2)]
theorem l_afarthest_one {p q i x x2 : Int32} (h : l_ok sv) (h1 : l_afarthest sv p q i x) (h2 : l_afarthest sv p q i x2) : x = x2 := by
  refine l_rl2_one (Q := l_Qfar sv i) h (fun l a b x x2 hl ha hb q1 q2 => l_fw_one q1 q2 (fun ht z1 z2 => ?_)) h1 h2
  obtain ⟨f, s1, rfl⟩ := z1
  obtain ⟨g, s2, rfl⟩ := z2
  have e := z_S_one ht s1 s2
  rw [z_far_one _ e, e _ (z_far_lt g _ (show 1 ≤ l_tt sv l by unfold l_tt; omega))]
end S18E
/-! the class's steps, way, reach, farthest -/
section S18F
variable {rc cc br zc rw sh cr cq dp wd za fl fk fy : Nat → Int32} {sv : l_T} {N l ns : Nat}
theorem a_x_steps (g : GOK (l_R sv) (l_C sv) (z_pr (l_R sv)) (z_pr (l_C sv)) rc cc br zc rw sh) (hN : 3000000 ≤ N) (hs2 : ns < 2 ^ 31) (a b : Nat → Int32) (mm : Int32) (c d : Nat → Int32) (v1 v2 v3 v4 v5 v6 p q r : Int32) : z_or ns (Ok (f_X_steps N ns ns a b mm c d v1 v2 v3 v4 v5 v6 br zc rw sh p q r) (fun x => l_asteps sv p q r x.1)) (fun nL => Ok (f_X_stepsN N nL ns a b mm c d v1 v2 v3 v4 v5 v6 br zc rw sh p q r) (fun x => l_asteps sv p q r x.1)) := by
  obtain ⟨x1, e1, h1⟩ := r_areSheets g p q r
  rcases h1 with ⟨hh, rfl⟩ | ⟨hh, rfl⟩
  rotate_left
  · left; unfold f_X_steps; rw [e1, q_b1_s, if_pos rfl]; exact Ok.ret (l_rl2N (fun z => hh z.1))
  obtain ⟨l, k, k2, hl, rfl, rfl, rfl, hk, hk2⟩ := l_w2_ex hh
  have hw : l_w2 sv (nI l) (nI k) (nI k2) l k k2 := ⟨hl, rfl, rfl, rfl, hk, hk2⟩
  have hsh := g.2.sh hl
  obtain ⟨-, -, -, -, -, e6⟩ := g.at hl
  by_cases ht : 2130 * (z_pr (l_R sv) l * z_pr (l_C sv) l) + 2 ≤ 20000
  · have hle : nI (2130 * (z_pr (l_R sv) l * z_pr (l_C sv) l) + 2) ≤ 20000 := by rw [z_i 20000, nI_leI (by omega) (by omega)]; exact ht
    by_cases hr : 2130 * (z_pr (l_R sv) l * z_pr (l_C sv) l) + 2 ≤ ns
    · left
      unfold f_X_steps
      rw [e1, q_b1_s, if_neg (by decide), z_ai hl (by omega), e6, if_pos hle]
      refine Ok.b11 (r_spread g hN hl ht hr hs2 hk a b c d mm _ _ _ _ _ _) (fun f3 _ _ _ _ _ _ _ _ _ _ h5 => ?_)
      rw [k_stepsTo (Nat.lt_of_lt_of_le hk2 hr) hs2, q_b1_s]
      exact Ok.ret (l_rl2Y trivial hw (Or.inr ⟨ht, f3, Or.inl ⟨h5.2, rfl⟩⟩))
    · right
      refine ⟨2130 * (z_pr (l_R sv) l * z_pr (l_C sv) l) + 2, by omega, ht, ⟨_, rfl⟩, ?_⟩
      dsimp only
      unfold f_X_stepsN
      rw [e1, q_b1_s, if_neg (by decide), z_ai hl (by omega), e6, if_pos hle]
      refine Ok.b11 (r_spreadN g hN hl rfl ht (by omega) hk a b c d mm _ _ _ _ _ _) (fun f3 _ _ _ _ _ _ _ _ _ _ h5 => ?_)
      rw [k_stepsTo (ns := 2130 * (z_pr (l_R sv) l * z_pr (l_C sv) l) + 2) hk2 (by omega), q_b1_s]
      exact Ok.ret (l_rl2Y trivial hw (Or.inr ⟨ht, f3, Or.inl ⟨h5.2, rfl⟩⟩))
  · left
    unfold f_X_steps
    rw [e1, q_b1_s, if_neg (by decide), z_ai hl (by omega), e6, if_neg (by rw [z_i 20000, nI_leI (by omega) (by omega)]; exact ht)]
    exact Ok.ret (l_rl2Y trivial hw (Or.inl ⟨Nat.lt_of_not_le ht, rfl⟩))
theorem a_x_way (g : GOK (l_R sv) (l_C sv) (z_pr (l_R sv)) (z_pr (l_C sv)) rc cc br zc rw sh) (hN : 3000000 ≤ N) (hs2 : ns < 2 ^ 31) (a b : Nat → Int32) (mm : Int32) (c d : Nat → Int32) (v1 v2 v3 v4 v5 v6 p q r i : Int32) : z_or ns (Ok (f_X_way N ns ns a b mm c d v1 v2 v3 v4 v5 v6 br zc rw sh p q r i) (fun x => l_away sv p q r i x.1)) (fun nL => Ok (f_X_wayN N nL ns a b mm c d v1 v2 v3 v4 v5 v6 br zc rw sh p q r i) (fun x => l_away sv p q r i x.1)) := by
  obtain ⟨x1, e1, h1⟩ := r_areSheets g p q r
  rcases h1 with ⟨hh, rfl⟩ | ⟨hh, rfl⟩
  rotate_left
  · left; unfold f_X_way; rw [e1, q_b1_s, if_pos rfl]; exact Ok.ret (l_rl2N (fun z => hh z.1))
  by_cases hi : ¬ 0 ≤ i
  · left; unfold f_X_way; rw [e1, q_b1_s, if_neg (by decide), if_neg hi]; exact Ok.ret (l_rl2N (fun z => hi z.2))
  have hi := Decidable.not_not.mp hi
  have h0 := z_le.mp hi
  rw [show (0 : Int32).toInt = 0 from rfl] at h0
  obtain ⟨j, j1, rfl, j3⟩ := z_nat h0
  have hjt : (nI j).toInt.toNat = j := by rw [j3]; rfl
  obtain ⟨l, k, k2, hl, rfl, rfl, rfl, hk, hk2⟩ := l_w2_ex hh
  have hw : l_w2 sv (nI l) (nI k) (nI k2) l k k2 := ⟨hl, rfl, rfl, rfl, hk, hk2⟩
  have hsh := g.2.sh hl
  obtain ⟨-, -, -, -, -, e6⟩ := g.at hl
  by_cases ht : 2130 * (z_pr (l_R sv) l * z_pr (l_C sv) l) + 2 ≤ 20000
  · have hle : nI (2130 * (z_pr (l_R sv) l * z_pr (l_C sv) l) + 2) ≤ 20000 := by rw [z_i 20000, nI_leI (by omega) (by omega)]; exact ht
    have far : ∀ f3 : Nat → Int32, z_S (z_adj (z_pr (l_R sv) l) (z_pr (l_C sv) l)) (2130 * (z_pr (l_R sv) l * z_pr (l_C sv) l) + 2) k2 f3 → nI j ≤ f3 k → ∃ d, d < 2130 * (z_pr (l_R sv) l * z_pr (l_C sv) l) + 2 ∧ f3 k = nI d ∧ j ≤ d := by
      intro f3 hS hj
      rcases hS.2.1 k hk with z | ⟨d, d1, d2⟩
      · rw [z, z_le, j3, show (-1 : Int32).toInt = -1 from rfl] at hj; omega
      · rw [d2, nI_leI j1 (by omega)] at hj
        exact ⟨d, d1, d2, hj⟩
    by_cases hr : 2130 * (z_pr (l_R sv) l * z_pr (l_C sv) l) + 2 ≤ ns
    · left
      unfold f_X_way
      rw [e1, q_b1_s, if_neg (by decide), if_pos hi, z_ai hl (by omega), e6, if_pos hle]
      refine Ok.b11 (r_spread g hN hl ht hr hs2 hk2 a b c d mm _ _ _ _ _ _) (fun f3 _ v5 _ _ _ _ _ _ _ _ h5 => ?_)
      obtain ⟨h5, hS⟩ := h5
      dsimp only at h5 hS
      subst h5
      rw [k_stepsTo (Nat.lt_of_lt_of_le hk hr) hs2, q_b1_s]
      refine Ok.ite (fun hj => ?_) (fun hj => Ok.ret (l_rl2Y hi hw (Or.inr ⟨ht, f3, hS, Or.inl ⟨hj, rfl⟩⟩)))
      refine Ok.b9 (r_onTheWay g hN hl rfl ht hr hs2 hS hk (far f3 hS hj) _ _ _ _ _ _ _ _) (fun _ _ _ _ _ _ _ _ _ h => ?_)
      obtain ⟨w, w1, w2⟩ := h
      dsimp only at w1
      subst w1
      exact Ok.ret (l_rl2Y hi hw (Or.inr ⟨ht, f3, hS, Or.inr ⟨hj, w, by rw [hjt]; exact w2, rfl⟩⟩))
    · right
      refine ⟨2130 * (z_pr (l_R sv) l * z_pr (l_C sv) l) + 2, by omega, ht, ⟨_, rfl⟩, ?_⟩
      dsimp only
      unfold f_X_wayN
      rw [e1, q_b1_s, if_neg (by decide), if_pos hi, z_ai hl (by omega), e6, if_pos hle]
      refine Ok.b11 (r_spreadN g hN hl rfl ht (by omega) hk2 a b c d mm _ _ _ _ _ _) (fun f3 _ v5 _ _ _ _ _ _ _ _ h5 => ?_)
      obtain ⟨h5, hS⟩ := h5
      dsimp only at h5 hS
      subst h5
      rw [k_stepsTo (ns := 2130 * (z_pr (l_R sv) l * z_pr (l_C sv) l) + 2) hk (by omega), q_b1_s]
      refine Ok.ite (fun hj => ?_) (fun hj => Ok.ret (l_rl2Y hi hw (Or.inr ⟨ht, f3, hS, Or.inl ⟨hj, rfl⟩⟩)))
      refine Ok.b9 (r_onTheWay g hN hl rfl ht (Nat.le_refl _) (by omega) hS hk (far f3 hS hj) _ _ _ _ _ _ _ _) (fun _ _ _ _ _ _ _ _ _ h => ?_)
      obtain ⟨w, w1, w2⟩ := h
      dsimp only at w1
      subst w1
      exact Ok.ret (l_rl2Y hi hw (Or.inr ⟨ht, f3, hS, Or.inr ⟨hj, w, by rw [hjt]; exact w2, rfl⟩⟩))
  · left
    unfold f_X_way
    rw [e1, q_b1_s, if_neg (by decide), if_pos hi, z_ai hl (by omega), e6, if_neg (by rw [z_i 20000, nI_leI (by omega) (by omega)]; exact ht)]
    exact Ok.ret (l_rl2Y hi hw (Or.inl ⟨Nat.lt_of_not_le ht, rfl⟩))
theorem a_x_reach (g : GOK (l_R sv) (l_C sv) (z_pr (l_R sv)) (z_pr (l_C sv)) rc cc br zc rw sh) (hN : 3000000 ≤ N) (hs2 : ns < 2 ^ 31) (a b : Nat → Int32) (mm : Int32) (c d : Nat → Int32) (v1 v2 v3 v4 v5 v6 p q i : Int32) : z_or ns (Ok (f_X_reach N ns ns a b mm c d v1 v2 v3 v4 v5 v6 br zc rw sh p q i) (fun x => l_areach sv p q i x.1)) (fun nL => Ok (f_X_reachN N nL ns a b mm c d v1 v2 v3 v4 v5 v6 br zc rw sh p q i) (fun x => l_areach sv p q i x.1)) := by
  obtain ⟨x1, e1, h1⟩ := r_hasSheet g p q
  rcases h1 with ⟨hh, rfl⟩ | ⟨hh, rfl⟩
  rotate_left
  · left; unfold f_X_reach; rw [e1, q_b1_s, if_pos rfl]; exact Ok.ret (l_rl2N (fun z => hh z.1.1))
  by_cases hi : ¬ 0 ≤ i
  · left; unfold f_X_reach; rw [e1, q_b1_s, if_neg (by decide), if_neg hi]; exact Ok.ret (l_rl2N (fun z => hi z.2))
  have hi := Decidable.not_not.mp hi
  obtain ⟨l, k, hl, rfl, rfl, hk⟩ := hh
  have hw : l_w2 sv (nI l) (nI k) (nI k) l k k := ⟨hl, rfl, rfl, rfl, hk, hk⟩
  have hsh := g.2.sh hl
  obtain ⟨-, -, -, -, -, e6⟩ := g.at hl
  by_cases ht : 2130 * (z_pr (l_R sv) l * z_pr (l_C sv) l) + 2 ≤ 20000
  · have hle : nI (2130 * (z_pr (l_R sv) l * z_pr (l_C sv) l) + 2) ≤ 20000 := by rw [z_i 20000, nI_leI (by omega) (by omega)]; exact ht
    by_cases hr : 2130 * (z_pr (l_R sv) l * z_pr (l_C sv) l) + 2 ≤ ns
    · left
      unfold f_X_reach
      rw [e1, q_b1_s, if_neg (by decide), if_pos hi, z_ai hl (by omega), e6, if_pos hle]
      refine Ok.b11 (r_spread g hN hl ht hr hs2 hk a b c d mm _ _ _ _ _ _) (fun f3 _ v5 _ _ _ _ _ _ _ _ h5 => ?_)
      obtain ⟨h5, hS⟩ := h5
      dsimp only at h5 hS
      subst h5
      refine Ok.b1 (r_within (by omega) hr hs2 i f3) (fun v h => ?_)
      subst h
      exact Ok.ret (l_rl2Y hi hw (Or.inr ⟨ht, f3, hS, rfl⟩))
    · right
      refine ⟨2130 * (z_pr (l_R sv) l * z_pr (l_C sv) l) + 2, by omega, ht, ⟨_, rfl⟩, ?_⟩
      dsimp only
      unfold f_X_reachN
      rw [e1, q_b1_s, if_neg (by decide), if_pos hi, z_ai hl (by omega), e6, if_pos hle]
      refine Ok.b11 (r_spreadN g hN hl rfl ht (by omega) hk a b c d mm _ _ _ _ _ _) (fun f3 _ v5 _ _ _ _ _ _ _ _ h5 => ?_)
      obtain ⟨h5, hS⟩ := h5
      dsimp only at h5 hS
      subst h5
      refine Ok.b1 (r_within (by omega) (Nat.le_refl _) (by omega) i f3) (fun v h => ?_)
      subst h
      exact Ok.ret (l_rl2Y hi hw (Or.inr ⟨ht, f3, hS, rfl⟩))
  · left
    unfold f_X_reach
    rw [e1, q_b1_s, if_neg (by decide), if_pos hi, z_ai hl (by omega), e6, if_neg (by rw [z_i 20000, nI_leI (by omega) (by omega)]; exact ht)]
    exact Ok.ret (l_rl2Y hi hw (Or.inl ⟨Nat.lt_of_not_le ht, rfl⟩))
theorem a_x_farthest (g : GOK (l_R sv) (l_C sv) (z_pr (l_R sv)) (z_pr (l_C sv)) rc cc br zc rw sh) (hN : 3000000 ≤ N) (hs2 : ns < 2 ^ 31) (a b : Nat → Int32) (mm : Int32) (c d : Nat → Int32) (v1 v2 v3 v4 v5 v6 p q i : Int32) : z_or ns (Ok (f_X_farthest N ns ns a b mm c d v1 v2 v3 v4 v5 v6 br zc rw sh p q i) (fun x => l_afarthest sv p q i x.1)) (fun nL => Ok (f_X_farthestN N nL ns a b mm c d v1 v2 v3 v4 v5 v6 br zc rw sh p q i) (fun x => l_afarthest sv p q i x.1)) := by
  obtain ⟨x1, e1, h1⟩ := r_hasSheet g p q
  rcases h1 with ⟨hh, rfl⟩ | ⟨hh, rfl⟩
  rotate_left
  · left; unfold f_X_farthest; rw [e1, q_b1_s, if_pos rfl]; exact Ok.ret (l_rl2N (fun z => hh z.1.1))
  obtain ⟨x2, e2, h2⟩ := s_isFrom i 0 1
  rw [show (0 : Int32).toInt = 0 from rfl, show (1 : Int32).toInt = 1 from rfl] at h2
  by_cases hi : 0 ≤ i.toInt ∧ i.toInt ≤ 1
  rotate_left
  · left; unfold f_X_farthest; rw [e1, q_b1_s, if_neg (by decide), e2, q_b1_s, if_pos (by rw [h2, if_neg hi])]; exact Ok.ret (l_rl2N (fun z => hi z.2))
  have n2 : ¬ x2 = 0 := by rw [h2, if_pos hi]; decide
  obtain ⟨l, k, hl, rfl, rfl, hk⟩ := hh
  have hw : l_w2 sv (nI l) (nI k) (nI k) l k k := ⟨hl, rfl, rfl, rfl, hk, hk⟩
  have hsh := g.2.sh hl
  obtain ⟨-, -, -, -, -, e6⟩ := g.at hl
  by_cases ht : 2130 * (z_pr (l_R sv) l * z_pr (l_C sv) l) + 2 ≤ 20000
  · have hle : nI (2130 * (z_pr (l_R sv) l * z_pr (l_C sv) l) + 2) ≤ 20000 := by rw [z_i 20000, nI_leI (by omega) (by omega)]; exact ht
    by_cases hr : 2130 * (z_pr (l_R sv) l * z_pr (l_C sv) l) + 2 ≤ ns
    · left
      unfold f_X_farthest
      rw [e1, q_b1_s, if_neg (by decide), e2, q_b1_s, if_neg n2, z_ai hl (by omega), e6, if_pos hle]
      refine Ok.b11 (r_spread g hN hl ht hr hs2 hk a b c d mm _ _ _ _ _ _) (fun f3 _ v5 _ _ _ _ _ _ _ _ h5 => ?_)
      obtain ⟨h5, hS⟩ := h5
      dsimp only at h5 hS
      subst h5
      refine Ok.b1 (r_farthestKey (by omega) hr hs2 (by omega) f3) (fun v h => ?_)
      subst h
      have hlt := z_far_lt f3 (2130 * (z_pr (l_R sv) l * z_pr (l_C sv) l) + 2) (by omega)
      rw [k_stepsTo (Nat.lt_of_lt_of_le hlt hr) hs2, q_b1_s]
      refine Ok.ite (fun c0 => Ok.ret (l_rl2Y hi hw (Or.inr ⟨ht, f3, hS, ?_⟩))) (fun c0 => Ok.ret (l_rl2Y hi hw (Or.inr ⟨ht, f3, hS, ?_⟩)))
      · rw [if_pos c0]; rfl
      · rw [if_neg c0]; rfl
    · right
      refine ⟨2130 * (z_pr (l_R sv) l * z_pr (l_C sv) l) + 2, by omega, ht, ⟨_, rfl⟩, ?_⟩
      dsimp only
      unfold f_X_farthestN
      rw [e1, q_b1_s, if_neg (by decide), e2, q_b1_s, if_neg n2, z_ai hl (by omega), e6, if_pos hle]
      refine Ok.b11 (r_spreadN g hN hl rfl ht (by omega) hk a b c d mm _ _ _ _ _ _) (fun f3 _ v5 _ _ _ _ _ _ _ _ h5 => ?_)
      obtain ⟨h5, hS⟩ := h5
      dsimp only at h5 hS
      subst h5
      refine Ok.b1 (r_farthestKey (by omega) (Nat.le_refl _) (by omega) (by omega) f3) (fun v h => ?_)
      subst h
      have hlt := z_far_lt f3 (2130 * (z_pr (l_R sv) l * z_pr (l_C sv) l) + 2) (by omega)
      rw [k_stepsTo hlt (by omega), q_b1_s]
      refine Ok.ite (fun c0 => Ok.ret (l_rl2Y hi hw (Or.inr ⟨ht, f3, hS, ?_⟩))) (fun c0 => Ok.ret (l_rl2Y hi hw (Or.inr ⟨ht, f3, hS, ?_⟩)))
      · rw [if_pos c0]; rfl
      · rw [if_neg c0]; rfl
  · left
    unfold f_X_farthest
    rw [e1, q_b1_s, if_neg (by decide), e2, q_b1_s, if_neg n2, z_ai hl (by omega), e6, if_neg (by rw [z_i 20000, nI_leI (by omega) (by omega)]; exact ht)]
    exact Ok.ret (l_rl2Y hi hw (Or.inl ⟨Nat.lt_of_not_le ht, rfl⟩))
end S18F
/-! the reference's steps, way, reach, farthest -/
section S18G
variable {rc cc br zc rw sh cr cq dp wd za fl fk fy : Nat → Int32} {sv : l_T} {N l ns : Nat}
theorem r_stepsOf (g : MOK (l_R sv) (l_C sv) (z_pr (l_R sv)) (z_pr (l_C sv)) cr cq dp wd za) (hN : 1000000 ≤ N) {k k2 : Nat} (hl : l < 5) (hk : k < l_tt sv l) (hk2 : k2 < l_tt sv l) (a b : Int32) (f qu : Nat → Int32) (m : Int32) : Ok (f_M_stepsOf N dp wd za a b f qu m (nI l) (nI k) (nI k2)) (fun x => l_Qsteps sv l k k2 x.1 ∧ z_nb a x.2.1) := by
  unfold f_M_stepsOf
  rw [t_isGreat g hl, q_b1_s]
  by_cases h : 2130 * (z_pr (l_R sv) l * z_pr (l_C sv) l) + 2 ≤ 20000
  · rw [if_pos h, if_pos rfl]
    exact Ok.b5 (r_laysSteps g hN hl rfl h hk2 a b f qu m) (fun _ _ f4 _ _ hS => Ok.ain (Nat.lt_of_lt_of_le hk h) (by decide) (Ok.ret ⟨Or.inr ⟨h, f4, Or.inr ⟨hS.1, rfl⟩⟩, hS.2⟩))
  · rw [if_neg h, if_neg (by decide)]
    exact Ok.ret ⟨Or.inl ⟨Nat.lt_of_not_le h, rfl⟩, z_nb_r a⟩
theorem a2_m_steps (g : MOK (l_R sv) (l_C sv) (z_pr (l_R sv)) (z_pr (l_C sv)) cr cq dp wd za) (hN : 1000000 ≤ N) (a b : Int32) (f qu : Nat → Int32) (m p q r : Int32) : Ok (f_M_steps N dp wd za a b f qu m p q r) (fun x => l_asteps sv p q r x.1 ∧ z_nb a x.2.1) := by
  unfold f_M_steps
  refine Ok.b1 (r_isKey g p q) (fun v1 h1 => ?_)
  rcases h1 with ⟨z, rfl⟩ | ⟨z, rfl⟩
  rotate_left
  · rw [if_pos rfl]; exact Ok.ret ⟨l_rl2N (fun u => z u.1.1), z_nb_r a⟩
  rw [if_neg (by decide)]
  refine Ok.b1 (r_isKey g p r) (fun v2 h2 => ?_)
  rcases h2 with ⟨y, rfl⟩ | ⟨y, rfl⟩
  rotate_left
  · rw [if_pos rfl]; exact Ok.ret ⟨l_rl2N (fun u => y u.1.2), z_nb_r a⟩
  rw [if_neg (by decide)]
  obtain ⟨l, k, k2, hl, rfl, rfl, rfl, hk, hk2⟩ := l_w2_ex (sv := sv) ⟨z, y⟩
  exact Ok.b6 (r_stepsOf g hN hl hk hk2 a b f qu m) (fun _ _ _ _ _ _ h => Ok.ret ⟨l_rl2Y trivial ⟨hl, rfl, rfl, rfl, hk, hk2⟩ h.1, h.2⟩)
theorem a_m_steps (g : MOK (l_R sv) (l_C sv) (z_pr (l_R sv)) (z_pr (l_C sv)) cr cq dp wd za) (hN : 1000000 ≤ N) (a b : Int32) (f qu : Nat → Int32) (m p q r : Int32) : Ok (f_M_steps N dp wd za a b f qu m p q r) (fun x => l_asteps sv p q r x.1) := Ok.weak (a2_m_steps g hN a b f qu m p q r) (fun _ h => h.1)
theorem a2_m_way (g : MOK (l_R sv) (l_C sv) (z_pr (l_R sv)) (z_pr (l_C sv)) cr cq dp wd za) (hN : 1000000 ≤ N) (a b : Int32) (f qu : Nat → Int32) (m p q r i : Int32) : Ok (f_M_way N dp wd za a b f qu m p q r i) (fun x => l_away sv p q r i x.1 ∧ z_nb a x.2.1) := by
  unfold f_M_way
  refine Ok.b1 (r_isKey g p q) (fun v1 h1 => ?_)
  rcases h1 with ⟨z, rfl⟩ | ⟨z, rfl⟩
  rotate_left
  · rw [if_pos rfl]; exact Ok.ret ⟨l_rl2N (fun u => z u.1.1), z_nb_r a⟩
  rw [if_neg (by decide)]
  refine Ok.b1 (r_isKey g p r) (fun v2 h2 => ?_)
  rcases h2 with ⟨y, rfl⟩ | ⟨y, rfl⟩
  rotate_left
  · rw [if_pos rfl]; exact Ok.ret ⟨l_rl2N (fun u => y u.1.2), z_nb_r a⟩
  rw [if_neg (by decide)]
  by_cases hi : ¬ 0 ≤ i
  · rw [if_neg hi]; exact Ok.ret ⟨l_rl2N (fun z => hi z.2), z_nb_r a⟩
  have hi := Decidable.not_not.mp hi
  have h0 := z_le.mp hi
  rw [show (0 : Int32).toInt = 0 from rfl] at h0
  obtain ⟨j, j1, rfl, j3⟩ := z_nat h0
  have hjt : (nI j).toInt.toNat = j := by rw [j3]; rfl
  obtain ⟨l, k, k2, hl, rfl, rfl, rfl, hk, hk2⟩ := l_w2_ex (sv := sv) ⟨z, y⟩
  have hw : l_w2 sv (nI l) (nI k) (nI k2) l k k2 := ⟨hl, rfl, rfl, rfl, hk, hk2⟩
  rw [if_pos hi, t_isGreat g hl, q_b1_s]
  by_cases ht : 2130 * (z_pr (l_R sv) l * z_pr (l_C sv) l) + 2 ≤ 20000
  · rw [if_pos ht, if_pos rfl]
    refine Ok.b5 (r_laysSteps g hN hl rfl ht hk2 a b f qu m) (fun v4 v5 f6 f7 v8 hS => Ok.ain (Nat.lt_of_lt_of_le hk ht) (by decide) ?_)
    obtain ⟨hS, hnb⟩ := hS
    dsimp only at hS hnb
    refine Ok.ite (fun hj => Ok.nm ?_) (fun hj => Ok.ret ⟨l_rl2Y hi hw (Or.inr ⟨ht, f6, hS, Or.inl ⟨hj, rfl⟩⟩), hnb⟩)
    have hd : ∃ d, d < 2130 * (z_pr (l_R sv) l * z_pr (l_C sv) l) + 2 ∧ f6 k = nI d ∧ j ≤ d := by
      rcases hS.2.1 k hk with z | ⟨d, d1, d2⟩
      · rw [z, z_le, j3, show (-1 : Int32).toInt = -1 from rfl] at hj; omega
      · have hj2 := hj
        rw [d2, nI_leI j1 (by omega)] at hj2
        exact ⟨d, d1, d2, hj2⟩
    obtain ⟨d, d1, d2, d3⟩ := hd
    refine Ok.b3 (r_way_L g hN hl rfl ht hS (p := j) (by omega) N 0 k v4 v5 (by omega) (by omega) hk ⟨d, d1, d2, by omega⟩) (fun _ _ _ h => ?_)
    obtain ⟨⟨w, w1, w2⟩, w3⟩ := h
    dsimp only at w1 w3
    subst w1
    exact Ok.ret ⟨l_rl2Y hi hw (Or.inr ⟨ht, f6, hS, Or.inr ⟨hj, w, by rw [hjt]; exact w2, rfl⟩⟩), z_nb_t hnb w3⟩
  · rw [if_neg ht, if_neg (by decide)]
    exact Ok.ret ⟨l_rl2Y hi hw (Or.inl ⟨Nat.lt_of_not_le ht, rfl⟩), z_nb_r a⟩
theorem a_m_way (g : MOK (l_R sv) (l_C sv) (z_pr (l_R sv)) (z_pr (l_C sv)) cr cq dp wd za) (hN : 1000000 ≤ N) (a b : Int32) (f qu : Nat → Int32) (m p q r i : Int32) : Ok (f_M_way N dp wd za a b f qu m p q r i) (fun x => l_away sv p q r i x.1) := Ok.weak (a2_m_way g hN a b f qu m p q r i) (fun _ h => h.1)
theorem a2_m_reach (g : MOK (l_R sv) (l_C sv) (z_pr (l_R sv)) (z_pr (l_C sv)) cr cq dp wd za) (hN : 1000000 ≤ N) (a b : Int32) (f qu : Nat → Int32) (m p q i : Int32) : Ok (f_M_reach N dp wd za a b f qu m p q i) (fun x => l_areach sv p q i x.1 ∧ z_nb a x.2.1) := by
  unfold f_M_reach
  refine Ok.b1 (r_isKey g p q) (fun v1 h1 => ?_)
  rcases h1 with ⟨z, rfl⟩ | ⟨z, rfl⟩
  rotate_left
  · rw [if_pos rfl]; exact Ok.ret ⟨l_rl2N (fun u => z u.1.1), z_nb_r a⟩
  rw [if_neg (by decide)]
  refine Ok.ite (fun hi => ?_) (fun hi => Ok.ret ⟨l_rl2N (fun z => hi z.2), z_nb_r a⟩)
  obtain ⟨l, k, hl, rfl, rfl, hk⟩ := z
  have hw : l_w2 sv (nI l) (nI k) (nI k) l k k := ⟨hl, rfl, rfl, rfl, hk, hk⟩
  rw [t_isGreat g hl, q_b1_s]
  by_cases ht : 2130 * (z_pr (l_R sv) l * z_pr (l_C sv) l) + 2 ≤ 20000
  · rw [if_pos ht, if_pos rfl]
    refine Ok.b5 (r_laysSteps g hN hl rfl ht hk a b f qu m) (fun v4 v5 f6 f7 v8 hS => Ok.nm (Ok.nm ?_))
    obtain ⟨hS, hnb⟩ := hS
    dsimp only at hS hnb
    have L : ∀ n j, j ≤ 2130 * (z_pr (l_R sv) l * z_pr (l_C sv) l) + 2 → 2130 * (z_pr (l_R sv) l * z_pr (l_C sv) l) + 2 - j < n → Ok (f_M_reach_L38 f6 dp wd za (nI l) i n (nI (z_cnl f6 i j)) (nI j)) (fun x => x = nI (z_cnl f6 i (2130 * (z_pr (l_R sv) l * z_pr (l_C sv) l) + 2))) := by
      intro n
      induction n with
      | zero => intro j _ h; omega
      | succ n ih =>
        intro j hj hn
        rw [f_M_reach_L38, m_sheets g hl, q_b1_s]
        refine Ok.ite (fun hc => Ok.ret ?_) (fun hc => ?_)
        all_goals rw [nI_leI (by omega) (by omega)] at hc
        · have : j = 2130 * (z_pr (l_R sv) l * z_pr (l_C sv) l) + 2 := by omega
          rw [this]
        · refine Ok.ain (by omega) (by decide) ?_
          rw [z_j1]
          dsimp only
          have t := ih (j + 1) (by omega) (by omega)
          rw [z_cnl_s] at t
          refine Ok.ite (fun h3 => Ok.nm (Ok.nm ?_)) (fun h3 => Ok.nm (Ok.nm ?_))
          · rw [if_pos h3] at t
            rw [show (0 : Int32) = nI 0 from rfl, nI_add, nI_1]; exact t
          · rw [if_neg h3] at t
            rw [show (1 : Int32) = nI 1 from rfl, nI_add, nI_add]; exact t
    refine Ok.b1 (L N 0 (by omega) (by omega)) (fun v h => ?_)
    subst h
    exact Ok.ret ⟨l_rl2Y hi hw (Or.inr ⟨ht, f6, hS, rfl⟩), hnb⟩
  · rw [if_neg ht, if_neg (by decide)]
    exact Ok.ret ⟨l_rl2Y hi hw (Or.inl ⟨Nat.lt_of_not_le ht, rfl⟩), z_nb_r a⟩
theorem a_m_reach (g : MOK (l_R sv) (l_C sv) (z_pr (l_R sv)) (z_pr (l_C sv)) cr cq dp wd za) (hN : 1000000 ≤ N) (a b : Int32) (f qu : Nat → Int32) (m p q i : Int32) : Ok (f_M_reach N dp wd za a b f qu m p q i) (fun x => l_areach sv p q i x.1) := Ok.weak (a2_m_reach g hN a b f qu m p q i) (fun _ h => h.1)
theorem a2_m_farthest (g : MOK (l_R sv) (l_C sv) (z_pr (l_R sv)) (z_pr (l_C sv)) cr cq dp wd za) (hN : 1000000 ≤ N) (a b : Int32) (f qu : Nat → Int32) (m p q i : Int32) : Ok (f_M_farthest N dp wd za a b f qu m p q i) (fun x => l_afarthest sv p q i x.1 ∧ z_nb a x.2.1) := by
  unfold f_M_farthest
  refine Ok.b1 (r_isKey g p q) (fun v1 h1 => ?_)
  rcases h1 with ⟨z, rfl⟩ | ⟨z, rfl⟩
  rotate_left
  · rw [if_pos rfl]; exact Ok.ret ⟨l_rl2N (fun u => z u.1.1), z_nb_r a⟩
  rw [if_neg (by decide), m_in, q_b1_s, z_toL, show (0 : Int64).toInt = 0 from rfl, show (1 : Int64).toInt = 1 from rfl]
  by_cases hi : 0 ≤ i.toInt ∧ i.toInt ≤ 1
  rotate_left
  · rw [if_neg hi, if_pos rfl]; exact Ok.ret ⟨l_rl2N (fun z => hi z.2), z_nb_r a⟩
  rw [if_pos hi, if_neg (by decide)]
  obtain ⟨l, k, hl, rfl, rfl, hk⟩ := z
  have hw : l_w2 sv (nI l) (nI k) (nI k) l k k := ⟨hl, rfl, rfl, rfl, hk, hk⟩
  rw [t_isGreat g hl, q_b1_s]
  by_cases ht : 2130 * (z_pr (l_R sv) l * z_pr (l_C sv) l) + 2 ≤ 20000
  · rw [if_pos ht, if_pos rfl]
    refine Ok.b5 (r_laysSteps g hN hl rfl ht hk a b f qu m) (fun v4 v5 f6 f7 v8 hS => Ok.nm (Ok.nm ?_))
    obtain ⟨hS, hnb⟩ := hS
    dsimp only at hS hnb
    have L : ∀ n j, 1 ≤ j → j ≤ 2130 * (z_pr (l_R sv) l * z_pr (l_C sv) l) + 2 → 2130 * (z_pr (l_R sv) l * z_pr (l_C sv) l) + 2 - j < n → Ok (f_M_farthest_L44 f6 dp wd za (nI l) n (nI (z_far f6 j)) (nI j)) (fun x => x = nI (z_far f6 (2130 * (z_pr (l_R sv) l * z_pr (l_C sv) l) + 2))) := by
      intro n
      induction n with
      | zero => intro j _ _ h; omega
      | succ n ih =>
        intro j h1 hj hn
        have hlt := z_far_lt f6 j h1
        rw [f_M_farthest_L44, m_sheets g hl, q_b1_s]
        refine Ok.ite (fun hc => Ok.ret ?_) (fun hc => ?_)
        all_goals rw [nI_leI (by omega) (by omega)] at hc
        · have : j = 2130 * (z_pr (l_R sv) l * z_pr (l_C sv) l) + 2 := by omega
          rw [this]
        · refine Ok.ain (by omega) (by decide) (Ok.ain (by omega) (by decide) ?_)
          rw [z_j1]
          dsimp only
          have t := ih (j + 1) (by omega) (by omega) (by omega)
          rw [z_far_s] at t
          refine Ok.ite (fun h3 => Ok.nm ?_) (fun h3 => Ok.nm ?_)
          · rw [if_pos h3] at t
            rw [nI_1]; exact t
          · rw [if_neg h3] at t
            rw [nI_1]; exact t
    have t := L N 1 (by omega) (by omega) (by omega)
    rw [z_far_1] at t
    refine Ok.b1 t (fun v h => ?_)
    subst h
    have hlt := z_far_lt f6 (2130 * (z_pr (l_R sv) l * z_pr (l_C sv) l) + 2) (by omega)
    refine Ok.ite (fun c0 => Ok.ain (by omega) (by decide) (Ok.ret ⟨l_rl2Y hi hw (Or.inr ⟨ht, f6, hS, ?_⟩), hnb⟩)) (fun c0 => Ok.ret ⟨l_rl2Y hi hw (Or.inr ⟨ht, f6, hS, ?_⟩), hnb⟩)
    · rw [if_pos c0]; rfl
    · rw [if_neg c0]; rfl
  · rw [if_neg ht, if_neg (by decide)]
    exact Ok.ret ⟨l_rl2Y hi hw (Or.inl ⟨Nat.lt_of_not_le ht, rfl⟩), z_nb_r a⟩
theorem a_m_farthest (g : MOK (l_R sv) (l_C sv) (z_pr (l_R sv)) (z_pr (l_C sv)) cr cq dp wd za) (hN : 1000000 ≤ N) (a b : Int32) (f qu : Nat → Int32) (m p q i : Int32) : Ok (f_M_farthest N dp wd za a b f qu m p q i) (fun x => l_afarthest sv p q i x.1) := Ok.weak (a2_m_farthest g hN a b f qu m p q i) (fun _ h => h.1)
end S18G
