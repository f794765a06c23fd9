/-! the reference's steps: what is known of distances and queue -/
def z_cnt (f : Nat → Int32) : Nat → Nat
  | 0 => 0
  | n + 1 => z_cnt f n + (if f n = -1 then 0 else 1)
theorem z_cnt_le (f : Nat → Int32) : ∀ n, z_cnt f n ≤ n := by
  intro n
  induction n with
  | zero => exact Nat.le_refl 0
  | succ n ih => unfold z_cnt; split <;> omega
theorem z_cnt_lt {f : Nat → Int32} {k : Nat} (h : f k = -1) : ∀ n, k < n → z_cnt f n < n := by
  intro n
  induction n with
  | zero => intro h; omega
  | succ n ih =>
    intro hk
    have := z_cnt_le f n
    unfold z_cnt
    by_cases e : n = k
    · subst e; rw [if_pos h]; omega
    · have := ih (by omega)
      split <;> omega
theorem z_cnt_same {f f2 : Nat → Int32} : ∀ n, (∀ j, j < n → f2 j = f j) → z_cnt f2 n = z_cnt f n := by
  intro n
  induction n with
  | zero => intro _; rfl
  | succ n ih =>
    intro h
    unfold z_cnt
    rw [ih (fun j hj => h j (by omega)), h n (by omega)]
theorem z_cnt_upd {f : Nat → Int32} {k : Nat} {x : Int32} (h : f k = -1) (hx : x ≠ -1) : ∀ n, k < n → z_cnt (upd f k x) n = z_cnt f n + 1 := by
  intro n
  induction n with
  | zero => intro h; omega
  | succ n ih =>
    intro hk
    unfold z_cnt
    by_cases e : n = k
    · subst e
      rw [z_updS, if_neg hx, if_pos h, z_cnt_same n (fun j hj => z_updN (by omega))]
    · rw [z_updN e, ih (by omega)]; omega
theorem z_cnt_none {f : Nat → Int32} : ∀ n, (∀ j, j < n → f j = -1) → z_cnt f n = 0 := by
  intro n
  induction n with
  | zero => intro _; rfl
  | succ n ih =>
    intro h
    unfold z_cnt
    rw [ih (fun j hj => h j (by omega)), if_pos (h n (by omega))]
theorem z_nIm1 {d : Nat} (h : d < 2 ^ 31) : nI d ≠ -1 := by
  intro e
  have := congrArg Int32.toInt e
  rw [nI_toInt h, show (-1 : Int32).toInt = -1 from rfl] at this
  omega
def z_bfs (A : Nat → Nat → Prop) (tot : Nat) (f qu : Nat → Int32) (e : Nat) : Prop :=
  z_cnt f tot = e ∧ (∀ j, j < e → ∃ k, k < tot ∧ qu j = nI k ∧ f k ≠ -1) ∧ (∀ k, k < tot → f k = -1 ∨ ∃ d, d < e ∧ f k = nI d) ∧
  (∀ k, k < tot → ∀ d, d + 1 < 2 ^ 31 → f k = nI (d + 1) → ∃ k2, k2 < tot ∧ A k2 k ∧ f k2 = nI d)
theorem s_meets {A : Nat → Nat → Prop} {tot : Nat} (ht : tot ≤ 20000) {f qu : Nat → Int32} {e : Nat} (h : z_bfs A tot f qu e) {k : Nat} (hk : k < tot) {d : Nat} (hd : d ≤ e) (hb : d = 0 ∨ ∃ k2, k2 < tot ∧ A k2 k ∧ f k2 = nI (d - 1)) :
    Ok (f_M_meets f qu (nI e) (nI k) (nI d)) (fun x => ∃ e2, x.2.2 = nI e2 ∧ z_bfs A tot x.1 x.2.1 e2 ∧ e ≤ e2 ∧ x.1 k ≠ -1 ∧ ∀ j, f j ≠ -1 → x.1 j = f j) := by
  obtain ⟨h1, h2, h3, h4⟩ := h
  have hc := z_cnt_le f tot
  unfold f_M_meets
  rw [z_ai (by omega) (by omega)]
  refine Ok.ite (fun hm => ?_) (fun hm => Ok.ret ⟨e, rfl, ⟨h1, h2, h3, h4⟩, Nat.le_refl e, hm, fun _ _ => rfl⟩)
  have hlt := z_cnt_lt hm tot hk
  refine Ok.asn (by omega) (by decide) (Ok.asn (by omega) (by decide) (Ok.nm (Ok.ret ⟨e + 1, nI_1 e, ⟨?_, ?_, ?_, ?_⟩, by omega, ?_, ?_⟩)))
  · dsimp only
    rw [z_cnt_upd hm (z_nIm1 (by omega)) tot hk, h1]
  · intro j hj
    dsimp only
    by_cases ej : j = e
    · subst ej
      exact ⟨k, hk, z_updS, by rw [z_updS]; exact z_nIm1 (by omega)⟩
    · obtain ⟨q, q1, q2, q3⟩ := h2 j (by omega)
      refine ⟨q, q1, by rw [z_updN ej]; exact q2, ?_⟩
      have : q ≠ k := fun z => q3 (by rw [z]; exact hm)
      rw [z_updN this]; exact q3
  · intro q hq
    dsimp only
    by_cases eq : q = k
    · subst eq; exact Or.inr ⟨d, by omega, z_updS⟩
    · rw [z_updN eq]
      rcases h3 q hq with z | ⟨d2, z1, z2⟩
      · exact Or.inl z
      · exact Or.inr ⟨d2, by omega, z2⟩
  · intro q hq d2 hd2 hf
    dsimp only at hf ⊢
    have keep : ∀ k2, f k2 ≠ -1 → upd f k (nI d) k2 = f k2 := fun k2 z => z_updN (fun e2 => z (by rw [e2]; exact hm))
    by_cases eq : q = k
    · subst eq
      rw [z_updS, nI_eq (by omega) hd2] at hf
      rcases hb with z | ⟨k2, z1, z2, z3⟩
      · omega
      · refine ⟨k2, z1, z2, ?_⟩
        rw [keep k2 (by rw [z3]; exact z_nIm1 (by omega)), z3]
        congr 1; omega
    · rw [z_updN eq] at hf
      obtain ⟨k2, z1, z2, z3⟩ := h4 q hq d2 hd2 hf
      exact ⟨k2, z1, z2, by rw [keep k2 (by rw [z3]; exact z_nIm1 (by omega))]; exact z3⟩
  · dsimp only
    rw [z_updS]; exact z_nIm1 (by omega)
  · intro j hj
    dsimp only
    exact z_updN (fun e2 => hj (by rw [e2]; exact hm))
