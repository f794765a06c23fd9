/-! the store -/
section ST
variable {R C H V : Nat → Nat} {rc cc br zc rw sh : Nat → Int32} {N l : Nat}
/-- the first n pieces have levels -/
def z_st (sl : Nat → Int32) (n : Nat) : Prop := n ≤ 60 ∧ ∀ j, j < n → ∃ q, q < 5 ∧ sl j = nI q
theorem s_find_L (p q : Int32) (sl sk : Nat → Int32) {m : Nat} (hm : m ≤ 60) : ∀ k i, i ≤ m → m - i < k → Ok (f_Store_find_L2 p q sk sl (nI m) k (nI i)) (fun x => x = .inl () ∨ ∃ j, j < m ∧ x = .inr (nI j)) := by
  intro k
  induction k with
  | zero => intro i _ h; omega
  | succ k ih =>
    intro i hi hk
    rw [f_Store_find_L2]
    refine Ok.ite (fun _ => Ok.ret (Or.inl rfl)) (fun hc => ?_)
    rw [nI_leI (by omega) (by omega)] at hc
    have hn := ih (i + 1) (by omega) (by omega)
    rw [← nI_1] at hn
    refine Ok.ain (by omega) (by decide) (Ok.k0 _ (Ok.nm hn) (fun K hK => Ok.ite (fun _ => Ok.ain (by omega) (by decide) (Ok.ite (fun _ => Ok.ret (Or.inr ⟨i, by omega, rfl⟩)) (fun _ => hK))) (fun _ => hK)))
theorem s_find (hN : 100000 ≤ N) (p q : Int32) (sl sk : Nat → Int32) {m : Nat} (hm : m ≤ 60) : Ok (f_Store_find N sl sk (nI m) p q) (fun x => x = -1 ∨ ∃ j, j < m ∧ x = nI j) := by
  unfold f_Store_find
  refine Ok.nm (Ok.s0 (s_find_L p q sl sk hm N 0 (by omega) (by omega)) (fun _ => Ok.ret (Or.inl rfl)) (fun r hr => ?_))
  rcases hr with h | ⟨j, h1, h⟩
  · exact absurd h (by intro z; cases z)
  · cases h; exact Or.inr ⟨j, h1, rfl⟩
theorem s_isBehind (sl sk : Nat → Int32) {i : Nat} (hi : i < 60) (p q : Int32) : Ok (f_Store_isBehind sl sk (nI i) p q) (fun _ => True) := by
  unfold f_Store_isBehind
  (repeat' first | exact Ok.t | with_reducible refine Ok.ite (fun _ => ?_) (fun _ => ?_) | with_reducible refine Ok.nm ?_ | with_reducible refine Ok.j0 ?_ | with_reducible refine Ok.j1 ?_ | with_reducible refine Ok.j2 ?_ | (with_reducible apply Ok.ain <;> try first | assumption | decide) | (with_reducible apply Ok.asn <;> try first | assumption | decide) | (with_reducible apply Ok.ai <;> try first | assumption | decide) | (with_reducible apply Ok.as <;> try first | assumption | decide))
theorem k_move (a b c : Nat → Int32) {i j : Nat} (hi : i < 60) (hj : j < 60) : f_Store_move a b c (nI i) (nI j) = some (upd a j (a i), upd b j (b i), upd c j (c i)) := by
  unfold f_Store_move
  rw [z_ai hi (by omega), z_as hj (by omega), z_ai hi (by omega), z_as hj (by omega), z_ai hi (by omega), z_as hj (by omega)]
theorem s_put_L (p q : Int32) {m : Nat} (hm : m < 60) : ∀ k i (a b c : Nat → Int32), i ≤ m → i < k → (∀ j, j < m + 1 → j ≠ i → ∃ q, q < 5 ∧ a j = nI q) → Ok (f_Store_put_L41 p q k (nI i) a b c) (fun x => ∃ j, j ≤ m ∧ x.1 = nI j ∧ ∀ y, y < m + 1 → y ≠ j → ∃ q, q < 5 ∧ x.2.1 y = nI q) := by
  intro k
  induction k with
  | zero => intro i a b c _ h; omega
  | succ k ih =>
    intro i a b c hi hk ha
    rw [f_Store_put_L41]
    refine Ok.ite (fun _ => Ok.ret ⟨i, hi, rfl, ha⟩) (fun hc => ?_)
    rw [z_le0 (by omega)] at hc
    rw [z_sub1 (by omega)]
    refine Ok.b1 (s_isBehind a b (by omega) p q) (fun _ _ => Ok.ite (fun _ => Ok.ret ⟨i, hi, rfl, ha⟩) (fun _ => ?_))
    rw [k_move a b c (by omega) (by omega), q_b3_s, z_nm, Int32.add_neg_eq_sub, z_sub1 (by omega)]
    refine ih (i - 1) _ _ _ (by omega) (by omega) (fun j hj hne => ?_)
    by_cases e : j = i
    · rw [e, z_updS]; exact ha (i - 1) (by omega) (by omega)
    · rw [z_updN e]; exact ha j hj e
theorem s_stput (hN : 100000 ≤ N) {sl sk sy : Nat → Int32} {m : Nat} (hs : z_st sl m) {p : Nat} (hp : p < 5) (q y : Int32) : Ok (f_Store_put N sl sk sy (nI m) (nI p) q y) (fun x => (x.1 = 0 ∨ x.1 = 1) ∧ ∃ m', x.2.2.2.2 = nI m' ∧ z_st x.2.1 m') := by
  have hm := hs.1
  unfold f_Store_put
  refine Ok.b1 (s_find hN _ q sl sk hm) (fun v1 h1 => Ok.ite (fun _ => Ok.ite (fun h => ?_) (fun _ => Ok.ret ⟨Or.inl rfl, m, rfl, hs⟩)) (fun hne => ?_))
  · rw [z_i 60, nI_ltI (by omega) (by omega)] at h
    refine Ok.b4 (s_put_L (nI p) q h N m sl sk sy (by omega) (by omega) (fun j hj hne => hs.2 j (by omega))) (fun v6 f7 f8 f9 hv => ?_)
    obtain ⟨j, hj, h6, h7⟩ := hv
    simp only at h6 h7
    subst h6
    refine Ok.asn (by omega) (by decide) (Ok.asn (by omega) (by decide) (Ok.asn (by omega) (by decide) (Ok.nm (Ok.ret ⟨Or.inr rfl, m + 1, nI_1 m, by omega, fun z hz => ?_⟩))))
    by_cases e : z = j
    · subst e; exact ⟨p, hp, z_updS⟩
    · obtain ⟨q, q1, q2⟩ := h7 z hz e
      exact ⟨q, q1, by rw [← q2]; exact z_updN e⟩
  · rcases h1 with h | ⟨j, hj, rfl⟩
    · exact absurd h hne
    · exact Ok.asn (by omega) (by decide) (Ok.ret ⟨Or.inr rfl, m, rfl, hs⟩)
theorem s_remove_L {m : Nat} (hm : m ≤ 60) : ∀ k i (a b c : Nat → Int32), 1 ≤ i → i ≤ m → m - i < k → z_st a m → Ok (f_Store_remove_L4 (nI m) k (nI i) a b c) (fun x => z_st x.1 m) := by
  intro k
  induction k with
  | zero => intro i a b c _ _ h; omega
  | succ k ih =>
    intro i a b c h1 hi hk ha
    rw [f_Store_remove_L4]
    refine Ok.ite (fun _ => Ok.ret ha) (fun hc => ?_)
    rw [nI_leI (by omega) (by omega)] at hc
    rw [z_sub1 h1, k_move a b c (by omega) (by omega), q_b3_s, z_nm, nI_1]
    refine ih (i + 1) _ _ _ (by omega) (by omega) (by omega) ⟨hm, fun j hj => ?_⟩
    by_cases e : j = i - 1
    · rw [e, z_updS]; exact ha.2 i (by omega)
    · rw [z_updN e]; exact ha.2 j hj
theorem s_remove (hN : 100000 ≤ N) {sl sk sy : Nat → Int32} {m : Nat} (hs : z_st sl m) {i : Nat} (hi : i < m) : Ok (f_Store_remove N sl sk sy (nI m) (nI i)) (fun x => x.2.2.2 = nI (m - 1) ∧ z_st x.1 (m - 1)) := by
  have hm := hs.1
  unfold f_Store_remove
  rw [z_nm, nI_1]
  refine Ok.b3 (s_remove_L hm N (i + 1) sl sk sy (by omega) (by omega) (by omega) hs) (fun a b c h => Ok.nm (Ok.ret ⟨z_sub1 (by omega), by omega, fun j hj => h.2 j (by omega)⟩))
theorem s_isNeedless_L (g : GOK R C H V rc cc br zc rw sh) (hN : 100000 ≤ N) {sl sk sy : Nat → Int32} {m : Nat} (hs : z_st sl m) {p : Nat} (hp : p < m) : ∀ k i, i ≤ p → p - i < k → Ok (f_Store_isNeedless_L2 N br rw sh zc (nI p) sk sl sy k (nI i)) (fun x => x = .inl () ∨ x = .inr 1) := by
  have hm := hs.1
  intro k
  induction k with
  | zero => intro i _ h; omega
  | succ k ih =>
    intro i hi hk
    rw [f_Store_isNeedless_L2]
    refine Ok.ite (fun _ => Ok.ret (Or.inl rfl)) (fun hc => ?_)
    rw [nI_leI (by omega) (by omega)] at hc
    have hn := ih (i + 1) (by omega) (by omega)
    rw [← nI_1] at hn
    have hi6 : i < 60 := by omega
    have hp6 : p < 60 := by omega
    obtain ⟨a, ha, ea⟩ := hs.2 i (by omega)
    obtain ⟨b, hb, eb⟩ := hs.2 p hp
    refine Ok.ain hi6 (by decide) (Ok.ain hp6 (by decide) (Ok.k0 _ (Ok.nm hn) (fun K hK => Ok.ite (fun _ => hK) (fun hab => ?_))))
    rw [ea, eb, nI_leI (by omega) (by omega)] at hab
    refine Ok.ain hi6 (by decide) (Ok.ain hp6 (by decide) (Ok.ite (fun _ => hK) (fun _ => ?_)))
    refine Ok.ain hp6 (by decide) (Ok.ain hp6 (by decide) (Ok.ain hi6 (by decide) ?_))
    rw [ea, eb]
    exact Ok.b1 (s_keyAbove g hN hb (by omega) _) (fun _ _ => Ok.ain hi6 (by decide) (Ok.ite (fun _ => Ok.ret (Or.inr rfl)) (fun _ => hK)))
theorem s_isNeedless (g : GOK R C H V rc cc br zc rw sh) (hN : 100000 ≤ N) {sl sk sy : Nat → Int32} {m : Nat} (hs : z_st sl m) {p : Nat} (hp : p < m) : Ok (f_Store_isNeedless N sl sk sy br zc rw sh (nI p)) (fun x => x = 0 ∨ x = 1) := by
  have hm := hs.1
  unfold f_Store_isNeedless
  refine Ok.nm (Ok.s0 (s_isNeedless_L g hN hs hp N 0 (by omega) (by omega)) (fun _ => Ok.ret (Or.inl rfl)) (fun r hr => ?_))
  rcases hr with h | h
  · exact absurd h (by intro z; cases z)
  · cases h; exact Or.inr rfl
theorem s_lookAt_L46 {sl sk sy : Nat → Int32} {m : Nat} (hs : z_st sl m) (f4 : Nat → Int32) : ∀ k i (v7 v8 v9 : Int32), i ≤ m → m - i < k → Ok (f_Store_lookAt_L46 f4 sk sl (nI m) sy k (nI i) v7 v8 v9) (fun _ => True) := by
  have hm := hs.1
  intro k
  induction k with
  | zero => intro i _ _ _ _ h; omega
  | succ k ih =>
    intro i v7 v8 v9 hi hk
    rw [f_Store_lookAt_L46]
    refine Ok.ite (fun _ => Ok.t) (fun hc => ?_)
    rw [nI_leI (by omega) (by omega)] at hc
    have hi6 : i < 60 := by omega
    obtain ⟨a, ha, ea⟩ := hs.2 i (by omega)
    refine Ok.ain hi6 (by decide) ?_
    rw [ea]
    refine Ok.ain ha (by decide) (Ok.ain hi6 (by decide) ?_)
    refine Ok.k3 (fun _ _ _ => True) (fun _ => True) (fun a b c _ => Ok.nm (by rw [nI_1]; exact ih (i + 1) _ _ _ (by omega) (by omega))) (fun K hK => Ok.ite (fun _ => Ok.nm (Ok.ain hi6 (by decide) (Ok.ain hi6 (by decide) (Ok.nm (hK _ _ _ trivial))))) (fun _ => hK _ _ _ trivial))
theorem s_lookAt_L2 (g : GOK R C H V rc cc br zc rw sh) (p q : Int32) : ∀ k i (f : Nat → Int32), i ≤ 5 → 5 - i < k → Ok (f_Store_lookAt_L2 br rw sh zc p q k (nI i) f) (fun _ => True) := by
  intro k
  induction k with
  | zero => intro i _ _ h; omega
  | succ k ih =>
    intro i f hi hk
    rw [f_Store_lookAt_L2]
    refine Ok.ite (fun _ => Ok.t) (fun hc => ?_)
    rw [z_i 4, nI_ltI (by omega) (by omega)] at hc
    refine Ok.b1 (s_keyOf g (by omega) p q) (fun _ _ => Ok.asn (by omega) (by decide) (Ok.nm ?_))
    rw [nI_1]; exact ih (i + 1) _ (by omega) (by omega)
theorem s_lookAt (g : GOK R C H V rc cc br zc rw sh) (hN : 100000 ≤ N) {sl sk sy : Nat → Int32} {m : Nat} (hs : z_st sl m) (kt : Nat → Int32) (a b c p q : Int32) : Ok (f_Store_lookAt N sl sk sy kt (nI m) a b c br zc rw sh p q) (fun _ => True) := by
  have hm := hs.1
  unfold f_Store_lookAt
  refine Ok.nm (Ok.b1 (s_lookAt_L2 g p q N 0 kt (by omega) (by omega)) (fun f4 _ => Ok.nm (Ok.b3 (s_lookAt_L46 hs f4 N 0 0 0 0 (by omega) (by omega)) (fun _ _ _ _ => Ok.t))))
/-! kept atlases -/
/-- cuts that a grid can be laid out by -/
def z_kg (R C : Nat → Nat) (rc cc : Nat → Int32) : Prop := R 0 = 1 ∧ C 0 = 1 ∧ (∀ l, l < 5 → 1 ≤ R l ∧ R l ≤ 6 ∧ 1 ≤ C l ∧ C l ≤ 6) ∧ (∀ l, l < 5 → rc l = nI (R l) ∧ cc l = nI (C l)) ∧ 2130 * (z_pr R 4 * z_pr C 4) + 2 ≤ 20000000
theorem GOK.kg (g : GOK R C H V rc cc br zc rw sh) : z_kg R C rc cc := by
  have h4 := z_pr_eq g.2 4 (by omega)
  have h := g.2
  obtain ⟨a, b, -, -, -, c, d⟩ := h
  rw [h4.1, h4.2] at d
  exact ⟨a, b, c, fun l hl => ⟨(g.1 l hl).1, (g.1 l hl).2.1⟩, d⟩
theorem s_multiply {R C : Nat → Nat} (h : z_kg R C rc cc) (hN : 100000 ≤ N) (br zc rw sh : Nat → Int32) : Ok (f_Grid_multiply N rc cc br zc rw sh) (fun x => GOK R C (z_pr R) (z_pr C) rc cc x.1 x.2.1 x.2.2.1 x.2.2.2) := by
  obtain ⟨h1, h2, h3, h4, h5⟩ := h
  obtain ⟨a, b, c, d, e, f⟩ := k_multiply (N := N) (br := br) (zc := zc) (rw := rw) (sh := sh) (by omega) h1 h2 h3 h4 h5
  exact ⟨_, e, f⟩
theorem z_cpy {f g : Nat → Int32} {n j : Nat} (h : j < n) : va_cpy f g 0 0 n j = f j := by
  unfold va_cpy
  rw [if_pos (by omega), Nat.zero_add, Nat.sub_zero]
theorem s_gcopy {R2 C2 : Nat → Nat} {rc2 cc2 : Nat → Int32} (h : z_kg R2 C2 rc2 cc2) (hN : 100000 ≤ N) (rc cc br zc rw sh : Nat → Int32) : Ok (f_Grid_copyFrom N rc cc br zc rw sh rc2 cc2) (fun x => GOK R2 C2 (z_pr R2) (z_pr C2) x.1 x.2.1 x.2.2.1 x.2.2.2.1 x.2.2.2.2.1 x.2.2.2.2.2) := by
  unfold f_Grid_copyFrom
  refine Ok.nm (Ok.nm ?_)
  have h' : z_kg R2 C2 (va_cpy rc2 rc 0 0 5) (va_cpy cc2 cc 0 0 5) := by
    obtain ⟨h1, h2, h3, h4, h5⟩ := h
    refine ⟨h1, h2, h3, fun l hl => ?_, h5⟩
    rw [z_cpy hl, z_cpy hl]; exact h4 l hl
  exact Ok.b4 (s_multiply h' hN br zc rw sh) (fun a b c d g => Ok.ret g)
theorem s_acopy {R2 C2 : Nat → Nat} {rc2 cc2 : Nat → Int32} (h : z_kg R2 C2 rc2 cc2) (hN : 100000 ≤ N) {sl2 : Nat → Int32} {m2 : Nat} (hs : z_st sl2 m2) (a1 a2 a3 a4 : Int32) (sl sk sy : Nat → Int32) (ss : Int32) (rc cc br zc rw sh : Nat → Int32) (b1 b2 b3 b4 : Int32) (sk2 sy2 : Nat → Int32) : Ok (f_Atlas_copyFrom N a1 a2 a3 a4 sl sk sy ss rc cc br zc rw sh b1 b2 b3 b4 sl2 sk2 sy2 (nI m2) rc2 cc2) (fun x => x.2.2.2.2.2.2.2.1 = nI m2 ∧ z_st x.2.2.2.2.1 m2 ∧ GOK R2 C2 (z_pr R2) (z_pr C2) x.2.2.2.2.2.2.2.2.1 x.2.2.2.2.2.2.2.2.2.1 x.2.2.2.2.2.2.2.2.2.2.1 x.2.2.2.2.2.2.2.2.2.2.2.1 x.2.2.2.2.2.2.2.2.2.2.2.2.1 x.2.2.2.2.2.2.2.2.2.2.2.2.2) := by
  unfold f_Atlas_copyFrom f_Store_copyFrom
  refine Ok.b6 (s_gcopy h hN rc cc br zc rw sh) (fun f1 f2 f3 f4 f5 f6 hg => ?_)
  rw [z_nm, z_nm, z_nm, q_b4_s]
  exact Ok.ret ⟨rfl, ⟨hs.1, fun j hj => by simp only; rw [z_cpy (by have := hs.1; omega)]; exact hs.2 j hj⟩, hg⟩
theorem s_countText (a b c d e f p : Int32) : Ok (f_Atlas_countText a b c d e f p) (fun _ => True) := by
  unfold f_Atlas_countText
  (repeat' first | exact Ok.t | with_reducible refine Ok.ite (fun _ => ?_) (fun _ => ?_) | with_reducible refine Ok.nm ?_ | with_reducible refine Ok.j0 ?_ | with_reducible refine Ok.j1 ?_ | with_reducible refine Ok.j2 ?_ | (with_reducible apply Ok.ain <;> try first | assumption | decide) | (with_reducible apply Ok.asn <;> try first | assumption | decide) | (with_reducible apply Ok.ai <;> try first | assumption | decide) | (with_reducible apply Ok.as <;> try first | assumption | decide))
end ST
