/-! the class's own methods, the second half: no call stops -/
section SY
variable {R C H V : Nat → Nat} {rc cc br zc rw sh : Nat → Int32} {N l : Nat}
theorem s_x_key (g : GOK R C H V rc cc br zc rw sh) (p q r : Int32) : Ok (f_X_key br zc rw sh p q r) (fun _ => True) := by
  unfold f_X_key
  refine Ok.b1 (s_isPlace p q) (fun _ _ => Ok.ite (fun _ => Ok.t) (fun _ => Ok.b1 (s_isLevel r) (fun v2 h2 => Ok.ite (fun _ => Ok.t) (fun n2 => ?_))))
  obtain ⟨l, hl, rfl⟩ := h2 n2
  exact Ok.b1 (s_keyOf g hl _ _) (fun _ _ => Ok.t)
theorem s_x_keyAt (g : GOK R C H V rc cc br zc rw sh) (p q r : Int32) : Ok (f_X_keyAt br zc rw sh p q r) (fun _ => True) := by
  unfold f_X_keyAt
  refine Ok.b1 (s_isLevel p) (fun v2 h2 => Ok.ite (fun _ => Ok.t) (fun n2 => ?_))
  obtain ⟨l, hl, rfl⟩ := h2 n2
  refine Ok.ain hl (by decide) (Ok.b1 (s_isFrom q _ _) (fun _ _ => Ok.ite (fun _ => Ok.t) (fun _ => Ok.b1 (s_rowLength g hl q) (fun _ _ => Ok.b1 (s_isFrom r _ _) (fun _ _ => Ok.ite (fun _ => Ok.t) (fun _ => Ok.b1 (s_rowStart g hl q) (fun _ _ => Ok.t)))))))
theorem s_x_level (p q : Int32) : Ok (f_X_level rc cc br zc rw sh p q) (fun _ => True) := by
  unfold f_X_level
  refine Ok.b1 (s_isLevel p) (fun v2 h2 => Ok.ite (fun _ => Ok.t) (fun n2 => ?_))
  obtain ⟨l, hl, rfl⟩ := h2 n2
  (repeat' first | exact Ok.t | with_reducible refine Ok.ite (fun _ => ?_) (fun _ => ?_) | with_reducible refine Ok.nm ?_ | with_reducible refine Ok.j0 ?_ | with_reducible refine Ok.j1 ?_ | with_reducible refine Ok.j2 ?_ | (with_reducible apply Ok.ain <;> try first | assumption | decide) | (with_reducible apply Ok.asn <;> try first | assumption | decide) | (with_reducible apply Ok.ai <;> try first | assumption | decide) | (with_reducible apply Ok.as <;> try first | assumption | decide))
theorem s_x_middle (g : GOK R C H V rc cc br zc rw sh) (hN : 100000 ≤ N) (a1 a2 a3 a4 a5 a6 p q w : Int32) : Ok (f_X_middle N a1 a2 a3 a4 a5 a6 br zc rw sh p q w) (fun _ => True) := by
  unfold f_X_middle
  refine Ok.b1 (s_hasSheet g p q) (fun v1 h1 => Ok.ite (fun _ => Ok.t) (fun n1 => Ok.b1 (s_isFrom w _ _) (fun _ _ => Ok.ite (fun _ => Ok.t) (fun _ => ?_))))
  obtain ⟨l, k, hl, rfl, rfl, hk⟩ := h1 n1
  refine Ok.b6 (s_putA g hN hl _ _ _ _ _ _ _) (fun x1 x2 x3 x4 x5 x6 hx => ?_)
  obtain ⟨r1, s1, p1, L, c1, hx, h1, h2⟩ := hx
  cases hx
  exact Ok.ite (fun _ => Ok.b1 (s_middleLat g hl h1 h2 _ _ _) (fun _ _ => Ok.t)) (fun _ => Ok.b1 (s_middleLon g hl h1 h2 _ _ _) (fun _ _ => Ok.t))
theorem s_isInt (p : Int64) : Ok (f_X_isInt p) (fun _ => True) := by
  unfold f_X_isInt
  (repeat' first | exact Ok.t | with_reducible refine Ok.ite (fun _ => ?_) (fun _ => ?_) | with_reducible refine Ok.nm ?_ | with_reducible refine Ok.j0 ?_ | with_reducible refine Ok.j1 ?_ | with_reducible refine Ok.j2 ?_ | (with_reducible apply Ok.ain <;> try first | assumption | decide) | (with_reducible apply Ok.asn <;> try first | assumption | decide) | (with_reducible apply Ok.ai <;> try first | assumption | decide) | (with_reducible apply Ok.as <;> try first | assumption | decide))
theorem s_x_moved (g : GOK R C H V rc cc br zc rw sh) (p1 p2 p3 p4 p5 : Int32) : Ok (f_X_moved br zc rw sh p1 p2 p3 p4 p5) (fun _ => True) := by
  unfold f_X_moved
  refine Ok.b1 (s_isPlace p1 p2) (fun _ _ => Ok.ite (fun _ => Ok.t) (fun _ => Ok.b1 (s_isLevel p5) (fun v2 h2 => Ok.ite (fun _ => Ok.t) (fun n2 => Ok.nm (Ok.nm ?_)))))
  obtain ⟨l, hl, rfl⟩ := h2 n2
  refine Ok.b1 (s_isInt _) (fun _ _ => Ok.ite (fun _ => Ok.t) (fun _ => Ok.b1 (s_isInt _) (fun _ _ => Ok.ite (fun _ => Ok.t) (fun _ => Ok.ite (fun _ => Ok.t) (fun _ => Ok.ite (fun _ => ?_) (fun _ => Ok.t))))))
  exact Ok.b1 (s_fmL (by decide)) (fun _ _ => Ok.b1 (s_keyOf g hl _ _) (fun _ _ => Ok.t))
theorem s_x_name (g : GOK R C H V rc cc br zc rw sh) (hN : 100000 ≤ N) (a1 a2 a3 a4 a5 a6 : Int32) (f1 : Nat → Int32) (n1 p q i : Int32) : Ok (f_X_name N a1 a2 a3 a4 a5 a6 f1 n1 rc cc br zc rw sh p q i) (fun _ => True) := by
  unfold f_X_name
  refine Ok.b1 (s_hasSheet g p q) (fun v1 h1 => Ok.ite (fun _ => Ok.t) (fun n1 => Ok.ite (fun hi => ?_) (fun _ => Ok.t)))
  obtain ⟨l, k, hl, rfl, rfl, hk⟩ := h1 n1
  refine Ok.b6 (s_putA g hN hl _ _ _ _ _ _ _) (fun x1 x2 x3 x4 x5 x6 hx => ?_)
  obtain ⟨r1, s1, p1, L, c1, hx, h1, h2⟩ := hx
  cases hx
  refine Ok.b2 (s_write g hN hl _ _ _ _ _) (fun f8 v9 h9 => Ok.ite (fun _ => Ok.t) (fun hne => Ok.ite (fun _ => Ok.t) (fun hc => ?_)))
  have h0 := z_nn hi hne
  have h3 := z_nle hc
  have h4 := h9.2
  simp only at h4
  exact Ok.ai ⟨h0, by omega⟩ Ok.t
/-- what a text's call asks ahead of all else -/
def z_txc (b : Int) (p : Int32) (t : Nat) : Prop := 1 ≤ p.toInt ∧ p.toInt ≤ b ∧ p.toInt ≤ t
theorem s_x_named (g : GOK R C H V rc cc br zc rw sh) (hN : 100000 ≤ N) {t : Nat} (ht : t ≤ 200) (f : Nat → Int32) (n e lv ky a b c r1 r2 r3 r4 p q : Int32) : Ok (f_X_named N n e lv ky a b c f (nI t) r1 r2 r3 r4 rc cc br zc rw sh p q) (fun x => (z_txc 40 p t ∧ (0 ≤ q.toInt ∧ q.toInt ≤ 1) ∧ x.2.2.2.2.2.2.2.2.1 = nI 0) ∨ (¬ (z_txc 40 p t ∧ (0 ≤ q.toInt ∧ q.toInt ≤ 1)) ∧ x.2.2.2.2.2.2.2.2.1 = nI t)) := by
  unfold f_X_named
  refine Ok.b1 (s_isFrom p _ _) (fun v1 h1 => Ok.ite (fun n1 => Ok.ret (Or.inr ⟨fun z => z_if0 h1 n1 ⟨z.1.1, z.1.2.1⟩, rfl⟩)) (fun n1 => Ok.b1 (s_isFrom q _ _) (fun v2 h2 => Ok.ite (fun n2 => Ok.ret (Or.inr ⟨fun z => z_if0 h2 n2 z.2, rfl⟩)) (fun n2 => Ok.ite (fun h3 => ?_) (fun h3 => Ok.ret (Or.inr ⟨fun z => h3 (z_le.mpr (by rw [nI_toInt (by omega)]; exact z.1.2.2)), rfl⟩))))))
  have h3' := z_le.mp h3
  rw [nI_toInt (by omega)] at h3'
  have hc : z_txc 40 p t := ⟨(z_if1 h1 n1).1, (z_if1 h1 n1).2, h3'⟩
  have hq : 0 ≤ q.toInt ∧ q.toInt ≤ 1 := z_if1 h2 n2
  refine Ok.b8 (s_read g hN ht f _ _ _ _ _ _ _ _ _) (fun v3 v4 v5 v6 v7 v8 v9 v10 _ => Ok.b4 (s_countText _ _ _ _ _ _ _) (fun _ _ _ _ _ => Ok.ite (fun _ => ?_) (fun _ => Ok.ite (fun _ => Ok.ret (Or.inl ⟨hc, hq, rfl⟩)) (fun _ => Ok.ret (Or.inl ⟨hc, hq, rfl⟩)))))
  unfold f_NameReader_told
  rw [q_b1_s]
  exact Ok.ret (Or.inl ⟨hc, hq, rfl⟩)
theorem s_x_parent (g : GOK R C H V rc cc br zc rw sh) (hN : 100000 ≤ N) (p q t : Int32) : Ok (f_X_parent N br zc rw sh p q t) (fun _ => True) := by
  unfold f_X_parent
  refine Ok.b1 (s_hasSheet g p q) (fun v1 h1 => Ok.ite (fun _ => Ok.t) (fun n1 => Ok.b1 (s_isFrom t 0 p) (fun v2 h2 => Ok.ite (fun _ => Ok.t) (fun n2 => ?_))))
  obtain ⟨l, k, hl, rfl, rfl, hk⟩ := h1 n1
  have ht := z_if1 h2 n2
  rw [nI_toInt (by omega), show (0 : Int32).toInt = 0 from rfl] at ht
  obtain ⟨j, j1, rfl, j3⟩ := z_nat ht.1
  exact Ok.b1 (s_keyAbove g hN hl (t := j) (by omega) _) (fun _ _ => Ok.t)
theorem s_x_piece (sl sk sy : Nat → Int32) {m : Nat} (hm : m ≤ 60) (p q : Int32) : Ok (f_X_piece sl sk sy (nI m) p q) (fun _ => True) := by
  unfold f_X_piece
  refine Ok.ite (fun _ => Ok.t) (fun h0 => Ok.b1 (s_isFrom q _ _) (fun _ _ => Ok.ite (fun _ => Ok.t) (fun _ => Ok.ite (fun h1 => ?_) (fun _ => Ok.t))))
  have a := z_lt.mp h1
  rw [nI_toInt (by omega)] at a
  have b : ¬ p.toInt < (0 : Int32).toInt := fun z => h0 (z_lt.mpr z)
  rw [show (0 : Int32).toInt = 0 from rfl] at b
  have hi : z_in 60 p := ⟨by omega, by omega⟩
  (repeat' first | exact Ok.t | with_reducible refine Ok.ite (fun _ => ?_) (fun _ => ?_) | with_reducible refine Ok.nm ?_ | with_reducible refine Ok.j0 ?_ | with_reducible refine Ok.j1 ?_ | with_reducible refine Ok.j2 ?_ | (with_reducible apply Ok.ain <;> try first | assumption | decide) | (with_reducible apply Ok.asn <;> try first | assumption | decide) | (with_reducible apply Ok.ai <;> try first | assumption | decide) | (with_reducible apply Ok.as <;> try first | assumption | decide))
theorem s_x_renew (hN : 100000 ≤ N) (sl sy : Nat → Int32) {m : Nat} (hm : m ≤ 60) (p q : Int32) : Ok (f_X_renew N sl sy (nI m) p q) (fun _ => True) := by
  have L : ∀ n i (a : Int32) (f : Nat → Int32), i ≤ m → m - i < n → Ok (f_X_renew_L27 p q sl (nI m) n a (nI i) f) (fun _ => True) := by
    intro n
    induction n with
    | zero => intro i a f _ h; omega
    | succ n ih =>
      intro i a f hi hn
      rw [f_X_renew_L27]
      refine Ok.ite (fun _ => Ok.t) (fun hc => ?_)
      rw [nI_leI (by omega) (by omega)] at hc
      have hx := fun v f => ih (i + 1) v f (by omega) (by omega)
      rw [← nI_1] at hx
      have hi6 : i < 60 := by omega
      refine Ok.ain hi6 (by decide) (Ok.k2 (fun _ _ => True) (fun _ => True) (fun v f _ => Ok.nm (hx v f)) (fun K hK => Ok.ite (fun _ => Ok.ain hi6 (by decide) (Ok.ite (fun _ => hK _ _ trivial) (fun _ => Ok.asn hi6 (by decide) (Ok.nm (hK _ _ trivial))))) (fun _ => hK _ _ trivial)))
  unfold f_X_renew
  refine Ok.b1 (s_isLevel p) (fun _ _ => Ok.ite (fun _ => Ok.t) (fun _ => Ok.b1 (s_isFrom q _ _) (fun _ _ => Ok.ite (fun _ => Ok.t) (fun _ => Ok.nm (Ok.nm (Ok.b2 (L N 0 0 sy (by omega) (by omega)) (fun _ _ _ => Ok.t)))))))
theorem s_x_shown (g : GOK R C H V rc cc br zc rw sh) (hN : 100000 ≤ N) {sl sk sy : Nat → Int32} {m : Nat} (hs : z_st sl m) (kt : Nat → Int32) (a b c p q w : Int32) : Ok (f_X_shown N sl sk sy kt (nI m) a b c br zc rw sh p q w) (fun _ => True) := by
  unfold f_X_shown
  refine Ok.b1 (s_isPlace p q) (fun _ _ => Ok.ite (fun _ => Ok.t) (fun _ => Ok.b1 (s_isFrom w _ _) (fun _ _ => Ok.ite (fun _ => Ok.t) (fun _ => Ok.b4 (s_lookAt g hN hs kt _ _ _ _ _) (fun _ _ _ _ _ => ?_)))))
  (repeat' first | exact Ok.t | with_reducible refine Ok.ite (fun _ => ?_) (fun _ => ?_) | with_reducible refine Ok.nm ?_ | with_reducible refine Ok.j0 ?_ | with_reducible refine Ok.j1 ?_ | with_reducible refine Ok.j2 ?_ | (with_reducible apply Ok.ain <;> try first | assumption | decide) | (with_reducible apply Ok.asn <;> try first | assumption | decide) | (with_reducible apply Ok.ai <;> try first | assumption | decide) | (with_reducible apply Ok.as <;> try first | assumption | decide))
theorem s_x_side (g : GOK R C H V rc cc br zc rw sh) (hN : 100000 ≤ N) (f m : Nat → Int32) (a1 a2 a3 a4 a5 a6 p q r : Int32) : Ok (f_X_side N f m a1 a2 a3 a4 a5 a6 br zc rw sh p q r) (fun _ => True) := by
  unfold f_X_side
  refine Ok.b1 (s_areSheets g p q r) (fun v1 h1 => Ok.ite (fun _ => Ok.t) (fun n1 => Ok.ite (fun _ => Ok.t) (fun _ => ?_)))
  obtain ⟨⟨l, k, hl, rfl, rfl, hk⟩, -⟩ := h1 n1
  refine Ok.b6 (s_put g hN hl hk _ _ _ _ _ _) (fun x1 x2 x3 x4 x5 x6 hx => ?_)
  obtain ⟨r1, p1, hx, h1, h2⟩ := hx
  cases hx
  refine Ok.b2 (s_lookAround g hl h1 h2 f m) (fun f9 f10 _ => Ok.nm ?_)
  have L : ∀ (x2 x3 x4 x5 x6 x7 : Int32) n i, i ≤ 4 → 4 - i < n → Ok (f_X_side_L36 f9 f10 r x2 x3 x4 x5 x6 x7 n (nI i)) (fun _ => True) := by
    intro x2 x3 x4 x5 x6 x7 n
    induction n with
    | zero => intro i _ h; omega
    | succ n ih =>
      intro i hi hn
      rw [f_X_side_L36]
      refine Ok.ite (fun _ => Ok.t) (fun hc => ?_)
      rw [z_i 3, nI_ltI (by omega) (by omega)] at hc
      have hx := ih (i + 1) (by omega) (by omega)
      rw [← nI_1] at hx
      have hi4 : i < 4 := by omega
      exact Ok.ain hi4 (by decide) (Ok.k0 (fun _ => True) (Ok.nm hx) (fun K hK => Ok.ite (fun _ => hK) (fun _ => Ok.ain hi4 (by decide) (Ok.ain hi4 (by decide) (Ok.ite (fun _ => hK) (fun _ => Ok.t))))))
  exact Ok.s0 (L _ _ _ _ _ _ N 0 (by omega) (by omega)) (fun _ => Ok.t) (fun _ _ => trivial)
theorem s_x_tidy (g : GOK R C H V rc cc br zc rw sh) (hN : 100000 ≤ N) {sl sk sy : Nat → Int32} {m : Nat} (hs : z_st sl m) : Ok (f_X_tidy N sl sk sy (nI m) br zc rw sh) (fun x => ∃ m', x.2.2.2.2 = nI m' ∧ z_st x.2.1 m') := by
  -- the counter is i - 1
  have L : ∀ n i (a : Int32) (f1 f2 f3 : Nat → Int32) m, i ≤ m → i + 1 ≤ n → z_st f1 m → Ok (f_X_tidy_L12 N br rw sh zc n a (nI i - 1) f1 f2 f3 (nI m)) (fun x => ∃ m', x.2.2.2.2 = nI m' ∧ z_st x.2.1 m') := by
    intro n
    induction n with
    | zero => intro i a f1 f2 f3 m _ h; omega
    | succ n ih =>
      intro i a f1 f2 f3 m hi hn hs
      have hm := hs.1
      rw [f_X_tidy_L12]
      refine Ok.ite (fun _ => Ok.ret ⟨m, rfl, hs⟩) (fun hc => ?_)
      rcases Nat.eq_zero_or_pos i with h | h
      · subst h; exact absurd (by decide) hc
      · rw [z_sub1 h]
        refine Ok.b1 (s_isNeedless g hN hs (p := i - 1) (by omega)) (fun v14 _ => ?_)
        refine Ok.k5 (fun _ f1 _ _ v => ∃ m', v = nI m' ∧ i - 1 ≤ m' ∧ z_st f1 m') (fun x => ∃ m', x.2.2.2.2 = nI m' ∧ z_st x.2.1 m') (fun v f1 f2 f3 w hw => ?_) (fun K hK => Ok.ite (fun _ => hK _ _ _ _ _ ⟨m, rfl, by omega, hs⟩) (fun _ => Ok.b4 (s_remove hN hs (i := i - 1) (by omega)) (fun f6 f7 f8 v9 h => Ok.nm (hK _ _ _ _ _ ⟨m - 1, h.1, by omega, h.2⟩))))
        obtain ⟨m', rfl, h1, h2⟩ := hw
        refine Ok.nm ?_
        rw [Int32.add_neg_eq_sub]
        exact ih (i - 1) _ _ _ _ m' h1 (by omega) h2
  have hm := hs.1
  unfold f_X_tidy
  exact Ok.nm (Ok.nm (Ok.b5 (L N m 0 sl sk sy m (Nat.le_refl m) (by omega) hs) (fun _ _ _ _ _ h => Ok.ret h)))
theorem s_x_wider (g : GOK R C H V rc cc br zc rw sh) (hN : 100000 ≤ N) (p q r : Int32) : Ok (f_X_wider N br zc rw sh p q r) (fun _ => True) := by
  unfold f_X_wider
  refine Ok.b1 (s_areSheets g p q r) (fun v1 h1 => Ok.ite (fun _ => Ok.t) (fun n1 => ?_))
  obtain ⟨⟨l, k, hl, rfl, rfl, hk⟩, -⟩ := h1 n1
  exact Ok.b1 (s_rowOfKey g hN hl _) (fun _ _ => Ok.b1 (s_rowLength g hl _) (fun _ _ => Ok.b1 (s_rowOfKey g hN hl _) (fun _ _ => Ok.b1 (s_rowLength g hl _) (fun _ _ => Ok.b1 (s_cmp _ _) (fun _ _ => Ok.t)))))
theorem s_x_years (hN : 100000 ≤ N) (sy : Nat → Int32) {m : Nat} (hm : m ≤ 60) (p q w : Int32) : Ok (f_X_years N sy (nI m) p q w) (fun _ => True) := by
  have L : ∀ n i (a b c : Int32), i ≤ m → m - i < n → Ok (f_X_years_L47 p q (nI m) sy n a b c (nI i)) (fun _ => True) := by
    intro n
    induction n with
    | zero => intro i a b c _ h; omega
    | succ n ih =>
      intro i a b c hi hn
      rw [f_X_years_L47]
      refine Ok.ite (fun _ => Ok.t) (fun hc => ?_)
      rw [nI_leI (by omega) (by omega)] at hc
      have hx := fun a b c => ih (i + 1) a b c (by omega) (by omega)
      rw [← nI_1] at hx
      have hi6 : i < 60 := by omega
      refine Ok.ain hi6 (by decide) (Ok.b1 (s_isFrom _ _ _) (fun _ _ => Ok.k3 (fun _ _ _ => True) (fun _ => True) (fun a b c _ => Ok.nm (hx a b c)) (fun K hK => Ok.ite (fun _ => hK _ _ _ trivial) (fun _ => Ok.nm (Ok.nm (Ok.nm (hK _ _ _ trivial)))))))
  unfold f_X_years
  refine Ok.b1 (s_isFrom p _ _) (fun _ _ => Ok.ite (fun _ => Ok.t) (fun _ => Ok.b1 (s_isFrom q _ _) (fun _ _ => Ok.ite (fun _ => Ok.t) (fun _ => Ok.b1 (s_isFrom w _ _) (fun _ _ => Ok.ite (fun _ => Ok.t) (fun _ => Ok.nm (Ok.nm (Ok.nm (Ok.nm (Ok.b3 (L N 0 _ _ _ (by omega) (by omega)) (fun _ _ _ _ => ?_)))))))))))
  (repeat' first | exact Ok.t | with_reducible refine Ok.ite (fun _ => ?_) (fun _ => ?_) | with_reducible refine Ok.nm ?_ | with_reducible refine Ok.j0 ?_ | with_reducible refine Ok.j1 ?_ | with_reducible refine Ok.j2 ?_ | (with_reducible apply Ok.ain <;> try first | assumption | decide) | (with_reducible apply Ok.asn <;> try first | assumption | decide) | (with_reducible apply Ok.ai <;> try first | assumption | decide) | (with_reducible apply Ok.as <;> try first | assumption | decide))
theorem s_x_feed {n : Nat} (hN : N = n + 5) (f : Nat → Int32) {t : Nat} (ht : t ≤ 200) (a b c d e : Int32) : Ok (f_X_feed N f (nI t) a b c d e) (fun x => x.1 = (if t ≤ 180 then nI (t + 20) else -1) ∧ x.2.2 = (if t ≤ 180 then nI (t + 20) else nI t)) := by
  subst hN
  unfold f_X_feed
  rw [z_i 20, nI_add, z_i 200]
  refine Ok.ite (fun h => ?_) (fun h => ?_)
  all_goals rw [nI_leI (by omega) (by omega)] at h
  rotate_left
  · exact Ok.ret ⟨by rw [if_neg (by omega)], by rw [if_neg (by omega)]⟩
  obtain ⟨f1, h1⟩ := k_tpAdd (n := n) a f (t := t) (by omega)
  obtain ⟨f2, h2⟩ := k_tpAdd (n := n) b f1 (t := t + 4) (by omega)
  obtain ⟨f3, h3⟩ := k_tpAdd (n := n) c f2 (t := t + 4 + 4) (by omega)
  obtain ⟨f4, h4⟩ := k_tpAdd (n := n) d f3 (t := t + 4 + 4 + 4) (by omega)
  obtain ⟨f5, h5⟩ := k_tpAdd (n := n) e f4 (t := t + 4 + 4 + 4 + 4) (by omega)
  rw [h1, q_b2_s, h2, q_b2_s, h3, q_b2_s, h4, q_b2_s, h5, q_b2_s]
  exact Ok.ret ⟨by rw [if_pos (by omega)], by rw [if_pos (by omega)]⟩
theorem s_x_jog (g : GOK R C H V rc cc br zc rw sh) (hN : 100000 ≤ N) (a1 a2 a3 a4 a5 a6 p q w : Int32) : Ok (f_X_jog N a1 a2 a3 a4 a5 a6 br zc rw sh p q w) (fun _ => True) := by
  unfold f_X_jog
  refine Ok.b1 (s_hasSheet g p q) (fun v1 h1 => Ok.ite (fun _ => Ok.t) (fun n1 => ?_))
  obtain ⟨l, k, hl, rfl, rfl, hk⟩ := h1 n1
  refine Ok.k0 (fun _ => True) ?_ (fun K hK => Ok.ite (fun _ => hK) (fun _ => Ok.ite (fun _ => hK) (fun _ => Ok.t)))
  refine Ok.b6 (s_putA g hN hl _ _ _ _ _ _ _) (fun x1 x2 x3 x4 x5 x6 hx => ?_)
  refine Ok.k1 (fun _ => True) (fun _ => True) (fun v8 _ => Ok.ain hl (by decide) (Ok.b1 (s_isFrom _ _ _) (fun _ _ => Ok.ite (fun _ => Ok.t) (fun _ => Ok.b1 (s_rowLength g hl _) (fun _ _ => Ok.ite (fun _ => Ok.t) (fun _ => Ok.t)))))) (fun K hK => Ok.ite (fun _ => hK _ trivial) (fun _ => hK _ trivial))
theorem s_x_oldest (hN : 100000 ≤ N) (sl sk sy : Nat → Int32) {m : Nat} (hm : m ≤ 60) (p q : Int32) : Ok (f_X_oldest N sl sk sy (nI m) p q) (fun _ => True) := by
  have L : ∀ n i (a b : Int32), i ≤ m → m - i < n → (a = -1 ∨ ∃ j, j < 60 ∧ a = nI j) → Ok (f_X_oldest_L26 p sl (nI m) sy n a b (nI i)) (fun x => x.1 = -1 ∨ ∃ j, j < 60 ∧ x.1 = nI j) := by
    intro n
    induction n with
    | zero => intro i a b _ h; omega
    | succ n ih =>
      intro i a b hi hn ha
      rw [f_X_oldest_L26]
      refine Ok.ite (fun _ => Ok.ret ha) (fun hc => ?_)
      rw [nI_leI (by omega) (by omega)] at hc
      have hx := fun a b h => ih (i + 1) a b (by omega) (by omega) h
      rw [← nI_1] at hx
      have hi6 : i < 60 := by omega
      refine Ok.ain hi6 (by decide) (Ok.k2 (fun a _ => a = -1 ∨ ∃ j, j < 60 ∧ a = nI j) (fun x => x.1 = -1 ∨ ∃ j, j < 60 ∧ x.1 = nI j) (fun a b h => Ok.nm (hx a b h)) (fun K hK => Ok.ite (fun _ => ?_) (fun _ => hK _ _ ha)))
      refine Ok.k2 (fun a _ => ∃ j, j < 60 ∧ a = nI j) (fun x => x.1 = -1 ∨ ∃ j, j < 60 ∧ x.1 = nI j) (fun a b h => ?_) (fun K2 hK2 => ?_)
      · obtain ⟨j, hj, rfl⟩ := h
        exact Ok.ain hi6 (by decide) (Ok.ain hj (by decide) (Ok.ite (fun _ => Ok.nm (hK _ _ (Or.inr ⟨j, hj, rfl⟩))) (fun _ => hK _ _ (Or.inr ⟨j, hj, rfl⟩))))
      · refine Ok.k0 (fun x => x.1 = -1 ∨ ∃ j, j < 60 ∧ x.1 = nI j) (Ok.nm (hK2 _ _ ⟨i, hi6, rfl⟩)) (fun K3 hK3 => Ok.ite (fun _ => hK3) (fun hne => ?_))
        rcases ha with h | ⟨j, hj, rfl⟩
        · exact absurd h hne
        · exact Ok.ain hi6 (by decide) (Ok.ain hj (by decide) (Ok.ite (fun _ => hK2 _ _ ⟨j, hj, rfl⟩) (fun _ => hK3)))
  unfold f_X_oldest
  refine Ok.b1 (s_isLevel p) (fun _ _ => Ok.ite (fun _ => Ok.t) (fun _ => Ok.b1 (s_isFrom q _ _) (fun _ _ => Ok.ite (fun _ => Ok.t) (fun _ => Ok.nm (Ok.nm (Ok.nm (Ok.b2 (L N 0 _ _ (by omega) (by omega) (Or.inl rfl)) (fun v9 v10 h9 => Ok.ite (fun _ => Ok.t) (fun hne => ?_)))))))))
  rcases h9 with h | ⟨j, hj, h⟩
  · exact absurd h hne
  · simp only at h
    subst h
    (repeat' first | exact Ok.t | with_reducible refine Ok.ite (fun _ => ?_) (fun _ => ?_) | with_reducible refine Ok.nm ?_ | with_reducible refine Ok.j0 ?_ | with_reducible refine Ok.j1 ?_ | with_reducible refine Ok.j2 ?_ | (with_reducible apply Ok.ain <;> try first | assumption | decide) | (with_reducible apply Ok.asn <;> try first | assumption | decide) | (with_reducible apply Ok.ai <;> try first | assumption | decide) | (with_reducible apply Ok.as <;> try first | assumption | decide))
end SY
