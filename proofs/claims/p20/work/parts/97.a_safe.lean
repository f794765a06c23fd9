section
/-! the class's own methods: no call stops -/
section SX
variable {R C H V : Nat → Nat} {rc cc br zc rw sh : Nat → Int32} {N l : Nat}
theorem s_isFrom (p a b : Int32) : Ok (f_X_isFrom p a b) (fun x => x = (if a.toInt ≤ p.toInt ∧ p.toInt ≤ b.toInt then 1 else 0)) := by
  unfold f_X_isFrom
  refine Ok.ite (fun h => Ok.ret ?_) (fun h => Ok.ite (fun h2 => Ok.ret ?_) (fun h2 => Ok.ret ?_))
  · have := z_lt.mp h; rw [if_neg (by omega)]
  · have := z_lt.mp h2; rw [if_neg (by omega)]
  · have a1 : ¬ p.toInt < a.toInt := fun z => h (z_lt.mpr z)
    have a2 : ¬ b.toInt < p.toInt := fun z => h2 (z_lt.mpr z)
    rw [if_pos (by omega)]
theorem z_if1 {c : Prop} [Decidable c] {x : Int32} (h : x = if c then 1 else 0) (h0 : ¬ x = 0) : c := by
  by_cases hc : c
  · exact hc
  · rw [if_neg hc] at h; exact absurd h h0
theorem z_if0 {c : Prop} [Decidable c] {x : Int32} (h : x = if c then 1 else 0) (h0 : x = 0) : ¬ c := by
  intro hc
  rw [if_pos hc] at h
  rw [h0] at h
  exact absurd h (by decide)
theorem s_isLevel (p : Int32) : Ok (f_X_isLevel p) (fun x => x ≠ 0 → ∃ l, l < 5 ∧ p = nI l) := by
  refine ⟨_, k_isLevel p, fun h => ?_⟩
  by_cases hc : 0 ≤ p.toInt ∧ p.toInt ≤ 4
  · obtain ⟨j, h1, h2, h3⟩ := z_nat hc.1
    exact ⟨j, by omega, h2⟩
  · rw [if_neg hc] at h; exact absurd rfl h
def z_hs (H V : Nat → Nat) (p q : Int32) : Prop := ∃ l k, l < 5 ∧ p = nI l ∧ q = nI k ∧ k < 2130 * (H l * V l) + 2
theorem s_hasSheet (g : GOK R C H V rc cc br zc rw sh) (p q : Int32) : Ok (f_Grid_hasSheet sh p q) (fun x => x ≠ 0 → z_hs H V p q) := by
  rcases k_hasSheet g p q with h | ⟨l, k, h1, h2, h3, h4, h5⟩
  · exact ⟨0, h, fun z => absurd rfl z⟩
  · exact ⟨1, h5, fun _ => ⟨l, k, h1, h2, h3, h4⟩⟩
theorem s_areSheets (g : GOK R C H V rc cc br zc rw sh) (p q r : Int32) : Ok (f_X_areSheets sh p q r) (fun x => x ≠ 0 → z_hs H V p q ∧ z_hs H V p r) := by
  unfold f_X_areSheets
  refine Ok.b1 (s_hasSheet g p q) (fun v1 h1 => Ok.ite (fun _ => Ok.ret (fun z => absurd rfl z)) (fun n1 => Ok.b1 (s_hasSheet g p r) (fun v2 h2 => Ok.ite (fun _ => Ok.ret (fun z => absurd rfl z)) (fun n2 => Ok.ret (fun _ => ⟨h1 n1, h2 n2⟩)))))
theorem s_isPlace (p q : Int32) : Ok (f_X_isPlace p q) (fun x => x ≠ 0 → (-324000 ≤ p.toInt ∧ p.toInt ≤ 324000) ∧ ∃ o, o < 1296000 ∧ q = nI o) := by
  unfold f_X_isPlace
  refine Ok.b1 (s_isFrom p _ _) (fun v1 h1 => Ok.ite (fun _ => Ok.ret (fun z => absurd rfl z)) (fun n1 => Ok.b1 (s_isFrom q _ _) (fun v2 h2 => Ok.ite (fun _ => Ok.ret (fun z => absurd rfl z)) (fun n2 => Ok.ret (fun _ => ?_)))))
  have a := z_if1 h1 n1
  have b := z_if1 h2 n2
  rw [show (-324000 : Int32).toInt = -324000 from rfl, show (324000 : Int32).toInt = 324000 from rfl] at a
  rw [show (0 : Int32).toInt = 0 from rfl, show (1295999 : Int32).toInt = 1295999 from rfl] at b
  obtain ⟨j, j1, j2, j3⟩ := z_nat b.1
  exact ⟨a, j, by omega, j2⟩
theorem s_isBox (p q r s : Int32) : Ok (f_X_isBox p q r s) (fun x => x ≠ 0 → (∃ o, o < 1296000 ∧ r = nI o) ∧ ∃ o, o < 1296000 ∧ s = nI o) := by
  unfold f_X_isBox
  refine Ok.b1 (s_isPlace p r) (fun v1 h1 => Ok.ite (fun _ => Ok.ret (fun z => absurd rfl z)) (fun n1 => Ok.b1 (s_isPlace q s) (fun v2 h2 => Ok.ite (fun _ => Ok.ret (fun z => absurd rfl z)) (fun n2 => Ok.ite (fun _ => Ok.ret (fun z => absurd rfl z)) (fun _ => Ok.ret (fun _ => ⟨(h1 n1).2, (h2 n2).2⟩))))))
theorem z_rlI (g : GOK R C H V rc cc br zc rw sh) (hl : l < 5) {r : Nat} (hr : r ≤ 44 * H l + 1) : 1 ≤ z_rl (H l) (V l) r ∧ z_rl (H l) (V l) r ≤ 563400 := by
  have hp := g.2.pos l hl
  have hv := g.2.hv hl
  have := z_rl_pos hp.1 hp.2 hr
  omega
theorem s_x_between (g : GOK R C H V rc cc br zc rw sh) (hN : 100000 ≤ N) (a1 a2 a3 a4 a5 a6 b1 b2 b3 b4 p q r : Int32) : Ok (f_X_between N a1 a2 a3 a4 a5 a6 b1 b2 b3 b4 br zc rw sh p q r) (fun _ => True) := by
  unfold f_X_between
  refine Ok.b1 (s_areSheets g p q r) (fun v1 h1 => Ok.ite (fun _ => Ok.t) (fun n1 => ?_))
  obtain ⟨⟨l, k, hl, rfl, rfl, hk⟩, -⟩ := h1 n1
  refine Ok.b6 (s_putA g hN hl _ _ _ _ _ _ _) (fun x1 x2 x3 x4 x5 x6 hx => ?_)
  obtain ⟨r1, s1, p1, L, c1, hx, h1, h2⟩ := hx
  cases hx
  refine Ok.b1 (s_middleLat g hl h1 h2 _ _ _) (fun _ _ => Ok.b1 (s_middleLon g hl h1 h2 _ _ _) (fun _ _ => ?_))
  refine Ok.b6 (s_putA g hN hl _ _ _ _ _ _ _) (fun x1 x2 x3 x4 x5 x6 hx => ?_)
  obtain ⟨r1, s1, p1, L, c1, hx, h1, h2⟩ := hx
  cases hx
  refine Ok.b1 (s_middleLat g hl h1 h2 _ _ _) (fun _ _ => Ok.nm (Ok.nm (Ok.b1 (s_middleLon g hl h1 h2 _ _ _) (fun _ _ => ?_))))
  unfold f_Box_set
  rw [q_b4_s]
  exact Ok.b1 (s_sheetsAt g hN hl _ _ _ _) (fun _ _ => Ok.t)
theorem s_lookAround (g : GOK R C H V rc cc br zc rw sh) (hl : l < 5) {r p : Nat} (hr : r ≤ 44 * H l + 1) (hp : p < z_rl (H l) (V l) r) (f m : Nat → Int32) : Ok (f_Spot_lookAround f m (nI l) (nI r) (nI (z_rs (H l) (V l) r)) (nI p) (nI (z_rl (H l) (V l) r)) (z_cap (H l) r) br zc rw sh) (fun x => ∃ F M, z_FM (2130 * (H l * V l) + 2) x.1 x.2 F M) := by
  obtain ⟨f', m', F, M, h1, h2⟩ := k_lookAround g hl hr hp f m
  exact ⟨_, h1, F, M, h2⟩
theorem s_x_neighbour (g : GOK R C H V rc cc br zc rw sh) (hN : 100000 ≤ N) (f m : Nat → Int32) (a1 a2 a3 a4 a5 a6 p q s i : Int32) : Ok (f_X_neighbour N f m a1 a2 a3 a4 a5 a6 br zc rw sh p q s i) (fun _ => True) := by
  unfold f_X_neighbour
  refine Ok.b1 (s_hasSheet g p q) (fun v1 h1 => Ok.ite (fun _ => Ok.t) (fun n1 => Ok.b1 (s_isFrom s _ _) (fun v2 h2 => Ok.ite (fun _ => Ok.t) (fun n2 => Ok.ite (fun _ => ?_) (fun _ => Ok.t)))))
  obtain ⟨l, k, hl, rfl, rfl, hk⟩ := h1 n1
  have hs := z_if1 h2 n2
  rw [show (0 : Int32).toInt = 0 from rfl, show (3 : Int32).toInt = 3 from rfl] at hs
  have hi : z_in 4 s := ⟨by omega, by omega⟩
  refine Ok.b6 (s_put g hN hl hk _ _ _ _ _ _) (fun x1 x2 x3 x4 x5 x6 hx => ?_)
  obtain ⟨r1, p1, hx, h1, h2⟩ := hx
  cases hx
  refine Ok.b2 (s_lookAround g hl h1 h2 f m) (fun f9 f10 _ => ?_)
  (repeat' first | exact Ok.t | with_reducible refine Ok.ite (fun _ => ?_) (fun _ => ?_) | with_reducible refine Ok.nm ?_ | with_reducible refine Ok.j0 ?_ | with_reducible refine Ok.j1 ?_ | with_reducible refine Ok.j2 ?_ | (with_reducible apply Ok.ain <;> try first | assumption | decide) | (with_reducible apply Ok.asn <;> try first | assumption | decide) | (with_reducible apply Ok.ai <;> try first | assumption | decide) | (with_reducible apply Ok.as <;> try first | assumption | decide))
theorem s_x_around (g : GOK R C H V rc cc br zc rw sh) (hN : 100000 ≤ N) (f m : Nat → Int32) (a1 a2 a3 a4 a5 a6 p q i : Int32) : Ok (f_X_around N f m a1 a2 a3 a4 a5 a6 br zc rw sh p q i) (fun _ => True) := by
  unfold f_X_around
  refine Ok.b1 (s_hasSheet g p q) (fun v1 h1 => Ok.ite (fun _ => Ok.t) (fun n1 => Ok.ite (fun hi => ?_) (fun _ => Ok.t)))
  obtain ⟨l, k, hl, rfl, rfl, hk⟩ := h1 n1
  have hs := g.2.sh hl
  refine Ok.b6 (s_put g hN hl hk _ _ _ _ _ _) (fun x1 x2 x3 x4 x5 x6 hx => ?_)
  obtain ⟨r1, p1, hx, h1, h2⟩ := hx
  cases hx
  refine Ok.b2 (s_lookAround g hl h1 h2 f m) (fun f9 f10 hFM => ?_)
  obtain ⟨F, M, hFM⟩ := hFM
  have hab := k_allBeside hFM
  have hM : M 0 + M 1 + M 2 + M 3 < 2 ^ 31 := by
    have b0 := (hFM.1 0 (by omega)).2.2.2
    have b1 := (hFM.1 1 (by omega)).2.2.2
    have b2 := (hFM.1 2 (by omega)).2.2.2
    have b3 := (hFM.1 3 (by omega)).2.2.2
    omega
  simp only at hab
  refine Ok.ite (fun _ => ?_) (fun hne => ?_)
  · rw [hab, q_b1_s]; exact Ok.t
  · rw [hab, q_b1_s]
    refine Ok.ite (fun _ => Ok.t) (fun hc => ?_)
    have h0 : 0 ≤ i.toInt := by
      have a := z_le.mp hi
      rw [show (-1 : Int32).toInt = -1 from rfl] at a
      rcases Int.lt_or_le i.toInt 0 with z | z
      · exfalso
        have : i.toInt = (-1 : Int32).toInt := by rw [show (-1 : Int32).toInt = -1 from rfl]; omega
        exact hne (Int32.toInt_inj.mp this)
      · exact z
    obtain ⟨j, j1, rfl, j3⟩ := z_nat h0
    rw [nI_leI hM j1] at hc
    obtain ⟨k2, hk2, -⟩ := k_besideKey hFM (by omega) (i := j) (by omega)
    simp only at hk2
    rw [hk2, q_b1_s]; exact Ok.t
theorem s_x_at (g : GOK R C H V rc cc br zc rw sh) (hN : 100000 ≤ N) (a1 a2 a3 a4 a5 a6 p q w : Int32) : Ok (f_X_at N a1 a2 a3 a4 a5 a6 rc cc br zc rw sh p q w) (fun _ => True) := by
  unfold f_X_at
  refine Ok.b1 (s_hasSheet g p q) (fun v1 h1 => Ok.ite (fun _ => Ok.t) (fun n1 => ?_))
  obtain ⟨l, k, hl, rfl, rfl, hk⟩ := h1 n1
  refine Ok.b6 (s_putA g hN hl _ _ _ _ _ _ _) (fun x1 x2 x3 x4 x5 x6 hx => ?_)
  obtain ⟨r1, s1, p1, L, c1, hx, h1, h2⟩ := hx
  cases hx
  refine Ok.ite (fun _ => Ok.t) (fun _ => Ok.ite (fun _ => Ok.t) (fun _ => Ok.ite (fun _ => Ok.t) (fun _ => Ok.ite (fun _ => Ok.b1 (s_band g hl _ _) (fun _ _ => Ok.t)) (fun _ => Ok.ite (fun _ => Ok.b1 (s_zone g hl _ _) (fun _ _ => Ok.t)) (fun _ => Ok.ite (fun _ => Ok.b1 (s_numberOf g hl (Nat.le_refl l) _ _ _) (fun _ _ => Ok.t)) (fun _ => Ok.t))))))
theorem s_x_bands (g : GOK R C H V rc cc br zc rw sh) (hN : 100000 ≤ N) (p q r : Int32) : Ok (f_X_bands N br zc rw sh p q r) (fun _ => True) := by
  unfold f_X_bands
  refine Ok.b1 (s_areSheets g p q r) (fun v1 h1 => Ok.ite (fun _ => Ok.t) (fun n1 => Ok.ite (fun _ => Ok.nm (Ok.nm ?_)) (fun _ => Ok.t)))
  obtain ⟨⟨l, k, hl, rfl, rfl, hk⟩, -⟩ := h1 n1
  have L : ∀ n i (v : Int32), i ≤ 44 → 44 - i < n → Ok (f_X_bands_L23 br rw sh zc (nI l) (nI k) r n v (nI i)) (fun _ => True) := by
    intro n
    induction n with
    | zero => intro i v _ h; omega
    | succ n ih =>
      intro i v hi hn
      rw [f_X_bands_L23]
      refine Ok.ite (fun _ => Ok.t) (fun hc => ?_)
      rw [z_i 44, nI_leI (by omega) (by omega)] at hc
      have hx := fun v => ih (i + 1) v (by omega) (by omega)
      rw [← nI_1] at hx
      refine Ok.ain hl (by decide) (Ok.b1 (s_rowStart g hl _) (fun _ _ => Ok.ain hl (by decide) (Ok.b1 (s_rowStart g hl _) (fun _ _ => ?_))))
      exact Ok.k1 (fun _ => True) (fun _ => True) (fun v _ => Ok.nm (hx v)) (fun K hK => Ok.ite (fun _ => hK _ trivial) (fun _ => Ok.ite (fun _ => hK _ trivial) (fun _ => Ok.nm (hK _ trivial))))
  exact Ok.b1 (L N 0 0 (by omega) (by omega)) (fun _ _ => Ok.t)
theorem s_x_before (g : GOK R C H V rc cc br zc rw sh) (hN : 100000 ≤ N) (a1 a2 a3 a4 a5 a6 : Int32) (f1 : Nat → Int32) (n1 : Int32) (f2 : Nat → Int32) (n2 p q r : Int32) : Ok (f_X_before N a1 a2 a3 a4 a5 a6 f1 n1 f2 n2 rc cc br zc rw sh p q r) (fun _ => True) := by
  unfold f_X_before
  refine Ok.b1 (s_areSheets g p q r) (fun v1 h1 => Ok.ite (fun _ => Ok.t) (fun n1 => ?_))
  obtain ⟨⟨l, k, hl, rfl, rfl, hk⟩, -⟩ := h1 n1
  refine Ok.b6 (s_putA g hN hl _ _ _ _ _ _ _) (fun x1 x2 x3 x4 x5 x6 hx => ?_)
  obtain ⟨r1, s1, p1, L, c1, hx, h1, h2⟩ := hx
  cases hx
  refine Ok.b2 (s_write g hN hl _ _ _ _ _) (fun f8 v9 h9 => ?_)
  refine Ok.b6 (s_putA g hN hl _ _ _ _ _ _ _) (fun x1 x2 x3 x4 x5 x6 hx => ?_)
  obtain ⟨r1, s1, p1, L, c1, hx, h1, h2⟩ := hx
  cases hx
  refine Ok.b2 (s_write g hN hl _ _ _ _ _) (fun f16 v17 h17 => ?_)
  exact Ok.b1 (s_against hN f8 f16 h9 h17) (fun _ _ => Ok.t)
theorem s_x_box (g : GOK R C H V rc cc br zc rw sh) (hN : 100000 ≤ N) (b1 b2 b3 b4 p1 p2 p3 p4 p5 p6 : Int32) : Ok (f_X_box N b1 b2 b3 b4 br zc rw sh p1 p2 p3 p4 p5 p6) (fun _ => True) := by
  unfold f_X_box
  refine Ok.b1 (s_isBox p1 p2 p3 p4) (fun v1 h1 => Ok.ite (fun _ => Ok.t) (fun n1 => Ok.b1 (s_isLevel p5) (fun v2 h2 => Ok.ite (fun _ => Ok.t) (fun n2 => Ok.ite (fun _ => ?_) (fun _ => Ok.t)))))
  obtain ⟨l, hl, rfl⟩ := h2 n2
  unfold f_Box_set
  rw [q_b4_s]
  refine Ok.b1 (s_sheetsAt g hN hl _ _ _ _) (fun v7 _ => Ok.ite (fun _ => Ok.t) (fun _ => Ok.ite (fun _ => Ok.t) (fun _ => ?_)))
  exact Ok.b1 (s_sheetAt g hN hl _ _ _ _ _) (fun _ _ => Ok.t)
theorem s_x_changes (g : GOK R C H V rc cc br zc rw sh) (hN : 100000 ≤ N) (p1 p2 p3 p4 p5 p6 : Int32) : Ok (f_X_changes N br zc rw sh p1 p2 p3 p4 p5 p6) (fun _ => True) := by
  unfold f_X_changes
  refine Ok.b1 (s_isPlace p1 p2) (fun _ _ => Ok.ite (fun _ => Ok.t) (fun _ => Ok.b1 (s_isPlace p3 p4) (fun _ _ => Ok.ite (fun _ => Ok.t) (fun _ => Ok.b1 (s_isFrom p5 _ _) (fun v3 h3 => Ok.ite (fun _ => Ok.t) (fun n3 => Ok.b1 (s_isLevel p6) (fun v4 h4 => Ok.ite (fun _ => Ok.t) (fun n4 => Ok.nm ?_))))))))
  obtain ⟨l, hl, rfl⟩ := h4 n4
  have h5 := z_if1 h3 n3
  rw [show (1 : Int32).toInt = 1 from rfl, show (200 : Int32).toInt = 200 from rfl] at h5
  obtain ⟨m, m1, rfl, m3⟩ := z_nat (r := p5) (by omega)
  have hne : nI m ≠ 0 := nI_ne0 (by omega) (by omega)
  have L : ∀ n i (a b : Int32), i ≤ m + 1 → m + 1 - i < n → Ok (f_X_changes_L58 br rw sh zc p1 p2 p3 p4 (nI m) (nI l) n a b (nI i)) (fun _ => True) := by
    intro n
    induction n with
    | zero => intro i a b _ h; omega
    | succ n ih =>
      intro i a b hi hn
      rw [f_X_changes_L58]
      refine Ok.ite (fun _ => Ok.t) (fun hc => ?_)
      rw [nI_ltI (by omega) (by omega)] at hc
      have hx := fun v w => ih (i + 1) v w (by omega) (by omega)
      rw [← nI_1] at hx
      refine Ok.b1 (s_fdI hne) (fun _ _ => Ok.nm (Ok.b1 (s_fdI hne) (fun _ _ => Ok.nm (Ok.b1 (s_keyOf g hl _ _) (fun v16 _ => ?_)))))
      exact Ok.k1 (fun _ => True) (fun _ => True) (fun v _ => Ok.nm (hx v v16)) (fun K hK => Ok.ite (fun _ => hK _ trivial) (fun _ => Ok.nm (hK _ trivial)))
  exact Ok.b1 (s_keyOf g hl _ _) (fun v6 _ => Ok.nm (Ok.b1 (L N 1 0 v6 (by omega) (by omega)) (fun _ _ => Ok.t)))
theorem s_x_child (g : GOK R C H V rc cc br zc rw sh) (hN : 100000 ≤ N) (a1 a2 a3 a4 a5 a6 p q t i : Int32) : Ok (f_X_child N a1 a2 a3 a4 a5 a6 br zc rw sh p q t i) (fun _ => True) := by
  unfold f_X_child
  refine Ok.b1 (s_hasSheet g p q) (fun v1 h1 => Ok.ite (fun _ => Ok.t) (fun n1 => Ok.b1 (s_isFrom t p 4) (fun v2 h2 => Ok.ite (fun _ => Ok.t) (fun n2 => Ok.ite (fun _ => ?_) (fun _ => Ok.t)))))
  obtain ⟨l, k, hl, rfl, rfl, hk⟩ := h1 n1
  have ht := z_if1 h2 n2
  rw [nI_toInt (by omega), show (4 : Int32).toInt = 4 from rfl] at ht
  obtain ⟨j, j1, rfl, j3⟩ := z_nat (r := t) (by omega)
  refine Ok.b6 (s_putA g hN hl _ _ _ _ _ _ _) (fun x1 x2 x3 x4 x5 x6 hx => ?_)
  obtain ⟨r1, s1, p1, L, c1, hx, h1, h2⟩ := hx
  cases hx
  refine Ok.b1 (s_piecesAt g (t := j) (by omega) (by omega) _) (fun _ _ => Ok.ite (fun _ => Ok.t) (fun _ => Ok.ite (fun _ => Ok.t) (fun _ => ?_)))
  exact Ok.b1 (s_pieceAt g (t := j) (by omega) (by omega) _ _ _ _) (fun _ _ => Ok.t)
theorem s_x_common (g : GOK R C H V rc cc br zc rw sh) (hN : 100000 ≤ N) (p1 p2 p3 p4 : Int32) : Ok (f_X_common N br zc rw sh p1 p2 p3 p4) (fun _ => True) := by
  unfold f_X_common
  refine Ok.b1 (s_isPlace p1 p2) (fun _ _ => Ok.ite (fun _ => Ok.t) (fun _ => Ok.b1 (s_isPlace p3 p4) (fun _ _ => Ok.ite (fun _ => Ok.t) (fun _ => Ok.nm ?_))))
  have L : ∀ n i, i < 5 → i + 1 < n → Ok (f_X_common_L22 br rw sh zc p1 p2 p3 p4 n (nI i)) (fun _ => True) := by
    intro n
    induction n with
    | zero => intro i _ h; omega
    | succ n ih =>
      intro i hi hn
      rw [f_X_common_L22]
      refine Ok.ite (fun _ => Ok.t) (fun _ => Ok.b1 (s_keyOf g hi _ _) (fun _ _ => Ok.b1 (s_keyOf g hi _ _) (fun _ _ => Ok.ite (fun _ => Ok.t) (fun _ => Ok.nm ?_))))
      rw [Int32.add_neg_eq_sub]
      rcases Nat.eq_zero_or_pos i with h | h
      · subst h
        obtain ⟨n, rfl⟩ : ∃ k, n = k + 1 := ⟨n - 1, by omega⟩
        rw [f_X_common_L22, if_pos (by decide)]; exact Ok.t
      · rw [z_sub1 (by omega)]; exact ih (i - 1) (by omega) (by omega)
  exact Ok.s0 (L N 4 (by omega) (by omega)) (fun _ => Ok.t) (fun _ _ => trivial)
theorem z_nn {i : Int32} (h : -1 ≤ i) (hne : ¬ i = -1) : 0 ≤ i.toInt := by
  have a := z_le.mp h
  rw [show (-1 : Int32).toInt = -1 from rfl] at a
  rcases Int.lt_or_le i.toInt 0 with z | z
  · exfalso
    have : i.toInt = (-1 : Int32).toInt := by rw [show (-1 : Int32).toInt = -1 from rfl]; omega
    exact hne (Int32.toInt_inj.mp this)
  · exact z
theorem z_nle {a b : Int32} (h : ¬ a ≤ b) : b.toInt < a.toInt := by
  have : ¬ a.toInt ≤ b.toInt := fun z => h (z_le.mpr z)
  omega
theorem s_x_corners (g : GOK R C H V rc cc br zc rw sh) (hN : 100000 ≤ N) (f : Nat → Int32) (c a1 a2 a3 a4 a5 a6 p q i : Int32) : Ok (f_X_corners N f c a1 a2 a3 a4 a5 a6 br zc rw sh p q i) (fun _ => True) := by
  unfold f_X_corners
  refine Ok.b1 (s_hasSheet g p q) (fun v1 h1 => Ok.ite (fun _ => Ok.t) (fun n1 => Ok.ite (fun hi => ?_) (fun _ => Ok.t)))
  obtain ⟨l, k, hl, rfl, rfl, hk⟩ := h1 n1
  refine Ok.b6 (s_putA g hN hl _ _ _ _ _ _ _) (fun x1 x2 x3 x4 x5 x6 hx => ?_)
  obtain ⟨r1, s1, p1, L, c1, hx, h1, h2⟩ := hx
  cases hx
  refine Ok.b2 (s_lookAtCorners g hN hl f c _ _ _ h1 h2) (fun f8 v9 h9 => Ok.ite (fun _ => Ok.t) (fun hne => Ok.ite (fun _ => Ok.t) (fun hc => ?_)))
  have h0 := z_nn hi hne
  have h3 := z_nle hc
  simp only at h9
  exact Ok.ai ⟨h0, by omega⟩ Ok.t
theorem s_x_count (a b c d e f h p : Int32) : Ok (f_X_count a b c d e f h p) (fun _ => True) := by
  unfold f_X_count
  (repeat' first | exact Ok.t | with_reducible refine Ok.ite (fun _ => ?_) (fun _ => ?_) | with_reducible refine Ok.nm ?_ | with_reducible refine Ok.j0 ?_ | with_reducible refine Ok.j1 ?_ | with_reducible refine Ok.j2 ?_ | (with_reducible apply Ok.ain <;> try first | assumption | decide) | (with_reducible apply Ok.asn <;> try first | assumption | decide) | (with_reducible apply Ok.ai <;> try first | assumption | decide) | (with_reducible apply Ok.as <;> try first | assumption | decide))
theorem s_x_cover (g : GOK R C H V rc cc br zc rw sh) (hN : 1000000 ≤ N) (b1 b2 b3 b4 p1 p2 p3 p4 p5 p6 : Int32) : Ok (f_X_cover N b1 b2 b3 b4 rc cc br zc rw sh p1 p2 p3 p4 p5 p6) (fun _ => True) := by
  unfold f_X_cover
  refine Ok.b1 (s_isBox p1 p2 p3 p4) (fun v1 h1 => Ok.ite (fun _ => Ok.t) (fun n1 => Ok.b1 (s_isLevel p5) (fun v2 h2 => Ok.ite (fun _ => Ok.t) (fun n2 => Ok.ite (fun _ => ?_) (fun _ => Ok.t)))))
  obtain ⟨l, hl, rfl⟩ := h2 n2
  obtain ⟨⟨w, hw, rfl⟩, ⟨e, he, rfl⟩⟩ := h1 n1
  unfold f_Box_set
  rw [q_b4_s]
  refine Ok.b1 (s_sheetsAt g (by omega) hl _ _ _ _) (fun v7 _ => Ok.ite (fun _ => Ok.nm (Ok.nm ?_)) (fun _ => Ok.t))
  have L : ∀ n i (a : Int32), i ≤ l + 1 → l + 1 - i < n → Ok (f_X_cover_L63 N br cc rc rw sh zc (nI l) p6 p1 p2 (nI w) (nI e) n a (nI i)) (fun _ => True) := by
    intro n
    induction n with
    | zero => intro i a _ h; omega
    | succ n ih =>
      intro i a hi hn
      rw [f_X_cover_L63]
      refine Ok.ite (fun _ => Ok.t) (fun hc => ?_)
      rw [nI_ltI (by omega) (by omega)] at hc
      have hx := fun v => ih (i + 1) v (by omega) (by omega)
      rw [← nI_1] at hx
      refine Ok.b1 (s_coverAt g hN (l := i) (t := l) (by omega) hl p1 p2 hw he) (fun v13 _ => ?_)
      refine Ok.k0 (fun _ => True) (Ok.nm (Ok.nm (hx _))) (fun K hK => Ok.ite (fun _ => hK) (fun _ => Ok.ite (fun _ => hK) (fun _ => ?_)))
      exact Ok.b1 (s_coverSheet g hN (l := i) (t := l) (by omega) hl p1 p2 _ hw he) (fun _ _ => Ok.t)
  exact Ok.s1 (L N 0 0 (by omega) (by omega)) (fun _ _ => Ok.ite (fun _ => Ok.t) (fun _ => Ok.t)) (fun _ _ => trivial)
theorem s_x_drop (g : GOK R C H V rc cc br zc rw sh) (hN : 100000 ≤ N) {sl sk sy : Nat → Int32} {m : Nat} (hs : z_st sl m) (p q : Int32) : Ok (f_X_drop N sl sk sy (nI m) br zc rw sh p q) (fun x => ∃ m', x.2.2.2.2 = nI m' ∧ z_st x.2.1 m') := by
  have hm := hs.1
  unfold f_X_drop
  refine Ok.b1 (s_hasSheet g p q) (fun v1 h1 => Ok.ite (fun _ => Ok.ret ⟨m, rfl, hs⟩) (fun n1 => ?_))
  obtain ⟨l, k, hl, rfl, rfl, hk⟩ := h1 n1
  refine Ok.b1 (s_storedLevel g hl _) (fun v2 h2 => ?_)
  have h2' : ∃ t, t ≤ l ∧ v2 = nI t := by
    rcases h2 with h | h
    · exact ⟨0, by omega, h⟩
    · exact ⟨l, Nat.le_refl l, h⟩
  obtain ⟨t, ht, rfl⟩ := h2'
  refine Ok.b1 (s_keyAbove g hN hl ht _) (fun v3 _ => Ok.b1 (s_find hN _ _ sl sk hm) (fun v4 h4 => Ok.ite (fun _ => Ok.ret ⟨m, rfl, hs⟩) (fun hne => ?_)))
  rcases h4 with h | ⟨j, hj, rfl⟩
  · exact absurd h hne
  · exact Ok.ain (by omega) (by decide) (Ok.b4 (s_remove hN hs hj) (fun f6 f7 f8 v9 h => Ok.ret ⟨m - 1, h.1, h.2⟩))
theorem s_x_store (g : GOK R C H V rc cc br zc rw sh) (hN : 100000 ≤ N) {sl sk sy : Nat → Int32} {m : Nat} (hs : z_st sl m) (p q y : Int32) : Ok (f_X_store N sl sk sy (nI m) br zc rw sh p q y) (fun x => ∃ m', x.2.2.2.2 = nI m' ∧ z_st x.2.1 m') := by
  unfold f_X_store
  refine Ok.b1 (s_hasSheet g p q) (fun v1 h1 => Ok.ite (fun _ => Ok.ret ⟨m, rfl, hs⟩) (fun n1 => Ok.b1 (s_isFrom y _ _) (fun _ _ => Ok.ite (fun _ => Ok.ret ⟨m, rfl, hs⟩) (fun _ => ?_))))
  obtain ⟨l, k, hl, rfl, rfl, hk⟩ := h1 n1
  refine Ok.b1 (s_storedLevel g hl _) (fun v2 h2 => ?_)
  have h2' : ∃ t, t ≤ l ∧ v2 = nI t := by
    rcases h2 with h | h
    · exact ⟨0, by omega, h⟩
    · exact ⟨l, Nat.le_refl l, h⟩
  obtain ⟨t, ht, rfl⟩ := h2'
  refine Ok.b1 (s_keyAbove g hN hl ht _) (fun v3 _ => Ok.b5 (s_stput hN hs (by omega) _ _) (fun v5 f6 f7 f8 v9 h => ?_))
  exact Ok.ite (fun _ => Ok.ret h.2) (fun _ => Ok.ret h.2)
end SX
end
section
/-! the class's own methods, the second half: no call stops -/
section SY
variable {R C H V : Nat → Nat} {rc cc br zc rw sh : Nat → Int32} {N l : Nat}
theorem s_x_key (g : GOK R C H V rc cc br zc rw sh) (p q r : Int32) : Ok (f_X_key br zc rw sh p q r) (fun _ => True) := by
  unfold f_X_key
  refine Ok.b1 (s_isPlace p q) (fun _ _ => Ok.ite (fun _ => Ok.t) (fun _ => Ok.b1 (s_isLevel r) (fun v2 h2 => Ok.ite (fun _ => Ok.t) (fun n2 => ?_))))
  obtain ⟨l, hl, rfl⟩ := h2 n2
  exact Ok.b1 (s_keyOf g hl _ _) (fun _ _ => Ok.t)
theorem s_x_keyAt (g : GOK R C H V rc cc br zc rw sh) (p q r : Int32) : Ok (f_X_keyAt br zc rw sh p q r) (fun _ => True) := by
  unfold f_X_keyAt
  refine Ok.b1 (s_isLevel p) (fun v2 h2 => Ok.ite (fun _ => Ok.t) (fun n2 => ?_))
  obtain ⟨l, hl, rfl⟩ := h2 n2
  refine Ok.ain hl (by decide) (Ok.b1 (s_isFrom q _ _) (fun _ _ => Ok.ite (fun _ => Ok.t) (fun _ => Ok.b1 (s_rowLength g hl q) (fun _ _ => Ok.b1 (s_isFrom r _ _) (fun _ _ => Ok.ite (fun _ => Ok.t) (fun _ => Ok.b1 (s_rowStart g hl q) (fun _ _ => Ok.t)))))))
theorem s_x_level (p q : Int32) : Ok (f_X_level rc cc br zc rw sh p q) (fun _ => True) := by
  unfold f_X_level
  refine Ok.b1 (s_isLevel p) (fun v2 h2 => Ok.ite (fun _ => Ok.t) (fun n2 => ?_))
  obtain ⟨l, hl, rfl⟩ := h2 n2
  (repeat' first | exact Ok.t | with_reducible refine Ok.ite (fun _ => ?_) (fun _ => ?_) | with_reducible refine Ok.nm ?_ | with_reducible refine Ok.j0 ?_ | with_reducible refine Ok.j1 ?_ | with_reducible refine Ok.j2 ?_ | (with_reducible apply Ok.ain <;> try first | assumption | decide) | (with_reducible apply Ok.asn <;> try first | assumption | decide) | (with_reducible apply Ok.ai <;> try first | assumption | decide) | (with_reducible apply Ok.as <;> try first | assumption | decide))
theorem s_x_middle (g : GOK R C H V rc cc br zc rw sh) (hN : 100000 ≤ N) (a1 a2 a3 a4 a5 a6 p q w : Int32) : Ok (f_X_middle N a1 a2 a3 a4 a5 a6 br zc rw sh p q w) (fun _ => True) := by
  unfold f_X_middle
  refine Ok.b1 (s_hasSheet g p q) (fun v1 h1 => Ok.ite (fun _ => Ok.t) (fun n1 => Ok.b1 (s_isFrom w _ _) (fun _ _ => Ok.ite (fun _ => Ok.t) (fun _ => ?_))))
  obtain ⟨l, k, hl, rfl, rfl, hk⟩ := h1 n1
  refine Ok.b6 (s_putA g hN hl _ _ _ _ _ _ _) (fun x1 x2 x3 x4 x5 x6 hx => ?_)
  obtain ⟨r1, s1, p1, L, c1, hx, h1, h2⟩ := hx
  cases hx
  exact Ok.ite (fun _ => Ok.b1 (s_middleLat g hl h1 h2 _ _ _) (fun _ _ => Ok.t)) (fun _ => Ok.b1 (s_middleLon g hl h1 h2 _ _ _) (fun _ _ => Ok.t))
theorem s_isInt (p : Int64) : Ok (f_X_isInt p) (fun _ => True) := by
  unfold f_X_isInt
  (repeat' first | exact Ok.t | with_reducible refine Ok.ite (fun _ => ?_) (fun _ => ?_) | with_reducible refine Ok.nm ?_ | with_reducible refine Ok.j0 ?_ | with_reducible refine Ok.j1 ?_ | with_reducible refine Ok.j2 ?_ | (with_reducible apply Ok.ain <;> try first | assumption | decide) | (with_reducible apply Ok.asn <;> try first | assumption | decide) | (with_reducible apply Ok.ai <;> try first | assumption | decide) | (with_reducible apply Ok.as <;> try first | assumption | decide))
theorem s_x_moved (g : GOK R C H V rc cc br zc rw sh) (p1 p2 p3 p4 p5 : Int32) : Ok (f_X_moved br zc rw sh p1 p2 p3 p4 p5) (fun _ => True) := by
  unfold f_X_moved
  refine Ok.b1 (s_isPlace p1 p2) (fun _ _ => Ok.ite (fun _ => Ok.t) (fun _ => Ok.b1 (s_isLevel p5) (fun v2 h2 => Ok.ite (fun _ => Ok.t) (fun n2 => Ok.nm (Ok.nm ?_)))))
  obtain ⟨l, hl, rfl⟩ := h2 n2
  refine Ok.b1 (s_isInt _) (fun _ _ => Ok.ite (fun _ => Ok.t) (fun _ => Ok.b1 (s_isInt _) (fun _ _ => Ok.ite (fun _ => Ok.t) (fun _ => Ok.ite (fun _ => Ok.t) (fun _ => Ok.ite (fun _ => ?_) (fun _ => Ok.t))))))
  exact Ok.b1 (s_fmL (by decide)) (fun _ _ => Ok.b1 (s_keyOf g hl _ _) (fun _ _ => Ok.t))
theorem s_x_name (g : GOK R C H V rc cc br zc rw sh) (hN : 100000 ≤ N) (a1 a2 a3 a4 a5 a6 : Int32) (f1 : Nat → Int32) (n1 p q i : Int32) : Ok (f_X_name N a1 a2 a3 a4 a5 a6 f1 n1 rc cc br zc rw sh p q i) (fun _ => True) := by
  unfold f_X_name
  refine Ok.b1 (s_hasSheet g p q) (fun v1 h1 => Ok.ite (fun _ => Ok.t) (fun n1 => Ok.ite (fun hi => ?_) (fun _ => Ok.t)))
  obtain ⟨l, k, hl, rfl, rfl, hk⟩ := h1 n1
  refine Ok.b6 (s_putA g hN hl _ _ _ _ _ _ _) (fun x1 x2 x3 x4 x5 x6 hx => ?_)
  obtain ⟨r1, s1, p1, L, c1, hx, h1, h2⟩ := hx
  cases hx
  refine Ok.b2 (s_write g hN hl _ _ _ _ _) (fun f8 v9 h9 => Ok.ite (fun _ => Ok.t) (fun hne => Ok.ite (fun _ => Ok.t) (fun hc => ?_)))
  have h0 := z_nn hi hne
  have h3 := z_nle hc
  have h4 := h9.2
  simp only at h4
  exact Ok.ai ⟨h0, by omega⟩ Ok.t
/-- what a text's call asks ahead of all else -/
def z_txc (b : Int) (p : Int32) (t : Nat) : Prop := 1 ≤ p.toInt ∧ p.toInt ≤ b ∧ p.toInt ≤ t
theorem s_x_named (g : GOK R C H V rc cc br zc rw sh) (hN : 100000 ≤ N) {t : Nat} (ht : t ≤ 200) (f : Nat → Int32) (n e lv ky a b c r1 r2 r3 r4 p q : Int32) : Ok (f_X_named N n e lv ky a b c f (nI t) r1 r2 r3 r4 rc cc br zc rw sh p q) (fun x => (z_txc 40 p t ∧ (0 ≤ q.toInt ∧ q.toInt ≤ 1) ∧ x.2.2.2.2.2.2.2.2.1 = nI 0) ∨ (¬ (z_txc 40 p t ∧ (0 ≤ q.toInt ∧ q.toInt ≤ 1)) ∧ x.2.2.2.2.2.2.2.2.1 = nI t)) := by
  unfold f_X_named
  refine Ok.b1 (s_isFrom p _ _) (fun v1 h1 => Ok.ite (fun n1 => Ok.ret (Or.inr ⟨fun z => z_if0 h1 n1 ⟨z.1.1, z.1.2.1⟩, rfl⟩)) (fun n1 => Ok.b1 (s_isFrom q _ _) (fun v2 h2 => Ok.ite (fun n2 => Ok.ret (Or.inr ⟨fun z => z_if0 h2 n2 z.2, rfl⟩)) (fun n2 => Ok.ite (fun h3 => ?_) (fun h3 => Ok.ret (Or.inr ⟨fun z => h3 (z_le.mpr (by rw [nI_toInt (by omega)]; exact z.1.2.2)), rfl⟩))))))
  have h3' := z_le.mp h3
  rw [nI_toInt (by omega)] at h3'
  have hc : z_txc 40 p t := ⟨(z_if1 h1 n1).1, (z_if1 h1 n1).2, h3'⟩
  have hq : 0 ≤ q.toInt ∧ q.toInt ≤ 1 := z_if1 h2 n2
  refine Ok.b8 (s_read g hN ht f _ _ _ _ _ _ _ _ _) (fun v3 v4 v5 v6 v7 v8 v9 v10 _ => Ok.b4 (s_countText _ _ _ _ _ _ _) (fun _ _ _ _ _ => Ok.ite (fun _ => ?_) (fun _ => Ok.ite (fun _ => Ok.ret (Or.inl ⟨hc, hq, rfl⟩)) (fun _ => Ok.ret (Or.inl ⟨hc, hq, rfl⟩)))))
  unfold f_NameReader_told
  rw [q_b1_s]
  exact Ok.ret (Or.inl ⟨hc, hq, rfl⟩)
theorem s_x_parent (g : GOK R C H V rc cc br zc rw sh) (hN : 100000 ≤ N) (p q t : Int32) : Ok (f_X_parent N br zc rw sh p q t) (fun _ => True) := by
  unfold f_X_parent
  refine Ok.b1 (s_hasSheet g p q) (fun v1 h1 => Ok.ite (fun _ => Ok.t) (fun n1 => Ok.b1 (s_isFrom t 0 p) (fun v2 h2 => Ok.ite (fun _ => Ok.t) (fun n2 => ?_))))
  obtain ⟨l, k, hl, rfl, rfl, hk⟩ := h1 n1
  have ht := z_if1 h2 n2
  rw [nI_toInt (by omega), show (0 : Int32).toInt = 0 from rfl] at ht
  obtain ⟨j, j1, rfl, j3⟩ := z_nat ht.1
  exact Ok.b1 (s_keyAbove g hN hl (t := j) (by omega) _) (fun _ _ => Ok.t)
theorem s_x_piece (sl sk sy : Nat → Int32) {m : Nat} (hm : m ≤ 60) (p q : Int32) : Ok (f_X_piece sl sk sy (nI m) p q) (fun _ => True) := by
  unfold f_X_piece
  refine Ok.ite (fun _ => Ok.t) (fun h0 => Ok.b1 (s_isFrom q _ _) (fun _ _ => Ok.ite (fun _ => Ok.t) (fun _ => Ok.ite (fun h1 => ?_) (fun _ => Ok.t))))
  have a := z_lt.mp h1
  rw [nI_toInt (by omega)] at a
  have b : ¬ p.toInt < (0 : Int32).toInt := fun z => h0 (z_lt.mpr z)
  rw [show (0 : Int32).toInt = 0 from rfl] at b
  have hi : z_in 60 p := ⟨by omega, by omega⟩
  (repeat' first | exact Ok.t | with_reducible refine Ok.ite (fun _ => ?_) (fun _ => ?_) | with_reducible refine Ok.nm ?_ | with_reducible refine Ok.j0 ?_ | with_reducible refine Ok.j1 ?_ | with_reducible refine Ok.j2 ?_ | (with_reducible apply Ok.ain <;> try first | assumption | decide) | (with_reducible apply Ok.asn <;> try first | assumption | decide) | (with_reducible apply Ok.ai <;> try first | assumption | decide) | (with_reducible apply Ok.as <;> try first | assumption | decide))
theorem s_x_renew (hN : 100000 ≤ N) (sl sy : Nat → Int32) {m : Nat} (hm : m ≤ 60) (p q : Int32) : Ok (f_X_renew N sl sy (nI m) p q) (fun _ => True) := by
  have L : ∀ n i (a : Int32) (f : Nat → Int32), i ≤ m → m - i < n → Ok (f_X_renew_L27 p q sl (nI m) n a (nI i) f) (fun _ => True) := by
    intro n
    induction n with
    | zero => intro i a f _ h; omega
    | succ n ih =>
      intro i a f hi hn
      rw [f_X_renew_L27]
      refine Ok.ite (fun _ => Ok.t) (fun hc => ?_)
      rw [nI_leI (by omega) (by omega)] at hc
      have hx := fun v f => ih (i + 1) v f (by omega) (by omega)
      rw [← nI_1] at hx
      have hi6 : i < 60 := by omega
      refine Ok.ain hi6 (by decide) (Ok.k2 (fun _ _ => True) (fun _ => True) (fun v f _ => Ok.nm (hx v f)) (fun K hK => Ok.ite (fun _ => Ok.ain hi6 (by decide) (Ok.ite (fun _ => hK _ _ trivial) (fun _ => Ok.asn hi6 (by decide) (Ok.nm (hK _ _ trivial))))) (fun _ => hK _ _ trivial)))
  unfold f_X_renew
  refine Ok.b1 (s_isLevel p) (fun _ _ => Ok.ite (fun _ => Ok.t) (fun _ => Ok.b1 (s_isFrom q _ _) (fun _ _ => Ok.ite (fun _ => Ok.t) (fun _ => Ok.nm (Ok.nm (Ok.b2 (L N 0 0 sy (by omega) (by omega)) (fun _ _ _ => Ok.t)))))))
theorem s_x_shown (g : GOK R C H V rc cc br zc rw sh) (hN : 100000 ≤ N) {sl sk sy : Nat → Int32} {m : Nat} (hs : z_st sl m) (kt : Nat → Int32) (a b c p q w : Int32) : Ok (f_X_shown N sl sk sy kt (nI m) a b c br zc rw sh p q w) (fun _ => True) := by
  unfold f_X_shown
  refine Ok.b1 (s_isPlace p q) (fun _ _ => Ok.ite (fun _ => Ok.t) (fun _ => Ok.b1 (s_isFrom w _ _) (fun _ _ => Ok.ite (fun _ => Ok.t) (fun _ => Ok.b4 (s_lookAt g hN hs kt _ _ _ _ _) (fun _ _ _ _ _ => ?_)))))
  (repeat' first | exact Ok.t | with_reducible refine Ok.ite (fun _ => ?_) (fun _ => ?_) | with_reducible refine Ok.nm ?_ | with_reducible refine Ok.j0 ?_ | with_reducible refine Ok.j1 ?_ | with_reducible refine Ok.j2 ?_ | (with_reducible apply Ok.ain <;> try first | assumption | decide) | (with_reducible apply Ok.asn <;> try first | assumption | decide) | (with_reducible apply Ok.ai <;> try first | assumption | decide) | (with_reducible apply Ok.as <;> try first | assumption | decide))
theorem s_x_side (g : GOK R C H V rc cc br zc rw sh) (hN : 100000 ≤ N) (f m : Nat → Int32) (a1 a2 a3 a4 a5 a6 p q r : Int32) : Ok (f_X_side N f m a1 a2 a3 a4 a5 a6 br zc rw sh p q r) (fun _ => True) := by
  unfold f_X_side
  refine Ok.b1 (s_areSheets g p q r) (fun v1 h1 => Ok.ite (fun _ => Ok.t) (fun n1 => Ok.ite (fun _ => Ok.t) (fun _ => ?_)))
  obtain ⟨⟨l, k, hl, rfl, rfl, hk⟩, -⟩ := h1 n1
  refine Ok.b6 (s_put g hN hl hk _ _ _ _ _ _) (fun x1 x2 x3 x4 x5 x6 hx => ?_)
  obtain ⟨r1, p1, hx, h1, h2⟩ := hx
  cases hx
  refine Ok.b2 (s_lookAround g hl h1 h2 f m) (fun f9 f10 _ => Ok.nm ?_)
  have L : ∀ (x2 x3 x4 x5 x6 x7 : Int32) n i, i ≤ 4 → 4 - i < n → Ok (f_X_side_L36 f9 f10 r x2 x3 x4 x5 x6 x7 n (nI i)) (fun _ => True) := by
    intro x2 x3 x4 x5 x6 x7 n
    induction n with
    | zero => intro i _ h; omega
    | succ n ih =>
      intro i hi hn
      rw [f_X_side_L36]
      refine Ok.ite (fun _ => Ok.t) (fun hc => ?_)
      rw [z_i 3, nI_ltI (by omega) (by omega)] at hc
      have hx := ih (i + 1) (by omega) (by omega)
      rw [← nI_1] at hx
      have hi4 : i < 4 := by omega
      exact Ok.ain hi4 (by decide) (Ok.k0 (fun _ => True) (Ok.nm hx) (fun K hK => Ok.ite (fun _ => hK) (fun _ => Ok.ain hi4 (by decide) (Ok.ain hi4 (by decide) (Ok.ite (fun _ => hK) (fun _ => Ok.t))))))
  exact Ok.s0 (L _ _ _ _ _ _ N 0 (by omega) (by omega)) (fun _ => Ok.t) (fun _ _ => trivial)
theorem s_x_tidy (g : GOK R C H V rc cc br zc rw sh) (hN : 100000 ≤ N) {sl sk sy : Nat → Int32} {m : Nat} (hs : z_st sl m) : Ok (f_X_tidy N sl sk sy (nI m) br zc rw sh) (fun x => ∃ m', x.2.2.2.2 = nI m' ∧ z_st x.2.1 m') := by
  -- the counter is i - 1
  have L : ∀ n i (a : Int32) (f1 f2 f3 : Nat → Int32) m, i ≤ m → i + 1 ≤ n → z_st f1 m → Ok (f_X_tidy_L12 N br rw sh zc n a (nI i - 1) f1 f2 f3 (nI m)) (fun x => ∃ m', x.2.2.2.2 = nI m' ∧ z_st x.2.1 m') := by
    intro n
    induction n with
    | zero => intro i a f1 f2 f3 m _ h; omega
    | succ n ih =>
      intro i a f1 f2 f3 m hi hn hs
      have hm := hs.1
      rw [f_X_tidy_L12]
      refine Ok.ite (fun _ => Ok.ret ⟨m, rfl, hs⟩) (fun hc => ?_)
      rcases Nat.eq_zero_or_pos i with h | h
      · subst h; exact absurd (by decide) hc
      · rw [z_sub1 h]
        refine Ok.b1 (s_isNeedless g hN hs (p := i - 1) (by omega)) (fun v14 _ => ?_)
        refine Ok.k5 (fun _ f1 _ _ v => ∃ m', v = nI m' ∧ i - 1 ≤ m' ∧ z_st f1 m') (fun x => ∃ m', x.2.2.2.2 = nI m' ∧ z_st x.2.1 m') (fun v f1 f2 f3 w hw => ?_) (fun K hK => Ok.ite (fun _ => hK _ _ _ _ _ ⟨m, rfl, by omega, hs⟩) (fun _ => Ok.b4 (s_remove hN hs (i := i - 1) (by omega)) (fun f6 f7 f8 v9 h => Ok.nm (hK _ _ _ _ _ ⟨m - 1, h.1, by omega, h.2⟩))))
        obtain ⟨m', rfl, h1, h2⟩ := hw
        refine Ok.nm ?_
        rw [Int32.add_neg_eq_sub]
        exact ih (i - 1) _ _ _ _ m' h1 (by omega) h2
  have hm := hs.1
  unfold f_X_tidy
  exact Ok.nm (Ok.nm (Ok.b5 (L N m 0 sl sk sy m (Nat.le_refl m) (by omega) hs) (fun _ _ _ _ _ h => Ok.ret h)))
theorem s_x_wider (g : GOK R C H V rc cc br zc rw sh) (hN : 100000 ≤ N) (p q r : Int32) : Ok (f_X_wider N br zc rw sh p q r) (fun _ => True) := by
  unfold f_X_wider
  refine Ok.b1 (s_areSheets g p q r) (fun v1 h1 => Ok.ite (fun _ => Ok.t) (fun n1 => ?_))
  obtain ⟨⟨l, k, hl, rfl, rfl, hk⟩, -⟩ := h1 n1
  exact Ok.b1 (s_rowOfKey g hN hl _) (fun _ _ => Ok.b1 (s_rowLength g hl _) (fun _ _ => Ok.b1 (s_rowOfKey g hN hl _) (fun _ _ => Ok.b1 (s_rowLength g hl _) (fun _ _ => Ok.b1 (s_cmp _ _) (fun _ _ => Ok.t)))))
theorem s_x_years (hN : 100000 ≤ N) (sy : Nat → Int32) {m : Nat} (hm : m ≤ 60) (p q w : Int32) : Ok (f_X_years N sy (nI m) p q w) (fun _ => True) := by
  have L : ∀ n i (a b c : Int32), i ≤ m → m - i < n → Ok (f_X_years_L47 p q (nI m) sy n a b c (nI i)) (fun _ => True) := by
    intro n
    induction n with
    | zero => intro i a b c _ h; omega
    | succ n ih =>
      intro i a b c hi hn
      rw [f_X_years_L47]
      refine Ok.ite (fun _ => Ok.t) (fun hc => ?_)
      rw [nI_leI (by omega) (by omega)] at hc
      have hx := fun a b c => ih (i + 1) a b c (by omega) (by omega)
      rw [← nI_1] at hx
      have hi6 : i < 60 := by omega
      refine Ok.ain hi6 (by decide) (Ok.b1 (s_isFrom _ _ _) (fun _ _ => Ok.k3 (fun _ _ _ => True) (fun _ => True) (fun a b c _ => Ok.nm (hx a b c)) (fun K hK => Ok.ite (fun _ => hK _ _ _ trivial) (fun _ => Ok.nm (Ok.nm (Ok.nm (hK _ _ _ trivial)))))))
  unfold f_X_years
  refine Ok.b1 (s_isFrom p _ _) (fun _ _ => Ok.ite (fun _ => Ok.t) (fun _ => Ok.b1 (s_isFrom q _ _) (fun _ _ => Ok.ite (fun _ => Ok.t) (fun _ => Ok.b1 (s_isFrom w _ _) (fun _ _ => Ok.ite (fun _ => Ok.t) (fun _ => Ok.nm (Ok.nm (Ok.nm (Ok.nm (Ok.b3 (L N 0 _ _ _ (by omega) (by omega)) (fun _ _ _ _ => ?_)))))))))))
  (repeat' first | exact Ok.t | with_reducible refine Ok.ite (fun _ => ?_) (fun _ => ?_) | with_reducible refine Ok.nm ?_ | with_reducible refine Ok.j0 ?_ | with_reducible refine Ok.j1 ?_ | with_reducible refine Ok.j2 ?_ | (with_reducible apply Ok.ain <;> try first | assumption | decide) | (with_reducible apply Ok.asn <;> try first | assumption | decide) | (with_reducible apply Ok.ai <;> try first | assumption | decide) | (with_reducible apply Ok.as <;> try first | assumption | decide))
theorem s_x_feed {n : Nat} (hN : N = n + 5) (f : Nat → Int32) {t : Nat} (ht : t ≤ 200) (a b c d e : Int32) : Ok (f_X_feed N f (nI t) a b c d e) (fun x => x.1 = (if t ≤ 180 then nI (t + 20) else -1) ∧ x.2.2 = (if t ≤ 180 then nI (t + 20) else nI t)) := by
  subst hN
  unfold f_X_feed
  rw [z_i 20, nI_add, z_i 200]
  refine Ok.ite (fun h => ?_) (fun h => ?_)
  all_goals rw [nI_leI (by omega) (by omega)] at h
  rotate_left
  · exact Ok.ret ⟨by rw [if_neg (by omega)], by rw [if_neg (by omega)]⟩
  obtain ⟨f1, h1⟩ := k_tpAdd (n := n) a f (t := t) (by omega)
  obtain ⟨f2, h2⟩ := k_tpAdd (n := n) b f1 (t := t + 4) (by omega)
  obtain ⟨f3, h3⟩ := k_tpAdd (n := n) c f2 (t := t + 4 + 4) (by omega)
  obtain ⟨f4, h4⟩ := k_tpAdd (n := n) d f3 (t := t + 4 + 4 + 4) (by omega)
  obtain ⟨f5, h5⟩ := k_tpAdd (n := n) e f4 (t := t + 4 + 4 + 4 + 4) (by omega)
  rw [h1, q_b2_s, h2, q_b2_s, h3, q_b2_s, h4, q_b2_s, h5, q_b2_s]
  exact Ok.ret ⟨by rw [if_pos (by omega)], by rw [if_pos (by omega)]⟩
theorem s_x_jog (g : GOK R C H V rc cc br zc rw sh) (hN : 100000 ≤ N) (a1 a2 a3 a4 a5 a6 p q w : Int32) : Ok (f_X_jog N a1 a2 a3 a4 a5 a6 br zc rw sh p q w) (fun _ => True) := by
  unfold f_X_jog
  refine Ok.b1 (s_hasSheet g p q) (fun v1 h1 => Ok.ite (fun _ => Ok.t) (fun n1 => ?_))
  obtain ⟨l, k, hl, rfl, rfl, hk⟩ := h1 n1
  refine Ok.k0 (fun _ => True) ?_ (fun K hK => Ok.ite (fun _ => hK) (fun _ => Ok.ite (fun _ => hK) (fun _ => Ok.t)))
  refine Ok.b6 (s_putA g hN hl _ _ _ _ _ _ _) (fun x1 x2 x3 x4 x5 x6 hx => ?_)
  refine Ok.k1 (fun _ => True) (fun _ => True) (fun v8 _ => Ok.ain hl (by decide) (Ok.b1 (s_isFrom _ _ _) (fun _ _ => Ok.ite (fun _ => Ok.t) (fun _ => Ok.b1 (s_rowLength g hl _) (fun _ _ => Ok.ite (fun _ => Ok.t) (fun _ => Ok.t)))))) (fun K hK => Ok.ite (fun _ => hK _ trivial) (fun _ => hK _ trivial))
theorem s_x_oldest (hN : 100000 ≤ N) (sl sk sy : Nat → Int32) {m : Nat} (hm : m ≤ 60) (p q : Int32) : Ok (f_X_oldest N sl sk sy (nI m) p q) (fun _ => True) := by
  have L : ∀ n i (a b : Int32), i ≤ m → m - i < n → (a = -1 ∨ ∃ j, j < 60 ∧ a = nI j) → Ok (f_X_oldest_L26 p sl (nI m) sy n a b (nI i)) (fun x => x.1 = -1 ∨ ∃ j, j < 60 ∧ x.1 = nI j) := by
    intro n
    induction n with
    | zero => intro i a b _ h; omega
    | succ n ih =>
      intro i a b hi hn ha
      rw [f_X_oldest_L26]
      refine Ok.ite (fun _ => Ok.ret ha) (fun hc => ?_)
      rw [nI_leI (by omega) (by omega)] at hc
      have hx := fun a b h => ih (i + 1) a b (by omega) (by omega) h
      rw [← nI_1] at hx
      have hi6 : i < 60 := by omega
      refine Ok.ain hi6 (by decide) (Ok.k2 (fun a _ => a = -1 ∨ ∃ j, j < 60 ∧ a = nI j) (fun x => x.1 = -1 ∨ ∃ j, j < 60 ∧ x.1 = nI j) (fun a b h => Ok.nm (hx a b h)) (fun K hK => Ok.ite (fun _ => ?_) (fun _ => hK _ _ ha)))
      refine Ok.k2 (fun a _ => ∃ j, j < 60 ∧ a = nI j) (fun x => x.1 = -1 ∨ ∃ j, j < 60 ∧ x.1 = nI j) (fun a b h => ?_) (fun K2 hK2 => ?_)
      · obtain ⟨j, hj, rfl⟩ := h
        exact Ok.ain hi6 (by decide) (Ok.ain hj (by decide) (Ok.ite (fun _ => Ok.nm (hK _ _ (Or.inr ⟨j, hj, rfl⟩))) (fun _ => hK _ _ (Or.inr ⟨j, hj, rfl⟩))))
      · refine Ok.k0 (fun x => x.1 = -1 ∨ ∃ j, j < 60 ∧ x.1 = nI j) (Ok.nm (hK2 _ _ ⟨i, hi6, rfl⟩)) (fun K3 hK3 => Ok.ite (fun _ => hK3) (fun hne => ?_))
        rcases ha with h | ⟨j, hj, rfl⟩
        · exact absurd h hne
        · exact Ok.ain hi6 (by decide) (Ok.ain hj (by decide) (Ok.ite (fun _ => hK2 _ _ ⟨j, hj, rfl⟩) (fun _ => hK3)))
  unfold f_X_oldest
  refine Ok.b1 (s_isLevel p) (fun _ _ => Ok.ite (fun _ => Ok.t) (fun _ => Ok.b1 (s_isFrom q _ _) (fun _ _ => Ok.ite (fun _ => Ok.t) (fun _ => Ok.nm (Ok.nm (Ok.nm (Ok.b2 (L N 0 _ _ (by omega) (by omega) (Or.inl rfl)) (fun v9 v10 h9 => Ok.ite (fun _ => Ok.t) (fun hne => ?_)))))))))
  rcases h9 with h | ⟨j, hj, h⟩
  · exact absurd h hne
  · simp only at h
    subst h
    (repeat' first | exact Ok.t | with_reducible refine Ok.ite (fun _ => ?_) (fun _ => ?_) | with_reducible refine Ok.nm ?_ | with_reducible refine Ok.j0 ?_ | with_reducible refine Ok.j1 ?_ | with_reducible refine Ok.j2 ?_ | (with_reducible apply Ok.ain <;> try first | assumption | decide) | (with_reducible apply Ok.asn <;> try first | assumption | decide) | (with_reducible apply Ok.ai <;> try first | assumption | decide) | (with_reducible apply Ok.as <;> try first | assumption | decide))
end SY
end
section
/-! the class's own methods, the last: walks, questions, kept, cut, drawn, edge, lacks -/
section SZ
variable {R C H V : Nat → Nat} {rc cc br zc rw sh : Nat → Int32} {N l : Nat}
theorem s_isLacking (g : GOK R C H V rc cc br zc rw sh) (hN : 100000 ≤ N) (hl : l < 5) {sl sk sy : Nat → Int32} {m : Nat} (hs : z_st sl m) (a1 a2 a3 a4 a5 a6 : Int32) (kt : Nat → Int32) (a b c k y : Int32) : Ok (f_X_isLacking N a1 a2 a3 a4 a5 a6 sl sk sy kt (nI m) a b c br zc rw sh (nI l) k y) (fun _ => True) := by
  unfold f_X_isLacking
  refine Ok.b6 (s_putA g hN hl _ _ _ _ _ _ _) (fun x1 x2 x3 x4 x5 x6 hx => ?_)
  obtain ⟨r1, s1, p1, L, c1, hx, h1, h2⟩ := hx
  cases hx
  refine Ok.b1 (s_middleLat g hl h1 h2 _ _ _) (fun _ _ => Ok.b1 (s_middleLon g hl h1 h2 _ _ _) (fun _ _ => Ok.b4 (s_lookAt g hN hs kt _ _ _ _ _) (fun _ _ _ _ _ => ?_)))
  (repeat' first | exact Ok.t | with_reducible refine Ok.ite (fun _ => ?_) (fun _ => ?_) | with_reducible refine Ok.nm ?_ | with_reducible refine Ok.j0 ?_ | with_reducible refine Ok.j1 ?_ | with_reducible refine Ok.j2 ?_ | (with_reducible apply Ok.ain <;> try first | assumption | decide) | (with_reducible apply Ok.asn <;> try first | assumption | decide) | (with_reducible apply Ok.ai <;> try first | assumption | decide) | (with_reducible apply Ok.as <;> try first | assumption | decide))
theorem s_lacks_L117 (g : GOK R C H V rc cc br zc rw sh) (hN : 100000 ≤ N) (hl : l < 5) {sl sk sy : Nat → Int32} {m : Nat} (hs : z_st sl m) (y i r M b1 b2 b3 b4 : Int32) : ∀ (n : Nat) (v1 v2 a1 a2 a3 a4 a5 a6 : Int32) (kt : Nat → Int32) (a b c : Int32), (M.toInt - v2.toInt).toNat < n → Ok (f_X_lacks_L117 N br rw sh zc (nI l) y i sk sl (nI m) sy r M b1 b2 b3 b4 n v1 v2 a1 a2 a3 a4 a5 a6 kt a b c) (fun _ => True) := by
  intro n
  induction n with
  | zero => intro v1 v2 a1 a2 a3 a4 a5 a6 kt a b c h; omega
  | succ n ih =>
    intro v1 v2 a1 a2 a3 a4 a5 a6 kt a b c h
    rw [f_X_lacks_L117]
    refine Ok.ite (fun _ => Ok.t) (fun hc => Ok.b1 (s_keyFromWest g hl _ _ _) (fun _ _ => Ok.b11 (s_isLacking g hN hl hs _ _ _ _ _ _ _ _ _ _ _ _) (fun _ _ _ _ _ _ _ _ _ _ _ _ => ?_)))
    exact Ok.k1 (fun _ => True) (fun _ => True) (fun v _ => Ok.nm (ih _ _ _ _ _ _ _ _ _ _ _ _ (z_upm hc h))) (fun K hK => Ok.ite (fun _ => hK _ trivial) (fun _ => Ok.ite (fun _ => Ok.t) (fun _ => Ok.nm (hK _ trivial))))
theorem s_lacks_L94 (g : GOK R C H V rc cc br zc rw sh) (hN : 1000000 ≤ N) (hl : l < 5) {sl sk sy : Nat → Int32} {m : Nat} (hs : z_st sl m) (y i B b1 b2 : Int32) (hB : B.toInt ≤ 413161) {w e : Nat} (hw : w < 1296000) (he : e < 1296000) : ∀ (n : Nat) (v1 v2 a1 a2 a3 a4 a5 a6 : Int32) (kt : Nat → Int32) (a b c : Int32), (B.toInt + 1 - v2.toInt).toNat < n → Ok (f_X_lacks_L94 N br rw sh zc (nI l) y i sk sl (nI m) sy B b1 b2 (nI w) (nI e) n v1 v2 a1 a2 a3 a4 a5 a6 kt a b c) (fun _ => True) := by
  intro n
  induction n with
  | zero => intro v1 v2 a1 a2 a3 a4 a5 a6 kt a b c h; omega
  | succ n ih =>
    intro v1 v2 a1 a2 a3 a4 a5 a6 kt a b c h
    rw [f_X_lacks_L94]
    refine Ok.ite (fun _ => Ok.t) (fun hc => Ok.b1 (s_inRowB g hl hw he v2) (fun M hM => Ok.nm ?_))
    refine Ok.s11 (s_lacks_L117 g (by omega) hl hs y i v2 M b1 b2 _ _ N v1 0 _ _ _ _ _ _ _ _ _ _ ?_) (fun _ _ _ _ _ _ _ _ _ _ _ _ => Ok.nm (ih _ _ _ _ _ _ _ _ _ _ _ _ (z_upm2 hB (by omega) hc h))) (fun _ _ => trivial)
    rw [show (0 : Int32).toInt = 0 from rfl]; omega
theorem s_x_lacks (g : GOK R C H V rc cc br zc rw sh) (hN : 1000000 ≤ N) {sl sk sy : Nat → Int32} {m : Nat} (hs : z_st sl m) (a1 a2 a3 a4 a5 a6 b1 b2 b3 b4 : Int32) (kt : Nat → Int32) (a b c p1 p2 p3 p4 p5 p6 p7 : Int32) : Ok (f_X_lacks N a1 a2 a3 a4 a5 a6 b1 b2 b3 b4 sl sk sy kt (nI m) a b c br zc rw sh p1 p2 p3 p4 p5 p6 p7) (fun _ => True) := by
  unfold f_X_lacks
  refine Ok.b1 (s_isBox p1 p2 p3 p4) (fun v1 h1 => Ok.ite (fun _ => Ok.t) (fun n1 => Ok.b1 (s_isLevel p5) (fun v2 h2 => Ok.ite (fun _ => Ok.t) (fun n2 => Ok.b1 (s_isFrom p6 _ _) (fun _ _ => Ok.ite (fun _ => Ok.t) (fun _ => Ok.ite (fun _ => ?_) (fun _ => Ok.t)))))))
  obtain ⟨l, hl, rfl⟩ := h2 n2
  obtain ⟨⟨w, hw, rfl⟩, ⟨e, he, rfl⟩⟩ := h1 n1
  have hv := g.2.hv hl
  unfold f_Box_set
  rw [q_b4_s]
  refine Ok.b1 (s_sheetsAt g (by omega) hl _ _ _ _) (fun v8 _ => Ok.ite (fun _ => Ok.nm ?_) (fun _ => Ok.t))
  refine Ok.b1 (s_bottomRow g hl p1) (fun v10 h10 => Ok.b1 (s_topRow g hl p2) (fun v11 h11 => ?_))
  obtain ⟨x, rfl, hx⟩ := h10
  obtain ⟨z, rfl, hz⟩ := h11
  have ea : (nI x).toInt = (x : Int) := nI_toInt (by omega)
  have eb : (nI z).toInt = (z : Int) := nI_toInt (by omega)
  exact Ok.s11 (s_lacks_L94 g hN hl hs p6 p7 (nI x) p1 p2 (by omega) hw he N 0 (nI z) _ _ _ _ _ _ _ _ _ _ (by omega)) (fun _ _ _ _ _ _ _ _ _ _ _ _ => Ok.ite (fun _ => Ok.t) (fun _ => Ok.t)) (fun _ _ => trivial)
theorem z_lcmpge {x : Int64} (h : 0 ≤ lg_cmp x 1) : x ≠ 0 := by
  intro e
  rw [e] at h
  exact absurd h (by decide)
theorem s_commonDivisor (hN : 100000 ≤ N) (x y : Int64) : Ok (f_X_commonDivisor N x y) (fun _ => True) := by
  have L : ∀ n i (a b : Int64), i ≤ 200 → 200 - i < n → Ok (f_X_commonDivisor_L9 n a b (nI i)) (fun _ => True) := by
    intro n
    induction n with
    | zero => intro i a b _ h; omega
    | succ n ih =>
      intro i a b hi hn
      rw [f_X_commonDivisor_L9]
      refine Ok.ite (fun _ => Ok.t) (fun hc => Ok.ite (fun _ => Ok.t) (fun h0 => ?_))
      rw [z_i 200, nI_leI (by omega) (by omega)] at hc
      refine Ok.rml (fun e => h0 (z_lcmpE.mpr e)) (Ok.nm ?_)
      rw [nI_1]; exact ih (i + 1) _ _ (by omega) (by omega)
  unfold f_X_commonDivisor
  exact Ok.nm (Ok.b1 (L N 0 x y (by omega) (by omega)) (fun _ _ => Ok.t))
theorem s_x_edge (g : GOK R C H V rc cc br zc rw sh) (hN : 100000 ≤ N) (a1 a2 a3 a4 a5 a6 p q w : Int32) : Ok (f_X_edge N a1 a2 a3 a4 a5 a6 br zc rw sh p q w) (fun _ => True) := by
  unfold f_X_edge
  refine Ok.b1 (s_hasSheet g p q) (fun v1 h1 => Ok.ite (fun _ => Ok.t) (fun n1 => Ok.b1 (s_isFrom w _ _) (fun _ _ => Ok.ite (fun _ => Ok.t) (fun _ => ?_))))
  obtain ⟨l, k, hl, rfl, rfl, hk⟩ := h1 n1
  refine Ok.b6 (s_putA g hN hl _ _ _ _ _ _ _) (fun x1 x2 x3 x4 x5 x6 hx => ?_)
  obtain ⟨r1, s1, p1, L, c1, hx, h1, h2⟩ := hx
  cases hx
  refine Ok.dv (by decide) (Ok.b1 (s_edgeTop hl _ _ _ _) (fun _ _ => Ok.dv (by decide) (Ok.b1 (s_edgeBottom g hl h1 h2 _ _) (fun _ _ => Ok.nm (Ok.b1 (s_commonDivisor hN _ _) (fun v14 _ => Ok.ite (fun h => ?_) (fun _ => Ok.t)))))))
  exact Ok.rm (by decide) (Ok.ite (fun _ => Ok.dvl (z_lcmpge h) Ok.t) (fun _ => Ok.dvl (z_lcmpge h) Ok.t))
theorem s_isSeen (hN : 100000 ≤ N) (f : Nat → Int32) (k m : Int32) : Ok (f_X_isSeen N f k m) (fun _ => True) := by
  have L : ∀ n i, i ≤ 200 → 200 - i < n → Ok (f_X_isSeen_L2 k m f n (nI i)) (fun _ => True) := by
    intro n
    induction n with
    | zero => intro i _ h; omega
    | succ n ih =>
      intro i hi hn
      rw [f_X_isSeen_L2]
      refine Ok.ite (fun _ => Ok.t) (fun _ => Ok.ite (fun _ => Ok.t) (fun hc => ?_))
      rw [z_i 200, nI_leI (by omega) (by omega)] at hc
      refine Ok.ain (by omega) (by decide) (Ok.ite (fun _ => Ok.t) (fun _ => Ok.nm ?_))
      rw [nI_1]; exact ih (i + 1) (by omega) (by omega)
  unfold f_X_isSeen
  exact Ok.nm (Ok.s0 (L N 0 (by omega) (by omega)) (fun _ => Ok.t) (fun _ _ => trivial))
theorem s_x_drawn (g : GOK R C H V rc cc br zc rw sh) (hN : 100000 ≤ N) (f : Nat → Int32) (p q r : Int32) : Ok (f_X_drawn N f br zc rw sh p q r) (fun _ => True) := by
  unfold f_X_drawn
  refine Ok.b1 (s_isFrom q _ _) (fun v1 h1 => Ok.ite (fun _ => Ok.t) (fun n1 => Ok.b1 (s_isLevel r) (fun v2 h2 => Ok.ite (fun _ => Ok.t) (fun n2 => Ok.nm (Ok.nm (Ok.nm ?_))))))
  obtain ⟨l, hl, rfl⟩ := h2 n2
  have hq := z_if1 h1 n1
  rw [show (1 : Int32).toInt = 1 from rfl, show (200 : Int32).toInt = 200 from rfl] at hq
  obtain ⟨m, m1, rfl, m3⟩ := z_nat (r := q) (by omega)
  have L : ∀ n i j (x : Int32) (f : Nat → Int32), i ≤ m → m - i < n → j ≤ 200 → Ok (f_X_drawn_L33 N br rw sh zc (nI m) (nI l) n x (nI j) (nI i) f) (fun _ => True) := by
    intro n
    induction n with
    | zero => intro i j x f _ h; omega
    | succ n ih =>
      intro i j x f hi hn hj
      rw [f_X_drawn_L33]
      refine Ok.ite (fun _ => Ok.t) (fun hc => ?_)
      rw [nI_leI (by omega) (by omega)] at hc
      have hx := fun j x f hj => ih (i + 1) j x f (by omega) (by omega) hj
      rw [← nI_1] at hx
      unfold f_X_nextDraw
      rw [q_b1_s]
      refine Ok.dv (by decide) (Ok.rm (by decide) (Ok.nm ?_))
      rw [q_b1_s]
      refine Ok.dv (by decide) (Ok.rm (by decide) (Ok.nm (Ok.b1 (s_keyOf g hl _ _) (fun _ _ => Ok.b1 (s_isSeen hN _ _ _) (fun _ _ => ?_)))))
      refine Ok.k2 (fun v _ => ∃ j, j ≤ 200 ∧ v = nI j) (fun _ => True) (fun v f h => ?_) (fun K hK => Ok.ite (fun _ => Ok.ite (fun _ => hK _ _ ⟨j, hj, rfl⟩) (fun h2 => ?_)) (fun _ => hK _ _ ⟨j, hj, rfl⟩))
      · obtain ⟨j, hj, rfl⟩ := h
        exact Ok.nm (hx j _ f hj)
      · rw [z_i 200, nI_leI (by omega) (by omega)] at h2
        exact Ok.asn (by omega) (by decide) (Ok.nm (hK _ _ ⟨j + 1, by omega, nI_1 j⟩))
  exact Ok.b2 (L N 0 0 _ f (by omega) (by omega) (by omega)) (fun _ _ _ => Ok.t)
/-! kept -/
theorem s_x_keep (g : GOK R C H V rc cc br zc rw sh) (hN : 100000 ≤ N) {k : Nat} (hk : k < 8) {sl sk sy : Nat → Int32} {m : Nat} (hs : z_st sl m) (a1 a2 a3 a4 : Int32) (c1 c2 c3 c4 : Int32) (sl2 sk2 sy2 : Nat → Int32) (ss2 : Int32) (rc2 cc2 br2 zc2 rw2 sh2 : Nat → Int32) : Ok (f_X_keep N k (nI k) a1 a2 a3 a4 sl sk sy (nI m) rc cc c1 c2 c3 c4 sl2 sk2 sy2 ss2 rc2 cc2 br2 zc2 rw2 sh2) (fun x => x.1 = nI (k + 1) ∧ x.2.1 = nI (k + 1) ∧ x.2.2.2.2.2.2.2.2.2.1 = nI m ∧ z_st x.2.2.2.2.2.2.1 m ∧ z_kg R C x.2.2.2.2.2.2.2.2.2.2.1 x.2.2.2.2.2.2.2.2.2.2.2.1) := by
  unfold f_X_keep
  refine Ok.ite (fun _ => ?_) (fun h => absurd (by rw [z_i 8, nI_ltI (by omega) (by omega)]; exact hk) h)
  unfold q_kx
  rw [if_pos ⟨rfl, hk⟩]
  refine Ok.b14 (s_acopy g.kg hN hs _ _ _ _ sl2 sk2 sy2 ss2 rc2 cc2 br2 zc2 rw2 sh2 _ _ _ _ sk sy) (fun v1 v2 v3 v4 f5 f6 f7 v8 f9 f10 f11 f12 f13 f14 h => Ok.nm (Ok.ret ?_))
  exact ⟨nI_1 k, nI_1 k, h.1, h.2.1, h.2.2.kg⟩
theorem s_x_keepNo {k : Nat} (c8 : Int32) (hc : ¬ c8 < 8) (a1 a2 a3 a4 : Int32) (sl sk sy : Nat → Int32) (ss : Int32) (rc cc : Nat → Int32) (c1 c2 c3 c4 : Int32) (sl2 sk2 sy2 : Nat → Int32) (ss2 : Int32) (rc2 cc2 br2 zc2 rw2 sh2 : Nat → Int32) : f_X_keep N k c8 a1 a2 a3 a4 sl sk sy ss rc cc c1 c2 c3 c4 sl2 sk2 sy2 ss2 rc2 cc2 br2 zc2 rw2 sh2 = some ((-1), c8, c1, c2, c3, c4, sl2, sk2, sy2, ss2, rc2, cc2, br2, zc2, rw2, sh2) := by
  unfold f_X_keep
  rw [if_neg hc]
theorem s_x_undo {R2 C2 : Nat → Nat} {rc2 cc2 : Nat → Int32} (h : z_kg R2 C2 rc2 cc2) (hN : 100000 ≤ N) {k : Nat} (hk : k < 8) {sl2 sk2 sy2 : Nat → Int32} {m2 : Nat} (hs : z_st sl2 m2) (a1 a2 a3 a4 : Int32) (sl sk sy : Nat → Int32) (ss : Int32) (c1 c2 c3 c4 : Int32) : Ok (f_X_undo N k (nI (k + 1)) a1 a2 a3 a4 sl sk sy ss rc cc br zc rw sh c1 c2 c3 c4 sl2 sk2 sy2 (nI m2) rc2 cc2) (fun x => x.1 = nI k ∧ x.2.1 = nI k ∧ x.2.2.2.2.2.2.2.2.2.1 = nI m2 ∧ z_st x.2.2.2.2.2.2.1 m2 ∧ GOK R2 C2 (z_pr R2) (z_pr C2) x.2.2.2.2.2.2.2.2.2.2.1 x.2.2.2.2.2.2.2.2.2.2.2.1 x.2.2.2.2.2.2.2.2.2.2.2.2.1 x.2.2.2.2.2.2.2.2.2.2.2.2.2.1 x.2.2.2.2.2.2.2.2.2.2.2.2.2.2.1 x.2.2.2.2.2.2.2.2.2.2.2.2.2.2.2) := by
  unfold f_X_undo
  refine Ok.ite (fun _ => ?_) (fun h => absurd (by rw [z_0lt (by omega)]; omega) h)
  rw [z_nm, z_sub1 (by omega), Nat.add_sub_cancel]
  unfold q_kx
  rw [if_pos ⟨rfl, hk⟩]
  refine Ok.b14 (s_acopy h hN hs _ _ _ _ sl sk sy ss rc cc br zc rw sh _ _ _ _ sk2 sy2) (fun v1 v2 v3 v4 f5 f6 f7 v8 f9 f10 f11 f12 f13 f14 h => Ok.ret ?_)
  exact ⟨rfl, rfl, h.1, h.2.1, h.2.2⟩
end SZ
end
section
/-! walks made anew or not; questions -/
section SW
variable {R C H V : Nat → Nat} {rc cc br zc rw sh : Nat → Int32} {N l ns : Nat}
theorem k_spreadN_eq (nL : Nat) (p1 v4 : Int32) : ∀ n (v9 v10 : Int32) (a b c d : Nat → Int32) (v1 v2 v3 v5 v6 v7 : Int32), f_Walk_spreadN_L35 N br rw sh zc nL p1 v4 n v9 v10 a b c d v1 v2 v3 v5 v6 v7 = f_Walk_spread_L35 N br rw sh zc nL nL p1 v4 n v9 v10 a b c d v1 v2 v3 v5 v6 v7 := by
  intro n
  induction n with
  | zero => intros; rfl
  | succ n ih =>
    intro v9 v10 a b c d v1 v2 v3 v5 v6 v7
    rw [f_Walk_spreadN_L35, f_Walk_spread_L35]
    simp only [ih]
theorem s_spread (g : GOK R C H V rc cc br zc rw sh) (hN : 100000 ≤ N) (hl : l < 5) (ht2 : 2130 * (H l * V l) + 2 ≤ 20000) (hs : 2130 * (H l * V l) + 2 ≤ ns) (hs2 : ns < 2 ^ 31) {k : Nat} (hk : k < 2130 * (H l * V l) + 2) (a b c d : Nat → Int32) (mm v1 v2 v3 v4 v5 v6 : Int32) : Ok (f_Walk_spread N ns ns a b mm c d v1 v2 v3 v4 v5 v6 br zc rw sh (nI l) (nI k)) (fun x => x.2.2.1 = nI (2130 * (H l * V l) + 2)) := by
  obtain ⟨a', b', c', d', w1, w2, w3, w4, w5, w6, h⟩ := k_spread g hN hl ht2 hs hs hs2 hs2 hk a b c d mm v1 v2 v3 v4 v5 v6
  exact ⟨_, h, rfl⟩
theorem s_spreadN (g : GOK R C H V rc cc br zc rw sh) (hN : 100000 ≤ N) (hl : l < 5) {tot : Nat} (ht : tot = 2130 * (H l * V l) + 2) (ht2 : tot ≤ 20000) (hs : ns < tot) {k : Nat} (hk : k < tot) (a b c d : Nat → Int32) (mm v1 v2 v3 v4 v5 v6 : Int32) : Ok (f_Walk_spreadN N tot ns a b mm c d v1 v2 v3 v4 v5 v6 br zc rw sh (nI l) (nI k)) (fun x => x.2.2.1 = nI tot) := by
  obtain ⟨-, -, -, -, -, e6⟩ := g.at hl
  obtain ⟨f, hf⟩ := k_makeRoomN (N := N) (tot := tot) (ns := ns) (by omega) hs ht2 a b mm
  unfold f_Walk_spreadN
  rw [z_ai hl (by omega), e6, ← ht, hf, q_b3_s, show (0 : Int32) = nI 0 from rfl, z_as (by omega) (by omega), z_as hk (by omega), z_nm, z_nm, z_i 1]
  obtain ⟨a', b', c', d', w1, w2, w3, w4, w5, w6, h⟩ := k_spread_L (ns := tot) (nr := tot) g hN hl ht ht2 (Nat.le_refl tot) (Nat.le_refl tot) (by omega) (by omega) N 0 1 (upd f k (nI 0)) (upd (fun _ => nI 0) 0 (nI k)) c d v1 v2 v3 v4 v5 v6 (by omega) (by omega) (by omega) (by
    intro j hj
    have : j = 0 := by omega
    subst this
    exact ⟨k, hk, z_updS⟩)
  rw [k_spreadN_eq]
  exact Ok.b10 (Q := fun _ => True) ⟨_, h, trivial⟩ (fun _ _ _ _ _ _ _ _ _ _ _ => Ok.ret rfl)
theorem s_onTheWay (g : GOK R C H V rc cc br zc rw sh) (hN : 100000 ≤ N) (hl : l < 5) {tot : Nat} (ht : tot = 2130 * (H l * V l) + 2) (ht2 : tot ≤ 20000) (hs : tot ≤ ns) (hs2 : ns < 2 ^ 31) {k : Nat} (hk : k < tot) (a c d : Nat → Int32) (v1 v2 v3 v4 v5 v6 i : Int32) : Ok (f_Walk_onTheWay N ns a (nI tot) c d v1 v2 v3 v4 v5 v6 br zc rw sh (nI l) (nI k) i) (fun _ => True) := by
  unfold f_Walk_onTheWay
  rw [z_nm]
  obtain ⟨r, c', d', w1, w2, w3, w4, w5, w6, h, -⟩ := k_onTheWay_L g hN hl ht ht2 hs hs2 a i N 0 k c d v1 v2 v3 v4 v5 v6 (by omega) (by omega) hk
  exact Ok.b9 (Q := fun _ => True) ⟨_, h, trivial⟩ (fun _ _ _ _ _ _ _ _ _ _ => Ok.t)
/-- as it stands, or with rows made anew -/
def z_or (ns : Nat) (A : Prop) (B : Nat → Prop) : Prop := A ∨ ∃ nL, ns < nL ∧ nL ≤ 20000 ∧ (∃ k, nL = 2130 * k + 2) ∧ B nL
theorem s_stepsTo {k : Nat} (hk : k < ns) (hs2 : ns < 2 ^ 31) (a : Nat → Int32) : Ok (f_Walk_stepsTo ns a (nI k)) (fun _ => True) := ⟨_, k_stepsTo hk hs2 a, trivial⟩
theorem s_x_steps (g : GOK R C H V rc cc br zc rw sh) (hN : 100000 ≤ N) (hs2 : ns < 2 ^ 31) (a b : Nat → Int32) (mm : Int32) (c d : Nat → Int32) (v1 v2 v3 v4 v5 v6 p q r : Int32) : z_or ns (Ok (f_X_steps N ns ns a b mm c d v1 v2 v3 v4 v5 v6 br zc rw sh p q r) (fun _ => True)) (fun nL => Ok (f_X_stepsN N nL ns a b mm c d v1 v2 v3 v4 v5 v6 br zc rw sh p q r) (fun _ => True)) := by
  obtain ⟨x1, e1, h1⟩ := s_areSheets g p q r
  by_cases n1 : x1 = 0
  · left; unfold f_X_steps; rw [e1, q_b1_s, if_pos n1]; exact Ok.t
  obtain ⟨⟨l, k, hl, rfl, rfl, hk⟩, ⟨l2, k2, hl2, el, rfl, hk2⟩⟩ := h1 n1
  have : l = l2 := by rw [nI_eq (by omega) (by omega)] at el; exact el
  subst this
  have hsh := g.2.sh hl
  obtain ⟨-, -, -, -, -, e6⟩ := g.at hl
  by_cases ht : 2130 * (H l * V l) + 2 ≤ 20000
  · by_cases hr : 2130 * (H l * V l) + 2 ≤ ns
    · left
      unfold f_X_steps
      rw [e1, q_b1_s, if_neg n1, z_ai hl (by omega), e6]
      refine Ok.ite (fun _ => ?_) (fun _ => Ok.t)
      exact Ok.b11 (s_spread g hN hl ht hr hs2 hk a b c d mm _ _ _ _ _ _) (fun _ _ _ _ _ _ _ _ _ _ _ _ => Ok.b1 (s_stepsTo (by omega) hs2 _) (fun _ _ => Ok.t))
    · right
      refine ⟨2130 * (H l * V l) + 2, by omega, ht, ⟨_, rfl⟩, ?_⟩
      dsimp only
      unfold f_X_stepsN
      rw [e1, q_b1_s, if_neg n1, z_ai hl (by omega), e6]
      refine Ok.ite (fun _ => ?_) (fun h => absurd (by rw [z_i 20000, nI_leI (by omega) (by omega)]; exact ht) h)
      exact Ok.b11 (s_spreadN g hN hl rfl ht (by omega) hk a b c d mm _ _ _ _ _ _) (fun _ _ _ _ _ _ _ _ _ _ _ _ => Ok.b1 (s_stepsTo (by omega) (by omega) _) (fun _ _ => Ok.t))
  · left
    unfold f_X_steps
    rw [e1, q_b1_s, if_neg n1, z_ai hl (by omega), e6]
    refine Ok.ite (fun h => ?_) (fun _ => Ok.t)
    rw [z_i 20000, nI_leI (by omega) (by omega)] at h
    exact absurd h ht
theorem s_x_way (g : GOK R C H V rc cc br zc rw sh) (hN : 100000 ≤ N) (hs2 : ns < 2 ^ 31) (a b : Nat → Int32) (mm : Int32) (c d : Nat → Int32) (v1 v2 v3 v4 v5 v6 p q r i : Int32) : z_or ns (Ok (f_X_way N ns ns a b mm c d v1 v2 v3 v4 v5 v6 br zc rw sh p q r i) (fun _ => True)) (fun nL => Ok (f_X_wayN N nL ns a b mm c d v1 v2 v3 v4 v5 v6 br zc rw sh p q r i) (fun _ => True)) := by
  obtain ⟨x1, e1, h1⟩ := s_areSheets g p q r
  by_cases n1 : x1 = 0
  · left; unfold f_X_way; rw [e1, q_b1_s, if_pos n1]; exact Ok.t
  by_cases hi : ¬ 0 ≤ i
  · left; unfold f_X_way; rw [e1, q_b1_s, if_neg n1, if_neg hi]; exact Ok.t
  have hi := Decidable.not_not.mp hi
  obtain ⟨⟨l, k, hl, rfl, rfl, hk⟩, ⟨l2, k2, hl2, el, rfl, hk2⟩⟩ := h1 n1
  have : l = l2 := by rw [nI_eq (by omega) (by omega)] at el; exact el
  subst this
  have hsh := g.2.sh hl
  obtain ⟨-, -, -, -, -, e6⟩ := g.at hl
  by_cases ht : 2130 * (H l * V l) + 2 ≤ 20000
  · by_cases hr : 2130 * (H l * V l) + 2 ≤ ns
    · left
      unfold f_X_way
      rw [e1, q_b1_s, if_neg n1, if_pos hi, z_ai hl (by omega), e6]
      refine Ok.ite (fun _ => ?_) (fun _ => Ok.t)
      refine Ok.b11 (s_spread g hN hl ht hr hs2 hk2 a b c d mm _ _ _ _ _ _) (fun _ _ v5 _ _ _ _ _ _ _ _ h5 => Ok.b1 (s_stepsTo (by omega) hs2 _) (fun _ _ => Ok.ite (fun _ => ?_) (fun _ => Ok.t)))
      simp only at h5
      subst h5
      exact Ok.b9 (s_onTheWay g hN hl rfl ht hr hs2 hk _ _ _ _ _ _ _ _ _ _) (fun _ _ _ _ _ _ _ _ _ _ => Ok.t)
    · right
      refine ⟨2130 * (H l * V l) + 2, by omega, ht, ⟨_, rfl⟩, ?_⟩
      dsimp only
      unfold f_X_wayN
      rw [e1, q_b1_s, if_neg n1, if_pos hi, z_ai hl (by omega), e6]
      refine Ok.ite (fun _ => ?_) (fun h => absurd (by rw [z_i 20000, nI_leI (by omega) (by omega)]; exact ht) h)
      refine Ok.b11 (s_spreadN g hN hl rfl ht (by omega) hk2 a b c d mm _ _ _ _ _ _) (fun _ _ v5 _ _ _ _ _ _ _ _ h5 => Ok.b1 (s_stepsTo (by omega) (by omega) _) (fun _ _ => Ok.ite (fun _ => ?_) (fun _ => Ok.t)))
      simp only at h5
      subst h5
      exact Ok.b9 (s_onTheWay g hN hl rfl ht (Nat.le_refl _) (by omega) hk _ _ _ _ _ _ _ _ _ _) (fun _ _ _ _ _ _ _ _ _ _ => Ok.t)
  · left
    unfold f_X_way
    rw [e1, q_b1_s, if_neg n1, if_pos hi, z_ai hl (by omega), e6]
    refine Ok.ite (fun h => ?_) (fun _ => Ok.t)
    rw [z_i 20000, nI_leI (by omega) (by omega)] at h
    exact absurd h ht
theorem s_within {tot : Nat} (hN : tot < N) (hs : tot ≤ ns) (hs2 : ns < 2 ^ 31) (p : Int32) (a : Nat → Int32) : Ok (f_Walk_within N ns a (nI tot) p) (fun _ => True) := by
  obtain ⟨r, h⟩ := k_within hN hs hs2 p a
  exact ⟨r, h, trivial⟩
theorem s_farthestKey {tot : Nat} (hN : tot < N) (hs : tot ≤ ns) (hs2 : ns < 2 ^ 31) (h0 : 1 ≤ tot) (a : Nat → Int32) : Ok (f_Walk_farthestKey N ns a (nI tot)) (fun x => ∃ r, x = nI r ∧ r < tot) := by
  obtain ⟨r, h, h1⟩ := k_farthestKey hN hs hs2 h0 a
  exact ⟨_, h, r, rfl, h1⟩
theorem s_x_reach (g : GOK R C H V rc cc br zc rw sh) (hN : 100000 ≤ N) (hs2 : ns < 2 ^ 31) (a b : Nat → Int32) (mm : Int32) (c d : Nat → Int32) (v1 v2 v3 v4 v5 v6 p q i : Int32) : z_or ns (Ok (f_X_reach N ns ns a b mm c d v1 v2 v3 v4 v5 v6 br zc rw sh p q i) (fun _ => True)) (fun nL => Ok (f_X_reachN N nL ns a b mm c d v1 v2 v3 v4 v5 v6 br zc rw sh p q i) (fun _ => True)) := by
  obtain ⟨x1, e1, h1⟩ := s_hasSheet g p q
  by_cases n1 : x1 = 0
  · left; unfold f_X_reach; rw [e1, q_b1_s, if_pos n1]; exact Ok.t
  by_cases hi : ¬ 0 ≤ i
  · left; unfold f_X_reach; rw [e1, q_b1_s, if_neg n1, if_neg hi]; exact Ok.t
  have hi := Decidable.not_not.mp hi
  obtain ⟨l, k, hl, rfl, rfl, hk⟩ := h1 n1
  have hsh := g.2.sh hl
  obtain ⟨-, -, -, -, -, e6⟩ := g.at hl
  by_cases ht : 2130 * (H l * V l) + 2 ≤ 20000
  · by_cases hr : 2130 * (H l * V l) + 2 ≤ ns
    · left
      unfold f_X_reach
      rw [e1, q_b1_s, if_neg n1, if_pos hi, z_ai hl (by omega), e6]
      refine Ok.ite (fun _ => ?_) (fun _ => Ok.t)
      refine Ok.b11 (s_spread g hN hl ht hr hs2 hk a b c d mm _ _ _ _ _ _) (fun _ _ v5 _ _ _ _ _ _ _ _ h5 => ?_)
      simp only at h5
      subst h5
      exact Ok.b1 (s_within (by omega) hr hs2 _ _) (fun _ _ => Ok.t)
    · right
      refine ⟨2130 * (H l * V l) + 2, by omega, ht, ⟨_, rfl⟩, ?_⟩
      dsimp only
      unfold f_X_reachN
      rw [e1, q_b1_s, if_neg n1, if_pos hi, z_ai hl (by omega), e6]
      refine Ok.ite (fun _ => ?_) (fun h => absurd (by rw [z_i 20000, nI_leI (by omega) (by omega)]; exact ht) h)
      refine Ok.b11 (s_spreadN g hN hl rfl ht (by omega) hk a b c d mm _ _ _ _ _ _) (fun _ _ v5 _ _ _ _ _ _ _ _ h5 => ?_)
      simp only at h5
      subst h5
      exact Ok.b1 (s_within (by omega) (Nat.le_refl _) (by omega) _ _) (fun _ _ => Ok.t)
  · left
    unfold f_X_reach
    rw [e1, q_b1_s, if_neg n1, if_pos hi, z_ai hl (by omega), e6]
    refine Ok.ite (fun h => ?_) (fun _ => Ok.t)
    rw [z_i 20000, nI_leI (by omega) (by omega)] at h
    exact absurd h ht
theorem s_x_farthest (g : GOK R C H V rc cc br zc rw sh) (hN : 100000 ≤ N) (hs2 : ns < 2 ^ 31) (a b : Nat → Int32) (mm : Int32) (c d : Nat → Int32) (v1 v2 v3 v4 v5 v6 p q i : Int32) : z_or ns (Ok (f_X_farthest N ns ns a b mm c d v1 v2 v3 v4 v5 v6 br zc rw sh p q i) (fun _ => True)) (fun nL => Ok (f_X_farthestN N nL ns a b mm c d v1 v2 v3 v4 v5 v6 br zc rw sh p q i) (fun _ => True)) := by
  obtain ⟨x1, e1, h1⟩ := s_hasSheet g p q
  obtain ⟨x2, e2, h2⟩ := s_isFrom i 0 1
  by_cases n1 : x1 = 0
  · left; unfold f_X_farthest; rw [e1, q_b1_s, if_pos n1]; exact Ok.t
  by_cases n2 : x2 = 0
  · left; unfold f_X_farthest; rw [e1, q_b1_s, if_neg n1, e2, q_b1_s, if_pos n2]; exact Ok.t
  obtain ⟨l, k, hl, rfl, rfl, hk⟩ := h1 n1
  have hsh := g.2.sh hl
  obtain ⟨-, -, -, -, -, e6⟩ := g.at hl
  by_cases ht : 2130 * (H l * V l) + 2 ≤ 20000
  · by_cases hr : 2130 * (H l * V l) + 2 ≤ ns
    · left
      unfold f_X_farthest
      rw [e1, q_b1_s, if_neg n1, e2, q_b1_s, if_neg n2, z_ai hl (by omega), e6]
      refine Ok.ite (fun _ => ?_) (fun _ => Ok.t)
      refine Ok.b11 (s_spread g hN hl ht hr hs2 hk a b c d mm _ _ _ _ _ _) (fun _ _ v5 _ _ _ _ _ _ _ _ h5 => ?_)
      simp only at h5
      subst h5
      refine Ok.b1 (s_farthestKey (by omega) hr hs2 (by omega) _) (fun v15 h15 => Ok.ite (fun _ => ?_) (fun _ => Ok.t))
      obtain ⟨r, rfl, hr2⟩ := h15
      exact Ok.b1 (s_stepsTo (by omega) hs2 _) (fun _ _ => Ok.t)
    · right
      refine ⟨2130 * (H l * V l) + 2, by omega, ht, ⟨_, rfl⟩, ?_⟩
      dsimp only
      unfold f_X_farthestN
      rw [e1, q_b1_s, if_neg n1, e2, q_b1_s, if_neg n2, z_ai hl (by omega), e6]
      refine Ok.ite (fun _ => ?_) (fun h => absurd (by rw [z_i 20000, nI_leI (by omega) (by omega)]; exact ht) h)
      refine Ok.b11 (s_spreadN g hN hl rfl ht (by omega) hk a b c d mm _ _ _ _ _ _) (fun _ _ v5 _ _ _ _ _ _ _ _ h5 => ?_)
      simp only at h5
      subst h5
      refine Ok.b1 (s_farthestKey (by omega) (Nat.le_refl _) (by omega) (by omega) _) (fun v15 h15 => Ok.ite (fun _ => ?_) (fun _ => Ok.t))
      obtain ⟨r, rfl, hr2⟩ := h15
      exact Ok.b1 (s_stepsTo (by omega) (by omega) _) (fun _ _ => Ok.t)
  · left
    unfold f_X_farthest
    rw [e1, q_b1_s, if_neg n1, e2, q_b1_s, if_neg n2, z_ai hl (by omega), e6]
    refine Ok.ite (fun h => ?_) (fun _ => Ok.t)
    rw [z_i 20000, nI_leI (by omega) (by omega)] at h
    exact absurd h ht
end SW
end
section
/-! questions answered; cuts -/
section SV
variable {R C H V : Nat → Nat} {rc cc br zc rw sh : Nat → Int32} {N l ns : Nat}
theorem s_answerTo (g : GOK R C H V rc cc br zc rw sh) (hN : 100000 ≤ N) (hs2 : ns < 2 ^ 31) {j : Nat} (hj : j < 5) (w k ol ok : Int32) (f m : Nat → Int32) (a1 a2 a3 a4 a5 a6 : Int32) (a b : Nat → Int32) (mm : Int32) (c d : Nat → Int32) (v1 v2 v3 v4 v5 v6 b1 b2 b3 b4 : Int32) : z_or ns (Ok (f_X_answerTo N ns ns w (nI j) k ol ok f m a1 a2 a3 a4 a5 a6 a b mm c d v1 v2 v3 v4 v5 v6 b1 b2 b3 b4 br zc rw sh) (fun _ => True)) (fun nL => Ok (f_X_answerToN N nL ns w (nI j) k ol ok f m a1 a2 a3 a4 a5 a6 a b mm c d v1 v2 v3 v4 v5 v6 b1 b2 b3 b4 br zc rw sh) (fun _ => True)) := by
  by_cases h4 : w = 4
  · left
    unfold f_X_answerTo
    rw [if_pos h4]
    refine Ok.ite (fun _ => Ok.t) (fun h0 => ?_)
    have h1 : 1 ≤ j := by
      rcases Nat.eq_zero_or_pos j with h | h
      · exact absurd (by rw [h]; rfl) h0
      · exact h
    rw [z_sub1 h1]
    exact Ok.b1 (s_keyAbove g hN hj (by omega) _) (fun _ _ => Ok.t)
  by_cases h5 : 4 ≤ w
  · by_cases hl : nI j = ol
    · by_cases h6 : w = 5
      · rcases s_x_steps g hN hs2 a b mm c d v1 v2 v3 v4 v5 v6 (nI j) k ok with h | ⟨nL, n1, n2, n3, h⟩
        · left
          unfold f_X_answerTo
          rw [if_neg h4, if_pos h5, if_pos hl, if_pos h6]
          exact Ok.b12 h (fun _ _ _ _ _ _ _ _ _ _ _ _ _ => Ok.t)
        · right
          refine ⟨nL, n1, n2, n3, ?_⟩
          dsimp only at h ⊢
          unfold f_X_answerToN
          rw [if_neg h4, if_pos h5, if_pos hl, if_pos h6]
          exact Ok.b12 h (fun _ _ _ _ _ _ _ _ _ _ _ _ _ => Ok.t)
      · left
        unfold f_X_answerTo
        rw [if_neg h4, if_pos h5, if_pos hl, if_neg h6]
        exact Ok.b11 (s_x_between g hN _ _ _ _ _ _ _ _ _ _ _ _ _) (fun _ _ _ _ _ _ _ _ _ _ _ _ => Ok.t)
    · left
      unfold f_X_answerTo
      rw [if_neg h4, if_pos h5, if_neg hl]
      exact Ok.t
  · left
    unfold f_X_answerTo
    rw [if_neg h4, if_neg h5]
    exact Ok.b9 (s_x_neighbour g hN f m _ _ _ _ _ _ _ _ _ _) (fun _ _ _ _ _ _ _ _ _ _ => Ok.t)
/-- the tape's length behind a question -/
def z_tl (p : Int32) (t : Nat) (x : Int32) : Prop := (z_txc 100 p t ∧ x = nI 0) ∨ (¬ z_txc 100 p t ∧ x = nI t)
theorem s_x_ask (g : GOK R C H V rc cc br zc rw sh) (hN : 100000 ≤ N) (hs2 : ns < 2 ^ 31) {t : Nat} (ht : t ≤ 200) (tb : Nat → Int32) (qw ql qk ol ok n e lv ky fa fp es : Int32) (f m : Nat → Int32) (a1 a2 a3 a4 a5 a6 : Int32) (a b : Nat → Int32) (mm : Int32) (c d : Nat → Int32) (v1 v2 v3 v4 v5 v6 b1 b2 b3 b4 r1 r2 r3 r4 p : Int32) : z_or ns (Ok (f_X_ask N ns ns qw ql qk ol ok n e lv ky fa fp es tb (nI t) f m a1 a2 a3 a4 a5 a6 a b mm c d v1 v2 v3 v4 v5 v6 b1 b2 b3 b4 r1 r2 r3 r4 rc cc br zc rw sh p) (fun x => z_tl p t x.2.2.2.2.2.2.2.2.2.2.2.2.2.1)) (fun nL => Ok (f_X_askN N nL ns qw ql qk ol ok n e lv ky fa fp es tb (nI t) f m a1 a2 a3 a4 a5 a6 a b mm c d v1 v2 v3 v4 v5 v6 b1 b2 b3 b4 r1 r2 r3 r4 rc cc br zc rw sh p) (fun x => z_tl p t x.2.2.2.2.2.2.2.2.2.2.2.2.2.1)) := by
  obtain ⟨x1, e1, h1⟩ := s_isFrom p 1 100
  by_cases n1 : x1 = 0
  · left
    unfold f_X_ask
    rw [e1, q_b1_s, if_pos n1]
    exact Ok.ret (Or.inr ⟨fun z => z_if0 h1 n1 ⟨z.1, z.2.1⟩, rfl⟩)
  by_cases h3 : ¬ p ≤ nI t
  · left
    unfold f_X_ask
    rw [e1, q_b1_s, if_neg n1, if_neg h3]
    exact Ok.ret (Or.inr ⟨fun z => h3 (z_le.mpr (by rw [nI_toInt (by omega)]; exact z.2.2)), rfl⟩)
  have h3 := Decidable.not_not.mp h3
  have h3' := z_le.mp h3
  rw [nI_toInt (by omega)] at h3'
  have hc : z_txc 100 p t := ⟨(z_if1 h1 n1).1, (z_if1 h1 n1).2, h3'⟩
  obtain ⟨⟨y1, y2, y3, y4, y5, y6, y7, y8, y9, y10, y11, y12, y13⟩, e2, h2⟩ := s_question g hN ht tb qw ql qk ol ok n e lv ky fa fp es p
  obtain ⟨⟨u1, u2, u3, u4⟩, e4, -⟩ := s_countText y11 y13 r1 r2 r3 r4 y1
  by_cases n2 : y1 = 0
  · left
    unfold f_X_ask
    rw [e1, q_b1_s, if_neg n1, if_pos h3, e2, q_b13_s, e4, q_b4_s, if_pos n2]
    unfold f_NameReader_told
    rw [q_b1_s]
    exact Ok.ret (Or.inl ⟨hc, rfl⟩)
  obtain ⟨j, hj, hlv⟩ := h2.2 n2
  dsimp only at hlv
  subst hlv
  rcases s_answerTo g hN hs2 hj y2 y4 y5 y6 f m a1 a2 a3 a4 a5 a6 a b mm c d v1 v2 v3 v4 v5 v6 b1 b2 b3 b4 with h | ⟨nL, m1, m2, m3, h⟩
  · left
    unfold f_X_ask
    rw [e1, q_b1_s, if_neg n1, if_pos h3, e2, q_b13_s, e4, q_b4_s, if_neg n2]
    exact Ok.b24 h (fun _ _ _ _ _ _ _ _ _ _ _ _ _ _ _ _ _ _ _ _ _ _ _ _ _ => Ok.ret (Or.inl ⟨hc, rfl⟩))
  · right
    refine ⟨nL, m1, m2, m3, ?_⟩
    dsimp only at h ⊢
    unfold f_X_askN
    rw [e1, q_b1_s, if_neg n1, if_pos h3, e2, q_b13_s, e4, q_b4_s, if_neg n2]
    exact Ok.b24 h (fun _ _ _ _ _ _ _ _ _ _ _ _ _ _ _ _ _ _ _ _ _ _ _ _ _ => Ok.ret (Or.inl ⟨hc, rfl⟩))
end SV
end
section
/-! cut -/
section SC
variable {R C H V : Nat → Nat} {rc cc br zc rw sh : Nat → Int32} {N : Nat}
def z_up1 (R : Nat → Nat) (v r : Nat) : Nat → Nat := fun i => if i = v then r else R i
theorem z_cmple {a b : Nat} (ha : a < 2 ^ 63) (hb : b < 2 ^ 63) (h : lg_cmp (lN a) (lN b) ≤ 0) : a ≤ b := by
  unfold lg_cmp at h
  by_cases h1 : lN a > lN b
  · rw [if_pos h1] at h; exact absurd h (by decide)
  · have h2 : ¬ (lN b).toInt < (lN a).toInt := fun z => h1 (Int64.lt_iff_toInt_lt.mpr z)
    have e1 : (lN a).toInt = (a : Int) := by
      show (Int64.ofNat a).toInt = _
      exact Int64.toInt_ofNat_of_lt ha
    have e2 : (lN b).toInt = (b : Int) := by
      show (Int64.ofNat b).toInt = _
      exact Int64.toInt_ofNat_of_lt hb
    omega
theorem k_deepest (hkg : z_kg R C rc cc) (hN : 100000 ≤ N) {v r c : Nat} (hv : 1 ≤ v) (hv4 : v ≤ 4) (hr : r ≤ 6) (hc : c ≤ 6) : f_Grid_deepestSheetsIf N rc cc (nI v) (nI r) (nI c) = some (lN (2130 * (z_pr (z_up1 R v r) 4 * z_pr (z_up1 C v c) 4) + 2)) := by
  obtain ⟨h1, h2, h3, h4, -⟩ := hkg
  have L : ∀ n i, i ≤ 4 → 4 - i + 1 < n → f_Grid_deepestSheetsIf_L8 cc rc (nI v) (nI r) (nI c) n (lN (2130 * (z_pr (z_up1 R v r) i * z_pr (z_up1 C v c) i))) (nI (i + 1)) = some (lN (2130 * (z_pr (z_up1 R v r) 4 * z_pr (z_up1 C v c) 4))) := by
    intro n
    induction n with
    | zero => intro i _ h; omega
    | succ n ih =>
      intro i hi hn
      rw [f_Grid_deepestSheetsIf_L8]
      by_cases h5 : i = 4
      · subst h5
        rw [if_pos (by rw [z_i 4, nI_ltI (by omega) (by omega)]; omega)]
      · rw [if_neg (by rw [z_i 4, nI_ltI (by omega) (by omega)]; omega), z_j1]
        have hs : ∀ x, x = z_up1 R v r (i + 1) * z_up1 C v c (i + 1) → lN (2130 * (z_pr (z_up1 R v r) i * z_pr (z_up1 C v c) i)) * lN x = lN (2130 * (z_pr (z_up1 R v r) (i + 1) * z_pr (z_up1 C v c) (i + 1))) := by
          intro x hx
          rw [lN_mul, hx]
          congr 1
          show _ = 2130 * (z_pr (z_up1 R v r) i * z_up1 R v r (i + 1) * (z_pr (z_up1 C v c) i * z_up1 C v c (i + 1)))
          rw [Nat.mul_assoc, Nat.mul_mul_mul_comm]
        by_cases hiv : i + 1 = v
        · rw [if_pos (by rw [hiv])]
          dsimp only
          have hrc : r * c ≤ 36 := Nat.mul_le_mul hr hc
          rw [z_nm, z_nm, pk_mul, nI_l (by omega), hs (r * c) (by unfold z_up1; rw [if_pos hiv, if_pos hiv]), nI_1]
          exact ih (i + 1) (by omega) (by omega)
        · have hRC := h3 (i + 1) (by omega)
          have hb : R (i + 1) * C (i + 1) ≤ 36 := Nat.mul_le_mul hRC.2.1 hRC.2.2.2
          rw [if_neg (by rw [nI_eq (by omega) (by omega)]; exact hiv), z_ai (by omega) (by omega), z_ai (by omega) (by omega), (h4 (i + 1) (by omega)).1, (h4 (i + 1) (by omega)).2]
          dsimp only
          rw [z_nm, z_nm, pk_mul, nI_l (by omega), hs (R (i + 1) * C (i + 1)) (by unfold z_up1; rw [if_neg hiv, if_neg hiv]), nI_1]
          exact ih (i + 1) (by omega) (by omega)
  unfold f_Grid_deepestSheetsIf
  have e0 : (2130 : Int64) = lN (2130 * (z_pr (z_up1 R v r) 0 * z_pr (z_up1 C v c) 0)) := by
    unfold z_pr z_up1
    rw [if_neg (by omega), if_neg (by omega), h1, h2]; rfl
  rw [z_nm, z_nm, z_i 1, e0, L N 0 (by omega) (by omega), q_b1_s, z_l 2, lN_add]
theorem s_x_cut (g : GOK R C H V rc cc br zc rw sh) (hN : 100000 ≤ N) (ss p q r : Int32) : Ok (f_X_cut N ss rc cc br zc rw sh p q r) (fun x => ∃ R C H V, GOK R C H V x.2.1 x.2.2.1 x.2.2.2.1 x.2.2.2.2.1 x.2.2.2.2.2.1 x.2.2.2.2.2.2) := by
  have no : ∀ a : Int32, Ok (some (a, rc, cc, br, zc, rw, sh)) (fun x => ∃ R C H V, GOK R C H V x.2.1 x.2.2.1 x.2.2.2.1 x.2.2.2.2.1 x.2.2.2.2.2.1 x.2.2.2.2.2.2) := fun a => Ok.ret ⟨R, C, H, V, g⟩
  unfold f_X_cut
  refine Ok.ite (fun _ => no _) (fun hp1 => Ok.ite (fun _ => no _) (fun hp4 => Ok.b1 (s_isFrom q _ _) (fun v1 h1 => Ok.ite (fun _ => no _) (fun n1 => Ok.b1 (s_isFrom r _ _) (fun v2 h2 => Ok.ite (fun _ => no _) (fun n2 => Ok.ite (fun _ => ?_) (fun _ => no _)))))))
  have a1 : ¬ p.toInt < (1 : Int32).toInt := fun z => hp1 (z_lt.mpr z)
  have a4 : ¬ (4 : Int32).toInt < p.toInt := fun z => hp4 (z_lt.mpr z)
  have aq := z_if1 h1 n1
  have ar := z_if1 h2 n2
  rw [show (1 : Int32).toInt = 1 from rfl] at a1 aq ar
  rw [show (4 : Int32).toInt = 4 from rfl] at a4
  rw [show (6 : Int32).toInt = 6 from rfl] at aq ar
  obtain ⟨v, -, rfl, j3⟩ := z_nat (r := p) (by omega)
  obtain ⟨y, -, rfl, y3⟩ := z_nat (r := q) (by omega)
  obtain ⟨w, -, rfl, w3⟩ := z_nat (r := r) (by omega)
  have hkg := g.kg
  have hkg' := hkg
  obtain ⟨k1, k2, k3, k4, -⟩ := hkg'
  have hR1 : ∀ l, l < 5 → 1 ≤ z_up1 R v y l ∧ z_up1 R v y l ≤ 6 ∧ 1 ≤ z_up1 C v w l ∧ z_up1 C v w l ≤ 6 := by
    intro l hl
    have := k3 l hl
    unfold z_up1
    split <;> omega
  have hR0 : z_up1 R v y 0 = 1 := by unfold z_up1; rw [if_neg (by omega)]; exact k1
  have hC0 : z_up1 C v w 0 = 1 := by unfold z_up1; rw [if_neg (by omega)]; exact k2
  rw [k_deepest hkg hN (show 1 ≤ v by omega) (by omega) (show y ≤ 6 by omega) (show w ≤ 6 by omega), q_b1_s]
  have b1 := (z_pr_b hR0 (fun l hl => ⟨(hR1 l hl).1, (hR1 l hl).2.1⟩) 4 (by omega)).2
  have b2 := (z_pr_b hC0 (fun l hl => ⟨(hR1 l hl).2.2.1, (hR1 l hl).2.2.2⟩) 4 (by omega)).2
  have b3 := Nat.mul_le_mul b1 b2
  refine Ok.ite (fun hle => ?_) (fun _ => no _)
  have hbig := z_cmple (b := 20000000) (by omega) (by omega) hle
  have hk2 : z_kg (z_up1 R v y) (z_up1 C v w) (upd rc v (nI y)) (upd cc v (nI w)) := by
    refine ⟨hR0, hC0, hR1, fun l hl => ?_, hbig⟩
    unfold z_up1
    by_cases e : l = v
    · subst e; rw [z_updS, z_updS, if_pos rfl, if_pos rfl]; exact ⟨rfl, rfl⟩
    · rw [z_updN e, z_updN e, if_neg e, if_neg e]; exact k4 l hl
  refine Ok.b6 (Q := fun x => GOK (z_up1 R v y) (z_up1 C v w) (z_pr (z_up1 R v y)) (z_pr (z_up1 C v w)) x.1 x.2.1 x.2.2.1 x.2.2.2.1 x.2.2.2.2.1 x.2.2.2.2.2) ?_ (fun f4 f5 f6 f7 f8 f9 h => Ok.ain (by omega) (by decide) (Ok.ret ⟨_, _, _, _, h⟩))
  unfold f_Grid_setCuts
  refine Ok.asn (by omega) (by decide) (Ok.asn (by omega) (by decide) ?_)
  exact Ok.b4 (s_multiply hk2 hN br zc rw sh) (fun a b c d h => Ok.ret h)
end SC
end
