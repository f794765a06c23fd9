/-! the class's own methods: no call stops -/
section SX
variable {R C H V : Nat → Nat} {rc cc br zc rw sh : Nat → Int32} {N l : Nat}
theorem s_isFrom (p a b : Int32) : Ok (f_X_isFrom p a b) (fun x => x = (if a.toInt ≤ p.toInt ∧ p.toInt ≤ b.toInt then 1 else 0)) := by
  unfold f_X_isFrom
  refine Ok.ite (fun h => Ok.ret ?_) (fun h => Ok.ite (fun h2 => Ok.ret ?_) (fun h2 => Ok.ret ?_))
  · have := z_lt.mp h; rw [if_neg (by omega)]
  · have := z_lt.mp h2; rw [if_neg (by omega)]
  · have a1 : ¬ p.toInt < a.toInt := fun z => h (z_lt.mpr z)
    have a2 : ¬ b.toInt < p.toInt := fun z => h2 (z_lt.mpr z)
    rw [if_pos (by omega)]
theorem z_if1 {c : Prop} [Decidable c] {x : Int32} (h : x = if c then 1 else 0) (h0 : ¬ x = 0) : c := by
  by_cases hc : c
  · exact hc
  · rw [if_neg hc] at h; exact absurd h h0
theorem z_if0 {c : Prop} [Decidable c] {x : Int32} (h : x = if c then 1 else 0) (h0 : x = 0) : ¬ c := by
  intro hc
  rw [if_pos hc] at h
  rw [h0] at h
  exact absurd h (by decide)
theorem s_isLevel (p : Int32) : Ok (f_X_isLevel p) (fun x => x ≠ 0 → ∃ l, l < 5 ∧ p = nI l) := by
  refine ⟨_, k_isLevel p, fun h => ?_⟩
  by_cases hc : 0 ≤ p.toInt ∧ p.toInt ≤ 4
  · obtain ⟨j, h1, h2, h3⟩ := z_nat hc.1
    exact ⟨j, by omega, h2⟩
  · rw [if_neg hc] at h; exact absurd rfl h
def z_hs (H V : Nat → Nat) (p q : Int32) : Prop := ∃ l k, l < 5 ∧ p = nI l ∧ q = nI k ∧ k < 2130 * (H l * V l) + 2
theorem s_hasSheet (g : GOK R C H V rc cc br zc rw sh) (p q : Int32) : Ok (f_Grid_hasSheet sh p q) (fun x => x ≠ 0 → z_hs H V p q) := by
  rcases k_hasSheet g p q with h | ⟨l, k, h1, h2, h3, h4, h5⟩
  · exact ⟨0, h, fun z => absurd rfl z⟩
  · exact ⟨1, h5, fun _ => ⟨l, k, h1, h2, h3, h4⟩⟩
theorem s_areSheets (g : GOK R C H V rc cc br zc rw sh) (p q r : Int32) : Ok (f_X_areSheets sh p q r) (fun x => x ≠ 0 → z_hs H V p q ∧ z_hs H V p r) := by
  unfold f_X_areSheets
  refine Ok.b1 (s_hasSheet g p q) (fun v1 h1 => Ok.ite (fun _ => Ok.ret (fun z => absurd rfl z)) (fun n1 => Ok.b1 (s_hasSheet g p r) (fun v2 h2 => Ok.ite (fun _ => Ok.ret (fun z => absurd rfl z)) (fun n2 => Ok.ret (fun _ => ⟨h1 n1, h2 n2⟩)))))
theorem s_isPlace (p q : Int32) : Ok (f_X_isPlace p q) (fun x => x ≠ 0 → (-324000 ≤ p.toInt ∧ p.toInt ≤ 324000) ∧ ∃ o, o < 1296000 ∧ q = nI o) := by
  unfold f_X_isPlace
  refine Ok.b1 (s_isFrom p _ _) (fun v1 h1 => Ok.ite (fun _ => Ok.ret (fun z => absurd rfl z)) (fun n1 => Ok.b1 (s_isFrom q _ _) (fun v2 h2 => Ok.ite (fun _ => Ok.ret (fun z => absurd rfl z)) (fun n2 => Ok.ret (fun _ => ?_)))))
  have a := z_if1 h1 n1
  have b := z_if1 h2 n2
  rw [show (-324000 : Int32).toInt = -324000 from rfl, show (324000 : Int32).toInt = 324000 from rfl] at a
  rw [show (0 : Int32).toInt = 0 from rfl, show (1295999 : Int32).toInt = 1295999 from rfl] at b
  obtain ⟨j, j1, j2, j3⟩ := z_nat b.1
  exact ⟨a, j, by omega, j2⟩
theorem s_isBox (p q r s : Int32) : Ok (f_X_isBox p q r s) (fun x => x ≠ 0 → (∃ o, o < 1296000 ∧ r = nI o) ∧ ∃ o, o < 1296000 ∧ s = nI o) := by
  unfold f_X_isBox
  refine Ok.b1 (s_isPlace p r) (fun v1 h1 => Ok.ite (fun _ => Ok.ret (fun z => absurd rfl z)) (fun n1 => Ok.b1 (s_isPlace q s) (fun v2 h2 => Ok.ite (fun _ => Ok.ret (fun z => absurd rfl z)) (fun n2 => Ok.ite (fun _ => Ok.ret (fun z => absurd rfl z)) (fun _ => Ok.ret (fun _ => ⟨(h1 n1).2, (h2 n2).2⟩))))))
theorem z_rlI (g : GOK R C H V rc cc br zc rw sh) (hl : l < 5) {r : Nat} (hr : r ≤ 44 * H l + 1) : 1 ≤ z_rl (H l) (V l) r ∧ z_rl (H l) (V l) r ≤ 563400 := by
  have hp := g.2.pos l hl
  have hv := g.2.hv hl
  have := z_rl_pos hp.1 hp.2 hr
  omega
theorem s_x_between (g : GOK R C H V rc cc br zc rw sh) (hN : 100000 ≤ N) (a1 a2 a3 a4 a5 a6 b1 b2 b3 b4 p q r : Int32) : Ok (f_X_between N a1 a2 a3 a4 a5 a6 b1 b2 b3 b4 br zc rw sh p q r) (fun _ => True) := by
  unfold f_X_between
  refine Ok.b1 (s_areSheets g p q r) (fun v1 h1 => Ok.ite (fun _ => Ok.t) (fun n1 => ?_))
  obtain ⟨⟨l, k, hl, rfl, rfl, hk⟩, -⟩ := h1 n1
  refine Ok.b6 (s_putA g hN hl _ _ _ _ _ _ _) (fun x1 x2 x3 x4 x5 x6 hx => ?_)
  obtain ⟨r1, s1, p1, L, c1, hx, h1, h2⟩ := hx
  cases hx
  refine Ok.b1 (s_middleLat g hl h1 h2 _ _ _) (fun _ _ => Ok.b1 (s_middleLon g hl h1 h2 _ _ _) (fun _ _ => ?_))
  refine Ok.b6 (s_putA g hN hl _ _ _ _ _ _ _) (fun x1 x2 x3 x4 x5 x6 hx => ?_)
  obtain ⟨r1, s1, p1, L, c1, hx, h1, h2⟩ := hx
  cases hx
  refine Ok.b1 (s_middleLat g hl h1 h2 _ _ _) (fun _ _ => Ok.nm (Ok.nm (Ok.b1 (s_middleLon g hl h1 h2 _ _ _) (fun _ _ => ?_))))
  unfold f_Box_set
  rw [q_b4_s]
  exact Ok.b1 (s_sheetsAt g hN hl _ _ _ _) (fun _ _ => Ok.t)
theorem s_lookAround (g : GOK R C H V rc cc br zc rw sh) (hl : l < 5) {r p : Nat} (hr : r ≤ 44 * H l + 1) (hp : p < z_rl (H l) (V l) r) (f m : Nat → Int32) : Ok (f_Spot_lookAround f m (nI l) (nI r) (nI (z_rs (H l) (V l) r)) (nI p) (nI (z_rl (H l) (V l) r)) (z_cap (H l) r) br zc rw sh) (fun x => ∃ F M, z_FM (2130 * (H l * V l) + 2) x.1 x.2 F M) := by
  obtain ⟨f', m', F, M, h1, h2⟩ := k_lookAround g hl hr hp f m
  exact ⟨_, h1, F, M, h2⟩
theorem s_x_neighbour (g : GOK R C H V rc cc br zc rw sh) (hN : 100000 ≤ N) (f m : Nat → Int32) (a1 a2 a3 a4 a5 a6 p q s i : Int32) : Ok (f_X_neighbour N f m a1 a2 a3 a4 a5 a6 br zc rw sh p q s i) (fun _ => True) := by
  unfold f_X_neighbour
  refine Ok.b1 (s_hasSheet g p q) (fun v1 h1 => Ok.ite (fun _ => Ok.t) (fun n1 => Ok.b1 (s_isFrom s _ _) (fun v2 h2 => Ok.ite (fun _ => Ok.t) (fun n2 => Ok.ite (fun _ => ?_) (fun _ => Ok.t)))))
  obtain ⟨l, k, hl, rfl, rfl, hk⟩ := h1 n1
  have hs := z_if1 h2 n2
  rw [show (0 : Int32).toInt = 0 from rfl, show (3 : Int32).toInt = 3 from rfl] at hs
  have hi : z_in 4 s := ⟨by omega, by omega⟩
  refine Ok.b6 (s_put g hN hl hk _ _ _ _ _ _) (fun x1 x2 x3 x4 x5 x6 hx => ?_)
  obtain ⟨r1, p1, hx, h1, h2⟩ := hx
  cases hx
  refine Ok.b2 (s_lookAround g hl h1 h2 f m) (fun f9 f10 _ => ?_)
  (repeat' first | exact Ok.t | with_reducible refine Ok.ite (fun _ => ?_) (fun _ => ?_) | with_reducible refine Ok.nm ?_ | with_reducible refine Ok.j0 ?_ | with_reducible refine Ok.j1 ?_ | with_reducible refine Ok.j2 ?_ | (with_reducible apply Ok.ain <;> try first | assumption | decide) | (with_reducible apply Ok.asn <;> try first | assumption | decide) | (with_reducible apply Ok.ai <;> try first | assumption | decide) | (with_reducible apply Ok.as <;> try first | assumption | decide))
theorem s_x_around (g : GOK R C H V rc cc br zc rw sh) (hN : 100000 ≤ N) (f m : Nat → Int32) (a1 a2 a3 a4 a5 a6 p q i : Int32) : Ok (f_X_around N f m a1 a2 a3 a4 a5 a6 br zc rw sh p q i) (fun _ => True) := by
  unfold f_X_around
  refine Ok.b1 (s_hasSheet g p q) (fun v1 h1 => Ok.ite (fun _ => Ok.t) (fun n1 => Ok.ite (fun hi => ?_) (fun _ => Ok.t)))
  obtain ⟨l, k, hl, rfl, rfl, hk⟩ := h1 n1
  have hs := g.2.sh hl
  refine Ok.b6 (s_put g hN hl hk _ _ _ _ _ _) (fun x1 x2 x3 x4 x5 x6 hx => ?_)
  obtain ⟨r1, p1, hx, h1, h2⟩ := hx
  cases hx
  refine Ok.b2 (s_lookAround g hl h1 h2 f m) (fun f9 f10 hFM => ?_)
  obtain ⟨F, M, hFM⟩ := hFM
  have hab := k_allBeside hFM
  have hM : M 0 + M 1 + M 2 + M 3 < 2 ^ 31 := by
    have b0 := (hFM.1 0 (by omega)).2.2.2
    have b1 := (hFM.1 1 (by omega)).2.2.2
    have b2 := (hFM.1 2 (by omega)).2.2.2
    have b3 := (hFM.1 3 (by omega)).2.2.2
    omega
  simp only at hab
  refine Ok.ite (fun _ => ?_) (fun hne => ?_)
  · rw [hab, q_b1_s]; exact Ok.t
  · rw [hab, q_b1_s]
    refine Ok.ite (fun _ => Ok.t) (fun hc => ?_)
    have h0 : 0 ≤ i.toInt := by
      have a := z_le.mp hi
      rw [show (-1 : Int32).toInt = -1 from rfl] at a
      rcases Int.lt_or_le i.toInt 0 with z | z
      · exfalso
        have : i.toInt = (-1 : Int32).toInt := by rw [show (-1 : Int32).toInt = -1 from rfl]; omega
        exact hne (Int32.toInt_inj.mp this)
      · exact z
    obtain ⟨j, j1, rfl, j3⟩ := z_nat h0
    rw [nI_leI hM j1] at hc
    obtain ⟨k2, hk2, -⟩ := k_besideKey hFM (by omega) (i := j) (by omega)
    simp only at hk2
    rw [hk2, q_b1_s]; exact Ok.t
theorem s_x_at (g : GOK R C H V rc cc br zc rw sh) (hN : 100000 ≤ N) (a1 a2 a3 a4 a5 a6 p q w : Int32) : Ok (f_X_at N a1 a2 a3 a4 a5 a6 rc cc br zc rw sh p q w) (fun _ => True) := by
  unfold f_X_at
  refine Ok.b1 (s_hasSheet g p q) (fun v1 h1 => Ok.ite (fun _ => Ok.t) (fun n1 => ?_))
  obtain ⟨l, k, hl, rfl, rfl, hk⟩ := h1 n1
  refine Ok.b6 (s_putA g hN hl _ _ _ _ _ _ _) (fun x1 x2 x3 x4 x5 x6 hx => ?_)
  obtain ⟨r1, s1, p1, L, c1, hx, h1, h2⟩ := hx
  cases hx
  refine Ok.ite (fun _ => Ok.t) (fun _ => Ok.ite (fun _ => Ok.t) (fun _ => Ok.ite (fun _ => Ok.t) (fun _ => Ok.ite (fun _ => Ok.b1 (s_band g hl _ _) (fun _ _ => Ok.t)) (fun _ => Ok.ite (fun _ => Ok.b1 (s_zone g hl _ _) (fun _ _ => Ok.t)) (fun _ => Ok.ite (fun _ => Ok.b1 (s_numberOf g hl (Nat.le_refl l) _ _ _) (fun _ _ => Ok.t)) (fun _ => Ok.t))))))
theorem s_x_bands (g : GOK R C H V rc cc br zc rw sh) (hN : 100000 ≤ N) (p q r : Int32) : Ok (f_X_bands N br zc rw sh p q r) (fun _ => True) := by
  unfold f_X_bands
  refine Ok.b1 (s_areSheets g p q r) (fun v1 h1 => Ok.ite (fun _ => Ok.t) (fun n1 => Ok.ite (fun _ => Ok.nm (Ok.nm ?_)) (fun _ => Ok.t)))
  obtain ⟨⟨l, k, hl, rfl, rfl, hk⟩, -⟩ := h1 n1
  have L : ∀ n i (v : Int32), i ≤ 44 → 44 - i < n → Ok (f_X_bands_L23 br rw sh zc (nI l) (nI k) r n v (nI i)) (fun _ => True) := by
    intro n
    induction n with
    | zero => intro i v _ h; omega
    | succ n ih =>
      intro i v hi hn
      rw [f_X_bands_L23]
      refine Ok.ite (fun _ => Ok.t) (fun hc => ?_)
      rw [z_i 44, nI_leI (by omega) (by omega)] at hc
      have hx := fun v => ih (i + 1) v (by omega) (by omega)
      rw [← nI_1] at hx
      refine Ok.ain hl (by decide) (Ok.b1 (s_rowStart g hl _) (fun _ _ => Ok.ain hl (by decide) (Ok.b1 (s_rowStart g hl _) (fun _ _ => ?_))))
      exact Ok.k1 (fun _ => True) (fun _ => True) (fun v _ => Ok.nm (hx v)) (fun K hK => Ok.ite (fun _ => hK _ trivial) (fun _ => Ok.ite (fun _ => hK _ trivial) (fun _ => Ok.nm (hK _ trivial))))
  exact Ok.b1 (L N 0 0 (by omega) (by omega)) (fun _ _ => Ok.t)
theorem s_x_before (g : GOK R C H V rc cc br zc rw sh) (hN : 100000 ≤ N) (a1 a2 a3 a4 a5 a6 : Int32) (f1 : Nat → Int32) (n1 : Int32) (f2 : Nat → Int32) (n2 p q r : Int32) : Ok (f_X_before N a1 a2 a3 a4 a5 a6 f1 n1 f2 n2 rc cc br zc rw sh p q r) (fun _ => True) := by
  unfold f_X_before
  refine Ok.b1 (s_areSheets g p q r) (fun v1 h1 => Ok.ite (fun _ => Ok.t) (fun n1 => ?_))
  obtain ⟨⟨l, k, hl, rfl, rfl, hk⟩, -⟩ := h1 n1
  refine Ok.b6 (s_putA g hN hl _ _ _ _ _ _ _) (fun x1 x2 x3 x4 x5 x6 hx => ?_)
  obtain ⟨r1, s1, p1, L, c1, hx, h1, h2⟩ := hx
  cases hx
  refine Ok.b2 (s_write g hN hl _ _ _ _ _) (fun f8 v9 h9 => ?_)
  refine Ok.b6 (s_putA g hN hl _ _ _ _ _ _ _) (fun x1 x2 x3 x4 x5 x6 hx => ?_)
  obtain ⟨r1, s1, p1, L, c1, hx, h1, h2⟩ := hx
  cases hx
  refine Ok.b2 (s_write g hN hl _ _ _ _ _) (fun f16 v17 h17 => ?_)
  exact Ok.b1 (s_against hN f8 f16 h9 h17) (fun _ _ => Ok.t)
theorem s_x_box (g : GOK R C H V rc cc br zc rw sh) (hN : 100000 ≤ N) (b1 b2 b3 b4 p1 p2 p3 p4 p5 p6 : Int32) : Ok (f_X_box N b1 b2 b3 b4 br zc rw sh p1 p2 p3 p4 p5 p6) (fun _ => True) := by
  unfold f_X_box
  refine Ok.b1 (s_isBox p1 p2 p3 p4) (fun v1 h1 => Ok.ite (fun _ => Ok.t) (fun n1 => Ok.b1 (s_isLevel p5) (fun v2 h2 => Ok.ite (fun _ => Ok.t) (fun n2 => Ok.ite (fun _ => ?_) (fun _ => Ok.t)))))
  obtain ⟨l, hl, rfl⟩ := h2 n2
  unfold f_Box_set
  rw [q_b4_s]
  refine Ok.b1 (s_sheetsAt g hN hl _ _ _ _) (fun v7 _ => Ok.ite (fun _ => Ok.t) (fun _ => Ok.ite (fun _ => Ok.t) (fun _ => ?_)))
  exact Ok.b1 (s_sheetAt g hN hl _ _ _ _ _) (fun _ _ => Ok.t)
theorem s_x_changes (g : GOK R C H V rc cc br zc rw sh) (hN : 100000 ≤ N) (p1 p2 p3 p4 p5 p6 : Int32) : Ok (f_X_changes N br zc rw sh p1 p2 p3 p4 p5 p6) (fun _ => True) := by
  unfold f_X_changes
  refine Ok.b1 (s_isPlace p1 p2) (fun _ _ => Ok.ite (fun _ => Ok.t) (fun _ => Ok.b1 (s_isPlace p3 p4) (fun _ _ => Ok.ite (fun _ => Ok.t) (fun _ => Ok.b1 (s_isFrom p5 _ _) (fun v3 h3 => Ok.ite (fun _ => Ok.t) (fun n3 => Ok.b1 (s_isLevel p6) (fun v4 h4 => Ok.ite (fun _ => Ok.t) (fun n4 => Ok.nm ?_))))))))
  obtain ⟨l, hl, rfl⟩ := h4 n4
  have h5 := z_if1 h3 n3
  rw [show (1 : Int32).toInt = 1 from rfl, show (200 : Int32).toInt = 200 from rfl] at h5
  obtain ⟨m, m1, rfl, m3⟩ := z_nat (r := p5) (by omega)
  have hne : nI m ≠ 0 := nI_ne0 (by omega) (by omega)
  have L : ∀ n i (a b : Int32), i ≤ m + 1 → m + 1 - i < n → Ok (f_X_changes_L58 br rw sh zc p1 p2 p3 p4 (nI m) (nI l) n a b (nI i)) (fun _ => True) := by
    intro n
    induction n with
    | zero => intro i a b _ h; omega
    | succ n ih =>
      intro i a b hi hn
      rw [f_X_changes_L58]
      refine Ok.ite (fun _ => Ok.t) (fun hc => ?_)
      rw [nI_ltI (by omega) (by omega)] at hc
      have hx := fun v w => ih (i + 1) v w (by omega) (by omega)
      rw [← nI_1] at hx
      refine Ok.b1 (s_fdI hne) (fun _ _ => Ok.nm (Ok.b1 (s_fdI hne) (fun _ _ => Ok.nm (Ok.b1 (s_keyOf g hl _ _) (fun v16 _ => ?_)))))
      exact Ok.k1 (fun _ => True) (fun _ => True) (fun v _ => Ok.nm (hx v v16)) (fun K hK => Ok.ite (fun _ => hK _ trivial) (fun _ => Ok.nm (hK _ trivial)))
  exact Ok.b1 (s_keyOf g hl _ _) (fun v6 _ => Ok.nm (Ok.b1 (L N 1 0 v6 (by omega) (by omega)) (fun _ _ => Ok.t)))
theorem s_x_child (g : GOK R C H V rc cc br zc rw sh) (hN : 100000 ≤ N) (a1 a2 a3 a4 a5 a6 p q t i : Int32) : Ok (f_X_child N a1 a2 a3 a4 a5 a6 br zc rw sh p q t i) (fun _ => True) := by
  unfold f_X_child
  refine Ok.b1 (s_hasSheet g p q) (fun v1 h1 => Ok.ite (fun _ => Ok.t) (fun n1 => Ok.b1 (s_isFrom t p 4) (fun v2 h2 => Ok.ite (fun _ => Ok.t) (fun n2 => Ok.ite (fun _ => ?_) (fun _ => Ok.t)))))
  obtain ⟨l, k, hl, rfl, rfl, hk⟩ := h1 n1
  have ht := z_if1 h2 n2
  rw [nI_toInt (by omega), show (4 : Int32).toInt = 4 from rfl] at ht
  obtain ⟨j, j1, rfl, j3⟩ := z_nat (r := t) (by omega)
  refine Ok.b6 (s_putA g hN hl _ _ _ _ _ _ _) (fun x1 x2 x3 x4 x5 x6 hx => ?_)
  obtain ⟨r1, s1, p1, L, c1, hx, h1, h2⟩ := hx
  cases hx
  refine Ok.b1 (s_piecesAt g (t := j) (by omega) (by omega) _) (fun _ _ => Ok.ite (fun _ => Ok.t) (fun _ => Ok.ite (fun _ => Ok.t) (fun _ => ?_)))
  exact Ok.b1 (s_pieceAt g (t := j) (by omega) (by omega) _ _ _ _) (fun _ _ => Ok.t)
theorem s_x_common (g : GOK R C H V rc cc br zc rw sh) (hN : 100000 ≤ N) (p1 p2 p3 p4 : Int32) : Ok (f_X_common N br zc rw sh p1 p2 p3 p4) (fun _ => True) := by
  unfold f_X_common
  refine Ok.b1 (s_isPlace p1 p2) (fun _ _ => Ok.ite (fun _ => Ok.t) (fun _ => Ok.b1 (s_isPlace p3 p4) (fun _ _ => Ok.ite (fun _ => Ok.t) (fun _ => Ok.nm ?_))))
  have L : ∀ n i, i < 5 → i + 1 < n → Ok (f_X_common_L22 br rw sh zc p1 p2 p3 p4 n (nI i)) (fun _ => True) := by
    intro n
    induction n with
    | zero => intro i _ h; omega
    | succ n ih =>
      intro i hi hn
      rw [f_X_common_L22]
      refine Ok.ite (fun _ => Ok.t) (fun _ => Ok.b1 (s_keyOf g hi _ _) (fun _ _ => Ok.b1 (s_keyOf g hi _ _) (fun _ _ => Ok.ite (fun _ => Ok.t) (fun _ => Ok.nm ?_))))
      rw [Int32.add_neg_eq_sub]
      rcases Nat.eq_zero_or_pos i with h | h
      · subst h
        obtain ⟨n, rfl⟩ : ∃ k, n = k + 1 := ⟨n - 1, by omega⟩
        rw [f_X_common_L22, if_pos (by decide)]; exact Ok.t
      · rw [z_sub1 (by omega)]; exact ih (i - 1) (by omega) (by omega)
  exact Ok.s0 (L N 4 (by omega) (by omega)) (fun _ => Ok.t) (fun _ _ => trivial)
theorem z_nn {i : Int32} (h : -1 ≤ i) (hne : ¬ i = -1) : 0 ≤ i.toInt := by
  have a := z_le.mp h
  rw [show (-1 : Int32).toInt = -1 from rfl] at a
  rcases Int.lt_or_le i.toInt 0 with z | z
  · exfalso
    have : i.toInt = (-1 : Int32).toInt := by rw [show (-1 : Int32).toInt = -1 from rfl]; omega
    exact hne (Int32.toInt_inj.mp this)
  · exact z
theorem z_nle {a b : Int32} (h : ¬ a ≤ b) : b.toInt < a.toInt := by
  have : ¬ a.toInt ≤ b.toInt := fun z => h (z_le.mpr z)
  omega
theorem s_x_corners (g : GOK R C H V rc cc br zc rw sh) (hN : 100000 ≤ N) (f : Nat → Int32) (c a1 a2 a3 a4 a5 a6 p q i : Int32) : Ok (f_X_corners N f c a1 a2 a3 a4 a5 a6 br zc rw sh p q i) (fun _ => True) := by
  unfold f_X_corners
  refine Ok.b1 (s_hasSheet g p q) (fun v1 h1 => Ok.ite (fun _ => Ok.t) (fun n1 => Ok.ite (fun hi => ?_) (fun _ => Ok.t)))
  obtain ⟨l, k, hl, rfl, rfl, hk⟩ := h1 n1
  refine Ok.b6 (s_putA g hN hl _ _ _ _ _ _ _) (fun x1 x2 x3 x4 x5 x6 hx => ?_)
  obtain ⟨r1, s1, p1, L, c1, hx, h1, h2⟩ := hx
  cases hx
  refine Ok.b2 (s_lookAtCorners g hN hl f c _ _ _ h1 h2) (fun f8 v9 h9 => Ok.ite (fun _ => Ok.t) (fun hne => Ok.ite (fun _ => Ok.t) (fun hc => ?_)))
  have h0 := z_nn hi hne
  have h3 := z_nle hc
  simp only at h9
  exact Ok.ai ⟨h0, by omega⟩ Ok.t
theorem s_x_count (a b c d e f h p : Int32) : Ok (f_X_count a b c d e f h p) (fun _ => True) := by
  unfold f_X_count
  (repeat' first | exact Ok.t | with_reducible refine Ok.ite (fun _ => ?_) (fun _ => ?_) | with_reducible refine Ok.nm ?_ | with_reducible refine Ok.j0 ?_ | with_reducible refine Ok.j1 ?_ | with_reducible refine Ok.j2 ?_ | (with_reducible apply Ok.ain <;> try first | assumption | decide) | (with_reducible apply Ok.asn <;> try first | assumption | decide) | (with_reducible apply Ok.ai <;> try first | assumption | decide) | (with_reducible apply Ok.as <;> try first | assumption | decide))
theorem s_x_cover (g : GOK R C H V rc cc br zc rw sh) (hN : 1000000 ≤ N) (b1 b2 b3 b4 p1 p2 p3 p4 p5 p6 : Int32) : Ok (f_X_cover N b1 b2 b3 b4 rc cc br zc rw sh p1 p2 p3 p4 p5 p6) (fun _ => True) := by
  unfold f_X_cover
  refine Ok.b1 (s_isBox p1 p2 p3 p4) (fun v1 h1 => Ok.ite (fun _ => Ok.t) (fun n1 => Ok.b1 (s_isLevel p5) (fun v2 h2 => Ok.ite (fun _ => Ok.t) (fun n2 => Ok.ite (fun _ => ?_) (fun _ => Ok.t)))))
  obtain ⟨l, hl, rfl⟩ := h2 n2
  obtain ⟨⟨w, hw, rfl⟩, ⟨e, he, rfl⟩⟩ := h1 n1
  unfold f_Box_set
  rw [q_b4_s]
  refine Ok.b1 (s_sheetsAt g (by omega) hl _ _ _ _) (fun v7 _ => Ok.ite (fun _ => Ok.nm (Ok.nm ?_)) (fun _ => Ok.t))
  have L : ∀ n i (a : Int32), i ≤ l + 1 → l + 1 - i < n → Ok (f_X_cover_L63 N br cc rc rw sh zc (nI l) p6 p1 p2 (nI w) (nI e) n a (nI i)) (fun _ => True) := by
    intro n
    induction n with
    | zero => intro i a _ h; omega
    | succ n ih =>
      intro i a hi hn
      rw [f_X_cover_L63]
      refine Ok.ite (fun _ => Ok.t) (fun hc => ?_)
      rw [nI_ltI (by omega) (by omega)] at hc
      have hx := fun v => ih (i + 1) v (by omega) (by omega)
      rw [← nI_1] at hx
      refine Ok.b1 (s_coverAt g hN (l := i) (t := l) (by omega) hl p1 p2 hw he) (fun v13 _ => ?_)
      refine Ok.k0 (fun _ => True) (Ok.nm (Ok.nm (hx _))) (fun K hK => Ok.ite (fun _ => hK) (fun _ => Ok.ite (fun _ => hK) (fun _ => ?_)))
      exact Ok.b1 (s_coverSheet g hN (l := i) (t := l) (by omega) hl p1 p2 _ hw he) (fun _ _ => Ok.t)
  exact Ok.s1 (L N 0 0 (by omega) (by omega)) (fun _ _ => Ok.ite (fun _ => Ok.t) (fun _ => Ok.t)) (fun _ _ => trivial)
theorem s_x_drop (g : GOK R C H V rc cc br zc rw sh) (hN : 100000 ≤ N) {sl sk sy : Nat → Int32} {m : Nat} (hs : z_st sl m) (p q : Int32) : Ok (f_X_drop N sl sk sy (nI m) br zc rw sh p q) (fun x => ∃ m', x.2.2.2.2 = nI m' ∧ z_st x.2.1 m') := by
  have hm := hs.1
  unfold f_X_drop
  refine Ok.b1 (s_hasSheet g p q) (fun v1 h1 => Ok.ite (fun _ => Ok.ret ⟨m, rfl, hs⟩) (fun n1 => ?_))
  obtain ⟨l, k, hl, rfl, rfl, hk⟩ := h1 n1
  refine Ok.b1 (s_storedLevel g hl _) (fun v2 h2 => ?_)
  have h2' : ∃ t, t ≤ l ∧ v2 = nI t := by
    rcases h2 with h | h
    · exact ⟨0, by omega, h⟩
    · exact ⟨l, Nat.le_refl l, h⟩
  obtain ⟨t, ht, rfl⟩ := h2'
  refine Ok.b1 (s_keyAbove g hN hl ht _) (fun v3 _ => Ok.b1 (s_find hN _ _ sl sk hm) (fun v4 h4 => Ok.ite (fun _ => Ok.ret ⟨m, rfl, hs⟩) (fun hne => ?_)))
  rcases h4 with h | ⟨j, hj, rfl⟩
  · exact absurd h hne
  · exact Ok.ain (by omega) (by decide) (Ok.b4 (s_remove hN hs hj) (fun f6 f7 f8 v9 h => Ok.ret ⟨m - 1, h.1, h.2⟩))
theorem s_x_store (g : GOK R C H V rc cc br zc rw sh) (hN : 100000 ≤ N) {sl sk sy : Nat → Int32} {m : Nat} (hs : z_st sl m) (p q y : Int32) : Ok (f_X_store N sl sk sy (nI m) br zc rw sh p q y) (fun x => ∃ m', x.2.2.2.2 = nI m' ∧ z_st x.2.1 m') := by
  unfold f_X_store
  refine Ok.b1 (s_hasSheet g p q) (fun v1 h1 => Ok.ite (fun _ => Ok.ret ⟨m, rfl, hs⟩) (fun n1 => Ok.b1 (s_isFrom y _ _) (fun _ _ => Ok.ite (fun _ => Ok.ret ⟨m, rfl, hs⟩) (fun _ => ?_))))
  obtain ⟨l, k, hl, rfl, rfl, hk⟩ := h1 n1
  refine Ok.b1 (s_storedLevel g hl _) (fun v2 h2 => ?_)
  have h2' : ∃ t, t ≤ l ∧ v2 = nI t := by
    rcases h2 with h | h
    · exact ⟨0, by omega, h⟩
    · exact ⟨l, Nat.le_refl l, h⟩
  obtain ⟨t, ht, rfl⟩ := h2'
  refine Ok.b1 (s_keyAbove g hN hl ht _) (fun v3 _ => Ok.b5 (s_stput hN hs (by omega) _ _) (fun v5 f6 f7 f8 v9 h => ?_))
  exact Ok.ite (fun _ => Ok.ret h.2) (fun _ => Ok.ret h.2)
end SX
