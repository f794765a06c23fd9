/-! the class's own methods, the last: walks, questions, kept, cut, drawn, edge, lacks -/
section SZ
variable {R C H V : Nat → Nat} {rc cc br zc rw sh : Nat → Int32} {N l : Nat}
theorem s_isLacking (g : GOK R C H V rc cc br zc rw sh) (hN : 100000 ≤ N) (hl : l < 5) {sl sk sy : Nat → Int32} {m : Nat} (hs : z_st sl m) (a1 a2 a3 a4 a5 a6 : Int32) (kt : Nat → Int32) (a b c k y : Int32) : Ok (f_X_isLacking N a1 a2 a3 a4 a5 a6 sl sk sy kt (nI m) a b c br zc rw sh (nI l) k y) (fun _ => True) := by
  unfold f_X_isLacking
  refine Ok.b6 (s_putA g hN hl _ _ _ _ _ _ _) (fun x1 x2 x3 x4 x5 x6 hx => ?_)
  obtain ⟨r1, s1, p1, L, c1, hx, h1, h2⟩ := hx
  cases hx
  refine Ok.b1 (s_middleLat g hl h1 h2 _ _ _) (fun _ _ => Ok.b1 (s_middleLon g hl h1 h2 _ _ _) (fun _ _ => Ok.b4 (s_lookAt g hN hs kt _ _ _ _ _) (fun _ _ _ _ _ => ?_)))
  (repeat' first | exact Ok.t | with_reducible refine Ok.ite (fun _ => ?_) (fun _ => ?_) | with_reducible refine Ok.nm ?_ | with_reducible refine Ok.j0 ?_ | with_reducible refine Ok.j1 ?_ | with_reducible refine Ok.j2 ?_ | (with_reducible apply Ok.ain <;> try first | assumption | decide) | (with_reducible apply Ok.asn <;> try first | assumption | decide) | (with_reducible apply Ok.ai <;> try first | assumption | decide) | (with_reducible apply Ok.as <;> try first | assumption | decide))
theorem s_lacks_L117 (g : GOK R C H V rc cc br zc rw sh) (hN : 100000 ≤ N) (hl : l < 5) {sl sk sy : Nat → Int32} {m : Nat} (hs : z_st sl m) (y i r M b1 b2 b3 b4 : Int32) : ∀ (n : Nat) (v1 v2 a1 a2 a3 a4 a5 a6 : Int32) (kt : Nat → Int32) (a b c : Int32), (M.toInt - v2.toInt).toNat < n → Ok (f_X_lacks_L117 N br rw sh zc (nI l) y i sk sl (nI m) sy r M b1 b2 b3 b4 n v1 v2 a1 a2 a3 a4 a5 a6 kt a b c) (fun _ => True) := by
  intro n
  induction n with
  | zero => intro v1 v2 a1 a2 a3 a4 a5 a6 kt a b c h; omega
  | succ n ih =>
    intro v1 v2 a1 a2 a3 a4 a5 a6 kt a b c h
    rw [f_X_lacks_L117]
    refine Ok.ite (fun _ => Ok.t) (fun hc => Ok.b1 (s_keyFromWest g hl _ _ _) (fun _ _ => Ok.b11 (s_isLacking g hN hl hs _ _ _ _ _ _ _ _ _ _ _ _) (fun _ _ _ _ _ _ _ _ _ _ _ _ => ?_)))
    exact Ok.k1 (fun _ => True) (fun _ => True) (fun v _ => Ok.nm (ih _ _ _ _ _ _ _ _ _ _ _ _ (z_upm hc h))) (fun K hK => Ok.ite (fun _ => hK _ trivial) (fun _ => Ok.ite (fun _ => Ok.t) (fun _ => Ok.nm (hK _ trivial))))
theorem s_lacks_L94 (g : GOK R C H V rc cc br zc rw sh) (hN : 1000000 ≤ N) (hl : l < 5) {sl sk sy : Nat → Int32} {m : Nat} (hs : z_st sl m) (y i B b1 b2 : Int32) (hB : B.toInt ≤ 413161) {w e : Nat} (hw : w < 1296000) (he : e < 1296000) : ∀ (n : Nat) (v1 v2 a1 a2 a3 a4 a5 a6 : Int32) (kt : Nat → Int32) (a b c : Int32), (B.toInt + 1 - v2.toInt).toNat < n → Ok (f_X_lacks_L94 N br rw sh zc (nI l) y i sk sl (nI m) sy B b1 b2 (nI w) (nI e) n v1 v2 a1 a2 a3 a4 a5 a6 kt a b c) (fun _ => True) := by
  intro n
  induction n with
  | zero => intro v1 v2 a1 a2 a3 a4 a5 a6 kt a b c h; omega
  | succ n ih =>
    intro v1 v2 a1 a2 a3 a4 a5 a6 kt a b c h
    rw [f_X_lacks_L94]
    refine Ok.ite (fun _ => Ok.t) (fun hc => Ok.b1 (s_inRowB g hl hw he v2) (fun M hM => Ok.nm ?_))
    refine Ok.s11 (s_lacks_L117 g (by omega) hl hs y i v2 M b1 b2 _ _ N v1 0 _ _ _ _ _ _ _ _ _ _ ?_) (fun _ _ _ _ _ _ _ _ _ _ _ _ => Ok.nm (ih _ _ _ _ _ _ _ _ _ _ _ _ (z_upm2 hB (by omega) hc h))) (fun _ _ => trivial)
    rw [show (0 : Int32).toInt = 0 from rfl]; omega
theorem s_x_lacks (g : GOK R C H V rc cc br zc rw sh) (hN : 1000000 ≤ N) {sl sk sy : Nat → Int32} {m : Nat} (hs : z_st sl m) (a1 a2 a3 a4 a5 a6 b1 b2 b3 b4 : Int32) (kt : Nat → Int32) (a b c p1 p2 p3 p4 p5 p6 p7 : Int32) : Ok (f_X_lacks N a1 a2 a3 a4 a5 a6 b1 b2 b3 b4 sl sk sy kt (nI m) a b c br zc rw sh p1 p2 p3 p4 p5 p6 p7) (fun _ => True) := by
  unfold f_X_lacks
  refine Ok.b1 (s_isBox p1 p2 p3 p4) (fun v1 h1 => Ok.ite (fun _ => Ok.t) (fun n1 => Ok.b1 (s_isLevel p5) (fun v2 h2 => Ok.ite (fun _ => Ok.t) (fun n2 => Ok.b1 (s_isFrom p6 _ _) (fun _ _ => Ok.ite (fun _ => Ok.t) (fun _ => Ok.ite (fun _ => ?_) (fun _ => Ok.t)))))))
  obtain ⟨l, hl, rfl⟩ := h2 n2
  obtain ⟨⟨w, hw, rfl⟩, ⟨e, he, rfl⟩⟩ := h1 n1
  have hv := g.2.hv hl
  unfold f_Box_set
  rw [q_b4_s]
  refine Ok.b1 (s_sheetsAt g (by omega) hl _ _ _ _) (fun v8 _ => Ok.ite (fun _ => Ok.nm ?_) (fun _ => Ok.t))
  refine Ok.b1 (s_bottomRow g hl p1) (fun v10 h10 => Ok.b1 (s_topRow g hl p2) (fun v11 h11 => ?_))
  obtain ⟨x, rfl, hx⟩ := h10
  obtain ⟨z, rfl, hz⟩ := h11
  have ea : (nI x).toInt = (x : Int) := nI_toInt (by omega)
  have eb : (nI z).toInt = (z : Int) := nI_toInt (by omega)
  exact Ok.s11 (s_lacks_L94 g hN hl hs p6 p7 (nI x) p1 p2 (by omega) hw he N 0 (nI z) _ _ _ _ _ _ _ _ _ _ (by omega)) (fun _ _ _ _ _ _ _ _ _ _ _ _ => Ok.ite (fun _ => Ok.t) (fun _ => Ok.t)) (fun _ _ => trivial)
theorem z_lcmpge {x : Int64} (h : 0 ≤ lg_cmp x 1) : x ≠ 0 := by
  intro e
  rw [e] at h
  exact absurd h (by decide)
theorem s_commonDivisor (hN : 100000 ≤ N) (x y : Int64) : Ok (f_X_commonDivisor N x y) (fun _ => True) := by
  have L : ∀ n i (a b : Int64), i ≤ 200 → 200 - i < n → Ok (f_X_commonDivisor_L9 n a b (nI i)) (fun _ => True) := by
    intro n
    induction n with
    | zero => intro i a b _ h; omega
    | succ n ih =>
      intro i a b hi hn
      rw [f_X_commonDivisor_L9]
      refine Ok.ite (fun _ => Ok.t) (fun hc => Ok.ite (fun _ => Ok.t) (fun h0 => ?_))
      rw [z_i 200, nI_leI (by omega) (by omega)] at hc
      refine Ok.rml (fun e => h0 (z_lcmpE.mpr e)) (Ok.nm ?_)
      rw [nI_1]; exact ih (i + 1) _ _ (by omega) (by omega)
  unfold f_X_commonDivisor
  exact Ok.nm (Ok.b1 (L N 0 x y (by omega) (by omega)) (fun _ _ => Ok.t))
theorem s_x_edge (g : GOK R C H V rc cc br zc rw sh) (hN : 100000 ≤ N) (a1 a2 a3 a4 a5 a6 p q w : Int32) : Ok (f_X_edge N a1 a2 a3 a4 a5 a6 br zc rw sh p q w) (fun _ => True) := by
  unfold f_X_edge
  refine Ok.b1 (s_hasSheet g p q) (fun v1 h1 => Ok.ite (fun _ => Ok.t) (fun n1 => Ok.b1 (s_isFrom w _ _) (fun _ _ => Ok.ite (fun _ => Ok.t) (fun _ => ?_))))
  obtain ⟨l, k, hl, rfl, rfl, hk⟩ := h1 n1
  refine Ok.b6 (s_putA g hN hl _ _ _ _ _ _ _) (fun x1 x2 x3 x4 x5 x6 hx => ?_)
  obtain ⟨r1, s1, p1, L, c1, hx, h1, h2⟩ := hx
  cases hx
  refine Ok.dv (by decide) (Ok.b1 (s_edgeTop hl _ _ _ _) (fun _ _ => Ok.dv (by decide) (Ok.b1 (s_edgeBottom g hl h1 h2 _ _) (fun _ _ => Ok.nm (Ok.b1 (s_commonDivisor hN _ _) (fun v14 _ => Ok.ite (fun h => ?_) (fun _ => Ok.t)))))))
  exact Ok.rm (by decide) (Ok.ite (fun _ => Ok.dvl (z_lcmpge h) Ok.t) (fun _ => Ok.dvl (z_lcmpge h) Ok.t))
theorem s_isSeen (hN : 100000 ≤ N) (f : Nat → Int32) (k m : Int32) : Ok (f_X_isSeen N f k m) (fun _ => True) := by
  have L : ∀ n i, i ≤ 200 → 200 - i < n → Ok (f_X_isSeen_L2 k m f n (nI i)) (fun _ => True) := by
    intro n
    induction n with
    | zero => intro i _ h; omega
    | succ n ih =>
      intro i hi hn
      rw [f_X_isSeen_L2]
      refine Ok.ite (fun _ => Ok.t) (fun _ => Ok.ite (fun _ => Ok.t) (fun hc => ?_))
      rw [z_i 200, nI_leI (by omega) (by omega)] at hc
      refine Ok.ain (by omega) (by decide) (Ok.ite (fun _ => Ok.t) (fun _ => Ok.nm ?_))
      rw [nI_1]; exact ih (i + 1) (by omega) (by omega)
  unfold f_X_isSeen
  exact Ok.nm (Ok.s0 (L N 0 (by omega) (by omega)) (fun _ => Ok.t) (fun _ _ => trivial))
theorem s_x_drawn (g : GOK R C H V rc cc br zc rw sh) (hN : 100000 ≤ N) (f : Nat → Int32) (p q r : Int32) : Ok (f_X_drawn N f br zc rw sh p q r) (fun _ => True) := by
  unfold f_X_drawn
  refine Ok.b1 (s_isFrom q _ _) (fun v1 h1 => Ok.ite (fun _ => Ok.t) (fun n1 => Ok.b1 (s_isLevel r) (fun v2 h2 => Ok.ite (fun _ => Ok.t) (fun n2 => Ok.nm (Ok.nm (Ok.nm ?_))))))
  obtain ⟨l, hl, rfl⟩ := h2 n2
  have hq := z_if1 h1 n1
  rw [show (1 : Int32).toInt = 1 from rfl, show (200 : Int32).toInt = 200 from rfl] at hq
  obtain ⟨m, m1, rfl, m3⟩ := z_nat (r := q) (by omega)
  have L : ∀ n i j (x : Int32) (f : Nat → Int32), i ≤ m → m - i < n → j ≤ 200 → Ok (f_X_drawn_L33 N br rw sh zc (nI m) (nI l) n x (nI j) (nI i) f) (fun _ => True) := by
    intro n
    induction n with
    | zero => intro i j x f _ h; omega
    | succ n ih =>
      intro i j x f hi hn hj
      rw [f_X_drawn_L33]
      refine Ok.ite (fun _ => Ok.t) (fun hc => ?_)
      rw [nI_leI (by omega) (by omega)] at hc
      have hx := fun j x f hj => ih (i + 1) j x f (by omega) (by omega) hj
      rw [← nI_1] at hx
      unfold f_X_nextDraw
      rw [q_b1_s]
      refine Ok.dv (by decide) (Ok.rm (by decide) (Ok.nm ?_))
      rw [q_b1_s]
      refine Ok.dv (by decide) (Ok.rm (by decide) (Ok.nm (Ok.b1 (s_keyOf g hl _ _) (fun _ _ => Ok.b1 (s_isSeen hN _ _ _) (fun _ _ => ?_)))))
      refine Ok.k2 (fun v _ => ∃ j, j ≤ 200 ∧ v = nI j) (fun _ => True) (fun v f h => ?_) (fun K hK => Ok.ite (fun _ => Ok.ite (fun _ => hK _ _ ⟨j, hj, rfl⟩) (fun h2 => ?_)) (fun _ => hK _ _ ⟨j, hj, rfl⟩))
      · obtain ⟨j, hj, rfl⟩ := h
        exact Ok.nm (hx j _ f hj)
      · rw [z_i 200, nI_leI (by omega) (by omega)] at h2
        exact Ok.asn (by omega) (by decide) (Ok.nm (hK _ _ ⟨j + 1, by omega, nI_1 j⟩))
  exact Ok.b2 (L N 0 0 _ f (by omega) (by omega) (by omega)) (fun _ _ _ => Ok.t)
/-! kept -/
theorem s_x_keep (g : GOK R C H V rc cc br zc rw sh) (hN : 100000 ≤ N) {k : Nat} (hk : k < 8) {sl sk sy : Nat → Int32} {m : Nat} (hs : z_st sl m) (a1 a2 a3 a4 : Int32) (c1 c2 c3 c4 : Int32) (sl2 sk2 sy2 : Nat → Int32) (ss2 : Int32) (rc2 cc2 br2 zc2 rw2 sh2 : Nat → Int32) : Ok (f_X_keep N k (nI k) a1 a2 a3 a4 sl sk sy (nI m) rc cc c1 c2 c3 c4 sl2 sk2 sy2 ss2 rc2 cc2 br2 zc2 rw2 sh2) (fun x => x.1 = nI (k + 1) ∧ x.2.1 = nI (k + 1) ∧ x.2.2.2.2.2.2.2.2.2.1 = nI m ∧ z_st x.2.2.2.2.2.2.1 m ∧ z_kg R C x.2.2.2.2.2.2.2.2.2.2.1 x.2.2.2.2.2.2.2.2.2.2.2.1) := by
  unfold f_X_keep
  refine Ok.ite (fun _ => ?_) (fun h => absurd (by rw [z_i 8, nI_ltI (by omega) (by omega)]; exact hk) h)
  unfold q_kx
  rw [if_pos ⟨rfl, hk⟩]
  refine Ok.b14 (s_acopy g.kg hN hs _ _ _ _ sl2 sk2 sy2 ss2 rc2 cc2 br2 zc2 rw2 sh2 _ _ _ _ sk sy) (fun v1 v2 v3 v4 f5 f6 f7 v8 f9 f10 f11 f12 f13 f14 h => Ok.nm (Ok.ret ?_))
  exact ⟨nI_1 k, nI_1 k, h.1, h.2.1, h.2.2.kg⟩
theorem s_x_keepNo {k : Nat} (c8 : Int32) (hc : ¬ c8 < 8) (a1 a2 a3 a4 : Int32) (sl sk sy : Nat → Int32) (ss : Int32) (rc cc : Nat → Int32) (c1 c2 c3 c4 : Int32) (sl2 sk2 sy2 : Nat → Int32) (ss2 : Int32) (rc2 cc2 br2 zc2 rw2 sh2 : Nat → Int32) : f_X_keep N k c8 a1 a2 a3 a4 sl sk sy ss rc cc c1 c2 c3 c4 sl2 sk2 sy2 ss2 rc2 cc2 br2 zc2 rw2 sh2 = some ((-1), c8, c1, c2, c3, c4, sl2, sk2, sy2, ss2, rc2, cc2, br2, zc2, rw2, sh2) := by
  unfold f_X_keep
  rw [if_neg hc]
theorem s_x_undo {R2 C2 : Nat → Nat} {rc2 cc2 : Nat → Int32} (h : z_kg R2 C2 rc2 cc2) (hN : 100000 ≤ N) {k : Nat} (hk : k < 8) {sl2 sk2 sy2 : Nat → Int32} {m2 : Nat} (hs : z_st sl2 m2) (a1 a2 a3 a4 : Int32) (sl sk sy : Nat → Int32) (ss : Int32) (c1 c2 c3 c4 : Int32) : Ok (f_X_undo N k (nI (k + 1)) a1 a2 a3 a4 sl sk sy ss rc cc br zc rw sh c1 c2 c3 c4 sl2 sk2 sy2 (nI m2) rc2 cc2) (fun x => x.1 = nI k ∧ x.2.1 = nI k ∧ x.2.2.2.2.2.2.2.2.2.1 = nI m2 ∧ z_st x.2.2.2.2.2.2.1 m2 ∧ GOK R2 C2 (z_pr R2) (z_pr C2) x.2.2.2.2.2.2.2.2.2.2.1 x.2.2.2.2.2.2.2.2.2.2.2.1 x.2.2.2.2.2.2.2.2.2.2.2.2.1 x.2.2.2.2.2.2.2.2.2.2.2.2.2.1 x.2.2.2.2.2.2.2.2.2.2.2.2.2.2.1 x.2.2.2.2.2.2.2.2.2.2.2.2.2.2.2) := by
  unfold f_X_undo
  refine Ok.ite (fun _ => ?_) (fun h => absurd (by rw [z_0lt (by omega)]; omega) h)
  rw [z_nm, z_sub1 (by omega), Nat.add_sub_cancel]
  unfold q_kx
  rw [if_pos ⟨rfl, hk⟩]
  refine Ok.b14 (s_acopy h hN hs _ _ _ _ sl sk sy ss rc cc br zc rw sh _ _ _ _ sk2 sy2) (fun v1 v2 v3 v4 f5 f6 f7 v8 f9 f10 f11 f12 f13 f14 h => Ok.ret ?_)
  exact ⟨rfl, rfl, h.1, h.2.1, h.2.2⟩
end SZ
