/-! the reference: cut, keep, undo -/
section MK
variable {R C H V : Nat → Nat} {cr cq dp wd za : Nat → Int32} {N l m s : Nat} {pl pk py : Nat → Int32}
theorem MOK.kg (g : MOK R C H V cr cq dp wd za) : z_kg R C cr cq := by
  have h4 := z_pr_eq g.2.2 4 (by omega)
  have h := g.2.2
  obtain ⟨a, b, -, -, -, c, d⟩ := h
  refine ⟨a, b, c, fun l hl => ⟨(g.1 l hl).1, (g.1 l hl).2.1⟩, ?_⟩
  rw [← h4.1, ← h4.2]; exact d
theorem z_mok (h : z_kg R C cr cq) (hza : ∀ q, q < 45 → za q = nI (z_za q)) (hg : ∀ l, l < 5 → dp l = nI (z_pr R l) ∧ wd l = nI (z_pr C l)) : MOK R C (z_pr R) (z_pr C) cr cq dp wd za := by
  obtain ⟨h1, h2, h3, h4, h5⟩ := h
  refine ⟨fun l hl => ⟨(h4 l hl).1, (h4 l hl).2, (hg l hl).1, (hg l hl).2⟩, hza, h1, h2, h1, h2, fun l _ => ⟨rfl, rfl⟩, h3, h5⟩
theorem z_kg_same {a b a2 b2 : Nat → Int32} (h : z_kg R C a b) (e : ∀ l, l < 5 → a2 l = a l ∧ b2 l = b l) : z_kg R C a2 b2 := by
  obtain ⟨h1, h2, h3, h4, h5⟩ := h
  exact ⟨h1, h2, h3, fun l hl => ⟨by rw [(e l hl).1]; exact (h4 l hl).1, by rw [(e l hl).2]; exact (h4 l hl).2⟩, h5⟩
theorem z_ps_same {a b a2 b2 : Nat → Int32} (h : z_ps H V a b m) (e : ∀ i, i < 60 → a2 i = a i ∧ b2 i = b i) : z_ps H V a2 b2 m := by
  obtain ⟨h1, h2⟩ := h
  refine ⟨h1, fun i hi => ?_⟩
  rw [(e i (by omega)).1, (e i (by omega)).2]
  exact h2 i hi
theorem t_laysGrids (h : z_kg R C cr cq) (hN : 1000000 ≤ N) (dp wd : Nat → Int32) : Ok (f_M_laysGrids N cr cq dp wd) (fun y => ∀ l, l < 5 → y.1 l = nI (z_pr R l) ∧ y.2 l = nI (z_pr C l)) := by
  obtain ⟨h1, h2, h3, h4, h5⟩ := h
  have L : ∀ n i (a b : Nat → Int32), i ≤ 4 → 4 - i + 1 < n → (∀ l, l < i + 1 → a l = nI (z_pr R l) ∧ b l = nI (z_pr C l)) → Ok (f_M_laysGrids_L16 cq cr n (nI (i + 1)) a b) (fun y => ∀ l, l < 5 → y.1 l = nI (z_pr R l) ∧ y.2 l = nI (z_pr C l)) := by
    intro n
    induction n with
    | zero => intro i a b _ h; omega
    | succ n ih =>
      intro i a b hi hn ha
      rw [f_M_laysGrids_L16]
      refine Ok.ite (fun hc => ?_) (fun hc => ?_)
      all_goals rw [z_i 5, nI_leI (by omega) (by omega)] at hc
      · exact Ok.ret (fun l hl => ha l (by omega))
      · rw [z_sub1 (by omega), Nat.add_sub_cancel, z_ai (by omega) (by omega), z_ai (by omega) (by omega), z_as (by omega) (by omega), z_ai (by omega) (by omega), z_ai (by omega) (by omega), z_as (by omega) (by omega), (ha i (by omega)).1, (ha i (by omega)).2, (h4 (i + 1) (by omega)).1, (h4 (i + 1) (by omega)).2, pk_mul, pk_mul, z_nm, nI_1]
        refine ih (i + 1) _ _ (by omega) (by omega) (fun l hl => ?_)
        by_cases e : l = i + 1
        · subst e; rw [z_updS, z_updS]; exact ⟨rfl, rfl⟩
        · rw [z_updN e, z_updN e]; exact ha l (by omega)
  unfold f_M_laysGrids
  refine Ok.as (by decide) (Ok.as (by decide) (Ok.nm (Ok.b2 (L N 0 _ _ (by omega) (by omega) (fun l hl => ?_)) (fun _ _ h => Ok.ret h))))
  have : l = 0 := by omega
  subst this
  have e1 : z_pr R 0 = 1 := h1
  have e2 : z_pr C 0 = 1 := h2
  rw [e1, e2]
  exact ⟨rfl, rfl⟩
theorem m_cut_L61 (hkg : z_kg R C cr cq) {v r c : Nat} (hv : 1 ≤ v) (hv4 : v ≤ 4) (hr : r ≤ 6) (hc : c ≤ 6) : ∀ n i, i ≤ 4 → 4 - i + 1 < n → f_M_cut_L61 cq cr (nI v) (nI r) (nI c) n (lN (2130 * (z_pr (z_up1 R v r) i * z_pr (z_up1 C v c) i))) (nI (i + 1)) = some (lN (2130 * (z_pr (z_up1 R v r) 4 * z_pr (z_up1 C v c) 4))) := by
  obtain ⟨h1, h2, h3, h4, -⟩ := hkg
  intro n
  induction n with
  | zero => intro i _ h; omega
  | succ n ih =>
    intro i hi hn
    rw [f_M_cut_L61]
    by_cases h5 : i = 4
    · subst h5
      rw [if_pos (by rw [z_i 5, nI_leI (by omega) (by omega)]; omega)]
    · rw [if_neg (by rw [z_i 5, nI_leI (by omega) (by omega)]; omega), z_j1]
      have hs : ∀ x, x = z_up1 R v r (i + 1) * z_up1 C v c (i + 1) → lN (2130 * (z_pr (z_up1 R v r) i * z_pr (z_up1 C v c) i)) * lN x = lN (2130 * (z_pr (z_up1 R v r) (i + 1) * z_pr (z_up1 C v c) (i + 1))) := by
        intro x hx
        rw [lN_mul, hx]
        congr 1
        show _ = 2130 * (z_pr (z_up1 R v r) i * z_up1 R v r (i + 1) * (z_pr (z_up1 C v c) i * z_up1 C v c (i + 1)))
        rw [Nat.mul_assoc, Nat.mul_mul_mul_comm]
      by_cases hiv : i + 1 = v
      · rw [if_pos (by rw [hiv])]
        dsimp only
        have hrc : r * c ≤ 36 := Nat.mul_le_mul hr hc
        rw [z_nm, z_nm, pk_mul, nI_l (by omega), hs (r * c) (by unfold z_up1; rw [if_pos hiv, if_pos hiv]), nI_1]
        exact ih (i + 1) (by omega) (by omega)
      · have hRC := h3 (i + 1) (by omega)
        have hb : R (i + 1) * C (i + 1) ≤ 36 := Nat.mul_le_mul hRC.2.1 hRC.2.2.2
        rw [if_neg (by rw [nI_eq (by omega) (by omega)]; exact hiv), z_ai (by omega) (by omega), z_ai (by omega) (by omega), (h4 (i + 1) (by omega)).1, (h4 (i + 1) (by omega)).2]
        dsimp only
        rw [z_nm, z_nm, pk_mul, nI_l (by omega), hs (R (i + 1) * C (i + 1)) (by unfold z_up1; rw [if_neg hiv, if_neg hiv]), nI_1]
        exact ih (i + 1) (by omega) (by omega)
theorem t_cut (g : MOK R C H V cr cq dp wd za) (hN : 1000000 ≤ N) (hm : m ≤ 60) (p q w : Int32) : Ok (f_M_cut N cr cq dp wd za (nI m) p q w) (fun y => ∃ R2 C2 H2 V2, MOK R2 C2 H2 V2 y.2.1 y.2.2.1 y.2.2.2.1 y.2.2.2.2 za ∧ (m = 0 ∨ (H2 = H ∧ V2 = V))) := by
  have no : ∀ a : Int32, Ok (some (a, cr, cq, dp, wd)) (fun y => ∃ R2 C2 H2 V2, MOK R2 C2 H2 V2 y.2.1 y.2.2.1 y.2.2.2.1 y.2.2.2.2 za ∧ (m = 0 ∨ (H2 = H ∧ V2 = V))) := fun a => Ok.ret ⟨R, C, H, V, g, Or.inr ⟨rfl, rfl⟩⟩
  unfold f_M_cut
  refine Ok.b1 (t_inN p 1 4 (by decide) (by decide)) (fun v1 h1 => Ok.ite (fun _ => no _) (fun n1 => Ok.b1 (t_inN q 1 6 (by decide) (by decide)) (fun v2 h2 => Ok.ite (fun _ => no _) (fun n2 => Ok.b1 (t_inN w 1 6 (by decide) (by decide)) (fun v3 h3 => Ok.ite (fun _ => no _) (fun n3 => Ok.ite (fun hle => ?_) (fun _ => no _)))))))
  obtain ⟨v, rfl, j1, j2⟩ := h1.2 n1
  obtain ⟨y, rfl, y1, y2⟩ := h2.2 n2
  obtain ⟨w, rfl, w1, w2⟩ := h3.2 n3
  rw [z_le0 (by omega)] at hle
  subst hle
  have hkg := g.kg
  have hkg' := hkg
  obtain ⟨k1, k2, k3, k4, -⟩ := hkg'
  have hR1 : ∀ l, l < 5 → 1 ≤ z_up1 R v y l ∧ z_up1 R v y l ≤ 6 ∧ 1 ≤ z_up1 C v w l ∧ z_up1 C v w l ≤ 6 := by
    intro l hl
    have := k3 l hl
    unfold z_up1
    split <;> omega
  have hR0 : z_up1 R v y 0 = 1 := by unfold z_up1; rw [if_neg (by omega)]; exact k1
  have hC0 : z_up1 C v w 0 = 1 := by unfold z_up1; rw [if_neg (by omega)]; exact k2
  have b1 := (z_pr_b hR0 (fun l hl => ⟨(hR1 l hl).1, (hR1 l hl).2.1⟩) 4 (by omega)).2
  have b2 := (z_pr_b hC0 (fun l hl => ⟨(hR1 l hl).2.2.1, (hR1 l hl).2.2.2⟩) 4 (by omega)).2
  have b3 := Nat.mul_le_mul b1 b2
  have e0 : lN 2130 = lN (2130 * (z_pr (z_up1 R v y) 0 * z_pr (z_up1 C v w) 0)) := by
    unfold z_pr
    rw [hR0, hC0]
  rw [z_i 44, z_ai (by omega) (by omega), g.2.1 44 (by omega), z_za_44, nI_l (by omega), z_nm, z_nm, z_i 1, e0, m_cut_L61 hkg j1 j2 y2 w2 N 0 (by omega) (by omega), q_b1_s, z_l 2, lN_add]
  refine Ok.ite (fun hle => ?_) (fun _ => no _)
  have hbig := z_cmple (b := 20000000) (by omega) (by omega) hle
  have hk2 : z_kg (z_up1 R v y) (z_up1 C v w) (upd cr v (nI y)) (upd cq v (nI w)) := by
    refine ⟨hR0, hC0, hR1, fun l hl => ?_, hbig⟩
    unfold z_up1
    by_cases e : l = v
    · subst e; rw [z_updS, z_updS, if_pos rfl, if_pos rfl]; exact ⟨rfl, rfl⟩
    · rw [z_updN e, z_updN e, if_neg e, if_neg e]; exact k4 l hl
  refine Ok.asn (by omega) (by decide) (Ok.asn (by omega) (by decide) (Ok.b2 (t_laysGrids hk2 hN dp wd) (fun f12 f13 h12 => ?_)))
  have gm := z_mok hk2 g.2.1 h12
  exact Ok.b1 (t_sheets gm (by omega)) (fun _ _ => Ok.ret ⟨_, _, _, _, gm, Or.inl rfl⟩)
def z_mk (kp : Nat → Int32) (s : Nat) : Prop := ∃ R2 C2 m2, z_kg R2 C2 (fun l => kp (194 * s + 2 * l)) (fun l => kp (194 * s + 2 * l + 1)) ∧ kp (194 * s + 10) = nI m2 ∧ z_ps (z_pr R2) (z_pr C2) (fun i => kp (194 * s + 14 + 3 * i)) (fun i => kp (194 * s + 14 + 3 * i + 1)) m2
theorem z_mk_same {kp kp2 : Nat → Int32} (h : z_mk kp s) (e : ∀ x, x < 194 * (s + 1) → kp2 x = kp x) : z_mk kp2 s := by
  obtain ⟨R2, C2, m2, h1, h2, h3⟩ := h
  refine ⟨R2, C2, m2, z_kg_same h1 (fun l hl => ⟨e _ (by omega), e _ (by omega)⟩), by rw [e _ (by omega)]; exact h2, z_ps_same h3 (fun i hi => ⟨e _ (by omega), e _ (by omega)⟩)⟩
theorem m_keeps {f : Nat → Int32} {a : Nat} (h : a < 1552) (v : Int32) : f_M_keeps f (nI a) v = some (upd f a v, nI (a + 1)) := by
  unfold f_M_keeps
  rw [z_as h (by omega), nI_1, z_nm]
theorem m_tells {f : Nat → Int32} {a : Nat} (h : a < 1552) : f_M_tells f (nI a) = some (f a, nI (a + 1)) := by
  unfold f_M_tells
  rw [nI_1, z_nm, z_sub1 (by omega), Nat.add_sub_cancel, z_ai h (by omega)]
theorem t_keep_L25 {B : Nat} (hB : B + 194 ≤ 1552) (kp : Nat → Int32) : ∀ n i (f : Nat → Int32), i ≤ 5 → 5 - i < n → (∀ x, x < B → f x = kp x) → (∀ l, l < i → f (B + 2 * l) = cr l ∧ f (B + 2 * l + 1) = cq l) → Ok (f_M_keep_L25 cq cr n (nI i) f (nI (B + 2 * i))) (fun y => y.2 = nI (B + 10) ∧ (∀ x, x < B → y.1 x = kp x) ∧ ∀ l, l < 5 → y.1 (B + 2 * l) = cr l ∧ y.1 (B + 2 * l + 1) = cq l) := by
  intro n
  induction n with
  | zero => intro i f _ h; omega
  | succ n ih =>
    intro i f hi hn h1 h2
    rw [f_M_keep_L25]
    refine Ok.ite (fun hc => ?_) (fun hc => ?_)
    all_goals rw [z_i 5, nI_leI (by omega) (by omega)] at hc
    · have : i = 5 := by omega
      subst this
      exact Ok.ret ⟨rfl, h1, h2⟩
    · rw [z_ai (by omega) (by omega), m_keeps (by omega), q_b2_s, z_ai (by omega) (by omega), m_keeps (by omega), q_b2_s, z_nm, nI_1]
      refine ih (i + 1) _ (by omega) (by omega) (fun x hx => ?_) (fun l hl => ?_)
      · rw [z_updN (by omega), z_updN (by omega)]; exact h1 x hx
      · by_cases e : l = i
        · subst e
          exact ⟨by rw [z_updN (by omega), z_updS], by rw [z_updS]⟩
        · rw [z_updN (by omega), z_updN (by omega), z_updN (by omega), z_updN (by omega)]
          exact h2 l (by omega)
theorem t_keep_L90 {B : Nat} (hB : B + 194 ≤ 1552) (kp : Nat → Int32) : ∀ n i (f : Nat → Int32), i ≤ 60 → 60 - i < n → (∀ x, x < B + 14 → f x = kp x) → (∀ l, l < i → f (B + 14 + 3 * l) = pl l ∧ f (B + 14 + 3 * l + 1) = pk l) → Ok (f_M_keep_L90 pk pl py n (nI i) f (nI (B + 14 + 3 * i))) (fun y => (∀ x, x < B + 14 → y.1 x = kp x) ∧ ∀ l, l < 60 → y.1 (B + 14 + 3 * l) = pl l ∧ y.1 (B + 14 + 3 * l + 1) = pk l) := by
  intro n
  induction n with
  | zero => intro i f _ h; omega
  | succ n ih =>
    intro i f hi hn h1 h2
    rw [f_M_keep_L90]
    refine Ok.ite (fun hc => ?_) (fun hc => ?_)
    all_goals rw [z_i 60, nI_leI (by omega) (by omega)] at hc
    · have : i = 60 := by omega
      subst this
      exact Ok.ret ⟨h1, h2⟩
    · rw [z_ai (by omega) (by omega), m_keeps (by omega), q_b2_s, z_ai (by omega) (by omega), m_keeps (by omega), q_b2_s, z_ai (by omega) (by omega), m_keeps (by omega), q_b2_s, z_nm, nI_1]
      refine ih (i + 1) _ (by omega) (by omega) (fun x hx => ?_) (fun l hl => ?_)
      · rw [z_updN (by omega), z_updN (by omega), z_updN (by omega)]; exact h1 x hx
      · by_cases e : l = i
        · subst e
          exact ⟨by rw [z_updN (by omega), z_updN (by omega), z_updS], by rw [z_updN (by omega), z_updS]⟩
        · rw [z_updN (by omega), z_updN (by omega), z_updN (by omega), z_updN (by omega), z_updN (by omega), z_updN (by omega)]
          exact h2 l (by omega)
theorem t_keep (g : MOK R C H V cr cq dp wd za) (hN : 1000000 ≤ N) (h : z_ps H V pl pk m) (hs : s < 8) (a b c d : Int32) (kp : Nat → Int32) (ka : Int32) (nn : Nat → Int32) : Ok (f_M_keep N cr cq a b c d (nI m) (nI s) pl pk py kp ka nn) (fun x => x.1 = nI (s + 1) ∧ x.2.1 = nI (s + 1) ∧ z_mk x.2.2.1 s ∧ ∀ i, i < 194 * s → x.2.2.1 i = kp i) := by
  have hB : 194 * s + 194 ≤ 1552 := by omega
  unfold f_M_keep
  refine Ok.ite (fun hc => ?_) (fun _ => Ok.nm (Ok.nm ?_))
  · exfalso
    rw [z_i 8, nI_eq (by omega) (by omega)] at hc
    omega
  rw [z_i 194, pk_mul]
  refine Ok.b2 (t_keep_L25 (cr := cr) (cq := cq) hB kp N 0 kp (by omega) (by omega) (fun _ _ => rfl) (fun l hl => absurd hl (by omega))) (fun f6 v7 h6 => ?_)
  obtain ⟨e7, k1, k2⟩ := h6
  dsimp only at e7 k1 k2
  subst e7
  rw [m_keeps (by omega), q_b2_s, m_keeps (by omega), q_b2_s, m_keeps (by omega), q_b2_s, m_keeps (by omega), q_b2_s, z_nm]
  refine Ok.b2 (t_keep_L90 (pl := pl) (pk := pk) (py := py) hB _ N 0 _ (by omega) (by omega) (fun _ _ => rfl) (fun l hl => absurd hl (by omega))) (fun f20 v21 h20 => Ok.asn hs (by decide) (Ok.nm ?_))
  obtain ⟨k3, k4⟩ := h20
  dsimp only at k3 k4
  have g3 : ∀ x, x < 194 * s + 10 → f20 x = f6 x := by
    intro x hx
    rw [k3 x (by omega), z_updN (by omega), z_updN (by omega), z_updN (by omega), z_updN (by omega)]
  refine Ok.ret ⟨?_, ?_, ⟨R, C, m, ?_, ?_, ?_⟩, ?_⟩
  · dsimp only; rw [nI_1]
  · dsimp only; rw [nI_1]
  · dsimp only
    exact z_kg_same g.kg (fun l hl => ⟨by rw [g3 _ (by omega)]; exact (k2 l hl).1, by rw [g3 _ (by omega)]; exact (k2 l hl).2⟩)
  · dsimp only
    rw [k3 _ (by omega), z_updN (by omega), z_updN (by omega), z_updN (by omega), z_updS]
  · dsimp only
    refine ⟨h.1, fun i hi => ?_⟩
    have hi60 : i < 60 := by have := h.1; omega
    dsimp only
    rw [(k4 i hi60).1, (k4 i hi60).2]
    obtain ⟨l, k, hl, el, ek, hk⟩ := h.2 i hi
    have he := z_pr_eq g.2.2 l hl
    exact ⟨l, k, hl, el, ek, by rw [← he.1, ← he.2]; exact hk⟩
  · intro i hi
    dsimp only
    rw [g3 i (by omega)]
    exact k1 i hi
theorem t_keepNo (a b c d e : Int32) (pl pk py kp : Nat → Int32) (ka : Int32) (nn : Nat → Int32) (cr cq : Nat → Int32) : f_M_keep N cr cq a b c d e 8 pl pk py kp ka nn = some (-1, 8, kp, ka, nn) := by
  unfold f_M_keep
  rw [if_pos rfl]
theorem t_undo_L33 {B : Nat} (hB : B + 194 ≤ 1552) (kp : Nat → Int32) : ∀ n i (a b : Nat → Int32), i ≤ 5 → 5 - i < n → (∀ l, l < i → a l = kp (B + 2 * l) ∧ b l = kp (B + 2 * l + 1)) → Ok (f_M_undo_L33 kp n (nI i) a b (nI (B + 2 * i))) (fun y => y.2.2 = nI (B + 10) ∧ ∀ l, l < 5 → y.1 l = kp (B + 2 * l) ∧ y.2.1 l = kp (B + 2 * l + 1)) := by
  intro n
  induction n with
  | zero => intro i a b _ h; omega
  | succ n ih =>
    intro i a b hi hn h1
    rw [f_M_undo_L33]
    refine Ok.ite (fun hc => ?_) (fun hc => ?_)
    all_goals rw [z_i 5, nI_leI (by omega) (by omega)] at hc
    · have : i = 5 := by omega
      subst this
      exact Ok.ret ⟨rfl, h1⟩
    · rw [m_tells (by omega), q_b2_s, z_as (by omega) (by omega), m_tells (by omega), q_b2_s, z_as (by omega) (by omega), z_nm, nI_1]
      refine ih (i + 1) _ _ (by omega) (by omega) (fun l hl => ?_)
      by_cases e : l = i
      · subst e; rw [z_updS, z_updS]; exact ⟨rfl, rfl⟩
      · rw [z_updN e, z_updN e]; exact h1 l (by omega)
theorem t_undo_L98 {B : Nat} (hB : B + 194 ≤ 1552) (kp : Nat → Int32) : ∀ n i (a b c : Nat → Int32), i ≤ 60 → 60 - i < n → (∀ l, l < i → a l = kp (B + 14 + 3 * l) ∧ b l = kp (B + 14 + 3 * l + 1)) → Ok (f_M_undo_L98 kp n (nI i) a b c (nI (B + 14 + 3 * i))) (fun y => ∀ l, l < 60 → y.1 l = kp (B + 14 + 3 * l) ∧ y.2.1 l = kp (B + 14 + 3 * l + 1)) := by
  intro n
  induction n with
  | zero => intro i a b c _ h; omega
  | succ n ih =>
    intro i a b c hi hn h1
    rw [f_M_undo_L98]
    refine Ok.ite (fun hc => ?_) (fun hc => ?_)
    all_goals rw [z_i 60, nI_leI (by omega) (by omega)] at hc
    · have : i = 60 := by omega
      subst this
      exact Ok.ret h1
    · rw [m_tells (by omega), q_b2_s, z_as (by omega) (by omega), m_tells (by omega), q_b2_s, z_as (by omega) (by omega), m_tells (by omega), q_b2_s, z_as (by omega) (by omega), z_nm, nI_1]
      refine ih (i + 1) _ _ _ (by omega) (by omega) (fun l hl => ?_)
      by_cases e : l = i
      · subst e; rw [z_updS, z_updS]; exact ⟨rfl, rfl⟩
      · rw [z_updN e, z_updN e]; exact h1 l (by omega)
theorem t_undo (g : MOK R C H V cr cq dp wd za) (hN : 1000000 ≤ N) {kp : Nat → Int32} (h : z_mk kp s) (hs : s < 8) (a b c d e : Int32) (ka : Int32) (nn : Nat → Int32) : Ok (f_M_undo N cr cq dp wd a b c d e (nI (s + 1)) pl pk py kp ka nn) (fun x => x.1 = nI s ∧ ∃ R2 C2 m2, MOK R2 C2 (z_pr R2) (z_pr C2) x.2.1 x.2.2.1 x.2.2.2.1 x.2.2.2.2.1 za ∧ x.2.2.2.2.2.2.2.2.2.1 = nI m2 ∧ x.2.2.2.2.2.2.2.2.2.2.1 = nI s ∧ z_ps (z_pr R2) (z_pr C2) x.2.2.2.2.2.2.2.2.2.2.2.1 x.2.2.2.2.2.2.2.2.2.2.2.2.1 m2) := by
  have hB : 194 * s + 194 ≤ 1552 := by omega
  obtain ⟨R2, C2, m2, k1, k2, k3⟩ := h
  unfold f_M_undo
  refine Ok.ite (fun hc => absurd hc (nI_ne0 (by omega) (by omega))) (fun _ => ?_)
  rw [z_sub1 (by omega), Nat.add_sub_cancel, z_nm, z_i 194, pk_mul, z_nm, z_nm]
  refine Ok.b3 (t_undo_L33 hB kp N 0 cr cq (by omega) (by omega) (fun l hl => absurd hl (by omega))) (fun f8 f9 v10 h8 => ?_)
  obtain ⟨e10, h8⟩ := h8
  dsimp only at e10 h8
  subst e10
  rw [m_tells (by omega), q_b2_s, m_tells (by omega), q_b2_s, m_tells (by omega), q_b2_s, m_tells (by omega), q_b2_s, z_nm]
  refine Ok.b4 (t_undo_L98 hB kp N 0 pl pk py (by omega) (by omega) (fun l hl => absurd hl (by omega))) (fun f25 f26 f27 v28 h25 => Ok.ain hs (by decide) ?_)
  dsimp only at h25
  have hk8 := z_kg_same k1 h8
  refine Ok.b2 (t_laysGrids hk8 hN dp wd) (fun f30 f31 h30 => Ok.ret ⟨rfl, R2, C2, m2, z_mok hk8 g.2.1 h30, ?_, rfl, z_ps_same k3 h25⟩)
  exact k2
theorem t_undo0 (a b c d e : Int32) (kp : Nat → Int32) (ka : Int32) (nn : Nat → Int32) : f_M_undo N cr cq dp wd a b c d e 0 pl pk py kp ka nn = some (-1, cr, cq, dp, wd, a, b, c, d, e, 0, pl, pk, py, ka) := by
  unfold f_M_undo
  rw [if_pos rfl]
end MK
