/-! tidy on both sides; cut on both sides -/
section R5
variable {R C H V : Nat → Nat} {rc cc br zc rw sh cr cq dp wd za : Nat → Int32} {N m l : Nat} {L K : Nat → Nat} {Y : Nat → Int32} {fl fk fy : Nat → Int32}
/-- a piece ahead of j whose sheet holds that of j, of its year or a later one -/
def z_ndQ (H V : Nat → Nat) (L K : Nat → Nat) (Y : Nat → Int32) (j i : Nat) : Prop := L i < L j ∧ Y j ≤ Y i ∧ z_upr H V (L j) (L i) (K j) (K i)
def z_need (H V : Nat → Nat) (L K : Nat → Nat) (Y : Nat → Int32) (j : Nat) : Prop := ∃ i, i < j ∧ z_ndQ H V L K Y j i
theorem r_x_needless (g : GOK R C H V rc cc br zc rw sh) (h : z_pc H V m L K) (hr : z_rp m L K Y fl fk fy) (hN : 1000000 ≤ N) {j : Nat} (hj : j < m) : Ok (f_Store_isNeedless N fl fk fy br zc rw sh (nI j)) (fun x => (z_need H V L K Y j ∧ x = 1) ∨ (¬ z_need H V L K Y j ∧ x = 0)) := by
  have hm := h.1
  obtain ⟨d1, d2, d3⟩ := hr j hj
  obtain ⟨c1, c2⟩ := h.2.1 j hj
  have s2 := g.2.sh c1
  have S : ∀ n i, i ≤ j → j - i < n → (∀ i', i' < i → ¬ z_ndQ H V L K Y j i') → Ok (f_Store_isNeedless_L2 N br rw sh zc (nI j) fk fl fy n (nI i)) (fun x => (z_need H V L K Y j ∧ x = .inr 1) ∨ (¬ z_need H V L K Y j ∧ x = .inl ())) := by
    intro n
    induction n with
    | zero => intro i _ h; omega
    | succ n ih =>
      intro i hi hn hQ
      rw [f_Store_isNeedless_L2]
      refine Ok.ite (fun hc => ?_) (fun hc => ?_)
      all_goals rw [nI_leI (by omega) (by omega)] at hc
      · exact Ok.ret (Or.inr ⟨fun z => z.elim (fun i' w => hQ i' (by omega) w.2), rfl⟩)
      · have hij : i < j := by omega
        obtain ⟨e1, e2, e3⟩ := hr i (by omega)
        obtain ⟨b1, b2⟩ := h.2.1 i (by omega)
        have s1 := g.2.sh b1
        have go : ¬ z_ndQ H V L K Y j i → Ok (q_nm (nI i + 1) fun v5 => f_Store_isNeedless_L2 N br rw sh zc (nI j) fk fl fy n v5) (fun x => (z_need H V L K Y j ∧ x = .inr 1) ∨ (¬ z_need H V L K Y j ∧ x = .inl ())) := by
          intro hq
          rw [z_nm, nI_1]
          refine ih (i + 1) (by omega) (by omega) (fun i' hi' => ?_)
          by_cases e : i' = i
          · subst e; exact hq
          · exact hQ i' (by omega)
        rw [z_ai (by omega) (by omega), z_ai (by omega) (by omega), e1, d1]
        refine Ok.j0 (Ok.ite (fun k1 => ?_) (fun k1 => ?_))
        all_goals rw [nI_leI (by omega) (by omega)] at k1
        · exact go (fun z => by have w := z.1; omega)
        · rw [z_ai (by omega) (by omega), z_ai (by omega) (by omega), e3, d3]
          refine Ok.ite (fun k2 => ?_) (fun k2 => ?_)
          · exact go (fun z => by have w := z.2.1; rw [z_le] at w; rw [z_lt] at k2; omega)
          · have hY : Y j ≤ Y i := z_le.mpr (by have w : ¬ (Y i).toInt < (Y j).toInt := fun z => k2 (z_lt.mpr z); omega)
            rw [z_ai (by omega) (by omega), z_ai (by omega) (by omega), z_ai (by omega) (by omega), d1, d2, e1]
            refine Ok.b1 (r_above (N := N) g hN c1 (t := L i) (by omega) c2) (fun v11 h11 => ?_)
            obtain ⟨k3, hu, rfl⟩ := h11
            have hlt := z_upr_lt g.2 c1 (by omega) hu
            rw [z_ai (by omega) (by omega), e2]
            refine Ok.ite (fun k4 => ?_) (fun k4 => ?_)
            all_goals rw [nI_eq (by omega) (by omega)] at k4
            · rw [k4] at hu
              exact Ok.ret (Or.inl ⟨⟨i, hij, by omega, hY, hu⟩, rfl⟩)
            · exact go (fun z => k4 (z_upr_one (g.2.pos _ c1).1 hu z.2.2))
  unfold f_Store_isNeedless
  refine Ok.nm (Ok.s0 (S N 0 (by omega) (by omega) (fun i' hi' => absurd hi' (by omega))) (fun hq => Ok.ret ?_) (fun r hq => ?_))
  · rcases hq with ⟨-, z⟩ | ⟨z, -⟩
    · cases z
    · exact Or.inr ⟨z, rfl⟩
  · rcases hq with ⟨z, e⟩ | ⟨-, e⟩
    · cases e; exact Or.inl ⟨z, rfl⟩
    · cases e
theorem z_ndQ_lt (h : z_pc H V m L K) {i j : Nat} (hi : i < m) (hq : z_ndQ H V L K Y j i) : i < j := by
  rcases Nat.lt_trichotomy i j with c | c | c
  · exact c
  · subst c; exact absurd hq.1 (Nat.lt_irrefl _)
  · have a := h.2.2 j i c hi
    have b := hq.1
    unfold z_less at a
    omega
theorem r_m_needless (g : MOK R C H V cr cq dp wd za) (h : z_pc H V m L K) (hr : z_rp m L K Y fl fk fy) (hN : 1000000 ≤ N) {j : Nat} (hj : j < m) : Ok (f_M_isNeedless N dp wd za (nI m) fl fk fy (nI j)) (fun x => (z_need H V L K Y j ∧ x = 1) ∨ (¬ z_need H V L K Y j ∧ x = 0)) := by
  have hm := h.1
  obtain ⟨d1, d2, d3⟩ := hr j hj
  obtain ⟨c1, c2⟩ := h.2.1 j hj
  have s2 := g.2.2.sh c1
  have S : ∀ n i, i ≤ m → m - i < n → (∀ i', i' < i → ¬ z_ndQ H V L K Y j i') → Ok (f_M_isNeedless_L2 N dp fk fl fy (nI m) wd za (nI j) n (nI i)) (fun x => (z_need H V L K Y j ∧ x = .inr 1) ∨ (¬ z_need H V L K Y j ∧ x = .inl ())) := by
    intro n
    induction n with
    | zero => intro i _ h; omega
    | succ n ih =>
      intro i hi hn hQ
      rw [f_M_isNeedless_L2]
      refine Ok.ite (fun hc => ?_) (fun hc => ?_)
      all_goals rw [nI_leI (by omega) (by omega)] at hc
      · exact Ok.ret (Or.inr ⟨fun z => z.elim (fun i' w => hQ i' (by omega) w.2), rfl⟩)
      · have him : i < m := by omega
        obtain ⟨e1, e2, e3⟩ := hr i (by omega)
        obtain ⟨b1, b2⟩ := h.2.1 i (by omega)
        have s1 := g.2.2.sh b1
        have go : ¬ z_ndQ H V L K Y j i → Ok (q_nm (nI i + 1) fun v5 => f_M_isNeedless_L2 N dp fk fl fy (nI m) wd za (nI j) n v5) (fun x => (z_need H V L K Y j ∧ x = .inr 1) ∨ (¬ z_need H V L K Y j ∧ x = .inl ())) := by
          intro hq
          rw [z_nm, nI_1]
          refine ih (i + 1) (by omega) (by omega) (fun i' hi' => ?_)
          by_cases e : i' = i
          · subst e; exact hq
          · exact hQ i' (by omega)
        rw [z_ai (by omega) (by omega), z_ai (by omega) (by omega), e1, d1]
        refine Ok.j0 (Ok.ite (fun k1 => ?_) (fun k1 => ?_))
        all_goals rw [nI_leI (by omega) (by omega)] at k1
        · exact go (fun z => by have w := z.1; omega)
        · rw [z_ai (by omega) (by omega), z_ai (by omega) (by omega), e3, d3]
          refine Ok.ite (fun k2 => ?_) (fun k2 => ?_)
          · exact go (fun z => by have w := z.2.1; rw [z_le] at w; rw [z_lt] at k2; omega)
          · have hY : Y j ≤ Y i := z_le.mpr (by have w : ¬ (Y i).toInt < (Y j).toInt := fun z => k2 (z_lt.mpr z); omega)
            rw [z_ai (by omega) (by omega), z_ai (by omega) (by omega), z_ai (by omega) (by omega), d1, d2, e1]
            refine Ok.b1 (r_parentOf (N := N) g (by omega) c1 (t := L i) (by omega) c2) (fun v11 h11 => ?_)
            obtain ⟨k3, hu, rfl⟩ := h11
            have hlt := z_upr_lt g.2.2 c1 (by omega) hu
            rw [z_ai (by omega) (by omega), e2]
            refine Ok.ite (fun k4 => ?_) (fun k4 => ?_)
            all_goals rw [nI_eq (by omega) (by omega)] at k4
            · rw [k4] at hu
              exact Ok.ret (Or.inl ⟨⟨i, z_ndQ_lt h him ⟨by omega, hY, hu⟩, by omega, hY, hu⟩, rfl⟩)
            · exact go (fun z => k4 (z_upr_one (g.2.2.pos _ c1).1 hu z.2.2))
  unfold f_M_isNeedless
  refine Ok.nm (Ok.s0 (S N 0 (by omega) (by omega) (fun i' hi' => absurd hi' (by omega))) (fun hq => Ok.ret ?_) (fun r hq => ?_))
  · rcases hq with ⟨-, z⟩ | ⟨z, -⟩
    · cases z
    · exact Or.inr ⟨z, rfl⟩
  · rcases hq with ⟨z, e⟩ | ⟨-, e⟩
    · cases e; exact Or.inl ⟨z, rfl⟩
    · cases e
/-- what tidy does with the pieces ahead of j -/
def z_tdT (H V : Nat → Nat) : Nat → Nat → (Nat → Nat) → (Nat → Nat) → (Nat → Int32) → Nat → Nat → Nat → (Nat → Nat) → (Nat → Nat) → (Nat → Int32) → Prop
  | 0, m, L, K, Y, x, n2, m2, L2, K2, Y2 => n2 = x ∧ m2 = m ∧ L2 = L ∧ K2 = K ∧ Y2 = Y
  | j + 1, m, L, K, Y, x, n2, m2, L2, K2, Y2 => (z_need H V L K Y j ∧ z_tdT H V j (m - 1) (a_del j L) (a_del j K) (a_del j Y) (x + 1) n2 m2 L2 K2 Y2) ∨ (¬ z_need H V L K Y j ∧ z_tdT H V j m L K Y x n2 m2 L2 K2 Y2)
theorem z_tdT_one : ∀ (j m : Nat) (L K : Nat → Nat) (Y : Nat → Int32) (x n2 m2 n3 m3 : Nat) (L2 K2 L3 K3 : Nat → Nat) (Y2 Y3 : Nat → Int32), z_tdT H V j m L K Y x n2 m2 L2 K2 Y2 → z_tdT H V j m L K Y x n3 m3 L3 K3 Y3 → n2 = n3 ∧ m2 = m3 ∧ L2 = L3 ∧ K2 = K3 ∧ Y2 = Y3 := by
  intro j
  induction j with
  | zero =>
    intro m L K Y x n2 m2 n3 m3 L2 K2 L3 K3 Y2 Y3 h1 h2
    obtain ⟨b, c, d, e, f⟩ := h1
    obtain ⟨b', c', d', e', f'⟩ := h2
    exact ⟨b.trans b'.symm, c.trans c'.symm, d.trans d'.symm, e.trans e'.symm, f.trans f'.symm⟩
  | succ j ih =>
    intro m L K Y x n2 m2 n3 m3 L2 K2 L3 K3 Y2 Y3 h1 h2
    rcases h1 with ⟨a, b⟩ | ⟨a, b⟩ <;> rcases h2 with ⟨a', b'⟩ | ⟨a', b'⟩
    · exact ih _ _ _ _ _ _ _ _ _ _ _ _ _ _ _ b b'
    · exact absurd a a'
    · exact absurd a' a
    · exact ih _ _ _ _ _ _ _ _ _ _ _ _ _ _ _ b b'
theorem r_x_tidy_L (g : GOK R C H V rc cc br zc rw sh) (hN : 1000000 ≤ N) : ∀ (n j m : Nat) (L K : Nat → Nat) (Y : Nat → Int32) (fl fk fy : Nat → Int32) (x : Nat), z_pc H V m L K → z_rp m L K Y fl fk fy → j ≤ m → j < n → Ok (f_X_tidy_L12 N br rw sh zc n (nI x) (nI j - 1) fl fk fy (nI m)) (fun y => ∃ n2 m2 L2 K2 Y2, z_tdT H V j m L K Y x n2 m2 L2 K2 Y2 ∧ z_pc H V m2 L2 K2 ∧ y.1 = nI n2 ∧ y.2.2.2.2 = nI m2 ∧ z_rp m2 L2 K2 Y2 y.2.1 y.2.2.1 y.2.2.2.1) := by
  intro n
  induction n with
  | zero => intro j m L K Y fl fk fy x _ _ _ h; omega
  | succ n ih =>
    intro j m L K Y fl fk fy x hp hr hj hn
    have hm := hp.1
    rw [f_X_tidy_L12]
    by_cases h0 : j = 0
    · subst h0
      exact Ok.ite (fun _ => Ok.ret ⟨x, m, L, K, Y, ⟨rfl, rfl, rfl, rfl, rfl⟩, hp, rfl, rfl, hr⟩) (fun h => absurd (by decide) h)
    · obtain ⟨i, rfl⟩ : ∃ i, j = i + 1 := ⟨j - 1, by omega⟩
      rw [z_sub1 (by omega), Nat.add_sub_cancel]
      refine Ok.ite (fun hc => absurd hc (z_lt0 (by omega))) (fun _ => Ok.b1 (r_x_needless g hp hr hN (j := i) (by omega)) (fun v14 h14 => Ok.j5 ?_))
      rcases h14 with ⟨z, rfl⟩ | ⟨z, rfl⟩
      · refine Ok.ite (fun c => absurd c (by decide)) (fun _ => Ok.b4 (r_remove hm hN (p := i) (by omega)) (fun f21 f22 f23 v24 hq => ?_))
        obtain ⟨q0, q1, q2, q3⟩ := hq
        dsimp only at q0 q1 q2 q3
        subst q0
        rw [z_nm, nI_1]
        (try dsimp only)
        rw [z_nm, z_m1]
        refine Ok.weak (ih i (m - 1) _ _ _ f21 f22 f23 (x + 1) (z_pc_del hp (by omega)) (z_rp_del hr (by omega) q1 q2 q3) (by omega) (by omega)) (fun y hy => ?_)
        obtain ⟨n2, m2, L2, K2, Y2, t, w⟩ := hy
        exact ⟨n2, m2, L2, K2, Y2, Or.inl ⟨z, t⟩, w⟩
      · refine Ok.ite (fun _ => ?_) (fun c => absurd rfl c)
        (try dsimp only)
        rw [z_nm, z_m1]
        refine Ok.weak (ih i m L K Y fl fk fy x hp hr (by omega) (by omega)) (fun y hy => ?_)
        obtain ⟨n2, m2, L2, K2, Y2, t, w⟩ := hy
        exact ⟨n2, m2, L2, K2, Y2, Or.inr ⟨z, t⟩, w⟩
theorem r_m_tidy_L (g : MOK R C H V cr cq dp wd za) (hN : 1000000 ≤ N) : ∀ (n j m : Nat) (L K : Nat → Nat) (Y : Nat → Int32) (fl fk fy : Nat → Int32) (x : Nat), z_pc H V m L K → z_rp m L K Y fl fk fy → j ≤ m → j < n → Ok (f_M_tidy_L9 N dp wd za n (nI x) (nI j - 1) (nI m) fl fk fy) (fun y => ∃ n2 m2 L2 K2 Y2, z_tdT H V j m L K Y x n2 m2 L2 K2 Y2 ∧ z_pc H V m2 L2 K2 ∧ y.1 = nI n2 ∧ y.2.1 = nI m2 ∧ z_rp m2 L2 K2 Y2 y.2.2.1 y.2.2.2.1 y.2.2.2.2) := by
  intro n
  induction n with
  | zero => intro j m L K Y fl fk fy x _ _ _ h; omega
  | succ n ih =>
    intro j m L K Y fl fk fy x hp hr hj hn
    have hm := hp.1
    rw [f_M_tidy_L9]
    by_cases h0 : j = 0
    · subst h0
      exact Ok.ite (fun _ => Ok.ret ⟨x, m, L, K, Y, ⟨rfl, rfl, rfl, rfl, rfl⟩, hp, rfl, rfl, hr⟩) (fun h => absurd (by decide) h)
    · obtain ⟨i, rfl⟩ : ∃ i, j = i + 1 := ⟨j - 1, by omega⟩
      rw [z_sub1 (by omega), Nat.add_sub_cancel]
      refine Ok.ite (fun hc => absurd hc (z_lt0 (by omega))) (fun _ => Ok.b1 (r_m_needless g hp hr hN (j := i) (by omega)) (fun v14 h14 => Ok.j5 ?_))
      rcases h14 with ⟨z, rfl⟩ | ⟨z, rfl⟩
      · refine Ok.ite (fun c => absurd c (by decide)) (fun _ => Ok.b4 (r_removes hm hN (p := i) (by omega)) (fun v21 f22 f23 f24 hq => ?_))
        obtain ⟨q0, q1, q2, q3⟩ := hq
        dsimp only at q0 q1 q2 q3
        subst q0
        rw [z_nm, nI_1]
        (try dsimp only)
        rw [z_nm, z_m1]
        refine Ok.weak (ih i (m - 1) _ _ _ f22 f23 f24 (x + 1) (z_pc_del hp (by omega)) (z_rp_del hr (by omega) q1 q2 q3) (by omega) (by omega)) (fun y hy => ?_)
        obtain ⟨n2, m2, L2, K2, Y2, t, w⟩ := hy
        exact ⟨n2, m2, L2, K2, Y2, Or.inl ⟨z, t⟩, w⟩
      · refine Ok.ite (fun _ => ?_) (fun c => absurd rfl c)
        (try dsimp only)
        rw [z_nm, z_m1]
        refine Ok.weak (ih i m L K Y fl fk fy x hp hr (by omega) (by omega)) (fun y hy => ?_)
        obtain ⟨n2, m2, L2, K2, Y2, t, w⟩ := hy
        exact ⟨n2, m2, L2, K2, Y2, Or.inr ⟨z, t⟩, w⟩
theorem r_x_tidy (g : GOK R C H V rc cc br zc rw sh) (h : z_pc H V m L K) (hr : z_rp m L K Y fl fk fy) (hN : 1000000 ≤ N) : Ok (f_X_tidy N fl fk fy (nI m) br zc rw sh) (fun y => ∃ n2 m2 L2 K2 Y2, z_tdT H V m m L K Y 0 n2 m2 L2 K2 Y2 ∧ z_pc H V m2 L2 K2 ∧ y.1 = nI n2 ∧ y.2.2.2.2 = nI m2 ∧ z_rp m2 L2 K2 Y2 y.2.1 y.2.2.1 y.2.2.2.1) := by
  have hm := h.1
  unfold f_X_tidy
  exact Ok.nm (Ok.nm (Ok.b5 (r_x_tidy_L g hN N m m L K Y fl fk fy 0 h hr (Nat.le_refl _) (by omega)) (fun _ _ _ _ _ hq => Ok.ret hq)))
theorem r_m_tidy (g : MOK R C H V cr cq dp wd za) (h : z_pc H V m L K) (hr : z_rp m L K Y fl fk fy) (hN : 1000000 ≤ N) : Ok (f_M_tidy N dp wd za (nI m) fl fk fy) (fun y => ∃ n2 m2 L2 K2 Y2, z_tdT H V m m L K Y 0 n2 m2 L2 K2 Y2 ∧ z_pc H V m2 L2 K2 ∧ y.1 = nI n2 ∧ y.2.1 = nI m2 ∧ z_rp m2 L2 K2 Y2 y.2.2.1 y.2.2.2.1 y.2.2.2.2) := by
  have hm := h.1
  unfold f_M_tidy
  exact Ok.nm (Ok.nm (Ok.b5 (r_m_tidy_L g hN N m m L K Y fl fk fy 0 h hr (Nat.le_refl _) (by omega)) (fun _ _ _ _ _ hq => Ok.ret hq)))
/-! cut -/
theorem z_cmpgt2 {a b : Nat} (ha : a < 2 ^ 63) (hb : b < 2 ^ 63) (h : ¬ lg_cmp (lN a) (lN b) ≤ 0) : b < a := by
  rcases Nat.lt_or_ge b a with c | c
  · exact c
  · exfalso
    apply h
    have e1 : (lN a).toInt = (a : Int) := by
      show (Int64.ofNat a).toInt = _
      exact Int64.toInt_ofNat_of_lt ha
    have e2 : (lN b).toInt = (b : Int) := by
      show (Int64.ofNat b).toInt = _
      exact Int64.toInt_ofNat_of_lt hb
    have h1 : ¬ lN a > lN b := fun z => by have w := Int64.lt_iff_toInt_lt.mp z; omega
    unfold lg_cmp
    rw [if_neg h1]
    split <;> decide
def z_cutV (p q w : Int32) : Prop := (1 ≤ p.toInt ∧ p.toInt ≤ 4) ∧ (1 ≤ q.toInt ∧ q.toInt ≤ 6) ∧ (1 ≤ w.toInt ∧ w.toInt ≤ 6)
/-- what cut does -/
def z_cutR (R C : Nat → Nat) (m : Nat) (p q w r : Int32) (R2 C2 : Nat → Nat) : Prop :=
  (¬ z_cutV p q w ∧ r = -1 ∧ R2 = R ∧ C2 = C) ∨ (z_cutV p q w ∧ 0 < m ∧ r = -2 ∧ R2 = R ∧ C2 = C) ∨ (∃ v y z, z_cutV p q w ∧ m = 0 ∧ p = nI v ∧ q = nI y ∧ w = nI z ∧ v < 2 ^ 31 ∧ y < 2 ^ 31 ∧ z < 2 ^ 31 ∧ ((20000000 < 2130 * (z_pr (z_up1 R v y) 4 * z_pr (z_up1 C v z) 4) + 2 ∧ r = -3 ∧ R2 = R ∧ C2 = C) ∨ (¬ 20000000 < 2130 * (z_pr (z_up1 R v y) 4 * z_pr (z_up1 C v z) 4) + 2 ∧ r = nI (2130 * (z_pr (z_up1 R v y) v * z_pr (z_up1 C v z) v) + 2) ∧ R2 = z_up1 R v y ∧ C2 = z_up1 C v z)))
theorem z_cutR_one {p q w r r' : Int32} {R2 C2 R3 C3 : Nat → Nat} (h1 : z_cutR R C m p q w r R2 C2) (h2 : z_cutR R C m p q w r' R3 C3) : r = r' ∧ R2 = R3 ∧ C2 = C3 := by
  rcases h1 with ⟨a, b, c, d⟩ | ⟨a, a0, b, c, d⟩ | ⟨v, y, z, a, a0, e1, e2, e3, l1, l2, l3, hh⟩ <;> rcases h2 with ⟨a', b', c', d'⟩ | ⟨a', a0', b', c', d'⟩ | ⟨v', y', z', a', a0', e1', e2', e3', l1', l2', l3', hh'⟩
  · exact ⟨b.trans b'.symm, c.trans c'.symm, d.trans d'.symm⟩
  · exact absurd a' a
  · exact absurd a' a
  · exact absurd a a'
  · exact ⟨b.trans b'.symm, c.trans c'.symm, d.trans d'.symm⟩
  · omega
  · exact absurd a a'
  · omega
  · have g1 : v = v' := by rw [e1, nI_eq l1 l1'] at e1'; exact e1'
    have g2 : y = y' := by rw [e2, nI_eq l2 l2'] at e2'; exact e2'
    have g3 : z = z' := by rw [e3, nI_eq l3 l3'] at e3'; exact e3'
    subst g1 g2 g3
    rcases hh with ⟨a, b, c, d⟩ | ⟨a, b, c, d⟩ <;> rcases hh' with ⟨a', b', c', d'⟩ | ⟨a', b', c', d'⟩
    · exact ⟨b.trans b'.symm, c.trans c'.symm, d.trans d'.symm⟩
    · exact absurd a a'
    · exact absurd a' a
    · exact ⟨b.trans b'.symm, c.trans c'.symm, d.trans d'.symm⟩
theorem z_up1_ok (hkg : z_kg R C rc cc) {v y w : Nat} (v1 : 1 ≤ v) (v4 : v ≤ 4) (y1 : 1 ≤ y) (y6 : y ≤ 6) (w1 : 1 ≤ w) (w6 : w ≤ 6) : z_up1 R v y 0 = 1 ∧ z_up1 C v w 0 = 1 ∧ (∀ l, l < 5 → 1 ≤ z_up1 R v y l ∧ z_up1 R v y l ≤ 6 ∧ 1 ≤ z_up1 C v w l ∧ z_up1 C v w l ≤ 6) ∧ (∀ l, l < 5 → upd rc v (nI y) l = nI (z_up1 R v y l) ∧ upd cc v (nI w) l = nI (z_up1 C v w l)) ∧ 2130 * (z_pr (z_up1 R v y) 4 * z_pr (z_up1 C v w) 4) + 2 < 2 ^ 62 := by
  obtain ⟨k1, k2, k3, k4, -⟩ := hkg
  have hR1 : ∀ l, l < 5 → 1 ≤ z_up1 R v y l ∧ z_up1 R v y l ≤ 6 ∧ 1 ≤ z_up1 C v w l ∧ z_up1 C v w l ≤ 6 := by
    intro l hl
    have := k3 l hl
    unfold z_up1
    split <;> omega
  have hR0 : z_up1 R v y 0 = 1 := by unfold z_up1; rw [if_neg (by omega)]; exact k1
  have hC0 : z_up1 C v w 0 = 1 := by unfold z_up1; rw [if_neg (by omega)]; exact k2
  have b1 := (z_pr_b hR0 (fun l hl => ⟨(hR1 l hl).1, (hR1 l hl).2.1⟩) 4 (by omega)).2
  have b2 := (z_pr_b hC0 (fun l hl => ⟨(hR1 l hl).2.2.1, (hR1 l hl).2.2.2⟩) 4 (by omega)).2
  have b3 := Nat.mul_le_mul b1 b2
  refine ⟨hR0, hC0, hR1, fun l hl => ?_, by omega⟩
  unfold z_up1
  by_cases e : l = v
  · subst e; rw [z_updS, z_updS, if_pos rfl, if_pos rfl]; exact ⟨rfl, rfl⟩
  · rw [z_updN e, z_updN e, if_neg e, if_neg e]; exact k4 l hl
theorem r_x_cut (g : GOK R C (z_pr R) (z_pr C) rc cc br zc rw sh) (hN : 1000000 ≤ N) (hm : m ≤ 60) (p q w : Int32) : Ok (f_X_cut N (nI m) rc cc br zc rw sh p q w) (fun x => ∃ r R2 C2, z_cutR R C m p q w r R2 C2 ∧ x.1 = r ∧ GOK R2 C2 (z_pr R2) (z_pr C2) x.2.1 x.2.2.1 x.2.2.2.1 x.2.2.2.2.1 x.2.2.2.2.2.1 x.2.2.2.2.2.2) := by
  have no : ¬ z_cutV p q w → Ok (some (-1, rc, cc, br, zc, rw, sh)) (fun x => ∃ r R2 C2, z_cutR R C m p q w r R2 C2 ∧ x.1 = r ∧ GOK R2 C2 (z_pr R2) (z_pr C2) x.2.1 x.2.2.1 x.2.2.2.1 x.2.2.2.2.1 x.2.2.2.2.2.1 x.2.2.2.2.2.2) := fun hv => Ok.ret ⟨_, _, _, Or.inl ⟨hv, rfl, rfl, rfl⟩, rfl, g⟩
  unfold f_X_cut
  have t1 : (1 : Int32).toInt = 1 := rfl
  have t4 : (4 : Int32).toInt = 4 := rfl
  have t6 : (6 : Int32).toInt = 6 := rfl
  refine Ok.ite (fun c => no (fun z => ?_)) (fun hp1 => Ok.ite (fun c => no (fun z => ?_)) (fun hp4 => Ok.b1 (s_isFrom q _ _) (fun v1 h1 => Ok.ite (fun c => no (fun z => ?_)) (fun n1 => Ok.b1 (s_isFrom w _ _) (fun v2 h2 => Ok.ite (fun c => no (fun z => ?_)) (fun n2 => ?_))))))
  · rw [z_lt, t1] at c; have := z.1; omega
  · rw [z_lt, t4] at c; have := z.1; omega
  · rw [t1, t6] at h1; exact z_if0 h1 c z.2.1
  · rw [t1, t6] at h2; exact z_if0 h2 c z.2.2
  have a1 : ¬ p.toInt < (1 : Int32).toInt := fun z => hp1 (z_lt.mpr z)
  have a4 : ¬ (4 : Int32).toInt < p.toInt := fun z => hp4 (z_lt.mpr z)
  have aq := z_if1 h1 n1
  have ar := z_if1 h2 n2
  rw [t1] at a1 aq ar
  rw [t4] at a4
  rw [t6] at aq ar
  have hV : z_cutV p q w := ⟨by omega, aq, ar⟩
  obtain ⟨v, l1, rfl, j3⟩ := z_nat (r := p) (by omega)
  obtain ⟨y, l2, rfl, y3⟩ := z_nat (r := q) (by omega)
  obtain ⟨w, l3, rfl, w3⟩ := z_nat (r := w) (by omega)
  refine Ok.ite (fun hc => ?_) (fun hc => ?_)
  all_goals rw [z_le0 (by omega)] at hc
  rotate_left
  · exact Ok.ret ⟨_, _, _, Or.inr (Or.inl ⟨hV, by omega, rfl, rfl, rfl⟩), rfl, g⟩
  have hkg := g.kg
  obtain ⟨hR0, hC0, hR1, hcc, hbd⟩ := z_up1_ok hkg (show 1 ≤ v by omega) (show v ≤ 4 by omega) (show 1 ≤ y by omega) (show y ≤ 6 by omega) (show 1 ≤ w by omega) (show w ≤ 6 by omega)
  rw [k_deepest hkg (by omega) (show 1 ≤ v by omega) (by omega) (show y ≤ 6 by omega) (show w ≤ 6 by omega), q_b1_s]
  refine Ok.ite (fun hle => ?_) (fun hgt => ?_)
  rotate_left
  · have hbig := z_cmpgt2 (b := 20000000) (by omega) (by omega) hgt
    exact Ok.ret ⟨_, _, _, Or.inr (Or.inr ⟨v, y, w, hV, hc, rfl, rfl, rfl, l1, l2, l3, Or.inl ⟨hbig, rfl, rfl, rfl⟩⟩), rfl, g⟩
  have hbig := z_cmple (b := 20000000) (by omega) (by omega) hle
  have hk2 : z_kg (z_up1 R v y) (z_up1 C v w) (upd rc v (nI y)) (upd cc v (nI w)) := ⟨hR0, hC0, hR1, hcc, hbig⟩
  refine Ok.b6 (Q := fun x => GOK (z_up1 R v y) (z_up1 C v w) (z_pr (z_up1 R v y)) (z_pr (z_up1 C v w)) x.1 x.2.1 x.2.2.1 x.2.2.2.1 x.2.2.2.2.1 x.2.2.2.2.2) ?_ (fun f4 f5 f6 f7 f8 f9 h => Ok.ain (by omega) (by decide) (Ok.ret ⟨_, _, _, Or.inr (Or.inr ⟨v, y, w, hV, hc, rfl, rfl, rfl, l1, l2, l3, Or.inr ⟨by omega, rfl, rfl, rfl⟩⟩), ?_, h⟩))
  · unfold f_Grid_setCuts
    refine Ok.asn (by omega) (by decide) (Ok.asn (by omega) (by decide) ?_)
    exact Ok.b4 (s_multiply hk2 (by omega) br zc rw sh) (fun a b c d h => Ok.ret h)
  · exact (GOK.at h (by omega)).2.2.2.2.2
theorem r_m_cut (g : MOK R C (z_pr R) (z_pr C) cr cq dp wd za) (hN : 1000000 ≤ N) (hm : m ≤ 60) (p q w : Int32) : Ok (f_M_cut N cr cq dp wd za (nI m) p q w) (fun x => ∃ r R2 C2, z_cutR R C m p q w r R2 C2 ∧ x.1 = r ∧ MOK R2 C2 (z_pr R2) (z_pr C2) x.2.1 x.2.2.1 x.2.2.2.1 x.2.2.2.2 za) := by
  have no : ¬ z_cutV p q w → Ok (some (-1, cr, cq, dp, wd)) (fun x => ∃ r R2 C2, z_cutR R C m p q w r R2 C2 ∧ x.1 = r ∧ MOK R2 C2 (z_pr R2) (z_pr C2) x.2.1 x.2.2.1 x.2.2.2.1 x.2.2.2.2 za) := fun hv => Ok.ret ⟨_, _, _, Or.inl ⟨hv, rfl, rfl, rfl⟩, rfl, g⟩
  have t1 : (1 : Int64).toInt = 1 := rfl
  have t4 : (4 : Int64).toInt = 4 := rfl
  have t6 : (6 : Int64).toInt = 6 := rfl
  unfold f_M_cut
  refine Ok.b1 (t_in _ _ _) (fun v1 h1 => ?_)
  rw [t1, t4, z_toL] at h1
  refine Ok.ite (fun c => no (fun z => z_if0 h1 c z.1)) (fun n1 => Ok.b1 (t_in _ _ _) (fun v2 h2 => ?_))
  rw [t1, t6, z_toL] at h2
  refine Ok.ite (fun c => no (fun z => z_if0 h2 c z.2.1)) (fun n2 => Ok.b1 (t_in _ _ _) (fun v3 h3 => ?_))
  rw [t1, t6, z_toL] at h3
  refine Ok.ite (fun c => no (fun z => z_if0 h3 c z.2.2)) (fun n3 => ?_)
  have ap := z_if1 h1 n1
  have aq := z_if1 h2 n2
  have ar := z_if1 h3 n3
  have hV : z_cutV p q w := ⟨ap, aq, ar⟩
  obtain ⟨v, l1, rfl, j3⟩ := z_nat (r := p) (by omega)
  obtain ⟨y, l2, rfl, y3⟩ := z_nat (r := q) (by omega)
  obtain ⟨w, l3, rfl, w3⟩ := z_nat (r := w) (by omega)
  refine Ok.ite (fun hc => ?_) (fun hc => ?_)
  all_goals rw [z_le0 (by omega)] at hc
  rotate_left
  · exact Ok.ret ⟨_, _, _, Or.inr (Or.inl ⟨hV, by omega, rfl, rfl, rfl⟩), rfl, g⟩
  have hkg := g.kg
  obtain ⟨hR0, hC0, hR1, hcc, hbd⟩ := z_up1_ok hkg (show 1 ≤ v by omega) (show v ≤ 4 by omega) (show 1 ≤ y by omega) (show y ≤ 6 by omega) (show 1 ≤ w by omega) (show w ≤ 6 by omega)
  have e0 : lN 2130 = lN (2130 * (z_pr (z_up1 R v y) 0 * z_pr (z_up1 C v w) 0)) := by
    unfold z_pr
    rw [hR0, hC0]
  rw [z_i 44, z_ai (by omega) (by omega), g.2.1 44 (by omega), z_za_44, nI_l (by omega), z_nm, z_nm, z_i 1, e0, m_cut_L61 hkg (show 1 ≤ v by omega) (show v ≤ 4 by omega) (show y ≤ 6 by omega) (show w ≤ 6 by omega) N 0 (by omega) (by omega), q_b1_s, z_l 2, lN_add]
  refine Ok.ite (fun hle => ?_) (fun hgt => ?_)
  rotate_left
  · have hbig := z_cmpgt2 (b := 20000000) (by omega) (by omega) hgt
    exact Ok.ret ⟨_, _, _, Or.inr (Or.inr ⟨v, y, w, hV, hc, rfl, rfl, rfl, l1, l2, l3, Or.inl ⟨hbig, rfl, rfl, rfl⟩⟩), rfl, g⟩
  have hbig := z_cmple (b := 20000000) (by omega) (by omega) hle
  have hk2 : z_kg (z_up1 R v y) (z_up1 C v w) (upd cr v (nI y)) (upd cq v (nI w)) := ⟨hR0, hC0, hR1, hcc, hbig⟩
  refine Ok.asn (by omega) (by decide) (Ok.asn (by omega) (by decide) (Ok.b2 (t_laysGrids hk2 hN dp wd) (fun f12 f13 h12 => ?_)))
  have gm := z_mok hk2 g.2.1 h12
  exact Ok.b1 (t_sheets gm (by omega)) (fun _ h14 => Ok.ret ⟨_, _, _, Or.inr (Or.inr ⟨v, y, w, hV, hc, rfl, rfl, rfl, l1, l2, l3, Or.inr ⟨by omega, rfl, rfl, rfl⟩⟩), h14, gm⟩)
end R5
