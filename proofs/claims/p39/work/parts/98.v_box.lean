/-! the reference: boxes, covers, what lies between -/
section MV
variable {R C H V : Nat → Nat} {cr cq dp wd za : Nat → Int32} {N l t : Nat}
theorem t_laysBox (g : MOK R C H V cr cq dp wd za) (hl : l < 5) (x1 x2 x3 x4 x5 a b w e : Int32) : Ok (f_M_laysBox dp x1 x2 x3 x4 x5 a b w e (nI l)) (fun y => ∃ r1 r2, y = (nI l, nI r1, nI r2, w, e) ∧ r1 ≤ 44 * H l + 1 ∧ r2 ≤ 44 * H l + 1) := by
  unfold f_M_laysBox
  refine Ok.b1 (t_rowAt g hl _) (fun v1 h1 => Ok.b1 (t_rowAt g hl _) (fun v2 h2 => ?_))
  obtain ⟨r1, rfl, a1⟩ := h1
  obtain ⟨r2, rfl, a2⟩ := h2
  exact Ok.ret ⟨r1, r2, rfl, a1, a2⟩
theorem t_boxMany (g : MOK R C H V cr cq dp wd za) (hl : l < 5) (w e x : Int32) : Ok (f_M_boxMany dp wd (nI l) w e x) (fun _ => True) := by
  unfold f_M_boxMany
  exact Ok.b1 (t_many g hl _) (fun _ _ => Ok.b1 (t_placeAt _ _) (fun _ _ => Ok.b1 (t_placeAt _ _) (fun _ _ => Ok.ite (fun _ => Ok.ite (fun _ => Ok.t) (fun _ => Ok.t)) (fun _ => Ok.t))))
theorem t_westOf (g : MOK R C H V cr cq dp wd za) (hl : l < 5) (w x : Int32) : Ok (f_M_westOf dp wd (nI l) w x) (fun _ => True) := by
  unfold f_M_westOf
  exact Ok.b1 (t_many g hl _) (fun _ _ => Ok.b1 (t_placeAt _ _) (fun _ _ => Ok.t))
theorem t_boxAll (g : MOK R C H V cr cq dp wd za) (hN : 1000000 ≤ N) (hl : l < 5) {a b : Nat} (ha : a ≤ 44 * H l + 1) (hb : b ≤ 44 * H l + 1) (w e : Int32) : Ok (f_M_boxAll N dp wd (nI l) (nI a) (nI b) w e) (fun _ => True) := by
  have hv := g.2.2.hv hl
  have hp := g.2.2.pos l hl
  have L : ∀ n r (v : Int32), r ≤ 44 * H l + 2 → 44 * H l + 2 - r < n → Ok (f_M_boxAll_L7 (nI b) e (nI l) w dp wd n v (nI r)) (fun _ => True) := by
    intro n
    induction n with
    | zero => intro r v _ h; omega
    | succ n ih =>
      intro r v hr hn
      rw [f_M_boxAll_L7]
      refine Ok.ite (fun _ => Ok.t) (fun hc => ?_)
      rw [nI_ltI (by omega) (by omega)] at hc
      refine Ok.k1 (fun v5 => ∃ j, v5 = nI j ∧ r ≤ j ∧ j < 1000000) (fun _ => True) (fun v5 h5 => ?_) (fun K hK => ?_)
      · obtain ⟨j, rfl, j1, j2⟩ := h5
        refine Ok.k1 (fun v6 => ∃ j, v6 = nI j ∧ r ≤ j ∧ j ≤ b) (fun _ => True) (fun v6 h6 => ?_) (fun K hK => Ok.ite (fun _ => hK _ ⟨b, rfl, by omega, Nat.le_refl _⟩) (fun h => hK _ ⟨j, rfl, j1, ?_⟩))
        · obtain ⟨i, rfl, i1, i2⟩ := h6
          refine Ok.b1 (t_boxMany g hl w e _) (fun v7 _ => Ok.nm ?_)
          rw [nI_1, z_nm]
          exact ih (i + 1) _ (by omega) (by omega)
        · rw [nI_leI (by omega) (by omega)] at h; omega
      · refine Ok.k0 (fun _ => True) (hK _ ⟨r, rfl, Nat.le_refl _, by omega⟩) (fun K2 h2 => Ok.ite (fun _ => h2) (fun h0 => ?_))
        rw [m_lastRow g hl, q_b1_s]
        refine Ok.ite (fun _ => h2) (fun h1 => ?_)
        rw [z_eq0 (by omega)] at h0
        rw [nI_eq (by omega) (by omega)] at h1
        rw [m_bandOf g hl (by omega) (by omega), q_b1_s, z_ai hl (by omega), (g.1 l hl).2.2.1, nI_1, pk_mul]
        have c1 := Nat.lt_div_mul_add (a := r - 1) (b := H l) hp.1
        have c2 := Nat.div_mul_le_self (r - 1) (H l)
        exact hK _ ⟨_, rfl, by rw [Nat.succ_mul]; omega, by rw [Nat.succ_mul]; omega⟩
  unfold f_M_boxAll
  exact Ok.nm (Ok.b1 (L N a _ (by omega) (by omega)) (fun _ _ => Ok.t))
theorem t_boxKey (g : MOK R C H V cr cq dp wd za) (hN : 1000000 ≤ N) (hl : l < 5) {a b : Nat} (ha : a ≤ 44 * H l + 1) (hb : b ≤ 44 * H l + 1) (w e x : Int32) : Ok (f_M_boxKey N dp wd za (nI l) (nI a) (nI b) w e x) (fun _ => True) := by
  have hv := g.2.2.hv hl
  have hp := g.2.2.pos l hl
  have L : ∀ n r (v : Int32), r ≤ 44 * H l + 2 → 44 * H l + 2 - r < n → Ok (f_M_boxKey_L7 (nI b) e (nI l) w dp wd za n v (nI r)) (fun _ => True) := by
    intro n
    induction n with
    | zero => intro r v _ h; omega
    | succ n ih =>
      intro r v hr hn
      rw [f_M_boxKey_L7]
      refine Ok.ite (fun _ => Ok.t) (fun hc => ?_)
      rw [nI_ltI (by omega) (by omega)] at hc
      refine Ok.b1 (t_boxMany g hl w e _) (fun v3 _ => Ok.ite (fun _ => Ok.nm ?_) (fun _ => Ok.b1 (t_westOf g hl w _) (fun v6 _ => Ok.b1 (t_many g hl _) (fun v7 h7 => ?_))))
      · rw [nI_1, z_nm]
        exact ih (r + 1) _ (by omega) (by omega)
      · obtain ⟨m, rfl, m1, m2⟩ := h7
        exact Ok.rm (nI_ne0 (by omega) (by omega)) (Ok.b1 (t_keyOf g hl (by omega) _) (fun _ _ => Ok.t))
  unfold f_M_boxKey
  exact Ok.s0 (L N a x (by omega) (by omega)) (fun _ => Ok.t) (fun _ _ => trivial)
theorem t_box (g : MOK R C H V cr cq dp wd za) (hN : 1000000 ≤ N) (x1 x2 x3 x4 x5 a b w e p i : Int32) : Ok (f_M_box N dp wd za x1 x2 x3 x4 x5 a b w e p i) (fun _ => True) := by
  unfold f_M_box
  refine Ok.b1 (t_isBox _ _ _ _) (fun _ _ => Ok.ite (fun _ => Ok.t) (fun _ => Ok.b1 (t_isLevel p) (fun v1 h1 => Ok.ite (fun _ => Ok.t) (fun n1 => Ok.ite (fun _ => ?_) (fun _ => Ok.t)))))
  obtain ⟨l, hl, rfl⟩ := t_level (z_if1 h1 n1)
  refine Ok.b5 (t_laysBox g hl x1 x2 x3 x4 x5 a b w e) (fun v3 v4 v5 v6 v7 h => ?_)
  obtain ⟨r1, r2, h, a1, a2⟩ := h
  cases h
  exact Ok.b1 (t_boxAll g hN hl a1 a2 w e) (fun _ _ => Ok.ite (fun _ => Ok.t) (fun _ => Ok.ite (fun _ => Ok.t) (fun _ => Ok.b1 (t_boxKey g hN hl a1 a2 w e i) (fun _ _ => Ok.t))))
theorem t_isWhole (g : MOK R C H V cr cq dp wd za) (ht : t < 5) (hl : l < 5) (a b w e x y : Int32) : Ok (f_M_isWhole dp wd (nI t) a b w e (nI l) x y) (fun z => z = 0 ∨ z = 1) := by
  have T0 : Ok (some (0 : Int32)) (fun z => z = 0 ∨ z = 1) := Ok.ret (Or.inl rfl)
  have T1 : Ok (some (1 : Int32)) (fun z => z = 0 ∨ z = 1) := Ok.ret (Or.inr rfl)
  unfold f_M_isWhole
  refine Ok.ite (fun _ => Ok.ite (fun _ => T1) (fun _ => T0)) (fun _ => Ok.b1 (t_lastRow g hl) (fun v1 _ => Ok.ite (fun _ => Ok.b1 (t_lastRow g ht) (fun _ _ => Ok.ite (fun _ => T1) (fun _ => T0))) (fun _ => ?_)))
  refine Ok.ain ht (by decide) (Ok.ain hl (by decide) (Ok.dv (z_dpne g hl).1 (Ok.ain ht (by decide) (Ok.ain hl (by decide) (Ok.dv (z_dpne g hl).2.1 (Ok.nm (Ok.ite (fun _ => T0) (fun _ => Ok.ite (fun _ => ?_) (fun _ => T0)))))))))
  refine Ok.b1 (t_many g ht _) (fun v9 h9 => Ok.b1 (t_boxMany g ht w e _) (fun v10 _ => Ok.b1 (t_westOf g ht w _) (fun v11 _ => ?_)))
  obtain ⟨m, rfl, m1, m2⟩ := h9
  exact Ok.rm (nI_ne0 (by omega) (by omega)) (Ok.k0 (fun z => z = 0 ∨ z = 1) T1 (fun K hK => Ok.ite (fun _ => hK) (fun _ => Ok.ite (fun _ => T0) (fun _ => hK))))
theorem t_isWholeAbove (g : MOK R C H V cr cq dp wd za) (ht : t < 5) (hl : l < 5) (h1 : 1 ≤ l) (a b w e x y : Int32) : Ok (f_M_isWholeAbove cr cq dp wd (nI t) a b w e (nI l) x y) (fun _ => True) := by
  unfold f_M_isWholeAbove
  refine Ok.ite (fun _ => Ok.t) (fun _ => Ok.b1 (t_lastRow g hl) (fun v1 _ => Ok.ite (fun _ => Ok.t) (fun _ => ?_)))
  refine Ok.ain hl (by decide) (Ok.dv (z_dpne g hl).2.2.1 (Ok.ain hl (by decide) (Ok.dv (z_dpne g hl).2.2.2 ?_)))
  rw [z_sub1 h1]
  exact Ok.b1 (t_isWhole g ht (by omega) a b w e _ _) (fun v6 h6 => Ok.bo h6 Ok.t)
theorem t_covers_L198 (g : MOK R C H V cr cq dp wd za) (ht : t < 5) (hl : l < 5) {r m : Nat} (hr : r ≤ 44 * H l + 1) (hm : m ≤ 563400) (a b w e x x15 x16 x17 : Int32) : ∀ n i (v : Int32), i ≤ m → m - i < n → Ok (f_M_covers_L198 b e (nI t) a w cq cr dp wd za x (nI r) (nI m) x15 x16 x17 (nI l) n v (nI i)) (fun _ => True) := by
  intro n
  induction n with
  | zero => intro i v _ h; omega
  | succ n ih =>
    intro i v hi hn
    rw [f_M_covers_L198]
    refine Ok.ite (fun _ => Ok.t) (fun hc => ?_)
    rw [nI_leI (by omega) (by omega)] at hc
    refine Ok.k1 (fun _ => True) (fun _ => True) (fun v23 _ => ?_) (fun K hK => Ok.ite (fun _ => Ok.b1 (t_in _ _ _) (fun _ _ => hK _ trivial)) (fun _ => Ok.k0 (fun _ => True) (hK _ trivial) (fun K2 h2 => Ok.ite (fun _ => h2) (fun _ => Ok.ite (fun _ => hK _ trivial) (fun _ => h2)))))
    refine Ok.k1 (fun _ => True) (fun _ => True) (fun v24 _ => ?_) (fun K hK => Ok.ite (fun _ => hK _ trivial) (fun _ => Ok.b1 (t_isWhole g ht hl a b w e _ _) (fun v26 _ => Ok.ite (fun _ => hK _ trivial) (fun _ => ?_))))
    · rw [z_nm, nI_1]
      exact ih (i + 1) _ (by omega) (by omega)
    · refine Ok.k0 (fun _ => True) (Ok.ite (fun _ => Ok.b1 (t_keyOf g hl hr _) (fun _ _ => Ok.t)) (fun _ => Ok.nm (hK _ trivial))) (fun K2 h2 => Ok.ite (fun _ => h2) (fun h => ?_))
      have h1 : 1 ≤ l := by
        rcases Nat.eq_zero_or_pos l with z | z
        · exfalso; apply h; rw [z]; decide
        · exact z
      exact Ok.b1 (t_isWholeAbove g ht hl h1 a b w e _ _) (fun _ _ => Ok.ite (fun _ => h2) (fun _ => hK _ trivial))
theorem t_covers_L137 (g : MOK R C H V cr cq dp wd za) (hN : 1000000 ≤ N) (ht : t < 5) (hl : l < 5) {z : Nat} (hz : z ≤ 44 * H l + 1) (a b w e x : Int32) : ∀ n r (v : Int32), r ≤ 1000000 → z + 1 - r < n → Ok (f_M_covers_L137 N b e (nI t) a w cq cr dp wd za x (nI l) (nI z) n v (nI r)) (fun _ => True) := by
  have hv := g.2.2.hv hl
  intro n
  induction n with
  | zero => intro r v _ h; omega
  | succ n ih =>
    intro r v hr hn
    rw [f_M_covers_L137]
    refine Ok.ite (fun _ => Ok.t) (fun hc => ?_)
    rw [nI_ltI (by omega) (by omega)] at hc
    refine Ok.b1 (t_many g hl _) (fun v14 h14 => Ok.b1 (t_placeAt _ _) (fun v15 _ => Ok.b1 (t_placeAt _ _) (fun v16 _ => ?_)))
    obtain ⟨m, rfl, m1, m2⟩ := h14
    refine Ok.k1 (fun _ => True) (fun _ => True) (fun v17 _ => Ok.nm (Ok.s1 (t_covers_L198 g ht hl (r := r) (m := m) (by omega) m2 a b w e x v15 v16 v17 N 0 v (by omega) (by omega)) (fun v21 _ => ?_) (fun _ _ => trivial))) (fun K hK => Ok.ite (fun _ => hK _ trivial) (fun _ => hK _ trivial))
    rw [z_nm, nI_1]
    exact ih (r + 1) _ (by omega) (by omega)
theorem z_topOf {H0 H1 a : Nat} (hd : H0 ∣ H1) (h0 : 1 ≤ H0) (h1 : 1 ≤ H1) (ha : a ≤ 44 * H1 + 1) : (a - 1) / (H1 / H0) ≤ 44 * H0 := by
  obtain ⟨q1, q2, q3⟩ := z_quot hd h0 h1
  have : (a - 1) / (H1 / H0) < 44 * H0 + 1 := by
    apply Nat.div_lt_of_lt_mul
    rw [Nat.mul_succ, Nat.mul_left_comm, Nat.mul_comm (H1 / H0) H0, q3]
    omega
  omega
theorem t_covers_L4 (g : MOK R C H V cr cq dp wd za) (hN : 1000000 ≤ N) (ht : t < 5) {a b : Nat} (ha : a ≤ 44 * H t + 1) (hb : b ≤ 44 * H t + 1) (w e x : Int32) : ∀ n l (v : Int32), l ≤ t + 1 → t + 1 - l < n → Ok (f_M_covers_L4 N (nI b) e (nI t) (nI a) w cq cr dp wd za x n v (nI l)) (fun _ => True) := by
  have hvt := g.2.2.hv ht
  have hpt := g.2.2.pos t ht
  intro n
  induction n with
  | zero => intro l v _ h; omega
  | succ n ih =>
    intro l v hlt hn
    rw [f_M_covers_L4]
    refine Ok.ite (fun _ => Ok.t) (fun hc => ?_)
    rw [nI_ltI (by omega) (by omega)] at hc
    have hl : l < 5 := by omega
    have hv := g.2.2.hv hl
    have hp := g.2.2.pos l hl
    have hd := g.2.2.dvd t ht l (by omega)
    obtain ⟨q1, q2, q3⟩ := z_quot hd.1 hp.1 hpt.1
    refine Ok.k1 (fun v6 => ∃ j, v6 = nI j ∧ j ≤ 44 * H l + 1) (fun _ => True) (fun v6 h6 => ?_) (fun K hK => Ok.ite (fun _ => hK _ ⟨0, rfl, by omega⟩) (fun h0 => ?_))
    · obtain ⟨j6, rfl, j6b⟩ := h6
      refine Ok.k1 (fun v7 => ∃ j, v7 = nI j ∧ j ≤ 44 * H l + 1) (fun _ => True) (fun v7 h7 => ?_) (fun K hK => Ok.ite (fun _ => hK _ ⟨0, rfl, by omega⟩) (fun h0 => ?_))
      · obtain ⟨j7, rfl, j7b⟩ := h7
        rw [m_lastRow g ht, q_b1_s]
        refine Ok.k1 (fun v9 => ∃ j, v9 = nI j ∧ j ≤ 44 * H l + 1) (fun _ => True) (fun v9 h9 => ?_) (fun K hK => Ok.ite (fun _ => ?_) (fun _ => hK _ ⟨j6, rfl, j6b⟩))
        · obtain ⟨j9, rfl, j9b⟩ := h9
          refine Ok.s1 (t_covers_L137 g hN ht hl j7b (nI a) (nI b) w e x N j9 v (by omega) (by omega)) (fun v12 _ => ?_) (fun _ _ => trivial)
          rw [z_nm, nI_1]
          exact ih (l + 1) _ (by omega) (by omega)
        · rw [m_lastRow g hl, q_b1_s]
          exact hK _ ⟨_, rfl, Nat.le_refl _⟩
      · rw [z_eq0 (by omega)] at h0
        rw [m_lastRow g ht, q_b1_s]
        refine Ok.ite (fun _ => ?_) (fun _ => ?_)
        · rw [m_lastRow g hl, q_b1_s]
          exact hK _ ⟨_, rfl, Nat.le_refl _⟩
        · have := z_topOf hd.1 hp.1 hpt.1 hb
          rw [z_ai ht (by omega), (g.1 t ht).2.2.1, z_ai hl (by omega), (g.1 l hl).2.2.1, z_dv (by omega) (by omega) (by omega), z_sub1 (by omega), z_dv (by omega) (by omega) (by omega), z_i 1, nI_add]
          exact hK _ ⟨_, rfl, by omega⟩
    · rw [z_eq0 (by omega)] at h0
      have := z_topOf hd.1 hp.1 hpt.1 ha
      rw [z_ai ht (by omega), (g.1 t ht).2.2.1, z_ai hl (by omega), (g.1 l hl).2.2.1, z_dv (by omega) (by omega) (by omega), z_sub1 (by omega), z_dv (by omega) (by omega) (by omega), z_i 1, nI_add]
      exact hK _ ⟨_, rfl, by omega⟩
theorem t_cover (g : MOK R C H V cr cq dp wd za) (hN : 1000000 ≤ N) (x1 x2 x3 x4 x5 a b w e p i : Int32) : Ok (f_M_cover N cr cq dp wd za x1 x2 x3 x4 x5 a b w e p i) (fun _ => True) := by
  unfold f_M_cover
  refine Ok.b1 (t_isBox _ _ _ _) (fun _ _ => Ok.ite (fun _ => Ok.t) (fun _ => Ok.b1 (t_isLevel p) (fun v1 h1 => Ok.ite (fun _ => Ok.t) (fun n1 => Ok.ite (fun _ => ?_) (fun _ => Ok.t)))))
  obtain ⟨l, hl, rfl⟩ := t_level (z_if1 h1 n1)
  refine Ok.b5 (t_laysBox g hl x1 x2 x3 x4 x5 a b w e) (fun v3 v4 v5 v6 v7 h => ?_)
  obtain ⟨r1, r2, h, a1, a2⟩ := h
  cases h
  have hc : Ok (f_M_covers N cr cq dp wd za (nI l) (nI r1) (nI r2) w e i) (fun _ => True) := by
    unfold f_M_covers
    exact Ok.nm (Ok.nm (Ok.s1 (t_covers_L4 g hN hl a1 a2 w e i N 0 _ (by omega) (by omega)) (fun _ _ => Ok.ite (fun _ => Ok.t) (fun _ => Ok.t)) (fun _ _ => trivial)))
  exact Ok.b1 (t_boxAll g hN hl a1 a2 w e) (fun _ _ => Ok.ite (fun _ => Ok.b1 hc (fun _ _ => Ok.t)) (fun _ => Ok.t))
theorem t_betweenOf (g : MOK R C H V cr cq dp wd za) (hN : 1000000 ≤ N) (hl : l < 5) {k k2 : Nat} (hk : k < 2130 * (H l * V l) + 2) (hk2 : k2 < 2130 * (H l * V l) + 2) (bl bo : Int64) (ed : Nat → Int64) (x1 x2 x3 x4 x5 : Int32) : Ok (f_M_betweenOf N dp wd za bl bo ed x1 x2 x3 x4 x5 (nI l) (nI k) (nI k2)) (fun _ => True) := by
  unfold f_M_betweenOf
  refine Ok.b4 (t_middleOf g (by omega) hl hk _ _ _ _) (fun v1 v2 v3 f4 _ => Ok.b4 (t_middleOf g (by omega) hl hk2 _ _ _ _) (fun v5 v6 v7 f8 _ => ?_))
  refine Ok.k1 (fun _ => True) (fun _ => True) (fun v9 _ => ?_) (fun K hK => Ok.ite (fun _ => hK _ trivial) (fun _ => hK _ trivial))
  refine Ok.k1 (fun _ => True) (fun _ => True) (fun v10 _ => ?_) (fun K hK => Ok.ite (fun _ => hK _ trivial) (fun _ => hK _ trivial))
  refine Ok.b4 (t_middleOf g (by omega) hl hk _ _ _ _) (fun v11 v12 v13 f14 _ => Ok.b4 (t_middleOf g (by omega) hl hk2 _ _ _ _) (fun v15 v16 v17 f18 _ => Ok.b5 (t_laysBox g hl x1 x2 x3 x4 x5 _ _ _ _) (fun v19 v20 v21 v22 v23 h => ?_)))
  obtain ⟨r1, r2, h, a1, a2⟩ := h
  cases h
  exact Ok.b1 (t_boxAll g hN hl a1 a2 _ _) (fun _ _ => Ok.t)
theorem t_between (g : MOK R C H V cr cq dp wd za) (hN : 1000000 ≤ N) (bl bo : Int64) (ed : Nat → Int64) (x1 x2 x3 x4 x5 p q w : Int32) : Ok (f_M_between N dp wd za bl bo ed x1 x2 x3 x4 x5 p q w) (fun _ => True) := by
  unfold f_M_between
  refine Ok.b1 (t_isKey g p q) (fun v1 h1 => Ok.ite (fun _ => Ok.t) (fun n1 => Ok.b1 (t_isKey g p w) (fun v2 h2 => Ok.ite (fun _ => Ok.t) (fun n2 => ?_))))
  obtain ⟨l, k, k2, hl, rfl, rfl, rfl, hk, hk2⟩ := t_two g (h1 n1) (h2 n2)
  exact Ok.b9 (t_betweenOf g hN hl hk hk2 bl bo ed x1 x2 x3 x4 x5) (fun _ _ _ _ _ _ _ _ _ _ => Ok.t)
end MV
