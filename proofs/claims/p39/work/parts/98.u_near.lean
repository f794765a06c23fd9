/-! the reference: neighbours, corners, jogs, levels, keys of places -/
section MU
variable {R C H V : Nat → Nat} {cr cq dp wd za : Nat → Int32} {N l : Nat}
theorem t_layB (g : MOK R C H V cr cq dp wd za) (hN : 50 ≤ N) (hl : l < 5) {k : Nat} (hk : k < 2130 * (H l * V l) + 2) (fb mb : Int32) {i : Nat} (hi : i < 4) : Ok (f_M_laysBeside N dp wd za fb mb (nI l) (nI k) (nI i)) (fun _ => True) := Ok.weak (s_lays g hN hl hk fb mb hi) (fun _ _ => trivial)
theorem t_isSide (x : Int32) : Ok (f_M_isSide x) (fun y => ¬ y = 0 → ∃ j, x = nI j ∧ j ≤ 3) := by
  unfold f_M_isSide
  refine Ok.b1 (t_inN x 0 3 (by decide) (by decide)) (fun v1 h1 => Ok.bo h1.1 (Ok.ret (fun h0 => ?_)))
  obtain ⟨j, e, -, h⟩ := h1.2 h0
  exact ⟨j, e, h⟩
theorem t_isPlace (x y : Int32) : Ok (f_M_isPlace x y) (fun _ => True) := by
  unfold f_M_isPlace
  exact Ok.b1 (t_in _ _ _) (fun _ _ => Ok.ite (fun _ => Ok.t) (fun _ => Ok.b1 (t_in _ _ _) (fun _ _ => Ok.ite (fun _ => Ok.t) (fun _ => Ok.t))))
theorem t_isBox (a b c d : Int32) : Ok (f_M_isBox a b c d) (fun _ => True) := by
  unfold f_M_isBox
  exact Ok.b1 (t_isPlace _ _) (fun _ _ => Ok.ite (fun _ => Ok.t) (fun _ => Ok.b1 (t_isPlace _ _) (fun _ _ => Ok.ite (fun _ => Ok.t) (fun _ => Ok.ite (fun _ => Ok.t) (fun _ => Ok.t)))))
theorem t_isAnyYear (x : Int32) : Ok (f_M_isAnyYear x) (fun _ => True) := by
  unfold f_M_isAnyYear
  exact Ok.b1 (t_in _ _ _) (fun _ h => Ok.bo (z_in01 h) Ok.t)
theorem t_isYear (x : Int32) : Ok (f_M_isYear x) (fun _ => True) := by
  unfold f_M_isYear
  exact Ok.b1 (t_in _ _ _) (fun _ h => Ok.bo (z_in01 h) Ok.t)
theorem t_neighbour (g : MOK R C H V cr cq dp wd za) (hN : 1000000 ≤ N) (fb mb p q w i : Int32) : Ok (f_M_neighbour N dp wd za fb mb p q w i) (fun _ => True) := by
  unfold f_M_neighbour
  refine Ok.b1 (t_isKey g p q) (fun v1 h1 => Ok.ite (fun _ => Ok.t) (fun n1 => Ok.b1 (t_isSide w) (fun v2 h2 => Ok.ite (fun _ => Ok.t) (fun n2 => Ok.ite (fun _ => ?_) (fun _ => Ok.t)))))
  obtain ⟨l, k, hl, rfl, rfl, hk⟩ := h1 n1
  obtain ⟨j, rfl, hj⟩ := h2 n2
  exact Ok.b2 (t_layB g (by omega) hl hk fb mb (by omega)) (fun _ _ _ => Ok.ite (fun _ => Ok.t) (fun _ => Ok.ite (fun _ => Ok.t) (fun _ => Ok.t)))
theorem t_allBeside (g : MOK R C H V cr cq dp wd za) (hN : 1000000 ≤ N) (hl : l < 5) {k : Nat} (hk : k < 2130 * (H l * V l) + 2) (fb mb : Int32) : Ok (f_M_allBeside N dp wd za fb mb (nI l) (nI k)) (fun _ => True) := by
  have L : ∀ n i (v a b : Int32), i ≤ 4 → 4 - i < n → Ok (f_M_allBeside_L5 N dp wd za (nI l) (nI k) n v (nI i) a b) (fun _ => True) := by
    intro n
    induction n with
    | zero => intro i v a b _ h; omega
    | succ n ih =>
      intro i v a b hi hn
      rw [f_M_allBeside_L5]
      refine Ok.ite (fun _ => Ok.t) (fun hc => ?_)
      rw [z_i 4, nI_leI (by omega) (by omega)] at hc
      refine Ok.b2 (t_layB g (by omega) hl hk a b (by omega)) (fun y1 y2 _ => ?_)
      rw [z_nm, z_nm, nI_1]
      exact ih (i + 1) _ _ _ (by omega) (by omega)
  unfold f_M_allBeside
  exact Ok.nm (Ok.nm (Ok.b3 (L N 0 _ _ _ (by omega) (by omega)) (fun _ _ _ _ => Ok.t)))
theorem t_besideAll (g : MOK R C H V cr cq dp wd za) (hN : 1000000 ≤ N) (hl : l < 5) {k : Nat} (hk : k < 2130 * (H l * V l) + 2) (fb mb x : Int32) : Ok (f_M_besideAll N dp wd za fb mb (nI l) (nI k) x) (fun _ => True) := by
  have T : ∀ (a b : Int32) (i : Nat), i < 4 → Ok (f_M_laysBeside N dp wd za a b (nI l) (nI k) (nI i)) (fun _ => True) := fun a b i hi => t_layB g (by omega) hl hk a b hi
  unfold f_M_besideAll
  refine Ok.b2 (T fb mb 0 (by omega)) (fun v1 v2 _ => Ok.ite (fun _ => Ok.nm (Ok.b2 (T v1 v2 1 (by omega)) (fun v4 v5 _ => Ok.b2 (T v4 v5 3 (by omega)) (fun v6 v7 _ => ?_)))) (fun _ => Ok.t))
  refine Ok.k0 (fun _ => True) (Ok.nm (Ok.b2 (T v6 v7 2 (by omega)) (fun v9 v10 _ => Ok.ite (fun _ => Ok.t) (fun _ => Ok.t)))) (fun K hK => Ok.ite (fun _ => Ok.ite (fun _ => hK) (fun _ => ?_)) (fun _ => hK))
  refine Ok.k1 (fun _ => True) (fun _ => True) (fun a _ => Ok.k1 (fun _ => True) (fun _ => True) (fun b _ => Ok.ite (fun _ => Ok.t) (fun _ => Ok.t)) (fun K2 h2 => Ok.ite (fun _ => h2 _ trivial) (fun _ => h2 _ trivial))) (fun K3 h3 => Ok.ite (fun _ => h3 _ trivial) (fun _ => h3 _ trivial))
theorem t_around (g : MOK R C H V cr cq dp wd za) (hN : 1000000 ≤ N) (fb mb p q i : Int32) : Ok (f_M_around N dp wd za fb mb p q i) (fun _ => True) := by
  unfold f_M_around
  refine Ok.b1 (t_isKey g p q) (fun v1 h1 => Ok.ite (fun _ => Ok.t) (fun n1 => Ok.ite (fun _ => ?_) (fun _ => Ok.t)))
  obtain ⟨l, k, hl, rfl, rfl, hk⟩ := h1 n1
  exact Ok.b3 (t_allBeside g hN hl hk fb mb) (fun _ _ _ _ => Ok.ite (fun _ => Ok.t) (fun _ => Ok.ite (fun _ => Ok.t) (fun _ => Ok.b3 (t_besideAll g hN hl hk _ _ _) (fun _ _ _ _ => Ok.t))))
theorem t_side (g : MOK R C H V cr cq dp wd za) (hN : 1000000 ≤ N) (fb mb p q w : Int32) : Ok (f_M_side N dp wd za fb mb p q w) (fun _ => True) := by
  unfold f_M_side
  refine Ok.b1 (t_isKey g p q) (fun v1 h1 => Ok.ite (fun _ => Ok.t) (fun n1 => Ok.b1 (t_isKey g p w) (fun v2 _ => Ok.ite (fun _ => Ok.t) (fun _ => Ok.ite (fun _ => Ok.t) (fun _ => Ok.nm ?_)))))
  obtain ⟨l, k, hl, rfl, rfl, hk⟩ := h1 n1
  have L : ∀ n i (a b : Int32), i ≤ 4 → 4 - i < n → Ok (f_M_side_L28 N dp wd za (nI l) (nI k) w n (nI i) a b) (fun _ => True) := by
    intro n
    induction n with
    | zero => intro i a b _ h; omega
    | succ n ih =>
      intro i a b hi hn
      rw [f_M_side_L28]
      refine Ok.ite (fun _ => Ok.t) (fun hc => ?_)
      rw [z_i 4, nI_leI (by omega) (by omega)] at hc
      refine Ok.b2 (t_layB g (by omega) hl hk a b (by omega)) (fun y1 y2 _ => Ok.b1 (t_in _ _ _) (fun _ _ => Ok.ite (fun _ => ?_) (fun _ => Ok.t)))
      rw [z_nm, nI_1]
      exact ih (i + 1) _ _ (by omega) (by omega)
  exact Ok.s2 (L N 0 fb mb (by omega) (by omega)) (fun _ _ _ => Ok.t) (fun _ _ => trivial)
theorem z_i64o {x : Int32} (h : x ≠ 0) : x.toInt64 ≠ 0 := by
  intro z
  apply h
  apply Int32.toInt_inj.mp
  have := congrArg Int64.toInt z
  rw [z_toL] at this
  exact this
theorem t_cornerOf (g : MOK R C H V cr cq dp wd za) (hN : 1000000 ≤ N) (hl : l < 5) {k : Nat} (hk : k < 2130 * (H l * V l) + 2) {i : Nat} (hi : i = 0 ∨ i = 2) (e : Int32) : Ok (f_M_cornerOf N dp wd za (nI l) (nI k) (nI i) e) (fun _ => True) := by
  have hv := g.2.2.hv hl
  have hp := g.2.2.pos l hl
  obtain ⟨r, p, hr, hpr, hk2, er, ep⟩ := t_spot (N := N) g (by omega) hl hk
  have hL := z_rl_pos (V := V l) hp.1 hp.2 hr
  unfold f_M_cornerOf
  rw [er, q_b1_s]
  by_cases hc : z_rl (H l) (V l) r = 1
  · refine Ok.k1 (fun _ => True) (fun _ => True) (fun v2 _ => ?_) (fun K hK => Ok.ite (fun _ => hK _ trivial) (fun _ => hK _ trivial))
    rw [m_many g hl hr, q_b1_s, hc, z_nm, nI_l (by omega)]
    exact Ok.ite (fun _ => Ok.t) (fun h => absurd (by decide) h)
  · have hr1 : 1 ≤ r ∧ r ≤ 44 * H l := by
      unfold z_rl at hc
      by_cases h : r = 0 ∨ r = 44 * H l + 1
      · rw [if_pos h] at hc; exact absurd rfl hc
      · omega
    refine Ok.k1 (fun v => ∃ b, v = nI b ∧ b ≤ 44 * H l + 1) (fun _ => True) (fun v2 h2 => ?_) (fun K hK => ?_)
    · obtain ⟨b, rfl, hb⟩ := h2
      have hLb := z_rl_pos (V := V l) hp.1 hp.2 hb
      have n1 : lN (z_rl (H l) (V l) r) ≠ 0 := z_lne0 (by omega) (by omega)
      have n2 : lN (z_rl (H l) (V l) b) ≠ 0 := z_lne0 (by omega) (by omega)
      rw [m_many g hl hr, q_b1_s, z_nm, nI_l (by omega)]
      refine Ok.ite (fun _ => Ok.t) (fun _ => ?_)
      rw [m_many g hl hb, q_b1_s]
      refine Ok.ite (fun _ => Ok.t) (fun _ => ?_)
      rw [q_b1_s, z_nm, nI_l (by omega), ep, q_b1_s, z_nm]
      refine Ok.rml n1 (Ok.ite (fun _ => Ok.dvl n1 ?_) (fun _ => Ok.t))
      exact Ok.k1 (fun _ => True) (fun _ => True) (fun v12 _ => Ok.b1 (t_keyOf g hl hb _) (fun _ _ => Ok.t)) (fun K hK => Ok.ite (fun _ => Ok.rml n2 (hK _ trivial)) (fun _ => Ok.rml n2 (hK _ trivial)))
    · rcases hi with rfl | rfl
      · refine Ok.ite (fun _ => hK _ ⟨r - 1, ?_, by omega⟩) (fun h => absurd rfl h)
        rw [z_sub1 (by omega)]
      · refine Ok.ite (fun h => absurd h (by decide)) (fun _ => hK _ ⟨r + 1, ?_, by omega⟩)
        rw [nI_1]
theorem t_corners_L (g : MOK R C H V cr cq dp wd za) (hN : 1000000 ≤ N) (hl : l < 5) {k : Nat} (hk : k < 2130 * (H l * V l) + 2) (w : Int32) : ∀ n i (a b : Int32), (i = 0 ∨ i = 2 ∨ i = 4) → 4 - i < n → Ok (f_M_corners_L25 N dp wd za (nI l) (nI k) w n a b (nI i)) (fun _ => True) := by
  intro n
  induction n with
  | zero => intro i a b _ h; omega
  | succ n ih =>
    intro i a b hi hn
    rw [f_M_corners_L25]
    refine Ok.ite (fun _ => Ok.t) (fun hc => ?_)
    rw [z_i 3, nI_leI (by omega) (by omega)] at hc
    refine Ok.b1 (t_cornerOf g hN hl hk (by omega) 0) (fun v8 _ => Ok.b1 (t_cornerOf g hN hl hk (by omega) 1) (fun v9 _ => ?_))
    refine Ok.k1 (fun _ => True) (fun _ => True) (fun v10 _ => ?_) (fun K hK => Ok.ite (fun _ => hK _ trivial) (fun _ => hK _ trivial))
    refine Ok.k1 (fun _ => True) (fun _ => True) (fun v11 _ => ?_) (fun K hK => Ok.ite (fun _ => hK _ trivial) (fun _ => hK _ trivial))
    refine Ok.nm (Ok.b1 (t_in _ _ _) (fun v13 _ => Ok.ite (fun _ => ?_) (fun _ => ?_)))
    · refine Ok.k1 (fun _ => True) (fun _ => True) (fun v14 _ => Ok.nm (Ok.nm ?_)) (fun K hK => Ok.ite (fun _ => hK _ trivial) (fun _ => hK _ trivial))
      rw [z_nm, z_i 2, nI_add]
      exact ih (i + 2) _ _ (by omega) (by omega)
    · refine Ok.k1 (fun _ => True) (fun _ => True) (fun v18 _ => Ok.ite (fun _ => Ok.t) (fun _ => Ok.ite (fun _ => Ok.t) (fun _ => Ok.t))) (fun K hK => ?_)
      exact Ok.k0 (fun _ => True) (hK _ trivial) (fun K2 h2 => Ok.ite (fun _ => h2) (fun _ => Ok.k0 (fun _ => True) (hK _ trivial) (fun K3 h3 => Ok.ite (fun _ => h3) (fun _ => Ok.ite (fun _ => h3) (fun _ => h2)))))
theorem t_corners (g : MOK R C H V cr cq dp wd za) (hN : 1000000 ≤ N) (p q w : Int32) : Ok (f_M_corners N dp wd za p q w) (fun _ => True) := by
  unfold f_M_corners
  refine Ok.b1 (t_isKey g p q) (fun v1 h1 => Ok.ite (fun _ => Ok.t) (fun n1 => Ok.ite (fun _ => Ok.nm (Ok.nm ?_)) (fun _ => Ok.t)))
  obtain ⟨l, k, hl, rfl, rfl, hk⟩ := h1 n1
  exact Ok.s1 (t_corners_L g hN hl hk w N 0 _ _ (Or.inl rfl) (by omega)) (fun _ _ => Ok.ite (fun _ => Ok.t) (fun _ => Ok.t)) (fun _ _ => trivial)
theorem t_jog (g : MOK R C H V cr cq dp wd za) (hN : 1000000 ≤ N) (p q w : Int32) : Ok (f_M_jog N dp wd za p q w) (fun _ => True) := by
  unfold f_M_jog
  refine Ok.b1 (t_isKey g p q) (fun v1 h1 => Ok.ite (fun _ => Ok.t) (fun n1 => ?_))
  obtain ⟨l, k, hl, rfl, rfl, hk⟩ := h1 n1
  obtain ⟨r, p, hr, hpr, hk2, er, ep⟩ := t_spot (N := N) g (by omega) hl hk
  refine Ok.k0 (fun _ => True) ?_ (fun K hK => Ok.ite (fun _ => hK) (fun _ => Ok.ite (fun _ => hK) (fun _ => Ok.t)))
  rw [er, q_b1_s]
  exact Ok.k1 (fun _ => True) (fun _ => True) (fun v3 _ => Ok.b1 (t_lastRow g hl) (fun v4 _ => Ok.b1 (t_in _ _ _) (fun _ _ => Ok.ite (fun _ => Ok.t) (fun _ => Ok.b1 (t_many g hl _) (fun _ _ => Ok.b1 (t_many g hl _) (fun _ _ => Ok.ite (fun _ => Ok.t) (fun _ => Ok.t))))))) (fun K hK => Ok.ite (fun _ => hK _ trivial) (fun _ => hK _ trivial))
theorem t_rowOf (g : MOK R C H V cr cq dp wd za) (hN : 1000000 ≤ N) (hl : l < 5) {k : Nat} (hk : k < 2130 * (H l * V l) + 2) : Ok (f_M_rowOf N dp wd za (nI l) (nI k)) (fun _ => True) := by
  obtain ⟨r, p, hr, hpr, hk2, er, ep⟩ := t_spot (N := N) g (by omega) hl hk
  rw [er]; exact Ok.t
theorem t_two (g : MOK R C H V cr cq dp wd za) {p q w : Int32} (h1 : z_hs H V p q) (h2 : z_hs H V p w) : ∃ l k k2, l < 5 ∧ p = nI l ∧ q = nI k ∧ w = nI k2 ∧ k < 2130 * (H l * V l) + 2 ∧ k2 < 2130 * (H l * V l) + 2 := by
  obtain ⟨l, k, hl, rfl, rfl, hk⟩ := h1
  obtain ⟨l2, k2, hl2, el, rfl, hk2⟩ := h2
  have : l = l2 := by rw [nI_eq (by omega) (by omega)] at el; exact el
  subst this
  exact ⟨l, k, k2, hl, rfl, rfl, rfl, hk, hk2⟩
theorem t_wider (g : MOK R C H V cr cq dp wd za) (hN : 1000000 ≤ N) (p q w : Int32) : Ok (f_M_wider N dp wd za p q w) (fun _ => True) := by
  unfold f_M_wider
  refine Ok.b1 (t_isKey g p q) (fun v1 h1 => Ok.ite (fun _ => Ok.t) (fun n1 => Ok.b1 (t_isKey g p w) (fun v2 h2 => Ok.ite (fun _ => Ok.t) (fun n2 => ?_))))
  obtain ⟨l, k, k2, hl, rfl, rfl, rfl, hk, hk2⟩ := t_two g (h1 n1) (h2 n2)
  exact Ok.b1 (t_rowOf g hN hl hk) (fun _ _ => Ok.b1 (t_many g hl _) (fun _ _ => Ok.b1 (t_rowOf g hN hl hk2) (fun _ _ => Ok.b1 (t_many g hl _) (fun _ _ => Ok.ite (fun _ => Ok.ite (fun _ => Ok.t) (fun _ => Ok.t)) (fun _ => Ok.t)))))
theorem t_bands (g : MOK R C H V cr cq dp wd za) (hN : 1000000 ≤ N) (p q w : Int32) : Ok (f_M_bands N dp wd za p q w) (fun _ => True) := by
  unfold f_M_bands
  refine Ok.b1 (t_isKey g p q) (fun v1 h1 => Ok.ite (fun _ => Ok.t) (fun n1 => Ok.b1 (t_isKey g p w) (fun v2 h2 => Ok.ite (fun _ => Ok.t) (fun n2 => Ok.ite (fun _ => ?_) (fun _ => Ok.t)))))
  obtain ⟨l, k, k2, hl, rfl, rfl, rfl, hk, hk2⟩ := t_two g (h1 n1) (h2 n2)
  refine Ok.b1 (t_rowOf g hN hl hk) (fun v3 _ => Ok.b1 (t_rowOf g hN hl hk2) (fun v4 _ => ?_))
  refine Ok.k1 (fun _ => True) (fun _ => True) (fun v5 _ => Ok.b1 (t_lastRow g hl) (fun v6 _ => ?_)) (fun K hK => Ok.ite (fun _ => hK _ trivial) (fun _ => hK _ trivial))
  exact Ok.k1 (fun _ => True) (fun _ => True) (fun v7 _ => Ok.ite (fun _ => Ok.b1 (t_bandOf g hl _) (fun _ _ => Ok.b1 (t_bandOf g hl _) (fun _ _ => Ok.t))) (fun _ => Ok.t)) (fun K hK => Ok.ite (fun _ => hK _ trivial) (fun _ => hK _ trivial))
theorem t_lev (g : MOK R C H V cr cq dp wd za) (p w : Int32) : Ok (f_M_level cr cq dp wd za p w) (fun _ => True) := by
  unfold f_M_level
  refine Ok.b1 (t_isLevel p) (fun v1 h1 => Ok.ite (fun _ => Ok.t) (fun n1 => ?_))
  obtain ⟨l, hl, rfl⟩ := t_level (z_if1 h1 n1)
  have hr : Ok (f_M_rows dp (nI l)) (fun _ => True) := by
    unfold f_M_rows; exact Ok.ain hl (by decide) Ok.t
  exact Ok.b1 (t_in _ _ _) (fun _ _ => Ok.ite (fun _ => Ok.t) (fun _ => Ok.ite (fun _ => Ok.b1 (t_sheets g hl) (fun _ _ => Ok.t)) (fun _ => Ok.ite (fun _ => Ok.b1 hr (fun _ _ => Ok.t)) (fun _ => Ok.ite (fun _ => Ok.ain hl (by decide) Ok.t) (fun _ => Ok.ite (fun _ => Ok.ain hl (by decide) Ok.t) (fun _ => Ok.ite (fun _ => Ok.ain hl (by decide) Ok.t) (fun _ => Ok.ain hl (by decide) Ok.t)))))))
theorem t_key (g : MOK R C H V cr cq dp wd za) (p q w : Int32) : Ok (f_M_key dp wd za p q w) (fun _ => True) := by
  unfold f_M_key
  refine Ok.b1 (t_isPlace p q) (fun _ _ => Ok.ite (fun _ => Ok.t) (fun _ => Ok.b1 (t_isLevel w) (fun v1 h1 => Ok.ite (fun _ => Ok.t) (fun n1 => ?_))))
  obtain ⟨l, hl, rfl⟩ := t_level (z_if1 h1 n1)
  exact Ok.b1 (t_keyAtPlace g hl _ _) (fun _ _ => Ok.t)
theorem t_common_ (g : MOK R C H V cr cq dp wd za) (hN : 1000000 ≤ N) (a b c d : Int32) : Ok (f_M_common_ N dp wd za a b c d) (fun _ => True) := by
  have L : ∀ n j, j ≤ 5 → j < n → Ok (f_M_common__L22 dp wd za a b c d n (nI j - 1)) (fun _ => True) := by
    intro n
    induction n with
    | zero => intro j _ h; omega
    | succ n ih =>
      intro j hj hn
      rw [f_M_common__L22]
      by_cases h0 : j = 0
      · subst h0
        exact Ok.ite (fun _ => Ok.t) (fun h => absurd (by decide) h)
      · rw [z_sub1 (by omega)]
        refine Ok.ite (fun _ => Ok.t) (fun _ => Ok.b1 (t_keyAtPlace g (by omega) _ _) (fun _ _ => Ok.b1 (t_keyAtPlace g (by omega) _ _) (fun _ _ => Ok.ite (fun _ => Ok.t) (fun _ => ?_))))
        rw [z_nm, z_m1]
        exact ih (j - 1) (by omega) (by omega)
  unfold f_M_common_
  exact Ok.b1 (t_isPlace _ _) (fun _ _ => Ok.ite (fun _ => Ok.t) (fun _ => Ok.b1 (t_isPlace _ _) (fun _ _ => Ok.ite (fun _ => Ok.t) (fun _ => Ok.nm (Ok.s0 (L N 5 (by omega) (by omega)) (fun _ => Ok.t) (fun _ _ => trivial))))))
theorem t_moved (g : MOK R C H V cr cq dp wd za) (p q a b w : Int32) : Ok (f_M_moved dp wd za p q a b w) (fun _ => True) := by
  unfold f_M_moved
  refine Ok.b1 (t_isPlace p q) (fun _ _ => Ok.ite (fun _ => Ok.t) (fun _ => Ok.b1 (t_isLevel w) (fun v1 h1 => Ok.ite (fun _ => Ok.t) (fun n1 => ?_))))
  obtain ⟨l, hl, rfl⟩ := t_level (z_if1 h1 n1)
  exact Ok.nm (Ok.nm (Ok.ite (fun _ => Ok.ite (fun _ => Ok.b1 (t_in _ _ _) (fun _ _ => Ok.ite (fun _ => Ok.t) (fun _ => Ok.b1 (t_down _ (by decide)) (fun _ _ => Ok.nm (Ok.b1 (t_keyAtPlace g hl _ _) (fun _ _ => Ok.t)))))) (fun _ => Ok.t)) (fun _ => Ok.t)))
theorem t_changes (g : MOK R C H V cr cq dp wd za) (hN : 1000000 ≤ N) (a b c d e w : Int32) : Ok (f_M_changes N dp wd za a b c d e w) (fun _ => True) := by
  unfold f_M_changes
  refine Ok.b1 (t_isPlace _ _) (fun _ _ => Ok.ite (fun _ => Ok.t) (fun _ => Ok.b1 (t_isPlace _ _) (fun _ _ => Ok.ite (fun _ => Ok.t) (fun _ => Ok.b1 (t_inN e 1 200 (by decide) (by decide)) (fun v3 h3 => Ok.ite (fun _ => Ok.t) (fun n3 => Ok.b1 (t_isLevel w) (fun v1 h1 => Ok.ite (fun _ => Ok.t) (fun n1 => ?_))))))))
  obtain ⟨l, hl, rfl⟩ := t_level (z_if1 h1 n1)
  obtain ⟨m, rfl, m1, m2⟩ := h3.2 n3
  have hm : (nI m).toInt64 ≠ 0 := z_i64o (nI_ne0 (by omega) (by omega))
  have L : ∀ n i (v u : Int32), i ≤ 201 → 201 - i < n → Ok (f_M_changes_L56 dp wd za a b c d (nI m) (nI l) n v u (nI i)) (fun _ => True) := by
    intro n
    induction n with
    | zero => intro i v u _ h; omega
    | succ n ih =>
      intro i v u hi hn
      rw [f_M_changes_L56]
      refine Ok.ite (fun _ => Ok.t) (fun hc => ?_)
      rw [nI_ltI (by omega) (by omega)] at hc
      refine Ok.b1 (t_down _ hm) (fun _ _ => Ok.nm (Ok.b1 (t_down _ hm) (fun _ _ => Ok.nm (Ok.b1 (t_keyAtPlace g hl _ _) (fun v16 _ => ?_)))))
      refine Ok.k1 (fun _ => True) (fun _ => True) (fun v17 _ => Ok.nm ?_) (fun K hK => Ok.ite (fun _ => hK _ trivial) (fun _ => hK _ trivial))
      rw [z_nm, nI_1]
      exact ih (i + 1) _ _ (by omega) (by omega)
  exact Ok.nm (Ok.b1 (t_keyAtPlace g hl _ _) (fun _ _ => Ok.nm (Ok.b1 (L N 1 _ _ (by omega) (by omega)) (fun _ _ => Ok.t))))
theorem t_draw (x : Int32) : Ok (f_M_draw x 16384) (fun _ => True) := by
  unfold f_M_draw
  exact Ok.rm (by decide) (Ok.dv (by decide) (Ok.rm (by decide) Ok.t))
theorem t_drawn (g : MOK R C H V cr cq dp wd za) (hN : 1000000 ≤ N) (x : Int32) (f : Nat → Int32) (a e w : Int32) : Ok (f_M_drawn N dp wd za x f a e w) (fun _ => True) := by
  have L1 : ∀ (f : Nat → Int32) (y : Int32) {m : Nat}, m ≤ 200 → ∀ n i (v : Int32), i ≤ m → m - i < n → Ok (f_M_drawn_L83 f y (nI m) n v (nI i)) (fun y => y = y) := by
    intro f y m hm n
    induction n with
    | zero => intro i v _ h; omega
    | succ n ih =>
      intro i v hi hn
      rw [f_M_drawn_L83]
      refine Ok.ite (fun _ => Ok.ret rfl) (fun hc => ?_)
      rw [nI_leI (by omega) (by omega)] at hc
      refine Ok.k1 (fun _ => True) (fun y => y = y) (fun v28 _ => ?_) (fun K hK => Ok.k0 (fun y => y = y) (hK _ trivial) (fun K2 h2 => Ok.ite (fun _ => h2) (fun _ => Ok.ain (by omega) (by decide) (Ok.ite (fun _ => h2) (fun _ => hK _ trivial)))))
      rw [z_nm, nI_1]
      exact ih (i + 1) _ (by omega) (by omega)
  unfold f_M_drawn
  refine Ok.b1 (t_inN e 1 200 (by decide) (by decide)) (fun v3 h3 => Ok.ite (fun _ => Ok.t) (fun n3 => Ok.b1 (t_isLevel w) (fun v1 h1 => Ok.ite (fun _ => Ok.t) (fun n1 => Ok.nm (Ok.nm (Ok.nm ?_))))))
  obtain ⟨l, hl, rfl⟩ := t_level (z_if1 h1 n1)
  obtain ⟨m, rfl, m1, m2⟩ := h3.2 n3
  have L2 : ∀ n i j (u : Int32) (f : Nat → Int32), i ≤ j → j ≤ m → m - j < n → Ok (f_M_drawn_L36 N dp wd za (nI m) (nI l) n (nI i) (nI j) u f) (fun _ => True) := by
    intro n
    induction n with
    | zero => intro i j u f _ _ h; omega
    | succ n ih =>
      intro i j u f hi hj hn
      rw [f_M_drawn_L36]
      refine Ok.ite (fun _ => Ok.t) (fun hc => ?_)
      rw [nI_leI (by omega) (by omega)] at hc
      refine Ok.b2 (t_draw _) (fun v13 v14 _ => Ok.nm (Ok.b2 (t_draw _) (fun v16 v17 _ => Ok.b1 (t_keyAtPlace g hl _ _) (fun v18 _ => Ok.nm (Ok.nm (Ok.b1 (L1 f v18 (m := i) (by omega) N 0 1 (by omega) (by omega)) (fun v23 _ => Ok.asn (by omega) (by decide) ?_)))))))
      refine Ok.k1 (fun v => v = nI 0 ∨ v = nI 1) (fun _ => True) (fun v25 h25 => ?_) (fun K hK => Ok.ite (fun _ => hK _ (Or.inl rfl)) (fun _ => hK _ (Or.inr rfl)))
      rcases h25 with rfl | rfl
      · rw [z_nm, nI_add, z_nm, nI_1]
        exact ih (i + 0) (j + 1) _ _ (by omega) (by omega) (by omega)
      · rw [z_nm, nI_add, z_nm, nI_1]
        exact ih (i + 1) (j + 1) _ _ (by omega) (by omega) (by omega)
  exact Ok.b3 (L2 N 0 0 _ f (by omega) (by omega) (by omega)) (fun _ _ _ _ => Ok.t)
end MU
