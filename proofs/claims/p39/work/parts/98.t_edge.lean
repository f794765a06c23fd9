/-! the reference: rows, places, edges, the common divisor -/
section MT
variable {R C H V : Nat → Nat} {cr cq dp wd za : Nat → Int32} {N l : Nat}
theorem t_spot (g : MOK R C H V cr cq dp wd za) (hN : 50 ≤ N) (hl : l < 5) {k : Nat} (hk : k < 2130 * (H l * V l) + 2) : ∃ r p, r ≤ 44 * H l + 1 ∧ p < z_rl (H l) (V l) r ∧ k = z_rs (H l) (V l) r + p ∧ f_M_rowOf N dp wd za (nI l) (nI k) = some (nI r) ∧ f_M_placeOf N dp wd za (nI l) (nI k) = some (nI p) := by
  obtain ⟨r, -, h1, h2, h3⟩ := m_rowOf (N := N) g hN hl hk
  obtain ⟨e1, e2⟩ := m_placeOf (N := N) g hN hl h1 h2 h3
  exact ⟨r, k - z_rs (H l) (V l) r, h1, by omega, by omega, e1, e2⟩
def z_capk (H0 V0 k : Nat) : Prop := k = 0 ∨ k = 2130 * (H0 * V0) + 1
theorem z_notcap {H0 V0 r p k : Nat} (hH : 1 ≤ H0) (hr : r ≤ 44 * H0 + 1) (hp : p < z_rl H0 V0 r) (hk : k = z_rs H0 V0 r + p) (h : ¬ z_capk H0 V0 k) : 1 ≤ r ∧ r ≤ 44 * H0 := by
  unfold z_capk at h
  rcases Nat.lt_or_ge r 1 with h0 | h0
  · exfalso
    have : r = 0 := by omega
    subst this
    rw [show z_rl H0 V0 0 = 1 from if_pos (Or.inl rfl)] at hp
    rw [show z_rs H0 V0 0 = 0 from if_pos rfl] at hk
    omega
  · rcases Nat.lt_or_ge (44 * H0) r with h1 | h1
    · exfalso
      have : r = 44 * H0 + 1 := by omega
      subst this
      rw [z_rl_last] at hp
      rw [z_rs_last hH] at hk
      omega
    · exact ⟨h0, h1⟩
theorem t_isCap (g : MOK R C H V cr cq dp wd za) (hl : l < 5) {k : Nat} (hk : k < 2130 * (H l * V l) + 2) : (z_capk (H l) (V l) k ∧ f_M_isCap dp wd za (nI l) (nI k) = some 1) ∨ (¬ z_capk (H l) (V l) k ∧ f_M_isCap dp wd za (nI l) (nI k) = some 0) := by
  have hs := g.2.2.sh hl
  unfold f_M_isCap z_capk
  rw [z_j0]
  by_cases h0 : k = 0
  · exact Or.inl ⟨Or.inl h0, by rw [if_pos (by rw [h0]; rfl)]⟩
  · rw [if_neg (by rw [z_eq0 (by omega)]; exact h0), m_sheets g hl, q_b1_s, z_sub1 (by omega)]
    by_cases h1 : k = 2130 * (H l * V l) + 1
    · exact Or.inl ⟨Or.inr h1, by rw [if_pos (by rw [nI_eq (by omega) (by omega)]; omega)]⟩
    · exact Or.inr ⟨by omega, by rw [if_neg (by rw [nI_eq (by omega) (by omega)]; omega)]⟩
theorem t_zonesOf (x : Int32) : Ok (f_M_zonesOf x) (fun y => ∃ z, y = nI z ∧ 1 ≤ z ∧ z ≤ 60) := by
  unfold f_M_zonesOf
  refine Ok.k1 (fun _ => True) (fun y => ∃ z, y = nI z ∧ 1 ≤ z ∧ z ≤ 60) (fun v _ => ?_) (fun K hK => Ok.ite (fun _ => hK _ trivial) (fun _ => hK _ trivial))
  exact Ok.ite (fun _ => Ok.ite (fun _ => Ok.ret ⟨15, rfl, by omega, by omega⟩) (fun _ => Ok.ret ⟨30, rfl, by omega, by omega⟩)) (fun _ => Ok.ret ⟨60, rfl, by omega, by omega⟩)
theorem z_dpne (g : MOK R C H V cr cq dp wd za) (hl : l < 5) : dp l ≠ 0 ∧ wd l ≠ 0 ∧ cr l ≠ 0 ∧ cq l ≠ 0 := by
  obtain ⟨e1, e2, e3, e4⟩ := g.1 l hl
  have hv := g.2.2.hv hl
  have hp := g.2.2.pos l hl
  have hr := g.2.2.2.2.2.2.2.1 l hl
  rw [e1, e2, e3, e4]
  exact ⟨nI_ne0 (by omega) (by omega), nI_ne0 (by omega) (by omega), nI_ne0 (by omega) (by omega), nI_ne0 (by omega) (by omega)⟩
theorem t_bandOf (g : MOK R C H V cr cq dp wd za) (hl : l < 5) (x : Int32) : Ok (f_M_bandOf dp (nI l) x) (fun _ => True) := by
  unfold f_M_bandOf
  exact Ok.ain hl (by decide) (Ok.dv (z_dpne g hl).1 Ok.t)
theorem t_lastRow (g : MOK R C H V cr cq dp wd za) (hl : l < 5) : Ok (f_M_lastRow dp (nI l)) (fun y => y = nI (44 * H l + 1)) := ⟨_, m_lastRow g hl, rfl⟩
theorem t_sheets (g : MOK R C H V cr cq dp wd za) (hl : l < 5) : Ok (f_M_sheets dp wd za (nI l)) (fun y => y = nI (2130 * (H l * V l) + 2)) := ⟨_, m_sheets g hl, rfl⟩
theorem t_many (g : MOK R C H V cr cq dp wd za) (hl : l < 5) (x : Int32) : Ok (f_M_many dp wd (nI l) x) (fun y => ∃ L, y = nI L ∧ 1 ≤ L ∧ L ≤ 563400) := by
  obtain ⟨e1, e2, e3, e4⟩ := g.1 l hl
  have hv := g.2.2.hv hl
  have hp := g.2.2.pos l hl
  unfold f_M_many
  refine Ok.k0 (fun y => ∃ L, y = nI L ∧ 1 ≤ L ∧ L ≤ 563400) (Ok.ret ⟨1, rfl, by omega, by omega⟩) (fun K hK => Ok.ite (fun _ => hK) (fun _ => Ok.b1 (t_lastRow g hl) (fun v1 _ => Ok.ite (fun _ => hK) (fun _ => Ok.b1 (t_bandOf g hl _) (fun v2 _ => Ok.b1 (t_zonesOf _) (fun v3 h3 => Ok.ain hl (by decide) ?_))))))
  obtain ⟨z, rfl, z1, z2⟩ := h3
  rw [e4, pk_mul]
  have a1 : 1 * 1 ≤ z * V l := Nat.mul_le_mul z1 hp.2
  have a2 : z * V l ≤ 60 * 9390 := Nat.mul_le_mul z2 hv.2.1
  exact Ok.ret ⟨z * V l, rfl, by omega, by omega⟩
theorem t_keyOf (g : MOK R C H V cr cq dp wd za) (hl : l < 5) {r : Nat} (hr : r ≤ 44 * H l + 1) (x : Int32) : Ok (f_M_keyOf dp wd za (nI l) (nI r) x) (fun _ => True) := by
  have hv := g.2.2.hv hl
  have hp := g.2.2.pos l hl
  unfold f_M_keyOf
  refine Ok.ite (fun _ => Ok.t) (fun h0 => ?_)
  rw [m_lastRow g hl, q_b1_s]
  refine Ok.ite (fun _ => Ok.b1 (t_sheets g hl) (fun _ _ => Ok.t)) (fun h1 => ?_)
  rw [z_eq0 (by omega)] at h0
  rw [nI_eq (by omega) (by omega)] at h1
  have hq := z_q (r := r) (H := H l) (by omega) (by omega)
  rw [m_bandOf g hl (by omega) (by omega), q_b1_s]
  refine Ok.ain hl (by decide) (Ok.ain hl (by decide) (Ok.ain (by omega) (by decide) (Ok.b1 (t_zonesOf _) (fun _ _ => Ok.ain hl (by decide) (Ok.rm (z_dpne g hl).1 Ok.t)))))
theorem t_placeAt (x y : Int32) : Ok (f_M_placeAt x y) (fun _ => True) := by
  unfold f_M_placeAt
  exact Ok.dvl (by decide) Ok.t
theorem t_rowAt (g : MOK R C H V cr cq dp wd za) (hl : l < 5) (x : Int32) : Ok (f_M_rowAt dp x (nI l)) (fun y => ∃ r, y = nI r ∧ r ≤ 44 * H l + 1) := by
  obtain ⟨e1, e2, e3, e4⟩ := g.1 l hl
  have hv := g.2.2.hv hl
  have hp := g.2.2.pos l hl
  unfold f_M_rowAt
  refine Ok.ite (fun h1 => Ok.ite (fun h2 => Ok.nm ?_) (fun _ => ?_)) (fun _ => Ok.ret ⟨0, rfl, by omega⟩)
  · have a1 := z_lt.mp h1
    have a2 := z_le.mp h2
    rw [show (316800 : Int32).toInt = 316800 from rfl] at a1
    rw [show (-316800 : Int32).toInt = -316800 from rfl] at a2
    have e : (x + 316800).toInt = x.toInt + 316800 := by
      rw [Int32.toInt_add, show (316800 : Int32).toInt = 316800 from rfl, Int.bmod_eq_of_le (by omega) (by omega)]
    obtain ⟨f, f1, f2, f3⟩ := z_nat (r := x + 316800) (by omega)
    have f4 : f < 633600 := by omega
    have hq : f / 14400 ≤ 43 := by omega
    have hm : f % 14400 < 14400 := Nat.mod_lt _ (by decide)
    have e5 : nI (f / 14400) = nI (f / 14400) := rfl
    rw [f2, z_i 14400, z_dv (by omega) (by omega) (by omega), z_nm, z_i 43, pk_sub hq, z_ai hl (by omega), z_ai hl (by omega), z_rm (by omega) (by omega) (by omega), z_ai hl (by omega), e3]
    generalize f / 14400 = q at *
    generalize f % 14400 = m at *
    have b1 : m * H l < 14400 * H l := Nat.mul_lt_mul_of_lt_of_le hm (Nat.le_refl _) hp.1
    have b2 : m * H l / 14400 < H l := Nat.div_lt_of_lt_mul b1
    have b3 : (43 - q) * H l ≤ 43 * H l := Nat.mul_le_mul_right _ (by omega)
    rw [pk_mul, pk_mul]
    generalize (43 - q) * H l = a at *
    generalize hb : m * H l = b at *
    rw [z_dv (by omega) (by omega) (by omega), z_i 1, nI_add, nI_add, pk_sub (by omega), pk_sub (by omega)]
    exact Ok.ret ⟨_, rfl, by omega⟩
  · exact Ok.b1 (t_lastRow g hl) (fun v hv => Ok.ret ⟨_, hv, Nat.le_refl _⟩)
theorem t_keyAtPlace (g : MOK R C H V cr cq dp wd za) (hl : l < 5) (x y : Int32) : Ok (f_M_keyAtPlace dp wd za x y (nI l)) (fun _ => True) := by
  unfold f_M_keyAtPlace
  refine Ok.b1 (t_rowAt g hl x) (fun v1 h1 => ?_)
  obtain ⟨r, rfl, hr⟩ := h1
  exact Ok.b1 (t_many g hl _) (fun v2 _ => Ok.b1 (t_placeAt _ _) (fun v3 _ => Ok.b1 (t_keyOf g hl hr _) (fun _ _ => Ok.t)))
theorem t_laysEdges (g : MOK R C H V cr cq dp wd za) (hN : 50 ≤ N) (hl : l < 5) {k : Nat} (hk : k < 2130 * (H l * V l) + 2) (bl bo : Int64) (ed : Nat → Int64) : Ok (f_M_laysEdges N dp wd za bl bo ed (nI l) (nI k)) (fun y => ∃ a b, y.1 = lN a ∧ y.2.1 = lN b ∧ 1 ≤ a ∧ a ≤ 563400 ∧ 1 ≤ b ∧ b ≤ 563400) := by
  obtain ⟨e1, e2, e3, e4⟩ := g.1 l hl
  have hv := g.2.2.hv hl
  have hp := g.2.2.pos l hl
  obtain ⟨r, p, hr, hpr, -, er, ep⟩ := t_spot (N := N) g hN hl hk
  unfold f_M_laysEdges
  rw [er, q_b1_s]
  refine Ok.asl (by decide) (Ok.asl (by decide) (Ok.ite (fun _ => ?_) (fun _ => Ok.b1 (t_lastRow g hl) (fun v4 _ => Ok.ite (fun _ => ?_) (fun _ => ?_)))))
  · exact Ok.asl (by decide) (Ok.asl (by decide) (Ok.ret ⟨1, 1, rfl, rfl, by omega, by omega, by omega, by omega⟩))
  · exact Ok.asl (by decide) (Ok.asl (by decide) (Ok.ret ⟨1, 1, rfl, rfl, by omega, by omega, by omega, by omega⟩))
  · refine Ok.ain hl (by decide) (Ok.nm (Ok.b1 (t_many g hl _) (fun v7 h7 => Ok.nm (Ok.ain hl (by decide) (Ok.asl (by decide) (Ok.al (by decide) (Ok.asl (by decide) ?_)))))))
    rw [ep, q_b1_s]
    refine Ok.asl (by decide) (Ok.al (by decide) (Ok.asl (by decide) ?_))
    obtain ⟨L, rfl, L1, L2⟩ := h7
    refine Ok.ret ⟨H l, L, ?_, ?_, by omega, by omega, by omega, by omega⟩
    · dsimp only; rw [e3, nI_l (by omega)]
    · dsimp only; rw [nI_l (by omega)]
theorem t_down (x : Int64) {y : Int64} (h : y ≠ 0) : Ok (f_M_down x y) (fun _ => True) := by
  unfold f_M_down
  exact Ok.ite (fun _ => Ok.dvl h Ok.t) (fun _ => Ok.dvl h Ok.t)
theorem z_2lne {a : Nat} (h1 : 1 ≤ a) (h2 : a ≤ 563400) : (2 : Int64) * lN a ≠ 0 := by
  rw [z_l 2, lN_mul]; exact z_lne0 (by omega) (by omega)
theorem t_middleOf (g : MOK R C H V cr cq dp wd za) (hN : 50 ≤ N) (hl : l < 5) {k : Nat} (hk : k < 2130 * (H l * V l) + 2) (bl bo : Int64) (ed : Nat → Int64) (x : Int32) : Ok (f_M_middleOf N dp wd za bl bo ed (nI l) (nI k) x) (fun _ => True) := by
  unfold f_M_middleOf
  rcases t_isCap g hl hk with ⟨-, e⟩ | ⟨-, e⟩ <;> rw [e, q_b1_s]
  · exact Ok.ite (fun h => absurd h (by decide)) (fun _ => Ok.ite (fun _ => Ok.t) (fun _ => Ok.ite (fun _ => Ok.t) (fun _ => Ok.t)))
  · refine Ok.ite (fun _ => Ok.b3 (t_laysEdges g hN hl hk bl bo ed) (fun v2 v3 f4 h => ?_)) (fun h => absurd rfl h)
    obtain ⟨a, b, ha, hb, a1, a2, b1, b2⟩ := h
    dsimp only at ha hb
    subst ha; subst hb
    exact Ok.ite (fun _ => Ok.al (by decide) (Ok.al (by decide) (Ok.b1 (t_down _ (z_2lne a1 a2)) (fun _ _ => Ok.t)))) (fun _ => Ok.al (by decide) (Ok.al (by decide) (Ok.b1 (t_down _ (z_2lne b1 b2)) (fun _ _ => Ok.t))))
theorem t_in (x a b : Int64) : Ok (f_M_in x a b) (fun y => y = if a.toInt ≤ x.toInt ∧ x.toInt ≤ b.toInt then 1 else 0) := ⟨_, m_in x a b, rfl⟩
theorem z_in01 {x a b : Int64} {y : Int32} (h : y = if a.toInt ≤ x.toInt ∧ x.toInt ≤ b.toInt then 1 else 0) : y = 0 ∨ y = 1 := by
  rw [h]; split
  · exact Or.inr rfl
  · exact Or.inl rfl
/-- a number between two small ones -/
theorem t_inN (x : Int32) (a b : Nat) (ha : a < 2 ^ 31) (hb : b < 2 ^ 31) : Ok (f_M_in x.toInt64 (lN a) (lN b)) (fun y => (y = 0 ∨ y = 1) ∧ (¬ y = 0 → ∃ j, x = nI j ∧ a ≤ j ∧ j ≤ b)) := by
  refine Ok.weak (t_in _ _ _) (fun y hy => ⟨z_in01 hy, fun h0 => ?_⟩)
  have h := z_if1 hy h0
  rw [z_toL, lN_toInt ha, lN_toInt hb] at h
  obtain ⟨j, j1, j2, j3⟩ := z_nat (r := x) (by omega)
  exact ⟨j, j2, by omega, by omega⟩
theorem z_rmlt (x y : Int64) (hy : y ≠ 0) : (x - x / y * y).toInt.natAbs < y.toInt.natAbs := by
  have e : (x - x / y * y).toInt = (x.toInt.tmod y.toInt).bmod (2 ^ 64) := by
    rw [Int64.toInt_sub, Int64.toInt_mul, Int64.toInt_div, Int.bmod_mul_bmod, Int.sub_bmod_bmod, Int.tmod_def, Int.mul_comm y.toInt]
  have h0 : y.toInt ≠ 0 := fun z => hy (Int64.toInt_inj.mp (by rw [z]; rfl))
  have ht := Int.natAbs_tmod x.toInt y.toInt
  have hl : x.toInt.natAbs % y.toInt.natAbs < y.toInt.natAbs := Nat.mod_lt _ (Int.natAbs_pos.mpr h0)
  have b1 := y.toInt_lt
  have b2 := y.le_toInt
  rw [e, Int.bmod_eq_of_le (by omega) (by omega)]
  omega
theorem t_common_L : ∀ n (x y : Int64), y.toInt.natAbs < n → (x ≠ 0 ∨ y ≠ 0) → Ok (f_M_common_L17 n x y) (fun z => z ≠ 0) := by
  intro n
  induction n with
  | zero => intro x y h; omega
  | succ n ih =>
    intro x y hn h
    rw [f_M_common_L17]
    refine Ok.ite (fun h0 => ?_) (fun h0 => ?_)
    · have h1 := z_lcmpE.mp h0
      exact Ok.ret (h.resolve_right (fun z => z h1))
    · have hy : y ≠ 0 := fun e => h0 (z_lcmpE.mpr e)
      have := z_rmlt x y hy
      exact Ok.rml hy (ih _ _ (by omega) (Or.inl hy))
theorem t_common (hN : 1000000 ≤ N) (x : Int64) {b : Nat} (h1 : 1 ≤ b) (h2 : b ≤ 563400) : Ok (f_M_common N x (lN b)) (fun z => z ≠ 0) := by
  have hb : (lN b).toInt = (b : Int) := lN_toInt (by omega)
  have hne : lN b ≠ 0 := z_lne0 (by omega) (by omega)
  unfold f_M_common
  refine Ok.k1 (fun _ => True) (fun z => z ≠ 0) (fun v _ => Ok.b1 (t_common_L N v (lN b) (by rw [hb]; omega) (Or.inr hne)) (fun v4 h4 => Ok.ret h4)) (fun K hK => Ok.ite (fun _ => hK _ trivial) (fun _ => hK _ trivial))
theorem t_edge (g : MOK R C H V cr cq dp wd za) (hN : 1000000 ≤ N) (bl bo : Int64) (ed : Nat → Int64) (p q w : Int32) : Ok (f_M_edge N dp wd za bl bo ed p q w) (fun _ => True) := by
  unfold f_M_edge
  refine Ok.b1 (t_isKey g p q) (fun v1 h1 => Ok.ite (fun _ => Ok.t) (fun n1 => Ok.b1 (t_inN w 0 7 (by decide) (by decide)) (fun v2 h2 => Ok.ite (fun _ => Ok.t) (fun n2 => ?_))))
  obtain ⟨l, k, hl, rfl, rfl, hk⟩ := h1 n1
  obtain ⟨j, rfl, -, hj⟩ := h2.2 n2
  refine Ok.b3 (t_laysEdges g (by omega) hl hk bl bo ed) (fun v3 v4 f5 h => ?_)
  obtain ⟨a, b, ha, hb, a1, a2, b1, b2⟩ := h
  dsimp only at ha hb
  subst ha; subst hb
  rw [z_i 2, z_dv (by omega) (by omega) (by omega)]
  refine Ok.aln (by omega) (by decide) (Ok.k1 (fun v => ∃ c, v = lN c ∧ 1 ≤ c ∧ c ≤ 563400) (fun _ => True) (fun v8 h8 => ?_) (fun K hK => Ok.ite (fun _ => hK _ ⟨b, rfl, b1, b2⟩) (fun _ => hK _ ⟨a, rfl, a1, a2⟩)))
  obtain ⟨c, rfl, c1, c2⟩ := h8
  exact Ok.b1 (t_common hN _ c1 c2) (fun v9 h9 => Ok.rm (nI_ne0 (by omega) (by omega)) (Ok.ite (fun _ => Ok.dvl h9 Ok.t) (fun _ => Ok.dvl h9 Ok.t)))
theorem t_middle (g : MOK R C H V cr cq dp wd za) (hN : 1000000 ≤ N) (bl bo : Int64) (ed : Nat → Int64) (p q w : Int32) : Ok (f_M_middle N dp wd za bl bo ed p q w) (fun _ => True) := by
  unfold f_M_middle
  refine Ok.b1 (t_isKey g p q) (fun v1 h1 => Ok.ite (fun _ => Ok.t) (fun n1 => Ok.b1 (t_inN w 0 1 (by decide) (by decide)) (fun v2 h2 => Ok.ite (fun _ => Ok.t) (fun n2 => ?_))))
  obtain ⟨l, k, hl, rfl, rfl, hk⟩ := h1 n1
  exact Ok.b4 (t_middleOf g (by omega) hl hk bl bo ed w) (fun _ _ _ _ _ => Ok.t)
theorem t_pieceNumber (g : MOK R C H V cr cq dp wd za) (hl : l < 5) (x y : Int32) : Ok (f_M_pieceNumber cr cq dp (nI l) x y) (fun _ => True) := by
  obtain ⟨d1, d2, d3, d4⟩ := z_dpne g hl
  unfold f_M_pieceNumber
  exact Ok.ain hl (by decide) (Ok.rm d1 (Ok.ain hl (by decide) (Ok.rm d3 (Ok.ain hl (by decide) (Ok.ain hl (by decide) (Ok.rm d4 Ok.t))))))
theorem t_at (g : MOK R C H V cr cq dp wd za) (hN : 1000000 ≤ N) (p q w : Int32) : Ok (f_M_at N cr cq dp wd za p q w) (fun _ => True) := by
  unfold f_M_at
  refine Ok.b1 (t_isKey g p q) (fun v1 h1 => Ok.ite (fun _ => Ok.t) (fun n1 => Ok.b1 (t_inN w 0 5 (by decide) (by decide)) (fun v2 h2 => Ok.ite (fun _ => Ok.t) (fun n2 => ?_))))
  obtain ⟨l, k, hl, rfl, rfl, hk⟩ := h1 n1
  obtain ⟨r, p, hr, hpr, -, er, ep⟩ := t_spot (N := N) g (by omega) hl hk
  rw [er, q_b1_s, ep, q_b1_s]
  have hc : Ok (f_M_isCap dp wd za (nI l) (nI k)) (fun _ => True) := by
    rcases t_isCap g hl hk with ⟨-, e⟩ | ⟨-, e⟩ <;> rw [e] <;> exact Ok.t
  refine Ok.b1 hc (fun v5 _ => Ok.ite (fun _ => Ok.t) (fun _ => Ok.ite (fun _ => Ok.t) (fun _ => Ok.ite (fun _ => Ok.b1 (t_many g hl _) (fun _ _ => Ok.t)) (fun _ => Ok.ite (fun _ => Ok.ite (fun _ => Ok.b1 (t_bandOf g hl _) (fun _ _ => Ok.t)) (fun _ => Ok.ite (fun _ => Ok.t) (fun _ => Ok.t))) (fun _ => Ok.ite (fun _ => Ok.ite (fun _ => Ok.ain hl (by decide) (Ok.dv (z_dpne g hl).2.1 Ok.t)) (fun _ => Ok.t)) (fun _ => Ok.ite (fun _ => Ok.ite (fun _ => Ok.t) (fun _ => Ok.b1 (t_pieceNumber g hl _ _) (fun _ _ => Ok.t))) (fun _ => Ok.t)))))))
theorem t_keyAt (g : MOK R C H V cr cq dp wd za) (p q w : Int32) : Ok (f_M_keyAt dp wd za p q w) (fun _ => True) := by
  unfold f_M_keyAt
  refine Ok.b1 (t_isLevel p) (fun v1 h1 => Ok.ite (fun _ => Ok.t) (fun n1 => ?_))
  obtain ⟨l, hl, rfl⟩ := t_level (z_if1 h1 n1)
  have hv := g.2.2.hv hl
  rw [m_lastRow g hl, q_b1_s, nI_l (by omega)]
  refine Ok.b1 (t_inN q 0 _ (by decide) (by omega)) (fun v3 h3 => Ok.ite (fun _ => Ok.t) (fun n3 => ?_))
  obtain ⟨r, rfl, -, hr⟩ := h3.2 n3
  exact Ok.b1 (t_many g hl _) (fun v4 _ => Ok.b1 (t_in _ _ _) (fun _ _ => Ok.ite (fun _ => Ok.t) (fun _ => Ok.b1 (t_keyOf g hl hr _) (fun _ _ => Ok.t))))
theorem z_quot {a b : Nat} (h : a ∣ b) (ha : 1 ≤ a) (hb : 1 ≤ b) : 1 ≤ b / a ∧ b / a ≤ b ∧ a * (b / a) = b := by
  obtain ⟨c, rfl⟩ := h
  rw [Nat.mul_div_cancel_left c ha]
  have : 1 ≤ c := Nat.pos_of_ne_zero (fun z => by rw [z] at hb; omega)
  exact ⟨this, Nat.le_mul_of_pos_left c ha, rfl⟩
theorem t_parentOf (g : MOK R C H V cr cq dp wd za) (hN : 50 ≤ N) (hl : l < 5) {t : Nat} (ht : t ≤ l) {k : Nat} (hk : k < 2130 * (H l * V l) + 2) : Ok (f_M_parentOf N dp wd za (nI l) (nI k) (nI t)) (fun y => z_capk (H l) (V l) k → ∃ k2, y = nI k2 ∧ k2 < 2130 * (H t * V t) + 2) := by
  have ht5 : t < 5 := by omega
  have hv := g.2.2.hv hl
  have hvt := g.2.2.hv ht5
  have hp := g.2.2.pos l hl
  have hpt := g.2.2.pos t ht5
  have hd := g.2.2.dvd l hl t ht
  have q1 := z_quot hd.1 hpt.1 hp.1
  have q2 := z_quot hd.2 hpt.2 hp.2
  have hs := g.2.2.sh ht5
  unfold f_M_parentOf
  rcases t_isCap g hl hk with ⟨-, e⟩ | ⟨c, e⟩ <;> rw [e, q_b1_s]
  · refine Ok.ite (fun h => absurd h (by decide)) (fun _ => Ok.ite (fun _ => Ok.ret (fun _ => ⟨0, rfl, by omega⟩)) (fun _ => ?_))
    rw [m_sheets g ht5, q_b1_s, z_sub1 (by omega)]
    exact Ok.ret (fun _ => ⟨_, rfl, by omega⟩)
  · refine Ok.ite (fun _ => ?_) (fun h => absurd rfl h)
    obtain ⟨r, p, hr, hpr, hk2, er, ep⟩ := t_spot (N := N) g hN hl hk
    obtain ⟨r1, r2⟩ := z_notcap hp.1 hr hpr hk2 c
    have hpl := (z_rl_pos (V := V l) hp.1 hp.2 hr).2
    rw [er, q_b1_s, z_ai hl (by omega), (g.1 l hl).2.2.1, z_ai ht5 (by omega), (g.1 t ht5).2.2.1, z_dv (by omega) (by omega) (by omega), z_sub1 r1, z_dv (by omega) (by omega) (by omega), ep, q_b1_s, z_ai hl (by omega), (g.1 l hl).2.2.2, z_ai ht5 (by omega), (g.1 t ht5).2.2.2, z_dv (by omega) (by omega) (by omega), z_dv (by omega) (by omega) (by omega), z_i 1, nI_add]
    have hrow : (r - 1) / (H l / H t) < 44 * H t := by
      apply Nat.div_lt_of_lt_mul
      have : H l / H t * (44 * H t) = 44 * H l := by
        rw [Nat.mul_left_comm, Nat.mul_comm (H l / H t), q1.2.2]
      omega
    exact Ok.b1 (t_keyOf g ht5 (by omega) _) (fun _ _ => Ok.ret (fun z => absurd z c))
theorem t_parent (g : MOK R C H V cr cq dp wd za) (hN : 1000000 ≤ N) (p q w : Int32) : Ok (f_M_parent N dp wd za p q w) (fun _ => True) := by
  unfold f_M_parent
  refine Ok.b1 (t_isKey g p q) (fun v1 h1 => Ok.ite (fun _ => Ok.t) (fun n1 => ?_))
  obtain ⟨l, k, hl, rfl, rfl, hk⟩ := h1 n1
  rw [nI_l (by omega)]
  refine Ok.b1 (t_inN w 0 l (by decide) (by omega)) (fun v2 h2 => Ok.ite (fun _ => Ok.t) (fun n2 => ?_))
  obtain ⟨t, rfl, -, ht⟩ := h2.2 n2
  exact Ok.b1 (t_parentOf g (by omega) hl ht hk) (fun _ _ => Ok.t)
theorem t_child (g : MOK R C H V cr cq dp wd za) (hN : 1000000 ≤ N) (p q w i : Int32) : Ok (f_M_child N dp wd za p q w i) (fun _ => True) := by
  unfold f_M_child
  refine Ok.b1 (t_isKey g p q) (fun v1 h1 => Ok.ite (fun _ => Ok.t) (fun n1 => ?_))
  obtain ⟨l, k, hl, rfl, rfl, hk⟩ := h1 n1
  rw [nI_l (by omega)]
  refine Ok.b1 (t_inN w l 4 (by omega) (by decide)) (fun v2 h2 => Ok.ite (fun _ => Ok.t) (fun n2 => Ok.ite (fun hi => ?_) (fun _ => Ok.t)))
  obtain ⟨t, rfl, ht, ht4⟩ := h2.2 n2
  have ht5 : t < 5 := by omega
  have hv := g.2.2.hv hl
  have hvt := g.2.2.hv ht5
  have hp := g.2.2.pos l hl
  have hpt := g.2.2.pos t ht5
  have hd := g.2.2.dvd t ht5 l ht
  have q1 := z_quot hd.1 hp.1 hpt.1
  have q2 := z_quot hd.2 hp.2 hpt.2
  rcases t_isCap g hl hk with ⟨-, e⟩ | ⟨c, e⟩ <;> rw [e, q_b1_s]
  · refine Ok.k1 (fun _ => True) (fun _ => True) (fun v4 _ => ?_) (fun K hK => Ok.ite (fun h => absurd h (by decide)) (fun _ => hK _ trivial))
    refine Ok.k1 (fun _ => True) (fun _ => True) (fun v5 _ => ?_) (fun K hK => Ok.ite (fun h => absurd h (by decide)) (fun _ => hK _ trivial))
    exact Ok.ite (fun _ => Ok.t) (fun _ => Ok.ite (fun _ => Ok.ite (fun h => absurd h (by decide)) (fun _ => Ok.ite (fun _ => Ok.t) (fun _ => Ok.b1 (t_sheets g ht5) (fun _ _ => Ok.t)))) (fun _ => Ok.t))
  · refine Ok.k1 (fun v => v = nI (H t / H l)) (fun _ => True) (fun v4 h4 => ?_) (fun K hK => Ok.ite (fun _ => ?_) (fun h => absurd rfl h))
    · subst h4
      refine Ok.k1 (fun v => v = nI (V t / V l)) (fun _ => True) (fun v5 h5 => ?_) (fun K hK => Ok.ite (fun _ => ?_) (fun h => absurd rfl h))
      · subst h5
        refine Ok.ite (fun _ => Ok.t) (fun hne => Ok.ite (fun hlt => Ok.ite (fun _ => ?_) (fun h => absurd rfl h)) (fun _ => Ok.t))
        have a1 := z_le.mp hi
        rw [show (-1 : Int32).toInt = -1 from rfl] at a1
        have a2 : i.toInt ≠ -1 := fun z => hne (Int32.toInt_inj.mp (by rw [z]; rfl))
        obtain ⟨j, j1, rfl, j3⟩ := z_nat (r := i) (by omega)
        have hda : H t / H l * (V t / V l) ≤ H t * V t := Nat.mul_le_mul q1.2.1 q2.2.1
        rw [pk_mul, nI_ltI (by omega) (by omega)] at hlt
        obtain ⟨r, p, hr, hpr, hk2, er, ep⟩ := t_spot (N := N) g (by omega) hl hk
        obtain ⟨r1, r2⟩ := z_notcap hp.1 hr hpr hk2 c
        rw [er, q_b1_s, z_dv (by omega) (by omega) (by omega), ep, q_b1_s, z_rm (by omega) (by omega) (by omega), z_sub1 r1, pk_mul, z_i 1, nI_add, nI_add]
        have c1 : j / (V t / V l) < H t / H l := Nat.div_lt_of_lt_mul (by rw [Nat.mul_comm]; exact hlt)
        have c2 : (r - 1) * (H t / H l) ≤ (44 * H l - 1) * (H t / H l) := Nat.mul_le_mul_right _ (by omega)
        have c3 : (44 * H l - 1) * (H t / H l) + H t / H l = 44 * H t := by
          rw [← Nat.succ_mul, Nat.succ_eq_add_one, Nat.sub_add_cancel (by omega), Nat.mul_assoc, q1.2.2]
        exact Ok.b1 (t_keyOf g ht5 (by omega) _) (fun _ _ => Ok.t)
      · rw [z_ai ht5 (by omega), (g.1 t ht5).2.2.2, z_ai hl (by omega), (g.1 l hl).2.2.2, z_dv (by omega) (by omega) (by omega)]
        exact hK _ rfl
    · rw [z_ai ht5 (by omega), (g.1 t ht5).2.2.1, z_ai hl (by omega), (g.1 l hl).2.2.1, z_dv (by omega) (by omega) (by omega)]
      exact hK _ rfl
end MT
