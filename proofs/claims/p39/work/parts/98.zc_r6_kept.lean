/-! kept states on both sides -/
section R6
variable {R C H V : Nat → Nat} {rc cc br zc rw sh cr cq dp wd za : Nat → Int32} {N m l s : Nat} {L K : Nat → Nat} {Y : Nat → Int32} {fl fk fy pl pk py : Nat → Int32}
theorem r_acopy {R2 C2 : Nat → Nat} {rc2 cc2 : Nat → Int32} (h : z_kg R2 C2 rc2 cc2) (hN : 100000 ≤ N) (hm : m ≤ 60) (hr : z_rp m L K Y fl fk fy) (a1 a2 a3 a4 : Int32) (sl sk sy : Nat → Int32) (ss : Int32) (rc cc br zc rw sh : Nat → Int32) (b1 b2 b3 b4 : Int32) : Ok (f_Atlas_copyFrom N a1 a2 a3 a4 sl sk sy ss rc cc br zc rw sh b1 b2 b3 b4 fl fk fy (nI m) rc2 cc2) (fun x => x.2.2.2.2.2.2.2.1 = nI m ∧ z_rp m L K Y x.2.2.2.2.1 x.2.2.2.2.2.1 x.2.2.2.2.2.2.1 ∧ GOK R2 C2 (z_pr R2) (z_pr C2) x.2.2.2.2.2.2.2.2.1 x.2.2.2.2.2.2.2.2.2.1 x.2.2.2.2.2.2.2.2.2.2.1 x.2.2.2.2.2.2.2.2.2.2.2.1 x.2.2.2.2.2.2.2.2.2.2.2.2.1 x.2.2.2.2.2.2.2.2.2.2.2.2.2) := by
  unfold f_Atlas_copyFrom f_Store_copyFrom
  refine Ok.b6 (s_gcopy h hN rc cc br zc rw sh) (fun f1 f2 f3 f4 f5 f6 hg => ?_)
  rw [z_nm, z_nm, z_nm, q_b4_s]
  refine Ok.ret ⟨rfl, fun j hj => ?_, hg⟩
  dsimp only
  rw [z_cpy (by omega), z_cpy (by omega), z_cpy (by omega)]
  exact hr j hj
theorem r_x_keep (g : GOK R C H V rc cc br zc rw sh) (hN : 100000 ≤ N) {k : Nat} (hk : k < 8) (hm : m ≤ 60) (hr : z_rp m L K Y fl fk fy) (a1 a2 a3 a4 : Int32) (c1 c2 c3 c4 : Int32) (sl2 sk2 sy2 : Nat → Int32) (ss2 : Int32) (rc2 cc2 br2 zc2 rw2 sh2 : Nat → Int32) : Ok (f_X_keep N k (nI k) a1 a2 a3 a4 fl fk fy (nI m) rc cc c1 c2 c3 c4 sl2 sk2 sy2 ss2 rc2 cc2 br2 zc2 rw2 sh2) (fun x => x.1 = nI (k + 1) ∧ x.2.1 = nI (k + 1) ∧ x.2.2.2.2.2.2.2.2.2.1 = nI m ∧ z_rp m L K Y x.2.2.2.2.2.2.1 x.2.2.2.2.2.2.2.1 x.2.2.2.2.2.2.2.2.1 ∧ z_kg R C x.2.2.2.2.2.2.2.2.2.2.1 x.2.2.2.2.2.2.2.2.2.2.2.1) := by
  unfold f_X_keep
  refine Ok.ite (fun _ => ?_) (fun h => absurd (by rw [z_i 8, nI_ltI (by omega) (by omega)]; exact hk) h)
  unfold q_kx
  rw [if_pos ⟨rfl, hk⟩]
  refine Ok.b14 (r_acopy g.kg hN hm hr _ _ _ _ sl2 sk2 sy2 ss2 rc2 cc2 br2 zc2 rw2 sh2 _ _ _ _) (fun v1 v2 v3 v4 f5 f6 f7 v8 f9 f10 f11 f12 f13 f14 h => Ok.nm (Ok.ret ?_))
  exact ⟨nI_1 k, nI_1 k, h.1, h.2.1, h.2.2.kg⟩
theorem r_x_undo {R2 C2 : Nat → Nat} {rc2 cc2 : Nat → Int32} (h : z_kg R2 C2 rc2 cc2) (hN : 100000 ≤ N) {k : Nat} (hk : k < 8) (hm : m ≤ 60) (hr : z_rp m L K Y fl fk fy) (a1 a2 a3 a4 : Int32) (sl sk sy : Nat → Int32) (ss : Int32) (c1 c2 c3 c4 : Int32) : Ok (f_X_undo N k (nI (k + 1)) a1 a2 a3 a4 sl sk sy ss rc cc br zc rw sh c1 c2 c3 c4 fl fk fy (nI m) rc2 cc2) (fun x => x.1 = nI k ∧ x.2.1 = nI k ∧ x.2.2.2.2.2.2.2.2.2.1 = nI m ∧ z_rp m L K Y x.2.2.2.2.2.2.1 x.2.2.2.2.2.2.2.1 x.2.2.2.2.2.2.2.2.1 ∧ GOK R2 C2 (z_pr R2) (z_pr C2) x.2.2.2.2.2.2.2.2.2.2.1 x.2.2.2.2.2.2.2.2.2.2.2.1 x.2.2.2.2.2.2.2.2.2.2.2.2.1 x.2.2.2.2.2.2.2.2.2.2.2.2.2.1 x.2.2.2.2.2.2.2.2.2.2.2.2.2.2.1 x.2.2.2.2.2.2.2.2.2.2.2.2.2.2.2) := by
  unfold f_X_undo
  refine Ok.ite (fun _ => ?_) (fun h => absurd (by rw [z_0lt (by omega)]; omega) h)
  rw [z_nm, z_sub1 (by omega), Nat.add_sub_cancel]
  unfold q_kx
  rw [if_pos ⟨rfl, hk⟩]
  refine Ok.b14 (r_acopy h hN hm hr _ _ _ _ sl sk sy ss rc cc br zc rw sh _ _ _ _) (fun v1 v2 v3 v4 f5 f6 f7 v8 f9 f10 f11 f12 f13 f14 h => Ok.ret ?_)
  exact ⟨rfl, rfl, h.1, h.2.1, h.2.2⟩
/-- a kept state of the reference -/
def z_mkT (R C : Nat → Nat) (m : Nat) (L K : Nat → Nat) (Y : Nat → Int32) (kp : Nat → Int32) (s : Nat) : Prop := z_kg R C (fun l => kp (194 * s + 2 * l)) (fun l => kp (194 * s + 2 * l + 1)) ∧ kp (194 * s + 10) = nI m ∧ z_rp m L K Y (fun i => kp (194 * s + 14 + 3 * i)) (fun i => kp (194 * s + 14 + 3 * i + 1)) (fun i => kp (194 * s + 14 + 3 * i + 2))
theorem z_mkT_same (hm : m ≤ 60) {kp kp2 : Nat → Int32} (h : z_mkT R C m L K Y kp s) (e : ∀ x, x < 194 * (s + 1) → kp2 x = kp x) : z_mkT R C m L K Y kp2 s := by
  obtain ⟨h1, h2, h3⟩ := h
  refine ⟨z_kg_same h1 (fun l hl => ⟨e _ (by omega), e _ (by omega)⟩), by rw [e _ (by omega)]; exact h2, fun i hi => ?_⟩
  dsimp only
  rw [e _ (by omega), e _ (by omega), e _ (by omega)]
  exact h3 i hi
theorem r_keep_L90 {B : Nat} (hB : B + 194 ≤ 1552) (kp : Nat → Int32) : ∀ n i (f : Nat → Int32), i ≤ 60 → 60 - i < n → (∀ x, x < B + 14 → f x = kp x) → (∀ l, l < i → f (B + 14 + 3 * l) = pl l ∧ f (B + 14 + 3 * l + 1) = pk l ∧ f (B + 14 + 3 * l + 2) = py l) → Ok (f_M_keep_L90 pk pl py n (nI i) f (nI (B + 14 + 3 * i))) (fun y => (∀ x, x < B + 14 → y.1 x = kp x) ∧ ∀ l, l < 60 → y.1 (B + 14 + 3 * l) = pl l ∧ y.1 (B + 14 + 3 * l + 1) = pk l ∧ y.1 (B + 14 + 3 * l + 2) = py l) := by
  intro n
  induction n with
  | zero => intro i f _ h; omega
  | succ n ih =>
    intro i f hi hn h1 h2
    rw [f_M_keep_L90]
    refine Ok.ite (fun hc => ?_) (fun hc => ?_)
    all_goals rw [z_i 60, nI_leI (by omega) (by omega)] at hc
    · have : i = 60 := by omega
      subst this
      exact Ok.ret ⟨h1, h2⟩
    · rw [z_ai (by omega) (by omega), m_keeps (by omega), q_b2_s, z_ai (by omega) (by omega), m_keeps (by omega), q_b2_s, z_ai (by omega) (by omega), m_keeps (by omega), q_b2_s, z_nm, nI_1]
      refine ih (i + 1) _ (by omega) (by omega) (fun x hx => ?_) (fun l hl => ?_)
      · rw [z_updN (by omega), z_updN (by omega), z_updN (by omega)]; exact h1 x hx
      · by_cases e : l = i
        · subst e
          exact ⟨by rw [z_updN (by omega), z_updN (by omega), z_updS], by rw [z_updN (by omega), z_updS], by rw [z_updS]⟩
        · rw [z_updN (by omega), z_updN (by omega), z_updN (by omega), z_updN (by omega), z_updN (by omega), z_updN (by omega), z_updN (by omega), z_updN (by omega), z_updN (by omega)]
          exact h2 l (by omega)
theorem r_m_keep (g : MOK R C H V cr cq dp wd za) (hN : 1000000 ≤ N) (hm : m ≤ 60) (hr : z_rp m L K Y pl pk py) (hs : s < 8) (a b c d : Int32) (kp : Nat → Int32) (ka : Int32) (nn : Nat → Int32) : Ok (f_M_keep N cr cq a b c d (nI m) (nI s) pl pk py kp ka nn) (fun x => x.1 = nI (s + 1) ∧ x.2.1 = nI (s + 1) ∧ z_mkT R C m L K Y x.2.2.1 s ∧ ∀ i, i < 194 * s → x.2.2.1 i = kp i) := by
  have hB : 194 * s + 194 ≤ 1552 := by omega
  unfold f_M_keep
  refine Ok.ite (fun hc => ?_) (fun _ => Ok.nm (Ok.nm ?_))
  · exfalso
    rw [z_i 8, nI_eq (by omega) (by omega)] at hc
    omega
  rw [z_i 194, pk_mul]
  refine Ok.b2 (t_keep_L25 (cr := cr) (cq := cq) hB kp N 0 kp (by omega) (by omega) (fun _ _ => rfl) (fun l hl => absurd hl (by omega))) (fun f6 v7 h6 => ?_)
  obtain ⟨e7, k1, k2⟩ := h6
  dsimp only at e7 k1 k2
  subst e7
  rw [m_keeps (by omega), q_b2_s, m_keeps (by omega), q_b2_s, m_keeps (by omega), q_b2_s, m_keeps (by omega), q_b2_s, z_nm]
  refine Ok.b2 (r_keep_L90 (pl := pl) (pk := pk) (py := py) hB _ N 0 _ (by omega) (by omega) (fun _ _ => rfl) (fun l hl => absurd hl (by omega))) (fun f20 v21 h20 => Ok.asn hs (by decide) (Ok.nm ?_))
  obtain ⟨k3, k4⟩ := h20
  dsimp only at k3 k4
  have g3 : ∀ x, x < 194 * s + 10 → f20 x = f6 x := by
    intro x hx
    rw [k3 x (by omega), z_updN (by omega), z_updN (by omega), z_updN (by omega), z_updN (by omega)]
  refine Ok.ret ⟨?_, ?_, ⟨?_, ?_, fun i hi => ?_⟩, ?_⟩
  · dsimp only; rw [nI_1]
  · dsimp only; rw [nI_1]
  · dsimp only
    exact z_kg_same g.kg (fun l hl => ⟨by rw [g3 _ (by omega)]; exact (k2 l hl).1, by rw [g3 _ (by omega)]; exact (k2 l hl).2⟩)
  · dsimp only
    rw [k3 _ (by omega), z_updN (by omega), z_updN (by omega), z_updN (by omega), z_updS]
  · dsimp only
    obtain ⟨e1, e2, e3⟩ := k4 i (by omega)
    rw [e1, e2, e3]
    exact hr i hi
  · intro i hi
    dsimp only
    rw [g3 i (by omega)]
    exact k1 i hi
theorem r_undo_L98 {B : Nat} (hB : B + 194 ≤ 1552) (kp : Nat → Int32) : ∀ n i (a b c : Nat → Int32), i ≤ 60 → 60 - i < n → (∀ l, l < i → a l = kp (B + 14 + 3 * l) ∧ b l = kp (B + 14 + 3 * l + 1) ∧ c l = kp (B + 14 + 3 * l + 2)) → Ok (f_M_undo_L98 kp n (nI i) a b c (nI (B + 14 + 3 * i))) (fun y => ∀ l, l < 60 → y.1 l = kp (B + 14 + 3 * l) ∧ y.2.1 l = kp (B + 14 + 3 * l + 1) ∧ y.2.2.1 l = kp (B + 14 + 3 * l + 2)) := by
  intro n
  induction n with
  | zero => intro i a b c _ h; omega
  | succ n ih =>
    intro i a b c hi hn h1
    rw [f_M_undo_L98]
    refine Ok.ite (fun hc => ?_) (fun hc => ?_)
    all_goals rw [z_i 60, nI_leI (by omega) (by omega)] at hc
    · have : i = 60 := by omega
      subst this
      exact Ok.ret h1
    · rw [m_tells (by omega), q_b2_s, z_as (by omega) (by omega), m_tells (by omega), q_b2_s, z_as (by omega) (by omega), m_tells (by omega), q_b2_s, z_as (by omega) (by omega), z_nm, nI_1]
      refine ih (i + 1) _ _ _ (by omega) (by omega) (fun l hl => ?_)
      by_cases e : l = i
      · subst e; rw [z_updS, z_updS, z_updS]; exact ⟨rfl, rfl, rfl⟩
      · rw [z_updN e, z_updN e, z_updN e]; exact h1 l (by omega)
theorem r_m_undo (g : MOK R C H V cr cq dp wd za) (hN : 1000000 ≤ N) {R2 C2 : Nat → Nat} {kp : Nat → Int32} (h : z_mkT R2 C2 m L K Y kp s) (hm : m ≤ 60) (hs : s < 8) (a b c d e : Int32) (ka : Int32) (nn : Nat → Int32) : Ok (f_M_undo N cr cq dp wd a b c d e (nI (s + 1)) pl pk py kp ka nn) (fun x => x.1 = nI s ∧ MOK R2 C2 (z_pr R2) (z_pr C2) x.2.1 x.2.2.1 x.2.2.2.1 x.2.2.2.2.1 za ∧ x.2.2.2.2.2.2.2.2.2.1 = nI m ∧ x.2.2.2.2.2.2.2.2.2.2.1 = nI s ∧ z_rp m L K Y x.2.2.2.2.2.2.2.2.2.2.2.1 x.2.2.2.2.2.2.2.2.2.2.2.2.1 x.2.2.2.2.2.2.2.2.2.2.2.2.2.1) := by
  have hB : 194 * s + 194 ≤ 1552 := by omega
  obtain ⟨k1, k2, k3⟩ := h
  unfold f_M_undo
  refine Ok.ite (fun hc => absurd hc (nI_ne0 (by omega) (by omega))) (fun _ => ?_)
  rw [z_sub1 (by omega), Nat.add_sub_cancel, z_nm, z_i 194, pk_mul, z_nm, z_nm]
  refine Ok.b3 (t_undo_L33 hB kp N 0 cr cq (by omega) (by omega) (fun l hl => absurd hl (by omega))) (fun f8 f9 v10 h8 => ?_)
  obtain ⟨e10, h8⟩ := h8
  dsimp only at e10 h8
  subst e10
  rw [m_tells (by omega), q_b2_s, m_tells (by omega), q_b2_s, m_tells (by omega), q_b2_s, m_tells (by omega), q_b2_s, z_nm]
  refine Ok.b4 (r_undo_L98 hB kp N 0 pl pk py (by omega) (by omega) (fun l hl => absurd hl (by omega))) (fun f25 f26 f27 v28 h25 => Ok.ain hs (by decide) ?_)
  dsimp only at h25
  have hk8 := z_kg_same k1 h8
  refine Ok.b2 (t_laysGrids hk8 hN dp wd) (fun f30 f31 h30 => Ok.ret ⟨rfl, z_mok hk8 g.2.1 h30, k2, rfl, fun i hi => ?_⟩)
  dsimp only
  obtain ⟨e1, e2, e3⟩ := h25 i (by omega)
  rw [e1, e2, e3]
  exact k3 i hi
end R6
