/-! store on both sides -/
section R3
variable {R C H V : Nat → Nat} {rc cc br zc rw sh cr cq dp wd za : Nat → Int32} {N m : Nat} {L K : Nat → Nat} {Y : Nat → Int32} {fl fk fy : Nat → Int32}
theorem z_rp_ins (hr : z_rp m L K Y fl fk fy) {p l k : Nat} {y : Int32} (hp : p ≤ m) {a b c : Nat → Int32} (ha : ∀ j, j < m + 1 → a j = a_ins p (nI l) fl j) (hb : ∀ j, j < m + 1 → b j = a_ins p (nI k) fk j) (hc : ∀ j, j < m + 1 → c j = a_ins p y fy j) : z_rp (m + 1) (a_ins p l L) (a_ins p k K) (a_ins p y Y) a b c := by
  intro i hi
  rw [ha i hi, hb i hi, hc i hi]
  unfold a_ins
  by_cases c1 : i < p
  · rw [if_pos c1, if_pos c1, if_pos c1, if_pos c1, if_pos c1, if_pos c1]; exact hr i (by omega)
  · rw [if_neg c1, if_neg c1, if_neg c1, if_neg c1, if_neg c1, if_neg c1]
    by_cases c2 : i = p
    · rw [if_pos c2, if_pos c2, if_pos c2, if_pos c2, if_pos c2, if_pos c2]; exact ⟨rfl, rfl, rfl⟩
    · rw [if_neg c2, if_neg c2, if_neg c2, if_neg c2, if_neg c2, if_neg c2]; exact hr (i - 1) (by omega)
theorem z_rp_year (hr : z_rp m L K Y fl fk fy) {p : Nat} {y : Int32} : z_rp m L K (upd Y p y) fl fk (upd fy p y) := by
  intro i hi
  obtain ⟨a, b, c⟩ := hr i hi
  refine ⟨a, b, ?_⟩
  by_cases e : i = p
  · subst e; rw [z_updS, z_updS]
  · rw [z_updN e, z_updN e]; exact c
/-- what put does -/
def z_putR (m : Nat) (L K : Nat → Nat) (Y : Nat → Int32) (l k p : Nat) (y r : Int32) (m2 : Nat) (L2 K2 : Nat → Nat) (Y2 : Nat → Int32) : Prop :=
  (z_is m L K l k p ∧ r = nI m ∧ m2 = m ∧ L2 = L ∧ K2 = K ∧ Y2 = upd Y p y) ∨ (¬ z_is m L K l k p ∧ m = 60 ∧ r = -2 ∧ m2 = m ∧ L2 = L ∧ K2 = K ∧ Y2 = Y) ∨ (¬ z_is m L K l k p ∧ m < 60 ∧ r = nI (m + 1) ∧ m2 = m + 1 ∧ L2 = a_ins p l L ∧ K2 = a_ins p k K ∧ Y2 = a_ins p y Y)
theorem z_putR_pc (h : z_pc H V m L K) {l k p : Nat} {y r : Int32} {m2 : Nat} {L2 K2 : Nat → Nat} {Y2 : Nat → Int32} (hl : l < 5) (hk : k < 2130 * (H l * V l) + 2) (hp : z_slot m L K l k p) (hr : z_putR m L K Y l k p y r m2 L2 K2 Y2) : z_pc H V m2 L2 K2 := by
  rcases hr with ⟨-, -, rfl, rfl, rfl, -⟩ | ⟨-, -, -, rfl, rfl, rfl, -⟩ | ⟨hn, hm, -, rfl, rfl, rfl, -⟩
  · exact h
  · exact h
  · exact z_pc_ins h hp hn hm hl hk
theorem z_putR_one {l k p : Nat} {y r r' : Int32} {m2 m3 : Nat} {L2 K2 L3 K3 : Nat → Nat} {Y2 Y3 : Nat → Int32} (h1 : z_putR m L K Y l k p y r m2 L2 K2 Y2) (h2 : z_putR m L K Y l k p y r' m3 L3 K3 Y3) : r = r' ∧ m2 = m3 ∧ L2 = L3 ∧ K2 = K3 ∧ Y2 = Y3 := by
  rcases h1 with ⟨a, b, c, d, e, f⟩ | ⟨a, a', b, c, d, e, f⟩ | ⟨a, a', b, c, d, e, f⟩ <;> rcases h2 with ⟨a2, b2, c2, d2, e2, f2⟩ | ⟨a2, a3, b2, c2, d2, e2, f2⟩ | ⟨a2, a3, b2, c2, d2, e2, f2⟩
  · exact ⟨b.trans b2.symm, c.trans c2.symm, d.trans d2.symm, e.trans e2.symm, f.trans f2.symm⟩
  · exact absurd a a2
  · exact absurd a a2
  · exact absurd a2 a
  · exact ⟨b.trans b2.symm, c.trans c2.symm, d.trans d2.symm, e.trans e2.symm, f.trans f2.symm⟩
  · omega
  · exact absurd a2 a
  · omega
  · exact ⟨b.trans b2.symm, c.trans c2.symm, d.trans d2.symm, e.trans e2.symm, f.trans f2.symm⟩
theorem z_slot_one (h : z_pc H V m L K) {l k p p' : Nat} (h1 : z_slot m L K l k p) (h2 : z_slot m L K l k p') : p = p' := by
  obtain ⟨a1, a2, a3⟩ := h1
  obtain ⟨b1, b2, b3⟩ := h2
  rcases Nat.lt_trichotomy p p' with c | c | c
  · exact absurd (b2 p c) (a3 p (Nat.le_refl _) (by omega))
  · exact c
  · exact absurd (a2 p' c) (b3 p' (Nat.le_refl _) (by omega))
theorem r_put (h : z_pc H V m L K) (hb : ∀ l, l < 5 → 2130 * (H l * V l) + 2 ≤ 20000000) (hr : z_rp m L K Y fl fk fy) (hN : 1000000 ≤ N) {l k p : Nat} (hl : l < 5) (hk : k < 20000000) (hp : z_slot m L K l k p) (y : Int32) : Ok (f_Store_put N fl fk fy (nI m) (nI l) (nI k) y) (fun x => ∃ r m2 L2 K2 Y2, z_putR m L K Y l k p y r m2 L2 K2 Y2 ∧ (r = -2 ∧ x.1 = 0 ∨ r = nI m2 ∧ x.1 = 1) ∧ x.2.2.2.2 = nI m2 ∧ z_rp m2 L2 K2 Y2 x.2.1 x.2.2.1 x.2.2.2.1) := by
  have hm := h.1
  unfold f_Store_put
  refine Ok.b1 (r_find h hb hr hN hl hk hp) (fun v1 h1 => ?_)
  rcases h1 with ⟨z, rfl⟩ | ⟨z, rfl⟩
  · have hpm : p < m := z.1
    refine Ok.ite (fun c => absurd c (z_nIm1 (by omega))) (fun _ => ?_)
    refine Ok.asn (by omega) (by decide) (Ok.ret ⟨_, _, _, _, _, Or.inl ⟨z, rfl, rfl, rfl, rfl, rfl⟩, Or.inr ⟨rfl, rfl⟩, rfl, z_rp_year hr⟩)
  · refine Ok.ite (fun _ => Ok.ite (fun c => ?_) (fun c => ?_)) (fun c => absurd rfl c)
    all_goals rw [z_i 60, nI_ltI (by omega) (by omega)] at c
    · refine Ok.b4 (r_put_L h hb hr c hl hk hp z N m fl fk fy hp.1 (Nat.le_refl _) (by omega) ⟨fun _ _ => rfl, fun j h1 h2 => absurd h1 (by omega)⟩ ⟨fun _ _ => rfl, fun j h1 h2 => absurd h1 (by omega)⟩ ⟨fun _ _ => rfl, fun j h1 h2 => absurd h1 (by omega)⟩) (fun v6 f7 f8 f9 h6 => ?_)
      obtain ⟨e6, b1, b2, b3⟩ := h6
      dsimp only at e6 b1 b2 b3
      subst e6
      have hpm := hp.1
      refine Ok.asn (by omega) (by decide) (Ok.asn (by omega) (by decide) (Ok.asn (by omega) (by decide) (Ok.nm ?_)))
      rw [nI_1]
      exact Ok.ret ⟨_, _, _, _, _, Or.inr (Or.inr ⟨z, c, rfl, rfl, rfl, rfl, rfl⟩), Or.inr ⟨rfl, rfl⟩, rfl, z_rp_ins hr hpm (z_hole_ins hpm b1) (z_hole_ins hpm b2) (z_hole_ins hpm b3)⟩
    · exact Ok.ret ⟨_, _, _, _, _, Or.inr (Or.inl ⟨z, by omega, rfl, rfl, rfl, rfl, rfl⟩), Or.inl ⟨rfl, rfl⟩, rfl, hr⟩
/-- what store does -/
def z_storeR (H V : Nat → Nat) (m : Nat) (L K : Nat → Nat) (Y : Nat → Int32) (p q y r : Int32) (m2 : Nat) (L2 K2 : Nat → Nat) (Y2 : Nat → Int32) : Prop :=
  (¬ (z_hs H V p q ∧ 1800 ≤ y.toInt ∧ y.toInt ≤ 2100) ∧ r = -1 ∧ m2 = m ∧ L2 = L ∧ K2 = K ∧ Y2 = Y) ∨ (∃ l k l2 k2 j, (z_hs H V p q ∧ 1800 ≤ y.toInt ∧ y.toInt ≤ 2100) ∧ l < 5 ∧ p = nI l ∧ q = nI k ∧ k < 2130 * (H l * V l) + 2 ∧ z_at0 H V l k l2 k2 ∧ z_slot m L K l2 k2 j ∧ z_putR m L K Y l2 k2 j y r m2 L2 K2 Y2)
theorem z_storeR_pc (g : CUT R C H V) (h : z_pc H V m L K) {p q y r : Int32} {m2 : Nat} {L2 K2 : Nat → Nat} {Y2 : Nat → Int32} (hr : z_storeR H V m L K Y p q y r m2 L2 K2 Y2) : z_pc H V m2 L2 K2 := by
  rcases hr with ⟨-, -, rfl, rfl, rfl, -⟩ | ⟨l, k, l2, k2, j, -, hl, -, -, hk, ha, hs, hp⟩
  · exact h
  · obtain ⟨b1, b2⟩ := z_at0_in g hl hk ha
    exact z_putR_pc h b1 b2 hs hp
theorem z_storeR_one (g : CUT R C H V) (h : z_pc H V m L K) {p q y r r' : Int32} {m2 m3 : Nat} {L2 K2 L3 K3 : Nat → Nat} {Y2 Y3 : Nat → Int32} (h1 : z_storeR H V m L K Y p q y r m2 L2 K2 Y2) (h2 : z_storeR H V m L K Y p q y r' m3 L3 K3 Y3) : r = r' ∧ m2 = m3 ∧ L2 = L3 ∧ K2 = K3 ∧ Y2 = Y3 := by
  rcases h1 with ⟨a, b, c, d, e, f⟩ | ⟨l, k, l2, k2, j, a, hl, ep, eq, hk, ha, hs, hp⟩ <;> rcases h2 with ⟨a', b', c', d', e', f'⟩ | ⟨l', k', l2', k2', j', a', hl', ep', eq', hk', ha', hs', hp'⟩
  · exact ⟨b.trans b'.symm, c.trans c'.symm, d.trans d'.symm, e.trans e'.symm, f.trans f'.symm⟩
  · exact absurd a' a
  · exact absurd a a'
  · have hsl := g.sh hl
    have hsl' := g.sh hl'
    have : l = l' := by rw [ep, nI_eq (by omega) (by omega)] at ep'; exact ep'
    subst this
    have : k = k' := by rw [eq, nI_eq (by omega) (by omega)] at eq'; exact eq'
    subst this
    obtain ⟨rfl, rfl⟩ := z_at0_one (g.pos l hl).1 ha ha'
    have := z_slot_one h hs hs'
    subst this
    exact z_putR_one hp hp'
theorem r_x_store (g : GOK R C H V rc cc br zc rw sh) (h : z_pc H V m L K) (hr : z_rp m L K Y fl fk fy) (hN : 1000000 ≤ N) (p q y : Int32) : Ok (f_X_store N fl fk fy (nI m) br zc rw sh p q y) (fun x => ∃ r m2 L2 K2 Y2, z_storeR H V m L K Y p q y r m2 L2 K2 Y2 ∧ x.1 = r ∧ x.2.2.2.2 = nI m2 ∧ z_rp m2 L2 K2 Y2 x.2.1 x.2.2.1 x.2.2.2.1) := by
  have hb : ∀ l, l < 5 → 2130 * (H l * V l) + 2 ≤ 20000000 := fun l hl => g.2.sh hl
  unfold f_X_store
  refine Ok.b1 (r_hasSheet g p q) (fun v1 h1 => ?_)
  rcases h1 with ⟨z, rfl⟩ | ⟨z, rfl⟩
  rotate_left
  · exact Ok.ite (fun _ => Ok.ret ⟨_, _, _, _, _, Or.inl ⟨fun w => z w.1, rfl, rfl, rfl, rfl, rfl⟩, rfl, rfl, hr⟩) (fun c => absurd rfl c)
  refine Ok.ite (fun c => absurd c (by decide)) (fun _ => Ok.b1 (s_isFrom y _ _) (fun v2 h2 => ?_))
  rw [show (1800 : Int32).toInt = 1800 from rfl, show (2100 : Int32).toInt = 2100 from rfl] at h2
  refine Ok.ite (fun c => ?_) (fun c => ?_)
  · exact Ok.ret ⟨_, _, _, _, _, Or.inl ⟨fun w => z_if0 h2 c w.2, rfl, rfl, rfl, rfl, rfl⟩, rfl, rfl, hr⟩
  · have hy := z_if1 h2 c
    have z' := z
    obtain ⟨l, k, hl, rfl, rfl, hk⟩ := z'
    obtain ⟨l2, k2, ha, e1, e2⟩ := r_stored g hN hl hk
    obtain ⟨b1, b2⟩ := z_at0_in g.2 hl hk ha
    obtain ⟨j, hj⟩ := z_slot_ex h l2 k2
    rw [e1, q_b1_s, e2, q_b1_s]
    have hbl := hb _ b1
    refine Ok.b5 (r_put h hb hr hN b1 (by omega) hj y) (fun v5 f6 f7 f8 v9 h5 => ?_)
    obtain ⟨r, m2, L2, K2, Y2, a1, a2, a3, a4⟩ := h5
    dsimp only at a2 a3 a4
    rcases a2 with ⟨e, e'⟩ | ⟨e, e'⟩
    · subst e'
      exact Ok.ite (fun _ => Ok.ret ⟨r, m2, L2, K2, Y2, Or.inr ⟨l, k, l2, k2, j, ⟨z, hy⟩, hl, rfl, rfl, hk, ha, hj, a1⟩, e.symm, a3, a4⟩) (fun w => absurd rfl w)
    · subst e'
      exact Ok.ite (fun w => absurd w (by decide)) (fun _ => Ok.ret ⟨r, m2, L2, K2, Y2, Or.inr ⟨l, k, l2, k2, j, ⟨z, hy⟩, hl, rfl, rfl, hk, ha, hj, a1⟩, a3.trans e.symm, a3, a4⟩)
theorem r_slotOf (h : z_pc H V m L K) (hb : ∀ l, l < 5 → 2130 * (H l * V l) + 2 ≤ 20000000) (hr : z_rp m L K Y fl fk fy) (hN : 1000000 ≤ N) {l k p : Nat} (hl : l < 5) (hk : k < 20000000) (hp : z_slot m L K l k p) : Ok (f_M_slotOf N (nI m) fl fk (nI l) (nI k)) (fun x => x = nI p) := by
  have hm := h.1
  have S : ∀ n i, i ≤ p → p - i < n → Ok (f_M_slotOf_L2 fk fl (nI m) (nI l) (nI k) n (nI i)) (fun x => x = nI p) := by
    intro n
    induction n with
    | zero => intro i _ h; omega
    | succ n ih =>
      intro i hi hn
      have hpm := hp.1
      rw [f_M_slotOf_L2]
      refine Ok.ite (fun hc => ?_) (fun hc => ?_)
      all_goals rw [nI_leI (by omega) (by omega)] at hc
      · exact Ok.ret (by rw [show i = p by omega])
      · have him : i < m := by omega
        obtain ⟨e1, e2, -⟩ := hr i him
        obtain ⟨b1, b2⟩ := z_pcK h hb him
        have go : z_less (L i) (K i) l k → Ok (q_nm (nI i + 1) fun v5 => f_M_slotOf_L2 fk fl (nI m) (nI l) (nI k) n v5) (fun x => x = nI p) := by
          intro hz
          have : i < p := by
            rcases Nat.lt_or_ge i p with c | c
            · exact c
            · exact absurd hz (hp.2.2 i c him)
          rw [z_nm, nI_1]
          exact ih (i + 1) (by omega) (by omega)
        have stop : ¬ z_less (L i) (K i) l k → Ok (some (nI i)) (fun x => x = nI p) := by
          intro hz
          refine Ok.ret ?_
          rcases Nat.lt_or_ge i p with c | c
          · exact absurd (hp.2.1 i c) hz
          · rw [show i = p by omega]
        rw [z_ai (by omega) (by omega), e1]
        refine Ok.j0 (Ok.ite (fun c1 => ?_) (fun c1 => ?_))
        all_goals rw [nI_ltI (by omega) (by omega)] at c1
        · exact go (Or.inl c1)
        · rw [z_ai (by omega) (by omega), e1]
          refine Ok.ite (fun c2 => ?_) (fun c2 => ?_)
          all_goals rw [nI_eq (by omega) (by omega)] at c2
          · rw [z_ai (by omega) (by omega), e2]
            refine Ok.ite (fun c3 => ?_) (fun c3 => ?_)
            all_goals rw [nI_leI (by omega) (by omega)] at c3
            · exact stop (by unfold z_less; omega)
            · exact go (by unfold z_less; omega)
          · exact stop (by unfold z_less; omega)
  unfold f_M_slotOf
  exact Ok.nm (Ok.b1 (S N 0 (Nat.zero_le _) (by have := hp.1; omega)) (fun _ h => Ok.ret h))
theorem r_isPiece (h : z_pc H V m L K) (hb : ∀ l, l < 5 → 2130 * (H l * V l) + 2 ≤ 20000000) (hr : z_rp m L K Y fl fk fy) {l k p : Nat} (hl : l < 5) (hk : k < 20000000) (hp : p ≤ m) : Ok (f_M_isPiece (nI m) fl fk (nI p) (nI l) (nI k)) (fun x => (z_is m L K l k p ∧ x = 1) ∨ (¬ z_is m L K l k p ∧ x = 0)) := by
  have hm := h.1
  unfold f_M_isPiece
  refine Ok.ite (fun hc => ?_) (fun hc => ?_)
  all_goals rw [nI_leI (by omega) (by omega)] at hc
  · exact Ok.ret (Or.inr ⟨fun z => by have := z.1; omega, rfl⟩)
  · have him : p < m := by omega
    obtain ⟨e1, e2, -⟩ := hr p him
    obtain ⟨b1, b2⟩ := z_pcK h hb him
    rw [z_ai (by omega) (by omega), e1]
    refine Ok.ite (fun c1 => ?_) (fun c1 => ?_)
    all_goals rw [nI_eq (by omega) (by omega)] at c1
    · rw [z_ai (by omega) (by omega), e2]
      refine Ok.ite (fun c2 => ?_) (fun c2 => ?_)
      all_goals rw [nI_eq (by omega) (by omega)] at c2
      · exact Ok.ret (Or.inl ⟨⟨him, c1, c2⟩, rfl⟩)
      · exact Ok.ret (Or.inr ⟨fun z => c2 z.2.2, rfl⟩)
    · exact Ok.ret (Or.inr ⟨fun z => c1 z.2.1, rfl⟩)
end R3
