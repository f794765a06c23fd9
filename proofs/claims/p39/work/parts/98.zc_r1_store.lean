/-! the store on both sides: pieces in order; where one is or would be -/
def z_less (l k l2 k2 : Nat) : Prop := l < l2 ∨ (l = l2 ∧ k < k2)
theorem z_less_tr {a b c d e f : Nat} (h1 : z_less a b c d) (h2 : z_less c d e f) : z_less a b e f := by
  unfold z_less at *; omega
theorem z_less_ir {a b : Nat} : ¬ z_less a b a b := by unfold z_less; omega
theorem z_less_tri {a b c d : Nat} (h : ¬ z_less a b c d) : (a = c ∧ b = d) ∨ z_less c d a b := by unfold z_less at *; omega
/-- pieces: levels L, keys K, in order -/
def z_pc (H V : Nat → Nat) (m : Nat) (L K : Nat → Nat) : Prop := m ≤ 60 ∧ (∀ i, i < m → L i < 5 ∧ K i < 2130 * (H (L i) * V (L i)) + 2) ∧ (∀ i j, i < j → j < m → z_less (L i) (K i) (L j) (K j))
/-- rows that hold them -/
def z_rp (m : Nat) (L K : Nat → Nat) (Y : Nat → Int32) (fl fk fy : Nat → Int32) : Prop := ∀ i, i < m → fl i = nI (L i) ∧ fk i = nI (K i) ∧ fy i = Y i
def z_slot (m : Nat) (L K : Nat → Nat) (l k p : Nat) : Prop := p ≤ m ∧ (∀ i, i < p → z_less (L i) (K i) l k) ∧ (∀ i, p ≤ i → i < m → ¬ z_less (L i) (K i) l k)
theorem z_slot_ex {H V : Nat → Nat} {m : Nat} {L K : Nat → Nat} (h : z_pc H V m L K) (l k : Nat) : ∃ p, z_slot m L K l k p := by
  have S : ∀ n, n ≤ m → ∃ p, p ≤ n ∧ (∀ i, i < p → z_less (L i) (K i) l k) ∧ (∀ i, p ≤ i → i < n → ¬ z_less (L i) (K i) l k) := by
    intro n
    induction n with
    | zero => intro _; exact ⟨0, Nat.le_refl _, fun i hi => absurd hi (by omega), fun i _ hi => absurd hi (by omega)⟩
    | succ n ih =>
      intro hn
      by_cases hc : z_less (L n) (K n) l k
      · refine ⟨n + 1, Nat.le_refl _, fun i hi => ?_, fun i h1 h2 => absurd h1 (by omega)⟩
        by_cases e : i = n
        · subst e; exact hc
        · exact z_less_tr (h.2.2 i n (by omega) (by omega)) hc
      · obtain ⟨p, h1, h2, h3⟩ := ih (by omega)
        refine ⟨p, by omega, h2, fun i a1 a2 => ?_⟩
        by_cases e : i = n
        · subst e; exact hc
        · exact h3 i a1 (by omega)
  exact S m (Nat.le_refl _)
def z_is (m : Nat) (L K : Nat → Nat) (l k p : Nat) : Prop := p < m ∧ L p = l ∧ K p = k
theorem z_is_one {H V : Nat → Nat} {m : Nat} {L K : Nat → Nat} (h : z_pc H V m L K) {l k p i : Nat} (hp : z_slot m L K l k p) (hi : i < m) (h1 : L i = l) (h2 : K i = k) : i = p := by
  obtain ⟨a1, a2, a3⟩ := hp
  rcases Nat.lt_trichotomy i p with c | c | c
  · exact absurd (a2 i c) (by rw [h1, h2]; exact z_less_ir)
  · exact c
  · have := h.2.2 p i c hi
    rw [h1, h2] at this
    exact absurd this (a3 p (Nat.le_refl _) (by omega))
def a_ins {α : Type} (p : Nat) (x : α) (f : Nat → α) : Nat → α := fun i => if i < p then f i else if i = p then x else f (i - 1)
def a_del {α : Type} (p : Nat) (f : Nat → α) : Nat → α := fun i => if i < p then f i else f (i + 1)
theorem z_pc_ins {H V : Nat → Nat} {m : Nat} {L K : Nat → Nat} (h : z_pc H V m L K) {l k p : Nat} (hp : z_slot m L K l k p) (hn : ¬ z_is m L K l k p) (hm : m < 60) (hl : l < 5) (hk : k < 2130 * (H l * V l) + 2) : z_pc H V (m + 1) (a_ins p l L) (a_ins p k K) := by
  obtain ⟨h1, h2, h3⟩ := h
  obtain ⟨a1, a2, a3⟩ := hp
  have gt : ∀ i, p ≤ i → i < m → z_less l k (L i) (K i) := by
    intro i c1 c2
    rcases z_less_tri (a3 i c1 c2) with ⟨e1, e2⟩ | c
    · exfalso
      apply hn
      have : i = p := z_is_one ⟨h1, h2, h3⟩ ⟨a1, a2, a3⟩ c2 e1 e2
      subst this
      exact ⟨c2, e1, e2⟩
    · exact c
  refine ⟨by omega, fun i hi => ?_, fun i j hij hj => ?_⟩
  · unfold a_ins
    by_cases c1 : i < p
    · rw [if_pos c1, if_pos c1]; exact h2 i (by omega)
    · rw [if_neg c1, if_neg c1]
      by_cases c2 : i = p
      · rw [if_pos c2, if_pos c2]; exact ⟨hl, hk⟩
      · rw [if_neg c2, if_neg c2]; exact h2 (i - 1) (by omega)
  · unfold a_ins
    by_cases c1 : i < p
    · rw [if_pos c1, if_pos c1]
      by_cases c2 : j < p
      · rw [if_pos c2, if_pos c2]; exact h3 i j hij (by omega)
      · rw [if_neg c2, if_neg c2]
        by_cases c3 : j = p
        · rw [if_pos c3, if_pos c3]; exact a2 i c1
        · rw [if_neg c3, if_neg c3]; exact h3 i (j - 1) (by omega) (by omega)
    · rw [if_neg c1, if_neg c1, if_neg (show ¬ j < p by omega), if_neg (show ¬ j < p by omega)]
      by_cases c2 : i = p
      · rw [if_pos c2, if_pos c2, if_neg (show ¬ j = p by omega), if_neg (show ¬ j = p by omega)]; exact gt (j - 1) (by omega) (by omega)
      · rw [if_neg c2, if_neg c2, if_neg (show ¬ j = p by omega), if_neg (show ¬ j = p by omega)]; exact h3 (i - 1) (j - 1) (by omega) (by omega)
theorem z_pc_del {H V : Nat → Nat} {m : Nat} {L K : Nat → Nat} (h : z_pc H V m L K) {p : Nat} (hp : p < m) : z_pc H V (m - 1) (a_del p L) (a_del p K) := by
  obtain ⟨h1, h2, h3⟩ := h
  refine ⟨by omega, fun i hi => ?_, fun i j hij hj => ?_⟩
  · unfold a_del
    by_cases c1 : i < p
    · rw [if_pos c1, if_pos c1]; exact h2 i (by omega)
    · rw [if_neg c1, if_neg c1]; exact h2 (i + 1) (by omega)
  · unfold a_del
    by_cases c1 : i < p
    · rw [if_pos c1, if_pos c1]
      by_cases c2 : j < p
      · rw [if_pos c2, if_pos c2]; exact h3 i j hij (by omega)
      · rw [if_neg c2, if_neg c2]; exact h3 i (j + 1) (by omega) (by omega)
    · rw [if_neg c1, if_neg c1, if_neg (show ¬ j < p by omega), if_neg (show ¬ j < p by omega)]; exact h3 (i + 1) (j + 1) (by omega) (by omega)
section R1
variable {H V : Nat → Nat} {m N : Nat} {L K : Nat → Nat} {Y : Nat → Int32} {fl fk fy : Nat → Int32}
theorem z_pcK (h : z_pc H V m L K) (hb : ∀ l, l < 5 → 2130 * (H l * V l) + 2 ≤ 20000000) {i : Nat} (hi : i < m) : L i < 5 ∧ K i < 20000000 := by
  obtain ⟨a, b⟩ := h.2.1 i hi
  have := hb _ a
  exact ⟨a, by omega⟩
theorem r_find (h : z_pc H V m L K) (hb : ∀ l, l < 5 → 2130 * (H l * V l) + 2 ≤ 20000000) (hr : z_rp m L K Y fl fk fy) (hN : 1000000 ≤ N) {l k p : Nat} (hl : l < 5) (hk : k < 20000000) (hp : z_slot m L K l k p) : Ok (f_Store_find N fl fk (nI m) (nI l) (nI k)) (fun x => (z_is m L K l k p ∧ x = nI p) ∨ (¬ z_is m L K l k p ∧ x = -1)) := by
  have hm := h.1
  have S : ∀ n i, i ≤ m → m - i < n → (∀ j, j < i → ¬ (L j = l ∧ K j = k)) → Ok (f_Store_find_L2 (nI l) (nI k) fk fl (nI m) n (nI i)) (fun x => (z_is m L K l k p ∧ x = .inr (nI p)) ∨ (¬ z_is m L K l k p ∧ x = .inl ())) := by
    intro n
    induction n with
    | zero => intro i _ h; omega
    | succ n ih =>
      intro i hi hn hj
      rw [f_Store_find_L2]
      refine Ok.ite (fun hc => ?_) (fun hc => ?_)
      all_goals rw [nI_leI (by omega) (by omega)] at hc
      · exact Ok.ret (Or.inr ⟨fun z => hj p (by have := z.1; omega) ⟨z.2.1, z.2.2⟩, rfl⟩)
      · have him : i < m := by omega
        obtain ⟨e1, e2, -⟩ := hr i him
        obtain ⟨b1, b2⟩ := z_pcK h hb him
        rw [z_ai (by omega) (by omega), e1]
        have go : ¬ (L i = l ∧ K i = k) → Ok (q_nm (nI i + 1) fun v4 => f_Store_find_L2 (nI l) (nI k) fk fl (nI m) n v4) (fun x => (z_is m L K l k p ∧ x = .inr (nI p)) ∨ (¬ z_is m L K l k p ∧ x = .inl ())) := by
          intro hne
          rw [z_nm, nI_1]
          refine ih (i + 1) (by omega) (by omega) (fun j hj2 => ?_)
          by_cases e : j = i
          · subst e; exact hne
          · exact hj j (by omega)
        refine Ok.j0 (Ok.ite (fun c1 => ?_) (fun c1 => ?_))
        · rw [nI_eq (by omega) (by omega)] at c1
          rw [z_ai (by omega) (by omega), e2]
          refine Ok.ite (fun c2 => ?_) (fun c2 => ?_)
          · rw [nI_eq (by omega) (by omega)] at c2
            have hip := z_is_one h hp him c1 c2
            subst hip
            exact Ok.ret (Or.inl ⟨⟨him, c1, c2⟩, rfl⟩)
          · rw [nI_eq (by omega) (by omega)] at c2
            exact go (fun z => c2 z.2)
        · rw [nI_eq (by omega) (by omega)] at c1
          exact go (fun z => c1 z.1)
  unfold f_Store_find
  refine Ok.nm ?_
  obtain ⟨o, e, ho⟩ := S N 0 (by omega) (by omega) (fun j hj => absurd hj (by omega))
  rw [show (0 : Int32) = nI 0 from rfl, e]
  rcases ho with ⟨z, rfl⟩ | ⟨z, rfl⟩
  · exact ⟨nI p, rfl, Or.inl ⟨z, rfl⟩⟩
  · exact ⟨-1, rfl, Or.inr ⟨z, rfl⟩⟩
theorem r_behind {i a b l k : Nat} (hi : i < 60) (e1 : fl i = nI a) (e2 : fk i = nI b) (ha : a < 2 ^ 31) (hb : b < 2 ^ 31) (hl : l < 2 ^ 31) (hk : k < 2 ^ 31) : Ok (f_Store_isBehind fl fk (nI i) (nI l) (nI k)) (fun x => (z_less l k a b ∧ x = 1) ∨ (¬ z_less l k a b ∧ x = 0)) := by
  unfold f_Store_isBehind
  rw [z_ai hi (by omega), e1]
  refine Ok.j0 (Ok.ite (fun c => ?_) (fun c => ?_))
  all_goals rw [nI_ltI hl ha] at c
  · exact Ok.ret (Or.inl ⟨Or.inl c, rfl⟩)
  · rw [z_ai hi (by omega), e1]
    refine Ok.ite (fun c2 => ?_) (fun c2 => ?_)
    all_goals rw [nI_eq ha hl] at c2
    · rw [z_ai hi (by omega), e2]
      refine Ok.ite (fun c3 => ?_) (fun c3 => ?_)
      all_goals rw [nI_leI hb hk] at c3
      · exact Ok.ret (Or.inr ⟨by unfold z_less; omega, rfl⟩)
      · exact Ok.ret (Or.inl ⟨by unfold z_less; omega, rfl⟩)
    · exact Ok.ret (Or.inr ⟨by unfold z_less; omega, rfl⟩)
theorem m_move {i j : Nat} (hi : i < 60) (hj : j < 60) (hij : i ≠ j) : f_Store_move fl fk fy (nI i) (nI j) = some (upd fl j (fl i), upd fk j (fk i), upd fy j (fy i)) := by
  unfold f_Store_move
  rw [z_ai hi (by omega), z_as hj (by omega), z_ai hi (by omega), z_as hj (by omega), z_ai hi (by omega), z_as hj (by omega)]
/-- rows with a hole at i: ahead of it as they were, behind it moved by one -/
def z_hole (m i : Nat) (f g : Nat → Int32) : Prop := (∀ j, j < i → g j = f j) ∧ (∀ j, i < j → j ≤ m → g j = f (j - 1))
theorem z_hole_mv {i : Nat} {f g : Nat → Int32} (hi : i + 1 ≤ m) (h : z_hole m (i + 1) f g) : z_hole m i f (upd g (i + 1) (g i)) := by
  refine ⟨fun j hj => by rw [z_updN (by omega)]; exact h.1 j (by omega), fun j h1 h2 => ?_⟩
  by_cases e : j = i + 1
  · subst e; rw [z_updS, Nat.add_sub_cancel]; exact h.1 i (by omega)
  · rw [z_updN e]; exact h.2 j (by omega) h2
theorem z_hole_ins {i : Nat} {f g : Nat → Int32} (hi : i ≤ m) (h : z_hole m i f g) {x : Int32} : ∀ j, j < m + 1 → upd g i x j = a_ins i x f j := by
  intro j hj
  unfold a_ins
  by_cases c1 : j < i
  · rw [z_updN (by omega), if_pos c1]; exact h.1 j c1
  · rw [if_neg c1]
    by_cases c2 : j = i
    · subst c2; rw [z_updS, if_pos rfl]
    · rw [z_updN c2, if_neg c2]; exact h.2 j (by omega) (by omega)
theorem r_put_L (h : z_pc H V m L K) (hb : ∀ l, l < 5 → 2130 * (H l * V l) + 2 ≤ 20000000) (hr : z_rp m L K Y fl fk fy) (hm : m < 60) {l k p : Nat} (hl : l < 5) (hk : k < 20000000) (hp : z_slot m L K l k p) (hni : ¬ z_is m L K l k p) : ∀ n i (a b c : Nat → Int32), p ≤ i → i ≤ m → i < n → z_hole m i fl a → z_hole m i fk b → z_hole m i fy c → Ok (f_Store_put_L41 (nI l) (nI k) n (nI i) a b c) (fun x => x.1 = nI p ∧ z_hole m p fl x.2.1 ∧ z_hole m p fk x.2.2.1 ∧ z_hole m p fy x.2.2.2) := by
  intro n
  induction n with
  | zero => intro i a b c _ _ h; omega
  | succ n ih =>
    intro i a b c hpi him hn ha hb2 hc
    rw [f_Store_put_L41]
    refine Ok.ite (fun h0 => ?_) (fun h0 => ?_)
    all_goals rw [z_le0 (by omega)] at h0
    · have : i = p := by omega
      subst this
      exact Ok.ret ⟨rfl, ha, hb2, hc⟩
    · have hi1 : i - 1 < m := by omega
      obtain ⟨e1, e2, -⟩ := hr (i - 1) hi1
      obtain ⟨q1, q2⟩ := z_pcK h hb hi1
      rw [z_sub1 (by omega)]
      refine Ok.b1 (r_behind (fl := a) (fk := b) (i := i - 1) (a := L (i - 1)) (b := K (i - 1)) (by omega) (by rw [ha.1 _ (by omega)]; exact e1) (by rw [hb2.1 _ (by omega)]; exact e2) (by omega) (by omega) (by omega) (by omega)) (fun v14 h14 => Ok.ite (fun c0 => ?_) (fun c0 => ?_))
      · have hnl : ¬ z_less l k (L (i - 1)) (K (i - 1)) := by
          rcases h14 with ⟨-, z⟩ | ⟨z, -⟩
          · rw [z] at c0; exact absurd c0 (by decide)
          · exact z
        have hip : i = p := by
          rcases Nat.lt_or_ge p i with c1 | c1
          · exfalso
            rcases z_less_tri (hp.2.2 (i - 1) (by omega) hi1) with ⟨z1, z2⟩ | z
            · have := z_is_one h hp hi1 z1 z2
              apply hni
              rw [← this]
              exact ⟨hi1, z1, z2⟩
            · exact hnl z
          · omega
        subst hip
        exact Ok.ret ⟨rfl, ha, hb2, hc⟩
      · have hlt : z_less l k (L (i - 1)) (K (i - 1)) := by
          rcases h14 with ⟨z, -⟩ | ⟨-, z⟩
          · exact z
          · exact absurd z c0
        have hpi2 : p ≤ i - 1 := by
          rcases Nat.lt_or_ge (i - 1) p with c1 | c1
          · exact absurd (z_less_tr hlt (hp.2.1 (i - 1) c1)) z_less_ir
          · exact c1
        rw [m_move (by omega) (by omega) (by omega), q_b3_s, z_nm, z_m1, z_sub1 (by omega)]
        obtain ⟨u, rfl⟩ : ∃ u, i = u + 1 := ⟨i - 1, by omega⟩
        rw [Nat.add_sub_cancel] at *
        exact ih u _ _ _ hpi2 (by omega) (by omega) (z_hole_mv him ha) (z_hole_mv him hb2) (z_hole_mv him hc)
end R1
