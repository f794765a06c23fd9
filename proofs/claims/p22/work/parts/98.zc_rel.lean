section
/-! the store on both sides: pieces in order; where one is or would be -/
def z_less (l k l2 k2 : Nat) : Prop := l < l2 ∨ (l = l2 ∧ k < k2)
theorem z_less_tr {a b c d e f : Nat} (h1 : z_less a b c d) (h2 : z_less c d e f) : z_less a b e f := by
  unfold z_less at *; omega
theorem z_less_ir {a b : Nat} : ¬ z_less a b a b := by unfold z_less; omega
theorem z_less_tri {a b c d : Nat} (h : ¬ z_less a b c d) : (a = c ∧ b = d) ∨ z_less c d a b := by unfold z_less at *; omega
/-- pieces: levels L, keys K, in order -/
def z_pc (H V : Nat → Nat) (m : Nat) (L K : Nat → Nat) : Prop := m ≤ 60 ∧ (∀ i, i < m → L i < 5 ∧ K i < 2130 * (H (L i) * V (L i)) + 2) ∧ (∀ i j, i < j → j < m → z_less (L i) (K i) (L j) (K j))
/-- rows that hold them -/
def z_rp (m : Nat) (L K : Nat → Nat) (Y : Nat → Int32) (fl fk fy : Nat → Int32) : Prop := ∀ i, i < m → fl i = nI (L i) ∧ fk i = nI (K i) ∧ fy i = Y i
def z_slot (m : Nat) (L K : Nat → Nat) (l k p : Nat) : Prop := p ≤ m ∧ (∀ i, i < p → z_less (L i) (K i) l k) ∧ (∀ i, p ≤ i → i < m → ¬ z_less (L i) (K i) l k)
theorem z_slot_ex {H V : Nat → Nat} {m : Nat} {L K : Nat → Nat} (h : z_pc H V m L K) (l k : Nat) : ∃ p, z_slot m L K l k p := by
  have S : ∀ n, n ≤ m → ∃ p, p ≤ n ∧ (∀ i, i < p → z_less (L i) (K i) l k) ∧ (∀ i, p ≤ i → i < n → ¬ z_less (L i) (K i) l k) := by
    intro n
    induction n with
    | zero => intro _; exact ⟨0, Nat.le_refl _, fun i hi => absurd hi (by omega), fun i _ hi => absurd hi (by omega)⟩
    | succ n ih =>
      intro hn
      by_cases hc : z_less (L n) (K n) l k
      · refine ⟨n + 1, Nat.le_refl _, fun i hi => ?_, fun i h1 h2 => absurd h1 (by omega)⟩
        by_cases e : i = n
        · subst e; exact hc
        · exact z_less_tr (h.2.2 i n (by omega) (by omega)) hc
      · obtain ⟨p, h1, h2, h3⟩ := ih (by omega)
        refine ⟨p, by omega, h2, fun i a1 a2 => ?_⟩
        by_cases e : i = n
        · subst e; exact hc
        · exact h3 i a1 (by omega)
  exact S m (Nat.le_refl _)
def z_is (m : Nat) (L K : Nat → Nat) (l k p : Nat) : Prop := p < m ∧ L p = l ∧ K p = k
theorem z_is_one {H V : Nat → Nat} {m : Nat} {L K : Nat → Nat} (h : z_pc H V m L K) {l k p i : Nat} (hp : z_slot m L K l k p) (hi : i < m) (h1 : L i = l) (h2 : K i = k) : i = p := by
  obtain ⟨a1, a2, a3⟩ := hp
  rcases Nat.lt_trichotomy i p with c | c | c
  · exact absurd (a2 i c) (by rw [h1, h2]; exact z_less_ir)
  · exact c
  · have := h.2.2 p i c hi
    rw [h1, h2] at this
    exact absurd this (a3 p (Nat.le_refl _) (by omega))
def a_ins {α : Type} (p : Nat) (x : α) (f : Nat → α) : Nat → α := fun i => if i < p then f i else if i = p then x else f (i - 1)
def a_del {α : Type} (p : Nat) (f : Nat → α) : Nat → α := fun i => if i < p then f i else f (i + 1)
theorem z_pc_ins {H V : Nat → Nat} {m : Nat} {L K : Nat → Nat} (h : z_pc H V m L K) {l k p : Nat} (hp : z_slot m L K l k p) (hn : ¬ z_is m L K l k p) (hm : m < 60) (hl : l < 5) (hk : k < 2130 * (H l * V l) + 2) : z_pc H V (m + 1) (a_ins p l L) (a_ins p k K) := by
  obtain ⟨h1, h2, h3⟩ := h
  obtain ⟨a1, a2, a3⟩ := hp
  have gt : ∀ i, p ≤ i → i < m → z_less l k (L i) (K i) := by
    intro i c1 c2
    rcases z_less_tri (a3 i c1 c2) with ⟨e1, e2⟩ | c
    · exfalso
      apply hn
      have : i = p := z_is_one ⟨h1, h2, h3⟩ ⟨a1, a2, a3⟩ c2 e1 e2
      subst this
      exact ⟨c2, e1, e2⟩
    · exact c
  refine ⟨by omega, fun i hi => ?_, fun i j hij hj => ?_⟩
  · unfold a_ins
    by_cases c1 : i < p
    · rw [if_pos c1, if_pos c1]; exact h2 i (by omega)
    · rw [if_neg c1, if_neg c1]
      by_cases c2 : i = p
      · rw [if_pos c2, if_pos c2]; exact ⟨hl, hk⟩
      · rw [if_neg c2, if_neg c2]; exact h2 (i - 1) (by omega)
  · unfold a_ins
    by_cases c1 : i < p
    · rw [if_pos c1, if_pos c1]
      by_cases c2 : j < p
      · rw [if_pos c2, if_pos c2]; exact h3 i j hij (by omega)
      · rw [if_neg c2, if_neg c2]
        by_cases c3 : j = p
        · rw [if_pos c3, if_pos c3]; exact a2 i c1
        · rw [if_neg c3, if_neg c3]; exact h3 i (j - 1) (by omega) (by omega)
    · rw [if_neg c1, if_neg c1, if_neg (show ¬ j < p by omega), if_neg (show ¬ j < p by omega)]
      by_cases c2 : i = p
      · rw [if_pos c2, if_pos c2, if_neg (show ¬ j = p by omega), if_neg (show ¬ j = p by omega)]; exact gt (j - 1) (by omega) (by omega)
      · rw [if_neg c2, if_neg c2, if_neg (show ¬ j = p by omega), if_neg (show ¬ j = p by omega)]; exact h3 (i - 1) (j - 1) (by omega) (by omega)
theorem z_pc_del {H V : Nat → Nat} {m : Nat} {L K : Nat → Nat} (h : z_pc H V m L K) {p : Nat} (hp : p < m) : z_pc H V (m - 1) (a_del p L) (a_del p K) := by
  obtain ⟨h1, h2, h3⟩ := h
  refine ⟨by omega, fun i hi => ?_, fun i j hij hj => ?_⟩
  · unfold a_del
    by_cases c1 : i < p
    · rw [if_pos c1, if_pos c1]; exact h2 i (by omega)
    · rw [if_neg c1, if_neg c1]; exact h2 (i + 1) (by omega)
  · unfold a_del
    by_cases c1 : i < p
    · rw [if_pos c1, if_pos c1]
      by_cases c2 : j < p
      · rw [if_pos c2, if_pos c2]; exact h3 i j hij (by omega)
      · rw [if_neg c2, if_neg c2]; exact h3 i (j + 1) (by omega) (by omega)
    · rw [if_neg c1, if_neg c1, if_neg (show ¬ j < p by omega), if_neg (show ¬ j < p by omega)]; exact h3 (i + 1) (j + 1) (by omega) (by omega)
section R1
variable {H V : Nat → Nat} {m N : Nat} {L K : Nat → Nat} {Y : Nat → Int32} {fl fk fy : Nat → Int32}
theorem z_pcK (h : z_pc H V m L K) (hb : ∀ l, l < 5 → 2130 * (H l * V l) + 2 ≤ 20000000) {i : Nat} (hi : i < m) : L i < 5 ∧ K i < 20000000 := by
  obtain ⟨a, b⟩ := h.2.1 i hi
  have := hb _ a
  exact ⟨a, by omega⟩
theorem r_find (h : z_pc H V m L K) (hb : ∀ l, l < 5 → 2130 * (H l * V l) + 2 ≤ 20000000) (hr : z_rp m L K Y fl fk fy) (hN : 1000000 ≤ N) {l k p : Nat} (hl : l < 5) (hk : k < 20000000) (hp : z_slot m L K l k p) : Ok (f_Store_find N fl fk (nI m) (nI l) (nI k)) (fun x => (z_is m L K l k p ∧ x = nI p) ∨ (¬ z_is m L K l k p ∧ x = -1)) := by
  have hm := h.1
  have S : ∀ n i, i ≤ m → m - i < n → (∀ j, j < i → ¬ (L j = l ∧ K j = k)) → Ok (f_Store_find_L2 (nI l) (nI k) fk fl (nI m) n (nI i)) (fun x => (z_is m L K l k p ∧ x = .inr (nI p)) ∨ (¬ z_is m L K l k p ∧ x = .inl ())) := by
    intro n
    induction n with
    | zero => intro i _ h; omega
    | succ n ih =>
      intro i hi hn hj
      rw [f_Store_find_L2]
      refine Ok.ite (fun hc => ?_) (fun hc => ?_)
      all_goals rw [nI_leI (by omega) (by omega)] at hc
      · exact Ok.ret (Or.inr ⟨fun z => hj p (by have := z.1; omega) ⟨z.2.1, z.2.2⟩, rfl⟩)
      · have him : i < m := by omega
        obtain ⟨e1, e2, -⟩ := hr i him
        obtain ⟨b1, b2⟩ := z_pcK h hb him
        rw [z_ai (by omega) (by omega), e1]
        have go : ¬ (L i = l ∧ K i = k) → Ok (q_nm (nI i + 1) fun v4 => f_Store_find_L2 (nI l) (nI k) fk fl (nI m) n v4) (fun x => (z_is m L K l k p ∧ x = .inr (nI p)) ∨ (¬ z_is m L K l k p ∧ x = .inl ())) := by
          intro hne
          rw [z_nm, nI_1]
          refine ih (i + 1) (by omega) (by omega) (fun j hj2 => ?_)
          by_cases e : j = i
          · subst e; exact hne
          · exact hj j (by omega)
        refine Ok.j0 (Ok.ite (fun c1 => ?_) (fun c1 => ?_))
        · rw [nI_eq (by omega) (by omega)] at c1
          rw [z_ai (by omega) (by omega), e2]
          refine Ok.ite (fun c2 => ?_) (fun c2 => ?_)
          · rw [nI_eq (by omega) (by omega)] at c2
            have hip := z_is_one h hp him c1 c2
            subst hip
            exact Ok.ret (Or.inl ⟨⟨him, c1, c2⟩, rfl⟩)
          · rw [nI_eq (by omega) (by omega)] at c2
            exact go (fun z => c2 z.2)
        · rw [nI_eq (by omega) (by omega)] at c1
          exact go (fun z => c1 z.1)
  unfold f_Store_find
  refine Ok.nm ?_
  obtain ⟨o, e, ho⟩ := S N 0 (by omega) (by omega) (fun j hj => absurd hj (by omega))
  rw [show (0 : Int32) = nI 0 from rfl, e]
  rcases ho with ⟨z, rfl⟩ | ⟨z, rfl⟩
  · exact ⟨nI p, rfl, Or.inl ⟨z, rfl⟩⟩
  · exact ⟨-1, rfl, Or.inr ⟨z, rfl⟩⟩
theorem r_behind {i a b l k : Nat} (hi : i < 60) (e1 : fl i = nI a) (e2 : fk i = nI b) (ha : a < 2 ^ 31) (hb : b < 2 ^ 31) (hl : l < 2 ^ 31) (hk : k < 2 ^ 31) : Ok (f_Store_isBehind fl fk (nI i) (nI l) (nI k)) (fun x => (z_less l k a b ∧ x = 1) ∨ (¬ z_less l k a b ∧ x = 0)) := by
  unfold f_Store_isBehind
  rw [z_ai hi (by omega), e1]
  refine Ok.j0 (Ok.ite (fun c => ?_) (fun c => ?_))
  all_goals rw [nI_ltI hl ha] at c
  · exact Ok.ret (Or.inl ⟨Or.inl c, rfl⟩)
  · rw [z_ai hi (by omega), e1]
    refine Ok.ite (fun c2 => ?_) (fun c2 => ?_)
    all_goals rw [nI_eq ha hl] at c2
    · rw [z_ai hi (by omega), e2]
      refine Ok.ite (fun c3 => ?_) (fun c3 => ?_)
      all_goals rw [nI_leI hb hk] at c3
      · exact Ok.ret (Or.inr ⟨by unfold z_less; omega, rfl⟩)
      · exact Ok.ret (Or.inl ⟨by unfold z_less; omega, rfl⟩)
    · exact Ok.ret (Or.inr ⟨by unfold z_less; omega, rfl⟩)
theorem m_move {i j : Nat} (hi : i < 60) (hj : j < 60) (hij : i ≠ j) : f_Store_move fl fk fy (nI i) (nI j) = some (upd fl j (fl i), upd fk j (fk i), upd fy j (fy i)) := by
  unfold f_Store_move
  rw [z_ai hi (by omega), z_as hj (by omega), z_ai hi (by omega), z_as hj (by omega), z_ai hi (by omega), z_as hj (by omega)]
/-- rows with a hole at i: ahead of it as they were, behind it moved by one -/
def z_hole (m i : Nat) (f g : Nat → Int32) : Prop := (∀ j, j < i → g j = f j) ∧ (∀ j, i < j → j ≤ m → g j = f (j - 1))
theorem z_hole_mv {i : Nat} {f g : Nat → Int32} (hi : i + 1 ≤ m) (h : z_hole m (i + 1) f g) : z_hole m i f (upd g (i + 1) (g i)) := by
  refine ⟨fun j hj => by rw [z_updN (by omega)]; exact h.1 j (by omega), fun j h1 h2 => ?_⟩
  by_cases e : j = i + 1
  · subst e; rw [z_updS, Nat.add_sub_cancel]; exact h.1 i (by omega)
  · rw [z_updN e]; exact h.2 j (by omega) h2
theorem z_hole_ins {i : Nat} {f g : Nat → Int32} (hi : i ≤ m) (h : z_hole m i f g) {x : Int32} : ∀ j, j < m + 1 → upd g i x j = a_ins i x f j := by
  intro j hj
  unfold a_ins
  by_cases c1 : j < i
  · rw [z_updN (by omega), if_pos c1]; exact h.1 j c1
  · rw [if_neg c1]
    by_cases c2 : j = i
    · subst c2; rw [z_updS, if_pos rfl]
    · rw [z_updN c2, if_neg c2]; exact h.2 j (by omega) (by omega)
theorem r_put_L (h : z_pc H V m L K) (hb : ∀ l, l < 5 → 2130 * (H l * V l) + 2 ≤ 20000000) (hr : z_rp m L K Y fl fk fy) (hm : m < 60) {l k p : Nat} (hl : l < 5) (hk : k < 20000000) (hp : z_slot m L K l k p) (hni : ¬ z_is m L K l k p) : ∀ n i (a b c : Nat → Int32), p ≤ i → i ≤ m → i < n → z_hole m i fl a → z_hole m i fk b → z_hole m i fy c → Ok (f_Store_put_L41 (nI l) (nI k) n (nI i) a b c) (fun x => x.1 = nI p ∧ z_hole m p fl x.2.1 ∧ z_hole m p fk x.2.2.1 ∧ z_hole m p fy x.2.2.2) := by
  intro n
  induction n with
  | zero => intro i a b c _ _ h; omega
  | succ n ih =>
    intro i a b c hpi him hn ha hb2 hc
    rw [f_Store_put_L41]
    refine Ok.ite (fun h0 => ?_) (fun h0 => ?_)
    all_goals rw [z_le0 (by omega)] at h0
    · have : i = p := by omega
      subst this
      exact Ok.ret ⟨rfl, ha, hb2, hc⟩
    · have hi1 : i - 1 < m := by omega
      obtain ⟨e1, e2, -⟩ := hr (i - 1) hi1
      obtain ⟨q1, q2⟩ := z_pcK h hb hi1
      rw [z_sub1 (by omega)]
      refine Ok.b1 (r_behind (fl := a) (fk := b) (i := i - 1) (a := L (i - 1)) (b := K (i - 1)) (by omega) (by rw [ha.1 _ (by omega)]; exact e1) (by rw [hb2.1 _ (by omega)]; exact e2) (by omega) (by omega) (by omega) (by omega)) (fun v14 h14 => Ok.ite (fun c0 => ?_) (fun c0 => ?_))
      · have hnl : ¬ z_less l k (L (i - 1)) (K (i - 1)) := by
          rcases h14 with ⟨-, z⟩ | ⟨z, -⟩
          · rw [z] at c0; exact absurd c0 (by decide)
          · exact z
        have hip : i = p := by
          rcases Nat.lt_or_ge p i with c1 | c1
          · exfalso
            rcases z_less_tri (hp.2.2 (i - 1) (by omega) hi1) with ⟨z1, z2⟩ | z
            · have := z_is_one h hp hi1 z1 z2
              apply hni
              rw [← this]
              exact ⟨hi1, z1, z2⟩
            · exact hnl z
          · omega
        subst hip
        exact Ok.ret ⟨rfl, ha, hb2, hc⟩
      · have hlt : z_less l k (L (i - 1)) (K (i - 1)) := by
          rcases h14 with ⟨z, -⟩ | ⟨-, z⟩
          · exact z
          · exact absurd z c0
        have hpi2 : p ≤ i - 1 := by
          rcases Nat.lt_or_ge (i - 1) p with c1 | c1
          · exact absurd (z_less_tr hlt (hp.2.1 (i - 1) c1)) z_less_ir
          · exact c1
        rw [m_move (by omega) (by omega) (by omega), q_b3_s, z_nm, z_m1, z_sub1 (by omega)]
        obtain ⟨u, rfl⟩ : ∃ u, i = u + 1 := ⟨i - 1, by omega⟩
        rw [Nat.add_sub_cancel] at *
        exact ih u _ _ _ hpi2 (by omega) (by omega) (z_hole_mv him ha) (z_hole_mv him hb2) (z_hole_mv him hc)
end R1
end
section
/-! both sides: what is a sheet; the sheet above; where a sheet is stored -/
theorem z_mid {H0 x : Nat} (h : x < 44 * H0) : ¬ (1 + x = 0 ∨ 1 + x = 44 * H0 + 1) := by omega
section R2
variable {R C H V : Nat → Nat} {rc cc br zc rw sh cr cq dp wd za : Nat → Int32} {N l : Nat}
def z_upr (H V : Nat → Nat) (l t k k2 : Nat) : Prop := ∃ r p, r ≤ 44 * H l + 1 ∧ p < z_rl (H l) (V l) r ∧ k = z_rs (H l) (V l) r + p ∧ k2 = (if r = 0 then 0 else if r = 44 * H l + 1 then 2130 * (H t * V t) + 1 else z_rs (H t) (V t) (1 + (r - 1) / (H l / H t)) + p / (V l / V t))
theorem z_upr_one {t k k2 k3 : Nat} (hH : 1 ≤ H l) (h1 : z_upr H V l t k k2) (h2 : z_upr H V l t k k3) : k2 = k3 := by
  obtain ⟨r, p, a1, a2, a3, a4⟩ := h1
  obtain ⟨r', p', b1, b2, b3, b4⟩ := h2
  have e : r = r' := z_row_one (V := V l) hH a1 b1 (k := k) (by omega) (by omega) (by omega) (by omega)
  subst e
  have : p = p' := by omega
  subst this
  rw [a4, b4]
theorem z_upr_lt (g : CUT R C H V) (hl : l < 5) {t : Nat} (ht : t ≤ l) {k k2 : Nat} (h : z_upr H V l t k k2) : k2 < 2130 * (H t * V t) + 2 := by
  have ht5 : t < 5 := by omega
  have hp := g.pos l hl
  have hpt := g.pos t ht5
  have hd := g.dvd l hl t ht
  have q1 := z_quot hd.1 hpt.1 hp.1
  have q2 := z_quot hd.2 hpt.2 hp.2
  obtain ⟨r, p, a1, a2, a3, a4⟩ := h
  rw [a4]
  by_cases c0 : r = 0
  · rw [if_pos c0]; omega
  · rw [if_neg c0]
    by_cases c1 : r = 44 * H l + 1
    · rw [if_pos c1]; omega
    · rw [if_neg c1]
      have hrow : (r - 1) / (H l / H t) < 44 * H t := by
        apply Nat.div_lt_of_lt_mul
        have : H l / H t * (44 * H t) = 44 * H l := by
          rw [Nat.mul_left_comm, Nat.mul_comm (H l / H t), q1.2.2]
        omega
      have hband : (1 + (r - 1) / (H l / H t) - 1) / H t = (r - 1) / H l := by
        rw [Nat.add_sub_cancel_left, Nat.div_div_eq_div_mul, Nat.mul_comm (H l / H t), q1.2.2]
      have hlen : z_rl (H t) (V t) (1 + (r - 1) / (H l / H t)) = z_bz ((r - 1) / H l) * V t := by
        unfold z_rl
        rw [if_neg (z_mid hrow), hband]
      have hlen2 : z_rl (H l) (V l) r = z_bz ((r - 1) / H l) * V l := by
        unfold z_rl
        rw [if_neg (by omega)]
      have hpl : p / (V l / V t) < z_bz ((r - 1) / H l) * V t := by
        apply Nat.div_lt_of_lt_mul
        rw [hlen2] at a2
        have : V l / V t * (z_bz ((r - 1) / H l) * V t) = z_bz ((r - 1) / H l) * V l := by
          rw [Nat.mul_left_comm, Nat.mul_comm (V l / V t), q2.2.2]
        omega
      have hend := z_rs_end (V := V t) (r := 1 + (r - 1) / (H l / H t)) hpt.1 (by omega)
      rw [hlen] at hend
      omega
theorem r_hasSheet (g : GOK R C H V rc cc br zc rw sh) (p q : Int32) : Ok (f_Grid_hasSheet sh p q) (fun x => (z_hs H V p q ∧ x = 1) ∨ (¬ z_hs H V p q ∧ x = 0)) := by
  by_cases h : z_hs H V p q
  · have h' := h
    obtain ⟨l, k, hl, rfl, rfl, hk⟩ := h'
    have hs := g.2.sh hl
    unfold f_Grid_hasSheet
    rw [k_isLevel, nI_toInt (by omega), q_b1_s, if_neg (by rw [if_pos (by omega)]; decide), if_neg (z_lt0 (by omega)), z_ai hl (by omega), (g.at hl).2.2.2.2.2, if_neg (by rw [nI_leI (by omega) (by omega)]; omega)]
    exact Ok.ret (Or.inl ⟨h, rfl⟩)
  · exact Ok.weak (s_hasSheet g p q) (fun x hx => Or.inr ⟨h, Decidable.byContradiction (fun z => h (hx z))⟩)
theorem r_isKey (g : MOK R C H V cr cq dp wd za) (p q : Int32) : Ok (f_M_isKey dp wd za p q) (fun x => (z_hs H V p q ∧ x = 1) ∨ (¬ z_hs H V p q ∧ x = 0)) := by
  by_cases h : z_hs H V p q
  · have h' := h
    obtain ⟨l, k, hl, rfl, rfl, hk⟩ := h'
    have hs := g.2.2.sh hl
    unfold f_M_isKey
    refine Ok.b1 (t_isLevel _) (fun v1 h1 => Ok.ite (fun z => ?_) (fun _ => ?_))
    · rw [nI_toInt (by omega), if_pos (by omega)] at h1
      rw [h1] at z; exact absurd z (by decide)
    · rw [m_sheets g hl, q_b1_s, m_in, q_b1_s, z_toL, z_sub1 (by omega), z_toL, nI_toInt (by omega), nI_toInt (by omega), show (0 : Int64).toInt = 0 from rfl, if_pos (show 0 ≤ (k : Int) ∧ (k : Int) ≤ ((2130 * (H l * V l) + 2 - 1 : Nat) : Int) by omega)]
      exact Ok.ite (fun z => absurd z (by decide)) (fun _ => Ok.ret (Or.inl ⟨h, rfl⟩))
  · exact Ok.weak (t_isKey g p q) (fun x hx => Or.inr ⟨h, Decidable.byContradiction (fun z => h (hx z))⟩)
theorem r_above (g : GOK R C H V rc cc br zc rw sh) (hN : 1000000 ≤ N) (hl : l < 5) {t : Nat} (ht : t ≤ l) {k : Nat} (hk : k < 2130 * (H l * V l) + 2) : Ok (f_Grid_keyAbove N br zc rw sh (nI l) (nI k) (nI t)) (fun x => ∃ k2, z_upr H V l t k k2 ∧ x = nI k2) := by
  have ht5 : t < 5 := by omega
  have hv := g.2.hv hl
  have hvt := g.2.hv ht5
  have hp := g.2.pos l hl
  have hpt := g.2.pos t ht5
  have hd := g.2.dvd l hl t ht
  have q1 := z_quot hd.1 hpt.1 hp.1
  have q2 := z_quot hd.2 hpt.2 hp.2
  have hs := g.2.sh ht5
  have hsl := g.2.sh hl
  obtain ⟨r, er, h1, h2, h3⟩ := k_rowOfKey (N := N) g (by omega) hl hk
  have hL := (z_rl_pos (V := V l) hp.1 hp.2 h1).2
  unfold f_Grid_keyAbove
  rw [er, q_b1_s]
  by_cases c0 : r = 0
  · subst c0
    refine Ok.ite (fun _ => Ok.ret ⟨0, ⟨0, k - z_rs (H l) (V l) 0, by omega, by omega, by omega, by rw [if_pos rfl]⟩, rfl⟩) (fun z => absurd rfl z)
  · rw [if_neg (by rw [z_eq0 (by omega)]; exact c0), z_ai hl (by omega), (g.at hl).2.2.2.2.1, z_sub1 (by omega), show 44 * H l + 2 - 1 = 44 * H l + 1 from rfl]
    by_cases c1 : r = 44 * H l + 1
    · rw [if_pos (by rw [c1]), z_ai ht5 (by omega), (g.at ht5).2.2.2.2.2, z_sub1 (by omega)]
      exact Ok.ret ⟨_, ⟨r, k - z_rs (H l) (V l) r, h1, by omega, by omega, by rw [if_neg c0, if_pos c1]; rfl⟩, rfl⟩
    · rw [if_neg (by rw [nI_eq (by omega) (by omega)]; exact c1), k_rowStart g hl h1, q_b1_s, pk_sub h2, z_nm]
      have hrow : (r - 1) / (H l / H t) < 44 * H t := by
        apply Nat.div_lt_of_lt_mul
        have : H l / H t * (44 * H t) = 44 * H l := by
          rw [Nat.mul_left_comm, Nat.mul_comm (H l / H t), q1.2.2]
        omega
      have e1 : f_Grid_rowsIn br (nI t) (nI l) = some (nI (H l / H t)) := by
        unfold f_Grid_rowsIn
        rw [z_ai hl (by omega), (g.at hl).2.2.1, z_ai ht5 (by omega), (g.at ht5).2.2.1, z_dv (by omega) (by omega) (by omega)]
      have e2 : f_Grid_columnsIn zc (nI t) (nI l) = some (nI (V l / V t)) := by
        unfold f_Grid_columnsIn
        rw [z_ai hl (by omega), (g.at hl).2.2.2.1, z_ai ht5 (by omega), (g.at ht5).2.2.2.1, z_dv (by omega) (by omega) (by omega)]
      rw [e1, q_b1_s, z_sub1 (by omega), z_dv (by omega) (by omega) (by omega), nI_1, z_nm, k_rowStart g ht5 (by omega), q_b1_s, e2, q_b1_s, z_dv (by omega) (by omega) (by omega), nI_add]
      exact Ok.ret ⟨_, ⟨r, k - z_rs (H l) (V l) r, h1, by omega, by omega, by rw [if_neg c0, if_neg c1, Nat.add_comm 1]⟩, rfl⟩
theorem r_parentOf (g : MOK R C H V cr cq dp wd za) (hN : 50 ≤ N) (hl : l < 5) {t : Nat} (ht : t ≤ l) {k : Nat} (hk : k < 2130 * (H l * V l) + 2) : Ok (f_M_parentOf N dp wd za (nI l) (nI k) (nI t)) (fun x => ∃ k2, z_upr H V l t k k2 ∧ x = nI k2) := by
  have ht5 : t < 5 := by omega
  have hv := g.2.2.hv hl
  have hvt := g.2.2.hv ht5
  have hp := g.2.2.pos l hl
  have hpt := g.2.2.pos t ht5
  have hd := g.2.2.dvd l hl t ht
  have q1 := z_quot hd.1 hpt.1 hp.1
  have q2 := z_quot hd.2 hpt.2 hp.2
  have hs := g.2.2.sh ht5
  have hsl := g.2.2.sh hl
  obtain ⟨r, p, hr, hpr, hk2, er, ep⟩ := t_spot (N := N) g hN hl hk
  have hpl := (z_rl_pos (V := V l) hp.1 hp.2 hr).2
  unfold f_M_parentOf
  rcases t_isCap g hl hk with ⟨c, e⟩ | ⟨c, e⟩ <;> rw [e, q_b1_s]
  · refine Ok.ite (fun h => absurd h (by decide)) (fun _ => Ok.ite (fun c0 => ?_) (fun c0 => ?_))
    all_goals rw [z_eq0 (by omega)] at c0
    · refine Ok.ret ⟨0, ⟨0, 0, by omega, ?_, ?_, by rw [if_pos rfl]⟩, rfl⟩
      · rw [show z_rl (H l) (V l) 0 = 1 from if_pos (Or.inl rfl)]; omega
      · rw [show z_rs (H l) (V l) 0 = 0 from if_pos rfl]; exact c0
    · rw [m_sheets g ht5, q_b1_s, z_sub1 (by omega)]
      have ck : k = 2130 * (H l * V l) + 1 := by unfold z_capk at c; omega
      refine Ok.ret ⟨_, ⟨44 * H l + 1, 0, by omega, ?_, ?_, by rw [if_neg (by omega), if_pos rfl]; rfl⟩, rfl⟩
      · rw [z_rl_last]; omega
      · rw [z_rs_last hp.1]; exact ck
  · refine Ok.ite (fun _ => ?_) (fun h => absurd rfl h)
    obtain ⟨r1, r2⟩ := z_notcap hp.1 hr hpr hk2 c
    have hrow : (r - 1) / (H l / H t) < 44 * H t := by
      apply Nat.div_lt_of_lt_mul
      have : H l / H t * (44 * H t) = 44 * H l := by
        rw [Nat.mul_left_comm, Nat.mul_comm (H l / H t), q1.2.2]
      omega
    have hbd := z_upr_lt g.2.2 hl ht ⟨r, p, hr, hpr, hk2, rfl⟩
    rw [if_neg (by omega), if_neg (by omega)] at hbd
    have hband : (1 + (r - 1) / (H l / H t) - 1) / H t = (r - 1) / H l := by
      rw [Nat.add_sub_cancel_left, Nat.div_div_eq_div_mul, Nat.mul_comm (H l / H t), q1.2.2]
    have hlen : z_rl (H t) (V t) (1 + (r - 1) / (H l / H t)) = z_bz ((r - 1) / H l) * V t := by
      unfold z_rl
      rw [if_neg (z_mid hrow), hband]
    have hlen2 : z_rl (H l) (V l) r = z_bz ((r - 1) / H l) * V l := by
      unfold z_rl
      rw [if_neg (by omega)]
    have hpl2 : p / (V l / V t) < z_bz ((r - 1) / H l) * V t := by
      apply Nat.div_lt_of_lt_mul
      rw [hlen2] at hpr
      have : V l / V t * (z_bz ((r - 1) / H l) * V t) = z_bz ((r - 1) / H l) * V l := by
        rw [Nat.mul_left_comm, Nat.mul_comm (V l / V t), q2.2.2]
      omega
    rw [er, q_b1_s, z_ai hl (by omega), (g.1 l hl).2.2.1, z_ai ht5 (by omega), (g.1 t ht5).2.2.1, z_dv (by omega) (by omega) (by omega), z_sub1 r1, z_dv (by omega) (by omega) (by omega), ep, q_b1_s, z_ai hl (by omega), (g.1 l hl).2.2.2, z_ai ht5 (by omega), (g.1 t ht5).2.2.2, z_dv (by omega) (by omega) (by omega), z_dv (by omega) (by omega) (by omega), z_i 1, nI_add, m_keyOf g ht5 (by omega) (by rw [hlen]; exact hpl2), q_b1_s]
    exact Ok.ret ⟨_, ⟨r, p, hr, hpr, hk2, by rw [if_neg (by omega), if_neg (by omega)]⟩, rfl⟩
/-- where a sheet is stored -/
def z_at0 (H V : Nat → Nat) (l k l2 k2 : Nat) : Prop := (z_capk (H l) (V l) k ∧ l2 = 0 ∧ z_upr H V l 0 k k2) ∨ (¬ z_capk (H l) (V l) k ∧ l2 = l ∧ k2 = k)
theorem z_upr_self (g : CUT R C H V) (hl : l < 5) {k k2 : Nat} (hc : ¬ z_capk (H l) (V l) k) (h : z_upr H V l l k k2) : k2 = k := by
  have hp := g.pos l hl
  obtain ⟨r, p, a1, a2, a3, a4⟩ := h
  obtain ⟨r1, r2⟩ := z_notcap hp.1 a1 a2 a3 hc
  rw [if_neg (by omega), if_neg (by omega), Nat.div_self hp.1, Nat.div_self hp.2, Nat.div_one, Nat.div_one, Nat.add_sub_cancel' r1] at a4
  omega
theorem z_at0_in (g : CUT R C H V) (hl : l < 5) {k l2 k2 : Nat} (hk : k < 2130 * (H l * V l) + 2) (h : z_at0 H V l k l2 k2) : l2 < 5 ∧ k2 < 2130 * (H l2 * V l2) + 2 := by
  rcases h with ⟨-, rfl, h⟩ | ⟨-, rfl, rfl⟩
  · exact ⟨by omega, z_upr_lt g hl (Nat.zero_le _) h⟩
  · exact ⟨hl, hk⟩
theorem z_at0_one (hH : 1 ≤ H l) {k l2 k2 l3 k3 : Nat} (h1 : z_at0 H V l k l2 k2) (h2 : z_at0 H V l k l3 k3) : l2 = l3 ∧ k2 = k3 := by
  rcases h1 with ⟨a, b, c⟩ | ⟨a, b, c⟩ <;> rcases h2 with ⟨d, e, f⟩ | ⟨d, e, f⟩
  · exact ⟨by omega, z_upr_one hH c f⟩
  · exact absurd a d
  · exact absurd d a
  · exact ⟨by omega, by omega⟩
/-- the class's two words for it -/
theorem r_stored (g : GOK R C H V rc cc br zc rw sh) (hN : 1000000 ≤ N) (hl : l < 5) {k : Nat} (hk : k < 2130 * (H l * V l) + 2) : ∃ l2 k2, z_at0 H V l k l2 k2 ∧ f_Grid_storedLevel sh (nI l) (nI k) = some (nI l2) ∧ f_Grid_keyAbove N br zc rw sh (nI l) (nI k) (nI l2) = some (nI k2) := by
  have hs := g.2.sh hl
  have hp := g.2.pos l hl
  by_cases c : z_capk (H l) (V l) k
  · obtain ⟨x, ex, k2, h2, rfl⟩ := r_above (N := N) g hN hl (t := 0) (Nat.zero_le _) hk
    refine ⟨0, k2, Or.inl ⟨c, rfl, h2⟩, ?_, ex⟩
    unfold f_Grid_storedLevel
    rw [z_j0]
    by_cases c0 : k = 0
    · rw [if_pos (by rw [c0]; rfl)]; rfl
    · have ck : k = 2130 * (H l * V l) + 1 := by unfold z_capk at c; omega
      rw [if_neg (by rw [z_eq0 (by omega)]; exact c0), z_ai hl (by omega), (g.at hl).2.2.2.2.2, z_sub1 (by omega), if_pos (by rw [nI_eq (by omega) (by omega)]; omega)]; rfl
  · obtain ⟨x, ex, k2, h2, rfl⟩ := r_above (N := N) g hN hl (t := l) (Nat.le_refl _) hk
    have e := z_upr_self g.2 hl c h2
    subst e
    refine ⟨l, k2, Or.inr ⟨c, rfl, rfl⟩, ?_, ex⟩
    unfold z_capk at c
    unfold f_Grid_storedLevel
    rw [z_j0, if_neg (by rw [z_eq0 (by omega)]; omega), z_ai hl (by omega), (g.at hl).2.2.2.2.2, z_sub1 (by omega), if_neg (by rw [nI_eq (by omega) (by omega)]; omega)]
end R2
end
section
/-! store on both sides -/
section R3
variable {R C H V : Nat → Nat} {rc cc br zc rw sh cr cq dp wd za : Nat → Int32} {N m : Nat} {L K : Nat → Nat} {Y : Nat → Int32} {fl fk fy : Nat → Int32}
theorem z_rp_ins (hr : z_rp m L K Y fl fk fy) {p l k : Nat} {y : Int32} (hp : p ≤ m) {a b c : Nat → Int32} (ha : ∀ j, j < m + 1 → a j = a_ins p (nI l) fl j) (hb : ∀ j, j < m + 1 → b j = a_ins p (nI k) fk j) (hc : ∀ j, j < m + 1 → c j = a_ins p y fy j) : z_rp (m + 1) (a_ins p l L) (a_ins p k K) (a_ins p y Y) a b c := by
  intro i hi
  rw [ha i hi, hb i hi, hc i hi]
  unfold a_ins
  by_cases c1 : i < p
  · rw [if_pos c1, if_pos c1, if_pos c1, if_pos c1, if_pos c1, if_pos c1]; exact hr i (by omega)
  · rw [if_neg c1, if_neg c1, if_neg c1, if_neg c1, if_neg c1, if_neg c1]
    by_cases c2 : i = p
    · rw [if_pos c2, if_pos c2, if_pos c2, if_pos c2, if_pos c2, if_pos c2]; exact ⟨rfl, rfl, rfl⟩
    · rw [if_neg c2, if_neg c2, if_neg c2, if_neg c2, if_neg c2, if_neg c2]; exact hr (i - 1) (by omega)
theorem z_rp_year (hr : z_rp m L K Y fl fk fy) {p : Nat} {y : Int32} : z_rp m L K (upd Y p y) fl fk (upd fy p y) := by
  intro i hi
  obtain ⟨a, b, c⟩ := hr i hi
  refine ⟨a, b, ?_⟩
  by_cases e : i = p
  · subst e; rw [z_updS, z_updS]
  · rw [z_updN e, z_updN e]; exact c
/-- what put does -/
def z_putR (m : Nat) (L K : Nat → Nat) (Y : Nat → Int32) (l k p : Nat) (y r : Int32) (m2 : Nat) (L2 K2 : Nat → Nat) (Y2 : Nat → Int32) : Prop :=
  (z_is m L K l k p ∧ r = nI m ∧ m2 = m ∧ L2 = L ∧ K2 = K ∧ Y2 = upd Y p y) ∨ (¬ z_is m L K l k p ∧ m = 60 ∧ r = -2 ∧ m2 = m ∧ L2 = L ∧ K2 = K ∧ Y2 = Y) ∨ (¬ z_is m L K l k p ∧ m < 60 ∧ r = nI (m + 1) ∧ m2 = m + 1 ∧ L2 = a_ins p l L ∧ K2 = a_ins p k K ∧ Y2 = a_ins p y Y)
theorem z_putR_pc (h : z_pc H V m L K) {l k p : Nat} {y r : Int32} {m2 : Nat} {L2 K2 : Nat → Nat} {Y2 : Nat → Int32} (hl : l < 5) (hk : k < 2130 * (H l * V l) + 2) (hp : z_slot m L K l k p) (hr : z_putR m L K Y l k p y r m2 L2 K2 Y2) : z_pc H V m2 L2 K2 := by
  rcases hr with ⟨-, -, rfl, rfl, rfl, -⟩ | ⟨-, -, -, rfl, rfl, rfl, -⟩ | ⟨hn, hm, -, rfl, rfl, rfl, -⟩
  · exact h
  · exact h
  · exact z_pc_ins h hp hn hm hl hk
theorem z_putR_one {l k p : Nat} {y r r' : Int32} {m2 m3 : Nat} {L2 K2 L3 K3 : Nat → Nat} {Y2 Y3 : Nat → Int32} (h1 : z_putR m L K Y l k p y r m2 L2 K2 Y2) (h2 : z_putR m L K Y l k p y r' m3 L3 K3 Y3) : r = r' ∧ m2 = m3 ∧ L2 = L3 ∧ K2 = K3 ∧ Y2 = Y3 := by
  rcases h1 with ⟨a, b, c, d, e, f⟩ | ⟨a, a', b, c, d, e, f⟩ | ⟨a, a', b, c, d, e, f⟩ <;> rcases h2 with ⟨a2, b2, c2, d2, e2, f2⟩ | ⟨a2, a3, b2, c2, d2, e2, f2⟩ | ⟨a2, a3, b2, c2, d2, e2, f2⟩
  · exact ⟨b.trans b2.symm, c.trans c2.symm, d.trans d2.symm, e.trans e2.symm, f.trans f2.symm⟩
  · exact absurd a a2
  · exact absurd a a2
  · exact absurd a2 a
  · exact ⟨b.trans b2.symm, c.trans c2.symm, d.trans d2.symm, e.trans e2.symm, f.trans f2.symm⟩
  · omega
  · exact absurd a2 a
  · omega
  · exact ⟨b.trans b2.symm, c.trans c2.symm, d.trans d2.symm, e.trans e2.symm, f.trans f2.symm⟩
theorem z_slot_one (h : z_pc H V m L K) {l k p p' : Nat} (h1 : z_slot m L K l k p) (h2 : z_slot m L K l k p') : p = p' := by
  obtain ⟨a1, a2, a3⟩ := h1
  obtain ⟨b1, b2, b3⟩ := h2
  rcases Nat.lt_trichotomy p p' with c | c | c
  · exact absurd (b2 p c) (a3 p (Nat.le_refl _) (by omega))
  · exact c
  · exact absurd (a2 p' c) (b3 p' (Nat.le_refl _) (by omega))
theorem r_put (h : z_pc H V m L K) (hb : ∀ l, l < 5 → 2130 * (H l * V l) + 2 ≤ 20000000) (hr : z_rp m L K Y fl fk fy) (hN : 1000000 ≤ N) {l k p : Nat} (hl : l < 5) (hk : k < 20000000) (hp : z_slot m L K l k p) (y : Int32) : Ok (f_Store_put N fl fk fy (nI m) (nI l) (nI k) y) (fun x => ∃ r m2 L2 K2 Y2, z_putR m L K Y l k p y r m2 L2 K2 Y2 ∧ (r = -2 ∧ x.1 = 0 ∨ r = nI m2 ∧ x.1 = 1) ∧ x.2.2.2.2 = nI m2 ∧ z_rp m2 L2 K2 Y2 x.2.1 x.2.2.1 x.2.2.2.1) := by
  have hm := h.1
  unfold f_Store_put
  refine Ok.b1 (r_find h hb hr hN hl hk hp) (fun v1 h1 => ?_)
  rcases h1 with ⟨z, rfl⟩ | ⟨z, rfl⟩
  · have hpm : p < m := z.1
    refine Ok.ite (fun c => absurd c (z_nIm1 (by omega))) (fun _ => ?_)
    refine Ok.asn (by omega) (by decide) (Ok.ret ⟨_, _, _, _, _, Or.inl ⟨z, rfl, rfl, rfl, rfl, rfl⟩, Or.inr ⟨rfl, rfl⟩, rfl, z_rp_year hr⟩)
  · refine Ok.ite (fun _ => Ok.ite (fun c => ?_) (fun c => ?_)) (fun c => absurd rfl c)
    all_goals rw [z_i 60, nI_ltI (by omega) (by omega)] at c
    · refine Ok.b4 (r_put_L h hb hr c hl hk hp z N m fl fk fy hp.1 (Nat.le_refl _) (by omega) ⟨fun _ _ => rfl, fun j h1 h2 => absurd h1 (by omega)⟩ ⟨fun _ _ => rfl, fun j h1 h2 => absurd h1 (by omega)⟩ ⟨fun _ _ => rfl, fun j h1 h2 => absurd h1 (by omega)⟩) (fun v6 f7 f8 f9 h6 => ?_)
      obtain ⟨e6, b1, b2, b3⟩ := h6
      dsimp only at e6 b1 b2 b3
      subst e6
      have hpm := hp.1
      refine Ok.asn (by omega) (by decide) (Ok.asn (by omega) (by decide) (Ok.asn (by omega) (by decide) (Ok.nm ?_)))
      rw [nI_1]
      exact Ok.ret ⟨_, _, _, _, _, Or.inr (Or.inr ⟨z, c, rfl, rfl, rfl, rfl, rfl⟩), Or.inr ⟨rfl, rfl⟩, rfl, z_rp_ins hr hpm (z_hole_ins hpm b1) (z_hole_ins hpm b2) (z_hole_ins hpm b3)⟩
    · exact Ok.ret ⟨_, _, _, _, _, Or.inr (Or.inl ⟨z, by omega, rfl, rfl, rfl, rfl, rfl⟩), Or.inl ⟨rfl, rfl⟩, rfl, hr⟩
/-- what store does -/
def z_storeR (H V : Nat → Nat) (m : Nat) (L K : Nat → Nat) (Y : Nat → Int32) (p q y r : Int32) (m2 : Nat) (L2 K2 : Nat → Nat) (Y2 : Nat → Int32) : Prop :=
  (¬ (z_hs H V p q ∧ 1800 ≤ y.toInt ∧ y.toInt ≤ 2100) ∧ r = -1 ∧ m2 = m ∧ L2 = L ∧ K2 = K ∧ Y2 = Y) ∨ (∃ l k l2 k2 j, (z_hs H V p q ∧ 1800 ≤ y.toInt ∧ y.toInt ≤ 2100) ∧ l < 5 ∧ p = nI l ∧ q = nI k ∧ k < 2130 * (H l * V l) + 2 ∧ z_at0 H V l k l2 k2 ∧ z_slot m L K l2 k2 j ∧ z_putR m L K Y l2 k2 j y r m2 L2 K2 Y2)
theorem z_storeR_pc (g : CUT R C H V) (h : z_pc H V m L K) {p q y r : Int32} {m2 : Nat} {L2 K2 : Nat → Nat} {Y2 : Nat → Int32} (hr : z_storeR H V m L K Y p q y r m2 L2 K2 Y2) : z_pc H V m2 L2 K2 := by
  rcases hr with ⟨-, -, rfl, rfl, rfl, -⟩ | ⟨l, k, l2, k2, j, -, hl, -, -, hk, ha, hs, hp⟩
  · exact h
  · obtain ⟨b1, b2⟩ := z_at0_in g hl hk ha
    exact z_putR_pc h b1 b2 hs hp
theorem z_storeR_one (g : CUT R C H V) (h : z_pc H V m L K) {p q y r r' : Int32} {m2 m3 : Nat} {L2 K2 L3 K3 : Nat → Nat} {Y2 Y3 : Nat → Int32} (h1 : z_storeR H V m L K Y p q y r m2 L2 K2 Y2) (h2 : z_storeR H V m L K Y p q y r' m3 L3 K3 Y3) : r = r' ∧ m2 = m3 ∧ L2 = L3 ∧ K2 = K3 ∧ Y2 = Y3 := by
  rcases h1 with ⟨a, b, c, d, e, f⟩ | ⟨l, k, l2, k2, j, a, hl, ep, eq, hk, ha, hs, hp⟩ <;> rcases h2 with ⟨a', b', c', d', e', f'⟩ | ⟨l', k', l2', k2', j', a', hl', ep', eq', hk', ha', hs', hp'⟩
  · exact ⟨b.trans b'.symm, c.trans c'.symm, d.trans d'.symm, e.trans e'.symm, f.trans f'.symm⟩
  · exact absurd a' a
  · exact absurd a a'
  · have hsl := g.sh hl
    have hsl' := g.sh hl'
    have : l = l' := by rw [ep, nI_eq (by omega) (by omega)] at ep'; exact ep'
    subst this
    have : k = k' := by rw [eq, nI_eq (by omega) (by omega)] at eq'; exact eq'
    subst this
    obtain ⟨rfl, rfl⟩ := z_at0_one (g.pos l hl).1 ha ha'
    have := z_slot_one h hs hs'
    subst this
    exact z_putR_one hp hp'
theorem r_x_store (g : GOK R C H V rc cc br zc rw sh) (h : z_pc H V m L K) (hr : z_rp m L K Y fl fk fy) (hN : 1000000 ≤ N) (p q y : Int32) : Ok (f_X_store N fl fk fy (nI m) br zc rw sh p q y) (fun x => ∃ r m2 L2 K2 Y2, z_storeR H V m L K Y p q y r m2 L2 K2 Y2 ∧ x.1 = r ∧ x.2.2.2.2 = nI m2 ∧ z_rp m2 L2 K2 Y2 x.2.1 x.2.2.1 x.2.2.2.1) := by
  have hb : ∀ l, l < 5 → 2130 * (H l * V l) + 2 ≤ 20000000 := fun l hl => g.2.sh hl
  unfold f_X_store
  refine Ok.b1 (r_hasSheet g p q) (fun v1 h1 => ?_)
  rcases h1 with ⟨z, rfl⟩ | ⟨z, rfl⟩
  rotate_left
  · exact Ok.ite (fun _ => Ok.ret ⟨_, _, _, _, _, Or.inl ⟨fun w => z w.1, rfl, rfl, rfl, rfl, rfl⟩, rfl, rfl, hr⟩) (fun c => absurd rfl c)
  refine Ok.ite (fun c => absurd c (by decide)) (fun _ => Ok.b1 (s_isFrom y _ _) (fun v2 h2 => ?_))
  rw [show (1800 : Int32).toInt = 1800 from rfl, show (2100 : Int32).toInt = 2100 from rfl] at h2
  refine Ok.ite (fun c => ?_) (fun c => ?_)
  · exact Ok.ret ⟨_, _, _, _, _, Or.inl ⟨fun w => z_if0 h2 c w.2, rfl, rfl, rfl, rfl, rfl⟩, rfl, rfl, hr⟩
  · have hy := z_if1 h2 c
    have z' := z
    obtain ⟨l, k, hl, rfl, rfl, hk⟩ := z'
    obtain ⟨l2, k2, ha, e1, e2⟩ := r_stored g hN hl hk
    obtain ⟨b1, b2⟩ := z_at0_in g.2 hl hk ha
    obtain ⟨j, hj⟩ := z_slot_ex h l2 k2
    rw [e1, q_b1_s, e2, q_b1_s]
    have hbl := hb _ b1
    refine Ok.b5 (r_put h hb hr hN b1 (by omega) hj y) (fun v5 f6 f7 f8 v9 h5 => ?_)
    obtain ⟨r, m2, L2, K2, Y2, a1, a2, a3, a4⟩ := h5
    dsimp only at a2 a3 a4
    rcases a2 with ⟨e, e'⟩ | ⟨e, e'⟩
    · subst e'
      exact Ok.ite (fun _ => Ok.ret ⟨r, m2, L2, K2, Y2, Or.inr ⟨l, k, l2, k2, j, ⟨z, hy⟩, hl, rfl, rfl, hk, ha, hj, a1⟩, e.symm, a3, a4⟩) (fun w => absurd rfl w)
    · subst e'
      exact Ok.ite (fun w => absurd w (by decide)) (fun _ => Ok.ret ⟨r, m2, L2, K2, Y2, Or.inr ⟨l, k, l2, k2, j, ⟨z, hy⟩, hl, rfl, rfl, hk, ha, hj, a1⟩, a3.trans e.symm, a3, a4⟩)
theorem r_slotOf (h : z_pc H V m L K) (hb : ∀ l, l < 5 → 2130 * (H l * V l) + 2 ≤ 20000000) (hr : z_rp m L K Y fl fk fy) (hN : 1000000 ≤ N) {l k p : Nat} (hl : l < 5) (hk : k < 20000000) (hp : z_slot m L K l k p) : Ok (f_M_slotOf N (nI m) fl fk (nI l) (nI k)) (fun x => x = nI p) := by
  have hm := h.1
  have S : ∀ n i, i ≤ p → p - i < n → Ok (f_M_slotOf_L2 fk fl (nI m) (nI l) (nI k) n (nI i)) (fun x => x = nI p) := by
    intro n
    induction n with
    | zero => intro i _ h; omega
    | succ n ih =>
      intro i hi hn
      have hpm := hp.1
      rw [f_M_slotOf_L2]
      refine Ok.ite (fun hc => ?_) (fun hc => ?_)
      all_goals rw [nI_leI (by omega) (by omega)] at hc
      · exact Ok.ret (by rw [show i = p by omega])
      · have him : i < m := by omega
        obtain ⟨e1, e2, -⟩ := hr i him
        obtain ⟨b1, b2⟩ := z_pcK h hb him
        have go : z_less (L i) (K i) l k → Ok (q_nm (nI i + 1) fun v5 => f_M_slotOf_L2 fk fl (nI m) (nI l) (nI k) n v5) (fun x => x = nI p) := by
          intro hz
          have : i < p := by
            rcases Nat.lt_or_ge i p with c | c
            · exact c
            · exact absurd hz (hp.2.2 i c him)
          rw [z_nm, nI_1]
          exact ih (i + 1) (by omega) (by omega)
        have stop : ¬ z_less (L i) (K i) l k → Ok (some (nI i)) (fun x => x = nI p) := by
          intro hz
          refine Ok.ret ?_
          rcases Nat.lt_or_ge i p with c | c
          · exact absurd (hp.2.1 i c) hz
          · rw [show i = p by omega]
        rw [z_ai (by omega) (by omega), e1]
        refine Ok.j0 (Ok.ite (fun c1 => ?_) (fun c1 => ?_))
        all_goals rw [nI_ltI (by omega) (by omega)] at c1
        · exact go (Or.inl c1)
        · rw [z_ai (by omega) (by omega), e1]
          refine Ok.ite (fun c2 => ?_) (fun c2 => ?_)
          all_goals rw [nI_eq (by omega) (by omega)] at c2
          · rw [z_ai (by omega) (by omega), e2]
            refine Ok.ite (fun c3 => ?_) (fun c3 => ?_)
            all_goals rw [nI_leI (by omega) (by omega)] at c3
            · exact stop (by unfold z_less; omega)
            · exact go (by unfold z_less; omega)
          · exact stop (by unfold z_less; omega)
  unfold f_M_slotOf
  exact Ok.nm (Ok.b1 (S N 0 (Nat.zero_le _) (by have := hp.1; omega)) (fun _ h => Ok.ret h))
theorem r_isPiece (h : z_pc H V m L K) (hb : ∀ l, l < 5 → 2130 * (H l * V l) + 2 ≤ 20000000) (hr : z_rp m L K Y fl fk fy) {l k p : Nat} (hl : l < 5) (hk : k < 20000000) (hp : p ≤ m) : Ok (f_M_isPiece (nI m) fl fk (nI p) (nI l) (nI k)) (fun x => (z_is m L K l k p ∧ x = 1) ∨ (¬ z_is m L K l k p ∧ x = 0)) := by
  have hm := h.1
  unfold f_M_isPiece
  refine Ok.ite (fun hc => ?_) (fun hc => ?_)
  all_goals rw [nI_leI (by omega) (by omega)] at hc
  · exact Ok.ret (Or.inr ⟨fun z => by have := z.1; omega, rfl⟩)
  · have him : p < m := by omega
    obtain ⟨e1, e2, -⟩ := hr p him
    obtain ⟨b1, b2⟩ := z_pcK h hb him
    rw [z_ai (by omega) (by omega), e1]
    refine Ok.ite (fun c1 => ?_) (fun c1 => ?_)
    all_goals rw [nI_eq (by omega) (by omega)] at c1
    · rw [z_ai (by omega) (by omega), e2]
      refine Ok.ite (fun c2 => ?_) (fun c2 => ?_)
      all_goals rw [nI_eq (by omega) (by omega)] at c2
      · exact Ok.ret (Or.inl ⟨⟨him, c1, c2⟩, rfl⟩)
      · exact Ok.ret (Or.inr ⟨fun z => c2 z.2.2, rfl⟩)
    · exact Ok.ret (Or.inr ⟨fun z => c1 z.2.1, rfl⟩)
end R3
end
section
/-! the reference's store with what it leaves; drop, renew on both sides -/
section R4
variable {R C H V : Nat → Nat} {rc cc br zc rw sh cr cq dp wd za : Nat → Int32} {N m l : Nat} {L K : Nat → Nat} {Y : Nat → Int32} {fl fk fy : Nat → Int32}
theorem r_isYear (x : Int32) : Ok (f_M_isYear x) (fun y => y = if 1800 ≤ x.toInt ∧ x.toInt ≤ 2100 then 1 else 0) := by
  unfold f_M_isYear
  rw [m_in, q_b1_s, z_toL, show (1800 : Int64).toInt = 1800 from rfl, show (2100 : Int64).toInt = 2100 from rfl]
  refine Ok.bo ?_ (Ok.ret rfl)
  split
  · exact Or.inr rfl
  · exact Or.inl rfl
theorem r_isLevel (x : Int32) : Ok (f_X_isLevel x) (fun y => y = if 0 ≤ x.toInt ∧ x.toInt ≤ 4 then 1 else 0) := ⟨_, k_isLevel x, rfl⟩
/-- what is stored: a cap at level 0 -/
theorem r_where (g : MOK R C H V cr cq dp wd za) (hN : 1000000 ≤ N) (hl : l < 5) {k : Nat} (hk : k < 2130 * (H l * V l) + 2) {α : Type} {P : α → Prop} {G : Int32 → Int32 → Option α} (hG : ∀ l2 k2, z_at0 H V l k l2 k2 → Ok (G (nI l2) (nI k2)) P) : Ok (q_b1 (f_M_isCap dp wd za (nI l) (nI k)) (fun (v3 : Int32) => q_j1 (fun (v4 : Int32) => (q_b1 (f_M_isCap dp wd za (nI l) (nI k)) (fun (v5 : Int32) => q_j1 (fun (v6 : Int32) => (G v4 v6 : Option α)) (fun (k54 : Int32 → Option α) => if v5 = 0 then (k54 (nI k)) else (q_b1 (f_M_parentOf N dp wd za (nI l) (nI k) 0) (fun (v31 : Int32) => k54 v31)))) : Option α)) (fun (k32 : Int32 → Option α) => if v3 = 0 then (k32 (nI l)) else (k32 0)))) P := by
  rcases t_isCap g hl hk with ⟨c, e⟩ | ⟨c, e⟩ <;> rw [e, q_b1_s]
  · refine Ok.k1 (fun v => v = nI 0) P (fun v4 h4 => ?_) (fun K hK => Ok.ite (fun h => absurd h (by decide)) (fun _ => hK _ rfl))
    subst h4
    rw [q_b1_s]
    refine Ok.k1 (fun v => ∃ k2, z_upr H V l 0 k k2 ∧ v = nI k2) P (fun v6 h6 => ?_) (fun K hK => Ok.ite (fun h => absurd h (by decide)) (fun _ => Ok.b1 (r_parentOf g (by omega) hl (t := 0) (Nat.zero_le _) hk) (fun v31 h31 => hK _ h31)))
    obtain ⟨k2, h2, rfl⟩ := h6
    exact hG _ _ (Or.inl ⟨c, rfl, h2⟩)
  · refine Ok.k1 (fun v => v = nI l) P (fun v4 h4 => ?_) (fun K hK => Ok.ite (fun _ => hK _ rfl) (fun h => absurd rfl h))
    subst h4
    rw [q_b1_s]
    exact Ok.k1 (fun v => v = nI k) P (fun v6 h6 => by rw [h6]; exact hG _ _ (Or.inr ⟨c, rfl, rfl⟩)) (fun K hK => Ok.ite (fun _ => hK _ rfl) (fun h => absurd rfl h))
theorem r_shift {p : Nat} (hm : m < 60) : ∀ n i (a b c : Nat → Int32), p ≤ i → i ≤ m → i - p < n → z_hole m i fl a → z_hole m i fk b → z_hole m i fy c → Ok (f_M_store_L97 (nI p) n (nI i) a b c) (fun x => z_hole m p fl x.1 ∧ z_hole m p fk x.2.1 ∧ z_hole m p fy x.2.2) := by
  intro n
  induction n with
  | zero => intro i a b c _ _ h; omega
  | succ n ih =>
    intro i a b c hpi him hn ha hb hc
    rw [f_M_store_L97]
    by_cases e : i = p
    · subst e
      exact Ok.ite (fun _ => Ok.ret ⟨ha, hb, hc⟩) (fun z => absurd (by rw [nI_leI (by omega) (by omega)]; omega) z)
    · refine Ok.ite (fun z => absurd z (by rw [nI_leI (by omega) (by omega)]; omega)) (fun _ => ?_)
      obtain ⟨u, rfl⟩ : ∃ u, i = u + 1 := ⟨i - 1, by omega⟩
      rw [z_m1, z_sub1 (by omega), Nat.add_sub_cancel, z_ai (by omega) (by omega), z_ai (by omega) (by omega), z_ai (by omega) (by omega), m_puts (by omega), q_b3_s, z_nm]
      exact ih u _ _ _ (by omega) (by omega) (by omega) (z_hole_mv him ha) (z_hole_mv him hb) (z_hole_mv him hc)
theorem z_hole0 {f : Nat → Int32} : z_hole m m f f := ⟨fun _ _ => rfl, fun j h1 h2 => absurd h1 (by omega)⟩
theorem z_rp_same (hr : z_rp m L K Y fl fk fy) {p l k : Nat} {y : Int32} (hz : z_is m L K l k p) : z_rp m L K (upd Y p y) (upd fl p (nI l)) (upd fk p (nI k)) (upd fy p y) := by
  intro i hi
  obtain ⟨a, b, c⟩ := hr i hi
  by_cases e : i = p
  · subst e
    rw [z_updS, z_updS, z_updS, z_updS, hz.2.1, hz.2.2]
    exact ⟨rfl, rfl, rfl⟩
  · rw [z_updN e, z_updN e, z_updN e, z_updN e]
    exact ⟨a, b, c⟩
theorem r_m_store (g : MOK R C H V cr cq dp wd za) (h : z_pc H V m L K) (hr : z_rp m L K Y fl fk fy) (hN : 1000000 ≤ N) (p q y : Int32) : Ok (f_M_store N dp wd za (nI m) fl fk fy p q y) (fun x => ∃ r m2 L2 K2 Y2, z_storeR H V m L K Y p q y r m2 L2 K2 Y2 ∧ x.1 = r ∧ x.2.1 = nI m2 ∧ z_rp m2 L2 K2 Y2 x.2.2.1 x.2.2.2.1 x.2.2.2.2) := by
  have hb : ∀ l, l < 5 → 2130 * (H l * V l) + 2 ≤ 20000000 := fun l hl => g.2.2.sh hl
  have hm := h.1
  unfold f_M_store
  refine Ok.b1 (r_isKey g p q) (fun v1 h1 => ?_)
  rcases h1 with ⟨z, rfl⟩ | ⟨z, rfl⟩
  rotate_left
  · exact Ok.ite (fun _ => Ok.ret ⟨_, _, _, _, _, Or.inl ⟨fun w => z w.1, rfl, rfl, rfl, rfl, rfl⟩, rfl, rfl, hr⟩) (fun c => absurd rfl c)
  refine Ok.ite (fun c => absurd c (by decide)) (fun _ => Ok.b1 (r_isYear y) (fun v2 h2 => Ok.ite (fun c => ?_) (fun c => ?_)))
  · exact Ok.ret ⟨_, _, _, _, _, Or.inl ⟨fun w => z_if0 h2 c w.2, rfl, rfl, rfl, rfl, rfl⟩, rfl, rfl, hr⟩
  have hy := z_if1 h2 c
  have z' := z
  obtain ⟨l, k, hl, rfl, rfl, hk⟩ := z'
  refine r_where g hN hl hk (fun l2 k2 ha => ?_)
  obtain ⟨b1, b2⟩ := z_at0_in g.2.2 hl hk ha
  have hbl := hb _ b1
  obtain ⟨j, hj⟩ := z_slot_ex h l2 k2
  have hjm := hj.1
  refine Ok.b1 (r_slotOf h hb hr hN b1 (by omega) hj) (fun v7 h7 => ?_)
  subst h7
  refine Ok.b1 (r_isPiece h hb hr b1 (by omega) hjm) (fun v8 h8 => Ok.j4 ?_)
  rcases h8 with ⟨z8, rfl⟩ | ⟨z8, rfl⟩
  · have hjl : j < m := z8.1
    refine Ok.ite (fun c => absurd c (by decide)) (fun _ => ?_)
    (try dsimp only)
    rw [m_puts (by omega), q_b3_s]
    exact Ok.ret ⟨_, _, _, _, _, Or.inr ⟨l, k, l2, k2, j, ⟨z, hy⟩, hl, rfl, rfl, hk, ha, hj, Or.inl ⟨z8, rfl, rfl, rfl, rfl, rfl⟩⟩, rfl, rfl, z_rp_same hr z8⟩
  · refine Ok.ite (fun _ => Ok.ite (fun c60 => ?_) (fun c60 => ?_)) (fun c => absurd rfl c)
    all_goals rw [z_i 60, nI_eq (by omega) (by omega)] at c60
    · exact Ok.ret ⟨_, _, _, _, _, Or.inr ⟨l, k, l2, k2, j, ⟨z, hy⟩, hl, rfl, rfl, hk, ha, hj, Or.inr (Or.inl ⟨z8, c60, rfl, rfl, rfl, rfl, rfl⟩)⟩, rfl, rfl, hr⟩
    · refine Ok.b3 (r_shift (fl := fl) (fk := fk) (fy := fy) (m := m) (p := j) (by omega) N m fl fk fy hjm (Nat.le_refl _) (by omega) z_hole0 z_hole0 z_hole0) (fun f20 f21 f22 hq => ?_)
      obtain ⟨q1, q2, q3⟩ := hq
      dsimp only at q1 q2 q3
      rw [z_nm, nI_1]
      (try dsimp only)
      rw [m_puts (by omega), q_b3_s]
      exact Ok.ret ⟨_, _, _, _, _, Or.inr ⟨l, k, l2, k2, j, ⟨z, hy⟩, hl, rfl, rfl, hk, ha, hj, Or.inr (Or.inr ⟨z8, by omega, rfl, rfl, rfl, rfl, rfl⟩)⟩, rfl, rfl, z_rp_ins hr hjm (z_hole_ins hjm q1) (z_hole_ins hjm q2) (z_hole_ins hjm q3)⟩
/-- rows of which p goes: those ahead of i are moved already -/
def z_dl (p i : Nat) (f g : Nat → Int32) : Prop := (∀ j, j < p → g j = f j) ∧ (∀ j, p ≤ j → j + 1 < i → g j = f (j + 1)) ∧ (∀ j, i ≤ j → g j = f j)
theorem z_dl0 {p : Nat} {f : Nat → Int32} : z_dl p (p + 1) f f := ⟨fun _ _ => rfl, fun j a b => absurd b (by omega), fun _ _ => rfl⟩
theorem z_dl_mv1 {p i : Nat} {f g : Nat → Int32} (hi : p ≤ i) (h : z_dl p (i + 1) f g) : z_dl p (i + 1 + 1) f (upd g i (g (i + 1))) := by
  obtain ⟨h1, h2, h3⟩ := h
  refine ⟨fun j hj => ?_, fun j a b => ?_, fun j hj => ?_⟩
  · rw [z_updN (by omega)]; exact h1 j hj
  · by_cases e : j = i
    · subst e; rw [z_updS]; exact h3 _ (Nat.le_refl _)
    · rw [z_updN e]; exact h2 j a (by omega)
  · rw [z_updN (by omega)]; exact h3 j (by omega)
theorem z_dl_del {p : Nat} {f g : Nat → Int32} (h : z_dl p m f g) : ∀ j, j < m - 1 → g j = a_del p f j := by
  intro j hj
  unfold a_del
  by_cases c : j < p
  · rw [if_pos c]; exact h.1 j c
  · rw [if_neg c]; exact h.2.1 j (by omega) (by omega)
theorem z_rp_del (hr : z_rp m L K Y fl fk fy) {p : Nat} (hp : p < m) {a b c : Nat → Int32} (ha : ∀ j, j < m - 1 → a j = a_del p fl j) (hb : ∀ j, j < m - 1 → b j = a_del p fk j) (hc : ∀ j, j < m - 1 → c j = a_del p fy j) : z_rp (m - 1) (a_del p L) (a_del p K) (a_del p Y) a b c := by
  intro i hi
  rw [ha i hi, hb i hi, hc i hi]
  unfold a_del
  by_cases c1 : i < p
  · simp only [if_pos c1]; exact hr i (by omega)
  · simp only [if_neg c1]; exact hr (i + 1) (by omega)
theorem r_remove (hm : m ≤ 60) (hN : 1000000 ≤ N) {p : Nat} (hp : p < m) : Ok (f_Store_remove N fl fk fy (nI m) (nI p)) (fun x => x.2.2.2 = nI (m - 1) ∧ (∀ j, j < m - 1 → x.1 j = a_del p fl j) ∧ (∀ j, j < m - 1 → x.2.1 j = a_del p fk j) ∧ (∀ j, j < m - 1 → x.2.2.1 j = a_del p fy j)) := by
  have S : ∀ n i (a b c : Nat → Int32), p ≤ i → i + 1 ≤ m → m - i < n → z_dl p (i + 1) fl a → z_dl p (i + 1) fk b → z_dl p (i + 1) fy c → Ok (f_Store_remove_L4 (nI m) n (nI (i + 1)) a b c) (fun x => z_dl p m fl x.1 ∧ z_dl p m fk x.2.1 ∧ z_dl p m fy x.2.2) := by
    intro n
    induction n with
    | zero => intro i a b c _ _ h; omega
    | succ n ih =>
      intro i a b c hpi him hn ha hb hc
      rw [f_Store_remove_L4]
      by_cases e : i + 1 = m
      · rw [e] at ha hb hc ⊢
        exact Ok.ite (fun _ => Ok.ret ⟨ha, hb, hc⟩) (fun z => absurd (by rw [nI_leI (by omega) (by omega)]; omega) z)
      · refine Ok.ite (fun z => absurd z (by rw [nI_leI (by omega) (by omega)]; omega)) (fun _ => ?_)
        rw [z_sub1 (by omega), Nat.add_sub_cancel, m_move (by omega) (by omega) (by omega), q_b3_s, z_nm, nI_1]
        exact ih (i + 1) _ _ _ (by omega) (by omega) (by omega) (z_dl_mv1 hpi ha) (z_dl_mv1 hpi hb) (z_dl_mv1 hpi hc)
  unfold f_Store_remove
  rw [z_nm, nI_1]
  refine Ok.b3 (S N p fl fk fy (Nat.le_refl _) (by omega) (by omega) z_dl0 z_dl0 z_dl0) (fun f6 f7 f8 hq => ?_)
  obtain ⟨q1, q2, q3⟩ := hq
  dsimp only at q1 q2 q3
  rw [z_sub1 (by omega), z_nm]
  exact Ok.ret ⟨rfl, z_dl_del q1, z_dl_del q2, z_dl_del q3⟩
theorem r_removes (hm : m ≤ 60) (hN : 1000000 ≤ N) {p : Nat} (hp : p < m) : Ok (f_M_removes N (nI m) fl fk fy (nI p)) (fun x => x.1 = nI (m - 1) ∧ (∀ j, j < m - 1 → x.2.1 j = a_del p fl j) ∧ (∀ j, j < m - 1 → x.2.2.1 j = a_del p fk j) ∧ (∀ j, j < m - 1 → x.2.2.2 j = a_del p fy j)) := by
  have S : ∀ n i (a b c : Nat → Int32), p ≤ i → i + 1 ≤ m → m - i < n → z_dl p (i + 1) fl a → z_dl p (i + 1) fk b → z_dl p (i + 1) fy c → Ok (f_M_removes_L12 (nI (m - 1)) n (nI i) a b c) (fun x => z_dl p m fl x.1 ∧ z_dl p m fk x.2.1 ∧ z_dl p m fy x.2.2) := by
    intro n
    induction n with
    | zero => intro i a b c _ _ h; omega
    | succ n ih =>
      intro i a b c hpi him hn ha hb hc
      rw [f_M_removes_L12]
      by_cases e : i + 1 = m
      · rw [e] at ha hb hc
        exact Ok.ite (fun _ => Ok.ret ⟨ha, hb, hc⟩) (fun z => absurd (by rw [nI_leI (by omega) (by omega)]; omega) z)
      · refine Ok.ite (fun z => absurd z (by rw [nI_leI (by omega) (by omega)]; omega)) (fun _ => ?_)
        rw [nI_1, z_ai (by omega) (by omega), z_ai (by omega) (by omega), z_ai (by omega) (by omega), m_puts (by omega), q_b3_s, z_nm]
        exact ih (i + 1) _ _ _ (by omega) (by omega) (by omega) (z_dl_mv1 hpi ha) (z_dl_mv1 hpi hb) (z_dl_mv1 hpi hc)
  unfold f_M_removes
  rw [z_sub1 (by omega), z_nm]
  refine Ok.b3 (S N p fl fk fy (Nat.le_refl _) (by omega) (by omega) z_dl0 z_dl0 z_dl0) (fun f6 f7 f8 hq => ?_)
  obtain ⟨q1, q2, q3⟩ := hq
  dsimp only at q1 q2 q3
  exact Ok.ret ⟨rfl, z_dl_del q1, z_dl_del q2, z_dl_del q3⟩
/-- what drop does -/
def z_dropR (H V : Nat → Nat) (m : Nat) (L K : Nat → Nat) (Y : Nat → Int32) (p q r : Int32) (m2 : Nat) (L2 K2 : Nat → Nat) (Y2 : Nat → Int32) : Prop :=
  (¬ z_hs H V p q ∧ r = -1 ∧ m2 = m ∧ L2 = L ∧ K2 = K ∧ Y2 = Y) ∨ (∃ l k l2 k2 j, z_hs H V p q ∧ l < 5 ∧ p = nI l ∧ q = nI k ∧ k < 2130 * (H l * V l) + 2 ∧ z_at0 H V l k l2 k2 ∧ z_slot m L K l2 k2 j ∧ ((z_is m L K l2 k2 j ∧ r = Y j ∧ m2 = m - 1 ∧ L2 = a_del j L ∧ K2 = a_del j K ∧ Y2 = a_del j Y) ∨ (¬ z_is m L K l2 k2 j ∧ r = -2 ∧ m2 = m ∧ L2 = L ∧ K2 = K ∧ Y2 = Y)))
theorem z_dropR_pc (h : z_pc H V m L K) {p q r : Int32} {m2 : Nat} {L2 K2 : Nat → Nat} {Y2 : Nat → Int32} (hr : z_dropR H V m L K Y p q r m2 L2 K2 Y2) : z_pc H V m2 L2 K2 := by
  rcases hr with ⟨-, -, rfl, rfl, rfl, -⟩ | ⟨l, k, l2, k2, j, -, -, -, -, -, -, -, ⟨hz, -, rfl, rfl, rfl, -⟩ | ⟨-, -, rfl, rfl, rfl, -⟩⟩
  · exact h
  · exact z_pc_del h hz.1
  · exact h
theorem z_dropR_one (g : CUT R C H V) (h : z_pc H V m L K) {p q r r' : Int32} {m2 m3 : Nat} {L2 K2 L3 K3 : Nat → Nat} {Y2 Y3 : Nat → Int32} (h1 : z_dropR H V m L K Y p q r m2 L2 K2 Y2) (h2 : z_dropR H V m L K Y p q r' m3 L3 K3 Y3) : r = r' ∧ m2 = m3 ∧ L2 = L3 ∧ K2 = K3 ∧ Y2 = Y3 := by
  rcases h1 with ⟨a, b, c, d, e, f⟩ | ⟨l, k, l2, k2, j, a, hl, ep, eq, hk, ha, hs, hp⟩ <;> rcases h2 with ⟨a', b', c', d', e', f'⟩ | ⟨l', k', l2', k2', j', a', hl', ep', eq', hk', ha', hs', hp'⟩
  · exact ⟨b.trans b'.symm, c.trans c'.symm, d.trans d'.symm, e.trans e'.symm, f.trans f'.symm⟩
  · exact absurd a' a
  · exact absurd a a'
  · have hsl := g.sh hl
    have hsl' := g.sh hl'
    have e1 : l = l' := by rw [ep, nI_eq (by omega) (by omega)] at ep'; exact ep'
    subst e1
    have e2 : k = k' := by rw [eq, nI_eq (by omega) (by omega)] at eq'; exact eq'
    subst e2
    obtain ⟨rfl, rfl⟩ := z_at0_one (g.pos l hl).1 ha ha'
    have e3 := z_slot_one h hs hs'
    subst e3
    rcases hp with ⟨a, b, c, d, e, f⟩ | ⟨a, b, c, d, e, f⟩ <;> rcases hp' with ⟨a', b', c', d', e', f'⟩ | ⟨a', b', c', d', e', f'⟩
    · exact ⟨b.trans b'.symm, c.trans c'.symm, d.trans d'.symm, e.trans e'.symm, f.trans f'.symm⟩
    · exact absurd a a'
    · exact absurd a' a
    · exact ⟨b.trans b'.symm, c.trans c'.symm, d.trans d'.symm, e.trans e'.symm, f.trans f'.symm⟩
theorem r_x_drop (g : GOK R C H V rc cc br zc rw sh) (h : z_pc H V m L K) (hr : z_rp m L K Y fl fk fy) (hN : 1000000 ≤ N) (p q : Int32) : Ok (f_X_drop N fl fk fy (nI m) br zc rw sh p q) (fun x => ∃ r m2 L2 K2 Y2, z_dropR H V m L K Y p q r m2 L2 K2 Y2 ∧ x.1 = r ∧ x.2.2.2.2 = nI m2 ∧ z_rp m2 L2 K2 Y2 x.2.1 x.2.2.1 x.2.2.2.1) := by
  have hb : ∀ l, l < 5 → 2130 * (H l * V l) + 2 ≤ 20000000 := fun l hl => g.2.sh hl
  have hm := h.1
  unfold f_X_drop
  refine Ok.b1 (r_hasSheet g p q) (fun v1 h1 => ?_)
  rcases h1 with ⟨z, rfl⟩ | ⟨z, rfl⟩
  rotate_left
  · exact Ok.ite (fun _ => Ok.ret ⟨_, _, _, _, _, Or.inl ⟨z, rfl, rfl, rfl, rfl, rfl⟩, rfl, rfl, hr⟩) (fun c => absurd rfl c)
  refine Ok.ite (fun c => absurd c (by decide)) (fun _ => ?_)
  have z' := z
  obtain ⟨l, k, hl, rfl, rfl, hk⟩ := z'
  obtain ⟨l2, k2, ha, e1, e2⟩ := r_stored g hN hl hk
  obtain ⟨b1, b2⟩ := z_at0_in g.2 hl hk ha
  obtain ⟨j, hj⟩ := z_slot_ex h l2 k2
  have hbl := hb _ b1
  rw [e1, q_b1_s, e2, q_b1_s]
  refine Ok.b1 (r_find h hb hr hN b1 (by omega) hj) (fun v4 h4 => ?_)
  rcases h4 with ⟨z4, rfl⟩ | ⟨z4, rfl⟩
  · have hjm := z4.1
    refine Ok.ite (fun c => absurd c (z_nIm1 (by omega))) (fun _ => Ok.ain (by omega) (by decide) ?_)
    refine Ok.b4 (r_remove hm hN hjm) (fun f6 f7 f8 v9 hq => ?_)
    obtain ⟨q0, q1, q2, q3⟩ := hq
    dsimp only at q0 q1 q2 q3
    exact Ok.ret ⟨_, _, _, _, _, Or.inr ⟨l, k, l2, k2, j, z, hl, rfl, rfl, hk, ha, hj, Or.inl ⟨z4, rfl, rfl, rfl, rfl, rfl⟩⟩, (hr j hjm).2.2, q0, z_rp_del hr hjm q1 q2 q3⟩
  · exact Ok.ite (fun _ => Ok.ret ⟨_, _, _, _, _, Or.inr ⟨l, k, l2, k2, j, z, hl, rfl, rfl, hk, ha, hj, Or.inr ⟨z4, rfl, rfl, rfl, rfl, rfl⟩⟩, rfl, rfl, hr⟩) (fun c => absurd rfl c)
theorem r_m_drop (g : MOK R C H V cr cq dp wd za) (h : z_pc H V m L K) (hr : z_rp m L K Y fl fk fy) (hN : 1000000 ≤ N) (p q : Int32) : Ok (f_M_drop N dp wd za (nI m) fl fk fy p q) (fun x => ∃ r m2 L2 K2 Y2, z_dropR H V m L K Y p q r m2 L2 K2 Y2 ∧ x.1 = r ∧ x.2.1 = nI m2 ∧ z_rp m2 L2 K2 Y2 x.2.2.1 x.2.2.2.1 x.2.2.2.2) := by
  have hb : ∀ l, l < 5 → 2130 * (H l * V l) + 2 ≤ 20000000 := fun l hl => g.2.2.sh hl
  have hm := h.1
  unfold f_M_drop
  refine Ok.b1 (r_isKey g p q) (fun v1 h1 => ?_)
  rcases h1 with ⟨z, rfl⟩ | ⟨z, rfl⟩
  rotate_left
  · exact Ok.ite (fun _ => Ok.ret ⟨_, _, _, _, _, Or.inl ⟨z, rfl, rfl, rfl, rfl, rfl⟩, rfl, rfl, hr⟩) (fun c => absurd rfl c)
  refine Ok.ite (fun c => absurd c (by decide)) (fun _ => ?_)
  have z' := z
  obtain ⟨l, k, hl, rfl, rfl, hk⟩ := z'
  refine r_where g hN hl hk (fun l2 k2 ha => ?_)
  obtain ⟨b1, b2⟩ := z_at0_in g.2.2 hl hk ha
  have hbl := hb _ b1
  obtain ⟨j, hj⟩ := z_slot_ex h l2 k2
  have hjm := hj.1
  refine Ok.b1 (r_slotOf h hb hr hN b1 (by omega) hj) (fun v7 h7 => ?_)
  subst h7
  refine Ok.b1 (r_isPiece h hb hr b1 (by omega) hjm) (fun v8 h8 => ?_)
  rcases h8 with ⟨z8, rfl⟩ | ⟨z8, rfl⟩
  · have hjl : j < m := z8.1
    refine Ok.ite (fun c => absurd c (by decide)) (fun _ => Ok.ain (by omega) (by decide) ?_)
    refine Ok.b4 (r_removes hm hN hjl) (fun v9 f10 f11 f12 hq => ?_)
    obtain ⟨q0, q1, q2, q3⟩ := hq
    dsimp only at q0 q1 q2 q3
    exact Ok.ret ⟨_, _, _, _, _, Or.inr ⟨l, k, l2, k2, j, z, hl, rfl, rfl, hk, ha, hj, Or.inl ⟨z8, rfl, rfl, rfl, rfl, rfl⟩⟩, (hr j hjl).2.2, q0, z_rp_del hr hjl q1 q2 q3⟩
  · exact Ok.ite (fun _ => Ok.ret ⟨_, _, _, _, _, Or.inr ⟨l, k, l2, k2, j, z, hl, rfl, rfl, hk, ha, hj, Or.inr ⟨z8, rfl, rfl, rfl, rfl, rfl⟩⟩, rfl, rfl, hr⟩) (fun c => absurd rfl c)
/-! renew -/
def z_rnC (L : Nat → Nat) (Y : Nat → Int32) (p y : Int32) (i : Nat) : Bool := decide (nI (L i) = p) && decide (Y i < y)
theorem z_rnC_t {p y : Int32} {i : Nat} (a : nI (L i) = p) (b : Y i < y) : z_rnC L Y p y i = true := by
  unfold z_rnC
  rw [decide_eq_true a, decide_eq_true b]; rfl
theorem z_rnC_n {p y : Int32} {i : Nat} (h : z_rnC L Y p y i = true) : nI (L i) = p ∧ Y i < y := by
  unfold z_rnC at h
  rw [Bool.and_eq_true] at h
  exact ⟨of_decide_eq_true h.1, of_decide_eq_true h.2⟩
def z_rnN (L : Nat → Nat) (Y : Nat → Int32) (p y : Int32) : Nat → Nat
  | 0 => 0
  | i + 1 => z_rnN L Y p y i + (if z_rnC L Y p y i = true then 1 else 0)
theorem z_rnN_s {p y : Int32} {i : Nat} : z_rnN L Y p y (i + 1) = z_rnN L Y p y i + (if z_rnC L Y p y i = true then 1 else 0) := rfl
def z_rnY (L : Nat → Nat) (Y : Nat → Int32) (p y : Int32) (i : Nat) : Nat → Int32 := fun j => if j < i ∧ z_rnC L Y p y j = true then y else Y j
theorem z_rnY_at {p y : Int32} {i : Nat} : z_rnY L Y p y i i = Y i := by
  unfold z_rnY
  rw [if_neg (fun z => Nat.lt_irrefl _ z.1)]
theorem z_rnY_y {p y : Int32} {i : Nat} {f : Nat → Int32} (hf : ∀ j, j < m → f j = z_rnY L Y p y i j) (h : z_rnC L Y p y i = true) : ∀ j, j < m → upd f i y j = z_rnY L Y p y (i + 1) j := by
  intro j hj
  by_cases e : j = i
  · subst e
    rw [z_updS]
    unfold z_rnY
    rw [if_pos ⟨Nat.lt_succ_self _, h⟩]
  · rw [z_updN e, hf j hj]
    unfold z_rnY
    by_cases c : j < i ∧ z_rnC L Y p y j = true
    · rw [if_pos c, if_pos ⟨by omega, c.2⟩]
    · rw [if_neg c, if_neg (fun z => c ⟨by omega, z.2⟩)]
theorem z_rnY_n {p y : Int32} {i : Nat} {f : Nat → Int32} (hf : ∀ j, j < m → f j = z_rnY L Y p y i j) (h : ¬ z_rnC L Y p y i = true) : ∀ j, j < m → f j = z_rnY L Y p y (i + 1) j := by
  intro j hj
  rw [hf j hj]
  unfold z_rnY
  by_cases c : j < i ∧ z_rnC L Y p y j = true
  · rw [if_pos c, if_pos ⟨by omega, c.2⟩]
  · rw [if_neg c, if_neg (fun z => ?_)]
    by_cases e : j = i
    · subst e; exact h z.2
    · exact c ⟨by omega, z.2⟩
theorem r_x_renew_L (hm : m ≤ 60) (hr : z_rp m L K Y fl fk fy) (p y : Int32) : ∀ n i (f : Nat → Int32), i ≤ m → m - i < n → (∀ j, j < m → f j = z_rnY L Y p y i j) → Ok (f_X_renew_L27 p y fl (nI m) n (nI (z_rnN L Y p y i)) (nI i) f) (fun x => x.1 = nI (z_rnN L Y p y m) ∧ ∀ j, j < m → x.2 j = z_rnY L Y p y m j) := by
  intro n
  induction n with
  | zero => intro i f _ h; omega
  | succ n ih =>
    intro i f hi hn hf
    rw [f_X_renew_L27]
    by_cases e : i = m
    · subst e
      exact Ok.ite (fun _ => Ok.ret ⟨rfl, hf⟩) (fun z => absurd (by rw [nI_leI (by omega) (by omega)]; omega) z)
    · refine Ok.ite (fun z => absurd z (by rw [nI_leI (by omega) (by omega)]; omega)) (fun _ => ?_)
      have him : i < m := by omega
      obtain ⟨e1, -, e3⟩ := hr i him
      have ei : f i = Y i := by rw [hf i him, z_rnY_at]
      have no : ¬ z_rnC L Y p y i = true → Ok (q_nm (nI i + 1) fun v13 => f_X_renew_L27 p y fl (nI m) n (nI (z_rnN L Y p y i)) v13 f) (fun x => x.1 = nI (z_rnN L Y p y m) ∧ ∀ j, j < m → x.2 j = z_rnY L Y p y m j) := by
        intro h
        rw [z_nm, nI_1]
        have t := ih (i + 1) f (by omega) (by omega) (z_rnY_n hf h)
        rw [z_rnN_s, if_neg h, Nat.add_zero] at t
        exact t
      rw [z_ai (by omega) (by omega), e1]
      refine Ok.j2 (Ok.ite (fun c1 => ?_) (fun c1 => ?_))
      · rw [z_ai (by omega) (by omega), ei]
        refine Ok.ite (fun c2 => ?_) (fun c2 => ?_)
        · exact no (fun z => by have w := (z_rnC_n z).2; rw [z_lt] at w; rw [z_le] at c2; omega)
        · have h : z_rnC L Y p y i = true := z_rnC_t c1 (z_lt.mpr (by have w : ¬ y.toInt ≤ (Y i).toInt := fun z => c2 (z_le.mpr z); omega))
          rw [z_as (by omega) (by omega), z_nm, nI_1]
          (try dsimp only)
          rw [z_nm, nI_1]
          have t := ih (i + 1) (upd f i y) (by omega) (by omega) (z_rnY_y hf h)
          rw [z_rnN_s, if_pos h] at t
          exact t
      · exact no (fun z => c1 (z_rnC_n z).1)
theorem r_m_renew_L (hm : m ≤ 60) (hr : z_rp m L K Y fl fk fy) (p y : Int32) : ∀ n i (f : Nat → Int32), i ≤ m → m - i < n → (∀ j, j < m → f j = z_rnY L Y p y i j) → Ok (f_M_renew_L21 fl (nI m) p y n (nI (z_rnN L Y p y i)) (nI i) f) (fun x => x.1 = nI (z_rnN L Y p y m) ∧ ∀ j, j < m → x.2 j = z_rnY L Y p y m j) := by
  intro n
  induction n with
  | zero => intro i f _ h; omega
  | succ n ih =>
    intro i f hi hn hf
    rw [f_M_renew_L21]
    by_cases e : i = m
    · subst e
      exact Ok.ite (fun _ => Ok.ret ⟨rfl, hf⟩) (fun z => absurd (by rw [nI_leI (by omega) (by omega)]; omega) z)
    · refine Ok.ite (fun z => absurd z (by rw [nI_leI (by omega) (by omega)]; omega)) (fun _ => ?_)
      have him : i < m := by omega
      obtain ⟨e1, -, e3⟩ := hr i him
      have ei : f i = Y i := by rw [hf i him, z_rnY_at]
      have no : ¬ z_rnC L Y p y i = true → Ok (q_nm (nI i + 1) fun v13 => f_M_renew_L21 fl (nI m) p y n (nI (z_rnN L Y p y i)) v13 f) (fun x => x.1 = nI (z_rnN L Y p y m) ∧ ∀ j, j < m → x.2 j = z_rnY L Y p y m j) := by
        intro h
        rw [z_nm, nI_1]
        have t := ih (i + 1) f (by omega) (by omega) (z_rnY_n hf h)
        rw [z_rnN_s, if_neg h, Nat.add_zero] at t
        exact t
      rw [z_ai (by omega) (by omega), e1]
      refine Ok.j2 (Ok.ite (fun c1 => ?_) (fun c1 => ?_))
      · rw [z_ai (by omega) (by omega), ei]
        refine Ok.ite (fun c2 => ?_) (fun c2 => ?_)
        · have h : z_rnC L Y p y i = true := z_rnC_t c1 c2
          rw [z_as (by omega) (by omega), z_nm, nI_1]
          (try dsimp only)
          rw [z_nm, nI_1]
          have t := ih (i + 1) (upd f i y) (by omega) (by omega) (z_rnY_y hf h)
          rw [z_rnN_s, if_pos h] at t
          exact t
        · exact no (fun z => c2 (z_rnC_n z).2)
      · exact no (fun z => c1 (z_rnC_n z).1)
/-- what renew does -/
def z_renewR (m : Nat) (L : Nat → Nat) (Y : Nat → Int32) (p y r : Int32) (Y2 : Nat → Int32) : Prop :=
  (¬ ((0 ≤ p.toInt ∧ p.toInt ≤ 4) ∧ (1800 ≤ y.toInt ∧ y.toInt ≤ 2100)) ∧ r = -1 ∧ Y2 = Y) ∨ (((0 ≤ p.toInt ∧ p.toInt ≤ 4) ∧ (1800 ≤ y.toInt ∧ y.toInt ≤ 2100)) ∧ r = nI (z_rnN L Y p y m) ∧ Y2 = z_rnY L Y p y m)
theorem z_renewR_one {p y r r' : Int32} {Y2 Y3 : Nat → Int32} (h1 : z_renewR m L Y p y r Y2) (h2 : z_renewR m L Y p y r' Y3) : r = r' ∧ Y2 = Y3 := by
  rcases h1 with ⟨a, b, c⟩ | ⟨a, b, c⟩ <;> rcases h2 with ⟨a', b', c'⟩ | ⟨a', b', c'⟩
  · exact ⟨b.trans b'.symm, c.trans c'.symm⟩
  · exact absurd a' a
  · exact absurd a a'
  · exact ⟨b.trans b'.symm, c.trans c'.symm⟩
theorem z_rp_years (hr : z_rp m L K Y fl fk fy) {Y2 : Nat → Int32} {f : Nat → Int32} (h : ∀ j, j < m → f j = Y2 j) : z_rp m L K Y2 fl fk f :=
  fun i hi => ⟨(hr i hi).1, (hr i hi).2.1, h i hi⟩
theorem r_x_renew (hm : m ≤ 60) (hr : z_rp m L K Y fl fk fy) (hN : 1000000 ≤ N) (p y : Int32) : Ok (f_X_renew N fl fy (nI m) p y) (fun x => ∃ r Y2, z_renewR m L Y p y r Y2 ∧ x.1 = r ∧ z_rp m L K Y2 fl fk x.2) := by
  unfold f_X_renew
  refine Ok.b1 (r_isLevel p) (fun v1 h1 => Ok.ite (fun c => ?_) (fun c1 => ?_))
  · exact Ok.ret ⟨_, _, Or.inl ⟨fun w => z_if0 h1 c w.1, rfl, rfl⟩, rfl, hr⟩
  refine Ok.b1 (s_isFrom y _ _) (fun v2 h2 => Ok.ite (fun c => ?_) (fun c2 => ?_))
  all_goals rw [show (1800 : Int32).toInt = 1800 from rfl, show (2100 : Int32).toInt = 2100 from rfl] at h2
  · exact Ok.ret ⟨_, _, Or.inl ⟨fun w => z_if0 h2 c w.2, rfl, rfl⟩, rfl, hr⟩
  · rw [z_nm, z_nm]
    refine Ok.b2 (r_x_renew_L hm hr p y N 0 fy (Nat.zero_le _) (by omega) (fun j hj => ?_)) (fun v8 f9 hq => ?_)
    · rw [(hr j hj).2.2]
      unfold z_rnY
      rw [if_neg (fun z => Nat.not_lt_zero _ z.1)]
    · exact Ok.ret ⟨_, _, Or.inr ⟨⟨z_if1 h1 c1, z_if1 h2 c2⟩, rfl, rfl⟩, hq.1, z_rp_years hr hq.2⟩
theorem r_m_renew (hm : m ≤ 60) (hr : z_rp m L K Y fl fk fy) (hN : 1000000 ≤ N) (p y : Int32) : Ok (f_M_renew N (nI m) fl fy p y) (fun x => ∃ r Y2, z_renewR m L Y p y r Y2 ∧ x.1 = r ∧ z_rp m L K Y2 fl fk x.2) := by
  unfold f_M_renew
  refine Ok.b1 (t_isLevel p) (fun v1 h1 => Ok.ite (fun c => ?_) (fun c1 => ?_))
  · exact Ok.ret ⟨_, _, Or.inl ⟨fun w => z_if0 h1 c w.1, rfl, rfl⟩, rfl, hr⟩
  refine Ok.b1 (r_isYear y) (fun v2 h2 => Ok.ite (fun c => ?_) (fun c2 => ?_))
  · exact Ok.ret ⟨_, _, Or.inl ⟨fun w => z_if0 h2 c w.2, rfl, rfl⟩, rfl, hr⟩
  · rw [z_nm, z_nm]
    refine Ok.b2 (r_m_renew_L hm hr p y N 0 fy (Nat.zero_le _) (by omega) (fun j hj => ?_)) (fun v8 f9 hq => ?_)
    · rw [(hr j hj).2.2]
      unfold z_rnY
      rw [if_neg (fun z => Nat.not_lt_zero _ z.1)]
    · exact Ok.ret ⟨_, _, Or.inr ⟨⟨z_if1 h1 c1, z_if1 h2 c2⟩, rfl, rfl⟩, hq.1, z_rp_years hr hq.2⟩
end R4
end
section
/-! tidy on both sides; cut on both sides -/
section R5
variable {R C H V : Nat → Nat} {rc cc br zc rw sh cr cq dp wd za : Nat → Int32} {N m l : Nat} {L K : Nat → Nat} {Y : Nat → Int32} {fl fk fy : Nat → Int32}
/-- a piece ahead of j whose sheet holds that of j, of its year or a later one -/
def z_ndQ (H V : Nat → Nat) (L K : Nat → Nat) (Y : Nat → Int32) (j i : Nat) : Prop := L i < L j ∧ Y j ≤ Y i ∧ z_upr H V (L j) (L i) (K j) (K i)
def z_need (H V : Nat → Nat) (L K : Nat → Nat) (Y : Nat → Int32) (j : Nat) : Prop := ∃ i, i < j ∧ z_ndQ H V L K Y j i
theorem r_x_needless (g : GOK R C H V rc cc br zc rw sh) (h : z_pc H V m L K) (hr : z_rp m L K Y fl fk fy) (hN : 1000000 ≤ N) {j : Nat} (hj : j < m) : Ok (f_Store_isNeedless N fl fk fy br zc rw sh (nI j)) (fun x => (z_need H V L K Y j ∧ x = 1) ∨ (¬ z_need H V L K Y j ∧ x = 0)) := by
  have hm := h.1
  obtain ⟨d1, d2, d3⟩ := hr j hj
  obtain ⟨c1, c2⟩ := h.2.1 j hj
  have s2 := g.2.sh c1
  have S : ∀ n i, i ≤ j → j - i < n → (∀ i', i' < i → ¬ z_ndQ H V L K Y j i') → Ok (f_Store_isNeedless_L2 N br rw sh zc (nI j) fk fl fy n (nI i)) (fun x => (z_need H V L K Y j ∧ x = .inr 1) ∨ (¬ z_need H V L K Y j ∧ x = .inl ())) := by
    intro n
    induction n with
    | zero => intro i _ h; omega
    | succ n ih =>
      intro i hi hn hQ
      rw [f_Store_isNeedless_L2]
      refine Ok.ite (fun hc => ?_) (fun hc => ?_)
      all_goals rw [nI_leI (by omega) (by omega)] at hc
      · exact Ok.ret (Or.inr ⟨fun z => z.elim (fun i' w => hQ i' (by omega) w.2), rfl⟩)
      · have hij : i < j := by omega
        obtain ⟨e1, e2, e3⟩ := hr i (by omega)
        obtain ⟨b1, b2⟩ := h.2.1 i (by omega)
        have s1 := g.2.sh b1
        have go : ¬ z_ndQ H V L K Y j i → Ok (q_nm (nI i + 1) fun v5 => f_Store_isNeedless_L2 N br rw sh zc (nI j) fk fl fy n v5) (fun x => (z_need H V L K Y j ∧ x = .inr 1) ∨ (¬ z_need H V L K Y j ∧ x = .inl ())) := by
          intro hq
          rw [z_nm, nI_1]
          refine ih (i + 1) (by omega) (by omega) (fun i' hi' => ?_)
          by_cases e : i' = i
          · subst e; exact hq
          · exact hQ i' (by omega)
        rw [z_ai (by omega) (by omega), z_ai (by omega) (by omega), e1, d1]
        refine Ok.j0 (Ok.ite (fun k1 => ?_) (fun k1 => ?_))
        all_goals rw [nI_leI (by omega) (by omega)] at k1
        · exact go (fun z => by have w := z.1; omega)
        · rw [z_ai (by omega) (by omega), z_ai (by omega) (by omega), e3, d3]
          refine Ok.ite (fun k2 => ?_) (fun k2 => ?_)
          · exact go (fun z => by have w := z.2.1; rw [z_le] at w; rw [z_lt] at k2; omega)
          · have hY : Y j ≤ Y i := z_le.mpr (by have w : ¬ (Y i).toInt < (Y j).toInt := fun z => k2 (z_lt.mpr z); omega)
            rw [z_ai (by omega) (by omega), z_ai (by omega) (by omega), z_ai (by omega) (by omega), d1, d2, e1]
            refine Ok.b1 (r_above (N := N) g hN c1 (t := L i) (by omega) c2) (fun v11 h11 => ?_)
            obtain ⟨k3, hu, rfl⟩ := h11
            have hlt := z_upr_lt g.2 c1 (by omega) hu
            rw [z_ai (by omega) (by omega), e2]
            refine Ok.ite (fun k4 => ?_) (fun k4 => ?_)
            all_goals rw [nI_eq (by omega) (by omega)] at k4
            · rw [k4] at hu
              exact Ok.ret (Or.inl ⟨⟨i, hij, by omega, hY, hu⟩, rfl⟩)
            · exact go (fun z => k4 (z_upr_one (g.2.pos _ c1).1 hu z.2.2))
  unfold f_Store_isNeedless
  refine Ok.nm (Ok.s0 (S N 0 (by omega) (by omega) (fun i' hi' => absurd hi' (by omega))) (fun hq => Ok.ret ?_) (fun r hq => ?_))
  · rcases hq with ⟨-, z⟩ | ⟨z, -⟩
    · cases z
    · exact Or.inr ⟨z, rfl⟩
  · rcases hq with ⟨z, e⟩ | ⟨-, e⟩
    · cases e; exact Or.inl ⟨z, rfl⟩
    · cases e
theorem z_ndQ_lt (h : z_pc H V m L K) {i j : Nat} (hi : i < m) (hq : z_ndQ H V L K Y j i) : i < j := by
  rcases Nat.lt_trichotomy i j with c | c | c
  · exact c
  · subst c; exact absurd hq.1 (Nat.lt_irrefl _)
  · have a := h.2.2 j i c hi
    have b := hq.1
    unfold z_less at a
    omega
theorem r_m_needless (g : MOK R C H V cr cq dp wd za) (h : z_pc H V m L K) (hr : z_rp m L K Y fl fk fy) (hN : 1000000 ≤ N) {j : Nat} (hj : j < m) : Ok (f_M_isNeedless N dp wd za (nI m) fl fk fy (nI j)) (fun x => (z_need H V L K Y j ∧ x = 1) ∨ (¬ z_need H V L K Y j ∧ x = 0)) := by
  have hm := h.1
  obtain ⟨d1, d2, d3⟩ := hr j hj
  obtain ⟨c1, c2⟩ := h.2.1 j hj
  have s2 := g.2.2.sh c1
  have S : ∀ n i, i ≤ m → m - i < n → (∀ i', i' < i → ¬ z_ndQ H V L K Y j i') → Ok (f_M_isNeedless_L2 N dp fk fl fy (nI m) wd za (nI j) n (nI i)) (fun x => (z_need H V L K Y j ∧ x = .inr 1) ∨ (¬ z_need H V L K Y j ∧ x = .inl ())) := by
    intro n
    induction n with
    | zero => intro i _ h; omega
    | succ n ih =>
      intro i hi hn hQ
      rw [f_M_isNeedless_L2]
      refine Ok.ite (fun hc => ?_) (fun hc => ?_)
      all_goals rw [nI_leI (by omega) (by omega)] at hc
      · exact Ok.ret (Or.inr ⟨fun z => z.elim (fun i' w => hQ i' (by omega) w.2), rfl⟩)
      · have him : i < m := by omega
        obtain ⟨e1, e2, e3⟩ := hr i (by omega)
        obtain ⟨b1, b2⟩ := h.2.1 i (by omega)
        have s1 := g.2.2.sh b1
        have go : ¬ z_ndQ H V L K Y j i → Ok (q_nm (nI i + 1) fun v5 => f_M_isNeedless_L2 N dp fk fl fy (nI m) wd za (nI j) n v5) (fun x => (z_need H V L K Y j ∧ x = .inr 1) ∨ (¬ z_need H V L K Y j ∧ x = .inl ())) := by
          intro hq
          rw [z_nm, nI_1]
          refine ih (i + 1) (by omega) (by omega) (fun i' hi' => ?_)
          by_cases e : i' = i
          · subst e; exact hq
          · exact hQ i' (by omega)
        rw [z_ai (by omega) (by omega), z_ai (by omega) (by omega), e1, d1]
        refine Ok.j0 (Ok.ite (fun k1 => ?_) (fun k1 => ?_))
        all_goals rw [nI_leI (by omega) (by omega)] at k1
        · exact go (fun z => by have w := z.1; omega)
        · rw [z_ai (by omega) (by omega), z_ai (by omega) (by omega), e3, d3]
          refine Ok.ite (fun k2 => ?_) (fun k2 => ?_)
          · exact go (fun z => by have w := z.2.1; rw [z_le] at w; rw [z_lt] at k2; omega)
          · have hY : Y j ≤ Y i := z_le.mpr (by have w : ¬ (Y i).toInt < (Y j).toInt := fun z => k2 (z_lt.mpr z); omega)
            rw [z_ai (by omega) (by omega), z_ai (by omega) (by omega), z_ai (by omega) (by omega), d1, d2, e1]
            refine Ok.b1 (r_parentOf (N := N) g (by omega) c1 (t := L i) (by omega) c2) (fun v11 h11 => ?_)
            obtain ⟨k3, hu, rfl⟩ := h11
            have hlt := z_upr_lt g.2.2 c1 (by omega) hu
            rw [z_ai (by omega) (by omega), e2]
            refine Ok.ite (fun k4 => ?_) (fun k4 => ?_)
            all_goals rw [nI_eq (by omega) (by omega)] at k4
            · rw [k4] at hu
              exact Ok.ret (Or.inl ⟨⟨i, z_ndQ_lt h him ⟨by omega, hY, hu⟩, by omega, hY, hu⟩, rfl⟩)
            · exact go (fun z => k4 (z_upr_one (g.2.2.pos _ c1).1 hu z.2.2))
  unfold f_M_isNeedless
  refine Ok.nm (Ok.s0 (S N 0 (by omega) (by omega) (fun i' hi' => absurd hi' (by omega))) (fun hq => Ok.ret ?_) (fun r hq => ?_))
  · rcases hq with ⟨-, z⟩ | ⟨z, -⟩
    · cases z
    · exact Or.inr ⟨z, rfl⟩
  · rcases hq with ⟨z, e⟩ | ⟨-, e⟩
    · cases e; exact Or.inl ⟨z, rfl⟩
    · cases e
/-- what tidy does with the pieces ahead of j -/
def z_tdT (H V : Nat → Nat) : Nat → Nat → (Nat → Nat) → (Nat → Nat) → (Nat → Int32) → Nat → Nat → Nat → (Nat → Nat) → (Nat → Nat) → (Nat → Int32) → Prop
  | 0, m, L, K, Y, x, n2, m2, L2, K2, Y2 => n2 = x ∧ m2 = m ∧ L2 = L ∧ K2 = K ∧ Y2 = Y
  | j + 1, m, L, K, Y, x, n2, m2, L2, K2, Y2 => (z_need H V L K Y j ∧ z_tdT H V j (m - 1) (a_del j L) (a_del j K) (a_del j Y) (x + 1) n2 m2 L2 K2 Y2) ∨ (¬ z_need H V L K Y j ∧ z_tdT H V j m L K Y x n2 m2 L2 K2 Y2)
theorem z_tdT_one : ∀ (j m : Nat) (L K : Nat → Nat) (Y : Nat → Int32) (x n2 m2 n3 m3 : Nat) (L2 K2 L3 K3 : Nat → Nat) (Y2 Y3 : Nat → Int32), z_tdT H V j m L K Y x n2 m2 L2 K2 Y2 → z_tdT H V j m L K Y x n3 m3 L3 K3 Y3 → n2 = n3 ∧ m2 = m3 ∧ L2 = L3 ∧ K2 = K3 ∧ Y2 = Y3 := by
  intro j
  induction j with
  | zero =>
    intro m L K Y x n2 m2 n3 m3 L2 K2 L3 K3 Y2 Y3 h1 h2
    obtain ⟨b, c, d, e, f⟩ := h1
    obtain ⟨b', c', d', e', f'⟩ := h2
    exact ⟨b.trans b'.symm, c.trans c'.symm, d.trans d'.symm, e.trans e'.symm, f.trans f'.symm⟩
  | succ j ih =>
    intro m L K Y x n2 m2 n3 m3 L2 K2 L3 K3 Y2 Y3 h1 h2
    rcases h1 with ⟨a, b⟩ | ⟨a, b⟩ <;> rcases h2 with ⟨a', b'⟩ | ⟨a', b'⟩
    · exact ih _ _ _ _ _ _ _ _ _ _ _ _ _ _ _ b b'
    · exact absurd a a'
    · exact absurd a' a
    · exact ih _ _ _ _ _ _ _ _ _ _ _ _ _ _ _ b b'
theorem r_x_tidy_L (g : GOK R C H V rc cc br zc rw sh) (hN : 1000000 ≤ N) : ∀ (n j m : Nat) (L K : Nat → Nat) (Y : Nat → Int32) (fl fk fy : Nat → Int32) (x : Nat), z_pc H V m L K → z_rp m L K Y fl fk fy → j ≤ m → j < n → Ok (f_X_tidy_L12 N br rw sh zc n (nI x) (nI j - 1) fl fk fy (nI m)) (fun y => ∃ n2 m2 L2 K2 Y2, z_tdT H V j m L K Y x n2 m2 L2 K2 Y2 ∧ z_pc H V m2 L2 K2 ∧ y.1 = nI n2 ∧ y.2.2.2.2 = nI m2 ∧ z_rp m2 L2 K2 Y2 y.2.1 y.2.2.1 y.2.2.2.1) := by
  intro n
  induction n with
  | zero => intro j m L K Y fl fk fy x _ _ _ h; omega
  | succ n ih =>
    intro j m L K Y fl fk fy x hp hr hj hn
    have hm := hp.1
    rw [f_X_tidy_L12]
    by_cases h0 : j = 0
    · subst h0
      exact Ok.ite (fun _ => Ok.ret ⟨x, m, L, K, Y, ⟨rfl, rfl, rfl, rfl, rfl⟩, hp, rfl, rfl, hr⟩) (fun h => absurd (by decide) h)
    · obtain ⟨i, rfl⟩ : ∃ i, j = i + 1 := ⟨j - 1, by omega⟩
      rw [z_sub1 (by omega), Nat.add_sub_cancel]
      refine Ok.ite (fun hc => absurd hc (z_lt0 (by omega))) (fun _ => Ok.b1 (r_x_needless g hp hr hN (j := i) (by omega)) (fun v14 h14 => Ok.j5 ?_))
      rcases h14 with ⟨z, rfl⟩ | ⟨z, rfl⟩
      · refine Ok.ite (fun c => absurd c (by decide)) (fun _ => Ok.b4 (r_remove hm hN (p := i) (by omega)) (fun f21 f22 f23 v24 hq => ?_))
        obtain ⟨q0, q1, q2, q3⟩ := hq
        dsimp only at q0 q1 q2 q3
        subst q0
        rw [z_nm, nI_1]
        (try dsimp only)
        rw [z_nm, z_m1]
        refine Ok.weak (ih i (m - 1) _ _ _ f21 f22 f23 (x + 1) (z_pc_del hp (by omega)) (z_rp_del hr (by omega) q1 q2 q3) (by omega) (by omega)) (fun y hy => ?_)
        obtain ⟨n2, m2, L2, K2, Y2, t, w⟩ := hy
        exact ⟨n2, m2, L2, K2, Y2, Or.inl ⟨z, t⟩, w⟩
      · refine Ok.ite (fun _ => ?_) (fun c => absurd rfl c)
        (try dsimp only)
        rw [z_nm, z_m1]
        refine Ok.weak (ih i m L K Y fl fk fy x hp hr (by omega) (by omega)) (fun y hy => ?_)
        obtain ⟨n2, m2, L2, K2, Y2, t, w⟩ := hy
        exact ⟨n2, m2, L2, K2, Y2, Or.inr ⟨z, t⟩, w⟩
theorem r_m_tidy_L (g : MOK R C H V cr cq dp wd za) (hN : 1000000 ≤ N) : ∀ (n j m : Nat) (L K : Nat → Nat) (Y : Nat → Int32) (fl fk fy : Nat → Int32) (x : Nat), z_pc H V m L K → z_rp m L K Y fl fk fy → j ≤ m → j < n → Ok (f_M_tidy_L9 N dp wd za n (nI x) (nI j - 1) (nI m) fl fk fy) (fun y => ∃ n2 m2 L2 K2 Y2, z_tdT H V j m L K Y x n2 m2 L2 K2 Y2 ∧ z_pc H V m2 L2 K2 ∧ y.1 = nI n2 ∧ y.2.1 = nI m2 ∧ z_rp m2 L2 K2 Y2 y.2.2.1 y.2.2.2.1 y.2.2.2.2) := by
  intro n
  induction n with
  | zero => intro j m L K Y fl fk fy x _ _ _ h; omega
  | succ n ih =>
    intro j m L K Y fl fk fy x hp hr hj hn
    have hm := hp.1
    rw [f_M_tidy_L9]
    by_cases h0 : j = 0
    · subst h0
      exact Ok.ite (fun _ => Ok.ret ⟨x, m, L, K, Y, ⟨rfl, rfl, rfl, rfl, rfl⟩, hp, rfl, rfl, hr⟩) (fun h => absurd (by decide) h)
    · obtain ⟨i, rfl⟩ : ∃ i, j = i + 1 := ⟨j - 1, by omega⟩
      rw [z_sub1 (by omega), Nat.add_sub_cancel]
      refine Ok.ite (fun hc => absurd hc (z_lt0 (by omega))) (fun _ => Ok.b1 (r_m_needless g hp hr hN (j := i) (by omega)) (fun v14 h14 => Ok.j5 ?_))
      rcases h14 with ⟨z, rfl⟩ | ⟨z, rfl⟩
      · refine Ok.ite (fun c => absurd c (by decide)) (fun _ => Ok.b4 (r_removes hm hN (p := i) (by omega)) (fun v21 f22 f23 f24 hq => ?_))
        obtain ⟨q0, q1, q2, q3⟩ := hq
        dsimp only at q0 q1 q2 q3
        subst q0
        rw [z_nm, nI_1]
        (try dsimp only)
        rw [z_nm, z_m1]
        refine Ok.weak (ih i (m - 1) _ _ _ f22 f23 f24 (x + 1) (z_pc_del hp (by omega)) (z_rp_del hr (by omega) q1 q2 q3) (by omega) (by omega)) (fun y hy => ?_)
        obtain ⟨n2, m2, L2, K2, Y2, t, w⟩ := hy
        exact ⟨n2, m2, L2, K2, Y2, Or.inl ⟨z, t⟩, w⟩
      · refine Ok.ite (fun _ => ?_) (fun c => absurd rfl c)
        (try dsimp only)
        rw [z_nm, z_m1]
        refine Ok.weak (ih i m L K Y fl fk fy x hp hr (by omega) (by omega)) (fun y hy => ?_)
        obtain ⟨n2, m2, L2, K2, Y2, t, w⟩ := hy
        exact ⟨n2, m2, L2, K2, Y2, Or.inr ⟨z, t⟩, w⟩
theorem r_x_tidy (g : GOK R C H V rc cc br zc rw sh) (h : z_pc H V m L K) (hr : z_rp m L K Y fl fk fy) (hN : 1000000 ≤ N) : Ok (f_X_tidy N fl fk fy (nI m) br zc rw sh) (fun y => ∃ n2 m2 L2 K2 Y2, z_tdT H V m m L K Y 0 n2 m2 L2 K2 Y2 ∧ z_pc H V m2 L2 K2 ∧ y.1 = nI n2 ∧ y.2.2.2.2 = nI m2 ∧ z_rp m2 L2 K2 Y2 y.2.1 y.2.2.1 y.2.2.2.1) := by
  have hm := h.1
  unfold f_X_tidy
  exact Ok.nm (Ok.nm (Ok.b5 (r_x_tidy_L g hN N m m L K Y fl fk fy 0 h hr (Nat.le_refl _) (by omega)) (fun _ _ _ _ _ hq => Ok.ret hq)))
theorem r_m_tidy (g : MOK R C H V cr cq dp wd za) (h : z_pc H V m L K) (hr : z_rp m L K Y fl fk fy) (hN : 1000000 ≤ N) : Ok (f_M_tidy N dp wd za (nI m) fl fk fy) (fun y => ∃ n2 m2 L2 K2 Y2, z_tdT H V m m L K Y 0 n2 m2 L2 K2 Y2 ∧ z_pc H V m2 L2 K2 ∧ y.1 = nI n2 ∧ y.2.1 = nI m2 ∧ z_rp m2 L2 K2 Y2 y.2.2.1 y.2.2.2.1 y.2.2.2.2) := by
  have hm := h.1
  unfold f_M_tidy
  exact Ok.nm (Ok.nm (Ok.b5 (r_m_tidy_L g hN N m m L K Y fl fk fy 0 h hr (Nat.le_refl _) (by omega)) (fun _ _ _ _ _ hq => Ok.ret hq)))
/-! cut -/
theorem z_cmpgt2 {a b : Nat} (ha : a < 2 ^ 63) (hb : b < 2 ^ 63) (h : ¬ lg_cmp (lN a) (lN b) ≤ 0) : b < a := by
  rcases Nat.lt_or_ge b a with c | c
  · exact c
  · exfalso
    apply h
    have e1 : (lN a).toInt = (a : Int) := by
      show (Int64.ofNat a).toInt = _
      exact Int64.toInt_ofNat_of_lt ha
    have e2 : (lN b).toInt = (b : Int) := by
      show (Int64.ofNat b).toInt = _
      exact Int64.toInt_ofNat_of_lt hb
    have h1 : ¬ lN a > lN b := fun z => by have w := Int64.lt_iff_toInt_lt.mp z; omega
    unfold lg_cmp
    rw [if_neg h1]
    split <;> decide
def z_cutV (p q w : Int32) : Prop := (1 ≤ p.toInt ∧ p.toInt ≤ 4) ∧ (1 ≤ q.toInt ∧ q.toInt ≤ 6) ∧ (1 ≤ w.toInt ∧ w.toInt ≤ 6)
/-- what cut does -/
def z_cutR (R C : Nat → Nat) (m : Nat) (p q w r : Int32) (R2 C2 : Nat → Nat) : Prop :=
  (¬ z_cutV p q w ∧ r = -1 ∧ R2 = R ∧ C2 = C) ∨ (z_cutV p q w ∧ 0 < m ∧ r = -2 ∧ R2 = R ∧ C2 = C) ∨ (∃ v y z, z_cutV p q w ∧ m = 0 ∧ p = nI v ∧ q = nI y ∧ w = nI z ∧ v < 2 ^ 31 ∧ y < 2 ^ 31 ∧ z < 2 ^ 31 ∧ ((20000000 < 2130 * (z_pr (z_up1 R v y) 4 * z_pr (z_up1 C v z) 4) + 2 ∧ r = -3 ∧ R2 = R ∧ C2 = C) ∨ (¬ 20000000 < 2130 * (z_pr (z_up1 R v y) 4 * z_pr (z_up1 C v z) 4) + 2 ∧ r = nI (2130 * (z_pr (z_up1 R v y) v * z_pr (z_up1 C v z) v) + 2) ∧ R2 = z_up1 R v y ∧ C2 = z_up1 C v z)))
theorem z_cutR_one {p q w r r' : Int32} {R2 C2 R3 C3 : Nat → Nat} (h1 : z_cutR R C m p q w r R2 C2) (h2 : z_cutR R C m p q w r' R3 C3) : r = r' ∧ R2 = R3 ∧ C2 = C3 := by
  rcases h1 with ⟨a, b, c, d⟩ | ⟨a, a0, b, c, d⟩ | ⟨v, y, z, a, a0, e1, e2, e3, l1, l2, l3, hh⟩ <;> rcases h2 with ⟨a', b', c', d'⟩ | ⟨a', a0', b', c', d'⟩ | ⟨v', y', z', a', a0', e1', e2', e3', l1', l2', l3', hh'⟩
  · exact ⟨b.trans b'.symm, c.trans c'.symm, d.trans d'.symm⟩
  · exact absurd a' a
  · exact absurd a' a
  · exact absurd a a'
  · exact ⟨b.trans b'.symm, c.trans c'.symm, d.trans d'.symm⟩
  · omega
  · exact absurd a a'
  · omega
  · have g1 : v = v' := by rw [e1, nI_eq l1 l1'] at e1'; exact e1'
    have g2 : y = y' := by rw [e2, nI_eq l2 l2'] at e2'; exact e2'
    have g3 : z = z' := by rw [e3, nI_eq l3 l3'] at e3'; exact e3'
    subst g1 g2 g3
    rcases hh with ⟨a, b, c, d⟩ | ⟨a, b, c, d⟩ <;> rcases hh' with ⟨a', b', c', d'⟩ | ⟨a', b', c', d'⟩
    · exact ⟨b.trans b'.symm, c.trans c'.symm, d.trans d'.symm⟩
    · exact absurd a a'
    · exact absurd a' a
    · exact ⟨b.trans b'.symm, c.trans c'.symm, d.trans d'.symm⟩
theorem z_up1_ok (hkg : z_kg R C rc cc) {v y w : Nat} (v1 : 1 ≤ v) (v4 : v ≤ 4) (y1 : 1 ≤ y) (y6 : y ≤ 6) (w1 : 1 ≤ w) (w6 : w ≤ 6) : z_up1 R v y 0 = 1 ∧ z_up1 C v w 0 = 1 ∧ (∀ l, l < 5 → 1 ≤ z_up1 R v y l ∧ z_up1 R v y l ≤ 6 ∧ 1 ≤ z_up1 C v w l ∧ z_up1 C v w l ≤ 6) ∧ (∀ l, l < 5 → upd rc v (nI y) l = nI (z_up1 R v y l) ∧ upd cc v (nI w) l = nI (z_up1 C v w l)) ∧ 2130 * (z_pr (z_up1 R v y) 4 * z_pr (z_up1 C v w) 4) + 2 < 2 ^ 62 := by
  obtain ⟨k1, k2, k3, k4, -⟩ := hkg
  have hR1 : ∀ l, l < 5 → 1 ≤ z_up1 R v y l ∧ z_up1 R v y l ≤ 6 ∧ 1 ≤ z_up1 C v w l ∧ z_up1 C v w l ≤ 6 := by
    intro l hl
    have := k3 l hl
    unfold z_up1
    split <;> omega
  have hR0 : z_up1 R v y 0 = 1 := by unfold z_up1; rw [if_neg (by omega)]; exact k1
  have hC0 : z_up1 C v w 0 = 1 := by unfold z_up1; rw [if_neg (by omega)]; exact k2
  have b1 := (z_pr_b hR0 (fun l hl => ⟨(hR1 l hl).1, (hR1 l hl).2.1⟩) 4 (by omega)).2
  have b2 := (z_pr_b hC0 (fun l hl => ⟨(hR1 l hl).2.2.1, (hR1 l hl).2.2.2⟩) 4 (by omega)).2
  have b3 := Nat.mul_le_mul b1 b2
  refine ⟨hR0, hC0, hR1, fun l hl => ?_, by omega⟩
  unfold z_up1
  by_cases e : l = v
  · subst e; rw [z_updS, z_updS, if_pos rfl, if_pos rfl]; exact ⟨rfl, rfl⟩
  · rw [z_updN e, z_updN e, if_neg e, if_neg e]; exact k4 l hl
theorem r_x_cut (g : GOK R C (z_pr R) (z_pr C) rc cc br zc rw sh) (hN : 1000000 ≤ N) (hm : m ≤ 60) (p q w : Int32) : Ok (f_X_cut N (nI m) rc cc br zc rw sh p q w) (fun x => ∃ r R2 C2, z_cutR R C m p q w r R2 C2 ∧ x.1 = r ∧ GOK R2 C2 (z_pr R2) (z_pr C2) x.2.1 x.2.2.1 x.2.2.2.1 x.2.2.2.2.1 x.2.2.2.2.2.1 x.2.2.2.2.2.2) := by
  have no : ¬ z_cutV p q w → Ok (some (-1, rc, cc, br, zc, rw, sh)) (fun x => ∃ r R2 C2, z_cutR R C m p q w r R2 C2 ∧ x.1 = r ∧ GOK R2 C2 (z_pr R2) (z_pr C2) x.2.1 x.2.2.1 x.2.2.2.1 x.2.2.2.2.1 x.2.2.2.2.2.1 x.2.2.2.2.2.2) := fun hv => Ok.ret ⟨_, _, _, Or.inl ⟨hv, rfl, rfl, rfl⟩, rfl, g⟩
  unfold f_X_cut
  have t1 : (1 : Int32).toInt = 1 := rfl
  have t4 : (4 : Int32).toInt = 4 := rfl
  have t6 : (6 : Int32).toInt = 6 := rfl
  refine Ok.ite (fun c => no (fun z => ?_)) (fun hp1 => Ok.ite (fun c => no (fun z => ?_)) (fun hp4 => Ok.b1 (s_isFrom q _ _) (fun v1 h1 => Ok.ite (fun c => no (fun z => ?_)) (fun n1 => Ok.b1 (s_isFrom w _ _) (fun v2 h2 => Ok.ite (fun c => no (fun z => ?_)) (fun n2 => ?_))))))
  · rw [z_lt, t1] at c; have := z.1; omega
  · rw [z_lt, t4] at c; have := z.1; omega
  · rw [t1, t6] at h1; exact z_if0 h1 c z.2.1
  · rw [t1, t6] at h2; exact z_if0 h2 c z.2.2
  have a1 : ¬ p.toInt < (1 : Int32).toInt := fun z => hp1 (z_lt.mpr z)
  have a4 : ¬ (4 : Int32).toInt < p.toInt := fun z => hp4 (z_lt.mpr z)
  have aq := z_if1 h1 n1
  have ar := z_if1 h2 n2
  rw [t1] at a1 aq ar
  rw [t4] at a4
  rw [t6] at aq ar
  have hV : z_cutV p q w := ⟨by omega, aq, ar⟩
  obtain ⟨v, l1, rfl, j3⟩ := z_nat (r := p) (by omega)
  obtain ⟨y, l2, rfl, y3⟩ := z_nat (r := q) (by omega)
  obtain ⟨w, l3, rfl, w3⟩ := z_nat (r := w) (by omega)
  refine Ok.ite (fun hc => ?_) (fun hc => ?_)
  all_goals rw [z_le0 (by omega)] at hc
  rotate_left
  · exact Ok.ret ⟨_, _, _, Or.inr (Or.inl ⟨hV, by omega, rfl, rfl, rfl⟩), rfl, g⟩
  have hkg := g.kg
  obtain ⟨hR0, hC0, hR1, hcc, hbd⟩ := z_up1_ok hkg (show 1 ≤ v by omega) (show v ≤ 4 by omega) (show 1 ≤ y by omega) (show y ≤ 6 by omega) (show 1 ≤ w by omega) (show w ≤ 6 by omega)
  rw [k_deepest hkg (by omega) (show 1 ≤ v by omega) (by omega) (show y ≤ 6 by omega) (show w ≤ 6 by omega), q_b1_s]
  refine Ok.ite (fun hle => ?_) (fun hgt => ?_)
  rotate_left
  · have hbig := z_cmpgt2 (b := 20000000) (by omega) (by omega) hgt
    exact Ok.ret ⟨_, _, _, Or.inr (Or.inr ⟨v, y, w, hV, hc, rfl, rfl, rfl, l1, l2, l3, Or.inl ⟨hbig, rfl, rfl, rfl⟩⟩), rfl, g⟩
  have hbig := z_cmple (b := 20000000) (by omega) (by omega) hle
  have hk2 : z_kg (z_up1 R v y) (z_up1 C v w) (upd rc v (nI y)) (upd cc v (nI w)) := ⟨hR0, hC0, hR1, hcc, hbig⟩
  refine Ok.b6 (Q := fun x => GOK (z_up1 R v y) (z_up1 C v w) (z_pr (z_up1 R v y)) (z_pr (z_up1 C v w)) x.1 x.2.1 x.2.2.1 x.2.2.2.1 x.2.2.2.2.1 x.2.2.2.2.2) ?_ (fun f4 f5 f6 f7 f8 f9 h => Ok.ain (by omega) (by decide) (Ok.ret ⟨_, _, _, Or.inr (Or.inr ⟨v, y, w, hV, hc, rfl, rfl, rfl, l1, l2, l3, Or.inr ⟨by omega, rfl, rfl, rfl⟩⟩), ?_, h⟩))
  · unfold f_Grid_setCuts
    refine Ok.asn (by omega) (by decide) (Ok.asn (by omega) (by decide) ?_)
    exact Ok.b4 (s_multiply hk2 (by omega) br zc rw sh) (fun a b c d h => Ok.ret h)
  · exact (GOK.at h (by omega)).2.2.2.2.2
theorem r_m_cut (g : MOK R C (z_pr R) (z_pr C) cr cq dp wd za) (hN : 1000000 ≤ N) (hm : m ≤ 60) (p q w : Int32) : Ok (f_M_cut N cr cq dp wd za (nI m) p q w) (fun x => ∃ r R2 C2, z_cutR R C m p q w r R2 C2 ∧ x.1 = r ∧ MOK R2 C2 (z_pr R2) (z_pr C2) x.2.1 x.2.2.1 x.2.2.2.1 x.2.2.2.2 za) := by
  have no : ¬ z_cutV p q w → Ok (some (-1, cr, cq, dp, wd)) (fun x => ∃ r R2 C2, z_cutR R C m p q w r R2 C2 ∧ x.1 = r ∧ MOK R2 C2 (z_pr R2) (z_pr C2) x.2.1 x.2.2.1 x.2.2.2.1 x.2.2.2.2 za) := fun hv => Ok.ret ⟨_, _, _, Or.inl ⟨hv, rfl, rfl, rfl⟩, rfl, g⟩
  have t1 : (1 : Int64).toInt = 1 := rfl
  have t4 : (4 : Int64).toInt = 4 := rfl
  have t6 : (6 : Int64).toInt = 6 := rfl
  unfold f_M_cut
  refine Ok.b1 (t_in _ _ _) (fun v1 h1 => ?_)
  rw [t1, t4, z_toL] at h1
  refine Ok.ite (fun c => no (fun z => z_if0 h1 c z.1)) (fun n1 => Ok.b1 (t_in _ _ _) (fun v2 h2 => ?_))
  rw [t1, t6, z_toL] at h2
  refine Ok.ite (fun c => no (fun z => z_if0 h2 c z.2.1)) (fun n2 => Ok.b1 (t_in _ _ _) (fun v3 h3 => ?_))
  rw [t1, t6, z_toL] at h3
  refine Ok.ite (fun c => no (fun z => z_if0 h3 c z.2.2)) (fun n3 => ?_)
  have ap := z_if1 h1 n1
  have aq := z_if1 h2 n2
  have ar := z_if1 h3 n3
  have hV : z_cutV p q w := ⟨ap, aq, ar⟩
  obtain ⟨v, l1, rfl, j3⟩ := z_nat (r := p) (by omega)
  obtain ⟨y, l2, rfl, y3⟩ := z_nat (r := q) (by omega)
  obtain ⟨w, l3, rfl, w3⟩ := z_nat (r := w) (by omega)
  refine Ok.ite (fun hc => ?_) (fun hc => ?_)
  all_goals rw [z_le0 (by omega)] at hc
  rotate_left
  · exact Ok.ret ⟨_, _, _, Or.inr (Or.inl ⟨hV, by omega, rfl, rfl, rfl⟩), rfl, g⟩
  have hkg := g.kg
  obtain ⟨hR0, hC0, hR1, hcc, hbd⟩ := z_up1_ok hkg (show 1 ≤ v by omega) (show v ≤ 4 by omega) (show 1 ≤ y by omega) (show y ≤ 6 by omega) (show 1 ≤ w by omega) (show w ≤ 6 by omega)
  have e0 : lN 2130 = lN (2130 * (z_pr (z_up1 R v y) 0 * z_pr (z_up1 C v w) 0)) := by
    unfold z_pr
    rw [hR0, hC0]
  rw [z_i 44, z_ai (by omega) (by omega), g.2.1 44 (by omega), z_za_44, nI_l (by omega), z_nm, z_nm, z_i 1, e0, m_cut_L61 hkg (show 1 ≤ v by omega) (show v ≤ 4 by omega) (show y ≤ 6 by omega) (show w ≤ 6 by omega) N 0 (by omega) (by omega), q_b1_s, z_l 2, lN_add]
  refine Ok.ite (fun hle => ?_) (fun hgt => ?_)
  rotate_left
  · have hbig := z_cmpgt2 (b := 20000000) (by omega) (by omega) hgt
    exact Ok.ret ⟨_, _, _, Or.inr (Or.inr ⟨v, y, w, hV, hc, rfl, rfl, rfl, l1, l2, l3, Or.inl ⟨hbig, rfl, rfl, rfl⟩⟩), rfl, g⟩
  have hbig := z_cmple (b := 20000000) (by omega) (by omega) hle
  have hk2 : z_kg (z_up1 R v y) (z_up1 C v w) (upd cr v (nI y)) (upd cq v (nI w)) := ⟨hR0, hC0, hR1, hcc, hbig⟩
  refine Ok.asn (by omega) (by decide) (Ok.asn (by omega) (by decide) (Ok.b2 (t_laysGrids hk2 hN dp wd) (fun f12 f13 h12 => ?_)))
  have gm := z_mok hk2 g.2.1 h12
  exact Ok.b1 (t_sheets gm (by omega)) (fun _ h14 => Ok.ret ⟨_, _, _, Or.inr (Or.inr ⟨v, y, w, hV, hc, rfl, rfl, rfl, l1, l2, l3, Or.inr ⟨by omega, rfl, rfl, rfl⟩⟩), h14, gm⟩)
end R5
end
section
/-! kept states on both sides -/
section R6
variable {R C H V : Nat → Nat} {rc cc br zc rw sh cr cq dp wd za : Nat → Int32} {N m l s : Nat} {L K : Nat → Nat} {Y : Nat → Int32} {fl fk fy pl pk py : Nat → Int32}
theorem r_acopy {R2 C2 : Nat → Nat} {rc2 cc2 : Nat → Int32} (h : z_kg R2 C2 rc2 cc2) (hN : 100000 ≤ N) (hm : m ≤ 60) (hr : z_rp m L K Y fl fk fy) (a1 a2 a3 a4 : Int32) (sl sk sy : Nat → Int32) (ss : Int32) (rc cc br zc rw sh : Nat → Int32) (b1 b2 b3 b4 : Int32) : Ok (f_Atlas_copyFrom N a1 a2 a3 a4 sl sk sy ss rc cc br zc rw sh b1 b2 b3 b4 fl fk fy (nI m) rc2 cc2) (fun x => x.2.2.2.2.2.2.2.1 = nI m ∧ z_rp m L K Y x.2.2.2.2.1 x.2.2.2.2.2.1 x.2.2.2.2.2.2.1 ∧ GOK R2 C2 (z_pr R2) (z_pr C2) x.2.2.2.2.2.2.2.2.1 x.2.2.2.2.2.2.2.2.2.1 x.2.2.2.2.2.2.2.2.2.2.1 x.2.2.2.2.2.2.2.2.2.2.2.1 x.2.2.2.2.2.2.2.2.2.2.2.2.1 x.2.2.2.2.2.2.2.2.2.2.2.2.2) := by
  unfold f_Atlas_copyFrom f_Store_copyFrom
  refine Ok.b6 (s_gcopy h hN rc cc br zc rw sh) (fun f1 f2 f3 f4 f5 f6 hg => ?_)
  rw [z_nm, z_nm, z_nm, q_b4_s]
  refine Ok.ret ⟨rfl, fun j hj => ?_, hg⟩
  dsimp only
  rw [z_cpy (by omega), z_cpy (by omega), z_cpy (by omega)]
  exact hr j hj
theorem r_x_keep (g : GOK R C H V rc cc br zc rw sh) (hN : 100000 ≤ N) {k : Nat} (hk : k < 8) (hm : m ≤ 60) (hr : z_rp m L K Y fl fk fy) (a1 a2 a3 a4 : Int32) (c1 c2 c3 c4 : Int32) (sl2 sk2 sy2 : Nat → Int32) (ss2 : Int32) (rc2 cc2 br2 zc2 rw2 sh2 : Nat → Int32) : Ok (f_X_keep N k (nI k) a1 a2 a3 a4 fl fk fy (nI m) rc cc c1 c2 c3 c4 sl2 sk2 sy2 ss2 rc2 cc2 br2 zc2 rw2 sh2) (fun x => x.1 = nI (k + 1) ∧ x.2.1 = nI (k + 1) ∧ x.2.2.2.2.2.2.2.2.2.1 = nI m ∧ z_rp m L K Y x.2.2.2.2.2.2.1 x.2.2.2.2.2.2.2.1 x.2.2.2.2.2.2.2.2.1 ∧ z_kg R C x.2.2.2.2.2.2.2.2.2.2.1 x.2.2.2.2.2.2.2.2.2.2.2.1) := by
  unfold f_X_keep
  refine Ok.ite (fun _ => ?_) (fun h => absurd (by rw [z_i 8, nI_ltI (by omega) (by omega)]; exact hk) h)
  unfold q_kx
  rw [if_pos ⟨rfl, hk⟩]
  refine Ok.b14 (r_acopy g.kg hN hm hr _ _ _ _ sl2 sk2 sy2 ss2 rc2 cc2 br2 zc2 rw2 sh2 _ _ _ _) (fun v1 v2 v3 v4 f5 f6 f7 v8 f9 f10 f11 f12 f13 f14 h => Ok.nm (Ok.ret ?_))
  exact ⟨nI_1 k, nI_1 k, h.1, h.2.1, h.2.2.kg⟩
theorem r_x_undo {R2 C2 : Nat → Nat} {rc2 cc2 : Nat → Int32} (h : z_kg R2 C2 rc2 cc2) (hN : 100000 ≤ N) {k : Nat} (hk : k < 8) (hm : m ≤ 60) (hr : z_rp m L K Y fl fk fy) (a1 a2 a3 a4 : Int32) (sl sk sy : Nat → Int32) (ss : Int32) (c1 c2 c3 c4 : Int32) : Ok (f_X_undo N k (nI (k + 1)) a1 a2 a3 a4 sl sk sy ss rc cc br zc rw sh c1 c2 c3 c4 fl fk fy (nI m) rc2 cc2) (fun x => x.1 = nI k ∧ x.2.1 = nI k ∧ x.2.2.2.2.2.2.2.2.2.1 = nI m ∧ z_rp m L K Y x.2.2.2.2.2.2.1 x.2.2.2.2.2.2.2.1 x.2.2.2.2.2.2.2.2.1 ∧ GOK R2 C2 (z_pr R2) (z_pr C2) x.2.2.2.2.2.2.2.2.2.2.1 x.2.2.2.2.2.2.2.2.2.2.2.1 x.2.2.2.2.2.2.2.2.2.2.2.2.1 x.2.2.2.2.2.2.2.2.2.2.2.2.2.1 x.2.2.2.2.2.2.2.2.2.2.2.2.2.2.1 x.2.2.2.2.2.2.2.2.2.2.2.2.2.2.2) := by
  unfold f_X_undo
  refine Ok.ite (fun _ => ?_) (fun h => absurd (by rw [z_0lt (by omega)]; omega) h)
  rw [z_nm, z_sub1 (by omega), Nat.add_sub_cancel]
  unfold q_kx
  rw [if_pos ⟨rfl, hk⟩]
  refine Ok.b14 (r_acopy h hN hm hr _ _ _ _ sl sk sy ss rc cc br zc rw sh _ _ _ _) (fun v1 v2 v3 v4 f5 f6 f7 v8 f9 f10 f11 f12 f13 f14 h => Ok.ret ?_)
  exact ⟨rfl, rfl, h.1, h.2.1, h.2.2⟩
/-- a kept state of the reference -/
def z_mkT (R C : Nat → Nat) (m : Nat) (L K : Nat → Nat) (Y : Nat → Int32) (kp : Nat → Int32) (s : Nat) : Prop := z_kg R C (fun l => kp (194 * s + 2 * l)) (fun l => kp (194 * s + 2 * l + 1)) ∧ kp (194 * s + 10) = nI m ∧ z_rp m L K Y (fun i => kp (194 * s + 14 + 3 * i)) (fun i => kp (194 * s + 14 + 3 * i + 1)) (fun i => kp (194 * s + 14 + 3 * i + 2))
theorem z_mkT_same (hm : m ≤ 60) {kp kp2 : Nat → Int32} (h : z_mkT R C m L K Y kp s) (e : ∀ x, x < 194 * (s + 1) → kp2 x = kp x) : z_mkT R C m L K Y kp2 s := by
  obtain ⟨h1, h2, h3⟩ := h
  refine ⟨z_kg_same h1 (fun l hl => ⟨e _ (by omega), e _ (by omega)⟩), by rw [e _ (by omega)]; exact h2, fun i hi => ?_⟩
  dsimp only
  rw [e _ (by omega), e _ (by omega), e _ (by omega)]
  exact h3 i hi
theorem r_keep_L90 {B : Nat} (hB : B + 194 ≤ 1552) (kp : Nat → Int32) : ∀ n i (f : Nat → Int32), i ≤ 60 → 60 - i < n → (∀ x, x < B + 14 → f x = kp x) → (∀ l, l < i → f (B + 14 + 3 * l) = pl l ∧ f (B + 14 + 3 * l + 1) = pk l ∧ f (B + 14 + 3 * l + 2) = py l) → Ok (f_M_keep_L90 pk pl py n (nI i) f (nI (B + 14 + 3 * i))) (fun y => (∀ x, x < B + 14 → y.1 x = kp x) ∧ ∀ l, l < 60 → y.1 (B + 14 + 3 * l) = pl l ∧ y.1 (B + 14 + 3 * l + 1) = pk l ∧ y.1 (B + 14 + 3 * l + 2) = py l) := by
  intro n
  induction n with
  | zero => intro i f _ h; omega
  | succ n ih =>
    intro i f hi hn h1 h2
    rw [f_M_keep_L90]
    refine Ok.ite (fun hc => ?_) (fun hc => ?_)
    all_goals rw [z_i 60, nI_leI (by omega) (by omega)] at hc
    · have : i = 60 := by omega
      subst this
      exact Ok.ret ⟨h1, h2⟩
    · rw [z_ai (by omega) (by omega), m_keeps (by omega), q_b2_s, z_ai (by omega) (by omega), m_keeps (by omega), q_b2_s, z_ai (by omega) (by omega), m_keeps (by omega), q_b2_s, z_nm, nI_1]
      refine ih (i + 1) _ (by omega) (by omega) (fun x hx => ?_) (fun l hl => ?_)
      · rw [z_updN (by omega), z_updN (by omega), z_updN (by omega)]; exact h1 x hx
      · by_cases e : l = i
        · subst e
          exact ⟨by rw [z_updN (by omega), z_updN (by omega), z_updS], by rw [z_updN (by omega), z_updS], by rw [z_updS]⟩
        · rw [z_updN (by omega), z_updN (by omega), z_updN (by omega), z_updN (by omega), z_updN (by omega), z_updN (by omega), z_updN (by omega), z_updN (by omega), z_updN (by omega)]
          exact h2 l (by omega)
theorem r_m_keep (g : MOK R C H V cr cq dp wd za) (hN : 1000000 ≤ N) (hm : m ≤ 60) (hr : z_rp m L K Y pl pk py) (hs : s < 8) (a b c d : Int32) (kp : Nat → Int32) (ka : Int32) (nn : Nat → Int32) : Ok (f_M_keep N cr cq a b c d (nI m) (nI s) pl pk py kp ka nn) (fun x => x.1 = nI (s + 1) ∧ x.2.1 = nI (s + 1) ∧ z_mkT R C m L K Y x.2.2.1 s ∧ ∀ i, i < 194 * s → x.2.2.1 i = kp i) := by
  have hB : 194 * s + 194 ≤ 1552 := by omega
  unfold f_M_keep
  refine Ok.ite (fun hc => ?_) (fun _ => Ok.nm (Ok.nm ?_))
  · exfalso
    rw [z_i 8, nI_eq (by omega) (by omega)] at hc
    omega
  rw [z_i 194, pk_mul]
  refine Ok.b2 (t_keep_L25 (cr := cr) (cq := cq) hB kp N 0 kp (by omega) (by omega) (fun _ _ => rfl) (fun l hl => absurd hl (by omega))) (fun f6 v7 h6 => ?_)
  obtain ⟨e7, k1, k2⟩ := h6
  dsimp only at e7 k1 k2
  subst e7
  rw [m_keeps (by omega), q_b2_s, m_keeps (by omega), q_b2_s, m_keeps (by omega), q_b2_s, m_keeps (by omega), q_b2_s, z_nm]
  refine Ok.b2 (r_keep_L90 (pl := pl) (pk := pk) (py := py) hB _ N 0 _ (by omega) (by omega) (fun _ _ => rfl) (fun l hl => absurd hl (by omega))) (fun f20 v21 h20 => Ok.asn hs (by decide) (Ok.nm ?_))
  obtain ⟨k3, k4⟩ := h20
  dsimp only at k3 k4
  have g3 : ∀ x, x < 194 * s + 10 → f20 x = f6 x := by
    intro x hx
    rw [k3 x (by omega), z_updN (by omega), z_updN (by omega), z_updN (by omega), z_updN (by omega)]
  refine Ok.ret ⟨?_, ?_, ⟨?_, ?_, fun i hi => ?_⟩, ?_⟩
  · dsimp only; rw [nI_1]
  · dsimp only; rw [nI_1]
  · dsimp only
    exact z_kg_same g.kg (fun l hl => ⟨by rw [g3 _ (by omega)]; exact (k2 l hl).1, by rw [g3 _ (by omega)]; exact (k2 l hl).2⟩)
  · dsimp only
    rw [k3 _ (by omega), z_updN (by omega), z_updN (by omega), z_updN (by omega), z_updS]
  · dsimp only
    obtain ⟨e1, e2, e3⟩ := k4 i (by omega)
    rw [e1, e2, e3]
    exact hr i hi
  · intro i hi
    dsimp only
    rw [g3 i (by omega)]
    exact k1 i hi
theorem r_undo_L98 {B : Nat} (hB : B + 194 ≤ 1552) (kp : Nat → Int32) : ∀ n i (a b c : Nat → Int32), i ≤ 60 → 60 - i < n → (∀ l, l < i → a l = kp (B + 14 + 3 * l) ∧ b l = kp (B + 14 + 3 * l + 1) ∧ c l = kp (B + 14 + 3 * l + 2)) → Ok (f_M_undo_L98 kp n (nI i) a b c (nI (B + 14 + 3 * i))) (fun y => ∀ l, l < 60 → y.1 l = kp (B + 14 + 3 * l) ∧ y.2.1 l = kp (B + 14 + 3 * l + 1) ∧ y.2.2.1 l = kp (B + 14 + 3 * l + 2)) := by
  intro n
  induction n with
  | zero => intro i a b c _ h; omega
  | succ n ih =>
    intro i a b c hi hn h1
    rw [f_M_undo_L98]
    refine Ok.ite (fun hc => ?_) (fun hc => ?_)
    all_goals rw [z_i 60, nI_leI (by omega) (by omega)] at hc
    · have : i = 60 := by omega
      subst this
      exact Ok.ret h1
    · rw [m_tells (by omega), q_b2_s, z_as (by omega) (by omega), m_tells (by omega), q_b2_s, z_as (by omega) (by omega), m_tells (by omega), q_b2_s, z_as (by omega) (by omega), z_nm, nI_1]
      refine ih (i + 1) _ _ _ (by omega) (by omega) (fun l hl => ?_)
      by_cases e : l = i
      · subst e; rw [z_updS, z_updS, z_updS]; exact ⟨rfl, rfl, rfl⟩
      · rw [z_updN e, z_updN e, z_updN e]; exact h1 l (by omega)
theorem r_m_undo (g : MOK R C H V cr cq dp wd za) (hN : 1000000 ≤ N) {R2 C2 : Nat → Nat} {kp : Nat → Int32} (h : z_mkT R2 C2 m L K Y kp s) (hm : m ≤ 60) (hs : s < 8) (a b c d e : Int32) (ka : Int32) (nn : Nat → Int32) : Ok (f_M_undo N cr cq dp wd a b c d e (nI (s + 1)) pl pk py kp ka nn) (fun x => x.1 = nI s ∧ MOK R2 C2 (z_pr R2) (z_pr C2) x.2.1 x.2.2.1 x.2.2.2.1 x.2.2.2.2.1 za ∧ x.2.2.2.2.2.2.2.2.2.1 = nI m ∧ x.2.2.2.2.2.2.2.2.2.2.1 = nI s ∧ z_rp m L K Y x.2.2.2.2.2.2.2.2.2.2.2.1 x.2.2.2.2.2.2.2.2.2.2.2.2.1 x.2.2.2.2.2.2.2.2.2.2.2.2.2.1) := by
  have hB : 194 * s + 194 ≤ 1552 := by omega
  obtain ⟨k1, k2, k3⟩ := h
  unfold f_M_undo
  refine Ok.ite (fun hc => absurd hc (nI_ne0 (by omega) (by omega))) (fun _ => ?_)
  rw [z_sub1 (by omega), Nat.add_sub_cancel, z_nm, z_i 194, pk_mul, z_nm, z_nm]
  refine Ok.b3 (t_undo_L33 hB kp N 0 cr cq (by omega) (by omega) (fun l hl => absurd hl (by omega))) (fun f8 f9 v10 h8 => ?_)
  obtain ⟨e10, h8⟩ := h8
  dsimp only at e10 h8
  subst e10
  rw [m_tells (by omega), q_b2_s, m_tells (by omega), q_b2_s, m_tells (by omega), q_b2_s, m_tells (by omega), q_b2_s, z_nm]
  refine Ok.b4 (r_undo_L98 hB kp N 0 pl pk py (by omega) (by omega) (fun l hl => absurd hl (by omega))) (fun f25 f26 f27 v28 h25 => Ok.ain hs (by decide) ?_)
  dsimp only at h25
  have hk8 := z_kg_same k1 h8
  refine Ok.b2 (t_laysGrids hk8 hN dp wd) (fun f30 f31 h30 => Ok.ret ⟨rfl, z_mok hk8 g.2.1 h30, k2, rfl, fun i hi => ?_⟩)
  dsimp only
  obtain ⟨e1, e2, e3⟩ := h25 i (by omega)
  rw [e1, e2, e3]
  exact k3 i hi
end R6
end
section
/-! a place's key on both sides -/
section R7
variable {R C H V : Nat → Nat} {rc cc br zc rw sh cr cq dp wd za : Nat → Int32} {N l : Nat}
theorem m_rowAt (g : MOK R C H V cr cq dp wd za) (hl : l < 5) (x : Int32) : f_M_rowAt dp x (nI l) = some (nI (z_rowLat (H l) x.toInt)) := by
  obtain ⟨e1, e2, e3, e4⟩ := g.1 l hl
  have hv := g.2.2.hv hl
  have hp := g.2.2.pos l hl
  have t1 : (316800 : Int32).toInt = 316800 := rfl
  have t2 : (-316800 : Int32).toInt = -316800 := rfl
  unfold f_M_rowAt z_rowLat
  by_cases c1 : x < 316800
  · have a1 := z_lt.mp c1
    rw [t1] at a1
    rw [if_pos c1, if_neg (show ¬ 316800 ≤ x.toInt by omega)]
    by_cases c2 : -316800 ≤ x
    · have a2 := z_le.mp c2
      rw [t2] at a2
      rw [if_pos c2, if_neg (show ¬ x.toInt < -316800 by omega), z_nm]
      have e : (x + 316800).toInt = x.toInt + 316800 := by
        rw [Int32.toInt_add, t1, Int.bmod_eq_of_le (by omega) (by omega)]
      obtain ⟨f, f1, f2, f3⟩ := z_nat (r := x + 316800) (by omega)
      have f4 : f < 633600 := by omega
      have hq : f / 14400 ≤ 43 := by omega
      have hm : f % 14400 < 14400 := Nat.mod_lt _ (by decide)
      have hx : x.toInt * (H l : Int) = 14400 * ((f / 14400 * H l : Nat) : Int) + ((f % 14400 * H l : Nat) : Int) - 316800 * (H l : Int) := by
        have w : x.toInt = 14400 * ((f / 14400 : Nat) : Int) + ((f % 14400 : Nat) : Int) - 316800 := by omega
        rw [w, Int.natCast_mul, Int.natCast_mul, Int.sub_mul, Int.add_mul, Int.mul_assoc]
      have hs : (43 - f / 14400) * H l = 43 * H l - f / 14400 * H l := Nat.sub_mul _ _ _
      have hle : f / 14400 * H l ≤ 43 * H l := Nat.mul_le_mul_right _ hq
      rw [f2, z_i 14400, z_dv (by omega) (by omega) (by omega), z_nm, z_i 43, pk_sub hq, z_ai hl (by omega), z_ai hl (by omega), z_rm (by omega) (by omega) (by omega), z_ai hl (by omega), e3, hx]
      generalize f / 14400 = q at *
      generalize f % 14400 = m at *
      have b1 : m * H l < 14400 * H l := Nat.mul_lt_mul_of_lt_of_le hm (Nat.le_refl _) hp.1
      have b2 : m * H l / 14400 < H l := Nat.div_lt_of_lt_mul b1
      rw [pk_mul, pk_mul]
      generalize (43 - q) * H l = a at *
      generalize q * H l = A at *
      generalize m * H l = b at *
      rw [z_dv (by omega) (by omega) (by omega), z_i 1, nI_add, nI_add, pk_sub (by omega), pk_sub (by omega)]
      refine congrArg (fun z => some (nI z)) ?_
      omega
    · have a2 : ¬ -316800 ≤ x.toInt := fun z => c2 (z_le.mpr (by rw [t2]; exact z))
      rw [if_neg c2, if_pos (show x.toInt < -316800 by omega), m_lastRow g hl, q_b1_s]
  · have a1 : ¬ x.toInt < 316800 := fun z => c1 (z_lt.mpr (by rw [t1]; exact z))
    rw [if_neg c1, if_pos (show 316800 ≤ x.toInt by omega)]
    rfl
/-- the key of a place -/
def z_kp (H V : Nat) (x : Int) (o : Nat) : Nat := z_rs H V (z_rowLat H x) + o * z_rl H V (z_rowLat H x) / 1296000
theorem z_kp_lt (g : CUT R C H V) (hl : l < 5) (x : Int) {o : Nat} (ho : o < 1296000) : z_kp (H l) (V l) x o < 2130 * (H l * V l) + 2 := by
  have hp := g.pos l hl
  have hr := z_rowLat_le hp.1 x
  have hL := (z_rl_pos (V := V l) hp.1 hp.2 hr)
  have he := z_rs_end (V := V l) (r := z_rowLat (H l) x) hp.1 hr
  unfold z_kp
  have h1 : o * z_rl (H l) (V l) (z_rowLat (H l) x) / 1296000 < z_rl (H l) (V l) (z_rowLat (H l) x) := by
    apply Nat.div_lt_of_lt_mul
    exact Nat.mul_lt_mul_of_lt_of_le ho (Nat.le_refl _) hL.1
  omega
theorem m_keyAtPlace (g : MOK R C H V cr cq dp wd za) (hl : l < 5) (x : Int32) {o : Nat} (ho : o < 1296000) : f_M_keyAtPlace dp wd za x (nI o) (nI l) = some (nI (z_kp (H l) (V l) x.toInt o)) := by
  have hv := g.2.2.hv hl
  have hp := g.2.2.pos l hl
  have hr := z_rowLat_le hp.1 x.toInt
  have hL := (z_rl_pos (V := V l) hp.1 hp.2 hr)
  have h1 : o * z_rl (H l) (V l) (z_rowLat (H l) x.toInt) / 1296000 < z_rl (H l) (V l) (z_rowLat (H l) x.toInt) := by
    apply Nat.div_lt_of_lt_mul
    exact Nat.mul_lt_mul_of_lt_of_le ho (Nat.le_refl _) hL.1
  unfold f_M_keyAtPlace
  rw [m_rowAt g hl, q_b1_s, m_many g hl hr, q_b1_s, m_placeAt ho (by omega), q_b1_s, m_keyOf g hl hr h1, q_b1_s]
  rfl
theorem k_keyAtPlace (g : GOK R C H V rc cc br zc rw sh) (hl : l < 5) {x : Int32} (h1 : -324000 ≤ x.toInt) (h2 : x.toInt ≤ 324000) {o : Nat} (ho : o < 1296000) : f_Grid_keyOf br zc rw sh (nI l) x (nI o) = some (nI (z_kp (H l) (V l) x.toInt o)) := by
  have hp := g.2.pos l hl
  have hr := z_rowLat_le hp.1 x.toInt
  unfold f_Grid_keyOf
  rw [k_rowOfLat g hl h1 h2, q_b1_s, k_rowStart g hl hr, q_b1_s, (k_placeOfLon g hl hr ho).1, q_b1_s, nI_add]
  rfl
def z_plV (p q : Int32) : Prop := (-324000 ≤ p.toInt ∧ p.toInt ≤ 324000) ∧ (0 ≤ q.toInt ∧ q.toInt ≤ 1295999)
theorem r_isPlaceX (p q : Int32) : Ok (f_X_isPlace p q) (fun x => (z_plV p q ∧ x = 1) ∨ (¬ z_plV p q ∧ x = 0)) := by
  unfold f_X_isPlace
  refine Ok.b1 (s_isFrom p _ _) (fun v1 h1 => ?_)
  rw [show (-324000 : Int32).toInt = -324000 from rfl, show (324000 : Int32).toInt = 324000 from rfl] at h1
  refine Ok.ite (fun c => Ok.ret (Or.inr ⟨fun z => z_if0 h1 c z.1, rfl⟩)) (fun c1 => Ok.b1 (s_isFrom q _ _) (fun v2 h2 => ?_))
  rw [show (0 : Int32).toInt = 0 from rfl, show (1295999 : Int32).toInt = 1295999 from rfl] at h2
  exact Ok.ite (fun c => Ok.ret (Or.inr ⟨fun z => z_if0 h2 c z.2, rfl⟩)) (fun c2 => Ok.ret (Or.inl ⟨⟨z_if1 h1 c1, z_if1 h2 c2⟩, rfl⟩))
theorem r_isPlaceM (p q : Int32) : Ok (f_M_isPlace p q) (fun x => (z_plV p q ∧ x = 1) ∨ (¬ z_plV p q ∧ x = 0)) := by
  unfold f_M_isPlace
  refine Ok.b1 (t_in _ _ _) (fun v1 h1 => ?_)
  rw [z_toL, show (-324000 : Int64).toInt = -324000 from rfl, show (324000 : Int64).toInt = 324000 from rfl] at h1
  refine Ok.ite (fun c => Ok.ret (Or.inr ⟨fun z => z_if0 h1 c z.1, rfl⟩)) (fun c1 => Ok.b1 (t_in _ _ _) (fun v2 h2 => ?_))
  rw [z_toL, show (0 : Int64).toInt = 0 from rfl, show (1295999 : Int64).toInt = 1295999 from rfl] at h2
  exact Ok.ite (fun c => Ok.ret (Or.inr ⟨fun z => z_if0 h2 c z.2, rfl⟩)) (fun c2 => Ok.ret (Or.inl ⟨⟨z_if1 h1 c1, z_if1 h2 c2⟩, rfl⟩))
theorem z_plV_o {p q : Int32} (h : z_plV p q) : ∃ o, o < 1296000 ∧ q = nI o := by
  obtain ⟨o, -, h1, h2⟩ := z_nat h.2.1
  exact ⟨o, by have := h.2.2; omega, h1⟩
end R7
end
section
/-! every piece's year is one -/
section R8
variable {H V : Nat → Nat} {m : Nat} {L K : Nat → Nat} {Y : Nat → Int32}
def z_yr (m : Nat) (Y : Nat → Int32) : Prop := ∀ i, i < m → 1800 ≤ (Y i).toInt ∧ (Y i).toInt ≤ 2100
theorem z_yr_upd (h : z_yr m Y) {p : Nat} {y : Int32} (hy : 1800 ≤ y.toInt ∧ y.toInt ≤ 2100) : z_yr m (upd Y p y) := by
  intro i hi
  by_cases e : i = p
  · subst e; rw [z_updS]; exact hy
  · rw [z_updN e]; exact h i hi
theorem z_yr_ins (h : z_yr m Y) {p : Nat} (hp : p ≤ m) {y : Int32} (hy : 1800 ≤ y.toInt ∧ y.toInt ≤ 2100) : z_yr (m + 1) (a_ins p y Y) := by
  intro i hi
  unfold a_ins
  by_cases c : i < p
  · rw [if_pos c]; exact h i (by omega)
  · rw [if_neg c]
    by_cases c2 : i = p
    · rw [if_pos c2]; exact hy
    · rw [if_neg c2]; exact h (i - 1) (by omega)
theorem z_yr_del (h : z_yr m Y) {p : Nat} : z_yr (m - 1) (a_del p Y) := by
  intro i hi
  unfold a_del
  by_cases c : i < p
  · rw [if_pos c]; exact h i (by omega)
  · rw [if_neg c]; exact h (i + 1) (by omega)
theorem z_storeR_yr (h : z_yr m Y) {p q y r : Int32} {m2 : Nat} {L2 K2 : Nat → Nat} {Y2 : Nat → Int32} (hr : z_storeR H V m L K Y p q y r m2 L2 K2 Y2) : z_yr m2 Y2 := by
  rcases hr with ⟨-, -, rfl, -, -, rfl⟩ | ⟨l, k, l2, k2, j, hv, -, -, -, -, -, hs, hp⟩
  · exact h
  · rcases hp with ⟨-, -, rfl, -, -, rfl⟩ | ⟨-, -, -, rfl, -, -, rfl⟩ | ⟨-, -, -, rfl, -, -, rfl⟩
    · exact z_yr_upd h hv.2
    · exact h
    · exact z_yr_ins h hs.1 hv.2
theorem z_dropR_yr (h : z_yr m Y) {p q r : Int32} {m2 : Nat} {L2 K2 : Nat → Nat} {Y2 : Nat → Int32} (hr : z_dropR H V m L K Y p q r m2 L2 K2 Y2) : z_yr m2 Y2 := by
  rcases hr with ⟨-, -, rfl, -, -, rfl⟩ | ⟨l, k, l2, k2, j, -, -, -, -, -, -, -, ⟨-, -, rfl, -, -, rfl⟩ | ⟨-, -, rfl, -, -, rfl⟩⟩
  · exact h
  · exact z_yr_del h
  · exact h
theorem z_renewR_yr (h : z_yr m Y) {p y r : Int32} {Y2 : Nat → Int32} (hr : z_renewR m L Y p y r Y2) : z_yr m Y2 := by
  rcases hr with ⟨-, -, rfl⟩ | ⟨hv, -, rfl⟩
  · exact h
  · intro i hi
    unfold z_rnY
    by_cases c : i < m ∧ z_rnC L Y p y i = true
    · rw [if_pos c]; exact hv.2
    · rw [if_neg c]; exact h i hi
theorem z_tdT_yr : ∀ (j m : Nat) (L K : Nat → Nat) (Y : Nat → Int32) (x n2 m2 : Nat) (L2 K2 : Nat → Nat) (Y2 : Nat → Int32), z_yr m Y → z_tdT H V j m L K Y x n2 m2 L2 K2 Y2 → z_yr m2 Y2 := by
  intro j
  induction j with
  | zero =>
    intro m L K Y x n2 m2 L2 K2 Y2 h hr
    obtain ⟨-, rfl, -, -, rfl⟩ := hr
    exact h
  | succ j ih =>
    intro m L K Y x n2 m2 L2 K2 Y2 h hr
    rcases hr with ⟨-, b⟩ | ⟨-, b⟩
    · exact ih _ _ _ _ _ _ _ _ _ _ (z_yr_del h) b
    · exact ih _ _ _ _ _ _ _ _ _ _ h b
end R8
end
section
/-! neighbours on both sides: the first to a side, how many -/
section R9
variable {R C H V : Nat → Nat} {rc cc br zc rw sh cr cq dp wd za : Nat → Int32} {N l : Nat}
def z_bF (H V r p i : Nat) : Nat := if i = 0 then z_rs H V (r - 1) + p * z_rl H V (r - 1) / z_rl H V r else if i = 2 then z_rs H V (r + 1) + p * z_rl H V (r + 1) / z_rl H V r else if i = 1 then z_rs H V r + (p + 1) % z_rl H V r else z_rs H V r + (p + (z_rl H V r - 1)) % z_rl H V r
def z_bM (H V r p i : Nat) : Nat := if i = 0 then (if r = 0 then 0 else ((p + 1) * z_rl H V (r - 1) - 1) / z_rl H V r - p * z_rl H V (r - 1) / z_rl H V r + 1) else if i = 2 then (if r = 44 * H + 1 then 0 else ((p + 1) * z_rl H V (r + 1) - 1) / z_rl H V r - p * z_rl H V (r + 1) / z_rl H V r + 1) else (if r = 0 ∨ r = 44 * H + 1 then 0 else 1)
theorem z_ceil {a d s : Nat} (ha : 1 ≤ a) (hd : 1 ≤ d) (hs : s ≤ (a - 1) / d) : (a + d - 1) / d - s = (a - 1) / d - s + 1 := by
  have e : a + d - 1 = (a - 1) + d := by omega
  rw [e, Nat.add_div_right _ hd]
  generalize (a - 1) / d = x at *
  show x + 1 - s = x - s + 1
  omega
theorem z_rl1 {H0 V0 r : Nat} (hH : 1 ≤ H0) (hV : 1 ≤ V0) (hr : r ≤ 44 * H0 + 1) : z_rl H0 V0 r = 1 ↔ (r = 0 ∨ r = 44 * H0 + 1) := by
  unfold z_rl
  by_cases h : r = 0 ∨ r = 44 * H0 + 1
  · rw [if_pos h]; exact ⟨fun _ => h, fun _ => rfl⟩
  · rw [if_neg h]
    have hq := z_q (r := r) (H := H0) (by omega) (by omega)
    have hb := z_bz_in _ hq
    have hm : 15 * 1 ≤ z_bz ((r - 1) / H0) * V0 := Nat.mul_le_mul hb.1 hV
    exact ⟨fun z => absurd z (by omega), fun z => absurd z h⟩
theorem r_laysBeside (g : MOK R C H V cr cq dp wd za) (hN : 50 ≤ N) (hl : l < 5) {r p : Nat} (hr : r ≤ 44 * H l + 1) (hp : p < z_rl (H l) (V l) r) (fb mb : Int32) {i : Nat} (hi : i < 4) : ∃ x, f_M_laysBeside N dp wd za fb mb (nI l) (nI (z_rs (H l) (V l) r + p)) (nI i) = some (x, nI (z_bM (H l) (V l) r p i)) ∧ (z_bM (H l) (V l) r p i ≠ 0 → x = nI (z_bF (H l) (V l) r p i)) := by
  have hps := g.2.2.pos l hl
  have la := z_rl_pos (V := V l) hps.1 hps.2 hr
  have up : ∀ b, b ≤ 44 * H l + 1 → ((p + 1) * z_rl (H l) (V l) b + z_rl (H l) (V l) r - 1) / z_rl (H l) (V l) r - p * z_rl (H l) (V l) b / z_rl (H l) (V l) r = ((p + 1) * z_rl (H l) (V l) b - 1) / z_rl (H l) (V l) r - p * z_rl (H l) (V l) b / z_rl (H l) (V l) r + 1 := by
    intro b hb
    have lb := z_rl_pos (V := V l) hps.1 hps.2 hb
    have e : (p + 1) * z_rl (H l) (V l) b = p * z_rl (H l) (V l) b + z_rl (H l) (V l) b := Nat.succ_mul _ _
    exact z_ceil (by omega) la.1 (Nat.div_le_div_right (by omega))
  rcases (show i = 0 ∨ i = 1 ∨ i = 2 ∨ i = 3 by omega) with rfl | rfl | rfl | rfl
  · by_cases h0 : r = 0
    · have e : z_bM (H l) (V l) r p 0 = 0 := by unfold z_bM; rw [if_pos rfl, if_pos h0]
      rw [e]
      exact ⟨_, m_lays0 g hN hl hr hp fb mb (Or.inl ⟨rfl, h0⟩), fun z => absurd rfl z⟩
    · have e : z_bM (H l) (V l) r p 0 = ((p + 1) * z_rl (H l) (V l) (r - 1) - 1) / z_rl (H l) (V l) r - p * z_rl (H l) (V l) (r - 1) / z_rl (H l) (V l) r + 1 := by unfold z_bM; rw [if_pos rfl, if_neg h0]
      have e2 : z_bF (H l) (V l) r p 0 = z_rs (H l) (V l) (r - 1) + p * z_rl (H l) (V l) (r - 1) / z_rl (H l) (V l) r := if_pos rfl
      have t := m_laysV g hN hl hr hp (b := r - 1) (by omega) fb mb (i := 0) (Or.inl ⟨rfl, by omega⟩)
      rw [up (r - 1) (by omega)] at t
      rw [e, e2]
      exact ⟨_, t, fun _ => rfl⟩
  · have t := m_laysH g hN hl hr hp fb mb (i := 1) (Or.inl ⟨rfl, rfl⟩)
    by_cases hc : r = 0 ∨ r = 44 * H l + 1
    · have e : z_bM (H l) (V l) r p 1 = 0 := by unfold z_bM; rw [if_neg (by omega), if_neg (by omega), if_pos hc]
      rw [if_pos ((z_rl1 hps.1 hps.2 hr).mpr hc)] at t
      rw [e]
      exact ⟨_, t, fun z => absurd rfl z⟩
    · have e : z_bM (H l) (V l) r p 1 = 1 := by unfold z_bM; rw [if_neg (by omega), if_neg (by omega), if_neg hc]
      have e2 : z_bF (H l) (V l) r p 1 = z_rs (H l) (V l) r + (p + 1) % z_rl (H l) (V l) r := by unfold z_bF; rw [if_neg (by omega), if_neg (by omega), if_pos rfl]
      rw [if_neg (fun z => hc ((z_rl1 hps.1 hps.2 hr).mp z))] at t
      rw [e, e2]
      exact ⟨_, t, fun _ => rfl⟩
  · by_cases h0 : r = 44 * H l + 1
    · have e : z_bM (H l) (V l) r p 2 = 0 := by unfold z_bM; rw [if_neg (by omega), if_pos rfl, if_pos h0]
      rw [e]
      exact ⟨_, m_lays0 g hN hl hr hp fb mb (Or.inr ⟨rfl, h0⟩), fun z => absurd rfl z⟩
    · have e : z_bM (H l) (V l) r p 2 = ((p + 1) * z_rl (H l) (V l) (r + 1) - 1) / z_rl (H l) (V l) r - p * z_rl (H l) (V l) (r + 1) / z_rl (H l) (V l) r + 1 := by unfold z_bM; rw [if_neg (by omega), if_pos rfl, if_neg h0]
      have e2 : z_bF (H l) (V l) r p 2 = z_rs (H l) (V l) (r + 1) + p * z_rl (H l) (V l) (r + 1) / z_rl (H l) (V l) r := by unfold z_bF; rw [if_neg (by omega), if_pos rfl]
      have t := m_laysV g hN hl hr hp (b := r + 1) (by omega) fb mb (i := 2) (Or.inr ⟨rfl, rfl⟩)
      rw [up (r + 1) (by omega)] at t
      rw [e, e2]
      exact ⟨_, t, fun _ => rfl⟩
  · have t := m_laysH g hN hl hr hp fb mb (i := 3) (Or.inr ⟨rfl, rfl⟩)
    by_cases hc : r = 0 ∨ r = 44 * H l + 1
    · have e : z_bM (H l) (V l) r p 3 = 0 := by unfold z_bM; rw [if_neg (by omega), if_neg (by omega), if_pos hc]
      rw [if_pos ((z_rl1 hps.1 hps.2 hr).mpr hc)] at t
      rw [e]
      exact ⟨_, t, fun z => absurd rfl z⟩
    · have e : z_bM (H l) (V l) r p 3 = 1 := by unfold z_bM; rw [if_neg (by omega), if_neg (by omega), if_neg hc]
      have e2 : z_bF (H l) (V l) r p 3 = z_rs (H l) (V l) r + (p + (z_rl (H l) (V l) r - 1)) % z_rl (H l) (V l) r := by unfold z_bF; rw [if_neg (by omega), if_neg (by omega), if_neg (by omega)]
      rw [if_neg (fun z => hc ((z_rl1 hps.1 hps.2 hr).mp z))] at t
      rw [e, e2]
      exact ⟨_, t, fun _ => rfl⟩
/-- the class's rows of neighbours, side by side -/
theorem r_lookAround (g : GOK R C H V rc cc br zc rw sh) (hl : l < 5) {r p : Nat} (hr : r ≤ 44 * H l + 1) (hp : p < z_rl (H l) (V l) r) (f m : Nat → Int32) : ∃ f' m', f_Spot_lookAround f m (nI l) (nI r) (nI (z_rs (H l) (V l) r)) (nI p) (nI (z_rl (H l) (V l) r)) (z_cap (H l) r) br zc rw sh = some (f', m') ∧ ∀ i, i < 4 → m' i = nI (z_bM (H l) (V l) r p i) ∧ (z_bM (H l) (V l) r p i ≠ 0 → f' i = nI (z_bF (H l) (V l) r p i)) := by
  have hv := g.2.hv hl
  have hps := g.2.pos l hl
  have hs := g.2.sh hl
  have la := z_rl_pos (V := V l) hps.1 hps.2 hr
  have hre := z_rs_end (V := V l) hps.1 hr
  have side : ∀ (i b : Nat) (q : Int32) (f m : Nat → Int32), (i = 0 ∧ q = nI r - 1 ∧ b = r - 1) ∨ (i = 2 ∧ q = nI (r + 1) ∧ b = r + 1) → ∃ f' m', f_Spot_lookAcross f m (nI l) (nI p) (nI (z_rl (H l) (V l) r)) br zc rw sh (nI i) q = some (f', m') ∧ (m' i = nI (z_bM (H l) (V l) r p i) ∧ (z_bM (H l) (V l) r p i ≠ 0 → f' i = nI (z_bF (H l) (V l) r p i))) ∧ ∀ j, j ≠ i → f' j = f j ∧ m' j = m j := by
    intro i b q f m hi
    rcases hi with ⟨rfl, rfl, rfl⟩ | ⟨rfl, rfl, rfl⟩
    · by_cases h0 : r = 0
      · have e : z_bM (H l) (V l) r p 0 = 0 := by unfold z_bM; rw [if_pos rfl, if_pos h0]
        rw [e]
        refine ⟨_, _, k_across0 g hl (by omega) f m _ _ _ (Or.inl (by subst h0; decide)), ⟨z_updS, fun z => absurd rfl z⟩, fun j hj => ⟨by rw [z_updN hj], by rw [z_updN hj]⟩⟩
      · have e : z_bM (H l) (V l) r p 0 = ((p + 1) * z_rl (H l) (V l) (r - 1) - 1) / z_rl (H l) (V l) r - p * z_rl (H l) (V l) (r - 1) / z_rl (H l) (V l) r + 1 := by unfold z_bM; rw [if_pos rfl, if_neg h0]
        have e2 : z_bF (H l) (V l) r p 0 = z_rs (H l) (V l) (r - 1) + p * z_rl (H l) (V l) (r - 1) / z_rl (H l) (V l) r := if_pos rfl
        obtain ⟨h1, -, -⟩ := k_across g hl hr hp (b := r - 1) (by omega) (i := 0) (by omega) f m
        rw [e, e2, z_sub1 (by omega)]
        exact ⟨_, _, h1, ⟨z_updS, fun _ => z_updS⟩, fun j hj => ⟨by rw [z_updN hj, z_updN hj], by rw [z_updN hj, z_updN hj]⟩⟩
    · by_cases h0 : r = 44 * H l + 1
      · have e : z_bM (H l) (V l) r p 2 = 0 := by unfold z_bM; rw [if_neg (by omega), if_pos rfl, if_pos h0]
        rw [e]
        refine ⟨_, _, k_across0 g hl (by omega) f m _ _ _ (Or.inr (by rw [h0])), ⟨z_updS, fun z => absurd rfl z⟩, fun j hj => ⟨by rw [z_updN hj], by rw [z_updN hj]⟩⟩
      · have e : z_bM (H l) (V l) r p 2 = ((p + 1) * z_rl (H l) (V l) (r + 1) - 1) / z_rl (H l) (V l) r - p * z_rl (H l) (V l) (r + 1) / z_rl (H l) (V l) r + 1 := by unfold z_bM; rw [if_neg (by omega), if_pos rfl, if_neg h0]
        have e2 : z_bF (H l) (V l) r p 2 = z_rs (H l) (V l) (r + 1) + p * z_rl (H l) (V l) (r + 1) / z_rl (H l) (V l) r := by unfold z_bF; rw [if_neg (by omega), if_pos rfl]
        obtain ⟨h1, -, -⟩ := k_across g hl hr hp (b := r + 1) (by omega) (i := 2) (by omega) f m
        rw [e, e2]
        exact ⟨_, _, h1, ⟨z_updS, fun _ => z_updS⟩, fun j hj => ⟨by rw [z_updN hj, z_updN hj], by rw [z_updN hj, z_updN hj]⟩⟩
  have hM : ∀ i, i = 1 ∨ i = 3 → (if r = 0 ∨ r = 44 * H l + 1 then 0 else 1 : Int32) = nI (z_bM (H l) (V l) r p i) := by
    intro i hi
    unfold z_bM
    rw [if_neg (show ¬ i = 0 by omega), if_neg (show ¬ i = 2 by omega)]
    split <;> rfl
  unfold f_Spot_lookAround
  obtain ⟨f1, m1, e1, p1, p5⟩ := side 0 (r - 1) (nI r - 1) f m (Or.inl ⟨rfl, rfl, rfl⟩)
  rw [show (0 : Int32) = nI 0 from rfl, e1, q_b2_s, show (1 : Int32) = nI 1 from rfl, k_along (r := r) (H0 := H l) (i := 1) (by omega) la.1 (by omega) hp la.1 (by omega), q_b2_s, hM 1 (Or.inl rfl)]
  obtain ⟨f3, m3, e3, q1, q5⟩ := side 2 (r + 1) (nI (r + 1)) (upd f1 1 (nI (z_rs (H l) (V l) r + (p + 1) % z_rl (H l) (V l) r))) (upd m1 1 (nI (z_bM (H l) (V l) r p 1))) (Or.inr ⟨rfl, rfl, rfl⟩)
  rw [nI_add, z_i 2, e3, q_b2_s, pk_sub la.1, z_i 3, k_along (r := r) (H0 := H l) (i := 3) (by omega) la.1 (by omega) hp (by omega) (by omega), q_b2_s, hM 3 (Or.inr rfl)]
  refine ⟨_, _, rfl, fun i hi => ?_⟩
  rcases (show i = 0 ∨ i = 1 ∨ i = 2 ∨ i = 3 by omega) with rfl | rfl | rfl | rfl
  · rw [z_updN (by omega), z_updN (by omega), (q5 0 (by omega)).1, (q5 0 (by omega)).2, z_updN (by omega), z_updN (by omega)]
    exact p1
  · rw [z_updN (by omega), z_updN (by omega), (q5 1 (by omega)).1, (q5 1 (by omega)).2, z_updS, z_updS]
    refine ⟨rfl, fun _ => ?_⟩
    unfold z_bF
    rw [if_neg (by omega), if_neg (by omega), if_pos rfl]
  · rw [z_updN (by omega), z_updN (by omega)]
    exact q1
  · rw [z_updS, z_updS]
    refine ⟨rfl, fun _ => ?_⟩
    unfold z_bF
    rw [if_neg (by omega), if_neg (by omega), if_neg (by omega)]
end R9
end
