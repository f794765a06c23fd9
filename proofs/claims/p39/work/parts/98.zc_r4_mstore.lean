/-! the reference's store with what it leaves; drop, renew on both sides -/
section R4
variable {R C H V : Nat → Nat} {rc cc br zc rw sh cr cq dp wd za : Nat → Int32} {N m l : Nat} {L K : Nat → Nat} {Y : Nat → Int32} {fl fk fy : Nat → Int32}
theorem r_isYear (x : Int32) : Ok (f_M_isYear x) (fun y => y = if 1800 ≤ x.toInt ∧ x.toInt ≤ 2100 then 1 else 0) := by
  unfold f_M_isYear
  rw [m_in, q_b1_s, z_toL, show (1800 : Int64).toInt = 1800 from rfl, show (2100 : Int64).toInt = 2100 from rfl]
  refine Ok.bo ?_ (Ok.ret rfl)
  split
  · exact Or.inr rfl
  · exact Or.inl rfl
theorem r_isLevel (x : Int32) : Ok (f_X_isLevel x) (fun y => y = if 0 ≤ x.toInt ∧ x.toInt ≤ 4 then 1 else 0) := ⟨_, k_isLevel x, rfl⟩
/-- what is stored: a cap at level 0 -/
theorem r_where (g : MOK R C H V cr cq dp wd za) (hN : 1000000 ≤ N) (hl : l < 5) {k : Nat} (hk : k < 2130 * (H l * V l) + 2) {α : Type} {P : α → Prop} {G : Int32 → Int32 → Option α} (hG : ∀ l2 k2, z_at0 H V l k l2 k2 → Ok (G (nI l2) (nI k2)) P) : Ok (q_b1 (f_M_isCap dp wd za (nI l) (nI k)) (fun (v3 : Int32) => q_j1 (fun (v4 : Int32) => (q_b1 (f_M_isCap dp wd za (nI l) (nI k)) (fun (v5 : Int32) => q_j1 (fun (v6 : Int32) => (G v4 v6 : Option α)) (fun (k54 : Int32 → Option α) => if v5 = 0 then (k54 (nI k)) else (q_b1 (f_M_parentOf N dp wd za (nI l) (nI k) 0) (fun (v31 : Int32) => k54 v31)))) : Option α)) (fun (k32 : Int32 → Option α) => if v3 = 0 then (k32 (nI l)) else (k32 0)))) P := by
  rcases t_isCap g hl hk with ⟨c, e⟩ | ⟨c, e⟩ <;> rw [e, q_b1_s]
  · refine Ok.k1 (fun v => v = nI 0) P (fun v4 h4 => ?_) (fun K hK => Ok.ite (fun h => absurd h (by decide)) (fun _ => hK _ rfl))
    subst h4
    rw [q_b1_s]
    refine Ok.k1 (fun v => ∃ k2, z_upr H V l 0 k k2 ∧ v = nI k2) P (fun v6 h6 => ?_) (fun K hK => Ok.ite (fun h => absurd h (by decide)) (fun _ => Ok.b1 (r_parentOf g (by omega) hl (t := 0) (Nat.zero_le _) hk) (fun v31 h31 => hK _ h31)))
    obtain ⟨k2, h2, rfl⟩ := h6
    exact hG _ _ (Or.inl ⟨c, rfl, h2⟩)
  · refine Ok.k1 (fun v => v = nI l) P (fun v4 h4 => ?_) (fun K hK => Ok.ite (fun _ => hK _ rfl) (fun h => absurd rfl h))
    subst h4
    rw [q_b1_s]
    exact Ok.k1 (fun v => v = nI k) P (fun v6 h6 => by rw [h6]; exact hG _ _ (Or.inr ⟨c, rfl, rfl⟩)) (fun K hK => Ok.ite (fun _ => hK _ rfl) (fun h => absurd rfl h))
theorem r_shift {p : Nat} (hm : m < 60) : ∀ n i (a b c : Nat → Int32), p ≤ i → i ≤ m → i - p < n → z_hole m i fl a → z_hole m i fk b → z_hole m i fy c → Ok (f_M_store_L97 (nI p) n (nI i) a b c) (fun x => z_hole m p fl x.1 ∧ z_hole m p fk x.2.1 ∧ z_hole m p fy x.2.2) := by
  intro n
  induction n with
  | zero => intro i a b c _ _ h; omega
  | succ n ih =>
    intro i a b c hpi him hn ha hb hc
    rw [f_M_store_L97]
    by_cases e : i = p
    · subst e
      exact Ok.ite (fun _ => Ok.ret ⟨ha, hb, hc⟩) (fun z => absurd (by rw [nI_leI (by omega) (by omega)]; omega) z)
    · refine Ok.ite (fun z => absurd z (by rw [nI_leI (by omega) (by omega)]; omega)) (fun _ => ?_)
      obtain ⟨u, rfl⟩ : ∃ u, i = u + 1 := ⟨i - 1, by omega⟩
      rw [z_m1, z_sub1 (by omega), Nat.add_sub_cancel, z_ai (by omega) (by omega), z_ai (by omega) (by omega), z_ai (by omega) (by omega), m_puts (by omega), q_b3_s, z_nm]
      exact ih u _ _ _ (by omega) (by omega) (by omega) (z_hole_mv him ha) (z_hole_mv him hb) (z_hole_mv him hc)
theorem z_hole0 {f : Nat → Int32} : z_hole m m f f := ⟨fun _ _ => rfl, fun j h1 h2 => absurd h1 (by omega)⟩
theorem z_rp_same (hr : z_rp m L K Y fl fk fy) {p l k : Nat} {y : Int32} (hz : z_is m L K l k p) : z_rp m L K (upd Y p y) (upd fl p (nI l)) (upd fk p (nI k)) (upd fy p y) := by
  intro i hi
  obtain ⟨a, b, c⟩ := hr i hi
  by_cases e : i = p
  · subst e
    rw [z_updS, z_updS, z_updS, z_updS, hz.2.1, hz.2.2]
    exact ⟨rfl, rfl, rfl⟩
  · rw [z_updN e, z_updN e, z_updN e, z_updN e]
    exact ⟨a, b, c⟩
theorem r_m_store (g : MOK R C H V cr cq dp wd za) (h : z_pc H V m L K) (hr : z_rp m L K Y fl fk fy) (hN : 1000000 ≤ N) (p q y : Int32) : Ok (f_M_store N dp wd za (nI m) fl fk fy p q y) (fun x => ∃ r m2 L2 K2 Y2, z_storeR H V m L K Y p q y r m2 L2 K2 Y2 ∧ x.1 = r ∧ x.2.1 = nI m2 ∧ z_rp m2 L2 K2 Y2 x.2.2.1 x.2.2.2.1 x.2.2.2.2) := by
  have hb : ∀ l, l < 5 → 2130 * (H l * V l) + 2 ≤ 20000000 := fun l hl => g.2.2.sh hl
  have hm := h.1
  unfold f_M_store
  refine Ok.b1 (r_isKey g p q) (fun v1 h1 => ?_)
  rcases h1 with ⟨z, rfl⟩ | ⟨z, rfl⟩
  rotate_left
  · exact Ok.ite (fun _ => Ok.ret ⟨_, _, _, _, _, Or.inl ⟨fun w => z w.1, rfl, rfl, rfl, rfl, rfl⟩, rfl, rfl, hr⟩) (fun c => absurd rfl c)
  refine Ok.ite (fun c => absurd c (by decide)) (fun _ => Ok.b1 (r_isYear y) (fun v2 h2 => Ok.ite (fun c => ?_) (fun c => ?_)))
  · exact Ok.ret ⟨_, _, _, _, _, Or.inl ⟨fun w => z_if0 h2 c w.2, rfl, rfl, rfl, rfl, rfl⟩, rfl, rfl, hr⟩
  have hy := z_if1 h2 c
  have z' := z
  obtain ⟨l, k, hl, rfl, rfl, hk⟩ := z'
  refine r_where g hN hl hk (fun l2 k2 ha => ?_)
  obtain ⟨b1, b2⟩ := z_at0_in g.2.2 hl hk ha
  have hbl := hb _ b1
  obtain ⟨j, hj⟩ := z_slot_ex h l2 k2
  have hjm := hj.1
  refine Ok.b1 (r_slotOf h hb hr hN b1 (by omega) hj) (fun v7 h7 => ?_)
  subst h7
  refine Ok.b1 (r_isPiece h hb hr b1 (by omega) hjm) (fun v8 h8 => Ok.j4 ?_)
  rcases h8 with ⟨z8, rfl⟩ | ⟨z8, rfl⟩
  · have hjl : j < m := z8.1
    refine Ok.ite (fun c => absurd c (by decide)) (fun _ => ?_)
    (try dsimp only)
    rw [m_puts (by omega), q_b3_s]
    exact Ok.ret ⟨_, _, _, _, _, Or.inr ⟨l, k, l2, k2, j, ⟨z, hy⟩, hl, rfl, rfl, hk, ha, hj, Or.inl ⟨z8, rfl, rfl, rfl, rfl, rfl⟩⟩, rfl, rfl, z_rp_same hr z8⟩
  · refine Ok.ite (fun _ => Ok.ite (fun c60 => ?_) (fun c60 => ?_)) (fun c => absurd rfl c)
    all_goals rw [z_i 60, nI_eq (by omega) (by omega)] at c60
    · exact Ok.ret ⟨_, _, _, _, _, Or.inr ⟨l, k, l2, k2, j, ⟨z, hy⟩, hl, rfl, rfl, hk, ha, hj, Or.inr (Or.inl ⟨z8, c60, rfl, rfl, rfl, rfl, rfl⟩)⟩, rfl, rfl, hr⟩
    · refine Ok.b3 (r_shift (fl := fl) (fk := fk) (fy := fy) (m := m) (p := j) (by omega) N m fl fk fy hjm (Nat.le_refl _) (by omega) z_hole0 z_hole0 z_hole0) (fun f20 f21 f22 hq => ?_)
      obtain ⟨q1, q2, q3⟩ := hq
      dsimp only at q1 q2 q3
      rw [z_nm, nI_1]
      (try dsimp only)
      rw [m_puts (by omega), q_b3_s]
      exact Ok.ret ⟨_, _, _, _, _, Or.inr ⟨l, k, l2, k2, j, ⟨z, hy⟩, hl, rfl, rfl, hk, ha, hj, Or.inr (Or.inr ⟨z8, by omega, rfl, rfl, rfl, rfl, rfl⟩)⟩, rfl, rfl, z_rp_ins hr hjm (z_hole_ins hjm q1) (z_hole_ins hjm q2) (z_hole_ins hjm q3)⟩
/-- rows of which p goes: those ahead of i are moved already -/
def z_dl (p i : Nat) (f g : Nat → Int32) : Prop := (∀ j, j < p → g j = f j) ∧ (∀ j, p ≤ j → j + 1 < i → g j = f (j + 1)) ∧ (∀ j, i ≤ j → g j = f j)
theorem z_dl0 {p : Nat} {f : Nat → Int32} : z_dl p (p + 1) f f := ⟨fun _ _ => rfl, fun j a b => absurd b (by omega), fun _ _ => rfl⟩
theorem z_dl_mv1 {p i : Nat} {f g : Nat → Int32} (hi : p ≤ i) (h : z_dl p (i + 1) f g) : z_dl p (i + 1 + 1) f (upd g i (g (i + 1))) := by
  obtain ⟨h1, h2, h3⟩ := h
  refine ⟨fun j hj => ?_, fun j a b => ?_, fun j hj => ?_⟩
  · rw [z_updN (by omega)]; exact h1 j hj
  · by_cases e : j = i
    · subst e; rw [z_updS]; exact h3 _ (Nat.le_refl _)
    · rw [z_updN e]; exact h2 j a (by omega)
  · rw [z_updN (by omega)]; exact h3 j (by omega)
theorem z_dl_del {p : Nat} {f g : Nat → Int32} (h : z_dl p m f g) : ∀ j, j < m - 1 → g j = a_del p f j := by
  intro j hj
  unfold a_del
  by_cases c : j < p
  · rw [if_pos c]; exact h.1 j c
  · rw [if_neg c]; exact h.2.1 j (by omega) (by omega)
theorem z_rp_del (hr : z_rp m L K Y fl fk fy) {p : Nat} (hp : p < m) {a b c : Nat → Int32} (ha : ∀ j, j < m - 1 → a j = a_del p fl j) (hb : ∀ j, j < m - 1 → b j = a_del p fk j) (hc : ∀ j, j < m - 1 → c j = a_del p fy j) : z_rp (m - 1) (a_del p L) (a_del p K) (a_del p Y) a b c := by
  intro i hi
  rw [ha i hi, hb i hi, hc i hi]
  unfold a_del
  by_cases c1 : i < p
  · simp only [if_pos c1]; exact hr i (by omega)
  · simp only [if_neg c1]; exact hr (i + 1) (by omega)
theorem r_remove (hm : m ≤ 60) (hN : 1000000 ≤ N) {p : Nat} (hp : p < m) : Ok (f_Store_remove N fl fk fy (nI m) (nI p)) (fun x => x.2.2.2 = nI (m - 1) ∧ (∀ j, j < m - 1 → x.1 j = a_del p fl j) ∧ (∀ j, j < m - 1 → x.2.1 j = a_del p fk j) ∧ (∀ j, j < m - 1 → x.2.2.1 j = a_del p fy j)) := by
  have S : ∀ n i (a b c : Nat → Int32), p ≤ i → i + 1 ≤ m → m - i < n → z_dl p (i + 1) fl a → z_dl p (i + 1) fk b → z_dl p (i + 1) fy c → Ok (f_Store_remove_L4 (nI m) n (nI (i + 1)) a b c) (fun x => z_dl p m fl x.1 ∧ z_dl p m fk x.2.1 ∧ z_dl p m fy x.2.2) := by
    intro n
    induction n with
    | zero => intro i a b c _ _ h; omega
    | succ n ih =>
      intro i a b c hpi him hn ha hb hc
      rw [f_Store_remove_L4]
      by_cases e : i + 1 = m
      · rw [e] at ha hb hc ⊢
        exact Ok.ite (fun _ => Ok.ret ⟨ha, hb, hc⟩) (fun z => absurd (by rw [nI_leI (by omega) (by omega)]; omega) z)
      · refine Ok.ite (fun z => absurd z (by rw [nI_leI (by omega) (by omega)]; omega)) (fun _ => ?_)
        rw [z_sub1 (by omega), Nat.add_sub_cancel, m_move (by omega) (by omega) (by omega), q_b3_s, z_nm, nI_1]
        exact ih (i + 1) _ _ _ (by omega) (by omega) (by omega) (z_dl_mv1 hpi ha) (z_dl_mv1 hpi hb) (z_dl_mv1 hpi hc)
  unfold f_Store_remove
  rw [z_nm, nI_1]
  refine Ok.b3 (S N p fl fk fy (Nat.le_refl _) (by omega) (by omega) z_dl0 z_dl0 z_dl0) (fun f6 f7 f8 hq => ?_)
  obtain ⟨q1, q2, q3⟩ := hq
  dsimp only at q1 q2 q3
  rw [z_sub1 (by omega), z_nm]
  exact Ok.ret ⟨rfl, z_dl_del q1, z_dl_del q2, z_dl_del q3⟩
theorem r_removes (hm : m ≤ 60) (hN : 1000000 ≤ N) {p : Nat} (hp : p < m) : Ok (f_M_removes N (nI m) fl fk fy (nI p)) (fun x => x.1 = nI (m - 1) ∧ (∀ j, j < m - 1 → x.2.1 j = a_del p fl j) ∧ (∀ j, j < m - 1 → x.2.2.1 j = a_del p fk j) ∧ (∀ j, j < m - 1 → x.2.2.2 j = a_del p fy j)) := by
  have S : ∀ n i (a b c : Nat → Int32), p ≤ i → i + 1 ≤ m → m - i < n → z_dl p (i + 1) fl a → z_dl p (i + 1) fk b → z_dl p (i + 1) fy c → Ok (f_M_removes_L12 (nI (m - 1)) n (nI i) a b c) (fun x => z_dl p m fl x.1 ∧ z_dl p m fk x.2.1 ∧ z_dl p m fy x.2.2) := by
    intro n
    induction n with
    | zero => intro i a b c _ _ h; omega
    | succ n ih =>
      intro i a b c hpi him hn ha hb hc
      rw [f_M_removes_L12]
      by_cases e : i + 1 = m
      · rw [e] at ha hb hc
        exact Ok.ite (fun _ => Ok.ret ⟨ha, hb, hc⟩) (fun z => absurd (by rw [nI_leI (by omega) (by omega)]; omega) z)
      · refine Ok.ite (fun z => absurd z (by rw [nI_leI (by omega) (by omega)]; omega)) (fun _ => ?_)
        rw [nI_1, z_ai (by omega) (by omega), z_ai (by omega) (by omega), z_ai (by omega) (by omega), m_puts (by omega), q_b3_s, z_nm]
        exact ih (i + 1) _ _ _ (by omega) (by omega) (by omega) (z_dl_mv1 hpi ha) (z_dl_mv1 hpi hb) (z_dl_mv1 hpi hc)
  unfold f_M_removes
  rw [z_sub1 (by omega), z_nm]
  refine Ok.b3 (S N p fl fk fy (Nat.le_refl _) (by omega) (by omega) z_dl0 z_dl0 z_dl0) (fun f6 f7 f8 hq => ?_)
  obtain ⟨q1, q2, q3⟩ := hq
  dsimp only at q1 q2 q3
  exact Ok.ret ⟨rfl, z_dl_del q1, z_dl_del q2, z_dl_del q3⟩
/-- what drop does -/
def z_dropR (H V : Nat → Nat) (m : Nat) (L K : Nat → Nat) (Y : Nat → Int32) (p q r : Int32) (m2 : Nat) (L2 K2 : Nat → Nat) (Y2 : Nat → Int32) : Prop :=
  (¬ z_hs H V p q ∧ r = -1 ∧ m2 = m ∧ L2 = L ∧ K2 = K ∧ Y2 = Y) ∨ (∃ l k l2 k2 j, z_hs H V p q ∧ l < 5 ∧ p = nI l ∧ q = nI k ∧ k < 2130 * (H l * V l) + 2 ∧ z_at0 H V l k l2 k2 ∧ z_slot m L K l2 k2 j ∧ ((z_is m L K l2 k2 j ∧ r = Y j ∧ m2 = m - 1 ∧ L2 = a_del j L ∧ K2 = a_del j K ∧ Y2 = a_del j Y) ∨ (¬ z_is m L K l2 k2 j ∧ r = -2 ∧ m2 = m ∧ L2 = L ∧ K2 = K ∧ Y2 = Y)))
theorem z_dropR_pc (h : z_pc H V m L K) {p q r : Int32} {m2 : Nat} {L2 K2 : Nat → Nat} {Y2 : Nat → Int32} (hr : z_dropR H V m L K Y p q r m2 L2 K2 Y2) : z_pc H V m2 L2 K2 := by
  rcases hr with ⟨-, -, rfl, rfl, rfl, -⟩ | ⟨l, k, l2, k2, j, -, -, -, -, -, -, -, ⟨hz, -, rfl, rfl, rfl, -⟩ | ⟨-, -, rfl, rfl, rfl, -⟩⟩
  · exact h
  · exact z_pc_del h hz.1
  · exact h
theorem z_dropR_one (g : CUT R C H V) (h : z_pc H V m L K) {p q r r' : Int32} {m2 m3 : Nat} {L2 K2 L3 K3 : Nat → Nat} {Y2 Y3 : Nat → Int32} (h1 : z_dropR H V m L K Y p q r m2 L2 K2 Y2) (h2 : z_dropR H V m L K Y p q r' m3 L3 K3 Y3) : r = r' ∧ m2 = m3 ∧ L2 = L3 ∧ K2 = K3 ∧ Y2 = Y3 := by
  rcases h1 with ⟨a, b, c, d, e, f⟩ | ⟨l, k, l2, k2, j, a, hl, ep, eq, hk, ha, hs, hp⟩ <;> rcases h2 with ⟨a', b', c', d', e', f'⟩ | ⟨l', k', l2', k2', j', a', hl', ep', eq', hk', ha', hs', hp'⟩
  · exact ⟨b.trans b'.symm, c.trans c'.symm, d.trans d'.symm, e.trans e'.symm, f.trans f'.symm⟩
  · exact absurd a' a
  · exact absurd a a'
  · have hsl := g.sh hl
    have hsl' := g.sh hl'
    have e1 : l = l' := by rw [ep, nI_eq (by omega) (by omega)] at ep'; exact ep'
    subst e1
    have e2 : k = k' := by rw [eq, nI_eq (by omega) (by omega)] at eq'; exact eq'
    subst e2
    obtain ⟨rfl, rfl⟩ := z_at0_one (g.pos l hl).1 ha ha'
    have e3 := z_slot_one h hs hs'
    subst e3
    rcases hp with ⟨a, b, c, d, e, f⟩ | ⟨a, b, c, d, e, f⟩ <;> rcases hp' with ⟨a', b', c', d', e', f'⟩ | ⟨a', b', c', d', e', f'⟩
    · exact ⟨b.trans b'.symm, c.trans c'.symm, d.trans d'.symm, e.trans e'.symm, f.trans f'.symm⟩
    · exact absurd a a'
    · exact absurd a' a
    · exact ⟨b.trans b'.symm, c.trans c'.symm, d.trans d'.symm, e.trans e'.symm, f.trans f'.symm⟩
theorem r_x_drop (g : GOK R C H V rc cc br zc rw sh) (h : z_pc H V m L K) (hr : z_rp m L K Y fl fk fy) (hN : 1000000 ≤ N) (p q : Int32) : Ok (f_X_drop N fl fk fy (nI m) br zc rw sh p q) (fun x => ∃ r m2 L2 K2 Y2, z_dropR H V m L K Y p q r m2 L2 K2 Y2 ∧ x.1 = r ∧ x.2.2.2.2 = nI m2 ∧ z_rp m2 L2 K2 Y2 x.2.1 x.2.2.1 x.2.2.2.1) := by
  have hb : ∀ l, l < 5 → 2130 * (H l * V l) + 2 ≤ 20000000 := fun l hl => g.2.sh hl
  have hm := h.1
  unfold f_X_drop
  refine Ok.b1 (r_hasSheet g p q) (fun v1 h1 => ?_)
  rcases h1 with ⟨z, rfl⟩ | ⟨z, rfl⟩
  rotate_left
  · exact Ok.ite (fun _ => Ok.ret ⟨_, _, _, _, _, Or.inl ⟨z, rfl, rfl, rfl, rfl, rfl⟩, rfl, rfl, hr⟩) (fun c => absurd rfl c)
  refine Ok.ite (fun c => absurd c (by decide)) (fun _ => ?_)
  have z' := z
  obtain ⟨l, k, hl, rfl, rfl, hk⟩ := z'
  obtain ⟨l2, k2, ha, e1, e2⟩ := r_stored g hN hl hk
  obtain ⟨b1, b2⟩ := z_at0_in g.2 hl hk ha
  obtain ⟨j, hj⟩ := z_slot_ex h l2 k2
  have hbl := hb _ b1
  rw [e1, q_b1_s, e2, q_b1_s]
  refine Ok.b1 (r_find h hb hr hN b1 (by omega) hj) (fun v4 h4 => ?_)
  rcases h4 with ⟨z4, rfl⟩ | ⟨z4, rfl⟩
  · have hjm := z4.1
    refine Ok.ite (fun c => absurd c (z_nIm1 (by omega))) (fun _ => Ok.ain (by omega) (by decide) ?_)
    refine Ok.b4 (r_remove hm hN hjm) (fun f6 f7 f8 v9 hq => ?_)
    obtain ⟨q0, q1, q2, q3⟩ := hq
    dsimp only at q0 q1 q2 q3
    exact Ok.ret ⟨_, _, _, _, _, Or.inr ⟨l, k, l2, k2, j, z, hl, rfl, rfl, hk, ha, hj, Or.inl ⟨z4, rfl, rfl, rfl, rfl, rfl⟩⟩, (hr j hjm).2.2, q0, z_rp_del hr hjm q1 q2 q3⟩
  · exact Ok.ite (fun _ => Ok.ret ⟨_, _, _, _, _, Or.inr ⟨l, k, l2, k2, j, z, hl, rfl, rfl, hk, ha, hj, Or.inr ⟨z4, rfl, rfl, rfl, rfl, rfl⟩⟩, rfl, rfl, hr⟩) (fun c => absurd rfl c)
theorem r_m_drop (g : MOK R C H V cr cq dp wd za) (h : z_pc H V m L K) (hr : z_rp m L K Y fl fk fy) (hN : 1000000 ≤ N) (p q : Int32) : Ok (f_M_drop N dp wd za (nI m) fl fk fy p q) (fun x => ∃ r m2 L2 K2 Y2, z_dropR H V m L K Y p q r m2 L2 K2 Y2 ∧ x.1 = r ∧ x.2.1 = nI m2 ∧ z_rp m2 L2 K2 Y2 x.2.2.1 x.2.2.2.1 x.2.2.2.2) := by
  have hb : ∀ l, l < 5 → 2130 * (H l * V l) + 2 ≤ 20000000 := fun l hl => g.2.2.sh hl
  have hm := h.1
  unfold f_M_drop
  refine Ok.b1 (r_isKey g p q) (fun v1 h1 => ?_)
  rcases h1 with ⟨z, rfl⟩ | ⟨z, rfl⟩
  rotate_left
  · exact Ok.ite (fun _ => Ok.ret ⟨_, _, _, _, _, Or.inl ⟨z, rfl, rfl, rfl, rfl, rfl⟩, rfl, rfl, hr⟩) (fun c => absurd rfl c)
  refine Ok.ite (fun c => absurd c (by decide)) (fun _ => ?_)
  have z' := z
  obtain ⟨l, k, hl, rfl, rfl, hk⟩ := z'
  refine r_where g hN hl hk (fun l2 k2 ha => ?_)
  obtain ⟨b1, b2⟩ := z_at0_in g.2.2 hl hk ha
  have hbl := hb _ b1
  obtain ⟨j, hj⟩ := z_slot_ex h l2 k2
  have hjm := hj.1
  refine Ok.b1 (r_slotOf h hb hr hN b1 (by omega) hj) (fun v7 h7 => ?_)
  subst h7
  refine Ok.b1 (r_isPiece h hb hr b1 (by omega) hjm) (fun v8 h8 => ?_)
  rcases h8 with ⟨z8, rfl⟩ | ⟨z8, rfl⟩
  · have hjl : j < m := z8.1
    refine Ok.ite (fun c => absurd c (by decide)) (fun _ => Ok.ain (by omega) (by decide) ?_)
    refine Ok.b4 (r_removes hm hN hjl) (fun v9 f10 f11 f12 hq => ?_)
    obtain ⟨q0, q1, q2, q3⟩ := hq
    dsimp only at q0 q1 q2 q3
    exact Ok.ret ⟨_, _, _, _, _, Or.inr ⟨l, k, l2, k2, j, z, hl, rfl, rfl, hk, ha, hj, Or.inl ⟨z8, rfl, rfl, rfl, rfl, rfl⟩⟩, (hr j hjl).2.2, q0, z_rp_del hr hjl q1 q2 q3⟩
  · exact Ok.ite (fun _ => Ok.ret ⟨_, _, _, _, _, Or.inr ⟨l, k, l2, k2, j, z, hl, rfl, rfl, hk, ha, hj, Or.inr ⟨z8, rfl, rfl, rfl, rfl, rfl⟩⟩, rfl, rfl, hr⟩) (fun c => absurd rfl c)
/-! renew -/
def z_rnC (L : Nat → Nat) (Y : Nat → Int32) (p y : Int32) (i : Nat) : Bool := decide (nI (L i) = p) && decide (Y i < y)
theorem z_rnC_t {p y : Int32} {i : Nat} (a : nI (L i) = p) (b : Y i < y) : z_rnC L Y p y i = true := by
  unfold z_rnC
  rw [decide_eq_true a, decide_eq_true b]; rfl
theorem z_rnC_n {p y : Int32} {i : Nat} (h : z_rnC L Y p y i = true) : nI (L i) = p ∧ Y i < y := by
  unfold z_rnC at h
  rw [Bool.and_eq_true] at h
  exact ⟨of_decide_eq_true h.1, of_decide_eq_true h.2⟩
def z_rnN (L : Nat → Nat) (Y : Nat → Int32) (p y : Int32) : Nat → Nat
  | 0 => 0
  | i + 1 => z_rnN L Y p y i + (if z_rnC L Y p y i = true then 1 else 0)
theorem z_rnN_s {p y : Int32} {i : Nat} : z_rnN L Y p y (i + 1) = z_rnN L Y p y i + (if z_rnC L Y p y i = true then 1 else 0) := rfl
def z_rnY (L : Nat → Nat) (Y : Nat → Int32) (p y : Int32) (i : Nat) : Nat → Int32 := fun j => if j < i ∧ z_rnC L Y p y j = true then y else Y j
theorem z_rnY_at {p y : Int32} {i : Nat} : z_rnY L Y p y i i = Y i := by
  unfold z_rnY
  rw [if_neg (fun z => Nat.lt_irrefl _ z.1)]
theorem z_rnY_y {p y : Int32} {i : Nat} {f : Nat → Int32} (hf : ∀ j, j < m → f j = z_rnY L Y p y i j) (h : z_rnC L Y p y i = true) : ∀ j, j < m → upd f i y j = z_rnY L Y p y (i + 1) j := by
  intro j hj
  by_cases e : j = i
  · subst e
    rw [z_updS]
    unfold z_rnY
    rw [if_pos ⟨Nat.lt_succ_self _, h⟩]
  · rw [z_updN e, hf j hj]
    unfold z_rnY
    by_cases c : j < i ∧ z_rnC L Y p y j = true
    · rw [if_pos c, if_pos ⟨by omega, c.2⟩]
    · rw [if_neg c, if_neg (fun z => c ⟨by omega, z.2⟩)]
theorem z_rnY_n {p y : Int32} {i : Nat} {f : Nat → Int32} (hf : ∀ j, j < m → f j = z_rnY L Y p y i j) (h : ¬ z_rnC L Y p y i = true) : ∀ j, j < m → f j = z_rnY L Y p y (i + 1) j := by
  intro j hj
  rw [hf j hj]
  unfold z_rnY
  by_cases c : j < i ∧ z_rnC L Y p y j = true
  · rw [if_pos c, if_pos ⟨by omega, c.2⟩]
  · rw [if_neg c, if_neg (fun z => ?_)]
    by_cases e : j = i
    · subst e; exact h z.2
    · exact c ⟨by omega, z.2⟩
theorem r_x_renew_L (hm : m ≤ 60) (hr : z_rp m L K Y fl fk fy) (p y : Int32) : ∀ n i (f : Nat → Int32), i ≤ m → m - i < n → (∀ j, j < m → f j = z_rnY L Y p y i j) → Ok (f_X_renew_L27 p y fl (nI m) n (nI (z_rnN L Y p y i)) (nI i) f) (fun x => x.1 = nI (z_rnN L Y p y m) ∧ ∀ j, j < m → x.2 j = z_rnY L Y p y m j) := by
  intro n
  induction n with
  | zero => intro i f _ h; omega
  | succ n ih =>
    intro i f hi hn hf
    rw [f_X_renew_L27]
    by_cases e : i = m
    · subst e
      exact Ok.ite (fun _ => Ok.ret ⟨rfl, hf⟩) (fun z => absurd (by rw [nI_leI (by omega) (by omega)]; omega) z)
    · refine Ok.ite (fun z => absurd z (by rw [nI_leI (by omega) (by omega)]; omega)) (fun _ => ?_)
      have him : i < m := by omega
      obtain ⟨e1, -, e3⟩ := hr i him
      have ei : f i = Y i := by rw [hf i him, z_rnY_at]
      have no : ¬ z_rnC L Y p y i = true → Ok (q_nm (nI i + 1) fun v13 => f_X_renew_L27 p y fl (nI m) n (nI (z_rnN L Y p y i)) v13 f) (fun x => x.1 = nI (z_rnN L Y p y m) ∧ ∀ j, j < m → x.2 j = z_rnY L Y p y m j) := by
        intro h
        rw [z_nm, nI_1]
        have t := ih (i + 1) f (by omega) (by omega) (z_rnY_n hf h)
        rw [z_rnN_s, if_neg h, Nat.add_zero] at t
        exact t
      rw [z_ai (by omega) (by omega), e1]
      refine Ok.j2 (Ok.ite (fun c1 => ?_) (fun c1 => ?_))
      · rw [z_ai (by omega) (by omega), ei]
        refine Ok.ite (fun c2 => ?_) (fun c2 => ?_)
        · exact no (fun z => by have w := (z_rnC_n z).2; rw [z_lt] at w; rw [z_le] at c2; omega)
        · have h : z_rnC L Y p y i = true := z_rnC_t c1 (z_lt.mpr (by have w : ¬ y.toInt ≤ (Y i).toInt := fun z => c2 (z_le.mpr z); omega))
          rw [z_as (by omega) (by omega), z_nm, nI_1]
          (try dsimp only)
          rw [z_nm, nI_1]
          have t := ih (i + 1) (upd f i y) (by omega) (by omega) (z_rnY_y hf h)
          rw [z_rnN_s, if_pos h] at t
          exact t
      · exact no (fun z => c1 (z_rnC_n z).1)
theorem r_m_renew_L (hm : m ≤ 60) (hr : z_rp m L K Y fl fk fy) (p y : Int32) : ∀ n i (f : Nat → Int32), i ≤ m → m - i < n → (∀ j, j < m → f j = z_rnY L Y p y i j) → Ok (f_M_renew_L21 fl (nI m) p y n (nI (z_rnN L Y p y i)) (nI i) f) (fun x => x.1 = nI (z_rnN L Y p y m) ∧ ∀ j, j < m → x.2 j = z_rnY L Y p y m j) := by
  intro n
  induction n with
  | zero => intro i f _ h; omega
  | succ n ih =>
    intro i f hi hn hf
    rw [f_M_renew_L21]
    by_cases e : i = m
    · subst e
      exact Ok.ite (fun _ => Ok.ret ⟨rfl, hf⟩) (fun z => absurd (by rw [nI_leI (by omega) (by omega)]; omega) z)
    · refine Ok.ite (fun z => absurd z (by rw [nI_leI (by omega) (by omega)]; omega)) (fun _ => ?_)
      have him : i < m := by omega
      obtain ⟨e1, -, e3⟩ := hr i him
      have ei : f i = Y i := by rw [hf i him, z_rnY_at]
      have no : ¬ z_rnC L Y p y i = true → Ok (q_nm (nI i + 1) fun v13 => f_M_renew_L21 fl (nI m) p y n (nI (z_rnN L Y p y i)) v13 f) (fun x => x.1 = nI (z_rnN L Y p y m) ∧ ∀ j, j < m → x.2 j = z_rnY L Y p y m j) := by
        intro h
        rw [z_nm, nI_1]
        have t := ih (i + 1) f (by omega) (by omega) (z_rnY_n hf h)
        rw [z_rnN_s, if_neg h, Nat.add_zero] at t
        exact t
      rw [z_ai (by omega) (by omega), e1]
      refine Ok.j2 (Ok.ite (fun c1 => ?_) (fun c1 => ?_))
      · rw [z_ai (by omega) (by omega), ei]
        refine Ok.ite (fun c2 => ?_) (fun c2 => ?_)
        · have h : z_rnC L Y p y i = true := z_rnC_t c1 c2
          rw [z_as (by omega) (by omega), z_nm, nI_1]
          (try dsimp only)
          rw [z_nm, nI_1]
          have t := ih (i + 1) (upd f i y) (by omega) (by omega) (z_rnY_y hf h)
          rw [z_rnN_s, if_pos h] at t
          exact t
        · exact no (fun z => c2 (z_rnC_n z).2)
      · exact no (fun z => c1 (z_rnC_n z).1)
/-- what renew does -/
def z_renewR (m : Nat) (L : Nat → Nat) (Y : Nat → Int32) (p y r : Int32) (Y2 : Nat → Int32) : Prop :=
  (¬ ((0 ≤ p.toInt ∧ p.toInt ≤ 4) ∧ (1800 ≤ y.toInt ∧ y.toInt ≤ 2100)) ∧ r = -1 ∧ Y2 = Y) ∨ (((0 ≤ p.toInt ∧ p.toInt ≤ 4) ∧ (1800 ≤ y.toInt ∧ y.toInt ≤ 2100)) ∧ r = nI (z_rnN L Y p y m) ∧ Y2 = z_rnY L Y p y m)
theorem z_renewR_one {p y r r' : Int32} {Y2 Y3 : Nat → Int32} (h1 : z_renewR m L Y p y r Y2) (h2 : z_renewR m L Y p y r' Y3) : r = r' ∧ Y2 = Y3 := by
  rcases h1 with ⟨a, b, c⟩ | ⟨a, b, c⟩ <;> rcases h2 with ⟨a', b', c'⟩ | ⟨a', b', c'⟩
  · exact ⟨b.trans b'.symm, c.trans c'.symm⟩
  · exact absurd a' a
  · exact absurd a a'
  · exact ⟨b.trans b'.symm, c.trans c'.symm⟩
theorem z_rp_years (hr : z_rp m L K Y fl fk fy) {Y2 : Nat → Int32} {f : Nat → Int32} (h : ∀ j, j < m → f j = Y2 j) : z_rp m L K Y2 fl fk f :=
  fun i hi => ⟨(hr i hi).1, (hr i hi).2.1, h i hi⟩
theorem r_x_renew (hm : m ≤ 60) (hr : z_rp m L K Y fl fk fy) (hN : 1000000 ≤ N) (p y : Int32) : Ok (f_X_renew N fl fy (nI m) p y) (fun x => ∃ r Y2, z_renewR m L Y p y r Y2 ∧ x.1 = r ∧ z_rp m L K Y2 fl fk x.2) := by
  unfold f_X_renew
  refine Ok.b1 (r_isLevel p) (fun v1 h1 => Ok.ite (fun c => ?_) (fun c1 => ?_))
  · exact Ok.ret ⟨_, _, Or.inl ⟨fun w => z_if0 h1 c w.1, rfl, rfl⟩, rfl, hr⟩
  refine Ok.b1 (s_isFrom y _ _) (fun v2 h2 => Ok.ite (fun c => ?_) (fun c2 => ?_))
  all_goals rw [show (1800 : Int32).toInt = 1800 from rfl, show (2100 : Int32).toInt = 2100 from rfl] at h2
  · exact Ok.ret ⟨_, _, Or.inl ⟨fun w => z_if0 h2 c w.2, rfl, rfl⟩, rfl, hr⟩
  · rw [z_nm, z_nm]
    refine Ok.b2 (r_x_renew_L hm hr p y N 0 fy (Nat.zero_le _) (by omega) (fun j hj => ?_)) (fun v8 f9 hq => ?_)
    · rw [(hr j hj).2.2]
      unfold z_rnY
      rw [if_neg (fun z => Nat.not_lt_zero _ z.1)]
    · exact Ok.ret ⟨_, _, Or.inr ⟨⟨z_if1 h1 c1, z_if1 h2 c2⟩, rfl, rfl⟩, hq.1, z_rp_years hr hq.2⟩
theorem r_m_renew (hm : m ≤ 60) (hr : z_rp m L K Y fl fk fy) (hN : 1000000 ≤ N) (p y : Int32) : Ok (f_M_renew N (nI m) fl fy p y) (fun x => ∃ r Y2, z_renewR m L Y p y r Y2 ∧ x.1 = r ∧ z_rp m L K Y2 fl fk x.2) := by
  unfold f_M_renew
  refine Ok.b1 (t_isLevel p) (fun v1 h1 => Ok.ite (fun c => ?_) (fun c1 => ?_))
  · exact Ok.ret ⟨_, _, Or.inl ⟨fun w => z_if0 h1 c w.1, rfl, rfl⟩, rfl, hr⟩
  refine Ok.b1 (r_isYear y) (fun v2 h2 => Ok.ite (fun c => ?_) (fun c2 => ?_))
  · exact Ok.ret ⟨_, _, Or.inl ⟨fun w => z_if0 h2 c w.2, rfl, rfl⟩, rfl, hr⟩
  · rw [z_nm, z_nm]
    refine Ok.b2 (r_m_renew_L hm hr p y N 0 fy (Nat.zero_le _) (by omega) (fun j hj => ?_)) (fun v8 f9 hq => ?_)
    · rw [(hr j hj).2.2]
      unfold z_rnY
      rw [if_neg (fun z => Nat.not_lt_zero _ z.1)]
    · exact Ok.ret ⟨_, _, Or.inr ⟨⟨z_if1 h1 c1, z_if1 h2 c2⟩, rfl, rfl⟩, hq.1, z_rp_years hr hq.2⟩
end R4
