/-! the reference: its store -/
section MS
variable {R C H V : Nat → Nat} {cr cq dp wd za : Nat → Int32} {N l m : Nat} {pl pk py : Nat → Int32}
def z_ps (H V : Nat → Nat) (pl pk : Nat → Int32) (m : Nat) : Prop := m ≤ 60 ∧ ∀ i, i < m → z_hs H V (pl i) (pk i)
theorem t_slotOf (hN : 1000000 ≤ N) (hm : m ≤ 60) (p q : Int32) : Ok (f_M_slotOf N (nI m) pl pk p q) (fun y => ∃ j, y = nI j ∧ j ≤ m) := by
  have L : ∀ n i, i ≤ m → m - i < n → Ok (f_M_slotOf_L2 pk pl (nI m) p q n (nI i)) (fun y => ∃ j, y = nI j ∧ j ≤ m) := by
    intro n
    induction n with
    | zero => intro i _ h; omega
    | succ n ih =>
      intro i hi hn
      rw [f_M_slotOf_L2]
      refine Ok.ite (fun _ => Ok.ret ⟨i, rfl, hi⟩) (fun hc => ?_)
      rw [nI_leI (by omega) (by omega)] at hc
      refine Ok.ain (by omega) (by decide) (Ok.k0 (fun y => ∃ j, y = nI j ∧ j ≤ m) ?_ (fun K hK => Ok.ite (fun _ => hK) (fun _ => Ok.ain (by omega) (by decide) (Ok.ite (fun _ => Ok.ain (by omega) (by decide) (Ok.ite (fun _ => Ok.ret ⟨i, rfl, hi⟩) (fun _ => hK))) (fun _ => Ok.ret ⟨i, rfl, hi⟩)))))
      rw [z_nm, nI_1]
      exact ih (i + 1) (by omega) (by omega)
  unfold f_M_slotOf
  exact Ok.nm (Ok.b1 (L N 0 (by omega) (by omega)) (fun _ h => Ok.ret h))
theorem t_isPiece (hm : m ≤ 60) {j : Nat} (hj : j ≤ m) (p q : Int32) : Ok (f_M_isPiece (nI m) pl pk (nI j) p q) (fun y => ¬ y = 0 → j < m) := by
  unfold f_M_isPiece
  refine Ok.ite (fun _ => Ok.ret (fun h => absurd rfl h)) (fun hc => ?_)
  rw [nI_leI (by omega) (by omega)] at hc
  have hjm : j < m := by omega
  exact Ok.ain (by omega) (by decide) (Ok.ite (fun _ => Ok.ain (by omega) (by decide) (Ok.ite (fun _ => Ok.ret (fun _ => hjm)) (fun _ => Ok.ret (fun _ => hjm)))) (fun _ => Ok.ret (fun _ => hjm)))
theorem m_puts {i : Nat} (hi : i < 60) (a b c : Int32) : f_M_puts pl pk py (nI i) a b c = some (upd pl i a, upd pk i b, upd py i c) := by
  unfold f_M_puts
  rw [z_as hi (by omega), z_as hi (by omega), z_as hi (by omega)]
theorem t_removes (hN : 1000000 ≤ N) (h : z_ps H V pl pk m) {j : Nat} (hj : j < m) : Ok (f_M_removes N (nI m) pl pk py (nI j)) (fun y => y.1 = nI (m - 1) ∧ z_ps H V y.2.1 y.2.2.1 (m - 1)) := by
  obtain ⟨hm, h⟩ := h
  have L : ∀ n i (a b c : Nat → Int32), i ≤ m - 1 → m - 1 - i < n → (∀ x, x < m → z_hs H V (a x) (b x)) → Ok (f_M_removes_L12 (nI (m - 1)) n (nI i) a b c) (fun y => ∀ x, x < m → z_hs H V (y.1 x) (y.2.1 x)) := by
    intro n
    induction n with
    | zero => intro i a b c _ h; omega
    | succ n ih =>
      intro i a b c hi hn ha
      rw [f_M_removes_L12]
      refine Ok.ite (fun _ => Ok.ret ha) (fun hc => ?_)
      rw [nI_leI (by omega) (by omega)] at hc
      rw [nI_1, z_ai (by omega) (by omega), z_ai (by omega) (by omega), z_ai (by omega) (by omega), m_puts (by omega), q_b3_s, z_nm]
      refine ih (i + 1) _ _ _ (by omega) (by omega) (fun x hx => ?_)
      by_cases e : x = i
      · subst e; rw [z_updS, z_updS]; exact ha _ (by omega)
      · rw [z_updN e, z_updN e]; exact ha _ hx
  unfold f_M_removes
  rw [z_sub1 (by omega)]
  exact Ok.nm (Ok.b3 (L N j pl pk py (by omega) (by omega) h) (fun f6 f7 f8 hq => Ok.ret ⟨rfl, by omega, fun i hi => hq i (by omega)⟩))
/-- what is stored: a cap at level 0 -/
theorem t_where (g : MOK R C H V cr cq dp wd za) (hN : 1000000 ≤ N) (hl : l < 5) {k : Nat} (hk : k < 2130 * (H l * V l) + 2) {α : Type} {P : α → Prop} {G : Int32 → Int32 → Option α} (hG : ∀ a b, z_hs H V a b → Ok (G a b) P) : Ok (q_b1 (f_M_isCap dp wd za (nI l) (nI k)) (fun (v3 : Int32) => q_j1 (fun (v4 : Int32) => (q_b1 (f_M_isCap dp wd za (nI l) (nI k)) (fun (v5 : Int32) => q_j1 (fun (v6 : Int32) => (G v4 v6 : Option α)) (fun (k54 : Int32 → Option α) => if v5 = 0 then (k54 (nI k)) else (q_b1 (f_M_parentOf N dp wd za (nI l) (nI k) 0) (fun (v31 : Int32) => k54 v31)))) : Option α)) (fun (k32 : Int32 → Option α) => if v3 = 0 then (k32 (nI l)) else (k32 0)))) P := by
  rcases t_isCap g hl hk with ⟨c, e⟩ | ⟨c, e⟩ <;> rw [e, q_b1_s]
  · refine Ok.k1 (fun v => v = nI 0) P (fun v4 h4 => ?_) (fun K hK => Ok.ite (fun h => absurd h (by decide)) (fun _ => hK _ rfl))
    subst h4
    rw [q_b1_s]
    refine Ok.k1 (fun v => z_hs H V (nI 0) v) P (fun v6 h6 => hG _ _ h6) (fun K hK => Ok.ite (fun h => absurd h (by decide)) (fun _ => ?_))
    refine Ok.b1 (t_parentOf g (by omega) hl (t := 0) (by omega) hk) (fun v31 h31 => hK _ ?_)
    obtain ⟨k2, e2, hk2⟩ := h31 c
    exact ⟨0, k2, by omega, rfl, e2, hk2⟩
  · refine Ok.k1 (fun v => v = nI l) P (fun v4 h4 => ?_) (fun K hK => Ok.ite (fun _ => hK _ rfl) (fun h => absurd rfl h))
    subst h4
    rw [q_b1_s]
    exact Ok.k1 (fun v => z_hs H V (nI l) v) P (fun v6 h6 => hG _ _ h6) (fun K hK => Ok.ite (fun _ => hK _ ⟨l, k, hl, rfl, rfl, hk⟩) (fun h => absurd rfl h))
theorem t_store (g : MOK R C H V cr cq dp wd za) (hN : 1000000 ≤ N) (h : z_ps H V pl pk m) (p q y : Int32) : Ok (f_M_store N dp wd za (nI m) pl pk py p q y) (fun x => ∃ m2, x.2.1 = nI m2 ∧ z_ps H V x.2.2.1 x.2.2.2.1 m2) := by
  have hno : ∀ a : Int32, Ok (some (a, nI m, pl, pk, py)) (fun x => ∃ m2, x.2.1 = nI m2 ∧ z_ps H V x.2.2.1 x.2.2.2.1 m2) := fun a => Ok.ret ⟨m, rfl, h⟩
  obtain ⟨hm, hv⟩ := h
  unfold f_M_store
  refine Ok.b1 (t_isKey g p q) (fun v1 h1 => Ok.ite (fun _ => hno _) (fun n1 => Ok.b1 (t_isYear y) (fun v2 h2 => Ok.ite (fun _ => hno _) (fun n2 => ?_))))
  obtain ⟨l, k, hl, rfl, rfl, hk⟩ := h1 n1
  refine t_where g hN hl hk (fun a b hab => ?_)
  refine Ok.b1 (t_slotOf hN hm a b) (fun v7 h7 => ?_)
  obtain ⟨j, rfl, hj⟩ := h7
  refine Ok.b1 (t_isPiece hm hj a b) (fun v8 h8 => ?_)
  refine Ok.k4 (fun v9 f10 f11 _ => ∃ m2, v9 = nI m2 ∧ m2 ≤ 60 ∧ j < m2 ∧ ∀ i, i < m2 → i ≠ j → z_hs H V (f10 i) (f11 i)) (fun x => ∃ m2, x.2.1 = nI m2 ∧ z_ps H V x.2.2.1 x.2.2.2.1 m2) (fun v9 f10 f11 f12 h9 => ?_) (fun K hK => Ok.ite (fun _ => Ok.ite (fun _ => hno _) (fun h60 => ?_)) (fun n8 => hK _ _ _ _ ⟨m, rfl, hm, h8 n8, fun i hi _ => hv i hi⟩))
  · obtain ⟨m2, rfl, a1, a2, a3⟩ := h9
    rw [m_puts (by omega), q_b3_s]
    refine Ok.ret ⟨m2, rfl, a1, fun i hi => ?_⟩
    dsimp only
    by_cases e : i = j
    · subst e; rw [z_updS, z_updS]; exact hab
    · rw [z_updN e, z_updN e]; exact a3 i hi e
  · rw [z_i 60, nI_eq (by omega) (by omega)] at h60
    have L : ∀ n i (a b c : Nat → Int32), j ≤ i → i ≤ m → i - j < n → (∀ x, x ≤ m → x ≠ i → z_hs H V (a x) (b x)) → Ok (f_M_store_L97 (nI j) n (nI i) a b c) (fun y => ∀ x, x ≤ m → x ≠ j → z_hs H V (y.1 x) (y.2.1 x)) := by
      intro n
      induction n with
      | zero => intro i a b c _ _ h; omega
      | succ n ih =>
        intro i a b c hij him hn ha
        rw [f_M_store_L97]
        by_cases e : i = j
        · subst e
          exact Ok.ite (fun _ => Ok.ret ha) (fun hc => absurd (by rw [nI_leI (by omega) (by omega)]; omega) hc)
        · refine Ok.ite (fun hc => absurd hc (by rw [nI_leI (by omega) (by omega)]; omega)) (fun _ => ?_)
          rw [z_m1, z_sub1 (by omega), z_ai (by omega) (by omega), z_ai (by omega) (by omega), z_ai (by omega) (by omega), m_puts (by omega), q_b3_s, z_nm]
          refine ih (i - 1) _ _ _ (by omega) (by omega) (by omega) (fun x hx hne => ?_)
          by_cases e2 : x = i
          · subst e2; rw [z_updS, z_updS]; exact ha _ (by omega) (by omega)
          · rw [z_updN e2, z_updN e2]; exact ha _ hx e2
    refine Ok.b3 (L N m pl pk py hj (Nat.le_refl _) (by omega) (fun x hx hne => hv x (by omega))) (fun f20 f21 f22 hq => Ok.nm ?_)
    rw [nI_1]
    exact hK _ _ _ _ ⟨m + 1, rfl, by omega, by omega, fun i hi hne => hq i (by omega) hne⟩
theorem t_drop (g : MOK R C H V cr cq dp wd za) (hN : 1000000 ≤ N) (h : z_ps H V pl pk m) (p q : Int32) : Ok (f_M_drop N dp wd za (nI m) pl pk py p q) (fun x => ∃ m2, x.2.1 = nI m2 ∧ z_ps H V x.2.2.1 x.2.2.2.1 m2) := by
  have hno : ∀ a : Int32, Ok (some (a, nI m, pl, pk, py)) (fun x => ∃ m2, x.2.1 = nI m2 ∧ z_ps H V x.2.2.1 x.2.2.2.1 m2) := fun a => Ok.ret ⟨m, rfl, h⟩
  have hm := h.1
  unfold f_M_drop
  refine Ok.b1 (t_isKey g p q) (fun v1 h1 => Ok.ite (fun _ => hno _) (fun n1 => ?_))
  obtain ⟨l, k, hl, rfl, rfl, hk⟩ := h1 n1
  refine t_where g hN hl hk (fun a b hab => ?_)
  refine Ok.b1 (t_slotOf hN hm a b) (fun v7 h7 => ?_)
  obtain ⟨j, rfl, hj⟩ := h7
  refine Ok.b1 (t_isPiece hm hj a b) (fun v8 h8 => Ok.ite (fun _ => hno _) (fun n8 => ?_))
  have hjm := h8 n8
  refine Ok.ain (by omega) (by decide) (Ok.b4 (t_removes hN h hjm) (fun v9 f10 f11 f12 hq => Ok.ret ⟨m - 1, ?_, ?_⟩))
  · exact hq.1
  · exact hq.2
theorem t_piece (hm : m ≤ 60) (p q : Int32) : Ok (f_M_piece (nI m) pl pk py p q) (fun _ => True) := by
  unfold f_M_piece
  refine Ok.ite (fun _ => Ok.t) (fun h0 => Ok.b1 (t_in _ _ _) (fun _ _ => Ok.ite (fun _ => Ok.t) (fun _ => Ok.ite (fun h1 => ?_) (fun _ => Ok.t))))
  obtain ⟨j, j1, rfl⟩ := nI_of h0
  rw [nI_ltI (by omega) (by omega)] at h1
  exact Ok.ite (fun _ => Ok.ain (by omega) (by decide) Ok.t) (fun _ => Ok.ite (fun _ => Ok.ain (by omega) (by decide) Ok.t) (fun _ => Ok.ain (by omega) (by decide) Ok.t))
theorem t_shownOf (g : MOK R C H V cr cq dp wd za) (hN : 1000000 ≤ N) (h : z_ps H V pl pk m) (a b c : Int32) : Ok (f_M_shownOf N dp wd za (nI m) pl pk py a b c) (fun _ => True) := by
  obtain ⟨hm, hv⟩ := h
  have L : ∀ n i (x y z : Int32), i ≤ m → m - i < n → Ok (f_M_shownOf_L14 dp pk pl py (nI m) wd za a b n x y z (nI i)) (fun _ => True) := by
    intro n
    induction n with
    | zero => intro i x y z _ h; omega
    | succ n ih =>
      intro i x y z hi hn
      rw [f_M_shownOf_L14]
      refine Ok.ite (fun _ => Ok.t) (fun hc => ?_)
      rw [nI_leI (by omega) (by omega)] at hc
      obtain ⟨l, k, hl, el, ek, hk⟩ := hv i (by omega)
      refine Ok.ain (by omega) (by decide) ?_
      rw [el]
      refine Ok.b1 (t_keyAtPlace g hl _ _) (fun v13 _ => Ok.ain (by omega) (by decide) ?_)
      refine Ok.k3 (fun _ _ _ => True) (fun _ => True) (fun v15 v16 v17 _ => ?_) (fun K hK => Ok.ite (fun _ => Ok.nm (Ok.ain (by omega) (by decide) (Ok.ain (by omega) (by decide) (Ok.k1 (fun _ => True) (fun _ => True) (fun v22 _ => hK _ _ _ trivial) (fun K2 h2 => Ok.ite (fun _ => h2 _ trivial) (fun _ => Ok.ain (by omega) (by decide) (h2 _ trivial))))))) (fun _ => hK _ _ _ trivial))
      rw [z_nm, nI_1]
      exact ih (i + 1) _ _ _ (by omega) (by omega)
  unfold f_M_shownOf
  exact Ok.nm (Ok.nm (Ok.nm (Ok.nm (Ok.b3 (L N 0 _ _ _ (by omega) (by omega)) (fun _ _ _ _ => Ok.ite (fun _ => Ok.t) (fun _ => Ok.ite (fun _ => Ok.t) (fun _ => Ok.t)))))))
theorem t_shown (g : MOK R C H V cr cq dp wd za) (hN : 1000000 ≤ N) (h : z_ps H V pl pk m) (a b c : Int32) : Ok (f_M_shown N dp wd za (nI m) pl pk py a b c) (fun _ => True) := by
  unfold f_M_shown
  exact Ok.b1 (t_isPlace _ _) (fun _ _ => Ok.ite (fun _ => Ok.t) (fun _ => Ok.b1 (t_in _ _ _) (fun _ _ => Ok.ite (fun _ => Ok.t) (fun _ => Ok.b1 (t_shownOf g hN h _ _ _) (fun _ _ => Ok.t)))))
theorem t_isLacking (g : MOK R C H V cr cq dp wd za) (hN : 1000000 ≤ N) (h : z_ps H V pl pk m) (hl : l < 5) {k : Nat} (hk : k < 2130 * (H l * V l) + 2) (bl bo : Int64) (ed : Nat → Int64) (y : Int32) : Ok (f_M_isLacking N dp wd za bl bo ed (nI m) pl pk py (nI l) (nI k) y) (fun _ => True) := by
  unfold f_M_isLacking
  exact Ok.b4 (t_middleOf g (by omega) hl hk _ _ _ _) (fun _ _ _ _ _ => Ok.b4 (t_middleOf g (by omega) hl hk _ _ _ _) (fun _ _ _ _ _ => Ok.b1 (t_shownOf g hN h _ _ _) (fun _ _ => Ok.k0 (fun _ => True) Ok.t (fun K hK => Ok.ite (fun _ => hK) (fun _ => Ok.ite (fun _ => hK) (fun _ => Ok.t))))))
theorem t_years (hN : 1000000 ≤ N) (hm : m ≤ 60) (a b c : Int32) : Ok (f_M_years N (nI m) py a b c) (fun _ => True) := by
  have L : ∀ n i (x y z : Int32), i ≤ m → m - i < n → Ok (f_M_years_L48 py (nI m) a b n x y z (nI i)) (fun _ => True) := by
    intro n
    induction n with
    | zero => intro i x y z _ h; omega
    | succ n ih =>
      intro i x y z hi hn
      rw [f_M_years_L48]
      refine Ok.ite (fun _ => Ok.t) (fun hc => ?_)
      rw [nI_leI (by omega) (by omega)] at hc
      have hi60 : i < 60 := by omega
      refine Ok.ain hi60 (by decide) (Ok.b1 (t_in _ _ _) (fun v16 _ => Ok.k3 (fun _ _ _ => True) (fun _ => True) (fun v17 v18 v19 _ => ?_) (fun K hK => Ok.ite (fun _ => hK _ _ _ trivial) (fun _ => Ok.nm (Ok.k1 (fun _ => True) (fun _ => True) (fun v22 _ => Ok.ain hi60 (by decide) (Ok.k1 (fun _ => True) (fun _ => True) (fun v24 _ => hK _ _ _ trivial) (fun K2 h2 => Ok.ite (fun _ => h2 _ trivial) (fun _ => Ok.ain hi60 (by decide) (h2 _ trivial))))) (fun K1 h1 => Ok.k0 (fun _ => True) (Ok.ain hi60 (by decide) (h1 _ trivial)) (fun K3 h3 => Ok.ite (fun _ => h3) (fun _ => Ok.ain hi60 (by decide) (Ok.ite (fun _ => h1 _ trivial) (fun _ => h3))))))))))
      rw [z_nm, nI_1]
      exact ih (i + 1) _ _ _ (by omega) (by omega)
  unfold f_M_years
  exact Ok.b1 (t_isAnyYear _) (fun _ _ => Ok.ite (fun _ => Ok.t) (fun _ => Ok.b1 (t_in _ _ _) (fun _ _ => Ok.ite (fun _ => Ok.t) (fun _ => Ok.b1 (t_in _ _ _) (fun _ _ => Ok.ite (fun _ => Ok.t) (fun _ => Ok.nm (Ok.nm (Ok.nm (Ok.nm (Ok.b3 (L N 0 _ _ _ (by omega) (by omega)) (fun _ _ _ _ => Ok.ite (fun _ => Ok.t) (fun _ => Ok.ite (fun _ => Ok.t) (fun _ => Ok.t)))))))))))))
theorem t_renew (hN : 1000000 ≤ N) (hm : m ≤ 60) (a b : Int32) : Ok (f_M_renew N (nI m) pl py a b) (fun _ => True) := by
  have L : ∀ n i (x : Int32) (f : Nat → Int32), i ≤ m → m - i < n → Ok (f_M_renew_L21 pl (nI m) a b n x (nI i) f) (fun _ => True) := by
    intro n
    induction n with
    | zero => intro i x f _ h; omega
    | succ n ih =>
      intro i x f hi hn
      rw [f_M_renew_L21]
      refine Ok.ite (fun _ => Ok.t) (fun hc => ?_)
      rw [nI_leI (by omega) (by omega)] at hc
      have hi60 : i < 60 := by omega
      refine Ok.ain hi60 (by decide) (Ok.k2 (fun _ _ => True) (fun _ => True) (fun v11 f12 _ => ?_) (fun K hK => Ok.ite (fun _ => Ok.ain hi60 (by decide) (Ok.ite (fun _ => Ok.asn hi60 (by decide) (Ok.nm (hK _ _ trivial))) (fun _ => hK _ _ trivial))) (fun _ => hK _ _ trivial)))
      rw [z_nm, nI_1]
      exact ih (i + 1) _ _ (by omega) (by omega)
  unfold f_M_renew
  exact Ok.b1 (t_isLevel _) (fun _ _ => Ok.ite (fun _ => Ok.t) (fun _ => Ok.b1 (t_isYear _) (fun _ _ => Ok.ite (fun _ => Ok.t) (fun _ => Ok.nm (Ok.nm (Ok.b2 (L N 0 _ _ (by omega) (by omega)) (fun _ _ _ => Ok.t)))))))
theorem t_oldest (hN : 1000000 ≤ N) (hm : m ≤ 60) (a b : Int32) : Ok (f_M_oldest N (nI m) pl pk py a b) (fun _ => True) := by
  have L : ∀ n i (x y : Int32), i ≤ m → m - i < n → (x = -1 ∨ ∃ j, j < 60 ∧ x = nI j) → Ok (f_M_oldest_L29 pl py (nI m) a n x y (nI i)) (fun z => z.1 = -1 ∨ ∃ j, j < 60 ∧ z.1 = nI j) := by
    intro n
    induction n with
    | zero => intro i x y _ h; omega
    | succ n ih =>
      intro i x y hi hn hx
      rw [f_M_oldest_L29]
      refine Ok.ite (fun _ => Ok.ret hx) (fun hc => ?_)
      rw [nI_leI (by omega) (by omega)] at hc
      have hi60 : i < 60 := by omega
      refine Ok.ain hi60 (by decide) (Ok.k2 (fun v _ => v = -1 ∨ ∃ j, j < 60 ∧ v = nI j) (fun z => z.1 = -1 ∨ ∃ j, j < 60 ∧ z.1 = nI j) (fun v14 v15 h14 => ?_) (fun K hK => Ok.ite (fun _ => ?_) (fun _ => hK _ _ hx)))
      · rw [z_nm, nI_1]
        exact ih (i + 1) _ _ (by omega) (by omega) h14
      · refine Ok.k0 (fun z => z.1 = -1 ∨ ∃ j, j < 60 ∧ z.1 = nI j) ?_ (fun K73 h73 => Ok.ite (fun _ => h73) (fun hne => ?_))
        · refine Ok.k1 (fun _ => True) (fun z => z.1 = -1 ∨ ∃ j, j < 60 ∧ z.1 = nI j) (fun v17 _ => Ok.ite (fun _ => hK _ _ (Or.inr ⟨i, hi60, rfl⟩)) (fun _ => hK _ _ hx)) (fun K2 h2 => Ok.k0 (fun z => z.1 = -1 ∨ ∃ j, j < 60 ∧ z.1 = nI j) (h2 _ trivial) (fun K3 h3 => Ok.ite (fun _ => h3) (fun hne => ?_)))
          rcases hx with rfl | ⟨j, hj, rfl⟩
          · exact absurd rfl hne
          · exact Ok.ain hi60 (by decide) (Ok.ain hj (by decide) (Ok.ite (fun _ => h2 _ trivial) (fun _ => h3)))
        · rcases hx with rfl | ⟨j, hj, rfl⟩
          · exact absurd rfl hne
          · exact Ok.ain hi60 (by decide) (Ok.ain hj (by decide) (Ok.ite (fun _ => h73) (fun _ => hK _ _ (Or.inr ⟨j, hj, rfl⟩))))
  unfold f_M_oldest
  refine Ok.b1 (t_isLevel _) (fun _ _ => Ok.ite (fun _ => Ok.t) (fun _ => Ok.b1 (t_in _ _ _) (fun _ _ => Ok.ite (fun _ => Ok.t) (fun _ => Ok.nm (Ok.nm (Ok.nm (Ok.b2 (L N 0 _ _ (by omega) (by omega) (Or.inl rfl)) (fun v9 v10 h9 => Ok.ite (fun _ => Ok.t) (fun hne => ?_)))))))))
  rcases h9 with h9 | ⟨j, hj, h9⟩
  · exact absurd h9 hne
  · dsimp only at h9
    subst h9
    exact Ok.ite (fun _ => Ok.ain hj (by decide) Ok.t) (fun _ => Ok.ite (fun _ => Ok.ain hj (by decide) Ok.t) (fun _ => Ok.t))
theorem t_isNeedless (g : MOK R C H V cr cq dp wd za) (hN : 1000000 ≤ N) (h : z_ps H V pl pk m) {j : Nat} (hj : j < m) : Ok (f_M_isNeedless N dp wd za (nI m) pl pk py (nI j)) (fun _ => True) := by
  obtain ⟨hm, hv⟩ := h
  have L : ∀ n i, i ≤ m → m - i < n → Ok (f_M_isNeedless_L2 N dp pk pl py (nI m) wd za (nI j) n (nI i)) (fun _ => True) := by
    intro n
    induction n with
    | zero => intro i _ h; omega
    | succ n ih =>
      intro i hi hn
      rw [f_M_isNeedless_L2]
      refine Ok.ite (fun _ => Ok.t) (fun hc => ?_)
      rw [nI_leI (by omega) (by omega)] at hc
      have hi60 : i < 60 := by omega
      have hj60 : j < 60 := by omega
      obtain ⟨t, k, ht, et, ek, hk⟩ := hv i (by omega)
      obtain ⟨l, k2, hl, el, ek2, hk2⟩ := hv j (by omega)
      refine Ok.ain hi60 (by decide) (Ok.ain hj60 (by decide) (Ok.k0 (fun _ => True) ?_ (fun K hK => Ok.ite (fun _ => hK) (fun hlt => Ok.ain hi60 (by decide) (Ok.ain hj60 (by decide) (Ok.ite (fun _ => hK) (fun _ => Ok.ain hj60 (by decide) (Ok.ain hj60 (by decide) (Ok.ain hi60 (by decide) ?_)))))))))
      · rw [z_nm, nI_1]
        exact ih (i + 1) (by omega) (by omega)
      · rw [et, el, nI_leI (by omega) (by omega)] at hlt
        rw [et, el, ek2]
        exact Ok.b1 (t_parentOf g (by omega) hl (t := t) (by omega) hk2) (fun _ _ => Ok.ain hi60 (by decide) (Ok.ite (fun _ => Ok.t) (fun _ => hK)))
  unfold f_M_isNeedless
  exact Ok.nm (Ok.s0 (L N 0 (by omega) (by omega)) (fun _ => Ok.t) (fun _ _ => trivial))
theorem t_tidy (g : MOK R C H V cr cq dp wd za) (hN : 1000000 ≤ N) (h : z_ps H V pl pk m) : Ok (f_M_tidy N dp wd za (nI m) pl pk py) (fun x => ∃ m2, x.2.1 = nI m2 ∧ z_ps H V x.2.2.1 x.2.2.2.1 m2) := by
  have L : ∀ n j m (x : Int32) (a b c : Nat → Int32), j ≤ m → j < n → z_ps H V a b m → Ok (f_M_tidy_L9 N dp wd za n x (nI j - 1) (nI m) a b c) (fun x => ∃ m2, x.2.1 = nI m2 ∧ z_ps H V x.2.2.1 x.2.2.2.1 m2) := by
    intro n
    induction n with
    | zero => intro j m x a b c _ h; omega
    | succ n ih =>
      intro j m x a b c hj hn hp
      have hm := hp.1
      rw [f_M_tidy_L9]
      by_cases h0 : j = 0
      · subst h0
        exact Ok.ite (fun _ => Ok.ret ⟨m, rfl, hp⟩) (fun h => absurd (by decide) h)
      · rw [z_sub1 (by omega)]
        refine Ok.ite (fun hc => absurd hc (z_lt0 (by omega))) (fun _ => Ok.b1 (t_isNeedless g hN hp (by omega)) (fun v14 _ => ?_))
        refine Ok.k5 (fun _ v16 f17 f18 _ => ∃ m2, v16 = nI m2 ∧ j - 1 ≤ m2 ∧ z_ps H V f17 f18 m2) (fun x => ∃ m2, x.2.1 = nI m2 ∧ z_ps H V x.2.2.1 x.2.2.2.1 m2) (fun v15 v16 f17 f18 f19 h16 => ?_) (fun K hK => Ok.ite (fun _ => hK _ _ _ _ _ ⟨m, rfl, by omega, hp⟩) (fun _ => Ok.b4 (t_removes hN hp (by omega)) (fun v21 f22 f23 f24 hq => Ok.nm (hK _ _ _ _ _ ⟨m - 1, hq.1, by omega, hq.2⟩))))
        obtain ⟨m2, rfl, b1, b2⟩ := h16
        rw [z_nm, z_m1]
        exact ih (j - 1) m2 _ _ _ _ b1 (by omega) b2
  have hm := h.1
  unfold f_M_tidy
  exact Ok.nm (Ok.nm (Ok.b5 (L N m m 0 pl pk py (Nat.le_refl _) (by omega) h) (fun _ _ _ _ _ hq => Ok.ret hq)))
end MS
