/-! texts, tape, reader, question, store: no call stops -/
section SS
variable {R C H V : Nat → Nat} {rc cc br zc rw sh : Nat → Int32} {N l : Nat}
def z_tx (v : Int32) : Prop := 0 ≤ v.toInt ∧ v.toInt ≤ 40
theorem s_txAdd (f : Nat → Int32) {v : Int32} (h : z_tx v) (x : Int32) : Ok (f_NameText_add f v x) (fun r => z_tx r.2) := by
  unfold f_NameText_add
  refine Ok.ite (fun _ => Ok.ret h) (fun hc => ?_)
  have h1 : ¬ (40 : Int32).toInt ≤ v.toInt := fun z => hc (z_le.mpr z)
  rw [show (40 : Int32).toInt = 40 from rfl] at h1
  obtain ⟨h2, h3⟩ := h
  refine Ok.as ⟨h2, by omega⟩ (Ok.nm (Ok.ret ?_))
  have e1 : (1 : Int32).toInt = 1 := rfl
  have e : (v + 1).toInt = v.toInt + 1 := by rw [fb_addI (by omega) (by omega), e1]
  unfold z_tx
  simp only [e]; omega
theorem s_txAddNumber (f : Nat → Int32) {v : Int32} (h : z_tx v) (x : Int32) : Ok (f_NameText_addNumber f v x) (fun r => z_tx r.2) := by
  unfold f_NameText_addNumber
  refine Ok.k2 (fun _ v => z_tx v) (fun r => z_tx r.2) (fun f v h => Ok.rm (by decide) (Ok.b2 (s_txAdd f h _) (fun _ _ h => Ok.ret h))) (fun K hK => ?_)
  exact Ok.ite (fun _ => hK _ _ h) (fun _ => Ok.dv (by decide) (Ok.b2 (s_txAdd f h _) (fun _ _ h => hK _ _ h)))
theorem z_lvl {i : Nat} (hi : i < 2 ^ 31) (hl : l < 5) (h : ¬ nI l < nI i) : i ≤ l := by
  rw [nI_ltI (by omega) hi] at h; omega
theorem s_write_L (g : GOK R C H V rc cc br zc rw sh) (hl : l < 5) (c p r : Int32) : ∀ (k i : Nat) (f : Nat → Int32) (v : Int32), i ≤ l + 1 → l + 1 - i < k → z_tx v → Ok (f_NameText_write_L86 br cc rc zc c (nI l) p r k (nI i) f v) (fun r => z_tx r.2) := by
  intro k
  induction k with
  | zero => intro i f v _ h; omega
  | succ k ih =>
    intro i f v hi hk hv
    rw [f_NameText_write_L86]
    refine Ok.ite (fun _ => Ok.ret hv) (fun hc => ?_)
    have hil := z_lvl (by omega) hl hc
    refine Ok.b2 (s_txAdd f hv _) (fun f2 v2 hv2 => Ok.b1 (s_numberOf g hl hil _ _ _) (fun x _ => Ok.b2 (s_txAddNumber f2 hv2 x) (fun f3 v3 hv3 => Ok.nm ?_)))
    rw [nI_1]; exact ih (i + 1) f3 v3 (by omega) (by omega) hv3
theorem s_write (g : GOK R C H V rc cc br zc rw sh) (hN : 100000 ≤ N) (hl : l < 5) (r p c : Int32) (f : Nat → Int32) (v : Int32) : Ok (f_NameText_write N (nI l) r p c f v rc cc br zc) (fun r => z_tx r.2) := by
  have h0 : z_tx 0 := by unfold z_tx; decide
  unfold f_NameText_write
  refine Ok.ite (fun _ => Ok.b1 (s_band g hl r c) (fun v1 _ => ?_)) (fun _ => ?_)
  · refine Ok.k1 (fun _ => True) (fun r => z_tx r.2) (fun x1 _ => Ok.b2 (s_txAdd f h0 _) (fun f3 v4 h4 => ?_)) (fun K hK => Ok.ite (fun _ => hK _ trivial) (fun _ => hK _ trivial))
    refine Ok.k1 (fun _ => True) (fun r => z_tx r.2) (fun x5 _ => Ok.b2 (s_txAdd f3 h4 _) (fun f6 v7 h7 => ?_)) (fun K hK => Ok.ite (fun _ => hK _ trivial) (fun _ => hK _ trivial))
    refine Ok.b1 (s_numberOf g hl (t := 0) (by omega) r p c) (fun x8 _ => Ok.b2 (s_txAddNumber f6 h7 _) (fun f9 v10 h10 => Ok.nm ?_))
    exact Ok.b2 (s_write_L g hl c p r N 1 f9 v10 (by omega) (by omega) h10) (fun _ _ h => Ok.ret h)
  · refine Ok.k1 (fun _ => True) (fun r => z_tx r.2) (fun x1 _ => Ok.b2 (s_txAdd f h0 _) (fun f3 v4 h4 => Ok.b2 (s_txAdd f3 h4 _) (fun _ _ h => Ok.ret h))) (fun K hK => Ok.ite (fun _ => hK _ trivial) (fun _ => hK _ trivial))
theorem s_against_L (f1 f2 : Nat → Int32) {m : Int32} (hm : m.toInt ≤ 40) : ∀ (k : Nat) (v : Int32), 0 ≤ v.toInt → (m.toInt - v.toInt).toNat < k → Ok (f_NameText_against_L14 f1 f2 m k v) (fun _ => True) := by
  intro k
  induction k with
  | zero => intro v _ h; omega
  | succ k ih =>
    intro v h0 hk
    rw [f_NameText_against_L14]
    refine Ok.ite (fun _ => Ok.t) (fun hc => ?_)
    have h1 : ¬ m.toInt ≤ v.toInt := fun z => hc (z_le.mpr z)
    have hi : z_in 40 v := ⟨h0, by omega⟩
    have h2 := z_up (x := v) (y := m) (z_lt.mpr (by omega))
    refine Ok.ai hi (Ok.ai hi (Ok.ite (fun _ => Ok.nm (ih _ (by omega) (z_upm hc hk))) (fun _ => Ok.ai hi (Ok.ai hi (Ok.b1 (s_cmp _ _) (fun _ _ => Ok.t))))))
theorem s_against (hN : 100000 ≤ N) (f1 f2 : Nat → Int32) {v w : Int32} (hv : z_tx v) (hw : z_tx w) : Ok (f_NameText_against N f1 v f2 w) (fun _ => True) := by
  unfold f_NameText_against
  have hm : (if w < v then w else v : Int32).toInt ≤ 40 ∧ 0 ≤ (if w < v then w else v : Int32).toInt := by
    unfold z_tx at hv hw
    split <;> omega
  refine Ok.nm (Ok.nm (Ok.s0 (s_against_L f1 f2 hm.1 N 0 (by decide) ?_) (fun _ => Ok.b1 (s_cmp _ _) (fun _ _ => Ok.t)) (fun _ _ => trivial)))
  rw [show (0 : Int32).toInt = 0 from rfl]; omega
/-! the tape -/
theorem k_tpAdd {n : Nat} (x : Int32) (f : Nat → Int32) {t : Nat} (ht : t + 4 ≤ 200) : ∃ f', f_Tape_add (n + 5) f (nI t) x = some (f', nI (t + 4)) := by
  unfold f_Tape_add
  rw [z_nm, f_Tape_add_L3, if_neg (by decide), if_neg (by rw [z_i 200, nI_leI (by omega) (by omega)]; omega), z_as (by omega) (by omega), z_nm, z_nm, nI_1, show (24 + -8 : Int32) = 16 from rfl]
  rw [f_Tape_add_L3, if_neg (by decide), if_neg (by rw [z_i 200, nI_leI (by omega) (by omega)]; omega), z_as (by omega) (by omega), z_nm, z_nm, nI_1, show (16 + -8 : Int32) = 8 from rfl]
  rw [f_Tape_add_L3, if_neg (by decide), if_neg (by rw [z_i 200, nI_leI (by omega) (by omega)]; omega), z_as (by omega) (by omega), z_nm, z_nm, nI_1, show (8 + -8 : Int32) = 0 from rfl]
  rw [f_Tape_add_L3, if_neg (by decide), if_neg (by rw [z_i 200, nI_leI (by omega) (by omega)]; omega), z_as (by omega) (by omega), z_nm, z_nm, nI_1, show (0 + -8 : Int32) = -8 from rfl]
  rw [f_Tape_add_L3, if_pos (by decide), q_b2_s]
  exact ⟨_, rfl⟩
theorem s_blank_L (f : Nat → Int32) (e : Int32) {t : Nat} (ht : t ≤ 200) : ∀ (k : Nat) (v : Int32), 0 ≤ v.toInt → ((t : Int) - v.toInt).toNat < k → Ok (f_Tape_blankFrom_L2 e f (nI t) k v) (fun x => x = .inl () ∨ ∃ y : Int32, x = .inr y ∧ 0 ≤ y.toInt ∧ y.toInt < 200) := by
  intro k
  induction k with
  | zero => intro v _ h; omega
  | succ k ih =>
    intro v h0 hk
    rw [f_Tape_blankFrom_L2]
    refine Ok.ite (fun _ => Ok.ret (Or.inl rfl)) (fun _ => Ok.ite (fun _ => Ok.ret (Or.inl rfl)) (fun hc => ?_))
    have h1 : ¬ (nI t).toInt ≤ v.toInt := fun z => hc (z_le.mpr z)
    rw [nI_toInt (by omega)] at h1
    refine Ok.ai ⟨h0, by omega⟩ (Ok.ite (fun _ => Ok.ret (Or.inr ⟨v, rfl, h0, by omega⟩)) (fun _ => Ok.nm ?_))
    have h2 := z_up (x := v) (y := nI t) (z_lt.mpr (by rw [nI_toInt (by omega)]; omega))
    exact ih _ (by omega) (by omega)
theorem s_blankFrom (hN : 100000 ≤ N) (f : Nat → Int32) (e : Int32) {t : Nat} (ht : t ≤ 200) {v : Int32} (hv : 0 ≤ v.toInt) : Ok (f_Tape_blankFrom N f (nI t) v e) (fun x => x = e ∨ (0 ≤ x.toInt ∧ x.toInt < 200)) := by
  unfold f_Tape_blankFrom
  refine Ok.s0 (s_blank_L f e ht N v hv (by omega)) (fun _ => Ok.ret (Or.inl rfl)) (fun r hr => ?_)
  rcases hr with h | ⟨y, h, h1, h2⟩
  · exact absurd h (by intro z; cases z)
  · cases h; exact Or.inr ⟨h1, h2⟩
theorem z_slen : ∀ k, k < 7 → f_JString_length_8abf5 k = some (nI (q_slen.getD k 0)) ∧ q_slen.getD k 0 ≤ 7 := by decide +kernel
theorem z_char : ∀ k, k < 7 → ∀ i, i < q_slen.getD k 0 → (f_JString_charAt_5068e k (nI i)).isSome = true := by decide +kernel
theorem s_char {k i : Nat} (hk : k < 7) (hi : i < q_slen.getD k 0) : Ok (f_JString_charAt_5068e k (nI i)) (fun _ => True) := by
  have h := z_char k hk i hi
  obtain ⟨x, hx⟩ := Option.isSome_iff_exists.mp h
  exact ⟨x, hx, trivial⟩
theorem s_isWord_L {k : Nat} (hk : k < 7) (f : Nat → Int32) : ∀ (n i : Nat), i ≤ q_slen.getD k 0 → q_slen.getD k 0 - i < n → Ok (f_Tape_isWord_L20 k (nI (q_slen.getD k 0)) f n (nI i)) (fun x => x = .inl () ∨ x = .inr 0) := by
  have hs := (z_slen k hk).2
  intro n
  induction n with
  | zero => intro i _ h; omega
  | succ n ih =>
    intro i hi hn
    rw [f_Tape_isWord_L20]
    refine Ok.ite (fun _ => Ok.ret (Or.inl rfl)) (fun hc => ?_)
    rw [nI_leI (by omega) (by omega)] at hc
    refine Ok.ain (by omega) (by decide) (Ok.b1 (s_char hk (by omega)) (fun _ _ => Ok.ite (fun _ => Ok.nm ?_) (fun _ => Ok.ret (Or.inr rfl))))
    rw [nI_1]; exact ih (i + 1) (by omega) (by omega)
theorem s_isWord (hN : 100000 ≤ N) {k : Nat} (hk : k < 7) (f : Nat → Int32) (t e : Int32) : Ok (f_Tape_isWord N k f t e) (fun x => x = 0 ∨ x = 1) := by
  have hs := z_slen k hk
  unfold f_Tape_isWord
  rw [hs.1, q_b1_s]
  refine Ok.ite (fun he => Ok.ite (fun _ => Ok.nm ?_) (fun _ => Ok.ret (Or.inl rfl))) (fun _ => Ok.ret (Or.inl rfl))
  rw [← he]
  refine Ok.s0 (s_isWord_L hk f N 0 (by omega) (by omega)) (fun _ => Ok.ret (Or.inr rfl)) (fun r hr => ?_)
  rcases hr with h | h
  · exact absurd h (by intro z; cases z)
  · cases h; exact Or.inl rfl
/-! the reader -/
theorem s_here {t : Nat} (ht : t ≤ 200) (f : Nat → Int32) (v e : Int32) : Ok (f_NameReader_here v e f (nI t)) (fun x => x = -1 ∨ (0 ≤ v.toInt ∧ v.toInt < 200)) := by
  unfold f_NameReader_here
  refine Ok.ite (fun _ => Ok.ret (Or.inl rfl)) (fun h1 => Ok.ite (fun _ => Ok.ret (Or.inl rfl)) (fun _ => Ok.ite (fun _ => Ok.ret (Or.inl rfl)) (fun h2 => ?_)))
  have a1 : ¬ v.toInt < (0 : Int32).toInt := fun z => h1 (z_lt.mpr z)
  have a2 : ¬ (nI t).toInt ≤ v.toInt := fun z => h2 (z_le.mpr z)
  rw [nI_toInt (by omega)] at a2
  rw [show (0 : Int32).toInt = 0 from rfl] at a1
  exact Ok.ai ⟨by omega, by omega⟩ (Ok.ret (Or.inr ⟨by omega, by omega⟩))
theorem s_isDigit (x : Int32) : Ok (f_NameReader_isDigit x) (fun d => x = -1 → d = 0) := by
  unfold f_NameReader_isDigit
  refine Ok.ite (fun _ => Ok.ret (fun _ => rfl)) (fun h => ?_)
  have hx : ¬ x = -1 := fun e => h (by rw [e]; decide)
  exact Ok.ite (fun _ => Ok.ret (fun e => absurd e hx)) (fun _ => Ok.ret (fun e => absurd e hx))
theorem s_failHere (v e a b c : Int32) : Ok (f_NameReader_failHere v e a b c) (fun x => x.1 = 0) := by
  unfold f_NameReader_failHere
  refine Ok.j1 (Ok.ite (fun _ => Ok.bo (Or.inl rfl) (Ok.ret rfl)) (fun _ => Ok.bo (Or.inr rfl) (Ok.ret rfl)))
theorem s_fail (a b c p q : Int32) : Ok (f_NameReader_fail a b c p q) (fun x => x.1 = 0) := by
  unfold f_NameReader_fail
  exact Ok.ret rfl
theorem s_fwb (a b c p : Int32) : Ok (f_NameReader_failWithoutBlank a b c p) (fun x => x.1 = 0) := by
  unfold f_NameReader_failWithoutBlank
  exact Ok.b4 (s_fail _ _ _ _ _) (fun _ _ _ _ _ => Ok.ret rfl)
theorem s_readNumber_L {t : Nat} (ht : t ≤ 200) (f : Nat → Int32) (e s : Int32) : ∀ (k : Nat) (v2 v3 : Int32), 1 ≤ k → (0 ≤ v3.toInt → (201 - v3.toInt).toNat < k) → Ok (f_NameReader_readNumber_L7 e s f (nI t) k v2 v3) (fun _ => True) := by
  intro k
  induction k with
  | zero => intro v2 v3 h; omega
  | succ k ih =>
    intro v2 v3 _ hk
    rw [f_NameReader_readNumber_L7]
    refine Ok.b1 (s_here ht f v3 e) (fun x hx => Ok.b1 (s_isDigit x) (fun d hd => Ok.ite (fun _ => Ok.t) (fun hd0 => Ok.ite (fun _ => Ok.t) (fun _ => ?_))))
    have hv : 0 ≤ v3.toInt ∧ v3.toInt < 200 := by
      rcases hx with h | h
      · exact absurd (hd h) hd0
      · exact h
    have e1 : (1 : Int32).toInt = 1 := rfl
    have e2 : (v3 + 1).toInt = v3.toInt + 1 := by rw [fb_addI (by omega) (by omega), e1]
    refine Ok.b1 (s_here ht f v3 e) (fun _ _ => Ok.nm (Ok.nm (ih _ _ (by omega) (fun _ => by omega))))
theorem s_readNumber (hN : 100000 ≤ N) {t : Nat} (ht : t ≤ 200) (f : Nat → Int32) (s e a b c p : Int32) : Ok (f_NameReader_readNumber N s e a b c f (nI t) p) (fun _ => True) := by
  unfold f_NameReader_readNumber
  refine Ok.nm (Ok.b2 (s_readNumber_L ht f e s N 0 s (by omega) (fun _ => by omega)) (fun v4 v5 _ => ?_))
  refine Ok.k0 (fun _ => True) (Ok.b4 (s_failHere _ _ _ _ _) (fun _ _ _ _ _ => Ok.t)) (fun K hK => ?_)
  refine Ok.ite (fun _ => hK) (fun _ => Ok.b1 (s_here ht f v5 e) (fun x _ => Ok.b1 (s_isDigit x) (fun _ _ => Ok.ite (fun _ => ?_) (fun _ => hK))))
  refine Ok.k0 (fun _ => True) (Ok.b4 (s_fail _ _ _ _ _) (fun _ _ _ _ _ => Ok.t)) (fun K hK => ?_)
  exact Ok.ite (fun _ => hK) (fun _ => Ok.ite (fun _ => Ok.t) (fun _ => hK))
theorem s_readNumbers_L (g : GOK R C H V rc cc br zc rw sh) (hN : 100000 ≤ N) {t : Nat} (ht : t ≤ 200) (f : Nat → Int32) (e : Int32) : ∀ (k i : Nat) (v8 v9 v10 v12 v13 v14 : Int32), i ≤ 4 → 4 - i < k → Ok (f_NameReader_readNumbers_L22 N cc rc e f (nI t) k v8 v9 v10 (nI i) v12 v13 v14) (fun x => ∃ j, j < 5 ∧ x.2.2.2.1 = nI j) := by
  intro k
  induction k with
  | zero => intro i v8 v9 v10 v12 v13 v14 _ h; omega
  | succ k ih =>
    intro i v8 v9 v10 v12 v13 v14 hi hk
    have hr : ∀ a b c d e f : Int32, Ok (some (a, b, c, nI i, d, e, f)) (fun x => ∃ j, j < 5 ∧ x.2.2.2.1 = nI j) := fun a b c d e f => Ok.ret ⟨i, by omega, rfl⟩
    rw [f_NameReader_readNumbers_L22]
    refine Ok.ite (fun _ => Ok.ite (fun _ => hr _ _ _ _ _ _) (fun _ => Ok.ite (fun _ => hr _ _ _ _ _ _) (fun h4 => ?_))) (fun _ => hr _ _ _ _ _ _)
    rw [z_i 4, nI_leI (by omega) (by omega)] at h4
    have h5 : i + 1 < 5 := by omega
    refine Ok.b1 (s_here ht f v10 e) (fun x _ => Ok.ite (fun _ => Ok.nm (Ok.nm ?_)) (fun _ => hr _ _ _ _ _ _))
    rw [nI_1]
    refine Ok.ain h5 (by decide) (Ok.ain h5 (by decide) (Ok.b5 (s_readNumber hN ht f _ e _ _ _ _) (fun a b c d e2 _ => ?_)))
    refine Ok.ain h5 (by decide) (Ok.dv (z_brne g h5).2.2.2 (Ok.nm (Ok.rm (z_brne g h5).2.2.2 (Ok.nm ?_))))
    exact ih (i + 1) _ _ _ _ _ _ (by omega) (by omega)
theorem s_readNumbers (g : GOK R C H V rc cc br zc rw sh) (hN : 100000 ≤ N) {t : Nat} (ht : t ≤ 200) (f : Nat → Int32) (n e lv ky a b c : Int32) {q : Nat} (hq : q < 44) : Ok (f_NameReader_readNumbers N n e lv ky a b c f (nI t) rc cc br zc rw sh (nI q)) (fun x => (x.1 = 0 ∨ x.1 = 1) ∧ ∃ j, j < 5 ∧ x.2.2.1 = nI j) := by
  unfold f_NameReader_readNumbers
  refine Ok.ain hq (by decide) (Ok.b5 (s_readNumber hN ht f _ e _ _ _ _) (fun v2 v3 v4 v5 v6 _ => Ok.nm ?_))
  refine Ok.b7 (s_readNumbers_L g hN ht f e N 0 (nI q) (v2 - 1) v3 v4 v5 v6 (by omega) (by omega)) (fun v15 v16 v17 v18 v19 v20 v21 h => ?_)
  obtain ⟨j, hj, h⟩ := h
  simp only at h
  subst h
  refine Ok.k0 (fun x => (x.1 = 0 ∨ x.1 = 1) ∧ ∃ j, j < 5 ∧ x.2.2.1 = nI j) (Ok.b1 (s_rowStart g hj _) (fun _ _ => Ok.nm (Ok.ite (fun _ => Ok.ret ⟨Or.inr rfl, j, hj, rfl⟩) (fun _ => Ok.ret ⟨Or.inl rfl, j, hj, rfl⟩)))) (fun K hK => ?_)
  refine Ok.ite (fun _ => Ok.ite (fun _ => hK) (fun _ => Ok.b1 (s_here ht f v17 e) (fun x _ => Ok.ite (fun _ => ?_) (fun _ => ?_)))) (fun _ => hK)
  · exact Ok.b4 (s_fail _ _ _ _ _) (fun a b c d h => Ok.bo (Or.inl h) (Ok.ret ⟨Or.inl h, j, hj, rfl⟩))
  · exact Ok.b4 (s_failHere _ _ _ _ _) (fun a b c d h => Ok.bo (Or.inl h) (Ok.ret ⟨Or.inl h, j, hj, rfl⟩))
def z_rd (x : Int32 × Int32 × Int32 × Int32 × Int32 × Int32 × Int32) : Prop := (x.1 = 0 ∨ x.1 = 1) ∧ (x.1 ≠ 0 → ∃ j, j < 5 ∧ x.2.2.1 = nI j)
theorem s_readCap (n e lv ky a b c p : Int32) : Ok (f_NameReader_readCap n e lv ky a b c sh p) z_rd := by
  unfold f_NameReader_readCap
  refine Ok.nm (Ok.ite (fun _ => Ok.j1 ?_) (fun _ => ?_))
  · have hr : ∀ v : Int32, Ok (some (1, n + 1, 0, v, a, b, c)) z_rd := fun v => Ok.ret ⟨Or.inr rfl, fun _ => ⟨0, by omega, rfl⟩⟩
    exact Ok.ite (fun _ => Ok.ai (by decide) (hr _)) (fun _ => hr _)
  · exact Ok.b4 (s_failHere _ _ _ _ _) (fun a b c d h => Ok.bo (Or.inl h) (Ok.ret ⟨Or.inl h, fun z => absurd h z⟩))
def z_r8 (x : Int32 × Int32 × Int32 × Int32 × Int32 × Int32 × Int32 × Int32) : Prop := (x.1 = 0 ∨ x.1 = 1) ∧ (x.1 ≠ 0 → ∃ j, j < 5 ∧ x.2.2.2.1 = nI j)
theorem s_read (g : GOK R C H V rc cc br zc rw sh) (hN : 100000 ≤ N) {t : Nat} (ht : t ≤ 200) (f : Nat → Int32) (n e lv ky a b c p q : Int32) : Ok (f_NameReader_read N n e lv ky a b c f (nI t) rc cc br zc rw sh p q) z_r8 := by
  unfold f_NameReader_read
  refine Ok.b1 (s_here ht f p q) (fun v1 _ => Ok.k0 z_r8 (Ok.nm (Ok.b1 (s_here ht f _ q) (fun v3 _ => Ok.ite (fun _ => ?_) (fun _ => ?_)))) (fun K hK => ?_))
  · refine Ok.k1 (fun _ => True) z_r8 (fun v18 _ => Ok.b7 (s_readCap _ _ _ _ _ _ _ _) (fun x1 x2 x3 x4 x5 x6 x7 h => Ok.bo h.1 (Ok.ret ⟨h.1, h.2⟩))) (fun K hK => Ok.ite (fun _ => hK _ trivial) (fun _ => hK _ trivial))
  · refine Ok.k0 z_r8 (Ok.b4 (s_failHere _ _ _ _ _) (fun a b c d h => Ok.bo (Or.inl h) (Ok.ret ⟨Or.inl h, fun z => absurd h z⟩))) (fun K hK => Ok.ite (fun _ => hK) (fun h1 => Ok.ite (fun h2 => Ok.nm (Ok.nm ?_)) (fun _ => hK)))
    have a1 : ¬ v3.toInt < (65 : Int32).toInt := fun z => h1 (z_lt.mpr z)
    have a2 := z_le.mp h2
    rw [show (65 : Int32).toInt = 65 from rfl] at a1
    rw [show (86 : Int32).toInt = 86 from rfl] at a2
    obtain ⟨j, j1, rfl, j3⟩ := z_nat (r := v3) (by omega)
    rw [z_i 65, pk_sub (by omega)]
    refine Ok.k1 (fun x => ∃ q, q < 44 ∧ x = nI q) z_r8 (fun v10 hv => ?_) (fun K hK => Ok.ite (fun _ => hK _ ⟨21 - (j - 65), by omega, ?_⟩) (fun _ => hK _ ⟨22 + (j - 65), by omega, ?_⟩))
    · obtain ⟨q, hq, rfl⟩ := hv
      exact Ok.b7 (s_readNumbers g hN ht f _ _ _ _ _ _ _ hq) (fun x1 x2 x3 x4 x5 x6 x7 h => Ok.bo h.1 (Ok.ret ⟨h.1, fun _ => h.2⟩))
    · rw [z_i 21, pk_sub (by omega)]
    · rw [z_i 22, nI_add]
  · refine Ok.ite (fun _ => hK) (fun _ => Ok.ite (fun _ => hK) (fun _ => ?_))
    exact Ok.b4 (s_failHere _ _ _ _ _) (fun a b c d h => Ok.bo (Or.inl h) (Ok.ret ⟨Or.inl h, fun z => absurd h z⟩))
/-! the question -/
theorem s_wordTo (hN : 100000 ≤ N) (f : Nat → Int32) (t e : Int32) : Ok (f_Question_wordTo N f t e) (fun _ => True) := by
  unfold f_Question_wordTo
  refine Ok.b1 (s_isWord hN (by omega) f t e) (fun _ _ => Ok.ite (fun _ => ?_) (fun _ => Ok.t))
  refine Ok.b1 (s_isWord hN (by omega) f t e) (fun _ _ => Ok.ite (fun _ => ?_) (fun _ => Ok.t))
  refine Ok.b1 (s_isWord hN (by omega) f t e) (fun _ _ => Ok.ite (fun _ => ?_) (fun _ => Ok.t))
  refine Ok.b1 (s_isWord hN (by omega) f t e) (fun _ _ => Ok.ite (fun _ => ?_) (fun _ => Ok.t))
  refine Ok.b1 (s_isWord hN (by omega) f t e) (fun _ _ => Ok.ite (fun _ => ?_) (fun _ => Ok.t))
  refine Ok.b1 (s_isWord hN (by omega) f t e) (fun _ _ => Ok.ite (fun _ => ?_) (fun _ => Ok.t))
  exact Ok.b1 (s_isWord hN (by omega) f t e) (fun _ _ => Ok.ite (fun _ => Ok.t) (fun _ => Ok.t))
theorem s_readOther (g : GOK R C H V rc cc br zc rw sh) (hN : 100000 ≤ N) {t : Nat} (ht : t ≤ 200) (f : Nat → Int32) (ol ok n e lv ky a b c p q : Int32) : Ok (f_Question_readOther N ol ok n e lv ky a b c f (nI t) rc cc br zc rw sh p q) (fun _ => True) := by
  unfold f_Question_readOther
  refine Ok.ite (fun _ => Ok.b8 (s_read g hN ht f _ _ _ _ _ _ _ _ _) (fun _ _ _ _ _ _ _ _ _ => Ok.ite (fun _ => Ok.t) (fun _ => Ok.t))) (fun _ => ?_)
  exact Ok.b4 (s_fwb _ _ _ _) (fun _ _ _ _ h => Ok.bo (Or.inl h) Ok.t)
def z_q13 (x : Int32 × Int32 × Int32 × Int32 × Int32 × Int32 × Int32 × Int32 × Int32 × Int32 × Int32 × Int32 × Int32) : Prop := (x.1 = 0 ∨ x.1 = 1) ∧ (x.1 ≠ 0 → ∃ j, j < 5 ∧ x.2.2.1 = nI j)
theorem s_question (g : GOK R C H V rc cc br zc rw sh) (hN : 100000 ≤ N) {t : Nat} (ht : t ≤ 200) (f : Nat → Int32) (qw ql qk ol ok n e lv ky a b c p : Int32) : Ok (f_Question_read N qw ql qk ol ok n e lv ky a b c f (nI t) rc cc br zc rw sh p) z_q13 := by
  unfold f_Question_read
  refine Ok.b1 (s_blankFrom hN f p ht (by decide)) (fun v1 h1 => Ok.ite (fun _ => ?_) (fun hne => ?_))
  · exact Ok.b4 (s_fwb _ _ _ _) (fun _ _ _ _ h => Ok.bo (Or.inl h) (Ok.ret ⟨Or.inl h, fun z => absurd h z⟩))
  · have hv : 0 ≤ v1.toInt ∧ v1.toInt < 200 := by
      rcases h1 with h | h
      · exact absurd h hne
      · exact h
    have e1 : (1 : Int32).toInt = 1 := rfl
    have e2 : (v1 + 1).toInt = v1.toInt + 1 := by rw [fb_addI (by omega) (by omega), e1]
    refine Ok.b1 (s_wordTo hN f _ v1) (fun v2 _ => Ok.ite (fun _ => ?_) (fun _ => ?_))
    · exact Ok.b4 (s_fail _ _ _ _ _) (fun _ _ _ _ h => Ok.bo (Or.inl h) (Ok.ret ⟨Or.inl h, fun z => absurd h z⟩))
    · refine Ok.k1 (fun _ => True) z_q13 (fun v3 _ => ?_) (fun K hK => ?_)
      · refine Ok.k1 (fun _ => True) z_q13 (fun v4 _ => ?_) (fun K hK => Ok.ite (fun _ => hK _ trivial) (fun _ => Ok.b1 (s_blankFrom hN f p ht (by omega)) (fun _ _ => hK _ trivial)))
        refine Ok.b8 (s_read g hN ht f _ _ _ _ _ _ _ _ _) (fun v5 v6 v7 v8 v9 v10 v11 v12 h => Ok.ite (fun _ => Ok.ret ⟨Or.inl rfl, fun z => absurd rfl z⟩) (fun h5 => ?_))
        obtain ⟨j, hj, h8⟩ := h.2 h5
        simp only at h8
        refine Ok.k9 (fun _ _ _ _ _ _ _ _ _ => True) z_q13 (fun _ _ _ _ _ _ _ _ _ _ => Ok.ret ⟨Or.inr rfl, fun _ => ⟨j, hj, h8⟩⟩) (fun K hK => Ok.ite (fun _ => hK _ _ _ _ _ _ _ _ _ trivial) (fun _ => ?_))
        exact Ok.b10 (s_readOther g hN ht f _ _ _ _ _ _ _ _ _ _ _) (fun _ _ _ _ _ _ _ _ _ _ _ => Ok.ite (fun _ => Ok.ret ⟨Or.inl rfl, fun z => absurd rfl z⟩) (fun _ => hK _ _ _ _ _ _ _ _ _ trivial))
      · refine Ok.k0 z_q13 (hK _ trivial) (fun K2 hK2 => Ok.ite (fun _ => hK2) (fun _ => Ok.ite (fun _ => hK2) (fun _ => hK _ trivial)))
end SS
