/-! the reference: names; the order of names -/
section MW
variable {R C H V : Nat → Nat} {cr cq dp wd za : Nat → Int32} {N l : Nat}
theorem t_digitsInto (f : Nat → Int32) {p : Nat} (hp : p + 2 ≤ 20) (v : Int32) : Ok (f_M_digitsInto f (nI p) v) (fun y => ∃ j, y.1 = nI j ∧ j ≤ p + 2) := by
  unfold f_M_digitsInto
  refine Ok.k2 (fun v1 _ => ∃ j, v1 = nI j ∧ j ≤ p + 1) (fun y => ∃ j, y.1 = nI j ∧ j ≤ p + 2) (fun v1 f2 h1 => ?_) (fun K hK => Ok.ite (fun _ => hK _ _ ⟨p, rfl, by omega⟩) (fun _ => Ok.dv (by decide) (Ok.asn (by omega) (by decide) ?_)))
  · obtain ⟨j, rfl, hj⟩ := h1
    refine Ok.rm (by decide) (Ok.asn (by omega) (by decide) (Ok.ret ⟨j + 1, ?_, by omega⟩))
    dsimp only; rw [nI_1]
  · rw [z_nm, nI_1]
    exact hK _ _ ⟨p + 1, rfl, by omega⟩
theorem t_spells_L (g : MOK R C H V cr cq dp wd za) (hl : l < 5) (x y : Int32) : ∀ n i j (f : Nat → Int32), 1 ≤ i → i ≤ l + 1 → l + 1 - i < n → j + 3 ≤ 4 + 3 * i → Ok (f_M_spells_L120 cq cr dp wd (nI l) x y n (nI j) (nI i) f) (fun z => ∃ k, z.1 = nI k ∧ k ≤ 16) := by
  have hv := g.2.2.hv hl
  have hp := g.2.2.pos l hl
  intro n
  induction n with
  | zero => intro i j f _ _ h; omega
  | succ n ih =>
    intro i j f h1 hi hn hj
    rw [f_M_spells_L120]
    refine Ok.ite (fun _ => Ok.ret ⟨j, rfl, by omega⟩) (fun hc => ?_)
    rw [nI_ltI (by omega) (by omega)] at hc
    have hi5 : i < 5 := by omega
    have hvi := g.2.2.hv hi5
    have hpi := g.2.2.pos i hi5
    have hd := g.2.2.dvd l hl i (by omega)
    have q1 := z_quot hd.1 hpi.1 hp.1
    have q2 := z_quot hd.2 hpi.2 hp.2
    rw [z_ai hl (by omega), (g.1 l hl).2.2.1, z_ai hi5 (by omega), (g.1 i hi5).2.2.1, z_dv (by omega) (by omega) (by omega)]
    refine Ok.dv (nI_ne0 (by omega) (by omega)) (Ok.nm (Ok.asn (by omega) (by decide) ?_))
    rw [z_ai hl (by omega), (g.1 l hl).2.2.2, z_ai hi5 (by omega), (g.1 i hi5).2.2.2, z_dv (by omega) (by omega) (by omega)]
    refine Ok.dv (nI_ne0 (by omega) (by omega)) (Ok.b1 (t_pieceNumber g hi5 _ _) (fun v29 _ => ?_))
    rw [nI_1]
    refine Ok.b2 (t_digitsInto _ (p := j + 1) (by omega) v29) (fun v30 f31 h => ?_)
    obtain ⟨k, h, hk⟩ := h
    dsimp only at h
    subst h
    rw [z_nm, nI_1]
    exact ih (i + 1) k _ (by omega) (by omega) (by omega) (by omega)
theorem t_spells (g : MOK R C H V cr cq dp wd za) (hN : 1000000 ≤ N) (hl : l < 5) {k : Nat} (hk : k < 2130 * (H l * V l) + 2) (f : Nat → Int32) : Ok (f_M_spells N cr cq dp wd za f (nI l) (nI k)) (fun z => ∃ j, z.1 = nI j ∧ j ≤ 16) := by
  have hv := g.2.2.hv hl
  have hp := g.2.2.pos l hl
  unfold f_M_spells
  rcases t_isCap g hl hk with ⟨-, e⟩ | ⟨c, e⟩ <;> rw [e, q_b1_s]
  · refine Ok.ite (fun h => absurd h (by decide)) (fun _ => Ok.k1 (fun _ => True) (fun z => ∃ j, z.1 = nI j ∧ j ≤ 16) (fun v33 _ => Ok.as (by decide) (Ok.as (by decide) (Ok.ret ⟨2, rfl, by omega⟩))) (fun K hK => Ok.ite (fun _ => hK _ trivial) (fun _ => hK _ trivial)))
  · refine Ok.ite (fun _ => ?_) (fun h => absurd rfl h)
    obtain ⟨r, p, hr, hpr, hk2, er, ep⟩ := t_spot (N := N) g (by omega) hl hk
    rw [er, q_b1_s, ep, q_b1_s]
    refine Ok.b1 (t_bandOf g hl _) (fun v4 _ => Ok.k1 (fun _ => True) (fun z => ∃ j, z.1 = nI j ∧ j ≤ 16) (fun v5 _ => Ok.as (by decide) ?_) (fun K hK => Ok.ite (fun _ => hK _ trivial) (fun _ => hK _ trivial)))
    refine Ok.k1 (fun _ => True) (fun z => ∃ j, z.1 = nI j ∧ j ≤ 16) (fun v7 _ => Ok.as (by decide) (Ok.ain hl (by decide) (Ok.dv (z_dpne g hl).2.1 ?_))) (fun K hK => Ok.ite (fun _ => hK _ trivial) (fun _ => hK _ trivial))
    rw [z_i 2]
    refine Ok.b2 (t_digitsInto _ (p := 2) (by omega) _) (fun v11 f12 h => Ok.nm ?_)
    obtain ⟨j, h, hj⟩ := h
    dsimp only at h
    subst h
    exact Ok.b2 (t_spells_L g hl _ _ N 1 j f12 (by omega) (by omega) (by omega) (by omega)) (fun v17 f18 h => Ok.ret h)
theorem t_name (g : MOK R C H V cr cq dp wd za) (hN : 1000000 ≤ N) (f : Nat → Int32) (p q w : Int32) : Ok (f_M_name N cr cq dp wd za f p q w) (fun _ => True) := by
  unfold f_M_name
  refine Ok.b1 (t_isKey g p q) (fun v1 h1 => Ok.ite (fun _ => Ok.t) (fun n1 => Ok.ite (fun hi => ?_) (fun _ => Ok.t)))
  obtain ⟨l, k, hl, rfl, rfl, hk⟩ := h1 n1
  refine Ok.b2 (t_spells g hN hl hk f) (fun v2 f3 h => Ok.ite (fun _ => Ok.t) (fun hne => Ok.ite (fun _ => Ok.t) (fun hlt => Ok.ai ?_ Ok.t)))
  obtain ⟨j, h, hj⟩ := h
  dsimp only at h
  subst h
  have a1 := z_le.mp hi
  rw [show (-1 : Int32).toInt = -1 from rfl] at a1
  have a2 : w.toInt ≠ -1 := fun z => hne (Int32.toInt_inj.mp (by rw [z]; rfl))
  have a3 : ¬ (nI j).toInt ≤ w.toInt := fun z => hlt (z_le.mpr z)
  rw [nI_toInt (by omega)] at a3
  exact ⟨by omega, by omega⟩
theorem t_before (g : MOK R C H V cr cq dp wd za) (hN : 1000000 ≤ N) (f f' : Nat → Int32) (p q w : Int32) : Ok (f_M_before N cr cq dp wd za f f' p q w) (fun _ => True) := by
  unfold f_M_before
  refine Ok.b1 (t_isKey g p q) (fun v1 h1 => Ok.ite (fun _ => Ok.t) (fun n1 => Ok.b1 (t_isKey g p w) (fun v2 h2 => Ok.ite (fun _ => Ok.t) (fun n2 => ?_))))
  obtain ⟨l, k, k2, hl, rfl, rfl, rfl, hk, hk2⟩ := t_two g (h1 n1) (h2 n2)
  refine Ok.b2 (t_spells g hN hl hk f) (fun v3 f4 h3 => Ok.b2 (t_spells g hN hl hk2 f') (fun v5 f6 h5 => Ok.nm ?_))
  obtain ⟨a, h3, ha⟩ := h3
  obtain ⟨b, h5, hb⟩ := h5
  dsimp only at h3 h5
  subst h3; subst h5
  have L : ∀ n i, i ≤ 16 → 16 - i < n → Ok (f_M_before_L48 f4 f6 (nI a) (nI b) n (nI i)) (fun _ => True) := by
    intro n
    induction n with
    | zero => intro i _ h; omega
    | succ n ih =>
      intro i hi hn
      rw [f_M_before_L48]
      refine Ok.ite (fun _ => Ok.t) (fun hc => Ok.ite (fun _ => Ok.t) (fun _ => ?_))
      rw [nI_leI (by omega) (by omega)] at hc
      refine Ok.ain (by omega) (by decide) (Ok.ain (by omega) (by decide) (Ok.ite (fun _ => ?_) (fun _ => Ok.ain (by omega) (by decide) (Ok.ain (by omega) (by decide) (Ok.ite (fun _ => Ok.t) (fun _ => Ok.t))))))
      rw [z_nm, nI_1]
      exact ih (i + 1) (by omega) (by omega)
  exact Ok.s0 (L N 0 (by omega) (by omega)) (fun _ => Ok.ite (fun _ => Ok.ite (fun _ => Ok.t) (fun _ => Ok.t)) (fun _ => Ok.t)) (fun _ _ => trivial)
end MW
