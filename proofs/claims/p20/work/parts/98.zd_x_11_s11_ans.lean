/-! answers: bands -/
section S11A
variable {R C H V : Nat → Nat} {rc cc br zc rw sh cr cq dp wd za : Nat → Int32} {sv : l_T} {N l t : Nat}
theorem z_klt {H0 V0 r p k b : Nat} (hH : 1 ≤ H0) (hV : 1 ≤ V0) (hr : r ≤ 44 * H0 + 1) (hp : p < z_rl H0 V0 r) (hk : k = z_rs H0 V0 r + p) (hb : b ≤ 44 * H0 + 1) : k < z_rs H0 V0 b ↔ r < b := by
  constructor
  · intro h
    apply Nat.lt_of_not_le
    intro c
    rcases Nat.lt_or_eq_of_le c with c | c
    · have := z_rs_mono (V := V0) hH r hr b c
      omega
    · subst c; omega
  · intro h
    have := z_rs_mono (V := V0) hH b hb r h
    omega
/-- bands ahead of a row; bands up to a row -/
def z_blo (H0 r : Nat) : Nat := if r = 0 then 0 else if r = 44 * H0 + 1 then 44 else (r - 1) / H0
def z_bhi (H0 r : Nat) : Nat := if r = 0 then 0 else if r = 44 * H0 + 1 then 44 else (r - 1) / H0 + 1
theorem z_blo_iff {H0 r q : Nat} (hH : 1 ≤ H0) (hr : r ≤ 44 * H0 + 1) (hq : q < 44) : r < (q + 1) * H0 + 1 ↔ z_blo H0 r ≤ q := by
  have hq2 : (q + 1) * H0 ≤ 44 * H0 := Nat.mul_le_mul_right _ hq
  unfold z_blo
  by_cases c0 : r = 0
  · rw [if_pos c0]; omega
  rw [if_neg c0]
  by_cases c1 : r = 44 * H0 + 1
  · rw [if_pos c1]; omega
  rw [if_neg c1]
  have e : (r - 1) / H0 < q + 1 ↔ r - 1 < (q + 1) * H0 := Nat.div_lt_iff_lt_mul hH
  omega
theorem z_bhi_iff {H0 r q : Nat} (hH : 1 ≤ H0) (hr : r ≤ 44 * H0 + 1) (hq : q < 44) : q * H0 + 1 ≤ r ↔ q < z_bhi H0 r := by
  have hq2 : (q + 1) * H0 ≤ 44 * H0 := Nat.mul_le_mul_right _ hq
  rw [Nat.succ_mul] at hq2
  unfold z_bhi
  by_cases c0 : r = 0
  · rw [if_pos c0]; omega
  rw [if_neg c0]
  by_cases c1 : r = 44 * H0 + 1
  · rw [if_pos c1]; omega
  rw [if_neg c1]
  have e : q ≤ (r - 1) / H0 ↔ q * H0 ≤ r - 1 := Nat.le_div_iff_mul_le hH
  omega
theorem r_x_bands_L (g : GOK R C H V rc cc br zc rw sh) (hl : l < 5) {k k2 lo hi : Nat} (hk : k < 2130 * (H l * V l) + 2) (hk2 : k2 < 2130 * (H l * V l) + 2) (hhi : hi ≤ 44) (hlo : ∀ q, q < 44 → (k < z_rs (H l) (V l) ((q + 1) * H l + 1) ↔ lo ≤ q)) (hhi2 : ∀ q, q < 44 → (z_rs (H l) (V l) (q * H l + 1) ≤ k2 ↔ q < hi)) : ∀ u i c, i ≤ 44 → 44 - i < u → c ≤ i → Ok (f_X_bands_L23 br rw sh zc (nI l) (nI k) (nI k2) u (nI c) (nI i)) (fun x => x = nI (c + (hi - (if lo ≤ i then i else lo)))) := by
  have hs := g.2.sh hl
  have hv := g.2.hv hl
  have hps := g.2.pos l hl
  intro u
  induction u with
  | zero => intro i c h1 h2; omega
  | succ u ih =>
    intro i c h1 h2 hc
    unfold f_X_bands_L23
    refine Ok.ite (fun d => ?_) (fun d => ?_)
    all_goals rw [z_i 44, nI_leI (by omega) (by omega)] at d
    · have e : i = 44 := by omega
      subst e
      refine Ok.ret (congrArg nI ?_)
      split <;> omega
    have hi44 : i < 44 := by omega
    have m1 : i * H l ≤ 43 * H l := Nat.mul_le_mul_right _ (by omega)
    have m2 : (i + 1) * H l ≤ 44 * H l := Nat.mul_le_mul_right _ (by omega)
    have r1 := z_rs_end (V := V l) (r := i * H l + 1) hps.1 (by omega)
    have r2 := z_rs_end (V := V l) (r := (i + 1) * H l + 1) hps.1 (by omega)
    have a1 := hlo i hi44
    have a2 := hhi2 i hi44
    rw [z_ai hl (by omega), (g.at hl).2.2.1, pk_mul, nI_1, k_rowStart g hl (by omega), q_b1_s, z_ai hl (by omega), (g.at hl).2.2.1, nI_1, pk_mul, nI_1, k_rowStart g hl (by omega), q_b1_s]
    refine Ok.j1 ?_
    refine Ok.ite (fun c1 => ?_) (fun c1 => ?_)
    all_goals rw [nI_leI (by omega) (by omega)] at c1
    · dsimp only
      rw [z_nm]
      have hl2 : ¬ lo ≤ i := fun z => absurd (a1.mpr z) (by omega)
      refine Ok.weak (ih (i + 1) c (by omega) (by omega) (by omega)) (fun x hx => ?_)
      rw [hx, if_neg hl2]
      by_cases e : lo ≤ i + 1
      · rw [if_pos e, show lo = i + 1 by omega]
      · rw [if_neg e]
    have hl2 : lo ≤ i := a1.mp (by omega)
    refine Ok.ite (fun c2 => ?_) (fun c2 => ?_)
    all_goals rw [nI_ltI (by omega) (by omega)] at c2
    · dsimp only
      rw [z_nm]
      have hh : ¬ i < hi := fun z => absurd (a2.mpr z) (by omega)
      refine Ok.weak (ih (i + 1) c (by omega) (by omega) (by omega)) (fun x hx => ?_)
      rw [hx, if_pos (show lo ≤ i + 1 by omega), if_pos hl2, show hi - (i + 1) = 0 by omega, show hi - i = 0 by omega]
    · have hh : i < hi := a2.mp (by omega)
      rw [nI_1, z_nm]
      dsimp only
      rw [z_nm]
      refine Ok.weak (ih (i + 1) (c + 1) (by omega) (by omega) (by omega)) (fun x hx => ?_)
      rw [hx, if_pos (show lo ≤ i + 1 by omega), if_pos hl2]
      exact congrArg nI (by omega)
def l_Cbands (sv : l_T) (p q w : Int32) : Prop := (l_hs sv p q ∧ l_hs sv p w) ∧ q ≤ w
def l_Sbands (sv : l_T) (p q w : Int32) (s : (Nat × Nat × Nat × Nat) × (Nat × Nat × Nat × Nat)) : Prop := l_sp sv p q s.1 ∧ l_sp sv p w s.2
def l_Fbands (sv : l_T) (s : (Nat × Nat × Nat × Nat) × (Nat × Nat × Nat × Nat)) : Int32 := nI (z_bhi (z_pr (l_R sv) s.1.1) s.2.2.2.1 - z_blo (z_pr (l_R sv) s.1.1) s.1.2.2.1)
def l_abands (sv : l_T) (p q w r : Int32) : Prop := l_rel (l_Cbands sv p q w) (-1) (l_Sbands sv p q w) (l_Fbands sv) r
theorem l_S2_one {p q w : Int32} (h : l_ok sv) : ∀ s s' : (Nat × Nat × Nat × Nat) × (Nat × Nat × Nat × Nat), l_Sbands sv p q w s → l_Sbands sv p q w s' → s = s' := by
  intro ⟨s1, s2⟩ ⟨t1, t2⟩ ⟨a, b⟩ ⟨a', b'⟩
  have e1 := l_sp_one h s1 t1 a a'
  have e2 := l_sp_one h s2 t2 b b'
  rw [e1, e2]
theorem l_abands_one {p q w r r' : Int32} (h : l_ok sv) (h1 : l_abands sv p q w r) (h2 : l_abands sv p q w r') : r = r' := l_rel_one (l_S2_one h) h1 h2
/-- where two sheets of a level lie -/
theorem l_two (g : CUT (l_R sv) (l_C sv) (z_pr (l_R sv)) (z_pr (l_C sv))) {p q w : Int32} (h1 : l_hs sv p q) (h2 : l_hs sv p w) : ∃ l k k2, l < 5 ∧ p = nI l ∧ q = nI k ∧ w = nI k2 ∧ k < 2130 * (z_pr (l_R sv) l * z_pr (l_C sv) l) + 2 ∧ k2 < 2130 * (z_pr (l_R sv) l * z_pr (l_C sv) l) + 2 := by
  obtain ⟨l, k, hl, rfl, rfl, hk⟩ := h1
  obtain ⟨l', k2, hl', e0, rfl, hk2⟩ := h2
  have e1 : l = l' := by rw [nI_eq (by omega) (by omega)] at e0; exact e0
  subst e1
  exact ⟨l, k, k2, hl, rfl, rfl, rfl, hk, hk2⟩
theorem a_x_bands (g : GOK (l_R sv) (l_C sv) (z_pr (l_R sv)) (z_pr (l_C sv)) rc cc br zc rw sh) (hN : 1000000 ≤ N) (p q w : Int32) : Ok (f_X_bands N br zc rw sh p q w) (fun x => l_abands sv p q w x) := by
  unfold f_X_bands
  refine Ok.b1 (r_areSheets g p q w) (fun v1 h1 => ?_)
  rcases h1 with ⟨z, rfl⟩ | ⟨z, rfl⟩
  rotate_left
  · exact Ok.ite (fun _ => Ok.ret (l_relN (fun u => z u.1))) (fun c => absurd rfl c)
  refine Ok.ite (fun c => absurd c (by decide)) (fun _ => Ok.ite (fun hi => ?_) (fun hi => Ok.ret (l_relN (fun u => hi u.2))))
  obtain ⟨l, k, k2, hl, rfl, rfl, rfl, hk, hk2⟩ := l_two g.2 z.1 z.2
  have hs := g.2.sh hl
  have hv := g.2.hv hl
  have hps := g.2.pos l hl
  obtain ⟨ro, er, d1, d2, d3⟩ := k_rowOfKey (N := N) g (by omega) hl hk
  obtain ⟨ro2, er2, f1, f2, f3⟩ := k_rowOfKey (N := N) g (by omega) hl hk2
  have hsp : l_Sbands sv (nI l) (nI k) (nI k2) ((l, k, ro, k - z_rs (z_pr (l_R sv) l) (z_pr (l_C sv) l) ro), (l, k2, ro2, k2 - z_rs (z_pr (l_R sv) l) (z_pr (l_C sv) l) ro2)) := ⟨⟨⟨hl, (show k < 20000000 by omega), d1, (show k - z_rs (z_pr (l_R sv) l) (z_pr (l_C sv) l) ro < z_rl (z_pr (l_R sv) l) (z_pr (l_C sv) l) ro by omega), (show k = z_rs (z_pr (l_R sv) l) (z_pr (l_C sv) l) ro + (k - z_rs (z_pr (l_R sv) l) (z_pr (l_C sv) l) ro) by omega)⟩, rfl, rfl⟩, ⟨⟨hl, (show k2 < 20000000 by omega), f1, (show k2 - z_rs (z_pr (l_R sv) l) (z_pr (l_C sv) l) ro2 < z_rl (z_pr (l_R sv) l) (z_pr (l_C sv) l) ro2 by omega), (show k2 = z_rs (z_pr (l_R sv) l) (z_pr (l_C sv) l) ro2 + (k2 - z_rs (z_pr (l_R sv) l) (z_pr (l_C sv) l) ro2) by omega)⟩, rfl, rfl⟩⟩
  have b1 : z_bhi (z_pr (l_R sv) l) ro2 ≤ 44 := by
    unfold z_bhi
    by_cases c0 : ro2 = 0
    · rw [if_pos c0]; omega
    rw [if_neg c0]
    by_cases c1 : ro2 = 44 * z_pr (l_R sv) l + 1
    · rw [if_pos c1]; omega
    rw [if_neg c1]
    have := z_q (r := ro2) (H := z_pr (l_R sv) l) (by omega) (by omega)
    omega
  have L1 : ∀ q, q < 44 → (k < z_rs (z_pr (l_R sv) l) (z_pr (l_C sv) l) ((q + 1) * z_pr (l_R sv) l + 1) ↔ z_blo (z_pr (l_R sv) l) ro ≤ q) := fun q hq => by
    have m2 : (q + 1) * z_pr (l_R sv) l ≤ 44 * z_pr (l_R sv) l := Nat.mul_le_mul_right _ hq
    rw [z_klt hps.1 hps.2 d1 (p := k - z_rs (z_pr (l_R sv) l) (z_pr (l_C sv) l) ro) (by omega) (by omega) (by omega)]
    exact z_blo_iff hps.1 d1 hq
  have L2 : ∀ q, q < 44 → (z_rs (z_pr (l_R sv) l) (z_pr (l_C sv) l) (q * z_pr (l_R sv) l + 1) ≤ k2 ↔ q < z_bhi (z_pr (l_R sv) l) ro2) := fun q hq => by
    have m2 : q * z_pr (l_R sv) l ≤ 44 * z_pr (l_R sv) l := Nat.mul_le_mul_right _ (by omega)
    have t := z_klt (V0 := z_pr (l_C sv) l) (k := k2) (b := q * z_pr (l_R sv) l + 1) hps.1 hps.2 f1 (p := k2 - z_rs (z_pr (l_R sv) l) (z_pr (l_C sv) l) ro2) (by omega) (by omega) (by omega)
    have t2 := z_bhi_iff (r := ro2) hps.1 f1 hq
    omega
  have I := r_x_bands_L g hl hk hk2 b1 L1 L2 N 0 0 (by omega) (by omega) (by omega)
  rw [z_nm, z_nm]
  refine Ok.b1 I (fun v h => Ok.ret (l_relY ⟨z, hi⟩ hsp ?_))
  rw [h]
  unfold l_Fbands
  refine congrArg nI ?_
  dsimp only
  split <;> omega
theorem a_m_bands (g : MOK (l_R sv) (l_C sv) (z_pr (l_R sv)) (z_pr (l_C sv)) cr cq dp wd za) (hN : 1000000 ≤ N) (p q w : Int32) : Ok (f_M_bands N dp wd za p q w) (fun x => l_abands sv p q w x) := by
  unfold f_M_bands
  refine Ok.b1 (r_isKey g p q) (fun v1 h1 => ?_)
  rcases h1 with ⟨z1, rfl⟩ | ⟨z, rfl⟩
  rotate_left
  · exact Ok.ite (fun _ => Ok.ret (l_relN (fun u => z u.1.1))) (fun c => absurd rfl c)
  refine Ok.ite (fun c => absurd c (by decide)) (fun _ => Ok.b1 (r_isKey g p w) (fun v2 h2 => ?_))
  rcases h2 with ⟨z2, rfl⟩ | ⟨z, rfl⟩
  rotate_left
  · exact Ok.ite (fun _ => Ok.ret (l_relN (fun u => z u.1.2))) (fun c => absurd rfl c)
  refine Ok.ite (fun c => absurd c (by decide)) (fun _ => Ok.ite (fun hi => ?_) (fun hi => Ok.ret (l_relN (fun u => hi u.2))))
  obtain ⟨l, k, k2, hl, rfl, rfl, rfl, hk, hk2⟩ := l_two g.2.2 z1 z2
  have hs := g.2.2.sh hl
  have hv := g.2.2.hv hl
  have hps := g.2.2.pos l hl
  obtain ⟨ro, er, d1, d2, d3⟩ := m_rowOf (N := N) g (by omega) hl hk
  obtain ⟨ro2, er2, f1, f2, f3⟩ := m_rowOf (N := N) g (by omega) hl hk2
  have hkk : k ≤ k2 := (nI_leI (by omega) (by omega)).mp hi
  have hrr : ro ≤ ro2 := by
    apply Nat.le_of_not_lt
    intro c
    have := z_rs_mono (V := z_pr (l_C sv) l) hps.1 ro d1 ro2 c
    omega
  have hsp : l_Sbands sv (nI l) (nI k) (nI k2) ((l, k, ro, k - z_rs (z_pr (l_R sv) l) (z_pr (l_C sv) l) ro), (l, k2, ro2, k2 - z_rs (z_pr (l_R sv) l) (z_pr (l_C sv) l) ro2)) := ⟨⟨⟨hl, (show k < 20000000 by omega), d1, (show k - z_rs (z_pr (l_R sv) l) (z_pr (l_C sv) l) ro < z_rl (z_pr (l_R sv) l) (z_pr (l_C sv) l) ro by omega), (show k = z_rs (z_pr (l_R sv) l) (z_pr (l_C sv) l) ro + (k - z_rs (z_pr (l_R sv) l) (z_pr (l_C sv) l) ro) by omega)⟩, rfl, rfl⟩, ⟨⟨hl, (show k2 < 20000000 by omega), f1, (show k2 - z_rs (z_pr (l_R sv) l) (z_pr (l_C sv) l) ro2 < z_rl (z_pr (l_R sv) l) (z_pr (l_C sv) l) ro2 by omega), (show k2 = z_rs (z_pr (l_R sv) l) (z_pr (l_C sv) l) ro2 + (k2 - z_rs (z_pr (l_R sv) l) (z_pr (l_C sv) l) ro2) by omega)⟩, rfl, rfl⟩⟩
  have fin : ∀ r, r = nI (z_bhi (z_pr (l_R sv) l) ro2 - z_blo (z_pr (l_R sv) l) ro) → Ok (some r) (fun x => l_abands sv (nI l) (nI k) (nI k2) x) := fun r h => Ok.ret (l_relY ⟨⟨z1, z2⟩, hi⟩ hsp h)
  have q1 : ∀ x, 1 ≤ x → x ≤ 44 * z_pr (l_R sv) l → (x - 1) / z_pr (l_R sv) l < 44 := fun x a b => z_q a b
  have K : ∀ a b, (ro = 0 → a = 1) → (ro ≠ 0 → a = ro) → (ro2 = 44 * z_pr (l_R sv) l + 1 → b = ro2 - 1) → (ro2 ≠ 44 * z_pr (l_R sv) l + 1 → b = ro2) → Ok (if nI a ≤ nI b then (q_b1 (f_M_bandOf dp (nI l) (nI b)) (fun (v8 : Int32) => q_b1 (f_M_bandOf dp (nI l) (nI a)) (fun (v9 : Int32) => some ((v8 - v9) + 1)))) else (some 0)) (fun x => l_abands sv (nI l) (nI k) (nI k2) x) := by
    intro a b a1 a2 b1 b2
    have ha : 1 ≤ a ∧ a ≤ 44 * z_pr (l_R sv) l + 1 := by
      by_cases c : ro = 0
      · have := a1 c; omega
      · have := a2 c; omega
    have hb : b ≤ 44 * z_pr (l_R sv) l := by
      by_cases c : ro2 = 44 * z_pr (l_R sv) l + 1
      · have := b1 c; omega
      · have := b2 c; omega
    have hH1 : 1 ≤ z_pr (l_R sv) l := hps.1
    refine Ok.ite (fun c => ?_) (fun c => ?_)
    all_goals rw [nI_leI (by omega) (by omega)] at c
    · rw [m_bandOf g hl (by omega) hb, q_b1_s, m_bandOf g hl ha.1 (by omega), q_b1_s]
      have hd : (a - 1) / z_pr (l_R sv) l ≤ (b - 1) / z_pr (l_R sv) l := Nat.div_le_div_right (by omega)
      rw [pk_sub hd, nI_1]
      refine fin _ (congrArg nI ?_)
      have elo : z_blo (z_pr (l_R sv) l) ro = (a - 1) / z_pr (l_R sv) l := by
        unfold z_blo
        by_cases c0 : ro = 0
        · rw [if_pos c0, a1 c0, Nat.sub_self, Nat.zero_div]
        · have := a2 c0
          rw [if_neg c0, if_neg (show ¬ ro = 44 * z_pr (l_R sv) l + 1 by omega), this]
      have ehi : z_bhi (z_pr (l_R sv) l) ro2 = (b - 1) / z_pr (l_R sv) l + 1 := by
        unfold z_bhi
        have c0 : ¬ ro2 = 0 := by
          by_cases c1 : ro2 = 44 * z_pr (l_R sv) l + 1
          · omega
          · have := b2 c1; omega
        rw [if_neg c0]
        by_cases c1 : ro2 = 44 * z_pr (l_R sv) l + 1
        · have e := b1 c1
          rw [if_pos c1, e, c1]
          have : (44 * z_pr (l_R sv) l + 1 - 1 - 1) / z_pr (l_R sv) l = 43 := by
            rw [show 44 * z_pr (l_R sv) l + 1 - 1 - 1 = z_pr (l_R sv) l * 43 + (z_pr (l_R sv) l - 1) by omega, Nat.mul_add_div (by omega), Nat.div_eq_of_lt (by omega)]
          rw [this]
        · rw [if_neg c1, b2 c1]
      rw [elo, ehi]
      omega
    · refine fin _ ?_
      have e : z_bhi (z_pr (l_R sv) l) ro2 - z_blo (z_pr (l_R sv) l) ro = 0 := by
        unfold z_bhi z_blo
        by_cases c0 : ro2 = 0
        · rw [if_pos c0]; omega
        rw [if_neg c0]
        by_cases c1 : ro2 = 44 * z_pr (l_R sv) l + 1
        · rw [if_pos c1]
          have := b1 c1
          by_cases c2 : ro = 0
          · have := a1 c2; omega
          · have := a2 c2
            rw [if_neg c2, if_pos (show ro = 44 * z_pr (l_R sv) l + 1 by omega)]
        · have := b2 c1
          by_cases c2 : ro = 0
          · have := a1 c2; omega
          · have := a2 c2; omega
      rw [e]; rfl
  rw [er, q_b1_s, er2, q_b1_s]
  refine Ok.j1 ?_
  by_cases c0 : ro = 0
  · rw [if_pos (show nI ro = 0 by rw [c0]; rfl)]
    dsimp only
    rw [m_lastRow g hl, q_b1_s]
    refine Ok.j1 ?_
    by_cases c1 : ro2 = 44 * z_pr (l_R sv) l + 1
    · rw [if_pos (show nI ro2 = nI (44 * z_pr (l_R sv) l + 1) by rw [c1]), z_sub1 (show 1 ≤ ro2 by omega)]
      exact K 1 (ro2 - 1) (fun _ => rfl) (fun z => absurd c0 z) (fun _ => rfl) (fun z => absurd c1 z)
    · rw [if_neg (show ¬ nI ro2 = nI (44 * z_pr (l_R sv) l + 1) by rw [nI_eq (by omega) (by omega)]; exact c1)]
      exact K 1 ro2 (fun _ => rfl) (fun z => absurd c0 z) (fun z => absurd z c1) (fun _ => rfl)
  · rw [if_neg (show ¬ nI ro = 0 by rw [z_eq0 (by omega)]; exact c0)]
    dsimp only
    rw [m_lastRow g hl, q_b1_s]
    refine Ok.j1 ?_
    by_cases c1 : ro2 = 44 * z_pr (l_R sv) l + 1
    · rw [if_pos (show nI ro2 = nI (44 * z_pr (l_R sv) l + 1) by rw [c1]), z_sub1 (show 1 ≤ ro2 by omega)]
      exact K ro (ro2 - 1) (fun z => absurd z c0) (fun _ => rfl) (fun _ => rfl) (fun z => absurd c1 z)
    · rw [if_neg (show ¬ nI ro2 = nI (44 * z_pr (l_R sv) l + 1) by rw [nI_eq (by omega) (by omega)]; exact c1)]
      exact K ro ro2 (fun z => absurd z c0) (fun _ => rfl) (fun z => absurd z c1) (fun _ => rfl)
end S11A
