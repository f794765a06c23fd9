/-! both sides: what is a sheet; the sheet above; where a sheet is stored -/
theorem z_mid {H0 x : Nat} (h : x < 44 * H0) : ¬ (1 + x = 0 ∨ 1 + x = 44 * H0 + 1) := by omega
section R2
variable {R C H V : Nat → Nat} {rc cc br zc rw sh cr cq dp wd za : Nat → Int32} {N l : Nat}
def z_upr (H V : Nat → Nat) (l t k k2 : Nat) : Prop := ∃ r p, r ≤ 44 * H l + 1 ∧ p < z_rl (H l) (V l) r ∧ k = z_rs (H l) (V l) r + p ∧ k2 = (if r = 0 then 0 else if r = 44 * H l + 1 then 2130 * (H t * V t) + 1 else z_rs (H t) (V t) (1 + (r - 1) / (H l / H t)) + p / (V l / V t))
theorem z_upr_one {t k k2 k3 : Nat} (hH : 1 ≤ H l) (h1 : z_upr H V l t k k2) (h2 : z_upr H V l t k k3) : k2 = k3 := by
  obtain ⟨r, p, a1, a2, a3, a4⟩ := h1
  obtain ⟨r', p', b1, b2, b3, b4⟩ := h2
  have e : r = r' := z_row_one (V := V l) hH a1 b1 (k := k) (by omega) (by omega) (by omega) (by omega)
  subst e
  have : p = p' := by omega
  subst this
  rw [a4, b4]
theorem z_upr_lt (g : CUT R C H V) (hl : l < 5) {t : Nat} (ht : t ≤ l) {k k2 : Nat} (h : z_upr H V l t k k2) : k2 < 2130 * (H t * V t) + 2 := by
  have ht5 : t < 5 := by omega
  have hp := g.pos l hl
  have hpt := g.pos t ht5
  have hd := g.dvd l hl t ht
  have q1 := z_quot hd.1 hpt.1 hp.1
  have q2 := z_quot hd.2 hpt.2 hp.2
  obtain ⟨r, p, a1, a2, a3, a4⟩ := h
  rw [a4]
  by_cases c0 : r = 0
  · rw [if_pos c0]; omega
  · rw [if_neg c0]
    by_cases c1 : r = 44 * H l + 1
    · rw [if_pos c1]; omega
    · rw [if_neg c1]
      have hrow : (r - 1) / (H l / H t) < 44 * H t := by
        apply Nat.div_lt_of_lt_mul
        have : H l / H t * (44 * H t) = 44 * H l := by
          rw [Nat.mul_left_comm, Nat.mul_comm (H l / H t), q1.2.2]
        omega
      have hband : (1 + (r - 1) / (H l / H t) - 1) / H t = (r - 1) / H l := by
        rw [Nat.add_sub_cancel_left, Nat.div_div_eq_div_mul, Nat.mul_comm (H l / H t), q1.2.2]
      have hlen : z_rl (H t) (V t) (1 + (r - 1) / (H l / H t)) = z_bz ((r - 1) / H l) * V t := by
        unfold z_rl
        rw [if_neg (z_mid hrow), hband]
      have hlen2 : z_rl (H l) (V l) r = z_bz ((r - 1) / H l) * V l := by
        unfold z_rl
        rw [if_neg (by omega)]
      have hpl : p / (V l / V t) < z_bz ((r - 1) / H l) * V t := by
        apply Nat.div_lt_of_lt_mul
        rw [hlen2] at a2
        have : V l / V t * (z_bz ((r - 1) / H l) * V t) = z_bz ((r - 1) / H l) * V l := by
          rw [Nat.mul_left_comm, Nat.mul_comm (V l / V t), q2.2.2]
        omega
      have hend := z_rs_end (V := V t) (r := 1 + (r - 1) / (H l / H t)) hpt.1 (by omega)
      rw [hlen] at hend
      omega
theorem r_hasSheet (g : GOK R C H V rc cc br zc rw sh) (p q : Int32) : Ok (f_Grid_hasSheet sh p q) (fun x => (z_hs H V p q ∧ x = 1) ∨ (¬ z_hs H V p q ∧ x = 0)) := by
  by_cases h : z_hs H V p q
  · have h' := h
    obtain ⟨l, k, hl, rfl, rfl, hk⟩ := h'
    have hs := g.2.sh hl
    unfold f_Grid_hasSheet
    rw [k_isLevel, nI_toInt (by omega), q_b1_s, if_neg (by rw [if_pos (by omega)]; decide), if_neg (z_lt0 (by omega)), z_ai hl (by omega), (g.at hl).2.2.2.2.2, if_neg (by rw [nI_leI (by omega) (by omega)]; omega)]
    exact Ok.ret (Or.inl ⟨h, rfl⟩)
  · exact Ok.weak (s_hasSheet g p q) (fun x hx => Or.inr ⟨h, Decidable.byContradiction (fun z => h (hx z))⟩)
theorem r_isKey (g : MOK R C H V cr cq dp wd za) (p q : Int32) : Ok (f_M_isKey dp wd za p q) (fun x => (z_hs H V p q ∧ x = 1) ∨ (¬ z_hs H V p q ∧ x = 0)) := by
  by_cases h : z_hs H V p q
  · have h' := h
    obtain ⟨l, k, hl, rfl, rfl, hk⟩ := h'
    have hs := g.2.2.sh hl
    unfold f_M_isKey
    refine Ok.b1 (t_isLevel _) (fun v1 h1 => Ok.ite (fun z => ?_) (fun _ => ?_))
    · rw [nI_toInt (by omega), if_pos (by omega)] at h1
      rw [h1] at z; exact absurd z (by decide)
    · rw [m_sheets g hl, q_b1_s, m_in, q_b1_s, z_toL, z_sub1 (by omega), z_toL, nI_toInt (by omega), nI_toInt (by omega), show (0 : Int64).toInt = 0 from rfl, if_pos (show 0 ≤ (k : Int) ∧ (k : Int) ≤ ((2130 * (H l * V l) + 2 - 1 : Nat) : Int) by omega)]
      exact Ok.ite (fun z => absurd z (by decide)) (fun _ => Ok.ret (Or.inl ⟨h, rfl⟩))
  · exact Ok.weak (t_isKey g p q) (fun x hx => Or.inr ⟨h, Decidable.byContradiction (fun z => h (hx z))⟩)
theorem r_above (g : GOK R C H V rc cc br zc rw sh) (hN : 1000000 ≤ N) (hl : l < 5) {t : Nat} (ht : t ≤ l) {k : Nat} (hk : k < 2130 * (H l * V l) + 2) : Ok (f_Grid_keyAbove N br zc rw sh (nI l) (nI k) (nI t)) (fun x => ∃ k2, z_upr H V l t k k2 ∧ x = nI k2) := by
  have ht5 : t < 5 := by omega
  have hv := g.2.hv hl
  have hvt := g.2.hv ht5
  have hp := g.2.pos l hl
  have hpt := g.2.pos t ht5
  have hd := g.2.dvd l hl t ht
  have q1 := z_quot hd.1 hpt.1 hp.1
  have q2 := z_quot hd.2 hpt.2 hp.2
  have hs := g.2.sh ht5
  have hsl := g.2.sh hl
  obtain ⟨r, er, h1, h2, h3⟩ := k_rowOfKey (N := N) g (by omega) hl hk
  have hL := (z_rl_pos (V := V l) hp.1 hp.2 h1).2
  unfold f_Grid_keyAbove
  rw [er, q_b1_s]
  by_cases c0 : r = 0
  · subst c0
    refine Ok.ite (fun _ => Ok.ret ⟨0, ⟨0, k - z_rs (H l) (V l) 0, by omega, by omega, by omega, by rw [if_pos rfl]⟩, rfl⟩) (fun z => absurd rfl z)
  · rw [if_neg (by rw [z_eq0 (by omega)]; exact c0), z_ai hl (by omega), (g.at hl).2.2.2.2.1, z_sub1 (by omega), show 44 * H l + 2 - 1 = 44 * H l + 1 from rfl]
    by_cases c1 : r = 44 * H l + 1
    · rw [if_pos (by rw [c1]), z_ai ht5 (by omega), (g.at ht5).2.2.2.2.2, z_sub1 (by omega)]
      exact Ok.ret ⟨_, ⟨r, k - z_rs (H l) (V l) r, h1, by omega, by omega, by rw [if_neg c0, if_pos c1]; rfl⟩, rfl⟩
    · rw [if_neg (by rw [nI_eq (by omega) (by omega)]; exact c1), k_rowStart g hl h1, q_b1_s, pk_sub h2, z_nm]
      have hrow : (r - 1) / (H l / H t) < 44 * H t := by
        apply Nat.div_lt_of_lt_mul
        have : H l / H t * (44 * H t) = 44 * H l := by
          rw [Nat.mul_left_comm, Nat.mul_comm (H l / H t), q1.2.2]
        omega
      have e1 : f_Grid_rowsIn br (nI t) (nI l) = some (nI (H l / H t)) := by
        unfold f_Grid_rowsIn
        rw [z_ai hl (by omega), (g.at hl).2.2.1, z_ai ht5 (by omega), (g.at ht5).2.2.1, z_dv (by omega) (by omega) (by omega)]
      have e2 : f_Grid_columnsIn zc (nI t) (nI l) = some (nI (V l / V t)) := by
        unfold f_Grid_columnsIn
        rw [z_ai hl (by omega), (g.at hl).2.2.2.1, z_ai ht5 (by omega), (g.at ht5).2.2.2.1, z_dv (by omega) (by omega) (by omega)]
      rw [e1, q_b1_s, z_sub1 (by omega), z_dv (by omega) (by omega) (by omega), nI_1, z_nm, k_rowStart g ht5 (by omega), q_b1_s, e2, q_b1_s, z_dv (by omega) (by omega) (by omega), nI_add]
      exact Ok.ret ⟨_, ⟨r, k - z_rs (H l) (V l) r, h1, by omega, by omega, by rw [if_neg c0, if_neg c1, Nat.add_comm 1]⟩, rfl⟩
theorem r_parentOf (g : MOK R C H V cr cq dp wd za) (hN : 50 ≤ N) (hl : l < 5) {t : Nat} (ht : t ≤ l) {k : Nat} (hk : k < 2130 * (H l * V l) + 2) : Ok (f_M_parentOf N dp wd za (nI l) (nI k) (nI t)) (fun x => ∃ k2, z_upr H V l t k k2 ∧ x = nI k2) := by
  have ht5 : t < 5 := by omega
  have hv := g.2.2.hv hl
  have hvt := g.2.2.hv ht5
  have hp := g.2.2.pos l hl
  have hpt := g.2.2.pos t ht5
  have hd := g.2.2.dvd l hl t ht
  have q1 := z_quot hd.1 hpt.1 hp.1
  have q2 := z_quot hd.2 hpt.2 hp.2
  have hs := g.2.2.sh ht5
  have hsl := g.2.2.sh hl
  obtain ⟨r, p, hr, hpr, hk2, er, ep⟩ := t_spot (N := N) g hN hl hk
  have hpl := (z_rl_pos (V := V l) hp.1 hp.2 hr).2
  unfold f_M_parentOf
  rcases t_isCap g hl hk with ⟨c, e⟩ | ⟨c, e⟩ <;> rw [e, q_b1_s]
  · refine Ok.ite (fun h => absurd h (by decide)) (fun _ => Ok.ite (fun c0 => ?_) (fun c0 => ?_))
    all_goals rw [z_eq0 (by omega)] at c0
    · refine Ok.ret ⟨0, ⟨0, 0, by omega, ?_, ?_, by rw [if_pos rfl]⟩, rfl⟩
      · rw [show z_rl (H l) (V l) 0 = 1 from if_pos (Or.inl rfl)]; omega
      · rw [show z_rs (H l) (V l) 0 = 0 from if_pos rfl]; exact c0
    · rw [m_sheets g ht5, q_b1_s, z_sub1 (by omega)]
      have ck : k = 2130 * (H l * V l) + 1 := by unfold z_capk at c; omega
      refine Ok.ret ⟨_, ⟨44 * H l + 1, 0, by omega, ?_, ?_, by rw [if_neg (by omega), if_pos rfl]; rfl⟩, rfl⟩
      · rw [z_rl_last]; omega
      · rw [z_rs_last hp.1]; exact ck
  · refine Ok.ite (fun _ => ?_) (fun h => absurd rfl h)
    obtain ⟨r1, r2⟩ := z_notcap hp.1 hr hpr hk2 c
    have hrow : (r - 1) / (H l / H t) < 44 * H t := by
      apply Nat.div_lt_of_lt_mul
      have : H l / H t * (44 * H t) = 44 * H l := by
        rw [Nat.mul_left_comm, Nat.mul_comm (H l / H t), q1.2.2]
      omega
    have hbd := z_upr_lt g.2.2 hl ht ⟨r, p, hr, hpr, hk2, rfl⟩
    rw [if_neg (by omega), if_neg (by omega)] at hbd
    have hband : (1 + (r - 1) / (H l / H t) - 1) / H t = (r - 1) / H l := by
      rw [Nat.add_sub_cancel_left, Nat.div_div_eq_div_mul, Nat.mul_comm (H l / H t), q1.2.2]
    have hlen : z_rl (H t) (V t) (1 + (r - 1) / (H l / H t)) = z_bz ((r - 1) / H l) * V t := by
      unfold z_rl
      rw [if_neg (z_mid hrow), hband]
    have hlen2 : z_rl (H l) (V l) r = z_bz ((r - 1) / H l) * V l := by
      unfold z_rl
      rw [if_neg (by omega)]
    have hpl2 : p / (V l / V t) < z_bz ((r - 1) / H l) * V t := by
      apply Nat.div_lt_of_lt_mul
      rw [hlen2] at hpr
      have : V l / V t * (z_bz ((r - 1) / H l) * V t) = z_bz ((r - 1) / H l) * V l := by
        rw [Nat.mul_left_comm, Nat.mul_comm (V l / V t), q2.2.2]
      omega
    rw [er, q_b1_s, z_ai hl (by omega), (g.1 l hl).2.2.1, z_ai ht5 (by omega), (g.1 t ht5).2.2.1, z_dv (by omega) (by omega) (by omega), z_sub1 r1, z_dv (by omega) (by omega) (by omega), ep, q_b1_s, z_ai hl (by omega), (g.1 l hl).2.2.2, z_ai ht5 (by omega), (g.1 t ht5).2.2.2, z_dv (by omega) (by omega) (by omega), z_dv (by omega) (by omega) (by omega), z_i 1, nI_add, m_keyOf g ht5 (by omega) (by rw [hlen]; exact hpl2), q_b1_s]
    exact Ok.ret ⟨_, ⟨r, p, hr, hpr, hk2, by rw [if_neg (by omega), if_neg (by omega)]⟩, rfl⟩
/-- where a sheet is stored -/
def z_at0 (H V : Nat → Nat) (l k l2 k2 : Nat) : Prop := (z_capk (H l) (V l) k ∧ l2 = 0 ∧ z_upr H V l 0 k k2) ∨ (¬ z_capk (H l) (V l) k ∧ l2 = l ∧ k2 = k)
theorem z_upr_self (g : CUT R C H V) (hl : l < 5) {k k2 : Nat} (hc : ¬ z_capk (H l) (V l) k) (h : z_upr H V l l k k2) : k2 = k := by
  have hp := g.pos l hl
  obtain ⟨r, p, a1, a2, a3, a4⟩ := h
  obtain ⟨r1, r2⟩ := z_notcap hp.1 a1 a2 a3 hc
  rw [if_neg (by omega), if_neg (by omega), Nat.div_self hp.1, Nat.div_self hp.2, Nat.div_one, Nat.div_one, Nat.add_sub_cancel' r1] at a4
  omega
theorem z_at0_in (g : CUT R C H V) (hl : l < 5) {k l2 k2 : Nat} (hk : k < 2130 * (H l * V l) + 2) (h : z_at0 H V l k l2 k2) : l2 < 5 ∧ k2 < 2130 * (H l2 * V l2) + 2 := by
  rcases h with ⟨-, rfl, h⟩ | ⟨-, rfl, rfl⟩
  · exact ⟨by omega, z_upr_lt g hl (Nat.zero_le _) h⟩
  · exact ⟨hl, hk⟩
theorem z_at0_one (hH : 1 ≤ H l) {k l2 k2 l3 k3 : Nat} (h1 : z_at0 H V l k l2 k2) (h2 : z_at0 H V l k l3 k3) : l2 = l3 ∧ k2 = k3 := by
  rcases h1 with ⟨a, b, c⟩ | ⟨a, b, c⟩ <;> rcases h2 with ⟨d, e, f⟩ | ⟨d, e, f⟩
  · exact ⟨by omega, z_upr_one hH c f⟩
  · exact absurd a d
  · exact absurd d a
  · exact ⟨by omega, by omega⟩
/-- the class's two words for it -/
theorem r_stored (g : GOK R C H V rc cc br zc rw sh) (hN : 1000000 ≤ N) (hl : l < 5) {k : Nat} (hk : k < 2130 * (H l * V l) + 2) : ∃ l2 k2, z_at0 H V l k l2 k2 ∧ f_Grid_storedLevel sh (nI l) (nI k) = some (nI l2) ∧ f_Grid_keyAbove N br zc rw sh (nI l) (nI k) (nI l2) = some (nI k2) := by
  have hs := g.2.sh hl
  have hp := g.2.pos l hl
  by_cases c : z_capk (H l) (V l) k
  · obtain ⟨x, ex, k2, h2, rfl⟩ := r_above (N := N) g hN hl (t := 0) (Nat.zero_le _) hk
    refine ⟨0, k2, Or.inl ⟨c, rfl, h2⟩, ?_, ex⟩
    unfold f_Grid_storedLevel
    rw [z_j0]
    by_cases c0 : k = 0
    · rw [if_pos (by rw [c0]; rfl)]; rfl
    · have ck : k = 2130 * (H l * V l) + 1 := by unfold z_capk at c; omega
      rw [if_neg (by rw [z_eq0 (by omega)]; exact c0), z_ai hl (by omega), (g.at hl).2.2.2.2.2, z_sub1 (by omega), if_pos (by rw [nI_eq (by omega) (by omega)]; omega)]; rfl
  · obtain ⟨x, ex, k2, h2, rfl⟩ := r_above (N := N) g hN hl (t := l) (Nat.le_refl _) hk
    have e := z_upr_self g.2 hl c h2
    subst e
    refine ⟨l, k2, Or.inr ⟨c, rfl, rfl⟩, ?_, ex⟩
    unfold z_capk at c
    unfold f_Grid_storedLevel
    rw [z_j0, if_neg (by rw [z_eq0 (by omega)]; omega), z_ai hl (by omega), (g.at hl).2.2.2.2.2, z_sub1 (by omega), if_neg (by rw [nI_eq (by omega) (by omega)]; omega)]
end R2
