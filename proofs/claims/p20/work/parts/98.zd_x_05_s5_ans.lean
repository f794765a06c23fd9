/-! answers: wider, jog (l_spot is s4's) -/
section S5A
variable {rc cc br zc rw sh cr cq dp wd za fl fk fy : Nat → Int32} {sv : l_T} {N l : Nat}
def l_hs (sv : l_T) (p q : Int32) : Prop := z_hs (z_pr (l_R sv)) (z_pr (l_C sv)) p q
theorem r_areSheets {R C H V : Nat → Nat} (g : GOK R C H V rc cc br zc rw sh) (p q w : Int32) : Ok (f_X_areSheets sh p q w) (fun x => ((z_hs H V p q ∧ z_hs H V p w) ∧ x = 1) ∨ (¬ (z_hs H V p q ∧ z_hs H V p w) ∧ x = 0)) := by
  unfold f_X_areSheets
  refine Ok.b1 (r_hasSheet g p q) (fun v1 h1 => ?_)
  rcases h1 with ⟨z, rfl⟩ | ⟨z, rfl⟩
  · refine Ok.ite (fun c => absurd c (by decide)) (fun _ => Ok.b1 (r_hasSheet g p w) (fun v2 h2 => ?_))
    rcases h2 with ⟨y, rfl⟩ | ⟨y, rfl⟩
    · exact Ok.ite (fun c => absurd c (by decide)) (fun _ => Ok.ret (Or.inl ⟨⟨z, y⟩, rfl⟩))
    · exact Ok.ite (fun _ => Ok.ret (Or.inr ⟨fun u => y u.2, rfl⟩)) (fun c => absurd rfl c)
  · exact Ok.ite (fun _ => Ok.ret (Or.inr ⟨fun u => z u.1, rfl⟩)) (fun c => absurd rfl c)
def l_rl (sv : l_T) (l ro : Nat) : Nat := z_rl (z_pr (l_R sv) l) (z_pr (l_C sv) l) ro
def l_awider (sv : l_T) (p q w r : Int32) : Prop := (¬ (l_hs sv p q ∧ l_hs sv p w) ∧ r = -1000000) ∨ (∃ l k ro pl k2 ro2 pl2, (l_hs sv p q ∧ l_hs sv p w) ∧ l_spot sv l k ro pl ∧ l_spot sv l k2 ro2 pl2 ∧ p = nI l ∧ q = nI k ∧ w = nI k2 ∧ r = if l_rl sv l ro2 ≤ l_rl sv l ro then (if l_rl sv l ro ≤ l_rl sv l ro2 then 0 else -1) else 1)
theorem l_awider_one {p q w r r' : Int32} (h : l_ok sv) (h1 : l_awider sv p q w r) (h2 : l_awider sv p q w r') : r = r' := by
  rcases h1 with ⟨a, b⟩ | ⟨l, k, ro, pl, k2, ro2, pl2, a, b1, b2, c1, c2, c3, e⟩ <;> rcases h2 with ⟨a', b'⟩ | ⟨l', k', ro', pl', k2', ro2', pl2', a', b1', b2', c1', c2', c3', e'⟩
  · exact b.trans b'.symm
  · exact absurd a' a
  · exact absurd a a'
  · obtain ⟨rfl, rfl, rfl, rfl⟩ := l_spot_one h b1 b1' c1 c1' c2 c2'
    obtain ⟨-, rfl, rfl, rfl⟩ := l_spot_one h b2 b2' c1 c1' c3 c3'
    exact e.trans e'.symm
theorem a_x_wider (g : GOK (l_R sv) (l_C sv) (z_pr (l_R sv)) (z_pr (l_C sv)) rc cc br zc rw sh) (hN : 1000000 ≤ N) (p q w : Int32) : Ok (f_X_wider N br zc rw sh p q w) (fun x => l_awider sv p q w x) := by
  unfold f_X_wider
  refine Ok.b1 (r_areSheets g p q w) (fun v1 h1 => ?_)
  rcases h1 with ⟨z, rfl⟩ | ⟨z, rfl⟩
  rotate_left
  · exact Ok.ite (fun _ => Ok.ret (Or.inl ⟨z, rfl⟩)) (fun c => absurd rfl c)
  refine Ok.ite (fun c => absurd c (by decide)) (fun _ => ?_)
  have z' := z
  obtain ⟨⟨l, k, hl, rfl, rfl, hk⟩, ⟨l', k2, hl', e0, rfl, hk2⟩⟩ := z'
  have e1 : l = l' := by rw [nI_eq (by omega) (by omega)] at e0; exact e0
  subst e1
  have hs := g.2.sh hl
  have hp := g.2.pos l hl
  have hv := g.2.hv hl
  obtain ⟨ro, er, d1, d2, d3⟩ := k_rowOfKey (N := N) g (by omega) hl hk
  obtain ⟨ro2, er2, f1, f2, f3⟩ := k_rowOfKey (N := N) g (by omega) hl hk2
  have la := (z_rl_pos (V := z_pr (l_C sv) l) hp.1 hp.2 d1).2
  have lb := (z_rl_pos (V := z_pr (l_C sv) l) hp.1 hp.2 f1).2
  rw [er, q_b1_s, k_rowLength g hl d1, q_b1_s, er2, q_b1_s, k_rowLength g hl f1, q_b1_s]
  have fin : ∀ r : Int32, r = (if l_rl sv l ro2 ≤ l_rl sv l ro then (if l_rl sv l ro ≤ l_rl sv l ro2 then 0 else -1) else 1) → l_awider sv (nI l) (nI k) (nI k2) r := fun r h => Or.inr ⟨l, k, ro, k - z_rs (z_pr (l_R sv) l) (z_pr (l_C sv) l) ro, k2, ro2, k2 - z_rs (z_pr (l_R sv) l) (z_pr (l_C sv) l) ro2, z, ⟨hl, by omega, d1, by omega, by omega⟩, ⟨hl, by omega, f1, by omega, by omega⟩, rfl, rfl, rfl, h⟩
  unfold f_JInteger_compare_7cf53
  unfold l_rl at fin
  by_cases c1 : z_rl (z_pr (l_R sv) l) (z_pr (l_C sv) l) ro2 ≤ z_rl (z_pr (l_R sv) l) (z_pr (l_C sv) l) ro
  · by_cases c2 : z_rl (z_pr (l_R sv) l) (z_pr (l_C sv) l) ro ≤ z_rl (z_pr (l_R sv) l) (z_pr (l_C sv) l) ro2
    · rw [if_pos ((nI_leI (by omega) (by omega)).mpr c2), if_pos (by rw [Nat.le_antisymm c1 c2]), q_b1_s]
      exact Ok.ret (fin _ (by rw [if_pos c1, if_pos c2]))
    · rw [if_neg (fun z => c2 ((nI_leI (by omega) (by omega)).mp z)), q_b1_s]
      exact Ok.ret (fin _ (by rw [if_pos c1, if_neg c2]))
  · rw [if_pos ((nI_leI (by omega) (by omega)).mpr (by omega)), if_neg (fun z => c1 (by rw [nI_eq (by omega) (by omega)] at z; omega)), q_b1_s]
    exact Ok.ret (fin _ (by rw [if_neg c1]))
theorem a_m_wider (g : MOK (l_R sv) (l_C sv) (z_pr (l_R sv)) (z_pr (l_C sv)) cr cq dp wd za) (hN : 1000000 ≤ N) (p q w : Int32) : Ok (f_M_wider N dp wd za p q w) (fun x => l_awider sv p q w x) := by
  unfold f_M_wider
  refine Ok.b1 (r_isKey g p q) (fun v1 h1 => ?_)
  rcases h1 with ⟨z, rfl⟩ | ⟨z, rfl⟩
  rotate_left
  · exact Ok.ite (fun _ => Ok.ret (Or.inl ⟨fun u => z u.1, rfl⟩)) (fun c => absurd rfl c)
  refine Ok.ite (fun c => absurd c (by decide)) (fun _ => Ok.b1 (r_isKey g p w) (fun v2 h2 => ?_))
  rcases h2 with ⟨y, rfl⟩ | ⟨y, rfl⟩
  rotate_left
  · exact Ok.ite (fun _ => Ok.ret (Or.inl ⟨fun u => y u.2, rfl⟩)) (fun c => absurd rfl c)
  refine Ok.ite (fun c => absurd c (by decide)) (fun _ => ?_)
  have z' := z
  have y' := y
  obtain ⟨l, k, hl, rfl, rfl, hk⟩ := z'
  obtain ⟨l', k2, hl', e0, rfl, hk2⟩ := y'
  have e1 : l = l' := by rw [nI_eq (by omega) (by omega)] at e0; exact e0
  subst e1
  have hs := g.2.2.sh hl
  have hp := g.2.2.pos l hl
  have hv := g.2.2.hv hl
  obtain ⟨ro, er, d1, d2, d3⟩ := m_rowOf (N := N) g (by omega) hl hk
  obtain ⟨ro2, er2, f1, f2, f3⟩ := m_rowOf (N := N) g (by omega) hl hk2
  have la := (z_rl_pos (V := z_pr (l_C sv) l) hp.1 hp.2 d1).2
  have lb := (z_rl_pos (V := z_pr (l_C sv) l) hp.1 hp.2 f1).2
  rw [er, q_b1_s, m_many g hl d1, q_b1_s, er2, q_b1_s, m_many g hl f1, q_b1_s]
  have fin : ∀ r : Int32, r = (if l_rl sv l ro2 ≤ l_rl sv l ro then (if l_rl sv l ro ≤ l_rl sv l ro2 then 0 else -1) else 1) → l_awider sv (nI l) (nI k) (nI k2) r := fun r h => Or.inr ⟨l, k, ro, k - z_rs (z_pr (l_R sv) l) (z_pr (l_C sv) l) ro, k2, ro2, k2 - z_rs (z_pr (l_R sv) l) (z_pr (l_C sv) l) ro2, ⟨z, y⟩, ⟨hl, by omega, d1, by omega, by omega⟩, ⟨hl, by omega, f1, by omega, by omega⟩, rfl, rfl, rfl, h⟩
  unfold l_rl at fin
  refine Ok.ite (fun c1 => Ok.ite (fun c2 => ?_) (fun c2 => ?_)) (fun c1 => ?_)
  all_goals rw [nI_leI (by omega) (by omega)] at c1
  · rw [nI_leI (by omega) (by omega)] at c2
    exact Ok.ret (fin _ (by rw [if_pos c1, if_pos c2]))
  · rw [nI_leI (by omega) (by omega)] at c2
    exact Ok.ret (fin _ (by rw [if_pos c1, if_neg c2]))
  · exact Ok.ret (fin _ (by rw [if_neg c1]))
/-! jog -/
def l_vjog (sv : l_T) (l ro : Nat) (w : Int32) : Int32 := if w = 0 then (if ro = 0 then 0 else if l_rl sv l (ro - 1) = l_rl sv l ro then 0 else 1) else if w = 2 then (if ro = 44 * z_pr (l_R sv) l + 1 then 0 else if l_rl sv l (ro + 1) = l_rl sv l ro then 0 else 1) else -1
def l_ajog (sv : l_T) (p q w r : Int32) : Prop := (¬ l_hs sv p q ∧ r = -1) ∨ (∃ l k ro pl, l_hs sv p q ∧ l_spot sv l k ro pl ∧ p = nI l ∧ q = nI k ∧ r = l_vjog sv l ro w)
theorem l_ajog_one {p q w r r' : Int32} (h : l_ok sv) (h1 : l_ajog sv p q w r) (h2 : l_ajog sv p q w r') : r = r' := by
  rcases h1 with ⟨a, b⟩ | ⟨l, k, ro, pl, a, b1, c1, c2, e⟩ <;> rcases h2 with ⟨a', b'⟩ | ⟨l', k', ro', pl', a', b1', c1', c2', e'⟩
  · exact b.trans b'.symm
  · exact absurd a' a
  · exact absurd a a'
  · obtain ⟨rfl, rfl, rfl, rfl⟩ := l_spot_one h b1 b1' c1 c1' c2 c2'
    exact e.trans e'.symm
theorem a_x_jog (g : GOK (l_R sv) (l_C sv) (z_pr (l_R sv)) (z_pr (l_C sv)) rc cc br zc rw sh) (hN : 1000000 ≤ N) (a1 a2 a3 a4 a5 a6 p q w : Int32) : Ok (f_X_jog N a1 a2 a3 a4 a5 a6 br zc rw sh p q w) (fun x => l_ajog sv p q w x.1) := by
  unfold f_X_jog
  refine Ok.b1 (r_hasSheet g p q) (fun v1 h1 => ?_)
  rcases h1 with ⟨z, rfl⟩ | ⟨z, rfl⟩
  rotate_left
  · exact Ok.ite (fun _ => Ok.ret (Or.inl ⟨z, rfl⟩)) (fun c => absurd rfl c)
  refine Ok.ite (fun c => absurd c (by decide)) (fun _ => ?_)
  have z' := z
  obtain ⟨l, k, hl, rfl, rfl, hk⟩ := z'
  have hs := g.2.sh hl
  have hp := g.2.pos l hl
  have hv := g.2.hv hl
  obtain ⟨ro, pl, e, d1, d2, d3⟩ := k_put (N := N) g (by omega) hl hk a1 a2 a3 a4 a5 a6
  have la := (z_rl_pos (V := z_pr (l_C sv) l) hp.1 hp.2 d1).2
  have fin : ∀ r : Int32, r = l_vjog sv l ro w → l_ajog sv (nI l) (nI k) w r := fun r h => Or.inr ⟨l, k, ro, pl, z, ⟨hl, by omega, d1, d2, d3⟩, rfl, rfl, h⟩
  unfold l_vjog l_rl at fin
  rw [e]
  refine Ok.j0 ?_
  have t0 : (0 : Int32).toInt = 0 := rfl
  by_cases c0 : w = 0
  · rw [if_pos c0] at fin
    rw [if_pos c0, q_b6_s]
    refine Ok.j1 ?_
    rw [if_pos c0]
    dsimp only
    rw [z_ai hl (by omega), (g.at hl).2.2.2.2.1, show nI (44 * z_pr (l_R sv) l + 2) - 1 = nI (44 * z_pr (l_R sv) l + 1) from z_sub1 (by omega)]
    refine Ok.b1 (s_isFrom _ _ _) (fun v10 h10 => ?_)
    by_cases r0 : ro = 0
    · rw [r0, t0, if_neg (show ¬ (0 ≤ (nI 0 - 1).toInt ∧ (nI 0 - 1).toInt ≤ (nI (44 * z_pr (l_R sv) l + 1)).toInt) from fun z => absurd z.1 (by decide))] at h10
      subst h10
      exact Ok.ite (fun _ => Ok.ret (fin _ (by rw [if_pos r0]))) (fun c => absurd rfl c)
    · rw [z_sub1 (by omega), t0, nI_toInt (by omega), nI_toInt (by omega), if_pos (by omega)] at h10
      subst h10
      refine Ok.ite (fun c => absurd c (by decide)) (fun _ => ?_)
      have lb := (z_rl_pos (V := z_pr (l_C sv) l) hp.1 hp.2 (show ro - 1 ≤ _ by omega)).2
      rw [z_sub1 (by omega), k_rowLength g hl (show ro - 1 ≤ _ by omega), q_b1_s]
      refine Ok.ite (fun c => ?_) (fun c => ?_)
      all_goals rw [nI_eq (by omega) (by omega)] at c
      · exact Ok.ret (fin _ (by rw [if_neg r0, if_pos c]))
      · exact Ok.ret (fin _ (by rw [if_neg r0, if_neg c]))
  · rw [if_neg c0] at fin
    rw [if_neg c0]
    by_cases c2 : w = 2
    · rw [if_pos c2] at fin
      rw [if_pos c2, q_b6_s]
      refine Ok.j1 ?_
      rw [if_neg c0, nI_1]
      dsimp only
      rw [z_ai hl (by omega), (g.at hl).2.2.2.2.1, show nI (44 * z_pr (l_R sv) l + 2) - 1 = nI (44 * z_pr (l_R sv) l + 1) from z_sub1 (by omega)]
      refine Ok.b1 (s_isFrom _ _ _) (fun v10 h10 => ?_)
      rw [t0, nI_toInt (by omega), nI_toInt (by omega)] at h10
      by_cases r0 : ro = 44 * z_pr (l_R sv) l + 1
      · rw [if_neg (by omega)] at h10
        subst h10
        exact Ok.ite (fun _ => Ok.ret (fin _ (by rw [if_pos r0]))) (fun c => absurd rfl c)
      · rw [if_pos (by omega)] at h10
        subst h10
        refine Ok.ite (fun c => absurd c (by decide)) (fun _ => ?_)
        have lb := (z_rl_pos (V := z_pr (l_C sv) l) hp.1 hp.2 (show ro + 1 ≤ _ by omega)).2
        rw [k_rowLength g hl (show ro + 1 ≤ _ by omega), q_b1_s]
        refine Ok.ite (fun c => ?_) (fun c => ?_)
        all_goals rw [nI_eq (by omega) (by omega)] at c
        · exact Ok.ret (fin _ (by rw [if_neg r0, if_pos c]))
        · exact Ok.ret (fin _ (by rw [if_neg r0, if_neg c]))
    · rw [if_neg c2] at fin
      rw [if_neg c2]
      exact Ok.ret (fin _ rfl)
theorem a_m_jog (g : MOK (l_R sv) (l_C sv) (z_pr (l_R sv)) (z_pr (l_C sv)) cr cq dp wd za) (hN : 1000000 ≤ N) (p q w : Int32) : Ok (f_M_jog N dp wd za p q w) (fun x => l_ajog sv p q w x) := by
  unfold f_M_jog
  refine Ok.b1 (r_isKey g p q) (fun v1 h1 => ?_)
  rcases h1 with ⟨z, rfl⟩ | ⟨z, rfl⟩
  rotate_left
  · exact Ok.ite (fun _ => Ok.ret (Or.inl ⟨z, rfl⟩)) (fun c => absurd rfl c)
  refine Ok.ite (fun c => absurd c (by decide)) (fun _ => ?_)
  have z' := z
  obtain ⟨l, k, hl, rfl, rfl, hk⟩ := z'
  have hs := g.2.2.sh hl
  have hp := g.2.2.pos l hl
  have hv := g.2.2.hv hl
  obtain ⟨ro, pl, d1, d2, d3, er, -⟩ := t_spot (N := N) g (by omega) hl hk
  have la := (z_rl_pos (V := z_pr (l_C sv) l) hp.1 hp.2 d1).2
  have fin : ∀ r : Int32, r = l_vjog sv l ro w → l_ajog sv (nI l) (nI k) w r := fun r h => Or.inr ⟨l, k, ro, pl, z, ⟨hl, by omega, d1, d2, d3⟩, rfl, rfl, h⟩
  unfold l_vjog l_rl at fin
  rw [er]
  refine Ok.j0 ?_
  have t0 : (0 : Int64).toInt = 0 := rfl
  by_cases c0 : w = 0
  · rw [if_pos c0] at fin
    rw [if_pos c0, q_b1_s]
    refine Ok.j1 ?_
    rw [if_pos c0]
    dsimp only
    rw [m_lastRow g hl, q_b1_s]
    refine Ok.b1 (t_in _ _ _) (fun v10 h10 => ?_)
    rw [t0, z_toL, z_toL] at h10
    by_cases r0 : ro = 0
    · rw [r0, if_neg (show ¬ (0 ≤ (nI 0 - 1).toInt ∧ (nI 0 - 1).toInt ≤ (nI (44 * z_pr (l_R sv) l + 1)).toInt) from fun z => absurd z.1 (by decide))] at h10
      subst h10
      exact Ok.ite (fun _ => Ok.ret (fin _ (by rw [if_pos r0]))) (fun c => absurd rfl c)
    · rw [z_sub1 (by omega), nI_toInt (by omega), nI_toInt (by omega), if_pos (by omega)] at h10
      subst h10
      refine Ok.ite (fun c => absurd c (by decide)) (fun _ => ?_)
      have lb := (z_rl_pos (V := z_pr (l_C sv) l) hp.1 hp.2 (show ro - 1 ≤ _ by omega)).2
      rw [z_sub1 (by omega), m_many g hl (show ro - 1 ≤ _ by omega), q_b1_s, m_many g hl d1, q_b1_s]
      refine Ok.ite (fun c => ?_) (fun c => ?_)
      all_goals rw [nI_eq (by omega) (by omega)] at c
      · exact Ok.ret (fin _ (by rw [if_neg r0, if_pos c]))
      · exact Ok.ret (fin _ (by rw [if_neg r0, if_neg c]))
  · rw [if_neg c0] at fin
    rw [if_neg c0]
    by_cases c2 : w = 2
    · rw [if_pos c2] at fin
      rw [if_pos c2, q_b1_s]
      refine Ok.j1 ?_
      rw [if_neg c0, nI_1]
      dsimp only
      rw [m_lastRow g hl, q_b1_s]
      refine Ok.b1 (t_in _ _ _) (fun v10 h10 => ?_)
      rw [t0, z_toL, z_toL, nI_toInt (by omega), nI_toInt (by omega)] at h10
      by_cases r0 : ro = 44 * z_pr (l_R sv) l + 1
      · rw [if_neg (by omega)] at h10
        subst h10
        exact Ok.ite (fun _ => Ok.ret (fin _ (by rw [if_pos r0]))) (fun c => absurd rfl c)
      · rw [if_pos (by omega)] at h10
        subst h10
        refine Ok.ite (fun c => absurd c (by decide)) (fun _ => ?_)
        have lb := (z_rl_pos (V := z_pr (l_C sv) l) hp.1 hp.2 (show ro + 1 ≤ _ by omega)).2
        rw [m_many g hl (show ro + 1 ≤ _ by omega), q_b1_s, m_many g hl d1, q_b1_s]
        refine Ok.ite (fun c => ?_) (fun c => ?_)
        all_goals rw [nI_eq (by omega) (by omega)] at c
        · exact Ok.ret (fin _ (by rw [if_neg r0, if_pos c]))
        · exact Ok.ret (fin _ (by rw [if_neg r0, if_neg c]))
    · rw [if_neg c2] at fin
      rw [if_neg c2]
      exact Ok.ret (fin _ rfl)
end S5A
