/-! answers: level, piece, key, parent, keyAt -/
section S1A
variable {rc cc br zc rw sh cr cq dp wd za fl fk fy : Nat → Int32} {sv : l_T} {N : Nat}
def l_vlevel (sv : l_T) (l : Nat) (q : Int32) : Int32 := if q = 0 then nI (2130 * (z_pr (l_R sv) l * z_pr (l_C sv) l) + 2) else if q = 1 then nI (44 * z_pr (l_R sv) l + 2) else if q = 2 then nI (l_R sv l) else if q = 3 then nI (l_C sv l) else if q = 4 then nI (z_pr (l_R sv) l) else if q = 5 then nI (z_pr (l_C sv) l) else -1
def l_alevel (sv : l_T) (p q r : Int32) : Prop := (¬ (0 ≤ p.toInt ∧ p.toInt ≤ 4) ∧ r = -1) ∨ (∃ l, (0 ≤ p.toInt ∧ p.toInt ≤ 4) ∧ l < 5 ∧ p = nI l ∧ r = l_vlevel sv l q)
theorem l_alevel_one {p q r r' : Int32} (_ : l_ok sv) (h1 : l_alevel sv p q r) (h2 : l_alevel sv p q r') : r = r' := by
  rcases h1 with ⟨a, b⟩ | ⟨l, a, b, c, d⟩ <;> rcases h2 with ⟨a', b'⟩ | ⟨l', a', b', c', d'⟩
  · exact b.trans b'.symm
  · exact absurd a' a
  · exact absurd a a'
  · have e : l = l' := by rw [c, nI_eq (by omega) (by omega)] at c'; exact c'
    subst e
    exact d.trans d'.symm
theorem a_x_level (g : GOK (l_R sv) (l_C sv) (z_pr (l_R sv)) (z_pr (l_C sv)) rc cc br zc rw sh) (p q : Int32) : Ok (f_X_level rc cc br zc rw sh p q) (fun x => l_alevel sv p q x) := by
  unfold f_X_level
  refine Ok.b1 (r_isLevel p) (fun v1 h1 => Ok.ite (fun c => Ok.ret (Or.inl ⟨z_if0 h1 c, rfl⟩)) (fun c => ?_))
  have hv := z_if1 h1 c
  obtain ⟨l, hl, rfl⟩ := t_level hv
  obtain ⟨g1, g2, g3, g4, g5, g6⟩ := g.at hl
  have fin : ∀ r, r = l_vlevel sv l q → Ok (some r) (fun x => l_alevel sv (nI l) q x) := fun r h => Ok.ret (Or.inr ⟨l, hv, hl, rfl, h⟩)
  unfold l_vlevel at fin
  by_cases c0 : q = 0
  · rw [if_pos c0, z_ai hl (by omega), g6]; exact fin _ (by rw [if_pos c0])
  by_cases c1 : q = 1
  · rw [if_neg c0, if_pos c1, z_ai hl (by omega), g5]; exact fin _ (by rw [if_neg c0, if_pos c1])
  by_cases c2 : q = 2
  · rw [if_neg c0, if_neg c1, if_pos c2, z_ai hl (by omega), g1]; exact fin _ (by rw [if_neg c0, if_neg c1, if_pos c2])
  by_cases c3 : q = 3
  · rw [if_neg c0, if_neg c1, if_neg c2, if_pos c3, z_ai hl (by omega), g2]; exact fin _ (by rw [if_neg c0, if_neg c1, if_neg c2, if_pos c3])
  by_cases c4 : q = 4
  · rw [if_neg c0, if_neg c1, if_neg c2, if_neg c3, if_pos c4, z_ai hl (by omega), g3]; exact fin _ (by rw [if_neg c0, if_neg c1, if_neg c2, if_neg c3, if_pos c4])
  by_cases c5 : q = 5
  · rw [if_neg c0, if_neg c1, if_neg c2, if_neg c3, if_neg c4, if_pos c5, z_ai hl (by omega), g4]; exact fin _ (by rw [if_neg c0, if_neg c1, if_neg c2, if_neg c3, if_neg c4, if_pos c5])
  · rw [if_neg c0, if_neg c1, if_neg c2, if_neg c3, if_neg c4, if_neg c5]; exact fin _ (by rw [if_neg c0, if_neg c1, if_neg c2, if_neg c3, if_neg c4, if_neg c5])
theorem a_m_level (g : MOK (l_R sv) (l_C sv) (z_pr (l_R sv)) (z_pr (l_C sv)) cr cq dp wd za) (p q : Int32) : Ok (f_M_level cr cq dp wd za p q) (fun x => l_alevel sv p q x) := by
  unfold f_M_level
  refine Ok.b1 (t_isLevel p) (fun v1 h1 => Ok.ite (fun c => Ok.ret (Or.inl ⟨z_if0 h1 c, rfl⟩)) (fun c => ?_))
  have hv := z_if1 h1 c
  obtain ⟨l, hl, rfl⟩ := t_level hv
  obtain ⟨g1, g2, g3, g4⟩ := g.1 l hl
  have fin : ∀ r, r = l_vlevel sv l q → Ok (some r) (fun x => l_alevel sv (nI l) q x) := fun r h => Ok.ret (Or.inr ⟨l, hv, hl, rfl, h⟩)
  unfold l_vlevel at fin
  refine Ok.b1 (t_in _ _ _) (fun v2 h2 => ?_)
  rw [z_toL, show (0 : Int64).toInt = 0 from rfl, show (5 : Int64).toInt = 5 from rfl] at h2
  refine Ok.ite (fun d => ?_) (fun d => ?_)
  · have hn := z_if0 h2 d
    have ne : ∀ j : Nat, j ≤ 5 → ¬ q = nI j := fun j hj e => hn (by rw [e, nI_toInt (by omega)]; omega)
    exact fin _ (by rw [if_neg (show ¬ q = 0 from ne 0 (by omega)), if_neg (show ¬ q = 1 from ne 1 (by omega)), if_neg (show ¬ q = 2 from ne 2 (by omega)), if_neg (show ¬ q = 3 from ne 3 (by omega)), if_neg (show ¬ q = 4 from ne 4 (by omega)), if_neg (show ¬ q = 5 from ne 5 (by omega))])
  have hy := z_if1 h2 d
  obtain ⟨j, -, rfl, hj⟩ := z_nat hy.1
  rcases (show j = 0 ∨ j = 1 ∨ j = 2 ∨ j = 3 ∨ j = 4 ∨ j = 5 by omega) with rfl | rfl | rfl | rfl | rfl | rfl
  · rw [if_pos (by decide), m_sheets g hl, q_b1_s]; exact fin _ (by rw [if_pos (by decide)])
  · rw [if_neg (by decide), if_pos (by decide)]
    unfold f_M_rows
    rw [z_ai hl (by omega), g3, z_i 44, pk_mul, z_i 2, nI_add, q_b1_s, Nat.add_comm]
    exact fin _ (by rw [if_neg (by decide), if_pos (by decide)])
  · rw [if_neg (by decide), if_neg (by decide), if_pos (by decide), z_ai hl (by omega), g1]; exact fin _ (by rw [if_neg (by decide), if_neg (by decide), if_pos (by decide)])
  · rw [if_neg (by decide), if_neg (by decide), if_neg (by decide), if_pos (by decide), z_ai hl (by omega), g2]; exact fin _ (by rw [if_neg (by decide), if_neg (by decide), if_neg (by decide), if_pos (by decide)])
  · rw [if_neg (by decide), if_neg (by decide), if_neg (by decide), if_neg (by decide), if_pos (by decide), z_ai hl (by omega), g3]; exact fin _ (by rw [if_neg (by decide), if_neg (by decide), if_neg (by decide), if_neg (by decide), if_pos (by decide)])
  · rw [if_neg (by decide), if_neg (by decide), if_neg (by decide), if_neg (by decide), if_neg (by decide), z_ai hl (by omega), g4]; exact fin _ (by rw [if_neg (by decide), if_neg (by decide), if_neg (by decide), if_neg (by decide), if_neg (by decide), if_pos (by decide)])
/-! piece -/
def l_vpiece (sv : l_T) (i : Nat) (q : Int32) : Int32 := if q = 0 then nI (l_L sv i) else if q = 1 then nI (l_K sv i) else l_Y sv i
def l_apiece (sv : l_T) (p q r : Int32) : Prop := (¬ (0 ≤ p.toInt ∧ (0 ≤ q.toInt ∧ q.toInt ≤ 2)) ∧ r = -1) ∨ (∃ i, (0 ≤ p.toInt ∧ (0 ≤ q.toInt ∧ q.toInt ≤ 2)) ∧ i < 2 ^ 31 ∧ p = nI i ∧ ((i < l_m sv ∧ r = l_vpiece sv i q) ∨ (¬ i < l_m sv ∧ r = -2)))
theorem l_apiece_one {p q r r' : Int32} (_ : l_ok sv) (h1 : l_apiece sv p q r) (h2 : l_apiece sv p q r') : r = r' := by
  rcases h1 with ⟨a, b⟩ | ⟨l, a, b, c, d⟩ <;> rcases h2 with ⟨a', b'⟩ | ⟨l', a', b', c', d'⟩
  · exact b.trans b'.symm
  · exact absurd a' a
  · exact absurd a a'
  · have e : l = l' := by rw [c, nI_eq b b'] at c'; exact c'
    subst e
    rcases d with ⟨x, y⟩ | ⟨x, y⟩ <;> rcases d' with ⟨x', y'⟩ | ⟨x', y'⟩
    · exact y.trans y'.symm
    · exact absurd x x'
    · exact absurd x' x
    · exact y.trans y'.symm
theorem a_x_piece (hr : z_rp (l_m sv) (l_L sv) (l_K sv) (l_Y sv) fl fk fy) (hm : l_m sv ≤ 60) (p q : Int32) : Ok (f_X_piece fl fk fy (nI (l_m sv)) p q) (fun x => l_apiece sv p q x) := by
  unfold f_X_piece
  have t0 : (0 : Int32).toInt = 0 := rfl
  refine Ok.ite (fun c => Ok.ret (Or.inl ⟨fun z => ?_, rfl⟩)) (fun c => Ok.b1 (s_isFrom q _ _) (fun v1 h1 => ?_))
  · rw [z_lt, t0] at c; have := z.1; omega
  rw [t0, show (2 : Int32).toInt = 2 from rfl] at h1
  refine Ok.ite (fun d => Ok.ret (Or.inl ⟨fun z => z_if0 h1 d z.2, rfl⟩)) (fun d => ?_)
  have hp : 0 ≤ p.toInt := by
    have w : ¬ p.toInt < (0 : Int32).toInt := fun z => c (z_lt.mpr z)
    rw [t0] at w; omega
  have hq := z_if1 h1 d
  obtain ⟨i, hi, rfl, -⟩ := z_nat hp
  refine Ok.ite (fun e => ?_) (fun e => ?_)
  all_goals rw [nI_ltI hi (by omega)] at e
  · obtain ⟨e1, e2, e3⟩ := hr i e
    have fin : ∀ r, r = l_vpiece sv i q → Ok (some r) (fun x => l_apiece sv (nI i) q x) := fun r h => Ok.ret (Or.inr ⟨i, ⟨hp, hq⟩, hi, rfl, Or.inl ⟨e, h⟩⟩)
    unfold l_vpiece at fin
    by_cases c0 : q = 0
    · rw [if_pos c0, z_ai (by omega) (by omega), e1]; exact fin _ (by rw [if_pos c0])
    by_cases c1 : q = 1
    · rw [if_neg c0, if_pos c1, z_ai (by omega) (by omega), e2]; exact fin _ (by rw [if_neg c0, if_pos c1])
    · rw [if_neg c0, if_neg c1, z_ai (by omega) (by omega), e3]; exact fin _ (by rw [if_neg c0, if_neg c1])
  · exact Ok.ret (Or.inr ⟨i, ⟨hp, hq⟩, hi, rfl, Or.inr ⟨e, rfl⟩⟩)
theorem a_m_piece (hr : z_rp (l_m sv) (l_L sv) (l_K sv) (l_Y sv) fl fk fy) (hm : l_m sv ≤ 60) (p q : Int32) : Ok (f_M_piece (nI (l_m sv)) fl fk fy p q) (fun x => l_apiece sv p q x) := by
  unfold f_M_piece
  have t0 : (0 : Int32).toInt = 0 := rfl
  refine Ok.ite (fun c => Ok.ret (Or.inl ⟨fun z => ?_, rfl⟩)) (fun c => Ok.b1 (t_in _ _ _) (fun v1 h1 => ?_))
  · rw [z_lt, t0] at c; have := z.1; omega
  rw [z_toL, show (0 : Int64).toInt = 0 from rfl, show (2 : Int64).toInt = 2 from rfl] at h1
  refine Ok.ite (fun d => Ok.ret (Or.inl ⟨fun z => z_if0 h1 d z.2, rfl⟩)) (fun d => ?_)
  have hp : 0 ≤ p.toInt := by
    have w : ¬ p.toInt < (0 : Int32).toInt := fun z => c (z_lt.mpr z)
    rw [t0] at w; omega
  have hq := z_if1 h1 d
  obtain ⟨i, hi, rfl, -⟩ := z_nat hp
  refine Ok.ite (fun e => ?_) (fun e => ?_)
  all_goals rw [nI_ltI hi (by omega)] at e
  · obtain ⟨e1, e2, e3⟩ := hr i e
    have fin : ∀ r, r = l_vpiece sv i q → Ok (some r) (fun x => l_apiece sv (nI i) q x) := fun r h => Ok.ret (Or.inr ⟨i, ⟨hp, hq⟩, hi, rfl, Or.inl ⟨e, h⟩⟩)
    unfold l_vpiece at fin
    by_cases c0 : q = 0
    · rw [if_pos c0, z_ai (by omega) (by omega), e1]; exact fin _ (by rw [if_pos c0])
    by_cases c1 : q = 1
    · rw [if_neg c0, if_pos c1, z_ai (by omega) (by omega), e2]; exact fin _ (by rw [if_neg c0, if_pos c1])
    · rw [if_neg c0, if_neg c1, z_ai (by omega) (by omega), e3]; exact fin _ (by rw [if_neg c0, if_neg c1])
  · exact Ok.ret (Or.inr ⟨i, ⟨hp, hq⟩, hi, rfl, Or.inr ⟨e, rfl⟩⟩)
/-! key -/
def l_akey (sv : l_T) (p q w r : Int32) : Prop := (¬ (z_plV p q ∧ (0 ≤ w.toInt ∧ w.toInt ≤ 4)) ∧ r = -1) ∨ (∃ l o, (z_plV p q ∧ (0 ≤ w.toInt ∧ w.toInt ≤ 4)) ∧ l < 5 ∧ o < 1296000 ∧ w = nI l ∧ q = nI o ∧ r = nI (z_kp (z_pr (l_R sv) l) (z_pr (l_C sv) l) p.toInt o))
theorem l_akey_one {p q w r r' : Int32} (_ : l_ok sv) (h1 : l_akey sv p q w r) (h2 : l_akey sv p q w r') : r = r' := by
  rcases h1 with ⟨a, b⟩ | ⟨l, o, a, b, b2, c, c2, d⟩ <;> rcases h2 with ⟨a', b'⟩ | ⟨l', o', a', b', b2', c', c2', d'⟩
  · exact b.trans b'.symm
  · exact absurd a' a
  · exact absurd a a'
  · have e : l = l' := by rw [c, nI_eq (by omega) (by omega)] at c'; exact c'
    have e2 : o = o' := by rw [c2, nI_eq (by omega) (by omega)] at c2'; exact c2'
    subst e e2
    exact d.trans d'.symm
theorem a_x_key (g : GOK (l_R sv) (l_C sv) (z_pr (l_R sv)) (z_pr (l_C sv)) rc cc br zc rw sh) (p q w : Int32) : Ok (f_X_key br zc rw sh p q w) (fun x => l_akey sv p q w x) := by
  unfold f_X_key
  refine Ok.b1 (r_isPlaceX p q) (fun v1 h1 => ?_)
  rcases h1 with ⟨z, rfl⟩ | ⟨z, rfl⟩
  rotate_left
  · exact Ok.ite (fun _ => Ok.ret (Or.inl ⟨fun u => z u.1, rfl⟩)) (fun c => absurd rfl c)
  refine Ok.ite (fun c => absurd c (by decide)) (fun _ => Ok.b1 (r_isLevel w) (fun v2 h2 => Ok.ite (fun c => Ok.ret (Or.inl ⟨fun u => z_if0 h2 c u.2, rfl⟩)) (fun c => ?_)))
  have hv := z_if1 h2 c
  obtain ⟨l, hl, rfl⟩ := t_level hv
  obtain ⟨o, ho, rfl⟩ := z_plV_o z
  rw [k_keyAtPlace g hl z.1.1 z.1.2 ho, q_b1_s]
  exact Ok.ret (Or.inr ⟨l, o, ⟨z, hv⟩, hl, ho, rfl, rfl, rfl⟩)
theorem a_m_key (g : MOK (l_R sv) (l_C sv) (z_pr (l_R sv)) (z_pr (l_C sv)) cr cq dp wd za) (p q w : Int32) : Ok (f_M_key dp wd za p q w) (fun x => l_akey sv p q w x) := by
  unfold f_M_key
  refine Ok.b1 (r_isPlaceM p q) (fun v1 h1 => ?_)
  rcases h1 with ⟨z, rfl⟩ | ⟨z, rfl⟩
  rotate_left
  · exact Ok.ite (fun _ => Ok.ret (Or.inl ⟨fun u => z u.1, rfl⟩)) (fun c => absurd rfl c)
  refine Ok.ite (fun c => absurd c (by decide)) (fun _ => Ok.b1 (t_isLevel w) (fun v2 h2 => Ok.ite (fun c => Ok.ret (Or.inl ⟨fun u => z_if0 h2 c u.2, rfl⟩)) (fun c => ?_)))
  have hv := z_if1 h2 c
  obtain ⟨l, hl, rfl⟩ := t_level hv
  obtain ⟨o, ho, rfl⟩ := z_plV_o z
  rw [m_keyAtPlace g hl p ho, q_b1_s]
  exact Ok.ret (Or.inr ⟨l, o, ⟨z, hv⟩, hl, ho, rfl, rfl, rfl⟩)
/-! parent -/
def l_aparent (sv : l_T) (p q w r : Int32) : Prop := (¬ (z_hs (z_pr (l_R sv)) (z_pr (l_C sv)) p q ∧ (0 ≤ w.toInt ∧ w.toInt ≤ p.toInt)) ∧ r = -1) ∨ (∃ l k t k2, (z_hs (z_pr (l_R sv)) (z_pr (l_C sv)) p q ∧ (0 ≤ w.toInt ∧ w.toInt ≤ p.toInt)) ∧ l < 5 ∧ t ≤ l ∧ k < 20000000 ∧ p = nI l ∧ q = nI k ∧ w = nI t ∧ z_upr (z_pr (l_R sv)) (z_pr (l_C sv)) l t k k2 ∧ r = nI k2)
theorem l_aparent_one {p q w r r' : Int32} (h : l_ok sv) (h1 : l_aparent sv p q w r) (h2 : l_aparent sv p q w r') : r = r' := by
  rcases h1 with ⟨a, b⟩ | ⟨l, k, t, k2, a, b1, b2, b3, c1, c2, c3, d, e⟩ <;> rcases h2 with ⟨a', b'⟩ | ⟨l', k', t', k2', a', b1', b2', b3', c1', c2', c3', d', e'⟩
  · exact b.trans b'.symm
  · exact absurd a' a
  · exact absurd a a'
  · have e1 : l = l' := by rw [c1, nI_eq (by omega) (by omega)] at c1'; exact c1'
    have e2 : k = k' := by rw [c2, nI_eq (by omega) (by omega)] at c2'; exact c2'
    have e3 : t = t' := by rw [c3, nI_eq (by omega) (by omega)] at c3'; exact c3'
    subst e1 e2 e3
    rw [e, e', z_upr_one (h.1.pos l b1).1 d d']
theorem a_x_parent (g : GOK (l_R sv) (l_C sv) (z_pr (l_R sv)) (z_pr (l_C sv)) rc cc br zc rw sh) (hN : 1000000 ≤ N) (p q w : Int32) : Ok (f_X_parent N br zc rw sh p q w) (fun x => l_aparent sv p q w x) := by
  unfold f_X_parent
  refine Ok.b1 (r_hasSheet g p q) (fun v1 h1 => ?_)
  rcases h1 with ⟨z, rfl⟩ | ⟨z, rfl⟩
  rotate_left
  · exact Ok.ite (fun _ => Ok.ret (Or.inl ⟨fun u => z u.1, rfl⟩)) (fun c => absurd rfl c)
  refine Ok.ite (fun c => absurd c (by decide)) (fun _ => Ok.b1 (s_isFrom w _ _) (fun v2 h2 => ?_))
  rw [show (0 : Int32).toInt = 0 from rfl] at h2
  refine Ok.ite (fun c => Ok.ret (Or.inl ⟨fun u => z_if0 h2 c u.2, rfl⟩)) (fun c => ?_)
  have hv := z_if1 h2 c
  have z' := z
  obtain ⟨l, k, hl, rfl, rfl, hk⟩ := z'
  have hs := g.2.sh hl
  have hv0 := hv
  rw [nI_toInt (by omega)] at hv
  obtain ⟨t, -, rfl, ht⟩ := z_nat hv.1
  refine Ok.b1 (r_above g hN hl (t := t) (by omega) hk) (fun v3 h3 => ?_)
  obtain ⟨k2, hu, e⟩ := h3
  exact Ok.ret (Or.inr ⟨l, k, t, k2, ⟨z, hv0⟩, hl, by omega, by omega, rfl, rfl, rfl, hu, e⟩)
theorem a_m_parent (g : MOK (l_R sv) (l_C sv) (z_pr (l_R sv)) (z_pr (l_C sv)) cr cq dp wd za) (hN : 1000000 ≤ N) (p q w : Int32) : Ok (f_M_parent N dp wd za p q w) (fun x => l_aparent sv p q w x) := by
  unfold f_M_parent
  refine Ok.b1 (r_isKey g p q) (fun v1 h1 => ?_)
  rcases h1 with ⟨z, rfl⟩ | ⟨z, rfl⟩
  rotate_left
  · exact Ok.ite (fun _ => Ok.ret (Or.inl ⟨fun u => z u.1, rfl⟩)) (fun c => absurd rfl c)
  refine Ok.ite (fun c => absurd c (by decide)) (fun _ => Ok.b1 (t_in _ _ _) (fun v2 h2 => ?_))
  rw [z_toL, z_toL, show (0 : Int64).toInt = 0 from rfl] at h2
  refine Ok.ite (fun c => Ok.ret (Or.inl ⟨fun u => z_if0 h2 c u.2, rfl⟩)) (fun c => ?_)
  have hv := z_if1 h2 c
  have z' := z
  obtain ⟨l, k, hl, rfl, rfl, hk⟩ := z'
  have hs := g.2.2.sh hl
  have hv0 := hv
  rw [nI_toInt (by omega)] at hv
  obtain ⟨t, -, rfl, ht⟩ := z_nat hv.1
  refine Ok.b1 (r_parentOf g (by omega) hl (t := t) (by omega) hk) (fun v3 h3 => ?_)
  obtain ⟨k2, hu, e⟩ := h3
  exact Ok.ret (Or.inr ⟨l, k, t, k2, ⟨z, hv0⟩, hl, by omega, by omega, rfl, rfl, rfl, hu, e⟩)
/-! keyAt -/
def l_akeyAt (sv : l_T) (p q w r : Int32) : Prop := ∃ v : Int32, r = v ∧ ((¬ (0 ≤ p.toInt ∧ p.toInt ≤ 4) ∧ v = -1) ∨ (∃ l, (0 ≤ p.toInt ∧ p.toInt ≤ 4) ∧ l < 5 ∧ p = nI l ∧ ((¬ (0 ≤ q.toInt ∧ q.toInt ≤ 44 * (z_pr (l_R sv) l : Int) + 1) ∧ v = -1) ∨ (∃ ro, (0 ≤ q.toInt ∧ q.toInt ≤ 44 * (z_pr (l_R sv) l : Int) + 1) ∧ ro < 2 ^ 31 ∧ q = nI ro ∧ ((¬ (0 ≤ w.toInt ∧ w.toInt < (z_rl (z_pr (l_R sv) l) (z_pr (l_C sv) l) ro : Int)) ∧ v = -1) ∨ (∃ pl, (0 ≤ w.toInt ∧ w.toInt < (z_rl (z_pr (l_R sv) l) (z_pr (l_C sv) l) ro : Int)) ∧ pl < 2 ^ 31 ∧ w = nI pl ∧ v = nI (z_rs (z_pr (l_R sv) l) (z_pr (l_C sv) l) ro + pl)))))))
theorem l_akeyAt_one {p q w r r' : Int32} (_ : l_ok sv) (h1 : l_akeyAt sv p q w r) (h2 : l_akeyAt sv p q w r') : r = r' := by
  obtain ⟨v, rfl, h1⟩ := h1
  obtain ⟨v', rfl, h2⟩ := h2
  rcases h1 with ⟨a, b⟩ | ⟨l, a, b, c, d⟩ <;> rcases h2 with ⟨a', b'⟩ | ⟨l', a', b', c', d'⟩
  · exact b.trans b'.symm
  · exact absurd a' a
  · exact absurd a a'
  have e : l = l' := by rw [c, nI_eq (by omega) (by omega)] at c'; exact c'
  subst e
  rcases d with ⟨f, g⟩ | ⟨ro, f, g, h, i⟩ <;> rcases d' with ⟨f', g'⟩ | ⟨ro', f', g', h', i'⟩
  · exact g.trans g'.symm
  · exact absurd f' f
  · exact absurd f f'
  have e : ro = ro' := by rw [h, nI_eq g g'] at h'; exact h'
  subst e
  rcases i with ⟨j, k⟩ | ⟨pl, j, k, m, n⟩ <;> rcases i' with ⟨j', k'⟩ | ⟨pl', j', k', m', n'⟩
  · exact k.trans k'.symm
  · exact absurd j' j
  · exact absurd j j'
  have e : pl = pl' := by rw [m, nI_eq k k'] at m'; exact m'
  subst e
  exact n.trans n'.symm
theorem a_x_keyAt (g : GOK (l_R sv) (l_C sv) (z_pr (l_R sv)) (z_pr (l_C sv)) rc cc br zc rw sh) (p q w : Int32) : Ok (f_X_keyAt br zc rw sh p q w) (fun x => l_akeyAt sv p q w x) := by
  have t0 : (0 : Int32).toInt = 0 := rfl
  unfold f_X_keyAt
  refine Ok.b1 (r_isLevel p) (fun v1 h1 => Ok.ite (fun c => Ok.ret ⟨_, rfl, Or.inl ⟨z_if0 h1 c, rfl⟩⟩) (fun c => ?_))
  have hv := z_if1 h1 c
  obtain ⟨l, hl, rfl⟩ := t_level hv
  have hb := g.2.hv hl
  have hp := g.2.pos l hl
  have hs := g.2.sh hl
  rw [z_ai hl (by omega), (g.at hl).2.2.2.2.1, z_sub1 (by omega), show 44 * z_pr (l_R sv) l + 2 - 1 = 44 * z_pr (l_R sv) l + 1 from rfl]
  refine Ok.b1 (s_isFrom q _ _) (fun v3 h3 => ?_)
  rw [t0, nI_toInt (by omega), show ((44 * z_pr (l_R sv) l + 1 : Nat) : Int) = 44 * (z_pr (l_R sv) l : Int) + 1 by omega] at h3
  refine Ok.ite (fun c => Ok.ret ⟨_, rfl, Or.inr ⟨l, hv, hl, rfl, Or.inl ⟨z_if0 h3 c, rfl⟩⟩⟩) (fun c => ?_)
  have hq := z_if1 h3 c
  obtain ⟨ro, hro, rfl, ero⟩ := z_nat hq.1
  have hr : ro ≤ 44 * z_pr (l_R sv) l + 1 := by have := hq.2; omega
  have hL := z_rl_pos (V := z_pr (l_C sv) l) hp.1 hp.2 hr
  rw [k_rowLength g hl hr, q_b1_s, z_sub1 (by omega)]
  refine Ok.b1 (s_isFrom w _ _) (fun v5 h5 => ?_)
  rw [t0, nI_toInt (by omega)] at h5
  refine Ok.ite (fun c => Ok.ret ⟨_, rfl, Or.inr ⟨l, hv, hl, rfl, Or.inr ⟨ro, hq, hro, rfl, Or.inl ⟨fun z => z_if0 h5 c ⟨z.1, by have := z.2; omega⟩, rfl⟩⟩⟩⟩) (fun c => ?_)
  have hw := z_if1 h5 c
  obtain ⟨pl, hpl, rfl, epl⟩ := z_nat hw.1
  rw [k_rowStart g hl hr, q_b1_s, nI_add]
  exact Ok.ret ⟨_, rfl, Or.inr ⟨l, hv, hl, rfl, Or.inr ⟨ro, hq, hro, rfl, Or.inr ⟨pl, ⟨hw.1, by have := hw.2; omega⟩, hpl, rfl, rfl⟩⟩⟩⟩
theorem a_m_keyAt (g : MOK (l_R sv) (l_C sv) (z_pr (l_R sv)) (z_pr (l_C sv)) cr cq dp wd za) (p q w : Int32) : Ok (f_M_keyAt dp wd za p q w) (fun x => l_akeyAt sv p q w x) := by
  have t0 : (0 : Int64).toInt = 0 := rfl
  unfold f_M_keyAt
  refine Ok.b1 (t_isLevel p) (fun v1 h1 => Ok.ite (fun c => Ok.ret ⟨_, rfl, Or.inl ⟨z_if0 h1 c, rfl⟩⟩) (fun c => ?_))
  have hv := z_if1 h1 c
  obtain ⟨l, hl, rfl⟩ := t_level hv
  have hb := g.2.2.hv hl
  have hp := g.2.2.pos l hl
  have hs := g.2.2.sh hl
  rw [m_lastRow g hl, q_b1_s]
  refine Ok.b1 (t_in _ _ _) (fun v3 h3 => ?_)
  rw [t0, z_toL, z_toL, nI_toInt (by omega), show ((44 * z_pr (l_R sv) l + 1 : Nat) : Int) = 44 * (z_pr (l_R sv) l : Int) + 1 by omega] at h3
  refine Ok.ite (fun c => Ok.ret ⟨_, rfl, Or.inr ⟨l, hv, hl, rfl, Or.inl ⟨z_if0 h3 c, rfl⟩⟩⟩) (fun c => ?_)
  have hq := z_if1 h3 c
  obtain ⟨ro, hro, rfl, ero⟩ := z_nat hq.1
  have hr : ro ≤ 44 * z_pr (l_R sv) l + 1 := by have := hq.2; omega
  have hL := z_rl_pos (V := z_pr (l_C sv) l) hp.1 hp.2 hr
  rw [m_many g hl hr, q_b1_s, z_sub1 (by omega)]
  refine Ok.b1 (t_in _ _ _) (fun v5 h5 => ?_)
  rw [t0, z_toL, z_toL, nI_toInt (by omega)] at h5
  refine Ok.ite (fun c => Ok.ret ⟨_, rfl, Or.inr ⟨l, hv, hl, rfl, Or.inr ⟨ro, hq, hro, rfl, Or.inl ⟨fun z => z_if0 h5 c ⟨z.1, by have := z.2; omega⟩, rfl⟩⟩⟩⟩) (fun c => ?_)
  have hw := z_if1 h5 c
  obtain ⟨pl, hpl, rfl, epl⟩ := z_nat hw.1
  rw [m_keyOf g hl hr (by have := hw.2; omega), q_b1_s]
  exact Ok.ret ⟨_, rfl, Or.inr ⟨l, hv, hl, rfl, Or.inr ⟨ro, hq, hro, rfl, Or.inr ⟨pl, ⟨hw.1, by have := hw.2; omega⟩, hpl, rfl, rfl⟩⟩⟩⟩
end S1A
