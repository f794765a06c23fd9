/-! answers: neighbour, around -/
section S4A
variable {rc cc br zc rw sh cr cq dp wd za fl fk fy : Nat → Int32} {sv : l_T} {N l : Nat}
def l_spot (sv : l_T) (l k ro pl : Nat) : Prop := l < 5 ∧ k < 20000000 ∧ ro ≤ 44 * z_pr (l_R sv) l + 1 ∧ pl < z_rl (z_pr (l_R sv) l) (z_pr (l_C sv) l) ro ∧ k = z_rs (z_pr (l_R sv) l) (z_pr (l_C sv) l) ro + pl
theorem l_spot_one {l k ro pl l' k' ro' pl' : Nat} {p q : Int32} (h : l_ok sv) (h1 : l_spot sv l k ro pl) (h2 : l_spot sv l' k' ro' pl') (p1 : p = nI l) (p2 : p = nI l') (q1 : q = nI k) (q2 : q = nI k') : l = l' ∧ k = k' ∧ ro = ro' ∧ pl = pl' := by
  obtain ⟨b1, b2, d1, d2, d3⟩ := h1
  obtain ⟨b1', b2', d1', d2', d3'⟩ := h2
  have e1 : l = l' := by rw [p1, nI_eq (by omega) (by omega)] at p2; exact p2
  have e2 : k = k' := by rw [q1, nI_eq (by omega) (by omega)] at q2; exact q2
  subst e1 e2
  have e3 : ro = ro' := z_row_one (V := z_pr (l_C sv) l) (h.1.pos l b1).1 d1 d1' (k := k) (by omega) (by omega) (by omega) (by omega)
  subst e3
  exact ⟨rfl, rfl, rfl, by omega⟩
def l_bM (sv : l_T) (l ro pl i : Nat) : Nat := z_bM (z_pr (l_R sv) l) (z_pr (l_C sv) l) ro pl i
def l_bF (sv : l_T) (l ro pl i : Nat) : Nat := z_bF (z_pr (l_R sv) l) (z_pr (l_C sv) l) ro pl i
def l_vnb (M F : Nat) (i : Int32) : Int32 := if i = -1 then nI M else if nI M ≤ i then -2 else nI F + i
def l_aneighbour (sv : l_T) (p q w i r : Int32) : Prop := (¬ (z_hs (z_pr (l_R sv)) (z_pr (l_C sv)) p q ∧ (0 ≤ w.toInt ∧ w.toInt ≤ 3) ∧ -1 ≤ i) ∧ r = -1) ∨ (∃ l k ro pl j, (z_hs (z_pr (l_R sv)) (z_pr (l_C sv)) p q ∧ (0 ≤ w.toInt ∧ w.toInt ≤ 3) ∧ -1 ≤ i) ∧ l_spot sv l k ro pl ∧ p = nI l ∧ q = nI k ∧ j < 4 ∧ w = nI j ∧ r = l_vnb (l_bM sv l ro pl j) (l_bF sv l ro pl j) i)
theorem l_aneighbour_one {p q w i r r' : Int32} (h : l_ok sv) (h1 : l_aneighbour sv p q w i r) (h2 : l_aneighbour sv p q w i r') : r = r' := by
  rcases h1 with ⟨a, b⟩ | ⟨l, k, ro, pl, j, a, b1, c1, c2, d1, d2, e⟩ <;> rcases h2 with ⟨a', b'⟩ | ⟨l', k', ro', pl', j', a', b1', c1', c2', d1', d2', e'⟩
  · exact b.trans b'.symm
  · exact absurd a' a
  · exact absurd a a'
  · obtain ⟨rfl, rfl, rfl, rfl⟩ := l_spot_one h b1 b1' c1 c1' c2 c2'
    have e1 : j = j' := by rw [d2, nI_eq (by omega) (by omega)] at d2'; exact d2'
    subst e1
    exact e.trans e'.symm
theorem l_ne0 {M : Nat} {i : Int32} (h1 : -1 ≤ i) (h2 : ¬ i = -1) (h3 : ¬ nI M ≤ i) : M ≠ 0 := by
  intro h0
  apply h3
  rw [h0, z_le, nI_toInt (by omega)]
  rw [z_le, show (-1 : Int32).toInt = -1 from rfl] at h1
  have h4 : ¬ i.toInt = -1 := fun z => h2 (Int32.toInt_inj.mp (by rw [z]; rfl))
  omega
theorem a_x_neighbour (g : GOK (l_R sv) (l_C sv) (z_pr (l_R sv)) (z_pr (l_C sv)) rc cc br zc rw sh) (hN : 1000000 ≤ N) (f m : Nat → Int32) (a1 a2 a3 a4 a5 a6 p q w i : Int32) : Ok (f_X_neighbour N f m a1 a2 a3 a4 a5 a6 br zc rw sh p q w i) (fun x => l_aneighbour sv p q w i x.1) := by
  unfold f_X_neighbour
  refine Ok.b1 (r_hasSheet g p q) (fun v1 h1 => ?_)
  rcases h1 with ⟨z, rfl⟩ | ⟨z, rfl⟩
  rotate_left
  · exact Ok.ite (fun _ => Ok.ret (Or.inl ⟨fun u => z u.1, rfl⟩)) (fun c => absurd rfl c)
  refine Ok.ite (fun c => absurd c (by decide)) (fun _ => Ok.b1 (s_isFrom w _ _) (fun v2 h2 => ?_))
  rw [show (0 : Int32).toInt = 0 from rfl, show (3 : Int32).toInt = 3 from rfl] at h2
  refine Ok.ite (fun c => Ok.ret (Or.inl ⟨fun u => z_if0 h2 c u.2.1, rfl⟩)) (fun c => ?_)
  have hw := z_if1 h2 c
  refine Ok.ite (fun hi => ?_) (fun hi => Ok.ret (Or.inl ⟨fun u => hi u.2.2, rfl⟩))
  have z' := z
  obtain ⟨l, k, hl, rfl, rfl, hk⟩ := z'
  have hs := g.2.sh hl
  obtain ⟨ro, pl, e, d1, d2, d3⟩ := k_put (N := N) g (by omega) hl hk a1 a2 a3 a4 a5 a6
  obtain ⟨f', m', e2, hfm⟩ := r_lookAround g hl d1 d2 f m
  obtain ⟨j, -, rfl, hj⟩ := z_nat hw.1
  have hj4 : j < 4 := by omega
  obtain ⟨h3, h4⟩ := hfm j hj4
  rw [e, q_b6_s, e2, q_b2_s]
  have fin : ∀ r : Int32, r = l_vnb (l_bM sv l ro pl j) (l_bF sv l ro pl j) i → l_aneighbour sv (nI l) (nI k) (nI j) i r := fun r h => Or.inr ⟨l, k, ro, pl, j, ⟨z, hw, hi⟩, ⟨hl, by omega, d1, d2, d3⟩, rfl, rfl, hj4, rfl, h⟩
  unfold l_vnb at fin
  refine Ok.ite (fun c1 => ?_) (fun c1 => ?_)
  · rw [z_ai hj4 (by omega), h3]
    exact Ok.ret (fin _ (by rw [if_pos c1]; rfl))
  rw [z_ai hj4 (by omega), h3]
  refine Ok.ite (fun c2 => Ok.ret (fin _ (by rw [if_neg c1]; exact (if_pos c2).symm))) (fun c2 => ?_)
  rw [z_ai hj4 (by omega), h4 (l_ne0 hi c1 c2)]
  exact Ok.ret (fin _ (by rw [if_neg c1]; exact (if_neg c2).symm))
theorem r_isSide (w : Int32) : Ok (f_M_isSide w) (fun y => y = if 0 ≤ w.toInt ∧ w.toInt ≤ 3 then 1 else 0) := by
  unfold f_M_isSide
  rw [m_in, q_b1_s, z_toL, show (0 : Int64).toInt = 0 from rfl, show (3 : Int64).toInt = 3 from rfl]
  refine Ok.bo ?_ (Ok.ret rfl)
  split
  · exact Or.inr rfl
  · exact Or.inl rfl
theorem a_m_neighbour (g : MOK (l_R sv) (l_C sv) (z_pr (l_R sv)) (z_pr (l_C sv)) cr cq dp wd za) (hN : 1000000 ≤ N) (fb mb p q w i : Int32) : Ok (f_M_neighbour N dp wd za fb mb p q w i) (fun x => l_aneighbour sv p q w i x.1) := by
  unfold f_M_neighbour
  refine Ok.b1 (r_isKey g p q) (fun v1 h1 => ?_)
  rcases h1 with ⟨z, rfl⟩ | ⟨z, rfl⟩
  rotate_left
  · exact Ok.ite (fun _ => Ok.ret (Or.inl ⟨fun u => z u.1, rfl⟩)) (fun c => absurd rfl c)
  refine Ok.ite (fun c => absurd c (by decide)) (fun _ => Ok.b1 (r_isSide w) (fun v2 h2 => ?_))
  refine Ok.ite (fun c => Ok.ret (Or.inl ⟨fun u => z_if0 h2 c u.2.1, rfl⟩)) (fun c => ?_)
  have hw := z_if1 h2 c
  refine Ok.ite (fun hi => ?_) (fun hi => Ok.ret (Or.inl ⟨fun u => hi u.2.2, rfl⟩))
  have z' := z
  obtain ⟨l, k, hl, rfl, rfl, hk⟩ := z'
  have hs := g.2.2.sh hl
  obtain ⟨ro, pl, d1, d2, d3, -, -⟩ := t_spot (N := N) g (by omega) hl hk
  obtain ⟨j, -, rfl, hj⟩ := z_nat hw.1
  have hj4 : j < 4 := by omega
  obtain ⟨x, e2, h4⟩ := r_laysBeside (N := N) g (by omega) hl d1 d2 fb mb hj4
  rw [← d3] at e2
  rw [e2, q_b2_s]
  have fin : ∀ r : Int32, r = l_vnb (l_bM sv l ro pl j) (l_bF sv l ro pl j) i → l_aneighbour sv (nI l) (nI k) (nI j) i r := fun r h => Or.inr ⟨l, k, ro, pl, j, ⟨z, hw, hi⟩, ⟨hl, by omega, d1, d2, d3⟩, rfl, rfl, hj4, rfl, h⟩
  unfold l_vnb at fin
  refine Ok.ite (fun c1 => Ok.ret (fin _ (by rw [if_pos c1]; rfl))) (fun c1 => Ok.ite (fun c2 => Ok.ret (fin _ (by rw [if_neg c1]; exact (if_pos c2).symm))) (fun c2 => ?_))
  have h5 := h4 (l_ne0 hi c1 c2)
  subst h5
  exact Ok.ret (fin _ (by rw [if_neg c1]; exact (if_neg c2).symm))
end S4A
