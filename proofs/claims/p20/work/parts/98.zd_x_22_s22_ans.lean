/-! answers: side; what the reference's neighbours leave -/
section S22A
variable {rc cc br zc rw sh cr cq dp wd za fl fk fy : Nat → Int32} {sv : l_T} {N l : Nat}
theorem a2_m_neighbour (g : MOK (l_R sv) (l_C sv) (z_pr (l_R sv)) (z_pr (l_C sv)) cr cq dp wd za) (hN : 1000000 ≤ N) (fb mb p q w i : Int32) : Ok (f_M_neighbour N dp wd za fb mb p q w i) (fun x => l_aneighbour sv p q w i x.1 ∧ z_nb fb x.2.1) := by
  unfold f_M_neighbour
  refine Ok.b1 (r_isKey g p q) (fun v1 h1 => ?_)
  rcases h1 with ⟨z, rfl⟩ | ⟨z, rfl⟩
  rotate_left
  · exact Ok.ite (fun _ => Ok.ret ⟨Or.inl ⟨fun u => z u.1, rfl⟩, z_nb_r fb⟩) (fun c => absurd rfl c)
  refine Ok.ite (fun c => absurd c (by decide)) (fun _ => Ok.b1 (r_isSide w) (fun v2 h2 => ?_))
  refine Ok.ite (fun c => Ok.ret ⟨Or.inl ⟨fun u => z_if0 h2 c u.2.1, rfl⟩, z_nb_r fb⟩) (fun c => ?_)
  have hw := z_if1 h2 c
  refine Ok.ite (fun hi => ?_) (fun hi => Ok.ret ⟨Or.inl ⟨fun u => hi u.2.2, rfl⟩, z_nb_r fb⟩)
  have z' := z
  obtain ⟨l, k, hl, rfl, rfl, hk⟩ := z'
  have hs := g.2.2.sh hl
  obtain ⟨ro, pl, d1, d2, d3, -, -⟩ := t_spot (N := N) g (by omega) hl hk
  obtain ⟨j, -, rfl, hj⟩ := z_nat hw.1
  have hj4 : j < 4 := by omega
  obtain ⟨x, e2, h4, hnb⟩ := r_lays2 (N := N) g (by omega) hl d1 d2 fb mb hj4
  rw [← d3] at e2
  rw [e2, q_b2_s]
  have fin : ∀ r : Int32, r = l_vnb (l_bM sv l ro pl j) (l_bF sv l ro pl j) i → l_aneighbour sv (nI l) (nI k) (nI j) i r := fun r h => Or.inr ⟨l, k, ro, pl, j, ⟨z, hw, hi⟩, ⟨hl, by omega, d1, d2, d3⟩, rfl, rfl, hj4, rfl, h⟩
  unfold l_vnb at fin
  refine Ok.ite (fun c1 => Ok.ret ⟨fin _ (by rw [if_pos c1]; rfl), hnb⟩) (fun c1 => Ok.ite (fun c2 => Ok.ret ⟨fin _ (by rw [if_neg c1]; exact (if_pos c2).symm), hnb⟩) (fun c2 => ?_))
  have h5 := h4 (l_ne0 hi c1 c2)
  subst h5
  exact Ok.ret ⟨fin _ (by rw [if_neg c1]; exact (if_neg c2).symm), hnb⟩
theorem r2_allBeside_L {R C H V : Nat → Nat} (g : MOK R C H V cr cq dp wd za) (hN : 50 ≤ N) (hl : l < 5) {r p : Nat} (hr : r ≤ 44 * H l + 1) (hp : p < z_rl (H l) (V l) r) : ∀ n i (t a b : Int32), i ≤ 4 → 4 - i < n → Ok (f_M_allBeside_L5 N dp wd za (nI l) (nI (z_rs (H l) (V l) r + p)) n t (nI i) a b) (fun x => z_nb a x.2.1) := by
  intro n
  induction n with
  | zero => intro i t a b h1 h2; omega
  | succ n ih =>
    intro i t a b h1 h2
    rw [f_M_allBeside_L5]
    refine Ok.ite (fun c => Ok.ret (z_nb_r a)) (fun c => ?_)
    rw [z_i 4, nI_leI (by omega) (by omega)] at c
    obtain ⟨x, e2, -, hnb⟩ := r_lays2 (N := N) g hN hl hr hp a b (i := i) (by omega)
    rw [e2, q_b2_s, z_nm, nI_1, z_nm]
    exact Ok.weak (ih (i + 1) _ _ _ (by omega) (by omega)) (fun y hy => z_nb_t hnb hy)
theorem r2_allBeside {R C H V : Nat → Nat} (g : MOK R C H V cr cq dp wd za) (hN : 50 ≤ N) (hl : l < 5) {r p : Nat} (hr : r ≤ 44 * H l + 1) (hp : p < z_rl (H l) (V l) r) (a b : Int32) : Ok (f_M_allBeside N dp wd za a b (nI l) (nI (z_rs (H l) (V l) r + p))) (fun x => z_nb a x.2.1) := by
  unfold f_M_allBeside
  rw [z_nm, z_nm]
  exact Ok.b3 (r2_allBeside_L g hN hl hr hp N 0 0 a b (by omega) (by omega)) (fun x1 x2 x3 h => Ok.ret h)
theorem r2_besideAll {R C H V : Nat → Nat} (g : MOK R C H V cr cq dp wd za) (hN : 50 ≤ N) (hl : l < 5) {r p : Nat} (hr : r ≤ 44 * H l + 1) (hp : p < z_rl (H l) (V l) r) (a b i : Int32) : Ok (f_M_besideAll N dp wd za a b (nI l) (nI (z_rs (H l) (V l) r + p)) i) (fun x => z_nb a x.2.1) := by
  obtain ⟨x0, e0, -, n0⟩ := r_lays2 (N := N) g hN hl hr hp a b (i := 0) (by omega)
  obtain ⟨x1, e1, -, n1⟩ := r_lays2 (N := N) g hN hl hr hp x0 (nI (z_bM (H l) (V l) r p 0)) (i := 1) (by omega)
  obtain ⟨x3, e3, -, n3⟩ := r_lays2 (N := N) g hN hl hr hp x1 (nI (z_bM (H l) (V l) r p 1)) (i := 3) (by omega)
  obtain ⟨x2, e2, -, n2⟩ := r_lays2 (N := N) g hN hl hr hp x3 (nI (z_bM (H l) (V l) r p 3)) (i := 2) (by omega)
  have t1 := z_nb_t n0 n1
  have t3 := z_nb_t t1 n3
  have t2 := z_nb_t t3 n2
  unfold f_M_besideAll
  rw [show (0 : Int32) = nI 0 from rfl, e0, q_b2_s]
  refine Ok.ite (fun _ => ?_) (fun _ => Ok.ret n0)
  rw [z_nm, z_i 1, e1, q_b2_s, z_i 3, e3, q_b2_s]
  refine Ok.k0 (fun x => z_nb a x.2.1) ?_ (fun K hK => ?_)
  · refine Ok.nm ?_
    rw [z_i 2, e2, q_b2_s]
    exact Ok.ite (fun _ => Ok.ret t2) (fun _ => Ok.ret t2)
  · refine Ok.ite (fun _ => Ok.ite (fun _ => hK) (fun _ => ?_)) (fun _ => hK)
    refine Ok.j1 ?_
    refine Ok.ite (fun _ => Ok.j1 (Ok.ite (fun _ => Ok.ite (fun _ => Ok.ret t3) (fun _ => Ok.ret t3)) (fun _ => Ok.ite (fun _ => Ok.ret t3) (fun _ => Ok.ret t3)))) (fun _ => Ok.j1 (Ok.ite (fun _ => Ok.ite (fun _ => Ok.ret t3) (fun _ => Ok.ret t3)) (fun _ => Ok.ite (fun _ => Ok.ret t3) (fun _ => Ok.ret t3))))
theorem a2_m_around (g : MOK (l_R sv) (l_C sv) (z_pr (l_R sv)) (z_pr (l_C sv)) cr cq dp wd za) (hN : 1000000 ≤ N) (fb mb p q i : Int32) : Ok (f_M_around N dp wd za fb mb p q i) (fun x => l_aaround sv p q i x.1 ∧ z_nb fb x.2.1) := by
  refine Ok.both (a_m_around g hN fb mb p q i) ?_
  unfold f_M_around
  refine Ok.b1 (r_isKey g p q) (fun v1 h1 => ?_)
  rcases h1 with ⟨z, rfl⟩ | ⟨z, rfl⟩
  rotate_left
  · exact Ok.ite (fun _ => Ok.ret (z_nb_r fb)) (fun c => absurd rfl c)
  refine Ok.ite (fun c => absurd c (by decide)) (fun _ => ?_)
  refine Ok.ite (fun hi => ?_) (fun hi => Ok.ret (z_nb_r fb))
  obtain ⟨l, k, hl, rfl, rfl, hk⟩ := z
  obtain ⟨ro, pl, d1, d2, d3, -, -⟩ := t_spot (N := N) g (by omega) hl hk
  have e1 := r2_allBeside (N := N) g (by omega) hl d1 d2 fb mb
  rw [← d3] at e1
  refine Ok.b3 e1 (fun v2 v3 v4 h2 => ?_)
  dsimp only at h2
  refine Ok.ite (fun _ => Ok.ret h2) (fun _ => Ok.ite (fun _ => Ok.ret h2) (fun _ => ?_))
  have e2 := r2_besideAll (N := N) g (by omega) hl d1 d2 v3 v4 i
  rw [← d3] at e2
  exact Ok.b3 e2 (fun v5 v6 v7 h5 => Ok.ret (z_nb_t h2 h5))
/-! side -/
def l_Fside (M F : Nat → Nat) (b : Nat) : Int32 := if F 0 ≤ b ∧ b < F 0 + M 0 then 0 else if F 1 ≤ b ∧ b < F 1 + M 1 then 1 else if F 2 ≤ b ∧ b < F 2 + M 2 then 2 else if F 3 ≤ b ∧ b < F 3 + M 3 then 3 else -2
def l_Qside (sv : l_T) (l a b : Nat) (x : Int32) : Prop := ∃ ro pl, l_spot sv l a ro pl ∧ x = l_Fside (l_bM sv l ro pl) (l_bF sv l ro pl) b
def l_aside (sv : l_T) (p q r x : Int32) : Prop := l_rl2 sv p q r (q ≠ r) (l_Qside sv) x
theorem l_aside_one {p q r x x2 : Int32} (h : l_ok sv) (h1 : l_aside sv p q r x) (h2 : l_aside sv p q r x2) : x = x2 := by
  refine l_rl2_one (Q := l_Qside sv) h (fun l a b x x2 hl ha hb q1 q2 => ?_) h1 h2
  obtain ⟨ro, pl, s1, rfl⟩ := q1
  obtain ⟨ro2, pl2, s2, rfl⟩ := q2
  obtain ⟨-, -, rfl, rfl⟩ := l_spot_one h s1 s2 rfl rfl rfl rfl
  rfl
theorem a_x_side (g : GOK (l_R sv) (l_C sv) (z_pr (l_R sv)) (z_pr (l_C sv)) rc cc br zc rw sh) (hN : 1000000 ≤ N) (f m : Nat → Int32) (a1 a2 a3 a4 a5 a6 p q r : Int32) : Ok (f_X_side N f m a1 a2 a3 a4 a5 a6 br zc rw sh p q r) (fun x => l_aside sv p q r x.1) := by
  unfold f_X_side
  refine Ok.b1 (r_areSheets g p q r) (fun v1 h1 => ?_)
  rcases h1 with ⟨hh, rfl⟩ | ⟨hh, rfl⟩
  rotate_left
  · exact Ok.ite (fun _ => Ok.ret (l_rl2N (fun z => hh z.1))) (fun c => absurd rfl c)
  refine Ok.ite (fun c => absurd c (by decide)) (fun _ => Ok.ite (fun c => Ok.ret (l_rl2N (fun z => z.2 c))) (fun hne => ?_))
  obtain ⟨l, k, b, hl, rfl, rfl, rfl, hk, hb⟩ := l_w2_ex hh
  have hw : l_w2 sv (nI l) (nI k) (nI b) l k b := ⟨hl, rfl, rfl, rfl, hk, hb⟩
  have hs := g.2.sh hl
  have hb' : b < 2130 * (z_pr (l_R sv) l * z_pr (l_C sv) l) + 2 := hb
  have hk' : k < 2130 * (z_pr (l_R sv) l * z_pr (l_C sv) l) + 2 := hk
  obtain ⟨ro, pl, e, d1, d2, d3⟩ := k_put (N := N) g (by omega) hl hk a1 a2 a3 a4 a5 a6
  obtain ⟨f', m', e2, hfm⟩ := r_lookAround g hl d1 d2 f m
  have hMF := l_MF_of g.2 hl d1 d2
  have fin : ∀ x, x = l_Fside (l_bM sv l ro pl) (l_bF sv l ro pl) b → l_aside sv (nI l) (nI k) (nI b) x := fun x hx => l_rl2Y hne hw ⟨ro, pl, ⟨hl, by omega, d1, d2, d3⟩, hx⟩
  rw [e, q_b6_s, e2, q_b2_s, z_nm]
  have L : ∀ (x2 x3 x4 x5 x6 x7 : Int32) n i, i ≤ 4 → 4 - i < n → (∀ j, j < i → ¬ (l_bF sv l ro pl j ≤ b ∧ b < l_bF sv l ro pl j + l_bM sv l ro pl j)) → Ok (f_X_side_L36 f' m' (nI b) x2 x3 x4 x5 x6 x7 n (nI i)) (Sum.elim (fun _ => ∀ j, j < 4 → ¬ (l_bF sv l ro pl j ≤ b ∧ b < l_bF sv l ro pl j + l_bM sv l ro pl j)) (fun y => ∃ j, j < 4 ∧ y.1 = nI j ∧ (l_bF sv l ro pl j ≤ b ∧ b < l_bF sv l ro pl j + l_bM sv l ro pl j) ∧ ∀ j2, j2 < j → ¬ (l_bF sv l ro pl j2 ≤ b ∧ b < l_bF sv l ro pl j2 + l_bM sv l ro pl j2))) := by
    intro x2 x3 x4 x5 x6 x7 n
    induction n with
    | zero => intro i _ h; omega
    | succ n ih =>
      intro i hi hn hp
      rw [f_X_side_L36]
      refine Ok.ite (fun hc => Ok.ret (show ∀ j, j < 4 → _ from fun j hj => hp j ?_)) (fun hc => ?_)
      all_goals rw [z_i 3, nI_ltI (by omega) (by omega)] at hc
      · omega
      have hi4 : i < 4 := by omega
      obtain ⟨m1, m2⟩ := hfm i hi4
      obtain ⟨m3, m4⟩ := hMF.2 i hi4
      have nx : ¬ (l_bF sv l ro pl i ≤ b ∧ b < l_bF sv l ro pl i + l_bM sv l ro pl i) → Ok (q_nm (nI i + 1 : Int32) (fun (v13 : Int32) => f_X_side_L36 f' m' (nI b) x2 x3 x4 x5 x6 x7 n v13)) (Sum.elim (fun _ => ∀ j, j < 4 → ¬ (l_bF sv l ro pl j ≤ b ∧ b < l_bF sv l ro pl j + l_bM sv l ro pl j)) (fun y => ∃ j, j < 4 ∧ y.1 = nI j ∧ (l_bF sv l ro pl j ≤ b ∧ b < l_bF sv l ro pl j + l_bM sv l ro pl j) ∧ ∀ j2, j2 < j → ¬ (l_bF sv l ro pl j2 ≤ b ∧ b < l_bF sv l ro pl j2 + l_bM sv l ro pl j2))) := by
        intro hno
        rw [nI_1, z_nm]
        refine ih (i + 1) (by omega) (by omega) (fun j hj => ?_)
        by_cases ej : j = i
        · subst ej; exact hno
        · exact hp j (by omega)
      rw [z_ai hi4 (by omega), z_j0, z_ai hi4 (by omega), z_ai hi4 (by omega), m1]
      by_cases c0 : z_bM (z_pr (l_R sv) l) (z_pr (l_C sv) l) ro pl i = 0
      · have hno : ¬ (l_bF sv l ro pl i ≤ b ∧ b < l_bF sv l ro pl i + l_bM sv l ro pl i) := by
          unfold l_bM
          rw [c0]; omega
        refine Ok.ite (fun _ => nx hno) (fun c1 => ?_)
        rw [if_pos (by rw [c0, show nI 0 = 0 from rfl, Int32.add_zero, z_le]; rw [z_lt] at c1; omega)]
        exact nx hno
      · have m5 := m4 c0
        rw [m2 c0, nI_add]
        refine Ok.ite (fun c1 => nx ?_) (fun c1 => Ok.ite (fun c2 => nx ?_) (fun c2 => Ok.ret (show ∃ _, _ from ⟨i, hi4, rfl, ⟨?_, ?_⟩, hp⟩)))
        all_goals rw [nI_ltI (by omega) (by omega)] at c1
        all_goals try rw [nI_leI (by omega) (by omega)] at c2
        · show ¬ (z_bF _ _ _ _ _ ≤ b ∧ _); omega
        · show ¬ (_ ∧ b < z_bF _ _ _ _ _ + z_bM _ _ _ _ _); omega
        · show z_bF _ _ _ _ _ ≤ b; omega
        · show b < z_bF _ _ _ _ _ + z_bM _ _ _ _ _; omega
  refine Ok.s0 (L _ _ _ _ _ _ N 0 (by omega) (by omega) (fun j hj => by omega)) (fun h => Ok.ret (fin _ ?_)) (fun y hy => fin _ ?_)
  · have h : ∀ j, j < 4 → ¬ (l_bF sv l ro pl j ≤ b ∧ b < l_bF sv l ro pl j + l_bM sv l ro pl j) := h
    unfold l_Fside
    rw [if_neg (h 0 (by omega)), if_neg (h 1 (by omega)), if_neg (h 2 (by omega)), if_neg (h 3 (by omega))]
  · obtain ⟨j, hj, e1, h2, h3⟩ := hy
    rw [e1]
    unfold l_Fside
    rcases (show j = 0 ∨ j = 1 ∨ j = 2 ∨ j = 3 by omega) with rfl | rfl | rfl | rfl
    · rw [if_pos h2]; rfl
    · rw [if_neg (h3 0 (by omega)), if_pos h2]; rfl
    · rw [if_neg (h3 0 (by omega)), if_neg (h3 1 (by omega)), if_pos h2]; rfl
    · rw [if_neg (h3 0 (by omega)), if_neg (h3 1 (by omega)), if_neg (h3 2 (by omega)), if_pos h2]; rfl
theorem a2_m_side (g : MOK (l_R sv) (l_C sv) (z_pr (l_R sv)) (z_pr (l_C sv)) cr cq dp wd za) (hN : 1000000 ≤ N) (fb mb p q r : Int32) (hfb : 0 ≤ fb.toInt) : Ok (f_M_side N dp wd za fb mb p q r) (fun x => l_aside sv p q r x.1 ∧ z_nb fb x.2.1) := by
  unfold f_M_side
  refine Ok.b1 (r_isKey g p q) (fun v1 h1 => ?_)
  rcases h1 with ⟨z1, rfl⟩ | ⟨z, rfl⟩
  rotate_left
  · exact Ok.ite (fun _ => Ok.ret ⟨l_rl2N (fun u => z u.1.1), z_nb_r fb⟩) (fun c => absurd rfl c)
  refine Ok.ite (fun c => absurd c (by decide)) (fun _ => Ok.b1 (r_isKey g p r) (fun v2 h2 => ?_))
  rcases h2 with ⟨z2, rfl⟩ | ⟨z, rfl⟩
  rotate_left
  · exact Ok.ite (fun _ => Ok.ret ⟨l_rl2N (fun u => z u.1.2), z_nb_r fb⟩) (fun c => absurd rfl c)
  refine Ok.ite (fun c => absurd c (by decide)) (fun _ => Ok.ite (fun c => Ok.ret ⟨l_rl2N (fun z => z.2 c), z_nb_r fb⟩) (fun hne => ?_))
  obtain ⟨l, k, b, hl, rfl, rfl, rfl, hk, hb⟩ := l_w2_ex (sv := sv) ⟨z1, z2⟩
  have hw : l_w2 sv (nI l) (nI k) (nI b) l k b := ⟨hl, rfl, rfl, rfl, hk, hb⟩
  have hs := g.2.2.sh hl
  have hb' : b < 2130 * (z_pr (l_R sv) l * z_pr (l_C sv) l) + 2 := hb
  have hk' : k < 2130 * (z_pr (l_R sv) l * z_pr (l_C sv) l) + 2 := hk
  obtain ⟨ro, pl, d1, d2, d3, -, -⟩ := t_spot (N := N) g (by omega) hl hk
  have hMF := l_MF_of g.2.2 hl d1 d2
  have fin : ∀ x, x = l_Fside (l_bM sv l ro pl) (l_bF sv l ro pl) b → l_aside sv (nI l) (nI k) (nI b) x := fun x hx => l_rl2Y hne hw ⟨ro, pl, ⟨hl, by omega, d1, d2, d3⟩, hx⟩
  have L : ∀ n i (fb mb : Int32), i ≤ 4 → 4 - i < n → 0 ≤ fb.toInt → (∀ j, j < i → ¬ (l_bF sv l ro pl j ≤ b ∧ b < l_bF sv l ro pl j + l_bM sv l ro pl j)) → Ok (f_M_side_L28 N dp wd za (nI l) (nI k) (nI b) n (nI i) fb mb) (Sum.elim (fun y => 0 ≤ y.1.toInt ∧ ∀ j, j < 4 → ¬ (l_bF sv l ro pl j ≤ b ∧ b < l_bF sv l ro pl j + l_bM sv l ro pl j)) (fun y => 0 ≤ y.2.1.toInt ∧ ∃ j, j < 4 ∧ y.1 = nI j ∧ (l_bF sv l ro pl j ≤ b ∧ b < l_bF sv l ro pl j + l_bM sv l ro pl j) ∧ ∀ j2, j2 < j → ¬ (l_bF sv l ro pl j2 ≤ b ∧ b < l_bF sv l ro pl j2 + l_bM sv l ro pl j2))) := by
    intro n
    induction n with
    | zero => intro i fb mb _ h; omega
    | succ n ih =>
      intro i fb mb hi hn hfb hp
      rw [f_M_side_L28]
      refine Ok.ite (fun hc => Ok.ret (show _ ∧ _ from ⟨hfb, fun j hj => hp j ?_⟩)) (fun hc => ?_)
      all_goals rw [z_i 4, nI_leI (by omega) (by omega)] at hc
      · omega
      have hi4 : i < 4 := by omega
      obtain ⟨x, e1, hx, hnb⟩ := r_lays2 (N := N) g (by omega) hl d1 d2 fb mb hi4
      obtain ⟨m3, m4⟩ := hMF.2 i hi4
      have hxn := hnb hfb
      have key : f_M_in (nI b).toInt64 x.toInt64 ((x + nI (z_bM (z_pr (l_R sv) l) (z_pr (l_C sv) l) ro pl i)) - 1).toInt64 = some (if l_bF sv l ro pl i ≤ b ∧ b < l_bF sv l ro pl i + l_bM sv l ro pl i then 1 else 0) := by
        rw [m_in, z_toL, z_toL, z_toL, nI_toInt (by omega)]
        by_cases c0 : z_bM (z_pr (l_R sv) l) (z_pr (l_C sv) l) ro pl i = 0
        · have hno : ¬ (l_bF sv l ro pl i ≤ b ∧ b < l_bF sv l ro pl i + l_bM sv l ro pl i) := by
            unfold l_bM
            rw [c0]; omega
          obtain ⟨u, u1, rfl, u3⟩ := z_nat hxn
          rw [c0, show nI 0 = 0 from rfl, Int32.add_zero, if_neg hno]
          rcases Nat.eq_zero_or_pos u with h0 | h0
          · subst h0
            rw [if_neg (by rw [show (nI 0 - 1 : Int32).toInt = -1 from rfl]; omega)]
          · rw [z_sub1 h0, nI_toInt u1, nI_toInt (by omega), if_neg (by omega)]
        · have m5 := m4 c0
          rw [hx c0, nI_add, z_sub1 (by omega), nI_toInt (by omega), nI_toInt (by omega)]
          by_cases hin : l_bF sv l ro pl i ≤ b ∧ b < l_bF sv l ro pl i + l_bM sv l ro pl i
          · rw [if_pos hin]
            have h1 : z_bF (z_pr (l_R sv) l) (z_pr (l_C sv) l) ro pl i ≤ b := hin.1
            have h2 : b < z_bF (z_pr (l_R sv) l) (z_pr (l_C sv) l) ro pl i + z_bM (z_pr (l_R sv) l) (z_pr (l_C sv) l) ro pl i := hin.2
            rw [if_pos (by omega)]
          · rw [if_neg hin]
            have h1 : ¬ (z_bF (z_pr (l_R sv) l) (z_pr (l_C sv) l) ro pl i ≤ b ∧ b < z_bF (z_pr (l_R sv) l) (z_pr (l_C sv) l) ro pl i + z_bM (z_pr (l_R sv) l) (z_pr (l_C sv) l) ro pl i) := hin
            rw [if_neg (by omega)]
      rw [d3, e1, ← d3, q_b2_s, key, q_b1_s]
      by_cases hin : l_bF sv l ro pl i ≤ b ∧ b < l_bF sv l ro pl i + l_bM sv l ro pl i
      · rw [if_pos hin, if_neg (by decide)]
        exact Ok.ret (show _ ∧ _ from ⟨hxn, i, hi4, rfl, hin, hp⟩)
      · rw [if_neg hin, if_pos rfl, nI_1, z_nm]
        refine ih (i + 1) _ _ (by omega) (by omega) hxn (fun j hj => ?_)
        by_cases ej : j = i
        · subst ej; exact hin
        · exact hp j (by omega)
  rw [z_nm]
  refine Ok.s2 (L N 0 fb mb (by omega) (by omega) hfb (fun j hj => by omega)) (fun y1 y2 h => Ok.ret ⟨fin _ ?_, fun _ => h.1⟩) (fun y hy => ⟨fin _ ?_, fun _ => hy.1⟩)
  · obtain ⟨-, h⟩ := h
    unfold l_Fside
    rw [if_neg (h 0 (by omega)), if_neg (h 1 (by omega)), if_neg (h 2 (by omega)), if_neg (h 3 (by omega))]
  · obtain ⟨-, j, hj, e1, h2, h3⟩ := hy
    rw [e1]
    unfold l_Fside
    rcases (show j = 0 ∨ j = 1 ∨ j = 2 ∨ j = 3 by omega) with rfl | rfl | rfl | rfl
    · rw [if_pos h2]; rfl
    · rw [if_neg (h3 0 (by omega)), if_pos h2]; rfl
    · rw [if_neg (h3 0 (by omega)), if_neg (h3 1 (by omega)), if_pos h2]; rfl
    · rw [if_neg (h3 0 (by omega)), if_neg (h3 1 (by omega)), if_neg (h3 2 (by omega)), if_pos h2]; rfl
end S22A
