/-! answers: child -/
section S7A
variable {R C H V : Nat → Nat} {rc cc br zc rw sh cr cq dp wd za : Nat → Int32} {sv : l_T} {N l t : Nat}
theorem z_capR {H0 V0 r p k : Nat} (hH : 1 ≤ H0) (hr : r ≤ 44 * H0 + 1) (hp : p < z_rl H0 V0 r) (hk : k = z_rs H0 V0 r + p) : (k = 0 ↔ r = 0) ∧ (z_capk H0 V0 k ↔ (r = 0 ∨ r = 44 * H0 + 1)) := by
  have e0 : z_rs H0 V0 0 = 0 := by unfold z_rs; rw [if_pos rfl]
  have l0 : z_rl H0 V0 0 = 1 := by unfold z_rl; rw [if_pos (Or.inl rfl)]
  have eL := z_rs_last (V := V0) hH
  have lL := z_rl_last (H := H0) (V := V0)
  have h0 : k = 0 → r = 0 := fun z => z_row_one (V := V0) hH hr (Nat.zero_le _) (k := k) (by omega) (by omega) (by omega) (by omega)
  have hL : k = 2130 * (H0 * V0) + 1 → r = 44 * H0 + 1 := fun z => z_row_one (V := V0) hH hr (Nat.le_refl _) (k := k) (by omega) (by omega) (by omega) (by omega)
  refine ⟨⟨h0, fun z => ?_⟩, ⟨fun z => ?_, fun z => ?_⟩⟩
  · subst z; omega
  · rcases z with z | z
    · exact Or.inl (h0 z)
    · exact Or.inr (hL z)
  · rcases z with rfl | rfl
    · exact Or.inl (by omega)
    · exact Or.inr (by omega)
/-- how many sheets of level t lie in one of level l; the j-th -/
def z_chM (H V : Nat → Nat) (l t ro : Nat) : Nat := if ro = 0 ∨ ro = 44 * H l + 1 then 1 else H t / H l * (V t / V l)
def z_chK (H V : Nat → Nat) (l t ro pl j : Nat) : Nat := if ro = 0 then 0 else if ro = 44 * H l + 1 then 2130 * (H t * V t) + 1 else z_rs (H t) (V t) (1 + (ro - 1) * (H t / H l) + j / (V t / V l)) + (pl * (V t / V l) + j % (V t / V l))
theorem z_child (g : CUT R C H V) (hlt : l ≤ t) (ht : t < 5) {ro x : Nat} (h1 : 1 ≤ ro) (h2 : ro ≤ 44 * H l) (hx : x < H t / H l) : 1 + (ro - 1) * (H t / H l) + x ≤ 44 * H t ∧ z_rl (H t) (V t) (1 + (ro - 1) * (H t / H l) + x) = z_rl (H l) (V l) ro * (V t / V l) := by
  have hl : l < 5 := by omega
  have hp := g.pos l hl
  have hpt := g.pos t ht
  have hd := g.dvd t ht l hlt
  have q1 := z_quot hd.1 hp.1 hpt.1
  have q2 := z_quot hd.2 hp.2 hpt.2
  have a1 : (ro - 1) * (H t / H l) + (H t / H l) = ro * (H t / H l) := by
    rw [← Nat.succ_mul]; congr 1; omega
  have a2 : ro * (H t / H l) ≤ 44 * H t := by
    have : ro * (H t / H l) ≤ 44 * H l * (H t / H l) := Nat.mul_le_mul_right _ h2
    rw [Nat.mul_assoc, q1.2.2] at this
    exact this
  have hle : 1 + (ro - 1) * (H t / H l) + x ≤ 44 * H t := by omega
  refine ⟨hle, ?_⟩
  unfold z_rl
  rw [if_neg (by omega), if_neg (by omega)]
  have e : (1 + (ro - 1) * (H t / H l) + x - 1) / H t = (ro - 1) / H l := by
    have e0 : 1 + (ro - 1) * (H t / H l) + x - 1 = (H t / H l) * (ro - 1) + x := by rw [Nat.mul_comm]; omega
    have q := q1.2.2
    have qp := q1.1
    rw [e0]
    clear e0 hle a1 a2 q1
    generalize H t / H l = D at *
    rw [← q, Nat.mul_comm (H l) D, ← Nat.div_div_eq_div_mul, Nat.mul_add_div (show D > 0 by omega), Nat.div_eq_of_lt hx, Nat.add_zero]
  rw [e, Nat.mul_assoc, q2.2.2]
theorem r_rowsIn (g : GOK R C H V rc cc br zc rw sh) (hlt : l ≤ t) (ht : t < 5) : f_Grid_rowsIn br (nI l) (nI t) = some (nI (H t / H l)) ∧ f_Grid_columnsIn zc (nI l) (nI t) = some (nI (V t / V l)) := by
  have hl : l < 5 := by omega
  have hv := g.2.hv hl
  have hvt := g.2.hv ht
  have hp := g.2.pos l hl
  unfold f_Grid_rowsIn f_Grid_columnsIn
  rw [z_ai ht (by omega), (g.at ht).2.2.1, z_ai hl (by omega), (g.at hl).2.2.1, z_dv (by omega) (by omega) (by omega), z_ai ht (by omega), (g.at ht).2.2.2.1, z_ai hl (by omega), (g.at hl).2.2.2.1, z_dv (by omega) (by omega) (by omega)]
  exact ⟨rfl, rfl⟩
theorem r_piecesAt (g : GOK R C H V rc cc br zc rw sh) (hlt : l ≤ t) (ht : t < 5) (ro : Nat) : f_Spot_piecesAt (nI l) (z_cap (H l) ro) br zc (nI t) = some (nI (z_chM H V l t ro)) := by
  obtain ⟨e1, e2⟩ := r_rowsIn g hlt ht
  unfold f_Spot_piecesAt z_cap z_chM
  by_cases hc : ro = 0 ∨ ro = 44 * H l + 1
  · rw [if_pos hc, if_pos hc, if_neg (by decide)]; rfl
  · rw [if_neg hc, if_neg hc, if_pos rfl, e1, q_b1_s, e2, q_b1_s, pk_mul]
theorem r_pieceAt (g : GOK R C H V rc cc br zc rw sh) (hlt : l ≤ t) (ht : t < 5) {ro pl j : Nat} (hr : ro ≤ 44 * H l + 1) (hp : pl < z_rl (H l) (V l) ro) (hj : j < z_chM H V l t ro) : f_Spot_pieceAt (nI l) (nI ro) (nI pl) (z_cap (H l) ro) br zc rw sh (nI t) (nI j) = some (nI (z_chK H V l t ro pl j)) := by
  obtain ⟨e1, e2⟩ := r_rowsIn g hlt ht
  have hl : l < 5 := by omega
  have hv := g.2.hv hl
  have hvt := g.2.hv ht
  have hps := g.2.pos l hl
  have hpt := g.2.pos t ht
  have hd := g.2.dvd t ht l hlt
  have q1 := z_quot hd.1 hps.1 hpt.1
  have q2 := z_quot hd.2 hps.2 hpt.2
  have hst := g.2.sh ht
  unfold f_Spot_pieceAt z_cap z_chK
  unfold z_chM at hj
  by_cases hc : ro = 0 ∨ ro = 44 * H l + 1
  · rw [if_pos hc, if_neg (by decide)]
    by_cases h0 : ro = 0
    · rw [if_pos h0, if_pos (show nI ro = 0 by rw [h0]; rfl)]; rfl
    · rw [if_neg h0, if_pos (show ro = 44 * H l + 1 by omega), if_neg (show ¬ nI ro = 0 by rw [z_eq0 (by omega)]; exact h0), z_ai ht (by omega), (g.at ht).2.2.2.2.2, z_sub1 (by omega)]; rfl
  · have mm : H t / H l * (V t / V l) ≤ 9390 * 9390 := Nat.mul_le_mul (by omega) (by omega)
    rw [if_neg hc] at hj
    have hx : j / (V t / V l) < H t / H l := Nat.div_lt_of_lt_mul (by rw [Nat.mul_comm]; exact hj)
    have hm : j % (V t / V l) < V t / V l := Nat.mod_lt _ (by omega)
    obtain ⟨c1, c2⟩ := z_child g.2 hlt ht (ro := ro) (by omega) (by omega) hx
    rw [if_neg hc, if_pos rfl, if_neg (show ¬ ro = 0 by omega), if_neg (show ¬ ro = 44 * H l + 1 by omega), e2, q_b1_s, e1, q_b1_s, z_dv (by omega) (by omega) (by omega), z_sub1 (by omega), pk_mul, nI_add, nI_1, z_nm, show (ro - 1) * (H t / H l) + j / (V t / V l) + 1 = 1 + (ro - 1) * (H t / H l) + j / (V t / V l) by omega, k_rowStart g ht (by omega), q_b1_s, z_rm (by omega) (by omega) (by omega), pk_mul, nI_add, nI_add, Nat.add_assoc]
/-- the reference's pieces -/
theorem r_m_child (g : MOK R C H V cr cq dp wd za) (hN : 50 ≤ N) (hlt : l ≤ t) (ht : t < 5) {k ro pl : Nat} (hk : k < 2130 * (H l * V l) + 2) (hr : ro ≤ 44 * H l + 1) (hp : pl < z_rl (H l) (V l) ro) (hk2 : k = z_rs (H l) (V l) ro + pl) {i : Int32} (hi : -1 ≤ i) : ∀ v3 : Int32, f_M_isCap dp wd za (nI l) (nI k) = some v3 → Ok (q_j1 (fun (v4 : Int32) => (q_j1 (fun (v5 : Int32) => (if i = (-1) then (some (v4 * v5)) else (if i < (v4 * v5) then (if v3 = 0 then (q_b1 (f_M_rowOf N dp wd za (nI l) (nI k)) (fun (v6 : Int32) => q_dv i v5 (fun (v7 : Int32) => q_b1 (f_M_placeOf N dp wd za (nI l) (nI k)) (fun (v8 : Int32) => q_rm i v5 (fun (v9 : Int32) => q_b1 (f_M_keyOf dp wd za (nI t) ((1 + ((v6 - 1) * v4)) + v7) ((v8 * v5) + v9)) (fun (v10 : Int32) => some v10)))))) else (if nI k = 0 then (some 0) else (q_b1 (f_M_sheets dp wd za (nI t)) (fun (v11 : Int32) => some (v11 - 1))))) else (some (-2))) : Option (Int32))) (fun (k84 : Int32 → Option (Int32)) => if v3 = 0 then (q_ai wd 5 (nI t) (fun (v12 : Int32) => q_ai wd 5 (nI l) (fun (v13 : Int32) => q_dv v12 v13 (fun (v14 : Int32) => k84 v14)))) else (k84 1)) : Option (Int32))) (fun (k60 : Int32 → Option (Int32)) => if v3 = 0 then (q_ai dp 5 (nI t) (fun (v15 : Int32) => q_ai dp 5 (nI l) (fun (v16 : Int32) => q_dv v15 v16 (fun (v17 : Int32) => k60 v17)))) else (k60 1))) (fun x => x = if i = -1 then nI (z_chM H V l t ro) else if nI (z_chM H V l t ro) ≤ i then -2 else nI (z_chK H V l t ro pl i.toInt.toNat)) := by
  intro v3 h3
  have hl : l < 5 := by omega
  have hv := g.2.2.hv hl
  have hvt := g.2.2.hv ht
  have hps := g.2.2.pos l hl
  have hpt := g.2.2.pos t ht
  have hd := g.2.2.dvd t ht l hlt
  have q1 := z_quot hd.1 hps.1 hpt.1
  have q2 := z_quot hd.2 hps.2 hpt.2
  have hst := g.2.2.sh ht
  have hsl := g.2.2.sh hl
  obtain ⟨cz, cc1⟩ := z_capR hps.1 hr hp hk2
  obtain ⟨gl1, gl2, gl3, gl4⟩ := g.1 l hl
  obtain ⟨gt1, gt2, gt3, gt4⟩ := g.1 t ht
  have notle : ∀ {M : Nat}, M < 2 ^ 31 → (i < nI M ↔ ¬ nI M ≤ i) := by
    intro M hM
    rw [z_lt, z_le, nI_toInt hM]; omega
  rcases t_isCap g hl hk with ⟨c1, e1⟩ | ⟨c1, e1⟩
  · rw [h3] at e1
    cases e1
    have hc := cc1.mp c1
    have eM : z_chM H V l t ro = 1 := by unfold z_chM; rw [if_pos hc]
    rw [eM]
    refine Ok.j1 ?_
    rw [if_neg (by decide)]
    refine Ok.j1 ?_
    rw [if_neg (by decide)]
    dsimp only
    rw [show (1 : Int32) * 1 = nI 1 from rfl]
    by_cases d1 : i = -1
    · rw [if_pos d1, if_pos d1]; exact Ok.ret rfl
    rw [if_neg d1, if_neg d1]
    by_cases d2 : nI 1 ≤ i
    · rw [if_pos d2, if_neg (fun z => (notle (by omega)).mp z d2)]; exact Ok.ret rfl
    rw [if_neg d2, if_pos ((notle (by omega)).mpr d2), if_neg (by decide)]
    unfold z_chK
    by_cases h0 : ro = 0
    · rw [if_pos h0, if_pos (show nI k = 0 by rw [z_eq0 (by omega)]; exact cz.mpr h0)]; exact Ok.ret rfl
    · rw [if_neg h0, if_pos (show ro = 44 * H l + 1 by omega), if_neg (show ¬ nI k = 0 by rw [z_eq0 (by omega)]; exact fun z => h0 (cz.mp z)), m_sheets g ht, q_b1_s, z_sub1 (by omega)]
      exact Ok.ret rfl
  · rw [h3] at e1
    cases e1
    have hc : ¬ (ro = 0 ∨ ro = 44 * H l + 1) := fun z => c1 (cc1.mpr z)
    have eM : z_chM H V l t ro = H t / H l * (V t / V l) := by unfold z_chM; rw [if_neg hc]
    have mm : H t / H l * (V t / V l) ≤ 9390 * 9390 := Nat.mul_le_mul (by omega) (by omega)
    rw [eM]
    refine Ok.j1 ?_
    rw [if_pos rfl, z_ai ht (by omega), gt3, z_ai hl (by omega), gl3, z_dv (by omega) (by omega) (by omega)]
    refine Ok.j1 ?_
    rw [if_pos rfl, z_ai ht (by omega), gt4, z_ai hl (by omega), gl4, z_dv (by omega) (by omega) (by omega)]
    dsimp only
    rw [pk_mul]
    by_cases d1 : i = -1
    · rw [if_pos d1, if_pos d1]; exact Ok.ret rfl
    rw [if_neg d1, if_neg d1]
    by_cases d2 : nI (H t / H l * (V t / V l)) ≤ i
    · rw [if_pos d2, if_neg (fun z => (notle (by omega)).mp z d2)]; exact Ok.ret rfl
    rw [if_neg d2, if_pos ((notle (by omega)).mpr d2), if_pos rfl]
    obtain ⟨j, hj, rfl, hjj⟩ := l_idx (M := H t / H l * (V t / V l)) (by omega) hi d1 d2
    have hx : j / (V t / V l) < H t / H l := Nat.div_lt_of_lt_mul (by rw [Nat.mul_comm]; exact hj)
    have hm : j % (V t / V l) < V t / V l := Nat.mod_lt _ (by omega)
    obtain ⟨c3, c4⟩ := z_child g.2.2 hlt ht (ro := ro) (by omega) (by omega) hx
    have c5 : pl * (V t / V l) + j % (V t / V l) < z_rl (H t) (V t) (1 + (ro - 1) * (H t / H l) + j / (V t / V l)) := by
      rw [c4]
      have : (pl + 1) * (V t / V l) ≤ z_rl (H l) (V l) ro * (V t / V l) := Nat.mul_le_mul_right _ hp
      rw [Nat.succ_mul] at this
      omega
    obtain ⟨er, ep⟩ := m_placeOf (N := N) g hN hl hr (k := k) (by omega) (by omega)
    rw [er, q_b1_s, z_dv (by omega) (by omega) (by omega), ep, q_b1_s, z_rm (by omega) (by omega) (by omega), show k - z_rs (H l) (V l) ro = pl by omega, z_sub1 (by omega), pk_mul, z_i 1, nI_add, nI_add, pk_mul, nI_add, m_keyOf g ht (by omega) c5, q_b1_s]
    refine Ok.ret ?_
    unfold z_chK
    rw [if_neg (show ¬ ro = 0 by omega), if_neg (show ¬ ro = 44 * H l + 1 by omega), hjj]
def l_Cchild (sv : l_T) (p q w i : Int32) : Prop := z_hs (z_pr (l_R sv)) (z_pr (l_C sv)) p q ∧ (p.toInt ≤ w.toInt ∧ w.toInt ≤ 4) ∧ -1 ≤ i
def l_Schild (sv : l_T) (p q w : Int32) (s : (Nat × Nat × Nat × Nat) × Nat) : Prop := l_sp sv p q s.1 ∧ s.2 < 5 ∧ w = nI s.2
def l_Fchild (sv : l_T) (i : Int32) (s : (Nat × Nat × Nat × Nat) × Nat) : Int32 := if i = -1 then nI (z_chM (z_pr (l_R sv)) (z_pr (l_C sv)) s.1.1 s.2 s.1.2.2.1) else if nI (z_chM (z_pr (l_R sv)) (z_pr (l_C sv)) s.1.1 s.2 s.1.2.2.1) ≤ i then -2 else nI (z_chK (z_pr (l_R sv)) (z_pr (l_C sv)) s.1.1 s.2 s.1.2.2.1 s.1.2.2.2 i.toInt.toNat)
def l_achild (sv : l_T) (p q w i r : Int32) : Prop := l_rel (l_Cchild sv p q w i) (-1) (l_Schild sv p q w) (l_Fchild sv i) r
theorem l_achild_one {p q w i r r' : Int32} (h : l_ok sv) (h1 : l_achild sv p q w i r) (h2 : l_achild sv p q w i r') : r = r' := by
  refine l_rel_one ?_ h1 h2
  intro ⟨s, t⟩ ⟨s', t'⟩ ⟨a, b, c⟩ ⟨a', b', c'⟩
  have e := l_sp_one h s s' a a'
  have e2 : t = t' := by dsimp only at b b' c c'; rw [c, nI_eq (by omega) (by omega)] at c'; exact c'
  rw [e, e2]
theorem a_x_child (g : GOK (l_R sv) (l_C sv) (z_pr (l_R sv)) (z_pr (l_C sv)) rc cc br zc rw sh) (hN : 1000000 ≤ N) (a1 a2 a3 a4 a5 a6 p q w i : Int32) : Ok (f_X_child N a1 a2 a3 a4 a5 a6 br zc rw sh p q w i) (fun x => l_achild sv p q w i x.1) := by
  unfold f_X_child
  refine Ok.b1 (r_hasSheet g p q) (fun v1 h1 => ?_)
  rcases h1 with ⟨z, rfl⟩ | ⟨z, rfl⟩
  rotate_left
  · exact Ok.ite (fun _ => Ok.ret (l_relN (fun u => z u.1))) (fun c => absurd rfl c)
  refine Ok.ite (fun c => absurd c (by decide)) (fun _ => Ok.b1 (s_isFrom w p 4) (fun v2 h2 => ?_))
  rw [show (4 : Int32).toInt = 4 from rfl] at h2
  refine Ok.ite (fun c => Ok.ret (l_relN (fun u => z_if0 h2 c u.2.1))) (fun c => ?_)
  have hw := z_if1 h2 c
  refine Ok.ite (fun hi => ?_) (fun hi => Ok.ret (l_relN (fun u => hi u.2.2)))
  have z' := z
  obtain ⟨l, k, hl, rfl, rfl, hk⟩ := z'
  have hw' := hw
  rw [nI_toInt (by omega)] at hw'
  obtain ⟨t, -, rfl, htt⟩ := z_nat (r := w) (by omega)
  have hlt : l ≤ t := by omega
  have ht : t < 5 := by omega
  have hs := g.2.sh hl
  have hv := g.2.hv hl
  have hvt := g.2.hv ht
  obtain ⟨ro, pl, e, d1, d2, d3⟩ := k_put (N := N) g (by omega) hl hk a1 a2 a3 a4 a5 a6
  have hsp : l_Schild sv (nI l) (nI k) (nI t) ((l, k, ro, pl), t) := ⟨⟨⟨hl, (show k < 20000000 by omega), d1, d2, d3⟩, rfl, rfl⟩, ht, rfl⟩
  have hb : z_chM (z_pr (l_R sv)) (z_pr (l_C sv)) l t ro < 2 ^ 31 := by
    have mm : z_pr (l_R sv) t / z_pr (l_R sv) l * (z_pr (l_C sv) t / z_pr (l_C sv) l) ≤ 9390 * 9390 := Nat.mul_le_mul (Nat.le_trans (Nat.div_le_self _ _) hvt.1) (Nat.le_trans (Nat.div_le_self _ _) hvt.2.1)
    unfold z_chM
    split <;> omega
  rw [e, q_b6_s, r_piecesAt g hlt ht, q_b1_s]
  refine Ok.ite (fun c1 => Ok.ret (l_relY ⟨z, hw, hi⟩ hsp ?_)) (fun c1 => ?_)
  · unfold l_Fchild; rw [if_pos c1]
  refine Ok.ite (fun c2 => Ok.ret (l_relY ⟨z, hw, hi⟩ hsp ?_)) (fun c2 => ?_)
  · unfold l_Fchild; rw [if_neg c1]; exact (if_pos c2).symm
  obtain ⟨j, hj, rfl, hjj⟩ := l_idx hb hi c1 c2
  rw [r_pieceAt g hlt ht d1 d2 hj, q_b1_s]
  refine Ok.ret (l_relY ⟨z, hw, hi⟩ hsp ?_)
  unfold l_Fchild
  rw [if_neg c1, hjj]
  exact (if_neg c2).symm
theorem a_m_child (g : MOK (l_R sv) (l_C sv) (z_pr (l_R sv)) (z_pr (l_C sv)) cr cq dp wd za) (hN : 1000000 ≤ N) (p q w i : Int32) : Ok (f_M_child N dp wd za p q w i) (fun x => l_achild sv p q w i x) := by
  unfold f_M_child
  refine Ok.b1 (r_isKey g p q) (fun v1 h1 => ?_)
  rcases h1 with ⟨z, rfl⟩ | ⟨z, rfl⟩
  rotate_left
  · exact Ok.ite (fun _ => Ok.ret (l_relN (fun u => z u.1))) (fun c => absurd rfl c)
  refine Ok.ite (fun c => absurd c (by decide)) (fun _ => Ok.b1 (t_in _ _ _) (fun v2 h2 => ?_))
  rw [z_toL, z_toL, show (4 : Int64).toInt = 4 from rfl] at h2
  refine Ok.ite (fun c => Ok.ret (l_relN (fun u => z_if0 h2 c u.2.1))) (fun c => ?_)
  have hw := z_if1 h2 c
  refine Ok.ite (fun hi => ?_) (fun hi => Ok.ret (l_relN (fun u => hi u.2.2)))
  have z' := z
  obtain ⟨l, k, hl, rfl, rfl, hk⟩ := z'
  have hw' := hw
  rw [nI_toInt (by omega)] at hw'
  obtain ⟨t, -, rfl, htt⟩ := z_nat (r := w) (by omega)
  have hlt : l ≤ t := by omega
  have ht : t < 5 := by omega
  have hs := g.2.2.sh hl
  obtain ⟨ro, pl, d1, d2, d3, -, -⟩ := t_spot (N := N) g (by omega) hl hk
  have hsp : l_Schild sv (nI l) (nI k) (nI t) ((l, k, ro, pl), t) := ⟨⟨⟨hl, (show k < 20000000 by omega), d1, d2, d3⟩, rfl, rfl⟩, ht, rfl⟩
  obtain ⟨v3, h3⟩ : ∃ v3, f_M_isCap dp wd za (nI l) (nI k) = some v3 := by
    rcases t_isCap g hl hk with ⟨-, e⟩ | ⟨-, e⟩ <;> exact ⟨_, e⟩
  rw [h3, q_b1_s]
  exact Ok.weak (r_m_child (N := N) g (by omega) hlt ht hk d1 d2 d3 hi v3 h3) (fun r hr => l_relY ⟨z, hw, hi⟩ hsp hr)
end S7A
