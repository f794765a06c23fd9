/-! answers: between -/
section S14A
variable {R C H V : Nat → Nat} {rc cc br zc rw sh cr cq dp wd za : Nat → Int32} {sv : l_T} {N l t : Nat}
theorem z_toInat {n : Nat} (h : n < 2 ^ 31) : (nI n).toInt = (n : Int) := nI_toInt h
theorem z_32I {z : Int} (h1 : -2147483648 ≤ z) (h2 : z ≤ 2147483647) : (Int64.ofInt z).toInt32.toInt = z := by
  rw [Int64.toInt_toInt32, Int64.toInt_ofInt_of_le (by omega) (by omega), fb_bmod (by omega) (by omega)]
theorem z_mdl_lat (g : CUT R C H V) (hl : l < 5) {ro pl : Nat} (hr : ro ≤ 44 * H l + 1) : -324000 ≤ (z_mdl H V l ro pl 0).toInt ∧ (z_mdl H V l ro pl 0).toInt ≤ 324000 := by
  have hv := g.hv hl
  have hps := g.pos l hl
  by_cases hc : ro = 0 ∨ ro = 44 * H l + 1
  · rw [z_mdlC0 hc]
    split <;> decide
  · rw [z_mdlN hc]
    show -324000 ≤ (Int64.ofInt ((z_eT H l ro pl 0 + z_eT H l ro pl 1) / (2 * (z_eB H V l ro 0 : Int)))).toInt32.toInt ∧ (Int64.ofInt ((z_eT H l ro pl 0 + z_eT H l ro pl 1) / (2 * (z_eB H V l ro 0 : Int)))).toInt32.toInt ≤ 324000
    rw [z_eT0, if_neg (show ¬ ro = 0 by omega), if_neg (show ¬ ro = 44 * H l + 1 by omega), z_eT1, if_neg (show ¬ ro = 0 by omega), if_neg (show ¬ ro = 44 * H l + 1 by omega), z_eBlo (show 0 < 2 by omega), if_neg hc]
    have q1 : -316800 ≤ (14400 * (22 * (H l : Int) - ro) + (14400 * (22 * (H l : Int) - ro) + 14400)) / (2 * (H l : Int)) := (Int.le_ediv_iff_mul_le (by omega)).mpr (by omega)
    have q2 : (14400 * (22 * (H l : Int) - ro) + (14400 * (22 * (H l : Int) - ro) + 14400)) / (2 * (H l : Int)) < 316800 := (Int.ediv_lt_iff_lt_mul (by omega)).mpr (by omega)
    generalize (14400 * (22 * (H l : Int) - ro) + (14400 * (22 * (H l : Int) - ro) + 14400)) / (2 * (H l : Int)) = X at q1 q2
    rw [z_32I (by omega) (by omega)]
    omega
theorem z_mdl_lon (g : CUT R C H V) (hl : l < 5) {ro pl : Nat} (hr : ro ≤ 44 * H l + 1) (hp : pl < z_rl (H l) (V l) ro) : ∃ x, x < 1296000 ∧ z_mdl H V l ro pl 1 = nI x := by
  by_cases hc : ro = 0 ∨ ro = 44 * H l + 1
  · exact ⟨0, by omega, (z_mdlC1 hc).trans rfl⟩
  · rw [z_mdlN hc]
    show ∃ x, x < 1296000 ∧ (Int64.ofInt ((z_eT H l ro pl 2 + z_eT H l ro pl 3) / (2 * (z_eB H V l ro 2 : Int)))).toInt32 = nI x
    rw [z_eT2, z_eT3, z_eBhi (show ¬ 2 < 2 by omega)]
    have q1 : 0 ≤ (1296000 * (pl : Int) + (1296000 * (pl : Int) + 1296000)) / (2 * (z_rl (H l) (V l) ro : Int)) := Int.ediv_nonneg (by omega) (by omega)
    have q2 : (1296000 * (pl : Int) + (1296000 * (pl : Int) + 1296000)) / (2 * (z_rl (H l) (V l) ro : Int)) < 1296000 := (Int.ediv_lt_iff_lt_mul (by omega)).mpr (by omega)
    generalize (1296000 * (pl : Int) + (1296000 * (pl : Int) + 1296000)) / (2 * (z_rl (H l) (V l) ro : Int)) = X at q1 q2
    refine ⟨X.toNat, by omega, ?_⟩
    apply Int32.toInt_inj.mp
    rw [z_32I (by omega) (by omega), z_toInat (by omega)]
    omega
/-- the lower, the upper of two -/
def z_lo2 (a b : Int32) : Int := if b.toInt < a.toInt then b.toInt else a.toInt
def z_hi2 (a b : Int32) : Int := if a.toInt < b.toInt then b.toInt else a.toInt
theorem z_lo2I {a b : Int32} : (if b < a then b else a : Int32).toInt = z_lo2 a b := by
  unfold z_lo2
  by_cases c : b < a
  · rw [if_pos c, if_pos (z_lt.mp c)]
  · rw [if_neg c, if_neg (fun z => c (z_lt.mpr z))]
theorem z_hi2I {a b : Int32} : (if a < b then b else a : Int32).toInt = z_hi2 a b := by
  unfold z_hi2
  by_cases c : a < b
  · rw [if_pos c, if_pos (z_lt.mp c)]
  · rw [if_neg c, if_neg (fun z => c (z_lt.mpr z))]
theorem z_lo2B {a b : Int32} (h1 : -324000 ≤ a.toInt ∧ a.toInt ≤ 324000) (h2 : -324000 ≤ b.toInt ∧ b.toInt ≤ 324000) : -324000 ≤ z_lo2 a b ∧ z_lo2 a b ≤ 324000 ∧ -324000 ≤ z_hi2 a b ∧ z_hi2 a b ≤ 324000 ∧ z_lo2 a b ≤ z_hi2 a b := by
  unfold z_lo2 z_hi2
  split <;> split <;> omega
def l_Fbetween (sv : l_T) (s : (Nat × Nat × Nat × Nat) × (Nat × Nat × Nat × Nat)) : Int32 := nI (z_boxN (z_pr (l_R sv) s.1.1) (z_pr (l_C sv) s.1.1) (z_lo2 (z_mdl (z_pr (l_R sv)) (z_pr (l_C sv)) s.1.1 s.1.2.2.1 s.1.2.2.2 0) (z_mdl (z_pr (l_R sv)) (z_pr (l_C sv)) s.1.1 s.2.2.2.1 s.2.2.2.2 0)) (z_hi2 (z_mdl (z_pr (l_R sv)) (z_pr (l_C sv)) s.1.1 s.1.2.2.1 s.1.2.2.2 0) (z_mdl (z_pr (l_R sv)) (z_pr (l_C sv)) s.1.1 s.2.2.2.1 s.2.2.2.2 0)) (z_mdl (z_pr (l_R sv)) (z_pr (l_C sv)) s.1.1 s.1.2.2.1 s.1.2.2.2 1).toInt.toNat (z_mdl (z_pr (l_R sv)) (z_pr (l_C sv)) s.1.1 s.2.2.2.1 s.2.2.2.2 1).toInt.toNat)
def l_abetween (sv : l_T) (p q w r : Int32) : Prop := l_rel (l_hs sv p q ∧ l_hs sv p w) (-1) (l_Sbands sv p q w) (l_Fbetween sv) r
theorem l_abetween_one {p q w r r' : Int32} (h : l_ok sv) (h1 : l_abetween sv p q w r) (h2 : l_abetween sv p q w r') : r = r' := l_rel_one (l_S2_one h) h1 h2
theorem z_tn {x : Nat} (h : x < 1296000) : (nI x).toInt.toNat = x := by rw [z_toInat (by omega)]; rfl
theorem a_x_between (g : GOK (l_R sv) (l_C sv) (z_pr (l_R sv)) (z_pr (l_C sv)) rc cc br zc rw sh) (hN : 1000000 ≤ N) (a1 a2 a3 a4 a5 a6 b1 b2 b3 b4 p q w : Int32) : Ok (f_X_between N a1 a2 a3 a4 a5 a6 b1 b2 b3 b4 br zc rw sh p q w) (fun x => l_abetween sv p q w x.1) := by
  unfold f_X_between
  refine Ok.b1 (r_areSheets g p q w) (fun v1 h1 => ?_)
  rcases h1 with ⟨z, rfl⟩ | ⟨z, rfl⟩
  rotate_left
  · exact Ok.ite (fun _ => Ok.ret (l_relN z)) (fun c => absurd rfl c)
  refine Ok.ite (fun c => absurd c (by decide)) (fun _ => ?_)
  have z' := z
  obtain ⟨l, k, k2, hl, rfl, rfl, rfl, hk, hk2⟩ := l_two g.2 z'.1 z'.2
  have hs := g.2.sh hl
  obtain ⟨ro, pl, e, d1, d2, d3⟩ := k_put (N := N) g (by omega) hl hk a1 a2 a3 a4 a5 a6
  obtain ⟨ro2, pl2, e2, f1, f2, f3⟩ := k_put (N := N) g (by omega) hl hk2 (nI l) (nI ro) (nI (z_rs (z_pr (l_R sv) l) (z_pr (l_C sv) l) ro)) (nI pl) (nI (z_rl (z_pr (l_R sv) l) (z_pr (l_C sv) l) ro)) (z_cap (z_pr (l_R sv) l) ro)
  have hsp : l_Sbands sv (nI l) (nI k) (nI k2) ((l, k, ro, pl), (l, k2, ro2, pl2)) := ⟨⟨⟨hl, (show k < 20000000 by omega), d1, d2, d3⟩, rfl, rfl⟩, ⟨⟨hl, (show k2 < 20000000 by omega), f1, f2, f3⟩, rfl, rfl⟩⟩
  rw [e, q_b6_s, r_middleLat g hl d1 d2, q_b1_s, r_middleLon g hl d1 d2, q_b1_s, e2, q_b6_s, r_middleLat g hl f1 f2, q_b1_s, z_nm, z_nm, r_middleLon g hl f1 f2, q_b1_s]
  have m1 := z_mdl_lat g.2 hl (ro := ro) (pl := pl) d1
  have m2 := z_mdl_lat g.2 hl (ro := ro2) (pl := pl2) f1
  obtain ⟨x, hx, ex⟩ := z_mdl_lon g.2 hl d1 d2
  obtain ⟨y, hy, ey⟩ := z_mdl_lon g.2 hl f1 f2
  have fin : l_Fbetween sv ((l, k, ro, pl), (l, k2, ro2, pl2)) = nI (z_boxN (z_pr (l_R sv) l) (z_pr (l_C sv) l) (z_lo2 (z_mdl (z_pr (l_R sv)) (z_pr (l_C sv)) l ro pl 0) (z_mdl (z_pr (l_R sv)) (z_pr (l_C sv)) l ro2 pl2 0)) (z_hi2 (z_mdl (z_pr (l_R sv)) (z_pr (l_C sv)) l ro pl 0) (z_mdl (z_pr (l_R sv)) (z_pr (l_C sv)) l ro2 pl2 0)) x y) := by
    unfold l_Fbetween
    dsimp only
    rw [ex, ey, z_tn hx, z_tn hy]
  rw [ex, ey]
  generalize z_mdl (z_pr (l_R sv)) (z_pr (l_C sv)) l ro pl 0 = ma at m1 fin ⊢
  generalize z_mdl (z_pr (l_R sv)) (z_pr (l_C sv)) l ro2 pl2 0 = mb at m2 fin ⊢
  have bb := z_lo2B m1 m2
  unfold f_Box_set
  rw [q_b4_s, r_sheetsAt g hN hl (by rw [z_lo2I]; exact bb.1) (by rw [z_lo2I]; exact bb.2.1) (by rw [z_hi2I]; exact bb.2.2.1) (by rw [z_hi2I]; exact bb.2.2.2.1) (by rw [z_lo2I, z_hi2I]; exact bb.2.2.2.2) hx hy, q_b1_s, z_lo2I, z_hi2I]
  exact Ok.ret (l_relY z hsp fin.symm)
theorem a_m_between (g : MOK (l_R sv) (l_C sv) (z_pr (l_R sv)) (z_pr (l_C sv)) cr cq dp wd za) (hN : 1000000 ≤ N) (bl bo : Int64) (ed : Nat → Int64) (x1 x2 x3 x4 x5 p q w : Int32) : Ok (f_M_between N dp wd za bl bo ed x1 x2 x3 x4 x5 p q w) (fun x => l_abetween sv p q w x.1) := by
  unfold f_M_between
  refine Ok.b1 (r_isKey g p q) (fun v1 h1 => ?_)
  rcases h1 with ⟨z1, rfl⟩ | ⟨z, rfl⟩
  rotate_left
  · exact Ok.ite (fun _ => Ok.ret (l_relN (fun u => z u.1))) (fun c => absurd rfl c)
  refine Ok.ite (fun c => absurd c (by decide)) (fun _ => Ok.b1 (r_isKey g p w) (fun v1 h1 => ?_))
  rcases h1 with ⟨z2, rfl⟩ | ⟨z, rfl⟩
  rotate_left
  · exact Ok.ite (fun _ => Ok.ret (l_relN (fun u => z u.2))) (fun c => absurd rfl c)
  refine Ok.ite (fun c => absurd c (by decide)) (fun _ => ?_)
  have z1' := z1
  have z2' := z2
  obtain ⟨l, k, k2, hl, rfl, rfl, rfl, hk, hk2⟩ := l_two g.2.2 z1' z2'
  have hs := g.2.2.sh hl
  have hps := g.2.2.pos l hl
  obtain ⟨ro, pl, d1, d2, d3, -, -⟩ := t_spot (N := N) g (by omega) hl hk
  obtain ⟨ro2, pl2, f1, f2, f3, -, -⟩ := t_spot (N := N) g (by omega) hl hk2
  have hsp : l_Sbands sv (nI l) (nI k) (nI k2) ((l, k, ro, pl), (l, k2, ro2, pl2)) := ⟨⟨⟨hl, (show k < 20000000 by omega), d1, d2, d3⟩, rfl, rfl⟩, ⟨⟨hl, (show k2 < 20000000 by omega), f1, f2, f3⟩, rfl, rfl⟩⟩
  have m1 := z_mdl_lat g.2.2 hl (ro := ro) (pl := pl) d1
  have m2 := z_mdl_lat g.2.2 hl (ro := ro2) (pl := pl2) f1
  obtain ⟨x, hx, ex⟩ := z_mdl_lon g.2.2 hl d1 d2
  obtain ⟨y, hy, ey⟩ := z_mdl_lon g.2.2 hl f1 f2
  have fin : l_Fbetween sv ((l, k, ro, pl), (l, k2, ro2, pl2)) = nI (z_boxN (z_pr (l_R sv) l) (z_pr (l_C sv) l) (z_lo2 (z_mdl (z_pr (l_R sv)) (z_pr (l_C sv)) l ro pl 0) (z_mdl (z_pr (l_R sv)) (z_pr (l_C sv)) l ro2 pl2 0)) (z_hi2 (z_mdl (z_pr (l_R sv)) (z_pr (l_C sv)) l ro pl 0) (z_mdl (z_pr (l_R sv)) (z_pr (l_C sv)) l ro2 pl2 0)) x y) := by
    unfold l_Fbetween
    dsimp only
    rw [ex, ey, z_tn hx, z_tn hy]
  refine Ok.b9 (Q := fun y => y.1 = l_Fbetween sv ((l, k, ro, pl), (l, k2, ro2, pl2))) ?_ (fun v3 v4 v5 f6 v7 v8 v9 v10 v11 h => Ok.ret (l_relY ⟨z1, z2⟩ hsp h))
  unfold f_M_betweenOf
  refine Ok.b4 (r_middleOf (N := N) g (by omega) hl hk d1 d2 d3 (w := 0) (by omega) bl bo ed) (fun u1 u2 u3 g4 h1 => Ok.b4 (r_middleOf (N := N) g (by omega) hl hk2 f1 f2 f3 (w := 0) (by omega) u2 u3 g4) (fun u5 u6 u7 g8 h5 => ?_))
  dsimp only at h1 h5
  rw [← h1] at m1
  rw [← h5] at m2
  rw [← h1, ← h5] at fin
  have bb := z_lo2B m1 m2
  refine Ok.k1 (fun v => v.toInt = z_lo2 u1 u5) (fun y => y.1 = l_Fbetween sv ((l, k, ro, pl), (l, k2, ro2, pl2))) (fun v9 h9 => ?_) (fun K hK => Ok.ite (fun c => hK _ ?_) (fun c => hK _ ?_))
  rotate_left
  · have := z_le.mp c
    unfold z_lo2
    split <;> omega
  · have : ¬ u5.toInt ≤ u1.toInt := fun z => c (z_le.mpr z)
    unfold z_lo2
    rw [if_neg (by omega)]
  refine Ok.k1 (fun v => v.toInt = z_hi2 u1 u5) (fun y => y.1 = l_Fbetween sv ((l, k, ro, pl), (l, k2, ro2, pl2))) (fun v10 h10 => ?_) (fun K hK => Ok.ite (fun c => hK _ ?_) (fun c => hK _ ?_))
  rotate_left
  · have := z_le.mp c
    unfold z_hi2
    rw [if_neg (by omega)]
  · have : ¬ u5.toInt ≤ u1.toInt := fun z => c (z_le.mpr z)
    unfold z_hi2
    rw [if_pos (by omega)]
  refine Ok.b4 (r_middleOf (N := N) g (by omega) hl hk d1 d2 d3 (w := 1) (by omega) u6 u7 g8) (fun u11 u12 u13 g14 h11 => Ok.b4 (r_middleOf (N := N) g (by omega) hl hk2 f1 f2 f3 (w := 1) (by omega) u12 u13 g14) (fun u15 u16 u17 g18 h15 => ?_))
  dsimp only at h11 h15
  rw [h11, h15, ex, ey, r_laysBox g hl, q_b5_s, h9, h10]
  have htb := z_lat_mono hps.1 bb.2.2.2.2
  have hbt := z_rowLat_le hps.1 (z_lo2 u1 u5)
  rw [r_boxAll g hN hl htb hbt hx hy, q_b1_s]
  refine Ok.ret ?_
  rw [fin]
  rfl
end S14A
