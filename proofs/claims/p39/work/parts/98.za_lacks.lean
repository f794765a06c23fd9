/-! the reference: what it lacks; counts -/
section ML
variable {R C H V : Nat → Nat} {cr cq dp wd za : Nat → Int32} {N l m : Nat} {pl pk py : Nat → Int32}
theorem t_isPlaceB (x y : Int32) : Ok (f_M_isPlace x y) (fun z => ¬ z = 0 → ∃ o, y = nI o ∧ o < 1296000) := by
  unfold f_M_isPlace
  refine Ok.b1 (t_in _ _ _) (fun _ _ => Ok.ite (fun _ => Ok.ret (fun h => absurd rfl h)) (fun _ => Ok.b1 (t_inN y 0 1295999 (by decide) (by decide)) (fun v2 h2 => Ok.ite (fun _ => Ok.ret (fun h => absurd rfl h)) (fun n2 => Ok.ret (fun _ => ?_)))))
  obtain ⟨o, e, -, h⟩ := h2.2 n2
  exact ⟨o, e, by omega⟩
theorem t_isBoxB (a b c d : Int32) : Ok (f_M_isBox a b c d) (fun z => ¬ z = 0 → (∃ o, c = nI o ∧ o < 1296000) ∧ ∃ o, d = nI o ∧ o < 1296000) := by
  unfold f_M_isBox
  exact Ok.b1 (t_isPlaceB _ _) (fun v1 h1 => Ok.ite (fun _ => Ok.ret (fun h => absurd rfl h)) (fun n1 => Ok.b1 (t_isPlaceB _ _) (fun v2 h2 => Ok.ite (fun _ => Ok.ret (fun h => absurd rfl h)) (fun n2 => Ok.ite (fun _ => Ok.ret (fun h => absurd rfl h)) (fun _ => Ok.ret (fun _ => ⟨h1 n1, h2 n2⟩))))))
theorem m_placeAt {o L : Nat} (ho : o < 1296000) (hL : L ≤ 563400) : f_M_placeAt (nI o) (nI L) = some (nI (o * L / 1296000)) := by
  have h1 : o * L ≤ 1296000 * 563400 := Nat.mul_le_mul (by omega) hL
  unfold f_M_placeAt
  rw [nI_l (by omega), nI_l (by omega), lN_mul, z_l 1296000, z_dvl (by omega) (by omega) (by omega), lN_i]
theorem z_plIn {o L : Nat} (ho : o < 1296000) (hL : 1 ≤ L) : o * L / 1296000 < L := Nat.div_lt_of_lt_mul (Nat.mul_lt_mul_of_lt_of_le ho (Nat.le_refl _) hL)
theorem t_boxManyB (g : MOK R C H V cr cq dp wd za) (hl : l < 5) {w e r : Nat} (hw : w < 1296000) (he : e < 1296000) (hr : r ≤ 44 * H l + 1) : Ok (f_M_boxMany dp wd (nI l) (nI w) (nI e) (nI r)) (fun y => ∃ m, y = nI m ∧ m ≤ 563400) := by
  have hv := g.2.2.hv hl
  have hp := g.2.2.pos l hl
  have hL := z_rl_pos (V := V l) hp.1 hp.2 hr
  have h1 := z_plIn hw hL.1
  have h2 := z_plIn he hL.1
  unfold f_M_boxMany
  rw [m_many g hl hr, q_b1_s, m_placeAt hw (by omega), q_b1_s, m_placeAt he (by omega), q_b1_s]
  refine Ok.ite (fun _ => Ok.ite (fun h => ?_) (fun _ => Ok.ret ⟨_, rfl, by omega⟩)) (fun hwe => ?_)
  · rw [pk_sub (by omega), nI_add, nI_1]
    rw [nI_ltI (by omega) (by omega)] at h
    exact Ok.ret ⟨_, rfl, by omega⟩
  · rw [nI_ltI (by omega) (by omega)] at hwe
    have h3 : w * z_rl (H l) (V l) r / 1296000 ≤ e * z_rl (H l) (V l) r / 1296000 := Nat.div_le_div_right (Nat.mul_le_mul_right _ (by omega))
    rw [pk_sub h3, nI_1]
    exact Ok.ret ⟨_, rfl, by omega⟩
theorem t_lacks_L81 (g : MOK R C H V cr cq dp wd za) (hN : 1000000 ≤ N) (h : z_ps H V pl pk m) (hl : l < 5) {w e r : Nat} (hw : w < 1296000) (he : e < 1296000) (hr : r ≤ 44 * H l + 1) (y i5 a b : Int32) : ∀ n i (v : Int32) (bl bo : Int64) (ed : Nat → Int64), i ≤ 563401 → 563401 - i < n → Ok (f_M_lacks_L81 N dp pk pl py (nI m) wd za (nI l) y i5 (nI r) (nI l) a b (nI w) (nI e) n v (nI i) bl bo ed) (fun _ => True) := by
  have hv := g.2.2.hv hl
  have hp := g.2.2.pos l hl
  have hL := z_rl_pos (V := V l) hp.1 hp.2 hr
  have h1 := z_plIn hw hL.1
  intro n
  induction n with
  | zero => intro i v bl bo ed _ h; omega
  | succ n ih =>
    intro i v bl bo ed hi hn
    rw [f_M_lacks_L81]
    refine Ok.b1 (t_boxManyB g hl hw he hr) (fun v31 h31 => ?_)
    obtain ⟨q, rfl, hq⟩ := h31
    refine Ok.ite (fun _ => Ok.t) (fun hc => ?_)
    rw [nI_leI (by omega) (by omega)] at hc
    have ew : f_M_westOf dp wd (nI l) (nI w) (nI r) = some (nI (w * z_rl (H l) (V l) r / 1296000)) := by
      unfold f_M_westOf
      rw [m_many g hl hr, q_b1_s, m_placeAt hw (by omega), q_b1_s]
    have hm : (w * z_rl (H l) (V l) r / 1296000 + i) % z_rl (H l) (V l) r < z_rl (H l) (V l) r := Nat.mod_lt _ hL.1
    have hend := z_rs_end (V := V l) hp.1 hr
    rw [ew, q_b1_s, m_many g hl hr, q_b1_s, nI_add, z_rm (by omega) (by omega) (by omega), m_keyOf g hl hr hm, q_b1_s]
    refine Ok.b4 (t_isLacking g hN h hl (by omega) bl bo ed y) (fun v36 v37 v38 f39 _ => ?_)
    refine Ok.k1 (fun _ => True) (fun _ => True) (fun v40 _ => ?_) (fun K hK => Ok.ite (fun _ => hK _ trivial) (fun _ => Ok.ite (fun _ => Ok.t) (fun _ => Ok.nm (hK _ trivial))))
    rw [z_nm, nI_1]
    exact ih (i + 1) _ _ _ _ (by omega) (by omega)
theorem t_lacks (g : MOK R C H V cr cq dp wd za) (hN : 1000000 ≤ N) (h : z_ps H V pl pk m) (bl bo : Int64) (ed : Nat → Int64) (x1 x2 x3 x4 x5 a b w e p y i5 : Int32) : Ok (f_M_lacks N dp wd za bl bo ed x1 x2 x3 x4 x5 (nI m) pl pk py a b w e p y i5) (fun _ => True) := by
  unfold f_M_lacks
  refine Ok.b1 (t_isBoxB _ _ _ _) (fun v0 h0 => Ok.ite (fun _ => Ok.t) (fun n0 => Ok.b1 (t_isLevel p) (fun v1 h1 => Ok.ite (fun _ => Ok.t) (fun n1 => Ok.b1 (t_isAnyYear y) (fun _ _ => Ok.ite (fun _ => Ok.t) (fun _ => Ok.ite (fun _ => ?_) (fun _ => Ok.t)))))))
  obtain ⟨l, hl, rfl⟩ := t_level (z_if1 h1 n1)
  obtain ⟨⟨w', rfl, hw⟩, e', rfl, he⟩ := h0 n0
  have hv := g.2.2.hv hl
  refine Ok.b5 (t_laysBox g hl x1 x2 x3 x4 x5 a b _ _) (fun v3 v4 v5 v6 v7 h5 => ?_)
  obtain ⟨r1, r2, h5, a1, a2⟩ := h5
  cases h5
  have L : ∀ n r (v : Int32) (bl bo : Int64) (ed : Nat → Int64), r ≤ 1000000 → r2 + 1 - r < n → Ok (f_M_lacks_L69 N dp pk pl py (nI m) wd za (nI l) y i5 (nI l) (nI r1) (nI r2) (nI w') (nI e') n v (nI r) bl bo ed) (fun _ => True) := by
    intro n
    induction n with
    | zero => intro r v bl bo ed _ h; omega
    | succ n ih =>
      intro r v bl bo ed hr hn
      rw [f_M_lacks_L69]
      refine Ok.ite (fun _ => Ok.t) (fun hc => ?_)
      rw [nI_ltI (by omega) (by omega)] at hc
      refine Ok.nm (Ok.s4 (t_lacks_L81 g hN h hl hw he (r := r) (by omega) y i5 (nI r1) (nI r2) N 0 v bl bo ed (by omega) (by omega)) (fun v26 v27 v28 f29 _ => ?_) (fun _ _ => trivial))
      rw [z_nm, nI_1]
      exact ih (r + 1) _ _ _ _ (by omega) (by omega)
  exact Ok.b1 (t_boxAll g hN hl a1 a2 _ _) (fun _ _ => Ok.ite (fun _ => Ok.nm (Ok.s4 (L N r1 _ bl bo ed (by omega) (by omega)) (fun _ _ _ _ _ => Ok.ite (fun _ => Ok.t) (fun _ => Ok.t)) (fun _ _ => trivial))) (fun _ => Ok.t))
theorem t_count (a b c d e f h p : Int32) : Ok (f_M_count a b c d e f h p) (fun _ => True) := by
  unfold f_M_count
  exact Ok.ite (fun _ => Ok.t) (fun _ => Ok.ite (fun _ => Ok.t) (fun _ => Ok.ite (fun _ => Ok.t) (fun _ => Ok.ite (fun _ => Ok.t) (fun _ => Ok.ite (fun _ => Ok.t) (fun _ => Ok.ite (fun _ => Ok.t) (fun _ => Ok.ite (fun _ => Ok.t) (fun _ => Ok.t)))))))
end ML
