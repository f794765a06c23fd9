/-! nearer, way, reach, farthest, steps of the reference -/
section MW
variable {R C H V : Nat → Nat} {cr cq dp wd za : Nat → Int32} {N l tot : Nat}
theorem z_side_b {H0 V0 k i F M : Nat} (hH : 1 ≤ H0) (hV : 1 ≤ V0) (h : z_side H0 V0 k i F M) : M ≠ 0 → F + M ≤ 2130 * (H0 * V0) + 2 := by
  intro hM
  obtain ⟨r, p, hr, hp, -, hc⟩ := h
  have la := z_rl_pos hH hV hr
  have hre := z_rs_end (V := V0) hH hr
  rcases hc with ⟨-, b, hb, -, b3, b4⟩ | ⟨-, b2⟩ | ⟨-, b2⟩
  · have lb := z_rl_pos hH hV hb
    have hbe := z_rs_end (V := V0) hH hb
    have hd3 : ((p + 1) * z_rl H0 V0 b + z_rl H0 V0 r - 1) / z_rl H0 V0 r ≤ z_rl H0 V0 b := by
      have m1 : (p + 1) * z_rl H0 V0 b ≤ z_rl H0 V0 r * z_rl H0 V0 b := Nat.mul_le_mul_right _ (by omega)
      rw [Nat.div_le_iff_le_mul_add_pred (by omega)]; omega
    have hd2 : p * z_rl H0 V0 b / z_rl H0 V0 r ≤ ((p + 1) * z_rl H0 V0 b + z_rl H0 V0 r - 1) / z_rl H0 V0 r := Nat.div_le_div_right (by rw [Nat.add_mul, Nat.one_mul]; omega)
    omega
  · omega
  · rcases b2 with ⟨-, c⟩ | ⟨-, c2, c3⟩
    · omega
    · have hm := Nat.mod_lt (p + (if i = 1 then 1 else z_rl H0 V0 r - 1)) (show 0 < z_rl H0 V0 r by omega)
      omega
theorem s_near_L22 (ht : tot ≤ 20000) {f : Nat → Int32} {key F M : Nat} {x : Int32} (hk : key < tot) (hx : M ≠ 0 → x = nI F) (hF : M ≠ 0 → F + M ≤ tot) : ∀ n i (v : Int32), i ≤ M → M - i < n → (v = -1 ∨ ∃ q, q < tot ∧ v = nI q ∧ f q = f key - 1) →
    Ok (f_M_nearer_L22 f (nI key) x (nI M) n v (nI i)) (fun y => (y = -1 ∨ ∃ q, q < tot ∧ y = nI q ∧ f q = f key - 1) ∧ (v ≠ -1 → y ≠ -1) ∧ ∀ j, i ≤ j → j < M → f (F + j) = f key - 1 → y ≠ -1) := by
  by_cases hM : M = 0
  · subst hM
    intro n i v hi hn hv
    obtain ⟨n, rfl⟩ : ∃ k, n = k + 1 := ⟨n - 1, by omega⟩
    have : i = 0 := by omega
    subst this
    rw [f_M_nearer_L22, if_pos (by decide)]
    exact Ok.ret ⟨hv, fun h => h, fun j _ h => by omega⟩
  have hF := hF hM
  have hx := hx hM
  subst hx
  intro n
  induction n with
  | zero => intro i v _ h; omega
  | succ n ih =>
    intro i v hi hn hv
    have hMb : M ≤ 20000 := by omega
    rw [f_M_nearer_L22]
    refine Ok.ite (fun hc => Ok.ret ⟨hv, fun h => h, fun j h1 h2 => ?_⟩) (fun hc => ?_)
    · rw [nI_leI (by omega) (by omega)] at hc; omega
    · rw [nI_leI (by omega) (by omega)] at hc
      rw [nI_add, z_nm, z_ai (by omega) (by omega), z_ai (by omega) (by omega), nI_1, z_j1]
      dsimp only
      have hnew : (nI (F + i) : Int32) ≠ -1 := z_nIm1 (by omega)
      by_cases hg : f (F + i) = f key - 1
      · have hK1 : Ok (q_nm (nI (i + 1) : Int32) (fun (v21 : Int32) => f_M_nearer_L22 f (nI key) (nI F) (nI M) n (nI (F + i)) v21)) (fun y => (y = -1 ∨ ∃ q, q < tot ∧ y = nI q ∧ f q = f key - 1) ∧ (v ≠ -1 → y ≠ -1) ∧ ∀ j, i ≤ j → j < M → f (F + j) = f key - 1 → y ≠ -1) := by
          rw [z_nm]
          refine Ok.weak (ih (i + 1) (nI (F + i)) (by omega) (by omega) (Or.inr ⟨F + i, by omega, rfl, hg⟩)) (fun y hy => ⟨hy.1, fun _ => hy.2.1 hnew, fun j _ _ _ => hy.2.1 hnew⟩)
        rw [if_pos hg, z_j0]
        refine Ok.ite (fun _ => hK1) (fun hv1 => Ok.ite (fun _ => ?_) (fun _ => hK1))
        rw [z_nm]
        exact Ok.weak (ih (i + 1) v (by omega) (by omega) hv) (fun y hy => ⟨hy.1, hy.2.1, fun j _ _ _ => hy.2.1 hv1⟩)
      · rw [if_neg hg, z_nm]
        refine Ok.weak (ih (i + 1) v (by omega) (by omega) hv) (fun y hy => ⟨hy.1, hy.2.1, fun j h1 h2 h3 => ?_⟩)
        by_cases e : j = i
        · subst e; exact absurd h3 hg
        · exact hy.2.2 j (by omega) h2 h3
theorem s_near_L5 (g : MOK R C H V cr cq dp wd za) (hN : 1000000 ≤ N) (hl : l < 5) (ht : tot = 2130 * (H l * V l) + 2) (ht2 : tot ≤ 20000) {f : Nat → Int32} {key : Nat} (hk : key < tot) : ∀ n i (v a b : Int32), i ≤ 4 → 4 - i < n → (v = -1 ∨ ∃ q, q < tot ∧ v = nI q ∧ f q = f key - 1) →
    Ok (f_M_nearer_L5 N dp f wd za (nI l) (nI key) n v (nI i) a b) (fun y => (y.1 = -1 ∨ ∃ q, q < tot ∧ y.1 = nI q ∧ f q = f key - 1) ∧ (v ≠ -1 → y.1 ≠ -1) ∧ ∀ i2, i ≤ i2 → i2 < 4 → ∀ k2, (∀ F M, z_side (H l) (V l) key i2 F M → F ≤ k2 ∧ k2 < F + M) → f k2 = f key - 1 → y.1 ≠ -1) := by
  have hp := g.2.2.pos l hl
  intro n
  induction n with
  | zero => intro i v a b _ h; omega
  | succ n ih =>
    intro i v a b hi hn hv
    rw [f_M_nearer_L5]
    refine Ok.ite (fun hc => Ok.ret ⟨hv, fun h => h, fun i2 h1 h2 => ?_⟩) (fun hc => ?_)
    · rw [z_i 4, nI_leI (by omega) (by omega)] at hc; omega
    · rw [z_i 4, nI_leI (by omega) (by omega)] at hc
      refine Ok.b2 (s_sides g (by omega) hl (k := key) (by omega) a b (i := i) (by omega)) (fun x1 x2 hx => ?_)
      obtain ⟨F, M, y1, y2, y3⟩ := hx
      dsimp only at y1 y2
      subst y1
      have hb := z_side_b hp.1 hp.2 y3
      have hMb : M ≤ 20000 := by
        rcases Nat.eq_zero_or_pos M with z | z
        · omega
        · have := hb (by omega); omega
      rw [z_nm]
      refine Ok.b1 (s_near_L22 ht2 hk y2 (fun h => by have := hb h; omega) N 0 v (by omega) (by omega) hv) (fun w hw => ?_)
      rw [z_nm, nI_1]
      refine Ok.weak (ih (i + 1) w x1 (nI M) (by omega) (by omega) hw.1) (fun y hy => ⟨hy.1, fun h => hy.2.1 (hw.2.1 h), fun i2 h1 h2 k2 h3 h4 => ?_⟩)
      by_cases e : i2 = i
      · subst e
        have h5 := h3 F M y3
        refine hy.2.1 (hw.2.2 (k2 - F) (by omega) (by omega) ?_)
        rw [show F + (k2 - F) = k2 by omega]; exact h4
      · exact hy.2.2 i2 (by omega) h2 k2 h3 h4
theorem s_nearer (g : MOK R C H V cr cq dp wd za) (hN : 1000000 ≤ N) (hl : l < 5) (ht : tot = 2130 * (H l * V l) + 2) (ht2 : tot ≤ 20000) {f qu : Nat → Int32} {e : Nat} (hb : z_bfs (z_adj (H l) (V l)) tot f qu e) {key d : Nat} (hk : key < tot) (hd : d + 1 < 2 ^ 31) (hf : f key = nI (d + 1)) (a b : Int32) : Ok (f_M_nearer N dp wd za a b f (nI l) (nI key)) (fun y => ∃ q, q < tot ∧ y.1 = nI q ∧ f q = nI d) := by
  have hp := g.2.2.pos l hl
  unfold f_M_nearer
  rw [z_nm, z_nm]
  refine Ok.b3 (s_near_L5 g hN hl ht ht2 hk N 0 (-1) a b (by omega) (by omega) (Or.inl rfl)) (fun y1 y2 y3 hy => Ok.ret ?_)
  obtain ⟨k2, h1, h2, h3⟩ := hb.2.2.2 key hk d hd hf
  obtain ⟨i, hi, hs⟩ := z_adj_side hp.1 hp.2 (z_adj_symm h2)
  have hdd : f key - 1 = nI d := by rw [hf, z_sub1 (by omega), Nat.add_sub_cancel]
  have hne := hy.2.2 i (by omega) hi k2 hs (by rw [hdd]; exact h3)
  rcases hy.1 with z | ⟨q, q1, q2, q3⟩
  · exact absurd z hne
  · exact ⟨q, q1, q2, by rw [q3, hdd]⟩
end MW
