/-! the reference's steps: no stop -/
section MS
variable {R C H V : Nat → Nat} {cr cq dp wd za : Nat → Int32} {N l tot : Nat}
theorem s_steps_L74 {A : Nat → Nat → Prop} (ht : tot ≤ 20000) {key F M dk : Nat} {x : Int32} (hk : key < tot) (hx : M ≠ 0 → x = nI F) (hF : F + M ≤ tot) (hA : ∀ j, j < M → A key (F + j)) : ∀ n i e (f qu : Nat → Int32), i ≤ M → M - i < n → z_bfs A tot f qu e → f key = nI dk → dk < e →
    Ok (f_M_laysSteps_L74 (nI key) x (nI M) n (nI i) f qu (nI e)) (fun y => ∃ e2, y.2.2 = nI e2 ∧ z_bfs A tot y.1 y.2.1 e2 ∧ e ≤ e2 ∧ y.1 key = nI dk) := by
  intro n
  induction n with
  | zero => intro i e f qu _ h; omega
  | succ n ih =>
    intro i e f qu hi hn hb hf hd
    have he := z_cnt_le f tot
    rw [hb.1] at he
    rw [f_M_laysSteps_L74]
    refine Ok.ite (fun _ => Ok.ret ⟨e, rfl, hb, Nat.le_refl e, hf⟩) (fun hc => ?_)
    rw [nI_leI (by omega) (by omega)] at hc
    have hx' := hx (by omega)
    subst hx'
    rw [z_ai (by omega) (by omega), hf, nI_1, nI_add]
    refine Ok.b3 (s_meets ht hb (k := F + i) (by omega) (d := dk + 1) (by omega) (Or.inr ⟨key, hk, hA i (by omega), by rw [hf]; rfl⟩)) (fun f2 q2 v h => ?_)
    obtain ⟨e2, h1, h2, h3, -, h5⟩ := h
    dsimp only at h1 h2 h5
    subst h1
    rw [z_nm, nI_1]
    refine Ok.weak (ih (i + 1) e2 f2 q2 (by omega) (by omega) h2 (by rw [h5 key (by rw [hf]; exact z_nIm1 (by omega))]; exact hf) (by omega)) (fun y hy => ?_)
    obtain ⟨e3, y1, y2, y3, y4⟩ := hy
    exact ⟨e3, y1, y2, by omega, y4⟩
theorem s_steps_L56 (g : MOK R C H V cr cq dp wd za) (hN : 1000000 ≤ N) (hl : l < 5) (ht : tot = 2130 * (H l * V l) + 2) (ht2 : tot ≤ 20000) {key dk : Nat} (hk : key < tot) : ∀ n i e (a b : Int32) (f qu : Nat → Int32), i ≤ 4 → 4 - i < n → z_bfs (z_adj (H l) (V l)) tot f qu e → f key = nI dk → dk < e →
    Ok (f_M_laysSteps_L56 N dp wd za (nI l) (nI key) n (nI i) a b f qu (nI e)) (fun y => ∃ e2, y.2.2.2.2 = nI e2 ∧ z_bfs (z_adj (H l) (V l)) tot y.2.2.1 y.2.2.2.1 e2 ∧ e ≤ e2) := by
  intro n
  induction n with
  | zero => intro i e a b f qu _ h; omega
  | succ n ih =>
    intro i e a b f qu hi hn hb hf hd
    rw [f_M_laysSteps_L56]
    refine Ok.ite (fun _ => Ok.ret ⟨e, rfl, hb, Nat.le_refl e⟩) (fun hc => ?_)
    rw [z_i 4, nI_leI (by omega) (by omega)] at hc
    refine Ok.b2 (s_lays g (by omega) hl (k := key) (by omega) a b (i := i) (by omega)) (fun x1 x2 hx => ?_)
    obtain ⟨F, M, y1, y2, y3, y4, y5⟩ := hx
    dsimp only at y1 y2
    subst y1
    rw [z_nm]
    refine Ok.b3 (s_steps_L74 (A := z_adj (H l) (V l)) ht2 hk y2 (by omega) y5 N 0 e f qu (by omega) (by omega) hb hf hd) (fun f2 q2 v h => ?_)
    obtain ⟨e2, h1, h2, h3, h4⟩ := h
    dsimp only at h1 h2 h4
    subst h1
    rw [z_nm, nI_1]
    refine Ok.weak (ih (i + 1) e2 _ _ f2 q2 (by omega) (by omega) h2 h4 (by omega)) (fun y hy => ?_)
    obtain ⟨e3, z1, z2, z3⟩ := hy
    exact ⟨e3, z1, z2, by omega⟩
theorem s_steps_L37 (g : MOK R C H V cr cq dp wd za) (hN : 1000000 ≤ N) (hl : l < 5) (ht : tot = 2130 * (H l * V l) + 2) (ht2 : tot ≤ 20000) : ∀ n i e (a b : Int32) (f qu : Nat → Int32), i ≤ tot → tot - i < n → z_bfs (z_adj (H l) (V l)) tot f qu e →
    Ok (f_M_laysSteps_L37 N dp wd za (nI l) n (nI i) a b f qu (nI e)) (fun y => ∃ e2, z_bfs (z_adj (H l) (V l)) tot y.2.2.1 y.2.2.2.1 e2) := by
  intro n
  induction n with
  | zero => intro i e a b f qu _ h; omega
  | succ n ih =>
    intro i e a b f qu hi hn hb
    have he := z_cnt_le f tot
    rw [hb.1] at he
    rw [f_M_laysSteps_L37]
    refine Ok.ite (fun _ => Ok.ret ⟨e, hb⟩) (fun hc => ?_)
    rw [nI_leI (by omega) (by omega)] at hc
    obtain ⟨key, k1, k2, k3⟩ := hb.2.1 i (by omega)
    obtain ⟨dk, d1, d2⟩ : ∃ d, d < e ∧ f key = nI d := by
      rcases hb.2.2.1 key k1 with z | z
      · exact absurd z k3
      · exact z
    rw [z_ai (by omega) (by omega), k2, z_nm]
    refine Ok.b5 (s_steps_L56 g hN hl ht ht2 k1 N 0 e a b f qu (by omega) (by omega) hb d2 d1) (fun x1 x2 f2 q2 v h => ?_)
    obtain ⟨e2, h1, h2, h3⟩ := h
    dsimp only at h1 h2
    subst h1
    rw [z_nm, nI_1]
    exact ih (i + 1) e2 _ _ f2 q2 (by omega) (by omega) h2
theorem s_steps_L2 (g : MOK R C H V cr cq dp wd za) (hl : l < 5) (ht : tot = 2130 * (H l * V l) + 2) (ht2 : tot ≤ 20000) : ∀ n i (f : Nat → Int32), i ≤ tot → tot - i < n → (∀ j, j < i → f j = -1) → Ok (f_M_laysSteps_L2 dp wd za (nI l) n (nI i) f) (fun f2 => ∀ j, j < tot → f2 j = -1) := by
  intro n
  induction n with
  | zero => intro i f _ h; omega
  | succ n ih =>
    intro i f hi hn hf
    rw [f_M_laysSteps_L2, m_sheets g hl, q_b1_s, ← ht]
    refine Ok.ite (fun hc => Ok.ret ?_) (fun hc => ?_)
    · rw [nI_leI (by omega) (by omega)] at hc
      exact fun j hj => hf j (by omega)
    · rw [nI_leI (by omega) (by omega)] at hc
      refine Ok.asn (by omega) (by decide) (Ok.nm ?_)
      rw [nI_1]
      refine ih (i + 1) _ (by omega) (by omega) (fun j hj => ?_)
      by_cases e : j = i
      · subst e; exact z_updS
      · rw [z_updN e]; exact hf j (by omega)
theorem s_laysSteps (g : MOK R C H V cr cq dp wd za) (hN : 1000000 ≤ N) (hl : l < 5) (ht : tot = 2130 * (H l * V l) + 2) (ht2 : tot ≤ 20000) {k : Nat} (hk : k < tot) (a b : Int32) (f qu : Nat → Int32) (m : Int32) : Ok (f_M_laysSteps N dp wd za a b f qu m (nI l) (nI k)) (fun y => ∃ e2, z_bfs (z_adj (H l) (V l)) tot y.2.2.1 y.2.2.2.1 e2) := by
  unfold f_M_laysSteps
  rw [z_nm]
  refine Ok.b1 (s_steps_L2 g hl ht ht2 N 0 f (by omega) (by omega) (fun j hj => by omega)) (fun f4 h4 => ?_)
  have h0 : z_bfs (z_adj (H l) (V l)) tot f4 qu 0 := by
    refine ⟨z_cnt_none tot h4, fun j hj => by omega, fun q hq => Or.inl (h4 q hq), fun q hq d hd hf => ?_⟩
    rw [h4 q hq] at hf
    exact absurd hf.symm (z_nIm1 hd)
  refine Ok.b3 (s_meets ht2 h0 hk (d := 0) (by omega) (Or.inl rfl)) (fun f5 q6 v7 h => ?_)
  obtain ⟨e2, h1, h2, -⟩ := h
  dsimp only at h1 h2
  subst h1
  rw [z_nm]
  exact Ok.b5 (s_steps_L37 g hN hl ht ht2 N 0 e2 a b f5 q6 (by omega) (by omega) h2) (fun _ _ _ _ _ h => Ok.ret h)
end MS
