/-! answers: a spot's generic words; around -/
section S6A
variable {rc cc br zc rw sh cr cq dp wd za fl fk fy : Nat → Int32} {sv : l_T} {N l : Nat}
/-- an answer: what is refused, else what a good start gives -/
def l_rel {σ : Type} (C : Prop) (c : Int32) (S : σ → Prop) (f : σ → Int32) (r : Int32) : Prop := (¬ C ∧ r = c) ∨ (C ∧ ∃ s, S s ∧ r = f s)
theorem l_rel_one {σ : Type} {C : Prop} {c : Int32} {S : σ → Prop} {f : σ → Int32} {r r' : Int32} (hS : ∀ s s', S s → S s' → s = s') (h1 : l_rel C c S f r) (h2 : l_rel C c S f r') : r = r' := by
  rcases h1 with ⟨a, b⟩ | ⟨a, s, h, e⟩ <;> rcases h2 with ⟨a', b'⟩ | ⟨a', s', h', e'⟩
  · exact b.trans b'.symm
  · exact absurd a' a
  · exact absurd a a'
  · rw [hS s s' h h'] at e
    exact e.trans e'.symm
theorem l_relN {σ : Type} {C : Prop} {c : Int32} {S : σ → Prop} {f : σ → Int32} (h : ¬ C) : l_rel C c S f c := Or.inl ⟨h, rfl⟩
theorem l_relY {σ : Type} {C : Prop} {c r : Int32} {S : σ → Prop} {f : σ → Int32} (h : C) {s : σ} (hs : S s) (e : r = f s) : l_rel C c S f r := Or.inr ⟨h, s, hs, e⟩
/-- a sheet: level, key, row, place -/
def l_sp (sv : l_T) (p q : Int32) (s : Nat × Nat × Nat × Nat) : Prop := l_spot sv s.1 s.2.1 s.2.2.1 s.2.2.2 ∧ p = nI s.1 ∧ q = nI s.2.1
theorem l_sp_one {p q : Int32} (h : l_ok sv) : ∀ s s' : Nat × Nat × Nat × Nat, l_sp sv p q s → l_sp sv p q s' → s = s' := by
  intro ⟨l, k, ro, pl⟩ ⟨l', k', ro', pl'⟩ ⟨h1, h2, h3⟩ ⟨h1', h2', h3'⟩
  obtain ⟨rfl, rfl, rfl, rfl⟩ := l_spot_one h h1 h1' h2 h2' h3 h3'
  rfl
theorem z_bM0 {H0 V0 r p : Nat} : z_bM H0 V0 r p 0 = if r = 0 then 0 else ((p + 1) * z_rl H0 V0 (r - 1) - 1) / z_rl H0 V0 r - p * z_rl H0 V0 (r - 1) / z_rl H0 V0 r + 1 := if_pos rfl
theorem z_bM2 {H0 V0 r p : Nat} : z_bM H0 V0 r p 2 = if r = 44 * H0 + 1 then 0 else ((p + 1) * z_rl H0 V0 (r + 1) - 1) / z_rl H0 V0 r - p * z_rl H0 V0 (r + 1) / z_rl H0 V0 r + 1 := (if_neg (show ¬ (2 : Nat) = 0 by omega)).trans (if_pos rfl)
theorem z_bM1 {H0 V0 r p : Nat} : z_bM H0 V0 r p 1 = if r = 0 ∨ r = 44 * H0 + 1 then 0 else 1 := (if_neg (show ¬ (1 : Nat) = 0 by omega)).trans (if_neg (show ¬ (1 : Nat) = 2 by omega))
theorem z_bM3 {H0 V0 r p : Nat} : z_bM H0 V0 r p 3 = if r = 0 ∨ r = 44 * H0 + 1 then 0 else 1 := (if_neg (show ¬ (3 : Nat) = 0 by omega)).trans (if_neg (show ¬ (3 : Nat) = 2 by omega))
theorem z_bF0 {H0 V0 r p : Nat} : z_bF H0 V0 r p 0 = z_rs H0 V0 (r - 1) + p * z_rl H0 V0 (r - 1) / z_rl H0 V0 r := if_pos rfl
theorem z_bF2 {H0 V0 r p : Nat} : z_bF H0 V0 r p 2 = z_rs H0 V0 (r + 1) + p * z_rl H0 V0 (r + 1) / z_rl H0 V0 r := (if_neg (show ¬ (2 : Nat) = 0 by omega)).trans (if_pos rfl)
theorem z_bF1 {H0 V0 r p : Nat} : z_bF H0 V0 r p 1 = z_rs H0 V0 r + (p + 1) % z_rl H0 V0 r := (if_neg (show ¬ (1 : Nat) = 0 by omega)).trans ((if_neg (show ¬ (1 : Nat) = 2 by omega)).trans (if_pos rfl))
theorem z_bF3 {H0 V0 r p : Nat} : z_bF H0 V0 r p 3 = z_rs H0 V0 r + (p + (z_rl H0 V0 r - 1)) % z_rl H0 V0 r := (if_neg (show ¬ (3 : Nat) = 0 by omega)).trans ((if_neg (show ¬ (3 : Nat) = 2 by omega)).trans (if_neg (show ¬ (3 : Nat) = 1 by omega)))
theorem z_bB {H0 V0 r p : Nat} (hH : 1 ≤ H0) (hV : 1 ≤ V0) (hr : r ≤ 44 * H0 + 1) (hp : p < z_rl H0 V0 r) {i : Nat} (hi : i < 4) : z_bM H0 V0 r p i ≤ 60 * V0 ∧ (z_bM H0 V0 r p i ≠ 0 → z_bF H0 V0 r p i + z_bM H0 V0 r p i ≤ 2130 * (H0 * V0) + 2) := by
  have la := z_rl_pos hH hV hr
  have hre := z_rs_end (V := V0) hH hr
  have key : ∀ b, b ≤ 44 * H0 + 1 → ((p + 1) * z_rl H0 V0 b - 1) / z_rl H0 V0 r - p * z_rl H0 V0 b / z_rl H0 V0 r + 1 ≤ 60 * V0 ∧ z_rs H0 V0 b + p * z_rl H0 V0 b / z_rl H0 V0 r + (((p + 1) * z_rl H0 V0 b - 1) / z_rl H0 V0 r - p * z_rl H0 V0 b / z_rl H0 V0 r + 1) ≤ 2130 * (H0 * V0) + 2 := by
    intro b hb
    have lb := z_rl_pos hH hV hb
    have hbe := z_rs_end (V := V0) hH hb
    have m1 : (p + 1) * z_rl H0 V0 b ≤ z_rl H0 V0 r * z_rl H0 V0 b := Nat.mul_le_mul_right _ (by omega)
    have m2 : 1 * 1 ≤ (p + 1) * z_rl H0 V0 b := Nat.mul_le_mul (by omega) lb.1
    have d1 : ((p + 1) * z_rl H0 V0 b - 1) / z_rl H0 V0 r < z_rl H0 V0 b := Nat.div_lt_of_lt_mul (by omega)
    have e : (p + 1) * z_rl H0 V0 b = p * z_rl H0 V0 b + z_rl H0 V0 b := Nat.succ_mul _ _
    have d2 : p * z_rl H0 V0 b / z_rl H0 V0 r ≤ ((p + 1) * z_rl H0 V0 b - 1) / z_rl H0 V0 r := Nat.div_le_div_right (by omega)
    generalize ((p + 1) * z_rl H0 V0 b - 1) / z_rl H0 V0 r = y at *
    generalize p * z_rl H0 V0 b / z_rl H0 V0 r = x at *
    exact ⟨by omega, by omega⟩
  rcases (show i = 0 ∨ i = 2 ∨ i = 1 ∨ i = 3 by omega) with rfl | rfl | rfl | rfl
  · rw [z_bM0, z_bF0]
    by_cases h0 : r = 0
    · rw [if_pos h0]; exact ⟨Nat.zero_le _, fun z => absurd rfl z⟩
    · rw [if_neg h0]; exact ⟨(key (r - 1) (by omega)).1, fun _ => (key (r - 1) (by omega)).2⟩
  · rw [z_bM2, z_bF2]
    by_cases h0 : r = 44 * H0 + 1
    · rw [if_pos h0]; exact ⟨Nat.zero_le _, fun z => absurd rfl z⟩
    · rw [if_neg h0]; exact ⟨(key (r + 1) (by omega)).1, fun _ => (key (r + 1) (by omega)).2⟩
  · have h2 : (p + 1) % z_rl H0 V0 r < z_rl H0 V0 r := Nat.mod_lt _ (by omega)
    rw [z_bM1, z_bF1]
    by_cases h0 : r = 0 ∨ r = 44 * H0 + 1
    · rw [if_pos h0]; exact ⟨Nat.zero_le _, fun z => absurd rfl z⟩
    · rw [if_neg h0]; exact ⟨by omega, fun _ => by omega⟩
  · have h2 : (p + (z_rl H0 V0 r - 1)) % z_rl H0 V0 r < z_rl H0 V0 r := Nat.mod_lt _ (by omega)
    rw [z_bM3, z_bF3]
    by_cases h0 : r = 0 ∨ r = 44 * H0 + 1
    · rw [if_pos h0]; exact ⟨Nat.zero_le _, fun z => absurd rfl z⟩
    · rw [if_neg h0]; exact ⟨by omega, fun _ => by omega⟩
theorem z_bM13 {H0 V0 r p : Nat} : z_bM H0 V0 r p 1 = z_bM H0 V0 r p 3 ∧ z_bM H0 V0 r p 1 ≤ 1 := by
  rw [z_bM1, z_bM3]
  exact ⟨rfl, by split <;> omega⟩
/-- the i-th of all neighbours, by keys -/
def l_nA (M F : Nat → Nat) (j : Nat) : Nat := if j < M 0 then F 0 + j else if j - M 0 < M 1 + M 3 then (if j - M 0 = 0 then (if F 3 < F 1 then F 3 else F 1) else (if F 3 ≤ F 1 then F 1 else F 3)) else F 2 + (j - M 0 - M 1 - M 3)
def l_tot (M : Nat → Nat) : Nat := M 0 + M 1 + M 2 + M 3
/-- rows of neighbours, as both sides have them -/
def l_MF (M F : Nat → Nat) : Prop := (M 1 = M 3 ∧ M 1 ≤ 1) ∧ ∀ i, i < 4 → M i ≤ 600000 ∧ (M i ≠ 0 → F i + M i ≤ 20000000)
theorem l_MF_of {R C H V : Nat → Nat} (g : CUT R C H V) (hl : l < 5) {r p : Nat} (hr : r ≤ 44 * H l + 1) (hp : p < z_rl (H l) (V l) r) : l_MF (z_bM (H l) (V l) r p) (z_bF (H l) (V l) r p) := by
  have hv := g.hv hl
  have hps := g.pos l hl
  have hs := g.sh hl
  refine ⟨z_bM13, fun i hi => ?_⟩
  obtain ⟨h1, h2⟩ := z_bB hps.1 hps.2 hr hp hi
  exact ⟨by omega, fun z => by have := h2 z; omega⟩
theorem r_besideKey {f m : Nat → Int32} {F M : Nat → Nat} (h : l_MF M F) (hfm : ∀ i, i < 4 → m i = nI (M i) ∧ (M i ≠ 0 → f i = nI (F i))) {i : Nat} (hi : i < l_tot M) : f_Spot_besideKey f m (nI i) = some (nI (l_nA M F i)) := by
  unfold l_tot at hi
  obtain ⟨⟨h13, h1⟩, hh⟩ := h
  obtain ⟨b0, s0⟩ := hh 0 (by omega)
  obtain ⟨b1, s1⟩ := hh 1 (by omega)
  obtain ⟨b2, s2⟩ := hh 2 (by omega)
  obtain ⟨b3, s3⟩ := hh 3 (by omega)
  obtain ⟨m0, f0⟩ := hfm 0 (by omega)
  obtain ⟨m1, f1⟩ := hfm 1 (by omega)
  obtain ⟨m2, f2⟩ := hfm 2 (by omega)
  obtain ⟨m3, f3⟩ := hfm 3 (by omega)
  unfold f_Spot_besideKey l_nA
  rw [show (0 : Int32) = nI 0 from rfl, z_ai (by omega) (by omega), m0]
  by_cases c0 : M 0 ≤ i
  · rw [if_pos (by rw [nI_leI (by omega) (by omega)]; exact c0), z_ai (by omega) (by omega), m0, z_nm, pk_sub c0, z_i 1, z_ai (by omega) (by omega), z_i 3, z_ai (by omega) (by omega), m1, m3, nI_add, if_neg (show ¬ i < M 0 by omega)]
    by_cases c1 : i - M 0 < M 1 + M 3
    · have n1 : M 1 ≠ 0 := by omega
      have n3 : M 3 ≠ 0 := by omega
      have t1 := s1 n1
      have t3 := s3 n3
      rw [if_pos (by rw [nI_ltI (by omega) (by omega)]; exact c1), if_pos c1]
      by_cases c2 : i - M 0 = 0
      · rw [if_pos (by rw [c2]), if_pos c2, z_ai (by omega) (by omega), z_ai (by omega) (by omega), z_nm, f1 n1, f3 n3]
        by_cases c3 : F 3 < F 1
        · rw [if_pos (by rw [nI_ltI (by omega) (by omega)]; exact c3), if_pos c3]
        · rw [if_neg (by rw [nI_ltI (by omega) (by omega)]; exact c3), if_neg c3]
      · rw [if_neg (by rw [nI_eq (by omega) (by omega)]; exact c2), if_neg c2, z_ai (by omega) (by omega), z_ai (by omega) (by omega), z_nm, f1 n1, f3 n3]
        by_cases c3 : F 1 < F 3
        · rw [if_pos (by rw [nI_ltI (by omega) (by omega)]; exact c3), if_neg (by omega)]
        · rw [if_neg (by rw [nI_ltI (by omega) (by omega)]; exact c3), if_pos (by omega)]
    · have n2 : M 2 ≠ 0 := by omega
      have t2 := s2 n2
      rw [if_neg (by rw [nI_ltI (by omega) (by omega)]; exact c1), if_neg c1, z_i 2, z_ai (by omega) (by omega), z_ai (by omega) (by omega), z_ai (by omega) (by omega), f2 n2, m1, m3, nI_add, pk_sub (by omega), pk_sub (by omega)]
      refine congrArg (fun z => some (nI z)) ?_
      omega
  · rw [if_neg (by rw [nI_leI (by omega) (by omega)]; exact c0), z_ai (by omega) (by omega), f0 (by omega), nI_add, if_pos (by omega)]
theorem r_allBeside {f m : Nat → Int32} {F M : Nat → Nat} (hfm : ∀ i, i < 4 → m i = nI (M i) ∧ (M i ≠ 0 → f i = nI (F i))) : f_Spot_allBeside m = some (nI (l_tot M)) := by
  unfold f_Spot_allBeside l_tot
  rw [show (0 : Int32) = nI 0 from rfl, z_ai (by omega) (by omega), z_i 1, z_ai (by omega) (by omega), z_i 2, z_ai (by omega) (by omega), z_i 3, z_ai (by omega) (by omega), (hfm 0 (by omega)).1, (hfm 1 (by omega)).1, (hfm 2 (by omega)).1, (hfm 3 (by omega)).1, nI_add, nI_add, nI_add]
theorem r_allBesideM_L {R C H V : Nat → Nat} (g : MOK R C H V cr cq dp wd za) (hN : 50 ≤ N) (hl : l < 5) {r p : Nat} (hr : r ≤ 44 * H l + 1) (hp : p < z_rl (H l) (V l) r) : ∀ n i t (a b : Int32), i ≤ 4 → 4 - i < n → (t = (if i = 0 then 0 else z_bM (H l) (V l) r p 0) + (if i ≤ 1 then 0 else z_bM (H l) (V l) r p 1) + (if i ≤ 2 then 0 else z_bM (H l) (V l) r p 2) + (if i ≤ 3 then 0 else z_bM (H l) (V l) r p 3)) → Ok (f_M_allBeside_L5 N dp wd za (nI l) (nI (z_rs (H l) (V l) r + p)) n (nI t) (nI i) a b) (fun x => x.1 = nI (l_tot (z_bM (H l) (V l) r p))) := by
  intro n
  induction n with
  | zero => intro i t a b h1 h2; omega
  | succ n ih =>
    intro i t a b h1 h2 ht
    unfold f_M_allBeside_L5
    refine Ok.ite (fun c => ?_) (fun c => ?_)
    all_goals rw [z_i 4, nI_leI (by omega) (by omega)] at c
    · have e : i = 4 := by omega
      subst e
      rw [if_neg (by omega), if_neg (by omega), if_neg (by omega), if_neg (by omega)] at ht
      exact Ok.ret (by rw [ht]; rfl)
    · obtain ⟨x, e2, -⟩ := r_laysBeside (N := N) g hN hl hr hp a b (i := i) (by omega)
      rw [e2, q_b2_s, nI_add, z_nm, z_i 1, nI_add, z_nm]
      refine ih (i + 1) _ _ _ (by omega) (by omega) ?_
      rcases (show i = 0 ∨ i = 1 ∨ i = 2 ∨ i = 3 by omega) with rfl | rfl | rfl | rfl
      · rw [if_pos rfl, if_pos (by omega), if_pos (by omega), if_pos (by omega)] at ht
        rw [if_neg (by omega), if_pos (by omega), if_pos (by omega), if_pos (by omega)]
        omega
      · rw [if_neg (by omega), if_pos (by omega), if_pos (by omega), if_pos (by omega)] at ht
        rw [if_neg (by omega), if_neg (by omega), if_pos (by omega), if_pos (by omega)]
        omega
      · rw [if_neg (by omega), if_neg (by omega), if_pos (by omega), if_pos (by omega)] at ht
        rw [if_neg (by omega), if_neg (by omega), if_neg (by omega), if_pos (by omega)]
        omega
      · rw [if_neg (by omega), if_neg (by omega), if_neg (by omega), if_pos (by omega)] at ht
        rw [if_neg (by omega), if_neg (by omega), if_neg (by omega), if_neg (by omega)]
        omega
theorem r_allBesideM {R C H V : Nat → Nat} (g : MOK R C H V cr cq dp wd za) (hN : 50 ≤ N) (hl : l < 5) {r p : Nat} (hr : r ≤ 44 * H l + 1) (hp : p < z_rl (H l) (V l) r) (a b : Int32) : Ok (f_M_allBeside N dp wd za a b (nI l) (nI (z_rs (H l) (V l) r + p))) (fun x => x.1 = nI (l_tot (z_bM (H l) (V l) r p))) := by
  unfold f_M_allBeside
  rw [z_nm, z_nm]
  exact Ok.b3 (r_allBesideM_L g hN hl hr hp N 0 0 a b (by omega) (by omega) (by rw [if_pos rfl, if_pos (by omega), if_pos (by omega), if_pos (by omega)])) (fun x1 x2 x3 h => Ok.ret h)
theorem r_besideAllM {R C H V : Nat → Nat} (g : MOK R C H V cr cq dp wd za) (hN : 50 ≤ N) (hl : l < 5) {r p : Nat} (hr : r ≤ 44 * H l + 1) (hp : p < z_rl (H l) (V l) r) (a b : Int32) {i : Nat} (hi : i < l_tot (z_bM (H l) (V l) r p)) : Ok (f_M_besideAll N dp wd za a b (nI l) (nI (z_rs (H l) (V l) r + p)) (nI i)) (fun x => x.1 = nI (l_nA (z_bM (H l) (V l) r p) (z_bF (H l) (V l) r p) i)) := by
  have hMF := l_MF_of g.2.2 hl hr hp
  unfold l_tot at hi
  obtain ⟨⟨h13, h1⟩, hh⟩ := hMF
  obtain ⟨b0, s0⟩ := hh 0 (by omega)
  obtain ⟨b1, s1⟩ := hh 1 (by omega)
  obtain ⟨b2, s2⟩ := hh 2 (by omega)
  obtain ⟨b3, s3⟩ := hh 3 (by omega)
  unfold f_M_besideAll l_nA
  obtain ⟨x0, e0, f0⟩ := r_laysBeside (N := N) g hN hl hr hp a b (i := 0) (by omega)
  rw [show (0 : Int32) = nI 0 from rfl, e0, q_b2_s]
  refine Ok.ite (fun c0 => ?_) (fun c0 => ?_)
  all_goals rw [nI_leI (by omega) (by omega)] at c0
  · obtain ⟨x1, e1, f1⟩ := r_laysBeside (N := N) g hN hl hr hp x0 (nI (z_bM (H l) (V l) r p 0)) (i := 1) (by omega)
    obtain ⟨x3, e3, f3⟩ := r_laysBeside (N := N) g hN hl hr hp x1 (nI (z_bM (H l) (V l) r p 1)) (i := 3) (by omega)
    obtain ⟨x2, e2, f2⟩ := r_laysBeside (N := N) g hN hl hr hp x3 (nI (z_bM (H l) (V l) r p 3)) (i := 2) (by omega)
    rw [pk_sub c0, z_nm, z_i 1, e1, q_b2_s, z_i 3, e3, q_b2_s, if_neg (show ¬ i < z_bM (H l) (V l) r p 0 by omega)]
    have K : 2 * z_bM (H l) (V l) r p 1 ≤ i - z_bM (H l) (V l) r p 0 → Ok (q_nm ((nI (i - z_bM (H l) (V l) r p 0) - (2 * nI (z_bM (H l) (V l) r p 1))) : Int32) (fun (v8 : Int32) => q_b2 (f_M_laysBeside N dp wd za x3 (nI (z_bM (H l) (V l) r p 3)) (nI l) (nI (z_rs (H l) (V l) r + p)) 2) (fun (v9 : Int32) (v10 : Int32) => if v10 ≤ v8 then (some ((-1), v9, v10)) else (some ((v9 + v8), v9, v10))))) (fun x : Int32 × Int32 × Int32 => x.1 = nI (if i - z_bM (H l) (V l) r p 0 < z_bM (H l) (V l) r p 1 + z_bM (H l) (V l) r p 3 then (if i - z_bM (H l) (V l) r p 0 = 0 then (if z_bF (H l) (V l) r p 3 < z_bF (H l) (V l) r p 1 then z_bF (H l) (V l) r p 3 else z_bF (H l) (V l) r p 1) else (if z_bF (H l) (V l) r p 3 ≤ z_bF (H l) (V l) r p 1 then z_bF (H l) (V l) r p 1 else z_bF (H l) (V l) r p 3)) else z_bF (H l) (V l) r p 2 + (i - z_bM (H l) (V l) r p 0 - z_bM (H l) (V l) r p 1 - z_bM (H l) (V l) r p 3))) := by
      intro h2
      rw [z_i 2, pk_mul, pk_sub h2, z_nm, e2, q_b2_s]
      refine Ok.ite (fun c => ?_) (fun c => ?_)
      all_goals rw [nI_leI (by omega) (by omega)] at c
      · omega
      · rw [f2 (by omega), nI_add, if_neg (by omega)]
        refine Ok.ret ?_
        refine congrArg nI ?_
        show z_bF (H l) (V l) r p 2 + (i - z_bM (H l) (V l) r p 0 - 2 * z_bM (H l) (V l) r p 1) = _
        omega
    refine Ok.j0 ?_
    by_cases hM1 : z_bM (H l) (V l) r p 1 = 1
    · have n3 : z_bM (H l) (V l) r p 3 ≠ 0 := by omega
      have t1 := s1 (by omega)
      have t3 := s3 n3
      rw [if_pos (show nI (z_bM (H l) (V l) r p 1) = nI 1 by rw [hM1])]
      refine Ok.ite (fun c => ?_) (fun c => ?_)
      all_goals rw [z_i 2, nI_leI (by omega) (by omega)] at c
      · exact K (by omega)
      · rw [f1 (by omega), f3 n3, if_pos (show i - z_bM (H l) (V l) r p 0 < z_bM (H l) (V l) r p 1 + z_bM (H l) (V l) r p 3 by omega)]
        refine Ok.j1 ?_
        by_cases c2 : i - z_bM (H l) (V l) r p 0 = 0
        · rw [if_pos (show nI (i - z_bM (H l) (V l) r p 0) = nI 0 by rw [c2]), if_pos c2]
          refine Ok.j1 ?_
          by_cases c3 : z_bF (H l) (V l) r p 3 ≤ z_bF (H l) (V l) r p 1
          · rw [if_pos (by rw [nI_leI (by omega) (by omega)]; exact c3)]
            dsimp only
            rw [if_neg (by decide)]
            by_cases c4 : z_bF (H l) (V l) r p 3 < z_bF (H l) (V l) r p 1
            · rw [if_pos c4]; exact Ok.ret rfl
            · rw [if_neg c4]; exact Ok.ret (congrArg nI (show z_bF (H l) (V l) r p 3 = z_bF (H l) (V l) r p 1 by omega))
          · rw [if_neg (by rw [nI_leI (by omega) (by omega)]; exact c3)]
            dsimp only
            rw [if_pos rfl, if_neg (by omega)]
            exact Ok.ret rfl
        · rw [if_neg (show ¬ nI (i - z_bM (H l) (V l) r p 0) = nI 0 by rw [nI_eq (by omega) (by omega)]; exact c2), if_neg c2]
          refine Ok.j1 ?_
          by_cases c3 : z_bF (H l) (V l) r p 3 ≤ z_bF (H l) (V l) r p 1
          · rw [if_pos (by rw [nI_leI (by omega) (by omega)]; exact c3), if_pos c3]
            dsimp only
            rw [if_pos rfl]
            exact Ok.ret rfl
          · rw [if_neg (by rw [nI_leI (by omega) (by omega)]; exact c3), if_neg c3]
            dsimp only
            rw [if_neg (by decide)]
            exact Ok.ret rfl
    · rw [if_neg (show ¬ nI (z_bM (H l) (V l) r p 1) = nI 1 by rw [nI_eq (by omega) (by omega)]; exact hM1)]
      exact K (by omega)
  · rw [if_pos (show i < z_bM (H l) (V l) r p 0 by omega), f0 (by omega), nI_add]
    exact Ok.ret rfl
/-! around -/
def l_Caround (sv : l_T) (p q i : Int32) : Prop := z_hs (z_pr (l_R sv)) (z_pr (l_C sv)) p q ∧ -1 ≤ i
def l_Faround (sv : l_T) (i : Int32) (s : Nat × Nat × Nat × Nat) : Int32 := if i = -1 then nI (l_tot (l_bM sv s.1 s.2.2.1 s.2.2.2)) else if nI (l_tot (l_bM sv s.1 s.2.2.1 s.2.2.2)) ≤ i then -2 else nI (l_nA (l_bM sv s.1 s.2.2.1 s.2.2.2) (l_bF sv s.1 s.2.2.1 s.2.2.2) i.toInt.toNat)
def l_aaround (sv : l_T) (p q i r : Int32) : Prop := l_rel (l_Caround sv p q i) (-1) (l_sp sv p q) (l_Faround sv i) r
theorem l_aaround_one {p q i r r' : Int32} (h : l_ok sv) (h1 : l_aaround sv p q i r) (h2 : l_aaround sv p q i r') : r = r' := l_rel_one (l_sp_one h) h1 h2
/-- an index that is none of -1 and below a number -/
theorem l_idx {M : Nat} {i : Int32} (hM : M < 2 ^ 31) (h1 : -1 ≤ i) (h2 : ¬ i = -1) (h3 : ¬ nI M ≤ i) : ∃ j, j < M ∧ i = nI j ∧ i.toInt.toNat = j := by
  have h0 : 0 ≤ i.toInt := z_nn h1 h2
  obtain ⟨j, hj, rfl, hjj⟩ := z_nat h0
  rw [nI_leI hM hj] at h3
  exact ⟨j, by omega, rfl, by rw [hjj]; rfl⟩
theorem a_x_around (g : GOK (l_R sv) (l_C sv) (z_pr (l_R sv)) (z_pr (l_C sv)) rc cc br zc rw sh) (hN : 1000000 ≤ N) (f m : Nat → Int32) (a1 a2 a3 a4 a5 a6 p q i : Int32) : Ok (f_X_around N f m a1 a2 a3 a4 a5 a6 br zc rw sh p q i) (fun x => l_aaround sv p q i x.1) := by
  unfold f_X_around
  refine Ok.b1 (r_hasSheet g p q) (fun v1 h1 => ?_)
  rcases h1 with ⟨z, rfl⟩ | ⟨z, rfl⟩
  rotate_left
  · exact Ok.ite (fun _ => Ok.ret (l_relN (fun u => z u.1))) (fun c => absurd rfl c)
  refine Ok.ite (fun c => absurd c (by decide)) (fun _ => ?_)
  refine Ok.ite (fun hi => ?_) (fun hi => Ok.ret (l_relN (fun u => hi u.2)))
  have z' := z
  obtain ⟨l, k, hl, rfl, rfl, hk⟩ := z'
  have hs := g.2.sh hl
  obtain ⟨ro, pl, e, d1, d2, d3⟩ := k_put (N := N) g (by omega) hl hk a1 a2 a3 a4 a5 a6
  obtain ⟨f', m', e2, hfm⟩ := r_lookAround g hl d1 d2 f m
  have hMF := l_MF_of g.2 hl d1 d2
  have hsp : l_sp sv (nI l) (nI k) (l, k, ro, pl) := ⟨⟨hl, (show k < 20000000 by omega), d1, d2, d3⟩, rfl, rfl⟩
  have hb : l_tot (l_bM sv l ro pl) < 2 ^ 31 := by
    have h0 := (hMF.2 0 (by omega)).1
    have h1 := (hMF.2 1 (by omega)).1
    have h2 := (hMF.2 2 (by omega)).1
    have h3 := (hMF.2 3 (by omega)).1
    unfold l_tot l_bM
    omega
  rw [e, q_b6_s, e2, q_b2_s, r_allBeside hfm, q_b1_s, q_b1_s]
  refine Ok.ite (fun c1 => Ok.ret (l_relY ⟨z, hi⟩ hsp ?_)) (fun c1 => ?_)
  · unfold l_Faround; rw [if_pos c1]; rfl
  refine Ok.ite (fun c2 => Ok.ret (l_relY ⟨z, hi⟩ hsp ?_)) (fun c2 => ?_)
  · unfold l_Faround; rw [if_neg c1]; exact (if_pos c2).symm
  obtain ⟨j, hj, rfl, hjj⟩ := l_idx hb hi c1 c2
  rw [r_besideKey hMF hfm hj, q_b1_s]
  refine Ok.ret (l_relY ⟨z, hi⟩ hsp ?_)
  unfold l_Faround
  rw [if_neg c1, hjj]
  exact (if_neg c2).symm
theorem a_m_around (g : MOK (l_R sv) (l_C sv) (z_pr (l_R sv)) (z_pr (l_C sv)) cr cq dp wd za) (hN : 1000000 ≤ N) (fb mb p q i : Int32) : Ok (f_M_around N dp wd za fb mb p q i) (fun x => l_aaround sv p q i x.1) := by
  unfold f_M_around
  refine Ok.b1 (r_isKey g p q) (fun v1 h1 => ?_)
  rcases h1 with ⟨z, rfl⟩ | ⟨z, rfl⟩
  rotate_left
  · exact Ok.ite (fun _ => Ok.ret (l_relN (fun u => z u.1))) (fun c => absurd rfl c)
  refine Ok.ite (fun c => absurd c (by decide)) (fun _ => ?_)
  refine Ok.ite (fun hi => ?_) (fun hi => Ok.ret (l_relN (fun u => hi u.2)))
  have z' := z
  obtain ⟨l, k, hl, rfl, rfl, hk⟩ := z'
  have hs := g.2.2.sh hl
  obtain ⟨ro, pl, d1, d2, d3, -, -⟩ := t_spot (N := N) g (by omega) hl hk
  have hMF := l_MF_of g.2.2 hl d1 d2
  have hsp : l_sp sv (nI l) (nI k) (l, k, ro, pl) := ⟨⟨hl, (show k < 20000000 by omega), d1, d2, d3⟩, rfl, rfl⟩
  have hb : l_tot (l_bM sv l ro pl) < 2 ^ 31 := by
    have h0 := (hMF.2 0 (by omega)).1
    have h1 := (hMF.2 1 (by omega)).1
    have h2 := (hMF.2 2 (by omega)).1
    have h3 := (hMF.2 3 (by omega)).1
    unfold l_tot l_bM
    omega
  have e1 := r_allBesideM (N := N) g (by omega) hl d1 d2 fb mb
  rw [← d3] at e1
  refine Ok.b3 e1 (fun v2 v3 v4 h2 => ?_)
  dsimp only at h2
  subst h2
  refine Ok.ite (fun c1 => Ok.ret (l_relY ⟨z, hi⟩ hsp ?_)) (fun c1 => ?_)
  · unfold l_Faround; rw [if_pos c1]; rfl
  refine Ok.ite (fun c2 => Ok.ret (l_relY ⟨z, hi⟩ hsp ?_)) (fun c2 => ?_)
  · unfold l_Faround; rw [if_neg c1]; exact (if_pos c2).symm
  obtain ⟨j, hj, rfl, hjj⟩ := l_idx hb hi c1 c2
  have e2 := r_besideAllM (N := N) g (by omega) hl d1 d2 v3 v4 hj
  rw [← d3] at e2
  refine Ok.b3 e2 (fun v5 v6 v7 h5 => Ok.ret (l_relY ⟨z, hi⟩ hsp ?_))
  dsimp only at h5
  subst h5
  unfold l_Faround
  rw [if_neg c1, hjj]
  exact (if_neg c2).symm
end S6A
