section
/-! the worlds of the law: the class's cells, the reference's, the kept atlases' -/
/-- the state that both sides hold: cuts, pieces -/
def l_T : Type := (Nat → Nat) × (Nat → Nat) × Nat × (Nat → Nat) × (Nat → Nat) × (Nat → Int32) × (Nat → Int32)
def l_R (sv : l_T) : Nat → Nat := sv.1
def l_C (sv : l_T) : Nat → Nat := sv.2.1
def l_m (sv : l_T) : Nat := sv.2.2.1
def l_L (sv : l_T) : Nat → Nat := sv.2.2.2.1
def l_K (sv : l_T) : Nat → Nat := sv.2.2.2.2.1
def l_Y (sv : l_T) : Nat → Int32 := sv.2.2.2.2.2.1
def l_q (sv : l_T) : Nat → Int32 := sv.2.2.2.2.2.2
def l_mk (R C : Nat → Nat) (m : Nat) (L K : Nat → Nat) (Y q : Nat → Int32) : l_T := (R, C, m, L, K, Y, q)
/-- the counts of texts -/
def l_cn (sv : l_T) (c0 c1 c2 c3 : Int32) : Prop := c0 = l_q sv 0 ∧ c1 = l_q sv 1 ∧ c2 = l_q sv 2 ∧ c3 = l_q sv 3
def l_sX (sv : l_T) (sz : Int32) (fl fk fy : Nat → Int32) : Prop := sz = nI (l_m sv) ∧ z_pc (z_pr (l_R sv)) (z_pr (l_C sv)) (l_m sv) (l_L sv) (l_K sv) ∧ z_rp (l_m sv) (l_L sv) (l_K sv) (l_Y sv) fl fk fy ∧ z_yr (l_m sv) (l_Y sv)
theorem z_st_of {H V : Nat → Nat} {m : Nat} {L K : Nat → Nat} {Y : Nat → Int32} {fl fk fy : Nat → Int32} (h : z_pc H V m L K) (hr : z_rp m L K Y fl fk fy) : z_st fl m := ⟨h.1, fun j hj => ⟨L j, (h.2.1 j hj).1, (hr j hj).1⟩⟩
theorem z_ps_of {H V : Nat → Nat} {m : Nat} {L K : Nat → Nat} {Y : Nat → Int32} {fl fk fy : Nat → Int32} (h : z_pc H V m L K) (hr : z_rp m L K Y fl fk fy) : z_ps H V fl fk m := ⟨h.1, fun i hi => ⟨L i, K i, (h.2.1 i hi).1, (hr i hi).1, (hr i hi).2.1, (h.2.1 i hi).2⟩⟩
def l_ok (sv : l_T) : Prop := CUT (l_R sv) (l_C sv) (z_pr (l_R sv)) (z_pr (l_C sv)) ∧ z_pc (z_pr (l_R sv)) (z_pr (l_C sv)) (l_m sv) (l_L sv) (l_K sv)
/-- what the five methods that change it do with it -/
def l_tcut (sv : l_T) (p q w r : Int32) (s2 : l_T) : Prop := ∃ R2 C2, z_cutR (l_R sv) (l_C sv) (l_m sv) p q w r R2 C2 ∧ s2 = l_mk R2 C2 (l_m sv) (l_L sv) (l_K sv) (l_Y sv) (l_q sv)
def l_tstore (sv : l_T) (p q w r : Int32) (s2 : l_T) : Prop := ∃ m2 L2 K2 Y2, z_storeR (z_pr (l_R sv)) (z_pr (l_C sv)) (l_m sv) (l_L sv) (l_K sv) (l_Y sv) p q w r m2 L2 K2 Y2 ∧ s2 = l_mk (l_R sv) (l_C sv) m2 L2 K2 Y2 (l_q sv)
def l_tdrop (sv : l_T) (p q r : Int32) (s2 : l_T) : Prop := ∃ m2 L2 K2 Y2, z_dropR (z_pr (l_R sv)) (z_pr (l_C sv)) (l_m sv) (l_L sv) (l_K sv) (l_Y sv) p q r m2 L2 K2 Y2 ∧ s2 = l_mk (l_R sv) (l_C sv) m2 L2 K2 Y2 (l_q sv)
def l_trenew (sv : l_T) (p q r : Int32) (s2 : l_T) : Prop := ∃ Y2, z_renewR (l_m sv) (l_L sv) (l_Y sv) p q r Y2 ∧ s2 = l_mk (l_R sv) (l_C sv) (l_m sv) (l_L sv) (l_K sv) Y2 (l_q sv)
def l_ttidy (sv : l_T) (r : Int32) (s2 : l_T) : Prop := ∃ n2 m2 L2 K2 Y2, z_tdT (z_pr (l_R sv)) (z_pr (l_C sv)) (l_m sv) (l_m sv) (l_L sv) (l_K sv) (l_Y sv) 0 n2 m2 L2 K2 Y2 ∧ r = nI n2 ∧ s2 = l_mk (l_R sv) (l_C sv) m2 L2 K2 Y2 (l_q sv)
theorem l_tcut_one {sv s2 s3 : l_T} {p q w r r' : Int32} (_ : l_ok sv) (h1 : l_tcut sv p q w r s2) (h2 : l_tcut sv p q w r' s3) : r = r' ∧ s2 = s3 := by
  obtain ⟨R2, C2, h1, rfl⟩ := h1
  obtain ⟨R3, C3, h2, rfl⟩ := h2
  obtain ⟨a, b, c⟩ := z_cutR_one h1 h2
  exact ⟨a, by rw [b, c]⟩
theorem l_tstore_one {sv s2 s3 : l_T} {p q w r r' : Int32} (h : l_ok sv) (h1 : l_tstore sv p q w r s2) (h2 : l_tstore sv p q w r' s3) : r = r' ∧ s2 = s3 := by
  obtain ⟨m2, L2, K2, Y2, h1, rfl⟩ := h1
  obtain ⟨m3, L3, K3, Y3, h2, rfl⟩ := h2
  obtain ⟨a, b, c, d, e⟩ := z_storeR_one h.1 h.2 h1 h2
  exact ⟨a, by rw [b, c, d, e]⟩
theorem l_tdrop_one {sv s2 s3 : l_T} {p q r r' : Int32} (h : l_ok sv) (h1 : l_tdrop sv p q r s2) (h2 : l_tdrop sv p q r' s3) : r = r' ∧ s2 = s3 := by
  obtain ⟨m2, L2, K2, Y2, h1, rfl⟩ := h1
  obtain ⟨m3, L3, K3, Y3, h2, rfl⟩ := h2
  obtain ⟨a, b, c, d, e⟩ := z_dropR_one h.1 h.2 h1 h2
  exact ⟨a, by rw [b, c, d, e]⟩
theorem l_trenew_one {sv s2 s3 : l_T} {p q r r' : Int32} (_ : l_ok sv) (h1 : l_trenew sv p q r s2) (h2 : l_trenew sv p q r' s3) : r = r' ∧ s2 = s3 := by
  obtain ⟨Y2, h1, rfl⟩ := h1
  obtain ⟨Y3, h2, rfl⟩ := h2
  obtain ⟨a, b⟩ := z_renewR_one h1 h2
  exact ⟨a, by rw [b]⟩
theorem l_ttidy_one {sv s2 s3 : l_T} {r r' : Int32} (_ : l_ok sv) (h1 : l_ttidy sv r s2) (h2 : l_ttidy sv r' s3) : r = r' ∧ s2 = s3 := by
  obtain ⟨n2, m2, L2, K2, Y2, h1, rfl, rfl⟩ := h1
  obtain ⟨n3, m3, L3, K3, Y3, h2, rfl, rfl⟩ := h2
  obtain ⟨a, b, c, d, e⟩ := z_tdT_one _ _ _ _ _ _ _ _ _ _ _ _ _ _ _ _ h1 h2
  exact ⟨by rw [a], by rw [b, c, d, e]⟩
theorem z_cutR_pc {R C R2 C2 : Nat → Nat} {m : Nat} {L K : Nat → Nat} {p q w r : Int32} (h : z_pc (z_pr R) (z_pr C) m L K) (hq : z_cutR R C m p q w r R2 C2) : z_pc (z_pr R2) (z_pr C2) m L K := by
  by_cases h0 : m = 0
  · subst h0
    exact ⟨by omega, fun i hi => absurd hi (by omega), fun i j _ hj => absurd hj (by omega)⟩
  · rcases hq with ⟨-, -, rfl, rfl⟩ | ⟨-, -, -, rfl, rfl⟩ | ⟨v, y, z, -, a, -⟩
    · exact h
    · exact h
    · exact absurd a h0
/-- the states kept behind keep; the state behind undo -/
def l_kc (s : Nat) (sv : l_T) (kv : Nat → l_T) : Nat → l_T := if s = 8 then kv else fun j => if j = s then sv else kv j
def l_uc (sv : l_T) (kv : Nat → l_T) : Nat → l_T
  | 0 => sv
  | k + 1 => kv k
theorem l_kc8 {sv : l_T} {kv : Nat → l_T} : l_kc 8 sv kv = kv := if_pos rfl
theorem l_kcS {s : Nat} {sv : l_T} {kv : Nat → l_T} (h : ¬ s = 8) : l_kc s sv kv s = sv := by unfold l_kc; rw [if_neg h, if_pos rfl]
theorem l_kcN {s j : Nat} {sv : l_T} {kv : Nat → l_T} (h : ¬ s = 8) (e : ¬ j = s) : l_kc s sv kv j = kv j := by unfold l_kc; rw [if_neg h, if_neg e]
def l_sv0 : l_T := l_mk z_R1 z_R1 0 (fun _ => 0) (fun _ => 0) (fun _ => 0) (fun _ => 0)
theorem l_tX_le {t t2 : Nat} {tb : Nat → Nat} {f : Nat → Int32} (h : l_tX t tb f) (h2 : t2 ≤ t) : l_tX t2 tb f := fun i hi => h i (Nat.lt_of_lt_of_le hi h2)
theorem l_tM_le {t t2 : Nat} {tb : Nat → Nat} {f : Nat → Int32} (h : l_tM t tb f) (h2 : t2 ≤ t) : l_tM t2 tb f := fun i hi => h i (Nat.lt_of_lt_of_le hi h2)
theorem l_sv0X : l_sX l_sv0 0 (fun _ => 0) (fun _ => 0) (fun _ => 0) := ⟨rfl, ⟨Nat.zero_le _, fun i hi => absurd hi (Nat.not_lt_zero _), fun i j _ hj => absurd hj (Nat.not_lt_zero _)⟩, fun i hi => absurd hi (Nat.not_lt_zero _), fun i hi => absurd hi (Nat.not_lt_zero _)⟩
def lX_at (ci : Nat → ClassId) (a : Nat → Nat) (u : Nat → Int32) (f : Nat → Nat → Int32) : va_W := [((a 0), .inr (0, [.ref (a 6), .ref (a 1), .int (u 0), .int (u 1), .int (u 2), .int (u 3)])), ((a 1), .inr (7, [.ref (a 6), .ref (a 2), .ref (a 3), .ref (a 4), .ref (a 5), .int (u 4), .int (u 5), .int (u 6), .int (u 7)])), ((a 2), .inl (ci 0, 60, .inl (f 0))), ((a 3), .inl (ci 0, 60, .inl (f 1))), ((a 4), .inl (ci 0, 60, .inl (f 2))), ((a 6), .inr (2, [.ref (a 7), .ref (a 8), .ref (a 9), .ref (a 10), .ref (a 11), .ref (a 12)])), ((a 7), .inl (ci 0, 5, .inl (f 3))), ((a 8), .inl (ci 0, 5, .inl (f 4))), ((a 9), .inl (ci 0, 5, .inl (f 5))), ((a 10), .inl (ci 0, 5, .inl (f 6))), ((a 11), .inl (ci 0, 5, .inl (f 7))), ((a 12), .inl (ci 0, 5, .inl (f 8)))]
def lX_ka (ci : Nat → ClassId) (ka : Nat → Nat → Nat) (ku : Nat → Nat → Int32) (kf : Nat → Nat → Nat → Int32) : va_W := lX_at ci (ka 0) (ku 0) (kf 0) ++ (lX_at ci (ka 1) (ku 1) (kf 1) ++ (lX_at ci (ka 2) (ku 2) (kf 2) ++ (lX_at ci (ka 3) (ku 3) (kf 3) ++ (lX_at ci (ka 4) (ku 4) (kf 4) ++ (lX_at ci (ka 5) (ku 5) (kf 5) ++ (lX_at ci (ka 6) (ku 6) (kf 6) ++ (lX_at ci (ka 7) (ku 7) (kf 7))))))))
def l_up {α : Type} (f : Nat → α) (k : Nat) (v : α) : Nat → α := fun j => cond (Nat.beq j k) v (f j)
def XW (ci : Nat → ClassId) (a_x n_wk : Nat) (a : Nat → Nat) (u : Nat → Int32) (f : Nat → Nat → Int32) (xk : Nat → Option Nat) (K : va_W) : va_W := (a_x, .inr (10, [.ref (a 0), .ref (a 1), .ref (a 2), .ref (a 3), .int (u 0), .ref (a 4), .ref (a 5), .ref (a 6), .ref (a 7), .ref (a 8), .ref (a 9), .ref (a 10), .ref (a 11), .ref (a 12)])) :: ((a 4), .inr (8, [.ref (a 13), .int (u 1)])) :: ((a 13), .inl (ci 0, 200, .inl (f 0))) :: ((a 2), .inr (7, [.ref (a 1), .ref (a 14), .ref (a 15), .ref (a 16), .ref (a 17), .int (u 2), .int (u 3), .int (u 4), .int (u 5)])) :: ((a 1), .inr (2, [.ref (a 18), .ref (a 19), .ref (a 20), .ref (a 21), .ref (a 22), .ref (a 23)])) :: ((a 18), .inl (ci 0, 5, .inl (f 1))) :: ((a 19), .inl (ci 0, 5, .inl (f 2))) :: ((a 20), .inl (ci 0, 5, .inl (f 3))) :: ((a 21), .inl (ci 0, 5, .inl (f 4))) :: ((a 22), .inl (ci 0, 5, .inl (f 5))) :: ((a 23), .inl (ci 0, 5, .inl (f 6))) :: ((a 7), .inr (6, [.ref (a 1), .ref (a 24), .ref (a 25), .ref (a 26), .int (u 6), .int (u 7), .int (u 8), .int (u 9), .int (u 10), .int (u 11), .int (u 12)])) :: ((a 10), .inr (4, [.ref (a 27), .int (u 13)])) :: ((a 27), .inl (ci 0, 40, .inl (f 7))) :: ((a 5), .inr (3, [.ref (a 1), .ref (a 4), .int (u 14), .int (u 15), .int (u 16), .int (u 17), .int (u 18), .int (u 19), .int (u 20)])) :: ((a 0), .inr (0, [.ref (a 1), .ref (a 2), .int (u 21), .int (u 22), .int (u 23), .int (u 24)])) :: ((a 24), .inl (ci 0, 4, .inl (f 8))) :: ((a 25), .inl (ci 0, 4, .inl (f 9))) :: ((a 8), .inr (9, [.ref (a 28), .ref (a 29), .ref (a 30), .int (u 25)])) :: ((a 29), .inl (ci 0, n_wk, .inl (f 10))) :: ((a 30), .inl (ci 0, n_wk, .inl (f 11))) :: ((a 28), .inr (6, [.ref (a 1), .ref (a 31), .ref (a 32), .ref (a 33), .int (u 26), .int (u 27), .int (u 28), .int (u 29), .int (u 30), .int (u 31), .int (u 32)])) :: ((a 31), .inl (ci 0, 4, .inl (f 12))) :: ((a 32), .inl (ci 0, 4, .inl (f 13))) :: ((a 26), .inl (ci 0, 4, .inl (f 14))) :: ((a 9), .inr (1, [.ref (a 1), .int (u 33), .int (u 34), .int (u 35), .int (u 36)])) :: ((a 11), .inr (4, [.ref (a 34), .int (u 37)])) :: ((a 34), .inl (ci 0, 40, .inl (f 15))) :: ((a 6), .inr (5, [.ref (a 5), .ref (a 4), .int (u 38), .int (u 39), .int (u 40), .int (u 41), .int (u 42)])) :: ((a 14), .inl (ci 0, 60, .inl (f 16))) :: ((a 15), .inl (ci 0, 60, .inl (f 17))) :: ((a 16), .inl (ci 0, 60, .inl (f 18))) :: ((a 17), .inl (ci 0, 5, .inl (f 19))) :: ((a 12), .inl (ci 0, 200, .inl (f 20))) :: ((a 3), .inl (ci 3, 8, .inr (.inr (.inr (.inr xk))))) :: K
def MW (ci : Nat → ClassId) (a_m : Nat) (a : Nat → Nat) (u : Nat → Int32) (v : Nat → Int64) (f : Nat → Nat → Int32) (h : Nat → Nat → Int64) : va_W := [(a_m, .inr (11, (.ref (a 0) :: .ref (a 1) :: .ref (a 2) :: .ref (a 3) :: .ref (a 4) :: .ref (a 5) :: .ref (a 6) :: .ref (a 7) :: .int (u 0) :: .int (u 1) :: .int (u 2) :: .int (u 3) :: .int (u 4) :: .int (u 5) :: .int (u 6) :: .int (u 7) :: .int (u 8) :: .int (u 9) :: .long (v 0) :: .long (v 1) :: .ref (a 8) :: .int (u 10) :: .int (u 11) :: .ref (a 9) :: .ref (a 10) :: .int (u 12) :: .int (u 13) :: .int (u 14) :: .int (u 15) :: .int (u 16) :: .int (u 17) :: .int (u 18) :: .int (u 19) :: .int (u 20) :: .ref (a 11) :: .ref (a 12) :: .ref (a 13) :: .int (u 21) :: .ref (a 14) :: .ref (a 15) :: .int (u 22) :: .ref (a 16) :: []))), ((a 7), .inl (ci 2, 200, .inl (f 0))), ((a 0), .inl (ci 0, 5, .inl (f 1))), ((a 1), .inl (ci 0, 5, .inl (f 2))), ((a 2), .inl (ci 0, 5, .inl (f 3))), ((a 3), .inl (ci 0, 5, .inl (f 4))), ((a 4), .inl (ci 0, 45, .inl (f 5))), ((a 5), .inl (ci 0, 20, .inl (f 6))), ((a 8), .inl (ci 1, 4, .inr (.inl (h 0)))), ((a 9), .inl (ci 0, 20000, .inl (f 7))), ((a 10), .inl (ci 0, 20000, .inl (f 8))), ((a 6), .inl (ci 0, 20, .inl (f 9))), ((a 11), .inl (ci 0, 60, .inl (f 10))), ((a 12), .inl (ci 0, 60, .inl (f 11))), ((a 13), .inl (ci 0, 60, .inl (f 12))), ((a 14), .inl (ci 0, 200, .inl (f 13))), ((a 15), .inl (ci 0, 1552, .inl (f 14))), ((a 16), .inl (ci 0, 8, .inl (f 15)))]
def lX_ok (sv : l_T) (u : Nat → Int32) (f : Nat → Nat → Int32) : Prop := l_sX sv (u 4) (f 0) (f 1) (f 2) ∧ z_kg (l_R sv) (l_C sv) (f 3) (f 4) ∧ l_cn sv (u 0) (u 1) (u 2) (u 3)
def lM_ok (sv : l_T) (kp nn : Nat → Int32) (j : Nat) : Prop := z_mkT (l_R sv) (l_C sv) (l_m sv) (l_L sv) (l_K sv) (l_Y sv) kp j ∧ z_pc (z_pr (l_R sv)) (z_pr (l_C sv)) (l_m sv) (l_L sv) (l_K sv) ∧ z_yr (l_m sv) (l_Y sv) ∧ z_mkn (l_q sv) kp nn j
/-- a good state of the class: its tape holds t bytes, its walk has rows of n -/
def XI (ci : Nat → ClassId) (a_x : Nat) (Wd : va_W) (t : Nat) (tb : Nat → Nat) (n_wk s0 : Nat) (sv : l_T) (kv : Nat → l_T) : Prop := ∃ (a : Nat → Nat) (u : Nat → Int32) (f : Nat → Nat → Int32) (xk : Nat → Option Nat) (ka : Nat → Nat → Nat) (ku : Nat → Nat → Int32) (kf : Nat → Nat → Nat → Int32), Wd = XW ci a_x n_wk a u f xk (lX_ka ci ka ku kf) ∧ (t ≤ 200 ∧ (u 1) = nI t ∧ l_tX t tb (f 0)) ∧ ((n_wk = 0 ∨ ∃ k, n_wk = 2130 * k + 2) ∧ n_wk ≤ 20000) ∧ GOK (l_R sv) (l_C sv) (z_pr (l_R sv)) (z_pr (l_C sv)) (f 1) (f 2) (f 3) (f 4) (f 5) (f 6) ∧ l_sX sv (u 2) (f 16) (f 17) (f 18) ∧ l_cn sv (u 21) (u 22) (u 23) (u 24) ∧ (s0 ≤ 8 ∧ (u 0) = nI s0 ∧ ∀ j, j < s0 → lX_ok (kv j) (ku j) (kf j)) ∧ (∀ j, j < 8 → xk j = some (ka j 0))
/-- a good state of the reference -/
def MI (ci : Nat → ClassId) (a_m : Nat) (Wd : va_W) (t : Nat) (tb : Nat → Nat) (s0 : Nat) (sv : l_T) (kv : Nat → l_T) : Prop := ∃ (a : Nat → Nat) (u : Nat → Int32) (v : Nat → Int64) (f : Nat → Nat → Int32) (h : Nat → Nat → Int64), Wd = MW ci a_m a u v f h ∧ (t ≤ 200 ∧ (u 0) = nI t ∧ l_tM t tb (f 0)) ∧ MOK (l_R sv) (l_C sv) (z_pr (l_R sv)) (z_pr (l_C sv)) (f 1) (f 2) (f 3) (f 4) (f 5) ∧ l_sX sv (u 19) (f 10) (f 11) (f 12) ∧ l_cn sv (u 6) (u 7) (u 8) (u 9) ∧ (s0 ≤ 8 ∧ (u 20) = nI s0 ∧ ∀ j, j < s0 → lM_ok (kv j) (f 14) (f 15) j) ∧ 0 ≤ (u 10).toInt
theorem XI.ok {ci : Nat → ClassId} {a_x t n s0 : Nat} {tb : Nat → Nat} {Wd : va_W} {sv : l_T} {kv : Nat → l_T} (h : XI ci a_x Wd t tb n s0 sv kv) : l_ok sv := by
  obtain ⟨a, u, f, xk, ka, ku, kf, -, -, -, g, hs, -⟩ := h
  exact ⟨g.2, hs.2.1⟩
/-- how many states are kept behind keep, undo; what they answer -/
def l_ks (s : Nat) : Nat := if s = 8 then 8 else s + 1
def l_kr (s : Nat) : Int32 := if s = 8 then -1 else nI (s + 1)
def l_ur (s : Nat) : Int32 := if s = 0 then -1 else nI (s - 1)
/-- how many bytes the tape holds behind feed, named, ask -/
def l_tf (t : Nat) : Nat := if t ≤ 180 then t + 20 else t
def l_ta (p : Int32) (t : Nat) : Nat := if 1 ≤ p.toInt ∧ p.toInt ≤ 100 ∧ p.toInt ≤ t then 0 else t
def l_tn (p q : Int32) (t : Nat) : Nat := if (1 ≤ p.toInt ∧ p.toInt ≤ 40 ∧ p.toInt ≤ t) ∧ (0 ≤ q.toInt ∧ q.toInt ≤ 1) then 0 else t
theorem l_tfB {t : Nat} (h : t ≤ 200) : l_tf t ≤ 200 := by unfold l_tf; split <;> omega
theorem l_taB {p : Int32} {t : Nat} (h : t ≤ 200) : l_ta p t ≤ 200 := by unfold l_ta; split <;> omega
theorem l_taL {p : Int32} {t : Nat} : l_ta p t ≤ t := by unfold l_ta; split <;> omega
theorem l_tnL {p q : Int32} {t : Nat} : l_tn p q t ≤ t := by unfold l_tn; split <;> omega
theorem l_tnB {p q : Int32} {t : Nat} (h : t ≤ 200) : l_tn p q t ≤ 200 := by unfold l_tn; split <;> omega
theorem l_ta1 {p : Int32} {t : Nat} (h : z_txc 100 p t) : l_ta p t = 0 := if_pos h
theorem l_ta2 {p : Int32} {t : Nat} (h : ¬ z_txc 100 p t) : l_ta p t = t := if_neg h
theorem l_tn1 {p q : Int32} {t : Nat} (h : z_txc 40 p t ∧ (0 ≤ q.toInt ∧ q.toInt ≤ 1)) : l_tn p q t = 0 := if_pos h
theorem l_tn2 {p q : Int32} {t : Nat} (h : ¬ (z_txc 40 p t ∧ (0 ≤ q.toInt ∧ q.toInt ≤ 1))) : l_tn p q t = t := if_neg h
theorem Met.imp {l : Launch} {y : MethodName} {ws : List Cond} {rm : Room} {Pc Pc2 : Array Value → State → Prop} {Qc Qc2 : Array Value → State → Outcome → State → Prop} {mc ms : Nat} {free : Addr → Prop} (h : Met l y ws rm Pc Qc mc ms free) (hp : ∀ a s, Pc2 a s → Pc a s) (hq : ∀ a s o t, Pc2 a s → Qc a s o t → Qc2 a s o t) : Met l y ws rm Pc2 Qc2 mc ms free := by
  intro p e h1 h2 h3 s m args below h4 h5 h6 h7
  obtain ⟨n, o, a1, a2, a3, a4, a5⟩ := h p e h1 h2 h3 s m args below h4 h5 (hp _ _ h6) h7
  exact ⟨n, o, a1, a2, a3, hq _ _ _ _ h6 a4, a5⟩
section LWR
variable {l : Launch} {D : va_G} {ci : Nat → ClassId} {A : Nat → Prop} {sa : Nat → Nat} {y : MethodName} {ws : List Cond} {rm : Room} {av : List Value} {v : Option Value} {mc ms : Nat} {Wd W1 W2 W3 : va_W}
theorem q_wr (n : Nat) (is : List Nat) (e1 : q_pk n is Wd = W1) (ok1 : q_ok n is Wd) (is2 : List Nat) (h : Met l y ws rm (va_Pc av (q_N D ci A sa W1)) (q_Q v (q_O D A W2) A) mc ms A) (e2 : q_pk n is2 W2 = W3) (ok2 : q_ok n is2 W2) : Met l y ws rm (va_Pc av (q_N D ci A sa Wd)) (q_Q v (q_O D A W3) A) mc ms A :=
  h.imp (fun _ _ h => ⟨h.1, q_pk_P h.2.1 e1, q_pk_D h.2.2.1 e1 ok1, h.2.2.2⟩) (fun _ _ _ _ _ h => ⟨h.1, ⟨q_pk_P h.2.1.1 e2, q_pk_D h.2.1.2 e2 ok2⟩, h.2.2⟩)
theorem q_wrX {W2x W3x : Nat → Nat → va_W} (n : Nat) (is : List Nat) (e1 : q_pk n is Wd = W1) (ok1 : q_ok n is Wd) (is2 : List Nat) (h : Met l y ws rm (va_Pc av (q_N D ci A sa W1)) (q_Q v (fun t => ∃ b1 b2 : Nat, q_O D A (W2x b1 b2) t) A) mc ms A) (e2 : ∀ b1 b2, q_pk n is2 (W2x b1 b2) = W3x b1 b2) (ok2 : ∀ b1 b2, q_ok n is2 (W2x b1 b2)) : Met l y ws rm (va_Pc av (q_N D ci A sa Wd)) (q_Q v (fun t => ∃ b1 b2 : Nat, q_O D A (W3x b1 b2) t) A) mc ms A :=
  h.imp (fun _ _ h => ⟨h.1, q_pk_P h.2.1 e1, q_pk_D h.2.2.1 e1 ok1, h.2.2.2⟩) (fun _ _ _ _ _ h => ⟨h.1, h.2.1.elim (fun b1 q => q.elim (fun b2 q => ⟨b1, b2, q_pk_P q.1 (e2 b1 b2), q_pk_D q.2 (e2 b1 b2) (ok2 b1 b2)⟩)), h.2.2⟩)
theorem q_wrR (n : Nat) (is : List Nat) (e1 : q_pk n is Wd = W1) (ok1 : q_ok n is Wd) (h : Met l y ws rm (va_Pc av (q_N D ci A sa W1)) (q_R v) mc ms A) : Met l y ws rm (va_Pc av (q_N D ci A sa Wd)) (q_Q v (q_O D A Wd) A) mc ms A :=
  h.imp (fun _ _ h => ⟨h.1, q_pk_P h.2.1 e1, q_pk_D h.2.2.1 e1 ok1, h.2.2.2⟩) (fun _ _ _ _ hp h => ⟨h.1, ⟨by rw [h.2]; exact hp.2.1, hp.2.2.1⟩, by rw [h.2]; exact Nat.le_refl _, fun q _ _ => by rw [h.2]⟩)
/-- what a call leaves: some world with I -/
theorem q_wrI {I : va_W → Prop} {R : va_W} (h : Met l y ws rm (va_Pc av (q_N D ci A sa Wd)) (q_Q v (q_O D A (W3 ++ R)) A) mc ms A) (hI : I W3) : Met l y ws rm (va_Pc av (q_N D ci A sa Wd)) (q_Q v (fun t => ∃ W3, I W3 ∧ q_O D A (W3 ++ R) t) A) mc ms A :=
  h.imp (fun _ _ h => h) (fun _ _ _ _ _ h => ⟨h.1, ⟨W3, hI, h.2.1⟩, h.2.2⟩)
theorem q_wrIX {I : va_W → Prop} {R : va_W} {W3x : Nat → Nat → va_W} (h : Met l y ws rm (va_Pc av (q_N D ci A sa Wd)) (q_Q v (fun t => ∃ b1 b2 : Nat, q_O D A (W3x b1 b2 ++ R) t) A) mc ms A) (hI : ∀ b1 b2, I (W3x b1 b2)) : Met l y ws rm (va_Pc av (q_N D ci A sa Wd)) (q_Q v (fun t => ∃ W3, I W3 ∧ q_O D A (W3 ++ R) t) A) mc ms A :=
  h.imp (fun _ _ h => h) (fun _ _ _ _ _ h => ⟨h.1, h.2.1.elim (fun b1 q => q.elim (fun b2 q => ⟨_, hI b1 b2, q⟩)), h.2.2⟩)
end LWR
end
section
/-! answers: neighbour, around -/
section S4A
variable {rc cc br zc rw sh cr cq dp wd za fl fk fy : Nat → Int32} {sv : l_T} {N l : Nat}
def l_spot (sv : l_T) (l k ro pl : Nat) : Prop := l < 5 ∧ k < 20000000 ∧ ro ≤ 44 * z_pr (l_R sv) l + 1 ∧ pl < z_rl (z_pr (l_R sv) l) (z_pr (l_C sv) l) ro ∧ k = z_rs (z_pr (l_R sv) l) (z_pr (l_C sv) l) ro + pl
theorem l_spot_one {l k ro pl l' k' ro' pl' : Nat} {p q : Int32} (h : l_ok sv) (h1 : l_spot sv l k ro pl) (h2 : l_spot sv l' k' ro' pl') (p1 : p = nI l) (p2 : p = nI l') (q1 : q = nI k) (q2 : q = nI k') : l = l' ∧ k = k' ∧ ro = ro' ∧ pl = pl' := by
  obtain ⟨b1, b2, d1, d2, d3⟩ := h1
  obtain ⟨b1', b2', d1', d2', d3'⟩ := h2
  have e1 : l = l' := by rw [p1, nI_eq (by omega) (by omega)] at p2; exact p2
  have e2 : k = k' := by rw [q1, nI_eq (by omega) (by omega)] at q2; exact q2
  subst e1 e2
  have e3 : ro = ro' := z_row_one (V := z_pr (l_C sv) l) (h.1.pos l b1).1 d1 d1' (k := k) (by omega) (by omega) (by omega) (by omega)
  subst e3
  exact ⟨rfl, rfl, rfl, by omega⟩
def l_bM (sv : l_T) (l ro pl i : Nat) : Nat := z_bM (z_pr (l_R sv) l) (z_pr (l_C sv) l) ro pl i
def l_bF (sv : l_T) (l ro pl i : Nat) : Nat := z_bF (z_pr (l_R sv) l) (z_pr (l_C sv) l) ro pl i
def l_vnb (M F : Nat) (i : Int32) : Int32 := if i = -1 then nI M else if nI M ≤ i then -2 else nI F + i
def l_aneighbour (sv : l_T) (p q w i r : Int32) : Prop := (¬ (z_hs (z_pr (l_R sv)) (z_pr (l_C sv)) p q ∧ (0 ≤ w.toInt ∧ w.toInt ≤ 3) ∧ -1 ≤ i) ∧ r = -1) ∨ (∃ l k ro pl j, (z_hs (z_pr (l_R sv)) (z_pr (l_C sv)) p q ∧ (0 ≤ w.toInt ∧ w.toInt ≤ 3) ∧ -1 ≤ i) ∧ l_spot sv l k ro pl ∧ p = nI l ∧ q = nI k ∧ j < 4 ∧ w = nI j ∧ r = l_vnb (l_bM sv l ro pl j) (l_bF sv l ro pl j) i)
theorem l_aneighbour_one {p q w i r r' : Int32} (h : l_ok sv) (h1 : l_aneighbour sv p q w i r) (h2 : l_aneighbour sv p q w i r') : r = r' := by
  rcases h1 with ⟨a, b⟩ | ⟨l, k, ro, pl, j, a, b1, c1, c2, d1, d2, e⟩ <;> rcases h2 with ⟨a', b'⟩ | ⟨l', k', ro', pl', j', a', b1', c1', c2', d1', d2', e'⟩
  · exact b.trans b'.symm
  · exact absurd a' a
  · exact absurd a a'
  · obtain ⟨rfl, rfl, rfl, rfl⟩ := l_spot_one h b1 b1' c1 c1' c2 c2'
    have e1 : j = j' := by rw [d2, nI_eq (by omega) (by omega)] at d2'; exact d2'
    subst e1
    exact e.trans e'.symm
theorem l_ne0 {M : Nat} {i : Int32} (h1 : -1 ≤ i) (h2 : ¬ i = -1) (h3 : ¬ nI M ≤ i) : M ≠ 0 := by
  intro h0
  apply h3
  rw [h0, z_le, nI_toInt (by omega)]
  rw [z_le, show (-1 : Int32).toInt = -1 from rfl] at h1
  have h4 : ¬ i.toInt = -1 := fun z => h2 (Int32.toInt_inj.mp (by rw [z]; rfl))
  omega
theorem a_x_neighbour (g : GOK (l_R sv) (l_C sv) (z_pr (l_R sv)) (z_pr (l_C sv)) rc cc br zc rw sh) (hN : 1000000 ≤ N) (f m : Nat → Int32) (a1 a2 a3 a4 a5 a6 p q w i : Int32) : Ok (f_X_neighbour N f m a1 a2 a3 a4 a5 a6 br zc rw sh p q w i) (fun x => l_aneighbour sv p q w i x.1) := by
  unfold f_X_neighbour
  refine Ok.b1 (r_hasSheet g p q) (fun v1 h1 => ?_)
  rcases h1 with ⟨z, rfl⟩ | ⟨z, rfl⟩
  rotate_left
  · exact Ok.ite (fun _ => Ok.ret (Or.inl ⟨fun u => z u.1, rfl⟩)) (fun c => absurd rfl c)
  refine Ok.ite (fun c => absurd c (by decide)) (fun _ => Ok.b1 (s_isFrom w _ _) (fun v2 h2 => ?_))
  rw [show (0 : Int32).toInt = 0 from rfl, show (3 : Int32).toInt = 3 from rfl] at h2
  refine Ok.ite (fun c => Ok.ret (Or.inl ⟨fun u => z_if0 h2 c u.2.1, rfl⟩)) (fun c => ?_)
  have hw := z_if1 h2 c
  refine Ok.ite (fun hi => ?_) (fun hi => Ok.ret (Or.inl ⟨fun u => hi u.2.2, rfl⟩))
  have z' := z
  obtain ⟨l, k, hl, rfl, rfl, hk⟩ := z'
  have hs := g.2.sh hl
  obtain ⟨ro, pl, e, d1, d2, d3⟩ := k_put (N := N) g (by omega) hl hk a1 a2 a3 a4 a5 a6
  obtain ⟨f', m', e2, hfm⟩ := r_lookAround g hl d1 d2 f m
  obtain ⟨j, -, rfl, hj⟩ := z_nat hw.1
  have hj4 : j < 4 := by omega
  obtain ⟨h3, h4⟩ := hfm j hj4
  rw [e, q_b6_s, e2, q_b2_s]
  have fin : ∀ r : Int32, r = l_vnb (l_bM sv l ro pl j) (l_bF sv l ro pl j) i → l_aneighbour sv (nI l) (nI k) (nI j) i r := fun r h => Or.inr ⟨l, k, ro, pl, j, ⟨z, hw, hi⟩, ⟨hl, by omega, d1, d2, d3⟩, rfl, rfl, hj4, rfl, h⟩
  unfold l_vnb at fin
  refine Ok.ite (fun c1 => ?_) (fun c1 => ?_)
  · rw [z_ai hj4 (by omega), h3]
    exact Ok.ret (fin _ (by rw [if_pos c1]; rfl))
  rw [z_ai hj4 (by omega), h3]
  refine Ok.ite (fun c2 => Ok.ret (fin _ (by rw [if_neg c1]; exact (if_pos c2).symm))) (fun c2 => ?_)
  rw [z_ai hj4 (by omega), h4 (l_ne0 hi c1 c2)]
  exact Ok.ret (fin _ (by rw [if_neg c1]; exact (if_neg c2).symm))
theorem r_isSide (w : Int32) : Ok (f_M_isSide w) (fun y => y = if 0 ≤ w.toInt ∧ w.toInt ≤ 3 then 1 else 0) := by
  unfold f_M_isSide
  rw [m_in, q_b1_s, z_toL, show (0 : Int64).toInt = 0 from rfl, show (3 : Int64).toInt = 3 from rfl]
  refine Ok.bo ?_ (Ok.ret rfl)
  split
  · exact Or.inr rfl
  · exact Or.inl rfl
theorem a_m_neighbour (g : MOK (l_R sv) (l_C sv) (z_pr (l_R sv)) (z_pr (l_C sv)) cr cq dp wd za) (hN : 1000000 ≤ N) (fb mb p q w i : Int32) : Ok (f_M_neighbour N dp wd za fb mb p q w i) (fun x => l_aneighbour sv p q w i x.1) := by
  unfold f_M_neighbour
  refine Ok.b1 (r_isKey g p q) (fun v1 h1 => ?_)
  rcases h1 with ⟨z, rfl⟩ | ⟨z, rfl⟩
  rotate_left
  · exact Ok.ite (fun _ => Ok.ret (Or.inl ⟨fun u => z u.1, rfl⟩)) (fun c => absurd rfl c)
  refine Ok.ite (fun c => absurd c (by decide)) (fun _ => Ok.b1 (r_isSide w) (fun v2 h2 => ?_))
  refine Ok.ite (fun c => Ok.ret (Or.inl ⟨fun u => z_if0 h2 c u.2.1, rfl⟩)) (fun c => ?_)
  have hw := z_if1 h2 c
  refine Ok.ite (fun hi => ?_) (fun hi => Ok.ret (Or.inl ⟨fun u => hi u.2.2, rfl⟩))
  have z' := z
  obtain ⟨l, k, hl, rfl, rfl, hk⟩ := z'
  have hs := g.2.2.sh hl
  obtain ⟨ro, pl, d1, d2, d3, -, -⟩ := t_spot (N := N) g (by omega) hl hk
  obtain ⟨j, -, rfl, hj⟩ := z_nat hw.1
  have hj4 : j < 4 := by omega
  obtain ⟨x, e2, h4⟩ := r_laysBeside (N := N) g (by omega) hl d1 d2 fb mb hj4
  rw [← d3] at e2
  rw [e2, q_b2_s]
  have fin : ∀ r : Int32, r = l_vnb (l_bM sv l ro pl j) (l_bF sv l ro pl j) i → l_aneighbour sv (nI l) (nI k) (nI j) i r := fun r h => Or.inr ⟨l, k, ro, pl, j, ⟨z, hw, hi⟩, ⟨hl, by omega, d1, d2, d3⟩, rfl, rfl, hj4, rfl, h⟩
  unfold l_vnb at fin
  refine Ok.ite (fun c1 => Ok.ret (fin _ (by rw [if_pos c1]; rfl))) (fun c1 => Ok.ite (fun c2 => Ok.ret (fin _ (by rw [if_neg c1]; exact (if_pos c2).symm))) (fun c2 => ?_))
  have h5 := h4 (l_ne0 hi c1 c2)
  subst h5
  exact Ok.ret (fin _ (by rw [if_neg c1]; exact (if_neg c2).symm))
end S4A
end
section
/-! answers: wider, jog (l_spot is s4's) -/
section S5A
variable {rc cc br zc rw sh cr cq dp wd za fl fk fy : Nat → Int32} {sv : l_T} {N l : Nat}
def l_hs (sv : l_T) (p q : Int32) : Prop := z_hs (z_pr (l_R sv)) (z_pr (l_C sv)) p q
theorem r_areSheets {R C H V : Nat → Nat} (g : GOK R C H V rc cc br zc rw sh) (p q w : Int32) : Ok (f_X_areSheets sh p q w) (fun x => ((z_hs H V p q ∧ z_hs H V p w) ∧ x = 1) ∨ (¬ (z_hs H V p q ∧ z_hs H V p w) ∧ x = 0)) := by
  unfold f_X_areSheets
  refine Ok.b1 (r_hasSheet g p q) (fun v1 h1 => ?_)
  rcases h1 with ⟨z, rfl⟩ | ⟨z, rfl⟩
  · refine Ok.ite (fun c => absurd c (by decide)) (fun _ => Ok.b1 (r_hasSheet g p w) (fun v2 h2 => ?_))
    rcases h2 with ⟨y, rfl⟩ | ⟨y, rfl⟩
    · exact Ok.ite (fun c => absurd c (by decide)) (fun _ => Ok.ret (Or.inl ⟨⟨z, y⟩, rfl⟩))
    · exact Ok.ite (fun _ => Ok.ret (Or.inr ⟨fun u => y u.2, rfl⟩)) (fun c => absurd rfl c)
  · exact Ok.ite (fun _ => Ok.ret (Or.inr ⟨fun u => z u.1, rfl⟩)) (fun c => absurd rfl c)
def l_rl (sv : l_T) (l ro : Nat) : Nat := z_rl (z_pr (l_R sv) l) (z_pr (l_C sv) l) ro
def l_awider (sv : l_T) (p q w r : Int32) : Prop := (¬ (l_hs sv p q ∧ l_hs sv p w) ∧ r = -1000000) ∨ (∃ l k ro pl k2 ro2 pl2, (l_hs sv p q ∧ l_hs sv p w) ∧ l_spot sv l k ro pl ∧ l_spot sv l k2 ro2 pl2 ∧ p = nI l ∧ q = nI k ∧ w = nI k2 ∧ r = if l_rl sv l ro2 ≤ l_rl sv l ro then (if l_rl sv l ro ≤ l_rl sv l ro2 then 0 else -1) else 1)
theorem l_awider_one {p q w r r' : Int32} (h : l_ok sv) (h1 : l_awider sv p q w r) (h2 : l_awider sv p q w r') : r = r' := by
  rcases h1 with ⟨a, b⟩ | ⟨l, k, ro, pl, k2, ro2, pl2, a, b1, b2, c1, c2, c3, e⟩ <;> rcases h2 with ⟨a', b'⟩ | ⟨l', k', ro', pl', k2', ro2', pl2', a', b1', b2', c1', c2', c3', e'⟩
  · exact b.trans b'.symm
  · exact absurd a' a
  · exact absurd a a'
  · obtain ⟨rfl, rfl, rfl, rfl⟩ := l_spot_one h b1 b1' c1 c1' c2 c2'
    obtain ⟨-, rfl, rfl, rfl⟩ := l_spot_one h b2 b2' c1 c1' c3 c3'
    exact e.trans e'.symm
theorem a_x_wider (g : GOK (l_R sv) (l_C sv) (z_pr (l_R sv)) (z_pr (l_C sv)) rc cc br zc rw sh) (hN : 1000000 ≤ N) (p q w : Int32) : Ok (f_X_wider N br zc rw sh p q w) (fun x => l_awider sv p q w x) := by
  unfold f_X_wider
  refine Ok.b1 (r_areSheets g p q w) (fun v1 h1 => ?_)
  rcases h1 with ⟨z, rfl⟩ | ⟨z, rfl⟩
  rotate_left
  · exact Ok.ite (fun _ => Ok.ret (Or.inl ⟨z, rfl⟩)) (fun c => absurd rfl c)
  refine Ok.ite (fun c => absurd c (by decide)) (fun _ => ?_)
  have z' := z
  obtain ⟨⟨l, k, hl, rfl, rfl, hk⟩, ⟨l', k2, hl', e0, rfl, hk2⟩⟩ := z'
  have e1 : l = l' := by rw [nI_eq (by omega) (by omega)] at e0; exact e0
  subst e1
  have hs := g.2.sh hl
  have hp := g.2.pos l hl
  have hv := g.2.hv hl
  obtain ⟨ro, er, d1, d2, d3⟩ := k_rowOfKey (N := N) g (by omega) hl hk
  obtain ⟨ro2, er2, f1, f2, f3⟩ := k_rowOfKey (N := N) g (by omega) hl hk2
  have la := (z_rl_pos (V := z_pr (l_C sv) l) hp.1 hp.2 d1).2
  have lb := (z_rl_pos (V := z_pr (l_C sv) l) hp.1 hp.2 f1).2
  rw [er, q_b1_s, k_rowLength g hl d1, q_b1_s, er2, q_b1_s, k_rowLength g hl f1, q_b1_s]
  have fin : ∀ r : Int32, r = (if l_rl sv l ro2 ≤ l_rl sv l ro then (if l_rl sv l ro ≤ l_rl sv l ro2 then 0 else -1) else 1) → l_awider sv (nI l) (nI k) (nI k2) r := fun r h => Or.inr ⟨l, k, ro, k - z_rs (z_pr (l_R sv) l) (z_pr (l_C sv) l) ro, k2, ro2, k2 - z_rs (z_pr (l_R sv) l) (z_pr (l_C sv) l) ro2, z, ⟨hl, by omega, d1, by omega, by omega⟩, ⟨hl, by omega, f1, by omega, by omega⟩, rfl, rfl, rfl, h⟩
  unfold f_JInteger_compare_7cf53
  unfold l_rl at fin
  by_cases c1 : z_rl (z_pr (l_R sv) l) (z_pr (l_C sv) l) ro2 ≤ z_rl (z_pr (l_R sv) l) (z_pr (l_C sv) l) ro
  · by_cases c2 : z_rl (z_pr (l_R sv) l) (z_pr (l_C sv) l) ro ≤ z_rl (z_pr (l_R sv) l) (z_pr (l_C sv) l) ro2
    · rw [if_pos ((nI_leI (by omega) (by omega)).mpr c2), if_pos (by rw [Nat.le_antisymm c1 c2]), q_b1_s]
      exact Ok.ret (fin _ (by rw [if_pos c1, if_pos c2]))
    · rw [if_neg (fun z => c2 ((nI_leI (by omega) (by omega)).mp z)), q_b1_s]
      exact Ok.ret (fin _ (by rw [if_pos c1, if_neg c2]))
  · rw [if_pos ((nI_leI (by omega) (by omega)).mpr (by omega)), if_neg (fun z => c1 (by rw [nI_eq (by omega) (by omega)] at z; omega)), q_b1_s]
    exact Ok.ret (fin _ (by rw [if_neg c1]))
theorem a_m_wider (g : MOK (l_R sv) (l_C sv) (z_pr (l_R sv)) (z_pr (l_C sv)) cr cq dp wd za) (hN : 1000000 ≤ N) (p q w : Int32) : Ok (f_M_wider N dp wd za p q w) (fun x => l_awider sv p q w x) := by
  unfold f_M_wider
  refine Ok.b1 (r_isKey g p q) (fun v1 h1 => ?_)
  rcases h1 with ⟨z, rfl⟩ | ⟨z, rfl⟩
  rotate_left
  · exact Ok.ite (fun _ => Ok.ret (Or.inl ⟨fun u => z u.1, rfl⟩)) (fun c => absurd rfl c)
  refine Ok.ite (fun c => absurd c (by decide)) (fun _ => Ok.b1 (r_isKey g p w) (fun v2 h2 => ?_))
  rcases h2 with ⟨y, rfl⟩ | ⟨y, rfl⟩
  rotate_left
  · exact Ok.ite (fun _ => Ok.ret (Or.inl ⟨fun u => y u.2, rfl⟩)) (fun c => absurd rfl c)
  refine Ok.ite (fun c => absurd c (by decide)) (fun _ => ?_)
  have z' := z
  have y' := y
  obtain ⟨l, k, hl, rfl, rfl, hk⟩ := z'
  obtain ⟨l', k2, hl', e0, rfl, hk2⟩ := y'
  have e1 : l = l' := by rw [nI_eq (by omega) (by omega)] at e0; exact e0
  subst e1
  have hs := g.2.2.sh hl
  have hp := g.2.2.pos l hl
  have hv := g.2.2.hv hl
  obtain ⟨ro, er, d1, d2, d3⟩ := m_rowOf (N := N) g (by omega) hl hk
  obtain ⟨ro2, er2, f1, f2, f3⟩ := m_rowOf (N := N) g (by omega) hl hk2
  have la := (z_rl_pos (V := z_pr (l_C sv) l) hp.1 hp.2 d1).2
  have lb := (z_rl_pos (V := z_pr (l_C sv) l) hp.1 hp.2 f1).2
  rw [er, q_b1_s, m_many g hl d1, q_b1_s, er2, q_b1_s, m_many g hl f1, q_b1_s]
  have fin : ∀ r : Int32, r = (if l_rl sv l ro2 ≤ l_rl sv l ro then (if l_rl sv l ro ≤ l_rl sv l ro2 then 0 else -1) else 1) → l_awider sv (nI l) (nI k) (nI k2) r := fun r h => Or.inr ⟨l, k, ro, k - z_rs (z_pr (l_R sv) l) (z_pr (l_C sv) l) ro, k2, ro2, k2 - z_rs (z_pr (l_R sv) l) (z_pr (l_C sv) l) ro2, ⟨z, y⟩, ⟨hl, by omega, d1, by omega, by omega⟩, ⟨hl, by omega, f1, by omega, by omega⟩, rfl, rfl, rfl, h⟩
  unfold l_rl at fin
  refine Ok.ite (fun c1 => Ok.ite (fun c2 => ?_) (fun c2 => ?_)) (fun c1 => ?_)
  all_goals rw [nI_leI (by omega) (by omega)] at c1
  · rw [nI_leI (by omega) (by omega)] at c2
    exact Ok.ret (fin _ (by rw [if_pos c1, if_pos c2]))
  · rw [nI_leI (by omega) (by omega)] at c2
    exact Ok.ret (fin _ (by rw [if_pos c1, if_neg c2]))
  · exact Ok.ret (fin _ (by rw [if_neg c1]))
/-! jog -/
def l_vjog (sv : l_T) (l ro : Nat) (w : Int32) : Int32 := if w = 0 then (if ro = 0 then 0 else if l_rl sv l (ro - 1) = l_rl sv l ro then 0 else 1) else if w = 2 then (if ro = 44 * z_pr (l_R sv) l + 1 then 0 else if l_rl sv l (ro + 1) = l_rl sv l ro then 0 else 1) else -1
def l_ajog (sv : l_T) (p q w r : Int32) : Prop := (¬ l_hs sv p q ∧ r = -1) ∨ (∃ l k ro pl, l_hs sv p q ∧ l_spot sv l k ro pl ∧ p = nI l ∧ q = nI k ∧ r = l_vjog sv l ro w)
theorem l_ajog_one {p q w r r' : Int32} (h : l_ok sv) (h1 : l_ajog sv p q w r) (h2 : l_ajog sv p q w r') : r = r' := by
  rcases h1 with ⟨a, b⟩ | ⟨l, k, ro, pl, a, b1, c1, c2, e⟩ <;> rcases h2 with ⟨a', b'⟩ | ⟨l', k', ro', pl', a', b1', c1', c2', e'⟩
  · exact b.trans b'.symm
  · exact absurd a' a
  · exact absurd a a'
  · obtain ⟨rfl, rfl, rfl, rfl⟩ := l_spot_one h b1 b1' c1 c1' c2 c2'
    exact e.trans e'.symm
theorem a_x_jog (g : GOK (l_R sv) (l_C sv) (z_pr (l_R sv)) (z_pr (l_C sv)) rc cc br zc rw sh) (hN : 1000000 ≤ N) (a1 a2 a3 a4 a5 a6 p q w : Int32) : Ok (f_X_jog N a1 a2 a3 a4 a5 a6 br zc rw sh p q w) (fun x => l_ajog sv p q w x.1) := by
  unfold f_X_jog
  refine Ok.b1 (r_hasSheet g p q) (fun v1 h1 => ?_)
  rcases h1 with ⟨z, rfl⟩ | ⟨z, rfl⟩
  rotate_left
  · exact Ok.ite (fun _ => Ok.ret (Or.inl ⟨z, rfl⟩)) (fun c => absurd rfl c)
  refine Ok.ite (fun c => absurd c (by decide)) (fun _ => ?_)
  have z' := z
  obtain ⟨l, k, hl, rfl, rfl, hk⟩ := z'
  have hs := g.2.sh hl
  have hp := g.2.pos l hl
  have hv := g.2.hv hl
  obtain ⟨ro, pl, e, d1, d2, d3⟩ := k_put (N := N) g (by omega) hl hk a1 a2 a3 a4 a5 a6
  have la := (z_rl_pos (V := z_pr (l_C sv) l) hp.1 hp.2 d1).2
  have fin : ∀ r : Int32, r = l_vjog sv l ro w → l_ajog sv (nI l) (nI k) w r := fun r h => Or.inr ⟨l, k, ro, pl, z, ⟨hl, by omega, d1, d2, d3⟩, rfl, rfl, h⟩
  unfold l_vjog l_rl at fin
  rw [e]
  refine Ok.j0 ?_
  have t0 : (0 : Int32).toInt = 0 := rfl
  by_cases c0 : w = 0
  · rw [if_pos c0] at fin
    rw [if_pos c0, q_b6_s]
    refine Ok.j1 ?_
    rw [if_pos c0]
    dsimp only
    rw [z_ai hl (by omega), (g.at hl).2.2.2.2.1, show nI (44 * z_pr (l_R sv) l + 2) - 1 = nI (44 * z_pr (l_R sv) l + 1) from z_sub1 (by omega)]
    refine Ok.b1 (s_isFrom _ _ _) (fun v10 h10 => ?_)
    by_cases r0 : ro = 0
    · rw [r0, t0, if_neg (show ¬ (0 ≤ (nI 0 - 1).toInt ∧ (nI 0 - 1).toInt ≤ (nI (44 * z_pr (l_R sv) l + 1)).toInt) from fun z => absurd z.1 (by decide))] at h10
      subst h10
      exact Ok.ite (fun _ => Ok.ret (fin _ (by rw [if_pos r0]))) (fun c => absurd rfl c)
    · rw [z_sub1 (by omega), t0, nI_toInt (by omega), nI_toInt (by omega), if_pos (by omega)] at h10
      subst h10
      refine Ok.ite (fun c => absurd c (by decide)) (fun _ => ?_)
      have lb := (z_rl_pos (V := z_pr (l_C sv) l) hp.1 hp.2 (show ro - 1 ≤ _ by omega)).2
      rw [z_sub1 (by omega), k_rowLength g hl (show ro - 1 ≤ _ by omega), q_b1_s]
      refine Ok.ite (fun c => ?_) (fun c => ?_)
      all_goals rw [nI_eq (by omega) (by omega)] at c
      · exact Ok.ret (fin _ (by rw [if_neg r0, if_pos c]))
      · exact Ok.ret (fin _ (by rw [if_neg r0, if_neg c]))
  · rw [if_neg c0] at fin
    rw [if_neg c0]
    by_cases c2 : w = 2
    · rw [if_pos c2] at fin
      rw [if_pos c2, q_b6_s]
      refine Ok.j1 ?_
      rw [if_neg c0, nI_1]
      dsimp only
      rw [z_ai hl (by omega), (g.at hl).2.2.2.2.1, show nI (44 * z_pr (l_R sv) l + 2) - 1 = nI (44 * z_pr (l_R sv) l + 1) from z_sub1 (by omega)]
      refine Ok.b1 (s_isFrom _ _ _) (fun v10 h10 => ?_)
      rw [t0, nI_toInt (by omega), nI_toInt (by omega)] at h10
      by_cases r0 : ro = 44 * z_pr (l_R sv) l + 1
      · rw [if_neg (by omega)] at h10
        subst h10
        exact Ok.ite (fun _ => Ok.ret (fin _ (by rw [if_pos r0]))) (fun c => absurd rfl c)
      · rw [if_pos (by omega)] at h10
        subst h10
        refine Ok.ite (fun c => absurd c (by decide)) (fun _ => ?_)
        have lb := (z_rl_pos (V := z_pr (l_C sv) l) hp.1 hp.2 (show ro + 1 ≤ _ by omega)).2
        rw [k_rowLength g hl (show ro + 1 ≤ _ by omega), q_b1_s]
        refine Ok.ite (fun c => ?_) (fun c => ?_)
        all_goals rw [nI_eq (by omega) (by omega)] at c
        · exact Ok.ret (fin _ (by rw [if_neg r0, if_pos c]))
        · exact Ok.ret (fin _ (by rw [if_neg r0, if_neg c]))
    · rw [if_neg c2] at fin
      rw [if_neg c2]
      exact Ok.ret (fin _ rfl)
theorem a_m_jog (g : MOK (l_R sv) (l_C sv) (z_pr (l_R sv)) (z_pr (l_C sv)) cr cq dp wd za) (hN : 1000000 ≤ N) (p q w : Int32) : Ok (f_M_jog N dp wd za p q w) (fun x => l_ajog sv p q w x) := by
  unfold f_M_jog
  refine Ok.b1 (r_isKey g p q) (fun v1 h1 => ?_)
  rcases h1 with ⟨z, rfl⟩ | ⟨z, rfl⟩
  rotate_left
  · exact Ok.ite (fun _ => Ok.ret (Or.inl ⟨z, rfl⟩)) (fun c => absurd rfl c)
  refine Ok.ite (fun c => absurd c (by decide)) (fun _ => ?_)
  have z' := z
  obtain ⟨l, k, hl, rfl, rfl, hk⟩ := z'
  have hs := g.2.2.sh hl
  have hp := g.2.2.pos l hl
  have hv := g.2.2.hv hl
  obtain ⟨ro, pl, d1, d2, d3, er, -⟩ := t_spot (N := N) g (by omega) hl hk
  have la := (z_rl_pos (V := z_pr (l_C sv) l) hp.1 hp.2 d1).2
  have fin : ∀ r : Int32, r = l_vjog sv l ro w → l_ajog sv (nI l) (nI k) w r := fun r h => Or.inr ⟨l, k, ro, pl, z, ⟨hl, by omega, d1, d2, d3⟩, rfl, rfl, h⟩
  unfold l_vjog l_rl at fin
  rw [er]
  refine Ok.j0 ?_
  have t0 : (0 : Int64).toInt = 0 := rfl
  by_cases c0 : w = 0
  · rw [if_pos c0] at fin
    rw [if_pos c0, q_b1_s]
    refine Ok.j1 ?_
    rw [if_pos c0]
    dsimp only
    rw [m_lastRow g hl, q_b1_s]
    refine Ok.b1 (t_in _ _ _) (fun v10 h10 => ?_)
    rw [t0, z_toL, z_toL] at h10
    by_cases r0 : ro = 0
    · rw [r0, if_neg (show ¬ (0 ≤ (nI 0 - 1).toInt ∧ (nI 0 - 1).toInt ≤ (nI (44 * z_pr (l_R sv) l + 1)).toInt) from fun z => absurd z.1 (by decide))] at h10
      subst h10
      exact Ok.ite (fun _ => Ok.ret (fin _ (by rw [if_pos r0]))) (fun c => absurd rfl c)
    · rw [z_sub1 (by omega), nI_toInt (by omega), nI_toInt (by omega), if_pos (by omega)] at h10
      subst h10
      refine Ok.ite (fun c => absurd c (by decide)) (fun _ => ?_)
      have lb := (z_rl_pos (V := z_pr (l_C sv) l) hp.1 hp.2 (show ro - 1 ≤ _ by omega)).2
      rw [z_sub1 (by omega), m_many g hl (show ro - 1 ≤ _ by omega), q_b1_s, m_many g hl d1, q_b1_s]
      refine Ok.ite (fun c => ?_) (fun c => ?_)
      all_goals rw [nI_eq (by omega) (by omega)] at c
      · exact Ok.ret (fin _ (by rw [if_neg r0, if_pos c]))
      · exact Ok.ret (fin _ (by rw [if_neg r0, if_neg c]))
  · rw [if_neg c0] at fin
    rw [if_neg c0]
    by_cases c2 : w = 2
    · rw [if_pos c2] at fin
      rw [if_pos c2, q_b1_s]
      refine Ok.j1 ?_
      rw [if_neg c0, nI_1]
      dsimp only
      rw [m_lastRow g hl, q_b1_s]
      refine Ok.b1 (t_in _ _ _) (fun v10 h10 => ?_)
      rw [t0, z_toL, z_toL, nI_toInt (by omega), nI_toInt (by omega)] at h10
      by_cases r0 : ro = 44 * z_pr (l_R sv) l + 1
      · rw [if_neg (by omega)] at h10
        subst h10
        exact Ok.ite (fun _ => Ok.ret (fin _ (by rw [if_pos r0]))) (fun c => absurd rfl c)
      · rw [if_pos (by omega)] at h10
        subst h10
        refine Ok.ite (fun c => absurd c (by decide)) (fun _ => ?_)
        have lb := (z_rl_pos (V := z_pr (l_C sv) l) hp.1 hp.2 (show ro + 1 ≤ _ by omega)).2
        rw [m_many g hl (show ro + 1 ≤ _ by omega), q_b1_s, m_many g hl d1, q_b1_s]
        refine Ok.ite (fun c => ?_) (fun c => ?_)
        all_goals rw [nI_eq (by omega) (by omega)] at c
        · exact Ok.ret (fin _ (by rw [if_neg r0, if_pos c]))
        · exact Ok.ret (fin _ (by rw [if_neg r0, if_neg c]))
    · rw [if_neg c2] at fin
      rw [if_neg c2]
      exact Ok.ret (fin _ rfl)
end S5A
end
section
/-! answers: a spot's generic words; around -/
section S6A
variable {rc cc br zc rw sh cr cq dp wd za fl fk fy : Nat → Int32} {sv : l_T} {N l : Nat}
/-- an answer: what is refused, else what a good start gives -/
def l_rel {σ : Type} (C : Prop) (c : Int32) (S : σ → Prop) (f : σ → Int32) (r : Int32) : Prop := (¬ C ∧ r = c) ∨ (C ∧ ∃ s, S s ∧ r = f s)
theorem l_rel_one {σ : Type} {C : Prop} {c : Int32} {S : σ → Prop} {f : σ → Int32} {r r' : Int32} (hS : ∀ s s', S s → S s' → s = s') (h1 : l_rel C c S f r) (h2 : l_rel C c S f r') : r = r' := by
  rcases h1 with ⟨a, b⟩ | ⟨a, s, h, e⟩ <;> rcases h2 with ⟨a', b'⟩ | ⟨a', s', h', e'⟩
  · exact b.trans b'.symm
  · exact absurd a' a
  · exact absurd a a'
  · rw [hS s s' h h'] at e
    exact e.trans e'.symm
theorem l_relN {σ : Type} {C : Prop} {c : Int32} {S : σ → Prop} {f : σ → Int32} (h : ¬ C) : l_rel C c S f c := Or.inl ⟨h, rfl⟩
theorem l_relY {σ : Type} {C : Prop} {c r : Int32} {S : σ → Prop} {f : σ → Int32} (h : C) {s : σ} (hs : S s) (e : r = f s) : l_rel C c S f r := Or.inr ⟨h, s, hs, e⟩
/-- a sheet: level, key, row, place -/
def l_sp (sv : l_T) (p q : Int32) (s : Nat × Nat × Nat × Nat) : Prop := l_spot sv s.1 s.2.1 s.2.2.1 s.2.2.2 ∧ p = nI s.1 ∧ q = nI s.2.1
theorem l_sp_one {p q : Int32} (h : l_ok sv) : ∀ s s' : Nat × Nat × Nat × Nat, l_sp sv p q s → l_sp sv p q s' → s = s' := by
  intro ⟨l, k, ro, pl⟩ ⟨l', k', ro', pl'⟩ ⟨h1, h2, h3⟩ ⟨h1', h2', h3'⟩
  obtain ⟨rfl, rfl, rfl, rfl⟩ := l_spot_one h h1 h1' h2 h2' h3 h3'
  rfl
theorem z_bM0 {H0 V0 r p : Nat} : z_bM H0 V0 r p 0 = if r = 0 then 0 else ((p + 1) * z_rl H0 V0 (r - 1) - 1) / z_rl H0 V0 r - p * z_rl H0 V0 (r - 1) / z_rl H0 V0 r + 1 := if_pos rfl
theorem z_bM2 {H0 V0 r p : Nat} : z_bM H0 V0 r p 2 = if r = 44 * H0 + 1 then 0 else ((p + 1) * z_rl H0 V0 (r + 1) - 1) / z_rl H0 V0 r - p * z_rl H0 V0 (r + 1) / z_rl H0 V0 r + 1 := (if_neg (show ¬ (2 : Nat) = 0 by omega)).trans (if_pos rfl)
theorem z_bM1 {H0 V0 r p : Nat} : z_bM H0 V0 r p 1 = if r = 0 ∨ r = 44 * H0 + 1 then 0 else 1 := (if_neg (show ¬ (1 : Nat) = 0 by omega)).trans (if_neg (show ¬ (1 : Nat) = 2 by omega))
theorem z_bM3 {H0 V0 r p : Nat} : z_bM H0 V0 r p 3 = if r = 0 ∨ r = 44 * H0 + 1 then 0 else 1 := (if_neg (show ¬ (3 : Nat) = 0 by omega)).trans (if_neg (show ¬ (3 : Nat) = 2 by omega))
theorem z_bF0 {H0 V0 r p : Nat} : z_bF H0 V0 r p 0 = z_rs H0 V0 (r - 1) + p * z_rl H0 V0 (r - 1) / z_rl H0 V0 r := if_pos rfl
theorem z_bF2 {H0 V0 r p : Nat} : z_bF H0 V0 r p 2 = z_rs H0 V0 (r + 1) + p * z_rl H0 V0 (r + 1) / z_rl H0 V0 r := (if_neg (show ¬ (2 : Nat) = 0 by omega)).trans (if_pos rfl)
theorem z_bF1 {H0 V0 r p : Nat} : z_bF H0 V0 r p 1 = z_rs H0 V0 r + (p + 1) % z_rl H0 V0 r := (if_neg (show ¬ (1 : Nat) = 0 by omega)).trans ((if_neg (show ¬ (1 : Nat) = 2 by omega)).trans (if_pos rfl))
theorem z_bF3 {H0 V0 r p : Nat} : z_bF H0 V0 r p 3 = z_rs H0 V0 r + (p + (z_rl H0 V0 r - 1)) % z_rl H0 V0 r := (if_neg (show ¬ (3 : Nat) = 0 by omega)).trans ((if_neg (show ¬ (3 : Nat) = 2 by omega)).trans (if_neg (show ¬ (3 : Nat) = 1 by omega)))
theorem z_bB {H0 V0 r p : Nat} (hH : 1 ≤ H0) (hV : 1 ≤ V0) (hr : r ≤ 44 * H0 + 1) (hp : p < z_rl H0 V0 r) {i : Nat} (hi : i < 4) : z_bM H0 V0 r p i ≤ 60 * V0 ∧ (z_bM H0 V0 r p i ≠ 0 → z_bF H0 V0 r p i + z_bM H0 V0 r p i ≤ 2130 * (H0 * V0) + 2) := by
  have la := z_rl_pos hH hV hr
  have hre := z_rs_end (V := V0) hH hr
  have key : ∀ b, b ≤ 44 * H0 + 1 → ((p + 1) * z_rl H0 V0 b - 1) / z_rl H0 V0 r - p * z_rl H0 V0 b / z_rl H0 V0 r + 1 ≤ 60 * V0 ∧ z_rs H0 V0 b + p * z_rl H0 V0 b / z_rl H0 V0 r + (((p + 1) * z_rl H0 V0 b - 1) / z_rl H0 V0 r - p * z_rl H0 V0 b / z_rl H0 V0 r + 1) ≤ 2130 * (H0 * V0) + 2 := by
    intro b hb
    have lb := z_rl_pos hH hV hb
    have hbe := z_rs_end (V := V0) hH hb
    have m1 : (p + 1) * z_rl H0 V0 b ≤ z_rl H0 V0 r * z_rl H0 V0 b := Nat.mul_le_mul_right _ (by omega)
    have m2 : 1 * 1 ≤ (p + 1) * z_rl H0 V0 b := Nat.mul_le_mul (by omega) lb.1
    have d1 : ((p + 1) * z_rl H0 V0 b - 1) / z_rl H0 V0 r < z_rl H0 V0 b := Nat.div_lt_of_lt_mul (by omega)
    have e : (p + 1) * z_rl H0 V0 b = p * z_rl H0 V0 b + z_rl H0 V0 b := Nat.succ_mul _ _
    have d2 : p * z_rl H0 V0 b / z_rl H0 V0 r ≤ ((p + 1) * z_rl H0 V0 b - 1) / z_rl H0 V0 r := Nat.div_le_div_right (by omega)
    generalize ((p + 1) * z_rl H0 V0 b - 1) / z_rl H0 V0 r = y at *
    generalize p * z_rl H0 V0 b / z_rl H0 V0 r = x at *
    exact ⟨by omega, by omega⟩
  rcases (show i = 0 ∨ i = 2 ∨ i = 1 ∨ i = 3 by omega) with rfl | rfl | rfl | rfl
  · rw [z_bM0, z_bF0]
    by_cases h0 : r = 0
    · rw [if_pos h0]; exact ⟨Nat.zero_le _, fun z => absurd rfl z⟩
    · rw [if_neg h0]; exact ⟨(key (r - 1) (by omega)).1, fun _ => (key (r - 1) (by omega)).2⟩
  · rw [z_bM2, z_bF2]
    by_cases h0 : r = 44 * H0 + 1
    · rw [if_pos h0]; exact ⟨Nat.zero_le _, fun z => absurd rfl z⟩
    · rw [if_neg h0]; exact ⟨(key (r + 1) (by omega)).1, fun _ => (key (r + 1) (by omega)).2⟩
  · have h2 : (p + 1) % z_rl H0 V0 r < z_rl H0 V0 r := Nat.mod_lt _ (by omega)
    rw [z_bM1, z_bF1]
    by_cases h0 : r = 0 ∨ r = 44 * H0 + 1
    · rw [if_pos h0]; exact ⟨Nat.zero_le _, fun z => absurd rfl z⟩
    · rw [if_neg h0]; exact ⟨by omega, fun _ => by omega⟩
  · have h2 : (p + (z_rl H0 V0 r - 1)) % z_rl H0 V0 r < z_rl H0 V0 r := Nat.mod_lt _ (by omega)
    rw [z_bM3, z_bF3]
    by_cases h0 : r = 0 ∨ r = 44 * H0 + 1
    · rw [if_pos h0]; exact ⟨Nat.zero_le _, fun z => absurd rfl z⟩
    · rw [if_neg h0]; exact ⟨by omega, fun _ => by omega⟩
theorem z_bM13 {H0 V0 r p : Nat} : z_bM H0 V0 r p 1 = z_bM H0 V0 r p 3 ∧ z_bM H0 V0 r p 1 ≤ 1 := by
  rw [z_bM1, z_bM3]
  exact ⟨rfl, by split <;> omega⟩
/-- the i-th of all neighbours, by keys -/
def l_nA (M F : Nat → Nat) (j : Nat) : Nat := if j < M 0 then F 0 + j else if j - M 0 < M 1 + M 3 then (if j - M 0 = 0 then (if F 3 < F 1 then F 3 else F 1) else (if F 3 ≤ F 1 then F 1 else F 3)) else F 2 + (j - M 0 - M 1 - M 3)
def l_tot (M : Nat → Nat) : Nat := M 0 + M 1 + M 2 + M 3
/-- rows of neighbours, as both sides have them -/
def l_MF (M F : Nat → Nat) : Prop := (M 1 = M 3 ∧ M 1 ≤ 1) ∧ ∀ i, i < 4 → M i ≤ 600000 ∧ (M i ≠ 0 → F i + M i ≤ 20000000)
theorem l_MF_of {R C H V : Nat → Nat} (g : CUT R C H V) (hl : l < 5) {r p : Nat} (hr : r ≤ 44 * H l + 1) (hp : p < z_rl (H l) (V l) r) : l_MF (z_bM (H l) (V l) r p) (z_bF (H l) (V l) r p) := by
  have hv := g.hv hl
  have hps := g.pos l hl
  have hs := g.sh hl
  refine ⟨z_bM13, fun i hi => ?_⟩
  obtain ⟨h1, h2⟩ := z_bB hps.1 hps.2 hr hp hi
  exact ⟨by omega, fun z => by have := h2 z; omega⟩
theorem r_besideKey {f m : Nat → Int32} {F M : Nat → Nat} (h : l_MF M F) (hfm : ∀ i, i < 4 → m i = nI (M i) ∧ (M i ≠ 0 → f i = nI (F i))) {i : Nat} (hi : i < l_tot M) : f_Spot_besideKey f m (nI i) = some (nI (l_nA M F i)) := by
  unfold l_tot at hi
  obtain ⟨⟨h13, h1⟩, hh⟩ := h
  obtain ⟨b0, s0⟩ := hh 0 (by omega)
  obtain ⟨b1, s1⟩ := hh 1 (by omega)
  obtain ⟨b2, s2⟩ := hh 2 (by omega)
  obtain ⟨b3, s3⟩ := hh 3 (by omega)
  obtain ⟨m0, f0⟩ := hfm 0 (by omega)
  obtain ⟨m1, f1⟩ := hfm 1 (by omega)
  obtain ⟨m2, f2⟩ := hfm 2 (by omega)
  obtain ⟨m3, f3⟩ := hfm 3 (by omega)
  unfold f_Spot_besideKey l_nA
  rw [show (0 : Int32) = nI 0 from rfl, z_ai (by omega) (by omega), m0]
  by_cases c0 : M 0 ≤ i
  · rw [if_pos (by rw [nI_leI (by omega) (by omega)]; exact c0), z_ai (by omega) (by omega), m0, z_nm, pk_sub c0, z_i 1, z_ai (by omega) (by omega), z_i 3, z_ai (by omega) (by omega), m1, m3, nI_add, if_neg (show ¬ i < M 0 by omega)]
    by_cases c1 : i - M 0 < M 1 + M 3
    · have n1 : M 1 ≠ 0 := by omega
      have n3 : M 3 ≠ 0 := by omega
      have t1 := s1 n1
      have t3 := s3 n3
      rw [if_pos (by rw [nI_ltI (by omega) (by omega)]; exact c1), if_pos c1]
      by_cases c2 : i - M 0 = 0
      · rw [if_pos (by rw [c2]), if_pos c2, z_ai (by omega) (by omega), z_ai (by omega) (by omega), z_nm, f1 n1, f3 n3]
        by_cases c3 : F 3 < F 1
        · rw [if_pos (by rw [nI_ltI (by omega) (by omega)]; exact c3), if_pos c3]
        · rw [if_neg (by rw [nI_ltI (by omega) (by omega)]; exact c3), if_neg c3]
      · rw [if_neg (by rw [nI_eq (by omega) (by omega)]; exact c2), if_neg c2, z_ai (by omega) (by omega), z_ai (by omega) (by omega), z_nm, f1 n1, f3 n3]
        by_cases c3 : F 1 < F 3
        · rw [if_pos (by rw [nI_ltI (by omega) (by omega)]; exact c3), if_neg (by omega)]
        · rw [if_neg (by rw [nI_ltI (by omega) (by omega)]; exact c3), if_pos (by omega)]
    · have n2 : M 2 ≠ 0 := by omega
      have t2 := s2 n2
      rw [if_neg (by rw [nI_ltI (by omega) (by omega)]; exact c1), if_neg c1, z_i 2, z_ai (by omega) (by omega), z_ai (by omega) (by omega), z_ai (by omega) (by omega), f2 n2, m1, m3, nI_add, pk_sub (by omega), pk_sub (by omega)]
      refine congrArg (fun z => some (nI z)) ?_
      omega
  · rw [if_neg (by rw [nI_leI (by omega) (by omega)]; exact c0), z_ai (by omega) (by omega), f0 (by omega), nI_add, if_pos (by omega)]
theorem r_allBeside {f m : Nat → Int32} {F M : Nat → Nat} (hfm : ∀ i, i < 4 → m i = nI (M i) ∧ (M i ≠ 0 → f i = nI (F i))) : f_Spot_allBeside m = some (nI (l_tot M)) := by
  unfold f_Spot_allBeside l_tot
  rw [show (0 : Int32) = nI 0 from rfl, z_ai (by omega) (by omega), z_i 1, z_ai (by omega) (by omega), z_i 2, z_ai (by omega) (by omega), z_i 3, z_ai (by omega) (by omega), (hfm 0 (by omega)).1, (hfm 1 (by omega)).1, (hfm 2 (by omega)).1, (hfm 3 (by omega)).1, nI_add, nI_add, nI_add]
theorem r_allBesideM_L {R C H V : Nat → Nat} (g : MOK R C H V cr cq dp wd za) (hN : 50 ≤ N) (hl : l < 5) {r p : Nat} (hr : r ≤ 44 * H l + 1) (hp : p < z_rl (H l) (V l) r) : ∀ n i t (a b : Int32), i ≤ 4 → 4 - i < n → (t = (if i = 0 then 0 else z_bM (H l) (V l) r p 0) + (if i ≤ 1 then 0 else z_bM (H l) (V l) r p 1) + (if i ≤ 2 then 0 else z_bM (H l) (V l) r p 2) + (if i ≤ 3 then 0 else z_bM (H l) (V l) r p 3)) → Ok (f_M_allBeside_L5 N dp wd za (nI l) (nI (z_rs (H l) (V l) r + p)) n (nI t) (nI i) a b) (fun x => x.1 = nI (l_tot (z_bM (H l) (V l) r p))) := by
  intro n
  induction n with
  | zero => intro i t a b h1 h2; omega
  | succ n ih =>
    intro i t a b h1 h2 ht
    unfold f_M_allBeside_L5
    refine Ok.ite (fun c => ?_) (fun c => ?_)
    all_goals rw [z_i 4, nI_leI (by omega) (by omega)] at c
    · have e : i = 4 := by omega
      subst e
      rw [if_neg (by omega), if_neg (by omega), if_neg (by omega), if_neg (by omega)] at ht
      exact Ok.ret (by rw [ht]; rfl)
    · obtain ⟨x, e2, -⟩ := r_laysBeside (N := N) g hN hl hr hp a b (i := i) (by omega)
      rw [e2, q_b2_s, nI_add, z_nm, z_i 1, nI_add, z_nm]
      refine ih (i + 1) _ _ _ (by omega) (by omega) ?_
      rcases (show i = 0 ∨ i = 1 ∨ i = 2 ∨ i = 3 by omega) with rfl | rfl | rfl | rfl
      · rw [if_pos rfl, if_pos (by omega), if_pos (by omega), if_pos (by omega)] at ht
        rw [if_neg (by omega), if_pos (by omega), if_pos (by omega), if_pos (by omega)]
        omega
      · rw [if_neg (by omega), if_pos (by omega), if_pos (by omega), if_pos (by omega)] at ht
        rw [if_neg (by omega), if_neg (by omega), if_pos (by omega), if_pos (by omega)]
        omega
      · rw [if_neg (by omega), if_neg (by omega), if_pos (by omega), if_pos (by omega)] at ht
        rw [if_neg (by omega), if_neg (by omega), if_neg (by omega), if_pos (by omega)]
        omega
      · rw [if_neg (by omega), if_neg (by omega), if_neg (by omega), if_pos (by omega)] at ht
        rw [if_neg (by omega), if_neg (by omega), if_neg (by omega), if_neg (by omega)]
        omega
theorem r_allBesideM {R C H V : Nat → Nat} (g : MOK R C H V cr cq dp wd za) (hN : 50 ≤ N) (hl : l < 5) {r p : Nat} (hr : r ≤ 44 * H l + 1) (hp : p < z_rl (H l) (V l) r) (a b : Int32) : Ok (f_M_allBeside N dp wd za a b (nI l) (nI (z_rs (H l) (V l) r + p))) (fun x => x.1 = nI (l_tot (z_bM (H l) (V l) r p))) := by
  unfold f_M_allBeside
  rw [z_nm, z_nm]
  exact Ok.b3 (r_allBesideM_L g hN hl hr hp N 0 0 a b (by omega) (by omega) (by rw [if_pos rfl, if_pos (by omega), if_pos (by omega), if_pos (by omega)])) (fun x1 x2 x3 h => Ok.ret h)
theorem r_besideAllM {R C H V : Nat → Nat} (g : MOK R C H V cr cq dp wd za) (hN : 50 ≤ N) (hl : l < 5) {r p : Nat} (hr : r ≤ 44 * H l + 1) (hp : p < z_rl (H l) (V l) r) (a b : Int32) {i : Nat} (hi : i < l_tot (z_bM (H l) (V l) r p)) : Ok (f_M_besideAll N dp wd za a b (nI l) (nI (z_rs (H l) (V l) r + p)) (nI i)) (fun x => x.1 = nI (l_nA (z_bM (H l) (V l) r p) (z_bF (H l) (V l) r p) i)) := by
  have hMF := l_MF_of g.2.2 hl hr hp
  unfold l_tot at hi
  obtain ⟨⟨h13, h1⟩, hh⟩ := hMF
  obtain ⟨b0, s0⟩ := hh 0 (by omega)
  obtain ⟨b1, s1⟩ := hh 1 (by omega)
  obtain ⟨b2, s2⟩ := hh 2 (by omega)
  obtain ⟨b3, s3⟩ := hh 3 (by omega)
  unfold f_M_besideAll l_nA
  obtain ⟨x0, e0, f0⟩ := r_laysBeside (N := N) g hN hl hr hp a b (i := 0) (by omega)
  rw [show (0 : Int32) = nI 0 from rfl, e0, q_b2_s]
  refine Ok.ite (fun c0 => ?_) (fun c0 => ?_)
  all_goals rw [nI_leI (by omega) (by omega)] at c0
  · obtain ⟨x1, e1, f1⟩ := r_laysBeside (N := N) g hN hl hr hp x0 (nI (z_bM (H l) (V l) r p 0)) (i := 1) (by omega)
    obtain ⟨x3, e3, f3⟩ := r_laysBeside (N := N) g hN hl hr hp x1 (nI (z_bM (H l) (V l) r p 1)) (i := 3) (by omega)
    obtain ⟨x2, e2, f2⟩ := r_laysBeside (N := N) g hN hl hr hp x3 (nI (z_bM (H l) (V l) r p 3)) (i := 2) (by omega)
    rw [pk_sub c0, z_nm, z_i 1, e1, q_b2_s, z_i 3, e3, q_b2_s, if_neg (show ¬ i < z_bM (H l) (V l) r p 0 by omega)]
    have K : 2 * z_bM (H l) (V l) r p 1 ≤ i - z_bM (H l) (V l) r p 0 → Ok (q_nm ((nI (i - z_bM (H l) (V l) r p 0) - (2 * nI (z_bM (H l) (V l) r p 1))) : Int32) (fun (v8 : Int32) => q_b2 (f_M_laysBeside N dp wd za x3 (nI (z_bM (H l) (V l) r p 3)) (nI l) (nI (z_rs (H l) (V l) r + p)) 2) (fun (v9 : Int32) (v10 : Int32) => if v10 ≤ v8 then (some ((-1), v9, v10)) else (some ((v9 + v8), v9, v10))))) (fun x : Int32 × Int32 × Int32 => x.1 = nI (if i - z_bM (H l) (V l) r p 0 < z_bM (H l) (V l) r p 1 + z_bM (H l) (V l) r p 3 then (if i - z_bM (H l) (V l) r p 0 = 0 then (if z_bF (H l) (V l) r p 3 < z_bF (H l) (V l) r p 1 then z_bF (H l) (V l) r p 3 else z_bF (H l) (V l) r p 1) else (if z_bF (H l) (V l) r p 3 ≤ z_bF (H l) (V l) r p 1 then z_bF (H l) (V l) r p 1 else z_bF (H l) (V l) r p 3)) else z_bF (H l) (V l) r p 2 + (i - z_bM (H l) (V l) r p 0 - z_bM (H l) (V l) r p 1 - z_bM (H l) (V l) r p 3))) := by
      intro h2
      rw [z_i 2, pk_mul, pk_sub h2, z_nm, e2, q_b2_s]
      refine Ok.ite (fun c => ?_) (fun c => ?_)
      all_goals rw [nI_leI (by omega) (by omega)] at c
      · omega
      · rw [f2 (by omega), nI_add, if_neg (by omega)]
        refine Ok.ret ?_
        refine congrArg nI ?_
        show z_bF (H l) (V l) r p 2 + (i - z_bM (H l) (V l) r p 0 - 2 * z_bM (H l) (V l) r p 1) = _
        omega
    refine Ok.j0 ?_
    by_cases hM1 : z_bM (H l) (V l) r p 1 = 1
    · have n3 : z_bM (H l) (V l) r p 3 ≠ 0 := by omega
      have t1 := s1 (by omega)
      have t3 := s3 n3
      rw [if_pos (show nI (z_bM (H l) (V l) r p 1) = nI 1 by rw [hM1])]
      refine Ok.ite (fun c => ?_) (fun c => ?_)
      all_goals rw [z_i 2, nI_leI (by omega) (by omega)] at c
      · exact K (by omega)
      · rw [f1 (by omega), f3 n3, if_pos (show i - z_bM (H l) (V l) r p 0 < z_bM (H l) (V l) r p 1 + z_bM (H l) (V l) r p 3 by omega)]
        refine Ok.j1 ?_
        by_cases c2 : i - z_bM (H l) (V l) r p 0 = 0
        · rw [if_pos (show nI (i - z_bM (H l) (V l) r p 0) = nI 0 by rw [c2]), if_pos c2]
          refine Ok.j1 ?_
          by_cases c3 : z_bF (H l) (V l) r p 3 ≤ z_bF (H l) (V l) r p 1
          · rw [if_pos (by rw [nI_leI (by omega) (by omega)]; exact c3)]
            dsimp only
            rw [if_neg (by decide)]
            by_cases c4 : z_bF (H l) (V l) r p 3 < z_bF (H l) (V l) r p 1
            · rw [if_pos c4]; exact Ok.ret rfl
            · rw [if_neg c4]; exact Ok.ret (congrArg nI (show z_bF (H l) (V l) r p 3 = z_bF (H l) (V l) r p 1 by omega))
          · rw [if_neg (by rw [nI_leI (by omega) (by omega)]; exact c3)]
            dsimp only
            rw [if_pos rfl, if_neg (by omega)]
            exact Ok.ret rfl
        · rw [if_neg (show ¬ nI (i - z_bM (H l) (V l) r p 0) = nI 0 by rw [nI_eq (by omega) (by omega)]; exact c2), if_neg c2]
          refine Ok.j1 ?_
          by_cases c3 : z_bF (H l) (V l) r p 3 ≤ z_bF (H l) (V l) r p 1
          · rw [if_pos (by rw [nI_leI (by omega) (by omega)]; exact c3), if_pos c3]
            dsimp only
            rw [if_pos rfl]
            exact Ok.ret rfl
          · rw [if_neg (by rw [nI_leI (by omega) (by omega)]; exact c3), if_neg c3]
            dsimp only
            rw [if_neg (by decide)]
            exact Ok.ret rfl
    · rw [if_neg (show ¬ nI (z_bM (H l) (V l) r p 1) = nI 1 by rw [nI_eq (by omega) (by omega)]; exact hM1)]
      exact K (by omega)
  · rw [if_pos (show i < z_bM (H l) (V l) r p 0 by omega), f0 (by omega), nI_add]
    exact Ok.ret rfl
/-! around -/
def l_Caround (sv : l_T) (p q i : Int32) : Prop := z_hs (z_pr (l_R sv)) (z_pr (l_C sv)) p q ∧ -1 ≤ i
def l_Faround (sv : l_T) (i : Int32) (s : Nat × Nat × Nat × Nat) : Int32 := if i = -1 then nI (l_tot (l_bM sv s.1 s.2.2.1 s.2.2.2)) else if nI (l_tot (l_bM sv s.1 s.2.2.1 s.2.2.2)) ≤ i then -2 else nI (l_nA (l_bM sv s.1 s.2.2.1 s.2.2.2) (l_bF sv s.1 s.2.2.1 s.2.2.2) i.toInt.toNat)
def l_aaround (sv : l_T) (p q i r : Int32) : Prop := l_rel (l_Caround sv p q i) (-1) (l_sp sv p q) (l_Faround sv i) r
theorem l_aaround_one {p q i r r' : Int32} (h : l_ok sv) (h1 : l_aaround sv p q i r) (h2 : l_aaround sv p q i r') : r = r' := l_rel_one (l_sp_one h) h1 h2
/-- an index that is none of -1 and below a number -/
theorem l_idx {M : Nat} {i : Int32} (hM : M < 2 ^ 31) (h1 : -1 ≤ i) (h2 : ¬ i = -1) (h3 : ¬ nI M ≤ i) : ∃ j, j < M ∧ i = nI j ∧ i.toInt.toNat = j := by
  have h0 : 0 ≤ i.toInt := z_nn h1 h2
  obtain ⟨j, hj, rfl, hjj⟩ := z_nat h0
  rw [nI_leI hM hj] at h3
  exact ⟨j, by omega, rfl, by rw [hjj]; rfl⟩
theorem a_x_around (g : GOK (l_R sv) (l_C sv) (z_pr (l_R sv)) (z_pr (l_C sv)) rc cc br zc rw sh) (hN : 1000000 ≤ N) (f m : Nat → Int32) (a1 a2 a3 a4 a5 a6 p q i : Int32) : Ok (f_X_around N f m a1 a2 a3 a4 a5 a6 br zc rw sh p q i) (fun x => l_aaround sv p q i x.1) := by
  unfold f_X_around
  refine Ok.b1 (r_hasSheet g p q) (fun v1 h1 => ?_)
  rcases h1 with ⟨z, rfl⟩ | ⟨z, rfl⟩
  rotate_left
  · exact Ok.ite (fun _ => Ok.ret (l_relN (fun u => z u.1))) (fun c => absurd rfl c)
  refine Ok.ite (fun c => absurd c (by decide)) (fun _ => ?_)
  refine Ok.ite (fun hi => ?_) (fun hi => Ok.ret (l_relN (fun u => hi u.2)))
  have z' := z
  obtain ⟨l, k, hl, rfl, rfl, hk⟩ := z'
  have hs := g.2.sh hl
  obtain ⟨ro, pl, e, d1, d2, d3⟩ := k_put (N := N) g (by omega) hl hk a1 a2 a3 a4 a5 a6
  obtain ⟨f', m', e2, hfm⟩ := r_lookAround g hl d1 d2 f m
  have hMF := l_MF_of g.2 hl d1 d2
  have hsp : l_sp sv (nI l) (nI k) (l, k, ro, pl) := ⟨⟨hl, (show k < 20000000 by omega), d1, d2, d3⟩, rfl, rfl⟩
  have hb : l_tot (l_bM sv l ro pl) < 2 ^ 31 := by
    have h0 := (hMF.2 0 (by omega)).1
    have h1 := (hMF.2 1 (by omega)).1
    have h2 := (hMF.2 2 (by omega)).1
    have h3 := (hMF.2 3 (by omega)).1
    unfold l_tot l_bM
    omega
  rw [e, q_b6_s, e2, q_b2_s, r_allBeside hfm, q_b1_s, q_b1_s]
  refine Ok.ite (fun c1 => Ok.ret (l_relY ⟨z, hi⟩ hsp ?_)) (fun c1 => ?_)
  · unfold l_Faround; rw [if_pos c1]; rfl
  refine Ok.ite (fun c2 => Ok.ret (l_relY ⟨z, hi⟩ hsp ?_)) (fun c2 => ?_)
  · unfold l_Faround; rw [if_neg c1]; exact (if_pos c2).symm
  obtain ⟨j, hj, rfl, hjj⟩ := l_idx hb hi c1 c2
  rw [r_besideKey hMF hfm hj, q_b1_s]
  refine Ok.ret (l_relY ⟨z, hi⟩ hsp ?_)
  unfold l_Faround
  rw [if_neg c1, hjj]
  exact (if_neg c2).symm
theorem a_m_around (g : MOK (l_R sv) (l_C sv) (z_pr (l_R sv)) (z_pr (l_C sv)) cr cq dp wd za) (hN : 1000000 ≤ N) (fb mb p q i : Int32) : Ok (f_M_around N dp wd za fb mb p q i) (fun x => l_aaround sv p q i x.1) := by
  unfold f_M_around
  refine Ok.b1 (r_isKey g p q) (fun v1 h1 => ?_)
  rcases h1 with ⟨z, rfl⟩ | ⟨z, rfl⟩
  rotate_left
  · exact Ok.ite (fun _ => Ok.ret (l_relN (fun u => z u.1))) (fun c => absurd rfl c)
  refine Ok.ite (fun c => absurd c (by decide)) (fun _ => ?_)
  refine Ok.ite (fun hi => ?_) (fun hi => Ok.ret (l_relN (fun u => hi u.2)))
  have z' := z
  obtain ⟨l, k, hl, rfl, rfl, hk⟩ := z'
  have hs := g.2.2.sh hl
  obtain ⟨ro, pl, d1, d2, d3, -, -⟩ := t_spot (N := N) g (by omega) hl hk
  have hMF := l_MF_of g.2.2 hl d1 d2
  have hsp : l_sp sv (nI l) (nI k) (l, k, ro, pl) := ⟨⟨hl, (show k < 20000000 by omega), d1, d2, d3⟩, rfl, rfl⟩
  have hb : l_tot (l_bM sv l ro pl) < 2 ^ 31 := by
    have h0 := (hMF.2 0 (by omega)).1
    have h1 := (hMF.2 1 (by omega)).1
    have h2 := (hMF.2 2 (by omega)).1
    have h3 := (hMF.2 3 (by omega)).1
    unfold l_tot l_bM
    omega
  have e1 := r_allBesideM (N := N) g (by omega) hl d1 d2 fb mb
  rw [← d3] at e1
  refine Ok.b3 e1 (fun v2 v3 v4 h2 => ?_)
  dsimp only at h2
  subst h2
  refine Ok.ite (fun c1 => Ok.ret (l_relY ⟨z, hi⟩ hsp ?_)) (fun c1 => ?_)
  · unfold l_Faround; rw [if_pos c1]; rfl
  refine Ok.ite (fun c2 => Ok.ret (l_relY ⟨z, hi⟩ hsp ?_)) (fun c2 => ?_)
  · unfold l_Faround; rw [if_neg c1]; exact (if_pos c2).symm
  obtain ⟨j, hj, rfl, hjj⟩ := l_idx hb hi c1 c2
  have e2 := r_besideAllM (N := N) g (by omega) hl d1 d2 v3 v4 hj
  rw [← d3] at e2
  refine Ok.b3 e2 (fun v5 v6 v7 h5 => Ok.ret (l_relY ⟨z, hi⟩ hsp ?_))
  dsimp only at h5
  subst h5
  unfold l_Faround
  rw [if_neg c1, hjj]
  exact (if_neg c2).symm
end S6A
end
section
/-! answers: child -/
section S7A
variable {R C H V : Nat → Nat} {rc cc br zc rw sh cr cq dp wd za : Nat → Int32} {sv : l_T} {N l t : Nat}
theorem z_capR {H0 V0 r p k : Nat} (hH : 1 ≤ H0) (hr : r ≤ 44 * H0 + 1) (hp : p < z_rl H0 V0 r) (hk : k = z_rs H0 V0 r + p) : (k = 0 ↔ r = 0) ∧ (z_capk H0 V0 k ↔ (r = 0 ∨ r = 44 * H0 + 1)) := by
  have e0 : z_rs H0 V0 0 = 0 := by unfold z_rs; rw [if_pos rfl]
  have l0 : z_rl H0 V0 0 = 1 := by unfold z_rl; rw [if_pos (Or.inl rfl)]
  have eL := z_rs_last (V := V0) hH
  have lL := z_rl_last (H := H0) (V := V0)
  have h0 : k = 0 → r = 0 := fun z => z_row_one (V := V0) hH hr (Nat.zero_le _) (k := k) (by omega) (by omega) (by omega) (by omega)
  have hL : k = 2130 * (H0 * V0) + 1 → r = 44 * H0 + 1 := fun z => z_row_one (V := V0) hH hr (Nat.le_refl _) (k := k) (by omega) (by omega) (by omega) (by omega)
  refine ⟨⟨h0, fun z => ?_⟩, ⟨fun z => ?_, fun z => ?_⟩⟩
  · subst z; omega
  · rcases z with z | z
    · exact Or.inl (h0 z)
    · exact Or.inr (hL z)
  · rcases z with rfl | rfl
    · exact Or.inl (by omega)
    · exact Or.inr (by omega)
/-- how many sheets of level t lie in one of level l; the j-th -/
def z_chM (H V : Nat → Nat) (l t ro : Nat) : Nat := if ro = 0 ∨ ro = 44 * H l + 1 then 1 else H t / H l * (V t / V l)
def z_chK (H V : Nat → Nat) (l t ro pl j : Nat) : Nat := if ro = 0 then 0 else if ro = 44 * H l + 1 then 2130 * (H t * V t) + 1 else z_rs (H t) (V t) (1 + (ro - 1) * (H t / H l) + j / (V t / V l)) + (pl * (V t / V l) + j % (V t / V l))
theorem z_child (g : CUT R C H V) (hlt : l ≤ t) (ht : t < 5) {ro x : Nat} (h1 : 1 ≤ ro) (h2 : ro ≤ 44 * H l) (hx : x < H t / H l) : 1 + (ro - 1) * (H t / H l) + x ≤ 44 * H t ∧ z_rl (H t) (V t) (1 + (ro - 1) * (H t / H l) + x) = z_rl (H l) (V l) ro * (V t / V l) := by
  have hl : l < 5 := by omega
  have hp := g.pos l hl
  have hpt := g.pos t ht
  have hd := g.dvd t ht l hlt
  have q1 := z_quot hd.1 hp.1 hpt.1
  have q2 := z_quot hd.2 hp.2 hpt.2
  have a1 : (ro - 1) * (H t / H l) + (H t / H l) = ro * (H t / H l) := by
    rw [← Nat.succ_mul]; congr 1; omega
  have a2 : ro * (H t / H l) ≤ 44 * H t := by
    have : ro * (H t / H l) ≤ 44 * H l * (H t / H l) := Nat.mul_le_mul_right _ h2
    rw [Nat.mul_assoc, q1.2.2] at this
    exact this
  have hle : 1 + (ro - 1) * (H t / H l) + x ≤ 44 * H t := by omega
  refine ⟨hle, ?_⟩
  unfold z_rl
  rw [if_neg (by omega), if_neg (by omega)]
  have e : (1 + (ro - 1) * (H t / H l) + x - 1) / H t = (ro - 1) / H l := by
    have e0 : 1 + (ro - 1) * (H t / H l) + x - 1 = (H t / H l) * (ro - 1) + x := by rw [Nat.mul_comm]; omega
    have q := q1.2.2
    have qp := q1.1
    rw [e0]
    clear e0 hle a1 a2 q1
    generalize H t / H l = D at *
    rw [← q, Nat.mul_comm (H l) D, ← Nat.div_div_eq_div_mul, Nat.mul_add_div (show D > 0 by omega), Nat.div_eq_of_lt hx, Nat.add_zero]
  rw [e, Nat.mul_assoc, q2.2.2]
theorem r_rowsIn (g : GOK R C H V rc cc br zc rw sh) (hlt : l ≤ t) (ht : t < 5) : f_Grid_rowsIn br (nI l) (nI t) = some (nI (H t / H l)) ∧ f_Grid_columnsIn zc (nI l) (nI t) = some (nI (V t / V l)) := by
  have hl : l < 5 := by omega
  have hv := g.2.hv hl
  have hvt := g.2.hv ht
  have hp := g.2.pos l hl
  unfold f_Grid_rowsIn f_Grid_columnsIn
  rw [z_ai ht (by omega), (g.at ht).2.2.1, z_ai hl (by omega), (g.at hl).2.2.1, z_dv (by omega) (by omega) (by omega), z_ai ht (by omega), (g.at ht).2.2.2.1, z_ai hl (by omega), (g.at hl).2.2.2.1, z_dv (by omega) (by omega) (by omega)]
  exact ⟨rfl, rfl⟩
theorem r_piecesAt (g : GOK R C H V rc cc br zc rw sh) (hlt : l ≤ t) (ht : t < 5) (ro : Nat) : f_Spot_piecesAt (nI l) (z_cap (H l) ro) br zc (nI t) = some (nI (z_chM H V l t ro)) := by
  obtain ⟨e1, e2⟩ := r_rowsIn g hlt ht
  unfold f_Spot_piecesAt z_cap z_chM
  by_cases hc : ro = 0 ∨ ro = 44 * H l + 1
  · rw [if_pos hc, if_pos hc, if_neg (by decide)]; rfl
  · rw [if_neg hc, if_neg hc, if_pos rfl, e1, q_b1_s, e2, q_b1_s, pk_mul]
theorem r_pieceAt (g : GOK R C H V rc cc br zc rw sh) (hlt : l ≤ t) (ht : t < 5) {ro pl j : Nat} (hr : ro ≤ 44 * H l + 1) (hp : pl < z_rl (H l) (V l) ro) (hj : j < z_chM H V l t ro) : f_Spot_pieceAt (nI l) (nI ro) (nI pl) (z_cap (H l) ro) br zc rw sh (nI t) (nI j) = some (nI (z_chK H V l t ro pl j)) := by
  obtain ⟨e1, e2⟩ := r_rowsIn g hlt ht
  have hl : l < 5 := by omega
  have hv := g.2.hv hl
  have hvt := g.2.hv ht
  have hps := g.2.pos l hl
  have hpt := g.2.pos t ht
  have hd := g.2.dvd t ht l hlt
  have q1 := z_quot hd.1 hps.1 hpt.1
  have q2 := z_quot hd.2 hps.2 hpt.2
  have hst := g.2.sh ht
  unfold f_Spot_pieceAt z_cap z_chK
  unfold z_chM at hj
  by_cases hc : ro = 0 ∨ ro = 44 * H l + 1
  · rw [if_pos hc, if_neg (by decide)]
    by_cases h0 : ro = 0
    · rw [if_pos h0, if_pos (show nI ro = 0 by rw [h0]; rfl)]; rfl
    · rw [if_neg h0, if_pos (show ro = 44 * H l + 1 by omega), if_neg (show ¬ nI ro = 0 by rw [z_eq0 (by omega)]; exact h0), z_ai ht (by omega), (g.at ht).2.2.2.2.2, z_sub1 (by omega)]; rfl
  · have mm : H t / H l * (V t / V l) ≤ 9390 * 9390 := Nat.mul_le_mul (by omega) (by omega)
    rw [if_neg hc] at hj
    have hx : j / (V t / V l) < H t / H l := Nat.div_lt_of_lt_mul (by rw [Nat.mul_comm]; exact hj)
    have hm : j % (V t / V l) < V t / V l := Nat.mod_lt _ (by omega)
    obtain ⟨c1, c2⟩ := z_child g.2 hlt ht (ro := ro) (by omega) (by omega) hx
    rw [if_neg hc, if_pos rfl, if_neg (show ¬ ro = 0 by omega), if_neg (show ¬ ro = 44 * H l + 1 by omega), e2, q_b1_s, e1, q_b1_s, z_dv (by omega) (by omega) (by omega), z_sub1 (by omega), pk_mul, nI_add, nI_1, z_nm, show (ro - 1) * (H t / H l) + j / (V t / V l) + 1 = 1 + (ro - 1) * (H t / H l) + j / (V t / V l) by omega, k_rowStart g ht (by omega), q_b1_s, z_rm (by omega) (by omega) (by omega), pk_mul, nI_add, nI_add, Nat.add_assoc]
/-- the reference's pieces -/
theorem r_m_child (g : MOK R C H V cr cq dp wd za) (hN : 50 ≤ N) (hlt : l ≤ t) (ht : t < 5) {k ro pl : Nat} (hk : k < 2130 * (H l * V l) + 2) (hr : ro ≤ 44 * H l + 1) (hp : pl < z_rl (H l) (V l) ro) (hk2 : k = z_rs (H l) (V l) ro + pl) {i : Int32} (hi : -1 ≤ i) : ∀ v3 : Int32, f_M_isCap dp wd za (nI l) (nI k) = some v3 → Ok (q_j1 (fun (v4 : Int32) => (q_j1 (fun (v5 : Int32) => (if i = (-1) then (some (v4 * v5)) else (if i < (v4 * v5) then (if v3 = 0 then (q_b1 (f_M_rowOf N dp wd za (nI l) (nI k)) (fun (v6 : Int32) => q_dv i v5 (fun (v7 : Int32) => q_b1 (f_M_placeOf N dp wd za (nI l) (nI k)) (fun (v8 : Int32) => q_rm i v5 (fun (v9 : Int32) => q_b1 (f_M_keyOf dp wd za (nI t) ((1 + ((v6 - 1) * v4)) + v7) ((v8 * v5) + v9)) (fun (v10 : Int32) => some v10)))))) else (if nI k = 0 then (some 0) else (q_b1 (f_M_sheets dp wd za (nI t)) (fun (v11 : Int32) => some (v11 - 1))))) else (some (-2))) : Option (Int32))) (fun (k84 : Int32 → Option (Int32)) => if v3 = 0 then (q_ai wd 5 (nI t) (fun (v12 : Int32) => q_ai wd 5 (nI l) (fun (v13 : Int32) => q_dv v12 v13 (fun (v14 : Int32) => k84 v14)))) else (k84 1)) : Option (Int32))) (fun (k60 : Int32 → Option (Int32)) => if v3 = 0 then (q_ai dp 5 (nI t) (fun (v15 : Int32) => q_ai dp 5 (nI l) (fun (v16 : Int32) => q_dv v15 v16 (fun (v17 : Int32) => k60 v17)))) else (k60 1))) (fun x => x = if i = -1 then nI (z_chM H V l t ro) else if nI (z_chM H V l t ro) ≤ i then -2 else nI (z_chK H V l t ro pl i.toInt.toNat)) := by
  intro v3 h3
  have hl : l < 5 := by omega
  have hv := g.2.2.hv hl
  have hvt := g.2.2.hv ht
  have hps := g.2.2.pos l hl
  have hpt := g.2.2.pos t ht
  have hd := g.2.2.dvd t ht l hlt
  have q1 := z_quot hd.1 hps.1 hpt.1
  have q2 := z_quot hd.2 hps.2 hpt.2
  have hst := g.2.2.sh ht
  have hsl := g.2.2.sh hl
  obtain ⟨cz, cc1⟩ := z_capR hps.1 hr hp hk2
  obtain ⟨gl1, gl2, gl3, gl4⟩ := g.1 l hl
  obtain ⟨gt1, gt2, gt3, gt4⟩ := g.1 t ht
  have notle : ∀ {M : Nat}, M < 2 ^ 31 → (i < nI M ↔ ¬ nI M ≤ i) := by
    intro M hM
    rw [z_lt, z_le, nI_toInt hM]; omega
  rcases t_isCap g hl hk with ⟨c1, e1⟩ | ⟨c1, e1⟩
  · rw [h3] at e1
    cases e1
    have hc := cc1.mp c1
    have eM : z_chM H V l t ro = 1 := by unfold z_chM; rw [if_pos hc]
    rw [eM]
    refine Ok.j1 ?_
    rw [if_neg (by decide)]
    refine Ok.j1 ?_
    rw [if_neg (by decide)]
    dsimp only
    rw [show (1 : Int32) * 1 = nI 1 from rfl]
    by_cases d1 : i = -1
    · rw [if_pos d1, if_pos d1]; exact Ok.ret rfl
    rw [if_neg d1, if_neg d1]
    by_cases d2 : nI 1 ≤ i
    · rw [if_pos d2, if_neg (fun z => (notle (by omega)).mp z d2)]; exact Ok.ret rfl
    rw [if_neg d2, if_pos ((notle (by omega)).mpr d2), if_neg (by decide)]
    unfold z_chK
    by_cases h0 : ro = 0
    · rw [if_pos h0, if_pos (show nI k = 0 by rw [z_eq0 (by omega)]; exact cz.mpr h0)]; exact Ok.ret rfl
    · rw [if_neg h0, if_pos (show ro = 44 * H l + 1 by omega), if_neg (show ¬ nI k = 0 by rw [z_eq0 (by omega)]; exact fun z => h0 (cz.mp z)), m_sheets g ht, q_b1_s, z_sub1 (by omega)]
      exact Ok.ret rfl
  · rw [h3] at e1
    cases e1
    have hc : ¬ (ro = 0 ∨ ro = 44 * H l + 1) := fun z => c1 (cc1.mpr z)
    have eM : z_chM H V l t ro = H t / H l * (V t / V l) := by unfold z_chM; rw [if_neg hc]
    have mm : H t / H l * (V t / V l) ≤ 9390 * 9390 := Nat.mul_le_mul (by omega) (by omega)
    rw [eM]
    refine Ok.j1 ?_
    rw [if_pos rfl, z_ai ht (by omega), gt3, z_ai hl (by omega), gl3, z_dv (by omega) (by omega) (by omega)]
    refine Ok.j1 ?_
    rw [if_pos rfl, z_ai ht (by omega), gt4, z_ai hl (by omega), gl4, z_dv (by omega) (by omega) (by omega)]
    dsimp only
    rw [pk_mul]
    by_cases d1 : i = -1
    · rw [if_pos d1, if_pos d1]; exact Ok.ret rfl
    rw [if_neg d1, if_neg d1]
    by_cases d2 : nI (H t / H l * (V t / V l)) ≤ i
    · rw [if_pos d2, if_neg (fun z => (notle (by omega)).mp z d2)]; exact Ok.ret rfl
    rw [if_neg d2, if_pos ((notle (by omega)).mpr d2), if_pos rfl]
    obtain ⟨j, hj, rfl, hjj⟩ := l_idx (M := H t / H l * (V t / V l)) (by omega) hi d1 d2
    have hx : j / (V t / V l) < H t / H l := Nat.div_lt_of_lt_mul (by rw [Nat.mul_comm]; exact hj)
    have hm : j % (V t / V l) < V t / V l := Nat.mod_lt _ (by omega)
    obtain ⟨c3, c4⟩ := z_child g.2.2 hlt ht (ro := ro) (by omega) (by omega) hx
    have c5 : pl * (V t / V l) + j % (V t / V l) < z_rl (H t) (V t) (1 + (ro - 1) * (H t / H l) + j / (V t / V l)) := by
      rw [c4]
      have : (pl + 1) * (V t / V l) ≤ z_rl (H l) (V l) ro * (V t / V l) := Nat.mul_le_mul_right _ hp
      rw [Nat.succ_mul] at this
      omega
    obtain ⟨er, ep⟩ := m_placeOf (N := N) g hN hl hr (k := k) (by omega) (by omega)
    rw [er, q_b1_s, z_dv (by omega) (by omega) (by omega), ep, q_b1_s, z_rm (by omega) (by omega) (by omega), show k - z_rs (H l) (V l) ro = pl by omega, z_sub1 (by omega), pk_mul, z_i 1, nI_add, nI_add, pk_mul, nI_add, m_keyOf g ht (by omega) c5, q_b1_s]
    refine Ok.ret ?_
    unfold z_chK
    rw [if_neg (show ¬ ro = 0 by omega), if_neg (show ¬ ro = 44 * H l + 1 by omega), hjj]
def l_Cchild (sv : l_T) (p q w i : Int32) : Prop := z_hs (z_pr (l_R sv)) (z_pr (l_C sv)) p q ∧ (p.toInt ≤ w.toInt ∧ w.toInt ≤ 4) ∧ -1 ≤ i
def l_Schild (sv : l_T) (p q w : Int32) (s : (Nat × Nat × Nat × Nat) × Nat) : Prop := l_sp sv p q s.1 ∧ s.2 < 5 ∧ w = nI s.2
def l_Fchild (sv : l_T) (i : Int32) (s : (Nat × Nat × Nat × Nat) × Nat) : Int32 := if i = -1 then nI (z_chM (z_pr (l_R sv)) (z_pr (l_C sv)) s.1.1 s.2 s.1.2.2.1) else if nI (z_chM (z_pr (l_R sv)) (z_pr (l_C sv)) s.1.1 s.2 s.1.2.2.1) ≤ i then -2 else nI (z_chK (z_pr (l_R sv)) (z_pr (l_C sv)) s.1.1 s.2 s.1.2.2.1 s.1.2.2.2 i.toInt.toNat)
def l_achild (sv : l_T) (p q w i r : Int32) : Prop := l_rel (l_Cchild sv p q w i) (-1) (l_Schild sv p q w) (l_Fchild sv i) r
theorem l_achild_one {p q w i r r' : Int32} (h : l_ok sv) (h1 : l_achild sv p q w i r) (h2 : l_achild sv p q w i r') : r = r' := by
  refine l_rel_one ?_ h1 h2
  intro ⟨s, t⟩ ⟨s', t'⟩ ⟨a, b, c⟩ ⟨a', b', c'⟩
  have e := l_sp_one h s s' a a'
  have e2 : t = t' := by dsimp only at b b' c c'; rw [c, nI_eq (by omega) (by omega)] at c'; exact c'
  rw [e, e2]
theorem a_x_child (g : GOK (l_R sv) (l_C sv) (z_pr (l_R sv)) (z_pr (l_C sv)) rc cc br zc rw sh) (hN : 1000000 ≤ N) (a1 a2 a3 a4 a5 a6 p q w i : Int32) : Ok (f_X_child N a1 a2 a3 a4 a5 a6 br zc rw sh p q w i) (fun x => l_achild sv p q w i x.1) := by
  unfold f_X_child
  refine Ok.b1 (r_hasSheet g p q) (fun v1 h1 => ?_)
  rcases h1 with ⟨z, rfl⟩ | ⟨z, rfl⟩
  rotate_left
  · exact Ok.ite (fun _ => Ok.ret (l_relN (fun u => z u.1))) (fun c => absurd rfl c)
  refine Ok.ite (fun c => absurd c (by decide)) (fun _ => Ok.b1 (s_isFrom w p 4) (fun v2 h2 => ?_))
  rw [show (4 : Int32).toInt = 4 from rfl] at h2
  refine Ok.ite (fun c => Ok.ret (l_relN (fun u => z_if0 h2 c u.2.1))) (fun c => ?_)
  have hw := z_if1 h2 c
  refine Ok.ite (fun hi => ?_) (fun hi => Ok.ret (l_relN (fun u => hi u.2.2)))
  have z' := z
  obtain ⟨l, k, hl, rfl, rfl, hk⟩ := z'
  have hw' := hw
  rw [nI_toInt (by omega)] at hw'
  obtain ⟨t, -, rfl, htt⟩ := z_nat (r := w) (by omega)
  have hlt : l ≤ t := by omega
  have ht : t < 5 := by omega
  have hs := g.2.sh hl
  have hv := g.2.hv hl
  have hvt := g.2.hv ht
  obtain ⟨ro, pl, e, d1, d2, d3⟩ := k_put (N := N) g (by omega) hl hk a1 a2 a3 a4 a5 a6
  have hsp : l_Schild sv (nI l) (nI k) (nI t) ((l, k, ro, pl), t) := ⟨⟨⟨hl, (show k < 20000000 by omega), d1, d2, d3⟩, rfl, rfl⟩, ht, rfl⟩
  have hb : z_chM (z_pr (l_R sv)) (z_pr (l_C sv)) l t ro < 2 ^ 31 := by
    have mm : z_pr (l_R sv) t / z_pr (l_R sv) l * (z_pr (l_C sv) t / z_pr (l_C sv) l) ≤ 9390 * 9390 := Nat.mul_le_mul (Nat.le_trans (Nat.div_le_self _ _) hvt.1) (Nat.le_trans (Nat.div_le_self _ _) hvt.2.1)
    unfold z_chM
    split <;> omega
  rw [e, q_b6_s, r_piecesAt g hlt ht, q_b1_s]
  refine Ok.ite (fun c1 => Ok.ret (l_relY ⟨z, hw, hi⟩ hsp ?_)) (fun c1 => ?_)
  · unfold l_Fchild; rw [if_pos c1]
  refine Ok.ite (fun c2 => Ok.ret (l_relY ⟨z, hw, hi⟩ hsp ?_)) (fun c2 => ?_)
  · unfold l_Fchild; rw [if_neg c1]; exact (if_pos c2).symm
  obtain ⟨j, hj, rfl, hjj⟩ := l_idx hb hi c1 c2
  rw [r_pieceAt g hlt ht d1 d2 hj, q_b1_s]
  refine Ok.ret (l_relY ⟨z, hw, hi⟩ hsp ?_)
  unfold l_Fchild
  rw [if_neg c1, hjj]
  exact (if_neg c2).symm
theorem a_m_child (g : MOK (l_R sv) (l_C sv) (z_pr (l_R sv)) (z_pr (l_C sv)) cr cq dp wd za) (hN : 1000000 ≤ N) (p q w i : Int32) : Ok (f_M_child N dp wd za p q w i) (fun x => l_achild sv p q w i x) := by
  unfold f_M_child
  refine Ok.b1 (r_isKey g p q) (fun v1 h1 => ?_)
  rcases h1 with ⟨z, rfl⟩ | ⟨z, rfl⟩
  rotate_left
  · exact Ok.ite (fun _ => Ok.ret (l_relN (fun u => z u.1))) (fun c => absurd rfl c)
  refine Ok.ite (fun c => absurd c (by decide)) (fun _ => Ok.b1 (t_in _ _ _) (fun v2 h2 => ?_))
  rw [z_toL, z_toL, show (4 : Int64).toInt = 4 from rfl] at h2
  refine Ok.ite (fun c => Ok.ret (l_relN (fun u => z_if0 h2 c u.2.1))) (fun c => ?_)
  have hw := z_if1 h2 c
  refine Ok.ite (fun hi => ?_) (fun hi => Ok.ret (l_relN (fun u => hi u.2.2)))
  have z' := z
  obtain ⟨l, k, hl, rfl, rfl, hk⟩ := z'
  have hw' := hw
  rw [nI_toInt (by omega)] at hw'
  obtain ⟨t, -, rfl, htt⟩ := z_nat (r := w) (by omega)
  have hlt : l ≤ t := by omega
  have ht : t < 5 := by omega
  have hs := g.2.2.sh hl
  obtain ⟨ro, pl, d1, d2, d3, -, -⟩ := t_spot (N := N) g (by omega) hl hk
  have hsp : l_Schild sv (nI l) (nI k) (nI t) ((l, k, ro, pl), t) := ⟨⟨⟨hl, (show k < 20000000 by omega), d1, d2, d3⟩, rfl, rfl⟩, ht, rfl⟩
  obtain ⟨v3, h3⟩ : ∃ v3, f_M_isCap dp wd za (nI l) (nI k) = some v3 := by
    rcases t_isCap g hl hk with ⟨-, e⟩ | ⟨-, e⟩ <;> exact ⟨_, e⟩
  rw [h3, q_b1_s]
  exact Ok.weak (r_m_child (N := N) g (by omega) hlt ht hk d1 d2 d3 hi v3 h3) (fun r hr => l_relY ⟨z, hw, hi⟩ hsp hr)
end S7A
end
section
/-! answers: middle, edge -/
section S8A
variable {R C H V : Nat → Nat} {rc cc br zc rw sh cr cq dp wd za : Nat → Int32} {sv : l_T} {N l t : Nat}
/-- the edges' tops (0 south, 1 north, 2 west, 3 east), their bottoms -/
def z_eT (H : Nat → Nat) (l ro pl e : Nat) : Int := if e = 0 then (if ro = 0 then 316800 else if ro = 44 * H l + 1 then -324000 else 14400 * (22 * (H l : Int) - ro)) else if e = 1 then (if ro = 0 then 324000 else if ro = 44 * H l + 1 then -316800 else 14400 * (22 * (H l : Int) - ro) + 14400) else if e = 2 then 1296000 * (pl : Int) else 1296000 * (pl : Int) + 1296000
def z_eB (H V : Nat → Nat) (l ro e : Nat) : Nat := if e < 2 then (if ro = 0 ∨ ro = 44 * H l + 1 then 1 else H l) else z_rl (H l) (V l) ro
theorem z_eT0 {H : Nat → Nat} {ro pl : Nat} : z_eT H l ro pl 0 = if ro = 0 then 316800 else if ro = 44 * H l + 1 then -324000 else 14400 * (22 * (H l : Int) - ro) := if_pos rfl
theorem z_eT1 {H : Nat → Nat} {ro pl : Nat} : z_eT H l ro pl 1 = if ro = 0 then 324000 else if ro = 44 * H l + 1 then -316800 else 14400 * (22 * (H l : Int) - ro) + 14400 := (if_neg (show ¬ (1 : Nat) = 0 by omega)).trans (if_pos rfl)
theorem z_eT2 {H : Nat → Nat} {ro pl : Nat} : z_eT H l ro pl 2 = 1296000 * (pl : Int) := (if_neg (show ¬ (2 : Nat) = 0 by omega)).trans ((if_neg (show ¬ (2 : Nat) = 1 by omega)).trans (if_pos rfl))
theorem z_eT3 {H : Nat → Nat} {ro pl : Nat} : z_eT H l ro pl 3 = 1296000 * (pl : Int) + 1296000 := (if_neg (show ¬ (3 : Nat) = 0 by omega)).trans ((if_neg (show ¬ (3 : Nat) = 1 by omega)).trans (if_neg (show ¬ (3 : Nat) = 2 by omega)))
theorem z_eBlo {H V : Nat → Nat} {ro e : Nat} (h : e < 2) : z_eB H V l ro e = if ro = 0 ∨ ro = 44 * H l + 1 then 1 else H l := if_pos h
theorem z_eBhi {H V : Nat → Nat} {ro e : Nat} (h : ¬ e < 2) : z_eB H V l ro e = z_rl (H l) (V l) ro := if_neg h
theorem z_capY {H0 ro : Nat} (h : ro = 0 ∨ ro = 44 * H0 + 1) : z_cap H0 ro = 1 := if_pos h
theorem z_capN {H0 ro : Nat} (h : ¬ (ro = 0 ∨ ro = 44 * H0 + 1)) : z_cap H0 ro = 0 := if_neg h
theorem z_updLS {f : Nat → Int64} {k : Nat} {x : Int64} : vp_updL f k x k = x := if_pos rfl
theorem z_updLN {f : Nat → Int64} {k j : Nat} {x : Int64} (h : j ≠ k) : vp_updL f k x j = f j := if_neg h
theorem z_toL64 {n : Nat} (h : n < 2 ^ 31) : (nI n).toInt64 = lN n := by
  apply Int64.toInt_inj.mp
  rw [z_i64 h, lN_toInt h]
theorem z_ofI64 {x : Int64} {z : Int} (h : x.toInt = z) : x = Int64.ofInt z := by
  rw [← h, Int64.ofInt_toInt]
theorem z_ofT {z : Int} (h1 : -9223372036854775808 ≤ z) (h2 : z < 9223372036854775808) : (Int64.ofInt z).toInt = z := Int64.toInt_ofInt_of_le (by omega) (by omega)
theorem z_eTb {H0 : Nat → Nat} {ro pl e : Nat} (hH : H0 l ≤ 9390) (hr : ro ≤ 44 * H0 l + 1) (hp : pl ≤ 563400) : -1000000000000 ≤ z_eT H0 l ro pl e ∧ z_eT H0 l ro pl e ≤ 1000000000000 := by
  unfold z_eT
  split
  · split
    · omega
    · split <;> omega
  · split
    · split
      · omega
      · split <;> omega
    · split <;> omega
theorem z_eBb (g : CUT R C H V) (hl : l < 5) {ro e : Nat} (hr : ro ≤ 44 * H l + 1) : 1 ≤ z_eB H V l ro e ∧ z_eB H V l ro e ≤ 563400 := by
  have hv := g.hv hl
  have hps := g.pos l hl
  have la := z_rl_pos (V := V l) hps.1 hps.2 hr
  unfold z_eB
  split
  · split <;> omega
  · omega
theorem r_edgeTop (g : GOK R C H V rc cc br zc rw sh) (hl : l < 5) {ro pl e : Nat} (hr : ro ≤ 44 * H l + 1) (hp : pl < z_rl (H l) (V l) ro) (he : e < 4) : f_Spot_edgeTop (nI l) (nI ro) (nI pl) (z_cap (H l) ro) br (nI e) = some (Int64.ofInt (z_eT H l ro pl e)) := by
  have hv := g.2.hv hl
  have hps := g.2.pos l hl
  have la := z_rl_pos (V := V l) hps.1 hps.2 hr
  have t1 : (14400 : Int64).toInt = 14400 := rfl
  have t2 : (1296000 : Int64).toInt = 1296000 := rfl
  have t3 : (22 : Int64).toInt = 22 := rfl
  have t4 : (1 : Int64).toInt = 1 := rfl
  unfold f_Spot_edgeTop
  rcases (show e = 0 ∨ e = 1 ∨ e = 2 ∨ e = 3 by omega) with rfl | rfl | rfl | rfl
  · rw [z_eT0, if_pos (show nI 0 < 2 by decide)]
    by_cases hc : ro = 0 ∨ ro = 44 * H l + 1
    · rw [z_capY hc, if_neg (show ¬ (1 : Int32) = 0 by decide), z_j1]
      by_cases h0 : ro = 0
      · rw [if_pos h0, if_pos (show nI ro = 0 by rw [h0]; rfl)]
        dsimp only
        rw [if_pos (show nI 0 = 0 from rfl)]; rfl
      · rw [if_neg h0, if_pos (show ro = 44 * H l + 1 by omega), if_neg (show ¬ nI ro = 0 by rw [z_eq0 (by omega)]; exact h0)]
        dsimp only
        rw [if_pos (show nI 0 = 0 from rfl)]; rfl
    · have b1 : ((22 : Int64) * lN (H l)).toInt = 22 * (H l : Int) := by
        rw [fb_mulL (by rw [t3, lN_toInt (by omega)]; omega) (by rw [t3, lN_toInt (by omega)]; omega), t3, lN_toInt (by omega)]
      have b2 : ((22 : Int64) * lN (H l) - lN ro).toInt = 22 * (H l : Int) - ro := by
        rw [fb_subL (by rw [b1, lN_toInt (by omega)]; omega) (by rw [b1, lN_toInt (by omega)]; omega), b1, lN_toInt (by omega)]
      rw [z_capN hc, if_pos (show (0 : Int32) = 0 from rfl), z_ai hl (by omega), (g.at hl).2.2.1, z_nm, z_toL64 (by omega), z_toL64 (by omega), if_pos (show nI 0 = 0 from rfl), if_neg (show ¬ ro = 0 by omega), if_neg (show ¬ ro = 44 * H l + 1 by omega)]
      refine z_some (z_ofI64 ?_)
      rw [fb_mulL (by rw [t1, b2]; omega) (by rw [t1, b2]; omega), t1, b2]
  · rw [z_eT1, if_pos (show nI 1 < 2 by decide)]
    by_cases hc : ro = 0 ∨ ro = 44 * H l + 1
    · rw [z_capY hc, if_neg (show ¬ (1 : Int32) = 0 by decide), z_j1]
      by_cases h0 : ro = 0
      · rw [if_pos h0, if_pos (show nI ro = 0 by rw [h0]; rfl)]
        dsimp only
        rw [if_neg (show ¬ nI 1 = 0 by decide)]; rfl
      · rw [if_neg h0, if_pos (show ro = 44 * H l + 1 by omega), if_neg (show ¬ nI ro = 0 by rw [z_eq0 (by omega)]; exact h0)]
        dsimp only
        rw [if_neg (show ¬ nI 1 = 0 by decide)]; rfl
    · have b1 : ((22 : Int64) * lN (H l)).toInt = 22 * (H l : Int) := by
        rw [fb_mulL (by rw [t3, lN_toInt (by omega)]; omega) (by rw [t3, lN_toInt (by omega)]; omega), t3, lN_toInt (by omega)]
      have b2 : ((22 : Int64) * lN (H l) - lN ro).toInt = 22 * (H l : Int) - ro := by
        rw [fb_subL (by rw [b1, lN_toInt (by omega)]; omega) (by rw [b1, lN_toInt (by omega)]; omega), b1, lN_toInt (by omega)]
      have b3 : ((22 : Int64) * lN (H l) - lN ro + 1).toInt = 22 * (H l : Int) - ro + 1 := by
        rw [fb_addL (by rw [b2, t4]; omega) (by rw [b2, t4]; omega), b2, t4]
      rw [z_capN hc, if_pos (show (0 : Int32) = 0 from rfl), z_ai hl (by omega), (g.at hl).2.2.1, z_nm, z_toL64 (by omega), z_toL64 (by omega), if_neg (show ¬ nI 1 = 0 by decide), if_neg (show ¬ ro = 0 by omega), if_neg (show ¬ ro = 44 * H l + 1 by omega)]
      refine z_some (z_ofI64 ?_)
      rw [fb_mulL (by rw [t1, b3]; omega) (by rw [t1, b3]; omega), t1, b3]
      omega
  · rw [z_eT2, if_neg (show ¬ nI 2 < 2 by decide), if_pos (show nI 2 = 2 from rfl), z_toL64 (by omega)]
    refine z_some (z_ofI64 ?_)
    rw [fb_mulL (by rw [t2, lN_toInt (by omega)]; omega) (by rw [t2, lN_toInt (by omega)]; omega), t2, lN_toInt (by omega)]
  · rw [z_eT3, if_neg (show ¬ nI 3 < 2 by decide), if_neg (show ¬ nI 3 = 2 by decide), nI_1, z_toL64 (by omega)]
    refine z_some (z_ofI64 ?_)
    rw [fb_mulL (by rw [t2, lN_toInt (by omega)]; omega) (by rw [t2, lN_toInt (by omega)]; omega), t2, lN_toInt (by omega)]
    omega
theorem r_edgeBottom (g : GOK R C H V rc cc br zc rw sh) (hl : l < 5) {ro e : Nat} (hr : ro ≤ 44 * H l + 1) (he : e < 4) : f_Spot_edgeBottom (nI l) (nI (z_rl (H l) (V l) ro)) (z_cap (H l) ro) br (nI e) = some (lN (z_eB H V l ro e)) := by
  have hv := g.2.hv hl
  have hps := g.2.pos l hl
  have la := z_rl_pos (V := V l) hps.1 hps.2 hr
  unfold f_Spot_edgeBottom
  by_cases c : e < 2
  · rw [z_eBlo c, z_i 2, if_pos (show nI e < nI 2 by rw [nI_ltI (by omega) (by omega)]; exact c)]
    by_cases hc : ro = 0 ∨ ro = 44 * H l + 1
    · rw [if_pos hc, z_capY hc, if_neg (show ¬ (1 : Int32) = 0 by decide)]; rfl
    · rw [if_neg hc, z_capN hc, if_pos (show (0 : Int32) = 0 from rfl), z_ai hl (by omega), (g.at hl).2.2.1, z_toL64 (by omega)]
  · rw [z_eBhi c, z_i 2, if_neg (show ¬ nI e < nI 2 by rw [nI_ltI (by omega) (by omega)]; exact c), z_toL64 (by omega)]
/-- the reference's edges -/
theorem r_laysEdges (g : MOK R C H V cr cq dp wd za) (hN : 50 ≤ N) (hl : l < 5) {k ro pl : Nat} (hr : ro ≤ 44 * H l + 1) (hp : pl < z_rl (H l) (V l) ro) (hk2 : k = z_rs (H l) (V l) ro + pl) (bl bo : Int64) (ed : Nat → Int64) : Ok (f_M_laysEdges N dp wd za bl bo ed (nI l) (nI k)) (fun x => x.1 = lN (z_eB H V l ro 0) ∧ x.2.1 = lN (z_eB H V l ro 2) ∧ ∀ e, e < 4 → x.2.2 e = Int64.ofInt (z_eT H l ro pl e)) := by
  have hv := g.2.2.hv hl
  have hps := g.2.2.pos l hl
  have la := z_rl_pos (V := V l) hps.1 hps.2 hr
  have t1 : (14400 : Int64).toInt = 14400 := rfl
  have t2 : (1296000 : Int64).toInt = 1296000 := rfl
  have t3 : (316800 : Int64).toInt = 316800 := rfl
  obtain ⟨gl1, gl2, gl3, gl4⟩ := g.1 l hl
  obtain ⟨er, ep⟩ := m_placeOf (N := N) g hN hl hr (k := k) (by omega) (by omega)
  unfold f_M_laysEdges
  rw [er, q_b1_s, z_i 2, z_asl (by omega) (by omega), z_i 3, z_asl (by omega) (by omega)]
  by_cases h0 : ro = 0
  · have el : z_rl (H l) (V l) ro = 1 := (z_rl1 hps.1 hps.2 hr).mpr (Or.inl h0)
    rw [if_pos (show nI ro = 0 by rw [h0]; rfl), show (0 : Int32) = nI 0 from rfl, z_asl (by omega) (by omega), z_i 1, z_asl (by omega) (by omega)]
    refine Ok.ret ⟨?_, ?_, fun e he => ?_⟩
    · rw [z_eBlo (by omega), if_pos (Or.inl h0)]; rfl
    · rw [z_eBhi (by omega), el]; rfl
    · have e0 : pl = 0 := by omega
      dsimp only
      rcases (show e = 0 ∨ e = 1 ∨ e = 2 ∨ e = 3 by omega) with rfl | rfl | rfl | rfl
      · rw [z_updLN (by omega), z_updLS, z_eT0, if_pos h0]; rfl
      · rw [z_updLS, z_eT1, if_pos h0]; rfl
      · rw [z_updLN (by omega), z_updLN (by omega), z_updLN (by omega), z_updLS, z_eT2, e0]; rfl
      · rw [z_updLN (by omega), z_updLN (by omega), z_updLS, z_eT3, e0]; rfl
  rw [if_neg (show ¬ nI ro = 0 by rw [z_eq0 (by omega)]; exact h0), m_lastRow g hl, q_b1_s]
  by_cases h1 : ro = 44 * H l + 1
  · have el : z_rl (H l) (V l) ro = 1 := (z_rl1 hps.1 hps.2 hr).mpr (Or.inr h1)
    rw [if_pos (show nI ro = nI (44 * H l + 1) by rw [h1]), show (0 : Int32) = nI 0 from rfl, z_asl (by omega) (by omega), z_i 1, z_asl (by omega) (by omega)]
    refine Ok.ret ⟨?_, ?_, fun e he => ?_⟩
    · rw [z_eBlo (by omega), if_pos (Or.inr h1)]; rfl
    · rw [z_eBhi (by omega), el]; rfl
    · have e0 : pl = 0 := by omega
      dsimp only
      rcases (show e = 0 ∨ e = 1 ∨ e = 2 ∨ e = 3 by omega) with rfl | rfl | rfl | rfl
      · rw [z_updLN (by omega), z_updLS, z_eT0, if_neg h0, if_pos h1]; rfl
      · rw [z_updLS, z_eT1, if_neg h0, if_pos h1]; rfl
      · rw [z_updLN (by omega), z_updLN (by omega), z_updLN (by omega), z_updLS, z_eT2, e0]; rfl
      · rw [z_updLN (by omega), z_updLN (by omega), z_updLS, z_eT3, e0]; rfl
  rw [if_neg (show ¬ nI ro = nI (44 * H l + 1) by rw [nI_eq (by omega) (by omega)]; exact h1), z_ai hl (by omega), gl3, z_nm, m_many g hl hr, q_b1_s, z_nm, z_ai hl (by omega), gl3, z_i 1, z_asl (by omega) (by omega), z_al (by omega) (by omega), z_updLS, show (0 : Int32) = nI 0 from rfl, z_asl (by omega) (by omega), ep, q_b1_s, z_asl (by omega) (by omega), z_al (by omega) (by omega), z_updLS, z_asl (by omega) (by omega), show k - z_rs (H l) (V l) ro = pl by omega, pk_sub (show 1 ≤ ro by omega), z_toL64 (by omega), z_toL64 (by omega), z_toL64 (by omega), z_toL64 (by omega)]
  have b1 : ((316800 : Int64) * lN (H l)).toInt = 316800 * (H l : Int) := by
    rw [fb_mulL (by rw [t3, lN_toInt (by omega)]; omega) (by rw [t3, lN_toInt (by omega)]; omega), t3, lN_toInt (by omega)]
  have b2 : ((14400 : Int64) * lN (ro - 1)).toInt = 14400 * ((ro - 1 : Nat) : Int) := by
    rw [fb_mulL (by rw [t1, lN_toInt (by omega)]; omega) (by rw [t1, lN_toInt (by omega)]; omega), t1, lN_toInt (by omega)]
  have b3 : ((316800 : Int64) * lN (H l) - 14400 * lN (ro - 1)).toInt = 316800 * (H l : Int) - 14400 * ((ro - 1 : Nat) : Int) := by
    rw [fb_subL (by rw [b1, b2]; omega) (by rw [b1, b2]; omega), b1, b2]
  have b4 : ((1296000 : Int64) * lN pl).toInt = 1296000 * (pl : Int) := by
    rw [fb_mulL (by rw [t2, lN_toInt (by omega)]; omega) (by rw [t2, lN_toInt (by omega)]; omega), t2, lN_toInt (by omega)]
  refine Ok.ret ⟨?_, ?_, fun e he => ?_⟩
  · rw [z_eBlo (by omega), if_neg (show ¬ (ro = 0 ∨ ro = 44 * H l + 1) by omega)]
  · rw [z_eBhi (by omega)]
  · dsimp only
    rcases (show e = 0 ∨ e = 1 ∨ e = 2 ∨ e = 3 by omega) with rfl | rfl | rfl | rfl
    · rw [z_updLN (by omega), z_updLN (by omega), z_updLS, z_eT0, if_neg h0, if_neg h1]
      refine z_ofI64 ?_
      rw [fb_subL (by rw [b3, t1]; omega) (by rw [b3, t1]; omega), b3, t1]
      omega
    · rw [z_updLN (by omega), z_updLN (by omega), z_updLN (by omega), z_updLS, z_eT1, if_neg h0, if_neg h1]
      refine z_ofI64 ?_
      rw [b3]
      omega
    · rw [z_updLN (by omega), z_updLS, z_eT2]
      exact z_ofI64 b4
    · rw [z_updLS, z_eT3]
      refine z_ofI64 ?_
      rw [fb_addL (by rw [b4, t2]; omega) (by rw [b4, t2]; omega), b4, t2]
theorem m_down {a b : Int64} (hb : 0 < b.toInt) (h1 : -4611686018427387904 ≤ a.toInt) (h2 : a.toInt < 4611686018427387904) (h3 : b.toInt < 4611686018427387904) : f_M_down a b = some (Int64.ofInt (a.toInt / b.toInt)) := by
  have hb0 : ¬ b = 0 := by
    intro h; rw [h] at hb; exact absurd hb (by decide)
  have hb1 : b ≠ -1 := by
    intro h; rw [h] at hb; exact absurd hb (by decide)
  unfold f_M_down q_dvl
  rw [if_neg hb0]
  by_cases ha : 0 ≤ a.toInt
  · rw [if_pos (z_lcmp0.mpr ha)]
    have hd : (a / b).toInt = a.toInt.tdiv b.toInt := Int64.toInt_div_of_ne_right a b hb1
    rw [Int.tdiv_eq_ediv_of_nonneg ha] at hd
    exact z_some (z_ofI64 hd)
  · rw [if_neg (fun z => ha (z_lcmp0.mp z)), if_neg hb0]
    have t1 : (1 : Int64).toInt = 1 := rfl
    have e1 : (b - 1).toInt = b.toInt - 1 := by rw [fb_subL (by rw [t1]; omega) (by rw [t1]; omega), t1]
    have e2 : (b - 1 - a).toInt = b.toInt - 1 - a.toInt := by rw [fb_subL (by rw [e1]; omega) (by rw [e1]; omega), e1]
    have hd : ((b - 1 - a) / b).toInt = (b - 1 - a).toInt.tdiv b.toInt := Int64.toInt_div_of_ne_right _ b hb1
    rw [Int.tdiv_eq_ediv_of_nonneg (by omega), e2] at hd
    have q0 : 0 ≤ (b.toInt - 1 - a.toInt) / b.toInt := Int.ediv_nonneg (by omega) (by omega)
    have q1 := Int.mul_ediv_add_emod (b.toInt - 1 - a.toInt) b.toInt
    have q2 := Int.emod_nonneg (b.toInt - 1 - a.toInt) (show b.toInt ≠ 0 by omega)
    have q3 := Int.emod_lt_of_pos (b.toInt - 1 - a.toInt) hb
    have q4 : (b.toInt - 1 - a.toInt) / b.toInt ≤ b.toInt - 1 - a.toInt := Int.ediv_le_self _ (by omega)
    have key : a.toInt / b.toInt = -((b.toInt - 1 - a.toInt) / b.toInt) := by
      refine ((Int.ediv_emod_unique (r := b.toInt - 1 - (b.toInt - 1 - a.toInt) % b.toInt) hb).mpr ⟨?_, by omega, by omega⟩).1
      rw [Int.mul_neg]
      omega
    refine z_some (z_ofI64 ?_)
    rw [key, Int64.toInt_neg, hd, fb_bmodL (by omega) (by omega)]
/-- the middle's seconds -/
def z_mdl (H V : Nat → Nat) (l ro pl w : Nat) : Int32 := if ro = 0 ∨ ro = 44 * H l + 1 then (if w = 0 then (if ro = 0 then 324000 else -324000) else 0) else (Int64.ofInt ((z_eT H l ro pl (2 * w) + z_eT H l ro pl (2 * w + 1)) / (2 * (z_eB H V l ro (2 * w) : Int)))).toInt32
theorem z_mdlQ (g : CUT R C H V) (hl : l < 5) {ro pl e : Nat} (hr : ro ≤ 44 * H l + 1) (hp : pl < z_rl (H l) (V l) ro) : (Int64.ofInt (z_eT H l ro pl e) + Int64.ofInt (z_eT H l ro pl (e + 1))).toInt = z_eT H l ro pl e + z_eT H l ro pl (e + 1) ∧ ((2 : Int64) * lN (z_eB H V l ro e)).toInt = 2 * (z_eB H V l ro e : Int) ∧ 0 < 2 * (z_eB H V l ro e : Int) ∧ 2 * (z_eB H V l ro e : Int) ≤ 1126800 := by
  have hv := g.hv hl
  have hps := g.pos l hl
  have la := z_rl_pos (V := V l) hps.1 hps.2 hr
  have b1 := z_eTb (l := l) (H0 := H) (ro := ro) (pl := pl) (e := e) hv.1 hr (by omega)
  have b2 := z_eTb (l := l) (H0 := H) (ro := ro) (pl := pl) (e := e + 1) hv.1 hr (by omega)
  have b3 := z_eBb g hl (ro := ro) (e := e) hr
  have t2 : (2 : Int64).toInt = 2 := rfl
  refine ⟨?_, ?_, by omega, by omega⟩
  · rw [fb_addL (by rw [z_ofT (by omega) (by omega), z_ofT (by omega) (by omega)]; omega) (by rw [z_ofT (by omega) (by omega), z_ofT (by omega) (by omega)]; omega), z_ofT (by omega) (by omega), z_ofT (by omega) (by omega)]
  · rw [fb_mulL (by rw [t2, lN_toInt (by omega)]; omega) (by rw [t2, lN_toInt (by omega)]; omega), t2, lN_toInt (by omega)]
theorem z_mdlC0 {H V : Nat → Nat} {ro pl : Nat} (h : ro = 0 ∨ ro = 44 * H l + 1) : z_mdl H V l ro pl 0 = if ro = 0 then 324000 else -324000 := (if_pos h).trans (if_pos rfl)
theorem z_mdlC1 {H V : Nat → Nat} {ro pl : Nat} (h : ro = 0 ∨ ro = 44 * H l + 1) : z_mdl H V l ro pl 1 = 0 := (if_pos h).trans (if_neg (show ¬ (1 : Nat) = 0 by omega))
theorem z_mdlN {H V : Nat → Nat} {ro pl w : Nat} (h : ¬ (ro = 0 ∨ ro = 44 * H l + 1)) : z_mdl H V l ro pl w = (Int64.ofInt ((z_eT H l ro pl (2 * w) + z_eT H l ro pl (2 * w + 1)) / (2 * (z_eB H V l ro (2 * w) : Int)))).toInt32 := if_neg h
theorem r_middleLat (g : GOK R C H V rc cc br zc rw sh) (hl : l < 5) {ro pl : Nat} (hr : ro ≤ 44 * H l + 1) (hp : pl < z_rl (H l) (V l) ro) : f_Spot_middleLat (nI l) (nI ro) (nI pl) (nI (z_rl (H l) (V l) ro)) (z_cap (H l) ro) br = some (z_mdl H V l ro pl 0) := by
  have hv := g.2.hv hl
  unfold f_Spot_middleLat
  by_cases hc : ro = 0 ∨ ro = 44 * H l + 1
  · rw [z_mdlC0 hc, z_capY hc, if_neg (show ¬ (1 : Int32) = 0 by decide)]
    by_cases h0 : ro = 0
    · rw [if_pos h0, if_pos (show nI ro = 0 by rw [h0]; rfl)]
    · rw [if_neg h0, if_neg (show ¬ nI ro = 0 by rw [z_eq0 (by omega)]; exact h0)]
  · obtain ⟨q1, q2, q3, q4⟩ := z_mdlQ g.2 hl (e := 0) hr hp
    have e0 := r_edgeTop g hl hr hp (e := 0) (by omega)
    have e1 := r_edgeTop g hl hr hp (e := 1) (by omega)
    have eb := r_edgeBottom g hl hr (e := 0) (by omega)
    rw [z_capN hc] at e0 e1 eb
    rw [z_mdlN hc, z_capN hc, if_pos (show (0 : Int32) = 0 from rfl), show f_Spot_edgeTop (nI l) (nI ro) (nI pl) 0 br 0 = _ from e0, q_b1_s, show f_Spot_edgeTop (nI l) (nI ro) (nI pl) 0 br 1 = _ from e1, q_b1_s, show f_Spot_edgeBottom (nI l) (nI (z_rl (H l) (V l) ro)) 0 br 0 = _ from eb, q_b1_s, k_floorDivL (by rw [q2]; exact q3), q_b1_s, q1, q2]
theorem r_middleLon (g : GOK R C H V rc cc br zc rw sh) (hl : l < 5) {ro pl : Nat} (hr : ro ≤ 44 * H l + 1) (hp : pl < z_rl (H l) (V l) ro) : f_Spot_middleLon (nI l) (nI ro) (nI pl) (nI (z_rl (H l) (V l) ro)) (z_cap (H l) ro) br = some (z_mdl H V l ro pl 1) := by
  have hv := g.2.hv hl
  unfold f_Spot_middleLon
  by_cases hc : ro = 0 ∨ ro = 44 * H l + 1
  · rw [z_mdlC1 hc, z_capY hc, if_neg (show ¬ (1 : Int32) = 0 by decide)]
  · obtain ⟨q1, q2, q3, q4⟩ := z_mdlQ g.2 hl (e := 2) hr hp
    have e0 := r_edgeTop g hl hr hp (e := 2) (by omega)
    have e1 := r_edgeTop g hl hr hp (e := 3) (by omega)
    have eb := r_edgeBottom g hl hr (e := 2) (by omega)
    rw [z_capN hc] at e0 e1 eb
    rw [z_mdlN hc, z_capN hc, if_pos (show (0 : Int32) = 0 from rfl), show f_Spot_edgeTop (nI l) (nI ro) (nI pl) 0 br 2 = _ from e0, q_b1_s, show f_Spot_edgeTop (nI l) (nI ro) (nI pl) 0 br 3 = _ from e1, q_b1_s, show f_Spot_edgeBottom (nI l) (nI (z_rl (H l) (V l) ro)) 0 br 2 = _ from eb, q_b1_s, k_floorDivL (by rw [q2]; exact q3), q_b1_s, q1, q2]
theorem r_middleOf (g : MOK R C H V cr cq dp wd za) (hN : 50 ≤ N) (hl : l < 5) {k ro pl w : Nat} (hk : k < 2130 * (H l * V l) + 2) (hr : ro ≤ 44 * H l + 1) (hp : pl < z_rl (H l) (V l) ro) (hk2 : k = z_rs (H l) (V l) ro + pl) (hw : w < 2) (bl bo : Int64) (ed : Nat → Int64) : Ok (f_M_middleOf N dp wd za bl bo ed (nI l) (nI k) (nI w)) (fun x => x.1 = z_mdl H V l ro pl w) := by
  have hv := g.2.2.hv hl
  have hps := g.2.2.pos l hl
  have hs := g.2.2.sh hl
  obtain ⟨cz, cc1⟩ := z_capR hps.1 hr hp hk2
  unfold f_M_middleOf
  rcases t_isCap g hl hk with ⟨c1, e1⟩ | ⟨c1, e1⟩
  · have hc := cc1.mp c1
    rw [e1, q_b1_s, if_neg (show ¬ (1 : Int32) = 0 by decide)]
    rcases (show w = 0 ∨ w = 1 by omega) with rfl | rfl
    · rw [if_neg (show ¬ nI 0 = 1 by decide), z_mdlC0 hc]
      by_cases h0 : ro = 0
      · rw [if_pos h0, if_pos (show nI k = 0 by rw [z_eq0 (by omega)]; exact cz.mpr h0)]; exact Ok.ret rfl
      · rw [if_neg h0, if_neg (show ¬ nI k = 0 by rw [z_eq0 (by omega)]; exact fun z => h0 (cz.mp z))]; exact Ok.ret rfl
    · rw [if_pos (show nI 1 = 1 from rfl), z_mdlC1 hc]; exact Ok.ret rfl
  · have hc : ¬ (ro = 0 ∨ ro = 44 * H l + 1) := fun z => c1 (cc1.mpr z)
    rw [e1, q_b1_s, if_pos (show (0 : Int32) = 0 from rfl), z_mdlN hc]
    refine Ok.b3 (r_laysEdges g hN hl hr hp hk2 bl bo ed) (fun v2 v3 f4 h => ?_)
    obtain ⟨h1, h2, h3⟩ := h
    dsimp only at h1 h2 h3
    rcases (show w = 0 ∨ w = 1 by omega) with rfl | rfl
    · obtain ⟨q1, q2, q3, q4⟩ := z_mdlQ g.2.2 hl (e := 0) hr hp
      have b1 := z_eTb (l := l) (H0 := H) (ro := ro) (pl := pl) (e := 0) hv.1 hr (by have := z_rl_pos (V := V l) hps.1 hps.2 hr; omega)
      have b2 := z_eTb (l := l) (H0 := H) (ro := ro) (pl := pl) (e := 0 + 1) hv.1 hr (by have := z_rl_pos (V := V l) hps.1 hps.2 hr; omega)
      rw [if_pos (show nI 0 = 0 from rfl), show (0 : Int32) = nI 0 from rfl, z_al (by omega) (by omega), z_i 1, z_al (by omega) (by omega), h3 0 (by omega), h3 1 (by omega), h1, m_down (by rw [q2]; exact q3) (by rw [q1]; omega) (by rw [q1]; omega) (by rw [q2]; omega), q_b1_s, q1, q2]
      exact Ok.ret rfl
    · obtain ⟨q1, q2, q3, q4⟩ := z_mdlQ g.2.2 hl (e := 2) hr hp
      have b1 := z_eTb (l := l) (H0 := H) (ro := ro) (pl := pl) (e := 2) hv.1 hr (by have := z_rl_pos (V := V l) hps.1 hps.2 hr; omega)
      have b2 := z_eTb (l := l) (H0 := H) (ro := ro) (pl := pl) (e := 2 + 1) hv.1 hr (by have := z_rl_pos (V := V l) hps.1 hps.2 hr; omega)
      rw [if_neg (show ¬ nI 1 = 0 by decide), z_i 2, z_al (by omega) (by omega), z_i 3, z_al (by omega) (by omega), h3 2 (by omega), h3 3 (by omega), h2, m_down (by rw [q2]; exact q3) (by rw [q1]; omega) (by rw [q1]; omega) (by rw [q2]; omega), q_b1_s, q1, q2]
      exact Ok.ret rfl
/-! middle -/
def l_Cmiddle (sv : l_T) (p q w : Int32) : Prop := z_hs (z_pr (l_R sv)) (z_pr (l_C sv)) p q ∧ (0 ≤ w.toInt ∧ w.toInt ≤ 1)
def l_Fmiddle (sv : l_T) (w : Int32) (s : Nat × Nat × Nat × Nat) : Int32 := z_mdl (z_pr (l_R sv)) (z_pr (l_C sv)) s.1 s.2.2.1 s.2.2.2 w.toInt.toNat
def l_amiddle (sv : l_T) (p q w r : Int32) : Prop := l_rel (l_Cmiddle sv p q w) (-1000000) (l_sp sv p q) (l_Fmiddle sv w) r
theorem l_amiddle_one {p q w r r' : Int32} (h : l_ok sv) (h1 : l_amiddle sv p q w r) (h2 : l_amiddle sv p q w r') : r = r' := l_rel_one (l_sp_one h) h1 h2
theorem a_x_middle (g : GOK (l_R sv) (l_C sv) (z_pr (l_R sv)) (z_pr (l_C sv)) rc cc br zc rw sh) (hN : 1000000 ≤ N) (a1 a2 a3 a4 a5 a6 p q w : Int32) : Ok (f_X_middle N a1 a2 a3 a4 a5 a6 br zc rw sh p q w) (fun x => l_amiddle sv p q w x.1) := by
  unfold f_X_middle
  refine Ok.b1 (r_hasSheet g p q) (fun v1 h1 => ?_)
  rcases h1 with ⟨z, rfl⟩ | ⟨z, rfl⟩
  rotate_left
  · exact Ok.ite (fun _ => Ok.ret (l_relN (fun u => z u.1))) (fun c => absurd rfl c)
  refine Ok.ite (fun c => absurd c (by decide)) (fun _ => Ok.b1 (s_isFrom w 0 1) (fun v2 h2 => ?_))
  rw [show (0 : Int32).toInt = 0 from rfl, show (1 : Int32).toInt = 1 from rfl] at h2
  refine Ok.ite (fun c => Ok.ret (l_relN (fun u => z_if0 h2 c u.2))) (fun c => ?_)
  have hw := z_if1 h2 c
  have z' := z
  obtain ⟨l, k, hl, rfl, rfl, hk⟩ := z'
  obtain ⟨j, -, rfl, hjj⟩ := z_nat (r := w) (by omega)
  have hs := g.2.sh hl
  obtain ⟨ro, pl, e, d1, d2, d3⟩ := k_put (N := N) g (by omega) hl hk a1 a2 a3 a4 a5 a6
  have hsp : l_sp sv (nI l) (nI k) (l, k, ro, pl) := ⟨⟨hl, (show k < 20000000 by omega), d1, d2, d3⟩, rfl, rfl⟩
  rw [e, q_b6_s]
  rcases (show j = 0 ∨ j = 1 by omega) with rfl | rfl
  · rw [if_pos (show nI 0 = 0 from rfl), r_middleLat g hl d1 d2, q_b1_s]
    exact Ok.ret (l_relY ⟨z, hw⟩ hsp rfl)
  · rw [if_neg (show ¬ nI 1 = 0 by decide), r_middleLon g hl d1 d2, q_b1_s]
    exact Ok.ret (l_relY ⟨z, hw⟩ hsp rfl)
theorem a_m_middle (g : MOK (l_R sv) (l_C sv) (z_pr (l_R sv)) (z_pr (l_C sv)) cr cq dp wd za) (hN : 1000000 ≤ N) (bl bo : Int64) (ed : Nat → Int64) (p q w : Int32) : Ok (f_M_middle N dp wd za bl bo ed p q w) (fun x => l_amiddle sv p q w x.1) := by
  unfold f_M_middle
  refine Ok.b1 (r_isKey g p q) (fun v1 h1 => ?_)
  rcases h1 with ⟨z, rfl⟩ | ⟨z, rfl⟩
  rotate_left
  · exact Ok.ite (fun _ => Ok.ret (l_relN (fun u => z u.1))) (fun c => absurd rfl c)
  refine Ok.ite (fun c => absurd c (by decide)) (fun _ => Ok.b1 (t_in _ _ _) (fun v2 h2 => ?_))
  rw [z_toL, show (0 : Int64).toInt = 0 from rfl, show (1 : Int64).toInt = 1 from rfl] at h2
  refine Ok.ite (fun c => Ok.ret (l_relN (fun u => z_if0 h2 c u.2))) (fun c => ?_)
  have hw := z_if1 h2 c
  have z' := z
  obtain ⟨l, k, hl, rfl, rfl, hk⟩ := z'
  obtain ⟨j, -, rfl, hjj⟩ := z_nat (r := w) (by omega)
  have hs := g.2.2.sh hl
  obtain ⟨ro, pl, d1, d2, d3, -, -⟩ := t_spot (N := N) g (by omega) hl hk
  have hsp : l_sp sv (nI l) (nI k) (l, k, ro, pl) := ⟨⟨hl, (show k < 20000000 by omega), d1, d2, d3⟩, rfl, rfl⟩
  have hj : (nI j).toInt.toNat = j := by rw [hjj]; rfl
  refine Ok.b4 (r_middleOf (N := N) g (by omega) hl hk d1 d2 d3 (w := j) (by omega) bl bo ed) (fun v3 v4 v5 f6 h3 => Ok.ret (l_relY ⟨z, hw⟩ hsp ?_))
  dsimp only at h3
  rw [h3]
  unfold l_Fmiddle
  rw [hj]
/-! edge: the common divisor of both sides -/
theorem z_gcdI {a b : Nat} (ha : a < 2 ^ 62) (hb : b < 2 ^ 31) (h0 : b ≠ 0) {β : Type} {k : Int64 → Option β} : q_rml (lN a) (lN b) k = k (lN (a % b)) := z_rml (by omega) (by omega) (by omega)
theorem z_cmp0N {b : Nat} (hb : b < 2 ^ 31) : lg_cmp (lN b) 0 = 0 ↔ b = 0 := by
  rw [z_lcmpE, show (0 : Int64) = lN 0 from rfl, lN_eq hb (by omega)]
theorem r_gcdM_L : ∀ n a b, a < 2 ^ 62 → b < 2 ^ 31 → b < n → f_M_common_L17 n (lN a) (lN b) = some (lN (Nat.gcd a b)) := by
  intro n
  induction n with
  | zero => intro a b h1 h2 h3; omega
  | succ n ih =>
    intro a b h1 h2 h3
    unfold f_M_common_L17
    by_cases c : b = 0
    · rw [if_pos ((z_cmp0N h2).mpr c), c, Nat.gcd_zero_right]
    · have hm : a % b < b := Nat.mod_lt _ (by omega)
      rw [if_neg (fun z => c ((z_cmp0N h2).mp z)), z_gcdI h1 h2 c, ih b (a % b) (by omega) (by omega) (by omega), Nat.gcd_comm a b, Nat.gcd_rec b a, Nat.gcd_comm]
theorem r_gcdX_L : ∀ m n a b i, a < 2 ^ 62 → b < 2 ^ 31 → i + 2 * m + 2 ≤ 200 → b < 2 ^ m → b ≤ a → 2 * m + 2 < n → f_X_commonDivisor_L9 n (lN a) (lN b) (nI i) = some (lN (Nat.gcd a b)) := by
  intro m
  induction m with
  | zero =>
    intro n a b i h1 h2 h3 h4 h5 h6
    obtain ⟨n, rfl⟩ : ∃ k, n = k + 1 := ⟨n - 1, by omega⟩
    have hb : b = 0 := by omega
    unfold f_X_commonDivisor_L9
    rw [if_neg (by rw [z_i 200, nI_leI (by omega) (by omega)]; omega), if_pos ((z_cmp0N h2).mpr hb), hb, Nat.gcd_zero_right]
  | succ m ih =>
    intro n a b i h1 h2 h3 h4 h5 h6
    obtain ⟨n, rfl⟩ : ∃ k, n = k + 1 + 1 := ⟨n - 2, by omega⟩
    unfold f_X_commonDivisor_L9
    rw [if_neg (by rw [z_i 200, nI_leI (by omega) (by omega)]; omega)]
    by_cases c : b = 0
    · rw [if_pos ((z_cmp0N h2).mpr c), c, Nat.gcd_zero_right]
    · have hm : a % b < b := Nat.mod_lt _ (by omega)
      rw [if_neg (fun z => c ((z_cmp0N h2).mp z)), z_gcdI h1 h2 c, nI_1, z_nm]
      unfold f_X_commonDivisor_L9
      rw [if_neg (by rw [z_i 200, nI_leI (by omega) (by omega)]; omega)]
      have e1 : Nat.gcd b (a % b) = Nat.gcd a b := by rw [Nat.gcd_comm a b, Nat.gcd_rec b a, Nat.gcd_comm]
      by_cases c2 : a % b = 0
      · rw [if_pos ((z_cmp0N (by omega)).mpr c2), ← e1, c2, Nat.gcd_zero_right]
      · have hm2 : b % (a % b) < a % b := Nat.mod_lt _ (by omega)
        have hh : b % (a % b) + a % b ≤ b := by
          have h7 := Nat.div_add_mod b (a % b)
          have h8 : 1 ≤ b / (a % b) := Nat.div_pos (by omega) (by omega)
          have h9 : (a % b) * 1 ≤ (a % b) * (b / (a % b)) := Nat.mul_le_mul_left _ h8
          omega
        have h10 : 2 ^ (m + 1) = 2 * 2 ^ m := by rw [Nat.pow_succ, Nat.mul_comm]
        have e2 : Nat.gcd (a % b) (b % (a % b)) = Nat.gcd b (a % b) := by rw [Nat.gcd_comm b (a % b), Nat.gcd_rec (a % b) b, Nat.gcd_comm]
        rw [if_neg (fun z => c2 ((z_cmp0N (by omega)).mp z)), z_gcdI (by omega) (by omega) c2, nI_1, z_nm, ih n (a % b) (b % (a % b)) (i + 1 + 1) (by omega) (by omega) (by omega) (by omega) (by omega) (by omega), e2, e1]
theorem z_gcd1 {a b : Nat} (h0 : b ≠ 0) : Nat.gcd b (a % b) = Nat.gcd a b := by rw [Nat.gcd_comm a b, Nat.gcd_rec b a, Nat.gcd_comm]
theorem r_gcdX (hN : 1000000 ≤ N) {a b : Nat} (ha : a < 2 ^ 62) (h1 : 1 ≤ b) (hb : b < 2 ^ 20) : f_X_commonDivisor N (lN a) (lN b) = some (lN (Nat.gcd a b)) := by
  obtain ⟨n, rfl⟩ : ∃ k, N = k + 1 := ⟨N - 1, by omega⟩
  unfold f_X_commonDivisor
  rw [z_nm]
  have hm : a % b < b := Nat.mod_lt _ (by omega)
  have e : f_X_commonDivisor_L9 (n + 1) (lN a) (lN b) 0 = some (lN (Nat.gcd a b)) := by
    unfold f_X_commonDivisor_L9
    rw [if_neg (by decide), if_neg (fun z => absurd ((z_cmp0N (by omega)).mp z) (by omega)), z_gcdI ha (by omega) (by omega), show (0 : Int32) + 1 = nI 1 from rfl, z_nm, r_gcdX_L 20 n b (a % b) 1 (by omega) (by omega) (by omega) (by omega) (by omega) (by omega), z_gcd1 (by omega)]
  rw [e, q_b1_s]
theorem r_gcdM (hN : 1000000 ≤ N) {x : Int64} (hx : -1000000000000 ≤ x.toInt ∧ x.toInt ≤ 1000000000000) {b : Nat} (h1 : 1 ≤ b) (hb : b < 2 ^ 19 + 2 ^ 18) : f_M_common N x (lN b) = some (lN (Nat.gcd x.toInt.natAbs b)) := by
  unfold f_M_common
  rw [z_j1]
  have e : ∀ y : Int64, y.toInt = (x.toInt.natAbs : Int) → f_M_common_L17 N y (lN b) = some (lN (Nat.gcd x.toInt.natAbs b)) := by
    intro y hy
    have ey : y = lN x.toInt.natAbs := by
      apply Int64.toInt_inj.mp
      rw [hy]
      exact (lg_ofNat_toInt (by omega)).symm
    rw [ey, r_gcdM_L N _ b (by omega) (by omega) (by omega)]
  by_cases c : 0 ≤ x.toInt
  · rw [if_pos (z_lcmp0.mpr c)]
    dsimp only
    rw [e x (by omega), q_b1_s]
  · rw [if_neg (fun z => c (z_lcmp0.mp z))]
    dsimp only
    rw [e (-x) (by rw [Int64.toInt_neg, fb_bmodL (by omega) (by omega)]; omega), q_b1_s]
/-- a fraction's top and bottom in lowest terms -/
def z_frT (T : Int) (B : Nat) : Int64 := Int64.ofInt T / lN (Nat.gcd T.natAbs B)
def z_frB (T : Int) (B : Nat) : Int64 := lN B / lN (Nat.gcd T.natAbs B)
def l_Cedge (sv : l_T) (p q w : Int32) : Prop := z_hs (z_pr (l_R sv)) (z_pr (l_C sv)) p q ∧ (0 ≤ w.toInt ∧ w.toInt ≤ 7)
def l_Fedge (sv : l_T) (j : Nat) (s : Nat × Nat × Nat × Nat) : Int64 := if j % 2 = 0 then z_frT (z_eT (z_pr (l_R sv)) s.1 s.2.2.1 s.2.2.2 (j / 2)) (z_eB (z_pr (l_R sv)) (z_pr (l_C sv)) s.1 s.2.2.1 (j / 2)) else z_frB (z_eT (z_pr (l_R sv)) s.1 s.2.2.1 s.2.2.2 (j / 2)) (z_eB (z_pr (l_R sv)) (z_pr (l_C sv)) s.1 s.2.2.1 (j / 2))
def l_aedge (sv : l_T) (p q w : Int32) (r : Int64) : Prop := (¬ l_Cedge sv p q w ∧ r = -9223372036854775808) ∨ (l_Cedge sv p q w ∧ ∃ s, l_sp sv p q s ∧ r = l_Fedge sv w.toInt.toNat s)
theorem l_aedge_one {p q w : Int32} {r r' : Int64} (h : l_ok sv) (h1 : l_aedge sv p q w r) (h2 : l_aedge sv p q w r') : r = r' := by
  rcases h1 with ⟨a, b⟩ | ⟨a, s, h1, e⟩ <;> rcases h2 with ⟨a', b'⟩ | ⟨a', s', h1', e'⟩
  · exact b.trans b'.symm
  · exact absurd a' a
  · exact absurd a a'
  · rw [l_sp_one h s s' h1 h1'] at e
    exact e.trans e'.symm
theorem z_absI {x : Int64} (hx : -1000000000000 ≤ x.toInt ∧ x.toInt ≤ 1000000000000) : (if 0 < x then x else -x : Int64) = lN x.toInt.natAbs := by
  apply Int64.toInt_inj.mp
  have e : (lN x.toInt.natAbs).toInt = (x.toInt.natAbs : Int) := lg_ofNat_toInt (by omega)
  rw [e]
  by_cases c : 0 < x
  · have c' := Int64.lt_iff_toInt_lt.mp c
    rw [show (0 : Int64).toInt = 0 from rfl] at c'
    rw [if_pos c]; omega
  · have c' : ¬ 0 < x.toInt := fun z => c (Int64.lt_iff_toInt_lt.mpr (by rw [show (0 : Int64).toInt = 0 from rfl]; exact z))
    rw [if_neg c, Int64.toInt_neg, fb_bmodL (by omega) (by omega)]; omega
theorem z_gcdB {T : Int} {B : Nat} (h1 : 1 ≤ B) (h2 : B ≤ 563400) : 1 ≤ Nat.gcd T.natAbs B ∧ Nat.gcd T.natAbs B ≤ 563400 := ⟨Nat.gcd_pos_of_pos_right _ h1, Nat.le_trans (Nat.gcd_le_right _ h1) h2⟩
theorem a_x_edge (g : GOK (l_R sv) (l_C sv) (z_pr (l_R sv)) (z_pr (l_C sv)) rc cc br zc rw sh) (hN : 1000000 ≤ N) (a1 a2 a3 a4 a5 a6 p q w : Int32) : Ok (f_X_edge N a1 a2 a3 a4 a5 a6 br zc rw sh p q w) (fun x => l_aedge sv p q w x.1) := by
  unfold f_X_edge
  refine Ok.b1 (r_hasSheet g p q) (fun v1 h1 => ?_)
  rcases h1 with ⟨z, rfl⟩ | ⟨z, rfl⟩
  rotate_left
  · exact Ok.ite (fun _ => Ok.ret (Or.inl ⟨fun u => z u.1, rfl⟩)) (fun c => absurd rfl c)
  refine Ok.ite (fun c => absurd c (by decide)) (fun _ => Ok.b1 (s_isFrom w 0 7) (fun v2 h2 => ?_))
  rw [show (0 : Int32).toInt = 0 from rfl, show (7 : Int32).toInt = 7 from rfl] at h2
  refine Ok.ite (fun c => Ok.ret (Or.inl ⟨fun u => z_if0 h2 c u.2, rfl⟩)) (fun c => ?_)
  have hw := z_if1 h2 c
  have z' := z
  obtain ⟨l, k, hl, rfl, rfl, hk⟩ := z'
  obtain ⟨j, -, rfl, hjj⟩ := z_nat (r := w) (by omega)
  have hs := g.2.sh hl
  have hv := g.2.hv hl
  have hps := g.2.pos l hl
  obtain ⟨ro, pl, e, d1, d2, d3⟩ := k_put (N := N) g (by omega) hl hk a1 a2 a3 a4 a5 a6
  have la := z_rl_pos (V := z_pr (l_C sv) l) hps.1 hps.2 d1
  have hsp : l_sp sv (nI l) (nI k) (l, k, ro, pl) := ⟨⟨hl, (show k < 20000000 by omega), d1, d2, d3⟩, rfl, rfl⟩
  have bT := z_eTb (l := l) (H0 := z_pr (l_R sv)) (ro := ro) (pl := pl) (e := j / 2) hv.1 d1 (by omega)
  have bB := z_eBb g.2 hl (ro := ro) (e := j / 2) d1
  have tT := z_ofT (z := z_eT (z_pr (l_R sv)) l ro pl (j / 2)) (by omega) (by omega)
  have bG := z_gcdB (T := z_eT (z_pr (l_R sv)) l ro pl (j / 2)) bB.1 bB.2
  have fin : ∀ r : Int64, r = l_Fedge sv j (l, k, ro, pl) → l_aedge sv (nI l) (nI k) (nI j) r := fun r h => Or.inr ⟨⟨z, hw⟩, _, hsp, by rw [h, hjj]; rfl⟩
  unfold l_Fedge z_frT z_frB at fin
  rw [e, q_b6_s, z_i 2, z_dv (by omega) (by omega) (by omega), r_edgeTop g hl d1 d2 (by omega), q_b1_s, z_dv (by omega) (by omega) (by omega), r_edgeBottom g hl d1 (by omega), q_b1_s, z_nm, z_absI (by rw [tT]; exact bT), tT, r_gcdX hN (by omega) bB.1 (by omega), q_b1_s]
  refine Ok.ite (fun _ => ?_) (fun c => absurd ((lg_cmp_ge _ _).mpr ((lN_le (a := 1) (by omega) (by omega)).mpr bG.1)) c)
  rw [z_rm (by omega) (by omega) (by omega)]
  unfold q_dvl
  have g0 : ¬ lN (Nat.gcd (z_eT (z_pr (l_R sv)) l ro pl (j / 2)).natAbs (z_eB (z_pr (l_R sv)) (z_pr (l_C sv)) l ro (j / 2))) = 0 := z_lne0 bG.1 (by omega)
  by_cases c : j % 2 = 0
  · rw [if_pos (by rw [c]; rfl), if_neg g0]
    exact Ok.ret (fin _ (by rw [if_pos c]))
  · rw [if_neg (by rw [z_eq0 (by omega)]; exact c), if_neg g0]
    exact Ok.ret (fin _ (by rw [if_neg c]))
theorem a_m_edge (g : MOK (l_R sv) (l_C sv) (z_pr (l_R sv)) (z_pr (l_C sv)) cr cq dp wd za) (hN : 1000000 ≤ N) (bl bo : Int64) (ed : Nat → Int64) (p q w : Int32) : Ok (f_M_edge N dp wd za bl bo ed p q w) (fun x => l_aedge sv p q w x.1) := by
  unfold f_M_edge
  refine Ok.b1 (r_isKey g p q) (fun v1 h1 => ?_)
  rcases h1 with ⟨z, rfl⟩ | ⟨z, rfl⟩
  rotate_left
  · exact Ok.ite (fun _ => Ok.ret (Or.inl ⟨fun u => z u.1, rfl⟩)) (fun c => absurd rfl c)
  refine Ok.ite (fun c => absurd c (by decide)) (fun _ => Ok.b1 (t_in _ _ _) (fun v2 h2 => ?_))
  rw [z_toL, show (0 : Int64).toInt = 0 from rfl, show (7 : Int64).toInt = 7 from rfl] at h2
  refine Ok.ite (fun c => Ok.ret (Or.inl ⟨fun u => z_if0 h2 c u.2, rfl⟩)) (fun c => ?_)
  have hw := z_if1 h2 c
  have z' := z
  obtain ⟨l, k, hl, rfl, rfl, hk⟩ := z'
  obtain ⟨j, -, rfl, hjj⟩ := z_nat (r := w) (by omega)
  have hs := g.2.2.sh hl
  have hv := g.2.2.hv hl
  have hps := g.2.2.pos l hl
  obtain ⟨ro, pl, d1, d2, d3, -, -⟩ := t_spot (N := N) g (by omega) hl hk
  have la := z_rl_pos (V := z_pr (l_C sv) l) hps.1 hps.2 d1
  have hsp : l_sp sv (nI l) (nI k) (l, k, ro, pl) := ⟨⟨hl, (show k < 20000000 by omega), d1, d2, d3⟩, rfl, rfl⟩
  have bT := z_eTb (l := l) (H0 := z_pr (l_R sv)) (ro := ro) (pl := pl) (e := j / 2) hv.1 d1 (by omega)
  have bB := z_eBb g.2.2 hl (ro := ro) (e := j / 2) d1
  have tT := z_ofT (z := z_eT (z_pr (l_R sv)) l ro pl (j / 2)) (by omega) (by omega)
  have bG := z_gcdB (T := z_eT (z_pr (l_R sv)) l ro pl (j / 2)) bB.1 bB.2
  have fin : ∀ r : Int64, r = l_Fedge sv j (l, k, ro, pl) → l_aedge sv (nI l) (nI k) (nI j) r := fun r h => Or.inr ⟨⟨z, hw⟩, _, hsp, by rw [h, hjj]; rfl⟩
  unfold l_Fedge z_frT z_frB at fin
  refine Ok.b3 (r_laysEdges (N := N) g (by omega) hl d1 d2 d3 bl bo ed) (fun v3 v4 f5 h => ?_)
  obtain ⟨h1, h2, h3⟩ := h
  dsimp only at h1 h2 h3
  have g0 : ¬ lN (Nat.gcd (z_eT (z_pr (l_R sv)) l ro pl (j / 2)).natAbs (z_eB (z_pr (l_R sv)) (z_pr (l_C sv)) l ro (j / 2))) = 0 := z_lne0 bG.1 (by omega)
  have K : ∀ v8 : Int64, v8 = lN (z_eB (z_pr (l_R sv)) (z_pr (l_C sv)) l ro (j / 2)) → Ok (q_b1 (f_M_common N (f5 (j / 2)) v8) (fun (v9 : Int64) => q_rm (nI j) (nI 2) (fun (v10 : Int32) => if v10 = 0 then (q_dvl (f5 (j / 2)) v9 (fun (v12 : Int64) => some (v12, v3, v4, f5))) else (q_dvl v8 v9 (fun (v11 : Int64) => some (v11, v3, v4, f5)))))) (fun x => l_aedge sv (nI l) (nI k) (nI j) x.1) := by
    intro v8 h8
    rw [h8, h3 (j / 2) (by omega), r_gcdM hN (by rw [tT]; exact bT) bB.1 (by omega), q_b1_s, tT, z_rm (by omega) (by omega) (by omega)]
    unfold q_dvl
    by_cases c : j % 2 = 0
    · rw [if_pos (by rw [c]; rfl), if_neg g0]
      exact Ok.ret (fin _ (by rw [if_pos c]))
    · rw [if_neg (by rw [z_eq0 (by omega)]; exact c), if_neg g0]
      exact Ok.ret (fin _ (by rw [if_neg c]))
  rw [z_i 2, z_dv (by omega) (by omega) (by omega), z_al (by omega) (by omega)]
  refine Ok.j1 ?_
  by_cases c : 4 ≤ j
  · rw [if_pos (by rw [z_i 4, nI_leI (by omega) (by omega)]; exact c)]
    exact K v4 (by rw [h2, z_eBhi (show ¬ 2 < 2 by omega), z_eBhi (show ¬ j / 2 < 2 by omega)])
  · rw [if_neg (by rw [z_i 4, nI_leI (by omega) (by omega)]; exact c)]
    exact K v3 (by rw [h1, z_eBlo (show 0 < 2 by omega), z_eBlo (show j / 2 < 2 by omega)])
end S8A
end
section
/-! answers: bands -/
section S11A
variable {R C H V : Nat → Nat} {rc cc br zc rw sh cr cq dp wd za : Nat → Int32} {sv : l_T} {N l t : Nat}
theorem z_klt {H0 V0 r p k b : Nat} (hH : 1 ≤ H0) (hV : 1 ≤ V0) (hr : r ≤ 44 * H0 + 1) (hp : p < z_rl H0 V0 r) (hk : k = z_rs H0 V0 r + p) (hb : b ≤ 44 * H0 + 1) : k < z_rs H0 V0 b ↔ r < b := by
  constructor
  · intro h
    apply Nat.lt_of_not_le
    intro c
    rcases Nat.lt_or_eq_of_le c with c | c
    · have := z_rs_mono (V := V0) hH r hr b c
      omega
    · subst c; omega
  · intro h
    have := z_rs_mono (V := V0) hH b hb r h
    omega
/-- bands ahead of a row; bands up to a row -/
def z_blo (H0 r : Nat) : Nat := if r = 0 then 0 else if r = 44 * H0 + 1 then 44 else (r - 1) / H0
def z_bhi (H0 r : Nat) : Nat := if r = 0 then 0 else if r = 44 * H0 + 1 then 44 else (r - 1) / H0 + 1
theorem z_blo_iff {H0 r q : Nat} (hH : 1 ≤ H0) (hr : r ≤ 44 * H0 + 1) (hq : q < 44) : r < (q + 1) * H0 + 1 ↔ z_blo H0 r ≤ q := by
  have hq2 : (q + 1) * H0 ≤ 44 * H0 := Nat.mul_le_mul_right _ hq
  unfold z_blo
  by_cases c0 : r = 0
  · rw [if_pos c0]; omega
  rw [if_neg c0]
  by_cases c1 : r = 44 * H0 + 1
  · rw [if_pos c1]; omega
  rw [if_neg c1]
  have e : (r - 1) / H0 < q + 1 ↔ r - 1 < (q + 1) * H0 := Nat.div_lt_iff_lt_mul hH
  omega
theorem z_bhi_iff {H0 r q : Nat} (hH : 1 ≤ H0) (hr : r ≤ 44 * H0 + 1) (hq : q < 44) : q * H0 + 1 ≤ r ↔ q < z_bhi H0 r := by
  have hq2 : (q + 1) * H0 ≤ 44 * H0 := Nat.mul_le_mul_right _ hq
  rw [Nat.succ_mul] at hq2
  unfold z_bhi
  by_cases c0 : r = 0
  · rw [if_pos c0]; omega
  rw [if_neg c0]
  by_cases c1 : r = 44 * H0 + 1
  · rw [if_pos c1]; omega
  rw [if_neg c1]
  have e : q ≤ (r - 1) / H0 ↔ q * H0 ≤ r - 1 := Nat.le_div_iff_mul_le hH
  omega
theorem r_x_bands_L (g : GOK R C H V rc cc br zc rw sh) (hl : l < 5) {k k2 lo hi : Nat} (hk : k < 2130 * (H l * V l) + 2) (hk2 : k2 < 2130 * (H l * V l) + 2) (hhi : hi ≤ 44) (hlo : ∀ q, q < 44 → (k < z_rs (H l) (V l) ((q + 1) * H l + 1) ↔ lo ≤ q)) (hhi2 : ∀ q, q < 44 → (z_rs (H l) (V l) (q * H l + 1) ≤ k2 ↔ q < hi)) : ∀ u i c, i ≤ 44 → 44 - i < u → c ≤ i → Ok (f_X_bands_L23 br rw sh zc (nI l) (nI k) (nI k2) u (nI c) (nI i)) (fun x => x = nI (c + (hi - (if lo ≤ i then i else lo)))) := by
  have hs := g.2.sh hl
  have hv := g.2.hv hl
  have hps := g.2.pos l hl
  intro u
  induction u with
  | zero => intro i c h1 h2; omega
  | succ u ih =>
    intro i c h1 h2 hc
    unfold f_X_bands_L23
    refine Ok.ite (fun d => ?_) (fun d => ?_)
    all_goals rw [z_i 44, nI_leI (by omega) (by omega)] at d
    · have e : i = 44 := by omega
      subst e
      refine Ok.ret (congrArg nI ?_)
      split <;> omega
    have hi44 : i < 44 := by omega
    have m1 : i * H l ≤ 43 * H l := Nat.mul_le_mul_right _ (by omega)
    have m2 : (i + 1) * H l ≤ 44 * H l := Nat.mul_le_mul_right _ (by omega)
    have r1 := z_rs_end (V := V l) (r := i * H l + 1) hps.1 (by omega)
    have r2 := z_rs_end (V := V l) (r := (i + 1) * H l + 1) hps.1 (by omega)
    have a1 := hlo i hi44
    have a2 := hhi2 i hi44
    rw [z_ai hl (by omega), (g.at hl).2.2.1, pk_mul, nI_1, k_rowStart g hl (by omega), q_b1_s, z_ai hl (by omega), (g.at hl).2.2.1, nI_1, pk_mul, nI_1, k_rowStart g hl (by omega), q_b1_s]
    refine Ok.j1 ?_
    refine Ok.ite (fun c1 => ?_) (fun c1 => ?_)
    all_goals rw [nI_leI (by omega) (by omega)] at c1
    · dsimp only
      rw [z_nm]
      have hl2 : ¬ lo ≤ i := fun z => absurd (a1.mpr z) (by omega)
      refine Ok.weak (ih (i + 1) c (by omega) (by omega) (by omega)) (fun x hx => ?_)
      rw [hx, if_neg hl2]
      by_cases e : lo ≤ i + 1
      · rw [if_pos e, show lo = i + 1 by omega]
      · rw [if_neg e]
    have hl2 : lo ≤ i := a1.mp (by omega)
    refine Ok.ite (fun c2 => ?_) (fun c2 => ?_)
    all_goals rw [nI_ltI (by omega) (by omega)] at c2
    · dsimp only
      rw [z_nm]
      have hh : ¬ i < hi := fun z => absurd (a2.mpr z) (by omega)
      refine Ok.weak (ih (i + 1) c (by omega) (by omega) (by omega)) (fun x hx => ?_)
      rw [hx, if_pos (show lo ≤ i + 1 by omega), if_pos hl2, show hi - (i + 1) = 0 by omega, show hi - i = 0 by omega]
    · have hh : i < hi := a2.mp (by omega)
      rw [nI_1, z_nm]
      dsimp only
      rw [z_nm]
      refine Ok.weak (ih (i + 1) (c + 1) (by omega) (by omega) (by omega)) (fun x hx => ?_)
      rw [hx, if_pos (show lo ≤ i + 1 by omega), if_pos hl2]
      exact congrArg nI (by omega)
def l_Cbands (sv : l_T) (p q w : Int32) : Prop := (l_hs sv p q ∧ l_hs sv p w) ∧ q ≤ w
def l_Sbands (sv : l_T) (p q w : Int32) (s : (Nat × Nat × Nat × Nat) × (Nat × Nat × Nat × Nat)) : Prop := l_sp sv p q s.1 ∧ l_sp sv p w s.2
def l_Fbands (sv : l_T) (s : (Nat × Nat × Nat × Nat) × (Nat × Nat × Nat × Nat)) : Int32 := nI (z_bhi (z_pr (l_R sv) s.1.1) s.2.2.2.1 - z_blo (z_pr (l_R sv) s.1.1) s.1.2.2.1)
def l_abands (sv : l_T) (p q w r : Int32) : Prop := l_rel (l_Cbands sv p q w) (-1) (l_Sbands sv p q w) (l_Fbands sv) r
theorem l_S2_one {p q w : Int32} (h : l_ok sv) : ∀ s s' : (Nat × Nat × Nat × Nat) × (Nat × Nat × Nat × Nat), l_Sbands sv p q w s → l_Sbands sv p q w s' → s = s' := by
  intro ⟨s1, s2⟩ ⟨t1, t2⟩ ⟨a, b⟩ ⟨a', b'⟩
  have e1 := l_sp_one h s1 t1 a a'
  have e2 := l_sp_one h s2 t2 b b'
  rw [e1, e2]
theorem l_abands_one {p q w r r' : Int32} (h : l_ok sv) (h1 : l_abands sv p q w r) (h2 : l_abands sv p q w r') : r = r' := l_rel_one (l_S2_one h) h1 h2
/-- where two sheets of a level lie -/
theorem l_two (g : CUT (l_R sv) (l_C sv) (z_pr (l_R sv)) (z_pr (l_C sv))) {p q w : Int32} (h1 : l_hs sv p q) (h2 : l_hs sv p w) : ∃ l k k2, l < 5 ∧ p = nI l ∧ q = nI k ∧ w = nI k2 ∧ k < 2130 * (z_pr (l_R sv) l * z_pr (l_C sv) l) + 2 ∧ k2 < 2130 * (z_pr (l_R sv) l * z_pr (l_C sv) l) + 2 := by
  obtain ⟨l, k, hl, rfl, rfl, hk⟩ := h1
  obtain ⟨l', k2, hl', e0, rfl, hk2⟩ := h2
  have e1 : l = l' := by rw [nI_eq (by omega) (by omega)] at e0; exact e0
  subst e1
  exact ⟨l, k, k2, hl, rfl, rfl, rfl, hk, hk2⟩
theorem a_x_bands (g : GOK (l_R sv) (l_C sv) (z_pr (l_R sv)) (z_pr (l_C sv)) rc cc br zc rw sh) (hN : 1000000 ≤ N) (p q w : Int32) : Ok (f_X_bands N br zc rw sh p q w) (fun x => l_abands sv p q w x) := by
  unfold f_X_bands
  refine Ok.b1 (r_areSheets g p q w) (fun v1 h1 => ?_)
  rcases h1 with ⟨z, rfl⟩ | ⟨z, rfl⟩
  rotate_left
  · exact Ok.ite (fun _ => Ok.ret (l_relN (fun u => z u.1))) (fun c => absurd rfl c)
  refine Ok.ite (fun c => absurd c (by decide)) (fun _ => Ok.ite (fun hi => ?_) (fun hi => Ok.ret (l_relN (fun u => hi u.2))))
  obtain ⟨l, k, k2, hl, rfl, rfl, rfl, hk, hk2⟩ := l_two g.2 z.1 z.2
  have hs := g.2.sh hl
  have hv := g.2.hv hl
  have hps := g.2.pos l hl
  obtain ⟨ro, er, d1, d2, d3⟩ := k_rowOfKey (N := N) g (by omega) hl hk
  obtain ⟨ro2, er2, f1, f2, f3⟩ := k_rowOfKey (N := N) g (by omega) hl hk2
  have hsp : l_Sbands sv (nI l) (nI k) (nI k2) ((l, k, ro, k - z_rs (z_pr (l_R sv) l) (z_pr (l_C sv) l) ro), (l, k2, ro2, k2 - z_rs (z_pr (l_R sv) l) (z_pr (l_C sv) l) ro2)) := ⟨⟨⟨hl, (show k < 20000000 by omega), d1, (show k - z_rs (z_pr (l_R sv) l) (z_pr (l_C sv) l) ro < z_rl (z_pr (l_R sv) l) (z_pr (l_C sv) l) ro by omega), (show k = z_rs (z_pr (l_R sv) l) (z_pr (l_C sv) l) ro + (k - z_rs (z_pr (l_R sv) l) (z_pr (l_C sv) l) ro) by omega)⟩, rfl, rfl⟩, ⟨⟨hl, (show k2 < 20000000 by omega), f1, (show k2 - z_rs (z_pr (l_R sv) l) (z_pr (l_C sv) l) ro2 < z_rl (z_pr (l_R sv) l) (z_pr (l_C sv) l) ro2 by omega), (show k2 = z_rs (z_pr (l_R sv) l) (z_pr (l_C sv) l) ro2 + (k2 - z_rs (z_pr (l_R sv) l) (z_pr (l_C sv) l) ro2) by omega)⟩, rfl, rfl⟩⟩
  have b1 : z_bhi (z_pr (l_R sv) l) ro2 ≤ 44 := by
    unfold z_bhi
    by_cases c0 : ro2 = 0
    · rw [if_pos c0]; omega
    rw [if_neg c0]
    by_cases c1 : ro2 = 44 * z_pr (l_R sv) l + 1
    · rw [if_pos c1]; omega
    rw [if_neg c1]
    have := z_q (r := ro2) (H := z_pr (l_R sv) l) (by omega) (by omega)
    omega
  have L1 : ∀ q, q < 44 → (k < z_rs (z_pr (l_R sv) l) (z_pr (l_C sv) l) ((q + 1) * z_pr (l_R sv) l + 1) ↔ z_blo (z_pr (l_R sv) l) ro ≤ q) := fun q hq => by
    have m2 : (q + 1) * z_pr (l_R sv) l ≤ 44 * z_pr (l_R sv) l := Nat.mul_le_mul_right _ hq
    rw [z_klt hps.1 hps.2 d1 (p := k - z_rs (z_pr (l_R sv) l) (z_pr (l_C sv) l) ro) (by omega) (by omega) (by omega)]
    exact z_blo_iff hps.1 d1 hq
  have L2 : ∀ q, q < 44 → (z_rs (z_pr (l_R sv) l) (z_pr (l_C sv) l) (q * z_pr (l_R sv) l + 1) ≤ k2 ↔ q < z_bhi (z_pr (l_R sv) l) ro2) := fun q hq => by
    have m2 : q * z_pr (l_R sv) l ≤ 44 * z_pr (l_R sv) l := Nat.mul_le_mul_right _ (by omega)
    have t := z_klt (V0 := z_pr (l_C sv) l) (k := k2) (b := q * z_pr (l_R sv) l + 1) hps.1 hps.2 f1 (p := k2 - z_rs (z_pr (l_R sv) l) (z_pr (l_C sv) l) ro2) (by omega) (by omega) (by omega)
    have t2 := z_bhi_iff (r := ro2) hps.1 f1 hq
    omega
  have I := r_x_bands_L g hl hk hk2 b1 L1 L2 N 0 0 (by omega) (by omega) (by omega)
  rw [z_nm, z_nm]
  refine Ok.b1 I (fun v h => Ok.ret (l_relY ⟨z, hi⟩ hsp ?_))
  rw [h]
  unfold l_Fbands
  refine congrArg nI ?_
  dsimp only
  split <;> omega
theorem a_m_bands (g : MOK (l_R sv) (l_C sv) (z_pr (l_R sv)) (z_pr (l_C sv)) cr cq dp wd za) (hN : 1000000 ≤ N) (p q w : Int32) : Ok (f_M_bands N dp wd za p q w) (fun x => l_abands sv p q w x) := by
  unfold f_M_bands
  refine Ok.b1 (r_isKey g p q) (fun v1 h1 => ?_)
  rcases h1 with ⟨z1, rfl⟩ | ⟨z, rfl⟩
  rotate_left
  · exact Ok.ite (fun _ => Ok.ret (l_relN (fun u => z u.1.1))) (fun c => absurd rfl c)
  refine Ok.ite (fun c => absurd c (by decide)) (fun _ => Ok.b1 (r_isKey g p w) (fun v2 h2 => ?_))
  rcases h2 with ⟨z2, rfl⟩ | ⟨z, rfl⟩
  rotate_left
  · exact Ok.ite (fun _ => Ok.ret (l_relN (fun u => z u.1.2))) (fun c => absurd rfl c)
  refine Ok.ite (fun c => absurd c (by decide)) (fun _ => Ok.ite (fun hi => ?_) (fun hi => Ok.ret (l_relN (fun u => hi u.2))))
  obtain ⟨l, k, k2, hl, rfl, rfl, rfl, hk, hk2⟩ := l_two g.2.2 z1 z2
  have hs := g.2.2.sh hl
  have hv := g.2.2.hv hl
  have hps := g.2.2.pos l hl
  obtain ⟨ro, er, d1, d2, d3⟩ := m_rowOf (N := N) g (by omega) hl hk
  obtain ⟨ro2, er2, f1, f2, f3⟩ := m_rowOf (N := N) g (by omega) hl hk2
  have hkk : k ≤ k2 := (nI_leI (by omega) (by omega)).mp hi
  have hrr : ro ≤ ro2 := by
    apply Nat.le_of_not_lt
    intro c
    have := z_rs_mono (V := z_pr (l_C sv) l) hps.1 ro d1 ro2 c
    omega
  have hsp : l_Sbands sv (nI l) (nI k) (nI k2) ((l, k, ro, k - z_rs (z_pr (l_R sv) l) (z_pr (l_C sv) l) ro), (l, k2, ro2, k2 - z_rs (z_pr (l_R sv) l) (z_pr (l_C sv) l) ro2)) := ⟨⟨⟨hl, (show k < 20000000 by omega), d1, (show k - z_rs (z_pr (l_R sv) l) (z_pr (l_C sv) l) ro < z_rl (z_pr (l_R sv) l) (z_pr (l_C sv) l) ro by omega), (show k = z_rs (z_pr (l_R sv) l) (z_pr (l_C sv) l) ro + (k - z_rs (z_pr (l_R sv) l) (z_pr (l_C sv) l) ro) by omega)⟩, rfl, rfl⟩, ⟨⟨hl, (show k2 < 20000000 by omega), f1, (show k2 - z_rs (z_pr (l_R sv) l) (z_pr (l_C sv) l) ro2 < z_rl (z_pr (l_R sv) l) (z_pr (l_C sv) l) ro2 by omega), (show k2 = z_rs (z_pr (l_R sv) l) (z_pr (l_C sv) l) ro2 + (k2 - z_rs (z_pr (l_R sv) l) (z_pr (l_C sv) l) ro2) by omega)⟩, rfl, rfl⟩⟩
  have fin : ∀ r, r = nI (z_bhi (z_pr (l_R sv) l) ro2 - z_blo (z_pr (l_R sv) l) ro) → Ok (some r) (fun x => l_abands sv (nI l) (nI k) (nI k2) x) := fun r h => Ok.ret (l_relY ⟨⟨z1, z2⟩, hi⟩ hsp h)
  have q1 : ∀ x, 1 ≤ x → x ≤ 44 * z_pr (l_R sv) l → (x - 1) / z_pr (l_R sv) l < 44 := fun x a b => z_q a b
  have K : ∀ a b, (ro = 0 → a = 1) → (ro ≠ 0 → a = ro) → (ro2 = 44 * z_pr (l_R sv) l + 1 → b = ro2 - 1) → (ro2 ≠ 44 * z_pr (l_R sv) l + 1 → b = ro2) → Ok (if nI a ≤ nI b then (q_b1 (f_M_bandOf dp (nI l) (nI b)) (fun (v8 : Int32) => q_b1 (f_M_bandOf dp (nI l) (nI a)) (fun (v9 : Int32) => some ((v8 - v9) + 1)))) else (some 0)) (fun x => l_abands sv (nI l) (nI k) (nI k2) x) := by
    intro a b a1 a2 b1 b2
    have ha : 1 ≤ a ∧ a ≤ 44 * z_pr (l_R sv) l + 1 := by
      by_cases c : ro = 0
      · have := a1 c; omega
      · have := a2 c; omega
    have hb : b ≤ 44 * z_pr (l_R sv) l := by
      by_cases c : ro2 = 44 * z_pr (l_R sv) l + 1
      · have := b1 c; omega
      · have := b2 c; omega
    have hH1 : 1 ≤ z_pr (l_R sv) l := hps.1
    refine Ok.ite (fun c => ?_) (fun c => ?_)
    all_goals rw [nI_leI (by omega) (by omega)] at c
    · rw [m_bandOf g hl (by omega) hb, q_b1_s, m_bandOf g hl ha.1 (by omega), q_b1_s]
      have hd : (a - 1) / z_pr (l_R sv) l ≤ (b - 1) / z_pr (l_R sv) l := Nat.div_le_div_right (by omega)
      rw [pk_sub hd, nI_1]
      refine fin _ (congrArg nI ?_)
      have elo : z_blo (z_pr (l_R sv) l) ro = (a - 1) / z_pr (l_R sv) l := by
        unfold z_blo
        by_cases c0 : ro = 0
        · rw [if_pos c0, a1 c0, Nat.sub_self, Nat.zero_div]
        · have := a2 c0
          rw [if_neg c0, if_neg (show ¬ ro = 44 * z_pr (l_R sv) l + 1 by omega), this]
      have ehi : z_bhi (z_pr (l_R sv) l) ro2 = (b - 1) / z_pr (l_R sv) l + 1 := by
        unfold z_bhi
        have c0 : ¬ ro2 = 0 := by
          by_cases c1 : ro2 = 44 * z_pr (l_R sv) l + 1
          · omega
          · have := b2 c1; omega
        rw [if_neg c0]
        by_cases c1 : ro2 = 44 * z_pr (l_R sv) l + 1
        · have e := b1 c1
          rw [if_pos c1, e, c1]
          have : (44 * z_pr (l_R sv) l + 1 - 1 - 1) / z_pr (l_R sv) l = 43 := by
            rw [show 44 * z_pr (l_R sv) l + 1 - 1 - 1 = z_pr (l_R sv) l * 43 + (z_pr (l_R sv) l - 1) by omega, Nat.mul_add_div (by omega), Nat.div_eq_of_lt (by omega)]
          rw [this]
        · rw [if_neg c1, b2 c1]
      rw [elo, ehi]
      omega
    · refine fin _ ?_
      have e : z_bhi (z_pr (l_R sv) l) ro2 - z_blo (z_pr (l_R sv) l) ro = 0 := by
        unfold z_bhi z_blo
        by_cases c0 : ro2 = 0
        · rw [if_pos c0]; omega
        rw [if_neg c0]
        by_cases c1 : ro2 = 44 * z_pr (l_R sv) l + 1
        · rw [if_pos c1]
          have := b1 c1
          by_cases c2 : ro = 0
          · have := a1 c2; omega
          · have := a2 c2
            rw [if_neg c2, if_pos (show ro = 44 * z_pr (l_R sv) l + 1 by omega)]
        · have := b2 c1
          by_cases c2 : ro = 0
          · have := a1 c2; omega
          · have := a2 c2; omega
      rw [e]; rfl
  rw [er, q_b1_s, er2, q_b1_s]
  refine Ok.j1 ?_
  by_cases c0 : ro = 0
  · rw [if_pos (show nI ro = 0 by rw [c0]; rfl)]
    dsimp only
    rw [m_lastRow g hl, q_b1_s]
    refine Ok.j1 ?_
    by_cases c1 : ro2 = 44 * z_pr (l_R sv) l + 1
    · rw [if_pos (show nI ro2 = nI (44 * z_pr (l_R sv) l + 1) by rw [c1]), z_sub1 (show 1 ≤ ro2 by omega)]
      exact K 1 (ro2 - 1) (fun _ => rfl) (fun z => absurd c0 z) (fun _ => rfl) (fun z => absurd c1 z)
    · rw [if_neg (show ¬ nI ro2 = nI (44 * z_pr (l_R sv) l + 1) by rw [nI_eq (by omega) (by omega)]; exact c1)]
      exact K 1 ro2 (fun _ => rfl) (fun z => absurd c0 z) (fun z => absurd z c1) (fun _ => rfl)
  · rw [if_neg (show ¬ nI ro = 0 by rw [z_eq0 (by omega)]; exact c0)]
    dsimp only
    rw [m_lastRow g hl, q_b1_s]
    refine Ok.j1 ?_
    by_cases c1 : ro2 = 44 * z_pr (l_R sv) l + 1
    · rw [if_pos (show nI ro2 = nI (44 * z_pr (l_R sv) l + 1) by rw [c1]), z_sub1 (show 1 ≤ ro2 by omega)]
      exact K ro (ro2 - 1) (fun z => absurd z c0) (fun _ => rfl) (fun _ => rfl) (fun z => absurd c1 z)
    · rw [if_neg (show ¬ nI ro2 = nI (44 * z_pr (l_R sv) l + 1) by rw [nI_eq (by omega) (by omega)]; exact c1)]
      exact K ro ro2 (fun z => absurd z c0) (fun _ => rfl) (fun z => absurd z c1) (fun _ => rfl)
end S11A
end
section
/-! answers: box, between -/
section S13A
variable {R C H V : Nat → Nat} {rc cc br zc rw sh cr cq dp wd za : Nat → Int32} {sv : l_T} {N l t : Nat}
/-- how many of a row are in a box from w to e -/
def z_bm (H V w e r : Nat) : Nat := if w ≤ e then e * z_rl H V r / 1296000 - w * z_rl H V r / 1296000 + 1 else if e * z_rl H V r / 1296000 < w * z_rl H V r / 1296000 then z_rl H V r - w * z_rl H V r / 1296000 + e * z_rl H V r / 1296000 + 1 else z_rl H V r
theorem z_bm_b {H0 V0 w e r : Nat} (hL : 1 ≤ z_rl H0 V0 r) (hw : w < 1296000) (he : e < 1296000) : 1 ≤ z_bm H0 V0 w e r ∧ z_bm H0 V0 w e r ≤ z_rl H0 V0 r := by
  have a1 := z_plIn hw hL
  have a2 := z_plIn he hL
  unfold z_bm
  by_cases c : w ≤ e
  · rw [if_pos c]; omega
  · rw [if_neg c]
    split <;> omega
/-- all of the rows ahead of a row -/
def z_bS (H V w e : Nat) : Nat → Nat
  | 0 => 0
  | r + 1 => z_bS H V w e r + z_bm H V w e r
theorem z_bS_le {H0 V0 w e : Nat} (hH : 1 ≤ H0) (hV : 1 ≤ V0) (hw : w < 1296000) (he : e < 1296000) : ∀ r, r ≤ 44 * H0 + 1 → z_bS H0 V0 w e r ≤ z_rs H0 V0 r
  | 0, _ => by unfold z_bS; omega
  | r + 1, h => by
    have i1 := z_bS_le hH hV hw he r (by omega)
    have b1 := z_bm_b (r := r) (H0 := H0) (V0 := V0) (z_rl_pos hH hV (by omega)).1 hw he
    have e1 := z_rs_succ (V := V0) hH (r := r) (by omega)
    unfold z_bS
    omega
theorem z_bS_top {H0 V0 w e : Nat} (hH : 1 ≤ H0) (hV : 1 ≤ V0) (hw : w < 1296000) (he : e < 1296000) {r : Nat} (h : r ≤ 44 * H0 + 2) : z_bS H0 V0 w e r ≤ 2130 * (H0 * V0) + 2 := by
  by_cases c : r ≤ 44 * H0 + 1
  · have i1 := z_bS_le hH hV hw he r c
    have e1 := z_rs_end (V := V0) hH c
    omega
  · obtain rfl : r = 44 * H0 + 1 + 1 := by omega
    have i1 := z_bS_le hH hV hw he (44 * H0 + 1) (by omega)
    have b1 := z_bm_b (r := 44 * H0 + 1) (H0 := H0) (V0 := V0) (z_rl_pos hH hV (by omega)).1 hw he
    have e1 := z_rs_end (V := V0) hH (r := 44 * H0 + 1) (by omega)
    unfold z_bS
    omega
theorem z_bS_mono {H0 V0 w e : Nat} : ∀ n r, z_bS H0 V0 w e r ≤ z_bS H0 V0 w e (r + n)
  | 0, _ => Nat.le_refl _
  | n + 1, r => by
    have := z_bS_mono (H0 := H0) (V0 := V0) (w := w) (e := e) n r
    exact Nat.le_trans this (Nat.le_add_right _ _)
theorem z_bS_le2 {H0 V0 w e a b : Nat} (h : a ≤ b) : z_bS H0 V0 w e a ≤ z_bS H0 V0 w e b := by
  obtain ⟨n, rfl⟩ : ∃ n, b = a + n := ⟨b - a, by omega⟩
  exact z_bS_mono n a
theorem z_bS_const {H0 V0 w e m : Nat} : ∀ n r, (∀ i, i < n → z_bm H0 V0 w e (r + i) = m) → z_bS H0 V0 w e (r + n) = z_bS H0 V0 w e r + n * m
  | 0, r, _ => by rw [Nat.zero_mul]; rfl
  | n + 1, r, h => by
    have := z_bS_const (H0 := H0) (V0 := V0) (w := w) (e := e) n r (fun i hi => h i (by omega))
    rw [← Nat.add_assoc]
    show z_bS H0 V0 w e (r + n) + z_bm H0 V0 w e (r + n) = _
    rw [this, h n (by omega), Nat.succ_mul]
    omega
theorem z_rl_belt {H0 V0 q r : Nat} (hH : 1 ≤ H0) (hq : q < 44) (h1 : q * H0 + 1 ≤ r) (h2 : r ≤ (q + 1) * H0) : z_rl H0 V0 r = z_bz q * V0 := by
  have m : (q + 1) * H0 ≤ 44 * H0 := Nat.mul_le_mul_right _ hq
  have e : (r - 1) / H0 = q := by
    rw [Nat.div_eq_iff (by omega)]
    rw [Nat.succ_mul] at h2
    omega
  unfold z_rl
  rw [if_neg (show ¬ (r = 0 ∨ r = 44 * H0 + 1) by omega), e]
theorem z_bm_belt {H0 V0 w e q r r2 : Nat} (hH : 1 ≤ H0) (hq : q < 44) (h1 : q * H0 + 1 ≤ r) (h2 : r ≤ (q + 1) * H0) (g1 : q * H0 + 1 ≤ r2) (g2 : r2 ≤ (q + 1) * H0) : z_bm H0 V0 w e r = z_bm H0 V0 w e r2 := by
  unfold z_bm
  rw [z_rl_belt hH hq h1 h2, z_rl_belt hH hq g1 g2]
theorem r_inRow (g : GOK R C H V rc cc br zc rw sh) (hl : l < 5) {w e r : Nat} (hw : w < 1296000) (he : e < 1296000) (hr : r ≤ 44 * H l + 1) : f_Box_inRow (nI w) (nI e) br zc rw (nI l) (nI r) = some (nI (z_bm (H l) (V l) w e r)) := by
  have hv := g.2.hv hl
  have hps := g.2.pos l hl
  have lr := z_rl_pos (V := V l) hps.1 hps.2 hr
  obtain ⟨e1, a1⟩ := k_placeOfLon g hl hr hw
  obtain ⟨e2, a2⟩ := k_placeOfLon g hl hr he
  unfold f_Box_inRow z_bm
  rw [e1, q_b1_s, e2, q_b1_s]
  by_cases c : w ≤ e
  · have hd : w * z_rl (H l) (V l) r / 1296000 ≤ e * z_rl (H l) (V l) r / 1296000 := Nat.div_le_div_right (Nat.mul_le_mul_right _ c)
    rw [if_neg (show ¬ nI e < nI w by rw [nI_ltI (by omega) (by omega)]; omega), if_pos c, pk_sub hd, nI_1]
  · rw [if_pos (show nI e < nI w by rw [nI_ltI (by omega) (by omega)]; omega), if_neg c, k_rowLength g hl hr, q_b1_s, pk_sub (by omega), nI_add, nI_1, z_nm]
    by_cases c2 : e * z_rl (H l) (V l) r / 1296000 < w * z_rl (H l) (V l) r / 1296000
    · rw [if_pos c2]
      by_cases c3 : z_rl (H l) (V l) r - w * z_rl (H l) (V l) r / 1296000 + e * z_rl (H l) (V l) r / 1296000 + 1 < z_rl (H l) (V l) r
      · rw [if_pos (show nI (z_rl (H l) (V l) r - w * z_rl (H l) (V l) r / 1296000 + e * z_rl (H l) (V l) r / 1296000 + 1) < nI (z_rl (H l) (V l) r) by rw [nI_ltI (by omega) (by omega)]; exact c3)]
      · rw [if_neg (show ¬ nI (z_rl (H l) (V l) r - w * z_rl (H l) (V l) r / 1296000 + e * z_rl (H l) (V l) r / 1296000 + 1) < nI (z_rl (H l) (V l) r) by rw [nI_ltI (by omega) (by omega)]; exact c3)]
        exact congrArg (fun z => some (nI z)) (by omega)
    · rw [if_neg c2, if_neg (show ¬ nI (z_rl (H l) (V l) r - w * z_rl (H l) (V l) r / 1296000 + e * z_rl (H l) (V l) r / 1296000 + 1) < nI (z_rl (H l) (V l) r) by rw [nI_ltI (by omega) (by omega)]; omega)]
theorem r_boxMany (g : MOK R C H V cr cq dp wd za) (hl : l < 5) {w e r : Nat} (hw : w < 1296000) (he : e < 1296000) (hr : r ≤ 44 * H l + 1) : f_M_boxMany dp wd (nI l) (nI w) (nI e) (nI r) = some (nI (z_bm (H l) (V l) w e r)) := by
  have hv := g.2.2.hv hl
  have hps := g.2.2.pos l hl
  have lr := z_rl_pos (V := V l) hps.1 hps.2 hr
  have a1 := z_plIn hw lr.1
  have a2 := z_plIn he lr.1
  unfold f_M_boxMany z_bm
  rw [m_many g hl hr, q_b1_s, m_placeAt hw (by omega), q_b1_s, m_placeAt he (by omega), q_b1_s]
  by_cases c : w ≤ e
  · have hd : w * z_rl (H l) (V l) r / 1296000 ≤ e * z_rl (H l) (V l) r / 1296000 := Nat.div_le_div_right (Nat.mul_le_mul_right _ c)
    rw [if_neg (show ¬ nI e < nI w by rw [nI_ltI (by omega) (by omega)]; omega), if_pos c, pk_sub hd, nI_1]
  · rw [if_pos (show nI e < nI w by rw [nI_ltI (by omega) (by omega)]; omega), if_neg c]
    by_cases c2 : e * z_rl (H l) (V l) r / 1296000 < w * z_rl (H l) (V l) r / 1296000
    · rw [if_pos c2, if_pos (show nI (e * z_rl (H l) (V l) r / 1296000) < nI (w * z_rl (H l) (V l) r / 1296000) by rw [nI_ltI (by omega) (by omega)]; exact c2), pk_sub (by omega), nI_add, nI_1]
    · rw [if_neg c2, if_neg (show ¬ nI (e * z_rl (H l) (V l) r / 1296000) < nI (w * z_rl (H l) (V l) r / 1296000) by rw [nI_ltI (by omega) (by omega)]; exact c2)]
/-- the key of the j-th of a row from the west -/
def z_bkey (H V w r j : Nat) : Nat := z_rs H V r + (w * z_rl H V r / 1296000 + j) % z_rl H V r
theorem r_fromWest (g : GOK R C H V rc cc br zc rw sh) (hl : l < 5) {w r j : Nat} (hw : w < 1296000) (hr : r ≤ 44 * H l + 1) (hj : j ≤ z_rl (H l) (V l) r) : f_Box_keyFromWest (nI w) br zc rw sh (nI l) (nI r) (nI j) = some (nI (z_bkey (H l) (V l) w r j)) := by
  have hv := g.2.hv hl
  have hps := g.2.pos l hl
  have lr := z_rl_pos (V := V l) hps.1 hps.2 hr
  obtain ⟨e1, a1⟩ := k_placeOfLon g hl hr hw
  unfold f_Box_keyFromWest z_bkey
  rw [e1, q_b1_s, k_rowStart g hl hr, q_b1_s, k_rowLength g hl hr, q_b1_s, nI_add, z_rm (by omega) (by omega) (by omega), nI_add]
theorem r_westKey (g : MOK R C H V cr cq dp wd za) (hl : l < 5) {w r j : Nat} (hw : w < 1296000) (hr : r ≤ 44 * H l + 1) (hj : j ≤ z_rl (H l) (V l) r) : f_M_westOf dp wd (nI l) (nI w) (nI r) = some (nI (w * z_rl (H l) (V l) r / 1296000)) ∧ f_M_keyOf dp wd za (nI l) (nI r) (nI ((w * z_rl (H l) (V l) r / 1296000 + j) % z_rl (H l) (V l) r)) = some (nI (z_bkey (H l) (V l) w r j)) := by
  have hv := g.2.2.hv hl
  have hps := g.2.2.pos l hl
  have lr := z_rl_pos (V := V l) hps.1 hps.2 hr
  have hm : (w * z_rl (H l) (V l) r / 1296000 + j) % z_rl (H l) (V l) r < z_rl (H l) (V l) r := Nat.mod_lt _ (by omega)
  unfold f_M_westOf
  rw [m_many g hl hr, q_b1_s, m_placeAt hw (by omega), q_b1_s, m_keyOf g hl hr hm]
  exact ⟨rfl, rfl⟩
/-! the class's belts -/
/-- the first row of a belt -/
def z_fst (H j : Nat) : Nat := if j = 0 then 0 else (j - 1) * H + 1
theorem z_fstS {H0 j : Nat} : z_fst H0 (j + 1) = j * H0 + 1 := by
  unfold z_fst
  rw [if_neg (by omega), Nat.add_sub_cancel]
/-- the last one -/
def z_lst (H j : Nat) : Nat := if j ≤ 44 then j * H else 44 * H + 1
theorem z_fl {H0 j : Nat} (hH : 1 ≤ H0) (hj : j ≤ 44) : z_fst H0 (j + 1) = z_lst H0 j + 1 := by
  rw [z_fstS]
  unfold z_lst
  rw [if_pos hj]
theorem z_fl1 {H0 j : Nat} (hH : 1 ≤ H0) (hj : j ≤ 45) : z_fst H0 j ≤ z_lst H0 j ∧ z_lst H0 j ≤ 44 * H0 + 1 := by
  unfold z_fst z_lst
  by_cases c : j = 0
  · subst c; rw [if_pos rfl]; exact ⟨Nat.zero_le _, by split <;> omega⟩
  · rw [if_neg c]
    obtain ⟨q, rfl⟩ : ∃ q, j = q + 1 := ⟨j - 1, by omega⟩
    rw [Nat.add_sub_cancel]
    by_cases d : q + 1 ≤ 44
    · have m : (q + 1) * H0 ≤ 44 * H0 := Nat.mul_le_mul_right _ d
      rw [if_pos d]
      rw [Nat.succ_mul] at m ⊢
      omega
    · have e : q = 44 := by omega
      subst e
      rw [if_neg (by omega)]
      omega
theorem z_bm_in {H0 V0 w e j r r2 : Nat} (hH : 1 ≤ H0) (hj : j ≤ 45) (h1 : z_fst H0 j ≤ r) (h2 : r ≤ z_lst H0 j) (g1 : z_fst H0 j ≤ r2) (g2 : r2 ≤ z_lst H0 j) : z_bm H0 V0 w e r = z_bm H0 V0 w e r2 := by
  by_cases c : j = 0
  · subst c
    have e0 : z_lst H0 0 = 0 := by unfold z_lst; rw [if_pos (by omega), Nat.zero_mul]
    have : r = r2 := by omega
    rw [this]
  · obtain ⟨q, rfl⟩ : ∃ q, j = q + 1 := ⟨j - 1, by omega⟩
    rw [z_fstS] at h1 g1
    by_cases d : q + 1 ≤ 44
    · have e0 : z_lst H0 (q + 1) = (q + 1) * H0 := by unfold z_lst; rw [if_pos d]
      rw [e0] at h2 g2
      exact z_bm_belt hH (by omega) h1 h2 g1 g2
    · have e1 : q = 44 := by omega
      subst e1
      have e0 : z_lst H0 (44 + 1) = 44 * H0 + 1 := by unfold z_lst; rw [if_neg (by omega)]
      have : r = r2 := by omega
      rw [this]
theorem r_beltTop (g : GOK R C H V rc cc br zc rw sh) (hl : l < 5) {p : Int32} (h1 : -324000 ≤ p.toInt) (h2 : p.toInt ≤ 324000) {j : Nat} (hj : j ≤ 45) : f_Box_beltTop p br rw (nI l) (nI j) = some (nI (if z_fst (H l) j < z_rowLat (H l) p.toInt then z_rowLat (H l) p.toInt else z_fst (H l) j)) := by
  have hv := g.2.hv hl
  have hps := g.2.pos l hl
  have hr := z_rowLat_le hps.1 p.toInt
  have hf := z_fl1 hps.1 hj
  have K : ∀ a, a ≤ 44 * H l + 1 → q_b1 (f_Box_topRow p br rw (nI l)) (fun (v2 : Int32) => q_nm ((if nI a < v2 then v2 else nI a) : Int32) (fun (v3 : Int32) => some v3)) = some (nI (if a < z_rowLat (H l) p.toInt then z_rowLat (H l) p.toInt else a)) := by
    intro a ha
    unfold f_Box_topRow
    rw [k_rowOfLat g hl h1 h2, q_b1_s, q_b1_s, z_nm]
    by_cases c : a < z_rowLat (H l) p.toInt
    · rw [if_pos (show nI a < nI (z_rowLat (H l) p.toInt) by rw [nI_ltI (by omega) (by omega)]; exact c), if_pos c]
    · rw [if_neg (show ¬ nI a < nI (z_rowLat (H l) p.toInt) by rw [nI_ltI (by omega) (by omega)]; exact c), if_neg c]
  unfold f_Box_beltTop
  rw [z_j1]
  by_cases c : j = 0
  · have e : z_fst (H l) j = 0 := by unfold z_fst; rw [if_pos c]
    rw [if_pos (show nI j = 0 by rw [c]; rfl), e]
    exact K 0 (by omega)
  · have e : z_fst (H l) j = (j - 1) * H l + 1 := by unfold z_fst; rw [if_neg c]
    rw [if_neg (show ¬ nI j = 0 by rw [z_eq0 (by omega)]; exact c), z_ai hl (by omega), (g.at hl).2.2.1, z_sub1 (by omega), pk_mul, nI_1, e]
    exact K ((j - 1) * H l + 1) (by omega)
theorem r_beltBottom (g : GOK R C H V rc cc br zc rw sh) (hl : l < 5) {p : Int32} (h1 : -324000 ≤ p.toInt) (h2 : p.toInt ≤ 324000) {j : Nat} (hj : j ≤ 45) : f_Box_beltBottom p br rw (nI l) (nI j) = some (nI (if z_rowLat (H l) p.toInt < z_lst (H l) j then z_rowLat (H l) p.toInt else z_lst (H l) j)) := by
  have hv := g.2.hv hl
  have hps := g.2.pos l hl
  have hr := z_rowLat_le hps.1 p.toInt
  have hf := z_fl1 hps.1 hj
  have K : ∀ a, a ≤ 44 * H l + 1 → q_b1 (f_Box_bottomRow p br rw (nI l)) (fun (v2 : Int32) => q_nm ((if v2 < nI a then v2 else nI a) : Int32) (fun (v3 : Int32) => some v3)) = some (nI (if z_rowLat (H l) p.toInt < a then z_rowLat (H l) p.toInt else a)) := by
    intro a ha
    unfold f_Box_bottomRow
    rw [k_rowOfLat g hl h1 h2, q_b1_s, q_b1_s, z_nm]
    by_cases c : z_rowLat (H l) p.toInt < a
    · rw [if_pos (show nI (z_rowLat (H l) p.toInt) < nI a by rw [nI_ltI (by omega) (by omega)]; exact c), if_pos c]
    · rw [if_neg (show ¬ nI (z_rowLat (H l) p.toInt) < nI a by rw [nI_ltI (by omega) (by omega)]; exact c), if_neg c]
  unfold f_Box_beltBottom
  rw [z_j1]
  by_cases c : j ≤ 44
  · have e : z_lst (H l) j = j * H l := by unfold z_lst; rw [if_pos c]
    rw [if_pos (show nI j ≤ 44 by rw [z_i 44, nI_leI (by omega) (by omega)]; exact c), z_ai hl (by omega), (g.at hl).2.2.1, pk_mul, e]
    exact K (j * H l) (by omega)
  · have e : z_lst (H l) j = 44 * H l + 1 := by unfold z_lst; rw [if_neg c]
    rw [if_neg (show ¬ nI j ≤ 44 by rw [z_i 44, nI_leI (by omega) (by omega)]; exact c), z_ai hl (by omega), (g.at hl).2.2.2.2.1, z_sub1 (by omega), show 44 * H l + 2 - 1 = 44 * H l + 1 by omega, e]
    exact K (44 * H l + 1) (by omega)
/-- the next row to look at -/
def z_cl (tp bt f : Nat) : Nat := if f < tp then tp else if bt + 1 < f then bt + 1 else f
theorem z_lat_mono {H0 : Nat} (hH : 1 ≤ H0) {x y : Int} (h : x ≤ y) : z_rowLat H0 y ≤ z_rowLat H0 x := by
  have hx := z_rowLat_le hH x
  have hy := z_rowLat_le hH y
  by_cases c1 : 316800 ≤ y
  · have e : z_rowLat H0 y = 0 := by unfold z_rowLat; rw [if_pos c1]
    omega
  by_cases c2 : x < -316800
  · have e : z_rowLat H0 x = 44 * H0 + 1 := by unfold z_rowLat; rw [if_neg (by omega), if_pos c2]
    omega
  have a1 := z_rowLat_in (H := H0) (x := x) (by omega) (by omega) hH
  have a2 := z_rowLat_in (H := H0) (x := y) (by omega) (by omega) hH
  have m : x * (H0 : Int) ≤ y * (H0 : Int) := Int.mul_le_mul_of_nonneg_right h (by omega)
  have d := Int.ediv_le_ediv (c := 14400) (by decide) m
  unfold z_rowLat
  rw [if_neg c1, if_neg (show ¬ y < -316800 by omega), if_neg (show ¬ 316800 ≤ x by omega), if_neg c2]
  omega
theorem r_sheetsAt (g : GOK R C H V rc cc br zc rw sh) (hN : 1000000 ≤ N) (hl : l < 5) {a b : Int32} (ha : -324000 ≤ a.toInt) (ha2 : a.toInt ≤ 324000) (hb : -324000 ≤ b.toInt) (hb2 : b.toInt ≤ 324000) (hab : a.toInt ≤ b.toInt) {w e : Nat} (hw : w < 1296000) (he : e < 1296000) : f_Box_sheetsAt N a b (nI w) (nI e) br zc rw (nI l) = some (nI (z_bS (H l) (V l) w e (z_rowLat (H l) a.toInt + 1) - z_bS (H l) (V l) w e (z_rowLat (H l) b.toInt))) := by
  have hs := g.2.sh hl
  have hv := g.2.hv hl
  have hps := g.2.pos l hl
  have ht := z_rowLat_le hps.1 b.toInt
  have hbt := z_rowLat_le hps.1 a.toInt
  have htb := z_lat_mono hps.1 hab
  have S : ∀ u j, j ≤ 46 → 46 - j < u → f_Box_sheetsAt_L4 (nI e) b a (nI w) br rw zc (nI l) u (nI (z_bS (H l) (V l) w e (z_cl (z_rowLat (H l) b.toInt) (z_rowLat (H l) a.toInt) (z_fst (H l) j)) - z_bS (H l) (V l) w e (z_rowLat (H l) b.toInt))) (nI j) = some (nI (z_bS (H l) (V l) w e (z_rowLat (H l) a.toInt + 1) - z_bS (H l) (V l) w e (z_rowLat (H l) b.toInt))) := by
    intro u
    induction u with
    | zero => intro j h1 h2; omega
    | succ u ih =>
      intro j h1 h2
      unfold f_Box_sheetsAt_L4
      by_cases c : j = 46
      · subst c
        have e1 : z_cl (z_rowLat (H l) b.toInt) (z_rowLat (H l) a.toInt) (z_fst (H l) 46) = z_rowLat (H l) a.toInt + 1 := by
          have : z_fst (H l) 46 = 45 * H l + 1 := z_fstS
          unfold z_cl
          by_cases d : z_fst (H l) 46 < z_rowLat (H l) b.toInt
          · omega
          · rw [if_neg d]
            by_cases d2 : z_rowLat (H l) a.toInt + 1 < z_fst (H l) 46
            · rw [if_pos d2]
            · rw [if_neg d2]; omega
        rw [if_pos (by decide), e1]
      · have hj : j ≤ 45 := by omega
        have f1 := z_fl1 hps.1 hj
        have I := ih (j + 1) (by omega) (by omega)
        have fn : j ≤ 44 → z_fst (H l) (j + 1) = z_lst (H l) j + 1 := z_fl hps.1
        have fn2 : j = 45 → z_fst (H l) (j + 1) = 45 * H l + 1 ∧ z_lst (H l) j = 44 * H l + 1 := fun z => by
          subst z
          exact ⟨z_fstS, by unfold z_lst; rw [if_neg (by omega)]⟩
        have bS : ∀ r, r ≤ 44 * H l + 2 → z_bS (H l) (V l) w e r ≤ 2130 * (H l * V l) + 2 := fun r hr => z_bS_top hps.1 hps.2 hw he hr
        rw [if_neg (show ¬ (45 : Int32) < nI j by rw [z_i 45, nI_ltI (by omega) (by omega)]; omega), r_beltTop g hl hb hb2 hj, q_b1_s, r_beltBottom g hl ha ha2 hj, q_b1_s, z_j1]
        generalize z_rowLat (H l) b.toInt = tp at *
        generalize z_rowLat (H l) a.toInt = bt at *
        have tB : (if z_fst (H l) j < tp then tp else z_fst (H l) j) ≤ 44 * H l + 1 := by split <;> omega
        have bB : (if bt < z_lst (H l) j then bt else z_lst (H l) j) ≤ 44 * H l + 1 := by split <;> omega
        by_cases d : (if bt < z_lst (H l) j then bt else z_lst (H l) j) < (if z_fst (H l) j < tp then tp else z_fst (H l) j)
        · rw [if_pos (show nI _ < nI _ by rw [nI_ltI (by omega) (by omega)]; exact d)]
          dsimp only
          rw [nI_1, z_nm]
          have e1 : z_cl tp bt (z_fst (H l) (j + 1)) = z_cl tp bt (z_fst (H l) j) := by
            unfold z_cl
            by_cases c45 : j = 45
            · have := fn2 c45
              revert d
              (repeat' split) <;> intros <;> omega
            · have := fn (by omega)
              revert d
              (repeat' split) <;> intros <;> omega
          rw [e1] at I
          exact I
        · have hin := r_inRow g hl hw he (r := if z_fst (H l) j < tp then tp else z_fst (H l) j) tB
          rw [if_neg (show ¬ nI _ < nI _ by rw [nI_ltI (by omega) (by omega)]; exact d), hin, q_b1_s]
          generalize ht2 : (if z_fst (H l) j < tp then tp else z_fst (H l) j) = t2 at *
          generalize hb3 : (if bt < z_lst (H l) j then bt else z_lst (H l) j) = b2 at *
          have d1 : t2 ≤ b2 := by omega
          have q1 : z_fst (H l) j ≤ t2 ∧ tp ≤ t2 := by rw [← ht2]; split <;> omega
          have q2 : b2 ≤ z_lst (H l) j ∧ b2 ≤ bt := by rw [← hb3]; split <;> omega
          have e1 : z_cl tp bt (z_fst (H l) j) = t2 := by
            unfold z_cl
            rw [← ht2]
            split
            · rfl
            · split <;> omega
          have e2 : z_cl tp bt (z_fst (H l) (j + 1)) = b2 + 1 := by
            unfold z_cl
            by_cases c45 : j = 45
            · have := fn2 c45
              rw [← hb3]
              (repeat' split) <;> omega
            · have := fn (by omega)
              rw [← hb3]
              (repeat' split) <;> omega
          have sc := z_bS_const (H0 := H l) (V0 := V l) (w := w) (e := e) (m := z_bm (H l) (V l) w e t2) (b2 - t2 + 1) t2 (fun i hi => z_bm_in hps.1 hj (by omega) (by omega) q1.1 (by omega))
          rw [show t2 + (b2 - t2 + 1) = b2 + 1 by omega] at sc
          have mono := z_bS_le2 (H0 := H l) (V0 := V l) (w := w) (e := e) q1.2
          have bb := bS (b2 + 1) (by omega)
          dsimp only
          rw [pk_sub d1, nI_1, pk_mul, e1, nI_add, z_nm, nI_1, z_nm]
          rw [e2] at I
          rw [show z_bS (H l) (V l) w e t2 - z_bS (H l) (V l) w e tp + (b2 - t2 + 1) * z_bm (H l) (V l) w e t2 = z_bS (H l) (V l) w e (b2 + 1) - z_bS (H l) (V l) w e tp by omega]
          exact I
  have I := S N 0 (by omega) (by omega)
  have e0 : z_cl (z_rowLat (H l) b.toInt) (z_rowLat (H l) a.toInt) (z_fst (H l) 0) = z_rowLat (H l) b.toInt := by
    have : z_fst (H l) 0 = 0 := rfl
    unfold z_cl
    split
    · rfl
    · split <;> omega
  rw [e0, Nat.sub_self] at I
  unfold f_Box_sheetsAt
  rw [z_nm, z_nm, show (0 : Int32) = nI 0 from rfl, I, q_b1_s]
/-- the i-th sheet of a box -/
def z_bk (H V w e tp bt i k : Nat) : Prop := ∃ r, tp ≤ r ∧ r ≤ bt ∧ z_bS H V w e r ≤ i + z_bS H V w e tp ∧ i + z_bS H V w e tp < z_bS H V w e (r + 1) ∧ k = z_bkey H V w r (i + z_bS H V w e tp - z_bS H V w e r)
theorem z_bk_one {H0 V0 w e tp bt i k k' : Nat} (h : z_bk H0 V0 w e tp bt i k) (h' : z_bk H0 V0 w e tp bt i k') : k = k' := by
  obtain ⟨r, a1, a2, a3, a4, rfl⟩ := h
  obtain ⟨r', b1, b2, b3, b4, rfl⟩ := h'
  have e : r = r' := by
    rcases Nat.lt_trichotomy r r' with c | c | c
    · have := z_bS_le2 (H0 := H0) (V0 := V0) (w := w) (e := e) (show r + 1 ≤ r' by omega)
      omega
    · exact c
    · have := z_bS_le2 (H0 := H0) (V0 := V0) (w := w) (e := e) (show r' + 1 ≤ r by omega)
      omega
  subst e
  rfl
theorem r_sheetAt (g : GOK R C H V rc cc br zc rw sh) (hN : 1000000 ≤ N) (hl : l < 5) {a b : Int32} (ha : -324000 ≤ a.toInt) (ha2 : a.toInt ≤ 324000) (hb : -324000 ≤ b.toInt) (hb2 : b.toInt ≤ 324000) (hab : a.toInt ≤ b.toInt) {w e i : Nat} (hw : w < 1296000) (he : e < 1296000) (hi : i < z_bS (H l) (V l) w e (z_rowLat (H l) a.toInt + 1) - z_bS (H l) (V l) w e (z_rowLat (H l) b.toInt)) : Ok (f_Box_sheetAt N a b (nI w) (nI e) br zc rw sh (nI l) (nI i)) (fun x => ∃ k, x = nI k ∧ z_bk (H l) (V l) w e (z_rowLat (H l) b.toInt) (z_rowLat (H l) a.toInt) i k) := by
  have hs := g.2.sh hl
  have hv := g.2.hv hl
  have hps := g.2.pos l hl
  have ht := z_rowLat_le hps.1 b.toInt
  have hbt := z_rowLat_le hps.1 a.toInt
  have htb := z_lat_mono hps.1 hab
  have bS : ∀ r, r ≤ 44 * H l + 2 → z_bS (H l) (V l) w e r ≤ 2130 * (H l * V l) + 2 := fun r hr => z_bS_top hps.1 hps.2 hw he hr
  have S : ∀ u j, j ≤ 46 → 46 - j < u → z_bS (H l) (V l) w e (z_cl (z_rowLat (H l) b.toInt) (z_rowLat (H l) a.toInt) (z_fst (H l) j)) ≤ i + z_bS (H l) (V l) w e (z_rowLat (H l) b.toInt) → Ok (f_Box_sheetAt_L5 (nI e) b a (nI w) br rw sh zc (nI l) (nI i) u (nI (z_bS (H l) (V l) w e (z_cl (z_rowLat (H l) b.toInt) (z_rowLat (H l) a.toInt) (z_fst (H l) j)) - z_bS (H l) (V l) w e (z_rowLat (H l) b.toInt))) (nI j)) (fun x => ∃ k, x = .inr (nI k) ∧ z_bk (H l) (V l) w e (z_rowLat (H l) b.toInt) (z_rowLat (H l) a.toInt) i k) := by
    intro u
    induction u with
    | zero => intro j h1 h2; omega
    | succ u ih =>
      intro j h1 h2 hle
      have hbound := bS (z_rowLat (H l) a.toInt + 1) (by omega)
      unfold f_Box_sheetAt_L5
      by_cases c : j = 46
      · subst c
        have e1 : z_cl (z_rowLat (H l) b.toInt) (z_rowLat (H l) a.toInt) (z_fst (H l) 46) = z_rowLat (H l) a.toInt + 1 := by
          have : z_fst (H l) 46 = 45 * H l + 1 := z_fstS
          unfold z_cl
          by_cases d : z_fst (H l) 46 < z_rowLat (H l) b.toInt
          · omega
          · rw [if_neg d]
            by_cases d2 : z_rowLat (H l) a.toInt + 1 < z_fst (H l) 46
            · rw [if_pos d2]
            · rw [if_neg d2]; omega
        rw [e1] at hle
        omega
      · have hj : j ≤ 45 := by omega
        have f1 := z_fl1 hps.1 hj
        have I := ih (j + 1) (by omega) (by omega)
        have fn : j ≤ 44 → z_fst (H l) (j + 1) = z_lst (H l) j + 1 := z_fl hps.1
        have fn2 : j = 45 → z_fst (H l) (j + 1) = 45 * H l + 1 ∧ z_lst (H l) j = 44 * H l + 1 := fun z => by
          subst z
          exact ⟨z_fstS, by unfold z_lst; rw [if_neg (by omega)]⟩
        rw [if_neg (show ¬ (45 : Int32) < nI j by rw [z_i 45, nI_ltI (by omega) (by omega)]; omega), r_beltTop g hl hb hb2 hj, q_b1_s, r_beltBottom g hl ha ha2 hj, q_b1_s, z_j1]
        generalize z_rowLat (H l) b.toInt = tp at *
        generalize z_rowLat (H l) a.toInt = bt at *
        have tB : (if z_fst (H l) j < tp then tp else z_fst (H l) j) ≤ 44 * H l + 1 := by split <;> omega
        have bB : (if bt < z_lst (H l) j then bt else z_lst (H l) j) ≤ 44 * H l + 1 := by split <;> omega
        by_cases d : (if z_fst (H l) j < tp then tp else z_fst (H l) j) ≤ (if bt < z_lst (H l) j then bt else z_lst (H l) j)
        rotate_left
        · rw [if_neg (show ¬ nI _ ≤ nI _ by rw [nI_leI (by omega) (by omega)]; exact d)]
          dsimp only
          rw [nI_1, z_nm]
          have e1 : z_cl tp bt (z_fst (H l) (j + 1)) = z_cl tp bt (z_fst (H l) j) := by
            unfold z_cl
            by_cases c45 : j = 45
            · have := fn2 c45
              revert d
              (repeat' split) <;> intros <;> omega
            · have := fn (by omega)
              revert d
              (repeat' split) <;> intros <;> omega
          rw [e1] at I
          exact I hle
        · have hin := r_inRow g hl hw he (r := if z_fst (H l) j < tp then tp else z_fst (H l) j) tB
          rw [if_pos (show nI _ ≤ nI _ by rw [nI_leI (by omega) (by omega)]; exact d), hin, q_b1_s]
          generalize ht2 : (if z_fst (H l) j < tp then tp else z_fst (H l) j) = t2 at *
          generalize hb3 : (if bt < z_lst (H l) j then bt else z_lst (H l) j) = b2 at *
          have d1 : t2 ≤ b2 := d
          have q1 : z_fst (H l) j ≤ t2 ∧ tp ≤ t2 := by rw [← ht2]; split <;> omega
          have q2 : b2 ≤ z_lst (H l) j ∧ b2 ≤ bt := by rw [← hb3]; split <;> omega
          have e1 : z_cl tp bt (z_fst (H l) j) = t2 := by
            unfold z_cl
            rw [← ht2]
            split
            · rfl
            · split <;> omega
          have e2 : z_cl tp bt (z_fst (H l) (j + 1)) = b2 + 1 := by
            unfold z_cl
            by_cases c45 : j = 45
            · have := fn2 c45
              rw [← hb3]
              (repeat' split) <;> omega
            · have := fn (by omega)
              rw [← hb3]
              (repeat' split) <;> omega
          have lr := z_rl_pos (V := V l) hps.1 hps.2 (show t2 ≤ 44 * H l + 1 by omega)
          have mb := z_bm_b (w := w) (e := e) lr.1 hw he
          have scG : ∀ n, n ≤ b2 - t2 + 1 → z_bS (H l) (V l) w e (t2 + n) = z_bS (H l) (V l) w e t2 + n * z_bm (H l) (V l) w e t2 := fun n hn => z_bS_const (H0 := H l) (V0 := V l) (w := w) (e := e) (m := z_bm (H l) (V l) w e t2) n t2 (fun i hi => z_bm_in hps.1 hj (by omega) (by omega) q1.1 (by omega))
          have sc := scG (b2 - t2 + 1) (by omega)
          rw [show t2 + (b2 - t2 + 1) = b2 + 1 by omega] at sc
          have mono := z_bS_le2 (H0 := H l) (V0 := V l) (w := w) (e := e) q1.2
          have bb := bS (b2 + 1) (by omega)
          have emax : (if (1 : Int32) < nI (z_bm (H l) (V l) w e t2) then nI (z_bm (H l) (V l) w e t2) else 1) = nI (z_bm (H l) (V l) w e t2) := by
            by_cases k1 : 1 < z_bm (H l) (V l) w e t2
            · rw [if_pos (show (1 : Int32) < nI (z_bm (H l) (V l) w e t2) by rw [z_i 1, nI_ltI (by omega) (by omega)]; exact k1)]
            · have : z_bm (H l) (V l) w e t2 = 1 := by omega
              rw [this]; rfl
          rw [e1] at hle
          rw [emax, z_nm, e1, pk_sub d1, nI_1, pk_mul, z_nm, pk_sub (show z_bS (H l) (V l) w e t2 - z_bS (H l) (V l) w e tp ≤ i by omega)]
          refine Ok.ite (fun k2 => ?_) (fun k2 => ?_)
          all_goals rw [nI_leI (by omega) (by omega)] at k2
          · rw [nI_add, z_nm]
            dsimp only
            rw [nI_1, z_nm]
            rw [e2] at I
            rw [show z_bS (H l) (V l) w e t2 - z_bS (H l) (V l) w e tp + (b2 - t2 + 1) * z_bm (H l) (V l) w e t2 = z_bS (H l) (V l) w e (b2 + 1) - z_bS (H l) (V l) w e tp by omega]
            exact I (by omega)
          · generalize hx : i - (z_bS (H l) (V l) w e t2 - z_bS (H l) (V l) w e tp) = x at *
            have hq : x / z_bm (H l) (V l) w e t2 < b2 - t2 + 1 := Nat.div_lt_of_lt_mul (by rw [Nat.mul_comm]; omega)
            have hm : x % z_bm (H l) (V l) w e t2 < z_bm (H l) (V l) w e t2 := Nat.mod_lt _ (by omega)
            have hdm := Nat.div_add_mod x (z_bm (H l) (V l) w e t2)
            have s1 := scG (x / z_bm (H l) (V l) w e t2) (Nat.le_of_lt hq)
            rw [Nat.mul_comm] at hdm
            rw [z_dv (by omega) (by omega) (by omega), z_rm (by omega) (by omega) (by omega), nI_add]
            generalize x / z_bm (H l) (V l) w e t2 = Q at hq hdm s1 ⊢
            generalize x % z_bm (H l) (V l) w e t2 = T at hm hdm ⊢
            have em := z_bm_in (V0 := V l) (w := w) (e := e) (r := t2 + Q) (r2 := t2) hps.1 hj (by omega) (by omega) q1.1 (by omega)
            have lr2 := z_rl_pos (V := V l) hps.1 hps.2 (show t2 + Q ≤ 44 * H l + 1 by omega)
            have mb2 := z_bm_b (w := w) (e := e) lr2.1 hw he
            rw [r_fromWest g hl hw (by omega) (by omega), q_b1_s]
            refine Ok.ret ⟨_, rfl, t2 + Q, by omega, by omega, by omega, ?_, ?_⟩
            · show _ < z_bS (H l) (V l) w e (t2 + Q) + z_bm (H l) (V l) w e (t2 + Q)
              omega
            · congr 1
              omega
  have e0 : z_cl (z_rowLat (H l) b.toInt) (z_rowLat (H l) a.toInt) (z_fst (H l) 0) = z_rowLat (H l) b.toInt := by
    have : z_fst (H l) 0 = 0 := rfl
    unfold z_cl
    split
    · rfl
    · split <;> omega
  have I := S N 0 (by omega) (by omega) (by rw [e0]; omega)
  rw [e0, Nat.sub_self] at I
  unfold f_Box_sheetAt
  rw [z_nm, z_nm]
  refine Ok.s0 I (fun h => ?_) (fun r h => ?_)
  · obtain ⟨k, h, -⟩ := h
    cases h
  · obtain ⟨k, h, hk⟩ := h
    cases h
    exact ⟨k, rfl, hk⟩
/-! the reference's rows -/
theorem r_boxAll (g : MOK R C H V cr cq dp wd za) (hN : 1000000 ≤ N) (hl : l < 5) {tp bt w e : Nat} (ht : tp ≤ bt) (hb : bt ≤ 44 * H l + 1) (hw : w < 1296000) (he : e < 1296000) : f_M_boxAll N dp wd (nI l) (nI tp) (nI bt) (nI w) (nI e) = some (nI (z_bS (H l) (V l) w e (bt + 1) - z_bS (H l) (V l) w e tp)) := by
  have hs := g.2.2.sh hl
  have hv := g.2.2.hv hl
  have hps := g.2.2.pos l hl
  have bS : ∀ r, r ≤ 44 * H l + 2 → z_bS (H l) (V l) w e r ≤ 2130 * (H l * V l) + 2 := fun r hr => z_bS_top hps.1 hps.2 hw he hr
  have S : ∀ u r, tp ≤ r → r ≤ bt + 1 → bt + 1 - r < u → f_M_boxAll_L7 (nI bt) (nI e) (nI l) (nI w) dp wd u (nI (z_bS (H l) (V l) w e r - z_bS (H l) (V l) w e tp)) (nI r) = some (nI (z_bS (H l) (V l) w e (bt + 1) - z_bS (H l) (V l) w e tp)) := by
    intro u
    induction u with
    | zero => intro r h1 h2 h3; omega
    | succ u ih =>
      intro r h1 h2 h3
      unfold f_M_boxAll_L7
      by_cases c : bt < r
      · rw [if_pos (show nI bt < nI r by rw [nI_ltI (by omega) (by omega)]; exact c), show r = bt + 1 by omega]
      rw [if_neg (show ¬ nI bt < nI r by rw [nI_ltI (by omega) (by omega)]; exact c), z_j1, z_j0]
      -- with the end of the rows that are alike
      have K : ∀ x, r ≤ x → (∀ i, i < (if bt ≤ x then bt else x) - r + 1 → z_bm (H l) (V l) w e (r + i) = z_bm (H l) (V l) w e r) → x ≤ 44 * H l + 1 → q_j1 (fun (v6 : Int32) => (q_b1 (f_M_boxMany dp wd (nI l) (nI w) (nI e) (nI r)) (fun (v7 : Int32) => q_nm ((nI (z_bS (H l) (V l) w e r - z_bS (H l) (V l) w e tp) + (((v6 - nI r) + 1) * v7)) : Int32) (fun (v8 : Int32) => q_nm ((v6 + 1) : Int32) (fun (v9 : Int32) => f_M_boxAll_L7 (nI bt) (nI e) (nI l) (nI w) dp wd u v8 v9))) : Option (Int32))) (fun (k73 : Int32 → Option (Int32)) => if nI bt ≤ nI x then (k73 (nI bt)) else (k73 (nI x))) = some (nI (z_bS (H l) (V l) w e (bt + 1) - z_bS (H l) (V l) w e tp)) := by
        intro x hx hc hx2
        have sc := z_bS_const (H0 := H l) (V0 := V l) (w := w) (e := e) (m := z_bm (H l) (V l) w e r) ((if bt ≤ x then bt else x) - r + 1) r hc
        have mono := z_bS_le2 (H0 := H l) (V0 := V l) (w := w) (e := e) h1
        have fin : ∀ y, y = (if bt ≤ x then bt else x) → q_b1 (f_M_boxMany dp wd (nI l) (nI w) (nI e) (nI r)) (fun (v7 : Int32) => q_nm ((nI (z_bS (H l) (V l) w e r - z_bS (H l) (V l) w e tp) + (((nI y - nI r) + 1) * v7)) : Int32) (fun (v8 : Int32) => q_nm ((nI y + 1) : Int32) (fun (v9 : Int32) => f_M_boxAll_L7 (nI bt) (nI e) (nI l) (nI w) dp wd u v8 v9))) = some (nI (z_bS (H l) (V l) w e (bt + 1) - z_bS (H l) (V l) w e tp)) := by
          intro y hy
          have hy2 : r ≤ y ∧ y ≤ bt := by rw [hy]; split <;> omega
          rw [← hy, show r + (y - r + 1) = y + 1 by omega] at sc
          rw [r_boxMany g hl hw he (by omega), q_b1_s, pk_sub hy2.1, nI_1, pk_mul, nI_add, z_nm, nI_1, z_nm, show z_bS (H l) (V l) w e r - z_bS (H l) (V l) w e tp + (y - r + 1) * z_bm (H l) (V l) w e r = z_bS (H l) (V l) w e (y + 1) - z_bS (H l) (V l) w e tp by omega]
          exact ih (y + 1) (by omega) (by omega) (by omega)
        rw [z_j1]
        by_cases d : bt ≤ x
        · rw [if_pos (show nI bt ≤ nI x by rw [nI_leI (by omega) (by omega)]; exact d)]
          exact fin bt (by rw [if_pos d])
        · rw [if_neg (show ¬ nI bt ≤ nI x by rw [nI_leI (by omega) (by omega)]; exact d)]
          exact fin x (by rw [if_neg d])
      have one : ∀ i, i < (if bt ≤ r then bt else r) - r + 1 → z_bm (H l) (V l) w e (r + i) = z_bm (H l) (V l) w e r := by
        intro i hi
        have : i = 0 := by
          revert hi
          split <;> omega
        rw [this]; rfl
      by_cases c0 : r = 0
      · rw [if_pos (show nI r = 0 by rw [c0]; rfl)]
        exact K r (by omega) one (by omega)
      rw [if_neg (show ¬ nI r = 0 by rw [z_eq0 (by omega)]; exact c0), m_lastRow g hl, q_b1_s]
      by_cases c1 : r = 44 * H l + 1
      · rw [if_pos (show nI r = nI (44 * H l + 1) by rw [c1])]
        exact K r (by omega) one (by omega)
      have hq := z_q (r := r) (H := H l) (by omega) (by omega)
      have hdm := Nat.div_add_mod (r - 1) (H l)
      have hmod := Nat.mod_lt (r - 1) hps.1
      have m2 : ((r - 1) / H l + 1) * H l ≤ 44 * H l := Nat.mul_le_mul_right _ hq
      have e2 : ((r - 1) / H l + 1) * H l = (r - 1) / H l * H l + H l := Nat.succ_mul _ _
      rw [Nat.mul_comm] at hdm
      rw [if_neg (show ¬ nI r = nI (44 * H l + 1) by rw [nI_eq (by omega) (by omega)]; exact c1), m_bandOf g hl (by omega) (by omega), q_b1_s, z_ai hl (by omega), (g.1 l hl).2.2.1, nI_1, pk_mul]
      refine K _ (by omega) (fun i hi => ?_) (by omega)
      refine z_bm_belt hps.1 hq (by omega) ?_ (by omega) (by omega)
      revert hi
      split <;> omega
  have I := S N tp (by omega) (by omega) (by omega)
  rw [Nat.sub_self] at I
  unfold f_M_boxAll
  rw [z_nm, show (0 : Int32) = nI 0 from rfl, I, q_b1_s]
theorem r_boxKey (g : MOK R C H V cr cq dp wd za) (hN : 1000000 ≤ N) (hl : l < 5) {tp bt w e i : Nat} (ht : tp ≤ bt) (hb : bt ≤ 44 * H l + 1) (hw : w < 1296000) (he : e < 1296000) (hi : i < z_bS (H l) (V l) w e (bt + 1) - z_bS (H l) (V l) w e tp) : Ok (f_M_boxKey N dp wd za (nI l) (nI tp) (nI bt) (nI w) (nI e) (nI i)) (fun x => ∃ k, x = nI k ∧ z_bk (H l) (V l) w e tp bt i k) := by
  have hs := g.2.2.sh hl
  have hv := g.2.2.hv hl
  have hps := g.2.2.pos l hl
  have bS : ∀ r, r ≤ 44 * H l + 2 → z_bS (H l) (V l) w e r ≤ 2130 * (H l * V l) + 2 := fun r hr => z_bS_top hps.1 hps.2 hw he hr
  have hbound := bS (bt + 1) (by omega)
  have S : ∀ u r, tp ≤ r → r ≤ bt + 1 → bt + 1 - r < u → z_bS (H l) (V l) w e r ≤ i + z_bS (H l) (V l) w e tp → Ok (f_M_boxKey_L7 (nI bt) (nI e) (nI l) (nI w) dp wd za u (nI (i + z_bS (H l) (V l) w e tp - z_bS (H l) (V l) w e r)) (nI r)) (fun x => ∃ k, x = .inr (nI k) ∧ z_bk (H l) (V l) w e tp bt i k) := by
    intro u
    induction u with
    | zero => intro r h1 h2 h3; omega
    | succ u ih =>
      intro r h1 h2 h3 h4
      unfold f_M_boxKey_L7
      by_cases c : bt < r
      · have : r = bt + 1 := by omega
        subst this
        omega
      have lr := z_rl_pos (V := V l) hps.1 hps.2 (show r ≤ 44 * H l + 1 by omega)
      have mb := z_bm_b (w := w) (e := e) lr.1 hw he
      have e1 : z_bS (H l) (V l) w e (r + 1) = z_bS (H l) (V l) w e r + z_bm (H l) (V l) w e r := rfl
      rw [if_neg (show ¬ nI bt < nI r by rw [nI_ltI (by omega) (by omega)]; exact c), r_boxMany g hl hw he (by omega), q_b1_s]
      refine Ok.ite (fun d => ?_) (fun d => ?_)
      all_goals rw [nI_leI (by omega) (by omega)] at d
      · rw [pk_sub d, z_nm, nI_1, z_nm, show i + z_bS (H l) (V l) w e tp - z_bS (H l) (V l) w e r - z_bm (H l) (V l) w e r = i + z_bS (H l) (V l) w e tp - z_bS (H l) (V l) w e (r + 1) by omega]
        exact ih (r + 1) (by omega) (by omega) (by omega) (by omega)
      · have wk := r_westKey g hl hw (show r ≤ 44 * H l + 1 by omega) (j := i + z_bS (H l) (V l) w e tp - z_bS (H l) (V l) w e r) (by omega)
        have a1 := z_plIn hw lr.1
        rw [wk.1, q_b1_s, m_many g hl (by omega), q_b1_s, nI_add, z_rm (by omega) (by omega) (by omega), wk.2, q_b1_s]
        exact Ok.ret ⟨_, rfl, r, h1, by omega, h4, by omega, rfl⟩
  have I := S N tp (by omega) (by omega) (by omega) (by omega)
  rw [Nat.add_sub_cancel] at I
  unfold f_M_boxKey
  refine Ok.s0 I (fun h => ?_) (fun r h => ?_)
  · obtain ⟨k, h, -⟩ := h
    cases h
  · obtain ⟨k, h, hk⟩ := h
    cases h
    exact ⟨k, rfl, hk⟩
/-! box -/
def z_boxV (a b w e : Int32) : Prop := (z_plV a w ∧ z_plV b e) ∧ a.toInt ≤ b.toInt
theorem r_isBoxX (a b w e : Int32) : Ok (f_X_isBox a b w e) (fun x => (z_boxV a b w e ∧ x = 1) ∨ (¬ z_boxV a b w e ∧ x = 0)) := by
  unfold f_X_isBox
  refine Ok.b1 (r_isPlaceX a w) (fun v1 h1 => ?_)
  rcases h1 with ⟨z1, rfl⟩ | ⟨z, rfl⟩
  rotate_left
  · exact Ok.ite (fun _ => Ok.ret (Or.inr ⟨fun u => z u.1.1, rfl⟩)) (fun c => absurd rfl c)
  refine Ok.ite (fun c => absurd c (by decide)) (fun _ => Ok.b1 (r_isPlaceX b e) (fun v1 h1 => ?_))
  rcases h1 with ⟨z2, rfl⟩ | ⟨z, rfl⟩
  rotate_left
  · exact Ok.ite (fun _ => Ok.ret (Or.inr ⟨fun u => z u.1.2, rfl⟩)) (fun c => absurd rfl c)
  refine Ok.ite (fun c => absurd c (by decide)) (fun _ => Ok.ite (fun c => Ok.ret (Or.inr ⟨fun u => ?_, rfl⟩)) (fun c => Ok.ret (Or.inl ⟨⟨⟨z1, z2⟩, ?_⟩, rfl⟩)))
  · have := z_lt.mp c
    have := u.2
    omega
  · have : ¬ b.toInt < a.toInt := fun z => c (z_lt.mpr z)
    omega
theorem r_isBoxM (a b w e : Int32) : Ok (f_M_isBox a b w e) (fun x => (z_boxV a b w e ∧ x = 1) ∨ (¬ z_boxV a b w e ∧ x = 0)) := by
  unfold f_M_isBox
  refine Ok.b1 (r_isPlaceM a w) (fun v1 h1 => ?_)
  rcases h1 with ⟨z1, rfl⟩ | ⟨z, rfl⟩
  rotate_left
  · exact Ok.ite (fun _ => Ok.ret (Or.inr ⟨fun u => z u.1.1, rfl⟩)) (fun c => absurd rfl c)
  refine Ok.ite (fun c => absurd c (by decide)) (fun _ => Ok.b1 (r_isPlaceM b e) (fun v1 h1 => ?_))
  rcases h1 with ⟨z2, rfl⟩ | ⟨z, rfl⟩
  rotate_left
  · exact Ok.ite (fun _ => Ok.ret (Or.inr ⟨fun u => z u.1.2, rfl⟩)) (fun c => absurd rfl c)
  refine Ok.ite (fun c => absurd c (by decide)) (fun _ => Ok.ite (fun c => Ok.ret (Or.inr ⟨fun u => ?_, rfl⟩)) (fun c => Ok.ret (Or.inl ⟨⟨⟨z1, z2⟩, ?_⟩, rfl⟩)))
  · have := z_lt.mp c
    have := u.2
    omega
  · have : ¬ b.toInt < a.toInt := fun z => c (z_lt.mpr z)
    omega
theorem r_laysBox (g : MOK R C H V cr cq dp wd za) (hl : l < 5) (x1 x2 x3 x4 x5 a b w e : Int32) : f_M_laysBox dp x1 x2 x3 x4 x5 a b w e (nI l) = some (nI l, nI (z_rowLat (H l) b.toInt), nI (z_rowLat (H l) a.toInt), w, e) := by
  unfold f_M_laysBox
  rw [m_rowAt g hl, q_b1_s, m_rowAt g hl, q_b1_s]
/-- how many sheets a box has -/
def z_boxN (H V : Nat) (a b : Int) (w e : Nat) : Nat := z_bS H V w e (z_rowLat H a + 1) - z_bS H V w e (z_rowLat H b)
def l_Cbox (a b w e p i : Int32) : Prop := z_boxV a b w e ∧ (0 ≤ p.toInt ∧ p.toInt ≤ 4) ∧ -1 ≤ i
def l_abox (sv : l_T) (a b w e p i r : Int32) : Prop := (¬ l_Cbox a b w e p i ∧ r = -1) ∨ (l_Cbox a b w e p i ∧ ∃ l x y, l < 5 ∧ p = nI l ∧ x < 1296000 ∧ y < 1296000 ∧ w = nI x ∧ e = nI y ∧ ((i = -1 ∧ r = nI (z_boxN (z_pr (l_R sv) l) (z_pr (l_C sv) l) a.toInt b.toInt x y)) ∨ (¬ i = -1 ∧ nI (z_boxN (z_pr (l_R sv) l) (z_pr (l_C sv) l) a.toInt b.toInt x y) ≤ i ∧ r = -2) ∨ (¬ i = -1 ∧ ¬ nI (z_boxN (z_pr (l_R sv) l) (z_pr (l_C sv) l) a.toInt b.toInt x y) ≤ i ∧ ∃ k, r = nI k ∧ z_bk (z_pr (l_R sv) l) (z_pr (l_C sv) l) x y (z_rowLat (z_pr (l_R sv) l) b.toInt) (z_rowLat (z_pr (l_R sv) l) a.toInt) i.toInt.toNat k)))
theorem l_abox_one {a b w e p i r r' : Int32} (_ : l_ok sv) (h1 : l_abox sv a b w e p i r) (h2 : l_abox sv a b w e p i r') : r = r' := by
  rcases h1 with ⟨c, d⟩ | ⟨c, l, x, y, hl, e1, hx, hy, e2, e3, d⟩ <;> rcases h2 with ⟨c', d'⟩ | ⟨c', l', x', y', hl', e1', hx', hy', e2', e3', d'⟩
  · exact d.trans d'.symm
  · exact absurd c' c
  · exact absurd c c'
  · have f1 : l = l' := by rw [e1, nI_eq (by omega) (by omega)] at e1'; exact e1'
    have f2 : x = x' := by rw [e2, nI_eq (by omega) (by omega)] at e2'; exact e2'
    have f3 : y = y' := by rw [e3, nI_eq (by omega) (by omega)] at e3'; exact e3'
    subst f1 f2 f3
    rcases d with ⟨d1, d2⟩ | ⟨d1, d2, d3⟩ | ⟨d1, d2, k, d3, d4⟩ <;> rcases d' with ⟨g1, g2⟩ | ⟨g1, g2, g3⟩ | ⟨g1, g2, k', g3, g4⟩
    · exact d2.trans g2.symm
    · exact absurd d1 g1
    · exact absurd d1 g1
    · exact absurd g1 d1
    · exact d3.trans g3.symm
    · exact absurd d2 g2
    · exact absurd g1 d1
    · exact absurd g2 d2
    · rw [d3, g3, z_bk_one d4 g4]
theorem z_boxN_b (g : CUT R C H V) (hl : l < 5) {a b : Int} {w e : Nat} (hw : w < 1296000) (he : e < 1296000) : z_boxN (H l) (V l) a b w e ≤ 20000000 := by
  have hs := g.sh hl
  have hps := g.pos l hl
  have hbt := z_rowLat_le hps.1 a
  have := z_bS_top (w := w) (e := e) hps.1 hps.2 hw he (show z_rowLat (H l) a + 1 ≤ 44 * H l + 2 by omega)
  unfold z_boxN
  omega
theorem a_x_box (g : GOK (l_R sv) (l_C sv) (z_pr (l_R sv)) (z_pr (l_C sv)) rc cc br zc rw sh) (hN : 1000000 ≤ N) (b1 b2 b3 b4 a b w e p i : Int32) : Ok (f_X_box N b1 b2 b3 b4 br zc rw sh a b w e p i) (fun x => l_abox sv a b w e p i x.1) := by
  unfold f_X_box
  refine Ok.b1 (r_isBoxX a b w e) (fun v1 h1 => ?_)
  rcases h1 with ⟨z, rfl⟩ | ⟨z, rfl⟩
  rotate_left
  · exact Ok.ite (fun _ => Ok.ret (Or.inl ⟨fun u => z u.1, rfl⟩)) (fun c => absurd rfl c)
  refine Ok.ite (fun c => absurd c (by decide)) (fun _ => Ok.b1 (r_isLevel p) (fun v2 h2 => Ok.ite (fun c => Ok.ret (Or.inl ⟨fun u => z_if0 h2 c u.2.1, rfl⟩)) (fun c => ?_)))
  have hv := z_if1 h2 c
  refine Ok.ite (fun hi => ?_) (fun hi => Ok.ret (Or.inl ⟨fun u => hi u.2.2, rfl⟩))
  obtain ⟨l, hl, rfl⟩ := t_level hv
  obtain ⟨x, hx, rfl⟩ := z_plV_o z.1.1
  obtain ⟨y, hy, rfl⟩ := z_plV_o z.1.2
  have fin : ∀ r : Int32, _ → l_abox sv a b (nI x) (nI y) (nI l) i r := fun r h => Or.inr ⟨⟨z, hv, hi⟩, l, x, y, hl, rfl, hx, hy, rfl, rfl, h⟩
  have hb := z_boxN_b g.2 hl (a := a.toInt) (b := b.toInt) hx hy
  unfold f_Box_set
  rw [q_b4_s, r_sheetsAt g hN hl z.1.1.1.1 z.1.1.1.2 z.1.2.1.1 z.1.2.1.2 z.2 hx hy, q_b1_s]
  refine Ok.ite (fun c1 => Ok.ret (fin _ (Or.inl ⟨c1, rfl⟩))) (fun c1 => Ok.ite (fun c2 => Ok.ret (fin _ (Or.inr (Or.inl ⟨c1, c2, rfl⟩)))) (fun c2 => ?_))
  obtain ⟨j, hj, rfl, hjj⟩ := l_idx (M := z_boxN (z_pr (l_R sv) l) (z_pr (l_C sv) l) a.toInt b.toInt x y) (by omega) hi c1 c2
  refine Ok.b1 (r_sheetAt g hN hl z.1.1.1.1 z.1.1.1.2 z.1.2.1.1 z.1.2.1.2 z.2 hx hy hj) (fun v h => Ok.ret (fin _ (Or.inr (Or.inr ⟨c1, c2, ?_⟩))))
  obtain ⟨k, h, hk⟩ := h
  exact ⟨k, h, by rw [hjj]; exact hk⟩
theorem a_m_box (g : MOK (l_R sv) (l_C sv) (z_pr (l_R sv)) (z_pr (l_C sv)) cr cq dp wd za) (hN : 1000000 ≤ N) (x1 x2 x3 x4 x5 a b w e p i : Int32) : Ok (f_M_box N dp wd za x1 x2 x3 x4 x5 a b w e p i) (fun x => l_abox sv a b w e p i x.1) := by
  unfold f_M_box
  refine Ok.b1 (r_isBoxM a b w e) (fun v1 h1 => ?_)
  rcases h1 with ⟨z, rfl⟩ | ⟨z, rfl⟩
  rotate_left
  · exact Ok.ite (fun _ => Ok.ret (Or.inl ⟨fun u => z u.1, rfl⟩)) (fun c => absurd rfl c)
  refine Ok.ite (fun c => absurd c (by decide)) (fun _ => Ok.b1 (t_isLevel p) (fun v2 h2 => Ok.ite (fun c => Ok.ret (Or.inl ⟨fun u => z_if0 h2 c u.2.1, rfl⟩)) (fun c => ?_)))
  have hv := z_if1 h2 c
  refine Ok.ite (fun hi => ?_) (fun hi => Ok.ret (Or.inl ⟨fun u => hi u.2.2, rfl⟩))
  obtain ⟨l, hl, rfl⟩ := t_level hv
  obtain ⟨x, hx, rfl⟩ := z_plV_o z.1.1
  obtain ⟨y, hy, rfl⟩ := z_plV_o z.1.2
  have hps := g.2.2.pos l hl
  have htb := z_lat_mono hps.1 z.2
  have hbt := z_rowLat_le hps.1 a.toInt
  have fin : ∀ r : Int32, _ → l_abox sv a b (nI x) (nI y) (nI l) i r := fun r h => Or.inr ⟨⟨z, hv, hi⟩, l, x, y, hl, rfl, hx, hy, rfl, rfl, h⟩
  have hb := z_boxN_b g.2.2 hl (a := a.toInt) (b := b.toInt) hx hy
  rw [r_laysBox g hl, q_b5_s, r_boxAll g hN hl htb hbt hx hy, q_b1_s]
  refine Ok.ite (fun c1 => Ok.ret (fin _ (Or.inl ⟨c1, rfl⟩))) (fun c1 => Ok.ite (fun c2 => Ok.ret (fin _ (Or.inr (Or.inl ⟨c1, c2, rfl⟩)))) (fun c2 => ?_))
  obtain ⟨j, hj, rfl, hjj⟩ := l_idx (M := z_boxN (z_pr (l_R sv) l) (z_pr (l_C sv) l) a.toInt b.toInt x y) (by omega) hi c1 c2
  refine Ok.b1 (r_boxKey g hN hl htb hbt hx hy hj) (fun v h => Ok.ret (fin _ (Or.inr (Or.inr ⟨c1, c2, ?_⟩))))
  obtain ⟨k, h, hk⟩ := h
  exact ⟨k, h, by rw [hjj]; exact hk⟩
end S13A
end
section
/-! answers: between -/
section S14A
variable {R C H V : Nat → Nat} {rc cc br zc rw sh cr cq dp wd za : Nat → Int32} {sv : l_T} {N l t : Nat}
theorem z_toInat {n : Nat} (h : n < 2 ^ 31) : (nI n).toInt = (n : Int) := nI_toInt h
theorem z_32I {z : Int} (h1 : -2147483648 ≤ z) (h2 : z ≤ 2147483647) : (Int64.ofInt z).toInt32.toInt = z := by
  rw [Int64.toInt_toInt32, Int64.toInt_ofInt_of_le (by omega) (by omega), fb_bmod (by omega) (by omega)]
theorem z_mdl_lat (g : CUT R C H V) (hl : l < 5) {ro pl : Nat} (hr : ro ≤ 44 * H l + 1) : -324000 ≤ (z_mdl H V l ro pl 0).toInt ∧ (z_mdl H V l ro pl 0).toInt ≤ 324000 := by
  have hv := g.hv hl
  have hps := g.pos l hl
  by_cases hc : ro = 0 ∨ ro = 44 * H l + 1
  · rw [z_mdlC0 hc]
    split <;> decide
  · rw [z_mdlN hc]
    show -324000 ≤ (Int64.ofInt ((z_eT H l ro pl 0 + z_eT H l ro pl 1) / (2 * (z_eB H V l ro 0 : Int)))).toInt32.toInt ∧ (Int64.ofInt ((z_eT H l ro pl 0 + z_eT H l ro pl 1) / (2 * (z_eB H V l ro 0 : Int)))).toInt32.toInt ≤ 324000
    rw [z_eT0, if_neg (show ¬ ro = 0 by omega), if_neg (show ¬ ro = 44 * H l + 1 by omega), z_eT1, if_neg (show ¬ ro = 0 by omega), if_neg (show ¬ ro = 44 * H l + 1 by omega), z_eBlo (show 0 < 2 by omega), if_neg hc]
    have q1 : -316800 ≤ (14400 * (22 * (H l : Int) - ro) + (14400 * (22 * (H l : Int) - ro) + 14400)) / (2 * (H l : Int)) := (Int.le_ediv_iff_mul_le (by omega)).mpr (by omega)
    have q2 : (14400 * (22 * (H l : Int) - ro) + (14400 * (22 * (H l : Int) - ro) + 14400)) / (2 * (H l : Int)) < 316800 := (Int.ediv_lt_iff_lt_mul (by omega)).mpr (by omega)
    generalize (14400 * (22 * (H l : Int) - ro) + (14400 * (22 * (H l : Int) - ro) + 14400)) / (2 * (H l : Int)) = X at q1 q2
    rw [z_32I (by omega) (by omega)]
    omega
theorem z_mdl_lon (g : CUT R C H V) (hl : l < 5) {ro pl : Nat} (hr : ro ≤ 44 * H l + 1) (hp : pl < z_rl (H l) (V l) ro) : ∃ x, x < 1296000 ∧ z_mdl H V l ro pl 1 = nI x := by
  by_cases hc : ro = 0 ∨ ro = 44 * H l + 1
  · exact ⟨0, by omega, (z_mdlC1 hc).trans rfl⟩
  · rw [z_mdlN hc]
    show ∃ x, x < 1296000 ∧ (Int64.ofInt ((z_eT H l ro pl 2 + z_eT H l ro pl 3) / (2 * (z_eB H V l ro 2 : Int)))).toInt32 = nI x
    rw [z_eT2, z_eT3, z_eBhi (show ¬ 2 < 2 by omega)]
    have q1 : 0 ≤ (1296000 * (pl : Int) + (1296000 * (pl : Int) + 1296000)) / (2 * (z_rl (H l) (V l) ro : Int)) := Int.ediv_nonneg (by omega) (by omega)
    have q2 : (1296000 * (pl : Int) + (1296000 * (pl : Int) + 1296000)) / (2 * (z_rl (H l) (V l) ro : Int)) < 1296000 := (Int.ediv_lt_iff_lt_mul (by omega)).mpr (by omega)
    generalize (1296000 * (pl : Int) + (1296000 * (pl : Int) + 1296000)) / (2 * (z_rl (H l) (V l) ro : Int)) = X at q1 q2
    refine ⟨X.toNat, by omega, ?_⟩
    apply Int32.toInt_inj.mp
    rw [z_32I (by omega) (by omega), z_toInat (by omega)]
    omega
/-- the lower, the upper of two -/
def z_lo2 (a b : Int32) : Int := if b.toInt < a.toInt then b.toInt else a.toInt
def z_hi2 (a b : Int32) : Int := if a.toInt < b.toInt then b.toInt else a.toInt
theorem z_lo2I {a b : Int32} : (if b < a then b else a : Int32).toInt = z_lo2 a b := by
  unfold z_lo2
  by_cases c : b < a
  · rw [if_pos c, if_pos (z_lt.mp c)]
  · rw [if_neg c, if_neg (fun z => c (z_lt.mpr z))]
theorem z_hi2I {a b : Int32} : (if a < b then b else a : Int32).toInt = z_hi2 a b := by
  unfold z_hi2
  by_cases c : a < b
  · rw [if_pos c, if_pos (z_lt.mp c)]
  · rw [if_neg c, if_neg (fun z => c (z_lt.mpr z))]
theorem z_lo2B {a b : Int32} (h1 : -324000 ≤ a.toInt ∧ a.toInt ≤ 324000) (h2 : -324000 ≤ b.toInt ∧ b.toInt ≤ 324000) : -324000 ≤ z_lo2 a b ∧ z_lo2 a b ≤ 324000 ∧ -324000 ≤ z_hi2 a b ∧ z_hi2 a b ≤ 324000 ∧ z_lo2 a b ≤ z_hi2 a b := by
  unfold z_lo2 z_hi2
  split <;> split <;> omega
def l_Fbetween (sv : l_T) (s : (Nat × Nat × Nat × Nat) × (Nat × Nat × Nat × Nat)) : Int32 := nI (z_boxN (z_pr (l_R sv) s.1.1) (z_pr (l_C sv) s.1.1) (z_lo2 (z_mdl (z_pr (l_R sv)) (z_pr (l_C sv)) s.1.1 s.1.2.2.1 s.1.2.2.2 0) (z_mdl (z_pr (l_R sv)) (z_pr (l_C sv)) s.1.1 s.2.2.2.1 s.2.2.2.2 0)) (z_hi2 (z_mdl (z_pr (l_R sv)) (z_pr (l_C sv)) s.1.1 s.1.2.2.1 s.1.2.2.2 0) (z_mdl (z_pr (l_R sv)) (z_pr (l_C sv)) s.1.1 s.2.2.2.1 s.2.2.2.2 0)) (z_mdl (z_pr (l_R sv)) (z_pr (l_C sv)) s.1.1 s.1.2.2.1 s.1.2.2.2 1).toInt.toNat (z_mdl (z_pr (l_R sv)) (z_pr (l_C sv)) s.1.1 s.2.2.2.1 s.2.2.2.2 1).toInt.toNat)
def l_abetween (sv : l_T) (p q w r : Int32) : Prop := l_rel (l_hs sv p q ∧ l_hs sv p w) (-1) (l_Sbands sv p q w) (l_Fbetween sv) r
theorem l_abetween_one {p q w r r' : Int32} (h : l_ok sv) (h1 : l_abetween sv p q w r) (h2 : l_abetween sv p q w r') : r = r' := l_rel_one (l_S2_one h) h1 h2
theorem z_tn {x : Nat} (h : x < 1296000) : (nI x).toInt.toNat = x := by rw [z_toInat (by omega)]; rfl
theorem a_x_between (g : GOK (l_R sv) (l_C sv) (z_pr (l_R sv)) (z_pr (l_C sv)) rc cc br zc rw sh) (hN : 1000000 ≤ N) (a1 a2 a3 a4 a5 a6 b1 b2 b3 b4 p q w : Int32) : Ok (f_X_between N a1 a2 a3 a4 a5 a6 b1 b2 b3 b4 br zc rw sh p q w) (fun x => l_abetween sv p q w x.1) := by
  unfold f_X_between
  refine Ok.b1 (r_areSheets g p q w) (fun v1 h1 => ?_)
  rcases h1 with ⟨z, rfl⟩ | ⟨z, rfl⟩
  rotate_left
  · exact Ok.ite (fun _ => Ok.ret (l_relN z)) (fun c => absurd rfl c)
  refine Ok.ite (fun c => absurd c (by decide)) (fun _ => ?_)
  have z' := z
  obtain ⟨l, k, k2, hl, rfl, rfl, rfl, hk, hk2⟩ := l_two g.2 z'.1 z'.2
  have hs := g.2.sh hl
  obtain ⟨ro, pl, e, d1, d2, d3⟩ := k_put (N := N) g (by omega) hl hk a1 a2 a3 a4 a5 a6
  obtain ⟨ro2, pl2, e2, f1, f2, f3⟩ := k_put (N := N) g (by omega) hl hk2 (nI l) (nI ro) (nI (z_rs (z_pr (l_R sv) l) (z_pr (l_C sv) l) ro)) (nI pl) (nI (z_rl (z_pr (l_R sv) l) (z_pr (l_C sv) l) ro)) (z_cap (z_pr (l_R sv) l) ro)
  have hsp : l_Sbands sv (nI l) (nI k) (nI k2) ((l, k, ro, pl), (l, k2, ro2, pl2)) := ⟨⟨⟨hl, (show k < 20000000 by omega), d1, d2, d3⟩, rfl, rfl⟩, ⟨⟨hl, (show k2 < 20000000 by omega), f1, f2, f3⟩, rfl, rfl⟩⟩
  rw [e, q_b6_s, r_middleLat g hl d1 d2, q_b1_s, r_middleLon g hl d1 d2, q_b1_s, e2, q_b6_s, r_middleLat g hl f1 f2, q_b1_s, z_nm, z_nm, r_middleLon g hl f1 f2, q_b1_s]
  have m1 := z_mdl_lat g.2 hl (ro := ro) (pl := pl) d1
  have m2 := z_mdl_lat g.2 hl (ro := ro2) (pl := pl2) f1
  obtain ⟨x, hx, ex⟩ := z_mdl_lon g.2 hl d1 d2
  obtain ⟨y, hy, ey⟩ := z_mdl_lon g.2 hl f1 f2
  have fin : l_Fbetween sv ((l, k, ro, pl), (l, k2, ro2, pl2)) = nI (z_boxN (z_pr (l_R sv) l) (z_pr (l_C sv) l) (z_lo2 (z_mdl (z_pr (l_R sv)) (z_pr (l_C sv)) l ro pl 0) (z_mdl (z_pr (l_R sv)) (z_pr (l_C sv)) l ro2 pl2 0)) (z_hi2 (z_mdl (z_pr (l_R sv)) (z_pr (l_C sv)) l ro pl 0) (z_mdl (z_pr (l_R sv)) (z_pr (l_C sv)) l ro2 pl2 0)) x y) := by
    unfold l_Fbetween
    dsimp only
    rw [ex, ey, z_tn hx, z_tn hy]
  rw [ex, ey]
  generalize z_mdl (z_pr (l_R sv)) (z_pr (l_C sv)) l ro pl 0 = ma at m1 fin ⊢
  generalize z_mdl (z_pr (l_R sv)) (z_pr (l_C sv)) l ro2 pl2 0 = mb at m2 fin ⊢
  have bb := z_lo2B m1 m2
  unfold f_Box_set
  rw [q_b4_s, r_sheetsAt g hN hl (by rw [z_lo2I]; exact bb.1) (by rw [z_lo2I]; exact bb.2.1) (by rw [z_hi2I]; exact bb.2.2.1) (by rw [z_hi2I]; exact bb.2.2.2.1) (by rw [z_lo2I, z_hi2I]; exact bb.2.2.2.2) hx hy, q_b1_s, z_lo2I, z_hi2I]
  exact Ok.ret (l_relY z hsp fin.symm)
theorem a_m_between (g : MOK (l_R sv) (l_C sv) (z_pr (l_R sv)) (z_pr (l_C sv)) cr cq dp wd za) (hN : 1000000 ≤ N) (bl bo : Int64) (ed : Nat → Int64) (x1 x2 x3 x4 x5 p q w : Int32) : Ok (f_M_between N dp wd za bl bo ed x1 x2 x3 x4 x5 p q w) (fun x => l_abetween sv p q w x.1) := by
  unfold f_M_between
  refine Ok.b1 (r_isKey g p q) (fun v1 h1 => ?_)
  rcases h1 with ⟨z1, rfl⟩ | ⟨z, rfl⟩
  rotate_left
  · exact Ok.ite (fun _ => Ok.ret (l_relN (fun u => z u.1))) (fun c => absurd rfl c)
  refine Ok.ite (fun c => absurd c (by decide)) (fun _ => Ok.b1 (r_isKey g p w) (fun v1 h1 => ?_))
  rcases h1 with ⟨z2, rfl⟩ | ⟨z, rfl⟩
  rotate_left
  · exact Ok.ite (fun _ => Ok.ret (l_relN (fun u => z u.2))) (fun c => absurd rfl c)
  refine Ok.ite (fun c => absurd c (by decide)) (fun _ => ?_)
  have z1' := z1
  have z2' := z2
  obtain ⟨l, k, k2, hl, rfl, rfl, rfl, hk, hk2⟩ := l_two g.2.2 z1' z2'
  have hs := g.2.2.sh hl
  have hps := g.2.2.pos l hl
  obtain ⟨ro, pl, d1, d2, d3, -, -⟩ := t_spot (N := N) g (by omega) hl hk
  obtain ⟨ro2, pl2, f1, f2, f3, -, -⟩ := t_spot (N := N) g (by omega) hl hk2
  have hsp : l_Sbands sv (nI l) (nI k) (nI k2) ((l, k, ro, pl), (l, k2, ro2, pl2)) := ⟨⟨⟨hl, (show k < 20000000 by omega), d1, d2, d3⟩, rfl, rfl⟩, ⟨⟨hl, (show k2 < 20000000 by omega), f1, f2, f3⟩, rfl, rfl⟩⟩
  have m1 := z_mdl_lat g.2.2 hl (ro := ro) (pl := pl) d1
  have m2 := z_mdl_lat g.2.2 hl (ro := ro2) (pl := pl2) f1
  obtain ⟨x, hx, ex⟩ := z_mdl_lon g.2.2 hl d1 d2
  obtain ⟨y, hy, ey⟩ := z_mdl_lon g.2.2 hl f1 f2
  have fin : l_Fbetween sv ((l, k, ro, pl), (l, k2, ro2, pl2)) = nI (z_boxN (z_pr (l_R sv) l) (z_pr (l_C sv) l) (z_lo2 (z_mdl (z_pr (l_R sv)) (z_pr (l_C sv)) l ro pl 0) (z_mdl (z_pr (l_R sv)) (z_pr (l_C sv)) l ro2 pl2 0)) (z_hi2 (z_mdl (z_pr (l_R sv)) (z_pr (l_C sv)) l ro pl 0) (z_mdl (z_pr (l_R sv)) (z_pr (l_C sv)) l ro2 pl2 0)) x y) := by
    unfold l_Fbetween
    dsimp only
    rw [ex, ey, z_tn hx, z_tn hy]
  refine Ok.b9 (Q := fun y => y.1 = l_Fbetween sv ((l, k, ro, pl), (l, k2, ro2, pl2))) ?_ (fun v3 v4 v5 f6 v7 v8 v9 v10 v11 h => Ok.ret (l_relY ⟨z1, z2⟩ hsp h))
  unfold f_M_betweenOf
  refine Ok.b4 (r_middleOf (N := N) g (by omega) hl hk d1 d2 d3 (w := 0) (by omega) bl bo ed) (fun u1 u2 u3 g4 h1 => Ok.b4 (r_middleOf (N := N) g (by omega) hl hk2 f1 f2 f3 (w := 0) (by omega) u2 u3 g4) (fun u5 u6 u7 g8 h5 => ?_))
  dsimp only at h1 h5
  rw [← h1] at m1
  rw [← h5] at m2
  rw [← h1, ← h5] at fin
  have bb := z_lo2B m1 m2
  refine Ok.k1 (fun v => v.toInt = z_lo2 u1 u5) (fun y => y.1 = l_Fbetween sv ((l, k, ro, pl), (l, k2, ro2, pl2))) (fun v9 h9 => ?_) (fun K hK => Ok.ite (fun c => hK _ ?_) (fun c => hK _ ?_))
  rotate_left
  · have := z_le.mp c
    unfold z_lo2
    split <;> omega
  · have : ¬ u5.toInt ≤ u1.toInt := fun z => c (z_le.mpr z)
    unfold z_lo2
    rw [if_neg (by omega)]
  refine Ok.k1 (fun v => v.toInt = z_hi2 u1 u5) (fun y => y.1 = l_Fbetween sv ((l, k, ro, pl), (l, k2, ro2, pl2))) (fun v10 h10 => ?_) (fun K hK => Ok.ite (fun c => hK _ ?_) (fun c => hK _ ?_))
  rotate_left
  · have := z_le.mp c
    unfold z_hi2
    rw [if_neg (by omega)]
  · have : ¬ u5.toInt ≤ u1.toInt := fun z => c (z_le.mpr z)
    unfold z_hi2
    rw [if_pos (by omega)]
  refine Ok.b4 (r_middleOf (N := N) g (by omega) hl hk d1 d2 d3 (w := 1) (by omega) u6 u7 g8) (fun u11 u12 u13 g14 h11 => Ok.b4 (r_middleOf (N := N) g (by omega) hl hk2 f1 f2 f3 (w := 1) (by omega) u12 u13 g14) (fun u15 u16 u17 g18 h15 => ?_))
  dsimp only at h11 h15
  rw [h11, h15, ex, ey, r_laysBox g hl, q_b5_s, h9, h10]
  have htb := z_lat_mono hps.1 bb.2.2.2.2
  have hbt := z_rowLat_le hps.1 (z_lo2 u1 u5)
  rw [r_boxAll g hN hl htb hbt hx hy, q_b1_s]
  refine Ok.ret ?_
  rw [fin]
  rfl
end S14A
end
section
/-! answers: walks; distances, pure -/
section S18A
variable {A : Nat → Nat → Prop} {tot src : Nat}
/-- what a walk has written when it has ended -/
def z_S (A : Nat → Nat → Prop) (tot src : Nat) (f : Nat → Int32) : Prop :=
  f src = nI 0 ∧ (∀ k, k < tot → f k = -1 ∨ ∃ d, d < tot ∧ f k = nI d) ∧
  (∀ k, k < tot → f k = nI 0 → k = src) ∧
  (∀ k, k < tot → ∀ d, d + 1 < 2 ^ 31 → f k = nI (d + 1) → ∃ k2, k2 < tot ∧ A k2 k ∧ f k2 = nI d) ∧
  (∀ k, k < tot → ∀ d, d < 2 ^ 31 → f k = nI d → ∀ k2, k2 < tot → A k k2 → ∃ d2, d2 ≤ d + 1 ∧ f k2 = nI d2)
theorem z_S_le {f g : Nat → Int32} (hf : z_S A tot src f) (hg : z_S A tot src g) : ∀ d, d < 2 ^ 31 → ∀ k, k < tot → f k = nI d → ∃ d2, d2 ≤ d ∧ g k = nI d2 := by
  intro d
  induction d with
  | zero =>
    intro _ k hk h
    have := hf.2.2.1 k hk h
    subst this
    exact ⟨0, Nat.le_refl 0, hg.1⟩
  | succ d ih =>
    intro hd k hk h
    obtain ⟨k2, h1, h2, h3⟩ := hf.2.2.2.1 k hk d hd h
    obtain ⟨d2, h4, h5⟩ := ih (by omega) k2 h1 h3
    obtain ⟨d3, h6, h7⟩ := hg.2.2.2.2 k2 h1 d2 (by omega) h5 k hk h2
    exact ⟨d3, by omega, h7⟩
theorem z_S_one {f g : Nat → Int32} (ht : tot ≤ 20000) (hf : z_S A tot src f) (hg : z_S A tot src g) : ∀ k, k < tot → f k = g k := by
  intro k hk
  rcases hf.2.1 k hk with h | ⟨d, hd, h⟩
  · rcases hg.2.1 k hk with h2 | ⟨d2, hd2, h2⟩
    · rw [h, h2]
    · obtain ⟨d3, h3, h4⟩ := z_S_le hg hf d2 (by omega) k hk h2
      rw [h] at h4
      exact absurd h4.symm (z_nIm1 (by omega))
  · obtain ⟨d3, h3, h4⟩ := z_S_le hf hg d (by omega) k hk h
    obtain ⟨d5, h5, h6⟩ := z_S_le hg hf d3 (by omega) k hk h4
    rw [h, nI_eq (by omega) (by omega)] at h6
    rw [h, h4]
    refine congrArg nI ?_
    omega
theorem z_S_sym {a b : Nat} {f g : Nat → Int32} (hA : ∀ k k2, A k k2 → A k2 k) (hf : z_S A tot a f) (hg : z_S A tot b g) : ∀ d, d < 2 ^ 31 → ∀ k, k < tot → f k = nI d → ∀ d2, d2 + d < 2 ^ 31 → g k = nI d2 → ∃ d3, d3 ≤ d2 + d ∧ g a = nI d3 := by
  intro d
  induction d with
  | zero =>
    intro _ k hk h d2 _ h2
    have := hf.2.2.1 k hk h
    subst this
    exact ⟨d2, by omega, h2⟩
  | succ d ih =>
    intro hd k hk h d2 hd2 h2
    obtain ⟨k2, h3, h4, h5⟩ := hf.2.2.2.1 k hk d hd h
    obtain ⟨d4, h6, h7⟩ := hg.2.2.2.2 k hk d2 (by omega) h2 k2 h3 (hA _ _ h4)
    obtain ⟨d5, h8, h9⟩ := ih (by omega) k2 h3 h5 d4 (by omega) h7
    exact ⟨d5, by omega, h9⟩
theorem z_S_both {a b : Nat} {f g : Nat → Int32} (ht : tot ≤ 20000) (hA : ∀ k k2, A k k2 → A k2 k) (ha : a < tot) (hb : b < tot) (hf : z_S A tot a f) (hg : z_S A tot b g) : f b = g a := by
  rcases hf.2.1 b hb with h | ⟨d, hd, h⟩
  · rcases hg.2.1 a ha with h2 | ⟨d2, hd2, h2⟩
    · rw [h, h2]
    · obtain ⟨d3, h3, h4⟩ := z_S_sym hA hg hf d2 (by omega) a ha h2 0 (by omega) hf.1
      rw [h] at h4
      exact absurd h4.symm (z_nIm1 (by omega))
  · obtain ⟨d3, h3, h4⟩ := z_S_sym hA hf hg d (by omega) b hb h 0 (by omega) hg.1
    obtain ⟨d5, h5, h6⟩ := z_S_sym hA hg hf d3 (by omega) a ha h4 0 (by omega) hf.1
    rw [h, nI_eq (by omega) (by omega)] at h6
    rw [h, h4]
    refine congrArg nI ?_
    omega
/-- a walk under way: i keys are done, e are in the row Q; D: how far -/
def z_bq (A : Nat → Nat → Prop) (tot src : Nat) (f qu : Nat → Int32) (i e : Nat) (Q D : Nat → Nat) : Prop :=
  z_cnt f tot = e ∧
  (∀ j, j < e → Q j < tot ∧ qu j = nI (Q j) ∧ f (Q j) = nI (D (Q j)) ∧ D (Q j) ≤ j) ∧
  (∀ k, k < tot → f k = -1 ∨ ∃ j, j < e ∧ Q j = k) ∧
  (0 < e ∧ Q 0 = src ∧ D src = 0) ∧
  (∀ j, j < e → j ≠ 0 → ∃ j2, j2 < e ∧ A (Q j2) (Q j) ∧ D (Q j) = D (Q j2) + 1) ∧
  (∀ j j2, j ≤ j2 → j2 < e → D (Q j) ≤ D (Q j2) ∧ (i ≤ j → D (Q j2) ≤ D (Q j) + 1)) ∧
  (∀ j, j < i → ∀ k2, k2 < tot → A (Q j) k2 → f k2 ≠ -1 ∧ D k2 ≤ D (Q j) + 1)
def z_bx (A : Nat → Nat → Prop) (tot src i : Nat) (f qu : Nat → Int32) (e : Nat) : Prop := ∃ Q D, z_bq A tot src f qu i e Q D
/-- the i-th key is being done -/
def z_bi (A : Nat → Nat → Prop) (tot src key dk i : Nat) (f qu : Nat → Int32) (e : Nat) : Prop := ∃ Q D, z_bq A tot src f qu i e Q D ∧ i < e ∧ Q i = key ∧ D key = dk
theorem z_bi_f {key dk i e : Nat} {f qu : Nat → Int32} (h : z_bi A tot src key dk i f qu e) : key < tot ∧ f key = nI dk ∧ dk < e ∧ e ≤ tot ∧ i < e := by
  obtain ⟨Q, D, ⟨h1, h2, -⟩, hi, rfl, rfl⟩ := h
  have he := z_cnt_le f tot
  obtain ⟨a, -, b, c⟩ := h2 i hi
  exact ⟨a, b, by omega, by omega, hi⟩
theorem z_bi_meet {key dk i e : Nat} {f qu : Nat → Int32} (ht : tot ≤ 20000) (h : z_bi A tot src key dk i f qu e) {k : Nat} (hk : k < tot) (hA : A key k) (hm : f k = -1) : e < tot ∧ z_bi A tot src key dk i (upd f k (nI (dk + 1))) (upd qu e (nI k)) (e + 1) := by
  obtain ⟨Q, D, ⟨h1, h2, h3, ⟨h4, h5, h6⟩, h7, h8, h9⟩, hi, rfl, rfl⟩ := h
  have he := z_cnt_lt hm tot hk
  rw [h1] at he
  have hne : ∀ j, j < e → Q j ≠ k := by
    intro j hj z
    obtain ⟨-, -, b, c⟩ := h2 j hj
    rw [z, hm] at b
    exact z_nIm1 (by rw [z] at c; omega) b.symm
  have hdi := (h2 i hi).2.2.2
  obtain ⟨Q2, hQ, hQe⟩ : ∃ Q2 : Nat → Nat, (∀ j, j < e → Q2 j = Q j) ∧ Q2 e = k := ⟨fun j => if j = e then k else Q j, fun j hj => if_neg (by omega), if_pos rfl⟩
  obtain ⟨D2, hDk, hDo⟩ : ∃ D2 : Nat → Nat, D2 k = D (Q i) + 1 ∧ ∀ q, q ≠ k → D2 q = D q := ⟨fun q => if q = k then D (Q i) + 1 else D q, if_pos rfl, fun q hq => if_neg hq⟩
  have hD : ∀ j, j < e → D2 (Q j) = D (Q j) := fun j hj => hDo _ (hne j hj)
  refine ⟨he, Q2, D2, ⟨?_, ?_, ?_, ?_, ?_, ?_, ?_⟩, by omega, hQ i hi, hD i hi⟩
  · rw [z_cnt_upd hm (z_nIm1 (by omega)) tot hk, h1]
  · intro j hj
    by_cases ej : j = e
    · subst ej
      rw [hQe, hDk]
      exact ⟨hk, z_updS, z_updS, by omega⟩
    · obtain ⟨a, b, c, d⟩ := h2 j (by omega)
      rw [hQ j (by omega), hD j (by omega), z_updN ej, z_updN (hne j (by omega))]
      exact ⟨a, b, c, d⟩
  · intro q hq
    by_cases eq : q = k
    · subst eq; exact Or.inr ⟨e, by omega, hQe⟩
    · rw [z_updN eq]
      rcases h3 q hq with z | ⟨j, a, b⟩
      · exact Or.inl z
      · exact Or.inr ⟨j, by omega, by rw [hQ j a]; exact b⟩
  · refine ⟨by omega, by rw [hQ 0 h4]; exact h5, ?_⟩
    have := hD 0 h4
    rw [h5, h6] at this
    exact this
  · intro j hj hj0
    by_cases ej : j = e
    · subst ej
      exact ⟨i, by omega, by rw [hQ i hi, hQe]; exact hA, by rw [hQe, hDk, hQ i hi, hD i hi]⟩
    · obtain ⟨j2, a, b, c⟩ := h7 j (by omega) hj0
      exact ⟨j2, by omega, by rw [hQ j (by omega), hQ j2 a]; exact b, by rw [hQ j (by omega), hQ j2 a, hD j (by omega), hD j2 a]; exact c⟩
  · intro j j2 hjj hj2
    by_cases e2 : j2 = e
    · subst e2
      rw [hQe, hDk]
      by_cases ej : j = j2
      · subst ej; rw [hQe, hDk]; exact ⟨by omega, fun _ => by omega⟩
      · rw [hQ j (by omega), hD j (by omega)]
        rcases Nat.lt_or_ge j i with c | c
        · exact ⟨by have := (h8 j i (by omega) hi).1; omega, fun z => by omega⟩
        · have u := h8 i j c (by omega)
          have v := u.2 (Nat.le_refl i)
          exact ⟨by omega, fun _ => by have := u.1; omega⟩
    · rw [hQ j (by omega), hD j (by omega), hQ j2 (by omega), hD j2 (by omega)]
      exact h8 j j2 hjj (by omega)
  · intro j hj k2 hk2 ha
    rw [hQ j (by omega)] at ha ⊢
    rw [hD j (by omega)]
    obtain ⟨a, b⟩ := h9 j hj k2 hk2 ha
    have : k2 ≠ k := fun z => a (by rw [z]; exact hm)
    rw [z_updN this, hDo k2 this]
    exact ⟨a, b⟩
theorem z_bi_next {key dk i e : Nat} {f qu : Nat → Int32} (h : z_bi A tot src key dk i f qu e) (hm : ∀ k2, k2 < tot → A key k2 → f k2 ≠ -1) : z_bx A tot src (i + 1) f qu e := by
  obtain ⟨Q, D, ⟨h1, h2, h3, h4, h7, h8, h9⟩, hi, rfl, rfl⟩ := h
  refine ⟨Q, D, h1, h2, h3, h4, h7, fun j j2 a b => ⟨(h8 j j2 a b).1, fun c => (h8 j j2 a b).2 (by omega)⟩, fun j hj k2 hk2 ha => ?_⟩
  by_cases ej : j = i
  · subst ej
    have h0 := hm k2 hk2 ha
    refine ⟨h0, ?_⟩
    rcases h3 k2 hk2 with z | ⟨j2, a, b⟩
    · exact absurd z h0
    · subst b
      rcases Nat.lt_or_ge j2 j with c | c
      · have := (h8 j2 j (by omega) hi).1; omega
      · exact (h8 j j2 c a).2 (Nat.le_refl j)
  · exact h9 j (by omega) k2 hk2 ha
theorem z_bx_at {i e : Nat} {f qu : Nat → Int32} (h : z_bx A tot src i f qu e) (hi : i < e) : ∃ key dk, z_bi A tot src key dk i f qu e ∧ qu i = nI key := by
  obtain ⟨Q, D, h⟩ := h
  exact ⟨Q i, D (Q i), ⟨Q, D, h, hi, rfl, rfl⟩, (h.2.1 i hi).2.1⟩
theorem z_bx_e {i e : Nat} {f qu : Nat → Int32} (h : z_bx A tot src i f qu e) : e ≤ tot := by
  obtain ⟨Q, D, h1, -⟩ := h
  have := z_cnt_le f tot
  omega
theorem z_bx_end {i e : Nat} {f qu : Nat → Int32} (ht : tot ≤ 20000) (h : z_bx A tot src i f qu e) (hi : e ≤ i) : z_S A tot src f := by
  have het := z_bx_e h
  obtain ⟨Q, D, h1, h2, h3, ⟨h4, h5, h6⟩, h7, h8, h9⟩ := h
  have here : ∀ k, k < tot → f k ≠ -1 → ∃ j, j < e ∧ Q j = k ∧ f k = nI (D k) ∧ D k ≤ j := by
    intro k hk hf
    rcases h3 k hk with z | ⟨j, a, b⟩
    · exact absurd z hf
    · subst b
      obtain ⟨-, -, c, d⟩ := h2 j a
      exact ⟨j, a, rfl, c, d⟩
  refine ⟨?_, fun k hk => ?_, fun k hk h => ?_, fun k hk d hd h => ?_, fun k hk d hd h k2 hk2 ha => ?_⟩
  · have := (h2 0 h4).2.2.1
    rw [h5, h6] at this
    exact this
  · by_cases c : f k = -1
    · exact Or.inl c
    · obtain ⟨j, a, -, b, d⟩ := here k hk c
      exact Or.inr ⟨D k, by omega, b⟩
  · obtain ⟨j, a, b, c, d⟩ := here k hk (by rw [h]; exact z_nIm1 (by omega))
    rw [c, nI_eq (by omega) (by omega)] at h
    by_cases ej : j = 0
    · subst ej; rw [← b]; exact h5
    · obtain ⟨j2, -, -, x⟩ := h7 j a ej
      rw [b] at x
      omega
  · obtain ⟨j, a, b, c, x⟩ := here k hk (by rw [h]; exact z_nIm1 hd)
    rw [c, nI_eq (by omega) hd] at h
    have ej : j ≠ 0 := by
      intro z
      subst z
      rw [← b, h5] at h
      omega
    obtain ⟨j2, y1, y2, y3⟩ := h7 j a ej
    obtain ⟨z1, -, z2, -⟩ := h2 j2 y1
    rw [b] at y2 y3
    refine ⟨Q j2, z1, y2, ?_⟩
    rw [z2]
    refine congrArg nI ?_
    omega
  · obtain ⟨j, a, b, c, x⟩ := here k hk (by rw [h]; exact z_nIm1 hd)
    rw [c, nI_eq (by omega) hd] at h
    rw [← b] at ha
    obtain ⟨y1, y2⟩ := h9 j (by omega) k2 hk2 ha
    obtain ⟨j2, z1, z2, z3, z4⟩ := here k2 hk2 y1
    rw [b] at y2
    exact ⟨D k2, by omega, z3⟩
theorem z_bx_0 {f qu : Nat → Int32} (hs : src < tot) (h : ∀ j, j < tot → f j = -1) : z_bx A tot src 0 (upd f src (nI 0)) (upd qu 0 (nI src)) 1 := by
  refine ⟨fun _ => src, fun _ => 0, ?_, fun j hj => ?_, fun k hk => ?_, ⟨by omega, rfl, rfl⟩, fun j hj h0 => by omega, fun j j2 h1 h2 => ⟨Nat.le_refl 0, fun _ => Nat.zero_le _⟩, fun j hj => by omega⟩
  · rw [z_cnt_upd (h src hs) (z_nIm1 (by omega)) tot hs, z_cnt_none tot h]
  · have : j = 0 := by omega
    subst this
    exact ⟨hs, z_updS, z_updS, Nat.le_refl 0⟩
  · by_cases e : k = src
    · exact Or.inr ⟨0, by omega, e.symm⟩
    · rw [z_updN e]; exact Or.inl (h k hk)
/-- the next one on the way: the least key of those that are a step nearer -/
def z_nx (A : Nat → Nat → Prop) (tot : Nat) (f : Nat → Int32) (k k2 : Nat) : Prop := k2 < tot ∧ A k k2 ∧ f k2 = f k - 1 ∧ ∀ q, q < tot → A k q → f q = f k - 1 → k2 ≤ q
def z_wy (A : Nat → Nat → Prop) (tot : Nat) (f : Nat → Int32) : Nat → Nat → Nat → Prop
  | 0, k, r => r = k
  | n + 1, k, r => ∃ k2, z_nx A tot f k k2 ∧ z_wy A tot f n k2 r
theorem z_nx_one {f g : Nat → Int32} (h : ∀ k, k < tot → f k = g k) {k a b : Nat} (hk : k < tot) (h1 : z_nx A tot f k a) (h2 : z_nx A tot g k b) : a = b := by
  obtain ⟨a1, a2, a3, a4⟩ := h1
  obtain ⟨b1, b2, b3, b4⟩ := h2
  have := a4 b b1 b2 (by rw [h b b1, h k hk]; exact b3)
  have := b4 a a1 a2 (by rw [← h a a1, ← h k hk]; exact a3)
  omega
theorem z_wy_one {f g : Nat → Int32} (h : ∀ k, k < tot → f k = g k) : ∀ n k r r2, k < tot → z_wy A tot f n k r → z_wy A tot g n k r2 → r = r2 := by
  intro n
  induction n with
  | zero => intro k r r2 _ h1 h2; exact Eq.trans h1 (Eq.symm h2)
  | succ n ih =>
    intro k r r2 hk ⟨a, a1, a2⟩ ⟨b, b1, b2⟩
    have := z_nx_one h hk a1 b1
    subst this
    exact ih a r r2 a1.1 a2 b2
/-- how many are so near -/
def z_cnl (f : Nat → Int32) (d : Int32) : Nat → Nat
  | 0 => 0
  | n + 1 => z_cnl f d n + (if d < f n then 0 else 1)
theorem z_cnl_le (f : Nat → Int32) (d : Int32) : ∀ n, z_cnl f d n ≤ n := by
  intro n
  induction n with
  | zero => exact Nat.le_refl 0
  | succ n ih => unfold z_cnl; split <;> omega
theorem z_cnl_one {f g : Nat → Int32} (d : Int32) : ∀ n, (∀ k, k < n → f k = g k) → z_cnl f d n = z_cnl g d n := by
  intro n
  induction n with
  | zero => intro _; rfl
  | succ n ih =>
    intro h
    unfold z_cnl
    rw [ih (fun k hk => h k (by omega)), h n (by omega)]
/-- the farthest of the first n -/
def z_far (f : Nat → Int32) : Nat → Nat
  | 0 => 0
  | n + 1 => if f n ≤ f (z_far f n) then z_far f n else n
theorem z_far_s (f : Nat → Int32) (n : Nat) : z_far f (n + 1) = if f n ≤ f (z_far f n) then z_far f n else n := rfl
theorem z_cnl_s (f : Nat → Int32) (d : Int32) (n : Nat) : z_cnl f d (n + 1) = z_cnl f d n + (if d < f n then 0 else 1) := rfl
theorem z_far_lt (f : Nat → Int32) : ∀ n, 1 ≤ n → z_far f n < n := by
  intro n
  induction n with
  | zero => intro h; omega
  | succ n ih =>
    intro _
    unfold z_far
    split
    · rcases Nat.eq_zero_or_pos n with z | z
      · subst z; exact Nat.lt_succ_self 0
      · have := ih z; omega
    · omega
theorem z_far_1 (f : Nat → Int32) : z_far f 1 = 0 := by
  unfold z_far
  split
  · rfl
  · rfl
theorem z_far_one {f g : Nat → Int32} : ∀ n, (∀ k, k < n → f k = g k) → z_far f n = z_far g n := by
  intro n
  induction n with
  | zero => intro _; rfl
  | succ n ih =>
    intro h
    have e := ih (fun k hk => h k (by omega))
    unfold z_far
    rcases Nat.eq_zero_or_pos n with z | z
    · subst z
      show (if f 0 ≤ f 0 then 0 else 0) = (if g 0 ≤ g 0 then 0 else 0)
      split <;> split <;> rfl
    · have l1 := z_far_lt g n z
      rw [e, h n (by omega), h (z_far g n) (by omega)]
end S18A
/-! neighbours: by sides, by keys -/
section S18B
theorem z_side_b9 {H0 V0 r p i : Nat} (hH : 1 ≤ H0) (hV : 1 ≤ V0) (hr : r ≤ 44 * H0 + 1) (hp : p < z_rl H0 V0 r) (hi : i < 4) : z_side H0 V0 (z_rs H0 V0 r + p) i (z_bF H0 V0 r p i) (z_bM H0 V0 r p i) := by
  have la := z_rl_pos (V := V0) hH hV hr
  have up : ∀ b, b ≤ 44 * H0 + 1 → ((p + 1) * z_rl H0 V0 b + z_rl H0 V0 r - 1) / z_rl H0 V0 r - p * z_rl H0 V0 b / z_rl H0 V0 r = ((p + 1) * z_rl H0 V0 b - 1) / z_rl H0 V0 r - p * z_rl H0 V0 b / z_rl H0 V0 r + 1 := by
    intro b hb
    have lb := z_rl_pos (V := V0) hH hV hb
    have e : (p + 1) * z_rl H0 V0 b = p * z_rl H0 V0 b + z_rl H0 V0 b := Nat.succ_mul _ _
    exact z_ceil (by omega) la.1 (Nat.div_le_div_right (by omega))
  have one := z_rl1 hH hV hr
  refine ⟨r, p, hr, hp, rfl, ?_⟩
  rcases (show i = 0 ∨ i = 2 ∨ i = 1 ∨ i = 3 by omega) with rfl | rfl | rfl | rfl
  · by_cases h0 : r = 0
    · exact Or.inr (Or.inl ⟨Or.inl ⟨rfl, h0⟩, by rw [z_bM0, if_pos h0]⟩)
    · exact Or.inl ⟨Or.inl rfl, r - 1, by omega, Or.inl ⟨rfl, by omega⟩, z_bF0, by rw [z_bM0, if_neg h0, up (r - 1) (by omega)]⟩
  · by_cases h0 : r = 44 * H0 + 1
    · exact Or.inr (Or.inl ⟨Or.inr ⟨rfl, h0⟩, by rw [z_bM2, if_pos h0]⟩)
    · exact Or.inl ⟨Or.inr rfl, r + 1, by omega, Or.inr ⟨rfl, rfl⟩, z_bF2, by rw [z_bM2, if_neg h0, up (r + 1) (by omega)]⟩
  · by_cases hc : r = 0 ∨ r = 44 * H0 + 1
    · exact Or.inr (Or.inr ⟨Or.inl rfl, Or.inl ⟨one.mpr hc, by rw [z_bM1, if_pos hc]⟩⟩)
    · exact Or.inr (Or.inr ⟨Or.inl rfl, Or.inr ⟨fun z => hc (one.mp z), by rw [z_bM1, if_neg hc], by rw [z_bF1, if_pos rfl]⟩⟩)
  · by_cases hc : r = 0 ∨ r = 44 * H0 + 1
    · exact Or.inr (Or.inr ⟨Or.inr rfl, Or.inl ⟨one.mpr hc, by rw [z_bM3, if_pos hc]⟩⟩)
    · exact Or.inr (Or.inr ⟨Or.inr rfl, Or.inr ⟨fun z => hc (one.mp z), by rw [z_bM3, if_neg hc], by rw [z_bF3, if_neg (show ¬ (3 : Nat) = 1 by omega)]⟩⟩)
/-- what is beside lies to a side -/
theorem z_adj_in {H0 V0 r p k2 : Nat} (hH : 1 ≤ H0) (hV : 1 ≤ V0) (hr : r ≤ 44 * H0 + 1) (hp : p < z_rl H0 V0 r) (h : z_adj H0 V0 (z_rs H0 V0 r + p) k2) : ∃ i, i < 4 ∧ z_bF H0 V0 r p i ≤ k2 ∧ k2 < z_bF H0 V0 r p i + z_bM H0 V0 r p i := by
  obtain ⟨i, hi, hh⟩ := z_adj_side hH hV h
  exact ⟨i, hi, hh _ _ (z_side_b9 hH hV hr hp hi)⟩
/-- what lies to a side is beside -/
theorem z_adj_of {H0 V0 r p i j : Nat} (hH : 1 ≤ H0) (hV : 1 ≤ V0) (hr : r ≤ 44 * H0 + 1) (hp : p < z_rl H0 V0 r) (hi : i < 4) (hj : j < z_bM H0 V0 r p i) : z_adj H0 V0 (z_rs H0 V0 r + p) (z_bF H0 V0 r p i + j) := by
  have la := z_rl_pos (V := V0) hH hV hr
  have one := z_rl1 hH hV hr
  have vert : ∀ b, b ≤ 44 * H0 + 1 → (b = r + 1 ∨ r = b + 1) → j < ((p + 1) * z_rl H0 V0 b - 1) / z_rl H0 V0 r - p * z_rl H0 V0 b / z_rl H0 V0 r + 1 → z_adj H0 V0 (z_rs H0 V0 r + p) (z_rs H0 V0 b + p * z_rl H0 V0 b / z_rl H0 V0 r + j) := by
    intro b hb hib hj
    have lb := z_rl_pos (V := V0) hH hV hb
    have m1 : (p + 1) * z_rl H0 V0 b ≤ z_rl H0 V0 r * z_rl H0 V0 b := Nat.mul_le_mul_right _ (by omega)
    have m2 : 1 * 1 ≤ (p + 1) * z_rl H0 V0 b := Nat.mul_le_mul (by omega) lb.1
    have d1 : ((p + 1) * z_rl H0 V0 b - 1) / z_rl H0 V0 r < z_rl H0 V0 b := Nat.div_lt_of_lt_mul (by omega)
    have e : (p + 1) * z_rl H0 V0 b = p * z_rl H0 V0 b + z_rl H0 V0 b := Nat.succ_mul _ _
    have d2 : p * z_rl H0 V0 b / z_rl H0 V0 r ≤ ((p + 1) * z_rl H0 V0 b - 1) / z_rl H0 V0 r := Nat.div_le_div_right (by omega)
    refine ⟨r, p, b, p * z_rl H0 V0 b / z_rl H0 V0 r + j, hr, hb, hp, by omega, rfl, Nat.add_assoc _ _ _, Or.inl ⟨hib, ?_, ?_⟩⟩
    · have := Nat.lt_div_mul_add (a := p * z_rl H0 V0 b) (show 0 < z_rl H0 V0 r by omega)
      have h3 : (p * z_rl H0 V0 b / z_rl H0 V0 r + 1) * z_rl H0 V0 r ≤ (p * z_rl H0 V0 b / z_rl H0 V0 r + j + 1) * z_rl H0 V0 r := Nat.mul_le_mul_right _ (by omega)
      rw [Nat.add_mul _ 1, Nat.one_mul] at h3
      omega
    · have h3 : p * z_rl H0 V0 b / z_rl H0 V0 r + j ≤ ((p + 1) * z_rl H0 V0 b - 1) / z_rl H0 V0 r := by omega
      have h4 := Nat.mul_le_mul_right (z_rl H0 V0 r) h3
      have h5 := Nat.div_mul_le_self ((p + 1) * z_rl H0 V0 b - 1) (z_rl H0 V0 r)
      omega
  have hor : ∀ by1, (by1 = 1 ∨ by1 = z_rl H0 V0 r - 1) → ¬ (r = 0 ∨ r = 44 * H0 + 1) → j < 1 → z_adj H0 V0 (z_rs H0 V0 r + p) (z_rs H0 V0 r + (p + by1) % z_rl H0 V0 r + j) := by
    intro by1 hb hc hj
    have hm := Nat.mod_lt (p + by1) (show 0 < z_rl H0 V0 r by omega)
    have : j = 0 := by omega
    subst this
    refine ⟨r, p, r, (p + by1) % z_rl H0 V0 r, hr, hr, hp, hm, rfl, rfl, Or.inr ⟨rfl, fun z => hc (one.mp z), ?_⟩⟩
    rcases hb with rfl | hb
    · exact Or.inl rfl
    · right
      rw [Nat.mod_add_mod, hb, show p + (z_rl H0 V0 r - 1) + 1 = p + z_rl H0 V0 r by omega, Nat.add_mod_right, Nat.mod_eq_of_lt hp]
  rcases (show i = 0 ∨ i = 2 ∨ i = 1 ∨ i = 3 by omega) with rfl | rfl | rfl | rfl
  · rw [z_bM0] at hj
    rw [z_bF0]
    by_cases h0 : r = 0
    · rw [if_pos h0] at hj; omega
    · rw [if_neg h0] at hj; exact vert (r - 1) (by omega) (by omega) hj
  · rw [z_bM2] at hj
    rw [z_bF2]
    by_cases h0 : r = 44 * H0 + 1
    · rw [if_pos h0] at hj; omega
    · rw [if_neg h0] at hj; exact vert (r + 1) (by omega) (Or.inl rfl) hj
  · rw [z_bM1] at hj
    rw [z_bF1]
    by_cases hc : r = 0 ∨ r = 44 * H0 + 1
    · rw [if_pos hc] at hj; omega
    · rw [if_neg hc] at hj; exact hor 1 (Or.inl rfl) hc hj
  · rw [z_bM3] at hj
    rw [z_bF3]
    by_cases hc : r = 0 ∨ r = 44 * H0 + 1
    · rw [if_pos hc] at hj; omega
    · rw [if_neg hc] at hj; exact hor _ (Or.inr rfl) hc hj
/-- the rows of neighbours lie in order -/
def l_ord (M F : Nat → Nat) : Prop := (M 0 ≠ 0 → M 1 ≠ 0 → F 0 + M 0 ≤ F 1 ∧ F 0 + M 0 ≤ F 3) ∧ (M 1 ≠ 0 → M 2 ≠ 0 → F 1 < F 2 ∧ F 3 < F 2) ∧ (M 0 ≠ 0 → M 2 ≠ 0 → F 0 + M 0 ≤ F 2)
theorem l_ord_of {H0 V0 r p : Nat} (hH : 1 ≤ H0) (hV : 1 ≤ V0) (hr : r ≤ 44 * H0 + 1) (hp : p < z_rl H0 V0 r) : l_ord (z_bM H0 V0 r p) (z_bF H0 V0 r p) := by
  have la := z_rl_pos (V := V0) hH hV hr
  have h1 := Nat.mod_lt (p + 1) (show 0 < z_rl H0 V0 r by omega)
  have h3 := Nat.mod_lt (p + (z_rl H0 V0 r - 1)) (show 0 < z_rl H0 V0 r by omega)
  have up : z_bM H0 V0 r p 0 ≠ 0 → z_bF H0 V0 r p 0 + z_bM H0 V0 r p 0 ≤ z_rs H0 V0 r := by
    rw [z_bM0, z_bF0]
    by_cases h0 : r = 0
    · rw [if_pos h0]; exact fun z => absurd rfl z
    · rw [if_neg h0]
      intro _
      have lb := z_rl_pos (V := V0) hH hV (show r - 1 ≤ 44 * H0 + 1 by omega)
      have m1 : (p + 1) * z_rl H0 V0 (r - 1) ≤ z_rl H0 V0 r * z_rl H0 V0 (r - 1) := Nat.mul_le_mul_right _ (by omega)
      have m2 : 1 * 1 ≤ (p + 1) * z_rl H0 V0 (r - 1) := Nat.mul_le_mul (by omega) lb.1
      have d1 : ((p + 1) * z_rl H0 V0 (r - 1) - 1) / z_rl H0 V0 r < z_rl H0 V0 (r - 1) := Nat.div_lt_of_lt_mul (by omega)
      have e : (p + 1) * z_rl H0 V0 (r - 1) = p * z_rl H0 V0 (r - 1) + z_rl H0 V0 (r - 1) := Nat.succ_mul _ _
      have d2 : p * z_rl H0 V0 (r - 1) / z_rl H0 V0 r ≤ ((p + 1) * z_rl H0 V0 (r - 1) - 1) / z_rl H0 V0 r := Nat.div_le_div_right (by omega)
      have hn := z_rs_succ (V := V0) hH (show r - 1 ≤ 44 * H0 by omega)
      rw [show r - 1 + 1 = r by omega] at hn
      generalize ((p + 1) * z_rl H0 V0 (r - 1) - 1) / z_rl H0 V0 r = y at *
      generalize p * z_rl H0 V0 (r - 1) / z_rl H0 V0 r = x at *
      omega
  have dn : z_bM H0 V0 r p 2 ≠ 0 → z_rs H0 V0 r + z_rl H0 V0 r ≤ z_bF H0 V0 r p 2 := by
    rw [z_bM2, z_bF2]
    by_cases h0 : r = 44 * H0 + 1
    · rw [if_pos h0]; exact fun z => absurd rfl z
    · rw [if_neg h0]
      intro _
      rw [z_rs_succ (V := V0) hH (show r ≤ 44 * H0 by omega)]
      exact Nat.le_add_right _ _
  unfold l_ord
  rw [show z_bF H0 V0 r p 1 = _ from z_bF1, show z_bF H0 V0 r p 3 = _ from z_bF3]
  refine ⟨fun a b => ?_, fun a b => ?_, fun a b => ?_⟩
  · have := up a; omega
  · have := dn b; omega
  · have := up a; have := dn b; omega
theorem l_nA_side {M F : Nat → Nat} (h : l_MF M F) {j : Nat} (hj : j < l_tot M) : ∃ i j2, i < 4 ∧ j2 < M i ∧ l_nA M F j = F i + j2 := by
  unfold l_tot at hj
  obtain ⟨⟨h13, h1⟩, -⟩ := h
  unfold l_nA
  by_cases c0 : j < M 0
  · rw [if_pos c0]; exact ⟨0, j, by omega, c0, rfl⟩
  rw [if_neg c0]
  by_cases c1 : j - M 0 < M 1 + M 3
  · rw [if_pos c1]
    split
    · split
      · exact ⟨3, 0, by omega, by omega, rfl⟩
      · exact ⟨1, 0, by omega, by omega, rfl⟩
    · split
      · exact ⟨1, 0, by omega, by omega, rfl⟩
      · exact ⟨3, 0, by omega, by omega, rfl⟩
  · rw [if_neg c1]
    exact ⟨2, j - M 0 - M 1 - M 3, by omega, by omega, rfl⟩
theorem l_nA_all {M F : Nat → Nat} (h : l_MF M F) {i k : Nat} (hi : i < 4) (h1 : F i ≤ k) (h2 : k < F i + M i) : ∃ j, j < l_tot M ∧ l_nA M F j = k := by
  obtain ⟨⟨h13, h1'⟩, -⟩ := h
  unfold l_tot
  rcases (show i = 0 ∨ i = 2 ∨ i = 1 ∨ i = 3 by omega) with rfl | rfl | rfl | rfl
  · refine ⟨k - F 0, by omega, ?_⟩
    unfold l_nA
    rw [if_pos (show k - F 0 < M 0 by omega)]; omega
  · refine ⟨M 0 + M 1 + M 3 + (k - F 2), by omega, ?_⟩
    unfold l_nA
    rw [if_neg (show ¬ M 0 + M 1 + M 3 + (k - F 2) < M 0 by omega), if_neg (show ¬ M 0 + M 1 + M 3 + (k - F 2) - M 0 < M 1 + M 3 by omega)]; omega
  · by_cases c : F 3 < F 1
    · refine ⟨M 0 + 1, by omega, ?_⟩
      unfold l_nA
      rw [if_neg (show ¬ M 0 + 1 < M 0 by omega), if_pos (show M 0 + 1 - M 0 < M 1 + M 3 by omega), if_neg (show ¬ M 0 + 1 - M 0 = 0 by omega), if_pos (show F 3 ≤ F 1 by omega)]; omega
    · refine ⟨M 0, by omega, ?_⟩
      unfold l_nA
      rw [if_neg (show ¬ M 0 < M 0 by omega), if_pos (show M 0 - M 0 < M 1 + M 3 by omega), if_pos (show M 0 - M 0 = 0 by omega), if_neg c]; omega
  · by_cases c : F 3 < F 1
    · refine ⟨M 0, by omega, ?_⟩
      unfold l_nA
      rw [if_neg (show ¬ M 0 < M 0 by omega), if_pos (show M 0 - M 0 < M 1 + M 3 by omega), if_pos (show M 0 - M 0 = 0 by omega), if_pos c]; omega
    · by_cases c2 : F 3 = F 1
      · refine ⟨M 0, by omega, ?_⟩
        unfold l_nA
        rw [if_neg (show ¬ M 0 < M 0 by omega), if_pos (show M 0 - M 0 < M 1 + M 3 by omega), if_pos (show M 0 - M 0 = 0 by omega), if_neg c]; omega
      · refine ⟨M 0 + 1, by omega, ?_⟩
        unfold l_nA
        rw [if_neg (show ¬ M 0 + 1 < M 0 by omega), if_pos (show M 0 + 1 - M 0 < M 1 + M 3 by omega), if_neg (show ¬ M 0 + 1 - M 0 = 0 by omega), if_neg (show ¬ F 3 ≤ F 1 by omega)]; omega
theorem l_nA_mono {M F : Nat → Nat} (h : l_MF M F) (ho : l_ord M F) {i j : Nat} (hij : i ≤ j) (hj : j < l_tot M) : l_nA M F i ≤ l_nA M F j := by
  unfold l_tot at hj
  obtain ⟨⟨h13, h1⟩, -⟩ := h
  obtain ⟨o1, o2, o3⟩ := ho
  unfold l_nA
  by_cases a0 : i < M 0
  · rw [if_pos a0]
    by_cases b0 : j < M 0
    · rw [if_pos b0]; omega
    rw [if_neg b0]
    by_cases b1 : j - M 0 < M 1 + M 3
    · rw [if_pos b1]
      have := o1 (by omega) (by omega)
      split
      · split <;> omega
      · split <;> omega
    · rw [if_neg b1]
      have := o3 (by omega) (by omega)
      omega
  rw [if_neg a0, if_neg (show ¬ j < M 0 by omega)]
  by_cases a1 : i - M 0 < M 1 + M 3
  · rw [if_pos a1]
    by_cases b1 : j - M 0 < M 1 + M 3
    · rw [if_pos b1]
      split
      · split
        · split
          · omega
          · split <;> omega
        · split
          · omega
          · split <;> omega
      · rw [if_neg (show ¬ j - M 0 = 0 by omega)]
        exact Nat.le_refl _
    · rw [if_neg b1]
      have := o2 (by omega) (by omega)
      split
      · split <;> omega
      · split <;> omega
  · rw [if_neg a1, if_neg (show ¬ j - M 0 < M 1 + M 3 by omega)]
    omega
end S18B
/-! the class's walk -/
section S18C
variable {R C H V : Nat → Nat} {rc cc br zc rw sh : Nat → Int32} {N l tot ns nr : Nat} {A : Nat → Nat → Prop}
theorem l_tot_b {M F : Nat → Nat} (h : l_MF M F) : l_tot M ≤ 2400000 := by
  have h0 := (h.2 0 (by omega)).1
  have h1 := (h.2 1 (by omega)).1
  have h2 := (h.2 2 (by omega)).1
  have h3 := (h.2 3 (by omega)).1
  unfold l_tot
  omega
theorem r_makeRoom_L (h1 : tot ≤ ns) (h2 : ns < 2 ^ 31) : ∀ n i (f : Nat → Int32), i ≤ tot → tot - i < n → (∀ j, j < i → f j = -1) → Ok (f_Walk_makeRoom_L30 ns (nI tot) n (nI i) f) (fun f2 => ∀ j, j < tot → f2 j = -1) := by
  intro n
  induction n with
  | zero => intro i f _ h; omega
  | succ n ih =>
    intro i f hi hn hf
    rw [f_Walk_makeRoom_L30]
    refine Ok.ite (fun hc => Ok.ret (fun j hj => hf j ?_)) (fun hc => ?_)
    all_goals rw [nI_leI (by omega) (by omega)] at hc
    · omega
    · refine Ok.asn (by omega) h2 (Ok.nm ?_)
      rw [nI_1]
      refine ih (i + 1) _ (by omega) (by omega) (fun j hj => ?_)
      by_cases e : j = i
      · subst e; exact z_updS
      · rw [z_updN e]; exact hf j (by omega)
theorem r_makeRoomN_eq (nL : Nat) (p1 : Int32) : ∀ n (v : Int32) (f : Nat → Int32), f_Walk_makeRoomN_L30 nL p1 n v f = f_Walk_makeRoom_L30 nL p1 n v f := by
  intro n
  induction n with
  | zero => intros; rfl
  | succ n ih =>
    intro v f
    rw [f_Walk_makeRoomN_L30, f_Walk_makeRoom_L30]
    simp only [ih]
theorem r_spreadOn_L {f m : Nat → Int32} {F M : Nat → Nat} (h : l_MF M F) (hfm : ∀ i, i < 4 → m i = nI (M i) ∧ (M i ≠ 0 → f i = nI (F i))) (ht : tot ≤ 20000) (hs : tot ≤ ns) (hr : tot ≤ nr) (hs2 : ns < 2 ^ 31) (hr2 : nr < 2 ^ 31) {src key dk q : Nat} (hA : ∀ j, j < l_tot M → l_nA M F j < tot ∧ A key (l_nA M F j)) :
    ∀ n i e (a b : Nat → Int32), i ≤ l_tot M → l_tot M - i < n → z_bi A tot src key dk q a b e → (∀ j, j < i → a (l_nA M F j) ≠ -1) → Ok (f_Walk_spreadOn_L14 nr ns (nI (dk + 1)) (nI (l_tot M)) (nI tot) f m n (nI e) (nI i) a b) (fun y => ∃ e2, y.1 = nI e2 ∧ z_bi A tot src key dk q y.2.1 y.2.2 e2 ∧ ∀ j, j < l_tot M → y.2.1 (l_nA M F j) ≠ -1) := by
  have hM := l_tot_b h
  intro n
  induction n with
  | zero => intro i e a b _ h; omega
  | succ n ih =>
    intro i e a b hi hn hb ha
    obtain ⟨-, -, hde, he, -⟩ := z_bi_f hb
    rw [f_Walk_spreadOn_L14]
    refine Ok.ite (fun hc => Ok.ret ⟨e, rfl, hb, fun j hj => ha j ?_⟩) (fun hc => ?_)
    all_goals rw [nI_leI (by omega) (by omega)] at hc
    · omega
    · obtain ⟨hk, hAk⟩ := hA i (by omega)
      rw [r_besideKey h hfm (show i < l_tot M by omega), q_b1_s]
      generalize hkk : l_nA M F i = k at *
      refine Ok.ain (by omega) hs2 ?_
      rw [z_j3]
      dsimp only
      refine Ok.ite (fun h1 => ?_) (fun h1 => ?_)
      · obtain ⟨hlt, hb2⟩ := z_bi_meet ht hb hk hAk h1
        refine Ok.ite (fun h2 => ?_) (fun h2 => ?_)
        · rw [nI_leI (by omega) (by omega)] at h2; omega
        · refine Ok.asn (by omega) hs2 (Ok.asn (by omega) hr2 (Ok.nm (Ok.nm ?_)))
          rw [nI_1, nI_1]
          refine ih (i + 1) (e + 1) _ _ (by omega) (by omega) hb2 (fun j hj => ?_)
          by_cases ej : j = i
          · subst ej
            rw [hkk, z_updS]
            exact z_nIm1 (by omega)
          · have := ha j (by omega)
            rw [z_updN (fun z => this (by rw [z]; exact h1))]
            exact this
      · refine Ok.nm ?_
        rw [nI_1]
        refine ih (i + 1) e a b (by omega) (by omega) hb (fun j hj => ?_)
        by_cases ej : j = i
        · subst ej; rw [hkk]; exact h1
        · exact ha j (by omega)
theorem r_spread_L (g : GOK R C H V rc cc br zc rw sh) (hN : 3000000 ≤ N) (hl : l < 5) (ht : tot = 2130 * (H l * V l) + 2) (ht2 : tot ≤ 20000) (hs : tot ≤ ns) (hr : tot ≤ nr) (hs2 : ns < 2 ^ 31) (hr2 : nr < 2 ^ 31) {src : Nat} :
    ∀ n i e (a b c d : Nat → Int32) (v1 v2 v3 v4 v5 v6 : Int32), i ≤ tot → tot - i < n → z_bx (z_adj (H l) (V l)) tot src i a b e → Ok (f_Walk_spread_L35 N br rw sh zc nr ns (nI l) (nI tot) n (nI e) (nI i) a b c d v1 v2 v3 v4 v5 v6) (fun y => z_S (z_adj (H l) (V l)) tot src y.1) := by
  have hps := g.2.pos l hl
  intro n
  induction n with
  | zero => intro i e a b c d v1 v2 v3 v4 v5 v6 _ h; omega
  | succ n ih =>
    intro i e a b c d v1 v2 v3 v4 v5 v6 hi hn hb
    have he := z_bx_e hb
    rw [f_Walk_spread_L35]
    refine Ok.ite (fun h1 => Ok.ret (z_bx_end ht2 hb ?_)) (fun h1 => ?_)
    all_goals rw [nI_leI (by omega) (by omega)] at h1
    · exact h1
    refine Ok.ite (fun h2 => Ok.ret (z_bx_end ht2 hb ?_)) (fun h2 => ?_)
    all_goals rw [nI_leI (by omega) (by omega)] at h2
    · omega
    obtain ⟨key, dk, hbi, hq⟩ := z_bx_at hb (show i < e by omega)
    obtain ⟨hk, hak, hde, -, -⟩ := z_bi_f hbi
    obtain ⟨r, p, hput, hr1, hp1, hkk⟩ := k_put g (N := N) (by omega) hl (k := key) (by omega) v1 v2 v3 v4 v5 v6
    obtain ⟨f', m', hla, hfm⟩ := r_lookAround g hl hr1 hp1 c d
    have hMF := l_MF_of g.2 hl hr1 hp1
    have hM := l_tot_b hMF
    have hA : ∀ j, j < l_tot (z_bM (H l) (V l) r p) → l_nA (z_bM (H l) (V l) r p) (z_bF (H l) (V l) r p) j < tot ∧ z_adj (H l) (V l) key (l_nA (z_bM (H l) (V l) r p) (z_bF (H l) (V l) r p) j) := by
      intro j hj
      obtain ⟨i2, j2, a1, a2, a3⟩ := l_nA_side hMF hj
      have := (z_bB hps.1 hps.2 hr1 hp1 a1).2 (by omega)
      rw [a3, hkk, ht]
      exact ⟨by omega, z_adj_of hps.1 hps.2 hr1 hp1 a1 a2⟩
    refine Ok.ain (by omega) hr2 ?_
    rw [hq, hput, q_b6_s, hla, q_b2_s]
    refine Ok.ain (by omega) hr2 ?_
    rw [hq]
    refine Ok.ain (by omega) hs2 ?_
    rw [hak, nI_1]
    have hso : Ok (f_Walk_spreadOn N ns nr a b (nI tot) f' m' (nI (dk + 1)) (nI e)) (fun y => ∃ e2, y.1 = nI e2 ∧ z_bi (z_adj (H l) (V l)) tot src key dk i y.2.1 y.2.2 e2 ∧ ∀ j, j < l_tot (z_bM (H l) (V l) r p) → y.2.1 (l_nA (z_bM (H l) (V l) r p) (z_bF (H l) (V l) r p) j) ≠ -1) := by
      unfold f_Walk_spreadOn
      rw [r_allBeside hfm, q_b1_s, z_nm]
      exact Ok.b3 (r_spreadOn_L hMF hfm ht2 hs hr hs2 hr2 hA N 0 e a b (by omega) (by omega) hbi (fun j hj => by omega)) (fun _ _ _ h => Ok.ret h)
    refine Ok.b3 hso (fun v41 f42 f43 h => Ok.nm ?_)
    obtain ⟨e2, y1, y2, y3⟩ := h
    dsimp only at y1 y2 y3
    subst y1
    rw [nI_1]
    refine ih (i + 1) e2 _ _ _ _ _ _ _ _ _ _ (by omega) (by omega) (z_bi_next y2 (fun k2 hk2 ha => ?_))
    rw [hkk] at ha
    obtain ⟨i2, b1, b2, b3⟩ := z_adj_in hps.1 hps.2 hr1 hp1 ha
    obtain ⟨j, c1, c2⟩ := l_nA_all hMF b1 b2 b3
    rw [← c2]
    exact y3 j c1
theorem r_spread (g : GOK R C H V rc cc br zc rw sh) (hN : 3000000 ≤ N) (hl : l < 5) (ht2 : 2130 * (H l * V l) + 2 ≤ 20000) (hs : 2130 * (H l * V l) + 2 ≤ ns) (hs2 : ns < 2 ^ 31) {k : Nat} (hk : k < 2130 * (H l * V l) + 2) (a b c d : Nat → Int32) (mm v1 v2 v3 v4 v5 v6 : Int32) : Ok (f_Walk_spread N ns ns a b mm c d v1 v2 v3 v4 v5 v6 br zc rw sh (nI l) (nI k)) (fun x => x.2.2.1 = nI (2130 * (H l * V l) + 2) ∧ z_S (z_adj (H l) (V l)) (2130 * (H l * V l) + 2) k x.1) := by
  obtain ⟨-, -, -, -, -, e6⟩ := g.at hl
  unfold f_Walk_spread
  rw [z_ai hl (by omega), e6]
  have hm : Ok (f_Walk_makeRoom N ns a mm (nI (2130 * (H l * V l) + 2))) (fun y => y.2 = nI (2130 * (H l * V l) + 2) ∧ ∀ j, j < 2130 * (H l * V l) + 2 → y.1 j = -1) := by
    unfold f_Walk_makeRoom
    rw [if_pos (by rw [nI_leI (by omega) hs2]; exact hs), z_nm]
    exact Ok.b1 (r_makeRoom_L hs hs2 N 0 a (by omega) (by omega) (fun j hj => by omega)) (fun f2 h => Ok.ret ⟨rfl, h⟩)
  refine Ok.b2 hm (fun f2 v3 h => ?_)
  obtain ⟨h1, h2⟩ := h
  dsimp only at h1 h2
  subst h1
  refine Ok.asn (j := 0) (by omega) hs2 (Ok.asn (by omega) hs2 ?_)
  rw [z_nm, z_nm]
  exact Ok.b10 (r_spread_L g hN hl rfl ht2 hs hs hs2 hs2 N 0 1 _ _ c d v1 v2 v3 v4 v5 v6 (by omega) (by omega) (z_bx_0 hk h2)) (fun _ _ _ _ _ _ _ _ _ _ h => Ok.ret ⟨rfl, h⟩)
theorem r_spreadN (g : GOK R C H V rc cc br zc rw sh) (hN : 3000000 ≤ N) (hl : l < 5) (ht : tot = 2130 * (H l * V l) + 2) (ht2 : tot ≤ 20000) (hs : ns < tot) {k : Nat} (hk : k < tot) (a b c d : Nat → Int32) (mm v1 v2 v3 v4 v5 v6 : Int32) : Ok (f_Walk_spreadN N tot ns a b mm c d v1 v2 v3 v4 v5 v6 br zc rw sh (nI l) (nI k)) (fun x => x.2.2.1 = nI tot ∧ z_S (z_adj (H l) (V l)) tot k x.1) := by
  obtain ⟨-, -, -, -, -, e6⟩ := g.at hl
  unfold f_Walk_spreadN
  rw [z_ai hl (by omega), e6, ← ht]
  have hm : Ok (f_Walk_makeRoomN N tot ns a b mm (nI tot)) (fun y => y.2.2 = nI tot ∧ ∀ j, j < tot → y.1 j = -1) := by
    unfold f_Walk_makeRoomN q_na
    have hc : ¬ (nI tot < 0 ∨ 134217728 < tot ∨ (nI tot).toNatClampNeg ≠ tot) := by
      rw [nI_clamp (by omega)]
      rintro (h | h | h)
      · exact z_lt0 (by omega) h
      · omega
      · exact h rfl
    rw [if_neg (by rw [nI_leI (by omega) (by omega)]; omega), if_neg hc, if_neg hc, z_nm, r_makeRoomN_eq]
    exact Ok.b1 (r_makeRoom_L (Nat.le_refl tot) (by omega) N 0 (fun _ => 0) (by omega) (by omega) (fun j hj => by omega)) (fun f2 h => Ok.ret ⟨rfl, h⟩)
  refine Ok.b3 hm (fun f2 f3 v4 h => ?_)
  obtain ⟨h1, h2⟩ := h
  dsimp only at h1 h2
  subst h1
  refine Ok.asn (j := 0) (by omega) (by omega) (Ok.asn hk (by omega) ?_)
  rw [z_nm, z_nm, k_spreadN_eq]
  exact Ok.b10 (r_spread_L g hN hl ht ht2 (Nat.le_refl tot) (Nat.le_refl tot) (by omega) (by omega) N 0 1 _ _ c d v1 v2 v3 v4 v5 v6 (by omega) (by omega) (z_bx_0 hk h2)) (fun _ _ _ _ _ _ _ _ _ _ h => Ok.ret ⟨rfl, h⟩)
theorem r_within (hN : tot < N) (hs : tot ≤ ns) (hs2 : ns < 2 ^ 31) (p : Int32) (a : Nat → Int32) : Ok (f_Walk_within N ns a (nI tot) p) (fun x => x = nI (z_cnl a p tot)) := by
  have L : ∀ n i, i ≤ tot → tot - i < n → Ok (f_Walk_within_L4 ns p (nI tot) a n (nI (z_cnl a p i)) (nI i)) (fun x => x = nI (z_cnl a p tot)) := by
    intro n
    induction n with
    | zero => intro i _ h; omega
    | succ n ih =>
      intro i hi hn
      rw [f_Walk_within_L4]
      refine Ok.ite (fun hc => Ok.ret ?_) (fun hc => ?_)
      all_goals rw [nI_leI (by omega) (by omega)] at hc
      · have : i = tot := by omega
        subst this; rfl
      · refine Ok.ain (by omega) hs2 ?_
        rw [z_j1]
        dsimp only
        have t := ih (i + 1) (by omega) (by omega)
        rw [z_cnl_s] at t
        refine Ok.ite (fun h3 => Ok.nm ?_) (fun h3 => Ok.nm (Ok.nm ?_))
        · rw [if_pos h3] at t
          rw [nI_1]; exact t
        · rw [if_neg h3] at t
          rw [nI_1, nI_1]; exact t
  unfold f_Walk_within
  exact Ok.nm (Ok.nm (Ok.b1 (L N 0 (by omega) (by omega)) (fun v h => Ok.ret h)))
theorem r_farthestKey (hN : tot < N) (hs : tot ≤ ns) (hs2 : ns < 2 ^ 31) (h0 : 1 ≤ tot) (a : Nat → Int32) : Ok (f_Walk_farthestKey N ns a (nI tot)) (fun x => x = nI (z_far a tot)) := by
  have L : ∀ n i, 1 ≤ i → i ≤ tot → tot - i < n → Ok (f_Walk_farthestKey_L4 ns (nI tot) a n (nI (z_far a i)) (nI i)) (fun x => x = nI (z_far a tot)) := by
    intro n
    induction n with
    | zero => intro i _ _ h; omega
    | succ n ih =>
      intro i h1 hi hn
      have hlt := z_far_lt a i h1
      rw [f_Walk_farthestKey_L4]
      refine Ok.ite (fun hc => Ok.ret ?_) (fun hc => ?_)
      all_goals rw [nI_leI (by omega) (by omega)] at hc
      · have : i = tot := by omega
        subst this; rfl
      · refine Ok.ain (by omega) hs2 (Ok.ain (by omega) hs2 ?_)
        rw [z_j1]
        dsimp only
        have t := ih (i + 1) (by omega) (by omega) (by omega)
        rw [z_far_s] at t
        refine Ok.ite (fun h3 => Ok.nm ?_) (fun h3 => Ok.nm ?_)
        · rw [if_pos h3] at t
          rw [nI_1]; exact t
        · rw [if_neg h3] at t
          rw [nI_1]; exact t
  unfold f_Walk_farthestKey
  have t := L N 1 (by omega) (by omega) (by omega)
  rw [z_far_1] at t
  exact Ok.nm (Ok.nm (Ok.b1 t (fun v h => Ok.ret h)))
theorem r_nearer {f m : Nat → Int32} {F M : Nat → Nat} (h : l_MF M F) (ho : l_ord M F) (hfm : ∀ i, i < 4 → m i = nI (M i) ∧ (M i ≠ 0 → f i = nI (F i))) (hN : 3000000 ≤ N) (ht : tot ≤ 20000) (hs : tot ≤ ns) (hs2 : ns < 2 ^ 31) (a : Nat → Int32) {k : Nat} (hk : k < tot) (hA : ∀ j, j < l_tot M → l_nA M F j < tot ∧ A k (l_nA M F j)) (hB : ∀ q, q < tot → A k q → ∃ j, j < l_tot M ∧ l_nA M F j = q) (hx : ∃ q, q < tot ∧ A k q ∧ a q = a k - 1) : Ok (f_Walk_nearer N ns a f m (nI k)) (fun x => ∃ q, x = nI q ∧ z_nx A tot a k q) := by
  have hM := l_tot_b h
  obtain ⟨q0, x1, x2, x3⟩ := hx
  obtain ⟨j0, x4, x5⟩ := hB q0 x1 x2
  have L : ∀ n i, i ≤ j0 → l_tot M - i < n → (∀ j, j < i → a (l_nA M F j) ≠ a k - 1) → Ok (f_Walk_nearer_L10 ns (nI k) (nI (l_tot M)) a f m n (nI i)) (fun o => ∃ q, o = .inr (nI q) ∧ z_nx A tot a k q) := by
    intro n
    induction n with
    | zero => intro i _ h; omega
    | succ n ih =>
      intro i hi hn hne
      rw [f_Walk_nearer_L10]
      refine Ok.ite (fun hc => ?_) (fun hc => ?_)
      all_goals rw [nI_leI (by omega) (by omega)] at hc
      · omega
      · obtain ⟨y1, y2⟩ := hA i (by omega)
        rw [r_besideKey h hfm (show i < l_tot M by omega), q_b1_s]
        refine Ok.ain (by omega) hs2 (Ok.ain (by omega) hs2 (Ok.ite (fun h1 => Ok.ret ⟨_, rfl, y1, y2, h1, fun q hq1 hq2 hq3 => ?_⟩) (fun h1 => Ok.nm ?_)))
        · obtain ⟨j, z1, z2⟩ := hB q hq1 hq2
          rcases Nat.lt_or_ge j i with c | c
          · exact absurd (by rw [z2]; exact hq3) (hne j c)
          · rw [← z2]; exact l_nA_mono h ho c z1
        · rw [nI_1]
          have : i ≠ j0 := by
            intro z
            subst z
            rw [x5] at h1
            exact h1 x3
          refine ih (i + 1) (by omega) (by omega) (fun j hj => ?_)
          by_cases ej : j = i
          · subst ej; exact h1
          · exact hne j (by omega)
  unfold f_Walk_nearer
  rw [r_allBeside hfm, q_b1_s, z_nm]
  obtain ⟨o, e, q, rfl, hq⟩ := L N 0 (by omega) (by omega) (fun j hj => by omega)
  rw [show f_Walk_nearer_L10 ns (nI k) (nI (l_tot M)) a f m N 0 = some (.inr (nI q)) from e]
  exact ⟨_, rfl, q, rfl, hq⟩
theorem r_onTheWay (g : GOK R C H V rc cc br zc rw sh) (hN : 3000000 ≤ N) (hl : l < 5) (ht : tot = 2130 * (H l * V l) + 2) (ht2 : tot ≤ 20000) (hs : tot ≤ ns) (hs2 : ns < 2 ^ 31) {src : Nat} {a : Nat → Int32} (hS : z_S (z_adj (H l) (V l)) tot src a) {k p : Nat} (hk : k < tot) (hp : ∃ d, d < tot ∧ a k = nI d ∧ p ≤ d) (c d : Nat → Int32) (v1 v2 v3 v4 v5 v6 : Int32) : Ok (f_Walk_onTheWay N ns a (nI tot) c d v1 v2 v3 v4 v5 v6 br zc rw sh (nI l) (nI k) (nI p)) (fun x => ∃ q, x.1 = nI q ∧ z_wy (z_adj (H l) (V l)) tot a p k q) := by
  have hps := g.2.pos l hl
  have hpb : p < tot := by obtain ⟨d, h1, -, h3⟩ := hp; omega
  have L : ∀ n i k (c d : Nat → Int32) (v1 v2 v3 v4 v5 v6 : Int32), i ≤ p → p - i < n → k < tot → (∃ d, d < tot ∧ a k = nI d ∧ p - i ≤ d) → Ok (f_Walk_onTheWay_L6 N br rw sh zc ns (nI l) (nI p) (nI tot) a n (nI k) (nI i) c d v1 v2 v3 v4 v5 v6) (fun x => ∃ q, x.1 = nI q ∧ z_wy (z_adj (H l) (V l)) tot a (p - i) k q) := by
    intro n
    induction n with
    | zero => intro i k c d v1 v2 v3 v4 v5 v6 _ h; omega
    | succ n ih =>
      intro i k c d v1 v2 v3 v4 v5 v6 hi hn hk hd
      rw [f_Walk_onTheWay_L6]
      refine Ok.ite (fun hc => Ok.ret ⟨k, rfl, ?_⟩) (fun hc => ?_)
      all_goals rw [nI_leI (by omega) (by omega)] at hc
      · rw [show p - i = 0 by omega]; exact Eq.refl k
      refine Ok.ite (fun hc2 => ?_) (fun hc2 => ?_)
      all_goals rw [nI_leI (by omega) (by omega)] at hc2
      · omega
      obtain ⟨dd, d1, d2, d3⟩ := hd
      obtain ⟨dd, rfl⟩ : ∃ x, dd = x + 1 := ⟨dd - 1, by omega⟩
      obtain ⟨r, pl, hput, hr1, hp1, hkk⟩ := k_put g (N := N) (by omega) hl (k := k) (by omega) v1 v2 v3 v4 v5 v6
      obtain ⟨f', m', hla, hfm⟩ := r_lookAround g hl hr1 hp1 c d
      have hMF := l_MF_of g.2 hl hr1 hp1
      obtain ⟨q0, x1, x2, x3⟩ := hS.2.2.2.1 k hk dd (by omega) d2
      have hnr := r_nearer (A := z_adj (H l) (V l)) (N := N) hMF (l_ord_of hps.1 hps.2 hr1 hp1) hfm hN ht2 hs hs2 a hk (by
        intro j hj
        obtain ⟨i2, j2, a1, a2, a3⟩ := l_nA_side hMF hj
        have := (z_bB hps.1 hps.2 hr1 hp1 a1).2 (by omega)
        rw [a3, hkk, ht]
        exact ⟨by omega, z_adj_of hps.1 hps.2 hr1 hp1 a1 a2⟩) (by
        intro q hq ha
        rw [hkk] at ha
        obtain ⟨i2, b1, b2, b3⟩ := z_adj_in hps.1 hps.2 hr1 hp1 ha
        exact l_nA_all hMF b1 b2 b3) ⟨q0, x1, z_adj_symm x2, by rw [x3, d2, z_sub1 (by omega)]; rfl⟩
      rw [hput, q_b6_s, hla, q_b2_s]
      refine Ok.b1 hnr (fun v h => Ok.nm ?_)
      obtain ⟨q, rfl, hq⟩ := h
      rw [nI_1]
      have hqd : a q = nI dd := by rw [hq.2.2.1, d2, z_sub1 (by omega)]; rfl
      refine Ok.weak (ih (i + 1) q _ _ _ _ _ _ _ _ (by omega) (by omega) hq.1 ⟨dd, by omega, hqd, by omega⟩) (fun x hx => ?_)
      obtain ⟨w, w1, w2⟩ := hx
      refine ⟨w, w1, ?_⟩
      rw [show p - i = (p - (i + 1)) + 1 by omega]
      exact ⟨q, hq, w2⟩
  unfold f_Walk_onTheWay
  exact Ok.nm (Ok.b9 (L N 0 k c d v1 v2 v3 v4 v5 v6 (by omega) (by omega) hk hp) (fun _ _ _ _ _ _ _ _ _ h => Ok.ret h))
end S18C
/-! the reference's walk -/
section S18D
variable {R C H V : Nat → Nat} {cr cq dp wd za : Nat → Int32} {N l tot : Nat} {A : Nat → Nat → Prop}
/-- what is not below 0 stays so -/
def z_nb (a b : Int32) : Prop := 0 ≤ a.toInt → 0 ≤ b.toInt
theorem z_nb_r (a : Int32) : z_nb a a := fun h => h
theorem z_nb_t {a b c : Int32} (h1 : z_nb a b) (h2 : z_nb b c) : z_nb a c := fun h => h2 (h1 h)
theorem r_lays2 (g : MOK R C H V cr cq dp wd za) (hN : 50 ≤ N) (hl : l < 5) {r p : Nat} (hr : r ≤ 44 * H l + 1) (hp : p < z_rl (H l) (V l) r) (fb mb : Int32) {i : Nat} (hi : i < 4) : ∃ x, f_M_laysBeside N dp wd za fb mb (nI l) (nI (z_rs (H l) (V l) r + p)) (nI i) = some (x, nI (z_bM (H l) (V l) r p i)) ∧ (z_bM (H l) (V l) r p i ≠ 0 → x = nI (z_bF (H l) (V l) r p i)) ∧ z_nb fb x := by
  have hps := g.2.2.pos l hl
  obtain ⟨x, e, hx⟩ := r_laysBeside (N := N) g hN hl hr hp fb mb hi
  refine ⟨x, e, hx, fun h0 => ?_⟩
  by_cases c : z_bM (H l) (V l) r p i = 0
  · have fin : ∀ y, f_M_laysBeside N dp wd za fb mb (nI l) (nI (z_rs (H l) (V l) r + p)) (nI i) = some (fb, y) → x = fb := by
      intro y t
      rw [e] at t
      exact (Prod.mk.inj (Option.some.inj t)).1
    have e2 : x = fb := by
      rcases (show i = 0 ∨ i = 2 ∨ i = 1 ∨ i = 3 by omega) with rfl | rfl | rfl | rfl
      · rw [z_bM0] at c
        by_cases h : r = 0
        · exact fin _ (m_lays0 g hN hl hr hp fb mb (i := 0) (Or.inl ⟨rfl, h⟩))
        · rw [if_neg h] at c; exact absurd c (Nat.succ_ne_zero _)
      · rw [z_bM2] at c
        by_cases h : r = 44 * H l + 1
        · exact fin _ (m_lays0 g hN hl hr hp fb mb (i := 2) (Or.inr ⟨rfl, h⟩))
        · rw [if_neg h] at c; exact absurd c (Nat.succ_ne_zero _)
      · rw [z_bM1] at c
        by_cases h : r = 0 ∨ r = 44 * H l + 1
        · have t := m_laysH g hN hl hr hp fb mb (i := 1) (Or.inl ⟨rfl, rfl⟩)
          rw [if_pos ((z_rl1 hps.1 hps.2 hr).mpr h)] at t
          exact fin _ t
        · rw [if_neg h] at c; omega
      · rw [z_bM3] at c
        by_cases h : r = 0 ∨ r = 44 * H l + 1
        · have t := m_laysH g hN hl hr hp fb mb (i := 3) (Or.inr ⟨rfl, rfl⟩)
          rw [if_pos ((z_rl1 hps.1 hps.2 hr).mpr h)] at t
          exact fin _ t
        · rw [if_neg h] at c; omega
    rw [e2]; exact h0
  · have h2 := ((l_MF_of g.2.2 hl hr hp).2 i hi).2 c
    rw [hx c, nI_toInt (by omega)]
    omega
theorem r_meets (ht : tot ≤ 20000) {src key dk i e k : Nat} {f qu : Nat → Int32} (h : z_bi A tot src key dk i f qu e) (hk : k < tot) (hA : A key k) : Ok (f_M_meets f qu (nI e) (nI k) (nI (dk + 1))) (fun y => ∃ e2, y.2.2 = nI e2 ∧ z_bi A tot src key dk i y.1 y.2.1 e2 ∧ (∀ q, f q ≠ -1 → y.1 q ≠ -1) ∧ y.1 k ≠ -1) := by
  obtain ⟨-, -, hde, he, -⟩ := z_bi_f h
  unfold f_M_meets
  refine Ok.ain (by omega) (by decide) (Ok.ite (fun hm => ?_) (fun hm => Ok.ret ⟨e, rfl, h, fun _ z => z, hm⟩))
  obtain ⟨hlt, h2⟩ := z_bi_meet ht h hk hA hm
  refine Ok.asn (by omega) (by decide) (Ok.asn (by omega) (by decide) (Ok.nm (Ok.ret ⟨e + 1, nI_1 e, h2, fun q hq => ?_, ?_⟩)))
  · dsimp only
    rw [z_updN (fun z => hq (by rw [z]; exact hm))]; exact hq
  · dsimp only
    rw [z_updS]; exact z_nIm1 (by omega)
theorem r_steps_L74 (ht : tot ≤ 20000) {src key dk q F M : Nat} {x : Int32} (hx : M ≠ 0 → x = nI F) (hF : M ≠ 0 → F + M ≤ tot) (hA : ∀ j, j < M → A key (F + j)) : ∀ n i e (f qu : Nat → Int32), i ≤ M → M - i < n → z_bi A tot src key dk q f qu e → (∀ j, j < i → f (F + j) ≠ -1) →
    Ok (f_M_laysSteps_L74 (nI key) x (nI M) n (nI i) f qu (nI e)) (fun y => ∃ e2, y.2.2 = nI e2 ∧ z_bi A tot src key dk q y.1 y.2.1 e2 ∧ (∀ q, f q ≠ -1 → y.1 q ≠ -1) ∧ ∀ j, j < M → y.1 (F + j) ≠ -1) := by
  intro n
  induction n with
  | zero => intro i e f qu _ h; omega
  | succ n ih =>
    intro i e f qu hi hn hb hf
    obtain ⟨hk, hkf, hde, he, -⟩ := z_bi_f hb
    have hMb : M ≤ 20000 := by
      rcases Nat.eq_zero_or_pos M with z | z
      · omega
      · have := hF (by omega); omega
    rw [f_M_laysSteps_L74]
    refine Ok.ite (fun hc => Ok.ret ⟨e, rfl, hb, fun _ z => z, fun j hj => hf j ?_⟩) (fun hc => ?_)
    all_goals rw [nI_leI (by omega) (by omega)] at hc
    · omega
    · have hx' := hx (by omega)
      have hF' := hF (by omega)
      subst hx'
      refine Ok.ain (by omega) (by decide) ?_
      rw [hkf, nI_1, nI_add]
      refine Ok.b3 (r_meets ht hb (k := F + i) (by omega) (hA i (by omega))) (fun f2 q2 v h => Ok.nm ?_)
      obtain ⟨e2, h1, h2, h3, h4⟩ := h
      dsimp only at h1 h2 h3 h4
      subst h1
      rw [nI_1]
      refine Ok.weak (ih (i + 1) e2 f2 q2 (by omega) (by omega) h2 (fun j hj => ?_)) (fun y hy => ?_)
      · by_cases ej : j = i
        · subst ej; exact h4
        · exact h3 _ (hf j (by omega))
      · obtain ⟨e3, y1, y2, y3, y4⟩ := hy
        exact ⟨e3, y1, y2, fun q hq => y3 q (h3 q hq), y4⟩
theorem r_steps_L56 (g : MOK R C H V cr cq dp wd za) (hN : 1000000 ≤ N) (hl : l < 5) (ht : tot = 2130 * (H l * V l) + 2) (ht2 : tot ≤ 20000) {src key dk q r p : Nat} (hr : r ≤ 44 * H l + 1) (hp : p < z_rl (H l) (V l) r) (hkk : key = z_rs (H l) (V l) r + p) : ∀ n i e (a b : Int32) (f qu : Nat → Int32), i ≤ 4 → 4 - i < n → z_bi (z_adj (H l) (V l)) tot src key dk q f qu e → (∀ i2, i2 < i → ∀ j, j < z_bM (H l) (V l) r p i2 → f (z_bF (H l) (V l) r p i2 + j) ≠ -1) →
    Ok (f_M_laysSteps_L56 N dp wd za (nI l) (nI key) n (nI i) a b f qu (nI e)) (fun y => ∃ e2, y.2.2.2.2 = nI e2 ∧ z_bi (z_adj (H l) (V l)) tot src key dk q y.2.2.1 y.2.2.2.1 e2 ∧ (∀ i2, i2 < 4 → ∀ j, j < z_bM (H l) (V l) r p i2 → y.2.2.1 (z_bF (H l) (V l) r p i2 + j) ≠ -1) ∧ z_nb a y.1) := by
  have hps := g.2.2.pos l hl
  intro n
  induction n with
  | zero => intro i e a b f qu _ h; omega
  | succ n ih =>
    intro i e a b f qu hi hn hb hf
    rw [f_M_laysSteps_L56]
    refine Ok.ite (fun hc => Ok.ret ⟨e, rfl, hb, fun i2 hi2 => hf i2 ?_, z_nb_r a⟩) (fun hc => ?_)
    all_goals rw [z_i 4, nI_leI (by omega) (by omega)] at hc
    · omega
    obtain ⟨x, e1, hx, hnb⟩ := r_lays2 (N := N) g (by omega) hl hr hp a b (i := i) (by omega)
    rw [hkk, e1, q_b2_s, z_nm, ← hkk]
    refine Ok.b3 (r_steps_L74 (A := z_adj (H l) (V l)) (F := z_bF (H l) (V l) r p i) ht2 hx (fun z => by rw [ht]; exact (z_bB hps.1 hps.2 hr hp (show i < 4 by omega)).2 z) (fun j hj => by rw [hkk]; exact z_adj_of hps.1 hps.2 hr hp (by omega) hj) N 0 e f qu (by omega) (by have := (z_bB hps.1 hps.2 hr hp (show i < 4 by omega)).1; have := g.2.2.hv hl; omega) hb (fun j hj => by omega)) (fun f2 q2 v h => Ok.nm ?_)
    obtain ⟨e2, h1, h2, h3, h4⟩ := h
    dsimp only at h1 h2 h3 h4
    subst h1
    rw [nI_1]
    refine Ok.weak (ih (i + 1) e2 _ _ f2 q2 (by omega) (by omega) h2 (fun i2 hi2 j hj => ?_)) (fun y hy => ?_)
    · by_cases ei : i2 = i
      · subst ei; exact h4 j hj
      · exact h3 _ (hf i2 (by omega) j hj)
    · obtain ⟨e3, z1, z2, z3, z4⟩ := hy
      exact ⟨e3, z1, z2, z3, z_nb_t hnb z4⟩
theorem r_steps_L37 (g : MOK R C H V cr cq dp wd za) (hN : 1000000 ≤ N) (hl : l < 5) (ht : tot = 2130 * (H l * V l) + 2) (ht2 : tot ≤ 20000) {src : Nat} : ∀ n i e (a b : Int32) (f qu : Nat → Int32), i ≤ tot → tot - i < n → z_bx (z_adj (H l) (V l)) tot src i f qu e →
    Ok (f_M_laysSteps_L37 N dp wd za (nI l) n (nI i) a b f qu (nI e)) (fun y => z_S (z_adj (H l) (V l)) tot src y.2.2.1 ∧ z_nb a y.1) := by
  have hps := g.2.2.pos l hl
  intro n
  induction n with
  | zero => intro i e a b f qu _ h; omega
  | succ n ih =>
    intro i e a b f qu hi hn hb
    have he := z_bx_e hb
    rw [f_M_laysSteps_L37]
    refine Ok.ite (fun hc => Ok.ret ⟨z_bx_end ht2 hb ?_, z_nb_r a⟩) (fun hc => ?_)
    all_goals rw [nI_leI (by omega) (by omega)] at hc
    · exact hc
    obtain ⟨key, dk, hbi, hq⟩ := z_bx_at hb (show i < e by omega)
    obtain ⟨hk, -, -, -, -⟩ := z_bi_f hbi
    obtain ⟨r, p, hr1, hp1, hkk, -, -⟩ := t_spot (N := N) g (by omega) hl (k := key) (by omega)
    refine Ok.ain (by omega) (by decide) ?_
    rw [hq, z_nm]
    refine Ok.b5 (r_steps_L56 g hN hl ht ht2 hr1 hp1 hkk N 0 e a b f qu (by omega) (by omega) hbi (fun i2 hi2 => by omega)) (fun x1 x2 f2 q2 v h => Ok.nm ?_)
    obtain ⟨e2, h1, h2, h3, h4⟩ := h
    dsimp only at h1 h2 h3 h4
    subst h1
    rw [nI_1]
    refine Ok.weak (ih (i + 1) e2 _ _ f2 q2 (by omega) (by omega) (z_bi_next h2 (fun k2 hk2 ha => ?_))) (fun y hy => ⟨hy.1, z_nb_t h4 hy.2⟩)
    rw [hkk] at ha
    obtain ⟨i2, b1, b2, b3⟩ := z_adj_in hps.1 hps.2 hr1 hp1 ha
    have := h3 i2 b1 (k2 - z_bF (H l) (V l) r p i2) (by omega)
    rw [show z_bF (H l) (V l) r p i2 + (k2 - z_bF (H l) (V l) r p i2) = k2 by omega] at this
    exact this
theorem r_laysSteps (g : MOK R C H V cr cq dp wd za) (hN : 1000000 ≤ N) (hl : l < 5) (ht : tot = 2130 * (H l * V l) + 2) (ht2 : tot ≤ 20000) {k : Nat} (hk : k < tot) (a b : Int32) (f qu : Nat → Int32) (m : Int32) : Ok (f_M_laysSteps N dp wd za a b f qu m (nI l) (nI k)) (fun y => z_S (z_adj (H l) (V l)) tot k y.2.2.1 ∧ z_nb a y.1) := by
  unfold f_M_laysSteps
  rw [z_nm]
  refine Ok.b1 (s_steps_L2 g hl ht ht2 N 0 f (by omega) (by omega) (fun j hj => by omega)) (fun f4 h4 => ?_)
  have hm : f_M_meets f4 qu 0 (nI k) 0 = some (upd f4 k (nI 0), upd qu 0 (nI k), nI 1) := by
    unfold f_M_meets
    rw [z_ai (by omega) (by decide), if_pos (h4 k hk), z_as (by omega) (by decide), show (0 : Int32) = nI 0 from rfl, z_as (by omega) (by decide), z_nm, nI_1]
  rw [hm, q_b3_s, z_nm]
  exact Ok.b5 (r_steps_L37 g hN hl ht ht2 N 0 1 a b _ _ (by omega) (by omega) (z_bx_0 hk h4)) (fun _ _ _ _ _ h => Ok.ret h)
/-- the least of those that are P -/
def z_bs (P : Nat → Prop) (v : Int32) : Prop := (v = -1 ∧ ∀ q, ¬ P q) ∨ ∃ q, q < 2 ^ 31 ∧ v = nI q ∧ P q ∧ ∀ q2, P q2 → q ≤ q2
theorem z_bs_iff {P P2 : Nat → Prop} {v : Int32} (h : ∀ q, P q ↔ P2 q) (hv : z_bs P v) : z_bs P2 v := by
  rcases hv with ⟨a, b⟩ | ⟨q, a, b, c, d⟩
  · exact Or.inl ⟨a, fun q z => b q ((h q).mpr z)⟩
  · exact Or.inr ⟨q, a, b, (h q).mp c, fun q2 z => d q2 ((h q2).mpr z)⟩
theorem r_near_L22 (ht : tot ≤ 20000) {f : Nat → Int32} {key F M : Nat} {x : Int32} (hk : key < tot) (hx : M ≠ 0 → x = nI F) (hF : M ≠ 0 → F + M ≤ tot) : ∀ n i (v : Int32) (P : Nat → Prop), i ≤ M → M - i < n → z_bs P v →
    Ok (f_M_nearer_L22 f (nI key) x (nI M) n v (nI i)) (z_bs (fun q => P q ∨ ∃ j, i ≤ j ∧ j < M ∧ q = F + j ∧ f q = f key - 1)) := by
  have hMb : M ≤ 20000 := by
    rcases Nat.eq_zero_or_pos M with z | z
    · omega
    · have := hF (by omega); omega
  intro n
  induction n with
  | zero => intro i v P _ h; omega
  | succ n ih =>
    intro i v P hi hn hv
    rw [f_M_nearer_L22]
    refine Ok.ite (fun hc => Ok.ret (z_bs_iff (fun q => ⟨Or.inl, fun z => ?_⟩) hv)) (fun hc => ?_)
    all_goals rw [nI_leI (by omega) (by omega)] at hc
    · rcases z with z | ⟨j, j1, j2, -⟩
      · exact z
      · omega
    have hF := hF (by omega)
    have hx := hx (by omega)
    subst hx
    have next : ∀ w, z_bs (fun q => P q ∨ (q = F + i ∧ f q = f key - 1)) w → Ok (q_nm (nI i + 1 : Int32) (fun (v21 : Int32) => f_M_nearer_L22 f (nI key) (nI F) (nI M) n w v21)) (z_bs (fun q => P q ∨ ∃ j, i ≤ j ∧ j < M ∧ q = F + j ∧ f q = f key - 1)) := by
      intro w hw
      rw [z_nm, nI_1]
      refine Ok.weak (ih (i + 1) w _ (by omega) (by omega) hw) (fun y hy => z_bs_iff (fun q => ⟨fun z => ?_, fun z => ?_⟩) hy)
      · rcases z with (z | ⟨z1, z2⟩) | ⟨j, j1, j2, j3, j4⟩
        · exact Or.inl z
        · exact Or.inr ⟨i, Nat.le_refl i, by omega, z1, z2⟩
        · exact Or.inr ⟨j, by omega, j2, j3, j4⟩
      · rcases z with z | ⟨j, j1, j2, j3, j4⟩
        · exact Or.inl (Or.inl z)
        · by_cases ej : j = i
          · subst ej; exact Or.inl (Or.inr ⟨j3, j4⟩)
          · exact Or.inr ⟨j, by omega, j2, j3, j4⟩
    rw [nI_add, z_nm]
    refine Ok.ain (by omega) (by decide) (Ok.ain (by omega) (by decide) ?_)
    rw [z_j1]
    dsimp only
    by_cases hg : f (F + i) = f key - 1
    · rw [if_pos hg, z_j0]
      rcases hv with ⟨rfl, hv⟩ | ⟨q0, b1, rfl, b3, b4⟩
      · rw [if_pos rfl]
        refine next _ (Or.inr ⟨F + i, by omega, rfl, Or.inr ⟨rfl, hg⟩, fun q2 z => ?_⟩)
        rcases z with z | ⟨z, -⟩
        · exact absurd z (hv q2)
        · omega
      · rw [if_neg (z_nIm1 b1)]
        by_cases hle : q0 ≤ F + i
        · rw [if_pos (by rw [nI_leI b1 (by omega)]; exact hle)]
          refine next _ (Or.inr ⟨q0, b1, rfl, Or.inl b3, fun q2 z => ?_⟩)
          rcases z with z | ⟨z, -⟩
          · exact b4 q2 z
          · omega
        · rw [if_neg (by rw [nI_leI b1 (by omega)]; exact hle)]
          refine next _ (Or.inr ⟨F + i, by omega, rfl, Or.inr ⟨rfl, hg⟩, fun q2 z => ?_⟩)
          rcases z with z | ⟨z, -⟩
          · have := b4 q2 z; omega
          · omega
    · rw [if_neg hg]
      refine next v (z_bs_iff (fun q => ⟨Or.inl, fun z => ?_⟩) hv)
      rcases z with z | ⟨rfl, z⟩
      · exact z
      · exact absurd z hg
theorem r_near_L5 (g : MOK R C H V cr cq dp wd za) (hN : 1000000 ≤ N) (hl : l < 5) (ht : tot = 2130 * (H l * V l) + 2) (ht2 : tot ≤ 20000) {f : Nat → Int32} {key r p : Nat} (hk : key < tot) (hr : r ≤ 44 * H l + 1) (hp : p < z_rl (H l) (V l) r) (hkk : key = z_rs (H l) (V l) r + p) : ∀ n i (v a b : Int32) (P : Nat → Prop), i ≤ 4 → 4 - i < n → z_bs P v →
    Ok (f_M_nearer_L5 N dp f wd za (nI l) (nI key) n v (nI i) a b) (fun y => z_bs (fun q => P q ∨ ∃ i2 j, i ≤ i2 ∧ i2 < 4 ∧ j < z_bM (H l) (V l) r p i2 ∧ q = z_bF (H l) (V l) r p i2 + j ∧ f q = f key - 1) y.1 ∧ z_nb a y.2.1) := by
  have hps := g.2.2.pos l hl
  intro n
  induction n with
  | zero => intro i v a b P _ h; omega
  | succ n ih =>
    intro i v a b P hi hn hv
    rw [f_M_nearer_L5]
    refine Ok.ite (fun hc => Ok.ret ⟨z_bs_iff (fun q => ⟨Or.inl, fun z => ?_⟩) hv, z_nb_r a⟩) (fun hc => ?_)
    all_goals rw [z_i 4, nI_leI (by omega) (by omega)] at hc
    · rcases z with z | ⟨i2, j, j1, j2, -⟩
      · exact z
      · omega
    obtain ⟨x, e1, hx, hnb⟩ := r_lays2 (N := N) g (by omega) hl hr hp a b (i := i) (by omega)
    rw [hkk, e1, q_b2_s, z_nm, ← hkk]
    refine Ok.b1 (r_near_L22 (F := z_bF (H l) (V l) r p i) ht2 hk hx (fun z => by rw [ht]; exact (z_bB hps.1 hps.2 hr hp (show i < 4 by omega)).2 z) N 0 v P (by omega) (by have := (z_bB hps.1 hps.2 hr hp (show i < 4 by omega)).1; have := g.2.2.hv hl; omega) hv) (fun w hw => Ok.nm ?_)
    rw [nI_1]
    refine Ok.weak (ih (i + 1) w _ _ _ (by omega) (by omega) hw) (fun y hy => ⟨z_bs_iff (fun q => ⟨fun z => ?_, fun z => ?_⟩) hy.1, z_nb_t hnb hy.2⟩)
    · rcases z with (z | ⟨j, -, j2, j3, j4⟩) | ⟨i2, j, j1, j2, j3, j4, j5⟩
      · exact Or.inl z
      · exact Or.inr ⟨i, j, Nat.le_refl i, by omega, j2, j3, j4⟩
      · exact Or.inr ⟨i2, j, by omega, j2, j3, j4, j5⟩
    · rcases z with z | ⟨i2, j, j1, j2, j3, j4, j5⟩
      · exact Or.inl (Or.inl z)
      · by_cases ei : i2 = i
        · subst ei; exact Or.inl (Or.inr ⟨j, Nat.zero_le j, j3, j4, j5⟩)
        · exact Or.inr ⟨i2, j, by omega, j2, j3, j4, j5⟩
theorem r_nearerM (g : MOK R C H V cr cq dp wd za) (hN : 1000000 ≤ N) (hl : l < 5) (ht : tot = 2130 * (H l * V l) + 2) (ht2 : tot ≤ 20000) {f : Nat → Int32} {key : Nat} (hk : key < tot) (hx : ∃ q, q < tot ∧ z_adj (H l) (V l) key q ∧ f q = f key - 1) (a b : Int32) : Ok (f_M_nearer N dp wd za a b f (nI l) (nI key)) (fun y => (∃ q, y.1 = nI q ∧ z_nx (z_adj (H l) (V l)) tot f key q) ∧ z_nb a y.2.1) := by
  have hps := g.2.2.pos l hl
  obtain ⟨r, p, hr1, hp1, hkk, -, -⟩ := t_spot (N := N) g (by omega) hl (k := key) (by omega)
  obtain ⟨q0, x1, x2, x3⟩ := hx
  have all : ∀ q, z_adj (H l) (V l) key q → f q = f key - 1 → ∃ i2 j, 0 ≤ i2 ∧ i2 < 4 ∧ j < z_bM (H l) (V l) r p i2 ∧ q = z_bF (H l) (V l) r p i2 + j ∧ f q = f key - 1 := by
    intro q ha hf
    rw [hkk] at ha
    obtain ⟨i2, b1, b2, b3⟩ := z_adj_in hps.1 hps.2 hr1 hp1 ha
    exact ⟨i2, q - z_bF (H l) (V l) r p i2, by omega, b1, by omega, by omega, hf⟩
  unfold f_M_nearer
  rw [z_nm, z_nm]
  refine Ok.b3 (r_near_L5 g hN hl ht ht2 hk hr1 hp1 hkk N 0 (-1) a b (fun _ => False) (by omega) (by omega) (Or.inl ⟨rfl, fun _ z => z⟩)) (fun y1 y2 y3 hy => Ok.ret ⟨?_, hy.2⟩)
  rcases hy.1 with ⟨-, z⟩ | ⟨q, q1, q2, q3, q4⟩
  · exact absurd (Or.inr (all q0 x2 x3)) (z q0)
  · refine ⟨q, q2, ?_⟩
    rcases q3 with z | ⟨i2, j, -, c2, c3, c4, c5⟩
    · exact absurd z (fun z => z)
    · have hb := (z_bB hps.1 hps.2 hr1 hp1 c2).2 (by omega)
      have ha := z_adj_of hps.1 hps.2 hr1 hp1 c2 c3
      rw [← hkk, ← c4] at ha
      exact ⟨by omega, ha, c5, fun q5 z1 z2 z3 => q4 q5 (Or.inr (all q5 z2 z3))⟩
theorem r_way_L (g : MOK R C H V cr cq dp wd za) (hN : 1000000 ≤ N) (hl : l < 5) (ht : tot = 2130 * (H l * V l) + 2) (ht2 : tot ≤ 20000) {src : Nat} {f : Nat → Int32} (hS : z_S (z_adj (H l) (V l)) tot src f) {p : Nat} (hp : p ≤ tot) : ∀ n i key (a b : Int32), i ≤ p → p - i < n → key < tot → (∃ d, d < tot ∧ f key = nI d ∧ p - i ≤ d) → Ok (f_M_way_L62 N f dp wd za (nI l) (nI p) n (nI key) (nI i) a b) (fun y => (∃ q, y.1 = nI q ∧ z_wy (z_adj (H l) (V l)) tot f (p - i) key q) ∧ z_nb a y.2.1) := by
  intro n
  induction n with
  | zero => intro i key a b _ h; omega
  | succ n ih =>
    intro i key a b hi hn hk hf
    rw [f_M_way_L62]
    refine Ok.ite (fun hc => Ok.ret ⟨⟨key, rfl, ?_⟩, z_nb_r a⟩) (fun hc => ?_)
    all_goals rw [nI_leI (by omega) (by omega)] at hc
    · rw [show p - i = 0 by omega]; exact Eq.refl key
    obtain ⟨d, d1, d2, d3⟩ := hf
    obtain ⟨d, rfl⟩ : ∃ x, d = x + 1 := ⟨d - 1, by omega⟩
    obtain ⟨q0, x1, x2, x3⟩ := hS.2.2.2.1 key hk d (by omega) d2
    refine Ok.b3 (r_nearerM g hN hl ht ht2 hk ⟨q0, x1, z_adj_symm x2, by rw [x3, d2, z_sub1 (by omega)]; rfl⟩ a b) (fun y1 y2 y3 hy => Ok.nm ?_)
    obtain ⟨⟨q, q1, hq⟩, hnb⟩ := hy
    dsimp only at q1 hnb
    subst q1
    rw [nI_1]
    have hqd : f q = nI d := by rw [hq.2.2.1, d2, z_sub1 (by omega)]; rfl
    refine Ok.weak (ih (i + 1) q _ _ (by omega) (by omega) hq.1 ⟨d, by omega, hqd, by omega⟩) (fun x hx => ?_)
    obtain ⟨⟨w, w1, w2⟩, w3⟩ := hx
    refine ⟨⟨w, w1, ?_⟩, z_nb_t hnb w3⟩
    rw [show p - i = (p - (i + 1)) + 1 by omega]
    exact ⟨q, hq, w2⟩
end S18D
/-! what steps, way, reach, farthest answer -/
section S18E
variable {rc cc br zc rw sh cr cq dp wd za fl fk fy : Nat → Int32} {sv : l_T} {N l ns : Nat}
def l_tt (sv : l_T) (l : Nat) : Nat := 2130 * (z_pr (l_R sv) l * z_pr (l_C sv) l) + 2
def l_adj (sv : l_T) (l : Nat) : Nat → Nat → Prop := z_adj (z_pr (l_R sv) l) (z_pr (l_C sv) l)
/-- two sheets of a level -/
def l_w2 (sv : l_T) (p q r : Int32) (l a b : Nat) : Prop := l < 5 ∧ p = nI l ∧ q = nI a ∧ r = nI b ∧ a < l_tt sv l ∧ b < l_tt sv l
def l_hs2 (sv : l_T) (p q r : Int32) : Prop := z_hs (z_pr (l_R sv)) (z_pr (l_C sv)) p q ∧ z_hs (z_pr (l_R sv)) (z_pr (l_C sv)) p r
theorem l_w2_ex {p q r : Int32} (h : l_hs2 sv p q r) : ∃ l a b, l_w2 sv p q r l a b := by
  obtain ⟨⟨l, a, hl, rfl, rfl, ha⟩, ⟨l2, b, hl2, el, rfl, hb⟩⟩ := h
  have : l = l2 := by rw [nI_eq (by omega) (by omega)] at el; exact el
  subst this
  exact ⟨l, a, b, hl, rfl, rfl, rfl, ha, hb⟩
theorem l_w2_hs {p q r : Int32} {l a b : Nat} (h : l_w2 sv p q r l a b) : l_hs2 sv p q r := ⟨⟨l, a, h.1, h.2.1, h.2.2.1, h.2.2.2.2.1⟩, ⟨l, b, h.1, h.2.1, h.2.2.2.1, h.2.2.2.2.2⟩⟩
/-- an answer about two sheets: what is refused, else what they give -/
def l_rl2 (sv : l_T) (p q r : Int32) (C : Prop) (Q : Nat → Nat → Nat → Int32 → Prop) (x : Int32) : Prop := (¬ (l_hs2 sv p q r ∧ C) ∧ x = -1) ∨ (C ∧ ∃ l a b, l_w2 sv p q r l a b ∧ Q l a b x)
theorem l_rl2N {p q r : Int32} {C : Prop} {Q : Nat → Nat → Nat → Int32 → Prop} (h : ¬ (l_hs2 sv p q r ∧ C)) : l_rl2 sv p q r C Q (-1) := Or.inl ⟨h, rfl⟩
theorem l_rl2Y {p q r x : Int32} {C : Prop} {Q : Nat → Nat → Nat → Int32 → Prop} (h : C) {l a b : Nat} (hw : l_w2 sv p q r l a b) (hq : Q l a b x) : l_rl2 sv p q r C Q x := Or.inr ⟨h, l, a, b, hw, hq⟩
theorem l_tt_b (h : l_ok sv) (hl : l < 5) : l_tt sv l ≤ 20000000 := h.1.sh hl
theorem l_rl2_one {p q r x x2 : Int32} {C : Prop} {Q : Nat → Nat → Nat → Int32 → Prop} (h : l_ok sv) (hQ : ∀ l a b x x2, l < 5 → a < l_tt sv l → b < l_tt sv l → Q l a b x → Q l a b x2 → x = x2) (h1 : l_rl2 sv p q r C Q x) (h2 : l_rl2 sv p q r C Q x2) : x = x2 := by
  rcases h1 with ⟨a1, rfl⟩ | ⟨c1, l, a, b, w1, q1⟩ <;> rcases h2 with ⟨a2, rfl⟩ | ⟨c2, l', a', b', w2, q2⟩
  · rfl
  · exact absurd ⟨l_w2_hs w2, c2⟩ a1
  · exact absurd ⟨l_w2_hs w1, c1⟩ a2
  · obtain ⟨hl, rfl, rfl, rfl, ha, hb⟩ := w1
    obtain ⟨hl', e1, e2, e3, ha', hb'⟩ := w2
    have t1 := l_tt_b h hl
    have t2 := l_tt_b h hl'
    rw [nI_eq (by omega) (by omega)] at e1 e2 e3
    subst e1 e2 e3
    exact hQ l a b x x2 hl ha hb q1 q2
/-- -3 where there are too many sheets -/
def l_fw (sv : l_T) (l : Nat) (x : Int32) (P : Prop) : Prop := (20000 < l_tt sv l ∧ x = -3) ∨ (l_tt sv l ≤ 20000 ∧ P)
theorem l_fw_one {x x2 : Int32} {P P2 : Prop} (h1 : l_fw sv l x P) (h2 : l_fw sv l x2 P2) (h : l_tt sv l ≤ 20000 → P → P2 → x = x2) : x = x2 := by
  rcases h1 with ⟨a, rfl⟩ | ⟨a, b⟩ <;> rcases h2 with ⟨c, rfl⟩ | ⟨c, d⟩
  · rfl
  · omega
  · omega
  · exact h a b d
def l_Qsteps (sv : l_T) (l a b : Nat) (x : Int32) : Prop := l_fw sv l x (∃ f, (z_S (l_adj sv l) (l_tt sv l) a f ∧ x = f b) ∨ (z_S (l_adj sv l) (l_tt sv l) b f ∧ x = f a))
def l_Qway (sv : l_T) (i : Int32) (l a b : Nat) (x : Int32) : Prop := l_fw sv l x (∃ f, z_S (l_adj sv l) (l_tt sv l) b f ∧ ((¬ i ≤ f a ∧ x = -2) ∨ (i ≤ f a ∧ ∃ k, z_wy (l_adj sv l) (l_tt sv l) f i.toInt.toNat a k ∧ x = nI k)))
def l_Qreach (sv : l_T) (i : Int32) (l a _b : Nat) (x : Int32) : Prop := l_fw sv l x (∃ f, z_S (l_adj sv l) (l_tt sv l) a f ∧ x = nI (z_cnl f i (l_tt sv l)))
def l_Qfar (sv : l_T) (i : Int32) (l a _b : Nat) (x : Int32) : Prop := l_fw sv l x (∃ f, z_S (l_adj sv l) (l_tt sv l) a f ∧ x = if i = 0 then f (z_far f (l_tt sv l)) else nI (z_far f (l_tt sv l)))
def l_asteps (sv : l_T) (p q r x : Int32) : Prop := l_rl2 sv p q r True (l_Qsteps sv) x
def l_away (sv : l_T) (p q r i x : Int32) : Prop := l_rl2 sv p q r (0 ≤ i) (l_Qway sv i) x
def l_areach (sv : l_T) (p q i x : Int32) : Prop := l_rl2 sv p q q (0 ≤ i) (l_Qreach sv i) x
def l_afarthest (sv : l_T) (p q i x : Int32) : Prop := l_rl2 sv p q q (0 ≤ i.toInt ∧ i.toInt ≤ 1) (l_Qfar sv i) x
theorem l_asteps_one {p q r x x2 : Int32} (h : l_ok sv) (h1 : l_asteps sv p q r x) (h2 : l_asteps sv p q r x2) : x = x2 := by
  refine l_rl2_one (Q := l_Qsteps sv) h (fun l a b x x2 hl ha hb q1 q2 => l_fw_one q1 q2 (fun ht z1 z2 => ?_)) h1 h2
  have sy : ∀ k k2, l_adj sv l k k2 → l_adj sv l k2 k := fun _ _ z => z_adj_symm z
  obtain ⟨f, z1⟩ := z1
  obtain ⟨g, z2⟩ := z2
  rcases z1 with ⟨s1, rfl⟩ | ⟨s1, rfl⟩ <;> rcases z2 with ⟨s2, rfl⟩ | ⟨s2, rfl⟩
  · exact z_S_one ht s1 s2 b hb
  · exact z_S_both ht sy ha hb s1 s2
  · exact (z_S_both ht sy ha hb s2 s1).symm
  · exact z_S_one ht s1 s2 a ha
theorem l_away_one {p q r i x x2 : Int32} (h : l_ok sv) (h1 : l_away sv p q r i x) (h2 : l_away sv p q r i x2) : x = x2 := by
  refine l_rl2_one (Q := l_Qway sv i) h (fun l a b x x2 hl ha hb q1 q2 => l_fw_one q1 q2 (fun ht z1 z2 => ?_)) h1 h2
  obtain ⟨f, s1, z1⟩ := z1
  obtain ⟨g, s2, z2⟩ := z2
  have e := z_S_one ht s1 s2
  rw [← e a ha] at z2
  rcases z1 with ⟨c1, rfl⟩ | ⟨c1, k, k1, rfl⟩ <;> rcases z2 with ⟨c2, rfl⟩ | ⟨c2, k', k2, rfl⟩
  · rfl
  · exact absurd c2 c1
  · exact absurd c1 c2
  · rw [z_wy_one e _ a k k' ha k1 k2]
theorem l_areach_one {p q i x x2 : Int32} (h : l_ok sv) (h1 : l_areach sv p q i x) (h2 : l_areach sv p q i x2) : x = x2 := by
  refine l_rl2_one (Q := l_Qreach sv i) h (fun l a b x x2 hl ha hb q1 q2 => l_fw_one q1 q2 (fun ht z1 z2 => ?_)) h1 h2
  obtain ⟨f, s1, rfl⟩ := z1
  obtain ⟨g, s2, rfl⟩ := z2
  rw [z_cnl_one i _ (z_S_one ht s1 s2)]
theorem l_afarthest_one {p q i x x2 : Int32} (h : l_ok sv) (h1 : l_afarthest sv p q i x) (h2 : l_afarthest sv p q i x2) : x = x2 := by
  refine l_rl2_one (Q := l_Qfar sv i) h (fun l a b x x2 hl ha hb q1 q2 => l_fw_one q1 q2 (fun ht z1 z2 => ?_)) h1 h2
  obtain ⟨f, s1, rfl⟩ := z1
  obtain ⟨g, s2, rfl⟩ := z2
  have e := z_S_one ht s1 s2
  rw [z_far_one _ e, e _ (z_far_lt g _ (show 1 ≤ l_tt sv l by unfold l_tt; omega))]
end S18E
/-! the class's steps, way, reach, farthest -/
section S18F
variable {rc cc br zc rw sh cr cq dp wd za fl fk fy : Nat → Int32} {sv : l_T} {N l ns : Nat}
theorem a_x_steps (g : GOK (l_R sv) (l_C sv) (z_pr (l_R sv)) (z_pr (l_C sv)) rc cc br zc rw sh) (hN : 3000000 ≤ N) (hs2 : ns < 2 ^ 31) (a b : Nat → Int32) (mm : Int32) (c d : Nat → Int32) (v1 v2 v3 v4 v5 v6 p q r : Int32) : z_or ns (Ok (f_X_steps N ns ns a b mm c d v1 v2 v3 v4 v5 v6 br zc rw sh p q r) (fun x => l_asteps sv p q r x.1)) (fun nL => Ok (f_X_stepsN N nL ns a b mm c d v1 v2 v3 v4 v5 v6 br zc rw sh p q r) (fun x => l_asteps sv p q r x.1)) := by
  obtain ⟨x1, e1, h1⟩ := r_areSheets g p q r
  rcases h1 with ⟨hh, rfl⟩ | ⟨hh, rfl⟩
  rotate_left
  · left; unfold f_X_steps; rw [e1, q_b1_s, if_pos rfl]; exact Ok.ret (l_rl2N (fun z => hh z.1))
  obtain ⟨l, k, k2, hl, rfl, rfl, rfl, hk, hk2⟩ := l_w2_ex hh
  have hw : l_w2 sv (nI l) (nI k) (nI k2) l k k2 := ⟨hl, rfl, rfl, rfl, hk, hk2⟩
  have hsh := g.2.sh hl
  obtain ⟨-, -, -, -, -, e6⟩ := g.at hl
  by_cases ht : 2130 * (z_pr (l_R sv) l * z_pr (l_C sv) l) + 2 ≤ 20000
  · have hle : nI (2130 * (z_pr (l_R sv) l * z_pr (l_C sv) l) + 2) ≤ 20000 := by rw [z_i 20000, nI_leI (by omega) (by omega)]; exact ht
    by_cases hr : 2130 * (z_pr (l_R sv) l * z_pr (l_C sv) l) + 2 ≤ ns
    · left
      unfold f_X_steps
      rw [e1, q_b1_s, if_neg (by decide), z_ai hl (by omega), e6, if_pos hle]
      refine Ok.b11 (r_spread g hN hl ht hr hs2 hk a b c d mm _ _ _ _ _ _) (fun f3 _ _ _ _ _ _ _ _ _ _ h5 => ?_)
      rw [k_stepsTo (Nat.lt_of_lt_of_le hk2 hr) hs2, q_b1_s]
      exact Ok.ret (l_rl2Y trivial hw (Or.inr ⟨ht, f3, Or.inl ⟨h5.2, rfl⟩⟩))
    · right
      refine ⟨2130 * (z_pr (l_R sv) l * z_pr (l_C sv) l) + 2, by omega, ht, ⟨_, rfl⟩, ?_⟩
      dsimp only
      unfold f_X_stepsN
      rw [e1, q_b1_s, if_neg (by decide), z_ai hl (by omega), e6, if_pos hle]
      refine Ok.b11 (r_spreadN g hN hl rfl ht (by omega) hk a b c d mm _ _ _ _ _ _) (fun f3 _ _ _ _ _ _ _ _ _ _ h5 => ?_)
      rw [k_stepsTo (ns := 2130 * (z_pr (l_R sv) l * z_pr (l_C sv) l) + 2) hk2 (by omega), q_b1_s]
      exact Ok.ret (l_rl2Y trivial hw (Or.inr ⟨ht, f3, Or.inl ⟨h5.2, rfl⟩⟩))
  · left
    unfold f_X_steps
    rw [e1, q_b1_s, if_neg (by decide), z_ai hl (by omega), e6, if_neg (by rw [z_i 20000, nI_leI (by omega) (by omega)]; exact ht)]
    exact Ok.ret (l_rl2Y trivial hw (Or.inl ⟨Nat.lt_of_not_le ht, rfl⟩))
theorem a_x_way (g : GOK (l_R sv) (l_C sv) (z_pr (l_R sv)) (z_pr (l_C sv)) rc cc br zc rw sh) (hN : 3000000 ≤ N) (hs2 : ns < 2 ^ 31) (a b : Nat → Int32) (mm : Int32) (c d : Nat → Int32) (v1 v2 v3 v4 v5 v6 p q r i : Int32) : z_or ns (Ok (f_X_way N ns ns a b mm c d v1 v2 v3 v4 v5 v6 br zc rw sh p q r i) (fun x => l_away sv p q r i x.1)) (fun nL => Ok (f_X_wayN N nL ns a b mm c d v1 v2 v3 v4 v5 v6 br zc rw sh p q r i) (fun x => l_away sv p q r i x.1)) := by
  obtain ⟨x1, e1, h1⟩ := r_areSheets g p q r
  rcases h1 with ⟨hh, rfl⟩ | ⟨hh, rfl⟩
  rotate_left
  · left; unfold f_X_way; rw [e1, q_b1_s, if_pos rfl]; exact Ok.ret (l_rl2N (fun z => hh z.1))
  by_cases hi : ¬ 0 ≤ i
  · left; unfold f_X_way; rw [e1, q_b1_s, if_neg (by decide), if_neg hi]; exact Ok.ret (l_rl2N (fun z => hi z.2))
  have hi := Decidable.not_not.mp hi
  have h0 := z_le.mp hi
  rw [show (0 : Int32).toInt = 0 from rfl] at h0
  obtain ⟨j, j1, rfl, j3⟩ := z_nat h0
  have hjt : (nI j).toInt.toNat = j := by rw [j3]; rfl
  obtain ⟨l, k, k2, hl, rfl, rfl, rfl, hk, hk2⟩ := l_w2_ex hh
  have hw : l_w2 sv (nI l) (nI k) (nI k2) l k k2 := ⟨hl, rfl, rfl, rfl, hk, hk2⟩
  have hsh := g.2.sh hl
  obtain ⟨-, -, -, -, -, e6⟩ := g.at hl
  by_cases ht : 2130 * (z_pr (l_R sv) l * z_pr (l_C sv) l) + 2 ≤ 20000
  · have hle : nI (2130 * (z_pr (l_R sv) l * z_pr (l_C sv) l) + 2) ≤ 20000 := by rw [z_i 20000, nI_leI (by omega) (by omega)]; exact ht
    have far : ∀ f3 : Nat → Int32, z_S (z_adj (z_pr (l_R sv) l) (z_pr (l_C sv) l)) (2130 * (z_pr (l_R sv) l * z_pr (l_C sv) l) + 2) k2 f3 → nI j ≤ f3 k → ∃ d, d < 2130 * (z_pr (l_R sv) l * z_pr (l_C sv) l) + 2 ∧ f3 k = nI d ∧ j ≤ d := by
      intro f3 hS hj
      rcases hS.2.1 k hk with z | ⟨d, d1, d2⟩
      · rw [z, z_le, j3, show (-1 : Int32).toInt = -1 from rfl] at hj; omega
      · rw [d2, nI_leI j1 (by omega)] at hj
        exact ⟨d, d1, d2, hj⟩
    by_cases hr : 2130 * (z_pr (l_R sv) l * z_pr (l_C sv) l) + 2 ≤ ns
    · left
      unfold f_X_way
      rw [e1, q_b1_s, if_neg (by decide), if_pos hi, z_ai hl (by omega), e6, if_pos hle]
      refine Ok.b11 (r_spread g hN hl ht hr hs2 hk2 a b c d mm _ _ _ _ _ _) (fun f3 _ v5 _ _ _ _ _ _ _ _ h5 => ?_)
      obtain ⟨h5, hS⟩ := h5
      dsimp only at h5 hS
      subst h5
      rw [k_stepsTo (Nat.lt_of_lt_of_le hk hr) hs2, q_b1_s]
      refine Ok.ite (fun hj => ?_) (fun hj => Ok.ret (l_rl2Y hi hw (Or.inr ⟨ht, f3, hS, Or.inl ⟨hj, rfl⟩⟩)))
      refine Ok.b9 (r_onTheWay g hN hl rfl ht hr hs2 hS hk (far f3 hS hj) _ _ _ _ _ _ _ _) (fun _ _ _ _ _ _ _ _ _ h => ?_)
      obtain ⟨w, w1, w2⟩ := h
      dsimp only at w1
      subst w1
      exact Ok.ret (l_rl2Y hi hw (Or.inr ⟨ht, f3, hS, Or.inr ⟨hj, w, by rw [hjt]; exact w2, rfl⟩⟩))
    · right
      refine ⟨2130 * (z_pr (l_R sv) l * z_pr (l_C sv) l) + 2, by omega, ht, ⟨_, rfl⟩, ?_⟩
      dsimp only
      unfold f_X_wayN
      rw [e1, q_b1_s, if_neg (by decide), if_pos hi, z_ai hl (by omega), e6, if_pos hle]
      refine Ok.b11 (r_spreadN g hN hl rfl ht (by omega) hk2 a b c d mm _ _ _ _ _ _) (fun f3 _ v5 _ _ _ _ _ _ _ _ h5 => ?_)
      obtain ⟨h5, hS⟩ := h5
      dsimp only at h5 hS
      subst h5
      rw [k_stepsTo (ns := 2130 * (z_pr (l_R sv) l * z_pr (l_C sv) l) + 2) hk (by omega), q_b1_s]
      refine Ok.ite (fun hj => ?_) (fun hj => Ok.ret (l_rl2Y hi hw (Or.inr ⟨ht, f3, hS, Or.inl ⟨hj, rfl⟩⟩)))
      refine Ok.b9 (r_onTheWay g hN hl rfl ht (Nat.le_refl _) (by omega) hS hk (far f3 hS hj) _ _ _ _ _ _ _ _) (fun _ _ _ _ _ _ _ _ _ h => ?_)
      obtain ⟨w, w1, w2⟩ := h
      dsimp only at w1
      subst w1
      exact Ok.ret (l_rl2Y hi hw (Or.inr ⟨ht, f3, hS, Or.inr ⟨hj, w, by rw [hjt]; exact w2, rfl⟩⟩))
  · left
    unfold f_X_way
    rw [e1, q_b1_s, if_neg (by decide), if_pos hi, z_ai hl (by omega), e6, if_neg (by rw [z_i 20000, nI_leI (by omega) (by omega)]; exact ht)]
    exact Ok.ret (l_rl2Y hi hw (Or.inl ⟨Nat.lt_of_not_le ht, rfl⟩))
theorem a_x_reach (g : GOK (l_R sv) (l_C sv) (z_pr (l_R sv)) (z_pr (l_C sv)) rc cc br zc rw sh) (hN : 3000000 ≤ N) (hs2 : ns < 2 ^ 31) (a b : Nat → Int32) (mm : Int32) (c d : Nat → Int32) (v1 v2 v3 v4 v5 v6 p q i : Int32) : z_or ns (Ok (f_X_reach N ns ns a b mm c d v1 v2 v3 v4 v5 v6 br zc rw sh p q i) (fun x => l_areach sv p q i x.1)) (fun nL => Ok (f_X_reachN N nL ns a b mm c d v1 v2 v3 v4 v5 v6 br zc rw sh p q i) (fun x => l_areach sv p q i x.1)) := by
  obtain ⟨x1, e1, h1⟩ := r_hasSheet g p q
  rcases h1 with ⟨hh, rfl⟩ | ⟨hh, rfl⟩
  rotate_left
  · left; unfold f_X_reach; rw [e1, q_b1_s, if_pos rfl]; exact Ok.ret (l_rl2N (fun z => hh z.1.1))
  by_cases hi : ¬ 0 ≤ i
  · left; unfold f_X_reach; rw [e1, q_b1_s, if_neg (by decide), if_neg hi]; exact Ok.ret (l_rl2N (fun z => hi z.2))
  have hi := Decidable.not_not.mp hi
  obtain ⟨l, k, hl, rfl, rfl, hk⟩ := hh
  have hw : l_w2 sv (nI l) (nI k) (nI k) l k k := ⟨hl, rfl, rfl, rfl, hk, hk⟩
  have hsh := g.2.sh hl
  obtain ⟨-, -, -, -, -, e6⟩ := g.at hl
  by_cases ht : 2130 * (z_pr (l_R sv) l * z_pr (l_C sv) l) + 2 ≤ 20000
  · have hle : nI (2130 * (z_pr (l_R sv) l * z_pr (l_C sv) l) + 2) ≤ 20000 := by rw [z_i 20000, nI_leI (by omega) (by omega)]; exact ht
    by_cases hr : 2130 * (z_pr (l_R sv) l * z_pr (l_C sv) l) + 2 ≤ ns
    · left
      unfold f_X_reach
      rw [e1, q_b1_s, if_neg (by decide), if_pos hi, z_ai hl (by omega), e6, if_pos hle]
      refine Ok.b11 (r_spread g hN hl ht hr hs2 hk a b c d mm _ _ _ _ _ _) (fun f3 _ v5 _ _ _ _ _ _ _ _ h5 => ?_)
      obtain ⟨h5, hS⟩ := h5
      dsimp only at h5 hS
      subst h5
      refine Ok.b1 (r_within (by omega) hr hs2 i f3) (fun v h => ?_)
      subst h
      exact Ok.ret (l_rl2Y hi hw (Or.inr ⟨ht, f3, hS, rfl⟩))
    · right
      refine ⟨2130 * (z_pr (l_R sv) l * z_pr (l_C sv) l) + 2, by omega, ht, ⟨_, rfl⟩, ?_⟩
      dsimp only
      unfold f_X_reachN
      rw [e1, q_b1_s, if_neg (by decide), if_pos hi, z_ai hl (by omega), e6, if_pos hle]
      refine Ok.b11 (r_spreadN g hN hl rfl ht (by omega) hk a b c d mm _ _ _ _ _ _) (fun f3 _ v5 _ _ _ _ _ _ _ _ h5 => ?_)
      obtain ⟨h5, hS⟩ := h5
      dsimp only at h5 hS
      subst h5
      refine Ok.b1 (r_within (by omega) (Nat.le_refl _) (by omega) i f3) (fun v h => ?_)
      subst h
      exact Ok.ret (l_rl2Y hi hw (Or.inr ⟨ht, f3, hS, rfl⟩))
  · left
    unfold f_X_reach
    rw [e1, q_b1_s, if_neg (by decide), if_pos hi, z_ai hl (by omega), e6, if_neg (by rw [z_i 20000, nI_leI (by omega) (by omega)]; exact ht)]
    exact Ok.ret (l_rl2Y hi hw (Or.inl ⟨Nat.lt_of_not_le ht, rfl⟩))
theorem a_x_farthest (g : GOK (l_R sv) (l_C sv) (z_pr (l_R sv)) (z_pr (l_C sv)) rc cc br zc rw sh) (hN : 3000000 ≤ N) (hs2 : ns < 2 ^ 31) (a b : Nat → Int32) (mm : Int32) (c d : Nat → Int32) (v1 v2 v3 v4 v5 v6 p q i : Int32) : z_or ns (Ok (f_X_farthest N ns ns a b mm c d v1 v2 v3 v4 v5 v6 br zc rw sh p q i) (fun x => l_afarthest sv p q i x.1)) (fun nL => Ok (f_X_farthestN N nL ns a b mm c d v1 v2 v3 v4 v5 v6 br zc rw sh p q i) (fun x => l_afarthest sv p q i x.1)) := by
  obtain ⟨x1, e1, h1⟩ := r_hasSheet g p q
  rcases h1 with ⟨hh, rfl⟩ | ⟨hh, rfl⟩
  rotate_left
  · left; unfold f_X_farthest; rw [e1, q_b1_s, if_pos rfl]; exact Ok.ret (l_rl2N (fun z => hh z.1.1))
  obtain ⟨x2, e2, h2⟩ := s_isFrom i 0 1
  rw [show (0 : Int32).toInt = 0 from rfl, show (1 : Int32).toInt = 1 from rfl] at h2
  by_cases hi : 0 ≤ i.toInt ∧ i.toInt ≤ 1
  rotate_left
  · left; unfold f_X_farthest; rw [e1, q_b1_s, if_neg (by decide), e2, q_b1_s, if_pos (by rw [h2, if_neg hi])]; exact Ok.ret (l_rl2N (fun z => hi z.2))
  have n2 : ¬ x2 = 0 := by rw [h2, if_pos hi]; decide
  obtain ⟨l, k, hl, rfl, rfl, hk⟩ := hh
  have hw : l_w2 sv (nI l) (nI k) (nI k) l k k := ⟨hl, rfl, rfl, rfl, hk, hk⟩
  have hsh := g.2.sh hl
  obtain ⟨-, -, -, -, -, e6⟩ := g.at hl
  by_cases ht : 2130 * (z_pr (l_R sv) l * z_pr (l_C sv) l) + 2 ≤ 20000
  · have hle : nI (2130 * (z_pr (l_R sv) l * z_pr (l_C sv) l) + 2) ≤ 20000 := by rw [z_i 20000, nI_leI (by omega) (by omega)]; exact ht
    by_cases hr : 2130 * (z_pr (l_R sv) l * z_pr (l_C sv) l) + 2 ≤ ns
    · left
      unfold f_X_farthest
      rw [e1, q_b1_s, if_neg (by decide), e2, q_b1_s, if_neg n2, z_ai hl (by omega), e6, if_pos hle]
      refine Ok.b11 (r_spread g hN hl ht hr hs2 hk a b c d mm _ _ _ _ _ _) (fun f3 _ v5 _ _ _ _ _ _ _ _ h5 => ?_)
      obtain ⟨h5, hS⟩ := h5
      dsimp only at h5 hS
      subst h5
      refine Ok.b1 (r_farthestKey (by omega) hr hs2 (by omega) f3) (fun v h => ?_)
      subst h
      have hlt := z_far_lt f3 (2130 * (z_pr (l_R sv) l * z_pr (l_C sv) l) + 2) (by omega)
      rw [k_stepsTo (Nat.lt_of_lt_of_le hlt hr) hs2, q_b1_s]
      refine Ok.ite (fun c0 => Ok.ret (l_rl2Y hi hw (Or.inr ⟨ht, f3, hS, ?_⟩))) (fun c0 => Ok.ret (l_rl2Y hi hw (Or.inr ⟨ht, f3, hS, ?_⟩)))
      · rw [if_pos c0]; rfl
      · rw [if_neg c0]; rfl
    · right
      refine ⟨2130 * (z_pr (l_R sv) l * z_pr (l_C sv) l) + 2, by omega, ht, ⟨_, rfl⟩, ?_⟩
      dsimp only
      unfold f_X_farthestN
      rw [e1, q_b1_s, if_neg (by decide), e2, q_b1_s, if_neg n2, z_ai hl (by omega), e6, if_pos hle]
      refine Ok.b11 (r_spreadN g hN hl rfl ht (by omega) hk a b c d mm _ _ _ _ _ _) (fun f3 _ v5 _ _ _ _ _ _ _ _ h5 => ?_)
      obtain ⟨h5, hS⟩ := h5
      dsimp only at h5 hS
      subst h5
      refine Ok.b1 (r_farthestKey (by omega) (Nat.le_refl _) (by omega) (by omega) f3) (fun v h => ?_)
      subst h
      have hlt := z_far_lt f3 (2130 * (z_pr (l_R sv) l * z_pr (l_C sv) l) + 2) (by omega)
      rw [k_stepsTo hlt (by omega), q_b1_s]
      refine Ok.ite (fun c0 => Ok.ret (l_rl2Y hi hw (Or.inr ⟨ht, f3, hS, ?_⟩))) (fun c0 => Ok.ret (l_rl2Y hi hw (Or.inr ⟨ht, f3, hS, ?_⟩)))
      · rw [if_pos c0]; rfl
      · rw [if_neg c0]; rfl
  · left
    unfold f_X_farthest
    rw [e1, q_b1_s, if_neg (by decide), e2, q_b1_s, if_neg n2, z_ai hl (by omega), e6, if_neg (by rw [z_i 20000, nI_leI (by omega) (by omega)]; exact ht)]
    exact Ok.ret (l_rl2Y hi hw (Or.inl ⟨Nat.lt_of_not_le ht, rfl⟩))
end S18F
/-! the reference's steps, way, reach, farthest -/
section S18G
variable {rc cc br zc rw sh cr cq dp wd za fl fk fy : Nat → Int32} {sv : l_T} {N l ns : Nat}
theorem r_stepsOf (g : MOK (l_R sv) (l_C sv) (z_pr (l_R sv)) (z_pr (l_C sv)) cr cq dp wd za) (hN : 1000000 ≤ N) {k k2 : Nat} (hl : l < 5) (hk : k < l_tt sv l) (hk2 : k2 < l_tt sv l) (a b : Int32) (f qu : Nat → Int32) (m : Int32) : Ok (f_M_stepsOf N dp wd za a b f qu m (nI l) (nI k) (nI k2)) (fun x => l_Qsteps sv l k k2 x.1 ∧ z_nb a x.2.1) := by
  unfold f_M_stepsOf
  rw [t_isGreat g hl, q_b1_s]
  by_cases h : 2130 * (z_pr (l_R sv) l * z_pr (l_C sv) l) + 2 ≤ 20000
  · rw [if_pos h, if_pos rfl]
    exact Ok.b5 (r_laysSteps g hN hl rfl h hk2 a b f qu m) (fun _ _ f4 _ _ hS => Ok.ain (Nat.lt_of_lt_of_le hk h) (by decide) (Ok.ret ⟨Or.inr ⟨h, f4, Or.inr ⟨hS.1, rfl⟩⟩, hS.2⟩))
  · rw [if_neg h, if_neg (by decide)]
    exact Ok.ret ⟨Or.inl ⟨Nat.lt_of_not_le h, rfl⟩, z_nb_r a⟩
theorem a2_m_steps (g : MOK (l_R sv) (l_C sv) (z_pr (l_R sv)) (z_pr (l_C sv)) cr cq dp wd za) (hN : 1000000 ≤ N) (a b : Int32) (f qu : Nat → Int32) (m p q r : Int32) : Ok (f_M_steps N dp wd za a b f qu m p q r) (fun x => l_asteps sv p q r x.1 ∧ z_nb a x.2.1) := by
  unfold f_M_steps
  refine Ok.b1 (r_isKey g p q) (fun v1 h1 => ?_)
  rcases h1 with ⟨z, rfl⟩ | ⟨z, rfl⟩
  rotate_left
  · rw [if_pos rfl]; exact Ok.ret ⟨l_rl2N (fun u => z u.1.1), z_nb_r a⟩
  rw [if_neg (by decide)]
  refine Ok.b1 (r_isKey g p r) (fun v2 h2 => ?_)
  rcases h2 with ⟨y, rfl⟩ | ⟨y, rfl⟩
  rotate_left
  · rw [if_pos rfl]; exact Ok.ret ⟨l_rl2N (fun u => y u.1.2), z_nb_r a⟩
  rw [if_neg (by decide)]
  obtain ⟨l, k, k2, hl, rfl, rfl, rfl, hk, hk2⟩ := l_w2_ex (sv := sv) ⟨z, y⟩
  exact Ok.b6 (r_stepsOf g hN hl hk hk2 a b f qu m) (fun _ _ _ _ _ _ h => Ok.ret ⟨l_rl2Y trivial ⟨hl, rfl, rfl, rfl, hk, hk2⟩ h.1, h.2⟩)
theorem a_m_steps (g : MOK (l_R sv) (l_C sv) (z_pr (l_R sv)) (z_pr (l_C sv)) cr cq dp wd za) (hN : 1000000 ≤ N) (a b : Int32) (f qu : Nat → Int32) (m p q r : Int32) : Ok (f_M_steps N dp wd za a b f qu m p q r) (fun x => l_asteps sv p q r x.1) := Ok.weak (a2_m_steps g hN a b f qu m p q r) (fun _ h => h.1)
theorem a2_m_way (g : MOK (l_R sv) (l_C sv) (z_pr (l_R sv)) (z_pr (l_C sv)) cr cq dp wd za) (hN : 1000000 ≤ N) (a b : Int32) (f qu : Nat → Int32) (m p q r i : Int32) : Ok (f_M_way N dp wd za a b f qu m p q r i) (fun x => l_away sv p q r i x.1 ∧ z_nb a x.2.1) := by
  unfold f_M_way
  refine Ok.b1 (r_isKey g p q) (fun v1 h1 => ?_)
  rcases h1 with ⟨z, rfl⟩ | ⟨z, rfl⟩
  rotate_left
  · rw [if_pos rfl]; exact Ok.ret ⟨l_rl2N (fun u => z u.1.1), z_nb_r a⟩
  rw [if_neg (by decide)]
  refine Ok.b1 (r_isKey g p r) (fun v2 h2 => ?_)
  rcases h2 with ⟨y, rfl⟩ | ⟨y, rfl⟩
  rotate_left
  · rw [if_pos rfl]; exact Ok.ret ⟨l_rl2N (fun u => y u.1.2), z_nb_r a⟩
  rw [if_neg (by decide)]
  by_cases hi : ¬ 0 ≤ i
  · rw [if_neg hi]; exact Ok.ret ⟨l_rl2N (fun z => hi z.2), z_nb_r a⟩
  have hi := Decidable.not_not.mp hi
  have h0 := z_le.mp hi
  rw [show (0 : Int32).toInt = 0 from rfl] at h0
  obtain ⟨j, j1, rfl, j3⟩ := z_nat h0
  have hjt : (nI j).toInt.toNat = j := by rw [j3]; rfl
  obtain ⟨l, k, k2, hl, rfl, rfl, rfl, hk, hk2⟩ := l_w2_ex (sv := sv) ⟨z, y⟩
  have hw : l_w2 sv (nI l) (nI k) (nI k2) l k k2 := ⟨hl, rfl, rfl, rfl, hk, hk2⟩
  rw [if_pos hi, t_isGreat g hl, q_b1_s]
  by_cases ht : 2130 * (z_pr (l_R sv) l * z_pr (l_C sv) l) + 2 ≤ 20000
  · rw [if_pos ht, if_pos rfl]
    refine Ok.b5 (r_laysSteps g hN hl rfl ht hk2 a b f qu m) (fun v4 v5 f6 f7 v8 hS => Ok.ain (Nat.lt_of_lt_of_le hk ht) (by decide) ?_)
    obtain ⟨hS, hnb⟩ := hS
    dsimp only at hS hnb
    refine Ok.ite (fun hj => Ok.nm ?_) (fun hj => Ok.ret ⟨l_rl2Y hi hw (Or.inr ⟨ht, f6, hS, Or.inl ⟨hj, rfl⟩⟩), hnb⟩)
    have hd : ∃ d, d < 2130 * (z_pr (l_R sv) l * z_pr (l_C sv) l) + 2 ∧ f6 k = nI d ∧ j ≤ d := by
      rcases hS.2.1 k hk with z | ⟨d, d1, d2⟩
      · rw [z, z_le, j3, show (-1 : Int32).toInt = -1 from rfl] at hj; omega
      · have hj2 := hj
        rw [d2, nI_leI j1 (by omega)] at hj2
        exact ⟨d, d1, d2, hj2⟩
    obtain ⟨d, d1, d2, d3⟩ := hd
    refine Ok.b3 (r_way_L g hN hl rfl ht hS (p := j) (by omega) N 0 k v4 v5 (by omega) (by omega) hk ⟨d, d1, d2, by omega⟩) (fun _ _ _ h => ?_)
    obtain ⟨⟨w, w1, w2⟩, w3⟩ := h
    dsimp only at w1 w3
    subst w1
    exact Ok.ret ⟨l_rl2Y hi hw (Or.inr ⟨ht, f6, hS, Or.inr ⟨hj, w, by rw [hjt]; exact w2, rfl⟩⟩), z_nb_t hnb w3⟩
  · rw [if_neg ht, if_neg (by decide)]
    exact Ok.ret ⟨l_rl2Y hi hw (Or.inl ⟨Nat.lt_of_not_le ht, rfl⟩), z_nb_r a⟩
theorem a_m_way (g : MOK (l_R sv) (l_C sv) (z_pr (l_R sv)) (z_pr (l_C sv)) cr cq dp wd za) (hN : 1000000 ≤ N) (a b : Int32) (f qu : Nat → Int32) (m p q r i : Int32) : Ok (f_M_way N dp wd za a b f qu m p q r i) (fun x => l_away sv p q r i x.1) := Ok.weak (a2_m_way g hN a b f qu m p q r i) (fun _ h => h.1)
theorem a2_m_reach (g : MOK (l_R sv) (l_C sv) (z_pr (l_R sv)) (z_pr (l_C sv)) cr cq dp wd za) (hN : 1000000 ≤ N) (a b : Int32) (f qu : Nat → Int32) (m p q i : Int32) : Ok (f_M_reach N dp wd za a b f qu m p q i) (fun x => l_areach sv p q i x.1 ∧ z_nb a x.2.1) := by
  unfold f_M_reach
  refine Ok.b1 (r_isKey g p q) (fun v1 h1 => ?_)
  rcases h1 with ⟨z, rfl⟩ | ⟨z, rfl⟩
  rotate_left
  · rw [if_pos rfl]; exact Ok.ret ⟨l_rl2N (fun u => z u.1.1), z_nb_r a⟩
  rw [if_neg (by decide)]
  refine Ok.ite (fun hi => ?_) (fun hi => Ok.ret ⟨l_rl2N (fun z => hi z.2), z_nb_r a⟩)
  obtain ⟨l, k, hl, rfl, rfl, hk⟩ := z
  have hw : l_w2 sv (nI l) (nI k) (nI k) l k k := ⟨hl, rfl, rfl, rfl, hk, hk⟩
  rw [t_isGreat g hl, q_b1_s]
  by_cases ht : 2130 * (z_pr (l_R sv) l * z_pr (l_C sv) l) + 2 ≤ 20000
  · rw [if_pos ht, if_pos rfl]
    refine Ok.b5 (r_laysSteps g hN hl rfl ht hk a b f qu m) (fun v4 v5 f6 f7 v8 hS => Ok.nm (Ok.nm ?_))
    obtain ⟨hS, hnb⟩ := hS
    dsimp only at hS hnb
    have L : ∀ n j, j ≤ 2130 * (z_pr (l_R sv) l * z_pr (l_C sv) l) + 2 → 2130 * (z_pr (l_R sv) l * z_pr (l_C sv) l) + 2 - j < n → Ok (f_M_reach_L38 f6 dp wd za (nI l) i n (nI (z_cnl f6 i j)) (nI j)) (fun x => x = nI (z_cnl f6 i (2130 * (z_pr (l_R sv) l * z_pr (l_C sv) l) + 2))) := by
      intro n
      induction n with
      | zero => intro j _ h; omega
      | succ n ih =>
        intro j hj hn
        rw [f_M_reach_L38, m_sheets g hl, q_b1_s]
        refine Ok.ite (fun hc => Ok.ret ?_) (fun hc => ?_)
        all_goals rw [nI_leI (by omega) (by omega)] at hc
        · have : j = 2130 * (z_pr (l_R sv) l * z_pr (l_C sv) l) + 2 := by omega
          rw [this]
        · refine Ok.ain (by omega) (by decide) ?_
          rw [z_j1]
          dsimp only
          have t := ih (j + 1) (by omega) (by omega)
          rw [z_cnl_s] at t
          refine Ok.ite (fun h3 => Ok.nm (Ok.nm ?_)) (fun h3 => Ok.nm (Ok.nm ?_))
          · rw [if_pos h3] at t
            rw [show (0 : Int32) = nI 0 from rfl, nI_add, nI_1]; exact t
          · rw [if_neg h3] at t
            rw [show (1 : Int32) = nI 1 from rfl, nI_add, nI_add]; exact t
    refine Ok.b1 (L N 0 (by omega) (by omega)) (fun v h => ?_)
    subst h
    exact Ok.ret ⟨l_rl2Y hi hw (Or.inr ⟨ht, f6, hS, rfl⟩), hnb⟩
  · rw [if_neg ht, if_neg (by decide)]
    exact Ok.ret ⟨l_rl2Y hi hw (Or.inl ⟨Nat.lt_of_not_le ht, rfl⟩), z_nb_r a⟩
theorem a_m_reach (g : MOK (l_R sv) (l_C sv) (z_pr (l_R sv)) (z_pr (l_C sv)) cr cq dp wd za) (hN : 1000000 ≤ N) (a b : Int32) (f qu : Nat → Int32) (m p q i : Int32) : Ok (f_M_reach N dp wd za a b f qu m p q i) (fun x => l_areach sv p q i x.1) := Ok.weak (a2_m_reach g hN a b f qu m p q i) (fun _ h => h.1)
theorem a2_m_farthest (g : MOK (l_R sv) (l_C sv) (z_pr (l_R sv)) (z_pr (l_C sv)) cr cq dp wd za) (hN : 1000000 ≤ N) (a b : Int32) (f qu : Nat → Int32) (m p q i : Int32) : Ok (f_M_farthest N dp wd za a b f qu m p q i) (fun x => l_afarthest sv p q i x.1 ∧ z_nb a x.2.1) := by
  unfold f_M_farthest
  refine Ok.b1 (r_isKey g p q) (fun v1 h1 => ?_)
  rcases h1 with ⟨z, rfl⟩ | ⟨z, rfl⟩
  rotate_left
  · rw [if_pos rfl]; exact Ok.ret ⟨l_rl2N (fun u => z u.1.1), z_nb_r a⟩
  rw [if_neg (by decide), m_in, q_b1_s, z_toL, show (0 : Int64).toInt = 0 from rfl, show (1 : Int64).toInt = 1 from rfl]
  by_cases hi : 0 ≤ i.toInt ∧ i.toInt ≤ 1
  rotate_left
  · rw [if_neg hi, if_pos rfl]; exact Ok.ret ⟨l_rl2N (fun z => hi z.2), z_nb_r a⟩
  rw [if_pos hi, if_neg (by decide)]
  obtain ⟨l, k, hl, rfl, rfl, hk⟩ := z
  have hw : l_w2 sv (nI l) (nI k) (nI k) l k k := ⟨hl, rfl, rfl, rfl, hk, hk⟩
  rw [t_isGreat g hl, q_b1_s]
  by_cases ht : 2130 * (z_pr (l_R sv) l * z_pr (l_C sv) l) + 2 ≤ 20000
  · rw [if_pos ht, if_pos rfl]
    refine Ok.b5 (r_laysSteps g hN hl rfl ht hk a b f qu m) (fun v4 v5 f6 f7 v8 hS => Ok.nm (Ok.nm ?_))
    obtain ⟨hS, hnb⟩ := hS
    dsimp only at hS hnb
    have L : ∀ n j, 1 ≤ j → j ≤ 2130 * (z_pr (l_R sv) l * z_pr (l_C sv) l) + 2 → 2130 * (z_pr (l_R sv) l * z_pr (l_C sv) l) + 2 - j < n → Ok (f_M_farthest_L44 f6 dp wd za (nI l) n (nI (z_far f6 j)) (nI j)) (fun x => x = nI (z_far f6 (2130 * (z_pr (l_R sv) l * z_pr (l_C sv) l) + 2))) := by
      intro n
      induction n with
      | zero => intro j _ _ h; omega
      | succ n ih =>
        intro j h1 hj hn
        have hlt := z_far_lt f6 j h1
        rw [f_M_farthest_L44, m_sheets g hl, q_b1_s]
        refine Ok.ite (fun hc => Ok.ret ?_) (fun hc => ?_)
        all_goals rw [nI_leI (by omega) (by omega)] at hc
        · have : j = 2130 * (z_pr (l_R sv) l * z_pr (l_C sv) l) + 2 := by omega
          rw [this]
        · refine Ok.ain (by omega) (by decide) (Ok.ain (by omega) (by decide) ?_)
          rw [z_j1]
          dsimp only
          have t := ih (j + 1) (by omega) (by omega) (by omega)
          rw [z_far_s] at t
          refine Ok.ite (fun h3 => Ok.nm ?_) (fun h3 => Ok.nm ?_)
          · rw [if_pos h3] at t
            rw [nI_1]; exact t
          · rw [if_neg h3] at t
            rw [nI_1]; exact t
    have t := L N 1 (by omega) (by omega) (by omega)
    rw [z_far_1] at t
    refine Ok.b1 t (fun v h => ?_)
    subst h
    have hlt := z_far_lt f6 (2130 * (z_pr (l_R sv) l * z_pr (l_C sv) l) + 2) (by omega)
    refine Ok.ite (fun c0 => Ok.ain (by omega) (by decide) (Ok.ret ⟨l_rl2Y hi hw (Or.inr ⟨ht, f6, hS, ?_⟩), hnb⟩)) (fun c0 => Ok.ret ⟨l_rl2Y hi hw (Or.inr ⟨ht, f6, hS, ?_⟩), hnb⟩)
    · rw [if_pos c0]; rfl
    · rw [if_neg c0]; rfl
  · rw [if_neg ht, if_neg (by decide)]
    exact Ok.ret ⟨l_rl2Y hi hw (Or.inl ⟨Nat.lt_of_not_le ht, rfl⟩), z_nb_r a⟩
theorem a_m_farthest (g : MOK (l_R sv) (l_C sv) (z_pr (l_R sv)) (z_pr (l_C sv)) cr cq dp wd za) (hN : 1000000 ≤ N) (a b : Int32) (f qu : Nat → Int32) (m p q i : Int32) : Ok (f_M_farthest N dp wd za a b f qu m p q i) (fun x => l_afarthest sv p q i x.1) := Ok.weak (a2_m_farthest g hN a b f qu m p q i) (fun _ h => h.1)
end S18G
end
section
/-! answers: questions; blanks, words -/
section S20A
variable {R C : Nat → Nat} {rc cc br zc rw sh cr cq dp wd za : Nat → Int32} {N t e n : Nat} {f : Nat → Int32} {tb : Nat → Nat}
/-- the first blank from a place on within so many -/
def z_bl (tb : Nat → Nat) : Nat → Nat → Nat
  | 0, k => k
  | m + 1, k => if tb k = 32 then k else z_bl tb m (k + 1)
theorem z_bl_in (tb : Nat → Nat) : ∀ m k, k ≤ z_bl tb m k ∧ z_bl tb m k ≤ k + m := by
  intro m
  induction m with
  | zero => intro k; exact ⟨Nat.le_refl k, Nat.le_refl k⟩
  | succ m ih =>
    intro k
    have := ih (k + 1)
    unfold z_bl
    split <;> omega
theorem r_blankFrom (h : l_tX t tb f) (hn : n ≤ t) (ht : t ≤ 200) (hN : 1000 ≤ N) {k : Nat} (hk : k ≤ n) : f_Tape_blankFrom N f (nI t) (nI k) (nI n) = some (nI (z_bl tb (n - k) k)) := by
  have L : ∀ m j k, k + m = n → m < j → (f_Tape_blankFrom_L2 (nI n) f (nI t) j (nI k) = some (.inl ()) ∧ z_bl tb m k = n) ∨ f_Tape_blankFrom_L2 (nI n) f (nI t) j (nI k) = some (.inr (nI (z_bl tb m k))) := by
    intro m
    induction m with
    | zero =>
      intro j k hk hj
      obtain ⟨j, rfl⟩ : ∃ j', j = j' + 1 := ⟨j - 1, by omega⟩
      left
      rw [f_Tape_blankFrom_L2, if_pos (by rw [nI_leI (by omega) (by omega)]; omega)]
      exact ⟨rfl, by unfold z_bl; omega⟩
    | succ m ih =>
      intro j k hk hj
      obtain ⟨j, rfl⟩ : ∃ j', j = j' + 1 := ⟨j - 1, by omega⟩
      obtain ⟨h1, h2⟩ := h k (by omega)
      rw [f_Tape_blankFrom_L2, if_neg (by rw [nI_leI (by omega) (by omega)]; omega), if_neg (by rw [nI_leI (by omega) (by omega)]; omega), z_ai (by omega) (by omega), h2]
      unfold z_bl
      by_cases c : tb k = 32
      · right
        rw [if_pos (by rw [z_i 32, nI_eq (by omega) (by omega)]; exact c), if_pos c]
      · rw [if_neg (by rw [z_i 32, nI_eq (by omega) (by omega)]; exact c), if_neg c, nI_1, z_nm]
        exact ih j (k + 1) (by omega) (by omega)
  unfold f_Tape_blankFrom
  rcases L (n - k) N k (by omega) (by omega) with ⟨e1, e2⟩ | e1
  · rw [e1, e2]; rfl
  · rw [e1]; rfl
theorem z_sb32 : ∀ b, b < 256 → ((nI b).toInt8.toInt32 = 32 ↔ b = 32) := by decide +kernel
theorem r_blankFromM (h : l_tM t tb f) (hn : n ≤ t) (ht : t ≤ 200) (hN : 1000 ≤ N) {k : Nat} (hk : k ≤ n) : f_M_blankFrom N f (nI k) (nI n) = some (nI (z_bl tb (n - k) k)) := by
  have L : ∀ m j k, k + m = n → m < j → f_M_blankFrom_L2 f (nI n) j (nI k) = some (nI (z_bl tb m k)) := by
    intro m
    induction m with
    | zero =>
      intro j k hk hj
      obtain ⟨j, rfl⟩ : ∃ j', j = j' + 1 := ⟨j - 1, by omega⟩
      rw [f_M_blankFrom_L2, if_pos (by rw [nI_leI (by omega) (by omega)]; omega)]
      rfl
    | succ m ih =>
      intro j k hk hj
      obtain ⟨j, rfl⟩ : ∃ j', j = j' + 1 := ⟨j - 1, by omega⟩
      have h1 := h k (by omega)
      rw [f_M_blankFrom_L2, if_neg (by rw [nI_leI (by omega) (by omega)]; omega), z_ai (by omega) (by omega), z_tm_e h1]
      unfold z_bl
      by_cases c : tb k = 32
      · rw [if_pos ((z_sb32 _ h1.1).mpr c), if_pos c]
      · rw [if_neg (fun z => c ((z_sb32 _ h1.1).mp z)), if_neg c, nI_1, z_nm]
        exact ih j (k + 1) (by omega) (by omega)
  unfold f_M_blankFrom
  rw [L (n - k) N k (by omega) (by omega), q_b1_s]
/-- the words -/
def z_wl : List (List Nat) := [[110, 111, 114, 116, 104], [101, 97, 115, 116], [115, 111, 117, 116, 104], [119, 101, 115, 116], [97, 98, 111, 118, 101], [115, 116, 101, 112, 115], [98, 101, 116, 119, 101, 101, 110]]
def z_wn (k : Nat) : Nat := (z_wl.getD k []).length
def z_wc (k i : Nat) : Nat := (z_wl.getD k []).getD i 0
abbrev z_isw (tb : Nat → Nat) (k e : Nat) : Prop := e = z_wn k ∧ ∀ i, i < e → tb i = z_wc k i
theorem z_wn_in : ∀ k, k < 7 → f_JString_length_8abf5 k = some (nI (z_wn k)) ∧ z_wn k ≤ 7 ∧ 4 ≤ z_wn k := by decide +kernel
theorem z_wc_in : ∀ k, k < 7 → ∀ i, i < z_wn k → f_JString_charAt_5068e k (nI i) = some (nI (z_wc k i)) ∧ 97 ≤ z_wc k i ∧ z_wc k i ≤ 122 := by decide +kernel
theorem r_isWord (h : l_tX t tb f) (he : e ≤ t) (ht : t ≤ 200) (hN : 1000 ≤ N) {k : Nat} (hk : k < 7) : f_Tape_isWord N k f (nI t) (nI e) = some (if z_isw tb k e then 1 else 0) := by
  obtain ⟨w1, w2, -⟩ := z_wn_in k hk
  have L : ∀ m j i, i + m = z_wn k → m < j → e = z_wn k → (∀ q, q < i → tb q = z_wc k q) → f_Tape_isWord_L20 k (nI e) f j (nI i) = some (if z_isw tb k e then .inl () else .inr 0) := by
    intro m
    induction m with
    | zero =>
      intro j i hi hj hew hp
      obtain ⟨j, rfl⟩ : ∃ j', j = j' + 1 := ⟨j - 1, by omega⟩
      rw [f_Tape_isWord_L20, if_pos (by rw [nI_leI (by omega) (by omega)]; omega), if_pos ⟨hew, fun q hq => hp q (by omega)⟩]
    | succ m ih =>
      intro j i hi hj hew hp
      obtain ⟨j, rfl⟩ : ∃ j', j = j' + 1 := ⟨j - 1, by omega⟩
      obtain ⟨h1, h2⟩ := h i (by omega)
      obtain ⟨c1, c2, c3⟩ := z_wc_in k hk i (by omega)
      rw [f_Tape_isWord_L20, if_neg (by rw [nI_leI (by omega) (by omega)]; omega), z_ai (by omega) (by omega), c1, q_b1_s, h2]
      by_cases c : tb i = z_wc k i
      · rw [if_pos (by rw [c]), nI_1, z_nm]
        refine ih j (i + 1) (by omega) (by omega) hew (fun q hq => ?_)
        by_cases eq : q = i
        · subst eq; exact c
        · exact hp q (by omega)
      · rw [if_neg (by rw [nI_eq (by omega) (by omega)]; exact c), if_neg (fun z => c (z.2 i (by omega)))]
  unfold f_Tape_isWord
  rw [w1, q_b1_s]
  by_cases c : e = z_wn k
  · rw [if_pos (by rw [c]), if_pos (by rw [nI_leI (by omega) (by omega)]; exact he), z_nm, show (0 : Int32) = nI 0 from rfl, L (z_wn k) N 0 (by omega) (by omega) c (fun q hq => by omega)]
    by_cases c2 : z_isw tb k e
    · rw [if_pos c2, if_pos c2]; rfl
    · rw [if_neg c2, if_neg c2]; rfl
  · rw [if_neg (by rw [nI_eq (by omega) (by omega)]; exact fun z => c z.symm), if_neg (fun z => c z.1)]
/-- which word; 7: none -/
def z_word (tb : Nat → Nat) (e : Nat) : Nat := if z_isw tb 0 e then 0 else if z_isw tb 1 e then 1 else if z_isw tb 2 e then 2 else if z_isw tb 3 e then 3 else if z_isw tb 4 e then 4 else if z_isw tb 5 e then 5 else if z_isw tb 6 e then 6 else 7
theorem z_word_in (tb : Nat → Nat) (e : Nat) : z_word tb e ≤ 7 ∧ (z_word tb e < 7 → z_isw tb (z_word tb e) e) ∧ (z_word tb e = 7 → ∀ k, k < 7 → ¬ z_isw tb k e) := by
  unfold z_word
  by_cases c0 : z_isw tb 0 e
  · rw [if_pos c0]; exact ⟨by decide, fun _ => c0, fun z => absurd z (by decide)⟩
  rw [if_neg c0]
  by_cases c1 : z_isw tb 1 e
  · rw [if_pos c1]; exact ⟨by decide, fun _ => c1, fun z => absurd z (by decide)⟩
  rw [if_neg c1]
  by_cases c2 : z_isw tb 2 e
  · rw [if_pos c2]; exact ⟨by decide, fun _ => c2, fun z => absurd z (by decide)⟩
  rw [if_neg c2]
  by_cases c3 : z_isw tb 3 e
  · rw [if_pos c3]; exact ⟨by decide, fun _ => c3, fun z => absurd z (by decide)⟩
  rw [if_neg c3]
  by_cases c4 : z_isw tb 4 e
  · rw [if_pos c4]; exact ⟨by decide, fun _ => c4, fun z => absurd z (by decide)⟩
  rw [if_neg c4]
  by_cases c5 : z_isw tb 5 e
  · rw [if_pos c5]; exact ⟨by decide, fun _ => c5, fun z => absurd z (by decide)⟩
  rw [if_neg c5]
  by_cases c6 : z_isw tb 6 e
  · rw [if_pos c6]; exact ⟨by decide, fun _ => c6, fun z => absurd z (by decide)⟩
  rw [if_neg c6]
  refine ⟨by decide, fun z => absurd z (by decide), fun _ k hk => ?_⟩
  rcases (show k = 0 ∨ k = 1 ∨ k = 2 ∨ k = 3 ∨ k = 4 ∨ k = 5 ∨ k = 6 by omega) with rfl | rfl | rfl | rfl | rfl | rfl | rfl <;> assumption
theorem r_wordTo (h : l_tX t tb f) (he : e ≤ t) (ht : t ≤ 200) (hN : 1000 ≤ N) : f_Question_wordTo N f (nI t) (nI e) = some (if z_word tb e = 7 then -1 else nI (z_word tb e)) := by
  have w := fun k hk => r_isWord (N := N) h he ht hN (k := k) hk
  unfold f_Question_wordTo z_word
  rw [w 0 (by omega), q_b1_s]
  by_cases c0 : z_isw tb 0 e
  · rw [if_pos c0, if_neg (by decide), if_pos c0, if_neg (by decide)]; rfl
  rw [if_neg c0, if_pos rfl, if_neg c0, w 1 (by omega), q_b1_s]
  by_cases c1 : z_isw tb 1 e
  · rw [if_pos c1, if_neg (by decide), if_pos c1, if_neg (by decide)]; rfl
  rw [if_neg c1, if_pos rfl, if_neg c1, w 2 (by omega), q_b1_s]
  by_cases c2 : z_isw tb 2 e
  · rw [if_pos c2, if_neg (by decide), if_pos c2, if_neg (by decide)]; rfl
  rw [if_neg c2, if_pos rfl, if_neg c2, w 3 (by omega), q_b1_s]
  by_cases c3 : z_isw tb 3 e
  · rw [if_pos c3, if_neg (by decide), if_pos c3, if_neg (by decide)]; rfl
  rw [if_neg c3, if_pos rfl, if_neg c3, w 4 (by omega), q_b1_s]
  by_cases c4 : z_isw tb 4 e
  · rw [if_pos c4, if_neg (by decide), if_pos c4, if_neg (by decide)]; rfl
  rw [if_neg c4, if_pos rfl, if_neg c4, w 5 (by omega), q_b1_s]
  by_cases c5 : z_isw tb 5 e
  · rw [if_pos c5, if_neg (by decide), if_pos c5, if_neg (by decide)]; rfl
  rw [if_neg c5, if_pos rfl, if_neg c5, w 6 (by omega), q_b1_s]
  by_cases c6 : z_isw tb 6 e
  · rw [if_pos c6, if_neg (by decide), if_pos c6, if_neg (by decide)]; rfl
  rw [if_neg c6, if_pos rfl, if_neg c6, if_pos rfl]
/-- a word as a number -/
def z_w32 (tb : Nat → Nat) : Nat → Nat
  | 0 => 0
  | n + 1 => 32 * z_w32 tb n + (tb n - 96)
theorem z_w32_one {a b : Nat → Nat} : ∀ e e2, (∀ i, i < e → 97 ≤ a i ∧ a i ≤ 122) → (∀ i, i < e2 → 97 ≤ b i ∧ b i ≤ 122) → z_w32 a e = z_w32 b e2 → e = e2 ∧ ∀ i, i < e → a i = b i := by
  intro e
  induction e with
  | zero =>
    intro e2 _ hb h
    rcases Nat.eq_zero_or_pos e2 with z | z
    · exact ⟨z.symm, fun i hi => by omega⟩
    · obtain ⟨m, rfl⟩ : ∃ m, e2 = m + 1 := ⟨e2 - 1, by omega⟩
      have := hb m (by omega)
      unfold z_w32 at h
      omega
  | succ e ih =>
    intro e2 ha hb h
    have h1 := ha e (by omega)
    rcases Nat.eq_zero_or_pos e2 with z | z
    · subst z
      unfold z_w32 at h
      omega
    · obtain ⟨m, rfl⟩ : ∃ m, e2 = m + 1 := ⟨e2 - 1, by omega⟩
      have h2 := hb m (by omega)
      unfold z_w32 at h
      obtain ⟨i1, i2⟩ := ih m (fun i hi => ha i (by omega)) (fun i hi => hb i (by omega)) (by omega)
      subst i1
      refine ⟨rfl, fun i hi => ?_⟩
      by_cases ei : i = e
      · subst ei; omega
      · exact i2 i (by omega)
theorem z_w32_b {a : Nat → Nat} : ∀ e, e ≤ 8 → (∀ i, i < e → 97 ≤ a i ∧ a i ≤ 122) → z_w32 a e < 32 ^ e := by
  intro e
  induction e with
  | zero => intro _ _; exact Nat.one_pos
  | succ e ih =>
    intro he ha
    have h1 := ha e (by omega)
    have h2 := ih (by omega) (fun i hi => ha i (by omega))
    unfold z_w32
    rw [Nat.pow_succ]
    omega
abbrev z_let (tb : Nat → Nat) (e : Nat) : Prop := e ≤ 8 ∧ ∀ i, i < e → 97 ≤ tb i ∧ tb i ≤ 122
def z_wv (tb : Nat → Nat) (e : Nat) : Int64 := if z_let tb e then lN (z_w32 tb e) else -1
theorem z_sbl : ∀ b, b < 256 → (97 ≤ ((nI b).toInt8.toInt32).toInt ∧ ((nI b).toInt8.toInt32).toInt ≤ 122 ↔ 97 ≤ b ∧ b ≤ 122) := by decide +kernel
theorem r_wordToM (h : l_tM t tb f) (he : e ≤ t) (ht : t ≤ 200) (hN : 1000 ≤ N) : f_M_wordTo N f (nI e) = some (z_wv tb e) := by
  have L : ∀ m j i, i + m = e → m < j → i ≤ 8 → (∀ q, q < i → 97 ≤ tb q ∧ tb q ≤ 122) → f_M_wordTo_L5 f (nI e) j (lN (z_w32 tb i)) (nI i) = some (if z_let tb e then .inl (lN (z_w32 tb e)) else .inr (-1)) := by
    intro m
    induction m with
    | zero =>
      intro j i hi hj h8 hp
      obtain ⟨j, rfl⟩ : ∃ j', j = j' + 1 := ⟨j - 1, by omega⟩
      have : i = e := by omega
      subst this
      rw [f_M_wordTo_L5, if_pos (by rw [nI_leI (by omega) (by omega)]; omega), if_pos ⟨h8, hp⟩]
    | succ m ih =>
      intro j i hi hj h8 hp
      obtain ⟨j, rfl⟩ : ∃ j', j = j' + 1 := ⟨j - 1, by omega⟩
      have h1 := h i (by omega)
      have h3 := z_tm_e h1
      have hin : f_M_in (f i).toInt64 97 122 = some (if 97 ≤ tb i ∧ tb i ≤ 122 then 1 else 0) := by
        rw [m_in, z_toL, h3, show (97 : Int64).toInt = 97 from rfl, show (122 : Int64).toInt = 122 from rfl]
        by_cases c : 97 ≤ tb i ∧ tb i ≤ 122
        · rw [if_pos c, if_pos ((z_sbl _ h1.1).mpr c)]
        · rw [if_neg c, if_neg (fun z => c ((z_sbl _ h1.1).mp z))]
      rw [f_M_wordTo_L5, if_neg (by rw [nI_leI (by omega) (by omega)]; omega), z_ai (by omega) (by omega), hin, q_b1_s]
      by_cases c : 97 ≤ tb i ∧ tb i ≤ 122
      · rw [if_pos c, if_neg (show ¬ (1 : Int32) = 0 by decide)]
        by_cases c7 : i ≤ 7
        · rw [if_pos (by rw [z_i 7, nI_leI (by omega) (by omega)]; exact c7), z_ai (by omega) (by omega), z_tm_7 h1 (by omega), nI_l (by omega), z_l 32, lN_mul, lN_add, z_l 97, lN_sub (by omega), z_l 1, lN_add, z_nm, nI_1, z_nm]
          have e2 : 32 * z_w32 tb i + tb i - 97 + 1 = z_w32 tb (i + 1) := by
            show _ = 32 * z_w32 tb i + (tb i - 96)
            omega
          rw [e2]
          refine ih j (i + 1) (by omega) (by omega) (by omega) (fun q hq => ?_)
          by_cases eq : q = i
          · subst eq; exact c
          · exact hp q (by omega)
        · rw [if_neg (by rw [z_i 7, nI_leI (by omega) (by omega)]; exact c7), if_neg (fun z => by have := z.1; omega)]
      · rw [if_neg c, if_pos rfl, if_neg (fun z => c (z.2 i (by omega)))]
  unfold f_M_wordTo z_wv
  rw [z_nm, z_nm, show (0 : Int64) = lN (z_w32 tb 0) from rfl, show (0 : Int32) = nI 0 from rfl, L e N 0 (by omega) (by omega) (by omega) (fun q hq => by omega)]
  by_cases c : z_let tb e
  · rw [if_pos c, if_pos c]; rfl
  · rw [if_neg c, if_neg c]; rfl
/-- the words' numbers -/
def z_W : List Nat := [15190664, 165492, 20436616, 759412, 1130181, 20583955, 2336986286]
theorem z_W_in : ∀ k, k < 7 → z_W.getD k 0 = z_w32 (z_wc k) (z_wn k) ∧ z_W.getD k 0 < 2 ^ 62 ∧ ¬ (-1 : Int64) = lN (z_W.getD k 0) := by decide +kernel
theorem z_W_one : ∀ j, j < 7 → ∀ k, k < 7 → z_W.getD j 0 = z_W.getD k 0 → j = k := by decide +kernel
theorem z_wv_k {k : Nat} (hk : k < 7) : lg_cmp (z_wv tb e) (lN (z_W.getD k 0)) = 0 ↔ z_isw tb k e := by
  obtain ⟨a1, a2, a3⟩ := z_W_in k hk
  obtain ⟨-, b1, -⟩ := z_wn_in k hk
  have hw : ∀ i, i < z_wn k → 97 ≤ z_wc k i ∧ z_wc k i ≤ 122 := fun i hi => (z_wc_in k hk i hi).2
  rw [z_lcmpE]
  unfold z_wv
  by_cases c : z_let tb e
  · have h8 := z_w32_b e c.1 c.2
    have h9 : 32 ^ e ≤ 32 ^ 8 := Nat.pow_le_pow_right (by omega) c.1
    have h10 : (32 : Nat) ^ 8 < 2 ^ 62 := by decide
    rw [if_pos c, pk_lEQ (by omega) (by omega), a1]
    constructor
    · intro z
      exact z_w32_one e (z_wn k) c.2 hw z
    · rintro ⟨rfl, z⟩
      have : ∀ m, m ≤ z_wn k → z_w32 tb m = z_w32 (z_wc k) m := by
        intro m
        induction m with
        | zero => intro _; rfl
        | succ m ih =>
          intro hm
          show 32 * z_w32 tb m + (tb m - 96) = 32 * z_w32 (z_wc k) m + (z_wc k m - 96)
          rw [ih (by omega), z m (by omega)]
      exact this _ (Nat.le_refl _)
  · rw [if_neg c]
    constructor
    · intro z; exact absurd z a3
    · rintro ⟨rfl, z⟩
      exact absurd ⟨by omega, fun i hi => by rw [z i hi]; exact hw i hi⟩ c
theorem z_isw_one {j k : Nat} (hj : j < 7) (hk : k < 7) (h1 : z_isw tb j e) (h2 : z_isw tb k e) : j = k := by
  have a := (z_wv_k hj).mpr h1
  have b := (z_wv_k hk).mpr h2
  rw [z_lcmpE] at a b
  rw [a] at b
  obtain ⟨-, x, -⟩ := z_W_in j hj
  obtain ⟨-, y, -⟩ := z_W_in k hk
  rw [pk_lEQ (by omega) (by omega)] at b
  exact z_W_one j hj k hk b
/-- of a text with a word: which number it is -/
theorem z_wv_w {k : Nat} (hk : k < 7) : lg_cmp (z_wv tb e) (lN (z_W.getD k 0)) = 0 ↔ z_word tb e = k := by
  rw [z_wv_k hk]
  obtain ⟨a, b, c⟩ := z_word_in tb e
  constructor
  · intro z
    rcases Nat.lt_or_ge (z_word tb e) 7 with w | w
    · exact z_isw_one w hk (b w) z
    · exact absurd z (c (by omega) k hk)
  · rintro rfl
    exact b hk
end S20A
/-! the class reads a question -/
section S20B
variable {R C : Nat → Nat} {rc cc br zc rw sh cr cq dp wd za : Nat → Int32} {N t e n : Nat} {f : Nat → Int32} {tb : Nat → Nat}
/-- a question: fault, place, too soon, word, level, key, level, key -/
abbrev z_Q : Type := Nat × Nat × Int32 × Nat × Nat × Nat × Nat × Nat
def nq (R C : Nat → Nat) (tb : Nat → Nat) (n : Nat) : z_Q :=
  if z_bl tb n 0 = n then (1, n, 1, 0, 0, 0, 0, 0)
  else if z_word tb (z_bl tb n 0) = 7 then (1, 0, 0, 0, 0, 0, 0, 0)
  else if z_word tb (z_bl tb n 0) < 5 then
    (if (nm_rd R C tb n (z_bl tb n 0 + 1)).1 = 0 then (0, 0, 0, z_word tb (z_bl tb n 0), (nm_rd R C tb n (z_bl tb n 0 + 1)).2.2.1, (nm_rd R C tb n (z_bl tb n 0 + 1)).2.2.2, 0, 0)
     else ((nm_rd R C tb n (z_bl tb n 0 + 1)).1, (nm_rd R C tb n (z_bl tb n 0 + 1)).2.1, z_er n (nm_rd R C tb n (z_bl tb n 0 + 1)).1 (nm_rd R C tb n (z_bl tb n 0 + 1)).2.1, 0, 0, 0, 0, 0))
  else
    (fun b2 => (fun S : Nat × Nat × Nat × Nat => if S.1 = 0 then
        (if b2 = n then (1, n, 1, 0, 0, 0, 0, 0)
         else (fun S2 : Nat × Nat × Nat × Nat => if S2.1 = 0 then (0, 0, 0, z_word tb (z_bl tb n 0), S.2.2.1, S.2.2.2, S2.2.2.1, S2.2.2.2) else (S2.1, S2.2.1, z_er n S2.1 S2.2.1, 0, 0, 0, 0, 0)) (nm_rd R C tb n (b2 + 1)))
      else (S.1, S.2.1, z_er b2 S.1 S.2.1, 0, 0, 0, 0, 0)) (nm_rd R C tb b2 (z_bl tb n 0 + 1))) (z_bl tb (n - (z_bl tb n 0 + 1)) (z_bl tb n 0 + 1))
/-- a question read by the class -/
def z_qX (Q : z_Q) (a w lv ky l2 k2 fa fp es : Int32) : Prop :=
  (Q.1 = 0 ∧ a = 1 ∧ w = nI Q.2.2.2.1 ∧ lv = nI Q.2.2.2.2.1 ∧ ky = nI Q.2.2.2.2.2.1 ∧ (Q.2.2.2.1 < 5 ∨ (l2 = nI Q.2.2.2.2.2.2.1 ∧ k2 = nI Q.2.2.2.2.2.2.2))) ∨ (Q.1 ≠ 0 ∧ a = 0 ∧ fa = nI Q.1 ∧ fp = nI Q.2.1 ∧ es = Q.2.2.1)
theorem r_fwb (a b c p : Int32) : f_NameReader_failWithoutBlank a b c p = some (0, 1, p, 1) := rfl
theorem r_question (g : GOK R C (z_pr R) (z_pr C) rc cc br zc rw sh) (h : l_tX t tb f) (hn : n ≤ t) (ht : t ≤ 200) (hN : 1000 ≤ N) (qw ql qk ol ok nx en lv ky fa fp es : Int32) : Ok (f_Question_read N qw ql qk ol ok nx en lv ky fa fp es f (nI t) rc cc br zc rw sh (nI n)) (fun y => z_qX (nq R C tb n) y.1 y.2.1 y.2.2.1 y.2.2.2.1 y.2.2.2.2.1 y.2.2.2.2.2.1 y.2.2.2.2.2.2.2.2.2.2.1 y.2.2.2.2.2.2.2.2.2.2.2.1 y.2.2.2.2.2.2.2.2.2.2.2.2) := by
  have hb := z_bl_in tb n 0
  have hbf := r_blankFrom (N := N) h hn ht hN (k := 0) (by omega)
  rw [Nat.sub_zero] at hbf
  have hbf0 : f_Tape_blankFrom N f (nI t) 0 (nI n) = some (nI (z_bl tb n 0)) := hbf
  unfold f_Question_read nq
  rw [hbf0, q_b1_s]
  generalize hbl : z_bl tb n 0 = bl at *
  by_cases c1 : bl = n
  · rw [if_pos (by rw [c1]), if_pos c1, r_fwb, q_b4_s]
    exact Ok.bo (Or.inl rfl) (Ok.ret (Or.inr ⟨by show ¬ (1 : Nat) = 0; omega, rfl, rfl, rfl, rfl⟩))
  rw [if_neg (by rw [nI_eq (by omega) (by omega)]; exact c1), if_neg c1, r_wordTo h (by omega) ht hN, q_b1_s]
  obtain ⟨w1, w2, w3⟩ := z_word_in tb bl
  generalize hw : z_word tb bl = w at *
  by_cases c2 : w = 7
  · rw [if_pos c2, if_pos c2, if_pos rfl]
    unfold f_NameReader_fail
    rw [q_b4_s]
    exact Ok.bo (Or.inl rfl) (Ok.ret (Or.inr ⟨by show ¬ (1 : Nat) = 0; omega, rfl, rfl, rfl, rfl⟩))
  rw [if_neg c2, if_neg c2, if_neg (z_nIm1 (by omega)), z_j1]
  dsimp only
  by_cases c3 : w < 5
  · rw [if_pos c3]
    have K : Ok (q_j1 (fun (v4 : Int32) => (
      q_b8 (f_NameReader_read N nx en lv ky fa fp es f (nI t) rc cc br zc rw sh (nI bl + 1) v4) (fun (v5 : Int32) (v6 : Int32) (v7 : Int32) (v8 : Int32) (v9 : Int32) (v10 : Int32) (v11 : Int32) (v12 : Int32) =>
      if v5 = 0 then (
      some (0, nI w, ql, qk, ol, ok, v6, v7, v8, v9, v10, v11, v12)) else (
      q_j9 (fun (v13 : Int32) (v14 : Int32) (v15 : Int32) (v16 : Int32) (v17 : Int32) (v18 : Int32) (v19 : Int32) (v20 : Int32) (v21 : Int32) => (
      some (1, nI w, v8, v9, v13, v14, v15, v16, v17, v18, v19, v20, v21) : Option (Int32 × Int32 × Int32 × Int32 × Int32 × Int32 × Int32 × Int32 × Int32 × Int32 × Int32 × Int32 × Int32))) (fun (k150 : Int32 → Int32 → Int32 → Int32 → Int32 → Int32 → Int32 → Int32 → Int32 → Option (Int32 × Int32 × Int32 × Int32 × Int32 × Int32 × Int32 × Int32 × Int32 × Int32 × Int32 × Int32 × Int32)) =>
      if (0 : Int32) = 0 then (
      k150 ol ok v6 v7 v8 v9 v10 v11 v12) else (
      q_b10 (f_Question_readOther N ol ok v6 v7 v8 v9 v10 v11 v12 f (nI t) rc cc br zc rw sh (v4 + 1) (nI n)) (fun (v22 : Int32) (v23 : Int32) (v24 : Int32) (v25 : Int32) (v26 : Int32) (v27 : Int32) (v28 : Int32) (v29 : Int32) (v30 : Int32) (v31 : Int32) =>
      if v22 = 0 then (
      some (0, nI w, v8, v9, v23, v24, v25, v26, v27, v28, v29, v30, v31)) else (
      k150 v23 v24 v25 v26 v27 v28 v29 v30 v31)))))) : Option (Int32 × Int32 × Int32 × Int32 × Int32 × Int32 × Int32 × Int32 × Int32 × Int32 × Int32 × Int32 × Int32))) (fun (k93 : Int32 → Option (Int32 × Int32 × Int32 × Int32 × Int32 × Int32 × Int32 × Int32 × Int32 × Int32 × Int32 × Int32 × Int32)) =>
      if (0 : Int32) = 0 then (
      k93 (nI n)) else (
      q_b1 (f_Tape_blankFrom N f (nI t) (nI bl + 1) (nI n)) (fun (v32 : Int32) =>
      k93 v32))) : Option (Int32 × Int32 × Int32 × Int32 × Int32 × Int32 × Int32 × Int32 × Int32 × Int32 × Int32 × Int32 × Int32)) (fun y => z_qX (if (nm_rd R C tb n (bl + 1)).1 = 0 then (0, 0, 0, w, (nm_rd R C tb n (bl + 1)).2.2.1, (nm_rd R C tb n (bl + 1)).2.2.2, 0, 0) else ((nm_rd R C tb n (bl + 1)).1, (nm_rd R C tb n (bl + 1)).2.1, z_er n (nm_rd R C tb n (bl + 1)).1 (nm_rd R C tb n (bl + 1)).2.1, 0, 0, 0, 0, 0)) y.1 y.2.1 y.2.2.1 y.2.2.2.1 y.2.2.2.2.1 y.2.2.2.2.2.1 y.2.2.2.2.2.2.2.2.2.2.1 y.2.2.2.2.2.2.2.2.2.2.2.1 y.2.2.2.2.2.2.2.2.2.2.2.2) := by
      rw [z_j1, if_pos rfl]
      dsimp only
      rw [nI_1]
      refine Ok.b8 (r_read g h hn ht hN (i := bl + 1) (by omega) nx en lv ky fa fp es) (fun v5 v6 v7 v8 v9 v10 v11 v12 hx => ?_)
      rcases hx with ⟨hF, x1, x2, x3⟩ | ⟨hF, x1, x2, x3, x4⟩
      · dsimp only at x1 x2 x3
        subst x1; subst x2; subst x3
        rw [if_neg (by decide), if_pos hF]
        rw [z_j9, if_pos rfl]
        exact Ok.ret (Or.inl ⟨rfl, rfl, rfl, rfl, rfl, Or.inl c3⟩)
      · dsimp only at x1 x2 x3 x4
        subst x1
        rw [if_pos rfl, if_neg hF]
        exact Ok.ret (Or.inr ⟨hF, rfl, x2, x3, x4⟩)
    rw [z_j0, if_neg (by rw [z_i 5, nI_eq (by omega) (by omega)]; omega), if_neg (by rw [z_i 6, nI_eq (by omega) (by omega)]; omega)]
    exact K
  · rw [if_neg c3]
    have hbf2 := r_blankFrom (N := N) h hn ht hN (k := bl + 1) (by omega)
    have hb2 := z_bl_in tb (n - (bl + 1)) (bl + 1)
    generalize hb2e : z_bl tb (n - (bl + 1)) (bl + 1) = b2 at *
    have K : Ok (q_j1 (fun (v4 : Int32) => (
      q_b8 (f_NameReader_read N nx en lv ky fa fp es f (nI t) rc cc br zc rw sh (nI bl + 1) v4) (fun (v5 : Int32) (v6 : Int32) (v7 : Int32) (v8 : Int32) (v9 : Int32) (v10 : Int32) (v11 : Int32) (v12 : Int32) =>
      if v5 = 0 then (
      some (0, nI w, ql, qk, ol, ok, v6, v7, v8, v9, v10, v11, v12)) else (
      q_j9 (fun (v13 : Int32) (v14 : Int32) (v15 : Int32) (v16 : Int32) (v17 : Int32) (v18 : Int32) (v19 : Int32) (v20 : Int32) (v21 : Int32) => (
      some (1, nI w, v8, v9, v13, v14, v15, v16, v17, v18, v19, v20, v21) : Option (Int32 × Int32 × Int32 × Int32 × Int32 × Int32 × Int32 × Int32 × Int32 × Int32 × Int32 × Int32 × Int32))) (fun (k150 : Int32 → Int32 → Int32 → Int32 → Int32 → Int32 → Int32 → Int32 → Int32 → Option (Int32 × Int32 × Int32 × Int32 × Int32 × Int32 × Int32 × Int32 × Int32 × Int32 × Int32 × Int32 × Int32)) =>
      if (1 : Int32) = 0 then (
      k150 ol ok v6 v7 v8 v9 v10 v11 v12) else (
      q_b10 (f_Question_readOther N ol ok v6 v7 v8 v9 v10 v11 v12 f (nI t) rc cc br zc rw sh (v4 + 1) (nI n)) (fun (v22 : Int32) (v23 : Int32) (v24 : Int32) (v25 : Int32) (v26 : Int32) (v27 : Int32) (v28 : Int32) (v29 : Int32) (v30 : Int32) (v31 : Int32) =>
      if v22 = 0 then (
      some (0, nI w, v8, v9, v23, v24, v25, v26, v27, v28, v29, v30, v31)) else (
      k150 v23 v24 v25 v26 v27 v28 v29 v30 v31)))))) : Option (Int32 × Int32 × Int32 × Int32 × Int32 × Int32 × Int32 × Int32 × Int32 × Int32 × Int32 × Int32 × Int32))) (fun (k93 : Int32 → Option (Int32 × Int32 × Int32 × Int32 × Int32 × Int32 × Int32 × Int32 × Int32 × Int32 × Int32 × Int32 × Int32)) =>
      if (1 : Int32) = 0 then (
      k93 (nI n)) else (
      q_b1 (f_Tape_blankFrom N f (nI t) (nI bl + 1) (nI n)) (fun (v32 : Int32) =>
      k93 v32))) : Option (Int32 × Int32 × Int32 × Int32 × Int32 × Int32 × Int32 × Int32 × Int32 × Int32 × Int32 × Int32 × Int32)) (fun y => z_qX (if (nm_rd R C tb b2 (bl + 1)).1 = 0 then (if b2 = n then (1, n, 1, 0, 0, 0, 0, 0) else if (nm_rd R C tb n (b2 + 1)).1 = 0 then (0, 0, 0, w, (nm_rd R C tb b2 (bl + 1)).2.2.1, (nm_rd R C tb b2 (bl + 1)).2.2.2, (nm_rd R C tb n (b2 + 1)).2.2.1, (nm_rd R C tb n (b2 + 1)).2.2.2) else ((nm_rd R C tb n (b2 + 1)).1, (nm_rd R C tb n (b2 + 1)).2.1, z_er n (nm_rd R C tb n (b2 + 1)).1 (nm_rd R C tb n (b2 + 1)).2.1, 0, 0, 0, 0, 0)) else ((nm_rd R C tb b2 (bl + 1)).1, (nm_rd R C tb b2 (bl + 1)).2.1, z_er b2 (nm_rd R C tb b2 (bl + 1)).1 (nm_rd R C tb b2 (bl + 1)).2.1, 0, 0, 0, 0, 0)) y.1 y.2.1 y.2.2.1 y.2.2.2.1 y.2.2.2.2.1 y.2.2.2.2.2.1 y.2.2.2.2.2.2.2.2.2.2.1 y.2.2.2.2.2.2.2.2.2.2.2.1 y.2.2.2.2.2.2.2.2.2.2.2.2) := by
      rw [z_j1, if_neg (by decide), nI_1, hbf2, q_b1_s]
      dsimp only
      refine Ok.b8 (r_read g h (e := b2) (by omega) ht hN (i := bl + 1) (by omega) nx en lv ky fa fp es) (fun v5 v6 v7 v8 v9 v10 v11 v12 hx => ?_)
      rcases hx with ⟨hF, x1, x2, x3⟩ | ⟨hF, x1, x2, x3, x4⟩
      · dsimp only at x1 x2 x3
        subst x1; subst x2; subst x3
        rw [if_neg (by decide), if_pos hF]
        rw [z_j9, if_neg (by decide), nI_1]
        unfold f_Question_readOther
        by_cases c4 : b2 = n
        · rw [if_neg (by rw [nI_leI (by omega) (by omega)]; omega), r_fwb, q_b4_s, z_bo (Or.inl rfl), q_b10_s, if_pos rfl, if_pos c4]
          exact Ok.ret (Or.inr ⟨by show ¬ (1 : Nat) = 0; omega, rfl, rfl, rfl, rfl⟩)
        · rw [if_pos (by rw [nI_leI (by omega) (by omega)]; omega), if_neg c4]
          have hro : Ok (q_b8 (f_NameReader_read N v6 v7 (nI (nm_rd R C tb b2 (bl + 1)).2.2.1) (nI (nm_rd R C tb b2 (bl + 1)).2.2.2) v10 v11 v12 f (nI t) rc cc br zc rw sh (nI (b2 + 1)) (nI n)) (fun (v1 : Int32) (v2 : Int32) (v3 : Int32) (v4 : Int32) (v5 : Int32) (v6 : Int32) (v7 : Int32) (v8 : Int32) =>
            if v1 = 0 then (
            some (0, ol, ok, v2, v3, v4, v5, v6, v7, v8)) else (
            some (1, v4, v5, v2, v3, v4, v5, v6, v7, v8))) : Option (Int32 × Int32 × Int32 × Int32 × Int32 × Int32 × Int32 × Int32 × Int32 × Int32)) (fun z => z_rdX (z_pr R) (z_pr C) n (nm_rd R C tb n (b2 + 1)) z.1 z.2.1 z.2.2.1 z.2.2.2.2.2.2.2.1 z.2.2.2.2.2.2.2.2.1 z.2.2.2.2.2.2.2.2.2) := by
            refine Ok.b8 (r_read g h (e := n) hn ht hN (i := b2 + 1) (by omega) _ _ _ _ _ _ _) (fun u1 u2 u3 u4 u5 u6 u7 u8 hy => ?_)
            rcases hy with ⟨hF2, y1, y2, y3⟩ | ⟨hF2, y1, y2, y3, y4⟩
            · dsimp only at y1 y2 y3
              subst y1; subst y2; subst y3
              rw [if_neg (by decide)]
              exact Ok.ret (Or.inl ⟨hF2, rfl, rfl, rfl⟩)
            · dsimp only at y1 y2 y3 y4
              subst y1
              rw [if_pos rfl]
              exact Ok.ret (Or.inr ⟨hF2, rfl, y2, y3, y4⟩)
          refine Ok.b10 hro (fun z1 z2 z3 z4 z5 z6 z7 z8 z9 z10 hz => ?_)
          rcases hz with ⟨hF2, y1, y2, y3⟩ | ⟨hF2, y1, y2, y3, y4⟩
          · dsimp only at y1 y2 y3
            subst y1; subst y2; subst y3
            rw [if_neg (by decide), if_pos hF2]
            exact Ok.ret (Or.inl ⟨rfl, rfl, rfl, rfl, rfl, Or.inr ⟨rfl, rfl⟩⟩)
          · dsimp only at y1 y2 y3 y4
            subst y1
            rw [if_pos rfl, if_neg hF2]
            exact Ok.ret (Or.inr ⟨hF2, rfl, y2, y3, y4⟩)
      · dsimp only at x1 x2 x3 x4
        subst x1
        rw [if_pos rfl, if_neg hF]
        exact Ok.ret (Or.inr ⟨hF, rfl, x2, x3, x4⟩)
    rw [z_j0]
    refine Ok.ite (fun _ => K) (fun d5 => Ok.ite (fun _ => K) (fun d6 => ?_))
    rw [z_i 5, nI_eq (by omega) (by omega)] at d5
    rw [z_i 6, nI_eq (by omega) (by omega)] at d6
    omega
/-- what a question gives whose word, names are right -/
theorem nq_in (g : CUT R C (z_pr R) (z_pr C)) (n : Nat) : (nq R C tb n).1 ≤ 3 ∧ (nq R C tb n).2.1 ≤ n ∧ ((nq R C tb n).1 = 0 → (nq R C tb n).2.2.2.1 < 7 ∧ (nq R C tb n).2.2.2.2.1 < 5 ∧ (nq R C tb n).2.2.2.2.2.1 < 2130 * (z_pr R (nq R C tb n).2.2.2.2.1 * z_pr C (nq R C tb n).2.2.2.2.1) + 2 ∧ (5 ≤ (nq R C tb n).2.2.2.1 → (nq R C tb n).2.2.2.2.2.2.1 < 5 ∧ (nq R C tb n).2.2.2.2.2.2.2 < 2130 * (z_pr R (nq R C tb n).2.2.2.2.2.2.1 * z_pr C (nq R C tb n).2.2.2.2.2.2.1) + 2)) := by
  have hb := z_bl_in tb n 0
  unfold nq
  generalize z_bl tb n 0 = bl at *
  by_cases c1 : bl = n
  · rw [if_pos c1]; exact ⟨(show (1 : Nat) ≤ 3 by omega), Nat.le_refl n, fun z => absurd z (by show ¬ (1 : Nat) = 0; omega)⟩
  rw [if_neg c1]
  obtain ⟨w1, w2, w3⟩ := z_word_in tb bl
  generalize z_word tb bl = w at *
  by_cases c2 : w = 7
  · rw [if_pos c2]; exact ⟨(show (1 : Nat) ≤ 3 by omega), Nat.zero_le n, fun z => absurd z (by show ¬ (1 : Nat) = 0; omega)⟩
  rw [if_neg c2]
  by_cases c3 : w < 5
  · rw [if_pos c3]
    obtain ⟨s1, s2, s3⟩ := nm_rd_in g (tb := tb) (e := n) (i := bl + 1) (by omega)
    generalize nm_rd R C tb n (bl + 1) = S at *
    by_cases c4 : S.1 = 0
    · rw [if_pos c4]
      exact ⟨Nat.zero_le 3, Nat.zero_le n, fun _ => ⟨by show w < 7; omega, (s3 c4).1, (s3 c4).2, fun z => absurd z (by show ¬ 5 ≤ w; omega)⟩⟩
    · rw [if_neg c4]; exact ⟨s2, s1, fun z => absurd z c4⟩
  · rw [if_neg c3]
    dsimp only
    have hb2 := z_bl_in tb (n - (bl + 1)) (bl + 1)
    generalize z_bl tb (n - (bl + 1)) (bl + 1) = b2 at *
    obtain ⟨s1, s2, s3⟩ := nm_rd_in g (tb := tb) (e := b2) (i := bl + 1) (by omega)
    generalize nm_rd R C tb b2 (bl + 1) = S at *
    by_cases c4 : S.1 = 0
    · rw [if_pos c4]
      by_cases c5 : b2 = n
      · rw [if_pos c5]; exact ⟨(show (1 : Nat) ≤ 3 by omega), Nat.le_refl n, fun z => absurd z (by show ¬ (1 : Nat) = 0; omega)⟩
      rw [if_neg c5]
      obtain ⟨u1, u2, u3⟩ := nm_rd_in g (tb := tb) (e := n) (i := b2 + 1) (by omega)
      generalize nm_rd R C tb n (b2 + 1) = S2 at *
      by_cases c6 : S2.1 = 0
      · rw [if_pos c6]
        exact ⟨Nat.zero_le 3, Nat.zero_le n, fun _ => ⟨by show w < 7; omega, (s3 c4).1, (s3 c4).2, fun _ => u3 c6⟩⟩
      · rw [if_neg c6]; exact ⟨u2, u1, fun z => absurd z c6⟩
    · rw [if_neg c4]; exact ⟨s2, by show S.2.1 ≤ n; omega, fun z => absurd z c4⟩
theorem nq_er (n : Nat) (h : (nq R C tb n).1 ≠ 0) : (nq R C tb n).2.2.1 = 0 ∨ (nq R C tb n).2.2.1 = 1 := by
  have er : ∀ e F P, z_er e F P = 0 ∨ z_er e F P = 1 := by
    intro e F P
    unfold z_er
    split
    · exact Or.inr rfl
    · exact Or.inl rfl
  revert h
  unfold nq
  by_cases c1 : z_bl tb n 0 = n
  · rw [if_pos c1]; exact fun _ => Or.inr rfl
  rw [if_neg c1]
  by_cases c2 : z_word tb (z_bl tb n 0) = 7
  · rw [if_pos c2]; exact fun _ => Or.inl rfl
  rw [if_neg c2]
  by_cases c3 : z_word tb (z_bl tb n 0) < 5
  · rw [if_pos c3]
    split
    · exact fun z => absurd rfl z
    · exact fun _ => er _ _ _
  · rw [if_neg c3]
    dsimp only
    split
    · split
      · exact fun _ => Or.inr rfl
      · split
        · exact fun z => absurd rfl z
        · exact fun _ => er _ _ _
    · exact fun _ => er _ _ _
end S20B
/-! questions answered: the class -/
section S20C
variable {rc cc br zc rw sh cr cq dp wd za : Nat → Int32} {sv : l_T} {N t n ns : Nat} {f : Nat → Int32} {tb : Nat → Nat}
/-- what a question without a fault is answered -/
def l_aR (sv : l_T) (Q : z_Q) (r : Int32) : Prop :=
  (Q.2.2.2.1 = 4 ∧ Q.2.2.2.2.1 = 0 ∧ r = -2) ∨
  (Q.2.2.2.1 = 4 ∧ Q.2.2.2.2.1 ≠ 0 ∧ ∃ k2, z_upr (z_pr (l_R sv)) (z_pr (l_C sv)) Q.2.2.2.2.1 (Q.2.2.2.2.1 - 1) Q.2.2.2.2.2.1 k2 ∧ r = nI k2) ∨
  (Q.2.2.2.1 < 4 ∧ l_aneighbour sv (nI Q.2.2.2.2.1) (nI Q.2.2.2.2.2.1) (nI Q.2.2.2.1) 0 r) ∨
  (5 ≤ Q.2.2.2.1 ∧ Q.2.2.2.2.1 ≠ Q.2.2.2.2.2.2.1 ∧ r = -2) ∨
  (Q.2.2.2.1 = 5 ∧ Q.2.2.2.2.1 = Q.2.2.2.2.2.2.1 ∧ l_asteps sv (nI Q.2.2.2.2.1) (nI Q.2.2.2.2.2.1) (nI Q.2.2.2.2.2.2.2) r) ∨
  (Q.2.2.2.1 = 6 ∧ Q.2.2.2.2.1 = Q.2.2.2.2.2.2.1 ∧ l_abetween sv (nI Q.2.2.2.2.1) (nI Q.2.2.2.2.2.1) (nI Q.2.2.2.2.2.2.2) r)
theorem l_aR_one {Q : z_Q} {r r' : Int32} (h : l_ok sv) (hl : Q.2.2.2.2.1 < 5) (h1 : l_aR sv Q r) (h2 : l_aR sv Q r') : r = r' := by
  rcases h1 with ⟨a, b, c⟩ | ⟨a, b, k, c, d⟩ | ⟨a, b⟩ | ⟨a, b, c⟩ | ⟨a, b, c⟩ | ⟨a, b, c⟩ <;> rcases h2 with ⟨a', b', c'⟩ | ⟨a', b', k', c', d'⟩ | ⟨a', b'⟩ | ⟨a', b', c'⟩ | ⟨a', b', c'⟩ | ⟨a', b', c'⟩
  all_goals first
    | exact c.trans c'.symm
    | exact l_aneighbour_one h b b'
    | exact l_asteps_one h c c'
    | exact l_abetween_one h c c'
    | (rw [d, d', z_upr_one (h.1.pos _ hl).1 c c'])
    | (exfalso; omega)
    | exact absurd b b'
    | exact absurd b' b
/-- what a question is answered, the counts -/
def z_aP (sv : l_T) (Q : z_Q) (c0 c1 c2 c3 r d0 d1 d2 d3 : Int32) : Prop := z_cnt4 Q.1 Q.2.2.1 c0 c1 c2 c3 d0 d1 d2 d3 ∧ (Q.1 = 0 → l_aR sv Q r) ∧ (Q.1 ≠ 0 → r = z_told Q.1 Q.2.1)
def z_askA (sv : l_T) (t : Nat) (tb : Nat → Nat) (p c0 c1 c2 c3 r ln d0 d1 d2 d3 : Int32) : Prop :=
  (¬ z_txc 100 p t ∧ r = -1 ∧ ln = nI t ∧ d0 = c0 ∧ d1 = c1 ∧ d2 = c2 ∧ d3 = c3) ∨
  (z_txc 100 p t ∧ ln = nI 0 ∧ z_aP sv (nq (l_R sv) (l_C sv) tb p.toInt.toNat) c0 c1 c2 c3 r d0 d1 d2 d3)
theorem r_answerTo (g : GOK (l_R sv) (l_C sv) (z_pr (l_R sv)) (z_pr (l_C sv)) rc cc br zc rw sh) (hN : 3000000 ≤ N) (hs2 : ns < 2 ^ 31) {Q : z_Q} (hw : Q.2.2.2.1 < 7) (hl : Q.2.2.2.2.1 < 5) (hk : Q.2.2.2.2.2.1 < 2130 * (z_pr (l_R sv) Q.2.2.2.2.1 * z_pr (l_C sv) Q.2.2.2.2.1) + 2) (h5 : 5 ≤ Q.2.2.2.1 → Q.2.2.2.2.2.2.1 < 5) {ol ok : Int32} (ho : Q.2.2.2.1 < 5 ∨ (ol = nI Q.2.2.2.2.2.2.1 ∧ ok = nI Q.2.2.2.2.2.2.2)) (f m : Nat → Int32) (a1 a2 a3 a4 a5 a6 : Int32) (a b : Nat → Int32) (mm : Int32) (c d : Nat → Int32) (v1 v2 v3 v4 v5 v6 b1 b2 b3 b4 : Int32) : z_or ns (Ok (f_X_answerTo N ns ns (nI Q.2.2.2.1) (nI Q.2.2.2.2.1) (nI Q.2.2.2.2.2.1) ol ok f m a1 a2 a3 a4 a5 a6 a b mm c d v1 v2 v3 v4 v5 v6 b1 b2 b3 b4 br zc rw sh) (fun x => l_aR sv Q x.1)) (fun nL => Ok (f_X_answerToN N nL ns (nI Q.2.2.2.1) (nI Q.2.2.2.2.1) (nI Q.2.2.2.2.2.1) ol ok f m a1 a2 a3 a4 a5 a6 a b mm c d v1 v2 v3 v4 v5 v6 b1 b2 b3 b4 br zc rw sh) (fun x => l_aR sv Q x.1)) := by
  by_cases h4 : Q.2.2.2.1 = 4
  · left
    unfold f_X_answerTo
    rw [if_pos (show nI Q.2.2.2.1 = 4 by rw [h4]; rfl)]
    by_cases h0 : Q.2.2.2.2.1 = 0
    · rw [if_pos (show nI Q.2.2.2.2.1 = 0 by rw [h0]; rfl)]
      exact Ok.ret (Or.inl ⟨h4, h0, rfl⟩)
    · rw [if_neg (show ¬ nI Q.2.2.2.2.1 = 0 by rw [z_eq0 (by omega)]; exact h0), z_sub1 (by omega)]
      refine Ok.b1 (r_above g (by omega) hl (t := Q.2.2.2.2.1 - 1) (by omega) hk) (fun v hv => ?_)
      obtain ⟨k2, hu, rfl⟩ := hv
      exact Ok.ret (Or.inr (Or.inl ⟨h4, h0, k2, hu, rfl⟩))
  have n4 : ¬ nI Q.2.2.2.1 = 4 := by rw [z_i 4, nI_eq (by omega) (by omega)]; exact h4
  by_cases hw5 : 5 ≤ Q.2.2.2.1
  · have p4 : 4 ≤ nI Q.2.2.2.1 := by rw [z_i 4, nI_leI (by omega) (by omega)]; omega
    have hl2 := h5 hw5
    obtain ⟨rfl, rfl⟩ := ho.resolve_left (by omega)
    by_cases hll : Q.2.2.2.2.1 = Q.2.2.2.2.2.2.1
    · have pll : nI Q.2.2.2.2.1 = nI Q.2.2.2.2.2.2.1 := by rw [hll]
      by_cases h6 : Q.2.2.2.1 = 5
      · have p5 : nI Q.2.2.2.1 = 5 := by rw [h6]; rfl
        rcases a_x_steps g hN hs2 a b mm c d v1 v2 v3 v4 v5 v6 (nI Q.2.2.2.2.1) (nI Q.2.2.2.2.2.1) (nI Q.2.2.2.2.2.2.2) with h | ⟨nL, n1, n2, n3, h⟩
        · left
          unfold f_X_answerTo
          rw [if_neg n4, if_pos p4, if_pos pll, if_pos p5]
          exact Ok.b12 h (fun _ _ _ _ _ _ _ _ _ _ _ _ hx => Ok.ret (Or.inr (Or.inr (Or.inr (Or.inr (Or.inl ⟨h6, hll, hx⟩))))))
        · right
          refine ⟨nL, n1, n2, n3, ?_⟩
          dsimp only at h ⊢
          unfold f_X_answerToN
          rw [if_neg n4, if_pos p4, if_pos pll, if_pos p5]
          exact Ok.b12 h (fun _ _ _ _ _ _ _ _ _ _ _ _ hx => Ok.ret (Or.inr (Or.inr (Or.inr (Or.inr (Or.inl ⟨h6, hll, hx⟩))))))
      · left
        unfold f_X_answerTo
        rw [if_neg n4, if_pos p4, if_pos pll, if_neg (show ¬ nI Q.2.2.2.1 = 5 by rw [z_i 5, nI_eq (by omega) (by omega)]; exact h6)]
        exact Ok.b11 (a_x_between g (by omega) _ _ _ _ _ _ _ _ _ _ _ _ _) (fun _ _ _ _ _ _ _ _ _ _ _ hx => Ok.ret (Or.inr (Or.inr (Or.inr (Or.inr (Or.inr ⟨by omega, hll, hx⟩))))))
    · left
      unfold f_X_answerTo
      rw [if_neg n4, if_pos p4, if_neg (show ¬ nI Q.2.2.2.2.1 = nI Q.2.2.2.2.2.2.1 by rw [nI_eq (by omega) (by omega)]; exact hll)]
      exact Ok.ret (Or.inr (Or.inr (Or.inr (Or.inl ⟨hw5, hll, rfl⟩))))
  · left
    unfold f_X_answerTo
    rw [if_neg n4, if_neg (show ¬ 4 ≤ nI Q.2.2.2.1 by rw [z_i 4, nI_leI (by omega) (by omega)]; omega)]
    exact Ok.b9 (a_x_neighbour g (by omega) f m _ _ _ _ _ _ _ _ _ _) (fun _ _ _ _ _ _ _ _ _ hx => Ok.ret (Or.inr (Or.inr (Or.inl ⟨by omega, hx⟩))))
theorem r_x_ask (g : GOK (l_R sv) (l_C sv) (z_pr (l_R sv)) (z_pr (l_C sv)) rc cc br zc rw sh) (hN : 3000000 ≤ N) (hs2 : ns < 2 ^ 31) (ht : t ≤ 200) (htb : l_tX t tb f) (qw ql qk ol ok nx e lv ky fa fp es : Int32) (sf sm : Nat → Int32) (a1 a2 a3 a4 a5 a6 : Int32) (a b : Nat → Int32) (mm : Int32) (c d : Nat → Int32) (v1 v2 v3 v4 v5 v6 b1 b2 b3 b4 r1 r2 r3 r4 p : Int32) : z_or ns (Ok (f_X_ask N ns ns qw ql qk ol ok nx e lv ky fa fp es f (nI t) sf sm a1 a2 a3 a4 a5 a6 a b mm c d v1 v2 v3 v4 v5 v6 b1 b2 b3 b4 r1 r2 r3 r4 rc cc br zc rw sh p) (fun x => z_askA sv t tb p r1 r2 r3 r4 x.1 x.2.2.2.2.2.2.2.2.2.2.2.2.2.1 x.2.2.2.2.2.2.2.2.2.2.2.2.2.2.2.2.2.2.2.2.2.2.2.2.2.2.2.2.2.2.2.2.2.2.2.2.2.1 x.2.2.2.2.2.2.2.2.2.2.2.2.2.2.2.2.2.2.2.2.2.2.2.2.2.2.2.2.2.2.2.2.2.2.2.2.2.2.1 x.2.2.2.2.2.2.2.2.2.2.2.2.2.2.2.2.2.2.2.2.2.2.2.2.2.2.2.2.2.2.2.2.2.2.2.2.2.2.2.1 x.2.2.2.2.2.2.2.2.2.2.2.2.2.2.2.2.2.2.2.2.2.2.2.2.2.2.2.2.2.2.2.2.2.2.2.2.2.2.2.2)) (fun nL => Ok (f_X_askN N nL ns qw ql qk ol ok nx e lv ky fa fp es f (nI t) sf sm a1 a2 a3 a4 a5 a6 a b mm c d v1 v2 v3 v4 v5 v6 b1 b2 b3 b4 r1 r2 r3 r4 rc cc br zc rw sh p) (fun x => z_askA sv t tb p r1 r2 r3 r4 x.1 x.2.2.2.2.2.2.2.2.2.2.2.2.2.1 x.2.2.2.2.2.2.2.2.2.2.2.2.2.2.2.2.2.2.2.2.2.2.2.2.2.2.2.2.2.2.2.2.2.2.2.2.2.1 x.2.2.2.2.2.2.2.2.2.2.2.2.2.2.2.2.2.2.2.2.2.2.2.2.2.2.2.2.2.2.2.2.2.2.2.2.2.2.1 x.2.2.2.2.2.2.2.2.2.2.2.2.2.2.2.2.2.2.2.2.2.2.2.2.2.2.2.2.2.2.2.2.2.2.2.2.2.2.2.1 x.2.2.2.2.2.2.2.2.2.2.2.2.2.2.2.2.2.2.2.2.2.2.2.2.2.2.2.2.2.2.2.2.2.2.2.2.2.2.2.2)) := by
  obtain ⟨x1, e1, h1⟩ := s_isFrom p 1 100
  by_cases n1 : x1 = 0
  · left
    unfold f_X_ask
    rw [e1, q_b1_s, if_pos n1]
    exact Ok.ret (Or.inl ⟨fun z => z_if0 h1 n1 ⟨z.1, z.2.1⟩, rfl, rfl, rfl, rfl, rfl, rfl⟩)
  by_cases h3 : ¬ p ≤ nI t
  · left
    unfold f_X_ask
    rw [e1, q_b1_s, if_neg n1, if_neg h3]
    exact Ok.ret (Or.inl ⟨fun z => h3 (z_le.mpr (by rw [nI_toInt (by omega)]; exact z.2.2)), rfl, rfl, rfl, rfl, rfl, rfl⟩)
  have h3 := Decidable.not_not.mp h3
  have h3' := z_le.mp h3
  rw [nI_toInt (by omega)] at h3'
  have hc : z_txc 100 p t := ⟨(z_if1 h1 n1).1, (z_if1 h1 n1).2, h3'⟩
  have hc' := hc
  obtain ⟨hc1, hc2, hc3⟩ := hc'
  obtain ⟨n, j1, rfl, j3⟩ := z_nat (r := p) (by omega)
  have hjt : (nI n).toInt.toNat = n := by rw [j3]; rfl
  obtain ⟨⟨y1, y2, y3, y4, y5, y6, y7, y8, y9, y10, y11, y12, y13⟩, e2, h2⟩ := r_question (N := N) (n := n) g htb (by omega) ht (by omega) qw ql qk ol ok nx e lv ky fa fp es
  obtain ⟨q1, q2, q3⟩ := nq_in g.2 (tb := tb) n
  have key : z_askA sv t tb (nI n) r1 r2 r3 r4 = fun r ln d0 d1 d2 d3 => z_askA sv t tb (nI n) r1 r2 r3 r4 r ln d0 d1 d2 d3 := rfl
  have fin : ∀ r d0 d1 d2 d3 : Int32, z_aP sv (nq (l_R sv) (l_C sv) tb n) r1 r2 r3 r4 r d0 d1 d2 d3 → z_askA sv t tb (nI n) r1 r2 r3 r4 r 0 d0 d1 d2 d3 := fun r d0 d1 d2 d3 h => Or.inr ⟨hc, rfl, by rw [hjt]; exact h⟩
  generalize nq (l_R sv) (l_C sv) tb n = Q at *
  rcases h2 with ⟨hF, x1, x2, x3, x4, x5⟩ | ⟨hF, x1, x2, x3, x4⟩
  · dsimp only at x1 x2 x3 x4 x5
    subst x1; subst x2; subst x3; subst x4
    obtain ⟨k1, k2, k3, k4⟩ := q3 hF
    obtain ⟨⟨u1, u2, u3, u4⟩, e4, hcn⟩ := r_countG y11 y13 r1 r2 r3 r4
    dsimp only at hcn
    rcases r_answerTo g hN hs2 k1 k2 k3 (fun z => (k4 z).1) x5 sf sm a1 a2 a3 a4 a5 a6 a b mm c d v1 v2 v3 v4 v5 v6 b1 b2 b3 b4 with h | ⟨nL, m1, m2, m3, h⟩
    · left
      unfold f_X_ask
      rw [e1, q_b1_s, if_neg n1, if_pos h3, e2, q_b13_s, e4, q_b4_s, if_neg (by decide)]
      exact Ok.b24 h (fun _ _ _ _ _ _ _ _ _ _ _ _ _ _ _ _ _ _ _ _ _ _ _ _ hx => Ok.ret (fin _ _ _ _ _ ⟨by rw [hF]; exact hcn _, fun _ => hx, fun z => absurd hF z⟩))
    · right
      refine ⟨nL, m1, m2, m3, ?_⟩
      dsimp only at h ⊢
      unfold f_X_askN
      rw [e1, q_b1_s, if_neg n1, if_pos h3, e2, q_b13_s, e4, q_b4_s, if_neg (by decide)]
      exact Ok.b24 h (fun _ _ _ _ _ _ _ _ _ _ _ _ _ _ _ _ _ _ _ _ _ _ _ _ hx => Ok.ret (fin _ _ _ _ _ ⟨by rw [hF]; exact hcn _, fun _ => hx, fun z => absurd hF z⟩))
  · dsimp only at x1 x2 x3 x4
    subst x1; subst x2; subst x3; subst x4
    obtain ⟨⟨u1, u2, u3, u4⟩, e4, hcn⟩ := r_countB hF q1 Q.2.2.1 r1 r2 r3 r4
    dsimp only at hcn
    left
    unfold f_X_ask
    rw [e1, q_b1_s, if_neg n1, if_pos h3, e2, q_b13_s, e4, q_b4_s, if_pos rfl]
    unfold f_NameReader_told
    rw [q_b1_s]
    exact Ok.ret (fin _ _ _ _ _ ⟨hcn, fun z => absurd z hF, fun _ => rfl⟩)
end S20C
/-! questions answered: the reference -/
section S20D
variable {rc cc br zc rw sh cr cq dp wd za : Nat → Int32} {sv : l_T} {N t n l : Nat} {f : Nat → Int32} {tb : Nat → Nat}
theorem r_betweenOf (g : MOK (l_R sv) (l_C sv) (z_pr (l_R sv)) (z_pr (l_C sv)) cr cq dp wd za) (hN : 1000000 ≤ N) (bl bo : Int64) (ed : Nat → Int64) (x1 x2 x3 x4 x5 : Int32) (hl : l < 5) {k k2 : Nat} (hk : k < 2130 * (z_pr (l_R sv) l * z_pr (l_C sv) l) + 2) (hk2 : k2 < 2130 * (z_pr (l_R sv) l * z_pr (l_C sv) l) + 2) : Ok (f_M_betweenOf N dp wd za bl bo ed x1 x2 x3 x4 x5 (nI l) (nI k) (nI k2)) (fun y => l_abetween sv (nI l) (nI k) (nI k2) y.1) := by
  have hiff : Ok (f_M_between N dp wd za bl bo ed x1 x2 x3 x4 x5 (nI l) (nI k) (nI k2)) (fun x => l_abetween sv (nI l) (nI k) (nI k2) x.1) := a_m_between g hN bl bo ed x1 x2 x3 x4 x5 (nI l) (nI k) (nI k2)
  have z1 : z_hs (z_pr (l_R sv)) (z_pr (l_C sv)) (nI l) (nI k) := ⟨l, k, hl, rfl, rfl, hk⟩
  have z2 : z_hs (z_pr (l_R sv)) (z_pr (l_C sv)) (nI l) (nI k2) := ⟨l, k2, hl, rfl, rfl, hk2⟩
  have i1 : f_M_isKey dp wd za (nI l) (nI k) = some 1 := by
    obtain ⟨v, e, hv⟩ := r_isKey g (nI l) (nI k)
    rcases hv with ⟨-, rfl⟩ | ⟨z, -⟩
    · exact e
    · exact absurd z1 z
  have i2 : f_M_isKey dp wd za (nI l) (nI k2) = some 1 := by
    obtain ⟨v, e, hv⟩ := r_isKey g (nI l) (nI k2)
    rcases hv with ⟨-, rfl⟩ | ⟨z, -⟩
    · exact e
    · exact absurd z2 z
  unfold f_M_between at hiff
  rw [i1, q_b1_s, if_neg (by decide), i2, q_b1_s, if_neg (by decide)] at hiff
  obtain ⟨y, ey, hy⟩ := hiff
  cases hb : f_M_betweenOf N dp wd za bl bo ed x1 x2 x3 x4 x5 (nI l) (nI k) (nI k2) with
  | none => rw [hb] at ey; cases ey
  | some o =>
    obtain ⟨o1, o2, o3, o4, o5, o6, o7, o8, o9⟩ := o
    rw [hb, q_b9_s] at ey
    cases ey
    exact ⟨_, rfl, hy⟩
theorem r_readsUpTo (g : MOK (l_R sv) (l_C sv) (z_pr (l_R sv)) (z_pr (l_C sv)) cr cq dp wd za) (h : l_tM t tb f) {e : Nat} (he : e ≤ t) (ht : t ≤ 200) (hN : 1000 ≤ N) {i : Nat} (hi : i ≤ e) (nu lv ky ea : Int32) : Ok (f_M_readsUpTo N cr cq dp wd za f (nI i) 0 nu lv ky ea (nI e)) (fun y => z_rdM (nm_rd (l_R sv) (l_C sv) tb e i) y.1 y.2.2.1 y.2.2.2.2.1 y.2.2.2.2.2.1 ∧ ((nm_rd (l_R sv) (l_C sv) tb e i).1 ≠ 0 → y.2.2.2.2.2.2 = z_er e (nm_rd (l_R sv) (l_C sv) tb e i).1 (nm_rd (l_R sv) (l_C sv) tb e i).2.1)) := by
  obtain ⟨q1, q2, q3⟩ := nm_rd_in g.2.2 (tb := tb) (e := e) (i := i) hi
  unfold f_M_readsUpTo
  refine Ok.b6 (r_readsName g h he ht hN hi nu lv ky) (fun v1 v2 v3 v4 v5 v6 hx => ?_)
  rw [z_j1]
  dsimp only
  rw [z_j0]
  rcases hx with ⟨hF, x1, x2, x3, x4⟩ | ⟨hF, x1, x2⟩
  · dsimp only at x1 x2 x3 x4
    subst x1; subst x2; subst x3; subst x4
    rw [if_neg (by decide)]
    exact Ok.bo (Or.inl rfl) (Ok.bo (Or.inr rfl) (Ok.ret ⟨Or.inl ⟨hF, rfl, rfl, rfl, rfl⟩, fun z => absurd hF z⟩))
  · dsimp only at x1 x2
    subst x1; subst x2
    rw [if_pos rfl]
    have hz : z_told (nm_rd (l_R sv) (l_C sv) tb e i).1 (nm_rd (l_R sv) (l_C sv) tb e i).2.1 = (-1000) - nI e ↔ (nm_rd (l_R sv) (l_C sv) tb e i).1 = 1 ∧ (nm_rd (l_R sv) (l_C sv) tb e i).2.1 = e := z_told_e q2 (by omega) (by omega)
    refine Ok.ite (fun c => Ok.bo (Or.inr rfl) (Ok.bo (Or.inl rfl) (Ok.ret ⟨Or.inr ⟨hF, rfl, rfl⟩, fun _ => ?_⟩))) (fun c => Ok.bo (Or.inl rfl) (Ok.bo (Or.inl rfl) (Ok.ret ⟨Or.inr ⟨hF, rfl, rfl⟩, fun _ => ?_⟩)))
    · exact (if_pos (hz.mp c)).symm
    · exact (if_neg (fun z => c (hz.mpr z))).symm
theorem r_besideFirst (g : MOK (l_R sv) (l_C sv) (z_pr (l_R sv)) (z_pr (l_C sv)) cr cq dp wd za) (hN : 1000000 ≤ N) (hl : l < 5) {k i : Nat} (hk : k < 2130 * (z_pr (l_R sv) l * z_pr (l_C sv) l) + 2) (hi : i < 4) (fb mb : Int32) : Ok (f_M_besideFirst N dp wd za (nI l) (nI k) fb mb (nI i)) (fun y => l_aneighbour sv (nI l) (nI k) (nI i) 0 y.1 ∧ z_nb fb y.2.1) := by
  have hs := g.2.2.sh hl
  obtain ⟨ro, pl, d1, d2, d3, -, -⟩ := t_spot (N := N) g (by omega) hl hk
  obtain ⟨x, e2, h4, hnb⟩ := r_lays2 (N := N) g (by omega) hl d1 d2 fb mb hi
  have hMF := l_MF_of g.2.2 hl d1 d2
  obtain ⟨m1, m2⟩ := hMF.2 i hi
  rw [← d3] at e2
  unfold f_M_besideFirst
  rw [e2, q_b2_s]
  have fin : ∀ r : Int32, r = l_vnb (l_bM sv l ro pl i) (l_bF sv l ro pl i) 0 → l_aneighbour sv (nI l) (nI k) (nI i) 0 r := fun r h => Or.inr ⟨l, k, ro, pl, i, ⟨⟨l, k, hl, rfl, rfl, hk⟩, ⟨by rw [nI_toInt (by omega)]; omega, by rw [nI_toInt (by omega)]; omega⟩, by decide⟩, ⟨hl, by omega, d1, d2, d3⟩, rfl, rfl, hi, rfl, h⟩
  unfold l_vnb at fin
  refine Ok.ite (fun c => Ok.ret ⟨fin _ ?_, hnb⟩) (fun c => Ok.ret ⟨fin _ ?_, hnb⟩)
  all_goals rw [z_eq0 (by omega)] at c
  · show (-2 : Int32) = _
    rw [if_neg (by decide), if_pos (show nI (l_bM sv l ro pl i) ≤ 0 by rw [z_le0 (show l_bM sv l ro pl i < 2 ^ 31 by unfold l_bM; omega)]; exact c)]
  · show x = _
    rw [if_neg (by decide), if_neg (show ¬ nI (l_bM sv l ro pl i) ≤ 0 by rw [z_le0 (show l_bM sv l ro pl i < 2 ^ 31 by unfold l_bM; omega)]; exact c), h4 c]
    exact (Int32.add_zero _).symm
theorem r_answersOne (g : MOK (l_R sv) (l_C sv) (z_pr (l_R sv)) (z_pr (l_C sv)) cr cq dp wd za) (h : l_tM t tb f) (hn : n ≤ t) (ht : t ≤ 200) (hN : 1000000 ≤ N) {i bl : Nat} (hi : i ≤ n) (hw : z_word tb bl < 5) (nu lv ky c0 c1 c2 c3 fb mb ea : Int32) : Ok (f_M_answersOne N cr cq dp wd za f (nI i) 0 nu lv ky c0 c1 c2 c3 fb mb ea (z_wv tb bl) (nI n)) (fun x => z_aP sv (if (nm_rd (l_R sv) (l_C sv) tb n i).1 = 0 then (0, 0, 0, z_word tb bl, (nm_rd (l_R sv) (l_C sv) tb n i).2.2.1, (nm_rd (l_R sv) (l_C sv) tb n i).2.2.2, 0, 0) else ((nm_rd (l_R sv) (l_C sv) tb n i).1, (nm_rd (l_R sv) (l_C sv) tb n i).2.1, z_er n (nm_rd (l_R sv) (l_C sv) tb n i).1 (nm_rd (l_R sv) (l_C sv) tb n i).2.1, 0, 0, 0, 0, 0)) c0 c1 c2 c3 x.1 x.2.2.2.2.2.2.1 x.2.2.2.2.2.2.2.1 x.2.2.2.2.2.2.2.2.1 x.2.2.2.2.2.2.2.2.2.1 ∧ z_nb fb x.2.2.2.2.2.2.2.2.2.2.1) := by
  obtain ⟨q1, q2, q3⟩ := nm_rd_in g.2.2 (tb := tb) (e := n) (i := i) hi
  have W0 : lg_cmp (z_wv tb bl) 15190664 = 0 ↔ z_word tb bl = 0 := z_wv_w (k := 0) (by omega)
  have W1 : lg_cmp (z_wv tb bl) 165492 = 0 ↔ z_word tb bl = 1 := z_wv_w (k := 1) (by omega)
  have W2 : lg_cmp (z_wv tb bl) 20436616 = 0 ↔ z_word tb bl = 2 := z_wv_w (k := 2) (by omega)
  have W4 : lg_cmp (z_wv tb bl) 1130181 = 0 ↔ z_word tb bl = 4 := z_wv_w (k := 4) (by omega)
  unfold f_M_answersOne
  refine Ok.b7 (r_readsUpTo g h hn ht (by omega) hi nu lv ky ea) (fun v1 v2 v3 v4 v5 v6 v7 hx => ?_)
  obtain ⟨hx, hea⟩ := hx
  dsimp only at hx hea
  generalize nm_rd (l_R sv) (l_C sv) tb n i = S at *
  rcases hx with ⟨hF, x1, x2, x3, x4⟩ | ⟨hF, x1, x2⟩
  rotate_left
  · subst x1; subst x2
    rw [hea hF, if_neg hF]
    refine Ok.b5 (r_countedB hF q2 (by omega) c0 c1 c2 c3 _) (fun v8 v9 v10 v11 v12 hc => ?_)
    obtain ⟨hc1, hc2⟩ := hc
    dsimp only at hc1 hc2
    rw [if_pos hc1]
    exact Ok.ret ⟨⟨hc2, fun z => absurd z hF, fun _ => rfl⟩, z_nb_r fb⟩
  subst x1; subst x2; subst x3; subst x4
  obtain ⟨k1, k2⟩ := q3 hF
  rw [if_pos hF]
  refine Ok.b5 (r_countedG 0 c0 c1 c2 c3 v7) (fun v8 v9 v10 v11 v12 hc => ?_)
  obtain ⟨hc1, hc2⟩ := hc
  dsimp only at hc1 hc2
  rw [if_neg (by rw [hc1]; decide)]
  by_cases w4 : z_word tb bl = 4
  · rw [if_pos (W4.mpr w4)]
    by_cases h0 : S.2.2.1 = 0
    · rw [if_pos (show nI S.2.2.1 = 0 by rw [h0]; rfl)]
      exact Ok.ret ⟨⟨hc2 _, fun _ => Or.inl ⟨w4, h0, rfl⟩, fun z => absurd rfl z⟩, z_nb_r fb⟩
    · rw [if_neg (show ¬ nI S.2.2.1 = 0 by rw [z_eq0 (by omega)]; exact h0), z_sub1 (by omega)]
      refine Ok.b1 (r_parentOf g (by omega) k1 (t := S.2.2.1 - 1) (by omega) k2) (fun v hv => ?_)
      obtain ⟨u, hu, rfl⟩ := hv
      exact Ok.ret ⟨⟨hc2 _, fun _ => Or.inr (Or.inl ⟨w4, h0, u, hu, rfl⟩), fun z => absurd rfl z⟩, z_nb_r fb⟩
  rw [if_neg (fun z => w4 (W4.mp z))]
  refine Ok.k1 (fun v => v = nI (z_word tb bl)) (fun x => z_aP sv (0, 0, 0, z_word tb bl, S.2.2.1, S.2.2.2, 0, 0) c0 c1 c2 c3 x.1 x.2.2.2.2.2.2.1 x.2.2.2.2.2.2.2.1 x.2.2.2.2.2.2.2.2.1 x.2.2.2.2.2.2.2.2.2.1 ∧ z_nb fb x.2.2.2.2.2.2.2.2.2.2.1) (fun v13 h13 => ?_) (fun K hK => ?_)
  · subst h13
    refine Ok.b3 (r_besideFirst g hN k1 k2 (by omega) fb mb) (fun v14 v15 v16 h14 => ?_)
    obtain ⟨h14, hnb⟩ := h14
    dsimp only at h14 hnb
    exact Ok.ret ⟨⟨hc2 _, fun _ => Or.inr (Or.inr (Or.inl ⟨show z_word tb bl < 4 by omega, h14⟩)), fun z => absurd rfl z⟩, hnb⟩
  · refine Ok.ite (fun c => hK _ ?_) (fun c0' => Ok.ite (fun c => hK _ ?_) (fun c1' => Ok.ite (fun c => hK _ ?_) (fun c2' => hK _ ?_)))
    · rw [W0.mp c]; rfl
    · rw [W1.mp c]; rfl
    · rw [W2.mp c]; rfl
    · have a0 : ¬ z_word tb bl = 0 := fun z => c0' (W0.mpr z)
      have a1 : ¬ z_word tb bl = 1 := fun z => c1' (W1.mpr z)
      have a2 : ¬ z_word tb bl = 2 := fun z => c2' (W2.mpr z)
      have a3 : z_word tb bl = 3 := by omega
      rw [a3]; rfl
theorem r_answersTwo (g : MOK (l_R sv) (l_C sv) (z_pr (l_R sv)) (z_pr (l_C sv)) cr cq dp wd za) (h : l_tM t tb f) (hn : n ≤ t) (ht : t ≤ 200) (hN : 1000000 ≤ N) {i w : Nat} (hi : i ≤ n) (hw : w = 5 ∨ w = 6) (nu lv ky c0 c1 c2 c3 : Int32) (bt bo : Int64) (ed : Nat → Int64) (fb mb : Int32) (di qu : Nat → Int32) (qd x1 x2 x3 x4 x5 ea z : Int32) (hz : z = if w = 5 then 1 else 0) : Ok (f_M_answersTwo N cr cq dp wd za f (nI i) 0 nu lv ky c0 c1 c2 c3 bt bo ed fb mb di qu qd x1 x2 x3 x4 x5 ea z (nI n)) (fun x => z_aP sv ((fun b2 => (fun S : Nat × Nat × Nat × Nat => if S.1 = 0 then
        (if b2 = n then (1, n, 1, 0, 0, 0, 0, 0)
         else (fun S2 : Nat × Nat × Nat × Nat => if S2.1 = 0 then (0, 0, 0, w, S.2.2.1, S.2.2.2, S2.2.2.1, S2.2.2.2) else (S2.1, S2.2.1, z_er n S2.1 S2.2.1, 0, 0, 0, 0, 0)) (nm_rd (l_R sv) (l_C sv) tb n (b2 + 1)))
      else (S.1, S.2.1, z_er b2 S.1 S.2.1, 0, 0, 0, 0, 0)) (nm_rd (l_R sv) (l_C sv) tb b2 i)) (z_bl tb (n - i) i)) c0 c1 c2 c3 x.1 x.2.2.2.2.2.2.1 x.2.2.2.2.2.2.2.1 x.2.2.2.2.2.2.2.2.1 x.2.2.2.2.2.2.2.2.2.1 ∧ z_nb fb x.2.2.2.2.2.2.2.2.2.2.2.2.2.1) := by
  have hb := z_bl_in tb (n - i) i
  unfold f_M_answersTwo
  rw [r_blankFromM h hn ht (by omega) hi, q_b1_s]
  dsimp only
  generalize z_bl tb (n - i) i = b2 at *
  refine Ok.b7 (r_readsUpTo g h (e := b2) (by omega) ht (by omega) (by omega) nu lv ky ea) (fun v2 v3 v4 v5 v6 v7 v8 hx => ?_)
  obtain ⟨hx, hea⟩ := hx
  dsimp only at hx hea
  obtain ⟨q1, q2, q3⟩ := nm_rd_in g.2.2 (tb := tb) (e := b2) (i := i) (by omega)
  generalize nm_rd (l_R sv) (l_C sv) tb b2 i = S at *
  have hd2 : b2 < n → (nm_rd (l_R sv) (l_C sv) tb n (b2 + 1)).2.1 ≤ n ∧ (nm_rd (l_R sv) (l_C sv) tb n (b2 + 1)).1 ≤ 3 ∧ ((nm_rd (l_R sv) (l_C sv) tb n (b2 + 1)).1 = 0 → (nm_rd (l_R sv) (l_C sv) tb n (b2 + 1)).2.2.1 < 5 ∧ (nm_rd (l_R sv) (l_C sv) tb n (b2 + 1)).2.2.2 < 2130 * (z_pr (l_R sv) (nm_rd (l_R sv) (l_C sv) tb n (b2 + 1)).2.2.1 * z_pr (l_C sv) (nm_rd (l_R sv) (l_C sv) tb n (b2 + 1)).2.2.1) + 2) := fun hh => nm_rd_in g.2.2 (tb := tb) (e := n) (i := b2 + 1) (by omega)
  have hrd2 : b2 < n → ∀ nu lv ky ea : Int32, Ok (f_M_readsUpTo N cr cq dp wd za f (nI (b2 + 1)) 0 nu lv ky ea (nI n)) (fun y => z_rdM (nm_rd (l_R sv) (l_C sv) tb n (b2 + 1)) y.1 y.2.2.1 y.2.2.2.2.1 y.2.2.2.2.2.1 ∧ ((nm_rd (l_R sv) (l_C sv) tb n (b2 + 1)).1 ≠ 0 → y.2.2.2.2.2.2 = z_er n (nm_rd (l_R sv) (l_C sv) tb n (b2 + 1)).1 (nm_rd (l_R sv) (l_C sv) tb n (b2 + 1)).2.1)) := fun hh nu lv ky ea => r_readsUpTo g h hn ht (by omega) (by omega) nu lv ky ea
  generalize nm_rd (l_R sv) (l_C sv) tb n (b2 + 1) = S2 at *
  generalize hQ : (if S.1 = 0 then (if b2 = n then (1, n, 1, 0, 0, 0, 0, 0) else if S2.1 = 0 then (0, 0, 0, w, S.2.2.1, S.2.2.2, S2.2.2.1, S2.2.2.2) else (S2.1, S2.2.1, z_er n S2.1 S2.2.1, 0, 0, 0, 0, 0)) else (S.1, S.2.1, z_er b2 S.1 S.2.1, 0, 0, 0, 0, 0) : z_Q) = Q
  have hQ3 : Q.1 ≤ 3 ∧ Q.2.1 ≤ 200 := by
    rw [← hQ]
    by_cases d1 : S.1 = 0
    · rw [if_pos d1]
      by_cases d2 : b2 = n
      · rw [if_pos d2]; exact ⟨(show (1 : Nat) ≤ 3 by omega), (show n ≤ 200 by omega)⟩
      · rw [if_neg d2]
        have := hd2 (by omega)
        by_cases d3 : S2.1 = 0
        · rw [if_pos d3]; exact ⟨Nat.zero_le 3, Nat.zero_le 200⟩
        · rw [if_neg d3]; exact ⟨this.2.1, (show S2.2.1 ≤ 200 by omega)⟩
    · rw [if_neg d1]; exact ⟨q2, (show S.2.1 ≤ 200 by omega)⟩
  refine Ok.k3 (fun v9 v10 v11 => (Q.1 ≠ 0 ∧ v9 = 0 ∧ v10 = z_told Q.1 Q.2.1 ∧ v11 = Q.2.2.1) ∨ (v9 = 1 ∧ v10 = 0 ∧ S.1 = 0 ∧ b2 < n ∧ v6 = nI S.2.2.1 ∧ v7 = nI S.2.2.2)) (fun x => z_aP sv Q c0 c1 c2 c3 x.1 x.2.2.2.2.2.2.1 x.2.2.2.2.2.2.2.1 x.2.2.2.2.2.2.2.2.1 x.2.2.2.2.2.2.2.2.2.1 ∧ z_nb fb x.2.2.2.2.2.2.2.2.2.2.2.2.2.1) (fun v9 v10 v11 h9 => ?_) (fun K hK => ?_)
  rotate_left
  · rcases hx with ⟨hF, y1, y2, y3, y4⟩ | ⟨hF, y1, y2⟩
    · rw [if_neg (show ¬ v2 = 0 by rw [y1]; decide)]
      by_cases d2 : b2 = n
      · rw [if_pos (show nI b2 = nI n by rw [d2]), y2, z_i 1, r_wrong, q_b2_s]
        refine hK _ _ _ (Or.inl ?_)
        rw [← hQ, if_pos hF, if_pos d2]
        exact ⟨show ¬ (1 : Nat) = 0 by omega, rfl, rfl, rfl⟩
      · rw [if_neg (show ¬ nI b2 = nI n by rw [nI_eq (by omega) (by omega)]; exact d2)]
        exact hK _ _ _ (Or.inr ⟨y1, y2, hF, by omega, y3, y4⟩)
    · rw [if_pos y1]
      refine hK _ _ _ (Or.inl ?_)
      rw [← hQ, if_neg hF]
      exact ⟨hF, y1, y2, hea hF⟩
  rw [nI_1, z_nm]
  refine Ok.k7 (fun v13 _ v15 _ v17 v18 v19 => (Q.1 ≠ 0 ∧ v13 = 0 ∧ v15 = z_told Q.1 Q.2.1 ∧ v19 = Q.2.2.1) ∨ (v13 = 1 ∧ S.1 = 0 ∧ b2 < n ∧ S2.1 = 0 ∧ v6 = nI S.2.2.1 ∧ v7 = nI S.2.2.2 ∧ v17 = nI S2.2.2.1 ∧ v18 = nI S2.2.2.2)) (fun x => z_aP sv Q c0 c1 c2 c3 x.1 x.2.2.2.2.2.2.1 x.2.2.2.2.2.2.2.1 x.2.2.2.2.2.2.2.2.1 x.2.2.2.2.2.2.2.2.2.1 ∧ z_nb fb x.2.2.2.2.2.2.2.2.2.2.2.2.2.1) (fun v13 v14 v15 v16 v17 v18 v19 h13 => ?_) (fun K hK => ?_)
  · rcases h13 with ⟨hF, y1, y2, y3⟩ | ⟨y1, s1, s2, s3, y2, y3, y4, y5⟩
    · subst y1; subst y2; subst y3
      refine Ok.b5 (r_countedB hF hQ3.1 hQ3.2 c0 c1 c2 c3 _) (fun v20 v21 v22 v23 v24 hc => ?_)
      obtain ⟨hc1, hc2⟩ := hc
      dsimp only at hc1 hc2
      rw [if_pos hc1]
      exact Ok.ret ⟨⟨hc2, fun u => absurd u hF, fun _ => rfl⟩, z_nb_r fb⟩
    · subst y1; subst y2; subst y3; subst y4; subst y5
      have hQe : Q = (0, 0, 0, w, S.2.2.1, S.2.2.2, S2.2.2.1, S2.2.2.2) := by rw [← hQ, if_pos s1, if_neg (by omega), if_pos s3]
      obtain ⟨k1, k2⟩ := q3 s1
      obtain ⟨k3, k4⟩ := (hd2 s2).2.2 s3
      refine Ok.b5 (r_countedG v15 c0 c1 c2 c3 v19) (fun v20 v21 v22 v23 v24 hc => ?_)
      obtain ⟨hc1, hc2⟩ := hc
      dsimp only at hc1 hc2
      rw [if_neg (show ¬ v20 = 0 by rw [hc1]; decide)]
      have fin : ∀ r, l_aR sv (0, 0, 0, w, S.2.2.1, S.2.2.2, S2.2.2.1, S2.2.2.2) r → z_aP sv Q c0 c1 c2 c3 r v21 v22 v23 v24 := by
        intro r hr
        rw [hQe]
        exact ⟨hc2 _, fun _ => hr, fun u => absurd rfl u⟩
      by_cases hll : S.2.2.1 = S2.2.2.1
      · rw [if_pos (show nI S.2.2.1 = nI S2.2.2.1 by rw [hll])]
        rw [← hll] at k4
        rcases hw with hw | hw
        · rw [if_neg (show ¬ z = 0 by rw [hz, if_pos hw]; decide)]
          refine Ok.b6 (r_stepsOf g hN k1 k2 k4 fb mb di qu qd) (fun _ _ _ _ _ _ hs => Ok.ret ⟨fin _ (Or.inr (Or.inr (Or.inr (Or.inr (Or.inl ⟨hw, hll, ?_⟩))))), hs.2⟩)
          exact l_rl2Y trivial ⟨k1, rfl, rfl, rfl, k2, k4⟩ hs.1
        · rw [if_pos (show z = 0 by rw [hz, if_neg (by omega)])]
          exact Ok.b9 (r_betweenOf g hN bt bo ed x1 x2 x3 x4 x5 k1 k2 k4) (fun _ _ _ _ _ _ _ _ _ hs => Ok.ret ⟨fin _ (Or.inr (Or.inr (Or.inr (Or.inr (Or.inr ⟨hw, hll, hs⟩))))), z_nb_r fb⟩)
      · rw [if_neg (show ¬ nI S.2.2.1 = nI S2.2.2.1 by rw [nI_eq (by omega) (by omega)]; exact hll)]
        exact Ok.ret ⟨fin _ (Or.inr (Or.inr (Or.inr (Or.inl ⟨show 5 ≤ w by omega, hll, rfl⟩)))), z_nb_r fb⟩
  · refine Ok.k6 (fun _ v41 _ _ _ v45 => Q.1 ≠ 0 ∧ v41 = z_told Q.1 Q.2.1 ∧ v45 = Q.2.2.1) (fun x => z_aP sv Q c0 c1 c2 c3 x.1 x.2.2.2.2.2.2.1 x.2.2.2.2.2.2.2.1 x.2.2.2.2.2.2.2.2.1 x.2.2.2.2.2.2.2.2.2.1 ∧ z_nb fb x.2.2.2.2.2.2.2.2.2.2.2.2.2.1) (fun v40 v41 v42 v43 v44 v45 h40 => hK _ _ _ _ _ _ _ (Or.inl ⟨h40.1, rfl, h40.2.1, h40.2.2⟩)) (fun K2 hK2 => ?_)
    rcases h9 with ⟨hF, y1, y2, y3⟩ | ⟨y1, y2, s1, s2, y3, y4⟩
    · rw [if_pos y1]
      exact hK2 _ _ _ _ _ _ ⟨hF, y2, y3⟩
    · subst y2
      rw [if_neg (show ¬ v9 = 0 by rw [y1]; decide)]
      refine Ok.b7 (hrd2 s2 _ _ _ _) (fun v46 v47 v48 v49 v50 v51 v52 h46 => ?_)
      obtain ⟨h46, h52⟩ := h46
      dsimp only at h46 h52
      rcases h46 with ⟨hF2, u1, u2, u3, u4⟩ | ⟨hF2, u1, u2⟩
      · rw [if_neg (show ¬ v46 = 0 by rw [u1]; decide)]
        exact hK _ _ _ _ _ _ _ (Or.inr ⟨rfl, s1, s2, hF2, y3, y4, u3, u4⟩)
      · rw [if_pos u1]
        refine hK2 _ _ _ _ _ _ ?_
        rw [← hQ, if_pos s1, if_neg (by omega), if_neg hF2]
        exact ⟨hF2, u2, h52 hF2⟩
theorem r_m_ask (g : MOK (l_R sv) (l_C sv) (z_pr (l_R sv)) (z_pr (l_C sv)) cr cq dp wd za) (hN : 1000000 ≤ N) (ht : t ≤ 200) (htb : l_tM t tb f) (pa fa nu lv ky c0 c1 c2 c3 : Int32) (bt bo : Int64) (ed : Nat → Int64) (fb mb : Int32) (di qu : Nat → Int32) (qd x1 x2 x3 x4 x5 ea p : Int32) : Ok (f_M_ask N cr cq dp wd za f (nI t) pa fa nu lv ky c0 c1 c2 c3 bt bo ed fb mb di qu qd x1 x2 x3 x4 x5 ea p) (fun x => z_askA sv t tb p c0 c1 c2 c3 x.1 x.2.1 x.2.2.2.2.2.2.2.1 x.2.2.2.2.2.2.2.2.1 x.2.2.2.2.2.2.2.2.2.1 x.2.2.2.2.2.2.2.2.2.2.1 ∧ z_nb fb x.2.2.2.2.2.2.2.2.2.2.2.2.2.2.1) := by
  unfold f_M_ask
  refine Ok.b1 (t_in _ _ _) (fun v1 h1 => ?_)
  rw [z_toL, show (1 : Int64).toInt = 1 from rfl, show (100 : Int64).toInt = 100 from rfl] at h1
  refine Ok.ite (fun n1 => Ok.ret ⟨Or.inl ⟨fun z => z_if0 h1 n1 ⟨z.1, z.2.1⟩, rfl, rfl, rfl, rfl, rfl, rfl⟩, z_nb_r fb⟩) (fun n1 => Ok.ite (fun h3 => ?_) (fun h3 => ?_))
  rotate_left
  · exact Ok.ret ⟨Or.inl ⟨fun z => h3 (z_le.mpr (by rw [nI_toInt (by omega)]; exact z.2.2)), rfl, rfl, rfl, rfl, rfl, rfl⟩, z_nb_r fb⟩
  have hin := z_if1 h1 n1
  have h4 := z_le.mp h3
  rw [nI_toInt (by omega)] at h4
  have hc : z_txc 100 p t := ⟨hin.1, hin.2, h4⟩
  obtain ⟨n, j1, rfl, j3⟩ := z_nat (r := p) (by omega)
  have hjt : (nI n).toInt.toNat = n := by rw [j3]; rfl
  have hn : n ≤ t := by omega
  refine Ok.weak (Q := fun x => x.2.1 = 0 ∧ z_aP sv (nq (l_R sv) (l_C sv) tb n) c0 c1 c2 c3 x.1 x.2.2.2.2.2.2.2.1 x.2.2.2.2.2.2.2.2.1 x.2.2.2.2.2.2.2.2.2.1 x.2.2.2.2.2.2.2.2.2.2.1 ∧ z_nb fb x.2.2.2.2.2.2.2.2.2.2.2.2.2.2.1) ?_ (fun x hx => ⟨Or.inr ⟨hc, hx.1, by rw [hjt]; exact hx.2.1⟩, hx.2.2⟩)
  have hbf : f_M_blankFrom N f 0 (nI n) = some (nI (z_bl tb n 0)) := by
    have := r_blankFromM (N := N) htb hn ht (by omega) (k := 0) (by omega)
    rw [Nat.sub_zero] at this
    exact this
  have hb := z_bl_in tb n 0
  rw [hbf, q_b1_s]
  have hq : ∀ c : z_bl tb n 0 = n, nq (l_R sv) (l_C sv) tb n = (1, n, 1, 0, 0, 0, 0, 0) := fun c => by unfold nq; rw [if_pos c]
  have hq7 : ∀ (_ : ¬ z_bl tb n 0 = n) (_ : z_word tb (z_bl tb n 0) = 7), nq (l_R sv) (l_C sv) tb n = (1, 0, 0, 0, 0, 0, 0, 0) := fun c c2 => by unfold nq; rw [if_neg c, if_pos c2]
  have hq5 : ∀ (_ : ¬ z_bl tb n 0 = n) (_ : z_word tb (z_bl tb n 0) < 5), nq (l_R sv) (l_C sv) tb n = (if (nm_rd (l_R sv) (l_C sv) tb n (z_bl tb n 0 + 1)).1 = 0 then (0, 0, 0, z_word tb (z_bl tb n 0), (nm_rd (l_R sv) (l_C sv) tb n (z_bl tb n 0 + 1)).2.2.1, (nm_rd (l_R sv) (l_C sv) tb n (z_bl tb n 0 + 1)).2.2.2, 0, 0) else ((nm_rd (l_R sv) (l_C sv) tb n (z_bl tb n 0 + 1)).1, (nm_rd (l_R sv) (l_C sv) tb n (z_bl tb n 0 + 1)).2.1, z_er n (nm_rd (l_R sv) (l_C sv) tb n (z_bl tb n 0 + 1)).1 (nm_rd (l_R sv) (l_C sv) tb n (z_bl tb n 0 + 1)).2.1, 0, 0, 0, 0, 0)) := fun c c2 => by unfold nq; rw [if_neg c, if_neg (by omega), if_pos c2]
  have hq6 : ∀ (_ : ¬ z_bl tb n 0 = n) (_ : ¬ z_word tb (z_bl tb n 0) = 7) (_ : ¬ z_word tb (z_bl tb n 0) < 5), nq (l_R sv) (l_C sv) tb n = ((fun b2 => (fun S : Nat × Nat × Nat × Nat => if S.1 = 0 then
        (if b2 = n then (1, n, 1, 0, 0, 0, 0, 0)
         else (fun S2 : Nat × Nat × Nat × Nat => if S2.1 = 0 then (0, 0, 0, z_word tb (z_bl tb n 0), S.2.2.1, S.2.2.2, S2.2.2.1, S2.2.2.2) else (S2.1, S2.2.1, z_er n S2.1 S2.2.1, 0, 0, 0, 0, 0)) (nm_rd (l_R sv) (l_C sv) tb n (b2 + 1)))
      else (S.1, S.2.1, z_er b2 S.1 S.2.1, 0, 0, 0, 0, 0)) (nm_rd (l_R sv) (l_C sv) tb b2 (z_bl tb n 0 + 1))) (z_bl tb (n - (z_bl tb n 0 + 1)) (z_bl tb n 0 + 1))) := fun c c2 c3 => by unfold nq; rw [if_neg c, if_neg c2, if_neg c3]
  generalize nq (l_R sv) (l_C sv) tb n = Q at *
  generalize hbl : z_bl tb n 0 = bl at *
  obtain ⟨w1, w2, w3⟩ := z_word_in tb bl
  have W0 : lg_cmp (z_wv tb bl) 15190664 = 0 ↔ z_word tb bl = 0 := z_wv_w (k := 0) (by omega)
  have W1 : lg_cmp (z_wv tb bl) 165492 = 0 ↔ z_word tb bl = 1 := z_wv_w (k := 1) (by omega)
  have W2 : lg_cmp (z_wv tb bl) 20436616 = 0 ↔ z_word tb bl = 2 := z_wv_w (k := 2) (by omega)
  have W3 : lg_cmp (z_wv tb bl) 759412 = 0 ↔ z_word tb bl = 3 := z_wv_w (k := 3) (by omega)
  have W4 : lg_cmp (z_wv tb bl) 1130181 = 0 ↔ z_word tb bl = 4 := z_wv_w (k := 4) (by omega)
  have W5 : lg_cmp (z_wv tb bl) 20583955 = 0 ↔ z_word tb bl = 5 := z_wv_w (k := 5) (by omega)
  have W6 : lg_cmp (z_wv tb bl) 2336986286 = 0 ↔ z_word tb bl = 6 := z_wv_w (k := 6) (by omega)
  refine Ok.k2 (fun v3 v4 => (bl = n ∧ v3 = 0 ∧ v4 = z_told 1 n) ∨ (bl < n ∧ v3 = 1 ∧ v4 = 0)) (fun x => x.2.1 = 0 ∧ z_aP sv Q c0 c1 c2 c3 x.1 x.2.2.2.2.2.2.2.1 x.2.2.2.2.2.2.2.2.1 x.2.2.2.2.2.2.2.2.2.1 x.2.2.2.2.2.2.2.2.2.2.1 ∧ z_nb fb x.2.2.2.2.2.2.2.2.2.2.2.2.2.2.1) (fun v3 v4 h34 => ?_) (fun K hK => ?_)
  rotate_left
  · refine Ok.k1 (fun v59 => bl < n ∧ v59 = 0) (fun x => x.2.1 = 0 ∧ z_aP sv Q c0 c1 c2 c3 x.1 x.2.2.2.2.2.2.2.1 x.2.2.2.2.2.2.2.2.1 x.2.2.2.2.2.2.2.2.2.1 x.2.2.2.2.2.2.2.2.2.2.1 ∧ z_nb fb x.2.2.2.2.2.2.2.2.2.2.2.2.2.2.1) (fun v59 h59 => hK _ _ (Or.inr ⟨h59.1, rfl, h59.2⟩)) (fun K2 hK2 => ?_)
    by_cases c : bl < n
    · rw [if_pos (by rw [nI_ltI (by omega) (by omega)]; exact c)]
      exact hK2 _ ⟨c, rfl⟩
    · rw [if_neg (by rw [nI_ltI (by omega) (by omega)]; exact c), z_i 1, r_wrong, q_b2_s, if_pos rfl]
      exact hK _ _ (Or.inl ⟨by omega, rfl, rfl⟩)
  rcases h34 with ⟨e1, rfl, rfl⟩ | ⟨e1, rfl, rfl⟩
  · rw [if_pos rfl, hq e1]
    refine Ok.b5 (r_countedB (F := 1) (P := n) (by omega) (by omega) (by omega) c0 c1 c2 c3 1) (fun _ _ _ _ _ hc => Ok.ret ⟨rfl, ⟨hc.2, fun u => absurd u (show ¬ (1 : Nat) = 0 by omega), fun _ => rfl⟩, z_nb_r fb⟩)
  have hbn : ¬ bl = n := by omega
  rw [if_neg (by decide), r_wordToM htb (by omega) ht (by omega), q_b1_s]
  refine Ok.k1 (fun v6 => v6 = if 5 ≤ z_word tb bl ∧ z_word tb bl < 7 then 1 else 0) (fun x => x.2.1 = 0 ∧ z_aP sv Q c0 c1 c2 c3 x.1 x.2.2.2.2.2.2.2.1 x.2.2.2.2.2.2.2.2.1 x.2.2.2.2.2.2.2.2.2.1 x.2.2.2.2.2.2.2.2.2.2.1 ∧ z_nb fb x.2.2.2.2.2.2.2.2.2.2.2.2.2.2.1) (fun v6 h6 => ?_) (fun K hK => ?_)
  rotate_left
  · rw [z_j0]
    refine Ok.ite (fun c => hK _ ?_) (fun c5 => Ok.ite (fun c => hK _ ?_) (fun c6 => hK _ ?_))
    · have := W5.mp c
      rw [if_pos (by omega)]
    · have := W6.mp c
      rw [if_pos (by omega)]
    · have a5 : ¬ z_word tb bl = 5 := fun u => c5 (W5.mpr u)
      have a6 : ¬ z_word tb bl = 6 := fun u => c6 (W6.mpr u)
      rw [if_neg (by omega)]
  refine Ok.k1 (fun v7 => v7 = if z_word tb bl < 5 then 1 else 0) (fun x => x.2.1 = 0 ∧ z_aP sv Q c0 c1 c2 c3 x.1 x.2.2.2.2.2.2.2.1 x.2.2.2.2.2.2.2.2.1 x.2.2.2.2.2.2.2.2.2.1 x.2.2.2.2.2.2.2.2.2.2.1 ∧ z_nb fb x.2.2.2.2.2.2.2.2.2.2.2.2.2.2.1) (fun v7 h7 => ?_) (fun K hK => ?_)
  rotate_left
  · rw [z_j0]
    refine Ok.ite (fun c => hK _ ?_) (fun d0 => Ok.ite (fun c => hK _ ?_) (fun d1 => Ok.ite (fun c => hK _ ?_) (fun d2 => Ok.ite (fun c => hK _ ?_) (fun d3 => Ok.ite (fun c => hK _ ?_) (fun d4 => hK _ ?_)))))
    · have := W0.mp c
      rw [if_pos (by omega)]
    · have := W1.mp c
      rw [if_pos (by omega)]
    · have := W2.mp c
      rw [if_pos (by omega)]
    · have := W3.mp c
      rw [if_pos (by omega)]
    · have := W4.mp c
      rw [if_pos (by omega)]
    · have a0 : ¬ z_word tb bl = 0 := fun u => d0 (W0.mpr u)
      have a1 : ¬ z_word tb bl = 1 := fun u => d1 (W1.mpr u)
      have a2 : ¬ z_word tb bl = 2 := fun u => d2 (W2.mpr u)
      have a3 : ¬ z_word tb bl = 3 := fun u => d3 (W3.mpr u)
      have a4 : ¬ z_word tb bl = 4 := fun u => d4 (W4.mpr u)
      rw [if_neg (by omega)]
  by_cases c7 : z_word tb bl = 7
  · rw [if_neg (by omega)] at h6 h7
    rw [z_j0, if_pos h6, if_pos h7, show (0 : Int32) = nI 0 from rfl, z_i 1, show f_M_wrong (nI 0) (nI 1) (nI 0) = some (0, z_told 1 0) from r_wrong 1 0, q_b2_s, hq7 hbn c7]
    exact Ok.b5 (r_countedB (F := 1) (P := 0) (by omega) (by omega) (by omega) c0 c1 c2 c3 0) (fun _ _ _ _ _ hc => Ok.ret ⟨rfl, ⟨hc.2, fun u => absurd u (show ¬ (1 : Nat) = 0 by omega), fun _ => rfl⟩, z_nb_r fb⟩)
  by_cases c5 : z_word tb bl < 5
  · rw [if_neg (by omega)] at h6
    rw [if_pos c5] at h7
    refine Ok.k0 (fun x => x.2.1 = 0 ∧ z_aP sv Q c0 c1 c2 c3 x.1 x.2.2.2.2.2.2.2.1 x.2.2.2.2.2.2.2.2.1 x.2.2.2.2.2.2.2.2.2.1 x.2.2.2.2.2.2.2.2.2.2.1 ∧ z_nb fb x.2.2.2.2.2.2.2.2.2.2.2.2.2.2.1) ?_ (fun K hK => ?_)
    rotate_left
    · rw [if_pos h6, if_neg (by rw [h7]; decide)]; exact hK
    rw [nI_1, z_nm, if_pos h6, hq5 hbn c5]
    exact Ok.b13 (r_answersOne g htb hn ht hN (i := bl + 1) (by omega) c5 nu lv ky c0 c1 c2 c3 fb mb 0) (fun _ _ _ _ _ _ _ _ _ _ _ _ _ hs => Ok.ret ⟨rfl, hs.1, hs.2⟩)
  · rw [if_pos (by omega)] at h6
    refine Ok.k0 (fun x => x.2.1 = 0 ∧ z_aP sv Q c0 c1 c2 c3 x.1 x.2.2.2.2.2.2.2.1 x.2.2.2.2.2.2.2.2.1 x.2.2.2.2.2.2.2.2.2.1 x.2.2.2.2.2.2.2.2.2.2.1 ∧ z_nb fb x.2.2.2.2.2.2.2.2.2.2.2.2.2.2.1) ?_ (fun K hK => ?_)
    rotate_left
    · rw [if_neg (by rw [h6]; decide)]; exact hK
    rw [nI_1, z_nm, if_neg (by rw [h6]; decide), hq6 hbn c7 c5]
    refine Ok.k1 (fun v22 => v22 = if z_word tb bl = 5 then 1 else 0) _ (fun v22 h22 => ?_) (fun K hK => Ok.ite (fun c => hK _ ?_) (fun c => hK _ ?_))
    · exact Ok.b24 (r_answersTwo g htb hn ht hN (i := bl + 1) (w := z_word tb bl) (by omega) (by omega) nu lv ky c0 c1 c2 c3 bt bo ed fb mb di qu qd x1 x2 x3 x4 x5 0 v22 h22) (fun _ _ _ _ _ _ _ _ _ _ _ _ _ _ _ _ _ _ _ _ _ _ _ _ hs => Ok.ret ⟨rfl, hs.1, hs.2⟩)
    · rw [if_pos (W5.mp c)]
    · rw [if_neg (fun u => c (W5.mpr u))]
end S20D
end
section
/-! v3: what texts do to the state; count -/
section S21A
variable {rc cc br zc rw sh cr cq dp wd za fl fk fy : Nat → Int32} {sv : l_T} {N l t : Nat} {tb : Nat → Nat}
def l_q4 (a b c d : Int32) : Nat → Int32 := fun i => if i = 0 then a else if i = 1 then b else if i = 2 then c else d
/-- the state with other counts -/
def l_sq (sv : l_T) (a b c d : Int32) : l_T := l_mk (l_R sv) (l_C sv) (l_m sv) (l_L sv) (l_K sv) (l_Y sv) (l_q4 a b c d)
theorem l_sqc (sv : l_T) (a b c d : Int32) : l_cn (l_sq sv a b c d) a b c d := ⟨rfl, rfl, rfl, rfl⟩
theorem z_cnt4_one {F : Nat} {er c0 c1 c2 c3 d0 d1 d2 d3 e0 e1 e2 e3 : Int32} (h1 : z_cnt4 F er c0 c1 c2 c3 d0 d1 d2 d3) (h2 : z_cnt4 F er c0 c1 c2 c3 e0 e1 e2 e3) : d0 = e0 ∧ d1 = e1 ∧ d2 = e2 ∧ d3 = e3 := by
  obtain ⟨a, b, c, d⟩ := h1
  obtain ⟨a', b', c', d'⟩ := h2
  exact ⟨a.trans a'.symm, b.trans b'.symm, c.trans c'.symm, d.trans d'.symm⟩
/-- named -/
def l_tnamed (sv : l_T) (t : Nat) (tb : Nat → Nat) (p q r : Int32) (s2 : l_T) : Prop := ∃ ln d0 d1 d2 d3, z_nmA (l_R sv) (l_C sv) t tb p q (l_q sv 0) (l_q sv 1) (l_q sv 2) (l_q sv 3) r ln d0 d1 d2 d3 ∧ s2 = l_sq sv d0 d1 d2 d3
theorem l_tnamed_one {p q r r' : Int32} {s2 s3 : l_T} (_ : l_ok sv) (h1 : l_tnamed sv t tb p q r s2) (h2 : l_tnamed sv t tb p q r' s3) : r = r' ∧ s2 = s3 := by
  obtain ⟨ln, d0, d1, d2, d3, h1, rfl⟩ := h1
  obtain ⟨ln', e0, e1, e2, e3, h2, rfl⟩ := h2
  rcases h1 with ⟨a, a1, -, a2, a3, a4, a5⟩ | ⟨a, -, a1, a2⟩ <;> rcases h2 with ⟨b, b1, -, b2, b3, b4, b5⟩ | ⟨b, -, b1, b2⟩
  · subst a1 a2 a3 a4 a5 b1 b2 b3 b4 b5
    exact ⟨rfl, rfl⟩
  · exact absurd b a
  · exact absurd a b
  · obtain ⟨rfl, rfl, rfl, rfl⟩ := z_cnt4_one a2 b2
    exact ⟨a1.trans b1.symm, rfl⟩
/-- ask -/
def l_task (sv : l_T) (t : Nat) (tb : Nat → Nat) (p r : Int32) (s2 : l_T) : Prop := ∃ ln d0 d1 d2 d3, z_askA sv t tb p (l_q sv 0) (l_q sv 1) (l_q sv 2) (l_q sv 3) r ln d0 d1 d2 d3 ∧ s2 = l_sq sv d0 d1 d2 d3
theorem l_task_one {p r r' : Int32} {s2 s3 : l_T} (h : l_ok sv) (h1 : l_task sv t tb p r s2) (h2 : l_task sv t tb p r' s3) : r = r' ∧ s2 = s3 := by
  obtain ⟨ln, d0, d1, d2, d3, h1, rfl⟩ := h1
  obtain ⟨ln', e0, e1, e2, e3, h2, rfl⟩ := h2
  rcases h1 with ⟨a, a1, -, a2, a3, a4, a5⟩ | ⟨a, -, a1, a2, a3⟩ <;> rcases h2 with ⟨b, b1, -, b2, b3, b4, b5⟩ | ⟨b, -, b1, b2, b3⟩
  · subst a1 a2 a3 a4 a5 b1 b2 b3 b4 b5
    exact ⟨rfl, rfl⟩
  · exact absurd b a
  · exact absurd a b
  · obtain ⟨rfl, rfl, rfl, rfl⟩ := z_cnt4_one a1 b1
    refine ⟨?_, rfl⟩
    obtain ⟨q1, q2, q3⟩ := nq_in h.1 (tb := tb) p.toInt.toNat
    by_cases hF : (nq (l_R sv) (l_C sv) tb p.toInt.toNat).1 = 0
    · exact l_aR_one h (q3 hF).2.1 (a2 hF) (b2 hF)
    · exact (a3 hF).trans (b3 hF).symm
/-- count -/
def l_acount (sv : l_T) (t s0 : Nat) (p r : Int32) : Prop := r = if p = 0 then nI (l_m sv) else if p = 1 then nI t else if p = 2 then nI s0 else if p = 3 then l_q sv 0 else if p = 4 then l_q sv 1 else if p = 5 then l_q sv 2 else if p = 6 then l_q sv 3 else -1
theorem l_acount_one {s0 : Nat} {p r r' : Int32} (_ : l_ok sv) (h1 : l_acount sv t s0 p r) (h2 : l_acount sv t s0 p r') : r = r' := Eq.trans h1 (Eq.symm h2)
theorem a_x_count {s0 : Nat} (p : Int32) : Ok (f_X_count (nI s0) (nI t) (l_q sv 0) (l_q sv 1) (l_q sv 2) (l_q sv 3) (nI (l_m sv)) p) (fun x => l_acount sv t s0 p x) := by
  unfold f_X_count l_acount
  by_cases c0 : p = 0
  · rw [if_pos c0]; exact Ok.ret (by rw [if_pos c0])
  rw [if_neg c0]
  by_cases c1 : p = 1
  · rw [if_pos c1]; exact Ok.ret (by rw [if_neg c0, if_pos c1])
  rw [if_neg c1]
  by_cases c2 : p = 2
  · rw [if_pos c2]; exact Ok.ret (by rw [if_neg c0, if_neg c1, if_pos c2])
  rw [if_neg c2]
  by_cases c3 : p = 3
  · rw [if_pos c3]; exact Ok.ret (by rw [if_neg c0, if_neg c1, if_neg c2, if_pos c3])
  rw [if_neg c3]
  by_cases c4 : p = 4
  · rw [if_pos c4]; exact Ok.ret (by rw [if_neg c0, if_neg c1, if_neg c2, if_neg c3, if_pos c4])
  rw [if_neg c4]
  by_cases c5 : p = 5
  · rw [if_pos c5]; exact Ok.ret (by rw [if_neg c0, if_neg c1, if_neg c2, if_neg c3, if_neg c4, if_pos c5])
  rw [if_neg c5]
  by_cases c6 : p = 6
  · rw [if_pos c6]; exact Ok.ret (by rw [if_neg c0, if_neg c1, if_neg c2, if_neg c3, if_neg c4, if_neg c5, if_pos c6])
  rw [if_neg c6]
  exact Ok.ret (by rw [if_neg c0, if_neg c1, if_neg c2, if_neg c3, if_neg c4, if_neg c5, if_neg c6])
theorem a_m_count {s0 : Nat} (p : Int32) : Ok (f_M_count (nI t) (l_q sv 0) (l_q sv 1) (l_q sv 2) (l_q sv 3) (nI (l_m sv)) (nI s0) p) (fun x => l_acount sv t s0 p x) := by
  unfold f_M_count l_acount
  by_cases c0 : p = 0
  · rw [if_pos c0]; exact Ok.ret (by rw [if_pos c0])
  rw [if_neg c0]
  by_cases c1 : p = 1
  · rw [if_pos c1]; exact Ok.ret (by rw [if_neg c0, if_pos c1])
  rw [if_neg c1]
  by_cases c2 : p = 2
  · rw [if_pos c2]; exact Ok.ret (by rw [if_neg c0, if_neg c1, if_pos c2])
  rw [if_neg c2]
  by_cases c3 : p = 3
  · rw [if_pos c3]; exact Ok.ret (by rw [if_neg c0, if_neg c1, if_neg c2, if_pos c3])
  rw [if_neg c3]
  by_cases c4 : p = 4
  · rw [if_pos c4]; exact Ok.ret (by rw [if_neg c0, if_neg c1, if_neg c2, if_neg c3, if_pos c4])
  rw [if_neg c4]
  by_cases c5 : p = 5
  · rw [if_pos c5]; exact Ok.ret (by rw [if_neg c0, if_neg c1, if_neg c2, if_neg c3, if_neg c4, if_pos c5])
  rw [if_neg c5]
  by_cases c6 : p = 6
  · rw [if_pos c6]; exact Ok.ret (by rw [if_neg c0, if_neg c1, if_neg c2, if_neg c3, if_neg c4, if_neg c5, if_pos c6])
  rw [if_neg c6]
  exact Ok.ret (by rw [if_neg c0, if_neg c1, if_neg c2, if_neg c3, if_neg c4, if_neg c5, if_neg c6])
end S21A
end
section
/-! answers: side; what the reference's neighbours leave -/
section S22A
variable {rc cc br zc rw sh cr cq dp wd za fl fk fy : Nat → Int32} {sv : l_T} {N l : Nat}
theorem a2_m_neighbour (g : MOK (l_R sv) (l_C sv) (z_pr (l_R sv)) (z_pr (l_C sv)) cr cq dp wd za) (hN : 1000000 ≤ N) (fb mb p q w i : Int32) : Ok (f_M_neighbour N dp wd za fb mb p q w i) (fun x => l_aneighbour sv p q w i x.1 ∧ z_nb fb x.2.1) := by
  unfold f_M_neighbour
  refine Ok.b1 (r_isKey g p q) (fun v1 h1 => ?_)
  rcases h1 with ⟨z, rfl⟩ | ⟨z, rfl⟩
  rotate_left
  · exact Ok.ite (fun _ => Ok.ret ⟨Or.inl ⟨fun u => z u.1, rfl⟩, z_nb_r fb⟩) (fun c => absurd rfl c)
  refine Ok.ite (fun c => absurd c (by decide)) (fun _ => Ok.b1 (r_isSide w) (fun v2 h2 => ?_))
  refine Ok.ite (fun c => Ok.ret ⟨Or.inl ⟨fun u => z_if0 h2 c u.2.1, rfl⟩, z_nb_r fb⟩) (fun c => ?_)
  have hw := z_if1 h2 c
  refine Ok.ite (fun hi => ?_) (fun hi => Ok.ret ⟨Or.inl ⟨fun u => hi u.2.2, rfl⟩, z_nb_r fb⟩)
  have z' := z
  obtain ⟨l, k, hl, rfl, rfl, hk⟩ := z'
  have hs := g.2.2.sh hl
  obtain ⟨ro, pl, d1, d2, d3, -, -⟩ := t_spot (N := N) g (by omega) hl hk
  obtain ⟨j, -, rfl, hj⟩ := z_nat hw.1
  have hj4 : j < 4 := by omega
  obtain ⟨x, e2, h4, hnb⟩ := r_lays2 (N := N) g (by omega) hl d1 d2 fb mb hj4
  rw [← d3] at e2
  rw [e2, q_b2_s]
  have fin : ∀ r : Int32, r = l_vnb (l_bM sv l ro pl j) (l_bF sv l ro pl j) i → l_aneighbour sv (nI l) (nI k) (nI j) i r := fun r h => Or.inr ⟨l, k, ro, pl, j, ⟨z, hw, hi⟩, ⟨hl, by omega, d1, d2, d3⟩, rfl, rfl, hj4, rfl, h⟩
  unfold l_vnb at fin
  refine Ok.ite (fun c1 => Ok.ret ⟨fin _ (by rw [if_pos c1]; rfl), hnb⟩) (fun c1 => Ok.ite (fun c2 => Ok.ret ⟨fin _ (by rw [if_neg c1]; exact (if_pos c2).symm), hnb⟩) (fun c2 => ?_))
  have h5 := h4 (l_ne0 hi c1 c2)
  subst h5
  exact Ok.ret ⟨fin _ (by rw [if_neg c1]; exact (if_neg c2).symm), hnb⟩
theorem r2_allBeside_L {R C H V : Nat → Nat} (g : MOK R C H V cr cq dp wd za) (hN : 50 ≤ N) (hl : l < 5) {r p : Nat} (hr : r ≤ 44 * H l + 1) (hp : p < z_rl (H l) (V l) r) : ∀ n i (t a b : Int32), i ≤ 4 → 4 - i < n → Ok (f_M_allBeside_L5 N dp wd za (nI l) (nI (z_rs (H l) (V l) r + p)) n t (nI i) a b) (fun x => z_nb a x.2.1) := by
  intro n
  induction n with
  | zero => intro i t a b h1 h2; omega
  | succ n ih =>
    intro i t a b h1 h2
    rw [f_M_allBeside_L5]
    refine Ok.ite (fun c => Ok.ret (z_nb_r a)) (fun c => ?_)
    rw [z_i 4, nI_leI (by omega) (by omega)] at c
    obtain ⟨x, e2, -, hnb⟩ := r_lays2 (N := N) g hN hl hr hp a b (i := i) (by omega)
    rw [e2, q_b2_s, z_nm, nI_1, z_nm]
    exact Ok.weak (ih (i + 1) _ _ _ (by omega) (by omega)) (fun y hy => z_nb_t hnb hy)
theorem r2_allBeside {R C H V : Nat → Nat} (g : MOK R C H V cr cq dp wd za) (hN : 50 ≤ N) (hl : l < 5) {r p : Nat} (hr : r ≤ 44 * H l + 1) (hp : p < z_rl (H l) (V l) r) (a b : Int32) : Ok (f_M_allBeside N dp wd za a b (nI l) (nI (z_rs (H l) (V l) r + p))) (fun x => z_nb a x.2.1) := by
  unfold f_M_allBeside
  rw [z_nm, z_nm]
  exact Ok.b3 (r2_allBeside_L g hN hl hr hp N 0 0 a b (by omega) (by omega)) (fun x1 x2 x3 h => Ok.ret h)
theorem r2_besideAll {R C H V : Nat → Nat} (g : MOK R C H V cr cq dp wd za) (hN : 50 ≤ N) (hl : l < 5) {r p : Nat} (hr : r ≤ 44 * H l + 1) (hp : p < z_rl (H l) (V l) r) (a b i : Int32) : Ok (f_M_besideAll N dp wd za a b (nI l) (nI (z_rs (H l) (V l) r + p)) i) (fun x => z_nb a x.2.1) := by
  obtain ⟨x0, e0, -, n0⟩ := r_lays2 (N := N) g hN hl hr hp a b (i := 0) (by omega)
  obtain ⟨x1, e1, -, n1⟩ := r_lays2 (N := N) g hN hl hr hp x0 (nI (z_bM (H l) (V l) r p 0)) (i := 1) (by omega)
  obtain ⟨x3, e3, -, n3⟩ := r_lays2 (N := N) g hN hl hr hp x1 (nI (z_bM (H l) (V l) r p 1)) (i := 3) (by omega)
  obtain ⟨x2, e2, -, n2⟩ := r_lays2 (N := N) g hN hl hr hp x3 (nI (z_bM (H l) (V l) r p 3)) (i := 2) (by omega)
  have t1 := z_nb_t n0 n1
  have t3 := z_nb_t t1 n3
  have t2 := z_nb_t t3 n2
  unfold f_M_besideAll
  rw [show (0 : Int32) = nI 0 from rfl, e0, q_b2_s]
  refine Ok.ite (fun _ => ?_) (fun _ => Ok.ret n0)
  rw [z_nm, z_i 1, e1, q_b2_s, z_i 3, e3, q_b2_s]
  refine Ok.k0 (fun x => z_nb a x.2.1) ?_ (fun K hK => ?_)
  · refine Ok.nm ?_
    rw [z_i 2, e2, q_b2_s]
    exact Ok.ite (fun _ => Ok.ret t2) (fun _ => Ok.ret t2)
  · refine Ok.ite (fun _ => Ok.ite (fun _ => hK) (fun _ => ?_)) (fun _ => hK)
    refine Ok.j1 ?_
    refine Ok.ite (fun _ => Ok.j1 (Ok.ite (fun _ => Ok.ite (fun _ => Ok.ret t3) (fun _ => Ok.ret t3)) (fun _ => Ok.ite (fun _ => Ok.ret t3) (fun _ => Ok.ret t3)))) (fun _ => Ok.j1 (Ok.ite (fun _ => Ok.ite (fun _ => Ok.ret t3) (fun _ => Ok.ret t3)) (fun _ => Ok.ite (fun _ => Ok.ret t3) (fun _ => Ok.ret t3))))
theorem a2_m_around (g : MOK (l_R sv) (l_C sv) (z_pr (l_R sv)) (z_pr (l_C sv)) cr cq dp wd za) (hN : 1000000 ≤ N) (fb mb p q i : Int32) : Ok (f_M_around N dp wd za fb mb p q i) (fun x => l_aaround sv p q i x.1 ∧ z_nb fb x.2.1) := by
  refine Ok.both (a_m_around g hN fb mb p q i) ?_
  unfold f_M_around
  refine Ok.b1 (r_isKey g p q) (fun v1 h1 => ?_)
  rcases h1 with ⟨z, rfl⟩ | ⟨z, rfl⟩
  rotate_left
  · exact Ok.ite (fun _ => Ok.ret (z_nb_r fb)) (fun c => absurd rfl c)
  refine Ok.ite (fun c => absurd c (by decide)) (fun _ => ?_)
  refine Ok.ite (fun hi => ?_) (fun hi => Ok.ret (z_nb_r fb))
  obtain ⟨l, k, hl, rfl, rfl, hk⟩ := z
  obtain ⟨ro, pl, d1, d2, d3, -, -⟩ := t_spot (N := N) g (by omega) hl hk
  have e1 := r2_allBeside (N := N) g (by omega) hl d1 d2 fb mb
  rw [← d3] at e1
  refine Ok.b3 e1 (fun v2 v3 v4 h2 => ?_)
  dsimp only at h2
  refine Ok.ite (fun _ => Ok.ret h2) (fun _ => Ok.ite (fun _ => Ok.ret h2) (fun _ => ?_))
  have e2 := r2_besideAll (N := N) g (by omega) hl d1 d2 v3 v4 i
  rw [← d3] at e2
  exact Ok.b3 e2 (fun v5 v6 v7 h5 => Ok.ret (z_nb_t h2 h5))
/-! side -/
def l_Fside (M F : Nat → Nat) (b : Nat) : Int32 := if F 0 ≤ b ∧ b < F 0 + M 0 then 0 else if F 1 ≤ b ∧ b < F 1 + M 1 then 1 else if F 2 ≤ b ∧ b < F 2 + M 2 then 2 else if F 3 ≤ b ∧ b < F 3 + M 3 then 3 else -2
def l_Qside (sv : l_T) (l a b : Nat) (x : Int32) : Prop := ∃ ro pl, l_spot sv l a ro pl ∧ x = l_Fside (l_bM sv l ro pl) (l_bF sv l ro pl) b
def l_aside (sv : l_T) (p q r x : Int32) : Prop := l_rl2 sv p q r (q ≠ r) (l_Qside sv) x
theorem l_aside_one {p q r x x2 : Int32} (h : l_ok sv) (h1 : l_aside sv p q r x) (h2 : l_aside sv p q r x2) : x = x2 := by
  refine l_rl2_one (Q := l_Qside sv) h (fun l a b x x2 hl ha hb q1 q2 => ?_) h1 h2
  obtain ⟨ro, pl, s1, rfl⟩ := q1
  obtain ⟨ro2, pl2, s2, rfl⟩ := q2
  obtain ⟨-, -, rfl, rfl⟩ := l_spot_one h s1 s2 rfl rfl rfl rfl
  rfl
theorem a_x_side (g : GOK (l_R sv) (l_C sv) (z_pr (l_R sv)) (z_pr (l_C sv)) rc cc br zc rw sh) (hN : 1000000 ≤ N) (f m : Nat → Int32) (a1 a2 a3 a4 a5 a6 p q r : Int32) : Ok (f_X_side N f m a1 a2 a3 a4 a5 a6 br zc rw sh p q r) (fun x => l_aside sv p q r x.1) := by
  unfold f_X_side
  refine Ok.b1 (r_areSheets g p q r) (fun v1 h1 => ?_)
  rcases h1 with ⟨hh, rfl⟩ | ⟨hh, rfl⟩
  rotate_left
  · exact Ok.ite (fun _ => Ok.ret (l_rl2N (fun z => hh z.1))) (fun c => absurd rfl c)
  refine Ok.ite (fun c => absurd c (by decide)) (fun _ => Ok.ite (fun c => Ok.ret (l_rl2N (fun z => z.2 c))) (fun hne => ?_))
  obtain ⟨l, k, b, hl, rfl, rfl, rfl, hk, hb⟩ := l_w2_ex hh
  have hw : l_w2 sv (nI l) (nI k) (nI b) l k b := ⟨hl, rfl, rfl, rfl, hk, hb⟩
  have hs := g.2.sh hl
  have hb' : b < 2130 * (z_pr (l_R sv) l * z_pr (l_C sv) l) + 2 := hb
  have hk' : k < 2130 * (z_pr (l_R sv) l * z_pr (l_C sv) l) + 2 := hk
  obtain ⟨ro, pl, e, d1, d2, d3⟩ := k_put (N := N) g (by omega) hl hk a1 a2 a3 a4 a5 a6
  obtain ⟨f', m', e2, hfm⟩ := r_lookAround g hl d1 d2 f m
  have hMF := l_MF_of g.2 hl d1 d2
  have fin : ∀ x, x = l_Fside (l_bM sv l ro pl) (l_bF sv l ro pl) b → l_aside sv (nI l) (nI k) (nI b) x := fun x hx => l_rl2Y hne hw ⟨ro, pl, ⟨hl, by omega, d1, d2, d3⟩, hx⟩
  rw [e, q_b6_s, e2, q_b2_s, z_nm]
  have L : ∀ (x2 x3 x4 x5 x6 x7 : Int32) n i, i ≤ 4 → 4 - i < n → (∀ j, j < i → ¬ (l_bF sv l ro pl j ≤ b ∧ b < l_bF sv l ro pl j + l_bM sv l ro pl j)) → Ok (f_X_side_L36 f' m' (nI b) x2 x3 x4 x5 x6 x7 n (nI i)) (Sum.elim (fun _ => ∀ j, j < 4 → ¬ (l_bF sv l ro pl j ≤ b ∧ b < l_bF sv l ro pl j + l_bM sv l ro pl j)) (fun y => ∃ j, j < 4 ∧ y.1 = nI j ∧ (l_bF sv l ro pl j ≤ b ∧ b < l_bF sv l ro pl j + l_bM sv l ro pl j) ∧ ∀ j2, j2 < j → ¬ (l_bF sv l ro pl j2 ≤ b ∧ b < l_bF sv l ro pl j2 + l_bM sv l ro pl j2))) := by
    intro x2 x3 x4 x5 x6 x7 n
    induction n with
    | zero => intro i _ h; omega
    | succ n ih =>
      intro i hi hn hp
      rw [f_X_side_L36]
      refine Ok.ite (fun hc => Ok.ret (show ∀ j, j < 4 → _ from fun j hj => hp j ?_)) (fun hc => ?_)
      all_goals rw [z_i 3, nI_ltI (by omega) (by omega)] at hc
      · omega
      have hi4 : i < 4 := by omega
      obtain ⟨m1, m2⟩ := hfm i hi4
      obtain ⟨m3, m4⟩ := hMF.2 i hi4
      have nx : ¬ (l_bF sv l ro pl i ≤ b ∧ b < l_bF sv l ro pl i + l_bM sv l ro pl i) → Ok (q_nm (nI i + 1 : Int32) (fun (v13 : Int32) => f_X_side_L36 f' m' (nI b) x2 x3 x4 x5 x6 x7 n v13)) (Sum.elim (fun _ => ∀ j, j < 4 → ¬ (l_bF sv l ro pl j ≤ b ∧ b < l_bF sv l ro pl j + l_bM sv l ro pl j)) (fun y => ∃ j, j < 4 ∧ y.1 = nI j ∧ (l_bF sv l ro pl j ≤ b ∧ b < l_bF sv l ro pl j + l_bM sv l ro pl j) ∧ ∀ j2, j2 < j → ¬ (l_bF sv l ro pl j2 ≤ b ∧ b < l_bF sv l ro pl j2 + l_bM sv l ro pl j2))) := by
        intro hno
        rw [nI_1, z_nm]
        refine ih (i + 1) (by omega) (by omega) (fun j hj => ?_)
        by_cases ej : j = i
        · subst ej; exact hno
        · exact hp j (by omega)
      rw [z_ai hi4 (by omega), z_j0, z_ai hi4 (by omega), z_ai hi4 (by omega), m1]
      by_cases c0 : z_bM (z_pr (l_R sv) l) (z_pr (l_C sv) l) ro pl i = 0
      · have hno : ¬ (l_bF sv l ro pl i ≤ b ∧ b < l_bF sv l ro pl i + l_bM sv l ro pl i) := by
          unfold l_bM
          rw [c0]; omega
        refine Ok.ite (fun _ => nx hno) (fun c1 => ?_)
        rw [if_pos (by rw [c0, show nI 0 = 0 from rfl, Int32.add_zero, z_le]; rw [z_lt] at c1; omega)]
        exact nx hno
      · have m5 := m4 c0
        rw [m2 c0, nI_add]
        refine Ok.ite (fun c1 => nx ?_) (fun c1 => Ok.ite (fun c2 => nx ?_) (fun c2 => Ok.ret (show ∃ _, _ from ⟨i, hi4, rfl, ⟨?_, ?_⟩, hp⟩)))
        all_goals rw [nI_ltI (by omega) (by omega)] at c1
        all_goals try rw [nI_leI (by omega) (by omega)] at c2
        · show ¬ (z_bF _ _ _ _ _ ≤ b ∧ _); omega
        · show ¬ (_ ∧ b < z_bF _ _ _ _ _ + z_bM _ _ _ _ _); omega
        · show z_bF _ _ _ _ _ ≤ b; omega
        · show b < z_bF _ _ _ _ _ + z_bM _ _ _ _ _; omega
  refine Ok.s0 (L _ _ _ _ _ _ N 0 (by omega) (by omega) (fun j hj => by omega)) (fun h => Ok.ret (fin _ ?_)) (fun y hy => fin _ ?_)
  · have h : ∀ j, j < 4 → ¬ (l_bF sv l ro pl j ≤ b ∧ b < l_bF sv l ro pl j + l_bM sv l ro pl j) := h
    unfold l_Fside
    rw [if_neg (h 0 (by omega)), if_neg (h 1 (by omega)), if_neg (h 2 (by omega)), if_neg (h 3 (by omega))]
  · obtain ⟨j, hj, e1, h2, h3⟩ := hy
    rw [e1]
    unfold l_Fside
    rcases (show j = 0 ∨ j = 1 ∨ j = 2 ∨ j = 3 by omega) with rfl | rfl | rfl | rfl
    · rw [if_pos h2]; rfl
    · rw [if_neg (h3 0 (by omega)), if_pos h2]; rfl
    · rw [if_neg (h3 0 (by omega)), if_neg (h3 1 (by omega)), if_pos h2]; rfl
    · rw [if_neg (h3 0 (by omega)), if_neg (h3 1 (by omega)), if_neg (h3 2 (by omega)), if_pos h2]; rfl
theorem a2_m_side (g : MOK (l_R sv) (l_C sv) (z_pr (l_R sv)) (z_pr (l_C sv)) cr cq dp wd za) (hN : 1000000 ≤ N) (fb mb p q r : Int32) (hfb : 0 ≤ fb.toInt) : Ok (f_M_side N dp wd za fb mb p q r) (fun x => l_aside sv p q r x.1 ∧ z_nb fb x.2.1) := by
  unfold f_M_side
  refine Ok.b1 (r_isKey g p q) (fun v1 h1 => ?_)
  rcases h1 with ⟨z1, rfl⟩ | ⟨z, rfl⟩
  rotate_left
  · exact Ok.ite (fun _ => Ok.ret ⟨l_rl2N (fun u => z u.1.1), z_nb_r fb⟩) (fun c => absurd rfl c)
  refine Ok.ite (fun c => absurd c (by decide)) (fun _ => Ok.b1 (r_isKey g p r) (fun v2 h2 => ?_))
  rcases h2 with ⟨z2, rfl⟩ | ⟨z, rfl⟩
  rotate_left
  · exact Ok.ite (fun _ => Ok.ret ⟨l_rl2N (fun u => z u.1.2), z_nb_r fb⟩) (fun c => absurd rfl c)
  refine Ok.ite (fun c => absurd c (by decide)) (fun _ => Ok.ite (fun c => Ok.ret ⟨l_rl2N (fun z => z.2 c), z_nb_r fb⟩) (fun hne => ?_))
  obtain ⟨l, k, b, hl, rfl, rfl, rfl, hk, hb⟩ := l_w2_ex (sv := sv) ⟨z1, z2⟩
  have hw : l_w2 sv (nI l) (nI k) (nI b) l k b := ⟨hl, rfl, rfl, rfl, hk, hb⟩
  have hs := g.2.2.sh hl
  have hb' : b < 2130 * (z_pr (l_R sv) l * z_pr (l_C sv) l) + 2 := hb
  have hk' : k < 2130 * (z_pr (l_R sv) l * z_pr (l_C sv) l) + 2 := hk
  obtain ⟨ro, pl, d1, d2, d3, -, -⟩ := t_spot (N := N) g (by omega) hl hk
  have hMF := l_MF_of g.2.2 hl d1 d2
  have fin : ∀ x, x = l_Fside (l_bM sv l ro pl) (l_bF sv l ro pl) b → l_aside sv (nI l) (nI k) (nI b) x := fun x hx => l_rl2Y hne hw ⟨ro, pl, ⟨hl, by omega, d1, d2, d3⟩, hx⟩
  have L : ∀ n i (fb mb : Int32), i ≤ 4 → 4 - i < n → 0 ≤ fb.toInt → (∀ j, j < i → ¬ (l_bF sv l ro pl j ≤ b ∧ b < l_bF sv l ro pl j + l_bM sv l ro pl j)) → Ok (f_M_side_L28 N dp wd za (nI l) (nI k) (nI b) n (nI i) fb mb) (Sum.elim (fun y => 0 ≤ y.1.toInt ∧ ∀ j, j < 4 → ¬ (l_bF sv l ro pl j ≤ b ∧ b < l_bF sv l ro pl j + l_bM sv l ro pl j)) (fun y => 0 ≤ y.2.1.toInt ∧ ∃ j, j < 4 ∧ y.1 = nI j ∧ (l_bF sv l ro pl j ≤ b ∧ b < l_bF sv l ro pl j + l_bM sv l ro pl j) ∧ ∀ j2, j2 < j → ¬ (l_bF sv l ro pl j2 ≤ b ∧ b < l_bF sv l ro pl j2 + l_bM sv l ro pl j2))) := by
    intro n
    induction n with
    | zero => intro i fb mb _ h; omega
    | succ n ih =>
      intro i fb mb hi hn hfb hp
      rw [f_M_side_L28]
      refine Ok.ite (fun hc => Ok.ret (show _ ∧ _ from ⟨hfb, fun j hj => hp j ?_⟩)) (fun hc => ?_)
      all_goals rw [z_i 4, nI_leI (by omega) (by omega)] at hc
      · omega
      have hi4 : i < 4 := by omega
      obtain ⟨x, e1, hx, hnb⟩ := r_lays2 (N := N) g (by omega) hl d1 d2 fb mb hi4
      obtain ⟨m3, m4⟩ := hMF.2 i hi4
      have hxn := hnb hfb
      have key : f_M_in (nI b).toInt64 x.toInt64 ((x + nI (z_bM (z_pr (l_R sv) l) (z_pr (l_C sv) l) ro pl i)) - 1).toInt64 = some (if l_bF sv l ro pl i ≤ b ∧ b < l_bF sv l ro pl i + l_bM sv l ro pl i then 1 else 0) := by
        rw [m_in, z_toL, z_toL, z_toL, nI_toInt (by omega)]
        by_cases c0 : z_bM (z_pr (l_R sv) l) (z_pr (l_C sv) l) ro pl i = 0
        · have hno : ¬ (l_bF sv l ro pl i ≤ b ∧ b < l_bF sv l ro pl i + l_bM sv l ro pl i) := by
            unfold l_bM
            rw [c0]; omega
          obtain ⟨u, u1, rfl, u3⟩ := z_nat hxn
          rw [c0, show nI 0 = 0 from rfl, Int32.add_zero, if_neg hno]
          rcases Nat.eq_zero_or_pos u with h0 | h0
          · subst h0
            rw [if_neg (by rw [show (nI 0 - 1 : Int32).toInt = -1 from rfl]; omega)]
          · rw [z_sub1 h0, nI_toInt u1, nI_toInt (by omega), if_neg (by omega)]
        · have m5 := m4 c0
          rw [hx c0, nI_add, z_sub1 (by omega), nI_toInt (by omega), nI_toInt (by omega)]
          by_cases hin : l_bF sv l ro pl i ≤ b ∧ b < l_bF sv l ro pl i + l_bM sv l ro pl i
          · rw [if_pos hin]
            have h1 : z_bF (z_pr (l_R sv) l) (z_pr (l_C sv) l) ro pl i ≤ b := hin.1
            have h2 : b < z_bF (z_pr (l_R sv) l) (z_pr (l_C sv) l) ro pl i + z_bM (z_pr (l_R sv) l) (z_pr (l_C sv) l) ro pl i := hin.2
            rw [if_pos (by omega)]
          · rw [if_neg hin]
            have h1 : ¬ (z_bF (z_pr (l_R sv) l) (z_pr (l_C sv) l) ro pl i ≤ b ∧ b < z_bF (z_pr (l_R sv) l) (z_pr (l_C sv) l) ro pl i + z_bM (z_pr (l_R sv) l) (z_pr (l_C sv) l) ro pl i) := hin
            rw [if_neg (by omega)]
      rw [d3, e1, ← d3, q_b2_s, key, q_b1_s]
      by_cases hin : l_bF sv l ro pl i ≤ b ∧ b < l_bF sv l ro pl i + l_bM sv l ro pl i
      · rw [if_pos hin, if_neg (by decide)]
        exact Ok.ret (show _ ∧ _ from ⟨hxn, i, hi4, rfl, hin, hp⟩)
      · rw [if_neg hin, if_pos rfl, nI_1, z_nm]
        refine ih (i + 1) _ _ (by omega) (by omega) hxn (fun j hj => ?_)
        by_cases ej : j = i
        · subst ej; exact hin
        · exact hp j (by omega)
  rw [z_nm]
  refine Ok.s2 (L N 0 fb mb (by omega) (by omega) hfb (fun j hj => by omega)) (fun y1 y2 h => Ok.ret ⟨fin _ ?_, fun _ => h.1⟩) (fun y hy => ⟨fin _ ?_, fun _ => hy.1⟩)
  · obtain ⟨-, h⟩ := h
    unfold l_Fside
    rw [if_neg (h 0 (by omega)), if_neg (h 1 (by omega)), if_neg (h 2 (by omega)), if_neg (h 3 (by omega))]
  · obtain ⟨-, j, hj, e1, h2, h3⟩ := hy
    rw [e1]
    unfold l_Fside
    rcases (show j = 0 ∨ j = 1 ∨ j = 2 ∨ j = 3 by omega) with rfl | rfl | rfl | rfl
    · rw [if_pos h2]; rfl
    · rw [if_neg (h3 0 (by omega)), if_pos h2]; rfl
    · rw [if_neg (h3 0 (by omega)), if_neg (h3 1 (by omega)), if_pos h2]; rfl
    · rw [if_neg (h3 0 (by omega)), if_neg (h3 1 (by omega)), if_neg (h3 2 (by omega)), if_pos h2]; rfl
end S22A
end
