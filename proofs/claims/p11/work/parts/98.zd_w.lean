section
/-! the worlds of the law: the class's cells, the reference's, the kept atlases' -/
/-- the state that both sides hold: cuts, pieces -/
def l_T : Type := (Nat → Nat) × (Nat → Nat) × Nat × (Nat → Nat) × (Nat → Nat) × (Nat → Int32)
def l_R (sv : l_T) : Nat → Nat := sv.1
def l_C (sv : l_T) : Nat → Nat := sv.2.1
def l_m (sv : l_T) : Nat := sv.2.2.1
def l_L (sv : l_T) : Nat → Nat := sv.2.2.2.1
def l_K (sv : l_T) : Nat → Nat := sv.2.2.2.2.1
def l_Y (sv : l_T) : Nat → Int32 := sv.2.2.2.2.2
def l_mk (R C : Nat → Nat) (m : Nat) (L K : Nat → Nat) (Y : Nat → Int32) : l_T := (R, C, m, L, K, Y)
def l_sX (sv : l_T) (sz : Int32) (fl fk fy : Nat → Int32) : Prop := sz = nI (l_m sv) ∧ z_pc (z_pr (l_R sv)) (z_pr (l_C sv)) (l_m sv) (l_L sv) (l_K sv) ∧ z_rp (l_m sv) (l_L sv) (l_K sv) (l_Y sv) fl fk fy ∧ z_yr (l_m sv) (l_Y sv)
theorem z_st_of {H V : Nat → Nat} {m : Nat} {L K : Nat → Nat} {Y : Nat → Int32} {fl fk fy : Nat → Int32} (h : z_pc H V m L K) (hr : z_rp m L K Y fl fk fy) : z_st fl m := ⟨h.1, fun j hj => ⟨L j, (h.2.1 j hj).1, (hr j hj).1⟩⟩
theorem z_ps_of {H V : Nat → Nat} {m : Nat} {L K : Nat → Nat} {Y : Nat → Int32} {fl fk fy : Nat → Int32} (h : z_pc H V m L K) (hr : z_rp m L K Y fl fk fy) : z_ps H V fl fk m := ⟨h.1, fun i hi => ⟨L i, K i, (h.2.1 i hi).1, (hr i hi).1, (hr i hi).2.1, (h.2.1 i hi).2⟩⟩
def l_ok (sv : l_T) : Prop := CUT (l_R sv) (l_C sv) (z_pr (l_R sv)) (z_pr (l_C sv)) ∧ z_pc (z_pr (l_R sv)) (z_pr (l_C sv)) (l_m sv) (l_L sv) (l_K sv)
/-- what the five methods that change it do with it -/
def l_tcut (sv : l_T) (p q w r : Int32) (s2 : l_T) : Prop := ∃ R2 C2, z_cutR (l_R sv) (l_C sv) (l_m sv) p q w r R2 C2 ∧ s2 = l_mk R2 C2 (l_m sv) (l_L sv) (l_K sv) (l_Y sv)
def l_tstore (sv : l_T) (p q w r : Int32) (s2 : l_T) : Prop := ∃ m2 L2 K2 Y2, z_storeR (z_pr (l_R sv)) (z_pr (l_C sv)) (l_m sv) (l_L sv) (l_K sv) (l_Y sv) p q w r m2 L2 K2 Y2 ∧ s2 = l_mk (l_R sv) (l_C sv) m2 L2 K2 Y2
def l_tdrop (sv : l_T) (p q r : Int32) (s2 : l_T) : Prop := ∃ m2 L2 K2 Y2, z_dropR (z_pr (l_R sv)) (z_pr (l_C sv)) (l_m sv) (l_L sv) (l_K sv) (l_Y sv) p q r m2 L2 K2 Y2 ∧ s2 = l_mk (l_R sv) (l_C sv) m2 L2 K2 Y2
def l_trenew (sv : l_T) (p q r : Int32) (s2 : l_T) : Prop := ∃ Y2, z_renewR (l_m sv) (l_L sv) (l_Y sv) p q r Y2 ∧ s2 = l_mk (l_R sv) (l_C sv) (l_m sv) (l_L sv) (l_K sv) Y2
def l_ttidy (sv : l_T) (r : Int32) (s2 : l_T) : Prop := ∃ n2 m2 L2 K2 Y2, z_tdT (z_pr (l_R sv)) (z_pr (l_C sv)) (l_m sv) (l_m sv) (l_L sv) (l_K sv) (l_Y sv) 0 n2 m2 L2 K2 Y2 ∧ r = nI n2 ∧ s2 = l_mk (l_R sv) (l_C sv) m2 L2 K2 Y2
theorem l_tcut_one {sv s2 s3 : l_T} {p q w r r' : Int32} (_ : l_ok sv) (h1 : l_tcut sv p q w r s2) (h2 : l_tcut sv p q w r' s3) : r = r' ∧ s2 = s3 := by
  obtain ⟨R2, C2, h1, rfl⟩ := h1
  obtain ⟨R3, C3, h2, rfl⟩ := h2
  obtain ⟨a, b, c⟩ := z_cutR_one h1 h2
  exact ⟨a, by rw [b, c]⟩
theorem l_tstore_one {sv s2 s3 : l_T} {p q w r r' : Int32} (h : l_ok sv) (h1 : l_tstore sv p q w r s2) (h2 : l_tstore sv p q w r' s3) : r = r' ∧ s2 = s3 := by
  obtain ⟨m2, L2, K2, Y2, h1, rfl⟩ := h1
  obtain ⟨m3, L3, K3, Y3, h2, rfl⟩ := h2
  obtain ⟨a, b, c, d, e⟩ := z_storeR_one h.1 h.2 h1 h2
  exact ⟨a, by rw [b, c, d, e]⟩
theorem l_tdrop_one {sv s2 s3 : l_T} {p q r r' : Int32} (h : l_ok sv) (h1 : l_tdrop sv p q r s2) (h2 : l_tdrop sv p q r' s3) : r = r' ∧ s2 = s3 := by
  obtain ⟨m2, L2, K2, Y2, h1, rfl⟩ := h1
  obtain ⟨m3, L3, K3, Y3, h2, rfl⟩ := h2
  obtain ⟨a, b, c, d, e⟩ := z_dropR_one h.1 h.2 h1 h2
  exact ⟨a, by rw [b, c, d, e]⟩
theorem l_trenew_one {sv s2 s3 : l_T} {p q r r' : Int32} (_ : l_ok sv) (h1 : l_trenew sv p q r s2) (h2 : l_trenew sv p q r' s3) : r = r' ∧ s2 = s3 := by
  obtain ⟨Y2, h1, rfl⟩ := h1
  obtain ⟨Y3, h2, rfl⟩ := h2
  obtain ⟨a, b⟩ := z_renewR_one h1 h2
  exact ⟨a, by rw [b]⟩
theorem l_ttidy_one {sv s2 s3 : l_T} {r r' : Int32} (_ : l_ok sv) (h1 : l_ttidy sv r s2) (h2 : l_ttidy sv r' s3) : r = r' ∧ s2 = s3 := by
  obtain ⟨n2, m2, L2, K2, Y2, h1, rfl, rfl⟩ := h1
  obtain ⟨n3, m3, L3, K3, Y3, h2, rfl, rfl⟩ := h2
  obtain ⟨a, b, c, d, e⟩ := z_tdT_one _ _ _ _ _ _ _ _ _ _ _ _ _ _ _ _ h1 h2
  exact ⟨by rw [a], by rw [b, c, d, e]⟩
theorem z_cutR_pc {R C R2 C2 : Nat → Nat} {m : Nat} {L K : Nat → Nat} {p q w r : Int32} (h : z_pc (z_pr R) (z_pr C) m L K) (hq : z_cutR R C m p q w r R2 C2) : z_pc (z_pr R2) (z_pr C2) m L K := by
  by_cases h0 : m = 0
  · subst h0
    exact ⟨by omega, fun i hi => absurd hi (by omega), fun i j _ hj => absurd hj (by omega)⟩
  · rcases hq with ⟨-, -, rfl, rfl⟩ | ⟨-, -, -, rfl, rfl⟩ | ⟨v, y, z, -, a, -⟩
    · exact h
    · exact h
    · exact absurd a h0
/-- the states kept behind keep; the state behind undo -/
def l_kc (s : Nat) (sv : l_T) (kv : Nat → l_T) : Nat → l_T := if s = 8 then kv else fun j => if j = s then sv else kv j
def l_uc (sv : l_T) (kv : Nat → l_T) : Nat → l_T
  | 0 => sv
  | k + 1 => kv k
theorem l_kc8 {sv : l_T} {kv : Nat → l_T} : l_kc 8 sv kv = kv := if_pos rfl
theorem l_kcS {s : Nat} {sv : l_T} {kv : Nat → l_T} (h : ¬ s = 8) : l_kc s sv kv s = sv := by unfold l_kc; rw [if_neg h, if_pos rfl]
theorem l_kcN {s j : Nat} {sv : l_T} {kv : Nat → l_T} (h : ¬ s = 8) (e : ¬ j = s) : l_kc s sv kv j = kv j := by unfold l_kc; rw [if_neg h, if_neg e]
def l_sv0 : l_T := l_mk z_R1 z_R1 0 (fun _ => 0) (fun _ => 0) (fun _ => 0)
theorem l_sv0X : l_sX l_sv0 0 (fun _ => 0) (fun _ => 0) (fun _ => 0) := ⟨rfl, ⟨Nat.zero_le _, fun i hi => absurd hi (Nat.not_lt_zero _), fun i j _ hj => absurd hj (Nat.not_lt_zero _)⟩, fun i hi => absurd hi (Nat.not_lt_zero _), fun i hi => absurd hi (Nat.not_lt_zero _)⟩
def lX_at (ci : Nat → ClassId) (a : Nat → Nat) (u : Nat → Int32) (f : Nat → Nat → Int32) : va_W := [((a 0), .inr (0, [.ref (a 6), .ref (a 1), .int (u 0), .int (u 1), .int (u 2), .int (u 3)])), ((a 1), .inr (7, [.ref (a 6), .ref (a 2), .ref (a 3), .ref (a 4), .ref (a 5), .int (u 4), .int (u 5), .int (u 6), .int (u 7)])), ((a 2), .inl (ci 0, 60, .inl (f 0))), ((a 3), .inl (ci 0, 60, .inl (f 1))), ((a 4), .inl (ci 0, 60, .inl (f 2))), ((a 6), .inr (2, [.ref (a 7), .ref (a 8), .ref (a 9), .ref (a 10), .ref (a 11), .ref (a 12)])), ((a 7), .inl (ci 0, 5, .inl (f 3))), ((a 8), .inl (ci 0, 5, .inl (f 4))), ((a 9), .inl (ci 0, 5, .inl (f 5))), ((a 10), .inl (ci 0, 5, .inl (f 6))), ((a 11), .inl (ci 0, 5, .inl (f 7))), ((a 12), .inl (ci 0, 5, .inl (f 8)))]
def lX_ka (ci : Nat → ClassId) (ka : Nat → Nat → Nat) (ku : Nat → Nat → Int32) (kf : Nat → Nat → Nat → Int32) : va_W := lX_at ci (ka 0) (ku 0) (kf 0) ++ (lX_at ci (ka 1) (ku 1) (kf 1) ++ (lX_at ci (ka 2) (ku 2) (kf 2) ++ (lX_at ci (ka 3) (ku 3) (kf 3) ++ (lX_at ci (ka 4) (ku 4) (kf 4) ++ (lX_at ci (ka 5) (ku 5) (kf 5) ++ (lX_at ci (ka 6) (ku 6) (kf 6) ++ (lX_at ci (ka 7) (ku 7) (kf 7))))))))
def l_up {α : Type} (f : Nat → α) (k : Nat) (v : α) : Nat → α := fun j => cond (Nat.beq j k) v (f j)
def XW (ci : Nat → ClassId) (a_x n_wk : Nat) (a : Nat → Nat) (u : Nat → Int32) (f : Nat → Nat → Int32) (xk : Nat → Option Nat) (K : va_W) : va_W := (a_x, .inr (10, [.ref (a 0), .ref (a 1), .ref (a 2), .ref (a 3), .int (u 0), .ref (a 4), .ref (a 5), .ref (a 6), .ref (a 7), .ref (a 8), .ref (a 9), .ref (a 10), .ref (a 11), .ref (a 12)])) :: ((a 4), .inr (8, [.ref (a 13), .int (u 1)])) :: ((a 13), .inl (ci 0, 200, .inl (f 0))) :: ((a 2), .inr (7, [.ref (a 1), .ref (a 14), .ref (a 15), .ref (a 16), .ref (a 17), .int (u 2), .int (u 3), .int (u 4), .int (u 5)])) :: ((a 1), .inr (2, [.ref (a 18), .ref (a 19), .ref (a 20), .ref (a 21), .ref (a 22), .ref (a 23)])) :: ((a 18), .inl (ci 0, 5, .inl (f 1))) :: ((a 19), .inl (ci 0, 5, .inl (f 2))) :: ((a 20), .inl (ci 0, 5, .inl (f 3))) :: ((a 21), .inl (ci 0, 5, .inl (f 4))) :: ((a 22), .inl (ci 0, 5, .inl (f 5))) :: ((a 23), .inl (ci 0, 5, .inl (f 6))) :: ((a 7), .inr (6, [.ref (a 1), .ref (a 24), .ref (a 25), .ref (a 26), .int (u 6), .int (u 7), .int (u 8), .int (u 9), .int (u 10), .int (u 11), .int (u 12)])) :: ((a 10), .inr (4, [.ref (a 27), .int (u 13)])) :: ((a 27), .inl (ci 0, 40, .inl (f 7))) :: ((a 5), .inr (3, [.ref (a 1), .ref (a 4), .int (u 14), .int (u 15), .int (u 16), .int (u 17), .int (u 18), .int (u 19), .int (u 20)])) :: ((a 0), .inr (0, [.ref (a 1), .ref (a 2), .int (u 21), .int (u 22), .int (u 23), .int (u 24)])) :: ((a 24), .inl (ci 0, 4, .inl (f 8))) :: ((a 25), .inl (ci 0, 4, .inl (f 9))) :: ((a 8), .inr (9, [.ref (a 28), .ref (a 29), .ref (a 30), .int (u 25)])) :: ((a 29), .inl (ci 0, n_wk, .inl (f 10))) :: ((a 30), .inl (ci 0, n_wk, .inl (f 11))) :: ((a 28), .inr (6, [.ref (a 1), .ref (a 31), .ref (a 32), .ref (a 33), .int (u 26), .int (u 27), .int (u 28), .int (u 29), .int (u 30), .int (u 31), .int (u 32)])) :: ((a 31), .inl (ci 0, 4, .inl (f 12))) :: ((a 32), .inl (ci 0, 4, .inl (f 13))) :: ((a 26), .inl (ci 0, 4, .inl (f 14))) :: ((a 9), .inr (1, [.ref (a 1), .int (u 33), .int (u 34), .int (u 35), .int (u 36)])) :: ((a 11), .inr (4, [.ref (a 34), .int (u 37)])) :: ((a 34), .inl (ci 0, 40, .inl (f 15))) :: ((a 6), .inr (5, [.ref (a 5), .ref (a 4), .int (u 38), .int (u 39), .int (u 40), .int (u 41), .int (u 42)])) :: ((a 14), .inl (ci 0, 60, .inl (f 16))) :: ((a 15), .inl (ci 0, 60, .inl (f 17))) :: ((a 16), .inl (ci 0, 60, .inl (f 18))) :: ((a 17), .inl (ci 0, 5, .inl (f 19))) :: ((a 12), .inl (ci 0, 200, .inl (f 20))) :: ((a 3), .inl (ci 3, 8, .inr (.inr (.inr (.inr xk))))) :: K
def MW (ci : Nat → ClassId) (a_m : Nat) (a : Nat → Nat) (u : Nat → Int32) (v : Nat → Int64) (f : Nat → Nat → Int32) (h : Nat → Nat → Int64) : va_W := [(a_m, .inr (11, (.ref (a 0) :: .ref (a 1) :: .ref (a 2) :: .ref (a 3) :: .ref (a 4) :: .ref (a 5) :: .ref (a 6) :: .ref (a 7) :: .int (u 0) :: .int (u 1) :: .int (u 2) :: .int (u 3) :: .int (u 4) :: .int (u 5) :: .int (u 6) :: .int (u 7) :: .int (u 8) :: .int (u 9) :: .long (v 0) :: .long (v 1) :: .ref (a 8) :: .int (u 10) :: .int (u 11) :: .ref (a 9) :: .ref (a 10) :: .int (u 12) :: .int (u 13) :: .int (u 14) :: .int (u 15) :: .int (u 16) :: .int (u 17) :: .int (u 18) :: .int (u 19) :: .int (u 20) :: .ref (a 11) :: .ref (a 12) :: .ref (a 13) :: .int (u 21) :: .ref (a 14) :: .ref (a 15) :: .int (u 22) :: .ref (a 16) :: []))), ((a 7), .inl (ci 2, 200, .inl (f 0))), ((a 0), .inl (ci 0, 5, .inl (f 1))), ((a 1), .inl (ci 0, 5, .inl (f 2))), ((a 2), .inl (ci 0, 5, .inl (f 3))), ((a 3), .inl (ci 0, 5, .inl (f 4))), ((a 4), .inl (ci 0, 45, .inl (f 5))), ((a 5), .inl (ci 0, 20, .inl (f 6))), ((a 8), .inl (ci 1, 4, .inr (.inl (h 0)))), ((a 9), .inl (ci 0, 20000, .inl (f 7))), ((a 10), .inl (ci 0, 20000, .inl (f 8))), ((a 6), .inl (ci 0, 20, .inl (f 9))), ((a 11), .inl (ci 0, 60, .inl (f 10))), ((a 12), .inl (ci 0, 60, .inl (f 11))), ((a 13), .inl (ci 0, 60, .inl (f 12))), ((a 14), .inl (ci 0, 200, .inl (f 13))), ((a 15), .inl (ci 0, 1552, .inl (f 14))), ((a 16), .inl (ci 0, 8, .inl (f 15)))]
def lX_ok (sv : l_T) (u : Nat → Int32) (f : Nat → Nat → Int32) : Prop := l_sX sv (u 4) (f 0) (f 1) (f 2) ∧ z_kg (l_R sv) (l_C sv) (f 3) (f 4)
def lM_ok (sv : l_T) (kp : Nat → Int32) (j : Nat) : Prop := z_mkT (l_R sv) (l_C sv) (l_m sv) (l_L sv) (l_K sv) (l_Y sv) kp j ∧ z_pc (z_pr (l_R sv)) (z_pr (l_C sv)) (l_m sv) (l_L sv) (l_K sv) ∧ z_yr (l_m sv) (l_Y sv)
/-- a good state of the class: its tape holds t bytes, its walk has rows of n -/
def XI (ci : Nat → ClassId) (a_x : Nat) (Wd : va_W) (t n_wk s0 : Nat) (sv : l_T) (kv : Nat → l_T) : Prop := ∃ (a : Nat → Nat) (u : Nat → Int32) (f : Nat → Nat → Int32) (xk : Nat → Option Nat) (ka : Nat → Nat → Nat) (ku : Nat → Nat → Int32) (kf : Nat → Nat → Nat → Int32), Wd = XW ci a_x n_wk a u f xk (lX_ka ci ka ku kf) ∧ (t ≤ 200 ∧ (u 1) = nI t) ∧ ((n_wk = 0 ∨ ∃ k, n_wk = 2130 * k + 2) ∧ n_wk ≤ 20000) ∧ GOK (l_R sv) (l_C sv) (z_pr (l_R sv)) (z_pr (l_C sv)) (f 1) (f 2) (f 3) (f 4) (f 5) (f 6) ∧ l_sX sv (u 2) (f 16) (f 17) (f 18) ∧ (s0 ≤ 8 ∧ (u 0) = nI s0 ∧ ∀ j, j < s0 → lX_ok (kv j) (ku j) (kf j)) ∧ (∀ j, j < 8 → xk j = some (ka j 0))
/-- a good state of the reference -/
def MI (ci : Nat → ClassId) (a_m : Nat) (Wd : va_W) (t s0 : Nat) (sv : l_T) (kv : Nat → l_T) : Prop := ∃ (a : Nat → Nat) (u : Nat → Int32) (v : Nat → Int64) (f : Nat → Nat → Int32) (h : Nat → Nat → Int64), Wd = MW ci a_m a u v f h ∧ (t ≤ 200 ∧ (u 0) = nI t) ∧ MOK (l_R sv) (l_C sv) (z_pr (l_R sv)) (z_pr (l_C sv)) (f 1) (f 2) (f 3) (f 4) (f 5) ∧ l_sX sv (u 19) (f 10) (f 11) (f 12) ∧ (s0 ≤ 8 ∧ (u 20) = nI s0 ∧ ∀ j, j < s0 → lM_ok (kv j) (f 14) j)
theorem XI.ok {ci : Nat → ClassId} {a_x t n s0 : Nat} {Wd : va_W} {sv : l_T} {kv : Nat → l_T} (h : XI ci a_x Wd t n s0 sv kv) : l_ok sv := by
  obtain ⟨a, u, f, xk, ka, ku, kf, -, -, -, g, hs, -⟩ := h
  exact ⟨g.2, hs.2.1⟩
/-- how many states are kept behind keep, undo; what they answer -/
def l_ks (s : Nat) : Nat := if s = 8 then 8 else s + 1
def l_kr (s : Nat) : Int32 := if s = 8 then -1 else nI (s + 1)
def l_ur (s : Nat) : Int32 := if s = 0 then -1 else nI (s - 1)
/-- how many bytes the tape holds behind feed, named, ask -/
def l_tf (t : Nat) : Nat := if t ≤ 180 then t + 20 else t
def l_ta (p : Int32) (t : Nat) : Nat := if 1 ≤ p.toInt ∧ p.toInt ≤ 100 ∧ p.toInt ≤ t then 0 else t
def l_tn (p q : Int32) (t : Nat) : Nat := if (1 ≤ p.toInt ∧ p.toInt ≤ 40 ∧ p.toInt ≤ t) ∧ (0 ≤ q.toInt ∧ q.toInt ≤ 1) then 0 else t
theorem l_tfB {t : Nat} (h : t ≤ 200) : l_tf t ≤ 200 := by unfold l_tf; split <;> omega
theorem l_taB {p : Int32} {t : Nat} (h : t ≤ 200) : l_ta p t ≤ 200 := by unfold l_ta; split <;> omega
theorem l_tnB {p q : Int32} {t : Nat} (h : t ≤ 200) : l_tn p q t ≤ 200 := by unfold l_tn; split <;> omega
theorem l_ta1 {p : Int32} {t : Nat} (h : z_txc 100 p t) : l_ta p t = 0 := if_pos h
theorem l_ta2 {p : Int32} {t : Nat} (h : ¬ z_txc 100 p t) : l_ta p t = t := if_neg h
theorem l_tn1 {p q : Int32} {t : Nat} (h : z_txc 40 p t ∧ (0 ≤ q.toInt ∧ q.toInt ≤ 1)) : l_tn p q t = 0 := if_pos h
theorem l_tn2 {p q : Int32} {t : Nat} (h : ¬ (z_txc 40 p t ∧ (0 ≤ q.toInt ∧ q.toInt ≤ 1))) : l_tn p q t = t := if_neg h
theorem Met.imp {l : Launch} {y : MethodName} {ws : List Cond} {rm : Room} {Pc Pc2 : Array Value → State → Prop} {Qc Qc2 : Array Value → State → Outcome → State → Prop} {mc ms : Nat} {free : Addr → Prop} (h : Met l y ws rm Pc Qc mc ms free) (hp : ∀ a s, Pc2 a s → Pc a s) (hq : ∀ a s o t, Pc2 a s → Qc a s o t → Qc2 a s o t) : Met l y ws rm Pc2 Qc2 mc ms free := by
  intro p e h1 h2 h3 s m args below h4 h5 h6 h7
  obtain ⟨n, o, a1, a2, a3, a4, a5⟩ := h p e h1 h2 h3 s m args below h4 h5 (hp _ _ h6) h7
  exact ⟨n, o, a1, a2, a3, hq _ _ _ _ h6 a4, a5⟩
section LWR
variable {l : Launch} {D : va_G} {ci : Nat → ClassId} {A : Nat → Prop} {sa : Nat → Nat} {y : MethodName} {ws : List Cond} {rm : Room} {av : List Value} {v : Option Value} {mc ms : Nat} {Wd W1 W2 W3 : va_W}
theorem q_wr (n : Nat) (is : List Nat) (e1 : q_pk n is Wd = W1) (ok1 : q_ok n is Wd) (is2 : List Nat) (h : Met l y ws rm (va_Pc av (q_N D ci A sa W1)) (q_Q v (q_O D A W2) A) mc ms A) (e2 : q_pk n is2 W2 = W3) (ok2 : q_ok n is2 W2) : Met l y ws rm (va_Pc av (q_N D ci A sa Wd)) (q_Q v (q_O D A W3) A) mc ms A :=
  h.imp (fun _ _ h => ⟨h.1, q_pk_P h.2.1 e1, q_pk_D h.2.2.1 e1 ok1, h.2.2.2⟩) (fun _ _ _ _ _ h => ⟨h.1, ⟨q_pk_P h.2.1.1 e2, q_pk_D h.2.1.2 e2 ok2⟩, h.2.2⟩)
theorem q_wrX {W2x W3x : Nat → Nat → va_W} (n : Nat) (is : List Nat) (e1 : q_pk n is Wd = W1) (ok1 : q_ok n is Wd) (is2 : List Nat) (h : Met l y ws rm (va_Pc av (q_N D ci A sa W1)) (q_Q v (fun t => ∃ b1 b2 : Nat, q_O D A (W2x b1 b2) t) A) mc ms A) (e2 : ∀ b1 b2, q_pk n is2 (W2x b1 b2) = W3x b1 b2) (ok2 : ∀ b1 b2, q_ok n is2 (W2x b1 b2)) : Met l y ws rm (va_Pc av (q_N D ci A sa Wd)) (q_Q v (fun t => ∃ b1 b2 : Nat, q_O D A (W3x b1 b2) t) A) mc ms A :=
  h.imp (fun _ _ h => ⟨h.1, q_pk_P h.2.1 e1, q_pk_D h.2.2.1 e1 ok1, h.2.2.2⟩) (fun _ _ _ _ _ h => ⟨h.1, h.2.1.elim (fun b1 q => q.elim (fun b2 q => ⟨b1, b2, q_pk_P q.1 (e2 b1 b2), q_pk_D q.2 (e2 b1 b2) (ok2 b1 b2)⟩)), h.2.2⟩)
theorem q_wrR (n : Nat) (is : List Nat) (e1 : q_pk n is Wd = W1) (ok1 : q_ok n is Wd) (h : Met l y ws rm (va_Pc av (q_N D ci A sa W1)) (q_R v) mc ms A) : Met l y ws rm (va_Pc av (q_N D ci A sa Wd)) (q_Q v (q_O D A Wd) A) mc ms A :=
  h.imp (fun _ _ h => ⟨h.1, q_pk_P h.2.1 e1, q_pk_D h.2.2.1 e1 ok1, h.2.2.2⟩) (fun _ _ _ _ hp h => ⟨h.1, ⟨by rw [h.2]; exact hp.2.1, hp.2.2.1⟩, by rw [h.2]; exact Nat.le_refl _, fun q _ _ => by rw [h.2]⟩)
/-- what a call leaves: some world with I -/
theorem q_wrI {I : va_W → Prop} {R : va_W} (h : Met l y ws rm (va_Pc av (q_N D ci A sa Wd)) (q_Q v (q_O D A (W3 ++ R)) A) mc ms A) (hI : I W3) : Met l y ws rm (va_Pc av (q_N D ci A sa Wd)) (q_Q v (fun t => ∃ W3, I W3 ∧ q_O D A (W3 ++ R) t) A) mc ms A :=
  h.imp (fun _ _ h => h) (fun _ _ _ _ _ h => ⟨h.1, ⟨W3, hI, h.2.1⟩, h.2.2⟩)
theorem q_wrIX {I : va_W → Prop} {R : va_W} {W3x : Nat → Nat → va_W} (h : Met l y ws rm (va_Pc av (q_N D ci A sa Wd)) (q_Q v (fun t => ∃ b1 b2 : Nat, q_O D A (W3x b1 b2 ++ R) t) A) mc ms A) (hI : ∀ b1 b2, I (W3x b1 b2)) : Met l y ws rm (va_Pc av (q_N D ci A sa Wd)) (q_Q v (fun t => ∃ W3, I W3 ∧ q_O D A (W3 ++ R) t) A) mc ms A :=
  h.imp (fun _ _ h => h) (fun _ _ _ _ _ h => ⟨h.1, h.2.1.elim (fun b1 q => q.elim (fun b2 q => ⟨_, hI b1 b2, q⟩)), h.2.2⟩)
end LWR
end
section
/-! answers: level, piece, key, parent, keyAt -/
section S1A
variable {rc cc br zc rw sh cr cq dp wd za fl fk fy : Nat → Int32} {sv : l_T} {N : Nat}
def l_vlevel (sv : l_T) (l : Nat) (q : Int32) : Int32 := if q = 0 then nI (2130 * (z_pr (l_R sv) l * z_pr (l_C sv) l) + 2) else if q = 1 then nI (44 * z_pr (l_R sv) l + 2) else if q = 2 then nI (l_R sv l) else if q = 3 then nI (l_C sv l) else if q = 4 then nI (z_pr (l_R sv) l) else if q = 5 then nI (z_pr (l_C sv) l) else -1
def l_alevel (sv : l_T) (p q r : Int32) : Prop := (¬ (0 ≤ p.toInt ∧ p.toInt ≤ 4) ∧ r = -1) ∨ (∃ l, (0 ≤ p.toInt ∧ p.toInt ≤ 4) ∧ l < 5 ∧ p = nI l ∧ r = l_vlevel sv l q)
theorem l_alevel_one {p q r r' : Int32} (_ : l_ok sv) (h1 : l_alevel sv p q r) (h2 : l_alevel sv p q r') : r = r' := by
  rcases h1 with ⟨a, b⟩ | ⟨l, a, b, c, d⟩ <;> rcases h2 with ⟨a', b'⟩ | ⟨l', a', b', c', d'⟩
  · exact b.trans b'.symm
  · exact absurd a' a
  · exact absurd a a'
  · have e : l = l' := by rw [c, nI_eq (by omega) (by omega)] at c'; exact c'
    subst e
    exact d.trans d'.symm
theorem a_x_level (g : GOK (l_R sv) (l_C sv) (z_pr (l_R sv)) (z_pr (l_C sv)) rc cc br zc rw sh) (p q : Int32) : Ok (f_X_level rc cc br zc rw sh p q) (fun x => l_alevel sv p q x) := by
  unfold f_X_level
  refine Ok.b1 (r_isLevel p) (fun v1 h1 => Ok.ite (fun c => Ok.ret (Or.inl ⟨z_if0 h1 c, rfl⟩)) (fun c => ?_))
  have hv := z_if1 h1 c
  obtain ⟨l, hl, rfl⟩ := t_level hv
  obtain ⟨g1, g2, g3, g4, g5, g6⟩ := g.at hl
  have fin : ∀ r, r = l_vlevel sv l q → Ok (some r) (fun x => l_alevel sv (nI l) q x) := fun r h => Ok.ret (Or.inr ⟨l, hv, hl, rfl, h⟩)
  unfold l_vlevel at fin
  by_cases c0 : q = 0
  · rw [if_pos c0, z_ai hl (by omega), g6]; exact fin _ (by rw [if_pos c0])
  by_cases c1 : q = 1
  · rw [if_neg c0, if_pos c1, z_ai hl (by omega), g5]; exact fin _ (by rw [if_neg c0, if_pos c1])
  by_cases c2 : q = 2
  · rw [if_neg c0, if_neg c1, if_pos c2, z_ai hl (by omega), g1]; exact fin _ (by rw [if_neg c0, if_neg c1, if_pos c2])
  by_cases c3 : q = 3
  · rw [if_neg c0, if_neg c1, if_neg c2, if_pos c3, z_ai hl (by omega), g2]; exact fin _ (by rw [if_neg c0, if_neg c1, if_neg c2, if_pos c3])
  by_cases c4 : q = 4
  · rw [if_neg c0, if_neg c1, if_neg c2, if_neg c3, if_pos c4, z_ai hl (by omega), g3]; exact fin _ (by rw [if_neg c0, if_neg c1, if_neg c2, if_neg c3, if_pos c4])
  by_cases c5 : q = 5
  · rw [if_neg c0, if_neg c1, if_neg c2, if_neg c3, if_neg c4, if_pos c5, z_ai hl (by omega), g4]; exact fin _ (by rw [if_neg c0, if_neg c1, if_neg c2, if_neg c3, if_neg c4, if_pos c5])
  · rw [if_neg c0, if_neg c1, if_neg c2, if_neg c3, if_neg c4, if_neg c5]; exact fin _ (by rw [if_neg c0, if_neg c1, if_neg c2, if_neg c3, if_neg c4, if_neg c5])
theorem a_m_level (g : MOK (l_R sv) (l_C sv) (z_pr (l_R sv)) (z_pr (l_C sv)) cr cq dp wd za) (p q : Int32) : Ok (f_M_level cr cq dp wd za p q) (fun x => l_alevel sv p q x) := by
  unfold f_M_level
  refine Ok.b1 (t_isLevel p) (fun v1 h1 => Ok.ite (fun c => Ok.ret (Or.inl ⟨z_if0 h1 c, rfl⟩)) (fun c => ?_))
  have hv := z_if1 h1 c
  obtain ⟨l, hl, rfl⟩ := t_level hv
  obtain ⟨g1, g2, g3, g4⟩ := g.1 l hl
  have fin : ∀ r, r = l_vlevel sv l q → Ok (some r) (fun x => l_alevel sv (nI l) q x) := fun r h => Ok.ret (Or.inr ⟨l, hv, hl, rfl, h⟩)
  unfold l_vlevel at fin
  refine Ok.b1 (t_in _ _ _) (fun v2 h2 => ?_)
  rw [z_toL, show (0 : Int64).toInt = 0 from rfl, show (5 : Int64).toInt = 5 from rfl] at h2
  refine Ok.ite (fun d => ?_) (fun d => ?_)
  · have hn := z_if0 h2 d
    have ne : ∀ j : Nat, j ≤ 5 → ¬ q = nI j := fun j hj e => hn (by rw [e, nI_toInt (by omega)]; omega)
    exact fin _ (by rw [if_neg (show ¬ q = 0 from ne 0 (by omega)), if_neg (show ¬ q = 1 from ne 1 (by omega)), if_neg (show ¬ q = 2 from ne 2 (by omega)), if_neg (show ¬ q = 3 from ne 3 (by omega)), if_neg (show ¬ q = 4 from ne 4 (by omega)), if_neg (show ¬ q = 5 from ne 5 (by omega))])
  have hy := z_if1 h2 d
  obtain ⟨j, -, rfl, hj⟩ := z_nat hy.1
  rcases (show j = 0 ∨ j = 1 ∨ j = 2 ∨ j = 3 ∨ j = 4 ∨ j = 5 by omega) with rfl | rfl | rfl | rfl | rfl | rfl
  · rw [if_pos (by decide), m_sheets g hl, q_b1_s]; exact fin _ (by rw [if_pos (by decide)])
  · rw [if_neg (by decide), if_pos (by decide)]
    unfold f_M_rows
    rw [z_ai hl (by omega), g3, z_i 44, pk_mul, z_i 2, nI_add, q_b1_s, Nat.add_comm]
    exact fin _ (by rw [if_neg (by decide), if_pos (by decide)])
  · rw [if_neg (by decide), if_neg (by decide), if_pos (by decide), z_ai hl (by omega), g1]; exact fin _ (by rw [if_neg (by decide), if_neg (by decide), if_pos (by decide)])
  · rw [if_neg (by decide), if_neg (by decide), if_neg (by decide), if_pos (by decide), z_ai hl (by omega), g2]; exact fin _ (by rw [if_neg (by decide), if_neg (by decide), if_neg (by decide), if_pos (by decide)])
  · rw [if_neg (by decide), if_neg (by decide), if_neg (by decide), if_neg (by decide), if_pos (by decide), z_ai hl (by omega), g3]; exact fin _ (by rw [if_neg (by decide), if_neg (by decide), if_neg (by decide), if_neg (by decide), if_pos (by decide)])
  · rw [if_neg (by decide), if_neg (by decide), if_neg (by decide), if_neg (by decide), if_neg (by decide), z_ai hl (by omega), g4]; exact fin _ (by rw [if_neg (by decide), if_neg (by decide), if_neg (by decide), if_neg (by decide), if_neg (by decide), if_pos (by decide)])
/-! piece -/
def l_vpiece (sv : l_T) (i : Nat) (q : Int32) : Int32 := if q = 0 then nI (l_L sv i) else if q = 1 then nI (l_K sv i) else l_Y sv i
def l_apiece (sv : l_T) (p q r : Int32) : Prop := (¬ (0 ≤ p.toInt ∧ (0 ≤ q.toInt ∧ q.toInt ≤ 2)) ∧ r = -1) ∨ (∃ i, (0 ≤ p.toInt ∧ (0 ≤ q.toInt ∧ q.toInt ≤ 2)) ∧ i < 2 ^ 31 ∧ p = nI i ∧ ((i < l_m sv ∧ r = l_vpiece sv i q) ∨ (¬ i < l_m sv ∧ r = -2)))
theorem l_apiece_one {p q r r' : Int32} (_ : l_ok sv) (h1 : l_apiece sv p q r) (h2 : l_apiece sv p q r') : r = r' := by
  rcases h1 with ⟨a, b⟩ | ⟨l, a, b, c, d⟩ <;> rcases h2 with ⟨a', b'⟩ | ⟨l', a', b', c', d'⟩
  · exact b.trans b'.symm
  · exact absurd a' a
  · exact absurd a a'
  · have e : l = l' := by rw [c, nI_eq b b'] at c'; exact c'
    subst e
    rcases d with ⟨x, y⟩ | ⟨x, y⟩ <;> rcases d' with ⟨x', y'⟩ | ⟨x', y'⟩
    · exact y.trans y'.symm
    · exact absurd x x'
    · exact absurd x' x
    · exact y.trans y'.symm
theorem a_x_piece (hr : z_rp (l_m sv) (l_L sv) (l_K sv) (l_Y sv) fl fk fy) (hm : l_m sv ≤ 60) (p q : Int32) : Ok (f_X_piece fl fk fy (nI (l_m sv)) p q) (fun x => l_apiece sv p q x) := by
  unfold f_X_piece
  have t0 : (0 : Int32).toInt = 0 := rfl
  refine Ok.ite (fun c => Ok.ret (Or.inl ⟨fun z => ?_, rfl⟩)) (fun c => Ok.b1 (s_isFrom q _ _) (fun v1 h1 => ?_))
  · rw [z_lt, t0] at c; have := z.1; omega
  rw [t0, show (2 : Int32).toInt = 2 from rfl] at h1
  refine Ok.ite (fun d => Ok.ret (Or.inl ⟨fun z => z_if0 h1 d z.2, rfl⟩)) (fun d => ?_)
  have hp : 0 ≤ p.toInt := by
    have w : ¬ p.toInt < (0 : Int32).toInt := fun z => c (z_lt.mpr z)
    rw [t0] at w; omega
  have hq := z_if1 h1 d
  obtain ⟨i, hi, rfl, -⟩ := z_nat hp
  refine Ok.ite (fun e => ?_) (fun e => ?_)
  all_goals rw [nI_ltI hi (by omega)] at e
  · obtain ⟨e1, e2, e3⟩ := hr i e
    have fin : ∀ r, r = l_vpiece sv i q → Ok (some r) (fun x => l_apiece sv (nI i) q x) := fun r h => Ok.ret (Or.inr ⟨i, ⟨hp, hq⟩, hi, rfl, Or.inl ⟨e, h⟩⟩)
    unfold l_vpiece at fin
    by_cases c0 : q = 0
    · rw [if_pos c0, z_ai (by omega) (by omega), e1]; exact fin _ (by rw [if_pos c0])
    by_cases c1 : q = 1
    · rw [if_neg c0, if_pos c1, z_ai (by omega) (by omega), e2]; exact fin _ (by rw [if_neg c0, if_pos c1])
    · rw [if_neg c0, if_neg c1, z_ai (by omega) (by omega), e3]; exact fin _ (by rw [if_neg c0, if_neg c1])
  · exact Ok.ret (Or.inr ⟨i, ⟨hp, hq⟩, hi, rfl, Or.inr ⟨e, rfl⟩⟩)
theorem a_m_piece (hr : z_rp (l_m sv) (l_L sv) (l_K sv) (l_Y sv) fl fk fy) (hm : l_m sv ≤ 60) (p q : Int32) : Ok (f_M_piece (nI (l_m sv)) fl fk fy p q) (fun x => l_apiece sv p q x) := by
  unfold f_M_piece
  have t0 : (0 : Int32).toInt = 0 := rfl
  refine Ok.ite (fun c => Ok.ret (Or.inl ⟨fun z => ?_, rfl⟩)) (fun c => Ok.b1 (t_in _ _ _) (fun v1 h1 => ?_))
  · rw [z_lt, t0] at c; have := z.1; omega
  rw [z_toL, show (0 : Int64).toInt = 0 from rfl, show (2 : Int64).toInt = 2 from rfl] at h1
  refine Ok.ite (fun d => Ok.ret (Or.inl ⟨fun z => z_if0 h1 d z.2, rfl⟩)) (fun d => ?_)
  have hp : 0 ≤ p.toInt := by
    have w : ¬ p.toInt < (0 : Int32).toInt := fun z => c (z_lt.mpr z)
    rw [t0] at w; omega
  have hq := z_if1 h1 d
  obtain ⟨i, hi, rfl, -⟩ := z_nat hp
  refine Ok.ite (fun e => ?_) (fun e => ?_)
  all_goals rw [nI_ltI hi (by omega)] at e
  · obtain ⟨e1, e2, e3⟩ := hr i e
    have fin : ∀ r, r = l_vpiece sv i q → Ok (some r) (fun x => l_apiece sv (nI i) q x) := fun r h => Ok.ret (Or.inr ⟨i, ⟨hp, hq⟩, hi, rfl, Or.inl ⟨e, h⟩⟩)
    unfold l_vpiece at fin
    by_cases c0 : q = 0
    · rw [if_pos c0, z_ai (by omega) (by omega), e1]; exact fin _ (by rw [if_pos c0])
    by_cases c1 : q = 1
    · rw [if_neg c0, if_pos c1, z_ai (by omega) (by omega), e2]; exact fin _ (by rw [if_neg c0, if_pos c1])
    · rw [if_neg c0, if_neg c1, z_ai (by omega) (by omega), e3]; exact fin _ (by rw [if_neg c0, if_neg c1])
  · exact Ok.ret (Or.inr ⟨i, ⟨hp, hq⟩, hi, rfl, Or.inr ⟨e, rfl⟩⟩)
/-! key -/
def l_akey (sv : l_T) (p q w r : Int32) : Prop := (¬ (z_plV p q ∧ (0 ≤ w.toInt ∧ w.toInt ≤ 4)) ∧ r = -1) ∨ (∃ l o, (z_plV p q ∧ (0 ≤ w.toInt ∧ w.toInt ≤ 4)) ∧ l < 5 ∧ o < 1296000 ∧ w = nI l ∧ q = nI o ∧ r = nI (z_kp (z_pr (l_R sv) l) (z_pr (l_C sv) l) p.toInt o))
theorem l_akey_one {p q w r r' : Int32} (_ : l_ok sv) (h1 : l_akey sv p q w r) (h2 : l_akey sv p q w r') : r = r' := by
  rcases h1 with ⟨a, b⟩ | ⟨l, o, a, b, b2, c, c2, d⟩ <;> rcases h2 with ⟨a', b'⟩ | ⟨l', o', a', b', b2', c', c2', d'⟩
  · exact b.trans b'.symm
  · exact absurd a' a
  · exact absurd a a'
  · have e : l = l' := by rw [c, nI_eq (by omega) (by omega)] at c'; exact c'
    have e2 : o = o' := by rw [c2, nI_eq (by omega) (by omega)] at c2'; exact c2'
    subst e e2
    exact d.trans d'.symm
theorem a_x_key (g : GOK (l_R sv) (l_C sv) (z_pr (l_R sv)) (z_pr (l_C sv)) rc cc br zc rw sh) (p q w : Int32) : Ok (f_X_key br zc rw sh p q w) (fun x => l_akey sv p q w x) := by
  unfold f_X_key
  refine Ok.b1 (r_isPlaceX p q) (fun v1 h1 => ?_)
  rcases h1 with ⟨z, rfl⟩ | ⟨z, rfl⟩
  rotate_left
  · exact Ok.ite (fun _ => Ok.ret (Or.inl ⟨fun u => z u.1, rfl⟩)) (fun c => absurd rfl c)
  refine Ok.ite (fun c => absurd c (by decide)) (fun _ => Ok.b1 (r_isLevel w) (fun v2 h2 => Ok.ite (fun c => Ok.ret (Or.inl ⟨fun u => z_if0 h2 c u.2, rfl⟩)) (fun c => ?_)))
  have hv := z_if1 h2 c
  obtain ⟨l, hl, rfl⟩ := t_level hv
  obtain ⟨o, ho, rfl⟩ := z_plV_o z
  rw [k_keyAtPlace g hl z.1.1 z.1.2 ho, q_b1_s]
  exact Ok.ret (Or.inr ⟨l, o, ⟨z, hv⟩, hl, ho, rfl, rfl, rfl⟩)
theorem a_m_key (g : MOK (l_R sv) (l_C sv) (z_pr (l_R sv)) (z_pr (l_C sv)) cr cq dp wd za) (p q w : Int32) : Ok (f_M_key dp wd za p q w) (fun x => l_akey sv p q w x) := by
  unfold f_M_key
  refine Ok.b1 (r_isPlaceM p q) (fun v1 h1 => ?_)
  rcases h1 with ⟨z, rfl⟩ | ⟨z, rfl⟩
  rotate_left
  · exact Ok.ite (fun _ => Ok.ret (Or.inl ⟨fun u => z u.1, rfl⟩)) (fun c => absurd rfl c)
  refine Ok.ite (fun c => absurd c (by decide)) (fun _ => Ok.b1 (t_isLevel w) (fun v2 h2 => Ok.ite (fun c => Ok.ret (Or.inl ⟨fun u => z_if0 h2 c u.2, rfl⟩)) (fun c => ?_)))
  have hv := z_if1 h2 c
  obtain ⟨l, hl, rfl⟩ := t_level hv
  obtain ⟨o, ho, rfl⟩ := z_plV_o z
  rw [m_keyAtPlace g hl p ho, q_b1_s]
  exact Ok.ret (Or.inr ⟨l, o, ⟨z, hv⟩, hl, ho, rfl, rfl, rfl⟩)
/-! parent -/
def l_aparent (sv : l_T) (p q w r : Int32) : Prop := (¬ (z_hs (z_pr (l_R sv)) (z_pr (l_C sv)) p q ∧ (0 ≤ w.toInt ∧ w.toInt ≤ p.toInt)) ∧ r = -1) ∨ (∃ l k t k2, (z_hs (z_pr (l_R sv)) (z_pr (l_C sv)) p q ∧ (0 ≤ w.toInt ∧ w.toInt ≤ p.toInt)) ∧ l < 5 ∧ t ≤ l ∧ k < 20000000 ∧ p = nI l ∧ q = nI k ∧ w = nI t ∧ z_upr (z_pr (l_R sv)) (z_pr (l_C sv)) l t k k2 ∧ r = nI k2)
theorem l_aparent_one {p q w r r' : Int32} (h : l_ok sv) (h1 : l_aparent sv p q w r) (h2 : l_aparent sv p q w r') : r = r' := by
  rcases h1 with ⟨a, b⟩ | ⟨l, k, t, k2, a, b1, b2, b3, c1, c2, c3, d, e⟩ <;> rcases h2 with ⟨a', b'⟩ | ⟨l', k', t', k2', a', b1', b2', b3', c1', c2', c3', d', e'⟩
  · exact b.trans b'.symm
  · exact absurd a' a
  · exact absurd a a'
  · have e1 : l = l' := by rw [c1, nI_eq (by omega) (by omega)] at c1'; exact c1'
    have e2 : k = k' := by rw [c2, nI_eq (by omega) (by omega)] at c2'; exact c2'
    have e3 : t = t' := by rw [c3, nI_eq (by omega) (by omega)] at c3'; exact c3'
    subst e1 e2 e3
    rw [e, e', z_upr_one (h.1.pos l b1).1 d d']
theorem a_x_parent (g : GOK (l_R sv) (l_C sv) (z_pr (l_R sv)) (z_pr (l_C sv)) rc cc br zc rw sh) (hN : 1000000 ≤ N) (p q w : Int32) : Ok (f_X_parent N br zc rw sh p q w) (fun x => l_aparent sv p q w x) := by
  unfold f_X_parent
  refine Ok.b1 (r_hasSheet g p q) (fun v1 h1 => ?_)
  rcases h1 with ⟨z, rfl⟩ | ⟨z, rfl⟩
  rotate_left
  · exact Ok.ite (fun _ => Ok.ret (Or.inl ⟨fun u => z u.1, rfl⟩)) (fun c => absurd rfl c)
  refine Ok.ite (fun c => absurd c (by decide)) (fun _ => Ok.b1 (s_isFrom w _ _) (fun v2 h2 => ?_))
  rw [show (0 : Int32).toInt = 0 from rfl] at h2
  refine Ok.ite (fun c => Ok.ret (Or.inl ⟨fun u => z_if0 h2 c u.2, rfl⟩)) (fun c => ?_)
  have hv := z_if1 h2 c
  have z' := z
  obtain ⟨l, k, hl, rfl, rfl, hk⟩ := z'
  have hs := g.2.sh hl
  have hv0 := hv
  rw [nI_toInt (by omega)] at hv
  obtain ⟨t, -, rfl, ht⟩ := z_nat hv.1
  refine Ok.b1 (r_above g hN hl (t := t) (by omega) hk) (fun v3 h3 => ?_)
  obtain ⟨k2, hu, e⟩ := h3
  exact Ok.ret (Or.inr ⟨l, k, t, k2, ⟨z, hv0⟩, hl, by omega, by omega, rfl, rfl, rfl, hu, e⟩)
theorem a_m_parent (g : MOK (l_R sv) (l_C sv) (z_pr (l_R sv)) (z_pr (l_C sv)) cr cq dp wd za) (hN : 1000000 ≤ N) (p q w : Int32) : Ok (f_M_parent N dp wd za p q w) (fun x => l_aparent sv p q w x) := by
  unfold f_M_parent
  refine Ok.b1 (r_isKey g p q) (fun v1 h1 => ?_)
  rcases h1 with ⟨z, rfl⟩ | ⟨z, rfl⟩
  rotate_left
  · exact Ok.ite (fun _ => Ok.ret (Or.inl ⟨fun u => z u.1, rfl⟩)) (fun c => absurd rfl c)
  refine Ok.ite (fun c => absurd c (by decide)) (fun _ => Ok.b1 (t_in _ _ _) (fun v2 h2 => ?_))
  rw [z_toL, z_toL, show (0 : Int64).toInt = 0 from rfl] at h2
  refine Ok.ite (fun c => Ok.ret (Or.inl ⟨fun u => z_if0 h2 c u.2, rfl⟩)) (fun c => ?_)
  have hv := z_if1 h2 c
  have z' := z
  obtain ⟨l, k, hl, rfl, rfl, hk⟩ := z'
  have hs := g.2.2.sh hl
  have hv0 := hv
  rw [nI_toInt (by omega)] at hv
  obtain ⟨t, -, rfl, ht⟩ := z_nat hv.1
  refine Ok.b1 (r_parentOf g (by omega) hl (t := t) (by omega) hk) (fun v3 h3 => ?_)
  obtain ⟨k2, hu, e⟩ := h3
  exact Ok.ret (Or.inr ⟨l, k, t, k2, ⟨z, hv0⟩, hl, by omega, by omega, rfl, rfl, rfl, hu, e⟩)
/-! keyAt -/
def l_akeyAt (sv : l_T) (p q w r : Int32) : Prop := ∃ v : Int32, r = v ∧ ((¬ (0 ≤ p.toInt ∧ p.toInt ≤ 4) ∧ v = -1) ∨ (∃ l, (0 ≤ p.toInt ∧ p.toInt ≤ 4) ∧ l < 5 ∧ p = nI l ∧ ((¬ (0 ≤ q.toInt ∧ q.toInt ≤ 44 * (z_pr (l_R sv) l : Int) + 1) ∧ v = -1) ∨ (∃ ro, (0 ≤ q.toInt ∧ q.toInt ≤ 44 * (z_pr (l_R sv) l : Int) + 1) ∧ ro < 2 ^ 31 ∧ q = nI ro ∧ ((¬ (0 ≤ w.toInt ∧ w.toInt < (z_rl (z_pr (l_R sv) l) (z_pr (l_C sv) l) ro : Int)) ∧ v = -1) ∨ (∃ pl, (0 ≤ w.toInt ∧ w.toInt < (z_rl (z_pr (l_R sv) l) (z_pr (l_C sv) l) ro : Int)) ∧ pl < 2 ^ 31 ∧ w = nI pl ∧ v = nI (z_rs (z_pr (l_R sv) l) (z_pr (l_C sv) l) ro + pl)))))))
theorem l_akeyAt_one {p q w r r' : Int32} (_ : l_ok sv) (h1 : l_akeyAt sv p q w r) (h2 : l_akeyAt sv p q w r') : r = r' := by
  obtain ⟨v, rfl, h1⟩ := h1
  obtain ⟨v', rfl, h2⟩ := h2
  rcases h1 with ⟨a, b⟩ | ⟨l, a, b, c, d⟩ <;> rcases h2 with ⟨a', b'⟩ | ⟨l', a', b', c', d'⟩
  · exact b.trans b'.symm
  · exact absurd a' a
  · exact absurd a a'
  have e : l = l' := by rw [c, nI_eq (by omega) (by omega)] at c'; exact c'
  subst e
  rcases d with ⟨f, g⟩ | ⟨ro, f, g, h, i⟩ <;> rcases d' with ⟨f', g'⟩ | ⟨ro', f', g', h', i'⟩
  · exact g.trans g'.symm
  · exact absurd f' f
  · exact absurd f f'
  have e : ro = ro' := by rw [h, nI_eq g g'] at h'; exact h'
  subst e
  rcases i with ⟨j, k⟩ | ⟨pl, j, k, m, n⟩ <;> rcases i' with ⟨j', k'⟩ | ⟨pl', j', k', m', n'⟩
  · exact k.trans k'.symm
  · exact absurd j' j
  · exact absurd j j'
  have e : pl = pl' := by rw [m, nI_eq k k'] at m'; exact m'
  subst e
  exact n.trans n'.symm
theorem a_x_keyAt (g : GOK (l_R sv) (l_C sv) (z_pr (l_R sv)) (z_pr (l_C sv)) rc cc br zc rw sh) (p q w : Int32) : Ok (f_X_keyAt br zc rw sh p q w) (fun x => l_akeyAt sv p q w x) := by
  have t0 : (0 : Int32).toInt = 0 := rfl
  unfold f_X_keyAt
  refine Ok.b1 (r_isLevel p) (fun v1 h1 => Ok.ite (fun c => Ok.ret ⟨_, rfl, Or.inl ⟨z_if0 h1 c, rfl⟩⟩) (fun c => ?_))
  have hv := z_if1 h1 c
  obtain ⟨l, hl, rfl⟩ := t_level hv
  have hb := g.2.hv hl
  have hp := g.2.pos l hl
  have hs := g.2.sh hl
  rw [z_ai hl (by omega), (g.at hl).2.2.2.2.1, z_sub1 (by omega), show 44 * z_pr (l_R sv) l + 2 - 1 = 44 * z_pr (l_R sv) l + 1 from rfl]
  refine Ok.b1 (s_isFrom q _ _) (fun v3 h3 => ?_)
  rw [t0, nI_toInt (by omega), show ((44 * z_pr (l_R sv) l + 1 : Nat) : Int) = 44 * (z_pr (l_R sv) l : Int) + 1 by omega] at h3
  refine Ok.ite (fun c => Ok.ret ⟨_, rfl, Or.inr ⟨l, hv, hl, rfl, Or.inl ⟨z_if0 h3 c, rfl⟩⟩⟩) (fun c => ?_)
  have hq := z_if1 h3 c
  obtain ⟨ro, hro, rfl, ero⟩ := z_nat hq.1
  have hr : ro ≤ 44 * z_pr (l_R sv) l + 1 := by have := hq.2; omega
  have hL := z_rl_pos (V := z_pr (l_C sv) l) hp.1 hp.2 hr
  rw [k_rowLength g hl hr, q_b1_s, z_sub1 (by omega)]
  refine Ok.b1 (s_isFrom w _ _) (fun v5 h5 => ?_)
  rw [t0, nI_toInt (by omega)] at h5
  refine Ok.ite (fun c => Ok.ret ⟨_, rfl, Or.inr ⟨l, hv, hl, rfl, Or.inr ⟨ro, hq, hro, rfl, Or.inl ⟨fun z => z_if0 h5 c ⟨z.1, by have := z.2; omega⟩, rfl⟩⟩⟩⟩) (fun c => ?_)
  have hw := z_if1 h5 c
  obtain ⟨pl, hpl, rfl, epl⟩ := z_nat hw.1
  rw [k_rowStart g hl hr, q_b1_s, nI_add]
  exact Ok.ret ⟨_, rfl, Or.inr ⟨l, hv, hl, rfl, Or.inr ⟨ro, hq, hro, rfl, Or.inr ⟨pl, ⟨hw.1, by have := hw.2; omega⟩, hpl, rfl, rfl⟩⟩⟩⟩
theorem a_m_keyAt (g : MOK (l_R sv) (l_C sv) (z_pr (l_R sv)) (z_pr (l_C sv)) cr cq dp wd za) (p q w : Int32) : Ok (f_M_keyAt dp wd za p q w) (fun x => l_akeyAt sv p q w x) := by
  have t0 : (0 : Int64).toInt = 0 := rfl
  unfold f_M_keyAt
  refine Ok.b1 (t_isLevel p) (fun v1 h1 => Ok.ite (fun c => Ok.ret ⟨_, rfl, Or.inl ⟨z_if0 h1 c, rfl⟩⟩) (fun c => ?_))
  have hv := z_if1 h1 c
  obtain ⟨l, hl, rfl⟩ := t_level hv
  have hb := g.2.2.hv hl
  have hp := g.2.2.pos l hl
  have hs := g.2.2.sh hl
  rw [m_lastRow g hl, q_b1_s]
  refine Ok.b1 (t_in _ _ _) (fun v3 h3 => ?_)
  rw [t0, z_toL, z_toL, nI_toInt (by omega), show ((44 * z_pr (l_R sv) l + 1 : Nat) : Int) = 44 * (z_pr (l_R sv) l : Int) + 1 by omega] at h3
  refine Ok.ite (fun c => Ok.ret ⟨_, rfl, Or.inr ⟨l, hv, hl, rfl, Or.inl ⟨z_if0 h3 c, rfl⟩⟩⟩) (fun c => ?_)
  have hq := z_if1 h3 c
  obtain ⟨ro, hro, rfl, ero⟩ := z_nat hq.1
  have hr : ro ≤ 44 * z_pr (l_R sv) l + 1 := by have := hq.2; omega
  have hL := z_rl_pos (V := z_pr (l_C sv) l) hp.1 hp.2 hr
  rw [m_many g hl hr, q_b1_s, z_sub1 (by omega)]
  refine Ok.b1 (t_in _ _ _) (fun v5 h5 => ?_)
  rw [t0, z_toL, z_toL, nI_toInt (by omega)] at h5
  refine Ok.ite (fun c => Ok.ret ⟨_, rfl, Or.inr ⟨l, hv, hl, rfl, Or.inr ⟨ro, hq, hro, rfl, Or.inl ⟨fun z => z_if0 h5 c ⟨z.1, by have := z.2; omega⟩, rfl⟩⟩⟩⟩) (fun c => ?_)
  have hw := z_if1 h5 c
  obtain ⟨pl, hpl, rfl, epl⟩ := z_nat hw.1
  rw [m_keyOf g hl hr (by have := hw.2; omega), q_b1_s]
  exact Ok.ret ⟨_, rfl, Or.inr ⟨l, hv, hl, rfl, Or.inr ⟨ro, hq, hro, rfl, Or.inr ⟨pl, ⟨hw.1, by have := hw.2; omega⟩, hpl, rfl, rfl⟩⟩⟩⟩
end S1A
end
