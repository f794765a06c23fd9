section
/-! the worlds of the law: the class's cells, the reference's, the kept atlases' -/
/-- the state that both sides hold: cuts, pieces -/
def l_T : Type := (Nat → Nat) × (Nat → Nat) × Nat × (Nat → Nat) × (Nat → Nat) × (Nat → Int32)
def l_R (sv : l_T) : Nat → Nat := sv.1
def l_C (sv : l_T) : Nat → Nat := sv.2.1
def l_m (sv : l_T) : Nat := sv.2.2.1
def l_L (sv : l_T) : Nat → Nat := sv.2.2.2.1
def l_K (sv : l_T) : Nat → Nat := sv.2.2.2.2.1
def l_Y (sv : l_T) : Nat → Int32 := sv.2.2.2.2.2
def l_mk (R C : Nat → Nat) (m : Nat) (L K : Nat → Nat) (Y : Nat → Int32) : l_T := (R, C, m, L, K, Y)
def l_sX (sv : l_T) (sz : Int32) (fl fk fy : Nat → Int32) : Prop := sz = nI (l_m sv) ∧ z_pc (z_pr (l_R sv)) (z_pr (l_C sv)) (l_m sv) (l_L sv) (l_K sv) ∧ z_rp (l_m sv) (l_L sv) (l_K sv) (l_Y sv) fl fk fy ∧ z_yr (l_m sv) (l_Y sv)
theorem z_st_of {H V : Nat → Nat} {m : Nat} {L K : Nat → Nat} {Y : Nat → Int32} {fl fk fy : Nat → Int32} (h : z_pc H V m L K) (hr : z_rp m L K Y fl fk fy) : z_st fl m := ⟨h.1, fun j hj => ⟨L j, (h.2.1 j hj).1, (hr j hj).1⟩⟩
theorem z_ps_of {H V : Nat → Nat} {m : Nat} {L K : Nat → Nat} {Y : Nat → Int32} {fl fk fy : Nat → Int32} (h : z_pc H V m L K) (hr : z_rp m L K Y fl fk fy) : z_ps H V fl fk m := ⟨h.1, fun i hi => ⟨L i, K i, (h.2.1 i hi).1, (hr i hi).1, (hr i hi).2.1, (h.2.1 i hi).2⟩⟩
def l_ok (sv : l_T) : Prop := CUT (l_R sv) (l_C sv) (z_pr (l_R sv)) (z_pr (l_C sv)) ∧ z_pc (z_pr (l_R sv)) (z_pr (l_C sv)) (l_m sv) (l_L sv) (l_K sv)
/-- what the five methods that change it do with it -/
def l_tcut (sv : l_T) (p q w r : Int32) (s2 : l_T) : Prop := ∃ R2 C2, z_cutR (l_R sv) (l_C sv) (l_m sv) p q w r R2 C2 ∧ s2 = l_mk R2 C2 (l_m sv) (l_L sv) (l_K sv) (l_Y sv)
def l_tstore (sv : l_T) (p q w r : Int32) (s2 : l_T) : Prop := ∃ m2 L2 K2 Y2, z_storeR (z_pr (l_R sv)) (z_pr (l_C sv)) (l_m sv) (l_L sv) (l_K sv) (l_Y sv) p q w r m2 L2 K2 Y2 ∧ s2 = l_mk (l_R sv) (l_C sv) m2 L2 K2 Y2
def l_tdrop (sv : l_T) (p q r : Int32) (s2 : l_T) : Prop := ∃ m2 L2 K2 Y2, z_dropR (z_pr (l_R sv)) (z_pr (l_C sv)) (l_m sv) (l_L sv) (l_K sv) (l_Y sv) p q r m2 L2 K2 Y2 ∧ s2 = l_mk (l_R sv) (l_C sv) m2 L2 K2 Y2
def l_trenew (sv : l_T) (p q r : Int32) (s2 : l_T) : Prop := ∃ Y2, z_renewR (l_m sv) (l_L sv) (l_Y sv) p q r Y2 ∧ s2 = l_mk (l_R sv) (l_C sv) (l_m sv) (l_L sv) (l_K sv) Y2
def l_ttidy (sv : l_T) (r : Int32) (s2 : l_T) : Prop := ∃ n2 m2 L2 K2 Y2, z_tdT (z_pr (l_R sv)) (z_pr (l_C sv)) (l_m sv) (l_m sv) (l_L sv) (l_K sv) (l_Y sv) 0 n2 m2 L2 K2 Y2 ∧ r = nI n2 ∧ s2 = l_mk (l_R sv) (l_C sv) m2 L2 K2 Y2
theorem l_tcut_one {sv s2 s3 : l_T} {p q w r r' : Int32} (_ : l_ok sv) (h1 : l_tcut sv p q w r s2) (h2 : l_tcut sv p q w r' s3) : r = r' ∧ s2 = s3 := by
  obtain ⟨R2, C2, h1, rfl⟩ := h1
  obtain ⟨R3, C3, h2, rfl⟩ := h2
  obtain ⟨a, b, c⟩ := z_cutR_one h1 h2
  exact ⟨a, by rw [b, c]⟩
theorem l_tstore_one {sv s2 s3 : l_T} {p q w r r' : Int32} (h : l_ok sv) (h1 : l_tstore sv p q w r s2) (h2 : l_tstore sv p q w r' s3) : r = r' ∧ s2 = s3 := by
  obtain ⟨m2, L2, K2, Y2, h1, rfl⟩ := h1
  obtain ⟨m3, L3, K3, Y3, h2, rfl⟩ := h2
  obtain ⟨a, b, c, d, e⟩ := z_storeR_one h.1 h.2 h1 h2
  exact ⟨a, by rw [b, c, d, e]⟩
theorem l_tdrop_one {sv s2 s3 : l_T} {p q r r' : Int32} (h : l_ok sv) (h1 : l_tdrop sv p q r s2) (h2 : l_tdrop sv p q r' s3) : r = r' ∧ s2 = s3 := by
  obtain ⟨m2, L2, K2, Y2, h1, rfl⟩ := h1
  obtain ⟨m3, L3, K3, Y3, h2, rfl⟩ := h2
  obtain ⟨a, b, c, d, e⟩ := z_dropR_one h.1 h.2 h1 h2
  exact ⟨a, by rw [b, c, d, e]⟩
theorem l_trenew_one {sv s2 s3 : l_T} {p q r r' : Int32} (_ : l_ok sv) (h1 : l_trenew sv p q r s2) (h2 : l_trenew sv p q r' s3) : r = r' ∧ s2 = s3 := by
  obtain ⟨Y2, h1, rfl⟩ := h1
  obtain ⟨Y3, h2, rfl⟩ := h2
  obtain ⟨a, b⟩ := z_renewR_one h1 h2
  exact ⟨a, by rw [b]⟩
theorem l_ttidy_one {sv s2 s3 : l_T} {r r' : Int32} (_ : l_ok sv) (h1 : l_ttidy sv r s2) (h2 : l_ttidy sv r' s3) : r = r' ∧ s2 = s3 := by
  obtain ⟨n2, m2, L2, K2, Y2, h1, rfl, rfl⟩ := h1
  obtain ⟨n3, m3, L3, K3, Y3, h2, rfl, rfl⟩ := h2
  obtain ⟨a, b, c, d, e⟩ := z_tdT_one _ _ _ _ _ _ _ _ _ _ _ _ _ _ _ _ h1 h2
  exact ⟨by rw [a], by rw [b, c, d, e]⟩
theorem z_cutR_pc {R C R2 C2 : Nat → Nat} {m : Nat} {L K : Nat → Nat} {p q w r : Int32} (h : z_pc (z_pr R) (z_pr C) m L K) (hq : z_cutR R C m p q w r R2 C2) : z_pc (z_pr R2) (z_pr C2) m L K := by
  by_cases h0 : m = 0
  · subst h0
    exact ⟨by omega, fun i hi => absurd hi (by omega), fun i j _ hj => absurd hj (by omega)⟩
  · rcases hq with ⟨-, -, rfl, rfl⟩ | ⟨-, -, -, rfl, rfl⟩ | ⟨v, y, z, -, a, -⟩
    · exact h
    · exact h
    · exact absurd a h0
/-- the states kept behind keep; the state behind undo -/
def l_kc (s : Nat) (sv : l_T) (kv : Nat → l_T) : Nat → l_T := if s = 8 then kv else fun j => if j = s then sv else kv j
def l_uc (sv : l_T) (kv : Nat → l_T) : Nat → l_T
  | 0 => sv
  | k + 1 => kv k
theorem l_kc8 {sv : l_T} {kv : Nat → l_T} : l_kc 8 sv kv = kv := if_pos rfl
theorem l_kcS {s : Nat} {sv : l_T} {kv : Nat → l_T} (h : ¬ s = 8) : l_kc s sv kv s = sv := by unfold l_kc; rw [if_neg h, if_pos rfl]
theorem l_kcN {s j : Nat} {sv : l_T} {kv : Nat → l_T} (h : ¬ s = 8) (e : ¬ j = s) : l_kc s sv kv j = kv j := by unfold l_kc; rw [if_neg h, if_neg e]
def l_sv0 : l_T := l_mk z_R1 z_R1 0 (fun _ => 0) (fun _ => 0) (fun _ => 0)
theorem l_sv0X : l_sX l_sv0 0 (fun _ => 0) (fun _ => 0) (fun _ => 0) := ⟨rfl, ⟨Nat.zero_le _, fun i hi => absurd hi (Nat.not_lt_zero _), fun i j _ hj => absurd hj (Nat.not_lt_zero _)⟩, fun i hi => absurd hi (Nat.not_lt_zero _), fun i hi => absurd hi (Nat.not_lt_zero _)⟩
def lX_at (ci : Nat → ClassId) (a : Nat → Nat) (u : Nat → Int32) (f : Nat → Nat → Int32) : va_W := [((a 0), .inr (0, [.ref (a 6), .ref (a 1), .int (u 0), .int (u 1), .int (u 2), .int (u 3)])), ((a 1), .inr (7, [.ref (a 6), .ref (a 2), .ref (a 3), .ref (a 4), .ref (a 5), .int (u 4), .int (u 5), .int (u 6), .int (u 7)])), ((a 2), .inl (ci 0, 60, .inl (f 0))), ((a 3), .inl (ci 0, 60, .inl (f 1))), ((a 4), .inl (ci 0, 60, .inl (f 2))), ((a 6), .inr (2, [.ref (a 7), .ref (a 8), .ref (a 9), .ref (a 10), .ref (a 11), .ref (a 12)])), ((a 7), .inl (ci 0, 5, .inl (f 3))), ((a 8), .inl (ci 0, 5, .inl (f 4))), ((a 9), .inl (ci 0, 5, .inl (f 5))), ((a 10), .inl (ci 0, 5, .inl (f 6))), ((a 11), .inl (ci 0, 5, .inl (f 7))), ((a 12), .inl (ci 0, 5, .inl (f 8)))]
def lX_ka (ci : Nat → ClassId) (ka : Nat → Nat → Nat) (ku : Nat → Nat → Int32) (kf : Nat → Nat → Nat → Int32) : va_W := lX_at ci (ka 0) (ku 0) (kf 0) ++ (lX_at ci (ka 1) (ku 1) (kf 1) ++ (lX_at ci (ka 2) (ku 2) (kf 2) ++ (lX_at ci (ka 3) (ku 3) (kf 3) ++ (lX_at ci (ka 4) (ku 4) (kf 4) ++ (lX_at ci (ka 5) (ku 5) (kf 5) ++ (lX_at ci (ka 6) (ku 6) (kf 6) ++ (lX_at ci (ka 7) (ku 7) (kf 7))))))))
def l_up {α : Type} (f : Nat → α) (k : Nat) (v : α) : Nat → α := fun j => cond (Nat.beq j k) v (f j)
def XW (ci : Nat → ClassId) (a_x n_wk : Nat) (a : Nat → Nat) (u : Nat → Int32) (f : Nat → Nat → Int32) (xk : Nat → Option Nat) (K : va_W) : va_W := (a_x, .inr (10, [.ref (a 0), .ref (a 1), .ref (a 2), .ref (a 3), .int (u 0), .ref (a 4), .ref (a 5), .ref (a 6), .ref (a 7), .ref (a 8), .ref (a 9), .ref (a 10), .ref (a 11), .ref (a 12)])) :: ((a 4), .inr (8, [.ref (a 13), .int (u 1)])) :: ((a 13), .inl (ci 0, 200, .inl (f 0))) :: ((a 2), .inr (7, [.ref (a 1), .ref (a 14), .ref (a 15), .ref (a 16), .ref (a 17), .int (u 2), .int (u 3), .int (u 4), .int (u 5)])) :: ((a 1), .inr (2, [.ref (a 18), .ref (a 19), .ref (a 20), .ref (a 21), .ref (a 22), .ref (a 23)])) :: ((a 18), .inl (ci 0, 5, .inl (f 1))) :: ((a 19), .inl (ci 0, 5, .inl (f 2))) :: ((a 20), .inl (ci 0, 5, .inl (f 3))) :: ((a 21), .inl (ci 0, 5, .inl (f 4))) :: ((a 22), .inl (ci 0, 5, .inl (f 5))) :: ((a 23), .inl (ci 0, 5, .inl (f 6))) :: ((a 7), .inr (6, [.ref (a 1), .ref (a 24), .ref (a 25), .ref (a 26), .int (u 6), .int (u 7), .int (u 8), .int (u 9), .int (u 10), .int (u 11), .int (u 12)])) :: ((a 10), .inr (4, [.ref (a 27), .int (u 13)])) :: ((a 27), .inl (ci 0, 40, .inl (f 7))) :: ((a 5), .inr (3, [.ref (a 1), .ref (a 4), .int (u 14), .int (u 15), .int (u 16), .int (u 17), .int (u 18), .int (u 19), .int (u 20)])) :: ((a 0), .inr (0, [.ref (a 1), .ref (a 2), .int (u 21), .int (u 22), .int (u 23), .int (u 24)])) :: ((a 24), .inl (ci 0, 4, .inl (f 8))) :: ((a 25), .inl (ci 0, 4, .inl (f 9))) :: ((a 8), .inr (9, [.ref (a 28), .ref (a 29), .ref (a 30), .int (u 25)])) :: ((a 29), .inl (ci 0, n_wk, .inl (f 10))) :: ((a 30), .inl (ci 0, n_wk, .inl (f 11))) :: ((a 28), .inr (6, [.ref (a 1), .ref (a 31), .ref (a 32), .ref (a 33), .int (u 26), .int (u 27), .int (u 28), .int (u 29), .int (u 30), .int (u 31), .int (u 32)])) :: ((a 31), .inl (ci 0, 4, .inl (f 12))) :: ((a 32), .inl (ci 0, 4, .inl (f 13))) :: ((a 26), .inl (ci 0, 4, .inl (f 14))) :: ((a 9), .inr (1, [.ref (a 1), .int (u 33), .int (u 34), .int (u 35), .int (u 36)])) :: ((a 11), .inr (4, [.ref (a 34), .int (u 37)])) :: ((a 34), .inl (ci 0, 40, .inl (f 15))) :: ((a 6), .inr (5, [.ref (a 5), .ref (a 4), .int (u 38), .int (u 39), .int (u 40), .int (u 41), .int (u 42)])) :: ((a 14), .inl (ci 0, 60, .inl (f 16))) :: ((a 15), .inl (ci 0, 60, .inl (f 17))) :: ((a 16), .inl (ci 0, 60, .inl (f 18))) :: ((a 17), .inl (ci 0, 5, .inl (f 19))) :: ((a 12), .inl (ci 0, 200, .inl (f 20))) :: ((a 3), .inl (ci 3, 8, .inr (.inr (.inr (.inr xk))))) :: K
def MW (ci : Nat → ClassId) (a_m : Nat) (a : Nat → Nat) (u : Nat → Int32) (v : Nat → Int64) (f : Nat → Nat → Int32) (h : Nat → Nat → Int64) : va_W := [(a_m, .inr (11, (.ref (a 0) :: .ref (a 1) :: .ref (a 2) :: .ref (a 3) :: .ref (a 4) :: .ref (a 5) :: .ref (a 6) :: .ref (a 7) :: .int (u 0) :: .int (u 1) :: .int (u 2) :: .int (u 3) :: .int (u 4) :: .int (u 5) :: .int (u 6) :: .int (u 7) :: .int (u 8) :: .int (u 9) :: .long (v 0) :: .long (v 1) :: .ref (a 8) :: .int (u 10) :: .int (u 11) :: .ref (a 9) :: .ref (a 10) :: .int (u 12) :: .int (u 13) :: .int (u 14) :: .int (u 15) :: .int (u 16) :: .int (u 17) :: .int (u 18) :: .int (u 19) :: .int (u 20) :: .ref (a 11) :: .ref (a 12) :: .ref (a 13) :: .int (u 21) :: .ref (a 14) :: .ref (a 15) :: .int (u 22) :: .ref (a 16) :: []))), ((a 7), .inl (ci 2, 200, .inl (f 0))), ((a 0), .inl (ci 0, 5, .inl (f 1))), ((a 1), .inl (ci 0, 5, .inl (f 2))), ((a 2), .inl (ci 0, 5, .inl (f 3))), ((a 3), .inl (ci 0, 5, .inl (f 4))), ((a 4), .inl (ci 0, 45, .inl (f 5))), ((a 5), .inl (ci 0, 20, .inl (f 6))), ((a 8), .inl (ci 1, 4, .inr (.inl (h 0)))), ((a 9), .inl (ci 0, 20000, .inl (f 7))), ((a 10), .inl (ci 0, 20000, .inl (f 8))), ((a 6), .inl (ci 0, 20, .inl (f 9))), ((a 11), .inl (ci 0, 60, .inl (f 10))), ((a 12), .inl (ci 0, 60, .inl (f 11))), ((a 13), .inl (ci 0, 60, .inl (f 12))), ((a 14), .inl (ci 0, 200, .inl (f 13))), ((a 15), .inl (ci 0, 1552, .inl (f 14))), ((a 16), .inl (ci 0, 8, .inl (f 15)))]
def lX_ok (sv : l_T) (u : Nat → Int32) (f : Nat → Nat → Int32) : Prop := l_sX sv (u 4) (f 0) (f 1) (f 2) ∧ z_kg (l_R sv) (l_C sv) (f 3) (f 4)
def lM_ok (sv : l_T) (kp : Nat → Int32) (j : Nat) : Prop := z_mkT (l_R sv) (l_C sv) (l_m sv) (l_L sv) (l_K sv) (l_Y sv) kp j ∧ z_pc (z_pr (l_R sv)) (z_pr (l_C sv)) (l_m sv) (l_L sv) (l_K sv) ∧ z_yr (l_m sv) (l_Y sv)
/-- a good state of the class: its tape holds t bytes, its walk has rows of n -/
def XI (ci : Nat → ClassId) (a_x : Nat) (Wd : va_W) (t n_wk s0 : Nat) (sv : l_T) (kv : Nat → l_T) : Prop := ∃ (a : Nat → Nat) (u : Nat → Int32) (f : Nat → Nat → Int32) (xk : Nat → Option Nat) (ka : Nat → Nat → Nat) (ku : Nat → Nat → Int32) (kf : Nat → Nat → Nat → Int32), Wd = XW ci a_x n_wk a u f xk (lX_ka ci ka ku kf) ∧ (t ≤ 200 ∧ (u 1) = nI t) ∧ ((n_wk = 0 ∨ ∃ k, n_wk = 2130 * k + 2) ∧ n_wk ≤ 20000) ∧ GOK (l_R sv) (l_C sv) (z_pr (l_R sv)) (z_pr (l_C sv)) (f 1) (f 2) (f 3) (f 4) (f 5) (f 6) ∧ l_sX sv (u 2) (f 16) (f 17) (f 18) ∧ (s0 ≤ 8 ∧ (u 0) = nI s0 ∧ ∀ j, j < s0 → lX_ok (kv j) (ku j) (kf j)) ∧ (∀ j, j < 8 → xk j = some (ka j 0))
/-- a good state of the reference -/
def MI (ci : Nat → ClassId) (a_m : Nat) (Wd : va_W) (t s0 : Nat) (sv : l_T) (kv : Nat → l_T) : Prop := ∃ (a : Nat → Nat) (u : Nat → Int32) (v : Nat → Int64) (f : Nat → Nat → Int32) (h : Nat → Nat → Int64), Wd = MW ci a_m a u v f h ∧ (t ≤ 200 ∧ (u 0) = nI t) ∧ MOK (l_R sv) (l_C sv) (z_pr (l_R sv)) (z_pr (l_C sv)) (f 1) (f 2) (f 3) (f 4) (f 5) ∧ l_sX sv (u 19) (f 10) (f 11) (f 12) ∧ (s0 ≤ 8 ∧ (u 20) = nI s0 ∧ ∀ j, j < s0 → lM_ok (kv j) (f 14) j)
theorem XI.ok {ci : Nat → ClassId} {a_x t n s0 : Nat} {Wd : va_W} {sv : l_T} {kv : Nat → l_T} (h : XI ci a_x Wd t n s0 sv kv) : l_ok sv := by
  obtain ⟨a, u, f, xk, ka, ku, kf, -, -, -, g, hs, -⟩ := h
  exact ⟨g.2, hs.2.1⟩
/-- how many states are kept behind keep, undo; what they answer -/
def l_ks (s : Nat) : Nat := if s = 8 then 8 else s + 1
def l_kr (s : Nat) : Int32 := if s = 8 then -1 else nI (s + 1)
def l_ur (s : Nat) : Int32 := if s = 0 then -1 else nI (s - 1)
/-- how many bytes the tape holds behind feed, named, ask -/
def l_tf (t : Nat) : Nat := if t ≤ 180 then t + 20 else t
def l_ta (p : Int32) (t : Nat) : Nat := if 1 ≤ p.toInt ∧ p.toInt ≤ 100 ∧ p.toInt ≤ t then 0 else t
def l_tn (p q : Int32) (t : Nat) : Nat := if (1 ≤ p.toInt ∧ p.toInt ≤ 40 ∧ p.toInt ≤ t) ∧ (0 ≤ q.toInt ∧ q.toInt ≤ 1) then 0 else t
theorem l_tfB {t : Nat} (h : t ≤ 200) : l_tf t ≤ 200 := by unfold l_tf; split <;> omega
theorem l_taB {p : Int32} {t : Nat} (h : t ≤ 200) : l_ta p t ≤ 200 := by unfold l_ta; split <;> omega
theorem l_tnB {p q : Int32} {t : Nat} (h : t ≤ 200) : l_tn p q t ≤ 200 := by unfold l_tn; split <;> omega
theorem l_ta1 {p : Int32} {t : Nat} (h : z_txc 100 p t) : l_ta p t = 0 := if_pos h
theorem l_ta2 {p : Int32} {t : Nat} (h : ¬ z_txc 100 p t) : l_ta p t = t := if_neg h
theorem l_tn1 {p q : Int32} {t : Nat} (h : z_txc 40 p t ∧ (0 ≤ q.toInt ∧ q.toInt ≤ 1)) : l_tn p q t = 0 := if_pos h
theorem l_tn2 {p q : Int32} {t : Nat} (h : ¬ (z_txc 40 p t ∧ (0 ≤ q.toInt ∧ q.toInt ≤ 1))) : l_tn p q t = t := if_neg h
theorem Met.imp {l : Launch} {y : MethodName} {ws : List Cond} {rm : Room} {Pc Pc2 : Array Value → State → Prop} {Qc Qc2 : Array Value → State → Outcome → State → Prop} {mc ms : Nat} {free : Addr → Prop} (h : Met l y ws rm Pc Qc mc ms free) (hp : ∀ a s, Pc2 a s → Pc a s) (hq : ∀ a s o t, Pc2 a s → Qc a s o t → Qc2 a s o t) : Met l y ws rm Pc2 Qc2 mc ms free := by
  intro p e h1 h2 h3 s m args below h4 h5 h6 h7
  obtain ⟨n, o, a1, a2, a3, a4, a5⟩ := h p e h1 h2 h3 s m args below h4 h5 (hp _ _ h6) h7
  exact ⟨n, o, a1, a2, a3, hq _ _ _ _ h6 a4, a5⟩
section LWR
variable {l : Launch} {D : va_G} {ci : Nat → ClassId} {A : Nat → Prop} {sa : Nat → Nat} {y : MethodName} {ws : List Cond} {rm : Room} {av : List Value} {v : Option Value} {mc ms : Nat} {Wd W1 W2 W3 : va_W}
theorem q_wr (n : Nat) (is : List Nat) (e1 : q_pk n is Wd = W1) (ok1 : q_ok n is Wd) (is2 : List Nat) (h : Met l y ws rm (va_Pc av (q_N D ci A sa W1)) (q_Q v (q_O D A W2) A) mc ms A) (e2 : q_pk n is2 W2 = W3) (ok2 : q_ok n is2 W2) : Met l y ws rm (va_Pc av (q_N D ci A sa Wd)) (q_Q v (q_O D A W3) A) mc ms A :=
  h.imp (fun _ _ h => ⟨h.1, q_pk_P h.2.1 e1, q_pk_D h.2.2.1 e1 ok1, h.2.2.2⟩) (fun _ _ _ _ _ h => ⟨h.1, ⟨q_pk_P h.2.1.1 e2, q_pk_D h.2.1.2 e2 ok2⟩, h.2.2⟩)
theorem q_wrX {W2x W3x : Nat → Nat → va_W} (n : Nat) (is : List Nat) (e1 : q_pk n is Wd = W1) (ok1 : q_ok n is Wd) (is2 : List Nat) (h : Met l y ws rm (va_Pc av (q_N D ci A sa W1)) (q_Q v (fun t => ∃ b1 b2 : Nat, q_O D A (W2x b1 b2) t) A) mc ms A) (e2 : ∀ b1 b2, q_pk n is2 (W2x b1 b2) = W3x b1 b2) (ok2 : ∀ b1 b2, q_ok n is2 (W2x b1 b2)) : Met l y ws rm (va_Pc av (q_N D ci A sa Wd)) (q_Q v (fun t => ∃ b1 b2 : Nat, q_O D A (W3x b1 b2) t) A) mc ms A :=
  h.imp (fun _ _ h => ⟨h.1, q_pk_P h.2.1 e1, q_pk_D h.2.2.1 e1 ok1, h.2.2.2⟩) (fun _ _ _ _ _ h => ⟨h.1, h.2.1.elim (fun b1 q => q.elim (fun b2 q => ⟨b1, b2, q_pk_P q.1 (e2 b1 b2), q_pk_D q.2 (e2 b1 b2) (ok2 b1 b2)⟩)), h.2.2⟩)
theorem q_wrR (n : Nat) (is : List Nat) (e1 : q_pk n is Wd = W1) (ok1 : q_ok n is Wd) (h : Met l y ws rm (va_Pc av (q_N D ci A sa W1)) (q_R v) mc ms A) : Met l y ws rm (va_Pc av (q_N D ci A sa Wd)) (q_Q v (q_O D A Wd) A) mc ms A :=
  h.imp (fun _ _ h => ⟨h.1, q_pk_P h.2.1 e1, q_pk_D h.2.2.1 e1 ok1, h.2.2.2⟩) (fun _ _ _ _ hp h => ⟨h.1, ⟨by rw [h.2]; exact hp.2.1, hp.2.2.1⟩, by rw [h.2]; exact Nat.le_refl _, fun q _ _ => by rw [h.2]⟩)
/-- what a call leaves: some world with I -/
theorem q_wrI {I : va_W → Prop} {R : va_W} (h : Met l y ws rm (va_Pc av (q_N D ci A sa Wd)) (q_Q v (q_O D A (W3 ++ R)) A) mc ms A) (hI : I W3) : Met l y ws rm (va_Pc av (q_N D ci A sa Wd)) (q_Q v (fun t => ∃ W3, I W3 ∧ q_O D A (W3 ++ R) t) A) mc ms A :=
  h.imp (fun _ _ h => h) (fun _ _ _ _ _ h => ⟨h.1, ⟨W3, hI, h.2.1⟩, h.2.2⟩)
theorem q_wrIX {I : va_W → Prop} {R : va_W} {W3x : Nat → Nat → va_W} (h : Met l y ws rm (va_Pc av (q_N D ci A sa Wd)) (q_Q v (fun t => ∃ b1 b2 : Nat, q_O D A (W3x b1 b2 ++ R) t) A) mc ms A) (hI : ∀ b1 b2, I (W3x b1 b2)) : Met l y ws rm (va_Pc av (q_N D ci A sa Wd)) (q_Q v (fun t => ∃ W3, I W3 ∧ q_O D A (W3 ++ R) t) A) mc ms A :=
  h.imp (fun _ _ h => h) (fun _ _ _ _ _ h => ⟨h.1, h.2.1.elim (fun b1 q => q.elim (fun b2 q => ⟨_, hI b1 b2, q⟩)), h.2.2⟩)
end LWR
end
section
/-! answers: neighbour, around -/
section S4A
variable {rc cc br zc rw sh cr cq dp wd za fl fk fy : Nat → Int32} {sv : l_T} {N l : Nat}
def l_spot (sv : l_T) (l k ro pl : Nat) : Prop := l < 5 ∧ k < 20000000 ∧ ro ≤ 44 * z_pr (l_R sv) l + 1 ∧ pl < z_rl (z_pr (l_R sv) l) (z_pr (l_C sv) l) ro ∧ k = z_rs (z_pr (l_R sv) l) (z_pr (l_C sv) l) ro + pl
theorem l_spot_one {l k ro pl l' k' ro' pl' : Nat} {p q : Int32} (h : l_ok sv) (h1 : l_spot sv l k ro pl) (h2 : l_spot sv l' k' ro' pl') (p1 : p = nI l) (p2 : p = nI l') (q1 : q = nI k) (q2 : q = nI k') : l = l' ∧ k = k' ∧ ro = ro' ∧ pl = pl' := by
  obtain ⟨b1, b2, d1, d2, d3⟩ := h1
  obtain ⟨b1', b2', d1', d2', d3'⟩ := h2
  have e1 : l = l' := by rw [p1, nI_eq (by omega) (by omega)] at p2; exact p2
  have e2 : k = k' := by rw [q1, nI_eq (by omega) (by omega)] at q2; exact q2
  subst e1 e2
  have e3 : ro = ro' := z_row_one (V := z_pr (l_C sv) l) (h.1.pos l b1).1 d1 d1' (k := k) (by omega) (by omega) (by omega) (by omega)
  subst e3
  exact ⟨rfl, rfl, rfl, by omega⟩
def l_bM (sv : l_T) (l ro pl i : Nat) : Nat := z_bM (z_pr (l_R sv) l) (z_pr (l_C sv) l) ro pl i
def l_bF (sv : l_T) (l ro pl i : Nat) : Nat := z_bF (z_pr (l_R sv) l) (z_pr (l_C sv) l) ro pl i
def l_vnb (M F : Nat) (i : Int32) : Int32 := if i = -1 then nI M else if nI M ≤ i then -2 else nI F + i
def l_aneighbour (sv : l_T) (p q w i r : Int32) : Prop := (¬ (z_hs (z_pr (l_R sv)) (z_pr (l_C sv)) p q ∧ (0 ≤ w.toInt ∧ w.toInt ≤ 3) ∧ -1 ≤ i) ∧ r = -1) ∨ (∃ l k ro pl j, (z_hs (z_pr (l_R sv)) (z_pr (l_C sv)) p q ∧ (0 ≤ w.toInt ∧ w.toInt ≤ 3) ∧ -1 ≤ i) ∧ l_spot sv l k ro pl ∧ p = nI l ∧ q = nI k ∧ j < 4 ∧ w = nI j ∧ r = l_vnb (l_bM sv l ro pl j) (l_bF sv l ro pl j) i)
theorem l_aneighbour_one {p q w i r r' : Int32} (h : l_ok sv) (h1 : l_aneighbour sv p q w i r) (h2 : l_aneighbour sv p q w i r') : r = r' := by
  rcases h1 with ⟨a, b⟩ | ⟨l, k, ro, pl, j, a, b1, c1, c2, d1, d2, e⟩ <;> rcases h2 with ⟨a', b'⟩ | ⟨l', k', ro', pl', j', a', b1', c1', c2', d1', d2', e'⟩
  · exact b.trans b'.symm
  · exact absurd a' a
  · exact absurd a a'
  · obtain ⟨rfl, rfl, rfl, rfl⟩ := l_spot_one h b1 b1' c1 c1' c2 c2'
    have e1 : j = j' := by rw [d2, nI_eq (by omega) (by omega)] at d2'; exact d2'
    subst e1
    exact e.trans e'.symm
theorem l_ne0 {M : Nat} {i : Int32} (h1 : -1 ≤ i) (h2 : ¬ i = -1) (h3 : ¬ nI M ≤ i) : M ≠ 0 := by
  intro h0
  apply h3
  rw [h0, z_le, nI_toInt (by omega)]
  rw [z_le, show (-1 : Int32).toInt = -1 from rfl] at h1
  have h4 : ¬ i.toInt = -1 := fun z => h2 (Int32.toInt_inj.mp (by rw [z]; rfl))
  omega
theorem a_x_neighbour (g : GOK (l_R sv) (l_C sv) (z_pr (l_R sv)) (z_pr (l_C sv)) rc cc br zc rw sh) (hN : 1000000 ≤ N) (f m : Nat → Int32) (a1 a2 a3 a4 a5 a6 p q w i : Int32) : Ok (f_X_neighbour N f m a1 a2 a3 a4 a5 a6 br zc rw sh p q w i) (fun x => l_aneighbour sv p q w i x.1) := by
  unfold f_X_neighbour
  refine Ok.b1 (r_hasSheet g p q) (fun v1 h1 => ?_)
  rcases h1 with ⟨z, rfl⟩ | ⟨z, rfl⟩
  rotate_left
  · exact Ok.ite (fun _ => Ok.ret (Or.inl ⟨fun u => z u.1, rfl⟩)) (fun c => absurd rfl c)
  refine Ok.ite (fun c => absurd c (by decide)) (fun _ => Ok.b1 (s_isFrom w _ _) (fun v2 h2 => ?_))
  rw [show (0 : Int32).toInt = 0 from rfl, show (3 : Int32).toInt = 3 from rfl] at h2
  refine Ok.ite (fun c => Ok.ret (Or.inl ⟨fun u => z_if0 h2 c u.2.1, rfl⟩)) (fun c => ?_)
  have hw := z_if1 h2 c
  refine Ok.ite (fun hi => ?_) (fun hi => Ok.ret (Or.inl ⟨fun u => hi u.2.2, rfl⟩))
  have z' := z
  obtain ⟨l, k, hl, rfl, rfl, hk⟩ := z'
  have hs := g.2.sh hl
  obtain ⟨ro, pl, e, d1, d2, d3⟩ := k_put (N := N) g (by omega) hl hk a1 a2 a3 a4 a5 a6
  obtain ⟨f', m', e2, hfm⟩ := r_lookAround g hl d1 d2 f m
  obtain ⟨j, -, rfl, hj⟩ := z_nat hw.1
  have hj4 : j < 4 := by omega
  obtain ⟨h3, h4⟩ := hfm j hj4
  rw [e, q_b6_s, e2, q_b2_s]
  have fin : ∀ r : Int32, r = l_vnb (l_bM sv l ro pl j) (l_bF sv l ro pl j) i → l_aneighbour sv (nI l) (nI k) (nI j) i r := fun r h => Or.inr ⟨l, k, ro, pl, j, ⟨z, hw, hi⟩, ⟨hl, by omega, d1, d2, d3⟩, rfl, rfl, hj4, rfl, h⟩
  unfold l_vnb at fin
  refine Ok.ite (fun c1 => ?_) (fun c1 => ?_)
  · rw [z_ai hj4 (by omega), h3]
    exact Ok.ret (fin _ (by rw [if_pos c1]; rfl))
  rw [z_ai hj4 (by omega), h3]
  refine Ok.ite (fun c2 => Ok.ret (fin _ (by rw [if_neg c1]; exact (if_pos c2).symm))) (fun c2 => ?_)
  rw [z_ai hj4 (by omega), h4 (l_ne0 hi c1 c2)]
  exact Ok.ret (fin _ (by rw [if_neg c1]; exact (if_neg c2).symm))
theorem r_isSide (w : Int32) : Ok (f_M_isSide w) (fun y => y = if 0 ≤ w.toInt ∧ w.toInt ≤ 3 then 1 else 0) := by
  unfold f_M_isSide
  rw [m_in, q_b1_s, z_toL, show (0 : Int64).toInt = 0 from rfl, show (3 : Int64).toInt = 3 from rfl]
  refine Ok.bo ?_ (Ok.ret rfl)
  split
  · exact Or.inr rfl
  · exact Or.inl rfl
theorem a_m_neighbour (g : MOK (l_R sv) (l_C sv) (z_pr (l_R sv)) (z_pr (l_C sv)) cr cq dp wd za) (hN : 1000000 ≤ N) (fb mb p q w i : Int32) : Ok (f_M_neighbour N dp wd za fb mb p q w i) (fun x => l_aneighbour sv p q w i x.1) := by
  unfold f_M_neighbour
  refine Ok.b1 (r_isKey g p q) (fun v1 h1 => ?_)
  rcases h1 with ⟨z, rfl⟩ | ⟨z, rfl⟩
  rotate_left
  · exact Ok.ite (fun _ => Ok.ret (Or.inl ⟨fun u => z u.1, rfl⟩)) (fun c => absurd rfl c)
  refine Ok.ite (fun c => absurd c (by decide)) (fun _ => Ok.b1 (r_isSide w) (fun v2 h2 => ?_))
  refine Ok.ite (fun c => Ok.ret (Or.inl ⟨fun u => z_if0 h2 c u.2.1, rfl⟩)) (fun c => ?_)
  have hw := z_if1 h2 c
  refine Ok.ite (fun hi => ?_) (fun hi => Ok.ret (Or.inl ⟨fun u => hi u.2.2, rfl⟩))
  have z' := z
  obtain ⟨l, k, hl, rfl, rfl, hk⟩ := z'
  have hs := g.2.2.sh hl
  obtain ⟨ro, pl, d1, d2, d3, -, -⟩ := t_spot (N := N) g (by omega) hl hk
  obtain ⟨j, -, rfl, hj⟩ := z_nat hw.1
  have hj4 : j < 4 := by omega
  obtain ⟨x, e2, h4⟩ := r_laysBeside (N := N) g (by omega) hl d1 d2 fb mb hj4
  rw [← d3] at e2
  rw [e2, q_b2_s]
  have fin : ∀ r : Int32, r = l_vnb (l_bM sv l ro pl j) (l_bF sv l ro pl j) i → l_aneighbour sv (nI l) (nI k) (nI j) i r := fun r h => Or.inr ⟨l, k, ro, pl, j, ⟨z, hw, hi⟩, ⟨hl, by omega, d1, d2, d3⟩, rfl, rfl, hj4, rfl, h⟩
  unfold l_vnb at fin
  refine Ok.ite (fun c1 => Ok.ret (fin _ (by rw [if_pos c1]; rfl))) (fun c1 => Ok.ite (fun c2 => Ok.ret (fin _ (by rw [if_neg c1]; exact (if_pos c2).symm))) (fun c2 => ?_))
  have h5 := h4 (l_ne0 hi c1 c2)
  subst h5
  exact Ok.ret (fin _ (by rw [if_neg c1]; exact (if_neg c2).symm))
end S4A
end
section
/-! answers: wider, jog (l_spot is s4's) -/
section S5A
variable {rc cc br zc rw sh cr cq dp wd za fl fk fy : Nat → Int32} {sv : l_T} {N l : Nat}
def l_hs (sv : l_T) (p q : Int32) : Prop := z_hs (z_pr (l_R sv)) (z_pr (l_C sv)) p q
theorem r_areSheets {R C H V : Nat → Nat} (g : GOK R C H V rc cc br zc rw sh) (p q w : Int32) : Ok (f_X_areSheets sh p q w) (fun x => ((z_hs H V p q ∧ z_hs H V p w) ∧ x = 1) ∨ (¬ (z_hs H V p q ∧ z_hs H V p w) ∧ x = 0)) := by
  unfold f_X_areSheets
  refine Ok.b1 (r_hasSheet g p q) (fun v1 h1 => ?_)
  rcases h1 with ⟨z, rfl⟩ | ⟨z, rfl⟩
  · refine Ok.ite (fun c => absurd c (by decide)) (fun _ => Ok.b1 (r_hasSheet g p w) (fun v2 h2 => ?_))
    rcases h2 with ⟨y, rfl⟩ | ⟨y, rfl⟩
    · exact Ok.ite (fun c => absurd c (by decide)) (fun _ => Ok.ret (Or.inl ⟨⟨z, y⟩, rfl⟩))
    · exact Ok.ite (fun _ => Ok.ret (Or.inr ⟨fun u => y u.2, rfl⟩)) (fun c => absurd rfl c)
  · exact Ok.ite (fun _ => Ok.ret (Or.inr ⟨fun u => z u.1, rfl⟩)) (fun c => absurd rfl c)
def l_rl (sv : l_T) (l ro : Nat) : Nat := z_rl (z_pr (l_R sv) l) (z_pr (l_C sv) l) ro
def l_awider (sv : l_T) (p q w r : Int32) : Prop := (¬ (l_hs sv p q ∧ l_hs sv p w) ∧ r = -1000000) ∨ (∃ l k ro pl k2 ro2 pl2, (l_hs sv p q ∧ l_hs sv p w) ∧ l_spot sv l k ro pl ∧ l_spot sv l k2 ro2 pl2 ∧ p = nI l ∧ q = nI k ∧ w = nI k2 ∧ r = if l_rl sv l ro2 ≤ l_rl sv l ro then (if l_rl sv l ro ≤ l_rl sv l ro2 then 0 else -1) else 1)
theorem l_awider_one {p q w r r' : Int32} (h : l_ok sv) (h1 : l_awider sv p q w r) (h2 : l_awider sv p q w r') : r = r' := by
  rcases h1 with ⟨a, b⟩ | ⟨l, k, ro, pl, k2, ro2, pl2, a, b1, b2, c1, c2, c3, e⟩ <;> rcases h2 with ⟨a', b'⟩ | ⟨l', k', ro', pl', k2', ro2', pl2', a', b1', b2', c1', c2', c3', e'⟩
  · exact b.trans b'.symm
  · exact absurd a' a
  · exact absurd a a'
  · obtain ⟨rfl, rfl, rfl, rfl⟩ := l_spot_one h b1 b1' c1 c1' c2 c2'
    obtain ⟨-, rfl, rfl, rfl⟩ := l_spot_one h b2 b2' c1 c1' c3 c3'
    exact e.trans e'.symm
theorem a_x_wider (g : GOK (l_R sv) (l_C sv) (z_pr (l_R sv)) (z_pr (l_C sv)) rc cc br zc rw sh) (hN : 1000000 ≤ N) (p q w : Int32) : Ok (f_X_wider N br zc rw sh p q w) (fun x => l_awider sv p q w x) := by
  unfold f_X_wider
  refine Ok.b1 (r_areSheets g p q w) (fun v1 h1 => ?_)
  rcases h1 with ⟨z, rfl⟩ | ⟨z, rfl⟩
  rotate_left
  · exact Ok.ite (fun _ => Ok.ret (Or.inl ⟨z, rfl⟩)) (fun c => absurd rfl c)
  refine Ok.ite (fun c => absurd c (by decide)) (fun _ => ?_)
  have z' := z
  obtain ⟨⟨l, k, hl, rfl, rfl, hk⟩, ⟨l', k2, hl', e0, rfl, hk2⟩⟩ := z'
  have e1 : l = l' := by rw [nI_eq (by omega) (by omega)] at e0; exact e0
  subst e1
  have hs := g.2.sh hl
  have hp := g.2.pos l hl
  have hv := g.2.hv hl
  obtain ⟨ro, er, d1, d2, d3⟩ := k_rowOfKey (N := N) g (by omega) hl hk
  obtain ⟨ro2, er2, f1, f2, f3⟩ := k_rowOfKey (N := N) g (by omega) hl hk2
  have la := (z_rl_pos (V := z_pr (l_C sv) l) hp.1 hp.2 d1).2
  have lb := (z_rl_pos (V := z_pr (l_C sv) l) hp.1 hp.2 f1).2
  rw [er, q_b1_s, k_rowLength g hl d1, q_b1_s, er2, q_b1_s, k_rowLength g hl f1, q_b1_s]
  have fin : ∀ r : Int32, r = (if l_rl sv l ro2 ≤ l_rl sv l ro then (if l_rl sv l ro ≤ l_rl sv l ro2 then 0 else -1) else 1) → l_awider sv (nI l) (nI k) (nI k2) r := fun r h => Or.inr ⟨l, k, ro, k - z_rs (z_pr (l_R sv) l) (z_pr (l_C sv) l) ro, k2, ro2, k2 - z_rs (z_pr (l_R sv) l) (z_pr (l_C sv) l) ro2, z, ⟨hl, by omega, d1, by omega, by omega⟩, ⟨hl, by omega, f1, by omega, by omega⟩, rfl, rfl, rfl, h⟩
  unfold f_JInteger_compare_7cf53
  unfold l_rl at fin
  by_cases c1 : z_rl (z_pr (l_R sv) l) (z_pr (l_C sv) l) ro2 ≤ z_rl (z_pr (l_R sv) l) (z_pr (l_C sv) l) ro
  · by_cases c2 : z_rl (z_pr (l_R sv) l) (z_pr (l_C sv) l) ro ≤ z_rl (z_pr (l_R sv) l) (z_pr (l_C sv) l) ro2
    · rw [if_pos ((nI_leI (by omega) (by omega)).mpr c2), if_pos (by rw [Nat.le_antisymm c1 c2]), q_b1_s]
      exact Ok.ret (fin _ (by rw [if_pos c1, if_pos c2]))
    · rw [if_neg (fun z => c2 ((nI_leI (by omega) (by omega)).mp z)), q_b1_s]
      exact Ok.ret (fin _ (by rw [if_pos c1, if_neg c2]))
  · rw [if_pos ((nI_leI (by omega) (by omega)).mpr (by omega)), if_neg (fun z => c1 (by rw [nI_eq (by omega) (by omega)] at z; omega)), q_b1_s]
    exact Ok.ret (fin _ (by rw [if_neg c1]))
theorem a_m_wider (g : MOK (l_R sv) (l_C sv) (z_pr (l_R sv)) (z_pr (l_C sv)) cr cq dp wd za) (hN : 1000000 ≤ N) (p q w : Int32) : Ok (f_M_wider N dp wd za p q w) (fun x => l_awider sv p q w x) := by
  unfold f_M_wider
  refine Ok.b1 (r_isKey g p q) (fun v1 h1 => ?_)
  rcases h1 with ⟨z, rfl⟩ | ⟨z, rfl⟩
  rotate_left
  · exact Ok.ite (fun _ => Ok.ret (Or.inl ⟨fun u => z u.1, rfl⟩)) (fun c => absurd rfl c)
  refine Ok.ite (fun c => absurd c (by decide)) (fun _ => Ok.b1 (r_isKey g p w) (fun v2 h2 => ?_))
  rcases h2 with ⟨y, rfl⟩ | ⟨y, rfl⟩
  rotate_left
  · exact Ok.ite (fun _ => Ok.ret (Or.inl ⟨fun u => y u.2, rfl⟩)) (fun c => absurd rfl c)
  refine Ok.ite (fun c => absurd c (by decide)) (fun _ => ?_)
  have z' := z
  have y' := y
  obtain ⟨l, k, hl, rfl, rfl, hk⟩ := z'
  obtain ⟨l', k2, hl', e0, rfl, hk2⟩ := y'
  have e1 : l = l' := by rw [nI_eq (by omega) (by omega)] at e0; exact e0
  subst e1
  have hs := g.2.2.sh hl
  have hp := g.2.2.pos l hl
  have hv := g.2.2.hv hl
  obtain ⟨ro, er, d1, d2, d3⟩ := m_rowOf (N := N) g (by omega) hl hk
  obtain ⟨ro2, er2, f1, f2, f3⟩ := m_rowOf (N := N) g (by omega) hl hk2
  have la := (z_rl_pos (V := z_pr (l_C sv) l) hp.1 hp.2 d1).2
  have lb := (z_rl_pos (V := z_pr (l_C sv) l) hp.1 hp.2 f1).2
  rw [er, q_b1_s, m_many g hl d1, q_b1_s, er2, q_b1_s, m_many g hl f1, q_b1_s]
  have fin : ∀ r : Int32, r = (if l_rl sv l ro2 ≤ l_rl sv l ro then (if l_rl sv l ro ≤ l_rl sv l ro2 then 0 else -1) else 1) → l_awider sv (nI l) (nI k) (nI k2) r := fun r h => Or.inr ⟨l, k, ro, k - z_rs (z_pr (l_R sv) l) (z_pr (l_C sv) l) ro, k2, ro2, k2 - z_rs (z_pr (l_R sv) l) (z_pr (l_C sv) l) ro2, ⟨z, y⟩, ⟨hl, by omega, d1, by omega, by omega⟩, ⟨hl, by omega, f1, by omega, by omega⟩, rfl, rfl, rfl, h⟩
  unfold l_rl at fin
  refine Ok.ite (fun c1 => Ok.ite (fun c2 => ?_) (fun c2 => ?_)) (fun c1 => ?_)
  all_goals rw [nI_leI (by omega) (by omega)] at c1
  · rw [nI_leI (by omega) (by omega)] at c2
    exact Ok.ret (fin _ (by rw [if_pos c1, if_pos c2]))
  · rw [nI_leI (by omega) (by omega)] at c2
    exact Ok.ret (fin _ (by rw [if_pos c1, if_neg c2]))
  · exact Ok.ret (fin _ (by rw [if_neg c1]))
/-! jog -/
def l_vjog (sv : l_T) (l ro : Nat) (w : Int32) : Int32 := if w = 0 then (if ro = 0 then 0 else if l_rl sv l (ro - 1) = l_rl sv l ro then 0 else 1) else if w = 2 then (if ro = 44 * z_pr (l_R sv) l + 1 then 0 else if l_rl sv l (ro + 1) = l_rl sv l ro then 0 else 1) else -1
def l_ajog (sv : l_T) (p q w r : Int32) : Prop := (¬ l_hs sv p q ∧ r = -1) ∨ (∃ l k ro pl, l_hs sv p q ∧ l_spot sv l k ro pl ∧ p = nI l ∧ q = nI k ∧ r = l_vjog sv l ro w)
theorem l_ajog_one {p q w r r' : Int32} (h : l_ok sv) (h1 : l_ajog sv p q w r) (h2 : l_ajog sv p q w r') : r = r' := by
  rcases h1 with ⟨a, b⟩ | ⟨l, k, ro, pl, a, b1, c1, c2, e⟩ <;> rcases h2 with ⟨a', b'⟩ | ⟨l', k', ro', pl', a', b1', c1', c2', e'⟩
  · exact b.trans b'.symm
  · exact absurd a' a
  · exact absurd a a'
  · obtain ⟨rfl, rfl, rfl, rfl⟩ := l_spot_one h b1 b1' c1 c1' c2 c2'
    exact e.trans e'.symm
theorem a_x_jog (g : GOK (l_R sv) (l_C sv) (z_pr (l_R sv)) (z_pr (l_C sv)) rc cc br zc rw sh) (hN : 1000000 ≤ N) (a1 a2 a3 a4 a5 a6 p q w : Int32) : Ok (f_X_jog N a1 a2 a3 a4 a5 a6 br zc rw sh p q w) (fun x => l_ajog sv p q w x.1) := by
  unfold f_X_jog
  refine Ok.b1 (r_hasSheet g p q) (fun v1 h1 => ?_)
  rcases h1 with ⟨z, rfl⟩ | ⟨z, rfl⟩
  rotate_left
  · exact Ok.ite (fun _ => Ok.ret (Or.inl ⟨z, rfl⟩)) (fun c => absurd rfl c)
  refine Ok.ite (fun c => absurd c (by decide)) (fun _ => ?_)
  have z' := z
  obtain ⟨l, k, hl, rfl, rfl, hk⟩ := z'
  have hs := g.2.sh hl
  have hp := g.2.pos l hl
  have hv := g.2.hv hl
  obtain ⟨ro, pl, e, d1, d2, d3⟩ := k_put (N := N) g (by omega) hl hk a1 a2 a3 a4 a5 a6
  have la := (z_rl_pos (V := z_pr (l_C sv) l) hp.1 hp.2 d1).2
  have fin : ∀ r : Int32, r = l_vjog sv l ro w → l_ajog sv (nI l) (nI k) w r := fun r h => Or.inr ⟨l, k, ro, pl, z, ⟨hl, by omega, d1, d2, d3⟩, rfl, rfl, h⟩
  unfold l_vjog l_rl at fin
  rw [e]
  refine Ok.j0 ?_
  have t0 : (0 : Int32).toInt = 0 := rfl
  by_cases c0 : w = 0
  · rw [if_pos c0] at fin
    rw [if_pos c0, q_b6_s]
    refine Ok.j1 ?_
    rw [if_pos c0]
    dsimp only
    rw [z_ai hl (by omega), (g.at hl).2.2.2.2.1, show nI (44 * z_pr (l_R sv) l + 2) - 1 = nI (44 * z_pr (l_R sv) l + 1) from z_sub1 (by omega)]
    refine Ok.b1 (s_isFrom _ _ _) (fun v10 h10 => ?_)
    by_cases r0 : ro = 0
    · rw [r0, t0, if_neg (show ¬ (0 ≤ (nI 0 - 1).toInt ∧ (nI 0 - 1).toInt ≤ (nI (44 * z_pr (l_R sv) l + 1)).toInt) from fun z => absurd z.1 (by decide))] at h10
      subst h10
      exact Ok.ite (fun _ => Ok.ret (fin _ (by rw [if_pos r0]))) (fun c => absurd rfl c)
    · rw [z_sub1 (by omega), t0, nI_toInt (by omega), nI_toInt (by omega), if_pos (by omega)] at h10
      subst h10
      refine Ok.ite (fun c => absurd c (by decide)) (fun _ => ?_)
      have lb := (z_rl_pos (V := z_pr (l_C sv) l) hp.1 hp.2 (show ro - 1 ≤ _ by omega)).2
      rw [z_sub1 (by omega), k_rowLength g hl (show ro - 1 ≤ _ by omega), q_b1_s]
      refine Ok.ite (fun c => ?_) (fun c => ?_)
      all_goals rw [nI_eq (by omega) (by omega)] at c
      · exact Ok.ret (fin _ (by rw [if_neg r0, if_pos c]))
      · exact Ok.ret (fin _ (by rw [if_neg r0, if_neg c]))
  · rw [if_neg c0] at fin
    rw [if_neg c0]
    by_cases c2 : w = 2
    · rw [if_pos c2] at fin
      rw [if_pos c2, q_b6_s]
      refine Ok.j1 ?_
      rw [if_neg c0, nI_1]
      dsimp only
      rw [z_ai hl (by omega), (g.at hl).2.2.2.2.1, show nI (44 * z_pr (l_R sv) l + 2) - 1 = nI (44 * z_pr (l_R sv) l + 1) from z_sub1 (by omega)]
      refine Ok.b1 (s_isFrom _ _ _) (fun v10 h10 => ?_)
      rw [t0, nI_toInt (by omega), nI_toInt (by omega)] at h10
      by_cases r0 : ro = 44 * z_pr (l_R sv) l + 1
      · rw [if_neg (by omega)] at h10
        subst h10
        exact Ok.ite (fun _ => Ok.ret (fin _ (by rw [if_pos r0]))) (fun c => absurd rfl c)
      · rw [if_pos (by omega)] at h10
        subst h10
        refine Ok.ite (fun c => absurd c (by decide)) (fun _ => ?_)
        have lb := (z_rl_pos (V := z_pr (l_C sv) l) hp.1 hp.2 (show ro + 1 ≤ _ by omega)).2
        rw [k_rowLength g hl (show ro + 1 ≤ _ by omega), q_b1_s]
        refine Ok.ite (fun c => ?_) (fun c => ?_)
        all_goals rw [nI_eq (by omega) (by omega)] at c
        · exact Ok.ret (fin _ (by rw [if_neg r0, if_pos c]))
        · exact Ok.ret (fin _ (by rw [if_neg r0, if_neg c]))
    · rw [if_neg c2] at fin
      rw [if_neg c2]
      exact Ok.ret (fin _ rfl)
theorem a_m_jog (g : MOK (l_R sv) (l_C sv) (z_pr (l_R sv)) (z_pr (l_C sv)) cr cq dp wd za) (hN : 1000000 ≤ N) (p q w : Int32) : Ok (f_M_jog N dp wd za p q w) (fun x => l_ajog sv p q w x) := by
  unfold f_M_jog
  refine Ok.b1 (r_isKey g p q) (fun v1 h1 => ?_)
  rcases h1 with ⟨z, rfl⟩ | ⟨z, rfl⟩
  rotate_left
  · exact Ok.ite (fun _ => Ok.ret (Or.inl ⟨z, rfl⟩)) (fun c => absurd rfl c)
  refine Ok.ite (fun c => absurd c (by decide)) (fun _ => ?_)
  have z' := z
  obtain ⟨l, k, hl, rfl, rfl, hk⟩ := z'
  have hs := g.2.2.sh hl
  have hp := g.2.2.pos l hl
  have hv := g.2.2.hv hl
  obtain ⟨ro, pl, d1, d2, d3, er, -⟩ := t_spot (N := N) g (by omega) hl hk
  have la := (z_rl_pos (V := z_pr (l_C sv) l) hp.1 hp.2 d1).2
  have fin : ∀ r : Int32, r = l_vjog sv l ro w → l_ajog sv (nI l) (nI k) w r := fun r h => Or.inr ⟨l, k, ro, pl, z, ⟨hl, by omega, d1, d2, d3⟩, rfl, rfl, h⟩
  unfold l_vjog l_rl at fin
  rw [er]
  refine Ok.j0 ?_
  have t0 : (0 : Int64).toInt = 0 := rfl
  by_cases c0 : w = 0
  · rw [if_pos c0] at fin
    rw [if_pos c0, q_b1_s]
    refine Ok.j1 ?_
    rw [if_pos c0]
    dsimp only
    rw [m_lastRow g hl, q_b1_s]
    refine Ok.b1 (t_in _ _ _) (fun v10 h10 => ?_)
    rw [t0, z_toL, z_toL] at h10
    by_cases r0 : ro = 0
    · rw [r0, if_neg (show ¬ (0 ≤ (nI 0 - 1).toInt ∧ (nI 0 - 1).toInt ≤ (nI (44 * z_pr (l_R sv) l + 1)).toInt) from fun z => absurd z.1 (by decide))] at h10
      subst h10
      exact Ok.ite (fun _ => Ok.ret (fin _ (by rw [if_pos r0]))) (fun c => absurd rfl c)
    · rw [z_sub1 (by omega), nI_toInt (by omega), nI_toInt (by omega), if_pos (by omega)] at h10
      subst h10
      refine Ok.ite (fun c => absurd c (by decide)) (fun _ => ?_)
      have lb := (z_rl_pos (V := z_pr (l_C sv) l) hp.1 hp.2 (show ro - 1 ≤ _ by omega)).2
      rw [z_sub1 (by omega), m_many g hl (show ro - 1 ≤ _ by omega), q_b1_s, m_many g hl d1, q_b1_s]
      refine Ok.ite (fun c => ?_) (fun c => ?_)
      all_goals rw [nI_eq (by omega) (by omega)] at c
      · exact Ok.ret (fin _ (by rw [if_neg r0, if_pos c]))
      · exact Ok.ret (fin _ (by rw [if_neg r0, if_neg c]))
  · rw [if_neg c0] at fin
    rw [if_neg c0]
    by_cases c2 : w = 2
    · rw [if_pos c2] at fin
      rw [if_pos c2, q_b1_s]
      refine Ok.j1 ?_
      rw [if_neg c0, nI_1]
      dsimp only
      rw [m_lastRow g hl, q_b1_s]
      refine Ok.b1 (t_in _ _ _) (fun v10 h10 => ?_)
      rw [t0, z_toL, z_toL, nI_toInt (by omega), nI_toInt (by omega)] at h10
      by_cases r0 : ro = 44 * z_pr (l_R sv) l + 1
      · rw [if_neg (by omega)] at h10
        subst h10
        exact Ok.ite (fun _ => Ok.ret (fin _ (by rw [if_pos r0]))) (fun c => absurd rfl c)
      · rw [if_pos (by omega)] at h10
        subst h10
        refine Ok.ite (fun c => absurd c (by decide)) (fun _ => ?_)
        have lb := (z_rl_pos (V := z_pr (l_C sv) l) hp.1 hp.2 (show ro + 1 ≤ _ by omega)).2
        rw [m_many g hl (show ro + 1 ≤ _ by omega), q_b1_s, m_many g hl d1, q_b1_s]
        refine Ok.ite (fun c => ?_) (fun c => ?_)
        all_goals rw [nI_eq (by omega) (by omega)] at c
        · exact Ok.ret (fin _ (by rw [if_neg r0, if_pos c]))
        · exact Ok.ret (fin _ (by rw [if_neg r0, if_neg c]))
    · rw [if_neg c2] at fin
      rw [if_neg c2]
      exact Ok.ret (fin _ rfl)
end S5A
end
section
/-! answers: a spot's generic words; around -/
section S6A
variable {rc cc br zc rw sh cr cq dp wd za fl fk fy : Nat → Int32} {sv : l_T} {N l : Nat}
/-- an answer: what is refused, else what a good start gives -/
def l_rel {σ : Type} (C : Prop) (c : Int32) (S : σ → Prop) (f : σ → Int32) (r : Int32) : Prop := (¬ C ∧ r = c) ∨ (C ∧ ∃ s, S s ∧ r = f s)
theorem l_rel_one {σ : Type} {C : Prop} {c : Int32} {S : σ → Prop} {f : σ → Int32} {r r' : Int32} (hS : ∀ s s', S s → S s' → s = s') (h1 : l_rel C c S f r) (h2 : l_rel C c S f r') : r = r' := by
  rcases h1 with ⟨a, b⟩ | ⟨a, s, h, e⟩ <;> rcases h2 with ⟨a', b'⟩ | ⟨a', s', h', e'⟩
  · exact b.trans b'.symm
  · exact absurd a' a
  · exact absurd a a'
  · rw [hS s s' h h'] at e
    exact e.trans e'.symm
theorem l_relN {σ : Type} {C : Prop} {c : Int32} {S : σ → Prop} {f : σ → Int32} (h : ¬ C) : l_rel C c S f c := Or.inl ⟨h, rfl⟩
theorem l_relY {σ : Type} {C : Prop} {c r : Int32} {S : σ → Prop} {f : σ → Int32} (h : C) {s : σ} (hs : S s) (e : r = f s) : l_rel C c S f r := Or.inr ⟨h, s, hs, e⟩
/-- a sheet: level, key, row, place -/
def l_sp (sv : l_T) (p q : Int32) (s : Nat × Nat × Nat × Nat) : Prop := l_spot sv s.1 s.2.1 s.2.2.1 s.2.2.2 ∧ p = nI s.1 ∧ q = nI s.2.1
theorem l_sp_one {p q : Int32} (h : l_ok sv) : ∀ s s' : Nat × Nat × Nat × Nat, l_sp sv p q s → l_sp sv p q s' → s = s' := by
  intro ⟨l, k, ro, pl⟩ ⟨l', k', ro', pl'⟩ ⟨h1, h2, h3⟩ ⟨h1', h2', h3'⟩
  obtain ⟨rfl, rfl, rfl, rfl⟩ := l_spot_one h h1 h1' h2 h2' h3 h3'
  rfl
theorem z_bM0 {H0 V0 r p : Nat} : z_bM H0 V0 r p 0 = if r = 0 then 0 else ((p + 1) * z_rl H0 V0 (r - 1) - 1) / z_rl H0 V0 r - p * z_rl H0 V0 (r - 1) / z_rl H0 V0 r + 1 := if_pos rfl
theorem z_bM2 {H0 V0 r p : Nat} : z_bM H0 V0 r p 2 = if r = 44 * H0 + 1 then 0 else ((p + 1) * z_rl H0 V0 (r + 1) - 1) / z_rl H0 V0 r - p * z_rl H0 V0 (r + 1) / z_rl H0 V0 r + 1 := (if_neg (show ¬ (2 : Nat) = 0 by omega)).trans (if_pos rfl)
theorem z_bM1 {H0 V0 r p : Nat} : z_bM H0 V0 r p 1 = if r = 0 ∨ r = 44 * H0 + 1 then 0 else 1 := (if_neg (show ¬ (1 : Nat) = 0 by omega)).trans (if_neg (show ¬ (1 : Nat) = 2 by omega))
theorem z_bM3 {H0 V0 r p : Nat} : z_bM H0 V0 r p 3 = if r = 0 ∨ r = 44 * H0 + 1 then 0 else 1 := (if_neg (show ¬ (3 : Nat) = 0 by omega)).trans (if_neg (show ¬ (3 : Nat) = 2 by omega))
theorem z_bF0 {H0 V0 r p : Nat} : z_bF H0 V0 r p 0 = z_rs H0 V0 (r - 1) + p * z_rl H0 V0 (r - 1) / z_rl H0 V0 r := if_pos rfl
theorem z_bF2 {H0 V0 r p : Nat} : z_bF H0 V0 r p 2 = z_rs H0 V0 (r + 1) + p * z_rl H0 V0 (r + 1) / z_rl H0 V0 r := (if_neg (show ¬ (2 : Nat) = 0 by omega)).trans (if_pos rfl)
theorem z_bF1 {H0 V0 r p : Nat} : z_bF H0 V0 r p 1 = z_rs H0 V0 r + (p + 1) % z_rl H0 V0 r := (if_neg (show ¬ (1 : Nat) = 0 by omega)).trans ((if_neg (show ¬ (1 : Nat) = 2 by omega)).trans (if_pos rfl))
theorem z_bF3 {H0 V0 r p : Nat} : z_bF H0 V0 r p 3 = z_rs H0 V0 r + (p + (z_rl H0 V0 r - 1)) % z_rl H0 V0 r := (if_neg (show ¬ (3 : Nat) = 0 by omega)).trans ((if_neg (show ¬ (3 : Nat) = 2 by omega)).trans (if_neg (show ¬ (3 : Nat) = 1 by omega)))
theorem z_bB {H0 V0 r p : Nat} (hH : 1 ≤ H0) (hV : 1 ≤ V0) (hr : r ≤ 44 * H0 + 1) (hp : p < z_rl H0 V0 r) {i : Nat} (hi : i < 4) : z_bM H0 V0 r p i ≤ 60 * V0 ∧ (z_bM H0 V0 r p i ≠ 0 → z_bF H0 V0 r p i + z_bM H0 V0 r p i ≤ 2130 * (H0 * V0) + 2) := by
  have la := z_rl_pos hH hV hr
  have hre := z_rs_end (V := V0) hH hr
  have key : ∀ b, b ≤ 44 * H0 + 1 → ((p + 1) * z_rl H0 V0 b - 1) / z_rl H0 V0 r - p * z_rl H0 V0 b / z_rl H0 V0 r + 1 ≤ 60 * V0 ∧ z_rs H0 V0 b + p * z_rl H0 V0 b / z_rl H0 V0 r + (((p + 1) * z_rl H0 V0 b - 1) / z_rl H0 V0 r - p * z_rl H0 V0 b / z_rl H0 V0 r + 1) ≤ 2130 * (H0 * V0) + 2 := by
    intro b hb
    have lb := z_rl_pos hH hV hb
    have hbe := z_rs_end (V := V0) hH hb
    have m1 : (p + 1) * z_rl H0 V0 b ≤ z_rl H0 V0 r * z_rl H0 V0 b := Nat.mul_le_mul_right _ (by omega)
    have m2 : 1 * 1 ≤ (p + 1) * z_rl H0 V0 b := Nat.mul_le_mul (by omega) lb.1
    have d1 : ((p + 1) * z_rl H0 V0 b - 1) / z_rl H0 V0 r < z_rl H0 V0 b := Nat.div_lt_of_lt_mul (by omega)
    have e : (p + 1) * z_rl H0 V0 b = p * z_rl H0 V0 b + z_rl H0 V0 b := Nat.succ_mul _ _
    have d2 : p * z_rl H0 V0 b / z_rl H0 V0 r ≤ ((p + 1) * z_rl H0 V0 b - 1) / z_rl H0 V0 r := Nat.div_le_div_right (by omega)
    generalize ((p + 1) * z_rl H0 V0 b - 1) / z_rl H0 V0 r = y at *
    generalize p * z_rl H0 V0 b / z_rl H0 V0 r = x at *
    exact ⟨by omega, by omega⟩
  rcases (show i = 0 ∨ i = 2 ∨ i = 1 ∨ i = 3 by omega) with rfl | rfl | rfl | rfl
  · rw [z_bM0, z_bF0]
    by_cases h0 : r = 0
    · rw [if_pos h0]; exact ⟨Nat.zero_le _, fun z => absurd rfl z⟩
    · rw [if_neg h0]; exact ⟨(key (r - 1) (by omega)).1, fun _ => (key (r - 1) (by omega)).2⟩
  · rw [z_bM2, z_bF2]
    by_cases h0 : r = 44 * H0 + 1
    · rw [if_pos h0]; exact ⟨Nat.zero_le _, fun z => absurd rfl z⟩
    · rw [if_neg h0]; exact ⟨(key (r + 1) (by omega)).1, fun _ => (key (r + 1) (by omega)).2⟩
  · have h2 : (p + 1) % z_rl H0 V0 r < z_rl H0 V0 r := Nat.mod_lt _ (by omega)
    rw [z_bM1, z_bF1]
    by_cases h0 : r = 0 ∨ r = 44 * H0 + 1
    · rw [if_pos h0]; exact ⟨Nat.zero_le _, fun z => absurd rfl z⟩
    · rw [if_neg h0]; exact ⟨by omega, fun _ => by omega⟩
  · have h2 : (p + (z_rl H0 V0 r - 1)) % z_rl H0 V0 r < z_rl H0 V0 r := Nat.mod_lt _ (by omega)
    rw [z_bM3, z_bF3]
    by_cases h0 : r = 0 ∨ r = 44 * H0 + 1
    · rw [if_pos h0]; exact ⟨Nat.zero_le _, fun z => absurd rfl z⟩
    · rw [if_neg h0]; exact ⟨by omega, fun _ => by omega⟩
theorem z_bM13 {H0 V0 r p : Nat} : z_bM H0 V0 r p 1 = z_bM H0 V0 r p 3 ∧ z_bM H0 V0 r p 1 ≤ 1 := by
  rw [z_bM1, z_bM3]
  exact ⟨rfl, by split <;> omega⟩
/-- the i-th of all neighbours, by keys -/
def l_nA (M F : Nat → Nat) (j : Nat) : Nat := if j < M 0 then F 0 + j else if j - M 0 < M 1 + M 3 then (if j - M 0 = 0 then (if F 3 < F 1 then F 3 else F 1) else (if F 3 ≤ F 1 then F 1 else F 3)) else F 2 + (j - M 0 - M 1 - M 3)
def l_tot (M : Nat → Nat) : Nat := M 0 + M 1 + M 2 + M 3
/-- rows of neighbours, as both sides have them -/
def l_MF (M F : Nat → Nat) : Prop := (M 1 = M 3 ∧ M 1 ≤ 1) ∧ ∀ i, i < 4 → M i ≤ 600000 ∧ (M i ≠ 0 → F i + M i ≤ 20000000)
theorem l_MF_of {R C H V : Nat → Nat} (g : CUT R C H V) (hl : l < 5) {r p : Nat} (hr : r ≤ 44 * H l + 1) (hp : p < z_rl (H l) (V l) r) : l_MF (z_bM (H l) (V l) r p) (z_bF (H l) (V l) r p) := by
  have hv := g.hv hl
  have hps := g.pos l hl
  have hs := g.sh hl
  refine ⟨z_bM13, fun i hi => ?_⟩
  obtain ⟨h1, h2⟩ := z_bB hps.1 hps.2 hr hp hi
  exact ⟨by omega, fun z => by have := h2 z; omega⟩
theorem r_besideKey {f m : Nat → Int32} {F M : Nat → Nat} (h : l_MF M F) (hfm : ∀ i, i < 4 → m i = nI (M i) ∧ (M i ≠ 0 → f i = nI (F i))) {i : Nat} (hi : i < l_tot M) : f_Spot_besideKey f m (nI i) = some (nI (l_nA M F i)) := by
  unfold l_tot at hi
  obtain ⟨⟨h13, h1⟩, hh⟩ := h
  obtain ⟨b0, s0⟩ := hh 0 (by omega)
  obtain ⟨b1, s1⟩ := hh 1 (by omega)
  obtain ⟨b2, s2⟩ := hh 2 (by omega)
  obtain ⟨b3, s3⟩ := hh 3 (by omega)
  obtain ⟨m0, f0⟩ := hfm 0 (by omega)
  obtain ⟨m1, f1⟩ := hfm 1 (by omega)
  obtain ⟨m2, f2⟩ := hfm 2 (by omega)
  obtain ⟨m3, f3⟩ := hfm 3 (by omega)
  unfold f_Spot_besideKey l_nA
  rw [show (0 : Int32) = nI 0 from rfl, z_ai (by omega) (by omega), m0]
  by_cases c0 : M 0 ≤ i
  · rw [if_pos (by rw [nI_leI (by omega) (by omega)]; exact c0), z_ai (by omega) (by omega), m0, z_nm, pk_sub c0, z_i 1, z_ai (by omega) (by omega), z_i 3, z_ai (by omega) (by omega), m1, m3, nI_add, if_neg (show ¬ i < M 0 by omega)]
    by_cases c1 : i - M 0 < M 1 + M 3
    · have n1 : M 1 ≠ 0 := by omega
      have n3 : M 3 ≠ 0 := by omega
      have t1 := s1 n1
      have t3 := s3 n3
      rw [if_pos (by rw [nI_ltI (by omega) (by omega)]; exact c1), if_pos c1]
      by_cases c2 : i - M 0 = 0
      · rw [if_pos (by rw [c2]), if_pos c2, z_ai (by omega) (by omega), z_ai (by omega) (by omega), z_nm, f1 n1, f3 n3]
        by_cases c3 : F 3 < F 1
        · rw [if_pos (by rw [nI_ltI (by omega) (by omega)]; exact c3), if_pos c3]
        · rw [if_neg (by rw [nI_ltI (by omega) (by omega)]; exact c3), if_neg c3]
      · rw [if_neg (by rw [nI_eq (by omega) (by omega)]; exact c2), if_neg c2, z_ai (by omega) (by omega), z_ai (by omega) (by omega), z_nm, f1 n1, f3 n3]
        by_cases c3 : F 1 < F 3
        · rw [if_pos (by rw [nI_ltI (by omega) (by omega)]; exact c3), if_neg (by omega)]
        · rw [if_neg (by rw [nI_ltI (by omega) (by omega)]; exact c3), if_pos (by omega)]
    · have n2 : M 2 ≠ 0 := by omega
      have t2 := s2 n2
      rw [if_neg (by rw [nI_ltI (by omega) (by omega)]; exact c1), if_neg c1, z_i 2, z_ai (by omega) (by omega), z_ai (by omega) (by omega), z_ai (by omega) (by omega), f2 n2, m1, m3, nI_add, pk_sub (by omega), pk_sub (by omega)]
      refine congrArg (fun z => some (nI z)) ?_
      omega
  · rw [if_neg (by rw [nI_leI (by omega) (by omega)]; exact c0), z_ai (by omega) (by omega), f0 (by omega), nI_add, if_pos (by omega)]
theorem r_allBeside {f m : Nat → Int32} {F M : Nat → Nat} (hfm : ∀ i, i < 4 → m i = nI (M i) ∧ (M i ≠ 0 → f i = nI (F i))) : f_Spot_allBeside m = some (nI (l_tot M)) := by
  unfold f_Spot_allBeside l_tot
  rw [show (0 : Int32) = nI 0 from rfl, z_ai (by omega) (by omega), z_i 1, z_ai (by omega) (by omega), z_i 2, z_ai (by omega) (by omega), z_i 3, z_ai (by omega) (by omega), (hfm 0 (by omega)).1, (hfm 1 (by omega)).1, (hfm 2 (by omega)).1, (hfm 3 (by omega)).1, nI_add, nI_add, nI_add]
theorem r_allBesideM_L {R C H V : Nat → Nat} (g : MOK R C H V cr cq dp wd za) (hN : 50 ≤ N) (hl : l < 5) {r p : Nat} (hr : r ≤ 44 * H l + 1) (hp : p < z_rl (H l) (V l) r) : ∀ n i t (a b : Int32), i ≤ 4 → 4 - i < n → (t = (if i = 0 then 0 else z_bM (H l) (V l) r p 0) + (if i ≤ 1 then 0 else z_bM (H l) (V l) r p 1) + (if i ≤ 2 then 0 else z_bM (H l) (V l) r p 2) + (if i ≤ 3 then 0 else z_bM (H l) (V l) r p 3)) → Ok (f_M_allBeside_L5 N dp wd za (nI l) (nI (z_rs (H l) (V l) r + p)) n (nI t) (nI i) a b) (fun x => x.1 = nI (l_tot (z_bM (H l) (V l) r p))) := by
  intro n
  induction n with
  | zero => intro i t a b h1 h2; omega
  | succ n ih =>
    intro i t a b h1 h2 ht
    unfold f_M_allBeside_L5
    refine Ok.ite (fun c => ?_) (fun c => ?_)
    all_goals rw [z_i 4, nI_leI (by omega) (by omega)] at c
    · have e : i = 4 := by omega
      subst e
      rw [if_neg (by omega), if_neg (by omega), if_neg (by omega), if_neg (by omega)] at ht
      exact Ok.ret (by rw [ht]; rfl)
    · obtain ⟨x, e2, -⟩ := r_laysBeside (N := N) g hN hl hr hp a b (i := i) (by omega)
      rw [e2, q_b2_s, nI_add, z_nm, z_i 1, nI_add, z_nm]
      refine ih (i + 1) _ _ _ (by omega) (by omega) ?_
      rcases (show i = 0 ∨ i = 1 ∨ i = 2 ∨ i = 3 by omega) with rfl | rfl | rfl | rfl
      · rw [if_pos rfl, if_pos (by omega), if_pos (by omega), if_pos (by omega)] at ht
        rw [if_neg (by omega), if_pos (by omega), if_pos (by omega), if_pos (by omega)]
        omega
      · rw [if_neg (by omega), if_pos (by omega), if_pos (by omega), if_pos (by omega)] at ht
        rw [if_neg (by omega), if_neg (by omega), if_pos (by omega), if_pos (by omega)]
        omega
      · rw [if_neg (by omega), if_neg (by omega), if_pos (by omega), if_pos (by omega)] at ht
        rw [if_neg (by omega), if_neg (by omega), if_neg (by omega), if_pos (by omega)]
        omega
      · rw [if_neg (by omega), if_neg (by omega), if_neg (by omega), if_pos (by omega)] at ht
        rw [if_neg (by omega), if_neg (by omega), if_neg (by omega), if_neg (by omega)]
        omega
theorem r_allBesideM {R C H V : Nat → Nat} (g : MOK R C H V cr cq dp wd za) (hN : 50 ≤ N) (hl : l < 5) {r p : Nat} (hr : r ≤ 44 * H l + 1) (hp : p < z_rl (H l) (V l) r) (a b : Int32) : Ok (f_M_allBeside N dp wd za a b (nI l) (nI (z_rs (H l) (V l) r + p))) (fun x => x.1 = nI (l_tot (z_bM (H l) (V l) r p))) := by
  unfold f_M_allBeside
  rw [z_nm, z_nm]
  exact Ok.b3 (r_allBesideM_L g hN hl hr hp N 0 0 a b (by omega) (by omega) (by rw [if_pos rfl, if_pos (by omega), if_pos (by omega), if_pos (by omega)])) (fun x1 x2 x3 h => Ok.ret h)
theorem r_besideAllM {R C H V : Nat → Nat} (g : MOK R C H V cr cq dp wd za) (hN : 50 ≤ N) (hl : l < 5) {r p : Nat} (hr : r ≤ 44 * H l + 1) (hp : p < z_rl (H l) (V l) r) (a b : Int32) {i : Nat} (hi : i < l_tot (z_bM (H l) (V l) r p)) : Ok (f_M_besideAll N dp wd za a b (nI l) (nI (z_rs (H l) (V l) r + p)) (nI i)) (fun x => x.1 = nI (l_nA (z_bM (H l) (V l) r p) (z_bF (H l) (V l) r p) i)) := by
  have hMF := l_MF_of g.2.2 hl hr hp
  unfold l_tot at hi
  obtain ⟨⟨h13, h1⟩, hh⟩ := hMF
  obtain ⟨b0, s0⟩ := hh 0 (by omega)
  obtain ⟨b1, s1⟩ := hh 1 (by omega)
  obtain ⟨b2, s2⟩ := hh 2 (by omega)
  obtain ⟨b3, s3⟩ := hh 3 (by omega)
  unfold f_M_besideAll l_nA
  obtain ⟨x0, e0, f0⟩ := r_laysBeside (N := N) g hN hl hr hp a b (i := 0) (by omega)
  rw [show (0 : Int32) = nI 0 from rfl, e0, q_b2_s]
  refine Ok.ite (fun c0 => ?_) (fun c0 => ?_)
  all_goals rw [nI_leI (by omega) (by omega)] at c0
  · obtain ⟨x1, e1, f1⟩ := r_laysBeside (N := N) g hN hl hr hp x0 (nI (z_bM (H l) (V l) r p 0)) (i := 1) (by omega)
    obtain ⟨x3, e3, f3⟩ := r_laysBeside (N := N) g hN hl hr hp x1 (nI (z_bM (H l) (V l) r p 1)) (i := 3) (by omega)
    obtain ⟨x2, e2, f2⟩ := r_laysBeside (N := N) g hN hl hr hp x3 (nI (z_bM (H l) (V l) r p 3)) (i := 2) (by omega)
    rw [pk_sub c0, z_nm, z_i 1, e1, q_b2_s, z_i 3, e3, q_b2_s, if_neg (show ¬ i < z_bM (H l) (V l) r p 0 by omega)]
    have K : 2 * z_bM (H l) (V l) r p 1 ≤ i - z_bM (H l) (V l) r p 0 → Ok (q_nm ((nI (i - z_bM (H l) (V l) r p 0) - (2 * nI (z_bM (H l) (V l) r p 1))) : Int32) (fun (v8 : Int32) => q_b2 (f_M_laysBeside N dp wd za x3 (nI (z_bM (H l) (V l) r p 3)) (nI l) (nI (z_rs (H l) (V l) r + p)) 2) (fun (v9 : Int32) (v10 : Int32) => if v10 ≤ v8 then (some ((-1), v9, v10)) else (some ((v9 + v8), v9, v10))))) (fun x : Int32 × Int32 × Int32 => x.1 = nI (if i - z_bM (H l) (V l) r p 0 < z_bM (H l) (V l) r p 1 + z_bM (H l) (V l) r p 3 then (if i - z_bM (H l) (V l) r p 0 = 0 then (if z_bF (H l) (V l) r p 3 < z_bF (H l) (V l) r p 1 then z_bF (H l) (V l) r p 3 else z_bF (H l) (V l) r p 1) else (if z_bF (H l) (V l) r p 3 ≤ z_bF (H l) (V l) r p 1 then z_bF (H l) (V l) r p 1 else z_bF (H l) (V l) r p 3)) else z_bF (H l) (V l) r p 2 + (i - z_bM (H l) (V l) r p 0 - z_bM (H l) (V l) r p 1 - z_bM (H l) (V l) r p 3))) := by
      intro h2
      rw [z_i 2, pk_mul, pk_sub h2, z_nm, e2, q_b2_s]
      refine Ok.ite (fun c => ?_) (fun c => ?_)
      all_goals rw [nI_leI (by omega) (by omega)] at c
      · omega
      · rw [f2 (by omega), nI_add, if_neg (by omega)]
        refine Ok.ret ?_
        refine congrArg nI ?_
        show z_bF (H l) (V l) r p 2 + (i - z_bM (H l) (V l) r p 0 - 2 * z_bM (H l) (V l) r p 1) = _
        omega
    refine Ok.j0 ?_
    by_cases hM1 : z_bM (H l) (V l) r p 1 = 1
    · have n3 : z_bM (H l) (V l) r p 3 ≠ 0 := by omega
      have t1 := s1 (by omega)
      have t3 := s3 n3
      rw [if_pos (show nI (z_bM (H l) (V l) r p 1) = nI 1 by rw [hM1])]
      refine Ok.ite (fun c => ?_) (fun c => ?_)
      all_goals rw [z_i 2, nI_leI (by omega) (by omega)] at c
      · exact K (by omega)
      · rw [f1 (by omega), f3 n3, if_pos (show i - z_bM (H l) (V l) r p 0 < z_bM (H l) (V l) r p 1 + z_bM (H l) (V l) r p 3 by omega)]
        refine Ok.j1 ?_
        by_cases c2 : i - z_bM (H l) (V l) r p 0 = 0
        · rw [if_pos (show nI (i - z_bM (H l) (V l) r p 0) = nI 0 by rw [c2]), if_pos c2]
          refine Ok.j1 ?_
          by_cases c3 : z_bF (H l) (V l) r p 3 ≤ z_bF (H l) (V l) r p 1
          · rw [if_pos (by rw [nI_leI (by omega) (by omega)]; exact c3)]
            dsimp only
            rw [if_neg (by decide)]
            by_cases c4 : z_bF (H l) (V l) r p 3 < z_bF (H l) (V l) r p 1
            · rw [if_pos c4]; exact Ok.ret rfl
            · rw [if_neg c4]; exact Ok.ret (congrArg nI (show z_bF (H l) (V l) r p 3 = z_bF (H l) (V l) r p 1 by omega))
          · rw [if_neg (by rw [nI_leI (by omega) (by omega)]; exact c3)]
            dsimp only
            rw [if_pos rfl, if_neg (by omega)]
            exact Ok.ret rfl
        · rw [if_neg (show ¬ nI (i - z_bM (H l) (V l) r p 0) = nI 0 by rw [nI_eq (by omega) (by omega)]; exact c2), if_neg c2]
          refine Ok.j1 ?_
          by_cases c3 : z_bF (H l) (V l) r p 3 ≤ z_bF (H l) (V l) r p 1
          · rw [if_pos (by rw [nI_leI (by omega) (by omega)]; exact c3), if_pos c3]
            dsimp only
            rw [if_pos rfl]
            exact Ok.ret rfl
          · rw [if_neg (by rw [nI_leI (by omega) (by omega)]; exact c3), if_neg c3]
            dsimp only
            rw [if_neg (by decide)]
            exact Ok.ret rfl
    · rw [if_neg (show ¬ nI (z_bM (H l) (V l) r p 1) = nI 1 by rw [nI_eq (by omega) (by omega)]; exact hM1)]
      exact K (by omega)
  · rw [if_pos (show i < z_bM (H l) (V l) r p 0 by omega), f0 (by omega), nI_add]
    exact Ok.ret rfl
/-! around -/
def l_Caround (sv : l_T) (p q i : Int32) : Prop := z_hs (z_pr (l_R sv)) (z_pr (l_C sv)) p q ∧ -1 ≤ i
def l_Faround (sv : l_T) (i : Int32) (s : Nat × Nat × Nat × Nat) : Int32 := if i = -1 then nI (l_tot (l_bM sv s.1 s.2.2.1 s.2.2.2)) else if nI (l_tot (l_bM sv s.1 s.2.2.1 s.2.2.2)) ≤ i then -2 else nI (l_nA (l_bM sv s.1 s.2.2.1 s.2.2.2) (l_bF sv s.1 s.2.2.1 s.2.2.2) i.toInt.toNat)
def l_aaround (sv : l_T) (p q i r : Int32) : Prop := l_rel (l_Caround sv p q i) (-1) (l_sp sv p q) (l_Faround sv i) r
theorem l_aaround_one {p q i r r' : Int32} (h : l_ok sv) (h1 : l_aaround sv p q i r) (h2 : l_aaround sv p q i r') : r = r' := l_rel_one (l_sp_one h) h1 h2
/-- an index that is none of -1 and below a number -/
theorem l_idx {M : Nat} {i : Int32} (hM : M < 2 ^ 31) (h1 : -1 ≤ i) (h2 : ¬ i = -1) (h3 : ¬ nI M ≤ i) : ∃ j, j < M ∧ i = nI j ∧ i.toInt.toNat = j := by
  have h0 : 0 ≤ i.toInt := z_nn h1 h2
  obtain ⟨j, hj, rfl, hjj⟩ := z_nat h0
  rw [nI_leI hM hj] at h3
  exact ⟨j, by omega, rfl, by rw [hjj]; rfl⟩
theorem a_x_around (g : GOK (l_R sv) (l_C sv) (z_pr (l_R sv)) (z_pr (l_C sv)) rc cc br zc rw sh) (hN : 1000000 ≤ N) (f m : Nat → Int32) (a1 a2 a3 a4 a5 a6 p q i : Int32) : Ok (f_X_around N f m a1 a2 a3 a4 a5 a6 br zc rw sh p q i) (fun x => l_aaround sv p q i x.1) := by
  unfold f_X_around
  refine Ok.b1 (r_hasSheet g p q) (fun v1 h1 => ?_)
  rcases h1 with ⟨z, rfl⟩ | ⟨z, rfl⟩
  rotate_left
  · exact Ok.ite (fun _ => Ok.ret (l_relN (fun u => z u.1))) (fun c => absurd rfl c)
  refine Ok.ite (fun c => absurd c (by decide)) (fun _ => ?_)
  refine Ok.ite (fun hi => ?_) (fun hi => Ok.ret (l_relN (fun u => hi u.2)))
  have z' := z
  obtain ⟨l, k, hl, rfl, rfl, hk⟩ := z'
  have hs := g.2.sh hl
  obtain ⟨ro, pl, e, d1, d2, d3⟩ := k_put (N := N) g (by omega) hl hk a1 a2 a3 a4 a5 a6
  obtain ⟨f', m', e2, hfm⟩ := r_lookAround g hl d1 d2 f m
  have hMF := l_MF_of g.2 hl d1 d2
  have hsp : l_sp sv (nI l) (nI k) (l, k, ro, pl) := ⟨⟨hl, (show k < 20000000 by omega), d1, d2, d3⟩, rfl, rfl⟩
  have hb : l_tot (l_bM sv l ro pl) < 2 ^ 31 := by
    have h0 := (hMF.2 0 (by omega)).1
    have h1 := (hMF.2 1 (by omega)).1
    have h2 := (hMF.2 2 (by omega)).1
    have h3 := (hMF.2 3 (by omega)).1
    unfold l_tot l_bM
    omega
  rw [e, q_b6_s, e2, q_b2_s, r_allBeside hfm, q_b1_s, q_b1_s]
  refine Ok.ite (fun c1 => Ok.ret (l_relY ⟨z, hi⟩ hsp ?_)) (fun c1 => ?_)
  · unfold l_Faround; rw [if_pos c1]; rfl
  refine Ok.ite (fun c2 => Ok.ret (l_relY ⟨z, hi⟩ hsp ?_)) (fun c2 => ?_)
  · unfold l_Faround; rw [if_neg c1]; exact (if_pos c2).symm
  obtain ⟨j, hj, rfl, hjj⟩ := l_idx hb hi c1 c2
  rw [r_besideKey hMF hfm hj, q_b1_s]
  refine Ok.ret (l_relY ⟨z, hi⟩ hsp ?_)
  unfold l_Faround
  rw [if_neg c1, hjj]
  exact (if_neg c2).symm
theorem a_m_around (g : MOK (l_R sv) (l_C sv) (z_pr (l_R sv)) (z_pr (l_C sv)) cr cq dp wd za) (hN : 1000000 ≤ N) (fb mb p q i : Int32) : Ok (f_M_around N dp wd za fb mb p q i) (fun x => l_aaround sv p q i x.1) := by
  unfold f_M_around
  refine Ok.b1 (r_isKey g p q) (fun v1 h1 => ?_)
  rcases h1 with ⟨z, rfl⟩ | ⟨z, rfl⟩
  rotate_left
  · exact Ok.ite (fun _ => Ok.ret (l_relN (fun u => z u.1))) (fun c => absurd rfl c)
  refine Ok.ite (fun c => absurd c (by decide)) (fun _ => ?_)
  refine Ok.ite (fun hi => ?_) (fun hi => Ok.ret (l_relN (fun u => hi u.2)))
  have z' := z
  obtain ⟨l, k, hl, rfl, rfl, hk⟩ := z'
  have hs := g.2.2.sh hl
  obtain ⟨ro, pl, d1, d2, d3, -, -⟩ := t_spot (N := N) g (by omega) hl hk
  have hMF := l_MF_of g.2.2 hl d1 d2
  have hsp : l_sp sv (nI l) (nI k) (l, k, ro, pl) := ⟨⟨hl, (show k < 20000000 by omega), d1, d2, d3⟩, rfl, rfl⟩
  have hb : l_tot (l_bM sv l ro pl) < 2 ^ 31 := by
    have h0 := (hMF.2 0 (by omega)).1
    have h1 := (hMF.2 1 (by omega)).1
    have h2 := (hMF.2 2 (by omega)).1
    have h3 := (hMF.2 3 (by omega)).1
    unfold l_tot l_bM
    omega
  have e1 := r_allBesideM (N := N) g (by omega) hl d1 d2 fb mb
  rw [← d3] at e1
  refine Ok.b3 e1 (fun v2 v3 v4 h2 => ?_)
  dsimp only at h2
  subst h2
  refine Ok.ite (fun c1 => Ok.ret (l_relY ⟨z, hi⟩ hsp ?_)) (fun c1 => ?_)
  · unfold l_Faround; rw [if_pos c1]; rfl
  refine Ok.ite (fun c2 => Ok.ret (l_relY ⟨z, hi⟩ hsp ?_)) (fun c2 => ?_)
  · unfold l_Faround; rw [if_neg c1]; exact (if_pos c2).symm
  obtain ⟨j, hj, rfl, hjj⟩ := l_idx hb hi c1 c2
  have e2 := r_besideAllM (N := N) g (by omega) hl d1 d2 v3 v4 hj
  rw [← d3] at e2
  refine Ok.b3 e2 (fun v5 v6 v7 h5 => Ok.ret (l_relY ⟨z, hi⟩ hsp ?_))
  dsimp only at h5
  subst h5
  unfold l_Faround
  rw [if_neg c1, hjj]
  exact (if_neg c2).symm
end S6A
end
section
/-! answers: child -/
section S7A
variable {R C H V : Nat → Nat} {rc cc br zc rw sh cr cq dp wd za : Nat → Int32} {sv : l_T} {N l t : Nat}
theorem z_capR {H0 V0 r p k : Nat} (hH : 1 ≤ H0) (hr : r ≤ 44 * H0 + 1) (hp : p < z_rl H0 V0 r) (hk : k = z_rs H0 V0 r + p) : (k = 0 ↔ r = 0) ∧ (z_capk H0 V0 k ↔ (r = 0 ∨ r = 44 * H0 + 1)) := by
  have e0 : z_rs H0 V0 0 = 0 := by unfold z_rs; rw [if_pos rfl]
  have l0 : z_rl H0 V0 0 = 1 := by unfold z_rl; rw [if_pos (Or.inl rfl)]
  have eL := z_rs_last (V := V0) hH
  have lL := z_rl_last (H := H0) (V := V0)
  have h0 : k = 0 → r = 0 := fun z => z_row_one (V := V0) hH hr (Nat.zero_le _) (k := k) (by omega) (by omega) (by omega) (by omega)
  have hL : k = 2130 * (H0 * V0) + 1 → r = 44 * H0 + 1 := fun z => z_row_one (V := V0) hH hr (Nat.le_refl _) (k := k) (by omega) (by omega) (by omega) (by omega)
  refine ⟨⟨h0, fun z => ?_⟩, ⟨fun z => ?_, fun z => ?_⟩⟩
  · subst z; omega
  · rcases z with z | z
    · exact Or.inl (h0 z)
    · exact Or.inr (hL z)
  · rcases z with rfl | rfl
    · exact Or.inl (by omega)
    · exact Or.inr (by omega)
/-- how many sheets of level t lie in one of level l; the j-th -/
def z_chM (H V : Nat → Nat) (l t ro : Nat) : Nat := if ro = 0 ∨ ro = 44 * H l + 1 then 1 else H t / H l * (V t / V l)
def z_chK (H V : Nat → Nat) (l t ro pl j : Nat) : Nat := if ro = 0 then 0 else if ro = 44 * H l + 1 then 2130 * (H t * V t) + 1 else z_rs (H t) (V t) (1 + (ro - 1) * (H t / H l) + j / (V t / V l)) + (pl * (V t / V l) + j % (V t / V l))
theorem z_child (g : CUT R C H V) (hlt : l ≤ t) (ht : t < 5) {ro x : Nat} (h1 : 1 ≤ ro) (h2 : ro ≤ 44 * H l) (hx : x < H t / H l) : 1 + (ro - 1) * (H t / H l) + x ≤ 44 * H t ∧ z_rl (H t) (V t) (1 + (ro - 1) * (H t / H l) + x) = z_rl (H l) (V l) ro * (V t / V l) := by
  have hl : l < 5 := by omega
  have hp := g.pos l hl
  have hpt := g.pos t ht
  have hd := g.dvd t ht l hlt
  have q1 := z_quot hd.1 hp.1 hpt.1
  have q2 := z_quot hd.2 hp.2 hpt.2
  have a1 : (ro - 1) * (H t / H l) + (H t / H l) = ro * (H t / H l) := by
    rw [← Nat.succ_mul]; congr 1; omega
  have a2 : ro * (H t / H l) ≤ 44 * H t := by
    have : ro * (H t / H l) ≤ 44 * H l * (H t / H l) := Nat.mul_le_mul_right _ h2
    rw [Nat.mul_assoc, q1.2.2] at this
    exact this
  have hle : 1 + (ro - 1) * (H t / H l) + x ≤ 44 * H t := by omega
  refine ⟨hle, ?_⟩
  unfold z_rl
  rw [if_neg (by omega), if_neg (by omega)]
  have e : (1 + (ro - 1) * (H t / H l) + x - 1) / H t = (ro - 1) / H l := by
    have e0 : 1 + (ro - 1) * (H t / H l) + x - 1 = (H t / H l) * (ro - 1) + x := by rw [Nat.mul_comm]; omega
    have q := q1.2.2
    have qp := q1.1
    rw [e0]
    clear e0 hle a1 a2 q1
    generalize H t / H l = D at *
    rw [← q, Nat.mul_comm (H l) D, ← Nat.div_div_eq_div_mul, Nat.mul_add_div (show D > 0 by omega), Nat.div_eq_of_lt hx, Nat.add_zero]
  rw [e, Nat.mul_assoc, q2.2.2]
theorem r_rowsIn (g : GOK R C H V rc cc br zc rw sh) (hlt : l ≤ t) (ht : t < 5) : f_Grid_rowsIn br (nI l) (nI t) = some (nI (H t / H l)) ∧ f_Grid_columnsIn zc (nI l) (nI t) = some (nI (V t / V l)) := by
  have hl : l < 5 := by omega
  have hv := g.2.hv hl
  have hvt := g.2.hv ht
  have hp := g.2.pos l hl
  unfold f_Grid_rowsIn f_Grid_columnsIn
  rw [z_ai ht (by omega), (g.at ht).2.2.1, z_ai hl (by omega), (g.at hl).2.2.1, z_dv (by omega) (by omega) (by omega), z_ai ht (by omega), (g.at ht).2.2.2.1, z_ai hl (by omega), (g.at hl).2.2.2.1, z_dv (by omega) (by omega) (by omega)]
  exact ⟨rfl, rfl⟩
theorem r_piecesAt (g : GOK R C H V rc cc br zc rw sh) (hlt : l ≤ t) (ht : t < 5) (ro : Nat) : f_Spot_piecesAt (nI l) (z_cap (H l) ro) br zc (nI t) = some (nI (z_chM H V l t ro)) := by
  obtain ⟨e1, e2⟩ := r_rowsIn g hlt ht
  unfold f_Spot_piecesAt z_cap z_chM
  by_cases hc : ro = 0 ∨ ro = 44 * H l + 1
  · rw [if_pos hc, if_pos hc, if_neg (by decide)]; rfl
  · rw [if_neg hc, if_neg hc, if_pos rfl, e1, q_b1_s, e2, q_b1_s, pk_mul]
theorem r_pieceAt (g : GOK R C H V rc cc br zc rw sh) (hlt : l ≤ t) (ht : t < 5) {ro pl j : Nat} (hr : ro ≤ 44 * H l + 1) (hp : pl < z_rl (H l) (V l) ro) (hj : j < z_chM H V l t ro) : f_Spot_pieceAt (nI l) (nI ro) (nI pl) (z_cap (H l) ro) br zc rw sh (nI t) (nI j) = some (nI (z_chK H V l t ro pl j)) := by
  obtain ⟨e1, e2⟩ := r_rowsIn g hlt ht
  have hl : l < 5 := by omega
  have hv := g.2.hv hl
  have hvt := g.2.hv ht
  have hps := g.2.pos l hl
  have hpt := g.2.pos t ht
  have hd := g.2.dvd t ht l hlt
  have q1 := z_quot hd.1 hps.1 hpt.1
  have q2 := z_quot hd.2 hps.2 hpt.2
  have hst := g.2.sh ht
  unfold f_Spot_pieceAt z_cap z_chK
  unfold z_chM at hj
  by_cases hc : ro = 0 ∨ ro = 44 * H l + 1
  · rw [if_pos hc, if_neg (by decide)]
    by_cases h0 : ro = 0
    · rw [if_pos h0, if_pos (show nI ro = 0 by rw [h0]; rfl)]; rfl
    · rw [if_neg h0, if_pos (show ro = 44 * H l + 1 by omega), if_neg (show ¬ nI ro = 0 by rw [z_eq0 (by omega)]; exact h0), z_ai ht (by omega), (g.at ht).2.2.2.2.2, z_sub1 (by omega)]; rfl
  · have mm : H t / H l * (V t / V l) ≤ 9390 * 9390 := Nat.mul_le_mul (by omega) (by omega)
    rw [if_neg hc] at hj
    have hx : j / (V t / V l) < H t / H l := Nat.div_lt_of_lt_mul (by rw [Nat.mul_comm]; exact hj)
    have hm : j % (V t / V l) < V t / V l := Nat.mod_lt _ (by omega)
    obtain ⟨c1, c2⟩ := z_child g.2 hlt ht (ro := ro) (by omega) (by omega) hx
    rw [if_neg hc, if_pos rfl, if_neg (show ¬ ro = 0 by omega), if_neg (show ¬ ro = 44 * H l + 1 by omega), e2, q_b1_s, e1, q_b1_s, z_dv (by omega) (by omega) (by omega), z_sub1 (by omega), pk_mul, nI_add, nI_1, z_nm, show (ro - 1) * (H t / H l) + j / (V t / V l) + 1 = 1 + (ro - 1) * (H t / H l) + j / (V t / V l) by omega, k_rowStart g ht (by omega), q_b1_s, z_rm (by omega) (by omega) (by omega), pk_mul, nI_add, nI_add, Nat.add_assoc]
/-- the reference's pieces -/
theorem r_m_child (g : MOK R C H V cr cq dp wd za) (hN : 50 ≤ N) (hlt : l ≤ t) (ht : t < 5) {k ro pl : Nat} (hk : k < 2130 * (H l * V l) + 2) (hr : ro ≤ 44 * H l + 1) (hp : pl < z_rl (H l) (V l) ro) (hk2 : k = z_rs (H l) (V l) ro + pl) {i : Int32} (hi : -1 ≤ i) : ∀ v3 : Int32, f_M_isCap dp wd za (nI l) (nI k) = some v3 → Ok (q_j1 (fun (v4 : Int32) => (q_j1 (fun (v5 : Int32) => (if i = (-1) then (some (v4 * v5)) else (if i < (v4 * v5) then (if v3 = 0 then (q_b1 (f_M_rowOf N dp wd za (nI l) (nI k)) (fun (v6 : Int32) => q_dv i v5 (fun (v7 : Int32) => q_b1 (f_M_placeOf N dp wd za (nI l) (nI k)) (fun (v8 : Int32) => q_rm i v5 (fun (v9 : Int32) => q_b1 (f_M_keyOf dp wd za (nI t) ((1 + ((v6 - 1) * v4)) + v7) ((v8 * v5) + v9)) (fun (v10 : Int32) => some v10)))))) else (if nI k = 0 then (some 0) else (q_b1 (f_M_sheets dp wd za (nI t)) (fun (v11 : Int32) => some (v11 - 1))))) else (some (-2))) : Option (Int32))) (fun (k84 : Int32 → Option (Int32)) => if v3 = 0 then (q_ai wd 5 (nI t) (fun (v12 : Int32) => q_ai wd 5 (nI l) (fun (v13 : Int32) => q_dv v12 v13 (fun (v14 : Int32) => k84 v14)))) else (k84 1)) : Option (Int32))) (fun (k60 : Int32 → Option (Int32)) => if v3 = 0 then (q_ai dp 5 (nI t) (fun (v15 : Int32) => q_ai dp 5 (nI l) (fun (v16 : Int32) => q_dv v15 v16 (fun (v17 : Int32) => k60 v17)))) else (k60 1))) (fun x => x = if i = -1 then nI (z_chM H V l t ro) else if nI (z_chM H V l t ro) ≤ i then -2 else nI (z_chK H V l t ro pl i.toInt.toNat)) := by
  intro v3 h3
  have hl : l < 5 := by omega
  have hv := g.2.2.hv hl
  have hvt := g.2.2.hv ht
  have hps := g.2.2.pos l hl
  have hpt := g.2.2.pos t ht
  have hd := g.2.2.dvd t ht l hlt
  have q1 := z_quot hd.1 hps.1 hpt.1
  have q2 := z_quot hd.2 hps.2 hpt.2
  have hst := g.2.2.sh ht
  have hsl := g.2.2.sh hl
  obtain ⟨cz, cc1⟩ := z_capR hps.1 hr hp hk2
  obtain ⟨gl1, gl2, gl3, gl4⟩ := g.1 l hl
  obtain ⟨gt1, gt2, gt3, gt4⟩ := g.1 t ht
  have notle : ∀ {M : Nat}, M < 2 ^ 31 → (i < nI M ↔ ¬ nI M ≤ i) := by
    intro M hM
    rw [z_lt, z_le, nI_toInt hM]; omega
  rcases t_isCap g hl hk with ⟨c1, e1⟩ | ⟨c1, e1⟩
  · rw [h3] at e1
    cases e1
    have hc := cc1.mp c1
    have eM : z_chM H V l t ro = 1 := by unfold z_chM; rw [if_pos hc]
    rw [eM]
    refine Ok.j1 ?_
    rw [if_neg (by decide)]
    refine Ok.j1 ?_
    rw [if_neg (by decide)]
    dsimp only
    rw [show (1 : Int32) * 1 = nI 1 from rfl]
    by_cases d1 : i = -1
    · rw [if_pos d1, if_pos d1]; exact Ok.ret rfl
    rw [if_neg d1, if_neg d1]
    by_cases d2 : nI 1 ≤ i
    · rw [if_pos d2, if_neg (fun z => (notle (by omega)).mp z d2)]; exact Ok.ret rfl
    rw [if_neg d2, if_pos ((notle (by omega)).mpr d2), if_neg (by decide)]
    unfold z_chK
    by_cases h0 : ro = 0
    · rw [if_pos h0, if_pos (show nI k = 0 by rw [z_eq0 (by omega)]; exact cz.mpr h0)]; exact Ok.ret rfl
    · rw [if_neg h0, if_pos (show ro = 44 * H l + 1 by omega), if_neg (show ¬ nI k = 0 by rw [z_eq0 (by omega)]; exact fun z => h0 (cz.mp z)), m_sheets g ht, q_b1_s, z_sub1 (by omega)]
      exact Ok.ret rfl
  · rw [h3] at e1
    cases e1
    have hc : ¬ (ro = 0 ∨ ro = 44 * H l + 1) := fun z => c1 (cc1.mpr z)
    have eM : z_chM H V l t ro = H t / H l * (V t / V l) := by unfold z_chM; rw [if_neg hc]
    have mm : H t / H l * (V t / V l) ≤ 9390 * 9390 := Nat.mul_le_mul (by omega) (by omega)
    rw [eM]
    refine Ok.j1 ?_
    rw [if_pos rfl, z_ai ht (by omega), gt3, z_ai hl (by omega), gl3, z_dv (by omega) (by omega) (by omega)]
    refine Ok.j1 ?_
    rw [if_pos rfl, z_ai ht (by omega), gt4, z_ai hl (by omega), gl4, z_dv (by omega) (by omega) (by omega)]
    dsimp only
    rw [pk_mul]
    by_cases d1 : i = -1
    · rw [if_pos d1, if_pos d1]; exact Ok.ret rfl
    rw [if_neg d1, if_neg d1]
    by_cases d2 : nI (H t / H l * (V t / V l)) ≤ i
    · rw [if_pos d2, if_neg (fun z => (notle (by omega)).mp z d2)]; exact Ok.ret rfl
    rw [if_neg d2, if_pos ((notle (by omega)).mpr d2), if_pos rfl]
    obtain ⟨j, hj, rfl, hjj⟩ := l_idx (M := H t / H l * (V t / V l)) (by omega) hi d1 d2
    have hx : j / (V t / V l) < H t / H l := Nat.div_lt_of_lt_mul (by rw [Nat.mul_comm]; exact hj)
    have hm : j % (V t / V l) < V t / V l := Nat.mod_lt _ (by omega)
    obtain ⟨c3, c4⟩ := z_child g.2.2 hlt ht (ro := ro) (by omega) (by omega) hx
    have c5 : pl * (V t / V l) + j % (V t / V l) < z_rl (H t) (V t) (1 + (ro - 1) * (H t / H l) + j / (V t / V l)) := by
      rw [c4]
      have : (pl + 1) * (V t / V l) ≤ z_rl (H l) (V l) ro * (V t / V l) := Nat.mul_le_mul_right _ hp
      rw [Nat.succ_mul] at this
      omega
    obtain ⟨er, ep⟩ := m_placeOf (N := N) g hN hl hr (k := k) (by omega) (by omega)
    rw [er, q_b1_s, z_dv (by omega) (by omega) (by omega), ep, q_b1_s, z_rm (by omega) (by omega) (by omega), show k - z_rs (H l) (V l) ro = pl by omega, z_sub1 (by omega), pk_mul, z_i 1, nI_add, nI_add, pk_mul, nI_add, m_keyOf g ht (by omega) c5, q_b1_s]
    refine Ok.ret ?_
    unfold z_chK
    rw [if_neg (show ¬ ro = 0 by omega), if_neg (show ¬ ro = 44 * H l + 1 by omega), hjj]
def l_Cchild (sv : l_T) (p q w i : Int32) : Prop := z_hs (z_pr (l_R sv)) (z_pr (l_C sv)) p q ∧ (p.toInt ≤ w.toInt ∧ w.toInt ≤ 4) ∧ -1 ≤ i
def l_Schild (sv : l_T) (p q w : Int32) (s : (Nat × Nat × Nat × Nat) × Nat) : Prop := l_sp sv p q s.1 ∧ s.2 < 5 ∧ w = nI s.2
def l_Fchild (sv : l_T) (i : Int32) (s : (Nat × Nat × Nat × Nat) × Nat) : Int32 := if i = -1 then nI (z_chM (z_pr (l_R sv)) (z_pr (l_C sv)) s.1.1 s.2 s.1.2.2.1) else if nI (z_chM (z_pr (l_R sv)) (z_pr (l_C sv)) s.1.1 s.2 s.1.2.2.1) ≤ i then -2 else nI (z_chK (z_pr (l_R sv)) (z_pr (l_C sv)) s.1.1 s.2 s.1.2.2.1 s.1.2.2.2 i.toInt.toNat)
def l_achild (sv : l_T) (p q w i r : Int32) : Prop := l_rel (l_Cchild sv p q w i) (-1) (l_Schild sv p q w) (l_Fchild sv i) r
theorem l_achild_one {p q w i r r' : Int32} (h : l_ok sv) (h1 : l_achild sv p q w i r) (h2 : l_achild sv p q w i r') : r = r' := by
  refine l_rel_one ?_ h1 h2
  intro ⟨s, t⟩ ⟨s', t'⟩ ⟨a, b, c⟩ ⟨a', b', c'⟩
  have e := l_sp_one h s s' a a'
  have e2 : t = t' := by dsimp only at b b' c c'; rw [c, nI_eq (by omega) (by omega)] at c'; exact c'
  rw [e, e2]
theorem a_x_child (g : GOK (l_R sv) (l_C sv) (z_pr (l_R sv)) (z_pr (l_C sv)) rc cc br zc rw sh) (hN : 1000000 ≤ N) (a1 a2 a3 a4 a5 a6 p q w i : Int32) : Ok (f_X_child N a1 a2 a3 a4 a5 a6 br zc rw sh p q w i) (fun x => l_achild sv p q w i x.1) := by
  unfold f_X_child
  refine Ok.b1 (r_hasSheet g p q) (fun v1 h1 => ?_)
  rcases h1 with ⟨z, rfl⟩ | ⟨z, rfl⟩
  rotate_left
  · exact Ok.ite (fun _ => Ok.ret (l_relN (fun u => z u.1))) (fun c => absurd rfl c)
  refine Ok.ite (fun c => absurd c (by decide)) (fun _ => Ok.b1 (s_isFrom w p 4) (fun v2 h2 => ?_))
  rw [show (4 : Int32).toInt = 4 from rfl] at h2
  refine Ok.ite (fun c => Ok.ret (l_relN (fun u => z_if0 h2 c u.2.1))) (fun c => ?_)
  have hw := z_if1 h2 c
  refine Ok.ite (fun hi => ?_) (fun hi => Ok.ret (l_relN (fun u => hi u.2.2)))
  have z' := z
  obtain ⟨l, k, hl, rfl, rfl, hk⟩ := z'
  have hw' := hw
  rw [nI_toInt (by omega)] at hw'
  obtain ⟨t, -, rfl, htt⟩ := z_nat (r := w) (by omega)
  have hlt : l ≤ t := by omega
  have ht : t < 5 := by omega
  have hs := g.2.sh hl
  have hv := g.2.hv hl
  have hvt := g.2.hv ht
  obtain ⟨ro, pl, e, d1, d2, d3⟩ := k_put (N := N) g (by omega) hl hk a1 a2 a3 a4 a5 a6
  have hsp : l_Schild sv (nI l) (nI k) (nI t) ((l, k, ro, pl), t) := ⟨⟨⟨hl, (show k < 20000000 by omega), d1, d2, d3⟩, rfl, rfl⟩, ht, rfl⟩
  have hb : z_chM (z_pr (l_R sv)) (z_pr (l_C sv)) l t ro < 2 ^ 31 := by
    have mm : z_pr (l_R sv) t / z_pr (l_R sv) l * (z_pr (l_C sv) t / z_pr (l_C sv) l) ≤ 9390 * 9390 := Nat.mul_le_mul (Nat.le_trans (Nat.div_le_self _ _) hvt.1) (Nat.le_trans (Nat.div_le_self _ _) hvt.2.1)
    unfold z_chM
    split <;> omega
  rw [e, q_b6_s, r_piecesAt g hlt ht, q_b1_s]
  refine Ok.ite (fun c1 => Ok.ret (l_relY ⟨z, hw, hi⟩ hsp ?_)) (fun c1 => ?_)
  · unfold l_Fchild; rw [if_pos c1]
  refine Ok.ite (fun c2 => Ok.ret (l_relY ⟨z, hw, hi⟩ hsp ?_)) (fun c2 => ?_)
  · unfold l_Fchild; rw [if_neg c1]; exact (if_pos c2).symm
  obtain ⟨j, hj, rfl, hjj⟩ := l_idx hb hi c1 c2
  rw [r_pieceAt g hlt ht d1 d2 hj, q_b1_s]
  refine Ok.ret (l_relY ⟨z, hw, hi⟩ hsp ?_)
  unfold l_Fchild
  rw [if_neg c1, hjj]
  exact (if_neg c2).symm
theorem a_m_child (g : MOK (l_R sv) (l_C sv) (z_pr (l_R sv)) (z_pr (l_C sv)) cr cq dp wd za) (hN : 1000000 ≤ N) (p q w i : Int32) : Ok (f_M_child N dp wd za p q w i) (fun x => l_achild sv p q w i x) := by
  unfold f_M_child
  refine Ok.b1 (r_isKey g p q) (fun v1 h1 => ?_)
  rcases h1 with ⟨z, rfl⟩ | ⟨z, rfl⟩
  rotate_left
  · exact Ok.ite (fun _ => Ok.ret (l_relN (fun u => z u.1))) (fun c => absurd rfl c)
  refine Ok.ite (fun c => absurd c (by decide)) (fun _ => Ok.b1 (t_in _ _ _) (fun v2 h2 => ?_))
  rw [z_toL, z_toL, show (4 : Int64).toInt = 4 from rfl] at h2
  refine Ok.ite (fun c => Ok.ret (l_relN (fun u => z_if0 h2 c u.2.1))) (fun c => ?_)
  have hw := z_if1 h2 c
  refine Ok.ite (fun hi => ?_) (fun hi => Ok.ret (l_relN (fun u => hi u.2.2)))
  have z' := z
  obtain ⟨l, k, hl, rfl, rfl, hk⟩ := z'
  have hw' := hw
  rw [nI_toInt (by omega)] at hw'
  obtain ⟨t, -, rfl, htt⟩ := z_nat (r := w) (by omega)
  have hlt : l ≤ t := by omega
  have ht : t < 5 := by omega
  have hs := g.2.2.sh hl
  obtain ⟨ro, pl, d1, d2, d3, -, -⟩ := t_spot (N := N) g (by omega) hl hk
  have hsp : l_Schild sv (nI l) (nI k) (nI t) ((l, k, ro, pl), t) := ⟨⟨⟨hl, (show k < 20000000 by omega), d1, d2, d3⟩, rfl, rfl⟩, ht, rfl⟩
  obtain ⟨v3, h3⟩ : ∃ v3, f_M_isCap dp wd za (nI l) (nI k) = some v3 := by
    rcases t_isCap g hl hk with ⟨-, e⟩ | ⟨-, e⟩ <;> exact ⟨_, e⟩
  rw [h3, q_b1_s]
  exact Ok.weak (r_m_child (N := N) g (by omega) hlt ht hk d1 d2 d3 hi v3 h3) (fun r hr => l_relY ⟨z, hw, hi⟩ hsp hr)
end S7A
end
section
/-! answers: middle, edge -/
section S8A
variable {R C H V : Nat → Nat} {rc cc br zc rw sh cr cq dp wd za : Nat → Int32} {sv : l_T} {N l t : Nat}
/-- the edges' tops (0 south, 1 north, 2 west, 3 east), their bottoms -/
def z_eT (H : Nat → Nat) (l ro pl e : Nat) : Int := if e = 0 then (if ro = 0 then 316800 else if ro = 44 * H l + 1 then -324000 else 14400 * (22 * (H l : Int) - ro)) else if e = 1 then (if ro = 0 then 324000 else if ro = 44 * H l + 1 then -316800 else 14400 * (22 * (H l : Int) - ro) + 14400) else if e = 2 then 1296000 * (pl : Int) else 1296000 * (pl : Int) + 1296000
def z_eB (H V : Nat → Nat) (l ro e : Nat) : Nat := if e < 2 then (if ro = 0 ∨ ro = 44 * H l + 1 then 1 else H l) else z_rl (H l) (V l) ro
theorem z_eT0 {H : Nat → Nat} {ro pl : Nat} : z_eT H l ro pl 0 = if ro = 0 then 316800 else if ro = 44 * H l + 1 then -324000 else 14400 * (22 * (H l : Int) - ro) := if_pos rfl
theorem z_eT1 {H : Nat → Nat} {ro pl : Nat} : z_eT H l ro pl 1 = if ro = 0 then 324000 else if ro = 44 * H l + 1 then -316800 else 14400 * (22 * (H l : Int) - ro) + 14400 := (if_neg (show ¬ (1 : Nat) = 0 by omega)).trans (if_pos rfl)
theorem z_eT2 {H : Nat → Nat} {ro pl : Nat} : z_eT H l ro pl 2 = 1296000 * (pl : Int) := (if_neg (show ¬ (2 : Nat) = 0 by omega)).trans ((if_neg (show ¬ (2 : Nat) = 1 by omega)).trans (if_pos rfl))
theorem z_eT3 {H : Nat → Nat} {ro pl : Nat} : z_eT H l ro pl 3 = 1296000 * (pl : Int) + 1296000 := (if_neg (show ¬ (3 : Nat) = 0 by omega)).trans ((if_neg (show ¬ (3 : Nat) = 1 by omega)).trans (if_neg (show ¬ (3 : Nat) = 2 by omega)))
theorem z_eBlo {H V : Nat → Nat} {ro e : Nat} (h : e < 2) : z_eB H V l ro e = if ro = 0 ∨ ro = 44 * H l + 1 then 1 else H l := if_pos h
theorem z_eBhi {H V : Nat → Nat} {ro e : Nat} (h : ¬ e < 2) : z_eB H V l ro e = z_rl (H l) (V l) ro := if_neg h
theorem z_capY {H0 ro : Nat} (h : ro = 0 ∨ ro = 44 * H0 + 1) : z_cap H0 ro = 1 := if_pos h
theorem z_capN {H0 ro : Nat} (h : ¬ (ro = 0 ∨ ro = 44 * H0 + 1)) : z_cap H0 ro = 0 := if_neg h
theorem z_updLS {f : Nat → Int64} {k : Nat} {x : Int64} : vp_updL f k x k = x := if_pos rfl
theorem z_updLN {f : Nat → Int64} {k j : Nat} {x : Int64} (h : j ≠ k) : vp_updL f k x j = f j := if_neg h
theorem z_toL64 {n : Nat} (h : n < 2 ^ 31) : (nI n).toInt64 = lN n := by
  apply Int64.toInt_inj.mp
  rw [z_i64 h, lN_toInt h]
theorem z_ofI64 {x : Int64} {z : Int} (h : x.toInt = z) : x = Int64.ofInt z := by
  rw [← h, Int64.ofInt_toInt]
theorem z_ofT {z : Int} (h1 : -9223372036854775808 ≤ z) (h2 : z < 9223372036854775808) : (Int64.ofInt z).toInt = z := Int64.toInt_ofInt_of_le (by omega) (by omega)
theorem z_eTb {H0 : Nat → Nat} {ro pl e : Nat} (hH : H0 l ≤ 9390) (hr : ro ≤ 44 * H0 l + 1) (hp : pl ≤ 563400) : -1000000000000 ≤ z_eT H0 l ro pl e ∧ z_eT H0 l ro pl e ≤ 1000000000000 := by
  unfold z_eT
  split
  · split
    · omega
    · split <;> omega
  · split
    · split
      · omega
      · split <;> omega
    · split <;> omega
theorem z_eBb (g : CUT R C H V) (hl : l < 5) {ro e : Nat} (hr : ro ≤ 44 * H l + 1) : 1 ≤ z_eB H V l ro e ∧ z_eB H V l ro e ≤ 563400 := by
  have hv := g.hv hl
  have hps := g.pos l hl
  have la := z_rl_pos (V := V l) hps.1 hps.2 hr
  unfold z_eB
  split
  · split <;> omega
  · omega
theorem r_edgeTop (g : GOK R C H V rc cc br zc rw sh) (hl : l < 5) {ro pl e : Nat} (hr : ro ≤ 44 * H l + 1) (hp : pl < z_rl (H l) (V l) ro) (he : e < 4) : f_Spot_edgeTop (nI l) (nI ro) (nI pl) (z_cap (H l) ro) br (nI e) = some (Int64.ofInt (z_eT H l ro pl e)) := by
  have hv := g.2.hv hl
  have hps := g.2.pos l hl
  have la := z_rl_pos (V := V l) hps.1 hps.2 hr
  have t1 : (14400 : Int64).toInt = 14400 := rfl
  have t2 : (1296000 : Int64).toInt = 1296000 := rfl
  have t3 : (22 : Int64).toInt = 22 := rfl
  have t4 : (1 : Int64).toInt = 1 := rfl
  unfold f_Spot_edgeTop
  rcases (show e = 0 ∨ e = 1 ∨ e = 2 ∨ e = 3 by omega) with rfl | rfl | rfl | rfl
  · rw [z_eT0, if_pos (show nI 0 < 2 by decide)]
    by_cases hc : ro = 0 ∨ ro = 44 * H l + 1
    · rw [z_capY hc, if_neg (show ¬ (1 : Int32) = 0 by decide), z_j1]
      by_cases h0 : ro = 0
      · rw [if_pos h0, if_pos (show nI ro = 0 by rw [h0]; rfl)]
        dsimp only
        rw [if_pos (show nI 0 = 0 from rfl)]; rfl
      · rw [if_neg h0, if_pos (show ro = 44 * H l + 1 by omega), if_neg (show ¬ nI ro = 0 by rw [z_eq0 (by omega)]; exact h0)]
        dsimp only
        rw [if_pos (show nI 0 = 0 from rfl)]; rfl
    · have b1 : ((22 : Int64) * lN (H l)).toInt = 22 * (H l : Int) := by
        rw [fb_mulL (by rw [t3, lN_toInt (by omega)]; omega) (by rw [t3, lN_toInt (by omega)]; omega), t3, lN_toInt (by omega)]
      have b2 : ((22 : Int64) * lN (H l) - lN ro).toInt = 22 * (H l : Int) - ro := by
        rw [fb_subL (by rw [b1, lN_toInt (by omega)]; omega) (by rw [b1, lN_toInt (by omega)]; omega), b1, lN_toInt (by omega)]
      rw [z_capN hc, if_pos (show (0 : Int32) = 0 from rfl), z_ai hl (by omega), (g.at hl).2.2.1, z_nm, z_toL64 (by omega), z_toL64 (by omega), if_pos (show nI 0 = 0 from rfl), if_neg (show ¬ ro = 0 by omega), if_neg (show ¬ ro = 44 * H l + 1 by omega)]
      refine z_some (z_ofI64 ?_)
      rw [fb_mulL (by rw [t1, b2]; omega) (by rw [t1, b2]; omega), t1, b2]
  · rw [z_eT1, if_pos (show nI 1 < 2 by decide)]
    by_cases hc : ro = 0 ∨ ro = 44 * H l + 1
    · rw [z_capY hc, if_neg (show ¬ (1 : Int32) = 0 by decide), z_j1]
      by_cases h0 : ro = 0
      · rw [if_pos h0, if_pos (show nI ro = 0 by rw [h0]; rfl)]
        dsimp only
        rw [if_neg (show ¬ nI 1 = 0 by decide)]; rfl
      · rw [if_neg h0, if_pos (show ro = 44 * H l + 1 by omega), if_neg (show ¬ nI ro = 0 by rw [z_eq0 (by omega)]; exact h0)]
        dsimp only
        rw [if_neg (show ¬ nI 1 = 0 by decide)]; rfl
    · have b1 : ((22 : Int64) * lN (H l)).toInt = 22 * (H l : Int) := by
        rw [fb_mulL (by rw [t3, lN_toInt (by omega)]; omega) (by rw [t3, lN_toInt (by omega)]; omega), t3, lN_toInt (by omega)]
      have b2 : ((22 : Int64) * lN (H l) - lN ro).toInt = 22 * (H l : Int) - ro := by
        rw [fb_subL (by rw [b1, lN_toInt (by omega)]; omega) (by rw [b1, lN_toInt (by omega)]; omega), b1, lN_toInt (by omega)]
      have b3 : ((22 : Int64) * lN (H l) - lN ro + 1).toInt = 22 * (H l : Int) - ro + 1 := by
        rw [fb_addL (by rw [b2, t4]; omega) (by rw [b2, t4]; omega), b2, t4]
      rw [z_capN hc, if_pos (show (0 : Int32) = 0 from rfl), z_ai hl (by omega), (g.at hl).2.2.1, z_nm, z_toL64 (by omega), z_toL64 (by omega), if_neg (show ¬ nI 1 = 0 by decide), if_neg (show ¬ ro = 0 by omega), if_neg (show ¬ ro = 44 * H l + 1 by omega)]
      refine z_some (z_ofI64 ?_)
      rw [fb_mulL (by rw [t1, b3]; omega) (by rw [t1, b3]; omega), t1, b3]
      omega
  · rw [z_eT2, if_neg (show ¬ nI 2 < 2 by decide), if_pos (show nI 2 = 2 from rfl), z_toL64 (by omega)]
    refine z_some (z_ofI64 ?_)
    rw [fb_mulL (by rw [t2, lN_toInt (by omega)]; omega) (by rw [t2, lN_toInt (by omega)]; omega), t2, lN_toInt (by omega)]
  · rw [z_eT3, if_neg (show ¬ nI 3 < 2 by decide), if_neg (show ¬ nI 3 = 2 by decide), nI_1, z_toL64 (by omega)]
    refine z_some (z_ofI64 ?_)
    rw [fb_mulL (by rw [t2, lN_toInt (by omega)]; omega) (by rw [t2, lN_toInt (by omega)]; omega), t2, lN_toInt (by omega)]
    omega
theorem r_edgeBottom (g : GOK R C H V rc cc br zc rw sh) (hl : l < 5) {ro e : Nat} (hr : ro ≤ 44 * H l + 1) (he : e < 4) : f_Spot_edgeBottom (nI l) (nI (z_rl (H l) (V l) ro)) (z_cap (H l) ro) br (nI e) = some (lN (z_eB H V l ro e)) := by
  have hv := g.2.hv hl
  have hps := g.2.pos l hl
  have la := z_rl_pos (V := V l) hps.1 hps.2 hr
  unfold f_Spot_edgeBottom
  by_cases c : e < 2
  · rw [z_eBlo c, z_i 2, if_pos (show nI e < nI 2 by rw [nI_ltI (by omega) (by omega)]; exact c)]
    by_cases hc : ro = 0 ∨ ro = 44 * H l + 1
    · rw [if_pos hc, z_capY hc, if_neg (show ¬ (1 : Int32) = 0 by decide)]; rfl
    · rw [if_neg hc, z_capN hc, if_pos (show (0 : Int32) = 0 from rfl), z_ai hl (by omega), (g.at hl).2.2.1, z_toL64 (by omega)]
  · rw [z_eBhi c, z_i 2, if_neg (show ¬ nI e < nI 2 by rw [nI_ltI (by omega) (by omega)]; exact c), z_toL64 (by omega)]
/-- the reference's edges -/
theorem r_laysEdges (g : MOK R C H V cr cq dp wd za) (hN : 50 ≤ N) (hl : l < 5) {k ro pl : Nat} (hr : ro ≤ 44 * H l + 1) (hp : pl < z_rl (H l) (V l) ro) (hk2 : k = z_rs (H l) (V l) ro + pl) (bl bo : Int64) (ed : Nat → Int64) : Ok (f_M_laysEdges N dp wd za bl bo ed (nI l) (nI k)) (fun x => x.1 = lN (z_eB H V l ro 0) ∧ x.2.1 = lN (z_eB H V l ro 2) ∧ ∀ e, e < 4 → x.2.2 e = Int64.ofInt (z_eT H l ro pl e)) := by
  have hv := g.2.2.hv hl
  have hps := g.2.2.pos l hl
  have la := z_rl_pos (V := V l) hps.1 hps.2 hr
  have t1 : (14400 : Int64).toInt = 14400 := rfl
  have t2 : (1296000 : Int64).toInt = 1296000 := rfl
  have t3 : (316800 : Int64).toInt = 316800 := rfl
  obtain ⟨gl1, gl2, gl3, gl4⟩ := g.1 l hl
  obtain ⟨er, ep⟩ := m_placeOf (N := N) g hN hl hr (k := k) (by omega) (by omega)
  unfold f_M_laysEdges
  rw [er, q_b1_s, z_i 2, z_asl (by omega) (by omega), z_i 3, z_asl (by omega) (by omega)]
  by_cases h0 : ro = 0
  · have el : z_rl (H l) (V l) ro = 1 := (z_rl1 hps.1 hps.2 hr).mpr (Or.inl h0)
    rw [if_pos (show nI ro = 0 by rw [h0]; rfl), show (0 : Int32) = nI 0 from rfl, z_asl (by omega) (by omega), z_i 1, z_asl (by omega) (by omega)]
    refine Ok.ret ⟨?_, ?_, fun e he => ?_⟩
    · rw [z_eBlo (by omega), if_pos (Or.inl h0)]; rfl
    · rw [z_eBhi (by omega), el]; rfl
    · have e0 : pl = 0 := by omega
      dsimp only
      rcases (show e = 0 ∨ e = 1 ∨ e = 2 ∨ e = 3 by omega) with rfl | rfl | rfl | rfl
      · rw [z_updLN (by omega), z_updLS, z_eT0, if_pos h0]; rfl
      · rw [z_updLS, z_eT1, if_pos h0]; rfl
      · rw [z_updLN (by omega), z_updLN (by omega), z_updLN (by omega), z_updLS, z_eT2, e0]; rfl
      · rw [z_updLN (by omega), z_updLN (by omega), z_updLS, z_eT3, e0]; rfl
  rw [if_neg (show ¬ nI ro = 0 by rw [z_eq0 (by omega)]; exact h0), m_lastRow g hl, q_b1_s]
  by_cases h1 : ro = 44 * H l + 1
  · have el : z_rl (H l) (V l) ro = 1 := (z_rl1 hps.1 hps.2 hr).mpr (Or.inr h1)
    rw [if_pos (show nI ro = nI (44 * H l + 1) by rw [h1]), show (0 : Int32) = nI 0 from rfl, z_asl (by omega) (by omega), z_i 1, z_asl (by omega) (by omega)]
    refine Ok.ret ⟨?_, ?_, fun e he => ?_⟩
    · rw [z_eBlo (by omega), if_pos (Or.inr h1)]; rfl
    · rw [z_eBhi (by omega), el]; rfl
    · have e0 : pl = 0 := by omega
      dsimp only
      rcases (show e = 0 ∨ e = 1 ∨ e = 2 ∨ e = 3 by omega) with rfl | rfl | rfl | rfl
      · rw [z_updLN (by omega), z_updLS, z_eT0, if_neg h0, if_pos h1]; rfl
      · rw [z_updLS, z_eT1, if_neg h0, if_pos h1]; rfl
      · rw [z_updLN (by omega), z_updLN (by omega), z_updLN (by omega), z_updLS, z_eT2, e0]; rfl
      · rw [z_updLN (by omega), z_updLN (by omega), z_updLS, z_eT3, e0]; rfl
  rw [if_neg (show ¬ nI ro = nI (44 * H l + 1) by rw [nI_eq (by omega) (by omega)]; exact h1), z_ai hl (by omega), gl3, z_nm, m_many g hl hr, q_b1_s, z_nm, z_ai hl (by omega), gl3, z_i 1, z_asl (by omega) (by omega), z_al (by omega) (by omega), z_updLS, show (0 : Int32) = nI 0 from rfl, z_asl (by omega) (by omega), ep, q_b1_s, z_asl (by omega) (by omega), z_al (by omega) (by omega), z_updLS, z_asl (by omega) (by omega), show k - z_rs (H l) (V l) ro = pl by omega, pk_sub (show 1 ≤ ro by omega), z_toL64 (by omega), z_toL64 (by omega), z_toL64 (by omega), z_toL64 (by omega)]
  have b1 : ((316800 : Int64) * lN (H l)).toInt = 316800 * (H l : Int) := by
    rw [fb_mulL (by rw [t3, lN_toInt (by omega)]; omega) (by rw [t3, lN_toInt (by omega)]; omega), t3, lN_toInt (by omega)]
  have b2 : ((14400 : Int64) * lN (ro - 1)).toInt = 14400 * ((ro - 1 : Nat) : Int) := by
    rw [fb_mulL (by rw [t1, lN_toInt (by omega)]; omega) (by rw [t1, lN_toInt (by omega)]; omega), t1, lN_toInt (by omega)]
  have b3 : ((316800 : Int64) * lN (H l) - 14400 * lN (ro - 1)).toInt = 316800 * (H l : Int) - 14400 * ((ro - 1 : Nat) : Int) := by
    rw [fb_subL (by rw [b1, b2]; omega) (by rw [b1, b2]; omega), b1, b2]
  have b4 : ((1296000 : Int64) * lN pl).toInt = 1296000 * (pl : Int) := by
    rw [fb_mulL (by rw [t2, lN_toInt (by omega)]; omega) (by rw [t2, lN_toInt (by omega)]; omega), t2, lN_toInt (by omega)]
  refine Ok.ret ⟨?_, ?_, fun e he => ?_⟩
  · rw [z_eBlo (by omega), if_neg (show ¬ (ro = 0 ∨ ro = 44 * H l + 1) by omega)]
  · rw [z_eBhi (by omega)]
  · dsimp only
    rcases (show e = 0 ∨ e = 1 ∨ e = 2 ∨ e = 3 by omega) with rfl | rfl | rfl | rfl
    · rw [z_updLN (by omega), z_updLN (by omega), z_updLS, z_eT0, if_neg h0, if_neg h1]
      refine z_ofI64 ?_
      rw [fb_subL (by rw [b3, t1]; omega) (by rw [b3, t1]; omega), b3, t1]
      omega
    · rw [z_updLN (by omega), z_updLN (by omega), z_updLN (by omega), z_updLS, z_eT1, if_neg h0, if_neg h1]
      refine z_ofI64 ?_
      rw [b3]
      omega
    · rw [z_updLN (by omega), z_updLS, z_eT2]
      exact z_ofI64 b4
    · rw [z_updLS, z_eT3]
      refine z_ofI64 ?_
      rw [fb_addL (by rw [b4, t2]; omega) (by rw [b4, t2]; omega), b4, t2]
theorem m_down {a b : Int64} (hb : 0 < b.toInt) (h1 : -4611686018427387904 ≤ a.toInt) (h2 : a.toInt < 4611686018427387904) (h3 : b.toInt < 4611686018427387904) : f_M_down a b = some (Int64.ofInt (a.toInt / b.toInt)) := by
  have hb0 : ¬ b = 0 := by
    intro h; rw [h] at hb; exact absurd hb (by decide)
  have hb1 : b ≠ -1 := by
    intro h; rw [h] at hb; exact absurd hb (by decide)
  unfold f_M_down q_dvl
  rw [if_neg hb0]
  by_cases ha : 0 ≤ a.toInt
  · rw [if_pos (z_lcmp0.mpr ha)]
    have hd : (a / b).toInt = a.toInt.tdiv b.toInt := Int64.toInt_div_of_ne_right a b hb1
    rw [Int.tdiv_eq_ediv_of_nonneg ha] at hd
    exact z_some (z_ofI64 hd)
  · rw [if_neg (fun z => ha (z_lcmp0.mp z)), if_neg hb0]
    have t1 : (1 : Int64).toInt = 1 := rfl
    have e1 : (b - 1).toInt = b.toInt - 1 := by rw [fb_subL (by rw [t1]; omega) (by rw [t1]; omega), t1]
    have e2 : (b - 1 - a).toInt = b.toInt - 1 - a.toInt := by rw [fb_subL (by rw [e1]; omega) (by rw [e1]; omega), e1]
    have hd : ((b - 1 - a) / b).toInt = (b - 1 - a).toInt.tdiv b.toInt := Int64.toInt_div_of_ne_right _ b hb1
    rw [Int.tdiv_eq_ediv_of_nonneg (by omega), e2] at hd
    have q0 : 0 ≤ (b.toInt - 1 - a.toInt) / b.toInt := Int.ediv_nonneg (by omega) (by omega)
    have q1 := Int.mul_ediv_add_emod (b.toInt - 1 - a.toInt) b.toInt
    have q2 := Int.emod_nonneg (b.toInt - 1 - a.toInt) (show b.toInt ≠ 0 by omega)
    have q3 := Int.emod_lt_of_pos (b.toInt - 1 - a.toInt) hb
    have q4 : (b.toInt - 1 - a.toInt) / b.toInt ≤ b.toInt - 1 - a.toInt := Int.ediv_le_self _ (by omega)
    have key : a.toInt / b.toInt = -((b.toInt - 1 - a.toInt) / b.toInt) := by
      refine ((Int.ediv_emod_unique (r := b.toInt - 1 - (b.toInt - 1 - a.toInt) % b.toInt) hb).mpr ⟨?_, by omega, by omega⟩).1
      rw [Int.mul_neg]
      omega
    refine z_some (z_ofI64 ?_)
    rw [key, Int64.toInt_neg, hd, fb_bmodL (by omega) (by omega)]
/-- the middle's seconds -/
def z_mdl (H V : Nat → Nat) (l ro pl w : Nat) : Int32 := if ro = 0 ∨ ro = 44 * H l + 1 then (if w = 0 then (if ro = 0 then 324000 else -324000) else 0) else (Int64.ofInt ((z_eT H l ro pl (2 * w) + z_eT H l ro pl (2 * w + 1)) / (2 * (z_eB H V l ro (2 * w) : Int)))).toInt32
theorem z_mdlQ (g : CUT R C H V) (hl : l < 5) {ro pl e : Nat} (hr : ro ≤ 44 * H l + 1) (hp : pl < z_rl (H l) (V l) ro) : (Int64.ofInt (z_eT H l ro pl e) + Int64.ofInt (z_eT H l ro pl (e + 1))).toInt = z_eT H l ro pl e + z_eT H l ro pl (e + 1) ∧ ((2 : Int64) * lN (z_eB H V l ro e)).toInt = 2 * (z_eB H V l ro e : Int) ∧ 0 < 2 * (z_eB H V l ro e : Int) ∧ 2 * (z_eB H V l ro e : Int) ≤ 1126800 := by
  have hv := g.hv hl
  have hps := g.pos l hl
  have la := z_rl_pos (V := V l) hps.1 hps.2 hr
  have b1 := z_eTb (l := l) (H0 := H) (ro := ro) (pl := pl) (e := e) hv.1 hr (by omega)
  have b2 := z_eTb (l := l) (H0 := H) (ro := ro) (pl := pl) (e := e + 1) hv.1 hr (by omega)
  have b3 := z_eBb g hl (ro := ro) (e := e) hr
  have t2 : (2 : Int64).toInt = 2 := rfl
  refine ⟨?_, ?_, by omega, by omega⟩
  · rw [fb_addL (by rw [z_ofT (by omega) (by omega), z_ofT (by omega) (by omega)]; omega) (by rw [z_ofT (by omega) (by omega), z_ofT (by omega) (by omega)]; omega), z_ofT (by omega) (by omega), z_ofT (by omega) (by omega)]
  · rw [fb_mulL (by rw [t2, lN_toInt (by omega)]; omega) (by rw [t2, lN_toInt (by omega)]; omega), t2, lN_toInt (by omega)]
theorem z_mdlC0 {H V : Nat → Nat} {ro pl : Nat} (h : ro = 0 ∨ ro = 44 * H l + 1) : z_mdl H V l ro pl 0 = if ro = 0 then 324000 else -324000 := (if_pos h).trans (if_pos rfl)
theorem z_mdlC1 {H V : Nat → Nat} {ro pl : Nat} (h : ro = 0 ∨ ro = 44 * H l + 1) : z_mdl H V l ro pl 1 = 0 := (if_pos h).trans (if_neg (show ¬ (1 : Nat) = 0 by omega))
theorem z_mdlN {H V : Nat → Nat} {ro pl w : Nat} (h : ¬ (ro = 0 ∨ ro = 44 * H l + 1)) : z_mdl H V l ro pl w = (Int64.ofInt ((z_eT H l ro pl (2 * w) + z_eT H l ro pl (2 * w + 1)) / (2 * (z_eB H V l ro (2 * w) : Int)))).toInt32 := if_neg h
theorem r_middleLat (g : GOK R C H V rc cc br zc rw sh) (hl : l < 5) {ro pl : Nat} (hr : ro ≤ 44 * H l + 1) (hp : pl < z_rl (H l) (V l) ro) : f_Spot_middleLat (nI l) (nI ro) (nI pl) (nI (z_rl (H l) (V l) ro)) (z_cap (H l) ro) br = some (z_mdl H V l ro pl 0) := by
  have hv := g.2.hv hl
  unfold f_Spot_middleLat
  by_cases hc : ro = 0 ∨ ro = 44 * H l + 1
  · rw [z_mdlC0 hc, z_capY hc, if_neg (show ¬ (1 : Int32) = 0 by decide)]
    by_cases h0 : ro = 0
    · rw [if_pos h0, if_pos (show nI ro = 0 by rw [h0]; rfl)]
    · rw [if_neg h0, if_neg (show ¬ nI ro = 0 by rw [z_eq0 (by omega)]; exact h0)]
  · obtain ⟨q1, q2, q3, q4⟩ := z_mdlQ g.2 hl (e := 0) hr hp
    have e0 := r_edgeTop g hl hr hp (e := 0) (by omega)
    have e1 := r_edgeTop g hl hr hp (e := 1) (by omega)
    have eb := r_edgeBottom g hl hr (e := 0) (by omega)
    rw [z_capN hc] at e0 e1 eb
    rw [z_mdlN hc, z_capN hc, if_pos (show (0 : Int32) = 0 from rfl), show f_Spot_edgeTop (nI l) (nI ro) (nI pl) 0 br 0 = _ from e0, q_b1_s, show f_Spot_edgeTop (nI l) (nI ro) (nI pl) 0 br 1 = _ from e1, q_b1_s, show f_Spot_edgeBottom (nI l) (nI (z_rl (H l) (V l) ro)) 0 br 0 = _ from eb, q_b1_s, k_floorDivL (by rw [q2]; exact q3), q_b1_s, q1, q2]
theorem r_middleLon (g : GOK R C H V rc cc br zc rw sh) (hl : l < 5) {ro pl : Nat} (hr : ro ≤ 44 * H l + 1) (hp : pl < z_rl (H l) (V l) ro) : f_Spot_middleLon (nI l) (nI ro) (nI pl) (nI (z_rl (H l) (V l) ro)) (z_cap (H l) ro) br = some (z_mdl H V l ro pl 1) := by
  have hv := g.2.hv hl
  unfold f_Spot_middleLon
  by_cases hc : ro = 0 ∨ ro = 44 * H l + 1
  · rw [z_mdlC1 hc, z_capY hc, if_neg (show ¬ (1 : Int32) = 0 by decide)]
  · obtain ⟨q1, q2, q3, q4⟩ := z_mdlQ g.2 hl (e := 2) hr hp
    have e0 := r_edgeTop g hl hr hp (e := 2) (by omega)
    have e1 := r_edgeTop g hl hr hp (e := 3) (by omega)
    have eb := r_edgeBottom g hl hr (e := 2) (by omega)
    rw [z_capN hc] at e0 e1 eb
    rw [z_mdlN hc, z_capN hc, if_pos (show (0 : Int32) = 0 from rfl), show f_Spot_edgeTop (nI l) (nI ro) (nI pl) 0 br 2 = _ from e0, q_b1_s, show f_Spot_edgeTop (nI l) (nI ro) (nI pl) 0 br 3 = _ from e1, q_b1_s, show f_Spot_edgeBottom (nI l) (nI (z_rl (H l) (V l) ro)) 0 br 2 = _ from eb, q_b1_s, k_floorDivL (by rw [q2]; exact q3), q_b1_s, q1, q2]
theorem r_middleOf (g : MOK R C H V cr cq dp wd za) (hN : 50 ≤ N) (hl : l < 5) {k ro pl w : Nat} (hk : k < 2130 * (H l * V l) + 2) (hr : ro ≤ 44 * H l + 1) (hp : pl < z_rl (H l) (V l) ro) (hk2 : k = z_rs (H l) (V l) ro + pl) (hw : w < 2) (bl bo : Int64) (ed : Nat → Int64) : Ok (f_M_middleOf N dp wd za bl bo ed (nI l) (nI k) (nI w)) (fun x => x.1 = z_mdl H V l ro pl w) := by
  have hv := g.2.2.hv hl
  have hps := g.2.2.pos l hl
  have hs := g.2.2.sh hl
  obtain ⟨cz, cc1⟩ := z_capR hps.1 hr hp hk2
  unfold f_M_middleOf
  rcases t_isCap g hl hk with ⟨c1, e1⟩ | ⟨c1, e1⟩
  · have hc := cc1.mp c1
    rw [e1, q_b1_s, if_neg (show ¬ (1 : Int32) = 0 by decide)]
    rcases (show w = 0 ∨ w = 1 by omega) with rfl | rfl
    · rw [if_neg (show ¬ nI 0 = 1 by decide), z_mdlC0 hc]
      by_cases h0 : ro = 0
      · rw [if_pos h0, if_pos (show nI k = 0 by rw [z_eq0 (by omega)]; exact cz.mpr h0)]; exact Ok.ret rfl
      · rw [if_neg h0, if_neg (show ¬ nI k = 0 by rw [z_eq0 (by omega)]; exact fun z => h0 (cz.mp z))]; exact Ok.ret rfl
    · rw [if_pos (show nI 1 = 1 from rfl), z_mdlC1 hc]; exact Ok.ret rfl
  · have hc : ¬ (ro = 0 ∨ ro = 44 * H l + 1) := fun z => c1 (cc1.mpr z)
    rw [e1, q_b1_s, if_pos (show (0 : Int32) = 0 from rfl), z_mdlN hc]
    refine Ok.b3 (r_laysEdges g hN hl hr hp hk2 bl bo ed) (fun v2 v3 f4 h => ?_)
    obtain ⟨h1, h2, h3⟩ := h
    dsimp only at h1 h2 h3
    rcases (show w = 0 ∨ w = 1 by omega) with rfl | rfl
    · obtain ⟨q1, q2, q3, q4⟩ := z_mdlQ g.2.2 hl (e := 0) hr hp
      have b1 := z_eTb (l := l) (H0 := H) (ro := ro) (pl := pl) (e := 0) hv.1 hr (by have := z_rl_pos (V := V l) hps.1 hps.2 hr; omega)
      have b2 := z_eTb (l := l) (H0 := H) (ro := ro) (pl := pl) (e := 0 + 1) hv.1 hr (by have := z_rl_pos (V := V l) hps.1 hps.2 hr; omega)
      rw [if_pos (show nI 0 = 0 from rfl), show (0 : Int32) = nI 0 from rfl, z_al (by omega) (by omega), z_i 1, z_al (by omega) (by omega), h3 0 (by omega), h3 1 (by omega), h1, m_down (by rw [q2]; exact q3) (by rw [q1]; omega) (by rw [q1]; omega) (by rw [q2]; omega), q_b1_s, q1, q2]
      exact Ok.ret rfl
    · obtain ⟨q1, q2, q3, q4⟩ := z_mdlQ g.2.2 hl (e := 2) hr hp
      have b1 := z_eTb (l := l) (H0 := H) (ro := ro) (pl := pl) (e := 2) hv.1 hr (by have := z_rl_pos (V := V l) hps.1 hps.2 hr; omega)
      have b2 := z_eTb (l := l) (H0 := H) (ro := ro) (pl := pl) (e := 2 + 1) hv.1 hr (by have := z_rl_pos (V := V l) hps.1 hps.2 hr; omega)
      rw [if_neg (show ¬ nI 1 = 0 by decide), z_i 2, z_al (by omega) (by omega), z_i 3, z_al (by omega) (by omega), h3 2 (by omega), h3 3 (by omega), h2, m_down (by rw [q2]; exact q3) (by rw [q1]; omega) (by rw [q1]; omega) (by rw [q2]; omega), q_b1_s, q1, q2]
      exact Ok.ret rfl
/-! middle -/
def l_Cmiddle (sv : l_T) (p q w : Int32) : Prop := z_hs (z_pr (l_R sv)) (z_pr (l_C sv)) p q ∧ (0 ≤ w.toInt ∧ w.toInt ≤ 1)
def l_Fmiddle (sv : l_T) (w : Int32) (s : Nat × Nat × Nat × Nat) : Int32 := z_mdl (z_pr (l_R sv)) (z_pr (l_C sv)) s.1 s.2.2.1 s.2.2.2 w.toInt.toNat
def l_amiddle (sv : l_T) (p q w r : Int32) : Prop := l_rel (l_Cmiddle sv p q w) (-1000000) (l_sp sv p q) (l_Fmiddle sv w) r
theorem l_amiddle_one {p q w r r' : Int32} (h : l_ok sv) (h1 : l_amiddle sv p q w r) (h2 : l_amiddle sv p q w r') : r = r' := l_rel_one (l_sp_one h) h1 h2
theorem a_x_middle (g : GOK (l_R sv) (l_C sv) (z_pr (l_R sv)) (z_pr (l_C sv)) rc cc br zc rw sh) (hN : 1000000 ≤ N) (a1 a2 a3 a4 a5 a6 p q w : Int32) : Ok (f_X_middle N a1 a2 a3 a4 a5 a6 br zc rw sh p q w) (fun x => l_amiddle sv p q w x.1) := by
  unfold f_X_middle
  refine Ok.b1 (r_hasSheet g p q) (fun v1 h1 => ?_)
  rcases h1 with ⟨z, rfl⟩ | ⟨z, rfl⟩
  rotate_left
  · exact Ok.ite (fun _ => Ok.ret (l_relN (fun u => z u.1))) (fun c => absurd rfl c)
  refine Ok.ite (fun c => absurd c (by decide)) (fun _ => Ok.b1 (s_isFrom w 0 1) (fun v2 h2 => ?_))
  rw [show (0 : Int32).toInt = 0 from rfl, show (1 : Int32).toInt = 1 from rfl] at h2
  refine Ok.ite (fun c => Ok.ret (l_relN (fun u => z_if0 h2 c u.2))) (fun c => ?_)
  have hw := z_if1 h2 c
  have z' := z
  obtain ⟨l, k, hl, rfl, rfl, hk⟩ := z'
  obtain ⟨j, -, rfl, hjj⟩ := z_nat (r := w) (by omega)
  have hs := g.2.sh hl
  obtain ⟨ro, pl, e, d1, d2, d3⟩ := k_put (N := N) g (by omega) hl hk a1 a2 a3 a4 a5 a6
  have hsp : l_sp sv (nI l) (nI k) (l, k, ro, pl) := ⟨⟨hl, (show k < 20000000 by omega), d1, d2, d3⟩, rfl, rfl⟩
  rw [e, q_b6_s]
  rcases (show j = 0 ∨ j = 1 by omega) with rfl | rfl
  · rw [if_pos (show nI 0 = 0 from rfl), r_middleLat g hl d1 d2, q_b1_s]
    exact Ok.ret (l_relY ⟨z, hw⟩ hsp rfl)
  · rw [if_neg (show ¬ nI 1 = 0 by decide), r_middleLon g hl d1 d2, q_b1_s]
    exact Ok.ret (l_relY ⟨z, hw⟩ hsp rfl)
theorem a_m_middle (g : MOK (l_R sv) (l_C sv) (z_pr (l_R sv)) (z_pr (l_C sv)) cr cq dp wd za) (hN : 1000000 ≤ N) (bl bo : Int64) (ed : Nat → Int64) (p q w : Int32) : Ok (f_M_middle N dp wd za bl bo ed p q w) (fun x => l_amiddle sv p q w x.1) := by
  unfold f_M_middle
  refine Ok.b1 (r_isKey g p q) (fun v1 h1 => ?_)
  rcases h1 with ⟨z, rfl⟩ | ⟨z, rfl⟩
  rotate_left
  · exact Ok.ite (fun _ => Ok.ret (l_relN (fun u => z u.1))) (fun c => absurd rfl c)
  refine Ok.ite (fun c => absurd c (by decide)) (fun _ => Ok.b1 (t_in _ _ _) (fun v2 h2 => ?_))
  rw [z_toL, show (0 : Int64).toInt = 0 from rfl, show (1 : Int64).toInt = 1 from rfl] at h2
  refine Ok.ite (fun c => Ok.ret (l_relN (fun u => z_if0 h2 c u.2))) (fun c => ?_)
  have hw := z_if1 h2 c
  have z' := z
  obtain ⟨l, k, hl, rfl, rfl, hk⟩ := z'
  obtain ⟨j, -, rfl, hjj⟩ := z_nat (r := w) (by omega)
  have hs := g.2.2.sh hl
  obtain ⟨ro, pl, d1, d2, d3, -, -⟩ := t_spot (N := N) g (by omega) hl hk
  have hsp : l_sp sv (nI l) (nI k) (l, k, ro, pl) := ⟨⟨hl, (show k < 20000000 by omega), d1, d2, d3⟩, rfl, rfl⟩
  have hj : (nI j).toInt.toNat = j := by rw [hjj]; rfl
  refine Ok.b4 (r_middleOf (N := N) g (by omega) hl hk d1 d2 d3 (w := j) (by omega) bl bo ed) (fun v3 v4 v5 f6 h3 => Ok.ret (l_relY ⟨z, hw⟩ hsp ?_))
  dsimp only at h3
  rw [h3]
  unfold l_Fmiddle
  rw [hj]
/-! edge: the common divisor of both sides -/
theorem z_gcdI {a b : Nat} (ha : a < 2 ^ 62) (hb : b < 2 ^ 31) (h0 : b ≠ 0) {β : Type} {k : Int64 → Option β} : q_rml (lN a) (lN b) k = k (lN (a % b)) := z_rml (by omega) (by omega) (by omega)
theorem z_cmp0N {b : Nat} (hb : b < 2 ^ 31) : lg_cmp (lN b) 0 = 0 ↔ b = 0 := by
  rw [z_lcmpE, show (0 : Int64) = lN 0 from rfl, lN_eq hb (by omega)]
theorem r_gcdM_L : ∀ n a b, a < 2 ^ 62 → b < 2 ^ 31 → b < n → f_M_common_L17 n (lN a) (lN b) = some (lN (Nat.gcd a b)) := by
  intro n
  induction n with
  | zero => intro a b h1 h2 h3; omega
  | succ n ih =>
    intro a b h1 h2 h3
    unfold f_M_common_L17
    by_cases c : b = 0
    · rw [if_pos ((z_cmp0N h2).mpr c), c, Nat.gcd_zero_right]
    · have hm : a % b < b := Nat.mod_lt _ (by omega)
      rw [if_neg (fun z => c ((z_cmp0N h2).mp z)), z_gcdI h1 h2 c, ih b (a % b) (by omega) (by omega) (by omega), Nat.gcd_comm a b, Nat.gcd_rec b a, Nat.gcd_comm]
theorem r_gcdX_L : ∀ m n a b i, a < 2 ^ 62 → b < 2 ^ 31 → i + 2 * m + 2 ≤ 200 → b < 2 ^ m → b ≤ a → 2 * m + 2 < n → f_X_commonDivisor_L9 n (lN a) (lN b) (nI i) = some (lN (Nat.gcd a b)) := by
  intro m
  induction m with
  | zero =>
    intro n a b i h1 h2 h3 h4 h5 h6
    obtain ⟨n, rfl⟩ : ∃ k, n = k + 1 := ⟨n - 1, by omega⟩
    have hb : b = 0 := by omega
    unfold f_X_commonDivisor_L9
    rw [if_neg (by rw [z_i 200, nI_leI (by omega) (by omega)]; omega), if_pos ((z_cmp0N h2).mpr hb), hb, Nat.gcd_zero_right]
  | succ m ih =>
    intro n a b i h1 h2 h3 h4 h5 h6
    obtain ⟨n, rfl⟩ : ∃ k, n = k + 1 + 1 := ⟨n - 2, by omega⟩
    unfold f_X_commonDivisor_L9
    rw [if_neg (by rw [z_i 200, nI_leI (by omega) (by omega)]; omega)]
    by_cases c : b = 0
    · rw [if_pos ((z_cmp0N h2).mpr c), c, Nat.gcd_zero_right]
    · have hm : a % b < b := Nat.mod_lt _ (by omega)
      rw [if_neg (fun z => c ((z_cmp0N h2).mp z)), z_gcdI h1 h2 c, nI_1, z_nm]
      unfold f_X_commonDivisor_L9
      rw [if_neg (by rw [z_i 200, nI_leI (by omega) (by omega)]; omega)]
      have e1 : Nat.gcd b (a % b) = Nat.gcd a b := by rw [Nat.gcd_comm a b, Nat.gcd_rec b a, Nat.gcd_comm]
      by_cases c2 : a % b = 0
      · rw [if_pos ((z_cmp0N (by omega)).mpr c2), ← e1, c2, Nat.gcd_zero_right]
      · have hm2 : b % (a % b) < a % b := Nat.mod_lt _ (by omega)
        have hh : b % (a % b) + a % b ≤ b := by
          have h7 := Nat.div_add_mod b (a % b)
          have h8 : 1 ≤ b / (a % b) := Nat.div_pos (by omega) (by omega)
          have h9 : (a % b) * 1 ≤ (a % b) * (b / (a % b)) := Nat.mul_le_mul_left _ h8
          omega
        have h10 : 2 ^ (m + 1) = 2 * 2 ^ m := by rw [Nat.pow_succ, Nat.mul_comm]
        have e2 : Nat.gcd (a % b) (b % (a % b)) = Nat.gcd b (a % b) := by rw [Nat.gcd_comm b (a % b), Nat.gcd_rec (a % b) b, Nat.gcd_comm]
        rw [if_neg (fun z => c2 ((z_cmp0N (by omega)).mp z)), z_gcdI (by omega) (by omega) c2, nI_1, z_nm, ih n (a % b) (b % (a % b)) (i + 1 + 1) (by omega) (by omega) (by omega) (by omega) (by omega) (by omega), e2, e1]
theorem z_gcd1 {a b : Nat} (h0 : b ≠ 0) : Nat.gcd b (a % b) = Nat.gcd a b := by rw [Nat.gcd_comm a b, Nat.gcd_rec b a, Nat.gcd_comm]
theorem r_gcdX (hN : 1000000 ≤ N) {a b : Nat} (ha : a < 2 ^ 62) (h1 : 1 ≤ b) (hb : b < 2 ^ 20) : f_X_commonDivisor N (lN a) (lN b) = some (lN (Nat.gcd a b)) := by
  obtain ⟨n, rfl⟩ : ∃ k, N = k + 1 := ⟨N - 1, by omega⟩
  unfold f_X_commonDivisor
  rw [z_nm]
  have hm : a % b < b := Nat.mod_lt _ (by omega)
  have e : f_X_commonDivisor_L9 (n + 1) (lN a) (lN b) 0 = some (lN (Nat.gcd a b)) := by
    unfold f_X_commonDivisor_L9
    rw [if_neg (by decide), if_neg (fun z => absurd ((z_cmp0N (by omega)).mp z) (by omega)), z_gcdI ha (by omega) (by omega), show (0 : Int32) + 1 = nI 1 from rfl, z_nm, r_gcdX_L 20 n b (a % b) 1 (by omega) (by omega) (by omega) (by omega) (by omega) (by omega), z_gcd1 (by omega)]
  rw [e, q_b1_s]
theorem r_gcdM (hN : 1000000 ≤ N) {x : Int64} (hx : -1000000000000 ≤ x.toInt ∧ x.toInt ≤ 1000000000000) {b : Nat} (h1 : 1 ≤ b) (hb : b < 2 ^ 19 + 2 ^ 18) : f_M_common N x (lN b) = some (lN (Nat.gcd x.toInt.natAbs b)) := by
  unfold f_M_common
  rw [z_j1]
  have e : ∀ y : Int64, y.toInt = (x.toInt.natAbs : Int) → f_M_common_L17 N y (lN b) = some (lN (Nat.gcd x.toInt.natAbs b)) := by
    intro y hy
    have ey : y = lN x.toInt.natAbs := by
      apply Int64.toInt_inj.mp
      rw [hy]
      exact (lg_ofNat_toInt (by omega)).symm
    rw [ey, r_gcdM_L N _ b (by omega) (by omega) (by omega)]
  by_cases c : 0 ≤ x.toInt
  · rw [if_pos (z_lcmp0.mpr c)]
    dsimp only
    rw [e x (by omega), q_b1_s]
  · rw [if_neg (fun z => c (z_lcmp0.mp z))]
    dsimp only
    rw [e (-x) (by rw [Int64.toInt_neg, fb_bmodL (by omega) (by omega)]; omega), q_b1_s]
/-- a fraction's top and bottom in lowest terms -/
def z_frT (T : Int) (B : Nat) : Int64 := Int64.ofInt T / lN (Nat.gcd T.natAbs B)
def z_frB (T : Int) (B : Nat) : Int64 := lN B / lN (Nat.gcd T.natAbs B)
def l_Cedge (sv : l_T) (p q w : Int32) : Prop := z_hs (z_pr (l_R sv)) (z_pr (l_C sv)) p q ∧ (0 ≤ w.toInt ∧ w.toInt ≤ 7)
def l_Fedge (sv : l_T) (j : Nat) (s : Nat × Nat × Nat × Nat) : Int64 := if j % 2 = 0 then z_frT (z_eT (z_pr (l_R sv)) s.1 s.2.2.1 s.2.2.2 (j / 2)) (z_eB (z_pr (l_R sv)) (z_pr (l_C sv)) s.1 s.2.2.1 (j / 2)) else z_frB (z_eT (z_pr (l_R sv)) s.1 s.2.2.1 s.2.2.2 (j / 2)) (z_eB (z_pr (l_R sv)) (z_pr (l_C sv)) s.1 s.2.2.1 (j / 2))
def l_aedge (sv : l_T) (p q w : Int32) (r : Int64) : Prop := (¬ l_Cedge sv p q w ∧ r = -9223372036854775808) ∨ (l_Cedge sv p q w ∧ ∃ s, l_sp sv p q s ∧ r = l_Fedge sv w.toInt.toNat s)
theorem l_aedge_one {p q w : Int32} {r r' : Int64} (h : l_ok sv) (h1 : l_aedge sv p q w r) (h2 : l_aedge sv p q w r') : r = r' := by
  rcases h1 with ⟨a, b⟩ | ⟨a, s, h1, e⟩ <;> rcases h2 with ⟨a', b'⟩ | ⟨a', s', h1', e'⟩
  · exact b.trans b'.symm
  · exact absurd a' a
  · exact absurd a a'
  · rw [l_sp_one h s s' h1 h1'] at e
    exact e.trans e'.symm
theorem z_absI {x : Int64} (hx : -1000000000000 ≤ x.toInt ∧ x.toInt ≤ 1000000000000) : (if 0 < x then x else -x : Int64) = lN x.toInt.natAbs := by
  apply Int64.toInt_inj.mp
  have e : (lN x.toInt.natAbs).toInt = (x.toInt.natAbs : Int) := lg_ofNat_toInt (by omega)
  rw [e]
  by_cases c : 0 < x
  · have c' := Int64.lt_iff_toInt_lt.mp c
    rw [show (0 : Int64).toInt = 0 from rfl] at c'
    rw [if_pos c]; omega
  · have c' : ¬ 0 < x.toInt := fun z => c (Int64.lt_iff_toInt_lt.mpr (by rw [show (0 : Int64).toInt = 0 from rfl]; exact z))
    rw [if_neg c, Int64.toInt_neg, fb_bmodL (by omega) (by omega)]; omega
theorem z_gcdB {T : Int} {B : Nat} (h1 : 1 ≤ B) (h2 : B ≤ 563400) : 1 ≤ Nat.gcd T.natAbs B ∧ Nat.gcd T.natAbs B ≤ 563400 := ⟨Nat.gcd_pos_of_pos_right _ h1, Nat.le_trans (Nat.gcd_le_right _ h1) h2⟩
theorem a_x_edge (g : GOK (l_R sv) (l_C sv) (z_pr (l_R sv)) (z_pr (l_C sv)) rc cc br zc rw sh) (hN : 1000000 ≤ N) (a1 a2 a3 a4 a5 a6 p q w : Int32) : Ok (f_X_edge N a1 a2 a3 a4 a5 a6 br zc rw sh p q w) (fun x => l_aedge sv p q w x.1) := by
  unfold f_X_edge
  refine Ok.b1 (r_hasSheet g p q) (fun v1 h1 => ?_)
  rcases h1 with ⟨z, rfl⟩ | ⟨z, rfl⟩
  rotate_left
  · exact Ok.ite (fun _ => Ok.ret (Or.inl ⟨fun u => z u.1, rfl⟩)) (fun c => absurd rfl c)
  refine Ok.ite (fun c => absurd c (by decide)) (fun _ => Ok.b1 (s_isFrom w 0 7) (fun v2 h2 => ?_))
  rw [show (0 : Int32).toInt = 0 from rfl, show (7 : Int32).toInt = 7 from rfl] at h2
  refine Ok.ite (fun c => Ok.ret (Or.inl ⟨fun u => z_if0 h2 c u.2, rfl⟩)) (fun c => ?_)
  have hw := z_if1 h2 c
  have z' := z
  obtain ⟨l, k, hl, rfl, rfl, hk⟩ := z'
  obtain ⟨j, -, rfl, hjj⟩ := z_nat (r := w) (by omega)
  have hs := g.2.sh hl
  have hv := g.2.hv hl
  have hps := g.2.pos l hl
  obtain ⟨ro, pl, e, d1, d2, d3⟩ := k_put (N := N) g (by omega) hl hk a1 a2 a3 a4 a5 a6
  have la := z_rl_pos (V := z_pr (l_C sv) l) hps.1 hps.2 d1
  have hsp : l_sp sv (nI l) (nI k) (l, k, ro, pl) := ⟨⟨hl, (show k < 20000000 by omega), d1, d2, d3⟩, rfl, rfl⟩
  have bT := z_eTb (l := l) (H0 := z_pr (l_R sv)) (ro := ro) (pl := pl) (e := j / 2) hv.1 d1 (by omega)
  have bB := z_eBb g.2 hl (ro := ro) (e := j / 2) d1
  have tT := z_ofT (z := z_eT (z_pr (l_R sv)) l ro pl (j / 2)) (by omega) (by omega)
  have bG := z_gcdB (T := z_eT (z_pr (l_R sv)) l ro pl (j / 2)) bB.1 bB.2
  have fin : ∀ r : Int64, r = l_Fedge sv j (l, k, ro, pl) → l_aedge sv (nI l) (nI k) (nI j) r := fun r h => Or.inr ⟨⟨z, hw⟩, _, hsp, by rw [h, hjj]; rfl⟩
  unfold l_Fedge z_frT z_frB at fin
  rw [e, q_b6_s, z_i 2, z_dv (by omega) (by omega) (by omega), r_edgeTop g hl d1 d2 (by omega), q_b1_s, z_dv (by omega) (by omega) (by omega), r_edgeBottom g hl d1 (by omega), q_b1_s, z_nm, z_absI (by rw [tT]; exact bT), tT, r_gcdX hN (by omega) bB.1 (by omega), q_b1_s]
  refine Ok.ite (fun _ => ?_) (fun c => absurd ((lg_cmp_ge _ _).mpr ((lN_le (a := 1) (by omega) (by omega)).mpr bG.1)) c)
  rw [z_rm (by omega) (by omega) (by omega)]
  unfold q_dvl
  have g0 : ¬ lN (Nat.gcd (z_eT (z_pr (l_R sv)) l ro pl (j / 2)).natAbs (z_eB (z_pr (l_R sv)) (z_pr (l_C sv)) l ro (j / 2))) = 0 := z_lne0 bG.1 (by omega)
  by_cases c : j % 2 = 0
  · rw [if_pos (by rw [c]; rfl), if_neg g0]
    exact Ok.ret (fin _ (by rw [if_pos c]))
  · rw [if_neg (by rw [z_eq0 (by omega)]; exact c), if_neg g0]
    exact Ok.ret (fin _ (by rw [if_neg c]))
theorem a_m_edge (g : MOK (l_R sv) (l_C sv) (z_pr (l_R sv)) (z_pr (l_C sv)) cr cq dp wd za) (hN : 1000000 ≤ N) (bl bo : Int64) (ed : Nat → Int64) (p q w : Int32) : Ok (f_M_edge N dp wd za bl bo ed p q w) (fun x => l_aedge sv p q w x.1) := by
  unfold f_M_edge
  refine Ok.b1 (r_isKey g p q) (fun v1 h1 => ?_)
  rcases h1 with ⟨z, rfl⟩ | ⟨z, rfl⟩
  rotate_left
  · exact Ok.ite (fun _ => Ok.ret (Or.inl ⟨fun u => z u.1, rfl⟩)) (fun c => absurd rfl c)
  refine Ok.ite (fun c => absurd c (by decide)) (fun _ => Ok.b1 (t_in _ _ _) (fun v2 h2 => ?_))
  rw [z_toL, show (0 : Int64).toInt = 0 from rfl, show (7 : Int64).toInt = 7 from rfl] at h2
  refine Ok.ite (fun c => Ok.ret (Or.inl ⟨fun u => z_if0 h2 c u.2, rfl⟩)) (fun c => ?_)
  have hw := z_if1 h2 c
  have z' := z
  obtain ⟨l, k, hl, rfl, rfl, hk⟩ := z'
  obtain ⟨j, -, rfl, hjj⟩ := z_nat (r := w) (by omega)
  have hs := g.2.2.sh hl
  have hv := g.2.2.hv hl
  have hps := g.2.2.pos l hl
  obtain ⟨ro, pl, d1, d2, d3, -, -⟩ := t_spot (N := N) g (by omega) hl hk
  have la := z_rl_pos (V := z_pr (l_C sv) l) hps.1 hps.2 d1
  have hsp : l_sp sv (nI l) (nI k) (l, k, ro, pl) := ⟨⟨hl, (show k < 20000000 by omega), d1, d2, d3⟩, rfl, rfl⟩
  have bT := z_eTb (l := l) (H0 := z_pr (l_R sv)) (ro := ro) (pl := pl) (e := j / 2) hv.1 d1 (by omega)
  have bB := z_eBb g.2.2 hl (ro := ro) (e := j / 2) d1
  have tT := z_ofT (z := z_eT (z_pr (l_R sv)) l ro pl (j / 2)) (by omega) (by omega)
  have bG := z_gcdB (T := z_eT (z_pr (l_R sv)) l ro pl (j / 2)) bB.1 bB.2
  have fin : ∀ r : Int64, r = l_Fedge sv j (l, k, ro, pl) → l_aedge sv (nI l) (nI k) (nI j) r := fun r h => Or.inr ⟨⟨z, hw⟩, _, hsp, by rw [h, hjj]; rfl⟩
  unfold l_Fedge z_frT z_frB at fin
  refine Ok.b3 (r_laysEdges (N := N) g (by omega) hl d1 d2 d3 bl bo ed) (fun v3 v4 f5 h => ?_)
  obtain ⟨h1, h2, h3⟩ := h
  dsimp only at h1 h2 h3
  have g0 : ¬ lN (Nat.gcd (z_eT (z_pr (l_R sv)) l ro pl (j / 2)).natAbs (z_eB (z_pr (l_R sv)) (z_pr (l_C sv)) l ro (j / 2))) = 0 := z_lne0 bG.1 (by omega)
  have K : ∀ v8 : Int64, v8 = lN (z_eB (z_pr (l_R sv)) (z_pr (l_C sv)) l ro (j / 2)) → Ok (q_b1 (f_M_common N (f5 (j / 2)) v8) (fun (v9 : Int64) => q_rm (nI j) (nI 2) (fun (v10 : Int32) => if v10 = 0 then (q_dvl (f5 (j / 2)) v9 (fun (v12 : Int64) => some (v12, v3, v4, f5))) else (q_dvl v8 v9 (fun (v11 : Int64) => some (v11, v3, v4, f5)))))) (fun x => l_aedge sv (nI l) (nI k) (nI j) x.1) := by
    intro v8 h8
    rw [h8, h3 (j / 2) (by omega), r_gcdM hN (by rw [tT]; exact bT) bB.1 (by omega), q_b1_s, tT, z_rm (by omega) (by omega) (by omega)]
    unfold q_dvl
    by_cases c : j % 2 = 0
    · rw [if_pos (by rw [c]; rfl), if_neg g0]
      exact Ok.ret (fin _ (by rw [if_pos c]))
    · rw [if_neg (by rw [z_eq0 (by omega)]; exact c), if_neg g0]
      exact Ok.ret (fin _ (by rw [if_neg c]))
  rw [z_i 2, z_dv (by omega) (by omega) (by omega), z_al (by omega) (by omega)]
  refine Ok.j1 ?_
  by_cases c : 4 ≤ j
  · rw [if_pos (by rw [z_i 4, nI_leI (by omega) (by omega)]; exact c)]
    exact K v4 (by rw [h2, z_eBhi (show ¬ 2 < 2 by omega), z_eBhi (show ¬ j / 2 < 2 by omega)])
  · rw [if_neg (by rw [z_i 4, nI_leI (by omega) (by omega)]; exact c)]
    exact K v3 (by rw [h1, z_eBlo (show 0 < 2 by omega), z_eBlo (show j / 2 < 2 by omega)])
end S8A
end
section
/-! answers: corners -/
section S12A
variable {R C H V : Nat → Nat} {rc cc br zc rw sh cr cq dp wd za : Nat → Int32} {sv : l_T} {N l t : Nat}
/-- the corner keys in the row b to the west, to the east; whether they are there -/
def z_kW (H V ro pl b : Nat) : Nat := z_rs H V b + (pl * z_rl H V b / z_rl H V ro + z_rl H V b - 1) % z_rl H V b
def z_kE (H V ro pl b : Nat) : Nat := z_rs H V b + ((pl + 1) * z_rl H V b / z_rl H V ro) % z_rl H V b
def z_isW (H V ro pl b : Nat) : Prop := (pl * z_rl H V b) % z_rl H V ro = 0
def z_isE (H V ro pl b : Nat) : Prop := ((pl + 1) * z_rl H V b) % z_rl H V ro = 0
def z_capr (H r : Nat) : Prop := r = 0 ∨ r = 44 * H + 1
/-- what a row gives: how many (n), which (v) -/
def z_crn (H V ro pl b n : Nat) (v : Nat → Nat) : Prop := ((z_capr H ro ∨ z_capr H b) ∧ n = 0) ∨ (¬ (z_capr H ro ∨ z_capr H b) ∧ ((z_isW H V ro pl b ∧ z_isE H V ro pl b ∧ n = 2 ∧ v 0 = (if z_kE H V ro pl b < z_kW H V ro pl b then z_kE H V ro pl b else z_kW H V ro pl b) ∧ v 1 = (if z_kE H V ro pl b < z_kW H V ro pl b then z_kW H V ro pl b else z_kE H V ro pl b)) ∨ (z_isW H V ro pl b ∧ ¬ z_isE H V ro pl b ∧ n = 1 ∧ v 0 = z_kW H V ro pl b) ∨ (¬ z_isW H V ro pl b ∧ z_isE H V ro pl b ∧ n = 1 ∧ v 0 = z_kE H V ro pl b) ∨ (¬ z_isW H V ro pl b ∧ ¬ z_isE H V ro pl b ∧ n = 0)))
theorem z_crn_one {H0 V0 ro pl b n n' : Nat} {v v' : Nat → Nat} (h : z_crn H0 V0 ro pl b n v) (h' : z_crn H0 V0 ro pl b n' v') : n = n' ∧ n ≤ 2 ∧ ∀ j, j < n → v j = v' j := by
  rcases h with ⟨a, rfl⟩ | ⟨a, h⟩ <;> rcases h' with ⟨a', rfl⟩ | ⟨a', h'⟩
  · exact ⟨rfl, by omega, fun j hj => absurd hj (by omega)⟩
  · exact absurd a a'
  · exact absurd a' a
  · rcases h with ⟨b1, b2, rfl, b4, b5⟩ | ⟨b1, b2, rfl, b4⟩ | ⟨b1, b2, rfl, b4⟩ | ⟨b1, b2, rfl⟩ <;> rcases h' with ⟨c1, c2, rfl, c4, c5⟩ | ⟨c1, c2, rfl, c4⟩ | ⟨c1, c2, rfl, c4⟩ | ⟨c1, c2, rfl⟩
    all_goals first
      | exact absurd b1 c1
      | exact absurd c1 b1
      | exact absurd b2 c2
      | exact absurd c2 b2
      | skip
    · refine ⟨rfl, by omega, fun j hj => ?_⟩
      rcases (show j = 0 ∨ j = 1 by omega) with rfl | rfl
      · rw [b4, c4]
      · rw [b5, c5]
    · refine ⟨rfl, by omega, fun j hj => ?_⟩
      have e : j = 0 := by omega
      subst e
      rw [b4, c4]
    · refine ⟨rfl, by omega, fun j hj => ?_⟩
      have e : j = 0 := by omega
      subst e
      rw [b4, c4]
    · exact ⟨rfl, by omega, fun j hj => absurd hj (by omega)⟩
theorem z_kWE_b {H0 V0 ro pl b : Nat} (hH : 1 ≤ H0) (hV : 1 ≤ V0) (hb : b ≤ 44 * H0 + 1) : z_rs H0 V0 b ≤ z_kW H0 V0 ro pl b ∧ z_kW H0 V0 ro pl b < z_rs H0 V0 b + z_rl H0 V0 b ∧ z_rs H0 V0 b ≤ z_kE H0 V0 ro pl b ∧ z_kE H0 V0 ro pl b < z_rs H0 V0 b + z_rl H0 V0 b := by
  have lb := z_rl_pos hH hV hb
  have m1 : (pl * z_rl H0 V0 b / z_rl H0 V0 ro + z_rl H0 V0 b - 1) % z_rl H0 V0 b < z_rl H0 V0 b := Nat.mod_lt _ (by omega)
  have m2 : ((pl + 1) * z_rl H0 V0 b / z_rl H0 V0 ro) % z_rl H0 V0 b < z_rl H0 V0 b := Nat.mod_lt _ (by omega)
  unfold z_kW z_kE
  omega
theorem r_insE (hN : 1000000 ≤ N) {f : Nat → Int32} {c k d : Nat} (hc : c ≤ 3) (hk : k < 2 ^ 31) (hd : d < 2 ^ 31) (h : c = 0 ∨ (f (c - 1) = nI d ∧ d ≤ k)) : f_Spot_addCorner N f (nI c) (nI k) = some (upd f c (nI k), nI (c + 1)) := by
  obtain ⟨n, rfl⟩ : ∃ n, N = n + 1 := ⟨N - 1, by omega⟩
  unfold f_Spot_addCorner f_Spot_addCorner_L15
  rw [if_pos (show nI c < 4 by rw [z_i 4, nI_ltI (by omega) (by omega)]; omega)]
  rcases h with h | ⟨h1, h2⟩
  · rw [if_pos (show nI c ≤ 0 by rw [h]; decide), q_b2_s, z_as (by omega) (by omega), nI_1, z_nm]
  · by_cases c0 : c = 0
    · rw [if_pos (show nI c ≤ 0 by rw [c0]; decide), q_b2_s, z_as (by omega) (by omega), nI_1, z_nm]
    · rw [if_neg (show ¬ nI c ≤ 0 by rw [z_le0 (by omega)]; exact c0), z_sub1 (by omega), z_ai (by omega) (by omega), h1, if_pos (show nI d ≤ nI k by rw [nI_leI (by omega) (by omega)]; exact h2), q_b2_s, z_as (by omega) (by omega), nI_1, z_nm]
theorem r_insO (hN : 1000000 ≤ N) {f : Nat → Int32} {c k d d2 : Nat} (h0 : 1 ≤ c) (hc : c ≤ 3) (hk : k < 2 ^ 31) (hd : d < 2 ^ 31) (hd2 : d2 < 2 ^ 31) (h1 : f (c - 1) = nI d) (h2 : k < d) (h : c = 1 ∨ (f (c - 2) = nI d2 ∧ d2 ≤ k)) : f_Spot_addCorner N f (nI c) (nI k) = some (upd (upd f c (nI d)) (c - 1) (nI k), nI (c + 1)) := by
  obtain ⟨n, rfl⟩ : ∃ n, N = n + 1 + 1 := ⟨N - 2, by omega⟩
  have em : nI c + (-1) = nI (c - 1) := by rw [z_m1, z_sub1 h0]
  unfold f_Spot_addCorner f_Spot_addCorner_L15
  rw [if_pos (show nI c < 4 by rw [z_i 4, nI_ltI (by omega) (by omega)]; omega), if_neg (show ¬ nI c ≤ 0 by rw [z_le0 (by omega)]; omega), z_sub1 h0, z_ai (by omega) (by omega), h1, if_neg (show ¬ nI d ≤ nI k by rw [nI_leI (by omega) (by omega)]; omega), z_ai (by omega) (by omega), h1, z_as (by omega) (by omega), em, z_nm]
  unfold f_Spot_addCorner_L15
  by_cases c0 : c = 1
  · rw [if_pos (show nI (c - 1) ≤ 0 by rw [c0]; decide), q_b2_s, z_as (by omega) (by omega), nI_1, z_nm]
  · have h3 : f (c - 2) = nI d2 ∧ d2 ≤ k := by
      rcases h with h | h
      · exact absurd h c0
      · exact h
    rw [if_neg (show ¬ nI (c - 1) ≤ 0 by rw [z_le0 (by omega)]; omega), z_sub1 (show 1 ≤ c - 1 by omega), z_ai (by omega) (by omega), z_updN (show c - 1 - 1 ≠ c by omega), show c - 1 - 1 = c - 2 by omega, h3.1, if_pos (show nI d2 ≤ nI k by rw [nI_leI (by omega) (by omega)]; exact h3.2), q_b2_s, z_as (by omega) (by omega), nI_1, z_nm]
theorem r_addCorners (g : GOK R C H V rc cc br zc rw sh) (hN : 1000000 ≤ N) (hl : l < 5) {ro pl b c : Nat} (hr : ro ≤ 44 * H l + 1) (hp : pl < z_rl (H l) (V l) ro) (hb : b ≤ 44 * H l + 1) (hcr : ¬ z_capr (H l) ro) {f : Nat → Int32} {D : Nat → Nat} (hc : c ≤ 2) (hf : ∀ j, j < c → f j = nI (D j) ∧ D j < z_rs (H l) (V l) b) : Ok (f_Spot_addCorners N f (nI c) (nI l) (nI pl) (nI (z_rl (H l) (V l) ro)) br zc rw sh (nI b)) (fun x => ∃ n v, z_crn (H l) (V l) ro pl b n v ∧ x.2 = nI (c + n) ∧ (∀ j, j < c → x.1 j = f j) ∧ ∀ j, j < n → x.1 (c + j) = nI (v j) ∧ v j < z_rs (H l) (V l) b + z_rl (H l) (V l) b) := by
  have hs := g.2.sh hl
  have hv := g.2.hv hl
  have hps := g.2.pos l hl
  have la := z_rl_pos (V := V l) hps.1 hps.2 hr
  have lb := z_rl_pos (V := V l) hps.1 hps.2 hb
  have be := z_rs_end (V := V l) hps.1 hb
  obtain ⟨w1, w2, w3, w4⟩ := z_kWE_b (ro := ro) (pl := pl) hps.1 hps.2 hb
  unfold f_Spot_addCorners
  rw [k_isCapRow g hl hb, q_b1_s]
  by_cases hcb : z_capr (H l) b
  · rw [if_neg (show ¬ z_cap (H l) b = 0 by rw [z_capY hcb]; decide)]
    exact Ok.ret ⟨0, fun _ => 0, Or.inl ⟨Or.inr hcb, rfl⟩, rfl, fun j hj => rfl, fun j hj => absurd hj (by omega)⟩
  have hno : ¬ (z_capr (H l) ro ∨ z_capr (H l) b) := fun z => z.elim hcr hcb
  have m1 : pl * z_rl (H l) (V l) b ≤ 563400 * 563400 := Nat.mul_le_mul (by omega) (by omega)
  have m2 : (pl + 1) * z_rl (H l) (V l) b = pl * z_rl (H l) (V l) b + z_rl (H l) (V l) b := Nat.succ_mul _ _
  have d1 : pl * z_rl (H l) (V l) b / z_rl (H l) (V l) ro < z_rl (H l) (V l) b := by
    apply Nat.div_lt_of_lt_mul
    exact Nat.mul_lt_mul_of_lt_of_le hp (Nat.le_refl _) lb.1
  have d2 : (pl + 1) * z_rl (H l) (V l) b / z_rl (H l) (V l) ro ≤ z_rl (H l) (V l) b := by
    apply Nat.div_le_of_le_mul
    exact Nat.mul_le_mul_right _ hp
  have p1 : (pl * z_rl (H l) (V l) b) % z_rl (H l) (V l) ro < z_rl (H l) (V l) ro := Nat.mod_lt _ (by omega)
  have p2 : ((pl + 1) * z_rl (H l) (V l) b) % z_rl (H l) (V l) ro < z_rl (H l) (V l) ro := Nat.mod_lt _ (by omega)
  have n1 := Int.natCast_nonneg (pl * z_rl (H l) (V l) b / z_rl (H l) (V l) ro)
  have n2 := Int.natCast_nonneg ((pl + 1) * z_rl (H l) (V l) b / z_rl (H l) (V l) ro)
  rw [if_pos (show z_cap (H l) b = 0 from z_capN hcb), k_rowLength g hl hb, q_b1_s, k_rowStart g hl hb, q_b1_s, z_toL64 (show pl < 2 ^ 31 by omega), z_toL64 (show z_rl (H l) (V l) b < 2 ^ 31 by omega), z_toL64 (show z_rl (H l) (V l) ro < 2 ^ 31 by omega), lN_mul, z_nm, z_rml (by omega) (by omega) (by omega)]
  -- the eastern one, behind any state
  have E : ∀ (f' : Nat → Int32) (c' : Nat), c' ≤ 3 → Ok (q_nm ((lN (pl * z_rl (H l) (V l) b) + lN (z_rl (H l) (V l) b)) : Int64) (fun (v8 : Int64) => q_rml v8 (lN (z_rl (H l) (V l) ro)) (fun (v9 : Int64) => if (lg_cmp v9 0) = 0 then (q_dvl v8 (lN (z_rl (H l) (V l) ro)) (fun (v10 : Int64) => q_rm v10.toInt32 (nI (z_rl (H l) (V l) b)) (fun (v11 : Int32) => q_b2 (f_Spot_addCorner N f' (nI c') (nI (z_rs (H l) (V l) b) + v11)) (fun (f12 : Nat → Int32) (v13 : Int32) => some (f12, v13))))) else (some (f', nI c'))))) (fun x => (z_isE (H l) (V l) ro pl b ∧ f_Spot_addCorner N f' (nI c') (nI (z_kE (H l) (V l) ro pl b)) = some x) ∨ (f_Spot_addCorner N f' (nI c') (nI (z_kE (H l) (V l) ro pl b)) = none) ∨ (¬ z_isE (H l) (V l) ro pl b ∧ x = (f', nI c'))) := by
    intro f' c' hc'
    rw [lN_add, ← m2, z_nm, z_rml (by omega) (by omega) (by omega)]
    by_cases e : z_isE (H l) (V l) ro pl b
    · rw [if_pos ((z_cmp0N (by omega)).mpr e), z_dvl (by omega) (by omega) (by omega), lN_i, z_rm (by omega) (by omega) (by omega), nI_add]
      obtain ⟨x, hx⟩ : ∃ x, f_Spot_addCorner N f' (nI c') (nI (z_kE (H l) (V l) ro pl b)) = some x := by
        have t := s_addCorner (N := N) (by omega) f' (c := nI c') (by rw [nI_toInt (by omega)]; omega) (nI (z_kE (H l) (V l) ro pl b))
        obtain ⟨r, hr, -⟩ := t
        exact ⟨r, hr⟩
      have hx2 : f_Spot_addCorner N f' (nI c') (nI (z_rs (H l) (V l) b + (pl + 1) * z_rl (H l) (V l) b / z_rl (H l) (V l) ro % z_rl (H l) (V l) b)) = some x := hx
      rw [hx2]
      exact Ok.ret (Or.inl ⟨e, hx⟩)
    · rw [if_neg (fun z => e ((z_cmp0N (by omega)).mp z))]
      exact Ok.ret (Or.inr (Or.inr ⟨e, rfl⟩))
  have hend : ∀ k, z_rs (H l) (V l) b ≤ k → c = 0 ∨ (f (c - 1) = nI (D (c - 1)) ∧ D (c - 1) ≤ k) := by
    intro k hk
    by_cases c0 : c = 0
    · exact Or.inl c0
    · have := hf (c - 1) (by omega)
      exact Or.inr ⟨this.1, by omega⟩
  have hDb : c ≠ 0 → D (c - 1) < 2 ^ 31 := fun c0 => by
    have := hf (c - 1) (by omega)
    omega
  have insA : ∀ k, z_rs (H l) (V l) b ≤ k → k < 2 ^ 31 → f_Spot_addCorner N f (nI c) (nI k) = some (upd f c (nI k), nI (c + 1)) := by
    intro k h1 h2
    by_cases c0 : c = 0
    · exact r_insE hN (d := 0) (by omega) h2 (by omega) (Or.inl c0)
    · exact r_insE hN (d := D (c - 1)) (by omega) h2 (hDb c0) (hend k h1)
  refine Ok.j2 ?_
  by_cases eW : z_isW (H l) (V l) ro pl b
  · rw [if_pos ((z_cmp0N (by omega)).mpr eW), z_dvl (by omega) (by omega) (by omega), lN_add, show (1 : Int64) = lN 1 from rfl, lN_sub (Nat.le_trans lb.1 (Nat.le_add_left _ _)), lN_i, z_rm (by omega) (by omega) (by omega), nI_add]
    have hW : f_Spot_addCorner N f (nI c) (nI (z_rs (H l) (V l) b + (pl * z_rl (H l) (V l) b / z_rl (H l) (V l) ro + z_rl (H l) (V l) b - 1) % z_rl (H l) (V l) b)) = some (upd f c (nI (z_kW (H l) (V l) ro pl b)), nI (c + 1)) := insA (z_kW (H l) (V l) ro pl b) w1 (by omega)
    rw [hW, q_b2_s]
    refine Ok.weak (E _ (c + 1) (by omega)) (fun x hx => ?_)
    -- behind the western one
    by_cases lt : z_kE (H l) (V l) ro pl b < z_kW (H l) (V l) ro pl b
    · have hi : f_Spot_addCorner N (upd f c (nI (z_kW (H l) (V l) ro pl b))) (nI (c + 1)) (nI (z_kE (H l) (V l) ro pl b)) = some (upd (upd (upd f c (nI (z_kW (H l) (V l) ro pl b))) (c + 1) (nI (z_kW (H l) (V l) ro pl b))) (c + 1 - 1) (nI (z_kE (H l) (V l) ro pl b)), nI (c + 1 + 1)) := by
        refine r_insO hN (d := z_kW (H l) (V l) ro pl b) (d2 := if c = 0 then 0 else D (c - 1)) (by omega) (by omega) (by omega) (by omega) (by split; omega; exact hDb (by assumption)) (by rw [Nat.add_sub_cancel, z_updS]) lt ?_
        by_cases c0 : c = 0
        · exact Or.inl (by omega)
        · have := hf (c - 1) (by omega)
          refine Or.inr ⟨?_, by rw [if_neg c0]; omega⟩
          rw [show c + 1 - 2 = c - 1 by omega, z_updN (by omega), if_neg c0]
          exact this.1
      rcases hx with ⟨eE, hx⟩ | hx | ⟨eE, hx⟩
      · rw [hi] at hx
        cases hx
        refine ⟨2, fun j => if j = 0 then z_kE (H l) (V l) ro pl b else z_kW (H l) (V l) ro pl b, Or.inr ⟨hno, Or.inl ⟨eW, eE, rfl, ?_, ?_⟩⟩, rfl, fun j hj => ?_, fun j hj => ?_⟩
        · dsimp only; rw [if_pos (show (0 : Nat) = 0 from rfl), if_pos lt]
        · dsimp only; rw [if_neg (show ¬ (1 : Nat) = 0 by omega), if_pos lt]
        · dsimp only
          rw [Nat.add_sub_cancel, z_updN (by omega), z_updN (by omega), z_updN (by omega)]
        · dsimp only
          rcases (show j = 0 ∨ j = 1 by omega) with rfl | rfl
          · rw [Nat.add_sub_cancel, show c + 0 = c from rfl, z_updS, if_pos (show (0 : Nat) = 0 from rfl)]
            exact ⟨rfl, w4⟩
          · rw [Nat.add_sub_cancel, z_updN (by omega), z_updS, if_neg (show ¬ (1 : Nat) = 0 by omega)]
            exact ⟨rfl, w2⟩
      · rw [hi] at hx; cases hx
      · subst hx
        refine ⟨1, fun _ => z_kW (H l) (V l) ro pl b, Or.inr ⟨hno, Or.inr (Or.inl ⟨eW, eE, rfl, rfl⟩)⟩, rfl, fun j hj => ?_, fun j hj => ?_⟩
        · dsimp only; rw [z_updN (by omega)]
        · have e : j = 0 := by omega
          subst e
          dsimp only; rw [show c + 0 = c from rfl, z_updS]
          exact ⟨rfl, w2⟩
    · have hi : f_Spot_addCorner N (upd f c (nI (z_kW (H l) (V l) ro pl b))) (nI (c + 1)) (nI (z_kE (H l) (V l) ro pl b)) = some (upd (upd f c (nI (z_kW (H l) (V l) ro pl b))) (c + 1) (nI (z_kE (H l) (V l) ro pl b)), nI (c + 1 + 1)) := r_insE hN (d := z_kW (H l) (V l) ro pl b) (by omega) (by omega) (by omega) (Or.inr ⟨by rw [Nat.add_sub_cancel, z_updS], by omega⟩)
      rcases hx with ⟨eE, hx⟩ | hx | ⟨eE, hx⟩
      · rw [hi] at hx
        cases hx
        refine ⟨2, fun j => if j = 0 then z_kW (H l) (V l) ro pl b else z_kE (H l) (V l) ro pl b, Or.inr ⟨hno, Or.inl ⟨eW, eE, rfl, ?_, ?_⟩⟩, rfl, fun j hj => ?_, fun j hj => ?_⟩
        · dsimp only; rw [if_pos (show (0 : Nat) = 0 from rfl), if_neg lt]
        · dsimp only; rw [if_neg (show ¬ (1 : Nat) = 0 by omega), if_neg lt]
        · dsimp only
          rw [z_updN (by omega), z_updN (by omega)]
        · dsimp only
          rcases (show j = 0 ∨ j = 1 by omega) with rfl | rfl
          · rw [show c + 0 = c from rfl, z_updN (by omega), z_updS, if_pos (show (0 : Nat) = 0 from rfl)]
            exact ⟨rfl, w2⟩
          · rw [z_updS, if_neg (show ¬ (1 : Nat) = 0 by omega)]
            exact ⟨rfl, w4⟩
      · rw [hi] at hx; cases hx
      · subst hx
        refine ⟨1, fun _ => z_kW (H l) (V l) ro pl b, Or.inr ⟨hno, Or.inr (Or.inl ⟨eW, eE, rfl, rfl⟩)⟩, rfl, fun j hj => ?_, fun j hj => ?_⟩
        · dsimp only; rw [z_updN (by omega)]
        · have e : j = 0 := by omega
          subst e
          dsimp only; rw [show c + 0 = c from rfl, z_updS]
          exact ⟨rfl, w2⟩
  · rw [if_neg (fun z => eW ((z_cmp0N (by omega)).mp z))]
    refine Ok.weak (E _ c (by omega)) (fun x hx => ?_)
    have hi := insA (z_kE (H l) (V l) ro pl b) w3 (by omega)
    rcases hx with ⟨eE, hx⟩ | hx | ⟨eE, hx⟩
    · rw [hi] at hx
      cases hx
      refine ⟨1, fun _ => z_kE (H l) (V l) ro pl b, Or.inr ⟨hno, Or.inr (Or.inr (Or.inl ⟨eW, eE, rfl, rfl⟩))⟩, rfl, fun j hj => ?_, fun j hj => ?_⟩
      · dsimp only; rw [z_updN (by omega)]
      · have e : j = 0 := by omega
        subst e
        dsimp only; rw [show c + 0 = c from rfl, z_updS]
        exact ⟨rfl, w4⟩
    · rw [hi] at hx; cases hx
    · subst hx
      exact ⟨0, fun _ => 0, Or.inr ⟨hno, Or.inr (Or.inr (Or.inr ⟨eW, eE, rfl⟩))⟩, rfl, fun j hj => rfl, fun j hj => absurd hj (by omega)⟩
/-- the reference's corner to a side at an end -/
theorem r_cornerOf (g : MOK R C H V cr cq dp wd za) (hN : 1000000 ≤ N) (hl : l < 5) {k ro pl b i e : Nat} (hr : ro ≤ 44 * H l + 1) (hp : pl < z_rl (H l) (V l) ro) (hk : k = z_rs (H l) (V l) ro + pl) (hi : (i = 0 ∧ (¬ z_capr (H l) ro → ro = b + 1)) ∨ (i = 2 ∧ (¬ z_capr (H l) ro → b = ro + 1))) (he : e < 2) : ∃ x, f_M_cornerOf N dp wd za (nI l) (nI k) (nI i) (nI e) = some x ∧ ((z_capr (H l) ro ∨ z_capr (H l) b) → x = -1) ∧ (¬ (z_capr (H l) ro ∨ z_capr (H l) b) → (e = 0 → (z_isW (H l) (V l) ro pl b → x = nI (z_kW (H l) (V l) ro pl b)) ∧ (¬ z_isW (H l) (V l) ro pl b → x = -1)) ∧ (e = 1 → (z_isE (H l) (V l) ro pl b → x = nI (z_kE (H l) (V l) ro pl b)) ∧ (¬ z_isE (H l) (V l) ro pl b → x = -1))) := by
  have hs := g.2.2.sh hl
  have hv := g.2.2.hv hl
  have hps := g.2.2.pos l hl
  have la := z_rl_pos (V := V l) hps.1 hps.2 hr
  obtain ⟨er, ep⟩ := m_placeOf (N := N) g (by omega) hl hr (k := k) (by omega) (by omega)
  unfold f_M_cornerOf
  rw [er, q_b1_s, z_j1]
  by_cases hcr : z_capr (H l) ro
  · have e1 : z_rl (H l) (V l) ro = 1 := (z_rl1 hps.1 hps.2 hr).mpr hcr
    refine ⟨-1, ?_, fun _ => rfl, fun z => absurd (Or.inl hcr) z⟩
    rcases hi with ⟨rfl, -⟩ | ⟨rfl, -⟩
    · rw [if_pos (show nI 0 = 0 from rfl)]
      dsimp only
      rw [m_many g hl hr, q_b1_s, e1, z_nm, if_pos (show lg_cmp (nI 1).toInt64 1 = 0 by decide)]
    · rw [if_neg (show ¬ nI 2 = 0 by decide)]
      dsimp only
      rw [m_many g hl hr, q_b1_s, e1, z_nm, if_pos (show lg_cmp (nI 1).toInt64 1 = 0 by decide)]
  have hr1 : 1 ≤ ro ∧ ro ≤ 44 * H l := by
    unfold z_capr at hcr
    omega
  have n1 : z_rl (H l) (V l) ro ≠ 1 := fun z => hcr ((z_rl1 hps.1 hps.2 hr).mp z)
  have hb : b ≤ 44 * H l + 1 := by
    rcases hi with ⟨-, h⟩ | ⟨-, h⟩
    · have := h hcr; omega
    · have := h hcr; omega
  have lb := z_rl_pos (V := V l) hps.1 hps.2 hb
  have be := z_rs_end (V := V l) hps.1 hb
  have m1 : (pl + e) * z_rl (H l) (V l) b ≤ 563401 * 563400 := Nat.mul_le_mul (by omega) (by omega)
  have d1 : pl * z_rl (H l) (V l) b / z_rl (H l) (V l) ro < z_rl (H l) (V l) b := by
    apply Nat.div_lt_of_lt_mul
    exact Nat.mul_lt_mul_of_lt_of_le hp (Nat.le_refl _) lb.1
  have d2 : (pl + 1) * z_rl (H l) (V l) b / z_rl (H l) (V l) ro ≤ z_rl (H l) (V l) b := by
    apply Nat.div_le_of_le_mul
    exact Nat.mul_le_mul_right _ hp
  have p1 : ((pl + e) * z_rl (H l) (V l) b) % z_rl (H l) (V l) ro < z_rl (H l) (V l) ro := Nat.mod_lt _ (by omega)
  have p3 : (pl * z_rl (H l) (V l) b / z_rl (H l) (V l) ro + z_rl (H l) (V l) b - 1) % z_rl (H l) (V l) b < z_rl (H l) (V l) b := Nat.mod_lt _ (by omega)
  have p4 : ((pl + 1) * z_rl (H l) (V l) b / z_rl (H l) (V l) ro) % z_rl (H l) (V l) b < z_rl (H l) (V l) b := Nat.mod_lt _ (by omega)
  have n1' := Int.natCast_nonneg (pl * z_rl (H l) (V l) b / z_rl (H l) (V l) ro)
  have n2' := Int.natCast_nonneg ((pl + 1) * z_rl (H l) (V l) b / z_rl (H l) (V l) ro)
  have main : ∃ x, (q_b1 (f_M_many dp wd (nI l) (nI ro)) (fun (v3 : Int32) => q_nm (v3.toInt64 : Int64) (fun (v4 : Int64) => if (lg_cmp v4 1) = 0 then ( some (-1)) else ( q_b1 (f_M_many dp wd (nI l) (nI b)) (fun (v5 : Int32) => if v5 = 1 then ( some (-1)) else ( q_b1 (f_M_many dp wd (nI l) (nI b)) (fun (v6 : Int32) => q_nm (v6.toInt64 : Int64) (fun (v7 : Int64) => q_b1 (f_M_placeOf N dp wd za (nI l) (nI k)) (fun (v8 : Int32) => q_nm ((((v8 + (nI e)).toInt64) * v7) : Int64) (fun (v9 : Int64) => q_rml v9 v4 (fun (v10 : Int64) => if (lg_cmp v10 0) = 0 then ( q_dvl v9 v4 (fun (v11 : Int64) => q_j1 (fun (v12 : Int64) => ( q_b1 (f_M_keyOf dp wd za (nI l) (nI b) v12.toInt32) (fun (v13 : Int32) => some v13) : Option (Int32))) (fun (k126 : Int64 → Option (Int32)) => if (nI e) = 0 then ( q_rml ((v11 + v7) - 1) v7 (fun (v15 : Int64) => k126 v15)) else ( q_rml v11 v7 (fun (v14 : Int64) => k126 v14))))) else ( some (-1))))))))))))) = some x ∧ ((z_capr (H l) ro ∨ z_capr (H l) b) → x = -1) ∧ (¬ (z_capr (H l) ro ∨ z_capr (H l) b) → (e = 0 → (z_isW (H l) (V l) ro pl b → x = nI (z_kW (H l) (V l) ro pl b)) ∧ (¬ z_isW (H l) (V l) ro pl b → x = -1)) ∧ (e = 1 → (z_isE (H l) (V l) ro pl b → x = nI (z_kE (H l) (V l) ro pl b)) ∧ (¬ z_isE (H l) (V l) ro pl b → x = -1))) := by
    rw [m_many g hl hr, q_b1_s, z_nm, z_toL64 (show z_rl (H l) (V l) ro < 2 ^ 31 by omega), if_neg (show ¬ lg_cmp (lN (z_rl (H l) (V l) ro)) 1 = 0 by rw [z_lcmpE, show (1 : Int64) = lN 1 from rfl, lN_eq (by omega) (by omega)]; exact n1), m_many g hl hb, q_b1_s]
    by_cases hcb : z_capr (H l) b
    · have e1 : z_rl (H l) (V l) b = 1 := (z_rl1 hps.1 hps.2 hb).mpr hcb
      rw [if_pos (show nI (z_rl (H l) (V l) b) = 1 by rw [e1]; rfl)]
      exact ⟨-1, rfl, fun _ => rfl, fun z => absurd (Or.inr hcb) z⟩
    have n2 : z_rl (H l) (V l) b ≠ 1 := fun z => hcb ((z_rl1 hps.1 hps.2 hb).mp z)
    rw [if_neg (show ¬ nI (z_rl (H l) (V l) b) = 1 by rw [z_i 1, nI_eq (by omega) (by omega)]; exact n2), q_b1_s, z_nm, z_toL64 (show z_rl (H l) (V l) b < 2 ^ 31 by omega), ep, q_b1_s, show k - z_rs (H l) (V l) ro = pl by omega, nI_add, z_toL64 (show pl + e < 2 ^ 31 by omega), lN_mul, z_nm, z_rml (by omega) (by omega) (by omega)]
    have hno : ¬ (z_capr (H l) ro ∨ z_capr (H l) b) := fun z => z.elim hcr hcb
    by_cases hm : ((pl + e) * z_rl (H l) (V l) b) % z_rl (H l) (V l) ro = 0
    · rw [if_pos ((z_cmp0N (by omega)).mpr hm), z_dvl (by omega) (by omega) (by omega), z_j1]
      rcases (show e = 0 ∨ e = 1 by omega) with rfl | rfl
      · rw [Nat.add_zero] at hm ⊢
        rw [if_pos (show nI 0 = 0 from rfl), lN_add, show (1 : Int64) = lN 1 from rfl, lN_sub (Nat.le_trans lb.1 (Nat.le_add_left _ _)), z_rml (by omega) (by omega) (by omega)]
        dsimp only
        rw [lN_i, m_keyOf g hl hb p3, q_b1_s]
        exact ⟨_, rfl, fun z => absurd z hno, fun _ => ⟨fun _ => ⟨fun _ => rfl, fun z => absurd hm z⟩, fun z => absurd z (by omega)⟩⟩
      · rw [if_neg (show ¬ nI 1 = 0 by decide), z_rml (by omega) (by omega) (by omega)]
        dsimp only
        rw [lN_i, m_keyOf g hl hb p4, q_b1_s]
        exact ⟨_, rfl, fun z => absurd z hno, fun _ => ⟨fun z => absurd z (by omega), fun _ => ⟨fun _ => rfl, fun z => absurd hm z⟩⟩⟩
    · rw [if_neg (fun z => hm ((z_cmp0N (by omega)).mp z))]
      refine ⟨-1, rfl, fun _ => rfl, fun _ => ⟨fun z => ?_, fun z => ?_⟩⟩
      · subst z; exact ⟨fun y => absurd y hm, fun _ => rfl⟩
      · subst z; exact ⟨fun y => absurd y hm, fun _ => rfl⟩
  rcases hi with ⟨rfl, h⟩ | ⟨rfl, h⟩
  · rw [if_pos (show nI 0 = 0 from rfl), z_sub1 hr1.1, show ro - 1 = b by have := h hcr; omega]
    exact main
  · rw [if_neg (show ¬ nI 2 = 0 by decide), nI_1, ← h hcr]
    exact main
/-- a side's two answers and what they come to -/
def z_prr (n : Nat) (v : Nat → Nat) (a b : Int32) : Prop := (∃ x y, x < 2 ^ 31 ∧ y < 2 ^ 31 ∧ n = 2 ∧ a = nI x ∧ b = nI y ∧ v 0 = (if y < x then y else x) ∧ v 1 = (if y < x then x else y)) ∨ (n = 1 ∧ v 0 < 2 ^ 31 ∧ a = nI (v 0) ∧ b = -1) ∨ (n = 1 ∧ v 0 < 2 ^ 31 ∧ a = -1 ∧ b = nI (v 0)) ∨ (n = 0 ∧ a = -1 ∧ b = -1)
theorem r_cside (g : MOK R C H V cr cq dp wd za) (hN : 1000000 ≤ N) (hl : l < 5) {k ro pl b i : Nat} (hr : ro ≤ 44 * H l + 1) (hp : pl < z_rl (H l) (V l) ro) (hk : k = z_rs (H l) (V l) ro + pl) (hi : (i = 0 ∧ (¬ z_capr (H l) ro → ro = b + 1)) ∨ (i = 2 ∧ (¬ z_capr (H l) ro → b = ro + 1))) : ∃ x y n v, f_M_cornerOf N dp wd za (nI l) (nI k) (nI i) 0 = some x ∧ f_M_cornerOf N dp wd za (nI l) (nI k) (nI i) 1 = some y ∧ z_crn (H l) (V l) ro pl b n v ∧ z_prr n v x y := by
  have hs := g.2.2.sh hl
  have hps := g.2.2.pos l hl
  obtain ⟨x, e0, c0, w0⟩ := r_cornerOf g hN hl hr hp hk hi (e := 0) (by omega)
  obtain ⟨y, e1, c1, w1⟩ := r_cornerOf g hN hl hr hp hk hi (e := 1) (by omega)
  refine ⟨x, y, ?_⟩
  by_cases hc : z_capr (H l) ro ∨ z_capr (H l) b
  · exact ⟨0, fun _ => 0, e0, e1, Or.inl ⟨hc, rfl⟩, Or.inr (Or.inr (Or.inr ⟨rfl, c0 hc, c1 hc⟩))⟩
  have hb : b ≤ 44 * H l + 1 := by
    have hcr : ¬ z_capr (H l) ro := fun z => hc (Or.inl z)
    rcases hi with ⟨-, h⟩ | ⟨-, h⟩
    · have := h hcr; omega
    · have := h hcr
      unfold z_capr at hcr
      omega
  have be := z_rs_end (V := V l) hps.1 hb
  obtain ⟨k1, k2, k3, k4⟩ := z_kWE_b (ro := ro) (pl := pl) hps.1 hps.2 hb
  have u0 := (w0 hc).1 rfl
  have u1 := (w1 hc).2 rfl
  by_cases hw : z_isW (H l) (V l) ro pl b <;> by_cases he : z_isE (H l) (V l) ro pl b
  · exact ⟨2, fun j => if j = 0 then (if z_kE (H l) (V l) ro pl b < z_kW (H l) (V l) ro pl b then z_kE (H l) (V l) ro pl b else z_kW (H l) (V l) ro pl b) else (if z_kE (H l) (V l) ro pl b < z_kW (H l) (V l) ro pl b then z_kW (H l) (V l) ro pl b else z_kE (H l) (V l) ro pl b), e0, e1, Or.inr ⟨hc, Or.inl ⟨hw, he, rfl, rfl, rfl⟩⟩, Or.inl ⟨_, _, by omega, by omega, rfl, u0.1 hw, u1.1 he, rfl, rfl⟩⟩
  · exact ⟨1, fun _ => z_kW (H l) (V l) ro pl b, e0, e1, Or.inr ⟨hc, Or.inr (Or.inl ⟨hw, he, rfl, rfl⟩)⟩, Or.inr (Or.inl ⟨rfl, (show z_kW (H l) (V l) ro pl b < 2 ^ 31 by omega), u0.1 hw, u1.2 he⟩)⟩
  · exact ⟨1, fun _ => z_kE (H l) (V l) ro pl b, e0, e1, Or.inr ⟨hc, Or.inr (Or.inr (Or.inl ⟨hw, he, rfl, rfl⟩))⟩, Or.inr (Or.inr (Or.inl ⟨rfl, (show z_kE (H l) (V l) ro pl b < 2 ^ 31 by omega), u0.2 hw, u1.1 he⟩))⟩
  · exact ⟨0, fun _ => 0, e0, e1, Or.inr ⟨hc, Or.inr (Or.inr (Or.inr ⟨hw, he, rfl⟩))⟩, Or.inr (Or.inr (Or.inr ⟨rfl, u0.2 hw, u1.2 he⟩))⟩
/-- one side in the reference's loop -/
theorem r_cstep {k u c i n : Nat} {v : Nat → Nat} {w v4 a b : Int32} (hi : i ≤ 2) (h0 : f_M_cornerOf N dp wd za (nI l) (nI k) (nI i) 0 = some a) (h1 : f_M_cornerOf N dp wd za (nI l) (nI k) (nI i) 1 = some b) (hz : z_prr n v a b) : (w = -1 → v4 = -1 → f_M_corners_L25 N dp wd za (nI l) (nI k) w (u + 1) v4 (nI c) (nI i) = f_M_corners_L25 N dp wd za (nI l) (nI k) w u (-1) (nI (c + n)) (nI (i + 2))) ∧ (∀ j, ¬ w = -1 → v4 = nI j → j < 2 ^ 31 → (j < n → f_M_corners_L25 N dp wd za (nI l) (nI k) w (u + 1) v4 (nI c) (nI i) = some (.inr (nI (v j)))) ∧ (¬ j < n → f_M_corners_L25 N dp wd za (nI l) (nI k) w (u + 1) v4 (nI c) (nI i) = f_M_corners_L25 N dp wd za (nI l) (nI k) w u (nI (j - n)) (nI (c + n)) (nI (i + 2)))) := by
  have e3 : ¬ (3 : Int32) ≤ nI i := by rw [z_i 3, nI_leI (by omega) (by omega)]; omega
  have t0 : (0 : Int64).toInt = 0 := rfl
  have hm : (-1 : Int32).toInt = -1 := rfl
  have big : ∀ (m : Nat) (s12 : Int32), s12 = nI m → m ≤ 2 → (s12 - 1).toInt64.toInt = (m : Int) - 1 := by
    intro m s12 h hm2
    rw [z_toL, h, fb_subI (by rw [nI_toInt (by omega), show (1 : Int32).toInt = 1 from rfl]; omega) (by rw [nI_toInt (by omega), show (1 : Int32).toInt = 1 from rfl]; omega), nI_toInt (by omega)]
    rfl
  have inn : ∀ (x : Int32) (m : Nat) (s12 : Int32), s12 = nI m → m ≤ 2 → f_M_in x.toInt64 0 ((s12 - 1).toInt64) = some (if 0 ≤ x.toInt ∧ x.toInt ≤ (m : Int) - 1 then 1 else 0) := by
    intro x m s12 h hm2
    rw [m_in, big m s12 h hm2, z_toL, t0]
  rw [f_M_corners_L25, if_neg e3, h0, q_b1_s, h1, q_b1_s, z_j1]
  rcases hz with ⟨x, y, hx, hy, rfl, rfl, rfl, v0, v1⟩ | ⟨rfl, hx, rfl, rfl⟩ | ⟨rfl, hx, rfl, rfl⟩ | ⟨rfl, rfl, rfl⟩
  · rw [if_neg (z_nIm1 hx)]
    dsimp only
    rw [z_j1, if_neg (z_nIm1 hy)]
    dsimp only
    rw [z_nm, inn _ 2 (1 + 1) rfl (by omega), q_b1_s]
    refine ⟨fun hw h4 => ?_, fun j hw h4 hj => ⟨fun hn => ?_, fun hn => ?_⟩⟩
    · rw [h4, if_neg (show ¬ (0 ≤ (-1 : Int32).toInt ∧ (-1 : Int32).toInt ≤ ((2 : Nat) : Int) - 1) from fun z => absurd z.1 (by decide)), if_pos (show (0 : Int32) = 0 from rfl), z_j1, if_pos hw]
      dsimp only
      rw [z_nm, z_nm, z_nm, show (-1 : Int32) - 0 = -1 from rfl, show (1 : Int32) + 1 = nI 2 from rfl, nI_add, show (2 : Int32) = nI 2 from rfl, nI_add]
    · rw [h4, nI_toInt hj, if_pos (show 0 ≤ (j : Int) ∧ (j : Int) ≤ ((2 : Nat) : Int) - 1 by omega), if_neg (show ¬ (1 : Int32) = 0 by decide), z_j1, z_j0, if_neg (z_nIm1 hx), z_j0, if_neg (z_nIm1 hy)]
      by_cases c1 : y < x
      · rw [if_neg (show ¬ nI x ≤ nI y by rw [nI_leI hx hy]; omega)]
        rcases (show j = 0 ∨ j = 1 by omega) with rfl | rfl
        · dsimp only; rw [if_pos (show nI 0 = 0 from rfl), v0, if_pos c1]
        · dsimp only; rw [if_neg (show ¬ nI 1 = 0 by decide), if_neg (show ¬ nI y = nI x by rw [nI_eq hy hx]; omega), v1, if_pos c1]
      · rw [if_pos (show nI x ≤ nI y by rw [nI_leI hx hy]; omega)]
        rcases (show j = 0 ∨ j = 1 by omega) with rfl | rfl
        · dsimp only; rw [if_pos (show nI 0 = 0 from rfl), v0, if_neg c1]
        · dsimp only; rw [if_neg (show ¬ nI 1 = 0 by decide), if_pos (show nI x = nI x from rfl), v1, if_neg c1]
    · rw [h4, nI_toInt hj, if_neg (show ¬ (0 ≤ (j : Int) ∧ (j : Int) ≤ ((2 : Nat) : Int) - 1) by omega), if_pos (show (0 : Int32) = 0 from rfl), z_j1, if_neg hw]
      dsimp only
      rw [z_nm, z_nm, z_nm, show (1 : Int32) + 1 = nI 2 from rfl, pk_sub (by omega), nI_add, show (2 : Int32) = nI 2 from rfl, nI_add]
  · rw [if_neg (z_nIm1 hx)]
    dsimp only
    rw [z_j1, if_pos (show (-1 : Int32) = -1 from rfl)]
    dsimp only
    rw [z_nm, inn _ 1 (1 + 0) rfl (by omega), q_b1_s]
    refine ⟨fun hw h4 => ?_, fun j hw h4 hj => ⟨fun hn => ?_, fun hn => ?_⟩⟩
    · rw [h4, if_neg (show ¬ (0 ≤ (-1 : Int32).toInt ∧ (-1 : Int32).toInt ≤ ((1 : Nat) : Int) - 1) from fun z => absurd z.1 (by decide)), if_pos (show (0 : Int32) = 0 from rfl), z_j1, if_pos hw]
      dsimp only
      rw [z_nm, z_nm, z_nm, show (-1 : Int32) - 0 = -1 from rfl, show (1 : Int32) + 0 = nI 1 from rfl, nI_add, show (2 : Int32) = nI 2 from rfl, nI_add]
    · rw [h4, nI_toInt hj, if_pos (show 0 ≤ (j : Int) ∧ (j : Int) ≤ ((1 : Nat) : Int) - 1 by omega), if_neg (show ¬ (1 : Int32) = 0 by decide), z_j1, z_j0, if_neg (z_nIm1 hx), z_j0, if_pos (show (-1 : Int32) = -1 from rfl)]
      have e : j = 0 := by omega
      subst e
      dsimp only
      rw [if_pos (show nI 0 = 0 from rfl)]
    · rw [h4, nI_toInt hj, if_neg (show ¬ (0 ≤ (j : Int) ∧ (j : Int) ≤ ((1 : Nat) : Int) - 1) by omega), if_pos (show (0 : Int32) = 0 from rfl), z_j1, if_neg hw]
      dsimp only
      rw [z_nm, z_nm, z_nm, show (1 : Int32) + 0 = nI 1 from rfl, pk_sub (by omega), nI_add, show (2 : Int32) = nI 2 from rfl, nI_add]
  · rw [if_pos (show (-1 : Int32) = -1 from rfl)]
    dsimp only
    rw [z_j1, if_neg (z_nIm1 hx)]
    dsimp only
    rw [z_nm, inn _ 1 (0 + 1) rfl (by omega), q_b1_s]
    refine ⟨fun hw h4 => ?_, fun j hw h4 hj => ⟨fun hn => ?_, fun hn => ?_⟩⟩
    · rw [h4, if_neg (show ¬ (0 ≤ (-1 : Int32).toInt ∧ (-1 : Int32).toInt ≤ ((1 : Nat) : Int) - 1) from fun z => absurd z.1 (by decide)), if_pos (show (0 : Int32) = 0 from rfl), z_j1, if_pos hw]
      dsimp only
      rw [z_nm, z_nm, z_nm, show (-1 : Int32) - 0 = -1 from rfl, show (0 : Int32) + 1 = nI 1 from rfl, nI_add, show (2 : Int32) = nI 2 from rfl, nI_add]
    · rw [h4, nI_toInt hj, if_pos (show 0 ≤ (j : Int) ∧ (j : Int) ≤ ((1 : Nat) : Int) - 1 by omega), if_neg (show ¬ (1 : Int32) = 0 by decide), z_j1, z_j0, if_pos (show (-1 : Int32) = -1 from rfl)]
      have e : j = 0 := by omega
      subst e
      dsimp only
      rw [if_pos (show nI 0 = 0 from rfl)]
    · rw [h4, nI_toInt hj, if_neg (show ¬ (0 ≤ (j : Int) ∧ (j : Int) ≤ ((1 : Nat) : Int) - 1) by omega), if_pos (show (0 : Int32) = 0 from rfl), z_j1, if_neg hw]
      dsimp only
      rw [z_nm, z_nm, z_nm, show (0 : Int32) + 1 = nI 1 from rfl, pk_sub (by omega), nI_add, show (2 : Int32) = nI 2 from rfl, nI_add]
  · rw [if_pos (show (-1 : Int32) = -1 from rfl)]
    dsimp only
    rw [z_j1, if_pos (show (-1 : Int32) = -1 from rfl)]
    dsimp only
    rw [z_nm, inn _ 0 (0 + 0) rfl (by omega), q_b1_s]
    refine ⟨fun hw h4 => ?_, fun j hw h4 hj => ⟨fun hn => absurd hn (by omega), fun hn => ?_⟩⟩
    · rw [h4, if_neg (show ¬ (0 ≤ (-1 : Int32).toInt ∧ (-1 : Int32).toInt ≤ ((0 : Nat) : Int) - 1) from fun z => absurd z.1 (by decide)), if_pos (show (0 : Int32) = 0 from rfl), z_j1, if_pos hw]
      dsimp only
      rw [z_nm, z_nm, z_nm, show (-1 : Int32) - 0 = -1 from rfl, show (0 : Int32) + 0 = nI 0 from rfl, nI_add, show (2 : Int32) = nI 2 from rfl, nI_add]
    · rw [h4, nI_toInt hj, if_neg (show ¬ (0 ≤ (j : Int) ∧ (j : Int) ≤ ((0 : Nat) : Int) - 1) by omega), if_pos (show (0 : Int32) = 0 from rfl), z_j1, if_neg hw]
      dsimp only
      rw [z_nm, z_nm, z_nm, show (0 : Int32) + 0 = nI 0 from rfl, pk_sub (by omega), nI_add, show (2 : Int32) = nI 2 from rfl, nI_add]
/-! the answer -/
def l_Ccorners (sv : l_T) (p q i : Int32) : Prop := l_hs sv p q ∧ -1 ≤ i
/-- the row ahead, the row behind (of a cap none matters) -/
def l_crs (sv : l_T) (s : Nat × Nat × Nat × Nat) (n0 n2 : Nat) (v0 v2 : Nat → Nat) : Prop := z_crn (z_pr (l_R sv) s.1) (z_pr (l_C sv) s.1) s.2.2.1 s.2.2.2 (s.2.2.1 - 1) n0 v0 ∧ z_crn (z_pr (l_R sv) s.1) (z_pr (l_C sv) s.1) s.2.2.1 s.2.2.2 (s.2.2.1 + 1) n2 v2
def l_Fcorners (n0 n2 : Nat) (v0 v2 : Nat → Nat) (i : Int32) : Int32 := if i = -1 then nI (n0 + n2) else if nI (n0 + n2) ≤ i then -2 else if i.toInt.toNat < n0 then nI (v0 i.toInt.toNat) else nI (v2 (i.toInt.toNat - n0))
def l_acorners (sv : l_T) (p q i r : Int32) : Prop := (¬ l_Ccorners sv p q i ∧ r = -1) ∨ (l_Ccorners sv p q i ∧ ∃ s n0 n2 v0 v2, l_sp sv p q s ∧ l_crs sv s n0 n2 v0 v2 ∧ r = l_Fcorners n0 n2 v0 v2 i)
theorem l_acorners_one {p q i r r' : Int32} (h : l_ok sv) (h1 : l_acorners sv p q i r) (h2 : l_acorners sv p q i r') : r = r' := by
  rcases h1 with ⟨a, b⟩ | ⟨a, s, n0, n2, v0, v2, hs, hc, e⟩ <;> rcases h2 with ⟨a', b'⟩ | ⟨a', s', m0, m2, w0, w2, hs', hc', e'⟩
  · exact b.trans b'.symm
  · exact absurd a' a
  · exact absurd a a'
  · have es := l_sp_one h s s' hs hs'
    subst es
    obtain ⟨rfl, c1, x1⟩ := z_crn_one hc.1 hc'.1
    obtain ⟨rfl, c2, x2⟩ := z_crn_one hc.2 hc'.2
    rw [e, e']
    unfold l_Fcorners
    by_cases d1 : i = -1
    · rw [if_pos d1, if_pos d1]
    rw [if_neg d1, if_neg d1]
    by_cases d2 : nI (n0 + n2) ≤ i
    · rw [if_pos d2, if_pos d2]
    rw [if_neg d2, if_neg d2]
    obtain ⟨j, hj, rfl, hjj⟩ := l_idx (M := n0 + n2) (by omega) a.2 d1 d2
    rw [hjj]
    by_cases d3 : j < n0
    · rw [if_pos d3, if_pos d3, x1 j d3]
    · rw [if_neg d3, if_neg d3, x2 (j - n0) (by omega)]
theorem a_x_corners (g : GOK (l_R sv) (l_C sv) (z_pr (l_R sv)) (z_pr (l_C sv)) rc cc br zc rw sh) (hN : 1000000 ≤ N) (f : Nat → Int32) (c a1 a2 a3 a4 a5 a6 p q i : Int32) : Ok (f_X_corners N f c a1 a2 a3 a4 a5 a6 br zc rw sh p q i) (fun x => l_acorners sv p q i x.1) := by
  unfold f_X_corners
  refine Ok.b1 (r_hasSheet g p q) (fun v1 h1 => ?_)
  rcases h1 with ⟨z, rfl⟩ | ⟨z, rfl⟩
  rotate_left
  · exact Ok.ite (fun _ => Ok.ret (Or.inl ⟨fun u => z u.1, rfl⟩)) (fun c => absurd rfl c)
  refine Ok.ite (fun c => absurd c (by decide)) (fun _ => Ok.ite (fun hi => ?_) (fun hi => Ok.ret (Or.inl ⟨fun u => hi u.2, rfl⟩)))
  have z' := z
  obtain ⟨l, k, hl, rfl, rfl, hk⟩ := z'
  have hs := g.2.sh hl
  have hps := g.2.pos l hl
  obtain ⟨ro, pl, e, d1, d2, d3⟩ := k_put (N := N) g (by omega) hl hk a1 a2 a3 a4 a5 a6
  have hsp : l_sp sv (nI l) (nI k) (l, k, ro, pl) := ⟨⟨hl, (show k < 20000000 by omega), d1, d2, d3⟩, rfl, rfl⟩
  rw [e, q_b6_s]
  have look : Ok (f_Spot_lookAtCorners N f c (nI l) (nI ro) (nI pl) (nI (z_rl (z_pr (l_R sv) l) (z_pr (l_C sv) l) ro)) (z_cap (z_pr (l_R sv) l) ro) br zc rw sh) (fun x => ∃ n0 n2 v0 v2, l_crs sv (l, k, ro, pl) n0 n2 v0 v2 ∧ n0 ≤ 2 ∧ n2 ≤ 2 ∧ x.2 = nI (n0 + n2) ∧ (∀ j, j < n0 → x.1 j = nI (v0 j)) ∧ (∀ j, j < n2 → x.1 (n0 + j) = nI (v2 j))) := by
    unfold f_Spot_lookAtCorners
    by_cases hc : z_capr (z_pr (l_R sv) l) ro
    · rw [if_neg (show ¬ z_cap (z_pr (l_R sv) l) ro = 0 by rw [z_capY hc]; decide)]
      exact Ok.ret ⟨0, 0, fun _ => 0, fun _ => 0, ⟨Or.inl ⟨Or.inl hc, rfl⟩, Or.inl ⟨Or.inl hc, rfl⟩⟩, by omega, by omega, rfl, fun j hj => absurd hj (by omega), fun j hj => absurd hj (by omega)⟩
    · have hr1 : 1 ≤ ro ∧ ro ≤ 44 * z_pr (l_R sv) l := by
        unfold z_capr at hc
        omega
      rw [if_pos (show z_cap (z_pr (l_R sv) l) ro = 0 from z_capN hc), z_sub1 hr1.1]
      refine Ok.b2 (r_addCorners g hN hl d1 d2 (b := ro - 1) (c := 0) (D := fun _ => 0) (by omega) hc (by omega) (fun j hj => absurd hj (by omega))) (fun f1 v2 h1 => ?_)
      obtain ⟨n0, v0, c0, h2, -, h4⟩ := h1
      dsimp only at h2 h4
      rw [h2, nI_1, Nat.zero_add]
      have hn0 := (z_crn_one c0 c0).2.1
      have mono := z_rs_mono (V := z_pr (l_C sv) l) hps.1 (ro + 1) (by omega) (ro - 1) (by omega)
      refine Ok.b2 (r_addCorners g hN hl d1 d2 (b := ro + 1) (c := n0) (D := v0) (by omega) hc hn0 (fun j hj => ?_)) (fun f3 v4 h5 => ?_)
      · have := h4 j hj
        rw [Nat.zero_add] at this
        exact ⟨this.1, by omega⟩
      · obtain ⟨n2, v2, c2, h6, h7, h8⟩ := h5
        dsimp only at h6 h7 h8
        refine Ok.ret ⟨n0, n2, v0, v2, ⟨c0, c2⟩, hn0, (z_crn_one c2 c2).2.1, h6, fun j hj => ?_, fun j hj => (h8 j hj).1⟩
        have := h4 j hj
        rw [Nat.zero_add] at this
        dsimp only
        rw [h7 j hj, this.1]
  refine Ok.b2 look (fun f8 v9 h => ?_)
  obtain ⟨n0, n2, v0, v2, hcr, hn0, hn2, hc, x0, x2⟩ := h
  dsimp only at hc x0 x2
  subst hc
  have fin : ∀ r : Int32, r = l_Fcorners n0 n2 v0 v2 i → l_acorners sv (nI l) (nI k) i r := fun r h => Or.inr ⟨⟨z, hi⟩, _, n0, n2, v0, v2, hsp, hcr, h⟩
  unfold l_Fcorners at fin
  refine Ok.ite (fun c1 => Ok.ret (fin _ (by rw [if_pos c1]))) (fun c1 => Ok.ite (fun c2 => Ok.ret (fin _ (by rw [if_neg c1, if_pos c2]))) (fun c2 => ?_))
  obtain ⟨j, hj, rfl, hjj⟩ := l_idx (M := n0 + n2) (by omega) hi c1 c2
  rw [z_ai (by omega) (by omega)]
  refine Ok.ret (fin _ ?_)
  rw [if_neg c1, if_neg c2, hjj]
  by_cases d3 : j < n0
  · rw [if_pos d3, x0 j d3]
  · have := x2 (j - n0) (by omega)
    rw [if_neg d3, ← this, show n0 + (j - n0) = j by omega]
theorem a_m_corners (g : MOK (l_R sv) (l_C sv) (z_pr (l_R sv)) (z_pr (l_C sv)) cr cq dp wd za) (hN : 1000000 ≤ N) (p q i : Int32) : Ok (f_M_corners N dp wd za p q i) (fun x => l_acorners sv p q i x) := by
  unfold f_M_corners
  refine Ok.b1 (r_isKey g p q) (fun v1 h1 => ?_)
  rcases h1 with ⟨z, rfl⟩ | ⟨z, rfl⟩
  rotate_left
  · exact Ok.ite (fun _ => Ok.ret (Or.inl ⟨fun u => z u.1, rfl⟩)) (fun c => absurd rfl c)
  refine Ok.ite (fun c => absurd c (by decide)) (fun _ => Ok.ite (fun hi => ?_) (fun hi => Ok.ret (Or.inl ⟨fun u => hi u.2, rfl⟩)))
  have z' := z
  obtain ⟨l, k, hl, rfl, rfl, hk⟩ := z'
  have hs := g.2.2.sh hl
  have hps := g.2.2.pos l hl
  obtain ⟨ro, pl, d1, d2, d3, -, -⟩ := t_spot (N := N) g (by omega) hl hk
  have hsp : l_sp sv (nI l) (nI k) (l, k, ro, pl) := ⟨⟨hl, (show k < 20000000 by omega), d1, d2, d3⟩, rfl, rfl⟩
  obtain ⟨x0, y0, n0, v0, e0, e1, c0, p0⟩ := r_cside g hN hl d1 d2 d3 (b := ro - 1) (i := 0) (Or.inl ⟨rfl, fun hc => by unfold z_capr at hc; omega⟩)
  obtain ⟨x2, y2, n2, v2, e2, e3, c2, p2⟩ := r_cside g hN hl d1 d2 d3 (b := ro + 1) (i := 2) (Or.inr ⟨rfl, fun _ => rfl⟩)
  have hn0 := (z_crn_one c0 c0).2.1
  have hn2 := (z_crn_one c2 c2).2.1
  have fin : ∀ r : Int32, r = l_Fcorners n0 n2 v0 v2 i → l_acorners sv (nI l) (nI k) i r := fun r h => Or.inr ⟨⟨z, hi⟩, _, n0, n2, v0, v2, hsp, ⟨c0, c2⟩, h⟩
  unfold l_Fcorners at fin
  obtain ⟨u, rfl⟩ : ∃ u, N = u + 1 + 1 + 1 := ⟨N - 3, by omega⟩
  rw [z_nm, z_nm, show (0 : Int32) = nI 0 from rfl]
  have stop : ∀ (a : Int32) (c : Nat), f_M_corners_L25 (u + 1 + 1 + 1) dp wd za (nI l) (nI k) i (u + 1) a (nI c) (nI 4) = some (.inl (nI c)) := by
    intro a c
    unfold f_M_corners_L25
    rw [if_pos (by decide)]
  by_cases c1 : i = -1
  · have s1 := (r_cstep (u := u + 1 + 1) (c := 0) (w := i) (v4 := i) (by omega) e0 e1 p0).1 c1 c1
    have s2 := (r_cstep (u := u + 1) (c := 0 + n0) (w := i) (v4 := -1) (by omega) e2 e3 p2).1 c1 rfl
    rw [s1, s2, stop, Nat.zero_add]
    refine Ok.s1 (Q := fun x => x = .inl (nI (n0 + n2))) (Ok.ret rfl) (fun x hx => ?_) (fun r hr => by cases hr)
    cases hx
    rw [if_pos c1]
    exact Ok.ret (fin _ (by rw [if_pos c1]))
  · have h0 : 0 ≤ i.toInt := z_nn hi c1
    obtain ⟨j, hj, rfl, hjj⟩ := z_nat h0
    have ej : (nI j).toInt.toNat = j := by rw [hjj]; rfl
    have s1 := (r_cstep (u := u + 1 + 1) (c := 0) (w := nI j) (v4 := nI j) (by omega) e0 e1 p0).2 j c1 rfl hj
    by_cases d1 : j < n0
    · rw [s1.1 d1]
      refine Ok.s1 (Q := fun x => x = .inr (nI (v0 j))) (Ok.ret rfl) (fun x hx => by cases hx) (fun r hr => ?_)
      cases hr
      exact fin _ (by rw [if_neg c1, if_neg (show ¬ nI (n0 + n2) ≤ nI j by rw [nI_leI (by omega) hj]; omega), ej, if_pos d1])
    · have s2 := (r_cstep (u := u + 1) (c := 0 + n0) (w := nI j) (v4 := nI (j - n0)) (by omega) e2 e3 p2).2 (j - n0) c1 rfl (by omega)
      rw [s1.2 d1]
      by_cases d2 : j - n0 < n2
      · rw [s2.1 d2]
        refine Ok.s1 (Q := fun x => x = .inr (nI (v2 (j - n0)))) (Ok.ret rfl) (fun x hx => by cases hx) (fun r hr => ?_)
        cases hr
        exact fin _ (by rw [if_neg c1, if_neg (show ¬ nI (n0 + n2) ≤ nI j by rw [nI_leI (by omega) hj]; omega), ej, if_neg d1])
      · rw [s2.2 d2, stop]
        refine Ok.s1 (Q := fun x => x = .inl (nI (0 + n0 + n2))) (Ok.ret rfl) (fun x hx => ?_) (fun r hr => by cases hr)
        cases hx
        rw [if_neg c1]
        exact Ok.ret (fin _ (by rw [if_neg c1, if_pos (show nI (n0 + n2) ≤ nI j by rw [nI_leI (by omega) hj]; omega)]))
end S12A
end
