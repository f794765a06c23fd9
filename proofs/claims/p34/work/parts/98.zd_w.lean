section
/-! the worlds of the law: the class's cells, the reference's, the kept atlases' -/
/-- the state that both sides hold: cuts, pieces -/
def l_T : Type := (Nat → Nat) × (Nat → Nat) × Nat × (Nat → Nat) × (Nat → Nat) × (Nat → Int32)
def l_R (sv : l_T) : Nat → Nat := sv.1
def l_C (sv : l_T) : Nat → Nat := sv.2.1
def l_m (sv : l_T) : Nat := sv.2.2.1
def l_L (sv : l_T) : Nat → Nat := sv.2.2.2.1
def l_K (sv : l_T) : Nat → Nat := sv.2.2.2.2.1
def l_Y (sv : l_T) : Nat → Int32 := sv.2.2.2.2.2
def l_mk (R C : Nat → Nat) (m : Nat) (L K : Nat → Nat) (Y : Nat → Int32) : l_T := (R, C, m, L, K, Y)
def l_sX (sv : l_T) (sz : Int32) (fl fk fy : Nat → Int32) : Prop := sz = nI (l_m sv) ∧ z_pc (z_pr (l_R sv)) (z_pr (l_C sv)) (l_m sv) (l_L sv) (l_K sv) ∧ z_rp (l_m sv) (l_L sv) (l_K sv) (l_Y sv) fl fk fy ∧ z_yr (l_m sv) (l_Y sv)
theorem z_st_of {H V : Nat → Nat} {m : Nat} {L K : Nat → Nat} {Y : Nat → Int32} {fl fk fy : Nat → Int32} (h : z_pc H V m L K) (hr : z_rp m L K Y fl fk fy) : z_st fl m := ⟨h.1, fun j hj => ⟨L j, (h.2.1 j hj).1, (hr j hj).1⟩⟩
theorem z_ps_of {H V : Nat → Nat} {m : Nat} {L K : Nat → Nat} {Y : Nat → Int32} {fl fk fy : Nat → Int32} (h : z_pc H V m L K) (hr : z_rp m L K Y fl fk fy) : z_ps H V fl fk m := ⟨h.1, fun i hi => ⟨L i, K i, (h.2.1 i hi).1, (hr i hi).1, (hr i hi).2.1, (h.2.1 i hi).2⟩⟩
def l_ok (sv : l_T) : Prop := CUT (l_R sv) (l_C sv) (z_pr (l_R sv)) (z_pr (l_C sv)) ∧ z_pc (z_pr (l_R sv)) (z_pr (l_C sv)) (l_m sv) (l_L sv) (l_K sv)
/-- what the five methods that change it do with it -/
def l_tcut (sv : l_T) (p q w r : Int32) (s2 : l_T) : Prop := ∃ R2 C2, z_cutR (l_R sv) (l_C sv) (l_m sv) p q w r R2 C2 ∧ s2 = l_mk R2 C2 (l_m sv) (l_L sv) (l_K sv) (l_Y sv)
def l_tstore (sv : l_T) (p q w r : Int32) (s2 : l_T) : Prop := ∃ m2 L2 K2 Y2, z_storeR (z_pr (l_R sv)) (z_pr (l_C sv)) (l_m sv) (l_L sv) (l_K sv) (l_Y sv) p q w r m2 L2 K2 Y2 ∧ s2 = l_mk (l_R sv) (l_C sv) m2 L2 K2 Y2
def l_tdrop (sv : l_T) (p q r : Int32) (s2 : l_T) : Prop := ∃ m2 L2 K2 Y2, z_dropR (z_pr (l_R sv)) (z_pr (l_C sv)) (l_m sv) (l_L sv) (l_K sv) (l_Y sv) p q r m2 L2 K2 Y2 ∧ s2 = l_mk (l_R sv) (l_C sv) m2 L2 K2 Y2
def l_trenew (sv : l_T) (p q r : Int32) (s2 : l_T) : Prop := ∃ Y2, z_renewR (l_m sv) (l_L sv) (l_Y sv) p q r Y2 ∧ s2 = l_mk (l_R sv) (l_C sv) (l_m sv) (l_L sv) (l_K sv) Y2
def l_ttidy (sv : l_T) (r : Int32) (s2 : l_T) : Prop := ∃ n2 m2 L2 K2 Y2, z_tdT (z_pr (l_R sv)) (z_pr (l_C sv)) (l_m sv) (l_m sv) (l_L sv) (l_K sv) (l_Y sv) 0 n2 m2 L2 K2 Y2 ∧ r = nI n2 ∧ s2 = l_mk (l_R sv) (l_C sv) m2 L2 K2 Y2
theorem l_tcut_one {sv s2 s3 : l_T} {p q w r r' : Int32} (_ : l_ok sv) (h1 : l_tcut sv p q w r s2) (h2 : l_tcut sv p q w r' s3) : r = r' ∧ s2 = s3 := by
  obtain ⟨R2, C2, h1, rfl⟩ := h1
  obtain ⟨R3, C3, h2, rfl⟩ := h2
  obtain ⟨a, b, c⟩ := z_cutR_one h1 h2
  exact ⟨a, by rw [b, c]⟩
theorem l_tstore_one {sv s2 s3 : l_T} {p q w r r' : Int32} (h : l_ok sv) (h1 : l_tstore sv p q w r s2) (h2 : l_tstore sv p q w r' s3) : r = r' ∧ s2 = s3 := by
  obtain ⟨m2, L2, K2, Y2, h1, rfl⟩ := h1
  obtain ⟨m3, L3, K3, Y3, h2, rfl⟩ := h2
  obtain ⟨a, b, c, d, e⟩ := z_storeR_one h.1 h.2 h1 h2
  exact ⟨a, by rw [b, c, d, e]⟩
theorem l_tdrop_one {sv s2 s3 : l_T} {p q r r' : Int32} (h : l_ok sv) (h1 : l_tdrop sv p q r s2) (h2 : l_tdrop sv p q r' s3) : r = r' ∧ s2 = s3 := by
  obtain ⟨m2, L2, K2, Y2, h1, rfl⟩ := h1
  obtain ⟨m3, L3, K3, Y3, h2, rfl⟩ := h2
  obtain ⟨a, b, c, d, e⟩ := z_dropR_one h.1 h.2 h1 h2
  exact ⟨a, by rw [b, c, d, e]⟩
theorem l_trenew_one {sv s2 s3 : l_T} {p q r r' : Int32} (_ : l_ok sv) (h1 : l_trenew sv p q r s2) (h2 : l_trenew sv p q r' s3) : r = r' ∧ s2 = s3 := by
  obtain ⟨Y2, h1, rfl⟩ := h1
  obtain ⟨Y3, h2, rfl⟩ := h2
  obtain ⟨a, b⟩ := z_renewR_one h1 h2
  exact ⟨a, by rw [b]⟩
theorem l_ttidy_one {sv s2 s3 : l_T} {r r' : Int32} (_ : l_ok sv) (h1 : l_ttidy sv r s2) (h2 : l_ttidy sv r' s3) : r = r' ∧ s2 = s3 := by
  obtain ⟨n2, m2, L2, K2, Y2, h1, rfl, rfl⟩ := h1
  obtain ⟨n3, m3, L3, K3, Y3, h2, rfl, rfl⟩ := h2
  obtain ⟨a, b, c, d, e⟩ := z_tdT_one _ _ _ _ _ _ _ _ _ _ _ _ _ _ _ _ h1 h2
  exact ⟨by rw [a], by rw [b, c, d, e]⟩
theorem z_cutR_pc {R C R2 C2 : Nat → Nat} {m : Nat} {L K : Nat → Nat} {p q w r : Int32} (h : z_pc (z_pr R) (z_pr C) m L K) (hq : z_cutR R C m p q w r R2 C2) : z_pc (z_pr R2) (z_pr C2) m L K := by
  by_cases h0 : m = 0
  · subst h0
    exact ⟨by omega, fun i hi => absurd hi (by omega), fun i j _ hj => absurd hj (by omega)⟩
  · rcases hq with ⟨-, -, rfl, rfl⟩ | ⟨-, -, -, rfl, rfl⟩ | ⟨v, y, z, -, a, -⟩
    · exact h
    · exact h
    · exact absurd a h0
/-- the states kept behind keep; the state behind undo -/
def l_kc (s : Nat) (sv : l_T) (kv : Nat → l_T) : Nat → l_T := if s = 8 then kv else fun j => if j = s then sv else kv j
def l_uc (sv : l_T) (kv : Nat → l_T) : Nat → l_T
  | 0 => sv
  | k + 1 => kv k
theorem l_kc8 {sv : l_T} {kv : Nat → l_T} : l_kc 8 sv kv = kv := if_pos rfl
theorem l_kcS {s : Nat} {sv : l_T} {kv : Nat → l_T} (h : ¬ s = 8) : l_kc s sv kv s = sv := by unfold l_kc; rw [if_neg h, if_pos rfl]
theorem l_kcN {s j : Nat} {sv : l_T} {kv : Nat → l_T} (h : ¬ s = 8) (e : ¬ j = s) : l_kc s sv kv j = kv j := by unfold l_kc; rw [if_neg h, if_neg e]
def l_sv0 : l_T := l_mk z_R1 z_R1 0 (fun _ => 0) (fun _ => 0) (fun _ => 0)
theorem l_sv0X : l_sX l_sv0 0 (fun _ => 0) (fun _ => 0) (fun _ => 0) := ⟨rfl, ⟨Nat.zero_le _, fun i hi => absurd hi (Nat.not_lt_zero _), fun i j _ hj => absurd hj (Nat.not_lt_zero _)⟩, fun i hi => absurd hi (Nat.not_lt_zero _), fun i hi => absurd hi (Nat.not_lt_zero _)⟩
def lX_at (ci : Nat → ClassId) (a : Nat → Nat) (u : Nat → Int32) (f : Nat → Nat → Int32) : va_W := [((a 0), .inr (0, [.ref (a 6), .ref (a 1), .int (u 0), .int (u 1), .int (u 2), .int (u 3)])), ((a 1), .inr (7, [.ref (a 6), .ref (a 2), .ref (a 3), .ref (a 4), .ref (a 5), .int (u 4), .int (u 5), .int (u 6), .int (u 7)])), ((a 2), .inl (ci 0, 60, .inl (f 0))), ((a 3), .inl (ci 0, 60, .inl (f 1))), ((a 4), .inl (ci 0, 60, .inl (f 2))), ((a 6), .inr (2, [.ref (a 7), .ref (a 8), .ref (a 9), .ref (a 10), .ref (a 11), .ref (a 12)])), ((a 7), .inl (ci 0, 5, .inl (f 3))), ((a 8), .inl (ci 0, 5, .inl (f 4))), ((a 9), .inl (ci 0, 5, .inl (f 5))), ((a 10), .inl (ci 0, 5, .inl (f 6))), ((a 11), .inl (ci 0, 5, .inl (f 7))), ((a 12), .inl (ci 0, 5, .inl (f 8)))]
def lX_ka (ci : Nat → ClassId) (ka : Nat → Nat → Nat) (ku : Nat → Nat → Int32) (kf : Nat → Nat → Nat → Int32) : va_W := lX_at ci (ka 0) (ku 0) (kf 0) ++ (lX_at ci (ka 1) (ku 1) (kf 1) ++ (lX_at ci (ka 2) (ku 2) (kf 2) ++ (lX_at ci (ka 3) (ku 3) (kf 3) ++ (lX_at ci (ka 4) (ku 4) (kf 4) ++ (lX_at ci (ka 5) (ku 5) (kf 5) ++ (lX_at ci (ka 6) (ku 6) (kf 6) ++ (lX_at ci (ka 7) (ku 7) (kf 7))))))))
def l_up {α : Type} (f : Nat → α) (k : Nat) (v : α) : Nat → α := fun j => cond (Nat.beq j k) v (f j)
def XW (ci : Nat → ClassId) (a_x n_wk : Nat) (a : Nat → Nat) (u : Nat → Int32) (f : Nat → Nat → Int32) (xk : Nat → Option Nat) (K : va_W) : va_W := (a_x, .inr (10, [.ref (a 0), .ref (a 1), .ref (a 2), .ref (a 3), .int (u 0), .ref (a 4), .ref (a 5), .ref (a 6), .ref (a 7), .ref (a 8), .ref (a 9), .ref (a 10), .ref (a 11), .ref (a 12)])) :: ((a 4), .inr (8, [.ref (a 13), .int (u 1)])) :: ((a 13), .inl (ci 0, 200, .inl (f 0))) :: ((a 2), .inr (7, [.ref (a 1), .ref (a 14), .ref (a 15), .ref (a 16), .ref (a 17), .int (u 2), .int (u 3), .int (u 4), .int (u 5)])) :: ((a 1), .inr (2, [.ref (a 18), .ref (a 19), .ref (a 20), .ref (a 21), .ref (a 22), .ref (a 23)])) :: ((a 18), .inl (ci 0, 5, .inl (f 1))) :: ((a 19), .inl (ci 0, 5, .inl (f 2))) :: ((a 20), .inl (ci 0, 5, .inl (f 3))) :: ((a 21), .inl (ci 0, 5, .inl (f 4))) :: ((a 22), .inl (ci 0, 5, .inl (f 5))) :: ((a 23), .inl (ci 0, 5, .inl (f 6))) :: ((a 7), .inr (6, [.ref (a 1), .ref (a 24), .ref (a 25), .ref (a 26), .int (u 6), .int (u 7), .int (u 8), .int (u 9), .int (u 10), .int (u 11), .int (u 12)])) :: ((a 10), .inr (4, [.ref (a 27), .int (u 13)])) :: ((a 27), .inl (ci 0, 40, .inl (f 7))) :: ((a 5), .inr (3, [.ref (a 1), .ref (a 4), .int (u 14), .int (u 15), .int (u 16), .int (u 17), .int (u 18), .int (u 19), .int (u 20)])) :: ((a 0), .inr (0, [.ref (a 1), .ref (a 2), .int (u 21), .int (u 22), .int (u 23), .int (u 24)])) :: ((a 24), .inl (ci 0, 4, .inl (f 8))) :: ((a 25), .inl (ci 0, 4, .inl (f 9))) :: ((a 8), .inr (9, [.ref (a 28), .ref (a 29), .ref (a 30), .int (u 25)])) :: ((a 29), .inl (ci 0, n_wk, .inl (f 10))) :: ((a 30), .inl (ci 0, n_wk, .inl (f 11))) :: ((a 28), .inr (6, [.ref (a 1), .ref (a 31), .ref (a 32), .ref (a 33), .int (u 26), .int (u 27), .int (u 28), .int (u 29), .int (u 30), .int (u 31), .int (u 32)])) :: ((a 31), .inl (ci 0, 4, .inl (f 12))) :: ((a 32), .inl (ci 0, 4, .inl (f 13))) :: ((a 26), .inl (ci 0, 4, .inl (f 14))) :: ((a 9), .inr (1, [.ref (a 1), .int (u 33), .int (u 34), .int (u 35), .int (u 36)])) :: ((a 11), .inr (4, [.ref (a 34), .int (u 37)])) :: ((a 34), .inl (ci 0, 40, .inl (f 15))) :: ((a 6), .inr (5, [.ref (a 5), .ref (a 4), .int (u 38), .int (u 39), .int (u 40), .int (u 41), .int (u 42)])) :: ((a 14), .inl (ci 0, 60, .inl (f 16))) :: ((a 15), .inl (ci 0, 60, .inl (f 17))) :: ((a 16), .inl (ci 0, 60, .inl (f 18))) :: ((a 17), .inl (ci 0, 5, .inl (f 19))) :: ((a 12), .inl (ci 0, 200, .inl (f 20))) :: ((a 3), .inl (ci 3, 8, .inr (.inr (.inr (.inr xk))))) :: K
def MW (ci : Nat → ClassId) (a_m : Nat) (a : Nat → Nat) (u : Nat → Int32) (v : Nat → Int64) (f : Nat → Nat → Int32) (h : Nat → Nat → Int64) : va_W := [(a_m, .inr (11, (.ref (a 0) :: .ref (a 1) :: .ref (a 2) :: .ref (a 3) :: .ref (a 4) :: .ref (a 5) :: .ref (a 6) :: .ref (a 7) :: .int (u 0) :: .int (u 1) :: .int (u 2) :: .int (u 3) :: .int (u 4) :: .int (u 5) :: .int (u 6) :: .int (u 7) :: .int (u 8) :: .int (u 9) :: .long (v 0) :: .long (v 1) :: .ref (a 8) :: .int (u 10) :: .int (u 11) :: .ref (a 9) :: .ref (a 10) :: .int (u 12) :: .int (u 13) :: .int (u 14) :: .int (u 15) :: .int (u 16) :: .int (u 17) :: .int (u 18) :: .int (u 19) :: .int (u 20) :: .ref (a 11) :: .ref (a 12) :: .ref (a 13) :: .int (u 21) :: .ref (a 14) :: .ref (a 15) :: .int (u 22) :: .ref (a 16) :: []))), ((a 7), .inl (ci 2, 200, .inl (f 0))), ((a 0), .inl (ci 0, 5, .inl (f 1))), ((a 1), .inl (ci 0, 5, .inl (f 2))), ((a 2), .inl (ci 0, 5, .inl (f 3))), ((a 3), .inl (ci 0, 5, .inl (f 4))), ((a 4), .inl (ci 0, 45, .inl (f 5))), ((a 5), .inl (ci 0, 20, .inl (f 6))), ((a 8), .inl (ci 1, 4, .inr (.inl (h 0)))), ((a 9), .inl (ci 0, 20000, .inl (f 7))), ((a 10), .inl (ci 0, 20000, .inl (f 8))), ((a 6), .inl (ci 0, 20, .inl (f 9))), ((a 11), .inl (ci 0, 60, .inl (f 10))), ((a 12), .inl (ci 0, 60, .inl (f 11))), ((a 13), .inl (ci 0, 60, .inl (f 12))), ((a 14), .inl (ci 0, 200, .inl (f 13))), ((a 15), .inl (ci 0, 1552, .inl (f 14))), ((a 16), .inl (ci 0, 8, .inl (f 15)))]
def lX_ok (sv : l_T) (u : Nat → Int32) (f : Nat → Nat → Int32) : Prop := l_sX sv (u 4) (f 0) (f 1) (f 2) ∧ z_kg (l_R sv) (l_C sv) (f 3) (f 4)
def lM_ok (sv : l_T) (kp : Nat → Int32) (j : Nat) : Prop := z_mkT (l_R sv) (l_C sv) (l_m sv) (l_L sv) (l_K sv) (l_Y sv) kp j ∧ z_pc (z_pr (l_R sv)) (z_pr (l_C sv)) (l_m sv) (l_L sv) (l_K sv) ∧ z_yr (l_m sv) (l_Y sv)
/-- a good state of the class: its tape holds t bytes, its walk has rows of n -/
def XI (ci : Nat → ClassId) (a_x : Nat) (Wd : va_W) (t n_wk s0 : Nat) (sv : l_T) (kv : Nat → l_T) : Prop := ∃ (a : Nat → Nat) (u : Nat → Int32) (f : Nat → Nat → Int32) (xk : Nat → Option Nat) (ka : Nat → Nat → Nat) (ku : Nat → Nat → Int32) (kf : Nat → Nat → Nat → Int32), Wd = XW ci a_x n_wk a u f xk (lX_ka ci ka ku kf) ∧ (t ≤ 200 ∧ (u 1) = nI t) ∧ ((n_wk = 0 ∨ ∃ k, n_wk = 2130 * k + 2) ∧ n_wk ≤ 20000) ∧ GOK (l_R sv) (l_C sv) (z_pr (l_R sv)) (z_pr (l_C sv)) (f 1) (f 2) (f 3) (f 4) (f 5) (f 6) ∧ l_sX sv (u 2) (f 16) (f 17) (f 18) ∧ (s0 ≤ 8 ∧ (u 0) = nI s0 ∧ ∀ j, j < s0 → lX_ok (kv j) (ku j) (kf j)) ∧ (∀ j, j < 8 → xk j = some (ka j 0))
/-- a good state of the reference -/
def MI (ci : Nat → ClassId) (a_m : Nat) (Wd : va_W) (t s0 : Nat) (sv : l_T) (kv : Nat → l_T) : Prop := ∃ (a : Nat → Nat) (u : Nat → Int32) (v : Nat → Int64) (f : Nat → Nat → Int32) (h : Nat → Nat → Int64), Wd = MW ci a_m a u v f h ∧ (t ≤ 200 ∧ (u 0) = nI t) ∧ MOK (l_R sv) (l_C sv) (z_pr (l_R sv)) (z_pr (l_C sv)) (f 1) (f 2) (f 3) (f 4) (f 5) ∧ l_sX sv (u 19) (f 10) (f 11) (f 12) ∧ (s0 ≤ 8 ∧ (u 20) = nI s0 ∧ ∀ j, j < s0 → lM_ok (kv j) (f 14) j)
theorem XI.ok {ci : Nat → ClassId} {a_x t n s0 : Nat} {Wd : va_W} {sv : l_T} {kv : Nat → l_T} (h : XI ci a_x Wd t n s0 sv kv) : l_ok sv := by
  obtain ⟨a, u, f, xk, ka, ku, kf, -, -, -, g, hs, -⟩ := h
  exact ⟨g.2, hs.2.1⟩
/-- how many states are kept behind keep, undo; what they answer -/
def l_ks (s : Nat) : Nat := if s = 8 then 8 else s + 1
def l_kr (s : Nat) : Int32 := if s = 8 then -1 else nI (s + 1)
def l_ur (s : Nat) : Int32 := if s = 0 then -1 else nI (s - 1)
/-- how many bytes the tape holds behind feed, named, ask -/
def l_tf (t : Nat) : Nat := if t ≤ 180 then t + 20 else t
def l_ta (p : Int32) (t : Nat) : Nat := if 1 ≤ p.toInt ∧ p.toInt ≤ 100 ∧ p.toInt ≤ t then 0 else t
def l_tn (p q : Int32) (t : Nat) : Nat := if (1 ≤ p.toInt ∧ p.toInt ≤ 40 ∧ p.toInt ≤ t) ∧ (0 ≤ q.toInt ∧ q.toInt ≤ 1) then 0 else t
theorem l_tfB {t : Nat} (h : t ≤ 200) : l_tf t ≤ 200 := by unfold l_tf; split <;> omega
theorem l_taB {p : Int32} {t : Nat} (h : t ≤ 200) : l_ta p t ≤ 200 := by unfold l_ta; split <;> omega
theorem l_tnB {p q : Int32} {t : Nat} (h : t ≤ 200) : l_tn p q t ≤ 200 := by unfold l_tn; split <;> omega
theorem l_ta1 {p : Int32} {t : Nat} (h : z_txc 100 p t) : l_ta p t = 0 := if_pos h
theorem l_ta2 {p : Int32} {t : Nat} (h : ¬ z_txc 100 p t) : l_ta p t = t := if_neg h
theorem l_tn1 {p q : Int32} {t : Nat} (h : z_txc 40 p t ∧ (0 ≤ q.toInt ∧ q.toInt ≤ 1)) : l_tn p q t = 0 := if_pos h
theorem l_tn2 {p q : Int32} {t : Nat} (h : ¬ (z_txc 40 p t ∧ (0 ≤ q.toInt ∧ q.toInt ≤ 1))) : l_tn p q t = t := if_neg h
theorem Met.imp {l : Launch} {y : MethodName} {ws : List Cond} {rm : Room} {Pc Pc2 : Array Value → State → Prop} {Qc Qc2 : Array Value → State → Outcome → State → Prop} {mc ms : Nat} {free : Addr → Prop} (h : Met l y ws rm Pc Qc mc ms free) (hp : ∀ a s, Pc2 a s → Pc a s) (hq : ∀ a s o t, Pc2 a s → Qc a s o t → Qc2 a s o t) : Met l y ws rm Pc2 Qc2 mc ms free := by
  intro p e h1 h2 h3 s m args below h4 h5 h6 h7
  obtain ⟨n, o, a1, a2, a3, a4, a5⟩ := h p e h1 h2 h3 s m args below h4 h5 (hp _ _ h6) h7
  exact ⟨n, o, a1, a2, a3, hq _ _ _ _ h6 a4, a5⟩
section LWR
variable {l : Launch} {D : va_G} {ci : Nat → ClassId} {A : Nat → Prop} {sa : Nat → Nat} {y : MethodName} {ws : List Cond} {rm : Room} {av : List Value} {v : Option Value} {mc ms : Nat} {Wd W1 W2 W3 : va_W}
theorem q_wr (n : Nat) (is : List Nat) (e1 : q_pk n is Wd = W1) (ok1 : q_ok n is Wd) (is2 : List Nat) (h : Met l y ws rm (va_Pc av (q_N D ci A sa W1)) (q_Q v (q_O D A W2) A) mc ms A) (e2 : q_pk n is2 W2 = W3) (ok2 : q_ok n is2 W2) : Met l y ws rm (va_Pc av (q_N D ci A sa Wd)) (q_Q v (q_O D A W3) A) mc ms A :=
  h.imp (fun _ _ h => ⟨h.1, q_pk_P h.2.1 e1, q_pk_D h.2.2.1 e1 ok1, h.2.2.2⟩) (fun _ _ _ _ _ h => ⟨h.1, ⟨q_pk_P h.2.1.1 e2, q_pk_D h.2.1.2 e2 ok2⟩, h.2.2⟩)
theorem q_wrX {W2x W3x : Nat → Nat → va_W} (n : Nat) (is : List Nat) (e1 : q_pk n is Wd = W1) (ok1 : q_ok n is Wd) (is2 : List Nat) (h : Met l y ws rm (va_Pc av (q_N D ci A sa W1)) (q_Q v (fun t => ∃ b1 b2 : Nat, q_O D A (W2x b1 b2) t) A) mc ms A) (e2 : ∀ b1 b2, q_pk n is2 (W2x b1 b2) = W3x b1 b2) (ok2 : ∀ b1 b2, q_ok n is2 (W2x b1 b2)) : Met l y ws rm (va_Pc av (q_N D ci A sa Wd)) (q_Q v (fun t => ∃ b1 b2 : Nat, q_O D A (W3x b1 b2) t) A) mc ms A :=
  h.imp (fun _ _ h => ⟨h.1, q_pk_P h.2.1 e1, q_pk_D h.2.2.1 e1 ok1, h.2.2.2⟩) (fun _ _ _ _ _ h => ⟨h.1, h.2.1.elim (fun b1 q => q.elim (fun b2 q => ⟨b1, b2, q_pk_P q.1 (e2 b1 b2), q_pk_D q.2 (e2 b1 b2) (ok2 b1 b2)⟩)), h.2.2⟩)
theorem q_wrR (n : Nat) (is : List Nat) (e1 : q_pk n is Wd = W1) (ok1 : q_ok n is Wd) (h : Met l y ws rm (va_Pc av (q_N D ci A sa W1)) (q_R v) mc ms A) : Met l y ws rm (va_Pc av (q_N D ci A sa Wd)) (q_Q v (q_O D A Wd) A) mc ms A :=
  h.imp (fun _ _ h => ⟨h.1, q_pk_P h.2.1 e1, q_pk_D h.2.2.1 e1 ok1, h.2.2.2⟩) (fun _ _ _ _ hp h => ⟨h.1, ⟨by rw [h.2]; exact hp.2.1, hp.2.2.1⟩, by rw [h.2]; exact Nat.le_refl _, fun q _ _ => by rw [h.2]⟩)
/-- what a call leaves: some world with I -/
theorem q_wrI {I : va_W → Prop} {R : va_W} (h : Met l y ws rm (va_Pc av (q_N D ci A sa Wd)) (q_Q v (q_O D A (W3 ++ R)) A) mc ms A) (hI : I W3) : Met l y ws rm (va_Pc av (q_N D ci A sa Wd)) (q_Q v (fun t => ∃ W3, I W3 ∧ q_O D A (W3 ++ R) t) A) mc ms A :=
  h.imp (fun _ _ h => h) (fun _ _ _ _ _ h => ⟨h.1, ⟨W3, hI, h.2.1⟩, h.2.2⟩)
theorem q_wrIX {I : va_W → Prop} {R : va_W} {W3x : Nat → Nat → va_W} (h : Met l y ws rm (va_Pc av (q_N D ci A sa Wd)) (q_Q v (fun t => ∃ b1 b2 : Nat, q_O D A (W3x b1 b2 ++ R) t) A) mc ms A) (hI : ∀ b1 b2, I (W3x b1 b2)) : Met l y ws rm (va_Pc av (q_N D ci A sa Wd)) (q_Q v (fun t => ∃ W3, I W3 ∧ q_O D A (W3 ++ R) t) A) mc ms A :=
  h.imp (fun _ _ h => h) (fun _ _ _ _ _ h => ⟨h.1, h.2.1.elim (fun b1 q => q.elim (fun b2 q => ⟨_, hI b1 b2, q⟩)), h.2.2⟩)
end LWR
end
section
/-! answers: common, at -/
section S2A
variable {rc cc br zc rw sh cr cq dp wd za fl fk fy : Nat → Int32} {sv : l_T} {N l : Nat}
def z_cmn (a b : Nat → Nat) : Nat → Int32
  | 0 => -2
  | v + 1 => if a v = b v then nI v else z_cmn a b v
def l_kpl (sv : l_T) (p : Int32) (o v : Nat) : Nat := z_kp (z_pr (l_R sv) v) (z_pr (l_C sv) v) p.toInt o
def l_acommon (sv : l_T) (p q p2 q2 r : Int32) : Prop := (¬ (z_plV p q ∧ z_plV p2 q2) ∧ r = -1) ∨ (∃ o o2, (z_plV p q ∧ z_plV p2 q2) ∧ o < 1296000 ∧ o2 < 1296000 ∧ q = nI o ∧ q2 = nI o2 ∧ r = z_cmn (l_kpl sv p o) (l_kpl sv p2 o2) 5)
theorem l_acommon_one {p q p2 q2 r r' : Int32} (_ : l_ok sv) (h1 : l_acommon sv p q p2 q2 r) (h2 : l_acommon sv p q p2 q2 r') : r = r' := by
  rcases h1 with ⟨a, b⟩ | ⟨o, o2, a, b1, b2, c1, c2, d⟩ <;> rcases h2 with ⟨a', b'⟩ | ⟨o', o2', a', b1', b2', c1', c2', d'⟩
  · exact b.trans b'.symm
  · exact absurd a' a
  · exact absurd a a'
  · have e : o = o' := by rw [c1, nI_eq (by omega) (by omega)] at c1'; exact c1'
    have e2 : o2 = o2' := by rw [c2, nI_eq (by omega) (by omega)] at c2'; exact c2'
    subst e e2
    exact d.trans d'.symm
theorem a_x_common_L (g : GOK (l_R sv) (l_C sv) (z_pr (l_R sv)) (z_pr (l_C sv)) rc cc br zc rw sh) {p p2 : Int32} {o o2 : Nat} (ho : o < 1296000) (ho2 : o2 < 1296000) (h1 : -324000 ≤ p.toInt ∧ p.toInt ≤ 324000) (h2 : -324000 ≤ p2.toInt ∧ p2.toInt ≤ 324000) : ∀ n v, v ≤ 5 → v < n → Ok (f_X_common_L22 br rw sh zc p (nI o) p2 (nI o2) n (nI v - 1)) (fun x => (x = .inl () ∧ z_cmn (l_kpl sv p o) (l_kpl sv p2 o2) v = -2) ∨ (∃ r, x = .inr r ∧ z_cmn (l_kpl sv p o) (l_kpl sv p2 o2) v = r)) := by
  intro n
  induction n with
  | zero => intro v _ h; omega
  | succ n ih =>
    intro v hv hn
    rw [f_X_common_L22]
    by_cases h0 : v = 0
    · subst h0
      exact Ok.ite (fun _ => Ok.ret (Or.inl ⟨rfl, rfl⟩)) (fun c => absurd (by decide) c)
    · obtain ⟨u, rfl⟩ : ∃ u, v = u + 1 := ⟨v - 1, by omega⟩
      have hu : u < 5 := by omega
      have k1 : l_kpl sv p o u < _ := z_kp_lt g.2 hu p.toInt ho
      have k2 : l_kpl sv p2 o2 u < _ := z_kp_lt g.2 hu p2.toInt ho2
      have hs := g.2.sh hu
      rw [z_sub1 (by omega), Nat.add_sub_cancel]
      refine Ok.ite (fun c => absurd c (z_lt0 (by omega))) (fun _ => ?_)
      rw [k_keyAtPlace g hu h1.1 h1.2 ho, q_b1_s, k_keyAtPlace g hu h2.1 h2.2 ho2, q_b1_s]
      have e1 : z_kp (z_pr (l_R sv) u) (z_pr (l_C sv) u) p.toInt o = l_kpl sv p o u := rfl
      have e2 : z_kp (z_pr (l_R sv) u) (z_pr (l_C sv) u) p2.toInt o2 = l_kpl sv p2 o2 u := rfl
      rw [e1, e2]
      refine Ok.ite (fun c => ?_) (fun c => ?_)
      all_goals rw [nI_eq (by omega) (by omega)] at c
      · exact Ok.ret (Or.inr ⟨_, rfl, if_pos c⟩)
      · rw [z_nm, z_m1]
        have e3 : z_cmn (l_kpl sv p o) (l_kpl sv p2 o2) (u + 1) = z_cmn (l_kpl sv p o) (l_kpl sv p2 o2) u := if_neg c
        rw [e3]
        exact ih u (by omega) (by omega)
theorem a_m_common_L (g : MOK (l_R sv) (l_C sv) (z_pr (l_R sv)) (z_pr (l_C sv)) cr cq dp wd za) {p p2 : Int32} {o o2 : Nat} (ho : o < 1296000) (ho2 : o2 < 1296000) : ∀ n v, v ≤ 5 → v < n → Ok (f_M_common__L22 dp wd za p (nI o) p2 (nI o2) n (nI v - 1)) (fun x => (x = .inl () ∧ z_cmn (l_kpl sv p o) (l_kpl sv p2 o2) v = -2) ∨ (∃ r, x = .inr r ∧ z_cmn (l_kpl sv p o) (l_kpl sv p2 o2) v = r)) := by
  intro n
  induction n with
  | zero => intro v _ h; omega
  | succ n ih =>
    intro v hv hn
    rw [f_M_common__L22]
    by_cases h0 : v = 0
    · subst h0
      exact Ok.ite (fun _ => Ok.ret (Or.inl ⟨rfl, rfl⟩)) (fun c => absurd (by decide) c)
    · obtain ⟨u, rfl⟩ : ∃ u, v = u + 1 := ⟨v - 1, by omega⟩
      have hu : u < 5 := by omega
      have k1 : l_kpl sv p o u < _ := z_kp_lt g.2.2 hu p.toInt ho
      have k2 : l_kpl sv p2 o2 u < _ := z_kp_lt g.2.2 hu p2.toInt ho2
      have hs := g.2.2.sh hu
      rw [z_sub1 (by omega), Nat.add_sub_cancel]
      refine Ok.ite (fun c => absurd c (z_lt0 (by omega))) (fun _ => ?_)
      rw [m_keyAtPlace g hu p ho, q_b1_s, m_keyAtPlace g hu p2 ho2, q_b1_s]
      have e1 : z_kp (z_pr (l_R sv) u) (z_pr (l_C sv) u) p.toInt o = l_kpl sv p o u := rfl
      have e2 : z_kp (z_pr (l_R sv) u) (z_pr (l_C sv) u) p2.toInt o2 = l_kpl sv p2 o2 u := rfl
      rw [e1, e2]
      refine Ok.ite (fun c => ?_) (fun c => ?_)
      all_goals rw [nI_eq (by omega) (by omega)] at c
      · exact Ok.ret (Or.inr ⟨_, rfl, if_pos c⟩)
      · rw [z_nm, z_m1]
        have e3 : z_cmn (l_kpl sv p o) (l_kpl sv p2 o2) (u + 1) = z_cmn (l_kpl sv p o) (l_kpl sv p2 o2) u := if_neg c
        rw [e3]
        exact ih u (by omega) (by omega)
theorem a_x_common (g : GOK (l_R sv) (l_C sv) (z_pr (l_R sv)) (z_pr (l_C sv)) rc cc br zc rw sh) (hN : 1000000 ≤ N) (p q p2 q2 : Int32) : Ok (f_X_common N br zc rw sh p q p2 q2) (fun x => l_acommon sv p q p2 q2 x) := by
  unfold f_X_common
  refine Ok.b1 (r_isPlaceX p q) (fun v1 h1 => ?_)
  rcases h1 with ⟨z, rfl⟩ | ⟨z, rfl⟩
  rotate_left
  · exact Ok.ite (fun _ => Ok.ret (Or.inl ⟨fun u => z u.1, rfl⟩)) (fun c => absurd rfl c)
  refine Ok.ite (fun c => absurd c (by decide)) (fun _ => Ok.b1 (r_isPlaceX p2 q2) (fun v1 h1 => ?_))
  rcases h1 with ⟨y, rfl⟩ | ⟨y, rfl⟩
  rotate_left
  · exact Ok.ite (fun _ => Ok.ret (Or.inl ⟨fun u => y u.2, rfl⟩)) (fun c => absurd rfl c)
  refine Ok.ite (fun c => absurd c (by decide)) (fun _ => Ok.nm ?_)
  obtain ⟨o, ho, rfl⟩ := z_plV_o z
  obtain ⟨o2, ho2, rfl⟩ := z_plV_o y
  have t := a_x_common_L g ho ho2 z.1 y.1 N 5 (Nat.le_refl _) (by omega)
  rw [show nI 5 - 1 = (4 : Int32) from rfl] at t
  refine Ok.s0 t (fun h => Ok.ret (Or.inr ⟨o, o2, ⟨z, y⟩, ho, ho2, rfl, rfl, ?_⟩)) (fun r h => Or.inr ⟨o, o2, ⟨z, y⟩, ho, ho2, rfl, rfl, ?_⟩)
  · rcases h with ⟨-, h⟩ | ⟨r, h, -⟩
    · exact h.symm
    · cases h
  · rcases h with ⟨h, -⟩ | ⟨r', h, h2⟩
    · cases h
    · cases h; exact h2.symm
theorem a_m_common (g : MOK (l_R sv) (l_C sv) (z_pr (l_R sv)) (z_pr (l_C sv)) cr cq dp wd za) (hN : 1000000 ≤ N) (p q p2 q2 : Int32) : Ok (f_M_common_ N dp wd za p q p2 q2) (fun x => l_acommon sv p q p2 q2 x) := by
  unfold f_M_common_
  refine Ok.b1 (r_isPlaceM p q) (fun v1 h1 => ?_)
  rcases h1 with ⟨z, rfl⟩ | ⟨z, rfl⟩
  rotate_left
  · exact Ok.ite (fun _ => Ok.ret (Or.inl ⟨fun u => z u.1, rfl⟩)) (fun c => absurd rfl c)
  refine Ok.ite (fun c => absurd c (by decide)) (fun _ => Ok.b1 (r_isPlaceM p2 q2) (fun v1 h1 => ?_))
  rcases h1 with ⟨y, rfl⟩ | ⟨y, rfl⟩
  rotate_left
  · exact Ok.ite (fun _ => Ok.ret (Or.inl ⟨fun u => y u.2, rfl⟩)) (fun c => absurd rfl c)
  refine Ok.ite (fun c => absurd c (by decide)) (fun _ => Ok.nm ?_)
  obtain ⟨o, ho, rfl⟩ := z_plV_o z
  obtain ⟨o2, ho2, rfl⟩ := z_plV_o y
  have t := a_m_common_L g (p := p) (p2 := p2) ho ho2 N 5 (Nat.le_refl _) (by omega)
  rw [show nI 5 - 1 = (4 : Int32) from rfl] at t
  refine Ok.s0 t (fun h => Ok.ret (Or.inr ⟨o, o2, ⟨z, y⟩, ho, ho2, rfl, rfl, ?_⟩)) (fun r h => Or.inr ⟨o, o2, ⟨z, y⟩, ho, ho2, rfl, rfl, ?_⟩)
  · rcases h with ⟨-, h⟩ | ⟨r, h, -⟩
    · exact h.symm
    · cases h
  · rcases h with ⟨h, -⟩ | ⟨r', h, h2⟩
    · cases h
    · cases h; exact h2.symm
/-! at -/
def z_vat (R C : Nat → Nat) (l ro pl : Nat) (w : Int32) : Int32 := if w = 0 then nI ro else if w = 1 then nI pl else if w = 2 then nI (z_rl (z_pr R l) (z_pr C l) ro) else if w = 3 then (if ro = 0 then 100 else if ro = 44 * z_pr R l + 1 then -100 else 21 - nI ((ro - 1) / z_pr R l)) else if w = 4 then (if ro = 0 ∨ ro = 44 * z_pr R l + 1 then 0 else nI (pl / z_pr C l)) else if w = 5 then (if ro = 0 ∨ ro = 44 * z_pr R l + 1 then 0 else if l = 0 then nI (pl + 1) else nI ((ro - 1) % R l * C l + pl % C l + 1)) else -1000000
def l_aat (sv : l_T) (p q w r : Int32) : Prop := (¬ (z_hs (z_pr (l_R sv)) (z_pr (l_C sv)) p q) ∧ r = -1000000) ∨ (∃ l k ro pl, z_hs (z_pr (l_R sv)) (z_pr (l_C sv)) p q ∧ l < 5 ∧ k < 20000000 ∧ p = nI l ∧ q = nI k ∧ ro ≤ 44 * z_pr (l_R sv) l + 1 ∧ pl < z_rl (z_pr (l_R sv) l) (z_pr (l_C sv) l) ro ∧ k = z_rs (z_pr (l_R sv) l) (z_pr (l_C sv) l) ro + pl ∧ r = z_vat (l_R sv) (l_C sv) l ro pl w)
theorem l_aat_one {p q w r r' : Int32} (h : l_ok sv) (h1 : l_aat sv p q w r) (h2 : l_aat sv p q w r') : r = r' := by
  rcases h1 with ⟨a, b⟩ | ⟨l, k, ro, pl, a, b1, b2, c1, c2, d1, d2, d3, e⟩ <;> rcases h2 with ⟨a', b'⟩ | ⟨l', k', ro', pl', a', b1', b2', c1', c2', d1', d2', d3', e'⟩
  · exact b.trans b'.symm
  · exact absurd a' a
  · exact absurd a a'
  · have e1 : l = l' := by rw [c1, nI_eq (by omega) (by omega)] at c1'; exact c1'
    have e2 : k = k' := by rw [c2, nI_eq (by omega) (by omega)] at c2'; exact c2'
    subst e1 e2
    have e3 : ro = ro' := z_row_one (V := z_pr (l_C sv) l) (h.1.pos l b1).1 d1 d1' (k := k) (by omega) (by omega) (by omega) (by omega)
    subst e3
    have e4 : pl = pl' := by omega
    subst e4
    exact e.trans e'.symm
theorem a_x_at (g : GOK (l_R sv) (l_C sv) (z_pr (l_R sv)) (z_pr (l_C sv)) rc cc br zc rw sh) (hN : 1000000 ≤ N) (a1 a2 a3 a4 a5 a6 p q w : Int32) : Ok (f_X_at N a1 a2 a3 a4 a5 a6 rc cc br zc rw sh p q w) (fun x => l_aat sv p q w x.1) := by
  unfold f_X_at
  refine Ok.b1 (r_hasSheet g p q) (fun v1 h1 => ?_)
  rcases h1 with ⟨z, rfl⟩ | ⟨z, rfl⟩
  rotate_left
  · exact Ok.ite (fun _ => Ok.ret (Or.inl ⟨z, rfl⟩)) (fun c => absurd rfl c)
  refine Ok.ite (fun c => absurd c (by decide)) (fun _ => ?_)
  have z' := z
  obtain ⟨l, k, hl, rfl, rfl, hk⟩ := z'
  have hs := g.2.sh hl
  have hp := g.2.pos l hl
  have hv := g.2.hv hl
  obtain ⟨ro, pl, e, d1, d2, d3⟩ := k_put (N := N) g (by omega) hl hk a1 a2 a3 a4 a5 a6
  obtain ⟨g1, g2, g3, g4, g5, g6⟩ := g.at hl
  have hL := (z_rl_pos (V := z_pr (l_C sv) l) hp.1 hp.2 d1).2
  rw [e, q_b6_s]
  have fin : ∀ (r v2 v3 v4 v5 v6 v7 : Int32), r = z_vat (l_R sv) (l_C sv) l ro pl w → Ok (some (r, v2, v3, v4, v5, v6, v7)) (fun x => l_aat sv (nI l) (nI k) w x.1) := fun r _ _ _ _ _ _ h => Ok.ret (Or.inr ⟨l, k, ro, pl, z, hl, by omega, rfl, rfl, d1, d2, d3, h⟩)
  unfold z_vat at fin
  have hcap : (ro = 0 ∨ ro = 44 * z_pr (l_R sv) l + 1) → z_cap (z_pr (l_R sv) l) ro = 1 := fun h => if_pos h
  have hcap0 : ¬ (ro = 0 ∨ ro = 44 * z_pr (l_R sv) l + 1) → z_cap (z_pr (l_R sv) l) ro = 0 := fun h => if_neg h
  by_cases c0 : w = 0
  · rw [if_pos c0]; exact fin _ _ _ _ _ _ _ (by rw [if_pos c0])
  by_cases c1 : w = 1
  · rw [if_neg c0, if_pos c1]; exact fin _ _ _ _ _ _ _ (by rw [if_neg c0, if_pos c1])
  by_cases c2 : w = 2
  · rw [if_neg c0, if_neg c1, if_pos c2]; exact fin _ _ _ _ _ _ _ (by rw [if_neg c0, if_neg c1, if_pos c2])
  by_cases c3 : w = 3
  · rw [if_neg c0, if_neg c1, if_neg c2, if_pos c3]
    unfold f_Spot_band
    by_cases hc : ro = 0 ∨ ro = 44 * z_pr (l_R sv) l + 1
    · rw [hcap hc, if_neg (by decide)]
      by_cases r0 : ro = 0
      · rw [if_pos (by rw [r0]; rfl), q_b1_s]
        exact fin _ _ _ _ _ _ _ (by rw [if_neg c0, if_neg c1, if_neg c2, if_pos c3, if_pos r0])
      · rw [if_neg (by rw [z_eq0 (by omega)]; exact r0), q_b1_s]
        exact fin _ _ _ _ _ _ _ (by rw [if_neg c0, if_neg c1, if_neg c2, if_pos c3, if_neg r0, if_pos (by omega)])
    · rw [hcap0 hc, if_pos rfl, z_ai hl (by omega), g3, z_sub1 (by omega), z_dv (by omega) (by omega) (by omega), q_b1_s]
      exact fin _ _ _ _ _ _ _ (by rw [if_neg c0, if_neg c1, if_neg c2, if_pos c3, if_neg (by omega), if_neg (by omega)])
  by_cases c4 : w = 4
  · rw [if_neg c0, if_neg c1, if_neg c2, if_neg c3, if_pos c4]
    unfold f_Spot_zone
    by_cases hc : ro = 0 ∨ ro = 44 * z_pr (l_R sv) l + 1
    · rw [hcap hc, if_neg (by decide), q_b1_s]
      exact fin _ _ _ _ _ _ _ (by rw [if_neg c0, if_neg c1, if_neg c2, if_neg c3, if_pos c4, if_pos hc])
    · rw [hcap0 hc, if_pos rfl, z_ai hl (by omega), g4, z_dv (by omega) (by omega) (by omega), q_b1_s]
      exact fin _ _ _ _ _ _ _ (by rw [if_neg c0, if_neg c1, if_neg c2, if_neg c3, if_pos c4, if_neg hc])
  by_cases c5 : w = 5
  · rw [if_neg c0, if_neg c1, if_neg c2, if_neg c3, if_neg c4, if_pos c5]
    unfold f_Spot_numberOf
    by_cases hc : ro = 0 ∨ ro = 44 * z_pr (l_R sv) l + 1
    · rw [hcap hc, if_neg (by decide), q_b1_s]
      exact fin _ _ _ _ _ _ _ (by rw [if_neg c0, if_neg c1, if_neg c2, if_neg c3, if_neg c4, if_pos c5, if_pos hc])
    · rw [hcap0 hc, if_pos rfl]
      by_cases l0 : l = 0
      · subst l0
        rw [if_pos (by rfl)]
        unfold f_Spot_zone
        have v1 : z_pr (l_C sv) 0 = 1 := g.2.2.2.2.1
        rw [if_pos rfl, z_ai hl (by omega), g4, z_dv (by omega) (by omega) (by omega), q_b1_s, q_b1_s, v1, Nat.div_one, nI_1]
        exact fin _ _ _ _ _ _ _ (by rw [if_neg c0, if_neg c1, if_neg c2, if_neg c3, if_neg c4, if_pos c5, if_neg hc, if_pos rfl])
      · have hRC := g.2.2.2.2.2.2.1 l hl
        have m1 : (ro - 1) % l_R sv l < 6 := Nat.lt_of_lt_of_le (Nat.mod_lt _ (by omega)) hRC.2.1
        have m2 : pl % l_C sv l < 6 := Nat.lt_of_lt_of_le (Nat.mod_lt _ (by omega)) hRC.2.2.2
        rw [if_neg (by rw [z_eq0 (by omega)]; exact l0)]
        unfold f_Grid_rowsIn f_Grid_columnsIn
        rw [z_ai hl (by omega), z_ai hl (by omega), g3, z_dv (by omega) (by omega) (by omega), Nat.div_self hp.1, q_b1_s, z_sub1 (by omega), z_dv (by omega) (by omega) (by omega), Nat.div_one, z_ai hl (by omega), g1, z_rm (by omega) (by omega) (by omega), z_ai hl (by omega), z_ai hl (by omega), g4, z_dv (by omega) (by omega) (by omega), Nat.div_self hp.2, q_b1_s, z_dv (by omega) (by omega) (by omega), Nat.div_one, z_ai hl (by omega), g2, z_rm (by omega) (by omega) (by omega), z_ai hl (by omega), g2, q_b1_s, pk_mul, nI_add, nI_1]
        exact fin _ _ _ _ _ _ _ (by rw [if_neg c0, if_neg c1, if_neg c2, if_neg c3, if_neg c4, if_pos c5, if_neg hc, if_neg l0])
  · rw [if_neg c0, if_neg c1, if_neg c2, if_neg c3, if_neg c4, if_neg c5]
    exact fin _ _ _ _ _ _ _ (by rw [if_neg c0, if_neg c1, if_neg c2, if_neg c3, if_neg c4, if_neg c5])
theorem z_pr_dvd {R : Nat → Nat} (hl : l ≠ 0) : R l ∣ z_pr R l := by
  cases l with
  | zero => exact absurd rfl hl
  | succ l => exact Nat.dvd_mul_left _ _
theorem z_capk_row (g : CUT (l_R sv) (l_C sv) (z_pr (l_R sv)) (z_pr (l_C sv))) (hl : l < 5) {k ro pl : Nat} (d1 : ro ≤ 44 * z_pr (l_R sv) l + 1) (d2 : pl < z_rl (z_pr (l_R sv) l) (z_pr (l_C sv) l) ro) (d3 : k = z_rs (z_pr (l_R sv) l) (z_pr (l_C sv) l) ro + pl) (hc : z_capk (z_pr (l_R sv) l) (z_pr (l_C sv) l) k) : (ro = 0 ∧ k = 0) ∨ (ro = 44 * z_pr (l_R sv) l + 1 ∧ k ≠ 0) := by
  have hp := g.pos l hl
  rcases hc with h | h
  · refine Or.inl ⟨?_, h⟩
    have e0 : z_rs (z_pr (l_R sv) l) (z_pr (l_C sv) l) 0 = 0 := if_pos rfl
    have e1 : z_rl (z_pr (l_R sv) l) (z_pr (l_C sv) l) 0 = 1 := if_pos (Or.inl rfl)
    exact z_row_one (V := z_pr (l_C sv) l) hp.1 d1 (b := 0) (by omega) (k := k) (by omega) (by omega) (by omega) (by omega)
  · refine Or.inr ⟨?_, by omega⟩
    have e0 := z_rs_last (V := z_pr (l_C sv) l) hp.1
    have e1 := z_rl_last (H := z_pr (l_R sv) l) (V := z_pr (l_C sv) l)
    exact z_row_one (V := z_pr (l_C sv) l) hp.1 d1 (b := 44 * z_pr (l_R sv) l + 1) (by omega) (k := k) (by omega) (by omega) (by omega) (by omega)
theorem a_m_at (g : MOK (l_R sv) (l_C sv) (z_pr (l_R sv)) (z_pr (l_C sv)) cr cq dp wd za) (hN : 1000000 ≤ N) (p q w : Int32) : Ok (f_M_at N cr cq dp wd za p q w) (fun x => l_aat sv p q w x) := by
  unfold f_M_at
  refine Ok.b1 (r_isKey g p q) (fun v1 h1 => ?_)
  rcases h1 with ⟨z, rfl⟩ | ⟨z, rfl⟩
  rotate_left
  · exact Ok.ite (fun _ => Ok.ret (Or.inl ⟨z, rfl⟩)) (fun c => absurd rfl c)
  refine Ok.ite (fun c => absurd c (by decide)) (fun _ => ?_)
  have z' := z
  obtain ⟨l, k, hl, rfl, rfl, hk⟩ := z'
  have hs := g.2.2.sh hl
  have hp := g.2.2.pos l hl
  have hv := g.2.2.hv hl
  obtain ⟨ro, pl, d1, d2, d3, er, ep⟩ := t_spot (N := N) g (by omega) hl hk
  obtain ⟨g1, g2, g3, g4⟩ := g.1 l hl
  have hL := (z_rl_pos (V := z_pr (l_C sv) l) hp.1 hp.2 d1).2
  have fin : ∀ (r : Int32), r = z_vat (l_R sv) (l_C sv) l ro pl w → Ok (some r) (fun x => l_aat sv (nI l) (nI k) w x) := fun r h => Ok.ret (Or.inr ⟨l, k, ro, pl, z, hl, by omega, rfl, rfl, d1, d2, d3, h⟩)
  unfold z_vat at fin
  refine Ok.b1 (t_in _ _ _) (fun v2 h2 => ?_)
  rw [z_toL, show (0 : Int64).toInt = 0 from rfl, show (5 : Int64).toInt = 5 from rfl] at h2
  refine Ok.ite (fun d => ?_) (fun d => ?_)
  · have hn := z_if0 h2 d
    have ne : ∀ j : Nat, j ≤ 5 → ¬ w = nI j := fun j hj e => hn (by rw [e, nI_toInt (by omega)]; omega)
    exact fin _ (by rw [if_neg (show ¬ w = 0 from ne 0 (by omega)), if_neg (show ¬ w = 1 from ne 1 (by omega)), if_neg (show ¬ w = 2 from ne 2 (by omega)), if_neg (show ¬ w = 3 from ne 3 (by omega)), if_neg (show ¬ w = 4 from ne 4 (by omega)), if_neg (show ¬ w = 5 from ne 5 (by omega))])
  have hy := z_if1 h2 d
  have hcap : ∃ v5, f_M_isCap dp wd za (nI l) (nI k) = some v5 ∧ ((v5 = 0 ∧ ¬ (ro = 0 ∨ ro = 44 * z_pr (l_R sv) l + 1)) ∨ (v5 = 1 ∧ ((ro = 0 ∧ k = 0) ∨ (ro = 44 * z_pr (l_R sv) l + 1 ∧ k ≠ 0)))) := by
    rcases t_isCap g hl hk with ⟨c, e⟩ | ⟨c, e⟩
    · exact ⟨1, e, Or.inr ⟨rfl, z_capk_row g.2.2 hl d1 d2 d3 c⟩⟩
    · obtain ⟨r1, r2⟩ := z_notcap hp.1 d1 d2 d3 c
      exact ⟨0, e, Or.inl ⟨rfl, by omega⟩⟩
  obtain ⟨v5, e5, h5⟩ := hcap
  rw [er, q_b1_s, ep, q_b1_s, e5, q_b1_s]
  obtain ⟨j, -, rfl, hj⟩ := z_nat hy.1
  rcases (show j = 0 ∨ j = 1 ∨ j = 2 ∨ j = 3 ∨ j = 4 ∨ j = 5 by omega) with rfl | rfl | rfl | rfl | rfl | rfl
  · rw [if_pos (by decide)]; exact fin _ (by rw [if_pos (by decide)])
  · rw [if_neg (by decide), if_pos (by decide)]; exact fin _ (by rw [if_neg (by decide), if_pos (by decide)])
  · rw [if_neg (by decide), if_neg (by decide), if_pos (by decide), m_many g hl d1, q_b1_s]; exact fin _ (by rw [if_neg (by decide), if_neg (by decide), if_pos (by decide)])
  · rw [if_neg (by decide), if_neg (by decide), if_neg (by decide), if_pos (by decide)]
    rcases h5 with ⟨rfl, hc⟩ | ⟨rfl, hc⟩
    · rw [if_pos rfl, m_bandOf g hl (by omega) (by omega), q_b1_s]
      exact fin _ (by rw [if_neg (by decide), if_neg (by decide), if_neg (by decide), if_pos (by decide), if_neg (by omega), if_neg (by omega)])
    · rw [if_neg (by decide)]
      rcases hc with ⟨r0, k0⟩ | ⟨r0, k0⟩
      · rw [if_pos (by rw [k0]; rfl)]
        exact fin _ (by rw [if_neg (by decide), if_neg (by decide), if_neg (by decide), if_pos (by decide), if_pos r0])
      · rw [if_neg (by rw [z_eq0 (by omega)]; exact k0)]
        exact fin _ (by rw [if_neg (by decide), if_neg (by decide), if_neg (by decide), if_pos (by decide), if_neg (by omega), if_pos r0])
  · rw [if_neg (by decide), if_neg (by decide), if_neg (by decide), if_neg (by decide), if_pos (by decide)]
    rcases h5 with ⟨rfl, hc⟩ | ⟨rfl, hc⟩
    · rw [if_pos rfl, z_ai hl (by omega), g4, z_dv (by omega) (by omega) (by omega)]
      exact fin _ (by rw [if_neg (by decide), if_neg (by decide), if_neg (by decide), if_neg (by decide), if_pos (by decide), if_neg hc])
    · rw [if_neg (by decide)]
      exact fin _ (by rw [if_neg (by decide), if_neg (by decide), if_neg (by decide), if_neg (by decide), if_pos (by decide), if_pos (by omega)])
  · rw [if_neg (by decide), if_neg (by decide), if_neg (by decide), if_neg (by decide), if_neg (by decide)]
    rcases h5 with ⟨rfl, hc⟩ | ⟨rfl, hc⟩
    · rw [if_pos rfl]
      by_cases l0 : l = 0
      · rw [if_pos (by rw [l0]; rfl), nI_1]
        exact fin _ (by rw [if_neg (by decide), if_neg (by decide), if_neg (by decide), if_neg (by decide), if_neg (by decide), if_pos (by decide), if_neg hc, if_pos l0])
      · have hRC := g.2.2.2.2.2.2.2.1 l hl
        have m1 : (ro - 1) % l_R sv l < 6 := Nat.lt_of_lt_of_le (Nat.mod_lt _ (by omega)) hRC.2.1
        have m2 : pl % l_C sv l < 6 := Nat.lt_of_lt_of_le (Nat.mod_lt _ (by omega)) hRC.2.2.2
        have m3 : (ro - 1) % z_pr (l_R sv) l < z_pr (l_R sv) l := Nat.mod_lt _ (by omega)
        have m4 : (ro - 1) % z_pr (l_R sv) l % l_R sv l = (ro - 1) % l_R sv l := Nat.mod_mod_of_dvd _ (z_pr_dvd l0)
        rw [if_neg (by rw [z_eq0 (by omega)]; exact l0)]
        unfold f_M_pieceNumber
        rw [z_ai hl (by omega), g3, z_sub1 (by omega), z_rm (by omega) (by omega) (by omega), z_ai hl (by omega), g1, z_rm (by omega) (by omega) (by omega), m4, z_ai hl (by omega), z_ai hl (by omega), g2, z_rm (by omega) (by omega) (by omega), q_b1_s, pk_mul, nI_add, nI_1]
        exact fin _ (by rw [if_neg (by decide), if_neg (by decide), if_neg (by decide), if_neg (by decide), if_neg (by decide), if_pos (by decide), if_neg hc, if_neg l0])
    · rw [if_neg (by decide)]
      exact fin _ (by rw [if_neg (by decide), if_neg (by decide), if_neg (by decide), if_neg (by decide), if_neg (by decide), if_pos (by decide), if_pos (by omega)])
end S2A
end
section
/-! answers: oldest, shown -/
section S3A
variable {rc cc br zc rw sh cr cq dp wd za fl fk fy : Nat → Int32} {sv : l_T} {N l m : Nat} {L K : Nat → Nat} {Y : Nat → Int32}
/-- of the first i pieces those of level l: the oldest (the first of like ones), how many are like it -/
def z_oldS (L : Nat → Nat) (Y : Nat → Int32) (l : Nat) : Nat → Option Nat × Nat
  | 0 => (none, 0)
  | i + 1 => if L i = l then ((z_oldS L Y l i).1.elim (some i, 1) (fun b => if Y i < Y b then (some i, 1) else if Y i = Y b then (some b, (z_oldS L Y l i).2 + 1) else (some b, (z_oldS L Y l i).2))) else z_oldS L Y l i
theorem z_oldS_n {i : Nat} (h : ¬ L i = l) : z_oldS L Y l (i + 1) = z_oldS L Y l i := if_neg h
theorem z_oldS_0 {i : Nat} (h : L i = l) (h2 : (z_oldS L Y l i).1 = none) : z_oldS L Y l (i + 1) = (some i, 1) := by
  show (if L i = l then _ else _) = _
  rw [if_pos h, h2]; rfl
theorem z_oldS_b {i b c : Nat} (h : L i = l) (h2 : z_oldS L Y l i = (some b, c)) : z_oldS L Y l (i + 1) = if Y i < Y b then (some i, 1) else if Y i = Y b then (some b, c + 1) else (some b, c) := by
  show (if L i = l then _ else _) = _
  rw [if_pos h, h2]; rfl
def z_oldQ (o : Option Nat × Nat) (i : Nat) (v w : Int32) : Prop := (o.1 = none ∧ v = -1 ∧ w = 0) ∨ (∃ b c, o = (some b, c) ∧ b < i ∧ 1 ≤ c ∧ c ≤ i ∧ v = nI b ∧ w = nI c)
theorem z_oldQ_up {o : Option Nat × Nat} {i : Nat} {v w : Int32} (h : z_oldQ o i v w) : z_oldQ o (i + 1) v w := by
  rcases h with h | ⟨b, c, h1, h2, h3, h4, h5⟩
  · exact Or.inl h
  · exact Or.inr ⟨b, c, h1, by omega, h3, by omega, h5⟩
theorem a_x_oldest_L (hr : z_rp m L K Y fl fk fy) (hm : m ≤ 60) (hl : l < 5) (hL : ∀ i, i < m → L i < 5) : ∀ n i (v w : Int32), i ≤ m → m - i < n → z_oldQ (z_oldS L Y l i) i v w → Ok (f_X_oldest_L26 (nI l) fl (nI m) fy n v w (nI i)) (fun x => z_oldQ (z_oldS L Y l m) m x.1 x.2) := by
  intro n
  induction n with
  | zero => intro i v w _ h; omega
  | succ n ih =>
    intro i v w hi hn hq
    rw [f_X_oldest_L26]
    by_cases e : i = m
    · subst e
      exact Ok.ite (fun _ => Ok.ret hq) (fun z => absurd (by rw [nI_leI (by omega) (by omega)]; omega) z)
    · refine Ok.ite (fun z => absurd z (by rw [nI_leI (by omega) (by omega)]; omega)) (fun _ => ?_)
      have him : i < m := by omega
      obtain ⟨e1, -, e3⟩ := hr i him
      have b1 := hL i him
      have go : ∀ v w, z_oldQ (z_oldS L Y l (i + 1)) (i + 1) v w → Ok (q_nm (nI i + 1) fun v16 => f_X_oldest_L26 (nI l) fl (nI m) fy n v w v16) (fun x => z_oldQ (z_oldS L Y l m) m x.1 x.2) := by
        intro v w h
        rw [z_nm, nI_1]
        exact ih (i + 1) v w (by omega) (by omega) h
      rw [z_ai (by omega) (by omega), e1]
      refine Ok.j2 (Ok.ite (fun c1 => ?_) (fun c1 => ?_))
      all_goals rw [nI_eq (by omega) (by omega)] at c1
      · refine Ok.j2 (Ok.j0 ?_)
        rcases hq with ⟨h1, rfl, rfl⟩ | ⟨b, c, h1, h2, h3, h4, rfl, rfl⟩
        · rw [if_pos rfl, z_nm]
          (try dsimp only)
          rw [z_ai (by omega) (by omega), z_ai (by omega) (by omega), if_pos rfl, z_nm]
          exact go _ _ (Or.inr ⟨i, 1, z_oldS_0 c1 h1, by omega, by omega, by omega, rfl, rfl⟩)
        · have eb := (hr b (by omega)).2.2
          have hb := z_oldS_b c1 h1
          rw [if_neg (z_nIm1 (by omega)), z_ai (by omega) (by omega), z_ai (by omega) (by omega), e3, eb]
          refine Ok.ite (fun c2 => ?_) (fun c2 => ?_)
          · have n2 : ¬ Y i < Y b := fun z => by rw [z_le] at c2; rw [z_lt] at z; omega
            rw [if_neg n2] at hb
            (try dsimp only)
            rw [z_ai (by omega) (by omega), z_ai (by omega) (by omega), e3, eb]
            refine Ok.ite (fun c3 => ?_) (fun c3 => ?_)
            · rw [if_pos c3] at hb
              rw [z_nm, show nI c + 1 = nI (c + 1) from nI_1 c]
              exact go _ _ (Or.inr ⟨b, c + 1, hb, by omega, by omega, by omega, rfl, rfl⟩)
            · rw [if_neg c3] at hb
              exact go _ _ (Or.inr ⟨b, c, hb, by omega, by omega, by omega, rfl, rfl⟩)
          · have n2 : Y i < Y b := z_lt.mpr (by have w : ¬ (Y b).toInt ≤ (Y i).toInt := fun z => c2 (z_le.mpr z); omega)
            rw [if_pos n2] at hb
            rw [z_nm]
            (try dsimp only)
            rw [z_ai (by omega) (by omega), z_ai (by omega) (by omega), if_pos rfl, z_nm]
            exact go _ _ (Or.inr ⟨i, 1, hb, by omega, by omega, by omega, rfl, rfl⟩)
      · exact go _ _ (by rw [z_oldS_n c1]; exact z_oldQ_up hq)
theorem a_m_oldest_L (hr : z_rp m L K Y fl fk fy) (hm : m ≤ 60) (hl : l < 5) (hL : ∀ i, i < m → L i < 5) : ∀ n i (v w : Int32), i ≤ m → m - i < n → z_oldQ (z_oldS L Y l i) i v w → Ok (f_M_oldest_L29 fl fy (nI m) (nI l) n v w (nI i)) (fun x => z_oldQ (z_oldS L Y l m) m x.1 x.2) := by
  intro n
  induction n with
  | zero => intro i v w _ h; omega
  | succ n ih =>
    intro i v w hi hn hq
    rw [f_M_oldest_L29]
    by_cases e : i = m
    · subst e
      exact Ok.ite (fun _ => Ok.ret hq) (fun z => absurd (by rw [nI_leI (by omega) (by omega)]; omega) z)
    · refine Ok.ite (fun z => absurd z (by rw [nI_leI (by omega) (by omega)]; omega)) (fun _ => ?_)
      have him : i < m := by omega
      obtain ⟨e1, -, e3⟩ := hr i him
      have b1 := hL i him
      have go : ∀ v w, z_oldQ (z_oldS L Y l (i + 1)) (i + 1) v w → Ok (q_nm (nI i + 1) fun v16 => f_M_oldest_L29 fl fy (nI m) (nI l) n v w v16) (fun x => z_oldQ (z_oldS L Y l m) m x.1 x.2) := by
        intro v w h
        rw [z_nm, nI_1]
        exact ih (i + 1) v w (by omega) (by omega) h
      rw [z_ai (by omega) (by omega), e1]
      refine Ok.j2 (Ok.ite (fun c1 => ?_) (fun c1 => ?_))
      all_goals rw [nI_eq (by omega) (by omega)] at c1
      · refine Ok.j0 ?_
        rcases hq with ⟨h1, rfl, rfl⟩ | ⟨b, c, h1, h2, h3, h4, rfl, rfl⟩
        · rw [if_pos rfl]
          refine Ok.j1 (Ok.j0 ?_)
          rw [if_pos rfl]
          (try dsimp only)
          rw [if_pos rfl]
          exact go _ _ (Or.inr ⟨i, 1, z_oldS_0 c1 h1, by omega, by omega, by omega, rfl, rfl⟩)
        · have eb := (hr b (by omega)).2.2
          have hb := z_oldS_b c1 h1
          rw [if_neg (z_nIm1 (by omega)), z_ai (by omega) (by omega), z_ai (by omega) (by omega), e3, eb]
          refine Ok.ite (fun c2 => ?_) (fun c2 => ?_)
          · refine Ok.j1 (Ok.j0 ?_)
            rw [if_neg (z_nIm1 (by omega)), z_ai (by omega) (by omega), z_ai (by omega) (by omega), e3, eb]
            refine Ok.ite (fun c3 => ?_) (fun c3 => ?_)
            · have n2 : ¬ Y i < Y b := fun z => by rw [c3] at z; rw [z_lt] at z; omega
              rw [if_neg n2, if_pos c3] at hb
              (try dsimp only)
              rw [nI_1, if_neg (by rw [z_i 1, nI_eq (by omega) (by omega)]; omega)]
              exact go _ _ (Or.inr ⟨b, c + 1, hb, by omega, by omega, by omega, rfl, rfl⟩)
            · have n2 : Y i < Y b := z_lt.mpr (by
                rw [z_le] at c2
                have w : ¬ (Y i).toInt = (Y b).toInt := fun z => c3 (Int32.toInt_inj.mp z)
                omega)
              rw [if_pos n2] at hb
              (try dsimp only)
              rw [if_pos rfl]
              exact go _ _ (Or.inr ⟨i, 1, hb, by omega, by omega, by omega, rfl, rfl⟩)
          · have n2 : ¬ Y i < Y b := fun z => c2 (z_le.mpr (by rw [z_lt] at z; omega))
            have n3 : ¬ Y i = Y b := fun z => c2 (z_le.mpr (by rw [z]; omega))
            rw [if_neg n2, if_neg n3] at hb
            exact go _ _ (Or.inr ⟨b, c, hb, by omega, by omega, by omega, rfl, rfl⟩)
      · exact go _ _ (by rw [z_oldS_n c1]; exact z_oldQ_up hq)
def l_voldest (sv : l_T) (o : Option Nat × Nat) (q : Int32) : Int32 := o.1.elim (-2) (fun b => if q = 0 then nI (l_K sv b) else if q = 1 then l_Y sv b else nI o.2)
def l_aoldest (sv : l_T) (p q r : Int32) : Prop := (¬ ((0 ≤ p.toInt ∧ p.toInt ≤ 4) ∧ (0 ≤ q.toInt ∧ q.toInt ≤ 2)) ∧ r = -1) ∨ (∃ l, ((0 ≤ p.toInt ∧ p.toInt ≤ 4) ∧ (0 ≤ q.toInt ∧ q.toInt ≤ 2)) ∧ l < 5 ∧ p = nI l ∧ r = l_voldest sv (z_oldS (l_L sv) (l_Y sv) l (l_m sv)) q)
theorem l_aoldest_one {p q r r' : Int32} (_ : l_ok sv) (h1 : l_aoldest sv p q r) (h2 : l_aoldest sv p q r') : r = r' := by
  rcases h1 with ⟨a, b⟩ | ⟨l, a, b, c, d⟩ <;> rcases h2 with ⟨a', b'⟩ | ⟨l', a', b', c', d'⟩
  · exact b.trans b'.symm
  · exact absurd a' a
  · exact absurd a a'
  · have e : l = l' := by rw [c, nI_eq (by omega) (by omega)] at c'; exact c'
    subst e
    exact d.trans d'.symm
theorem l_voldest_0 {o : Option Nat × Nat} {q : Int32} (h : o.1 = none) : l_voldest sv o q = -2 := by
  unfold l_voldest
  rw [h]; rfl
theorem a_x_oldest {H V : Nat → Nat} (h : z_pc H V (l_m sv) (l_L sv) (l_K sv)) (hr : z_rp (l_m sv) (l_L sv) (l_K sv) (l_Y sv) fl fk fy) (hN : 1000000 ≤ N) (p q : Int32) : Ok (f_X_oldest N fl fk fy (nI (l_m sv)) p q) (fun x => l_aoldest sv p q x) := by
  have hm := h.1
  unfold f_X_oldest
  refine Ok.b1 (r_isLevel p) (fun v1 h1 => Ok.ite (fun c => Ok.ret (Or.inl ⟨fun u => z_if0 h1 c u.1, rfl⟩)) (fun c => Ok.b1 (s_isFrom q _ _) (fun v2 h2 => ?_)))
  rw [show (0 : Int32).toInt = 0 from rfl, show (2 : Int32).toInt = 2 from rfl] at h2
  refine Ok.ite (fun d => Ok.ret (Or.inl ⟨fun u => z_if0 h2 d u.2, rfl⟩)) (fun d => ?_)
  have hv := z_if1 h1 c
  have hq := z_if1 h2 d
  obtain ⟨l, hl, rfl⟩ := t_level hv
  rw [z_nm, z_nm, z_nm]
  refine Ok.b2 (a_x_oldest_L hr hm hl (fun i hi => (h.2.1 i hi).1) N 0 (-1) 0 (Nat.zero_le _) (by omega) (Or.inl ⟨rfl, rfl, rfl⟩)) (fun v9 v10 h9 => ?_)
  rcases h9 with ⟨h9, h8, -⟩ | ⟨b, cc, h9, hb, c1, c2, h8, h7⟩
  · dsimp only at h8
    subst h8
    exact Ok.ite (fun _ => Ok.ret (Or.inr ⟨l, ⟨hv, hq⟩, hl, rfl, (l_voldest_0 h9).symm⟩)) (fun z => absurd rfl z)
  · dsimp only at h8 h7
    subst h8 h7
    obtain ⟨e1, e2, e3⟩ := hr b hb
    have fin : ∀ r, r = (if q = 0 then nI (l_K sv b) else if q = 1 then l_Y sv b else nI cc) → Ok (some r) (fun x => l_aoldest sv (nI l) q x) := fun r z => Ok.ret (Or.inr ⟨l, ⟨hv, hq⟩, hl, rfl, by rw [h9]; exact z⟩)
    refine Ok.ite (fun z => absurd z (z_nIm1 (by omega))) (fun _ => ?_)
    by_cases c0 : q = 0
    · rw [if_pos c0, z_ai (by omega) (by omega), e2]; exact fin _ (by rw [if_pos c0])
    by_cases c3 : q = 1
    · rw [if_neg c0, if_pos c3, z_ai (by omega) (by omega), e3]; exact fin _ (by rw [if_neg c0, if_pos c3])
    · rw [if_neg c0, if_neg c3]; exact fin _ (by rw [if_neg c0, if_neg c3])
theorem a_m_oldest {H V : Nat → Nat} (h : z_pc H V (l_m sv) (l_L sv) (l_K sv)) (hr : z_rp (l_m sv) (l_L sv) (l_K sv) (l_Y sv) fl fk fy) (hN : 1000000 ≤ N) (p q : Int32) : Ok (f_M_oldest N (nI (l_m sv)) fl fk fy p q) (fun x => l_aoldest sv p q x) := by
  have hm := h.1
  unfold f_M_oldest
  refine Ok.b1 (t_isLevel p) (fun v1 h1 => Ok.ite (fun c => Ok.ret (Or.inl ⟨fun u => z_if0 h1 c u.1, rfl⟩)) (fun c => Ok.b1 (t_in _ _ _) (fun v2 h2 => ?_)))
  rw [z_toL, show (0 : Int64).toInt = 0 from rfl, show (2 : Int64).toInt = 2 from rfl] at h2
  refine Ok.ite (fun d => Ok.ret (Or.inl ⟨fun u => z_if0 h2 d u.2, rfl⟩)) (fun d => ?_)
  have hv := z_if1 h1 c
  have hq := z_if1 h2 d
  obtain ⟨l, hl, rfl⟩ := t_level hv
  rw [z_nm, z_nm, z_nm]
  refine Ok.b2 (a_m_oldest_L hr hm hl (fun i hi => (h.2.1 i hi).1) N 0 (-1) 0 (Nat.zero_le _) (by omega) (Or.inl ⟨rfl, rfl, rfl⟩)) (fun v9 v10 h9 => ?_)
  rcases h9 with ⟨h9, h8, -⟩ | ⟨b, cc, h9, hb, c1, c2, h8, h7⟩
  · dsimp only at h8
    subst h8
    exact Ok.ite (fun _ => Ok.ret (Or.inr ⟨l, ⟨hv, hq⟩, hl, rfl, (l_voldest_0 h9).symm⟩)) (fun z => absurd rfl z)
  · dsimp only at h8 h7
    subst h8 h7
    obtain ⟨e1, e2, e3⟩ := hr b hb
    have fin : ∀ r, r = (if q = 0 then nI (l_K sv b) else if q = 1 then l_Y sv b else nI cc) → Ok (some r) (fun x => l_aoldest sv (nI l) q x) := fun r z => Ok.ret (Or.inr ⟨l, ⟨hv, hq⟩, hl, rfl, by rw [h9]; exact z⟩)
    refine Ok.ite (fun z => absurd z (z_nIm1 (by omega))) (fun _ => ?_)
    by_cases c0 : q = 0
    · rw [if_pos c0, z_ai (by omega) (by omega), e2]; exact fin _ (by rw [if_pos c0])
    by_cases c3 : q = 1
    · rw [if_neg c0, if_pos c3, z_ai (by omega) (by omega), e3]; exact fin _ (by rw [if_neg c0, if_pos c3])
    · rw [if_neg c0, if_neg c3]; exact fin _ (by rw [if_neg c0, if_neg c3])
/-! shown -/
/-- of the first i pieces those whose sheet a place lies in: how many, the level of the last, the latest year -/
def z_shS (L K : Nat → Nat) (Y : Nat → Int32) (kp : Nat → Nat) : Nat → Nat × Nat × Int32
  | 0 => (0, 0, 0)
  | i + 1 => if kp (L i) = K i then ((z_shS L K Y kp i).1 + 1, L i, if (z_shS L K Y kp i).2.2 < Y i then Y i else (z_shS L K Y kp i).2.2) else z_shS L K Y kp i
theorem z_shS_n {kp : Nat → Nat} {i : Nat} (h : ¬ kp (L i) = K i) : z_shS L K Y kp (i + 1) = z_shS L K Y kp i := if_neg h
theorem z_shS_y {kp : Nat → Nat} {i : Nat} (h : kp (L i) = K i) : z_shS L K Y kp (i + 1) = ((z_shS L K Y kp i).1 + 1, L i, if (z_shS L K Y kp i).2.2 < Y i then Y i else (z_shS L K Y kp i).2.2) := if_pos h
theorem z_shS_b {kp : Nat → Nat} : ∀ i, (z_shS L K Y kp i).1 ≤ i := by
  intro i
  induction i with
  | zero => exact Nat.le_refl _
  | succ i ih =>
    by_cases h : kp (L i) = K i
    · rw [z_shS_y h]; exact Nat.succ_le_succ ih
    · rw [z_shS_n h]; omega
theorem a_x_shown_L {kp : Nat → Nat} {f4 : Nat → Int32} (hr : z_rp m L K Y fl fk fy) (hm : m ≤ 60) (hL : ∀ i, i < m → L i < 5 ∧ K i < 20000000) (h4 : ∀ l, l < 5 → f4 l = nI (kp l) ∧ kp l < 20000002) : ∀ n i, i ≤ m → m - i < n → Ok (f_Store_lookAt_L46 f4 fk fl (nI m) fy n (nI i) (nI (z_shS L K Y kp i).1) (nI (z_shS L K Y kp i).2.1) (z_shS L K Y kp i).2.2) (fun x => x.1 = nI (z_shS L K Y kp m).1 ∧ x.2.1 = nI (z_shS L K Y kp m).2.1 ∧ x.2.2 = (z_shS L K Y kp m).2.2) := by
  intro n
  induction n with
  | zero => intro i _ h; omega
  | succ n ih =>
    intro i hi hn
    rw [f_Store_lookAt_L46]
    by_cases e : i = m
    · subst e
      exact Ok.ite (fun _ => Ok.ret ⟨rfl, rfl, rfl⟩) (fun z => absurd (by rw [nI_leI (by omega) (by omega)]; omega) z)
    · refine Ok.ite (fun z => absurd z (by rw [nI_leI (by omega) (by omega)]; omega)) (fun _ => ?_)
      have him : i < m := by omega
      obtain ⟨e1, e2, e3⟩ := hr i him
      obtain ⟨b1, b2⟩ := hL i him
      obtain ⟨f1, f2⟩ := h4 (L i) b1
      have t := ih (i + 1) (by omega) (by omega)
      rw [z_ai (by omega) (by omega), e1, z_ai b1 (by omega), f1, z_ai (by omega) (by omega), e2]
      refine Ok.j3 (Ok.ite (fun c => ?_) (fun c => ?_))
      all_goals rw [nI_eq (by omega) (by omega)] at c
      · rw [z_shS_y c] at t
        rw [z_nm, nI_1, z_ai (by omega) (by omega), e1, z_ai (by omega) (by omega), e3, z_nm]
        (try dsimp only)
        rw [z_nm, nI_1]
        exact t
      · rw [z_shS_n c] at t
        (try dsimp only)
        rw [z_nm, nI_1]
        exact t
def z_shQ (o : Nat × Nat × Int32) (u v w : Int32) : Prop := u = nI o.1 ∧ ((o.1 = 0 ∧ v = -2 ∧ w = -2 ∧ o.2.2 = 0) ∨ (1 ≤ o.1 ∧ v = nI o.2.1 ∧ w = o.2.2))
theorem a_m_shown_L (g : MOK (l_R sv) (l_C sv) (z_pr (l_R sv)) (z_pr (l_C sv)) cr cq dp wd za) {p : Int32} {o : Nat} (ho : o < 1296000) (hr : z_rp m L K Y fl fk fy) (hm : m ≤ 60) (hL : ∀ i, i < m → L i < 5 ∧ K i < 20000000) (hy : z_yr m Y) : ∀ n i (u v w : Int32), i ≤ m → m - i < n → z_shQ (z_shS L K Y (l_kpl sv p o) i) u v w → Ok (f_M_shownOf_L14 dp fk fl fy (nI m) wd za p (nI o) n u v w (nI i)) (fun x => z_shQ (z_shS L K Y (l_kpl sv p o) m) x.1 x.2.1 x.2.2) := by
  intro n
  induction n with
  | zero => intro i u v w _ h; omega
  | succ n ih =>
    intro i u v w hi hn hq
    rw [f_M_shownOf_L14]
    by_cases e : i = m
    · subst e
      exact Ok.ite (fun _ => Ok.ret hq) (fun z => absurd (by rw [nI_leI (by omega) (by omega)]; omega) z)
    · refine Ok.ite (fun z => absurd z (by rw [nI_leI (by omega) (by omega)]; omega)) (fun _ => ?_)
      have him : i < m := by omega
      obtain ⟨e1, e2, e3⟩ := hr i him
      obtain ⟨b1, b2⟩ := hL i him
      obtain ⟨y1, y2⟩ := hy i him
      have k1 : l_kpl sv p o (L i) < _ := z_kp_lt g.2.2 b1 p.toInt ho
      have hs := g.2.2.sh b1
      have e4 : z_kp (z_pr (l_R sv) (L i)) (z_pr (l_C sv) (L i)) p.toInt o = l_kpl sv p o (L i) := rfl
      rw [z_ai (by omega) (by omega), e1, m_keyAtPlace g b1 p ho, q_b1_s, e4, z_ai (by omega) (by omega), e2]
      refine Ok.j3 (Ok.ite (fun c => ?_) (fun c => ?_))
      all_goals rw [nI_eq (by omega) (by omega)] at c
      · obtain ⟨rfl, hq⟩ := hq
        have hb := z_shS_b (L := L) (K := K) (Y := Y) (kp := l_kpl sv p o) i
        rw [z_nm, nI_1, z_ai (by omega) (by omega), e1, z_ai (by omega) (by omega), e3]
        have t := ih (i + 1)
        rw [z_shS_y c] at t
        refine Ok.j1 ?_
        generalize z_shS L K Y (l_kpl sv p o) i = q at *
        obtain ⟨q1, q2, q3⟩ := q
        dsimp only at hq t hb ⊢
        rcases hq with ⟨h1, rfl, rfl, h3⟩ | ⟨h1, rfl, hw3⟩
        · subst h3
          have n1 : (0 : Int32) < Y i := by rw [z_lt, show (0 : Int32).toInt = 0 from rfl]; omega
          rw [if_pos n1] at t
          refine Ok.ite (fun d => ?_) (fun d => ?_)
          · exfalso
            rw [z_le, show (-2 : Int32).toInt = -2 from rfl] at d
            omega
          · rw [z_ai (by omega) (by omega), e3]
            (try dsimp only)
            rw [z_nm, nI_1]
            exact t _ _ _ (by omega) (by omega) ⟨rfl, Or.inr ⟨by omega, rfl, rfl⟩⟩
        · rw [hw3]
          refine Ok.ite (fun d => ?_) (fun d => ?_)
          · have n1 : ¬ q3 < Y i := fun z => by rw [z_le] at d; rw [z_lt] at z; omega
            rw [if_neg n1] at t
            (try dsimp only)
            rw [z_nm, nI_1]
            exact t _ _ _ (by omega) (by omega) ⟨rfl, Or.inr ⟨by omega, rfl, rfl⟩⟩
          · have n1 : q3 < Y i := z_lt.mpr (by have w : ¬ (Y i).toInt ≤ q3.toInt := fun z => d (z_le.mpr z); omega)
            rw [if_pos n1] at t
            rw [z_ai (by omega) (by omega), e3]
            (try dsimp only)
            rw [z_nm, nI_1]
            exact t _ _ _ (by omega) (by omega) ⟨rfl, Or.inr ⟨by omega, rfl, rfl⟩⟩
      · (try dsimp only)
        rw [z_nm, nI_1]
        exact ih (i + 1) _ _ _ (by omega) (by omega) (by rw [z_shS_n c]; exact hq)
def l_vshown (o : Nat × Nat × Int32) (q : Int32) : Int32 := if q = 0 then nI o.1 else if o.1 = 0 then -2 else if q = 1 then nI o.2.1 else o.2.2
def l_ashown (sv : l_T) (p q w r : Int32) : Prop := (¬ (z_plV p q ∧ (0 ≤ w.toInt ∧ w.toInt ≤ 2)) ∧ r = -1) ∨ (∃ o, (z_plV p q ∧ (0 ≤ w.toInt ∧ w.toInt ≤ 2)) ∧ o < 1296000 ∧ q = nI o ∧ r = l_vshown (z_shS (l_L sv) (l_K sv) (l_Y sv) (l_kpl sv p o) (l_m sv)) w)
theorem l_ashown_one {p q w r r' : Int32} (_ : l_ok sv) (h1 : l_ashown sv p q w r) (h2 : l_ashown sv p q w r') : r = r' := by
  rcases h1 with ⟨a, b⟩ | ⟨l, a, b, c, d⟩ <;> rcases h2 with ⟨a', b'⟩ | ⟨l', a', b', c', d'⟩
  · exact b.trans b'.symm
  · exact absurd a' a
  · exact absurd a a'
  · have e : l = l' := by rw [c, nI_eq (by omega) (by omega)] at c'; exact c'
    subst e
    exact d.trans d'.symm
theorem a_x_keys_L (g : GOK (l_R sv) (l_C sv) (z_pr (l_R sv)) (z_pr (l_C sv)) rc cc br zc rw sh) {p : Int32} (h1 : -324000 ≤ p.toInt ∧ p.toInt ≤ 324000) {o : Nat} (ho : o < 1296000) : ∀ n i (f : Nat → Int32), i ≤ 5 → 5 - i < n → (∀ l, l < i → f l = nI (l_kpl sv p o l)) → Ok (f_Store_lookAt_L2 br rw sh zc p (nI o) n (nI i) f) (fun x => ∀ l, l < 5 → x l = nI (l_kpl sv p o l)) := by
  intro n
  induction n with
  | zero => intro i f _ h; omega
  | succ n ih =>
    intro i f hi hn hf
    rw [f_Store_lookAt_L2]
    refine Ok.ite (fun c => ?_) (fun c => ?_)
    all_goals rw [z_i 4, nI_ltI (by omega) (by omega)] at c
    · exact Ok.ret (fun l hl => hf l (by omega))
    · rw [k_keyAtPlace g (l := i) (by omega) h1.1 h1.2 ho, q_b1_s, z_as (by omega) (by omega), z_nm, nI_1]
      refine ih (i + 1) _ (by omega) (by omega) (fun l hl => ?_)
      by_cases e : l = i
      · subst e; rw [z_updS]; rfl
      · rw [z_updN e]; exact hf l (by omega)
theorem a_x_shown (g : GOK (l_R sv) (l_C sv) (z_pr (l_R sv)) (z_pr (l_C sv)) rc cc br zc rw sh) (h : z_pc (z_pr (l_R sv)) (z_pr (l_C sv)) (l_m sv) (l_L sv) (l_K sv)) (hr : z_rp (l_m sv) (l_L sv) (l_K sv) (l_Y sv) fl fk fy) (hN : 1000000 ≤ N) (kt : Nat → Int32) (a b c p q w : Int32) : Ok (f_X_shown N fl fk fy kt (nI (l_m sv)) a b c br zc rw sh p q w) (fun x => l_ashown sv p q w x.1) := by
  have hm := h.1
  have hb : ∀ l, l < 5 → 2130 * (z_pr (l_R sv) l * z_pr (l_C sv) l) + 2 ≤ 20000000 := fun l hl => g.2.sh hl
  unfold f_X_shown
  refine Ok.b1 (r_isPlaceX p q) (fun v1 h1 => ?_)
  rcases h1 with ⟨z, rfl⟩ | ⟨z, rfl⟩
  rotate_left
  · exact Ok.ite (fun _ => Ok.ret (Or.inl ⟨fun u => z u.1, rfl⟩)) (fun c => absurd rfl c)
  refine Ok.ite (fun c => absurd c (by decide)) (fun _ => Ok.b1 (s_isFrom w _ _) (fun v2 h2 => ?_))
  rw [show (0 : Int32).toInt = 0 from rfl, show (2 : Int32).toInt = 2 from rfl] at h2
  refine Ok.ite (fun d => Ok.ret (Or.inl ⟨fun u => z_if0 h2 d u.2, rfl⟩)) (fun d => ?_)
  have hw := z_if1 h2 d
  obtain ⟨o, ho, rfl⟩ := z_plV_o z
  unfold f_Store_lookAt
  rw [z_nm]
  refine Ok.b4 (Q := fun x => x.2.1 = nI (z_shS (l_L sv) (l_K sv) (l_Y sv) (l_kpl sv p o) (l_m sv)).1 ∧ x.2.2.1 = nI (z_shS (l_L sv) (l_K sv) (l_Y sv) (l_kpl sv p o) (l_m sv)).2.1 ∧ x.2.2.2 = (z_shS (l_L sv) (l_K sv) (l_Y sv) (l_kpl sv p o) (l_m sv)).2.2) ?_ (fun f3 v4 v5 v6 hq => ?_)
  · refine Ok.b1 (a_x_keys_L g z.1 ho N 0 kt (by omega) (by omega) (fun l hl => absurd hl (by omega))) (fun f4 h4 => Ok.nm ?_)
    refine Ok.b3 (a_x_shown_L (kp := l_kpl sv p o) hr hm (fun i hi => z_pcK h hb hi) (fun l hl => ⟨h4 l hl, ?_⟩) N 0 (Nat.zero_le _) (by omega)) (fun _ _ _ hq => Ok.ret hq)
    have k1 : l_kpl sv p o l < _ := z_kp_lt g.2 hl p.toInt ho
    have := hb l hl
    omega
  · obtain ⟨e1, e2, e3⟩ := hq
    dsimp only at e1 e2 e3
    have hbn := z_shS_b (L := l_L sv) (K := l_K sv) (Y := l_Y sv) (kp := l_kpl sv p o) (l_m sv)
    have fin : ∀ (r : Int32) (f : Nat → Int32) (a b c : Int32), r = l_vshown (z_shS (l_L sv) (l_K sv) (l_Y sv) (l_kpl sv p o) (l_m sv)) w → Ok (some (r, f, a, b, c)) (fun x => l_ashown sv p (nI o) w x.1) := fun r _ _ _ _ z2 => Ok.ret (Or.inr ⟨o, ⟨z, hw⟩, ho, rfl, z2⟩)
    unfold l_vshown at fin
    rw [e1, e2, e3]
    by_cases c0 : w = 0
    · rw [if_pos c0]; exact fin _ _ _ _ _ (by rw [if_pos c0])
    · rw [if_neg c0]
      refine Ok.ite (fun c1 => ?_) (fun c1 => ?_)
      all_goals rw [z_eq0 (by omega)] at c1
      · exact fin _ _ _ _ _ (by rw [if_neg c0, if_pos c1])
      · by_cases c2 : w = 1
        · rw [if_pos c2]; exact fin _ _ _ _ _ (by rw [if_neg c0, if_neg c1, if_pos c2])
        · rw [if_neg c2]; exact fin _ _ _ _ _ (by rw [if_neg c0, if_neg c1, if_neg c2])
theorem a_m_shown (g : MOK (l_R sv) (l_C sv) (z_pr (l_R sv)) (z_pr (l_C sv)) cr cq dp wd za) (h : z_pc (z_pr (l_R sv)) (z_pr (l_C sv)) (l_m sv) (l_L sv) (l_K sv)) (hr : z_rp (l_m sv) (l_L sv) (l_K sv) (l_Y sv) fl fk fy) (hy : z_yr (l_m sv) (l_Y sv)) (hN : 1000000 ≤ N) (p q w : Int32) : Ok (f_M_shown N dp wd za (nI (l_m sv)) fl fk fy p q w) (fun x => l_ashown sv p q w x) := by
  have hm := h.1
  have hb : ∀ l, l < 5 → 2130 * (z_pr (l_R sv) l * z_pr (l_C sv) l) + 2 ≤ 20000000 := fun l hl => g.2.2.sh hl
  unfold f_M_shown
  refine Ok.b1 (r_isPlaceM p q) (fun v1 h1 => ?_)
  rcases h1 with ⟨z, rfl⟩ | ⟨z, rfl⟩
  rotate_left
  · exact Ok.ite (fun _ => Ok.ret (Or.inl ⟨fun u => z u.1, rfl⟩)) (fun c => absurd rfl c)
  refine Ok.ite (fun c => absurd c (by decide)) (fun _ => Ok.b1 (t_in _ _ _) (fun v2 h2 => ?_))
  rw [z_toL, show (0 : Int64).toInt = 0 from rfl, show (2 : Int64).toInt = 2 from rfl] at h2
  refine Ok.ite (fun d => Ok.ret (Or.inl ⟨fun u => z_if0 h2 d u.2, rfl⟩)) (fun d => ?_)
  have hw := z_if1 h2 d
  obtain ⟨o, ho, rfl⟩ := z_plV_o z
  unfold f_M_shownOf
  rw [z_nm, z_nm, z_nm, z_nm]
  refine Ok.b1 (Q := fun x => x = l_vshown (z_shS (l_L sv) (l_K sv) (l_Y sv) (l_kpl sv p o) (l_m sv)) w) ?_ (fun v3 h3 => Ok.ret (Or.inr ⟨o, ⟨z, hw⟩, ho, rfl, h3⟩))
  refine Ok.b3 (a_m_shown_L g (p := p) ho hr hm (fun i hi => z_pcK h hb hi) hy N 0 0 (-2) (-2) (Nat.zero_le _) (by omega) ⟨rfl, Or.inl ⟨rfl, rfl, rfl, rfl⟩⟩) (fun v9 v10 v11 hq => ?_)
  obtain ⟨e1, hq⟩ := hq
  dsimp only at e1 hq
  subst e1
  have hbn := z_shS_b (L := l_L sv) (K := l_K sv) (Y := l_Y sv) (kp := l_kpl sv p o) (l_m sv)
  unfold l_vshown
  by_cases c0 : w = 0
  · rw [if_pos c0]; exact Ok.ret (by rw [if_pos c0])
  · rw [if_neg c0, if_neg c0]
    rcases hq with ⟨h1, rfl, rfl, -⟩ | ⟨h1, rfl, rfl⟩
    · rw [if_pos h1]
      by_cases c2 : w = 1
      · rw [if_pos c2]; exact Ok.ret rfl
      · rw [if_neg c2]; exact Ok.ret rfl
    · rw [if_neg (show ¬ _ = 0 by omega)]
      by_cases c2 : w = 1
      · rw [if_pos c2]; exact Ok.ret (by rw [if_pos c2])
      · rw [if_neg c2]; exact Ok.ret (by rw [if_neg c2])
end S3A
end
