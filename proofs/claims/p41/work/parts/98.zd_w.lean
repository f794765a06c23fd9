section
/-! the worlds of the law: the class's cells, the reference's, the kept atlases' -/
/-- the state that both sides hold: cuts, pieces -/
def l_T : Type := (Nat → Nat) × (Nat → Nat) × Nat × (Nat → Nat) × (Nat → Nat) × (Nat → Int32)
def l_R (sv : l_T) : Nat → Nat := sv.1
def l_C (sv : l_T) : Nat → Nat := sv.2.1
def l_m (sv : l_T) : Nat := sv.2.2.1
def l_L (sv : l_T) : Nat → Nat := sv.2.2.2.1
def l_K (sv : l_T) : Nat → Nat := sv.2.2.2.2.1
def l_Y (sv : l_T) : Nat → Int32 := sv.2.2.2.2.2
def l_mk (R C : Nat → Nat) (m : Nat) (L K : Nat → Nat) (Y : Nat → Int32) : l_T := (R, C, m, L, K, Y)
def l_sX (sv : l_T) (sz : Int32) (fl fk fy : Nat → Int32) : Prop := sz = nI (l_m sv) ∧ z_pc (z_pr (l_R sv)) (z_pr (l_C sv)) (l_m sv) (l_L sv) (l_K sv) ∧ z_rp (l_m sv) (l_L sv) (l_K sv) (l_Y sv) fl fk fy ∧ z_yr (l_m sv) (l_Y sv)
theorem z_st_of {H V : Nat → Nat} {m : Nat} {L K : Nat → Nat} {Y : Nat → Int32} {fl fk fy : Nat → Int32} (h : z_pc H V m L K) (hr : z_rp m L K Y fl fk fy) : z_st fl m := ⟨h.1, fun j hj => ⟨L j, (h.2.1 j hj).1, (hr j hj).1⟩⟩
theorem z_ps_of {H V : Nat → Nat} {m : Nat} {L K : Nat → Nat} {Y : Nat → Int32} {fl fk fy : Nat → Int32} (h : z_pc H V m L K) (hr : z_rp m L K Y fl fk fy) : z_ps H V fl fk m := ⟨h.1, fun i hi => ⟨L i, K i, (h.2.1 i hi).1, (hr i hi).1, (hr i hi).2.1, (h.2.1 i hi).2⟩⟩
def l_ok (sv : l_T) : Prop := CUT (l_R sv) (l_C sv) (z_pr (l_R sv)) (z_pr (l_C sv)) ∧ z_pc (z_pr (l_R sv)) (z_pr (l_C sv)) (l_m sv) (l_L sv) (l_K sv)
/-- what the five methods that change it do with it -/
def l_tcut (sv : l_T) (p q w r : Int32) (s2 : l_T) : Prop := ∃ R2 C2, z_cutR (l_R sv) (l_C sv) (l_m sv) p q w r R2 C2 ∧ s2 = l_mk R2 C2 (l_m sv) (l_L sv) (l_K sv) (l_Y sv)
def l_tstore (sv : l_T) (p q w r : Int32) (s2 : l_T) : Prop := ∃ m2 L2 K2 Y2, z_storeR (z_pr (l_R sv)) (z_pr (l_C sv)) (l_m sv) (l_L sv) (l_K sv) (l_Y sv) p q w r m2 L2 K2 Y2 ∧ s2 = l_mk (l_R sv) (l_C sv) m2 L2 K2 Y2
def l_tdrop (sv : l_T) (p q r : Int32) (s2 : l_T) : Prop := ∃ m2 L2 K2 Y2, z_dropR (z_pr (l_R sv)) (z_pr (l_C sv)) (l_m sv) (l_L sv) (l_K sv) (l_Y sv) p q r m2 L2 K2 Y2 ∧ s2 = l_mk (l_R sv) (l_C sv) m2 L2 K2 Y2
def l_trenew (sv : l_T) (p q r : Int32) (s2 : l_T) : Prop := ∃ Y2, z_renewR (l_m sv) (l_L sv) (l_Y sv) p q r Y2 ∧ s2 = l_mk (l_R sv) (l_C sv) (l_m sv) (l_L sv) (l_K sv) Y2
def l_ttidy (sv : l_T) (r : Int32) (s2 : l_T) : Prop := ∃ n2 m2 L2 K2 Y2, z_tdT (z_pr (l_R sv)) (z_pr (l_C sv)) (l_m sv) (l_m sv) (l_L sv) (l_K sv) (l_Y sv) 0 n2 m2 L2 K2 Y2 ∧ r = nI n2 ∧ s2 = l_mk (l_R sv) (l_C sv) m2 L2 K2 Y2
theorem l_tcut_one {sv s2 s3 : l_T} {p q w r r' : Int32} (_ : l_ok sv) (h1 : l_tcut sv p q w r s2) (h2 : l_tcut sv p q w r' s3) : r = r' ∧ s2 = s3 := by
  obtain ⟨R2, C2, h1, rfl⟩ := h1
  obtain ⟨R3, C3, h2, rfl⟩ := h2
  obtain ⟨a, b, c⟩ := z_cutR_one h1 h2
  exact ⟨a, by rw [b, c]⟩
theorem l_tstore_one {sv s2 s3 : l_T} {p q w r r' : Int32} (h : l_ok sv) (h1 : l_tstore sv p q w r s2) (h2 : l_tstore sv p q w r' s3) : r = r' ∧ s2 = s3 := by
  obtain ⟨m2, L2, K2, Y2, h1, rfl⟩ := h1
  obtain ⟨m3, L3, K3, Y3, h2, rfl⟩ := h2
  obtain ⟨a, b, c, d, e⟩ := z_storeR_one h.1 h.2 h1 h2
  exact ⟨a, by rw [b, c, d, e]⟩
theorem l_tdrop_one {sv s2 s3 : l_T} {p q r r' : Int32} (h : l_ok sv) (h1 : l_tdrop sv p q r s2) (h2 : l_tdrop sv p q r' s3) : r = r' ∧ s2 = s3 := by
  obtain ⟨m2, L2, K2, Y2, h1, rfl⟩ := h1
  obtain ⟨m3, L3, K3, Y3, h2, rfl⟩ := h2
  obtain ⟨a, b, c, d, e⟩ := z_dropR_one h.1 h.2 h1 h2
  exact ⟨a, by rw [b, c, d, e]⟩
theorem l_trenew_one {sv s2 s3 : l_T} {p q r r' : Int32} (_ : l_ok sv) (h1 : l_trenew sv p q r s2) (h2 : l_trenew sv p q r' s3) : r = r' ∧ s2 = s3 := by
  obtain ⟨Y2, h1, rfl⟩ := h1
  obtain ⟨Y3, h2, rfl⟩ := h2
  obtain ⟨a, b⟩ := z_renewR_one h1 h2
  exact ⟨a, by rw [b]⟩
theorem l_ttidy_one {sv s2 s3 : l_T} {r r' : Int32} (_ : l_ok sv) (h1 : l_ttidy sv r s2) (h2 : l_ttidy sv r' s3) : r = r' ∧ s2 = s3 := by
  obtain ⟨n2, m2, L2, K2, Y2, h1, rfl, rfl⟩ := h1
  obtain ⟨n3, m3, L3, K3, Y3, h2, rfl, rfl⟩ := h2
  obtain ⟨a, b, c, d, e⟩ := z_tdT_one _ _ _ _ _ _ _ _ _ _ _ _ _ _ _ _ h1 h2
  exact ⟨by rw [a], by rw [b, c, d, e]⟩
theorem z_cutR_pc {R C R2 C2 : Nat → Nat} {m : Nat} {L K : Nat → Nat} {p q w r : Int32} (h : z_pc (z_pr R) (z_pr C) m L K) (hq : z_cutR R C m p q w r R2 C2) : z_pc (z_pr R2) (z_pr C2) m L K := by
  by_cases h0 : m = 0
  · subst h0
    exact ⟨by omega, fun i hi => absurd hi (by omega), fun i j _ hj => absurd hj (by omega)⟩
  · rcases hq with ⟨-, -, rfl, rfl⟩ | ⟨-, -, -, rfl, rfl⟩ | ⟨v, y, z, -, a, -⟩
    · exact h
    · exact h
    · exact absurd a h0
/-- the states kept behind keep; the state behind undo -/
def l_kc (s : Nat) (sv : l_T) (kv : Nat → l_T) : Nat → l_T := if s = 8 then kv else fun j => if j = s then sv else kv j
def l_uc (sv : l_T) (kv : Nat → l_T) : Nat → l_T
  | 0 => sv
  | k + 1 => kv k
theorem l_kc8 {sv : l_T} {kv : Nat → l_T} : l_kc 8 sv kv = kv := if_pos rfl
theorem l_kcS {s : Nat} {sv : l_T} {kv : Nat → l_T} (h : ¬ s = 8) : l_kc s sv kv s = sv := by unfold l_kc; rw [if_neg h, if_pos rfl]
theorem l_kcN {s j : Nat} {sv : l_T} {kv : Nat → l_T} (h : ¬ s = 8) (e : ¬ j = s) : l_kc s sv kv j = kv j := by unfold l_kc; rw [if_neg h, if_neg e]
def l_sv0 : l_T := l_mk z_R1 z_R1 0 (fun _ => 0) (fun _ => 0) (fun _ => 0)
theorem l_sv0X : l_sX l_sv0 0 (fun _ => 0) (fun _ => 0) (fun _ => 0) := ⟨rfl, ⟨Nat.zero_le _, fun i hi => absurd hi (Nat.not_lt_zero _), fun i j _ hj => absurd hj (Nat.not_lt_zero _)⟩, fun i hi => absurd hi (Nat.not_lt_zero _), fun i hi => absurd hi (Nat.not_lt_zero _)⟩
def lX_at (ci : Nat → ClassId) (a : Nat → Nat) (u : Nat → Int32) (f : Nat → Nat → Int32) : va_W := [((a 0), .inr (0, [.ref (a 6), .ref (a 1), .int (u 0), .int (u 1), .int (u 2), .int (u 3)])), ((a 1), .inr (7, [.ref (a 6), .ref (a 2), .ref (a 3), .ref (a 4), .ref (a 5), .int (u 4), .int (u 5), .int (u 6), .int (u 7)])), ((a 2), .inl (ci 0, 60, .inl (f 0))), ((a 3), .inl (ci 0, 60, .inl (f 1))), ((a 4), .inl (ci 0, 60, .inl (f 2))), ((a 6), .inr (2, [.ref (a 7), .ref (a 8), .ref (a 9), .ref (a 10), .ref (a 11), .ref (a 12)])), ((a 7), .inl (ci 0, 5, .inl (f 3))), ((a 8), .inl (ci 0, 5, .inl (f 4))), ((a 9), .inl (ci 0, 5, .inl (f 5))), ((a 10), .inl (ci 0, 5, .inl (f 6))), ((a 11), .inl (ci 0, 5, .inl (f 7))), ((a 12), .inl (ci 0, 5, .inl (f 8)))]
def lX_ka (ci : Nat → ClassId) (ka : Nat → Nat → Nat) (ku : Nat → Nat → Int32) (kf : Nat → Nat → Nat → Int32) : va_W := lX_at ci (ka 0) (ku 0) (kf 0) ++ (lX_at ci (ka 1) (ku 1) (kf 1) ++ (lX_at ci (ka 2) (ku 2) (kf 2) ++ (lX_at ci (ka 3) (ku 3) (kf 3) ++ (lX_at ci (ka 4) (ku 4) (kf 4) ++ (lX_at ci (ka 5) (ku 5) (kf 5) ++ (lX_at ci (ka 6) (ku 6) (kf 6) ++ (lX_at ci (ka 7) (ku 7) (kf 7))))))))
def l_up {α : Type} (f : Nat → α) (k : Nat) (v : α) : Nat → α := fun j => cond (Nat.beq j k) v (f j)
def XW (ci : Nat → ClassId) (a_x n_wk : Nat) (a : Nat → Nat) (u : Nat → Int32) (f : Nat → Nat → Int32) (xk : Nat → Option Nat) (K : va_W) : va_W := (a_x, .inr (10, [.ref (a 0), .ref (a 1), .ref (a 2), .ref (a 3), .int (u 0), .ref (a 4), .ref (a 5), .ref (a 6), .ref (a 7), .ref (a 8), .ref (a 9), .ref (a 10), .ref (a 11), .ref (a 12)])) :: ((a 4), .inr (8, [.ref (a 13), .int (u 1)])) :: ((a 13), .inl (ci 0, 200, .inl (f 0))) :: ((a 2), .inr (7, [.ref (a 1), .ref (a 14), .ref (a 15), .ref (a 16), .ref (a 17), .int (u 2), .int (u 3), .int (u 4), .int (u 5)])) :: ((a 1), .inr (2, [.ref (a 18), .ref (a 19), .ref (a 20), .ref (a 21), .ref (a 22), .ref (a 23)])) :: ((a 18), .inl (ci 0, 5, .inl (f 1))) :: ((a 19), .inl (ci 0, 5, .inl (f 2))) :: ((a 20), .inl (ci 0, 5, .inl (f 3))) :: ((a 21), .inl (ci 0, 5, .inl (f 4))) :: ((a 22), .inl (ci 0, 5, .inl (f 5))) :: ((a 23), .inl (ci 0, 5, .inl (f 6))) :: ((a 7), .inr (6, [.ref (a 1), .ref (a 24), .ref (a 25), .ref (a 26), .int (u 6), .int (u 7), .int (u 8), .int (u 9), .int (u 10), .int (u 11), .int (u 12)])) :: ((a 10), .inr (4, [.ref (a 27), .int (u 13)])) :: ((a 27), .inl (ci 0, 40, .inl (f 7))) :: ((a 5), .inr (3, [.ref (a 1), .ref (a 4), .int (u 14), .int (u 15), .int (u 16), .int (u 17), .int (u 18), .int (u 19), .int (u 20)])) :: ((a 0), .inr (0, [.ref (a 1), .ref (a 2), .int (u 21), .int (u 22), .int (u 23), .int (u 24)])) :: ((a 24), .inl (ci 0, 4, .inl (f 8))) :: ((a 25), .inl (ci 0, 4, .inl (f 9))) :: ((a 8), .inr (9, [.ref (a 28), .ref (a 29), .ref (a 30), .int (u 25)])) :: ((a 29), .inl (ci 0, n_wk, .inl (f 10))) :: ((a 30), .inl (ci 0, n_wk, .inl (f 11))) :: ((a 28), .inr (6, [.ref (a 1), .ref (a 31), .ref (a 32), .ref (a 33), .int (u 26), .int (u 27), .int (u 28), .int (u 29), .int (u 30), .int (u 31), .int (u 32)])) :: ((a 31), .inl (ci 0, 4, .inl (f 12))) :: ((a 32), .inl (ci 0, 4, .inl (f 13))) :: ((a 26), .inl (ci 0, 4, .inl (f 14))) :: ((a 9), .inr (1, [.ref (a 1), .int (u 33), .int (u 34), .int (u 35), .int (u 36)])) :: ((a 11), .inr (4, [.ref (a 34), .int (u 37)])) :: ((a 34), .inl (ci 0, 40, .inl (f 15))) :: ((a 6), .inr (5, [.ref (a 5), .ref (a 4), .int (u 38), .int (u 39), .int (u 40), .int (u 41), .int (u 42)])) :: ((a 14), .inl (ci 0, 60, .inl (f 16))) :: ((a 15), .inl (ci 0, 60, .inl (f 17))) :: ((a 16), .inl (ci 0, 60, .inl (f 18))) :: ((a 17), .inl (ci 0, 5, .inl (f 19))) :: ((a 12), .inl (ci 0, 200, .inl (f 20))) :: ((a 3), .inl (ci 3, 8, .inr (.inr (.inr (.inr xk))))) :: K
def MW (ci : Nat → ClassId) (a_m : Nat) (a : Nat → Nat) (u : Nat → Int32) (v : Nat → Int64) (f : Nat → Nat → Int32) (h : Nat → Nat → Int64) : va_W := [(a_m, .inr (11, (.ref (a 0) :: .ref (a 1) :: .ref (a 2) :: .ref (a 3) :: .ref (a 4) :: .ref (a 5) :: .ref (a 6) :: .ref (a 7) :: .int (u 0) :: .int (u 1) :: .int (u 2) :: .int (u 3) :: .int (u 4) :: .int (u 5) :: .int (u 6) :: .int (u 7) :: .int (u 8) :: .int (u 9) :: .long (v 0) :: .long (v 1) :: .ref (a 8) :: .int (u 10) :: .int (u 11) :: .ref (a 9) :: .ref (a 10) :: .int (u 12) :: .int (u 13) :: .int (u 14) :: .int (u 15) :: .int (u 16) :: .int (u 17) :: .int (u 18) :: .int (u 19) :: .int (u 20) :: .ref (a 11) :: .ref (a 12) :: .ref (a 13) :: .int (u 21) :: .ref (a 14) :: .ref (a 15) :: .int (u 22) :: .ref (a 16) :: []))), ((a 7), .inl (ci 2, 200, .inl (f 0))), ((a 0), .inl (ci 0, 5, .inl (f 1))), ((a 1), .inl (ci 0, 5, .inl (f 2))), ((a 2), .inl (ci 0, 5, .inl (f 3))), ((a 3), .inl (ci 0, 5, .inl (f 4))), ((a 4), .inl (ci 0, 45, .inl (f 5))), ((a 5), .inl (ci 0, 20, .inl (f 6))), ((a 8), .inl (ci 1, 4, .inr (.inl (h 0)))), ((a 9), .inl (ci 0, 20000, .inl (f 7))), ((a 10), .inl (ci 0, 20000, .inl (f 8))), ((a 6), .inl (ci 0, 20, .inl (f 9))), ((a 11), .inl (ci 0, 60, .inl (f 10))), ((a 12), .inl (ci 0, 60, .inl (f 11))), ((a 13), .inl (ci 0, 60, .inl (f 12))), ((a 14), .inl (ci 0, 200, .inl (f 13))), ((a 15), .inl (ci 0, 1552, .inl (f 14))), ((a 16), .inl (ci 0, 8, .inl (f 15)))]
def lX_ok (sv : l_T) (u : Nat → Int32) (f : Nat → Nat → Int32) : Prop := l_sX sv (u 4) (f 0) (f 1) (f 2) ∧ z_kg (l_R sv) (l_C sv) (f 3) (f 4)
def lM_ok (sv : l_T) (kp : Nat → Int32) (j : Nat) : Prop := z_mkT (l_R sv) (l_C sv) (l_m sv) (l_L sv) (l_K sv) (l_Y sv) kp j ∧ z_pc (z_pr (l_R sv)) (z_pr (l_C sv)) (l_m sv) (l_L sv) (l_K sv) ∧ z_yr (l_m sv) (l_Y sv)
/-- a good state of the class: its tape holds t bytes, its walk has rows of n -/
def XI (ci : Nat → ClassId) (a_x : Nat) (Wd : va_W) (t n_wk s0 : Nat) (sv : l_T) (kv : Nat → l_T) : Prop := ∃ (a : Nat → Nat) (u : Nat → Int32) (f : Nat → Nat → Int32) (xk : Nat → Option Nat) (ka : Nat → Nat → Nat) (ku : Nat → Nat → Int32) (kf : Nat → Nat → Nat → Int32), Wd = XW ci a_x n_wk a u f xk (lX_ka ci ka ku kf) ∧ (t ≤ 200 ∧ (u 1) = nI t) ∧ ((n_wk = 0 ∨ ∃ k, n_wk = 2130 * k + 2) ∧ n_wk ≤ 20000) ∧ GOK (l_R sv) (l_C sv) (z_pr (l_R sv)) (z_pr (l_C sv)) (f 1) (f 2) (f 3) (f 4) (f 5) (f 6) ∧ l_sX sv (u 2) (f 16) (f 17) (f 18) ∧ (s0 ≤ 8 ∧ (u 0) = nI s0 ∧ ∀ j, j < s0 → lX_ok (kv j) (ku j) (kf j)) ∧ (∀ j, j < 8 → xk j = some (ka j 0))
/-- a good state of the reference -/
def MI (ci : Nat → ClassId) (a_m : Nat) (Wd : va_W) (t s0 : Nat) (sv : l_T) (kv : Nat → l_T) : Prop := ∃ (a : Nat → Nat) (u : Nat → Int32) (v : Nat → Int64) (f : Nat → Nat → Int32) (h : Nat → Nat → Int64), Wd = MW ci a_m a u v f h ∧ (t ≤ 200 ∧ (u 0) = nI t) ∧ MOK (l_R sv) (l_C sv) (z_pr (l_R sv)) (z_pr (l_C sv)) (f 1) (f 2) (f 3) (f 4) (f 5) ∧ l_sX sv (u 19) (f 10) (f 11) (f 12) ∧ (s0 ≤ 8 ∧ (u 20) = nI s0 ∧ ∀ j, j < s0 → lM_ok (kv j) (f 14) j)
theorem XI.ok {ci : Nat → ClassId} {a_x t n s0 : Nat} {Wd : va_W} {sv : l_T} {kv : Nat → l_T} (h : XI ci a_x Wd t n s0 sv kv) : l_ok sv := by
  obtain ⟨a, u, f, xk, ka, ku, kf, -, -, -, g, hs, -⟩ := h
  exact ⟨g.2, hs.2.1⟩
/-- how many states are kept behind keep, undo; what they answer -/
def l_ks (s : Nat) : Nat := if s = 8 then 8 else s + 1
def l_kr (s : Nat) : Int32 := if s = 8 then -1 else nI (s + 1)
def l_ur (s : Nat) : Int32 := if s = 0 then -1 else nI (s - 1)
/-- how many bytes the tape holds behind feed, named, ask -/
def l_tf (t : Nat) : Nat := if t ≤ 180 then t + 20 else t
def l_ta (p : Int32) (t : Nat) : Nat := if 1 ≤ p.toInt ∧ p.toInt ≤ 100 ∧ p.toInt ≤ t then 0 else t
def l_tn (p q : Int32) (t : Nat) : Nat := if (1 ≤ p.toInt ∧ p.toInt ≤ 40 ∧ p.toInt ≤ t) ∧ (0 ≤ q.toInt ∧ q.toInt ≤ 1) then 0 else t
theorem l_tfB {t : Nat} (h : t ≤ 200) : l_tf t ≤ 200 := by unfold l_tf; split <;> omega
theorem l_taB {p : Int32} {t : Nat} (h : t ≤ 200) : l_ta p t ≤ 200 := by unfold l_ta; split <;> omega
theorem l_tnB {p q : Int32} {t : Nat} (h : t ≤ 200) : l_tn p q t ≤ 200 := by unfold l_tn; split <;> omega
theorem l_ta1 {p : Int32} {t : Nat} (h : z_txc 100 p t) : l_ta p t = 0 := if_pos h
theorem l_ta2 {p : Int32} {t : Nat} (h : ¬ z_txc 100 p t) : l_ta p t = t := if_neg h
theorem l_tn1 {p q : Int32} {t : Nat} (h : z_txc 40 p t ∧ (0 ≤ q.toInt ∧ q.toInt ≤ 1)) : l_tn p q t = 0 := if_pos h
theorem l_tn2 {p q : Int32} {t : Nat} (h : ¬ (z_txc 40 p t ∧ (0 ≤ q.toInt ∧ q.toInt ≤ 1))) : l_tn p q t = t := if_neg h
theorem Met.imp {l : Launch} {y : MethodName} {ws : List Cond} {rm : Room} {Pc Pc2 : Array Value → State → Prop} {Qc Qc2 : Array Value → State → Outcome → State → Prop} {mc ms : Nat} {free : Addr → Prop} (h : Met l y ws rm Pc Qc mc ms free) (hp : ∀ a s, Pc2 a s → Pc a s) (hq : ∀ a s o t, Pc2 a s → Qc a s o t → Qc2 a s o t) : Met l y ws rm Pc2 Qc2 mc ms free := by
  intro p e h1 h2 h3 s m args below h4 h5 h6 h7
  obtain ⟨n, o, a1, a2, a3, a4, a5⟩ := h p e h1 h2 h3 s m args below h4 h5 (hp _ _ h6) h7
  exact ⟨n, o, a1, a2, a3, hq _ _ _ _ h6 a4, a5⟩
section LWR
variable {l : Launch} {D : va_G} {ci : Nat → ClassId} {A : Nat → Prop} {sa : Nat → Nat} {y : MethodName} {ws : List Cond} {rm : Room} {av : List Value} {v : Option Value} {mc ms : Nat} {Wd W1 W2 W3 : va_W}
theorem q_wr (n : Nat) (is : List Nat) (e1 : q_pk n is Wd = W1) (ok1 : q_ok n is Wd) (is2 : List Nat) (h : Met l y ws rm (va_Pc av (q_N D ci A sa W1)) (q_Q v (q_O D A W2) A) mc ms A) (e2 : q_pk n is2 W2 = W3) (ok2 : q_ok n is2 W2) : Met l y ws rm (va_Pc av (q_N D ci A sa Wd)) (q_Q v (q_O D A W3) A) mc ms A :=
  h.imp (fun _ _ h => ⟨h.1, q_pk_P h.2.1 e1, q_pk_D h.2.2.1 e1 ok1, h.2.2.2⟩) (fun _ _ _ _ _ h => ⟨h.1, ⟨q_pk_P h.2.1.1 e2, q_pk_D h.2.1.2 e2 ok2⟩, h.2.2⟩)
theorem q_wrX {W2x W3x : Nat → Nat → va_W} (n : Nat) (is : List Nat) (e1 : q_pk n is Wd = W1) (ok1 : q_ok n is Wd) (is2 : List Nat) (h : Met l y ws rm (va_Pc av (q_N D ci A sa W1)) (q_Q v (fun t => ∃ b1 b2 : Nat, q_O D A (W2x b1 b2) t) A) mc ms A) (e2 : ∀ b1 b2, q_pk n is2 (W2x b1 b2) = W3x b1 b2) (ok2 : ∀ b1 b2, q_ok n is2 (W2x b1 b2)) : Met l y ws rm (va_Pc av (q_N D ci A sa Wd)) (q_Q v (fun t => ∃ b1 b2 : Nat, q_O D A (W3x b1 b2) t) A) mc ms A :=
  h.imp (fun _ _ h => ⟨h.1, q_pk_P h.2.1 e1, q_pk_D h.2.2.1 e1 ok1, h.2.2.2⟩) (fun _ _ _ _ _ h => ⟨h.1, h.2.1.elim (fun b1 q => q.elim (fun b2 q => ⟨b1, b2, q_pk_P q.1 (e2 b1 b2), q_pk_D q.2 (e2 b1 b2) (ok2 b1 b2)⟩)), h.2.2⟩)
theorem q_wrR (n : Nat) (is : List Nat) (e1 : q_pk n is Wd = W1) (ok1 : q_ok n is Wd) (h : Met l y ws rm (va_Pc av (q_N D ci A sa W1)) (q_R v) mc ms A) : Met l y ws rm (va_Pc av (q_N D ci A sa Wd)) (q_Q v (q_O D A Wd) A) mc ms A :=
  h.imp (fun _ _ h => ⟨h.1, q_pk_P h.2.1 e1, q_pk_D h.2.2.1 e1 ok1, h.2.2.2⟩) (fun _ _ _ _ hp h => ⟨h.1, ⟨by rw [h.2]; exact hp.2.1, hp.2.2.1⟩, by rw [h.2]; exact Nat.le_refl _, fun q _ _ => by rw [h.2]⟩)
/-- what a call leaves: some world with I -/
theorem q_wrI {I : va_W → Prop} {R : va_W} (h : Met l y ws rm (va_Pc av (q_N D ci A sa Wd)) (q_Q v (q_O D A (W3 ++ R)) A) mc ms A) (hI : I W3) : Met l y ws rm (va_Pc av (q_N D ci A sa Wd)) (q_Q v (fun t => ∃ W3, I W3 ∧ q_O D A (W3 ++ R) t) A) mc ms A :=
  h.imp (fun _ _ h => h) (fun _ _ _ _ _ h => ⟨h.1, ⟨W3, hI, h.2.1⟩, h.2.2⟩)
theorem q_wrIX {I : va_W → Prop} {R : va_W} {W3x : Nat → Nat → va_W} (h : Met l y ws rm (va_Pc av (q_N D ci A sa Wd)) (q_Q v (fun t => ∃ b1 b2 : Nat, q_O D A (W3x b1 b2 ++ R) t) A) mc ms A) (hI : ∀ b1 b2, I (W3x b1 b2)) : Met l y ws rm (va_Pc av (q_N D ci A sa Wd)) (q_Q v (fun t => ∃ W3, I W3 ∧ q_O D A (W3 ++ R) t) A) mc ms A :=
  h.imp (fun _ _ h => h) (fun _ _ _ _ _ h => ⟨h.1, h.2.1.elim (fun b1 q => q.elim (fun b2 q => ⟨_, hI b1 b2, q⟩)), h.2.2⟩)
end LWR
end
section
/-! answers: neighbour, around -/
section S4A
variable {rc cc br zc rw sh cr cq dp wd za fl fk fy : Nat → Int32} {sv : l_T} {N l : Nat}
def l_spot (sv : l_T) (l k ro pl : Nat) : Prop := l < 5 ∧ k < 20000000 ∧ ro ≤ 44 * z_pr (l_R sv) l + 1 ∧ pl < z_rl (z_pr (l_R sv) l) (z_pr (l_C sv) l) ro ∧ k = z_rs (z_pr (l_R sv) l) (z_pr (l_C sv) l) ro + pl
theorem l_spot_one {l k ro pl l' k' ro' pl' : Nat} {p q : Int32} (h : l_ok sv) (h1 : l_spot sv l k ro pl) (h2 : l_spot sv l' k' ro' pl') (p1 : p = nI l) (p2 : p = nI l') (q1 : q = nI k) (q2 : q = nI k') : l = l' ∧ k = k' ∧ ro = ro' ∧ pl = pl' := by
  obtain ⟨b1, b2, d1, d2, d3⟩ := h1
  obtain ⟨b1', b2', d1', d2', d3'⟩ := h2
  have e1 : l = l' := by rw [p1, nI_eq (by omega) (by omega)] at p2; exact p2
  have e2 : k = k' := by rw [q1, nI_eq (by omega) (by omega)] at q2; exact q2
  subst e1 e2
  have e3 : ro = ro' := z_row_one (V := z_pr (l_C sv) l) (h.1.pos l b1).1 d1 d1' (k := k) (by omega) (by omega) (by omega) (by omega)
  subst e3
  exact ⟨rfl, rfl, rfl, by omega⟩
def l_bM (sv : l_T) (l ro pl i : Nat) : Nat := z_bM (z_pr (l_R sv) l) (z_pr (l_C sv) l) ro pl i
def l_bF (sv : l_T) (l ro pl i : Nat) : Nat := z_bF (z_pr (l_R sv) l) (z_pr (l_C sv) l) ro pl i
def l_vnb (M F : Nat) (i : Int32) : Int32 := if i = -1 then nI M else if nI M ≤ i then -2 else nI F + i
def l_aneighbour (sv : l_T) (p q w i r : Int32) : Prop := (¬ (z_hs (z_pr (l_R sv)) (z_pr (l_C sv)) p q ∧ (0 ≤ w.toInt ∧ w.toInt ≤ 3) ∧ -1 ≤ i) ∧ r = -1) ∨ (∃ l k ro pl j, (z_hs (z_pr (l_R sv)) (z_pr (l_C sv)) p q ∧ (0 ≤ w.toInt ∧ w.toInt ≤ 3) ∧ -1 ≤ i) ∧ l_spot sv l k ro pl ∧ p = nI l ∧ q = nI k ∧ j < 4 ∧ w = nI j ∧ r = l_vnb (l_bM sv l ro pl j) (l_bF sv l ro pl j) i)
theorem l_aneighbour_one {p q w i r r' : Int32} (h : l_ok sv) (h1 : l_aneighbour sv p q w i r) (h2 : l_aneighbour sv p q w i r') : r = r' := by
  rcases h1 with ⟨a, b⟩ | ⟨l, k, ro, pl, j, a, b1, c1, c2, d1, d2, e⟩ <;> rcases h2 with ⟨a', b'⟩ | ⟨l', k', ro', pl', j', a', b1', c1', c2', d1', d2', e'⟩
  · exact b.trans b'.symm
  · exact absurd a' a
  · exact absurd a a'
  · obtain ⟨rfl, rfl, rfl, rfl⟩ := l_spot_one h b1 b1' c1 c1' c2 c2'
    have e1 : j = j' := by rw [d2, nI_eq (by omega) (by omega)] at d2'; exact d2'
    subst e1
    exact e.trans e'.symm
theorem l_ne0 {M : Nat} {i : Int32} (h1 : -1 ≤ i) (h2 : ¬ i = -1) (h3 : ¬ nI M ≤ i) : M ≠ 0 := by
  intro h0
  apply h3
  rw [h0, z_le, nI_toInt (by omega)]
  rw [z_le, show (-1 : Int32).toInt = -1 from rfl] at h1
  have h4 : ¬ i.toInt = -1 := fun z => h2 (Int32.toInt_inj.mp (by rw [z]; rfl))
  omega
theorem a_x_neighbour (g : GOK (l_R sv) (l_C sv) (z_pr (l_R sv)) (z_pr (l_C sv)) rc cc br zc rw sh) (hN : 1000000 ≤ N) (f m : Nat → Int32) (a1 a2 a3 a4 a5 a6 p q w i : Int32) : Ok (f_X_neighbour N f m a1 a2 a3 a4 a5 a6 br zc rw sh p q w i) (fun x => l_aneighbour sv p q w i x.1) := by
  unfold f_X_neighbour
  refine Ok.b1 (r_hasSheet g p q) (fun v1 h1 => ?_)
  rcases h1 with ⟨z, rfl⟩ | ⟨z, rfl⟩
  rotate_left
  · exact Ok.ite (fun _ => Ok.ret (Or.inl ⟨fun u => z u.1, rfl⟩)) (fun c => absurd rfl c)
  refine Ok.ite (fun c => absurd c (by decide)) (fun _ => Ok.b1 (s_isFrom w _ _) (fun v2 h2 => ?_))
  rw [show (0 : Int32).toInt = 0 from rfl, show (3 : Int32).toInt = 3 from rfl] at h2
  refine Ok.ite (fun c => Ok.ret (Or.inl ⟨fun u => z_if0 h2 c u.2.1, rfl⟩)) (fun c => ?_)
  have hw := z_if1 h2 c
  refine Ok.ite (fun hi => ?_) (fun hi => Ok.ret (Or.inl ⟨fun u => hi u.2.2, rfl⟩))
  have z' := z
  obtain ⟨l, k, hl, rfl, rfl, hk⟩ := z'
  have hs := g.2.sh hl
  obtain ⟨ro, pl, e, d1, d2, d3⟩ := k_put (N := N) g (by omega) hl hk a1 a2 a3 a4 a5 a6
  obtain ⟨f', m', e2, hfm⟩ := r_lookAround g hl d1 d2 f m
  obtain ⟨j, -, rfl, hj⟩ := z_nat hw.1
  have hj4 : j < 4 := by omega
  obtain ⟨h3, h4⟩ := hfm j hj4
  rw [e, q_b6_s, e2, q_b2_s]
  have fin : ∀ r : Int32, r = l_vnb (l_bM sv l ro pl j) (l_bF sv l ro pl j) i → l_aneighbour sv (nI l) (nI k) (nI j) i r := fun r h => Or.inr ⟨l, k, ro, pl, j, ⟨z, hw, hi⟩, ⟨hl, by omega, d1, d2, d3⟩, rfl, rfl, hj4, rfl, h⟩
  unfold l_vnb at fin
  refine Ok.ite (fun c1 => ?_) (fun c1 => ?_)
  · rw [z_ai hj4 (by omega), h3]
    exact Ok.ret (fin _ (by rw [if_pos c1]; rfl))
  rw [z_ai hj4 (by omega), h3]
  refine Ok.ite (fun c2 => Ok.ret (fin _ (by rw [if_neg c1]; exact (if_pos c2).symm))) (fun c2 => ?_)
  rw [z_ai hj4 (by omega), h4 (l_ne0 hi c1 c2)]
  exact Ok.ret (fin _ (by rw [if_neg c1]; exact (if_neg c2).symm))
theorem r_isSide (w : Int32) : Ok (f_M_isSide w) (fun y => y = if 0 ≤ w.toInt ∧ w.toInt ≤ 3 then 1 else 0) := by
  unfold f_M_isSide
  rw [m_in, q_b1_s, z_toL, show (0 : Int64).toInt = 0 from rfl, show (3 : Int64).toInt = 3 from rfl]
  refine Ok.bo ?_ (Ok.ret rfl)
  split
  · exact Or.inr rfl
  · exact Or.inl rfl
theorem a_m_neighbour (g : MOK (l_R sv) (l_C sv) (z_pr (l_R sv)) (z_pr (l_C sv)) cr cq dp wd za) (hN : 1000000 ≤ N) (fb mb p q w i : Int32) : Ok (f_M_neighbour N dp wd za fb mb p q w i) (fun x => l_aneighbour sv p q w i x.1) := by
  unfold f_M_neighbour
  refine Ok.b1 (r_isKey g p q) (fun v1 h1 => ?_)
  rcases h1 with ⟨z, rfl⟩ | ⟨z, rfl⟩
  rotate_left
  · exact Ok.ite (fun _ => Ok.ret (Or.inl ⟨fun u => z u.1, rfl⟩)) (fun c => absurd rfl c)
  refine Ok.ite (fun c => absurd c (by decide)) (fun _ => Ok.b1 (r_isSide w) (fun v2 h2 => ?_))
  refine Ok.ite (fun c => Ok.ret (Or.inl ⟨fun u => z_if0 h2 c u.2.1, rfl⟩)) (fun c => ?_)
  have hw := z_if1 h2 c
  refine Ok.ite (fun hi => ?_) (fun hi => Ok.ret (Or.inl ⟨fun u => hi u.2.2, rfl⟩))
  have z' := z
  obtain ⟨l, k, hl, rfl, rfl, hk⟩ := z'
  have hs := g.2.2.sh hl
  obtain ⟨ro, pl, d1, d2, d3, -, -⟩ := t_spot (N := N) g (by omega) hl hk
  obtain ⟨j, -, rfl, hj⟩ := z_nat hw.1
  have hj4 : j < 4 := by omega
  obtain ⟨x, e2, h4⟩ := r_laysBeside (N := N) g (by omega) hl d1 d2 fb mb hj4
  rw [← d3] at e2
  rw [e2, q_b2_s]
  have fin : ∀ r : Int32, r = l_vnb (l_bM sv l ro pl j) (l_bF sv l ro pl j) i → l_aneighbour sv (nI l) (nI k) (nI j) i r := fun r h => Or.inr ⟨l, k, ro, pl, j, ⟨z, hw, hi⟩, ⟨hl, by omega, d1, d2, d3⟩, rfl, rfl, hj4, rfl, h⟩
  unfold l_vnb at fin
  refine Ok.ite (fun c1 => Ok.ret (fin _ (by rw [if_pos c1]; rfl))) (fun c1 => Ok.ite (fun c2 => Ok.ret (fin _ (by rw [if_neg c1]; exact (if_pos c2).symm))) (fun c2 => ?_))
  have h5 := h4 (l_ne0 hi c1 c2)
  subst h5
  exact Ok.ret (fin _ (by rw [if_neg c1]; exact (if_neg c2).symm))
end S4A
end
section
/-! answers: a spot's generic words; around -/
section S6A
variable {rc cc br zc rw sh cr cq dp wd za fl fk fy : Nat → Int32} {sv : l_T} {N l : Nat}
/-- an answer: what is refused, else what a good start gives -/
def l_rel {σ : Type} (C : Prop) (c : Int32) (S : σ → Prop) (f : σ → Int32) (r : Int32) : Prop := (¬ C ∧ r = c) ∨ (C ∧ ∃ s, S s ∧ r = f s)
theorem l_rel_one {σ : Type} {C : Prop} {c : Int32} {S : σ → Prop} {f : σ → Int32} {r r' : Int32} (hS : ∀ s s', S s → S s' → s = s') (h1 : l_rel C c S f r) (h2 : l_rel C c S f r') : r = r' := by
  rcases h1 with ⟨a, b⟩ | ⟨a, s, h, e⟩ <;> rcases h2 with ⟨a', b'⟩ | ⟨a', s', h', e'⟩
  · exact b.trans b'.symm
  · exact absurd a' a
  · exact absurd a a'
  · rw [hS s s' h h'] at e
    exact e.trans e'.symm
theorem l_relN {σ : Type} {C : Prop} {c : Int32} {S : σ → Prop} {f : σ → Int32} (h : ¬ C) : l_rel C c S f c := Or.inl ⟨h, rfl⟩
theorem l_relY {σ : Type} {C : Prop} {c r : Int32} {S : σ → Prop} {f : σ → Int32} (h : C) {s : σ} (hs : S s) (e : r = f s) : l_rel C c S f r := Or.inr ⟨h, s, hs, e⟩
/-- a sheet: level, key, row, place -/
def l_sp (sv : l_T) (p q : Int32) (s : Nat × Nat × Nat × Nat) : Prop := l_spot sv s.1 s.2.1 s.2.2.1 s.2.2.2 ∧ p = nI s.1 ∧ q = nI s.2.1
theorem l_sp_one {p q : Int32} (h : l_ok sv) : ∀ s s' : Nat × Nat × Nat × Nat, l_sp sv p q s → l_sp sv p q s' → s = s' := by
  intro ⟨l, k, ro, pl⟩ ⟨l', k', ro', pl'⟩ ⟨h1, h2, h3⟩ ⟨h1', h2', h3'⟩
  obtain ⟨rfl, rfl, rfl, rfl⟩ := l_spot_one h h1 h1' h2 h2' h3 h3'
  rfl
theorem z_bM0 {H0 V0 r p : Nat} : z_bM H0 V0 r p 0 = if r = 0 then 0 else ((p + 1) * z_rl H0 V0 (r - 1) - 1) / z_rl H0 V0 r - p * z_rl H0 V0 (r - 1) / z_rl H0 V0 r + 1 := if_pos rfl
theorem z_bM2 {H0 V0 r p : Nat} : z_bM H0 V0 r p 2 = if r = 44 * H0 + 1 then 0 else ((p + 1) * z_rl H0 V0 (r + 1) - 1) / z_rl H0 V0 r - p * z_rl H0 V0 (r + 1) / z_rl H0 V0 r + 1 := (if_neg (show ¬ (2 : Nat) = 0 by omega)).trans (if_pos rfl)
theorem z_bM1 {H0 V0 r p : Nat} : z_bM H0 V0 r p 1 = if r = 0 ∨ r = 44 * H0 + 1 then 0 else 1 := (if_neg (show ¬ (1 : Nat) = 0 by omega)).trans (if_neg (show ¬ (1 : Nat) = 2 by omega))
theorem z_bM3 {H0 V0 r p : Nat} : z_bM H0 V0 r p 3 = if r = 0 ∨ r = 44 * H0 + 1 then 0 else 1 := (if_neg (show ¬ (3 : Nat) = 0 by omega)).trans (if_neg (show ¬ (3 : Nat) = 2 by omega))
theorem z_bF0 {H0 V0 r p : Nat} : z_bF H0 V0 r p 0 = z_rs H0 V0 (r - 1) + p * z_rl H0 V0 (r - 1) / z_rl H0 V0 r := if_pos rfl
theorem z_bF2 {H0 V0 r p : Nat} : z_bF H0 V0 r p 2 = z_rs H0 V0 (r + 1) + p * z_rl H0 V0 (r + 1) / z_rl H0 V0 r := (if_neg (show ¬ (2 : Nat) = 0 by omega)).trans (if_pos rfl)
theorem z_bF1 {H0 V0 r p : Nat} : z_bF H0 V0 r p 1 = z_rs H0 V0 r + (p + 1) % z_rl H0 V0 r := (if_neg (show ¬ (1 : Nat) = 0 by omega)).trans ((if_neg (show ¬ (1 : Nat) = 2 by omega)).trans (if_pos rfl))
theorem z_bF3 {H0 V0 r p : Nat} : z_bF H0 V0 r p 3 = z_rs H0 V0 r + (p + (z_rl H0 V0 r - 1)) % z_rl H0 V0 r := (if_neg (show ¬ (3 : Nat) = 0 by omega)).trans ((if_neg (show ¬ (3 : Nat) = 2 by omega)).trans (if_neg (show ¬ (3 : Nat) = 1 by omega)))
theorem z_bB {H0 V0 r p : Nat} (hH : 1 ≤ H0) (hV : 1 ≤ V0) (hr : r ≤ 44 * H0 + 1) (hp : p < z_rl H0 V0 r) {i : Nat} (hi : i < 4) : z_bM H0 V0 r p i ≤ 60 * V0 ∧ (z_bM H0 V0 r p i ≠ 0 → z_bF H0 V0 r p i + z_bM H0 V0 r p i ≤ 2130 * (H0 * V0) + 2) := by
  have la := z_rl_pos hH hV hr
  have hre := z_rs_end (V := V0) hH hr
  have key : ∀ b, b ≤ 44 * H0 + 1 → ((p + 1) * z_rl H0 V0 b - 1) / z_rl H0 V0 r - p * z_rl H0 V0 b / z_rl H0 V0 r + 1 ≤ 60 * V0 ∧ z_rs H0 V0 b + p * z_rl H0 V0 b / z_rl H0 V0 r + (((p + 1) * z_rl H0 V0 b - 1) / z_rl H0 V0 r - p * z_rl H0 V0 b / z_rl H0 V0 r + 1) ≤ 2130 * (H0 * V0) + 2 := by
    intro b hb
    have lb := z_rl_pos hH hV hb
    have hbe := z_rs_end (V := V0) hH hb
    have m1 : (p + 1) * z_rl H0 V0 b ≤ z_rl H0 V0 r * z_rl H0 V0 b := Nat.mul_le_mul_right _ (by omega)
    have m2 : 1 * 1 ≤ (p + 1) * z_rl H0 V0 b := Nat.mul_le_mul (by omega) lb.1
    have d1 : ((p + 1) * z_rl H0 V0 b - 1) / z_rl H0 V0 r < z_rl H0 V0 b := Nat.div_lt_of_lt_mul (by omega)
    have e : (p + 1) * z_rl H0 V0 b = p * z_rl H0 V0 b + z_rl H0 V0 b := Nat.succ_mul _ _
    have d2 : p * z_rl H0 V0 b / z_rl H0 V0 r ≤ ((p + 1) * z_rl H0 V0 b - 1) / z_rl H0 V0 r := Nat.div_le_div_right (by omega)
    generalize ((p + 1) * z_rl H0 V0 b - 1) / z_rl H0 V0 r = y at *
    generalize p * z_rl H0 V0 b / z_rl H0 V0 r = x at *
    exact ⟨by omega, by omega⟩
  rcases (show i = 0 ∨ i = 2 ∨ i = 1 ∨ i = 3 by omega) with rfl | rfl | rfl | rfl
  · rw [z_bM0, z_bF0]
    by_cases h0 : r = 0
    · rw [if_pos h0]; exact ⟨Nat.zero_le _, fun z => absurd rfl z⟩
    · rw [if_neg h0]; exact ⟨(key (r - 1) (by omega)).1, fun _ => (key (r - 1) (by omega)).2⟩
  · rw [z_bM2, z_bF2]
    by_cases h0 : r = 44 * H0 + 1
    · rw [if_pos h0]; exact ⟨Nat.zero_le _, fun z => absurd rfl z⟩
    · rw [if_neg h0]; exact ⟨(key (r + 1) (by omega)).1, fun _ => (key (r + 1) (by omega)).2⟩
  · have h2 : (p + 1) % z_rl H0 V0 r < z_rl H0 V0 r := Nat.mod_lt _ (by omega)
    rw [z_bM1, z_bF1]
    by_cases h0 : r = 0 ∨ r = 44 * H0 + 1
    · rw [if_pos h0]; exact ⟨Nat.zero_le _, fun z => absurd rfl z⟩
    · rw [if_neg h0]; exact ⟨by omega, fun _ => by omega⟩
  · have h2 : (p + (z_rl H0 V0 r - 1)) % z_rl H0 V0 r < z_rl H0 V0 r := Nat.mod_lt _ (by omega)
    rw [z_bM3, z_bF3]
    by_cases h0 : r = 0 ∨ r = 44 * H0 + 1
    · rw [if_pos h0]; exact ⟨Nat.zero_le _, fun z => absurd rfl z⟩
    · rw [if_neg h0]; exact ⟨by omega, fun _ => by omega⟩
theorem z_bM13 {H0 V0 r p : Nat} : z_bM H0 V0 r p 1 = z_bM H0 V0 r p 3 ∧ z_bM H0 V0 r p 1 ≤ 1 := by
  rw [z_bM1, z_bM3]
  exact ⟨rfl, by split <;> omega⟩
/-- the i-th of all neighbours, by keys -/
def l_nA (M F : Nat → Nat) (j : Nat) : Nat := if j < M 0 then F 0 + j else if j - M 0 < M 1 + M 3 then (if j - M 0 = 0 then (if F 3 < F 1 then F 3 else F 1) else (if F 3 ≤ F 1 then F 1 else F 3)) else F 2 + (j - M 0 - M 1 - M 3)
def l_tot (M : Nat → Nat) : Nat := M 0 + M 1 + M 2 + M 3
/-- rows of neighbours, as both sides have them -/
def l_MF (M F : Nat → Nat) : Prop := (M 1 = M 3 ∧ M 1 ≤ 1) ∧ ∀ i, i < 4 → M i ≤ 600000 ∧ (M i ≠ 0 → F i + M i ≤ 20000000)
theorem l_MF_of {R C H V : Nat → Nat} (g : CUT R C H V) (hl : l < 5) {r p : Nat} (hr : r ≤ 44 * H l + 1) (hp : p < z_rl (H l) (V l) r) : l_MF (z_bM (H l) (V l) r p) (z_bF (H l) (V l) r p) := by
  have hv := g.hv hl
  have hps := g.pos l hl
  have hs := g.sh hl
  refine ⟨z_bM13, fun i hi => ?_⟩
  obtain ⟨h1, h2⟩ := z_bB hps.1 hps.2 hr hp hi
  exact ⟨by omega, fun z => by have := h2 z; omega⟩
theorem r_besideKey {f m : Nat → Int32} {F M : Nat → Nat} (h : l_MF M F) (hfm : ∀ i, i < 4 → m i = nI (M i) ∧ (M i ≠ 0 → f i = nI (F i))) {i : Nat} (hi : i < l_tot M) : f_Spot_besideKey f m (nI i) = some (nI (l_nA M F i)) := by
  unfold l_tot at hi
  obtain ⟨⟨h13, h1⟩, hh⟩ := h
  obtain ⟨b0, s0⟩ := hh 0 (by omega)
  obtain ⟨b1, s1⟩ := hh 1 (by omega)
  obtain ⟨b2, s2⟩ := hh 2 (by omega)
  obtain ⟨b3, s3⟩ := hh 3 (by omega)
  obtain ⟨m0, f0⟩ := hfm 0 (by omega)
  obtain ⟨m1, f1⟩ := hfm 1 (by omega)
  obtain ⟨m2, f2⟩ := hfm 2 (by omega)
  obtain ⟨m3, f3⟩ := hfm 3 (by omega)
  unfold f_Spot_besideKey l_nA
  rw [show (0 : Int32) = nI 0 from rfl, z_ai (by omega) (by omega), m0]
  by_cases c0 : M 0 ≤ i
  · rw [if_pos (by rw [nI_leI (by omega) (by omega)]; exact c0), z_ai (by omega) (by omega), m0, z_nm, pk_sub c0, z_i 1, z_ai (by omega) (by omega), z_i 3, z_ai (by omega) (by omega), m1, m3, nI_add, if_neg (show ¬ i < M 0 by omega)]
    by_cases c1 : i - M 0 < M 1 + M 3
    · have n1 : M 1 ≠ 0 := by omega
      have n3 : M 3 ≠ 0 := by omega
      have t1 := s1 n1
      have t3 := s3 n3
      rw [if_pos (by rw [nI_ltI (by omega) (by omega)]; exact c1), if_pos c1]
      by_cases c2 : i - M 0 = 0
      · rw [if_pos (by rw [c2]), if_pos c2, z_ai (by omega) (by omega), z_ai (by omega) (by omega), z_nm, f1 n1, f3 n3]
        by_cases c3 : F 3 < F 1
        · rw [if_pos (by rw [nI_ltI (by omega) (by omega)]; exact c3), if_pos c3]
        · rw [if_neg (by rw [nI_ltI (by omega) (by omega)]; exact c3), if_neg c3]
      · rw [if_neg (by rw [nI_eq (by omega) (by omega)]; exact c2), if_neg c2, z_ai (by omega) (by omega), z_ai (by omega) (by omega), z_nm, f1 n1, f3 n3]
        by_cases c3 : F 1 < F 3
        · rw [if_pos (by rw [nI_ltI (by omega) (by omega)]; exact c3), if_neg (by omega)]
        · rw [if_neg (by rw [nI_ltI (by omega) (by omega)]; exact c3), if_pos (by omega)]
    · have n2 : M 2 ≠ 0 := by omega
      have t2 := s2 n2
      rw [if_neg (by rw [nI_ltI (by omega) (by omega)]; exact c1), if_neg c1, z_i 2, z_ai (by omega) (by omega), z_ai (by omega) (by omega), z_ai (by omega) (by omega), f2 n2, m1, m3, nI_add, pk_sub (by omega), pk_sub (by omega)]
      refine congrArg (fun z => some (nI z)) ?_
      omega
  · rw [if_neg (by rw [nI_leI (by omega) (by omega)]; exact c0), z_ai (by omega) (by omega), f0 (by omega), nI_add, if_pos (by omega)]
theorem r_allBeside {f m : Nat → Int32} {F M : Nat → Nat} (hfm : ∀ i, i < 4 → m i = nI (M i) ∧ (M i ≠ 0 → f i = nI (F i))) : f_Spot_allBeside m = some (nI (l_tot M)) := by
  unfold f_Spot_allBeside l_tot
  rw [show (0 : Int32) = nI 0 from rfl, z_ai (by omega) (by omega), z_i 1, z_ai (by omega) (by omega), z_i 2, z_ai (by omega) (by omega), z_i 3, z_ai (by omega) (by omega), (hfm 0 (by omega)).1, (hfm 1 (by omega)).1, (hfm 2 (by omega)).1, (hfm 3 (by omega)).1, nI_add, nI_add, nI_add]
theorem r_allBesideM_L {R C H V : Nat → Nat} (g : MOK R C H V cr cq dp wd za) (hN : 50 ≤ N) (hl : l < 5) {r p : Nat} (hr : r ≤ 44 * H l + 1) (hp : p < z_rl (H l) (V l) r) : ∀ n i t (a b : Int32), i ≤ 4 → 4 - i < n → (t = (if i = 0 then 0 else z_bM (H l) (V l) r p 0) + (if i ≤ 1 then 0 else z_bM (H l) (V l) r p 1) + (if i ≤ 2 then 0 else z_bM (H l) (V l) r p 2) + (if i ≤ 3 then 0 else z_bM (H l) (V l) r p 3)) → Ok (f_M_allBeside_L5 N dp wd za (nI l) (nI (z_rs (H l) (V l) r + p)) n (nI t) (nI i) a b) (fun x => x.1 = nI (l_tot (z_bM (H l) (V l) r p))) := by
  intro n
  induction n with
  | zero => intro i t a b h1 h2; omega
  | succ n ih =>
    intro i t a b h1 h2 ht
    unfold f_M_allBeside_L5
    refine Ok.ite (fun c => ?_) (fun c => ?_)
    all_goals rw [z_i 4, nI_leI (by omega) (by omega)] at c
    · have e : i = 4 := by omega
      subst e
      rw [if_neg (by omega), if_neg (by omega), if_neg (by omega), if_neg (by omega)] at ht
      exact Ok.ret (by rw [ht]; rfl)
    · obtain ⟨x, e2, -⟩ := r_laysBeside (N := N) g hN hl hr hp a b (i := i) (by omega)
      rw [e2, q_b2_s, nI_add, z_nm, z_i 1, nI_add, z_nm]
      refine ih (i + 1) _ _ _ (by omega) (by omega) ?_
      rcases (show i = 0 ∨ i = 1 ∨ i = 2 ∨ i = 3 by omega) with rfl | rfl | rfl | rfl
      · rw [if_pos rfl, if_pos (by omega), if_pos (by omega), if_pos (by omega)] at ht
        rw [if_neg (by omega), if_pos (by omega), if_pos (by omega), if_pos (by omega)]
        omega
      · rw [if_neg (by omega), if_pos (by omega), if_pos (by omega), if_pos (by omega)] at ht
        rw [if_neg (by omega), if_neg (by omega), if_pos (by omega), if_pos (by omega)]
        omega
      · rw [if_neg (by omega), if_neg (by omega), if_pos (by omega), if_pos (by omega)] at ht
        rw [if_neg (by omega), if_neg (by omega), if_neg (by omega), if_pos (by omega)]
        omega
      · rw [if_neg (by omega), if_neg (by omega), if_neg (by omega), if_pos (by omega)] at ht
        rw [if_neg (by omega), if_neg (by omega), if_neg (by omega), if_neg (by omega)]
        omega
theorem r_allBesideM {R C H V : Nat → Nat} (g : MOK R C H V cr cq dp wd za) (hN : 50 ≤ N) (hl : l < 5) {r p : Nat} (hr : r ≤ 44 * H l + 1) (hp : p < z_rl (H l) (V l) r) (a b : Int32) : Ok (f_M_allBeside N dp wd za a b (nI l) (nI (z_rs (H l) (V l) r + p))) (fun x => x.1 = nI (l_tot (z_bM (H l) (V l) r p))) := by
  unfold f_M_allBeside
  rw [z_nm, z_nm]
  exact Ok.b3 (r_allBesideM_L g hN hl hr hp N 0 0 a b (by omega) (by omega) (by rw [if_pos rfl, if_pos (by omega), if_pos (by omega), if_pos (by omega)])) (fun x1 x2 x3 h => Ok.ret h)
theorem r_besideAllM {R C H V : Nat → Nat} (g : MOK R C H V cr cq dp wd za) (hN : 50 ≤ N) (hl : l < 5) {r p : Nat} (hr : r ≤ 44 * H l + 1) (hp : p < z_rl (H l) (V l) r) (a b : Int32) {i : Nat} (hi : i < l_tot (z_bM (H l) (V l) r p)) : Ok (f_M_besideAll N dp wd za a b (nI l) (nI (z_rs (H l) (V l) r + p)) (nI i)) (fun x => x.1 = nI (l_nA (z_bM (H l) (V l) r p) (z_bF (H l) (V l) r p) i)) := by
  have hMF := l_MF_of g.2.2 hl hr hp
  unfold l_tot at hi
  obtain ⟨⟨h13, h1⟩, hh⟩ := hMF
  obtain ⟨b0, s0⟩ := hh 0 (by omega)
  obtain ⟨b1, s1⟩ := hh 1 (by omega)
  obtain ⟨b2, s2⟩ := hh 2 (by omega)
  obtain ⟨b3, s3⟩ := hh 3 (by omega)
  unfold f_M_besideAll l_nA
  obtain ⟨x0, e0, f0⟩ := r_laysBeside (N := N) g hN hl hr hp a b (i := 0) (by omega)
  rw [show (0 : Int32) = nI 0 from rfl, e0, q_b2_s]
  refine Ok.ite (fun c0 => ?_) (fun c0 => ?_)
  all_goals rw [nI_leI (by omega) (by omega)] at c0
  · obtain ⟨x1, e1, f1⟩ := r_laysBeside (N := N) g hN hl hr hp x0 (nI (z_bM (H l) (V l) r p 0)) (i := 1) (by omega)
    obtain ⟨x3, e3, f3⟩ := r_laysBeside (N := N) g hN hl hr hp x1 (nI (z_bM (H l) (V l) r p 1)) (i := 3) (by omega)
    obtain ⟨x2, e2, f2⟩ := r_laysBeside (N := N) g hN hl hr hp x3 (nI (z_bM (H l) (V l) r p 3)) (i := 2) (by omega)
    rw [pk_sub c0, z_nm, z_i 1, e1, q_b2_s, z_i 3, e3, q_b2_s, if_neg (show ¬ i < z_bM (H l) (V l) r p 0 by omega)]
    have K : 2 * z_bM (H l) (V l) r p 1 ≤ i - z_bM (H l) (V l) r p 0 → Ok (q_nm ((nI (i - z_bM (H l) (V l) r p 0) - (2 * nI (z_bM (H l) (V l) r p 1))) : Int32) (fun (v8 : Int32) => q_b2 (f_M_laysBeside N dp wd za x3 (nI (z_bM (H l) (V l) r p 3)) (nI l) (nI (z_rs (H l) (V l) r + p)) 2) (fun (v9 : Int32) (v10 : Int32) => if v10 ≤ v8 then (some ((-1), v9, v10)) else (some ((v9 + v8), v9, v10))))) (fun x : Int32 × Int32 × Int32 => x.1 = nI (if i - z_bM (H l) (V l) r p 0 < z_bM (H l) (V l) r p 1 + z_bM (H l) (V l) r p 3 then (if i - z_bM (H l) (V l) r p 0 = 0 then (if z_bF (H l) (V l) r p 3 < z_bF (H l) (V l) r p 1 then z_bF (H l) (V l) r p 3 else z_bF (H l) (V l) r p 1) else (if z_bF (H l) (V l) r p 3 ≤ z_bF (H l) (V l) r p 1 then z_bF (H l) (V l) r p 1 else z_bF (H l) (V l) r p 3)) else z_bF (H l) (V l) r p 2 + (i - z_bM (H l) (V l) r p 0 - z_bM (H l) (V l) r p 1 - z_bM (H l) (V l) r p 3))) := by
      intro h2
      rw [z_i 2, pk_mul, pk_sub h2, z_nm, e2, q_b2_s]
      refine Ok.ite (fun c => ?_) (fun c => ?_)
      all_goals rw [nI_leI (by omega) (by omega)] at c
      · omega
      · rw [f2 (by omega), nI_add, if_neg (by omega)]
        refine Ok.ret ?_
        refine congrArg nI ?_
        show z_bF (H l) (V l) r p 2 + (i - z_bM (H l) (V l) r p 0 - 2 * z_bM (H l) (V l) r p 1) = _
        omega
    refine Ok.j0 ?_
    by_cases hM1 : z_bM (H l) (V l) r p 1 = 1
    · have n3 : z_bM (H l) (V l) r p 3 ≠ 0 := by omega
      have t1 := s1 (by omega)
      have t3 := s3 n3
      rw [if_pos (show nI (z_bM (H l) (V l) r p 1) = nI 1 by rw [hM1])]
      refine Ok.ite (fun c => ?_) (fun c => ?_)
      all_goals rw [z_i 2, nI_leI (by omega) (by omega)] at c
      · exact K (by omega)
      · rw [f1 (by omega), f3 n3, if_pos (show i - z_bM (H l) (V l) r p 0 < z_bM (H l) (V l) r p 1 + z_bM (H l) (V l) r p 3 by omega)]
        refine Ok.j1 ?_
        by_cases c2 : i - z_bM (H l) (V l) r p 0 = 0
        · rw [if_pos (show nI (i - z_bM (H l) (V l) r p 0) = nI 0 by rw [c2]), if_pos c2]
          refine Ok.j1 ?_
          by_cases c3 : z_bF (H l) (V l) r p 3 ≤ z_bF (H l) (V l) r p 1
          · rw [if_pos (by rw [nI_leI (by omega) (by omega)]; exact c3)]
            dsimp only
            rw [if_neg (by decide)]
            by_cases c4 : z_bF (H l) (V l) r p 3 < z_bF (H l) (V l) r p 1
            · rw [if_pos c4]; exact Ok.ret rfl
            · rw [if_neg c4]; exact Ok.ret (congrArg nI (show z_bF (H l) (V l) r p 3 = z_bF (H l) (V l) r p 1 by omega))
          · rw [if_neg (by rw [nI_leI (by omega) (by omega)]; exact c3)]
            dsimp only
            rw [if_pos rfl, if_neg (by omega)]
            exact Ok.ret rfl
        · rw [if_neg (show ¬ nI (i - z_bM (H l) (V l) r p 0) = nI 0 by rw [nI_eq (by omega) (by omega)]; exact c2), if_neg c2]
          refine Ok.j1 ?_
          by_cases c3 : z_bF (H l) (V l) r p 3 ≤ z_bF (H l) (V l) r p 1
          · rw [if_pos (by rw [nI_leI (by omega) (by omega)]; exact c3), if_pos c3]
            dsimp only
            rw [if_pos rfl]
            exact Ok.ret rfl
          · rw [if_neg (by rw [nI_leI (by omega) (by omega)]; exact c3), if_neg c3]
            dsimp only
            rw [if_neg (by decide)]
            exact Ok.ret rfl
    · rw [if_neg (show ¬ nI (z_bM (H l) (V l) r p 1) = nI 1 by rw [nI_eq (by omega) (by omega)]; exact hM1)]
      exact K (by omega)
  · rw [if_pos (show i < z_bM (H l) (V l) r p 0 by omega), f0 (by omega), nI_add]
    exact Ok.ret rfl
/-! around -/
def l_Caround (sv : l_T) (p q i : Int32) : Prop := z_hs (z_pr (l_R sv)) (z_pr (l_C sv)) p q ∧ -1 ≤ i
def l_Faround (sv : l_T) (i : Int32) (s : Nat × Nat × Nat × Nat) : Int32 := if i = -1 then nI (l_tot (l_bM sv s.1 s.2.2.1 s.2.2.2)) else if nI (l_tot (l_bM sv s.1 s.2.2.1 s.2.2.2)) ≤ i then -2 else nI (l_nA (l_bM sv s.1 s.2.2.1 s.2.2.2) (l_bF sv s.1 s.2.2.1 s.2.2.2) i.toInt.toNat)
def l_aaround (sv : l_T) (p q i r : Int32) : Prop := l_rel (l_Caround sv p q i) (-1) (l_sp sv p q) (l_Faround sv i) r
theorem l_aaround_one {p q i r r' : Int32} (h : l_ok sv) (h1 : l_aaround sv p q i r) (h2 : l_aaround sv p q i r') : r = r' := l_rel_one (l_sp_one h) h1 h2
/-- an index that is none of -1 and below a number -/
theorem l_idx {M : Nat} {i : Int32} (hM : M < 2 ^ 31) (h1 : -1 ≤ i) (h2 : ¬ i = -1) (h3 : ¬ nI M ≤ i) : ∃ j, j < M ∧ i = nI j ∧ i.toInt.toNat = j := by
  have h0 : 0 ≤ i.toInt := z_nn h1 h2
  obtain ⟨j, hj, rfl, hjj⟩ := z_nat h0
  rw [nI_leI hM hj] at h3
  exact ⟨j, by omega, rfl, by rw [hjj]; rfl⟩
theorem a_x_around (g : GOK (l_R sv) (l_C sv) (z_pr (l_R sv)) (z_pr (l_C sv)) rc cc br zc rw sh) (hN : 1000000 ≤ N) (f m : Nat → Int32) (a1 a2 a3 a4 a5 a6 p q i : Int32) : Ok (f_X_around N f m a1 a2 a3 a4 a5 a6 br zc rw sh p q i) (fun x => l_aaround sv p q i x.1) := by
  unfold f_X_around
  refine Ok.b1 (r_hasSheet g p q) (fun v1 h1 => ?_)
  rcases h1 with ⟨z, rfl⟩ | ⟨z, rfl⟩
  rotate_left
  · exact Ok.ite (fun _ => Ok.ret (l_relN (fun u => z u.1))) (fun c => absurd rfl c)
  refine Ok.ite (fun c => absurd c (by decide)) (fun _ => ?_)
  refine Ok.ite (fun hi => ?_) (fun hi => Ok.ret (l_relN (fun u => hi u.2)))
  have z' := z
  obtain ⟨l, k, hl, rfl, rfl, hk⟩ := z'
  have hs := g.2.sh hl
  obtain ⟨ro, pl, e, d1, d2, d3⟩ := k_put (N := N) g (by omega) hl hk a1 a2 a3 a4 a5 a6
  obtain ⟨f', m', e2, hfm⟩ := r_lookAround g hl d1 d2 f m
  have hMF := l_MF_of g.2 hl d1 d2
  have hsp : l_sp sv (nI l) (nI k) (l, k, ro, pl) := ⟨⟨hl, (show k < 20000000 by omega), d1, d2, d3⟩, rfl, rfl⟩
  have hb : l_tot (l_bM sv l ro pl) < 2 ^ 31 := by
    have h0 := (hMF.2 0 (by omega)).1
    have h1 := (hMF.2 1 (by omega)).1
    have h2 := (hMF.2 2 (by omega)).1
    have h3 := (hMF.2 3 (by omega)).1
    unfold l_tot l_bM
    omega
  rw [e, q_b6_s, e2, q_b2_s, r_allBeside hfm, q_b1_s, q_b1_s]
  refine Ok.ite (fun c1 => Ok.ret (l_relY ⟨z, hi⟩ hsp ?_)) (fun c1 => ?_)
  · unfold l_Faround; rw [if_pos c1]; rfl
  refine Ok.ite (fun c2 => Ok.ret (l_relY ⟨z, hi⟩ hsp ?_)) (fun c2 => ?_)
  · unfold l_Faround; rw [if_neg c1]; exact (if_pos c2).symm
  obtain ⟨j, hj, rfl, hjj⟩ := l_idx hb hi c1 c2
  rw [r_besideKey hMF hfm hj, q_b1_s]
  refine Ok.ret (l_relY ⟨z, hi⟩ hsp ?_)
  unfold l_Faround
  rw [if_neg c1, hjj]
  exact (if_neg c2).symm
theorem a_m_around (g : MOK (l_R sv) (l_C sv) (z_pr (l_R sv)) (z_pr (l_C sv)) cr cq dp wd za) (hN : 1000000 ≤ N) (fb mb p q i : Int32) : Ok (f_M_around N dp wd za fb mb p q i) (fun x => l_aaround sv p q i x.1) := by
  unfold f_M_around
  refine Ok.b1 (r_isKey g p q) (fun v1 h1 => ?_)
  rcases h1 with ⟨z, rfl⟩ | ⟨z, rfl⟩
  rotate_left
  · exact Ok.ite (fun _ => Ok.ret (l_relN (fun u => z u.1))) (fun c => absurd rfl c)
  refine Ok.ite (fun c => absurd c (by decide)) (fun _ => ?_)
  refine Ok.ite (fun hi => ?_) (fun hi => Ok.ret (l_relN (fun u => hi u.2)))
  have z' := z
  obtain ⟨l, k, hl, rfl, rfl, hk⟩ := z'
  have hs := g.2.2.sh hl
  obtain ⟨ro, pl, d1, d2, d3, -, -⟩ := t_spot (N := N) g (by omega) hl hk
  have hMF := l_MF_of g.2.2 hl d1 d2
  have hsp : l_sp sv (nI l) (nI k) (l, k, ro, pl) := ⟨⟨hl, (show k < 20000000 by omega), d1, d2, d3⟩, rfl, rfl⟩
  have hb : l_tot (l_bM sv l ro pl) < 2 ^ 31 := by
    have h0 := (hMF.2 0 (by omega)).1
    have h1 := (hMF.2 1 (by omega)).1
    have h2 := (hMF.2 2 (by omega)).1
    have h3 := (hMF.2 3 (by omega)).1
    unfold l_tot l_bM
    omega
  have e1 := r_allBesideM (N := N) g (by omega) hl d1 d2 fb mb
  rw [← d3] at e1
  refine Ok.b3 e1 (fun v2 v3 v4 h2 => ?_)
  dsimp only at h2
  subst h2
  refine Ok.ite (fun c1 => Ok.ret (l_relY ⟨z, hi⟩ hsp ?_)) (fun c1 => ?_)
  · unfold l_Faround; rw [if_pos c1]; rfl
  refine Ok.ite (fun c2 => Ok.ret (l_relY ⟨z, hi⟩ hsp ?_)) (fun c2 => ?_)
  · unfold l_Faround; rw [if_neg c1]; exact (if_pos c2).symm
  obtain ⟨j, hj, rfl, hjj⟩ := l_idx hb hi c1 c2
  have e2 := r_besideAllM (N := N) g (by omega) hl d1 d2 v3 v4 hj
  rw [← d3] at e2
  refine Ok.b3 e2 (fun v5 v6 v7 h5 => Ok.ret (l_relY ⟨z, hi⟩ hsp ?_))
  dsimp only at h5
  subst h5
  unfold l_Faround
  rw [if_neg c1, hjj]
  exact (if_neg c2).symm
end S6A
end
section
/-! answers: child -/
section S7A
variable {R C H V : Nat → Nat} {rc cc br zc rw sh cr cq dp wd za : Nat → Int32} {sv : l_T} {N l t : Nat}
theorem z_capR {H0 V0 r p k : Nat} (hH : 1 ≤ H0) (hr : r ≤ 44 * H0 + 1) (hp : p < z_rl H0 V0 r) (hk : k = z_rs H0 V0 r + p) : (k = 0 ↔ r = 0) ∧ (z_capk H0 V0 k ↔ (r = 0 ∨ r = 44 * H0 + 1)) := by
  have e0 : z_rs H0 V0 0 = 0 := by unfold z_rs; rw [if_pos rfl]
  have l0 : z_rl H0 V0 0 = 1 := by unfold z_rl; rw [if_pos (Or.inl rfl)]
  have eL := z_rs_last (V := V0) hH
  have lL := z_rl_last (H := H0) (V := V0)
  have h0 : k = 0 → r = 0 := fun z => z_row_one (V := V0) hH hr (Nat.zero_le _) (k := k) (by omega) (by omega) (by omega) (by omega)
  have hL : k = 2130 * (H0 * V0) + 1 → r = 44 * H0 + 1 := fun z => z_row_one (V := V0) hH hr (Nat.le_refl _) (k := k) (by omega) (by omega) (by omega) (by omega)
  refine ⟨⟨h0, fun z => ?_⟩, ⟨fun z => ?_, fun z => ?_⟩⟩
  · subst z; omega
  · rcases z with z | z
    · exact Or.inl (h0 z)
    · exact Or.inr (hL z)
  · rcases z with rfl | rfl
    · exact Or.inl (by omega)
    · exact Or.inr (by omega)
/-- how many sheets of level t lie in one of level l; the j-th -/
def z_chM (H V : Nat → Nat) (l t ro : Nat) : Nat := if ro = 0 ∨ ro = 44 * H l + 1 then 1 else H t / H l * (V t / V l)
def z_chK (H V : Nat → Nat) (l t ro pl j : Nat) : Nat := if ro = 0 then 0 else if ro = 44 * H l + 1 then 2130 * (H t * V t) + 1 else z_rs (H t) (V t) (1 + (ro - 1) * (H t / H l) + j / (V t / V l)) + (pl * (V t / V l) + j % (V t / V l))
theorem z_child (g : CUT R C H V) (hlt : l ≤ t) (ht : t < 5) {ro x : Nat} (h1 : 1 ≤ ro) (h2 : ro ≤ 44 * H l) (hx : x < H t / H l) : 1 + (ro - 1) * (H t / H l) + x ≤ 44 * H t ∧ z_rl (H t) (V t) (1 + (ro - 1) * (H t / H l) + x) = z_rl (H l) (V l) ro * (V t / V l) := by
  have hl : l < 5 := by omega
  have hp := g.pos l hl
  have hpt := g.pos t ht
  have hd := g.dvd t ht l hlt
  have q1 := z_quot hd.1 hp.1 hpt.1
  have q2 := z_quot hd.2 hp.2 hpt.2
  have a1 : (ro - 1) * (H t / H l) + (H t / H l) = ro * (H t / H l) := by
    rw [← Nat.succ_mul]; congr 1; omega
  have a2 : ro * (H t / H l) ≤ 44 * H t := by
    have : ro * (H t / H l) ≤ 44 * H l * (H t / H l) := Nat.mul_le_mul_right _ h2
    rw [Nat.mul_assoc, q1.2.2] at this
    exact this
  have hle : 1 + (ro - 1) * (H t / H l) + x ≤ 44 * H t := by omega
  refine ⟨hle, ?_⟩
  unfold z_rl
  rw [if_neg (by omega), if_neg (by omega)]
  have e : (1 + (ro - 1) * (H t / H l) + x - 1) / H t = (ro - 1) / H l := by
    have e0 : 1 + (ro - 1) * (H t / H l) + x - 1 = (H t / H l) * (ro - 1) + x := by rw [Nat.mul_comm]; omega
    have q := q1.2.2
    have qp := q1.1
    rw [e0]
    clear e0 hle a1 a2 q1
    generalize H t / H l = D at *
    rw [← q, Nat.mul_comm (H l) D, ← Nat.div_div_eq_div_mul, Nat.mul_add_div (show D > 0 by omega), Nat.div_eq_of_lt hx, Nat.add_zero]
  rw [e, Nat.mul_assoc, q2.2.2]
theorem r_rowsIn (g : GOK R C H V rc cc br zc rw sh) (hlt : l ≤ t) (ht : t < 5) : f_Grid_rowsIn br (nI l) (nI t) = some (nI (H t / H l)) ∧ f_Grid_columnsIn zc (nI l) (nI t) = some (nI (V t / V l)) := by
  have hl : l < 5 := by omega
  have hv := g.2.hv hl
  have hvt := g.2.hv ht
  have hp := g.2.pos l hl
  unfold f_Grid_rowsIn f_Grid_columnsIn
  rw [z_ai ht (by omega), (g.at ht).2.2.1, z_ai hl (by omega), (g.at hl).2.2.1, z_dv (by omega) (by omega) (by omega), z_ai ht (by omega), (g.at ht).2.2.2.1, z_ai hl (by omega), (g.at hl).2.2.2.1, z_dv (by omega) (by omega) (by omega)]
  exact ⟨rfl, rfl⟩
theorem r_piecesAt (g : GOK R C H V rc cc br zc rw sh) (hlt : l ≤ t) (ht : t < 5) (ro : Nat) : f_Spot_piecesAt (nI l) (z_cap (H l) ro) br zc (nI t) = some (nI (z_chM H V l t ro)) := by
  obtain ⟨e1, e2⟩ := r_rowsIn g hlt ht
  unfold f_Spot_piecesAt z_cap z_chM
  by_cases hc : ro = 0 ∨ ro = 44 * H l + 1
  · rw [if_pos hc, if_pos hc, if_neg (by decide)]; rfl
  · rw [if_neg hc, if_neg hc, if_pos rfl, e1, q_b1_s, e2, q_b1_s, pk_mul]
theorem r_pieceAt (g : GOK R C H V rc cc br zc rw sh) (hlt : l ≤ t) (ht : t < 5) {ro pl j : Nat} (hr : ro ≤ 44 * H l + 1) (hp : pl < z_rl (H l) (V l) ro) (hj : j < z_chM H V l t ro) : f_Spot_pieceAt (nI l) (nI ro) (nI pl) (z_cap (H l) ro) br zc rw sh (nI t) (nI j) = some (nI (z_chK H V l t ro pl j)) := by
  obtain ⟨e1, e2⟩ := r_rowsIn g hlt ht
  have hl : l < 5 := by omega
  have hv := g.2.hv hl
  have hvt := g.2.hv ht
  have hps := g.2.pos l hl
  have hpt := g.2.pos t ht
  have hd := g.2.dvd t ht l hlt
  have q1 := z_quot hd.1 hps.1 hpt.1
  have q2 := z_quot hd.2 hps.2 hpt.2
  have hst := g.2.sh ht
  unfold f_Spot_pieceAt z_cap z_chK
  unfold z_chM at hj
  by_cases hc : ro = 0 ∨ ro = 44 * H l + 1
  · rw [if_pos hc, if_neg (by decide)]
    by_cases h0 : ro = 0
    · rw [if_pos h0, if_pos (show nI ro = 0 by rw [h0]; rfl)]; rfl
    · rw [if_neg h0, if_pos (show ro = 44 * H l + 1 by omega), if_neg (show ¬ nI ro = 0 by rw [z_eq0 (by omega)]; exact h0), z_ai ht (by omega), (g.at ht).2.2.2.2.2, z_sub1 (by omega)]; rfl
  · have mm : H t / H l * (V t / V l) ≤ 9390 * 9390 := Nat.mul_le_mul (by omega) (by omega)
    rw [if_neg hc] at hj
    have hx : j / (V t / V l) < H t / H l := Nat.div_lt_of_lt_mul (by rw [Nat.mul_comm]; exact hj)
    have hm : j % (V t / V l) < V t / V l := Nat.mod_lt _ (by omega)
    obtain ⟨c1, c2⟩ := z_child g.2 hlt ht (ro := ro) (by omega) (by omega) hx
    rw [if_neg hc, if_pos rfl, if_neg (show ¬ ro = 0 by omega), if_neg (show ¬ ro = 44 * H l + 1 by omega), e2, q_b1_s, e1, q_b1_s, z_dv (by omega) (by omega) (by omega), z_sub1 (by omega), pk_mul, nI_add, nI_1, z_nm, show (ro - 1) * (H t / H l) + j / (V t / V l) + 1 = 1 + (ro - 1) * (H t / H l) + j / (V t / V l) by omega, k_rowStart g ht (by omega), q_b1_s, z_rm (by omega) (by omega) (by omega), pk_mul, nI_add, nI_add, Nat.add_assoc]
/-- the reference's pieces -/
theorem r_m_child (g : MOK R C H V cr cq dp wd za) (hN : 50 ≤ N) (hlt : l ≤ t) (ht : t < 5) {k ro pl : Nat} (hk : k < 2130 * (H l * V l) + 2) (hr : ro ≤ 44 * H l + 1) (hp : pl < z_rl (H l) (V l) ro) (hk2 : k = z_rs (H l) (V l) ro + pl) {i : Int32} (hi : -1 ≤ i) : ∀ v3 : Int32, f_M_isCap dp wd za (nI l) (nI k) = some v3 → Ok (q_j1 (fun (v4 : Int32) => (q_j1 (fun (v5 : Int32) => (if i = (-1) then (some (v4 * v5)) else (if i < (v4 * v5) then (if v3 = 0 then (q_b1 (f_M_rowOf N dp wd za (nI l) (nI k)) (fun (v6 : Int32) => q_dv i v5 (fun (v7 : Int32) => q_b1 (f_M_placeOf N dp wd za (nI l) (nI k)) (fun (v8 : Int32) => q_rm i v5 (fun (v9 : Int32) => q_b1 (f_M_keyOf dp wd za (nI t) ((1 + ((v6 - 1) * v4)) + v7) ((v8 * v5) + v9)) (fun (v10 : Int32) => some v10)))))) else (if nI k = 0 then (some 0) else (q_b1 (f_M_sheets dp wd za (nI t)) (fun (v11 : Int32) => some (v11 - 1))))) else (some (-2))) : Option (Int32))) (fun (k84 : Int32 → Option (Int32)) => if v3 = 0 then (q_ai wd 5 (nI t) (fun (v12 : Int32) => q_ai wd 5 (nI l) (fun (v13 : Int32) => q_dv v12 v13 (fun (v14 : Int32) => k84 v14)))) else (k84 1)) : Option (Int32))) (fun (k60 : Int32 → Option (Int32)) => if v3 = 0 then (q_ai dp 5 (nI t) (fun (v15 : Int32) => q_ai dp 5 (nI l) (fun (v16 : Int32) => q_dv v15 v16 (fun (v17 : Int32) => k60 v17)))) else (k60 1))) (fun x => x = if i = -1 then nI (z_chM H V l t ro) else if nI (z_chM H V l t ro) ≤ i then -2 else nI (z_chK H V l t ro pl i.toInt.toNat)) := by
  intro v3 h3
  have hl : l < 5 := by omega
  have hv := g.2.2.hv hl
  have hvt := g.2.2.hv ht
  have hps := g.2.2.pos l hl
  have hpt := g.2.2.pos t ht
  have hd := g.2.2.dvd t ht l hlt
  have q1 := z_quot hd.1 hps.1 hpt.1
  have q2 := z_quot hd.2 hps.2 hpt.2
  have hst := g.2.2.sh ht
  have hsl := g.2.2.sh hl
  obtain ⟨cz, cc1⟩ := z_capR hps.1 hr hp hk2
  obtain ⟨gl1, gl2, gl3, gl4⟩ := g.1 l hl
  obtain ⟨gt1, gt2, gt3, gt4⟩ := g.1 t ht
  have notle : ∀ {M : Nat}, M < 2 ^ 31 → (i < nI M ↔ ¬ nI M ≤ i) := by
    intro M hM
    rw [z_lt, z_le, nI_toInt hM]; omega
  rcases t_isCap g hl hk with ⟨c1, e1⟩ | ⟨c1, e1⟩
  · rw [h3] at e1
    cases e1
    have hc := cc1.mp c1
    have eM : z_chM H V l t ro = 1 := by unfold z_chM; rw [if_pos hc]
    rw [eM]
    refine Ok.j1 ?_
    rw [if_neg (by decide)]
    refine Ok.j1 ?_
    rw [if_neg (by decide)]
    dsimp only
    rw [show (1 : Int32) * 1 = nI 1 from rfl]
    by_cases d1 : i = -1
    · rw [if_pos d1, if_pos d1]; exact Ok.ret rfl
    rw [if_neg d1, if_neg d1]
    by_cases d2 : nI 1 ≤ i
    · rw [if_pos d2, if_neg (fun z => (notle (by omega)).mp z d2)]; exact Ok.ret rfl
    rw [if_neg d2, if_pos ((notle (by omega)).mpr d2), if_neg (by decide)]
    unfold z_chK
    by_cases h0 : ro = 0
    · rw [if_pos h0, if_pos (show nI k = 0 by rw [z_eq0 (by omega)]; exact cz.mpr h0)]; exact Ok.ret rfl
    · rw [if_neg h0, if_pos (show ro = 44 * H l + 1 by omega), if_neg (show ¬ nI k = 0 by rw [z_eq0 (by omega)]; exact fun z => h0 (cz.mp z)), m_sheets g ht, q_b1_s, z_sub1 (by omega)]
      exact Ok.ret rfl
  · rw [h3] at e1
    cases e1
    have hc : ¬ (ro = 0 ∨ ro = 44 * H l + 1) := fun z => c1 (cc1.mpr z)
    have eM : z_chM H V l t ro = H t / H l * (V t / V l) := by unfold z_chM; rw [if_neg hc]
    have mm : H t / H l * (V t / V l) ≤ 9390 * 9390 := Nat.mul_le_mul (by omega) (by omega)
    rw [eM]
    refine Ok.j1 ?_
    rw [if_pos rfl, z_ai ht (by omega), gt3, z_ai hl (by omega), gl3, z_dv (by omega) (by omega) (by omega)]
    refine Ok.j1 ?_
    rw [if_pos rfl, z_ai ht (by omega), gt4, z_ai hl (by omega), gl4, z_dv (by omega) (by omega) (by omega)]
    dsimp only
    rw [pk_mul]
    by_cases d1 : i = -1
    · rw [if_pos d1, if_pos d1]; exact Ok.ret rfl
    rw [if_neg d1, if_neg d1]
    by_cases d2 : nI (H t / H l * (V t / V l)) ≤ i
    · rw [if_pos d2, if_neg (fun z => (notle (by omega)).mp z d2)]; exact Ok.ret rfl
    rw [if_neg d2, if_pos ((notle (by omega)).mpr d2), if_pos rfl]
    obtain ⟨j, hj, rfl, hjj⟩ := l_idx (M := H t / H l * (V t / V l)) (by omega) hi d1 d2
    have hx : j / (V t / V l) < H t / H l := Nat.div_lt_of_lt_mul (by rw [Nat.mul_comm]; exact hj)
    have hm : j % (V t / V l) < V t / V l := Nat.mod_lt _ (by omega)
    obtain ⟨c3, c4⟩ := z_child g.2.2 hlt ht (ro := ro) (by omega) (by omega) hx
    have c5 : pl * (V t / V l) + j % (V t / V l) < z_rl (H t) (V t) (1 + (ro - 1) * (H t / H l) + j / (V t / V l)) := by
      rw [c4]
      have : (pl + 1) * (V t / V l) ≤ z_rl (H l) (V l) ro * (V t / V l) := Nat.mul_le_mul_right _ hp
      rw [Nat.succ_mul] at this
      omega
    obtain ⟨er, ep⟩ := m_placeOf (N := N) g hN hl hr (k := k) (by omega) (by omega)
    rw [er, q_b1_s, z_dv (by omega) (by omega) (by omega), ep, q_b1_s, z_rm (by omega) (by omega) (by omega), show k - z_rs (H l) (V l) ro = pl by omega, z_sub1 (by omega), pk_mul, z_i 1, nI_add, nI_add, pk_mul, nI_add, m_keyOf g ht (by omega) c5, q_b1_s]
    refine Ok.ret ?_
    unfold z_chK
    rw [if_neg (show ¬ ro = 0 by omega), if_neg (show ¬ ro = 44 * H l + 1 by omega), hjj]
def l_Cchild (sv : l_T) (p q w i : Int32) : Prop := z_hs (z_pr (l_R sv)) (z_pr (l_C sv)) p q ∧ (p.toInt ≤ w.toInt ∧ w.toInt ≤ 4) ∧ -1 ≤ i
def l_Schild (sv : l_T) (p q w : Int32) (s : (Nat × Nat × Nat × Nat) × Nat) : Prop := l_sp sv p q s.1 ∧ s.2 < 5 ∧ w = nI s.2
def l_Fchild (sv : l_T) (i : Int32) (s : (Nat × Nat × Nat × Nat) × Nat) : Int32 := if i = -1 then nI (z_chM (z_pr (l_R sv)) (z_pr (l_C sv)) s.1.1 s.2 s.1.2.2.1) else if nI (z_chM (z_pr (l_R sv)) (z_pr (l_C sv)) s.1.1 s.2 s.1.2.2.1) ≤ i then -2 else nI (z_chK (z_pr (l_R sv)) (z_pr (l_C sv)) s.1.1 s.2 s.1.2.2.1 s.1.2.2.2 i.toInt.toNat)
def l_achild (sv : l_T) (p q w i r : Int32) : Prop := l_rel (l_Cchild sv p q w i) (-1) (l_Schild sv p q w) (l_Fchild sv i) r
theorem l_achild_one {p q w i r r' : Int32} (h : l_ok sv) (h1 : l_achild sv p q w i r) (h2 : l_achild sv p q w i r') : r = r' := by
  refine l_rel_one ?_ h1 h2
  intro ⟨s, t⟩ ⟨s', t'⟩ ⟨a, b, c⟩ ⟨a', b', c'⟩
  have e := l_sp_one h s s' a a'
  have e2 : t = t' := by dsimp only at b b' c c'; rw [c, nI_eq (by omega) (by omega)] at c'; exact c'
  rw [e, e2]
theorem a_x_child (g : GOK (l_R sv) (l_C sv) (z_pr (l_R sv)) (z_pr (l_C sv)) rc cc br zc rw sh) (hN : 1000000 ≤ N) (a1 a2 a3 a4 a5 a6 p q w i : Int32) : Ok (f_X_child N a1 a2 a3 a4 a5 a6 br zc rw sh p q w i) (fun x => l_achild sv p q w i x.1) := by
  unfold f_X_child
  refine Ok.b1 (r_hasSheet g p q) (fun v1 h1 => ?_)
  rcases h1 with ⟨z, rfl⟩ | ⟨z, rfl⟩
  rotate_left
  · exact Ok.ite (fun _ => Ok.ret (l_relN (fun u => z u.1))) (fun c => absurd rfl c)
  refine Ok.ite (fun c => absurd c (by decide)) (fun _ => Ok.b1 (s_isFrom w p 4) (fun v2 h2 => ?_))
  rw [show (4 : Int32).toInt = 4 from rfl] at h2
  refine Ok.ite (fun c => Ok.ret (l_relN (fun u => z_if0 h2 c u.2.1))) (fun c => ?_)
  have hw := z_if1 h2 c
  refine Ok.ite (fun hi => ?_) (fun hi => Ok.ret (l_relN (fun u => hi u.2.2)))
  have z' := z
  obtain ⟨l, k, hl, rfl, rfl, hk⟩ := z'
  have hw' := hw
  rw [nI_toInt (by omega)] at hw'
  obtain ⟨t, -, rfl, htt⟩ := z_nat (r := w) (by omega)
  have hlt : l ≤ t := by omega
  have ht : t < 5 := by omega
  have hs := g.2.sh hl
  have hv := g.2.hv hl
  have hvt := g.2.hv ht
  obtain ⟨ro, pl, e, d1, d2, d3⟩ := k_put (N := N) g (by omega) hl hk a1 a2 a3 a4 a5 a6
  have hsp : l_Schild sv (nI l) (nI k) (nI t) ((l, k, ro, pl), t) := ⟨⟨⟨hl, (show k < 20000000 by omega), d1, d2, d3⟩, rfl, rfl⟩, ht, rfl⟩
  have hb : z_chM (z_pr (l_R sv)) (z_pr (l_C sv)) l t ro < 2 ^ 31 := by
    have mm : z_pr (l_R sv) t / z_pr (l_R sv) l * (z_pr (l_C sv) t / z_pr (l_C sv) l) ≤ 9390 * 9390 := Nat.mul_le_mul (Nat.le_trans (Nat.div_le_self _ _) hvt.1) (Nat.le_trans (Nat.div_le_self _ _) hvt.2.1)
    unfold z_chM
    split <;> omega
  rw [e, q_b6_s, r_piecesAt g hlt ht, q_b1_s]
  refine Ok.ite (fun c1 => Ok.ret (l_relY ⟨z, hw, hi⟩ hsp ?_)) (fun c1 => ?_)
  · unfold l_Fchild; rw [if_pos c1]
  refine Ok.ite (fun c2 => Ok.ret (l_relY ⟨z, hw, hi⟩ hsp ?_)) (fun c2 => ?_)
  · unfold l_Fchild; rw [if_neg c1]; exact (if_pos c2).symm
  obtain ⟨j, hj, rfl, hjj⟩ := l_idx hb hi c1 c2
  rw [r_pieceAt g hlt ht d1 d2 hj, q_b1_s]
  refine Ok.ret (l_relY ⟨z, hw, hi⟩ hsp ?_)
  unfold l_Fchild
  rw [if_neg c1, hjj]
  exact (if_neg c2).symm
theorem a_m_child (g : MOK (l_R sv) (l_C sv) (z_pr (l_R sv)) (z_pr (l_C sv)) cr cq dp wd za) (hN : 1000000 ≤ N) (p q w i : Int32) : Ok (f_M_child N dp wd za p q w i) (fun x => l_achild sv p q w i x) := by
  unfold f_M_child
  refine Ok.b1 (r_isKey g p q) (fun v1 h1 => ?_)
  rcases h1 with ⟨z, rfl⟩ | ⟨z, rfl⟩
  rotate_left
  · exact Ok.ite (fun _ => Ok.ret (l_relN (fun u => z u.1))) (fun c => absurd rfl c)
  refine Ok.ite (fun c => absurd c (by decide)) (fun _ => Ok.b1 (t_in _ _ _) (fun v2 h2 => ?_))
  rw [z_toL, z_toL, show (4 : Int64).toInt = 4 from rfl] at h2
  refine Ok.ite (fun c => Ok.ret (l_relN (fun u => z_if0 h2 c u.2.1))) (fun c => ?_)
  have hw := z_if1 h2 c
  refine Ok.ite (fun hi => ?_) (fun hi => Ok.ret (l_relN (fun u => hi u.2.2)))
  have z' := z
  obtain ⟨l, k, hl, rfl, rfl, hk⟩ := z'
  have hw' := hw
  rw [nI_toInt (by omega)] at hw'
  obtain ⟨t, -, rfl, htt⟩ := z_nat (r := w) (by omega)
  have hlt : l ≤ t := by omega
  have ht : t < 5 := by omega
  have hs := g.2.2.sh hl
  obtain ⟨ro, pl, d1, d2, d3, -, -⟩ := t_spot (N := N) g (by omega) hl hk
  have hsp : l_Schild sv (nI l) (nI k) (nI t) ((l, k, ro, pl), t) := ⟨⟨⟨hl, (show k < 20000000 by omega), d1, d2, d3⟩, rfl, rfl⟩, ht, rfl⟩
  obtain ⟨v3, h3⟩ : ∃ v3, f_M_isCap dp wd za (nI l) (nI k) = some v3 := by
    rcases t_isCap g hl hk with ⟨-, e⟩ | ⟨-, e⟩ <;> exact ⟨_, e⟩
  rw [h3, q_b1_s]
  exact Ok.weak (r_m_child (N := N) g (by omega) hlt ht hk d1 d2 d3 hi v3 h3) (fun r hr => l_relY ⟨z, hw, hi⟩ hsp hr)
end S7A
end
section
/-! answers: middle, edge -/
section S8A
variable {R C H V : Nat → Nat} {rc cc br zc rw sh cr cq dp wd za : Nat → Int32} {sv : l_T} {N l t : Nat}
/-- the edges' tops (0 south, 1 north, 2 west, 3 east), their bottoms -/
def z_eT (H : Nat → Nat) (l ro pl e : Nat) : Int := if e = 0 then (if ro = 0 then 316800 else if ro = 44 * H l + 1 then -324000 else 14400 * (22 * (H l : Int) - ro)) else if e = 1 then (if ro = 0 then 324000 else if ro = 44 * H l + 1 then -316800 else 14400 * (22 * (H l : Int) - ro) + 14400) else if e = 2 then 1296000 * (pl : Int) else 1296000 * (pl : Int) + 1296000
def z_eB (H V : Nat → Nat) (l ro e : Nat) : Nat := if e < 2 then (if ro = 0 ∨ ro = 44 * H l + 1 then 1 else H l) else z_rl (H l) (V l) ro
theorem z_eT0 {H : Nat → Nat} {ro pl : Nat} : z_eT H l ro pl 0 = if ro = 0 then 316800 else if ro = 44 * H l + 1 then -324000 else 14400 * (22 * (H l : Int) - ro) := if_pos rfl
theorem z_eT1 {H : Nat → Nat} {ro pl : Nat} : z_eT H l ro pl 1 = if ro = 0 then 324000 else if ro = 44 * H l + 1 then -316800 else 14400 * (22 * (H l : Int) - ro) + 14400 := (if_neg (show ¬ (1 : Nat) = 0 by omega)).trans (if_pos rfl)
theorem z_eT2 {H : Nat → Nat} {ro pl : Nat} : z_eT H l ro pl 2 = 1296000 * (pl : Int) := (if_neg (show ¬ (2 : Nat) = 0 by omega)).trans ((if_neg (show ¬ (2 : Nat) = 1 by omega)).trans (if_pos rfl))
theorem z_eT3 {H : Nat → Nat} {ro pl : Nat} : z_eT H l ro pl 3 = 1296000 * (pl : Int) + 1296000 := (if_neg (show ¬ (3 : Nat) = 0 by omega)).trans ((if_neg (show ¬ (3 : Nat) = 1 by omega)).trans (if_neg (show ¬ (3 : Nat) = 2 by omega)))
theorem z_eBlo {H V : Nat → Nat} {ro e : Nat} (h : e < 2) : z_eB H V l ro e = if ro = 0 ∨ ro = 44 * H l + 1 then 1 else H l := if_pos h
theorem z_eBhi {H V : Nat → Nat} {ro e : Nat} (h : ¬ e < 2) : z_eB H V l ro e = z_rl (H l) (V l) ro := if_neg h
theorem z_capY {H0 ro : Nat} (h : ro = 0 ∨ ro = 44 * H0 + 1) : z_cap H0 ro = 1 := if_pos h
theorem z_capN {H0 ro : Nat} (h : ¬ (ro = 0 ∨ ro = 44 * H0 + 1)) : z_cap H0 ro = 0 := if_neg h
theorem z_updLS {f : Nat → Int64} {k : Nat} {x : Int64} : vp_updL f k x k = x := if_pos rfl
theorem z_updLN {f : Nat → Int64} {k j : Nat} {x : Int64} (h : j ≠ k) : vp_updL f k x j = f j := if_neg h
theorem z_toL64 {n : Nat} (h : n < 2 ^ 31) : (nI n).toInt64 = lN n := by
  apply Int64.toInt_inj.mp
  rw [z_i64 h, lN_toInt h]
theorem z_ofI64 {x : Int64} {z : Int} (h : x.toInt = z) : x = Int64.ofInt z := by
  rw [← h, Int64.ofInt_toInt]
theorem z_ofT {z : Int} (h1 : -9223372036854775808 ≤ z) (h2 : z < 9223372036854775808) : (Int64.ofInt z).toInt = z := Int64.toInt_ofInt_of_le (by omega) (by omega)
theorem z_eTb {H0 : Nat → Nat} {ro pl e : Nat} (hH : H0 l ≤ 9390) (hr : ro ≤ 44 * H0 l + 1) (hp : pl ≤ 563400) : -1000000000000 ≤ z_eT H0 l ro pl e ∧ z_eT H0 l ro pl e ≤ 1000000000000 := by
  unfold z_eT
  split
  · split
    · omega
    · split <;> omega
  · split
    · split
      · omega
      · split <;> omega
    · split <;> omega
theorem z_eBb (g : CUT R C H V) (hl : l < 5) {ro e : Nat} (hr : ro ≤ 44 * H l + 1) : 1 ≤ z_eB H V l ro e ∧ z_eB H V l ro e ≤ 563400 := by
  have hv := g.hv hl
  have hps := g.pos l hl
  have la := z_rl_pos (V := V l) hps.1 hps.2 hr
  unfold z_eB
  split
  · split <;> omega
  · omega
theorem r_edgeTop (g : GOK R C H V rc cc br zc rw sh) (hl : l < 5) {ro pl e : Nat} (hr : ro ≤ 44 * H l + 1) (hp : pl < z_rl (H l) (V l) ro) (he : e < 4) : f_Spot_edgeTop (nI l) (nI ro) (nI pl) (z_cap (H l) ro) br (nI e) = some (Int64.ofInt (z_eT H l ro pl e)) := by
  have hv := g.2.hv hl
  have hps := g.2.pos l hl
  have la := z_rl_pos (V := V l) hps.1 hps.2 hr
  have t1 : (14400 : Int64).toInt = 14400 := rfl
  have t2 : (1296000 : Int64).toInt = 1296000 := rfl
  have t3 : (22 : Int64).toInt = 22 := rfl
  have t4 : (1 : Int64).toInt = 1 := rfl
  unfold f_Spot_edgeTop
  rcases (show e = 0 ∨ e = 1 ∨ e = 2 ∨ e = 3 by omega) with rfl | rfl | rfl | rfl
  · rw [z_eT0, if_pos (show nI 0 < 2 by decide)]
    by_cases hc : ro = 0 ∨ ro = 44 * H l + 1
    · rw [z_capY hc, if_neg (show ¬ (1 : Int32) = 0 by decide), z_j1]
      by_cases h0 : ro = 0
      · rw [if_pos h0, if_pos (show nI ro = 0 by rw [h0]; rfl)]
        dsimp only
        rw [if_pos (show nI 0 = 0 from rfl)]; rfl
      · rw [if_neg h0, if_pos (show ro = 44 * H l + 1 by omega), if_neg (show ¬ nI ro = 0 by rw [z_eq0 (by omega)]; exact h0)]
        dsimp only
        rw [if_pos (show nI 0 = 0 from rfl)]; rfl
    · have b1 : ((22 : Int64) * lN (H l)).toInt = 22 * (H l : Int) := by
        rw [fb_mulL (by rw [t3, lN_toInt (by omega)]; omega) (by rw [t3, lN_toInt (by omega)]; omega), t3, lN_toInt (by omega)]
      have b2 : ((22 : Int64) * lN (H l) - lN ro).toInt = 22 * (H l : Int) - ro := by
        rw [fb_subL (by rw [b1, lN_toInt (by omega)]; omega) (by rw [b1, lN_toInt (by omega)]; omega), b1, lN_toInt (by omega)]
      rw [z_capN hc, if_pos (show (0 : Int32) = 0 from rfl), z_ai hl (by omega), (g.at hl).2.2.1, z_nm, z_toL64 (by omega), z_toL64 (by omega), if_pos (show nI 0 = 0 from rfl), if_neg (show ¬ ro = 0 by omega), if_neg (show ¬ ro = 44 * H l + 1 by omega)]
      refine z_some (z_ofI64 ?_)
      rw [fb_mulL (by rw [t1, b2]; omega) (by rw [t1, b2]; omega), t1, b2]
  · rw [z_eT1, if_pos (show nI 1 < 2 by decide)]
    by_cases hc : ro = 0 ∨ ro = 44 * H l + 1
    · rw [z_capY hc, if_neg (show ¬ (1 : Int32) = 0 by decide), z_j1]
      by_cases h0 : ro = 0
      · rw [if_pos h0, if_pos (show nI ro = 0 by rw [h0]; rfl)]
        dsimp only
        rw [if_neg (show ¬ nI 1 = 0 by decide)]; rfl
      · rw [if_neg h0, if_pos (show ro = 44 * H l + 1 by omega), if_neg (show ¬ nI ro = 0 by rw [z_eq0 (by omega)]; exact h0)]
        dsimp only
        rw [if_neg (show ¬ nI 1 = 0 by decide)]; rfl
    · have b1 : ((22 : Int64) * lN (H l)).toInt = 22 * (H l : Int) := by
        rw [fb_mulL (by rw [t3, lN_toInt (by omega)]; omega) (by rw [t3, lN_toInt (by omega)]; omega), t3, lN_toInt (by omega)]
      have b2 : ((22 : Int64) * lN (H l) - lN ro).toInt = 22 * (H l : Int) - ro := by
        rw [fb_subL (by rw [b1, lN_toInt (by omega)]; omega) (by rw [b1, lN_toInt (by omega)]; omega), b1, lN_toInt (by omega)]
      have b3 : ((22 : Int64) * lN (H l) - lN ro + 1).toInt = 22 * (H l : Int) - ro + 1 := by
        rw [fb_addL (by rw [b2, t4]; omega) (by rw [b2, t4]; omega), b2, t4]
      rw [z_capN hc, if_pos (show (0 : Int32) = 0 from rfl), z_ai hl (by omega), (g.at hl).2.2.1, z_nm, z_toL64 (by omega), z_toL64 (by omega), if_neg (show ¬ nI 1 = 0 by decide), if_neg (show ¬ ro = 0 by omega), if_neg (show ¬ ro = 44 * H l + 1 by omega)]
      refine z_some (z_ofI64 ?_)
      rw [fb_mulL (by rw [t1, b3]; omega) (by rw [t1, b3]; omega), t1, b3]
      omega
  · rw [z_eT2, if_neg (show ¬ nI 2 < 2 by decide), if_pos (show nI 2 = 2 from rfl), z_toL64 (by omega)]
    refine z_some (z_ofI64 ?_)
    rw [fb_mulL (by rw [t2, lN_toInt (by omega)]; omega) (by rw [t2, lN_toInt (by omega)]; omega), t2, lN_toInt (by omega)]
  · rw [z_eT3, if_neg (show ¬ nI 3 < 2 by decide), if_neg (show ¬ nI 3 = 2 by decide), nI_1, z_toL64 (by omega)]
    refine z_some (z_ofI64 ?_)
    rw [fb_mulL (by rw [t2, lN_toInt (by omega)]; omega) (by rw [t2, lN_toInt (by omega)]; omega), t2, lN_toInt (by omega)]
    omega
theorem r_edgeBottom (g : GOK R C H V rc cc br zc rw sh) (hl : l < 5) {ro e : Nat} (hr : ro ≤ 44 * H l + 1) (he : e < 4) : f_Spot_edgeBottom (nI l) (nI (z_rl (H l) (V l) ro)) (z_cap (H l) ro) br (nI e) = some (lN (z_eB H V l ro e)) := by
  have hv := g.2.hv hl
  have hps := g.2.pos l hl
  have la := z_rl_pos (V := V l) hps.1 hps.2 hr
  unfold f_Spot_edgeBottom
  by_cases c : e < 2
  · rw [z_eBlo c, z_i 2, if_pos (show nI e < nI 2 by rw [nI_ltI (by omega) (by omega)]; exact c)]
    by_cases hc : ro = 0 ∨ ro = 44 * H l + 1
    · rw [if_pos hc, z_capY hc, if_neg (show ¬ (1 : Int32) = 0 by decide)]; rfl
    · rw [if_neg hc, z_capN hc, if_pos (show (0 : Int32) = 0 from rfl), z_ai hl (by omega), (g.at hl).2.2.1, z_toL64 (by omega)]
  · rw [z_eBhi c, z_i 2, if_neg (show ¬ nI e < nI 2 by rw [nI_ltI (by omega) (by omega)]; exact c), z_toL64 (by omega)]
/-- the reference's edges -/
theorem r_laysEdges (g : MOK R C H V cr cq dp wd za) (hN : 50 ≤ N) (hl : l < 5) {k ro pl : Nat} (hr : ro ≤ 44 * H l + 1) (hp : pl < z_rl (H l) (V l) ro) (hk2 : k = z_rs (H l) (V l) ro + pl) (bl bo : Int64) (ed : Nat → Int64) : Ok (f_M_laysEdges N dp wd za bl bo ed (nI l) (nI k)) (fun x => x.1 = lN (z_eB H V l ro 0) ∧ x.2.1 = lN (z_eB H V l ro 2) ∧ ∀ e, e < 4 → x.2.2 e = Int64.ofInt (z_eT H l ro pl e)) := by
  have hv := g.2.2.hv hl
  have hps := g.2.2.pos l hl
  have la := z_rl_pos (V := V l) hps.1 hps.2 hr
  have t1 : (14400 : Int64).toInt = 14400 := rfl
  have t2 : (1296000 : Int64).toInt = 1296000 := rfl
  have t3 : (316800 : Int64).toInt = 316800 := rfl
  obtain ⟨gl1, gl2, gl3, gl4⟩ := g.1 l hl
  obtain ⟨er, ep⟩ := m_placeOf (N := N) g hN hl hr (k := k) (by omega) (by omega)
  unfold f_M_laysEdges
  rw [er, q_b1_s, z_i 2, z_asl (by omega) (by omega), z_i 3, z_asl (by omega) (by omega)]
  by_cases h0 : ro = 0
  · have el : z_rl (H l) (V l) ro = 1 := (z_rl1 hps.1 hps.2 hr).mpr (Or.inl h0)
    rw [if_pos (show nI ro = 0 by rw [h0]; rfl), show (0 : Int32) = nI 0 from rfl, z_asl (by omega) (by omega), z_i 1, z_asl (by omega) (by omega)]
    refine Ok.ret ⟨?_, ?_, fun e he => ?_⟩
    · rw [z_eBlo (by omega), if_pos (Or.inl h0)]; rfl
    · rw [z_eBhi (by omega), el]; rfl
    · have e0 : pl = 0 := by omega
      dsimp only
      rcases (show e = 0 ∨ e = 1 ∨ e = 2 ∨ e = 3 by omega) with rfl | rfl | rfl | rfl
      · rw [z_updLN (by omega), z_updLS, z_eT0, if_pos h0]; rfl
      · rw [z_updLS, z_eT1, if_pos h0]; rfl
      · rw [z_updLN (by omega), z_updLN (by omega), z_updLN (by omega), z_updLS, z_eT2, e0]; rfl
      · rw [z_updLN (by omega), z_updLN (by omega), z_updLS, z_eT3, e0]; rfl
  rw [if_neg (show ¬ nI ro = 0 by rw [z_eq0 (by omega)]; exact h0), m_lastRow g hl, q_b1_s]
  by_cases h1 : ro = 44 * H l + 1
  · have el : z_rl (H l) (V l) ro = 1 := (z_rl1 hps.1 hps.2 hr).mpr (Or.inr h1)
    rw [if_pos (show nI ro = nI (44 * H l + 1) by rw [h1]), show (0 : Int32) = nI 0 from rfl, z_asl (by omega) (by omega), z_i 1, z_asl (by omega) (by omega)]
    refine Ok.ret ⟨?_, ?_, fun e he => ?_⟩
    · rw [z_eBlo (by omega), if_pos (Or.inr h1)]; rfl
    · rw [z_eBhi (by omega), el]; rfl
    · have e0 : pl = 0 := by omega
      dsimp only
      rcases (show e = 0 ∨ e = 1 ∨ e = 2 ∨ e = 3 by omega) with rfl | rfl | rfl | rfl
      · rw [z_updLN (by omega), z_updLS, z_eT0, if_neg h0, if_pos h1]; rfl
      · rw [z_updLS, z_eT1, if_neg h0, if_pos h1]; rfl
      · rw [z_updLN (by omega), z_updLN (by omega), z_updLN (by omega), z_updLS, z_eT2, e0]; rfl
      · rw [z_updLN (by omega), z_updLN (by omega), z_updLS, z_eT3, e0]; rfl
  rw [if_neg (show ¬ nI ro = nI (44 * H l + 1) by rw [nI_eq (by omega) (by omega)]; exact h1), z_ai hl (by omega), gl3, z_nm, m_many g hl hr, q_b1_s, z_nm, z_ai hl (by omega), gl3, z_i 1, z_asl (by omega) (by omega), z_al (by omega) (by omega), z_updLS, show (0 : Int32) = nI 0 from rfl, z_asl (by omega) (by omega), ep, q_b1_s, z_asl (by omega) (by omega), z_al (by omega) (by omega), z_updLS, z_asl (by omega) (by omega), show k - z_rs (H l) (V l) ro = pl by omega, pk_sub (show 1 ≤ ro by omega), z_toL64 (by omega), z_toL64 (by omega), z_toL64 (by omega), z_toL64 (by omega)]
  have b1 : ((316800 : Int64) * lN (H l)).toInt = 316800 * (H l : Int) := by
    rw [fb_mulL (by rw [t3, lN_toInt (by omega)]; omega) (by rw [t3, lN_toInt (by omega)]; omega), t3, lN_toInt (by omega)]
  have b2 : ((14400 : Int64) * lN (ro - 1)).toInt = 14400 * ((ro - 1 : Nat) : Int) := by
    rw [fb_mulL (by rw [t1, lN_toInt (by omega)]; omega) (by rw [t1, lN_toInt (by omega)]; omega), t1, lN_toInt (by omega)]
  have b3 : ((316800 : Int64) * lN (H l) - 14400 * lN (ro - 1)).toInt = 316800 * (H l : Int) - 14400 * ((ro - 1 : Nat) : Int) := by
    rw [fb_subL (by rw [b1, b2]; omega) (by rw [b1, b2]; omega), b1, b2]
  have b4 : ((1296000 : Int64) * lN pl).toInt = 1296000 * (pl : Int) := by
    rw [fb_mulL (by rw [t2, lN_toInt (by omega)]; omega) (by rw [t2, lN_toInt (by omega)]; omega), t2, lN_toInt (by omega)]
  refine Ok.ret ⟨?_, ?_, fun e he => ?_⟩
  · rw [z_eBlo (by omega), if_neg (show ¬ (ro = 0 ∨ ro = 44 * H l + 1) by omega)]
  · rw [z_eBhi (by omega)]
  · dsimp only
    rcases (show e = 0 ∨ e = 1 ∨ e = 2 ∨ e = 3 by omega) with rfl | rfl | rfl | rfl
    · rw [z_updLN (by omega), z_updLN (by omega), z_updLS, z_eT0, if_neg h0, if_neg h1]
      refine z_ofI64 ?_
      rw [fb_subL (by rw [b3, t1]; omega) (by rw [b3, t1]; omega), b3, t1]
      omega
    · rw [z_updLN (by omega), z_updLN (by omega), z_updLN (by omega), z_updLS, z_eT1, if_neg h0, if_neg h1]
      refine z_ofI64 ?_
      rw [b3]
      omega
    · rw [z_updLN (by omega), z_updLS, z_eT2]
      exact z_ofI64 b4
    · rw [z_updLS, z_eT3]
      refine z_ofI64 ?_
      rw [fb_addL (by rw [b4, t2]; omega) (by rw [b4, t2]; omega), b4, t2]
theorem m_down {a b : Int64} (hb : 0 < b.toInt) (h1 : -4611686018427387904 ≤ a.toInt) (h2 : a.toInt < 4611686018427387904) (h3 : b.toInt < 4611686018427387904) : f_M_down a b = some (Int64.ofInt (a.toInt / b.toInt)) := by
  have hb0 : ¬ b = 0 := by
    intro h; rw [h] at hb; exact absurd hb (by decide)
  have hb1 : b ≠ -1 := by
    intro h; rw [h] at hb; exact absurd hb (by decide)
  unfold f_M_down q_dvl
  rw [if_neg hb0]
  by_cases ha : 0 ≤ a.toInt
  · rw [if_pos (z_lcmp0.mpr ha)]
    have hd : (a / b).toInt = a.toInt.tdiv b.toInt := Int64.toInt_div_of_ne_right a b hb1
    rw [Int.tdiv_eq_ediv_of_nonneg ha] at hd
    exact z_some (z_ofI64 hd)
  · rw [if_neg (fun z => ha (z_lcmp0.mp z)), if_neg hb0]
    have t1 : (1 : Int64).toInt = 1 := rfl
    have e1 : (b - 1).toInt = b.toInt - 1 := by rw [fb_subL (by rw [t1]; omega) (by rw [t1]; omega), t1]
    have e2 : (b - 1 - a).toInt = b.toInt - 1 - a.toInt := by rw [fb_subL (by rw [e1]; omega) (by rw [e1]; omega), e1]
    have hd : ((b - 1 - a) / b).toInt = (b - 1 - a).toInt.tdiv b.toInt := Int64.toInt_div_of_ne_right _ b hb1
    rw [Int.tdiv_eq_ediv_of_nonneg (by omega), e2] at hd
    have q0 : 0 ≤ (b.toInt - 1 - a.toInt) / b.toInt := Int.ediv_nonneg (by omega) (by omega)
    have q1 := Int.mul_ediv_add_emod (b.toInt - 1 - a.toInt) b.toInt
    have q2 := Int.emod_nonneg (b.toInt - 1 - a.toInt) (show b.toInt ≠ 0 by omega)
    have q3 := Int.emod_lt_of_pos (b.toInt - 1 - a.toInt) hb
    have q4 : (b.toInt - 1 - a.toInt) / b.toInt ≤ b.toInt - 1 - a.toInt := Int.ediv_le_self _ (by omega)
    have key : a.toInt / b.toInt = -((b.toInt - 1 - a.toInt) / b.toInt) := by
      refine ((Int.ediv_emod_unique (r := b.toInt - 1 - (b.toInt - 1 - a.toInt) % b.toInt) hb).mpr ⟨?_, by omega, by omega⟩).1
      rw [Int.mul_neg]
      omega
    refine z_some (z_ofI64 ?_)
    rw [key, Int64.toInt_neg, hd, fb_bmodL (by omega) (by omega)]
/-- the middle's seconds -/
def z_mdl (H V : Nat → Nat) (l ro pl w : Nat) : Int32 := if ro = 0 ∨ ro = 44 * H l + 1 then (if w = 0 then (if ro = 0 then 324000 else -324000) else 0) else (Int64.ofInt ((z_eT H l ro pl (2 * w) + z_eT H l ro pl (2 * w + 1)) / (2 * (z_eB H V l ro (2 * w) : Int)))).toInt32
theorem z_mdlQ (g : CUT R C H V) (hl : l < 5) {ro pl e : Nat} (hr : ro ≤ 44 * H l + 1) (hp : pl < z_rl (H l) (V l) ro) : (Int64.ofInt (z_eT H l ro pl e) + Int64.ofInt (z_eT H l ro pl (e + 1))).toInt = z_eT H l ro pl e + z_eT H l ro pl (e + 1) ∧ ((2 : Int64) * lN (z_eB H V l ro e)).toInt = 2 * (z_eB H V l ro e : Int) ∧ 0 < 2 * (z_eB H V l ro e : Int) ∧ 2 * (z_eB H V l ro e : Int) ≤ 1126800 := by
  have hv := g.hv hl
  have hps := g.pos l hl
  have la := z_rl_pos (V := V l) hps.1 hps.2 hr
  have b1 := z_eTb (l := l) (H0 := H) (ro := ro) (pl := pl) (e := e) hv.1 hr (by omega)
  have b2 := z_eTb (l := l) (H0 := H) (ro := ro) (pl := pl) (e := e + 1) hv.1 hr (by omega)
  have b3 := z_eBb g hl (ro := ro) (e := e) hr
  have t2 : (2 : Int64).toInt = 2 := rfl
  refine ⟨?_, ?_, by omega, by omega⟩
  · rw [fb_addL (by rw [z_ofT (by omega) (by omega), z_ofT (by omega) (by omega)]; omega) (by rw [z_ofT (by omega) (by omega), z_ofT (by omega) (by omega)]; omega), z_ofT (by omega) (by omega), z_ofT (by omega) (by omega)]
  · rw [fb_mulL (by rw [t2, lN_toInt (by omega)]; omega) (by rw [t2, lN_toInt (by omega)]; omega), t2, lN_toInt (by omega)]
theorem z_mdlC0 {H V : Nat → Nat} {ro pl : Nat} (h : ro = 0 ∨ ro = 44 * H l + 1) : z_mdl H V l ro pl 0 = if ro = 0 then 324000 else -324000 := (if_pos h).trans (if_pos rfl)
theorem z_mdlC1 {H V : Nat → Nat} {ro pl : Nat} (h : ro = 0 ∨ ro = 44 * H l + 1) : z_mdl H V l ro pl 1 = 0 := (if_pos h).trans (if_neg (show ¬ (1 : Nat) = 0 by omega))
theorem z_mdlN {H V : Nat → Nat} {ro pl w : Nat} (h : ¬ (ro = 0 ∨ ro = 44 * H l + 1)) : z_mdl H V l ro pl w = (Int64.ofInt ((z_eT H l ro pl (2 * w) + z_eT H l ro pl (2 * w + 1)) / (2 * (z_eB H V l ro (2 * w) : Int)))).toInt32 := if_neg h
theorem r_middleLat (g : GOK R C H V rc cc br zc rw sh) (hl : l < 5) {ro pl : Nat} (hr : ro ≤ 44 * H l + 1) (hp : pl < z_rl (H l) (V l) ro) : f_Spot_middleLat (nI l) (nI ro) (nI pl) (nI (z_rl (H l) (V l) ro)) (z_cap (H l) ro) br = some (z_mdl H V l ro pl 0) := by
  have hv := g.2.hv hl
  unfold f_Spot_middleLat
  by_cases hc : ro = 0 ∨ ro = 44 * H l + 1
  · rw [z_mdlC0 hc, z_capY hc, if_neg (show ¬ (1 : Int32) = 0 by decide)]
    by_cases h0 : ro = 0
    · rw [if_pos h0, if_pos (show nI ro = 0 by rw [h0]; rfl)]
    · rw [if_neg h0, if_neg (show ¬ nI ro = 0 by rw [z_eq0 (by omega)]; exact h0)]
  · obtain ⟨q1, q2, q3, q4⟩ := z_mdlQ g.2 hl (e := 0) hr hp
    have e0 := r_edgeTop g hl hr hp (e := 0) (by omega)
    have e1 := r_edgeTop g hl hr hp (e := 1) (by omega)
    have eb := r_edgeBottom g hl hr (e := 0) (by omega)
    rw [z_capN hc] at e0 e1 eb
    rw [z_mdlN hc, z_capN hc, if_pos (show (0 : Int32) = 0 from rfl), show f_Spot_edgeTop (nI l) (nI ro) (nI pl) 0 br 0 = _ from e0, q_b1_s, show f_Spot_edgeTop (nI l) (nI ro) (nI pl) 0 br 1 = _ from e1, q_b1_s, show f_Spot_edgeBottom (nI l) (nI (z_rl (H l) (V l) ro)) 0 br 0 = _ from eb, q_b1_s, k_floorDivL (by rw [q2]; exact q3), q_b1_s, q1, q2]
theorem r_middleLon (g : GOK R C H V rc cc br zc rw sh) (hl : l < 5) {ro pl : Nat} (hr : ro ≤ 44 * H l + 1) (hp : pl < z_rl (H l) (V l) ro) : f_Spot_middleLon (nI l) (nI ro) (nI pl) (nI (z_rl (H l) (V l) ro)) (z_cap (H l) ro) br = some (z_mdl H V l ro pl 1) := by
  have hv := g.2.hv hl
  unfold f_Spot_middleLon
  by_cases hc : ro = 0 ∨ ro = 44 * H l + 1
  · rw [z_mdlC1 hc, z_capY hc, if_neg (show ¬ (1 : Int32) = 0 by decide)]
  · obtain ⟨q1, q2, q3, q4⟩ := z_mdlQ g.2 hl (e := 2) hr hp
    have e0 := r_edgeTop g hl hr hp (e := 2) (by omega)
    have e1 := r_edgeTop g hl hr hp (e := 3) (by omega)
    have eb := r_edgeBottom g hl hr (e := 2) (by omega)
    rw [z_capN hc] at e0 e1 eb
    rw [z_mdlN hc, z_capN hc, if_pos (show (0 : Int32) = 0 from rfl), show f_Spot_edgeTop (nI l) (nI ro) (nI pl) 0 br 2 = _ from e0, q_b1_s, show f_Spot_edgeTop (nI l) (nI ro) (nI pl) 0 br 3 = _ from e1, q_b1_s, show f_Spot_edgeBottom (nI l) (nI (z_rl (H l) (V l) ro)) 0 br 2 = _ from eb, q_b1_s, k_floorDivL (by rw [q2]; exact q3), q_b1_s, q1, q2]
theorem r_middleOf (g : MOK R C H V cr cq dp wd za) (hN : 50 ≤ N) (hl : l < 5) {k ro pl w : Nat} (hk : k < 2130 * (H l * V l) + 2) (hr : ro ≤ 44 * H l + 1) (hp : pl < z_rl (H l) (V l) ro) (hk2 : k = z_rs (H l) (V l) ro + pl) (hw : w < 2) (bl bo : Int64) (ed : Nat → Int64) : Ok (f_M_middleOf N dp wd za bl bo ed (nI l) (nI k) (nI w)) (fun x => x.1 = z_mdl H V l ro pl w) := by
  have hv := g.2.2.hv hl
  have hps := g.2.2.pos l hl
  have hs := g.2.2.sh hl
  obtain ⟨cz, cc1⟩ := z_capR hps.1 hr hp hk2
  unfold f_M_middleOf
  rcases t_isCap g hl hk with ⟨c1, e1⟩ | ⟨c1, e1⟩
  · have hc := cc1.mp c1
    rw [e1, q_b1_s, if_neg (show ¬ (1 : Int32) = 0 by decide)]
    rcases (show w = 0 ∨ w = 1 by omega) with rfl | rfl
    · rw [if_neg (show ¬ nI 0 = 1 by decide), z_mdlC0 hc]
      by_cases h0 : ro = 0
      · rw [if_pos h0, if_pos (show nI k = 0 by rw [z_eq0 (by omega)]; exact cz.mpr h0)]; exact Ok.ret rfl
      · rw [if_neg h0, if_neg (show ¬ nI k = 0 by rw [z_eq0 (by omega)]; exact fun z => h0 (cz.mp z))]; exact Ok.ret rfl
    · rw [if_pos (show nI 1 = 1 from rfl), z_mdlC1 hc]; exact Ok.ret rfl
  · have hc : ¬ (ro = 0 ∨ ro = 44 * H l + 1) := fun z => c1 (cc1.mpr z)
    rw [e1, q_b1_s, if_pos (show (0 : Int32) = 0 from rfl), z_mdlN hc]
    refine Ok.b3 (r_laysEdges g hN hl hr hp hk2 bl bo ed) (fun v2 v3 f4 h => ?_)
    obtain ⟨h1, h2, h3⟩ := h
    dsimp only at h1 h2 h3
    rcases (show w = 0 ∨ w = 1 by omega) with rfl | rfl
    · obtain ⟨q1, q2, q3, q4⟩ := z_mdlQ g.2.2 hl (e := 0) hr hp
      have b1 := z_eTb (l := l) (H0 := H) (ro := ro) (pl := pl) (e := 0) hv.1 hr (by have := z_rl_pos (V := V l) hps.1 hps.2 hr; omega)
      have b2 := z_eTb (l := l) (H0 := H) (ro := ro) (pl := pl) (e := 0 + 1) hv.1 hr (by have := z_rl_pos (V := V l) hps.1 hps.2 hr; omega)
      rw [if_pos (show nI 0 = 0 from rfl), show (0 : Int32) = nI 0 from rfl, z_al (by omega) (by omega), z_i 1, z_al (by omega) (by omega), h3 0 (by omega), h3 1 (by omega), h1, m_down (by rw [q2]; exact q3) (by rw [q1]; omega) (by rw [q1]; omega) (by rw [q2]; omega), q_b1_s, q1, q2]
      exact Ok.ret rfl
    · obtain ⟨q1, q2, q3, q4⟩ := z_mdlQ g.2.2 hl (e := 2) hr hp
      have b1 := z_eTb (l := l) (H0 := H) (ro := ro) (pl := pl) (e := 2) hv.1 hr (by have := z_rl_pos (V := V l) hps.1 hps.2 hr; omega)
      have b2 := z_eTb (l := l) (H0 := H) (ro := ro) (pl := pl) (e := 2 + 1) hv.1 hr (by have := z_rl_pos (V := V l) hps.1 hps.2 hr; omega)
      rw [if_neg (show ¬ nI 1 = 0 by decide), z_i 2, z_al (by omega) (by omega), z_i 3, z_al (by omega) (by omega), h3 2 (by omega), h3 3 (by omega), h2, m_down (by rw [q2]; exact q3) (by rw [q1]; omega) (by rw [q1]; omega) (by rw [q2]; omega), q_b1_s, q1, q2]
      exact Ok.ret rfl
/-! middle -/
def l_Cmiddle (sv : l_T) (p q w : Int32) : Prop := z_hs (z_pr (l_R sv)) (z_pr (l_C sv)) p q ∧ (0 ≤ w.toInt ∧ w.toInt ≤ 1)
def l_Fmiddle (sv : l_T) (w : Int32) (s : Nat × Nat × Nat × Nat) : Int32 := z_mdl (z_pr (l_R sv)) (z_pr (l_C sv)) s.1 s.2.2.1 s.2.2.2 w.toInt.toNat
def l_amiddle (sv : l_T) (p q w r : Int32) : Prop := l_rel (l_Cmiddle sv p q w) (-1000000) (l_sp sv p q) (l_Fmiddle sv w) r
theorem l_amiddle_one {p q w r r' : Int32} (h : l_ok sv) (h1 : l_amiddle sv p q w r) (h2 : l_amiddle sv p q w r') : r = r' := l_rel_one (l_sp_one h) h1 h2
theorem a_x_middle (g : GOK (l_R sv) (l_C sv) (z_pr (l_R sv)) (z_pr (l_C sv)) rc cc br zc rw sh) (hN : 1000000 ≤ N) (a1 a2 a3 a4 a5 a6 p q w : Int32) : Ok (f_X_middle N a1 a2 a3 a4 a5 a6 br zc rw sh p q w) (fun x => l_amiddle sv p q w x.1) := by
  unfold f_X_middle
  refine Ok.b1 (r_hasSheet g p q) (fun v1 h1 => ?_)
  rcases h1 with ⟨z, rfl⟩ | ⟨z, rfl⟩
  rotate_left
  · exact Ok.ite (fun _ => Ok.ret (l_relN (fun u => z u.1))) (fun c => absurd rfl c)
  refine Ok.ite (fun c => absurd c (by decide)) (fun _ => Ok.b1 (s_isFrom w 0 1) (fun v2 h2 => ?_))
  rw [show (0 : Int32).toInt = 0 from rfl, show (1 : Int32).toInt = 1 from rfl] at h2
  refine Ok.ite (fun c => Ok.ret (l_relN (fun u => z_if0 h2 c u.2))) (fun c => ?_)
  have hw := z_if1 h2 c
  have z' := z
  obtain ⟨l, k, hl, rfl, rfl, hk⟩ := z'
  obtain ⟨j, -, rfl, hjj⟩ := z_nat (r := w) (by omega)
  have hs := g.2.sh hl
  obtain ⟨ro, pl, e, d1, d2, d3⟩ := k_put (N := N) g (by omega) hl hk a1 a2 a3 a4 a5 a6
  have hsp : l_sp sv (nI l) (nI k) (l, k, ro, pl) := ⟨⟨hl, (show k < 20000000 by omega), d1, d2, d3⟩, rfl, rfl⟩
  rw [e, q_b6_s]
  rcases (show j = 0 ∨ j = 1 by omega) with rfl | rfl
  · rw [if_pos (show nI 0 = 0 from rfl), r_middleLat g hl d1 d2, q_b1_s]
    exact Ok.ret (l_relY ⟨z, hw⟩ hsp rfl)
  · rw [if_neg (show ¬ nI 1 = 0 by decide), r_middleLon g hl d1 d2, q_b1_s]
    exact Ok.ret (l_relY ⟨z, hw⟩ hsp rfl)
theorem a_m_middle (g : MOK (l_R sv) (l_C sv) (z_pr (l_R sv)) (z_pr (l_C sv)) cr cq dp wd za) (hN : 1000000 ≤ N) (bl bo : Int64) (ed : Nat → Int64) (p q w : Int32) : Ok (f_M_middle N dp wd za bl bo ed p q w) (fun x => l_amiddle sv p q w x.1) := by
  unfold f_M_middle
  refine Ok.b1 (r_isKey g p q) (fun v1 h1 => ?_)
  rcases h1 with ⟨z, rfl⟩ | ⟨z, rfl⟩
  rotate_left
  · exact Ok.ite (fun _ => Ok.ret (l_relN (fun u => z u.1))) (fun c => absurd rfl c)
  refine Ok.ite (fun c => absurd c (by decide)) (fun _ => Ok.b1 (t_in _ _ _) (fun v2 h2 => ?_))
  rw [z_toL, show (0 : Int64).toInt = 0 from rfl, show (1 : Int64).toInt = 1 from rfl] at h2
  refine Ok.ite (fun c => Ok.ret (l_relN (fun u => z_if0 h2 c u.2))) (fun c => ?_)
  have hw := z_if1 h2 c
  have z' := z
  obtain ⟨l, k, hl, rfl, rfl, hk⟩ := z'
  obtain ⟨j, -, rfl, hjj⟩ := z_nat (r := w) (by omega)
  have hs := g.2.2.sh hl
  obtain ⟨ro, pl, d1, d2, d3, -, -⟩ := t_spot (N := N) g (by omega) hl hk
  have hsp : l_sp sv (nI l) (nI k) (l, k, ro, pl) := ⟨⟨hl, (show k < 20000000 by omega), d1, d2, d3⟩, rfl, rfl⟩
  have hj : (nI j).toInt.toNat = j := by rw [hjj]; rfl
  refine Ok.b4 (r_middleOf (N := N) g (by omega) hl hk d1 d2 d3 (w := j) (by omega) bl bo ed) (fun v3 v4 v5 f6 h3 => Ok.ret (l_relY ⟨z, hw⟩ hsp ?_))
  dsimp only at h3
  rw [h3]
  unfold l_Fmiddle
  rw [hj]
/-! edge: the common divisor of both sides -/
theorem z_gcdI {a b : Nat} (ha : a < 2 ^ 62) (hb : b < 2 ^ 31) (h0 : b ≠ 0) {β : Type} {k : Int64 → Option β} : q_rml (lN a) (lN b) k = k (lN (a % b)) := z_rml (by omega) (by omega) (by omega)
theorem z_cmp0N {b : Nat} (hb : b < 2 ^ 31) : lg_cmp (lN b) 0 = 0 ↔ b = 0 := by
  rw [z_lcmpE, show (0 : Int64) = lN 0 from rfl, lN_eq hb (by omega)]
theorem r_gcdM_L : ∀ n a b, a < 2 ^ 62 → b < 2 ^ 31 → b < n → f_M_common_L17 n (lN a) (lN b) = some (lN (Nat.gcd a b)) := by
  intro n
  induction n with
  | zero => intro a b h1 h2 h3; omega
  | succ n ih =>
    intro a b h1 h2 h3
    unfold f_M_common_L17
    by_cases c : b = 0
    · rw [if_pos ((z_cmp0N h2).mpr c), c, Nat.gcd_zero_right]
    · have hm : a % b < b := Nat.mod_lt _ (by omega)
      rw [if_neg (fun z => c ((z_cmp0N h2).mp z)), z_gcdI h1 h2 c, ih b (a % b) (by omega) (by omega) (by omega), Nat.gcd_comm a b, Nat.gcd_rec b a, Nat.gcd_comm]
theorem r_gcdX_L : ∀ m n a b i, a < 2 ^ 62 → b < 2 ^ 31 → i + 2 * m + 2 ≤ 200 → b < 2 ^ m → b ≤ a → 2 * m + 2 < n → f_X_commonDivisor_L9 n (lN a) (lN b) (nI i) = some (lN (Nat.gcd a b)) := by
  intro m
  induction m with
  | zero =>
    intro n a b i h1 h2 h3 h4 h5 h6
    obtain ⟨n, rfl⟩ : ∃ k, n = k + 1 := ⟨n - 1, by omega⟩
    have hb : b = 0 := by omega
    unfold f_X_commonDivisor_L9
    rw [if_neg (by rw [z_i 200, nI_leI (by omega) (by omega)]; omega), if_pos ((z_cmp0N h2).mpr hb), hb, Nat.gcd_zero_right]
  | succ m ih =>
    intro n a b i h1 h2 h3 h4 h5 h6
    obtain ⟨n, rfl⟩ : ∃ k, n = k + 1 + 1 := ⟨n - 2, by omega⟩
    unfold f_X_commonDivisor_L9
    rw [if_neg (by rw [z_i 200, nI_leI (by omega) (by omega)]; omega)]
    by_cases c : b = 0
    · rw [if_pos ((z_cmp0N h2).mpr c), c, Nat.gcd_zero_right]
    · have hm : a % b < b := Nat.mod_lt _ (by omega)
      rw [if_neg (fun z => c ((z_cmp0N h2).mp z)), z_gcdI h1 h2 c, nI_1, z_nm]
      unfold f_X_commonDivisor_L9
      rw [if_neg (by rw [z_i 200, nI_leI (by omega) (by omega)]; omega)]
      have e1 : Nat.gcd b (a % b) = Nat.gcd a b := by rw [Nat.gcd_comm a b, Nat.gcd_rec b a, Nat.gcd_comm]
      by_cases c2 : a % b = 0
      · rw [if_pos ((z_cmp0N (by omega)).mpr c2), ← e1, c2, Nat.gcd_zero_right]
      · have hm2 : b % (a % b) < a % b := Nat.mod_lt _ (by omega)
        have hh : b % (a % b) + a % b ≤ b := by
          have h7 := Nat.div_add_mod b (a % b)
          have h8 : 1 ≤ b / (a % b) := Nat.div_pos (by omega) (by omega)
          have h9 : (a % b) * 1 ≤ (a % b) * (b / (a % b)) := Nat.mul_le_mul_left _ h8
          omega
        have h10 : 2 ^ (m + 1) = 2 * 2 ^ m := by rw [Nat.pow_succ, Nat.mul_comm]
        have e2 : Nat.gcd (a % b) (b % (a % b)) = Nat.gcd b (a % b) := by rw [Nat.gcd_comm b (a % b), Nat.gcd_rec (a % b) b, Nat.gcd_comm]
        rw [if_neg (fun z => c2 ((z_cmp0N (by omega)).mp z)), z_gcdI (by omega) (by omega) c2, nI_1, z_nm, ih n (a % b) (b % (a % b)) (i + 1 + 1) (by omega) (by omega) (by omega) (by omega) (by omega) (by omega), e2, e1]
theorem z_gcd1 {a b : Nat} (h0 : b ≠ 0) : Nat.gcd b (a % b) = Nat.gcd a b := by rw [Nat.gcd_comm a b, Nat.gcd_rec b a, Nat.gcd_comm]
theorem r_gcdX (hN : 1000000 ≤ N) {a b : Nat} (ha : a < 2 ^ 62) (h1 : 1 ≤ b) (hb : b < 2 ^ 20) : f_X_commonDivisor N (lN a) (lN b) = some (lN (Nat.gcd a b)) := by
  obtain ⟨n, rfl⟩ : ∃ k, N = k + 1 := ⟨N - 1, by omega⟩
  unfold f_X_commonDivisor
  rw [z_nm]
  have hm : a % b < b := Nat.mod_lt _ (by omega)
  have e : f_X_commonDivisor_L9 (n + 1) (lN a) (lN b) 0 = some (lN (Nat.gcd a b)) := by
    unfold f_X_commonDivisor_L9
    rw [if_neg (by decide), if_neg (fun z => absurd ((z_cmp0N (by omega)).mp z) (by omega)), z_gcdI ha (by omega) (by omega), show (0 : Int32) + 1 = nI 1 from rfl, z_nm, r_gcdX_L 20 n b (a % b) 1 (by omega) (by omega) (by omega) (by omega) (by omega) (by omega), z_gcd1 (by omega)]
  rw [e, q_b1_s]
theorem r_gcdM (hN : 1000000 ≤ N) {x : Int64} (hx : -1000000000000 ≤ x.toInt ∧ x.toInt ≤ 1000000000000) {b : Nat} (h1 : 1 ≤ b) (hb : b < 2 ^ 19 + 2 ^ 18) : f_M_common N x (lN b) = some (lN (Nat.gcd x.toInt.natAbs b)) := by
  unfold f_M_common
  rw [z_j1]
  have e : ∀ y : Int64, y.toInt = (x.toInt.natAbs : Int) → f_M_common_L17 N y (lN b) = some (lN (Nat.gcd x.toInt.natAbs b)) := by
    intro y hy
    have ey : y = lN x.toInt.natAbs := by
      apply Int64.toInt_inj.mp
      rw [hy]
      exact (lg_ofNat_toInt (by omega)).symm
    rw [ey, r_gcdM_L N _ b (by omega) (by omega) (by omega)]
  by_cases c : 0 ≤ x.toInt
  · rw [if_pos (z_lcmp0.mpr c)]
    dsimp only
    rw [e x (by omega), q_b1_s]
  · rw [if_neg (fun z => c (z_lcmp0.mp z))]
    dsimp only
    rw [e (-x) (by rw [Int64.toInt_neg, fb_bmodL (by omega) (by omega)]; omega), q_b1_s]
/-- a fraction's top and bottom in lowest terms -/
def z_frT (T : Int) (B : Nat) : Int64 := Int64.ofInt T / lN (Nat.gcd T.natAbs B)
def z_frB (T : Int) (B : Nat) : Int64 := lN B / lN (Nat.gcd T.natAbs B)
def l_Cedge (sv : l_T) (p q w : Int32) : Prop := z_hs (z_pr (l_R sv)) (z_pr (l_C sv)) p q ∧ (0 ≤ w.toInt ∧ w.toInt ≤ 7)
def l_Fedge (sv : l_T) (j : Nat) (s : Nat × Nat × Nat × Nat) : Int64 := if j % 2 = 0 then z_frT (z_eT (z_pr (l_R sv)) s.1 s.2.2.1 s.2.2.2 (j / 2)) (z_eB (z_pr (l_R sv)) (z_pr (l_C sv)) s.1 s.2.2.1 (j / 2)) else z_frB (z_eT (z_pr (l_R sv)) s.1 s.2.2.1 s.2.2.2 (j / 2)) (z_eB (z_pr (l_R sv)) (z_pr (l_C sv)) s.1 s.2.2.1 (j / 2))
def l_aedge (sv : l_T) (p q w : Int32) (r : Int64) : Prop := (¬ l_Cedge sv p q w ∧ r = -9223372036854775808) ∨ (l_Cedge sv p q w ∧ ∃ s, l_sp sv p q s ∧ r = l_Fedge sv w.toInt.toNat s)
theorem l_aedge_one {p q w : Int32} {r r' : Int64} (h : l_ok sv) (h1 : l_aedge sv p q w r) (h2 : l_aedge sv p q w r') : r = r' := by
  rcases h1 with ⟨a, b⟩ | ⟨a, s, h1, e⟩ <;> rcases h2 with ⟨a', b'⟩ | ⟨a', s', h1', e'⟩
  · exact b.trans b'.symm
  · exact absurd a' a
  · exact absurd a a'
  · rw [l_sp_one h s s' h1 h1'] at e
    exact e.trans e'.symm
theorem z_absI {x : Int64} (hx : -1000000000000 ≤ x.toInt ∧ x.toInt ≤ 1000000000000) : (if 0 < x then x else -x : Int64) = lN x.toInt.natAbs := by
  apply Int64.toInt_inj.mp
  have e : (lN x.toInt.natAbs).toInt = (x.toInt.natAbs : Int) := lg_ofNat_toInt (by omega)
  rw [e]
  by_cases c : 0 < x
  · have c' := Int64.lt_iff_toInt_lt.mp c
    rw [show (0 : Int64).toInt = 0 from rfl] at c'
    rw [if_pos c]; omega
  · have c' : ¬ 0 < x.toInt := fun z => c (Int64.lt_iff_toInt_lt.mpr (by rw [show (0 : Int64).toInt = 0 from rfl]; exact z))
    rw [if_neg c, Int64.toInt_neg, fb_bmodL (by omega) (by omega)]; omega
theorem z_gcdB {T : Int} {B : Nat} (h1 : 1 ≤ B) (h2 : B ≤ 563400) : 1 ≤ Nat.gcd T.natAbs B ∧ Nat.gcd T.natAbs B ≤ 563400 := ⟨Nat.gcd_pos_of_pos_right _ h1, Nat.le_trans (Nat.gcd_le_right _ h1) h2⟩
theorem a_x_edge (g : GOK (l_R sv) (l_C sv) (z_pr (l_R sv)) (z_pr (l_C sv)) rc cc br zc rw sh) (hN : 1000000 ≤ N) (a1 a2 a3 a4 a5 a6 p q w : Int32) : Ok (f_X_edge N a1 a2 a3 a4 a5 a6 br zc rw sh p q w) (fun x => l_aedge sv p q w x.1) := by
  unfold f_X_edge
  refine Ok.b1 (r_hasSheet g p q) (fun v1 h1 => ?_)
  rcases h1 with ⟨z, rfl⟩ | ⟨z, rfl⟩
  rotate_left
  · exact Ok.ite (fun _ => Ok.ret (Or.inl ⟨fun u => z u.1, rfl⟩)) (fun c => absurd rfl c)
  refine Ok.ite (fun c => absurd c (by decide)) (fun _ => Ok.b1 (s_isFrom w 0 7) (fun v2 h2 => ?_))
  rw [show (0 : Int32).toInt = 0 from rfl, show (7 : Int32).toInt = 7 from rfl] at h2
  refine Ok.ite (fun c => Ok.ret (Or.inl ⟨fun u => z_if0 h2 c u.2, rfl⟩)) (fun c => ?_)
  have hw := z_if1 h2 c
  have z' := z
  obtain ⟨l, k, hl, rfl, rfl, hk⟩ := z'
  obtain ⟨j, -, rfl, hjj⟩ := z_nat (r := w) (by omega)
  have hs := g.2.sh hl
  have hv := g.2.hv hl
  have hps := g.2.pos l hl
  obtain ⟨ro, pl, e, d1, d2, d3⟩ := k_put (N := N) g (by omega) hl hk a1 a2 a3 a4 a5 a6
  have la := z_rl_pos (V := z_pr (l_C sv) l) hps.1 hps.2 d1
  have hsp : l_sp sv (nI l) (nI k) (l, k, ro, pl) := ⟨⟨hl, (show k < 20000000 by omega), d1, d2, d3⟩, rfl, rfl⟩
  have bT := z_eTb (l := l) (H0 := z_pr (l_R sv)) (ro := ro) (pl := pl) (e := j / 2) hv.1 d1 (by omega)
  have bB := z_eBb g.2 hl (ro := ro) (e := j / 2) d1
  have tT := z_ofT (z := z_eT (z_pr (l_R sv)) l ro pl (j / 2)) (by omega) (by omega)
  have bG := z_gcdB (T := z_eT (z_pr (l_R sv)) l ro pl (j / 2)) bB.1 bB.2
  have fin : ∀ r : Int64, r = l_Fedge sv j (l, k, ro, pl) → l_aedge sv (nI l) (nI k) (nI j) r := fun r h => Or.inr ⟨⟨z, hw⟩, _, hsp, by rw [h, hjj]; rfl⟩
  unfold l_Fedge z_frT z_frB at fin
  rw [e, q_b6_s, z_i 2, z_dv (by omega) (by omega) (by omega), r_edgeTop g hl d1 d2 (by omega), q_b1_s, z_dv (by omega) (by omega) (by omega), r_edgeBottom g hl d1 (by omega), q_b1_s, z_nm, z_absI (by rw [tT]; exact bT), tT, r_gcdX hN (by omega) bB.1 (by omega), q_b1_s]
  refine Ok.ite (fun _ => ?_) (fun c => absurd ((lg_cmp_ge _ _).mpr ((lN_le (a := 1) (by omega) (by omega)).mpr bG.1)) c)
  rw [z_rm (by omega) (by omega) (by omega)]
  unfold q_dvl
  have g0 : ¬ lN (Nat.gcd (z_eT (z_pr (l_R sv)) l ro pl (j / 2)).natAbs (z_eB (z_pr (l_R sv)) (z_pr (l_C sv)) l ro (j / 2))) = 0 := z_lne0 bG.1 (by omega)
  by_cases c : j % 2 = 0
  · rw [if_pos (by rw [c]; rfl), if_neg g0]
    exact Ok.ret (fin _ (by rw [if_pos c]))
  · rw [if_neg (by rw [z_eq0 (by omega)]; exact c), if_neg g0]
    exact Ok.ret (fin _ (by rw [if_neg c]))
theorem a_m_edge (g : MOK (l_R sv) (l_C sv) (z_pr (l_R sv)) (z_pr (l_C sv)) cr cq dp wd za) (hN : 1000000 ≤ N) (bl bo : Int64) (ed : Nat → Int64) (p q w : Int32) : Ok (f_M_edge N dp wd za bl bo ed p q w) (fun x => l_aedge sv p q w x.1) := by
  unfold f_M_edge
  refine Ok.b1 (r_isKey g p q) (fun v1 h1 => ?_)
  rcases h1 with ⟨z, rfl⟩ | ⟨z, rfl⟩
  rotate_left
  · exact Ok.ite (fun _ => Ok.ret (Or.inl ⟨fun u => z u.1, rfl⟩)) (fun c => absurd rfl c)
  refine Ok.ite (fun c => absurd c (by decide)) (fun _ => Ok.b1 (t_in _ _ _) (fun v2 h2 => ?_))
  rw [z_toL, show (0 : Int64).toInt = 0 from rfl, show (7 : Int64).toInt = 7 from rfl] at h2
  refine Ok.ite (fun c => Ok.ret (Or.inl ⟨fun u => z_if0 h2 c u.2, rfl⟩)) (fun c => ?_)
  have hw := z_if1 h2 c
  have z' := z
  obtain ⟨l, k, hl, rfl, rfl, hk⟩ := z'
  obtain ⟨j, -, rfl, hjj⟩ := z_nat (r := w) (by omega)
  have hs := g.2.2.sh hl
  have hv := g.2.2.hv hl
  have hps := g.2.2.pos l hl
  obtain ⟨ro, pl, d1, d2, d3, -, -⟩ := t_spot (N := N) g (by omega) hl hk
  have la := z_rl_pos (V := z_pr (l_C sv) l) hps.1 hps.2 d1
  have hsp : l_sp sv (nI l) (nI k) (l, k, ro, pl) := ⟨⟨hl, (show k < 20000000 by omega), d1, d2, d3⟩, rfl, rfl⟩
  have bT := z_eTb (l := l) (H0 := z_pr (l_R sv)) (ro := ro) (pl := pl) (e := j / 2) hv.1 d1 (by omega)
  have bB := z_eBb g.2.2 hl (ro := ro) (e := j / 2) d1
  have tT := z_ofT (z := z_eT (z_pr (l_R sv)) l ro pl (j / 2)) (by omega) (by omega)
  have bG := z_gcdB (T := z_eT (z_pr (l_R sv)) l ro pl (j / 2)) bB.1 bB.2
  have fin : ∀ r : Int64, r = l_Fedge sv j (l, k, ro, pl) → l_aedge sv (nI l) (nI k) (nI j) r := fun r h => Or.inr ⟨⟨z, hw⟩, _, hsp, by rw [h, hjj]; rfl⟩
  unfold l_Fedge z_frT z_frB at fin
  refine Ok.b3 (r_laysEdges (N := N) g (by omega) hl d1 d2 d3 bl bo ed) (fun v3 v4 f5 h => ?_)
  obtain ⟨h1, h2, h3⟩ := h
  dsimp only at h1 h2 h3
  have g0 : ¬ lN (Nat.gcd (z_eT (z_pr (l_R sv)) l ro pl (j / 2)).natAbs (z_eB (z_pr (l_R sv)) (z_pr (l_C sv)) l ro (j / 2))) = 0 := z_lne0 bG.1 (by omega)
  have K : ∀ v8 : Int64, v8 = lN (z_eB (z_pr (l_R sv)) (z_pr (l_C sv)) l ro (j / 2)) → Ok (q_b1 (f_M_common N (f5 (j / 2)) v8) (fun (v9 : Int64) => q_rm (nI j) (nI 2) (fun (v10 : Int32) => if v10 = 0 then (q_dvl (f5 (j / 2)) v9 (fun (v12 : Int64) => some (v12, v3, v4, f5))) else (q_dvl v8 v9 (fun (v11 : Int64) => some (v11, v3, v4, f5)))))) (fun x => l_aedge sv (nI l) (nI k) (nI j) x.1) := by
    intro v8 h8
    rw [h8, h3 (j / 2) (by omega), r_gcdM hN (by rw [tT]; exact bT) bB.1 (by omega), q_b1_s, tT, z_rm (by omega) (by omega) (by omega)]
    unfold q_dvl
    by_cases c : j % 2 = 0
    · rw [if_pos (by rw [c]; rfl), if_neg g0]
      exact Ok.ret (fin _ (by rw [if_pos c]))
    · rw [if_neg (by rw [z_eq0 (by omega)]; exact c), if_neg g0]
      exact Ok.ret (fin _ (by rw [if_neg c]))
  rw [z_i 2, z_dv (by omega) (by omega) (by omega), z_al (by omega) (by omega)]
  refine Ok.j1 ?_
  by_cases c : 4 ≤ j
  · rw [if_pos (by rw [z_i 4, nI_leI (by omega) (by omega)]; exact c)]
    exact K v4 (by rw [h2, z_eBhi (show ¬ 2 < 2 by omega), z_eBhi (show ¬ j / 2 < 2 by omega)])
  · rw [if_neg (by rw [z_i 4, nI_leI (by omega) (by omega)]; exact c)]
    exact K v3 (by rw [h1, z_eBlo (show 0 < 2 by omega), z_eBlo (show j / 2 < 2 by omega)])
end S8A
end
section
/-! answers: moved, changes -/
section S9A
variable {R C H V : Nat → Nat} {rc cc br zc rw sh cr cq dp wd za : Nat → Int32} {sv : l_T} {N l t : Nat}
theorem z_ixor {a b : Int32} (hb : 0 < b.toInt) : 0 ≤ (a ^^^ b) ↔ 0 ≤ a.toInt := by
  have h : (a ^^^ b).toBitVec.msb = (a.toBitVec.msb ^^ b.toBitVec.msb) := by
    rw [Int32.toBitVec_xor, BitVec.msb_xor]
  rw [BitVec.msb_eq_toInt, BitVec.msb_eq_toInt, BitVec.msb_eq_toInt] at h
  have e1 : (a ^^^ b).toBitVec.toInt = (a ^^^ b).toInt := rfl
  have e2 : a.toBitVec.toInt = a.toInt := rfl
  have e3 : b.toBitVec.toInt = b.toInt := rfl
  rw [e1, e2, e3, decide_eq_false (show ¬ b.toInt < 0 by omega), Bool.xor_false] at h
  have h2 := decide_eq_decide.mp h
  rw [z_le, show (0 : Int32).toInt = 0 from rfl]
  omega
theorem k_floorDivI {a b : Int32} (hb : 0 < b.toInt) (h1 : -1073741824 ≤ a.toInt) (h2 : a.toInt ≤ 1073741824) (h3 : b.toInt ≤ 1073741824) : ∃ r : Int32, f_JMath_floorDiv_7cf53 a b = some r ∧ r.toInt = a.toInt / b.toInt := by
  have hb0 : ¬ b = 0 := by
    intro h; rw [h] at hb; exact absurd hb (by decide)
  have hb1 : b ≠ -1 := by
    intro h; rw [h] at hb; exact absurd hb (by decide)
  have hd : (a / b).toInt = a.toInt.tdiv b.toInt := Int32.toInt_div_of_ne_right a b hb1
  have ra := fb_rng a
  have rb := fb_rng b
  unfold f_JMath_floorDiv_7cf53 q_dv
  rw [if_neg hb0]
  dsimp only
  by_cases ha : 0 ≤ a.toInt
  · rw [if_pos ((z_ixor hb).mpr ha)]
    rw [Int.tdiv_eq_ediv_of_nonneg ha] at hd
    exact ⟨_, rfl, hd⟩
  · rw [if_neg (fun h => ha ((z_ixor hb).mp h))]
    have h5 := Int.mul_tdiv_add_tmod a.toInt b.toInt
    have h6 : a.toInt.tmod b.toInt ≤ 0 := z_tmod (by omega) hb
    have h7 : a.toInt.tdiv b.toInt ≤ 0 := z_tdn (by omega) hb
    have h8 : -b.toInt < a.toInt.tmod b.toInt := Int.lt_tmod_of_pos a.toInt hb
    have h9 : a.toInt.tdiv b.toInt * b.toInt ≤ a.toInt.tdiv b.toInt * 1 := Int.mul_le_mul_of_nonpos_left h7 (by omega)
    rw [Int.mul_comm] at h5
    have hp : (a / b * b).toInt = a.toInt.tdiv b.toInt * b.toInt := by
      rw [← hd]
      exact fb_mulI (by rw [hd]; omega) (by rw [hd]; omega)
    rcases z_tdiv hb (show a.toInt < 0 by omega) with ⟨g1, g2⟩ | ⟨g1, g2⟩
    · rw [if_pos (Int32.toInt_inj.mp (by rw [hp, g1]))]
      exact ⟨_, rfl, by rw [g2, hd]⟩
    · rw [if_neg (fun h => g1 (by rw [← hp, h]))]
      have e1 : (1 : Int32).toInt = 1 := rfl
      exact ⟨_, rfl, by rw [fb_subI (by rw [hd, e1]; omega) (by rw [hd, e1]; omega), hd, e1, g2]⟩
theorem k_floorModL {a b : Int64} (hb : 0 < b.toInt) (h1 : -4611686018427387904 ≤ a.toInt) (h2 : a.toInt < 4611686018427387904) (h3 : b.toInt < 4611686018427387904) : f_JMath_floorMod_f86c9 a b = some (Int64.ofInt (a.toInt % b.toInt)) := by
  have hb0 : ¬ b = 0 := by
    intro h; rw [h] at hb; exact absurd hb (by decide)
  have hb1 : b ≠ -1 := by
    intro h; rw [h] at hb; exact absurd hb (by decide)
  have hd : (a / b).toInt = a.toInt.tdiv b.toInt := Int64.toInt_div_of_ne_right a b hb1
  have h5 := Int.mul_tdiv_add_tmod a.toInt b.toInt
  have h8 : -b.toInt < a.toInt.tmod b.toInt := Int.lt_tmod_of_pos a.toInt hb
  have h8' : a.toInt.tmod b.toInt < b.toInt := Int.tmod_lt_of_pos a.toInt hb
  have hp : (a / b * b).toInt = a.toInt.tdiv b.toInt * b.toInt := by
    rw [← hd]
    rw [Int.mul_comm] at h5
    exact fb_mulL (by rw [hd]; omega) (by rw [hd]; omega)
  have hm : (a - a / b * b).toInt = a.toInt.tmod b.toInt := by
    rw [Int.mul_comm] at h5
    rw [fb_subL (by rw [hp]; omega) (by rw [hp]; omega), hp]
    omega
  unfold f_JMath_floorMod_f86c9 q_rml
  rw [if_neg hb0]
  dsimp only
  have e1 := Int.mul_ediv_add_emod a.toInt b.toInt
  have e2 := Int.emod_nonneg a.toInt (show b.toInt ≠ 0 by omega)
  have e3 := Int.emod_lt_of_pos a.toInt hb
  by_cases ha : 0 ≤ a.toInt
  · rw [if_pos (z_lcmp0.mpr ((z_lxor hb).mpr ha))]
    refine z_some (z_ofI64 ?_)
    rw [hm, Int.tmod_eq_emod_of_nonneg ha]
  · rw [if_neg (fun h => ha ((z_lxor hb).mp (z_lcmp0.mp h)))]
    have h6 : a.toInt.tmod b.toInt ≤ 0 := z_tmod (by omega) hb
    by_cases c : a.toInt.tmod b.toInt = 0
    · rw [if_pos (z_lcmpE.mpr (Int64.toInt_inj.mp (by rw [hm, c]; rfl)))]
      refine z_some (z_ofI64 ?_)
      rw [hm, c]
      exact (Int.emod_eq_zero_of_dvd (Int.dvd_of_tmod_eq_zero c)).symm
    · rw [if_neg (fun h => c (by rw [← hm, z_lcmpE.mp h]; rfl))]
      refine z_some (z_ofI64 ?_)
      rw [fb_addL (by rw [hm]; omega) (by rw [hm]; omega), hm]
      refine ((Int.ediv_emod_unique (q := a.toInt.tdiv b.toInt - 1) hb).mpr ⟨?_, by omega, by omega⟩).2.symm
      rw [Int.mul_sub, Int.mul_one]
      omega
theorem k_keyP (g : GOK R C H V rc cc br zc rw sh) (hl : l < 5) {x y : Int32} (h1 : -324000 ≤ x.toInt) (h2 : x.toInt ≤ 324000) (h3 : 0 ≤ y.toInt) (h4 : y.toInt < 1296000) : f_Grid_keyOf br zc rw sh (nI l) x y = some (nI (z_kp (H l) (V l) x.toInt y.toInt.toNat)) := by
  obtain ⟨o, -, rfl, ho⟩ := z_nat h3
  rw [k_keyAtPlace g hl h1 h2 (by omega), ho]
  rfl
theorem m_keyP (g : MOK R C H V cr cq dp wd za) (hl : l < 5) {x y : Int32} (h3 : 0 ≤ y.toInt) (h4 : y.toInt < 1296000) : f_M_keyAtPlace dp wd za x y (nI l) = some (nI (z_kp (H l) (V l) x.toInt y.toInt.toNat)) := by
  obtain ⟨o, -, rfl, ho⟩ := z_nat h3
  rw [m_keyAtPlace g hl x (by omega), ho]
  rfl
theorem z_isI {x : Int64} : lg_cmp x x.toInt32.toInt64 = 0 ↔ (-2147483648 ≤ x.toInt ∧ x.toInt ≤ 2147483647) := by
  have e : x.toInt32.toInt64.toInt = x.toInt.bmod (2 ^ 32) := by rw [z_toL, Int64.toInt_toInt32]
  rw [z_lcmpE, ← Int64.toInt_inj, e]
  constructor
  · intro h
    have h1 := Int.le_bmod (x := x.toInt) (m := 2 ^ 32) (by decide)
    have h2 := Int.bmod_lt (x := x.toInt) (m := 2 ^ 32) (by decide)
    rw [← h] at h1 h2
    omega
  · intro h
    exact (fb_bmod (by omega) (by omega)).symm
theorem z_i32 {x : Int64} (h1 : -2147483648 ≤ x.toInt) (h2 : x.toInt ≤ 2147483647) : x.toInt32.toInt = x.toInt := by
  rw [Int64.toInt_toInt32, fb_bmod (by omega) (by omega)]
/-- a level -/
def l_Sl (w : Int32) (l : Nat) : Prop := l < 5 ∧ w = nI l
theorem l_Sl_one {w : Int32} : ∀ s s' : Nat, l_Sl w s → l_Sl w s' → s = s' := by
  intro s s' ⟨a, b⟩ ⟨a', b'⟩
  rw [b, nI_eq (by omega) (by omega)] at b'
  exact b'
def l_Cmoved (p q w : Int32) : Prop := z_plV p q ∧ (0 ≤ w.toInt ∧ w.toInt ≤ 4)
def l_Fmoved (sv : l_T) (p q a b : Int32) (l : Nat) : Int32 := if ¬ ((-2147483648 ≤ p.toInt + a.toInt ∧ p.toInt + a.toInt ≤ 2147483647) ∧ (-2147483648 ≤ q.toInt + b.toInt ∧ q.toInt + b.toInt ≤ 2147483647)) then -2 else if ¬ (-324000 ≤ p.toInt + a.toInt ∧ p.toInt + a.toInt ≤ 324000) then -3 else nI (z_kp (z_pr (l_R sv) l) (z_pr (l_C sv) l) (p.toInt + a.toInt) ((q.toInt + b.toInt) % 1296000).toNat)
def l_amoved (sv : l_T) (p q a b w r : Int32) : Prop := l_rel (l_Cmoved p q w) (-1) (l_Sl w) (l_Fmoved sv p q a b) r
theorem l_amoved_one {p q a b w r r' : Int32} (_ : l_ok sv) (h1 : l_amoved sv p q a b w r) (h2 : l_amoved sv p q a b w r') : r = r' := l_rel_one l_Sl_one h1 h2
theorem z_sum {p a : Int32} : (p.toInt64 + a.toInt64).toInt = p.toInt + a.toInt := by
  have h1 := fb_rng p
  have h2 := fb_rng a
  rw [fb_addL (by rw [z_toL, z_toL]; omega) (by rw [z_toL, z_toL]; omega), z_toL, z_toL]
theorem a_x_moved (g : GOK (l_R sv) (l_C sv) (z_pr (l_R sv)) (z_pr (l_C sv)) rc cc br zc rw sh) (p q a b w : Int32) : Ok (f_X_moved br zc rw sh p q a b w) (fun x => l_amoved sv p q a b w x) := by
  unfold f_X_moved
  refine Ok.b1 (r_isPlaceX p q) (fun v1 h1 => ?_)
  rcases h1 with ⟨z, rfl⟩ | ⟨z, rfl⟩
  rotate_left
  · exact Ok.ite (fun _ => Ok.ret (l_relN (fun u => z u.1))) (fun c => absurd rfl c)
  refine Ok.ite (fun c => absurd c (by decide)) (fun _ => Ok.b1 (r_isLevel w) (fun v2 h2 => Ok.ite (fun c => Ok.ret (l_relN (fun u => z_if0 h2 c u.2))) (fun c => ?_)))
  have hv := z_if1 h2 c
  obtain ⟨l, hl, rfl⟩ := t_level hv
  have hS : l_Sl (nI l) l := ⟨hl, rfl⟩
  have h3 := fb_rng p
  have h4 := fb_rng a
  have h5 := fb_rng q
  have h6 := fb_rng b
  have s1 := z_sum (p := p) (a := a)
  have s2 := z_sum (p := q) (a := b)
  have fin : ∀ r, r = l_Fmoved sv p q a b l → Ok (some r) (fun x => l_amoved sv p q a b (nI l) x) := fun r h => Ok.ret (l_relY ⟨z, hv⟩ hS h)
  unfold l_Fmoved at fin
  rw [z_nm, z_nm]
  unfold f_X_isInt
  by_cases c1 : -2147483648 ≤ p.toInt + a.toInt ∧ p.toInt + a.toInt ≤ 2147483647
  rotate_left
  · rw [if_neg (fun u => c1 (by rw [← s1]; exact z_isI.mp u)), q_b1_s, if_pos rfl]
    exact fin _ (by rw [if_pos (fun u => c1 u.1)])
  rw [if_pos (z_isI.mpr (by rw [s1]; exact c1)), q_b1_s, if_neg (by decide)]
  by_cases c2 : -2147483648 ≤ q.toInt + b.toInt ∧ q.toInt + b.toInt ≤ 2147483647
  rotate_left
  · rw [if_neg (fun u => c2 (by rw [← s2]; exact z_isI.mp u)), q_b1_s, if_pos rfl]
    exact fin _ (by rw [if_pos (fun u => c2 u.2)])
  rw [if_pos (z_isI.mpr (by rw [s2]; exact c2)), q_b1_s, if_neg (by decide)]
  rw [if_neg (fun u => u ⟨c1, c2⟩)] at fin
  refine Ok.ite (fun c3 => ?_) (fun c3 => ?_)
  all_goals rw [z_cmplt, s1, show (-324000 : Int64).toInt = -324000 from rfl] at c3
  · exact fin _ (by rw [if_pos (fun u => absurd u.1 (by omega))])
  refine Ok.ite (fun c4 => ?_) (fun c4 => ?_)
  all_goals rw [lg_cmp_le, Int64.le_iff_toInt_le, s1, show (324000 : Int64).toInt = 324000 from rfl] at c4
  · have m1 := Int.emod_nonneg (q.toInt + b.toInt) (show (1296000 : Int) ≠ 0 by decide)
    have m2 := Int.emod_lt_of_pos (q.toInt + b.toInt) (show (0 : Int) < 1296000 by decide)
    have e7 : (Int64.ofInt ((q.toInt + b.toInt) % 1296000)).toInt = (q.toInt + b.toInt) % 1296000 := z_ofT (by omega) (by omega)
    rw [k_floorModL (b := 1296000) (by decide) (by rw [s2]; omega) (by rw [s2]; omega) (by decide), q_b1_s, s2, show (1296000 : Int64).toInt = 1296000 from rfl, k_keyP g hl (by rw [z_i32 (by omega) (by omega), s1]; omega) (by rw [z_i32 (by omega) (by omega), s1]; omega) (by rw [z_i32 (by omega) (by omega), e7]; omega) (by rw [z_i32 (by omega) (by omega), e7]; omega), q_b1_s, z_i32 (by omega) (by omega), z_i32 (by omega) (by omega), s1, e7]
    exact fin _ (by rw [if_neg (fun u => u ⟨by omega, c4⟩)])
  · exact fin _ (by rw [if_pos (fun u => c4 u.2)])
theorem a_m_moved (g : MOK (l_R sv) (l_C sv) (z_pr (l_R sv)) (z_pr (l_C sv)) cr cq dp wd za) (p q a b w : Int32) : Ok (f_M_moved dp wd za p q a b w) (fun x => l_amoved sv p q a b w x) := by
  unfold f_M_moved
  refine Ok.b1 (r_isPlaceM p q) (fun v1 h1 => ?_)
  rcases h1 with ⟨z, rfl⟩ | ⟨z, rfl⟩
  rotate_left
  · exact Ok.ite (fun _ => Ok.ret (l_relN (fun u => z u.1))) (fun c => absurd rfl c)
  refine Ok.ite (fun c => absurd c (by decide)) (fun _ => Ok.b1 (t_isLevel w) (fun v2 h2 => Ok.ite (fun c => Ok.ret (l_relN (fun u => z_if0 h2 c u.2))) (fun c => ?_)))
  have hv := z_if1 h2 c
  obtain ⟨l, hl, rfl⟩ := t_level hv
  have hS : l_Sl (nI l) l := ⟨hl, rfl⟩
  have h3 := fb_rng p
  have h4 := fb_rng a
  have h5 := fb_rng q
  have h6 := fb_rng b
  have s1 := z_sum (p := p) (a := a)
  have s2 := z_sum (p := q) (a := b)
  have fin : ∀ r, r = l_Fmoved sv p q a b l → Ok (some r) (fun x => l_amoved sv p q a b (nI l) x) := fun r h => Ok.ret (l_relY ⟨z, hv⟩ hS h)
  unfold l_Fmoved at fin
  rw [z_nm, z_nm]
  by_cases c1 : -2147483648 ≤ p.toInt + a.toInt ∧ p.toInt + a.toInt ≤ 2147483647
  rotate_left
  · rw [if_neg (fun u => c1 (by rw [← s1]; exact z_isI.mp u))]
    exact fin _ (by rw [if_pos (fun u => c1 u.1)])
  rw [if_pos (z_isI.mpr (by rw [s1]; exact c1))]
  by_cases c2 : -2147483648 ≤ q.toInt + b.toInt ∧ q.toInt + b.toInt ≤ 2147483647
  rotate_left
  · rw [if_neg (fun u => c2 (by rw [← s2]; exact z_isI.mp u))]
    exact fin _ (by rw [if_pos (fun u => c2 u.2)])
  rw [if_pos (z_isI.mpr (by rw [s2]; exact c2))]
  rw [if_neg (fun u => u ⟨c1, c2⟩)] at fin
  refine Ok.b1 (t_in _ _ _) (fun v5 h7 => ?_)
  rw [s1, show (-324000 : Int64).toInt = -324000 from rfl, show (324000 : Int64).toInt = 324000 from rfl] at h7
  refine Ok.ite (fun c3 => fin _ (by rw [if_pos (z_if0 h7 c3)])) (fun c3 => ?_)
  have c4 := z_if1 h7 c3
  have m1 := Int.emod_nonneg (q.toInt + b.toInt) (show (1296000 : Int) ≠ 0 by decide)
  have m2 := Int.emod_lt_of_pos (q.toInt + b.toInt) (show (0 : Int) < 1296000 by decide)
  have m3 := Int.mul_ediv_add_emod (q.toInt + b.toInt) 1296000
  have t1 : (1296000 : Int64).toInt = 1296000 := rfl
  have e6 : (Int64.ofInt ((q.toInt + b.toInt) / 1296000)).toInt = (q.toInt + b.toInt) / 1296000 := z_ofT (by omega) (by omega)
  have e7 : ((1296000 : Int64) * Int64.ofInt ((q.toInt + b.toInt) / 1296000)).toInt = 1296000 * ((q.toInt + b.toInt) / 1296000) := by
    rw [fb_mulL (by rw [t1, e6]; omega) (by rw [t1, e6]; omega), t1, e6]
  have e8 : (q.toInt64 + b.toInt64 - 1296000 * Int64.ofInt ((q.toInt + b.toInt) / 1296000)).toInt = (q.toInt + b.toInt) % 1296000 := by
    rw [fb_subL (by rw [s2, e7]; omega) (by rw [s2, e7]; omega), s2, e7]
    omega
  rw [m_down (b := 1296000) (by decide) (by rw [s2]; omega) (by rw [s2]; omega) (by decide), q_b1_s, s2, t1, z_nm, m_keyP g hl (by rw [z_i32 (by omega) (by omega), e8]; omega) (by rw [z_i32 (by omega) (by omega), e8]; omega), q_b1_s, z_i32 (by omega) (by omega), z_i32 (by omega) (by omega), s1, e8]
  exact fin _ (by rw [if_neg (fun u => u c4)])
/-! changes -/
/-- how many of K i, .. differ from the one ahead -/
def z_cc (K : Nat → Nat) : Nat → Nat → Nat
  | _, 0 => 0
  | i, m + 1 => (if K i = K (i - 1) then 0 else 1) + z_cc K (i + 1) m
/-- a place's part i of n on the way -/
def z_pt (p p2 : Int) (n i : Nat) : Int := p + ((p2 - p) * i) / (n : Int)
theorem z_pt_in {p p2 lo hi : Int} {n i : Nat} (hn : 1 ≤ n) (hi2 : i ≤ n) (h1 : lo ≤ p) (h2 : p ≤ hi) (h3 : lo ≤ p2) (h4 : p2 ≤ hi) : lo ≤ z_pt p p2 n i ∧ z_pt p p2 n i ≤ hi := by
  unfold z_pt
  have hn0 : (0 : Int) < (n : Int) := by omega
  have hc : ((p2 - p) * (n : Int)) / (n : Int) = p2 - p := Int.mul_ediv_cancel _ (by omega)
  by_cases c : p ≤ p2
  · have a1 : 0 ≤ (p2 - p) * (i : Int) := Int.mul_nonneg (by omega) (by omega)
    have a2 : (p2 - p) * (i : Int) ≤ (p2 - p) * (n : Int) := Int.mul_le_mul_of_nonneg_left (by omega) (by omega)
    have a3 : 0 ≤ ((p2 - p) * (i : Int)) / (n : Int) := Int.ediv_nonneg a1 (by omega)
    have a4 := Int.ediv_le_ediv hn0 a2
    omega
  · have a1 : (p2 - p) * (i : Int) ≤ 0 := Int.mul_nonpos_of_nonpos_of_nonneg (by omega) (by omega)
    have a2 : (p2 - p) * (n : Int) ≤ (p2 - p) * (i : Int) := Int.mul_le_mul_of_nonpos_left (by omega) (by omega)
    have a3 : ((p2 - p) * (i : Int)) / (n : Int) ≤ 0 := by
      have := Int.ediv_le_ediv hn0 a1
      rw [Int.zero_ediv] at this
      exact this
    have a4 := Int.ediv_le_ediv hn0 a2
    omega
def z_ck (H0 V0 : Nat) (p q p2 q2 : Int) (n i : Nat) : Nat := z_kp H0 V0 (z_pt p p2 n i) (z_pt q q2 n i).toNat
theorem z_ptX {p p2 : Int32} {n i : Nat} (hn : 1 ≤ n) (hn2 : n ≤ 200) (hi : i ≤ n) (h1 : -1296000 ≤ p.toInt) (h2 : p.toInt ≤ 1296000) (h3 : -1296000 ≤ p2.toInt) (h4 : p2.toInt ≤ 1296000) : ∃ v : Int32, f_JMath_floorDiv_7cf53 ((p2 - p) * nI i) (nI n) = some v ∧ (p + v).toInt = z_pt p.toInt p2.toInt n i := by
  have e1 : (p2 - p).toInt = p2.toInt - p.toInt := fb_subI (by omega) (by omega)
  have b1 : (p2.toInt - p.toInt) * (i : Int) ≤ 2592000 * 200 := by
    by_cases c : 0 ≤ p2.toInt - p.toInt
    · have a1 : (p2.toInt - p.toInt) * (i : Int) ≤ 2592000 * (i : Int) := Int.mul_le_mul_of_nonneg_right (by omega) (by omega)
      omega
    · have : (p2.toInt - p.toInt) * (i : Int) ≤ 0 := Int.mul_nonpos_of_nonpos_of_nonneg (by omega) (by omega)
      omega
  have b2 : -(2592000 * 200) ≤ (p2.toInt - p.toInt) * (i : Int) := by
    by_cases c : 0 ≤ p2.toInt - p.toInt
    · have : 0 ≤ (p2.toInt - p.toInt) * (i : Int) := Int.mul_nonneg c (by omega)
      omega
    · have a1 : (-2592000 : Int) * (i : Int) ≤ (p2.toInt - p.toInt) * (i : Int) := Int.mul_le_mul_of_nonneg_right (by omega) (by omega)
      omega
  have e2 : ((p2 - p) * nI i).toInt = (p2.toInt - p.toInt) * (i : Int) := by
    rw [fb_mulI (by rw [e1, nI_toInt (by omega)]; omega) (by rw [e1, nI_toInt (by omega)]; omega), e1, nI_toInt (by omega)]
  obtain ⟨v, hv, hr⟩ := k_floorDivI (a := (p2 - p) * nI i) (b := nI n) (by rw [nI_toInt (by omega)]; omega) (by rw [e2]; omega) (by rw [e2]; omega) (by rw [nI_toInt (by omega)]; omega)
  rw [e2, nI_toInt (by omega)] at hr
  have hb := z_pt_in (p := p.toInt) (p2 := p2.toInt) (lo := -1296000) (hi := 1296000) hn hi (by omega) (by omega) (by omega) (by omega)
  unfold z_pt at hb
  refine ⟨v, hv, ?_⟩
  unfold z_pt
  rw [fb_addI (by rw [hr]; omega) (by rw [hr]; omega), hr]
theorem z_ptM {p p2 : Int32} {n i : Nat} (hn : 1 ≤ n) (hn2 : n ≤ 200) (hi : i ≤ n) (h1 : -1296000 ≤ p.toInt) (h2 : p.toInt ≤ 1296000) (h3 : -1296000 ≤ p2.toInt) (h4 : p2.toInt ≤ 1296000) : ∃ v : Int64, f_M_down ((p.toInt64 * (nI n).toInt64) + (((p2 - p).toInt64) * (nI i).toInt64)) (nI n).toInt64 = some v ∧ v.toInt32.toInt = z_pt p.toInt p2.toInt n i := by
  have e1 : (p2 - p).toInt = p2.toInt - p.toInt := fb_subI (by omega) (by omega)
  have b1 : (p2.toInt - p.toInt) * (i : Int) ≤ 2592000 * 200 := by
    by_cases c : 0 ≤ p2.toInt - p.toInt
    · have a1 : (p2.toInt - p.toInt) * (i : Int) ≤ 2592000 * (i : Int) := Int.mul_le_mul_of_nonneg_right (by omega) (by omega)
      omega
    · have : (p2.toInt - p.toInt) * (i : Int) ≤ 0 := Int.mul_nonpos_of_nonpos_of_nonneg (by omega) (by omega)
      omega
  have b2 : -(2592000 * 200) ≤ (p2.toInt - p.toInt) * (i : Int) := by
    by_cases c : 0 ≤ p2.toInt - p.toInt
    · have : 0 ≤ (p2.toInt - p.toInt) * (i : Int) := Int.mul_nonneg c (by omega)
      omega
    · have a1 : (-2592000 : Int) * (i : Int) ≤ (p2.toInt - p.toInt) * (i : Int) := Int.mul_le_mul_of_nonneg_right (by omega) (by omega)
      omega
  have b3 : p.toInt * (n : Int) ≤ 1296000 * 200 := by
    have a1 : p.toInt * (n : Int) ≤ 1296000 * (n : Int) := Int.mul_le_mul_of_nonneg_right h2 (by omega)
    omega
  have b4 : -(1296000 * 200) ≤ p.toInt * (n : Int) := by
    have a1 : (-1296000 : Int) * (n : Int) ≤ p.toInt * (n : Int) := Int.mul_le_mul_of_nonneg_right h1 (by omega)
    omega
  have tn : (nI n).toInt64.toInt = (n : Int) := z_i64 (by omega)
  have ti : (nI i).toInt64.toInt = (i : Int) := z_i64 (by omega)
  have td : (p2 - p).toInt64.toInt = p2.toInt - p.toInt := by rw [z_toL, e1]
  have x1 : (p.toInt64 * (nI n).toInt64).toInt = p.toInt * (n : Int) := by
    rw [fb_mulL (by rw [z_toL, tn]; omega) (by rw [z_toL, tn]; omega), z_toL, tn]
  have x2 : ((p2 - p).toInt64 * (nI i).toInt64).toInt = (p2.toInt - p.toInt) * (i : Int) := by
    rw [fb_mulL (by rw [td, ti]; omega) (by rw [td, ti]; omega), td, ti]
  have x3 : (p.toInt64 * (nI n).toInt64 + (p2 - p).toInt64 * (nI i).toInt64).toInt = p.toInt * (n : Int) + (p2.toInt - p.toInt) * (i : Int) := by
    rw [fb_addL (by rw [x1, x2]; omega) (by rw [x1, x2]; omega), x1, x2]
  have hb := z_pt_in (p := p.toInt) (p2 := p2.toInt) (lo := -1296000) (hi := 1296000) hn hi (by omega) (by omega) (by omega) (by omega)
  have key : (p.toInt * (n : Int) + (p2.toInt - p.toInt) * (i : Int)) / (n : Int) = z_pt p.toInt p2.toInt n i := by
    unfold z_pt
    rw [Int.add_comm, Int.add_mul_ediv_right _ _ (by omega), Int.add_comm]
  refine ⟨_, m_down (by rw [tn]; omega) (by rw [x3]; omega) (by rw [x3]; omega) (by rw [tn]; omega), ?_⟩
  rw [x3, tn, key, z_i32 (by rw [z_ofT (by omega) (by omega)]; omega) (by rw [z_ofT (by omega) (by omega)]; omega), z_ofT (by omega) (by omega)]
theorem r_x_changes_L (g : GOK R C H V rc cc br zc rw sh) (hl : l < 5) {p q p2 q2 : Int32} (z1 : z_plV p q) (z2 : z_plV p2 q2) {n : Nat} (hn : 1 ≤ n) (hn2 : n ≤ 200) : ∀ m f i c, m < f → i + m = n + 1 → 1 ≤ i → c + m ≤ 400 → Ok (f_X_changes_L58 br rw sh zc p q p2 q2 (nI n) (nI l) f (nI c) (nI (z_ck (H l) (V l) p.toInt q.toInt p2.toInt q2.toInt n (i - 1))) (nI i)) (fun x => x = nI (c + z_cc (z_ck (H l) (V l) p.toInt q.toInt p2.toInt q2.toInt n) i m)) := by
  have hs := g.2.sh hl
  intro m
  induction m with
  | zero =>
    intro f i c hf hi h1 hc
    obtain ⟨f, rfl⟩ : ∃ k, f = k + 1 := ⟨f - 1, by omega⟩
    unfold f_X_changes_L58
    rw [if_pos (by rw [nI_ltI (by omega) (by omega)]; omega)]
    exact Ok.ret rfl
  | succ m ih =>
    intro f i c hf hi h1 hc
    obtain ⟨f, rfl⟩ : ∃ k, f = k + 1 := ⟨f - 1, by omega⟩
    obtain ⟨v, ev, hv⟩ := z_ptX (p := p) (p2 := p2) (n := n) (i := i) hn hn2 (by omega) (by have := z1.1; omega) (by have := z1.1; omega) (by have := z2.1; omega) (by have := z2.1; omega)
    obtain ⟨w, ew, hw⟩ := z_ptX (p := q) (p2 := q2) (n := n) (i := i) hn hn2 (by omega) (by have := z1.2; omega) (by have := z1.2; omega) (by have := z2.2; omega) (by have := z2.2; omega)
    have b1 := z_pt_in (p := p.toInt) (p2 := p2.toInt) (lo := -324000) (hi := 324000) hn (show i ≤ n by omega) z1.1.1 z1.1.2 z2.1.1 z2.1.2
    have b2 := z_pt_in (p := q.toInt) (p2 := q2.toInt) (lo := 0) (hi := 1295999) hn (show i ≤ n by omega) z1.2.1 z1.2.2 z2.2.1 z2.2.2
    have k1 : z_ck (H l) (V l) p.toInt q.toInt p2.toInt q2.toInt n i < 2130 * (H l * V l) + 2 := z_kp_lt g.2 hl _ (by omega)
    have k2 : z_ck (H l) (V l) p.toInt q.toInt p2.toInt q2.toInt n (i - 1) < 2130 * (H l * V l) + 2 := by
      have b3 := z_pt_in (p := q.toInt) (p2 := q2.toInt) (lo := 0) (hi := 1295999) hn (show i - 1 ≤ n by omega) z1.2.1 z1.2.2 z2.2.1 z2.2.2
      exact z_kp_lt g.2 hl _ (by omega)
    unfold f_X_changes_L58
    rw [if_neg (by rw [nI_ltI (by omega) (by omega)]; omega), ev, q_b1_s, z_nm, ew, q_b1_s, z_nm, k_keyP g hl (by rw [hv]; omega) (by rw [hv]; omega) (by rw [hw]; omega) (by rw [hw]; omega), q_b1_s, hv, hw]
    refine Ok.j1 ?_
    have fold : z_kp (H l) (V l) (z_pt p.toInt p2.toInt n i) (z_pt q.toInt q2.toInt n i).toNat = z_ck (H l) (V l) p.toInt q.toInt p2.toInt q2.toInt n i := rfl
    rw [fold]
    have I := ih f (i + 1)
    rw [Nat.add_sub_cancel] at I
    unfold z_cc
    by_cases e : z_ck (H l) (V l) p.toInt q.toInt p2.toInt q2.toInt n i = z_ck (H l) (V l) p.toInt q.toInt p2.toInt q2.toInt n (i - 1)
    · rw [if_pos (by rw [e]), if_pos e, Nat.zero_add]
      dsimp only
      rw [nI_1, z_nm]
      exact I c (by omega) (by omega) (by omega) (by omega)
    · rw [if_neg (by rw [nI_eq (by omega) (by omega)]; exact e), if_neg e, ← Nat.add_assoc]
      dsimp only
      rw [nI_1, z_nm, nI_1, z_nm]
      exact I (c + 1) (by omega) (by omega) (by omega) (by omega)
theorem r_m_changes_L (g : MOK R C H V cr cq dp wd za) (hl : l < 5) {p q p2 q2 : Int32} (z1 : z_plV p q) (z2 : z_plV p2 q2) {n : Nat} (hn : 1 ≤ n) (hn2 : n ≤ 200) : ∀ m f i c, m < f → i + m = n + 1 → 1 ≤ i → c + m ≤ 400 → Ok (f_M_changes_L56 dp wd za p q p2 q2 (nI n) (nI l) f (nI c) (nI (z_ck (H l) (V l) p.toInt q.toInt p2.toInt q2.toInt n (i - 1))) (nI i)) (fun x => x = nI (c + z_cc (z_ck (H l) (V l) p.toInt q.toInt p2.toInt q2.toInt n) i m)) := by
  have hs := g.2.2.sh hl
  intro m
  induction m with
  | zero =>
    intro f i c hf hi h1 hc
    obtain ⟨f, rfl⟩ : ∃ k, f = k + 1 := ⟨f - 1, by omega⟩
    unfold f_M_changes_L56
    rw [if_pos (by rw [nI_ltI (by omega) (by omega)]; omega)]
    exact Ok.ret rfl
  | succ m ih =>
    intro f i c hf hi h1 hc
    obtain ⟨f, rfl⟩ : ∃ k, f = k + 1 := ⟨f - 1, by omega⟩
    obtain ⟨v, ev, hv⟩ := z_ptM (p := p) (p2 := p2) (n := n) (i := i) hn hn2 (by omega) (by have := z1.1; omega) (by have := z1.1; omega) (by have := z2.1; omega) (by have := z2.1; omega)
    obtain ⟨w, ew, hw⟩ := z_ptM (p := q) (p2 := q2) (n := n) (i := i) hn hn2 (by omega) (by have := z1.2; omega) (by have := z1.2; omega) (by have := z2.2; omega) (by have := z2.2; omega)
    have b1 := z_pt_in (p := p.toInt) (p2 := p2.toInt) (lo := -324000) (hi := 324000) hn (show i ≤ n by omega) z1.1.1 z1.1.2 z2.1.1 z2.1.2
    have b2 := z_pt_in (p := q.toInt) (p2 := q2.toInt) (lo := 0) (hi := 1295999) hn (show i ≤ n by omega) z1.2.1 z1.2.2 z2.2.1 z2.2.2
    have k1 : z_ck (H l) (V l) p.toInt q.toInt p2.toInt q2.toInt n i < 2130 * (H l * V l) + 2 := z_kp_lt g.2.2 hl _ (by omega)
    have k2 : z_ck (H l) (V l) p.toInt q.toInt p2.toInt q2.toInt n (i - 1) < 2130 * (H l * V l) + 2 := by
      have b3 := z_pt_in (p := q.toInt) (p2 := q2.toInt) (lo := 0) (hi := 1295999) hn (show i - 1 ≤ n by omega) z1.2.1 z1.2.2 z2.2.1 z2.2.2
      exact z_kp_lt g.2.2 hl _ (by omega)
    unfold f_M_changes_L56
    rw [if_neg (by rw [nI_ltI (by omega) (by omega)]; omega), ev, q_b1_s, z_nm, ew, q_b1_s, z_nm, m_keyP g hl (by rw [hw]; omega) (by rw [hw]; omega), q_b1_s, hv, hw]
    refine Ok.j1 ?_
    have fold : z_kp (H l) (V l) (z_pt p.toInt p2.toInt n i) (z_pt q.toInt q2.toInt n i).toNat = z_ck (H l) (V l) p.toInt q.toInt p2.toInt q2.toInt n i := rfl
    rw [fold]
    have I := ih f (i + 1)
    rw [Nat.add_sub_cancel] at I
    unfold z_cc
    by_cases e : z_ck (H l) (V l) p.toInt q.toInt p2.toInt q2.toInt n i = z_ck (H l) (V l) p.toInt q.toInt p2.toInt q2.toInt n (i - 1)
    · rw [if_pos (by rw [e]), if_pos e, Nat.zero_add]
      dsimp only
      rw [show nI c + 0 = nI c from nI_add c 0, z_nm, nI_1, z_nm]
      exact I c (by omega) (by omega) (by omega) (by omega)
    · rw [if_neg (by rw [nI_eq (by omega) (by omega)]; exact e), if_neg e, ← Nat.add_assoc]
      dsimp only
      rw [nI_1, z_nm, nI_1, z_nm]
      exact I (c + 1) (by omega) (by omega) (by omega) (by omega)
def l_Cchanges (p q p2 q2 n w : Int32) : Prop := z_plV p q ∧ z_plV p2 q2 ∧ (1 ≤ n.toInt ∧ n.toInt ≤ 200) ∧ (0 ≤ w.toInt ∧ w.toInt ≤ 4)
def l_Fchanges (sv : l_T) (p q p2 q2 n : Int32) (l : Nat) : Int32 := nI (z_cc (z_ck (z_pr (l_R sv) l) (z_pr (l_C sv) l) p.toInt q.toInt p2.toInt q2.toInt n.toInt.toNat) 1 n.toInt.toNat)
def l_achanges (sv : l_T) (p q p2 q2 n w r : Int32) : Prop := l_rel (l_Cchanges p q p2 q2 n w) (-1) (l_Sl w) (l_Fchanges sv p q p2 q2 n) r
theorem l_achanges_one {p q p2 q2 n w r r' : Int32} (_ : l_ok sv) (h1 : l_achanges sv p q p2 q2 n w r) (h2 : l_achanges sv p q p2 q2 n w r') : r = r' := l_rel_one l_Sl_one h1 h2
theorem z_ck0 {H0 V0 : Nat} {p q p2 q2 : Int} {n : Nat} : z_ck H0 V0 p q p2 q2 n 0 = z_kp H0 V0 p q.toNat := by
  unfold z_ck z_pt
  rw [show ((0 : Nat) : Int) = 0 from rfl, Int.mul_zero, Int.mul_zero, Int.zero_ediv, Int.add_zero, Int.add_zero]
theorem a_x_changes (g : GOK (l_R sv) (l_C sv) (z_pr (l_R sv)) (z_pr (l_C sv)) rc cc br zc rw sh) (hN : 1000000 ≤ N) (p q p2 q2 n w : Int32) : Ok (f_X_changes N br zc rw sh p q p2 q2 n w) (fun x => l_achanges sv p q p2 q2 n w x) := by
  unfold f_X_changes
  refine Ok.b1 (r_isPlaceX p q) (fun v1 h1 => ?_)
  rcases h1 with ⟨z1, rfl⟩ | ⟨z, rfl⟩
  rotate_left
  · exact Ok.ite (fun _ => Ok.ret (l_relN (fun u => z u.1))) (fun c => absurd rfl c)
  refine Ok.ite (fun c => absurd c (by decide)) (fun _ => Ok.b1 (r_isPlaceX p2 q2) (fun v1 h1 => ?_))
  rcases h1 with ⟨z2, rfl⟩ | ⟨z, rfl⟩
  rotate_left
  · exact Ok.ite (fun _ => Ok.ret (l_relN (fun u => z u.2.1))) (fun c => absurd rfl c)
  refine Ok.ite (fun c => absurd c (by decide)) (fun _ => Ok.b1 (s_isFrom n 1 200) (fun v3 h3 => ?_))
  rw [show (1 : Int32).toInt = 1 from rfl, show (200 : Int32).toInt = 200 from rfl] at h3
  refine Ok.ite (fun c => Ok.ret (l_relN (fun u => z_if0 h3 c u.2.2.1))) (fun c => ?_)
  have hn := z_if1 h3 c
  refine Ok.b1 (r_isLevel w) (fun v2 h2 => Ok.ite (fun c => Ok.ret (l_relN (fun u => z_if0 h2 c u.2.2.2))) (fun c => ?_))
  have hv := z_if1 h2 c
  obtain ⟨l, hl, rfl⟩ := t_level hv
  obtain ⟨j, -, rfl, hjj⟩ := z_nat (r := n) (by omega)
  have I := r_x_changes_L g hl z1 z2 (n := j) (by omega) (by omega) j N 1 0 (by omega) (by omega) (by omega) (by omega)
  rw [show 1 - 1 = 0 from rfl, z_ck0] at I
  rw [z_nm, k_keyP g hl z1.1.1 z1.1.2 z1.2.1 (by have := z1.2.2; omega), q_b1_s, z_nm]
  refine Ok.b1 I (fun v h => Ok.ret (l_relY ⟨z1, z2, hn, hv⟩ ⟨hl, rfl⟩ ?_))
  rw [h, Nat.zero_add]
  unfold l_Fchanges
  rw [hjj]
  rfl
theorem a_m_changes (g : MOK (l_R sv) (l_C sv) (z_pr (l_R sv)) (z_pr (l_C sv)) cr cq dp wd za) (hN : 1000000 ≤ N) (p q p2 q2 n w : Int32) : Ok (f_M_changes N dp wd za p q p2 q2 n w) (fun x => l_achanges sv p q p2 q2 n w x) := by
  unfold f_M_changes
  refine Ok.b1 (r_isPlaceM p q) (fun v1 h1 => ?_)
  rcases h1 with ⟨z1, rfl⟩ | ⟨z, rfl⟩
  rotate_left
  · exact Ok.ite (fun _ => Ok.ret (l_relN (fun u => z u.1))) (fun c => absurd rfl c)
  refine Ok.ite (fun c => absurd c (by decide)) (fun _ => Ok.b1 (r_isPlaceM p2 q2) (fun v1 h1 => ?_))
  rcases h1 with ⟨z2, rfl⟩ | ⟨z, rfl⟩
  rotate_left
  · exact Ok.ite (fun _ => Ok.ret (l_relN (fun u => z u.2.1))) (fun c => absurd rfl c)
  refine Ok.ite (fun c => absurd c (by decide)) (fun _ => Ok.b1 (t_in _ _ _) (fun v3 h3 => ?_))
  rw [z_toL, show (1 : Int64).toInt = 1 from rfl, show (200 : Int64).toInt = 200 from rfl] at h3
  refine Ok.ite (fun c => Ok.ret (l_relN (fun u => z_if0 h3 c u.2.2.1))) (fun c => ?_)
  have hn := z_if1 h3 c
  refine Ok.b1 (t_isLevel w) (fun v2 h2 => Ok.ite (fun c => Ok.ret (l_relN (fun u => z_if0 h2 c u.2.2.2))) (fun c => ?_))
  have hv := z_if1 h2 c
  obtain ⟨l, hl, rfl⟩ := t_level hv
  obtain ⟨j, -, rfl, hjj⟩ := z_nat (r := n) (by omega)
  have I := r_m_changes_L g hl z1 z2 (n := j) (by omega) (by omega) j N 1 0 (by omega) (by omega) (by omega) (by omega)
  rw [show 1 - 1 = 0 from rfl, z_ck0] at I
  rw [z_nm, m_keyP g hl z1.2.1 (by have := z1.2.2; omega), q_b1_s, z_nm]
  refine Ok.b1 I (fun v h => Ok.ret (l_relY ⟨z1, z2, hn, hv⟩ ⟨hl, rfl⟩ ?_))
  rw [h, Nat.zero_add]
  unfold l_Fchanges
  rw [hjj]
  rfl
end S9A
end
section
/-! answers: drawn -/
section S10A
variable {R C H V : Nat → Nat} {rc cc br zc rw sh cr cq dp wd za : Nat → Int32} {sv : l_T} {N l t : Nat}
def z_lcg (x : Nat) : Nat := (25173 * x + 13849) % 65536
def z_xs (x : Nat) : Nat → Nat
  | 0 => x
  | i + 1 => z_lcg (z_xs x i)
theorem z_lcg_lt (x : Nat) : z_lcg x < 65536 := Nat.mod_lt _ (by decide)
theorem z_xs_lt {x : Nat} (h : x < 65536) : ∀ i, z_xs x i < 65536
  | 0 => h
  | _ + 1 => z_lcg_lt _
def z_dlat (a : Nat) : Int32 := nI (a / 4 % 16384 * 39) - 319488
theorem z_dlat_b (a : Nat) : -319488 ≤ (z_dlat a).toInt ∧ (z_dlat a).toInt ≤ 319449 := by
  have h : a / 4 % 16384 < 16384 := Nat.mod_lt _ (by decide)
  have t : (319488 : Int32).toInt = 319488 := rfl
  unfold z_dlat
  rw [fb_subI (by rw [nI_toInt (by omega), t]; omega) (by rw [nI_toInt (by omega), t]; omega), nI_toInt (by omega), t]
  omega
/-- the i-th draw's sheet -/
def z_dk (H0 V0 x i : Nat) : Nat := z_kp H0 V0 (z_dlat (z_xs x (2 * i + 1))).toInt (z_xs x (2 * i + 2) / 4 % 16384 * 79)
theorem z_dk_lt (g : CUT R C H V) (hl : l < 5) (x i : Nat) : z_dk (H l) (V l) x i < 2130 * (H l * V l) + 2 := by
  have h : z_xs x (2 * i + 2) / 4 % 16384 < 16384 := Nat.mod_lt _ (by decide)
  exact z_kp_lt g hl _ (by omega)
def z_mem (D : Nat → Nat) (k : Nat) : Nat → Bool
  | 0 => false
  | m + 1 => z_mem D k m || decide (D m = k)
theorem z_mem_iff {D : Nat → Nat} {k : Nat} : ∀ m, z_mem D k m = true ↔ ∃ j, j < m ∧ D j = k
  | 0 => ⟨fun h => (by cases h), fun ⟨j, h, _⟩ => absurd h (by omega)⟩
  | m + 1 => by
    unfold z_mem
    rw [Bool.or_eq_true, z_mem_iff m, decide_eq_true_eq]
    constructor
    · rintro (⟨j, h, e⟩ | e)
      · exact ⟨j, by omega, e⟩
      · exact ⟨m, by omega, e⟩
    · rintro ⟨j, h, e⟩
      by_cases c : j = m
      · subst c; exact Or.inr e
      · exact Or.inl ⟨j, by omega, e⟩
/-- how many unlike ones are among the first i, and which -/
def z_dS (K : Nat → Nat) : Nat → Nat × (Nat → Nat)
  | 0 => (0, fun _ => 0)
  | i + 1 => if z_mem (z_dS K i).2 (K i) (z_dS K i).1 = true then z_dS K i else ((z_dS K i).1 + 1, fun j => if j = (z_dS K i).1 then K i else (z_dS K i).2 j)
theorem z_dS_y {K : Nat → Nat} {i : Nat} (h : ∃ j, j < (z_dS K i).1 ∧ (z_dS K i).2 j = K i) : z_dS K (i + 1) = z_dS K i := if_pos ((z_mem_iff _).mpr h)
theorem z_dS_n {K : Nat → Nat} {i : Nat} (h : ∀ j, j < (z_dS K i).1 → (z_dS K i).2 j ≠ K i) : z_dS K (i + 1) = ((z_dS K i).1 + 1, fun j => if j = (z_dS K i).1 then K i else (z_dS K i).2 j) := if_neg (fun z => by
  obtain ⟨j, h1, h2⟩ := (z_mem_iff _).mp z
  exact h j h1 h2)
theorem z_dS_le (K : Nat → Nat) : ∀ i, (z_dS K i).1 ≤ i
  | 0 => Nat.le_refl _
  | i + 1 => by
    have h := z_dS_le K i
    by_cases c : z_mem (z_dS K i).2 (K i) (z_dS K i).1 = true
    · rw [show z_dS K (i + 1) = z_dS K i from if_pos c]; omega
    · rw [show z_dS K (i + 1) = _ from if_neg c]
      show (z_dS K i).1 + 1 ≤ i + 1
      omega
theorem z_dS_b {K : Nat → Nat} {b : Nat} (hK : ∀ i, K i < b) : ∀ i j, j < (z_dS K i).1 → (z_dS K i).2 j < b
  | 0, j, h => absurd h (Nat.not_lt_zero _)
  | i + 1, j, h => by
    by_cases c : z_mem (z_dS K i).2 (K i) (z_dS K i).1 = true
    · rw [show z_dS K (i + 1) = z_dS K i from if_pos c] at h ⊢
      exact z_dS_b hK i j h
    · rw [show z_dS K (i + 1) = _ from if_neg c] at h ⊢
      dsimp only at h ⊢
      by_cases e : j = (z_dS K i).1
      · rw [if_pos e]; exact hK i
      · rw [if_neg e]; exact z_dS_b hK i j (by omega)
theorem r_nextDraw {a : Nat} (h : a < 65536) : f_X_nextDraw (nI a) = some (nI (z_lcg a)) := by
  unfold f_X_nextDraw z_lcg
  rw [z_i 25173, pk_mul, z_i 13849, nI_add, pk_andN (by omega) 16 rfl]
theorem r_draw {a : Nat} (h : a < 65536) : f_M_draw (nI a) 16384 = some (nI (z_lcg a / 4 % 16384), nI (z_lcg a)) := by
  have h2 := z_lcg_lt a
  have e : z_lcg a = (25173 * a + 13849) % 65536 := rfl
  unfold f_M_draw
  rw [z_i 25173, pk_mul, z_i 13849, nI_add, z_i 65536, z_rm (by omega) (by omega) (by omega), ← e, z_i 4, z_dv (by omega) (by omega) (by omega), z_i 16384, z_rm (by omega) (by omega) (by omega)]
theorem r_isSeen {D : Nat → Nat} {f : Nat → Int32} {m k : Nat} (hN : 1000000 ≤ N) (hm : m ≤ 200) (hk : k < 2 ^ 31) (hf : ∀ j, j < m → f j = nI (D j) ∧ D j < 2 ^ 31) : Ok (f_X_isSeen N f (nI k) (nI m)) (fun x => ((∃ j, j < m ∧ D j = k) ∧ x = 1) ∨ ((∀ j, j < m → D j ≠ k) ∧ x = 0)) := by
  have S : ∀ n i, i ≤ m → m - i < n → (∀ j, j < i → D j ≠ k) → Ok (f_X_isSeen_L2 (nI k) (nI m) f n (nI i)) (fun x => ((∃ j, j < m ∧ D j = k) ∧ x = .inr 1) ∨ ((∀ j, j < m → D j ≠ k) ∧ x = .inl ())) := by
    intro n
    induction n with
    | zero => intro i h1 h2; omega
    | succ n ih =>
      intro i h1 h2 hj
      rw [f_X_isSeen_L2]
      refine Ok.ite (fun c => ?_) (fun c => ?_)
      all_goals rw [nI_leI (by omega) (by omega)] at c
      · exact Ok.ret (Or.inr ⟨fun j hjm => hj j (by omega), rfl⟩)
      rw [if_neg (show ¬ (200 : Int32) ≤ nI i by rw [z_i 200, nI_leI (by omega) (by omega)]; omega)]
      obtain ⟨e1, e2⟩ := hf i (by omega)
      rw [z_ai (by omega) (by omega), e1]
      refine Ok.ite (fun c2 => ?_) (fun c2 => ?_)
      all_goals rw [nI_eq (by omega) (by omega)] at c2
      · exact Ok.ret (Or.inl ⟨⟨i, by omega, c2⟩, rfl⟩)
      · rw [nI_1, z_nm]
        refine ih (i + 1) (by omega) (by omega) (fun j hj2 => ?_)
        by_cases e : j = i
        · subst e; exact c2
        · exact hj j (by omega)
  unfold f_X_isSeen
  rw [z_nm]
  refine Ok.s0 (S N 0 (by omega) (by omega) (fun j hj => absurd hj (by omega))) (fun h => ?_) (fun r h => ?_)
  · rcases h with ⟨-, h⟩ | ⟨h, -⟩
    · cases h
    · exact Ok.ret (Or.inr ⟨h, rfl⟩)
  · rcases h with ⟨h, e⟩ | ⟨-, e⟩
    · cases e; exact Or.inl ⟨h, rfl⟩
    · cases e
theorem r_x_drawn_L (g : GOK R C H V rc cc br zc rw sh) (hN : 1000000 ≤ N) (hl : l < 5) {x n : Nat} (hx : x < 65536) (hn : n ≤ 200) : ∀ u i f, i ≤ n → n - i < u → (∀ j, j < (z_dS (z_dk (H l) (V l) x) i).1 → f j = nI ((z_dS (z_dk (H l) (V l) x) i).2 j)) → Ok (f_X_drawn_L33 N br rw sh zc (nI n) (nI l) u (nI (z_xs x (2 * i))) (nI (z_dS (z_dk (H l) (V l) x) i).1) (nI i) f) (fun y => y.1 = nI (z_dS (z_dk (H l) (V l) x) n).1) := by
  have hs := g.2.sh hl
  have hb : ∀ i, z_dk (H l) (V l) x i < 2130 * (H l * V l) + 2 := fun i => z_dk_lt g.2 hl x i
  intro u
  induction u with
  | zero => intro i f h1 h2; omega
  | succ u ih =>
    intro i f h1 h2 hf
    have x1 := z_xs_lt hx (2 * i)
    have x2 := z_xs_lt hx (2 * i + 1)
    have x3 := z_xs_lt hx (2 * i + 2)
    have e1 : z_lcg (z_xs x (2 * i)) = z_xs x (2 * i + 1) := rfl
    have e2 : z_lcg (z_xs x (2 * i + 1)) = z_xs x (2 * i + 2) := rfl
    have m3 : z_xs x (2 * i + 2) / 4 % 16384 < 16384 := Nat.mod_lt _ (by decide)
    have hm := z_dS_le (z_dk (H l) (V l) x) i
    have bl := z_dlat_b (z_xs x (2 * i + 1))
    have hk := hb i
    unfold f_X_drawn_L33
    refine Ok.ite (fun c => ?_) (fun c => ?_)
    all_goals rw [nI_leI (by omega) (by omega)] at c
    · have e : i = n := by omega
      subst e
      exact Ok.ret rfl
    have ek : f_Grid_keyOf br zc rw sh (nI l) (nI (z_xs x (2 * i + 1) / 4 % 16384) * 39 - 319488) (nI (z_xs x (2 * i + 2) / 4 % 16384 * 79)) = some (nI (z_dk (H l) (V l) x i)) := by
      rw [z_i 39, pk_mul]
      exact k_keyAtPlace g hl (x := z_dlat (z_xs x (2 * i + 1))) (by omega) (by omega) (by omega)
    rw [r_nextDraw x1, q_b1_s, e1, z_i 4, z_dv (by omega) (by omega) (by omega), z_i 16384, z_rm (by omega) (by omega) (by omega), z_nm, r_nextDraw x2, q_b1_s, e2, z_dv (by omega) (by omega) (by omega), z_rm (by omega) (by omega) (by omega), z_i 79, pk_mul, z_nm, ek, q_b1_s]
    have hf2 : ∀ j, j < (z_dS (z_dk (H l) (V l) x) i).1 → f j = nI ((z_dS (z_dk (H l) (V l) x) i).2 j) ∧ (z_dS (z_dk (H l) (V l) x) i).2 j < 2 ^ 31 := fun j hj => ⟨hf j hj, by have := z_dS_b hb i j hj; omega⟩
    refine Ok.b1 (r_isSeen hN (by omega) (by omega) hf2) (fun v21 h21 => Ok.j2 ?_)
    have e3 : 2 * (i + 1) = 2 * i + 2 := by omega
    rcases h21 with ⟨h, rfl⟩ | ⟨h, rfl⟩
    · have eS := z_dS_y h
      have I := ih (i + 1) f (by omega) (by omega) (by rw [eS]; exact hf)
      rw [eS, e3] at I
      rw [if_neg (show ¬ (1 : Int32) = 0 by decide)]
      dsimp only
      rw [nI_1, z_nm]
      exact I
    · have eS := z_dS_n h
      rw [if_pos (show (0 : Int32) = 0 from rfl), if_neg (show ¬ (200 : Int32) ≤ nI (z_dS (z_dk (H l) (V l) x) i).1 by rw [z_i 200, nI_leI (by omega) (by omega)]; omega), z_as (by omega) (by omega), nI_1, z_nm]
      dsimp only
      rw [nI_1, z_nm]
      have I := ih (i + 1) (upd f (z_dS (z_dk (H l) (V l) x) i).1 (nI (z_dk (H l) (V l) x i))) (by omega) (by omega) (by
        rw [eS]
        intro j hj
        dsimp only at hj ⊢
        by_cases e : j = (z_dS (z_dk (H l) (V l) x) i).1
        · rw [if_pos e, e, z_updS]
        · rw [if_neg e, z_updN e]; exact hf j (by omega))
      rw [eS, e3] at I
      exact I
theorem r_m_isNew {D : Nat → Nat} {f : Nat → Int32} {m k : Nat} (hm : m ≤ 200) (hk : k < 2 ^ 31) (hf : ∀ j, j < m → f j = nI (D j) ∧ D j < 2 ^ 31) : ∀ n i b, i ≤ m → m - i < n → ((∀ j, j < i → D j ≠ k) ∧ b = 1 ∨ (∃ j, j < i ∧ D j = k) ∧ b = 0) → Ok (f_M_drawn_L83 f (nI k) (nI m) n b (nI i)) (fun x => ((∃ j, j < m ∧ D j = k) ∧ x = 0) ∨ ((∀ j, j < m → D j ≠ k) ∧ x = 1)) := by
  intro n
  induction n with
  | zero => intro i b h1 h2; omega
  | succ n ih =>
    intro i b h1 h2 hb
    rw [f_M_drawn_L83]
    refine Ok.ite (fun c => ?_) (fun c => ?_)
    all_goals rw [nI_leI (by omega) (by omega)] at c
    · have e : i = m := by omega
      subst e
      rcases hb with ⟨h, rfl⟩ | ⟨h, rfl⟩
      · exact Ok.ret (Or.inr ⟨h, rfl⟩)
      · exact Ok.ret (Or.inl ⟨h, rfl⟩)
    refine Ok.j1 (Ok.j0 ?_)
    dsimp only
    have him : i < m := by omega
    obtain ⟨e1, e2⟩ := hf i him
    rcases hb with ⟨h, rfl⟩ | ⟨⟨j, hj1, hj2⟩, rfl⟩
    · rw [if_neg (show ¬ (1 : Int32) = 0 by decide), z_ai (by omega) (by omega), e1]
      refine Ok.ite (fun c2 => ?_) (fun c2 => ?_)
      all_goals rw [nI_eq (by omega) (by omega)] at c2
      · rw [nI_1, z_nm]
        exact ih (i + 1) 0 (by omega) (by omega) (Or.inr ⟨⟨i, by omega, c2⟩, rfl⟩)
      · rw [nI_1, z_nm]
        refine ih (i + 1) 1 (by omega) (by omega) (Or.inl ⟨fun j hj => ?_, rfl⟩)
        by_cases e : j = i
        · subst e; exact c2
        · exact h j (by omega)
    · rw [if_pos (show (0 : Int32) = 0 from rfl), nI_1, z_nm]
      exact ih (i + 1) 0 (by omega) (by omega) (Or.inr ⟨⟨j, by omega, hj2⟩, rfl⟩)
theorem r_m_drawn_L (g : MOK R C H V cr cq dp wd za) (hN : 1000000 ≤ N) (hl : l < 5) {x n : Nat} (hx : x < 65536) (hn : n ≤ 200) : ∀ u i f, i ≤ n → n - i < u → (∀ j, j < (z_dS (z_dk (H l) (V l) x) i).1 → f j = nI ((z_dS (z_dk (H l) (V l) x) i).2 j)) → Ok (f_M_drawn_L36 N dp wd za (nI n) (nI l) u (nI (z_dS (z_dk (H l) (V l) x) i).1) (nI i) (nI (z_xs x (2 * i))) f) (fun y => y.1 = nI (z_dS (z_dk (H l) (V l) x) n).1) := by
  have hs := g.2.2.sh hl
  have hb : ∀ i, z_dk (H l) (V l) x i < 2130 * (H l * V l) + 2 := fun i => z_dk_lt g.2.2 hl x i
  intro u
  induction u with
  | zero => intro i f h1 h2; omega
  | succ u ih =>
    intro i f h1 h2 hf
    have x1 := z_xs_lt hx (2 * i)
    have x2 := z_xs_lt hx (2 * i + 1)
    have x3 := z_xs_lt hx (2 * i + 2)
    have e1 : z_lcg (z_xs x (2 * i)) = z_xs x (2 * i + 1) := rfl
    have e2 : z_lcg (z_xs x (2 * i + 1)) = z_xs x (2 * i + 2) := rfl
    have m3 : z_xs x (2 * i + 2) / 4 % 16384 < 16384 := Nat.mod_lt _ (by decide)
    have hm := z_dS_le (z_dk (H l) (V l) x) i
    have hk := hb i
    unfold f_M_drawn_L36
    refine Ok.ite (fun c => ?_) (fun c => ?_)
    all_goals rw [nI_leI (by omega) (by omega)] at c
    · have e : i = n := by omega
      subst e
      exact Ok.ret rfl
    have ek : f_M_keyAtPlace dp wd za (nI (z_xs x (2 * i + 1) / 4 % 16384) * 39 - 319488) (nI (z_xs x (2 * i + 2) / 4 % 16384) * 79) (nI l) = some (nI (z_dk (H l) (V l) x i)) := by
      rw [z_i 39, pk_mul, z_i 79, pk_mul]
      exact m_keyAtPlace g hl (z_dlat (z_xs x (2 * i + 1))) (by omega)
    rw [r_draw x1, q_b2_s, e1, z_nm, r_draw x2, q_b2_s, e2, ek, q_b1_s, z_nm, z_nm]
    have hf2 : ∀ j, j < (z_dS (z_dk (H l) (V l) x) i).1 → f j = nI ((z_dS (z_dk (H l) (V l) x) i).2 j) ∧ (z_dS (z_dk (H l) (V l) x) i).2 j < 2 ^ 31 := fun j hj => ⟨hf j hj, by have := z_dS_b hb i j hj; omega⟩
    have e3 : 2 * (i + 1) = 2 * i + 2 := by omega
    refine Ok.b1 (r_m_isNew (k := z_dk (H l) (V l) x i) (by omega) (by omega) hf2 N 0 1 (by omega) (by omega) (Or.inl ⟨fun j hj => absurd hj (by omega), rfl⟩)) (fun v23 h23 => ?_)
    rw [z_as (by omega) (by omega)]
    refine Ok.j1 ?_
    rcases h23 with ⟨h, rfl⟩ | ⟨h, rfl⟩
    · have eS := z_dS_y h
      have I := ih (i + 1) (upd f (z_dS (z_dk (H l) (V l) x) i).1 (nI (z_dk (H l) (V l) x i))) (by omega) (by omega) (by
        rw [eS]
        intro j hj
        rw [z_updN (by omega)]; exact hf j hj)
      rw [eS, e3] at I
      rw [if_pos (show (0 : Int32) = 0 from rfl)]
      dsimp only
      rw [show nI (z_dS (z_dk (H l) (V l) x) i).1 + 0 = nI (z_dS (z_dk (H l) (V l) x) i).1 from nI_add _ 0, z_nm, nI_1, z_nm]
      exact I
    · have eS := z_dS_n h
      rw [if_neg (show ¬ (1 : Int32) = 0 by decide)]
      dsimp only
      rw [nI_1, z_nm, nI_1, z_nm]
      have I := ih (i + 1) (upd f (z_dS (z_dk (H l) (V l) x) i).1 (nI (z_dk (H l) (V l) x i))) (by omega) (by omega) (by
        rw [eS]
        intro j hj
        dsimp only at hj ⊢
        by_cases e : j = (z_dS (z_dk (H l) (V l) x) i).1
        · rw [if_pos e, e, z_updS]
        · rw [if_neg e, z_updN e]; exact hf j (by omega))
      rw [eS, e3] at I
      exact I
def l_Cdrawn (n w : Int32) : Prop := (1 ≤ n.toInt ∧ n.toInt ≤ 200) ∧ (0 ≤ w.toInt ∧ w.toInt ≤ 4)
def l_Sdrawn (p w : Int32) (s : Nat × Nat) : Prop := l_Sl w s.1 ∧ s.2 < 65536 ∧ p &&& 65535 = nI s.2
def l_Fdrawn (sv : l_T) (n : Int32) (s : Nat × Nat) : Int32 := nI (z_dS (z_dk (z_pr (l_R sv) s.1) (z_pr (l_C sv) s.1) s.2) n.toInt.toNat).1
def l_adrawn (sv : l_T) (p n w r : Int32) : Prop := l_rel (l_Cdrawn n w) (-1) (l_Sdrawn p w) (l_Fdrawn sv n) r
theorem l_adrawn_one {p n w r r' : Int32} (_ : l_ok sv) (h1 : l_adrawn sv p n w r) (h2 : l_adrawn sv p n w r') : r = r' := by
  refine l_rel_one ?_ h1 h2
  intro ⟨l, x⟩ ⟨l', x'⟩ ⟨a, b, c⟩ ⟨a', b', c'⟩
  have e1 := l_Sl_one l l' a a'
  dsimp only at b b' c c'
  rw [c, nI_eq (by omega) (by omega)] at c'
  rw [e1, c']
theorem a_x_drawn (g : GOK (l_R sv) (l_C sv) (z_pr (l_R sv)) (z_pr (l_C sv)) rc cc br zc rw sh) (hN : 1000000 ≤ N) (f : Nat → Int32) (p n w : Int32) : Ok (f_X_drawn N f br zc rw sh p n w) (fun x => l_adrawn sv p n w x.1) := by
  unfold f_X_drawn
  refine Ok.b1 (s_isFrom n 1 200) (fun v3 h3 => ?_)
  rw [show (1 : Int32).toInt = 1 from rfl, show (200 : Int32).toInt = 200 from rfl] at h3
  refine Ok.ite (fun c => Ok.ret (l_relN (fun u => z_if0 h3 c u.1))) (fun c => ?_)
  have hn := z_if1 h3 c
  refine Ok.b1 (r_isLevel w) (fun v2 h2 => Ok.ite (fun c => Ok.ret (l_relN (fun u => z_if0 h2 c u.2))) (fun c => ?_))
  have hv := z_if1 h2 c
  obtain ⟨l, hl, rfl⟩ := t_level hv
  obtain ⟨j, -, rfl, hjj⟩ := z_nat (r := n) (by omega)
  obtain ⟨x, hx, ex⟩ := pk_andE p (m := 65535) 16 rfl
  have I := r_x_drawn_L g hN hl (x := x) (n := j) hx (by omega) N 0 f (by omega) (by omega) (fun j hj => absurd hj (Nat.not_lt_zero _))
  rw [z_nm, z_nm, z_nm, ex]
  refine Ok.b2 I (fun v10 f11 h => Ok.ret (l_relY ⟨hn, hv⟩ (s := (l, x)) ⟨⟨hl, rfl⟩, hx, ex⟩ ?_))
  dsimp only at h
  rw [h]
  unfold l_Fdrawn
  rw [hjj]
  rfl
theorem a_m_drawn (g : MOK (l_R sv) (l_C sv) (z_pr (l_R sv)) (z_pr (l_C sv)) cr cq dp wd za) (hN : 1000000 ≤ N) (dn : Int32) (f : Nat → Int32) (p n w : Int32) : Ok (f_M_drawn N dp wd za dn f p n w) (fun x => l_adrawn sv p n w x.1) := by
  unfold f_M_drawn
  refine Ok.b1 (t_in _ _ _) (fun v3 h3 => ?_)
  rw [z_toL, show (1 : Int64).toInt = 1 from rfl, show (200 : Int64).toInt = 200 from rfl] at h3
  refine Ok.ite (fun c => Ok.ret (l_relN (fun u => z_if0 h3 c u.1))) (fun c => ?_)
  have hn := z_if1 h3 c
  refine Ok.b1 (t_isLevel w) (fun v2 h2 => Ok.ite (fun c => Ok.ret (l_relN (fun u => z_if0 h2 c u.2))) (fun c => ?_))
  have hv := z_if1 h2 c
  obtain ⟨l, hl, rfl⟩ := t_level hv
  obtain ⟨j, -, rfl, hjj⟩ := z_nat (r := n) (by omega)
  obtain ⟨x, hx, ex⟩ := pk_andE p (m := 65535) 16 rfl
  have I := r_m_drawn_L g hN hl (x := x) (n := j) hx (by omega) N 0 f (by omega) (by omega) (fun j hj => absurd hj (Nat.not_lt_zero _))
  rw [z_nm, z_nm, z_nm, ex]
  refine Ok.b3 I (fun v10 v11 f12 h => Ok.ret (l_relY ⟨hn, hv⟩ (s := (l, x)) ⟨⟨hl, rfl⟩, hx, ex⟩ ?_))
  dsimp only at h
  rw [h]
  unfold l_Fdrawn
  rw [hjj]
  rfl
end S10A
end
