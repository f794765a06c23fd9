section
/-! the worlds of the law: the class's cells, the reference's, the kept atlases' -/
/-- the state that both sides hold: cuts, pieces -/
def l_T : Type := (Nat → Nat) × (Nat → Nat) × Nat × (Nat → Nat) × (Nat → Nat) × (Nat → Int32)
def l_R (sv : l_T) : Nat → Nat := sv.1
def l_C (sv : l_T) : Nat → Nat := sv.2.1
def l_m (sv : l_T) : Nat := sv.2.2.1
def l_L (sv : l_T) : Nat → Nat := sv.2.2.2.1
def l_K (sv : l_T) : Nat → Nat := sv.2.2.2.2.1
def l_Y (sv : l_T) : Nat → Int32 := sv.2.2.2.2.2
def l_mk (R C : Nat → Nat) (m : Nat) (L K : Nat → Nat) (Y : Nat → Int32) : l_T := (R, C, m, L, K, Y)
def l_sX (sv : l_T) (sz : Int32) (fl fk fy : Nat → Int32) : Prop := sz = nI (l_m sv) ∧ z_pc (z_pr (l_R sv)) (z_pr (l_C sv)) (l_m sv) (l_L sv) (l_K sv) ∧ z_rp (l_m sv) (l_L sv) (l_K sv) (l_Y sv) fl fk fy ∧ z_yr (l_m sv) (l_Y sv)
theorem z_st_of {H V : Nat → Nat} {m : Nat} {L K : Nat → Nat} {Y : Nat → Int32} {fl fk fy : Nat → Int32} (h : z_pc H V m L K) (hr : z_rp m L K Y fl fk fy) : z_st fl m := ⟨h.1, fun j hj => ⟨L j, (h.2.1 j hj).1, (hr j hj).1⟩⟩
theorem z_ps_of {H V : Nat → Nat} {m : Nat} {L K : Nat → Nat} {Y : Nat → Int32} {fl fk fy : Nat → Int32} (h : z_pc H V m L K) (hr : z_rp m L K Y fl fk fy) : z_ps H V fl fk m := ⟨h.1, fun i hi => ⟨L i, K i, (h.2.1 i hi).1, (hr i hi).1, (hr i hi).2.1, (h.2.1 i hi).2⟩⟩
def l_ok (sv : l_T) : Prop := CUT (l_R sv) (l_C sv) (z_pr (l_R sv)) (z_pr (l_C sv)) ∧ z_pc (z_pr (l_R sv)) (z_pr (l_C sv)) (l_m sv) (l_L sv) (l_K sv)
/-- what the five methods that change it do with it -/
def l_tcut (sv : l_T) (p q w r : Int32) (s2 : l_T) : Prop := ∃ R2 C2, z_cutR (l_R sv) (l_C sv) (l_m sv) p q w r R2 C2 ∧ s2 = l_mk R2 C2 (l_m sv) (l_L sv) (l_K sv) (l_Y sv)
def l_tstore (sv : l_T) (p q w r : Int32) (s2 : l_T) : Prop := ∃ m2 L2 K2 Y2, z_storeR (z_pr (l_R sv)) (z_pr (l_C sv)) (l_m sv) (l_L sv) (l_K sv) (l_Y sv) p q w r m2 L2 K2 Y2 ∧ s2 = l_mk (l_R sv) (l_C sv) m2 L2 K2 Y2
def l_tdrop (sv : l_T) (p q r : Int32) (s2 : l_T) : Prop := ∃ m2 L2 K2 Y2, z_dropR (z_pr (l_R sv)) (z_pr (l_C sv)) (l_m sv) (l_L sv) (l_K sv) (l_Y sv) p q r m2 L2 K2 Y2 ∧ s2 = l_mk (l_R sv) (l_C sv) m2 L2 K2 Y2
def l_trenew (sv : l_T) (p q r : Int32) (s2 : l_T) : Prop := ∃ Y2, z_renewR (l_m sv) (l_L sv) (l_Y sv) p q r Y2 ∧ s2 = l_mk (l_R sv) (l_C sv) (l_m sv) (l_L sv) (l_K sv) Y2
def l_ttidy (sv : l_T) (r : Int32) (s2 : l_T) : Prop := ∃ n2 m2 L2 K2 Y2, z_tdT (z_pr (l_R sv)) (z_pr (l_C sv)) (l_m sv) (l_m sv) (l_L sv) (l_K sv) (l_Y sv) 0 n2 m2 L2 K2 Y2 ∧ r = nI n2 ∧ s2 = l_mk (l_R sv) (l_C sv) m2 L2 K2 Y2
theorem l_tcut_one {sv s2 s3 : l_T} {p q w r r' : Int32} (_ : l_ok sv) (h1 : l_tcut sv p q w r s2) (h2 : l_tcut sv p q w r' s3) : r = r' ∧ s2 = s3 := by
  obtain ⟨R2, C2, h1, rfl⟩ := h1
  obtain ⟨R3, C3, h2, rfl⟩ := h2
  obtain ⟨a, b, c⟩ := z_cutR_one h1 h2
  exact ⟨a, by rw [b, c]⟩
theorem l_tstore_one {sv s2 s3 : l_T} {p q w r r' : Int32} (h : l_ok sv) (h1 : l_tstore sv p q w r s2) (h2 : l_tstore sv p q w r' s3) : r = r' ∧ s2 = s3 := by
  obtain ⟨m2, L2, K2, Y2, h1, rfl⟩ := h1
  obtain ⟨m3, L3, K3, Y3, h2, rfl⟩ := h2
  obtain ⟨a, b, c, d, e⟩ := z_storeR_one h.1 h.2 h1 h2
  exact ⟨a, by rw [b, c, d, e]⟩
theorem l_tdrop_one {sv s2 s3 : l_T} {p q r r' : Int32} (h : l_ok sv) (h1 : l_tdrop sv p q r s2) (h2 : l_tdrop sv p q r' s3) : r = r' ∧ s2 = s3 := by
  obtain ⟨m2, L2, K2, Y2, h1, rfl⟩ := h1
  obtain ⟨m3, L3, K3, Y3, h2, rfl⟩ := h2
  obtain ⟨a, b, c, d, e⟩ := z_dropR_one h.1 h.2 h1 h2
  exact ⟨a, by rw [b, c, d, e]⟩
theorem l_trenew_one {sv s2 s3 : l_T} {p q r r' : Int32} (_ : l_ok sv) (h1 : l_trenew sv p q r s2) (h2 : l_trenew sv p q r' s3) : r = r' ∧ s2 = s3 := by
  obtain ⟨Y2, h1, rfl⟩ := h1
  obtain ⟨Y3, h2, rfl⟩ := h2
  obtain ⟨a, b⟩ := z_renewR_one h1 h2
  exact ⟨a, by rw [b]⟩
theorem l_ttidy_one {sv s2 s3 : l_T} {r r' : Int32} (_ : l_ok sv) (h1 : l_ttidy sv r s2) (h2 : l_ttidy sv r' s3) : r = r' ∧ s2 = s3 := by
  obtain ⟨n2, m2, L2, K2, Y2, h1, rfl, rfl⟩ := h1
  obtain ⟨n3, m3, L3, K3, Y3, h2, rfl, rfl⟩ := h2
  obtain ⟨a, b, c, d, e⟩ := z_tdT_one _ _ _ _ _ _ _ _ _ _ _ _ _ _ _ _ h1 h2
  exact ⟨by rw [a], by rw [b, c, d, e]⟩
theorem z_cutR_pc {R C R2 C2 : Nat → Nat} {m : Nat} {L K : Nat → Nat} {p q w r : Int32} (h : z_pc (z_pr R) (z_pr C) m L K) (hq : z_cutR R C m p q w r R2 C2) : z_pc (z_pr R2) (z_pr C2) m L K := by
  by_cases h0 : m = 0
  · subst h0
    exact ⟨by omega, fun i hi => absurd hi (by omega), fun i j _ hj => absurd hj (by omega)⟩
  · rcases hq with ⟨-, -, rfl, rfl⟩ | ⟨-, -, -, rfl, rfl⟩ | ⟨v, y, z, -, a, -⟩
    · exact h
    · exact h
    · exact absurd a h0
/-- the states kept behind keep; the state behind undo -/
def l_kc (s : Nat) (sv : l_T) (kv : Nat → l_T) : Nat → l_T := if s = 8 then kv else fun j => if j = s then sv else kv j
def l_uc (sv : l_T) (kv : Nat → l_T) : Nat → l_T
  | 0 => sv
  | k + 1 => kv k
theorem l_kc8 {sv : l_T} {kv : Nat → l_T} : l_kc 8 sv kv = kv := if_pos rfl
theorem l_kcS {s : Nat} {sv : l_T} {kv : Nat → l_T} (h : ¬ s = 8) : l_kc s sv kv s = sv := by unfold l_kc; rw [if_neg h, if_pos rfl]
theorem l_kcN {s j : Nat} {sv : l_T} {kv : Nat → l_T} (h : ¬ s = 8) (e : ¬ j = s) : l_kc s sv kv j = kv j := by unfold l_kc; rw [if_neg h, if_neg e]
def l_sv0 : l_T := l_mk z_R1 z_R1 0 (fun _ => 0) (fun _ => 0) (fun _ => 0)
theorem l_sv0X : l_sX l_sv0 0 (fun _ => 0) (fun _ => 0) (fun _ => 0) := ⟨rfl, ⟨Nat.zero_le _, fun i hi => absurd hi (Nat.not_lt_zero _), fun i j _ hj => absurd hj (Nat.not_lt_zero _)⟩, fun i hi => absurd hi (Nat.not_lt_zero _), fun i hi => absurd hi (Nat.not_lt_zero _)⟩
def lX_at (ci : Nat → ClassId) (a : Nat → Nat) (u : Nat → Int32) (f : Nat → Nat → Int32) : va_W := [((a 0), .inr (0, [.ref (a 6), .ref (a 1), .int (u 0), .int (u 1), .int (u 2), .int (u 3)])), ((a 1), .inr (7, [.ref (a 6), .ref (a 2), .ref (a 3), .ref (a 4), .ref (a 5), .int (u 4), .int (u 5), .int (u 6), .int (u 7)])), ((a 2), .inl (ci 0, 60, .inl (f 0))), ((a 3), .inl (ci 0, 60, .inl (f 1))), ((a 4), .inl (ci 0, 60, .inl (f 2))), ((a 6), .inr (2, [.ref (a 7), .ref (a 8), .ref (a 9), .ref (a 10), .ref (a 11), .ref (a 12)])), ((a 7), .inl (ci 0, 5, .inl (f 3))), ((a 8), .inl (ci 0, 5, .inl (f 4))), ((a 9), .inl (ci 0, 5, .inl (f 5))), ((a 10), .inl (ci 0, 5, .inl (f 6))), ((a 11), .inl (ci 0, 5, .inl (f 7))), ((a 12), .inl (ci 0, 5, .inl (f 8)))]
def lX_ka (ci : Nat → ClassId) (ka : Nat → Nat → Nat) (ku : Nat → Nat → Int32) (kf : Nat → Nat → Nat → Int32) : va_W := lX_at ci (ka 0) (ku 0) (kf 0) ++ (lX_at ci (ka 1) (ku 1) (kf 1) ++ (lX_at ci (ka 2) (ku 2) (kf 2) ++ (lX_at ci (ka 3) (ku 3) (kf 3) ++ (lX_at ci (ka 4) (ku 4) (kf 4) ++ (lX_at ci (ka 5) (ku 5) (kf 5) ++ (lX_at ci (ka 6) (ku 6) (kf 6) ++ (lX_at ci (ka 7) (ku 7) (kf 7))))))))
def l_up {α : Type} (f : Nat → α) (k : Nat) (v : α) : Nat → α := fun j => cond (Nat.beq j k) v (f j)
def XW (ci : Nat → ClassId) (a_x n_wk : Nat) (a : Nat → Nat) (u : Nat → Int32) (f : Nat → Nat → Int32) (xk : Nat → Option Nat) (K : va_W) : va_W := (a_x, .inr (10, [.ref (a 0), .ref (a 1), .ref (a 2), .ref (a 3), .int (u 0), .ref (a 4), .ref (a 5), .ref (a 6), .ref (a 7), .ref (a 8), .ref (a 9), .ref (a 10), .ref (a 11), .ref (a 12)])) :: ((a 4), .inr (8, [.ref (a 13), .int (u 1)])) :: ((a 13), .inl (ci 0, 200, .inl (f 0))) :: ((a 2), .inr (7, [.ref (a 1), .ref (a 14), .ref (a 15), .ref (a 16), .ref (a 17), .int (u 2), .int (u 3), .int (u 4), .int (u 5)])) :: ((a 1), .inr (2, [.ref (a 18), .ref (a 19), .ref (a 20), .ref (a 21), .ref (a 22), .ref (a 23)])) :: ((a 18), .inl (ci 0, 5, .inl (f 1))) :: ((a 19), .inl (ci 0, 5, .inl (f 2))) :: ((a 20), .inl (ci 0, 5, .inl (f 3))) :: ((a 21), .inl (ci 0, 5, .inl (f 4))) :: ((a 22), .inl (ci 0, 5, .inl (f 5))) :: ((a 23), .inl (ci 0, 5, .inl (f 6))) :: ((a 7), .inr (6, [.ref (a 1), .ref (a 24), .ref (a 25), .ref (a 26), .int (u 6), .int (u 7), .int (u 8), .int (u 9), .int (u 10), .int (u 11), .int (u 12)])) :: ((a 10), .inr (4, [.ref (a 27), .int (u 13)])) :: ((a 27), .inl (ci 0, 40, .inl (f 7))) :: ((a 5), .inr (3, [.ref (a 1), .ref (a 4), .int (u 14), .int (u 15), .int (u 16), .int (u 17), .int (u 18), .int (u 19), .int (u 20)])) :: ((a 0), .inr (0, [.ref (a 1), .ref (a 2), .int (u 21), .int (u 22), .int (u 23), .int (u 24)])) :: ((a 24), .inl (ci 0, 4, .inl (f 8))) :: ((a 25), .inl (ci 0, 4, .inl (f 9))) :: ((a 8), .inr (9, [.ref (a 28), .ref (a 29), .ref (a 30), .int (u 25)])) :: ((a 29), .inl (ci 0, n_wk, .inl (f 10))) :: ((a 30), .inl (ci 0, n_wk, .inl (f 11))) :: ((a 28), .inr (6, [.ref (a 1), .ref (a 31), .ref (a 32), .ref (a 33), .int (u 26), .int (u 27), .int (u 28), .int (u 29), .int (u 30), .int (u 31), .int (u 32)])) :: ((a 31), .inl (ci 0, 4, .inl (f 12))) :: ((a 32), .inl (ci 0, 4, .inl (f 13))) :: ((a 26), .inl (ci 0, 4, .inl (f 14))) :: ((a 9), .inr (1, [.ref (a 1), .int (u 33), .int (u 34), .int (u 35), .int (u 36)])) :: ((a 11), .inr (4, [.ref (a 34), .int (u 37)])) :: ((a 34), .inl (ci 0, 40, .inl (f 15))) :: ((a 6), .inr (5, [.ref (a 5), .ref (a 4), .int (u 38), .int (u 39), .int (u 40), .int (u 41), .int (u 42)])) :: ((a 14), .inl (ci 0, 60, .inl (f 16))) :: ((a 15), .inl (ci 0, 60, .inl (f 17))) :: ((a 16), .inl (ci 0, 60, .inl (f 18))) :: ((a 17), .inl (ci 0, 5, .inl (f 19))) :: ((a 12), .inl (ci 0, 200, .inl (f 20))) :: ((a 3), .inl (ci 3, 8, .inr (.inr (.inr (.inr xk))))) :: K
def MW (ci : Nat → ClassId) (a_m : Nat) (a : Nat → Nat) (u : Nat → Int32) (v : Nat → Int64) (f : Nat → Nat → Int32) (h : Nat → Nat → Int64) : va_W := [(a_m, .inr (11, (.ref (a 0) :: .ref (a 1) :: .ref (a 2) :: .ref (a 3) :: .ref (a 4) :: .ref (a 5) :: .ref (a 6) :: .ref (a 7) :: .int (u 0) :: .int (u 1) :: .int (u 2) :: .int (u 3) :: .int (u 4) :: .int (u 5) :: .int (u 6) :: .int (u 7) :: .int (u 8) :: .int (u 9) :: .long (v 0) :: .long (v 1) :: .ref (a 8) :: .int (u 10) :: .int (u 11) :: .ref (a 9) :: .ref (a 10) :: .int (u 12) :: .int (u 13) :: .int (u 14) :: .int (u 15) :: .int (u 16) :: .int (u 17) :: .int (u 18) :: .int (u 19) :: .int (u 20) :: .ref (a 11) :: .ref (a 12) :: .ref (a 13) :: .int (u 21) :: .ref (a 14) :: .ref (a 15) :: .int (u 22) :: .ref (a 16) :: []))), ((a 7), .inl (ci 2, 200, .inl (f 0))), ((a 0), .inl (ci 0, 5, .inl (f 1))), ((a 1), .inl (ci 0, 5, .inl (f 2))), ((a 2), .inl (ci 0, 5, .inl (f 3))), ((a 3), .inl (ci 0, 5, .inl (f 4))), ((a 4), .inl (ci 0, 45, .inl (f 5))), ((a 5), .inl (ci 0, 20, .inl (f 6))), ((a 8), .inl (ci 1, 4, .inr (.inl (h 0)))), ((a 9), .inl (ci 0, 20000, .inl (f 7))), ((a 10), .inl (ci 0, 20000, .inl (f 8))), ((a 6), .inl (ci 0, 20, .inl (f 9))), ((a 11), .inl (ci 0, 60, .inl (f 10))), ((a 12), .inl (ci 0, 60, .inl (f 11))), ((a 13), .inl (ci 0, 60, .inl (f 12))), ((a 14), .inl (ci 0, 200, .inl (f 13))), ((a 15), .inl (ci 0, 1552, .inl (f 14))), ((a 16), .inl (ci 0, 8, .inl (f 15)))]
def lX_ok (sv : l_T) (u : Nat → Int32) (f : Nat → Nat → Int32) : Prop := l_sX sv (u 4) (f 0) (f 1) (f 2) ∧ z_kg (l_R sv) (l_C sv) (f 3) (f 4)
def lM_ok (sv : l_T) (kp : Nat → Int32) (j : Nat) : Prop := z_mkT (l_R sv) (l_C sv) (l_m sv) (l_L sv) (l_K sv) (l_Y sv) kp j ∧ z_pc (z_pr (l_R sv)) (z_pr (l_C sv)) (l_m sv) (l_L sv) (l_K sv) ∧ z_yr (l_m sv) (l_Y sv)
/-- a good state of the class: its tape holds t bytes, its walk has rows of n -/
def XI (ci : Nat → ClassId) (a_x : Nat) (Wd : va_W) (t n_wk s0 : Nat) (sv : l_T) (kv : Nat → l_T) : Prop := ∃ (a : Nat → Nat) (u : Nat → Int32) (f : Nat → Nat → Int32) (xk : Nat → Option Nat) (ka : Nat → Nat → Nat) (ku : Nat → Nat → Int32) (kf : Nat → Nat → Nat → Int32), Wd = XW ci a_x n_wk a u f xk (lX_ka ci ka ku kf) ∧ (t ≤ 200 ∧ (u 1) = nI t) ∧ ((n_wk = 0 ∨ ∃ k, n_wk = 2130 * k + 2) ∧ n_wk ≤ 20000) ∧ GOK (l_R sv) (l_C sv) (z_pr (l_R sv)) (z_pr (l_C sv)) (f 1) (f 2) (f 3) (f 4) (f 5) (f 6) ∧ l_sX sv (u 2) (f 16) (f 17) (f 18) ∧ (s0 ≤ 8 ∧ (u 0) = nI s0 ∧ ∀ j, j < s0 → lX_ok (kv j) (ku j) (kf j)) ∧ (∀ j, j < 8 → xk j = some (ka j 0))
/-- a good state of the reference -/
def MI (ci : Nat → ClassId) (a_m : Nat) (Wd : va_W) (t s0 : Nat) (sv : l_T) (kv : Nat → l_T) : Prop := ∃ (a : Nat → Nat) (u : Nat → Int32) (v : Nat → Int64) (f : Nat → Nat → Int32) (h : Nat → Nat → Int64), Wd = MW ci a_m a u v f h ∧ (t ≤ 200 ∧ (u 0) = nI t) ∧ MOK (l_R sv) (l_C sv) (z_pr (l_R sv)) (z_pr (l_C sv)) (f 1) (f 2) (f 3) (f 4) (f 5) ∧ l_sX sv (u 19) (f 10) (f 11) (f 12) ∧ (s0 ≤ 8 ∧ (u 20) = nI s0 ∧ ∀ j, j < s0 → lM_ok (kv j) (f 14) j)
theorem XI.ok {ci : Nat → ClassId} {a_x t n s0 : Nat} {Wd : va_W} {sv : l_T} {kv : Nat → l_T} (h : XI ci a_x Wd t n s0 sv kv) : l_ok sv := by
  obtain ⟨a, u, f, xk, ka, ku, kf, -, -, -, g, hs, -⟩ := h
  exact ⟨g.2, hs.2.1⟩
/-- how many states are kept behind keep, undo; what they answer -/
def l_ks (s : Nat) : Nat := if s = 8 then 8 else s + 1
def l_kr (s : Nat) : Int32 := if s = 8 then -1 else nI (s + 1)
def l_ur (s : Nat) : Int32 := if s = 0 then -1 else nI (s - 1)
/-- how many bytes the tape holds behind feed, named, ask -/
def l_tf (t : Nat) : Nat := if t ≤ 180 then t + 20 else t
def l_ta (p : Int32) (t : Nat) : Nat := if 1 ≤ p.toInt ∧ p.toInt ≤ 100 ∧ p.toInt ≤ t then 0 else t
def l_tn (p q : Int32) (t : Nat) : Nat := if (1 ≤ p.toInt ∧ p.toInt ≤ 40 ∧ p.toInt ≤ t) ∧ (0 ≤ q.toInt ∧ q.toInt ≤ 1) then 0 else t
theorem l_tfB {t : Nat} (h : t ≤ 200) : l_tf t ≤ 200 := by unfold l_tf; split <;> omega
theorem l_taB {p : Int32} {t : Nat} (h : t ≤ 200) : l_ta p t ≤ 200 := by unfold l_ta; split <;> omega
theorem l_tnB {p q : Int32} {t : Nat} (h : t ≤ 200) : l_tn p q t ≤ 200 := by unfold l_tn; split <;> omega
theorem l_ta1 {p : Int32} {t : Nat} (h : z_txc 100 p t) : l_ta p t = 0 := if_pos h
theorem l_ta2 {p : Int32} {t : Nat} (h : ¬ z_txc 100 p t) : l_ta p t = t := if_neg h
theorem l_tn1 {p q : Int32} {t : Nat} (h : z_txc 40 p t ∧ (0 ≤ q.toInt ∧ q.toInt ≤ 1)) : l_tn p q t = 0 := if_pos h
theorem l_tn2 {p q : Int32} {t : Nat} (h : ¬ (z_txc 40 p t ∧ (0 ≤ q.toInt ∧ q.toInt ≤ 1))) : l_tn p q t = t := if_neg h
theorem Met.imp {l : Launch} {y : MethodName} {ws : List Cond} {rm : Room} {Pc Pc2 : Array Value → State → Prop} {Qc Qc2 : Array Value → State → Outcome → State → Prop} {mc ms : Nat} {free : Addr → Prop} (h : Met l y ws rm Pc Qc mc ms free) (hp : ∀ a s, Pc2 a s → Pc a s) (hq : ∀ a s o t, Pc2 a s → Qc a s o t → Qc2 a s o t) : Met l y ws rm Pc2 Qc2 mc ms free := by
  intro p e h1 h2 h3 s m args below h4 h5 h6 h7
  obtain ⟨n, o, a1, a2, a3, a4, a5⟩ := h p e h1 h2 h3 s m args below h4 h5 (hp _ _ h6) h7
  exact ⟨n, o, a1, a2, a3, hq _ _ _ _ h6 a4, a5⟩
section LWR
variable {l : Launch} {D : va_G} {ci : Nat → ClassId} {A : Nat → Prop} {sa : Nat → Nat} {y : MethodName} {ws : List Cond} {rm : Room} {av : List Value} {v : Option Value} {mc ms : Nat} {Wd W1 W2 W3 : va_W}
theorem q_wr (n : Nat) (is : List Nat) (e1 : q_pk n is Wd = W1) (ok1 : q_ok n is Wd) (is2 : List Nat) (h : Met l y ws rm (va_Pc av (q_N D ci A sa W1)) (q_Q v (q_O D A W2) A) mc ms A) (e2 : q_pk n is2 W2 = W3) (ok2 : q_ok n is2 W2) : Met l y ws rm (va_Pc av (q_N D ci A sa Wd)) (q_Q v (q_O D A W3) A) mc ms A :=
  h.imp (fun _ _ h => ⟨h.1, q_pk_P h.2.1 e1, q_pk_D h.2.2.1 e1 ok1, h.2.2.2⟩) (fun _ _ _ _ _ h => ⟨h.1, ⟨q_pk_P h.2.1.1 e2, q_pk_D h.2.1.2 e2 ok2⟩, h.2.2⟩)
theorem q_wrX {W2x W3x : Nat → Nat → va_W} (n : Nat) (is : List Nat) (e1 : q_pk n is Wd = W1) (ok1 : q_ok n is Wd) (is2 : List Nat) (h : Met l y ws rm (va_Pc av (q_N D ci A sa W1)) (q_Q v (fun t => ∃ b1 b2 : Nat, q_O D A (W2x b1 b2) t) A) mc ms A) (e2 : ∀ b1 b2, q_pk n is2 (W2x b1 b2) = W3x b1 b2) (ok2 : ∀ b1 b2, q_ok n is2 (W2x b1 b2)) : Met l y ws rm (va_Pc av (q_N D ci A sa Wd)) (q_Q v (fun t => ∃ b1 b2 : Nat, q_O D A (W3x b1 b2) t) A) mc ms A :=
  h.imp (fun _ _ h => ⟨h.1, q_pk_P h.2.1 e1, q_pk_D h.2.2.1 e1 ok1, h.2.2.2⟩) (fun _ _ _ _ _ h => ⟨h.1, h.2.1.elim (fun b1 q => q.elim (fun b2 q => ⟨b1, b2, q_pk_P q.1 (e2 b1 b2), q_pk_D q.2 (e2 b1 b2) (ok2 b1 b2)⟩)), h.2.2⟩)
theorem q_wrR (n : Nat) (is : List Nat) (e1 : q_pk n is Wd = W1) (ok1 : q_ok n is Wd) (h : Met l y ws rm (va_Pc av (q_N D ci A sa W1)) (q_R v) mc ms A) : Met l y ws rm (va_Pc av (q_N D ci A sa Wd)) (q_Q v (q_O D A Wd) A) mc ms A :=
  h.imp (fun _ _ h => ⟨h.1, q_pk_P h.2.1 e1, q_pk_D h.2.2.1 e1 ok1, h.2.2.2⟩) (fun _ _ _ _ hp h => ⟨h.1, ⟨by rw [h.2]; exact hp.2.1, hp.2.2.1⟩, by rw [h.2]; exact Nat.le_refl _, fun q _ _ => by rw [h.2]⟩)
/-- what a call leaves: some world with I -/
theorem q_wrI {I : va_W → Prop} {R : va_W} (h : Met l y ws rm (va_Pc av (q_N D ci A sa Wd)) (q_Q v (q_O D A (W3 ++ R)) A) mc ms A) (hI : I W3) : Met l y ws rm (va_Pc av (q_N D ci A sa Wd)) (q_Q v (fun t => ∃ W3, I W3 ∧ q_O D A (W3 ++ R) t) A) mc ms A :=
  h.imp (fun _ _ h => h) (fun _ _ _ _ _ h => ⟨h.1, ⟨W3, hI, h.2.1⟩, h.2.2⟩)
theorem q_wrIX {I : va_W → Prop} {R : va_W} {W3x : Nat → Nat → va_W} (h : Met l y ws rm (va_Pc av (q_N D ci A sa Wd)) (q_Q v (fun t => ∃ b1 b2 : Nat, q_O D A (W3x b1 b2 ++ R) t) A) mc ms A) (hI : ∀ b1 b2, I (W3x b1 b2)) : Met l y ws rm (va_Pc av (q_N D ci A sa Wd)) (q_Q v (fun t => ∃ W3, I W3 ∧ q_O D A (W3 ++ R) t) A) mc ms A :=
  h.imp (fun _ _ h => h) (fun _ _ _ _ _ h => ⟨h.1, h.2.1.elim (fun b1 q => q.elim (fun b2 q => ⟨_, hI b1 b2, q⟩)), h.2.2⟩)
end LWR
end
section
/-! answers: neighbour, around -/
section S4A
variable {rc cc br zc rw sh cr cq dp wd za fl fk fy : Nat → Int32} {sv : l_T} {N l : Nat}
def l_spot (sv : l_T) (l k ro pl : Nat) : Prop := l < 5 ∧ k < 20000000 ∧ ro ≤ 44 * z_pr (l_R sv) l + 1 ∧ pl < z_rl (z_pr (l_R sv) l) (z_pr (l_C sv) l) ro ∧ k = z_rs (z_pr (l_R sv) l) (z_pr (l_C sv) l) ro + pl
theorem l_spot_one {l k ro pl l' k' ro' pl' : Nat} {p q : Int32} (h : l_ok sv) (h1 : l_spot sv l k ro pl) (h2 : l_spot sv l' k' ro' pl') (p1 : p = nI l) (p2 : p = nI l') (q1 : q = nI k) (q2 : q = nI k') : l = l' ∧ k = k' ∧ ro = ro' ∧ pl = pl' := by
  obtain ⟨b1, b2, d1, d2, d3⟩ := h1
  obtain ⟨b1', b2', d1', d2', d3'⟩ := h2
  have e1 : l = l' := by rw [p1, nI_eq (by omega) (by omega)] at p2; exact p2
  have e2 : k = k' := by rw [q1, nI_eq (by omega) (by omega)] at q2; exact q2
  subst e1 e2
  have e3 : ro = ro' := z_row_one (V := z_pr (l_C sv) l) (h.1.pos l b1).1 d1 d1' (k := k) (by omega) (by omega) (by omega) (by omega)
  subst e3
  exact ⟨rfl, rfl, rfl, by omega⟩
def l_bM (sv : l_T) (l ro pl i : Nat) : Nat := z_bM (z_pr (l_R sv) l) (z_pr (l_C sv) l) ro pl i
def l_bF (sv : l_T) (l ro pl i : Nat) : Nat := z_bF (z_pr (l_R sv) l) (z_pr (l_C sv) l) ro pl i
def l_vnb (M F : Nat) (i : Int32) : Int32 := if i = -1 then nI M else if nI M ≤ i then -2 else nI F + i
def l_aneighbour (sv : l_T) (p q w i r : Int32) : Prop := (¬ (z_hs (z_pr (l_R sv)) (z_pr (l_C sv)) p q ∧ (0 ≤ w.toInt ∧ w.toInt ≤ 3) ∧ -1 ≤ i) ∧ r = -1) ∨ (∃ l k ro pl j, (z_hs (z_pr (l_R sv)) (z_pr (l_C sv)) p q ∧ (0 ≤ w.toInt ∧ w.toInt ≤ 3) ∧ -1 ≤ i) ∧ l_spot sv l k ro pl ∧ p = nI l ∧ q = nI k ∧ j < 4 ∧ w = nI j ∧ r = l_vnb (l_bM sv l ro pl j) (l_bF sv l ro pl j) i)
theorem l_aneighbour_one {p q w i r r' : Int32} (h : l_ok sv) (h1 : l_aneighbour sv p q w i r) (h2 : l_aneighbour sv p q w i r') : r = r' := by
  rcases h1 with ⟨a, b⟩ | ⟨l, k, ro, pl, j, a, b1, c1, c2, d1, d2, e⟩ <;> rcases h2 with ⟨a', b'⟩ | ⟨l', k', ro', pl', j', a', b1', c1', c2', d1', d2', e'⟩
  · exact b.trans b'.symm
  · exact absurd a' a
  · exact absurd a a'
  · obtain ⟨rfl, rfl, rfl, rfl⟩ := l_spot_one h b1 b1' c1 c1' c2 c2'
    have e1 : j = j' := by rw [d2, nI_eq (by omega) (by omega)] at d2'; exact d2'
    subst e1
    exact e.trans e'.symm
theorem l_ne0 {M : Nat} {i : Int32} (h1 : -1 ≤ i) (h2 : ¬ i = -1) (h3 : ¬ nI M ≤ i) : M ≠ 0 := by
  intro h0
  apply h3
  rw [h0, z_le, nI_toInt (by omega)]
  rw [z_le, show (-1 : Int32).toInt = -1 from rfl] at h1
  have h4 : ¬ i.toInt = -1 := fun z => h2 (Int32.toInt_inj.mp (by rw [z]; rfl))
  omega
theorem a_x_neighbour (g : GOK (l_R sv) (l_C sv) (z_pr (l_R sv)) (z_pr (l_C sv)) rc cc br zc rw sh) (hN : 1000000 ≤ N) (f m : Nat → Int32) (a1 a2 a3 a4 a5 a6 p q w i : Int32) : Ok (f_X_neighbour N f m a1 a2 a3 a4 a5 a6 br zc rw sh p q w i) (fun x => l_aneighbour sv p q w i x.1) := by
  unfold f_X_neighbour
  refine Ok.b1 (r_hasSheet g p q) (fun v1 h1 => ?_)
  rcases h1 with ⟨z, rfl⟩ | ⟨z, rfl⟩
  rotate_left
  · exact Ok.ite (fun _ => Ok.ret (Or.inl ⟨fun u => z u.1, rfl⟩)) (fun c => absurd rfl c)
  refine Ok.ite (fun c => absurd c (by decide)) (fun _ => Ok.b1 (s_isFrom w _ _) (fun v2 h2 => ?_))
  rw [show (0 : Int32).toInt = 0 from rfl, show (3 : Int32).toInt = 3 from rfl] at h2
  refine Ok.ite (fun c => Ok.ret (Or.inl ⟨fun u => z_if0 h2 c u.2.1, rfl⟩)) (fun c => ?_)
  have hw := z_if1 h2 c
  refine Ok.ite (fun hi => ?_) (fun hi => Ok.ret (Or.inl ⟨fun u => hi u.2.2, rfl⟩))
  have z' := z
  obtain ⟨l, k, hl, rfl, rfl, hk⟩ := z'
  have hs := g.2.sh hl
  obtain ⟨ro, pl, e, d1, d2, d3⟩ := k_put (N := N) g (by omega) hl hk a1 a2 a3 a4 a5 a6
  obtain ⟨f', m', e2, hfm⟩ := r_lookAround g hl d1 d2 f m
  obtain ⟨j, -, rfl, hj⟩ := z_nat hw.1
  have hj4 : j < 4 := by omega
  obtain ⟨h3, h4⟩ := hfm j hj4
  rw [e, q_b6_s, e2, q_b2_s]
  have fin : ∀ r : Int32, r = l_vnb (l_bM sv l ro pl j) (l_bF sv l ro pl j) i → l_aneighbour sv (nI l) (nI k) (nI j) i r := fun r h => Or.inr ⟨l, k, ro, pl, j, ⟨z, hw, hi⟩, ⟨hl, by omega, d1, d2, d3⟩, rfl, rfl, hj4, rfl, h⟩
  unfold l_vnb at fin
  refine Ok.ite (fun c1 => ?_) (fun c1 => ?_)
  · rw [z_ai hj4 (by omega), h3]
    exact Ok.ret (fin _ (by rw [if_pos c1]; rfl))
  rw [z_ai hj4 (by omega), h3]
  refine Ok.ite (fun c2 => Ok.ret (fin _ (by rw [if_neg c1]; exact (if_pos c2).symm))) (fun c2 => ?_)
  rw [z_ai hj4 (by omega), h4 (l_ne0 hi c1 c2)]
  exact Ok.ret (fin _ (by rw [if_neg c1]; exact (if_neg c2).symm))
theorem r_isSide (w : Int32) : Ok (f_M_isSide w) (fun y => y = if 0 ≤ w.toInt ∧ w.toInt ≤ 3 then 1 else 0) := by
  unfold f_M_isSide
  rw [m_in, q_b1_s, z_toL, show (0 : Int64).toInt = 0 from rfl, show (3 : Int64).toInt = 3 from rfl]
  refine Ok.bo ?_ (Ok.ret rfl)
  split
  · exact Or.inr rfl
  · exact Or.inl rfl
theorem a_m_neighbour (g : MOK (l_R sv) (l_C sv) (z_pr (l_R sv)) (z_pr (l_C sv)) cr cq dp wd za) (hN : 1000000 ≤ N) (fb mb p q w i : Int32) : Ok (f_M_neighbour N dp wd za fb mb p q w i) (fun x => l_aneighbour sv p q w i x.1) := by
  unfold f_M_neighbour
  refine Ok.b1 (r_isKey g p q) (fun v1 h1 => ?_)
  rcases h1 with ⟨z, rfl⟩ | ⟨z, rfl⟩
  rotate_left
  · exact Ok.ite (fun _ => Ok.ret (Or.inl ⟨fun u => z u.1, rfl⟩)) (fun c => absurd rfl c)
  refine Ok.ite (fun c => absurd c (by decide)) (fun _ => Ok.b1 (r_isSide w) (fun v2 h2 => ?_))
  refine Ok.ite (fun c => Ok.ret (Or.inl ⟨fun u => z_if0 h2 c u.2.1, rfl⟩)) (fun c => ?_)
  have hw := z_if1 h2 c
  refine Ok.ite (fun hi => ?_) (fun hi => Ok.ret (Or.inl ⟨fun u => hi u.2.2, rfl⟩))
  have z' := z
  obtain ⟨l, k, hl, rfl, rfl, hk⟩ := z'
  have hs := g.2.2.sh hl
  obtain ⟨ro, pl, d1, d2, d3, -, -⟩ := t_spot (N := N) g (by omega) hl hk
  obtain ⟨j, -, rfl, hj⟩ := z_nat hw.1
  have hj4 : j < 4 := by omega
  obtain ⟨x, e2, h4⟩ := r_laysBeside (N := N) g (by omega) hl d1 d2 fb mb hj4
  rw [← d3] at e2
  rw [e2, q_b2_s]
  have fin : ∀ r : Int32, r = l_vnb (l_bM sv l ro pl j) (l_bF sv l ro pl j) i → l_aneighbour sv (nI l) (nI k) (nI j) i r := fun r h => Or.inr ⟨l, k, ro, pl, j, ⟨z, hw, hi⟩, ⟨hl, by omega, d1, d2, d3⟩, rfl, rfl, hj4, rfl, h⟩
  unfold l_vnb at fin
  refine Ok.ite (fun c1 => Ok.ret (fin _ (by rw [if_pos c1]; rfl))) (fun c1 => Ok.ite (fun c2 => Ok.ret (fin _ (by rw [if_neg c1]; exact (if_pos c2).symm))) (fun c2 => ?_))
  have h5 := h4 (l_ne0 hi c1 c2)
  subst h5
  exact Ok.ret (fin _ (by rw [if_neg c1]; exact (if_neg c2).symm))
end S4A
end
section
/-! answers: wider, jog (l_spot is s4's) -/
section S5A
variable {rc cc br zc rw sh cr cq dp wd za fl fk fy : Nat → Int32} {sv : l_T} {N l : Nat}
def l_hs (sv : l_T) (p q : Int32) : Prop := z_hs (z_pr (l_R sv)) (z_pr (l_C sv)) p q
theorem r_areSheets {R C H V : Nat → Nat} (g : GOK R C H V rc cc br zc rw sh) (p q w : Int32) : Ok (f_X_areSheets sh p q w) (fun x => ((z_hs H V p q ∧ z_hs H V p w) ∧ x = 1) ∨ (¬ (z_hs H V p q ∧ z_hs H V p w) ∧ x = 0)) := by
  unfold f_X_areSheets
  refine Ok.b1 (r_hasSheet g p q) (fun v1 h1 => ?_)
  rcases h1 with ⟨z, rfl⟩ | ⟨z, rfl⟩
  · refine Ok.ite (fun c => absurd c (by decide)) (fun _ => Ok.b1 (r_hasSheet g p w) (fun v2 h2 => ?_))
    rcases h2 with ⟨y, rfl⟩ | ⟨y, rfl⟩
    · exact Ok.ite (fun c => absurd c (by decide)) (fun _ => Ok.ret (Or.inl ⟨⟨z, y⟩, rfl⟩))
    · exact Ok.ite (fun _ => Ok.ret (Or.inr ⟨fun u => y u.2, rfl⟩)) (fun c => absurd rfl c)
  · exact Ok.ite (fun _ => Ok.ret (Or.inr ⟨fun u => z u.1, rfl⟩)) (fun c => absurd rfl c)
def l_rl (sv : l_T) (l ro : Nat) : Nat := z_rl (z_pr (l_R sv) l) (z_pr (l_C sv) l) ro
def l_awider (sv : l_T) (p q w r : Int32) : Prop := (¬ (l_hs sv p q ∧ l_hs sv p w) ∧ r = -1000000) ∨ (∃ l k ro pl k2 ro2 pl2, (l_hs sv p q ∧ l_hs sv p w) ∧ l_spot sv l k ro pl ∧ l_spot sv l k2 ro2 pl2 ∧ p = nI l ∧ q = nI k ∧ w = nI k2 ∧ r = if l_rl sv l ro2 ≤ l_rl sv l ro then (if l_rl sv l ro ≤ l_rl sv l ro2 then 0 else -1) else 1)
theorem l_awider_one {p q w r r' : Int32} (h : l_ok sv) (h1 : l_awider sv p q w r) (h2 : l_awider sv p q w r') : r = r' := by
  rcases h1 with ⟨a, b⟩ | ⟨l, k, ro, pl, k2, ro2, pl2, a, b1, b2, c1, c2, c3, e⟩ <;> rcases h2 with ⟨a', b'⟩ | ⟨l', k', ro', pl', k2', ro2', pl2', a', b1', b2', c1', c2', c3', e'⟩
  · exact b.trans b'.symm
  · exact absurd a' a
  · exact absurd a a'
  · obtain ⟨rfl, rfl, rfl, rfl⟩ := l_spot_one h b1 b1' c1 c1' c2 c2'
    obtain ⟨-, rfl, rfl, rfl⟩ := l_spot_one h b2 b2' c1 c1' c3 c3'
    exact e.trans e'.symm
theorem a_x_wider (g : GOK (l_R sv) (l_C sv) (z_pr (l_R sv)) (z_pr (l_C sv)) rc cc br zc rw sh) (hN : 1000000 ≤ N) (p q w : Int32) : Ok (f_X_wider N br zc rw sh p q w) (fun x => l_awider sv p q w x) := by
  unfold f_X_wider
  refine Ok.b1 (r_areSheets g p q w) (fun v1 h1 => ?_)
  rcases h1 with ⟨z, rfl⟩ | ⟨z, rfl⟩
  rotate_left
  · exact Ok.ite (fun _ => Ok.ret (Or.inl ⟨z, rfl⟩)) (fun c => absurd rfl c)
  refine Ok.ite (fun c => absurd c (by decide)) (fun _ => ?_)
  have z' := z
  obtain ⟨⟨l, k, hl, rfl, rfl, hk⟩, ⟨l', k2, hl', e0, rfl, hk2⟩⟩ := z'
  have e1 : l = l' := by rw [nI_eq (by omega) (by omega)] at e0; exact e0
  subst e1
  have hs := g.2.sh hl
  have hp := g.2.pos l hl
  have hv := g.2.hv hl
  obtain ⟨ro, er, d1, d2, d3⟩ := k_rowOfKey (N := N) g (by omega) hl hk
  obtain ⟨ro2, er2, f1, f2, f3⟩ := k_rowOfKey (N := N) g (by omega) hl hk2
  have la := (z_rl_pos (V := z_pr (l_C sv) l) hp.1 hp.2 d1).2
  have lb := (z_rl_pos (V := z_pr (l_C sv) l) hp.1 hp.2 f1).2
  rw [er, q_b1_s, k_rowLength g hl d1, q_b1_s, er2, q_b1_s, k_rowLength g hl f1, q_b1_s]
  have fin : ∀ r : Int32, r = (if l_rl sv l ro2 ≤ l_rl sv l ro then (if l_rl sv l ro ≤ l_rl sv l ro2 then 0 else -1) else 1) → l_awider sv (nI l) (nI k) (nI k2) r := fun r h => Or.inr ⟨l, k, ro, k - z_rs (z_pr (l_R sv) l) (z_pr (l_C sv) l) ro, k2, ro2, k2 - z_rs (z_pr (l_R sv) l) (z_pr (l_C sv) l) ro2, z, ⟨hl, by omega, d1, by omega, by omega⟩, ⟨hl, by omega, f1, by omega, by omega⟩, rfl, rfl, rfl, h⟩
  unfold f_JInteger_compare_7cf53
  unfold l_rl at fin
  by_cases c1 : z_rl (z_pr (l_R sv) l) (z_pr (l_C sv) l) ro2 ≤ z_rl (z_pr (l_R sv) l) (z_pr (l_C sv) l) ro
  · by_cases c2 : z_rl (z_pr (l_R sv) l) (z_pr (l_C sv) l) ro ≤ z_rl (z_pr (l_R sv) l) (z_pr (l_C sv) l) ro2
    · rw [if_pos ((nI_leI (by omega) (by omega)).mpr c2), if_pos (by rw [Nat.le_antisymm c1 c2]), q_b1_s]
      exact Ok.ret (fin _ (by rw [if_pos c1, if_pos c2]))
    · rw [if_neg (fun z => c2 ((nI_leI (by omega) (by omega)).mp z)), q_b1_s]
      exact Ok.ret (fin _ (by rw [if_pos c1, if_neg c2]))
  · rw [if_pos ((nI_leI (by omega) (by omega)).mpr (by omega)), if_neg (fun z => c1 (by rw [nI_eq (by omega) (by omega)] at z; omega)), q_b1_s]
    exact Ok.ret (fin _ (by rw [if_neg c1]))
theorem a_m_wider (g : MOK (l_R sv) (l_C sv) (z_pr (l_R sv)) (z_pr (l_C sv)) cr cq dp wd za) (hN : 1000000 ≤ N) (p q w : Int32) : Ok (f_M_wider N dp wd za p q w) (fun x => l_awider sv p q w x) := by
  unfold f_M_wider
  refine Ok.b1 (r_isKey g p q) (fun v1 h1 => ?_)
  rcases h1 with ⟨z, rfl⟩ | ⟨z, rfl⟩
  rotate_left
  · exact Ok.ite (fun _ => Ok.ret (Or.inl ⟨fun u => z u.1, rfl⟩)) (fun c => absurd rfl c)
  refine Ok.ite (fun c => absurd c (by decide)) (fun _ => Ok.b1 (r_isKey g p w) (fun v2 h2 => ?_))
  rcases h2 with ⟨y, rfl⟩ | ⟨y, rfl⟩
  rotate_left
  · exact Ok.ite (fun _ => Ok.ret (Or.inl ⟨fun u => y u.2, rfl⟩)) (fun c => absurd rfl c)
  refine Ok.ite (fun c => absurd c (by decide)) (fun _ => ?_)
  have z' := z
  have y' := y
  obtain ⟨l, k, hl, rfl, rfl, hk⟩ := z'
  obtain ⟨l', k2, hl', e0, rfl, hk2⟩ := y'
  have e1 : l = l' := by rw [nI_eq (by omega) (by omega)] at e0; exact e0
  subst e1
  have hs := g.2.2.sh hl
  have hp := g.2.2.pos l hl
  have hv := g.2.2.hv hl
  obtain ⟨ro, er, d1, d2, d3⟩ := m_rowOf (N := N) g (by omega) hl hk
  obtain ⟨ro2, er2, f1, f2, f3⟩ := m_rowOf (N := N) g (by omega) hl hk2
  have la := (z_rl_pos (V := z_pr (l_C sv) l) hp.1 hp.2 d1).2
  have lb := (z_rl_pos (V := z_pr (l_C sv) l) hp.1 hp.2 f1).2
  rw [er, q_b1_s, m_many g hl d1, q_b1_s, er2, q_b1_s, m_many g hl f1, q_b1_s]
  have fin : ∀ r : Int32, r = (if l_rl sv l ro2 ≤ l_rl sv l ro then (if l_rl sv l ro ≤ l_rl sv l ro2 then 0 else -1) else 1) → l_awider sv (nI l) (nI k) (nI k2) r := fun r h => Or.inr ⟨l, k, ro, k - z_rs (z_pr (l_R sv) l) (z_pr (l_C sv) l) ro, k2, ro2, k2 - z_rs (z_pr (l_R sv) l) (z_pr (l_C sv) l) ro2, ⟨z, y⟩, ⟨hl, by omega, d1, by omega, by omega⟩, ⟨hl, by omega, f1, by omega, by omega⟩, rfl, rfl, rfl, h⟩
  unfold l_rl at fin
  refine Ok.ite (fun c1 => Ok.ite (fun c2 => ?_) (fun c2 => ?_)) (fun c1 => ?_)
  all_goals rw [nI_leI (by omega) (by omega)] at c1
  · rw [nI_leI (by omega) (by omega)] at c2
    exact Ok.ret (fin _ (by rw [if_pos c1, if_pos c2]))
  · rw [nI_leI (by omega) (by omega)] at c2
    exact Ok.ret (fin _ (by rw [if_pos c1, if_neg c2]))
  · exact Ok.ret (fin _ (by rw [if_neg c1]))
/-! jog -/
def l_vjog (sv : l_T) (l ro : Nat) (w : Int32) : Int32 := if w = 0 then (if ro = 0 then 0 else if l_rl sv l (ro - 1) = l_rl sv l ro then 0 else 1) else if w = 2 then (if ro = 44 * z_pr (l_R sv) l + 1 then 0 else if l_rl sv l (ro + 1) = l_rl sv l ro then 0 else 1) else -1
def l_ajog (sv : l_T) (p q w r : Int32) : Prop := (¬ l_hs sv p q ∧ r = -1) ∨ (∃ l k ro pl, l_hs sv p q ∧ l_spot sv l k ro pl ∧ p = nI l ∧ q = nI k ∧ r = l_vjog sv l ro w)
theorem l_ajog_one {p q w r r' : Int32} (h : l_ok sv) (h1 : l_ajog sv p q w r) (h2 : l_ajog sv p q w r') : r = r' := by
  rcases h1 with ⟨a, b⟩ | ⟨l, k, ro, pl, a, b1, c1, c2, e⟩ <;> rcases h2 with ⟨a', b'⟩ | ⟨l', k', ro', pl', a', b1', c1', c2', e'⟩
  · exact b.trans b'.symm
  · exact absurd a' a
  · exact absurd a a'
  · obtain ⟨rfl, rfl, rfl, rfl⟩ := l_spot_one h b1 b1' c1 c1' c2 c2'
    exact e.trans e'.symm
theorem a_x_jog (g : GOK (l_R sv) (l_C sv) (z_pr (l_R sv)) (z_pr (l_C sv)) rc cc br zc rw sh) (hN : 1000000 ≤ N) (a1 a2 a3 a4 a5 a6 p q w : Int32) : Ok (f_X_jog N a1 a2 a3 a4 a5 a6 br zc rw sh p q w) (fun x => l_ajog sv p q w x.1) := by
  unfold f_X_jog
  refine Ok.b1 (r_hasSheet g p q) (fun v1 h1 => ?_)
  rcases h1 with ⟨z, rfl⟩ | ⟨z, rfl⟩
  rotate_left
  · exact Ok.ite (fun _ => Ok.ret (Or.inl ⟨z, rfl⟩)) (fun c => absurd rfl c)
  refine Ok.ite (fun c => absurd c (by decide)) (fun _ => ?_)
  have z' := z
  obtain ⟨l, k, hl, rfl, rfl, hk⟩ := z'
  have hs := g.2.sh hl
  have hp := g.2.pos l hl
  have hv := g.2.hv hl
  obtain ⟨ro, pl, e, d1, d2, d3⟩ := k_put (N := N) g (by omega) hl hk a1 a2 a3 a4 a5 a6
  have la := (z_rl_pos (V := z_pr (l_C sv) l) hp.1 hp.2 d1).2
  have fin : ∀ r : Int32, r = l_vjog sv l ro w → l_ajog sv (nI l) (nI k) w r := fun r h => Or.inr ⟨l, k, ro, pl, z, ⟨hl, by omega, d1, d2, d3⟩, rfl, rfl, h⟩
  unfold l_vjog l_rl at fin
  rw [e]
  refine Ok.j0 ?_
  have t0 : (0 : Int32).toInt = 0 := rfl
  by_cases c0 : w = 0
  · rw [if_pos c0] at fin
    rw [if_pos c0, q_b6_s]
    refine Ok.j1 ?_
    rw [if_pos c0]
    dsimp only
    rw [z_ai hl (by omega), (g.at hl).2.2.2.2.1, show nI (44 * z_pr (l_R sv) l + 2) - 1 = nI (44 * z_pr (l_R sv) l + 1) from z_sub1 (by omega)]
    refine Ok.b1 (s_isFrom _ _ _) (fun v10 h10 => ?_)
    by_cases r0 : ro = 0
    · rw [r0, t0, if_neg (show ¬ (0 ≤ (nI 0 - 1).toInt ∧ (nI 0 - 1).toInt ≤ (nI (44 * z_pr (l_R sv) l + 1)).toInt) from fun z => absurd z.1 (by decide))] at h10
      subst h10
      exact Ok.ite (fun _ => Ok.ret (fin _ (by rw [if_pos r0]))) (fun c => absurd rfl c)
    · rw [z_sub1 (by omega), t0, nI_toInt (by omega), nI_toInt (by omega), if_pos (by omega)] at h10
      subst h10
      refine Ok.ite (fun c => absurd c (by decide)) (fun _ => ?_)
      have lb := (z_rl_pos (V := z_pr (l_C sv) l) hp.1 hp.2 (show ro - 1 ≤ _ by omega)).2
      rw [z_sub1 (by omega), k_rowLength g hl (show ro - 1 ≤ _ by omega), q_b1_s]
      refine Ok.ite (fun c => ?_) (fun c => ?_)
      all_goals rw [nI_eq (by omega) (by omega)] at c
      · exact Ok.ret (fin _ (by rw [if_neg r0, if_pos c]))
      · exact Ok.ret (fin _ (by rw [if_neg r0, if_neg c]))
  · rw [if_neg c0] at fin
    rw [if_neg c0]
    by_cases c2 : w = 2
    · rw [if_pos c2] at fin
      rw [if_pos c2, q_b6_s]
      refine Ok.j1 ?_
      rw [if_neg c0, nI_1]
      dsimp only
      rw [z_ai hl (by omega), (g.at hl).2.2.2.2.1, show nI (44 * z_pr (l_R sv) l + 2) - 1 = nI (44 * z_pr (l_R sv) l + 1) from z_sub1 (by omega)]
      refine Ok.b1 (s_isFrom _ _ _) (fun v10 h10 => ?_)
      rw [t0, nI_toInt (by omega), nI_toInt (by omega)] at h10
      by_cases r0 : ro = 44 * z_pr (l_R sv) l + 1
      · rw [if_neg (by omega)] at h10
        subst h10
        exact Ok.ite (fun _ => Ok.ret (fin _ (by rw [if_pos r0]))) (fun c => absurd rfl c)
      · rw [if_pos (by omega)] at h10
        subst h10
        refine Ok.ite (fun c => absurd c (by decide)) (fun _ => ?_)
        have lb := (z_rl_pos (V := z_pr (l_C sv) l) hp.1 hp.2 (show ro + 1 ≤ _ by omega)).2
        rw [k_rowLength g hl (show ro + 1 ≤ _ by omega), q_b1_s]
        refine Ok.ite (fun c => ?_) (fun c => ?_)
        all_goals rw [nI_eq (by omega) (by omega)] at c
        · exact Ok.ret (fin _ (by rw [if_neg r0, if_pos c]))
        · exact Ok.ret (fin _ (by rw [if_neg r0, if_neg c]))
    · rw [if_neg c2] at fin
      rw [if_neg c2]
      exact Ok.ret (fin _ rfl)
theorem a_m_jog (g : MOK (l_R sv) (l_C sv) (z_pr (l_R sv)) (z_pr (l_C sv)) cr cq dp wd za) (hN : 1000000 ≤ N) (p q w : Int32) : Ok (f_M_jog N dp wd za p q w) (fun x => l_ajog sv p q w x) := by
  unfold f_M_jog
  refine Ok.b1 (r_isKey g p q) (fun v1 h1 => ?_)
  rcases h1 with ⟨z, rfl⟩ | ⟨z, rfl⟩
  rotate_left
  · exact Ok.ite (fun _ => Ok.ret (Or.inl ⟨z, rfl⟩)) (fun c => absurd rfl c)
  refine Ok.ite (fun c => absurd c (by decide)) (fun _ => ?_)
  have z' := z
  obtain ⟨l, k, hl, rfl, rfl, hk⟩ := z'
  have hs := g.2.2.sh hl
  have hp := g.2.2.pos l hl
  have hv := g.2.2.hv hl
  obtain ⟨ro, pl, d1, d2, d3, er, -⟩ := t_spot (N := N) g (by omega) hl hk
  have la := (z_rl_pos (V := z_pr (l_C sv) l) hp.1 hp.2 d1).2
  have fin : ∀ r : Int32, r = l_vjog sv l ro w → l_ajog sv (nI l) (nI k) w r := fun r h => Or.inr ⟨l, k, ro, pl, z, ⟨hl, by omega, d1, d2, d3⟩, rfl, rfl, h⟩
  unfold l_vjog l_rl at fin
  rw [er]
  refine Ok.j0 ?_
  have t0 : (0 : Int64).toInt = 0 := rfl
  by_cases c0 : w = 0
  · rw [if_pos c0] at fin
    rw [if_pos c0, q_b1_s]
    refine Ok.j1 ?_
    rw [if_pos c0]
    dsimp only
    rw [m_lastRow g hl, q_b1_s]
    refine Ok.b1 (t_in _ _ _) (fun v10 h10 => ?_)
    rw [t0, z_toL, z_toL] at h10
    by_cases r0 : ro = 0
    · rw [r0, if_neg (show ¬ (0 ≤ (nI 0 - 1).toInt ∧ (nI 0 - 1).toInt ≤ (nI (44 * z_pr (l_R sv) l + 1)).toInt) from fun z => absurd z.1 (by decide))] at h10
      subst h10
      exact Ok.ite (fun _ => Ok.ret (fin _ (by rw [if_pos r0]))) (fun c => absurd rfl c)
    · rw [z_sub1 (by omega), nI_toInt (by omega), nI_toInt (by omega), if_pos (by omega)] at h10
      subst h10
      refine Ok.ite (fun c => absurd c (by decide)) (fun _ => ?_)
      have lb := (z_rl_pos (V := z_pr (l_C sv) l) hp.1 hp.2 (show ro - 1 ≤ _ by omega)).2
      rw [z_sub1 (by omega), m_many g hl (show ro - 1 ≤ _ by omega), q_b1_s, m_many g hl d1, q_b1_s]
      refine Ok.ite (fun c => ?_) (fun c => ?_)
      all_goals rw [nI_eq (by omega) (by omega)] at c
      · exact Ok.ret (fin _ (by rw [if_neg r0, if_pos c]))
      · exact Ok.ret (fin _ (by rw [if_neg r0, if_neg c]))
  · rw [if_neg c0] at fin
    rw [if_neg c0]
    by_cases c2 : w = 2
    · rw [if_pos c2] at fin
      rw [if_pos c2, q_b1_s]
      refine Ok.j1 ?_
      rw [if_neg c0, nI_1]
      dsimp only
      rw [m_lastRow g hl, q_b1_s]
      refine Ok.b1 (t_in _ _ _) (fun v10 h10 => ?_)
      rw [t0, z_toL, z_toL, nI_toInt (by omega), nI_toInt (by omega)] at h10
      by_cases r0 : ro = 44 * z_pr (l_R sv) l + 1
      · rw [if_neg (by omega)] at h10
        subst h10
        exact Ok.ite (fun _ => Ok.ret (fin _ (by rw [if_pos r0]))) (fun c => absurd rfl c)
      · rw [if_pos (by omega)] at h10
        subst h10
        refine Ok.ite (fun c => absurd c (by decide)) (fun _ => ?_)
        have lb := (z_rl_pos (V := z_pr (l_C sv) l) hp.1 hp.2 (show ro + 1 ≤ _ by omega)).2
        rw [m_many g hl (show ro + 1 ≤ _ by omega), q_b1_s, m_many g hl d1, q_b1_s]
        refine Ok.ite (fun c => ?_) (fun c => ?_)
        all_goals rw [nI_eq (by omega) (by omega)] at c
        · exact Ok.ret (fin _ (by rw [if_neg r0, if_pos c]))
        · exact Ok.ret (fin _ (by rw [if_neg r0, if_neg c]))
    · rw [if_neg c2] at fin
      rw [if_neg c2]
      exact Ok.ret (fin _ rfl)
end S5A
end
section
/-! answers: a spot's generic words; around -/
section S6A
variable {rc cc br zc rw sh cr cq dp wd za fl fk fy : Nat → Int32} {sv : l_T} {N l : Nat}
/-- an answer: what is refused, else what a good start gives -/
def l_rel {σ : Type} (C : Prop) (c : Int32) (S : σ → Prop) (f : σ → Int32) (r : Int32) : Prop := (¬ C ∧ r = c) ∨ (C ∧ ∃ s, S s ∧ r = f s)
theorem l_rel_one {σ : Type} {C : Prop} {c : Int32} {S : σ → Prop} {f : σ → Int32} {r r' : Int32} (hS : ∀ s s', S s → S s' → s = s') (h1 : l_rel C c S f r) (h2 : l_rel C c S f r') : r = r' := by
  rcases h1 with ⟨a, b⟩ | ⟨a, s, h, e⟩ <;> rcases h2 with ⟨a', b'⟩ | ⟨a', s', h', e'⟩
  · exact b.trans b'.symm
  · exact absurd a' a
  · exact absurd a a'
  · rw [hS s s' h h'] at e
    exact e.trans e'.symm
theorem l_relN {σ : Type} {C : Prop} {c : Int32} {S : σ → Prop} {f : σ → Int32} (h : ¬ C) : l_rel C c S f c := Or.inl ⟨h, rfl⟩
theorem l_relY {σ : Type} {C : Prop} {c r : Int32} {S : σ → Prop} {f : σ → Int32} (h : C) {s : σ} (hs : S s) (e : r = f s) : l_rel C c S f r := Or.inr ⟨h, s, hs, e⟩
/-- a sheet: level, key, row, place -/
def l_sp (sv : l_T) (p q : Int32) (s : Nat × Nat × Nat × Nat) : Prop := l_spot sv s.1 s.2.1 s.2.2.1 s.2.2.2 ∧ p = nI s.1 ∧ q = nI s.2.1
theorem l_sp_one {p q : Int32} (h : l_ok sv) : ∀ s s' : Nat × Nat × Nat × Nat, l_sp sv p q s → l_sp sv p q s' → s = s' := by
  intro ⟨l, k, ro, pl⟩ ⟨l', k', ro', pl'⟩ ⟨h1, h2, h3⟩ ⟨h1', h2', h3'⟩
  obtain ⟨rfl, rfl, rfl, rfl⟩ := l_spot_one h h1 h1' h2 h2' h3 h3'
  rfl
theorem z_bM0 {H0 V0 r p : Nat} : z_bM H0 V0 r p 0 = if r = 0 then 0 else ((p + 1) * z_rl H0 V0 (r - 1) - 1) / z_rl H0 V0 r - p * z_rl H0 V0 (r - 1) / z_rl H0 V0 r + 1 := if_pos rfl
theorem z_bM2 {H0 V0 r p : Nat} : z_bM H0 V0 r p 2 = if r = 44 * H0 + 1 then 0 else ((p + 1) * z_rl H0 V0 (r + 1) - 1) / z_rl H0 V0 r - p * z_rl H0 V0 (r + 1) / z_rl H0 V0 r + 1 := (if_neg (show ¬ (2 : Nat) = 0 by omega)).trans (if_pos rfl)
theorem z_bM1 {H0 V0 r p : Nat} : z_bM H0 V0 r p 1 = if r = 0 ∨ r = 44 * H0 + 1 then 0 else 1 := (if_neg (show ¬ (1 : Nat) = 0 by omega)).trans (if_neg (show ¬ (1 : Nat) = 2 by omega))
theorem z_bM3 {H0 V0 r p : Nat} : z_bM H0 V0 r p 3 = if r = 0 ∨ r = 44 * H0 + 1 then 0 else 1 := (if_neg (show ¬ (3 : Nat) = 0 by omega)).trans (if_neg (show ¬ (3 : Nat) = 2 by omega))
theorem z_bF0 {H0 V0 r p : Nat} : z_bF H0 V0 r p 0 = z_rs H0 V0 (r - 1) + p * z_rl H0 V0 (r - 1) / z_rl H0 V0 r := if_pos rfl
theorem z_bF2 {H0 V0 r p : Nat} : z_bF H0 V0 r p 2 = z_rs H0 V0 (r + 1) + p * z_rl H0 V0 (r + 1) / z_rl H0 V0 r := (if_neg (show ¬ (2 : Nat) = 0 by omega)).trans (if_pos rfl)
theorem z_bF1 {H0 V0 r p : Nat} : z_bF H0 V0 r p 1 = z_rs H0 V0 r + (p + 1) % z_rl H0 V0 r := (if_neg (show ¬ (1 : Nat) = 0 by omega)).trans ((if_neg (show ¬ (1 : Nat) = 2 by omega)).trans (if_pos rfl))
theorem z_bF3 {H0 V0 r p : Nat} : z_bF H0 V0 r p 3 = z_rs H0 V0 r + (p + (z_rl H0 V0 r - 1)) % z_rl H0 V0 r := (if_neg (show ¬ (3 : Nat) = 0 by omega)).trans ((if_neg (show ¬ (3 : Nat) = 2 by omega)).trans (if_neg (show ¬ (3 : Nat) = 1 by omega)))
theorem z_bB {H0 V0 r p : Nat} (hH : 1 ≤ H0) (hV : 1 ≤ V0) (hr : r ≤ 44 * H0 + 1) (hp : p < z_rl H0 V0 r) {i : Nat} (hi : i < 4) : z_bM H0 V0 r p i ≤ 60 * V0 ∧ (z_bM H0 V0 r p i ≠ 0 → z_bF H0 V0 r p i + z_bM H0 V0 r p i ≤ 2130 * (H0 * V0) + 2) := by
  have la := z_rl_pos hH hV hr
  have hre := z_rs_end (V := V0) hH hr
  have key : ∀ b, b ≤ 44 * H0 + 1 → ((p + 1) * z_rl H0 V0 b - 1) / z_rl H0 V0 r - p * z_rl H0 V0 b / z_rl H0 V0 r + 1 ≤ 60 * V0 ∧ z_rs H0 V0 b + p * z_rl H0 V0 b / z_rl H0 V0 r + (((p + 1) * z_rl H0 V0 b - 1) / z_rl H0 V0 r - p * z_rl H0 V0 b / z_rl H0 V0 r + 1) ≤ 2130 * (H0 * V0) + 2 := by
    intro b hb
    have lb := z_rl_pos hH hV hb
    have hbe := z_rs_end (V := V0) hH hb
    have m1 : (p + 1) * z_rl H0 V0 b ≤ z_rl H0 V0 r * z_rl H0 V0 b := Nat.mul_le_mul_right _ (by omega)
    have m2 : 1 * 1 ≤ (p + 1) * z_rl H0 V0 b := Nat.mul_le_mul (by omega) lb.1
    have d1 : ((p + 1) * z_rl H0 V0 b - 1) / z_rl H0 V0 r < z_rl H0 V0 b := Nat.div_lt_of_lt_mul (by omega)
    have e : (p + 1) * z_rl H0 V0 b = p * z_rl H0 V0 b + z_rl H0 V0 b := Nat.succ_mul _ _
    have d2 : p * z_rl H0 V0 b / z_rl H0 V0 r ≤ ((p + 1) * z_rl H0 V0 b - 1) / z_rl H0 V0 r := Nat.div_le_div_right (by omega)
    generalize ((p + 1) * z_rl H0 V0 b - 1) / z_rl H0 V0 r = y at *
    generalize p * z_rl H0 V0 b / z_rl H0 V0 r = x at *
    exact ⟨by omega, by omega⟩
  rcases (show i = 0 ∨ i = 2 ∨ i = 1 ∨ i = 3 by omega) with rfl | rfl | rfl | rfl
  · rw [z_bM0, z_bF0]
    by_cases h0 : r = 0
    · rw [if_pos h0]; exact ⟨Nat.zero_le _, fun z => absurd rfl z⟩
    · rw [if_neg h0]; exact ⟨(key (r - 1) (by omega)).1, fun _ => (key (r - 1) (by omega)).2⟩
  · rw [z_bM2, z_bF2]
    by_cases h0 : r = 44 * H0 + 1
    · rw [if_pos h0]; exact ⟨Nat.zero_le _, fun z => absurd rfl z⟩
    · rw [if_neg h0]; exact ⟨(key (r + 1) (by omega)).1, fun _ => (key (r + 1) (by omega)).2⟩
  · have h2 : (p + 1) % z_rl H0 V0 r < z_rl H0 V0 r := Nat.mod_lt _ (by omega)
    rw [z_bM1, z_bF1]
    by_cases h0 : r = 0 ∨ r = 44 * H0 + 1
    · rw [if_pos h0]; exact ⟨Nat.zero_le _, fun z => absurd rfl z⟩
    · rw [if_neg h0]; exact ⟨by omega, fun _ => by omega⟩
  · have h2 : (p + (z_rl H0 V0 r - 1)) % z_rl H0 V0 r < z_rl H0 V0 r := Nat.mod_lt _ (by omega)
    rw [z_bM3, z_bF3]
    by_cases h0 : r = 0 ∨ r = 44 * H0 + 1
    · rw [if_pos h0]; exact ⟨Nat.zero_le _, fun z => absurd rfl z⟩
    · rw [if_neg h0]; exact ⟨by omega, fun _ => by omega⟩
theorem z_bM13 {H0 V0 r p : Nat} : z_bM H0 V0 r p 1 = z_bM H0 V0 r p 3 ∧ z_bM H0 V0 r p 1 ≤ 1 := by
  rw [z_bM1, z_bM3]
  exact ⟨rfl, by split <;> omega⟩
/-- the i-th of all neighbours, by keys -/
def l_nA (M F : Nat → Nat) (j : Nat) : Nat := if j < M 0 then F 0 + j else if j - M 0 < M 1 + M 3 then (if j - M 0 = 0 then (if F 3 < F 1 then F 3 else F 1) else (if F 3 ≤ F 1 then F 1 else F 3)) else F 2 + (j - M 0 - M 1 - M 3)
def l_tot (M : Nat → Nat) : Nat := M 0 + M 1 + M 2 + M 3
/-- rows of neighbours, as both sides have them -/
def l_MF (M F : Nat → Nat) : Prop := (M 1 = M 3 ∧ M 1 ≤ 1) ∧ ∀ i, i < 4 → M i ≤ 600000 ∧ (M i ≠ 0 → F i + M i ≤ 20000000)
theorem l_MF_of {R C H V : Nat → Nat} (g : CUT R C H V) (hl : l < 5) {r p : Nat} (hr : r ≤ 44 * H l + 1) (hp : p < z_rl (H l) (V l) r) : l_MF (z_bM (H l) (V l) r p) (z_bF (H l) (V l) r p) := by
  have hv := g.hv hl
  have hps := g.pos l hl
  have hs := g.sh hl
  refine ⟨z_bM13, fun i hi => ?_⟩
  obtain ⟨h1, h2⟩ := z_bB hps.1 hps.2 hr hp hi
  exact ⟨by omega, fun z => by have := h2 z; omega⟩
theorem r_besideKey {f m : Nat → Int32} {F M : Nat → Nat} (h : l_MF M F) (hfm : ∀ i, i < 4 → m i = nI (M i) ∧ (M i ≠ 0 → f i = nI (F i))) {i : Nat} (hi : i < l_tot M) : f_Spot_besideKey f m (nI i) = some (nI (l_nA M F i)) := by
  unfold l_tot at hi
  obtain ⟨⟨h13, h1⟩, hh⟩ := h
  obtain ⟨b0, s0⟩ := hh 0 (by omega)
  obtain ⟨b1, s1⟩ := hh 1 (by omega)
  obtain ⟨b2, s2⟩ := hh 2 (by omega)
  obtain ⟨b3, s3⟩ := hh 3 (by omega)
  obtain ⟨m0, f0⟩ := hfm 0 (by omega)
  obtain ⟨m1, f1⟩ := hfm 1 (by omega)
  obtain ⟨m2, f2⟩ := hfm 2 (by omega)
  obtain ⟨m3, f3⟩ := hfm 3 (by omega)
  unfold f_Spot_besideKey l_nA
  rw [show (0 : Int32) = nI 0 from rfl, z_ai (by omega) (by omega), m0]
  by_cases c0 : M 0 ≤ i
  · rw [if_pos (by rw [nI_leI (by omega) (by omega)]; exact c0), z_ai (by omega) (by omega), m0, z_nm, pk_sub c0, z_i 1, z_ai (by omega) (by omega), z_i 3, z_ai (by omega) (by omega), m1, m3, nI_add, if_neg (show ¬ i < M 0 by omega)]
    by_cases c1 : i - M 0 < M 1 + M 3
    · have n1 : M 1 ≠ 0 := by omega
      have n3 : M 3 ≠ 0 := by omega
      have t1 := s1 n1
      have t3 := s3 n3
      rw [if_pos (by rw [nI_ltI (by omega) (by omega)]; exact c1), if_pos c1]
      by_cases c2 : i - M 0 = 0
      · rw [if_pos (by rw [c2]), if_pos c2, z_ai (by omega) (by omega), z_ai (by omega) (by omega), z_nm, f1 n1, f3 n3]
        by_cases c3 : F 3 < F 1
        · rw [if_pos (by rw [nI_ltI (by omega) (by omega)]; exact c3), if_pos c3]
        · rw [if_neg (by rw [nI_ltI (by omega) (by omega)]; exact c3), if_neg c3]
      · rw [if_neg (by rw [nI_eq (by omega) (by omega)]; exact c2), if_neg c2, z_ai (by omega) (by omega), z_ai (by omega) (by omega), z_nm, f1 n1, f3 n3]
        by_cases c3 : F 1 < F 3
        · rw [if_pos (by rw [nI_ltI (by omega) (by omega)]; exact c3), if_neg (by omega)]
        · rw [if_neg (by rw [nI_ltI (by omega) (by omega)]; exact c3), if_pos (by omega)]
    · have n2 : M 2 ≠ 0 := by omega
      have t2 := s2 n2
      rw [if_neg (by rw [nI_ltI (by omega) (by omega)]; exact c1), if_neg c1, z_i 2, z_ai (by omega) (by omega), z_ai (by omega) (by omega), z_ai (by omega) (by omega), f2 n2, m1, m3, nI_add, pk_sub (by omega), pk_sub (by omega)]
      refine congrArg (fun z => some (nI z)) ?_
      omega
  · rw [if_neg (by rw [nI_leI (by omega) (by omega)]; exact c0), z_ai (by omega) (by omega), f0 (by omega), nI_add, if_pos (by omega)]
theorem r_allBeside {f m : Nat → Int32} {F M : Nat → Nat} (hfm : ∀ i, i < 4 → m i = nI (M i) ∧ (M i ≠ 0 → f i = nI (F i))) : f_Spot_allBeside m = some (nI (l_tot M)) := by
  unfold f_Spot_allBeside l_tot
  rw [show (0 : Int32) = nI 0 from rfl, z_ai (by omega) (by omega), z_i 1, z_ai (by omega) (by omega), z_i 2, z_ai (by omega) (by omega), z_i 3, z_ai (by omega) (by omega), (hfm 0 (by omega)).1, (hfm 1 (by omega)).1, (hfm 2 (by omega)).1, (hfm 3 (by omega)).1, nI_add, nI_add, nI_add]
theorem r_allBesideM_L {R C H V : Nat → Nat} (g : MOK R C H V cr cq dp wd za) (hN : 50 ≤ N) (hl : l < 5) {r p : Nat} (hr : r ≤ 44 * H l + 1) (hp : p < z_rl (H l) (V l) r) : ∀ n i t (a b : Int32), i ≤ 4 → 4 - i < n → (t = (if i = 0 then 0 else z_bM (H l) (V l) r p 0) + (if i ≤ 1 then 0 else z_bM (H l) (V l) r p 1) + (if i ≤ 2 then 0 else z_bM (H l) (V l) r p 2) + (if i ≤ 3 then 0 else z_bM (H l) (V l) r p 3)) → Ok (f_M_allBeside_L5 N dp wd za (nI l) (nI (z_rs (H l) (V l) r + p)) n (nI t) (nI i) a b) (fun x => x.1 = nI (l_tot (z_bM (H l) (V l) r p))) := by
  intro n
  induction n with
  | zero => intro i t a b h1 h2; omega
  | succ n ih =>
    intro i t a b h1 h2 ht
    unfold f_M_allBeside_L5
    refine Ok.ite (fun c => ?_) (fun c => ?_)
    all_goals rw [z_i 4, nI_leI (by omega) (by omega)] at c
    · have e : i = 4 := by omega
      subst e
      rw [if_neg (by omega), if_neg (by omega), if_neg (by omega), if_neg (by omega)] at ht
      exact Ok.ret (by rw [ht]; rfl)
    · obtain ⟨x, e2, -⟩ := r_laysBeside (N := N) g hN hl hr hp a b (i := i) (by omega)
      rw [e2, q_b2_s, nI_add, z_nm, z_i 1, nI_add, z_nm]
      refine ih (i + 1) _ _ _ (by omega) (by omega) ?_
      rcases (show i = 0 ∨ i = 1 ∨ i = 2 ∨ i = 3 by omega) with rfl | rfl | rfl | rfl
      · rw [if_pos rfl, if_pos (by omega), if_pos (by omega), if_pos (by omega)] at ht
        rw [if_neg (by omega), if_pos (by omega), if_pos (by omega), if_pos (by omega)]
        omega
      · rw [if_neg (by omega), if_pos (by omega), if_pos (by omega), if_pos (by omega)] at ht
        rw [if_neg (by omega), if_neg (by omega), if_pos (by omega), if_pos (by omega)]
        omega
      · rw [if_neg (by omega), if_neg (by omega), if_pos (by omega), if_pos (by omega)] at ht
        rw [if_neg (by omega), if_neg (by omega), if_neg (by omega), if_pos (by omega)]
        omega
      · rw [if_neg (by omega), if_neg (by omega), if_neg (by omega), if_pos (by omega)] at ht
        rw [if_neg (by omega), if_neg (by omega), if_neg (by omega), if_neg (by omega)]
        omega
theorem r_allBesideM {R C H V : Nat → Nat} (g : MOK R C H V cr cq dp wd za) (hN : 50 ≤ N) (hl : l < 5) {r p : Nat} (hr : r ≤ 44 * H l + 1) (hp : p < z_rl (H l) (V l) r) (a b : Int32) : Ok (f_M_allBeside N dp wd za a b (nI l) (nI (z_rs (H l) (V l) r + p))) (fun x => x.1 = nI (l_tot (z_bM (H l) (V l) r p))) := by
  unfold f_M_allBeside
  rw [z_nm, z_nm]
  exact Ok.b3 (r_allBesideM_L g hN hl hr hp N 0 0 a b (by omega) (by omega) (by rw [if_pos rfl, if_pos (by omega), if_pos (by omega), if_pos (by omega)])) (fun x1 x2 x3 h => Ok.ret h)
theorem r_besideAllM {R C H V : Nat → Nat} (g : MOK R C H V cr cq dp wd za) (hN : 50 ≤ N) (hl : l < 5) {r p : Nat} (hr : r ≤ 44 * H l + 1) (hp : p < z_rl (H l) (V l) r) (a b : Int32) {i : Nat} (hi : i < l_tot (z_bM (H l) (V l) r p)) : Ok (f_M_besideAll N dp wd za a b (nI l) (nI (z_rs (H l) (V l) r + p)) (nI i)) (fun x => x.1 = nI (l_nA (z_bM (H l) (V l) r p) (z_bF (H l) (V l) r p) i)) := by
  have hMF := l_MF_of g.2.2 hl hr hp
  unfold l_tot at hi
  obtain ⟨⟨h13, h1⟩, hh⟩ := hMF
  obtain ⟨b0, s0⟩ := hh 0 (by omega)
  obtain ⟨b1, s1⟩ := hh 1 (by omega)
  obtain ⟨b2, s2⟩ := hh 2 (by omega)
  obtain ⟨b3, s3⟩ := hh 3 (by omega)
  unfold f_M_besideAll l_nA
  obtain ⟨x0, e0, f0⟩ := r_laysBeside (N := N) g hN hl hr hp a b (i := 0) (by omega)
  rw [show (0 : Int32) = nI 0 from rfl, e0, q_b2_s]
  refine Ok.ite (fun c0 => ?_) (fun c0 => ?_)
  all_goals rw [nI_leI (by omega) (by omega)] at c0
  · obtain ⟨x1, e1, f1⟩ := r_laysBeside (N := N) g hN hl hr hp x0 (nI (z_bM (H l) (V l) r p 0)) (i := 1) (by omega)
    obtain ⟨x3, e3, f3⟩ := r_laysBeside (N := N) g hN hl hr hp x1 (nI (z_bM (H l) (V l) r p 1)) (i := 3) (by omega)
    obtain ⟨x2, e2, f2⟩ := r_laysBeside (N := N) g hN hl hr hp x3 (nI (z_bM (H l) (V l) r p 3)) (i := 2) (by omega)
    rw [pk_sub c0, z_nm, z_i 1, e1, q_b2_s, z_i 3, e3, q_b2_s, if_neg (show ¬ i < z_bM (H l) (V l) r p 0 by omega)]
    have K : 2 * z_bM (H l) (V l) r p 1 ≤ i - z_bM (H l) (V l) r p 0 → Ok (q_nm ((nI (i - z_bM (H l) (V l) r p 0) - (2 * nI (z_bM (H l) (V l) r p 1))) : Int32) (fun (v8 : Int32) => q_b2 (f_M_laysBeside N dp wd za x3 (nI (z_bM (H l) (V l) r p 3)) (nI l) (nI (z_rs (H l) (V l) r + p)) 2) (fun (v9 : Int32) (v10 : Int32) => if v10 ≤ v8 then (some ((-1), v9, v10)) else (some ((v9 + v8), v9, v10))))) (fun x : Int32 × Int32 × Int32 => x.1 = nI (if i - z_bM (H l) (V l) r p 0 < z_bM (H l) (V l) r p 1 + z_bM (H l) (V l) r p 3 then (if i - z_bM (H l) (V l) r p 0 = 0 then (if z_bF (H l) (V l) r p 3 < z_bF (H l) (V l) r p 1 then z_bF (H l) (V l) r p 3 else z_bF (H l) (V l) r p 1) else (if z_bF (H l) (V l) r p 3 ≤ z_bF (H l) (V l) r p 1 then z_bF (H l) (V l) r p 1 else z_bF (H l) (V l) r p 3)) else z_bF (H l) (V l) r p 2 + (i - z_bM (H l) (V l) r p 0 - z_bM (H l) (V l) r p 1 - z_bM (H l) (V l) r p 3))) := by
      intro h2
      rw [z_i 2, pk_mul, pk_sub h2, z_nm, e2, q_b2_s]
      refine Ok.ite (fun c => ?_) (fun c => ?_)
      all_goals rw [nI_leI (by omega) (by omega)] at c
      · omega
      · rw [f2 (by omega), nI_add, if_neg (by omega)]
        refine Ok.ret ?_
        refine congrArg nI ?_
        show z_bF (H l) (V l) r p 2 + (i - z_bM (H l) (V l) r p 0 - 2 * z_bM (H l) (V l) r p 1) = _
        omega
    refine Ok.j0 ?_
    by_cases hM1 : z_bM (H l) (V l) r p 1 = 1
    · have n3 : z_bM (H l) (V l) r p 3 ≠ 0 := by omega
      have t1 := s1 (by omega)
      have t3 := s3 n3
      rw [if_pos (show nI (z_bM (H l) (V l) r p 1) = nI 1 by rw [hM1])]
      refine Ok.ite (fun c => ?_) (fun c => ?_)
      all_goals rw [z_i 2, nI_leI (by omega) (by omega)] at c
      · exact K (by omega)
      · rw [f1 (by omega), f3 n3, if_pos (show i - z_bM (H l) (V l) r p 0 < z_bM (H l) (V l) r p 1 + z_bM (H l) (V l) r p 3 by omega)]
        refine Ok.j1 ?_
        by_cases c2 : i - z_bM (H l) (V l) r p 0 = 0
        · rw [if_pos (show nI (i - z_bM (H l) (V l) r p 0) = nI 0 by rw [c2]), if_pos c2]
          refine Ok.j1 ?_
          by_cases c3 : z_bF (H l) (V l) r p 3 ≤ z_bF (H l) (V l) r p 1
          · rw [if_pos (by rw [nI_leI (by omega) (by omega)]; exact c3)]
            dsimp only
            rw [if_neg (by decide)]
            by_cases c4 : z_bF (H l) (V l) r p 3 < z_bF (H l) (V l) r p 1
            · rw [if_pos c4]; exact Ok.ret rfl
            · rw [if_neg c4]; exact Ok.ret (congrArg nI (show z_bF (H l) (V l) r p 3 = z_bF (H l) (V l) r p 1 by omega))
          · rw [if_neg (by rw [nI_leI (by omega) (by omega)]; exact c3)]
            dsimp only
            rw [if_pos rfl, if_neg (by omega)]
            exact Ok.ret rfl
        · rw [if_neg (show ¬ nI (i - z_bM (H l) (V l) r p 0) = nI 0 by rw [nI_eq (by omega) (by omega)]; exact c2), if_neg c2]
          refine Ok.j1 ?_
          by_cases c3 : z_bF (H l) (V l) r p 3 ≤ z_bF (H l) (V l) r p 1
          · rw [if_pos (by rw [nI_leI (by omega) (by omega)]; exact c3), if_pos c3]
            dsimp only
            rw [if_pos rfl]
            exact Ok.ret rfl
          · rw [if_neg (by rw [nI_leI (by omega) (by omega)]; exact c3), if_neg c3]
            dsimp only
            rw [if_neg (by decide)]
            exact Ok.ret rfl
    · rw [if_neg (show ¬ nI (z_bM (H l) (V l) r p 1) = nI 1 by rw [nI_eq (by omega) (by omega)]; exact hM1)]
      exact K (by omega)
  · rw [if_pos (show i < z_bM (H l) (V l) r p 0 by omega), f0 (by omega), nI_add]
    exact Ok.ret rfl
/-! around -/
def l_Caround (sv : l_T) (p q i : Int32) : Prop := z_hs (z_pr (l_R sv)) (z_pr (l_C sv)) p q ∧ -1 ≤ i
def l_Faround (sv : l_T) (i : Int32) (s : Nat × Nat × Nat × Nat) : Int32 := if i = -1 then nI (l_tot (l_bM sv s.1 s.2.2.1 s.2.2.2)) else if nI (l_tot (l_bM sv s.1 s.2.2.1 s.2.2.2)) ≤ i then -2 else nI (l_nA (l_bM sv s.1 s.2.2.1 s.2.2.2) (l_bF sv s.1 s.2.2.1 s.2.2.2) i.toInt.toNat)
def l_aaround (sv : l_T) (p q i r : Int32) : Prop := l_rel (l_Caround sv p q i) (-1) (l_sp sv p q) (l_Faround sv i) r
theorem l_aaround_one {p q i r r' : Int32} (h : l_ok sv) (h1 : l_aaround sv p q i r) (h2 : l_aaround sv p q i r') : r = r' := l_rel_one (l_sp_one h) h1 h2
/-- an index that is none of -1 and below a number -/
theorem l_idx {M : Nat} {i : Int32} (hM : M < 2 ^ 31) (h1 : -1 ≤ i) (h2 : ¬ i = -1) (h3 : ¬ nI M ≤ i) : ∃ j, j < M ∧ i = nI j ∧ i.toInt.toNat = j := by
  have h0 : 0 ≤ i.toInt := z_nn h1 h2
  obtain ⟨j, hj, rfl, hjj⟩ := z_nat h0
  rw [nI_leI hM hj] at h3
  exact ⟨j, by omega, rfl, by rw [hjj]; rfl⟩
theorem a_x_around (g : GOK (l_R sv) (l_C sv) (z_pr (l_R sv)) (z_pr (l_C sv)) rc cc br zc rw sh) (hN : 1000000 ≤ N) (f m : Nat → Int32) (a1 a2 a3 a4 a5 a6 p q i : Int32) : Ok (f_X_around N f m a1 a2 a3 a4 a5 a6 br zc rw sh p q i) (fun x => l_aaround sv p q i x.1) := by
  unfold f_X_around
  refine Ok.b1 (r_hasSheet g p q) (fun v1 h1 => ?_)
  rcases h1 with ⟨z, rfl⟩ | ⟨z, rfl⟩
  rotate_left
  · exact Ok.ite (fun _ => Ok.ret (l_relN (fun u => z u.1))) (fun c => absurd rfl c)
  refine Ok.ite (fun c => absurd c (by decide)) (fun _ => ?_)
  refine Ok.ite (fun hi => ?_) (fun hi => Ok.ret (l_relN (fun u => hi u.2)))
  have z' := z
  obtain ⟨l, k, hl, rfl, rfl, hk⟩ := z'
  have hs := g.2.sh hl
  obtain ⟨ro, pl, e, d1, d2, d3⟩ := k_put (N := N) g (by omega) hl hk a1 a2 a3 a4 a5 a6
  obtain ⟨f', m', e2, hfm⟩ := r_lookAround g hl d1 d2 f m
  have hMF := l_MF_of g.2 hl d1 d2
  have hsp : l_sp sv (nI l) (nI k) (l, k, ro, pl) := ⟨⟨hl, (show k < 20000000 by omega), d1, d2, d3⟩, rfl, rfl⟩
  have hb : l_tot (l_bM sv l ro pl) < 2 ^ 31 := by
    have h0 := (hMF.2 0 (by omega)).1
    have h1 := (hMF.2 1 (by omega)).1
    have h2 := (hMF.2 2 (by omega)).1
    have h3 := (hMF.2 3 (by omega)).1
    unfold l_tot l_bM
    omega
  rw [e, q_b6_s, e2, q_b2_s, r_allBeside hfm, q_b1_s, q_b1_s]
  refine Ok.ite (fun c1 => Ok.ret (l_relY ⟨z, hi⟩ hsp ?_)) (fun c1 => ?_)
  · unfold l_Faround; rw [if_pos c1]; rfl
  refine Ok.ite (fun c2 => Ok.ret (l_relY ⟨z, hi⟩ hsp ?_)) (fun c2 => ?_)
  · unfold l_Faround; rw [if_neg c1]; exact (if_pos c2).symm
  obtain ⟨j, hj, rfl, hjj⟩ := l_idx hb hi c1 c2
  rw [r_besideKey hMF hfm hj, q_b1_s]
  refine Ok.ret (l_relY ⟨z, hi⟩ hsp ?_)
  unfold l_Faround
  rw [if_neg c1, hjj]
  exact (if_neg c2).symm
theorem a_m_around (g : MOK (l_R sv) (l_C sv) (z_pr (l_R sv)) (z_pr (l_C sv)) cr cq dp wd za) (hN : 1000000 ≤ N) (fb mb p q i : Int32) : Ok (f_M_around N dp wd za fb mb p q i) (fun x => l_aaround sv p q i x.1) := by
  unfold f_M_around
  refine Ok.b1 (r_isKey g p q) (fun v1 h1 => ?_)
  rcases h1 with ⟨z, rfl⟩ | ⟨z, rfl⟩
  rotate_left
  · exact Ok.ite (fun _ => Ok.ret (l_relN (fun u => z u.1))) (fun c => absurd rfl c)
  refine Ok.ite (fun c => absurd c (by decide)) (fun _ => ?_)
  refine Ok.ite (fun hi => ?_) (fun hi => Ok.ret (l_relN (fun u => hi u.2)))
  have z' := z
  obtain ⟨l, k, hl, rfl, rfl, hk⟩ := z'
  have hs := g.2.2.sh hl
  obtain ⟨ro, pl, d1, d2, d3, -, -⟩ := t_spot (N := N) g (by omega) hl hk
  have hMF := l_MF_of g.2.2 hl d1 d2
  have hsp : l_sp sv (nI l) (nI k) (l, k, ro, pl) := ⟨⟨hl, (show k < 20000000 by omega), d1, d2, d3⟩, rfl, rfl⟩
  have hb : l_tot (l_bM sv l ro pl) < 2 ^ 31 := by
    have h0 := (hMF.2 0 (by omega)).1
    have h1 := (hMF.2 1 (by omega)).1
    have h2 := (hMF.2 2 (by omega)).1
    have h3 := (hMF.2 3 (by omega)).1
    unfold l_tot l_bM
    omega
  have e1 := r_allBesideM (N := N) g (by omega) hl d1 d2 fb mb
  rw [← d3] at e1
  refine Ok.b3 e1 (fun v2 v3 v4 h2 => ?_)
  dsimp only at h2
  subst h2
  refine Ok.ite (fun c1 => Ok.ret (l_relY ⟨z, hi⟩ hsp ?_)) (fun c1 => ?_)
  · unfold l_Faround; rw [if_pos c1]; rfl
  refine Ok.ite (fun c2 => Ok.ret (l_relY ⟨z, hi⟩ hsp ?_)) (fun c2 => ?_)
  · unfold l_Faround; rw [if_neg c1]; exact (if_pos c2).symm
  obtain ⟨j, hj, rfl, hjj⟩ := l_idx hb hi c1 c2
  have e2 := r_besideAllM (N := N) g (by omega) hl d1 d2 v3 v4 hj
  rw [← d3] at e2
  refine Ok.b3 e2 (fun v5 v6 v7 h5 => Ok.ret (l_relY ⟨z, hi⟩ hsp ?_))
  dsimp only at h5
  subst h5
  unfold l_Faround
  rw [if_neg c1, hjj]
  exact (if_neg c2).symm
end S6A
end
section
/-! answers: bands -/
section S11A
variable {R C H V : Nat → Nat} {rc cc br zc rw sh cr cq dp wd za : Nat → Int32} {sv : l_T} {N l t : Nat}
theorem z_klt {H0 V0 r p k b : Nat} (hH : 1 ≤ H0) (hV : 1 ≤ V0) (hr : r ≤ 44 * H0 + 1) (hp : p < z_rl H0 V0 r) (hk : k = z_rs H0 V0 r + p) (hb : b ≤ 44 * H0 + 1) : k < z_rs H0 V0 b ↔ r < b := by
  constructor
  · intro h
    apply Nat.lt_of_not_le
    intro c
    rcases Nat.lt_or_eq_of_le c with c | c
    · have := z_rs_mono (V := V0) hH r hr b c
      omega
    · subst c; omega
  · intro h
    have := z_rs_mono (V := V0) hH b hb r h
    omega
/-- bands ahead of a row; bands up to a row -/
def z_blo (H0 r : Nat) : Nat := if r = 0 then 0 else if r = 44 * H0 + 1 then 44 else (r - 1) / H0
def z_bhi (H0 r : Nat) : Nat := if r = 0 then 0 else if r = 44 * H0 + 1 then 44 else (r - 1) / H0 + 1
theorem z_blo_iff {H0 r q : Nat} (hH : 1 ≤ H0) (hr : r ≤ 44 * H0 + 1) (hq : q < 44) : r < (q + 1) * H0 + 1 ↔ z_blo H0 r ≤ q := by
  have hq2 : (q + 1) * H0 ≤ 44 * H0 := Nat.mul_le_mul_right _ hq
  unfold z_blo
  by_cases c0 : r = 0
  · rw [if_pos c0]; omega
  rw [if_neg c0]
  by_cases c1 : r = 44 * H0 + 1
  · rw [if_pos c1]; omega
  rw [if_neg c1]
  have e : (r - 1) / H0 < q + 1 ↔ r - 1 < (q + 1) * H0 := Nat.div_lt_iff_lt_mul hH
  omega
theorem z_bhi_iff {H0 r q : Nat} (hH : 1 ≤ H0) (hr : r ≤ 44 * H0 + 1) (hq : q < 44) : q * H0 + 1 ≤ r ↔ q < z_bhi H0 r := by
  have hq2 : (q + 1) * H0 ≤ 44 * H0 := Nat.mul_le_mul_right _ hq
  rw [Nat.succ_mul] at hq2
  unfold z_bhi
  by_cases c0 : r = 0
  · rw [if_pos c0]; omega
  rw [if_neg c0]
  by_cases c1 : r = 44 * H0 + 1
  · rw [if_pos c1]; omega
  rw [if_neg c1]
  have e : q ≤ (r - 1) / H0 ↔ q * H0 ≤ r - 1 := Nat.le_div_iff_mul_le hH
  omega
theorem r_x_bands_L (g : GOK R C H V rc cc br zc rw sh) (hl : l < 5) {k k2 lo hi : Nat} (hk : k < 2130 * (H l * V l) + 2) (hk2 : k2 < 2130 * (H l * V l) + 2) (hhi : hi ≤ 44) (hlo : ∀ q, q < 44 → (k < z_rs (H l) (V l) ((q + 1) * H l + 1) ↔ lo ≤ q)) (hhi2 : ∀ q, q < 44 → (z_rs (H l) (V l) (q * H l + 1) ≤ k2 ↔ q < hi)) : ∀ u i c, i ≤ 44 → 44 - i < u → c ≤ i → Ok (f_X_bands_L23 br rw sh zc (nI l) (nI k) (nI k2) u (nI c) (nI i)) (fun x => x = nI (c + (hi - (if lo ≤ i then i else lo)))) := by
  have hs := g.2.sh hl
  have hv := g.2.hv hl
  have hps := g.2.pos l hl
  intro u
  induction u with
  | zero => intro i c h1 h2; omega
  | succ u ih =>
    intro i c h1 h2 hc
    unfold f_X_bands_L23
    refine Ok.ite (fun d => ?_) (fun d => ?_)
    all_goals rw [z_i 44, nI_leI (by omega) (by omega)] at d
    · have e : i = 44 := by omega
      subst e
      refine Ok.ret (congrArg nI ?_)
      split <;> omega
    have hi44 : i < 44 := by omega
    have m1 : i * H l ≤ 43 * H l := Nat.mul_le_mul_right _ (by omega)
    have m2 : (i + 1) * H l ≤ 44 * H l := Nat.mul_le_mul_right _ (by omega)
    have r1 := z_rs_end (V := V l) (r := i * H l + 1) hps.1 (by omega)
    have r2 := z_rs_end (V := V l) (r := (i + 1) * H l + 1) hps.1 (by omega)
    have a1 := hlo i hi44
    have a2 := hhi2 i hi44
    rw [z_ai hl (by omega), (g.at hl).2.2.1, pk_mul, nI_1, k_rowStart g hl (by omega), q_b1_s, z_ai hl (by omega), (g.at hl).2.2.1, nI_1, pk_mul, nI_1, k_rowStart g hl (by omega), q_b1_s]
    refine Ok.j1 ?_
    refine Ok.ite (fun c1 => ?_) (fun c1 => ?_)
    all_goals rw [nI_leI (by omega) (by omega)] at c1
    · dsimp only
      rw [z_nm]
      have hl2 : ¬ lo ≤ i := fun z => absurd (a1.mpr z) (by omega)
      refine Ok.weak (ih (i + 1) c (by omega) (by omega) (by omega)) (fun x hx => ?_)
      rw [hx, if_neg hl2]
      by_cases e : lo ≤ i + 1
      · rw [if_pos e, show lo = i + 1 by omega]
      · rw [if_neg e]
    have hl2 : lo ≤ i := a1.mp (by omega)
    refine Ok.ite (fun c2 => ?_) (fun c2 => ?_)
    all_goals rw [nI_ltI (by omega) (by omega)] at c2
    · dsimp only
      rw [z_nm]
      have hh : ¬ i < hi := fun z => absurd (a2.mpr z) (by omega)
      refine Ok.weak (ih (i + 1) c (by omega) (by omega) (by omega)) (fun x hx => ?_)
      rw [hx, if_pos (show lo ≤ i + 1 by omega), if_pos hl2, show hi - (i + 1) = 0 by omega, show hi - i = 0 by omega]
    · have hh : i < hi := a2.mp (by omega)
      rw [nI_1, z_nm]
      dsimp only
      rw [z_nm]
      refine Ok.weak (ih (i + 1) (c + 1) (by omega) (by omega) (by omega)) (fun x hx => ?_)
      rw [hx, if_pos (show lo ≤ i + 1 by omega), if_pos hl2]
      exact congrArg nI (by omega)
def l_Cbands (sv : l_T) (p q w : Int32) : Prop := (l_hs sv p q ∧ l_hs sv p w) ∧ q ≤ w
def l_Sbands (sv : l_T) (p q w : Int32) (s : (Nat × Nat × Nat × Nat) × (Nat × Nat × Nat × Nat)) : Prop := l_sp sv p q s.1 ∧ l_sp sv p w s.2
def l_Fbands (sv : l_T) (s : (Nat × Nat × Nat × Nat) × (Nat × Nat × Nat × Nat)) : Int32 := nI (z_bhi (z_pr (l_R sv) s.1.1) s.2.2.2.1 - z_blo (z_pr (l_R sv) s.1.1) s.1.2.2.1)
def l_abands (sv : l_T) (p q w r : Int32) : Prop := l_rel (l_Cbands sv p q w) (-1) (l_Sbands sv p q w) (l_Fbands sv) r
theorem l_S2_one {p q w : Int32} (h : l_ok sv) : ∀ s s' : (Nat × Nat × Nat × Nat) × (Nat × Nat × Nat × Nat), l_Sbands sv p q w s → l_Sbands sv p q w s' → s = s' := by
  intro ⟨s1, s2⟩ ⟨t1, t2⟩ ⟨a, b⟩ ⟨a', b'⟩
  have e1 := l_sp_one h s1 t1 a a'
  have e2 := l_sp_one h s2 t2 b b'
  rw [e1, e2]
theorem l_abands_one {p q w r r' : Int32} (h : l_ok sv) (h1 : l_abands sv p q w r) (h2 : l_abands sv p q w r') : r = r' := l_rel_one (l_S2_one h) h1 h2
/-- where two sheets of a level lie -/
theorem l_two (g : CUT (l_R sv) (l_C sv) (z_pr (l_R sv)) (z_pr (l_C sv))) {p q w : Int32} (h1 : l_hs sv p q) (h2 : l_hs sv p w) : ∃ l k k2, l < 5 ∧ p = nI l ∧ q = nI k ∧ w = nI k2 ∧ k < 2130 * (z_pr (l_R sv) l * z_pr (l_C sv) l) + 2 ∧ k2 < 2130 * (z_pr (l_R sv) l * z_pr (l_C sv) l) + 2 := by
  obtain ⟨l, k, hl, rfl, rfl, hk⟩ := h1
  obtain ⟨l', k2, hl', e0, rfl, hk2⟩ := h2
  have e1 : l = l' := by rw [nI_eq (by omega) (by omega)] at e0; exact e0
  subst e1
  exact ⟨l, k, k2, hl, rfl, rfl, rfl, hk, hk2⟩
theorem a_x_bands (g : GOK (l_R sv) (l_C sv) (z_pr (l_R sv)) (z_pr (l_C sv)) rc cc br zc rw sh) (hN : 1000000 ≤ N) (p q w : Int32) : Ok (f_X_bands N br zc rw sh p q w) (fun x => l_abands sv p q w x) := by
  unfold f_X_bands
  refine Ok.b1 (r_areSheets g p q w) (fun v1 h1 => ?_)
  rcases h1 with ⟨z, rfl⟩ | ⟨z, rfl⟩
  rotate_left
  · exact Ok.ite (fun _ => Ok.ret (l_relN (fun u => z u.1))) (fun c => absurd rfl c)
  refine Ok.ite (fun c => absurd c (by decide)) (fun _ => Ok.ite (fun hi => ?_) (fun hi => Ok.ret (l_relN (fun u => hi u.2))))
  obtain ⟨l, k, k2, hl, rfl, rfl, rfl, hk, hk2⟩ := l_two g.2 z.1 z.2
  have hs := g.2.sh hl
  have hv := g.2.hv hl
  have hps := g.2.pos l hl
  obtain ⟨ro, er, d1, d2, d3⟩ := k_rowOfKey (N := N) g (by omega) hl hk
  obtain ⟨ro2, er2, f1, f2, f3⟩ := k_rowOfKey (N := N) g (by omega) hl hk2
  have hsp : l_Sbands sv (nI l) (nI k) (nI k2) ((l, k, ro, k - z_rs (z_pr (l_R sv) l) (z_pr (l_C sv) l) ro), (l, k2, ro2, k2 - z_rs (z_pr (l_R sv) l) (z_pr (l_C sv) l) ro2)) := ⟨⟨⟨hl, (show k < 20000000 by omega), d1, (show k - z_rs (z_pr (l_R sv) l) (z_pr (l_C sv) l) ro < z_rl (z_pr (l_R sv) l) (z_pr (l_C sv) l) ro by omega), (show k = z_rs (z_pr (l_R sv) l) (z_pr (l_C sv) l) ro + (k - z_rs (z_pr (l_R sv) l) (z_pr (l_C sv) l) ro) by omega)⟩, rfl, rfl⟩, ⟨⟨hl, (show k2 < 20000000 by omega), f1, (show k2 - z_rs (z_pr (l_R sv) l) (z_pr (l_C sv) l) ro2 < z_rl (z_pr (l_R sv) l) (z_pr (l_C sv) l) ro2 by omega), (show k2 = z_rs (z_pr (l_R sv) l) (z_pr (l_C sv) l) ro2 + (k2 - z_rs (z_pr (l_R sv) l) (z_pr (l_C sv) l) ro2) by omega)⟩, rfl, rfl⟩⟩
  have b1 : z_bhi (z_pr (l_R sv) l) ro2 ≤ 44 := by
    unfold z_bhi
    by_cases c0 : ro2 = 0
    · rw [if_pos c0]; omega
    rw [if_neg c0]
    by_cases c1 : ro2 = 44 * z_pr (l_R sv) l + 1
    · rw [if_pos c1]; omega
    rw [if_neg c1]
    have := z_q (r := ro2) (H := z_pr (l_R sv) l) (by omega) (by omega)
    omega
  have L1 : ∀ q, q < 44 → (k < z_rs (z_pr (l_R sv) l) (z_pr (l_C sv) l) ((q + 1) * z_pr (l_R sv) l + 1) ↔ z_blo (z_pr (l_R sv) l) ro ≤ q) := fun q hq => by
    have m2 : (q + 1) * z_pr (l_R sv) l ≤ 44 * z_pr (l_R sv) l := Nat.mul_le_mul_right _ hq
    rw [z_klt hps.1 hps.2 d1 (p := k - z_rs (z_pr (l_R sv) l) (z_pr (l_C sv) l) ro) (by omega) (by omega) (by omega)]
    exact z_blo_iff hps.1 d1 hq
  have L2 : ∀ q, q < 44 → (z_rs (z_pr (l_R sv) l) (z_pr (l_C sv) l) (q * z_pr (l_R sv) l + 1) ≤ k2 ↔ q < z_bhi (z_pr (l_R sv) l) ro2) := fun q hq => by
    have m2 : q * z_pr (l_R sv) l ≤ 44 * z_pr (l_R sv) l := Nat.mul_le_mul_right _ (by omega)
    have t := z_klt (V0 := z_pr (l_C sv) l) (k := k2) (b := q * z_pr (l_R sv) l + 1) hps.1 hps.2 f1 (p := k2 - z_rs (z_pr (l_R sv) l) (z_pr (l_C sv) l) ro2) (by omega) (by omega) (by omega)
    have t2 := z_bhi_iff (r := ro2) hps.1 f1 hq
    omega
  have I := r_x_bands_L g hl hk hk2 b1 L1 L2 N 0 0 (by omega) (by omega) (by omega)
  rw [z_nm, z_nm]
  refine Ok.b1 I (fun v h => Ok.ret (l_relY ⟨z, hi⟩ hsp ?_))
  rw [h]
  unfold l_Fbands
  refine congrArg nI ?_
  dsimp only
  split <;> omega
theorem a_m_bands (g : MOK (l_R sv) (l_C sv) (z_pr (l_R sv)) (z_pr (l_C sv)) cr cq dp wd za) (hN : 1000000 ≤ N) (p q w : Int32) : Ok (f_M_bands N dp wd za p q w) (fun x => l_abands sv p q w x) := by
  unfold f_M_bands
  refine Ok.b1 (r_isKey g p q) (fun v1 h1 => ?_)
  rcases h1 with ⟨z1, rfl⟩ | ⟨z, rfl⟩
  rotate_left
  · exact Ok.ite (fun _ => Ok.ret (l_relN (fun u => z u.1.1))) (fun c => absurd rfl c)
  refine Ok.ite (fun c => absurd c (by decide)) (fun _ => Ok.b1 (r_isKey g p w) (fun v2 h2 => ?_))
  rcases h2 with ⟨z2, rfl⟩ | ⟨z, rfl⟩
  rotate_left
  · exact Ok.ite (fun _ => Ok.ret (l_relN (fun u => z u.1.2))) (fun c => absurd rfl c)
  refine Ok.ite (fun c => absurd c (by decide)) (fun _ => Ok.ite (fun hi => ?_) (fun hi => Ok.ret (l_relN (fun u => hi u.2))))
  obtain ⟨l, k, k2, hl, rfl, rfl, rfl, hk, hk2⟩ := l_two g.2.2 z1 z2
  have hs := g.2.2.sh hl
  have hv := g.2.2.hv hl
  have hps := g.2.2.pos l hl
  obtain ⟨ro, er, d1, d2, d3⟩ := m_rowOf (N := N) g (by omega) hl hk
  obtain ⟨ro2, er2, f1, f2, f3⟩ := m_rowOf (N := N) g (by omega) hl hk2
  have hkk : k ≤ k2 := (nI_leI (by omega) (by omega)).mp hi
  have hrr : ro ≤ ro2 := by
    apply Nat.le_of_not_lt
    intro c
    have := z_rs_mono (V := z_pr (l_C sv) l) hps.1 ro d1 ro2 c
    omega
  have hsp : l_Sbands sv (nI l) (nI k) (nI k2) ((l, k, ro, k - z_rs (z_pr (l_R sv) l) (z_pr (l_C sv) l) ro), (l, k2, ro2, k2 - z_rs (z_pr (l_R sv) l) (z_pr (l_C sv) l) ro2)) := ⟨⟨⟨hl, (show k < 20000000 by omega), d1, (show k - z_rs (z_pr (l_R sv) l) (z_pr (l_C sv) l) ro < z_rl (z_pr (l_R sv) l) (z_pr (l_C sv) l) ro by omega), (show k = z_rs (z_pr (l_R sv) l) (z_pr (l_C sv) l) ro + (k - z_rs (z_pr (l_R sv) l) (z_pr (l_C sv) l) ro) by omega)⟩, rfl, rfl⟩, ⟨⟨hl, (show k2 < 20000000 by omega), f1, (show k2 - z_rs (z_pr (l_R sv) l) (z_pr (l_C sv) l) ro2 < z_rl (z_pr (l_R sv) l) (z_pr (l_C sv) l) ro2 by omega), (show k2 = z_rs (z_pr (l_R sv) l) (z_pr (l_C sv) l) ro2 + (k2 - z_rs (z_pr (l_R sv) l) (z_pr (l_C sv) l) ro2) by omega)⟩, rfl, rfl⟩⟩
  have fin : ∀ r, r = nI (z_bhi (z_pr (l_R sv) l) ro2 - z_blo (z_pr (l_R sv) l) ro) → Ok (some r) (fun x => l_abands sv (nI l) (nI k) (nI k2) x) := fun r h => Ok.ret (l_relY ⟨⟨z1, z2⟩, hi⟩ hsp h)
  have q1 : ∀ x, 1 ≤ x → x ≤ 44 * z_pr (l_R sv) l → (x - 1) / z_pr (l_R sv) l < 44 := fun x a b => z_q a b
  have K : ∀ a b, (ro = 0 → a = 1) → (ro ≠ 0 → a = ro) → (ro2 = 44 * z_pr (l_R sv) l + 1 → b = ro2 - 1) → (ro2 ≠ 44 * z_pr (l_R sv) l + 1 → b = ro2) → Ok (if nI a ≤ nI b then (q_b1 (f_M_bandOf dp (nI l) (nI b)) (fun (v8 : Int32) => q_b1 (f_M_bandOf dp (nI l) (nI a)) (fun (v9 : Int32) => some ((v8 - v9) + 1)))) else (some 0)) (fun x => l_abands sv (nI l) (nI k) (nI k2) x) := by
    intro a b a1 a2 b1 b2
    have ha : 1 ≤ a ∧ a ≤ 44 * z_pr (l_R sv) l + 1 := by
      by_cases c : ro = 0
      · have := a1 c; omega
      · have := a2 c; omega
    have hb : b ≤ 44 * z_pr (l_R sv) l := by
      by_cases c : ro2 = 44 * z_pr (l_R sv) l + 1
      · have := b1 c; omega
      · have := b2 c; omega
    have hH1 : 1 ≤ z_pr (l_R sv) l := hps.1
    refine Ok.ite (fun c => ?_) (fun c => ?_)
    all_goals rw [nI_leI (by omega) (by omega)] at c
    · rw [m_bandOf g hl (by omega) hb, q_b1_s, m_bandOf g hl ha.1 (by omega), q_b1_s]
      have hd : (a - 1) / z_pr (l_R sv) l ≤ (b - 1) / z_pr (l_R sv) l := Nat.div_le_div_right (by omega)
      rw [pk_sub hd, nI_1]
      refine fin _ (congrArg nI ?_)
      have elo : z_blo (z_pr (l_R sv) l) ro = (a - 1) / z_pr (l_R sv) l := by
        unfold z_blo
        by_cases c0 : ro = 0
        · rw [if_pos c0, a1 c0, Nat.sub_self, Nat.zero_div]
        · have := a2 c0
          rw [if_neg c0, if_neg (show ¬ ro = 44 * z_pr (l_R sv) l + 1 by omega), this]
      have ehi : z_bhi (z_pr (l_R sv) l) ro2 = (b - 1) / z_pr (l_R sv) l + 1 := by
        unfold z_bhi
        have c0 : ¬ ro2 = 0 := by
          by_cases c1 : ro2 = 44 * z_pr (l_R sv) l + 1
          · omega
          · have := b2 c1; omega
        rw [if_neg c0]
        by_cases c1 : ro2 = 44 * z_pr (l_R sv) l + 1
        · have e := b1 c1
          rw [if_pos c1, e, c1]
          have : (44 * z_pr (l_R sv) l + 1 - 1 - 1) / z_pr (l_R sv) l = 43 := by
            rw [show 44 * z_pr (l_R sv) l + 1 - 1 - 1 = z_pr (l_R sv) l * 43 + (z_pr (l_R sv) l - 1) by omega, Nat.mul_add_div (by omega), Nat.div_eq_of_lt (by omega)]
          rw [this]
        · rw [if_neg c1, b2 c1]
      rw [elo, ehi]
      omega
    · refine fin _ ?_
      have e : z_bhi (z_pr (l_R sv) l) ro2 - z_blo (z_pr (l_R sv) l) ro = 0 := by
        unfold z_bhi z_blo
        by_cases c0 : ro2 = 0
        · rw [if_pos c0]; omega
        rw [if_neg c0]
        by_cases c1 : ro2 = 44 * z_pr (l_R sv) l + 1
        · rw [if_pos c1]
          have := b1 c1
          by_cases c2 : ro = 0
          · have := a1 c2; omega
          · have := a2 c2
            rw [if_neg c2, if_pos (show ro = 44 * z_pr (l_R sv) l + 1 by omega)]
        · have := b2 c1
          by_cases c2 : ro = 0
          · have := a1 c2; omega
          · have := a2 c2; omega
      rw [e]; rfl
  rw [er, q_b1_s, er2, q_b1_s]
  refine Ok.j1 ?_
  by_cases c0 : ro = 0
  · rw [if_pos (show nI ro = 0 by rw [c0]; rfl)]
    dsimp only
    rw [m_lastRow g hl, q_b1_s]
    refine Ok.j1 ?_
    by_cases c1 : ro2 = 44 * z_pr (l_R sv) l + 1
    · rw [if_pos (show nI ro2 = nI (44 * z_pr (l_R sv) l + 1) by rw [c1]), z_sub1 (show 1 ≤ ro2 by omega)]
      exact K 1 (ro2 - 1) (fun _ => rfl) (fun z => absurd c0 z) (fun _ => rfl) (fun z => absurd c1 z)
    · rw [if_neg (show ¬ nI ro2 = nI (44 * z_pr (l_R sv) l + 1) by rw [nI_eq (by omega) (by omega)]; exact c1)]
      exact K 1 ro2 (fun _ => rfl) (fun z => absurd c0 z) (fun z => absurd z c1) (fun _ => rfl)
  · rw [if_neg (show ¬ nI ro = 0 by rw [z_eq0 (by omega)]; exact c0)]
    dsimp only
    rw [m_lastRow g hl, q_b1_s]
    refine Ok.j1 ?_
    by_cases c1 : ro2 = 44 * z_pr (l_R sv) l + 1
    · rw [if_pos (show nI ro2 = nI (44 * z_pr (l_R sv) l + 1) by rw [c1]), z_sub1 (show 1 ≤ ro2 by omega)]
      exact K ro (ro2 - 1) (fun z => absurd z c0) (fun _ => rfl) (fun _ => rfl) (fun z => absurd c1 z)
    · rw [if_neg (show ¬ nI ro2 = nI (44 * z_pr (l_R sv) l + 1) by rw [nI_eq (by omega) (by omega)]; exact c1)]
      exact K ro ro2 (fun z => absurd z c0) (fun _ => rfl) (fun z => absurd z c1) (fun _ => rfl)
end S11A
end
