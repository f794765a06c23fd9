/-! the law: what holds in it; from a place on with any good state -/
def lL_C (p : Program) (l : Launch) (e : Env) (s : State) (m : MethodId) (below : List Frame) (meth : Method) (c : Code) (b L : Nat) (xs : Nat → Int32) (D : va_G) (ci : Nat → ClassId) (sa : Nat → Nat) : Prop := p.tables.exec = Jvm.exec ∧ c.code = cL_law ∧ c.maxLocals = 4 ∧ s.vm.findClass RL = some m.cls ∧ (∀ w ∈ wsL_law, w.before #[Value.ref b] s = true) ∧ va_X b L xs s s.heap ∧ b < s.heap.size ∧ va_K D vwCl (q_tys ci) s ∧ q_Z (fun q : Nat => s.heap.size ≤ q) sa s ∧ meth.sig.returnType = ret ∧ meth.locks = false ∧ L ≤ 4096
def lL_go (p : Program) (l : Launch) (e : Env) (s : State) (m : MethodId) (below : List Frame) (meth : Method) (c : Code) (b L : Nat) (xs : Nat → Int32) (D : va_G) (ci : Nat → ClassId) (sa : Nat → Nat) (a_x a_m : Nat) (ls : Array Slot) (pc : Nat) : Prop := ∀ (WX WM : va_W) (t n s0 : Nat) (sv : l_T) (kv : Nat → l_T) (H : Heap) (locs : List Loc) (cells slots : Nat), XI ci a_x WX t n s0 sv kv → MI ci a_m WM t s0 sv kv → va_P D vwCl (WX ++ WM) H → va_D (fun q : Nat => s.heap.size ≤ q) (WX ++ WM) → va_S (fun q : Nat => s.heap.size ≤ q) s.heap H locs → cells ≤ 200 + n → 1000 * slots ≤ 45000000 + n * n + 2000 * n → W p l e room_1 s m #[Value.ref b] below meth c H locs cells slots (lw_Z below #[Value.ref b] s) (F0 m pc ls [])
theorem XI.hd {ci : Nat → ClassId} {a_x t n s0 : Nat} {Wd : va_W} {sv : l_T} {kv : Nat → l_T} (h : XI ci a_x Wd t n s0 sv kv) (R : va_W) : ∃ fs, (Wd ++ R)[0]? = some (a_x, .inr (10, fs)) := by
  obtain ⟨a, u, f, xk, ka, ku, kf, rfl, -⟩ := h
  exact ⟨_, rfl⟩
theorem XI.n {ci : Nat → ClassId} {a_x t n s0 : Nat} {Wd : va_W} {sv : l_T} {kv : Nat → l_T} (h : XI ci a_x Wd t n s0 sv kv) : (n = 0 ∨ ∃ k, n = 2130 * k + 2) ∧ n ≤ 20000 := by
  obtain ⟨a, u, f, xk, ka, ku, kf, -, -, hn, -⟩ := h
  exact hn
theorem MI.hd {ci : Nat → ClassId} {a_m t s0 : Nat} {Wd : va_W} {sv : l_T} {kv : Nat → l_T} (h : MI ci a_m Wd t s0 sv kv) (R : va_W) : ∃ fs, (Wd ++ R)[0]? = some (a_m, .inr (11, fs)) := by
  obtain ⟨a, u, v, f, h2, rfl, -⟩ := h
  exact ⟨_, rfl⟩
theorem l_swP {D : va_G} {cl : List vw_C} {W1 W2 : va_W} {H : Heap} (h : va_P D cl (W1 ++ W2) H) : va_P D cl (W2 ++ W1) H := va_P.swap (a := []) h
theorem l_swD {A : Nat → Prop} {W1 W2 : va_W} (h : va_D A (W1 ++ W2)) : va_D A (W2 ++ W1) := va_D.swap (a := []) h
theorem l_in {i j L : Nat} (h : i + 8 ≤ L) (hj : j < 8) (hL : L ≤ 4096) : vp_in (nI i + nI j) L := by
  show ¬ (nI i + nI j < 0 ∨ L ≤ (nI i + nI j).toNatClampNeg)
  rw [nI_add]
  have e : (nI (i + j)).toNatClampNeg = i + j := nI_clamp (by omega)
  rw [e]
  rintro (z | z)
  · exact z_lt0 (by omega) z
  · omega
theorem l_rm {n cells slots mc ms : Nat} (hn : n ≤ 20000) (hc : cells ≤ 200 + n) (hs : 1000 * slots ≤ 45000000 + n * n + 2000 * n) (h1 : mc ≤ 2) (h2 : ms ≤ 40000) : cells + mc ≤ room_1.cells ∧ slots + ms ≤ room_1.slots := by
  have h3 : n * n ≤ 20000 * 20000 := Nat.mul_le_mul hn hn
  show cells + mc ≤ 600000 ∧ slots + ms ≤ 7302250
  omega
theorem l_sq {x y : Nat} (h : x + 2130 ≤ y) : x * x + 4260 * x ≤ y * y := by
  have h2 : (x + 2130) * (x + 2130) ≤ y * y := Nat.mul_le_mul h h
  rw [Nat.add_mul, Nat.mul_add] at h2
  generalize y * y = v at *
  generalize x * x = u at *
  omega
theorem l_pot {n nL cells slots : Nat} (hn : n = 0 ∨ ∃ k, n = 2130 * k + 2) (hL : ∃ k, nL = 2130 * k + 2) (h : n < nL) (hc : cells ≤ 200 + n) (hs : 1000 * slots ≤ 45000000 + n * n + 2000 * n) : cells + 2 ≤ 200 + nL ∧ 1000 * (slots + (nL + nL)) ≤ 45000000 + nL * nL + 2000 * nL := by
  rcases hn with h0 | ⟨j, hj⟩
  · subst h0
    generalize nL * nL = v at *
    obtain ⟨k, hk⟩ := hL
    omega
  · have h1 : n + 2130 ≤ nL := by
      obtain ⟨k, hk⟩ := hL
      omega
    have h2 := l_sq h1
    generalize nL * nL = v at *
    generalize n * n = u at *
    omega
