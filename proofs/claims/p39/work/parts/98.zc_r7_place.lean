/-! a place's key on both sides -/
section R7
variable {R C H V : Nat → Nat} {rc cc br zc rw sh cr cq dp wd za : Nat → Int32} {N l : Nat}
theorem m_rowAt (g : MOK R C H V cr cq dp wd za) (hl : l < 5) (x : Int32) : f_M_rowAt dp x (nI l) = some (nI (z_rowLat (H l) x.toInt)) := by
  obtain ⟨e1, e2, e3, e4⟩ := g.1 l hl
  have hv := g.2.2.hv hl
  have hp := g.2.2.pos l hl
  have t1 : (316800 : Int32).toInt = 316800 := rfl
  have t2 : (-316800 : Int32).toInt = -316800 := rfl
  unfold f_M_rowAt z_rowLat
  by_cases c1 : x < 316800
  · have a1 := z_lt.mp c1
    rw [t1] at a1
    rw [if_pos c1, if_neg (show ¬ 316800 ≤ x.toInt by omega)]
    by_cases c2 : -316800 ≤ x
    · have a2 := z_le.mp c2
      rw [t2] at a2
      rw [if_pos c2, if_neg (show ¬ x.toInt < -316800 by omega), z_nm]
      have e : (x + 316800).toInt = x.toInt + 316800 := by
        rw [Int32.toInt_add, t1, Int.bmod_eq_of_le (by omega) (by omega)]
      obtain ⟨f, f1, f2, f3⟩ := z_nat (r := x + 316800) (by omega)
      have f4 : f < 633600 := by omega
      have hq : f / 14400 ≤ 43 := by omega
      have hm : f % 14400 < 14400 := Nat.mod_lt _ (by decide)
      have hx : x.toInt * (H l : Int) = 14400 * ((f / 14400 * H l : Nat) : Int) + ((f % 14400 * H l : Nat) : Int) - 316800 * (H l : Int) := by
        have w : x.toInt = 14400 * ((f / 14400 : Nat) : Int) + ((f % 14400 : Nat) : Int) - 316800 := by omega
        rw [w, Int.natCast_mul, Int.natCast_mul, Int.sub_mul, Int.add_mul, Int.mul_assoc]
      have hs : (43 - f / 14400) * H l = 43 * H l - f / 14400 * H l := Nat.sub_mul _ _ _
      have hle : f / 14400 * H l ≤ 43 * H l := Nat.mul_le_mul_right _ hq
      rw [f2, z_i 14400, z_dv (by omega) (by omega) (by omega), z_nm, z_i 43, pk_sub hq, z_ai hl (by omega), z_ai hl (by omega), z_rm (by omega) (by omega) (by omega), z_ai hl (by omega), e3, hx]
      generalize f / 14400 = q at *
      generalize f % 14400 = m at *
      have b1 : m * H l < 14400 * H l := Nat.mul_lt_mul_of_lt_of_le hm (Nat.le_refl _) hp.1
      have b2 : m * H l / 14400 < H l := Nat.div_lt_of_lt_mul b1
      rw [pk_mul, pk_mul]
      generalize (43 - q) * H l = a at *
      generalize q * H l = A at *
      generalize m * H l = b at *
      rw [z_dv (by omega) (by omega) (by omega), z_i 1, nI_add, nI_add, pk_sub (by omega), pk_sub (by omega)]
      refine congrArg (fun z => some (nI z)) ?_
      omega
    · have a2 : ¬ -316800 ≤ x.toInt := fun z => c2 (z_le.mpr (by rw [t2]; exact z))
      rw [if_neg c2, if_pos (show x.toInt < -316800 by omega), m_lastRow g hl, q_b1_s]
  · have a1 : ¬ x.toInt < 316800 := fun z => c1 (z_lt.mpr (by rw [t1]; exact z))
    rw [if_neg c1, if_pos (show 316800 ≤ x.toInt by omega)]
    rfl
/-- the key of a place -/
def z_kp (H V : Nat) (x : Int) (o : Nat) : Nat := z_rs H V (z_rowLat H x) + o * z_rl H V (z_rowLat H x) / 1296000
theorem z_kp_lt (g : CUT R C H V) (hl : l < 5) (x : Int) {o : Nat} (ho : o < 1296000) : z_kp (H l) (V l) x o < 2130 * (H l * V l) + 2 := by
  have hp := g.pos l hl
  have hr := z_rowLat_le hp.1 x
  have hL := (z_rl_pos (V := V l) hp.1 hp.2 hr)
  have he := z_rs_end (V := V l) (r := z_rowLat (H l) x) hp.1 hr
  unfold z_kp
  have h1 : o * z_rl (H l) (V l) (z_rowLat (H l) x) / 1296000 < z_rl (H l) (V l) (z_rowLat (H l) x) := by
    apply Nat.div_lt_of_lt_mul
    exact Nat.mul_lt_mul_of_lt_of_le ho (Nat.le_refl _) hL.1
  omega
theorem m_keyAtPlace (g : MOK R C H V cr cq dp wd za) (hl : l < 5) (x : Int32) {o : Nat} (ho : o < 1296000) : f_M_keyAtPlace dp wd za x (nI o) (nI l) = some (nI (z_kp (H l) (V l) x.toInt o)) := by
  have hv := g.2.2.hv hl
  have hp := g.2.2.pos l hl
  have hr := z_rowLat_le hp.1 x.toInt
  have hL := (z_rl_pos (V := V l) hp.1 hp.2 hr)
  have h1 : o * z_rl (H l) (V l) (z_rowLat (H l) x.toInt) / 1296000 < z_rl (H l) (V l) (z_rowLat (H l) x.toInt) := by
    apply Nat.div_lt_of_lt_mul
    exact Nat.mul_lt_mul_of_lt_of_le ho (Nat.le_refl _) hL.1
  unfold f_M_keyAtPlace
  rw [m_rowAt g hl, q_b1_s, m_many g hl hr, q_b1_s, m_placeAt ho (by omega), q_b1_s, m_keyOf g hl hr h1, q_b1_s]
  rfl
theorem k_keyAtPlace (g : GOK R C H V rc cc br zc rw sh) (hl : l < 5) {x : Int32} (h1 : -324000 ≤ x.toInt) (h2 : x.toInt ≤ 324000) {o : Nat} (ho : o < 1296000) : f_Grid_keyOf br zc rw sh (nI l) x (nI o) = some (nI (z_kp (H l) (V l) x.toInt o)) := by
  have hp := g.2.pos l hl
  have hr := z_rowLat_le hp.1 x.toInt
  unfold f_Grid_keyOf
  rw [k_rowOfLat g hl h1 h2, q_b1_s, k_rowStart g hl hr, q_b1_s, (k_placeOfLon g hl hr ho).1, q_b1_s, nI_add]
  rfl
def z_plV (p q : Int32) : Prop := (-324000 ≤ p.toInt ∧ p.toInt ≤ 324000) ∧ (0 ≤ q.toInt ∧ q.toInt ≤ 1295999)
theorem r_isPlaceX (p q : Int32) : Ok (f_X_isPlace p q) (fun x => (z_plV p q ∧ x = 1) ∨ (¬ z_plV p q ∧ x = 0)) := by
  unfold f_X_isPlace
  refine Ok.b1 (s_isFrom p _ _) (fun v1 h1 => ?_)
  rw [show (-324000 : Int32).toInt = -324000 from rfl, show (324000 : Int32).toInt = 324000 from rfl] at h1
  refine Ok.ite (fun c => Ok.ret (Or.inr ⟨fun z => z_if0 h1 c z.1, rfl⟩)) (fun c1 => Ok.b1 (s_isFrom q _ _) (fun v2 h2 => ?_))
  rw [show (0 : Int32).toInt = 0 from rfl, show (1295999 : Int32).toInt = 1295999 from rfl] at h2
  exact Ok.ite (fun c => Ok.ret (Or.inr ⟨fun z => z_if0 h2 c z.2, rfl⟩)) (fun c2 => Ok.ret (Or.inl ⟨⟨z_if1 h1 c1, z_if1 h2 c2⟩, rfl⟩))
theorem r_isPlaceM (p q : Int32) : Ok (f_M_isPlace p q) (fun x => (z_plV p q ∧ x = 1) ∨ (¬ z_plV p q ∧ x = 0)) := by
  unfold f_M_isPlace
  refine Ok.b1 (t_in _ _ _) (fun v1 h1 => ?_)
  rw [z_toL, show (-324000 : Int64).toInt = -324000 from rfl, show (324000 : Int64).toInt = 324000 from rfl] at h1
  refine Ok.ite (fun c => Ok.ret (Or.inr ⟨fun z => z_if0 h1 c z.1, rfl⟩)) (fun c1 => Ok.b1 (t_in _ _ _) (fun v2 h2 => ?_))
  rw [z_toL, show (0 : Int64).toInt = 0 from rfl, show (1295999 : Int64).toInt = 1295999 from rfl] at h2
  exact Ok.ite (fun c => Ok.ret (Or.inr ⟨fun z => z_if0 h2 c z.2, rfl⟩)) (fun c2 => Ok.ret (Or.inl ⟨⟨z_if1 h1 c1, z_if1 h2 c2⟩, rfl⟩))
theorem z_plV_o {p q : Int32} (h : z_plV p q) : ∃ o, o < 1296000 ∧ q = nI o := by
  obtain ⟨o, -, h1, h2⟩ := z_nat h.2.1
  exact ⟨o, by have := h.2.2; omega, h1⟩
end R7
