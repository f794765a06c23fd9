/-! v3: what texts do to the state; count -/
section S21A
variable {rc cc br zc rw sh cr cq dp wd za fl fk fy : Nat → Int32} {sv : l_T} {N l t : Nat} {tb : Nat → Nat}
def l_q4 (a b c d : Int32) : Nat → Int32 := fun i => if i = 0 then a else if i = 1 then b else if i = 2 then c else d
/-- the state with other counts -/
def l_sq (sv : l_T) (a b c d : Int32) : l_T := l_mk (l_R sv) (l_C sv) (l_m sv) (l_L sv) (l_K sv) (l_Y sv) (l_q4 a b c d)
theorem l_sqc (sv : l_T) (a b c d : Int32) : l_cn (l_sq sv a b c d) a b c d := ⟨rfl, rfl, rfl, rfl⟩
theorem z_cnt4_one {F : Nat} {er c0 c1 c2 c3 d0 d1 d2 d3 e0 e1 e2 e3 : Int32} (h1 : z_cnt4 F er c0 c1 c2 c3 d0 d1 d2 d3) (h2 : z_cnt4 F er c0 c1 c2 c3 e0 e1 e2 e3) : d0 = e0 ∧ d1 = e1 ∧ d2 = e2 ∧ d3 = e3 := by
  obtain ⟨a, b, c, d⟩ := h1
  obtain ⟨a', b', c', d'⟩ := h2
  exact ⟨a.trans a'.symm, b.trans b'.symm, c.trans c'.symm, d.trans d'.symm⟩
/-- named -/
def l_tnamed (sv : l_T) (t : Nat) (tb : Nat → Nat) (p q r : Int32) (s2 : l_T) : Prop := ∃ ln d0 d1 d2 d3, z_nmA (l_R sv) (l_C sv) t tb p q (l_q sv 0) (l_q sv 1) (l_q sv 2) (l_q sv 3) r ln d0 d1 d2 d3 ∧ s2 = l_sq sv d0 d1 d2 d3
theorem l_tnamed_one {p q r r' : Int32} {s2 s3 : l_T} (_ : l_ok sv) (h1 : l_tnamed sv t tb p q r s2) (h2 : l_tnamed sv t tb p q r' s3) : r = r' ∧ s2 = s3 := by
  obtain ⟨ln, d0, d1, d2, d3, h1, rfl⟩ := h1
  obtain ⟨ln', e0, e1, e2, e3, h2, rfl⟩ := h2
  rcases h1 with ⟨a, a1, -, a2, a3, a4, a5⟩ | ⟨a, -, a1, a2⟩ <;> rcases h2 with ⟨b, b1, -, b2, b3, b4, b5⟩ | ⟨b, -, b1, b2⟩
  · subst a1 a2 a3 a4 a5 b1 b2 b3 b4 b5
    exact ⟨rfl, rfl⟩
  · exact absurd b a
  · exact absurd a b
  · obtain ⟨rfl, rfl, rfl, rfl⟩ := z_cnt4_one a2 b2
    exact ⟨a1.trans b1.symm, rfl⟩
/-- ask -/
def l_task (sv : l_T) (t : Nat) (tb : Nat → Nat) (p r : Int32) (s2 : l_T) : Prop := ∃ ln d0 d1 d2 d3, z_askA sv t tb p (l_q sv 0) (l_q sv 1) (l_q sv 2) (l_q sv 3) r ln d0 d1 d2 d3 ∧ s2 = l_sq sv d0 d1 d2 d3
theorem l_task_one {p r r' : Int32} {s2 s3 : l_T} (h : l_ok sv) (h1 : l_task sv t tb p r s2) (h2 : l_task sv t tb p r' s3) : r = r' ∧ s2 = s3 := by
  obtain ⟨ln, d0, d1, d2, d3, h1, rfl⟩ := h1
  obtain ⟨ln', e0, e1, e2, e3, h2, rfl⟩ := h2
  rcases h1 with ⟨a, a1, -, a2, a3, a4, a5⟩ | ⟨a, -, a1, a2, a3⟩ <;> rcases h2 with ⟨b, b1, -, b2, b3, b4, b5⟩ | ⟨b, -, b1, b2, b3⟩
  · subst a1 a2 a3 a4 a5 b1 b2 b3 b4 b5
    exact ⟨rfl, rfl⟩
  · exact absurd b a
  · exact absurd a b
  · obtain ⟨rfl, rfl, rfl, rfl⟩ := z_cnt4_one a1 b1
    refine ⟨?_, rfl⟩
    obtain ⟨q1, q2, q3⟩ := nq_in h.1 (tb := tb) p.toInt.toNat
    by_cases hF : (nq (l_R sv) (l_C sv) tb p.toInt.toNat).1 = 0
    · exact l_aR_one h (q3 hF).2.1 (a2 hF) (b2 hF)
    · exact (a3 hF).trans (b3 hF).symm
/-- count -/
def l_acount (sv : l_T) (t s0 : Nat) (p r : Int32) : Prop := r = if p = 0 then nI (l_m sv) else if p = 1 then nI t else if p = 2 then nI s0 else if p = 3 then l_q sv 0 else if p = 4 then l_q sv 1 else if p = 5 then l_q sv 2 else if p = 6 then l_q sv 3 else -1
theorem l_acount_one {s0 : Nat} {p r r' : Int32} (_ : l_ok sv) (h1 : l_acount sv t s0 p r) (h2 : l_acount sv t s0 p r') : r = r' := Eq.trans h1 (Eq.symm h2)
theorem a_x_count {s0 : Nat} (p : Int32) : Ok (f_X_count (nI s0) (nI t) (l_q sv 0) (l_q sv 1) (l_q sv 2) (l_q sv 3) (nI (l_m sv)) p) (fun x => l_acount sv t s0 p x) := by
  unfold f_X_count l_acount
  by_cases c0 : p = 0
  · rw [if_pos c0]; exact Ok.ret (by rw [if_pos c0])
  rw [if_neg c0]
  by_cases c1 : p = 1
  · rw [if_pos c1]; exact Ok.ret (by rw [if_neg c0, if_pos c1])
  rw [if_neg c1]
  by_cases c2 : p = 2
  · rw [if_pos c2]; exact Ok.ret (by rw [if_neg c0, if_neg c1, if_pos c2])
  rw [if_neg c2]
  by_cases c3 : p = 3
  · rw [if_pos c3]; exact Ok.ret (by rw [if_neg c0, if_neg c1, if_neg c2, if_pos c3])
  rw [if_neg c3]
  by_cases c4 : p = 4
  · rw [if_pos c4]; exact Ok.ret (by rw [if_neg c0, if_neg c1, if_neg c2, if_neg c3, if_pos c4])
  rw [if_neg c4]
  by_cases c5 : p = 5
  · rw [if_pos c5]; exact Ok.ret (by rw [if_neg c0, if_neg c1, if_neg c2, if_neg c3, if_neg c4, if_pos c5])
  rw [if_neg c5]
  by_cases c6 : p = 6
  · rw [if_pos c6]; exact Ok.ret (by rw [if_neg c0, if_neg c1, if_neg c2, if_neg c3, if_neg c4, if_neg c5, if_pos c6])
  rw [if_neg c6]
  exact Ok.ret (by rw [if_neg c0, if_neg c1, if_neg c2, if_neg c3, if_neg c4, if_neg c5, if_neg c6])
theorem a_m_count {s0 : Nat} (p : Int32) : Ok (f_M_count (nI t) (l_q sv 0) (l_q sv 1) (l_q sv 2) (l_q sv 3) (nI (l_m sv)) (nI s0) p) (fun x => l_acount sv t s0 p x) := by
  unfold f_M_count l_acount
  by_cases c0 : p = 0
  · rw [if_pos c0]; exact Ok.ret (by rw [if_pos c0])
  rw [if_neg c0]
  by_cases c1 : p = 1
  · rw [if_pos c1]; exact Ok.ret (by rw [if_neg c0, if_pos c1])
  rw [if_neg c1]
  by_cases c2 : p = 2
  · rw [if_pos c2]; exact Ok.ret (by rw [if_neg c0, if_neg c1, if_pos c2])
  rw [if_neg c2]
  by_cases c3 : p = 3
  · rw [if_pos c3]; exact Ok.ret (by rw [if_neg c0, if_neg c1, if_neg c2, if_pos c3])
  rw [if_neg c3]
  by_cases c4 : p = 4
  · rw [if_pos c4]; exact Ok.ret (by rw [if_neg c0, if_neg c1, if_neg c2, if_neg c3, if_pos c4])
  rw [if_neg c4]
  by_cases c5 : p = 5
  · rw [if_pos c5]; exact Ok.ret (by rw [if_neg c0, if_neg c1, if_neg c2, if_neg c3, if_neg c4, if_pos c5])
  rw [if_neg c5]
  by_cases c6 : p = 6
  · rw [if_pos c6]; exact Ok.ret (by rw [if_neg c0, if_neg c1, if_neg c2, if_neg c3, if_neg c4, if_neg c5, if_pos c6])
  rw [if_neg c6]
  exact Ok.ret (by rw [if_neg c0, if_neg c1, if_neg c2, if_neg c3, if_neg c4, if_neg c5, if_neg c6])
end S21A
