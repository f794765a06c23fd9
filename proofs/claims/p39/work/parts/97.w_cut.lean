/-! cut -/
section SC
variable {R C H V : Nat → Nat} {rc cc br zc rw sh : Nat → Int32} {N : Nat}
def z_up1 (R : Nat → Nat) (v r : Nat) : Nat → Nat := fun i => if i = v then r else R i
theorem z_cmple {a b : Nat} (ha : a < 2 ^ 63) (hb : b < 2 ^ 63) (h : lg_cmp (lN a) (lN b) ≤ 0) : a ≤ b := by
  unfold lg_cmp at h
  by_cases h1 : lN a > lN b
  · rw [if_pos h1] at h; exact absurd h (by decide)
  · have h2 : ¬ (lN b).toInt < (lN a).toInt := fun z => h1 (Int64.lt_iff_toInt_lt.mpr z)
    have e1 : (lN a).toInt = (a : Int) := by
      show (Int64.ofNat a).toInt = _
      exact Int64.toInt_ofNat_of_lt ha
    have e2 : (lN b).toInt = (b : Int) := by
      show (Int64.ofNat b).toInt = _
      exact Int64.toInt_ofNat_of_lt hb
    omega
theorem k_deepest (hkg : z_kg R C rc cc) (hN : 100000 ≤ N) {v r c : Nat} (hv : 1 ≤ v) (hv4 : v ≤ 4) (hr : r ≤ 6) (hc : c ≤ 6) : f_Grid_deepestSheetsIf N rc cc (nI v) (nI r) (nI c) = some (lN (2130 * (z_pr (z_up1 R v r) 4 * z_pr (z_up1 C v c) 4) + 2)) := by
  obtain ⟨h1, h2, h3, h4, -⟩ := hkg
  have L : ∀ n i, i ≤ 4 → 4 - i + 1 < n → f_Grid_deepestSheetsIf_L8 cc rc (nI v) (nI r) (nI c) n (lN (2130 * (z_pr (z_up1 R v r) i * z_pr (z_up1 C v c) i))) (nI (i + 1)) = some (lN (2130 * (z_pr (z_up1 R v r) 4 * z_pr (z_up1 C v c) 4))) := by
    intro n
    induction n with
    | zero => intro i _ h; omega
    | succ n ih =>
      intro i hi hn
      rw [f_Grid_deepestSheetsIf_L8]
      by_cases h5 : i = 4
      · subst h5
        rw [if_pos (by rw [z_i 4, nI_ltI (by omega) (by omega)]; omega)]
      · rw [if_neg (by rw [z_i 4, nI_ltI (by omega) (by omega)]; omega), z_j1]
        have hs : ∀ x, x = z_up1 R v r (i + 1) * z_up1 C v c (i + 1) → lN (2130 * (z_pr (z_up1 R v r) i * z_pr (z_up1 C v c) i)) * lN x = lN (2130 * (z_pr (z_up1 R v r) (i + 1) * z_pr (z_up1 C v c) (i + 1))) := by
          intro x hx
          rw [lN_mul, hx]
          congr 1
          show _ = 2130 * (z_pr (z_up1 R v r) i * z_up1 R v r (i + 1) * (z_pr (z_up1 C v c) i * z_up1 C v c (i + 1)))
          rw [Nat.mul_assoc, Nat.mul_mul_mul_comm]
        by_cases hiv : i + 1 = v
        · rw [if_pos (by rw [hiv])]
          dsimp only
          have hrc : r * c ≤ 36 := Nat.mul_le_mul hr hc
          rw [z_nm, z_nm, pk_mul, nI_l (by omega), hs (r * c) (by unfold z_up1; rw [if_pos hiv, if_pos hiv]), nI_1]
          exact ih (i + 1) (by omega) (by omega)
        · have hRC := h3 (i + 1) (by omega)
          have hb : R (i + 1) * C (i + 1) ≤ 36 := Nat.mul_le_mul hRC.2.1 hRC.2.2.2
          rw [if_neg (by rw [nI_eq (by omega) (by omega)]; exact hiv), z_ai (by omega) (by omega), z_ai (by omega) (by omega), (h4 (i + 1) (by omega)).1, (h4 (i + 1) (by omega)).2]
          dsimp only
          rw [z_nm, z_nm, pk_mul, nI_l (by omega), hs (R (i + 1) * C (i + 1)) (by unfold z_up1; rw [if_neg hiv, if_neg hiv]), nI_1]
          exact ih (i + 1) (by omega) (by omega)
  unfold f_Grid_deepestSheetsIf
  have e0 : (2130 : Int64) = lN (2130 * (z_pr (z_up1 R v r) 0 * z_pr (z_up1 C v c) 0)) := by
    unfold z_pr z_up1
    rw [if_neg (by omega), if_neg (by omega), h1, h2]; rfl
  rw [z_nm, z_nm, z_i 1, e0, L N 0 (by omega) (by omega), q_b1_s, z_l 2, lN_add]
theorem s_x_cut (g : GOK R C H V rc cc br zc rw sh) (hN : 100000 ≤ N) (ss p q r : Int32) : Ok (f_X_cut N ss rc cc br zc rw sh p q r) (fun x => ∃ R C H V, GOK R C H V x.2.1 x.2.2.1 x.2.2.2.1 x.2.2.2.2.1 x.2.2.2.2.2.1 x.2.2.2.2.2.2) := by
  have no : ∀ a : Int32, Ok (some (a, rc, cc, br, zc, rw, sh)) (fun x => ∃ R C H V, GOK R C H V x.2.1 x.2.2.1 x.2.2.2.1 x.2.2.2.2.1 x.2.2.2.2.2.1 x.2.2.2.2.2.2) := fun a => Ok.ret ⟨R, C, H, V, g⟩
  unfold f_X_cut
  refine Ok.ite (fun _ => no _) (fun hp1 => Ok.ite (fun _ => no _) (fun hp4 => Ok.b1 (s_isFrom q _ _) (fun v1 h1 => Ok.ite (fun _ => no _) (fun n1 => Ok.b1 (s_isFrom r _ _) (fun v2 h2 => Ok.ite (fun _ => no _) (fun n2 => Ok.ite (fun _ => ?_) (fun _ => no _)))))))
  have a1 : ¬ p.toInt < (1 : Int32).toInt := fun z => hp1 (z_lt.mpr z)
  have a4 : ¬ (4 : Int32).toInt < p.toInt := fun z => hp4 (z_lt.mpr z)
  have aq := z_if1 h1 n1
  have ar := z_if1 h2 n2
  rw [show (1 : Int32).toInt = 1 from rfl] at a1 aq ar
  rw [show (4 : Int32).toInt = 4 from rfl] at a4
  rw [show (6 : Int32).toInt = 6 from rfl] at aq ar
  obtain ⟨v, -, rfl, j3⟩ := z_nat (r := p) (by omega)
  obtain ⟨y, -, rfl, y3⟩ := z_nat (r := q) (by omega)
  obtain ⟨w, -, rfl, w3⟩ := z_nat (r := r) (by omega)
  have hkg := g.kg
  have hkg' := hkg
  obtain ⟨k1, k2, k3, k4, -⟩ := hkg'
  have hR1 : ∀ l, l < 5 → 1 ≤ z_up1 R v y l ∧ z_up1 R v y l ≤ 6 ∧ 1 ≤ z_up1 C v w l ∧ z_up1 C v w l ≤ 6 := by
    intro l hl
    have := k3 l hl
    unfold z_up1
    split <;> omega
  have hR0 : z_up1 R v y 0 = 1 := by unfold z_up1; rw [if_neg (by omega)]; exact k1
  have hC0 : z_up1 C v w 0 = 1 := by unfold z_up1; rw [if_neg (by omega)]; exact k2
  rw [k_deepest hkg hN (show 1 ≤ v by omega) (by omega) (show y ≤ 6 by omega) (show w ≤ 6 by omega), q_b1_s]
  have b1 := (z_pr_b hR0 (fun l hl => ⟨(hR1 l hl).1, (hR1 l hl).2.1⟩) 4 (by omega)).2
  have b2 := (z_pr_b hC0 (fun l hl => ⟨(hR1 l hl).2.2.1, (hR1 l hl).2.2.2⟩) 4 (by omega)).2
  have b3 := Nat.mul_le_mul b1 b2
  refine Ok.ite (fun hle => ?_) (fun _ => no _)
  have hbig := z_cmple (b := 20000000) (by omega) (by omega) hle
  have hk2 : z_kg (z_up1 R v y) (z_up1 C v w) (upd rc v (nI y)) (upd cc v (nI w)) := by
    refine ⟨hR0, hC0, hR1, fun l hl => ?_, hbig⟩
    unfold z_up1
    by_cases e : l = v
    · subst e; rw [z_updS, z_updS, if_pos rfl, if_pos rfl]; exact ⟨rfl, rfl⟩
    · rw [z_updN e, z_updN e, if_neg e, if_neg e]; exact k4 l hl
  refine Ok.b6 (Q := fun x => GOK (z_up1 R v y) (z_up1 C v w) (z_pr (z_up1 R v y)) (z_pr (z_up1 C v w)) x.1 x.2.1 x.2.2.1 x.2.2.2.1 x.2.2.2.2.1 x.2.2.2.2.2) ?_ (fun f4 f5 f6 f7 f8 f9 h => Ok.ain (by omega) (by decide) (Ok.ret ⟨_, _, _, _, h⟩))
  unfold f_Grid_setCuts
  refine Ok.asn (by omega) (by decide) (Ok.asn (by omega) (by decide) ?_)
  exact Ok.b4 (s_multiply hk2 hN br zc rw sh) (fun a b c d h => Ok.ret h)
end SC
