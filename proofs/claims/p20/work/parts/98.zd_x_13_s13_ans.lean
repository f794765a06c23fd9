/-! answers: box, between -/
section S13A
variable {R C H V : Nat → Nat} {rc cc br zc rw sh cr cq dp wd za : Nat → Int32} {sv : l_T} {N l t : Nat}
/-- how many of a row are in a box from w to e -/
def z_bm (H V w e r : Nat) : Nat := if w ≤ e then e * z_rl H V r / 1296000 - w * z_rl H V r / 1296000 + 1 else if e * z_rl H V r / 1296000 < w * z_rl H V r / 1296000 then z_rl H V r - w * z_rl H V r / 1296000 + e * z_rl H V r / 1296000 + 1 else z_rl H V r
theorem z_bm_b {H0 V0 w e r : Nat} (hL : 1 ≤ z_rl H0 V0 r) (hw : w < 1296000) (he : e < 1296000) : 1 ≤ z_bm H0 V0 w e r ∧ z_bm H0 V0 w e r ≤ z_rl H0 V0 r := by
  have a1 := z_plIn hw hL
  have a2 := z_plIn he hL
  unfold z_bm
  by_cases c : w ≤ e
  · rw [if_pos c]; omega
  · rw [if_neg c]
    split <;> omega
/-- all of the rows ahead of a row -/
def z_bS (H V w e : Nat) : Nat → Nat
  | 0 => 0
  | r + 1 => z_bS H V w e r + z_bm H V w e r
theorem z_bS_le {H0 V0 w e : Nat} (hH : 1 ≤ H0) (hV : 1 ≤ V0) (hw : w < 1296000) (he : e < 1296000) : ∀ r, r ≤ 44 * H0 + 1 → z_bS H0 V0 w e r ≤ z_rs H0 V0 r
  | 0, _ => by unfold z_bS; omega
  | r + 1, h => by
    have i1 := z_bS_le hH hV hw he r (by omega)
    have b1 := z_bm_b (r := r) (H0 := H0) (V0 := V0) (z_rl_pos hH hV (by omega)).1 hw he
    have e1 := z_rs_succ (V := V0) hH (r := r) (by omega)
    unfold z_bS
    omega
theorem z_bS_top {H0 V0 w e : Nat} (hH : 1 ≤ H0) (hV : 1 ≤ V0) (hw : w < 1296000) (he : e < 1296000) {r : Nat} (h : r ≤ 44 * H0 + 2) : z_bS H0 V0 w e r ≤ 2130 * (H0 * V0) + 2 := by
  by_cases c : r ≤ 44 * H0 + 1
  · have i1 := z_bS_le hH hV hw he r c
    have e1 := z_rs_end (V := V0) hH c
    omega
  · obtain rfl : r = 44 * H0 + 1 + 1 := by omega
    have i1 := z_bS_le hH hV hw he (44 * H0 + 1) (by omega)
    have b1 := z_bm_b (r := 44 * H0 + 1) (H0 := H0) (V0 := V0) (z_rl_pos hH hV (by omega)).1 hw he
    have e1 := z_rs_end (V := V0) hH (r := 44 * H0 + 1) (by omega)
    unfold z_bS
    omega
theorem z_bS_mono {H0 V0 w e : Nat} : ∀ n r, z_bS H0 V0 w e r ≤ z_bS H0 V0 w e (r + n)
  | 0, _ => Nat.le_refl _
  | n + 1, r => by
    have := z_bS_mono (H0 := H0) (V0 := V0) (w := w) (e := e) n r
    exact Nat.le_trans this (Nat.le_add_right _ _)
theorem z_bS_le2 {H0 V0 w e a b : Nat} (h : a ≤ b) : z_bS H0 V0 w e a ≤ z_bS H0 V0 w e b := by
  obtain ⟨n, rfl⟩ : ∃ n, b = a + n := ⟨b - a, by omega⟩
  exact z_bS_mono n a
theorem z_bS_const {H0 V0 w e m : Nat} : ∀ n r, (∀ i, i < n → z_bm H0 V0 w e (r + i) = m) → z_bS H0 V0 w e (r + n) = z_bS H0 V0 w e r + n * m
  | 0, r, _ => by rw [Nat.zero_mul]; rfl
  | n + 1, r, h => by
    have := z_bS_const (H0 := H0) (V0 := V0) (w := w) (e := e) n r (fun i hi => h i (by omega))
    rw [← Nat.add_assoc]
    show z_bS H0 V0 w e (r + n) + z_bm H0 V0 w e (r + n) = _
    rw [this, h n (by omega), Nat.succ_mul]
    omega
theorem z_rl_belt {H0 V0 q r : Nat} (hH : 1 ≤ H0) (hq : q < 44) (h1 : q * H0 + 1 ≤ r) (h2 : r ≤ (q + 1) * H0) : z_rl H0 V0 r = z_bz q * V0 := by
  have m : (q + 1) * H0 ≤ 44 * H0 := Nat.mul_le_mul_right _ hq
  have e : (r - 1) / H0 = q := by
    rw [Nat.div_eq_iff (by omega)]
    rw [Nat.succ_mul] at h2
    omega
  unfold z_rl
  rw [if_neg (show ¬ (r = 0 ∨ r = 44 * H0 + 1) by omega), e]
theorem z_bm_belt {H0 V0 w e q r r2 : Nat} (hH : 1 ≤ H0) (hq : q < 44) (h1 : q * H0 + 1 ≤ r) (h2 : r ≤ (q + 1) * H0) (g1 : q * H0 + 1 ≤ r2) (g2 : r2 ≤ (q + 1) * H0) : z_bm H0 V0 w e r = z_bm H0 V0 w e r2 := by
  unfold z_bm
  rw [z_rl_belt hH hq h1 h2, z_rl_belt hH hq g1 g2]
theorem r_inRow (g : GOK R C H V rc cc br zc rw sh) (hl : l < 5) {w e r : Nat} (hw : w < 1296000) (he : e < 1296000) (hr : r ≤ 44 * H l + 1) : f_Box_inRow (nI w) (nI e) br zc rw (nI l) (nI r) = some (nI (z_bm (H l) (V l) w e r)) := by
  have hv := g.2.hv hl
  have hps := g.2.pos l hl
  have lr := z_rl_pos (V := V l) hps.1 hps.2 hr
  obtain ⟨e1, a1⟩ := k_placeOfLon g hl hr hw
  obtain ⟨e2, a2⟩ := k_placeOfLon g hl hr he
  unfold f_Box_inRow z_bm
  rw [e1, q_b1_s, e2, q_b1_s]
  by_cases c : w ≤ e
  · have hd : w * z_rl (H l) (V l) r / 1296000 ≤ e * z_rl (H l) (V l) r / 1296000 := Nat.div_le_div_right (Nat.mul_le_mul_right _ c)
    rw [if_neg (show ¬ nI e < nI w by rw [nI_ltI (by omega) (by omega)]; omega), if_pos c, pk_sub hd, nI_1]
  · rw [if_pos (show nI e < nI w by rw [nI_ltI (by omega) (by omega)]; omega), if_neg c, k_rowLength g hl hr, q_b1_s, pk_sub (by omega), nI_add, nI_1, z_nm]
    by_cases c2 : e * z_rl (H l) (V l) r / 1296000 < w * z_rl (H l) (V l) r / 1296000
    · rw [if_pos c2]
      by_cases c3 : z_rl (H l) (V l) r - w * z_rl (H l) (V l) r / 1296000 + e * z_rl (H l) (V l) r / 1296000 + 1 < z_rl (H l) (V l) r
      · rw [if_pos (show nI (z_rl (H l) (V l) r - w * z_rl (H l) (V l) r / 1296000 + e * z_rl (H l) (V l) r / 1296000 + 1) < nI (z_rl (H l) (V l) r) by rw [nI_ltI (by omega) (by omega)]; exact c3)]
      · rw [if_neg (show ¬ nI (z_rl (H l) (V l) r - w * z_rl (H l) (V l) r / 1296000 + e * z_rl (H l) (V l) r / 1296000 + 1) < nI (z_rl (H l) (V l) r) by rw [nI_ltI (by omega) (by omega)]; exact c3)]
        exact congrArg (fun z => some (nI z)) (by omega)
    · rw [if_neg c2, if_neg (show ¬ nI (z_rl (H l) (V l) r - w * z_rl (H l) (V l) r / 1296000 + e * z_rl (H l) (V l) r / 1296000 + 1) < nI (z_rl (H l) (V l) r) by rw [nI_ltI (by omega) (by omega)]; omega)]
theorem r_boxMany (g : MOK R C H V cr cq dp wd za) (hl : l < 5) {w e r : Nat} (hw : w < 1296000) (he : e < 1296000) (hr : r ≤ 44 * H l + 1) : f_M_boxMany dp wd (nI l) (nI w) (nI e) (nI r) = some (nI (z_bm (H l) (V l) w e r)) := by
  have hv := g.2.2.hv hl
  have hps := g.2.2.pos l hl
  have lr := z_rl_pos (V := V l) hps.1 hps.2 hr
  have a1 := z_plIn hw lr.1
  have a2 := z_plIn he lr.1
  unfold f_M_boxMany z_bm
  rw [m_many g hl hr, q_b1_s, m_placeAt hw (by omega), q_b1_s, m_placeAt he (by omega), q_b1_s]
  by_cases c : w ≤ e
  · have hd : w * z_rl (H l) (V l) r / 1296000 ≤ e * z_rl (H l) (V l) r / 1296000 := Nat.div_le_div_right (Nat.mul_le_mul_right _ c)
    rw [if_neg (show ¬ nI e < nI w by rw [nI_ltI (by omega) (by omega)]; omega), if_pos c, pk_sub hd, nI_1]
  · rw [if_pos (show nI e < nI w by rw [nI_ltI (by omega) (by omega)]; omega), if_neg c]
    by_cases c2 : e * z_rl (H l) (V l) r / 1296000 < w * z_rl (H l) (V l) r / 1296000
    · rw [if_pos c2, if_pos (show nI (e * z_rl (H l) (V l) r / 1296000) < nI (w * z_rl (H l) (V l) r / 1296000) by rw [nI_ltI (by omega) (by omega)]; exact c2), pk_sub (by omega), nI_add, nI_1]
    · rw [if_neg c2, if_neg (show ¬ nI (e * z_rl (H l) (V l) r / 1296000) < nI (w * z_rl (H l) (V l) r / 1296000) by rw [nI_ltI (by omega) (by omega)]; exact c2)]
/-- the key of the j-th of a row from the west -/
def z_bkey (H V w r j : Nat) : Nat := z_rs H V r + (w * z_rl H V r / 1296000 + j) % z_rl H V r
theorem r_fromWest (g : GOK R C H V rc cc br zc rw sh) (hl : l < 5) {w r j : Nat} (hw : w < 1296000) (hr : r ≤ 44 * H l + 1) (hj : j ≤ z_rl (H l) (V l) r) : f_Box_keyFromWest (nI w) br zc rw sh (nI l) (nI r) (nI j) = some (nI (z_bkey (H l) (V l) w r j)) := by
  have hv := g.2.hv hl
  have hps := g.2.pos l hl
  have lr := z_rl_pos (V := V l) hps.1 hps.2 hr
  obtain ⟨e1, a1⟩ := k_placeOfLon g hl hr hw
  unfold f_Box_keyFromWest z_bkey
  rw [e1, q_b1_s, k_rowStart g hl hr, q_b1_s, k_rowLength g hl hr, q_b1_s, nI_add, z_rm (by omega) (by omega) (by omega), nI_add]
theorem r_westKey (g : MOK R C H V cr cq dp wd za) (hl : l < 5) {w r j : Nat} (hw : w < 1296000) (hr : r ≤ 44 * H l + 1) (hj : j ≤ z_rl (H l) (V l) r) : f_M_westOf dp wd (nI l) (nI w) (nI r) = some (nI (w * z_rl (H l) (V l) r / 1296000)) ∧ f_M_keyOf dp wd za (nI l) (nI r) (nI ((w * z_rl (H l) (V l) r / 1296000 + j) % z_rl (H l) (V l) r)) = some (nI (z_bkey (H l) (V l) w r j)) := by
  have hv := g.2.2.hv hl
  have hps := g.2.2.pos l hl
  have lr := z_rl_pos (V := V l) hps.1 hps.2 hr
  have hm : (w * z_rl (H l) (V l) r / 1296000 + j) % z_rl (H l) (V l) r < z_rl (H l) (V l) r := Nat.mod_lt _ (by omega)
  unfold f_M_westOf
  rw [m_many g hl hr, q_b1_s, m_placeAt hw (by omega), q_b1_s, m_keyOf g hl hr hm]
  exact ⟨rfl, rfl⟩
/-! the class's belts -/
/-- the first row of a belt -/
def z_fst (H j : Nat) : Nat := if j = 0 then 0 else (j - 1) * H + 1
theorem z_fstS {H0 j : Nat} : z_fst H0 (j + 1) = j * H0 + 1 := by
  unfold z_fst
  rw [if_neg (by omega), Nat.add_sub_cancel]
/-- the last one -/
def z_lst (H j : Nat) : Nat := if j ≤ 44 then j * H else 44 * H + 1
theorem z_fl {H0 j : Nat} (hH : 1 ≤ H0) (hj : j ≤ 44) : z_fst H0 (j + 1) = z_lst H0 j + 1 := by
  rw [z_fstS]
  unfold z_lst
  rw [if_pos hj]
theorem z_fl1 {H0 j : Nat} (hH : 1 ≤ H0) (hj : j ≤ 45) : z_fst H0 j ≤ z_lst H0 j ∧ z_lst H0 j ≤ 44 * H0 + 1 := by
  unfold z_fst z_lst
  by_cases c : j = 0
  · subst c; rw [if_pos rfl]; exact ⟨Nat.zero_le _, by split <;> omega⟩
  · rw [if_neg c]
    obtain ⟨q, rfl⟩ : ∃ q, j = q + 1 := ⟨j - 1, by omega⟩
    rw [Nat.add_sub_cancel]
    by_cases d : q + 1 ≤ 44
    · have m : (q + 1) * H0 ≤ 44 * H0 := Nat.mul_le_mul_right _ d
      rw [if_pos d]
      rw [Nat.succ_mul] at m ⊢
      omega
    · have e : q = 44 := by omega
      subst e
      rw [if_neg (by omega)]
      omega
theorem z_bm_in {H0 V0 w e j r r2 : Nat} (hH : 1 ≤ H0) (hj : j ≤ 45) (h1 : z_fst H0 j ≤ r) (h2 : r ≤ z_lst H0 j) (g1 : z_fst H0 j ≤ r2) (g2 : r2 ≤ z_lst H0 j) : z_bm H0 V0 w e r = z_bm H0 V0 w e r2 := by
  by_cases c : j = 0
  · subst c
    have e0 : z_lst H0 0 = 0 := by unfold z_lst; rw [if_pos (by omega), Nat.zero_mul]
    have : r = r2 := by omega
    rw [this]
  · obtain ⟨q, rfl⟩ : ∃ q, j = q + 1 := ⟨j - 1, by omega⟩
    rw [z_fstS] at h1 g1
    by_cases d : q + 1 ≤ 44
    · have e0 : z_lst H0 (q + 1) = (q + 1) * H0 := by unfold z_lst; rw [if_pos d]
      rw [e0] at h2 g2
      exact z_bm_belt hH (by omega) h1 h2 g1 g2
    · have e1 : q = 44 := by omega
      subst e1
      have e0 : z_lst H0 (44 + 1) = 44 * H0 + 1 := by unfold z_lst; rw [if_neg (by omega)]
      have : r = r2 := by omega
      rw [this]
theorem r_beltTop (g : GOK R C H V rc cc br zc rw sh) (hl : l < 5) {p : Int32} (h1 : -324000 ≤ p.toInt) (h2 : p.toInt ≤ 324000) {j : Nat} (hj : j ≤ 45) : f_Box_beltTop p br rw (nI l) (nI j) = some (nI (if z_fst (H l) j < z_rowLat (H l) p.toInt then z_rowLat (H l) p.toInt else z_fst (H l) j)) := by
  have hv := g.2.hv hl
  have hps := g.2.pos l hl
  have hr := z_rowLat_le hps.1 p.toInt
  have hf := z_fl1 hps.1 hj
  have K : ∀ a, a ≤ 44 * H l + 1 → q_b1 (f_Box_topRow p br rw (nI l)) (fun (v2 : Int32) => q_nm ((if nI a < v2 then v2 else nI a) : Int32) (fun (v3 : Int32) => some v3)) = some (nI (if a < z_rowLat (H l) p.toInt then z_rowLat (H l) p.toInt else a)) := by
    intro a ha
    unfold f_Box_topRow
    rw [k_rowOfLat g hl h1 h2, q_b1_s, q_b1_s, z_nm]
    by_cases c : a < z_rowLat (H l) p.toInt
    · rw [if_pos (show nI a < nI (z_rowLat (H l) p.toInt) by rw [nI_ltI (by omega) (by omega)]; exact c), if_pos c]
    · rw [if_neg (show ¬ nI a < nI (z_rowLat (H l) p.toInt) by rw [nI_ltI (by omega) (by omega)]; exact c), if_neg c]
  unfold f_Box_beltTop
  rw [z_j1]
  by_cases c : j = 0
  · have e : z_fst (H l) j = 0 := by unfold z_fst; rw [if_pos c]
    rw [if_pos (show nI j = 0 by rw [c]; rfl), e]
    exact K 0 (by omega)
  · have e : z_fst (H l) j = (j - 1) * H l + 1 := by unfold z_fst; rw [if_neg c]
    rw [if_neg (show ¬ nI j = 0 by rw [z_eq0 (by omega)]; exact c), z_ai hl (by omega), (g.at hl).2.2.1, z_sub1 (by omega), pk_mul, nI_1, e]
    exact K ((j - 1) * H l + 1) (by omega)
theorem r_beltBottom (g : GOK R C H V rc cc br zc rw sh) (hl : l < 5) {p : Int32} (h1 : -324000 ≤ p.toInt) (h2 : p.toInt ≤ 324000) {j : Nat} (hj : j ≤ 45) : f_Box_beltBottom p br rw (nI l) (nI j) = some (nI (if z_rowLat (H l) p.toInt < z_lst (H l) j then z_rowLat (H l) p.toInt else z_lst (H l) j)) := by
  have hv := g.2.hv hl
  have hps := g.2.pos l hl
  have hr := z_rowLat_le hps.1 p.toInt
  have hf := z_fl1 hps.1 hj
  have K : ∀ a, a ≤ 44 * H l + 1 → q_b1 (f_Box_bottomRow p br rw (nI l)) (fun (v2 : Int32) => q_nm ((if v2 < nI a then v2 else nI a) : Int32) (fun (v3 : Int32) => some v3)) = some (nI (if z_rowLat (H l) p.toInt < a then z_rowLat (H l) p.toInt else a)) := by
    intro a ha
    unfold f_Box_bottomRow
    rw [k_rowOfLat g hl h1 h2, q_b1_s, q_b1_s, z_nm]
    by_cases c : z_rowLat (H l) p.toInt < a
    · rw [if_pos (show nI (z_rowLat (H l) p.toInt) < nI a by rw [nI_ltI (by omega) (by omega)]; exact c), if_pos c]
    · rw [if_neg (show ¬ nI (z_rowLat (H l) p.toInt) < nI a by rw [nI_ltI (by omega) (by omega)]; exact c), if_neg c]
  unfold f_Box_beltBottom
  rw [z_j1]
  by_cases c : j ≤ 44
  · have e : z_lst (H l) j = j * H l := by unfold z_lst; rw [if_pos c]
    rw [if_pos (show nI j ≤ 44 by rw [z_i 44, nI_leI (by omega) (by omega)]; exact c), z_ai hl (by omega), (g.at hl).2.2.1, pk_mul, e]
    exact K (j * H l) (by omega)
  · have e : z_lst (H l) j = 44 * H l + 1 := by unfold z_lst; rw [if_neg c]
    rw [if_neg (show ¬ nI j ≤ 44 by rw [z_i 44, nI_leI (by omega) (by omega)]; exact c), z_ai hl (by omega), (g.at hl).2.2.2.2.1, z_sub1 (by omega), show 44 * H l + 2 - 1 = 44 * H l + 1 by omega, e]
    exact K (44 * H l + 1) (by omega)
/-- the next row to look at -/
def z_cl (tp bt f : Nat) : Nat := if f < tp then tp else if bt + 1 < f then bt + 1 else f
theorem z_lat_mono {H0 : Nat} (hH : 1 ≤ H0) {x y : Int} (h : x ≤ y) : z_rowLat H0 y ≤ z_rowLat H0 x := by
  have hx := z_rowLat_le hH x
  have hy := z_rowLat_le hH y
  by_cases c1 : 316800 ≤ y
  · have e : z_rowLat H0 y = 0 := by unfold z_rowLat; rw [if_pos c1]
    omega
  by_cases c2 : x < -316800
  · have e : z_rowLat H0 x = 44 * H0 + 1 := by unfold z_rowLat; rw [if_neg (by omega), if_pos c2]
    omega
  have a1 := z_rowLat_in (H := H0) (x := x) (by omega) (by omega) hH
  have a2 := z_rowLat_in (H := H0) (x := y) (by omega) (by omega) hH
  have m : x * (H0 : Int) ≤ y * (H0 : Int) := Int.mul_le_mul_of_nonneg_right h (by omega)
  have d := Int.ediv_le_ediv (c := 14400) (by decide) m
  unfold z_rowLat
  rw [if_neg c1, if_neg (show ¬ y < -316800 by omega), if_neg (show ¬ 316800 ≤ x by omega), if_neg c2]
  omega
theorem r_sheetsAt (g : GOK R C H V rc cc br zc rw sh) (hN : 1000000 ≤ N) (hl : l < 5) {a b : Int32} (ha : -324000 ≤ a.toInt) (ha2 : a.toInt ≤ 324000) (hb : -324000 ≤ b.toInt) (hb2 : b.toInt ≤ 324000) (hab : a.toInt ≤ b.toInt) {w e : Nat} (hw : w < 1296000) (he : e < 1296000) : f_Box_sheetsAt N a b (nI w) (nI e) br zc rw (nI l) = some (nI (z_bS (H l) (V l) w e (z_rowLat (H l) a.toInt + 1) - z_bS (H l) (V l) w e (z_rowLat (H l) b.toInt))) := by
  have hs := g.2.sh hl
  have hv := g.2.hv hl
  have hps := g.2.pos l hl
  have ht := z_rowLat_le hps.1 b.toInt
  have hbt := z_rowLat_le hps.1 a.toInt
  have htb := z_lat_mono hps.1 hab
  have S : ∀ u j, j ≤ 46 → 46 - j < u → f_Box_sheetsAt_L4 (nI e) b a (nI w) br rw zc (nI l) u (nI (z_bS (H l) (V l) w e (z_cl (z_rowLat (H l) b.toInt) (z_rowLat (H l) a.toInt) (z_fst (H l) j)) - z_bS (H l) (V l) w e (z_rowLat (H l) b.toInt))) (nI j) = some (nI (z_bS (H l) (V l) w e (z_rowLat (H l) a.toInt + 1) - z_bS (H l) (V l) w e (z_rowLat (H l) b.toInt))) := by
    intro u
    induction u with
    | zero => intro j h1 h2; omega
    | succ u ih =>
      intro j h1 h2
      unfold f_Box_sheetsAt_L4
      by_cases c : j = 46
      · subst c
        have e1 : z_cl (z_rowLat (H l) b.toInt) (z_rowLat (H l) a.toInt) (z_fst (H l) 46) = z_rowLat (H l) a.toInt + 1 := by
          have : z_fst (H l) 46 = 45 * H l + 1 := z_fstS
          unfold z_cl
          by_cases d : z_fst (H l) 46 < z_rowLat (H l) b.toInt
          · omega
          · rw [if_neg d]
            by_cases d2 : z_rowLat (H l) a.toInt + 1 < z_fst (H l) 46
            · rw [if_pos d2]
            · rw [if_neg d2]; omega
        rw [if_pos (by decide), e1]
      · have hj : j ≤ 45 := by omega
        have f1 := z_fl1 hps.1 hj
        have I := ih (j + 1) (by omega) (by omega)
        have fn : j ≤ 44 → z_fst (H l) (j + 1) = z_lst (H l) j + 1 := z_fl hps.1
        have fn2 : j = 45 → z_fst (H l) (j + 1) = 45 * H l + 1 ∧ z_lst (H l) j = 44 * H l + 1 := fun z => by
          subst z
          exact ⟨z_fstS, by unfold z_lst; rw [if_neg (by omega)]⟩
        have bS : ∀ r, r ≤ 44 * H l + 2 → z_bS (H l) (V l) w e r ≤ 2130 * (H l * V l) + 2 := fun r hr => z_bS_top hps.1 hps.2 hw he hr
        rw [if_neg (show ¬ (45 : Int32) < nI j by rw [z_i 45, nI_ltI (by omega) (by omega)]; omega), r_beltTop g hl hb hb2 hj, q_b1_s, r_beltBottom g hl ha ha2 hj, q_b1_s, z_j1]
        generalize z_rowLat (H l) b.toInt = tp at *
        generalize z_rowLat (H l) a.toInt = bt at *
        have tB : (if z_fst (H l) j < tp then tp else z_fst (H l) j) ≤ 44 * H l + 1 := by split <;> omega
        have bB : (if bt < z_lst (H l) j then bt else z_lst (H l) j) ≤ 44 * H l + 1 := by split <;> omega
        by_cases d : (if bt < z_lst (H l) j then bt else z_lst (H l) j) < (if z_fst (H l) j < tp then tp else z_fst (H l) j)
        · rw [if_pos (show nI _ < nI _ by rw [nI_ltI (by omega) (by omega)]; exact d)]
          dsimp only
          rw [nI_1, z_nm]
          have e1 : z_cl tp bt (z_fst (H l) (j + 1)) = z_cl tp bt (z_fst (H l) j) := by
            unfold z_cl
            by_cases c45 : j = 45
            · have := fn2 c45
              revert d
              (repeat' split) <;> intros <;> omega
            · have := fn (by omega)
              revert d
              (repeat' split) <;> intros <;> omega
          rw [e1] at I
          exact I
        · have hin := r_inRow g hl hw he (r := if z_fst (H l) j < tp then tp else z_fst (H l) j) tB
          rw [if_neg (show ¬ nI _ < nI _ by rw [nI_ltI (by omega) (by omega)]; exact d), hin, q_b1_s]
          generalize ht2 : (if z_fst (H l) j < tp then tp else z_fst (H l) j) = t2 at *
          generalize hb3 : (if bt < z_lst (H l) j then bt else z_lst (H l) j) = b2 at *
          have d1 : t2 ≤ b2 := by omega
          have q1 : z_fst (H l) j ≤ t2 ∧ tp ≤ t2 := by rw [← ht2]; split <;> omega
          have q2 : b2 ≤ z_lst (H l) j ∧ b2 ≤ bt := by rw [← hb3]; split <;> omega
          have e1 : z_cl tp bt (z_fst (H l) j) = t2 := by
            unfold z_cl
            rw [← ht2]
            split
            · rfl
            · split <;> omega
          have e2 : z_cl tp bt (z_fst (H l) (j + 1)) = b2 + 1 := by
            unfold z_cl
            by_cases c45 : j = 45
            · have := fn2 c45
              rw [← hb3]
              (repeat' split) <;> omega
            · have := fn (by omega)
              rw [← hb3]
              (repeat' split) <;> omega
          have sc := z_bS_const (H0 := H l) (V0 := V l) (w := w) (e := e) (m := z_bm (H l) (V l) w e t2) (b2 - t2 + 1) t2 (fun i hi => z_bm_in hps.1 hj (by omega) (by omega) q1.1 (by omega))
          rw [show t2 + (b2 - t2 + 1) = b2 + 1 by omega] at sc
          have mono := z_bS_le2 (H0 := H l) (V0 := V l) (w := w) (e := e) q1.2
          have bb := bS (b2 + 1) (by omega)
          dsimp only
          rw [pk_sub d1, nI_1, pk_mul, e1, nI_add, z_nm, nI_1, z_nm]
          rw [e2] at I
          rw [show z_bS (H l) (V l) w e t2 - z_bS (H l) (V l) w e tp + (b2 - t2 + 1) * z_bm (H l) (V l) w e t2 = z_bS (H l) (V l) w e (b2 + 1) - z_bS (H l) (V l) w e tp by omega]
          exact I
  have I := S N 0 (by omega) (by omega)
  have e0 : z_cl (z_rowLat (H l) b.toInt) (z_rowLat (H l) a.toInt) (z_fst (H l) 0) = z_rowLat (H l) b.toInt := by
    have : z_fst (H l) 0 = 0 := rfl
    unfold z_cl
    split
    · rfl
    · split <;> omega
  rw [e0, Nat.sub_self] at I
  unfold f_Box_sheetsAt
  rw [z_nm, z_nm, show (0 : Int32) = nI 0 from rfl, I, q_b1_s]
/-- the i-th sheet of a box -/
def z_bk (H V w e tp bt i k : Nat) : Prop := ∃ r, tp ≤ r ∧ r ≤ bt ∧ z_bS H V w e r ≤ i + z_bS H V w e tp ∧ i + z_bS H V w e tp < z_bS H V w e (r + 1) ∧ k = z_bkey H V w r (i + z_bS H V w e tp - z_bS H V w e r)
theorem z_bk_one {H0 V0 w e tp bt i k k' : Nat} (h : z_bk H0 V0 w e tp bt i k) (h' : z_bk H0 V0 w e tp bt i k') : k = k' := by
  obtain ⟨r, a1, a2, a3, a4, rfl⟩ := h
  obtain ⟨r', b1, b2, b3, b4, rfl⟩ := h'
  have e : r = r' := by
    rcases Nat.lt_trichotomy r r' with c | c | c
    · have := z_bS_le2 (H0 := H0) (V0 := V0) (w := w) (e := e) (show r + 1 ≤ r' by omega)
      omega
    · exact c
    · have := z_bS_le2 (H0 := H0) (V0 := V0) (w := w) (e := e) (show r' + 1 ≤ r by omega)
      omega
  subst e
  rfl
theorem r_sheetAt (g : GOK R C H V rc cc br zc rw sh) (hN : 1000000 ≤ N) (hl : l < 5) {a b : Int32} (ha : -324000 ≤ a.toInt) (ha2 : a.toInt ≤ 324000) (hb : -324000 ≤ b.toInt) (hb2 : b.toInt ≤ 324000) (hab : a.toInt ≤ b.toInt) {w e i : Nat} (hw : w < 1296000) (he : e < 1296000) (hi : i < z_bS (H l) (V l) w e (z_rowLat (H l) a.toInt + 1) - z_bS (H l) (V l) w e (z_rowLat (H l) b.toInt)) : Ok (f_Box_sheetAt N a b (nI w) (nI e) br zc rw sh (nI l) (nI i)) (fun x => ∃ k, x = nI k ∧ z_bk (H l) (V l) w e (z_rowLat (H l) b.toInt) (z_rowLat (H l) a.toInt) i k) := by
  have hs := g.2.sh hl
  have hv := g.2.hv hl
  have hps := g.2.pos l hl
  have ht := z_rowLat_le hps.1 b.toInt
  have hbt := z_rowLat_le hps.1 a.toInt
  have htb := z_lat_mono hps.1 hab
  have bS : ∀ r, r ≤ 44 * H l + 2 → z_bS (H l) (V l) w e r ≤ 2130 * (H l * V l) + 2 := fun r hr => z_bS_top hps.1 hps.2 hw he hr
  have S : ∀ u j, j ≤ 46 → 46 - j < u → z_bS (H l) (V l) w e (z_cl (z_rowLat (H l) b.toInt) (z_rowLat (H l) a.toInt) (z_fst (H l) j)) ≤ i + z_bS (H l) (V l) w e (z_rowLat (H l) b.toInt) → Ok (f_Box_sheetAt_L5 (nI e) b a (nI w) br rw sh zc (nI l) (nI i) u (nI (z_bS (H l) (V l) w e (z_cl (z_rowLat (H l) b.toInt) (z_rowLat (H l) a.toInt) (z_fst (H l) j)) - z_bS (H l) (V l) w e (z_rowLat (H l) b.toInt))) (nI j)) (fun x => ∃ k, x = .inr (nI k) ∧ z_bk (H l) (V l) w e (z_rowLat (H l) b.toInt) (z_rowLat (H l) a.toInt) i k) := by
    intro u
    induction u with
    | zero => intro j h1 h2; omega
    | succ u ih =>
      intro j h1 h2 hle
      have hbound := bS (z_rowLat (H l) a.toInt + 1) (by omega)
      unfold f_Box_sheetAt_L5
      by_cases c : j = 46
      · subst c
        have e1 : z_cl (z_rowLat (H l) b.toInt) (z_rowLat (H l) a.toInt) (z_fst (H l) 46) = z_rowLat (H l) a.toInt + 1 := by
          have : z_fst (H l) 46 = 45 * H l + 1 := z_fstS
          unfold z_cl
          by_cases d : z_fst (H l) 46 < z_rowLat (H l) b.toInt
          · omega
          · rw [if_neg d]
            by_cases d2 : z_rowLat (H l) a.toInt + 1 < z_fst (H l) 46
            · rw [if_pos d2]
            · rw [if_neg d2]; omega
        rw [e1] at hle
        omega
      · have hj : j ≤ 45 := by omega
        have f1 := z_fl1 hps.1 hj
        have I := ih (j + 1) (by omega) (by omega)
        have fn : j ≤ 44 → z_fst (H l) (j + 1) = z_lst (H l) j + 1 := z_fl hps.1
        have fn2 : j = 45 → z_fst (H l) (j + 1) = 45 * H l + 1 ∧ z_lst (H l) j = 44 * H l + 1 := fun z => by
          subst z
          exact ⟨z_fstS, by unfold z_lst; rw [if_neg (by omega)]⟩
        rw [if_neg (show ¬ (45 : Int32) < nI j by rw [z_i 45, nI_ltI (by omega) (by omega)]; omega), r_beltTop g hl hb hb2 hj, q_b1_s, r_beltBottom g hl ha ha2 hj, q_b1_s, z_j1]
        generalize z_rowLat (H l) b.toInt = tp at *
        generalize z_rowLat (H l) a.toInt = bt at *
        have tB : (if z_fst (H l) j < tp then tp else z_fst (H l) j) ≤ 44 * H l + 1 := by split <;> omega
        have bB : (if bt < z_lst (H l) j then bt else z_lst (H l) j) ≤ 44 * H l + 1 := by split <;> omega
        by_cases d : (if z_fst (H l) j < tp then tp else z_fst (H l) j) ≤ (if bt < z_lst (H l) j then bt else z_lst (H l) j)
        rotate_left
        · rw [if_neg (show ¬ nI _ ≤ nI _ by rw [nI_leI (by omega) (by omega)]; exact d)]
          dsimp only
          rw [nI_1, z_nm]
          have e1 : z_cl tp bt (z_fst (H l) (j + 1)) = z_cl tp bt (z_fst (H l) j) := by
            unfold z_cl
            by_cases c45 : j = 45
            · have := fn2 c45
              revert d
              (repeat' split) <;> intros <;> omega
            · have := fn (by omega)
              revert d
              (repeat' split) <;> intros <;> omega
          rw [e1] at I
          exact I hle
        · have hin := r_inRow g hl hw he (r := if z_fst (H l) j < tp then tp else z_fst (H l) j) tB
          rw [if_pos (show nI _ ≤ nI _ by rw [nI_leI (by omega) (by omega)]; exact d), hin, q_b1_s]
          generalize ht2 : (if z_fst (H l) j < tp then tp else z_fst (H l) j) = t2 at *
          generalize hb3 : (if bt < z_lst (H l) j then bt else z_lst (H l) j) = b2 at *
          have d1 : t2 ≤ b2 := d
          have q1 : z_fst (H l) j ≤ t2 ∧ tp ≤ t2 := by rw [← ht2]; split <;> omega
          have q2 : b2 ≤ z_lst (H l) j ∧ b2 ≤ bt := by rw [← hb3]; split <;> omega
          have e1 : z_cl tp bt (z_fst (H l) j) = t2 := by
            unfold z_cl
            rw [← ht2]
            split
            · rfl
            · split <;> omega
          have e2 : z_cl tp bt (z_fst (H l) (j + 1)) = b2 + 1 := by
            unfold z_cl
            by_cases c45 : j = 45
            · have := fn2 c45
              rw [← hb3]
              (repeat' split) <;> omega
            · have := fn (by omega)
              rw [← hb3]
              (repeat' split) <;> omega
          have lr := z_rl_pos (V := V l) hps.1 hps.2 (show t2 ≤ 44 * H l + 1 by omega)
          have mb := z_bm_b (w := w) (e := e) lr.1 hw he
          have scG : ∀ n, n ≤ b2 - t2 + 1 → z_bS (H l) (V l) w e (t2 + n) = z_bS (H l) (V l) w e t2 + n * z_bm (H l) (V l) w e t2 := fun n hn => z_bS_const (H0 := H l) (V0 := V l) (w := w) (e := e) (m := z_bm (H l) (V l) w e t2) n t2 (fun i hi => z_bm_in hps.1 hj (by omega) (by omega) q1.1 (by omega))
          have sc := scG (b2 - t2 + 1) (by omega)
          rw [show t2 + (b2 - t2 + 1) = b2 + 1 by omega] at sc
          have mono := z_bS_le2 (H0 := H l) (V0 := V l) (w := w) (e := e) q1.2
          have bb := bS (b2 + 1) (by omega)
          have emax : (if (1 : Int32) < nI (z_bm (H l) (V l) w e t2) then nI (z_bm (H l) (V l) w e t2) else 1) = nI (z_bm (H l) (V l) w e t2) := by
            by_cases k1 : 1 < z_bm (H l) (V l) w e t2
            · rw [if_pos (show (1 : Int32) < nI (z_bm (H l) (V l) w e t2) by rw [z_i 1, nI_ltI (by omega) (by omega)]; exact k1)]
            · have : z_bm (H l) (V l) w e t2 = 1 := by omega
              rw [this]; rfl
          rw [e1] at hle
          rw [emax, z_nm, e1, pk_sub d1, nI_1, pk_mul, z_nm, pk_sub (show z_bS (H l) (V l) w e t2 - z_bS (H l) (V l) w e tp ≤ i by omega)]
          refine Ok.ite (fun k2 => ?_) (fun k2 => ?_)
          all_goals rw [nI_leI (by omega) (by omega)] at k2
          · rw [nI_add, z_nm]
            dsimp only
            rw [nI_1, z_nm]
            rw [e2] at I
            rw [show z_bS (H l) (V l) w e t2 - z_bS (H l) (V l) w e tp + (b2 - t2 + 1) * z_bm (H l) (V l) w e t2 = z_bS (H l) (V l) w e (b2 + 1) - z_bS (H l) (V l) w e tp by omega]
            exact I (by omega)
          · generalize hx : i - (z_bS (H l) (V l) w e t2 - z_bS (H l) (V l) w e tp) = x at *
            have hq : x / z_bm (H l) (V l) w e t2 < b2 - t2 + 1 := Nat.div_lt_of_lt_mul (by rw [Nat.mul_comm]; omega)
            have hm : x % z_bm (H l) (V l) w e t2 < z_bm (H l) (V l) w e t2 := Nat.mod_lt _ (by omega)
            have hdm := Nat.div_add_mod x (z_bm (H l) (V l) w e t2)
            have s1 := scG (x / z_bm (H l) (V l) w e t2) (Nat.le_of_lt hq)
            rw [Nat.mul_comm] at hdm
            rw [z_dv (by omega) (by omega) (by omega), z_rm (by omega) (by omega) (by omega), nI_add]
            generalize x / z_bm (H l) (V l) w e t2 = Q at hq hdm s1 ⊢
            generalize x % z_bm (H l) (V l) w e t2 = T at hm hdm ⊢
            have em := z_bm_in (V0 := V l) (w := w) (e := e) (r := t2 + Q) (r2 := t2) hps.1 hj (by omega) (by omega) q1.1 (by omega)
            have lr2 := z_rl_pos (V := V l) hps.1 hps.2 (show t2 + Q ≤ 44 * H l + 1 by omega)
            have mb2 := z_bm_b (w := w) (e := e) lr2.1 hw he
            rw [r_fromWest g hl hw (by omega) (by omega), q_b1_s]
            refine Ok.ret ⟨_, rfl, t2 + Q, by omega, by omega, by omega, ?_, ?_⟩
            · show _ < z_bS (H l) (V l) w e (t2 + Q) + z_bm (H l) (V l) w e (t2 + Q)
              omega
            · congr 1
              omega
  have e0 : z_cl (z_rowLat (H l) b.toInt) (z_rowLat (H l) a.toInt) (z_fst (H l) 0) = z_rowLat (H l) b.toInt := by
    have : z_fst (H l) 0 = 0 := rfl
    unfold z_cl
    split
    · rfl
    · split <;> omega
  have I := S N 0 (by omega) (by omega) (by rw [e0]; omega)
  rw [e0, Nat.sub_self] at I
  unfold f_Box_sheetAt
  rw [z_nm, z_nm]
  refine Ok.s0 I (fun h => ?_) (fun r h => ?_)
  · obtain ⟨k, h, -⟩ := h
    cases h
  · obtain ⟨k, h, hk⟩ := h
    cases h
    exact ⟨k, rfl, hk⟩
/-! the reference's rows -/
theorem r_boxAll (g : MOK R C H V cr cq dp wd za) (hN : 1000000 ≤ N) (hl : l < 5) {tp bt w e : Nat} (ht : tp ≤ bt) (hb : bt ≤ 44 * H l + 1) (hw : w < 1296000) (he : e < 1296000) : f_M_boxAll N dp wd (nI l) (nI tp) (nI bt) (nI w) (nI e) = some (nI (z_bS (H l) (V l) w e (bt + 1) - z_bS (H l) (V l) w e tp)) := by
  have hs := g.2.2.sh hl
  have hv := g.2.2.hv hl
  have hps := g.2.2.pos l hl
  have bS : ∀ r, r ≤ 44 * H l + 2 → z_bS (H l) (V l) w e r ≤ 2130 * (H l * V l) + 2 := fun r hr => z_bS_top hps.1 hps.2 hw he hr
  have S : ∀ u r, tp ≤ r → r ≤ bt + 1 → bt + 1 - r < u → f_M_boxAll_L7 (nI bt) (nI e) (nI l) (nI w) dp wd u (nI (z_bS (H l) (V l) w e r - z_bS (H l) (V l) w e tp)) (nI r) = some (nI (z_bS (H l) (V l) w e (bt + 1) - z_bS (H l) (V l) w e tp)) := by
    intro u
    induction u with
    | zero => intro r h1 h2 h3; omega
    | succ u ih =>
      intro r h1 h2 h3
      unfold f_M_boxAll_L7
      by_cases c : bt < r
      · rw [if_pos (show nI bt < nI r by rw [nI_ltI (by omega) (by omega)]; exact c), show r = bt + 1 by omega]
      rw [if_neg (show ¬ nI bt < nI r by rw [nI_ltI (by omega) (by omega)]; exact c), z_j1, z_j0]
      -- with the end of the rows that are alike
      have K : ∀ x, r ≤ x → (∀ i, i < (if bt ≤ x then bt else x) - r + 1 → z_bm (H l) (V l) w e (r + i) = z_bm (H l) (V l) w e r) → x ≤ 44 * H l + 1 → q_j1 (fun (v6 : Int32) => (q_b1 (f_M_boxMany dp wd (nI l) (nI w) (nI e) (nI r)) (fun (v7 : Int32) => q_nm ((nI (z_bS (H l) (V l) w e r - z_bS (H l) (V l) w e tp) + (((v6 - nI r) + 1) * v7)) : Int32) (fun (v8 : Int32) => q_nm ((v6 + 1) : Int32) (fun (v9 : Int32) => f_M_boxAll_L7 (nI bt) (nI e) (nI l) (nI w) dp wd u v8 v9))) : Option (Int32))) (fun (k73 : Int32 → Option (Int32)) => if nI bt ≤ nI x then (k73 (nI bt)) else (k73 (nI x))) = some (nI (z_bS (H l) (V l) w e (bt + 1) - z_bS (H l) (V l) w e tp)) := by
        intro x hx hc hx2
        have sc := z_bS_const (H0 := H l) (V0 := V l) (w := w) (e := e) (m := z_bm (H l) (V l) w e r) ((if bt ≤ x then bt else x) - r + 1) r hc
        have mono := z_bS_le2 (H0 := H l) (V0 := V l) (w := w) (e := e) h1
        have fin : ∀ y, y = (if bt ≤ x then bt else x) → q_b1 (f_M_boxMany dp wd (nI l) (nI w) (nI e) (nI r)) (fun (v7 : Int32) => q_nm ((nI (z_bS (H l) (V l) w e r - z_bS (H l) (V l) w e tp) + (((nI y - nI r) + 1) * v7)) : Int32) (fun (v8 : Int32) => q_nm ((nI y + 1) : Int32) (fun (v9 : Int32) => f_M_boxAll_L7 (nI bt) (nI e) (nI l) (nI w) dp wd u v8 v9))) = some (nI (z_bS (H l) (V l) w e (bt + 1) - z_bS (H l) (V l) w e tp)) := by
          intro y hy
          have hy2 : r ≤ y ∧ y ≤ bt := by rw [hy]; split <;> omega
          rw [← hy, show r + (y - r + 1) = y + 1 by omega] at sc
          rw [r_boxMany g hl hw he (by omega), q_b1_s, pk_sub hy2.1, nI_1, pk_mul, nI_add, z_nm, nI_1, z_nm, show z_bS (H l) (V l) w e r - z_bS (H l) (V l) w e tp + (y - r + 1) * z_bm (H l) (V l) w e r = z_bS (H l) (V l) w e (y + 1) - z_bS (H l) (V l) w e tp by omega]
          exact ih (y + 1) (by omega) (by omega) (by omega)
        rw [z_j1]
        by_cases d : bt ≤ x
        · rw [if_pos (show nI bt ≤ nI x by rw [nI_leI (by omega) (by omega)]; exact d)]
          exact fin bt (by rw [if_pos d])
        · rw [if_neg (show ¬ nI bt ≤ nI x by rw [nI_leI (by omega) (by omega)]; exact d)]
          exact fin x (by rw [if_neg d])
      have one : ∀ i, i < (if bt ≤ r then bt else r) - r + 1 → z_bm (H l) (V l) w e (r + i) = z_bm (H l) (V l) w e r := by
        intro i hi
        have : i = 0 := by
          revert hi
          split <;> omega
        rw [this]; rfl
      by_cases c0 : r = 0
      · rw [if_pos (show nI r = 0 by rw [c0]; rfl)]
        exact K r (by omega) one (by omega)
      rw [if_neg (show ¬ nI r = 0 by rw [z_eq0 (by omega)]; exact c0), m_lastRow g hl, q_b1_s]
      by_cases c1 : r = 44 * H l + 1
      · rw [if_pos (show nI r = nI (44 * H l + 1) by rw [c1])]
        exact K r (by omega) one (by omega)
      have hq := z_q (r := r) (H := H l) (by omega) (by omega)
      have hdm := Nat.div_add_mod (r - 1) (H l)
      have hmod := Nat.mod_lt (r - 1) hps.1
      have m2 : ((r - 1) / H l + 1) * H l ≤ 44 * H l := Nat.mul_le_mul_right _ hq
      have e2 : ((r - 1) / H l + 1) * H l = (r - 1) / H l * H l + H l := Nat.succ_mul _ _
      rw [Nat.mul_comm] at hdm
      rw [if_neg (show ¬ nI r = nI (44 * H l + 1) by rw [nI_eq (by omega) (by omega)]; exact c1), m_bandOf g hl (by omega) (by omega), q_b1_s, z_ai hl (by omega), (g.1 l hl).2.2.1, nI_1, pk_mul]
      refine K _ (by omega) (fun i hi => ?_) (by omega)
      refine z_bm_belt hps.1 hq (by omega) ?_ (by omega) (by omega)
      revert hi
      split <;> omega
  have I := S N tp (by omega) (by omega) (by omega)
  rw [Nat.sub_self] at I
  unfold f_M_boxAll
  rw [z_nm, show (0 : Int32) = nI 0 from rfl, I, q_b1_s]
theorem r_boxKey (g : MOK R C H V cr cq dp wd za) (hN : 1000000 ≤ N) (hl : l < 5) {tp bt w e i : Nat} (ht : tp ≤ bt) (hb : bt ≤ 44 * H l + 1) (hw : w < 1296000) (he : e < 1296000) (hi : i < z_bS (H l) (V l) w e (bt + 1) - z_bS (H l) (V l) w e tp) : Ok (f_M_boxKey N dp wd za (nI l) (nI tp) (nI bt) (nI w) (nI e) (nI i)) (fun x => ∃ k, x = nI k ∧ z_bk (H l) (V l) w e tp bt i k) := by
  have hs := g.2.2.sh hl
  have hv := g.2.2.hv hl
  have hps := g.2.2.pos l hl
  have bS : ∀ r, r ≤ 44 * H l + 2 → z_bS (H l) (V l) w e r ≤ 2130 * (H l * V l) + 2 := fun r hr => z_bS_top hps.1 hps.2 hw he hr
  have hbound := bS (bt + 1) (by omega)
  have S : ∀ u r, tp ≤ r → r ≤ bt + 1 → bt + 1 - r < u → z_bS (H l) (V l) w e r ≤ i + z_bS (H l) (V l) w e tp → Ok (f_M_boxKey_L7 (nI bt) (nI e) (nI l) (nI w) dp wd za u (nI (i + z_bS (H l) (V l) w e tp - z_bS (H l) (V l) w e r)) (nI r)) (fun x => ∃ k, x = .inr (nI k) ∧ z_bk (H l) (V l) w e tp bt i k) := by
    intro u
    induction u with
    | zero => intro r h1 h2 h3; omega
    | succ u ih =>
      intro r h1 h2 h3 h4
      unfold f_M_boxKey_L7
      by_cases c : bt < r
      · have : r = bt + 1 := by omega
        subst this
        omega
      have lr := z_rl_pos (V := V l) hps.1 hps.2 (show r ≤ 44 * H l + 1 by omega)
      have mb := z_bm_b (w := w) (e := e) lr.1 hw he
      have e1 : z_bS (H l) (V l) w e (r + 1) = z_bS (H l) (V l) w e r + z_bm (H l) (V l) w e r := rfl
      rw [if_neg (show ¬ nI bt < nI r by rw [nI_ltI (by omega) (by omega)]; exact c), r_boxMany g hl hw he (by omega), q_b1_s]
      refine Ok.ite (fun d => ?_) (fun d => ?_)
      all_goals rw [nI_leI (by omega) (by omega)] at d
      · rw [pk_sub d, z_nm, nI_1, z_nm, show i + z_bS (H l) (V l) w e tp - z_bS (H l) (V l) w e r - z_bm (H l) (V l) w e r = i + z_bS (H l) (V l) w e tp - z_bS (H l) (V l) w e (r + 1) by omega]
        exact ih (r + 1) (by omega) (by omega) (by omega) (by omega)
      · have wk := r_westKey g hl hw (show r ≤ 44 * H l + 1 by omega) (j := i + z_bS (H l) (V l) w e tp - z_bS (H l) (V l) w e r) (by omega)
        have a1 := z_plIn hw lr.1
        rw [wk.1, q_b1_s, m_many g hl (by omega), q_b1_s, nI_add, z_rm (by omega) (by omega) (by omega), wk.2, q_b1_s]
        exact Ok.ret ⟨_, rfl, r, h1, by omega, h4, by omega, rfl⟩
  have I := S N tp (by omega) (by omega) (by omega) (by omega)
  rw [Nat.add_sub_cancel] at I
  unfold f_M_boxKey
  refine Ok.s0 I (fun h => ?_) (fun r h => ?_)
  · obtain ⟨k, h, -⟩ := h
    cases h
  · obtain ⟨k, h, hk⟩ := h
    cases h
    exact ⟨k, rfl, hk⟩
/-! box -/
def z_boxV (a b w e : Int32) : Prop := (z_plV a w ∧ z_plV b e) ∧ a.toInt ≤ b.toInt
theorem r_isBoxX (a b w e : Int32) : Ok (f_X_isBox a b w e) (fun x => (z_boxV a b w e ∧ x = 1) ∨ (¬ z_boxV a b w e ∧ x = 0)) := by
  unfold f_X_isBox
  refine Ok.b1 (r_isPlaceX a w) (fun v1 h1 => ?_)
  rcases h1 with ⟨z1, rfl⟩ | ⟨z, rfl⟩
  rotate_left
  · exact Ok.ite (fun _ => Ok.ret (Or.inr ⟨fun u => z u.1.1, rfl⟩)) (fun c => absurd rfl c)
  refine Ok.ite (fun c => absurd c (by decide)) (fun _ => Ok.b1 (r_isPlaceX b e) (fun v1 h1 => ?_))
  rcases h1 with ⟨z2, rfl⟩ | ⟨z, rfl⟩
  rotate_left
  · exact Ok.ite (fun _ => Ok.ret (Or.inr ⟨fun u => z u.1.2, rfl⟩)) (fun c => absurd rfl c)
  refine Ok.ite (fun c => absurd c (by decide)) (fun _ => Ok.ite (fun c => Ok.ret (Or.inr ⟨fun u => ?_, rfl⟩)) (fun c => Ok.ret (Or.inl ⟨⟨⟨z1, z2⟩, ?_⟩, rfl⟩)))
  · have := z_lt.mp c
    have := u.2
    omega
  · have : ¬ b.toInt < a.toInt := fun z => c (z_lt.mpr z)
    omega
theorem r_isBoxM (a b w e : Int32) : Ok (f_M_isBox a b w e) (fun x => (z_boxV a b w e ∧ x = 1) ∨ (¬ z_boxV a b w e ∧ x = 0)) := by
  unfold f_M_isBox
  refine Ok.b1 (r_isPlaceM a w) (fun v1 h1 => ?_)
  rcases h1 with ⟨z1, rfl⟩ | ⟨z, rfl⟩
  rotate_left
  · exact Ok.ite (fun _ => Ok.ret (Or.inr ⟨fun u => z u.1.1, rfl⟩)) (fun c => absurd rfl c)
  refine Ok.ite (fun c => absurd c (by decide)) (fun _ => Ok.b1 (r_isPlaceM b e) (fun v1 h1 => ?_))
  rcases h1 with ⟨z2, rfl⟩ | ⟨z, rfl⟩
  rotate_left
  · exact Ok.ite (fun _ => Ok.ret (Or.inr ⟨fun u => z u.1.2, rfl⟩)) (fun c => absurd rfl c)
  refine Ok.ite (fun c => absurd c (by decide)) (fun _ => Ok.ite (fun c => Ok.ret (Or.inr ⟨fun u => ?_, rfl⟩)) (fun c => Ok.ret (Or.inl ⟨⟨⟨z1, z2⟩, ?_⟩, rfl⟩)))
  · have := z_lt.mp c
    have := u.2
    omega
  · have : ¬ b.toInt < a.toInt := fun z => c (z_lt.mpr z)
    omega
theorem r_laysBox (g : MOK R C H V cr cq dp wd za) (hl : l < 5) (x1 x2 x3 x4 x5 a b w e : Int32) : f_M_laysBox dp x1 x2 x3 x4 x5 a b w e (nI l) = some (nI l, nI (z_rowLat (H l) b.toInt), nI (z_rowLat (H l) a.toInt), w, e) := by
  unfold f_M_laysBox
  rw [m_rowAt g hl, q_b1_s, m_rowAt g hl, q_b1_s]
/-- how many sheets a box has -/
def z_boxN (H V : Nat) (a b : Int) (w e : Nat) : Nat := z_bS H V w e (z_rowLat H a + 1) - z_bS H V w e (z_rowLat H b)
def l_Cbox (a b w e p i : Int32) : Prop := z_boxV a b w e ∧ (0 ≤ p.toInt ∧ p.toInt ≤ 4) ∧ -1 ≤ i
def l_abox (sv : l_T) (a b w e p i r : Int32) : Prop := (¬ l_Cbox a b w e p i ∧ r = -1) ∨ (l_Cbox a b w e p i ∧ ∃ l x y, l < 5 ∧ p = nI l ∧ x < 1296000 ∧ y < 1296000 ∧ w = nI x ∧ e = nI y ∧ ((i = -1 ∧ r = nI (z_boxN (z_pr (l_R sv) l) (z_pr (l_C sv) l) a.toInt b.toInt x y)) ∨ (¬ i = -1 ∧ nI (z_boxN (z_pr (l_R sv) l) (z_pr (l_C sv) l) a.toInt b.toInt x y) ≤ i ∧ r = -2) ∨ (¬ i = -1 ∧ ¬ nI (z_boxN (z_pr (l_R sv) l) (z_pr (l_C sv) l) a.toInt b.toInt x y) ≤ i ∧ ∃ k, r = nI k ∧ z_bk (z_pr (l_R sv) l) (z_pr (l_C sv) l) x y (z_rowLat (z_pr (l_R sv) l) b.toInt) (z_rowLat (z_pr (l_R sv) l) a.toInt) i.toInt.toNat k)))
theorem l_abox_one {a b w e p i r r' : Int32} (_ : l_ok sv) (h1 : l_abox sv a b w e p i r) (h2 : l_abox sv a b w e p i r') : r = r' := by
  rcases h1 with ⟨c, d⟩ | ⟨c, l, x, y, hl, e1, hx, hy, e2, e3, d⟩ <;> rcases h2 with ⟨c', d'⟩ | ⟨c', l', x', y', hl', e1', hx', hy', e2', e3', d'⟩
  · exact d.trans d'.symm
  · exact absurd c' c
  · exact absurd c c'
  · have f1 : l = l' := by rw [e1, nI_eq (by omega) (by omega)] at e1'; exact e1'
    have f2 : x = x' := by rw [e2, nI_eq (by omega) (by omega)] at e2'; exact e2'
    have f3 : y = y' := by rw [e3, nI_eq (by omega) (by omega)] at e3'; exact e3'
    subst f1 f2 f3
    rcases d with ⟨d1, d2⟩ | ⟨d1, d2, d3⟩ | ⟨d1, d2, k, d3, d4⟩ <;> rcases d' with ⟨g1, g2⟩ | ⟨g1, g2, g3⟩ | ⟨g1, g2, k', g3, g4⟩
    · exact d2.trans g2.symm
    · exact absurd d1 g1
    · exact absurd d1 g1
    · exact absurd g1 d1
    · exact d3.trans g3.symm
    · exact absurd d2 g2
    · exact absurd g1 d1
    · exact absurd g2 d2
    · rw [d3, g3, z_bk_one d4 g4]
theorem z_boxN_b (g : CUT R C H V) (hl : l < 5) {a b : Int} {w e : Nat} (hw : w < 1296000) (he : e < 1296000) : z_boxN (H l) (V l) a b w e ≤ 20000000 := by
  have hs := g.sh hl
  have hps := g.pos l hl
  have hbt := z_rowLat_le hps.1 a
  have := z_bS_top (w := w) (e := e) hps.1 hps.2 hw he (show z_rowLat (H l) a + 1 ≤ 44 * H l + 2 by omega)
  unfold z_boxN
  omega
theorem a_x_box (g : GOK (l_R sv) (l_C sv) (z_pr (l_R sv)) (z_pr (l_C sv)) rc cc br zc rw sh) (hN : 1000000 ≤ N) (b1 b2 b3 b4 a b w e p i : Int32) : Ok (f_X_box N b1 b2 b3 b4 br zc rw sh a b w e p i) (fun x => l_abox sv a b w e p i x.1) := by
  unfold f_X_box
  refine Ok.b1 (r_isBoxX a b w e) (fun v1 h1 => ?_)
  rcases h1 with ⟨z, rfl⟩ | ⟨z, rfl⟩
  rotate_left
  · exact Ok.ite (fun _ => Ok.ret (Or.inl ⟨fun u => z u.1, rfl⟩)) (fun c => absurd rfl c)
  refine Ok.ite (fun c => absurd c (by decide)) (fun _ => Ok.b1 (r_isLevel p) (fun v2 h2 => Ok.ite (fun c => Ok.ret (Or.inl ⟨fun u => z_if0 h2 c u.2.1, rfl⟩)) (fun c => ?_)))
  have hv := z_if1 h2 c
  refine Ok.ite (fun hi => ?_) (fun hi => Ok.ret (Or.inl ⟨fun u => hi u.2.2, rfl⟩))
  obtain ⟨l, hl, rfl⟩ := t_level hv
  obtain ⟨x, hx, rfl⟩ := z_plV_o z.1.1
  obtain ⟨y, hy, rfl⟩ := z_plV_o z.1.2
  have fin : ∀ r : Int32, _ → l_abox sv a b (nI x) (nI y) (nI l) i r := fun r h => Or.inr ⟨⟨z, hv, hi⟩, l, x, y, hl, rfl, hx, hy, rfl, rfl, h⟩
  have hb := z_boxN_b g.2 hl (a := a.toInt) (b := b.toInt) hx hy
  unfold f_Box_set
  rw [q_b4_s, r_sheetsAt g hN hl z.1.1.1.1 z.1.1.1.2 z.1.2.1.1 z.1.2.1.2 z.2 hx hy, q_b1_s]
  refine Ok.ite (fun c1 => Ok.ret (fin _ (Or.inl ⟨c1, rfl⟩))) (fun c1 => Ok.ite (fun c2 => Ok.ret (fin _ (Or.inr (Or.inl ⟨c1, c2, rfl⟩)))) (fun c2 => ?_))
  obtain ⟨j, hj, rfl, hjj⟩ := l_idx (M := z_boxN (z_pr (l_R sv) l) (z_pr (l_C sv) l) a.toInt b.toInt x y) (by omega) hi c1 c2
  refine Ok.b1 (r_sheetAt g hN hl z.1.1.1.1 z.1.1.1.2 z.1.2.1.1 z.1.2.1.2 z.2 hx hy hj) (fun v h => Ok.ret (fin _ (Or.inr (Or.inr ⟨c1, c2, ?_⟩))))
  obtain ⟨k, h, hk⟩ := h
  exact ⟨k, h, by rw [hjj]; exact hk⟩
theorem a_m_box (g : MOK (l_R sv) (l_C sv) (z_pr (l_R sv)) (z_pr (l_C sv)) cr cq dp wd za) (hN : 1000000 ≤ N) (x1 x2 x3 x4 x5 a b w e p i : Int32) : Ok (f_M_box N dp wd za x1 x2 x3 x4 x5 a b w e p i) (fun x => l_abox sv a b w e p i x.1) := by
  unfold f_M_box
  refine Ok.b1 (r_isBoxM a b w e) (fun v1 h1 => ?_)
  rcases h1 with ⟨z, rfl⟩ | ⟨z, rfl⟩
  rotate_left
  · exact Ok.ite (fun _ => Ok.ret (Or.inl ⟨fun u => z u.1, rfl⟩)) (fun c => absurd rfl c)
  refine Ok.ite (fun c => absurd c (by decide)) (fun _ => Ok.b1 (t_isLevel p) (fun v2 h2 => Ok.ite (fun c => Ok.ret (Or.inl ⟨fun u => z_if0 h2 c u.2.1, rfl⟩)) (fun c => ?_)))
  have hv := z_if1 h2 c
  refine Ok.ite (fun hi => ?_) (fun hi => Ok.ret (Or.inl ⟨fun u => hi u.2.2, rfl⟩))
  obtain ⟨l, hl, rfl⟩ := t_level hv
  obtain ⟨x, hx, rfl⟩ := z_plV_o z.1.1
  obtain ⟨y, hy, rfl⟩ := z_plV_o z.1.2
  have hps := g.2.2.pos l hl
  have htb := z_lat_mono hps.1 z.2
  have hbt := z_rowLat_le hps.1 a.toInt
  have fin : ∀ r : Int32, _ → l_abox sv a b (nI x) (nI y) (nI l) i r := fun r h => Or.inr ⟨⟨z, hv, hi⟩, l, x, y, hl, rfl, hx, hy, rfl, rfl, h⟩
  have hb := z_boxN_b g.2.2 hl (a := a.toInt) (b := b.toInt) hx hy
  rw [r_laysBox g hl, q_b5_s, r_boxAll g hN hl htb hbt hx hy, q_b1_s]
  refine Ok.ite (fun c1 => Ok.ret (fin _ (Or.inl ⟨c1, rfl⟩))) (fun c1 => Ok.ite (fun c2 => Ok.ret (fin _ (Or.inr (Or.inl ⟨c1, c2, rfl⟩)))) (fun c2 => ?_))
  obtain ⟨j, hj, rfl, hjj⟩ := l_idx (M := z_boxN (z_pr (l_R sv) l) (z_pr (l_C sv) l) a.toInt b.toInt x y) (by omega) hi c1 c2
  refine Ok.b1 (r_boxKey g hN hl htb hbt hx hy hj) (fun v h => Ok.ret (fin _ (Or.inr (Or.inr ⟨c1, c2, ?_⟩))))
  obtain ⟨k, h, hk⟩ := h
  exact ⟨k, h, by rw [hjj]; exact hk⟩
end S13A
