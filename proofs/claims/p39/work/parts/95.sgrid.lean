/-! the class's grid, spot, box: no call stops, whatever its numbers -/
theorem z_nat {r : Int32} (h : 0 ≤ r.toInt) : ∃ j, j < 2 ^ 31 ∧ r = nI j ∧ r.toInt = (j : Int) := by
  obtain ⟨j, a, b⟩ := nI_of (x := r) (fun z => by have := z_lt.mp z; rw [show (0 : Int32).toInt = 0 from rfl] at this; omega)
  exact ⟨j, a, b, by rw [b, nI_toInt a]⟩
theorem z_up {x y : Int32} (h : x < y) : (x + 1).toInt = x.toInt + 1 := by
  have h1 := z_lt.mp h
  have h2 := fb_rng x
  have h3 := fb_rng y
  have e : (1 : Int32).toInt = 1 := rfl
  rw [fb_addI (by rw [e]; omega) (by rw [e]; omega), e]
section SG
variable {R C H V : Nat → Nat} {rc cc br zc rw sh : Nat → Int32} {N l : Nat}
theorem s_fdI {x y : Int32} (h : y ≠ 0) : Ok (f_JMath_floorDiv_7cf53 x y) (fun _ => True) := by
  unfold f_JMath_floorDiv_7cf53
  refine Ok.dv h ?_
  (repeat' first | exact Ok.t | with_reducible refine Ok.ite (fun _ => ?_) (fun _ => ?_) | with_reducible refine Ok.nm ?_ | with_reducible refine Ok.j0 ?_ | with_reducible refine Ok.j1 ?_ | with_reducible refine Ok.j2 ?_ | (with_reducible apply Ok.ain <;> try first | assumption | decide) | (with_reducible apply Ok.asn <;> try first | assumption | decide) | (with_reducible apply Ok.ai <;> try first | assumption | decide) | (with_reducible apply Ok.as <;> try first | assumption | decide))
theorem s_fdL {x y : Int64} (h : y ≠ 0) : Ok (f_JMath_floorDiv_f86c9 x y) (fun _ => True) := by
  unfold f_JMath_floorDiv_f86c9
  refine Ok.dvl h ?_
  (repeat' first | exact Ok.t | with_reducible refine Ok.ite (fun _ => ?_) (fun _ => ?_) | with_reducible refine Ok.nm ?_ | with_reducible refine Ok.j0 ?_ | with_reducible refine Ok.j1 ?_ | with_reducible refine Ok.j2 ?_ | (with_reducible apply Ok.ain <;> try first | assumption | decide) | (with_reducible apply Ok.asn <;> try first | assumption | decide) | (with_reducible apply Ok.ai <;> try first | assumption | decide) | (with_reducible apply Ok.as <;> try first | assumption | decide))
theorem s_fmI {x y : Int32} (h : y ≠ 0) : Ok (f_JMath_floorMod_7cf53 x y) (fun _ => True) := by
  unfold f_JMath_floorMod_7cf53
  refine Ok.rm h ?_
  (repeat' first | exact Ok.t | with_reducible refine Ok.ite (fun _ => ?_) (fun _ => ?_) | with_reducible refine Ok.nm ?_ | with_reducible refine Ok.j0 ?_ | with_reducible refine Ok.j1 ?_ | with_reducible refine Ok.j2 ?_ | (with_reducible apply Ok.ain <;> try first | assumption | decide) | (with_reducible apply Ok.asn <;> try first | assumption | decide) | (with_reducible apply Ok.ai <;> try first | assumption | decide) | (with_reducible apply Ok.as <;> try first | assumption | decide))
theorem s_fmL {x y : Int64} (h : y ≠ 0) : Ok (f_JMath_floorMod_f86c9 x y) (fun _ => True) := by
  unfold f_JMath_floorMod_f86c9
  refine Ok.rml h ?_
  (repeat' first | exact Ok.t | with_reducible refine Ok.ite (fun _ => ?_) (fun _ => ?_) | with_reducible refine Ok.nm ?_ | with_reducible refine Ok.j0 ?_ | with_reducible refine Ok.j1 ?_ | with_reducible refine Ok.j2 ?_ | (with_reducible apply Ok.ain <;> try first | assumption | decide) | (with_reducible apply Ok.asn <;> try first | assumption | decide) | (with_reducible apply Ok.ai <;> try first | assumption | decide) | (with_reducible apply Ok.as <;> try first | assumption | decide))
theorem s_cmp (x y : Int32) : Ok (f_JInteger_compare_7cf53 x y) (fun _ => True) := by
  unfold f_JInteger_compare_7cf53
  (repeat' first | exact Ok.t | with_reducible refine Ok.ite (fun _ => ?_) (fun _ => ?_) | with_reducible refine Ok.nm ?_ | with_reducible refine Ok.j0 ?_ | with_reducible refine Ok.j1 ?_ | with_reducible refine Ok.j2 ?_ | (with_reducible apply Ok.ain <;> try first | assumption | decide) | (with_reducible apply Ok.asn <;> try first | assumption | decide) | (with_reducible apply Ok.ai <;> try first | assumption | decide) | (with_reducible apply Ok.as <;> try first | assumption | decide))
theorem s_rowLength (g : GOK R C H V rc cc br zc rw sh) (hl : l < 5) (r : Int32) : Ok (f_Grid_rowLength br zc rw (nI l) r) (fun x => ∃ L, x = nI L ∧ 1 ≤ L ∧ L ≤ 563400) := by
  have hv := g.2.hv hl
  have hp := g.2.pos l hl
  obtain ⟨-, -, e3, e4, e5, -⟩ := g.at hl
  by_cases h : 0 ≤ r.toInt ∧ r.toInt ≤ 44 * H l + 1
  · obtain ⟨j, h1, rfl, h3⟩ := z_nat h.1
    have hj : j ≤ 44 * H l + 1 := by omega
    have hb := z_rl_pos hp.1 hp.2 hj
    exact ⟨_, k_rowLength g hl hj, _, rfl, by omega, by omega⟩
  · unfold f_Grid_rowLength
    by_cases h0 : r ≤ 0
    · rw [if_pos h0]; exact ⟨_, rfl, 1, rfl, by omega, by omega⟩
    · have h0' : ¬ r.toInt ≤ (0 : Int32).toInt := fun z => h0 (z_le.mpr z)
      rw [show (0 : Int32).toInt = 0 from rfl] at h0'
      rw [if_neg h0, z_ai hl (by omega), e5, z_sub1 (by omega), if_neg (by rw [z_lt, nI_toInt (by omega)]; omega)]
      exact ⟨_, rfl, 1, rfl, by omega, by omega⟩
theorem s_rowStart (g : GOK R C H V rc cc br zc rw sh) (hl : l < 5) (r : Int32) : Ok (f_Grid_rowStart br zc rw sh (nI l) r) (fun x => ∃ k, x = nI k ∧ k ≤ 2130 * (H l * V l) + 1) := by
  have hv := g.2.hv hl
  have hp := g.2.pos l hl
  obtain ⟨-, -, e3, e4, e5, e6⟩ := g.at hl
  by_cases h : 0 ≤ r.toInt ∧ r.toInt ≤ 44 * H l + 1
  · obtain ⟨j, h1, rfl, h3⟩ := z_nat h.1
    have hj : j ≤ 44 * H l + 1 := by omega
    have hb := z_rl_pos hp.1 hp.2 hj
    have he := z_rs_end (V := V l) hp.1 hj
    exact ⟨_, k_rowStart g hl hj, _, rfl, by omega⟩
  · unfold f_Grid_rowStart
    by_cases h0 : 0 < r
    · have h0' := z_lt.mp h0
      rw [show (0 : Int32).toInt = 0 from rfl] at h0'
      rw [if_pos h0, z_ai hl (by omega), e5, z_sub1 (by omega), if_neg (by rw [z_lt, nI_toInt (by omega)]; omega), z_ai hl (by omega), e6, z_sub1 (by omega)]
      exact ⟨_, rfl, _, rfl, by omega⟩
    · rw [if_neg h0]; exact ⟨_, rfl, 0, rfl, by omega⟩
theorem s_rowOfKey (g : GOK R C H V rc cc br zc rw sh) (hN : 100000 ≤ N) (hl : l < 5) (k : Int32) : Ok (f_Grid_rowOfKey N br zc rw sh (nI l) k) (fun x => ∃ r, x = nI r ∧ r ≤ 44 * H l + 1) := by
  have hv := g.2.hv hl
  have hp := g.2.pos l hl
  have hs := g.2.sh hl
  obtain ⟨-, -, e3, e4, e5, e6⟩ := g.at hl
  by_cases h : 0 ≤ k.toInt ∧ k.toInt < 2130 * (H l * V l) + 2
  · obtain ⟨j, h1, rfl, h3⟩ := z_nat h.1
    obtain ⟨r, a, b, -⟩ := k_rowOfKey (N := N) g (by omega) hl (k := j) (by omega)
    exact ⟨_, a, _, rfl, b⟩
  · unfold f_Grid_rowOfKey
    by_cases h0 : 0 < k
    · have h0' := z_lt.mp h0
      rw [show (0 : Int32).toInt = 0 from rfl] at h0'
      rw [if_pos h0, z_ai hl (by omega), e6, z_sub1 (by omega), if_neg (by rw [z_lt, nI_toInt (by omega)]; omega), z_ai hl (by omega), e5, z_sub1 (by omega)]
      exact ⟨_, rfl, _, rfl, by omega⟩
    · rw [if_neg h0]; exact ⟨_, rfl, 0, rfl, by omega⟩
theorem s_isCapRow (hl : l < 5) (r : Int32) : Ok (f_Grid_isCapRow rw (nI l) r) (fun x => x = 0 ∨ x = 1) := by
  unfold f_Grid_isCapRow
  exact Ok.j0 (Ok.ite (fun _ => Ok.ret (Or.inr rfl)) (fun _ => Ok.ain hl (by decide) (Ok.ite (fun _ => Ok.ret (Or.inl rfl)) (fun _ => Ok.ret (Or.inr rfl)))))
theorem s_columnsIn (g : GOK R C H V rc cc br zc rw sh) {a b : Nat} (hab : a ≤ b) (hb : b < 5) : Ok (f_Grid_columnsIn zc (nI a) (nI b)) (fun x => ∃ q, x = nI q ∧ 1 ≤ q ∧ q ≤ 9390) := by
  have hv := g.2.hv hb
  have hva := g.2.hv (show a < 5 by omega)
  have hp := g.2.pos a (by omega)
  have hm := g.2.mono b hb a hab
  unfold f_Grid_columnsIn
  refine Ok.ain hb (by decide) (Ok.ain (show a < 5 by omega) (by decide) ?_)
  rw [(g.at hb).2.2.2.1, (g.at (show a < 5 by omega)).2.2.2.1]
  exact Ok.dvn (by omega) (by omega) (by omega) (Ok.ret ⟨_, rfl, Nat.div_pos hm.2 (by omega), Nat.le_trans (Nat.div_le_self _ _) hv.2.1⟩)
theorem s_rowsIn (g : GOK R C H V rc cc br zc rw sh) {a b : Nat} (hab : a ≤ b) (hb : b < 5) : Ok (f_Grid_rowsIn br (nI a) (nI b)) (fun x => ∃ q, x = nI q ∧ 1 ≤ q ∧ q ≤ 9390) := by
  have hv := g.2.hv hb
  have hva := g.2.hv (show a < 5 by omega)
  have hp := g.2.pos a (by omega)
  have hm := g.2.mono b hb a hab
  unfold f_Grid_rowsIn
  refine Ok.ain hb (by decide) (Ok.ain (show a < 5 by omega) (by decide) ?_)
  rw [(g.at hb).2.2.1, (g.at (show a < 5 by omega)).2.2.1]
  exact Ok.dvn (by omega) (by omega) (by omega) (Ok.ret ⟨_, rfl, Nat.div_pos hm.1 (by omega), Nat.le_trans (Nat.div_le_self _ _) hv.1⟩)
theorem s_keyAbove (g : GOK R C H V rc cc br zc rw sh) (hN : 100000 ≤ N) (hl : l < 5) {t : Nat} (ht : t ≤ l) (k : Int32) : Ok (f_Grid_keyAbove N br zc rw sh (nI l) k (nI t)) (fun _ => True) := by
  have ht5 : t < 5 := by omega
  unfold f_Grid_keyAbove
  refine Ok.b1 (s_rowOfKey g hN hl k) (fun x1 hx => ?_)
  refine Ok.ite (fun _ => Ok.t) (fun _ => Ok.ain hl (by decide) (Ok.ite (fun _ => Ok.ain ht5 (by decide) Ok.t) (fun _ => ?_)))
  refine Ok.b1 (s_rowStart g hl _) (fun x2 _ => Ok.nm ?_)
  refine Ok.b1 (s_rowsIn g ht hl) (fun x3 h3 => ?_)
  obtain ⟨q, rfl, q1, q2⟩ := h3
  refine Ok.dv (nI_ne0 (by omega) (by omega)) (Ok.nm ?_)
  refine Ok.b1 (s_rowStart g ht5 _) (fun x4 _ => ?_)
  refine Ok.b1 (s_columnsIn g ht hl) (fun x5 h5 => ?_)
  obtain ⟨q', rfl, q1', q2'⟩ := h5
  exact Ok.dv (nI_ne0 (by omega) (by omega)) Ok.t
theorem s_rowOfLat (g : GOK R C H V rc cc br zc rw sh) (hl : l < 5) (p : Int32) : Ok (f_Grid_rowOfLat br rw (nI l) p) (fun x => ∃ r, x = nI r ∧ r ≤ 44 * H l + 1) := by
  have hv := g.2.hv hl
  have hp := g.2.pos l hl
  obtain ⟨-, -, e3, e4, e5, e6⟩ := g.at hl
  by_cases h : -324000 ≤ p.toInt ∧ p.toInt ≤ 324000
  · exact ⟨_, k_rowOfLat g hl h.1 h.2, _, rfl, z_rowLat_le hp.1 _⟩
  · unfold f_Grid_rowOfLat
    by_cases h0 : p < 316800
    · have h1 : ¬ (-316800 : Int32) ≤ p := by
        intro z
        have a := z_le.mp z
        have b := z_lt.mp h0
        rw [show (-316800 : Int32).toInt = -316800 from rfl] at a
        rw [show (316800 : Int32).toInt = 316800 from rfl] at b
        omega
      rw [if_pos h0, if_neg h1, z_ai hl (by omega), e5, z_sub1 (by omega)]
      exact ⟨_, rfl, _, rfl, by omega⟩
    · rw [if_neg h0]; exact ⟨_, rfl, 0, rfl, by omega⟩
theorem s_placeOfLon (g : GOK R C H V rc cc br zc rw sh) (hl : l < 5) (r o : Int32) : Ok (f_Grid_placeOfLon br zc rw (nI l) r o) (fun _ => True) := by
  unfold f_Grid_placeOfLon
  refine Ok.b1 (s_rowLength g hl r) (fun x _ => ?_)
  exact Ok.dvl (by decide) Ok.t
theorem s_keyOf (g : GOK R C H V rc cc br zc rw sh) (hl : l < 5) (p o : Int32) : Ok (f_Grid_keyOf br zc rw sh (nI l) p o) (fun _ => True) := by
  unfold f_Grid_keyOf
  refine Ok.b1 (s_rowOfLat g hl p) (fun x _ => ?_)
  refine Ok.b1 (s_rowStart g hl x) (fun x _ => ?_)
  refine Ok.b1 (s_placeOfLon g hl _ o) (fun x _ => Ok.t)
theorem s_storedLevel (g : GOK R C H V rc cc br zc rw sh) (hl : l < 5) (k : Int32) : Ok (f_Grid_storedLevel sh (nI l) k) (fun x => x = nI 0 ∨ x = nI l) := by
  unfold f_Grid_storedLevel
  exact Ok.j0 (Ok.ite (fun _ => Ok.ret (Or.inl rfl)) (fun _ => Ok.ain hl (by decide) (Ok.ite (fun _ => Ok.ret (Or.inl rfl)) (fun _ => Ok.ret (Or.inr rfl)))))
/-! a spot that is put: its row and place -/
theorem s_put (g : GOK R C H V rc cc br zc rw sh) (hN : 100000 ≤ N) (hl : l < 5) {k : Nat} (hk : k < 2130 * (H l * V l) + 2) (a1 a2 a3 a4 a5 a6 : Int32) : Ok (f_Spot_put N a1 a2 a3 a4 a5 a6 br zc rw sh (nI l) (nI k)) (fun x => ∃ r p, x = (nI l, nI r, nI (z_rs (H l) (V l) r), nI p, nI (z_rl (H l) (V l) r), z_cap (H l) r) ∧ r ≤ 44 * H l + 1 ∧ p < z_rl (H l) (V l) r) := by
  obtain ⟨r, p, h1, h2, h3, -⟩ := k_put (N := N) g (by omega) hl hk a1 a2 a3 a4 a5 a6
  exact ⟨_, h1, r, p, rfl, h2, h3⟩
theorem z_brne (g : GOK R C H V rc cc br zc rw sh) (hl : l < 5) : br l ≠ 0 ∧ zc l ≠ 0 ∧ rc l ≠ 0 ∧ cc l ≠ 0 := by
  have hv := g.2.hv hl
  have hp := g.2.pos l hl
  obtain ⟨e1, e2, e3, e4, -, -⟩ := g.at hl
  obtain ⟨-, -, -, -, -, h6, -⟩ := g.2
  have h := h6 l hl
  rw [e1, e2, e3, e4]
  exact ⟨nI_ne0 (by omega) (by omega), nI_ne0 (by omega) (by omega), nI_ne0 (by omega) (by omega), nI_ne0 (by omega) (by omega)⟩
theorem s_band (g : GOK R C H V rc cc br zc rw sh) (hl : l < 5) (r c : Int32) : Ok (f_Spot_band (nI l) r c br) (fun _ => True) := by
  unfold f_Spot_band
  refine Ok.ite (fun _ => Ok.ain hl (by decide) (Ok.dv (z_brne g hl).1 Ok.t)) (fun _ => ?_)
  (repeat' first | exact Ok.t | with_reducible refine Ok.ite (fun _ => ?_) (fun _ => ?_) | with_reducible refine Ok.nm ?_ | with_reducible refine Ok.j0 ?_ | with_reducible refine Ok.j1 ?_ | with_reducible refine Ok.j2 ?_ | (with_reducible apply Ok.ain <;> try first | assumption | decide) | (with_reducible apply Ok.asn <;> try first | assumption | decide) | (with_reducible apply Ok.ai <;> try first | assumption | decide) | (with_reducible apply Ok.as <;> try first | assumption | decide))
theorem s_zone (g : GOK R C H V rc cc br zc rw sh) (hl : l < 5) (p c : Int32) : Ok (f_Spot_zone (nI l) p c zc) (fun _ => True) := by
  unfold f_Spot_zone
  exact Ok.ite (fun _ => Ok.ain hl (by decide) (Ok.dv (z_brne g hl).2.1 Ok.t)) (fun _ => Ok.t)
theorem s_numberOf (g : GOK R C H V rc cc br zc rw sh) (hl : l < 5) {t : Nat} (ht : t ≤ l) (r p c : Int32) : Ok (f_Spot_numberOf (nI l) r p c rc cc br zc (nI t)) (fun _ => True) := by
  have ht5 : t < 5 := by omega
  unfold f_Spot_numberOf
  refine Ok.ite (fun _ => Ok.ite (fun _ => Ok.b1 (s_zone g hl p c) (fun _ _ => Ok.t)) (fun _ => ?_)) (fun _ => Ok.t)
  refine Ok.b1 (s_rowsIn g ht hl) (fun x3 h3 => ?_)
  obtain ⟨q, rfl, q1, q2⟩ := h3
  refine Ok.dv (nI_ne0 (by omega) (by omega)) (Ok.ain ht5 (by decide) (Ok.rm (z_brne g ht5).2.2.1 ?_))
  refine Ok.b1 (s_columnsIn g ht hl) (fun x5 h5 => ?_)
  obtain ⟨q', rfl, q1', q2'⟩ := h5
  exact Ok.dv (nI_ne0 (by omega) (by omega)) (Ok.ain ht5 (by decide) (Ok.rm (z_brne g ht5).2.2.2 (Ok.ain ht5 (by decide) Ok.t)))
theorem s_edgeTop (hl : l < 5) (r p c e : Int32) : Ok (f_Spot_edgeTop (nI l) r p c br e) (fun _ => True) := by
  unfold f_Spot_edgeTop
  (repeat' first | exact Ok.t | with_reducible refine Ok.ite (fun _ => ?_) (fun _ => ?_) | with_reducible refine Ok.nm ?_ | with_reducible refine Ok.j0 ?_ | with_reducible refine Ok.j1 ?_ | with_reducible refine Ok.j2 ?_ | (with_reducible apply Ok.ain <;> try first | assumption | decide) | (with_reducible apply Ok.asn <;> try first | assumption | decide) | (with_reducible apply Ok.ai <;> try first | assumption | decide) | (with_reducible apply Ok.as <;> try first | assumption | decide))
theorem z_i64ne {n : Nat} (h0 : 1 ≤ n) (h : n < 2 ^ 30) : (2 * (nI n).toInt64 : Int64) ≠ 0 ∧ (nI n).toInt64 ≠ 0 := by
  rw [nI_l (by omega), z_l 2, lN_mul]
  exact ⟨z_lne0 (by omega) (by omega), z_lne0 (by omega) (by omega)⟩
theorem s_edgeBottom (g : GOK R C H V rc cc br zc rw sh) (hl : l < 5) {L : Nat} (h1 : 1 ≤ L) (h2 : L ≤ 563400) (c e : Int32) : Ok (f_Spot_edgeBottom (nI l) (nI L) c br e) (fun x => x ≠ 0 ∧ 2 * x ≠ 0) := by
  have hv := g.2.hv hl
  have hp := g.2.pos l hl
  unfold f_Spot_edgeBottom
  refine Ok.ite (fun _ => Ok.ite (fun _ => Ok.ain hl (by decide) ?_) (fun _ => Ok.ret (by decide))) (fun _ => Ok.ret ?_)
  · rw [(g.at hl).2.2.1]
    exact Ok.ret ⟨(z_i64ne (by omega) (by omega)).2, (z_i64ne (by omega) (by omega)).1⟩
  · exact ⟨(z_i64ne (by omega) (by omega)).2, (z_i64ne (by omega) (by omega)).1⟩
theorem s_middleLat (g : GOK R C H V rc cc br zc rw sh) (hl : l < 5) {L : Nat} (h1 : 1 ≤ L) (h2 : L ≤ 563400) (r p c : Int32) : Ok (f_Spot_middleLat (nI l) r p (nI L) c br) (fun _ => True) := by
  unfold f_Spot_middleLat
  refine Ok.ite (fun _ => ?_) (fun _ => by (repeat' first | exact Ok.t | with_reducible refine Ok.ite (fun _ => ?_) (fun _ => ?_) | with_reducible refine Ok.nm ?_ | with_reducible refine Ok.j0 ?_ | with_reducible refine Ok.j1 ?_ | with_reducible refine Ok.j2 ?_ | (with_reducible apply Ok.ain <;> try first | assumption | decide) | (with_reducible apply Ok.asn <;> try first | assumption | decide) | (with_reducible apply Ok.ai <;> try first | assumption | decide) | (with_reducible apply Ok.as <;> try first | assumption | decide)))
  refine Ok.b1 (s_edgeTop hl _ _ _ _) (fun _ _ => Ok.b1 (s_edgeTop hl _ _ _ _) (fun _ _ => Ok.b1 (s_edgeBottom g hl h1 h2 _ _) (fun x hx => ?_)))
  exact Ok.b1 (s_fdL hx.2) (fun _ _ => Ok.t)
theorem s_middleLon (g : GOK R C H V rc cc br zc rw sh) (hl : l < 5) {L : Nat} (h1 : 1 ≤ L) (h2 : L ≤ 563400) (r p c : Int32) : Ok (f_Spot_middleLon (nI l) r p (nI L) c br) (fun _ => True) := by
  unfold f_Spot_middleLon
  refine Ok.ite (fun _ => ?_) (fun _ => by (repeat' first | exact Ok.t | with_reducible refine Ok.ite (fun _ => ?_) (fun _ => ?_) | with_reducible refine Ok.nm ?_ | with_reducible refine Ok.j0 ?_ | with_reducible refine Ok.j1 ?_ | with_reducible refine Ok.j2 ?_ | (with_reducible apply Ok.ain <;> try first | assumption | decide) | (with_reducible apply Ok.asn <;> try first | assumption | decide) | (with_reducible apply Ok.ai <;> try first | assumption | decide) | (with_reducible apply Ok.as <;> try first | assumption | decide)))
  refine Ok.b1 (s_edgeTop hl _ _ _ _) (fun _ _ => Ok.b1 (s_edgeTop hl _ _ _ _) (fun _ _ => Ok.b1 (s_edgeBottom g hl h1 h2 _ _) (fun x hx => ?_)))
  exact Ok.b1 (s_fdL hx.2) (fun _ _ => Ok.t)
theorem s_piecesAt (g : GOK R C H V rc cc br zc rw sh) {t : Nat} (ht : l ≤ t) (ht5 : t < 5) (c : Int32) : Ok (f_Spot_piecesAt (nI l) c br zc (nI t)) (fun _ => True) := by
  unfold f_Spot_piecesAt
  refine Ok.ite (fun _ => ?_) (fun _ => Ok.t)
  exact Ok.b1 (s_rowsIn g ht ht5) (fun _ _ => Ok.b1 (s_columnsIn g ht ht5) (fun _ _ => Ok.t))
theorem s_pieceAt (g : GOK R C H V rc cc br zc rw sh) {t : Nat} (ht : l ≤ t) (ht5 : t < 5) (r p c i : Int32) : Ok (f_Spot_pieceAt (nI l) r p c br zc rw sh (nI t) i) (fun _ => True) := by
  unfold f_Spot_pieceAt
  refine Ok.ite (fun _ => ?_) (fun _ => Ok.ite (fun _ => Ok.t) (fun _ => Ok.ain ht5 (by decide) Ok.t))
  refine Ok.b1 (s_columnsIn g ht ht5) (fun x5 h5 => ?_)
  obtain ⟨q', rfl, q1', q2'⟩ := h5
  refine Ok.b1 (s_rowsIn g ht ht5) (fun _ _ => Ok.dv (nI_ne0 (by omega) (by omega)) (Ok.nm ?_))
  exact Ok.b1 (s_rowStart g ht5 _) (fun _ _ => Ok.rm (nI_ne0 (by omega) (by omega)) Ok.t)
/-! corners -/
theorem z_pred {x : Int32} (h : ¬ x ≤ 0) : (x - 1).toInt = x.toInt - 1 ∧ 0 < x.toInt := by
  have h1 : ¬ x.toInt ≤ (0 : Int32).toInt := fun z => h (z_le.mpr z)
  rw [show (0 : Int32).toInt = 0 from rfl] at h1
  have h2 := fb_rng x
  have e : (1 : Int32).toInt = 1 := rfl
  refine ⟨?_, by omega⟩
  rw [fb_subI (by rw [e]; omega) (by rw [e]; omega), e]
theorem s_addCorner_L (q : Int32) : ∀ (n : Nat) (v : Int32) (f : Nat → Int32), 0 ≤ v.toInt → v.toInt < 4 → v.toInt < n → Ok (f_Spot_addCorner_L15 q n v f) (fun x => 0 ≤ x.1.toInt ∧ x.1.toInt < 4) := by
  intro n
  induction n with
  | zero => intro v f h0 h1 h2; omega
  | succ n ih =>
    intro v f h0 h1 h2
    rw [f_Spot_addCorner_L15]
    refine Ok.ite (fun _ => Ok.ret ⟨h0, h1⟩) (fun h => ?_)
    obtain ⟨e1, e2⟩ := z_pred h
    refine Ok.ai ⟨by omega, by omega⟩ (Ok.ite (fun _ => Ok.ret ⟨h0, h1⟩) (fun _ => ?_))
    refine Ok.ai ⟨by omega, by omega⟩ (Ok.as ⟨by omega, by omega⟩ (Ok.nm ?_))
    rw [Int32.add_neg_eq_sub]
    exact ih _ _ (by omega) (by omega) (by omega)
theorem s_addCorner (hN : 100000 ≤ N) (f : Nat → Int32) {c : Int32} (h0 : 0 ≤ c.toInt ∧ c.toInt ≤ 4) (q : Int32) : Ok (f_Spot_addCorner N f c q) (fun x => 0 ≤ x.2.toInt ∧ x.2.toInt ≤ 4) := by
  unfold f_Spot_addCorner
  refine Ok.ite (fun h => ?_) (fun _ => Ok.ret h0)
  have h4 := z_lt.mp h
  rw [show (4 : Int32).toInt = 4 from rfl] at h4
  refine Ok.b2 (s_addCorner_L q N c f h0.1 h4 (by omega)) (fun v3 f4 hv => ?_)
  refine Ok.as ⟨hv.1, hv.2⟩ (Ok.nm (Ok.ret ?_))
  have := z_up h
  simp only; omega
theorem s_addCorners (g : GOK R C H V rc cc br zc rw sh) (hN : 100000 ≤ N) (hl : l < 5) (f : Nat → Int32) {c : Int32} (h0 : 0 ≤ c.toInt ∧ c.toInt ≤ 4) {L : Nat} (h1 : 1 ≤ L) (h2 : L ≤ 563400) (p b : Int32) : Ok (f_Spot_addCorners N f c (nI l) p (nI L) br zc rw sh b) (fun x => 0 ≤ x.2.toInt ∧ x.2.toInt ≤ 4) := by
  have hL := (z_i64ne (n := L) (by omega) (by omega)).2
  unfold f_Spot_addCorners
  refine Ok.b1 (s_isCapRow hl b) (fun v1 _ => Ok.ite (fun _ => ?_) (fun _ => Ok.ret h0))
  refine Ok.b1 (s_rowLength g hl b) (fun v2 hv => ?_)
  obtain ⟨T, rfl, t1, t2⟩ := hv
  have hT : nI T ≠ 0 := nI_ne0 (by omega) (by omega)
  refine Ok.b1 (s_rowStart g hl b) (fun v3 _ => Ok.nm (Ok.rml hL (Ok.j2 ?_)))
  have fin : ∀ (f : Nat → Int32) (c : Int32), (0 ≤ c.toInt ∧ c.toInt ≤ 4) → Ok (q_nm (p.toInt64 * (nI T).toInt64 + (nI T).toInt64 : Int64) (fun (v8 : Int64) =>
    q_rml v8 (nI L).toInt64 (fun (v9 : Int64) =>
    if (lg_cmp v9 0) = 0 then (
    q_dvl v8 (nI L).toInt64 (fun (v10 : Int64) =>
    q_rm v10.toInt32 (nI T) (fun (v11 : Int32) =>
    q_b2 (f_Spot_addCorner N f c (v3 + v11)) (fun (f12 : Nat → Int32) (v13 : Int32) =>
    some (f12, v13))))) else (
    some (f, c))))) (fun x : (Nat → Int32) × Int32 => 0 ≤ x.2.toInt ∧ x.2.toInt ≤ 4) := by
    intro f c h0
    refine Ok.nm (Ok.rml hL (Ok.ite (fun _ => Ok.dvl hL (Ok.rm hT ?_)) (fun _ => Ok.ret h0)))
    exact Ok.b2 (s_addCorner hN f h0 _) (fun a b hb => Ok.ret hb)
  refine Ok.ite (fun _ => Ok.dvl hL (Ok.rm hT ?_)) (fun _ => fin f c h0)
  exact Ok.b2 (s_addCorner hN f h0 _) (fun a b hb => fin a b hb)
theorem s_lookAtCorners (g : GOK R C H V rc cc br zc rw sh) (hN : 100000 ≤ N) (hl : l < 5) (f : Nat → Int32) (c r p k : Int32) {L : Nat} (h1 : 1 ≤ L) (h2 : L ≤ 563400) : Ok (f_Spot_lookAtCorners N f c (nI l) r p (nI L) k br zc rw sh) (fun x => 0 ≤ x.2.toInt ∧ x.2.toInt ≤ 4) := by
  unfold f_Spot_lookAtCorners
  refine Ok.ite (fun _ => ?_) (fun _ => Ok.ret (show 0 ≤ (0 : Int32).toInt ∧ (0 : Int32).toInt ≤ 4 by decide))
  refine Ok.b2 (s_addCorners g hN hl f (show 0 ≤ (0 : Int32).toInt ∧ (0 : Int32).toInt ≤ 4 by decide) h1 h2 p _) (fun a b hb => ?_)
  exact Ok.b2 (s_addCorners g hN hl a hb h1 h2 p _) (fun a b hb => Ok.ret hb)
end SG
