/-! boxes: no call stops -/
section SB
variable {R C H V : Nat → Nat} {rc cc br zc rw sh : Nat → Int32} {N l : Nat}
theorem s_putA (g : GOK R C H V rc cc br zc rw sh) (hN : 100000 ≤ N) (hl : l < 5) (k : Int32) (a1 a2 a3 a4 a5 a6 : Int32) : Ok (f_Spot_put N a1 a2 a3 a4 a5 a6 br zc rw sh (nI l) k) (fun x => ∃ r s p L c, x = (nI l, nI r, s, p, nI L, c) ∧ 1 ≤ L ∧ L ≤ 563400) := by
  unfold f_Spot_put
  refine Ok.b1 (s_rowOfKey g hN hl k) (fun v1 h1 => ?_)
  obtain ⟨r, rfl, hr⟩ := h1
  refine Ok.b1 (s_rowStart g hl _) (fun v2 _ => Ok.b1 (s_rowLength g hl _) (fun v3 h3 => Ok.nm ?_))
  obtain ⟨L, rfl, h1, h2⟩ := h3
  exact Ok.b1 (s_isCapRow hl _) (fun v5 h5 => Ok.bo h5 (Ok.ret ⟨r, _, _, L, _, rfl, h1, h2⟩))
theorem s_topRow (g : GOK R C H V rc cc br zc rw sh) (hl : l < 5) (p : Int32) : Ok (f_Box_topRow p br rw (nI l)) (fun x => ∃ r, x = nI r ∧ r ≤ 44 * H l + 1) := by
  unfold f_Box_topRow
  exact Ok.b1 (s_rowOfLat g hl p) (fun _ h => Ok.ret h)
theorem s_bottomRow (g : GOK R C H V rc cc br zc rw sh) (hl : l < 5) (p : Int32) : Ok (f_Box_bottomRow p br rw (nI l)) (fun x => ∃ r, x = nI r ∧ r ≤ 44 * H l + 1) := by
  unfold f_Box_bottomRow
  exact Ok.b1 (s_rowOfLat g hl p) (fun _ h => Ok.ret h)
theorem s_beltBottom (g : GOK R C H V rc cc br zc rw sh) (hl : l < 5) (p i : Int32) : Ok (f_Box_beltBottom p br rw (nI l) i) (fun _ => True) := by
  unfold f_Box_beltBottom
  refine Ok.j1 (Ok.ite (fun _ => Ok.ain hl (by decide) ?_) (fun _ => Ok.ain hl (by decide) ?_))
  · exact Ok.b1 (s_bottomRow g hl p) (fun _ _ => Ok.nm Ok.t)
  · exact Ok.b1 (s_bottomRow g hl p) (fun _ _ => Ok.nm Ok.t)
theorem s_beltTop (g : GOK R C H V rc cc br zc rw sh) (hl : l < 5) (p i : Int32) : Ok (f_Box_beltTop p br rw (nI l) i) (fun _ => True) := by
  unfold f_Box_beltTop
  refine Ok.j1 (Ok.ite (fun _ => ?_) (fun _ => Ok.ain hl (by decide) ?_))
  · exact Ok.b1 (s_topRow g hl p) (fun _ _ => Ok.nm Ok.t)
  · exact Ok.b1 (s_topRow g hl p) (fun _ _ => Ok.nm Ok.t)
theorem s_inRow (g : GOK R C H V rc cc br zc rw sh) (hl : l < 5) (w e r : Int32) : Ok (f_Box_inRow w e br zc rw (nI l) r) (fun _ => True) := by
  unfold f_Box_inRow
  refine Ok.b1 (s_placeOfLon g hl r w) (fun _ _ => Ok.b1 (s_placeOfLon g hl r e) (fun _ _ => Ok.ite (fun _ => ?_) (fun _ => Ok.t)))
  exact Ok.b1 (s_rowLength g hl r) (fun _ _ => Ok.nm Ok.t)
theorem s_placeOfLonB (g : GOK R C H V rc cc br zc rw sh) (hl : l < 5) (r : Int32) {o : Nat} (ho : o < 1296000) : Ok (f_Grid_placeOfLon br zc rw (nI l) r (nI o)) (fun x => ∃ p, x = nI p ∧ p < 563400) := by
  unfold f_Grid_placeOfLon
  refine Ok.b1 (s_rowLength g hl r) (fun x hx => ?_)
  obtain ⟨L, rfl, h1, h2⟩ := hx
  have hm : o * L < 1296000 * L := Nat.mul_lt_mul_of_pos_right ho (by omega)
  have hd : o * L / 1296000 < L := Nat.div_lt_of_lt_mul hm
  rw [nI_l (by omega), nI_l (by omega), lN_mul, z_l 1296000, z_dvl (by omega) (by omega) (by omega), lN_i]
  exact Ok.ret ⟨_, rfl, by omega⟩
theorem s_inRowB (g : GOK R C H V rc cc br zc rw sh) (hl : l < 5) {w e : Nat} (hw : w < 1296000) (he : e < 1296000) (r : Int32) : Ok (f_Box_inRow (nI w) (nI e) br zc rw (nI l) r) (fun x => x.toInt ≤ 563401) := by
  unfold f_Box_inRow
  refine Ok.b1 (s_placeOfLonB g hl r hw) (fun v1 h1 => Ok.b1 (s_placeOfLonB g hl r he) (fun v2 h2 => ?_))
  obtain ⟨a, rfl, ha⟩ := h1
  obtain ⟨b, rfl, hb⟩ := h2
  refine Ok.ite (fun _ => ?_) (fun _ => Ok.ret ?_)
  · refine Ok.b1 (s_rowLength g hl r) (fun v3 h3 => Ok.nm (Ok.ret ?_))
    obtain ⟨L, rfl, l1, l2⟩ := h3
    by_cases hc : nI L - nI a + nI b + 1 < nI L
    · rw [if_pos hc]
      have := z_lt.mp hc
      rw [nI_toInt (show L < 2 ^ 31 by omega)] at this
      omega
    · rw [if_neg hc, nI_toInt (by omega)]; omega
  · have ea : (nI a).toInt = (a : Int) := nI_toInt (by omega)
    have eb : (nI b).toInt = (b : Int) := nI_toInt (by omega)
    have e1 : (1 : Int32).toInt = 1 := rfl
    have es : (nI b - nI a).toInt = (b : Int) - a := by rw [fb_subI (by omega) (by omega), ea, eb]
    rw [fb_addI (by omega) (by omega), es, e1]; omega
theorem s_placeByKeys (g : GOK R C H V rc cc br zc rw sh) (hl : l < 5) (w e r i : Int32) : Ok (f_Box_placeByKeys w e br zc rw (nI l) r i) (fun _ => True) := by
  unfold f_Box_placeByKeys
  refine Ok.b1 (s_rowLength g hl r) (fun _ _ => Ok.b1 (s_inRow g hl w e r) (fun _ _ => Ok.ite (fun _ => Ok.t) (fun _ => ?_)))
  refine Ok.b1 (s_placeOfLon g hl r w) (fun _ _ => Ok.nm ?_)
  (repeat' first | exact Ok.t | with_reducible refine Ok.ite (fun _ => ?_) (fun _ => ?_) | with_reducible refine Ok.nm ?_ | with_reducible refine Ok.j0 ?_ | with_reducible refine Ok.j1 ?_ | with_reducible refine Ok.j2 ?_ | (with_reducible apply Ok.ain <;> try first | assumption | decide) | (with_reducible apply Ok.asn <;> try first | assumption | decide) | (with_reducible apply Ok.ai <;> try first | assumption | decide) | (with_reducible apply Ok.as <;> try first | assumption | decide))
theorem s_isWhole (g : GOK R C H V rc cc br zc rw sh) {t : Nat} (hlt : l ≤ t) (ht : t < 5) (s n w e r p : Int32) : Ok (f_Box_isWhole s n w e br zc rw (nI l) r p (nI t)) (fun _ => True) := by
  unfold f_Box_isWhole
  refine Ok.b1 (s_rowsIn g hlt ht) (fun _ _ => Ok.nm (Ok.b1 (s_topRow g ht n) (fun _ _ => Ok.ite (fun _ => Ok.t) (fun _ => ?_))))
  refine Ok.b1 (s_bottomRow g ht s) (fun _ _ => Ok.ite (fun _ => ?_) (fun _ => Ok.t))
  refine Ok.b1 (s_inRow g ht w e _) (fun _ _ => Ok.b1 (s_rowLength g ht _) (fun v6 h6 => Ok.ite (fun _ => Ok.t) (fun _ => ?_)))
  obtain ⟨L, rfl, h1, h2⟩ := h6
  refine Ok.b1 (s_columnsIn g hlt ht) (fun _ _ => Ok.b1 (s_placeOfLon g ht _ w) (fun _ _ => Ok.b1 (s_fmI (nI_ne0 (by omega) (by omega))) (fun _ _ => ?_)))
  (repeat' first | exact Ok.t | with_reducible refine Ok.ite (fun _ => ?_) (fun _ => ?_) | with_reducible refine Ok.nm ?_ | with_reducible refine Ok.j0 ?_ | with_reducible refine Ok.j1 ?_ | with_reducible refine Ok.j2 ?_ | (with_reducible apply Ok.ain <;> try first | assumption | decide) | (with_reducible apply Ok.asn <;> try first | assumption | decide) | (with_reducible apply Ok.ai <;> try first | assumption | decide) | (with_reducible apply Ok.as <;> try first | assumption | decide))
theorem s_isCover (g : GOK R C H V rc cc br zc rw sh) {t : Nat} (hlt : l ≤ t) (ht : t < 5) (s n w e r p : Int32) : Ok (f_Box_isCover s n w e rc cc br zc rw (nI l) r p (nI t)) (fun _ => True) := by
  have hl : l < 5 := by omega
  unfold f_Box_isCover
  refine Ok.b1 (s_isCapRow hl r) (fun _ _ => Ok.ite (fun _ => ?_) (fun _ => by (repeat' first | exact Ok.t | with_reducible refine Ok.ite (fun _ => ?_) (fun _ => ?_) | with_reducible refine Ok.nm ?_ | with_reducible refine Ok.j0 ?_ | with_reducible refine Ok.j1 ?_ | with_reducible refine Ok.j2 ?_ | (with_reducible apply Ok.ain <;> try first | assumption | decide) | (with_reducible apply Ok.asn <;> try first | assumption | decide) | (with_reducible apply Ok.ai <;> try first | assumption | decide) | (with_reducible apply Ok.as <;> try first | assumption | decide))))
  refine Ok.b1 (s_isWhole g hlt ht s n w e r p) (fun _ _ => Ok.ite (fun _ => Ok.t) (fun _ => Ok.ite (fun _ => Ok.t) (fun h0 => ?_)))
  refine Ok.ain hl (by decide) (Ok.dv (z_brne g hl).2.2.1 (Ok.nm (Ok.ain hl (by decide) (Ok.dv (z_brne g hl).2.2.2 ?_))))
  have : 1 ≤ l := by
    rcases Nat.eq_zero_or_pos l with h | h
    · exact absurd (by rw [h]; rfl) h0
    · exact h
  rw [z_sub1 this]
  refine Ok.b1 (s_isWhole g (show l - 1 ≤ t by omega) ht s n w e _ _) (fun _ _ => ?_)
  (repeat' first | exact Ok.t | with_reducible refine Ok.ite (fun _ => ?_) (fun _ => ?_) | with_reducible refine Ok.nm ?_ | with_reducible refine Ok.j0 ?_ | with_reducible refine Ok.j1 ?_ | with_reducible refine Ok.j2 ?_ | (with_reducible apply Ok.ain <;> try first | assumption | decide) | (with_reducible apply Ok.asn <;> try first | assumption | decide) | (with_reducible apply Ok.ai <;> try first | assumption | decide) | (with_reducible apply Ok.as <;> try first | assumption | decide))
theorem z_upm {x y : Int32} {n : Nat} (h : ¬ y ≤ x) (hn : (y.toInt - x.toInt).toNat < n + 1) : (y.toInt - (x + 1).toInt).toNat < n := by
  have h1 : ¬ y.toInt ≤ x.toInt := fun z => h (z_le.mpr z)
  have h2 : x < y := z_lt.mpr (by omega)
  rw [z_up h2]; omega
theorem s_coverAt_L35 (g : GOK R C H V rc cc br zc rw sh) {t : Nat} (hlt : l ≤ t) (ht : t < 5) (s n w e r m : Int32) : ∀ (k : Nat) (v9 v10 : Int32), (m.toInt - v10.toInt).toNat < k → Ok (f_Box_coverAt_L35 e n s w br cc rc rw zc (nI l) (nI t) r m k v9 v10) (fun _ => True) := by
  have hl : l < 5 := by omega
  intro k
  induction k with
  | zero => intro v9 v10 h; omega
  | succ k ih =>
    intro v9 v10 h
    rw [f_Box_coverAt_L35]
    refine Ok.ite (fun _ => Ok.t) (fun hc => ?_)
    refine Ok.b1 (s_placeByKeys g hl w e r v10) (fun _ _ => Ok.b1 (s_isCover g hlt ht s n w e r _) (fun _ _ => Ok.j1 ?_))
    refine Ok.ite (fun _ => Ok.nm (ih _ _ (z_upm hc h))) (fun _ => Ok.nm (Ok.nm (ih _ _ (z_upm hc h))))
theorem z_upm2 {x y : Int32} {n : Nat} {b : Int} (hb : y.toInt ≤ b) (hb2 : b < 2147483647) (h : ¬ y < x) (hn : (y.toInt + 1 - x.toInt).toNat < n + 1) : (y.toInt + 1 - (x + 1).toInt).toNat < n := by
  have h1 : ¬ y.toInt < x.toInt := fun z => h (z_lt.mpr z)
  have h2 := fb_rng x
  have e1 : (1 : Int32).toInt = 1 := rfl
  rw [fb_addI (by omega) (by omega), e1]; omega
theorem s_coverAt_L16 (g : GOK R C H V rc cc br zc rw sh) (hN : 1000000 ≤ N) {t : Nat} (hlt : l ≤ t) (ht : t < 5) (s n b : Int32) (hb : b.toInt ≤ 413161) {w e : Nat} (hw : w < 1296000) (he : e < 1296000) : ∀ (k : Nat) (v4 v5 : Int32), (b.toInt + 1 - v5.toInt).toNat < k → Ok (f_Box_coverAt_L16 N (nI e) n s (nI w) br cc rc rw zc (nI l) (nI t) b k v4 v5) (fun _ => True) := by
  have hl : l < 5 := by omega
  intro k
  induction k with
  | zero => intro v9 v10 h; omega
  | succ k ih =>
    intro v4 v5 h
    rw [f_Box_coverAt_L16]
    refine Ok.ite (fun _ => Ok.t) (fun hc => ?_)
    refine Ok.b1 (s_inRowB g hl hw he v5) (fun m hm => Ok.nm (Ok.b1 (s_coverAt_L35 g hlt ht s n _ _ v5 m N v4 0 ?_) (fun _ _ => Ok.nm (ih _ _ (z_upm2 hb (by omega) hc h)))))
    rw [show (0 : Int32).toInt = 0 from rfl]; omega
theorem s_coverAt (g : GOK R C H V rc cc br zc rw sh) (hN : 1000000 ≤ N) {t : Nat} (hlt : l ≤ t) (ht : t < 5) (s n : Int32) {w e : Nat} (hw : w < 1296000) (he : e < 1296000) : Ok (f_Box_coverAt N s n (nI w) (nI e) rc cc br zc rw (nI l) (nI t)) (fun _ => True) := by
  have hl : l < 5 := by omega
  have hv := g.2.hv hl
  unfold f_Box_coverAt
  refine Ok.nm (Ok.b1 (s_bottomRow g hl s) (fun v2 h2 => Ok.b1 (s_topRow g hl n) (fun v3 h3 => ?_)))
  obtain ⟨a, rfl, ha⟩ := h2
  obtain ⟨b, rfl, hb⟩ := h3
  have ea : (nI a).toInt = (a : Int) := nI_toInt (by omega)
  have eb : (nI b).toInt = (b : Int) := nI_toInt (by omega)
  exact Ok.b1 (s_coverAt_L16 g hN hlt ht s n (nI a) (by omega) hw he N 0 (nI b) (by omega)) (fun _ _ => Ok.t)
theorem s_coverSheet_L36 (g : GOK R C H V rc cc br zc rw sh) {t : Nat} (hlt : l ≤ t) (ht : t < 5) (s n w e i r m : Int32) : ∀ (k : Nat) (v8 v9 : Int32), (m.toInt - v9.toInt).toNat < k → Ok (f_Box_coverSheet_L36 e n s w br cc rc rw sh zc (nI l) (nI t) i r m k v8 v9) (fun _ => True) := by
  have hl : l < 5 := by omega
  intro k
  induction k with
  | zero => intro v9 v10 h; omega
  | succ k ih =>
    intro v9 v10 h
    rw [f_Box_coverSheet_L36]
    refine Ok.ite (fun _ => Ok.t) (fun hc => ?_)
    refine Ok.b1 (s_placeByKeys g hl w e r v10) (fun _ _ => Ok.b1 (s_isCover g hlt ht s n w e r _) (fun _ _ => Ok.j1 ?_))
    refine Ok.ite (fun _ => Ok.nm (ih _ _ (z_upm hc h))) (fun _ => Ok.ite (fun _ => ?_) (fun _ => Ok.nm (Ok.nm (ih _ _ (z_upm hc h)))))
    exact Ok.b1 (s_rowStart g hl r) (fun _ _ => Ok.t)
theorem s_coverSheet_L17 (g : GOK R C H V rc cc br zc rw sh) (hN : 1000000 ≤ N) {t : Nat} (hlt : l ≤ t) (ht : t < 5) (s n i b : Int32) (hb : b.toInt ≤ 413161) {w e : Nat} (hw : w < 1296000) (he : e < 1296000) : ∀ (k : Nat) (v4 v5 : Int32), (b.toInt + 1 - v5.toInt).toNat < k → Ok (f_Box_coverSheet_L17 N (nI e) n s (nI w) br cc rc rw sh zc (nI l) (nI t) i b k v4 v5) (fun _ => True) := by
  have hl : l < 5 := by omega
  intro k
  induction k with
  | zero => intro v9 v10 h; omega
  | succ k ih =>
    intro v4 v5 h
    rw [f_Box_coverSheet_L17]
    refine Ok.ite (fun _ => Ok.t) (fun hc => ?_)
    refine Ok.b1 (s_inRowB g hl hw he v5) (fun m hm => Ok.nm (Ok.s1 (s_coverSheet_L36 g hlt ht s n _ _ i v5 m N v4 0 ?_) (fun _ _ => Ok.nm (ih _ _ (z_upm2 hb (by omega) hc h))) (fun _ _ => trivial)))
    rw [show (0 : Int32).toInt = 0 from rfl]; omega
theorem s_coverSheet (g : GOK R C H V rc cc br zc rw sh) (hN : 1000000 ≤ N) {t : Nat} (hlt : l ≤ t) (ht : t < 5) (s n i : Int32) {w e : Nat} (hw : w < 1296000) (he : e < 1296000) : Ok (f_Box_coverSheet N s n (nI w) (nI e) rc cc br zc rw sh (nI l) (nI t) i) (fun _ => True) := by
  have hl : l < 5 := by omega
  have hv := g.2.hv hl
  unfold f_Box_coverSheet
  refine Ok.nm (Ok.b1 (s_bottomRow g hl s) (fun v2 h2 => Ok.b1 (s_topRow g hl n) (fun v3 h3 => ?_)))
  obtain ⟨a, rfl, ha⟩ := h2
  obtain ⟨b, rfl, hb⟩ := h3
  have ea : (nI a).toInt = (a : Int) := nI_toInt (by omega)
  have eb : (nI b).toInt = (b : Int) := nI_toInt (by omega)
  exact Ok.s0 (s_coverSheet_L17 g hN hlt ht s n i (nI a) (by omega) hw he N 0 (nI b) (by omega)) (fun _ => Ok.t) (fun _ _ => trivial)
theorem s_keyFromWest (g : GOK R C H V rc cc br zc rw sh) (hl : l < 5) (w r i : Int32) : Ok (f_Box_keyFromWest w br zc rw sh (nI l) r i) (fun _ => True) := by
  unfold f_Box_keyFromWest
  refine Ok.b1 (s_placeOfLon g hl r w) (fun _ _ => Ok.b1 (s_rowStart g hl r) (fun _ _ => Ok.b1 (s_rowLength g hl r) (fun v3 h3 => ?_)))
  obtain ⟨L, rfl, h1, h2⟩ := h3
  exact Ok.rm (nI_ne0 (by omega) (by omega)) Ok.t
theorem s_sheetAt_L (g : GOK R C H V rc cc br zc rw sh) (hl : l < 5) (s n w e p : Int32) : ∀ (k i : Nat) (v : Int32), i ≤ 46 → 46 - i < k → Ok (f_Box_sheetAt_L5 e n s w br rw sh zc (nI l) p k v (nI i)) (fun _ => True) := by
  intro k
  induction k with
  | zero => intro i v _ h; omega
  | succ k ih =>
    intro i v hi h
    rw [f_Box_sheetAt_L5]
    refine Ok.ite (fun _ => Ok.t) (fun hc => ?_)
    rw [z_i 45, nI_ltI (by omega) (by omega)] at hc
    refine Ok.b1 (s_beltTop g hl n _) (fun v5 _ => Ok.b1 (s_beltBottom g hl s _) (fun v6 _ => Ok.j1 (Ok.ite (fun _ => ?_) (fun _ => ?_))))
    · refine Ok.b1 (s_inRow g hl w e v5) (fun v9 _ => Ok.nm (Ok.nm (Ok.ite (fun _ => Ok.nm (Ok.nm ?_)) (fun _ => ?_))))
      · rw [nI_1]; exact ih (i + 1) _ (by omega) (by omega)
      · have hne : (if 1 < v9 then v9 else 1 : Int32) ≠ 0 := by
          by_cases h1 : 1 < v9
          · rw [if_pos h1]
            have := z_lt.mp h1
            rw [show (1 : Int32).toInt = 1 from rfl] at this
            intro z
            rw [z, show (0 : Int32).toInt = 0 from rfl] at this
            omega
          · rw [if_neg h1]; decide
        exact Ok.dv hne (Ok.rm hne (Ok.b1 (s_keyFromWest g hl w _ _) (fun _ _ => Ok.t)))
    · refine Ok.nm ?_
      rw [nI_1]; exact ih (i + 1) _ (by omega) (by omega)
theorem s_sheetAt (g : GOK R C H V rc cc br zc rw sh) (hN : 100000 ≤ N) (hl : l < 5) (s n w e p : Int32) : Ok (f_Box_sheetAt N s n w e br zc rw sh (nI l) p) (fun _ => True) := by
  unfold f_Box_sheetAt
  exact Ok.nm (Ok.nm (Ok.s0 (s_sheetAt_L g hl s n w e p N 0 0 (by omega) (by omega)) (fun _ => Ok.t) (fun _ _ => trivial)))
theorem s_sheetsAt_L (g : GOK R C H V rc cc br zc rw sh) (hl : l < 5) (s n w e : Int32) : ∀ (k i : Nat) (v : Int32), i ≤ 46 → 46 - i < k → Ok (f_Box_sheetsAt_L4 e n s w br rw zc (nI l) k v (nI i)) (fun _ => True) := by
  intro k
  induction k with
  | zero => intro i v _ h; omega
  | succ k ih =>
    intro i v hi h
    rw [f_Box_sheetsAt_L4]
    refine Ok.ite (fun _ => Ok.t) (fun hc => ?_)
    rw [z_i 45, nI_ltI (by omega) (by omega)] at hc
    refine Ok.b1 (s_beltTop g hl n _) (fun v5 _ => Ok.b1 (s_beltBottom g hl s _) (fun v6 _ => Ok.j1 (Ok.ite (fun _ => ?_) (fun _ => ?_))))
    · refine Ok.nm ?_
      rw [nI_1]; exact ih (i + 1) _ (by omega) (by omega)
    · refine Ok.b1 (s_inRow g hl w e v5) (fun v9 _ => Ok.nm (Ok.nm ?_))
      rw [nI_1]; exact ih (i + 1) _ (by omega) (by omega)
theorem s_sheetsAt (g : GOK R C H V rc cc br zc rw sh) (hN : 100000 ≤ N) (hl : l < 5) (s n w e : Int32) : Ok (f_Box_sheetsAt N s n w e br zc rw (nI l)) (fun _ => True) := by
  unfold f_Box_sheetsAt
  exact Ok.nm (Ok.nm (Ok.b1 (s_sheetsAt_L g hl s n w e N 0 0 (by omega) (by omega)) (fun _ _ => Ok.t)))
end SB
