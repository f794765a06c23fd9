/-! cuts, rows of a latitude, keys of a place -/
def z_pr (R : Nat → Nat) : Nat → Nat
  | 0 => R 0
  | l + 1 => z_pr R l * R (l + 1)
theorem z_pr_b {R : Nat → Nat} (h0 : R 0 = 1) (h : ∀ l, l < 5 → 1 ≤ R l ∧ R l ≤ 6) : ∀ l, l < 5 → 1 ≤ z_pr R l ∧ z_pr R l ≤ 6 ^ l := by
  intro l
  induction l with
  | zero => intro _; unfold z_pr; omega
  | succ l ih =>
    intro hl
    have a := ih (by omega)
    have b := h (l + 1) hl
    unfold z_pr
    constructor
    · exact Nat.mul_pos a.1 b.1
    · rw [Nat.pow_succ]; exact Nat.mul_le_mul a.2 b.2
theorem k_multiply_L {R C : Nat → Nat} {rc cc : Nat → Int32} (hR0 : R 0 = 1) (hC0 : C 0 = 1) (hRC : ∀ l, l < 5 → 1 ≤ R l ∧ R l ≤ 6 ∧ 1 ≤ C l ∧ C l ≤ 6) (hrc : ∀ l, l < 5 → rc l = nI (R l) ∧ cc l = nI (C l)) :
    ∀ n i (a b c d : Nat → Int32), i ≤ 5 → 5 - i < n → (∀ l, l < i → a l = nI (z_pr R l) ∧ b l = nI (z_pr C l) ∧ c l = nI (44 * z_pr R l + 2) ∧ d l = nI (2130 * (z_pr R l * z_pr C l) + 2)) →
    ∃ a' b' c' d', f_Grid_multiply_L6 cc rc n (nI (if i = 0 then 1 else z_pr R (i - 1))) (nI (if i = 0 then 1 else z_pr C (i - 1))) (nI i) a b c d = some (a', b', c', d') ∧ ∀ l, l < 5 → a' l = nI (z_pr R l) ∧ b' l = nI (z_pr C l) ∧ c' l = nI (44 * z_pr R l + 2) ∧ d' l = nI (2130 * (z_pr R l * z_pr C l) + 2) := by
  intro n
  induction n with
  | zero => intro i a b c d _ h; omega
  | succ n ih =>
    intro i a b c d hi hn h
    rw [f_Grid_multiply_L6]
    by_cases h5 : i = 5
    · subst h5
      rw [if_pos (by decide)]
      exact ⟨a, b, c, d, rfl, h⟩
    · have hi5 : i < 5 := by omega
      have eR : (if i = 0 then 1 else z_pr R (i - 1)) * R i = z_pr R i := by
        cases i with
        | zero => rw [if_pos rfl]; unfold z_pr; omega
        | succ i => rw [if_neg (by omega), Nat.add_sub_cancel]; rfl
      have eC : (if i = 0 then 1 else z_pr C (i - 1)) * C i = z_pr C i := by
        cases i with
        | zero => rw [if_pos rfl]; unfold z_pr; omega
        | succ i => rw [if_neg (by omega), Nat.add_sub_cancel]; rfl
      rw [if_neg (by rw [z_i 4, nI_ltI (by omega) (by omega)]; omega), z_ai hi5 (by omega), (hrc i hi5).1, pk_mul, eR, z_nm, z_ai hi5 (by omega), (hrc i hi5).2, pk_mul, eC, z_nm, z_as hi5 (by omega), z_as hi5 (by omega), z_as hi5 (by omega), z_as hi5 (by omega), z_nm, nI_1]
      have := ih (i + 1) (upd a i (nI (z_pr R i))) (upd b i (nI (z_pr C i))) (upd c i (44 * nI (z_pr R i) + 2)) (upd d i (2130 * nI (z_pr R i) * nI (z_pr C i) + 2)) (by omega) (by omega) (by
        intro l hl
        by_cases e : l = i
        · subst e
          rw [z_updS, z_updS, z_updS, z_updS]
          refine ⟨rfl, rfl, ?_, ?_⟩
          · rw [z_i 44, z_i 2, pk_mul, nI_add]
          · rw [z_i 2130, z_i 2, pk_mul, pk_mul, nI_add, Nat.mul_assoc]
        · rw [z_updN e, z_updN e, z_updN e, z_updN e]
          exact h l (by omega))
      rw [if_neg (by omega), if_neg (by omega), Nat.add_sub_cancel] at this
      exact this
theorem k_multiply {R C : Nat → Nat} {rc cc br zc rw sh : Nat → Int32} {N : Nat} (hN : 50 ≤ N) (hR0 : R 0 = 1) (hC0 : C 0 = 1) (hRC : ∀ l, l < 5 → 1 ≤ R l ∧ R l ≤ 6 ∧ 1 ≤ C l ∧ C l ≤ 6) (hrc : ∀ l, l < 5 → rc l = nI (R l) ∧ cc l = nI (C l)) (hbig : 2130 * (z_pr R 4 * z_pr C 4) + 2 ≤ 20000000) :
    ∃ a b c d, f_Grid_multiply N rc cc br zc rw sh = some (a, b, c, d) ∧ GOK R C (z_pr R) (z_pr C) rc cc a b c d := by
  obtain ⟨a, b, c, d, h1, h2⟩ := k_multiply_L hR0 hC0 hRC hrc N 0 br zc rw sh (by omega) (by omega) (fun l hl => by omega)
  rw [if_pos rfl, if_pos rfl] at h1
  refine ⟨a, b, c, d, ?_, ⟨fun l hl => ⟨(hrc l hl).1, (hrc l hl).2, h2 l hl⟩, hR0, hC0, hR0, hC0, fun l hl => ⟨rfl, rfl⟩, hRC, hbig⟩⟩
  unfold f_Grid_multiply
  rw [z_nm, z_nm, z_nm, show (1 : Int32) = nI 1 from rfl, show (0 : Int32) = nI 0 from rfl, h1]
  rfl
theorem z_pr_eq {R C H V : Nat → Nat} (h : CUT R C H V) : ∀ l, l < 5 → H l = z_pr R l ∧ V l = z_pr C l := by
  intro l
  induction l with
  | zero => intro _; obtain ⟨h1, h2, h3, h4, -⟩ := h; unfold z_pr; omega
  | succ l ih =>
    intro hl
    have a := ih (by omega)
    obtain ⟨-, -, -, -, h5, -⟩ := h
    have b := h5 l (by omega)
    rw [b.1, b.2, a.1, a.2]
    exact ⟨rfl, rfl⟩
theorem z_lcmp0 {x : Int64} : 0 ≤ lg_cmp x 0 ↔ 0 ≤ x.toInt := by
  unfold lg_cmp
  by_cases h1 : x > 0
  · have : (0 : Int64).toInt < x.toInt := Int64.lt_iff_toInt_lt.mp h1
    rw [show (0 : Int64).toInt = 0 from rfl] at this
    rw [if_pos h1]
    exact ⟨fun _ => by omega, fun _ => by decide⟩
  · rw [if_neg h1]
    have h1' : ¬ (0 : Int64).toInt < x.toInt := fun h => h1 (Int64.lt_iff_toInt_lt.mpr h)
    rw [show (0 : Int64).toInt = 0 from rfl] at h1'
    by_cases h2 : x = 0
    · rw [if_pos h2, h2]
      exact ⟨fun _ => by decide, fun _ => by decide⟩
    · rw [if_neg h2]
      have h3 : x.toInt ≠ 0 := fun h => h2 (Int64.toInt_inj.mp (by rw [h]; rfl))
      exact ⟨fun h => absurd h (by decide), fun h => by omega⟩
theorem z_lcmpE {x y : Int64} : lg_cmp x y = 0 ↔ x = y := by
  unfold lg_cmp
  by_cases h1 : x > y
  · rw [if_pos h1]
    refine ⟨fun h => absurd h (by decide), fun h => ?_⟩
    subst h
    exact absurd (Int64.lt_iff_toInt_lt.mp h1) (by omega)
  · rw [if_neg h1]
    by_cases h2 : x = y
    · rw [if_pos h2]; exact ⟨fun _ => h2, fun _ => rfl⟩
    · rw [if_neg h2]; exact ⟨fun h => absurd h (by decide), fun h => absurd h h2⟩
theorem z_lxor {a b : Int64} (hb : 0 < b.toInt) : 0 ≤ (a ^^^ b).toInt ↔ 0 ≤ a.toInt := by
  have h : (a ^^^ b).toBitVec.msb = (a.toBitVec.msb ^^ b.toBitVec.msb) := by
    rw [Int64.toBitVec_xor, BitVec.msb_xor]
  rw [BitVec.msb_eq_toInt, BitVec.msb_eq_toInt, BitVec.msb_eq_toInt] at h
  have e1 : (a ^^^ b).toBitVec.toInt = (a ^^^ b).toInt := rfl
  have e2 : a.toBitVec.toInt = a.toInt := rfl
  have e3 : b.toBitVec.toInt = b.toInt := rfl
  rw [e1, e2, e3, decide_eq_false (show ¬ b.toInt < 0 by omega), Bool.xor_false] at h
  have := decide_eq_decide.mp h
  omega
theorem z_tmod {a b : Int} (ha : a ≤ 0) (hb : 0 < b) : a.tmod b ≤ 0 := by
  have h := Int.neg_tmod (-a) b
  have h2 := Int.tmod_nonneg b (show 0 ≤ -a by omega)
  rw [Int.neg_neg] at h
  omega
theorem z_tdn {a b : Int} (ha : a ≤ 0) (hb : 0 < b) : a.tdiv b ≤ 0 := by
  have h := Int.neg_tdiv (-a) b
  have h2 := Int.tdiv_nonneg (show 0 ≤ -a by omega) (show 0 ≤ b by omega)
  rw [Int.neg_neg] at h
  omega
theorem z_tdiv {a b : Int} (hb : 0 < b) (ha : a < 0) : (a.tdiv b * b = a ∧ a / b = a.tdiv b) ∨ (a.tdiv b * b ≠ a ∧ a / b = a.tdiv b - 1) := by
  have h1 := Int.mul_tdiv_add_tmod a b
  have h2 : -b < a.tmod b := Int.lt_tmod_of_pos a hb
  have h3 : a.tmod b ≤ 0 := z_tmod (by omega) hb
  rw [Int.mul_comm] at h1
  by_cases h : a.tmod b = 0
  · left
    rw [h, Int.add_zero] at h1
    refine ⟨h1, ?_⟩
    have : a / b = (a.tdiv b * b) / b := by rw [h1]
    rw [this, Int.mul_ediv_cancel _ (by omega)]
  · right
    refine ⟨by omega, ?_⟩
    have e : a = (b + a.tmod b) + (a.tdiv b - 1) * b := by
      rw [Int.sub_mul, Int.one_mul]; omega
    rw [e, Int.add_mul_ediv_right _ _ (by omega), Int.ediv_eq_zero_of_lt (by omega) (by omega), ← e]
    omega
/-- floorDiv of longs, a positive divisor -/
theorem k_floorDivL {a b : Int64} (hb : 0 < b.toInt) : f_JMath_floorDiv_f86c9 a b = some (Int64.ofInt (a.toInt / b.toInt)) := by
  have hb0 : ¬ b = 0 := by
    intro h; rw [h] at hb; exact absurd hb (by decide)
  have hb1 : b ≠ -1 := by
    intro h; rw [h] at hb; exact absurd hb (by decide)
  have hd : (a / b).toInt = a.toInt.tdiv b.toInt := Int64.toInt_div_of_ne_right a b hb1
  have ra := fb_rngL a
  have rb := fb_rngL b
  have rq := fb_rngL (a / b)
  unfold f_JMath_floorDiv_f86c9 q_dvl
  rw [if_neg hb0]
  dsimp only
  by_cases ha : 0 ≤ a.toInt
  · rw [if_pos (z_lcmp0.mpr ((z_lxor hb).mpr ha))]
    refine z_some (Int64.toInt_inj.mp ?_)
    rw [Int.tdiv_eq_ediv_of_nonneg ha] at hd
    rw [Int64.toInt_ofInt_of_le (by omega) (by omega), hd]
  · rw [if_neg (fun h => ha ((z_lxor hb).mp (z_lcmp0.mp h)))]
    have hm : -((a.toInt.tdiv b.toInt).natAbs : Int) = a.toInt.tdiv b.toInt := by
      have : a.toInt.tdiv b.toInt ≤ 0 := z_tdn (by omega) hb
      omega
    have h1 := Int.mul_tdiv_add_tmod a.toInt b.toInt
    have h3 : a.toInt.tmod b.toInt ≤ 0 := z_tmod (by omega) hb
    have h4 : a.toInt.tdiv b.toInt ≤ 0 := z_tdn (by omega) hb
    have h5 : a.toInt.tdiv b.toInt * b.toInt ≤ 0 := Int.mul_nonpos_of_nonpos_of_nonneg h4 (by omega)
    rw [Int.mul_comm] at h1
    have hp : (a / b * b).toInt = a.toInt.tdiv b.toInt * b.toInt := by
      rw [← hd]
      exact fb_mulL (by rw [hd]; omega) (by rw [hd]; omega)
    have hlow : a.toInt ≤ a.toInt.tdiv b.toInt := by
      have : a.toInt.tdiv b.toInt * b.toInt ≤ a.toInt.tdiv b.toInt * 1 := Int.mul_le_mul_of_nonpos_left h4 (by omega)
      omega
    rcases z_tdiv hb (show a.toInt < 0 by omega) with ⟨g1, g2⟩ | ⟨g1, g2⟩
    · rw [if_pos (z_lcmpE.mpr (Int64.toInt_inj.mp (by rw [hp, g1])))]
      refine z_some (Int64.toInt_inj.mp ?_)
      rw [g2, Int64.toInt_ofInt_of_le (by omega) (by omega), hd]
    · rw [if_neg (fun h => g1 (by rw [← hp, z_lcmpE.mp h]))]
      refine z_some (Int64.toInt_inj.mp ?_)
      have hlt : a.toInt < a.toInt.tdiv b.toInt ∨ b.toInt = 1 := by
        rcases Int.lt_or_le 1 b.toInt with g | g
        · left
          rcases Int.lt_or_eq_of_le hlow with g3 | g3
          · exact g3
          · exfalso
            rw [← g3] at h5 h1
            have : a.toInt * b.toInt ≤ a.toInt * 2 := Int.mul_le_mul_of_nonpos_left (by omega) (by omega)
            have := Int.lt_tmod_of_pos a.toInt hb
            omega
        · right; omega
      have hne : -9223372036854775808 ≤ a.toInt.tdiv b.toInt - 1 := by
        rcases hlt with g | g
        · omega
        · exfalso; apply g1; rw [g, Int.tdiv_one, Int.mul_one]
      rw [g2, Int64.toInt_ofInt_of_le hne (by omega)]
      have e1 : (1 : Int64).toInt = 1 := rfl
      rw [fb_subL (by rw [hd, e1]; exact hne) (by rw [hd, e1]; omega), hd, e1]
def z_rowLat (H : Nat) (x : Int) : Nat := if 316800 ≤ x then 0 else if x < -316800 then 44 * H + 1 else (22 * (H : Int) - x * H / 14400).toNat
theorem z_rowLat_in {H : Nat} {x : Int} (h1 : -316800 ≤ x) (h2 : x < 316800) (hH : 1 ≤ H) : -22 * (H : Int) ≤ x * H / 14400 ∧ x * H / 14400 ≤ 22 * H - 1 := by
  have a : -316800 * (H : Int) ≤ x * H := Int.mul_le_mul_of_nonneg_right h1 (by omega)
  have b : x * H ≤ 316799 * (H : Int) := Int.mul_le_mul_of_nonneg_right (by omega) (by omega)
  constructor <;> omega
theorem z_rowLat_le {H : Nat} (hH : 1 ≤ H) (x : Int) : z_rowLat H x ≤ 44 * H + 1 := by
  unfold z_rowLat
  split
  · omega
  · split
    · omega
    · have := z_rowLat_in (x := x) (H := H) (by omega) (by omega) hH
      omega
theorem z_i64 {n : Nat} (h : n < 2 ^ 31) : (nI n).toInt64.toInt = n := by
  rw [Int32.toInt_toInt64, nI_toInt h]
theorem k_rowOfLat {R C H V : Nat → Nat} {rc cc br zc rw sh : Nat → Int32} {l : Nat} (g : GOK R C H V rc cc br zc rw sh) (hl : l < 5) {p : Int32} (h1 : -324000 ≤ p.toInt) (h2 : p.toInt ≤ 324000) : f_Grid_rowOfLat br rw (nI l) p = some (nI (z_rowLat (H l) p.toInt)) := by
  obtain ⟨-, -, e3, e4, e5, -⟩ := g.at hl
  have hv := g.2.hv hl
  have hp := g.2.pos l hl
  unfold f_Grid_rowOfLat z_rowLat
  have c1 : p < 316800 ↔ p.toInt < 316800 := Int32.lt_iff_toInt_lt
  have c2 : (-316800 : Int32) ≤ p ↔ -316800 ≤ p.toInt := Int32.le_iff_toInt_le
  by_cases a1 : p.toInt < 316800
  · rw [if_pos (c1.mpr a1), if_neg (show ¬ 316800 ≤ p.toInt by omega)]
    by_cases a2 : -316800 ≤ p.toInt
    · have hi := z_rowLat_in (H := H l) a2 a1 hp.1
      have m1 : p.toInt * (H l : Int) ≤ 316800 * (H l : Int) := Int.mul_le_mul_of_nonneg_right (by omega) (by omega)
      have m2 : -316800 * (H l : Int) ≤ p.toInt * (H l : Int) := Int.mul_le_mul_of_nonneg_right a2 (by omega)
      have hm : (p.toInt64 * (nI (H l)).toInt64).toInt = p.toInt * (H l : Int) := by
        rw [fb_mulL (by rw [Int32.toInt_toInt64, z_i64 (by omega)]; omega) (by rw [Int32.toInt_toInt64, z_i64 (by omega)]; omega), Int32.toInt_toInt64, z_i64 (by omega)]
      have hc : (14400 : Int64).toInt = 14400 := rfl
      rw [if_pos (c2.mpr a2), if_neg (show ¬ p.toInt < -316800 by omega), z_ai hl (by omega), e3, k_floorDivL (by rw [hc]; omega), q_b1_s, z_ai hl (by omega), e3, hm, hc]
      refine z_some (Int32.toInt_inj.mp ?_)
      have t1 : (Int64.ofInt (p.toInt * (H l : Int) / 14400)).toInt32.toInt = p.toInt * (H l : Int) / 14400 := by
        rw [Int64.toInt_toInt32, Int64.toInt_ofInt_of_le (by omega) (by omega)]
        exact fb_bmod (by omega) (by omega)
      have t2 : (22 * nI (H l)).toInt = 22 * (H l : Int) := by
        rw [z_i 22, pk_mul, nI_toInt (by omega)]; omega
      rw [fb_subI (by rw [t1, t2]; omega) (by rw [t1, t2]; omega), t1, t2, nI_toInt (by omega)]
      omega
    · rw [if_neg (fun h => a2 (c2.mp h)), if_pos (show p.toInt < -316800 by omega), z_ai hl (by omega), e5, z_sub1 (by omega)]
      rfl
  · rw [if_neg (fun h => a1 (c1.mp h)), if_pos (show 316800 ≤ p.toInt by omega)]
    rfl
theorem k_placeOfLon {R C H V : Nat → Nat} {rc cc br zc rw sh : Nat → Int32} {l : Nat} (g : GOK R C H V rc cc br zc rw sh) (hl : l < 5) {r o : Nat} (hr : r ≤ 44 * H l + 1) (ho : o < 1296000) : f_Grid_placeOfLon br zc rw (nI l) (nI r) (nI o) = some (nI (o * z_rl (H l) (V l) r / 1296000)) ∧ o * z_rl (H l) (V l) r / 1296000 < z_rl (H l) (V l) r := by
  have hv := g.2.hv hl
  have hp := g.2.pos l hl
  have hrl := z_rl_pos hp.1 hp.2 hr
  generalize hL : z_rl (H l) (V l) r = L at *
  have hb : o * L / 1296000 < L := by
    apply Nat.div_lt_of_lt_mul
    exact Nat.mul_lt_mul_of_pos_right ho (by omega)
  have hbb : o * L ≤ 1296000 * L := Nat.mul_le_mul_right L (by omega)
  refine ⟨?_, hb⟩
  unfold f_Grid_placeOfLon
  rw [k_rowLength g hl hr, hL, q_b1_s, nI_l (by omega), nI_l (by omega), lN_mul, z_l 1296000, z_dvl (by omega) (by omega) (by omega), lN_i]
theorem k_keyOf {R C H V : Nat → Nat} {rc cc br zc rw sh : Nat → Int32} {l : Nat} (g : GOK R C H V rc cc br zc rw sh) (hl : l < 5) {p : Int32} (h1 : -324000 ≤ p.toInt) (h2 : p.toInt ≤ 324000) {o : Nat} (ho : o < 1296000) : ∃ k, f_Grid_keyOf br zc rw sh (nI l) p (nI o) = some (nI k) ∧ k < 2130 * (H l * V l) + 2 := by
  have hp := g.2.pos l hl
  have hr := z_rowLat_le hp.1 p.toInt
  obtain ⟨q1, q2⟩ := k_placeOfLon g hl hr ho
  have he := z_rs_end (V := V l) hp.1 hr
  refine ⟨_, ?_, Nat.lt_of_lt_of_le (Nat.add_lt_add_left q2 _) he⟩
  unfold f_Grid_keyOf
  rw [k_rowOfLat g hl h1 h2, q_b1_s, k_rowStart g hl hr, q_b1_s, q1, q_b1_s, nI_add]
