/-! the law's loop -/
theorem l_and63 (x : Int32) : ∃ k, k < 64 ∧ x &&& nI 63 = nI k := by
  refine ⟨(x &&& nI 63).toBitVec.toNat, ?_, ?_⟩
  · rw [Int32.toBitVec_and, BitVec.toNat_and]
    exact Nat.lt_of_le_of_lt Nat.and_le_right (by decide)
  · apply Int32.toBitVec_inj.mp
    show (x &&& nI 63).toBitVec = BitVec.ofNat 32 (x &&& nI 63).toBitVec.toNat
    rw [BitVec.ofNat_toNat, BitVec.setWidth_eq]
theorem l_in0 {i L : Nat} (h : i + 8 ≤ L) (hL : L ≤ 4096) : vp_in (nI i) L := by
  show ¬ (nI i < 0 ∨ L ≤ (nI i).toNatClampNeg)
  have e : (nI i).toNatClampNeg = i := nI_clamp (by omega)
  rw [e]
  rintro (z | z)
  · exact z_lt0 (by omega) z
  · omega
theorem l_le8 {i L : Nat} (hL : L ≤ 4096) (hi : i ≤ 5000) (h : ¬ nI L - nI 8 < nI i) : i + 8 ≤ L := by
  have h1 : ¬ (nI L - nI 8).toInt < (nI i).toInt := fun z => h (z_lt.mpr z)
  rw [Int32.toInt_sub, nI_toInt (by omega), nI_toInt (by omega), nI_toInt (by omega), Int.bmod_eq_of_le (by omega) (by omega)] at h1
  omega
theorem law_switch (p : Program) (l : Launch) (e : Env) (s : State) (m : MethodId) (below : List Frame) (meth : Method) (c : Code) (b L : Nat) (xs : Nat → Int32) (D : va_G) (ci : Nat → ClassId) (sa : Nat → Nat) {a_x a_m i : Nat} {ls : Array Slot} (C0 : lL_C p l e s m below meth c b L xs D ci sa) (hi : i + 8 ≤ L) (hl : lv_has ls 4 [(3, .int (nI i)), (2, .ref a_m), (1, .ref a_x), (0, .ref b)]) (hgo : lL_go p l e s m below meth c b L xs D ci sa a_x a_m ls 2146) (k : Nat) (hk : k < 44) : ∃ off, (#[191, 254, 297, 330, 373, 416, 449, 492, 535, 578, 621, 664, 717, 770, 823, 866, 909, 952, 1005, 1048, 1091, 1134, 1177, 1252, 1327, 1370, 1413, 1456, 1519, 1542, 1585, 1618, 1651, 1694, 1781, 1824, 1857, 1890, 1903, 1978, 2021, 2064, 2087, 2100] : Array Int)[k]? = some off ∧ ∃ tgt : Nat, (33 : Int) + off = (tgt : Int) ∧ lL_go p l e s m below meth c b L xs D ci sa a_x a_m ls tgt := by
  rcases (show k = 0 ∨ k = 1 ∨ k = 2 ∨ k = 3 ∨ k = 4 ∨ k = 5 ∨ k = 6 ∨ k = 7 ∨ k = 8 ∨ k = 9 ∨ k = 10 ∨ k = 11 ∨ k = 12 ∨ k = 13 ∨ k = 14 ∨ k = 15 ∨ k = 16 ∨ k = 17 ∨ k = 18 ∨ k = 19 ∨ k = 20 ∨ k = 21 ∨ k = 22 ∨ k = 23 ∨ k = 24 ∨ k = 25 ∨ k = 26 ∨ k = 27 ∨ k = 28 ∨ k = 29 ∨ k = 30 ∨ k = 31 ∨ k = 32 ∨ k = 33 ∨ k = 34 ∨ k = 35 ∨ k = 36 ∨ k = 37 ∨ k = 38 ∨ k = 39 ∨ k = 40 ∨ k = 41 ∨ k = 42 ∨ k = 43 by omega) with rfl | rfl | rfl | rfl | rfl | rfl | rfl | rfl | rfl | rfl | rfl | rfl | rfl | rfl | rfl | rfl | rfl | rfl | rfl | rfl | rfl | rfl | rfl | rfl | rfl | rfl | rfl | rfl | rfl | rfl | rfl | rfl | rfl | rfl | rfl | rfl | rfl | rfl | rfl | rfl | rfl | rfl | rfl | rfl
  · exact ⟨191, rfl, 224, rfl, law_0 p l e s m below meth c b L xs D ci sa C0 hi hl hgo⟩
  · exact ⟨254, rfl, 287, rfl, law_1 p l e s m below meth c b L xs D ci sa C0 hi hl hgo⟩
  · exact ⟨297, rfl, 330, rfl, law_2 p l e s m below meth c b L xs D ci sa C0 hi hl hgo⟩
  · exact ⟨330, rfl, 363, rfl, law_3 p l e s m below meth c b L xs D ci sa C0 hi hl hgo⟩
  · exact ⟨373, rfl, 406, rfl, law_4 p l e s m below meth c b L xs D ci sa C0 hi hl hgo⟩
  · exact ⟨416, rfl, 449, rfl, law_5 p l e s m below meth c b L xs D ci sa C0 hi hl hgo⟩
  · exact ⟨449, rfl, 482, rfl, law_6 p l e s m below meth c b L xs D ci sa C0 hi hl hgo⟩
  · exact ⟨492, rfl, 525, rfl, law_7 p l e s m below meth c b L xs D ci sa C0 hi hl hgo⟩
  · exact ⟨535, rfl, 568, rfl, law_8 p l e s m below meth c b L xs D ci sa C0 hi hl hgo⟩
  · exact ⟨578, rfl, 611, rfl, law_9 p l e s m below meth c b L xs D ci sa C0 hi hl hgo⟩
  · exact ⟨621, rfl, 654, rfl, law_10 p l e s m below meth c b L xs D ci sa C0 hi hl hgo⟩
  · exact ⟨664, rfl, 697, rfl, law_11 p l e s m below meth c b L xs D ci sa C0 hi hl hgo⟩
  · exact ⟨717, rfl, 750, rfl, law_12 p l e s m below meth c b L xs D ci sa C0 hi hl hgo⟩
  · exact ⟨770, rfl, 803, rfl, law_13 p l e s m below meth c b L xs D ci sa C0 hi hl hgo⟩
  · exact ⟨823, rfl, 856, rfl, law_14 p l e s m below meth c b L xs D ci sa C0 hi hl hgo⟩
  · exact ⟨866, rfl, 899, rfl, law_15 p l e s m below meth c b L xs D ci sa C0 hi hl hgo⟩
  · exact ⟨909, rfl, 942, rfl, law_16 p l e s m below meth c b L xs D ci sa C0 hi hl hgo⟩
  · exact ⟨952, rfl, 985, rfl, law_17 p l e s m below meth c b L xs D ci sa C0 hi hl hgo⟩
  · exact ⟨1005, rfl, 1038, rfl, law_18 p l e s m below meth c b L xs D ci sa C0 hi hl hgo⟩
  · exact ⟨1048, rfl, 1081, rfl, law_19 p l e s m below meth c b L xs D ci sa C0 hi hl hgo⟩
  · exact ⟨1091, rfl, 1124, rfl, law_20 p l e s m below meth c b L xs D ci sa C0 hi hl hgo⟩
  · exact ⟨1134, rfl, 1167, rfl, law_21 p l e s m below meth c b L xs D ci sa C0 hi hl hgo⟩
  · exact ⟨1177, rfl, 1210, rfl, law_22 p l e s m below meth c b L xs D ci sa C0 hi hl hgo⟩
  · exact ⟨1252, rfl, 1285, rfl, law_23 p l e s m below meth c b L xs D ci sa C0 hi hl hgo⟩
  · exact ⟨1327, rfl, 1360, rfl, law_24 p l e s m below meth c b L xs D ci sa C0 hi hl hgo⟩
  · exact ⟨1370, rfl, 1403, rfl, law_25 p l e s m below meth c b L xs D ci sa C0 hi hl hgo⟩
  · exact ⟨1413, rfl, 1446, rfl, law_26 p l e s m below meth c b L xs D ci sa C0 hi hl hgo⟩
  · exact ⟨1456, rfl, 1489, rfl, law_27 p l e s m below meth c b L xs D ci sa C0 hi hl hgo⟩
  · exact ⟨1519, rfl, 1552, rfl, law_28 p l e s m below meth c b L xs D ci sa C0 hi hl hgo⟩
  · exact ⟨1542, rfl, 1575, rfl, law_29 p l e s m below meth c b L xs D ci sa C0 hi hl hgo⟩
  · exact ⟨1585, rfl, 1618, rfl, law_30 p l e s m below meth c b L xs D ci sa C0 hi hl hgo⟩
  · exact ⟨1618, rfl, 1651, rfl, law_31 p l e s m below meth c b L xs D ci sa C0 hi hl hgo⟩
  · exact ⟨1651, rfl, 1684, rfl, law_32 p l e s m below meth c b L xs D ci sa C0 hi hl hgo⟩
  · exact ⟨1694, rfl, 1727, rfl, law_33 p l e s m below meth c b L xs D ci sa C0 hi hl hgo⟩
  · exact ⟨1781, rfl, 1814, rfl, law_34 p l e s m below meth c b L xs D ci sa C0 hi hl hgo⟩
  · exact ⟨1824, rfl, 1857, rfl, law_35 p l e s m below meth c b L xs D ci sa C0 hi hl hgo⟩
  · exact ⟨1857, rfl, 1890, rfl, law_36 p l e s m below meth c b L xs D ci sa C0 hi hl hgo⟩
  · exact ⟨1890, rfl, 1923, rfl, law_37 p l e s m below meth c b L xs D ci sa C0 hi hl hgo⟩
  · exact ⟨1903, rfl, 1936, rfl, law_38 p l e s m below meth c b L xs D ci sa C0 hi hl hgo⟩
  · exact ⟨1978, rfl, 2011, rfl, law_39 p l e s m below meth c b L xs D ci sa C0 hi hl hgo⟩
  · exact ⟨2021, rfl, 2054, rfl, law_40 p l e s m below meth c b L xs D ci sa C0 hi hl hgo⟩
  · exact ⟨2064, rfl, 2097, rfl, law_41 p l e s m below meth c b L xs D ci sa C0 hi hl hgo⟩
  · exact ⟨2087, rfl, 2120, rfl, law_42 p l e s m below meth c b L xs D ci sa C0 hi hl hgo⟩
  · exact ⟨2100, rfl, 2133, rfl, law_43 p l e s m below meth c b L xs D ci sa C0 hi hl hgo⟩
theorem law_loop (p : Program) (l : Launch) (e : Env) (s : State) (m : MethodId) (below : List Frame) (meth : Method) (c : Code) (b L : Nat) (xs : Nat → Int32) (D : va_G) (ci : Nat → ClassId) (sa : Nat → Nat) {a_x a_m : Nat} (C0 : lL_C p l e s m below meth c b L xs D ci sa) : ∀ n i (ls : Array Slot), i ≤ 5000 → 5000 - i < n → lv_has ls 4 [(3, .int (nI i)), (2, .ref a_m), (1, .ref a_x), (0, .ref b)] → lL_go p l e s m below meth c b L xs D ci sa a_x a_m ls 18 := by
  intro n
  induction n with
  | zero => intro i ls _ h; omega
  | succ n ih =>
    intro i ls hi hn hl
    have C1 := C0
    obtain ⟨hx, hb, hml, hown, hts, hX, hbl, hK, hZ, hret, hlocks, hL⟩ := C0
    intro WX WM t nn s0 sv kv H locs cells slots hXI hMI hP hD hS hc hs
    have hbA : ¬ (fun q : Nat => s.heap.size ≤ q) b := Nat.not_le.mpr hbl
    refine lv_iload_n (pc := 18) hx hb dL_law_18 rfl (lv_at hl 0 rfl) ?_
    refine lv_aload_n (pc := 19) hx hb dL_law_19 rfl (lv_at hl 3 rfl) ?_
    refine va_slen (pc := 20) hx hb hX hbl hbA hS dL_law_20 ?_
    refine lv_bipush (pc := 21) (v := nI 8) hx hb dL_law_21 (by decide) ?_
    refine lv_isub (pc := 23) hx hb dL_law_23 ?_
    refine lv_icmp_gt (pc := 24) (tgt := 2152) hx hb dL_law_24 rfl (fun _ => ?_) (fun hle => ?_)
    · refine lv_iconst (pc := 2152) (v := 1) hx hb dL_law_2152 (by decide) ?_
      refine va_forget (fun q h => hS.2.2 q h) ?_
      have hr := l_rm (mc := 0) (ms := 0) hXI.n.2 hc hs (Nat.zero_le _) (Nat.zero_le _)
      refine W.widen (k := 600000) (n := 7302250) hr.1 hr.2 ?_
      exact lw_ret hx hb hret hlocks dL_law_2153
    · have hi8 : i + 8 ≤ L := l_le8 hL hi hle
      refine lv_aload_n (pc := 27) hx hb dL_law_27 rfl (lv_at hl 3 rfl) ?_
      refine lv_iload_n (pc := 28) hx hb dL_law_28 rfl (lv_at hl 0 rfl) ?_
      refine va_sld (pc := 29) (i := nI i) hx hb hX hbl hbA hS (l_in0 hi8 hL) dL_law_29 ?_
      refine lv_bipush (pc := 30) (v := nI 63) hx hb dL_law_30 (by decide) ?_
      refine lv_iand (pc := 32) hx hb dL_law_32 ?_
      obtain ⟨k, hk, ek⟩ := l_and63 (xs (nI i).toNatClampNeg)
      rw [ek]
      have hend : lL_go p l e s m below meth c b L xs D ci sa a_x a_m ls 2146 := by
        intro WX WM t nn s0 sv kv H locs cells slots hXI hMI hP hD hS hc hs
        refine lv_iinc (pc := 2146) (k := 0) (v := nI (i + 8)) (lv' := [(3, .int (nI (i + 8))), (2, .ref a_m), (1, .ref a_x), (0, .ref b)]) hx hb dL_law_2146 hl rfl (by rw [show Int32.ofInt 8 = nI 8 from rfl, nI_add]) (by decide) rfl (fun ls2 hl2 => ?_)
        refine lv_goto (pc := 2149) (tgt := 18) hx hb dL_law_2149 rfl ?_
        exact ih (i + 8) ls2 (by omega) (by omega) hl2 WX WM t nn s0 sv kv H locs cells slots hXI hMI hP hD hS hc hs
      by_cases h44 : k < 44
      · obtain ⟨off, ho, tgt, ht, hgo⟩ := law_switch p l e s m below meth c b L xs D ci sa C1 hi8 hl hend k h44
        have e0 : ((nI k).toInt - 0).toNat = k := by rw [nI_toInt (by omega)]; omega
        refine lv_tableIn (pc := 33) (tgt := tgt) hx hb dL_law_33 (by rw [nI_toInt (by omega)]; omega) (by rw [nI_toInt (by omega)]; omega) (by rw [e0]; exact ho) ht ?_
        exact hgo WX WM t nn s0 sv kv H locs cells slots hXI hMI hP hD hS hc hs
      · refine lv_tableOut (pc := 33) (tgt := 2146) hx hb dL_law_33 (Or.inr (by rw [nI_toInt (by omega)]; omega)) rfl ?_
        exact hend WX WM t nn s0 sv kv H locs cells slots hXI hMI hP hD hS hc hs
