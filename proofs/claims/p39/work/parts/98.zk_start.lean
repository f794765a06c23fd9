/-! the law's start: classes, arrays, statics, String constants -/
section LS
variable {s : State} {b : Nat}
theorem l_arr {aa : Array Value} {ty : FieldType} (h : (Cond.arrayClass ty).before aa s = true) : ∃ cA, ArrOfT s cA ty ∧ s.vm.findClass ("[" ++ ty.toString) = some cA := by
  obtain ⟨c, k, comp, h1, h2, h3⟩ := Cond.arrayClass_spec (args := aa) h
  exact ⟨c, fun n z => ⟨fun k h => (by cases h), k, h2, comp, h3⟩, h1⟩
theorem l_arrO {aa : Array Value} {C : String} (h : (Cond.arrayOver (.object C)).before aa s = true) : ∃ cA, ArrOfT s cA (.object C) ∧ va_RA s cA (.object C) := by
  obtain ⟨comp, c, k, h1, h2, h3, h4, h5⟩ := Cond.arrayOver_spec h
  exact ⟨c, fun n z => ⟨fun k h => (by cases h), k, h3, comp, h4⟩, k, comp, h3, h4, h1, h5⟩
theorem l_mc : Cond.arrayClass .int ∈ lw_tbl ∧ Cond.arrayClass .long ∈ lw_tbl ∧ Cond.arrayClass .byte ∈ lw_tbl ∧ Cond.arrayOver (.object "SheetNames$Atlas") ∈ lw_tbl := ⟨tb_1 _ (List.mem_of_getElem? (i := 83) rfl), tb_6 _ (List.mem_of_getElem? (i := 47) rfl), tb_5 _ (List.mem_of_getElem? (i := 14) rfl), tb_1 _ (List.mem_of_getElem? (i := 150) rfl)⟩
theorem l_mi : Cond.instantiable RX0 6 ∈ lw_tbl ∧ Cond.instantiable RX1 5 ∈ lw_tbl ∧ Cond.instantiable RX2 6 ∈ lw_tbl ∧ Cond.instantiable RX3 9 ∈ lw_tbl ∧ Cond.instantiable RX4 2 ∈ lw_tbl ∧ Cond.instantiable RX5 7 ∈ lw_tbl ∧ Cond.instantiable RX6 11 ∈ lw_tbl ∧ Cond.instantiable RX7 9 ∈ lw_tbl ∧ Cond.instantiable RX8 2 ∈ lw_tbl ∧ Cond.instantiable RX9 4 ∈ lw_tbl ∧ Cond.instantiable RX10 14 ∈ lw_tbl ∧ Cond.instantiable RX11 42 ∈ lw_tbl := ⟨tb_1 _ (List.mem_of_getElem? (i := 29) rfl), tb_2 _ (List.mem_of_getElem? (i := 73) rfl), tb_1 _ (List.mem_of_getElem? (i := 35) rfl), tb_1 _ (List.mem_of_getElem? (i := 168) rfl), tb_2 _ (List.mem_of_getElem? (i := 95) rfl), tb_1 _ (List.mem_of_getElem? (i := 208) rfl), tb_2 _ (List.mem_of_getElem? (i := 1) rfl), tb_1 _ (List.mem_of_getElem? (i := 85) rfl), tb_1 _ (List.mem_of_getElem? (i := 152) rfl), tb_2 _ (List.mem_of_getElem? (i := 52) rfl), tb_1 _ (List.mem_of_getElem? (i := 21) rfl), tb_5 _ (List.mem_of_getElem? (i := 148) rfl)⟩
theorem lw_K0 (hts : ∀ w ∈ lw_tbl, w.before #[Value.ref b] s = true) : ∃ (D : va_G) (ci : Nat → ClassId), va_K D vwCl (q_tys ci) s := by
  obtain ⟨m0, m1, m2, m3, m4, m5, m6, m7, m8, m9, m10, m11⟩ := l_mi
  obtain ⟨c0, i0, h0⟩ := u_known (C := RX0) (T := TX0) (N := 6) (n := 6) hts (fun w h => (List.mem_filter.mp (inWX00 w h)).1) (hts _ m0)
  obtain ⟨c1, i1, h1⟩ := u_known (C := RX1) (T := TX1) (N := 5) (n := 5) hts (fun w h => (List.mem_filter.mp (inWX10 w h)).1) (hts _ m1)
  obtain ⟨c2, i2, h2⟩ := u_known (C := RX2) (T := TX2) (N := 6) (n := 6) hts (fun w h => (List.mem_filter.mp (inWX20 w h)).1) (hts _ m2)
  obtain ⟨c3, i3, h3⟩ := u_known (C := RX3) (T := TX3) (N := 9) (n := 9) hts (fun w h => (List.mem_filter.mp (inWX30 w h)).1) (hts _ m3)
  obtain ⟨c4, i4, h4⟩ := u_known (C := RX4) (T := TX4) (N := 2) (n := 2) hts (fun w h => (List.mem_filter.mp (inWX40 w h)).1) (hts _ m4)
  obtain ⟨c5, i5, h5⟩ := u_known (C := RX5) (T := TX5) (N := 7) (n := 7) hts (fun w h => (List.mem_filter.mp (inWX50 w h)).1) (hts _ m5)
  obtain ⟨c6, i6, h6⟩ := u_known (C := RX6) (T := TX6) (N := 11) (n := 11) hts (fun w h => (List.mem_filter.mp (inWX60 w h)).1) (hts _ m6)
  obtain ⟨c7, i7, h7⟩ := u_known (C := RX7) (T := TX7) (N := 9) (n := 9) hts (fun w h => (List.mem_filter.mp (inWX70 w h)).1) (hts _ m7)
  obtain ⟨c8, i8, h8⟩ := u_known (C := RX8) (T := TX8) (N := 2) (n := 2) hts (fun w h => (List.mem_filter.mp (inWX80 w h)).1) (hts _ m8)
  obtain ⟨c9, i9, h9⟩ := u_known (C := RX9) (T := TX9) (N := 4) (n := 4) hts (fun w h => (List.mem_filter.mp (inWX90 w h)).1) (hts _ m9)
  obtain ⟨c10, i10, h10⟩ := u_known (C := RX10) (T := TX10) (N := 14) (n := 14) hts (fun w h => (List.mem_filter.mp (inWX100 w h)).1) (hts _ m10)
  obtain ⟨c11, i11, h11⟩ := u_known (C := RX11) (T := TX11) (N := 42) (n := 42) hts (fun w h => (List.mem_filter.mp (inWX110 w h)).1) (hts _ m11)
  obtain ⟨a0, p0, q0⟩ := l_arr (hts _ l_mc.1)
  obtain ⟨a1, p1, q1⟩ := l_arr (hts _ l_mc.2.1)
  obtain ⟨a2, p2, q2⟩ := l_arr (hts _ l_mc.2.2.1)
  obtain ⟨a3, p3, q3⟩ := l_arrO (hts _ l_mc.2.2.2)
  refine ⟨(fun k => match k with
    | 0 => c0
    | 1 => c1
    | 2 => c2
    | 3 => c3
    | 4 => c4
    | 5 => c5
    | 6 => c6
    | 7 => c7
    | 8 => c8
    | 9 => c9
    | 10 => c10
    | _ => c11, fun k => match k with
    | 0 => i0
    | 1 => i1
    | 2 => i2
    | 3 => i3
    | 4 => i4
    | 5 => i5
    | 6 => i6
    | 7 => i7
    | 8 => i8
    | 9 => i9
    | 10 => i10
    | _ => i11), fun k => match k with
    | 0 => a0
    | 1 => a1
    | 2 => a2
    | _ => a3, ?_, ?_⟩
  · intro k q hq
    match k, hq with
    | 0, hq => cases hq; exact h0
    | 1, hq => cases hq; exact h1
    | 2, hq => cases hq; exact h2
    | 3, hq => cases hq; exact h3
    | 4, hq => cases hq; exact h4
    | 5, hq => cases hq; exact h5
    | 6, hq => cases hq; exact h6
    | 7, hq => cases hq; exact h7
    | 8, hq => cases hq; exact h8
    | 9, hq => cases hq; exact h9
    | 10, hq => cases hq; exact h10
    | 11, hq => cases hq; exact h11
    | k + 12, hq => simp at hq
  · intro k q hq
    match k, hq with
    | 0, hq => cases hq; exact ⟨p0, q0⟩
    | 1, hq => cases hq; exact ⟨p1, q1⟩
    | 2, hq => cases hq; exact ⟨p2, q2⟩
    | 3, hq => cases hq; exact ⟨p3, q3⟩
    | k + 4, hq => simp at hq
abbrev l_gn : Cond := Jvm.Cond.and given_1 narrow_1
set_option maxRecDepth 20000 in
theorem l_f1 : (Cond.arrayOf (.static "SheetNames" "BAND_ZONES" "[I") .int ∈ flatC l_gn ∧ Cond.eq (.length (.static "SheetNames" "BAND_ZONES" "[I")) (.int (Int32.ofNat 44)) ∈ flatC l_gn) ∧ (∀ j, j < 44 → Cond.eq (.elem (.static "SheetNames" "BAND_ZONES" "[I") (.int (Int32.ofNat j))) (.int (q_bZ j)) ∈ flatC l_gn) := by decide +kernel
set_option maxRecDepth 20000 in
theorem l_f2 : (Cond.arrayOf (.static "SheetNames" "ZONES_AHEAD" "[I") .int ∈ flatC l_gn ∧ Cond.eq (.length (.static "SheetNames" "ZONES_AHEAD" "[I")) (.int (Int32.ofNat 44)) ∈ flatC l_gn) ∧ (∀ j, j < 44 → Cond.eq (.elem (.static "SheetNames" "ZONES_AHEAD" "[I") (.int (Int32.ofNat j))) (.int (q_zA j)) ∈ flatC l_gn) := by decide +kernel
set_option maxRecDepth 20000 in
theorem l_f3 : Cond.eq (.static "java/lang/String" "COMPACT_STRINGS" "Z") (.int 1) ∈ flatC l_gn ∧ Cond.isRef (.static "jdk/internal/util/Preconditions" "SIOOBE_FORMATTER" "Ljava/util/function/BiFunction;") ∈ flatC l_gn := by decide +kernel
abbrev l_tm (i : Nat) : Term := .string "SheetNames$Question" (q_sidx.getD i 0)
set_option maxRecDepth 20000 in
theorem l_f4 : ∀ i, i < 7 → (Cond.exactly (l_tm i) "java/lang/String" ∈ flatC l_gn ∧ Cond.eq (.field (l_tm i) "java/lang/String" "coder" "B") (.int 0) ∈ flatC l_gn) ∧ Cond.arrayOf (.field (l_tm i) "java/lang/String" "value" "[B") .byte ∈ flatC l_gn ∧ Cond.eq (.length (.field (l_tm i) "java/lang/String" "value" "[B")) (.int (Int32.ofNat (q_slen.getD i 0))) ∈ flatC l_gn := by decide +kernel
set_option maxRecDepth 20000 in
theorem l_f5 : ∀ i, i < 7 → ∀ j, j < q_slen.getD i 0 → Cond.eq (.elem (.field (l_tm i) "java/lang/String" "value" "[B") (.int (Int32.ofNat j))) (.int ((q_sbyt.getD i []).getD j 0)) ∈ flatC l_gn := by decide +kernel
set_option maxRecDepth 20000 in
theorem l_f6 : ∀ i, i < 7 → ∀ j, j < 7 → i ≠ j → Cond.not (Cond.eq (l_tm i) (l_tm j)) ∈ flatC l_gn ∨ Cond.not (Cond.eq (l_tm j) (l_tm i)) ∈ flatC l_gn := by decide +kernel
theorem l_t1 : (Cond.laysStatic "SheetNames" "BAND_ZONES" "[I" ∈ lw_tbl ∧ Cond.laysStatic "SheetNames" "ZONES_AHEAD" "[I" ∈ lw_tbl ∧ Cond.laysStatic "java/lang/String" "COMPACT_STRINGS" "Z" ∈ lw_tbl ∧ Cond.laysStatic "jdk/internal/util/Preconditions" "SIOOBE_FORMATTER" "Ljava/util/function/BiFunction;" ∈ lw_tbl) ∧ Cond.initialized "SheetNames" ∈ lw_tbl ∧ Cond.initialized "java/lang/String" ∈ lw_tbl ∧ Cond.initialized "jdk/internal/util/Preconditions" ∈ lw_tbl := ⟨⟨tb_2 _ (List.mem_of_getElem? (i := 216) rfl), tb_2 _ (List.mem_of_getElem? (i := 214) rfl), tb_4 _ (List.mem_of_getElem? (i := 196) rfl), tb_4 _ (List.mem_of_getElem? (i := 212) rfl)⟩, tb_1 _ (List.mem_of_getElem? (i := 1) rfl), tb_1 _ (List.mem_of_getElem? (i := 15) rfl), tb_1 _ (List.mem_of_getElem? (i := 17) rfl)⟩
theorem l_t2 : ∀ i, i < 7 → Cond.stringRef "SheetNames$Question" (q_sidx.getD i 0) (q_stx.getD i "") ∈ lw_tbl := by decide +kernel
theorem l_t3 : ∀ q ∈ q_nf, Cond.fieldLinkNest q.1 q.2.1 q.2.2.1 q.2.2.2.1 q.2.2.2.2.1 q.2.2.2.2.2 ∈ lw_tbl := List.forall_mem_cons.mpr ⟨tb_1 _ (List.mem_of_getElem? (i := 99) rfl), List.forall_mem_cons.mpr ⟨tb_1 _ (List.mem_of_getElem? (i := 68) rfl), List.forall_mem_cons.mpr ⟨tb_1 _ (List.mem_of_getElem? (i := 62) rfl), List.forall_mem_cons.mpr ⟨tb_1 _ (List.mem_of_getElem? (i := 45) rfl), List.forall_mem_cons.mpr ⟨tb_1 _ (List.mem_of_getElem? (i := 51) rfl), List.forall_mem_cons.mpr ⟨tb_1 _ (List.mem_of_getElem? (i := 56) rfl), List.forall_mem_cons.mpr ⟨tb_1 _ (List.mem_of_getElem? (i := 60) rfl), List.forall_mem_cons.mpr ⟨tb_1 _ (List.mem_of_getElem? (i := 126) rfl), List.forall_mem_cons.mpr ⟨tb_2 _ (List.mem_of_getElem? (i := 103) rfl), List.forall_mem_cons.mpr ⟨tb_2 _ (List.mem_of_getElem? (i := 101) rfl), List.forall_mem_cons.mpr ⟨tb_1 _ (List.mem_of_getElem? (i := 179) rfl), List.forall_mem_cons.mpr ⟨tb_1 _ (List.mem_of_getElem? (i := 182) rfl), List.forall_mem_cons.mpr ⟨tb_1 _ (List.mem_of_getElem? (i := 128) rfl), List.forall_mem_cons.mpr ⟨tb_2 _ (List.mem_of_getElem? (i := 20) rfl), List.forall_mem_cons.mpr ⟨tb_2 _ (List.mem_of_getElem? (i := 23) rfl), List.forall_mem_cons.mpr ⟨tb_2 _ (List.mem_of_getElem? (i := 25) rfl), List.forall_mem_cons.mpr ⟨tb_2 _ (List.mem_of_getElem? (i := 11) rfl), List.forall_mem_cons.mpr ⟨tb_2 _ (List.mem_of_getElem? (i := 9) rfl), List.forall_mem_cons.mpr ⟨tb_2 _ (List.mem_of_getElem? (i := 15) rfl), List.forall_mem_cons.mpr ⟨tb_2 _ (List.mem_of_getElem? (i := 13) rfl), List.forall_mem_cons.mpr ⟨tb_1 _ (List.mem_of_getElem? (i := 216) rfl), List.forall_mem_cons.mpr ⟨tb_1 _ (List.mem_of_getElem? (i := 218) rfl), List.forall_mem_cons.mpr ⟨tb_1 _ (List.mem_of_getElem? (i := 220) rfl), List.forall_mem_cons.mpr ⟨tb_1 _ (List.mem_of_getElem? (i := 222) rfl), List.forall_mem_cons.mpr ⟨tb_1 _ (List.mem_of_getElem? (i := 224) rfl), List.forall_mem_cons.mpr ⟨tb_1 _ (List.mem_of_getElem? (i := 96) rfl), List.forall_mem_cons.mpr ⟨tb_1 _ (List.mem_of_getElem? (i := 92) rfl), List.forall_mem_cons.mpr ⟨tb_1 _ (List.mem_of_getElem? (i := 94) rfl), List.forall_mem_cons.mpr ⟨tb_1 _ (List.mem_of_getElem? (i := 101) rfl), List.forall_mem_cons.mpr ⟨tb_1 _ (List.mem_of_getElem? (i := 103) rfl), List.forall_mem_cons.mpr ⟨tb_1 _ (List.mem_of_getElem? (i := 105) rfl), List.forall_mem_cons.mpr ⟨tb_1 _ (List.mem_of_getElem? (i := 130) rfl), List.forall_mem_cons.mpr ⟨tb_1 _ (List.mem_of_getElem? (i := 132) rfl), List.forall_mem_cons.mpr ⟨tb_1 _ (List.mem_of_getElem? (i := 134) rfl), List.forall_mem_cons.mpr ⟨tb_1 _ (List.mem_of_getElem? (i := 136) rfl), List.forall_mem_cons.mpr ⟨tb_1 _ (List.mem_of_getElem? (i := 160) rfl), List.forall_mem_cons.mpr ⟨tb_1 _ (List.mem_of_getElem? (i := 187) rfl), List.forall_mem_cons.mpr ⟨tb_1 _ (List.mem_of_getElem? (i := 184) rfl), List.forall_mem_cons.mpr ⟨tb_1 _ (List.mem_of_getElem? (i := 57) rfl), List.forall_mem_cons.mpr ⟨tb_1 _ (List.mem_of_getElem? (i := 63) rfl), List.forall_mem_cons.mpr ⟨tb_1 _ (List.mem_of_getElem? (i := 48) rfl), List.forall_mem_cons.mpr ⟨tb_1 _ (List.mem_of_getElem? (i := 53) rfl), List.forall_mem_cons.mpr ⟨tb_2 _ (List.mem_of_getElem? (i := 215) rfl), List.forall_mem_cons.mpr ⟨tb_2 _ (List.mem_of_getElem? (i := 213) rfl), List.forall_mem_cons.mpr ⟨tb_1 _ (List.mem_of_getElem? (i := 67) rfl), List.forall_mem_cons.mpr ⟨tb_3 _ (List.mem_of_getElem? (i := 68) rfl), List.forall_mem_cons.mpr ⟨tb_1 _ (List.mem_of_getElem? (i := 50) rfl), List.forall_mem_cons.mpr ⟨tb_1 _ (List.mem_of_getElem? (i := 46) rfl), List.forall_mem_cons.mpr ⟨tb_1 _ (List.mem_of_getElem? (i := 161) rfl), List.forall_mem_cons.mpr ⟨tb_1 _ (List.mem_of_getElem? (i := 158) rfl), List.forall_mem_cons.mpr ⟨tb_2 _ (List.mem_of_getElem? (i := 27) rfl), List.forall_mem_cons.mpr ⟨tb_2 _ (List.mem_of_getElem? (i := 19) rfl), List.forall_mem_cons.mpr ⟨tb_2 _ (List.mem_of_getElem? (i := 17) rfl), List.forall_mem_cons.mpr ⟨tb_1 _ (List.mem_of_getElem? (i := 178) rfl), List.forall_mem_cons.mpr ⟨tb_1 _ (List.mem_of_getElem? (i := 181) rfl), List.forall_mem_cons.mpr ⟨tb_1 _ (List.mem_of_getElem? (i := 69) rfl), List.forall_mem_cons.mpr ⟨tb_1 _ (List.mem_of_getElem? (i := 64) rfl), List.forall_mem_cons.mpr ⟨tb_1 _ (List.mem_of_getElem? (i := 55) rfl), List.forall_mem_cons.mpr ⟨tb_1 _ (List.mem_of_getElem? (i := 59) rfl), List.forall_mem_cons.mpr ⟨tb_1 _ (List.mem_of_getElem? (i := 47) rfl), List.forall_mem_cons.mpr ⟨tb_1 _ (List.mem_of_getElem? (i := 52) rfl), List.forall_mem_cons.mpr ⟨tb_2 _ (List.mem_of_getElem? (i := 7) rfl), List.forall_mem_cons.mpr ⟨tb_1 _ (List.mem_of_getElem? (i := 66) rfl), fun _ h => absurd h List.not_mem_nil⟩⟩⟩⟩⟩⟩⟩⟩⟩⟩⟩⟩⟩⟩⟩⟩⟩⟩⟩⟩⟩⟩⟩⟩⟩⟩⟩⟩⟩⟩⟩⟩⟩⟩⟩⟩⟩⟩⟩⟩⟩⟩⟩⟩⟩⟩⟩⟩⟩⟩⟩⟩⟩⟩⟩⟩⟩⟩⟩⟩⟩⟩⟩
theorem l_t4 : ∀ q ∈ q_nml, Cond.methodLinkNest q.1 q.2.1 q.2.2.1 q.2.2.2 ∈ lw_tbl := List.forall_mem_cons.mpr ⟨tb_1 _ (List.mem_of_getElem? (i := 153) rfl), List.forall_mem_cons.mpr ⟨tb_2 _ (List.mem_of_getElem? (i := 96) rfl), List.forall_mem_cons.mpr ⟨tb_1 _ (List.mem_of_getElem? (i := 30) rfl), List.forall_mem_cons.mpr ⟨tb_2 _ (List.mem_of_getElem? (i := 234) rfl), fun _ h => absurd h List.not_mem_nil⟩⟩⟩⟩
theorem l_slen : ∀ i, i < 7 → q_slen.getD i 0 < 2 ^ 31 := by decide +kernel
theorem lw_Z0 (hts : ∀ w ∈ lw_tbl, w.before #[Value.ref b] s = true) (hg : l_gn.before #[Value.ref b] s = true) : ∃ sa : Nat → Nat, q_Z (fun q : Nat => s.heap.size ≤ q) sa s := by
  have hs := flat_of_before _ hg
  have hA : ∀ a : Nat, a < s.heap.size → ¬ (fun q : Nat => s.heap.size ≤ q) a := fun a h => Nat.not_le.mpr h
  obtain ⟨⟨y1, y2, y3, y4⟩, z1, z2, z3⟩ := l_t1
  obtain ⟨t0, e0, T0⟩ := va_Tof (tm := .static "SheetNames" "BAND_ZONES" "[I") (ty := .int) (N := 44) (f := fun j => .int (q_bZ j)) (by decide) (hs _ l_f1.1.1) (va_eqt (hs _ l_f1.1.2)) (fun j hj => va_eqt (hs _ (l_f1.2 j hj))) hA
  obtain ⟨t1, e1, T1⟩ := va_Tof (tm := .static "SheetNames" "ZONES_AHEAD" "[I") (ty := .int) (N := 44) (f := fun j => .int (q_zA j)) (by decide) (hs _ l_f2.1.1) (va_eqt (hs _ l_f2.1.2)) (fun j hj => va_eqt (hs _ (l_f2.2 j hj))) hA
  obtain ⟨adK, adV, hSt, hEv⟩ := vk_Sof (N := 7) (tm := l_tm) (len := q_slen) (byt := q_sbyt) l_slen (fun i hi => hs _ (l_f4 i hi).1.1) (fun i hi => hs _ (l_f4 i hi).1.2) (fun i hi => hs _ (l_f4 i hi).2.1) (fun i hi => hs _ (l_f4 i hi).2.2) (fun i hi j hj => hs _ (l_f5 i hi j hj)) (fun i j hi hj hij => (l_f6 i hi j hj hij).imp (hs _) (hs _)) hA
  have hfo : ∃ so : Nat, va_Z "jdk/internal/util/Preconditions" "SIOOBE_FORMATTER" "Ljava/util/function/BiFunction;" (va_rf (if so = 0 then none else some (so - 1))) (fun q : Nat => s.heap.size ≤ q) s s.heap := by
    rcases va_Zqof (hts _ y4) (hts _ z3) (hs _ l_f3.2) hA with h | ⟨t, h⟩
    · exact ⟨0, h⟩
    · exact ⟨t + 1, by rw [if_neg (by omega), Nat.add_sub_cancel]; exact h⟩
  obtain ⟨so, hso⟩ := hfo
  refine ⟨fun i => if i = 0 then t0 else if i = 1 then t1 else if i < 9 then adK (i - 2) else if i < 16 then adV (i - 9) else so, va_Zof (hts _ y1) (hts _ z1) e0 hA, T0, va_Zof (hts _ y2) (hts _ z1) e1 hA, T1, va_Zof (hts _ y3) (hts _ z2) (va_eqt (hs _ l_f3.1)) hA, ?_, ?_, hso, va_AO.of (hts _ l_mc.2.2.2), fun q hq => va_Nw.of rfl (hts _ (l_t3 q hq)), fun q hq => va_Nw.of rfl (hts _ (l_t4 q hq))⟩
  · have eK : ∀ i, i < 7 → (fun i : Nat => if 2 + i = 0 then t0 else if 2 + i = 1 then t1 else if 2 + i < 9 then adK (2 + i - 2) else if 2 + i < 16 then adV (2 + i - 9) else so) i = adK i := by
      intro i hi
      dsimp only
      rw [if_neg (by omega), if_neg (by omega), if_pos (by omega), Nat.add_sub_cancel_left]
    have eV : ∀ i, i < 7 → (fun i : Nat => if 9 + i = 0 then t0 else if 9 + i = 1 then t1 else if 9 + i < 9 then adK (9 + i - 2) else if 9 + i < 16 then adV (9 + i - 9) else so) i = adV i := by
      intro i hi
      dsimp only
      rw [if_neg (by omega), if_neg (by omega), if_neg (by omega), if_pos (by omega), Nat.add_sub_cancel_left]
    refine ⟨fun i hi => ?_, fun i j hi hj e => hSt.2 i j hi hj ?_⟩
    · have h := hSt.1 i hi
      rw [← eK i hi, ← eV i hi] at h
      exact h
    · rw [← eK i hi, ← eK j hj]
      exact e
  · intro i hi
    have h2 : (if 2 + i = 0 then t0 else if 2 + i = 1 then t1 else if 2 + i < 9 then adK (2 + i - 2) else if 2 + i < 16 then adV (2 + i - 9) else so) = adK i := by
      rw [if_neg (by omega), if_neg (by omega), if_pos (by omega), Nat.add_sub_cancel_left]
    have h := vk_R.of (hts _ (l_t2 i hi)) (hEv i hi)
    rw [← h2] at h
    exact h
end LS
