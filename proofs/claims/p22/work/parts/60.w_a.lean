section
set_option maxRecDepth 100000 in
theorem z_nat_math : Jvm.natives.all (fun r => !(r.cls == "java/lang/Math" && (r.name == "floorDiv" || r.name == "floorMod"))) = true := by decide +kernel
theorem z_plainMath {y : MethodName} (h : y.cls = "java/lang/Math") (h2 : y.name = "floorDiv" ∨ y.name = "floorMod") : plainFor y = true := by
  unfold plainFor NativeRow.find?
  rw [List.find?_eq_none.mpr (fun r hr => by
    have a := List.all_eq_true.mp z_nat_math r hr
    intro c
    rw [h, Bool.and_eq_true, Bool.and_eq_true] at c
    rw [c.1.2] at a
    rcases h2 with h2 | h2
    · have d := c.1.1
      rw [h2] at d
      rw [d, Bool.true_or] at a
      exact absurd a (by decide)
    · have d := c.1.1
      rw [h2] at d
      rw [d, Bool.or_true] at a
      exact absurd a (by decide))]
  exact Bool.or_true _
/-! J6_compare_7cf53 -/
set_option maxRecDepth 100000 in
set_option maxHeartbeats 4000000 in
theorem c_JInteger_compare_7cf53 (l : Launch) (D : va_G) (ci : Nat → ClassId) (A : Nat → Prop) (sa : Nat → Nat) (N : Nat) (Rw : va_W) (p1 : Int32) (p2 : Int32) (r : Int32) (hf : f_JInteger_compare_7cf53 p1 p2 = some r) : Met l yJ6_compare_7cf53 wsJ6_compare_7cf53 ({ frames := 0, cells := 0, slots := 0, locals := 0 }) (va_Pc [.int p1, .int p2] (q_N D ci A sa (Rw))) (q_R (some (.int r))) 0 0 A := by
  refine q_ofW (cc := cJ6_compare_7cf53) (maxL := 2) (ret := (some .int)) [.int p1, .int p2] (plainFor_of_name (by decide)) rfl (Nat.le_of_ble_eq_true rfl) ?_
  intro p e s m below meth c ls Q hQ hx hb hml hr hts hown hlocks hK hA hZ hP hD hS hl
  have hl : lv_has ls 2 [(0, .int p1), (1, .int p2)] := hl
  have hown : s.vm.findClass RJ6 = some m.cls := hown
  unfold f_JInteger_compare_7cf53 at hf
  have hgo : ∀ (H : Heap) (locs : List Loc), H = s.heap → va_P D vwCl (Rw) H → va_S A s.heap H locs → W p l e ({ frames := 0, cells := 0, slots := 0, locals := 0 } : Room) s m ([.int p1, .int p2] : List Value).toArray below meth c H locs 0 0 Q (F0 m 0 ls []) := by
    intro H locs hH hP hS
    subst hH
    refine lv_iload_n (pc := 0) hx hb dJ6_compare_7cf53_0 rfl (lv_at hl 0 rfl) ?_
    refine lv_iload_n (pc := 1) hx hb dJ6_compare_7cf53_1 rfl (lv_at hl 1 rfl) ?_
    refine q_icmp_ge (pc := 2) (tgt := 9) hx hb dJ6_compare_7cf53_2 (by decide) rfl hf (fun hf => ?_) (fun hf => ?_)
    · refine lv_iload_n (pc := 9) hx hb dJ6_compare_7cf53_9 rfl (lv_at hl 0 rfl) ?_
      refine lv_iload_n (pc := 10) hx hb dJ6_compare_7cf53_10 rfl (lv_at hl 1 rfl) ?_
      refine q_icmp_ne (pc := 11) (tgt := 18) hx hb dJ6_compare_7cf53_11 (by decide) rfl hf (fun hf => ?_) (fun hf => ?_)
      · refine lv_iconst (pc := 18) (v := 1) hx hb dJ6_compare_7cf53_18 (by decide) ?_
        obtain rfl := Option.some.inj hf
        rw [hQ]
        exact q_iretr (pc := 19) hx hb hr hlocks rfl hS dJ6_compare_7cf53_19
      · refine lv_iconst (pc := 14) (v := 0) hx hb dJ6_compare_7cf53_14 (by decide) ?_
        refine lv_goto (pc := 15) (tgt := 19) hx hb dJ6_compare_7cf53_15 (by decide) ?_
        obtain rfl := Option.some.inj hf
        rw [hQ]
        exact q_iretr (pc := 19) hx hb hr hlocks rfl hS dJ6_compare_7cf53_19
    · refine lv_iconst (pc := 5) (v := (-1)) hx hb dJ6_compare_7cf53_5 (by decide) ?_
      refine lv_goto (pc := 6) (tgt := 19) hx hb dJ6_compare_7cf53_6 (by decide) ?_
      obtain rfl := Option.some.inj hf
      rw [hQ]
      exact q_iretr (pc := 19) hx hb hr hlocks rfl hS dJ6_compare_7cf53_19
  exact hgo _ _ rfl hP hS
/-! J9_floorDiv_7cf53 -/
set_option maxRecDepth 100000 in
set_option maxHeartbeats 4000000 in
theorem c_JMath_floorDiv_7cf53 (l : Launch) (D : va_G) (ci : Nat → ClassId) (A : Nat → Prop) (sa : Nat → Nat) (N : Nat) (Rw : va_W) (p1 : Int32) (p2 : Int32) (r : Int32) (hf : f_JMath_floorDiv_7cf53 p1 p2 = some r) : Met l yJ9_floorDiv_7cf53 wsJ9_floorDiv_7cf53 ({ frames := 0, cells := 0, slots := 0, locals := 0 }) (va_Pc [.int p1, .int p2] (q_N D ci A sa (Rw))) (q_R (some (.int r))) 0 0 A := by
  refine q_ofW (cc := cJ9_floorDiv_7cf53) (maxL := 3) (ret := (some .int)) [.int p1, .int p2] (z_plainMath rfl (Or.inl rfl)) rfl (Nat.le_of_ble_eq_true rfl) ?_
  intro p e s m below meth c ls Q hQ hx hb hml hr hts hown hlocks hK hA hZ hP hD hS hl
  have hl : lv_has ls 3 [(0, .int p1), (1, .int p2)] := hl
  have hown : s.vm.findClass RJ9 = some m.cls := hown
  unfold f_JMath_floorDiv_7cf53 at hf
  have hgo : ∀ (H : Heap) (locs : List Loc), H = s.heap → va_P D vwCl (Rw) H → va_S A s.heap H locs → W p l e ({ frames := 0, cells := 0, slots := 0, locals := 0 } : Room) s m ([.int p1, .int p2] : List Value).toArray below meth c H locs 0 0 Q (F0 m 0 ls []) := by
    intro H locs hH hP hS
    subst hH
    refine lv_iload_n (pc := 0) hx hb dJ9_floorDiv_7cf53_0 rfl (lv_at hl 0 rfl) ?_
    refine lv_iload_n (pc := 1) hx hb dJ9_floorDiv_7cf53_1 rfl (lv_at hl 1 rfl) ?_
    refine q_idiv (pc := 2) hx hb dJ9_floorDiv_7cf53_2 hf (fun v1 hf => ?_)
    refine lv_istore_n (pc := 3) (lv' := [(2, .int v1), (0, .int p1), (1, .int p2)]) hx hb dJ9_floorDiv_7cf53_3 rfl hl (by decide) rfl (fun ls hl => ?_)
    refine lv_iload_n (pc := 4) hx hb dJ9_floorDiv_7cf53_4 rfl (lv_at hl 1 rfl) ?_
    refine lv_iload_n (pc := 5) hx hb dJ9_floorDiv_7cf53_5 rfl (lv_at hl 2 rfl) ?_
    refine lv_ixor (pc := 6) hx hb dJ9_floorDiv_7cf53_6 ?_
    refine q_if_ge (pc := 7) (tgt := 21) hx hb dJ9_floorDiv_7cf53_7 (by decide) rfl hf (fun hf => ?_) (fun hf => ?_)
    · refine lv_iload_n (pc := 21) hx hb dJ9_floorDiv_7cf53_21 rfl (lv_at hl 0 rfl) ?_
      obtain rfl := Option.some.inj hf
      rw [hQ]
      exact q_iretr (pc := 22) hx hb hr hlocks rfl hS dJ9_floorDiv_7cf53_22
    · refine lv_iload_n (pc := 10) hx hb dJ9_floorDiv_7cf53_10 rfl (lv_at hl 0 rfl) ?_
      refine lv_iload_n (pc := 11) hx hb dJ9_floorDiv_7cf53_11 rfl (lv_at hl 2 rfl) ?_
      refine lv_imul (pc := 12) hx hb dJ9_floorDiv_7cf53_12 ?_
      refine lv_iload_n (pc := 13) hx hb dJ9_floorDiv_7cf53_13 rfl (lv_at hl 1 rfl) ?_
      refine q_icmp_eq (pc := 14) (tgt := 21) hx hb dJ9_floorDiv_7cf53_14 (by decide) rfl hf (fun hf => ?_) (fun hf => ?_)
      · refine lv_iload_n (pc := 21) hx hb dJ9_floorDiv_7cf53_21 rfl (lv_at hl 0 rfl) ?_
        obtain rfl := Option.some.inj hf
        rw [hQ]
        exact q_iretr (pc := 22) hx hb hr hlocks rfl hS dJ9_floorDiv_7cf53_22
      · refine lv_iload_n (pc := 17) hx hb dJ9_floorDiv_7cf53_17 rfl (lv_at hl 0 rfl) ?_
        refine lv_iconst (pc := 18) (v := 1) hx hb dJ9_floorDiv_7cf53_18 (by decide) ?_
        refine lv_isub (pc := 19) hx hb dJ9_floorDiv_7cf53_19 ?_
        obtain rfl := Option.some.inj hf
        rw [hQ]
        exact q_iretr (pc := 20) hx hb hr hlocks rfl hS dJ9_floorDiv_7cf53_20
  exact hgo _ _ rfl hP hS
/-! J9_floorDiv_f86c9 -/
set_option maxRecDepth 100000 in
set_option maxHeartbeats 4000000 in
theorem c_JMath_floorDiv_f86c9 (l : Launch) (D : va_G) (ci : Nat → ClassId) (A : Nat → Prop) (sa : Nat → Nat) (N : Nat) (Rw : va_W) (p1 : Int64) (p2 : Int64) (r : Int64) (hf : f_JMath_floorDiv_f86c9 p1 p2 = some r) : Met l yJ9_floorDiv_f86c9 wsJ9_floorDiv_f86c9 ({ frames := 0, cells := 0, slots := 0, locals := 0 }) (va_Pc [.long p1, .long p2] (q_N D ci A sa (Rw))) (q_R (some (.long r))) 0 0 A := by
  refine q_ofW (cc := cJ9_floorDiv_f86c9) (maxL := 6) (ret := (some .long)) [.long p1, .long p2] (z_plainMath rfl (Or.inl rfl)) rfl (Nat.le_of_ble_eq_true rfl) ?_
  intro p e s m below meth c ls Q hQ hx hb hml hr hts hown hlocks hK hA hZ hP hD hS hl
  have hl : lv_has ls 6 [(0, .long p1), (2, .long p2)] := hl
  have hown : s.vm.findClass RJ9 = some m.cls := hown
  unfold f_JMath_floorDiv_f86c9 at hf
  have hgo : ∀ (H : Heap) (locs : List Loc), H = s.heap → va_P D vwCl (Rw) H → va_S A s.heap H locs → W p l e ({ frames := 0, cells := 0, slots := 0, locals := 0 } : Room) s m ([.long p1, .long p2] : List Value).toArray below meth c H locs 0 0 Q (F0 m 0 ls []) := by
    intro H locs hH hP hS
    subst hH
    refine lv_lload_n (pc := 0) hx hb dJ9_floorDiv_f86c9_0 rfl (lv_at hl 0 rfl) ?_
    refine lv_lload_n (pc := 1) hx hb dJ9_floorDiv_f86c9_1 rfl (lv_at hl 1 rfl) ?_
    refine q_ldiv (pc := 2) hx hb dJ9_floorDiv_f86c9_2 hf (fun v1 hf => ?_)
    refine lv_lstore (pc := 3) (lv' := [(4, .long v1), (0, .long p1), (2, .long p2)]) hx hb dJ9_floorDiv_f86c9_3 hl (by decide) rfl (fun ls hl => ?_)
    refine lv_lload_n (pc := 5) hx hb dJ9_floorDiv_f86c9_5 rfl (lv_at hl 1 rfl) ?_
    refine lv_lload_n (pc := 6) hx hb dJ9_floorDiv_f86c9_6 rfl (lv_at hl 2 rfl) ?_
    refine lv_lxor (pc := 7) hx hb dJ9_floorDiv_f86c9_7 ?_
    refine lv_lconst (pc := 8) (v := 0) hx hb dJ9_floorDiv_f86c9_8 (by decide) ?_
    refine W.lcmp (pc := 9) hx hb dJ9_floorDiv_f86c9_9 ?_
    refine q_if_ge (pc := 10) (tgt := 27) hx hb dJ9_floorDiv_f86c9_10 (by decide) rfl hf (fun hf => ?_) (fun hf => ?_)
    · refine lv_lload (pc := 27) hx hb dJ9_floorDiv_f86c9_27 (lv_at hl 0 rfl) ?_
      obtain rfl := Option.some.inj hf
      rw [hQ]
      exact q_lretr (pc := 29) hx hb hr hlocks rfl hS dJ9_floorDiv_f86c9_29
    · refine lv_lload (pc := 13) hx hb dJ9_floorDiv_f86c9_13 (lv_at hl 0 rfl) ?_
      refine lv_lload_n (pc := 15) hx hb dJ9_floorDiv_f86c9_15 rfl (lv_at hl 2 rfl) ?_
      refine lv_lmul (pc := 16) hx hb dJ9_floorDiv_f86c9_16 ?_
      refine lv_lload_n (pc := 17) hx hb dJ9_floorDiv_f86c9_17 rfl (lv_at hl 1 rfl) ?_
      refine W.lcmp (pc := 18) hx hb dJ9_floorDiv_f86c9_18 ?_
      refine q_if_eq (pc := 19) (tgt := 27) hx hb dJ9_floorDiv_f86c9_19 (by decide) rfl hf (fun hf => ?_) (fun hf => ?_)
      · refine lv_lload (pc := 27) hx hb dJ9_floorDiv_f86c9_27 (lv_at hl 0 rfl) ?_
        obtain rfl := Option.some.inj hf
        rw [hQ]
        exact q_lretr (pc := 29) hx hb hr hlocks rfl hS dJ9_floorDiv_f86c9_29
      · refine lv_lload (pc := 22) hx hb dJ9_floorDiv_f86c9_22 (lv_at hl 0 rfl) ?_
        refine lv_lconst (pc := 24) (v := 1) hx hb dJ9_floorDiv_f86c9_24 (by decide) ?_
        refine lv_lsub (pc := 25) hx hb dJ9_floorDiv_f86c9_25 ?_
        obtain rfl := Option.some.inj hf
        rw [hQ]
        exact q_lretr (pc := 26) hx hb hr hlocks rfl hS dJ9_floorDiv_f86c9_26
  exact hgo _ _ rfl hP hS
/-! J9_floorMod_7cf53 -/
set_option maxRecDepth 100000 in
set_option maxHeartbeats 4000000 in
theorem c_JMath_floorMod_7cf53 (l : Launch) (D : va_G) (ci : Nat → ClassId) (A : Nat → Prop) (sa : Nat → Nat) (N : Nat) (Rw : va_W) (p1 : Int32) (p2 : Int32) (r : Int32) (hf : f_JMath_floorMod_7cf53 p1 p2 = some r) : Met l yJ9_floorMod_7cf53 wsJ9_floorMod_7cf53 ({ frames := 0, cells := 0, slots := 0, locals := 0 }) (va_Pc [.int p1, .int p2] (q_N D ci A sa (Rw))) (q_R (some (.int r))) 0 0 A := by
  refine q_ofW (cc := cJ9_floorMod_7cf53) (maxL := 3) (ret := (some .int)) [.int p1, .int p2] (z_plainMath rfl (Or.inr rfl)) rfl (Nat.le_of_ble_eq_true rfl) ?_
  intro p e s m below meth c ls Q hQ hx hb hml hr hts hown hlocks hK hA hZ hP hD hS hl
  have hl : lv_has ls 3 [(0, .int p1), (1, .int p2)] := hl
  have hown : s.vm.findClass RJ9 = some m.cls := hown
  unfold f_JMath_floorMod_7cf53 at hf
  have hgo : ∀ (H : Heap) (locs : List Loc), H = s.heap → va_P D vwCl (Rw) H → va_S A s.heap H locs → W p l e ({ frames := 0, cells := 0, slots := 0, locals := 0 } : Room) s m ([.int p1, .int p2] : List Value).toArray below meth c H locs 0 0 Q (F0 m 0 ls []) := by
    intro H locs hH hP hS
    subst hH
    refine lv_iload_n (pc := 0) hx hb dJ9_floorMod_7cf53_0 rfl (lv_at hl 0 rfl) ?_
    refine lv_iload_n (pc := 1) hx hb dJ9_floorMod_7cf53_1 rfl (lv_at hl 1 rfl) ?_
    refine q_irem (pc := 2) hx hb dJ9_floorMod_7cf53_2 hf (fun v1 hf => ?_)
    refine lv_istore_n (pc := 3) (lv' := [(2, .int v1), (0, .int p1), (1, .int p2)]) hx hb dJ9_floorMod_7cf53_3 rfl hl (by decide) rfl (fun ls hl => ?_)
    refine lv_iload_n (pc := 4) hx hb dJ9_floorMod_7cf53_4 rfl (lv_at hl 1 rfl) ?_
    refine lv_iload_n (pc := 5) hx hb dJ9_floorMod_7cf53_5 rfl (lv_at hl 2 rfl) ?_
    refine lv_ixor (pc := 6) hx hb dJ9_floorMod_7cf53_6 ?_
    refine q_if_ge (pc := 7) (tgt := 18) hx hb dJ9_floorMod_7cf53_7 (by decide) rfl hf (fun hf => ?_) (fun hf => ?_)
    · refine lv_iload_n (pc := 18) hx hb dJ9_floorMod_7cf53_18 rfl (lv_at hl 0 rfl) ?_
      obtain rfl := Option.some.inj hf
      rw [hQ]
      exact q_iretr (pc := 19) hx hb hr hlocks rfl hS dJ9_floorMod_7cf53_19
    · refine lv_iload_n (pc := 10) hx hb dJ9_floorMod_7cf53_10 rfl (lv_at hl 0 rfl) ?_
      refine q_if_eq (pc := 11) (tgt := 18) hx hb dJ9_floorMod_7cf53_11 (by decide) rfl hf (fun hf => ?_) (fun hf => ?_)
      · refine lv_iload_n (pc := 18) hx hb dJ9_floorMod_7cf53_18 rfl (lv_at hl 0 rfl) ?_
        obtain rfl := Option.some.inj hf
        rw [hQ]
        exact q_iretr (pc := 19) hx hb hr hlocks rfl hS dJ9_floorMod_7cf53_19
      · refine lv_iload_n (pc := 14) hx hb dJ9_floorMod_7cf53_14 rfl (lv_at hl 0 rfl) ?_
        refine lv_iload_n (pc := 15) hx hb dJ9_floorMod_7cf53_15 rfl (lv_at hl 2 rfl) ?_
        refine lv_iadd (pc := 16) hx hb dJ9_floorMod_7cf53_16 ?_
        obtain rfl := Option.some.inj hf
        rw [hQ]
        exact q_iretr (pc := 17) hx hb hr hlocks rfl hS dJ9_floorMod_7cf53_17
  exact hgo _ _ rfl hP hS
/-! J9_floorMod_f86c9 -/
set_option maxRecDepth 100000 in
set_option maxHeartbeats 4000000 in
theorem c_JMath_floorMod_f86c9 (l : Launch) (D : va_G) (ci : Nat → ClassId) (A : Nat → Prop) (sa : Nat → Nat) (N : Nat) (Rw : va_W) (p1 : Int64) (p2 : Int64) (r : Int64) (hf : f_JMath_floorMod_f86c9 p1 p2 = some r) : Met l yJ9_floorMod_f86c9 wsJ9_floorMod_f86c9 ({ frames := 0, cells := 0, slots := 0, locals := 0 }) (va_Pc [.long p1, .long p2] (q_N D ci A sa (Rw))) (q_R (some (.long r))) 0 0 A := by
  refine q_ofW (cc := cJ9_floorMod_f86c9) (maxL := 6) (ret := (some .long)) [.long p1, .long p2] (z_plainMath rfl (Or.inr rfl)) rfl (Nat.le_of_ble_eq_true rfl) ?_
  intro p e s m below meth c ls Q hQ hx hb hml hr hts hown hlocks hK hA hZ hP hD hS hl
  have hl : lv_has ls 6 [(0, .long p1), (2, .long p2)] := hl
  have hown : s.vm.findClass RJ9 = some m.cls := hown
  unfold f_JMath_floorMod_f86c9 at hf
  have hgo : ∀ (H : Heap) (locs : List Loc), H = s.heap → va_P D vwCl (Rw) H → va_S A s.heap H locs → W p l e ({ frames := 0, cells := 0, slots := 0, locals := 0 } : Room) s m ([.long p1, .long p2] : List Value).toArray below meth c H locs 0 0 Q (F0 m 0 ls []) := by
    intro H locs hH hP hS
    subst hH
    refine lv_lload_n (pc := 0) hx hb dJ9_floorMod_f86c9_0 rfl (lv_at hl 0 rfl) ?_
    refine lv_lload_n (pc := 1) hx hb dJ9_floorMod_f86c9_1 rfl (lv_at hl 1 rfl) ?_
    refine q_lrem (pc := 2) hx hb dJ9_floorMod_f86c9_2 hf (fun v1 hf => ?_)
    refine lv_lstore (pc := 3) (lv' := [(4, .long v1), (0, .long p1), (2, .long p2)]) hx hb dJ9_floorMod_f86c9_3 hl (by decide) rfl (fun ls hl => ?_)
    refine lv_lload_n (pc := 5) hx hb dJ9_floorMod_f86c9_5 rfl (lv_at hl 1 rfl) ?_
    refine lv_lload_n (pc := 6) hx hb dJ9_floorMod_f86c9_6 rfl (lv_at hl 2 rfl) ?_
    refine lv_lxor (pc := 7) hx hb dJ9_floorMod_f86c9_7 ?_
    refine lv_lconst (pc := 8) (v := 0) hx hb dJ9_floorMod_f86c9_8 (by decide) ?_
    refine W.lcmp (pc := 9) hx hb dJ9_floorMod_f86c9_9 ?_
    refine q_if_ge (pc := 10) (tgt := 25) hx hb dJ9_floorMod_f86c9_10 (by decide) rfl hf (fun hf => ?_) (fun hf => ?_)
    · refine lv_lload (pc := 25) hx hb dJ9_floorMod_f86c9_25 (lv_at hl 0 rfl) ?_
      obtain rfl := Option.some.inj hf
      rw [hQ]
      exact q_lretr (pc := 27) hx hb hr hlocks rfl hS dJ9_floorMod_f86c9_27
    · refine lv_lload (pc := 13) hx hb dJ9_floorMod_f86c9_13 (lv_at hl 0 rfl) ?_
      refine lv_lconst (pc := 15) (v := 0) hx hb dJ9_floorMod_f86c9_15 (by decide) ?_
      refine W.lcmp (pc := 16) hx hb dJ9_floorMod_f86c9_16 ?_
      refine q_if_eq (pc := 17) (tgt := 25) hx hb dJ9_floorMod_f86c9_17 (by decide) rfl hf (fun hf => ?_) (fun hf => ?_)
      · refine lv_lload (pc := 25) hx hb dJ9_floorMod_f86c9_25 (lv_at hl 0 rfl) ?_
        obtain rfl := Option.some.inj hf
        rw [hQ]
        exact q_lretr (pc := 27) hx hb hr hlocks rfl hS dJ9_floorMod_f86c9_27
      · refine lv_lload (pc := 20) hx hb dJ9_floorMod_f86c9_20 (lv_at hl 0 rfl) ?_
        refine lv_lload_n (pc := 22) hx hb dJ9_floorMod_f86c9_22 rfl (lv_at hl 2 rfl) ?_
        refine lv_ladd (pc := 23) hx hb dJ9_floorMod_f86c9_23 ?_
        obtain rfl := Option.some.inj hf
        rw [hQ]
        exact q_lretr (pc := 24) hx hb hr hlocks rfl hS dJ9_floorMod_f86c9_24
  exact hgo _ _ rfl hP hS
/-! X2_bandOfZone -/
set_option maxRecDepth 100000 in
set_option maxHeartbeats 4000000 in
theorem c_Grid_bandOfZone (l : Launch) (D : va_G) (ci : Nat → ClassId) (A : Nat → Prop) (sa : Nat → Nat) (N : Nat) (Rw : va_W) (p1 : Int32) (r : Int32) (hf : f_Grid_bandOfZone N p1 = some r) : Met l yX2_bandOfZone wsX2_bandOfZone ({ frames := 0, cells := 0, slots := 0, locals := 0 }) (va_Pc [.int p1] (q_N D ci A sa (Rw))) (q_R (some (.int r))) 0 0 A := by
  refine q_ofW (cc := cX2_bandOfZone) (maxL := 5) (ret := (some .int)) [.int p1] (plainFor_of_name (by decide)) rfl (Nat.le_of_ble_eq_true rfl) ?_
  intro p e s m below meth c ls Q hQ hx hb hml hr hts hown hlocks hK hA hZ hP hD hS hl
  have hl : lv_has ls 5 [(0, .int p1)] := hl
  have hown : s.vm.findClass RX2 = some m.cls := hown
  have wn_43 : (Cond.fieldLinkNest "SheetNames$Grid" 50 "SheetNames" "ZONES_AHEAD" "[I" "SheetNames").before ([.int p1] : List Value).toArray s = true := (hZ.2.2.2.2.2.2.2.2.2.1 _ (List.mem_of_getElem? (i := 43) rfl)).use rfl
  unfold f_Grid_bandOfZone at hf
  have hgo : ∀ (H : Heap) (locs : List Loc), H = s.heap → va_P D vwCl (Rw) H → va_S A s.heap H locs → W p l e ({ frames := 0, cells := 0, slots := 0, locals := 0 } : Room) s m ([.int p1] : List Value).toArray below meth c H locs 0 0 Q (F0 m 0 ls []) := by
    intro H locs hH hP hS
    subst hH
    refine lv_iconst (pc := 0) (v := 0) hx hb dX2_bandOfZone_0 (by decide) ?_
    obtain ⟨v1, ev1, hf⟩ := q_nm_e hf
    refine q_topi ev1 ?_
    refine lv_istore_n (pc := 1) (lv' := [(1, .int v1), (0, .int p1)]) hx hb dX2_bandOfZone_1 rfl hl (by decide) rfl (fun ls hl => ?_)
    refine lv_bipush (pc := 2) (v := 43) hx hb dX2_bandOfZone_2 (by decide) ?_
    obtain ⟨v2, ev2, hf⟩ := q_nm_e hf
    refine q_topi ev2 ?_
    refine lv_istore_n (pc := 4) (lv' := [(2, .int v2), (1, .int v1), (0, .int p1)]) hx hb dX2_bandOfZone_4 rfl hl (by decide) rfl (fun ls hl => ?_)
    refine lv_iconst (pc := 5) (v := 0) hx hb dX2_bandOfZone_5 (by decide) ?_
    obtain ⟨v3, ev3, hf⟩ := q_nm_e hf
    refine q_topi ev3 ?_
    refine lv_istore_n (pc := 6) (lv' := [(3, .int v3), (2, .int v2), (1, .int v1), (0, .int p1)]) hx hb dX2_bandOfZone_6 rfl hl (by decide) rfl (fun ls hl => ?_)
    obtain ⟨v7, hm7, hf⟩ := q_b1_e hf
    have JE7 : ∀ (H : Heap) (locs : List Loc) (ls : Array Slot), H = s.heap → va_S A s.heap H locs → lv_has ls 5 [(1, .int v7)] → W p l e ({ frames := 0, cells := 0, slots := 0, locals := 0 } : Room) s m ([.int p1] : List Value).toArray below meth c H locs 0 0 Q (F0 m 54 ls []) := by
      intro H locs ls hHs hS hl
      subst hHs
      refine lv_iload_n (pc := 54) hx hb dX2_bandOfZone_54 rfl (lv_at hl 0 rfl) ?_
      obtain rfl := Option.some.inj hf
      rw [hQ]
      exact q_iretr (pc := 55) hx hb hr hlocks rfl hS dX2_bandOfZone_55
    have LP7 : ∀ (n7 : Nat) (v4 : Int32) (v5 : Int32) (v6 : Int32) (H : Heap) (locs : List Loc) (ls : Array Slot), f_Grid_bandOfZone_L7 p1 n7 v4 v5 v6 = some v7 → H = s.heap → va_S A s.heap H locs → lv_has ls 5 [(0, .int p1), (1, .int v4), (2, .int v5), (3, .int v6)] → W p l e ({ frames := 0, cells := 0, slots := 0, locals := 0 } : Room) s m ([.int p1] : List Value).toArray below meth c H locs 0 0 Q (F0 m 7 ls []) := by
      intro n7
      induction n7 with
      | zero => intro v4 v5 v6 H locs ls hf; rw [f_Grid_bandOfZone_L7] at hf; cases hf
      | succ n7 ih7 =>
        intro v4 v5 v6 H locs ls hf hHs hS hl
        subst hHs
        rw [f_Grid_bandOfZone_L7] at hf
        refine lv_iload_n (pc := 7) hx hb dX2_bandOfZone_7 rfl (lv_at hl 3 rfl) ?_
        refine lv_bipush (pc := 8) (v := 44) hx hb dX2_bandOfZone_8 (by decide) ?_
        refine q_icmp_ge (pc := 10) (tgt := 54) hx hb dX2_bandOfZone_10 (by decide) rfl hf (fun hf => ?_) (fun hf => ?_)
        · obtain rfl := Option.some.inj hf
          exact JE7 _ _ _ rfl hS (lv_sub hl [1] rfl)
        · refine lv_iload_n (pc := 13) hx hb dX2_bandOfZone_13 rfl (lv_at hl 1 rfl) ?_
          refine lv_iload_n (pc := 14) hx hb dX2_bandOfZone_14 rfl (lv_at hl 2 rfl) ?_
          refine q_icmp_ge (pc := 15) (tgt := 54) hx hb dX2_bandOfZone_15 (by decide) rfl hf (fun hf => ?_) (fun hf => ?_)
          · obtain rfl := Option.some.inj hf
            exact JE7 _ _ _ rfl hS (lv_sub hl [1] rfl)
          · refine lv_iload_n (pc := 18) hx hb dX2_bandOfZone_18 rfl (lv_at hl 1 rfl) ?_
            refine lv_iload_n (pc := 19) hx hb dX2_bandOfZone_19 rfl (lv_at hl 2 rfl) ?_
            refine lv_iadd (pc := 20) hx hb dX2_bandOfZone_20 ?_
            refine lv_iconst (pc := 21) (v := 1) hx hb dX2_bandOfZone_21 (by decide) ?_
            refine lv_iadd (pc := 22) hx hb dX2_bandOfZone_22 ?_
            refine lv_iconst (pc := 23) (v := 2) hx hb dX2_bandOfZone_23 (by decide) ?_
            refine q_idiv (pc := 24) hx hb dX2_bandOfZone_24 hf (fun v8 hf => ?_)
            refine lv_istore (pc := 25) (lv' := [(4, .int v8), (0, .int p1), (1, .int v4), (2, .int v5), (3, .int v6)]) hx hb dX2_bandOfZone_25 hl (by decide) rfl (fun ls hl => ?_)
            refine lv_iload_n (pc := 27) hx hb dX2_bandOfZone_27 rfl (lv_at hl 1 rfl) ?_
            refine va_getsN (pc := 28) hx hb hZ.2.2.1 hS hown wn_43 (fun _ h9 => h9) dX2_bandOfZone_28 ?_
            refine lv_iload (pc := 31) hx hb dX2_bandOfZone_31 (lv_at hl 0 rfl) ?_
            refine q_sald (pc := 33) (f := q_zA) (N := 44) hx hb hf hZ.2.2.2.1 hS dX2_bandOfZone_33 (fun v9 hf => ?_)
            obtain ⟨k48, ek48, hf⟩ := q_j2_e hf
            have J48 : ∀ (v10 : Int32) (v11 : Int32) (H : Heap) (locs : List Loc) (ls : Array Slot), k48 v10 v11 = some v7 → H = s.heap → va_S A s.heap H locs → lv_has ls 5 [(0, .int p1), (1, .int v10), (2, .int v11), (3, .int v6)] → W p l e ({ frames := 0, cells := 0, slots := 0, locals := 0 } : Room) s m ([.int p1] : List Value).toArray below meth c H locs 0 0 Q (F0 m 48 ls []) := by
              intro v10 v11 H locs ls hf hHs hS hl
              subst hHs
              have hf := (ek48 v10 v11).symm.trans hf
              obtain ⟨v12, ev12, hf⟩ := q_nm_e hf
              refine lv_iinc (pc := 48) (v := v12) (lv' := [(3, .int v12), (0, .int p1), (1, .int v10), (2, .int v11)]) hx hb dX2_bandOfZone_48 hl (k := 3) rfl (by rw [ev12]; rfl) (by decide) rfl (fun ls hl => ?_)
              refine lv_goto (pc := 51) (tgt := 7) hx hb dX2_bandOfZone_51 (by decide) ?_
              exact ih7 v10 v11 v12 _ _ _ hf rfl hS (lv_sub hl [1, 2, 3, 0] rfl)
            refine q_icmp_lt (pc := 34) (tgt := 43) hx hb dX2_bandOfZone_34 (by decide) rfl hf (fun hf => ?_) (fun hf => ?_)
            · refine lv_iload (pc := 43) hx hb dX2_bandOfZone_43 (lv_at hl 0 rfl) ?_
              refine lv_iconst (pc := 45) (v := 1) hx hb dX2_bandOfZone_45 (by decide) ?_
              refine lv_isub (pc := 46) hx hb dX2_bandOfZone_46 ?_
              obtain ⟨v13, ev13, hf⟩ := q_nm_e hf
              refine q_topi ev13 ?_
              refine lv_istore_n (pc := 47) (lv' := [(2, .int v13), (4, .int v8), (0, .int p1), (1, .int v4), (3, .int v6)]) hx hb dX2_bandOfZone_47 rfl hl (by decide) rfl (fun ls hl => ?_)
              exact J48 v4 v13 _ _ _ hf rfl hS (lv_sub hl [2, 3, 0, 4] rfl)
            · refine lv_iload (pc := 37) hx hb dX2_bandOfZone_37 (lv_at hl 0 rfl) ?_
              refine lv_istore_n (pc := 39) (lv' := [(1, .int v8), (4, .int v8), (0, .int p1), (2, .int v5), (3, .int v6)]) hx hb dX2_bandOfZone_39 rfl hl (by decide) rfl (fun ls hl => ?_)
              refine lv_goto (pc := 40) (tgt := 48) hx hb dX2_bandOfZone_40 (by decide) ?_
              exact J48 v8 v5 _ _ _ hf rfl hS (lv_sub hl [2, 0, 3, 4] rfl)
    exact LP7 N v1 v2 v3 _ _ _ hm7 rfl hS (lv_sub hl [3, 2, 1, 0] rfl)
  exact hgo _ _ rfl hP hS
/-! X2_columnsIn -/
set_option maxRecDepth 100000 in
set_option maxHeartbeats 4000000 in
theorem c_Grid_columnsIn (l : Launch) (D : va_G) (ci : Nat → ClassId) (A : Nat → Prop) (sa : Nat → Nat) (N : Nat) (Rw : va_W) (a_g : Nat) (a_g_rowCuts : Nat) (a_g_columnCuts : Nat) (a_g_bandRows : Nat) (a_g_zoneColumns : Nat) (a_g_rows : Nat) (a_g_sheets : Nat) (g_zoneColumns : Nat → Int32) (p1 : Int32) (p2 : Int32) (r : Int32) (hf : f_Grid_columnsIn g_zoneColumns p1 p2 = some r) : Met l yX2_columnsIn wsX2_columnsIn ({ frames := 0, cells := 0, slots := 0, locals := 0 }) (va_Pc [.ref a_g, .int p1, .int p2] (q_N D ci A sa ((a_g, .inr (2, [.ref a_g_rowCuts, .ref a_g_columnCuts, .ref a_g_bandRows, .ref a_g_zoneColumns, .ref a_g_rows, .ref a_g_sheets])) :: (a_g_zoneColumns, .inl (ci 0, 5, .inl g_zoneColumns)) :: Rw))) (q_R (some (.int r))) 0 0 A := by
  refine q_ofW (cc := cX2_columnsIn) (maxL := 3) (ret := (some .int)) [.ref a_g, .int p1, .int p2] (plainFor_of_name (by decide)) rfl (Nat.le_of_ble_eq_true rfl) ?_
  intro p e s m below meth c ls Q hQ hx hb hml hr hts hown hlocks hK hA hZ hP hD hS hl
  have hl : lv_has ls 3 [(0, .ref a_g), (1, .int p1), (2, .int p2)] := hl
  have hown : s.vm.findClass RX2 = some m.cls := hown
  have hinX2 : ∀ w ∈ wsX20, w ∈ wsX2_columnsIn := fun _ h => List.mem_cons_of_mem _ (inWX20 _ h)
  have w_1 := hts (Cond.fieldLink RX2 21 "SheetNames$Grid" "zoneColumns" "[I") (List.mem_cons_of_mem _ t_w783)
  unfold f_Grid_columnsIn at hf
  have hgo : ∀ (H : Heap) (locs : List Loc), H = s.heap → va_P D vwCl ((a_g, .inr (2, [.ref a_g_rowCuts, .ref a_g_columnCuts, .ref a_g_bandRows, .ref a_g_zoneColumns, .ref a_g_rows, .ref a_g_sheets])) :: (a_g_zoneColumns, .inl (ci 0, 5, .inl g_zoneColumns)) :: Rw) H → va_S A s.heap H locs → W p l e ({ frames := 0, cells := 0, slots := 0, locals := 0 } : Room) s m ([.ref a_g, .int p1, .int p2] : List Value).toArray below meth c H locs 0 0 Q (F0 m 0 ls []) := by
    intro H locs hH hP hS
    subst hH
    refine lv_aload_n (pc := 0) hx hb dX2_columnsIn_0 rfl (lv_at hl 0 rfl) ?_
    refine va_get (pc := 1) (D := D) (ci := 2) (v := .ref a_g_zoneColumns) (C := RX2) (T := TX2) (N := 6) hx hb hts hinX2 hown hK hP 0 rfl rfl 3 (by decide) w_1 (fun _ h9 => h9) rfl dX2_columnsIn_1 ?_
    refine lv_iload_n (pc := 4) hx hb dX2_columnsIn_4 rfl (lv_at hl 2 rfl) ?_
    refine q_iald (pc := 5) hx hb hK hP 1 0 hf rfl rfl dX2_columnsIn_5 (fun v1 hf => ?_)
    refine lv_aload_n (pc := 6) hx hb dX2_columnsIn_6 rfl (lv_at hl 0 rfl) ?_
    refine va_get (pc := 7) (D := D) (ci := 2) (v := .ref a_g_zoneColumns) (C := RX2) (T := TX2) (N := 6) hx hb hts hinX2 hown hK hP 0 rfl rfl 3 (by decide) w_1 (fun _ h9 => h9) rfl dX2_columnsIn_7 ?_
    refine lv_iload_n (pc := 10) hx hb dX2_columnsIn_10 rfl (lv_at hl 1 rfl) ?_
    refine q_iald (pc := 11) hx hb hK hP 1 0 hf rfl rfl dX2_columnsIn_11 (fun v2 hf => ?_)
    refine q_idiv (pc := 12) hx hb dX2_columnsIn_12 hf (fun v3 hf => ?_)
    obtain rfl := Option.some.inj hf
    rw [hQ]
    exact q_iretr (pc := 13) hx hb hr hlocks rfl hS dX2_columnsIn_13
  exact hgo _ _ rfl hP hS
/-! X2_multiply -/
set_option maxRecDepth 100000 in
set_option maxHeartbeats 4000000 in
theorem c_Grid_multiply (l : Launch) (D : va_G) (ci : Nat → ClassId) (A : Nat → Prop) (sa : Nat → Nat) (N : Nat) (Rw : va_W) (a_g : Nat) (a_g_rowCuts : Nat) (a_g_columnCuts : Nat) (a_g_bandRows : Nat) (a_g_zoneColumns : Nat) (a_g_rows : Nat) (a_g_sheets : Nat) (g_rowCuts : Nat → Int32) (g_columnCuts : Nat → Int32) (g_bandRows : Nat → Int32) (g_zoneColumns : Nat → Int32) (g_rows : Nat → Int32) (g_sheets : Nat → Int32) (o1 : Nat → Int32) (o2 : Nat → Int32) (o3 : Nat → Int32) (o4 : Nat → Int32) (hf : f_Grid_multiply N g_rowCuts g_columnCuts g_bandRows g_zoneColumns g_rows g_sheets = some (o1, o2, o3, o4)) : Met l yX2_multiply wsX2_multiply ({ frames := 0, cells := 0, slots := 0, locals := 0 }) (va_Pc [.ref a_g] (q_N D ci A sa ((a_g, .inr (2, [.ref a_g_rowCuts, .ref a_g_columnCuts, .ref a_g_bandRows, .ref a_g_zoneColumns, .ref a_g_rows, .ref a_g_sheets])) :: (a_g_rowCuts, .inl (ci 0, 5, .inl g_rowCuts)) :: (a_g_columnCuts, .inl (ci 0, 5, .inl g_columnCuts)) :: (a_g_bandRows, .inl (ci 0, 5, .inl g_bandRows)) :: (a_g_zoneColumns, .inl (ci 0, 5, .inl g_zoneColumns)) :: (a_g_rows, .inl (ci 0, 5, .inl g_rows)) :: (a_g_sheets, .inl (ci 0, 5, .inl g_sheets)) :: Rw))) (q_Q none (q_O D A ((a_g, .inr (2, [.ref a_g_rowCuts, .ref a_g_columnCuts, .ref a_g_bandRows, .ref a_g_zoneColumns, .ref a_g_rows, .ref a_g_sheets])) :: (a_g_rowCuts, .inl (ci 0, 5, .inl g_rowCuts)) :: (a_g_columnCuts, .inl (ci 0, 5, .inl g_columnCuts)) :: (a_g_bandRows, .inl (ci 0, 5, .inl o1)) :: (a_g_zoneColumns, .inl (ci 0, 5, .inl o2)) :: (a_g_rows, .inl (ci 0, 5, .inl o3)) :: (a_g_sheets, .inl (ci 0, 5, .inl o4)) :: Rw)) A) 0 0 A := by
  refine q_ofW (cc := cX2_multiply) (maxL := 4) (ret := none) [.ref a_g] (plainFor_of_name (by decide)) rfl (Nat.le_of_ble_eq_true rfl) ?_
  intro p e s m below meth c ls Q hQ hx hb hml hr hts hown hlocks hK hA hZ hP hD hS hl
  have hl : lv_has ls 4 [(0, .ref a_g)] := hl
  have hown : s.vm.findClass RX2 = some m.cls := hown
  have hinX2 : ∀ w ∈ wsX20, w ∈ wsX2_multiply := fun _ h => List.mem_cons_of_mem _ (inWX20 _ h)
  have w_1 := hts (Cond.fieldLink RX2 9 "SheetNames$Grid" "rowCuts" "[I") (List.mem_cons_of_mem _ t_w784)
  have w_2 := hts (Cond.fieldLink RX2 15 "SheetNames$Grid" "columnCuts" "[I") (List.mem_cons_of_mem _ t_w785)
  have w_3 := hts (Cond.fieldLink RX2 18 "SheetNames$Grid" "bandRows" "[I") (List.mem_cons_of_mem _ t_w786)
  have w_4 := hts (Cond.fieldLink RX2 21 "SheetNames$Grid" "zoneColumns" "[I") (List.mem_cons_of_mem _ t_w783)
  have w_5 := hts (Cond.fieldLink RX2 24 "SheetNames$Grid" "rows" "[I") (List.mem_cons_of_mem _ t_w787)
  have w_6 := hts (Cond.fieldLink RX2 27 "SheetNames$Grid" "sheets" "[I") (List.mem_cons_of_mem _ t_w788)
  unfold f_Grid_multiply at hf
  have hgo : ∀ (H : Heap) (locs : List Loc), H = s.heap → va_P D vwCl ((a_g, .inr (2, [.ref a_g_rowCuts, .ref a_g_columnCuts, .ref a_g_bandRows, .ref a_g_zoneColumns, .ref a_g_rows, .ref a_g_sheets])) :: (a_g_rowCuts, .inl (ci 0, 5, .inl g_rowCuts)) :: (a_g_columnCuts, .inl (ci 0, 5, .inl g_columnCuts)) :: (a_g_bandRows, .inl (ci 0, 5, .inl g_bandRows)) :: (a_g_zoneColumns, .inl (ci 0, 5, .inl g_zoneColumns)) :: (a_g_rows, .inl (ci 0, 5, .inl g_rows)) :: (a_g_sheets, .inl (ci 0, 5, .inl g_sheets)) :: Rw) H → va_S A s.heap H locs → W p l e ({ frames := 0, cells := 0, slots := 0, locals := 0 } : Room) s m ([.ref a_g] : List Value).toArray below meth c H locs 0 0 Q (F0 m 0 ls []) := by
    intro H locs hH hP hS
    refine lv_iconst (pc := 0) (v := 1) hx hb dX2_multiply_0 (by decide) ?_
    obtain ⟨v1, ev1, hf⟩ := q_nm_e hf
    refine q_topi ev1 ?_
    refine lv_istore_n (pc := 1) (lv' := [(1, .int v1), (0, .ref a_g)]) hx hb dX2_multiply_1 rfl hl (by decide) rfl (fun ls hl => ?_)
    refine lv_iconst (pc := 2) (v := 1) hx hb dX2_multiply_2 (by decide) ?_
    obtain ⟨v2, ev2, hf⟩ := q_nm_e hf
    refine q_topi ev2 ?_
    refine lv_istore_n (pc := 3) (lv' := [(2, .int v2), (1, .int v1), (0, .ref a_g)]) hx hb dX2_multiply_3 rfl hl (by decide) rfl (fun ls hl => ?_)
    refine lv_iconst (pc := 4) (v := 0) hx hb dX2_multiply_4 (by decide) ?_
    obtain ⟨v3, ev3, hf⟩ := q_nm_e hf
    refine q_topi ev3 ?_
    refine lv_istore_n (pc := 5) (lv' := [(3, .int v3), (2, .int v2), (1, .int v1), (0, .ref a_g)]) hx hb dX2_multiply_5 rfl hl (by decide) rfl (fun ls hl => ?_)
    obtain ⟨f11, f12, f13, f14, hm6, hf⟩ := q_b4_e hf
    have JE6 : ∀ (H : Heap) (locs : List Loc) (ls : Array Slot), va_P D vwCl ((a_g, .inr (2, [.ref a_g_rowCuts, .ref a_g_columnCuts, .ref a_g_bandRows, .ref a_g_zoneColumns, .ref a_g_rows, .ref a_g_sheets])) :: (a_g_rowCuts, .inl (ci 0, 5, .inl g_rowCuts)) :: (a_g_columnCuts, .inl (ci 0, 5, .inl g_columnCuts)) :: (a_g_bandRows, .inl (ci 0, 5, .inl f11)) :: (a_g_zoneColumns, .inl (ci 0, 5, .inl f12)) :: (a_g_rows, .inl (ci 0, 5, .inl f13)) :: (a_g_sheets, .inl (ci 0, 5, .inl f14)) :: Rw) H → va_D A ((a_g, .inr (2, [.ref a_g_rowCuts, .ref a_g_columnCuts, .ref a_g_bandRows, .ref a_g_zoneColumns, .ref a_g_rows, .ref a_g_sheets])) :: (a_g_rowCuts, .inl (ci 0, 5, .inl g_rowCuts)) :: (a_g_columnCuts, .inl (ci 0, 5, .inl g_columnCuts)) :: (a_g_bandRows, .inl (ci 0, 5, .inl f11)) :: (a_g_zoneColumns, .inl (ci 0, 5, .inl f12)) :: (a_g_rows, .inl (ci 0, 5, .inl f13)) :: (a_g_sheets, .inl (ci 0, 5, .inl f14)) :: Rw) → va_S A s.heap H locs → lv_has ls 4 [] → W p l e ({ frames := 0, cells := 0, slots := 0, locals := 0 } : Room) s m ([.ref a_g] : List Value).toArray below meth c H locs 0 0 Q (F0 m 76 ls []) := by
      intro H locs ls hP hD hS hl
      obtain ⟨e90, e91, e92, e93⟩ := q_inj4 (Option.some.inj hf)
      rw [hQ, ← e90, ← e91, ← e92, ← e93]
      exact q_vret (pc := 76) hx hb hr hlocks hP hD hS dX2_multiply_76
    have LP6 : ∀ (n6 : Nat) (v4 : Int32) (v5 : Int32) (v6 : Int32) (f7 : Nat → Int32) (f8 : Nat → Int32) (f9 : Nat → Int32) (f10 : Nat → Int32) (H : Heap) (locs : List Loc) (ls : Array Slot), f_Grid_multiply_L6 g_columnCuts g_rowCuts n6 v4 v5 v6 f7 f8 f9 f10 = some (f11, f12, f13, f14) → va_P D vwCl ((a_g, .inr (2, [.ref a_g_rowCuts, .ref a_g_columnCuts, .ref a_g_bandRows, .ref a_g_zoneColumns, .ref a_g_rows, .ref a_g_sheets])) :: (a_g_rowCuts, .inl (ci 0, 5, .inl g_rowCuts)) :: (a_g_columnCuts, .inl (ci 0, 5, .inl g_columnCuts)) :: (a_g_bandRows, .inl (ci 0, 5, .inl f7)) :: (a_g_zoneColumns, .inl (ci 0, 5, .inl f8)) :: (a_g_rows, .inl (ci 0, 5, .inl f9)) :: (a_g_sheets, .inl (ci 0, 5, .inl f10)) :: Rw) H → va_D A ((a_g, .inr (2, [.ref a_g_rowCuts, .ref a_g_columnCuts, .ref a_g_bandRows, .ref a_g_zoneColumns, .ref a_g_rows, .ref a_g_sheets])) :: (a_g_rowCuts, .inl (ci 0, 5, .inl g_rowCuts)) :: (a_g_columnCuts, .inl (ci 0, 5, .inl g_columnCuts)) :: (a_g_bandRows, .inl (ci 0, 5, .inl f7)) :: (a_g_zoneColumns, .inl (ci 0, 5, .inl f8)) :: (a_g_rows, .inl (ci 0, 5, .inl f9)) :: (a_g_sheets, .inl (ci 0, 5, .inl f10)) :: Rw) → va_S A s.heap H locs → lv_has ls 4 [(0, .ref a_g), (1, .int v4), (2, .int v5), (3, .int v6)] → W p l e ({ frames := 0, cells := 0, slots := 0, locals := 0 } : Room) s m ([.ref a_g] : List Value).toArray below meth c H locs 0 0 Q (F0 m 6 ls []) := by
      intro n6
      induction n6 with
      | zero => intro v4 v5 v6 f7 f8 f9 f10 H locs ls hf; rw [f_Grid_multiply_L6] at hf; cases hf
      | succ n6 ih6 =>
        intro v4 v5 v6 f7 f8 f9 f10 H locs ls hf hP hD hS hl
        rw [f_Grid_multiply_L6] at hf
        refine lv_iload_n (pc := 6) hx hb dX2_multiply_6 rfl (lv_at hl 3 rfl) ?_
        refine lv_iconst (pc := 7) (v := 4) hx hb dX2_multiply_7 (by decide) ?_
        refine q_icmp_gt (pc := 8) (tgt := 76) hx hb dX2_multiply_8 (by decide) rfl hf (fun hf => ?_) (fun hf => ?_)
        · obtain ⟨rfl, rfl, rfl, rfl⟩ := q_inj4 (Option.some.inj hf)
          exact JE6 _ _ _ hP hD hS (lv_sub hl [] rfl)
        · refine lv_iload_n (pc := 11) hx hb dX2_multiply_11 rfl (lv_at hl 1 rfl) ?_
          refine lv_aload_n (pc := 12) hx hb dX2_multiply_12 rfl (lv_at hl 0 rfl) ?_
          refine va_get (pc := 13) (D := D) (ci := 2) (v := .ref a_g_rowCuts) (C := RX2) (T := TX2) (N := 6) hx hb hts hinX2 hown hK hP 0 rfl rfl 0 (by decide) w_1 (fun _ h9 => h9) rfl dX2_multiply_13 ?_
          refine lv_iload_n (pc := 16) hx hb dX2_multiply_16 rfl (lv_at hl 3 rfl) ?_
          refine q_iald (pc := 17) hx hb hK hP 1 0 hf rfl rfl dX2_multiply_17 (fun v15 hf => ?_)
          refine lv_imul (pc := 18) hx hb dX2_multiply_18 ?_
          obtain ⟨v16, ev16, hf⟩ := q_nm_e hf
          refine q_topi ev16 ?_
          refine lv_istore_n (pc := 19) (lv' := [(1, .int v16), (0, .ref a_g), (2, .int v5), (3, .int v6)]) hx hb dX2_multiply_19 rfl hl (by decide) rfl (fun ls hl => ?_)
          refine lv_iload_n (pc := 20) hx hb dX2_multiply_20 rfl (lv_at hl 2 rfl) ?_
          refine lv_aload_n (pc := 21) hx hb dX2_multiply_21 rfl (lv_at hl 1 rfl) ?_
          refine va_get (pc := 22) (D := D) (ci := 2) (v := .ref a_g_columnCuts) (C := RX2) (T := TX2) (N := 6) hx hb hts hinX2 hown hK hP 0 rfl rfl 1 (by decide) w_2 (fun _ h9 => h9) rfl dX2_multiply_22 ?_
          refine lv_iload_n (pc := 25) hx hb dX2_multiply_25 rfl (lv_at hl 3 rfl) ?_
          refine q_iald (pc := 26) hx hb hK hP 2 0 hf rfl rfl dX2_multiply_26 (fun v17 hf => ?_)
          refine lv_imul (pc := 27) hx hb dX2_multiply_27 ?_
          obtain ⟨v18, ev18, hf⟩ := q_nm_e hf
          refine q_topi ev18 ?_
          refine lv_istore_n (pc := 28) (lv' := [(2, .int v18), (1, .int v16), (0, .ref a_g), (3, .int v6)]) hx hb dX2_multiply_28 rfl hl (by decide) rfl (fun ls hl => ?_)
          refine lv_aload_n (pc := 29) hx hb dX2_multiply_29 rfl (lv_at hl 2 rfl) ?_
          refine va_get (pc := 30) (D := D) (ci := 2) (v := .ref a_g_bandRows) (C := RX2) (T := TX2) (N := 6) hx hb hts hinX2 hown hK hP 0 rfl rfl 2 (by decide) w_3 (fun _ h9 => h9) rfl dX2_multiply_30 ?_
          refine lv_iload_n (pc := 33) hx hb dX2_multiply_33 rfl (lv_at hl 3 rfl) ?_
          refine lv_iload_n (pc := 34) hx hb dX2_multiply_34 rfl (lv_at hl 1 rfl) ?_
          refine q_iast (pc := 35) hx hb hK hP hD hS 3 0 hf rfl rfl dX2_multiply_35 (fun f19 H locs hf hP hD hS => ?_)
          obtain ⟨hP, hD⟩ : va_PD D A ((a_g, .inr (2, [.ref a_g_rowCuts, .ref a_g_columnCuts, .ref a_g_bandRows, .ref a_g_zoneColumns, .ref a_g_rows, .ref a_g_sheets])) :: (a_g_rowCuts, .inl (ci 0, 5, .inl g_rowCuts)) :: (a_g_columnCuts, .inl (ci 0, 5, .inl g_columnCuts)) :: (a_g_bandRows, .inl (ci 0, 5, .inl f19)) :: (a_g_zoneColumns, .inl (ci 0, 5, .inl f8)) :: (a_g_rows, .inl (ci 0, 5, .inl f9)) :: (a_g_sheets, .inl (ci 0, 5, .inl f10)) :: Rw) H := ⟨hP, hD⟩
          refine lv_aload_n (pc := 36) hx hb dX2_multiply_36 rfl (lv_at hl 2 rfl) ?_
          refine va_get (pc := 37) (D := D) (ci := 2) (v := .ref a_g_zoneColumns) (C := RX2) (T := TX2) (N := 6) hx hb hts hinX2 hown hK hP 0 rfl rfl 3 (by decide) w_4 (fun _ h9 => h9) rfl dX2_multiply_37 ?_
          refine lv_iload_n (pc := 40) hx hb dX2_multiply_40 rfl (lv_at hl 3 rfl) ?_
          refine lv_iload_n (pc := 41) hx hb dX2_multiply_41 rfl (lv_at hl 0 rfl) ?_
          refine q_iast (pc := 42) hx hb hK hP hD hS 4 0 hf rfl rfl dX2_multiply_42 (fun f20 H locs hf hP hD hS => ?_)
          obtain ⟨hP, hD⟩ : va_PD D A ((a_g, .inr (2, [.ref a_g_rowCuts, .ref a_g_columnCuts, .ref a_g_bandRows, .ref a_g_zoneColumns, .ref a_g_rows, .ref a_g_sheets])) :: (a_g_rowCuts, .inl (ci 0, 5, .inl g_rowCuts)) :: (a_g_columnCuts, .inl (ci 0, 5, .inl g_columnCuts)) :: (a_g_bandRows, .inl (ci 0, 5, .inl f19)) :: (a_g_zoneColumns, .inl (ci 0, 5, .inl f20)) :: (a_g_rows, .inl (ci 0, 5, .inl f9)) :: (a_g_sheets, .inl (ci 0, 5, .inl f10)) :: Rw) H := ⟨hP, hD⟩
          refine lv_aload_n (pc := 43) hx hb dX2_multiply_43 rfl (lv_at hl 2 rfl) ?_
          refine va_get (pc := 44) (D := D) (ci := 2) (v := .ref a_g_rows) (C := RX2) (T := TX2) (N := 6) hx hb hts hinX2 hown hK hP 0 rfl rfl 4 (by decide) w_5 (fun _ h9 => h9) rfl dX2_multiply_44 ?_
          refine lv_iload_n (pc := 47) hx hb dX2_multiply_47 rfl (lv_at hl 3 rfl) ?_
          refine lv_bipush (pc := 48) (v := 44) hx hb dX2_multiply_48 (by decide) ?_
          refine lv_iload_n (pc := 50) hx hb dX2_multiply_50 rfl (lv_at hl 1 rfl) ?_
          refine lv_imul (pc := 51) hx hb dX2_multiply_51 ?_
          refine lv_iconst (pc := 52) (v := 2) hx hb dX2_multiply_52 (by decide) ?_
          refine lv_iadd (pc := 53) hx hb dX2_multiply_53 ?_
          refine q_iast (pc := 54) hx hb hK hP hD hS 5 0 hf rfl rfl dX2_multiply_54 (fun f21 H locs hf hP hD hS => ?_)
          obtain ⟨hP, hD⟩ : va_PD D A ((a_g, .inr (2, [.ref a_g_rowCuts, .ref a_g_columnCuts, .ref a_g_bandRows, .ref a_g_zoneColumns, .ref a_g_rows, .ref a_g_sheets])) :: (a_g_rowCuts, .inl (ci 0, 5, .inl g_rowCuts)) :: (a_g_columnCuts, .inl (ci 0, 5, .inl g_columnCuts)) :: (a_g_bandRows, .inl (ci 0, 5, .inl f19)) :: (a_g_zoneColumns, .inl (ci 0, 5, .inl f20)) :: (a_g_rows, .inl (ci 0, 5, .inl f21)) :: (a_g_sheets, .inl (ci 0, 5, .inl f10)) :: Rw) H := ⟨hP, hD⟩
          refine lv_aload_n (pc := 55) hx hb dX2_multiply_55 rfl (lv_at hl 2 rfl) ?_
          refine va_get (pc := 56) (D := D) (ci := 2) (v := .ref a_g_sheets) (C := RX2) (T := TX2) (N := 6) hx hb hts hinX2 hown hK hP 0 rfl rfl 5 (by decide) w_6 (fun _ h9 => h9) rfl dX2_multiply_56 ?_
          refine lv_iload_n (pc := 59) hx hb dX2_multiply_59 rfl (lv_at hl 3 rfl) ?_
          refine lv_sipush (pc := 60) (v := 2130) hx hb dX2_multiply_60 (by decide) ?_
          refine lv_iload_n (pc := 63) hx hb dX2_multiply_63 rfl (lv_at hl 1 rfl) ?_
          refine lv_imul (pc := 64) hx hb dX2_multiply_64 ?_
          refine lv_iload_n (pc := 65) hx hb dX2_multiply_65 rfl (lv_at hl 0 rfl) ?_
          refine lv_imul (pc := 66) hx hb dX2_multiply_66 ?_
          refine lv_iconst (pc := 67) (v := 2) hx hb dX2_multiply_67 (by decide) ?_
          refine lv_iadd (pc := 68) hx hb dX2_multiply_68 ?_
          refine q_iast (pc := 69) hx hb hK hP hD hS 6 0 hf rfl rfl dX2_multiply_69 (fun f22 H locs hf hP hD hS => ?_)
          obtain ⟨hP, hD⟩ : va_PD D A ((a_g, .inr (2, [.ref a_g_rowCuts, .ref a_g_columnCuts, .ref a_g_bandRows, .ref a_g_zoneColumns, .ref a_g_rows, .ref a_g_sheets])) :: (a_g_rowCuts, .inl (ci 0, 5, .inl g_rowCuts)) :: (a_g_columnCuts, .inl (ci 0, 5, .inl g_columnCuts)) :: (a_g_bandRows, .inl (ci 0, 5, .inl f19)) :: (a_g_zoneColumns, .inl (ci 0, 5, .inl f20)) :: (a_g_rows, .inl (ci 0, 5, .inl f21)) :: (a_g_sheets, .inl (ci 0, 5, .inl f22)) :: Rw) H := ⟨hP, hD⟩
          obtain ⟨v23, ev23, hf⟩ := q_nm_e hf
          refine lv_iinc (pc := 70) (v := v23) (lv' := [(3, .int v23), (2, .int v18), (1, .int v16), (0, .ref a_g)]) hx hb dX2_multiply_70 hl (k := 3) rfl (by rw [ev23]; rfl) (by decide) rfl (fun ls hl => ?_)
          refine lv_goto (pc := 73) (tgt := 6) hx hb dX2_multiply_73 (by decide) ?_
          exact ih6 v16 v18 v23 f19 f20 f21 f22 _ _ _ hf hP hD hS (lv_sub hl [3, 2, 1, 0] rfl)
    exact LP6 N v1 v2 v3 g_bandRows g_zoneColumns g_rows g_sheets _ _ _ hm6 hP hD hS (lv_sub hl [3, 2, 1, 0] rfl)
  exact hgo _ _ rfl hP hS
/-! X2_copyFrom -/
set_option maxRecDepth 100000 in
set_option maxHeartbeats 4000000 in
theorem c_Grid_copyFrom (l : Launch) (D : va_G) (ci : Nat → ClassId) (A : Nat → Prop) (sa : Nat → Nat) (N : Nat) (Rw : va_W) (a_g : Nat) (a_g_rowCuts : Nat) (a_g_columnCuts : Nat) (a_g_bandRows : Nat) (a_g_zoneColumns : Nat) (a_g_rows : Nat) (a_g_sheets : Nat) (a_g2 : Nat) (a_g2_rowCuts : Nat) (a_g2_columnCuts : Nat) (a_g2_bandRows : Nat) (a_g2_zoneColumns : Nat) (a_g2_rows : Nat) (a_g2_sheets : Nat) (g_rowCuts : Nat → Int32) (g_columnCuts : Nat → Int32) (g_bandRows : Nat → Int32) (g_zoneColumns : Nat → Int32) (g_rows : Nat → Int32) (g_sheets : Nat → Int32) (g2_rowCuts : Nat → Int32) (g2_columnCuts : Nat → Int32) (o1 : Nat → Int32) (o2 : Nat → Int32) (o3 : Nat → Int32) (o4 : Nat → Int32) (o5 : Nat → Int32) (o6 : Nat → Int32) (hf : f_Grid_copyFrom N g_rowCuts g_columnCuts g_bandRows g_zoneColumns g_rows g_sheets g2_rowCuts g2_columnCuts = some (o1, o2, o3, o4, o5, o6)) : Met l yX2_copyFrom wsX2_copyFrom ({ frames := 1, cells := 0, slots := 0, locals := 40 }) (va_Pc [.ref a_g, .ref a_g2] (q_N D ci A sa ((a_g, .inr (2, [.ref a_g_rowCuts, .ref a_g_columnCuts, .ref a_g_bandRows, .ref a_g_zoneColumns, .ref a_g_rows, .ref a_g_sheets])) :: (a_g_rowCuts, .inl (ci 0, 5, .inl g_rowCuts)) :: (a_g_columnCuts, .inl (ci 0, 5, .inl g_columnCuts)) :: (a_g_bandRows, .inl (ci 0, 5, .inl g_bandRows)) :: (a_g_zoneColumns, .inl (ci 0, 5, .inl g_zoneColumns)) :: (a_g_rows, .inl (ci 0, 5, .inl g_rows)) :: (a_g_sheets, .inl (ci 0, 5, .inl g_sheets)) :: (a_g2, .inr (2, [.ref a_g2_rowCuts, .ref a_g2_columnCuts, .ref a_g2_bandRows, .ref a_g2_zoneColumns, .ref a_g2_rows, .ref a_g2_sheets])) :: (a_g2_rowCuts, .inl (ci 0, 5, .inl g2_rowCuts)) :: (a_g2_columnCuts, .inl (ci 0, 5, .inl g2_columnCuts)) :: Rw))) (q_Q none (q_O D A ((a_g, .inr (2, [.ref a_g_rowCuts, .ref a_g_columnCuts, .ref a_g_bandRows, .ref a_g_zoneColumns, .ref a_g_rows, .ref a_g_sheets])) :: (a_g_rowCuts, .inl (ci 0, 5, .inl o1)) :: (a_g_columnCuts, .inl (ci 0, 5, .inl o2)) :: (a_g_bandRows, .inl (ci 0, 5, .inl o3)) :: (a_g_zoneColumns, .inl (ci 0, 5, .inl o4)) :: (a_g_rows, .inl (ci 0, 5, .inl o5)) :: (a_g_sheets, .inl (ci 0, 5, .inl o6)) :: (a_g2, .inr (2, [.ref a_g2_rowCuts, .ref a_g2_columnCuts, .ref a_g2_bandRows, .ref a_g2_zoneColumns, .ref a_g2_rows, .ref a_g2_sheets])) :: (a_g2_rowCuts, .inl (ci 0, 5, .inl g2_rowCuts)) :: (a_g2_columnCuts, .inl (ci 0, 5, .inl g2_columnCuts)) :: Rw)) A) 0 0 A := by
  refine q_ofW (cc := cX2_copyFrom) (maxL := 2) (ret := none) [.ref a_g, .ref a_g2] (plainFor_of_name (by decide)) rfl (Nat.le_of_ble_eq_true rfl) ?_
  intro p e s m below meth c ls Q hQ hx hb hml hr hts hown hlocks hK hA hZ hP hD hS hl
  have hl : lv_has ls 2 [(0, .ref a_g), (1, .ref a_g2)] := hl
  have hown : s.vm.findClass RX2 = some m.cls := hown
  have hinX2 : ∀ w ∈ wsX20, w ∈ wsX2_copyFrom := fun _ h => List.mem_cons_of_mem _ (inWX20 _ h)
  have w_1 := hts (Cond.fieldLink RX2 9 "SheetNames$Grid" "rowCuts" "[I") (List.mem_cons_of_mem _ t_w784)
  have w_2 := hts (Cond.methodLink RX2 37 arraycopyName) (List.mem_cons_of_mem _ t_w789)
  have w_3 := hts (Cond.native arraycopyName) (List.mem_cons_of_mem _ t_w790)
  have w_4 := hts (Cond.static arraycopyName) (List.mem_cons_of_mem _ t_w791)
  have w_5 := hts (Cond.initialized "java/lang/System") (List.mem_cons_of_mem _ t_w792)
  have w_6 := hts (Cond.fieldLink RX2 15 "SheetNames$Grid" "columnCuts" "[I") (List.mem_cons_of_mem _ t_w785)
  unfold f_Grid_copyFrom at hf
  have hgo : ∀ (H : Heap) (locs : List Loc), H = s.heap → va_P D vwCl ((a_g, .inr (2, [.ref a_g_rowCuts, .ref a_g_columnCuts, .ref a_g_bandRows, .ref a_g_zoneColumns, .ref a_g_rows, .ref a_g_sheets])) :: (a_g_rowCuts, .inl (ci 0, 5, .inl g_rowCuts)) :: (a_g_columnCuts, .inl (ci 0, 5, .inl g_columnCuts)) :: (a_g_bandRows, .inl (ci 0, 5, .inl g_bandRows)) :: (a_g_zoneColumns, .inl (ci 0, 5, .inl g_zoneColumns)) :: (a_g_rows, .inl (ci 0, 5, .inl g_rows)) :: (a_g_sheets, .inl (ci 0, 5, .inl g_sheets)) :: (a_g2, .inr (2, [.ref a_g2_rowCuts, .ref a_g2_columnCuts, .ref a_g2_bandRows, .ref a_g2_zoneColumns, .ref a_g2_rows, .ref a_g2_sheets])) :: (a_g2_rowCuts, .inl (ci 0, 5, .inl g2_rowCuts)) :: (a_g2_columnCuts, .inl (ci 0, 5, .inl g2_columnCuts)) :: Rw) H → va_S A s.heap H locs → W p l e ({ frames := 1, cells := 0, slots := 0, locals := 40 } : Room) s m ([.ref a_g, .ref a_g2] : List Value).toArray below meth c H locs 0 0 Q (F0 m 0 ls []) := by
    intro H locs hH hP hS
    refine lv_aload_n (pc := 0) hx hb dX2_copyFrom_0 rfl (lv_at hl 1 rfl) ?_
    refine va_get (pc := 1) (D := D) (ci := 2) (v := .ref a_g2_rowCuts) (C := RX2) (T := TX2) (N := 6) hx hb hts hinX2 hown hK hP 7 rfl rfl 0 (by decide) w_1 (fun _ h9 => h9) rfl dX2_copyFrom_1 ?_
    refine lv_iconst (pc := 4) (v := 0) hx hb dX2_copyFrom_4 (by decide) ?_
    refine lv_aload_n (pc := 5) hx hb dX2_copyFrom_5 rfl (lv_at hl 0 rfl) ?_
    refine va_get (pc := 6) (D := D) (ci := 2) (v := .ref a_g_rowCuts) (C := RX2) (T := TX2) (N := 6) hx hb hts hinX2 hown hK hP 0 rfl rfl 0 (by decide) w_1 (fun _ h9 => h9) rfl dX2_copyFrom_6 ?_
    refine lv_iconst (pc := 9) (v := 0) hx hb dX2_copyFrom_9 (by decide) ?_
    refine lv_aload_n (pc := 10) hx hb dX2_copyFrom_10 rfl (lv_at hl 0 rfl) ?_
    refine va_get (pc := 11) (D := D) (ci := 2) (v := .ref a_g_rowCuts) (C := RX2) (T := TX2) (N := 6) hx hb hts hinX2 hown hK hP 0 rfl rfl 0 (by decide) w_1 (fun _ h9 => h9) rfl dX2_copyFrom_11 ?_
    refine va_alen (pc := 14) (v := 5) hx hb hK hP 1 0 rfl rfl rfl dX2_copyFrom_14 ?_
    obtain ⟨f1, ef1, hf⟩ := q_nm_e hf
    refine va_copyi (pc := 15) hx hb (hml.trans hl.1.symm) hown w_2 w_3 w_4 w_5 hK hP hD hS 8 1 0 0 rfl rfl rfl rfl rfl (by decide) (by decide) (by decide) (by decide) (by decide) (fun i _ => rfl) (Nat.le_of_ble_eq_true rfl) (by decide) dX2_copyFrom_15 (fun H locs hP hD hS => ?_)
    have ec : va_cpy g2_rowCuts g_rowCuts (0 : Int32).toNatClampNeg (0 : Int32).toNatClampNeg (5 : Int32).toNatClampNeg = f1 := by rw [ef1]; rfl
    have hP : va_P D vwCl ((a_g, .inr (2, [.ref a_g_rowCuts, .ref a_g_columnCuts, .ref a_g_bandRows, .ref a_g_zoneColumns, .ref a_g_rows, .ref a_g_sheets])) :: (a_g_rowCuts, .inl (ci 0, 5, .inl f1)) :: (a_g_columnCuts, .inl (ci 0, 5, .inl g_columnCuts)) :: (a_g_bandRows, .inl (ci 0, 5, .inl g_bandRows)) :: (a_g_zoneColumns, .inl (ci 0, 5, .inl g_zoneColumns)) :: (a_g_rows, .inl (ci 0, 5, .inl g_rows)) :: (a_g_sheets, .inl (ci 0, 5, .inl g_sheets)) :: (a_g2, .inr (2, [.ref a_g2_rowCuts, .ref a_g2_columnCuts, .ref a_g2_bandRows, .ref a_g2_zoneColumns, .ref a_g2_rows, .ref a_g2_sheets])) :: (a_g2_rowCuts, .inl (ci 0, 5, .inl g2_rowCuts)) :: (a_g2_columnCuts, .inl (ci 0, 5, .inl g2_columnCuts)) :: Rw) H := by rw [← ec]; exact hP
    have hD : va_D A ((a_g, .inr (2, [.ref a_g_rowCuts, .ref a_g_columnCuts, .ref a_g_bandRows, .ref a_g_zoneColumns, .ref a_g_rows, .ref a_g_sheets])) :: (a_g_rowCuts, .inl (ci 0, 5, .inl f1)) :: (a_g_columnCuts, .inl (ci 0, 5, .inl g_columnCuts)) :: (a_g_bandRows, .inl (ci 0, 5, .inl g_bandRows)) :: (a_g_zoneColumns, .inl (ci 0, 5, .inl g_zoneColumns)) :: (a_g_rows, .inl (ci 0, 5, .inl g_rows)) :: (a_g_sheets, .inl (ci 0, 5, .inl g_sheets)) :: (a_g2, .inr (2, [.ref a_g2_rowCuts, .ref a_g2_columnCuts, .ref a_g2_bandRows, .ref a_g2_zoneColumns, .ref a_g2_rows, .ref a_g2_sheets])) :: (a_g2_rowCuts, .inl (ci 0, 5, .inl g2_rowCuts)) :: (a_g2_columnCuts, .inl (ci 0, 5, .inl g2_columnCuts)) :: Rw) := by rw [← ec]; exact hD
    refine lv_aload_n (pc := 18) hx hb dX2_copyFrom_18 rfl (lv_at hl 1 rfl) ?_
    refine va_get (pc := 19) (D := D) (ci := 2) (v := .ref a_g2_columnCuts) (C := RX2) (T := TX2) (N := 6) hx hb hts hinX2 hown hK hP 7 rfl rfl 1 (by decide) w_6 (fun _ h9 => h9) rfl dX2_copyFrom_19 ?_
    refine lv_iconst (pc := 22) (v := 0) hx hb dX2_copyFrom_22 (by decide) ?_
    refine lv_aload_n (pc := 23) hx hb dX2_copyFrom_23 rfl (lv_at hl 0 rfl) ?_
    refine va_get (pc := 24) (D := D) (ci := 2) (v := .ref a_g_columnCuts) (C := RX2) (T := TX2) (N := 6) hx hb hts hinX2 hown hK hP 0 rfl rfl 1 (by decide) w_6 (fun _ h9 => h9) rfl dX2_copyFrom_24 ?_
    refine lv_iconst (pc := 27) (v := 0) hx hb dX2_copyFrom_27 (by decide) ?_
    refine lv_aload_n (pc := 28) hx hb dX2_copyFrom_28 rfl (lv_at hl 0 rfl) ?_
    refine va_get (pc := 29) (D := D) (ci := 2) (v := .ref a_g_columnCuts) (C := RX2) (T := TX2) (N := 6) hx hb hts hinX2 hown hK hP 0 rfl rfl 1 (by decide) w_6 (fun _ h9 => h9) rfl dX2_copyFrom_29 ?_
    refine va_alen (pc := 32) (v := 5) hx hb hK hP 2 0 rfl rfl rfl dX2_copyFrom_32 ?_
    obtain ⟨f2, ef2, hf⟩ := q_nm_e hf
    refine va_copyi (pc := 33) hx hb (hml.trans hl.1.symm) hown w_2 w_3 w_4 w_5 hK hP hD hS 9 2 0 0 rfl rfl rfl rfl rfl (by decide) (by decide) (by decide) (by decide) (by decide) (fun i _ => rfl) (Nat.le_of_ble_eq_true rfl) (by decide) dX2_copyFrom_33 (fun H locs hP hD hS => ?_)
    have ec : va_cpy g2_columnCuts g_columnCuts (0 : Int32).toNatClampNeg (0 : Int32).toNatClampNeg (5 : Int32).toNatClampNeg = f2 := by rw [ef2]; rfl
    have hP : va_P D vwCl ((a_g, .inr (2, [.ref a_g_rowCuts, .ref a_g_columnCuts, .ref a_g_bandRows, .ref a_g_zoneColumns, .ref a_g_rows, .ref a_g_sheets])) :: (a_g_rowCuts, .inl (ci 0, 5, .inl f1)) :: (a_g_columnCuts, .inl (ci 0, 5, .inl f2)) :: (a_g_bandRows, .inl (ci 0, 5, .inl g_bandRows)) :: (a_g_zoneColumns, .inl (ci 0, 5, .inl g_zoneColumns)) :: (a_g_rows, .inl (ci 0, 5, .inl g_rows)) :: (a_g_sheets, .inl (ci 0, 5, .inl g_sheets)) :: (a_g2, .inr (2, [.ref a_g2_rowCuts, .ref a_g2_columnCuts, .ref a_g2_bandRows, .ref a_g2_zoneColumns, .ref a_g2_rows, .ref a_g2_sheets])) :: (a_g2_rowCuts, .inl (ci 0, 5, .inl g2_rowCuts)) :: (a_g2_columnCuts, .inl (ci 0, 5, .inl g2_columnCuts)) :: Rw) H := by rw [← ec]; exact hP
    have hD : va_D A ((a_g, .inr (2, [.ref a_g_rowCuts, .ref a_g_columnCuts, .ref a_g_bandRows, .ref a_g_zoneColumns, .ref a_g_rows, .ref a_g_sheets])) :: (a_g_rowCuts, .inl (ci 0, 5, .inl f1)) :: (a_g_columnCuts, .inl (ci 0, 5, .inl f2)) :: (a_g_bandRows, .inl (ci 0, 5, .inl g_bandRows)) :: (a_g_zoneColumns, .inl (ci 0, 5, .inl g_zoneColumns)) :: (a_g_rows, .inl (ci 0, 5, .inl g_rows)) :: (a_g_sheets, .inl (ci 0, 5, .inl g_sheets)) :: (a_g2, .inr (2, [.ref a_g2_rowCuts, .ref a_g2_columnCuts, .ref a_g2_bandRows, .ref a_g2_zoneColumns, .ref a_g2_rows, .ref a_g2_sheets])) :: (a_g2_rowCuts, .inl (ci 0, 5, .inl g2_rowCuts)) :: (a_g2_columnCuts, .inl (ci 0, 5, .inl g2_columnCuts)) :: Rw) := by rw [← ec]; exact hD
    refine lv_aload_n (pc := 36) hx hb dX2_copyFrom_36 rfl (lv_at hl 0 rfl) ?_
    obtain ⟨f3, f4, f5, f6, hm37, hf⟩ := q_b4_e hf
    refine q_cV (pc := 37) (As := []) (rest := []) (v0 := none) ⟨hx, hb, hml, hown, hts⟩ hK hA hZ hP hD hS hl.1 [0, 1, 2, 3, 4, 5, 6, 7, 8, 9] 10 rfl ⟨rfl, rfl, rfl⟩ (c_Grid_multiply l D ci A sa N ((a_g2, .inr (2, [.ref a_g2_rowCuts, .ref a_g2_columnCuts, .ref a_g2_bandRows, .ref a_g2_zoneColumns, .ref a_g2_rows, .ref a_g2_sheets])) :: (a_g2_rowCuts, .inl (ci 0, 5, .inl g2_rowCuts)) :: (a_g2_columnCuts, .inl (ci 0, 5, .inl g2_columnCuts)) :: Rw) a_g a_g_rowCuts a_g_columnCuts a_g_bandRows a_g_zoneColumns a_g_rows a_g_sheets f1 f2 g_bandRows g_zoneColumns g_rows g_sheets f3 f4 f5 f6 hm37) 0 rfl rfl (cwV 0 hts gX2_copyFrom_X2_multiply rfl rfl rfl (by decide +kernel) ⟨Nat.le_of_ble_eq_true rfl, Nat.le_of_ble_eq_true rfl⟩) rfl rfl (Nat.le_of_ble_eq_true rfl) dX2_copyFrom_37 ⟨Nat.zero_le _, Nat.zero_le _⟩ [0, 1, 2, 3, 4, 5, 6, 7, 8, 9] 10 rfl ⟨rfl, rfl, rfl⟩ (fun H locs hP hD hS => ?_)
    obtain ⟨hP, hD⟩ : va_PD D A ((a_g, .inr (2, [.ref a_g_rowCuts, .ref a_g_columnCuts, .ref a_g_bandRows, .ref a_g_zoneColumns, .ref a_g_rows, .ref a_g_sheets])) :: (a_g_rowCuts, .inl (ci 0, 5, .inl f1)) :: (a_g_columnCuts, .inl (ci 0, 5, .inl f2)) :: (a_g_bandRows, .inl (ci 0, 5, .inl f3)) :: (a_g_zoneColumns, .inl (ci 0, 5, .inl f4)) :: (a_g_rows, .inl (ci 0, 5, .inl f5)) :: (a_g_sheets, .inl (ci 0, 5, .inl f6)) :: (a_g2, .inr (2, [.ref a_g2_rowCuts, .ref a_g2_columnCuts, .ref a_g2_bandRows, .ref a_g2_zoneColumns, .ref a_g2_rows, .ref a_g2_sheets])) :: (a_g2_rowCuts, .inl (ci 0, 5, .inl g2_rowCuts)) :: (a_g2_columnCuts, .inl (ci 0, 5, .inl g2_columnCuts)) :: Rw) H := ⟨hP, hD⟩
    obtain ⟨e90, e91, e92, e93, e94, e95⟩ := q_inj6 (Option.some.inj hf)
    rw [hQ, ← e90, ← e91, ← e92, ← e93, ← e94, ← e95]
    exact q_vret (pc := 40) hx hb hr hlocks hP hD hS dX2_copyFrom_40
  exact hgo _ _ rfl hP hS
/-! X2_deepestSheetsIf -/
set_option maxRecDepth 100000 in
set_option maxHeartbeats 4000000 in
theorem c_Grid_deepestSheetsIf (l : Launch) (D : va_G) (ci : Nat → ClassId) (A : Nat → Prop) (sa : Nat → Nat) (N : Nat) (Rw : va_W) (a_g : Nat) (a_g_rowCuts : Nat) (a_g_columnCuts : Nat) (a_g_bandRows : Nat) (a_g_zoneColumns : Nat) (a_g_rows : Nat) (a_g_sheets : Nat) (g_rowCuts : Nat → Int32) (g_columnCuts : Nat → Int32) (p1 : Int32) (p2 : Int32) (p3 : Int32) (r : Int64) (hf : f_Grid_deepestSheetsIf N g_rowCuts g_columnCuts p1 p2 p3 = some r) : Met l yX2_deepestSheetsIf wsX2_deepestSheetsIf ({ frames := 0, cells := 0, slots := 0, locals := 0 }) (va_Pc [.ref a_g, .int p1, .int p2, .int p3] (q_N D ci A sa ((a_g, .inr (2, [.ref a_g_rowCuts, .ref a_g_columnCuts, .ref a_g_bandRows, .ref a_g_zoneColumns, .ref a_g_rows, .ref a_g_sheets])) :: (a_g_rowCuts, .inl (ci 0, 5, .inl g_rowCuts)) :: (a_g_columnCuts, .inl (ci 0, 5, .inl g_columnCuts)) :: Rw))) (q_R (some (.long r))) 0 0 A := by
  refine q_ofW (cc := cX2_deepestSheetsIf) (maxL := 7) (ret := (some .long)) [.ref a_g, .int p1, .int p2, .int p3] (plainFor_of_name (by decide)) rfl (Nat.le_of_ble_eq_true rfl) ?_
  intro p e s m below meth c ls Q hQ hx hb hml hr hts hown hlocks hK hA hZ hP hD hS hl
  have hl : lv_has ls 7 [(0, .ref a_g), (1, .int p1), (2, .int p2), (3, .int p3)] := hl
  have hown : s.vm.findClass RX2 = some m.cls := hown
  have hinX2 : ∀ w ∈ wsX20, w ∈ wsX2_deepestSheetsIf := fun _ h => List.mem_cons_of_mem _ (inWX20 _ h)
  have w_1 := hts (Cond.constantLong RX2 33 (2130)) (List.mem_cons_of_mem _ t_w793)
  have w_2 := hts (Cond.fieldLink RX2 9 "SheetNames$Grid" "rowCuts" "[I") (List.mem_cons_of_mem _ t_w784)
  have w_3 := hts (Cond.fieldLink RX2 15 "SheetNames$Grid" "columnCuts" "[I") (List.mem_cons_of_mem _ t_w785)
  have w_4 := hts (Cond.constantLong RX2 35 (2)) (List.mem_cons_of_mem _ t_w794)
  unfold f_Grid_deepestSheetsIf at hf
  have hgo : ∀ (H : Heap) (locs : List Loc), H = s.heap → va_P D vwCl ((a_g, .inr (2, [.ref a_g_rowCuts, .ref a_g_columnCuts, .ref a_g_bandRows, .ref a_g_zoneColumns, .ref a_g_rows, .ref a_g_sheets])) :: (a_g_rowCuts, .inl (ci 0, 5, .inl g_rowCuts)) :: (a_g_columnCuts, .inl (ci 0, 5, .inl g_columnCuts)) :: Rw) H → va_S A s.heap H locs → W p l e ({ frames := 0, cells := 0, slots := 0, locals := 0 } : Room) s m ([.ref a_g, .int p1, .int p2, .int p3] : List Value).toArray below meth c H locs 0 0 Q (F0 m 0 ls []) := by
    intro H locs hH hP hS
    subst hH
    refine lv_ldc2 (pc := 0) (v := 2130) hx hb hown w_1 dX2_deepestSheetsIf_0 ?_
    obtain ⟨v1, ev1, hf⟩ := q_nm_e hf
    refine q_topl ev1 ?_
    refine lv_lstore (pc := 3) (lv' := [(4, .long v1), (0, .ref a_g), (1, .int p1), (2, .int p2), (3, .int p3)]) hx hb dX2_deepestSheetsIf_3 hl (by decide) rfl (fun ls hl => ?_)
    refine lv_iconst (pc := 5) (v := 1) hx hb dX2_deepestSheetsIf_5 (by decide) ?_
    obtain ⟨v2, ev2, hf⟩ := q_nm_e hf
    refine q_topi ev2 ?_
    refine lv_istore (pc := 6) (lv' := [(6, .int v2), (4, .long v1), (0, .ref a_g), (1, .int p1), (2, .int p2), (3, .int p3)]) hx hb dX2_deepestSheetsIf_6 hl (by decide) rfl (fun ls hl => ?_)
    obtain ⟨v5, hm8, hf⟩ := q_b1_e hf
    have JE8 : ∀ (H : Heap) (locs : List Loc) (ls : Array Slot), H = s.heap → va_S A s.heap H locs → lv_has ls 7 [(4, .long v5)] → W p l e ({ frames := 0, cells := 0, slots := 0, locals := 0 } : Room) s m ([.ref a_g, .int p1, .int p2, .int p3] : List Value).toArray below meth c H locs 0 0 Q (F0 m 54 ls []) := by
      intro H locs ls hHs hS hl
      subst hHs
      refine lv_lload (pc := 54) hx hb dX2_deepestSheetsIf_54 (lv_at hl 0 rfl) ?_
      refine lv_ldc2 (pc := 56) (v := 2) hx hb hown w_4 dX2_deepestSheetsIf_56 ?_
      refine lv_ladd (pc := 59) hx hb dX2_deepestSheetsIf_59 ?_
      obtain rfl := Option.some.inj hf
      rw [hQ]
      exact q_lretr (pc := 60) hx hb hr hlocks rfl hS dX2_deepestSheetsIf_60
    have LP8 : ∀ (n8 : Nat) (v3 : Int64) (v4 : Int32) (H : Heap) (locs : List Loc) (ls : Array Slot), f_Grid_deepestSheetsIf_L8 g_columnCuts g_rowCuts p1 p2 p3 n8 v3 v4 = some v5 → H = s.heap → va_S A s.heap H locs → lv_has ls 7 [(0, .ref a_g), (1, .int p1), (2, .int p2), (3, .int p3), (4, .long v3), (6, .int v4)] → W p l e ({ frames := 0, cells := 0, slots := 0, locals := 0 } : Room) s m ([.ref a_g, .int p1, .int p2, .int p3] : List Value).toArray below meth c H locs 0 0 Q (F0 m 8 ls []) := by
      intro n8
      induction n8 with
      | zero => intro v3 v4 H locs ls hf; rw [f_Grid_deepestSheetsIf_L8] at hf; cases hf
      | succ n8 ih8 =>
        intro v3 v4 H locs ls hf hHs hS hl
        subst hHs
        rw [f_Grid_deepestSheetsIf_L8] at hf
        refine lv_iload (pc := 8) hx hb dX2_deepestSheetsIf_8 (lv_at hl 5 rfl) ?_
        refine lv_iconst (pc := 10) (v := 4) hx hb dX2_deepestSheetsIf_10 (by decide) ?_
        refine q_icmp_gt (pc := 11) (tgt := 54) hx hb dX2_deepestSheetsIf_11 (by decide) rfl hf (fun hf => ?_) (fun hf => ?_)
        · obtain rfl := Option.some.inj hf
          exact JE8 _ _ _ rfl hS (lv_sub hl [4] rfl)
        · refine lv_lload (pc := 14) hx hb dX2_deepestSheetsIf_14 (lv_at hl 4 rfl) ?_
          refine lv_iload (pc := 16) hx hb dX2_deepestSheetsIf_16 (lv_at hl 5 rfl) ?_
          refine lv_iload_n (pc := 18) hx hb dX2_deepestSheetsIf_18 rfl (lv_at hl 1 rfl) ?_
          obtain ⟨k45, ek45, hf⟩ := q_j1_e hf
          have J45 : ∀ (v6 : Int64) (H : Heap) (locs : List Loc) (ls : Array Slot), k45 v6 = some v5 → H = s.heap → va_S A s.heap H locs → lv_has ls 7 [(0, .ref a_g), (1, .int p1), (2, .int p2), (3, .int p3), (6, .int v4)] → W p l e ({ frames := 0, cells := 0, slots := 0, locals := 0 } : Room) s m ([.ref a_g, .int p1, .int p2, .int p3] : List Value).toArray below meth c H locs 0 0 Q (F0 m 45 ls [.long v6, .long v3]) := by
            intro v6 H locs ls hf hHs hS hl
            subst hHs
            have hf := (ek45 v6).symm.trans hf
            refine lv_lmul (pc := 45) hx hb dX2_deepestSheetsIf_45 ?_
            obtain ⟨v7, ev7, hf⟩ := q_nm_e hf
            refine q_topl ev7 ?_
            refine lv_lstore (pc := 46) (lv' := [(4, .long v7), (0, .ref a_g), (1, .int p1), (2, .int p2), (3, .int p3), (6, .int v4)]) hx hb dX2_deepestSheetsIf_46 hl (by decide) rfl (fun ls hl => ?_)
            obtain ⟨v8, ev8, hf⟩ := q_nm_e hf
            refine lv_iinc (pc := 48) (v := v8) (lv' := [(6, .int v8), (4, .long v7), (0, .ref a_g), (1, .int p1), (2, .int p2), (3, .int p3)]) hx hb dX2_deepestSheetsIf_48 hl (k := 5) rfl (by rw [ev8]; rfl) (by decide) rfl (fun ls hl => ?_)
            refine lv_goto (pc := 51) (tgt := 8) hx hb dX2_deepestSheetsIf_51 (by decide) ?_
            exact ih8 v7 v8 _ _ _ hf rfl hS (lv_sub hl [2, 3, 4, 5, 1, 0] rfl)
          refine q_icmp_ne (pc := 19) (tgt := 29) hx hb dX2_deepestSheetsIf_19 (by decide) rfl hf (fun hf => ?_) (fun hf => ?_)
          · refine lv_aload_n (pc := 29) hx hb dX2_deepestSheetsIf_29 rfl (lv_at hl 0 rfl) ?_
            refine va_get (pc := 30) (D := D) (ci := 2) (v := .ref a_g_rowCuts) (C := RX2) (T := TX2) (N := 6) hx hb hts hinX2 hown hK hP 0 rfl rfl 0 (by decide) w_2 (fun _ h9 => h9) rfl dX2_deepestSheetsIf_30 ?_
            refine lv_iload (pc := 33) hx hb dX2_deepestSheetsIf_33 (lv_at hl 5 rfl) ?_
            refine q_iald (pc := 35) hx hb hK hP 1 0 hf rfl rfl dX2_deepestSheetsIf_35 (fun v9 hf => ?_)
            refine lv_aload_n (pc := 36) hx hb dX2_deepestSheetsIf_36 rfl (lv_at hl 0 rfl) ?_
            refine va_get (pc := 37) (D := D) (ci := 2) (v := .ref a_g_columnCuts) (C := RX2) (T := TX2) (N := 6) hx hb hts hinX2 hown hK hP 0 rfl rfl 1 (by decide) w_3 (fun _ h9 => h9) rfl dX2_deepestSheetsIf_37 ?_
            refine lv_iload (pc := 40) hx hb dX2_deepestSheetsIf_40 (lv_at hl 5 rfl) ?_
            refine q_iald (pc := 42) hx hb hK hP 2 0 hf rfl rfl dX2_deepestSheetsIf_42 (fun v10 hf => ?_)
            refine lv_imul (pc := 43) hx hb dX2_deepestSheetsIf_43 ?_
            refine lv_i2l (pc := 44) hx hb dX2_deepestSheetsIf_44 rfl ?_
            exact J45 ((v9 * v10).toInt64) _ _ _ hf rfl hS (lv_sub hl [0, 1, 2, 3, 5] rfl)
          · refine lv_iload_n (pc := 22) hx hb dX2_deepestSheetsIf_22 rfl (lv_at hl 2 rfl) ?_
            refine lv_iload_n (pc := 23) hx hb dX2_deepestSheetsIf_23 rfl (lv_at hl 3 rfl) ?_
            refine lv_imul (pc := 24) hx hb dX2_deepestSheetsIf_24 ?_
            refine lv_i2l (pc := 25) hx hb dX2_deepestSheetsIf_25 rfl ?_
            refine lv_goto (pc := 26) (tgt := 45) hx hb dX2_deepestSheetsIf_26 (by decide) ?_
            exact J45 ((p2 * p3).toInt64) _ _ _ hf rfl hS (lv_sub hl [0, 1, 2, 3, 5] rfl)
    exact LP8 N v1 v2 _ _ _ hm8 rfl hS (lv_sub hl [2, 3, 4, 5, 1, 0] rfl)
  exact hgo _ _ rfl hP hS
/-! X10_isLevel -/
set_option maxRecDepth 100000 in
set_option maxHeartbeats 4000000 in
theorem c_X_isLevel (l : Launch) (D : va_G) (ci : Nat → ClassId) (A : Nat → Prop) (sa : Nat → Nat) (N : Nat) (Rw : va_W) (p1 : Int32) (r : Int32) (hf : f_X_isLevel p1 = some r) : Met l yX10_isLevel wsX10_isLevel ({ frames := 0, cells := 0, slots := 0, locals := 0 }) (va_Pc [.int p1] (q_N D ci A sa (Rw))) (q_R (some (.int r))) 0 0 A := by
  refine q_ofW (cc := cX10_isLevel) (maxL := 1) (ret := (some .boolean)) [.int p1] (plainFor_of_name (by decide)) rfl (Nat.le_of_ble_eq_true rfl) ?_
  intro p e s m below meth c ls Q hQ hx hb hml hr hts hown hlocks hK hA hZ hP hD hS hl
  have hl : lv_has ls 1 [(0, .int p1)] := hl
  have hown : s.vm.findClass RX10 = some m.cls := hown
  unfold f_X_isLevel at hf
  have hgo : ∀ (H : Heap) (locs : List Loc), H = s.heap → va_P D vwCl (Rw) H → va_S A s.heap H locs → W p l e ({ frames := 0, cells := 0, slots := 0, locals := 0 } : Room) s m ([.int p1] : List Value).toArray below meth c H locs 0 0 Q (F0 m 0 ls []) := by
    intro H locs hH hP hS
    subst hH
    refine lv_iload_n (pc := 0) hx hb dX10_isLevel_0 rfl (lv_at hl 0 rfl) ?_
    refine q_if_lt (pc := 1) (tgt := 13) hx hb dX10_isLevel_1 (by decide) rfl hf (fun hf => ?_) (fun hf => ?_)
    · refine lv_iconst (pc := 13) (v := 0) hx hb dX10_isLevel_13 (by decide) ?_
      obtain rfl := Option.some.inj hf
      rw [hQ]
      exact q_zretr (pc := 14) hx hb hr rfl hlocks rfl hS dX10_isLevel_14
    · refine lv_iload_n (pc := 4) hx hb dX10_isLevel_4 rfl (lv_at hl 0 rfl) ?_
      refine lv_iconst (pc := 5) (v := 4) hx hb dX10_isLevel_5 (by decide) ?_
      refine q_icmp_gt (pc := 6) (tgt := 13) hx hb dX10_isLevel_6 (by decide) rfl hf (fun hf => ?_) (fun hf => ?_)
      · refine lv_iconst (pc := 13) (v := 0) hx hb dX10_isLevel_13 (by decide) ?_
        obtain rfl := Option.some.inj hf
        rw [hQ]
        exact q_zretr (pc := 14) hx hb hr rfl hlocks rfl hS dX10_isLevel_14
      · refine lv_iconst (pc := 9) (v := 1) hx hb dX10_isLevel_9 (by decide) ?_
        refine lv_goto (pc := 10) (tgt := 14) hx hb dX10_isLevel_10 (by decide) ?_
        obtain rfl := Option.some.inj hf
        rw [hQ]
        exact q_zretr (pc := 14) hx hb hr rfl hlocks rfl hS dX10_isLevel_14
  exact hgo _ _ rfl hP hS
/-! X2_hasSheet -/
set_option maxRecDepth 100000 in
set_option maxHeartbeats 4000000 in
theorem c_Grid_hasSheet (l : Launch) (D : va_G) (ci : Nat → ClassId) (A : Nat → Prop) (sa : Nat → Nat) (N : Nat) (Rw : va_W) (a_g : Nat) (a_g_rowCuts : Nat) (a_g_columnCuts : Nat) (a_g_bandRows : Nat) (a_g_zoneColumns : Nat) (a_g_rows : Nat) (a_g_sheets : Nat) (g_sheets : Nat → Int32) (p1 : Int32) (p2 : Int32) (r : Int32) (hf : f_Grid_hasSheet g_sheets p1 p2 = some r) : Met l yX2_hasSheet wsX2_hasSheet ({ frames := 1, cells := 0, slots := 0, locals := 20 }) (va_Pc [.ref a_g, .int p1, .int p2] (q_N D ci A sa ((a_g, .inr (2, [.ref a_g_rowCuts, .ref a_g_columnCuts, .ref a_g_bandRows, .ref a_g_zoneColumns, .ref a_g_rows, .ref a_g_sheets])) :: (a_g_sheets, .inl (ci 0, 5, .inl g_sheets)) :: Rw))) (q_R (some (.int r))) 0 0 A := by
  refine q_ofW (cc := cX2_hasSheet) (maxL := 3) (ret := (some .boolean)) [.ref a_g, .int p1, .int p2] (plainFor_of_name (by decide)) rfl (Nat.le_of_ble_eq_true rfl) ?_
  intro p e s m below meth c ls Q hQ hx hb hml hr hts hown hlocks hK hA hZ hP hD hS hl
  have hl : lv_has ls 3 [(0, .ref a_g), (1, .int p1), (2, .int p2)] := hl
  have hown : s.vm.findClass RX2 = some m.cls := hown
  have hinX2 : ∀ w ∈ wsX20, w ∈ wsX2_hasSheet := fun _ h => List.mem_cons_of_mem _ (inWX20 _ h)
  have w_1 := hts (Cond.fieldLink RX2 27 "SheetNames$Grid" "sheets" "[I") (List.mem_cons_of_mem _ t_w788)
  have w_2 := hts (Cond.static yX10_isLevel) (List.mem_cons_of_mem _ t_w328)
  have w_3 := hts (Cond.initialized RX10) (List.mem_cons_of_mem _ t_w317)
  unfold f_Grid_hasSheet at hf
  have hgo : ∀ (H : Heap) (locs : List Loc), H = s.heap → va_P D vwCl ((a_g, .inr (2, [.ref a_g_rowCuts, .ref a_g_columnCuts, .ref a_g_bandRows, .ref a_g_zoneColumns, .ref a_g_rows, .ref a_g_sheets])) :: (a_g_sheets, .inl (ci 0, 5, .inl g_sheets)) :: Rw) H → va_S A s.heap H locs → W p l e ({ frames := 1, cells := 0, slots := 0, locals := 20 } : Room) s m ([.ref a_g, .int p1, .int p2] : List Value).toArray below meth c H locs 0 0 Q (F0 m 0 ls []) := by
    intro H locs hH hP hS
    subst hH
    refine lv_iload_n (pc := 0) hx hb dX2_hasSheet_0 rfl (lv_at hl 1 rfl) ?_
    obtain ⟨v1, hm1, hf⟩ := q_b1_e hf
    refine q_cSNr (pc := 1) (As := [.int p1]) (rest := []) (v0 := (some (.int v1))) ⟨hx, hb, hml, hown, hts⟩ hK hA hZ hP hD hS hl.1 [] 2 rfl ⟨rfl, rfl, rfl⟩ (c_X_isLevel l D ci A sa N (Rw) p1 v1 hm1) ⟨va_cnB 1 hts gX2_hasSheet_X10_isLevel_n43 rfl rfl rfl (q_zm hZ 3 rfl) w_3 (by decide +kernel) ⟨Nat.le_of_ble_eq_true rfl, Nat.le_of_ble_eq_true rfl⟩, w_2, trivial⟩ rfl rfl (Nat.le_of_ble_eq_true rfl) dX2_hasSheet_1 ⟨Nat.zero_le _, Nat.zero_le _⟩ (fun locs hS => ?_)
    refine q_if_eq (pc := 4) (tgt := 25) hx hb dX2_hasSheet_4 (by decide) rfl hf (fun hf => ?_) (fun hf => ?_)
    · refine lv_iconst (pc := 25) (v := 0) hx hb dX2_hasSheet_25 (by decide) ?_
      obtain rfl := Option.some.inj hf
      rw [hQ]
      exact q_zretr (pc := 26) hx hb hr rfl hlocks rfl hS dX2_hasSheet_26
    · refine lv_iload_n (pc := 7) hx hb dX2_hasSheet_7 rfl (lv_at hl 2 rfl) ?_
      refine q_if_lt (pc := 8) (tgt := 25) hx hb dX2_hasSheet_8 (by decide) rfl hf (fun hf => ?_) (fun hf => ?_)
      · refine lv_iconst (pc := 25) (v := 0) hx hb dX2_hasSheet_25 (by decide) ?_
        obtain rfl := Option.some.inj hf
        rw [hQ]
        exact q_zretr (pc := 26) hx hb hr rfl hlocks rfl hS dX2_hasSheet_26
      · refine lv_iload_n (pc := 11) hx hb dX2_hasSheet_11 rfl (lv_at hl 2 rfl) ?_
        refine lv_aload_n (pc := 12) hx hb dX2_hasSheet_12 rfl (lv_at hl 0 rfl) ?_
        refine va_get (pc := 13) (D := D) (ci := 2) (v := .ref a_g_sheets) (C := RX2) (T := TX2) (N := 6) hx hb hts hinX2 hown hK hP 0 rfl rfl 5 (by decide) w_1 (fun _ h9 => h9) rfl dX2_hasSheet_13 ?_
        refine lv_iload_n (pc := 16) hx hb dX2_hasSheet_16 rfl (lv_at hl 1 rfl) ?_
        refine q_iald (pc := 17) hx hb hK hP 1 0 hf rfl rfl dX2_hasSheet_17 (fun v2 hf => ?_)
        refine q_icmp_ge (pc := 18) (tgt := 25) hx hb dX2_hasSheet_18 (by decide) rfl hf (fun hf => ?_) (fun hf => ?_)
        · refine lv_iconst (pc := 25) (v := 0) hx hb dX2_hasSheet_25 (by decide) ?_
          obtain rfl := Option.some.inj hf
          rw [hQ]
          exact q_zretr (pc := 26) hx hb hr rfl hlocks rfl hS dX2_hasSheet_26
        · refine lv_iconst (pc := 21) (v := 1) hx hb dX2_hasSheet_21 (by decide) ?_
          refine lv_goto (pc := 22) (tgt := 26) hx hb dX2_hasSheet_22 (by decide) ?_
          obtain rfl := Option.some.inj hf
          rw [hQ]
          exact q_zretr (pc := 26) hx hb hr rfl hlocks rfl hS dX2_hasSheet_26
  exact hgo _ _ rfl hP hS
/-! X2_isCapRow -/
set_option maxRecDepth 100000 in
set_option maxHeartbeats 4000000 in
theorem c_Grid_isCapRow (l : Launch) (D : va_G) (ci : Nat → ClassId) (A : Nat → Prop) (sa : Nat → Nat) (N : Nat) (Rw : va_W) (a_g : Nat) (a_g_rowCuts : Nat) (a_g_columnCuts : Nat) (a_g_bandRows : Nat) (a_g_zoneColumns : Nat) (a_g_rows : Nat) (a_g_sheets : Nat) (g_rows : Nat → Int32) (p1 : Int32) (p2 : Int32) (r : Int32) (hf : f_Grid_isCapRow g_rows p1 p2 = some r) : Met l yX2_isCapRow wsX2_isCapRow ({ frames := 0, cells := 0, slots := 0, locals := 0 }) (va_Pc [.ref a_g, .int p1, .int p2] (q_N D ci A sa ((a_g, .inr (2, [.ref a_g_rowCuts, .ref a_g_columnCuts, .ref a_g_bandRows, .ref a_g_zoneColumns, .ref a_g_rows, .ref a_g_sheets])) :: (a_g_rows, .inl (ci 0, 5, .inl g_rows)) :: Rw))) (q_R (some (.int r))) 0 0 A := by
  refine q_ofW (cc := cX2_isCapRow) (maxL := 3) (ret := (some .boolean)) [.ref a_g, .int p1, .int p2] (plainFor_of_name (by decide)) rfl (Nat.le_of_ble_eq_true rfl) ?_
  intro p e s m below meth c ls Q hQ hx hb hml hr hts hown hlocks hK hA hZ hP hD hS hl
  have hl : lv_has ls 3 [(0, .ref a_g), (1, .int p1), (2, .int p2)] := hl
  have hown : s.vm.findClass RX2 = some m.cls := hown
  have hinX2 : ∀ w ∈ wsX20, w ∈ wsX2_isCapRow := fun _ h => List.mem_cons_of_mem _ (inWX20 _ h)
  have w_1 := hts (Cond.fieldLink RX2 24 "SheetNames$Grid" "rows" "[I") (List.mem_cons_of_mem _ t_w787)
  unfold f_Grid_isCapRow at hf
  have hgo : ∀ (H : Heap) (locs : List Loc), H = s.heap → va_P D vwCl ((a_g, .inr (2, [.ref a_g_rowCuts, .ref a_g_columnCuts, .ref a_g_bandRows, .ref a_g_zoneColumns, .ref a_g_rows, .ref a_g_sheets])) :: (a_g_rows, .inl (ci 0, 5, .inl g_rows)) :: Rw) H → va_S A s.heap H locs → W p l e ({ frames := 0, cells := 0, slots := 0, locals := 0 } : Room) s m ([.ref a_g, .int p1, .int p2] : List Value).toArray below meth c H locs 0 0 Q (F0 m 0 ls []) := by
    intro H locs hH hP hS
    subst hH
    refine lv_iload_n (pc := 0) hx hb dX2_isCapRow_0 rfl (lv_at hl 2 rfl) ?_
    obtain ⟨k16, ek16, hf⟩ := q_j0_e hf
    have J16 : ∀  (H : Heap) (locs : List Loc) (ls : Array Slot), k16 = some r → H = s.heap → va_S A s.heap H locs → lv_has ls 3 [] → W p l e ({ frames := 0, cells := 0, slots := 0, locals := 0 } : Room) s m ([.ref a_g, .int p1, .int p2] : List Value).toArray below meth c H locs 0 0 Q (F0 m 16 ls []) := by
      intro  H locs ls hf hHs hS hl
      subst hHs
      have hf := (ek16).symm.trans hf
      refine lv_iconst (pc := 16) (v := 1) hx hb dX2_isCapRow_16 (by decide) ?_
      refine lv_goto (pc := 17) (tgt := 21) hx hb dX2_isCapRow_17 (by decide) ?_
      obtain rfl := Option.some.inj hf
      rw [hQ]
      exact q_zretr (pc := 21) hx hb hr rfl hlocks rfl hS dX2_isCapRow_21
    refine q_if_le (pc := 1) (tgt := 16) hx hb dX2_isCapRow_1 (by decide) rfl hf (fun hf => ?_) (fun hf => ?_)
    · exact J16  _ _ _ hf rfl hS (lv_sub hl [] rfl)
    · refine lv_iload_n (pc := 4) hx hb dX2_isCapRow_4 rfl (lv_at hl 2 rfl) ?_
      refine lv_aload_n (pc := 5) hx hb dX2_isCapRow_5 rfl (lv_at hl 0 rfl) ?_
      refine va_get (pc := 6) (D := D) (ci := 2) (v := .ref a_g_rows) (C := RX2) (T := TX2) (N := 6) hx hb hts hinX2 hown hK hP 0 rfl rfl 4 (by decide) w_1 (fun _ h9 => h9) rfl dX2_isCapRow_6 ?_
      refine lv_iload_n (pc := 9) hx hb dX2_isCapRow_9 rfl (lv_at hl 1 rfl) ?_
      refine q_iald (pc := 10) hx hb hK hP 1 0 hf rfl rfl dX2_isCapRow_10 (fun v1 hf => ?_)
      refine lv_iconst (pc := 11) (v := 1) hx hb dX2_isCapRow_11 (by decide) ?_
      refine lv_isub (pc := 12) hx hb dX2_isCapRow_12 ?_
      refine q_icmp_lt (pc := 13) (tgt := 20) hx hb dX2_isCapRow_13 (by decide) rfl hf (fun hf => ?_) (fun hf => ?_)
      · refine lv_iconst (pc := 20) (v := 0) hx hb dX2_isCapRow_20 (by decide) ?_
        obtain rfl := Option.some.inj hf
        rw [hQ]
        exact q_zretr (pc := 21) hx hb hr rfl hlocks rfl hS dX2_isCapRow_21
      · exact J16  _ _ _ hf rfl hS (lv_sub hl [] rfl)
  exact hgo _ _ rfl hP hS
/-! X2_rowOfKey -/
set_option maxRecDepth 100000 in
set_option maxHeartbeats 4000000 in
theorem c_Grid_rowOfKey (l : Launch) (D : va_G) (ci : Nat → ClassId) (A : Nat → Prop) (sa : Nat → Nat) (N : Nat) (Rw : va_W) (a_g : Nat) (a_g_rowCuts : Nat) (a_g_columnCuts : Nat) (a_g_bandRows : Nat) (a_g_zoneColumns : Nat) (a_g_rows : Nat) (a_g_sheets : Nat) (g_bandRows : Nat → Int32) (g_zoneColumns : Nat → Int32) (g_rows : Nat → Int32) (g_sheets : Nat → Int32) (p1 : Int32) (p2 : Int32) (r : Int32) (hf : f_Grid_rowOfKey N g_bandRows g_zoneColumns g_rows g_sheets p1 p2 = some r) : Met l yX2_rowOfKey wsX2_rowOfKey ({ frames := 1, cells := 0, slots := 0, locals := 24 }) (va_Pc [.ref a_g, .int p1, .int p2] (q_N D ci A sa ((a_g, .inr (2, [.ref a_g_rowCuts, .ref a_g_columnCuts, .ref a_g_bandRows, .ref a_g_zoneColumns, .ref a_g_rows, .ref a_g_sheets])) :: (a_g_bandRows, .inl (ci 0, 5, .inl g_bandRows)) :: (a_g_zoneColumns, .inl (ci 0, 5, .inl g_zoneColumns)) :: (a_g_rows, .inl (ci 0, 5, .inl g_rows)) :: (a_g_sheets, .inl (ci 0, 5, .inl g_sheets)) :: Rw))) (q_R (some (.int r))) 0 0 A := by
  refine q_ofW (cc := cX2_rowOfKey) (maxL := 6) (ret := (some .int)) [.ref a_g, .int p1, .int p2] (plainFor_of_name (by decide)) rfl (Nat.le_of_ble_eq_true rfl) ?_
  intro p e s m below meth c ls Q hQ hx hb hml hr hts hown hlocks hK hA hZ hP hD hS hl
  have hl : lv_has ls 6 [(0, .ref a_g), (1, .int p1), (2, .int p2)] := hl
  have hown : s.vm.findClass RX2 = some m.cls := hown
  have hinX2 : ∀ w ∈ wsX20, w ∈ wsX2_rowOfKey := fun _ h => List.mem_cons_of_mem _ (inWX20 _ h)
  have w_1 := hts (Cond.fieldLink RX2 27 "SheetNames$Grid" "sheets" "[I") (List.mem_cons_of_mem _ t_w788)
  have w_2 := hts (Cond.fieldLink RX2 24 "SheetNames$Grid" "rows" "[I") (List.mem_cons_of_mem _ t_w787)
  have w_3 := hts (Cond.fieldLink RX2 18 "SheetNames$Grid" "bandRows" "[I") (List.mem_cons_of_mem _ t_w786)
  have w_4 := hts (Cond.fieldLink RX2 21 "SheetNames$Grid" "zoneColumns" "[I") (List.mem_cons_of_mem _ t_w783)
  have wn_42 : (Cond.fieldLinkNest "SheetNames$Grid" 47 "SheetNames" "BAND_ZONES" "[I" "SheetNames").before ([.ref a_g, .int p1, .int p2] : List Value).toArray s = true := (hZ.2.2.2.2.2.2.2.2.2.1 _ (List.mem_of_getElem? (i := 42) rfl)).use rfl
  have wn_43 : (Cond.fieldLinkNest "SheetNames$Grid" 50 "SheetNames" "ZONES_AHEAD" "[I" "SheetNames").before ([.ref a_g, .int p1, .int p2] : List Value).toArray s = true := (hZ.2.2.2.2.2.2.2.2.2.1 _ (List.mem_of_getElem? (i := 43) rfl)).use rfl
  unfold f_Grid_rowOfKey at hf
  have hgo : ∀ (H : Heap) (locs : List Loc), H = s.heap → va_P D vwCl ((a_g, .inr (2, [.ref a_g_rowCuts, .ref a_g_columnCuts, .ref a_g_bandRows, .ref a_g_zoneColumns, .ref a_g_rows, .ref a_g_sheets])) :: (a_g_bandRows, .inl (ci 0, 5, .inl g_bandRows)) :: (a_g_zoneColumns, .inl (ci 0, 5, .inl g_zoneColumns)) :: (a_g_rows, .inl (ci 0, 5, .inl g_rows)) :: (a_g_sheets, .inl (ci 0, 5, .inl g_sheets)) :: Rw) H → va_S A s.heap H locs → W p l e ({ frames := 1, cells := 0, slots := 0, locals := 24 } : Room) s m ([.ref a_g, .int p1, .int p2] : List Value).toArray below meth c H locs 0 0 Q (F0 m 0 ls []) := by
    intro H locs hH hP hS
    subst hH
    refine lv_iload_n (pc := 0) hx hb dX2_rowOfKey_0 rfl (lv_at hl 2 rfl) ?_
    refine q_if_gt (pc := 1) (tgt := 6) hx hb dX2_rowOfKey_1 (by decide) rfl hf (fun hf => ?_) (fun hf => ?_)
    · refine lv_iload_n (pc := 6) hx hb dX2_rowOfKey_6 rfl (lv_at hl 2 rfl) ?_
      refine lv_aload_n (pc := 7) hx hb dX2_rowOfKey_7 rfl (lv_at hl 0 rfl) ?_
      refine va_get (pc := 8) (D := D) (ci := 2) (v := .ref a_g_sheets) (C := RX2) (T := TX2) (N := 6) hx hb hts hinX2 hown hK hP 0 rfl rfl 5 (by decide) w_1 (fun _ h9 => h9) rfl dX2_rowOfKey_8 ?_
      refine lv_iload_n (pc := 11) hx hb dX2_rowOfKey_11 rfl (lv_at hl 1 rfl) ?_
      refine q_iald (pc := 12) hx hb hK hP 4 0 hf rfl rfl dX2_rowOfKey_12 (fun v1 hf => ?_)
      refine lv_iconst (pc := 13) (v := 1) hx hb dX2_rowOfKey_13 (by decide) ?_
      refine lv_isub (pc := 14) hx hb dX2_rowOfKey_14 ?_
      refine q_icmp_lt (pc := 15) (tgt := 27) hx hb dX2_rowOfKey_15 (by decide) rfl hf (fun hf => ?_) (fun hf => ?_)
      · refine lv_aload_n (pc := 27) hx hb dX2_rowOfKey_27 rfl (lv_at hl 0 rfl) ?_
        refine va_get (pc := 28) (D := D) (ci := 2) (v := .ref a_g_bandRows) (C := RX2) (T := TX2) (N := 6) hx hb hts hinX2 hown hK hP 0 rfl rfl 2 (by decide) w_3 (fun _ h9 => h9) rfl dX2_rowOfKey_28 ?_
        refine lv_iload_n (pc := 31) hx hb dX2_rowOfKey_31 rfl (lv_at hl 1 rfl) ?_
        refine q_iald (pc := 32) hx hb hK hP 1 0 hf rfl rfl dX2_rowOfKey_32 (fun v2 hf => ?_)
        refine lv_aload_n (pc := 33) hx hb dX2_rowOfKey_33 rfl (lv_at hl 0 rfl) ?_
        refine va_get (pc := 34) (D := D) (ci := 2) (v := .ref a_g_zoneColumns) (C := RX2) (T := TX2) (N := 6) hx hb hts hinX2 hown hK hP 0 rfl rfl 3 (by decide) w_4 (fun _ h9 => h9) rfl dX2_rowOfKey_34 ?_
        refine lv_iload_n (pc := 37) hx hb dX2_rowOfKey_37 rfl (lv_at hl 1 rfl) ?_
        refine q_iald (pc := 38) hx hb hK hP 2 0 hf rfl rfl dX2_rowOfKey_38 (fun v3 hf => ?_)
        refine lv_imul (pc := 39) hx hb dX2_rowOfKey_39 ?_
        obtain ⟨v4, ev4, hf⟩ := q_nm_e hf
        refine q_topi ev4 ?_
        refine lv_istore_n (pc := 40) (lv' := [(3, .int v4), (0, .ref a_g), (1, .int p1), (2, .int p2)]) hx hb dX2_rowOfKey_40 rfl hl (by decide) rfl (fun ls hl => ?_)
        refine lv_iload_n (pc := 41) hx hb dX2_rowOfKey_41 rfl (lv_at hl 3 rfl) ?_
        refine lv_iconst (pc := 42) (v := 1) hx hb dX2_rowOfKey_42 (by decide) ?_
        refine lv_isub (pc := 43) hx hb dX2_rowOfKey_43 ?_
        refine lv_iload_n (pc := 44) hx hb dX2_rowOfKey_44 rfl (lv_at hl 0 rfl) ?_
        refine q_idiv (pc := 45) hx hb dX2_rowOfKey_45 hf (fun v5 hf => ?_)
        obtain ⟨v6, hm46, hf⟩ := q_b1_e hf
        refine q_cSr (pc := 46) (As := [.int v5]) (rest := []) (v0 := (some (.int v6))) ⟨hx, hb, hml, hown, hts⟩ hK hA hZ hP hD hS hl.1 [] 5 rfl ⟨rfl, rfl, rfl⟩ (c_Grid_bandOfZone l D ci A sa N (Rw) v5 v6 hm46) (va_cwS 1 hts gX2_rowOfKey_X2_bandOfZone rfl rfl rfl (by decide +kernel) ⟨Nat.le_of_ble_eq_true rfl, Nat.le_of_ble_eq_true rfl⟩) rfl rfl (Nat.le_of_ble_eq_true rfl) dX2_rowOfKey_46 ⟨Nat.zero_le _, Nat.zero_le _⟩ (fun locs hS => ?_)
        refine lv_istore (pc := 49) (lv' := [(4, .int v6), (3, .int v4), (0, .ref a_g), (1, .int p1), (2, .int p2)]) hx hb dX2_rowOfKey_49 hl (by decide) rfl (fun ls hl => ?_)
        refine lv_iload_n (pc := 51) hx hb dX2_rowOfKey_51 rfl (lv_at hl 4 rfl) ?_
        refine lv_iconst (pc := 52) (v := 1) hx hb dX2_rowOfKey_52 (by decide) ?_
        refine lv_isub (pc := 53) hx hb dX2_rowOfKey_53 ?_
        refine va_getsN (pc := 54) hx hb hZ.2.2.1 hS hown wn_43 (fun _ h9 => h9) dX2_rowOfKey_54 ?_
        refine lv_iload (pc := 57) hx hb dX2_rowOfKey_57 (lv_at hl 0 rfl) ?_
        refine q_sald (pc := 59) (f := q_zA) (N := 44) hx hb hf hZ.2.2.2.1 hS dX2_rowOfKey_59 (fun v7 hf => ?_)
        refine lv_iload_n (pc := 60) hx hb dX2_rowOfKey_60 rfl (lv_at hl 1 rfl) ?_
        refine lv_imul (pc := 61) hx hb dX2_rowOfKey_61 ?_
        refine lv_isub (pc := 62) hx hb dX2_rowOfKey_62 ?_
        obtain ⟨v8, ev8, hf⟩ := q_nm_e hf
        refine q_topi ev8 ?_
        refine lv_istore (pc := 63) (lv' := [(5, .int v8), (4, .int v6), (3, .int v4), (0, .ref a_g), (1, .int p1), (2, .int p2)]) hx hb dX2_rowOfKey_63 hl (by decide) rfl (fun ls hl => ?_)
        refine lv_iconst (pc := 65) (v := 1) hx hb dX2_rowOfKey_65 (by decide) ?_
        refine lv_iload (pc := 66) hx hb dX2_rowOfKey_66 (lv_at hl 1 rfl) ?_
        refine lv_aload_n (pc := 68) hx hb dX2_rowOfKey_68 rfl (lv_at hl 3 rfl) ?_
        refine va_get (pc := 69) (D := D) (ci := 2) (v := .ref a_g_bandRows) (C := RX2) (T := TX2) (N := 6) hx hb hts hinX2 hown hK hP 0 rfl rfl 2 (by decide) w_3 (fun _ h9 => h9) rfl dX2_rowOfKey_69 ?_
        refine lv_iload_n (pc := 72) hx hb dX2_rowOfKey_72 rfl (lv_at hl 4 rfl) ?_
        refine q_iald (pc := 73) hx hb hK hP 1 0 hf rfl rfl dX2_rowOfKey_73 (fun v9 hf => ?_)
        refine lv_imul (pc := 74) hx hb dX2_rowOfKey_74 ?_
        refine lv_iadd (pc := 75) hx hb dX2_rowOfKey_75 ?_
        refine lv_iload (pc := 76) hx hb dX2_rowOfKey_76 (lv_at hl 0 rfl) ?_
        refine va_getsN (pc := 78) hx hb hZ.1 hS hown wn_42 (fun _ h9 => h9) dX2_rowOfKey_78 ?_
        refine lv_iload (pc := 81) hx hb dX2_rowOfKey_81 (lv_at hl 1 rfl) ?_
        refine q_sald (pc := 83) (f := q_bZ) (N := 44) hx hb hf hZ.2.1 hS dX2_rowOfKey_83 (fun v10 hf => ?_)
        refine lv_aload_n (pc := 84) hx hb dX2_rowOfKey_84 rfl (lv_at hl 3 rfl) ?_
        refine va_get (pc := 85) (D := D) (ci := 2) (v := .ref a_g_zoneColumns) (C := RX2) (T := TX2) (N := 6) hx hb hts hinX2 hown hK hP 0 rfl rfl 3 (by decide) w_4 (fun _ h9 => h9) rfl dX2_rowOfKey_85 ?_
        refine lv_iload_n (pc := 88) hx hb dX2_rowOfKey_88 rfl (lv_at hl 4 rfl) ?_
        refine q_iald (pc := 89) hx hb hK hP 2 0 hf rfl rfl dX2_rowOfKey_89 (fun v11 hf => ?_)
        refine lv_imul (pc := 90) hx hb dX2_rowOfKey_90 ?_
        refine q_idiv (pc := 91) hx hb dX2_rowOfKey_91 hf (fun v12 hf => ?_)
        refine lv_iadd (pc := 92) hx hb dX2_rowOfKey_92 ?_
        obtain rfl := Option.some.inj hf
        rw [hQ]
        exact q_iretr (pc := 93) hx hb hr hlocks rfl hS dX2_rowOfKey_93
      · refine lv_aload_n (pc := 18) hx hb dX2_rowOfKey_18 rfl (lv_at hl 0 rfl) ?_
        refine va_get (pc := 19) (D := D) (ci := 2) (v := .ref a_g_rows) (C := RX2) (T := TX2) (N := 6) hx hb hts hinX2 hown hK hP 0 rfl rfl 4 (by decide) w_2 (fun _ h9 => h9) rfl dX2_rowOfKey_19 ?_
        refine lv_iload_n (pc := 22) hx hb dX2_rowOfKey_22 rfl (lv_at hl 1 rfl) ?_
        refine q_iald (pc := 23) hx hb hK hP 3 0 hf rfl rfl dX2_rowOfKey_23 (fun v13 hf => ?_)
        refine lv_iconst (pc := 24) (v := 1) hx hb dX2_rowOfKey_24 (by decide) ?_
        refine lv_isub (pc := 25) hx hb dX2_rowOfKey_25 ?_
        obtain rfl := Option.some.inj hf
        rw [hQ]
        exact q_iretr (pc := 26) hx hb hr hlocks rfl hS dX2_rowOfKey_26
    · refine lv_iconst (pc := 4) (v := 0) hx hb dX2_rowOfKey_4 (by decide) ?_
      obtain rfl := Option.some.inj hf
      rw [hQ]
      exact q_iretr (pc := 5) hx hb hr hlocks rfl hS dX2_rowOfKey_5
  exact hgo _ _ rfl hP hS
/-! X2_rowStart -/
set_option maxRecDepth 100000 in
set_option maxHeartbeats 4000000 in
theorem c_Grid_rowStart (l : Launch) (D : va_G) (ci : Nat → ClassId) (A : Nat → Prop) (sa : Nat → Nat) (N : Nat) (Rw : va_W) (a_g : Nat) (a_g_rowCuts : Nat) (a_g_columnCuts : Nat) (a_g_bandRows : Nat) (a_g_zoneColumns : Nat) (a_g_rows : Nat) (a_g_sheets : Nat) (g_bandRows : Nat → Int32) (g_zoneColumns : Nat → Int32) (g_rows : Nat → Int32) (g_sheets : Nat → Int32) (p1 : Int32) (p2 : Int32) (r : Int32) (hf : f_Grid_rowStart g_bandRows g_zoneColumns g_rows g_sheets p1 p2 = some r) : Met l yX2_rowStart wsX2_rowStart ({ frames := 0, cells := 0, slots := 0, locals := 0 }) (va_Pc [.ref a_g, .int p1, .int p2] (q_N D ci A sa ((a_g, .inr (2, [.ref a_g_rowCuts, .ref a_g_columnCuts, .ref a_g_bandRows, .ref a_g_zoneColumns, .ref a_g_rows, .ref a_g_sheets])) :: (a_g_bandRows, .inl (ci 0, 5, .inl g_bandRows)) :: (a_g_zoneColumns, .inl (ci 0, 5, .inl g_zoneColumns)) :: (a_g_rows, .inl (ci 0, 5, .inl g_rows)) :: (a_g_sheets, .inl (ci 0, 5, .inl g_sheets)) :: Rw))) (q_R (some (.int r))) 0 0 A := by
  refine q_ofW (cc := cX2_rowStart) (maxL := 6) (ret := (some .int)) [.ref a_g, .int p1, .int p2] (plainFor_of_name (by decide)) rfl (Nat.le_of_ble_eq_true rfl) ?_
  intro p e s m below meth c ls Q hQ hx hb hml hr hts hown hlocks hK hA hZ hP hD hS hl
  have hl : lv_has ls 6 [(0, .ref a_g), (1, .int p1), (2, .int p2)] := hl
  have hown : s.vm.findClass RX2 = some m.cls := hown
  have hinX2 : ∀ w ∈ wsX20, w ∈ wsX2_rowStart := fun _ h => List.mem_cons_of_mem _ (inWX20 _ h)
  have w_1 := hts (Cond.fieldLink RX2 24 "SheetNames$Grid" "rows" "[I") (List.mem_cons_of_mem _ t_w787)
  have w_2 := hts (Cond.fieldLink RX2 27 "SheetNames$Grid" "sheets" "[I") (List.mem_cons_of_mem _ t_w788)
  have w_3 := hts (Cond.fieldLink RX2 18 "SheetNames$Grid" "bandRows" "[I") (List.mem_cons_of_mem _ t_w786)
  have w_4 := hts (Cond.fieldLink RX2 21 "SheetNames$Grid" "zoneColumns" "[I") (List.mem_cons_of_mem _ t_w783)
  have wn_42 : (Cond.fieldLinkNest "SheetNames$Grid" 47 "SheetNames" "BAND_ZONES" "[I" "SheetNames").before ([.ref a_g, .int p1, .int p2] : List Value).toArray s = true := (hZ.2.2.2.2.2.2.2.2.2.1 _ (List.mem_of_getElem? (i := 42) rfl)).use rfl
  have wn_43 : (Cond.fieldLinkNest "SheetNames$Grid" 50 "SheetNames" "ZONES_AHEAD" "[I" "SheetNames").before ([.ref a_g, .int p1, .int p2] : List Value).toArray s = true := (hZ.2.2.2.2.2.2.2.2.2.1 _ (List.mem_of_getElem? (i := 43) rfl)).use rfl
  unfold f_Grid_rowStart at hf
  have hgo : ∀ (H : Heap) (locs : List Loc), H = s.heap → va_P D vwCl ((a_g, .inr (2, [.ref a_g_rowCuts, .ref a_g_columnCuts, .ref a_g_bandRows, .ref a_g_zoneColumns, .ref a_g_rows, .ref a_g_sheets])) :: (a_g_bandRows, .inl (ci 0, 5, .inl g_bandRows)) :: (a_g_zoneColumns, .inl (ci 0, 5, .inl g_zoneColumns)) :: (a_g_rows, .inl (ci 0, 5, .inl g_rows)) :: (a_g_sheets, .inl (ci 0, 5, .inl g_sheets)) :: Rw) H → va_S A s.heap H locs → W p l e ({ frames := 0, cells := 0, slots := 0, locals := 0 } : Room) s m ([.ref a_g, .int p1, .int p2] : List Value).toArray below meth c H locs 0 0 Q (F0 m 0 ls []) := by
    intro H locs hH hP hS
    subst hH
    refine lv_iload_n (pc := 0) hx hb dX2_rowStart_0 rfl (lv_at hl 2 rfl) ?_
    refine q_if_gt (pc := 1) (tgt := 6) hx hb dX2_rowStart_1 (by decide) rfl hf (fun hf => ?_) (fun hf => ?_)
    · refine lv_iload_n (pc := 6) hx hb dX2_rowStart_6 rfl (lv_at hl 2 rfl) ?_
      refine lv_aload_n (pc := 7) hx hb dX2_rowStart_7 rfl (lv_at hl 0 rfl) ?_
      refine va_get (pc := 8) (D := D) (ci := 2) (v := .ref a_g_rows) (C := RX2) (T := TX2) (N := 6) hx hb hts hinX2 hown hK hP 0 rfl rfl 4 (by decide) w_1 (fun _ h9 => h9) rfl dX2_rowStart_8 ?_
      refine lv_iload_n (pc := 11) hx hb dX2_rowStart_11 rfl (lv_at hl 1 rfl) ?_
      refine q_iald (pc := 12) hx hb hK hP 3 0 hf rfl rfl dX2_rowStart_12 (fun v1 hf => ?_)
      refine lv_iconst (pc := 13) (v := 1) hx hb dX2_rowStart_13 (by decide) ?_
      refine lv_isub (pc := 14) hx hb dX2_rowStart_14 ?_
      refine q_icmp_lt (pc := 15) (tgt := 27) hx hb dX2_rowStart_15 (by decide) rfl hf (fun hf => ?_) (fun hf => ?_)
      · refine lv_iload_n (pc := 27) hx hb dX2_rowStart_27 rfl (lv_at hl 2 rfl) ?_
        refine lv_iconst (pc := 28) (v := 1) hx hb dX2_rowStart_28 (by decide) ?_
        refine lv_isub (pc := 29) hx hb dX2_rowStart_29 ?_
        refine lv_aload_n (pc := 30) hx hb dX2_rowStart_30 rfl (lv_at hl 0 rfl) ?_
        refine va_get (pc := 31) (D := D) (ci := 2) (v := .ref a_g_bandRows) (C := RX2) (T := TX2) (N := 6) hx hb hts hinX2 hown hK hP 0 rfl rfl 2 (by decide) w_3 (fun _ h9 => h9) rfl dX2_rowStart_31 ?_
        refine lv_iload_n (pc := 34) hx hb dX2_rowStart_34 rfl (lv_at hl 1 rfl) ?_
        refine q_iald (pc := 35) hx hb hK hP 1 0 hf rfl rfl dX2_rowStart_35 (fun v2 hf => ?_)
        refine q_idiv (pc := 36) hx hb dX2_rowStart_36 hf (fun v3 hf => ?_)
        refine lv_istore_n (pc := 37) (lv' := [(3, .int v3), (0, .ref a_g), (1, .int p1), (2, .int p2)]) hx hb dX2_rowStart_37 rfl hl (by decide) rfl (fun ls hl => ?_)
        refine lv_iload_n (pc := 38) hx hb dX2_rowStart_38 rfl (lv_at hl 3 rfl) ?_
        refine lv_iconst (pc := 39) (v := 1) hx hb dX2_rowStart_39 (by decide) ?_
        refine lv_isub (pc := 40) hx hb dX2_rowStart_40 ?_
        refine lv_aload_n (pc := 41) hx hb dX2_rowStart_41 rfl (lv_at hl 1 rfl) ?_
        refine va_get (pc := 42) (D := D) (ci := 2) (v := .ref a_g_bandRows) (C := RX2) (T := TX2) (N := 6) hx hb hts hinX2 hown hK hP 0 rfl rfl 2 (by decide) w_3 (fun _ h9 => h9) rfl dX2_rowStart_42 ?_
        refine lv_iload_n (pc := 45) hx hb dX2_rowStart_45 rfl (lv_at hl 2 rfl) ?_
        refine q_iald (pc := 46) hx hb hK hP 1 0 hf rfl rfl dX2_rowStart_46 (fun v4 hf => ?_)
        refine q_irem (pc := 47) hx hb dX2_rowStart_47 hf (fun v5 hf => ?_)
        refine lv_istore (pc := 48) (lv' := [(4, .int v5), (3, .int v3), (0, .ref a_g), (1, .int p1), (2, .int p2)]) hx hb dX2_rowStart_48 hl (by decide) rfl (fun ls hl => ?_)
        refine va_getsN (pc := 50) hx hb hZ.2.2.1 hS hown wn_43 (fun _ h9 => h9) dX2_rowStart_50 ?_
        refine lv_iload_n (pc := 53) hx hb dX2_rowStart_53 rfl (lv_at hl 1 rfl) ?_
        refine q_sald (pc := 54) (f := q_zA) (N := 44) hx hb hf hZ.2.2.2.1 hS dX2_rowStart_54 (fun v6 hf => ?_)
        refine lv_aload_n (pc := 55) hx hb dX2_rowStart_55 rfl (lv_at hl 2 rfl) ?_
        refine va_get (pc := 56) (D := D) (ci := 2) (v := .ref a_g_bandRows) (C := RX2) (T := TX2) (N := 6) hx hb hts hinX2 hown hK hP 0 rfl rfl 2 (by decide) w_3 (fun _ h9 => h9) rfl dX2_rowStart_56 ?_
        refine lv_iload_n (pc := 59) hx hb dX2_rowStart_59 rfl (lv_at hl 3 rfl) ?_
        refine q_iald (pc := 60) hx hb hK hP 1 0 hf rfl rfl dX2_rowStart_60 (fun v7 hf => ?_)
        refine lv_imul (pc := 61) hx hb dX2_rowStart_61 ?_
        refine lv_iload (pc := 62) hx hb dX2_rowStart_62 (lv_at hl 0 rfl) ?_
        refine va_getsN (pc := 64) hx hb hZ.1 hS hown wn_42 (fun _ h9 => h9) dX2_rowStart_64 ?_
        refine lv_iload_n (pc := 67) hx hb dX2_rowStart_67 rfl (lv_at hl 1 rfl) ?_
        refine q_sald (pc := 68) (f := q_bZ) (N := 44) hx hb hf hZ.2.1 hS dX2_rowStart_68 (fun v8 hf => ?_)
        refine lv_imul (pc := 69) hx hb dX2_rowStart_69 ?_
        refine lv_iadd (pc := 70) hx hb dX2_rowStart_70 ?_
        obtain ⟨v9, ev9, hf⟩ := q_nm_e hf
        refine q_topi ev9 ?_
        refine lv_istore (pc := 71) (lv' := [(5, .int v9), (4, .int v5), (3, .int v3), (0, .ref a_g), (1, .int p1), (2, .int p2)]) hx hb dX2_rowStart_71 hl (by decide) rfl (fun ls hl => ?_)
        refine lv_iconst (pc := 73) (v := 1) hx hb dX2_rowStart_73 (by decide) ?_
        refine lv_iload (pc := 74) hx hb dX2_rowStart_74 (lv_at hl 0 rfl) ?_
        refine lv_aload_n (pc := 76) hx hb dX2_rowStart_76 rfl (lv_at hl 3 rfl) ?_
        refine va_get (pc := 77) (D := D) (ci := 2) (v := .ref a_g_zoneColumns) (C := RX2) (T := TX2) (N := 6) hx hb hts hinX2 hown hK hP 0 rfl rfl 3 (by decide) w_4 (fun _ h9 => h9) rfl dX2_rowStart_77 ?_
        refine lv_iload_n (pc := 80) hx hb dX2_rowStart_80 rfl (lv_at hl 4 rfl) ?_
        refine q_iald (pc := 81) hx hb hK hP 2 0 hf rfl rfl dX2_rowStart_81 (fun v10 hf => ?_)
        refine lv_imul (pc := 82) hx hb dX2_rowStart_82 ?_
        refine lv_iadd (pc := 83) hx hb dX2_rowStart_83 ?_
        obtain rfl := Option.some.inj hf
        rw [hQ]
        exact q_iretr (pc := 84) hx hb hr hlocks rfl hS dX2_rowStart_84
      · refine lv_aload_n (pc := 18) hx hb dX2_rowStart_18 rfl (lv_at hl 0 rfl) ?_
        refine va_get (pc := 19) (D := D) (ci := 2) (v := .ref a_g_sheets) (C := RX2) (T := TX2) (N := 6) hx hb hts hinX2 hown hK hP 0 rfl rfl 5 (by decide) w_2 (fun _ h9 => h9) rfl dX2_rowStart_19 ?_
        refine lv_iload_n (pc := 22) hx hb dX2_rowStart_22 rfl (lv_at hl 1 rfl) ?_
        refine q_iald (pc := 23) hx hb hK hP 4 0 hf rfl rfl dX2_rowStart_23 (fun v11 hf => ?_)
        refine lv_iconst (pc := 24) (v := 1) hx hb dX2_rowStart_24 (by decide) ?_
        refine lv_isub (pc := 25) hx hb dX2_rowStart_25 ?_
        obtain rfl := Option.some.inj hf
        rw [hQ]
        exact q_iretr (pc := 26) hx hb hr hlocks rfl hS dX2_rowStart_26
    · refine lv_iconst (pc := 4) (v := 0) hx hb dX2_rowStart_4 (by decide) ?_
      obtain rfl := Option.some.inj hf
      rw [hQ]
      exact q_iretr (pc := 5) hx hb hr hlocks rfl hS dX2_rowStart_5
  exact hgo _ _ rfl hP hS
/-! X2_rowsIn -/
set_option maxRecDepth 100000 in
set_option maxHeartbeats 4000000 in
theorem c_Grid_rowsIn (l : Launch) (D : va_G) (ci : Nat → ClassId) (A : Nat → Prop) (sa : Nat → Nat) (N : Nat) (Rw : va_W) (a_g : Nat) (a_g_rowCuts : Nat) (a_g_columnCuts : Nat) (a_g_bandRows : Nat) (a_g_zoneColumns : Nat) (a_g_rows : Nat) (a_g_sheets : Nat) (g_bandRows : Nat → Int32) (p1 : Int32) (p2 : Int32) (r : Int32) (hf : f_Grid_rowsIn g_bandRows p1 p2 = some r) : Met l yX2_rowsIn wsX2_rowsIn ({ frames := 0, cells := 0, slots := 0, locals := 0 }) (va_Pc [.ref a_g, .int p1, .int p2] (q_N D ci A sa ((a_g, .inr (2, [.ref a_g_rowCuts, .ref a_g_columnCuts, .ref a_g_bandRows, .ref a_g_zoneColumns, .ref a_g_rows, .ref a_g_sheets])) :: (a_g_bandRows, .inl (ci 0, 5, .inl g_bandRows)) :: Rw))) (q_R (some (.int r))) 0 0 A := by
  refine q_ofW (cc := cX2_rowsIn) (maxL := 3) (ret := (some .int)) [.ref a_g, .int p1, .int p2] (plainFor_of_name (by decide)) rfl (Nat.le_of_ble_eq_true rfl) ?_
  intro p e s m below meth c ls Q hQ hx hb hml hr hts hown hlocks hK hA hZ hP hD hS hl
  have hl : lv_has ls 3 [(0, .ref a_g), (1, .int p1), (2, .int p2)] := hl
  have hown : s.vm.findClass RX2 = some m.cls := hown
  have hinX2 : ∀ w ∈ wsX20, w ∈ wsX2_rowsIn := fun _ h => List.mem_cons_of_mem _ (inWX20 _ h)
  have w_1 := hts (Cond.fieldLink RX2 18 "SheetNames$Grid" "bandRows" "[I") (List.mem_cons_of_mem _ t_w786)
  unfold f_Grid_rowsIn at hf
  have hgo : ∀ (H : Heap) (locs : List Loc), H = s.heap → va_P D vwCl ((a_g, .inr (2, [.ref a_g_rowCuts, .ref a_g_columnCuts, .ref a_g_bandRows, .ref a_g_zoneColumns, .ref a_g_rows, .ref a_g_sheets])) :: (a_g_bandRows, .inl (ci 0, 5, .inl g_bandRows)) :: Rw) H → va_S A s.heap H locs → W p l e ({ frames := 0, cells := 0, slots := 0, locals := 0 } : Room) s m ([.ref a_g, .int p1, .int p2] : List Value).toArray below meth c H locs 0 0 Q (F0 m 0 ls []) := by
    intro H locs hH hP hS
    subst hH
    refine lv_aload_n (pc := 0) hx hb dX2_rowsIn_0 rfl (lv_at hl 0 rfl) ?_
    refine va_get (pc := 1) (D := D) (ci := 2) (v := .ref a_g_bandRows) (C := RX2) (T := TX2) (N := 6) hx hb hts hinX2 hown hK hP 0 rfl rfl 2 (by decide) w_1 (fun _ h9 => h9) rfl dX2_rowsIn_1 ?_
    refine lv_iload_n (pc := 4) hx hb dX2_rowsIn_4 rfl (lv_at hl 2 rfl) ?_
    refine q_iald (pc := 5) hx hb hK hP 1 0 hf rfl rfl dX2_rowsIn_5 (fun v1 hf => ?_)
    refine lv_aload_n (pc := 6) hx hb dX2_rowsIn_6 rfl (lv_at hl 0 rfl) ?_
    refine va_get (pc := 7) (D := D) (ci := 2) (v := .ref a_g_bandRows) (C := RX2) (T := TX2) (N := 6) hx hb hts hinX2 hown hK hP 0 rfl rfl 2 (by decide) w_1 (fun _ h9 => h9) rfl dX2_rowsIn_7 ?_
    refine lv_iload_n (pc := 10) hx hb dX2_rowsIn_10 rfl (lv_at hl 1 rfl) ?_
    refine q_iald (pc := 11) hx hb hK hP 1 0 hf rfl rfl dX2_rowsIn_11 (fun v2 hf => ?_)
    refine q_idiv (pc := 12) hx hb dX2_rowsIn_12 hf (fun v3 hf => ?_)
    obtain rfl := Option.some.inj hf
    rw [hQ]
    exact q_iretr (pc := 13) hx hb hr hlocks rfl hS dX2_rowsIn_13
  exact hgo _ _ rfl hP hS
/-! X2_keyAbove -/
set_option maxRecDepth 100000 in
set_option maxHeartbeats 4000000 in
theorem c_Grid_keyAbove (l : Launch) (D : va_G) (ci : Nat → ClassId) (A : Nat → Prop) (sa : Nat → Nat) (N : Nat) (Rw : va_W) (a_g : Nat) (a_g_rowCuts : Nat) (a_g_columnCuts : Nat) (a_g_bandRows : Nat) (a_g_zoneColumns : Nat) (a_g_rows : Nat) (a_g_sheets : Nat) (g_bandRows : Nat → Int32) (g_zoneColumns : Nat → Int32) (g_rows : Nat → Int32) (g_sheets : Nat → Int32) (p1 : Int32) (p2 : Int32) (p3 : Int32) (r : Int32) (hf : f_Grid_keyAbove N g_bandRows g_zoneColumns g_rows g_sheets p1 p2 p3 = some r) : Met l yX2_keyAbove wsX2_keyAbove ({ frames := 2, cells := 0, slots := 0, locals := 49 }) (va_Pc [.ref a_g, .int p1, .int p2, .int p3] (q_N D ci A sa ((a_g, .inr (2, [.ref a_g_rowCuts, .ref a_g_columnCuts, .ref a_g_bandRows, .ref a_g_zoneColumns, .ref a_g_rows, .ref a_g_sheets])) :: (a_g_bandRows, .inl (ci 0, 5, .inl g_bandRows)) :: (a_g_zoneColumns, .inl (ci 0, 5, .inl g_zoneColumns)) :: (a_g_rows, .inl (ci 0, 5, .inl g_rows)) :: (a_g_sheets, .inl (ci 0, 5, .inl g_sheets)) :: Rw))) (q_R (some (.int r))) 0 0 A := by
  refine q_ofW (cc := cX2_keyAbove) (maxL := 7) (ret := (some .int)) [.ref a_g, .int p1, .int p2, .int p3] (plainFor_of_name (by decide)) rfl (Nat.le_of_ble_eq_true rfl) ?_
  intro p e s m below meth c ls Q hQ hx hb hml hr hts hown hlocks hK hA hZ hP hD hS hl
  have hl : lv_has ls 7 [(0, .ref a_g), (1, .int p1), (2, .int p2), (3, .int p3)] := hl
  have hown : s.vm.findClass RX2 = some m.cls := hown
  have hinX2 : ∀ w ∈ wsX20, w ∈ wsX2_keyAbove := fun _ h => List.mem_cons_of_mem _ (inWX20 _ h)
  have w_1 := hts (Cond.fieldLink RX2 24 "SheetNames$Grid" "rows" "[I") (List.mem_cons_of_mem _ t_w787)
  have w_2 := hts (Cond.fieldLink RX2 27 "SheetNames$Grid" "sheets" "[I") (List.mem_cons_of_mem _ t_w788)
  unfold f_Grid_keyAbove at hf
  have hgo : ∀ (H : Heap) (locs : List Loc), H = s.heap → va_P D vwCl ((a_g, .inr (2, [.ref a_g_rowCuts, .ref a_g_columnCuts, .ref a_g_bandRows, .ref a_g_zoneColumns, .ref a_g_rows, .ref a_g_sheets])) :: (a_g_bandRows, .inl (ci 0, 5, .inl g_bandRows)) :: (a_g_zoneColumns, .inl (ci 0, 5, .inl g_zoneColumns)) :: (a_g_rows, .inl (ci 0, 5, .inl g_rows)) :: (a_g_sheets, .inl (ci 0, 5, .inl g_sheets)) :: Rw) H → va_S A s.heap H locs → W p l e ({ frames := 2, cells := 0, slots := 0, locals := 49 } : Room) s m ([.ref a_g, .int p1, .int p2, .int p3] : List Value).toArray below meth c H locs 0 0 Q (F0 m 0 ls []) := by
    intro H locs hH hP hS
    subst hH
    refine lv_aload_n (pc := 0) hx hb dX2_keyAbove_0 rfl (lv_at hl 0 rfl) ?_
    refine lv_iload_n (pc := 1) hx hb dX2_keyAbove_1 rfl (lv_at hl 1 rfl) ?_
    refine lv_iload_n (pc := 2) hx hb dX2_keyAbove_2 rfl (lv_at hl 2 rfl) ?_
    obtain ⟨v1, hm3, hf⟩ := q_b1_e hf
    refine q_cVr (pc := 3) (As := [.int p1, .int p2]) (rest := []) (v0 := (some (.int v1))) ⟨hx, hb, hml, hown, hts⟩ hK hA hZ hP hD hS hl.1 [0, 1, 2, 3, 4] 5 rfl ⟨rfl, rfl, rfl⟩ (c_Grid_rowOfKey l D ci A sa N (Rw) a_g a_g_rowCuts a_g_columnCuts a_g_bandRows a_g_zoneColumns a_g_rows a_g_sheets g_bandRows g_zoneColumns g_rows g_sheets p1 p2 v1 hm3) 0 rfl rfl (cwV 2 hts gX2_keyAbove_X2_rowOfKey rfl rfl rfl (by decide +kernel) ⟨Nat.le_of_ble_eq_true rfl, Nat.le_of_ble_eq_true rfl⟩) rfl rfl (Nat.le_of_ble_eq_true rfl) dX2_keyAbove_3 ⟨Nat.zero_le _, Nat.zero_le _⟩ (fun locs hS => ?_)
    refine lv_istore (pc := 6) (lv' := [(4, .int v1), (0, .ref a_g), (1, .int p1), (2, .int p2), (3, .int p3)]) hx hb dX2_keyAbove_6 hl (by decide) rfl (fun ls hl => ?_)
    refine lv_iload (pc := 8) hx hb dX2_keyAbove_8 (lv_at hl 0 rfl) ?_
    refine q_if_ne (pc := 10) (tgt := 15) hx hb dX2_keyAbove_10 (by decide) rfl hf (fun hf => ?_) (fun hf => ?_)
    · refine lv_iload (pc := 15) hx hb dX2_keyAbove_15 (lv_at hl 0 rfl) ?_
      refine lv_aload_n (pc := 17) hx hb dX2_keyAbove_17 rfl (lv_at hl 1 rfl) ?_
      refine va_get (pc := 18) (D := D) (ci := 2) (v := .ref a_g_rows) (C := RX2) (T := TX2) (N := 6) hx hb hts hinX2 hown hK hP 0 rfl rfl 4 (by decide) w_1 (fun _ h9 => h9) rfl dX2_keyAbove_18 ?_
      refine lv_iload_n (pc := 21) hx hb dX2_keyAbove_21 rfl (lv_at hl 2 rfl) ?_
      refine q_iald (pc := 22) hx hb hK hP 3 0 hf rfl rfl dX2_keyAbove_22 (fun v2 hf => ?_)
      refine lv_iconst (pc := 23) (v := 1) hx hb dX2_keyAbove_23 (by decide) ?_
      refine lv_isub (pc := 24) hx hb dX2_keyAbove_24 ?_
      refine q_icmp_ne (pc := 25) (tgt := 37) hx hb dX2_keyAbove_25 (by decide) rfl hf (fun hf => ?_) (fun hf => ?_)
      · refine lv_iload_n (pc := 37) hx hb dX2_keyAbove_37 rfl (lv_at hl 3 rfl) ?_
        refine lv_aload_n (pc := 38) hx hb dX2_keyAbove_38 rfl (lv_at hl 1 rfl) ?_
        refine lv_iload_n (pc := 39) hx hb dX2_keyAbove_39 rfl (lv_at hl 2 rfl) ?_
        refine lv_iload (pc := 40) hx hb dX2_keyAbove_40 (lv_at hl 0 rfl) ?_
        obtain ⟨v3, hm42, hf⟩ := q_b1_e hf
        refine q_cVr (pc := 42) (As := [.int p1, .int v1]) (rest := [.int p2]) (v0 := (some (.int v3))) ⟨hx, hb, hml, hown, hts⟩ hK hA hZ hP hD hS hl.1 [0, 1, 2, 3, 4] 5 rfl ⟨rfl, rfl, rfl⟩ (c_Grid_rowStart l D ci A sa N (Rw) a_g a_g_rowCuts a_g_columnCuts a_g_bandRows a_g_zoneColumns a_g_rows a_g_sheets g_bandRows g_zoneColumns g_rows g_sheets p1 v1 v3 hm42) 0 rfl rfl (cwV 2 hts gX2_keyAbove_X2_rowStart rfl rfl rfl (by decide +kernel) ⟨Nat.le_of_ble_eq_true rfl, Nat.le_of_ble_eq_true rfl⟩) rfl rfl (Nat.le_of_ble_eq_true rfl) dX2_keyAbove_42 ⟨Nat.zero_le _, Nat.zero_le _⟩ (fun locs hS => ?_)
        refine lv_isub (pc := 45) hx hb dX2_keyAbove_45 ?_
        obtain ⟨v4, ev4, hf⟩ := q_nm_e hf
        refine q_topi ev4 ?_
        refine lv_istore (pc := 46) (lv' := [(5, .int v4), (4, .int v1), (0, .ref a_g), (1, .int p1), (2, .int p2), (3, .int p3)]) hx hb dX2_keyAbove_46 hl (by decide) rfl (fun ls hl => ?_)
        refine lv_iload (pc := 48) hx hb dX2_keyAbove_48 (lv_at hl 1 rfl) ?_
        refine lv_iconst (pc := 50) (v := 1) hx hb dX2_keyAbove_50 (by decide) ?_
        refine lv_isub (pc := 51) hx hb dX2_keyAbove_51 ?_
        refine lv_aload_n (pc := 52) hx hb dX2_keyAbove_52 rfl (lv_at hl 2 rfl) ?_
        refine lv_iload_n (pc := 53) hx hb dX2_keyAbove_53 rfl (lv_at hl 5 rfl) ?_
        refine lv_iload_n (pc := 54) hx hb dX2_keyAbove_54 rfl (lv_at hl 3 rfl) ?_
        obtain ⟨v5, hm55, hf⟩ := q_b1_e hf
        refine q_cVr (pc := 55) (As := [.int p3, .int p1]) (rest := [.int (v1 - 1)]) (v0 := (some (.int v5))) ⟨hx, hb, hml, hown, hts⟩ hK hA hZ hP hD hS hl.1 [0, 1] 5 rfl ⟨rfl, rfl, rfl⟩ (c_Grid_rowsIn l D ci A sa N (Rw) a_g a_g_rowCuts a_g_columnCuts a_g_bandRows a_g_zoneColumns a_g_rows a_g_sheets g_bandRows p3 p1 v5 hm55) 0 rfl rfl (cwV 2 hts gX2_keyAbove_X2_rowsIn rfl rfl rfl (by decide +kernel) ⟨Nat.le_of_ble_eq_true rfl, Nat.le_of_ble_eq_true rfl⟩) rfl rfl (Nat.le_of_ble_eq_true rfl) dX2_keyAbove_55 ⟨Nat.zero_le _, Nat.zero_le _⟩ (fun locs hS => ?_)
        refine q_idiv (pc := 58) hx hb dX2_keyAbove_58 hf (fun v6 hf => ?_)
        refine lv_iconst (pc := 59) (v := 1) hx hb dX2_keyAbove_59 (by decide) ?_
        refine lv_iadd (pc := 60) hx hb dX2_keyAbove_60 ?_
        obtain ⟨v7, ev7, hf⟩ := q_nm_e hf
        refine q_topi ev7 ?_
        refine lv_istore (pc := 61) (lv' := [(6, .int v7), (5, .int v4), (4, .int v1), (0, .ref a_g), (1, .int p1), (2, .int p2), (3, .int p3)]) hx hb dX2_keyAbove_61 hl (by decide) rfl (fun ls hl => ?_)
        refine lv_aload_n (pc := 63) hx hb dX2_keyAbove_63 rfl (lv_at hl 3 rfl) ?_
        refine lv_iload_n (pc := 64) hx hb dX2_keyAbove_64 rfl (lv_at hl 6 rfl) ?_
        refine lv_iload (pc := 65) hx hb dX2_keyAbove_65 (lv_at hl 0 rfl) ?_
        obtain ⟨v8, hm67, hf⟩ := q_b1_e hf
        refine q_cVr (pc := 67) (As := [.int p3, .int v7]) (rest := []) (v0 := (some (.int v8))) ⟨hx, hb, hml, hown, hts⟩ hK hA hZ hP hD hS hl.1 [0, 1, 2, 3, 4] 5 rfl ⟨rfl, rfl, rfl⟩ (c_Grid_rowStart l D ci A sa N (Rw) a_g a_g_rowCuts a_g_columnCuts a_g_bandRows a_g_zoneColumns a_g_rows a_g_sheets g_bandRows g_zoneColumns g_rows g_sheets p3 v7 v8 hm67) 0 rfl rfl (cwV 2 hts gX2_keyAbove_X2_rowStart rfl rfl rfl (by decide +kernel) ⟨Nat.le_of_ble_eq_true rfl, Nat.le_of_ble_eq_true rfl⟩) rfl rfl (Nat.le_of_ble_eq_true rfl) dX2_keyAbove_67 ⟨Nat.zero_le _, Nat.zero_le _⟩ (fun locs hS => ?_)
        refine lv_iload (pc := 70) hx hb dX2_keyAbove_70 (lv_at hl 1 rfl) ?_
        refine lv_aload_n (pc := 72) hx hb dX2_keyAbove_72 rfl (lv_at hl 3 rfl) ?_
        refine lv_iload_n (pc := 73) hx hb dX2_keyAbove_73 rfl (lv_at hl 6 rfl) ?_
        refine lv_iload_n (pc := 74) hx hb dX2_keyAbove_74 rfl (lv_at hl 4 rfl) ?_
        obtain ⟨v9, hm75, hf⟩ := q_b1_e hf
        refine q_cVr (pc := 75) (As := [.int p3, .int p1]) (rest := [.int v4, .int v8]) (v0 := (some (.int v9))) ⟨hx, hb, hml, hown, hts⟩ hK hA hZ hP hD hS hl.1 [0, 2] 5 rfl ⟨rfl, rfl, rfl⟩ (c_Grid_columnsIn l D ci A sa N (Rw) a_g a_g_rowCuts a_g_columnCuts a_g_bandRows a_g_zoneColumns a_g_rows a_g_sheets g_zoneColumns p3 p1 v9 hm75) 0 rfl rfl (cwV 2 hts gX2_keyAbove_X2_columnsIn rfl rfl rfl (by decide +kernel) ⟨Nat.le_of_ble_eq_true rfl, Nat.le_of_ble_eq_true rfl⟩) rfl rfl (Nat.le_of_ble_eq_true rfl) dX2_keyAbove_75 ⟨Nat.zero_le _, Nat.zero_le _⟩ (fun locs hS => ?_)
        refine q_idiv (pc := 78) hx hb dX2_keyAbove_78 hf (fun v10 hf => ?_)
        refine lv_iadd (pc := 79) hx hb dX2_keyAbove_79 ?_
        obtain rfl := Option.some.inj hf
        rw [hQ]
        exact q_iretr (pc := 80) hx hb hr hlocks rfl hS dX2_keyAbove_80
      · refine lv_aload_n (pc := 28) hx hb dX2_keyAbove_28 rfl (lv_at hl 1 rfl) ?_
        refine va_get (pc := 29) (D := D) (ci := 2) (v := .ref a_g_sheets) (C := RX2) (T := TX2) (N := 6) hx hb hts hinX2 hown hK hP 0 rfl rfl 5 (by decide) w_2 (fun _ h9 => h9) rfl dX2_keyAbove_29 ?_
        refine lv_iload_n (pc := 32) hx hb dX2_keyAbove_32 rfl (lv_at hl 4 rfl) ?_
        refine q_iald (pc := 33) hx hb hK hP 4 0 hf rfl rfl dX2_keyAbove_33 (fun v11 hf => ?_)
        refine lv_iconst (pc := 34) (v := 1) hx hb dX2_keyAbove_34 (by decide) ?_
        refine lv_isub (pc := 35) hx hb dX2_keyAbove_35 ?_
        obtain rfl := Option.some.inj hf
        rw [hQ]
        exact q_iretr (pc := 36) hx hb hr hlocks rfl hS dX2_keyAbove_36
    · refine lv_iconst (pc := 13) (v := 0) hx hb dX2_keyAbove_13 (by decide) ?_
      obtain rfl := Option.some.inj hf
      rw [hQ]
      exact q_iretr (pc := 14) hx hb hr hlocks rfl hS dX2_keyAbove_14
  exact hgo _ _ rfl hP hS
/-! X2_rowOfLat -/
set_option maxRecDepth 100000 in
set_option maxHeartbeats 4000000 in
theorem c_Grid_rowOfLat (l : Launch) (D : va_G) (ci : Nat → ClassId) (A : Nat → Prop) (sa : Nat → Nat) (N : Nat) (Rw : va_W) (a_g : Nat) (a_g_rowCuts : Nat) (a_g_columnCuts : Nat) (a_g_bandRows : Nat) (a_g_zoneColumns : Nat) (a_g_rows : Nat) (a_g_sheets : Nat) (g_bandRows : Nat → Int32) (g_rows : Nat → Int32) (p1 : Int32) (p2 : Int32) (r : Int32) (hf : f_Grid_rowOfLat g_bandRows g_rows p1 p2 = some r) : Met l yX2_rowOfLat wsX2_rowOfLat ({ frames := 1, cells := 0, slots := 0, locals := 25 }) (va_Pc [.ref a_g, .int p1, .int p2] (q_N D ci A sa ((a_g, .inr (2, [.ref a_g_rowCuts, .ref a_g_columnCuts, .ref a_g_bandRows, .ref a_g_zoneColumns, .ref a_g_rows, .ref a_g_sheets])) :: (a_g_bandRows, .inl (ci 0, 5, .inl g_bandRows)) :: (a_g_rows, .inl (ci 0, 5, .inl g_rows)) :: Rw))) (q_R (some (.int r))) 0 0 A := by
  refine q_ofW (cc := cX2_rowOfLat) (maxL := 5) (ret := (some .int)) [.ref a_g, .int p1, .int p2] (plainFor_of_name (by decide)) rfl (Nat.le_of_ble_eq_true rfl) ?_
  intro p e s m below meth c ls Q hQ hx hb hml hr hts hown hlocks hK hA hZ hP hD hS hl
  have hl : lv_has ls 5 [(0, .ref a_g), (1, .int p1), (2, .int p2)] := hl
  have hown : s.vm.findClass RX2 = some m.cls := hown
  have hinX2 : ∀ w ∈ wsX20, w ∈ wsX2_rowOfLat := fun _ h => List.mem_cons_of_mem _ (inWX20 _ h)
  have w_1 := hts (Cond.constant RX2 57 (316800)) (List.mem_cons_of_mem _ t_w795)
  have w_2 := hts (Cond.constant RX2 58 (-316800)) (List.mem_cons_of_mem _ t_w796)
  have w_3 := hts (Cond.fieldLink RX2 24 "SheetNames$Grid" "rows" "[I") (List.mem_cons_of_mem _ t_w787)
  have w_4 := hts (Cond.fieldLink RX2 18 "SheetNames$Grid" "bandRows" "[I") (List.mem_cons_of_mem _ t_w786)
  have w_5 := hts (Cond.constantLong RX2 59 (14400)) (List.mem_cons_of_mem _ t_w797)
  unfold f_Grid_rowOfLat at hf
  have hgo : ∀ (H : Heap) (locs : List Loc), H = s.heap → va_P D vwCl ((a_g, .inr (2, [.ref a_g_rowCuts, .ref a_g_columnCuts, .ref a_g_bandRows, .ref a_g_zoneColumns, .ref a_g_rows, .ref a_g_sheets])) :: (a_g_bandRows, .inl (ci 0, 5, .inl g_bandRows)) :: (a_g_rows, .inl (ci 0, 5, .inl g_rows)) :: Rw) H → va_S A s.heap H locs → W p l e ({ frames := 1, cells := 0, slots := 0, locals := 25 } : Room) s m ([.ref a_g, .int p1, .int p2] : List Value).toArray below meth c H locs 0 0 Q (F0 m 0 ls []) := by
    intro H locs hH hP hS
    subst hH
    refine lv_iload_n (pc := 0) hx hb dX2_rowOfLat_0 rfl (lv_at hl 2 rfl) ?_
    refine lv_ldc (pc := 1) (v := 316800) hx hb hown w_1 dX2_rowOfLat_1 ?_
    refine q_icmp_lt (pc := 3) (tgt := 8) hx hb dX2_rowOfLat_3 (by decide) rfl hf (fun hf => ?_) (fun hf => ?_)
    · refine lv_iload_n (pc := 8) hx hb dX2_rowOfLat_8 rfl (lv_at hl 2 rfl) ?_
      refine lv_ldc (pc := 9) (v := (-316800)) hx hb hown w_2 dX2_rowOfLat_9 ?_
      refine q_icmp_ge (pc := 11) (tgt := 23) hx hb dX2_rowOfLat_11 (by decide) rfl hf (fun hf => ?_) (fun hf => ?_)
      · refine lv_iload_n (pc := 23) hx hb dX2_rowOfLat_23 rfl (lv_at hl 2 rfl) ?_
        refine lv_i2l (pc := 24) hx hb dX2_rowOfLat_24 rfl ?_
        refine lv_aload_n (pc := 25) hx hb dX2_rowOfLat_25 rfl (lv_at hl 0 rfl) ?_
        refine va_get (pc := 26) (D := D) (ci := 2) (v := .ref a_g_bandRows) (C := RX2) (T := TX2) (N := 6) hx hb hts hinX2 hown hK hP 0 rfl rfl 2 (by decide) w_4 (fun _ h9 => h9) rfl dX2_rowOfLat_26 ?_
        refine lv_iload_n (pc := 29) hx hb dX2_rowOfLat_29 rfl (lv_at hl 1 rfl) ?_
        refine q_iald (pc := 30) hx hb hK hP 1 0 hf rfl rfl dX2_rowOfLat_30 (fun v1 hf => ?_)
        refine lv_i2l (pc := 31) hx hb dX2_rowOfLat_31 rfl ?_
        refine lv_lmul (pc := 32) hx hb dX2_rowOfLat_32 ?_
        refine lv_ldc2 (pc := 33) (v := 14400) hx hb hown w_5 dX2_rowOfLat_33 ?_
        obtain ⟨v2, hm36, hf⟩ := q_b1_e hf
        refine q_cSr (pc := 36) (As := [.long (p2.toInt64 * v1.toInt64), .long 14400]) (rest := []) (v0 := (some (.long v2))) ⟨hx, hb, hml, hown, hts⟩ hK hA hZ hP hD hS hl.1 [] 3 rfl ⟨rfl, rfl, rfl⟩ (c_JMath_floorDiv_f86c9 l D ci A sa N (Rw) (p2.toInt64 * v1.toInt64) 14400 v2 hm36) (va_cwS 2 hts gX2_rowOfLat_J9_floorDiv_f86c9 rfl rfl rfl (by decide +kernel) ⟨Nat.le_of_ble_eq_true rfl, Nat.le_of_ble_eq_true rfl⟩) rfl rfl (Nat.le_of_ble_eq_true rfl) dX2_rowOfLat_36 ⟨Nat.zero_le _, Nat.zero_le _⟩ (fun locs hS => ?_)
        refine lv_lstore_n (pc := 39) (lv' := [(3, .long v2), (0, .ref a_g), (1, .int p1), (2, .int p2)]) hx hb dX2_rowOfLat_39 rfl hl (by decide) rfl (fun ls hl => ?_)
        refine lv_bipush (pc := 40) (v := 22) hx hb dX2_rowOfLat_40 (by decide) ?_
        refine lv_aload_n (pc := 42) hx hb dX2_rowOfLat_42 rfl (lv_at hl 1 rfl) ?_
        refine va_get (pc := 43) (D := D) (ci := 2) (v := .ref a_g_bandRows) (C := RX2) (T := TX2) (N := 6) hx hb hts hinX2 hown hK hP 0 rfl rfl 2 (by decide) w_4 (fun _ h9 => h9) rfl dX2_rowOfLat_43 ?_
        refine lv_iload_n (pc := 46) hx hb dX2_rowOfLat_46 rfl (lv_at hl 2 rfl) ?_
        refine q_iald (pc := 47) hx hb hK hP 1 0 hf rfl rfl dX2_rowOfLat_47 (fun v3 hf => ?_)
        refine lv_imul (pc := 48) hx hb dX2_rowOfLat_48 ?_
        refine lv_lload_n (pc := 49) hx hb dX2_rowOfLat_49 rfl (lv_at hl 0 rfl) ?_
        refine lv_l2i (pc := 50) hx hb dX2_rowOfLat_50 rfl ?_
        refine lv_isub (pc := 51) hx hb dX2_rowOfLat_51 ?_
        obtain rfl := Option.some.inj hf
        rw [hQ]
        exact q_iretr (pc := 52) hx hb hr hlocks rfl hS dX2_rowOfLat_52
      · refine lv_aload_n (pc := 14) hx hb dX2_rowOfLat_14 rfl (lv_at hl 0 rfl) ?_
        refine va_get (pc := 15) (D := D) (ci := 2) (v := .ref a_g_rows) (C := RX2) (T := TX2) (N := 6) hx hb hts hinX2 hown hK hP 0 rfl rfl 4 (by decide) w_3 (fun _ h9 => h9) rfl dX2_rowOfLat_15 ?_
        refine lv_iload_n (pc := 18) hx hb dX2_rowOfLat_18 rfl (lv_at hl 1 rfl) ?_
        refine q_iald (pc := 19) hx hb hK hP 2 0 hf rfl rfl dX2_rowOfLat_19 (fun v4 hf => ?_)
        refine lv_iconst (pc := 20) (v := 1) hx hb dX2_rowOfLat_20 (by decide) ?_
        refine lv_isub (pc := 21) hx hb dX2_rowOfLat_21 ?_
        obtain rfl := Option.some.inj hf
        rw [hQ]
        exact q_iretr (pc := 22) hx hb hr hlocks rfl hS dX2_rowOfLat_22
    · refine lv_iconst (pc := 6) (v := 0) hx hb dX2_rowOfLat_6 (by decide) ?_
      obtain rfl := Option.some.inj hf
      rw [hQ]
      exact q_iretr (pc := 7) hx hb hr hlocks rfl hS dX2_rowOfLat_7
  exact hgo _ _ rfl hP hS
/-! X2_rowLength -/
set_option maxRecDepth 100000 in
set_option maxHeartbeats 4000000 in
theorem c_Grid_rowLength (l : Launch) (D : va_G) (ci : Nat → ClassId) (A : Nat → Prop) (sa : Nat → Nat) (N : Nat) (Rw : va_W) (a_g : Nat) (a_g_rowCuts : Nat) (a_g_columnCuts : Nat) (a_g_bandRows : Nat) (a_g_zoneColumns : Nat) (a_g_rows : Nat) (a_g_sheets : Nat) (g_bandRows : Nat → Int32) (g_zoneColumns : Nat → Int32) (g_rows : Nat → Int32) (p1 : Int32) (p2 : Int32) (r : Int32) (hf : f_Grid_rowLength g_bandRows g_zoneColumns g_rows p1 p2 = some r) : Met l yX2_rowLength wsX2_rowLength ({ frames := 0, cells := 0, slots := 0, locals := 0 }) (va_Pc [.ref a_g, .int p1, .int p2] (q_N D ci A sa ((a_g, .inr (2, [.ref a_g_rowCuts, .ref a_g_columnCuts, .ref a_g_bandRows, .ref a_g_zoneColumns, .ref a_g_rows, .ref a_g_sheets])) :: (a_g_bandRows, .inl (ci 0, 5, .inl g_bandRows)) :: (a_g_zoneColumns, .inl (ci 0, 5, .inl g_zoneColumns)) :: (a_g_rows, .inl (ci 0, 5, .inl g_rows)) :: Rw))) (q_R (some (.int r))) 0 0 A := by
  refine q_ofW (cc := cX2_rowLength) (maxL := 3) (ret := (some .int)) [.ref a_g, .int p1, .int p2] (plainFor_of_name (by decide)) rfl (Nat.le_of_ble_eq_true rfl) ?_
  intro p e s m below meth c ls Q hQ hx hb hml hr hts hown hlocks hK hA hZ hP hD hS hl
  have hl : lv_has ls 3 [(0, .ref a_g), (1, .int p1), (2, .int p2)] := hl
  have hown : s.vm.findClass RX2 = some m.cls := hown
  have hinX2 : ∀ w ∈ wsX20, w ∈ wsX2_rowLength := fun _ h => List.mem_cons_of_mem _ (inWX20 _ h)
  have w_1 := hts (Cond.fieldLink RX2 24 "SheetNames$Grid" "rows" "[I") (List.mem_cons_of_mem _ t_w787)
  have w_2 := hts (Cond.fieldLink RX2 18 "SheetNames$Grid" "bandRows" "[I") (List.mem_cons_of_mem _ t_w786)
  have w_3 := hts (Cond.fieldLink RX2 21 "SheetNames$Grid" "zoneColumns" "[I") (List.mem_cons_of_mem _ t_w783)
  have wn_42 : (Cond.fieldLinkNest "SheetNames$Grid" 47 "SheetNames" "BAND_ZONES" "[I" "SheetNames").before ([.ref a_g, .int p1, .int p2] : List Value).toArray s = true := (hZ.2.2.2.2.2.2.2.2.2.1 _ (List.mem_of_getElem? (i := 42) rfl)).use rfl
  unfold f_Grid_rowLength at hf
  have hgo : ∀ (H : Heap) (locs : List Loc), H = s.heap → va_P D vwCl ((a_g, .inr (2, [.ref a_g_rowCuts, .ref a_g_columnCuts, .ref a_g_bandRows, .ref a_g_zoneColumns, .ref a_g_rows, .ref a_g_sheets])) :: (a_g_bandRows, .inl (ci 0, 5, .inl g_bandRows)) :: (a_g_zoneColumns, .inl (ci 0, 5, .inl g_zoneColumns)) :: (a_g_rows, .inl (ci 0, 5, .inl g_rows)) :: Rw) H → va_S A s.heap H locs → W p l e ({ frames := 0, cells := 0, slots := 0, locals := 0 } : Room) s m ([.ref a_g, .int p1, .int p2] : List Value).toArray below meth c H locs 0 0 Q (F0 m 0 ls []) := by
    intro H locs hH hP hS
    subst hH
    refine lv_iload_n (pc := 0) hx hb dX2_rowLength_0 rfl (lv_at hl 2 rfl) ?_
    refine q_if_le (pc := 1) (tgt := 16) hx hb dX2_rowLength_1 (by decide) rfl hf (fun hf => ?_) (fun hf => ?_)
    · refine lv_iconst (pc := 16) (v := 1) hx hb dX2_rowLength_16 (by decide) ?_
      obtain rfl := Option.some.inj hf
      rw [hQ]
      exact q_iretr (pc := 17) hx hb hr hlocks rfl hS dX2_rowLength_17
    · refine lv_iload_n (pc := 4) hx hb dX2_rowLength_4 rfl (lv_at hl 2 rfl) ?_
      refine lv_aload_n (pc := 5) hx hb dX2_rowLength_5 rfl (lv_at hl 0 rfl) ?_
      refine va_get (pc := 6) (D := D) (ci := 2) (v := .ref a_g_rows) (C := RX2) (T := TX2) (N := 6) hx hb hts hinX2 hown hK hP 0 rfl rfl 4 (by decide) w_1 (fun _ h9 => h9) rfl dX2_rowLength_6 ?_
      refine lv_iload_n (pc := 9) hx hb dX2_rowLength_9 rfl (lv_at hl 1 rfl) ?_
      refine q_iald (pc := 10) hx hb hK hP 3 0 hf rfl rfl dX2_rowLength_10 (fun v1 hf => ?_)
      refine lv_iconst (pc := 11) (v := 1) hx hb dX2_rowLength_11 (by decide) ?_
      refine lv_isub (pc := 12) hx hb dX2_rowLength_12 ?_
      refine q_icmp_lt (pc := 13) (tgt := 18) hx hb dX2_rowLength_13 (by decide) rfl hf (fun hf => ?_) (fun hf => ?_)
      · refine va_getsN (pc := 18) hx hb hZ.1 hS hown wn_42 (fun _ h9 => h9) dX2_rowLength_18 ?_
        refine lv_iload_n (pc := 21) hx hb dX2_rowLength_21 rfl (lv_at hl 2 rfl) ?_
        refine lv_iconst (pc := 22) (v := 1) hx hb dX2_rowLength_22 (by decide) ?_
        refine lv_isub (pc := 23) hx hb dX2_rowLength_23 ?_
        refine lv_aload_n (pc := 24) hx hb dX2_rowLength_24 rfl (lv_at hl 0 rfl) ?_
        refine va_get (pc := 25) (D := D) (ci := 2) (v := .ref a_g_bandRows) (C := RX2) (T := TX2) (N := 6) hx hb hts hinX2 hown hK hP 0 rfl rfl 2 (by decide) w_2 (fun _ h9 => h9) rfl dX2_rowLength_25 ?_
        refine lv_iload_n (pc := 28) hx hb dX2_rowLength_28 rfl (lv_at hl 1 rfl) ?_
        refine q_iald (pc := 29) hx hb hK hP 1 0 hf rfl rfl dX2_rowLength_29 (fun v2 hf => ?_)
        refine q_idiv (pc := 30) hx hb dX2_rowLength_30 hf (fun v3 hf => ?_)
        refine q_sald (pc := 31) (f := q_bZ) (N := 44) hx hb hf hZ.2.1 hS dX2_rowLength_31 (fun v4 hf => ?_)
        refine lv_aload_n (pc := 32) hx hb dX2_rowLength_32 rfl (lv_at hl 0 rfl) ?_
        refine va_get (pc := 33) (D := D) (ci := 2) (v := .ref a_g_zoneColumns) (C := RX2) (T := TX2) (N := 6) hx hb hts hinX2 hown hK hP 0 rfl rfl 3 (by decide) w_3 (fun _ h9 => h9) rfl dX2_rowLength_33 ?_
        refine lv_iload_n (pc := 36) hx hb dX2_rowLength_36 rfl (lv_at hl 1 rfl) ?_
        refine q_iald (pc := 37) hx hb hK hP 2 0 hf rfl rfl dX2_rowLength_37 (fun v5 hf => ?_)
        refine lv_imul (pc := 38) hx hb dX2_rowLength_38 ?_
        obtain rfl := Option.some.inj hf
        rw [hQ]
        exact q_iretr (pc := 39) hx hb hr hlocks rfl hS dX2_rowLength_39
      · refine lv_iconst (pc := 16) (v := 1) hx hb dX2_rowLength_16 (by decide) ?_
        obtain rfl := Option.some.inj hf
        rw [hQ]
        exact q_iretr (pc := 17) hx hb hr hlocks rfl hS dX2_rowLength_17
  exact hgo _ _ rfl hP hS
/-! X2_placeOfLon -/
set_option maxRecDepth 100000 in
set_option maxHeartbeats 4000000 in
theorem c_Grid_placeOfLon (l : Launch) (D : va_G) (ci : Nat → ClassId) (A : Nat → Prop) (sa : Nat → Nat) (N : Nat) (Rw : va_W) (a_g : Nat) (a_g_rowCuts : Nat) (a_g_columnCuts : Nat) (a_g_bandRows : Nat) (a_g_zoneColumns : Nat) (a_g_rows : Nat) (a_g_sheets : Nat) (g_bandRows : Nat → Int32) (g_zoneColumns : Nat → Int32) (g_rows : Nat → Int32) (p1 : Int32) (p2 : Int32) (p3 : Int32) (r : Int32) (hf : f_Grid_placeOfLon g_bandRows g_zoneColumns g_rows p1 p2 p3 = some r) : Met l yX2_placeOfLon wsX2_placeOfLon ({ frames := 1, cells := 0, slots := 0, locals := 22 }) (va_Pc [.ref a_g, .int p1, .int p2, .int p3] (q_N D ci A sa ((a_g, .inr (2, [.ref a_g_rowCuts, .ref a_g_columnCuts, .ref a_g_bandRows, .ref a_g_zoneColumns, .ref a_g_rows, .ref a_g_sheets])) :: (a_g_bandRows, .inl (ci 0, 5, .inl g_bandRows)) :: (a_g_zoneColumns, .inl (ci 0, 5, .inl g_zoneColumns)) :: (a_g_rows, .inl (ci 0, 5, .inl g_rows)) :: Rw))) (q_R (some (.int r))) 0 0 A := by
  refine q_ofW (cc := cX2_placeOfLon) (maxL := 4) (ret := (some .int)) [.ref a_g, .int p1, .int p2, .int p3] (plainFor_of_name (by decide)) rfl (Nat.le_of_ble_eq_true rfl) ?_
  intro p e s m below meth c ls Q hQ hx hb hml hr hts hown hlocks hK hA hZ hP hD hS hl
  have hl : lv_has ls 4 [(0, .ref a_g), (1, .int p1), (2, .int p2), (3, .int p3)] := hl
  have hown : s.vm.findClass RX2 = some m.cls := hown
  have w_1 := hts (Cond.constantLong RX2 71 (1296000)) (List.mem_cons_of_mem _ t_w798)
  unfold f_Grid_placeOfLon at hf
  have hgo : ∀ (H : Heap) (locs : List Loc), H = s.heap → va_P D vwCl ((a_g, .inr (2, [.ref a_g_rowCuts, .ref a_g_columnCuts, .ref a_g_bandRows, .ref a_g_zoneColumns, .ref a_g_rows, .ref a_g_sheets])) :: (a_g_bandRows, .inl (ci 0, 5, .inl g_bandRows)) :: (a_g_zoneColumns, .inl (ci 0, 5, .inl g_zoneColumns)) :: (a_g_rows, .inl (ci 0, 5, .inl g_rows)) :: Rw) H → va_S A s.heap H locs → W p l e ({ frames := 1, cells := 0, slots := 0, locals := 22 } : Room) s m ([.ref a_g, .int p1, .int p2, .int p3] : List Value).toArray below meth c H locs 0 0 Q (F0 m 0 ls []) := by
    intro H locs hH hP hS
    subst hH
    refine lv_iload_n (pc := 0) hx hb dX2_placeOfLon_0 rfl (lv_at hl 3 rfl) ?_
    refine lv_i2l (pc := 1) hx hb dX2_placeOfLon_1 rfl ?_
    refine lv_aload_n (pc := 2) hx hb dX2_placeOfLon_2 rfl (lv_at hl 0 rfl) ?_
    refine lv_iload_n (pc := 3) hx hb dX2_placeOfLon_3 rfl (lv_at hl 1 rfl) ?_
    refine lv_iload_n (pc := 4) hx hb dX2_placeOfLon_4 rfl (lv_at hl 2 rfl) ?_
    obtain ⟨v1, hm5, hf⟩ := q_b1_e hf
    refine q_cVr (pc := 5) (As := [.int p1, .int p2]) (rest := [.long p3.toInt64]) (v0 := (some (.int v1))) ⟨hx, hb, hml, hown, hts⟩ hK hA hZ hP hD hS hl.1 [0, 1, 2, 3] 4 rfl ⟨rfl, rfl, rfl⟩ (c_Grid_rowLength l D ci A sa N (Rw) a_g a_g_rowCuts a_g_columnCuts a_g_bandRows a_g_zoneColumns a_g_rows a_g_sheets g_bandRows g_zoneColumns g_rows p1 p2 v1 hm5) 0 rfl rfl (cwV 2 hts gX2_placeOfLon_X2_rowLength rfl rfl rfl (by decide +kernel) ⟨Nat.le_of_ble_eq_true rfl, Nat.le_of_ble_eq_true rfl⟩) rfl rfl (Nat.le_of_ble_eq_true rfl) dX2_placeOfLon_5 ⟨Nat.zero_le _, Nat.zero_le _⟩ (fun locs hS => ?_)
    refine lv_i2l (pc := 8) hx hb dX2_placeOfLon_8 rfl ?_
    refine lv_lmul (pc := 9) hx hb dX2_placeOfLon_9 ?_
    refine lv_ldc2 (pc := 10) (v := 1296000) hx hb hown w_1 dX2_placeOfLon_10 ?_
    refine q_ldiv (pc := 13) hx hb dX2_placeOfLon_13 hf (fun v2 hf => ?_)
    refine lv_l2i (pc := 14) hx hb dX2_placeOfLon_14 rfl ?_
    obtain rfl := Option.some.inj hf
    rw [hQ]
    exact q_iretr (pc := 15) hx hb hr hlocks rfl hS dX2_placeOfLon_15
  exact hgo _ _ rfl hP hS
/-! X2_keyOf -/
set_option maxRecDepth 100000 in
set_option maxHeartbeats 4000000 in
theorem c_Grid_keyOf (l : Launch) (D : va_G) (ci : Nat → ClassId) (A : Nat → Prop) (sa : Nat → Nat) (N : Nat) (Rw : va_W) (a_g : Nat) (a_g_rowCuts : Nat) (a_g_columnCuts : Nat) (a_g_bandRows : Nat) (a_g_zoneColumns : Nat) (a_g_rows : Nat) (a_g_sheets : Nat) (g_bandRows : Nat → Int32) (g_zoneColumns : Nat → Int32) (g_rows : Nat → Int32) (g_sheets : Nat → Int32) (p1 : Int32) (p2 : Int32) (p3 : Int32) (r : Int32) (hf : f_Grid_keyOf g_bandRows g_zoneColumns g_rows g_sheets p1 p2 p3 = some r) : Met l yX2_keyOf wsX2_keyOf ({ frames := 2, cells := 0, slots := 0, locals := 49 }) (va_Pc [.ref a_g, .int p1, .int p2, .int p3] (q_N D ci A sa ((a_g, .inr (2, [.ref a_g_rowCuts, .ref a_g_columnCuts, .ref a_g_bandRows, .ref a_g_zoneColumns, .ref a_g_rows, .ref a_g_sheets])) :: (a_g_bandRows, .inl (ci 0, 5, .inl g_bandRows)) :: (a_g_zoneColumns, .inl (ci 0, 5, .inl g_zoneColumns)) :: (a_g_rows, .inl (ci 0, 5, .inl g_rows)) :: (a_g_sheets, .inl (ci 0, 5, .inl g_sheets)) :: Rw))) (q_R (some (.int r))) 0 0 A := by
  refine q_ofW (cc := cX2_keyOf) (maxL := 5) (ret := (some .int)) [.ref a_g, .int p1, .int p2, .int p3] (plainFor_of_name (by decide)) rfl (Nat.le_of_ble_eq_true rfl) ?_
  intro p e s m below meth c ls Q hQ hx hb hml hr hts hown hlocks hK hA hZ hP hD hS hl
  have hl : lv_has ls 5 [(0, .ref a_g), (1, .int p1), (2, .int p2), (3, .int p3)] := hl
  have hown : s.vm.findClass RX2 = some m.cls := hown
  unfold f_Grid_keyOf at hf
  have hgo : ∀ (H : Heap) (locs : List Loc), H = s.heap → va_P D vwCl ((a_g, .inr (2, [.ref a_g_rowCuts, .ref a_g_columnCuts, .ref a_g_bandRows, .ref a_g_zoneColumns, .ref a_g_rows, .ref a_g_sheets])) :: (a_g_bandRows, .inl (ci 0, 5, .inl g_bandRows)) :: (a_g_zoneColumns, .inl (ci 0, 5, .inl g_zoneColumns)) :: (a_g_rows, .inl (ci 0, 5, .inl g_rows)) :: (a_g_sheets, .inl (ci 0, 5, .inl g_sheets)) :: Rw) H → va_S A s.heap H locs → W p l e ({ frames := 2, cells := 0, slots := 0, locals := 49 } : Room) s m ([.ref a_g, .int p1, .int p2, .int p3] : List Value).toArray below meth c H locs 0 0 Q (F0 m 0 ls []) := by
    intro H locs hH hP hS
    subst hH
    refine lv_aload_n (pc := 0) hx hb dX2_keyOf_0 rfl (lv_at hl 0 rfl) ?_
    refine lv_iload_n (pc := 1) hx hb dX2_keyOf_1 rfl (lv_at hl 1 rfl) ?_
    refine lv_iload_n (pc := 2) hx hb dX2_keyOf_2 rfl (lv_at hl 2 rfl) ?_
    obtain ⟨v1, hm3, hf⟩ := q_b1_e hf
    refine q_cVr (pc := 3) (As := [.int p1, .int p2]) (rest := []) (v0 := (some (.int v1))) ⟨hx, hb, hml, hown, hts⟩ hK hA hZ hP hD hS hl.1 [0, 1, 3] 5 rfl ⟨rfl, rfl, rfl⟩ (c_Grid_rowOfLat l D ci A sa N (Rw) a_g a_g_rowCuts a_g_columnCuts a_g_bandRows a_g_zoneColumns a_g_rows a_g_sheets g_bandRows g_rows p1 p2 v1 hm3) 0 rfl rfl (cwV 2 hts gX2_keyOf_X2_rowOfLat rfl rfl rfl (by decide +kernel) ⟨Nat.le_of_ble_eq_true rfl, Nat.le_of_ble_eq_true rfl⟩) rfl rfl (Nat.le_of_ble_eq_true rfl) dX2_keyOf_3 ⟨Nat.zero_le _, Nat.zero_le _⟩ (fun locs hS => ?_)
    refine lv_istore (pc := 6) (lv' := [(4, .int v1), (0, .ref a_g), (1, .int p1), (2, .int p2), (3, .int p3)]) hx hb dX2_keyOf_6 hl (by decide) rfl (fun ls hl => ?_)
    refine lv_aload_n (pc := 8) hx hb dX2_keyOf_8 rfl (lv_at hl 1 rfl) ?_
    refine lv_iload_n (pc := 9) hx hb dX2_keyOf_9 rfl (lv_at hl 2 rfl) ?_
    refine lv_iload (pc := 10) hx hb dX2_keyOf_10 (lv_at hl 0 rfl) ?_
    obtain ⟨v2, hm12, hf⟩ := q_b1_e hf
    refine q_cVr (pc := 12) (As := [.int p1, .int v1]) (rest := []) (v0 := (some (.int v2))) ⟨hx, hb, hml, hown, hts⟩ hK hA hZ hP hD hS hl.1 [0, 1, 2, 3, 4] 5 rfl ⟨rfl, rfl, rfl⟩ (c_Grid_rowStart l D ci A sa N (Rw) a_g a_g_rowCuts a_g_columnCuts a_g_bandRows a_g_zoneColumns a_g_rows a_g_sheets g_bandRows g_zoneColumns g_rows g_sheets p1 v1 v2 hm12) 0 rfl rfl (cwV 2 hts gX2_keyOf_X2_rowStart rfl rfl rfl (by decide +kernel) ⟨Nat.le_of_ble_eq_true rfl, Nat.le_of_ble_eq_true rfl⟩) rfl rfl (Nat.le_of_ble_eq_true rfl) dX2_keyOf_12 ⟨Nat.zero_le _, Nat.zero_le _⟩ (fun locs hS => ?_)
    refine lv_aload_n (pc := 15) hx hb dX2_keyOf_15 rfl (lv_at hl 1 rfl) ?_
    refine lv_iload_n (pc := 16) hx hb dX2_keyOf_16 rfl (lv_at hl 2 rfl) ?_
    refine lv_iload (pc := 17) hx hb dX2_keyOf_17 (lv_at hl 0 rfl) ?_
    refine lv_iload_n (pc := 19) hx hb dX2_keyOf_19 rfl (lv_at hl 4 rfl) ?_
    obtain ⟨v3, hm20, hf⟩ := q_b1_e hf
    refine q_cVr (pc := 20) (As := [.int p1, .int v1, .int p3]) (rest := [.int v2]) (v0 := (some (.int v3))) ⟨hx, hb, hml, hown, hts⟩ hK hA hZ hP hD hS hl.1 [0, 1, 2, 3] 5 rfl ⟨rfl, rfl, rfl⟩ (c_Grid_placeOfLon l D ci A sa N (Rw) a_g a_g_rowCuts a_g_columnCuts a_g_bandRows a_g_zoneColumns a_g_rows a_g_sheets g_bandRows g_zoneColumns g_rows p1 v1 p3 v3 hm20) 0 rfl rfl (cwV 3 hts gX2_keyOf_X2_placeOfLon rfl rfl rfl (by decide +kernel) ⟨Nat.le_of_ble_eq_true rfl, Nat.le_of_ble_eq_true rfl⟩) rfl rfl (Nat.le_of_ble_eq_true rfl) dX2_keyOf_20 ⟨Nat.zero_le _, Nat.zero_le _⟩ (fun locs hS => ?_)
    refine lv_iadd (pc := 23) hx hb dX2_keyOf_23 ?_
    obtain rfl := Option.some.inj hf
    rw [hQ]
    exact q_iretr (pc := 24) hx hb hr hlocks rfl hS dX2_keyOf_24
  exact hgo _ _ rfl hP hS
/-! X2_setCuts -/
set_option maxRecDepth 100000 in
set_option maxHeartbeats 4000000 in
theorem c_Grid_setCuts (l : Launch) (D : va_G) (ci : Nat → ClassId) (A : Nat → Prop) (sa : Nat → Nat) (N : Nat) (Rw : va_W) (a_g : Nat) (a_g_rowCuts : Nat) (a_g_columnCuts : Nat) (a_g_bandRows : Nat) (a_g_zoneColumns : Nat) (a_g_rows : Nat) (a_g_sheets : Nat) (g_rowCuts : Nat → Int32) (g_columnCuts : Nat → Int32) (g_bandRows : Nat → Int32) (g_zoneColumns : Nat → Int32) (g_rows : Nat → Int32) (g_sheets : Nat → Int32) (p1 : Int32) (p2 : Int32) (p3 : Int32) (o1 : Nat → Int32) (o2 : Nat → Int32) (o3 : Nat → Int32) (o4 : Nat → Int32) (o5 : Nat → Int32) (o6 : Nat → Int32) (hf : f_Grid_setCuts N g_rowCuts g_columnCuts g_bandRows g_zoneColumns g_rows g_sheets p1 p2 p3 = some (o1, o2, o3, o4, o5, o6)) : Met l yX2_setCuts wsX2_setCuts ({ frames := 1, cells := 0, slots := 0, locals := 23 }) (va_Pc [.ref a_g, .int p1, .int p2, .int p3] (q_N D ci A sa ((a_g, .inr (2, [.ref a_g_rowCuts, .ref a_g_columnCuts, .ref a_g_bandRows, .ref a_g_zoneColumns, .ref a_g_rows, .ref a_g_sheets])) :: (a_g_rowCuts, .inl (ci 0, 5, .inl g_rowCuts)) :: (a_g_columnCuts, .inl (ci 0, 5, .inl g_columnCuts)) :: (a_g_bandRows, .inl (ci 0, 5, .inl g_bandRows)) :: (a_g_zoneColumns, .inl (ci 0, 5, .inl g_zoneColumns)) :: (a_g_rows, .inl (ci 0, 5, .inl g_rows)) :: (a_g_sheets, .inl (ci 0, 5, .inl g_sheets)) :: Rw))) (q_Q none (q_O D A ((a_g, .inr (2, [.ref a_g_rowCuts, .ref a_g_columnCuts, .ref a_g_bandRows, .ref a_g_zoneColumns, .ref a_g_rows, .ref a_g_sheets])) :: (a_g_rowCuts, .inl (ci 0, 5, .inl o1)) :: (a_g_columnCuts, .inl (ci 0, 5, .inl o2)) :: (a_g_bandRows, .inl (ci 0, 5, .inl o3)) :: (a_g_zoneColumns, .inl (ci 0, 5, .inl o4)) :: (a_g_rows, .inl (ci 0, 5, .inl o5)) :: (a_g_sheets, .inl (ci 0, 5, .inl o6)) :: Rw)) A) 0 0 A := by
  refine q_ofW (cc := cX2_setCuts) (maxL := 4) (ret := none) [.ref a_g, .int p1, .int p2, .int p3] (plainFor_of_name (by decide)) rfl (Nat.le_of_ble_eq_true rfl) ?_
  intro p e s m below meth c ls Q hQ hx hb hml hr hts hown hlocks hK hA hZ hP hD hS hl
  have hl : lv_has ls 4 [(0, .ref a_g), (1, .int p1), (2, .int p2), (3, .int p3)] := hl
  have hown : s.vm.findClass RX2 = some m.cls := hown
  have hinX2 : ∀ w ∈ wsX20, w ∈ wsX2_setCuts := fun _ h => List.mem_cons_of_mem _ (inWX20 _ h)
  have w_1 := hts (Cond.fieldLink RX2 9 "SheetNames$Grid" "rowCuts" "[I") (List.mem_cons_of_mem _ t_w784)
  have w_2 := hts (Cond.fieldLink RX2 15 "SheetNames$Grid" "columnCuts" "[I") (List.mem_cons_of_mem _ t_w785)
  unfold f_Grid_setCuts at hf
  have hgo : ∀ (H : Heap) (locs : List Loc), H = s.heap → va_P D vwCl ((a_g, .inr (2, [.ref a_g_rowCuts, .ref a_g_columnCuts, .ref a_g_bandRows, .ref a_g_zoneColumns, .ref a_g_rows, .ref a_g_sheets])) :: (a_g_rowCuts, .inl (ci 0, 5, .inl g_rowCuts)) :: (a_g_columnCuts, .inl (ci 0, 5, .inl g_columnCuts)) :: (a_g_bandRows, .inl (ci 0, 5, .inl g_bandRows)) :: (a_g_zoneColumns, .inl (ci 0, 5, .inl g_zoneColumns)) :: (a_g_rows, .inl (ci 0, 5, .inl g_rows)) :: (a_g_sheets, .inl (ci 0, 5, .inl g_sheets)) :: Rw) H → va_S A s.heap H locs → W p l e ({ frames := 1, cells := 0, slots := 0, locals := 23 } : Room) s m ([.ref a_g, .int p1, .int p2, .int p3] : List Value).toArray below meth c H locs 0 0 Q (F0 m 0 ls []) := by
    intro H locs hH hP hS
    refine lv_aload_n (pc := 0) hx hb dX2_setCuts_0 rfl (lv_at hl 0 rfl) ?_
    refine va_get (pc := 1) (D := D) (ci := 2) (v := .ref a_g_rowCuts) (C := RX2) (T := TX2) (N := 6) hx hb hts hinX2 hown hK hP 0 rfl rfl 0 (by decide) w_1 (fun _ h9 => h9) rfl dX2_setCuts_1 ?_
    refine lv_iload_n (pc := 4) hx hb dX2_setCuts_4 rfl (lv_at hl 1 rfl) ?_
    refine lv_iload_n (pc := 5) hx hb dX2_setCuts_5 rfl (lv_at hl 2 rfl) ?_
    refine q_iast (pc := 6) hx hb hK hP hD hS 1 0 hf rfl rfl dX2_setCuts_6 (fun f1 H locs hf hP hD hS => ?_)
    obtain ⟨hP, hD⟩ : va_PD D A ((a_g, .inr (2, [.ref a_g_rowCuts, .ref a_g_columnCuts, .ref a_g_bandRows, .ref a_g_zoneColumns, .ref a_g_rows, .ref a_g_sheets])) :: (a_g_rowCuts, .inl (ci 0, 5, .inl f1)) :: (a_g_columnCuts, .inl (ci 0, 5, .inl g_columnCuts)) :: (a_g_bandRows, .inl (ci 0, 5, .inl g_bandRows)) :: (a_g_zoneColumns, .inl (ci 0, 5, .inl g_zoneColumns)) :: (a_g_rows, .inl (ci 0, 5, .inl g_rows)) :: (a_g_sheets, .inl (ci 0, 5, .inl g_sheets)) :: Rw) H := ⟨hP, hD⟩
    refine lv_aload_n (pc := 7) hx hb dX2_setCuts_7 rfl (lv_at hl 0 rfl) ?_
    refine va_get (pc := 8) (D := D) (ci := 2) (v := .ref a_g_columnCuts) (C := RX2) (T := TX2) (N := 6) hx hb hts hinX2 hown hK hP 0 rfl rfl 1 (by decide) w_2 (fun _ h9 => h9) rfl dX2_setCuts_8 ?_
    refine lv_iload_n (pc := 11) hx hb dX2_setCuts_11 rfl (lv_at hl 1 rfl) ?_
    refine lv_iload_n (pc := 12) hx hb dX2_setCuts_12 rfl (lv_at hl 3 rfl) ?_
    refine q_iast (pc := 13) hx hb hK hP hD hS 2 0 hf rfl rfl dX2_setCuts_13 (fun f2 H locs hf hP hD hS => ?_)
    obtain ⟨hP, hD⟩ : va_PD D A ((a_g, .inr (2, [.ref a_g_rowCuts, .ref a_g_columnCuts, .ref a_g_bandRows, .ref a_g_zoneColumns, .ref a_g_rows, .ref a_g_sheets])) :: (a_g_rowCuts, .inl (ci 0, 5, .inl f1)) :: (a_g_columnCuts, .inl (ci 0, 5, .inl f2)) :: (a_g_bandRows, .inl (ci 0, 5, .inl g_bandRows)) :: (a_g_zoneColumns, .inl (ci 0, 5, .inl g_zoneColumns)) :: (a_g_rows, .inl (ci 0, 5, .inl g_rows)) :: (a_g_sheets, .inl (ci 0, 5, .inl g_sheets)) :: Rw) H := ⟨hP, hD⟩
    refine lv_aload_n (pc := 14) hx hb dX2_setCuts_14 rfl (lv_at hl 0 rfl) ?_
    obtain ⟨f3, f4, f5, f6, hm15, hf⟩ := q_b4_e hf
    refine q_cV (pc := 15) (As := []) (rest := []) (v0 := none) ⟨hx, hb, hml, hown, hts⟩ hK hA hZ hP hD hS hl.1 [0, 1, 2, 3, 4, 5, 6] 7 rfl ⟨rfl, rfl, rfl⟩ (c_Grid_multiply l D ci A sa N (Rw) a_g a_g_rowCuts a_g_columnCuts a_g_bandRows a_g_zoneColumns a_g_rows a_g_sheets f1 f2 g_bandRows g_zoneColumns g_rows g_sheets f3 f4 f5 f6 hm15) 0 rfl rfl (cwV 0 hts gX2_setCuts_X2_multiply rfl rfl rfl (by decide +kernel) ⟨Nat.le_of_ble_eq_true rfl, Nat.le_of_ble_eq_true rfl⟩) rfl rfl (Nat.le_of_ble_eq_true rfl) dX2_setCuts_15 ⟨Nat.zero_le _, Nat.zero_le _⟩ [0, 1, 2, 3, 4, 5, 6] 7 rfl ⟨rfl, rfl, rfl⟩ (fun H locs hP hD hS => ?_)
    obtain ⟨hP, hD⟩ : va_PD D A ((a_g, .inr (2, [.ref a_g_rowCuts, .ref a_g_columnCuts, .ref a_g_bandRows, .ref a_g_zoneColumns, .ref a_g_rows, .ref a_g_sheets])) :: (a_g_rowCuts, .inl (ci 0, 5, .inl f1)) :: (a_g_columnCuts, .inl (ci 0, 5, .inl f2)) :: (a_g_bandRows, .inl (ci 0, 5, .inl f3)) :: (a_g_zoneColumns, .inl (ci 0, 5, .inl f4)) :: (a_g_rows, .inl (ci 0, 5, .inl f5)) :: (a_g_sheets, .inl (ci 0, 5, .inl f6)) :: Rw) H := ⟨hP, hD⟩
    obtain ⟨e90, e91, e92, e93, e94, e95⟩ := q_inj6 (Option.some.inj hf)
    rw [hQ, ← e90, ← e91, ← e92, ← e93, ← e94, ← e95]
    exact q_vret (pc := 18) hx hb hr hlocks hP hD hS dX2_setCuts_18
  exact hgo _ _ rfl hP hS
/-! X2_storedLevel -/
set_option maxRecDepth 100000 in
set_option maxHeartbeats 4000000 in
theorem c_Grid_storedLevel (l : Launch) (D : va_G) (ci : Nat → ClassId) (A : Nat → Prop) (sa : Nat → Nat) (N : Nat) (Rw : va_W) (a_g : Nat) (a_g_rowCuts : Nat) (a_g_columnCuts : Nat) (a_g_bandRows : Nat) (a_g_zoneColumns : Nat) (a_g_rows : Nat) (a_g_sheets : Nat) (g_sheets : Nat → Int32) (p1 : Int32) (p2 : Int32) (r : Int32) (hf : f_Grid_storedLevel g_sheets p1 p2 = some r) : Met l yX2_storedLevel wsX2_storedLevel ({ frames := 0, cells := 0, slots := 0, locals := 0 }) (va_Pc [.ref a_g, .int p1, .int p2] (q_N D ci A sa ((a_g, .inr (2, [.ref a_g_rowCuts, .ref a_g_columnCuts, .ref a_g_bandRows, .ref a_g_zoneColumns, .ref a_g_rows, .ref a_g_sheets])) :: (a_g_sheets, .inl (ci 0, 5, .inl g_sheets)) :: Rw))) (q_R (some (.int r))) 0 0 A := by
  refine q_ofW (cc := cX2_storedLevel) (maxL := 3) (ret := (some .int)) [.ref a_g, .int p1, .int p2] (plainFor_of_name (by decide)) rfl (Nat.le_of_ble_eq_true rfl) ?_
  intro p e s m below meth c ls Q hQ hx hb hml hr hts hown hlocks hK hA hZ hP hD hS hl
  have hl : lv_has ls 3 [(0, .ref a_g), (1, .int p1), (2, .int p2)] := hl
  have hown : s.vm.findClass RX2 = some m.cls := hown
  have hinX2 : ∀ w ∈ wsX20, w ∈ wsX2_storedLevel := fun _ h => List.mem_cons_of_mem _ (inWX20 _ h)
  have w_1 := hts (Cond.fieldLink RX2 27 "SheetNames$Grid" "sheets" "[I") (List.mem_cons_of_mem _ t_w788)
  unfold f_Grid_storedLevel at hf
  have hgo : ∀ (H : Heap) (locs : List Loc), H = s.heap → va_P D vwCl ((a_g, .inr (2, [.ref a_g_rowCuts, .ref a_g_columnCuts, .ref a_g_bandRows, .ref a_g_zoneColumns, .ref a_g_rows, .ref a_g_sheets])) :: (a_g_sheets, .inl (ci 0, 5, .inl g_sheets)) :: Rw) H → va_S A s.heap H locs → W p l e ({ frames := 0, cells := 0, slots := 0, locals := 0 } : Room) s m ([.ref a_g, .int p1, .int p2] : List Value).toArray below meth c H locs 0 0 Q (F0 m 0 ls []) := by
    intro H locs hH hP hS
    subst hH
    refine lv_iload_n (pc := 0) hx hb dX2_storedLevel_0 rfl (lv_at hl 2 rfl) ?_
    obtain ⟨k16, ek16, hf⟩ := q_j0_e hf
    have J16 : ∀  (H : Heap) (locs : List Loc) (ls : Array Slot), k16 = some r → H = s.heap → va_S A s.heap H locs → lv_has ls 3 [] → W p l e ({ frames := 0, cells := 0, slots := 0, locals := 0 } : Room) s m ([.ref a_g, .int p1, .int p2] : List Value).toArray below meth c H locs 0 0 Q (F0 m 16 ls []) := by
      intro  H locs ls hf hHs hS hl
      subst hHs
      have hf := (ek16).symm.trans hf
      refine lv_iconst (pc := 16) (v := 0) hx hb dX2_storedLevel_16 (by decide) ?_
      refine lv_goto (pc := 17) (tgt := 21) hx hb dX2_storedLevel_17 (by decide) ?_
      obtain rfl := Option.some.inj hf
      rw [hQ]
      exact q_iretr (pc := 21) hx hb hr hlocks rfl hS dX2_storedLevel_21
    refine q_if_eq (pc := 1) (tgt := 16) hx hb dX2_storedLevel_1 (by decide) rfl hf (fun hf => ?_) (fun hf => ?_)
    · exact J16  _ _ _ hf rfl hS (lv_sub hl [] rfl)
    · refine lv_iload_n (pc := 4) hx hb dX2_storedLevel_4 rfl (lv_at hl 2 rfl) ?_
      refine lv_aload_n (pc := 5) hx hb dX2_storedLevel_5 rfl (lv_at hl 0 rfl) ?_
      refine va_get (pc := 6) (D := D) (ci := 2) (v := .ref a_g_sheets) (C := RX2) (T := TX2) (N := 6) hx hb hts hinX2 hown hK hP 0 rfl rfl 5 (by decide) w_1 (fun _ h9 => h9) rfl dX2_storedLevel_6 ?_
      refine lv_iload_n (pc := 9) hx hb dX2_storedLevel_9 rfl (lv_at hl 1 rfl) ?_
      refine q_iald (pc := 10) hx hb hK hP 1 0 hf rfl rfl dX2_storedLevel_10 (fun v1 hf => ?_)
      refine lv_iconst (pc := 11) (v := 1) hx hb dX2_storedLevel_11 (by decide) ?_
      refine lv_isub (pc := 12) hx hb dX2_storedLevel_12 ?_
      refine q_icmp_ne (pc := 13) (tgt := 20) hx hb dX2_storedLevel_13 (by decide) rfl hf (fun hf => ?_) (fun hf => ?_)
      · refine lv_iload_n (pc := 20) hx hb dX2_storedLevel_20 rfl (lv_at hl 1 rfl) ?_
        obtain rfl := Option.some.inj hf
        rw [hQ]
        exact q_iretr (pc := 21) hx hb hr hlocks rfl hS dX2_storedLevel_21
      · exact J16  _ _ _ hf rfl hS (lv_sub hl [] rfl)
  exact hgo _ _ rfl hP hS
end
section
/-! X6_addCorner -/
set_option maxRecDepth 100000 in
set_option maxHeartbeats 4000000 in
theorem c_Spot_addCorner (l : Launch) (D : va_G) (ci : Nat → ClassId) (A : Nat → Prop) (sa : Nat → Nat) (N : Nat) (Rw : va_W) (a_sp : Nat) (a_g : Nat) (a_sp_first : Nat) (a_sp_many : Nat) (a_sp_corner : Nat) (sp_cornerCount : Int32) (sp_level : Int32) (sp_row : Int32) (sp_start : Int32) (sp_place : Int32) (sp_length : Int32) (sp_cap : Int32) (sp_corner : Nat → Int32) (p1 : Int32) (o1 : Nat → Int32) (o2 : Int32) (hf : f_Spot_addCorner N sp_corner sp_cornerCount p1 = some (o1, o2)) : Met l yX6_addCorner wsX6_addCorner ({ frames := 0, cells := 0, slots := 0, locals := 0 }) (va_Pc [.ref a_sp, .int p1] (q_N D ci A sa ((a_sp, .inr (6, [.ref a_g, .ref a_sp_first, .ref a_sp_many, .ref a_sp_corner, .int sp_cornerCount, .int sp_level, .int sp_row, .int sp_start, .int sp_place, .int sp_length, .int sp_cap])) :: (a_sp_corner, .inl (ci 0, 4, .inl sp_corner)) :: Rw))) (q_Q none (q_O D A ((a_sp, .inr (6, [.ref a_g, .ref a_sp_first, .ref a_sp_many, .ref a_sp_corner, .int o2, .int sp_level, .int sp_row, .int sp_start, .int sp_place, .int sp_length, .int sp_cap])) :: (a_sp_corner, .inl (ci 0, 4, .inl o1)) :: Rw)) A) 0 0 A := by
  refine q_ofW (cc := cX6_addCorner) (maxL := 3) (ret := none) [.ref a_sp, .int p1] (plainFor_of_name (by decide)) rfl (Nat.le_of_ble_eq_true rfl) ?_
  intro p e s m below meth c ls Q hQ hx hb hml hr hts hown hlocks hK hA hZ hP hD hS hl
  have hl : lv_has ls 3 [(0, .ref a_sp), (1, .int p1)] := hl
  have hown : s.vm.findClass RX6 = some m.cls := hown
  have hinX6 : ∀ w ∈ wsX60, w ∈ wsX6_addCorner := fun _ h => List.mem_cons_of_mem _ (inWX60 _ h)
  have w_1 := hts (Cond.fieldLink RX6 21 "SheetNames$Spot" "cornerCount" "I") (List.mem_cons_of_mem _ t_w799)
  have w_2 := hts (Cond.fieldLink RX6 18 "SheetNames$Spot" "corner" "[I") (List.mem_cons_of_mem _ t_w800)
  unfold f_Spot_addCorner at hf
  have hgo : ∀ (H : Heap) (locs : List Loc), H = s.heap → va_P D vwCl ((a_sp, .inr (6, [.ref a_g, .ref a_sp_first, .ref a_sp_many, .ref a_sp_corner, .int sp_cornerCount, .int sp_level, .int sp_row, .int sp_start, .int sp_place, .int sp_length, .int sp_cap])) :: (a_sp_corner, .inl (ci 0, 4, .inl sp_corner)) :: Rw) H → va_S A s.heap H locs → W p l e ({ frames := 0, cells := 0, slots := 0, locals := 0 } : Room) s m ([.ref a_sp, .int p1] : List Value).toArray below meth c H locs 0 0 Q (F0 m 0 ls []) := by
    intro H locs hH hP hS
    refine lv_aload_n (pc := 0) hx hb dX6_addCorner_0 rfl (lv_at hl 0 rfl) ?_
    refine va_get (pc := 1) (D := D) (ci := 6) (v := .int sp_cornerCount) (C := RX6) (T := TX6) (N := 11) hx hb hts hinX6 hown hK hP 0 rfl rfl 4 (by decide) w_1 (fun _ h9 => h9) rfl dX6_addCorner_1 ?_
    refine lv_istore_n (pc := 4) (lv' := [(2, .int sp_cornerCount), (0, .ref a_sp), (1, .int p1)]) hx hb dX6_addCorner_4 rfl hl (by decide) rfl (fun ls hl => ?_)
    refine lv_iload_n (pc := 5) hx hb dX6_addCorner_5 rfl (lv_at hl 0 rfl) ?_
    refine lv_aload_n (pc := 6) hx hb dX6_addCorner_6 rfl (lv_at hl 1 rfl) ?_
    refine va_get (pc := 7) (D := D) (ci := 6) (v := .ref a_sp_corner) (C := RX6) (T := TX6) (N := 11) hx hb hts hinX6 hown hK hP 0 rfl rfl 3 (by decide) w_2 (fun _ h9 => h9) rfl dX6_addCorner_7 ?_
    refine va_alen (pc := 10) (v := 4) hx hb hK hP 1 0 rfl rfl rfl dX6_addCorner_10 ?_
    refine q_icmp_lt (pc := 11) (tgt := 15) hx hb dX6_addCorner_11 (by decide) rfl hf (fun hf => ?_) (fun hf => ?_)
    · obtain ⟨v3, f4, hm15, hf⟩ := q_b2_e hf
      have JE15 : ∀ (H : Heap) (locs : List Loc) (ls : Array Slot), va_P D vwCl ((a_sp, .inr (6, [.ref a_g, .ref a_sp_first, .ref a_sp_many, .ref a_sp_corner, .int sp_cornerCount, .int sp_level, .int sp_row, .int sp_start, .int sp_place, .int sp_length, .int sp_cap])) :: (a_sp_corner, .inl (ci 0, 4, .inl f4)) :: Rw) H → va_D A ((a_sp, .inr (6, [.ref a_g, .ref a_sp_first, .ref a_sp_many, .ref a_sp_corner, .int sp_cornerCount, .int sp_level, .int sp_row, .int sp_start, .int sp_place, .int sp_length, .int sp_cap])) :: (a_sp_corner, .inl (ci 0, 4, .inl f4)) :: Rw) → va_S A s.heap H locs → lv_has ls 3 [(0, .ref a_sp), (1, .int p1), (2, .int v3)] → W p l e ({ frames := 0, cells := 0, slots := 0, locals := 0 } : Room) s m ([.ref a_sp, .int p1] : List Value).toArray below meth c H locs 0 0 Q (F0 m 51 ls []) := by
        intro H locs ls hP hD hS hl
        refine lv_aload_n (pc := 51) hx hb dX6_addCorner_51 rfl (lv_at hl 0 rfl) ?_
        refine va_get (pc := 52) (D := D) (ci := 6) (v := .ref a_sp_corner) (C := RX6) (T := TX6) (N := 11) hx hb hts hinX6 hown hK hP 0 rfl rfl 3 (by decide) w_2 (fun _ h9 => h9) rfl dX6_addCorner_52 ?_
        refine lv_iload_n (pc := 55) hx hb dX6_addCorner_55 rfl (lv_at hl 2 rfl) ?_
        refine lv_iload_n (pc := 56) hx hb dX6_addCorner_56 rfl (lv_at hl 1 rfl) ?_
        refine q_iast (pc := 57) hx hb hK hP hD hS 1 0 hf rfl rfl dX6_addCorner_57 (fun f5 H locs hf hP hD hS => ?_)
        obtain ⟨hP, hD⟩ : va_PD D A ((a_sp, .inr (6, [.ref a_g, .ref a_sp_first, .ref a_sp_many, .ref a_sp_corner, .int sp_cornerCount, .int sp_level, .int sp_row, .int sp_start, .int sp_place, .int sp_length, .int sp_cap])) :: (a_sp_corner, .inl (ci 0, 4, .inl f5)) :: Rw) H := ⟨hP, hD⟩
        refine lv_aload_n (pc := 58) hx hb dX6_addCorner_58 rfl (lv_at hl 0 rfl) ?_
        refine lv_dup (pc := 59) hx hb dX6_addCorner_59 rfl ?_
        refine va_get (pc := 60) (D := D) (ci := 6) (v := .int sp_cornerCount) (C := RX6) (T := TX6) (N := 11) hx hb hts hinX6 hown hK hP 0 rfl rfl 4 (by decide) w_1 (fun _ h9 => h9) rfl dX6_addCorner_60 ?_
        refine lv_iconst (pc := 63) (v := 1) hx hb dX6_addCorner_63 (by decide) ?_
        refine lv_iadd (pc := 64) hx hb dX6_addCorner_64 ?_
        obtain ⟨v6, ev6, hf⟩ := q_nm_e hf
        refine q_topi ev6 ?_
        refine va_put (pc := 65) (D := D) (ci := 6) (v := .int v6) (ty := .int) (C := RX6) (T := TX6) (N := 11) hx hb hts hinX6 tyX6 tyX6_ok nmX6 hown hK hP hD hS 0 rfl rfl 4 (by decide) w_1 (fun _ h9 => h9) rfl (by decide +kernel) rfl rfl (Nat.le_of_ble_eq_true rfl) dX6_addCorner_65 (fun H locs hP hD hS => ?_)
        obtain ⟨hP, hD⟩ : va_PD D A ((a_sp, .inr (6, [.ref a_g, .ref a_sp_first, .ref a_sp_many, .ref a_sp_corner, .int v6, .int sp_level, .int sp_row, .int sp_start, .int sp_place, .int sp_length, .int sp_cap])) :: (a_sp_corner, .inl (ci 0, 4, .inl f5)) :: Rw) H := ⟨hP, hD⟩
        obtain ⟨rfl, rfl⟩ := q_inj2 (Option.some.inj hf)
        rw [hQ]
        exact q_vret (pc := 68) hx hb hr hlocks hP hD hS dX6_addCorner_68
      have LP15 : ∀ (n15 : Nat) (v1 : Int32) (f2 : Nat → Int32) (H : Heap) (locs : List Loc) (ls : Array Slot), f_Spot_addCorner_L15 p1 n15 v1 f2 = some (v3, f4) → va_P D vwCl ((a_sp, .inr (6, [.ref a_g, .ref a_sp_first, .ref a_sp_many, .ref a_sp_corner, .int sp_cornerCount, .int sp_level, .int sp_row, .int sp_start, .int sp_place, .int sp_length, .int sp_cap])) :: (a_sp_corner, .inl (ci 0, 4, .inl f2)) :: Rw) H → va_D A ((a_sp, .inr (6, [.ref a_g, .ref a_sp_first, .ref a_sp_many, .ref a_sp_corner, .int sp_cornerCount, .int sp_level, .int sp_row, .int sp_start, .int sp_place, .int sp_length, .int sp_cap])) :: (a_sp_corner, .inl (ci 0, 4, .inl f2)) :: Rw) → va_S A s.heap H locs → lv_has ls 3 [(0, .ref a_sp), (1, .int p1), (2, .int v1)] → W p l e ({ frames := 0, cells := 0, slots := 0, locals := 0 } : Room) s m ([.ref a_sp, .int p1] : List Value).toArray below meth c H locs 0 0 Q (F0 m 15 ls []) := by
        intro n15
        induction n15 with
        | zero => intro v1 f2 H locs ls hf; rw [f_Spot_addCorner_L15] at hf; cases hf
        | succ n15 ih15 =>
          intro v1 f2 H locs ls hf hP hD hS hl
          rw [f_Spot_addCorner_L15] at hf
          refine lv_iload_n (pc := 15) hx hb dX6_addCorner_15 rfl (lv_at hl 2 rfl) ?_
          refine q_if_le (pc := 16) (tgt := 51) hx hb dX6_addCorner_16 (by decide) rfl hf (fun hf => ?_) (fun hf => ?_)
          · obtain ⟨rfl, rfl⟩ := q_inj2 (Option.some.inj hf)
            exact JE15 _ _ _ hP hD hS (lv_sub hl [0, 1, 2] rfl)
          · refine lv_aload_n (pc := 19) hx hb dX6_addCorner_19 rfl (lv_at hl 0 rfl) ?_
            refine va_get (pc := 20) (D := D) (ci := 6) (v := .ref a_sp_corner) (C := RX6) (T := TX6) (N := 11) hx hb hts hinX6 hown hK hP 0 rfl rfl 3 (by decide) w_2 (fun _ h9 => h9) rfl dX6_addCorner_20 ?_
            refine lv_iload_n (pc := 23) hx hb dX6_addCorner_23 rfl (lv_at hl 2 rfl) ?_
            refine lv_iconst (pc := 24) (v := 1) hx hb dX6_addCorner_24 (by decide) ?_
            refine lv_isub (pc := 25) hx hb dX6_addCorner_25 ?_
            refine q_iald (pc := 26) hx hb hK hP 1 0 hf rfl rfl dX6_addCorner_26 (fun v7 hf => ?_)
            refine lv_iload_n (pc := 27) hx hb dX6_addCorner_27 rfl (lv_at hl 1 rfl) ?_
            refine q_icmp_le (pc := 28) (tgt := 51) hx hb dX6_addCorner_28 (by decide) rfl hf (fun hf => ?_) (fun hf => ?_)
            · obtain ⟨rfl, rfl⟩ := q_inj2 (Option.some.inj hf)
              exact JE15 _ _ _ hP hD hS (lv_sub hl [0, 1, 2] rfl)
            · refine lv_aload_n (pc := 31) hx hb dX6_addCorner_31 rfl (lv_at hl 0 rfl) ?_
              refine va_get (pc := 32) (D := D) (ci := 6) (v := .ref a_sp_corner) (C := RX6) (T := TX6) (N := 11) hx hb hts hinX6 hown hK hP 0 rfl rfl 3 (by decide) w_2 (fun _ h9 => h9) rfl dX6_addCorner_32 ?_
              refine lv_iload_n (pc := 35) hx hb dX6_addCorner_35 rfl (lv_at hl 2 rfl) ?_
              refine lv_aload_n (pc := 36) hx hb dX6_addCorner_36 rfl (lv_at hl 0 rfl) ?_
              refine va_get (pc := 37) (D := D) (ci := 6) (v := .ref a_sp_corner) (C := RX6) (T := TX6) (N := 11) hx hb hts hinX6 hown hK hP 0 rfl rfl 3 (by decide) w_2 (fun _ h9 => h9) rfl dX6_addCorner_37 ?_
              refine lv_iload_n (pc := 40) hx hb dX6_addCorner_40 rfl (lv_at hl 2 rfl) ?_
              refine lv_iconst (pc := 41) (v := 1) hx hb dX6_addCorner_41 (by decide) ?_
              refine lv_isub (pc := 42) hx hb dX6_addCorner_42 ?_
              refine q_iald (pc := 43) hx hb hK hP 1 0 hf rfl rfl dX6_addCorner_43 (fun v8 hf => ?_)
              refine q_iast (pc := 44) hx hb hK hP hD hS 1 0 hf rfl rfl dX6_addCorner_44 (fun f9 H locs hf hP hD hS => ?_)
              obtain ⟨hP, hD⟩ : va_PD D A ((a_sp, .inr (6, [.ref a_g, .ref a_sp_first, .ref a_sp_many, .ref a_sp_corner, .int sp_cornerCount, .int sp_level, .int sp_row, .int sp_start, .int sp_place, .int sp_length, .int sp_cap])) :: (a_sp_corner, .inl (ci 0, 4, .inl f9)) :: Rw) H := ⟨hP, hD⟩
              obtain ⟨v10, ev10, hf⟩ := q_nm_e hf
              refine lv_iinc (pc := 45) (v := v10) (lv' := [(2, .int v10), (0, .ref a_sp), (1, .int p1)]) hx hb dX6_addCorner_45 hl (k := 2) rfl (by rw [ev10]; rfl) (by decide) rfl (fun ls hl => ?_)
              refine lv_goto (pc := 48) (tgt := 15) hx hb dX6_addCorner_48 (by decide) ?_
              exact ih15 v10 f9 _ _ _ hf hP hD hS (lv_sub hl [1, 2, 0] rfl)
      exact LP15 N sp_cornerCount sp_corner _ _ _ hm15 hP hD hS (lv_sub hl [1, 2, 0] rfl)
    · obtain ⟨rfl, rfl⟩ := q_inj2 (Option.some.inj hf)
      rw [hQ]
      exact q_vret (pc := 14) hx hb hr hlocks hP hD hS dX6_addCorner_14
  exact hgo _ _ rfl hP hS
/-! X6_addCorners -/
set_option maxRecDepth 100000 in
set_option maxHeartbeats 4000000 in
theorem c_Spot_addCorners (l : Launch) (D : va_G) (ci : Nat → ClassId) (A : Nat → Prop) (sa : Nat → Nat) (N : Nat) (Rw : va_W) (a_sp : Nat) (a_g : Nat) (a_sp_first : Nat) (a_sp_many : Nat) (a_sp_corner : Nat) (a_g_rowCuts : Nat) (a_g_columnCuts : Nat) (a_g_bandRows : Nat) (a_g_zoneColumns : Nat) (a_g_rows : Nat) (a_g_sheets : Nat) (sp_cornerCount : Int32) (sp_level : Int32) (sp_row : Int32) (sp_start : Int32) (sp_place : Int32) (sp_length : Int32) (sp_cap : Int32) (sp_corner : Nat → Int32) (g_bandRows : Nat → Int32) (g_zoneColumns : Nat → Int32) (g_rows : Nat → Int32) (g_sheets : Nat → Int32) (p1 : Int32) (o1 : Nat → Int32) (o2 : Int32) (hf : f_Spot_addCorners N sp_corner sp_cornerCount sp_level sp_place sp_length g_bandRows g_zoneColumns g_rows g_sheets p1 = some (o1, o2)) : Met l yX6_addCorners wsX6_addCorners ({ frames := 1, cells := 0, slots := 0, locals := 25 }) (va_Pc [.ref a_sp, .int p1] (q_N D ci A sa ((a_sp, .inr (6, [.ref a_g, .ref a_sp_first, .ref a_sp_many, .ref a_sp_corner, .int sp_cornerCount, .int sp_level, .int sp_row, .int sp_start, .int sp_place, .int sp_length, .int sp_cap])) :: (a_sp_corner, .inl (ci 0, 4, .inl sp_corner)) :: (a_g, .inr (2, [.ref a_g_rowCuts, .ref a_g_columnCuts, .ref a_g_bandRows, .ref a_g_zoneColumns, .ref a_g_rows, .ref a_g_sheets])) :: (a_g_bandRows, .inl (ci 0, 5, .inl g_bandRows)) :: (a_g_zoneColumns, .inl (ci 0, 5, .inl g_zoneColumns)) :: (a_g_rows, .inl (ci 0, 5, .inl g_rows)) :: (a_g_sheets, .inl (ci 0, 5, .inl g_sheets)) :: Rw))) (q_Q none (q_O D A ((a_sp, .inr (6, [.ref a_g, .ref a_sp_first, .ref a_sp_many, .ref a_sp_corner, .int o2, .int sp_level, .int sp_row, .int sp_start, .int sp_place, .int sp_length, .int sp_cap])) :: (a_sp_corner, .inl (ci 0, 4, .inl o1)) :: (a_g, .inr (2, [.ref a_g_rowCuts, .ref a_g_columnCuts, .ref a_g_bandRows, .ref a_g_zoneColumns, .ref a_g_rows, .ref a_g_sheets])) :: (a_g_bandRows, .inl (ci 0, 5, .inl g_bandRows)) :: (a_g_zoneColumns, .inl (ci 0, 5, .inl g_zoneColumns)) :: (a_g_rows, .inl (ci 0, 5, .inl g_rows)) :: (a_g_sheets, .inl (ci 0, 5, .inl g_sheets)) :: Rw)) A) 0 0 A := by
  refine q_ofW (cc := cX6_addCorners) (maxL := 8) (ret := none) [.ref a_sp, .int p1] (plainFor_of_name (by decide)) rfl (Nat.le_of_ble_eq_true rfl) ?_
  intro p e s m below meth c ls Q hQ hx hb hml hr hts hown hlocks hK hA hZ hP hD hS hl
  have hl : lv_has ls 8 [(0, .ref a_sp), (1, .int p1)] := hl
  have hown : s.vm.findClass RX6 = some m.cls := hown
  have hinX6 : ∀ w ∈ wsX60, w ∈ wsX6_addCorners := fun _ h => List.mem_cons_of_mem _ (inWX60 _ h)
  have w_1 := hts (Cond.fieldLink RX6 44 "SheetNames$Spot" "grid" "LSheetNames$Grid;") (List.mem_cons_of_mem _ t_w801)
  have w_2 := hts (Cond.fieldLink RX6 25 "SheetNames$Spot" "level" "I") (List.mem_cons_of_mem _ t_w802)
  have w_3 := hts (Cond.fieldLink RX6 34 "SheetNames$Spot" "place" "I") (List.mem_cons_of_mem _ t_w803)
  have w_4 := hts (Cond.fieldLink RX6 37 "SheetNames$Spot" "length" "I") (List.mem_cons_of_mem _ t_w804)
  unfold f_Spot_addCorners at hf
  have hgo : ∀ (H : Heap) (locs : List Loc), H = s.heap → va_P D vwCl ((a_sp, .inr (6, [.ref a_g, .ref a_sp_first, .ref a_sp_many, .ref a_sp_corner, .int sp_cornerCount, .int sp_level, .int sp_row, .int sp_start, .int sp_place, .int sp_length, .int sp_cap])) :: (a_sp_corner, .inl (ci 0, 4, .inl sp_corner)) :: (a_g, .inr (2, [.ref a_g_rowCuts, .ref a_g_columnCuts, .ref a_g_bandRows, .ref a_g_zoneColumns, .ref a_g_rows, .ref a_g_sheets])) :: (a_g_bandRows, .inl (ci 0, 5, .inl g_bandRows)) :: (a_g_zoneColumns, .inl (ci 0, 5, .inl g_zoneColumns)) :: (a_g_rows, .inl (ci 0, 5, .inl g_rows)) :: (a_g_sheets, .inl (ci 0, 5, .inl g_sheets)) :: Rw) H → va_S A s.heap H locs → W p l e ({ frames := 1, cells := 0, slots := 0, locals := 25 } : Room) s m ([.ref a_sp, .int p1] : List Value).toArray below meth c H locs 0 0 Q (F0 m 0 ls []) := by
    intro H locs hH hP hS
    refine lv_aload_n (pc := 0) hx hb dX6_addCorners_0 rfl (lv_at hl 0 rfl) ?_
    refine va_get (pc := 1) (D := D) (ci := 6) (v := .ref a_g) (C := RX6) (T := TX6) (N := 11) hx hb hts hinX6 hown hK hP 0 rfl rfl 0 (by decide) w_1 (fun _ h9 => h9) rfl dX6_addCorners_1 ?_
    refine lv_aload_n (pc := 4) hx hb dX6_addCorners_4 rfl (lv_at hl 0 rfl) ?_
    refine va_get (pc := 5) (D := D) (ci := 6) (v := .int sp_level) (C := RX6) (T := TX6) (N := 11) hx hb hts hinX6 hown hK hP 0 rfl rfl 5 (by decide) w_2 (fun _ h9 => h9) rfl dX6_addCorners_5 ?_
    refine lv_iload_n (pc := 8) hx hb dX6_addCorners_8 rfl (lv_at hl 1 rfl) ?_
    obtain ⟨v1, hm9, hf⟩ := q_b1_e hf
    refine q_cVr (pc := 9) (As := [.int sp_level, .int p1]) (rest := []) (v0 := (some (.int v1))) ⟨hx, hb, hml, hown, hts⟩ hK hA hZ hP hD hS hl.1 [2, 5] 7 rfl ⟨rfl, rfl, rfl⟩ (c_Grid_isCapRow l D ci A sa N (Rw) a_g a_g_rowCuts a_g_columnCuts a_g_bandRows a_g_zoneColumns a_g_rows a_g_sheets g_rows sp_level p1 v1 hm9) 2 rfl rfl (cwV 2 hts gX6_addCorners_X2_isCapRow rfl rfl rfl (by decide +kernel) ⟨Nat.le_of_ble_eq_true rfl, Nat.le_of_ble_eq_true rfl⟩) rfl rfl (Nat.le_of_ble_eq_true rfl) dX6_addCorners_9 ⟨Nat.zero_le _, Nat.zero_le _⟩ (fun locs hS => ?_)
    refine q_if_eq (pc := 12) (tgt := 16) hx hb dX6_addCorners_12 (by decide) rfl hf (fun hf => ?_) (fun hf => ?_)
    · refine lv_aload_n (pc := 16) hx hb dX6_addCorners_16 rfl (lv_at hl 0 rfl) ?_
      refine va_get (pc := 17) (D := D) (ci := 6) (v := .ref a_g) (C := RX6) (T := TX6) (N := 11) hx hb hts hinX6 hown hK hP 0 rfl rfl 0 (by decide) w_1 (fun _ h9 => h9) rfl dX6_addCorners_17 ?_
      refine lv_aload_n (pc := 20) hx hb dX6_addCorners_20 rfl (lv_at hl 0 rfl) ?_
      refine va_get (pc := 21) (D := D) (ci := 6) (v := .int sp_level) (C := RX6) (T := TX6) (N := 11) hx hb hts hinX6 hown hK hP 0 rfl rfl 5 (by decide) w_2 (fun _ h9 => h9) rfl dX6_addCorners_21 ?_
      refine lv_iload_n (pc := 24) hx hb dX6_addCorners_24 rfl (lv_at hl 1 rfl) ?_
      obtain ⟨v2, hm25, hf⟩ := q_b1_e hf
      refine q_cVr (pc := 25) (As := [.int sp_level, .int p1]) (rest := []) (v0 := (some (.int v2))) ⟨hx, hb, hml, hown, hts⟩ hK hA hZ hP hD hS hl.1 [2, 3, 4, 5] 7 rfl ⟨rfl, rfl, rfl⟩ (c_Grid_rowLength l D ci A sa N (Rw) a_g a_g_rowCuts a_g_columnCuts a_g_bandRows a_g_zoneColumns a_g_rows a_g_sheets g_bandRows g_zoneColumns g_rows sp_level p1 v2 hm25) 2 rfl rfl (cwV 2 hts gX6_addCorners_X2_rowLength rfl rfl rfl (by decide +kernel) ⟨Nat.le_of_ble_eq_true rfl, Nat.le_of_ble_eq_true rfl⟩) rfl rfl (Nat.le_of_ble_eq_true rfl) dX6_addCorners_25 ⟨Nat.zero_le _, Nat.zero_le _⟩ (fun locs hS => ?_)
      refine lv_istore_n (pc := 28) (lv' := [(2, .int v2), (0, .ref a_sp), (1, .int p1)]) hx hb dX6_addCorners_28 rfl hl (by decide) rfl (fun ls hl => ?_)
      refine lv_aload_n (pc := 29) hx hb dX6_addCorners_29 rfl (lv_at hl 1 rfl) ?_
      refine va_get (pc := 30) (D := D) (ci := 6) (v := .ref a_g) (C := RX6) (T := TX6) (N := 11) hx hb hts hinX6 hown hK hP 0 rfl rfl 0 (by decide) w_1 (fun _ h9 => h9) rfl dX6_addCorners_30 ?_
      refine lv_aload_n (pc := 33) hx hb dX6_addCorners_33 rfl (lv_at hl 1 rfl) ?_
      refine va_get (pc := 34) (D := D) (ci := 6) (v := .int sp_level) (C := RX6) (T := TX6) (N := 11) hx hb hts hinX6 hown hK hP 0 rfl rfl 5 (by decide) w_2 (fun _ h9 => h9) rfl dX6_addCorners_34 ?_
      refine lv_iload_n (pc := 37) hx hb dX6_addCorners_37 rfl (lv_at hl 2 rfl) ?_
      obtain ⟨v3, hm38, hf⟩ := q_b1_e hf
      refine q_cVr (pc := 38) (As := [.int sp_level, .int p1]) (rest := []) (v0 := (some (.int v3))) ⟨hx, hb, hml, hown, hts⟩ hK hA hZ hP hD hS hl.1 [2, 3, 4, 5, 6] 7 rfl ⟨rfl, rfl, rfl⟩ (c_Grid_rowStart l D ci A sa N (Rw) a_g a_g_rowCuts a_g_columnCuts a_g_bandRows a_g_zoneColumns a_g_rows a_g_sheets g_bandRows g_zoneColumns g_rows g_sheets sp_level p1 v3 hm38) 2 rfl rfl (cwV 2 hts gX6_addCorners_X2_rowStart rfl rfl rfl (by decide +kernel) ⟨Nat.le_of_ble_eq_true rfl, Nat.le_of_ble_eq_true rfl⟩) rfl rfl (Nat.le_of_ble_eq_true rfl) dX6_addCorners_38 ⟨Nat.zero_le _, Nat.zero_le _⟩ (fun locs hS => ?_)
      refine lv_istore_n (pc := 41) (lv' := [(3, .int v3), (2, .int v2), (0, .ref a_sp), (1, .int p1)]) hx hb dX6_addCorners_41 rfl hl (by decide) rfl (fun ls hl => ?_)
      refine lv_aload_n (pc := 42) hx hb dX6_addCorners_42 rfl (lv_at hl 2 rfl) ?_
      refine va_get (pc := 43) (D := D) (ci := 6) (v := .int sp_place) (C := RX6) (T := TX6) (N := 11) hx hb hts hinX6 hown hK hP 0 rfl rfl 8 (by decide) w_3 (fun _ h9 => h9) rfl dX6_addCorners_43 ?_
      refine lv_i2l (pc := 46) hx hb dX6_addCorners_46 rfl ?_
      refine lv_iload_n (pc := 47) hx hb dX6_addCorners_47 rfl (lv_at hl 1 rfl) ?_
      refine lv_i2l (pc := 48) hx hb dX6_addCorners_48 rfl ?_
      refine lv_lmul (pc := 49) hx hb dX6_addCorners_49 ?_
      obtain ⟨v4, ev4, hf⟩ := q_nm_e hf
      refine q_topl ev4 ?_
      refine lv_lstore (pc := 50) (lv' := [(4, .long v4), (3, .int v3), (2, .int v2), (0, .ref a_sp), (1, .int p1)]) hx hb dX6_addCorners_50 hl (by decide) rfl (fun ls hl => ?_)
      refine lv_lload (pc := 52) hx hb dX6_addCorners_52 (lv_at hl 0 rfl) ?_
      refine lv_aload_n (pc := 54) hx hb dX6_addCorners_54 rfl (lv_at hl 3 rfl) ?_
      refine va_get (pc := 55) (D := D) (ci := 6) (v := .int sp_length) (C := RX6) (T := TX6) (N := 11) hx hb hts hinX6 hown hK hP 0 rfl rfl 9 (by decide) w_4 (fun _ h9 => h9) rfl dX6_addCorners_55 ?_
      refine lv_i2l (pc := 58) hx hb dX6_addCorners_58 rfl ?_
      refine q_lrem (pc := 59) hx hb dX6_addCorners_59 hf (fun v5 hf => ?_)
      refine lv_lconst (pc := 60) (v := 0) hx hb dX6_addCorners_60 (by decide) ?_
      refine W.lcmp (pc := 61) hx hb dX6_addCorners_61 ?_
      obtain ⟨k87, ek87, hf⟩ := q_j2_e hf
      have J87 : ∀ (f6 : Nat → Int32) (v7 : Int32) (H : Heap) (locs : List Loc) (ls : Array Slot), k87 f6 v7 = some (o1, o2) → va_P D vwCl ((a_sp, .inr (6, [.ref a_g, .ref a_sp_first, .ref a_sp_many, .ref a_sp_corner, .int v7, .int sp_level, .int sp_row, .int sp_start, .int sp_place, .int sp_length, .int sp_cap])) :: (a_sp_corner, .inl (ci 0, 4, .inl f6)) :: (a_g, .inr (2, [.ref a_g_rowCuts, .ref a_g_columnCuts, .ref a_g_bandRows, .ref a_g_zoneColumns, .ref a_g_rows, .ref a_g_sheets])) :: (a_g_bandRows, .inl (ci 0, 5, .inl g_bandRows)) :: (a_g_zoneColumns, .inl (ci 0, 5, .inl g_zoneColumns)) :: (a_g_rows, .inl (ci 0, 5, .inl g_rows)) :: (a_g_sheets, .inl (ci 0, 5, .inl g_sheets)) :: Rw) H → va_D A ((a_sp, .inr (6, [.ref a_g, .ref a_sp_first, .ref a_sp_many, .ref a_sp_corner, .int v7, .int sp_level, .int sp_row, .int sp_start, .int sp_place, .int sp_length, .int sp_cap])) :: (a_sp_corner, .inl (ci 0, 4, .inl f6)) :: (a_g, .inr (2, [.ref a_g_rowCuts, .ref a_g_columnCuts, .ref a_g_bandRows, .ref a_g_zoneColumns, .ref a_g_rows, .ref a_g_sheets])) :: (a_g_bandRows, .inl (ci 0, 5, .inl g_bandRows)) :: (a_g_zoneColumns, .inl (ci 0, 5, .inl g_zoneColumns)) :: (a_g_rows, .inl (ci 0, 5, .inl g_rows)) :: (a_g_sheets, .inl (ci 0, 5, .inl g_sheets)) :: Rw) → va_S A s.heap H locs → lv_has ls 8 [(0, .ref a_sp), (2, .int v2), (3, .int v3), (4, .long v4)] → W p l e ({ frames := 1, cells := 0, slots := 0, locals := 25 } : Room) s m ([.ref a_sp, .int p1] : List Value).toArray below meth c H locs 0 0 Q (F0 m 87 ls []) := by
        intro f6 v7 H locs ls hf hP hD hS hl
        have hf := (ek87 f6 v7).symm.trans hf
        refine lv_lload (pc := 87) hx hb dX6_addCorners_87 (lv_at hl 3 rfl) ?_
        refine lv_iload_n (pc := 89) hx hb dX6_addCorners_89 rfl (lv_at hl 1 rfl) ?_
        refine lv_i2l (pc := 90) hx hb dX6_addCorners_90 rfl ?_
        refine lv_ladd (pc := 91) hx hb dX6_addCorners_91 ?_
        obtain ⟨v8, ev8, hf⟩ := q_nm_e hf
        refine q_topl ev8 ?_
        refine lv_lstore (pc := 92) (lv' := [(6, .long v8), (0, .ref a_sp), (2, .int v2), (3, .int v3), (4, .long v4)]) hx hb dX6_addCorners_92 hl (by decide) rfl (fun ls hl => ?_)
        refine lv_lload (pc := 94) hx hb dX6_addCorners_94 (lv_at hl 0 rfl) ?_
        refine lv_aload_n (pc := 96) hx hb dX6_addCorners_96 rfl (lv_at hl 1 rfl) ?_
        refine va_get (pc := 97) (D := D) (ci := 6) (v := .int sp_length) (C := RX6) (T := TX6) (N := 11) hx hb hts hinX6 hown hK hP 0 rfl rfl 9 (by decide) w_4 (fun _ h9 => h9) rfl dX6_addCorners_97 ?_
        refine lv_i2l (pc := 100) hx hb dX6_addCorners_100 rfl ?_
        refine q_lrem (pc := 101) hx hb dX6_addCorners_101 hf (fun v9 hf => ?_)
        refine lv_lconst (pc := 102) (v := 0) hx hb dX6_addCorners_102 (by decide) ?_
        refine W.lcmp (pc := 103) hx hb dX6_addCorners_103 ?_
        refine q_if_ne (pc := 104) (tgt := 124) hx hb dX6_addCorners_104 (by decide) rfl hf (fun hf => ?_) (fun hf => ?_)
        · obtain ⟨rfl, rfl⟩ := q_inj2 (Option.some.inj hf)
          rw [hQ]
          exact q_vret (pc := 124) hx hb hr hlocks hP hD hS dX6_addCorners_124
        · refine lv_aload_n (pc := 107) hx hb dX6_addCorners_107 rfl (lv_at hl 1 rfl) ?_
          refine lv_iload_n (pc := 108) hx hb dX6_addCorners_108 rfl (lv_at hl 3 rfl) ?_
          refine lv_lload (pc := 109) hx hb dX6_addCorners_109 (lv_at hl 0 rfl) ?_
          refine lv_aload_n (pc := 111) hx hb dX6_addCorners_111 rfl (lv_at hl 1 rfl) ?_
          refine va_get (pc := 112) (D := D) (ci := 6) (v := .int sp_length) (C := RX6) (T := TX6) (N := 11) hx hb hts hinX6 hown hK hP 0 rfl rfl 9 (by decide) w_4 (fun _ h9 => h9) rfl dX6_addCorners_112 ?_
          refine lv_i2l (pc := 115) hx hb dX6_addCorners_115 rfl ?_
          refine q_ldiv (pc := 116) hx hb dX6_addCorners_116 hf (fun v10 hf => ?_)
          refine lv_l2i (pc := 117) hx hb dX6_addCorners_117 rfl ?_
          refine lv_iload_n (pc := 118) hx hb dX6_addCorners_118 rfl (lv_at hl 2 rfl) ?_
          refine q_irem (pc := 119) hx hb dX6_addCorners_119 hf (fun v11 hf => ?_)
          refine lv_iadd (pc := 120) hx hb dX6_addCorners_120 ?_
          obtain ⟨f12, v13, hm121, hf⟩ := q_b2_e hf
          refine q_cV (pc := 121) (As := [.int (v3 + v11)]) (rest := []) (v0 := none) ⟨hx, hb, hml, hown, hts⟩ hK hA hZ hP hD hS hl.1 [0, 1, 2, 3, 4, 5, 6] 7 rfl ⟨rfl, rfl, rfl⟩ (c_Spot_addCorner l D ci A sa N ((a_g, .inr (2, [.ref a_g_rowCuts, .ref a_g_columnCuts, .ref a_g_bandRows, .ref a_g_zoneColumns, .ref a_g_rows, .ref a_g_sheets])) :: (a_g_bandRows, .inl (ci 0, 5, .inl g_bandRows)) :: (a_g_zoneColumns, .inl (ci 0, 5, .inl g_zoneColumns)) :: (a_g_rows, .inl (ci 0, 5, .inl g_rows)) :: (a_g_sheets, .inl (ci 0, 5, .inl g_sheets)) :: Rw) a_sp a_g a_sp_first a_sp_many a_sp_corner v7 sp_level sp_row sp_start sp_place sp_length sp_cap f6 (v3 + v11) f12 v13 hm121) 0 rfl rfl (cwV 1 hts gX6_addCorners_X6_addCorner rfl rfl rfl (by decide +kernel) ⟨Nat.le_of_ble_eq_true rfl, Nat.le_of_ble_eq_true rfl⟩) rfl rfl (Nat.le_of_ble_eq_true rfl) dX6_addCorners_121 ⟨Nat.zero_le _, Nat.zero_le _⟩ [0, 1, 2, 3, 4, 5, 6] 7 rfl ⟨rfl, rfl, rfl⟩ (fun H locs hP hD hS => ?_)
          obtain ⟨hP, hD⟩ : va_PD D A ((a_sp, .inr (6, [.ref a_g, .ref a_sp_first, .ref a_sp_many, .ref a_sp_corner, .int v13, .int sp_level, .int sp_row, .int sp_start, .int sp_place, .int sp_length, .int sp_cap])) :: (a_sp_corner, .inl (ci 0, 4, .inl f12)) :: (a_g, .inr (2, [.ref a_g_rowCuts, .ref a_g_columnCuts, .ref a_g_bandRows, .ref a_g_zoneColumns, .ref a_g_rows, .ref a_g_sheets])) :: (a_g_bandRows, .inl (ci 0, 5, .inl g_bandRows)) :: (a_g_zoneColumns, .inl (ci 0, 5, .inl g_zoneColumns)) :: (a_g_rows, .inl (ci 0, 5, .inl g_rows)) :: (a_g_sheets, .inl (ci 0, 5, .inl g_sheets)) :: Rw) H := ⟨hP, hD⟩
          obtain ⟨rfl, rfl⟩ := q_inj2 (Option.some.inj hf)
          rw [hQ]
          exact q_vret (pc := 124) hx hb hr hlocks hP hD hS dX6_addCorners_124
      refine q_if_ne (pc := 62) (tgt := 87) hx hb dX6_addCorners_62 (by decide) rfl hf (fun hf => ?_) (fun hf => ?_)
      · exact J87 sp_corner sp_cornerCount _ _ _ hf hP hD hS (lv_sub hl [3, 2, 1, 0] rfl)
      · refine lv_aload_n (pc := 65) hx hb dX6_addCorners_65 rfl (lv_at hl 3 rfl) ?_
        refine lv_iload_n (pc := 66) hx hb dX6_addCorners_66 rfl (lv_at hl 1 rfl) ?_
        refine lv_lload (pc := 67) hx hb dX6_addCorners_67 (lv_at hl 0 rfl) ?_
        refine lv_aload_n (pc := 69) hx hb dX6_addCorners_69 rfl (lv_at hl 3 rfl) ?_
        refine va_get (pc := 70) (D := D) (ci := 6) (v := .int sp_length) (C := RX6) (T := TX6) (N := 11) hx hb hts hinX6 hown hK hP 0 rfl rfl 9 (by decide) w_4 (fun _ h9 => h9) rfl dX6_addCorners_70 ?_
        refine lv_i2l (pc := 73) hx hb dX6_addCorners_73 rfl ?_
        refine q_ldiv (pc := 74) hx hb dX6_addCorners_74 hf (fun v14 hf => ?_)
        refine lv_iload_n (pc := 75) hx hb dX6_addCorners_75 rfl (lv_at hl 2 rfl) ?_
        refine lv_i2l (pc := 76) hx hb dX6_addCorners_76 rfl ?_
        refine lv_ladd (pc := 77) hx hb dX6_addCorners_77 ?_
        refine lv_lconst (pc := 78) (v := 1) hx hb dX6_addCorners_78 (by decide) ?_
        refine lv_lsub (pc := 79) hx hb dX6_addCorners_79 ?_
        refine lv_l2i (pc := 80) hx hb dX6_addCorners_80 rfl ?_
        refine lv_iload_n (pc := 81) hx hb dX6_addCorners_81 rfl (lv_at hl 2 rfl) ?_
        refine q_irem (pc := 82) hx hb dX6_addCorners_82 hf (fun v15 hf => ?_)
        refine lv_iadd (pc := 83) hx hb dX6_addCorners_83 ?_
        obtain ⟨f16, v17, hm84, hf⟩ := q_b2_e hf
        refine q_cV (pc := 84) (As := [.int (v3 + v15)]) (rest := []) (v0 := none) ⟨hx, hb, hml, hown, hts⟩ hK hA hZ hP hD hS hl.1 [0, 1, 2, 3, 4, 5, 6] 7 rfl ⟨rfl, rfl, rfl⟩ (c_Spot_addCorner l D ci A sa N ((a_g, .inr (2, [.ref a_g_rowCuts, .ref a_g_columnCuts, .ref a_g_bandRows, .ref a_g_zoneColumns, .ref a_g_rows, .ref a_g_sheets])) :: (a_g_bandRows, .inl (ci 0, 5, .inl g_bandRows)) :: (a_g_zoneColumns, .inl (ci 0, 5, .inl g_zoneColumns)) :: (a_g_rows, .inl (ci 0, 5, .inl g_rows)) :: (a_g_sheets, .inl (ci 0, 5, .inl g_sheets)) :: Rw) a_sp a_g a_sp_first a_sp_many a_sp_corner sp_cornerCount sp_level sp_row sp_start sp_place sp_length sp_cap sp_corner (v3 + v15) f16 v17 hm84) 0 rfl rfl (cwV 1 hts gX6_addCorners_X6_addCorner rfl rfl rfl (by decide +kernel) ⟨Nat.le_of_ble_eq_true rfl, Nat.le_of_ble_eq_true rfl⟩) rfl rfl (Nat.le_of_ble_eq_true rfl) dX6_addCorners_84 ⟨Nat.zero_le _, Nat.zero_le _⟩ [0, 1, 2, 3, 4, 5, 6] 7 rfl ⟨rfl, rfl, rfl⟩ (fun H locs hP hD hS => ?_)
        obtain ⟨hP, hD⟩ : va_PD D A ((a_sp, .inr (6, [.ref a_g, .ref a_sp_first, .ref a_sp_many, .ref a_sp_corner, .int v17, .int sp_level, .int sp_row, .int sp_start, .int sp_place, .int sp_length, .int sp_cap])) :: (a_sp_corner, .inl (ci 0, 4, .inl f16)) :: (a_g, .inr (2, [.ref a_g_rowCuts, .ref a_g_columnCuts, .ref a_g_bandRows, .ref a_g_zoneColumns, .ref a_g_rows, .ref a_g_sheets])) :: (a_g_bandRows, .inl (ci 0, 5, .inl g_bandRows)) :: (a_g_zoneColumns, .inl (ci 0, 5, .inl g_zoneColumns)) :: (a_g_rows, .inl (ci 0, 5, .inl g_rows)) :: (a_g_sheets, .inl (ci 0, 5, .inl g_sheets)) :: Rw) H := ⟨hP, hD⟩
        exact J87 f16 v17 _ _ _ hf hP hD hS (lv_sub hl [3, 2, 1, 0] rfl)
    · obtain ⟨rfl, rfl⟩ := q_inj2 (Option.some.inj hf)
      rw [hQ]
      exact q_vret (pc := 15) hx hb hr hlocks hP hD hS dX6_addCorners_15
  exact hgo _ _ rfl hP hS
/-! X6_allBeside -/
set_option maxRecDepth 100000 in
set_option maxHeartbeats 4000000 in
theorem c_Spot_allBeside (l : Launch) (D : va_G) (ci : Nat → ClassId) (A : Nat → Prop) (sa : Nat → Nat) (N : Nat) (Rw : va_W) (a_sp : Nat) (a_g : Nat) (a_sp_first : Nat) (a_sp_many : Nat) (a_sp_corner : Nat) (sp_cornerCount : Int32) (sp_level : Int32) (sp_row : Int32) (sp_start : Int32) (sp_place : Int32) (sp_length : Int32) (sp_cap : Int32) (sp_many : Nat → Int32) (r : Int32) (hf : f_Spot_allBeside sp_many = some r) : Met l yX6_allBeside wsX6_allBeside ({ frames := 0, cells := 0, slots := 0, locals := 0 }) (va_Pc [.ref a_sp] (q_N D ci A sa ((a_sp, .inr (6, [.ref a_g, .ref a_sp_first, .ref a_sp_many, .ref a_sp_corner, .int sp_cornerCount, .int sp_level, .int sp_row, .int sp_start, .int sp_place, .int sp_length, .int sp_cap])) :: (a_sp_many, .inl (ci 0, 4, .inl sp_many)) :: Rw))) (q_R (some (.int r))) 0 0 A := by
  refine q_ofW (cc := cX6_allBeside) (maxL := 1) (ret := (some .int)) [.ref a_sp] (plainFor_of_name (by decide)) rfl (Nat.le_of_ble_eq_true rfl) ?_
  intro p e s m below meth c ls Q hQ hx hb hml hr hts hown hlocks hK hA hZ hP hD hS hl
  have hl : lv_has ls 1 [(0, .ref a_sp)] := hl
  have hown : s.vm.findClass RX6 = some m.cls := hown
  have hinX6 : ∀ w ∈ wsX60, w ∈ wsX6_allBeside := fun _ h => List.mem_cons_of_mem _ (inWX60 _ h)
  have w_1 := hts (Cond.fieldLink RX6 15 "SheetNames$Spot" "many" "[I") (List.mem_cons_of_mem _ t_w805)
  unfold f_Spot_allBeside at hf
  have hgo : ∀ (H : Heap) (locs : List Loc), H = s.heap → va_P D vwCl ((a_sp, .inr (6, [.ref a_g, .ref a_sp_first, .ref a_sp_many, .ref a_sp_corner, .int sp_cornerCount, .int sp_level, .int sp_row, .int sp_start, .int sp_place, .int sp_length, .int sp_cap])) :: (a_sp_many, .inl (ci 0, 4, .inl sp_many)) :: Rw) H → va_S A s.heap H locs → W p l e ({ frames := 0, cells := 0, slots := 0, locals := 0 } : Room) s m ([.ref a_sp] : List Value).toArray below meth c H locs 0 0 Q (F0 m 0 ls []) := by
    intro H locs hH hP hS
    subst hH
    refine lv_aload_n (pc := 0) hx hb dX6_allBeside_0 rfl (lv_at hl 0 rfl) ?_
    refine va_get (pc := 1) (D := D) (ci := 6) (v := .ref a_sp_many) (C := RX6) (T := TX6) (N := 11) hx hb hts hinX6 hown hK hP 0 rfl rfl 2 (by decide) w_1 (fun _ h9 => h9) rfl dX6_allBeside_1 ?_
    refine lv_iconst (pc := 4) (v := 0) hx hb dX6_allBeside_4 (by decide) ?_
    refine q_iald (pc := 5) hx hb hK hP 1 0 hf rfl rfl dX6_allBeside_5 (fun v1 hf => ?_)
    refine lv_aload_n (pc := 6) hx hb dX6_allBeside_6 rfl (lv_at hl 0 rfl) ?_
    refine va_get (pc := 7) (D := D) (ci := 6) (v := .ref a_sp_many) (C := RX6) (T := TX6) (N := 11) hx hb hts hinX6 hown hK hP 0 rfl rfl 2 (by decide) w_1 (fun _ h9 => h9) rfl dX6_allBeside_7 ?_
    refine lv_iconst (pc := 10) (v := 1) hx hb dX6_allBeside_10 (by decide) ?_
    refine q_iald (pc := 11) hx hb hK hP 1 0 hf rfl rfl dX6_allBeside_11 (fun v2 hf => ?_)
    refine lv_iadd (pc := 12) hx hb dX6_allBeside_12 ?_
    refine lv_aload_n (pc := 13) hx hb dX6_allBeside_13 rfl (lv_at hl 0 rfl) ?_
    refine va_get (pc := 14) (D := D) (ci := 6) (v := .ref a_sp_many) (C := RX6) (T := TX6) (N := 11) hx hb hts hinX6 hown hK hP 0 rfl rfl 2 (by decide) w_1 (fun _ h9 => h9) rfl dX6_allBeside_14 ?_
    refine lv_iconst (pc := 17) (v := 2) hx hb dX6_allBeside_17 (by decide) ?_
    refine q_iald (pc := 18) hx hb hK hP 1 0 hf rfl rfl dX6_allBeside_18 (fun v3 hf => ?_)
    refine lv_iadd (pc := 19) hx hb dX6_allBeside_19 ?_
    refine lv_aload_n (pc := 20) hx hb dX6_allBeside_20 rfl (lv_at hl 0 rfl) ?_
    refine va_get (pc := 21) (D := D) (ci := 6) (v := .ref a_sp_many) (C := RX6) (T := TX6) (N := 11) hx hb hts hinX6 hown hK hP 0 rfl rfl 2 (by decide) w_1 (fun _ h9 => h9) rfl dX6_allBeside_21 ?_
    refine lv_iconst (pc := 24) (v := 3) hx hb dX6_allBeside_24 (by decide) ?_
    refine q_iald (pc := 25) hx hb hK hP 1 0 hf rfl rfl dX6_allBeside_25 (fun v4 hf => ?_)
    refine lv_iadd (pc := 26) hx hb dX6_allBeside_26 ?_
    obtain rfl := Option.some.inj hf
    rw [hQ]
    exact q_iretr (pc := 27) hx hb hr hlocks rfl hS dX6_allBeside_27
  exact hgo _ _ rfl hP hS
/-! X6_band -/
set_option maxRecDepth 100000 in
set_option maxHeartbeats 4000000 in
theorem c_Spot_band (l : Launch) (D : va_G) (ci : Nat → ClassId) (A : Nat → Prop) (sa : Nat → Nat) (N : Nat) (Rw : va_W) (a_sp : Nat) (a_g : Nat) (a_sp_first : Nat) (a_sp_many : Nat) (a_sp_corner : Nat) (a_g_rowCuts : Nat) (a_g_columnCuts : Nat) (a_g_bandRows : Nat) (a_g_zoneColumns : Nat) (a_g_rows : Nat) (a_g_sheets : Nat) (sp_cornerCount : Int32) (sp_level : Int32) (sp_row : Int32) (sp_start : Int32) (sp_place : Int32) (sp_length : Int32) (sp_cap : Int32) (g_bandRows : Nat → Int32) (r : Int32) (hf : f_Spot_band sp_level sp_row sp_cap g_bandRows = some r) : Met l yX6_band wsX6_band ({ frames := 0, cells := 0, slots := 0, locals := 0 }) (va_Pc [.ref a_sp] (q_N D ci A sa ((a_sp, .inr (6, [.ref a_g, .ref a_sp_first, .ref a_sp_many, .ref a_sp_corner, .int sp_cornerCount, .int sp_level, .int sp_row, .int sp_start, .int sp_place, .int sp_length, .int sp_cap])) :: (a_g, .inr (2, [.ref a_g_rowCuts, .ref a_g_columnCuts, .ref a_g_bandRows, .ref a_g_zoneColumns, .ref a_g_rows, .ref a_g_sheets])) :: (a_g_bandRows, .inl (ci 0, 5, .inl g_bandRows)) :: Rw))) (q_R (some (.int r))) 0 0 A := by
  refine q_ofW (cc := cX6_band) (maxL := 1) (ret := (some .int)) [.ref a_sp] (plainFor_of_name (by decide)) rfl (Nat.le_of_ble_eq_true rfl) ?_
  intro p e s m below meth c ls Q hQ hx hb hml hr hts hown hlocks hK hA hZ hP hD hS hl
  have hl : lv_has ls 1 [(0, .ref a_sp)] := hl
  have hown : s.vm.findClass RX6 = some m.cls := hown
  have hinX2 : ∀ w ∈ wsX20, w ∈ wsX6_band := fun _ h => List.mem_cons_of_mem _ (inWX20 _ h)
  have hinX6 : ∀ w ∈ wsX60, w ∈ wsX6_band := fun _ h => List.mem_cons_of_mem _ (inWX60 _ h)
  have w_1 := hts (Cond.fieldLink RX6 40 "SheetNames$Spot" "cap" "Z") (List.mem_cons_of_mem _ t_w806)
  have w_2 := hts (Cond.fieldLink RX6 28 "SheetNames$Spot" "row" "I") (List.mem_cons_of_mem _ t_w807)
  have w_3 := hts (Cond.fieldLink RX6 44 "SheetNames$Spot" "grid" "LSheetNames$Grid;") (List.mem_cons_of_mem _ t_w801)
  have w_4 := hts (Cond.fieldLink RX6 25 "SheetNames$Spot" "level" "I") (List.mem_cons_of_mem _ t_w802)
  have wn_57 : (Cond.fieldLinkNest "SheetNames$Spot" 64 "SheetNames$Grid" "bandRows" "[I" "SheetNames").before ([.ref a_sp] : List Value).toArray s = true := (hZ.2.2.2.2.2.2.2.2.2.1 _ (List.mem_of_getElem? (i := 57) rfl)).use rfl
  unfold f_Spot_band at hf
  have hgo : ∀ (H : Heap) (locs : List Loc), H = s.heap → va_P D vwCl ((a_sp, .inr (6, [.ref a_g, .ref a_sp_first, .ref a_sp_many, .ref a_sp_corner, .int sp_cornerCount, .int sp_level, .int sp_row, .int sp_start, .int sp_place, .int sp_length, .int sp_cap])) :: (a_g, .inr (2, [.ref a_g_rowCuts, .ref a_g_columnCuts, .ref a_g_bandRows, .ref a_g_zoneColumns, .ref a_g_rows, .ref a_g_sheets])) :: (a_g_bandRows, .inl (ci 0, 5, .inl g_bandRows)) :: Rw) H → va_S A s.heap H locs → W p l e ({ frames := 0, cells := 0, slots := 0, locals := 0 } : Room) s m ([.ref a_sp] : List Value).toArray below meth c H locs 0 0 Q (F0 m 0 ls []) := by
    intro H locs hH hP hS
    subst hH
    refine lv_aload_n (pc := 0) hx hb dX6_band_0 rfl (lv_at hl 0 rfl) ?_
    refine va_get (pc := 1) (D := D) (ci := 6) (v := .int sp_cap) (C := RX6) (T := TX6) (N := 11) hx hb hts hinX6 hown hK hP 0 rfl rfl 10 (by decide) w_1 (fun _ h9 => h9) rfl dX6_band_1 ?_
    refine q_if_eq (pc := 4) (tgt := 22) hx hb dX6_band_4 (by decide) rfl hf (fun hf => ?_) (fun hf => ?_)
    · refine lv_bipush (pc := 22) (v := 21) hx hb dX6_band_22 (by decide) ?_
      refine lv_aload_n (pc := 24) hx hb dX6_band_24 rfl (lv_at hl 0 rfl) ?_
      refine va_get (pc := 25) (D := D) (ci := 6) (v := .int sp_row) (C := RX6) (T := TX6) (N := 11) hx hb hts hinX6 hown hK hP 0 rfl rfl 6 (by decide) w_2 (fun _ h9 => h9) rfl dX6_band_25 ?_
      refine lv_iconst (pc := 28) (v := 1) hx hb dX6_band_28 (by decide) ?_
      refine lv_isub (pc := 29) hx hb dX6_band_29 ?_
      refine lv_aload_n (pc := 30) hx hb dX6_band_30 rfl (lv_at hl 0 rfl) ?_
      refine va_get (pc := 31) (D := D) (ci := 6) (v := .ref a_g) (C := RX6) (T := TX6) (N := 11) hx hb hts hinX6 hown hK hP 0 rfl rfl 0 (by decide) w_3 (fun _ h9 => h9) rfl dX6_band_31 ?_
      refine va_getN (pc := 34) (D := D) (ci := 2) (v := .ref a_g_bandRows) (C := RX2) (T := TX2) (N := 6) hx hb hts hinX2 hown hK hP 1 rfl rfl 2 (by decide) wn_57 (fun _ h9 => h9) rfl dX6_band_34 ?_
      refine lv_aload_n (pc := 37) hx hb dX6_band_37 rfl (lv_at hl 0 rfl) ?_
      refine va_get (pc := 38) (D := D) (ci := 6) (v := .int sp_level) (C := RX6) (T := TX6) (N := 11) hx hb hts hinX6 hown hK hP 0 rfl rfl 5 (by decide) w_4 (fun _ h9 => h9) rfl dX6_band_38 ?_
      refine q_iald (pc := 41) hx hb hK hP 2 0 hf rfl rfl dX6_band_41 (fun v1 hf => ?_)
      refine q_idiv (pc := 42) hx hb dX6_band_42 hf (fun v2 hf => ?_)
      refine lv_isub (pc := 43) hx hb dX6_band_43 ?_
      obtain rfl := Option.some.inj hf
      rw [hQ]
      exact q_iretr (pc := 44) hx hb hr hlocks rfl hS dX6_band_44
    · refine lv_aload_n (pc := 7) hx hb dX6_band_7 rfl (lv_at hl 0 rfl) ?_
      refine va_get (pc := 8) (D := D) (ci := 6) (v := .int sp_row) (C := RX6) (T := TX6) (N := 11) hx hb hts hinX6 hown hK hP 0 rfl rfl 6 (by decide) w_2 (fun _ h9 => h9) rfl dX6_band_8 ?_
      refine q_if_ne (pc := 11) (tgt := 19) hx hb dX6_band_11 (by decide) rfl hf (fun hf => ?_) (fun hf => ?_)
      · refine lv_bipush (pc := 19) (v := (-100)) hx hb dX6_band_19 (by decide) ?_
        obtain rfl := Option.some.inj hf
        rw [hQ]
        exact q_iretr (pc := 21) hx hb hr hlocks rfl hS dX6_band_21
      · refine lv_bipush (pc := 14) (v := 100) hx hb dX6_band_14 (by decide) ?_
        refine lv_goto (pc := 16) (tgt := 21) hx hb dX6_band_16 (by decide) ?_
        obtain rfl := Option.some.inj hf
        rw [hQ]
        exact q_iretr (pc := 21) hx hb hr hlocks rfl hS dX6_band_21
  exact hgo _ _ rfl hP hS
/-! X6_besideKey -/
set_option maxRecDepth 100000 in
set_option maxHeartbeats 4000000 in
theorem c_Spot_besideKey (l : Launch) (D : va_G) (ci : Nat → ClassId) (A : Nat → Prop) (sa : Nat → Nat) (N : Nat) (Rw : va_W) (a_sp : Nat) (a_g : Nat) (a_sp_first : Nat) (a_sp_many : Nat) (a_sp_corner : Nat) (sp_cornerCount : Int32) (sp_level : Int32) (sp_row : Int32) (sp_start : Int32) (sp_place : Int32) (sp_length : Int32) (sp_cap : Int32) (sp_first : Nat → Int32) (sp_many : Nat → Int32) (p1 : Int32) (r : Int32) (hf : f_Spot_besideKey sp_first sp_many p1 = some r) : Met l yX6_besideKey wsX6_besideKey ({ frames := 1, cells := 0, slots := 0, locals := 40 }) (va_Pc [.ref a_sp, .int p1] (q_N D ci A sa ((a_sp, .inr (6, [.ref a_g, .ref a_sp_first, .ref a_sp_many, .ref a_sp_corner, .int sp_cornerCount, .int sp_level, .int sp_row, .int sp_start, .int sp_place, .int sp_length, .int sp_cap])) :: (a_sp_first, .inl (ci 0, 4, .inl sp_first)) :: (a_sp_many, .inl (ci 0, 4, .inl sp_many)) :: Rw))) (q_R (some (.int r))) 0 0 A := by
  refine q_ofW (cc := cX6_besideKey) (maxL := 3) (ret := (some .int)) [.ref a_sp, .int p1] (plainFor_of_name (by decide)) rfl (Nat.le_of_ble_eq_true rfl) ?_
  intro p e s m below meth c ls Q hQ hx hb hml hr hts hown hlocks hK hA hZ hP hD hS hl
  have hl : lv_has ls 3 [(0, .ref a_sp), (1, .int p1)] := hl
  have hown : s.vm.findClass RX6 = some m.cls := hown
  have hinX6 : ∀ w ∈ wsX60, w ∈ wsX6_besideKey := fun _ h => List.mem_cons_of_mem _ (inWX60 _ h)
  have w_1 := hts (Cond.fieldLink RX6 15 "SheetNames$Spot" "many" "[I") (List.mem_cons_of_mem _ t_w805)
  have w_2 := hts (Cond.fieldLink RX6 9 "SheetNames$Spot" "first" "[I") (List.mem_cons_of_mem _ t_w808)
  have w_3 := hts (Cond.methodLink RX6 123 Lib.Math.min.name) (List.mem_cons_of_mem _ t_w809)
  have w_4 := hts (Cond.static Lib.Math.min.name) (List.mem_cons_of_mem _ t_w810)
  have w_5 := hts (Cond.initialized "java/lang/Math") (List.mem_cons_of_mem _ t_w76)
  have w_6 := hts (Cond.code Lib.Math.min.name Lib.Math.min.code 2 (some .int)) (List.mem_cons_of_mem _ t_w811)
  have w_7 := hts (Cond.methodLink RX6 126 Lib.Math.max.name) (List.mem_cons_of_mem _ t_w812)
  have w_8 := hts (Cond.static Lib.Math.max.name) (List.mem_cons_of_mem _ t_w813)
  have w_9 := hts (Cond.code Lib.Math.max.name Lib.Math.max.code 2 (some .int)) (List.mem_cons_of_mem _ t_w814)
  unfold f_Spot_besideKey at hf
  have hgo : ∀ (H : Heap) (locs : List Loc), H = s.heap → va_P D vwCl ((a_sp, .inr (6, [.ref a_g, .ref a_sp_first, .ref a_sp_many, .ref a_sp_corner, .int sp_cornerCount, .int sp_level, .int sp_row, .int sp_start, .int sp_place, .int sp_length, .int sp_cap])) :: (a_sp_first, .inl (ci 0, 4, .inl sp_first)) :: (a_sp_many, .inl (ci 0, 4, .inl sp_many)) :: Rw) H → va_S A s.heap H locs → W p l e ({ frames := 1, cells := 0, slots := 0, locals := 40 } : Room) s m ([.ref a_sp, .int p1] : List Value).toArray below meth c H locs 0 0 Q (F0 m 0 ls []) := by
    intro H locs hH hP hS
    subst hH
    refine lv_iload_n (pc := 0) hx hb dX6_besideKey_0 rfl (lv_at hl 1 rfl) ?_
    refine lv_aload_n (pc := 1) hx hb dX6_besideKey_1 rfl (lv_at hl 0 rfl) ?_
    refine va_get (pc := 2) (D := D) (ci := 6) (v := .ref a_sp_many) (C := RX6) (T := TX6) (N := 11) hx hb hts hinX6 hown hK hP 0 rfl rfl 2 (by decide) w_1 (fun _ h9 => h9) rfl dX6_besideKey_2 ?_
    refine lv_iconst (pc := 5) (v := 0) hx hb dX6_besideKey_5 (by decide) ?_
    refine q_iald (pc := 6) hx hb hK hP 2 0 hf rfl rfl dX6_besideKey_6 (fun v1 hf => ?_)
    refine q_icmp_ge (pc := 7) (tgt := 19) hx hb dX6_besideKey_7 (by decide) rfl hf (fun hf => ?_) (fun hf => ?_)
    · refine lv_iload_n (pc := 19) hx hb dX6_besideKey_19 rfl (lv_at hl 1 rfl) ?_
      refine lv_aload_n (pc := 20) hx hb dX6_besideKey_20 rfl (lv_at hl 0 rfl) ?_
      refine va_get (pc := 21) (D := D) (ci := 6) (v := .ref a_sp_many) (C := RX6) (T := TX6) (N := 11) hx hb hts hinX6 hown hK hP 0 rfl rfl 2 (by decide) w_1 (fun _ h9 => h9) rfl dX6_besideKey_21 ?_
      refine lv_iconst (pc := 24) (v := 0) hx hb dX6_besideKey_24 (by decide) ?_
      refine q_iald (pc := 25) hx hb hK hP 2 0 hf rfl rfl dX6_besideKey_25 (fun v2 hf => ?_)
      refine lv_isub (pc := 26) hx hb dX6_besideKey_26 ?_
      obtain ⟨v3, ev3, hf⟩ := q_nm_e hf
      refine q_topi ev3 ?_
      refine lv_istore_n (pc := 27) (lv' := [(2, .int v3), (0, .ref a_sp), (1, .int p1)]) hx hb dX6_besideKey_27 rfl hl (by decide) rfl (fun ls hl => ?_)
      refine lv_iload_n (pc := 28) hx hb dX6_besideKey_28 rfl (lv_at hl 0 rfl) ?_
      refine lv_aload_n (pc := 29) hx hb dX6_besideKey_29 rfl (lv_at hl 1 rfl) ?_
      refine va_get (pc := 30) (D := D) (ci := 6) (v := .ref a_sp_many) (C := RX6) (T := TX6) (N := 11) hx hb hts hinX6 hown hK hP 0 rfl rfl 2 (by decide) w_1 (fun _ h9 => h9) rfl dX6_besideKey_30 ?_
      refine lv_iconst (pc := 33) (v := 1) hx hb dX6_besideKey_33 (by decide) ?_
      refine q_iald (pc := 34) hx hb hK hP 2 0 hf rfl rfl dX6_besideKey_34 (fun v4 hf => ?_)
      refine lv_aload_n (pc := 35) hx hb dX6_besideKey_35 rfl (lv_at hl 1 rfl) ?_
      refine va_get (pc := 36) (D := D) (ci := 6) (v := .ref a_sp_many) (C := RX6) (T := TX6) (N := 11) hx hb hts hinX6 hown hK hP 0 rfl rfl 2 (by decide) w_1 (fun _ h9 => h9) rfl dX6_besideKey_36 ?_
      refine lv_iconst (pc := 39) (v := 3) hx hb dX6_besideKey_39 (by decide) ?_
      refine q_iald (pc := 40) hx hb hK hP 2 0 hf rfl rfl dX6_besideKey_40 (fun v5 hf => ?_)
      refine lv_iadd (pc := 41) hx hb dX6_besideKey_41 ?_
      refine q_icmp_lt (pc := 42) (tgt := 68) hx hb dX6_besideKey_42 (by decide) rfl hf (fun hf => ?_) (fun hf => ?_)
      · refine lv_iload_n (pc := 68) hx hb dX6_besideKey_68 rfl (lv_at hl 0 rfl) ?_
        refine q_if_ne (pc := 69) (tgt := 88) hx hb dX6_besideKey_69 (by decide) rfl hf (fun hf => ?_) (fun hf => ?_)
        · refine lv_aload_n (pc := 88) hx hb dX6_besideKey_88 rfl (lv_at hl 1 rfl) ?_
          refine va_get (pc := 89) (D := D) (ci := 6) (v := .ref a_sp_first) (C := RX6) (T := TX6) (N := 11) hx hb hts hinX6 hown hK hP 0 rfl rfl 1 (by decide) w_2 (fun _ h9 => h9) rfl dX6_besideKey_89 ?_
          refine lv_iconst (pc := 92) (v := 1) hx hb dX6_besideKey_92 (by decide) ?_
          refine q_iald (pc := 93) hx hb hK hP 1 0 hf rfl rfl dX6_besideKey_93 (fun v6 hf => ?_)
          refine lv_aload_n (pc := 94) hx hb dX6_besideKey_94 rfl (lv_at hl 1 rfl) ?_
          refine va_get (pc := 95) (D := D) (ci := 6) (v := .ref a_sp_first) (C := RX6) (T := TX6) (N := 11) hx hb hts hinX6 hown hK hP 0 rfl rfl 1 (by decide) w_2 (fun _ h9 => h9) rfl dX6_besideKey_95 ?_
          refine lv_iconst (pc := 98) (v := 3) hx hb dX6_besideKey_98 (by decide) ?_
          refine q_iald (pc := 99) hx hb hK hP 1 0 hf rfl rfl dX6_besideKey_99 (fun v7 hf => ?_)
          obtain ⟨v8, ev8, hf⟩ := q_nm_e hf
          refine va_mmax (pc := 100) hx hb (hml.trans hl.1.symm) hown w_7 w_8 w_5 w_9 (Nat.le_of_ble_eq_true rfl) (Nat.le_of_ble_eq_true rfl) (Nat.zero_le _) (Nat.zero_le _) dX6_besideKey_100 ?_
          refine q_topi ev8 ?_
          obtain rfl := Option.some.inj hf
          rw [hQ]
          exact q_iretr (pc := 103) hx hb hr hlocks rfl hS dX6_besideKey_103
        · refine lv_aload_n (pc := 72) hx hb dX6_besideKey_72 rfl (lv_at hl 1 rfl) ?_
          refine va_get (pc := 73) (D := D) (ci := 6) (v := .ref a_sp_first) (C := RX6) (T := TX6) (N := 11) hx hb hts hinX6 hown hK hP 0 rfl rfl 1 (by decide) w_2 (fun _ h9 => h9) rfl dX6_besideKey_73 ?_
          refine lv_iconst (pc := 76) (v := 1) hx hb dX6_besideKey_76 (by decide) ?_
          refine q_iald (pc := 77) hx hb hK hP 1 0 hf rfl rfl dX6_besideKey_77 (fun v9 hf => ?_)
          refine lv_aload_n (pc := 78) hx hb dX6_besideKey_78 rfl (lv_at hl 1 rfl) ?_
          refine va_get (pc := 79) (D := D) (ci := 6) (v := .ref a_sp_first) (C := RX6) (T := TX6) (N := 11) hx hb hts hinX6 hown hK hP 0 rfl rfl 1 (by decide) w_2 (fun _ h9 => h9) rfl dX6_besideKey_79 ?_
          refine lv_iconst (pc := 82) (v := 3) hx hb dX6_besideKey_82 (by decide) ?_
          refine q_iald (pc := 83) hx hb hK hP 1 0 hf rfl rfl dX6_besideKey_83 (fun v10 hf => ?_)
          obtain ⟨v11, ev11, hf⟩ := q_nm_e hf
          refine va_mmin (pc := 84) hx hb (hml.trans hl.1.symm) hown w_3 w_4 w_5 w_6 (Nat.le_of_ble_eq_true rfl) (Nat.le_of_ble_eq_true rfl) (Nat.zero_le _) (Nat.zero_le _) dX6_besideKey_84 ?_
          refine q_topi ev11 ?_
          obtain rfl := Option.some.inj hf
          rw [hQ]
          exact q_iretr (pc := 87) hx hb hr hlocks rfl hS dX6_besideKey_87
      · refine lv_aload_n (pc := 45) hx hb dX6_besideKey_45 rfl (lv_at hl 1 rfl) ?_
        refine va_get (pc := 46) (D := D) (ci := 6) (v := .ref a_sp_first) (C := RX6) (T := TX6) (N := 11) hx hb hts hinX6 hown hK hP 0 rfl rfl 1 (by decide) w_2 (fun _ h9 => h9) rfl dX6_besideKey_46 ?_
        refine lv_iconst (pc := 49) (v := 2) hx hb dX6_besideKey_49 (by decide) ?_
        refine q_iald (pc := 50) hx hb hK hP 1 0 hf rfl rfl dX6_besideKey_50 (fun v12 hf => ?_)
        refine lv_iload_n (pc := 51) hx hb dX6_besideKey_51 rfl (lv_at hl 0 rfl) ?_
        refine lv_iadd (pc := 52) hx hb dX6_besideKey_52 ?_
        refine lv_aload_n (pc := 53) hx hb dX6_besideKey_53 rfl (lv_at hl 1 rfl) ?_
        refine va_get (pc := 54) (D := D) (ci := 6) (v := .ref a_sp_many) (C := RX6) (T := TX6) (N := 11) hx hb hts hinX6 hown hK hP 0 rfl rfl 2 (by decide) w_1 (fun _ h9 => h9) rfl dX6_besideKey_54 ?_
        refine lv_iconst (pc := 57) (v := 1) hx hb dX6_besideKey_57 (by decide) ?_
        refine q_iald (pc := 58) hx hb hK hP 2 0 hf rfl rfl dX6_besideKey_58 (fun v13 hf => ?_)
        refine lv_isub (pc := 59) hx hb dX6_besideKey_59 ?_
        refine lv_aload_n (pc := 60) hx hb dX6_besideKey_60 rfl (lv_at hl 1 rfl) ?_
        refine va_get (pc := 61) (D := D) (ci := 6) (v := .ref a_sp_many) (C := RX6) (T := TX6) (N := 11) hx hb hts hinX6 hown hK hP 0 rfl rfl 2 (by decide) w_1 (fun _ h9 => h9) rfl dX6_besideKey_61 ?_
        refine lv_iconst (pc := 64) (v := 3) hx hb dX6_besideKey_64 (by decide) ?_
        refine q_iald (pc := 65) hx hb hK hP 2 0 hf rfl rfl dX6_besideKey_65 (fun v14 hf => ?_)
        refine lv_isub (pc := 66) hx hb dX6_besideKey_66 ?_
        obtain rfl := Option.some.inj hf
        rw [hQ]
        exact q_iretr (pc := 67) hx hb hr hlocks rfl hS dX6_besideKey_67
    · refine lv_aload_n (pc := 10) hx hb dX6_besideKey_10 rfl (lv_at hl 0 rfl) ?_
      refine va_get (pc := 11) (D := D) (ci := 6) (v := .ref a_sp_first) (C := RX6) (T := TX6) (N := 11) hx hb hts hinX6 hown hK hP 0 rfl rfl 1 (by decide) w_2 (fun _ h9 => h9) rfl dX6_besideKey_11 ?_
      refine lv_iconst (pc := 14) (v := 0) hx hb dX6_besideKey_14 (by decide) ?_
      refine q_iald (pc := 15) hx hb hK hP 1 0 hf rfl rfl dX6_besideKey_15 (fun v15 hf => ?_)
      refine lv_iload_n (pc := 16) hx hb dX6_besideKey_16 rfl (lv_at hl 1 rfl) ?_
      refine lv_iadd (pc := 17) hx hb dX6_besideKey_17 ?_
      obtain rfl := Option.some.inj hf
      rw [hQ]
      exact q_iretr (pc := 18) hx hb hr hlocks rfl hS dX6_besideKey_18
  exact hgo _ _ rfl hP hS
/-! X6_edgeBottom -/
set_option maxRecDepth 100000 in
set_option maxHeartbeats 4000000 in
theorem c_Spot_edgeBottom (l : Launch) (D : va_G) (ci : Nat → ClassId) (A : Nat → Prop) (sa : Nat → Nat) (N : Nat) (Rw : va_W) (a_sp : Nat) (a_g : Nat) (a_sp_first : Nat) (a_sp_many : Nat) (a_sp_corner : Nat) (a_g_rowCuts : Nat) (a_g_columnCuts : Nat) (a_g_bandRows : Nat) (a_g_zoneColumns : Nat) (a_g_rows : Nat) (a_g_sheets : Nat) (sp_cornerCount : Int32) (sp_level : Int32) (sp_row : Int32) (sp_start : Int32) (sp_place : Int32) (sp_length : Int32) (sp_cap : Int32) (g_bandRows : Nat → Int32) (p1 : Int32) (r : Int64) (hf : f_Spot_edgeBottom sp_level sp_length sp_cap g_bandRows p1 = some r) : Met l yX6_edgeBottom wsX6_edgeBottom ({ frames := 0, cells := 0, slots := 0, locals := 0 }) (va_Pc [.ref a_sp, .int p1] (q_N D ci A sa ((a_sp, .inr (6, [.ref a_g, .ref a_sp_first, .ref a_sp_many, .ref a_sp_corner, .int sp_cornerCount, .int sp_level, .int sp_row, .int sp_start, .int sp_place, .int sp_length, .int sp_cap])) :: (a_g, .inr (2, [.ref a_g_rowCuts, .ref a_g_columnCuts, .ref a_g_bandRows, .ref a_g_zoneColumns, .ref a_g_rows, .ref a_g_sheets])) :: (a_g_bandRows, .inl (ci 0, 5, .inl g_bandRows)) :: Rw))) (q_R (some (.long r))) 0 0 A := by
  refine q_ofW (cc := cX6_edgeBottom) (maxL := 2) (ret := (some .long)) [.ref a_sp, .int p1] (plainFor_of_name (by decide)) rfl (Nat.le_of_ble_eq_true rfl) ?_
  intro p e s m below meth c ls Q hQ hx hb hml hr hts hown hlocks hK hA hZ hP hD hS hl
  have hl : lv_has ls 2 [(0, .ref a_sp), (1, .int p1)] := hl
  have hown : s.vm.findClass RX6 = some m.cls := hown
  have hinX2 : ∀ w ∈ wsX20, w ∈ wsX6_edgeBottom := fun _ h => List.mem_cons_of_mem _ (inWX20 _ h)
  have hinX6 : ∀ w ∈ wsX60, w ∈ wsX6_edgeBottom := fun _ h => List.mem_cons_of_mem _ (inWX60 _ h)
  have w_1 := hts (Cond.fieldLink RX6 37 "SheetNames$Spot" "length" "I") (List.mem_cons_of_mem _ t_w804)
  have w_2 := hts (Cond.fieldLink RX6 40 "SheetNames$Spot" "cap" "Z") (List.mem_cons_of_mem _ t_w806)
  have w_3 := hts (Cond.fieldLink RX6 44 "SheetNames$Spot" "grid" "LSheetNames$Grid;") (List.mem_cons_of_mem _ t_w801)
  have w_4 := hts (Cond.fieldLink RX6 25 "SheetNames$Spot" "level" "I") (List.mem_cons_of_mem _ t_w802)
  have wn_57 : (Cond.fieldLinkNest "SheetNames$Spot" 64 "SheetNames$Grid" "bandRows" "[I" "SheetNames").before ([.ref a_sp, .int p1] : List Value).toArray s = true := (hZ.2.2.2.2.2.2.2.2.2.1 _ (List.mem_of_getElem? (i := 57) rfl)).use rfl
  unfold f_Spot_edgeBottom at hf
  have hgo : ∀ (H : Heap) (locs : List Loc), H = s.heap → va_P D vwCl ((a_sp, .inr (6, [.ref a_g, .ref a_sp_first, .ref a_sp_many, .ref a_sp_corner, .int sp_cornerCount, .int sp_level, .int sp_row, .int sp_start, .int sp_place, .int sp_length, .int sp_cap])) :: (a_g, .inr (2, [.ref a_g_rowCuts, .ref a_g_columnCuts, .ref a_g_bandRows, .ref a_g_zoneColumns, .ref a_g_rows, .ref a_g_sheets])) :: (a_g_bandRows, .inl (ci 0, 5, .inl g_bandRows)) :: Rw) H → va_S A s.heap H locs → W p l e ({ frames := 0, cells := 0, slots := 0, locals := 0 } : Room) s m ([.ref a_sp, .int p1] : List Value).toArray below meth c H locs 0 0 Q (F0 m 0 ls []) := by
    intro H locs hH hP hS
    subst hH
    refine lv_iload_n (pc := 0) hx hb dX6_edgeBottom_0 rfl (lv_at hl 1 rfl) ?_
    refine lv_iconst (pc := 1) (v := 2) hx hb dX6_edgeBottom_1 (by decide) ?_
    refine q_icmp_lt (pc := 2) (tgt := 11) hx hb dX6_edgeBottom_2 (by decide) rfl hf (fun hf => ?_) (fun hf => ?_)
    · refine lv_aload_n (pc := 11) hx hb dX6_edgeBottom_11 rfl (lv_at hl 0 rfl) ?_
      refine va_get (pc := 12) (D := D) (ci := 6) (v := .int sp_cap) (C := RX6) (T := TX6) (N := 11) hx hb hts hinX6 hown hK hP 0 rfl rfl 10 (by decide) w_2 (fun _ h9 => h9) rfl dX6_edgeBottom_12 ?_
      refine q_if_eq (pc := 15) (tgt := 22) hx hb dX6_edgeBottom_15 (by decide) rfl hf (fun hf => ?_) (fun hf => ?_)
      · refine lv_aload_n (pc := 22) hx hb dX6_edgeBottom_22 rfl (lv_at hl 0 rfl) ?_
        refine va_get (pc := 23) (D := D) (ci := 6) (v := .ref a_g) (C := RX6) (T := TX6) (N := 11) hx hb hts hinX6 hown hK hP 0 rfl rfl 0 (by decide) w_3 (fun _ h9 => h9) rfl dX6_edgeBottom_23 ?_
        refine va_getN (pc := 26) (D := D) (ci := 2) (v := .ref a_g_bandRows) (C := RX2) (T := TX2) (N := 6) hx hb hts hinX2 hown hK hP 1 rfl rfl 2 (by decide) wn_57 (fun _ h9 => h9) rfl dX6_edgeBottom_26 ?_
        refine lv_aload_n (pc := 29) hx hb dX6_edgeBottom_29 rfl (lv_at hl 0 rfl) ?_
        refine va_get (pc := 30) (D := D) (ci := 6) (v := .int sp_level) (C := RX6) (T := TX6) (N := 11) hx hb hts hinX6 hown hK hP 0 rfl rfl 5 (by decide) w_4 (fun _ h9 => h9) rfl dX6_edgeBottom_30 ?_
        refine q_iald (pc := 33) hx hb hK hP 2 0 hf rfl rfl dX6_edgeBottom_33 (fun v1 hf => ?_)
        refine lv_i2l (pc := 34) hx hb dX6_edgeBottom_34 rfl ?_
        obtain rfl := Option.some.inj hf
        rw [hQ]
        exact q_lretr (pc := 35) hx hb hr hlocks rfl hS dX6_edgeBottom_35
      · refine lv_lconst (pc := 18) (v := 1) hx hb dX6_edgeBottom_18 (by decide) ?_
        refine lv_goto (pc := 19) (tgt := 35) hx hb dX6_edgeBottom_19 (by decide) ?_
        obtain rfl := Option.some.inj hf
        rw [hQ]
        exact q_lretr (pc := 35) hx hb hr hlocks rfl hS dX6_edgeBottom_35
    · refine lv_aload_n (pc := 5) hx hb dX6_edgeBottom_5 rfl (lv_at hl 0 rfl) ?_
      refine va_get (pc := 6) (D := D) (ci := 6) (v := .int sp_length) (C := RX6) (T := TX6) (N := 11) hx hb hts hinX6 hown hK hP 0 rfl rfl 9 (by decide) w_1 (fun _ h9 => h9) rfl dX6_edgeBottom_6 ?_
      refine lv_i2l (pc := 9) hx hb dX6_edgeBottom_9 rfl ?_
      obtain rfl := Option.some.inj hf
      rw [hQ]
      exact q_lretr (pc := 10) hx hb hr hlocks rfl hS dX6_edgeBottom_10
  exact hgo _ _ rfl hP hS
/-! X6_edgeTop -/
set_option maxRecDepth 100000 in
set_option maxHeartbeats 4000000 in
theorem c_Spot_edgeTop (l : Launch) (D : va_G) (ci : Nat → ClassId) (A : Nat → Prop) (sa : Nat → Nat) (N : Nat) (Rw : va_W) (a_sp : Nat) (a_g : Nat) (a_sp_first : Nat) (a_sp_many : Nat) (a_sp_corner : Nat) (a_g_rowCuts : Nat) (a_g_columnCuts : Nat) (a_g_bandRows : Nat) (a_g_zoneColumns : Nat) (a_g_rows : Nat) (a_g_sheets : Nat) (sp_cornerCount : Int32) (sp_level : Int32) (sp_row : Int32) (sp_start : Int32) (sp_place : Int32) (sp_length : Int32) (sp_cap : Int32) (g_bandRows : Nat → Int32) (p1 : Int32) (r : Int64) (hf : f_Spot_edgeTop sp_level sp_row sp_place sp_cap g_bandRows p1 = some r) : Met l yX6_edgeTop wsX6_edgeTop ({ frames := 0, cells := 0, slots := 0, locals := 0 }) (va_Pc [.ref a_sp, .int p1] (q_N D ci A sa ((a_sp, .inr (6, [.ref a_g, .ref a_sp_first, .ref a_sp_many, .ref a_sp_corner, .int sp_cornerCount, .int sp_level, .int sp_row, .int sp_start, .int sp_place, .int sp_length, .int sp_cap])) :: (a_g, .inr (2, [.ref a_g_rowCuts, .ref a_g_columnCuts, .ref a_g_bandRows, .ref a_g_zoneColumns, .ref a_g_rows, .ref a_g_sheets])) :: (a_g_bandRows, .inl (ci 0, 5, .inl g_bandRows)) :: Rw))) (q_R (some (.long r))) 0 0 A := by
  refine q_ofW (cc := cX6_edgeTop) (maxL := 4) (ret := (some .long)) [.ref a_sp, .int p1] (plainFor_of_name (by decide)) rfl (Nat.le_of_ble_eq_true rfl) ?_
  intro p e s m below meth c ls Q hQ hx hb hml hr hts hown hlocks hK hA hZ hP hD hS hl
  have hl : lv_has ls 4 [(0, .ref a_sp), (1, .int p1)] := hl
  have hown : s.vm.findClass RX6 = some m.cls := hown
  have hinX2 : ∀ w ∈ wsX20, w ∈ wsX6_edgeTop := fun _ h => List.mem_cons_of_mem _ (inWX20 _ h)
  have hinX6 : ∀ w ∈ wsX60, w ∈ wsX6_edgeTop := fun _ h => List.mem_cons_of_mem _ (inWX60 _ h)
  have w_1 := hts (Cond.constantLong RX6 86 (1296000)) (List.mem_cons_of_mem _ t_w815)
  have w_2 := hts (Cond.fieldLink RX6 34 "SheetNames$Spot" "place" "I") (List.mem_cons_of_mem _ t_w803)
  have w_3 := hts (Cond.fieldLink RX6 40 "SheetNames$Spot" "cap" "Z") (List.mem_cons_of_mem _ t_w806)
  have w_4 := hts (Cond.fieldLink RX6 28 "SheetNames$Spot" "row" "I") (List.mem_cons_of_mem _ t_w807)
  have w_5 := hts (Cond.constant RX6 88 (316800)) (List.mem_cons_of_mem _ t_w816)
  have w_6 := hts (Cond.constant RX6 89 (-324000)) (List.mem_cons_of_mem _ t_w817)
  have w_7 := hts (Cond.constant RX6 90 (324000)) (List.mem_cons_of_mem _ t_w818)
  have w_8 := hts (Cond.constantLong RX6 91 (22)) (List.mem_cons_of_mem _ t_w819)
  have w_9 := hts (Cond.fieldLink RX6 44 "SheetNames$Spot" "grid" "LSheetNames$Grid;") (List.mem_cons_of_mem _ t_w801)
  have w_10 := hts (Cond.fieldLink RX6 25 "SheetNames$Spot" "level" "I") (List.mem_cons_of_mem _ t_w802)
  have w_11 := hts (Cond.constantLong RX6 93 (14400)) (List.mem_cons_of_mem _ t_w820)
  have wn_57 : (Cond.fieldLinkNest "SheetNames$Spot" 64 "SheetNames$Grid" "bandRows" "[I" "SheetNames").before ([.ref a_sp, .int p1] : List Value).toArray s = true := (hZ.2.2.2.2.2.2.2.2.2.1 _ (List.mem_of_getElem? (i := 57) rfl)).use rfl
  unfold f_Spot_edgeTop at hf
  have hgo : ∀ (H : Heap) (locs : List Loc), H = s.heap → va_P D vwCl ((a_sp, .inr (6, [.ref a_g, .ref a_sp_first, .ref a_sp_many, .ref a_sp_corner, .int sp_cornerCount, .int sp_level, .int sp_row, .int sp_start, .int sp_place, .int sp_length, .int sp_cap])) :: (a_g, .inr (2, [.ref a_g_rowCuts, .ref a_g_columnCuts, .ref a_g_bandRows, .ref a_g_zoneColumns, .ref a_g_rows, .ref a_g_sheets])) :: (a_g_bandRows, .inl (ci 0, 5, .inl g_bandRows)) :: Rw) H → va_S A s.heap H locs → W p l e ({ frames := 0, cells := 0, slots := 0, locals := 0 } : Room) s m ([.ref a_sp, .int p1] : List Value).toArray below meth c H locs 0 0 Q (F0 m 0 ls []) := by
    intro H locs hH hP hS
    subst hH
    refine lv_iload_n (pc := 0) hx hb dX6_edgeTop_0 rfl (lv_at hl 1 rfl) ?_
    refine lv_iconst (pc := 1) (v := 2) hx hb dX6_edgeTop_1 (by decide) ?_
    refine q_icmp_lt (pc := 2) (tgt := 29) hx hb dX6_edgeTop_2 (by decide) rfl hf (fun hf => ?_) (fun hf => ?_)
    · refine lv_aload_n (pc := 29) hx hb dX6_edgeTop_29 rfl (lv_at hl 0 rfl) ?_
      refine va_get (pc := 30) (D := D) (ci := 6) (v := .int sp_cap) (C := RX6) (T := TX6) (N := 11) hx hb hts hinX6 hown hK hP 0 rfl rfl 10 (by decide) w_3 (fun _ h9 => h9) rfl dX6_edgeTop_30 ?_
      refine q_if_eq (pc := 33) (tgt := 69) hx hb dX6_edgeTop_33 (by decide) rfl hf (fun hf => ?_) (fun hf => ?_)
      · refine lv_ldc2 (pc := 69) (v := 22) hx hb hown w_8 dX6_edgeTop_69 ?_
        refine lv_aload_n (pc := 72) hx hb dX6_edgeTop_72 rfl (lv_at hl 0 rfl) ?_
        refine va_get (pc := 73) (D := D) (ci := 6) (v := .ref a_g) (C := RX6) (T := TX6) (N := 11) hx hb hts hinX6 hown hK hP 0 rfl rfl 0 (by decide) w_9 (fun _ h9 => h9) rfl dX6_edgeTop_73 ?_
        refine va_getN (pc := 76) (D := D) (ci := 2) (v := .ref a_g_bandRows) (C := RX2) (T := TX2) (N := 6) hx hb hts hinX2 hown hK hP 1 rfl rfl 2 (by decide) wn_57 (fun _ h9 => h9) rfl dX6_edgeTop_76 ?_
        refine lv_aload_n (pc := 79) hx hb dX6_edgeTop_79 rfl (lv_at hl 0 rfl) ?_
        refine va_get (pc := 80) (D := D) (ci := 6) (v := .int sp_level) (C := RX6) (T := TX6) (N := 11) hx hb hts hinX6 hown hK hP 0 rfl rfl 5 (by decide) w_10 (fun _ h9 => h9) rfl dX6_edgeTop_80 ?_
        refine q_iald (pc := 83) hx hb hK hP 2 0 hf rfl rfl dX6_edgeTop_83 (fun v1 hf => ?_)
        refine lv_i2l (pc := 84) hx hb dX6_edgeTop_84 rfl ?_
        refine lv_lmul (pc := 85) hx hb dX6_edgeTop_85 ?_
        refine lv_aload_n (pc := 86) hx hb dX6_edgeTop_86 rfl (lv_at hl 0 rfl) ?_
        refine va_get (pc := 87) (D := D) (ci := 6) (v := .int sp_row) (C := RX6) (T := TX6) (N := 11) hx hb hts hinX6 hown hK hP 0 rfl rfl 6 (by decide) w_4 (fun _ h9 => h9) rfl dX6_edgeTop_87 ?_
        refine lv_i2l (pc := 90) hx hb dX6_edgeTop_90 rfl ?_
        refine lv_lsub (pc := 91) hx hb dX6_edgeTop_91 ?_
        obtain ⟨v2, ev2, hf⟩ := q_nm_e hf
        refine q_topl ev2 ?_
        refine lv_lstore_n (pc := 92) (lv' := [(2, .long v2), (0, .ref a_sp), (1, .int p1)]) hx hb dX6_edgeTop_92 rfl hl (by decide) rfl (fun ls hl => ?_)
        refine lv_ldc2 (pc := 93) (v := 14400) hx hb hown w_11 dX6_edgeTop_93 ?_
        refine lv_iload_n (pc := 96) hx hb dX6_edgeTop_96 rfl (lv_at hl 2 rfl) ?_
        refine q_if_ne (pc := 97) (tgt := 104) hx hb dX6_edgeTop_97 (by decide) rfl hf (fun hf => ?_) (fun hf => ?_)
        · refine lv_lload_n (pc := 104) hx hb dX6_edgeTop_104 rfl (lv_at hl 0 rfl) ?_
          refine lv_lconst (pc := 105) (v := 1) hx hb dX6_edgeTop_105 (by decide) ?_
          refine lv_ladd (pc := 106) hx hb dX6_edgeTop_106 ?_
          refine lv_lmul (pc := 107) hx hb dX6_edgeTop_107 ?_
          obtain rfl := Option.some.inj hf
          rw [hQ]
          exact q_lretr (pc := 108) hx hb hr hlocks rfl hS dX6_edgeTop_108
        · refine lv_lload_n (pc := 100) hx hb dX6_edgeTop_100 rfl (lv_at hl 0 rfl) ?_
          refine lv_goto (pc := 101) (tgt := 107) hx hb dX6_edgeTop_101 (by decide) ?_
          refine lv_lmul (pc := 107) hx hb dX6_edgeTop_107 ?_
          obtain rfl := Option.some.inj hf
          rw [hQ]
          exact q_lretr (pc := 108) hx hb hr hlocks rfl hS dX6_edgeTop_108
      · refine lv_aload_n (pc := 36) hx hb dX6_edgeTop_36 rfl (lv_at hl 0 rfl) ?_
        refine va_get (pc := 37) (D := D) (ci := 6) (v := .int sp_row) (C := RX6) (T := TX6) (N := 11) hx hb hts hinX6 hown hK hP 0 rfl rfl 6 (by decide) w_4 (fun _ h9 => h9) rfl dX6_edgeTop_37 ?_
        obtain ⟨k50, ek50, hf⟩ := q_j1_e hf
        have J50 : ∀ (v3 : Int32) (H : Heap) (locs : List Loc) (ls : Array Slot), k50 v3 = some r → H = s.heap → va_S A s.heap H locs → lv_has ls 4 [(1, .int p1)] → W p l e ({ frames := 0, cells := 0, slots := 0, locals := 0 } : Room) s m ([.ref a_sp, .int p1] : List Value).toArray below meth c H locs 0 0 Q (F0 m 50 ls [.int v3]) := by
          intro v3 H locs ls hf hHs hS hl
          subst hHs
          have hf := (ek50 v3).symm.trans hf
          refine lv_istore_n (pc := 50) (lv' := [(2, .int v3), (1, .int p1)]) hx hb dX6_edgeTop_50 rfl hl (by decide) rfl (fun ls hl => ?_)
          refine lv_iload_n (pc := 51) hx hb dX6_edgeTop_51 rfl (lv_at hl 1 rfl) ?_
          refine q_if_ne (pc := 52) (tgt := 60) hx hb dX6_edgeTop_52 (by decide) rfl hf (fun hf => ?_) (fun hf => ?_)
          · refine lv_iload_n (pc := 60) hx hb dX6_edgeTop_60 rfl (lv_at hl 0 rfl) ?_
            refine lv_ldc (pc := 61) (v := 324000) hx hb hown w_7 dX6_edgeTop_61 ?_
            refine lv_iadd (pc := 63) hx hb dX6_edgeTop_63 ?_
            refine lv_ldc (pc := 64) (v := 316800) hx hb hown w_5 dX6_edgeTop_64 ?_
            refine lv_isub (pc := 66) hx hb dX6_edgeTop_66 ?_
            refine lv_i2l (pc := 67) hx hb dX6_edgeTop_67 rfl ?_
            obtain rfl := Option.some.inj hf
            rw [hQ]
            exact q_lretr (pc := 68) hx hb hr hlocks rfl hS dX6_edgeTop_68
          · refine lv_iload_n (pc := 55) hx hb dX6_edgeTop_55 rfl (lv_at hl 0 rfl) ?_
            refine lv_i2l (pc := 56) hx hb dX6_edgeTop_56 rfl ?_
            refine lv_goto (pc := 57) (tgt := 68) hx hb dX6_edgeTop_57 (by decide) ?_
            obtain rfl := Option.some.inj hf
            rw [hQ]
            exact q_lretr (pc := 68) hx hb hr hlocks rfl hS dX6_edgeTop_68
        refine q_if_ne (pc := 40) (tgt := 48) hx hb dX6_edgeTop_40 (by decide) rfl hf (fun hf => ?_) (fun hf => ?_)
        · refine lv_ldc (pc := 48) (v := (-324000)) hx hb hown w_6 dX6_edgeTop_48 ?_
          exact J50 (-324000) _ _ _ hf rfl hS (lv_sub hl [1] rfl)
        · refine lv_ldc (pc := 43) (v := 316800) hx hb hown w_5 dX6_edgeTop_43 ?_
          refine lv_goto (pc := 45) (tgt := 50) hx hb dX6_edgeTop_45 (by decide) ?_
          exact J50 316800 _ _ _ hf rfl hS (lv_sub hl [1] rfl)
    · refine lv_ldc2 (pc := 5) (v := 1296000) hx hb hown w_1 dX6_edgeTop_5 ?_
      refine lv_iload_n (pc := 8) hx hb dX6_edgeTop_8 rfl (lv_at hl 1 rfl) ?_
      refine lv_iconst (pc := 9) (v := 2) hx hb dX6_edgeTop_9 (by decide) ?_
      refine q_icmp_ne (pc := 10) (tgt := 20) hx hb dX6_edgeTop_10 (by decide) rfl hf (fun hf => ?_) (fun hf => ?_)
      · refine lv_aload_n (pc := 20) hx hb dX6_edgeTop_20 rfl (lv_at hl 0 rfl) ?_
        refine va_get (pc := 21) (D := D) (ci := 6) (v := .int sp_place) (C := RX6) (T := TX6) (N := 11) hx hb hts hinX6 hown hK hP 0 rfl rfl 8 (by decide) w_2 (fun _ h9 => h9) rfl dX6_edgeTop_21 ?_
        refine lv_iconst (pc := 24) (v := 1) hx hb dX6_edgeTop_24 (by decide) ?_
        refine lv_iadd (pc := 25) hx hb dX6_edgeTop_25 ?_
        refine lv_i2l (pc := 26) hx hb dX6_edgeTop_26 rfl ?_
        refine lv_lmul (pc := 27) hx hb dX6_edgeTop_27 ?_
        obtain rfl := Option.some.inj hf
        rw [hQ]
        exact q_lretr (pc := 28) hx hb hr hlocks rfl hS dX6_edgeTop_28
      · refine lv_aload_n (pc := 13) hx hb dX6_edgeTop_13 rfl (lv_at hl 0 rfl) ?_
        refine va_get (pc := 14) (D := D) (ci := 6) (v := .int sp_place) (C := RX6) (T := TX6) (N := 11) hx hb hts hinX6 hown hK hP 0 rfl rfl 8 (by decide) w_2 (fun _ h9 => h9) rfl dX6_edgeTop_14 ?_
        refine lv_goto (pc := 17) (tgt := 26) hx hb dX6_edgeTop_17 (by decide) ?_
        refine lv_i2l (pc := 26) hx hb dX6_edgeTop_26 rfl ?_
        refine lv_lmul (pc := 27) hx hb dX6_edgeTop_27 ?_
        obtain rfl := Option.some.inj hf
        rw [hQ]
        exact q_lretr (pc := 28) hx hb hr hlocks rfl hS dX6_edgeTop_28
  exact hgo _ _ rfl hP hS
/-! X6_lookAcross -/
set_option maxRecDepth 100000 in
set_option maxHeartbeats 4000000 in
theorem c_Spot_lookAcross (l : Launch) (D : va_G) (ci : Nat → ClassId) (A : Nat → Prop) (sa : Nat → Nat) (N : Nat) (Rw : va_W) (a_sp : Nat) (a_g : Nat) (a_sp_first : Nat) (a_sp_many : Nat) (a_sp_corner : Nat) (a_g_rowCuts : Nat) (a_g_columnCuts : Nat) (a_g_bandRows : Nat) (a_g_zoneColumns : Nat) (a_g_rows : Nat) (a_g_sheets : Nat) (sp_cornerCount : Int32) (sp_level : Int32) (sp_row : Int32) (sp_start : Int32) (sp_place : Int32) (sp_length : Int32) (sp_cap : Int32) (sp_first : Nat → Int32) (sp_many : Nat → Int32) (g_bandRows : Nat → Int32) (g_zoneColumns : Nat → Int32) (g_rows : Nat → Int32) (g_sheets : Nat → Int32) (p1 : Int32) (p2 : Int32) (o1 : Nat → Int32) (o2 : Nat → Int32) (hf : f_Spot_lookAcross sp_first sp_many sp_level sp_place sp_length g_bandRows g_zoneColumns g_rows g_sheets p1 p2 = some (o1, o2)) : Met l yX6_lookAcross wsX6_lookAcross ({ frames := 1, cells := 0, slots := 0, locals := 25 }) (va_Pc [.ref a_sp, .int p1, .int p2] (q_N D ci A sa ((a_sp, .inr (6, [.ref a_g, .ref a_sp_first, .ref a_sp_many, .ref a_sp_corner, .int sp_cornerCount, .int sp_level, .int sp_row, .int sp_start, .int sp_place, .int sp_length, .int sp_cap])) :: (a_sp_first, .inl (ci 0, 4, .inl sp_first)) :: (a_sp_many, .inl (ci 0, 4, .inl sp_many)) :: (a_g, .inr (2, [.ref a_g_rowCuts, .ref a_g_columnCuts, .ref a_g_bandRows, .ref a_g_zoneColumns, .ref a_g_rows, .ref a_g_sheets])) :: (a_g_bandRows, .inl (ci 0, 5, .inl g_bandRows)) :: (a_g_zoneColumns, .inl (ci 0, 5, .inl g_zoneColumns)) :: (a_g_rows, .inl (ci 0, 5, .inl g_rows)) :: (a_g_sheets, .inl (ci 0, 5, .inl g_sheets)) :: Rw))) (q_Q none (q_O D A ((a_sp, .inr (6, [.ref a_g, .ref a_sp_first, .ref a_sp_many, .ref a_sp_corner, .int sp_cornerCount, .int sp_level, .int sp_row, .int sp_start, .int sp_place, .int sp_length, .int sp_cap])) :: (a_sp_first, .inl (ci 0, 4, .inl o1)) :: (a_sp_many, .inl (ci 0, 4, .inl o2)) :: (a_g, .inr (2, [.ref a_g_rowCuts, .ref a_g_columnCuts, .ref a_g_bandRows, .ref a_g_zoneColumns, .ref a_g_rows, .ref a_g_sheets])) :: (a_g_bandRows, .inl (ci 0, 5, .inl g_bandRows)) :: (a_g_zoneColumns, .inl (ci 0, 5, .inl g_zoneColumns)) :: (a_g_rows, .inl (ci 0, 5, .inl g_rows)) :: (a_g_sheets, .inl (ci 0, 5, .inl g_sheets)) :: Rw)) A) 0 0 A := by
  refine q_ofW (cc := cX6_lookAcross) (maxL := 7) (ret := none) [.ref a_sp, .int p1, .int p2] (plainFor_of_name (by decide)) rfl (Nat.le_of_ble_eq_true rfl) ?_
  intro p e s m below meth c ls Q hQ hx hb hml hr hts hown hlocks hK hA hZ hP hD hS hl
  have hl : lv_has ls 7 [(0, .ref a_sp), (1, .int p1), (2, .int p2)] := hl
  have hown : s.vm.findClass RX6 = some m.cls := hown
  have hinX2 : ∀ w ∈ wsX20, w ∈ wsX6_lookAcross := fun _ h => List.mem_cons_of_mem _ (inWX20 _ h)
  have hinX6 : ∀ w ∈ wsX60, w ∈ wsX6_lookAcross := fun _ h => List.mem_cons_of_mem _ (inWX60 _ h)
  have w_1 := hts (Cond.fieldLink RX6 9 "SheetNames$Spot" "first" "[I") (List.mem_cons_of_mem _ t_w808)
  have w_2 := hts (Cond.fieldLink RX6 15 "SheetNames$Spot" "many" "[I") (List.mem_cons_of_mem _ t_w805)
  have w_3 := hts (Cond.fieldLink RX6 44 "SheetNames$Spot" "grid" "LSheetNames$Grid;") (List.mem_cons_of_mem _ t_w801)
  have w_4 := hts (Cond.fieldLink RX6 25 "SheetNames$Spot" "level" "I") (List.mem_cons_of_mem _ t_w802)
  have w_5 := hts (Cond.fieldLink RX6 34 "SheetNames$Spot" "place" "I") (List.mem_cons_of_mem _ t_w803)
  have w_6 := hts (Cond.fieldLink RX6 37 "SheetNames$Spot" "length" "I") (List.mem_cons_of_mem _ t_w804)
  have wn_56 : (Cond.fieldLinkNest "SheetNames$Spot" 120 "SheetNames$Grid" "rows" "[I" "SheetNames").before ([.ref a_sp, .int p1, .int p2] : List Value).toArray s = true := (hZ.2.2.2.2.2.2.2.2.2.1 _ (List.mem_of_getElem? (i := 56) rfl)).use rfl
  unfold f_Spot_lookAcross at hf
  have hgo : ∀ (H : Heap) (locs : List Loc), H = s.heap → va_P D vwCl ((a_sp, .inr (6, [.ref a_g, .ref a_sp_first, .ref a_sp_many, .ref a_sp_corner, .int sp_cornerCount, .int sp_level, .int sp_row, .int sp_start, .int sp_place, .int sp_length, .int sp_cap])) :: (a_sp_first, .inl (ci 0, 4, .inl sp_first)) :: (a_sp_many, .inl (ci 0, 4, .inl sp_many)) :: (a_g, .inr (2, [.ref a_g_rowCuts, .ref a_g_columnCuts, .ref a_g_bandRows, .ref a_g_zoneColumns, .ref a_g_rows, .ref a_g_sheets])) :: (a_g_bandRows, .inl (ci 0, 5, .inl g_bandRows)) :: (a_g_zoneColumns, .inl (ci 0, 5, .inl g_zoneColumns)) :: (a_g_rows, .inl (ci 0, 5, .inl g_rows)) :: (a_g_sheets, .inl (ci 0, 5, .inl g_sheets)) :: Rw) H → va_S A s.heap H locs → W p l e ({ frames := 1, cells := 0, slots := 0, locals := 25 } : Room) s m ([.ref a_sp, .int p1, .int p2] : List Value).toArray below meth c H locs 0 0 Q (F0 m 0 ls []) := by
    intro H locs hH hP hS
    refine lv_aload_n (pc := 0) hx hb dX6_lookAcross_0 rfl (lv_at hl 0 rfl) ?_
    refine va_get (pc := 1) (D := D) (ci := 6) (v := .ref a_sp_first) (C := RX6) (T := TX6) (N := 11) hx hb hts hinX6 hown hK hP 0 rfl rfl 1 (by decide) w_1 (fun _ h9 => h9) rfl dX6_lookAcross_1 ?_
    refine lv_iload_n (pc := 4) hx hb dX6_lookAcross_4 rfl (lv_at hl 1 rfl) ?_
    refine lv_iconst (pc := 5) (v := 0) hx hb dX6_lookAcross_5 (by decide) ?_
    refine q_iast (pc := 6) hx hb hK hP hD hS 1 0 hf rfl rfl dX6_lookAcross_6 (fun f1 H locs hf hP hD hS => ?_)
    obtain ⟨hP, hD⟩ : va_PD D A ((a_sp, .inr (6, [.ref a_g, .ref a_sp_first, .ref a_sp_many, .ref a_sp_corner, .int sp_cornerCount, .int sp_level, .int sp_row, .int sp_start, .int sp_place, .int sp_length, .int sp_cap])) :: (a_sp_first, .inl (ci 0, 4, .inl f1)) :: (a_sp_many, .inl (ci 0, 4, .inl sp_many)) :: (a_g, .inr (2, [.ref a_g_rowCuts, .ref a_g_columnCuts, .ref a_g_bandRows, .ref a_g_zoneColumns, .ref a_g_rows, .ref a_g_sheets])) :: (a_g_bandRows, .inl (ci 0, 5, .inl g_bandRows)) :: (a_g_zoneColumns, .inl (ci 0, 5, .inl g_zoneColumns)) :: (a_g_rows, .inl (ci 0, 5, .inl g_rows)) :: (a_g_sheets, .inl (ci 0, 5, .inl g_sheets)) :: Rw) H := ⟨hP, hD⟩
    refine lv_aload_n (pc := 7) hx hb dX6_lookAcross_7 rfl (lv_at hl 0 rfl) ?_
    refine va_get (pc := 8) (D := D) (ci := 6) (v := .ref a_sp_many) (C := RX6) (T := TX6) (N := 11) hx hb hts hinX6 hown hK hP 0 rfl rfl 2 (by decide) w_2 (fun _ h9 => h9) rfl dX6_lookAcross_8 ?_
    refine lv_iload_n (pc := 11) hx hb dX6_lookAcross_11 rfl (lv_at hl 1 rfl) ?_
    refine lv_iconst (pc := 12) (v := 0) hx hb dX6_lookAcross_12 (by decide) ?_
    refine q_iast (pc := 13) hx hb hK hP hD hS 2 0 hf rfl rfl dX6_lookAcross_13 (fun f2 H locs hf hP hD hS => ?_)
    obtain ⟨hP, hD⟩ : va_PD D A ((a_sp, .inr (6, [.ref a_g, .ref a_sp_first, .ref a_sp_many, .ref a_sp_corner, .int sp_cornerCount, .int sp_level, .int sp_row, .int sp_start, .int sp_place, .int sp_length, .int sp_cap])) :: (a_sp_first, .inl (ci 0, 4, .inl f1)) :: (a_sp_many, .inl (ci 0, 4, .inl f2)) :: (a_g, .inr (2, [.ref a_g_rowCuts, .ref a_g_columnCuts, .ref a_g_bandRows, .ref a_g_zoneColumns, .ref a_g_rows, .ref a_g_sheets])) :: (a_g_bandRows, .inl (ci 0, 5, .inl g_bandRows)) :: (a_g_zoneColumns, .inl (ci 0, 5, .inl g_zoneColumns)) :: (a_g_rows, .inl (ci 0, 5, .inl g_rows)) :: (a_g_sheets, .inl (ci 0, 5, .inl g_sheets)) :: Rw) H := ⟨hP, hD⟩
    refine lv_iload_n (pc := 14) hx hb dX6_lookAcross_14 rfl (lv_at hl 2 rfl) ?_
    refine q_if_lt (pc := 15) (tgt := 34) hx hb dX6_lookAcross_15 (by decide) rfl hf (fun hf => ?_) (fun hf => ?_)
    · obtain ⟨rfl, rfl⟩ := q_inj2 (Option.some.inj hf)
      rw [hQ]
      exact q_vret (pc := 34) hx hb hr hlocks hP hD hS dX6_lookAcross_34
    · refine lv_iload_n (pc := 18) hx hb dX6_lookAcross_18 rfl (lv_at hl 2 rfl) ?_
      refine lv_aload_n (pc := 19) hx hb dX6_lookAcross_19 rfl (lv_at hl 0 rfl) ?_
      refine va_get (pc := 20) (D := D) (ci := 6) (v := .ref a_g) (C := RX6) (T := TX6) (N := 11) hx hb hts hinX6 hown hK hP 0 rfl rfl 0 (by decide) w_3 (fun _ h9 => h9) rfl dX6_lookAcross_20 ?_
      refine va_getN (pc := 23) (D := D) (ci := 2) (v := .ref a_g_rows) (C := RX2) (T := TX2) (N := 6) hx hb hts hinX2 hown hK hP 3 rfl rfl 4 (by decide) wn_56 (fun _ h9 => h9) rfl dX6_lookAcross_23 ?_
      refine lv_aload_n (pc := 26) hx hb dX6_lookAcross_26 rfl (lv_at hl 0 rfl) ?_
      refine va_get (pc := 27) (D := D) (ci := 6) (v := .int sp_level) (C := RX6) (T := TX6) (N := 11) hx hb hts hinX6 hown hK hP 0 rfl rfl 5 (by decide) w_4 (fun _ h9 => h9) rfl dX6_lookAcross_27 ?_
      refine q_iald (pc := 30) hx hb hK hP 6 0 hf rfl rfl dX6_lookAcross_30 (fun v3 hf => ?_)
      refine q_icmp_lt (pc := 31) (tgt := 35) hx hb dX6_lookAcross_31 (by decide) rfl hf (fun hf => ?_) (fun hf => ?_)
      · refine lv_aload_n (pc := 35) hx hb dX6_lookAcross_35 rfl (lv_at hl 0 rfl) ?_
        refine va_get (pc := 36) (D := D) (ci := 6) (v := .ref a_g) (C := RX6) (T := TX6) (N := 11) hx hb hts hinX6 hown hK hP 0 rfl rfl 0 (by decide) w_3 (fun _ h9 => h9) rfl dX6_lookAcross_36 ?_
        refine lv_aload_n (pc := 39) hx hb dX6_lookAcross_39 rfl (lv_at hl 0 rfl) ?_
        refine va_get (pc := 40) (D := D) (ci := 6) (v := .int sp_level) (C := RX6) (T := TX6) (N := 11) hx hb hts hinX6 hown hK hP 0 rfl rfl 5 (by decide) w_4 (fun _ h9 => h9) rfl dX6_lookAcross_40 ?_
        refine lv_iload_n (pc := 43) hx hb dX6_lookAcross_43 rfl (lv_at hl 2 rfl) ?_
        obtain ⟨v4, hm44, hf⟩ := q_b1_e hf
        refine q_cVr (pc := 44) (As := [.int sp_level, .int p2]) (rest := []) (v0 := (some (.int v4))) ⟨hx, hb, hml, hown, hts⟩ hK hA hZ hP hD hS hl.1 [3, 4, 5, 6] 8 rfl ⟨rfl, rfl, rfl⟩ (c_Grid_rowLength l D ci A sa N (Rw) a_g a_g_rowCuts a_g_columnCuts a_g_bandRows a_g_zoneColumns a_g_rows a_g_sheets g_bandRows g_zoneColumns g_rows sp_level p2 v4 hm44) 3 rfl rfl (cwV 2 hts gX6_lookAcross_X2_rowLength rfl rfl rfl (by decide +kernel) ⟨Nat.le_of_ble_eq_true rfl, Nat.le_of_ble_eq_true rfl⟩) rfl rfl (Nat.le_of_ble_eq_true rfl) dX6_lookAcross_44 ⟨Nat.zero_le _, Nat.zero_le _⟩ (fun locs hS => ?_)
        refine lv_i2l (pc := 47) hx hb dX6_lookAcross_47 rfl ?_
        obtain ⟨v5, ev5, hf⟩ := q_nm_e hf
        refine q_topl ev5 ?_
        refine lv_lstore_n (pc := 48) (lv' := [(3, .long v5), (0, .ref a_sp), (1, .int p1), (2, .int p2)]) hx hb dX6_lookAcross_48 rfl hl (by decide) rfl (fun ls hl => ?_)
        refine lv_aload_n (pc := 49) hx hb dX6_lookAcross_49 rfl (lv_at hl 1 rfl) ?_
        refine va_get (pc := 50) (D := D) (ci := 6) (v := .int sp_place) (C := RX6) (T := TX6) (N := 11) hx hb hts hinX6 hown hK hP 0 rfl rfl 8 (by decide) w_5 (fun _ h9 => h9) rfl dX6_lookAcross_50 ?_
        refine lv_i2l (pc := 53) hx hb dX6_lookAcross_53 rfl ?_
        refine lv_lload_n (pc := 54) hx hb dX6_lookAcross_54 rfl (lv_at hl 0 rfl) ?_
        refine lv_lmul (pc := 55) hx hb dX6_lookAcross_55 ?_
        refine lv_aload_n (pc := 56) hx hb dX6_lookAcross_56 rfl (lv_at hl 1 rfl) ?_
        refine va_get (pc := 57) (D := D) (ci := 6) (v := .int sp_length) (C := RX6) (T := TX6) (N := 11) hx hb hts hinX6 hown hK hP 0 rfl rfl 9 (by decide) w_6 (fun _ h9 => h9) rfl dX6_lookAcross_57 ?_
        refine lv_i2l (pc := 60) hx hb dX6_lookAcross_60 rfl ?_
        refine q_ldiv (pc := 61) hx hb dX6_lookAcross_61 hf (fun v6 hf => ?_)
        refine lv_l2i (pc := 62) hx hb dX6_lookAcross_62 rfl ?_
        obtain ⟨v7, ev7, hf⟩ := q_nm_e hf
        refine q_topi ev7 ?_
        refine lv_istore (pc := 63) (lv' := [(5, .int v7), (3, .long v5), (0, .ref a_sp), (1, .int p1), (2, .int p2)]) hx hb dX6_lookAcross_63 hl (by decide) rfl (fun ls hl => ?_)
        refine lv_aload_n (pc := 65) hx hb dX6_lookAcross_65 rfl (lv_at hl 2 rfl) ?_
        refine va_get (pc := 66) (D := D) (ci := 6) (v := .int sp_place) (C := RX6) (T := TX6) (N := 11) hx hb hts hinX6 hown hK hP 0 rfl rfl 8 (by decide) w_5 (fun _ h9 => h9) rfl dX6_lookAcross_66 ?_
        refine lv_iconst (pc := 69) (v := 1) hx hb dX6_lookAcross_69 (by decide) ?_
        refine lv_iadd (pc := 70) hx hb dX6_lookAcross_70 ?_
        refine lv_i2l (pc := 71) hx hb dX6_lookAcross_71 rfl ?_
        refine lv_lload_n (pc := 72) hx hb dX6_lookAcross_72 rfl (lv_at hl 1 rfl) ?_
        refine lv_lmul (pc := 73) hx hb dX6_lookAcross_73 ?_
        refine lv_lconst (pc := 74) (v := 1) hx hb dX6_lookAcross_74 (by decide) ?_
        refine lv_lsub (pc := 75) hx hb dX6_lookAcross_75 ?_
        refine lv_aload_n (pc := 76) hx hb dX6_lookAcross_76 rfl (lv_at hl 2 rfl) ?_
        refine va_get (pc := 77) (D := D) (ci := 6) (v := .int sp_length) (C := RX6) (T := TX6) (N := 11) hx hb hts hinX6 hown hK hP 0 rfl rfl 9 (by decide) w_6 (fun _ h9 => h9) rfl dX6_lookAcross_77 ?_
        refine lv_i2l (pc := 80) hx hb dX6_lookAcross_80 rfl ?_
        refine q_ldiv (pc := 81) hx hb dX6_lookAcross_81 hf (fun v8 hf => ?_)
        refine lv_l2i (pc := 82) hx hb dX6_lookAcross_82 rfl ?_
        obtain ⟨v9, ev9, hf⟩ := q_nm_e hf
        refine q_topi ev9 ?_
        refine lv_istore (pc := 83) (lv' := [(6, .int v9), (5, .int v7), (3, .long v5), (0, .ref a_sp), (1, .int p1), (2, .int p2)]) hx hb dX6_lookAcross_83 hl (by decide) rfl (fun ls hl => ?_)
        refine lv_aload_n (pc := 85) hx hb dX6_lookAcross_85 rfl (lv_at hl 3 rfl) ?_
        refine va_get (pc := 86) (D := D) (ci := 6) (v := .ref a_sp_first) (C := RX6) (T := TX6) (N := 11) hx hb hts hinX6 hown hK hP 0 rfl rfl 1 (by decide) w_1 (fun _ h9 => h9) rfl dX6_lookAcross_86 ?_
        refine lv_iload_n (pc := 89) hx hb dX6_lookAcross_89 rfl (lv_at hl 4 rfl) ?_
        refine lv_aload_n (pc := 90) hx hb dX6_lookAcross_90 rfl (lv_at hl 3 rfl) ?_
        refine va_get (pc := 91) (D := D) (ci := 6) (v := .ref a_g) (C := RX6) (T := TX6) (N := 11) hx hb hts hinX6 hown hK hP 0 rfl rfl 0 (by decide) w_3 (fun _ h9 => h9) rfl dX6_lookAcross_91 ?_
        refine lv_aload_n (pc := 94) hx hb dX6_lookAcross_94 rfl (lv_at hl 3 rfl) ?_
        refine va_get (pc := 95) (D := D) (ci := 6) (v := .int sp_level) (C := RX6) (T := TX6) (N := 11) hx hb hts hinX6 hown hK hP 0 rfl rfl 5 (by decide) w_4 (fun _ h9 => h9) rfl dX6_lookAcross_95 ?_
        refine lv_iload_n (pc := 98) hx hb dX6_lookAcross_98 rfl (lv_at hl 5 rfl) ?_
        obtain ⟨v10, hm99, hf⟩ := q_b1_e hf
        refine q_cVr (pc := 99) (As := [.int sp_level, .int p2]) (rest := [.int p1, .ref a_sp_first]) (v0 := (some (.int v10))) ⟨hx, hb, hml, hown, hts⟩ hK hA hZ hP hD hS hl.1 [3, 4, 5, 6, 7] 8 rfl ⟨rfl, rfl, rfl⟩ (c_Grid_rowStart l D ci A sa N (Rw) a_g a_g_rowCuts a_g_columnCuts a_g_bandRows a_g_zoneColumns a_g_rows a_g_sheets g_bandRows g_zoneColumns g_rows g_sheets sp_level p2 v10 hm99) 3 rfl rfl (cwV 2 hts gX6_lookAcross_X2_rowStart rfl rfl rfl (by decide +kernel) ⟨Nat.le_of_ble_eq_true rfl, Nat.le_of_ble_eq_true rfl⟩) rfl rfl (Nat.le_of_ble_eq_true rfl) dX6_lookAcross_99 ⟨Nat.zero_le _, Nat.zero_le _⟩ (fun locs hS => ?_)
        refine lv_iload (pc := 102) hx hb dX6_lookAcross_102 (lv_at hl 1 rfl) ?_
        refine lv_iadd (pc := 104) hx hb dX6_lookAcross_104 ?_
        refine q_iast (pc := 105) hx hb hK hP hD hS 1 0 hf rfl rfl dX6_lookAcross_105 (fun f11 H locs hf hP hD hS => ?_)
        obtain ⟨hP, hD⟩ : va_PD D A ((a_sp, .inr (6, [.ref a_g, .ref a_sp_first, .ref a_sp_many, .ref a_sp_corner, .int sp_cornerCount, .int sp_level, .int sp_row, .int sp_start, .int sp_place, .int sp_length, .int sp_cap])) :: (a_sp_first, .inl (ci 0, 4, .inl f11)) :: (a_sp_many, .inl (ci 0, 4, .inl f2)) :: (a_g, .inr (2, [.ref a_g_rowCuts, .ref a_g_columnCuts, .ref a_g_bandRows, .ref a_g_zoneColumns, .ref a_g_rows, .ref a_g_sheets])) :: (a_g_bandRows, .inl (ci 0, 5, .inl g_bandRows)) :: (a_g_zoneColumns, .inl (ci 0, 5, .inl g_zoneColumns)) :: (a_g_rows, .inl (ci 0, 5, .inl g_rows)) :: (a_g_sheets, .inl (ci 0, 5, .inl g_sheets)) :: Rw) H := ⟨hP, hD⟩
        refine lv_aload_n (pc := 106) hx hb dX6_lookAcross_106 rfl (lv_at hl 3 rfl) ?_
        refine va_get (pc := 107) (D := D) (ci := 6) (v := .ref a_sp_many) (C := RX6) (T := TX6) (N := 11) hx hb hts hinX6 hown hK hP 0 rfl rfl 2 (by decide) w_2 (fun _ h9 => h9) rfl dX6_lookAcross_107 ?_
        refine lv_iload_n (pc := 110) hx hb dX6_lookAcross_110 rfl (lv_at hl 4 rfl) ?_
        refine lv_iload (pc := 111) hx hb dX6_lookAcross_111 (lv_at hl 0 rfl) ?_
        refine lv_iload (pc := 113) hx hb dX6_lookAcross_113 (lv_at hl 1 rfl) ?_
        refine lv_isub (pc := 115) hx hb dX6_lookAcross_115 ?_
        refine lv_iconst (pc := 116) (v := 1) hx hb dX6_lookAcross_116 (by decide) ?_
        refine lv_iadd (pc := 117) hx hb dX6_lookAcross_117 ?_
        refine q_iast (pc := 118) hx hb hK hP hD hS 2 0 hf rfl rfl dX6_lookAcross_118 (fun f12 H locs hf hP hD hS => ?_)
        obtain ⟨hP, hD⟩ : va_PD D A ((a_sp, .inr (6, [.ref a_g, .ref a_sp_first, .ref a_sp_many, .ref a_sp_corner, .int sp_cornerCount, .int sp_level, .int sp_row, .int sp_start, .int sp_place, .int sp_length, .int sp_cap])) :: (a_sp_first, .inl (ci 0, 4, .inl f11)) :: (a_sp_many, .inl (ci 0, 4, .inl f12)) :: (a_g, .inr (2, [.ref a_g_rowCuts, .ref a_g_columnCuts, .ref a_g_bandRows, .ref a_g_zoneColumns, .ref a_g_rows, .ref a_g_sheets])) :: (a_g_bandRows, .inl (ci 0, 5, .inl g_bandRows)) :: (a_g_zoneColumns, .inl (ci 0, 5, .inl g_zoneColumns)) :: (a_g_rows, .inl (ci 0, 5, .inl g_rows)) :: (a_g_sheets, .inl (ci 0, 5, .inl g_sheets)) :: Rw) H := ⟨hP, hD⟩
        obtain ⟨rfl, rfl⟩ := q_inj2 (Option.some.inj hf)
        rw [hQ]
        exact q_vret (pc := 119) hx hb hr hlocks hP hD hS dX6_lookAcross_119
      · obtain ⟨rfl, rfl⟩ := q_inj2 (Option.some.inj hf)
        rw [hQ]
        exact q_vret (pc := 34) hx hb hr hlocks hP hD hS dX6_lookAcross_34
  exact hgo _ _ rfl hP hS
/-! X6_lookAlong -/
set_option maxRecDepth 100000 in
set_option maxHeartbeats 4000000 in
theorem c_Spot_lookAlong (l : Launch) (D : va_G) (ci : Nat → ClassId) (A : Nat → Prop) (sa : Nat → Nat) (N : Nat) (Rw : va_W) (a_sp : Nat) (a_g : Nat) (a_sp_first : Nat) (a_sp_many : Nat) (a_sp_corner : Nat) (sp_cornerCount : Int32) (sp_level : Int32) (sp_row : Int32) (sp_start : Int32) (sp_place : Int32) (sp_length : Int32) (sp_cap : Int32) (sp_first : Nat → Int32) (sp_many : Nat → Int32) (p1 : Int32) (p2 : Int32) (o1 : Nat → Int32) (o2 : Nat → Int32) (hf : f_Spot_lookAlong sp_first sp_many sp_start sp_place sp_length sp_cap p1 p2 = some (o1, o2)) : Met l yX6_lookAlong wsX6_lookAlong ({ frames := 0, cells := 0, slots := 0, locals := 0 }) (va_Pc [.ref a_sp, .int p1, .int p2] (q_N D ci A sa ((a_sp, .inr (6, [.ref a_g, .ref a_sp_first, .ref a_sp_many, .ref a_sp_corner, .int sp_cornerCount, .int sp_level, .int sp_row, .int sp_start, .int sp_place, .int sp_length, .int sp_cap])) :: (a_sp_first, .inl (ci 0, 4, .inl sp_first)) :: (a_sp_many, .inl (ci 0, 4, .inl sp_many)) :: Rw))) (q_Q none (q_O D A ((a_sp, .inr (6, [.ref a_g, .ref a_sp_first, .ref a_sp_many, .ref a_sp_corner, .int sp_cornerCount, .int sp_level, .int sp_row, .int sp_start, .int sp_place, .int sp_length, .int sp_cap])) :: (a_sp_first, .inl (ci 0, 4, .inl o1)) :: (a_sp_many, .inl (ci 0, 4, .inl o2)) :: Rw)) A) 0 0 A := by
  refine q_ofW (cc := cX6_lookAlong) (maxL := 3) (ret := none) [.ref a_sp, .int p1, .int p2] (plainFor_of_name (by decide)) rfl (Nat.le_of_ble_eq_true rfl) ?_
  intro p e s m below meth c ls Q hQ hx hb hml hr hts hown hlocks hK hA hZ hP hD hS hl
  have hl : lv_has ls 3 [(0, .ref a_sp), (1, .int p1), (2, .int p2)] := hl
  have hown : s.vm.findClass RX6 = some m.cls := hown
  have hinX6 : ∀ w ∈ wsX60, w ∈ wsX6_lookAlong := fun _ h => List.mem_cons_of_mem _ (inWX60 _ h)
  have w_1 := hts (Cond.fieldLink RX6 9 "SheetNames$Spot" "first" "[I") (List.mem_cons_of_mem _ t_w808)
  have w_2 := hts (Cond.fieldLink RX6 31 "SheetNames$Spot" "start" "I") (List.mem_cons_of_mem _ t_w821)
  have w_3 := hts (Cond.fieldLink RX6 34 "SheetNames$Spot" "place" "I") (List.mem_cons_of_mem _ t_w803)
  have w_4 := hts (Cond.fieldLink RX6 37 "SheetNames$Spot" "length" "I") (List.mem_cons_of_mem _ t_w804)
  have w_5 := hts (Cond.fieldLink RX6 15 "SheetNames$Spot" "many" "[I") (List.mem_cons_of_mem _ t_w805)
  have w_6 := hts (Cond.fieldLink RX6 40 "SheetNames$Spot" "cap" "Z") (List.mem_cons_of_mem _ t_w806)
  unfold f_Spot_lookAlong at hf
  have hgo : ∀ (H : Heap) (locs : List Loc), H = s.heap → va_P D vwCl ((a_sp, .inr (6, [.ref a_g, .ref a_sp_first, .ref a_sp_many, .ref a_sp_corner, .int sp_cornerCount, .int sp_level, .int sp_row, .int sp_start, .int sp_place, .int sp_length, .int sp_cap])) :: (a_sp_first, .inl (ci 0, 4, .inl sp_first)) :: (a_sp_many, .inl (ci 0, 4, .inl sp_many)) :: Rw) H → va_S A s.heap H locs → W p l e ({ frames := 0, cells := 0, slots := 0, locals := 0 } : Room) s m ([.ref a_sp, .int p1, .int p2] : List Value).toArray below meth c H locs 0 0 Q (F0 m 0 ls []) := by
    intro H locs hH hP hS
    refine lv_aload_n (pc := 0) hx hb dX6_lookAlong_0 rfl (lv_at hl 0 rfl) ?_
    refine va_get (pc := 1) (D := D) (ci := 6) (v := .ref a_sp_first) (C := RX6) (T := TX6) (N := 11) hx hb hts hinX6 hown hK hP 0 rfl rfl 1 (by decide) w_1 (fun _ h9 => h9) rfl dX6_lookAlong_1 ?_
    refine lv_iload_n (pc := 4) hx hb dX6_lookAlong_4 rfl (lv_at hl 1 rfl) ?_
    refine lv_aload_n (pc := 5) hx hb dX6_lookAlong_5 rfl (lv_at hl 0 rfl) ?_
    refine va_get (pc := 6) (D := D) (ci := 6) (v := .int sp_start) (C := RX6) (T := TX6) (N := 11) hx hb hts hinX6 hown hK hP 0 rfl rfl 7 (by decide) w_2 (fun _ h9 => h9) rfl dX6_lookAlong_6 ?_
    refine lv_aload_n (pc := 9) hx hb dX6_lookAlong_9 rfl (lv_at hl 0 rfl) ?_
    refine va_get (pc := 10) (D := D) (ci := 6) (v := .int sp_place) (C := RX6) (T := TX6) (N := 11) hx hb hts hinX6 hown hK hP 0 rfl rfl 8 (by decide) w_3 (fun _ h9 => h9) rfl dX6_lookAlong_10 ?_
    refine lv_iload_n (pc := 13) hx hb dX6_lookAlong_13 rfl (lv_at hl 2 rfl) ?_
    refine lv_iadd (pc := 14) hx hb dX6_lookAlong_14 ?_
    refine lv_aload_n (pc := 15) hx hb dX6_lookAlong_15 rfl (lv_at hl 0 rfl) ?_
    refine va_get (pc := 16) (D := D) (ci := 6) (v := .int sp_length) (C := RX6) (T := TX6) (N := 11) hx hb hts hinX6 hown hK hP 0 rfl rfl 9 (by decide) w_4 (fun _ h9 => h9) rfl dX6_lookAlong_16 ?_
    refine q_irem (pc := 19) hx hb dX6_lookAlong_19 hf (fun v1 hf => ?_)
    refine lv_iadd (pc := 20) hx hb dX6_lookAlong_20 ?_
    refine q_iast (pc := 21) hx hb hK hP hD hS 1 0 hf rfl rfl dX6_lookAlong_21 (fun f2 H locs hf hP hD hS => ?_)
    obtain ⟨hP, hD⟩ : va_PD D A ((a_sp, .inr (6, [.ref a_g, .ref a_sp_first, .ref a_sp_many, .ref a_sp_corner, .int sp_cornerCount, .int sp_level, .int sp_row, .int sp_start, .int sp_place, .int sp_length, .int sp_cap])) :: (a_sp_first, .inl (ci 0, 4, .inl f2)) :: (a_sp_many, .inl (ci 0, 4, .inl sp_many)) :: Rw) H := ⟨hP, hD⟩
    refine lv_aload_n (pc := 22) hx hb dX6_lookAlong_22 rfl (lv_at hl 0 rfl) ?_
    refine va_get (pc := 23) (D := D) (ci := 6) (v := .ref a_sp_many) (C := RX6) (T := TX6) (N := 11) hx hb hts hinX6 hown hK hP 0 rfl rfl 2 (by decide) w_5 (fun _ h9 => h9) rfl dX6_lookAlong_23 ?_
    refine lv_iload_n (pc := 26) hx hb dX6_lookAlong_26 rfl (lv_at hl 1 rfl) ?_
    refine lv_aload_n (pc := 27) hx hb dX6_lookAlong_27 rfl (lv_at hl 0 rfl) ?_
    refine va_get (pc := 28) (D := D) (ci := 6) (v := .int sp_cap) (C := RX6) (T := TX6) (N := 11) hx hb hts hinX6 hown hK hP 0 rfl rfl 10 (by decide) w_6 (fun _ h9 => h9) rfl dX6_lookAlong_28 ?_
    obtain ⟨k39, ek39, hf⟩ := q_j1_e hf
    have J39 : ∀ (v3 : Int32) (H : Heap) (locs : List Loc) (ls : Array Slot), k39 v3 = some (o1, o2) → va_P D vwCl ((a_sp, .inr (6, [.ref a_g, .ref a_sp_first, .ref a_sp_many, .ref a_sp_corner, .int sp_cornerCount, .int sp_level, .int sp_row, .int sp_start, .int sp_place, .int sp_length, .int sp_cap])) :: (a_sp_first, .inl (ci 0, 4, .inl f2)) :: (a_sp_many, .inl (ci 0, 4, .inl sp_many)) :: Rw) H → va_D A ((a_sp, .inr (6, [.ref a_g, .ref a_sp_first, .ref a_sp_many, .ref a_sp_corner, .int sp_cornerCount, .int sp_level, .int sp_row, .int sp_start, .int sp_place, .int sp_length, .int sp_cap])) :: (a_sp_first, .inl (ci 0, 4, .inl f2)) :: (a_sp_many, .inl (ci 0, 4, .inl sp_many)) :: Rw) → va_S A s.heap H locs → lv_has ls 3 [] → W p l e ({ frames := 0, cells := 0, slots := 0, locals := 0 } : Room) s m ([.ref a_sp, .int p1, .int p2] : List Value).toArray below meth c H locs 0 0 Q (F0 m 39 ls [.int v3, .int p1, .ref a_sp_many]) := by
      intro v3 H locs ls hf hP hD hS hl
      have hf := (ek39 v3).symm.trans hf
      refine q_iast (pc := 39) hx hb hK hP hD hS 2 0 hf rfl rfl dX6_lookAlong_39 (fun f4 H locs hf hP hD hS => ?_)
      obtain ⟨hP, hD⟩ : va_PD D A ((a_sp, .inr (6, [.ref a_g, .ref a_sp_first, .ref a_sp_many, .ref a_sp_corner, .int sp_cornerCount, .int sp_level, .int sp_row, .int sp_start, .int sp_place, .int sp_length, .int sp_cap])) :: (a_sp_first, .inl (ci 0, 4, .inl f2)) :: (a_sp_many, .inl (ci 0, 4, .inl f4)) :: Rw) H := ⟨hP, hD⟩
      obtain ⟨rfl, rfl⟩ := q_inj2 (Option.some.inj hf)
      rw [hQ]
      exact q_vret (pc := 40) hx hb hr hlocks hP hD hS dX6_lookAlong_40
    refine q_if_eq (pc := 31) (tgt := 38) hx hb dX6_lookAlong_31 (by decide) rfl hf (fun hf => ?_) (fun hf => ?_)
    · refine lv_iconst (pc := 38) (v := 1) hx hb dX6_lookAlong_38 (by decide) ?_
      exact J39 1 _ _ _ hf hP hD hS (lv_sub hl [] rfl)
    · refine lv_iconst (pc := 34) (v := 0) hx hb dX6_lookAlong_34 (by decide) ?_
      refine lv_goto (pc := 35) (tgt := 39) hx hb dX6_lookAlong_35 (by decide) ?_
      exact J39 0 _ _ _ hf hP hD hS (lv_sub hl [] rfl)
  exact hgo _ _ rfl hP hS
/-! X6_lookAround -/
set_option maxRecDepth 100000 in
set_option maxHeartbeats 4000000 in
theorem c_Spot_lookAround (l : Launch) (D : va_G) (ci : Nat → ClassId) (A : Nat → Prop) (sa : Nat → Nat) (N : Nat) (Rw : va_W) (a_sp : Nat) (a_g : Nat) (a_sp_first : Nat) (a_sp_many : Nat) (a_sp_corner : Nat) (a_g_rowCuts : Nat) (a_g_columnCuts : Nat) (a_g_bandRows : Nat) (a_g_zoneColumns : Nat) (a_g_rows : Nat) (a_g_sheets : Nat) (sp_cornerCount : Int32) (sp_level : Int32) (sp_row : Int32) (sp_start : Int32) (sp_place : Int32) (sp_length : Int32) (sp_cap : Int32) (sp_first : Nat → Int32) (sp_many : Nat → Int32) (g_bandRows : Nat → Int32) (g_zoneColumns : Nat → Int32) (g_rows : Nat → Int32) (g_sheets : Nat → Int32) (o1 : Nat → Int32) (o2 : Nat → Int32) (hf : f_Spot_lookAround sp_first sp_many sp_level sp_row sp_start sp_place sp_length sp_cap g_bandRows g_zoneColumns g_rows g_sheets = some (o1, o2)) : Met l yX6_lookAround wsX6_lookAround ({ frames := 2, cells := 0, slots := 0, locals := 51 }) (va_Pc [.ref a_sp] (q_N D ci A sa ((a_sp, .inr (6, [.ref a_g, .ref a_sp_first, .ref a_sp_many, .ref a_sp_corner, .int sp_cornerCount, .int sp_level, .int sp_row, .int sp_start, .int sp_place, .int sp_length, .int sp_cap])) :: (a_sp_first, .inl (ci 0, 4, .inl sp_first)) :: (a_sp_many, .inl (ci 0, 4, .inl sp_many)) :: (a_g, .inr (2, [.ref a_g_rowCuts, .ref a_g_columnCuts, .ref a_g_bandRows, .ref a_g_zoneColumns, .ref a_g_rows, .ref a_g_sheets])) :: (a_g_bandRows, .inl (ci 0, 5, .inl g_bandRows)) :: (a_g_zoneColumns, .inl (ci 0, 5, .inl g_zoneColumns)) :: (a_g_rows, .inl (ci 0, 5, .inl g_rows)) :: (a_g_sheets, .inl (ci 0, 5, .inl g_sheets)) :: Rw))) (q_Q none (q_O D A ((a_sp, .inr (6, [.ref a_g, .ref a_sp_first, .ref a_sp_many, .ref a_sp_corner, .int sp_cornerCount, .int sp_level, .int sp_row, .int sp_start, .int sp_place, .int sp_length, .int sp_cap])) :: (a_sp_first, .inl (ci 0, 4, .inl o1)) :: (a_sp_many, .inl (ci 0, 4, .inl o2)) :: (a_g, .inr (2, [.ref a_g_rowCuts, .ref a_g_columnCuts, .ref a_g_bandRows, .ref a_g_zoneColumns, .ref a_g_rows, .ref a_g_sheets])) :: (a_g_bandRows, .inl (ci 0, 5, .inl g_bandRows)) :: (a_g_zoneColumns, .inl (ci 0, 5, .inl g_zoneColumns)) :: (a_g_rows, .inl (ci 0, 5, .inl g_rows)) :: (a_g_sheets, .inl (ci 0, 5, .inl g_sheets)) :: Rw)) A) 0 0 A := by
  refine q_ofW (cc := cX6_lookAround) (maxL := 1) (ret := none) [.ref a_sp] (plainFor_of_name (by decide)) rfl (Nat.le_of_ble_eq_true rfl) ?_
  intro p e s m below meth c ls Q hQ hx hb hml hr hts hown hlocks hK hA hZ hP hD hS hl
  have hl : lv_has ls 1 [(0, .ref a_sp)] := hl
  have hown : s.vm.findClass RX6 = some m.cls := hown
  have hinX6 : ∀ w ∈ wsX60, w ∈ wsX6_lookAround := fun _ h => List.mem_cons_of_mem _ (inWX60 _ h)
  have w_1 := hts (Cond.fieldLink RX6 28 "SheetNames$Spot" "row" "I") (List.mem_cons_of_mem _ t_w807)
  have w_2 := hts (Cond.fieldLink RX6 37 "SheetNames$Spot" "length" "I") (List.mem_cons_of_mem _ t_w804)
  unfold f_Spot_lookAround at hf
  have hgo : ∀ (H : Heap) (locs : List Loc), H = s.heap → va_P D vwCl ((a_sp, .inr (6, [.ref a_g, .ref a_sp_first, .ref a_sp_many, .ref a_sp_corner, .int sp_cornerCount, .int sp_level, .int sp_row, .int sp_start, .int sp_place, .int sp_length, .int sp_cap])) :: (a_sp_first, .inl (ci 0, 4, .inl sp_first)) :: (a_sp_many, .inl (ci 0, 4, .inl sp_many)) :: (a_g, .inr (2, [.ref a_g_rowCuts, .ref a_g_columnCuts, .ref a_g_bandRows, .ref a_g_zoneColumns, .ref a_g_rows, .ref a_g_sheets])) :: (a_g_bandRows, .inl (ci 0, 5, .inl g_bandRows)) :: (a_g_zoneColumns, .inl (ci 0, 5, .inl g_zoneColumns)) :: (a_g_rows, .inl (ci 0, 5, .inl g_rows)) :: (a_g_sheets, .inl (ci 0, 5, .inl g_sheets)) :: Rw) H → va_S A s.heap H locs → W p l e ({ frames := 2, cells := 0, slots := 0, locals := 51 } : Room) s m ([.ref a_sp] : List Value).toArray below meth c H locs 0 0 Q (F0 m 0 ls []) := by
    intro H locs hH hP hS
    refine lv_aload_n (pc := 0) hx hb dX6_lookAround_0 rfl (lv_at hl 0 rfl) ?_
    refine lv_iconst (pc := 1) (v := 0) hx hb dX6_lookAround_1 (by decide) ?_
    refine lv_aload_n (pc := 2) hx hb dX6_lookAround_2 rfl (lv_at hl 0 rfl) ?_
    refine va_get (pc := 3) (D := D) (ci := 6) (v := .int sp_row) (C := RX6) (T := TX6) (N := 11) hx hb hts hinX6 hown hK hP 0 rfl rfl 6 (by decide) w_1 (fun _ h9 => h9) rfl dX6_lookAround_3 ?_
    refine lv_iconst (pc := 6) (v := 1) hx hb dX6_lookAround_6 (by decide) ?_
    refine lv_isub (pc := 7) hx hb dX6_lookAround_7 ?_
    obtain ⟨f1, f2, hm8, hf⟩ := q_b2_e hf
    refine q_cV (pc := 8) (As := [.int 0, .int (sp_row - 1)]) (rest := []) (v0 := none) ⟨hx, hb, hml, hown, hts⟩ hK hA hZ hP hD hS hl.1 [0, 1, 2, 3, 4, 5, 6, 7] 8 rfl ⟨rfl, rfl, rfl⟩ (c_Spot_lookAcross l D ci A sa N (Rw) a_sp a_g a_sp_first a_sp_many a_sp_corner a_g_rowCuts a_g_columnCuts a_g_bandRows a_g_zoneColumns a_g_rows a_g_sheets sp_cornerCount sp_level sp_row sp_start sp_place sp_length sp_cap sp_first sp_many g_bandRows g_zoneColumns g_rows g_sheets 0 (sp_row - 1) f1 f2 hm8) 0 rfl rfl (cwV 2 hts gX6_lookAround_X6_lookAcross rfl rfl rfl (by decide +kernel) ⟨Nat.le_of_ble_eq_true rfl, Nat.le_of_ble_eq_true rfl⟩) rfl rfl (Nat.le_of_ble_eq_true rfl) dX6_lookAround_8 ⟨Nat.zero_le _, Nat.zero_le _⟩ [0, 1, 2, 3, 4, 5, 6, 7] 8 rfl ⟨rfl, rfl, rfl⟩ (fun H locs hP hD hS => ?_)
    obtain ⟨hP, hD⟩ : va_PD D A ((a_sp, .inr (6, [.ref a_g, .ref a_sp_first, .ref a_sp_many, .ref a_sp_corner, .int sp_cornerCount, .int sp_level, .int sp_row, .int sp_start, .int sp_place, .int sp_length, .int sp_cap])) :: (a_sp_first, .inl (ci 0, 4, .inl f1)) :: (a_sp_many, .inl (ci 0, 4, .inl f2)) :: (a_g, .inr (2, [.ref a_g_rowCuts, .ref a_g_columnCuts, .ref a_g_bandRows, .ref a_g_zoneColumns, .ref a_g_rows, .ref a_g_sheets])) :: (a_g_bandRows, .inl (ci 0, 5, .inl g_bandRows)) :: (a_g_zoneColumns, .inl (ci 0, 5, .inl g_zoneColumns)) :: (a_g_rows, .inl (ci 0, 5, .inl g_rows)) :: (a_g_sheets, .inl (ci 0, 5, .inl g_sheets)) :: Rw) H := ⟨hP, hD⟩
    refine lv_aload_n (pc := 11) hx hb dX6_lookAround_11 rfl (lv_at hl 0 rfl) ?_
    refine lv_iconst (pc := 12) (v := 1) hx hb dX6_lookAround_12 (by decide) ?_
    refine lv_iconst (pc := 13) (v := 1) hx hb dX6_lookAround_13 (by decide) ?_
    obtain ⟨f3, f4, hm14, hf⟩ := q_b2_e hf
    refine q_cV (pc := 14) (As := [.int 1, .int 1]) (rest := []) (v0 := none) ⟨hx, hb, hml, hown, hts⟩ hK hA hZ hP hD hS hl.1 [0, 1, 2, 3, 4, 5, 6, 7] 8 rfl ⟨rfl, rfl, rfl⟩ (c_Spot_lookAlong l D ci A sa N ((a_g, .inr (2, [.ref a_g_rowCuts, .ref a_g_columnCuts, .ref a_g_bandRows, .ref a_g_zoneColumns, .ref a_g_rows, .ref a_g_sheets])) :: (a_g_bandRows, .inl (ci 0, 5, .inl g_bandRows)) :: (a_g_zoneColumns, .inl (ci 0, 5, .inl g_zoneColumns)) :: (a_g_rows, .inl (ci 0, 5, .inl g_rows)) :: (a_g_sheets, .inl (ci 0, 5, .inl g_sheets)) :: Rw) a_sp a_g a_sp_first a_sp_many a_sp_corner sp_cornerCount sp_level sp_row sp_start sp_place sp_length sp_cap f1 f2 1 1 f3 f4 hm14) 0 rfl rfl (cwV 2 hts gX6_lookAround_X6_lookAlong rfl rfl rfl (by decide +kernel) ⟨Nat.le_of_ble_eq_true rfl, Nat.le_of_ble_eq_true rfl⟩) rfl rfl (Nat.le_of_ble_eq_true rfl) dX6_lookAround_14 ⟨Nat.zero_le _, Nat.zero_le _⟩ [0, 1, 2, 3, 4, 5, 6, 7] 8 rfl ⟨rfl, rfl, rfl⟩ (fun H locs hP hD hS => ?_)
    obtain ⟨hP, hD⟩ : va_PD D A ((a_sp, .inr (6, [.ref a_g, .ref a_sp_first, .ref a_sp_many, .ref a_sp_corner, .int sp_cornerCount, .int sp_level, .int sp_row, .int sp_start, .int sp_place, .int sp_length, .int sp_cap])) :: (a_sp_first, .inl (ci 0, 4, .inl f3)) :: (a_sp_many, .inl (ci 0, 4, .inl f4)) :: (a_g, .inr (2, [.ref a_g_rowCuts, .ref a_g_columnCuts, .ref a_g_bandRows, .ref a_g_zoneColumns, .ref a_g_rows, .ref a_g_sheets])) :: (a_g_bandRows, .inl (ci 0, 5, .inl g_bandRows)) :: (a_g_zoneColumns, .inl (ci 0, 5, .inl g_zoneColumns)) :: (a_g_rows, .inl (ci 0, 5, .inl g_rows)) :: (a_g_sheets, .inl (ci 0, 5, .inl g_sheets)) :: Rw) H := ⟨hP, hD⟩
    refine lv_aload_n (pc := 17) hx hb dX6_lookAround_17 rfl (lv_at hl 0 rfl) ?_
    refine lv_iconst (pc := 18) (v := 2) hx hb dX6_lookAround_18 (by decide) ?_
    refine lv_aload_n (pc := 19) hx hb dX6_lookAround_19 rfl (lv_at hl 0 rfl) ?_
    refine va_get (pc := 20) (D := D) (ci := 6) (v := .int sp_row) (C := RX6) (T := TX6) (N := 11) hx hb hts hinX6 hown hK hP 0 rfl rfl 6 (by decide) w_1 (fun _ h9 => h9) rfl dX6_lookAround_20 ?_
    refine lv_iconst (pc := 23) (v := 1) hx hb dX6_lookAround_23 (by decide) ?_
    refine lv_iadd (pc := 24) hx hb dX6_lookAround_24 ?_
    obtain ⟨f5, f6, hm25, hf⟩ := q_b2_e hf
    refine q_cV (pc := 25) (As := [.int 2, .int (sp_row + 1)]) (rest := []) (v0 := none) ⟨hx, hb, hml, hown, hts⟩ hK hA hZ hP hD hS hl.1 [0, 1, 2, 3, 4, 5, 6, 7] 8 rfl ⟨rfl, rfl, rfl⟩ (c_Spot_lookAcross l D ci A sa N (Rw) a_sp a_g a_sp_first a_sp_many a_sp_corner a_g_rowCuts a_g_columnCuts a_g_bandRows a_g_zoneColumns a_g_rows a_g_sheets sp_cornerCount sp_level sp_row sp_start sp_place sp_length sp_cap f3 f4 g_bandRows g_zoneColumns g_rows g_sheets 2 (sp_row + 1) f5 f6 hm25) 0 rfl rfl (cwV 2 hts gX6_lookAround_X6_lookAcross rfl rfl rfl (by decide +kernel) ⟨Nat.le_of_ble_eq_true rfl, Nat.le_of_ble_eq_true rfl⟩) rfl rfl (Nat.le_of_ble_eq_true rfl) dX6_lookAround_25 ⟨Nat.zero_le _, Nat.zero_le _⟩ [0, 1, 2, 3, 4, 5, 6, 7] 8 rfl ⟨rfl, rfl, rfl⟩ (fun H locs hP hD hS => ?_)
    obtain ⟨hP, hD⟩ : va_PD D A ((a_sp, .inr (6, [.ref a_g, .ref a_sp_first, .ref a_sp_many, .ref a_sp_corner, .int sp_cornerCount, .int sp_level, .int sp_row, .int sp_start, .int sp_place, .int sp_length, .int sp_cap])) :: (a_sp_first, .inl (ci 0, 4, .inl f5)) :: (a_sp_many, .inl (ci 0, 4, .inl f6)) :: (a_g, .inr (2, [.ref a_g_rowCuts, .ref a_g_columnCuts, .ref a_g_bandRows, .ref a_g_zoneColumns, .ref a_g_rows, .ref a_g_sheets])) :: (a_g_bandRows, .inl (ci 0, 5, .inl g_bandRows)) :: (a_g_zoneColumns, .inl (ci 0, 5, .inl g_zoneColumns)) :: (a_g_rows, .inl (ci 0, 5, .inl g_rows)) :: (a_g_sheets, .inl (ci 0, 5, .inl g_sheets)) :: Rw) H := ⟨hP, hD⟩
    refine lv_aload_n (pc := 28) hx hb dX6_lookAround_28 rfl (lv_at hl 0 rfl) ?_
    refine lv_iconst (pc := 29) (v := 3) hx hb dX6_lookAround_29 (by decide) ?_
    refine lv_aload_n (pc := 30) hx hb dX6_lookAround_30 rfl (lv_at hl 0 rfl) ?_
    refine va_get (pc := 31) (D := D) (ci := 6) (v := .int sp_length) (C := RX6) (T := TX6) (N := 11) hx hb hts hinX6 hown hK hP 0 rfl rfl 9 (by decide) w_2 (fun _ h9 => h9) rfl dX6_lookAround_31 ?_
    refine lv_iconst (pc := 34) (v := 1) hx hb dX6_lookAround_34 (by decide) ?_
    refine lv_isub (pc := 35) hx hb dX6_lookAround_35 ?_
    obtain ⟨f7, f8, hm36, hf⟩ := q_b2_e hf
    refine q_cV (pc := 36) (As := [.int 3, .int (sp_length - 1)]) (rest := []) (v0 := none) ⟨hx, hb, hml, hown, hts⟩ hK hA hZ hP hD hS hl.1 [0, 1, 2, 3, 4, 5, 6, 7] 8 rfl ⟨rfl, rfl, rfl⟩ (c_Spot_lookAlong l D ci A sa N ((a_g, .inr (2, [.ref a_g_rowCuts, .ref a_g_columnCuts, .ref a_g_bandRows, .ref a_g_zoneColumns, .ref a_g_rows, .ref a_g_sheets])) :: (a_g_bandRows, .inl (ci 0, 5, .inl g_bandRows)) :: (a_g_zoneColumns, .inl (ci 0, 5, .inl g_zoneColumns)) :: (a_g_rows, .inl (ci 0, 5, .inl g_rows)) :: (a_g_sheets, .inl (ci 0, 5, .inl g_sheets)) :: Rw) a_sp a_g a_sp_first a_sp_many a_sp_corner sp_cornerCount sp_level sp_row sp_start sp_place sp_length sp_cap f5 f6 3 (sp_length - 1) f7 f8 hm36) 0 rfl rfl (cwV 2 hts gX6_lookAround_X6_lookAlong rfl rfl rfl (by decide +kernel) ⟨Nat.le_of_ble_eq_true rfl, Nat.le_of_ble_eq_true rfl⟩) rfl rfl (Nat.le_of_ble_eq_true rfl) dX6_lookAround_36 ⟨Nat.zero_le _, Nat.zero_le _⟩ [0, 1, 2, 3, 4, 5, 6, 7] 8 rfl ⟨rfl, rfl, rfl⟩ (fun H locs hP hD hS => ?_)
    obtain ⟨hP, hD⟩ : va_PD D A ((a_sp, .inr (6, [.ref a_g, .ref a_sp_first, .ref a_sp_many, .ref a_sp_corner, .int sp_cornerCount, .int sp_level, .int sp_row, .int sp_start, .int sp_place, .int sp_length, .int sp_cap])) :: (a_sp_first, .inl (ci 0, 4, .inl f7)) :: (a_sp_many, .inl (ci 0, 4, .inl f8)) :: (a_g, .inr (2, [.ref a_g_rowCuts, .ref a_g_columnCuts, .ref a_g_bandRows, .ref a_g_zoneColumns, .ref a_g_rows, .ref a_g_sheets])) :: (a_g_bandRows, .inl (ci 0, 5, .inl g_bandRows)) :: (a_g_zoneColumns, .inl (ci 0, 5, .inl g_zoneColumns)) :: (a_g_rows, .inl (ci 0, 5, .inl g_rows)) :: (a_g_sheets, .inl (ci 0, 5, .inl g_sheets)) :: Rw) H := ⟨hP, hD⟩
    obtain ⟨rfl, rfl⟩ := q_inj2 (Option.some.inj hf)
    rw [hQ]
    exact q_vret (pc := 39) hx hb hr hlocks hP hD hS dX6_lookAround_39
  exact hgo _ _ rfl hP hS
/-! X6_lookAtCorners -/
set_option maxRecDepth 100000 in
set_option maxHeartbeats 4000000 in
theorem c_Spot_lookAtCorners (l : Launch) (D : va_G) (ci : Nat → ClassId) (A : Nat → Prop) (sa : Nat → Nat) (N : Nat) (Rw : va_W) (a_sp : Nat) (a_g : Nat) (a_sp_first : Nat) (a_sp_many : Nat) (a_sp_corner : Nat) (a_g_rowCuts : Nat) (a_g_columnCuts : Nat) (a_g_bandRows : Nat) (a_g_zoneColumns : Nat) (a_g_rows : Nat) (a_g_sheets : Nat) (sp_cornerCount : Int32) (sp_level : Int32) (sp_row : Int32) (sp_start : Int32) (sp_place : Int32) (sp_length : Int32) (sp_cap : Int32) (sp_corner : Nat → Int32) (g_bandRows : Nat → Int32) (g_zoneColumns : Nat → Int32) (g_rows : Nat → Int32) (g_sheets : Nat → Int32) (o1 : Nat → Int32) (o2 : Int32) (hf : f_Spot_lookAtCorners N sp_corner sp_cornerCount sp_level sp_row sp_place sp_length sp_cap g_bandRows g_zoneColumns g_rows g_sheets = some (o1, o2)) : Met l yX6_lookAtCorners wsX6_lookAtCorners ({ frames := 2, cells := 0, slots := 0, locals := 52 }) (va_Pc [.ref a_sp] (q_N D ci A sa ((a_sp, .inr (6, [.ref a_g, .ref a_sp_first, .ref a_sp_many, .ref a_sp_corner, .int sp_cornerCount, .int sp_level, .int sp_row, .int sp_start, .int sp_place, .int sp_length, .int sp_cap])) :: (a_sp_corner, .inl (ci 0, 4, .inl sp_corner)) :: (a_g, .inr (2, [.ref a_g_rowCuts, .ref a_g_columnCuts, .ref a_g_bandRows, .ref a_g_zoneColumns, .ref a_g_rows, .ref a_g_sheets])) :: (a_g_bandRows, .inl (ci 0, 5, .inl g_bandRows)) :: (a_g_zoneColumns, .inl (ci 0, 5, .inl g_zoneColumns)) :: (a_g_rows, .inl (ci 0, 5, .inl g_rows)) :: (a_g_sheets, .inl (ci 0, 5, .inl g_sheets)) :: Rw))) (q_Q none (q_O D A ((a_sp, .inr (6, [.ref a_g, .ref a_sp_first, .ref a_sp_many, .ref a_sp_corner, .int o2, .int sp_level, .int sp_row, .int sp_start, .int sp_place, .int sp_length, .int sp_cap])) :: (a_sp_corner, .inl (ci 0, 4, .inl o1)) :: (a_g, .inr (2, [.ref a_g_rowCuts, .ref a_g_columnCuts, .ref a_g_bandRows, .ref a_g_zoneColumns, .ref a_g_rows, .ref a_g_sheets])) :: (a_g_bandRows, .inl (ci 0, 5, .inl g_bandRows)) :: (a_g_zoneColumns, .inl (ci 0, 5, .inl g_zoneColumns)) :: (a_g_rows, .inl (ci 0, 5, .inl g_rows)) :: (a_g_sheets, .inl (ci 0, 5, .inl g_sheets)) :: Rw)) A) 0 0 A := by
  refine q_ofW (cc := cX6_lookAtCorners) (maxL := 1) (ret := none) [.ref a_sp] (plainFor_of_name (by decide)) rfl (Nat.le_of_ble_eq_true rfl) ?_
  intro p e s m below meth c ls Q hQ hx hb hml hr hts hown hlocks hK hA hZ hP hD hS hl
  have hl : lv_has ls 1 [(0, .ref a_sp)] := hl
  have hown : s.vm.findClass RX6 = some m.cls := hown
  have hinX6 : ∀ w ∈ wsX60, w ∈ wsX6_lookAtCorners := fun _ h => List.mem_cons_of_mem _ (inWX60 _ h)
  have w_1 := hts (Cond.fieldLink RX6 21 "SheetNames$Spot" "cornerCount" "I") (List.mem_cons_of_mem _ t_w799)
  have w_2 := hts (Cond.fieldLink RX6 40 "SheetNames$Spot" "cap" "Z") (List.mem_cons_of_mem _ t_w806)
  have w_3 := hts (Cond.fieldLink RX6 28 "SheetNames$Spot" "row" "I") (List.mem_cons_of_mem _ t_w807)
  unfold f_Spot_lookAtCorners at hf
  have hgo : ∀ (H : Heap) (locs : List Loc), H = s.heap → va_P D vwCl ((a_sp, .inr (6, [.ref a_g, .ref a_sp_first, .ref a_sp_many, .ref a_sp_corner, .int sp_cornerCount, .int sp_level, .int sp_row, .int sp_start, .int sp_place, .int sp_length, .int sp_cap])) :: (a_sp_corner, .inl (ci 0, 4, .inl sp_corner)) :: (a_g, .inr (2, [.ref a_g_rowCuts, .ref a_g_columnCuts, .ref a_g_bandRows, .ref a_g_zoneColumns, .ref a_g_rows, .ref a_g_sheets])) :: (a_g_bandRows, .inl (ci 0, 5, .inl g_bandRows)) :: (a_g_zoneColumns, .inl (ci 0, 5, .inl g_zoneColumns)) :: (a_g_rows, .inl (ci 0, 5, .inl g_rows)) :: (a_g_sheets, .inl (ci 0, 5, .inl g_sheets)) :: Rw) H → va_S A s.heap H locs → W p l e ({ frames := 2, cells := 0, slots := 0, locals := 52 } : Room) s m ([.ref a_sp] : List Value).toArray below meth c H locs 0 0 Q (F0 m 0 ls []) := by
    intro H locs hH hP hS
    refine lv_aload_n (pc := 0) hx hb dX6_lookAtCorners_0 rfl (lv_at hl 0 rfl) ?_
    refine lv_iconst (pc := 1) (v := 0) hx hb dX6_lookAtCorners_1 (by decide) ?_
    refine va_put (pc := 2) (D := D) (ci := 6) (v := .int 0) (ty := .int) (C := RX6) (T := TX6) (N := 11) hx hb hts hinX6 tyX6 tyX6_ok nmX6 hown hK hP hD hS 0 rfl rfl 4 (by decide) w_1 (fun _ h9 => h9) rfl (by decide +kernel) rfl rfl (Nat.le_of_ble_eq_true rfl) dX6_lookAtCorners_2 (fun H locs hP hD hS => ?_)
    obtain ⟨hP, hD⟩ : va_PD D A ((a_sp, .inr (6, [.ref a_g, .ref a_sp_first, .ref a_sp_many, .ref a_sp_corner, .int 0, .int sp_level, .int sp_row, .int sp_start, .int sp_place, .int sp_length, .int sp_cap])) :: (a_sp_corner, .inl (ci 0, 4, .inl sp_corner)) :: (a_g, .inr (2, [.ref a_g_rowCuts, .ref a_g_columnCuts, .ref a_g_bandRows, .ref a_g_zoneColumns, .ref a_g_rows, .ref a_g_sheets])) :: (a_g_bandRows, .inl (ci 0, 5, .inl g_bandRows)) :: (a_g_zoneColumns, .inl (ci 0, 5, .inl g_zoneColumns)) :: (a_g_rows, .inl (ci 0, 5, .inl g_rows)) :: (a_g_sheets, .inl (ci 0, 5, .inl g_sheets)) :: Rw) H := ⟨hP, hD⟩
    refine lv_aload_n (pc := 5) hx hb dX6_lookAtCorners_5 rfl (lv_at hl 0 rfl) ?_
    refine va_get (pc := 6) (D := D) (ci := 6) (v := .int sp_cap) (C := RX6) (T := TX6) (N := 11) hx hb hts hinX6 hown hK hP 0 rfl rfl 10 (by decide) w_2 (fun _ h9 => h9) rfl dX6_lookAtCorners_6 ?_
    refine q_if_ne (pc := 9) (tgt := 32) hx hb dX6_lookAtCorners_9 (by decide) rfl hf (fun hf => ?_) (fun hf => ?_)
    · obtain ⟨rfl, rfl⟩ := q_inj2 (Option.some.inj hf)
      rw [hQ]
      exact q_vret (pc := 32) hx hb hr hlocks hP hD hS dX6_lookAtCorners_32
    · refine lv_aload_n (pc := 12) hx hb dX6_lookAtCorners_12 rfl (lv_at hl 0 rfl) ?_
      refine lv_aload_n (pc := 13) hx hb dX6_lookAtCorners_13 rfl (lv_at hl 0 rfl) ?_
      refine va_get (pc := 14) (D := D) (ci := 6) (v := .int sp_row) (C := RX6) (T := TX6) (N := 11) hx hb hts hinX6 hown hK hP 0 rfl rfl 6 (by decide) w_3 (fun _ h9 => h9) rfl dX6_lookAtCorners_14 ?_
      refine lv_iconst (pc := 17) (v := 1) hx hb dX6_lookAtCorners_17 (by decide) ?_
      refine lv_isub (pc := 18) hx hb dX6_lookAtCorners_18 ?_
      obtain ⟨f1, v2, hm19, hf⟩ := q_b2_e hf
      refine q_cV (pc := 19) (As := [.int (sp_row - 1)]) (rest := []) (v0 := none) ⟨hx, hb, hml, hown, hts⟩ hK hA hZ hP hD hS hl.1 [0, 1, 2, 3, 4, 5, 6] 7 rfl ⟨rfl, rfl, rfl⟩ (c_Spot_addCorners l D ci A sa N (Rw) a_sp a_g a_sp_first a_sp_many a_sp_corner a_g_rowCuts a_g_columnCuts a_g_bandRows a_g_zoneColumns a_g_rows a_g_sheets 0 sp_level sp_row sp_start sp_place sp_length sp_cap sp_corner g_bandRows g_zoneColumns g_rows g_sheets (sp_row - 1) f1 v2 hm19) 0 rfl rfl (cwV 1 hts gX6_lookAtCorners_X6_addCorners rfl rfl rfl (by decide +kernel) ⟨Nat.le_of_ble_eq_true rfl, Nat.le_of_ble_eq_true rfl⟩) rfl rfl (Nat.le_of_ble_eq_true rfl) dX6_lookAtCorners_19 ⟨Nat.zero_le _, Nat.zero_le _⟩ [0, 1, 2, 3, 4, 5, 6] 7 rfl ⟨rfl, rfl, rfl⟩ (fun H locs hP hD hS => ?_)
      obtain ⟨hP, hD⟩ : va_PD D A ((a_sp, .inr (6, [.ref a_g, .ref a_sp_first, .ref a_sp_many, .ref a_sp_corner, .int v2, .int sp_level, .int sp_row, .int sp_start, .int sp_place, .int sp_length, .int sp_cap])) :: (a_sp_corner, .inl (ci 0, 4, .inl f1)) :: (a_g, .inr (2, [.ref a_g_rowCuts, .ref a_g_columnCuts, .ref a_g_bandRows, .ref a_g_zoneColumns, .ref a_g_rows, .ref a_g_sheets])) :: (a_g_bandRows, .inl (ci 0, 5, .inl g_bandRows)) :: (a_g_zoneColumns, .inl (ci 0, 5, .inl g_zoneColumns)) :: (a_g_rows, .inl (ci 0, 5, .inl g_rows)) :: (a_g_sheets, .inl (ci 0, 5, .inl g_sheets)) :: Rw) H := ⟨hP, hD⟩
      refine lv_aload_n (pc := 22) hx hb dX6_lookAtCorners_22 rfl (lv_at hl 0 rfl) ?_
      refine lv_aload_n (pc := 23) hx hb dX6_lookAtCorners_23 rfl (lv_at hl 0 rfl) ?_
      refine va_get (pc := 24) (D := D) (ci := 6) (v := .int sp_row) (C := RX6) (T := TX6) (N := 11) hx hb hts hinX6 hown hK hP 0 rfl rfl 6 (by decide) w_3 (fun _ h9 => h9) rfl dX6_lookAtCorners_24 ?_
      refine lv_iconst (pc := 27) (v := 1) hx hb dX6_lookAtCorners_27 (by decide) ?_
      refine lv_iadd (pc := 28) hx hb dX6_lookAtCorners_28 ?_
      obtain ⟨f3, v4, hm29, hf⟩ := q_b2_e hf
      refine q_cV (pc := 29) (As := [.int (sp_row + 1)]) (rest := []) (v0 := none) ⟨hx, hb, hml, hown, hts⟩ hK hA hZ hP hD hS hl.1 [0, 1, 2, 3, 4, 5, 6] 7 rfl ⟨rfl, rfl, rfl⟩ (c_Spot_addCorners l D ci A sa N (Rw) a_sp a_g a_sp_first a_sp_many a_sp_corner a_g_rowCuts a_g_columnCuts a_g_bandRows a_g_zoneColumns a_g_rows a_g_sheets v2 sp_level sp_row sp_start sp_place sp_length sp_cap f1 g_bandRows g_zoneColumns g_rows g_sheets (sp_row + 1) f3 v4 hm29) 0 rfl rfl (cwV 1 hts gX6_lookAtCorners_X6_addCorners rfl rfl rfl (by decide +kernel) ⟨Nat.le_of_ble_eq_true rfl, Nat.le_of_ble_eq_true rfl⟩) rfl rfl (Nat.le_of_ble_eq_true rfl) dX6_lookAtCorners_29 ⟨Nat.zero_le _, Nat.zero_le _⟩ [0, 1, 2, 3, 4, 5, 6] 7 rfl ⟨rfl, rfl, rfl⟩ (fun H locs hP hD hS => ?_)
      obtain ⟨hP, hD⟩ : va_PD D A ((a_sp, .inr (6, [.ref a_g, .ref a_sp_first, .ref a_sp_many, .ref a_sp_corner, .int v4, .int sp_level, .int sp_row, .int sp_start, .int sp_place, .int sp_length, .int sp_cap])) :: (a_sp_corner, .inl (ci 0, 4, .inl f3)) :: (a_g, .inr (2, [.ref a_g_rowCuts, .ref a_g_columnCuts, .ref a_g_bandRows, .ref a_g_zoneColumns, .ref a_g_rows, .ref a_g_sheets])) :: (a_g_bandRows, .inl (ci 0, 5, .inl g_bandRows)) :: (a_g_zoneColumns, .inl (ci 0, 5, .inl g_zoneColumns)) :: (a_g_rows, .inl (ci 0, 5, .inl g_rows)) :: (a_g_sheets, .inl (ci 0, 5, .inl g_sheets)) :: Rw) H := ⟨hP, hD⟩
      obtain ⟨rfl, rfl⟩ := q_inj2 (Option.some.inj hf)
      rw [hQ]
      exact q_vret (pc := 32) hx hb hr hlocks hP hD hS dX6_lookAtCorners_32
  exact hgo _ _ rfl hP hS
/-! X6_middleLat -/
set_option maxRecDepth 100000 in
set_option maxHeartbeats 4000000 in
theorem c_Spot_middleLat (l : Launch) (D : va_G) (ci : Nat → ClassId) (A : Nat → Prop) (sa : Nat → Nat) (N : Nat) (Rw : va_W) (a_sp : Nat) (a_g : Nat) (a_sp_first : Nat) (a_sp_many : Nat) (a_sp_corner : Nat) (a_g_rowCuts : Nat) (a_g_columnCuts : Nat) (a_g_bandRows : Nat) (a_g_zoneColumns : Nat) (a_g_rows : Nat) (a_g_sheets : Nat) (sp_cornerCount : Int32) (sp_level : Int32) (sp_row : Int32) (sp_start : Int32) (sp_place : Int32) (sp_length : Int32) (sp_cap : Int32) (g_bandRows : Nat → Int32) (r : Int32) (hf : f_Spot_middleLat sp_level sp_row sp_place sp_length sp_cap g_bandRows = some r) : Met l yX6_middleLat wsX6_middleLat ({ frames := 1, cells := 0, slots := 0, locals := 25 }) (va_Pc [.ref a_sp] (q_N D ci A sa ((a_sp, .inr (6, [.ref a_g, .ref a_sp_first, .ref a_sp_many, .ref a_sp_corner, .int sp_cornerCount, .int sp_level, .int sp_row, .int sp_start, .int sp_place, .int sp_length, .int sp_cap])) :: (a_g, .inr (2, [.ref a_g_rowCuts, .ref a_g_columnCuts, .ref a_g_bandRows, .ref a_g_zoneColumns, .ref a_g_rows, .ref a_g_sheets])) :: (a_g_bandRows, .inl (ci 0, 5, .inl g_bandRows)) :: Rw))) (q_R (some (.int r))) 0 0 A := by
  refine q_ofW (cc := cX6_middleLat) (maxL := 1) (ret := (some .int)) [.ref a_sp] (plainFor_of_name (by decide)) rfl (Nat.le_of_ble_eq_true rfl) ?_
  intro p e s m below meth c ls Q hQ hx hb hml hr hts hown hlocks hK hA hZ hP hD hS hl
  have hl : lv_has ls 1 [(0, .ref a_sp)] := hl
  have hown : s.vm.findClass RX6 = some m.cls := hown
  have hinX6 : ∀ w ∈ wsX60, w ∈ wsX6_middleLat := fun _ h => List.mem_cons_of_mem _ (inWX60 _ h)
  have w_1 := hts (Cond.fieldLink RX6 40 "SheetNames$Spot" "cap" "Z") (List.mem_cons_of_mem _ t_w806)
  have w_2 := hts (Cond.fieldLink RX6 28 "SheetNames$Spot" "row" "I") (List.mem_cons_of_mem _ t_w807)
  have w_3 := hts (Cond.constant RX6 90 (324000)) (List.mem_cons_of_mem _ t_w818)
  have w_4 := hts (Cond.constant RX6 89 (-324000)) (List.mem_cons_of_mem _ t_w817)
  have w_5 := hts (Cond.constantLong RX6 99 (2)) (List.mem_cons_of_mem _ t_w822)
  unfold f_Spot_middleLat at hf
  have hgo : ∀ (H : Heap) (locs : List Loc), H = s.heap → va_P D vwCl ((a_sp, .inr (6, [.ref a_g, .ref a_sp_first, .ref a_sp_many, .ref a_sp_corner, .int sp_cornerCount, .int sp_level, .int sp_row, .int sp_start, .int sp_place, .int sp_length, .int sp_cap])) :: (a_g, .inr (2, [.ref a_g_rowCuts, .ref a_g_columnCuts, .ref a_g_bandRows, .ref a_g_zoneColumns, .ref a_g_rows, .ref a_g_sheets])) :: (a_g_bandRows, .inl (ci 0, 5, .inl g_bandRows)) :: Rw) H → va_S A s.heap H locs → W p l e ({ frames := 1, cells := 0, slots := 0, locals := 25 } : Room) s m ([.ref a_sp] : List Value).toArray below meth c H locs 0 0 Q (F0 m 0 ls []) := by
    intro H locs hH hP hS
    subst hH
    refine lv_aload_n (pc := 0) hx hb dX6_middleLat_0 rfl (lv_at hl 0 rfl) ?_
    refine va_get (pc := 1) (D := D) (ci := 6) (v := .int sp_cap) (C := RX6) (T := TX6) (N := 11) hx hb hts hinX6 hown hK hP 0 rfl rfl 10 (by decide) w_1 (fun _ h9 => h9) rfl dX6_middleLat_1 ?_
    refine q_if_eq (pc := 4) (tgt := 22) hx hb dX6_middleLat_4 (by decide) rfl hf (fun hf => ?_) (fun hf => ?_)
    · refine lv_aload_n (pc := 22) hx hb dX6_middleLat_22 rfl (lv_at hl 0 rfl) ?_
      refine lv_iconst (pc := 23) (v := 0) hx hb dX6_middleLat_23 (by decide) ?_
      obtain ⟨v1, hm24, hf⟩ := q_b1_e hf
      refine q_cVr (pc := 24) (As := [.int 0]) (rest := []) (v0 := (some (.long v1))) ⟨hx, hb, hml, hown, hts⟩ hK hA hZ hP hD hS hl.1 [0, 1, 2] 3 rfl ⟨rfl, rfl, rfl⟩ (c_Spot_edgeTop l D ci A sa N (Rw) a_sp a_g a_sp_first a_sp_many a_sp_corner a_g_rowCuts a_g_columnCuts a_g_bandRows a_g_zoneColumns a_g_rows a_g_sheets sp_cornerCount sp_level sp_row sp_start sp_place sp_length sp_cap g_bandRows 0 v1 hm24) 0 rfl rfl (cwV 1 hts gX6_middleLat_X6_edgeTop rfl rfl rfl (by decide +kernel) ⟨Nat.le_of_ble_eq_true rfl, Nat.le_of_ble_eq_true rfl⟩) rfl rfl (Nat.le_of_ble_eq_true rfl) dX6_middleLat_24 ⟨Nat.zero_le _, Nat.zero_le _⟩ (fun locs hS => ?_)
      refine lv_aload_n (pc := 27) hx hb dX6_middleLat_27 rfl (lv_at hl 0 rfl) ?_
      refine lv_iconst (pc := 28) (v := 1) hx hb dX6_middleLat_28 (by decide) ?_
      obtain ⟨v2, hm29, hf⟩ := q_b1_e hf
      refine q_cVr (pc := 29) (As := [.int 1]) (rest := [.long v1]) (v0 := (some (.long v2))) ⟨hx, hb, hml, hown, hts⟩ hK hA hZ hP hD hS hl.1 [0, 1, 2] 3 rfl ⟨rfl, rfl, rfl⟩ (c_Spot_edgeTop l D ci A sa N (Rw) a_sp a_g a_sp_first a_sp_many a_sp_corner a_g_rowCuts a_g_columnCuts a_g_bandRows a_g_zoneColumns a_g_rows a_g_sheets sp_cornerCount sp_level sp_row sp_start sp_place sp_length sp_cap g_bandRows 1 v2 hm29) 0 rfl rfl (cwV 1 hts gX6_middleLat_X6_edgeTop rfl rfl rfl (by decide +kernel) ⟨Nat.le_of_ble_eq_true rfl, Nat.le_of_ble_eq_true rfl⟩) rfl rfl (Nat.le_of_ble_eq_true rfl) dX6_middleLat_29 ⟨Nat.zero_le _, Nat.zero_le _⟩ (fun locs hS => ?_)
      refine lv_ladd (pc := 32) hx hb dX6_middleLat_32 ?_
      refine lv_ldc2 (pc := 33) (v := 2) hx hb hown w_5 dX6_middleLat_33 ?_
      refine lv_aload_n (pc := 36) hx hb dX6_middleLat_36 rfl (lv_at hl 0 rfl) ?_
      refine lv_iconst (pc := 37) (v := 0) hx hb dX6_middleLat_37 (by decide) ?_
      obtain ⟨v3, hm38, hf⟩ := q_b1_e hf
      refine q_cVr (pc := 38) (As := [.int 0]) (rest := [.long 2, .long (v1 + v2)]) (v0 := (some (.long v3))) ⟨hx, hb, hml, hown, hts⟩ hK hA hZ hP hD hS hl.1 [0, 1, 2] 3 rfl ⟨rfl, rfl, rfl⟩ (c_Spot_edgeBottom l D ci A sa N (Rw) a_sp a_g a_sp_first a_sp_many a_sp_corner a_g_rowCuts a_g_columnCuts a_g_bandRows a_g_zoneColumns a_g_rows a_g_sheets sp_cornerCount sp_level sp_row sp_start sp_place sp_length sp_cap g_bandRows 0 v3 hm38) 0 rfl rfl (cwV 1 hts gX6_middleLat_X6_edgeBottom rfl rfl rfl (by decide +kernel) ⟨Nat.le_of_ble_eq_true rfl, Nat.le_of_ble_eq_true rfl⟩) rfl rfl (Nat.le_of_ble_eq_true rfl) dX6_middleLat_38 ⟨Nat.zero_le _, Nat.zero_le _⟩ (fun locs hS => ?_)
      refine lv_lmul (pc := 41) hx hb dX6_middleLat_41 ?_
      obtain ⟨v4, hm42, hf⟩ := q_b1_e hf
      refine q_cSr (pc := 42) (As := [.long (v1 + v2), .long (2 * v3)]) (rest := []) (v0 := (some (.long v4))) ⟨hx, hb, hml, hown, hts⟩ hK hA hZ hP hD hS hl.1 [] 3 rfl ⟨rfl, rfl, rfl⟩ (c_JMath_floorDiv_f86c9 l D ci A sa N (Rw) (v1 + v2) (2 * v3) v4 hm42) (va_cwS 2 hts gX6_middleLat_J9_floorDiv_f86c9 rfl rfl rfl (by decide +kernel) ⟨Nat.le_of_ble_eq_true rfl, Nat.le_of_ble_eq_true rfl⟩) rfl rfl (Nat.le_of_ble_eq_true rfl) dX6_middleLat_42 ⟨Nat.zero_le _, Nat.zero_le _⟩ (fun locs hS => ?_)
      refine lv_l2i (pc := 45) hx hb dX6_middleLat_45 rfl ?_
      obtain rfl := Option.some.inj hf
      rw [hQ]
      exact q_iretr (pc := 46) hx hb hr hlocks rfl hS dX6_middleLat_46
    · refine lv_aload_n (pc := 7) hx hb dX6_middleLat_7 rfl (lv_at hl 0 rfl) ?_
      refine va_get (pc := 8) (D := D) (ci := 6) (v := .int sp_row) (C := RX6) (T := TX6) (N := 11) hx hb hts hinX6 hown hK hP 0 rfl rfl 6 (by decide) w_2 (fun _ h9 => h9) rfl dX6_middleLat_8 ?_
      refine q_if_ne (pc := 11) (tgt := 19) hx hb dX6_middleLat_11 (by decide) rfl hf (fun hf => ?_) (fun hf => ?_)
      · refine lv_ldc (pc := 19) (v := (-324000)) hx hb hown w_4 dX6_middleLat_19 ?_
        obtain rfl := Option.some.inj hf
        rw [hQ]
        exact q_iretr (pc := 21) hx hb hr hlocks rfl hS dX6_middleLat_21
      · refine lv_ldc (pc := 14) (v := 324000) hx hb hown w_3 dX6_middleLat_14 ?_
        refine lv_goto (pc := 16) (tgt := 21) hx hb dX6_middleLat_16 (by decide) ?_
        obtain rfl := Option.some.inj hf
        rw [hQ]
        exact q_iretr (pc := 21) hx hb hr hlocks rfl hS dX6_middleLat_21
  exact hgo _ _ rfl hP hS
/-! X6_middleLon -/
set_option maxRecDepth 100000 in
set_option maxHeartbeats 4000000 in
theorem c_Spot_middleLon (l : Launch) (D : va_G) (ci : Nat → ClassId) (A : Nat → Prop) (sa : Nat → Nat) (N : Nat) (Rw : va_W) (a_sp : Nat) (a_g : Nat) (a_sp_first : Nat) (a_sp_many : Nat) (a_sp_corner : Nat) (a_g_rowCuts : Nat) (a_g_columnCuts : Nat) (a_g_bandRows : Nat) (a_g_zoneColumns : Nat) (a_g_rows : Nat) (a_g_sheets : Nat) (sp_cornerCount : Int32) (sp_level : Int32) (sp_row : Int32) (sp_start : Int32) (sp_place : Int32) (sp_length : Int32) (sp_cap : Int32) (g_bandRows : Nat → Int32) (r : Int32) (hf : f_Spot_middleLon sp_level sp_row sp_place sp_length sp_cap g_bandRows = some r) : Met l yX6_middleLon wsX6_middleLon ({ frames := 1, cells := 0, slots := 0, locals := 25 }) (va_Pc [.ref a_sp] (q_N D ci A sa ((a_sp, .inr (6, [.ref a_g, .ref a_sp_first, .ref a_sp_many, .ref a_sp_corner, .int sp_cornerCount, .int sp_level, .int sp_row, .int sp_start, .int sp_place, .int sp_length, .int sp_cap])) :: (a_g, .inr (2, [.ref a_g_rowCuts, .ref a_g_columnCuts, .ref a_g_bandRows, .ref a_g_zoneColumns, .ref a_g_rows, .ref a_g_sheets])) :: (a_g_bandRows, .inl (ci 0, 5, .inl g_bandRows)) :: Rw))) (q_R (some (.int r))) 0 0 A := by
  refine q_ofW (cc := cX6_middleLon) (maxL := 1) (ret := (some .int)) [.ref a_sp] (plainFor_of_name (by decide)) rfl (Nat.le_of_ble_eq_true rfl) ?_
  intro p e s m below meth c ls Q hQ hx hb hml hr hts hown hlocks hK hA hZ hP hD hS hl
  have hl : lv_has ls 1 [(0, .ref a_sp)] := hl
  have hown : s.vm.findClass RX6 = some m.cls := hown
  have hinX6 : ∀ w ∈ wsX60, w ∈ wsX6_middleLon := fun _ h => List.mem_cons_of_mem _ (inWX60 _ h)
  have w_1 := hts (Cond.fieldLink RX6 40 "SheetNames$Spot" "cap" "Z") (List.mem_cons_of_mem _ t_w806)
  have w_2 := hts (Cond.constantLong RX6 99 (2)) (List.mem_cons_of_mem _ t_w822)
  unfold f_Spot_middleLon at hf
  have hgo : ∀ (H : Heap) (locs : List Loc), H = s.heap → va_P D vwCl ((a_sp, .inr (6, [.ref a_g, .ref a_sp_first, .ref a_sp_many, .ref a_sp_corner, .int sp_cornerCount, .int sp_level, .int sp_row, .int sp_start, .int sp_place, .int sp_length, .int sp_cap])) :: (a_g, .inr (2, [.ref a_g_rowCuts, .ref a_g_columnCuts, .ref a_g_bandRows, .ref a_g_zoneColumns, .ref a_g_rows, .ref a_g_sheets])) :: (a_g_bandRows, .inl (ci 0, 5, .inl g_bandRows)) :: Rw) H → va_S A s.heap H locs → W p l e ({ frames := 1, cells := 0, slots := 0, locals := 25 } : Room) s m ([.ref a_sp] : List Value).toArray below meth c H locs 0 0 Q (F0 m 0 ls []) := by
    intro H locs hH hP hS
    subst hH
    refine lv_aload_n (pc := 0) hx hb dX6_middleLon_0 rfl (lv_at hl 0 rfl) ?_
    refine va_get (pc := 1) (D := D) (ci := 6) (v := .int sp_cap) (C := RX6) (T := TX6) (N := 11) hx hb hts hinX6 hown hK hP 0 rfl rfl 10 (by decide) w_1 (fun _ h9 => h9) rfl dX6_middleLon_1 ?_
    refine q_if_eq (pc := 4) (tgt := 9) hx hb dX6_middleLon_4 (by decide) rfl hf (fun hf => ?_) (fun hf => ?_)
    · refine lv_aload_n (pc := 9) hx hb dX6_middleLon_9 rfl (lv_at hl 0 rfl) ?_
      refine lv_iconst (pc := 10) (v := 2) hx hb dX6_middleLon_10 (by decide) ?_
      obtain ⟨v1, hm11, hf⟩ := q_b1_e hf
      refine q_cVr (pc := 11) (As := [.int 2]) (rest := []) (v0 := (some (.long v1))) ⟨hx, hb, hml, hown, hts⟩ hK hA hZ hP hD hS hl.1 [0, 1, 2] 3 rfl ⟨rfl, rfl, rfl⟩ (c_Spot_edgeTop l D ci A sa N (Rw) a_sp a_g a_sp_first a_sp_many a_sp_corner a_g_rowCuts a_g_columnCuts a_g_bandRows a_g_zoneColumns a_g_rows a_g_sheets sp_cornerCount sp_level sp_row sp_start sp_place sp_length sp_cap g_bandRows 2 v1 hm11) 0 rfl rfl (cwV 1 hts gX6_middleLon_X6_edgeTop rfl rfl rfl (by decide +kernel) ⟨Nat.le_of_ble_eq_true rfl, Nat.le_of_ble_eq_true rfl⟩) rfl rfl (Nat.le_of_ble_eq_true rfl) dX6_middleLon_11 ⟨Nat.zero_le _, Nat.zero_le _⟩ (fun locs hS => ?_)
      refine lv_aload_n (pc := 14) hx hb dX6_middleLon_14 rfl (lv_at hl 0 rfl) ?_
      refine lv_iconst (pc := 15) (v := 3) hx hb dX6_middleLon_15 (by decide) ?_
      obtain ⟨v2, hm16, hf⟩ := q_b1_e hf
      refine q_cVr (pc := 16) (As := [.int 3]) (rest := [.long v1]) (v0 := (some (.long v2))) ⟨hx, hb, hml, hown, hts⟩ hK hA hZ hP hD hS hl.1 [0, 1, 2] 3 rfl ⟨rfl, rfl, rfl⟩ (c_Spot_edgeTop l D ci A sa N (Rw) a_sp a_g a_sp_first a_sp_many a_sp_corner a_g_rowCuts a_g_columnCuts a_g_bandRows a_g_zoneColumns a_g_rows a_g_sheets sp_cornerCount sp_level sp_row sp_start sp_place sp_length sp_cap g_bandRows 3 v2 hm16) 0 rfl rfl (cwV 1 hts gX6_middleLon_X6_edgeTop rfl rfl rfl (by decide +kernel) ⟨Nat.le_of_ble_eq_true rfl, Nat.le_of_ble_eq_true rfl⟩) rfl rfl (Nat.le_of_ble_eq_true rfl) dX6_middleLon_16 ⟨Nat.zero_le _, Nat.zero_le _⟩ (fun locs hS => ?_)
      refine lv_ladd (pc := 19) hx hb dX6_middleLon_19 ?_
      refine lv_ldc2 (pc := 20) (v := 2) hx hb hown w_2 dX6_middleLon_20 ?_
      refine lv_aload_n (pc := 23) hx hb dX6_middleLon_23 rfl (lv_at hl 0 rfl) ?_
      refine lv_iconst (pc := 24) (v := 2) hx hb dX6_middleLon_24 (by decide) ?_
      obtain ⟨v3, hm25, hf⟩ := q_b1_e hf
      refine q_cVr (pc := 25) (As := [.int 2]) (rest := [.long 2, .long (v1 + v2)]) (v0 := (some (.long v3))) ⟨hx, hb, hml, hown, hts⟩ hK hA hZ hP hD hS hl.1 [0, 1, 2] 3 rfl ⟨rfl, rfl, rfl⟩ (c_Spot_edgeBottom l D ci A sa N (Rw) a_sp a_g a_sp_first a_sp_many a_sp_corner a_g_rowCuts a_g_columnCuts a_g_bandRows a_g_zoneColumns a_g_rows a_g_sheets sp_cornerCount sp_level sp_row sp_start sp_place sp_length sp_cap g_bandRows 2 v3 hm25) 0 rfl rfl (cwV 1 hts gX6_middleLon_X6_edgeBottom rfl rfl rfl (by decide +kernel) ⟨Nat.le_of_ble_eq_true rfl, Nat.le_of_ble_eq_true rfl⟩) rfl rfl (Nat.le_of_ble_eq_true rfl) dX6_middleLon_25 ⟨Nat.zero_le _, Nat.zero_le _⟩ (fun locs hS => ?_)
      refine lv_lmul (pc := 28) hx hb dX6_middleLon_28 ?_
      obtain ⟨v4, hm29, hf⟩ := q_b1_e hf
      refine q_cSr (pc := 29) (As := [.long (v1 + v2), .long (2 * v3)]) (rest := []) (v0 := (some (.long v4))) ⟨hx, hb, hml, hown, hts⟩ hK hA hZ hP hD hS hl.1 [] 3 rfl ⟨rfl, rfl, rfl⟩ (c_JMath_floorDiv_f86c9 l D ci A sa N (Rw) (v1 + v2) (2 * v3) v4 hm29) (va_cwS 2 hts gX6_middleLon_J9_floorDiv_f86c9 rfl rfl rfl (by decide +kernel) ⟨Nat.le_of_ble_eq_true rfl, Nat.le_of_ble_eq_true rfl⟩) rfl rfl (Nat.le_of_ble_eq_true rfl) dX6_middleLon_29 ⟨Nat.zero_le _, Nat.zero_le _⟩ (fun locs hS => ?_)
      refine lv_l2i (pc := 32) hx hb dX6_middleLon_32 rfl ?_
      obtain rfl := Option.some.inj hf
      rw [hQ]
      exact q_iretr (pc := 33) hx hb hr hlocks rfl hS dX6_middleLon_33
    · refine lv_iconst (pc := 7) (v := 0) hx hb dX6_middleLon_7 (by decide) ?_
      obtain rfl := Option.some.inj hf
      rw [hQ]
      exact q_iretr (pc := 8) hx hb hr hlocks rfl hS dX6_middleLon_8
  exact hgo _ _ rfl hP hS
/-! X6_zone -/
set_option maxRecDepth 100000 in
set_option maxHeartbeats 4000000 in
theorem c_Spot_zone (l : Launch) (D : va_G) (ci : Nat → ClassId) (A : Nat → Prop) (sa : Nat → Nat) (N : Nat) (Rw : va_W) (a_sp : Nat) (a_g : Nat) (a_sp_first : Nat) (a_sp_many : Nat) (a_sp_corner : Nat) (a_g_rowCuts : Nat) (a_g_columnCuts : Nat) (a_g_bandRows : Nat) (a_g_zoneColumns : Nat) (a_g_rows : Nat) (a_g_sheets : Nat) (sp_cornerCount : Int32) (sp_level : Int32) (sp_row : Int32) (sp_start : Int32) (sp_place : Int32) (sp_length : Int32) (sp_cap : Int32) (g_zoneColumns : Nat → Int32) (r : Int32) (hf : f_Spot_zone sp_level sp_place sp_cap g_zoneColumns = some r) : Met l yX6_zone wsX6_zone ({ frames := 0, cells := 0, slots := 0, locals := 0 }) (va_Pc [.ref a_sp] (q_N D ci A sa ((a_sp, .inr (6, [.ref a_g, .ref a_sp_first, .ref a_sp_many, .ref a_sp_corner, .int sp_cornerCount, .int sp_level, .int sp_row, .int sp_start, .int sp_place, .int sp_length, .int sp_cap])) :: (a_g, .inr (2, [.ref a_g_rowCuts, .ref a_g_columnCuts, .ref a_g_bandRows, .ref a_g_zoneColumns, .ref a_g_rows, .ref a_g_sheets])) :: (a_g_zoneColumns, .inl (ci 0, 5, .inl g_zoneColumns)) :: Rw))) (q_R (some (.int r))) 0 0 A := by
  refine q_ofW (cc := cX6_zone) (maxL := 1) (ret := (some .int)) [.ref a_sp] (plainFor_of_name (by decide)) rfl (Nat.le_of_ble_eq_true rfl) ?_
  intro p e s m below meth c ls Q hQ hx hb hml hr hts hown hlocks hK hA hZ hP hD hS hl
  have hl : lv_has ls 1 [(0, .ref a_sp)] := hl
  have hown : s.vm.findClass RX6 = some m.cls := hown
  have hinX2 : ∀ w ∈ wsX20, w ∈ wsX6_zone := fun _ h => List.mem_cons_of_mem _ (inWX20 _ h)
  have hinX6 : ∀ w ∈ wsX60, w ∈ wsX6_zone := fun _ h => List.mem_cons_of_mem _ (inWX60 _ h)
  have w_1 := hts (Cond.fieldLink RX6 40 "SheetNames$Spot" "cap" "Z") (List.mem_cons_of_mem _ t_w806)
  have w_2 := hts (Cond.fieldLink RX6 34 "SheetNames$Spot" "place" "I") (List.mem_cons_of_mem _ t_w803)
  have w_3 := hts (Cond.fieldLink RX6 44 "SheetNames$Spot" "grid" "LSheetNames$Grid;") (List.mem_cons_of_mem _ t_w801)
  have w_4 := hts (Cond.fieldLink RX6 25 "SheetNames$Spot" "level" "I") (List.mem_cons_of_mem _ t_w802)
  have wn_58 : (Cond.fieldLinkNest "SheetNames$Spot" 67 "SheetNames$Grid" "zoneColumns" "[I" "SheetNames").before ([.ref a_sp] : List Value).toArray s = true := (hZ.2.2.2.2.2.2.2.2.2.1 _ (List.mem_of_getElem? (i := 58) rfl)).use rfl
  unfold f_Spot_zone at hf
  have hgo : ∀ (H : Heap) (locs : List Loc), H = s.heap → va_P D vwCl ((a_sp, .inr (6, [.ref a_g, .ref a_sp_first, .ref a_sp_many, .ref a_sp_corner, .int sp_cornerCount, .int sp_level, .int sp_row, .int sp_start, .int sp_place, .int sp_length, .int sp_cap])) :: (a_g, .inr (2, [.ref a_g_rowCuts, .ref a_g_columnCuts, .ref a_g_bandRows, .ref a_g_zoneColumns, .ref a_g_rows, .ref a_g_sheets])) :: (a_g_zoneColumns, .inl (ci 0, 5, .inl g_zoneColumns)) :: Rw) H → va_S A s.heap H locs → W p l e ({ frames := 0, cells := 0, slots := 0, locals := 0 } : Room) s m ([.ref a_sp] : List Value).toArray below meth c H locs 0 0 Q (F0 m 0 ls []) := by
    intro H locs hH hP hS
    subst hH
    refine lv_aload_n (pc := 0) hx hb dX6_zone_0 rfl (lv_at hl 0 rfl) ?_
    refine va_get (pc := 1) (D := D) (ci := 6) (v := .int sp_cap) (C := RX6) (T := TX6) (N := 11) hx hb hts hinX6 hown hK hP 0 rfl rfl 10 (by decide) w_1 (fun _ h9 => h9) rfl dX6_zone_1 ?_
    refine q_if_eq (pc := 4) (tgt := 11) hx hb dX6_zone_4 (by decide) rfl hf (fun hf => ?_) (fun hf => ?_)
    · refine lv_aload_n (pc := 11) hx hb dX6_zone_11 rfl (lv_at hl 0 rfl) ?_
      refine va_get (pc := 12) (D := D) (ci := 6) (v := .int sp_place) (C := RX6) (T := TX6) (N := 11) hx hb hts hinX6 hown hK hP 0 rfl rfl 8 (by decide) w_2 (fun _ h9 => h9) rfl dX6_zone_12 ?_
      refine lv_aload_n (pc := 15) hx hb dX6_zone_15 rfl (lv_at hl 0 rfl) ?_
      refine va_get (pc := 16) (D := D) (ci := 6) (v := .ref a_g) (C := RX6) (T := TX6) (N := 11) hx hb hts hinX6 hown hK hP 0 rfl rfl 0 (by decide) w_3 (fun _ h9 => h9) rfl dX6_zone_16 ?_
      refine va_getN (pc := 19) (D := D) (ci := 2) (v := .ref a_g_zoneColumns) (C := RX2) (T := TX2) (N := 6) hx hb hts hinX2 hown hK hP 1 rfl rfl 3 (by decide) wn_58 (fun _ h9 => h9) rfl dX6_zone_19 ?_
      refine lv_aload_n (pc := 22) hx hb dX6_zone_22 rfl (lv_at hl 0 rfl) ?_
      refine va_get (pc := 23) (D := D) (ci := 6) (v := .int sp_level) (C := RX6) (T := TX6) (N := 11) hx hb hts hinX6 hown hK hP 0 rfl rfl 5 (by decide) w_4 (fun _ h9 => h9) rfl dX6_zone_23 ?_
      refine q_iald (pc := 26) hx hb hK hP 2 0 hf rfl rfl dX6_zone_26 (fun v1 hf => ?_)
      refine q_idiv (pc := 27) hx hb dX6_zone_27 hf (fun v2 hf => ?_)
      obtain rfl := Option.some.inj hf
      rw [hQ]
      exact q_iretr (pc := 28) hx hb hr hlocks rfl hS dX6_zone_28
    · refine lv_iconst (pc := 7) (v := 0) hx hb dX6_zone_7 (by decide) ?_
      refine lv_goto (pc := 8) (tgt := 28) hx hb dX6_zone_8 (by decide) ?_
      obtain rfl := Option.some.inj hf
      rw [hQ]
      exact q_iretr (pc := 28) hx hb hr hlocks rfl hS dX6_zone_28
  exact hgo _ _ rfl hP hS
/-! X6_numberOf -/
set_option maxRecDepth 100000 in
set_option maxHeartbeats 4000000 in
theorem c_Spot_numberOf (l : Launch) (D : va_G) (ci : Nat → ClassId) (A : Nat → Prop) (sa : Nat → Nat) (N : Nat) (Rw : va_W) (a_sp : Nat) (a_g : Nat) (a_sp_first : Nat) (a_sp_many : Nat) (a_sp_corner : Nat) (a_g_rowCuts : Nat) (a_g_columnCuts : Nat) (a_g_bandRows : Nat) (a_g_zoneColumns : Nat) (a_g_rows : Nat) (a_g_sheets : Nat) (sp_cornerCount : Int32) (sp_level : Int32) (sp_row : Int32) (sp_start : Int32) (sp_place : Int32) (sp_length : Int32) (sp_cap : Int32) (g_rowCuts : Nat → Int32) (g_columnCuts : Nat → Int32) (g_bandRows : Nat → Int32) (g_zoneColumns : Nat → Int32) (p1 : Int32) (r : Int32) (hf : f_Spot_numberOf sp_level sp_row sp_place sp_cap g_rowCuts g_columnCuts g_bandRows g_zoneColumns p1 = some r) : Met l yX6_numberOf wsX6_numberOf ({ frames := 1, cells := 0, slots := 0, locals := 22 }) (va_Pc [.ref a_sp, .int p1] (q_N D ci A sa ((a_sp, .inr (6, [.ref a_g, .ref a_sp_first, .ref a_sp_many, .ref a_sp_corner, .int sp_cornerCount, .int sp_level, .int sp_row, .int sp_start, .int sp_place, .int sp_length, .int sp_cap])) :: (a_g, .inr (2, [.ref a_g_rowCuts, .ref a_g_columnCuts, .ref a_g_bandRows, .ref a_g_zoneColumns, .ref a_g_rows, .ref a_g_sheets])) :: (a_g_rowCuts, .inl (ci 0, 5, .inl g_rowCuts)) :: (a_g_columnCuts, .inl (ci 0, 5, .inl g_columnCuts)) :: (a_g_bandRows, .inl (ci 0, 5, .inl g_bandRows)) :: (a_g_zoneColumns, .inl (ci 0, 5, .inl g_zoneColumns)) :: Rw))) (q_R (some (.int r))) 0 0 A := by
  refine q_ofW (cc := cX6_numberOf) (maxL := 4) (ret := (some .int)) [.ref a_sp, .int p1] (plainFor_of_name (by decide)) rfl (Nat.le_of_ble_eq_true rfl) ?_
  intro p e s m below meth c ls Q hQ hx hb hml hr hts hown hlocks hK hA hZ hP hD hS hl
  have hl : lv_has ls 4 [(0, .ref a_sp), (1, .int p1)] := hl
  have hown : s.vm.findClass RX6 = some m.cls := hown
  have hinX2 : ∀ w ∈ wsX20, w ∈ wsX6_numberOf := fun _ h => List.mem_cons_of_mem _ (inWX20 _ h)
  have hinX6 : ∀ w ∈ wsX60, w ∈ wsX6_numberOf := fun _ h => List.mem_cons_of_mem _ (inWX60 _ h)
  have w_1 := hts (Cond.fieldLink RX6 40 "SheetNames$Spot" "cap" "Z") (List.mem_cons_of_mem _ t_w806)
  have w_2 := hts (Cond.fieldLink RX6 28 "SheetNames$Spot" "row" "I") (List.mem_cons_of_mem _ t_w807)
  have w_3 := hts (Cond.fieldLink RX6 44 "SheetNames$Spot" "grid" "LSheetNames$Grid;") (List.mem_cons_of_mem _ t_w801)
  have w_4 := hts (Cond.fieldLink RX6 25 "SheetNames$Spot" "level" "I") (List.mem_cons_of_mem _ t_w802)
  have w_5 := hts (Cond.fieldLink RX6 34 "SheetNames$Spot" "place" "I") (List.mem_cons_of_mem _ t_w803)
  have wn_59 : (Cond.fieldLinkNest "SheetNames$Spot" 77 "SheetNames$Grid" "rowCuts" "[I" "SheetNames").before ([.ref a_sp, .int p1] : List Value).toArray s = true := (hZ.2.2.2.2.2.2.2.2.2.1 _ (List.mem_of_getElem? (i := 59) rfl)).use rfl
  have wn_60 : (Cond.fieldLinkNest "SheetNames$Spot" 83 "SheetNames$Grid" "columnCuts" "[I" "SheetNames").before ([.ref a_sp, .int p1] : List Value).toArray s = true := (hZ.2.2.2.2.2.2.2.2.2.1 _ (List.mem_of_getElem? (i := 60) rfl)).use rfl
  unfold f_Spot_numberOf at hf
  have hgo : ∀ (H : Heap) (locs : List Loc), H = s.heap → va_P D vwCl ((a_sp, .inr (6, [.ref a_g, .ref a_sp_first, .ref a_sp_many, .ref a_sp_corner, .int sp_cornerCount, .int sp_level, .int sp_row, .int sp_start, .int sp_place, .int sp_length, .int sp_cap])) :: (a_g, .inr (2, [.ref a_g_rowCuts, .ref a_g_columnCuts, .ref a_g_bandRows, .ref a_g_zoneColumns, .ref a_g_rows, .ref a_g_sheets])) :: (a_g_rowCuts, .inl (ci 0, 5, .inl g_rowCuts)) :: (a_g_columnCuts, .inl (ci 0, 5, .inl g_columnCuts)) :: (a_g_bandRows, .inl (ci 0, 5, .inl g_bandRows)) :: (a_g_zoneColumns, .inl (ci 0, 5, .inl g_zoneColumns)) :: Rw) H → va_S A s.heap H locs → W p l e ({ frames := 1, cells := 0, slots := 0, locals := 22 } : Room) s m ([.ref a_sp, .int p1] : List Value).toArray below meth c H locs 0 0 Q (F0 m 0 ls []) := by
    intro H locs hH hP hS
    subst hH
    refine lv_aload_n (pc := 0) hx hb dX6_numberOf_0 rfl (lv_at hl 0 rfl) ?_
    refine va_get (pc := 1) (D := D) (ci := 6) (v := .int sp_cap) (C := RX6) (T := TX6) (N := 11) hx hb hts hinX6 hown hK hP 0 rfl rfl 10 (by decide) w_1 (fun _ h9 => h9) rfl dX6_numberOf_1 ?_
    refine q_if_eq (pc := 4) (tgt := 9) hx hb dX6_numberOf_4 (by decide) rfl hf (fun hf => ?_) (fun hf => ?_)
    · refine lv_iload_n (pc := 9) hx hb dX6_numberOf_9 rfl (lv_at hl 1 rfl) ?_
      refine q_if_ne (pc := 10) (tgt := 20) hx hb dX6_numberOf_10 (by decide) rfl hf (fun hf => ?_) (fun hf => ?_)
      · refine lv_aload_n (pc := 20) hx hb dX6_numberOf_20 rfl (lv_at hl 0 rfl) ?_
        refine va_get (pc := 21) (D := D) (ci := 6) (v := .int sp_row) (C := RX6) (T := TX6) (N := 11) hx hb hts hinX6 hown hK hP 0 rfl rfl 6 (by decide) w_2 (fun _ h9 => h9) rfl dX6_numberOf_21 ?_
        refine lv_iconst (pc := 24) (v := 1) hx hb dX6_numberOf_24 (by decide) ?_
        refine lv_isub (pc := 25) hx hb dX6_numberOf_25 ?_
        refine lv_aload_n (pc := 26) hx hb dX6_numberOf_26 rfl (lv_at hl 0 rfl) ?_
        refine va_get (pc := 27) (D := D) (ci := 6) (v := .ref a_g) (C := RX6) (T := TX6) (N := 11) hx hb hts hinX6 hown hK hP 0 rfl rfl 0 (by decide) w_3 (fun _ h9 => h9) rfl dX6_numberOf_27 ?_
        refine lv_iload_n (pc := 30) hx hb dX6_numberOf_30 rfl (lv_at hl 1 rfl) ?_
        refine lv_aload_n (pc := 31) hx hb dX6_numberOf_31 rfl (lv_at hl 0 rfl) ?_
        refine va_get (pc := 32) (D := D) (ci := 6) (v := .int sp_level) (C := RX6) (T := TX6) (N := 11) hx hb hts hinX6 hown hK hP 0 rfl rfl 5 (by decide) w_4 (fun _ h9 => h9) rfl dX6_numberOf_32 ?_
        obtain ⟨v1, hm35, hf⟩ := q_b1_e hf
        refine q_cVr (pc := 35) (As := [.int p1, .int sp_level]) (rest := [.int (sp_row - 1)]) (v0 := (some (.int v1))) ⟨hx, hb, hml, hown, hts⟩ hK hA hZ hP hD hS hl.1 [1, 4] 6 rfl ⟨rfl, rfl, rfl⟩ (c_Grid_rowsIn l D ci A sa N (Rw) a_g a_g_rowCuts a_g_columnCuts a_g_bandRows a_g_zoneColumns a_g_rows a_g_sheets g_bandRows p1 sp_level v1 hm35) 1 rfl rfl (cwV 2 hts gX6_numberOf_X2_rowsIn rfl rfl rfl (by decide +kernel) ⟨Nat.le_of_ble_eq_true rfl, Nat.le_of_ble_eq_true rfl⟩) rfl rfl (Nat.le_of_ble_eq_true rfl) dX6_numberOf_35 ⟨Nat.zero_le _, Nat.zero_le _⟩ (fun locs hS => ?_)
        refine q_idiv (pc := 38) hx hb dX6_numberOf_38 hf (fun v2 hf => ?_)
        refine lv_aload_n (pc := 39) hx hb dX6_numberOf_39 rfl (lv_at hl 0 rfl) ?_
        refine va_get (pc := 40) (D := D) (ci := 6) (v := .ref a_g) (C := RX6) (T := TX6) (N := 11) hx hb hts hinX6 hown hK hP 0 rfl rfl 0 (by decide) w_3 (fun _ h9 => h9) rfl dX6_numberOf_40 ?_
        refine va_getN (pc := 43) (D := D) (ci := 2) (v := .ref a_g_rowCuts) (C := RX2) (T := TX2) (N := 6) hx hb hts hinX2 hown hK hP 1 rfl rfl 0 (by decide) wn_59 (fun _ h9 => h9) rfl dX6_numberOf_43 ?_
        refine lv_iload_n (pc := 46) hx hb dX6_numberOf_46 rfl (lv_at hl 1 rfl) ?_
        refine q_iald (pc := 47) hx hb hK hP 2 0 hf rfl rfl dX6_numberOf_47 (fun v3 hf => ?_)
        refine q_irem (pc := 48) hx hb dX6_numberOf_48 hf (fun v4 hf => ?_)
        refine lv_istore_n (pc := 49) (lv' := [(2, .int v4), (0, .ref a_sp), (1, .int p1)]) hx hb dX6_numberOf_49 rfl hl (by decide) rfl (fun ls hl => ?_)
        refine lv_aload_n (pc := 50) hx hb dX6_numberOf_50 rfl (lv_at hl 1 rfl) ?_
        refine va_get (pc := 51) (D := D) (ci := 6) (v := .int sp_place) (C := RX6) (T := TX6) (N := 11) hx hb hts hinX6 hown hK hP 0 rfl rfl 8 (by decide) w_5 (fun _ h9 => h9) rfl dX6_numberOf_51 ?_
        refine lv_aload_n (pc := 54) hx hb dX6_numberOf_54 rfl (lv_at hl 1 rfl) ?_
        refine va_get (pc := 55) (D := D) (ci := 6) (v := .ref a_g) (C := RX6) (T := TX6) (N := 11) hx hb hts hinX6 hown hK hP 0 rfl rfl 0 (by decide) w_3 (fun _ h9 => h9) rfl dX6_numberOf_55 ?_
        refine lv_iload_n (pc := 58) hx hb dX6_numberOf_58 rfl (lv_at hl 2 rfl) ?_
        refine lv_aload_n (pc := 59) hx hb dX6_numberOf_59 rfl (lv_at hl 1 rfl) ?_
        refine va_get (pc := 60) (D := D) (ci := 6) (v := .int sp_level) (C := RX6) (T := TX6) (N := 11) hx hb hts hinX6 hown hK hP 0 rfl rfl 5 (by decide) w_4 (fun _ h9 => h9) rfl dX6_numberOf_60 ?_
        obtain ⟨v5, hm63, hf⟩ := q_b1_e hf
        refine q_cVr (pc := 63) (As := [.int p1, .int sp_level]) (rest := [.int sp_place]) (v0 := (some (.int v5))) ⟨hx, hb, hml, hown, hts⟩ hK hA hZ hP hD hS hl.1 [1, 5] 6 rfl ⟨rfl, rfl, rfl⟩ (c_Grid_columnsIn l D ci A sa N (Rw) a_g a_g_rowCuts a_g_columnCuts a_g_bandRows a_g_zoneColumns a_g_rows a_g_sheets g_zoneColumns p1 sp_level v5 hm63) 1 rfl rfl (cwV 2 hts gX6_numberOf_X2_columnsIn rfl rfl rfl (by decide +kernel) ⟨Nat.le_of_ble_eq_true rfl, Nat.le_of_ble_eq_true rfl⟩) rfl rfl (Nat.le_of_ble_eq_true rfl) dX6_numberOf_63 ⟨Nat.zero_le _, Nat.zero_le _⟩ (fun locs hS => ?_)
        refine q_idiv (pc := 66) hx hb dX6_numberOf_66 hf (fun v6 hf => ?_)
        refine lv_aload_n (pc := 67) hx hb dX6_numberOf_67 rfl (lv_at hl 1 rfl) ?_
        refine va_get (pc := 68) (D := D) (ci := 6) (v := .ref a_g) (C := RX6) (T := TX6) (N := 11) hx hb hts hinX6 hown hK hP 0 rfl rfl 0 (by decide) w_3 (fun _ h9 => h9) rfl dX6_numberOf_68 ?_
        refine va_getN (pc := 71) (D := D) (ci := 2) (v := .ref a_g_columnCuts) (C := RX2) (T := TX2) (N := 6) hx hb hts hinX2 hown hK hP 1 rfl rfl 1 (by decide) wn_60 (fun _ h9 => h9) rfl dX6_numberOf_71 ?_
        refine lv_iload_n (pc := 74) hx hb dX6_numberOf_74 rfl (lv_at hl 2 rfl) ?_
        refine q_iald (pc := 75) hx hb hK hP 3 0 hf rfl rfl dX6_numberOf_75 (fun v7 hf => ?_)
        refine q_irem (pc := 76) hx hb dX6_numberOf_76 hf (fun v8 hf => ?_)
        refine lv_istore_n (pc := 77) (lv' := [(3, .int v8), (2, .int v4), (0, .ref a_sp), (1, .int p1)]) hx hb dX6_numberOf_77 rfl hl (by decide) rfl (fun ls hl => ?_)
        refine lv_iload_n (pc := 78) hx hb dX6_numberOf_78 rfl (lv_at hl 1 rfl) ?_
        refine lv_aload_n (pc := 79) hx hb dX6_numberOf_79 rfl (lv_at hl 2 rfl) ?_
        refine va_get (pc := 80) (D := D) (ci := 6) (v := .ref a_g) (C := RX6) (T := TX6) (N := 11) hx hb hts hinX6 hown hK hP 0 rfl rfl 0 (by decide) w_3 (fun _ h9 => h9) rfl dX6_numberOf_80 ?_
        refine va_getN (pc := 83) (D := D) (ci := 2) (v := .ref a_g_columnCuts) (C := RX2) (T := TX2) (N := 6) hx hb hts hinX2 hown hK hP 1 rfl rfl 1 (by decide) wn_60 (fun _ h9 => h9) rfl dX6_numberOf_83 ?_
        refine lv_iload_n (pc := 86) hx hb dX6_numberOf_86 rfl (lv_at hl 3 rfl) ?_
        refine q_iald (pc := 87) hx hb hK hP 3 0 hf rfl rfl dX6_numberOf_87 (fun v9 hf => ?_)
        refine lv_imul (pc := 88) hx hb dX6_numberOf_88 ?_
        refine lv_iload_n (pc := 89) hx hb dX6_numberOf_89 rfl (lv_at hl 0 rfl) ?_
        refine lv_iadd (pc := 90) hx hb dX6_numberOf_90 ?_
        refine lv_iconst (pc := 91) (v := 1) hx hb dX6_numberOf_91 (by decide) ?_
        refine lv_iadd (pc := 92) hx hb dX6_numberOf_92 ?_
        obtain rfl := Option.some.inj hf
        rw [hQ]
        exact q_iretr (pc := 93) hx hb hr hlocks rfl hS dX6_numberOf_93
      · refine lv_aload_n (pc := 13) hx hb dX6_numberOf_13 rfl (lv_at hl 0 rfl) ?_
        obtain ⟨v10, hm14, hf⟩ := q_b1_e hf
        refine q_cVr (pc := 14) (As := []) (rest := []) (v0 := (some (.int v10))) ⟨hx, hb, hml, hown, hts⟩ hK hA hZ hP hD hS hl.1 [0, 1, 5] 6 rfl ⟨rfl, rfl, rfl⟩ (c_Spot_zone l D ci A sa N (Rw) a_sp a_g a_sp_first a_sp_many a_sp_corner a_g_rowCuts a_g_columnCuts a_g_bandRows a_g_zoneColumns a_g_rows a_g_sheets sp_cornerCount sp_level sp_row sp_start sp_place sp_length sp_cap g_zoneColumns v10 hm14) 0 rfl rfl (cwV 0 hts gX6_numberOf_X6_zone rfl rfl rfl (by decide +kernel) ⟨Nat.le_of_ble_eq_true rfl, Nat.le_of_ble_eq_true rfl⟩) rfl rfl (Nat.le_of_ble_eq_true rfl) dX6_numberOf_14 ⟨Nat.zero_le _, Nat.zero_le _⟩ (fun locs hS => ?_)
        refine lv_iconst (pc := 17) (v := 1) hx hb dX6_numberOf_17 (by decide) ?_
        refine lv_iadd (pc := 18) hx hb dX6_numberOf_18 ?_
        obtain rfl := Option.some.inj hf
        rw [hQ]
        exact q_iretr (pc := 19) hx hb hr hlocks rfl hS dX6_numberOf_19
    · refine lv_iconst (pc := 7) (v := 0) hx hb dX6_numberOf_7 (by decide) ?_
      obtain rfl := Option.some.inj hf
      rw [hQ]
      exact q_iretr (pc := 8) hx hb hr hlocks rfl hS dX6_numberOf_8
  exact hgo _ _ rfl hP hS
/-! X6_pieceAt -/
set_option maxRecDepth 100000 in
set_option maxHeartbeats 4000000 in
theorem c_Spot_pieceAt (l : Launch) (D : va_G) (ci : Nat → ClassId) (A : Nat → Prop) (sa : Nat → Nat) (N : Nat) (Rw : va_W) (a_sp : Nat) (a_g : Nat) (a_sp_first : Nat) (a_sp_many : Nat) (a_sp_corner : Nat) (a_g_rowCuts : Nat) (a_g_columnCuts : Nat) (a_g_bandRows : Nat) (a_g_zoneColumns : Nat) (a_g_rows : Nat) (a_g_sheets : Nat) (sp_cornerCount : Int32) (sp_level : Int32) (sp_row : Int32) (sp_start : Int32) (sp_place : Int32) (sp_length : Int32) (sp_cap : Int32) (g_bandRows : Nat → Int32) (g_zoneColumns : Nat → Int32) (g_rows : Nat → Int32) (g_sheets : Nat → Int32) (p1 : Int32) (p2 : Int32) (r : Int32) (hf : f_Spot_pieceAt sp_level sp_row sp_place sp_cap g_bandRows g_zoneColumns g_rows g_sheets p1 p2 = some r) : Met l yX6_pieceAt wsX6_pieceAt ({ frames := 1, cells := 0, slots := 0, locals := 25 }) (va_Pc [.ref a_sp, .int p1, .int p2] (q_N D ci A sa ((a_sp, .inr (6, [.ref a_g, .ref a_sp_first, .ref a_sp_many, .ref a_sp_corner, .int sp_cornerCount, .int sp_level, .int sp_row, .int sp_start, .int sp_place, .int sp_length, .int sp_cap])) :: (a_g, .inr (2, [.ref a_g_rowCuts, .ref a_g_columnCuts, .ref a_g_bandRows, .ref a_g_zoneColumns, .ref a_g_rows, .ref a_g_sheets])) :: (a_g_bandRows, .inl (ci 0, 5, .inl g_bandRows)) :: (a_g_zoneColumns, .inl (ci 0, 5, .inl g_zoneColumns)) :: (a_g_rows, .inl (ci 0, 5, .inl g_rows)) :: (a_g_sheets, .inl (ci 0, 5, .inl g_sheets)) :: Rw))) (q_R (some (.int r))) 0 0 A := by
  refine q_ofW (cc := cX6_pieceAt) (maxL := 5) (ret := (some .int)) [.ref a_sp, .int p1, .int p2] (plainFor_of_name (by decide)) rfl (Nat.le_of_ble_eq_true rfl) ?_
  intro p e s m below meth c ls Q hQ hx hb hml hr hts hown hlocks hK hA hZ hP hD hS hl
  have hl : lv_has ls 5 [(0, .ref a_sp), (1, .int p1), (2, .int p2)] := hl
  have hown : s.vm.findClass RX6 = some m.cls := hown
  have hinX2 : ∀ w ∈ wsX20, w ∈ wsX6_pieceAt := fun _ h => List.mem_cons_of_mem _ (inWX20 _ h)
  have hinX6 : ∀ w ∈ wsX60, w ∈ wsX6_pieceAt := fun _ h => List.mem_cons_of_mem _ (inWX60 _ h)
  have w_1 := hts (Cond.fieldLink RX6 40 "SheetNames$Spot" "cap" "Z") (List.mem_cons_of_mem _ t_w806)
  have w_2 := hts (Cond.fieldLink RX6 28 "SheetNames$Spot" "row" "I") (List.mem_cons_of_mem _ t_w807)
  have w_3 := hts (Cond.fieldLink RX6 44 "SheetNames$Spot" "grid" "LSheetNames$Grid;") (List.mem_cons_of_mem _ t_w801)
  have w_4 := hts (Cond.fieldLink RX6 25 "SheetNames$Spot" "level" "I") (List.mem_cons_of_mem _ t_w802)
  have w_5 := hts (Cond.fieldLink RX6 34 "SheetNames$Spot" "place" "I") (List.mem_cons_of_mem _ t_w803)
  have wn_55 : (Cond.fieldLinkNest "SheetNames$Spot" 110 "SheetNames$Grid" "sheets" "[I" "SheetNames").before ([.ref a_sp, .int p1, .int p2] : List Value).toArray s = true := (hZ.2.2.2.2.2.2.2.2.2.1 _ (List.mem_of_getElem? (i := 55) rfl)).use rfl
  unfold f_Spot_pieceAt at hf
  have hgo : ∀ (H : Heap) (locs : List Loc), H = s.heap → va_P D vwCl ((a_sp, .inr (6, [.ref a_g, .ref a_sp_first, .ref a_sp_many, .ref a_sp_corner, .int sp_cornerCount, .int sp_level, .int sp_row, .int sp_start, .int sp_place, .int sp_length, .int sp_cap])) :: (a_g, .inr (2, [.ref a_g_rowCuts, .ref a_g_columnCuts, .ref a_g_bandRows, .ref a_g_zoneColumns, .ref a_g_rows, .ref a_g_sheets])) :: (a_g_bandRows, .inl (ci 0, 5, .inl g_bandRows)) :: (a_g_zoneColumns, .inl (ci 0, 5, .inl g_zoneColumns)) :: (a_g_rows, .inl (ci 0, 5, .inl g_rows)) :: (a_g_sheets, .inl (ci 0, 5, .inl g_sheets)) :: Rw) H → va_S A s.heap H locs → W p l e ({ frames := 1, cells := 0, slots := 0, locals := 25 } : Room) s m ([.ref a_sp, .int p1, .int p2] : List Value).toArray below meth c H locs 0 0 Q (F0 m 0 ls []) := by
    intro H locs hH hP hS
    subst hH
    refine lv_aload_n (pc := 0) hx hb dX6_pieceAt_0 rfl (lv_at hl 0 rfl) ?_
    refine va_get (pc := 1) (D := D) (ci := 6) (v := .int sp_cap) (C := RX6) (T := TX6) (N := 11) hx hb hts hinX6 hown hK hP 0 rfl rfl 10 (by decide) w_1 (fun _ h9 => h9) rfl dX6_pieceAt_1 ?_
    refine q_if_eq (pc := 4) (tgt := 30) hx hb dX6_pieceAt_4 (by decide) rfl hf (fun hf => ?_) (fun hf => ?_)
    · refine lv_aload_n (pc := 30) hx hb dX6_pieceAt_30 rfl (lv_at hl 0 rfl) ?_
      refine va_get (pc := 31) (D := D) (ci := 6) (v := .ref a_g) (C := RX6) (T := TX6) (N := 11) hx hb hts hinX6 hown hK hP 0 rfl rfl 0 (by decide) w_3 (fun _ h9 => h9) rfl dX6_pieceAt_31 ?_
      refine lv_aload_n (pc := 34) hx hb dX6_pieceAt_34 rfl (lv_at hl 0 rfl) ?_
      refine va_get (pc := 35) (D := D) (ci := 6) (v := .int sp_level) (C := RX6) (T := TX6) (N := 11) hx hb hts hinX6 hown hK hP 0 rfl rfl 5 (by decide) w_4 (fun _ h9 => h9) rfl dX6_pieceAt_35 ?_
      refine lv_iload_n (pc := 38) hx hb dX6_pieceAt_38 rfl (lv_at hl 1 rfl) ?_
      obtain ⟨v1, hm39, hf⟩ := q_b1_e hf
      refine q_cVr (pc := 39) (As := [.int sp_level, .int p1]) (rest := []) (v0 := (some (.int v1))) ⟨hx, hb, hml, hown, hts⟩ hK hA hZ hP hD hS hl.1 [1, 3] 6 rfl ⟨rfl, rfl, rfl⟩ (c_Grid_columnsIn l D ci A sa N (Rw) a_g a_g_rowCuts a_g_columnCuts a_g_bandRows a_g_zoneColumns a_g_rows a_g_sheets g_zoneColumns sp_level p1 v1 hm39) 1 rfl rfl (cwV 2 hts gX6_pieceAt_X2_columnsIn rfl rfl rfl (by decide +kernel) ⟨Nat.le_of_ble_eq_true rfl, Nat.le_of_ble_eq_true rfl⟩) rfl rfl (Nat.le_of_ble_eq_true rfl) dX6_pieceAt_39 ⟨Nat.zero_le _, Nat.zero_le _⟩ (fun locs hS => ?_)
      refine lv_istore_n (pc := 42) (lv' := [(3, .int v1), (0, .ref a_sp), (1, .int p1), (2, .int p2)]) hx hb dX6_pieceAt_42 rfl hl (by decide) rfl (fun ls hl => ?_)
      refine lv_aload_n (pc := 43) hx hb dX6_pieceAt_43 rfl (lv_at hl 1 rfl) ?_
      refine va_get (pc := 44) (D := D) (ci := 6) (v := .int sp_row) (C := RX6) (T := TX6) (N := 11) hx hb hts hinX6 hown hK hP 0 rfl rfl 6 (by decide) w_2 (fun _ h9 => h9) rfl dX6_pieceAt_44 ?_
      refine lv_iconst (pc := 47) (v := 1) hx hb dX6_pieceAt_47 (by decide) ?_
      refine lv_isub (pc := 48) hx hb dX6_pieceAt_48 ?_
      refine lv_aload_n (pc := 49) hx hb dX6_pieceAt_49 rfl (lv_at hl 1 rfl) ?_
      refine va_get (pc := 50) (D := D) (ci := 6) (v := .ref a_g) (C := RX6) (T := TX6) (N := 11) hx hb hts hinX6 hown hK hP 0 rfl rfl 0 (by decide) w_3 (fun _ h9 => h9) rfl dX6_pieceAt_50 ?_
      refine lv_aload_n (pc := 53) hx hb dX6_pieceAt_53 rfl (lv_at hl 1 rfl) ?_
      refine va_get (pc := 54) (D := D) (ci := 6) (v := .int sp_level) (C := RX6) (T := TX6) (N := 11) hx hb hts hinX6 hown hK hP 0 rfl rfl 5 (by decide) w_4 (fun _ h9 => h9) rfl dX6_pieceAt_54 ?_
      refine lv_iload_n (pc := 57) hx hb dX6_pieceAt_57 rfl (lv_at hl 2 rfl) ?_
      obtain ⟨v2, hm58, hf⟩ := q_b1_e hf
      refine q_cVr (pc := 58) (As := [.int sp_level, .int p1]) (rest := [.int (sp_row - 1)]) (v0 := (some (.int v2))) ⟨hx, hb, hml, hown, hts⟩ hK hA hZ hP hD hS hl.1 [1, 2] 6 rfl ⟨rfl, rfl, rfl⟩ (c_Grid_rowsIn l D ci A sa N (Rw) a_g a_g_rowCuts a_g_columnCuts a_g_bandRows a_g_zoneColumns a_g_rows a_g_sheets g_bandRows sp_level p1 v2 hm58) 1 rfl rfl (cwV 2 hts gX6_pieceAt_X2_rowsIn rfl rfl rfl (by decide +kernel) ⟨Nat.le_of_ble_eq_true rfl, Nat.le_of_ble_eq_true rfl⟩) rfl rfl (Nat.le_of_ble_eq_true rfl) dX6_pieceAt_58 ⟨Nat.zero_le _, Nat.zero_le _⟩ (fun locs hS => ?_)
      refine lv_imul (pc := 61) hx hb dX6_pieceAt_61 ?_
      refine lv_iload_n (pc := 62) hx hb dX6_pieceAt_62 rfl (lv_at hl 3 rfl) ?_
      refine lv_iload_n (pc := 63) hx hb dX6_pieceAt_63 rfl (lv_at hl 0 rfl) ?_
      refine q_idiv (pc := 64) hx hb dX6_pieceAt_64 hf (fun v3 hf => ?_)
      refine lv_iadd (pc := 65) hx hb dX6_pieceAt_65 ?_
      refine lv_iconst (pc := 66) (v := 1) hx hb dX6_pieceAt_66 (by decide) ?_
      refine lv_iadd (pc := 67) hx hb dX6_pieceAt_67 ?_
      obtain ⟨v4, ev4, hf⟩ := q_nm_e hf
      refine q_topi ev4 ?_
      refine lv_istore (pc := 68) (lv' := [(4, .int v4), (3, .int v1), (0, .ref a_sp), (1, .int p1), (2, .int p2)]) hx hb dX6_pieceAt_68 hl (by decide) rfl (fun ls hl => ?_)
      refine lv_aload_n (pc := 70) hx hb dX6_pieceAt_70 rfl (lv_at hl 2 rfl) ?_
      refine va_get (pc := 71) (D := D) (ci := 6) (v := .ref a_g) (C := RX6) (T := TX6) (N := 11) hx hb hts hinX6 hown hK hP 0 rfl rfl 0 (by decide) w_3 (fun _ h9 => h9) rfl dX6_pieceAt_71 ?_
      refine lv_iload_n (pc := 74) hx hb dX6_pieceAt_74 rfl (lv_at hl 3 rfl) ?_
      refine lv_iload (pc := 75) hx hb dX6_pieceAt_75 (lv_at hl 0 rfl) ?_
      obtain ⟨v5, hm77, hf⟩ := q_b1_e hf
      refine q_cVr (pc := 77) (As := [.int p1, .int v4]) (rest := []) (v0 := (some (.int v5))) ⟨hx, hb, hml, hown, hts⟩ hK hA hZ hP hD hS hl.1 [1, 2, 3, 4, 5] 6 rfl ⟨rfl, rfl, rfl⟩ (c_Grid_rowStart l D ci A sa N (Rw) a_g a_g_rowCuts a_g_columnCuts a_g_bandRows a_g_zoneColumns a_g_rows a_g_sheets g_bandRows g_zoneColumns g_rows g_sheets p1 v4 v5 hm77) 1 rfl rfl (cwV 2 hts gX6_pieceAt_X2_rowStart rfl rfl rfl (by decide +kernel) ⟨Nat.le_of_ble_eq_true rfl, Nat.le_of_ble_eq_true rfl⟩) rfl rfl (Nat.le_of_ble_eq_true rfl) dX6_pieceAt_77 ⟨Nat.zero_le _, Nat.zero_le _⟩ (fun locs hS => ?_)
      refine lv_aload_n (pc := 80) hx hb dX6_pieceAt_80 rfl (lv_at hl 2 rfl) ?_
      refine va_get (pc := 81) (D := D) (ci := 6) (v := .int sp_place) (C := RX6) (T := TX6) (N := 11) hx hb hts hinX6 hown hK hP 0 rfl rfl 8 (by decide) w_5 (fun _ h9 => h9) rfl dX6_pieceAt_81 ?_
      refine lv_iload_n (pc := 84) hx hb dX6_pieceAt_84 rfl (lv_at hl 1 rfl) ?_
      refine lv_imul (pc := 85) hx hb dX6_pieceAt_85 ?_
      refine lv_iadd (pc := 86) hx hb dX6_pieceAt_86 ?_
      refine lv_iload_n (pc := 87) hx hb dX6_pieceAt_87 rfl (lv_at hl 4 rfl) ?_
      refine lv_iload_n (pc := 88) hx hb dX6_pieceAt_88 rfl (lv_at hl 1 rfl) ?_
      refine q_irem (pc := 89) hx hb dX6_pieceAt_89 hf (fun v6 hf => ?_)
      refine lv_iadd (pc := 90) hx hb dX6_pieceAt_90 ?_
      obtain rfl := Option.some.inj hf
      rw [hQ]
      exact q_iretr (pc := 91) hx hb hr hlocks rfl hS dX6_pieceAt_91
    · refine lv_aload_n (pc := 7) hx hb dX6_pieceAt_7 rfl (lv_at hl 0 rfl) ?_
      refine va_get (pc := 8) (D := D) (ci := 6) (v := .int sp_row) (C := RX6) (T := TX6) (N := 11) hx hb hts hinX6 hown hK hP 0 rfl rfl 6 (by decide) w_2 (fun _ h9 => h9) rfl dX6_pieceAt_8 ?_
      refine q_if_ne (pc := 11) (tgt := 18) hx hb dX6_pieceAt_11 (by decide) rfl hf (fun hf => ?_) (fun hf => ?_)
      · refine lv_aload_n (pc := 18) hx hb dX6_pieceAt_18 rfl (lv_at hl 0 rfl) ?_
        refine va_get (pc := 19) (D := D) (ci := 6) (v := .ref a_g) (C := RX6) (T := TX6) (N := 11) hx hb hts hinX6 hown hK hP 0 rfl rfl 0 (by decide) w_3 (fun _ h9 => h9) rfl dX6_pieceAt_19 ?_
        refine va_getN (pc := 22) (D := D) (ci := 2) (v := .ref a_g_sheets) (C := RX2) (T := TX2) (N := 6) hx hb hts hinX2 hown hK hP 1 rfl rfl 5 (by decide) wn_55 (fun _ h9 => h9) rfl dX6_pieceAt_22 ?_
        refine lv_iload_n (pc := 25) hx hb dX6_pieceAt_25 rfl (lv_at hl 1 rfl) ?_
        refine q_iald (pc := 26) hx hb hK hP 5 0 hf rfl rfl dX6_pieceAt_26 (fun v7 hf => ?_)
        refine lv_iconst (pc := 27) (v := 1) hx hb dX6_pieceAt_27 (by decide) ?_
        refine lv_isub (pc := 28) hx hb dX6_pieceAt_28 ?_
        obtain rfl := Option.some.inj hf
        rw [hQ]
        exact q_iretr (pc := 29) hx hb hr hlocks rfl hS dX6_pieceAt_29
      · refine lv_iconst (pc := 14) (v := 0) hx hb dX6_pieceAt_14 (by decide) ?_
        refine lv_goto (pc := 15) (tgt := 29) hx hb dX6_pieceAt_15 (by decide) ?_
        obtain rfl := Option.some.inj hf
        rw [hQ]
        exact q_iretr (pc := 29) hx hb hr hlocks rfl hS dX6_pieceAt_29
  exact hgo _ _ rfl hP hS
/-! X6_piecesAt -/
set_option maxRecDepth 100000 in
set_option maxHeartbeats 4000000 in
theorem c_Spot_piecesAt (l : Launch) (D : va_G) (ci : Nat → ClassId) (A : Nat → Prop) (sa : Nat → Nat) (N : Nat) (Rw : va_W) (a_sp : Nat) (a_g : Nat) (a_sp_first : Nat) (a_sp_many : Nat) (a_sp_corner : Nat) (a_g_rowCuts : Nat) (a_g_columnCuts : Nat) (a_g_bandRows : Nat) (a_g_zoneColumns : Nat) (a_g_rows : Nat) (a_g_sheets : Nat) (sp_cornerCount : Int32) (sp_level : Int32) (sp_row : Int32) (sp_start : Int32) (sp_place : Int32) (sp_length : Int32) (sp_cap : Int32) (g_bandRows : Nat → Int32) (g_zoneColumns : Nat → Int32) (p1 : Int32) (r : Int32) (hf : f_Spot_piecesAt sp_level sp_cap g_bandRows g_zoneColumns p1 = some r) : Met l yX6_piecesAt wsX6_piecesAt ({ frames := 1, cells := 0, slots := 0, locals := 22 }) (va_Pc [.ref a_sp, .int p1] (q_N D ci A sa ((a_sp, .inr (6, [.ref a_g, .ref a_sp_first, .ref a_sp_many, .ref a_sp_corner, .int sp_cornerCount, .int sp_level, .int sp_row, .int sp_start, .int sp_place, .int sp_length, .int sp_cap])) :: (a_g, .inr (2, [.ref a_g_rowCuts, .ref a_g_columnCuts, .ref a_g_bandRows, .ref a_g_zoneColumns, .ref a_g_rows, .ref a_g_sheets])) :: (a_g_bandRows, .inl (ci 0, 5, .inl g_bandRows)) :: (a_g_zoneColumns, .inl (ci 0, 5, .inl g_zoneColumns)) :: Rw))) (q_R (some (.int r))) 0 0 A := by
  refine q_ofW (cc := cX6_piecesAt) (maxL := 2) (ret := (some .int)) [.ref a_sp, .int p1] (plainFor_of_name (by decide)) rfl (Nat.le_of_ble_eq_true rfl) ?_
  intro p e s m below meth c ls Q hQ hx hb hml hr hts hown hlocks hK hA hZ hP hD hS hl
  have hl : lv_has ls 2 [(0, .ref a_sp), (1, .int p1)] := hl
  have hown : s.vm.findClass RX6 = some m.cls := hown
  have hinX6 : ∀ w ∈ wsX60, w ∈ wsX6_piecesAt := fun _ h => List.mem_cons_of_mem _ (inWX60 _ h)
  have w_1 := hts (Cond.fieldLink RX6 40 "SheetNames$Spot" "cap" "Z") (List.mem_cons_of_mem _ t_w806)
  have w_2 := hts (Cond.fieldLink RX6 44 "SheetNames$Spot" "grid" "LSheetNames$Grid;") (List.mem_cons_of_mem _ t_w801)
  have w_3 := hts (Cond.fieldLink RX6 25 "SheetNames$Spot" "level" "I") (List.mem_cons_of_mem _ t_w802)
  unfold f_Spot_piecesAt at hf
  have hgo : ∀ (H : Heap) (locs : List Loc), H = s.heap → va_P D vwCl ((a_sp, .inr (6, [.ref a_g, .ref a_sp_first, .ref a_sp_many, .ref a_sp_corner, .int sp_cornerCount, .int sp_level, .int sp_row, .int sp_start, .int sp_place, .int sp_length, .int sp_cap])) :: (a_g, .inr (2, [.ref a_g_rowCuts, .ref a_g_columnCuts, .ref a_g_bandRows, .ref a_g_zoneColumns, .ref a_g_rows, .ref a_g_sheets])) :: (a_g_bandRows, .inl (ci 0, 5, .inl g_bandRows)) :: (a_g_zoneColumns, .inl (ci 0, 5, .inl g_zoneColumns)) :: Rw) H → va_S A s.heap H locs → W p l e ({ frames := 1, cells := 0, slots := 0, locals := 22 } : Room) s m ([.ref a_sp, .int p1] : List Value).toArray below meth c H locs 0 0 Q (F0 m 0 ls []) := by
    intro H locs hH hP hS
    subst hH
    refine lv_aload_n (pc := 0) hx hb dX6_piecesAt_0 rfl (lv_at hl 0 rfl) ?_
    refine va_get (pc := 1) (D := D) (ci := 6) (v := .int sp_cap) (C := RX6) (T := TX6) (N := 11) hx hb hts hinX6 hown hK hP 0 rfl rfl 10 (by decide) w_1 (fun _ h9 => h9) rfl dX6_piecesAt_1 ?_
    refine q_if_eq (pc := 4) (tgt := 11) hx hb dX6_piecesAt_4 (by decide) rfl hf (fun hf => ?_) (fun hf => ?_)
    · refine lv_aload_n (pc := 11) hx hb dX6_piecesAt_11 rfl (lv_at hl 0 rfl) ?_
      refine va_get (pc := 12) (D := D) (ci := 6) (v := .ref a_g) (C := RX6) (T := TX6) (N := 11) hx hb hts hinX6 hown hK hP 0 rfl rfl 0 (by decide) w_2 (fun _ h9 => h9) rfl dX6_piecesAt_12 ?_
      refine lv_aload_n (pc := 15) hx hb dX6_piecesAt_15 rfl (lv_at hl 0 rfl) ?_
      refine va_get (pc := 16) (D := D) (ci := 6) (v := .int sp_level) (C := RX6) (T := TX6) (N := 11) hx hb hts hinX6 hown hK hP 0 rfl rfl 5 (by decide) w_3 (fun _ h9 => h9) rfl dX6_piecesAt_16 ?_
      refine lv_iload_n (pc := 19) hx hb dX6_piecesAt_19 rfl (lv_at hl 1 rfl) ?_
      obtain ⟨v1, hm20, hf⟩ := q_b1_e hf
      refine q_cVr (pc := 20) (As := [.int sp_level, .int p1]) (rest := []) (v0 := (some (.int v1))) ⟨hx, hb, hml, hown, hts⟩ hK hA hZ hP hD hS hl.1 [1, 2] 4 rfl ⟨rfl, rfl, rfl⟩ (c_Grid_rowsIn l D ci A sa N (Rw) a_g a_g_rowCuts a_g_columnCuts a_g_bandRows a_g_zoneColumns a_g_rows a_g_sheets g_bandRows sp_level p1 v1 hm20) 1 rfl rfl (cwV 2 hts gX6_piecesAt_X2_rowsIn rfl rfl rfl (by decide +kernel) ⟨Nat.le_of_ble_eq_true rfl, Nat.le_of_ble_eq_true rfl⟩) rfl rfl (Nat.le_of_ble_eq_true rfl) dX6_piecesAt_20 ⟨Nat.zero_le _, Nat.zero_le _⟩ (fun locs hS => ?_)
      refine lv_aload_n (pc := 23) hx hb dX6_piecesAt_23 rfl (lv_at hl 0 rfl) ?_
      refine va_get (pc := 24) (D := D) (ci := 6) (v := .ref a_g) (C := RX6) (T := TX6) (N := 11) hx hb hts hinX6 hown hK hP 0 rfl rfl 0 (by decide) w_2 (fun _ h9 => h9) rfl dX6_piecesAt_24 ?_
      refine lv_aload_n (pc := 27) hx hb dX6_piecesAt_27 rfl (lv_at hl 0 rfl) ?_
      refine va_get (pc := 28) (D := D) (ci := 6) (v := .int sp_level) (C := RX6) (T := TX6) (N := 11) hx hb hts hinX6 hown hK hP 0 rfl rfl 5 (by decide) w_3 (fun _ h9 => h9) rfl dX6_piecesAt_28 ?_
      refine lv_iload_n (pc := 31) hx hb dX6_piecesAt_31 rfl (lv_at hl 1 rfl) ?_
      obtain ⟨v2, hm32, hf⟩ := q_b1_e hf
      refine q_cVr (pc := 32) (As := [.int sp_level, .int p1]) (rest := [.int v1]) (v0 := (some (.int v2))) ⟨hx, hb, hml, hown, hts⟩ hK hA hZ hP hD hS hl.1 [1, 3] 4 rfl ⟨rfl, rfl, rfl⟩ (c_Grid_columnsIn l D ci A sa N (Rw) a_g a_g_rowCuts a_g_columnCuts a_g_bandRows a_g_zoneColumns a_g_rows a_g_sheets g_zoneColumns sp_level p1 v2 hm32) 1 rfl rfl (cwV 2 hts gX6_piecesAt_X2_columnsIn rfl rfl rfl (by decide +kernel) ⟨Nat.le_of_ble_eq_true rfl, Nat.le_of_ble_eq_true rfl⟩) rfl rfl (Nat.le_of_ble_eq_true rfl) dX6_piecesAt_32 ⟨Nat.zero_le _, Nat.zero_le _⟩ (fun locs hS => ?_)
      refine lv_imul (pc := 35) hx hb dX6_piecesAt_35 ?_
      obtain rfl := Option.some.inj hf
      rw [hQ]
      exact q_iretr (pc := 36) hx hb hr hlocks rfl hS dX6_piecesAt_36
    · refine lv_iconst (pc := 7) (v := 1) hx hb dX6_piecesAt_7 (by decide) ?_
      refine lv_goto (pc := 8) (tgt := 36) hx hb dX6_piecesAt_8 (by decide) ?_
      obtain rfl := Option.some.inj hf
      rw [hQ]
      exact q_iretr (pc := 36) hx hb hr hlocks rfl hS dX6_piecesAt_36
  exact hgo _ _ rfl hP hS
/-! X6_put -/
set_option maxRecDepth 100000 in
set_option maxHeartbeats 4000000 in
theorem c_Spot_put (l : Launch) (D : va_G) (ci : Nat → ClassId) (A : Nat → Prop) (sa : Nat → Nat) (N : Nat) (Rw : va_W) (a_sp : Nat) (a_g : Nat) (a_sp_first : Nat) (a_sp_many : Nat) (a_sp_corner : Nat) (a_g_rowCuts : Nat) (a_g_columnCuts : Nat) (a_g_bandRows : Nat) (a_g_zoneColumns : Nat) (a_g_rows : Nat) (a_g_sheets : Nat) (sp_cornerCount : Int32) (sp_level : Int32) (sp_row : Int32) (sp_start : Int32) (sp_place : Int32) (sp_length : Int32) (sp_cap : Int32) (g_bandRows : Nat → Int32) (g_zoneColumns : Nat → Int32) (g_rows : Nat → Int32) (g_sheets : Nat → Int32) (p1 : Int32) (p2 : Int32) (o1 : Int32) (o2 : Int32) (o3 : Int32) (o4 : Int32) (o5 : Int32) (o6 : Int32) (hf : f_Spot_put N sp_level sp_row sp_start sp_place sp_length sp_cap g_bandRows g_zoneColumns g_rows g_sheets p1 p2 = some (o1, o2, o3, o4, o5, o6)) : Met l yX6_put wsX6_put ({ frames := 2, cells := 0, slots := 0, locals := 49 }) (va_Pc [.ref a_sp, .int p1, .int p2] (q_N D ci A sa ((a_sp, .inr (6, [.ref a_g, .ref a_sp_first, .ref a_sp_many, .ref a_sp_corner, .int sp_cornerCount, .int sp_level, .int sp_row, .int sp_start, .int sp_place, .int sp_length, .int sp_cap])) :: (a_g, .inr (2, [.ref a_g_rowCuts, .ref a_g_columnCuts, .ref a_g_bandRows, .ref a_g_zoneColumns, .ref a_g_rows, .ref a_g_sheets])) :: (a_g_bandRows, .inl (ci 0, 5, .inl g_bandRows)) :: (a_g_zoneColumns, .inl (ci 0, 5, .inl g_zoneColumns)) :: (a_g_rows, .inl (ci 0, 5, .inl g_rows)) :: (a_g_sheets, .inl (ci 0, 5, .inl g_sheets)) :: Rw))) (q_Q none (q_O D A ((a_sp, .inr (6, [.ref a_g, .ref a_sp_first, .ref a_sp_many, .ref a_sp_corner, .int sp_cornerCount, .int o1, .int o2, .int o3, .int o4, .int o5, .int o6])) :: (a_g, .inr (2, [.ref a_g_rowCuts, .ref a_g_columnCuts, .ref a_g_bandRows, .ref a_g_zoneColumns, .ref a_g_rows, .ref a_g_sheets])) :: (a_g_bandRows, .inl (ci 0, 5, .inl g_bandRows)) :: (a_g_zoneColumns, .inl (ci 0, 5, .inl g_zoneColumns)) :: (a_g_rows, .inl (ci 0, 5, .inl g_rows)) :: (a_g_sheets, .inl (ci 0, 5, .inl g_sheets)) :: Rw)) A) 0 0 A := by
  refine q_ofW (cc := cX6_put) (maxL := 3) (ret := none) [.ref a_sp, .int p1, .int p2] (plainFor_of_name (by decide)) rfl (Nat.le_of_ble_eq_true rfl) ?_
  intro p e s m below meth c ls Q hQ hx hb hml hr hts hown hlocks hK hA hZ hP hD hS hl
  have hl : lv_has ls 3 [(0, .ref a_sp), (1, .int p1), (2, .int p2)] := hl
  have hown : s.vm.findClass RX6 = some m.cls := hown
  have hinX6 : ∀ w ∈ wsX60, w ∈ wsX6_put := fun _ h => List.mem_cons_of_mem _ (inWX60 _ h)
  have w_1 := hts (Cond.fieldLink RX6 25 "SheetNames$Spot" "level" "I") (List.mem_cons_of_mem _ t_w802)
  have w_2 := hts (Cond.fieldLink RX6 44 "SheetNames$Spot" "grid" "LSheetNames$Grid;") (List.mem_cons_of_mem _ t_w801)
  have w_3 := hts (Cond.fieldLink RX6 28 "SheetNames$Spot" "row" "I") (List.mem_cons_of_mem _ t_w807)
  have w_4 := hts (Cond.fieldLink RX6 31 "SheetNames$Spot" "start" "I") (List.mem_cons_of_mem _ t_w821)
  have w_5 := hts (Cond.fieldLink RX6 37 "SheetNames$Spot" "length" "I") (List.mem_cons_of_mem _ t_w804)
  have w_6 := hts (Cond.fieldLink RX6 34 "SheetNames$Spot" "place" "I") (List.mem_cons_of_mem _ t_w803)
  have w_7 := hts (Cond.fieldLink RX6 40 "SheetNames$Spot" "cap" "Z") (List.mem_cons_of_mem _ t_w806)
  unfold f_Spot_put at hf
  have hgo : ∀ (H : Heap) (locs : List Loc), H = s.heap → va_P D vwCl ((a_sp, .inr (6, [.ref a_g, .ref a_sp_first, .ref a_sp_many, .ref a_sp_corner, .int sp_cornerCount, .int sp_level, .int sp_row, .int sp_start, .int sp_place, .int sp_length, .int sp_cap])) :: (a_g, .inr (2, [.ref a_g_rowCuts, .ref a_g_columnCuts, .ref a_g_bandRows, .ref a_g_zoneColumns, .ref a_g_rows, .ref a_g_sheets])) :: (a_g_bandRows, .inl (ci 0, 5, .inl g_bandRows)) :: (a_g_zoneColumns, .inl (ci 0, 5, .inl g_zoneColumns)) :: (a_g_rows, .inl (ci 0, 5, .inl g_rows)) :: (a_g_sheets, .inl (ci 0, 5, .inl g_sheets)) :: Rw) H → va_S A s.heap H locs → W p l e ({ frames := 2, cells := 0, slots := 0, locals := 49 } : Room) s m ([.ref a_sp, .int p1, .int p2] : List Value).toArray below meth c H locs 0 0 Q (F0 m 0 ls []) := by
    intro H locs hH hP hS
    refine lv_aload_n (pc := 0) hx hb dX6_put_0 rfl (lv_at hl 0 rfl) ?_
    refine lv_iload_n (pc := 1) hx hb dX6_put_1 rfl (lv_at hl 1 rfl) ?_
    refine va_put (pc := 2) (D := D) (ci := 6) (v := .int p1) (ty := .int) (C := RX6) (T := TX6) (N := 11) hx hb hts hinX6 tyX6 tyX6_ok nmX6 hown hK hP hD hS 0 rfl rfl 5 (by decide) w_1 (fun _ h9 => h9) rfl (by decide +kernel) rfl rfl (Nat.le_of_ble_eq_true rfl) dX6_put_2 (fun H locs hP hD hS => ?_)
    obtain ⟨hP, hD⟩ : va_PD D A ((a_sp, .inr (6, [.ref a_g, .ref a_sp_first, .ref a_sp_many, .ref a_sp_corner, .int sp_cornerCount, .int p1, .int sp_row, .int sp_start, .int sp_place, .int sp_length, .int sp_cap])) :: (a_g, .inr (2, [.ref a_g_rowCuts, .ref a_g_columnCuts, .ref a_g_bandRows, .ref a_g_zoneColumns, .ref a_g_rows, .ref a_g_sheets])) :: (a_g_bandRows, .inl (ci 0, 5, .inl g_bandRows)) :: (a_g_zoneColumns, .inl (ci 0, 5, .inl g_zoneColumns)) :: (a_g_rows, .inl (ci 0, 5, .inl g_rows)) :: (a_g_sheets, .inl (ci 0, 5, .inl g_sheets)) :: Rw) H := ⟨hP, hD⟩
    refine lv_aload_n (pc := 5) hx hb dX6_put_5 rfl (lv_at hl 0 rfl) ?_
    refine lv_aload_n (pc := 6) hx hb dX6_put_6 rfl (lv_at hl 0 rfl) ?_
    refine va_get (pc := 7) (D := D) (ci := 6) (v := .ref a_g) (C := RX6) (T := TX6) (N := 11) hx hb hts hinX6 hown hK hP 0 rfl rfl 0 (by decide) w_2 (fun _ h9 => h9) rfl dX6_put_7 ?_
    refine lv_aload_n (pc := 10) hx hb dX6_put_10 rfl (lv_at hl 0 rfl) ?_
    refine va_get (pc := 11) (D := D) (ci := 6) (v := .int p1) (C := RX6) (T := TX6) (N := 11) hx hb hts hinX6 hown hK hP 0 rfl rfl 5 (by decide) w_1 (fun _ h9 => h9) rfl dX6_put_11 ?_
    refine lv_iload_n (pc := 14) hx hb dX6_put_14 rfl (lv_at hl 2 rfl) ?_
    obtain ⟨v1, hm15, hf⟩ := q_b1_e hf
    refine q_cVr (pc := 15) (As := [.int p1, .int p2]) (rest := [.ref a_sp]) (v0 := (some (.int v1))) ⟨hx, hb, hml, hown, hts⟩ hK hA hZ hP hD hS hl.1 [1, 2, 3, 4, 5] 6 rfl ⟨rfl, rfl, rfl⟩ (c_Grid_rowOfKey l D ci A sa N (Rw) a_g a_g_rowCuts a_g_columnCuts a_g_bandRows a_g_zoneColumns a_g_rows a_g_sheets g_bandRows g_zoneColumns g_rows g_sheets p1 p2 v1 hm15) 1 rfl rfl (cwV 2 hts gX6_put_X2_rowOfKey rfl rfl rfl (by decide +kernel) ⟨Nat.le_of_ble_eq_true rfl, Nat.le_of_ble_eq_true rfl⟩) rfl rfl (Nat.le_of_ble_eq_true rfl) dX6_put_15 ⟨Nat.zero_le _, Nat.zero_le _⟩ (fun locs hS => ?_)
    refine va_put (pc := 18) (D := D) (ci := 6) (v := .int v1) (ty := .int) (C := RX6) (T := TX6) (N := 11) hx hb hts hinX6 tyX6 tyX6_ok nmX6 hown hK hP hD hS 0 rfl rfl 6 (by decide) w_3 (fun _ h9 => h9) rfl (by decide +kernel) rfl rfl (Nat.le_of_ble_eq_true rfl) dX6_put_18 (fun H locs hP hD hS => ?_)
    obtain ⟨hP, hD⟩ : va_PD D A ((a_sp, .inr (6, [.ref a_g, .ref a_sp_first, .ref a_sp_many, .ref a_sp_corner, .int sp_cornerCount, .int p1, .int v1, .int sp_start, .int sp_place, .int sp_length, .int sp_cap])) :: (a_g, .inr (2, [.ref a_g_rowCuts, .ref a_g_columnCuts, .ref a_g_bandRows, .ref a_g_zoneColumns, .ref a_g_rows, .ref a_g_sheets])) :: (a_g_bandRows, .inl (ci 0, 5, .inl g_bandRows)) :: (a_g_zoneColumns, .inl (ci 0, 5, .inl g_zoneColumns)) :: (a_g_rows, .inl (ci 0, 5, .inl g_rows)) :: (a_g_sheets, .inl (ci 0, 5, .inl g_sheets)) :: Rw) H := ⟨hP, hD⟩
    refine lv_aload_n (pc := 21) hx hb dX6_put_21 rfl (lv_at hl 0 rfl) ?_
    refine lv_aload_n (pc := 22) hx hb dX6_put_22 rfl (lv_at hl 0 rfl) ?_
    refine va_get (pc := 23) (D := D) (ci := 6) (v := .ref a_g) (C := RX6) (T := TX6) (N := 11) hx hb hts hinX6 hown hK hP 0 rfl rfl 0 (by decide) w_2 (fun _ h9 => h9) rfl dX6_put_23 ?_
    refine lv_aload_n (pc := 26) hx hb dX6_put_26 rfl (lv_at hl 0 rfl) ?_
    refine va_get (pc := 27) (D := D) (ci := 6) (v := .int p1) (C := RX6) (T := TX6) (N := 11) hx hb hts hinX6 hown hK hP 0 rfl rfl 5 (by decide) w_1 (fun _ h9 => h9) rfl dX6_put_27 ?_
    refine lv_aload_n (pc := 30) hx hb dX6_put_30 rfl (lv_at hl 0 rfl) ?_
    refine va_get (pc := 31) (D := D) (ci := 6) (v := .int v1) (C := RX6) (T := TX6) (N := 11) hx hb hts hinX6 hown hK hP 0 rfl rfl 6 (by decide) w_3 (fun _ h9 => h9) rfl dX6_put_31 ?_
    obtain ⟨v2, hm34, hf⟩ := q_b1_e hf
    refine q_cVr (pc := 34) (As := [.int p1, .int v1]) (rest := [.ref a_sp]) (v0 := (some (.int v2))) ⟨hx, hb, hml, hown, hts⟩ hK hA hZ hP hD hS hl.1 [1, 2, 3, 4, 5] 6 rfl ⟨rfl, rfl, rfl⟩ (c_Grid_rowStart l D ci A sa N (Rw) a_g a_g_rowCuts a_g_columnCuts a_g_bandRows a_g_zoneColumns a_g_rows a_g_sheets g_bandRows g_zoneColumns g_rows g_sheets p1 v1 v2 hm34) 1 rfl rfl (cwV 2 hts gX6_put_X2_rowStart rfl rfl rfl (by decide +kernel) ⟨Nat.le_of_ble_eq_true rfl, Nat.le_of_ble_eq_true rfl⟩) rfl rfl (Nat.le_of_ble_eq_true rfl) dX6_put_34 ⟨Nat.zero_le _, Nat.zero_le _⟩ (fun locs hS => ?_)
    refine va_put (pc := 37) (D := D) (ci := 6) (v := .int v2) (ty := .int) (C := RX6) (T := TX6) (N := 11) hx hb hts hinX6 tyX6 tyX6_ok nmX6 hown hK hP hD hS 0 rfl rfl 7 (by decide) w_4 (fun _ h9 => h9) rfl (by decide +kernel) rfl rfl (Nat.le_of_ble_eq_true rfl) dX6_put_37 (fun H locs hP hD hS => ?_)
    obtain ⟨hP, hD⟩ : va_PD D A ((a_sp, .inr (6, [.ref a_g, .ref a_sp_first, .ref a_sp_many, .ref a_sp_corner, .int sp_cornerCount, .int p1, .int v1, .int v2, .int sp_place, .int sp_length, .int sp_cap])) :: (a_g, .inr (2, [.ref a_g_rowCuts, .ref a_g_columnCuts, .ref a_g_bandRows, .ref a_g_zoneColumns, .ref a_g_rows, .ref a_g_sheets])) :: (a_g_bandRows, .inl (ci 0, 5, .inl g_bandRows)) :: (a_g_zoneColumns, .inl (ci 0, 5, .inl g_zoneColumns)) :: (a_g_rows, .inl (ci 0, 5, .inl g_rows)) :: (a_g_sheets, .inl (ci 0, 5, .inl g_sheets)) :: Rw) H := ⟨hP, hD⟩
    refine lv_aload_n (pc := 40) hx hb dX6_put_40 rfl (lv_at hl 0 rfl) ?_
    refine lv_aload_n (pc := 41) hx hb dX6_put_41 rfl (lv_at hl 0 rfl) ?_
    refine va_get (pc := 42) (D := D) (ci := 6) (v := .ref a_g) (C := RX6) (T := TX6) (N := 11) hx hb hts hinX6 hown hK hP 0 rfl rfl 0 (by decide) w_2 (fun _ h9 => h9) rfl dX6_put_42 ?_
    refine lv_aload_n (pc := 45) hx hb dX6_put_45 rfl (lv_at hl 0 rfl) ?_
    refine va_get (pc := 46) (D := D) (ci := 6) (v := .int p1) (C := RX6) (T := TX6) (N := 11) hx hb hts hinX6 hown hK hP 0 rfl rfl 5 (by decide) w_1 (fun _ h9 => h9) rfl dX6_put_46 ?_
    refine lv_aload_n (pc := 49) hx hb dX6_put_49 rfl (lv_at hl 0 rfl) ?_
    refine va_get (pc := 50) (D := D) (ci := 6) (v := .int v1) (C := RX6) (T := TX6) (N := 11) hx hb hts hinX6 hown hK hP 0 rfl rfl 6 (by decide) w_3 (fun _ h9 => h9) rfl dX6_put_50 ?_
    obtain ⟨v3, hm53, hf⟩ := q_b1_e hf
    refine q_cVr (pc := 53) (As := [.int p1, .int v1]) (rest := [.ref a_sp]) (v0 := (some (.int v3))) ⟨hx, hb, hml, hown, hts⟩ hK hA hZ hP hD hS hl.1 [1, 2, 3, 4] 6 rfl ⟨rfl, rfl, rfl⟩ (c_Grid_rowLength l D ci A sa N (Rw) a_g a_g_rowCuts a_g_columnCuts a_g_bandRows a_g_zoneColumns a_g_rows a_g_sheets g_bandRows g_zoneColumns g_rows p1 v1 v3 hm53) 1 rfl rfl (cwV 2 hts gX6_put_X2_rowLength rfl rfl rfl (by decide +kernel) ⟨Nat.le_of_ble_eq_true rfl, Nat.le_of_ble_eq_true rfl⟩) rfl rfl (Nat.le_of_ble_eq_true rfl) dX6_put_53 ⟨Nat.zero_le _, Nat.zero_le _⟩ (fun locs hS => ?_)
    refine va_put (pc := 56) (D := D) (ci := 6) (v := .int v3) (ty := .int) (C := RX6) (T := TX6) (N := 11) hx hb hts hinX6 tyX6 tyX6_ok nmX6 hown hK hP hD hS 0 rfl rfl 9 (by decide) w_5 (fun _ h9 => h9) rfl (by decide +kernel) rfl rfl (Nat.le_of_ble_eq_true rfl) dX6_put_56 (fun H locs hP hD hS => ?_)
    obtain ⟨hP, hD⟩ : va_PD D A ((a_sp, .inr (6, [.ref a_g, .ref a_sp_first, .ref a_sp_many, .ref a_sp_corner, .int sp_cornerCount, .int p1, .int v1, .int v2, .int sp_place, .int v3, .int sp_cap])) :: (a_g, .inr (2, [.ref a_g_rowCuts, .ref a_g_columnCuts, .ref a_g_bandRows, .ref a_g_zoneColumns, .ref a_g_rows, .ref a_g_sheets])) :: (a_g_bandRows, .inl (ci 0, 5, .inl g_bandRows)) :: (a_g_zoneColumns, .inl (ci 0, 5, .inl g_zoneColumns)) :: (a_g_rows, .inl (ci 0, 5, .inl g_rows)) :: (a_g_sheets, .inl (ci 0, 5, .inl g_sheets)) :: Rw) H := ⟨hP, hD⟩
    refine lv_aload_n (pc := 59) hx hb dX6_put_59 rfl (lv_at hl 0 rfl) ?_
    refine lv_iload_n (pc := 60) hx hb dX6_put_60 rfl (lv_at hl 2 rfl) ?_
    refine lv_aload_n (pc := 61) hx hb dX6_put_61 rfl (lv_at hl 0 rfl) ?_
    refine va_get (pc := 62) (D := D) (ci := 6) (v := .int v2) (C := RX6) (T := TX6) (N := 11) hx hb hts hinX6 hown hK hP 0 rfl rfl 7 (by decide) w_4 (fun _ h9 => h9) rfl dX6_put_62 ?_
    refine lv_isub (pc := 65) hx hb dX6_put_65 ?_
    obtain ⟨v4, ev4, hf⟩ := q_nm_e hf
    refine q_topi ev4 ?_
    refine va_put (pc := 66) (D := D) (ci := 6) (v := .int v4) (ty := .int) (C := RX6) (T := TX6) (N := 11) hx hb hts hinX6 tyX6 tyX6_ok nmX6 hown hK hP hD hS 0 rfl rfl 8 (by decide) w_6 (fun _ h9 => h9) rfl (by decide +kernel) rfl rfl (Nat.le_of_ble_eq_true rfl) dX6_put_66 (fun H locs hP hD hS => ?_)
    obtain ⟨hP, hD⟩ : va_PD D A ((a_sp, .inr (6, [.ref a_g, .ref a_sp_first, .ref a_sp_many, .ref a_sp_corner, .int sp_cornerCount, .int p1, .int v1, .int v2, .int v4, .int v3, .int sp_cap])) :: (a_g, .inr (2, [.ref a_g_rowCuts, .ref a_g_columnCuts, .ref a_g_bandRows, .ref a_g_zoneColumns, .ref a_g_rows, .ref a_g_sheets])) :: (a_g_bandRows, .inl (ci 0, 5, .inl g_bandRows)) :: (a_g_zoneColumns, .inl (ci 0, 5, .inl g_zoneColumns)) :: (a_g_rows, .inl (ci 0, 5, .inl g_rows)) :: (a_g_sheets, .inl (ci 0, 5, .inl g_sheets)) :: Rw) H := ⟨hP, hD⟩
    refine lv_aload_n (pc := 69) hx hb dX6_put_69 rfl (lv_at hl 0 rfl) ?_
    refine lv_aload_n (pc := 70) hx hb dX6_put_70 rfl (lv_at hl 0 rfl) ?_
    refine va_get (pc := 71) (D := D) (ci := 6) (v := .ref a_g) (C := RX6) (T := TX6) (N := 11) hx hb hts hinX6 hown hK hP 0 rfl rfl 0 (by decide) w_2 (fun _ h9 => h9) rfl dX6_put_71 ?_
    refine lv_aload_n (pc := 74) hx hb dX6_put_74 rfl (lv_at hl 0 rfl) ?_
    refine va_get (pc := 75) (D := D) (ci := 6) (v := .int p1) (C := RX6) (T := TX6) (N := 11) hx hb hts hinX6 hown hK hP 0 rfl rfl 5 (by decide) w_1 (fun _ h9 => h9) rfl dX6_put_75 ?_
    refine lv_aload_n (pc := 78) hx hb dX6_put_78 rfl (lv_at hl 0 rfl) ?_
    refine va_get (pc := 79) (D := D) (ci := 6) (v := .int v1) (C := RX6) (T := TX6) (N := 11) hx hb hts hinX6 hown hK hP 0 rfl rfl 6 (by decide) w_3 (fun _ h9 => h9) rfl dX6_put_79 ?_
    obtain ⟨v5, hm82, hf⟩ := q_b1_e hf
    refine q_cVr (pc := 82) (As := [.int p1, .int v1]) (rest := [.ref a_sp]) (v0 := (some (.int v5))) ⟨hx, hb, hml, hown, hts⟩ hK hA hZ hP hD hS hl.1 [1, 4] 6 rfl ⟨rfl, rfl, rfl⟩ (c_Grid_isCapRow l D ci A sa N (Rw) a_g a_g_rowCuts a_g_columnCuts a_g_bandRows a_g_zoneColumns a_g_rows a_g_sheets g_rows p1 v1 v5 hm82) 1 rfl rfl (cwV 2 hts gX6_put_X2_isCapRow rfl rfl rfl (by decide +kernel) ⟨Nat.le_of_ble_eq_true rfl, Nat.le_of_ble_eq_true rfl⟩) rfl rfl (Nat.le_of_ble_eq_true rfl) dX6_put_82 ⟨Nat.zero_le _, Nat.zero_le _⟩ (fun locs hS => ?_)
    obtain ⟨hn9, hf9, hf⟩ := q_bo_e hf
    refine va_put (pc := 85) (D := D) (ci := 6) (v := .int v5) (ty := .boolean) (C := RX6) (T := TX6) (N := 11) hx hb hts hinX6 tyX6 tyX6_ok nmX6 hown hK hP hD hS 0 rfl rfl 10 (by decide) w_7 (fun _ h9 => h9) rfl (by decide +kernel) hn9 hf9 (Nat.le_of_ble_eq_true rfl) dX6_put_85 (fun H locs hP hD hS => ?_)
    obtain ⟨hP, hD⟩ : va_PD D A ((a_sp, .inr (6, [.ref a_g, .ref a_sp_first, .ref a_sp_many, .ref a_sp_corner, .int sp_cornerCount, .int p1, .int v1, .int v2, .int v4, .int v3, .int v5])) :: (a_g, .inr (2, [.ref a_g_rowCuts, .ref a_g_columnCuts, .ref a_g_bandRows, .ref a_g_zoneColumns, .ref a_g_rows, .ref a_g_sheets])) :: (a_g_bandRows, .inl (ci 0, 5, .inl g_bandRows)) :: (a_g_zoneColumns, .inl (ci 0, 5, .inl g_zoneColumns)) :: (a_g_rows, .inl (ci 0, 5, .inl g_rows)) :: (a_g_sheets, .inl (ci 0, 5, .inl g_sheets)) :: Rw) H := ⟨hP, hD⟩
    obtain ⟨e90, e91, e92, e93, e94, e95⟩ := q_inj6 (Option.some.inj hf)
    rw [hQ, ← e90, ← e91, ← e92, ← e93, ← e94, ← e95]
    exact q_vret (pc := 88) hx hb hr hlocks hP hD hS dX6_put_88
  exact hgo _ _ rfl hP hS
end
section
/-! X9_farthestKey -/
set_option maxRecDepth 100000 in
set_option maxHeartbeats 4000000 in
theorem c_Walk_farthestKey (l : Launch) (D : va_G) (ci : Nat → ClassId) (A : Nat → Prop) (sa : Nat → Nat) (N : Nat) (Rw : va_W) (a_wk : Nat) (a_ws : Nat) (a_wk_steps : Nat) (a_wk_reached : Nat) (n_wk_steps : Nat) (wk_many : Int32) (wk_steps : Nat → Int32) (r : Int32) (hf : f_Walk_farthestKey N n_wk_steps wk_steps wk_many = some r) : Met l yX9_farthestKey wsX9_farthestKey ({ frames := 0, cells := 0, slots := 0, locals := 0 }) (va_Pc [.ref a_wk] (q_N D ci A sa ((a_wk, .inr (9, [.ref a_ws, .ref a_wk_steps, .ref a_wk_reached, .int wk_many])) :: (a_wk_steps, .inl (ci 0, n_wk_steps, .inl wk_steps)) :: Rw))) (q_R (some (.int r))) 0 0 A := by
  refine q_ofW (cc := cX9_farthestKey) (maxL := 3) (ret := (some .int)) [.ref a_wk] (plainFor_of_name (by decide)) rfl (Nat.le_of_ble_eq_true rfl) ?_
  intro p e s m below meth c ls Q hQ hx hb hml hr hts hown hlocks hK hA hZ hP hD hS hl
  have hl : lv_has ls 3 [(0, .ref a_wk)] := hl
  have hown : s.vm.findClass RX9 = some m.cls := hown
  have hinX9 : ∀ w ∈ wsX90, w ∈ wsX9_farthestKey := fun _ h => List.mem_cons_of_mem _ (inWX90 _ h)
  have w_1 := hts (Cond.fieldLink RX9 18 "SheetNames$Walk" "many" "I") (List.mem_cons_of_mem _ t_w823)
  have w_2 := hts (Cond.fieldLink RX9 9 "SheetNames$Walk" "steps" "[I") (List.mem_cons_of_mem _ t_w824)
  unfold f_Walk_farthestKey at hf
  have hgo : ∀ (H : Heap) (locs : List Loc), H = s.heap → va_P D vwCl ((a_wk, .inr (9, [.ref a_ws, .ref a_wk_steps, .ref a_wk_reached, .int wk_many])) :: (a_wk_steps, .inl (ci 0, n_wk_steps, .inl wk_steps)) :: Rw) H → va_S A s.heap H locs → W p l e ({ frames := 0, cells := 0, slots := 0, locals := 0 } : Room) s m ([.ref a_wk] : List Value).toArray below meth c H locs 0 0 Q (F0 m 0 ls []) := by
    intro H locs hH hP hS
    subst hH
    refine lv_iconst (pc := 0) (v := 0) hx hb dX9_farthestKey_0 (by decide) ?_
    obtain ⟨v1, ev1, hf⟩ := q_nm_e hf
    refine q_topi ev1 ?_
    refine lv_istore_n (pc := 1) (lv' := [(1, .int v1), (0, .ref a_wk)]) hx hb dX9_farthestKey_1 rfl hl (by decide) rfl (fun ls hl => ?_)
    refine lv_iconst (pc := 2) (v := 1) hx hb dX9_farthestKey_2 (by decide) ?_
    obtain ⟨v2, ev2, hf⟩ := q_nm_e hf
    refine q_topi ev2 ?_
    refine lv_istore_n (pc := 3) (lv' := [(2, .int v2), (1, .int v1), (0, .ref a_wk)]) hx hb dX9_farthestKey_3 rfl hl (by decide) rfl (fun ls hl => ?_)
    obtain ⟨v5, hm4, hf⟩ := q_b1_e hf
    have JE4 : ∀ (H : Heap) (locs : List Loc) (ls : Array Slot), H = s.heap → va_S A s.heap H locs → lv_has ls 3 [(1, .int v5)] → W p l e ({ frames := 0, cells := 0, slots := 0, locals := 0 } : Room) s m ([.ref a_wk] : List Value).toArray below meth c H locs 0 0 Q (F0 m 35 ls []) := by
      intro H locs ls hHs hS hl
      subst hHs
      refine lv_iload_n (pc := 35) hx hb dX9_farthestKey_35 rfl (lv_at hl 0 rfl) ?_
      obtain rfl := Option.some.inj hf
      rw [hQ]
      exact q_iretr (pc := 36) hx hb hr hlocks rfl hS dX9_farthestKey_36
    have LP4 : ∀ (n4 : Nat) (v3 : Int32) (v4 : Int32) (H : Heap) (locs : List Loc) (ls : Array Slot), f_Walk_farthestKey_L4 n_wk_steps wk_many wk_steps n4 v3 v4 = some v5 → H = s.heap → va_S A s.heap H locs → lv_has ls 3 [(0, .ref a_wk), (1, .int v3), (2, .int v4)] → W p l e ({ frames := 0, cells := 0, slots := 0, locals := 0 } : Room) s m ([.ref a_wk] : List Value).toArray below meth c H locs 0 0 Q (F0 m 4 ls []) := by
      intro n4
      induction n4 with
      | zero => intro v3 v4 H locs ls hf; rw [f_Walk_farthestKey_L4] at hf; cases hf
      | succ n4 ih4 =>
        intro v3 v4 H locs ls hf hHs hS hl
        subst hHs
        rw [f_Walk_farthestKey_L4] at hf
        refine lv_iload_n (pc := 4) hx hb dX9_farthestKey_4 rfl (lv_at hl 2 rfl) ?_
        refine lv_aload_n (pc := 5) hx hb dX9_farthestKey_5 rfl (lv_at hl 0 rfl) ?_
        refine va_get (pc := 6) (D := D) (ci := 9) (v := .int wk_many) (C := RX9) (T := TX9) (N := 4) hx hb hts hinX9 hown hK hP 0 rfl rfl 3 (by decide) w_1 (fun _ h9 => h9) rfl dX9_farthestKey_6 ?_
        refine q_icmp_ge (pc := 9) (tgt := 35) hx hb dX9_farthestKey_9 (by decide) rfl hf (fun hf => ?_) (fun hf => ?_)
        · obtain rfl := Option.some.inj hf
          exact JE4 _ _ _ rfl hS (lv_sub hl [1] rfl)
        · refine lv_aload_n (pc := 12) hx hb dX9_farthestKey_12 rfl (lv_at hl 0 rfl) ?_
          refine va_get (pc := 13) (D := D) (ci := 9) (v := .ref a_wk_steps) (C := RX9) (T := TX9) (N := 4) hx hb hts hinX9 hown hK hP 0 rfl rfl 1 (by decide) w_2 (fun _ h9 => h9) rfl dX9_farthestKey_13 ?_
          refine lv_iload_n (pc := 16) hx hb dX9_farthestKey_16 rfl (lv_at hl 2 rfl) ?_
          refine q_iald (pc := 17) hx hb hK hP 1 0 hf rfl rfl dX9_farthestKey_17 (fun v6 hf => ?_)
          refine lv_aload_n (pc := 18) hx hb dX9_farthestKey_18 rfl (lv_at hl 0 rfl) ?_
          refine va_get (pc := 19) (D := D) (ci := 9) (v := .ref a_wk_steps) (C := RX9) (T := TX9) (N := 4) hx hb hts hinX9 hown hK hP 0 rfl rfl 1 (by decide) w_2 (fun _ h9 => h9) rfl dX9_farthestKey_19 ?_
          refine lv_iload_n (pc := 22) hx hb dX9_farthestKey_22 rfl (lv_at hl 1 rfl) ?_
          refine q_iald (pc := 23) hx hb hK hP 1 0 hf rfl rfl dX9_farthestKey_23 (fun v7 hf => ?_)
          obtain ⟨k29, ek29, hf⟩ := q_j1_e hf
          have J29 : ∀ (v8 : Int32) (H : Heap) (locs : List Loc) (ls : Array Slot), k29 v8 = some v5 → H = s.heap → va_S A s.heap H locs → lv_has ls 3 [(0, .ref a_wk), (1, .int v8), (2, .int v4)] → W p l e ({ frames := 0, cells := 0, slots := 0, locals := 0 } : Room) s m ([.ref a_wk] : List Value).toArray below meth c H locs 0 0 Q (F0 m 29 ls []) := by
            intro v8 H locs ls hf hHs hS hl
            subst hHs
            have hf := (ek29 v8).symm.trans hf
            obtain ⟨v9, ev9, hf⟩ := q_nm_e hf
            refine lv_iinc (pc := 29) (v := v9) (lv' := [(2, .int v9), (0, .ref a_wk), (1, .int v8)]) hx hb dX9_farthestKey_29 hl (k := 2) rfl (by rw [ev9]; rfl) (by decide) rfl (fun ls hl => ?_)
            refine lv_goto (pc := 32) (tgt := 4) hx hb dX9_farthestKey_32 (by decide) ?_
            exact ih4 v8 v9 _ _ _ hf rfl hS (lv_sub hl [1, 2, 0] rfl)
          refine q_icmp_le (pc := 24) (tgt := 29) hx hb dX9_farthestKey_24 (by decide) rfl hf (fun hf => ?_) (fun hf => ?_)
          · exact J29 v3 _ _ _ hf rfl hS (lv_sub hl [0, 1, 2] rfl)
          · refine lv_iload_n (pc := 27) hx hb dX9_farthestKey_27 rfl (lv_at hl 2 rfl) ?_
            refine lv_istore_n (pc := 28) (lv' := [(1, .int v4), (0, .ref a_wk), (2, .int v4)]) hx hb dX9_farthestKey_28 rfl hl (by decide) rfl (fun ls hl => ?_)
            exact J29 v4 _ _ _ hf rfl hS (lv_sub hl [1, 0, 2] rfl)
    exact LP4 N v1 v2 _ _ _ hm4 rfl hS (lv_sub hl [2, 1, 0] rfl)
  exact hgo _ _ rfl hP hS
/-! X9_makeRoom -/
set_option maxRecDepth 100000 in
set_option maxHeartbeats 4000000 in
theorem c_Walk_makeRoom (l : Launch) (D : va_G) (ci : Nat → ClassId) (A : Nat → Prop) (sa : Nat → Nat) (N : Nat) (Rw : va_W) (a_wk : Nat) (a_ws : Nat) (a_wk_steps : Nat) (a_wk_reached : Nat) (n_wk_steps : Nat) (wk_many : Int32) (wk_steps : Nat → Int32) (p1 : Int32) (o1 : Nat → Int32) (o2 : Int32) (hf : f_Walk_makeRoom N n_wk_steps wk_steps wk_many p1 = some (o1, o2)) : Met l yX9_makeRoom wsX9_makeRoom ({ frames := 0, cells := 0, slots := 0, locals := 0 }) (va_Pc [.ref a_wk, .int p1] (q_N D ci A sa ((a_wk, .inr (9, [.ref a_ws, .ref a_wk_steps, .ref a_wk_reached, .int wk_many])) :: (a_wk_steps, .inl (ci 0, n_wk_steps, .inl wk_steps)) :: Rw))) (q_Q none (q_O D A ((a_wk, .inr (9, [.ref a_ws, .ref a_wk_steps, .ref a_wk_reached, .int o2])) :: (a_wk_steps, .inl (ci 0, n_wk_steps, .inl o1)) :: Rw)) A) 0 0 A := by
  refine q_ofW (cc := cX9_makeRoom) (maxL := 3) (ret := none) [.ref a_wk, .int p1] (plainFor_of_name (by decide)) rfl (Nat.le_of_ble_eq_true rfl) ?_
  intro p e s m below meth c ls Q hQ hx hb hml hr hts hown hlocks hK hA hZ hP hD hS hl
  have hl : lv_has ls 3 [(0, .ref a_wk), (1, .int p1)] := hl
  have hown : s.vm.findClass RX9 = some m.cls := hown
  have hinX9 : ∀ w ∈ wsX90, w ∈ wsX9_makeRoom := fun _ h => List.mem_cons_of_mem _ (inWX90 _ h)
  have w_1 := hts (Cond.fieldLink RX9 18 "SheetNames$Walk" "many" "I") (List.mem_cons_of_mem _ t_w823)
  have w_2 := hts (Cond.fieldLink RX9 9 "SheetNames$Walk" "steps" "[I") (List.mem_cons_of_mem _ t_w824)
  unfold f_Walk_makeRoom at hf
  have hgo : ∀ (H : Heap) (locs : List Loc), H = s.heap → va_P D vwCl ((a_wk, .inr (9, [.ref a_ws, .ref a_wk_steps, .ref a_wk_reached, .int wk_many])) :: (a_wk_steps, .inl (ci 0, n_wk_steps, .inl wk_steps)) :: Rw) H → va_S A s.heap H locs → W p l e ({ frames := 0, cells := 0, slots := 0, locals := 0 } : Room) s m ([.ref a_wk, .int p1] : List Value).toArray below meth c H locs 0 0 Q (F0 m 0 ls []) := by
    intro H locs hH hP hS
    refine lv_aload_n (pc := 0) hx hb dX9_makeRoom_0 rfl (lv_at hl 0 rfl) ?_
    refine lv_iload_n (pc := 1) hx hb dX9_makeRoom_1 rfl (lv_at hl 1 rfl) ?_
    refine va_put (pc := 2) (D := D) (ci := 9) (v := .int p1) (ty := .int) (C := RX9) (T := TX9) (N := 4) hx hb hts hinX9 tyX9 tyX9_ok nmX9 hown hK hP hD hS 0 rfl rfl 3 (by decide) w_1 (fun _ h9 => h9) rfl (by decide +kernel) rfl rfl (Nat.le_of_ble_eq_true rfl) dX9_makeRoom_2 (fun H locs hP hD hS => ?_)
    obtain ⟨hP, hD⟩ : va_PD D A ((a_wk, .inr (9, [.ref a_ws, .ref a_wk_steps, .ref a_wk_reached, .int p1])) :: (a_wk_steps, .inl (ci 0, n_wk_steps, .inl wk_steps)) :: Rw) H := ⟨hP, hD⟩
    refine lv_aload_n (pc := 5) hx hb dX9_makeRoom_5 rfl (lv_at hl 0 rfl) ?_
    refine va_get (pc := 6) (D := D) (ci := 9) (v := .ref a_wk_steps) (C := RX9) (T := TX9) (N := 4) hx hb hts hinX9 hown hK hP 0 rfl rfl 1 (by decide) w_2 (fun _ h9 => h9) rfl dX9_makeRoom_6 ?_
    refine va_alen (pc := 9) (v := (nI n_wk_steps)) hx hb hK hP 1 0 rfl rfl rfl dX9_makeRoom_9 ?_
    refine lv_iload_n (pc := 10) hx hb dX9_makeRoom_10 rfl (lv_at hl 1 rfl) ?_
    refine q_icmp_ge (pc := 11) (tgt := 28) hx hb dX9_makeRoom_11 (by decide) rfl hf (fun hf => ?_) (fun hf => ?_)
    · refine lv_iconst (pc := 28) (v := 0) hx hb dX9_makeRoom_28 (by decide) ?_
      obtain ⟨v1, ev1, hf⟩ := q_nm_e hf
      refine q_topi ev1 ?_
      refine lv_istore_n (pc := 29) (lv' := [(2, .int v1), (0, .ref a_wk), (1, .int p1)]) hx hb dX9_makeRoom_29 rfl hl (by decide) rfl (fun ls hl => ?_)
      obtain ⟨f4, hm30, hf⟩ := q_b1_e hf
      have JE30 : ∀ (H : Heap) (locs : List Loc) (ls : Array Slot), va_P D vwCl ((a_wk, .inr (9, [.ref a_ws, .ref a_wk_steps, .ref a_wk_reached, .int p1])) :: (a_wk_steps, .inl (ci 0, n_wk_steps, .inl f4)) :: Rw) H → va_D A ((a_wk, .inr (9, [.ref a_ws, .ref a_wk_steps, .ref a_wk_reached, .int p1])) :: (a_wk_steps, .inl (ci 0, n_wk_steps, .inl f4)) :: Rw) → va_S A s.heap H locs → lv_has ls 3 [] → W p l e ({ frames := 0, cells := 0, slots := 0, locals := 0 } : Room) s m ([.ref a_wk, .int p1] : List Value).toArray below meth c H locs 0 0 Q (F0 m 48 ls []) := by
        intro H locs ls hP hD hS hl
        obtain ⟨rfl, rfl⟩ := q_inj2 (Option.some.inj hf)
        rw [hQ]
        exact q_vret (pc := 48) hx hb hr hlocks hP hD hS dX9_makeRoom_48
      have LP30 : ∀ (n30 : Nat) (v2 : Int32) (f3 : Nat → Int32) (H : Heap) (locs : List Loc) (ls : Array Slot), f_Walk_makeRoom_L30 n_wk_steps p1 n30 v2 f3 = some f4 → va_P D vwCl ((a_wk, .inr (9, [.ref a_ws, .ref a_wk_steps, .ref a_wk_reached, .int p1])) :: (a_wk_steps, .inl (ci 0, n_wk_steps, .inl f3)) :: Rw) H → va_D A ((a_wk, .inr (9, [.ref a_ws, .ref a_wk_steps, .ref a_wk_reached, .int p1])) :: (a_wk_steps, .inl (ci 0, n_wk_steps, .inl f3)) :: Rw) → va_S A s.heap H locs → lv_has ls 3 [(0, .ref a_wk), (1, .int p1), (2, .int v2)] → W p l e ({ frames := 0, cells := 0, slots := 0, locals := 0 } : Room) s m ([.ref a_wk, .int p1] : List Value).toArray below meth c H locs 0 0 Q (F0 m 30 ls []) := by
        intro n30
        induction n30 with
        | zero => intro v2 f3 H locs ls hf; rw [f_Walk_makeRoom_L30] at hf; cases hf
        | succ n30 ih30 =>
          intro v2 f3 H locs ls hf hP hD hS hl
          rw [f_Walk_makeRoom_L30] at hf
          refine lv_iload_n (pc := 30) hx hb dX9_makeRoom_30 rfl (lv_at hl 2 rfl) ?_
          refine lv_iload_n (pc := 31) hx hb dX9_makeRoom_31 rfl (lv_at hl 1 rfl) ?_
          refine q_icmp_ge (pc := 32) (tgt := 48) hx hb dX9_makeRoom_32 (by decide) rfl hf (fun hf => ?_) (fun hf => ?_)
          · obtain rfl := Option.some.inj hf
            exact JE30 _ _ _ hP hD hS (lv_sub hl [] rfl)
          · refine lv_aload_n (pc := 35) hx hb dX9_makeRoom_35 rfl (lv_at hl 0 rfl) ?_
            refine va_get (pc := 36) (D := D) (ci := 9) (v := .ref a_wk_steps) (C := RX9) (T := TX9) (N := 4) hx hb hts hinX9 hown hK hP 0 rfl rfl 1 (by decide) w_2 (fun _ h9 => h9) rfl dX9_makeRoom_36 ?_
            refine lv_iload_n (pc := 39) hx hb dX9_makeRoom_39 rfl (lv_at hl 2 rfl) ?_
            refine lv_iconst (pc := 40) (v := (-1)) hx hb dX9_makeRoom_40 (by decide) ?_
            refine q_iast (pc := 41) hx hb hK hP hD hS 1 0 hf rfl rfl dX9_makeRoom_41 (fun f5 H locs hf hP hD hS => ?_)
            obtain ⟨hP, hD⟩ : va_PD D A ((a_wk, .inr (9, [.ref a_ws, .ref a_wk_steps, .ref a_wk_reached, .int p1])) :: (a_wk_steps, .inl (ci 0, n_wk_steps, .inl f5)) :: Rw) H := ⟨hP, hD⟩
            obtain ⟨v6, ev6, hf⟩ := q_nm_e hf
            refine lv_iinc (pc := 42) (v := v6) (lv' := [(2, .int v6), (0, .ref a_wk), (1, .int p1)]) hx hb dX9_makeRoom_42 hl (k := 2) rfl (by rw [ev6]; rfl) (by decide) rfl (fun ls hl => ?_)
            refine lv_goto (pc := 45) (tgt := 30) hx hb dX9_makeRoom_45 (by decide) ?_
            exact ih30 v6 f5 _ _ _ hf hP hD hS (lv_sub hl [1, 2, 0] rfl)
      exact LP30 N v1 wk_steps _ _ _ hm30 hP hD hS (lv_sub hl [1, 2, 0] rfl)
    · cases hf
  exact hgo _ _ rfl hP hS
/-! X9_nearer -/
set_option maxRecDepth 100000 in
set_option maxHeartbeats 4000000 in
theorem c_Walk_nearer (l : Launch) (D : va_G) (ci : Nat → ClassId) (A : Nat → Prop) (sa : Nat → Nat) (N : Nat) (Rw : va_W) (a_wk : Nat) (a_ws : Nat) (a_wk_steps : Nat) (a_wk_reached : Nat) (n_wk_steps : Nat) (a_g : Nat) (a_ws_first : Nat) (a_ws_many : Nat) (a_ws_corner : Nat) (wk_many : Int32) (wk_steps : Nat → Int32) (ws_cornerCount : Int32) (ws_level : Int32) (ws_row : Int32) (ws_start : Int32) (ws_place : Int32) (ws_length : Int32) (ws_cap : Int32) (ws_first : Nat → Int32) (ws_many : Nat → Int32) (p1 : Int32) (r : Int32) (hf : f_Walk_nearer N n_wk_steps wk_steps ws_first ws_many p1 = some r) : Met l yX9_nearer wsX9_nearer ({ frames := 2, cells := 0, slots := 0, locals := 62 }) (va_Pc [.ref a_wk, .int p1] (q_N D ci A sa ((a_wk, .inr (9, [.ref a_ws, .ref a_wk_steps, .ref a_wk_reached, .int wk_many])) :: (a_wk_steps, .inl (ci 0, n_wk_steps, .inl wk_steps)) :: (a_ws, .inr (6, [.ref a_g, .ref a_ws_first, .ref a_ws_many, .ref a_ws_corner, .int ws_cornerCount, .int ws_level, .int ws_row, .int ws_start, .int ws_place, .int ws_length, .int ws_cap])) :: (a_ws_first, .inl (ci 0, 4, .inl ws_first)) :: (a_ws_many, .inl (ci 0, 4, .inl ws_many)) :: Rw))) (q_R (some (.int r))) 0 0 A := by
  refine q_ofW (cc := cX9_nearer) (maxL := 5) (ret := (some .int)) [.ref a_wk, .int p1] (plainFor_of_name (by decide)) rfl (Nat.le_of_ble_eq_true rfl) ?_
  intro p e s m below meth c ls Q hQ hx hb hml hr hts hown hlocks hK hA hZ hP hD hS hl
  have hl : lv_has ls 5 [(0, .ref a_wk), (1, .int p1)] := hl
  have hown : s.vm.findClass RX9 = some m.cls := hown
  have hinX9 : ∀ w ∈ wsX90, w ∈ wsX9_nearer := fun _ h => List.mem_cons_of_mem _ (inWX90 _ h)
  have w_1 := hts (Cond.fieldLink RX9 27 "SheetNames$Walk" "spot" "LSheetNames$Spot;") (List.mem_cons_of_mem _ t_w825)
  have w_2 := hts (Cond.fieldLink RX9 9 "SheetNames$Walk" "steps" "[I") (List.mem_cons_of_mem _ t_w824)
  unfold f_Walk_nearer at hf
  have hgo : ∀ (H : Heap) (locs : List Loc), H = s.heap → va_P D vwCl ((a_wk, .inr (9, [.ref a_ws, .ref a_wk_steps, .ref a_wk_reached, .int wk_many])) :: (a_wk_steps, .inl (ci 0, n_wk_steps, .inl wk_steps)) :: (a_ws, .inr (6, [.ref a_g, .ref a_ws_first, .ref a_ws_many, .ref a_ws_corner, .int ws_cornerCount, .int ws_level, .int ws_row, .int ws_start, .int ws_place, .int ws_length, .int ws_cap])) :: (a_ws_first, .inl (ci 0, 4, .inl ws_first)) :: (a_ws_many, .inl (ci 0, 4, .inl ws_many)) :: Rw) H → va_S A s.heap H locs → W p l e ({ frames := 2, cells := 0, slots := 0, locals := 62 } : Room) s m ([.ref a_wk, .int p1] : List Value).toArray below meth c H locs 0 0 Q (F0 m 0 ls []) := by
    intro H locs hH hP hS
    subst hH
    refine lv_aload_n (pc := 0) hx hb dX9_nearer_0 rfl (lv_at hl 0 rfl) ?_
    refine va_get (pc := 1) (D := D) (ci := 9) (v := .ref a_ws) (C := RX9) (T := TX9) (N := 4) hx hb hts hinX9 hown hK hP 0 rfl rfl 0 (by decide) w_1 (fun _ h9 => h9) rfl dX9_nearer_1 ?_
    obtain ⟨v1, hm4, hf⟩ := q_b1_e hf
    refine q_cVr (pc := 4) (As := []) (rest := []) (v0 := (some (.int v1))) ⟨hx, hb, hml, hown, hts⟩ hK hA hZ hP hD hS hl.1 [2, 4] 5 rfl ⟨rfl, rfl, rfl⟩ (c_Spot_allBeside l D ci A sa N (Rw) a_ws a_g a_ws_first a_ws_many a_ws_corner ws_cornerCount ws_level ws_row ws_start ws_place ws_length ws_cap ws_many v1 hm4) 2 rfl rfl (cwV 0 hts gX9_nearer_X6_allBeside rfl rfl rfl (by decide +kernel) ⟨Nat.le_of_ble_eq_true rfl, Nat.le_of_ble_eq_true rfl⟩) rfl rfl (Nat.le_of_ble_eq_true rfl) dX9_nearer_4 ⟨Nat.zero_le _, Nat.zero_le _⟩ (fun locs hS => ?_)
    refine lv_istore_n (pc := 7) (lv' := [(2, .int v1), (0, .ref a_wk), (1, .int p1)]) hx hb dX9_nearer_7 rfl hl (by decide) rfl (fun ls hl => ?_)
    refine lv_iconst (pc := 8) (v := 0) hx hb dX9_nearer_8 (by decide) ?_
    obtain ⟨v2, ev2, hf⟩ := q_nm_e hf
    refine q_topi ev2 ?_
    refine lv_istore_n (pc := 9) (lv' := [(3, .int v2), (2, .int v1), (0, .ref a_wk), (1, .int p1)]) hx hb dX9_nearer_9 rfl hl (by decide) rfl (fun ls hl => ?_)
    obtain ⟨k10, o10_, ek10, hm10, hk10⟩ := q_s0_k hf
    have JE10 : ∀  (H : Heap) (locs : List Loc) (ls : Array Slot), k10 = some r → H = s.heap → va_S A s.heap H locs → lv_has ls 5 [(1, .int p1)] → W p l e ({ frames := 2, cells := 0, slots := 0, locals := 62 } : Room) s m ([.ref a_wk, .int p1] : List Value).toArray below meth c H locs 0 0 Q (F0 m 52 ls []) := by
      intro  H locs ls hf hHs hS hl
      subst hHs
      have hf := (ek10).symm.trans hf
      refine lv_iload_n (pc := 52) hx hb dX9_nearer_52 rfl (lv_at hl 0 rfl) ?_
      obtain rfl := Option.some.inj hf
      rw [hQ]
      exact q_iretr (pc := 53) hx hb hr hlocks rfl hS dX9_nearer_53
    have LP10 : ∀ (n10 : Nat) (v3 : Int32) (H : Heap) (locs : List Loc) (ls : Array Slot), f_Walk_nearer_L10 n_wk_steps p1 v1 wk_steps ws_first ws_many n10 v3 = some o10_ → H = s.heap → va_S A s.heap H locs → lv_has ls 5 [(0, .ref a_wk), (1, .int p1), (2, .int v1), (3, .int v3)] → W p l e ({ frames := 2, cells := 0, slots := 0, locals := 62 } : Room) s m ([.ref a_wk, .int p1] : List Value).toArray below meth c H locs 0 0 Q (F0 m 10 ls []) := by
      intro n10
      induction n10 with
      | zero => intro v3 H locs ls hf; rw [f_Walk_nearer_L10] at hf; cases hf
      | succ n10 ih10 =>
        intro v3 H locs ls hf hHs hS hl
        subst hHs
        rw [f_Walk_nearer_L10] at hf
        refine lv_iload_n (pc := 10) hx hb dX9_nearer_10 rfl (lv_at hl 3 rfl) ?_
        refine lv_iload_n (pc := 11) hx hb dX9_nearer_11 rfl (lv_at hl 2 rfl) ?_
        refine q_icmp_ge (pc := 12) (tgt := 52) hx hb dX9_nearer_12 (by decide) rfl hf (fun hf => ?_) (fun hf => ?_)
        · obtain rfl := Option.some.inj hf
          exact JE10  _ _ _ hk10 rfl hS (lv_sub hl [1] rfl)
        · refine lv_aload_n (pc := 15) hx hb dX9_nearer_15 rfl (lv_at hl 0 rfl) ?_
          refine va_get (pc := 16) (D := D) (ci := 9) (v := .ref a_ws) (C := RX9) (T := TX9) (N := 4) hx hb hts hinX9 hown hK hP 0 rfl rfl 0 (by decide) w_1 (fun _ h9 => h9) rfl dX9_nearer_16 ?_
          refine lv_iload_n (pc := 19) hx hb dX9_nearer_19 rfl (lv_at hl 3 rfl) ?_
          obtain ⟨v4, hm20, hf⟩ := q_b1_e hf
          refine q_cVr (pc := 20) (As := [.int v3]) (rest := []) (v0 := (some (.int v4))) ⟨hx, hb, hml, hown, hts⟩ hK hA hZ hP hD hS hl.1 [2, 3, 4] 5 rfl ⟨rfl, rfl, rfl⟩ (c_Spot_besideKey l D ci A sa N (Rw) a_ws a_g a_ws_first a_ws_many a_ws_corner ws_cornerCount ws_level ws_row ws_start ws_place ws_length ws_cap ws_first ws_many v3 v4 hm20) 2 rfl rfl (cwV 1 hts gX9_nearer_X6_besideKey rfl rfl rfl (by decide +kernel) ⟨Nat.le_of_ble_eq_true rfl, Nat.le_of_ble_eq_true rfl⟩) rfl rfl (Nat.le_of_ble_eq_true rfl) dX9_nearer_20 ⟨Nat.zero_le _, Nat.zero_le _⟩ (fun locs hS => ?_)
          refine lv_istore (pc := 23) (lv' := [(4, .int v4), (0, .ref a_wk), (1, .int p1), (2, .int v1), (3, .int v3)]) hx hb dX9_nearer_23 hl (by decide) rfl (fun ls hl => ?_)
          refine lv_aload_n (pc := 25) hx hb dX9_nearer_25 rfl (lv_at hl 1 rfl) ?_
          refine va_get (pc := 26) (D := D) (ci := 9) (v := .ref a_wk_steps) (C := RX9) (T := TX9) (N := 4) hx hb hts hinX9 hown hK hP 0 rfl rfl 1 (by decide) w_2 (fun _ h9 => h9) rfl dX9_nearer_26 ?_
          refine lv_iload (pc := 29) hx hb dX9_nearer_29 (lv_at hl 0 rfl) ?_
          refine q_iald (pc := 31) hx hb hK hP 1 0 hf rfl rfl dX9_nearer_31 (fun v5 hf => ?_)
          refine lv_aload_n (pc := 32) hx hb dX9_nearer_32 rfl (lv_at hl 1 rfl) ?_
          refine va_get (pc := 33) (D := D) (ci := 9) (v := .ref a_wk_steps) (C := RX9) (T := TX9) (N := 4) hx hb hts hinX9 hown hK hP 0 rfl rfl 1 (by decide) w_2 (fun _ h9 => h9) rfl dX9_nearer_33 ?_
          refine lv_iload_n (pc := 36) hx hb dX9_nearer_36 rfl (lv_at hl 2 rfl) ?_
          refine q_iald (pc := 37) hx hb hK hP 1 0 hf rfl rfl dX9_nearer_37 (fun v6 hf => ?_)
          refine lv_iconst (pc := 38) (v := 1) hx hb dX9_nearer_38 (by decide) ?_
          refine lv_isub (pc := 39) hx hb dX9_nearer_39 ?_
          refine q_icmp_ne (pc := 40) (tgt := 46) hx hb dX9_nearer_40 (by decide) rfl hf (fun hf => ?_) (fun hf => ?_)
          · obtain ⟨v7, ev7, hf⟩ := q_nm_e hf
            refine lv_iinc (pc := 46) (v := v7) (lv' := [(3, .int v7), (4, .int v4), (0, .ref a_wk), (1, .int p1), (2, .int v1)]) hx hb dX9_nearer_46 hl (k := 4) rfl (by rw [ev7]; rfl) (by decide) rfl (fun ls hl => ?_)
            refine lv_goto (pc := 49) (tgt := 10) hx hb dX9_nearer_49 (by decide) ?_
            exact ih10 v7 _ _ _ hf rfl hS (lv_sub hl [2, 3, 4, 0] rfl)
          · refine lv_iload (pc := 43) hx hb dX9_nearer_43 (lv_at hl 0 rfl) ?_
            obtain rfl := Option.some.inj hf
            have hk10 : (v4 : Int32) = r := hk10
            obtain rfl := hk10
            rw [hQ]
            exact q_iretr (pc := 45) hx hb hr hlocks rfl hS dX9_nearer_45
    exact LP10 N v2 _ _ _ hm10 rfl hS (lv_sub hl [2, 3, 1, 0] rfl)
  exact hgo _ _ rfl hP hS
/-! X9_onTheWay -/
set_option maxRecDepth 100000 in
set_option maxHeartbeats 4000000 in
theorem c_Walk_onTheWay (l : Launch) (D : va_G) (ci : Nat → ClassId) (A : Nat → Prop) (sa : Nat → Nat) (N : Nat) (Rw : va_W) (a_wk : Nat) (a_ws : Nat) (a_wk_steps : Nat) (a_wk_reached : Nat) (n_wk_steps : Nat) (a_g : Nat) (a_ws_first : Nat) (a_ws_many : Nat) (a_ws_corner : Nat) (a_g_rowCuts : Nat) (a_g_columnCuts : Nat) (a_g_bandRows : Nat) (a_g_zoneColumns : Nat) (a_g_rows : Nat) (a_g_sheets : Nat) (wk_many : Int32) (wk_steps : Nat → Int32) (ws_cornerCount : Int32) (ws_level : Int32) (ws_row : Int32) (ws_start : Int32) (ws_place : Int32) (ws_length : Int32) (ws_cap : Int32) (ws_first : Nat → Int32) (ws_many : Nat → Int32) (g_bandRows : Nat → Int32) (g_zoneColumns : Nat → Int32) (g_rows : Nat → Int32) (g_sheets : Nat → Int32) (p1 : Int32) (p2 : Int32) (p3 : Int32) (r : Int32) (o1 : Nat → Int32) (o2 : Nat → Int32) (o3 : Int32) (o4 : Int32) (o5 : Int32) (o6 : Int32) (o7 : Int32) (o8 : Int32) (hf : f_Walk_onTheWay N n_wk_steps wk_steps wk_many ws_first ws_many ws_level ws_row ws_start ws_place ws_length ws_cap g_bandRows g_zoneColumns g_rows g_sheets p1 p2 p3 = some (r, o1, o2, o3, o4, o5, o6, o7, o8)) : Met l yX9_onTheWay wsX9_onTheWay ({ frames := 3, cells := 0, slots := 0, locals := 86 }) (va_Pc [.ref a_wk, .int p1, .int p2, .int p3] (q_N D ci A sa ((a_wk, .inr (9, [.ref a_ws, .ref a_wk_steps, .ref a_wk_reached, .int wk_many])) :: (a_wk_steps, .inl (ci 0, n_wk_steps, .inl wk_steps)) :: (a_ws, .inr (6, [.ref a_g, .ref a_ws_first, .ref a_ws_many, .ref a_ws_corner, .int ws_cornerCount, .int ws_level, .int ws_row, .int ws_start, .int ws_place, .int ws_length, .int ws_cap])) :: (a_ws_first, .inl (ci 0, 4, .inl ws_first)) :: (a_ws_many, .inl (ci 0, 4, .inl ws_many)) :: (a_g, .inr (2, [.ref a_g_rowCuts, .ref a_g_columnCuts, .ref a_g_bandRows, .ref a_g_zoneColumns, .ref a_g_rows, .ref a_g_sheets])) :: (a_g_bandRows, .inl (ci 0, 5, .inl g_bandRows)) :: (a_g_zoneColumns, .inl (ci 0, 5, .inl g_zoneColumns)) :: (a_g_rows, .inl (ci 0, 5, .inl g_rows)) :: (a_g_sheets, .inl (ci 0, 5, .inl g_sheets)) :: Rw))) (q_Q (some (.int r)) (q_O D A ((a_wk, .inr (9, [.ref a_ws, .ref a_wk_steps, .ref a_wk_reached, .int wk_many])) :: (a_wk_steps, .inl (ci 0, n_wk_steps, .inl wk_steps)) :: (a_ws, .inr (6, [.ref a_g, .ref a_ws_first, .ref a_ws_many, .ref a_ws_corner, .int ws_cornerCount, .int o3, .int o4, .int o5, .int o6, .int o7, .int o8])) :: (a_ws_first, .inl (ci 0, 4, .inl o1)) :: (a_ws_many, .inl (ci 0, 4, .inl o2)) :: (a_g, .inr (2, [.ref a_g_rowCuts, .ref a_g_columnCuts, .ref a_g_bandRows, .ref a_g_zoneColumns, .ref a_g_rows, .ref a_g_sheets])) :: (a_g_bandRows, .inl (ci 0, 5, .inl g_bandRows)) :: (a_g_zoneColumns, .inl (ci 0, 5, .inl g_zoneColumns)) :: (a_g_rows, .inl (ci 0, 5, .inl g_rows)) :: (a_g_sheets, .inl (ci 0, 5, .inl g_sheets)) :: Rw)) A) 0 0 A := by
  refine q_ofW (cc := cX9_onTheWay) (maxL := 6) (ret := (some .int)) [.ref a_wk, .int p1, .int p2, .int p3] (plainFor_of_name (by decide)) rfl (Nat.le_of_ble_eq_true rfl) ?_
  intro p e s m below meth c ls Q hQ hx hb hml hr hts hown hlocks hK hA hZ hP hD hS hl
  have hl : lv_has ls 6 [(0, .ref a_wk), (1, .int p1), (2, .int p2), (3, .int p3)] := hl
  have hown : s.vm.findClass RX9 = some m.cls := hown
  have hinX9 : ∀ w ∈ wsX90, w ∈ wsX9_onTheWay := fun _ h => List.mem_cons_of_mem _ (inWX90 _ h)
  have w_1 := hts (Cond.fieldLink RX9 18 "SheetNames$Walk" "many" "I") (List.mem_cons_of_mem _ t_w823)
  have w_2 := hts (Cond.fieldLink RX9 27 "SheetNames$Walk" "spot" "LSheetNames$Spot;") (List.mem_cons_of_mem _ t_w825)
  unfold f_Walk_onTheWay at hf
  have hgo : ∀ (H : Heap) (locs : List Loc), H = s.heap → va_P D vwCl ((a_wk, .inr (9, [.ref a_ws, .ref a_wk_steps, .ref a_wk_reached, .int wk_many])) :: (a_wk_steps, .inl (ci 0, n_wk_steps, .inl wk_steps)) :: (a_ws, .inr (6, [.ref a_g, .ref a_ws_first, .ref a_ws_many, .ref a_ws_corner, .int ws_cornerCount, .int ws_level, .int ws_row, .int ws_start, .int ws_place, .int ws_length, .int ws_cap])) :: (a_ws_first, .inl (ci 0, 4, .inl ws_first)) :: (a_ws_many, .inl (ci 0, 4, .inl ws_many)) :: (a_g, .inr (2, [.ref a_g_rowCuts, .ref a_g_columnCuts, .ref a_g_bandRows, .ref a_g_zoneColumns, .ref a_g_rows, .ref a_g_sheets])) :: (a_g_bandRows, .inl (ci 0, 5, .inl g_bandRows)) :: (a_g_zoneColumns, .inl (ci 0, 5, .inl g_zoneColumns)) :: (a_g_rows, .inl (ci 0, 5, .inl g_rows)) :: (a_g_sheets, .inl (ci 0, 5, .inl g_sheets)) :: Rw) H → va_S A s.heap H locs → W p l e ({ frames := 3, cells := 0, slots := 0, locals := 86 } : Room) s m ([.ref a_wk, .int p1, .int p2, .int p3] : List Value).toArray below meth c H locs 0 0 Q (F0 m 0 ls []) := by
    intro H locs hH hP hS
    refine lv_iload_n (pc := 0) hx hb dX9_onTheWay_0 rfl (lv_at hl 2 rfl) ?_
    refine lv_istore (pc := 1) (lv' := [(4, .int p2), (0, .ref a_wk), (1, .int p1), (2, .int p2), (3, .int p3)]) hx hb dX9_onTheWay_1 hl (by decide) rfl (fun ls hl => ?_)
    refine lv_iconst (pc := 3) (v := 0) hx hb dX9_onTheWay_3 (by decide) ?_
    obtain ⟨v1, ev1, hf⟩ := q_nm_e hf
    refine q_topi ev1 ?_
    refine lv_istore (pc := 4) (lv' := [(5, .int v1), (4, .int p2), (0, .ref a_wk), (1, .int p1), (2, .int p2), (3, .int p3)]) hx hb dX9_onTheWay_4 hl (by decide) rfl (fun ls hl => ?_)
    obtain ⟨v12, f13, f14, v15, v16, v17, v18, v19, v20, hm6, hf⟩ := q_b9_e hf
    have JE6 : ∀ (H : Heap) (locs : List Loc) (ls : Array Slot), va_P D vwCl ((a_wk, .inr (9, [.ref a_ws, .ref a_wk_steps, .ref a_wk_reached, .int wk_many])) :: (a_wk_steps, .inl (ci 0, n_wk_steps, .inl wk_steps)) :: (a_ws, .inr (6, [.ref a_g, .ref a_ws_first, .ref a_ws_many, .ref a_ws_corner, .int ws_cornerCount, .int v15, .int v16, .int v17, .int v18, .int v19, .int v20])) :: (a_ws_first, .inl (ci 0, 4, .inl f13)) :: (a_ws_many, .inl (ci 0, 4, .inl f14)) :: (a_g, .inr (2, [.ref a_g_rowCuts, .ref a_g_columnCuts, .ref a_g_bandRows, .ref a_g_zoneColumns, .ref a_g_rows, .ref a_g_sheets])) :: (a_g_bandRows, .inl (ci 0, 5, .inl g_bandRows)) :: (a_g_zoneColumns, .inl (ci 0, 5, .inl g_zoneColumns)) :: (a_g_rows, .inl (ci 0, 5, .inl g_rows)) :: (a_g_sheets, .inl (ci 0, 5, .inl g_sheets)) :: Rw) H → va_D A ((a_wk, .inr (9, [.ref a_ws, .ref a_wk_steps, .ref a_wk_reached, .int wk_many])) :: (a_wk_steps, .inl (ci 0, n_wk_steps, .inl wk_steps)) :: (a_ws, .inr (6, [.ref a_g, .ref a_ws_first, .ref a_ws_many, .ref a_ws_corner, .int ws_cornerCount, .int v15, .int v16, .int v17, .int v18, .int v19, .int v20])) :: (a_ws_first, .inl (ci 0, 4, .inl f13)) :: (a_ws_many, .inl (ci 0, 4, .inl f14)) :: (a_g, .inr (2, [.ref a_g_rowCuts, .ref a_g_columnCuts, .ref a_g_bandRows, .ref a_g_zoneColumns, .ref a_g_rows, .ref a_g_sheets])) :: (a_g_bandRows, .inl (ci 0, 5, .inl g_bandRows)) :: (a_g_zoneColumns, .inl (ci 0, 5, .inl g_zoneColumns)) :: (a_g_rows, .inl (ci 0, 5, .inl g_rows)) :: (a_g_sheets, .inl (ci 0, 5, .inl g_sheets)) :: Rw) → va_S A s.heap H locs → lv_has ls 6 [(4, .int v12)] → W p l e ({ frames := 3, cells := 0, slots := 0, locals := 86 } : Room) s m ([.ref a_wk, .int p1, .int p2, .int p3] : List Value).toArray below meth c H locs 0 0 Q (F0 m 52 ls []) := by
      intro H locs ls hP hD hS hl
      refine lv_iload (pc := 52) hx hb dX9_onTheWay_52 (lv_at hl 0 rfl) ?_
      obtain ⟨e90, e91, e92, e93, e94, e95, e96, e97, e98⟩ := q_inj9 (Option.some.inj hf)
      rw [hQ, ← e90, ← e91, ← e92, ← e93, ← e94, ← e95, ← e96, ← e97, ← e98]
      exact q_iret (pc := 54) hx hb hr hlocks hP hD hS dX9_onTheWay_54
    have LP6 : ∀ (n6 : Nat) (v2 : Int32) (v3 : Int32) (f4 : Nat → Int32) (f5 : Nat → Int32) (v6 : Int32) (v7 : Int32) (v8 : Int32) (v9 : Int32) (v10 : Int32) (v11 : Int32) (H : Heap) (locs : List Loc) (ls : Array Slot), f_Walk_onTheWay_L6 N g_bandRows g_rows g_sheets g_zoneColumns n_wk_steps p1 p3 wk_many wk_steps n6 v2 v3 f4 f5 v6 v7 v8 v9 v10 v11 = some (v12, f13, f14, v15, v16, v17, v18, v19, v20) → va_P D vwCl ((a_wk, .inr (9, [.ref a_ws, .ref a_wk_steps, .ref a_wk_reached, .int wk_many])) :: (a_wk_steps, .inl (ci 0, n_wk_steps, .inl wk_steps)) :: (a_ws, .inr (6, [.ref a_g, .ref a_ws_first, .ref a_ws_many, .ref a_ws_corner, .int ws_cornerCount, .int v6, .int v7, .int v8, .int v9, .int v10, .int v11])) :: (a_ws_first, .inl (ci 0, 4, .inl f4)) :: (a_ws_many, .inl (ci 0, 4, .inl f5)) :: (a_g, .inr (2, [.ref a_g_rowCuts, .ref a_g_columnCuts, .ref a_g_bandRows, .ref a_g_zoneColumns, .ref a_g_rows, .ref a_g_sheets])) :: (a_g_bandRows, .inl (ci 0, 5, .inl g_bandRows)) :: (a_g_zoneColumns, .inl (ci 0, 5, .inl g_zoneColumns)) :: (a_g_rows, .inl (ci 0, 5, .inl g_rows)) :: (a_g_sheets, .inl (ci 0, 5, .inl g_sheets)) :: Rw) H → va_D A ((a_wk, .inr (9, [.ref a_ws, .ref a_wk_steps, .ref a_wk_reached, .int wk_many])) :: (a_wk_steps, .inl (ci 0, n_wk_steps, .inl wk_steps)) :: (a_ws, .inr (6, [.ref a_g, .ref a_ws_first, .ref a_ws_many, .ref a_ws_corner, .int ws_cornerCount, .int v6, .int v7, .int v8, .int v9, .int v10, .int v11])) :: (a_ws_first, .inl (ci 0, 4, .inl f4)) :: (a_ws_many, .inl (ci 0, 4, .inl f5)) :: (a_g, .inr (2, [.ref a_g_rowCuts, .ref a_g_columnCuts, .ref a_g_bandRows, .ref a_g_zoneColumns, .ref a_g_rows, .ref a_g_sheets])) :: (a_g_bandRows, .inl (ci 0, 5, .inl g_bandRows)) :: (a_g_zoneColumns, .inl (ci 0, 5, .inl g_zoneColumns)) :: (a_g_rows, .inl (ci 0, 5, .inl g_rows)) :: (a_g_sheets, .inl (ci 0, 5, .inl g_sheets)) :: Rw) → va_S A s.heap H locs → lv_has ls 6 [(0, .ref a_wk), (1, .int p1), (3, .int p3), (4, .int v2), (5, .int v3)] → W p l e ({ frames := 3, cells := 0, slots := 0, locals := 86 } : Room) s m ([.ref a_wk, .int p1, .int p2, .int p3] : List Value).toArray below meth c H locs 0 0 Q (F0 m 6 ls []) := by
      intro n6
      induction n6 with
      | zero => intro v2 v3 f4 f5 v6 v7 v8 v9 v10 v11 H locs ls hf; rw [f_Walk_onTheWay_L6] at hf; cases hf
      | succ n6 ih6 =>
        intro v2 v3 f4 f5 v6 v7 v8 v9 v10 v11 H locs ls hf hP hD hS hl
        rw [f_Walk_onTheWay_L6] at hf
        refine lv_iload (pc := 6) hx hb dX9_onTheWay_6 (lv_at hl 4 rfl) ?_
        refine lv_iload_n (pc := 8) hx hb dX9_onTheWay_8 rfl (lv_at hl 2 rfl) ?_
        refine q_icmp_ge (pc := 9) (tgt := 52) hx hb dX9_onTheWay_9 (by decide) rfl hf (fun hf => ?_) (fun hf => ?_)
        · obtain ⟨rfl, rfl, rfl, rfl, rfl, rfl, rfl, rfl, rfl⟩ := q_inj9 (Option.some.inj hf)
          exact JE6 _ _ _ hP hD hS (lv_sub hl [3] rfl)
        · refine lv_iload (pc := 12) hx hb dX9_onTheWay_12 (lv_at hl 4 rfl) ?_
          refine lv_aload_n (pc := 14) hx hb dX9_onTheWay_14 rfl (lv_at hl 0 rfl) ?_
          refine va_get (pc := 15) (D := D) (ci := 9) (v := .int wk_many) (C := RX9) (T := TX9) (N := 4) hx hb hts hinX9 hown hK hP 0 rfl rfl 3 (by decide) w_1 (fun _ h9 => h9) rfl dX9_onTheWay_15 ?_
          refine q_icmp_ge (pc := 18) (tgt := 52) hx hb dX9_onTheWay_18 (by decide) rfl hf (fun hf => ?_) (fun hf => ?_)
          · obtain ⟨rfl, rfl, rfl, rfl, rfl, rfl, rfl, rfl, rfl⟩ := q_inj9 (Option.some.inj hf)
            exact JE6 _ _ _ hP hD hS (lv_sub hl [3] rfl)
          · refine lv_aload_n (pc := 21) hx hb dX9_onTheWay_21 rfl (lv_at hl 0 rfl) ?_
            refine va_get (pc := 22) (D := D) (ci := 9) (v := .ref a_ws) (C := RX9) (T := TX9) (N := 4) hx hb hts hinX9 hown hK hP 0 rfl rfl 0 (by decide) w_2 (fun _ h9 => h9) rfl dX9_onTheWay_22 ?_
            refine lv_iload_n (pc := 25) hx hb dX9_onTheWay_25 rfl (lv_at hl 1 rfl) ?_
            refine lv_iload (pc := 26) hx hb dX9_onTheWay_26 (lv_at hl 3 rfl) ?_
            obtain ⟨v21, v22, v23, v24, v25, v26, hm28, hf⟩ := q_b6_e hf
            refine q_cV (pc := 28) (As := [.int p1, .int v2]) (rest := []) (v0 := none) ⟨hx, hb, hml, hown, hts⟩ hK hA hZ hP hD hS hl.1 [2, 5, 6, 7, 8, 9, 0, 1, 3, 4] 10 rfl ⟨rfl, rfl, rfl⟩ (c_Spot_put l D ci A sa N ((a_wk, .inr (9, [.ref a_ws, .ref a_wk_steps, .ref a_wk_reached, .int wk_many])) :: (a_wk_steps, .inl (ci 0, n_wk_steps, .inl wk_steps)) :: (a_ws_first, .inl (ci 0, 4, .inl f4)) :: (a_ws_many, .inl (ci 0, 4, .inl f5)) :: Rw) a_ws a_g a_ws_first a_ws_many a_ws_corner a_g_rowCuts a_g_columnCuts a_g_bandRows a_g_zoneColumns a_g_rows a_g_sheets ws_cornerCount v6 v7 v8 v9 v10 v11 g_bandRows g_zoneColumns g_rows g_sheets p1 v2 v21 v22 v23 v24 v25 v26 hm28) 2 rfl rfl (cwV 2 hts gX9_onTheWay_X6_put rfl rfl rfl (by decide +kernel) ⟨Nat.le_of_ble_eq_true rfl, Nat.le_of_ble_eq_true rfl⟩) rfl rfl (Nat.le_of_ble_eq_true rfl) dX9_onTheWay_28 ⟨Nat.zero_le _, Nat.zero_le _⟩ [6, 7, 0, 8, 9, 1, 2, 3, 4, 5] 10 rfl ⟨rfl, rfl, rfl⟩ (fun H locs hP hD hS => ?_)
            obtain ⟨hP, hD⟩ : va_PD D A ((a_wk, .inr (9, [.ref a_ws, .ref a_wk_steps, .ref a_wk_reached, .int wk_many])) :: (a_wk_steps, .inl (ci 0, n_wk_steps, .inl wk_steps)) :: (a_ws, .inr (6, [.ref a_g, .ref a_ws_first, .ref a_ws_many, .ref a_ws_corner, .int ws_cornerCount, .int v21, .int v22, .int v23, .int v24, .int v25, .int v26])) :: (a_ws_first, .inl (ci 0, 4, .inl f4)) :: (a_ws_many, .inl (ci 0, 4, .inl f5)) :: (a_g, .inr (2, [.ref a_g_rowCuts, .ref a_g_columnCuts, .ref a_g_bandRows, .ref a_g_zoneColumns, .ref a_g_rows, .ref a_g_sheets])) :: (a_g_bandRows, .inl (ci 0, 5, .inl g_bandRows)) :: (a_g_zoneColumns, .inl (ci 0, 5, .inl g_zoneColumns)) :: (a_g_rows, .inl (ci 0, 5, .inl g_rows)) :: (a_g_sheets, .inl (ci 0, 5, .inl g_sheets)) :: Rw) H := ⟨hP, hD⟩
            refine lv_aload_n (pc := 31) hx hb dX9_onTheWay_31 rfl (lv_at hl 0 rfl) ?_
            refine va_get (pc := 32) (D := D) (ci := 9) (v := .ref a_ws) (C := RX9) (T := TX9) (N := 4) hx hb hts hinX9 hown hK hP 0 rfl rfl 0 (by decide) w_2 (fun _ h9 => h9) rfl dX9_onTheWay_32 ?_
            obtain ⟨f27, f28, hm35, hf⟩ := q_b2_e hf
            refine q_cV (pc := 35) (As := []) (rest := []) (v0 := none) ⟨hx, hb, hml, hown, hts⟩ hK hA hZ hP hD hS hl.1 [2, 3, 4, 5, 6, 7, 8, 9, 0, 1] 10 rfl ⟨rfl, rfl, rfl⟩ (c_Spot_lookAround l D ci A sa N ((a_wk, .inr (9, [.ref a_ws, .ref a_wk_steps, .ref a_wk_reached, .int wk_many])) :: (a_wk_steps, .inl (ci 0, n_wk_steps, .inl wk_steps)) :: Rw) a_ws a_g a_ws_first a_ws_many a_ws_corner a_g_rowCuts a_g_columnCuts a_g_bandRows a_g_zoneColumns a_g_rows a_g_sheets ws_cornerCount v21 v22 v23 v24 v25 v26 f4 f5 g_bandRows g_zoneColumns g_rows g_sheets f27 f28 hm35) 2 rfl rfl (cwV 0 hts gX9_onTheWay_X6_lookAround rfl rfl rfl (by decide +kernel) ⟨Nat.le_of_ble_eq_true rfl, Nat.le_of_ble_eq_true rfl⟩) rfl rfl (Nat.le_of_ble_eq_true rfl) dX9_onTheWay_35 ⟨Nat.zero_le _, Nat.zero_le _⟩ [8, 9, 0, 1, 2, 3, 4, 5, 6, 7] 10 rfl ⟨rfl, rfl, rfl⟩ (fun H locs hP hD hS => ?_)
            obtain ⟨hP, hD⟩ : va_PD D A ((a_wk, .inr (9, [.ref a_ws, .ref a_wk_steps, .ref a_wk_reached, .int wk_many])) :: (a_wk_steps, .inl (ci 0, n_wk_steps, .inl wk_steps)) :: (a_ws, .inr (6, [.ref a_g, .ref a_ws_first, .ref a_ws_many, .ref a_ws_corner, .int ws_cornerCount, .int v21, .int v22, .int v23, .int v24, .int v25, .int v26])) :: (a_ws_first, .inl (ci 0, 4, .inl f27)) :: (a_ws_many, .inl (ci 0, 4, .inl f28)) :: (a_g, .inr (2, [.ref a_g_rowCuts, .ref a_g_columnCuts, .ref a_g_bandRows, .ref a_g_zoneColumns, .ref a_g_rows, .ref a_g_sheets])) :: (a_g_bandRows, .inl (ci 0, 5, .inl g_bandRows)) :: (a_g_zoneColumns, .inl (ci 0, 5, .inl g_zoneColumns)) :: (a_g_rows, .inl (ci 0, 5, .inl g_rows)) :: (a_g_sheets, .inl (ci 0, 5, .inl g_sheets)) :: Rw) H := ⟨hP, hD⟩
            refine lv_aload_n (pc := 38) hx hb dX9_onTheWay_38 rfl (lv_at hl 0 rfl) ?_
            refine lv_iload (pc := 39) hx hb dX9_onTheWay_39 (lv_at hl 3 rfl) ?_
            obtain ⟨v29, hm41, hf⟩ := q_b1_e hf
            refine q_cVr (pc := 41) (As := [.int v2]) (rest := []) (v0 := (some (.int v29))) ⟨hx, hb, hml, hown, hts⟩ hK hA hZ hP hD hS hl.1 [0, 1, 2, 3, 4] 10 rfl ⟨rfl, rfl, rfl⟩ (c_Walk_nearer l D ci A sa N (Rw) a_wk a_ws a_wk_steps a_wk_reached n_wk_steps a_g a_ws_first a_ws_many a_ws_corner wk_many wk_steps ws_cornerCount v21 v22 v23 v24 v25 v26 f27 f28 v2 v29 hm41) 0 rfl rfl (cwV 1 hts gX9_onTheWay_X9_nearer rfl rfl rfl (by decide +kernel) ⟨Nat.le_of_ble_eq_true rfl, Nat.le_of_ble_eq_true rfl⟩) rfl rfl (Nat.le_of_ble_eq_true rfl) dX9_onTheWay_41 ⟨Nat.zero_le _, Nat.zero_le _⟩ (fun locs hS => ?_)
            refine lv_istore (pc := 44) (lv' := [(4, .int v29), (0, .ref a_wk), (1, .int p1), (3, .int p3), (5, .int v3)]) hx hb dX9_onTheWay_44 hl (by decide) rfl (fun ls hl => ?_)
            obtain ⟨v30, ev30, hf⟩ := q_nm_e hf
            refine lv_iinc (pc := 46) (v := v30) (lv' := [(5, .int v30), (4, .int v29), (0, .ref a_wk), (1, .int p1), (3, .int p3)]) hx hb dX9_onTheWay_46 hl (k := 4) rfl (by rw [ev30]; rfl) (by decide) rfl (fun ls hl => ?_)
            refine lv_goto (pc := 49) (tgt := 6) hx hb dX9_onTheWay_49 (by decide) ?_
            exact ih6 v29 v30 f27 f28 v21 v22 v23 v24 v25 v26 _ _ _ hf hP hD hS (lv_sub hl [2, 3, 4, 1, 0] rfl)
    exact LP6 N p2 v1 ws_first ws_many ws_level ws_row ws_start ws_place ws_length ws_cap _ _ _ hm6 hP hD hS (lv_sub hl [2, 3, 5, 1, 0] rfl)
  exact hgo _ _ rfl hP hS
/-! X9_spreadOn -/
set_option maxRecDepth 100000 in
set_option maxHeartbeats 4000000 in
theorem c_Walk_spreadOn (l : Launch) (D : va_G) (ci : Nat → ClassId) (A : Nat → Prop) (sa : Nat → Nat) (N : Nat) (Rw : va_W) (a_wk : Nat) (a_ws : Nat) (a_wk_steps : Nat) (a_wk_reached : Nat) (n_wk_steps : Nat) (n_wk_reached : Nat) (a_g : Nat) (a_ws_first : Nat) (a_ws_many : Nat) (a_ws_corner : Nat) (wk_many : Int32) (wk_steps : Nat → Int32) (wk_reached : Nat → Int32) (ws_cornerCount : Int32) (ws_level : Int32) (ws_row : Int32) (ws_start : Int32) (ws_place : Int32) (ws_length : Int32) (ws_cap : Int32) (ws_first : Nat → Int32) (ws_many : Nat → Int32) (p1 : Int32) (p2 : Int32) (r : Int32) (o1 : Nat → Int32) (o2 : Nat → Int32) (hf : f_Walk_spreadOn N n_wk_steps n_wk_reached wk_steps wk_reached wk_many ws_first ws_many p1 p2 = some (r, o1, o2)) : Met l yX9_spreadOn wsX9_spreadOn ({ frames := 2, cells := 0, slots := 0, locals := 62 }) (va_Pc [.ref a_wk, .int p1, .int p2] (q_N D ci A sa ((a_wk, .inr (9, [.ref a_ws, .ref a_wk_steps, .ref a_wk_reached, .int wk_many])) :: (a_wk_steps, .inl (ci 0, n_wk_steps, .inl wk_steps)) :: (a_wk_reached, .inl (ci 0, n_wk_reached, .inl wk_reached)) :: (a_ws, .inr (6, [.ref a_g, .ref a_ws_first, .ref a_ws_many, .ref a_ws_corner, .int ws_cornerCount, .int ws_level, .int ws_row, .int ws_start, .int ws_place, .int ws_length, .int ws_cap])) :: (a_ws_first, .inl (ci 0, 4, .inl ws_first)) :: (a_ws_many, .inl (ci 0, 4, .inl ws_many)) :: Rw))) (q_Q (some (.int r)) (q_O D A ((a_wk, .inr (9, [.ref a_ws, .ref a_wk_steps, .ref a_wk_reached, .int wk_many])) :: (a_wk_steps, .inl (ci 0, n_wk_steps, .inl o1)) :: (a_wk_reached, .inl (ci 0, n_wk_reached, .inl o2)) :: (a_ws, .inr (6, [.ref a_g, .ref a_ws_first, .ref a_ws_many, .ref a_ws_corner, .int ws_cornerCount, .int ws_level, .int ws_row, .int ws_start, .int ws_place, .int ws_length, .int ws_cap])) :: (a_ws_first, .inl (ci 0, 4, .inl ws_first)) :: (a_ws_many, .inl (ci 0, 4, .inl ws_many)) :: Rw)) A) 0 0 A := by
  refine q_ofW (cc := cX9_spreadOn) (maxL := 7) (ret := (some .int)) [.ref a_wk, .int p1, .int p2] (plainFor_of_name (by decide)) rfl (Nat.le_of_ble_eq_true rfl) ?_
  intro p e s m below meth c ls Q hQ hx hb hml hr hts hown hlocks hK hA hZ hP hD hS hl
  have hl : lv_has ls 7 [(0, .ref a_wk), (1, .int p1), (2, .int p2)] := hl
  have hown : s.vm.findClass RX9 = some m.cls := hown
  have hinX9 : ∀ w ∈ wsX90, w ∈ wsX9_spreadOn := fun _ h => List.mem_cons_of_mem _ (inWX90 _ h)
  have w_1 := hts (Cond.fieldLink RX9 27 "SheetNames$Walk" "spot" "LSheetNames$Spot;") (List.mem_cons_of_mem _ t_w825)
  have w_2 := hts (Cond.fieldLink RX9 9 "SheetNames$Walk" "steps" "[I") (List.mem_cons_of_mem _ t_w824)
  have w_3 := hts (Cond.fieldLink RX9 18 "SheetNames$Walk" "many" "I") (List.mem_cons_of_mem _ t_w823)
  have w_4 := hts (Cond.fieldLink RX9 15 "SheetNames$Walk" "reached" "[I") (List.mem_cons_of_mem _ t_w826)
  unfold f_Walk_spreadOn at hf
  have hgo : ∀ (H : Heap) (locs : List Loc), H = s.heap → va_P D vwCl ((a_wk, .inr (9, [.ref a_ws, .ref a_wk_steps, .ref a_wk_reached, .int wk_many])) :: (a_wk_steps, .inl (ci 0, n_wk_steps, .inl wk_steps)) :: (a_wk_reached, .inl (ci 0, n_wk_reached, .inl wk_reached)) :: (a_ws, .inr (6, [.ref a_g, .ref a_ws_first, .ref a_ws_many, .ref a_ws_corner, .int ws_cornerCount, .int ws_level, .int ws_row, .int ws_start, .int ws_place, .int ws_length, .int ws_cap])) :: (a_ws_first, .inl (ci 0, 4, .inl ws_first)) :: (a_ws_many, .inl (ci 0, 4, .inl ws_many)) :: Rw) H → va_S A s.heap H locs → W p l e ({ frames := 2, cells := 0, slots := 0, locals := 62 } : Room) s m ([.ref a_wk, .int p1, .int p2] : List Value).toArray below meth c H locs 0 0 Q (F0 m 0 ls []) := by
    intro H locs hH hP hS
    refine lv_iload_n (pc := 0) hx hb dX9_spreadOn_0 rfl (lv_at hl 2 rfl) ?_
    refine lv_istore_n (pc := 1) (lv' := [(3, .int p2), (0, .ref a_wk), (1, .int p1), (2, .int p2)]) hx hb dX9_spreadOn_1 rfl hl (by decide) rfl (fun ls hl => ?_)
    refine lv_aload_n (pc := 2) hx hb dX9_spreadOn_2 rfl (lv_at hl 1 rfl) ?_
    refine va_get (pc := 3) (D := D) (ci := 9) (v := .ref a_ws) (C := RX9) (T := TX9) (N := 4) hx hb hts hinX9 hown hK hP 0 rfl rfl 0 (by decide) w_1 (fun _ h9 => h9) rfl dX9_spreadOn_3 ?_
    obtain ⟨v1, hm6, hf⟩ := q_b1_e hf
    refine q_cVr (pc := 6) (As := []) (rest := []) (v0 := (some (.int v1))) ⟨hx, hb, hml, hown, hts⟩ hK hA hZ hP hD hS hl.1 [3, 5] 6 rfl ⟨rfl, rfl, rfl⟩ (c_Spot_allBeside l D ci A sa N (Rw) a_ws a_g a_ws_first a_ws_many a_ws_corner ws_cornerCount ws_level ws_row ws_start ws_place ws_length ws_cap ws_many v1 hm6) 3 rfl rfl (cwV 0 hts gX9_spreadOn_X6_allBeside rfl rfl rfl (by decide +kernel) ⟨Nat.le_of_ble_eq_true rfl, Nat.le_of_ble_eq_true rfl⟩) rfl rfl (Nat.le_of_ble_eq_true rfl) dX9_spreadOn_6 ⟨Nat.zero_le _, Nat.zero_le _⟩ (fun locs hS => ?_)
    refine lv_istore (pc := 9) (lv' := [(4, .int v1), (3, .int p2), (0, .ref a_wk), (1, .int p1), (2, .int p2)]) hx hb dX9_spreadOn_9 hl (by decide) rfl (fun ls hl => ?_)
    refine lv_iconst (pc := 11) (v := 0) hx hb dX9_spreadOn_11 (by decide) ?_
    obtain ⟨v2, ev2, hf⟩ := q_nm_e hf
    refine q_topi ev2 ?_
    refine lv_istore (pc := 12) (lv' := [(5, .int v2), (4, .int v1), (3, .int p2), (0, .ref a_wk), (1, .int p1), (2, .int p2)]) hx hb dX9_spreadOn_12 hl (by decide) rfl (fun ls hl => ?_)
    obtain ⟨v7, f8, f9, hm14, hf⟩ := q_b3_e hf
    have JE14 : ∀ (H : Heap) (locs : List Loc) (ls : Array Slot), va_P D vwCl ((a_wk, .inr (9, [.ref a_ws, .ref a_wk_steps, .ref a_wk_reached, .int wk_many])) :: (a_wk_steps, .inl (ci 0, n_wk_steps, .inl f8)) :: (a_wk_reached, .inl (ci 0, n_wk_reached, .inl f9)) :: (a_ws, .inr (6, [.ref a_g, .ref a_ws_first, .ref a_ws_many, .ref a_ws_corner, .int ws_cornerCount, .int ws_level, .int ws_row, .int ws_start, .int ws_place, .int ws_length, .int ws_cap])) :: (a_ws_first, .inl (ci 0, 4, .inl ws_first)) :: (a_ws_many, .inl (ci 0, 4, .inl ws_many)) :: Rw) H → va_D A ((a_wk, .inr (9, [.ref a_ws, .ref a_wk_steps, .ref a_wk_reached, .int wk_many])) :: (a_wk_steps, .inl (ci 0, n_wk_steps, .inl f8)) :: (a_wk_reached, .inl (ci 0, n_wk_reached, .inl f9)) :: (a_ws, .inr (6, [.ref a_g, .ref a_ws_first, .ref a_ws_many, .ref a_ws_corner, .int ws_cornerCount, .int ws_level, .int ws_row, .int ws_start, .int ws_place, .int ws_length, .int ws_cap])) :: (a_ws_first, .inl (ci 0, 4, .inl ws_first)) :: (a_ws_many, .inl (ci 0, 4, .inl ws_many)) :: Rw) → va_S A s.heap H locs → lv_has ls 7 [(3, .int v7)] → W p l e ({ frames := 2, cells := 0, slots := 0, locals := 62 } : Room) s m ([.ref a_wk, .int p1, .int p2] : List Value).toArray below meth c H locs 0 0 Q (F0 m 76 ls []) := by
      intro H locs ls hP hD hS hl
      refine lv_iload_n (pc := 76) hx hb dX9_spreadOn_76 rfl (lv_at hl 0 rfl) ?_
      obtain ⟨e90, e91, e92⟩ := q_inj3 (Option.some.inj hf)
      rw [hQ, ← e90, ← e91, ← e92]
      exact q_iret (pc := 77) hx hb hr hlocks hP hD hS dX9_spreadOn_77
    have LP14 : ∀ (n14 : Nat) (v3 : Int32) (v4 : Int32) (f5 : Nat → Int32) (f6 : Nat → Int32) (H : Heap) (locs : List Loc) (ls : Array Slot), f_Walk_spreadOn_L14 n_wk_reached n_wk_steps p1 v1 wk_many ws_first ws_many n14 v3 v4 f5 f6 = some (v7, f8, f9) → va_P D vwCl ((a_wk, .inr (9, [.ref a_ws, .ref a_wk_steps, .ref a_wk_reached, .int wk_many])) :: (a_wk_steps, .inl (ci 0, n_wk_steps, .inl f5)) :: (a_wk_reached, .inl (ci 0, n_wk_reached, .inl f6)) :: (a_ws, .inr (6, [.ref a_g, .ref a_ws_first, .ref a_ws_many, .ref a_ws_corner, .int ws_cornerCount, .int ws_level, .int ws_row, .int ws_start, .int ws_place, .int ws_length, .int ws_cap])) :: (a_ws_first, .inl (ci 0, 4, .inl ws_first)) :: (a_ws_many, .inl (ci 0, 4, .inl ws_many)) :: Rw) H → va_D A ((a_wk, .inr (9, [.ref a_ws, .ref a_wk_steps, .ref a_wk_reached, .int wk_many])) :: (a_wk_steps, .inl (ci 0, n_wk_steps, .inl f5)) :: (a_wk_reached, .inl (ci 0, n_wk_reached, .inl f6)) :: (a_ws, .inr (6, [.ref a_g, .ref a_ws_first, .ref a_ws_many, .ref a_ws_corner, .int ws_cornerCount, .int ws_level, .int ws_row, .int ws_start, .int ws_place, .int ws_length, .int ws_cap])) :: (a_ws_first, .inl (ci 0, 4, .inl ws_first)) :: (a_ws_many, .inl (ci 0, 4, .inl ws_many)) :: Rw) → va_S A s.heap H locs → lv_has ls 7 [(0, .ref a_wk), (1, .int p1), (3, .int v3), (4, .int v1), (5, .int v4)] → W p l e ({ frames := 2, cells := 0, slots := 0, locals := 62 } : Room) s m ([.ref a_wk, .int p1, .int p2] : List Value).toArray below meth c H locs 0 0 Q (F0 m 14 ls []) := by
      intro n14
      induction n14 with
      | zero => intro v3 v4 f5 f6 H locs ls hf; rw [f_Walk_spreadOn_L14] at hf; cases hf
      | succ n14 ih14 =>
        intro v3 v4 f5 f6 H locs ls hf hP hD hS hl
        rw [f_Walk_spreadOn_L14] at hf
        refine lv_iload (pc := 14) hx hb dX9_spreadOn_14 (lv_at hl 4 rfl) ?_
        refine lv_iload (pc := 16) hx hb dX9_spreadOn_16 (lv_at hl 3 rfl) ?_
        refine q_icmp_ge (pc := 18) (tgt := 76) hx hb dX9_spreadOn_18 (by decide) rfl hf (fun hf => ?_) (fun hf => ?_)
        · obtain ⟨rfl, rfl, rfl⟩ := q_inj3 (Option.some.inj hf)
          exact JE14 _ _ _ hP hD hS (lv_sub hl [2] rfl)
        · refine lv_aload_n (pc := 21) hx hb dX9_spreadOn_21 rfl (lv_at hl 0 rfl) ?_
          refine va_get (pc := 22) (D := D) (ci := 9) (v := .ref a_ws) (C := RX9) (T := TX9) (N := 4) hx hb hts hinX9 hown hK hP 0 rfl rfl 0 (by decide) w_1 (fun _ h9 => h9) rfl dX9_spreadOn_22 ?_
          refine lv_iload (pc := 25) hx hb dX9_spreadOn_25 (lv_at hl 4 rfl) ?_
          obtain ⟨v10, hm27, hf⟩ := q_b1_e hf
          refine q_cVr (pc := 27) (As := [.int v4]) (rest := []) (v0 := (some (.int v10))) ⟨hx, hb, hml, hown, hts⟩ hK hA hZ hP hD hS hl.1 [3, 4, 5] 6 rfl ⟨rfl, rfl, rfl⟩ (c_Spot_besideKey l D ci A sa N (Rw) a_ws a_g a_ws_first a_ws_many a_ws_corner ws_cornerCount ws_level ws_row ws_start ws_place ws_length ws_cap ws_first ws_many v4 v10 hm27) 3 rfl rfl (cwV 1 hts gX9_spreadOn_X6_besideKey rfl rfl rfl (by decide +kernel) ⟨Nat.le_of_ble_eq_true rfl, Nat.le_of_ble_eq_true rfl⟩) rfl rfl (Nat.le_of_ble_eq_true rfl) dX9_spreadOn_27 ⟨Nat.zero_le _, Nat.zero_le _⟩ (fun locs hS => ?_)
          refine lv_istore (pc := 30) (lv' := [(6, .int v10), (0, .ref a_wk), (1, .int p1), (3, .int v3), (4, .int v1), (5, .int v4)]) hx hb dX9_spreadOn_30 hl (by decide) rfl (fun ls hl => ?_)
          refine lv_aload_n (pc := 32) hx hb dX9_spreadOn_32 rfl (lv_at hl 1 rfl) ?_
          refine va_get (pc := 33) (D := D) (ci := 9) (v := .ref a_wk_steps) (C := RX9) (T := TX9) (N := 4) hx hb hts hinX9 hown hK hP 0 rfl rfl 1 (by decide) w_2 (fun _ h9 => h9) rfl dX9_spreadOn_33 ?_
          refine lv_iload (pc := 36) hx hb dX9_spreadOn_36 (lv_at hl 0 rfl) ?_
          refine q_iald (pc := 38) hx hb hK hP 1 0 hf rfl rfl dX9_spreadOn_38 (fun v11 hf => ?_)
          refine lv_iconst (pc := 39) (v := (-1)) hx hb dX9_spreadOn_39 (by decide) ?_
          obtain ⟨k70, ek70, hf⟩ := q_j3_e hf
          have J70 : ∀ (v12 : Int32) (f13 : Nat → Int32) (f14 : Nat → Int32) (H : Heap) (locs : List Loc) (ls : Array Slot), k70 v12 f13 f14 = some (v7, f8, f9) → va_P D vwCl ((a_wk, .inr (9, [.ref a_ws, .ref a_wk_steps, .ref a_wk_reached, .int wk_many])) :: (a_wk_steps, .inl (ci 0, n_wk_steps, .inl f13)) :: (a_wk_reached, .inl (ci 0, n_wk_reached, .inl f14)) :: (a_ws, .inr (6, [.ref a_g, .ref a_ws_first, .ref a_ws_many, .ref a_ws_corner, .int ws_cornerCount, .int ws_level, .int ws_row, .int ws_start, .int ws_place, .int ws_length, .int ws_cap])) :: (a_ws_first, .inl (ci 0, 4, .inl ws_first)) :: (a_ws_many, .inl (ci 0, 4, .inl ws_many)) :: Rw) H → va_D A ((a_wk, .inr (9, [.ref a_ws, .ref a_wk_steps, .ref a_wk_reached, .int wk_many])) :: (a_wk_steps, .inl (ci 0, n_wk_steps, .inl f13)) :: (a_wk_reached, .inl (ci 0, n_wk_reached, .inl f14)) :: (a_ws, .inr (6, [.ref a_g, .ref a_ws_first, .ref a_ws_many, .ref a_ws_corner, .int ws_cornerCount, .int ws_level, .int ws_row, .int ws_start, .int ws_place, .int ws_length, .int ws_cap])) :: (a_ws_first, .inl (ci 0, 4, .inl ws_first)) :: (a_ws_many, .inl (ci 0, 4, .inl ws_many)) :: Rw) → va_S A s.heap H locs → lv_has ls 7 [(0, .ref a_wk), (1, .int p1), (3, .int v12), (4, .int v1), (5, .int v4)] → W p l e ({ frames := 2, cells := 0, slots := 0, locals := 62 } : Room) s m ([.ref a_wk, .int p1, .int p2] : List Value).toArray below meth c H locs 0 0 Q (F0 m 70 ls []) := by
            intro v12 f13 f14 H locs ls hf hP hD hS hl
            have hf := (ek70 v12 f13 f14).symm.trans hf
            obtain ⟨v15, ev15, hf⟩ := q_nm_e hf
            refine lv_iinc (pc := 70) (v := v15) (lv' := [(5, .int v15), (0, .ref a_wk), (1, .int p1), (3, .int v12), (4, .int v1)]) hx hb dX9_spreadOn_70 hl (k := 4) rfl (by rw [ev15]; rfl) (by decide) rfl (fun ls hl => ?_)
            refine lv_goto (pc := 73) (tgt := 14) hx hb dX9_spreadOn_73 (by decide) ?_
            exact ih14 v12 v15 f13 f14 _ _ _ hf hP hD hS (lv_sub hl [1, 2, 3, 4, 0] rfl)
          refine q_icmp_ne (pc := 40) (tgt := 70) hx hb dX9_spreadOn_40 (by decide) rfl hf (fun hf => ?_) (fun hf => ?_)
          · exact J70 v3 f5 f6 _ _ _ hf hP hD hS (lv_sub hl [1, 2, 3, 4, 5] rfl)
          · refine lv_iload_n (pc := 43) hx hb dX9_spreadOn_43 rfl (lv_at hl 3 rfl) ?_
            refine lv_aload_n (pc := 44) hx hb dX9_spreadOn_44 rfl (lv_at hl 1 rfl) ?_
            refine va_get (pc := 45) (D := D) (ci := 9) (v := .int wk_many) (C := RX9) (T := TX9) (N := 4) hx hb hts hinX9 hown hK hP 0 rfl rfl 3 (by decide) w_3 (fun _ h9 => h9) rfl dX9_spreadOn_45 ?_
            refine q_icmp_ge (pc := 48) (tgt := 70) hx hb dX9_spreadOn_48 (by decide) rfl hf (fun hf => ?_) (fun hf => ?_)
            · exact J70 v3 f5 f6 _ _ _ hf hP hD hS (lv_sub hl [1, 2, 3, 4, 5] rfl)
            · refine lv_aload_n (pc := 51) hx hb dX9_spreadOn_51 rfl (lv_at hl 1 rfl) ?_
              refine va_get (pc := 52) (D := D) (ci := 9) (v := .ref a_wk_steps) (C := RX9) (T := TX9) (N := 4) hx hb hts hinX9 hown hK hP 0 rfl rfl 1 (by decide) w_2 (fun _ h9 => h9) rfl dX9_spreadOn_52 ?_
              refine lv_iload (pc := 55) hx hb dX9_spreadOn_55 (lv_at hl 0 rfl) ?_
              refine lv_iload_n (pc := 57) hx hb dX9_spreadOn_57 rfl (lv_at hl 2 rfl) ?_
              refine q_iast (pc := 58) hx hb hK hP hD hS 1 0 hf rfl rfl dX9_spreadOn_58 (fun f16 H locs hf hP hD hS => ?_)
              obtain ⟨hP, hD⟩ : va_PD D A ((a_wk, .inr (9, [.ref a_ws, .ref a_wk_steps, .ref a_wk_reached, .int wk_many])) :: (a_wk_steps, .inl (ci 0, n_wk_steps, .inl f16)) :: (a_wk_reached, .inl (ci 0, n_wk_reached, .inl f6)) :: (a_ws, .inr (6, [.ref a_g, .ref a_ws_first, .ref a_ws_many, .ref a_ws_corner, .int ws_cornerCount, .int ws_level, .int ws_row, .int ws_start, .int ws_place, .int ws_length, .int ws_cap])) :: (a_ws_first, .inl (ci 0, 4, .inl ws_first)) :: (a_ws_many, .inl (ci 0, 4, .inl ws_many)) :: Rw) H := ⟨hP, hD⟩
              refine lv_aload_n (pc := 59) hx hb dX9_spreadOn_59 rfl (lv_at hl 1 rfl) ?_
              refine va_get (pc := 60) (D := D) (ci := 9) (v := .ref a_wk_reached) (C := RX9) (T := TX9) (N := 4) hx hb hts hinX9 hown hK hP 0 rfl rfl 2 (by decide) w_4 (fun _ h9 => h9) rfl dX9_spreadOn_60 ?_
              refine lv_iload_n (pc := 63) hx hb dX9_spreadOn_63 rfl (lv_at hl 3 rfl) ?_
              refine lv_iload (pc := 64) hx hb dX9_spreadOn_64 (lv_at hl 0 rfl) ?_
              refine q_iast (pc := 66) hx hb hK hP hD hS 2 0 hf rfl rfl dX9_spreadOn_66 (fun f17 H locs hf hP hD hS => ?_)
              obtain ⟨hP, hD⟩ : va_PD D A ((a_wk, .inr (9, [.ref a_ws, .ref a_wk_steps, .ref a_wk_reached, .int wk_many])) :: (a_wk_steps, .inl (ci 0, n_wk_steps, .inl f16)) :: (a_wk_reached, .inl (ci 0, n_wk_reached, .inl f17)) :: (a_ws, .inr (6, [.ref a_g, .ref a_ws_first, .ref a_ws_many, .ref a_ws_corner, .int ws_cornerCount, .int ws_level, .int ws_row, .int ws_start, .int ws_place, .int ws_length, .int ws_cap])) :: (a_ws_first, .inl (ci 0, 4, .inl ws_first)) :: (a_ws_many, .inl (ci 0, 4, .inl ws_many)) :: Rw) H := ⟨hP, hD⟩
              obtain ⟨v18, ev18, hf⟩ := q_nm_e hf
              refine lv_iinc (pc := 67) (v := v18) (lv' := [(3, .int v18), (6, .int v10), (0, .ref a_wk), (1, .int p1), (4, .int v1), (5, .int v4)]) hx hb dX9_spreadOn_67 hl (k := 3) rfl (by rw [ev18]; rfl) (by decide) rfl (fun ls hl => ?_)
              exact J70 v18 f16 f17 _ _ _ hf hP hD hS (lv_sub hl [2, 3, 0, 4, 5] rfl)
    exact LP14 N p2 v2 wk_steps wk_reached _ _ _ hm14 hP hD hS (lv_sub hl [3, 4, 2, 1, 0] rfl)
  exact hgo _ _ rfl hP hS
/-! X9_spread -/
set_option maxRecDepth 100000 in
set_option maxHeartbeats 4000000 in
theorem c_Walk_spread (l : Launch) (D : va_G) (ci : Nat → ClassId) (A : Nat → Prop) (sa : Nat → Nat) (N : Nat) (Rw : va_W) (a_wk : Nat) (a_ws : Nat) (a_wk_steps : Nat) (a_wk_reached : Nat) (n_wk_steps : Nat) (n_wk_reached : Nat) (a_g : Nat) (a_ws_first : Nat) (a_ws_many : Nat) (a_ws_corner : Nat) (a_g_rowCuts : Nat) (a_g_columnCuts : Nat) (a_g_bandRows : Nat) (a_g_zoneColumns : Nat) (a_g_rows : Nat) (a_g_sheets : Nat) (wk_many : Int32) (wk_steps : Nat → Int32) (wk_reached : Nat → Int32) (ws_cornerCount : Int32) (ws_level : Int32) (ws_row : Int32) (ws_start : Int32) (ws_place : Int32) (ws_length : Int32) (ws_cap : Int32) (ws_first : Nat → Int32) (ws_many : Nat → Int32) (g_bandRows : Nat → Int32) (g_zoneColumns : Nat → Int32) (g_rows : Nat → Int32) (g_sheets : Nat → Int32) (p1 : Int32) (p2 : Int32) (o1 : Nat → Int32) (o2 : Nat → Int32) (o3 : Int32) (o4 : Nat → Int32) (o5 : Nat → Int32) (o6 : Int32) (o7 : Int32) (o8 : Int32) (o9 : Int32) (o10 : Int32) (o11 : Int32) (hf : f_Walk_spread N n_wk_steps n_wk_reached wk_steps wk_reached wk_many ws_first ws_many ws_level ws_row ws_start ws_place ws_length ws_cap g_bandRows g_zoneColumns g_rows g_sheets p1 p2 = some (o1, o2, o3, o4, o5, o6, o7, o8, o9, o10, o11)) : Met l yX9_spread wsX9_spread ({ frames := 3, cells := 0, slots := 0, locals := 88 }) (va_Pc [.ref a_wk, .int p1, .int p2] (q_N D ci A sa ((a_wk, .inr (9, [.ref a_ws, .ref a_wk_steps, .ref a_wk_reached, .int wk_many])) :: (a_wk_steps, .inl (ci 0, n_wk_steps, .inl wk_steps)) :: (a_wk_reached, .inl (ci 0, n_wk_reached, .inl wk_reached)) :: (a_ws, .inr (6, [.ref a_g, .ref a_ws_first, .ref a_ws_many, .ref a_ws_corner, .int ws_cornerCount, .int ws_level, .int ws_row, .int ws_start, .int ws_place, .int ws_length, .int ws_cap])) :: (a_ws_first, .inl (ci 0, 4, .inl ws_first)) :: (a_ws_many, .inl (ci 0, 4, .inl ws_many)) :: (a_g, .inr (2, [.ref a_g_rowCuts, .ref a_g_columnCuts, .ref a_g_bandRows, .ref a_g_zoneColumns, .ref a_g_rows, .ref a_g_sheets])) :: (a_g_bandRows, .inl (ci 0, 5, .inl g_bandRows)) :: (a_g_zoneColumns, .inl (ci 0, 5, .inl g_zoneColumns)) :: (a_g_rows, .inl (ci 0, 5, .inl g_rows)) :: (a_g_sheets, .inl (ci 0, 5, .inl g_sheets)) :: Rw))) (q_Q none (q_O D A ((a_wk, .inr (9, [.ref a_ws, .ref a_wk_steps, .ref a_wk_reached, .int o3])) :: (a_wk_steps, .inl (ci 0, n_wk_steps, .inl o1)) :: (a_wk_reached, .inl (ci 0, n_wk_reached, .inl o2)) :: (a_ws, .inr (6, [.ref a_g, .ref a_ws_first, .ref a_ws_many, .ref a_ws_corner, .int ws_cornerCount, .int o6, .int o7, .int o8, .int o9, .int o10, .int o11])) :: (a_ws_first, .inl (ci 0, 4, .inl o4)) :: (a_ws_many, .inl (ci 0, 4, .inl o5)) :: (a_g, .inr (2, [.ref a_g_rowCuts, .ref a_g_columnCuts, .ref a_g_bandRows, .ref a_g_zoneColumns, .ref a_g_rows, .ref a_g_sheets])) :: (a_g_bandRows, .inl (ci 0, 5, .inl g_bandRows)) :: (a_g_zoneColumns, .inl (ci 0, 5, .inl g_zoneColumns)) :: (a_g_rows, .inl (ci 0, 5, .inl g_rows)) :: (a_g_sheets, .inl (ci 0, 5, .inl g_sheets)) :: Rw)) A) 0 0 A := by
  refine q_ofW (cc := cX9_spread) (maxL := 5) (ret := none) [.ref a_wk, .int p1, .int p2] (plainFor_of_name (by decide)) rfl (Nat.le_of_ble_eq_true rfl) ?_
  intro p e s m below meth c ls Q hQ hx hb hml hr hts hown hlocks hK hA hZ hP hD hS hl
  have hl : lv_has ls 5 [(0, .ref a_wk), (1, .int p1), (2, .int p2)] := hl
  have hown : s.vm.findClass RX9 = some m.cls := hown
  have hinX2 : ∀ w ∈ wsX20, w ∈ wsX9_spread := fun _ h => List.mem_cons_of_mem _ (inWX20 _ h)
  have hinX6 : ∀ w ∈ wsX60, w ∈ wsX9_spread := fun _ h => List.mem_cons_of_mem _ (inWX60 _ h)
  have hinX9 : ∀ w ∈ wsX90, w ∈ wsX9_spread := fun _ h => List.mem_cons_of_mem _ (inWX90 _ h)
  have w_1 := hts (Cond.fieldLink RX9 27 "SheetNames$Walk" "spot" "LSheetNames$Spot;") (List.mem_cons_of_mem _ t_w825)
  have w_2 := hts (Cond.fieldLink RX9 15 "SheetNames$Walk" "reached" "[I") (List.mem_cons_of_mem _ t_w826)
  have w_3 := hts (Cond.fieldLink RX9 9 "SheetNames$Walk" "steps" "[I") (List.mem_cons_of_mem _ t_w824)
  have w_4 := hts (Cond.fieldLink RX9 18 "SheetNames$Walk" "many" "I") (List.mem_cons_of_mem _ t_w823)
  have wn_61 : (Cond.fieldLinkNest "SheetNames$Walk" 31 "SheetNames$Spot" "grid" "LSheetNames$Grid;" "SheetNames").before ([.ref a_wk, .int p1, .int p2] : List Value).toArray s = true := (hZ.2.2.2.2.2.2.2.2.2.1 _ (List.mem_of_getElem? (i := 61) rfl)).use rfl
  have wn_62 : (Cond.fieldLinkNest "SheetNames$Walk" 35 "SheetNames$Grid" "sheets" "[I" "SheetNames").before ([.ref a_wk, .int p1, .int p2] : List Value).toArray s = true := (hZ.2.2.2.2.2.2.2.2.2.1 _ (List.mem_of_getElem? (i := 62) rfl)).use rfl
  unfold f_Walk_spread at hf
  have hgo : ∀ (H : Heap) (locs : List Loc), H = s.heap → va_P D vwCl ((a_wk, .inr (9, [.ref a_ws, .ref a_wk_steps, .ref a_wk_reached, .int wk_many])) :: (a_wk_steps, .inl (ci 0, n_wk_steps, .inl wk_steps)) :: (a_wk_reached, .inl (ci 0, n_wk_reached, .inl wk_reached)) :: (a_ws, .inr (6, [.ref a_g, .ref a_ws_first, .ref a_ws_many, .ref a_ws_corner, .int ws_cornerCount, .int ws_level, .int ws_row, .int ws_start, .int ws_place, .int ws_length, .int ws_cap])) :: (a_ws_first, .inl (ci 0, 4, .inl ws_first)) :: (a_ws_many, .inl (ci 0, 4, .inl ws_many)) :: (a_g, .inr (2, [.ref a_g_rowCuts, .ref a_g_columnCuts, .ref a_g_bandRows, .ref a_g_zoneColumns, .ref a_g_rows, .ref a_g_sheets])) :: (a_g_bandRows, .inl (ci 0, 5, .inl g_bandRows)) :: (a_g_zoneColumns, .inl (ci 0, 5, .inl g_zoneColumns)) :: (a_g_rows, .inl (ci 0, 5, .inl g_rows)) :: (a_g_sheets, .inl (ci 0, 5, .inl g_sheets)) :: Rw) H → va_S A s.heap H locs → W p l e ({ frames := 3, cells := 0, slots := 0, locals := 88 } : Room) s m ([.ref a_wk, .int p1, .int p2] : List Value).toArray below meth c H locs 0 0 Q (F0 m 0 ls []) := by
    intro H locs hH hP hS
    refine lv_aload_n (pc := 0) hx hb dX9_spread_0 rfl (lv_at hl 0 rfl) ?_
    refine lv_aload_n (pc := 1) hx hb dX9_spread_1 rfl (lv_at hl 0 rfl) ?_
    refine va_get (pc := 2) (D := D) (ci := 9) (v := .ref a_ws) (C := RX9) (T := TX9) (N := 4) hx hb hts hinX9 hown hK hP 0 rfl rfl 0 (by decide) w_1 (fun _ h9 => h9) rfl dX9_spread_2 ?_
    refine va_getN (pc := 5) (D := D) (ci := 6) (v := .ref a_g) (C := RX6) (T := TX6) (N := 11) hx hb hts hinX6 hown hK hP 3 rfl rfl 0 (by decide) wn_61 (fun _ h9 => h9) rfl dX9_spread_5 ?_
    refine va_getN (pc := 8) (D := D) (ci := 2) (v := .ref a_g_sheets) (C := RX2) (T := TX2) (N := 6) hx hb hts hinX2 hown hK hP 6 rfl rfl 5 (by decide) wn_62 (fun _ h9 => h9) rfl dX9_spread_8 ?_
    refine lv_iload_n (pc := 11) hx hb dX9_spread_11 rfl (lv_at hl 1 rfl) ?_
    refine q_iald (pc := 12) hx hb hK hP 10 0 hf rfl rfl dX9_spread_12 (fun v1 hf => ?_)
    obtain ⟨f2, v3, hm13, hf⟩ := q_b2_e hf
    refine q_cV (pc := 13) (As := [.int v1]) (rest := []) (v0 := none) ⟨hx, hb, hml, hown, hts⟩ hK hA hZ hP hD hS hl.1 [0, 1, 2, 3, 4, 5, 6, 7, 8, 9, 10] 11 rfl ⟨rfl, rfl, rfl⟩ (c_Walk_makeRoom l D ci A sa N ((a_wk_reached, .inl (ci 0, n_wk_reached, .inl wk_reached)) :: (a_ws, .inr (6, [.ref a_g, .ref a_ws_first, .ref a_ws_many, .ref a_ws_corner, .int ws_cornerCount, .int ws_level, .int ws_row, .int ws_start, .int ws_place, .int ws_length, .int ws_cap])) :: (a_ws_first, .inl (ci 0, 4, .inl ws_first)) :: (a_ws_many, .inl (ci 0, 4, .inl ws_many)) :: (a_g, .inr (2, [.ref a_g_rowCuts, .ref a_g_columnCuts, .ref a_g_bandRows, .ref a_g_zoneColumns, .ref a_g_rows, .ref a_g_sheets])) :: (a_g_bandRows, .inl (ci 0, 5, .inl g_bandRows)) :: (a_g_zoneColumns, .inl (ci 0, 5, .inl g_zoneColumns)) :: (a_g_rows, .inl (ci 0, 5, .inl g_rows)) :: (a_g_sheets, .inl (ci 0, 5, .inl g_sheets)) :: Rw) a_wk a_ws a_wk_steps a_wk_reached n_wk_steps wk_many wk_steps v1 f2 v3 hm13) 0 rfl rfl (cwV 1 hts gX9_spread_X9_makeRoom rfl rfl rfl (by decide +kernel) ⟨Nat.le_of_ble_eq_true rfl, Nat.le_of_ble_eq_true rfl⟩) rfl rfl (Nat.le_of_ble_eq_true rfl) dX9_spread_13 ⟨Nat.zero_le _, Nat.zero_le _⟩ [0, 1, 2, 3, 4, 5, 6, 7, 8, 9, 10] 11 rfl ⟨rfl, rfl, rfl⟩ (fun H locs hP hD hS => ?_)
    obtain ⟨hP, hD⟩ : va_PD D A ((a_wk, .inr (9, [.ref a_ws, .ref a_wk_steps, .ref a_wk_reached, .int v3])) :: (a_wk_steps, .inl (ci 0, n_wk_steps, .inl f2)) :: (a_wk_reached, .inl (ci 0, n_wk_reached, .inl wk_reached)) :: (a_ws, .inr (6, [.ref a_g, .ref a_ws_first, .ref a_ws_many, .ref a_ws_corner, .int ws_cornerCount, .int ws_level, .int ws_row, .int ws_start, .int ws_place, .int ws_length, .int ws_cap])) :: (a_ws_first, .inl (ci 0, 4, .inl ws_first)) :: (a_ws_many, .inl (ci 0, 4, .inl ws_many)) :: (a_g, .inr (2, [.ref a_g_rowCuts, .ref a_g_columnCuts, .ref a_g_bandRows, .ref a_g_zoneColumns, .ref a_g_rows, .ref a_g_sheets])) :: (a_g_bandRows, .inl (ci 0, 5, .inl g_bandRows)) :: (a_g_zoneColumns, .inl (ci 0, 5, .inl g_zoneColumns)) :: (a_g_rows, .inl (ci 0, 5, .inl g_rows)) :: (a_g_sheets, .inl (ci 0, 5, .inl g_sheets)) :: Rw) H := ⟨hP, hD⟩
    refine lv_aload_n (pc := 16) hx hb dX9_spread_16 rfl (lv_at hl 0 rfl) ?_
    refine va_get (pc := 17) (D := D) (ci := 9) (v := .ref a_wk_reached) (C := RX9) (T := TX9) (N := 4) hx hb hts hinX9 hown hK hP 0 rfl rfl 2 (by decide) w_2 (fun _ h9 => h9) rfl dX9_spread_17 ?_
    refine lv_iconst (pc := 20) (v := 0) hx hb dX9_spread_20 (by decide) ?_
    refine lv_iload_n (pc := 21) hx hb dX9_spread_21 rfl (lv_at hl 2 rfl) ?_
    refine q_iast (pc := 22) hx hb hK hP hD hS 2 0 hf rfl rfl dX9_spread_22 (fun f4 H locs hf hP hD hS => ?_)
    obtain ⟨hP, hD⟩ : va_PD D A ((a_wk, .inr (9, [.ref a_ws, .ref a_wk_steps, .ref a_wk_reached, .int v3])) :: (a_wk_steps, .inl (ci 0, n_wk_steps, .inl f2)) :: (a_wk_reached, .inl (ci 0, n_wk_reached, .inl f4)) :: (a_ws, .inr (6, [.ref a_g, .ref a_ws_first, .ref a_ws_many, .ref a_ws_corner, .int ws_cornerCount, .int ws_level, .int ws_row, .int ws_start, .int ws_place, .int ws_length, .int ws_cap])) :: (a_ws_first, .inl (ci 0, 4, .inl ws_first)) :: (a_ws_many, .inl (ci 0, 4, .inl ws_many)) :: (a_g, .inr (2, [.ref a_g_rowCuts, .ref a_g_columnCuts, .ref a_g_bandRows, .ref a_g_zoneColumns, .ref a_g_rows, .ref a_g_sheets])) :: (a_g_bandRows, .inl (ci 0, 5, .inl g_bandRows)) :: (a_g_zoneColumns, .inl (ci 0, 5, .inl g_zoneColumns)) :: (a_g_rows, .inl (ci 0, 5, .inl g_rows)) :: (a_g_sheets, .inl (ci 0, 5, .inl g_sheets)) :: Rw) H := ⟨hP, hD⟩
    refine lv_aload_n (pc := 23) hx hb dX9_spread_23 rfl (lv_at hl 0 rfl) ?_
    refine va_get (pc := 24) (D := D) (ci := 9) (v := .ref a_wk_steps) (C := RX9) (T := TX9) (N := 4) hx hb hts hinX9 hown hK hP 0 rfl rfl 1 (by decide) w_3 (fun _ h9 => h9) rfl dX9_spread_24 ?_
    refine lv_iload_n (pc := 27) hx hb dX9_spread_27 rfl (lv_at hl 2 rfl) ?_
    refine lv_iconst (pc := 28) (v := 0) hx hb dX9_spread_28 (by decide) ?_
    refine q_iast (pc := 29) hx hb hK hP hD hS 1 0 hf rfl rfl dX9_spread_29 (fun f5 H locs hf hP hD hS => ?_)
    obtain ⟨hP, hD⟩ : va_PD D A ((a_wk, .inr (9, [.ref a_ws, .ref a_wk_steps, .ref a_wk_reached, .int v3])) :: (a_wk_steps, .inl (ci 0, n_wk_steps, .inl f5)) :: (a_wk_reached, .inl (ci 0, n_wk_reached, .inl f4)) :: (a_ws, .inr (6, [.ref a_g, .ref a_ws_first, .ref a_ws_many, .ref a_ws_corner, .int ws_cornerCount, .int ws_level, .int ws_row, .int ws_start, .int ws_place, .int ws_length, .int ws_cap])) :: (a_ws_first, .inl (ci 0, 4, .inl ws_first)) :: (a_ws_many, .inl (ci 0, 4, .inl ws_many)) :: (a_g, .inr (2, [.ref a_g_rowCuts, .ref a_g_columnCuts, .ref a_g_bandRows, .ref a_g_zoneColumns, .ref a_g_rows, .ref a_g_sheets])) :: (a_g_bandRows, .inl (ci 0, 5, .inl g_bandRows)) :: (a_g_zoneColumns, .inl (ci 0, 5, .inl g_zoneColumns)) :: (a_g_rows, .inl (ci 0, 5, .inl g_rows)) :: (a_g_sheets, .inl (ci 0, 5, .inl g_sheets)) :: Rw) H := ⟨hP, hD⟩
    refine lv_iconst (pc := 30) (v := 1) hx hb dX9_spread_30 (by decide) ?_
    obtain ⟨v6, ev6, hf⟩ := q_nm_e hf
    refine q_topi ev6 ?_
    refine lv_istore_n (pc := 31) (lv' := [(3, .int v6), (0, .ref a_wk), (1, .int p1), (2, .int p2)]) hx hb dX9_spread_31 rfl hl (by decide) rfl (fun ls hl => ?_)
    refine lv_iconst (pc := 32) (v := 0) hx hb dX9_spread_32 (by decide) ?_
    obtain ⟨v7, ev7, hf⟩ := q_nm_e hf
    refine q_topi ev7 ?_
    refine lv_istore (pc := 33) (lv' := [(4, .int v7), (3, .int v6), (0, .ref a_wk), (1, .int p1), (2, .int p2)]) hx hb dX9_spread_33 hl (by decide) rfl (fun ls hl => ?_)
    obtain ⟨f20, f21, f22, f23, v24, v25, v26, v27, v28, v29, hm35, hf⟩ := q_b10_e hf
    have JE35 : ∀ (H : Heap) (locs : List Loc) (ls : Array Slot), va_P D vwCl ((a_wk, .inr (9, [.ref a_ws, .ref a_wk_steps, .ref a_wk_reached, .int v3])) :: (a_wk_steps, .inl (ci 0, n_wk_steps, .inl f20)) :: (a_wk_reached, .inl (ci 0, n_wk_reached, .inl f21)) :: (a_ws, .inr (6, [.ref a_g, .ref a_ws_first, .ref a_ws_many, .ref a_ws_corner, .int ws_cornerCount, .int v24, .int v25, .int v26, .int v27, .int v28, .int v29])) :: (a_ws_first, .inl (ci 0, 4, .inl f22)) :: (a_ws_many, .inl (ci 0, 4, .inl f23)) :: (a_g, .inr (2, [.ref a_g_rowCuts, .ref a_g_columnCuts, .ref a_g_bandRows, .ref a_g_zoneColumns, .ref a_g_rows, .ref a_g_sheets])) :: (a_g_bandRows, .inl (ci 0, 5, .inl g_bandRows)) :: (a_g_zoneColumns, .inl (ci 0, 5, .inl g_zoneColumns)) :: (a_g_rows, .inl (ci 0, 5, .inl g_rows)) :: (a_g_sheets, .inl (ci 0, 5, .inl g_sheets)) :: Rw) H → va_D A ((a_wk, .inr (9, [.ref a_ws, .ref a_wk_steps, .ref a_wk_reached, .int v3])) :: (a_wk_steps, .inl (ci 0, n_wk_steps, .inl f20)) :: (a_wk_reached, .inl (ci 0, n_wk_reached, .inl f21)) :: (a_ws, .inr (6, [.ref a_g, .ref a_ws_first, .ref a_ws_many, .ref a_ws_corner, .int ws_cornerCount, .int v24, .int v25, .int v26, .int v27, .int v28, .int v29])) :: (a_ws_first, .inl (ci 0, 4, .inl f22)) :: (a_ws_many, .inl (ci 0, 4, .inl f23)) :: (a_g, .inr (2, [.ref a_g_rowCuts, .ref a_g_columnCuts, .ref a_g_bandRows, .ref a_g_zoneColumns, .ref a_g_rows, .ref a_g_sheets])) :: (a_g_bandRows, .inl (ci 0, 5, .inl g_bandRows)) :: (a_g_zoneColumns, .inl (ci 0, 5, .inl g_zoneColumns)) :: (a_g_rows, .inl (ci 0, 5, .inl g_rows)) :: (a_g_sheets, .inl (ci 0, 5, .inl g_sheets)) :: Rw) → va_S A s.heap H locs → lv_has ls 5 [] → W p l e ({ frames := 3, cells := 0, slots := 0, locals := 88 } : Room) s m ([.ref a_wk, .int p1, .int p2] : List Value).toArray below meth c H locs 0 0 Q (F0 m 98 ls []) := by
      intro H locs ls hP hD hS hl
      obtain ⟨e90, e91, e92, e93, e94, e95, e96, e97, e98, e99, e910⟩ := q_inj11 (Option.some.inj hf)
      rw [hQ, ← e90, ← e91, ← e92, ← e93, ← e94, ← e95, ← e96, ← e97, ← e98, ← e99, ← e910]
      exact q_vret (pc := 98) hx hb hr hlocks hP hD hS dX9_spread_98
    have LP35 : ∀ (n35 : Nat) (v8 : Int32) (v9 : Int32) (f10 : Nat → Int32) (f11 : Nat → Int32) (f12 : Nat → Int32) (f13 : Nat → Int32) (v14 : Int32) (v15 : Int32) (v16 : Int32) (v17 : Int32) (v18 : Int32) (v19 : Int32) (H : Heap) (locs : List Loc) (ls : Array Slot), f_Walk_spread_L35 N g_bandRows g_rows g_sheets g_zoneColumns n_wk_reached n_wk_steps p1 v3 n35 v8 v9 f10 f11 f12 f13 v14 v15 v16 v17 v18 v19 = some (f20, f21, f22, f23, v24, v25, v26, v27, v28, v29) → va_P D vwCl ((a_wk, .inr (9, [.ref a_ws, .ref a_wk_steps, .ref a_wk_reached, .int v3])) :: (a_wk_steps, .inl (ci 0, n_wk_steps, .inl f10)) :: (a_wk_reached, .inl (ci 0, n_wk_reached, .inl f11)) :: (a_ws, .inr (6, [.ref a_g, .ref a_ws_first, .ref a_ws_many, .ref a_ws_corner, .int ws_cornerCount, .int v14, .int v15, .int v16, .int v17, .int v18, .int v19])) :: (a_ws_first, .inl (ci 0, 4, .inl f12)) :: (a_ws_many, .inl (ci 0, 4, .inl f13)) :: (a_g, .inr (2, [.ref a_g_rowCuts, .ref a_g_columnCuts, .ref a_g_bandRows, .ref a_g_zoneColumns, .ref a_g_rows, .ref a_g_sheets])) :: (a_g_bandRows, .inl (ci 0, 5, .inl g_bandRows)) :: (a_g_zoneColumns, .inl (ci 0, 5, .inl g_zoneColumns)) :: (a_g_rows, .inl (ci 0, 5, .inl g_rows)) :: (a_g_sheets, .inl (ci 0, 5, .inl g_sheets)) :: Rw) H → va_D A ((a_wk, .inr (9, [.ref a_ws, .ref a_wk_steps, .ref a_wk_reached, .int v3])) :: (a_wk_steps, .inl (ci 0, n_wk_steps, .inl f10)) :: (a_wk_reached, .inl (ci 0, n_wk_reached, .inl f11)) :: (a_ws, .inr (6, [.ref a_g, .ref a_ws_first, .ref a_ws_many, .ref a_ws_corner, .int ws_cornerCount, .int v14, .int v15, .int v16, .int v17, .int v18, .int v19])) :: (a_ws_first, .inl (ci 0, 4, .inl f12)) :: (a_ws_many, .inl (ci 0, 4, .inl f13)) :: (a_g, .inr (2, [.ref a_g_rowCuts, .ref a_g_columnCuts, .ref a_g_bandRows, .ref a_g_zoneColumns, .ref a_g_rows, .ref a_g_sheets])) :: (a_g_bandRows, .inl (ci 0, 5, .inl g_bandRows)) :: (a_g_zoneColumns, .inl (ci 0, 5, .inl g_zoneColumns)) :: (a_g_rows, .inl (ci 0, 5, .inl g_rows)) :: (a_g_sheets, .inl (ci 0, 5, .inl g_sheets)) :: Rw) → va_S A s.heap H locs → lv_has ls 5 [(0, .ref a_wk), (1, .int p1), (3, .int v8), (4, .int v9)] → W p l e ({ frames := 3, cells := 0, slots := 0, locals := 88 } : Room) s m ([.ref a_wk, .int p1, .int p2] : List Value).toArray below meth c H locs 0 0 Q (F0 m 35 ls []) := by
      intro n35
      induction n35 with
      | zero => intro v8 v9 f10 f11 f12 f13 v14 v15 v16 v17 v18 v19 H locs ls hf; rw [f_Walk_spread_L35] at hf; cases hf
      | succ n35 ih35 =>
        intro v8 v9 f10 f11 f12 f13 v14 v15 v16 v17 v18 v19 H locs ls hf hP hD hS hl
        rw [f_Walk_spread_L35] at hf
        refine lv_iload (pc := 35) hx hb dX9_spread_35 (lv_at hl 3 rfl) ?_
        refine lv_iload_n (pc := 37) hx hb dX9_spread_37 rfl (lv_at hl 2 rfl) ?_
        refine q_icmp_ge (pc := 38) (tgt := 98) hx hb dX9_spread_38 (by decide) rfl hf (fun hf => ?_) (fun hf => ?_)
        · obtain ⟨rfl, rfl, rfl, rfl, rfl, rfl, rfl, rfl, rfl, rfl⟩ := q_inj10 (Option.some.inj hf)
          exact JE35 _ _ _ hP hD hS (lv_sub hl [] rfl)
        · refine lv_iload (pc := 41) hx hb dX9_spread_41 (lv_at hl 3 rfl) ?_
          refine lv_aload_n (pc := 43) hx hb dX9_spread_43 rfl (lv_at hl 0 rfl) ?_
          refine va_get (pc := 44) (D := D) (ci := 9) (v := .int v3) (C := RX9) (T := TX9) (N := 4) hx hb hts hinX9 hown hK hP 0 rfl rfl 3 (by decide) w_4 (fun _ h9 => h9) rfl dX9_spread_44 ?_
          refine q_icmp_ge (pc := 47) (tgt := 98) hx hb dX9_spread_47 (by decide) rfl hf (fun hf => ?_) (fun hf => ?_)
          · obtain ⟨rfl, rfl, rfl, rfl, rfl, rfl, rfl, rfl, rfl, rfl⟩ := q_inj10 (Option.some.inj hf)
            exact JE35 _ _ _ hP hD hS (lv_sub hl [] rfl)
          · refine lv_aload_n (pc := 50) hx hb dX9_spread_50 rfl (lv_at hl 0 rfl) ?_
            refine va_get (pc := 51) (D := D) (ci := 9) (v := .ref a_ws) (C := RX9) (T := TX9) (N := 4) hx hb hts hinX9 hown hK hP 0 rfl rfl 0 (by decide) w_1 (fun _ h9 => h9) rfl dX9_spread_51 ?_
            refine lv_iload_n (pc := 54) hx hb dX9_spread_54 rfl (lv_at hl 1 rfl) ?_
            refine lv_aload_n (pc := 55) hx hb dX9_spread_55 rfl (lv_at hl 0 rfl) ?_
            refine va_get (pc := 56) (D := D) (ci := 9) (v := .ref a_wk_reached) (C := RX9) (T := TX9) (N := 4) hx hb hts hinX9 hown hK hP 0 rfl rfl 2 (by decide) w_2 (fun _ h9 => h9) rfl dX9_spread_56 ?_
            refine lv_iload (pc := 59) hx hb dX9_spread_59 (lv_at hl 3 rfl) ?_
            refine q_iald (pc := 61) hx hb hK hP 2 0 hf rfl rfl dX9_spread_61 (fun v30 hf => ?_)
            obtain ⟨v31, v32, v33, v34, v35, v36, hm62, hf⟩ := q_b6_e hf
            refine q_cV (pc := 62) (As := [.int p1, .int v30]) (rest := []) (v0 := none) ⟨hx, hb, hml, hown, hts⟩ hK hA hZ hP hD hS hl.1 [3, 6, 7, 8, 9, 10, 0, 1, 2, 4, 5] 11 rfl ⟨rfl, rfl, rfl⟩ (c_Spot_put l D ci A sa N ((a_wk, .inr (9, [.ref a_ws, .ref a_wk_steps, .ref a_wk_reached, .int v3])) :: (a_wk_steps, .inl (ci 0, n_wk_steps, .inl f10)) :: (a_wk_reached, .inl (ci 0, n_wk_reached, .inl f11)) :: (a_ws_first, .inl (ci 0, 4, .inl f12)) :: (a_ws_many, .inl (ci 0, 4, .inl f13)) :: Rw) a_ws a_g a_ws_first a_ws_many a_ws_corner a_g_rowCuts a_g_columnCuts a_g_bandRows a_g_zoneColumns a_g_rows a_g_sheets ws_cornerCount v14 v15 v16 v17 v18 v19 g_bandRows g_zoneColumns g_rows g_sheets p1 v30 v31 v32 v33 v34 v35 v36 hm62) 3 rfl rfl (cwV 2 hts gX9_spread_X6_put rfl rfl rfl (by decide +kernel) ⟨Nat.le_of_ble_eq_true rfl, Nat.le_of_ble_eq_true rfl⟩) rfl rfl (Nat.le_of_ble_eq_true rfl) dX9_spread_62 ⟨Nat.zero_le _, Nat.zero_le _⟩ [6, 7, 8, 0, 9, 10, 1, 2, 3, 4, 5] 11 rfl ⟨rfl, rfl, rfl⟩ (fun H locs hP hD hS => ?_)
            obtain ⟨hP, hD⟩ : va_PD D A ((a_wk, .inr (9, [.ref a_ws, .ref a_wk_steps, .ref a_wk_reached, .int v3])) :: (a_wk_steps, .inl (ci 0, n_wk_steps, .inl f10)) :: (a_wk_reached, .inl (ci 0, n_wk_reached, .inl f11)) :: (a_ws, .inr (6, [.ref a_g, .ref a_ws_first, .ref a_ws_many, .ref a_ws_corner, .int ws_cornerCount, .int v31, .int v32, .int v33, .int v34, .int v35, .int v36])) :: (a_ws_first, .inl (ci 0, 4, .inl f12)) :: (a_ws_many, .inl (ci 0, 4, .inl f13)) :: (a_g, .inr (2, [.ref a_g_rowCuts, .ref a_g_columnCuts, .ref a_g_bandRows, .ref a_g_zoneColumns, .ref a_g_rows, .ref a_g_sheets])) :: (a_g_bandRows, .inl (ci 0, 5, .inl g_bandRows)) :: (a_g_zoneColumns, .inl (ci 0, 5, .inl g_zoneColumns)) :: (a_g_rows, .inl (ci 0, 5, .inl g_rows)) :: (a_g_sheets, .inl (ci 0, 5, .inl g_sheets)) :: Rw) H := ⟨hP, hD⟩
            refine lv_aload_n (pc := 65) hx hb dX9_spread_65 rfl (lv_at hl 0 rfl) ?_
            refine va_get (pc := 66) (D := D) (ci := 9) (v := .ref a_ws) (C := RX9) (T := TX9) (N := 4) hx hb hts hinX9 hown hK hP 0 rfl rfl 0 (by decide) w_1 (fun _ h9 => h9) rfl dX9_spread_66 ?_
            obtain ⟨f37, f38, hm69, hf⟩ := q_b2_e hf
            refine q_cV (pc := 69) (As := []) (rest := []) (v0 := none) ⟨hx, hb, hml, hown, hts⟩ hK hA hZ hP hD hS hl.1 [3, 4, 5, 6, 7, 8, 9, 10, 0, 1, 2] 11 rfl ⟨rfl, rfl, rfl⟩ (c_Spot_lookAround l D ci A sa N ((a_wk, .inr (9, [.ref a_ws, .ref a_wk_steps, .ref a_wk_reached, .int v3])) :: (a_wk_steps, .inl (ci 0, n_wk_steps, .inl f10)) :: (a_wk_reached, .inl (ci 0, n_wk_reached, .inl f11)) :: Rw) a_ws a_g a_ws_first a_ws_many a_ws_corner a_g_rowCuts a_g_columnCuts a_g_bandRows a_g_zoneColumns a_g_rows a_g_sheets ws_cornerCount v31 v32 v33 v34 v35 v36 f12 f13 g_bandRows g_zoneColumns g_rows g_sheets f37 f38 hm69) 3 rfl rfl (cwV 0 hts gX9_spread_X6_lookAround rfl rfl rfl (by decide +kernel) ⟨Nat.le_of_ble_eq_true rfl, Nat.le_of_ble_eq_true rfl⟩) rfl rfl (Nat.le_of_ble_eq_true rfl) dX9_spread_69 ⟨Nat.zero_le _, Nat.zero_le _⟩ [8, 9, 10, 0, 1, 2, 3, 4, 5, 6, 7] 11 rfl ⟨rfl, rfl, rfl⟩ (fun H locs hP hD hS => ?_)
            obtain ⟨hP, hD⟩ : va_PD D A ((a_wk, .inr (9, [.ref a_ws, .ref a_wk_steps, .ref a_wk_reached, .int v3])) :: (a_wk_steps, .inl (ci 0, n_wk_steps, .inl f10)) :: (a_wk_reached, .inl (ci 0, n_wk_reached, .inl f11)) :: (a_ws, .inr (6, [.ref a_g, .ref a_ws_first, .ref a_ws_many, .ref a_ws_corner, .int ws_cornerCount, .int v31, .int v32, .int v33, .int v34, .int v35, .int v36])) :: (a_ws_first, .inl (ci 0, 4, .inl f37)) :: (a_ws_many, .inl (ci 0, 4, .inl f38)) :: (a_g, .inr (2, [.ref a_g_rowCuts, .ref a_g_columnCuts, .ref a_g_bandRows, .ref a_g_zoneColumns, .ref a_g_rows, .ref a_g_sheets])) :: (a_g_bandRows, .inl (ci 0, 5, .inl g_bandRows)) :: (a_g_zoneColumns, .inl (ci 0, 5, .inl g_zoneColumns)) :: (a_g_rows, .inl (ci 0, 5, .inl g_rows)) :: (a_g_sheets, .inl (ci 0, 5, .inl g_sheets)) :: Rw) H := ⟨hP, hD⟩
            refine lv_aload_n (pc := 72) hx hb dX9_spread_72 rfl (lv_at hl 0 rfl) ?_
            refine lv_aload_n (pc := 73) hx hb dX9_spread_73 rfl (lv_at hl 0 rfl) ?_
            refine va_get (pc := 74) (D := D) (ci := 9) (v := .ref a_wk_steps) (C := RX9) (T := TX9) (N := 4) hx hb hts hinX9 hown hK hP 0 rfl rfl 1 (by decide) w_3 (fun _ h9 => h9) rfl dX9_spread_74 ?_
            refine lv_aload_n (pc := 77) hx hb dX9_spread_77 rfl (lv_at hl 0 rfl) ?_
            refine va_get (pc := 78) (D := D) (ci := 9) (v := .ref a_wk_reached) (C := RX9) (T := TX9) (N := 4) hx hb hts hinX9 hown hK hP 0 rfl rfl 2 (by decide) w_2 (fun _ h9 => h9) rfl dX9_spread_78 ?_
            refine lv_iload (pc := 81) hx hb dX9_spread_81 (lv_at hl 3 rfl) ?_
            refine q_iald (pc := 83) hx hb hK hP 2 0 hf rfl rfl dX9_spread_83 (fun v39 hf => ?_)
            refine q_iald (pc := 84) hx hb hK hP 1 0 hf rfl rfl dX9_spread_84 (fun v40 hf => ?_)
            refine lv_iconst (pc := 85) (v := 1) hx hb dX9_spread_85 (by decide) ?_
            refine lv_iadd (pc := 86) hx hb dX9_spread_86 ?_
            refine lv_iload_n (pc := 87) hx hb dX9_spread_87 rfl (lv_at hl 2 rfl) ?_
            obtain ⟨v41, f42, f43, hm88, hf⟩ := q_b3_e hf
            refine q_cV (pc := 88) (As := [.int (v40 + 1), .int v8]) (rest := []) (v0 := (some (.int v41))) ⟨hx, hb, hml, hown, hts⟩ hK hA hZ hP hD hS hl.1 [0, 1, 2, 3, 4, 5, 6, 7, 8, 9, 10] 11 rfl ⟨rfl, rfl, rfl⟩ (c_Walk_spreadOn l D ci A sa N ((a_g, .inr (2, [.ref a_g_rowCuts, .ref a_g_columnCuts, .ref a_g_bandRows, .ref a_g_zoneColumns, .ref a_g_rows, .ref a_g_sheets])) :: (a_g_bandRows, .inl (ci 0, 5, .inl g_bandRows)) :: (a_g_zoneColumns, .inl (ci 0, 5, .inl g_zoneColumns)) :: (a_g_rows, .inl (ci 0, 5, .inl g_rows)) :: (a_g_sheets, .inl (ci 0, 5, .inl g_sheets)) :: Rw) a_wk a_ws a_wk_steps a_wk_reached n_wk_steps n_wk_reached a_g a_ws_first a_ws_many a_ws_corner v3 f10 f11 ws_cornerCount v31 v32 v33 v34 v35 v36 f37 f38 (v40 + 1) v8 v41 f42 f43 hm88) 0 rfl rfl (cwV 2 hts gX9_spread_X9_spreadOn rfl rfl rfl (by decide +kernel) ⟨Nat.le_of_ble_eq_true rfl, Nat.le_of_ble_eq_true rfl⟩) rfl rfl (Nat.le_of_ble_eq_true rfl) dX9_spread_88 ⟨Nat.zero_le _, Nat.zero_le _⟩ [0, 1, 2, 3, 4, 5, 6, 7, 8, 9, 10] 11 rfl ⟨rfl, rfl, rfl⟩ (fun H locs hP hD hS => ?_)
            obtain ⟨hP, hD⟩ : va_PD D A ((a_wk, .inr (9, [.ref a_ws, .ref a_wk_steps, .ref a_wk_reached, .int v3])) :: (a_wk_steps, .inl (ci 0, n_wk_steps, .inl f42)) :: (a_wk_reached, .inl (ci 0, n_wk_reached, .inl f43)) :: (a_ws, .inr (6, [.ref a_g, .ref a_ws_first, .ref a_ws_many, .ref a_ws_corner, .int ws_cornerCount, .int v31, .int v32, .int v33, .int v34, .int v35, .int v36])) :: (a_ws_first, .inl (ci 0, 4, .inl f37)) :: (a_ws_many, .inl (ci 0, 4, .inl f38)) :: (a_g, .inr (2, [.ref a_g_rowCuts, .ref a_g_columnCuts, .ref a_g_bandRows, .ref a_g_zoneColumns, .ref a_g_rows, .ref a_g_sheets])) :: (a_g_bandRows, .inl (ci 0, 5, .inl g_bandRows)) :: (a_g_zoneColumns, .inl (ci 0, 5, .inl g_zoneColumns)) :: (a_g_rows, .inl (ci 0, 5, .inl g_rows)) :: (a_g_sheets, .inl (ci 0, 5, .inl g_sheets)) :: Rw) H := ⟨hP, hD⟩
            refine lv_istore_n (pc := 91) (lv' := [(3, .int v41), (0, .ref a_wk), (1, .int p1), (4, .int v9)]) hx hb dX9_spread_91 rfl hl (by decide) rfl (fun ls hl => ?_)
            obtain ⟨v44, ev44, hf⟩ := q_nm_e hf
            refine lv_iinc (pc := 92) (v := v44) (lv' := [(4, .int v44), (3, .int v41), (0, .ref a_wk), (1, .int p1)]) hx hb dX9_spread_92 hl (k := 3) rfl (by rw [ev44]; rfl) (by decide) rfl (fun ls hl => ?_)
            refine lv_goto (pc := 95) (tgt := 35) hx hb dX9_spread_95 (by decide) ?_
            exact ih35 v41 v44 f42 f43 f37 f38 v31 v32 v33 v34 v35 v36 _ _ _ hf hP hD hS (lv_sub hl [2, 3, 1, 0] rfl)
    exact LP35 N v6 v7 f5 f4 ws_first ws_many ws_level ws_row ws_start ws_place ws_length ws_cap _ _ _ hm35 hP hD hS (lv_sub hl [2, 3, 1, 0] rfl)
  exact hgo _ _ rfl hP hS
/-! X9_stepsTo -/
set_option maxRecDepth 100000 in
set_option maxHeartbeats 4000000 in
theorem c_Walk_stepsTo (l : Launch) (D : va_G) (ci : Nat → ClassId) (A : Nat → Prop) (sa : Nat → Nat) (N : Nat) (Rw : va_W) (a_wk : Nat) (a_ws : Nat) (a_wk_steps : Nat) (a_wk_reached : Nat) (n_wk_steps : Nat) (wk_many : Int32) (wk_steps : Nat → Int32) (p1 : Int32) (r : Int32) (hf : f_Walk_stepsTo n_wk_steps wk_steps p1 = some r) : Met l yX9_stepsTo wsX9_stepsTo ({ frames := 0, cells := 0, slots := 0, locals := 0 }) (va_Pc [.ref a_wk, .int p1] (q_N D ci A sa ((a_wk, .inr (9, [.ref a_ws, .ref a_wk_steps, .ref a_wk_reached, .int wk_many])) :: (a_wk_steps, .inl (ci 0, n_wk_steps, .inl wk_steps)) :: Rw))) (q_R (some (.int r))) 0 0 A := by
  refine q_ofW (cc := cX9_stepsTo) (maxL := 2) (ret := (some .int)) [.ref a_wk, .int p1] (plainFor_of_name (by decide)) rfl (Nat.le_of_ble_eq_true rfl) ?_
  intro p e s m below meth c ls Q hQ hx hb hml hr hts hown hlocks hK hA hZ hP hD hS hl
  have hl : lv_has ls 2 [(0, .ref a_wk), (1, .int p1)] := hl
  have hown : s.vm.findClass RX9 = some m.cls := hown
  have hinX9 : ∀ w ∈ wsX90, w ∈ wsX9_stepsTo := fun _ h => List.mem_cons_of_mem _ (inWX90 _ h)
  have w_1 := hts (Cond.fieldLink RX9 9 "SheetNames$Walk" "steps" "[I") (List.mem_cons_of_mem _ t_w824)
  unfold f_Walk_stepsTo at hf
  have hgo : ∀ (H : Heap) (locs : List Loc), H = s.heap → va_P D vwCl ((a_wk, .inr (9, [.ref a_ws, .ref a_wk_steps, .ref a_wk_reached, .int wk_many])) :: (a_wk_steps, .inl (ci 0, n_wk_steps, .inl wk_steps)) :: Rw) H → va_S A s.heap H locs → W p l e ({ frames := 0, cells := 0, slots := 0, locals := 0 } : Room) s m ([.ref a_wk, .int p1] : List Value).toArray below meth c H locs 0 0 Q (F0 m 0 ls []) := by
    intro H locs hH hP hS
    subst hH
    refine lv_aload_n (pc := 0) hx hb dX9_stepsTo_0 rfl (lv_at hl 0 rfl) ?_
    refine va_get (pc := 1) (D := D) (ci := 9) (v := .ref a_wk_steps) (C := RX9) (T := TX9) (N := 4) hx hb hts hinX9 hown hK hP 0 rfl rfl 1 (by decide) w_1 (fun _ h9 => h9) rfl dX9_stepsTo_1 ?_
    refine lv_iload_n (pc := 4) hx hb dX9_stepsTo_4 rfl (lv_at hl 1 rfl) ?_
    refine q_iald (pc := 5) hx hb hK hP 1 0 hf rfl rfl dX9_stepsTo_5 (fun v1 hf => ?_)
    obtain rfl := Option.some.inj hf
    rw [hQ]
    exact q_iretr (pc := 6) hx hb hr hlocks rfl hS dX9_stepsTo_6
  exact hgo _ _ rfl hP hS
/-! X9_within -/
set_option maxRecDepth 100000 in
set_option maxHeartbeats 4000000 in
theorem c_Walk_within (l : Launch) (D : va_G) (ci : Nat → ClassId) (A : Nat → Prop) (sa : Nat → Nat) (N : Nat) (Rw : va_W) (a_wk : Nat) (a_ws : Nat) (a_wk_steps : Nat) (a_wk_reached : Nat) (n_wk_steps : Nat) (wk_many : Int32) (wk_steps : Nat → Int32) (p1 : Int32) (r : Int32) (hf : f_Walk_within N n_wk_steps wk_steps wk_many p1 = some r) : Met l yX9_within wsX9_within ({ frames := 0, cells := 0, slots := 0, locals := 0 }) (va_Pc [.ref a_wk, .int p1] (q_N D ci A sa ((a_wk, .inr (9, [.ref a_ws, .ref a_wk_steps, .ref a_wk_reached, .int wk_many])) :: (a_wk_steps, .inl (ci 0, n_wk_steps, .inl wk_steps)) :: Rw))) (q_R (some (.int r))) 0 0 A := by
  refine q_ofW (cc := cX9_within) (maxL := 4) (ret := (some .int)) [.ref a_wk, .int p1] (plainFor_of_name (by decide)) rfl (Nat.le_of_ble_eq_true rfl) ?_
  intro p e s m below meth c ls Q hQ hx hb hml hr hts hown hlocks hK hA hZ hP hD hS hl
  have hl : lv_has ls 4 [(0, .ref a_wk), (1, .int p1)] := hl
  have hown : s.vm.findClass RX9 = some m.cls := hown
  have hinX9 : ∀ w ∈ wsX90, w ∈ wsX9_within := fun _ h => List.mem_cons_of_mem _ (inWX90 _ h)
  have w_1 := hts (Cond.fieldLink RX9 18 "SheetNames$Walk" "many" "I") (List.mem_cons_of_mem _ t_w823)
  have w_2 := hts (Cond.fieldLink RX9 9 "SheetNames$Walk" "steps" "[I") (List.mem_cons_of_mem _ t_w824)
  unfold f_Walk_within at hf
  have hgo : ∀ (H : Heap) (locs : List Loc), H = s.heap → va_P D vwCl ((a_wk, .inr (9, [.ref a_ws, .ref a_wk_steps, .ref a_wk_reached, .int wk_many])) :: (a_wk_steps, .inl (ci 0, n_wk_steps, .inl wk_steps)) :: Rw) H → va_S A s.heap H locs → W p l e ({ frames := 0, cells := 0, slots := 0, locals := 0 } : Room) s m ([.ref a_wk, .int p1] : List Value).toArray below meth c H locs 0 0 Q (F0 m 0 ls []) := by
    intro H locs hH hP hS
    subst hH
    refine lv_iconst (pc := 0) (v := 0) hx hb dX9_within_0 (by decide) ?_
    obtain ⟨v1, ev1, hf⟩ := q_nm_e hf
    refine q_topi ev1 ?_
    refine lv_istore_n (pc := 1) (lv' := [(2, .int v1), (0, .ref a_wk), (1, .int p1)]) hx hb dX9_within_1 rfl hl (by decide) rfl (fun ls hl => ?_)
    refine lv_iconst (pc := 2) (v := 0) hx hb dX9_within_2 (by decide) ?_
    obtain ⟨v2, ev2, hf⟩ := q_nm_e hf
    refine q_topi ev2 ?_
    refine lv_istore_n (pc := 3) (lv' := [(3, .int v2), (2, .int v1), (0, .ref a_wk), (1, .int p1)]) hx hb dX9_within_3 rfl hl (by decide) rfl (fun ls hl => ?_)
    obtain ⟨v5, hm4, hf⟩ := q_b1_e hf
    have JE4 : ∀ (H : Heap) (locs : List Loc) (ls : Array Slot), H = s.heap → va_S A s.heap H locs → lv_has ls 4 [(2, .int v5)] → W p l e ({ frames := 0, cells := 0, slots := 0, locals := 0 } : Room) s m ([.ref a_wk, .int p1] : List Value).toArray below meth c H locs 0 0 Q (F0 m 31 ls []) := by
      intro H locs ls hHs hS hl
      subst hHs
      refine lv_iload_n (pc := 31) hx hb dX9_within_31 rfl (lv_at hl 0 rfl) ?_
      obtain rfl := Option.some.inj hf
      rw [hQ]
      exact q_iretr (pc := 32) hx hb hr hlocks rfl hS dX9_within_32
    have LP4 : ∀ (n4 : Nat) (v3 : Int32) (v4 : Int32) (H : Heap) (locs : List Loc) (ls : Array Slot), f_Walk_within_L4 n_wk_steps p1 wk_many wk_steps n4 v3 v4 = some v5 → H = s.heap → va_S A s.heap H locs → lv_has ls 4 [(0, .ref a_wk), (1, .int p1), (2, .int v3), (3, .int v4)] → W p l e ({ frames := 0, cells := 0, slots := 0, locals := 0 } : Room) s m ([.ref a_wk, .int p1] : List Value).toArray below meth c H locs 0 0 Q (F0 m 4 ls []) := by
      intro n4
      induction n4 with
      | zero => intro v3 v4 H locs ls hf; rw [f_Walk_within_L4] at hf; cases hf
      | succ n4 ih4 =>
        intro v3 v4 H locs ls hf hHs hS hl
        subst hHs
        rw [f_Walk_within_L4] at hf
        refine lv_iload_n (pc := 4) hx hb dX9_within_4 rfl (lv_at hl 3 rfl) ?_
        refine lv_aload_n (pc := 5) hx hb dX9_within_5 rfl (lv_at hl 0 rfl) ?_
        refine va_get (pc := 6) (D := D) (ci := 9) (v := .int wk_many) (C := RX9) (T := TX9) (N := 4) hx hb hts hinX9 hown hK hP 0 rfl rfl 3 (by decide) w_1 (fun _ h9 => h9) rfl dX9_within_6 ?_
        refine q_icmp_ge (pc := 9) (tgt := 31) hx hb dX9_within_9 (by decide) rfl hf (fun hf => ?_) (fun hf => ?_)
        · obtain rfl := Option.some.inj hf
          exact JE4 _ _ _ rfl hS (lv_sub hl [2] rfl)
        · refine lv_aload_n (pc := 12) hx hb dX9_within_12 rfl (lv_at hl 0 rfl) ?_
          refine va_get (pc := 13) (D := D) (ci := 9) (v := .ref a_wk_steps) (C := RX9) (T := TX9) (N := 4) hx hb hts hinX9 hown hK hP 0 rfl rfl 1 (by decide) w_2 (fun _ h9 => h9) rfl dX9_within_13 ?_
          refine lv_iload_n (pc := 16) hx hb dX9_within_16 rfl (lv_at hl 3 rfl) ?_
          refine q_iald (pc := 17) hx hb hK hP 1 0 hf rfl rfl dX9_within_17 (fun v6 hf => ?_)
          refine lv_iload_n (pc := 18) hx hb dX9_within_18 rfl (lv_at hl 1 rfl) ?_
          obtain ⟨k25, ek25, hf⟩ := q_j1_e hf
          have J25 : ∀ (v7 : Int32) (H : Heap) (locs : List Loc) (ls : Array Slot), k25 v7 = some v5 → H = s.heap → va_S A s.heap H locs → lv_has ls 4 [(0, .ref a_wk), (1, .int p1), (2, .int v7), (3, .int v4)] → W p l e ({ frames := 0, cells := 0, slots := 0, locals := 0 } : Room) s m ([.ref a_wk, .int p1] : List Value).toArray below meth c H locs 0 0 Q (F0 m 25 ls []) := by
            intro v7 H locs ls hf hHs hS hl
            subst hHs
            have hf := (ek25 v7).symm.trans hf
            obtain ⟨v8, ev8, hf⟩ := q_nm_e hf
            refine lv_iinc (pc := 25) (v := v8) (lv' := [(3, .int v8), (0, .ref a_wk), (1, .int p1), (2, .int v7)]) hx hb dX9_within_25 hl (k := 3) rfl (by rw [ev8]; rfl) (by decide) rfl (fun ls hl => ?_)
            refine lv_goto (pc := 28) (tgt := 4) hx hb dX9_within_28 (by decide) ?_
            exact ih4 v7 v8 _ _ _ hf rfl hS (lv_sub hl [1, 2, 3, 0] rfl)
          refine q_icmp_gt (pc := 19) (tgt := 25) hx hb dX9_within_19 (by decide) rfl hf (fun hf => ?_) (fun hf => ?_)
          · exact J25 v3 _ _ _ hf rfl hS (lv_sub hl [0, 1, 2, 3] rfl)
          · obtain ⟨v9, ev9, hf⟩ := q_nm_e hf
            refine lv_iinc (pc := 22) (v := v9) (lv' := [(2, .int v9), (0, .ref a_wk), (1, .int p1), (3, .int v4)]) hx hb dX9_within_22 hl (k := 2) rfl (by rw [ev9]; rfl) (by decide) rfl (fun ls hl => ?_)
            exact J25 v9 _ _ _ hf rfl hS (lv_sub hl [1, 2, 0, 3] rfl)
    exact LP4 N v1 v2 _ _ _ hm4 rfl hS (lv_sub hl [2, 3, 1, 0] rfl)
  exact hgo _ _ rfl hP hS
end
section
/-! X1_bottomRow -/
set_option maxRecDepth 100000 in
set_option maxHeartbeats 4000000 in
theorem c_Box_bottomRow (l : Launch) (D : va_G) (ci : Nat → ClassId) (A : Nat → Prop) (sa : Nat → Nat) (N : Nat) (Rw : va_W) (a_bx : Nat) (a_g : Nat) (a_g_rowCuts : Nat) (a_g_columnCuts : Nat) (a_g_bandRows : Nat) (a_g_zoneColumns : Nat) (a_g_rows : Nat) (a_g_sheets : Nat) (bx_south : Int32) (bx_north : Int32) (bx_west : Int32) (bx_east : Int32) (g_bandRows : Nat → Int32) (g_rows : Nat → Int32) (p1 : Int32) (r : Int32) (hf : f_Box_bottomRow bx_south g_bandRows g_rows p1 = some r) : Met l yX1_bottomRow wsX1_bottomRow ({ frames := 2, cells := 0, slots := 0, locals := 49 }) (va_Pc [.ref a_bx, .int p1] (q_N D ci A sa ((a_bx, .inr (1, [.ref a_g, .int bx_south, .int bx_north, .int bx_west, .int bx_east])) :: (a_g, .inr (2, [.ref a_g_rowCuts, .ref a_g_columnCuts, .ref a_g_bandRows, .ref a_g_zoneColumns, .ref a_g_rows, .ref a_g_sheets])) :: (a_g_bandRows, .inl (ci 0, 5, .inl g_bandRows)) :: (a_g_rows, .inl (ci 0, 5, .inl g_rows)) :: Rw))) (q_R (some (.int r))) 0 0 A := by
  refine q_ofW (cc := cX1_bottomRow) (maxL := 2) (ret := (some .int)) [.ref a_bx, .int p1] (plainFor_of_name (by decide)) rfl (Nat.le_of_ble_eq_true rfl) ?_
  intro p e s m below meth c ls Q hQ hx hb hml hr hts hown hlocks hK hA hZ hP hD hS hl
  have hl : lv_has ls 2 [(0, .ref a_bx), (1, .int p1)] := hl
  have hown : s.vm.findClass RX1 = some m.cls := hown
  have hinX1 : ∀ w ∈ wsX10, w ∈ wsX1_bottomRow := fun _ h => List.mem_cons_of_mem _ (inWX10 _ h)
  have w_1 := hts (Cond.fieldLink RX1 24 "SheetNames$Box" "grid" "LSheetNames$Grid;") (List.mem_cons_of_mem _ t_w827)
  have w_2 := hts (Cond.fieldLink RX1 9 "SheetNames$Box" "south" "I") (List.mem_cons_of_mem _ t_w828)
  unfold f_Box_bottomRow at hf
  have hgo : ∀ (H : Heap) (locs : List Loc), H = s.heap → va_P D vwCl ((a_bx, .inr (1, [.ref a_g, .int bx_south, .int bx_north, .int bx_west, .int bx_east])) :: (a_g, .inr (2, [.ref a_g_rowCuts, .ref a_g_columnCuts, .ref a_g_bandRows, .ref a_g_zoneColumns, .ref a_g_rows, .ref a_g_sheets])) :: (a_g_bandRows, .inl (ci 0, 5, .inl g_bandRows)) :: (a_g_rows, .inl (ci 0, 5, .inl g_rows)) :: Rw) H → va_S A s.heap H locs → W p l e ({ frames := 2, cells := 0, slots := 0, locals := 49 } : Room) s m ([.ref a_bx, .int p1] : List Value).toArray below meth c H locs 0 0 Q (F0 m 0 ls []) := by
    intro H locs hH hP hS
    subst hH
    refine lv_aload_n (pc := 0) hx hb dX1_bottomRow_0 rfl (lv_at hl 0 rfl) ?_
    refine va_get (pc := 1) (D := D) (ci := 1) (v := .ref a_g) (C := RX1) (T := TX1) (N := 5) hx hb hts hinX1 hown hK hP 0 rfl rfl 0 (by decide) w_1 (fun _ h9 => h9) rfl dX1_bottomRow_1 ?_
    refine lv_iload_n (pc := 4) hx hb dX1_bottomRow_4 rfl (lv_at hl 1 rfl) ?_
    refine lv_aload_n (pc := 5) hx hb dX1_bottomRow_5 rfl (lv_at hl 0 rfl) ?_
    refine va_get (pc := 6) (D := D) (ci := 1) (v := .int bx_south) (C := RX1) (T := TX1) (N := 5) hx hb hts hinX1 hown hK hP 0 rfl rfl 1 (by decide) w_2 (fun _ h9 => h9) rfl dX1_bottomRow_6 ?_
    obtain ⟨v1, hm9, hf⟩ := q_b1_e hf
    refine q_cVr (pc := 9) (As := [.int p1, .int bx_south]) (rest := []) (v0 := (some (.int v1))) ⟨hx, hb, hml, hown, hts⟩ hK hA hZ hP hD hS hl.1 [1, 2, 3] 4 rfl ⟨rfl, rfl, rfl⟩ (c_Grid_rowOfLat l D ci A sa N (Rw) a_g a_g_rowCuts a_g_columnCuts a_g_bandRows a_g_zoneColumns a_g_rows a_g_sheets g_bandRows g_rows p1 bx_south v1 hm9) 1 rfl rfl (cwV 2 hts gX1_bottomRow_X2_rowOfLat rfl rfl rfl (by decide +kernel) ⟨Nat.le_of_ble_eq_true rfl, Nat.le_of_ble_eq_true rfl⟩) rfl rfl (Nat.le_of_ble_eq_true rfl) dX1_bottomRow_9 ⟨Nat.zero_le _, Nat.zero_le _⟩ (fun locs hS => ?_)
    obtain rfl := Option.some.inj hf
    rw [hQ]
    exact q_iretr (pc := 12) hx hb hr hlocks rfl hS dX1_bottomRow_12
  exact hgo _ _ rfl hP hS
/-! X1_beltBottom -/
set_option maxRecDepth 100000 in
set_option maxHeartbeats 4000000 in
theorem c_Box_beltBottom (l : Launch) (D : va_G) (ci : Nat → ClassId) (A : Nat → Prop) (sa : Nat → Nat) (N : Nat) (Rw : va_W) (a_bx : Nat) (a_g : Nat) (a_g_rowCuts : Nat) (a_g_columnCuts : Nat) (a_g_bandRows : Nat) (a_g_zoneColumns : Nat) (a_g_rows : Nat) (a_g_sheets : Nat) (bx_south : Int32) (bx_north : Int32) (bx_west : Int32) (bx_east : Int32) (g_bandRows : Nat → Int32) (g_rows : Nat → Int32) (p1 : Int32) (p2 : Int32) (r : Int32) (hf : f_Box_beltBottom bx_south g_bandRows g_rows p1 p2 = some r) : Met l yX1_beltBottom wsX1_beltBottom ({ frames := 3, cells := 0, slots := 0, locals := 70 }) (va_Pc [.ref a_bx, .int p1, .int p2] (q_N D ci A sa ((a_bx, .inr (1, [.ref a_g, .int bx_south, .int bx_north, .int bx_west, .int bx_east])) :: (a_g, .inr (2, [.ref a_g_rowCuts, .ref a_g_columnCuts, .ref a_g_bandRows, .ref a_g_zoneColumns, .ref a_g_rows, .ref a_g_sheets])) :: (a_g_bandRows, .inl (ci 0, 5, .inl g_bandRows)) :: (a_g_rows, .inl (ci 0, 5, .inl g_rows)) :: Rw))) (q_R (some (.int r))) 0 0 A := by
  refine q_ofW (cc := cX1_beltBottom) (maxL := 4) (ret := (some .int)) [.ref a_bx, .int p1, .int p2] (plainFor_of_name (by decide)) rfl (Nat.le_of_ble_eq_true rfl) ?_
  intro p e s m below meth c ls Q hQ hx hb hml hr hts hown hlocks hK hA hZ hP hD hS hl
  have hl : lv_has ls 4 [(0, .ref a_bx), (1, .int p1), (2, .int p2)] := hl
  have hown : s.vm.findClass RX1 = some m.cls := hown
  have hinX1 : ∀ w ∈ wsX10, w ∈ wsX1_beltBottom := fun _ h => List.mem_cons_of_mem _ (inWX10 _ h)
  have hinX2 : ∀ w ∈ wsX20, w ∈ wsX1_beltBottom := fun _ h => List.mem_cons_of_mem _ (inWX20 _ h)
  have w_1 := hts (Cond.fieldLink RX1 24 "SheetNames$Box" "grid" "LSheetNames$Grid;") (List.mem_cons_of_mem _ t_w827)
  have w_2 := hts (Cond.methodLink RX1 41 Lib.Math.min.name) (List.mem_cons_of_mem _ t_w829)
  have w_3 := hts (Cond.static Lib.Math.min.name) (List.mem_cons_of_mem _ t_w810)
  have w_4 := hts (Cond.initialized "java/lang/Math") (List.mem_cons_of_mem _ t_w76)
  have w_5 := hts (Cond.code Lib.Math.min.name Lib.Math.min.code 2 (some .int)) (List.mem_cons_of_mem _ t_w811)
  have wn_38 : (Cond.fieldLinkNest "SheetNames$Box" 49 "SheetNames$Grid" "bandRows" "[I" "SheetNames").before ([.ref a_bx, .int p1, .int p2] : List Value).toArray s = true := (hZ.2.2.2.2.2.2.2.2.2.1 _ (List.mem_of_getElem? (i := 38) rfl)).use rfl
  have wn_39 : (Cond.fieldLinkNest "SheetNames$Box" 60 "SheetNames$Grid" "rows" "[I" "SheetNames").before ([.ref a_bx, .int p1, .int p2] : List Value).toArray s = true := (hZ.2.2.2.2.2.2.2.2.2.1 _ (List.mem_of_getElem? (i := 39) rfl)).use rfl
  unfold f_Box_beltBottom at hf
  have hgo : ∀ (H : Heap) (locs : List Loc), H = s.heap → va_P D vwCl ((a_bx, .inr (1, [.ref a_g, .int bx_south, .int bx_north, .int bx_west, .int bx_east])) :: (a_g, .inr (2, [.ref a_g_rowCuts, .ref a_g_columnCuts, .ref a_g_bandRows, .ref a_g_zoneColumns, .ref a_g_rows, .ref a_g_sheets])) :: (a_g_bandRows, .inl (ci 0, 5, .inl g_bandRows)) :: (a_g_rows, .inl (ci 0, 5, .inl g_rows)) :: Rw) H → va_S A s.heap H locs → W p l e ({ frames := 3, cells := 0, slots := 0, locals := 70 } : Room) s m ([.ref a_bx, .int p1, .int p2] : List Value).toArray below meth c H locs 0 0 Q (F0 m 0 ls []) := by
    intro H locs hH hP hS
    subst hH
    refine lv_iload_n (pc := 0) hx hb dX1_beltBottom_0 rfl (lv_at hl 2 rfl) ?_
    refine lv_bipush (pc := 1) (v := 44) hx hb dX1_beltBottom_1 (by decide) ?_
    obtain ⟨k31, ek31, hf⟩ := q_j1_e hf
    have J31 : ∀ (v1 : Int32) (H : Heap) (locs : List Loc) (ls : Array Slot), k31 v1 = some r → H = s.heap → va_S A s.heap H locs → lv_has ls 4 [(0, .ref a_bx), (1, .int p1)] → W p l e ({ frames := 3, cells := 0, slots := 0, locals := 70 } : Room) s m ([.ref a_bx, .int p1, .int p2] : List Value).toArray below meth c H locs 0 0 Q (F0 m 31 ls [.int v1]) := by
      intro v1 H locs ls hf hHs hS hl
      subst hHs
      have hf := (ek31 v1).symm.trans hf
      refine lv_istore_n (pc := 31) (lv' := [(3, .int v1), (0, .ref a_bx), (1, .int p1)]) hx hb dX1_beltBottom_31 rfl hl (by decide) rfl (fun ls hl => ?_)
      refine lv_iload_n (pc := 32) hx hb dX1_beltBottom_32 rfl (lv_at hl 0 rfl) ?_
      refine lv_aload_n (pc := 33) hx hb dX1_beltBottom_33 rfl (lv_at hl 1 rfl) ?_
      refine lv_iload_n (pc := 34) hx hb dX1_beltBottom_34 rfl (lv_at hl 2 rfl) ?_
      obtain ⟨v2, hm35, hf⟩ := q_b1_e hf
      refine q_cVr (pc := 35) (As := [.int p1]) (rest := [.int v1]) (v0 := (some (.int v2))) ⟨hx, hb, hml, hown, hts⟩ hK hA hZ hP hD hS hl.1 [0, 1, 2, 3] 4 rfl ⟨rfl, rfl, rfl⟩ (c_Box_bottomRow l D ci A sa N (Rw) a_bx a_g a_g_rowCuts a_g_columnCuts a_g_bandRows a_g_zoneColumns a_g_rows a_g_sheets bx_south bx_north bx_west bx_east g_bandRows g_rows p1 v2 hm35) 0 rfl rfl (cwV 1 hts gX1_beltBottom_X1_bottomRow rfl rfl rfl (by decide +kernel) ⟨Nat.le_of_ble_eq_true rfl, Nat.le_of_ble_eq_true rfl⟩) rfl rfl (Nat.le_of_ble_eq_true rfl) dX1_beltBottom_35 ⟨Nat.zero_le _, Nat.zero_le _⟩ (fun locs hS => ?_)
      obtain ⟨v3, ev3, hf⟩ := q_nm_e hf
      refine va_mmin (pc := 38) hx hb (hml.trans hl.1.symm) hown w_2 w_3 w_4 w_5 (Nat.le_of_ble_eq_true rfl) (Nat.le_of_ble_eq_true rfl) (Nat.zero_le _) (Nat.zero_le _) dX1_beltBottom_38 ?_
      refine q_topi ev3 ?_
      obtain rfl := Option.some.inj hf
      rw [hQ]
      exact q_iretr (pc := 41) hx hb hr hlocks rfl hS dX1_beltBottom_41
    refine q_icmp_le (pc := 3) (tgt := 20) hx hb dX1_beltBottom_3 (by decide) rfl hf (fun hf => ?_) (fun hf => ?_)
    · refine lv_iload_n (pc := 20) hx hb dX1_beltBottom_20 rfl (lv_at hl 2 rfl) ?_
      refine lv_aload_n (pc := 21) hx hb dX1_beltBottom_21 rfl (lv_at hl 0 rfl) ?_
      refine va_get (pc := 22) (D := D) (ci := 1) (v := .ref a_g) (C := RX1) (T := TX1) (N := 5) hx hb hts hinX1 hown hK hP 0 rfl rfl 0 (by decide) w_1 (fun _ h9 => h9) rfl dX1_beltBottom_22 ?_
      refine va_getN (pc := 25) (D := D) (ci := 2) (v := .ref a_g_bandRows) (C := RX2) (T := TX2) (N := 6) hx hb hts hinX2 hown hK hP 1 rfl rfl 2 (by decide) wn_38 (fun _ h9 => h9) rfl dX1_beltBottom_25 ?_
      refine lv_iload_n (pc := 28) hx hb dX1_beltBottom_28 rfl (lv_at hl 1 rfl) ?_
      refine q_iald (pc := 29) hx hb hK hP 2 0 hf rfl rfl dX1_beltBottom_29 (fun v4 hf => ?_)
      refine lv_imul (pc := 30) hx hb dX1_beltBottom_30 ?_
      exact J31 (p2 * v4) _ _ _ hf rfl hS (lv_sub hl [0, 1] rfl)
    · refine lv_aload_n (pc := 6) hx hb dX1_beltBottom_6 rfl (lv_at hl 0 rfl) ?_
      refine va_get (pc := 7) (D := D) (ci := 1) (v := .ref a_g) (C := RX1) (T := TX1) (N := 5) hx hb hts hinX1 hown hK hP 0 rfl rfl 0 (by decide) w_1 (fun _ h9 => h9) rfl dX1_beltBottom_7 ?_
      refine va_getN (pc := 10) (D := D) (ci := 2) (v := .ref a_g_rows) (C := RX2) (T := TX2) (N := 6) hx hb hts hinX2 hown hK hP 1 rfl rfl 4 (by decide) wn_39 (fun _ h9 => h9) rfl dX1_beltBottom_10 ?_
      refine lv_iload_n (pc := 13) hx hb dX1_beltBottom_13 rfl (lv_at hl 1 rfl) ?_
      refine q_iald (pc := 14) hx hb hK hP 3 0 hf rfl rfl dX1_beltBottom_14 (fun v5 hf => ?_)
      refine lv_iconst (pc := 15) (v := 1) hx hb dX1_beltBottom_15 (by decide) ?_
      refine lv_isub (pc := 16) hx hb dX1_beltBottom_16 ?_
      refine lv_goto (pc := 17) (tgt := 31) hx hb dX1_beltBottom_17 (by decide) ?_
      exact J31 (v5 - 1) _ _ _ hf rfl hS (lv_sub hl [0, 1] rfl)
  exact hgo _ _ rfl hP hS
/-! X1_topRow -/
set_option maxRecDepth 100000 in
set_option maxHeartbeats 4000000 in
theorem c_Box_topRow (l : Launch) (D : va_G) (ci : Nat → ClassId) (A : Nat → Prop) (sa : Nat → Nat) (N : Nat) (Rw : va_W) (a_bx : Nat) (a_g : Nat) (a_g_rowCuts : Nat) (a_g_columnCuts : Nat) (a_g_bandRows : Nat) (a_g_zoneColumns : Nat) (a_g_rows : Nat) (a_g_sheets : Nat) (bx_south : Int32) (bx_north : Int32) (bx_west : Int32) (bx_east : Int32) (g_bandRows : Nat → Int32) (g_rows : Nat → Int32) (p1 : Int32) (r : Int32) (hf : f_Box_topRow bx_north g_bandRows g_rows p1 = some r) : Met l yX1_topRow wsX1_topRow ({ frames := 2, cells := 0, slots := 0, locals := 49 }) (va_Pc [.ref a_bx, .int p1] (q_N D ci A sa ((a_bx, .inr (1, [.ref a_g, .int bx_south, .int bx_north, .int bx_west, .int bx_east])) :: (a_g, .inr (2, [.ref a_g_rowCuts, .ref a_g_columnCuts, .ref a_g_bandRows, .ref a_g_zoneColumns, .ref a_g_rows, .ref a_g_sheets])) :: (a_g_bandRows, .inl (ci 0, 5, .inl g_bandRows)) :: (a_g_rows, .inl (ci 0, 5, .inl g_rows)) :: Rw))) (q_R (some (.int r))) 0 0 A := by
  refine q_ofW (cc := cX1_topRow) (maxL := 2) (ret := (some .int)) [.ref a_bx, .int p1] (plainFor_of_name (by decide)) rfl (Nat.le_of_ble_eq_true rfl) ?_
  intro p e s m below meth c ls Q hQ hx hb hml hr hts hown hlocks hK hA hZ hP hD hS hl
  have hl : lv_has ls 2 [(0, .ref a_bx), (1, .int p1)] := hl
  have hown : s.vm.findClass RX1 = some m.cls := hown
  have hinX1 : ∀ w ∈ wsX10, w ∈ wsX1_topRow := fun _ h => List.mem_cons_of_mem _ (inWX10 _ h)
  have w_1 := hts (Cond.fieldLink RX1 24 "SheetNames$Box" "grid" "LSheetNames$Grid;") (List.mem_cons_of_mem _ t_w827)
  have w_2 := hts (Cond.fieldLink RX1 15 "SheetNames$Box" "north" "I") (List.mem_cons_of_mem _ t_w830)
  unfold f_Box_topRow at hf
  have hgo : ∀ (H : Heap) (locs : List Loc), H = s.heap → va_P D vwCl ((a_bx, .inr (1, [.ref a_g, .int bx_south, .int bx_north, .int bx_west, .int bx_east])) :: (a_g, .inr (2, [.ref a_g_rowCuts, .ref a_g_columnCuts, .ref a_g_bandRows, .ref a_g_zoneColumns, .ref a_g_rows, .ref a_g_sheets])) :: (a_g_bandRows, .inl (ci 0, 5, .inl g_bandRows)) :: (a_g_rows, .inl (ci 0, 5, .inl g_rows)) :: Rw) H → va_S A s.heap H locs → W p l e ({ frames := 2, cells := 0, slots := 0, locals := 49 } : Room) s m ([.ref a_bx, .int p1] : List Value).toArray below meth c H locs 0 0 Q (F0 m 0 ls []) := by
    intro H locs hH hP hS
    subst hH
    refine lv_aload_n (pc := 0) hx hb dX1_topRow_0 rfl (lv_at hl 0 rfl) ?_
    refine va_get (pc := 1) (D := D) (ci := 1) (v := .ref a_g) (C := RX1) (T := TX1) (N := 5) hx hb hts hinX1 hown hK hP 0 rfl rfl 0 (by decide) w_1 (fun _ h9 => h9) rfl dX1_topRow_1 ?_
    refine lv_iload_n (pc := 4) hx hb dX1_topRow_4 rfl (lv_at hl 1 rfl) ?_
    refine lv_aload_n (pc := 5) hx hb dX1_topRow_5 rfl (lv_at hl 0 rfl) ?_
    refine va_get (pc := 6) (D := D) (ci := 1) (v := .int bx_north) (C := RX1) (T := TX1) (N := 5) hx hb hts hinX1 hown hK hP 0 rfl rfl 2 (by decide) w_2 (fun _ h9 => h9) rfl dX1_topRow_6 ?_
    obtain ⟨v1, hm9, hf⟩ := q_b1_e hf
    refine q_cVr (pc := 9) (As := [.int p1, .int bx_north]) (rest := []) (v0 := (some (.int v1))) ⟨hx, hb, hml, hown, hts⟩ hK hA hZ hP hD hS hl.1 [1, 2, 3] 4 rfl ⟨rfl, rfl, rfl⟩ (c_Grid_rowOfLat l D ci A sa N (Rw) a_g a_g_rowCuts a_g_columnCuts a_g_bandRows a_g_zoneColumns a_g_rows a_g_sheets g_bandRows g_rows p1 bx_north v1 hm9) 1 rfl rfl (cwV 2 hts gX1_topRow_X2_rowOfLat rfl rfl rfl (by decide +kernel) ⟨Nat.le_of_ble_eq_true rfl, Nat.le_of_ble_eq_true rfl⟩) rfl rfl (Nat.le_of_ble_eq_true rfl) dX1_topRow_9 ⟨Nat.zero_le _, Nat.zero_le _⟩ (fun locs hS => ?_)
    obtain rfl := Option.some.inj hf
    rw [hQ]
    exact q_iretr (pc := 12) hx hb hr hlocks rfl hS dX1_topRow_12
  exact hgo _ _ rfl hP hS
/-! X1_beltTop -/
set_option maxRecDepth 100000 in
set_option maxHeartbeats 4000000 in
theorem c_Box_beltTop (l : Launch) (D : va_G) (ci : Nat → ClassId) (A : Nat → Prop) (sa : Nat → Nat) (N : Nat) (Rw : va_W) (a_bx : Nat) (a_g : Nat) (a_g_rowCuts : Nat) (a_g_columnCuts : Nat) (a_g_bandRows : Nat) (a_g_zoneColumns : Nat) (a_g_rows : Nat) (a_g_sheets : Nat) (bx_south : Int32) (bx_north : Int32) (bx_west : Int32) (bx_east : Int32) (g_bandRows : Nat → Int32) (g_rows : Nat → Int32) (p1 : Int32) (p2 : Int32) (r : Int32) (hf : f_Box_beltTop bx_north g_bandRows g_rows p1 p2 = some r) : Met l yX1_beltTop wsX1_beltTop ({ frames := 3, cells := 0, slots := 0, locals := 70 }) (va_Pc [.ref a_bx, .int p1, .int p2] (q_N D ci A sa ((a_bx, .inr (1, [.ref a_g, .int bx_south, .int bx_north, .int bx_west, .int bx_east])) :: (a_g, .inr (2, [.ref a_g_rowCuts, .ref a_g_columnCuts, .ref a_g_bandRows, .ref a_g_zoneColumns, .ref a_g_rows, .ref a_g_sheets])) :: (a_g_bandRows, .inl (ci 0, 5, .inl g_bandRows)) :: (a_g_rows, .inl (ci 0, 5, .inl g_rows)) :: Rw))) (q_R (some (.int r))) 0 0 A := by
  refine q_ofW (cc := cX1_beltTop) (maxL := 4) (ret := (some .int)) [.ref a_bx, .int p1, .int p2] (plainFor_of_name (by decide)) rfl (Nat.le_of_ble_eq_true rfl) ?_
  intro p e s m below meth c ls Q hQ hx hb hml hr hts hown hlocks hK hA hZ hP hD hS hl
  have hl : lv_has ls 4 [(0, .ref a_bx), (1, .int p1), (2, .int p2)] := hl
  have hown : s.vm.findClass RX1 = some m.cls := hown
  have hinX1 : ∀ w ∈ wsX10, w ∈ wsX1_beltTop := fun _ h => List.mem_cons_of_mem _ (inWX10 _ h)
  have hinX2 : ∀ w ∈ wsX20, w ∈ wsX1_beltTop := fun _ h => List.mem_cons_of_mem _ (inWX20 _ h)
  have w_1 := hts (Cond.fieldLink RX1 24 "SheetNames$Box" "grid" "LSheetNames$Grid;") (List.mem_cons_of_mem _ t_w827)
  have w_2 := hts (Cond.methodLink RX1 57 Lib.Math.max.name) (List.mem_cons_of_mem _ t_w831)
  have w_3 := hts (Cond.static Lib.Math.max.name) (List.mem_cons_of_mem _ t_w813)
  have w_4 := hts (Cond.initialized "java/lang/Math") (List.mem_cons_of_mem _ t_w76)
  have w_5 := hts (Cond.code Lib.Math.max.name Lib.Math.max.code 2 (some .int)) (List.mem_cons_of_mem _ t_w814)
  have wn_38 : (Cond.fieldLinkNest "SheetNames$Box" 49 "SheetNames$Grid" "bandRows" "[I" "SheetNames").before ([.ref a_bx, .int p1, .int p2] : List Value).toArray s = true := (hZ.2.2.2.2.2.2.2.2.2.1 _ (List.mem_of_getElem? (i := 38) rfl)).use rfl
  unfold f_Box_beltTop at hf
  have hgo : ∀ (H : Heap) (locs : List Loc), H = s.heap → va_P D vwCl ((a_bx, .inr (1, [.ref a_g, .int bx_south, .int bx_north, .int bx_west, .int bx_east])) :: (a_g, .inr (2, [.ref a_g_rowCuts, .ref a_g_columnCuts, .ref a_g_bandRows, .ref a_g_zoneColumns, .ref a_g_rows, .ref a_g_sheets])) :: (a_g_bandRows, .inl (ci 0, 5, .inl g_bandRows)) :: (a_g_rows, .inl (ci 0, 5, .inl g_rows)) :: Rw) H → va_S A s.heap H locs → W p l e ({ frames := 3, cells := 0, slots := 0, locals := 70 } : Room) s m ([.ref a_bx, .int p1, .int p2] : List Value).toArray below meth c H locs 0 0 Q (F0 m 0 ls []) := by
    intro H locs hH hP hS
    subst hH
    refine lv_iload_n (pc := 0) hx hb dX1_beltTop_0 rfl (lv_at hl 2 rfl) ?_
    obtain ⟨k23, ek23, hf⟩ := q_j1_e hf
    have J23 : ∀ (v1 : Int32) (H : Heap) (locs : List Loc) (ls : Array Slot), k23 v1 = some r → H = s.heap → va_S A s.heap H locs → lv_has ls 4 [(0, .ref a_bx), (1, .int p1)] → W p l e ({ frames := 3, cells := 0, slots := 0, locals := 70 } : Room) s m ([.ref a_bx, .int p1, .int p2] : List Value).toArray below meth c H locs 0 0 Q (F0 m 23 ls [.int v1]) := by
      intro v1 H locs ls hf hHs hS hl
      subst hHs
      have hf := (ek23 v1).symm.trans hf
      refine lv_istore_n (pc := 23) (lv' := [(3, .int v1), (0, .ref a_bx), (1, .int p1)]) hx hb dX1_beltTop_23 rfl hl (by decide) rfl (fun ls hl => ?_)
      refine lv_iload_n (pc := 24) hx hb dX1_beltTop_24 rfl (lv_at hl 0 rfl) ?_
      refine lv_aload_n (pc := 25) hx hb dX1_beltTop_25 rfl (lv_at hl 1 rfl) ?_
      refine lv_iload_n (pc := 26) hx hb dX1_beltTop_26 rfl (lv_at hl 2 rfl) ?_
      obtain ⟨v2, hm27, hf⟩ := q_b1_e hf
      refine q_cVr (pc := 27) (As := [.int p1]) (rest := [.int v1]) (v0 := (some (.int v2))) ⟨hx, hb, hml, hown, hts⟩ hK hA hZ hP hD hS hl.1 [0, 1, 2, 3] 4 rfl ⟨rfl, rfl, rfl⟩ (c_Box_topRow l D ci A sa N (Rw) a_bx a_g a_g_rowCuts a_g_columnCuts a_g_bandRows a_g_zoneColumns a_g_rows a_g_sheets bx_south bx_north bx_west bx_east g_bandRows g_rows p1 v2 hm27) 0 rfl rfl (cwV 1 hts gX1_beltTop_X1_topRow rfl rfl rfl (by decide +kernel) ⟨Nat.le_of_ble_eq_true rfl, Nat.le_of_ble_eq_true rfl⟩) rfl rfl (Nat.le_of_ble_eq_true rfl) dX1_beltTop_27 ⟨Nat.zero_le _, Nat.zero_le _⟩ (fun locs hS => ?_)
      obtain ⟨v3, ev3, hf⟩ := q_nm_e hf
      refine va_mmax (pc := 30) hx hb (hml.trans hl.1.symm) hown w_2 w_3 w_4 w_5 (Nat.le_of_ble_eq_true rfl) (Nat.le_of_ble_eq_true rfl) (Nat.zero_le _) (Nat.zero_le _) dX1_beltTop_30 ?_
      refine q_topi ev3 ?_
      obtain rfl := Option.some.inj hf
      rw [hQ]
      exact q_iretr (pc := 33) hx hb hr hlocks rfl hS dX1_beltTop_33
    refine q_if_ne (pc := 1) (tgt := 8) hx hb dX1_beltTop_1 (by decide) rfl hf (fun hf => ?_) (fun hf => ?_)
    · refine lv_iload_n (pc := 8) hx hb dX1_beltTop_8 rfl (lv_at hl 2 rfl) ?_
      refine lv_iconst (pc := 9) (v := 1) hx hb dX1_beltTop_9 (by decide) ?_
      refine lv_isub (pc := 10) hx hb dX1_beltTop_10 ?_
      refine lv_aload_n (pc := 11) hx hb dX1_beltTop_11 rfl (lv_at hl 0 rfl) ?_
      refine va_get (pc := 12) (D := D) (ci := 1) (v := .ref a_g) (C := RX1) (T := TX1) (N := 5) hx hb hts hinX1 hown hK hP 0 rfl rfl 0 (by decide) w_1 (fun _ h9 => h9) rfl dX1_beltTop_12 ?_
      refine va_getN (pc := 15) (D := D) (ci := 2) (v := .ref a_g_bandRows) (C := RX2) (T := TX2) (N := 6) hx hb hts hinX2 hown hK hP 1 rfl rfl 2 (by decide) wn_38 (fun _ h9 => h9) rfl dX1_beltTop_15 ?_
      refine lv_iload_n (pc := 18) hx hb dX1_beltTop_18 rfl (lv_at hl 1 rfl) ?_
      refine q_iald (pc := 19) hx hb hK hP 2 0 hf rfl rfl dX1_beltTop_19 (fun v4 hf => ?_)
      refine lv_imul (pc := 20) hx hb dX1_beltTop_20 ?_
      refine lv_iconst (pc := 21) (v := 1) hx hb dX1_beltTop_21 (by decide) ?_
      refine lv_iadd (pc := 22) hx hb dX1_beltTop_22 ?_
      exact J23 (((p2 - 1) * v4) + 1) _ _ _ hf rfl hS (lv_sub hl [0, 1] rfl)
    · refine lv_iconst (pc := 4) (v := 0) hx hb dX1_beltTop_4 (by decide) ?_
      refine lv_goto (pc := 5) (tgt := 23) hx hb dX1_beltTop_5 (by decide) ?_
      exact J23 0 _ _ _ hf rfl hS (lv_sub hl [0, 1] rfl)
  exact hgo _ _ rfl hP hS
/-! X1_inRow -/
set_option maxRecDepth 100000 in
set_option maxHeartbeats 4000000 in
theorem c_Box_inRow (l : Launch) (D : va_G) (ci : Nat → ClassId) (A : Nat → Prop) (sa : Nat → Nat) (N : Nat) (Rw : va_W) (a_bx : Nat) (a_g : Nat) (a_g_rowCuts : Nat) (a_g_columnCuts : Nat) (a_g_bandRows : Nat) (a_g_zoneColumns : Nat) (a_g_rows : Nat) (a_g_sheets : Nat) (bx_south : Int32) (bx_north : Int32) (bx_west : Int32) (bx_east : Int32) (g_bandRows : Nat → Int32) (g_zoneColumns : Nat → Int32) (g_rows : Nat → Int32) (p1 : Int32) (p2 : Int32) (r : Int32) (hf : f_Box_inRow bx_west bx_east g_bandRows g_zoneColumns g_rows p1 p2 = some r) : Met l yX1_inRow wsX1_inRow ({ frames := 2, cells := 0, slots := 0, locals := 45 }) (va_Pc [.ref a_bx, .int p1, .int p2] (q_N D ci A sa ((a_bx, .inr (1, [.ref a_g, .int bx_south, .int bx_north, .int bx_west, .int bx_east])) :: (a_g, .inr (2, [.ref a_g_rowCuts, .ref a_g_columnCuts, .ref a_g_bandRows, .ref a_g_zoneColumns, .ref a_g_rows, .ref a_g_sheets])) :: (a_g_bandRows, .inl (ci 0, 5, .inl g_bandRows)) :: (a_g_zoneColumns, .inl (ci 0, 5, .inl g_zoneColumns)) :: (a_g_rows, .inl (ci 0, 5, .inl g_rows)) :: Rw))) (q_R (some (.int r))) 0 0 A := by
  refine q_ofW (cc := cX1_inRow) (maxL := 6) (ret := (some .int)) [.ref a_bx, .int p1, .int p2] (plainFor_of_name (by decide)) rfl (Nat.le_of_ble_eq_true rfl) ?_
  intro p e s m below meth c ls Q hQ hx hb hml hr hts hown hlocks hK hA hZ hP hD hS hl
  have hl : lv_has ls 6 [(0, .ref a_bx), (1, .int p1), (2, .int p2)] := hl
  have hown : s.vm.findClass RX1 = some m.cls := hown
  have hinX1 : ∀ w ∈ wsX10, w ∈ wsX1_inRow := fun _ h => List.mem_cons_of_mem _ (inWX10 _ h)
  have w_1 := hts (Cond.fieldLink RX1 24 "SheetNames$Box" "grid" "LSheetNames$Grid;") (List.mem_cons_of_mem _ t_w827)
  have w_2 := hts (Cond.fieldLink RX1 18 "SheetNames$Box" "west" "I") (List.mem_cons_of_mem _ t_w832)
  have w_3 := hts (Cond.fieldLink RX1 21 "SheetNames$Box" "east" "I") (List.mem_cons_of_mem _ t_w833)
  have w_4 := hts (Cond.methodLink RX1 41 Lib.Math.min.name) (List.mem_cons_of_mem _ t_w829)
  have w_5 := hts (Cond.static Lib.Math.min.name) (List.mem_cons_of_mem _ t_w810)
  have w_6 := hts (Cond.initialized "java/lang/Math") (List.mem_cons_of_mem _ t_w76)
  have w_7 := hts (Cond.code Lib.Math.min.name Lib.Math.min.code 2 (some .int)) (List.mem_cons_of_mem _ t_w811)
  unfold f_Box_inRow at hf
  have hgo : ∀ (H : Heap) (locs : List Loc), H = s.heap → va_P D vwCl ((a_bx, .inr (1, [.ref a_g, .int bx_south, .int bx_north, .int bx_west, .int bx_east])) :: (a_g, .inr (2, [.ref a_g_rowCuts, .ref a_g_columnCuts, .ref a_g_bandRows, .ref a_g_zoneColumns, .ref a_g_rows, .ref a_g_sheets])) :: (a_g_bandRows, .inl (ci 0, 5, .inl g_bandRows)) :: (a_g_zoneColumns, .inl (ci 0, 5, .inl g_zoneColumns)) :: (a_g_rows, .inl (ci 0, 5, .inl g_rows)) :: Rw) H → va_S A s.heap H locs → W p l e ({ frames := 2, cells := 0, slots := 0, locals := 45 } : Room) s m ([.ref a_bx, .int p1, .int p2] : List Value).toArray below meth c H locs 0 0 Q (F0 m 0 ls []) := by
    intro H locs hH hP hS
    subst hH
    refine lv_aload_n (pc := 0) hx hb dX1_inRow_0 rfl (lv_at hl 0 rfl) ?_
    refine va_get (pc := 1) (D := D) (ci := 1) (v := .ref a_g) (C := RX1) (T := TX1) (N := 5) hx hb hts hinX1 hown hK hP 0 rfl rfl 0 (by decide) w_1 (fun _ h9 => h9) rfl dX1_inRow_1 ?_
    refine lv_iload_n (pc := 4) hx hb dX1_inRow_4 rfl (lv_at hl 1 rfl) ?_
    refine lv_iload_n (pc := 5) hx hb dX1_inRow_5 rfl (lv_at hl 2 rfl) ?_
    refine lv_aload_n (pc := 6) hx hb dX1_inRow_6 rfl (lv_at hl 0 rfl) ?_
    refine va_get (pc := 7) (D := D) (ci := 1) (v := .int bx_west) (C := RX1) (T := TX1) (N := 5) hx hb hts hinX1 hown hK hP 0 rfl rfl 3 (by decide) w_2 (fun _ h9 => h9) rfl dX1_inRow_7 ?_
    obtain ⟨v1, hm10, hf⟩ := q_b1_e hf
    refine q_cVr (pc := 10) (As := [.int p1, .int p2, .int bx_west]) (rest := []) (v0 := (some (.int v1))) ⟨hx, hb, hml, hown, hts⟩ hK hA hZ hP hD hS hl.1 [1, 2, 3, 4] 5 rfl ⟨rfl, rfl, rfl⟩ (c_Grid_placeOfLon l D ci A sa N (Rw) a_g a_g_rowCuts a_g_columnCuts a_g_bandRows a_g_zoneColumns a_g_rows a_g_sheets g_bandRows g_zoneColumns g_rows p1 p2 bx_west v1 hm10) 1 rfl rfl (cwV 3 hts gX1_inRow_X2_placeOfLon rfl rfl rfl (by decide +kernel) ⟨Nat.le_of_ble_eq_true rfl, Nat.le_of_ble_eq_true rfl⟩) rfl rfl (Nat.le_of_ble_eq_true rfl) dX1_inRow_10 ⟨Nat.zero_le _, Nat.zero_le _⟩ (fun locs hS => ?_)
    refine lv_istore_n (pc := 13) (lv' := [(3, .int v1), (0, .ref a_bx), (1, .int p1), (2, .int p2)]) hx hb dX1_inRow_13 rfl hl (by decide) rfl (fun ls hl => ?_)
    refine lv_aload_n (pc := 14) hx hb dX1_inRow_14 rfl (lv_at hl 1 rfl) ?_
    refine va_get (pc := 15) (D := D) (ci := 1) (v := .ref a_g) (C := RX1) (T := TX1) (N := 5) hx hb hts hinX1 hown hK hP 0 rfl rfl 0 (by decide) w_1 (fun _ h9 => h9) rfl dX1_inRow_15 ?_
    refine lv_iload_n (pc := 18) hx hb dX1_inRow_18 rfl (lv_at hl 2 rfl) ?_
    refine lv_iload_n (pc := 19) hx hb dX1_inRow_19 rfl (lv_at hl 3 rfl) ?_
    refine lv_aload_n (pc := 20) hx hb dX1_inRow_20 rfl (lv_at hl 1 rfl) ?_
    refine va_get (pc := 21) (D := D) (ci := 1) (v := .int bx_east) (C := RX1) (T := TX1) (N := 5) hx hb hts hinX1 hown hK hP 0 rfl rfl 4 (by decide) w_3 (fun _ h9 => h9) rfl dX1_inRow_21 ?_
    obtain ⟨v2, hm24, hf⟩ := q_b1_e hf
    refine q_cVr (pc := 24) (As := [.int p1, .int p2, .int bx_east]) (rest := []) (v0 := (some (.int v2))) ⟨hx, hb, hml, hown, hts⟩ hK hA hZ hP hD hS hl.1 [1, 2, 3, 4] 5 rfl ⟨rfl, rfl, rfl⟩ (c_Grid_placeOfLon l D ci A sa N (Rw) a_g a_g_rowCuts a_g_columnCuts a_g_bandRows a_g_zoneColumns a_g_rows a_g_sheets g_bandRows g_zoneColumns g_rows p1 p2 bx_east v2 hm24) 1 rfl rfl (cwV 3 hts gX1_inRow_X2_placeOfLon rfl rfl rfl (by decide +kernel) ⟨Nat.le_of_ble_eq_true rfl, Nat.le_of_ble_eq_true rfl⟩) rfl rfl (Nat.le_of_ble_eq_true rfl) dX1_inRow_24 ⟨Nat.zero_le _, Nat.zero_le _⟩ (fun locs hS => ?_)
    refine lv_istore (pc := 27) (lv' := [(4, .int v2), (3, .int v1), (0, .ref a_bx), (1, .int p1), (2, .int p2)]) hx hb dX1_inRow_27 hl (by decide) rfl (fun ls hl => ?_)
    refine lv_aload_n (pc := 29) hx hb dX1_inRow_29 rfl (lv_at hl 2 rfl) ?_
    refine va_get (pc := 30) (D := D) (ci := 1) (v := .int bx_west) (C := RX1) (T := TX1) (N := 5) hx hb hts hinX1 hown hK hP 0 rfl rfl 3 (by decide) w_2 (fun _ h9 => h9) rfl dX1_inRow_30 ?_
    refine lv_aload_n (pc := 33) hx hb dX1_inRow_33 rfl (lv_at hl 2 rfl) ?_
    refine va_get (pc := 34) (D := D) (ci := 1) (v := .int bx_east) (C := RX1) (T := TX1) (N := 5) hx hb hts hinX1 hown hK hP 0 rfl rfl 4 (by decide) w_3 (fun _ h9 => h9) rfl dX1_inRow_34 ?_
    refine q_icmp_gt (pc := 37) (tgt := 47) hx hb dX1_inRow_37 (by decide) rfl hf (fun hf => ?_) (fun hf => ?_)
    · refine lv_aload_n (pc := 47) hx hb dX1_inRow_47 rfl (lv_at hl 2 rfl) ?_
      refine va_get (pc := 48) (D := D) (ci := 1) (v := .ref a_g) (C := RX1) (T := TX1) (N := 5) hx hb hts hinX1 hown hK hP 0 rfl rfl 0 (by decide) w_1 (fun _ h9 => h9) rfl dX1_inRow_48 ?_
      refine lv_iload_n (pc := 51) hx hb dX1_inRow_51 rfl (lv_at hl 3 rfl) ?_
      refine lv_iload_n (pc := 52) hx hb dX1_inRow_52 rfl (lv_at hl 4 rfl) ?_
      obtain ⟨v3, hm53, hf⟩ := q_b1_e hf
      refine q_cVr (pc := 53) (As := [.int p1, .int p2]) (rest := []) (v0 := (some (.int v3))) ⟨hx, hb, hml, hown, hts⟩ hK hA hZ hP hD hS hl.1 [1, 2, 3, 4] 5 rfl ⟨rfl, rfl, rfl⟩ (c_Grid_rowLength l D ci A sa N (Rw) a_g a_g_rowCuts a_g_columnCuts a_g_bandRows a_g_zoneColumns a_g_rows a_g_sheets g_bandRows g_zoneColumns g_rows p1 p2 v3 hm53) 1 rfl rfl (cwV 2 hts gX1_inRow_X2_rowLength rfl rfl rfl (by decide +kernel) ⟨Nat.le_of_ble_eq_true rfl, Nat.le_of_ble_eq_true rfl⟩) rfl rfl (Nat.le_of_ble_eq_true rfl) dX1_inRow_53 ⟨Nat.zero_le _, Nat.zero_le _⟩ (fun locs hS => ?_)
      refine lv_istore (pc := 56) (lv' := [(5, .int v3), (4, .int v2), (3, .int v1), (0, .ref a_bx), (1, .int p1), (2, .int p2)]) hx hb dX1_inRow_56 hl (by decide) rfl (fun ls hl => ?_)
      refine lv_iload (pc := 58) hx hb dX1_inRow_58 (lv_at hl 0 rfl) ?_
      refine lv_iload (pc := 60) hx hb dX1_inRow_60 (lv_at hl 0 rfl) ?_
      refine lv_iload_n (pc := 62) hx hb dX1_inRow_62 rfl (lv_at hl 2 rfl) ?_
      refine lv_isub (pc := 63) hx hb dX1_inRow_63 ?_
      refine lv_iload (pc := 64) hx hb dX1_inRow_64 (lv_at hl 1 rfl) ?_
      refine lv_iadd (pc := 66) hx hb dX1_inRow_66 ?_
      refine lv_iconst (pc := 67) (v := 1) hx hb dX1_inRow_67 (by decide) ?_
      refine lv_iadd (pc := 68) hx hb dX1_inRow_68 ?_
      obtain ⟨v4, ev4, hf⟩ := q_nm_e hf
      refine va_mmin (pc := 69) hx hb (hml.trans hl.1.symm) hown w_4 w_5 w_6 w_7 (Nat.le_of_ble_eq_true rfl) (Nat.le_of_ble_eq_true rfl) (Nat.zero_le _) (Nat.zero_le _) dX1_inRow_69 ?_
      refine q_topi ev4 ?_
      obtain rfl := Option.some.inj hf
      rw [hQ]
      exact q_iretr (pc := 72) hx hb hr hlocks rfl hS dX1_inRow_72
    · refine lv_iload (pc := 40) hx hb dX1_inRow_40 (lv_at hl 0 rfl) ?_
      refine lv_iload_n (pc := 42) hx hb dX1_inRow_42 rfl (lv_at hl 1 rfl) ?_
      refine lv_isub (pc := 43) hx hb dX1_inRow_43 ?_
      refine lv_iconst (pc := 44) (v := 1) hx hb dX1_inRow_44 (by decide) ?_
      refine lv_iadd (pc := 45) hx hb dX1_inRow_45 ?_
      obtain rfl := Option.some.inj hf
      rw [hQ]
      exact q_iretr (pc := 46) hx hb hr hlocks rfl hS dX1_inRow_46
  exact hgo _ _ rfl hP hS
/-! X1_placeByKeys -/
set_option maxRecDepth 100000 in
set_option maxHeartbeats 4000000 in
theorem c_Box_placeByKeys (l : Launch) (D : va_G) (ci : Nat → ClassId) (A : Nat → Prop) (sa : Nat → Nat) (N : Nat) (Rw : va_W) (a_bx : Nat) (a_g : Nat) (a_g_rowCuts : Nat) (a_g_columnCuts : Nat) (a_g_bandRows : Nat) (a_g_zoneColumns : Nat) (a_g_rows : Nat) (a_g_sheets : Nat) (bx_south : Int32) (bx_north : Int32) (bx_west : Int32) (bx_east : Int32) (g_bandRows : Nat → Int32) (g_zoneColumns : Nat → Int32) (g_rows : Nat → Int32) (p1 : Int32) (p2 : Int32) (p3 : Int32) (r : Int32) (hf : f_Box_placeByKeys bx_west bx_east g_bandRows g_zoneColumns g_rows p1 p2 p3 = some r) : Met l yX1_placeByKeys wsX1_placeByKeys ({ frames := 3, cells := 0, slots := 0, locals := 70 }) (va_Pc [.ref a_bx, .int p1, .int p2, .int p3] (q_N D ci A sa ((a_bx, .inr (1, [.ref a_g, .int bx_south, .int bx_north, .int bx_west, .int bx_east])) :: (a_g, .inr (2, [.ref a_g_rowCuts, .ref a_g_columnCuts, .ref a_g_bandRows, .ref a_g_zoneColumns, .ref a_g_rows, .ref a_g_sheets])) :: (a_g_bandRows, .inl (ci 0, 5, .inl g_bandRows)) :: (a_g_zoneColumns, .inl (ci 0, 5, .inl g_zoneColumns)) :: (a_g_rows, .inl (ci 0, 5, .inl g_rows)) :: Rw))) (q_R (some (.int r))) 0 0 A := by
  refine q_ofW (cc := cX1_placeByKeys) (maxL := 8) (ret := (some .int)) [.ref a_bx, .int p1, .int p2, .int p3] (plainFor_of_name (by decide)) rfl (Nat.le_of_ble_eq_true rfl) ?_
  intro p e s m below meth c ls Q hQ hx hb hml hr hts hown hlocks hK hA hZ hP hD hS hl
  have hl : lv_has ls 8 [(0, .ref a_bx), (1, .int p1), (2, .int p2), (3, .int p3)] := hl
  have hown : s.vm.findClass RX1 = some m.cls := hown
  have hinX1 : ∀ w ∈ wsX10, w ∈ wsX1_placeByKeys := fun _ h => List.mem_cons_of_mem _ (inWX10 _ h)
  have w_1 := hts (Cond.fieldLink RX1 24 "SheetNames$Box" "grid" "LSheetNames$Grid;") (List.mem_cons_of_mem _ t_w827)
  have w_2 := hts (Cond.fieldLink RX1 18 "SheetNames$Box" "west" "I") (List.mem_cons_of_mem _ t_w832)
  have w_3 := hts (Cond.methodLink RX1 57 Lib.Math.max.name) (List.mem_cons_of_mem _ t_w831)
  have w_4 := hts (Cond.static Lib.Math.max.name) (List.mem_cons_of_mem _ t_w813)
  have w_5 := hts (Cond.initialized "java/lang/Math") (List.mem_cons_of_mem _ t_w76)
  have w_6 := hts (Cond.code Lib.Math.max.name Lib.Math.max.code 2 (some .int)) (List.mem_cons_of_mem _ t_w814)
  unfold f_Box_placeByKeys at hf
  have hgo : ∀ (H : Heap) (locs : List Loc), H = s.heap → va_P D vwCl ((a_bx, .inr (1, [.ref a_g, .int bx_south, .int bx_north, .int bx_west, .int bx_east])) :: (a_g, .inr (2, [.ref a_g_rowCuts, .ref a_g_columnCuts, .ref a_g_bandRows, .ref a_g_zoneColumns, .ref a_g_rows, .ref a_g_sheets])) :: (a_g_bandRows, .inl (ci 0, 5, .inl g_bandRows)) :: (a_g_zoneColumns, .inl (ci 0, 5, .inl g_zoneColumns)) :: (a_g_rows, .inl (ci 0, 5, .inl g_rows)) :: Rw) H → va_S A s.heap H locs → W p l e ({ frames := 3, cells := 0, slots := 0, locals := 70 } : Room) s m ([.ref a_bx, .int p1, .int p2, .int p3] : List Value).toArray below meth c H locs 0 0 Q (F0 m 0 ls []) := by
    intro H locs hH hP hS
    subst hH
    refine lv_aload_n (pc := 0) hx hb dX1_placeByKeys_0 rfl (lv_at hl 0 rfl) ?_
    refine va_get (pc := 1) (D := D) (ci := 1) (v := .ref a_g) (C := RX1) (T := TX1) (N := 5) hx hb hts hinX1 hown hK hP 0 rfl rfl 0 (by decide) w_1 (fun _ h9 => h9) rfl dX1_placeByKeys_1 ?_
    refine lv_iload_n (pc := 4) hx hb dX1_placeByKeys_4 rfl (lv_at hl 1 rfl) ?_
    refine lv_iload_n (pc := 5) hx hb dX1_placeByKeys_5 rfl (lv_at hl 2 rfl) ?_
    obtain ⟨v1, hm6, hf⟩ := q_b1_e hf
    refine q_cVr (pc := 6) (As := [.int p1, .int p2]) (rest := []) (v0 := (some (.int v1))) ⟨hx, hb, hml, hown, hts⟩ hK hA hZ hP hD hS hl.1 [1, 2, 3, 4] 5 rfl ⟨rfl, rfl, rfl⟩ (c_Grid_rowLength l D ci A sa N (Rw) a_g a_g_rowCuts a_g_columnCuts a_g_bandRows a_g_zoneColumns a_g_rows a_g_sheets g_bandRows g_zoneColumns g_rows p1 p2 v1 hm6) 1 rfl rfl (cwV 2 hts gX1_placeByKeys_X2_rowLength rfl rfl rfl (by decide +kernel) ⟨Nat.le_of_ble_eq_true rfl, Nat.le_of_ble_eq_true rfl⟩) rfl rfl (Nat.le_of_ble_eq_true rfl) dX1_placeByKeys_6 ⟨Nat.zero_le _, Nat.zero_le _⟩ (fun locs hS => ?_)
    refine lv_istore (pc := 9) (lv' := [(4, .int v1), (0, .ref a_bx), (1, .int p1), (2, .int p2), (3, .int p3)]) hx hb dX1_placeByKeys_9 hl (by decide) rfl (fun ls hl => ?_)
    refine lv_aload_n (pc := 11) hx hb dX1_placeByKeys_11 rfl (lv_at hl 1 rfl) ?_
    refine lv_iload_n (pc := 12) hx hb dX1_placeByKeys_12 rfl (lv_at hl 2 rfl) ?_
    refine lv_iload_n (pc := 13) hx hb dX1_placeByKeys_13 rfl (lv_at hl 3 rfl) ?_
    obtain ⟨v2, hm14, hf⟩ := q_b1_e hf
    refine q_cVr (pc := 14) (As := [.int p1, .int p2]) (rest := []) (v0 := (some (.int v2))) ⟨hx, hb, hml, hown, hts⟩ hK hA hZ hP hD hS hl.1 [0, 1, 2, 3, 4] 5 rfl ⟨rfl, rfl, rfl⟩ (c_Box_inRow l D ci A sa N (Rw) a_bx a_g a_g_rowCuts a_g_columnCuts a_g_bandRows a_g_zoneColumns a_g_rows a_g_sheets bx_south bx_north bx_west bx_east g_bandRows g_zoneColumns g_rows p1 p2 v2 hm14) 0 rfl rfl (cwV 2 hts gX1_placeByKeys_X1_inRow rfl rfl rfl (by decide +kernel) ⟨Nat.le_of_ble_eq_true rfl, Nat.le_of_ble_eq_true rfl⟩) rfl rfl (Nat.le_of_ble_eq_true rfl) dX1_placeByKeys_14 ⟨Nat.zero_le _, Nat.zero_le _⟩ (fun locs hS => ?_)
    refine lv_istore (pc := 17) (lv' := [(5, .int v2), (4, .int v1), (0, .ref a_bx), (1, .int p1), (2, .int p2), (3, .int p3)]) hx hb dX1_placeByKeys_17 hl (by decide) rfl (fun ls hl => ?_)
    refine lv_iload (pc := 19) hx hb dX1_placeByKeys_19 (lv_at hl 0 rfl) ?_
    refine lv_iload (pc := 21) hx hb dX1_placeByKeys_21 (lv_at hl 1 rfl) ?_
    refine q_icmp_ne (pc := 23) (tgt := 28) hx hb dX1_placeByKeys_23 (by decide) rfl hf (fun hf => ?_) (fun hf => ?_)
    · refine lv_aload_n (pc := 28) hx hb dX1_placeByKeys_28 rfl (lv_at hl 2 rfl) ?_
      refine va_get (pc := 29) (D := D) (ci := 1) (v := .ref a_g) (C := RX1) (T := TX1) (N := 5) hx hb hts hinX1 hown hK hP 0 rfl rfl 0 (by decide) w_1 (fun _ h9 => h9) rfl dX1_placeByKeys_29 ?_
      refine lv_iload_n (pc := 32) hx hb dX1_placeByKeys_32 rfl (lv_at hl 3 rfl) ?_
      refine lv_iload_n (pc := 33) hx hb dX1_placeByKeys_33 rfl (lv_at hl 4 rfl) ?_
      refine lv_aload_n (pc := 34) hx hb dX1_placeByKeys_34 rfl (lv_at hl 2 rfl) ?_
      refine va_get (pc := 35) (D := D) (ci := 1) (v := .int bx_west) (C := RX1) (T := TX1) (N := 5) hx hb hts hinX1 hown hK hP 0 rfl rfl 3 (by decide) w_2 (fun _ h9 => h9) rfl dX1_placeByKeys_35 ?_
      obtain ⟨v3, hm38, hf⟩ := q_b1_e hf
      refine q_cVr (pc := 38) (As := [.int p1, .int p2, .int bx_west]) (rest := []) (v0 := (some (.int v3))) ⟨hx, hb, hml, hown, hts⟩ hK hA hZ hP hD hS hl.1 [1, 2, 3, 4] 5 rfl ⟨rfl, rfl, rfl⟩ (c_Grid_placeOfLon l D ci A sa N (Rw) a_g a_g_rowCuts a_g_columnCuts a_g_bandRows a_g_zoneColumns a_g_rows a_g_sheets g_bandRows g_zoneColumns g_rows p1 p2 bx_west v3 hm38) 1 rfl rfl (cwV 3 hts gX1_placeByKeys_X2_placeOfLon rfl rfl rfl (by decide +kernel) ⟨Nat.le_of_ble_eq_true rfl, Nat.le_of_ble_eq_true rfl⟩) rfl rfl (Nat.le_of_ble_eq_true rfl) dX1_placeByKeys_38 ⟨Nat.zero_le _, Nat.zero_le _⟩ (fun locs hS => ?_)
      refine lv_istore (pc := 41) (lv' := [(6, .int v3), (5, .int v2), (4, .int v1), (0, .ref a_bx), (1, .int p1), (2, .int p2), (3, .int p3)]) hx hb dX1_placeByKeys_41 hl (by decide) rfl (fun ls hl => ?_)
      refine lv_iconst (pc := 43) (v := 0) hx hb dX1_placeByKeys_43 (by decide) ?_
      refine lv_iload (pc := 44) hx hb dX1_placeByKeys_44 (lv_at hl 0 rfl) ?_
      refine lv_iload (pc := 46) hx hb dX1_placeByKeys_46 (lv_at hl 1 rfl) ?_
      refine lv_iadd (pc := 48) hx hb dX1_placeByKeys_48 ?_
      refine lv_iload (pc := 49) hx hb dX1_placeByKeys_49 (lv_at hl 2 rfl) ?_
      refine lv_isub (pc := 51) hx hb dX1_placeByKeys_51 ?_
      obtain ⟨v4, ev4, hf⟩ := q_nm_e hf
      refine va_mmax (pc := 52) hx hb (hml.trans hl.1.symm) hown w_3 w_4 w_5 w_6 (Nat.le_of_ble_eq_true rfl) (Nat.le_of_ble_eq_true rfl) (Nat.zero_le _) (Nat.zero_le _) dX1_placeByKeys_52 ?_
      refine q_topi ev4 ?_
      refine lv_istore (pc := 55) (lv' := [(7, .int v4), (6, .int v3), (5, .int v2), (4, .int v1), (0, .ref a_bx), (1, .int p1), (2, .int p2), (3, .int p3)]) hx hb dX1_placeByKeys_55 hl (by decide) rfl (fun ls hl => ?_)
      refine lv_iload_n (pc := 57) hx hb dX1_placeByKeys_57 rfl (lv_at hl 7 rfl) ?_
      refine lv_iload (pc := 58) hx hb dX1_placeByKeys_58 (lv_at hl 0 rfl) ?_
      refine q_icmp_ge (pc := 60) (tgt := 67) hx hb dX1_placeByKeys_60 (by decide) rfl hf (fun hf => ?_) (fun hf => ?_)
      · refine lv_iload (pc := 67) hx hb dX1_placeByKeys_67 (lv_at hl 1 rfl) ?_
        refine lv_iload_n (pc := 69) hx hb dX1_placeByKeys_69 rfl (lv_at hl 7 rfl) ?_
        refine lv_iadd (pc := 70) hx hb dX1_placeByKeys_70 ?_
        refine lv_iload (pc := 71) hx hb dX1_placeByKeys_71 (lv_at hl 0 rfl) ?_
        refine lv_isub (pc := 73) hx hb dX1_placeByKeys_73 ?_
        obtain rfl := Option.some.inj hf
        rw [hQ]
        exact q_iretr (pc := 74) hx hb hr hlocks rfl hS dX1_placeByKeys_74
      · refine lv_iload_n (pc := 63) hx hb dX1_placeByKeys_63 rfl (lv_at hl 7 rfl) ?_
        refine lv_goto (pc := 64) (tgt := 74) hx hb dX1_placeByKeys_64 (by decide) ?_
        obtain rfl := Option.some.inj hf
        rw [hQ]
        exact q_iretr (pc := 74) hx hb hr hlocks rfl hS dX1_placeByKeys_74
    · refine lv_iload_n (pc := 26) hx hb dX1_placeByKeys_26 rfl (lv_at hl 5 rfl) ?_
      obtain rfl := Option.some.inj hf
      rw [hQ]
      exact q_iretr (pc := 27) hx hb hr hlocks rfl hS dX1_placeByKeys_27
  exact hgo _ _ rfl hP hS
/-! X1_isWhole -/
set_option maxRecDepth 100000 in
set_option maxHeartbeats 4000000 in
theorem c_Box_isWhole (l : Launch) (D : va_G) (ci : Nat → ClassId) (A : Nat → Prop) (sa : Nat → Nat) (N : Nat) (Rw : va_W) (a_bx : Nat) (a_g : Nat) (a_g_rowCuts : Nat) (a_g_columnCuts : Nat) (a_g_bandRows : Nat) (a_g_zoneColumns : Nat) (a_g_rows : Nat) (a_g_sheets : Nat) (bx_south : Int32) (bx_north : Int32) (bx_west : Int32) (bx_east : Int32) (g_bandRows : Nat → Int32) (g_zoneColumns : Nat → Int32) (g_rows : Nat → Int32) (p1 : Int32) (p2 : Int32) (p3 : Int32) (p4 : Int32) (r : Int32) (hf : f_Box_isWhole bx_south bx_north bx_west bx_east g_bandRows g_zoneColumns g_rows p1 p2 p3 p4 = some r) : Met l yX1_isWhole wsX1_isWhole ({ frames := 3, cells := 0, slots := 0, locals := 70 }) (va_Pc [.ref a_bx, .int p1, .int p2, .int p3, .int p4] (q_N D ci A sa ((a_bx, .inr (1, [.ref a_g, .int bx_south, .int bx_north, .int bx_west, .int bx_east])) :: (a_g, .inr (2, [.ref a_g_rowCuts, .ref a_g_columnCuts, .ref a_g_bandRows, .ref a_g_zoneColumns, .ref a_g_rows, .ref a_g_sheets])) :: (a_g_bandRows, .inl (ci 0, 5, .inl g_bandRows)) :: (a_g_zoneColumns, .inl (ci 0, 5, .inl g_zoneColumns)) :: (a_g_rows, .inl (ci 0, 5, .inl g_rows)) :: Rw))) (q_R (some (.int r))) 0 0 A := by
  refine q_ofW (cc := cX1_isWhole) (maxL := 11) (ret := (some .boolean)) [.ref a_bx, .int p1, .int p2, .int p3, .int p4] (plainFor_of_name (by decide)) rfl (Nat.le_of_ble_eq_true rfl) ?_
  intro p e s m below meth c ls Q hQ hx hb hml hr hts hown hlocks hK hA hZ hP hD hS hl
  have hl : lv_has ls 11 [(0, .ref a_bx), (1, .int p1), (2, .int p2), (3, .int p3), (4, .int p4)] := hl
  have hown : s.vm.findClass RX1 = some m.cls := hown
  have hinX1 : ∀ w ∈ wsX10, w ∈ wsX1_isWhole := fun _ h => List.mem_cons_of_mem _ (inWX10 _ h)
  have w_1 := hts (Cond.fieldLink RX1 24 "SheetNames$Box" "grid" "LSheetNames$Grid;") (List.mem_cons_of_mem _ t_w827)
  have w_2 := hts (Cond.fieldLink RX1 18 "SheetNames$Box" "west" "I") (List.mem_cons_of_mem _ t_w832)
  unfold f_Box_isWhole at hf
  have hgo : ∀ (H : Heap) (locs : List Loc), H = s.heap → va_P D vwCl ((a_bx, .inr (1, [.ref a_g, .int bx_south, .int bx_north, .int bx_west, .int bx_east])) :: (a_g, .inr (2, [.ref a_g_rowCuts, .ref a_g_columnCuts, .ref a_g_bandRows, .ref a_g_zoneColumns, .ref a_g_rows, .ref a_g_sheets])) :: (a_g_bandRows, .inl (ci 0, 5, .inl g_bandRows)) :: (a_g_zoneColumns, .inl (ci 0, 5, .inl g_zoneColumns)) :: (a_g_rows, .inl (ci 0, 5, .inl g_rows)) :: Rw) H → va_S A s.heap H locs → W p l e ({ frames := 3, cells := 0, slots := 0, locals := 70 } : Room) s m ([.ref a_bx, .int p1, .int p2, .int p3, .int p4] : List Value).toArray below meth c H locs 0 0 Q (F0 m 0 ls []) := by
    intro H locs hH hP hS
    subst hH
    refine lv_aload_n (pc := 0) hx hb dX1_isWhole_0 rfl (lv_at hl 0 rfl) ?_
    refine va_get (pc := 1) (D := D) (ci := 1) (v := .ref a_g) (C := RX1) (T := TX1) (N := 5) hx hb hts hinX1 hown hK hP 0 rfl rfl 0 (by decide) w_1 (fun _ h9 => h9) rfl dX1_isWhole_1 ?_
    refine lv_iload_n (pc := 4) hx hb dX1_isWhole_4 rfl (lv_at hl 1 rfl) ?_
    refine lv_iload (pc := 5) hx hb dX1_isWhole_5 (lv_at hl 4 rfl) ?_
    obtain ⟨v1, hm7, hf⟩ := q_b1_e hf
    refine q_cVr (pc := 7) (As := [.int p1, .int p4]) (rest := []) (v0 := (some (.int v1))) ⟨hx, hb, hml, hown, hts⟩ hK hA hZ hP hD hS hl.1 [1, 2] 5 rfl ⟨rfl, rfl, rfl⟩ (c_Grid_rowsIn l D ci A sa N (Rw) a_g a_g_rowCuts a_g_columnCuts a_g_bandRows a_g_zoneColumns a_g_rows a_g_sheets g_bandRows p1 p4 v1 hm7) 1 rfl rfl (cwV 2 hts gX1_isWhole_X2_rowsIn rfl rfl rfl (by decide +kernel) ⟨Nat.le_of_ble_eq_true rfl, Nat.le_of_ble_eq_true rfl⟩) rfl rfl (Nat.le_of_ble_eq_true rfl) dX1_isWhole_7 ⟨Nat.zero_le _, Nat.zero_le _⟩ (fun locs hS => ?_)
    refine lv_istore (pc := 10) (lv' := [(5, .int v1), (0, .ref a_bx), (1, .int p1), (2, .int p2), (3, .int p3), (4, .int p4)]) hx hb dX1_isWhole_10 hl (by decide) rfl (fun ls hl => ?_)
    refine lv_iload_n (pc := 12) hx hb dX1_isWhole_12 rfl (lv_at hl 3 rfl) ?_
    refine lv_iconst (pc := 13) (v := 1) hx hb dX1_isWhole_13 (by decide) ?_
    refine lv_isub (pc := 14) hx hb dX1_isWhole_14 ?_
    refine lv_iload (pc := 15) hx hb dX1_isWhole_15 (lv_at hl 0 rfl) ?_
    refine lv_imul (pc := 17) hx hb dX1_isWhole_17 ?_
    refine lv_iconst (pc := 18) (v := 1) hx hb dX1_isWhole_18 (by decide) ?_
    refine lv_iadd (pc := 19) hx hb dX1_isWhole_19 ?_
    obtain ⟨v2, ev2, hf⟩ := q_nm_e hf
    refine q_topi ev2 ?_
    refine lv_istore (pc := 20) (lv' := [(6, .int v2), (5, .int v1), (0, .ref a_bx), (1, .int p1), (2, .int p2), (3, .int p3), (4, .int p4)]) hx hb dX1_isWhole_20 hl (by decide) rfl (fun ls hl => ?_)
    refine lv_iload (pc := 22) hx hb dX1_isWhole_22 (lv_at hl 0 rfl) ?_
    refine lv_aload_n (pc := 24) hx hb dX1_isWhole_24 rfl (lv_at hl 2 rfl) ?_
    refine lv_iload (pc := 25) hx hb dX1_isWhole_25 (lv_at hl 6 rfl) ?_
    obtain ⟨v3, hm27, hf⟩ := q_b1_e hf
    refine q_cVr (pc := 27) (As := [.int p4]) (rest := [.int v2]) (v0 := (some (.int v3))) ⟨hx, hb, hml, hown, hts⟩ hK hA hZ hP hD hS hl.1 [0, 1, 2, 4] 5 rfl ⟨rfl, rfl, rfl⟩ (c_Box_topRow l D ci A sa N (Rw) a_bx a_g a_g_rowCuts a_g_columnCuts a_g_bandRows a_g_zoneColumns a_g_rows a_g_sheets bx_south bx_north bx_west bx_east g_bandRows g_rows p4 v3 hm27) 0 rfl rfl (cwV 1 hts gX1_isWhole_X1_topRow rfl rfl rfl (by decide +kernel) ⟨Nat.le_of_ble_eq_true rfl, Nat.le_of_ble_eq_true rfl⟩) rfl rfl (Nat.le_of_ble_eq_true rfl) dX1_isWhole_27 ⟨Nat.zero_le _, Nat.zero_le _⟩ (fun locs hS => ?_)
    refine q_icmp_lt (pc := 30) (tgt := 49) hx hb dX1_isWhole_30 (by decide) rfl hf (fun hf => ?_) (fun hf => ?_)
    · refine lv_iconst (pc := 49) (v := 0) hx hb dX1_isWhole_49 (by decide) ?_
      obtain rfl := Option.some.inj hf
      rw [hQ]
      exact q_zretr (pc := 50) hx hb hr rfl hlocks rfl hS dX1_isWhole_50
    · refine lv_iload (pc := 33) hx hb dX1_isWhole_33 (lv_at hl 0 rfl) ?_
      refine lv_iload (pc := 35) hx hb dX1_isWhole_35 (lv_at hl 1 rfl) ?_
      refine lv_iadd (pc := 37) hx hb dX1_isWhole_37 ?_
      refine lv_iconst (pc := 38) (v := 1) hx hb dX1_isWhole_38 (by decide) ?_
      refine lv_isub (pc := 39) hx hb dX1_isWhole_39 ?_
      refine lv_aload_n (pc := 40) hx hb dX1_isWhole_40 rfl (lv_at hl 2 rfl) ?_
      refine lv_iload (pc := 41) hx hb dX1_isWhole_41 (lv_at hl 6 rfl) ?_
      obtain ⟨v4, hm43, hf⟩ := q_b1_e hf
      refine q_cVr (pc := 43) (As := [.int p4]) (rest := [.int ((v2 + v1) - 1)]) (v0 := (some (.int v4))) ⟨hx, hb, hml, hown, hts⟩ hK hA hZ hP hD hS hl.1 [0, 1, 2, 4] 5 rfl ⟨rfl, rfl, rfl⟩ (c_Box_bottomRow l D ci A sa N (Rw) a_bx a_g a_g_rowCuts a_g_columnCuts a_g_bandRows a_g_zoneColumns a_g_rows a_g_sheets bx_south bx_north bx_west bx_east g_bandRows g_rows p4 v4 hm43) 0 rfl rfl (cwV 1 hts gX1_isWhole_X1_bottomRow rfl rfl rfl (by decide +kernel) ⟨Nat.le_of_ble_eq_true rfl, Nat.le_of_ble_eq_true rfl⟩) rfl rfl (Nat.le_of_ble_eq_true rfl) dX1_isWhole_43 ⟨Nat.zero_le _, Nat.zero_le _⟩ (fun locs hS => ?_)
      refine q_icmp_le (pc := 46) (tgt := 51) hx hb dX1_isWhole_46 (by decide) rfl hf (fun hf => ?_) (fun hf => ?_)
      · refine lv_aload_n (pc := 51) hx hb dX1_isWhole_51 rfl (lv_at hl 2 rfl) ?_
        refine lv_iload (pc := 52) hx hb dX1_isWhole_52 (lv_at hl 6 rfl) ?_
        refine lv_iload (pc := 54) hx hb dX1_isWhole_54 (lv_at hl 0 rfl) ?_
        obtain ⟨v5, hm56, hf⟩ := q_b1_e hf
        refine q_cVr (pc := 56) (As := [.int p4, .int v2]) (rest := []) (v0 := (some (.int v5))) ⟨hx, hb, hml, hown, hts⟩ hK hA hZ hP hD hS hl.1 [0, 1, 2, 3, 4] 5 rfl ⟨rfl, rfl, rfl⟩ (c_Box_inRow l D ci A sa N (Rw) a_bx a_g a_g_rowCuts a_g_columnCuts a_g_bandRows a_g_zoneColumns a_g_rows a_g_sheets bx_south bx_north bx_west bx_east g_bandRows g_zoneColumns g_rows p4 v2 v5 hm56) 0 rfl rfl (cwV 2 hts gX1_isWhole_X1_inRow rfl rfl rfl (by decide +kernel) ⟨Nat.le_of_ble_eq_true rfl, Nat.le_of_ble_eq_true rfl⟩) rfl rfl (Nat.le_of_ble_eq_true rfl) dX1_isWhole_56 ⟨Nat.zero_le _, Nat.zero_le _⟩ (fun locs hS => ?_)
        refine lv_istore (pc := 59) (lv' := [(7, .int v5), (6, .int v2), (5, .int v1), (0, .ref a_bx), (1, .int p1), (2, .int p2), (3, .int p3), (4, .int p4)]) hx hb dX1_isWhole_59 hl (by decide) rfl (fun ls hl => ?_)
        refine lv_aload_n (pc := 61) hx hb dX1_isWhole_61 rfl (lv_at hl 3 rfl) ?_
        refine va_get (pc := 62) (D := D) (ci := 1) (v := .ref a_g) (C := RX1) (T := TX1) (N := 5) hx hb hts hinX1 hown hK hP 0 rfl rfl 0 (by decide) w_1 (fun _ h9 => h9) rfl dX1_isWhole_62 ?_
        refine lv_iload (pc := 65) hx hb dX1_isWhole_65 (lv_at hl 7 rfl) ?_
        refine lv_iload (pc := 67) hx hb dX1_isWhole_67 (lv_at hl 1 rfl) ?_
        obtain ⟨v6, hm69, hf⟩ := q_b1_e hf
        refine q_cVr (pc := 69) (As := [.int p4, .int v2]) (rest := []) (v0 := (some (.int v6))) ⟨hx, hb, hml, hown, hts⟩ hK hA hZ hP hD hS hl.1 [1, 2, 3, 4] 5 rfl ⟨rfl, rfl, rfl⟩ (c_Grid_rowLength l D ci A sa N (Rw) a_g a_g_rowCuts a_g_columnCuts a_g_bandRows a_g_zoneColumns a_g_rows a_g_sheets g_bandRows g_zoneColumns g_rows p4 v2 v6 hm69) 1 rfl rfl (cwV 2 hts gX1_isWhole_X2_rowLength rfl rfl rfl (by decide +kernel) ⟨Nat.le_of_ble_eq_true rfl, Nat.le_of_ble_eq_true rfl⟩) rfl rfl (Nat.le_of_ble_eq_true rfl) dX1_isWhole_69 ⟨Nat.zero_le _, Nat.zero_le _⟩ (fun locs hS => ?_)
        refine lv_istore (pc := 72) (lv' := [(8, .int v6), (7, .int v5), (6, .int v2), (5, .int v1), (0, .ref a_bx), (1, .int p1), (2, .int p2), (3, .int p3), (4, .int p4)]) hx hb dX1_isWhole_72 hl (by decide) rfl (fun ls hl => ?_)
        refine lv_iload (pc := 74) hx hb dX1_isWhole_74 (lv_at hl 1 rfl) ?_
        refine lv_iload (pc := 76) hx hb dX1_isWhole_76 (lv_at hl 0 rfl) ?_
        refine q_icmp_ne (pc := 78) (tgt := 83) hx hb dX1_isWhole_78 (by decide) rfl hf (fun hf => ?_) (fun hf => ?_)
        · refine lv_aload_n (pc := 83) hx hb dX1_isWhole_83 rfl (lv_at hl 4 rfl) ?_
          refine va_get (pc := 84) (D := D) (ci := 1) (v := .ref a_g) (C := RX1) (T := TX1) (N := 5) hx hb hts hinX1 hown hK hP 0 rfl rfl 0 (by decide) w_1 (fun _ h9 => h9) rfl dX1_isWhole_84 ?_
          refine lv_iload_n (pc := 87) hx hb dX1_isWhole_87 rfl (lv_at hl 5 rfl) ?_
          refine lv_iload (pc := 88) hx hb dX1_isWhole_88 (lv_at hl 8 rfl) ?_
          obtain ⟨v7, hm90, hf⟩ := q_b1_e hf
          refine q_cVr (pc := 90) (As := [.int p1, .int p4]) (rest := []) (v0 := (some (.int v7))) ⟨hx, hb, hml, hown, hts⟩ hK hA hZ hP hD hS hl.1 [1, 3] 5 rfl ⟨rfl, rfl, rfl⟩ (c_Grid_columnsIn l D ci A sa N (Rw) a_g a_g_rowCuts a_g_columnCuts a_g_bandRows a_g_zoneColumns a_g_rows a_g_sheets g_zoneColumns p1 p4 v7 hm90) 1 rfl rfl (cwV 2 hts gX1_isWhole_X2_columnsIn rfl rfl rfl (by decide +kernel) ⟨Nat.le_of_ble_eq_true rfl, Nat.le_of_ble_eq_true rfl⟩) rfl rfl (Nat.le_of_ble_eq_true rfl) dX1_isWhole_90 ⟨Nat.zero_le _, Nat.zero_le _⟩ (fun locs hS => ?_)
          refine lv_istore (pc := 93) (lv' := [(9, .int v7), (8, .int v6), (7, .int v5), (6, .int v2), (5, .int v1), (0, .ref a_bx), (1, .int p1), (2, .int p2), (3, .int p3), (4, .int p4)]) hx hb dX1_isWhole_93 hl (by decide) rfl (fun ls hl => ?_)
          refine lv_aload_n (pc := 95) hx hb dX1_isWhole_95 rfl (lv_at hl 5 rfl) ?_
          refine va_get (pc := 96) (D := D) (ci := 1) (v := .ref a_g) (C := RX1) (T := TX1) (N := 5) hx hb hts hinX1 hown hK hP 0 rfl rfl 0 (by decide) w_1 (fun _ h9 => h9) rfl dX1_isWhole_96 ?_
          refine lv_iload (pc := 99) hx hb dX1_isWhole_99 (lv_at hl 9 rfl) ?_
          refine lv_iload (pc := 101) hx hb dX1_isWhole_101 (lv_at hl 3 rfl) ?_
          refine lv_aload_n (pc := 103) hx hb dX1_isWhole_103 rfl (lv_at hl 5 rfl) ?_
          refine va_get (pc := 104) (D := D) (ci := 1) (v := .int bx_west) (C := RX1) (T := TX1) (N := 5) hx hb hts hinX1 hown hK hP 0 rfl rfl 3 (by decide) w_2 (fun _ h9 => h9) rfl dX1_isWhole_104 ?_
          obtain ⟨v8, hm107, hf⟩ := q_b1_e hf
          refine q_cVr (pc := 107) (As := [.int p4, .int v2, .int bx_west]) (rest := []) (v0 := (some (.int v8))) ⟨hx, hb, hml, hown, hts⟩ hK hA hZ hP hD hS hl.1 [1, 2, 3, 4] 5 rfl ⟨rfl, rfl, rfl⟩ (c_Grid_placeOfLon l D ci A sa N (Rw) a_g a_g_rowCuts a_g_columnCuts a_g_bandRows a_g_zoneColumns a_g_rows a_g_sheets g_bandRows g_zoneColumns g_rows p4 v2 bx_west v8 hm107) 1 rfl rfl (cwV 3 hts gX1_isWhole_X2_placeOfLon rfl rfl rfl (by decide +kernel) ⟨Nat.le_of_ble_eq_true rfl, Nat.le_of_ble_eq_true rfl⟩) rfl rfl (Nat.le_of_ble_eq_true rfl) dX1_isWhole_107 ⟨Nat.zero_le _, Nat.zero_le _⟩ (fun locs hS => ?_)
          refine lv_istore (pc := 110) (lv' := [(10, .int v8), (9, .int v7), (8, .int v6), (7, .int v5), (6, .int v2), (5, .int v1), (0, .ref a_bx), (1, .int p1), (2, .int p2), (3, .int p3), (4, .int p4)]) hx hb dX1_isWhole_110 hl (by decide) rfl (fun ls hl => ?_)
          refine lv_iload_n (pc := 112) hx hb dX1_isWhole_112 rfl (lv_at hl 9 rfl) ?_
          refine lv_iload (pc := 113) hx hb dX1_isWhole_113 (lv_at hl 1 rfl) ?_
          refine lv_imul (pc := 115) hx hb dX1_isWhole_115 ?_
          refine lv_iload (pc := 116) hx hb dX1_isWhole_116 (lv_at hl 0 rfl) ?_
          refine lv_isub (pc := 118) hx hb dX1_isWhole_118 ?_
          refine lv_iload (pc := 119) hx hb dX1_isWhole_119 (lv_at hl 2 rfl) ?_
          obtain ⟨v9, hm121, hf⟩ := q_b1_e hf
          refine q_cSr (pc := 121) (As := [.int ((p3 * v7) - v8), .int v6]) (rest := []) (v0 := (some (.int v9))) ⟨hx, hb, hml, hown, hts⟩ hK hA hZ hP hD hS hl.1 [] 5 rfl ⟨rfl, rfl, rfl⟩ (c_JMath_floorMod_7cf53 l D ci A sa N (Rw) ((p3 * v7) - v8) v6 v9 hm121) (va_cwS 2 hts gX1_isWhole_J9_floorMod_7cf53 rfl rfl rfl (by decide +kernel) ⟨Nat.le_of_ble_eq_true rfl, Nat.le_of_ble_eq_true rfl⟩) rfl rfl (Nat.le_of_ble_eq_true rfl) dX1_isWhole_121 ⟨Nat.zero_le _, Nat.zero_le _⟩ (fun locs hS => ?_)
          refine lv_iload (pc := 124) hx hb dX1_isWhole_124 (lv_at hl 1 rfl) ?_
          refine lv_iadd (pc := 126) hx hb dX1_isWhole_126 ?_
          refine lv_iload (pc := 127) hx hb dX1_isWhole_127 (lv_at hl 3 rfl) ?_
          refine q_icmp_gt (pc := 129) (tgt := 136) hx hb dX1_isWhole_129 (by decide) rfl hf (fun hf => ?_) (fun hf => ?_)
          · refine lv_iconst (pc := 136) (v := 0) hx hb dX1_isWhole_136 (by decide) ?_
            obtain rfl := Option.some.inj hf
            rw [hQ]
            exact q_zretr (pc := 137) hx hb hr rfl hlocks rfl hS dX1_isWhole_137
          · refine lv_iconst (pc := 132) (v := 1) hx hb dX1_isWhole_132 (by decide) ?_
            refine lv_goto (pc := 133) (tgt := 137) hx hb dX1_isWhole_133 (by decide) ?_
            obtain rfl := Option.some.inj hf
            rw [hQ]
            exact q_zretr (pc := 137) hx hb hr rfl hlocks rfl hS dX1_isWhole_137
        · refine lv_iconst (pc := 81) (v := 1) hx hb dX1_isWhole_81 (by decide) ?_
          obtain rfl := Option.some.inj hf
          rw [hQ]
          exact q_zretr (pc := 82) hx hb hr rfl hlocks rfl hS dX1_isWhole_82
      · refine lv_iconst (pc := 49) (v := 0) hx hb dX1_isWhole_49 (by decide) ?_
        obtain rfl := Option.some.inj hf
        rw [hQ]
        exact q_zretr (pc := 50) hx hb hr rfl hlocks rfl hS dX1_isWhole_50
  exact hgo _ _ rfl hP hS
/-! X1_isCover -/
set_option maxRecDepth 100000 in
set_option maxHeartbeats 4000000 in
theorem c_Box_isCover (l : Launch) (D : va_G) (ci : Nat → ClassId) (A : Nat → Prop) (sa : Nat → Nat) (N : Nat) (Rw : va_W) (a_bx : Nat) (a_g : Nat) (a_g_rowCuts : Nat) (a_g_columnCuts : Nat) (a_g_bandRows : Nat) (a_g_zoneColumns : Nat) (a_g_rows : Nat) (a_g_sheets : Nat) (bx_south : Int32) (bx_north : Int32) (bx_west : Int32) (bx_east : Int32) (g_rowCuts : Nat → Int32) (g_columnCuts : Nat → Int32) (g_bandRows : Nat → Int32) (g_zoneColumns : Nat → Int32) (g_rows : Nat → Int32) (p1 : Int32) (p2 : Int32) (p3 : Int32) (p4 : Int32) (r : Int32) (hf : f_Box_isCover bx_south bx_north bx_west bx_east g_rowCuts g_columnCuts g_bandRows g_zoneColumns g_rows p1 p2 p3 p4 = some r) : Met l yX1_isCover wsX1_isCover ({ frames := 4, cells := 0, slots := 0, locals := 100 }) (va_Pc [.ref a_bx, .int p1, .int p2, .int p3, .int p4] (q_N D ci A sa ((a_bx, .inr (1, [.ref a_g, .int bx_south, .int bx_north, .int bx_west, .int bx_east])) :: (a_g, .inr (2, [.ref a_g_rowCuts, .ref a_g_columnCuts, .ref a_g_bandRows, .ref a_g_zoneColumns, .ref a_g_rows, .ref a_g_sheets])) :: (a_g_rowCuts, .inl (ci 0, 5, .inl g_rowCuts)) :: (a_g_columnCuts, .inl (ci 0, 5, .inl g_columnCuts)) :: (a_g_bandRows, .inl (ci 0, 5, .inl g_bandRows)) :: (a_g_zoneColumns, .inl (ci 0, 5, .inl g_zoneColumns)) :: (a_g_rows, .inl (ci 0, 5, .inl g_rows)) :: Rw))) (q_R (some (.int r))) 0 0 A := by
  refine q_ofW (cc := cX1_isCover) (maxL := 6) (ret := (some .boolean)) [.ref a_bx, .int p1, .int p2, .int p3, .int p4] (plainFor_of_name (by decide)) rfl (Nat.le_of_ble_eq_true rfl) ?_
  intro p e s m below meth c ls Q hQ hx hb hml hr hts hown hlocks hK hA hZ hP hD hS hl
  have hl : lv_has ls 6 [(0, .ref a_bx), (1, .int p1), (2, .int p2), (3, .int p3), (4, .int p4)] := hl
  have hown : s.vm.findClass RX1 = some m.cls := hown
  have hinX1 : ∀ w ∈ wsX10, w ∈ wsX1_isCover := fun _ h => List.mem_cons_of_mem _ (inWX10 _ h)
  have hinX2 : ∀ w ∈ wsX20, w ∈ wsX1_isCover := fun _ h => List.mem_cons_of_mem _ (inWX20 _ h)
  have w_1 := hts (Cond.fieldLink RX1 24 "SheetNames$Box" "grid" "LSheetNames$Grid;") (List.mem_cons_of_mem _ t_w827)
  have wn_40 : (Cond.fieldLinkNest "SheetNames$Box" 92 "SheetNames$Grid" "rowCuts" "[I" "SheetNames").before ([.ref a_bx, .int p1, .int p2, .int p3, .int p4] : List Value).toArray s = true := (hZ.2.2.2.2.2.2.2.2.2.1 _ (List.mem_of_getElem? (i := 40) rfl)).use rfl
  have wn_41 : (Cond.fieldLinkNest "SheetNames$Box" 95 "SheetNames$Grid" "columnCuts" "[I" "SheetNames").before ([.ref a_bx, .int p1, .int p2, .int p3, .int p4] : List Value).toArray s = true := (hZ.2.2.2.2.2.2.2.2.2.1 _ (List.mem_of_getElem? (i := 41) rfl)).use rfl
  unfold f_Box_isCover at hf
  have hgo : ∀ (H : Heap) (locs : List Loc), H = s.heap → va_P D vwCl ((a_bx, .inr (1, [.ref a_g, .int bx_south, .int bx_north, .int bx_west, .int bx_east])) :: (a_g, .inr (2, [.ref a_g_rowCuts, .ref a_g_columnCuts, .ref a_g_bandRows, .ref a_g_zoneColumns, .ref a_g_rows, .ref a_g_sheets])) :: (a_g_rowCuts, .inl (ci 0, 5, .inl g_rowCuts)) :: (a_g_columnCuts, .inl (ci 0, 5, .inl g_columnCuts)) :: (a_g_bandRows, .inl (ci 0, 5, .inl g_bandRows)) :: (a_g_zoneColumns, .inl (ci 0, 5, .inl g_zoneColumns)) :: (a_g_rows, .inl (ci 0, 5, .inl g_rows)) :: Rw) H → va_S A s.heap H locs → W p l e ({ frames := 4, cells := 0, slots := 0, locals := 100 } : Room) s m ([.ref a_bx, .int p1, .int p2, .int p3, .int p4] : List Value).toArray below meth c H locs 0 0 Q (F0 m 0 ls []) := by
    intro H locs hH hP hS
    subst hH
    refine lv_aload_n (pc := 0) hx hb dX1_isCover_0 rfl (lv_at hl 0 rfl) ?_
    refine va_get (pc := 1) (D := D) (ci := 1) (v := .ref a_g) (C := RX1) (T := TX1) (N := 5) hx hb hts hinX1 hown hK hP 0 rfl rfl 0 (by decide) w_1 (fun _ h9 => h9) rfl dX1_isCover_1 ?_
    refine lv_iload_n (pc := 4) hx hb dX1_isCover_4 rfl (lv_at hl 1 rfl) ?_
    refine lv_iload_n (pc := 5) hx hb dX1_isCover_5 rfl (lv_at hl 2 rfl) ?_
    obtain ⟨v1, hm6, hf⟩ := q_b1_e hf
    refine q_cVr (pc := 6) (As := [.int p1, .int p2]) (rest := []) (v0 := (some (.int v1))) ⟨hx, hb, hml, hown, hts⟩ hK hA hZ hP hD hS hl.1 [1, 6] 7 rfl ⟨rfl, rfl, rfl⟩ (c_Grid_isCapRow l D ci A sa N (Rw) a_g a_g_rowCuts a_g_columnCuts a_g_bandRows a_g_zoneColumns a_g_rows a_g_sheets g_rows p1 p2 v1 hm6) 1 rfl rfl (cwV 2 hts gX1_isCover_X2_isCapRow rfl rfl rfl (by decide +kernel) ⟨Nat.le_of_ble_eq_true rfl, Nat.le_of_ble_eq_true rfl⟩) rfl rfl (Nat.le_of_ble_eq_true rfl) dX1_isCover_6 ⟨Nat.zero_le _, Nat.zero_le _⟩ (fun locs hS => ?_)
    refine q_if_eq (pc := 9) (tgt := 22) hx hb dX1_isCover_9 (by decide) rfl hf (fun hf => ?_) (fun hf => ?_)
    · refine lv_aload_n (pc := 22) hx hb dX1_isCover_22 rfl (lv_at hl 0 rfl) ?_
      refine lv_iload_n (pc := 23) hx hb dX1_isCover_23 rfl (lv_at hl 1 rfl) ?_
      refine lv_iload_n (pc := 24) hx hb dX1_isCover_24 rfl (lv_at hl 2 rfl) ?_
      refine lv_iload_n (pc := 25) hx hb dX1_isCover_25 rfl (lv_at hl 3 rfl) ?_
      refine lv_iload (pc := 26) hx hb dX1_isCover_26 (lv_at hl 4 rfl) ?_
      obtain ⟨v2, hm28, hf⟩ := q_b1_e hf
      refine q_cVr (pc := 28) (As := [.int p1, .int p2, .int p3, .int p4]) (rest := []) (v0 := (some (.int v2))) ⟨hx, hb, hml, hown, hts⟩ hK hA hZ hP hD hS hl.1 [0, 1, 4, 5, 6] 7 rfl ⟨rfl, rfl, rfl⟩ (c_Box_isWhole l D ci A sa N (Rw) a_bx a_g a_g_rowCuts a_g_columnCuts a_g_bandRows a_g_zoneColumns a_g_rows a_g_sheets bx_south bx_north bx_west bx_east g_bandRows g_zoneColumns g_rows p1 p2 p3 p4 v2 hm28) 0 rfl rfl (cwV 4 hts gX1_isCover_X1_isWhole rfl rfl rfl (by decide +kernel) ⟨Nat.le_of_ble_eq_true rfl, Nat.le_of_ble_eq_true rfl⟩) rfl rfl (Nat.le_of_ble_eq_true rfl) dX1_isCover_28 ⟨Nat.zero_le _, Nat.zero_le _⟩ (fun locs hS => ?_)
      refine q_if_ne (pc := 31) (tgt := 36) hx hb dX1_isCover_31 (by decide) rfl hf (fun hf => ?_) (fun hf => ?_)
      · refine lv_iload_n (pc := 36) hx hb dX1_isCover_36 rfl (lv_at hl 1 rfl) ?_
        refine q_if_ne (pc := 37) (tgt := 42) hx hb dX1_isCover_37 (by decide) rfl hf (fun hf => ?_) (fun hf => ?_)
        · refine lv_iload_n (pc := 42) hx hb dX1_isCover_42 rfl (lv_at hl 2 rfl) ?_
          refine lv_iconst (pc := 43) (v := 1) hx hb dX1_isCover_43 (by decide) ?_
          refine lv_isub (pc := 44) hx hb dX1_isCover_44 ?_
          refine lv_aload_n (pc := 45) hx hb dX1_isCover_45 rfl (lv_at hl 0 rfl) ?_
          refine va_get (pc := 46) (D := D) (ci := 1) (v := .ref a_g) (C := RX1) (T := TX1) (N := 5) hx hb hts hinX1 hown hK hP 0 rfl rfl 0 (by decide) w_1 (fun _ h9 => h9) rfl dX1_isCover_46 ?_
          refine va_getN (pc := 49) (D := D) (ci := 2) (v := .ref a_g_rowCuts) (C := RX2) (T := TX2) (N := 6) hx hb hts hinX2 hown hK hP 1 rfl rfl 0 (by decide) wn_40 (fun _ h9 => h9) rfl dX1_isCover_49 ?_
          refine lv_iload_n (pc := 52) hx hb dX1_isCover_52 rfl (lv_at hl 1 rfl) ?_
          refine q_iald (pc := 53) hx hb hK hP 2 0 hf rfl rfl dX1_isCover_53 (fun v3 hf => ?_)
          refine q_idiv (pc := 54) hx hb dX1_isCover_54 hf (fun v4 hf => ?_)
          refine lv_iconst (pc := 55) (v := 1) hx hb dX1_isCover_55 (by decide) ?_
          refine lv_iadd (pc := 56) hx hb dX1_isCover_56 ?_
          obtain ⟨v5, ev5, hf⟩ := q_nm_e hf
          refine q_topi ev5 ?_
          refine lv_istore (pc := 57) (lv' := [(5, .int v5), (0, .ref a_bx), (1, .int p1), (2, .int p2), (3, .int p3), (4, .int p4)]) hx hb dX1_isCover_57 hl (by decide) rfl (fun ls hl => ?_)
          refine lv_aload_n (pc := 59) hx hb dX1_isCover_59 rfl (lv_at hl 1 rfl) ?_
          refine lv_iload_n (pc := 60) hx hb dX1_isCover_60 rfl (lv_at hl 2 rfl) ?_
          refine lv_iconst (pc := 61) (v := 1) hx hb dX1_isCover_61 (by decide) ?_
          refine lv_isub (pc := 62) hx hb dX1_isCover_62 ?_
          refine lv_iload (pc := 63) hx hb dX1_isCover_63 (lv_at hl 0 rfl) ?_
          refine lv_iload_n (pc := 65) hx hb dX1_isCover_65 rfl (lv_at hl 4 rfl) ?_
          refine lv_aload_n (pc := 66) hx hb dX1_isCover_66 rfl (lv_at hl 1 rfl) ?_
          refine va_get (pc := 67) (D := D) (ci := 1) (v := .ref a_g) (C := RX1) (T := TX1) (N := 5) hx hb hts hinX1 hown hK hP 0 rfl rfl 0 (by decide) w_1 (fun _ h9 => h9) rfl dX1_isCover_67 ?_
          refine va_getN (pc := 70) (D := D) (ci := 2) (v := .ref a_g_columnCuts) (C := RX2) (T := TX2) (N := 6) hx hb hts hinX2 hown hK hP 1 rfl rfl 1 (by decide) wn_41 (fun _ h9 => h9) rfl dX1_isCover_70 ?_
          refine lv_iload_n (pc := 73) hx hb dX1_isCover_73 rfl (lv_at hl 2 rfl) ?_
          refine q_iald (pc := 74) hx hb hK hP 3 0 hf rfl rfl dX1_isCover_74 (fun v6 hf => ?_)
          refine q_idiv (pc := 75) hx hb dX1_isCover_75 hf (fun v7 hf => ?_)
          refine lv_iload (pc := 76) hx hb dX1_isCover_76 (lv_at hl 5 rfl) ?_
          obtain ⟨v8, hm78, hf⟩ := q_b1_e hf
          refine q_cVr (pc := 78) (As := [.int (p1 - 1), .int v5, .int v7, .int p4]) (rest := []) (v0 := (some (.int v8))) ⟨hx, hb, hml, hown, hts⟩ hK hA hZ hP hD hS hl.1 [0, 1, 4, 5, 6] 7 rfl ⟨rfl, rfl, rfl⟩ (c_Box_isWhole l D ci A sa N (Rw) a_bx a_g a_g_rowCuts a_g_columnCuts a_g_bandRows a_g_zoneColumns a_g_rows a_g_sheets bx_south bx_north bx_west bx_east g_bandRows g_zoneColumns g_rows (p1 - 1) v5 v7 p4 v8 hm78) 0 rfl rfl (cwV 4 hts gX1_isCover_X1_isWhole rfl rfl rfl (by decide +kernel) ⟨Nat.le_of_ble_eq_true rfl, Nat.le_of_ble_eq_true rfl⟩) rfl rfl (Nat.le_of_ble_eq_true rfl) dX1_isCover_78 ⟨Nat.zero_le _, Nat.zero_le _⟩ (fun locs hS => ?_)
          refine q_if_ne (pc := 81) (tgt := 88) hx hb dX1_isCover_81 (by decide) rfl hf (fun hf => ?_) (fun hf => ?_)
          · refine lv_iconst (pc := 88) (v := 0) hx hb dX1_isCover_88 (by decide) ?_
            obtain rfl := Option.some.inj hf
            rw [hQ]
            exact q_zretr (pc := 89) hx hb hr rfl hlocks rfl hS dX1_isCover_89
          · refine lv_iconst (pc := 84) (v := 1) hx hb dX1_isCover_84 (by decide) ?_
            refine lv_goto (pc := 85) (tgt := 89) hx hb dX1_isCover_85 (by decide) ?_
            obtain rfl := Option.some.inj hf
            rw [hQ]
            exact q_zretr (pc := 89) hx hb hr rfl hlocks rfl hS dX1_isCover_89
        · refine lv_iconst (pc := 40) (v := 1) hx hb dX1_isCover_40 (by decide) ?_
          obtain rfl := Option.some.inj hf
          rw [hQ]
          exact q_zretr (pc := 41) hx hb hr rfl hlocks rfl hS dX1_isCover_41
      · refine lv_iconst (pc := 34) (v := 0) hx hb dX1_isCover_34 (by decide) ?_
        obtain rfl := Option.some.inj hf
        rw [hQ]
        exact q_zretr (pc := 35) hx hb hr rfl hlocks rfl hS dX1_isCover_35
    · refine lv_iload_n (pc := 12) hx hb dX1_isCover_12 rfl (lv_at hl 1 rfl) ?_
      refine q_if_ne (pc := 13) (tgt := 20) hx hb dX1_isCover_13 (by decide) rfl hf (fun hf => ?_) (fun hf => ?_)
      · refine lv_iconst (pc := 20) (v := 0) hx hb dX1_isCover_20 (by decide) ?_
        obtain rfl := Option.some.inj hf
        rw [hQ]
        exact q_zretr (pc := 21) hx hb hr rfl hlocks rfl hS dX1_isCover_21
      · refine lv_iconst (pc := 16) (v := 1) hx hb dX1_isCover_16 (by decide) ?_
        refine lv_goto (pc := 17) (tgt := 21) hx hb dX1_isCover_17 (by decide) ?_
        obtain rfl := Option.some.inj hf
        rw [hQ]
        exact q_zretr (pc := 21) hx hb hr rfl hlocks rfl hS dX1_isCover_21
  exact hgo _ _ rfl hP hS
/-! X1_coverAt -/
set_option maxRecDepth 100000 in
set_option maxHeartbeats 4000000 in
theorem c_Box_coverAt (l : Launch) (D : va_G) (ci : Nat → ClassId) (A : Nat → Prop) (sa : Nat → Nat) (N : Nat) (Rw : va_W) (a_bx : Nat) (a_g : Nat) (a_g_rowCuts : Nat) (a_g_columnCuts : Nat) (a_g_bandRows : Nat) (a_g_zoneColumns : Nat) (a_g_rows : Nat) (a_g_sheets : Nat) (bx_south : Int32) (bx_north : Int32) (bx_west : Int32) (bx_east : Int32) (g_rowCuts : Nat → Int32) (g_columnCuts : Nat → Int32) (g_bandRows : Nat → Int32) (g_zoneColumns : Nat → Int32) (g_rows : Nat → Int32) (p1 : Int32) (p2 : Int32) (r : Int32) (hf : f_Box_coverAt N bx_south bx_north bx_west bx_east g_rowCuts g_columnCuts g_bandRows g_zoneColumns g_rows p1 p2 = some r) : Met l yX1_coverAt wsX1_coverAt ({ frames := 5, cells := 0, slots := 0, locals := 125 }) (va_Pc [.ref a_bx, .int p1, .int p2] (q_N D ci A sa ((a_bx, .inr (1, [.ref a_g, .int bx_south, .int bx_north, .int bx_west, .int bx_east])) :: (a_g, .inr (2, [.ref a_g_rowCuts, .ref a_g_columnCuts, .ref a_g_bandRows, .ref a_g_zoneColumns, .ref a_g_rows, .ref a_g_sheets])) :: (a_g_rowCuts, .inl (ci 0, 5, .inl g_rowCuts)) :: (a_g_columnCuts, .inl (ci 0, 5, .inl g_columnCuts)) :: (a_g_bandRows, .inl (ci 0, 5, .inl g_bandRows)) :: (a_g_zoneColumns, .inl (ci 0, 5, .inl g_zoneColumns)) :: (a_g_rows, .inl (ci 0, 5, .inl g_rows)) :: Rw))) (q_R (some (.int r))) 0 0 A := by
  refine q_ofW (cc := cX1_coverAt) (maxL := 8) (ret := (some .int)) [.ref a_bx, .int p1, .int p2] (plainFor_of_name (by decide)) rfl (Nat.le_of_ble_eq_true rfl) ?_
  intro p e s m below meth c ls Q hQ hx hb hml hr hts hown hlocks hK hA hZ hP hD hS hl
  have hl : lv_has ls 8 [(0, .ref a_bx), (1, .int p1), (2, .int p2)] := hl
  have hown : s.vm.findClass RX1 = some m.cls := hown
  unfold f_Box_coverAt at hf
  have hgo : ∀ (H : Heap) (locs : List Loc), H = s.heap → va_P D vwCl ((a_bx, .inr (1, [.ref a_g, .int bx_south, .int bx_north, .int bx_west, .int bx_east])) :: (a_g, .inr (2, [.ref a_g_rowCuts, .ref a_g_columnCuts, .ref a_g_bandRows, .ref a_g_zoneColumns, .ref a_g_rows, .ref a_g_sheets])) :: (a_g_rowCuts, .inl (ci 0, 5, .inl g_rowCuts)) :: (a_g_columnCuts, .inl (ci 0, 5, .inl g_columnCuts)) :: (a_g_bandRows, .inl (ci 0, 5, .inl g_bandRows)) :: (a_g_zoneColumns, .inl (ci 0, 5, .inl g_zoneColumns)) :: (a_g_rows, .inl (ci 0, 5, .inl g_rows)) :: Rw) H → va_S A s.heap H locs → W p l e ({ frames := 5, cells := 0, slots := 0, locals := 125 } : Room) s m ([.ref a_bx, .int p1, .int p2] : List Value).toArray below meth c H locs 0 0 Q (F0 m 0 ls []) := by
    intro H locs hH hP hS
    subst hH
    refine lv_iconst (pc := 0) (v := 0) hx hb dX1_coverAt_0 (by decide) ?_
    obtain ⟨v1, ev1, hf⟩ := q_nm_e hf
    refine q_topi ev1 ?_
    refine lv_istore_n (pc := 1) (lv' := [(3, .int v1), (0, .ref a_bx), (1, .int p1), (2, .int p2)]) hx hb dX1_coverAt_1 rfl hl (by decide) rfl (fun ls hl => ?_)
    refine lv_aload_n (pc := 2) hx hb dX1_coverAt_2 rfl (lv_at hl 1 rfl) ?_
    refine lv_iload_n (pc := 3) hx hb dX1_coverAt_3 rfl (lv_at hl 2 rfl) ?_
    obtain ⟨v2, hm4, hf⟩ := q_b1_e hf
    refine q_cVr (pc := 4) (As := [.int p1]) (rest := []) (v0 := (some (.int v2))) ⟨hx, hb, hml, hown, hts⟩ hK hA hZ hP hD hS hl.1 [0, 1, 4, 6] 7 rfl ⟨rfl, rfl, rfl⟩ (c_Box_bottomRow l D ci A sa N (Rw) a_bx a_g a_g_rowCuts a_g_columnCuts a_g_bandRows a_g_zoneColumns a_g_rows a_g_sheets bx_south bx_north bx_west bx_east g_bandRows g_rows p1 v2 hm4) 0 rfl rfl (cwV 1 hts gX1_coverAt_X1_bottomRow rfl rfl rfl (by decide +kernel) ⟨Nat.le_of_ble_eq_true rfl, Nat.le_of_ble_eq_true rfl⟩) rfl rfl (Nat.le_of_ble_eq_true rfl) dX1_coverAt_4 ⟨Nat.zero_le _, Nat.zero_le _⟩ (fun locs hS => ?_)
    refine lv_istore (pc := 7) (lv' := [(4, .int v2), (3, .int v1), (0, .ref a_bx), (1, .int p1), (2, .int p2)]) hx hb dX1_coverAt_7 hl (by decide) rfl (fun ls hl => ?_)
    refine lv_aload_n (pc := 9) hx hb dX1_coverAt_9 rfl (lv_at hl 2 rfl) ?_
    refine lv_iload_n (pc := 10) hx hb dX1_coverAt_10 rfl (lv_at hl 3 rfl) ?_
    obtain ⟨v3, hm11, hf⟩ := q_b1_e hf
    refine q_cVr (pc := 11) (As := [.int p1]) (rest := []) (v0 := (some (.int v3))) ⟨hx, hb, hml, hown, hts⟩ hK hA hZ hP hD hS hl.1 [0, 1, 4, 6] 7 rfl ⟨rfl, rfl, rfl⟩ (c_Box_topRow l D ci A sa N (Rw) a_bx a_g a_g_rowCuts a_g_columnCuts a_g_bandRows a_g_zoneColumns a_g_rows a_g_sheets bx_south bx_north bx_west bx_east g_bandRows g_rows p1 v3 hm11) 0 rfl rfl (cwV 1 hts gX1_coverAt_X1_topRow rfl rfl rfl (by decide +kernel) ⟨Nat.le_of_ble_eq_true rfl, Nat.le_of_ble_eq_true rfl⟩) rfl rfl (Nat.le_of_ble_eq_true rfl) dX1_coverAt_11 ⟨Nat.zero_le _, Nat.zero_le _⟩ (fun locs hS => ?_)
    refine lv_istore (pc := 14) (lv' := [(5, .int v3), (4, .int v2), (3, .int v1), (0, .ref a_bx), (1, .int p1), (2, .int p2)]) hx hb dX1_coverAt_14 hl (by decide) rfl (fun ls hl => ?_)
    obtain ⟨v6, hm16, hf⟩ := q_b1_e hf
    have JE16 : ∀ (H : Heap) (locs : List Loc) (ls : Array Slot), H = s.heap → va_S A s.heap H locs → lv_has ls 8 [(3, .int v6)] → W p l e ({ frames := 5, cells := 0, slots := 0, locals := 125 } : Room) s m ([.ref a_bx, .int p1, .int p2] : List Value).toArray below meth c H locs 0 0 Q (F0 m 77 ls []) := by
      intro H locs ls hHs hS hl
      subst hHs
      refine lv_iload_n (pc := 77) hx hb dX1_coverAt_77 rfl (lv_at hl 0 rfl) ?_
      obtain rfl := Option.some.inj hf
      rw [hQ]
      exact q_iretr (pc := 78) hx hb hr hlocks rfl hS dX1_coverAt_78
    have LP16 : ∀ (n16 : Nat) (v4 : Int32) (v5 : Int32) (H : Heap) (locs : List Loc) (ls : Array Slot), f_Box_coverAt_L16 N bx_east bx_north bx_south bx_west g_bandRows g_columnCuts g_rowCuts g_rows g_zoneColumns p1 p2 v2 n16 v4 v5 = some v6 → H = s.heap → va_S A s.heap H locs → lv_has ls 8 [(0, .ref a_bx), (1, .int p1), (2, .int p2), (3, .int v4), (4, .int v2), (5, .int v5)] → W p l e ({ frames := 5, cells := 0, slots := 0, locals := 125 } : Room) s m ([.ref a_bx, .int p1, .int p2] : List Value).toArray below meth c H locs 0 0 Q (F0 m 16 ls []) := by
      intro n16
      induction n16 with
      | zero => intro v4 v5 H locs ls hf; rw [f_Box_coverAt_L16] at hf; cases hf
      | succ n16 ih16 =>
        intro v4 v5 H locs ls hf hHs hS hl
        subst hHs
        rw [f_Box_coverAt_L16] at hf
        refine lv_iload (pc := 16) hx hb dX1_coverAt_16 (lv_at hl 5 rfl) ?_
        refine lv_iload (pc := 18) hx hb dX1_coverAt_18 (lv_at hl 4 rfl) ?_
        refine q_icmp_gt (pc := 20) (tgt := 77) hx hb dX1_coverAt_20 (by decide) rfl hf (fun hf => ?_) (fun hf => ?_)
        · obtain rfl := Option.some.inj hf
          exact JE16 _ _ _ rfl hS (lv_sub hl [3] rfl)
        · refine lv_aload_n (pc := 23) hx hb dX1_coverAt_23 rfl (lv_at hl 0 rfl) ?_
          refine lv_iload_n (pc := 24) hx hb dX1_coverAt_24 rfl (lv_at hl 1 rfl) ?_
          refine lv_iload (pc := 25) hx hb dX1_coverAt_25 (lv_at hl 5 rfl) ?_
          obtain ⟨v7, hm27, hf⟩ := q_b1_e hf
          refine q_cVr (pc := 27) (As := [.int p1, .int v5]) (rest := []) (v0 := (some (.int v7))) ⟨hx, hb, hml, hown, hts⟩ hK hA hZ hP hD hS hl.1 [0, 1, 4, 5, 6] 7 rfl ⟨rfl, rfl, rfl⟩ (c_Box_inRow l D ci A sa N (Rw) a_bx a_g a_g_rowCuts a_g_columnCuts a_g_bandRows a_g_zoneColumns a_g_rows a_g_sheets bx_south bx_north bx_west bx_east g_bandRows g_zoneColumns g_rows p1 v5 v7 hm27) 0 rfl rfl (cwV 2 hts gX1_coverAt_X1_inRow rfl rfl rfl (by decide +kernel) ⟨Nat.le_of_ble_eq_true rfl, Nat.le_of_ble_eq_true rfl⟩) rfl rfl (Nat.le_of_ble_eq_true rfl) dX1_coverAt_27 ⟨Nat.zero_le _, Nat.zero_le _⟩ (fun locs hS => ?_)
          refine lv_istore (pc := 30) (lv' := [(6, .int v7), (0, .ref a_bx), (1, .int p1), (2, .int p2), (3, .int v4), (4, .int v2), (5, .int v5)]) hx hb dX1_coverAt_30 hl (by decide) rfl (fun ls hl => ?_)
          refine lv_iconst (pc := 32) (v := 0) hx hb dX1_coverAt_32 (by decide) ?_
          obtain ⟨v8, ev8, hf⟩ := q_nm_e hf
          refine q_topi ev8 ?_
          refine lv_istore (pc := 33) (lv' := [(7, .int v8), (6, .int v7), (0, .ref a_bx), (1, .int p1), (2, .int p2), (3, .int v4), (4, .int v2), (5, .int v5)]) hx hb dX1_coverAt_33 hl (by decide) rfl (fun ls hl => ?_)
          obtain ⟨v11, hm35, hf⟩ := q_b1_e hf
          have JE35 : ∀ (H : Heap) (locs : List Loc) (ls : Array Slot), H = s.heap → va_S A s.heap H locs → lv_has ls 8 [(0, .ref a_bx), (1, .int p1), (2, .int p2), (3, .int v11), (4, .int v2), (5, .int v5)] → W p l e ({ frames := 5, cells := 0, slots := 0, locals := 125 } : Room) s m ([.ref a_bx, .int p1, .int p2] : List Value).toArray below meth c H locs 0 0 Q (F0 m 71 ls []) := by
            intro H locs ls hHs hS hl
            subst hHs
            obtain ⟨v12, ev12, hf⟩ := q_nm_e hf
            refine lv_iinc (pc := 71) (v := v12) (lv' := [(5, .int v12), (0, .ref a_bx), (1, .int p1), (2, .int p2), (3, .int v11), (4, .int v2)]) hx hb dX1_coverAt_71 hl (k := 5) rfl (by rw [ev12]; rfl) (by decide) rfl (fun ls hl => ?_)
            refine lv_goto (pc := 74) (tgt := 16) hx hb dX1_coverAt_74 (by decide) ?_
            exact ih16 v11 v12 _ _ _ hf rfl hS (lv_sub hl [1, 2, 3, 4, 5, 0] rfl)
          have LP35 : ∀ (n35 : Nat) (v9 : Int32) (v10 : Int32) (H : Heap) (locs : List Loc) (ls : Array Slot), f_Box_coverAt_L35 bx_east bx_north bx_south bx_west g_bandRows g_columnCuts g_rowCuts g_rows g_zoneColumns p1 p2 v5 v7 n35 v9 v10 = some v11 → H = s.heap → va_S A s.heap H locs → lv_has ls 8 [(0, .ref a_bx), (1, .int p1), (2, .int p2), (3, .int v9), (4, .int v2), (5, .int v5), (6, .int v7), (7, .int v10)] → W p l e ({ frames := 5, cells := 0, slots := 0, locals := 125 } : Room) s m ([.ref a_bx, .int p1, .int p2] : List Value).toArray below meth c H locs 0 0 Q (F0 m 35 ls []) := by
            intro n35
            induction n35 with
            | zero => intro v9 v10 H locs ls hf; rw [f_Box_coverAt_L35] at hf; cases hf
            | succ n35 ih35 =>
              intro v9 v10 H locs ls hf hHs hS hl
              subst hHs
              rw [f_Box_coverAt_L35] at hf
              refine lv_iload (pc := 35) hx hb dX1_coverAt_35 (lv_at hl 7 rfl) ?_
              refine lv_iload (pc := 37) hx hb dX1_coverAt_37 (lv_at hl 6 rfl) ?_
              refine q_icmp_ge (pc := 39) (tgt := 71) hx hb dX1_coverAt_39 (by decide) rfl hf (fun hf => ?_) (fun hf => ?_)
              · obtain rfl := Option.some.inj hf
                exact JE35 _ _ _ rfl hS (lv_sub hl [0, 1, 2, 3, 4, 5] rfl)
              · refine lv_aload_n (pc := 42) hx hb dX1_coverAt_42 rfl (lv_at hl 0 rfl) ?_
                refine lv_iload_n (pc := 43) hx hb dX1_coverAt_43 rfl (lv_at hl 1 rfl) ?_
                refine lv_iload (pc := 44) hx hb dX1_coverAt_44 (lv_at hl 5 rfl) ?_
                refine lv_aload_n (pc := 46) hx hb dX1_coverAt_46 rfl (lv_at hl 0 rfl) ?_
                refine lv_iload_n (pc := 47) hx hb dX1_coverAt_47 rfl (lv_at hl 1 rfl) ?_
                refine lv_iload (pc := 48) hx hb dX1_coverAt_48 (lv_at hl 5 rfl) ?_
                refine lv_iload (pc := 50) hx hb dX1_coverAt_50 (lv_at hl 7 rfl) ?_
                obtain ⟨v13, hm52, hf⟩ := q_b1_e hf
                refine q_cVr (pc := 52) (As := [.int p1, .int v5, .int v10]) (rest := [.int v5, .int p1, .ref a_bx]) (v0 := (some (.int v13))) ⟨hx, hb, hml, hown, hts⟩ hK hA hZ hP hD hS hl.1 [0, 1, 4, 5, 6] 7 rfl ⟨rfl, rfl, rfl⟩ (c_Box_placeByKeys l D ci A sa N (Rw) a_bx a_g a_g_rowCuts a_g_columnCuts a_g_bandRows a_g_zoneColumns a_g_rows a_g_sheets bx_south bx_north bx_west bx_east g_bandRows g_zoneColumns g_rows p1 v5 v10 v13 hm52) 0 rfl rfl (cwV 3 hts gX1_coverAt_X1_placeByKeys rfl rfl rfl (by decide +kernel) ⟨Nat.le_of_ble_eq_true rfl, Nat.le_of_ble_eq_true rfl⟩) rfl rfl (Nat.le_of_ble_eq_true rfl) dX1_coverAt_52 ⟨Nat.zero_le _, Nat.zero_le _⟩ (fun locs hS => ?_)
                refine lv_iload_n (pc := 55) hx hb dX1_coverAt_55 rfl (lv_at hl 2 rfl) ?_
                obtain ⟨v14, hm56, hf⟩ := q_b1_e hf
                refine q_cVr (pc := 56) (As := [.int p1, .int v5, .int v13, .int p2]) (rest := []) (v0 := (some (.int v14))) ⟨hx, hb, hml, hown, hts⟩ hK hA hZ hP hD hS hl.1 [0, 1, 2, 3, 4, 5, 6] 7 rfl ⟨rfl, rfl, rfl⟩ (c_Box_isCover l D ci A sa N (Rw) a_bx a_g a_g_rowCuts a_g_columnCuts a_g_bandRows a_g_zoneColumns a_g_rows a_g_sheets bx_south bx_north bx_west bx_east g_rowCuts g_columnCuts g_bandRows g_zoneColumns g_rows p1 v5 v13 p2 v14 hm56) 0 rfl rfl (cwV 4 hts gX1_coverAt_X1_isCover rfl rfl rfl (by decide +kernel) ⟨Nat.le_of_ble_eq_true rfl, Nat.le_of_ble_eq_true rfl⟩) rfl rfl (Nat.le_of_ble_eq_true rfl) dX1_coverAt_56 ⟨Nat.zero_le _, Nat.zero_le _⟩ (fun locs hS => ?_)
                obtain ⟨k65, ek65, hf⟩ := q_j1_e hf
                have J65 : ∀ (v15 : Int32) (H : Heap) (locs : List Loc) (ls : Array Slot), k65 v15 = some v11 → H = s.heap → va_S A s.heap H locs → lv_has ls 8 [(0, .ref a_bx), (1, .int p1), (2, .int p2), (3, .int v15), (4, .int v2), (5, .int v5), (6, .int v7), (7, .int v10)] → W p l e ({ frames := 5, cells := 0, slots := 0, locals := 125 } : Room) s m ([.ref a_bx, .int p1, .int p2] : List Value).toArray below meth c H locs 0 0 Q (F0 m 65 ls []) := by
                  intro v15 H locs ls hf hHs hS hl
                  subst hHs
                  have hf := (ek65 v15).symm.trans hf
                  obtain ⟨v16, ev16, hf⟩ := q_nm_e hf
                  refine lv_iinc (pc := 65) (v := v16) (lv' := [(7, .int v16), (0, .ref a_bx), (1, .int p1), (2, .int p2), (3, .int v15), (4, .int v2), (5, .int v5), (6, .int v7)]) hx hb dX1_coverAt_65 hl (k := 7) rfl (by rw [ev16]; rfl) (by decide) rfl (fun ls hl => ?_)
                  refine lv_goto (pc := 68) (tgt := 35) hx hb dX1_coverAt_68 (by decide) ?_
                  exact ih35 v15 v16 _ _ _ hf rfl hS (lv_sub hl [1, 2, 3, 4, 5, 6, 7, 0] rfl)
                refine q_if_eq (pc := 59) (tgt := 65) hx hb dX1_coverAt_59 (by decide) rfl hf (fun hf => ?_) (fun hf => ?_)
                · exact J65 v9 _ _ _ hf rfl hS (lv_sub hl [0, 1, 2, 3, 4, 5, 6, 7] rfl)
                · obtain ⟨v17, ev17, hf⟩ := q_nm_e hf
                  refine lv_iinc (pc := 62) (v := v17) (lv' := [(3, .int v17), (0, .ref a_bx), (1, .int p1), (2, .int p2), (4, .int v2), (5, .int v5), (6, .int v7), (7, .int v10)]) hx hb dX1_coverAt_62 hl (k := 3) rfl (by rw [ev17]; rfl) (by decide) rfl (fun ls hl => ?_)
                  exact J65 v17 _ _ _ hf rfl hS (lv_sub hl [1, 2, 3, 0, 4, 5, 6, 7] rfl)
          exact LP35 N v4 v8 _ _ _ hm35 rfl hS (lv_sub hl [2, 3, 4, 5, 6, 7, 1, 0] rfl)
    exact LP16 N v1 v3 _ _ _ hm16 rfl hS (lv_sub hl [3, 4, 5, 2, 1, 0] rfl)
  exact hgo _ _ rfl hP hS
/-! X1_coverSheet -/
set_option maxRecDepth 100000 in
set_option maxHeartbeats 4000000 in
theorem c_Box_coverSheet (l : Launch) (D : va_G) (ci : Nat → ClassId) (A : Nat → Prop) (sa : Nat → Nat) (N : Nat) (Rw : va_W) (a_bx : Nat) (a_g : Nat) (a_g_rowCuts : Nat) (a_g_columnCuts : Nat) (a_g_bandRows : Nat) (a_g_zoneColumns : Nat) (a_g_rows : Nat) (a_g_sheets : Nat) (bx_south : Int32) (bx_north : Int32) (bx_west : Int32) (bx_east : Int32) (g_rowCuts : Nat → Int32) (g_columnCuts : Nat → Int32) (g_bandRows : Nat → Int32) (g_zoneColumns : Nat → Int32) (g_rows : Nat → Int32) (g_sheets : Nat → Int32) (p1 : Int32) (p2 : Int32) (p3 : Int32) (r : Int32) (hf : f_Box_coverSheet N bx_south bx_north bx_west bx_east g_rowCuts g_columnCuts g_bandRows g_zoneColumns g_rows g_sheets p1 p2 p3 = some r) : Met l yX1_coverSheet wsX1_coverSheet ({ frames := 5, cells := 0, slots := 0, locals := 125 }) (va_Pc [.ref a_bx, .int p1, .int p2, .int p3] (q_N D ci A sa ((a_bx, .inr (1, [.ref a_g, .int bx_south, .int bx_north, .int bx_west, .int bx_east])) :: (a_g, .inr (2, [.ref a_g_rowCuts, .ref a_g_columnCuts, .ref a_g_bandRows, .ref a_g_zoneColumns, .ref a_g_rows, .ref a_g_sheets])) :: (a_g_rowCuts, .inl (ci 0, 5, .inl g_rowCuts)) :: (a_g_columnCuts, .inl (ci 0, 5, .inl g_columnCuts)) :: (a_g_bandRows, .inl (ci 0, 5, .inl g_bandRows)) :: (a_g_zoneColumns, .inl (ci 0, 5, .inl g_zoneColumns)) :: (a_g_rows, .inl (ci 0, 5, .inl g_rows)) :: (a_g_sheets, .inl (ci 0, 5, .inl g_sheets)) :: Rw))) (q_R (some (.int r))) 0 0 A := by
  refine q_ofW (cc := cX1_coverSheet) (maxL := 10) (ret := (some .int)) [.ref a_bx, .int p1, .int p2, .int p3] (plainFor_of_name (by decide)) rfl (Nat.le_of_ble_eq_true rfl) ?_
  intro p e s m below meth c ls Q hQ hx hb hml hr hts hown hlocks hK hA hZ hP hD hS hl
  have hl : lv_has ls 10 [(0, .ref a_bx), (1, .int p1), (2, .int p2), (3, .int p3)] := hl
  have hown : s.vm.findClass RX1 = some m.cls := hown
  have hinX1 : ∀ w ∈ wsX10, w ∈ wsX1_coverSheet := fun _ h => List.mem_cons_of_mem _ (inWX10 _ h)
  have w_1 := hts (Cond.fieldLink RX1 24 "SheetNames$Box" "grid" "LSheetNames$Grid;") (List.mem_cons_of_mem _ t_w827)
  unfold f_Box_coverSheet at hf
  have hgo : ∀ (H : Heap) (locs : List Loc), H = s.heap → va_P D vwCl ((a_bx, .inr (1, [.ref a_g, .int bx_south, .int bx_north, .int bx_west, .int bx_east])) :: (a_g, .inr (2, [.ref a_g_rowCuts, .ref a_g_columnCuts, .ref a_g_bandRows, .ref a_g_zoneColumns, .ref a_g_rows, .ref a_g_sheets])) :: (a_g_rowCuts, .inl (ci 0, 5, .inl g_rowCuts)) :: (a_g_columnCuts, .inl (ci 0, 5, .inl g_columnCuts)) :: (a_g_bandRows, .inl (ci 0, 5, .inl g_bandRows)) :: (a_g_zoneColumns, .inl (ci 0, 5, .inl g_zoneColumns)) :: (a_g_rows, .inl (ci 0, 5, .inl g_rows)) :: (a_g_sheets, .inl (ci 0, 5, .inl g_sheets)) :: Rw) H → va_S A s.heap H locs → W p l e ({ frames := 5, cells := 0, slots := 0, locals := 125 } : Room) s m ([.ref a_bx, .int p1, .int p2, .int p3] : List Value).toArray below meth c H locs 0 0 Q (F0 m 0 ls []) := by
    intro H locs hH hP hS
    subst hH
    refine lv_iconst (pc := 0) (v := 0) hx hb dX1_coverSheet_0 (by decide) ?_
    obtain ⟨v1, ev1, hf⟩ := q_nm_e hf
    refine q_topi ev1 ?_
    refine lv_istore (pc := 1) (lv' := [(4, .int v1), (0, .ref a_bx), (1, .int p1), (2, .int p2), (3, .int p3)]) hx hb dX1_coverSheet_1 hl (by decide) rfl (fun ls hl => ?_)
    refine lv_aload_n (pc := 3) hx hb dX1_coverSheet_3 rfl (lv_at hl 1 rfl) ?_
    refine lv_iload_n (pc := 4) hx hb dX1_coverSheet_4 rfl (lv_at hl 2 rfl) ?_
    obtain ⟨v2, hm5, hf⟩ := q_b1_e hf
    refine q_cVr (pc := 5) (As := [.int p1]) (rest := []) (v0 := (some (.int v2))) ⟨hx, hb, hml, hown, hts⟩ hK hA hZ hP hD hS hl.1 [0, 1, 4, 6] 8 rfl ⟨rfl, rfl, rfl⟩ (c_Box_bottomRow l D ci A sa N (Rw) a_bx a_g a_g_rowCuts a_g_columnCuts a_g_bandRows a_g_zoneColumns a_g_rows a_g_sheets bx_south bx_north bx_west bx_east g_bandRows g_rows p1 v2 hm5) 0 rfl rfl (cwV 1 hts gX1_coverSheet_X1_bottomRow rfl rfl rfl (by decide +kernel) ⟨Nat.le_of_ble_eq_true rfl, Nat.le_of_ble_eq_true rfl⟩) rfl rfl (Nat.le_of_ble_eq_true rfl) dX1_coverSheet_5 ⟨Nat.zero_le _, Nat.zero_le _⟩ (fun locs hS => ?_)
    refine lv_istore (pc := 8) (lv' := [(5, .int v2), (4, .int v1), (0, .ref a_bx), (1, .int p1), (2, .int p2), (3, .int p3)]) hx hb dX1_coverSheet_8 hl (by decide) rfl (fun ls hl => ?_)
    refine lv_aload_n (pc := 10) hx hb dX1_coverSheet_10 rfl (lv_at hl 2 rfl) ?_
    refine lv_iload_n (pc := 11) hx hb dX1_coverSheet_11 rfl (lv_at hl 3 rfl) ?_
    obtain ⟨v3, hm12, hf⟩ := q_b1_e hf
    refine q_cVr (pc := 12) (As := [.int p1]) (rest := []) (v0 := (some (.int v3))) ⟨hx, hb, hml, hown, hts⟩ hK hA hZ hP hD hS hl.1 [0, 1, 4, 6] 8 rfl ⟨rfl, rfl, rfl⟩ (c_Box_topRow l D ci A sa N (Rw) a_bx a_g a_g_rowCuts a_g_columnCuts a_g_bandRows a_g_zoneColumns a_g_rows a_g_sheets bx_south bx_north bx_west bx_east g_bandRows g_rows p1 v3 hm12) 0 rfl rfl (cwV 1 hts gX1_coverSheet_X1_topRow rfl rfl rfl (by decide +kernel) ⟨Nat.le_of_ble_eq_true rfl, Nat.le_of_ble_eq_true rfl⟩) rfl rfl (Nat.le_of_ble_eq_true rfl) dX1_coverSheet_12 ⟨Nat.zero_le _, Nat.zero_le _⟩ (fun locs hS => ?_)
    refine lv_istore (pc := 15) (lv' := [(6, .int v3), (5, .int v2), (4, .int v1), (0, .ref a_bx), (1, .int p1), (2, .int p2), (3, .int p3)]) hx hb dX1_coverSheet_15 hl (by decide) rfl (fun ls hl => ?_)
    obtain ⟨k17, o17_, ek17, hm17, hk17⟩ := q_s0_k hf
    have JE17 : ∀  (H : Heap) (locs : List Loc) (ls : Array Slot), k17 = some r → H = s.heap → va_S A s.heap H locs → lv_has ls 10 [] → W p l e ({ frames := 5, cells := 0, slots := 0, locals := 125 } : Room) s m ([.ref a_bx, .int p1, .int p2, .int p3] : List Value).toArray below meth c H locs 0 0 Q (F0 m 105 ls []) := by
      intro  H locs ls hf hHs hS hl
      subst hHs
      have hf := (ek17).symm.trans hf
      refine lv_iconst (pc := 105) (v := (-1)) hx hb dX1_coverSheet_105 (by decide) ?_
      obtain rfl := Option.some.inj hf
      rw [hQ]
      exact q_iretr (pc := 106) hx hb hr hlocks rfl hS dX1_coverSheet_106
    have LP17 : ∀ (n17 : Nat) (v4 : Int32) (v5 : Int32) (H : Heap) (locs : List Loc) (ls : Array Slot), f_Box_coverSheet_L17 N bx_east bx_north bx_south bx_west g_bandRows g_columnCuts g_rowCuts g_rows g_sheets g_zoneColumns p1 p2 p3 v2 n17 v4 v5 = some o17_ → H = s.heap → va_S A s.heap H locs → lv_has ls 10 [(0, .ref a_bx), (1, .int p1), (2, .int p2), (3, .int p3), (4, .int v4), (5, .int v2), (6, .int v5)] → W p l e ({ frames := 5, cells := 0, slots := 0, locals := 125 } : Room) s m ([.ref a_bx, .int p1, .int p2, .int p3] : List Value).toArray below meth c H locs 0 0 Q (F0 m 17 ls []) := by
      intro n17
      induction n17 with
      | zero => intro v4 v5 H locs ls hf; rw [f_Box_coverSheet_L17] at hf; cases hf
      | succ n17 ih17 =>
        intro v4 v5 H locs ls hf hHs hS hl
        subst hHs
        rw [f_Box_coverSheet_L17] at hf
        refine lv_iload (pc := 17) hx hb dX1_coverSheet_17 (lv_at hl 6 rfl) ?_
        refine lv_iload (pc := 19) hx hb dX1_coverSheet_19 (lv_at hl 5 rfl) ?_
        refine q_icmp_gt (pc := 21) (tgt := 105) hx hb dX1_coverSheet_21 (by decide) rfl hf (fun hf => ?_) (fun hf => ?_)
        · obtain rfl := Option.some.inj hf
          exact JE17  _ _ _ hk17 rfl hS (lv_sub hl [] rfl)
        · refine lv_aload_n (pc := 24) hx hb dX1_coverSheet_24 rfl (lv_at hl 0 rfl) ?_
          refine lv_iload_n (pc := 25) hx hb dX1_coverSheet_25 rfl (lv_at hl 1 rfl) ?_
          refine lv_iload (pc := 26) hx hb dX1_coverSheet_26 (lv_at hl 6 rfl) ?_
          obtain ⟨v6, hm28, hf⟩ := q_b1_e hf
          refine q_cVr (pc := 28) (As := [.int p1, .int v5]) (rest := []) (v0 := (some (.int v6))) ⟨hx, hb, hml, hown, hts⟩ hK hA hZ hP hD hS hl.1 [0, 1, 4, 5, 6] 8 rfl ⟨rfl, rfl, rfl⟩ (c_Box_inRow l D ci A sa N (Rw) a_bx a_g a_g_rowCuts a_g_columnCuts a_g_bandRows a_g_zoneColumns a_g_rows a_g_sheets bx_south bx_north bx_west bx_east g_bandRows g_zoneColumns g_rows p1 v5 v6 hm28) 0 rfl rfl (cwV 2 hts gX1_coverSheet_X1_inRow rfl rfl rfl (by decide +kernel) ⟨Nat.le_of_ble_eq_true rfl, Nat.le_of_ble_eq_true rfl⟩) rfl rfl (Nat.le_of_ble_eq_true rfl) dX1_coverSheet_28 ⟨Nat.zero_le _, Nat.zero_le _⟩ (fun locs hS => ?_)
          refine lv_istore (pc := 31) (lv' := [(7, .int v6), (0, .ref a_bx), (1, .int p1), (2, .int p2), (3, .int p3), (4, .int v4), (5, .int v2), (6, .int v5)]) hx hb dX1_coverSheet_31 hl (by decide) rfl (fun ls hl => ?_)
          refine lv_iconst (pc := 33) (v := 0) hx hb dX1_coverSheet_33 (by decide) ?_
          obtain ⟨v7, ev7, hf⟩ := q_nm_e hf
          refine q_topi ev7 ?_
          refine lv_istore (pc := 34) (lv' := [(8, .int v7), (7, .int v6), (0, .ref a_bx), (1, .int p1), (2, .int p2), (3, .int p3), (4, .int v4), (5, .int v2), (6, .int v5)]) hx hb dX1_coverSheet_34 hl (by decide) rfl (fun ls hl => ?_)
          obtain ⟨k36, o36_, ek36, hm36, hk36⟩ := q_s1_k hf
          have JE36 : ∀ (v10 : Int32) (H : Heap) (locs : List Loc) (ls : Array Slot), k36 v10 = some o17_ → H = s.heap → va_S A s.heap H locs → lv_has ls 10 [(0, .ref a_bx), (1, .int p1), (2, .int p2), (3, .int p3), (4, .int v10), (5, .int v2), (6, .int v5)] → W p l e ({ frames := 5, cells := 0, slots := 0, locals := 125 } : Room) s m ([.ref a_bx, .int p1, .int p2, .int p3] : List Value).toArray below meth c H locs 0 0 Q (F0 m 99 ls []) := by
            intro v10 H locs ls hf hHs hS hl
            subst hHs
            have hf := (ek36 v10).symm.trans hf
            obtain ⟨v11, ev11, hf⟩ := q_nm_e hf
            refine lv_iinc (pc := 99) (v := v11) (lv' := [(6, .int v11), (0, .ref a_bx), (1, .int p1), (2, .int p2), (3, .int p3), (4, .int v10), (5, .int v2)]) hx hb dX1_coverSheet_99 hl (k := 6) rfl (by rw [ev11]; rfl) (by decide) rfl (fun ls hl => ?_)
            refine lv_goto (pc := 102) (tgt := 17) hx hb dX1_coverSheet_102 (by decide) ?_
            exact ih17 v10 v11 _ _ _ hf rfl hS (lv_sub hl [1, 2, 3, 4, 5, 6, 0] rfl)
          have LP36 : ∀ (n36 : Nat) (v8 : Int32) (v9 : Int32) (H : Heap) (locs : List Loc) (ls : Array Slot), f_Box_coverSheet_L36 bx_east bx_north bx_south bx_west g_bandRows g_columnCuts g_rowCuts g_rows g_sheets g_zoneColumns p1 p2 p3 v5 v6 n36 v8 v9 = some o36_ → H = s.heap → va_S A s.heap H locs → lv_has ls 10 [(0, .ref a_bx), (1, .int p1), (2, .int p2), (3, .int p3), (4, .int v8), (5, .int v2), (6, .int v5), (7, .int v6), (8, .int v9)] → W p l e ({ frames := 5, cells := 0, slots := 0, locals := 125 } : Room) s m ([.ref a_bx, .int p1, .int p2, .int p3] : List Value).toArray below meth c H locs 0 0 Q (F0 m 36 ls []) := by
            intro n36
            induction n36 with
            | zero => intro v8 v9 H locs ls hf; rw [f_Box_coverSheet_L36] at hf; cases hf
            | succ n36 ih36 =>
              intro v8 v9 H locs ls hf hHs hS hl
              subst hHs
              rw [f_Box_coverSheet_L36] at hf
              refine lv_iload (pc := 36) hx hb dX1_coverSheet_36 (lv_at hl 8 rfl) ?_
              refine lv_iload (pc := 38) hx hb dX1_coverSheet_38 (lv_at hl 7 rfl) ?_
              refine q_icmp_ge (pc := 40) (tgt := 99) hx hb dX1_coverSheet_40 (by decide) rfl hf (fun hf => ?_) (fun hf => ?_)
              · obtain rfl := Option.some.inj hf
                exact JE36 v8 _ _ _ hk36 rfl hS (lv_sub hl [0, 1, 2, 3, 4, 5, 6] rfl)
              · refine lv_aload_n (pc := 43) hx hb dX1_coverSheet_43 rfl (lv_at hl 0 rfl) ?_
                refine lv_iload_n (pc := 44) hx hb dX1_coverSheet_44 rfl (lv_at hl 1 rfl) ?_
                refine lv_iload (pc := 45) hx hb dX1_coverSheet_45 (lv_at hl 6 rfl) ?_
                refine lv_iload (pc := 47) hx hb dX1_coverSheet_47 (lv_at hl 8 rfl) ?_
                obtain ⟨v12, hm49, hf⟩ := q_b1_e hf
                refine q_cVr (pc := 49) (As := [.int p1, .int v5, .int v9]) (rest := []) (v0 := (some (.int v12))) ⟨hx, hb, hml, hown, hts⟩ hK hA hZ hP hD hS hl.1 [0, 1, 4, 5, 6] 8 rfl ⟨rfl, rfl, rfl⟩ (c_Box_placeByKeys l D ci A sa N (Rw) a_bx a_g a_g_rowCuts a_g_columnCuts a_g_bandRows a_g_zoneColumns a_g_rows a_g_sheets bx_south bx_north bx_west bx_east g_bandRows g_zoneColumns g_rows p1 v5 v9 v12 hm49) 0 rfl rfl (cwV 3 hts gX1_coverSheet_X1_placeByKeys rfl rfl rfl (by decide +kernel) ⟨Nat.le_of_ble_eq_true rfl, Nat.le_of_ble_eq_true rfl⟩) rfl rfl (Nat.le_of_ble_eq_true rfl) dX1_coverSheet_49 ⟨Nat.zero_le _, Nat.zero_le _⟩ (fun locs hS => ?_)
                refine lv_istore (pc := 52) (lv' := [(9, .int v12), (0, .ref a_bx), (1, .int p1), (2, .int p2), (3, .int p3), (4, .int v8), (5, .int v2), (6, .int v5), (7, .int v6), (8, .int v9)]) hx hb dX1_coverSheet_52 hl (by decide) rfl (fun ls hl => ?_)
                refine lv_aload_n (pc := 54) hx hb dX1_coverSheet_54 rfl (lv_at hl 1 rfl) ?_
                refine lv_iload_n (pc := 55) hx hb dX1_coverSheet_55 rfl (lv_at hl 2 rfl) ?_
                refine lv_iload (pc := 56) hx hb dX1_coverSheet_56 (lv_at hl 7 rfl) ?_
                refine lv_iload (pc := 58) hx hb dX1_coverSheet_58 (lv_at hl 0 rfl) ?_
                refine lv_iload_n (pc := 60) hx hb dX1_coverSheet_60 rfl (lv_at hl 3 rfl) ?_
                obtain ⟨v13, hm61, hf⟩ := q_b1_e hf
                refine q_cVr (pc := 61) (As := [.int p1, .int v5, .int v12, .int p2]) (rest := []) (v0 := (some (.int v13))) ⟨hx, hb, hml, hown, hts⟩ hK hA hZ hP hD hS hl.1 [0, 1, 2, 3, 4, 5, 6] 8 rfl ⟨rfl, rfl, rfl⟩ (c_Box_isCover l D ci A sa N (Rw) a_bx a_g a_g_rowCuts a_g_columnCuts a_g_bandRows a_g_zoneColumns a_g_rows a_g_sheets bx_south bx_north bx_west bx_east g_rowCuts g_columnCuts g_bandRows g_zoneColumns g_rows p1 v5 v12 p2 v13 hm61) 0 rfl rfl (cwV 4 hts gX1_coverSheet_X1_isCover rfl rfl rfl (by decide +kernel) ⟨Nat.le_of_ble_eq_true rfl, Nat.le_of_ble_eq_true rfl⟩) rfl rfl (Nat.le_of_ble_eq_true rfl) dX1_coverSheet_61 ⟨Nat.zero_le _, Nat.zero_le _⟩ (fun locs hS => ?_)
                obtain ⟨k93, ek93, hf⟩ := q_j1_e hf
                have J93 : ∀ (v14 : Int32) (H : Heap) (locs : List Loc) (ls : Array Slot), k93 v14 = some o36_ → H = s.heap → va_S A s.heap H locs → lv_has ls 10 [(0, .ref a_bx), (1, .int p1), (2, .int p2), (3, .int p3), (4, .int v14), (5, .int v2), (6, .int v5), (7, .int v6), (8, .int v9)] → W p l e ({ frames := 5, cells := 0, slots := 0, locals := 125 } : Room) s m ([.ref a_bx, .int p1, .int p2, .int p3] : List Value).toArray below meth c H locs 0 0 Q (F0 m 93 ls []) := by
                  intro v14 H locs ls hf hHs hS hl
                  subst hHs
                  have hf := (ek93 v14).symm.trans hf
                  obtain ⟨v15, ev15, hf⟩ := q_nm_e hf
                  refine lv_iinc (pc := 93) (v := v15) (lv' := [(8, .int v15), (0, .ref a_bx), (1, .int p1), (2, .int p2), (3, .int p3), (4, .int v14), (5, .int v2), (6, .int v5), (7, .int v6)]) hx hb dX1_coverSheet_93 hl (k := 8) rfl (by rw [ev15]; rfl) (by decide) rfl (fun ls hl => ?_)
                  refine lv_goto (pc := 96) (tgt := 36) hx hb dX1_coverSheet_96 (by decide) ?_
                  exact ih36 v14 v15 _ _ _ hf rfl hS (lv_sub hl [1, 2, 3, 4, 5, 6, 7, 8, 0] rfl)
                refine q_if_ne (pc := 64) (tgt := 70) hx hb dX1_coverSheet_64 (by decide) rfl hf (fun hf => ?_) (fun hf => ?_)
                · refine lv_iload (pc := 70) hx hb dX1_coverSheet_70 (lv_at hl 5 rfl) ?_
                  refine lv_iload_n (pc := 72) hx hb dX1_coverSheet_72 rfl (lv_at hl 4 rfl) ?_
                  refine q_icmp_ne (pc := 73) (tgt := 90) hx hb dX1_coverSheet_73 (by decide) rfl hf (fun hf => ?_) (fun hf => ?_)
                  · obtain ⟨v16, ev16, hf⟩ := q_nm_e hf
                    refine lv_iinc (pc := 90) (v := v16) (lv' := [(4, .int v16), (9, .int v12), (0, .ref a_bx), (1, .int p1), (2, .int p2), (3, .int p3), (5, .int v2), (6, .int v5), (7, .int v6), (8, .int v9)]) hx hb dX1_coverSheet_90 hl (k := 5) rfl (by rw [ev16]; rfl) (by decide) rfl (fun ls hl => ?_)
                    exact J93 v16 _ _ _ hf rfl hS (lv_sub hl [2, 3, 4, 5, 0, 6, 7, 8, 9] rfl)
                  · refine lv_aload_n (pc := 76) hx hb dX1_coverSheet_76 rfl (lv_at hl 1 rfl) ?_
                    refine va_get (pc := 77) (D := D) (ci := 1) (v := .ref a_g) (C := RX1) (T := TX1) (N := 5) hx hb hts hinX1 hown hK hP 0 rfl rfl 0 (by decide) w_1 (fun _ h9 => h9) rfl dX1_coverSheet_77 ?_
                    refine lv_iload_n (pc := 80) hx hb dX1_coverSheet_80 rfl (lv_at hl 2 rfl) ?_
                    refine lv_iload (pc := 81) hx hb dX1_coverSheet_81 (lv_at hl 7 rfl) ?_
                    obtain ⟨v17, hm83, hf⟩ := q_b1_e hf
                    refine q_cVr (pc := 83) (As := [.int p1, .int v5]) (rest := []) (v0 := (some (.int v17))) ⟨hx, hb, hml, hown, hts⟩ hK hA hZ hP hD hS hl.1 [1, 4, 5, 6, 7] 8 rfl ⟨rfl, rfl, rfl⟩ (c_Grid_rowStart l D ci A sa N (Rw) a_g a_g_rowCuts a_g_columnCuts a_g_bandRows a_g_zoneColumns a_g_rows a_g_sheets g_bandRows g_zoneColumns g_rows g_sheets p1 v5 v17 hm83) 1 rfl rfl (cwV 2 hts gX1_coverSheet_X2_rowStart rfl rfl rfl (by decide +kernel) ⟨Nat.le_of_ble_eq_true rfl, Nat.le_of_ble_eq_true rfl⟩) rfl rfl (Nat.le_of_ble_eq_true rfl) dX1_coverSheet_83 ⟨Nat.zero_le _, Nat.zero_le _⟩ (fun locs hS => ?_)
                    refine lv_iload (pc := 86) hx hb dX1_coverSheet_86 (lv_at hl 0 rfl) ?_
                    refine lv_iadd (pc := 88) hx hb dX1_coverSheet_88 ?_
                    obtain rfl := Option.some.inj hf
                    have hk36 : ((.inr (v17 + v12)) : (Unit) ⊕ (Int32)) = o17_ := hk36
                    obtain rfl := hk36
                    have hk17 : ((v17 + v12) : Int32) = r := hk17
                    obtain rfl := hk17
                    rw [hQ]
                    exact q_iretr (pc := 89) hx hb hr hlocks rfl hS dX1_coverSheet_89
                · refine lv_goto (pc := 67) (tgt := 93) hx hb dX1_coverSheet_67 (by decide) ?_
                  exact J93 v8 _ _ _ hf rfl hS (lv_sub hl [1, 2, 3, 4, 5, 6, 7, 8, 9] rfl)
          exact LP36 N v4 v7 _ _ _ hm36 rfl hS (lv_sub hl [2, 3, 4, 5, 6, 7, 8, 1, 0] rfl)
    exact LP17 N v1 v3 _ _ _ hm17 rfl hS (lv_sub hl [3, 4, 5, 6, 2, 1, 0] rfl)
  exact hgo _ _ rfl hP hS
/-! X1_keyFromWest -/
set_option maxRecDepth 100000 in
set_option maxHeartbeats 4000000 in
theorem c_Box_keyFromWest (l : Launch) (D : va_G) (ci : Nat → ClassId) (A : Nat → Prop) (sa : Nat → Nat) (N : Nat) (Rw : va_W) (a_bx : Nat) (a_g : Nat) (a_g_rowCuts : Nat) (a_g_columnCuts : Nat) (a_g_bandRows : Nat) (a_g_zoneColumns : Nat) (a_g_rows : Nat) (a_g_sheets : Nat) (bx_south : Int32) (bx_north : Int32) (bx_west : Int32) (bx_east : Int32) (g_bandRows : Nat → Int32) (g_zoneColumns : Nat → Int32) (g_rows : Nat → Int32) (g_sheets : Nat → Int32) (p1 : Int32) (p2 : Int32) (p3 : Int32) (r : Int32) (hf : f_Box_keyFromWest bx_west g_bandRows g_zoneColumns g_rows g_sheets p1 p2 p3 = some r) : Met l yX1_keyFromWest wsX1_keyFromWest ({ frames := 2, cells := 0, slots := 0, locals := 45 }) (va_Pc [.ref a_bx, .int p1, .int p2, .int p3] (q_N D ci A sa ((a_bx, .inr (1, [.ref a_g, .int bx_south, .int bx_north, .int bx_west, .int bx_east])) :: (a_g, .inr (2, [.ref a_g_rowCuts, .ref a_g_columnCuts, .ref a_g_bandRows, .ref a_g_zoneColumns, .ref a_g_rows, .ref a_g_sheets])) :: (a_g_bandRows, .inl (ci 0, 5, .inl g_bandRows)) :: (a_g_zoneColumns, .inl (ci 0, 5, .inl g_zoneColumns)) :: (a_g_rows, .inl (ci 0, 5, .inl g_rows)) :: (a_g_sheets, .inl (ci 0, 5, .inl g_sheets)) :: Rw))) (q_R (some (.int r))) 0 0 A := by
  refine q_ofW (cc := cX1_keyFromWest) (maxL := 5) (ret := (some .int)) [.ref a_bx, .int p1, .int p2, .int p3] (plainFor_of_name (by decide)) rfl (Nat.le_of_ble_eq_true rfl) ?_
  intro p e s m below meth c ls Q hQ hx hb hml hr hts hown hlocks hK hA hZ hP hD hS hl
  have hl : lv_has ls 5 [(0, .ref a_bx), (1, .int p1), (2, .int p2), (3, .int p3)] := hl
  have hown : s.vm.findClass RX1 = some m.cls := hown
  have hinX1 : ∀ w ∈ wsX10, w ∈ wsX1_keyFromWest := fun _ h => List.mem_cons_of_mem _ (inWX10 _ h)
  have w_1 := hts (Cond.fieldLink RX1 24 "SheetNames$Box" "grid" "LSheetNames$Grid;") (List.mem_cons_of_mem _ t_w827)
  have w_2 := hts (Cond.fieldLink RX1 18 "SheetNames$Box" "west" "I") (List.mem_cons_of_mem _ t_w832)
  unfold f_Box_keyFromWest at hf
  have hgo : ∀ (H : Heap) (locs : List Loc), H = s.heap → va_P D vwCl ((a_bx, .inr (1, [.ref a_g, .int bx_south, .int bx_north, .int bx_west, .int bx_east])) :: (a_g, .inr (2, [.ref a_g_rowCuts, .ref a_g_columnCuts, .ref a_g_bandRows, .ref a_g_zoneColumns, .ref a_g_rows, .ref a_g_sheets])) :: (a_g_bandRows, .inl (ci 0, 5, .inl g_bandRows)) :: (a_g_zoneColumns, .inl (ci 0, 5, .inl g_zoneColumns)) :: (a_g_rows, .inl (ci 0, 5, .inl g_rows)) :: (a_g_sheets, .inl (ci 0, 5, .inl g_sheets)) :: Rw) H → va_S A s.heap H locs → W p l e ({ frames := 2, cells := 0, slots := 0, locals := 45 } : Room) s m ([.ref a_bx, .int p1, .int p2, .int p3] : List Value).toArray below meth c H locs 0 0 Q (F0 m 0 ls []) := by
    intro H locs hH hP hS
    subst hH
    refine lv_aload_n (pc := 0) hx hb dX1_keyFromWest_0 rfl (lv_at hl 0 rfl) ?_
    refine va_get (pc := 1) (D := D) (ci := 1) (v := .ref a_g) (C := RX1) (T := TX1) (N := 5) hx hb hts hinX1 hown hK hP 0 rfl rfl 0 (by decide) w_1 (fun _ h9 => h9) rfl dX1_keyFromWest_1 ?_
    refine lv_iload_n (pc := 4) hx hb dX1_keyFromWest_4 rfl (lv_at hl 1 rfl) ?_
    refine lv_iload_n (pc := 5) hx hb dX1_keyFromWest_5 rfl (lv_at hl 2 rfl) ?_
    refine lv_aload_n (pc := 6) hx hb dX1_keyFromWest_6 rfl (lv_at hl 0 rfl) ?_
    refine va_get (pc := 7) (D := D) (ci := 1) (v := .int bx_west) (C := RX1) (T := TX1) (N := 5) hx hb hts hinX1 hown hK hP 0 rfl rfl 3 (by decide) w_2 (fun _ h9 => h9) rfl dX1_keyFromWest_7 ?_
    obtain ⟨v1, hm10, hf⟩ := q_b1_e hf
    refine q_cVr (pc := 10) (As := [.int p1, .int p2, .int bx_west]) (rest := []) (v0 := (some (.int v1))) ⟨hx, hb, hml, hown, hts⟩ hK hA hZ hP hD hS hl.1 [1, 2, 3, 4] 6 rfl ⟨rfl, rfl, rfl⟩ (c_Grid_placeOfLon l D ci A sa N (Rw) a_g a_g_rowCuts a_g_columnCuts a_g_bandRows a_g_zoneColumns a_g_rows a_g_sheets g_bandRows g_zoneColumns g_rows p1 p2 bx_west v1 hm10) 1 rfl rfl (cwV 3 hts gX1_keyFromWest_X2_placeOfLon rfl rfl rfl (by decide +kernel) ⟨Nat.le_of_ble_eq_true rfl, Nat.le_of_ble_eq_true rfl⟩) rfl rfl (Nat.le_of_ble_eq_true rfl) dX1_keyFromWest_10 ⟨Nat.zero_le _, Nat.zero_le _⟩ (fun locs hS => ?_)
    refine lv_istore (pc := 13) (lv' := [(4, .int v1), (0, .ref a_bx), (1, .int p1), (2, .int p2), (3, .int p3)]) hx hb dX1_keyFromWest_13 hl (by decide) rfl (fun ls hl => ?_)
    refine lv_aload_n (pc := 15) hx hb dX1_keyFromWest_15 rfl (lv_at hl 1 rfl) ?_
    refine va_get (pc := 16) (D := D) (ci := 1) (v := .ref a_g) (C := RX1) (T := TX1) (N := 5) hx hb hts hinX1 hown hK hP 0 rfl rfl 0 (by decide) w_1 (fun _ h9 => h9) rfl dX1_keyFromWest_16 ?_
    refine lv_iload_n (pc := 19) hx hb dX1_keyFromWest_19 rfl (lv_at hl 2 rfl) ?_
    refine lv_iload_n (pc := 20) hx hb dX1_keyFromWest_20 rfl (lv_at hl 3 rfl) ?_
    obtain ⟨v2, hm21, hf⟩ := q_b1_e hf
    refine q_cVr (pc := 21) (As := [.int p1, .int p2]) (rest := []) (v0 := (some (.int v2))) ⟨hx, hb, hml, hown, hts⟩ hK hA hZ hP hD hS hl.1 [1, 2, 3, 4, 5] 6 rfl ⟨rfl, rfl, rfl⟩ (c_Grid_rowStart l D ci A sa N (Rw) a_g a_g_rowCuts a_g_columnCuts a_g_bandRows a_g_zoneColumns a_g_rows a_g_sheets g_bandRows g_zoneColumns g_rows g_sheets p1 p2 v2 hm21) 1 rfl rfl (cwV 2 hts gX1_keyFromWest_X2_rowStart rfl rfl rfl (by decide +kernel) ⟨Nat.le_of_ble_eq_true rfl, Nat.le_of_ble_eq_true rfl⟩) rfl rfl (Nat.le_of_ble_eq_true rfl) dX1_keyFromWest_21 ⟨Nat.zero_le _, Nat.zero_le _⟩ (fun locs hS => ?_)
    refine lv_iload (pc := 24) hx hb dX1_keyFromWest_24 (lv_at hl 0 rfl) ?_
    refine lv_iload_n (pc := 26) hx hb dX1_keyFromWest_26 rfl (lv_at hl 4 rfl) ?_
    refine lv_iadd (pc := 27) hx hb dX1_keyFromWest_27 ?_
    refine lv_aload_n (pc := 28) hx hb dX1_keyFromWest_28 rfl (lv_at hl 1 rfl) ?_
    refine va_get (pc := 29) (D := D) (ci := 1) (v := .ref a_g) (C := RX1) (T := TX1) (N := 5) hx hb hts hinX1 hown hK hP 0 rfl rfl 0 (by decide) w_1 (fun _ h9 => h9) rfl dX1_keyFromWest_29 ?_
    refine lv_iload_n (pc := 32) hx hb dX1_keyFromWest_32 rfl (lv_at hl 2 rfl) ?_
    refine lv_iload_n (pc := 33) hx hb dX1_keyFromWest_33 rfl (lv_at hl 3 rfl) ?_
    obtain ⟨v3, hm34, hf⟩ := q_b1_e hf
    refine q_cVr (pc := 34) (As := [.int p1, .int p2]) (rest := [.int (v1 + p3), .int v2]) (v0 := (some (.int v3))) ⟨hx, hb, hml, hown, hts⟩ hK hA hZ hP hD hS hl.1 [1, 2, 3, 4] 6 rfl ⟨rfl, rfl, rfl⟩ (c_Grid_rowLength l D ci A sa N (Rw) a_g a_g_rowCuts a_g_columnCuts a_g_bandRows a_g_zoneColumns a_g_rows a_g_sheets g_bandRows g_zoneColumns g_rows p1 p2 v3 hm34) 1 rfl rfl (cwV 2 hts gX1_keyFromWest_X2_rowLength rfl rfl rfl (by decide +kernel) ⟨Nat.le_of_ble_eq_true rfl, Nat.le_of_ble_eq_true rfl⟩) rfl rfl (Nat.le_of_ble_eq_true rfl) dX1_keyFromWest_34 ⟨Nat.zero_le _, Nat.zero_le _⟩ (fun locs hS => ?_)
    refine q_irem (pc := 37) hx hb dX1_keyFromWest_37 hf (fun v4 hf => ?_)
    refine lv_iadd (pc := 38) hx hb dX1_keyFromWest_38 ?_
    obtain rfl := Option.some.inj hf
    rw [hQ]
    exact q_iretr (pc := 39) hx hb hr hlocks rfl hS dX1_keyFromWest_39
  exact hgo _ _ rfl hP hS
/-! X1_set -/
set_option maxRecDepth 100000 in
set_option maxHeartbeats 4000000 in
theorem c_Box_set (l : Launch) (D : va_G) (ci : Nat → ClassId) (A : Nat → Prop) (sa : Nat → Nat) (N : Nat) (Rw : va_W) (a_bx : Nat) (a_g : Nat) (bx_south : Int32) (bx_north : Int32) (bx_west : Int32) (bx_east : Int32) (p1 : Int32) (p2 : Int32) (p3 : Int32) (p4 : Int32) (o1 : Int32) (o2 : Int32) (o3 : Int32) (o4 : Int32) (hf : f_Box_set bx_south bx_north bx_west bx_east p1 p2 p3 p4 = some (o1, o2, o3, o4)) : Met l yX1_set wsX1_set ({ frames := 0, cells := 0, slots := 0, locals := 0 }) (va_Pc [.ref a_bx, .int p1, .int p2, .int p3, .int p4] (q_N D ci A sa ((a_bx, .inr (1, [.ref a_g, .int bx_south, .int bx_north, .int bx_west, .int bx_east])) :: Rw))) (q_Q none (q_O D A ((a_bx, .inr (1, [.ref a_g, .int o1, .int o2, .int o3, .int o4])) :: Rw)) A) 0 0 A := by
  refine q_ofW (cc := cX1_set) (maxL := 5) (ret := none) [.ref a_bx, .int p1, .int p2, .int p3, .int p4] (plainFor_of_name (by decide)) rfl (Nat.le_of_ble_eq_true rfl) ?_
  intro p e s m below meth c ls Q hQ hx hb hml hr hts hown hlocks hK hA hZ hP hD hS hl
  have hl : lv_has ls 5 [(0, .ref a_bx), (1, .int p1), (2, .int p2), (3, .int p3), (4, .int p4)] := hl
  have hown : s.vm.findClass RX1 = some m.cls := hown
  have hinX1 : ∀ w ∈ wsX10, w ∈ wsX1_set := fun _ h => List.mem_cons_of_mem _ (inWX10 _ h)
  have w_1 := hts (Cond.fieldLink RX1 9 "SheetNames$Box" "south" "I") (List.mem_cons_of_mem _ t_w828)
  have w_2 := hts (Cond.fieldLink RX1 15 "SheetNames$Box" "north" "I") (List.mem_cons_of_mem _ t_w830)
  have w_3 := hts (Cond.fieldLink RX1 18 "SheetNames$Box" "west" "I") (List.mem_cons_of_mem _ t_w832)
  have w_4 := hts (Cond.fieldLink RX1 21 "SheetNames$Box" "east" "I") (List.mem_cons_of_mem _ t_w833)
  unfold f_Box_set at hf
  have hgo : ∀ (H : Heap) (locs : List Loc), H = s.heap → va_P D vwCl ((a_bx, .inr (1, [.ref a_g, .int bx_south, .int bx_north, .int bx_west, .int bx_east])) :: Rw) H → va_S A s.heap H locs → W p l e ({ frames := 0, cells := 0, slots := 0, locals := 0 } : Room) s m ([.ref a_bx, .int p1, .int p2, .int p3, .int p4] : List Value).toArray below meth c H locs 0 0 Q (F0 m 0 ls []) := by
    intro H locs hH hP hS
    refine lv_aload_n (pc := 0) hx hb dX1_set_0 rfl (lv_at hl 0 rfl) ?_
    refine lv_iload_n (pc := 1) hx hb dX1_set_1 rfl (lv_at hl 1 rfl) ?_
    refine va_put (pc := 2) (D := D) (ci := 1) (v := .int p1) (ty := .int) (C := RX1) (T := TX1) (N := 5) hx hb hts hinX1 tyX1 tyX1_ok nmX1 hown hK hP hD hS 0 rfl rfl 1 (by decide) w_1 (fun _ h9 => h9) rfl (by decide +kernel) rfl rfl (Nat.le_of_ble_eq_true rfl) dX1_set_2 (fun H locs hP hD hS => ?_)
    obtain ⟨hP, hD⟩ : va_PD D A ((a_bx, .inr (1, [.ref a_g, .int p1, .int bx_north, .int bx_west, .int bx_east])) :: Rw) H := ⟨hP, hD⟩
    refine lv_aload_n (pc := 5) hx hb dX1_set_5 rfl (lv_at hl 0 rfl) ?_
    refine lv_iload_n (pc := 6) hx hb dX1_set_6 rfl (lv_at hl 2 rfl) ?_
    refine va_put (pc := 7) (D := D) (ci := 1) (v := .int p2) (ty := .int) (C := RX1) (T := TX1) (N := 5) hx hb hts hinX1 tyX1 tyX1_ok nmX1 hown hK hP hD hS 0 rfl rfl 2 (by decide) w_2 (fun _ h9 => h9) rfl (by decide +kernel) rfl rfl (Nat.le_of_ble_eq_true rfl) dX1_set_7 (fun H locs hP hD hS => ?_)
    obtain ⟨hP, hD⟩ : va_PD D A ((a_bx, .inr (1, [.ref a_g, .int p1, .int p2, .int bx_west, .int bx_east])) :: Rw) H := ⟨hP, hD⟩
    refine lv_aload_n (pc := 10) hx hb dX1_set_10 rfl (lv_at hl 0 rfl) ?_
    refine lv_iload_n (pc := 11) hx hb dX1_set_11 rfl (lv_at hl 3 rfl) ?_
    refine va_put (pc := 12) (D := D) (ci := 1) (v := .int p3) (ty := .int) (C := RX1) (T := TX1) (N := 5) hx hb hts hinX1 tyX1 tyX1_ok nmX1 hown hK hP hD hS 0 rfl rfl 3 (by decide) w_3 (fun _ h9 => h9) rfl (by decide +kernel) rfl rfl (Nat.le_of_ble_eq_true rfl) dX1_set_12 (fun H locs hP hD hS => ?_)
    obtain ⟨hP, hD⟩ : va_PD D A ((a_bx, .inr (1, [.ref a_g, .int p1, .int p2, .int p3, .int bx_east])) :: Rw) H := ⟨hP, hD⟩
    refine lv_aload_n (pc := 15) hx hb dX1_set_15 rfl (lv_at hl 0 rfl) ?_
    refine lv_iload (pc := 16) hx hb dX1_set_16 (lv_at hl 4 rfl) ?_
    refine va_put (pc := 18) (D := D) (ci := 1) (v := .int p4) (ty := .int) (C := RX1) (T := TX1) (N := 5) hx hb hts hinX1 tyX1 tyX1_ok nmX1 hown hK hP hD hS 0 rfl rfl 4 (by decide) w_4 (fun _ h9 => h9) rfl (by decide +kernel) rfl rfl (Nat.le_of_ble_eq_true rfl) dX1_set_18 (fun H locs hP hD hS => ?_)
    obtain ⟨hP, hD⟩ : va_PD D A ((a_bx, .inr (1, [.ref a_g, .int p1, .int p2, .int p3, .int p4])) :: Rw) H := ⟨hP, hD⟩
    obtain ⟨e90, e91, e92, e93⟩ := q_inj4 (Option.some.inj hf)
    rw [hQ, ← e90, ← e91, ← e92, ← e93]
    exact q_vret (pc := 21) hx hb hr hlocks hP hD hS dX1_set_21
  exact hgo _ _ rfl hP hS
/-! X1_sheetAt -/
set_option maxRecDepth 100000 in
set_option maxHeartbeats 4000000 in
theorem c_Box_sheetAt (l : Launch) (D : va_G) (ci : Nat → ClassId) (A : Nat → Prop) (sa : Nat → Nat) (N : Nat) (Rw : va_W) (a_bx : Nat) (a_g : Nat) (a_g_rowCuts : Nat) (a_g_columnCuts : Nat) (a_g_bandRows : Nat) (a_g_zoneColumns : Nat) (a_g_rows : Nat) (a_g_sheets : Nat) (bx_south : Int32) (bx_north : Int32) (bx_west : Int32) (bx_east : Int32) (g_bandRows : Nat → Int32) (g_zoneColumns : Nat → Int32) (g_rows : Nat → Int32) (g_sheets : Nat → Int32) (p1 : Int32) (p2 : Int32) (r : Int32) (hf : f_Box_sheetAt N bx_south bx_north bx_west bx_east g_bandRows g_zoneColumns g_rows g_sheets p1 p2 = some r) : Met l yX1_sheetAt wsX1_sheetAt ({ frames := 4, cells := 0, slots := 0, locals := 93 }) (va_Pc [.ref a_bx, .int p1, .int p2] (q_N D ci A sa ((a_bx, .inr (1, [.ref a_g, .int bx_south, .int bx_north, .int bx_west, .int bx_east])) :: (a_g, .inr (2, [.ref a_g_rowCuts, .ref a_g_columnCuts, .ref a_g_bandRows, .ref a_g_zoneColumns, .ref a_g_rows, .ref a_g_sheets])) :: (a_g_bandRows, .inl (ci 0, 5, .inl g_bandRows)) :: (a_g_zoneColumns, .inl (ci 0, 5, .inl g_zoneColumns)) :: (a_g_rows, .inl (ci 0, 5, .inl g_rows)) :: (a_g_sheets, .inl (ci 0, 5, .inl g_sheets)) :: Rw))) (q_R (some (.int r))) 0 0 A := by
  refine q_ofW (cc := cX1_sheetAt) (maxL := 9) (ret := (some .int)) [.ref a_bx, .int p1, .int p2] (plainFor_of_name (by decide)) rfl (Nat.le_of_ble_eq_true rfl) ?_
  intro p e s m below meth c ls Q hQ hx hb hml hr hts hown hlocks hK hA hZ hP hD hS hl
  have hl : lv_has ls 9 [(0, .ref a_bx), (1, .int p1), (2, .int p2)] := hl
  have hown : s.vm.findClass RX1 = some m.cls := hown
  have w_1 := hts (Cond.methodLink RX1 57 Lib.Math.max.name) (List.mem_cons_of_mem _ t_w831)
  have w_2 := hts (Cond.static Lib.Math.max.name) (List.mem_cons_of_mem _ t_w813)
  have w_3 := hts (Cond.initialized "java/lang/Math") (List.mem_cons_of_mem _ t_w76)
  have w_4 := hts (Cond.code Lib.Math.max.name Lib.Math.max.code 2 (some .int)) (List.mem_cons_of_mem _ t_w814)
  unfold f_Box_sheetAt at hf
  have hgo : ∀ (H : Heap) (locs : List Loc), H = s.heap → va_P D vwCl ((a_bx, .inr (1, [.ref a_g, .int bx_south, .int bx_north, .int bx_west, .int bx_east])) :: (a_g, .inr (2, [.ref a_g_rowCuts, .ref a_g_columnCuts, .ref a_g_bandRows, .ref a_g_zoneColumns, .ref a_g_rows, .ref a_g_sheets])) :: (a_g_bandRows, .inl (ci 0, 5, .inl g_bandRows)) :: (a_g_zoneColumns, .inl (ci 0, 5, .inl g_zoneColumns)) :: (a_g_rows, .inl (ci 0, 5, .inl g_rows)) :: (a_g_sheets, .inl (ci 0, 5, .inl g_sheets)) :: Rw) H → va_S A s.heap H locs → W p l e ({ frames := 4, cells := 0, slots := 0, locals := 93 } : Room) s m ([.ref a_bx, .int p1, .int p2] : List Value).toArray below meth c H locs 0 0 Q (F0 m 0 ls []) := by
    intro H locs hH hP hS
    subst hH
    refine lv_iconst (pc := 0) (v := 0) hx hb dX1_sheetAt_0 (by decide) ?_
    obtain ⟨v1, ev1, hf⟩ := q_nm_e hf
    refine q_topi ev1 ?_
    refine lv_istore_n (pc := 1) (lv' := [(3, .int v1), (0, .ref a_bx), (1, .int p1), (2, .int p2)]) hx hb dX1_sheetAt_1 rfl hl (by decide) rfl (fun ls hl => ?_)
    refine lv_iconst (pc := 2) (v := 0) hx hb dX1_sheetAt_2 (by decide) ?_
    obtain ⟨v2, ev2, hf⟩ := q_nm_e hf
    refine q_topi ev2 ?_
    refine lv_istore (pc := 3) (lv' := [(4, .int v2), (3, .int v1), (0, .ref a_bx), (1, .int p1), (2, .int p2)]) hx hb dX1_sheetAt_3 hl (by decide) rfl (fun ls hl => ?_)
    obtain ⟨k5, o5_, ek5, hm5, hk5⟩ := q_s0_k hf
    have JE5 : ∀  (H : Heap) (locs : List Loc) (ls : Array Slot), k5 = some r → H = s.heap → va_S A s.heap H locs → lv_has ls 9 [] → W p l e ({ frames := 4, cells := 0, slots := 0, locals := 93 } : Room) s m ([.ref a_bx, .int p1, .int p2] : List Value).toArray below meth c H locs 0 0 Q (F0 m 105 ls []) := by
      intro  H locs ls hf hHs hS hl
      subst hHs
      have hf := (ek5).symm.trans hf
      refine lv_iconst (pc := 105) (v := (-1)) hx hb dX1_sheetAt_105 (by decide) ?_
      obtain rfl := Option.some.inj hf
      rw [hQ]
      exact q_iretr (pc := 106) hx hb hr hlocks rfl hS dX1_sheetAt_106
    have LP5 : ∀ (n5 : Nat) (v3 : Int32) (v4 : Int32) (H : Heap) (locs : List Loc) (ls : Array Slot), f_Box_sheetAt_L5 bx_east bx_north bx_south bx_west g_bandRows g_rows g_sheets g_zoneColumns p1 p2 n5 v3 v4 = some o5_ → H = s.heap → va_S A s.heap H locs → lv_has ls 9 [(0, .ref a_bx), (1, .int p1), (2, .int p2), (3, .int v3), (4, .int v4)] → W p l e ({ frames := 4, cells := 0, slots := 0, locals := 93 } : Room) s m ([.ref a_bx, .int p1, .int p2] : List Value).toArray below meth c H locs 0 0 Q (F0 m 5 ls []) := by
      intro n5
      induction n5 with
      | zero => intro v3 v4 H locs ls hf; rw [f_Box_sheetAt_L5] at hf; cases hf
      | succ n5 ih5 =>
        intro v3 v4 H locs ls hf hHs hS hl
        subst hHs
        rw [f_Box_sheetAt_L5] at hf
        refine lv_iload (pc := 5) hx hb dX1_sheetAt_5 (lv_at hl 4 rfl) ?_
        refine lv_bipush (pc := 7) (v := 45) hx hb dX1_sheetAt_7 (by decide) ?_
        refine q_icmp_gt (pc := 9) (tgt := 105) hx hb dX1_sheetAt_9 (by decide) rfl hf (fun hf => ?_) (fun hf => ?_)
        · obtain rfl := Option.some.inj hf
          exact JE5  _ _ _ hk5 rfl hS (lv_sub hl [] rfl)
        · refine lv_aload_n (pc := 12) hx hb dX1_sheetAt_12 rfl (lv_at hl 0 rfl) ?_
          refine lv_iload_n (pc := 13) hx hb dX1_sheetAt_13 rfl (lv_at hl 1 rfl) ?_
          refine lv_iload (pc := 14) hx hb dX1_sheetAt_14 (lv_at hl 4 rfl) ?_
          obtain ⟨v5, hm16, hf⟩ := q_b1_e hf
          refine q_cVr (pc := 16) (As := [.int p1, .int v4]) (rest := []) (v0 := (some (.int v5))) ⟨hx, hb, hml, hown, hts⟩ hK hA hZ hP hD hS hl.1 [0, 1, 2, 4] 6 rfl ⟨rfl, rfl, rfl⟩ (c_Box_beltTop l D ci A sa N (Rw) a_bx a_g a_g_rowCuts a_g_columnCuts a_g_bandRows a_g_zoneColumns a_g_rows a_g_sheets bx_south bx_north bx_west bx_east g_bandRows g_rows p1 v4 v5 hm16) 0 rfl rfl (cwV 2 hts gX1_sheetAt_X1_beltTop rfl rfl rfl (by decide +kernel) ⟨Nat.le_of_ble_eq_true rfl, Nat.le_of_ble_eq_true rfl⟩) rfl rfl (Nat.le_of_ble_eq_true rfl) dX1_sheetAt_16 ⟨Nat.zero_le _, Nat.zero_le _⟩ (fun locs hS => ?_)
          refine lv_istore (pc := 19) (lv' := [(5, .int v5), (0, .ref a_bx), (1, .int p1), (2, .int p2), (3, .int v3), (4, .int v4)]) hx hb dX1_sheetAt_19 hl (by decide) rfl (fun ls hl => ?_)
          refine lv_aload_n (pc := 21) hx hb dX1_sheetAt_21 rfl (lv_at hl 1 rfl) ?_
          refine lv_iload_n (pc := 22) hx hb dX1_sheetAt_22 rfl (lv_at hl 2 rfl) ?_
          refine lv_iload (pc := 23) hx hb dX1_sheetAt_23 (lv_at hl 5 rfl) ?_
          obtain ⟨v6, hm25, hf⟩ := q_b1_e hf
          refine q_cVr (pc := 25) (As := [.int p1, .int v4]) (rest := []) (v0 := (some (.int v6))) ⟨hx, hb, hml, hown, hts⟩ hK hA hZ hP hD hS hl.1 [0, 1, 2, 4] 6 rfl ⟨rfl, rfl, rfl⟩ (c_Box_beltBottom l D ci A sa N (Rw) a_bx a_g a_g_rowCuts a_g_columnCuts a_g_bandRows a_g_zoneColumns a_g_rows a_g_sheets bx_south bx_north bx_west bx_east g_bandRows g_rows p1 v4 v6 hm25) 0 rfl rfl (cwV 2 hts gX1_sheetAt_X1_beltBottom rfl rfl rfl (by decide +kernel) ⟨Nat.le_of_ble_eq_true rfl, Nat.le_of_ble_eq_true rfl⟩) rfl rfl (Nat.le_of_ble_eq_true rfl) dX1_sheetAt_25 ⟨Nat.zero_le _, Nat.zero_le _⟩ (fun locs hS => ?_)
          refine lv_istore (pc := 28) (lv' := [(6, .int v6), (5, .int v5), (0, .ref a_bx), (1, .int p1), (2, .int p2), (3, .int v3), (4, .int v4)]) hx hb dX1_sheetAt_28 hl (by decide) rfl (fun ls hl => ?_)
          refine lv_iload (pc := 30) hx hb dX1_sheetAt_30 (lv_at hl 1 rfl) ?_
          refine lv_iload (pc := 32) hx hb dX1_sheetAt_32 (lv_at hl 0 rfl) ?_
          obtain ⟨k99, ek99, hf⟩ := q_j1_e hf
          have J99 : ∀ (v7 : Int32) (H : Heap) (locs : List Loc) (ls : Array Slot), k99 v7 = some o5_ → H = s.heap → va_S A s.heap H locs → lv_has ls 9 [(0, .ref a_bx), (1, .int p1), (2, .int p2), (3, .int v7), (4, .int v4)] → W p l e ({ frames := 4, cells := 0, slots := 0, locals := 93 } : Room) s m ([.ref a_bx, .int p1, .int p2] : List Value).toArray below meth c H locs 0 0 Q (F0 m 99 ls []) := by
            intro v7 H locs ls hf hHs hS hl
            subst hHs
            have hf := (ek99 v7).symm.trans hf
            obtain ⟨v8, ev8, hf⟩ := q_nm_e hf
            refine lv_iinc (pc := 99) (v := v8) (lv' := [(4, .int v8), (0, .ref a_bx), (1, .int p1), (2, .int p2), (3, .int v7)]) hx hb dX1_sheetAt_99 hl (k := 4) rfl (by rw [ev8]; rfl) (by decide) rfl (fun ls hl => ?_)
            refine lv_goto (pc := 102) (tgt := 5) hx hb dX1_sheetAt_102 (by decide) ?_
            exact ih5 v7 v8 _ _ _ hf rfl hS (lv_sub hl [1, 2, 3, 4, 0] rfl)
          refine q_icmp_le (pc := 34) (tgt := 40) hx hb dX1_sheetAt_34 (by decide) rfl hf (fun hf => ?_) (fun hf => ?_)
          · refine lv_iconst (pc := 40) (v := 1) hx hb dX1_sheetAt_40 (by decide) ?_
            refine lv_aload_n (pc := 41) hx hb dX1_sheetAt_41 rfl (lv_at hl 2 rfl) ?_
            refine lv_iload_n (pc := 42) hx hb dX1_sheetAt_42 rfl (lv_at hl 3 rfl) ?_
            refine lv_iload (pc := 43) hx hb dX1_sheetAt_43 (lv_at hl 1 rfl) ?_
            obtain ⟨v9, hm45, hf⟩ := q_b1_e hf
            refine q_cVr (pc := 45) (As := [.int p1, .int v5]) (rest := [.int 1]) (v0 := (some (.int v9))) ⟨hx, hb, hml, hown, hts⟩ hK hA hZ hP hD hS hl.1 [0, 1, 2, 3, 4] 6 rfl ⟨rfl, rfl, rfl⟩ (c_Box_inRow l D ci A sa N (Rw) a_bx a_g a_g_rowCuts a_g_columnCuts a_g_bandRows a_g_zoneColumns a_g_rows a_g_sheets bx_south bx_north bx_west bx_east g_bandRows g_zoneColumns g_rows p1 v5 v9 hm45) 0 rfl rfl (cwV 2 hts gX1_sheetAt_X1_inRow rfl rfl rfl (by decide +kernel) ⟨Nat.le_of_ble_eq_true rfl, Nat.le_of_ble_eq_true rfl⟩) rfl rfl (Nat.le_of_ble_eq_true rfl) dX1_sheetAt_45 ⟨Nat.zero_le _, Nat.zero_le _⟩ (fun locs hS => ?_)
            obtain ⟨v10, ev10, hf⟩ := q_nm_e hf
            refine va_mmax (pc := 48) hx hb (hml.trans hl.1.symm) hown w_1 w_2 w_3 w_4 (Nat.le_of_ble_eq_true rfl) (Nat.le_of_ble_eq_true rfl) (Nat.zero_le _) (Nat.zero_le _) dX1_sheetAt_48 ?_
            refine q_topi ev10 ?_
            refine lv_istore (pc := 51) (lv' := [(7, .int v10), (6, .int v6), (5, .int v5), (0, .ref a_bx), (1, .int p1), (2, .int p2), (3, .int v3), (4, .int v4)]) hx hb dX1_sheetAt_51 hl (by decide) rfl (fun ls hl => ?_)
            refine lv_iload (pc := 53) hx hb dX1_sheetAt_53 (lv_at hl 1 rfl) ?_
            refine lv_iload (pc := 55) hx hb dX1_sheetAt_55 (lv_at hl 2 rfl) ?_
            refine lv_isub (pc := 57) hx hb dX1_sheetAt_57 ?_
            refine lv_iconst (pc := 58) (v := 1) hx hb dX1_sheetAt_58 (by decide) ?_
            refine lv_iadd (pc := 59) hx hb dX1_sheetAt_59 ?_
            refine lv_iload (pc := 60) hx hb dX1_sheetAt_60 (lv_at hl 0 rfl) ?_
            refine lv_imul (pc := 62) hx hb dX1_sheetAt_62 ?_
            obtain ⟨v11, ev11, hf⟩ := q_nm_e hf
            refine q_topi ev11 ?_
            refine lv_istore (pc := 63) (lv' := [(8, .int v11), (7, .int v10), (6, .int v6), (5, .int v5), (0, .ref a_bx), (1, .int p1), (2, .int p2), (3, .int v3), (4, .int v4)]) hx hb dX1_sheetAt_63 hl (by decide) rfl (fun ls hl => ?_)
            refine lv_iload_n (pc := 65) hx hb dX1_sheetAt_65 rfl (lv_at hl 6 rfl) ?_
            refine lv_iload_n (pc := 66) hx hb dX1_sheetAt_66 rfl (lv_at hl 7 rfl) ?_
            refine lv_isub (pc := 67) hx hb dX1_sheetAt_67 ?_
            refine lv_iload (pc := 68) hx hb dX1_sheetAt_68 (lv_at hl 0 rfl) ?_
            refine q_icmp_ge (pc := 70) (tgt := 94) hx hb dX1_sheetAt_70 (by decide) rfl hf (fun hf => ?_) (fun hf => ?_)
            · refine lv_iload_n (pc := 94) hx hb dX1_sheetAt_94 rfl (lv_at hl 7 rfl) ?_
              refine lv_iload (pc := 95) hx hb dX1_sheetAt_95 (lv_at hl 0 rfl) ?_
              refine lv_iadd (pc := 97) hx hb dX1_sheetAt_97 ?_
              obtain ⟨v12, ev12, hf⟩ := q_nm_e hf
              refine q_topi ev12 ?_
              refine lv_istore_n (pc := 98) (lv' := [(3, .int v12), (8, .int v11), (7, .int v10), (6, .int v6), (5, .int v5), (0, .ref a_bx), (1, .int p1), (2, .int p2), (4, .int v4)]) hx hb dX1_sheetAt_98 rfl hl (by decide) rfl (fun ls hl => ?_)
              exact J99 v12 _ _ _ hf rfl hS (lv_sub hl [5, 6, 7, 0, 8] rfl)
            · refine lv_aload_n (pc := 73) hx hb dX1_sheetAt_73 rfl (lv_at hl 4 rfl) ?_
              refine lv_iload_n (pc := 74) hx hb dX1_sheetAt_74 rfl (lv_at hl 5 rfl) ?_
              refine lv_iload (pc := 75) hx hb dX1_sheetAt_75 (lv_at hl 3 rfl) ?_
              refine lv_iload_n (pc := 77) hx hb dX1_sheetAt_77 rfl (lv_at hl 6 rfl) ?_
              refine lv_iload_n (pc := 78) hx hb dX1_sheetAt_78 rfl (lv_at hl 7 rfl) ?_
              refine lv_isub (pc := 79) hx hb dX1_sheetAt_79 ?_
              refine lv_iload (pc := 80) hx hb dX1_sheetAt_80 (lv_at hl 1 rfl) ?_
              refine q_idiv (pc := 82) hx hb dX1_sheetAt_82 hf (fun v13 hf => ?_)
              refine lv_iadd (pc := 83) hx hb dX1_sheetAt_83 ?_
              refine lv_iload_n (pc := 84) hx hb dX1_sheetAt_84 rfl (lv_at hl 6 rfl) ?_
              refine lv_iload_n (pc := 85) hx hb dX1_sheetAt_85 rfl (lv_at hl 7 rfl) ?_
              refine lv_isub (pc := 86) hx hb dX1_sheetAt_86 ?_
              refine lv_iload (pc := 87) hx hb dX1_sheetAt_87 (lv_at hl 1 rfl) ?_
              refine q_irem (pc := 89) hx hb dX1_sheetAt_89 hf (fun v14 hf => ?_)
              obtain ⟨v15, hm90, hf⟩ := q_b1_e hf
              refine q_cVr (pc := 90) (As := [.int p1, .int (v5 + v13), .int v14]) (rest := []) (v0 := (some (.int v15))) ⟨hx, hb, hml, hown, hts⟩ hK hA hZ hP hD hS hl.1 [0, 1, 2, 3, 4, 5] 6 rfl ⟨rfl, rfl, rfl⟩ (c_Box_keyFromWest l D ci A sa N (Rw) a_bx a_g a_g_rowCuts a_g_columnCuts a_g_bandRows a_g_zoneColumns a_g_rows a_g_sheets bx_south bx_north bx_west bx_east g_bandRows g_zoneColumns g_rows g_sheets p1 (v5 + v13) v14 v15 hm90) 0 rfl rfl (cwV 3 hts gX1_sheetAt_X1_keyFromWest rfl rfl rfl (by decide +kernel) ⟨Nat.le_of_ble_eq_true rfl, Nat.le_of_ble_eq_true rfl⟩) rfl rfl (Nat.le_of_ble_eq_true rfl) dX1_sheetAt_90 ⟨Nat.zero_le _, Nat.zero_le _⟩ (fun locs hS => ?_)
              obtain rfl := Option.some.inj hf
              have hk5 : (v15 : Int32) = r := hk5
              obtain rfl := hk5
              rw [hQ]
              exact q_iretr (pc := 93) hx hb hr hlocks rfl hS dX1_sheetAt_93
          · refine lv_goto (pc := 37) (tgt := 99) hx hb dX1_sheetAt_37 (by decide) ?_
            exact J99 v3 _ _ _ hf rfl hS (lv_sub hl [2, 3, 4, 5, 6] rfl)
    exact LP5 N v1 v2 _ _ _ hm5 rfl hS (lv_sub hl [2, 3, 4, 1, 0] rfl)
  exact hgo _ _ rfl hP hS
/-! X1_sheetsAt -/
set_option maxRecDepth 100000 in
set_option maxHeartbeats 4000000 in
theorem c_Box_sheetsAt (l : Launch) (D : va_G) (ci : Nat → ClassId) (A : Nat → Prop) (sa : Nat → Nat) (N : Nat) (Rw : va_W) (a_bx : Nat) (a_g : Nat) (a_g_rowCuts : Nat) (a_g_columnCuts : Nat) (a_g_bandRows : Nat) (a_g_zoneColumns : Nat) (a_g_rows : Nat) (a_g_sheets : Nat) (bx_south : Int32) (bx_north : Int32) (bx_west : Int32) (bx_east : Int32) (g_bandRows : Nat → Int32) (g_zoneColumns : Nat → Int32) (g_rows : Nat → Int32) (p1 : Int32) (r : Int32) (hf : f_Box_sheetsAt N bx_south bx_north bx_west bx_east g_bandRows g_zoneColumns g_rows p1 = some r) : Met l yX1_sheetsAt wsX1_sheetsAt ({ frames := 4, cells := 0, slots := 0, locals := 93 }) (va_Pc [.ref a_bx, .int p1] (q_N D ci A sa ((a_bx, .inr (1, [.ref a_g, .int bx_south, .int bx_north, .int bx_west, .int bx_east])) :: (a_g, .inr (2, [.ref a_g_rowCuts, .ref a_g_columnCuts, .ref a_g_bandRows, .ref a_g_zoneColumns, .ref a_g_rows, .ref a_g_sheets])) :: (a_g_bandRows, .inl (ci 0, 5, .inl g_bandRows)) :: (a_g_zoneColumns, .inl (ci 0, 5, .inl g_zoneColumns)) :: (a_g_rows, .inl (ci 0, 5, .inl g_rows)) :: Rw))) (q_R (some (.int r))) 0 0 A := by
  refine q_ofW (cc := cX1_sheetsAt) (maxL := 6) (ret := (some .int)) [.ref a_bx, .int p1] (plainFor_of_name (by decide)) rfl (Nat.le_of_ble_eq_true rfl) ?_
  intro p e s m below meth c ls Q hQ hx hb hml hr hts hown hlocks hK hA hZ hP hD hS hl
  have hl : lv_has ls 6 [(0, .ref a_bx), (1, .int p1)] := hl
  have hown : s.vm.findClass RX1 = some m.cls := hown
  unfold f_Box_sheetsAt at hf
  have hgo : ∀ (H : Heap) (locs : List Loc), H = s.heap → va_P D vwCl ((a_bx, .inr (1, [.ref a_g, .int bx_south, .int bx_north, .int bx_west, .int bx_east])) :: (a_g, .inr (2, [.ref a_g_rowCuts, .ref a_g_columnCuts, .ref a_g_bandRows, .ref a_g_zoneColumns, .ref a_g_rows, .ref a_g_sheets])) :: (a_g_bandRows, .inl (ci 0, 5, .inl g_bandRows)) :: (a_g_zoneColumns, .inl (ci 0, 5, .inl g_zoneColumns)) :: (a_g_rows, .inl (ci 0, 5, .inl g_rows)) :: Rw) H → va_S A s.heap H locs → W p l e ({ frames := 4, cells := 0, slots := 0, locals := 93 } : Room) s m ([.ref a_bx, .int p1] : List Value).toArray below meth c H locs 0 0 Q (F0 m 0 ls []) := by
    intro H locs hH hP hS
    subst hH
    refine lv_iconst (pc := 0) (v := 0) hx hb dX1_sheetsAt_0 (by decide) ?_
    obtain ⟨v1, ev1, hf⟩ := q_nm_e hf
    refine q_topi ev1 ?_
    refine lv_istore_n (pc := 1) (lv' := [(2, .int v1), (0, .ref a_bx), (1, .int p1)]) hx hb dX1_sheetsAt_1 rfl hl (by decide) rfl (fun ls hl => ?_)
    refine lv_iconst (pc := 2) (v := 0) hx hb dX1_sheetsAt_2 (by decide) ?_
    obtain ⟨v2, ev2, hf⟩ := q_nm_e hf
    refine q_topi ev2 ?_
    refine lv_istore_n (pc := 3) (lv' := [(3, .int v2), (2, .int v1), (0, .ref a_bx), (1, .int p1)]) hx hb dX1_sheetsAt_3 rfl hl (by decide) rfl (fun ls hl => ?_)
    obtain ⟨v5, hm4, hf⟩ := q_b1_e hf
    have JE4 : ∀ (H : Heap) (locs : List Loc) (ls : Array Slot), H = s.heap → va_S A s.heap H locs → lv_has ls 6 [(2, .int v5)] → W p l e ({ frames := 4, cells := 0, slots := 0, locals := 93 } : Room) s m ([.ref a_bx, .int p1] : List Value).toArray below meth c H locs 0 0 Q (F0 m 57 ls []) := by
      intro H locs ls hHs hS hl
      subst hHs
      refine lv_iload_n (pc := 57) hx hb dX1_sheetsAt_57 rfl (lv_at hl 0 rfl) ?_
      obtain rfl := Option.some.inj hf
      rw [hQ]
      exact q_iretr (pc := 58) hx hb hr hlocks rfl hS dX1_sheetsAt_58
    have LP4 : ∀ (n4 : Nat) (v3 : Int32) (v4 : Int32) (H : Heap) (locs : List Loc) (ls : Array Slot), f_Box_sheetsAt_L4 bx_east bx_north bx_south bx_west g_bandRows g_rows g_zoneColumns p1 n4 v3 v4 = some v5 → H = s.heap → va_S A s.heap H locs → lv_has ls 6 [(0, .ref a_bx), (1, .int p1), (2, .int v3), (3, .int v4)] → W p l e ({ frames := 4, cells := 0, slots := 0, locals := 93 } : Room) s m ([.ref a_bx, .int p1] : List Value).toArray below meth c H locs 0 0 Q (F0 m 4 ls []) := by
      intro n4
      induction n4 with
      | zero => intro v3 v4 H locs ls hf; rw [f_Box_sheetsAt_L4] at hf; cases hf
      | succ n4 ih4 =>
        intro v3 v4 H locs ls hf hHs hS hl
        subst hHs
        rw [f_Box_sheetsAt_L4] at hf
        refine lv_iload_n (pc := 4) hx hb dX1_sheetsAt_4 rfl (lv_at hl 3 rfl) ?_
        refine lv_bipush (pc := 5) (v := 45) hx hb dX1_sheetsAt_5 (by decide) ?_
        refine q_icmp_gt (pc := 7) (tgt := 57) hx hb dX1_sheetsAt_7 (by decide) rfl hf (fun hf => ?_) (fun hf => ?_)
        · obtain rfl := Option.some.inj hf
          exact JE4 _ _ _ rfl hS (lv_sub hl [2] rfl)
        · refine lv_aload_n (pc := 10) hx hb dX1_sheetsAt_10 rfl (lv_at hl 0 rfl) ?_
          refine lv_iload_n (pc := 11) hx hb dX1_sheetsAt_11 rfl (lv_at hl 1 rfl) ?_
          refine lv_iload_n (pc := 12) hx hb dX1_sheetsAt_12 rfl (lv_at hl 3 rfl) ?_
          obtain ⟨v6, hm13, hf⟩ := q_b1_e hf
          refine q_cVr (pc := 13) (As := [.int p1, .int v4]) (rest := []) (v0 := (some (.int v6))) ⟨hx, hb, hml, hown, hts⟩ hK hA hZ hP hD hS hl.1 [0, 1, 2, 4] 5 rfl ⟨rfl, rfl, rfl⟩ (c_Box_beltTop l D ci A sa N (Rw) a_bx a_g a_g_rowCuts a_g_columnCuts a_g_bandRows a_g_zoneColumns a_g_rows a_g_sheets bx_south bx_north bx_west bx_east g_bandRows g_rows p1 v4 v6 hm13) 0 rfl rfl (cwV 2 hts gX1_sheetsAt_X1_beltTop rfl rfl rfl (by decide +kernel) ⟨Nat.le_of_ble_eq_true rfl, Nat.le_of_ble_eq_true rfl⟩) rfl rfl (Nat.le_of_ble_eq_true rfl) dX1_sheetsAt_13 ⟨Nat.zero_le _, Nat.zero_le _⟩ (fun locs hS => ?_)
          refine lv_istore (pc := 16) (lv' := [(4, .int v6), (0, .ref a_bx), (1, .int p1), (2, .int v3), (3, .int v4)]) hx hb dX1_sheetsAt_16 hl (by decide) rfl (fun ls hl => ?_)
          refine lv_aload_n (pc := 18) hx hb dX1_sheetsAt_18 rfl (lv_at hl 1 rfl) ?_
          refine lv_iload_n (pc := 19) hx hb dX1_sheetsAt_19 rfl (lv_at hl 2 rfl) ?_
          refine lv_iload_n (pc := 20) hx hb dX1_sheetsAt_20 rfl (lv_at hl 4 rfl) ?_
          obtain ⟨v7, hm21, hf⟩ := q_b1_e hf
          refine q_cVr (pc := 21) (As := [.int p1, .int v4]) (rest := []) (v0 := (some (.int v7))) ⟨hx, hb, hml, hown, hts⟩ hK hA hZ hP hD hS hl.1 [0, 1, 2, 4] 5 rfl ⟨rfl, rfl, rfl⟩ (c_Box_beltBottom l D ci A sa N (Rw) a_bx a_g a_g_rowCuts a_g_columnCuts a_g_bandRows a_g_zoneColumns a_g_rows a_g_sheets bx_south bx_north bx_west bx_east g_bandRows g_rows p1 v4 v7 hm21) 0 rfl rfl (cwV 2 hts gX1_sheetsAt_X1_beltBottom rfl rfl rfl (by decide +kernel) ⟨Nat.le_of_ble_eq_true rfl, Nat.le_of_ble_eq_true rfl⟩) rfl rfl (Nat.le_of_ble_eq_true rfl) dX1_sheetsAt_21 ⟨Nat.zero_le _, Nat.zero_le _⟩ (fun locs hS => ?_)
          refine lv_istore (pc := 24) (lv' := [(5, .int v7), (4, .int v6), (0, .ref a_bx), (1, .int p1), (2, .int v3), (3, .int v4)]) hx hb dX1_sheetsAt_24 hl (by decide) rfl (fun ls hl => ?_)
          refine lv_iload (pc := 26) hx hb dX1_sheetsAt_26 (lv_at hl 1 rfl) ?_
          refine lv_iload (pc := 28) hx hb dX1_sheetsAt_28 (lv_at hl 0 rfl) ?_
          obtain ⟨k51, ek51, hf⟩ := q_j1_e hf
          have J51 : ∀ (v8 : Int32) (H : Heap) (locs : List Loc) (ls : Array Slot), k51 v8 = some v5 → H = s.heap → va_S A s.heap H locs → lv_has ls 6 [(0, .ref a_bx), (1, .int p1), (2, .int v8), (3, .int v4)] → W p l e ({ frames := 4, cells := 0, slots := 0, locals := 93 } : Room) s m ([.ref a_bx, .int p1] : List Value).toArray below meth c H locs 0 0 Q (F0 m 51 ls []) := by
            intro v8 H locs ls hf hHs hS hl
            subst hHs
            have hf := (ek51 v8).symm.trans hf
            obtain ⟨v9, ev9, hf⟩ := q_nm_e hf
            refine lv_iinc (pc := 51) (v := v9) (lv' := [(3, .int v9), (0, .ref a_bx), (1, .int p1), (2, .int v8)]) hx hb dX1_sheetsAt_51 hl (k := 3) rfl (by rw [ev9]; rfl) (by decide) rfl (fun ls hl => ?_)
            refine lv_goto (pc := 54) (tgt := 4) hx hb dX1_sheetsAt_54 (by decide) ?_
            exact ih4 v8 v9 _ _ _ hf rfl hS (lv_sub hl [1, 2, 3, 0] rfl)
          refine q_icmp_gt (pc := 30) (tgt := 51) hx hb dX1_sheetsAt_30 (by decide) rfl hf (fun hf => ?_) (fun hf => ?_)
          · exact J51 v3 _ _ _ hf rfl hS (lv_sub hl [2, 3, 4, 5] rfl)
          · refine lv_iload_n (pc := 33) hx hb dX1_sheetsAt_33 rfl (lv_at hl 4 rfl) ?_
            refine lv_iload (pc := 34) hx hb dX1_sheetsAt_34 (lv_at hl 0 rfl) ?_
            refine lv_iload (pc := 36) hx hb dX1_sheetsAt_36 (lv_at hl 1 rfl) ?_
            refine lv_isub (pc := 38) hx hb dX1_sheetsAt_38 ?_
            refine lv_iconst (pc := 39) (v := 1) hx hb dX1_sheetsAt_39 (by decide) ?_
            refine lv_iadd (pc := 40) hx hb dX1_sheetsAt_40 ?_
            refine lv_aload_n (pc := 41) hx hb dX1_sheetsAt_41 rfl (lv_at hl 2 rfl) ?_
            refine lv_iload_n (pc := 42) hx hb dX1_sheetsAt_42 rfl (lv_at hl 3 rfl) ?_
            refine lv_iload (pc := 43) hx hb dX1_sheetsAt_43 (lv_at hl 1 rfl) ?_
            obtain ⟨v10, hm45, hf⟩ := q_b1_e hf
            refine q_cVr (pc := 45) (As := [.int p1, .int v6]) (rest := [.int ((v7 - v6) + 1), .int v3]) (v0 := (some (.int v10))) ⟨hx, hb, hml, hown, hts⟩ hK hA hZ hP hD hS hl.1 [0, 1, 2, 3, 4] 5 rfl ⟨rfl, rfl, rfl⟩ (c_Box_inRow l D ci A sa N (Rw) a_bx a_g a_g_rowCuts a_g_columnCuts a_g_bandRows a_g_zoneColumns a_g_rows a_g_sheets bx_south bx_north bx_west bx_east g_bandRows g_zoneColumns g_rows p1 v6 v10 hm45) 0 rfl rfl (cwV 2 hts gX1_sheetsAt_X1_inRow rfl rfl rfl (by decide +kernel) ⟨Nat.le_of_ble_eq_true rfl, Nat.le_of_ble_eq_true rfl⟩) rfl rfl (Nat.le_of_ble_eq_true rfl) dX1_sheetsAt_45 ⟨Nat.zero_le _, Nat.zero_le _⟩ (fun locs hS => ?_)
            refine lv_imul (pc := 48) hx hb dX1_sheetsAt_48 ?_
            refine lv_iadd (pc := 49) hx hb dX1_sheetsAt_49 ?_
            obtain ⟨v11, ev11, hf⟩ := q_nm_e hf
            refine q_topi ev11 ?_
            refine lv_istore_n (pc := 50) (lv' := [(2, .int v11), (5, .int v7), (4, .int v6), (0, .ref a_bx), (1, .int p1), (3, .int v4)]) hx hb dX1_sheetsAt_50 rfl hl (by decide) rfl (fun ls hl => ?_)
            exact J51 v11 _ _ _ hf rfl hS (lv_sub hl [3, 4, 0, 5] rfl)
    exact LP4 N v1 v2 _ _ _ hm4 rfl hS (lv_sub hl [2, 3, 1, 0] rfl)
  exact hgo _ _ rfl hP hS
end
section
/-! X4_add -/
set_option maxRecDepth 100000 in
set_option maxHeartbeats 4000000 in
theorem c_NameText_add (l : Launch) (D : va_G) (ci : Nat → ClassId) (A : Nat → Prop) (sa : Nat → Nat) (N : Nat) (Rw : va_W) (a_nt : Nat) (a_nt_bytes : Nat) (nt_length : Int32) (nt_bytes : Nat → Int32) (p1 : Int32) (o1 : Nat → Int32) (o2 : Int32) (hf : f_NameText_add nt_bytes nt_length p1 = some (o1, o2)) : Met l yX4_add wsX4_add ({ frames := 0, cells := 0, slots := 0, locals := 0 }) (va_Pc [.ref a_nt, .int p1] (q_N D ci A sa ((a_nt, .inr (4, [.ref a_nt_bytes, .int nt_length])) :: (a_nt_bytes, .inl (ci 0, 40, .inl nt_bytes)) :: Rw))) (q_Q none (q_O D A ((a_nt, .inr (4, [.ref a_nt_bytes, .int o2])) :: (a_nt_bytes, .inl (ci 0, 40, .inl o1)) :: Rw)) A) 0 0 A := by
  refine q_ofW (cc := cX4_add) (maxL := 2) (ret := none) [.ref a_nt, .int p1] (plainFor_of_name (by decide)) rfl (Nat.le_of_ble_eq_true rfl) ?_
  intro p e s m below meth c ls Q hQ hx hb hml hr hts hown hlocks hK hA hZ hP hD hS hl
  have hl : lv_has ls 2 [(0, .ref a_nt), (1, .int p1)] := hl
  have hown : s.vm.findClass RX4 = some m.cls := hown
  have hinX4 : ∀ w ∈ wsX40, w ∈ wsX4_add := fun _ h => List.mem_cons_of_mem _ (inWX40 _ h)
  have w_1 := hts (Cond.fieldLink RX4 15 "SheetNames$NameText" "length" "I") (List.mem_cons_of_mem _ t_w834)
  have w_2 := hts (Cond.fieldLink RX4 9 "SheetNames$NameText" "bytes" "[I") (List.mem_cons_of_mem _ t_w835)
  unfold f_NameText_add at hf
  have hgo : ∀ (H : Heap) (locs : List Loc), H = s.heap → va_P D vwCl ((a_nt, .inr (4, [.ref a_nt_bytes, .int nt_length])) :: (a_nt_bytes, .inl (ci 0, 40, .inl nt_bytes)) :: Rw) H → va_S A s.heap H locs → W p l e ({ frames := 0, cells := 0, slots := 0, locals := 0 } : Room) s m ([.ref a_nt, .int p1] : List Value).toArray below meth c H locs 0 0 Q (F0 m 0 ls []) := by
    intro H locs hH hP hS
    refine lv_aload_n (pc := 0) hx hb dX4_add_0 rfl (lv_at hl 0 rfl) ?_
    refine va_get (pc := 1) (D := D) (ci := 4) (v := .int nt_length) (C := RX4) (T := TX4) (N := 2) hx hb hts hinX4 hown hK hP 0 rfl rfl 1 (by decide) w_1 (fun _ h9 => h9) rfl dX4_add_1 ?_
    refine lv_aload_n (pc := 4) hx hb dX4_add_4 rfl (lv_at hl 0 rfl) ?_
    refine va_get (pc := 5) (D := D) (ci := 4) (v := .ref a_nt_bytes) (C := RX4) (T := TX4) (N := 2) hx hb hts hinX4 hown hK hP 0 rfl rfl 0 (by decide) w_2 (fun _ h9 => h9) rfl dX4_add_5 ?_
    refine va_alen (pc := 8) (v := 40) hx hb hK hP 1 0 rfl rfl rfl dX4_add_8 ?_
    refine q_icmp_ge (pc := 9) (tgt := 32) hx hb dX4_add_9 (by decide) rfl hf (fun hf => ?_) (fun hf => ?_)
    · obtain ⟨rfl, rfl⟩ := q_inj2 (Option.some.inj hf)
      rw [hQ]
      exact q_vret (pc := 32) hx hb hr hlocks hP hD hS dX4_add_32
    · refine lv_aload_n (pc := 12) hx hb dX4_add_12 rfl (lv_at hl 0 rfl) ?_
      refine va_get (pc := 13) (D := D) (ci := 4) (v := .ref a_nt_bytes) (C := RX4) (T := TX4) (N := 2) hx hb hts hinX4 hown hK hP 0 rfl rfl 0 (by decide) w_2 (fun _ h9 => h9) rfl dX4_add_13 ?_
      refine lv_aload_n (pc := 16) hx hb dX4_add_16 rfl (lv_at hl 0 rfl) ?_
      refine va_get (pc := 17) (D := D) (ci := 4) (v := .int nt_length) (C := RX4) (T := TX4) (N := 2) hx hb hts hinX4 hown hK hP 0 rfl rfl 1 (by decide) w_1 (fun _ h9 => h9) rfl dX4_add_17 ?_
      refine lv_iload_n (pc := 20) hx hb dX4_add_20 rfl (lv_at hl 1 rfl) ?_
      refine q_iast (pc := 21) hx hb hK hP hD hS 1 0 hf rfl rfl dX4_add_21 (fun f1 H locs hf hP hD hS => ?_)
      obtain ⟨hP, hD⟩ : va_PD D A ((a_nt, .inr (4, [.ref a_nt_bytes, .int nt_length])) :: (a_nt_bytes, .inl (ci 0, 40, .inl f1)) :: Rw) H := ⟨hP, hD⟩
      refine lv_aload_n (pc := 22) hx hb dX4_add_22 rfl (lv_at hl 0 rfl) ?_
      refine lv_dup (pc := 23) hx hb dX4_add_23 rfl ?_
      refine va_get (pc := 24) (D := D) (ci := 4) (v := .int nt_length) (C := RX4) (T := TX4) (N := 2) hx hb hts hinX4 hown hK hP 0 rfl rfl 1 (by decide) w_1 (fun _ h9 => h9) rfl dX4_add_24 ?_
      refine lv_iconst (pc := 27) (v := 1) hx hb dX4_add_27 (by decide) ?_
      refine lv_iadd (pc := 28) hx hb dX4_add_28 ?_
      obtain ⟨v2, ev2, hf⟩ := q_nm_e hf
      refine q_topi ev2 ?_
      refine va_put (pc := 29) (D := D) (ci := 4) (v := .int v2) (ty := .int) (C := RX4) (T := TX4) (N := 2) hx hb hts hinX4 tyX4 tyX4_ok nmX4 hown hK hP hD hS 0 rfl rfl 1 (by decide) w_1 (fun _ h9 => h9) rfl (by decide +kernel) rfl rfl (Nat.le_of_ble_eq_true rfl) dX4_add_29 (fun H locs hP hD hS => ?_)
      obtain ⟨hP, hD⟩ : va_PD D A ((a_nt, .inr (4, [.ref a_nt_bytes, .int v2])) :: (a_nt_bytes, .inl (ci 0, 40, .inl f1)) :: Rw) H := ⟨hP, hD⟩
      obtain ⟨rfl, rfl⟩ := q_inj2 (Option.some.inj hf)
      rw [hQ]
      exact q_vret (pc := 32) hx hb hr hlocks hP hD hS dX4_add_32
  exact hgo _ _ rfl hP hS
/-! X4_addNumber -/
set_option maxRecDepth 100000 in
set_option maxHeartbeats 4000000 in
theorem c_NameText_addNumber (l : Launch) (D : va_G) (ci : Nat → ClassId) (A : Nat → Prop) (sa : Nat → Nat) (N : Nat) (Rw : va_W) (a_nt : Nat) (a_nt_bytes : Nat) (nt_length : Int32) (nt_bytes : Nat → Int32) (p1 : Int32) (o1 : Nat → Int32) (o2 : Int32) (hf : f_NameText_addNumber nt_bytes nt_length p1 = some (o1, o2)) : Met l yX4_addNumber wsX4_addNumber ({ frames := 1, cells := 0, slots := 0, locals := 21 }) (va_Pc [.ref a_nt, .int p1] (q_N D ci A sa ((a_nt, .inr (4, [.ref a_nt_bytes, .int nt_length])) :: (a_nt_bytes, .inl (ci 0, 40, .inl nt_bytes)) :: Rw))) (q_Q none (q_O D A ((a_nt, .inr (4, [.ref a_nt_bytes, .int o2])) :: (a_nt_bytes, .inl (ci 0, 40, .inl o1)) :: Rw)) A) 0 0 A := by
  refine q_ofW (cc := cX4_addNumber) (maxL := 2) (ret := none) [.ref a_nt, .int p1] (plainFor_of_name (by decide)) rfl (Nat.le_of_ble_eq_true rfl) ?_
  intro p e s m below meth c ls Q hQ hx hb hml hr hts hown hlocks hK hA hZ hP hD hS hl
  have hl : lv_has ls 2 [(0, .ref a_nt), (1, .int p1)] := hl
  have hown : s.vm.findClass RX4 = some m.cls := hown
  unfold f_NameText_addNumber at hf
  have hgo : ∀ (H : Heap) (locs : List Loc), H = s.heap → va_P D vwCl ((a_nt, .inr (4, [.ref a_nt_bytes, .int nt_length])) :: (a_nt_bytes, .inl (ci 0, 40, .inl nt_bytes)) :: Rw) H → va_S A s.heap H locs → W p l e ({ frames := 1, cells := 0, slots := 0, locals := 21 } : Room) s m ([.ref a_nt, .int p1] : List Value).toArray below meth c H locs 0 0 Q (F0 m 0 ls []) := by
    intro H locs hH hP hS
    refine lv_iload_n (pc := 0) hx hb dX4_addNumber_0 rfl (lv_at hl 1 rfl) ?_
    refine lv_bipush (pc := 1) (v := 10) hx hb dX4_addNumber_1 (by decide) ?_
    obtain ⟨k17, ek17, hf⟩ := q_j2_e hf
    have J17 : ∀ (f1 : Nat → Int32) (v2 : Int32) (H : Heap) (locs : List Loc) (ls : Array Slot), k17 f1 v2 = some (o1, o2) → va_P D vwCl ((a_nt, .inr (4, [.ref a_nt_bytes, .int v2])) :: (a_nt_bytes, .inl (ci 0, 40, .inl f1)) :: Rw) H → va_D A ((a_nt, .inr (4, [.ref a_nt_bytes, .int v2])) :: (a_nt_bytes, .inl (ci 0, 40, .inl f1)) :: Rw) → va_S A s.heap H locs → lv_has ls 2 [(0, .ref a_nt), (1, .int p1)] → W p l e ({ frames := 1, cells := 0, slots := 0, locals := 21 } : Room) s m ([.ref a_nt, .int p1] : List Value).toArray below meth c H locs 0 0 Q (F0 m 17 ls []) := by
      intro f1 v2 H locs ls hf hP hD hS hl
      have hf := (ek17 f1 v2).symm.trans hf
      refine lv_aload_n (pc := 17) hx hb dX4_addNumber_17 rfl (lv_at hl 0 rfl) ?_
      refine lv_bipush (pc := 18) (v := 48) hx hb dX4_addNumber_18 (by decide) ?_
      refine lv_iload_n (pc := 20) hx hb dX4_addNumber_20 rfl (lv_at hl 1 rfl) ?_
      refine lv_bipush (pc := 21) (v := 10) hx hb dX4_addNumber_21 (by decide) ?_
      refine q_irem (pc := 23) hx hb dX4_addNumber_23 hf (fun v3 hf => ?_)
      refine lv_iadd (pc := 24) hx hb dX4_addNumber_24 ?_
      obtain ⟨f4, v5, hm25, hf⟩ := q_b2_e hf
      refine q_cV (pc := 25) (As := [.int (48 + v3)]) (rest := []) (v0 := none) ⟨hx, hb, hml, hown, hts⟩ hK hA hZ hP hD hS hl.1 [0, 1] 2 rfl ⟨rfl, rfl, rfl⟩ (c_NameText_add l D ci A sa N (Rw) a_nt a_nt_bytes v2 f1 (48 + v3) f4 v5 hm25) 0 rfl rfl (cwV 1 hts gX4_addNumber_X4_add rfl rfl rfl (by decide +kernel) ⟨Nat.le_of_ble_eq_true rfl, Nat.le_of_ble_eq_true rfl⟩) rfl rfl (Nat.le_of_ble_eq_true rfl) dX4_addNumber_25 ⟨Nat.zero_le _, Nat.zero_le _⟩ [0, 1] 2 rfl ⟨rfl, rfl, rfl⟩ (fun H locs hP hD hS => ?_)
      obtain ⟨hP, hD⟩ : va_PD D A ((a_nt, .inr (4, [.ref a_nt_bytes, .int v5])) :: (a_nt_bytes, .inl (ci 0, 40, .inl f4)) :: Rw) H := ⟨hP, hD⟩
      obtain ⟨rfl, rfl⟩ := q_inj2 (Option.some.inj hf)
      rw [hQ]
      exact q_vret (pc := 28) hx hb hr hlocks hP hD hS dX4_addNumber_28
    refine q_icmp_lt (pc := 3) (tgt := 17) hx hb dX4_addNumber_3 (by decide) rfl hf (fun hf => ?_) (fun hf => ?_)
    · exact J17 nt_bytes nt_length _ _ _ hf hP hD hS (lv_sub hl [0, 1] rfl)
    · refine lv_aload_n (pc := 6) hx hb dX4_addNumber_6 rfl (lv_at hl 0 rfl) ?_
      refine lv_bipush (pc := 7) (v := 48) hx hb dX4_addNumber_7 (by decide) ?_
      refine lv_iload_n (pc := 9) hx hb dX4_addNumber_9 rfl (lv_at hl 1 rfl) ?_
      refine lv_bipush (pc := 10) (v := 10) hx hb dX4_addNumber_10 (by decide) ?_
      refine q_idiv (pc := 12) hx hb dX4_addNumber_12 hf (fun v6 hf => ?_)
      refine lv_iadd (pc := 13) hx hb dX4_addNumber_13 ?_
      obtain ⟨f7, v8, hm14, hf⟩ := q_b2_e hf
      refine q_cV (pc := 14) (As := [.int (48 + v6)]) (rest := []) (v0 := none) ⟨hx, hb, hml, hown, hts⟩ hK hA hZ hP hD hS hl.1 [0, 1] 2 rfl ⟨rfl, rfl, rfl⟩ (c_NameText_add l D ci A sa N (Rw) a_nt a_nt_bytes nt_length nt_bytes (48 + v6) f7 v8 hm14) 0 rfl rfl (cwV 1 hts gX4_addNumber_X4_add rfl rfl rfl (by decide +kernel) ⟨Nat.le_of_ble_eq_true rfl, Nat.le_of_ble_eq_true rfl⟩) rfl rfl (Nat.le_of_ble_eq_true rfl) dX4_addNumber_14 ⟨Nat.zero_le _, Nat.zero_le _⟩ [0, 1] 2 rfl ⟨rfl, rfl, rfl⟩ (fun H locs hP hD hS => ?_)
      obtain ⟨hP, hD⟩ : va_PD D A ((a_nt, .inr (4, [.ref a_nt_bytes, .int v8])) :: (a_nt_bytes, .inl (ci 0, 40, .inl f7)) :: Rw) H := ⟨hP, hD⟩
      exact J17 f7 v8 _ _ _ hf hP hD hS (lv_sub hl [0, 1] rfl)
  exact hgo _ _ rfl hP hS
/-! X4_against -/
set_option maxRecDepth 100000 in
set_option maxHeartbeats 4000000 in
theorem c_NameText_against (l : Launch) (D : va_G) (ci : Nat → ClassId) (A : Nat → Prop) (sa : Nat → Nat) (N : Nat) (Rw : va_W) (a_nt : Nat) (a_nt_bytes : Nat) (a_nu : Nat) (a_nu_bytes : Nat) (nt_length : Int32) (nt_bytes : Nat → Int32) (nu_length : Int32) (nu_bytes : Nat → Int32) (r : Int32) (hf : f_NameText_against N nt_bytes nt_length nu_bytes nu_length = some r) : Met l yX4_against wsX4_against ({ frames := 1, cells := 0, slots := 0, locals := 40 }) (va_Pc [.ref a_nt, .ref a_nu] (q_N D ci A sa ((a_nt, .inr (4, [.ref a_nt_bytes, .int nt_length])) :: (a_nt_bytes, .inl (ci 0, 40, .inl nt_bytes)) :: (a_nu, .inr (4, [.ref a_nu_bytes, .int nu_length])) :: (a_nu_bytes, .inl (ci 0, 40, .inl nu_bytes)) :: Rw))) (q_R (some (.int r))) 0 0 A := by
  refine q_ofW (cc := cX4_against) (maxL := 4) (ret := (some .int)) [.ref a_nt, .ref a_nu] (plainFor_of_name (by decide)) rfl (Nat.le_of_ble_eq_true rfl) ?_
  intro p e s m below meth c ls Q hQ hx hb hml hr hts hown hlocks hK hA hZ hP hD hS hl
  have hl : lv_has ls 4 [(0, .ref a_nt), (1, .ref a_nu)] := hl
  have hown : s.vm.findClass RX4 = some m.cls := hown
  have hinX4 : ∀ w ∈ wsX40, w ∈ wsX4_against := fun _ h => List.mem_cons_of_mem _ (inWX40 _ h)
  have w_1 := hts (Cond.fieldLink RX4 15 "SheetNames$NameText" "length" "I") (List.mem_cons_of_mem _ t_w834)
  have w_2 := hts (Cond.methodLink RX4 46 Lib.Math.min.name) (List.mem_cons_of_mem _ t_w836)
  have w_3 := hts (Cond.static Lib.Math.min.name) (List.mem_cons_of_mem _ t_w810)
  have w_4 := hts (Cond.initialized "java/lang/Math") (List.mem_cons_of_mem _ t_w76)
  have w_5 := hts (Cond.code Lib.Math.min.name Lib.Math.min.code 2 (some .int)) (List.mem_cons_of_mem _ t_w811)
  have w_6 := hts (Cond.fieldLink RX4 9 "SheetNames$NameText" "bytes" "[I") (List.mem_cons_of_mem _ t_w835)
  unfold f_NameText_against at hf
  have hgo : ∀ (H : Heap) (locs : List Loc), H = s.heap → va_P D vwCl ((a_nt, .inr (4, [.ref a_nt_bytes, .int nt_length])) :: (a_nt_bytes, .inl (ci 0, 40, .inl nt_bytes)) :: (a_nu, .inr (4, [.ref a_nu_bytes, .int nu_length])) :: (a_nu_bytes, .inl (ci 0, 40, .inl nu_bytes)) :: Rw) H → va_S A s.heap H locs → W p l e ({ frames := 1, cells := 0, slots := 0, locals := 40 } : Room) s m ([.ref a_nt, .ref a_nu] : List Value).toArray below meth c H locs 0 0 Q (F0 m 0 ls []) := by
    intro H locs hH hP hS
    subst hH
    refine lv_aload_n (pc := 0) hx hb dX4_against_0 rfl (lv_at hl 0 rfl) ?_
    refine va_get (pc := 1) (D := D) (ci := 4) (v := .int nt_length) (C := RX4) (T := TX4) (N := 2) hx hb hts hinX4 hown hK hP 0 rfl rfl 1 (by decide) w_1 (fun _ h9 => h9) rfl dX4_against_1 ?_
    refine lv_aload_n (pc := 4) hx hb dX4_against_4 rfl (lv_at hl 1 rfl) ?_
    refine va_get (pc := 5) (D := D) (ci := 4) (v := .int nu_length) (C := RX4) (T := TX4) (N := 2) hx hb hts hinX4 hown hK hP 2 rfl rfl 1 (by decide) w_1 (fun _ h9 => h9) rfl dX4_against_5 ?_
    obtain ⟨v1, ev1, hf⟩ := q_nm_e hf
    refine va_mmin (pc := 8) hx hb (hml.trans hl.1.symm) hown w_2 w_3 w_4 w_5 (Nat.le_of_ble_eq_true rfl) (Nat.le_of_ble_eq_true rfl) (Nat.zero_le _) (Nat.zero_le _) dX4_against_8 ?_
    refine q_topi ev1 ?_
    refine lv_istore_n (pc := 11) (lv' := [(2, .int v1), (0, .ref a_nt), (1, .ref a_nu)]) hx hb dX4_against_11 rfl hl (by decide) rfl (fun ls hl => ?_)
    refine lv_iconst (pc := 12) (v := 0) hx hb dX4_against_12 (by decide) ?_
    obtain ⟨v2, ev2, hf⟩ := q_nm_e hf
    refine q_topi ev2 ?_
    refine lv_istore_n (pc := 13) (lv' := [(3, .int v2), (2, .int v1), (0, .ref a_nt), (1, .ref a_nu)]) hx hb dX4_against_13 rfl hl (by decide) rfl (fun ls hl => ?_)
    obtain ⟨k14, o14_, ek14, hm14, hk14⟩ := q_s0_k hf
    have JE14 : ∀  (H : Heap) (locs : List Loc) (ls : Array Slot), k14 = some r → H = s.heap → va_S A s.heap H locs → lv_has ls 4 [(0, .ref a_nt), (1, .ref a_nu)] → W p l e ({ frames := 1, cells := 0, slots := 0, locals := 40 } : Room) s m ([.ref a_nt, .ref a_nu] : List Value).toArray below meth c H locs 0 0 Q (F0 m 56 ls []) := by
      intro  H locs ls hf hHs hS hl
      subst hHs
      have hf := (ek14).symm.trans hf
      refine lv_aload_n (pc := 56) hx hb dX4_against_56 rfl (lv_at hl 0 rfl) ?_
      refine va_get (pc := 57) (D := D) (ci := 4) (v := .int nt_length) (C := RX4) (T := TX4) (N := 2) hx hb hts hinX4 hown hK hP 0 rfl rfl 1 (by decide) w_1 (fun _ h9 => h9) rfl dX4_against_57 ?_
      refine lv_aload_n (pc := 60) hx hb dX4_against_60 rfl (lv_at hl 1 rfl) ?_
      refine va_get (pc := 61) (D := D) (ci := 4) (v := .int nu_length) (C := RX4) (T := TX4) (N := 2) hx hb hts hinX4 hown hK hP 2 rfl rfl 1 (by decide) w_1 (fun _ h9 => h9) rfl dX4_against_61 ?_
      obtain ⟨v4, hm64, hf⟩ := q_b1_e hf
      refine q_cSr (pc := 64) (As := [.int nt_length, .int nu_length]) (rest := []) (v0 := (some (.int v4))) ⟨hx, hb, hml, hown, hts⟩ hK hA hZ hP hD hS hl.1 [] 4 rfl ⟨rfl, rfl, rfl⟩ (c_JInteger_compare_7cf53 l D ci A sa N (Rw) nt_length nu_length v4 hm64) (va_cwS 2 hts gX4_against_J6_compare_7cf53 rfl rfl rfl (by decide +kernel) ⟨Nat.le_of_ble_eq_true rfl, Nat.le_of_ble_eq_true rfl⟩) rfl rfl (Nat.le_of_ble_eq_true rfl) dX4_against_64 ⟨Nat.zero_le _, Nat.zero_le _⟩ (fun locs hS => ?_)
      obtain rfl := Option.some.inj hf
      rw [hQ]
      exact q_iretr (pc := 67) hx hb hr hlocks rfl hS dX4_against_67
    have LP14 : ∀ (n14 : Nat) (v3 : Int32) (H : Heap) (locs : List Loc) (ls : Array Slot), f_NameText_against_L14 nt_bytes nu_bytes v1 n14 v3 = some o14_ → H = s.heap → va_S A s.heap H locs → lv_has ls 4 [(0, .ref a_nt), (1, .ref a_nu), (2, .int v1), (3, .int v3)] → W p l e ({ frames := 1, cells := 0, slots := 0, locals := 40 } : Room) s m ([.ref a_nt, .ref a_nu] : List Value).toArray below meth c H locs 0 0 Q (F0 m 14 ls []) := by
      intro n14
      induction n14 with
      | zero => intro v3 H locs ls hf; rw [f_NameText_against_L14] at hf; cases hf
      | succ n14 ih14 =>
        intro v3 H locs ls hf hHs hS hl
        subst hHs
        rw [f_NameText_against_L14] at hf
        refine lv_iload_n (pc := 14) hx hb dX4_against_14 rfl (lv_at hl 3 rfl) ?_
        refine lv_iload_n (pc := 15) hx hb dX4_against_15 rfl (lv_at hl 2 rfl) ?_
        refine q_icmp_ge (pc := 16) (tgt := 56) hx hb dX4_against_16 (by decide) rfl hf (fun hf => ?_) (fun hf => ?_)
        · obtain rfl := Option.some.inj hf
          exact JE14  _ _ _ hk14 rfl hS (lv_sub hl [0, 1] rfl)
        · refine lv_aload_n (pc := 19) hx hb dX4_against_19 rfl (lv_at hl 0 rfl) ?_
          refine va_get (pc := 20) (D := D) (ci := 4) (v := .ref a_nt_bytes) (C := RX4) (T := TX4) (N := 2) hx hb hts hinX4 hown hK hP 0 rfl rfl 0 (by decide) w_6 (fun _ h9 => h9) rfl dX4_against_20 ?_
          refine lv_iload_n (pc := 23) hx hb dX4_against_23 rfl (lv_at hl 3 rfl) ?_
          refine q_iald (pc := 24) hx hb hK hP 1 0 hf rfl rfl dX4_against_24 (fun v5 hf => ?_)
          refine lv_aload_n (pc := 25) hx hb dX4_against_25 rfl (lv_at hl 1 rfl) ?_
          refine va_get (pc := 26) (D := D) (ci := 4) (v := .ref a_nu_bytes) (C := RX4) (T := TX4) (N := 2) hx hb hts hinX4 hown hK hP 2 rfl rfl 0 (by decide) w_6 (fun _ h9 => h9) rfl dX4_against_26 ?_
          refine lv_iload_n (pc := 29) hx hb dX4_against_29 rfl (lv_at hl 3 rfl) ?_
          refine q_iald (pc := 30) hx hb hK hP 3 0 hf rfl rfl dX4_against_30 (fun v6 hf => ?_)
          refine q_icmp_eq (pc := 31) (tgt := 50) hx hb dX4_against_31 (by decide) rfl hf (fun hf => ?_) (fun hf => ?_)
          · obtain ⟨v7, ev7, hf⟩ := q_nm_e hf
            refine lv_iinc (pc := 50) (v := v7) (lv' := [(3, .int v7), (0, .ref a_nt), (1, .ref a_nu), (2, .int v1)]) hx hb dX4_against_50 hl (k := 3) rfl (by rw [ev7]; rfl) (by decide) rfl (fun ls hl => ?_)
            refine lv_goto (pc := 53) (tgt := 14) hx hb dX4_against_53 (by decide) ?_
            exact ih14 v7 _ _ _ hf rfl hS (lv_sub hl [1, 2, 3, 0] rfl)
          · refine lv_aload_n (pc := 34) hx hb dX4_against_34 rfl (lv_at hl 0 rfl) ?_
            refine va_get (pc := 35) (D := D) (ci := 4) (v := .ref a_nt_bytes) (C := RX4) (T := TX4) (N := 2) hx hb hts hinX4 hown hK hP 0 rfl rfl 0 (by decide) w_6 (fun _ h9 => h9) rfl dX4_against_35 ?_
            refine lv_iload_n (pc := 38) hx hb dX4_against_38 rfl (lv_at hl 3 rfl) ?_
            refine q_iald (pc := 39) hx hb hK hP 1 0 hf rfl rfl dX4_against_39 (fun v8 hf => ?_)
            refine lv_aload_n (pc := 40) hx hb dX4_against_40 rfl (lv_at hl 1 rfl) ?_
            refine va_get (pc := 41) (D := D) (ci := 4) (v := .ref a_nu_bytes) (C := RX4) (T := TX4) (N := 2) hx hb hts hinX4 hown hK hP 2 rfl rfl 0 (by decide) w_6 (fun _ h9 => h9) rfl dX4_against_41 ?_
            refine lv_iload_n (pc := 44) hx hb dX4_against_44 rfl (lv_at hl 3 rfl) ?_
            refine q_iald (pc := 45) hx hb hK hP 3 0 hf rfl rfl dX4_against_45 (fun v9 hf => ?_)
            obtain ⟨v10, hm46, hf⟩ := q_b1_e hf
            refine q_cSr (pc := 46) (As := [.int v8, .int v9]) (rest := []) (v0 := (some (.int v10))) ⟨hx, hb, hml, hown, hts⟩ hK hA hZ hP hD hS hl.1 [] 4 rfl ⟨rfl, rfl, rfl⟩ (c_JInteger_compare_7cf53 l D ci A sa N (Rw) v8 v9 v10 hm46) (va_cwS 2 hts gX4_against_J6_compare_7cf53 rfl rfl rfl (by decide +kernel) ⟨Nat.le_of_ble_eq_true rfl, Nat.le_of_ble_eq_true rfl⟩) rfl rfl (Nat.le_of_ble_eq_true rfl) dX4_against_46 ⟨Nat.zero_le _, Nat.zero_le _⟩ (fun locs hS => ?_)
            obtain rfl := Option.some.inj hf
            have hk14 : (v10 : Int32) = r := hk14
            obtain rfl := hk14
            rw [hQ]
            exact q_iretr (pc := 49) hx hb hr hlocks rfl hS dX4_against_49
    exact LP14 N v2 _ _ _ hm14 rfl hS (lv_sub hl [2, 3, 1, 0] rfl)
  exact hgo _ _ rfl hP hS
/-! X4_write -/
set_option maxRecDepth 100000 in
set_option maxHeartbeats 4000000 in
theorem c_NameText_write (l : Launch) (D : va_G) (ci : Nat → ClassId) (A : Nat → Prop) (sa : Nat → Nat) (N : Nat) (Rw : va_W) (a_sp : Nat) (a_g : Nat) (a_sp_first : Nat) (a_sp_many : Nat) (a_sp_corner : Nat) (a_nt : Nat) (a_nt_bytes : Nat) (a_g_rowCuts : Nat) (a_g_columnCuts : Nat) (a_g_bandRows : Nat) (a_g_zoneColumns : Nat) (a_g_rows : Nat) (a_g_sheets : Nat) (sp_cornerCount : Int32) (sp_level : Int32) (sp_row : Int32) (sp_start : Int32) (sp_place : Int32) (sp_length : Int32) (sp_cap : Int32) (nt_length : Int32) (nt_bytes : Nat → Int32) (g_rowCuts : Nat → Int32) (g_columnCuts : Nat → Int32) (g_bandRows : Nat → Int32) (g_zoneColumns : Nat → Int32) (o1 : Nat → Int32) (o2 : Int32) (hf : f_NameText_write N sp_level sp_row sp_place sp_cap nt_bytes nt_length g_rowCuts g_columnCuts g_bandRows g_zoneColumns = some (o1, o2)) : Met l yX4_write wsX4_write ({ frames := 2, cells := 0, slots := 0, locals := 45 }) (va_Pc [.ref a_nt, .ref a_sp] (q_N D ci A sa ((a_sp, .inr (6, [.ref a_g, .ref a_sp_first, .ref a_sp_many, .ref a_sp_corner, .int sp_cornerCount, .int sp_level, .int sp_row, .int sp_start, .int sp_place, .int sp_length, .int sp_cap])) :: (a_nt, .inr (4, [.ref a_nt_bytes, .int nt_length])) :: (a_nt_bytes, .inl (ci 0, 40, .inl nt_bytes)) :: (a_g, .inr (2, [.ref a_g_rowCuts, .ref a_g_columnCuts, .ref a_g_bandRows, .ref a_g_zoneColumns, .ref a_g_rows, .ref a_g_sheets])) :: (a_g_rowCuts, .inl (ci 0, 5, .inl g_rowCuts)) :: (a_g_columnCuts, .inl (ci 0, 5, .inl g_columnCuts)) :: (a_g_bandRows, .inl (ci 0, 5, .inl g_bandRows)) :: (a_g_zoneColumns, .inl (ci 0, 5, .inl g_zoneColumns)) :: Rw))) (q_Q none (q_O D A ((a_sp, .inr (6, [.ref a_g, .ref a_sp_first, .ref a_sp_many, .ref a_sp_corner, .int sp_cornerCount, .int sp_level, .int sp_row, .int sp_start, .int sp_place, .int sp_length, .int sp_cap])) :: (a_nt, .inr (4, [.ref a_nt_bytes, .int o2])) :: (a_nt_bytes, .inl (ci 0, 40, .inl o1)) :: (a_g, .inr (2, [.ref a_g_rowCuts, .ref a_g_columnCuts, .ref a_g_bandRows, .ref a_g_zoneColumns, .ref a_g_rows, .ref a_g_sheets])) :: (a_g_rowCuts, .inl (ci 0, 5, .inl g_rowCuts)) :: (a_g_columnCuts, .inl (ci 0, 5, .inl g_columnCuts)) :: (a_g_bandRows, .inl (ci 0, 5, .inl g_bandRows)) :: (a_g_zoneColumns, .inl (ci 0, 5, .inl g_zoneColumns)) :: Rw)) A) 0 0 A := by
  refine q_ofW (cc := cX4_write) (maxL := 4) (ret := none) [.ref a_nt, .ref a_sp] (plainFor_of_name (by decide)) rfl (Nat.le_of_ble_eq_true rfl) ?_
  intro p e s m below meth c ls Q hQ hx hb hml hr hts hown hlocks hK hA hZ hP hD hS hl
  have hl : lv_has ls 4 [(0, .ref a_nt), (1, .ref a_sp)] := hl
  have hown : s.vm.findClass RX4 = some m.cls := hown
  have hinX4 : ∀ w ∈ wsX40, w ∈ wsX4_write := fun _ h => List.mem_cons_of_mem _ (inWX40 _ h)
  have hinX6 : ∀ w ∈ wsX60, w ∈ wsX4_write := fun _ h => List.mem_cons_of_mem _ (inWX60 _ h)
  have w_1 := hts (Cond.fieldLink RX4 15 "SheetNames$NameText" "length" "I") (List.mem_cons_of_mem _ t_w834)
  have wn_50 : (Cond.fieldLinkNest "SheetNames$NameText" 19 "SheetNames$Spot" "cap" "Z" "SheetNames").before ([.ref a_nt, .ref a_sp] : List Value).toArray s = true := (hZ.2.2.2.2.2.2.2.2.2.1 _ (List.mem_of_getElem? (i := 50) rfl)).use rfl
  have wn_51 : (Cond.fieldLinkNest "SheetNames$NameText" 25 "SheetNames$Spot" "row" "I" "SheetNames").before ([.ref a_nt, .ref a_sp] : List Value).toArray s = true := (hZ.2.2.2.2.2.2.2.2.2.1 _ (List.mem_of_getElem? (i := 51) rfl)).use rfl
  have wn_52 : (Cond.fieldLinkNest "SheetNames$NameText" 43 "SheetNames$Spot" "level" "I" "SheetNames").before ([.ref a_nt, .ref a_sp] : List Value).toArray s = true := (hZ.2.2.2.2.2.2.2.2.2.1 _ (List.mem_of_getElem? (i := 52) rfl)).use rfl
  unfold f_NameText_write at hf
  have hgo : ∀ (H : Heap) (locs : List Loc), H = s.heap → va_P D vwCl ((a_sp, .inr (6, [.ref a_g, .ref a_sp_first, .ref a_sp_many, .ref a_sp_corner, .int sp_cornerCount, .int sp_level, .int sp_row, .int sp_start, .int sp_place, .int sp_length, .int sp_cap])) :: (a_nt, .inr (4, [.ref a_nt_bytes, .int nt_length])) :: (a_nt_bytes, .inl (ci 0, 40, .inl nt_bytes)) :: (a_g, .inr (2, [.ref a_g_rowCuts, .ref a_g_columnCuts, .ref a_g_bandRows, .ref a_g_zoneColumns, .ref a_g_rows, .ref a_g_sheets])) :: (a_g_rowCuts, .inl (ci 0, 5, .inl g_rowCuts)) :: (a_g_columnCuts, .inl (ci 0, 5, .inl g_columnCuts)) :: (a_g_bandRows, .inl (ci 0, 5, .inl g_bandRows)) :: (a_g_zoneColumns, .inl (ci 0, 5, .inl g_zoneColumns)) :: Rw) H → va_S A s.heap H locs → W p l e ({ frames := 2, cells := 0, slots := 0, locals := 45 } : Room) s m ([.ref a_nt, .ref a_sp] : List Value).toArray below meth c H locs 0 0 Q (F0 m 0 ls []) := by
    intro H locs hH hP hS
    refine lv_aload_n (pc := 0) hx hb dX4_write_0 rfl (lv_at hl 0 rfl) ?_
    refine lv_iconst (pc := 1) (v := 0) hx hb dX4_write_1 (by decide) ?_
    refine va_put (pc := 2) (D := D) (ci := 4) (v := .int 0) (ty := .int) (C := RX4) (T := TX4) (N := 2) hx hb hts hinX4 tyX4 tyX4_ok nmX4 hown hK hP hD hS 1 rfl rfl 1 (by decide) w_1 (fun _ h9 => h9) rfl (by decide +kernel) rfl rfl (Nat.le_of_ble_eq_true rfl) dX4_write_2 (fun H locs hP hD hS => ?_)
    obtain ⟨hP, hD⟩ : va_PD D A ((a_sp, .inr (6, [.ref a_g, .ref a_sp_first, .ref a_sp_many, .ref a_sp_corner, .int sp_cornerCount, .int sp_level, .int sp_row, .int sp_start, .int sp_place, .int sp_length, .int sp_cap])) :: (a_nt, .inr (4, [.ref a_nt_bytes, .int 0])) :: (a_nt_bytes, .inl (ci 0, 40, .inl nt_bytes)) :: (a_g, .inr (2, [.ref a_g_rowCuts, .ref a_g_columnCuts, .ref a_g_bandRows, .ref a_g_zoneColumns, .ref a_g_rows, .ref a_g_sheets])) :: (a_g_rowCuts, .inl (ci 0, 5, .inl g_rowCuts)) :: (a_g_columnCuts, .inl (ci 0, 5, .inl g_columnCuts)) :: (a_g_bandRows, .inl (ci 0, 5, .inl g_bandRows)) :: (a_g_zoneColumns, .inl (ci 0, 5, .inl g_zoneColumns)) :: Rw) H := ⟨hP, hD⟩
    refine lv_aload_n (pc := 5) hx hb dX4_write_5 rfl (lv_at hl 1 rfl) ?_
    refine va_getN (pc := 6) (D := D) (ci := 6) (v := .int sp_cap) (C := RX6) (T := TX6) (N := 11) hx hb hts hinX6 hown hK hP 0 rfl rfl 10 (by decide) wn_50 (fun _ h9 => h9) rfl dX4_write_6 ?_
    refine q_if_eq (pc := 9) (tgt := 37) hx hb dX4_write_9 (by decide) rfl hf (fun hf => ?_) (fun hf => ?_)
    · refine lv_aload_n (pc := 37) hx hb dX4_write_37 rfl (lv_at hl 1 rfl) ?_
      obtain ⟨v1, hm38, hf⟩ := q_b1_e hf
      refine q_cVr (pc := 38) (As := []) (rest := []) (v0 := (some (.int v1))) ⟨hx, hb, hml, hown, hts⟩ hK hA hZ hP hD hS hl.1 [0, 3, 6] 8 rfl ⟨rfl, rfl, rfl⟩ (c_Spot_band l D ci A sa N (Rw) a_sp a_g a_sp_first a_sp_many a_sp_corner a_g_rowCuts a_g_columnCuts a_g_bandRows a_g_zoneColumns a_g_rows a_g_sheets sp_cornerCount sp_level sp_row sp_start sp_place sp_length sp_cap g_bandRows v1 hm38) 0 rfl rfl (cwV 0 hts gX4_write_X6_band rfl rfl rfl (by decide +kernel) ⟨Nat.le_of_ble_eq_true rfl, Nat.le_of_ble_eq_true rfl⟩) rfl rfl (Nat.le_of_ble_eq_true rfl) dX4_write_38 ⟨Nat.zero_le _, Nat.zero_le _⟩ (fun locs hS => ?_)
      refine lv_istore_n (pc := 41) (lv' := [(2, .int v1), (0, .ref a_nt), (1, .ref a_sp)]) hx hb dX4_write_41 rfl hl (by decide) rfl (fun ls hl => ?_)
      refine lv_aload_n (pc := 42) hx hb dX4_write_42 rfl (lv_at hl 1 rfl) ?_
      refine lv_iload_n (pc := 43) hx hb dX4_write_43 rfl (lv_at hl 0 rfl) ?_
      obtain ⟨k54, ek54, hf⟩ := q_j1_e hf
      have J54 : ∀ (v2 : Int32) (H : Heap) (locs : List Loc) (ls : Array Slot), k54 v2 = some (o1, o2) → va_P D vwCl ((a_sp, .inr (6, [.ref a_g, .ref a_sp_first, .ref a_sp_many, .ref a_sp_corner, .int sp_cornerCount, .int sp_level, .int sp_row, .int sp_start, .int sp_place, .int sp_length, .int sp_cap])) :: (a_nt, .inr (4, [.ref a_nt_bytes, .int 0])) :: (a_nt_bytes, .inl (ci 0, 40, .inl nt_bytes)) :: (a_g, .inr (2, [.ref a_g_rowCuts, .ref a_g_columnCuts, .ref a_g_bandRows, .ref a_g_zoneColumns, .ref a_g_rows, .ref a_g_sheets])) :: (a_g_rowCuts, .inl (ci 0, 5, .inl g_rowCuts)) :: (a_g_columnCuts, .inl (ci 0, 5, .inl g_columnCuts)) :: (a_g_bandRows, .inl (ci 0, 5, .inl g_bandRows)) :: (a_g_zoneColumns, .inl (ci 0, 5, .inl g_zoneColumns)) :: Rw) H → va_D A ((a_sp, .inr (6, [.ref a_g, .ref a_sp_first, .ref a_sp_many, .ref a_sp_corner, .int sp_cornerCount, .int sp_level, .int sp_row, .int sp_start, .int sp_place, .int sp_length, .int sp_cap])) :: (a_nt, .inr (4, [.ref a_nt_bytes, .int 0])) :: (a_nt_bytes, .inl (ci 0, 40, .inl nt_bytes)) :: (a_g, .inr (2, [.ref a_g_rowCuts, .ref a_g_columnCuts, .ref a_g_bandRows, .ref a_g_zoneColumns, .ref a_g_rows, .ref a_g_sheets])) :: (a_g_rowCuts, .inl (ci 0, 5, .inl g_rowCuts)) :: (a_g_columnCuts, .inl (ci 0, 5, .inl g_columnCuts)) :: (a_g_bandRows, .inl (ci 0, 5, .inl g_bandRows)) :: (a_g_zoneColumns, .inl (ci 0, 5, .inl g_zoneColumns)) :: Rw) → va_S A s.heap H locs → lv_has ls 4 [(0, .ref a_nt), (1, .ref a_sp), (2, .int v1)] → W p l e ({ frames := 2, cells := 0, slots := 0, locals := 45 } : Room) s m ([.ref a_nt, .ref a_sp] : List Value).toArray below meth c H locs 0 0 Q (F0 m 54 ls [.int v2, .ref a_nt]) := by
        intro v2 H locs ls hf hP hD hS hl
        have hf := (ek54 v2).symm.trans hf
        obtain ⟨f3, v4, hm54, hf⟩ := q_b2_e hf
        refine q_cV (pc := 54) (As := [.int v2]) (rest := []) (v0 := none) ⟨hx, hb, hml, hown, hts⟩ hK hA hZ hP hD hS hl.1 [1, 2, 0, 3, 4, 5, 6, 7] 8 rfl ⟨rfl, rfl, rfl⟩ (c_NameText_add l D ci A sa N ((a_sp, .inr (6, [.ref a_g, .ref a_sp_first, .ref a_sp_many, .ref a_sp_corner, .int sp_cornerCount, .int sp_level, .int sp_row, .int sp_start, .int sp_place, .int sp_length, .int sp_cap])) :: (a_g, .inr (2, [.ref a_g_rowCuts, .ref a_g_columnCuts, .ref a_g_bandRows, .ref a_g_zoneColumns, .ref a_g_rows, .ref a_g_sheets])) :: (a_g_rowCuts, .inl (ci 0, 5, .inl g_rowCuts)) :: (a_g_columnCuts, .inl (ci 0, 5, .inl g_columnCuts)) :: (a_g_bandRows, .inl (ci 0, 5, .inl g_bandRows)) :: (a_g_zoneColumns, .inl (ci 0, 5, .inl g_zoneColumns)) :: Rw) a_nt a_nt_bytes 0 nt_bytes v2 f3 v4 hm54) 1 rfl rfl (cwV 1 hts gX4_write_X4_add rfl rfl rfl (by decide +kernel) ⟨Nat.le_of_ble_eq_true rfl, Nat.le_of_ble_eq_true rfl⟩) rfl rfl (Nat.le_of_ble_eq_true rfl) dX4_write_54 ⟨Nat.zero_le _, Nat.zero_le _⟩ [2, 0, 1, 3, 4, 5, 6, 7] 8 rfl ⟨rfl, rfl, rfl⟩ (fun H locs hP hD hS => ?_)
        obtain ⟨hP, hD⟩ : va_PD D A ((a_sp, .inr (6, [.ref a_g, .ref a_sp_first, .ref a_sp_many, .ref a_sp_corner, .int sp_cornerCount, .int sp_level, .int sp_row, .int sp_start, .int sp_place, .int sp_length, .int sp_cap])) :: (a_nt, .inr (4, [.ref a_nt_bytes, .int v4])) :: (a_nt_bytes, .inl (ci 0, 40, .inl f3)) :: (a_g, .inr (2, [.ref a_g_rowCuts, .ref a_g_columnCuts, .ref a_g_bandRows, .ref a_g_zoneColumns, .ref a_g_rows, .ref a_g_sheets])) :: (a_g_rowCuts, .inl (ci 0, 5, .inl g_rowCuts)) :: (a_g_columnCuts, .inl (ci 0, 5, .inl g_columnCuts)) :: (a_g_bandRows, .inl (ci 0, 5, .inl g_bandRows)) :: (a_g_zoneColumns, .inl (ci 0, 5, .inl g_zoneColumns)) :: Rw) H := ⟨hP, hD⟩
        refine lv_aload_n (pc := 57) hx hb dX4_write_57 rfl (lv_at hl 0 rfl) ?_
        refine lv_bipush (pc := 58) (v := 65) hx hb dX4_write_58 (by decide) ?_
        refine lv_iload_n (pc := 60) hx hb dX4_write_60 rfl (lv_at hl 2 rfl) ?_
        obtain ⟨k71, ek71, hf⟩ := q_j1_e hf
        have J71 : ∀ (v5 : Int32) (H : Heap) (locs : List Loc) (ls : Array Slot), k71 v5 = some (o1, o2) → va_P D vwCl ((a_sp, .inr (6, [.ref a_g, .ref a_sp_first, .ref a_sp_many, .ref a_sp_corner, .int sp_cornerCount, .int sp_level, .int sp_row, .int sp_start, .int sp_place, .int sp_length, .int sp_cap])) :: (a_nt, .inr (4, [.ref a_nt_bytes, .int v4])) :: (a_nt_bytes, .inl (ci 0, 40, .inl f3)) :: (a_g, .inr (2, [.ref a_g_rowCuts, .ref a_g_columnCuts, .ref a_g_bandRows, .ref a_g_zoneColumns, .ref a_g_rows, .ref a_g_sheets])) :: (a_g_rowCuts, .inl (ci 0, 5, .inl g_rowCuts)) :: (a_g_columnCuts, .inl (ci 0, 5, .inl g_columnCuts)) :: (a_g_bandRows, .inl (ci 0, 5, .inl g_bandRows)) :: (a_g_zoneColumns, .inl (ci 0, 5, .inl g_zoneColumns)) :: Rw) H → va_D A ((a_sp, .inr (6, [.ref a_g, .ref a_sp_first, .ref a_sp_many, .ref a_sp_corner, .int sp_cornerCount, .int sp_level, .int sp_row, .int sp_start, .int sp_place, .int sp_length, .int sp_cap])) :: (a_nt, .inr (4, [.ref a_nt_bytes, .int v4])) :: (a_nt_bytes, .inl (ci 0, 40, .inl f3)) :: (a_g, .inr (2, [.ref a_g_rowCuts, .ref a_g_columnCuts, .ref a_g_bandRows, .ref a_g_zoneColumns, .ref a_g_rows, .ref a_g_sheets])) :: (a_g_rowCuts, .inl (ci 0, 5, .inl g_rowCuts)) :: (a_g_columnCuts, .inl (ci 0, 5, .inl g_columnCuts)) :: (a_g_bandRows, .inl (ci 0, 5, .inl g_bandRows)) :: (a_g_zoneColumns, .inl (ci 0, 5, .inl g_zoneColumns)) :: Rw) → va_S A s.heap H locs → lv_has ls 4 [(0, .ref a_nt), (1, .ref a_sp)] → W p l e ({ frames := 2, cells := 0, slots := 0, locals := 45 } : Room) s m ([.ref a_nt, .ref a_sp] : List Value).toArray below meth c H locs 0 0 Q (F0 m 71 ls [.int v5, .int 65, .ref a_nt]) := by
          intro v5 H locs ls hf hP hD hS hl
          have hf := (ek71 v5).symm.trans hf
          refine lv_iadd (pc := 71) hx hb dX4_write_71 ?_
          obtain ⟨f6, v7, hm72, hf⟩ := q_b2_e hf
          refine q_cV (pc := 72) (As := [.int (65 + v5)]) (rest := []) (v0 := none) ⟨hx, hb, hml, hown, hts⟩ hK hA hZ hP hD hS hl.1 [1, 2, 0, 3, 4, 5, 6, 7] 8 rfl ⟨rfl, rfl, rfl⟩ (c_NameText_add l D ci A sa N ((a_sp, .inr (6, [.ref a_g, .ref a_sp_first, .ref a_sp_many, .ref a_sp_corner, .int sp_cornerCount, .int sp_level, .int sp_row, .int sp_start, .int sp_place, .int sp_length, .int sp_cap])) :: (a_g, .inr (2, [.ref a_g_rowCuts, .ref a_g_columnCuts, .ref a_g_bandRows, .ref a_g_zoneColumns, .ref a_g_rows, .ref a_g_sheets])) :: (a_g_rowCuts, .inl (ci 0, 5, .inl g_rowCuts)) :: (a_g_columnCuts, .inl (ci 0, 5, .inl g_columnCuts)) :: (a_g_bandRows, .inl (ci 0, 5, .inl g_bandRows)) :: (a_g_zoneColumns, .inl (ci 0, 5, .inl g_zoneColumns)) :: Rw) a_nt a_nt_bytes v4 f3 (65 + v5) f6 v7 hm72) 1 rfl rfl (cwV 1 hts gX4_write_X4_add rfl rfl rfl (by decide +kernel) ⟨Nat.le_of_ble_eq_true rfl, Nat.le_of_ble_eq_true rfl⟩) rfl rfl (Nat.le_of_ble_eq_true rfl) dX4_write_72 ⟨Nat.zero_le _, Nat.zero_le _⟩ [2, 0, 1, 3, 4, 5, 6, 7] 8 rfl ⟨rfl, rfl, rfl⟩ (fun H locs hP hD hS => ?_)
          obtain ⟨hP, hD⟩ : va_PD D A ((a_sp, .inr (6, [.ref a_g, .ref a_sp_first, .ref a_sp_many, .ref a_sp_corner, .int sp_cornerCount, .int sp_level, .int sp_row, .int sp_start, .int sp_place, .int sp_length, .int sp_cap])) :: (a_nt, .inr (4, [.ref a_nt_bytes, .int v7])) :: (a_nt_bytes, .inl (ci 0, 40, .inl f6)) :: (a_g, .inr (2, [.ref a_g_rowCuts, .ref a_g_columnCuts, .ref a_g_bandRows, .ref a_g_zoneColumns, .ref a_g_rows, .ref a_g_sheets])) :: (a_g_rowCuts, .inl (ci 0, 5, .inl g_rowCuts)) :: (a_g_columnCuts, .inl (ci 0, 5, .inl g_columnCuts)) :: (a_g_bandRows, .inl (ci 0, 5, .inl g_bandRows)) :: (a_g_zoneColumns, .inl (ci 0, 5, .inl g_zoneColumns)) :: Rw) H := ⟨hP, hD⟩
          refine lv_aload_n (pc := 75) hx hb dX4_write_75 rfl (lv_at hl 0 rfl) ?_
          refine lv_aload_n (pc := 76) hx hb dX4_write_76 rfl (lv_at hl 1 rfl) ?_
          refine lv_iconst (pc := 77) (v := 0) hx hb dX4_write_77 (by decide) ?_
          obtain ⟨v8, hm78, hf⟩ := q_b1_e hf
          refine q_cVr (pc := 78) (As := [.int 0]) (rest := [.ref a_nt]) (v0 := (some (.int v8))) ⟨hx, hb, hml, hown, hts⟩ hK hA hZ hP hD hS hl.1 [0, 3, 4, 5, 6, 7] 8 rfl ⟨rfl, rfl, rfl⟩ (c_Spot_numberOf l D ci A sa N (Rw) a_sp a_g a_sp_first a_sp_many a_sp_corner a_g_rowCuts a_g_columnCuts a_g_bandRows a_g_zoneColumns a_g_rows a_g_sheets sp_cornerCount sp_level sp_row sp_start sp_place sp_length sp_cap g_rowCuts g_columnCuts g_bandRows g_zoneColumns 0 v8 hm78) 0 rfl rfl (cwV 1 hts gX4_write_X6_numberOf rfl rfl rfl (by decide +kernel) ⟨Nat.le_of_ble_eq_true rfl, Nat.le_of_ble_eq_true rfl⟩) rfl rfl (Nat.le_of_ble_eq_true rfl) dX4_write_78 ⟨Nat.zero_le _, Nat.zero_le _⟩ (fun locs hS => ?_)
          obtain ⟨f9, v10, hm81, hf⟩ := q_b2_e hf
          refine q_cV (pc := 81) (As := [.int v8]) (rest := []) (v0 := none) ⟨hx, hb, hml, hown, hts⟩ hK hA hZ hP hD hS hl.1 [1, 2, 0, 3, 4, 5, 6, 7] 8 rfl ⟨rfl, rfl, rfl⟩ (c_NameText_addNumber l D ci A sa N ((a_sp, .inr (6, [.ref a_g, .ref a_sp_first, .ref a_sp_many, .ref a_sp_corner, .int sp_cornerCount, .int sp_level, .int sp_row, .int sp_start, .int sp_place, .int sp_length, .int sp_cap])) :: (a_g, .inr (2, [.ref a_g_rowCuts, .ref a_g_columnCuts, .ref a_g_bandRows, .ref a_g_zoneColumns, .ref a_g_rows, .ref a_g_sheets])) :: (a_g_rowCuts, .inl (ci 0, 5, .inl g_rowCuts)) :: (a_g_columnCuts, .inl (ci 0, 5, .inl g_columnCuts)) :: (a_g_bandRows, .inl (ci 0, 5, .inl g_bandRows)) :: (a_g_zoneColumns, .inl (ci 0, 5, .inl g_zoneColumns)) :: Rw) a_nt a_nt_bytes v7 f6 v8 f9 v10 hm81) 1 rfl rfl (cwV 1 hts gX4_write_X4_addNumber rfl rfl rfl (by decide +kernel) ⟨Nat.le_of_ble_eq_true rfl, Nat.le_of_ble_eq_true rfl⟩) rfl rfl (Nat.le_of_ble_eq_true rfl) dX4_write_81 ⟨Nat.zero_le _, Nat.zero_le _⟩ [2, 0, 1, 3, 4, 5, 6, 7] 8 rfl ⟨rfl, rfl, rfl⟩ (fun H locs hP hD hS => ?_)
          obtain ⟨hP, hD⟩ : va_PD D A ((a_sp, .inr (6, [.ref a_g, .ref a_sp_first, .ref a_sp_many, .ref a_sp_corner, .int sp_cornerCount, .int sp_level, .int sp_row, .int sp_start, .int sp_place, .int sp_length, .int sp_cap])) :: (a_nt, .inr (4, [.ref a_nt_bytes, .int v10])) :: (a_nt_bytes, .inl (ci 0, 40, .inl f9)) :: (a_g, .inr (2, [.ref a_g_rowCuts, .ref a_g_columnCuts, .ref a_g_bandRows, .ref a_g_zoneColumns, .ref a_g_rows, .ref a_g_sheets])) :: (a_g_rowCuts, .inl (ci 0, 5, .inl g_rowCuts)) :: (a_g_columnCuts, .inl (ci 0, 5, .inl g_columnCuts)) :: (a_g_bandRows, .inl (ci 0, 5, .inl g_bandRows)) :: (a_g_zoneColumns, .inl (ci 0, 5, .inl g_zoneColumns)) :: Rw) H := ⟨hP, hD⟩
          refine lv_iconst (pc := 84) (v := 1) hx hb dX4_write_84 (by decide) ?_
          obtain ⟨v11, ev11, hf⟩ := q_nm_e hf
          refine q_topi ev11 ?_
          refine lv_istore_n (pc := 85) (lv' := [(3, .int v11), (0, .ref a_nt), (1, .ref a_sp)]) hx hb dX4_write_85 rfl hl (by decide) rfl (fun ls hl => ?_)
          obtain ⟨f15, v16, hm86, hf⟩ := q_b2_e hf
          have JE86 : ∀ (H : Heap) (locs : List Loc) (ls : Array Slot), va_P D vwCl ((a_sp, .inr (6, [.ref a_g, .ref a_sp_first, .ref a_sp_many, .ref a_sp_corner, .int sp_cornerCount, .int sp_level, .int sp_row, .int sp_start, .int sp_place, .int sp_length, .int sp_cap])) :: (a_nt, .inr (4, [.ref a_nt_bytes, .int v16])) :: (a_nt_bytes, .inl (ci 0, 40, .inl f15)) :: (a_g, .inr (2, [.ref a_g_rowCuts, .ref a_g_columnCuts, .ref a_g_bandRows, .ref a_g_zoneColumns, .ref a_g_rows, .ref a_g_sheets])) :: (a_g_rowCuts, .inl (ci 0, 5, .inl g_rowCuts)) :: (a_g_columnCuts, .inl (ci 0, 5, .inl g_columnCuts)) :: (a_g_bandRows, .inl (ci 0, 5, .inl g_bandRows)) :: (a_g_zoneColumns, .inl (ci 0, 5, .inl g_zoneColumns)) :: Rw) H → va_D A ((a_sp, .inr (6, [.ref a_g, .ref a_sp_first, .ref a_sp_many, .ref a_sp_corner, .int sp_cornerCount, .int sp_level, .int sp_row, .int sp_start, .int sp_place, .int sp_length, .int sp_cap])) :: (a_nt, .inr (4, [.ref a_nt_bytes, .int v16])) :: (a_nt_bytes, .inl (ci 0, 40, .inl f15)) :: (a_g, .inr (2, [.ref a_g_rowCuts, .ref a_g_columnCuts, .ref a_g_bandRows, .ref a_g_zoneColumns, .ref a_g_rows, .ref a_g_sheets])) :: (a_g_rowCuts, .inl (ci 0, 5, .inl g_rowCuts)) :: (a_g_columnCuts, .inl (ci 0, 5, .inl g_columnCuts)) :: (a_g_bandRows, .inl (ci 0, 5, .inl g_bandRows)) :: (a_g_zoneColumns, .inl (ci 0, 5, .inl g_zoneColumns)) :: Rw) → va_S A s.heap H locs → lv_has ls 4 [] → W p l e ({ frames := 2, cells := 0, slots := 0, locals := 45 } : Room) s m ([.ref a_nt, .ref a_sp] : List Value).toArray below meth c H locs 0 0 Q (F0 m 115 ls []) := by
            intro H locs ls hP hD hS hl
            obtain ⟨rfl, rfl⟩ := q_inj2 (Option.some.inj hf)
            rw [hQ]
            exact q_vret (pc := 115) hx hb hr hlocks hP hD hS dX4_write_115
          have LP86 : ∀ (n86 : Nat) (v12 : Int32) (f13 : Nat → Int32) (v14 : Int32) (H : Heap) (locs : List Loc) (ls : Array Slot), f_NameText_write_L86 g_bandRows g_columnCuts g_rowCuts g_zoneColumns sp_cap sp_level sp_place sp_row n86 v12 f13 v14 = some (f15, v16) → va_P D vwCl ((a_sp, .inr (6, [.ref a_g, .ref a_sp_first, .ref a_sp_many, .ref a_sp_corner, .int sp_cornerCount, .int sp_level, .int sp_row, .int sp_start, .int sp_place, .int sp_length, .int sp_cap])) :: (a_nt, .inr (4, [.ref a_nt_bytes, .int v14])) :: (a_nt_bytes, .inl (ci 0, 40, .inl f13)) :: (a_g, .inr (2, [.ref a_g_rowCuts, .ref a_g_columnCuts, .ref a_g_bandRows, .ref a_g_zoneColumns, .ref a_g_rows, .ref a_g_sheets])) :: (a_g_rowCuts, .inl (ci 0, 5, .inl g_rowCuts)) :: (a_g_columnCuts, .inl (ci 0, 5, .inl g_columnCuts)) :: (a_g_bandRows, .inl (ci 0, 5, .inl g_bandRows)) :: (a_g_zoneColumns, .inl (ci 0, 5, .inl g_zoneColumns)) :: Rw) H → va_D A ((a_sp, .inr (6, [.ref a_g, .ref a_sp_first, .ref a_sp_many, .ref a_sp_corner, .int sp_cornerCount, .int sp_level, .int sp_row, .int sp_start, .int sp_place, .int sp_length, .int sp_cap])) :: (a_nt, .inr (4, [.ref a_nt_bytes, .int v14])) :: (a_nt_bytes, .inl (ci 0, 40, .inl f13)) :: (a_g, .inr (2, [.ref a_g_rowCuts, .ref a_g_columnCuts, .ref a_g_bandRows, .ref a_g_zoneColumns, .ref a_g_rows, .ref a_g_sheets])) :: (a_g_rowCuts, .inl (ci 0, 5, .inl g_rowCuts)) :: (a_g_columnCuts, .inl (ci 0, 5, .inl g_columnCuts)) :: (a_g_bandRows, .inl (ci 0, 5, .inl g_bandRows)) :: (a_g_zoneColumns, .inl (ci 0, 5, .inl g_zoneColumns)) :: Rw) → va_S A s.heap H locs → lv_has ls 4 [(0, .ref a_nt), (1, .ref a_sp), (3, .int v12)] → W p l e ({ frames := 2, cells := 0, slots := 0, locals := 45 } : Room) s m ([.ref a_nt, .ref a_sp] : List Value).toArray below meth c H locs 0 0 Q (F0 m 86 ls []) := by
            intro n86
            induction n86 with
            | zero => intro v12 f13 v14 H locs ls hf; rw [f_NameText_write_L86] at hf; cases hf
            | succ n86 ih86 =>
              intro v12 f13 v14 H locs ls hf hP hD hS hl
              rw [f_NameText_write_L86] at hf
              refine lv_iload_n (pc := 86) hx hb dX4_write_86 rfl (lv_at hl 2 rfl) ?_
              refine lv_aload_n (pc := 87) hx hb dX4_write_87 rfl (lv_at hl 1 rfl) ?_
              refine va_getN (pc := 88) (D := D) (ci := 6) (v := .int sp_level) (C := RX6) (T := TX6) (N := 11) hx hb hts hinX6 hown hK hP 0 rfl rfl 5 (by decide) wn_52 (fun _ h9 => h9) rfl dX4_write_88 ?_
              refine q_icmp_gt (pc := 91) (tgt := 115) hx hb dX4_write_91 (by decide) rfl hf (fun hf => ?_) (fun hf => ?_)
              · obtain ⟨rfl, rfl⟩ := q_inj2 (Option.some.inj hf)
                exact JE86 _ _ _ hP hD hS (lv_sub hl [] rfl)
              · refine lv_aload_n (pc := 94) hx hb dX4_write_94 rfl (lv_at hl 0 rfl) ?_
                refine lv_bipush (pc := 95) (v := 45) hx hb dX4_write_95 (by decide) ?_
                obtain ⟨f17, v18, hm97, hf⟩ := q_b2_e hf
                refine q_cV (pc := 97) (As := [.int 45]) (rest := []) (v0 := none) ⟨hx, hb, hml, hown, hts⟩ hK hA hZ hP hD hS hl.1 [1, 2, 0, 3, 4, 5, 6, 7] 8 rfl ⟨rfl, rfl, rfl⟩ (c_NameText_add l D ci A sa N ((a_sp, .inr (6, [.ref a_g, .ref a_sp_first, .ref a_sp_many, .ref a_sp_corner, .int sp_cornerCount, .int sp_level, .int sp_row, .int sp_start, .int sp_place, .int sp_length, .int sp_cap])) :: (a_g, .inr (2, [.ref a_g_rowCuts, .ref a_g_columnCuts, .ref a_g_bandRows, .ref a_g_zoneColumns, .ref a_g_rows, .ref a_g_sheets])) :: (a_g_rowCuts, .inl (ci 0, 5, .inl g_rowCuts)) :: (a_g_columnCuts, .inl (ci 0, 5, .inl g_columnCuts)) :: (a_g_bandRows, .inl (ci 0, 5, .inl g_bandRows)) :: (a_g_zoneColumns, .inl (ci 0, 5, .inl g_zoneColumns)) :: Rw) a_nt a_nt_bytes v14 f13 45 f17 v18 hm97) 1 rfl rfl (cwV 1 hts gX4_write_X4_add rfl rfl rfl (by decide +kernel) ⟨Nat.le_of_ble_eq_true rfl, Nat.le_of_ble_eq_true rfl⟩) rfl rfl (Nat.le_of_ble_eq_true rfl) dX4_write_97 ⟨Nat.zero_le _, Nat.zero_le _⟩ [2, 0, 1, 3, 4, 5, 6, 7] 8 rfl ⟨rfl, rfl, rfl⟩ (fun H locs hP hD hS => ?_)
                obtain ⟨hP, hD⟩ : va_PD D A ((a_sp, .inr (6, [.ref a_g, .ref a_sp_first, .ref a_sp_many, .ref a_sp_corner, .int sp_cornerCount, .int sp_level, .int sp_row, .int sp_start, .int sp_place, .int sp_length, .int sp_cap])) :: (a_nt, .inr (4, [.ref a_nt_bytes, .int v18])) :: (a_nt_bytes, .inl (ci 0, 40, .inl f17)) :: (a_g, .inr (2, [.ref a_g_rowCuts, .ref a_g_columnCuts, .ref a_g_bandRows, .ref a_g_zoneColumns, .ref a_g_rows, .ref a_g_sheets])) :: (a_g_rowCuts, .inl (ci 0, 5, .inl g_rowCuts)) :: (a_g_columnCuts, .inl (ci 0, 5, .inl g_columnCuts)) :: (a_g_bandRows, .inl (ci 0, 5, .inl g_bandRows)) :: (a_g_zoneColumns, .inl (ci 0, 5, .inl g_zoneColumns)) :: Rw) H := ⟨hP, hD⟩
                refine lv_aload_n (pc := 100) hx hb dX4_write_100 rfl (lv_at hl 0 rfl) ?_
                refine lv_aload_n (pc := 101) hx hb dX4_write_101 rfl (lv_at hl 1 rfl) ?_
                refine lv_iload_n (pc := 102) hx hb dX4_write_102 rfl (lv_at hl 2 rfl) ?_
                obtain ⟨v19, hm103, hf⟩ := q_b1_e hf
                refine q_cVr (pc := 103) (As := [.int v12]) (rest := [.ref a_nt]) (v0 := (some (.int v19))) ⟨hx, hb, hml, hown, hts⟩ hK hA hZ hP hD hS hl.1 [0, 3, 4, 5, 6, 7] 8 rfl ⟨rfl, rfl, rfl⟩ (c_Spot_numberOf l D ci A sa N (Rw) a_sp a_g a_sp_first a_sp_many a_sp_corner a_g_rowCuts a_g_columnCuts a_g_bandRows a_g_zoneColumns a_g_rows a_g_sheets sp_cornerCount sp_level sp_row sp_start sp_place sp_length sp_cap g_rowCuts g_columnCuts g_bandRows g_zoneColumns v12 v19 hm103) 0 rfl rfl (cwV 1 hts gX4_write_X6_numberOf rfl rfl rfl (by decide +kernel) ⟨Nat.le_of_ble_eq_true rfl, Nat.le_of_ble_eq_true rfl⟩) rfl rfl (Nat.le_of_ble_eq_true rfl) dX4_write_103 ⟨Nat.zero_le _, Nat.zero_le _⟩ (fun locs hS => ?_)
                obtain ⟨f20, v21, hm106, hf⟩ := q_b2_e hf
                refine q_cV (pc := 106) (As := [.int v19]) (rest := []) (v0 := none) ⟨hx, hb, hml, hown, hts⟩ hK hA hZ hP hD hS hl.1 [1, 2, 0, 3, 4, 5, 6, 7] 8 rfl ⟨rfl, rfl, rfl⟩ (c_NameText_addNumber l D ci A sa N ((a_sp, .inr (6, [.ref a_g, .ref a_sp_first, .ref a_sp_many, .ref a_sp_corner, .int sp_cornerCount, .int sp_level, .int sp_row, .int sp_start, .int sp_place, .int sp_length, .int sp_cap])) :: (a_g, .inr (2, [.ref a_g_rowCuts, .ref a_g_columnCuts, .ref a_g_bandRows, .ref a_g_zoneColumns, .ref a_g_rows, .ref a_g_sheets])) :: (a_g_rowCuts, .inl (ci 0, 5, .inl g_rowCuts)) :: (a_g_columnCuts, .inl (ci 0, 5, .inl g_columnCuts)) :: (a_g_bandRows, .inl (ci 0, 5, .inl g_bandRows)) :: (a_g_zoneColumns, .inl (ci 0, 5, .inl g_zoneColumns)) :: Rw) a_nt a_nt_bytes v18 f17 v19 f20 v21 hm106) 1 rfl rfl (cwV 1 hts gX4_write_X4_addNumber rfl rfl rfl (by decide +kernel) ⟨Nat.le_of_ble_eq_true rfl, Nat.le_of_ble_eq_true rfl⟩) rfl rfl (Nat.le_of_ble_eq_true rfl) dX4_write_106 ⟨Nat.zero_le _, Nat.zero_le _⟩ [2, 0, 1, 3, 4, 5, 6, 7] 8 rfl ⟨rfl, rfl, rfl⟩ (fun H locs hP hD hS => ?_)
                obtain ⟨hP, hD⟩ : va_PD D A ((a_sp, .inr (6, [.ref a_g, .ref a_sp_first, .ref a_sp_many, .ref a_sp_corner, .int sp_cornerCount, .int sp_level, .int sp_row, .int sp_start, .int sp_place, .int sp_length, .int sp_cap])) :: (a_nt, .inr (4, [.ref a_nt_bytes, .int v21])) :: (a_nt_bytes, .inl (ci 0, 40, .inl f20)) :: (a_g, .inr (2, [.ref a_g_rowCuts, .ref a_g_columnCuts, .ref a_g_bandRows, .ref a_g_zoneColumns, .ref a_g_rows, .ref a_g_sheets])) :: (a_g_rowCuts, .inl (ci 0, 5, .inl g_rowCuts)) :: (a_g_columnCuts, .inl (ci 0, 5, .inl g_columnCuts)) :: (a_g_bandRows, .inl (ci 0, 5, .inl g_bandRows)) :: (a_g_zoneColumns, .inl (ci 0, 5, .inl g_zoneColumns)) :: Rw) H := ⟨hP, hD⟩
                obtain ⟨v22, ev22, hf⟩ := q_nm_e hf
                refine lv_iinc (pc := 109) (v := v22) (lv' := [(3, .int v22), (0, .ref a_nt), (1, .ref a_sp)]) hx hb dX4_write_109 hl (k := 2) rfl (by rw [ev22]; rfl) (by decide) rfl (fun ls hl => ?_)
                refine lv_goto (pc := 112) (tgt := 86) hx hb dX4_write_112 (by decide) ?_
                exact ih86 v22 f20 v21 _ _ _ hf hP hD hS (lv_sub hl [1, 2, 0] rfl)
          exact LP86 N v11 f9 v10 _ _ _ hm86 hP hD hS (lv_sub hl [1, 2, 0] rfl)
        refine q_if_lt (pc := 61) (tgt := 68) hx hb dX4_write_61 (by decide) rfl hf (fun hf => ?_) (fun hf => ?_)
        · refine lv_iconst (pc := 68) (v := (-1)) hx hb dX4_write_68 (by decide) ?_
          refine lv_iload_n (pc := 69) hx hb dX4_write_69 rfl (lv_at hl 2 rfl) ?_
          refine lv_isub (pc := 70) hx hb dX4_write_70 ?_
          exact J71 ((-1) - v1) _ _ _ hf hP hD hS (lv_sub hl [0, 1] rfl)
        · refine lv_iload_n (pc := 64) hx hb dX4_write_64 rfl (lv_at hl 2 rfl) ?_
          refine lv_goto (pc := 65) (tgt := 71) hx hb dX4_write_65 (by decide) ?_
          exact J71 v1 _ _ _ hf hP hD hS (lv_sub hl [0, 1] rfl)
      refine q_if_lt (pc := 44) (tgt := 52) hx hb dX4_write_44 (by decide) rfl hf (fun hf => ?_) (fun hf => ?_)
      · refine lv_bipush (pc := 52) (v := 83) hx hb dX4_write_52 (by decide) ?_
        exact J54 83 _ _ _ hf hP hD hS (lv_sub hl [1, 2, 0] rfl)
      · refine lv_bipush (pc := 47) (v := 78) hx hb dX4_write_47 (by decide) ?_
        refine lv_goto (pc := 49) (tgt := 54) hx hb dX4_write_49 (by decide) ?_
        exact J54 78 _ _ _ hf hP hD hS (lv_sub hl [1, 2, 0] rfl)
    · refine lv_aload_n (pc := 12) hx hb dX4_write_12 rfl (lv_at hl 0 rfl) ?_
      refine lv_aload_n (pc := 13) hx hb dX4_write_13 rfl (lv_at hl 1 rfl) ?_
      refine va_getN (pc := 14) (D := D) (ci := 6) (v := .int sp_row) (C := RX6) (T := TX6) (N := 11) hx hb hts hinX6 hown hK hP 0 rfl rfl 6 (by decide) wn_51 (fun _ h9 => h9) rfl dX4_write_14 ?_
      obtain ⟨k27, ek27, hf⟩ := q_j1_e hf
      have J27 : ∀ (v23 : Int32) (H : Heap) (locs : List Loc) (ls : Array Slot), k27 v23 = some (o1, o2) → va_P D vwCl ((a_sp, .inr (6, [.ref a_g, .ref a_sp_first, .ref a_sp_many, .ref a_sp_corner, .int sp_cornerCount, .int sp_level, .int sp_row, .int sp_start, .int sp_place, .int sp_length, .int sp_cap])) :: (a_nt, .inr (4, [.ref a_nt_bytes, .int 0])) :: (a_nt_bytes, .inl (ci 0, 40, .inl nt_bytes)) :: (a_g, .inr (2, [.ref a_g_rowCuts, .ref a_g_columnCuts, .ref a_g_bandRows, .ref a_g_zoneColumns, .ref a_g_rows, .ref a_g_sheets])) :: (a_g_rowCuts, .inl (ci 0, 5, .inl g_rowCuts)) :: (a_g_columnCuts, .inl (ci 0, 5, .inl g_columnCuts)) :: (a_g_bandRows, .inl (ci 0, 5, .inl g_bandRows)) :: (a_g_zoneColumns, .inl (ci 0, 5, .inl g_zoneColumns)) :: Rw) H → va_D A ((a_sp, .inr (6, [.ref a_g, .ref a_sp_first, .ref a_sp_many, .ref a_sp_corner, .int sp_cornerCount, .int sp_level, .int sp_row, .int sp_start, .int sp_place, .int sp_length, .int sp_cap])) :: (a_nt, .inr (4, [.ref a_nt_bytes, .int 0])) :: (a_nt_bytes, .inl (ci 0, 40, .inl nt_bytes)) :: (a_g, .inr (2, [.ref a_g_rowCuts, .ref a_g_columnCuts, .ref a_g_bandRows, .ref a_g_zoneColumns, .ref a_g_rows, .ref a_g_sheets])) :: (a_g_rowCuts, .inl (ci 0, 5, .inl g_rowCuts)) :: (a_g_columnCuts, .inl (ci 0, 5, .inl g_columnCuts)) :: (a_g_bandRows, .inl (ci 0, 5, .inl g_bandRows)) :: (a_g_zoneColumns, .inl (ci 0, 5, .inl g_zoneColumns)) :: Rw) → va_S A s.heap H locs → lv_has ls 4 [(0, .ref a_nt)] → W p l e ({ frames := 2, cells := 0, slots := 0, locals := 45 } : Room) s m ([.ref a_nt, .ref a_sp] : List Value).toArray below meth c H locs 0 0 Q (F0 m 27 ls [.int v23, .ref a_nt]) := by
        intro v23 H locs ls hf hP hD hS hl
        have hf := (ek27 v23).symm.trans hf
        obtain ⟨f24, v25, hm27, hf⟩ := q_b2_e hf
        refine q_cV (pc := 27) (As := [.int v23]) (rest := []) (v0 := none) ⟨hx, hb, hml, hown, hts⟩ hK hA hZ hP hD hS hl.1 [1, 2, 0, 3, 4, 5, 6, 7] 8 rfl ⟨rfl, rfl, rfl⟩ (c_NameText_add l D ci A sa N ((a_sp, .inr (6, [.ref a_g, .ref a_sp_first, .ref a_sp_many, .ref a_sp_corner, .int sp_cornerCount, .int sp_level, .int sp_row, .int sp_start, .int sp_place, .int sp_length, .int sp_cap])) :: (a_g, .inr (2, [.ref a_g_rowCuts, .ref a_g_columnCuts, .ref a_g_bandRows, .ref a_g_zoneColumns, .ref a_g_rows, .ref a_g_sheets])) :: (a_g_rowCuts, .inl (ci 0, 5, .inl g_rowCuts)) :: (a_g_columnCuts, .inl (ci 0, 5, .inl g_columnCuts)) :: (a_g_bandRows, .inl (ci 0, 5, .inl g_bandRows)) :: (a_g_zoneColumns, .inl (ci 0, 5, .inl g_zoneColumns)) :: Rw) a_nt a_nt_bytes 0 nt_bytes v23 f24 v25 hm27) 1 rfl rfl (cwV 1 hts gX4_write_X4_add rfl rfl rfl (by decide +kernel) ⟨Nat.le_of_ble_eq_true rfl, Nat.le_of_ble_eq_true rfl⟩) rfl rfl (Nat.le_of_ble_eq_true rfl) dX4_write_27 ⟨Nat.zero_le _, Nat.zero_le _⟩ [2, 0, 1, 3, 4, 5, 6, 7] 8 rfl ⟨rfl, rfl, rfl⟩ (fun H locs hP hD hS => ?_)
        obtain ⟨hP, hD⟩ : va_PD D A ((a_sp, .inr (6, [.ref a_g, .ref a_sp_first, .ref a_sp_many, .ref a_sp_corner, .int sp_cornerCount, .int sp_level, .int sp_row, .int sp_start, .int sp_place, .int sp_length, .int sp_cap])) :: (a_nt, .inr (4, [.ref a_nt_bytes, .int v25])) :: (a_nt_bytes, .inl (ci 0, 40, .inl f24)) :: (a_g, .inr (2, [.ref a_g_rowCuts, .ref a_g_columnCuts, .ref a_g_bandRows, .ref a_g_zoneColumns, .ref a_g_rows, .ref a_g_sheets])) :: (a_g_rowCuts, .inl (ci 0, 5, .inl g_rowCuts)) :: (a_g_columnCuts, .inl (ci 0, 5, .inl g_columnCuts)) :: (a_g_bandRows, .inl (ci 0, 5, .inl g_bandRows)) :: (a_g_zoneColumns, .inl (ci 0, 5, .inl g_zoneColumns)) :: Rw) H := ⟨hP, hD⟩
        refine lv_aload_n (pc := 30) hx hb dX4_write_30 rfl (lv_at hl 0 rfl) ?_
        refine lv_bipush (pc := 31) (v := 90) hx hb dX4_write_31 (by decide) ?_
        obtain ⟨f26, v27, hm33, hf⟩ := q_b2_e hf
        refine q_cV (pc := 33) (As := [.int 90]) (rest := []) (v0 := none) ⟨hx, hb, hml, hown, hts⟩ hK hA hZ hP hD hS hl.1 [1, 2, 0, 3, 4, 5, 6, 7] 8 rfl ⟨rfl, rfl, rfl⟩ (c_NameText_add l D ci A sa N ((a_sp, .inr (6, [.ref a_g, .ref a_sp_first, .ref a_sp_many, .ref a_sp_corner, .int sp_cornerCount, .int sp_level, .int sp_row, .int sp_start, .int sp_place, .int sp_length, .int sp_cap])) :: (a_g, .inr (2, [.ref a_g_rowCuts, .ref a_g_columnCuts, .ref a_g_bandRows, .ref a_g_zoneColumns, .ref a_g_rows, .ref a_g_sheets])) :: (a_g_rowCuts, .inl (ci 0, 5, .inl g_rowCuts)) :: (a_g_columnCuts, .inl (ci 0, 5, .inl g_columnCuts)) :: (a_g_bandRows, .inl (ci 0, 5, .inl g_bandRows)) :: (a_g_zoneColumns, .inl (ci 0, 5, .inl g_zoneColumns)) :: Rw) a_nt a_nt_bytes v25 f24 90 f26 v27 hm33) 1 rfl rfl (cwV 1 hts gX4_write_X4_add rfl rfl rfl (by decide +kernel) ⟨Nat.le_of_ble_eq_true rfl, Nat.le_of_ble_eq_true rfl⟩) rfl rfl (Nat.le_of_ble_eq_true rfl) dX4_write_33 ⟨Nat.zero_le _, Nat.zero_le _⟩ [2, 0, 1, 3, 4, 5, 6, 7] 8 rfl ⟨rfl, rfl, rfl⟩ (fun H locs hP hD hS => ?_)
        obtain ⟨hP, hD⟩ : va_PD D A ((a_sp, .inr (6, [.ref a_g, .ref a_sp_first, .ref a_sp_many, .ref a_sp_corner, .int sp_cornerCount, .int sp_level, .int sp_row, .int sp_start, .int sp_place, .int sp_length, .int sp_cap])) :: (a_nt, .inr (4, [.ref a_nt_bytes, .int v27])) :: (a_nt_bytes, .inl (ci 0, 40, .inl f26)) :: (a_g, .inr (2, [.ref a_g_rowCuts, .ref a_g_columnCuts, .ref a_g_bandRows, .ref a_g_zoneColumns, .ref a_g_rows, .ref a_g_sheets])) :: (a_g_rowCuts, .inl (ci 0, 5, .inl g_rowCuts)) :: (a_g_columnCuts, .inl (ci 0, 5, .inl g_columnCuts)) :: (a_g_bandRows, .inl (ci 0, 5, .inl g_bandRows)) :: (a_g_zoneColumns, .inl (ci 0, 5, .inl g_zoneColumns)) :: Rw) H := ⟨hP, hD⟩
        obtain ⟨rfl, rfl⟩ := q_inj2 (Option.some.inj hf)
        rw [hQ]
        exact q_vret (pc := 36) hx hb hr hlocks hP hD hS dX4_write_36
      refine q_if_ne (pc := 17) (tgt := 25) hx hb dX4_write_17 (by decide) rfl hf (fun hf => ?_) (fun hf => ?_)
      · refine lv_bipush (pc := 25) (v := 83) hx hb dX4_write_25 (by decide) ?_
        exact J27 83 _ _ _ hf hP hD hS (lv_sub hl [0] rfl)
      · refine lv_bipush (pc := 20) (v := 78) hx hb dX4_write_20 (by decide) ?_
        refine lv_goto (pc := 22) (tgt := 27) hx hb dX4_write_22 (by decide) ?_
        exact J27 78 _ _ _ hf hP hD hS (lv_sub hl [0] rfl)
  exact hgo _ _ rfl hP hS
/-! X8_add -/
set_option maxRecDepth 100000 in
set_option maxHeartbeats 4000000 in
theorem c_Tape_add (l : Launch) (D : va_G) (ci : Nat → ClassId) (A : Nat → Prop) (sa : Nat → Nat) (N : Nat) (Rw : va_W) (a_tp : Nat) (a_tp_bytes : Nat) (tp_length : Int32) (tp_bytes : Nat → Int32) (p1 : Int32) (o1 : Nat → Int32) (o2 : Int32) (hf : f_Tape_add N tp_bytes tp_length p1 = some (o1, o2)) : Met l yX8_add wsX8_add ({ frames := 0, cells := 0, slots := 0, locals := 0 }) (va_Pc [.ref a_tp, .int p1] (q_N D ci A sa ((a_tp, .inr (8, [.ref a_tp_bytes, .int tp_length])) :: (a_tp_bytes, .inl (ci 0, 200, .inl tp_bytes)) :: Rw))) (q_Q none (q_O D A ((a_tp, .inr (8, [.ref a_tp_bytes, .int o2])) :: (a_tp_bytes, .inl (ci 0, 200, .inl o1)) :: Rw)) A) 0 0 A := by
  refine q_ofW (cc := cX8_add) (maxL := 3) (ret := none) [.ref a_tp, .int p1] (plainFor_of_name (by decide)) rfl (Nat.le_of_ble_eq_true rfl) ?_
  intro p e s m below meth c ls Q hQ hx hb hml hr hts hown hlocks hK hA hZ hP hD hS hl
  have hl : lv_has ls 3 [(0, .ref a_tp), (1, .int p1)] := hl
  have hown : s.vm.findClass RX8 = some m.cls := hown
  have hinX8 : ∀ w ∈ wsX80, w ∈ wsX8_add := fun _ h => List.mem_cons_of_mem _ (inWX80 _ h)
  have w_1 := hts (Cond.fieldLink RX8 15 "SheetNames$Tape" "length" "I") (List.mem_cons_of_mem _ t_w837)
  have w_2 := hts (Cond.fieldLink RX8 9 "SheetNames$Tape" "bytes" "[I") (List.mem_cons_of_mem _ t_w838)
  unfold f_Tape_add at hf
  have hgo : ∀ (H : Heap) (locs : List Loc), H = s.heap → va_P D vwCl ((a_tp, .inr (8, [.ref a_tp_bytes, .int tp_length])) :: (a_tp_bytes, .inl (ci 0, 200, .inl tp_bytes)) :: Rw) H → va_S A s.heap H locs → W p l e ({ frames := 0, cells := 0, slots := 0, locals := 0 } : Room) s m ([.ref a_tp, .int p1] : List Value).toArray below meth c H locs 0 0 Q (F0 m 0 ls []) := by
    intro H locs hH hP hS
    refine lv_bipush (pc := 0) (v := 24) hx hb dX8_add_0 (by decide) ?_
    obtain ⟨v1, ev1, hf⟩ := q_nm_e hf
    refine q_topi ev1 ?_
    refine lv_istore_n (pc := 2) (lv' := [(2, .int v1), (0, .ref a_tp), (1, .int p1)]) hx hb dX8_add_2 rfl hl (by decide) rfl (fun ls hl => ?_)
    obtain ⟨f5, v6, hm3, hf⟩ := q_b2_e hf
    have JE3 : ∀ (H : Heap) (locs : List Loc) (ls : Array Slot), va_P D vwCl ((a_tp, .inr (8, [.ref a_tp_bytes, .int v6])) :: (a_tp_bytes, .inl (ci 0, 200, .inl f5)) :: Rw) H → va_D A ((a_tp, .inr (8, [.ref a_tp_bytes, .int v6])) :: (a_tp_bytes, .inl (ci 0, 200, .inl f5)) :: Rw) → va_S A s.heap H locs → lv_has ls 3 [] → W p l e ({ frames := 0, cells := 0, slots := 0, locals := 0 } : Room) s m ([.ref a_tp, .int p1] : List Value).toArray below meth c H locs 0 0 Q (F0 m 51 ls []) := by
      intro H locs ls hP hD hS hl
      obtain ⟨rfl, rfl⟩ := q_inj2 (Option.some.inj hf)
      rw [hQ]
      exact q_vret (pc := 51) hx hb hr hlocks hP hD hS dX8_add_51
    have LP3 : ∀ (n3 : Nat) (v2 : Int32) (f3 : Nat → Int32) (v4 : Int32) (H : Heap) (locs : List Loc) (ls : Array Slot), f_Tape_add_L3 p1 n3 v2 f3 v4 = some (f5, v6) → va_P D vwCl ((a_tp, .inr (8, [.ref a_tp_bytes, .int v4])) :: (a_tp_bytes, .inl (ci 0, 200, .inl f3)) :: Rw) H → va_D A ((a_tp, .inr (8, [.ref a_tp_bytes, .int v4])) :: (a_tp_bytes, .inl (ci 0, 200, .inl f3)) :: Rw) → va_S A s.heap H locs → lv_has ls 3 [(0, .ref a_tp), (1, .int p1), (2, .int v2)] → W p l e ({ frames := 0, cells := 0, slots := 0, locals := 0 } : Room) s m ([.ref a_tp, .int p1] : List Value).toArray below meth c H locs 0 0 Q (F0 m 3 ls []) := by
      intro n3
      induction n3 with
      | zero => intro v2 f3 v4 H locs ls hf; rw [f_Tape_add_L3] at hf; cases hf
      | succ n3 ih3 =>
        intro v2 f3 v4 H locs ls hf hP hD hS hl
        rw [f_Tape_add_L3] at hf
        refine lv_iload_n (pc := 3) hx hb dX8_add_3 rfl (lv_at hl 2 rfl) ?_
        refine q_if_lt (pc := 4) (tgt := 51) hx hb dX8_add_4 (by decide) rfl hf (fun hf => ?_) (fun hf => ?_)
        · obtain ⟨rfl, rfl⟩ := q_inj2 (Option.some.inj hf)
          exact JE3 _ _ _ hP hD hS (lv_sub hl [] rfl)
        · refine lv_aload_n (pc := 7) hx hb dX8_add_7 rfl (lv_at hl 0 rfl) ?_
          refine va_get (pc := 8) (D := D) (ci := 8) (v := .int v4) (C := RX8) (T := TX8) (N := 2) hx hb hts hinX8 hown hK hP 0 rfl rfl 1 (by decide) w_1 (fun _ h9 => h9) rfl dX8_add_8 ?_
          refine lv_aload_n (pc := 11) hx hb dX8_add_11 rfl (lv_at hl 0 rfl) ?_
          refine va_get (pc := 12) (D := D) (ci := 8) (v := .ref a_tp_bytes) (C := RX8) (T := TX8) (N := 2) hx hb hts hinX8 hown hK hP 0 rfl rfl 0 (by decide) w_2 (fun _ h9 => h9) rfl dX8_add_12 ?_
          refine va_alen (pc := 15) (v := 200) hx hb hK hP 1 0 rfl rfl rfl dX8_add_15 ?_
          refine q_icmp_ge (pc := 16) (tgt := 51) hx hb dX8_add_16 (by decide) rfl hf (fun hf => ?_) (fun hf => ?_)
          · obtain ⟨rfl, rfl⟩ := q_inj2 (Option.some.inj hf)
            exact JE3 _ _ _ hP hD hS (lv_sub hl [] rfl)
          · refine lv_aload_n (pc := 19) hx hb dX8_add_19 rfl (lv_at hl 0 rfl) ?_
            refine va_get (pc := 20) (D := D) (ci := 8) (v := .ref a_tp_bytes) (C := RX8) (T := TX8) (N := 2) hx hb hts hinX8 hown hK hP 0 rfl rfl 0 (by decide) w_2 (fun _ h9 => h9) rfl dX8_add_20 ?_
            refine lv_aload_n (pc := 23) hx hb dX8_add_23 rfl (lv_at hl 0 rfl) ?_
            refine va_get (pc := 24) (D := D) (ci := 8) (v := .int v4) (C := RX8) (T := TX8) (N := 2) hx hb hts hinX8 hown hK hP 0 rfl rfl 1 (by decide) w_1 (fun _ h9 => h9) rfl dX8_add_24 ?_
            refine lv_iload_n (pc := 27) hx hb dX8_add_27 rfl (lv_at hl 1 rfl) ?_
            refine lv_iload_n (pc := 28) hx hb dX8_add_28 rfl (lv_at hl 2 rfl) ?_
            refine lv_ishr (pc := 29) hx hb dX8_add_29 ?_
            refine lv_sipush (pc := 30) (v := 255) hx hb dX8_add_30 (by decide) ?_
            refine lv_iand (pc := 33) hx hb dX8_add_33 ?_
            refine q_iast (pc := 34) hx hb hK hP hD hS 1 0 hf rfl rfl dX8_add_34 (fun f7 H locs hf hP hD hS => ?_)
            obtain ⟨hP, hD⟩ : va_PD D A ((a_tp, .inr (8, [.ref a_tp_bytes, .int v4])) :: (a_tp_bytes, .inl (ci 0, 200, .inl f7)) :: Rw) H := ⟨hP, hD⟩
            refine lv_aload_n (pc := 35) hx hb dX8_add_35 rfl (lv_at hl 0 rfl) ?_
            refine lv_dup (pc := 36) hx hb dX8_add_36 rfl ?_
            refine va_get (pc := 37) (D := D) (ci := 8) (v := .int v4) (C := RX8) (T := TX8) (N := 2) hx hb hts hinX8 hown hK hP 0 rfl rfl 1 (by decide) w_1 (fun _ h9 => h9) rfl dX8_add_37 ?_
            refine lv_iconst (pc := 40) (v := 1) hx hb dX8_add_40 (by decide) ?_
            refine lv_iadd (pc := 41) hx hb dX8_add_41 ?_
            obtain ⟨v8, ev8, hf⟩ := q_nm_e hf
            refine q_topi ev8 ?_
            refine va_put (pc := 42) (D := D) (ci := 8) (v := .int v8) (ty := .int) (C := RX8) (T := TX8) (N := 2) hx hb hts hinX8 tyX8 tyX8_ok nmX8 hown hK hP hD hS 0 rfl rfl 1 (by decide) w_1 (fun _ h9 => h9) rfl (by decide +kernel) rfl rfl (Nat.le_of_ble_eq_true rfl) dX8_add_42 (fun H locs hP hD hS => ?_)
            obtain ⟨hP, hD⟩ : va_PD D A ((a_tp, .inr (8, [.ref a_tp_bytes, .int v8])) :: (a_tp_bytes, .inl (ci 0, 200, .inl f7)) :: Rw) H := ⟨hP, hD⟩
            obtain ⟨v9, ev9, hf⟩ := q_nm_e hf
            refine lv_iinc (pc := 45) (v := v9) (lv' := [(2, .int v9), (0, .ref a_tp), (1, .int p1)]) hx hb dX8_add_45 hl (k := 2) rfl (by rw [ev9]; rfl) (by decide) rfl (fun ls hl => ?_)
            refine lv_goto (pc := 48) (tgt := 3) hx hb dX8_add_48 (by decide) ?_
            exact ih3 v9 f7 v8 _ _ _ hf hP hD hS (lv_sub hl [1, 2, 0] rfl)
    exact LP3 N v1 tp_bytes tp_length _ _ _ hm3 hP hD hS (lv_sub hl [1, 2, 0] rfl)
  exact hgo _ _ rfl hP hS
/-! X8_blankFrom -/
set_option maxRecDepth 100000 in
set_option maxHeartbeats 4000000 in
theorem c_Tape_blankFrom (l : Launch) (D : va_G) (ci : Nat → ClassId) (A : Nat → Prop) (sa : Nat → Nat) (N : Nat) (Rw : va_W) (a_tp : Nat) (a_tp_bytes : Nat) (tp_length : Int32) (tp_bytes : Nat → Int32) (p1 : Int32) (p2 : Int32) (r : Int32) (hf : f_Tape_blankFrom N tp_bytes tp_length p1 p2 = some r) : Met l yX8_blankFrom wsX8_blankFrom ({ frames := 0, cells := 0, slots := 0, locals := 0 }) (va_Pc [.ref a_tp, .int p1, .int p2] (q_N D ci A sa ((a_tp, .inr (8, [.ref a_tp_bytes, .int tp_length])) :: (a_tp_bytes, .inl (ci 0, 200, .inl tp_bytes)) :: Rw))) (q_R (some (.int r))) 0 0 A := by
  refine q_ofW (cc := cX8_blankFrom) (maxL := 4) (ret := (some .int)) [.ref a_tp, .int p1, .int p2] (plainFor_of_name (by decide)) rfl (Nat.le_of_ble_eq_true rfl) ?_
  intro p e s m below meth c ls Q hQ hx hb hml hr hts hown hlocks hK hA hZ hP hD hS hl
  have hl : lv_has ls 4 [(0, .ref a_tp), (1, .int p1), (2, .int p2)] := hl
  have hown : s.vm.findClass RX8 = some m.cls := hown
  have hinX8 : ∀ w ∈ wsX80, w ∈ wsX8_blankFrom := fun _ h => List.mem_cons_of_mem _ (inWX80 _ h)
  have w_1 := hts (Cond.fieldLink RX8 15 "SheetNames$Tape" "length" "I") (List.mem_cons_of_mem _ t_w837)
  have w_2 := hts (Cond.fieldLink RX8 9 "SheetNames$Tape" "bytes" "[I") (List.mem_cons_of_mem _ t_w838)
  unfold f_Tape_blankFrom at hf
  have hgo : ∀ (H : Heap) (locs : List Loc), H = s.heap → va_P D vwCl ((a_tp, .inr (8, [.ref a_tp_bytes, .int tp_length])) :: (a_tp_bytes, .inl (ci 0, 200, .inl tp_bytes)) :: Rw) H → va_S A s.heap H locs → W p l e ({ frames := 0, cells := 0, slots := 0, locals := 0 } : Room) s m ([.ref a_tp, .int p1, .int p2] : List Value).toArray below meth c H locs 0 0 Q (F0 m 0 ls []) := by
    intro H locs hH hP hS
    subst hH
    refine lv_iload_n (pc := 0) hx hb dX8_blankFrom_0 rfl (lv_at hl 1 rfl) ?_
    refine lv_istore_n (pc := 1) (lv' := [(3, .int p1), (0, .ref a_tp), (1, .int p1), (2, .int p2)]) hx hb dX8_blankFrom_1 rfl hl (by decide) rfl (fun ls hl => ?_)
    obtain ⟨k2, o2_, ek2, hm2, hk2⟩ := q_s0_k hf
    have JE2 : ∀  (H : Heap) (locs : List Loc) (ls : Array Slot), k2 = some r → H = s.heap → va_S A s.heap H locs → lv_has ls 4 [(2, .int p2)] → W p l e ({ frames := 0, cells := 0, slots := 0, locals := 0 } : Room) s m ([.ref a_tp, .int p1, .int p2] : List Value).toArray below meth c H locs 0 0 Q (F0 m 34 ls []) := by
      intro  H locs ls hf hHs hS hl
      subst hHs
      have hf := (ek2).symm.trans hf
      refine lv_iload_n (pc := 34) hx hb dX8_blankFrom_34 rfl (lv_at hl 0 rfl) ?_
      obtain rfl := Option.some.inj hf
      rw [hQ]
      exact q_iretr (pc := 35) hx hb hr hlocks rfl hS dX8_blankFrom_35
    have LP2 : ∀ (n2 : Nat) (v1 : Int32) (H : Heap) (locs : List Loc) (ls : Array Slot), f_Tape_blankFrom_L2 p2 tp_bytes tp_length n2 v1 = some o2_ → H = s.heap → va_S A s.heap H locs → lv_has ls 4 [(0, .ref a_tp), (2, .int p2), (3, .int v1)] → W p l e ({ frames := 0, cells := 0, slots := 0, locals := 0 } : Room) s m ([.ref a_tp, .int p1, .int p2] : List Value).toArray below meth c H locs 0 0 Q (F0 m 2 ls []) := by
      intro n2
      induction n2 with
      | zero => intro v1 H locs ls hf; rw [f_Tape_blankFrom_L2] at hf; cases hf
      | succ n2 ih2 =>
        intro v1 H locs ls hf hHs hS hl
        subst hHs
        rw [f_Tape_blankFrom_L2] at hf
        refine lv_iload_n (pc := 2) hx hb dX8_blankFrom_2 rfl (lv_at hl 2 rfl) ?_
        refine lv_iload_n (pc := 3) hx hb dX8_blankFrom_3 rfl (lv_at hl 1 rfl) ?_
        refine q_icmp_ge (pc := 4) (tgt := 34) hx hb dX8_blankFrom_4 (by decide) rfl hf (fun hf => ?_) (fun hf => ?_)
        · obtain rfl := Option.some.inj hf
          exact JE2  _ _ _ hk2 rfl hS (lv_sub hl [1] rfl)
        · refine lv_iload_n (pc := 7) hx hb dX8_blankFrom_7 rfl (lv_at hl 2 rfl) ?_
          refine lv_aload_n (pc := 8) hx hb dX8_blankFrom_8 rfl (lv_at hl 0 rfl) ?_
          refine va_get (pc := 9) (D := D) (ci := 8) (v := .int tp_length) (C := RX8) (T := TX8) (N := 2) hx hb hts hinX8 hown hK hP 0 rfl rfl 1 (by decide) w_1 (fun _ h9 => h9) rfl dX8_blankFrom_9 ?_
          refine q_icmp_ge (pc := 12) (tgt := 34) hx hb dX8_blankFrom_12 (by decide) rfl hf (fun hf => ?_) (fun hf => ?_)
          · obtain rfl := Option.some.inj hf
            exact JE2  _ _ _ hk2 rfl hS (lv_sub hl [1] rfl)
          · refine lv_aload_n (pc := 15) hx hb dX8_blankFrom_15 rfl (lv_at hl 0 rfl) ?_
            refine va_get (pc := 16) (D := D) (ci := 8) (v := .ref a_tp_bytes) (C := RX8) (T := TX8) (N := 2) hx hb hts hinX8 hown hK hP 0 rfl rfl 0 (by decide) w_2 (fun _ h9 => h9) rfl dX8_blankFrom_16 ?_
            refine lv_iload_n (pc := 19) hx hb dX8_blankFrom_19 rfl (lv_at hl 2 rfl) ?_
            refine q_iald (pc := 20) hx hb hK hP 1 0 hf rfl rfl dX8_blankFrom_20 (fun v2 hf => ?_)
            refine lv_bipush (pc := 21) (v := 32) hx hb dX8_blankFrom_21 (by decide) ?_
            refine q_icmp_ne (pc := 23) (tgt := 28) hx hb dX8_blankFrom_23 (by decide) rfl hf (fun hf => ?_) (fun hf => ?_)
            · obtain ⟨v3, ev3, hf⟩ := q_nm_e hf
              refine lv_iinc (pc := 28) (v := v3) (lv' := [(3, .int v3), (0, .ref a_tp), (2, .int p2)]) hx hb dX8_blankFrom_28 hl (k := 2) rfl (by rw [ev3]; rfl) (by decide) rfl (fun ls hl => ?_)
              refine lv_goto (pc := 31) (tgt := 2) hx hb dX8_blankFrom_31 (by decide) ?_
              exact ih2 v3 _ _ _ hf rfl hS (lv_sub hl [1, 2, 0] rfl)
            · refine lv_iload_n (pc := 26) hx hb dX8_blankFrom_26 rfl (lv_at hl 2 rfl) ?_
              obtain rfl := Option.some.inj hf
              have hk2 : (v1 : Int32) = r := hk2
              obtain rfl := hk2
              rw [hQ]
              exact q_iretr (pc := 27) hx hb hr hlocks rfl hS dX8_blankFrom_27
    exact LP2 N p1 _ _ _ hm2 rfl hS (lv_sub hl [1, 3, 0] rfl)
  exact hgo _ _ rfl hP hS
/-! J0_coder_7d493 -/
set_option maxRecDepth 100000 in
set_option maxHeartbeats 4000000 in
theorem c_JString_coder_7d493 (l : Launch) (D : va_G) (ci : Nat → ClassId) (A : Nat → Prop) (sa : Nat → Nat) (N : Nat) (Rw : va_W) (k : Nat) (hk : k < 7) (r : Int32) (hf : f_JString_coder_7d493 k = some r) : Met l yJ0_coder_7d493 wsJ0_coder_7d493 ({ frames := 0, cells := 0, slots := 0, locals := 0 }) (va_Pc [.ref (sa (2 + k))] (q_N D ci A sa (Rw))) (q_R (some (.int r))) 0 0 A := by
  refine q_ofW (cc := cJ0_coder_7d493) (maxL := 1) (ret := (some .byte)) [.ref (sa (2 + k))] (plainFor_of_name (by decide)) rfl (Nat.le_of_ble_eq_true rfl) ?_
  intro p e s m below meth c ls Q hQ hx hb hml hr hts hown hlocks hK hA hZ hP hD hS hl
  have hl : lv_has ls 1 [(0, .ref (sa (2 + k)))] := hl
  have hown : s.vm.findClass RJ0 = some m.cls := hown
  have w_1 := hts (Cond.fieldLink RJ0 38 "java/lang/String" "COMPACT_STRINGS" "Z") (List.mem_cons_of_mem _ t_w839)
  have w_2 := hts (Cond.fieldLink RJ0 15 "java/lang/String" "coder" "B") (List.mem_cons_of_mem _ t_w840)
  unfold f_JString_coder_7d493 at hf
  have hgo : ∀ (H : Heap) (locs : List Loc), H = s.heap → va_P D vwCl (Rw) H → va_S A s.heap H locs → W p l e ({ frames := 0, cells := 0, slots := 0, locals := 0 } : Room) s m ([.ref (sa (2 + k))] : List Value).toArray below meth c H locs 0 0 Q (F0 m 0 ls []) := by
    intro H locs hH hP hS
    subst hH
    refine va_gets (pc := 0) hx hb hZ.2.2.2.2.1 hS hown w_1 (fun _ h9 => h9) dJ0_coder_7d493_0 ?_
    refine lv_if_eq (pc := 3) (tgt := 13) hx hb dJ0_coder_7d493_3 (by decide) (fun h9 => absurd h9 (by decide)) (fun _ => ?_)
    refine lv_aload_n (pc := 6) hx hb dJ0_coder_7d493_6 rfl (lv_at hl 0 rfl) ?_
    refine vk_getf (pc := 7) hx hb (hZ.2.2.2.2.2.1.1 k hk).2.1 hS hown w_2 (fun _ h9 => h9) dJ0_coder_7d493_7 ?_
    refine lv_goto (pc := 10) (tgt := 14) hx hb dJ0_coder_7d493_10 (by decide) ?_
    obtain rfl := Option.some.inj hf
    rw [hQ]
    exact q_zretr (pc := 14) hx hb hr rfl hlocks rfl hS dJ0_coder_7d493_14
  exact hgo _ _ rfl hP hS
/-! J0_length_8abf5 -/
set_option maxRecDepth 100000 in
set_option maxHeartbeats 4000000 in
theorem c_JString_length_8abf5 (l : Launch) (D : va_G) (ci : Nat → ClassId) (A : Nat → Prop) (sa : Nat → Nat) (N : Nat) (Rw : va_W) (k : Nat) (hk : k < 7) (r : Int32) (hf : f_JString_length_8abf5 k = some r) : Met l yJ0_length_8abf5 wsJ0_length_8abf5 ({ frames := 1, cells := 0, slots := 0, locals := 20 }) (va_Pc [.ref (sa (2 + k))] (q_N D ci A sa (Rw))) (q_R (some (.int r))) 0 0 A := by
  refine q_ofW (cc := cJ0_length_8abf5) (maxL := 1) (ret := (some .int)) [.ref (sa (2 + k))] (plainFor_of_name (by decide)) rfl (Nat.le_of_ble_eq_true rfl) ?_
  intro p e s m below meth c ls Q hQ hx hb hml hr hts hown hlocks hK hA hZ hP hD hS hl
  have hl : lv_has ls 1 [(0, .ref (sa (2 + k)))] := hl
  have hown : s.vm.findClass RJ0 = some m.cls := hown
  have w_1 := hts (Cond.fieldLink RJ0 9 "java/lang/String" "value" "[B") (List.mem_cons_of_mem _ t_w841)
  unfold f_JString_length_8abf5 at hf
  have hgo : ∀ (H : Heap) (locs : List Loc), H = s.heap → va_P D vwCl (Rw) H → va_S A s.heap H locs → W p l e ({ frames := 1, cells := 0, slots := 0, locals := 20 } : Room) s m ([.ref (sa (2 + k))] : List Value).toArray below meth c H locs 0 0 Q (F0 m 0 ls []) := by
    intro H locs hH hP hS
    subst hH
    refine lv_aload_n (pc := 0) hx hb dJ0_length_8abf5_0 rfl (lv_at hl 0 rfl) ?_
    refine vk_getf (pc := 1) hx hb (hZ.2.2.2.2.2.1.1 k hk).2.2.1 hS hown w_1 (fun _ h9 => h9) dJ0_length_8abf5_1 ?_
    refine va_tlen (pc := 4) (v := (Int32.ofNat (q_slen.getD k 0))) hx hb (hZ.2.2.2.2.2.1.1 k hk).2.2.2 hS rfl dJ0_length_8abf5_4 ?_
    refine lv_aload_n (pc := 5) hx hb dJ0_length_8abf5_5 rfl (lv_at hl 0 rfl) ?_
    obtain ⟨v1, hm6, hf⟩ := q_b1_e hf
    refine q_cVs (pc := 6) (As := []) (rest := [.int (Int32.ofNat (q_slen.getD k 0))]) (v0 := (some (.int v1))) ⟨hx, hb, hml, hown, hts⟩ hK hA hZ hP hD hS hl.1 [] 0 rfl ⟨rfl, rfl, rfl⟩ (c_JString_coder_7d493 l D ci A sa N (Rw) k hk v1 hm6) (vk_recv (N := 7) (adK := fun i => sa (2 + i)) (i := k) hZ.2.2.2.2.2.1 hk hS) (cwV 0 hts gJ0_length_8abf5_J0_coder_7d493 rfl rfl rfl (by decide +kernel) ⟨Nat.le_of_ble_eq_true rfl, Nat.le_of_ble_eq_true rfl⟩) rfl rfl (Nat.le_of_ble_eq_true rfl) dJ0_length_8abf5_6 ⟨Nat.zero_le _, Nat.zero_le _⟩ (fun locs hS => ?_)
    refine lv_ishr (pc := 9) hx hb dJ0_length_8abf5_9 ?_
    obtain rfl := Option.some.inj hf
    rw [hQ]
    exact q_iretr (pc := 10) hx hb hr hlocks rfl hS dJ0_length_8abf5_10
  exact hgo _ _ rfl hP hS
/-! J0_isLatin1_aae02 -/
set_option maxRecDepth 100000 in
set_option maxHeartbeats 4000000 in
theorem c_JString_isLatin1_aae02 (l : Launch) (D : va_G) (ci : Nat → ClassId) (A : Nat → Prop) (sa : Nat → Nat) (N : Nat) (Rw : va_W) (k : Nat) (hk : k < 7) (r : Int32) (hf : f_JString_isLatin1_aae02 k = some r) : Met l yJ0_isLatin1_aae02 wsJ0_isLatin1_aae02 ({ frames := 0, cells := 0, slots := 0, locals := 0 }) (va_Pc [.ref (sa (2 + k))] (q_N D ci A sa (Rw))) (q_R (some (.int r))) 0 0 A := by
  refine q_ofW (cc := cJ0_isLatin1_aae02) (maxL := 1) (ret := (some .boolean)) [.ref (sa (2 + k))] (plainFor_of_name (by decide)) rfl (Nat.le_of_ble_eq_true rfl) ?_
  intro p e s m below meth c ls Q hQ hx hb hml hr hts hown hlocks hK hA hZ hP hD hS hl
  have hl : lv_has ls 1 [(0, .ref (sa (2 + k)))] := hl
  have hown : s.vm.findClass RJ0 = some m.cls := hown
  have w_1 := hts (Cond.fieldLink RJ0 38 "java/lang/String" "COMPACT_STRINGS" "Z") (List.mem_cons_of_mem _ t_w839)
  have w_2 := hts (Cond.fieldLink RJ0 15 "java/lang/String" "coder" "B") (List.mem_cons_of_mem _ t_w840)
  unfold f_JString_isLatin1_aae02 at hf
  have hgo : ∀ (H : Heap) (locs : List Loc), H = s.heap → va_P D vwCl (Rw) H → va_S A s.heap H locs → W p l e ({ frames := 0, cells := 0, slots := 0, locals := 0 } : Room) s m ([.ref (sa (2 + k))] : List Value).toArray below meth c H locs 0 0 Q (F0 m 0 ls []) := by
    intro H locs hH hP hS
    subst hH
    refine va_gets (pc := 0) hx hb hZ.2.2.2.2.1 hS hown w_1 (fun _ h9 => h9) dJ0_isLatin1_aae02_0 ?_
    refine lv_if_eq (pc := 3) (tgt := 17) hx hb dJ0_isLatin1_aae02_3 (by decide) (fun h9 => absurd h9 (by decide)) (fun _ => ?_)
    refine lv_aload_n (pc := 6) hx hb dJ0_isLatin1_aae02_6 rfl (lv_at hl 0 rfl) ?_
    refine vk_getf (pc := 7) hx hb (hZ.2.2.2.2.2.1.1 k hk).2.1 hS hown w_2 (fun _ h9 => h9) dJ0_isLatin1_aae02_7 ?_
    refine lv_if_ne (pc := 10) (tgt := 17) hx hb dJ0_isLatin1_aae02_10 (by decide) (fun h9 => absurd h9 (by decide)) (fun _ => ?_)
    refine lv_iconst (pc := 13) (v := 1) hx hb dJ0_isLatin1_aae02_13 (by decide) ?_
    refine lv_goto (pc := 14) (tgt := 18) hx hb dJ0_isLatin1_aae02_14 (by decide) ?_
    obtain rfl := Option.some.inj hf
    rw [hQ]
    exact q_zretr (pc := 18) hx hb hr rfl hlocks rfl hS dJ0_isLatin1_aae02_18
  exact hgo _ _ rfl hP hS
/-! J3_checkIndex_8e157 -/
set_option maxRecDepth 100000 in
set_option maxHeartbeats 4000000 in
theorem c_JPreconditions_checkIndex_8e157_n (l : Launch) (D : va_G) (ci : Nat → ClassId) (A : Nat → Prop) (sa : Nat → Nat) (N : Nat) (Rw : va_W)  (p1 : Int32) (p2 : Int32) (r : Int32) (hf : f_JPreconditions_checkIndex_8e157 p1 p2 = some r) : Met l yJ3_checkIndex_8e157 wsJ3_checkIndex_8e157 ({ frames := 0, cells := 0, slots := 0, locals := 0 }) (va_Pc [.int p1, .int p2, .null] (q_N D ci A sa (Rw))) (q_R (some (.int r))) 0 0 A := by
  refine q_ofW (cc := cJ3_checkIndex_8e157) (maxL := 3) (ret := (some .int)) [.int p1, .int p2, .null] (plainFor_of_name (by decide)) rfl (Nat.le_of_ble_eq_true rfl) ?_
  intro p e s m below meth c ls Q hQ hx hb hml hr hts hown hlocks hK hA hZ hP hD hS hl
  have hl : lv_has ls 3 [(0, .int p1), (1, .int p2), (2, .null)] := hl
  have hown : s.vm.findClass RJ3 = some m.cls := hown
  unfold f_JPreconditions_checkIndex_8e157 at hf
  have hgo : ∀ (H : Heap) (locs : List Loc), H = s.heap → va_P D vwCl (Rw) H → va_S A s.heap H locs → W p l e ({ frames := 0, cells := 0, slots := 0, locals := 0 } : Room) s m ([.int p1, .int p2, .null] : List Value).toArray below meth c H locs 0 0 Q (F0 m 0 ls []) := by
    intro H locs hH hP hS
    subst hH
    refine lv_iload_n (pc := 0) hx hb dJ3_checkIndex_8e157_0 rfl (lv_at hl 0 rfl) ?_
    obtain ⟨k9, ek9, hf⟩ := q_j0_e hf
    have J9 : ∀  (H : Heap) (locs : List Loc) (ls : Array Slot), k9 = some r → H = s.heap → va_S A s.heap H locs → lv_has ls 3 [(2, .null)] → W p l e ({ frames := 0, cells := 0, slots := 0, locals := 0 } : Room) s m ([.int p1, .int p2, .null] : List Value).toArray below meth c H locs 0 0 Q (F0 m 9 ls []) := by
      intro  H locs ls hf hHs hS hl
      subst hHs
      have hf := (ek9).symm.trans hf
      cases hf
    refine q_if_lt (pc := 1) (tgt := 9) hx hb dJ3_checkIndex_8e157_1 (by decide) rfl hf (fun hf => ?_) (fun hf => ?_)
    · exact J9  _ _ _ hf rfl hS (lv_sub hl [2] rfl)
    · refine lv_iload_n (pc := 4) hx hb dJ3_checkIndex_8e157_4 rfl (lv_at hl 0 rfl) ?_
      refine lv_iload_n (pc := 5) hx hb dJ3_checkIndex_8e157_5 rfl (lv_at hl 1 rfl) ?_
      refine q_icmp_lt (pc := 6) (tgt := 16) hx hb dJ3_checkIndex_8e157_6 (by decide) rfl hf (fun hf => ?_) (fun hf => ?_)
      · refine lv_iload_n (pc := 16) hx hb dJ3_checkIndex_8e157_16 rfl (lv_at hl 0 rfl) ?_
        obtain rfl := Option.some.inj hf
        rw [hQ]
        exact q_iretr (pc := 17) hx hb hr hlocks rfl hS dJ3_checkIndex_8e157_17
      · exact J9  _ _ _ hf rfl hS (lv_sub hl [2] rfl)
  exact hgo _ _ rfl hP hS
set_option maxRecDepth 100000 in
set_option maxHeartbeats 4000000 in
theorem c_JPreconditions_checkIndex_8e157_s (l : Launch) (D : va_G) (ci : Nat → ClassId) (A : Nat → Prop) (sa : Nat → Nat) (N : Nat) (Rw : va_W) (z : Nat) (p1 : Int32) (p2 : Int32) (r : Int32) (hf : f_JPreconditions_checkIndex_8e157 p1 p2 = some r) : Met l yJ3_checkIndex_8e157 wsJ3_checkIndex_8e157 ({ frames := 0, cells := 0, slots := 0, locals := 0 }) (va_Pc [.int p1, .int p2, .ref z] (q_N D ci A sa (Rw))) (q_R (some (.int r))) 0 0 A := by
  refine q_ofW (cc := cJ3_checkIndex_8e157) (maxL := 3) (ret := (some .int)) [.int p1, .int p2, .ref z] (plainFor_of_name (by decide)) rfl (Nat.le_of_ble_eq_true rfl) ?_
  intro p e s m below meth c ls Q hQ hx hb hml hr hts hown hlocks hK hA hZ hP hD hS hl
  have hl : lv_has ls 3 [(0, .int p1), (1, .int p2), (2, .ref z)] := hl
  have hown : s.vm.findClass RJ3 = some m.cls := hown
  unfold f_JPreconditions_checkIndex_8e157 at hf
  have hgo : ∀ (H : Heap) (locs : List Loc), H = s.heap → va_P D vwCl (Rw) H → va_S A s.heap H locs → W p l e ({ frames := 0, cells := 0, slots := 0, locals := 0 } : Room) s m ([.int p1, .int p2, .ref z] : List Value).toArray below meth c H locs 0 0 Q (F0 m 0 ls []) := by
    intro H locs hH hP hS
    subst hH
    refine lv_iload_n (pc := 0) hx hb dJ3_checkIndex_8e157_0 rfl (lv_at hl 0 rfl) ?_
    obtain ⟨k9, ek9, hf⟩ := q_j0_e hf
    have J9 : ∀  (H : Heap) (locs : List Loc) (ls : Array Slot), k9 = some r → H = s.heap → va_S A s.heap H locs → lv_has ls 3 [(2, .ref z)] → W p l e ({ frames := 0, cells := 0, slots := 0, locals := 0 } : Room) s m ([.int p1, .int p2, .ref z] : List Value).toArray below meth c H locs 0 0 Q (F0 m 9 ls []) := by
      intro  H locs ls hf hHs hS hl
      subst hHs
      have hf := (ek9).symm.trans hf
      cases hf
    refine q_if_lt (pc := 1) (tgt := 9) hx hb dJ3_checkIndex_8e157_1 (by decide) rfl hf (fun hf => ?_) (fun hf => ?_)
    · exact J9  _ _ _ hf rfl hS (lv_sub hl [2] rfl)
    · refine lv_iload_n (pc := 4) hx hb dJ3_checkIndex_8e157_4 rfl (lv_at hl 0 rfl) ?_
      refine lv_iload_n (pc := 5) hx hb dJ3_checkIndex_8e157_5 rfl (lv_at hl 1 rfl) ?_
      refine q_icmp_lt (pc := 6) (tgt := 16) hx hb dJ3_checkIndex_8e157_6 (by decide) rfl hf (fun hf => ?_) (fun hf => ?_)
      · refine lv_iload_n (pc := 16) hx hb dJ3_checkIndex_8e157_16 rfl (lv_at hl 0 rfl) ?_
        obtain rfl := Option.some.inj hf
        rw [hQ]
        exact q_iretr (pc := 17) hx hb hr hlocks rfl hS dJ3_checkIndex_8e157_17
      · exact J9  _ _ _ hf rfl hS (lv_sub hl [2] rfl)
  exact hgo _ _ rfl hP hS
set_option maxRecDepth 100000 in
set_option maxHeartbeats 4000000 in
theorem c_JPreconditions_checkIndex_8e157 (l : Launch) (D : va_G) (ci : Nat → ClassId) (A : Nat → Prop) (sa : Nat → Nat) (N : Nat) (Rw : va_W) (fo : Option Nat) (p1 : Int32) (p2 : Int32) (r : Int32) (hf : f_JPreconditions_checkIndex_8e157 p1 p2 = some r) : Met l yJ3_checkIndex_8e157 wsJ3_checkIndex_8e157 ({ frames := 0, cells := 0, slots := 0, locals := 0 }) (va_Pc [.int p1, .int p2, va_rf fo] (q_N D ci A sa (Rw))) (q_R (some (.int r))) 0 0 A := by
  cases fo with
  | none => exact c_JPreconditions_checkIndex_8e157_n l D ci A sa N Rw p1 p2 r hf
  | some z => exact c_JPreconditions_checkIndex_8e157_s l D ci A sa N Rw z p1 p2 r hf
/-! J0_checkIndex_df160 -/
set_option maxRecDepth 100000 in
set_option maxHeartbeats 4000000 in
theorem c_JString_checkIndex_df160 (l : Launch) (D : va_G) (ci : Nat → ClassId) (A : Nat → Prop) (sa : Nat → Nat) (N : Nat) (Rw : va_W) (p1 : Int32) (p2 : Int32) (hf : f_JString_checkIndex_df160 p1 p2 = some ()) : Met l yJ0_checkIndex_df160 wsJ0_checkIndex_df160 ({ frames := 1, cells := 0, slots := 0, locals := 22 }) (va_Pc [.int p1, .int p2] (q_N D ci A sa (Rw))) (q_R none) 0 0 A := by
  refine q_ofW (cc := cJ0_checkIndex_df160) (maxL := 2) (ret := none) [.int p1, .int p2] (plainFor_of_name (by decide)) rfl (Nat.le_of_ble_eq_true rfl) ?_
  intro p e s m below meth c ls Q hQ hx hb hml hr hts hown hlocks hK hA hZ hP hD hS hl
  have hl : lv_has ls 2 [(0, .int p1), (1, .int p2)] := hl
  have hown : s.vm.findClass RJ0 = some m.cls := hown
  have w_1 := hts (Cond.fieldLink RJ0 1053 "jdk/internal/util/Preconditions" "SIOOBE_FORMATTER" "Ljava/util/function/BiFunction;") (List.mem_cons_of_mem _ t_w842)
  unfold f_JString_checkIndex_df160 at hf
  have hgo : ∀ (H : Heap) (locs : List Loc), H = s.heap → va_P D vwCl (Rw) H → va_S A s.heap H locs → W p l e ({ frames := 1, cells := 0, slots := 0, locals := 22 } : Room) s m ([.int p1, .int p2] : List Value).toArray below meth c H locs 0 0 Q (F0 m 0 ls []) := by
    intro H locs hH hP hS
    subst hH
    refine lv_iload_n (pc := 0) hx hb dJ0_checkIndex_df160_0 rfl (lv_at hl 0 rfl) ?_
    refine lv_iload_n (pc := 1) hx hb dJ0_checkIndex_df160_1 rfl (lv_at hl 1 rfl) ?_
    refine va_gets (pc := 2) hx hb hZ.2.2.2.2.2.2.2.1 hS hown w_1 (fun _ h9 => h9) dJ0_checkIndex_df160_2 ?_
    obtain ⟨v1, hm5, hf⟩ := q_b1_e hf
    refine q_cSr (pc := 5) (As := [.int p1, .int p2, q_fo sa]) (rest := []) (v0 := (some (.int v1))) ⟨hx, hb, hml, hown, hts⟩ hK hA hZ hP hD hS hl.1 [] 0 rfl ⟨rfl, rfl, rfl⟩ (c_JPreconditions_checkIndex_8e157 l D ci A sa N (Rw) (if sa 16 = 0 then none else some (sa 16 - 1)) p1 p2 v1 hm5) (va_cwS 3 hts gJ0_checkIndex_df160_J3_checkIndex_8e157 rfl rfl rfl (by decide +kernel) ⟨Nat.le_of_ble_eq_true rfl, Nat.le_of_ble_eq_true rfl⟩) rfl rfl (Nat.le_of_ble_eq_true rfl) dJ0_checkIndex_df160_5 ⟨Nat.zero_le _, Nat.zero_le _⟩ (fun locs hS => ?_)
    refine lv_pop (pc := 8) hx hb dJ0_checkIndex_df160_8 rfl ?_
    rw [hQ]
    exact q_vretr (pc := 9) hx hb hr hlocks rfl hS dJ0_checkIndex_df160_9
  exact hgo _ _ rfl hP hS
/-! J1_charAt_3b067 -/
set_option maxRecDepth 100000 in
set_option maxHeartbeats 4000000 in
theorem c_JStringLatin1_charAt_3b067 (l : Launch) (D : va_G) (ci : Nat → ClassId) (A : Nat → Prop) (sa : Nat → Nat) (N : Nat) (Rw : va_W) (k : Nat) (hk : k < 7) (p2 : Int32) (r : Int32) (hf : f_JStringLatin1_charAt_3b067 k p2 = some r) : Met l yJ1_charAt_3b067 wsJ1_charAt_3b067 ({ frames := 2, cells := 0, slots := 0, locals := 43 }) (va_Pc [.ref (sa (9 + k)), .int p2] (q_N D ci A sa (Rw))) (q_R (some (.int r))) 0 0 A := by
  refine q_ofW (cc := cJ1_charAt_3b067) (maxL := 2) (ret := (some .char)) [.ref (sa (9 + k)), .int p2] (plainFor_of_name (by decide)) rfl (Nat.le_of_ble_eq_true rfl) ?_
  intro p e s m below meth c ls Q hQ hx hb hml hr hts hown hlocks hK hA hZ hP hD hS hl
  have hl : lv_has ls 2 [(0, .ref (sa (9 + k))), (1, .int p2)] := hl
  have hown : s.vm.findClass RJ1 = some m.cls := hown
  unfold f_JStringLatin1_charAt_3b067 at hf
  have hgo : ∀ (H : Heap) (locs : List Loc), H = s.heap → va_P D vwCl (Rw) H → va_S A s.heap H locs → W p l e ({ frames := 2, cells := 0, slots := 0, locals := 43 } : Room) s m ([.ref (sa (9 + k)), .int p2] : List Value).toArray below meth c H locs 0 0 Q (F0 m 0 ls []) := by
    intro H locs hH hP hS
    subst hH
    refine lv_iload_n (pc := 0) hx hb dJ1_charAt_3b067_0 rfl (lv_at hl 1 rfl) ?_
    refine lv_aload_n (pc := 1) hx hb dJ1_charAt_3b067_1 rfl (lv_at hl 0 rfl) ?_
    refine va_tlen (pc := 2) (v := (Int32.ofNat (q_slen.getD k 0))) hx hb (hZ.2.2.2.2.2.1.1 k hk).2.2.2 hS rfl dJ1_charAt_3b067_2 ?_
    obtain ⟨_u3, hm3, hf⟩ := q_b1_e hf
    refine q_cSr (pc := 3) (As := [.int p2, .int (Int32.ofNat (q_slen.getD k 0))]) (rest := []) (v0 := none) ⟨hx, hb, hml, hown, hts⟩ hK hA hZ hP hD hS hl.1 [] 0 rfl ⟨rfl, rfl, rfl⟩ (c_JString_checkIndex_df160 l D ci A sa N (Rw) p2 (Int32.ofNat (q_slen.getD k 0)) hm3) (va_cwS 2 hts gJ1_charAt_3b067_J0_checkIndex_df160 rfl rfl rfl (by decide +kernel) ⟨Nat.le_of_ble_eq_true rfl, Nat.le_of_ble_eq_true rfl⟩) rfl rfl (Nat.le_of_ble_eq_true rfl) dJ1_charAt_3b067_3 ⟨Nat.zero_le _, Nat.zero_le _⟩ (fun locs hS => ?_)
    refine lv_aload_n (pc := 6) hx hb dJ1_charAt_3b067_6 rfl (lv_at hl 0 rfl) ?_
    refine lv_iload_n (pc := 7) hx hb dJ1_charAt_3b067_7 rfl (lv_at hl 1 rfl) ?_
    refine q_sbld (pc := 8) (f := (fun j => (q_sbyt.getD k []).getD j 0)) (N := (q_slen.getD k 0)) hx hb hf (hZ.2.2.2.2.2.1.1 k hk).2.2.2 hS dJ1_charAt_3b067_8 (fun v1 hf => ?_)
    refine lv_sipush (pc := 9) (v := 255) hx hb dJ1_charAt_3b067_9 (by decide) ?_
    refine lv_iand (pc := 12) hx hb dJ1_charAt_3b067_12 ?_
    refine lv_i2c (pc := 13) hx hb dJ1_charAt_3b067_13 rfl ?_
    obtain rfl := Option.some.inj hf
    rw [hQ]
    exact q_zretr (pc := 14) hx hb hr (pk_nc _) hlocks rfl hS dJ1_charAt_3b067_14
  exact hgo _ _ rfl hP hS
/-! J0_charAt_5068e -/
set_option maxRecDepth 100000 in
set_option maxHeartbeats 4000000 in
theorem c_JString_charAt_5068e (l : Launch) (D : va_G) (ci : Nat → ClassId) (A : Nat → Prop) (sa : Nat → Nat) (N : Nat) (Rw : va_W) (k : Nat) (hk : k < 7) (p1 : Int32) (r : Int32) (hf : f_JString_charAt_5068e k p1 = some r) : Met l yJ0_charAt_5068e wsJ0_charAt_5068e ({ frames := 3, cells := 0, slots := 0, locals := 64 }) (va_Pc [.ref (sa (2 + k)), .int p1] (q_N D ci A sa (Rw))) (q_R (some (.int r))) 0 0 A := by
  refine q_ofW (cc := cJ0_charAt_5068e) (maxL := 2) (ret := (some .char)) [.ref (sa (2 + k)), .int p1] (plainFor_of_name (by decide)) rfl (Nat.le_of_ble_eq_true rfl) ?_
  intro p e s m below meth c ls Q hQ hx hb hml hr hts hown hlocks hK hA hZ hP hD hS hl
  have hl : lv_has ls 2 [(0, .ref (sa (2 + k))), (1, .int p1)] := hl
  have hown : s.vm.findClass RJ0 = some m.cls := hown
  have w_1 := hts (Cond.fieldLink RJ0 9 "java/lang/String" "value" "[B") (List.mem_cons_of_mem _ t_w841)
  unfold f_JString_charAt_5068e at hf
  have hgo : ∀ (H : Heap) (locs : List Loc), H = s.heap → va_P D vwCl (Rw) H → va_S A s.heap H locs → W p l e ({ frames := 3, cells := 0, slots := 0, locals := 64 } : Room) s m ([.ref (sa (2 + k)), .int p1] : List Value).toArray below meth c H locs 0 0 Q (F0 m 0 ls []) := by
    intro H locs hH hP hS
    subst hH
    refine lv_aload_n (pc := 0) hx hb dJ0_charAt_5068e_0 rfl (lv_at hl 0 rfl) ?_
    obtain ⟨v1, hm1, hf⟩ := q_b1_e hf
    refine q_cVs (pc := 1) (As := []) (rest := []) (v0 := (some (.int v1))) ⟨hx, hb, hml, hown, hts⟩ hK hA hZ hP hD hS hl.1 [] 0 rfl ⟨rfl, rfl, rfl⟩ (c_JString_isLatin1_aae02 l D ci A sa N (Rw) k hk v1 hm1) (vk_recv (N := 7) (adK := fun i => sa (2 + i)) (i := k) hZ.2.2.2.2.2.1 hk hS) (cwV 0 hts gJ0_charAt_5068e_J0_isLatin1_aae02 rfl rfl rfl (by decide +kernel) ⟨Nat.le_of_ble_eq_true rfl, Nat.le_of_ble_eq_true rfl⟩) rfl rfl (Nat.le_of_ble_eq_true rfl) dJ0_charAt_5068e_1 ⟨Nat.zero_le _, Nat.zero_le _⟩ (fun locs hS => ?_)
    refine q_if_eq (pc := 4) (tgt := 16) hx hb dJ0_charAt_5068e_4 (by decide) rfl hf (fun hf => ?_) (fun hf => ?_)
    · cases hf
    · refine lv_aload_n (pc := 7) hx hb dJ0_charAt_5068e_7 rfl (lv_at hl 0 rfl) ?_
      refine vk_getf (pc := 8) hx hb (hZ.2.2.2.2.2.1.1 k hk).2.2.1 hS hown w_1 (fun _ h9 => h9) dJ0_charAt_5068e_8 ?_
      refine lv_iload_n (pc := 11) hx hb dJ0_charAt_5068e_11 rfl (lv_at hl 1 rfl) ?_
      obtain ⟨v2, hm12, hf⟩ := q_b1_e hf
      refine q_cSr (pc := 12) (As := [.ref (sa (9 + k)), .int p1]) (rest := []) (v0 := (some (.int v2))) ⟨hx, hb, hml, hown, hts⟩ hK hA hZ hP hD hS hl.1 [] 0 rfl ⟨rfl, rfl, rfl⟩ (c_JStringLatin1_charAt_3b067 l D ci A sa N (Rw) k hk p1 v2 hm12) (va_cwS 2 hts gJ0_charAt_5068e_J1_charAt_3b067 rfl rfl rfl (by decide +kernel) ⟨Nat.le_of_ble_eq_true rfl, Nat.le_of_ble_eq_true rfl⟩) rfl rfl (Nat.le_of_ble_eq_true rfl) dJ0_charAt_5068e_12 ⟨Nat.zero_le _, Nat.zero_le _⟩ (fun locs hS => ?_)
      obtain ⟨hn9, hf⟩ := q_ch_e hf
      obtain rfl := Option.some.inj hf
      rw [hQ]
      exact q_zretr (pc := 15) hx hb hr hn9 hlocks rfl hS dJ0_charAt_5068e_15
  exact hgo _ _ rfl hP hS
/-! X8_isWord -/
set_option maxRecDepth 100000 in
set_option maxHeartbeats 4000000 in
theorem c_Tape_isWord (l : Launch) (D : va_G) (ci : Nat → ClassId) (A : Nat → Prop) (sa : Nat → Nat) (N : Nat) (Rw : va_W) (k : Nat) (hk : k < 7) (a_tp : Nat) (a_tp_bytes : Nat) (tp_length : Int32) (tp_bytes : Nat → Int32) (p2 : Int32) (r : Int32) (hf : f_Tape_isWord N k tp_bytes tp_length p2 = some r) : Met l yX8_isWord wsX8_isWord ({ frames := 4, cells := 0, slots := 0, locals := 85 }) (va_Pc [.ref a_tp, .ref (sa (2 + k)), .int p2] (q_N D ci A sa ((a_tp, .inr (8, [.ref a_tp_bytes, .int tp_length])) :: (a_tp_bytes, .inl (ci 0, 200, .inl tp_bytes)) :: Rw))) (q_R (some (.int r))) 0 0 A := by
  refine q_ofW (cc := cX8_isWord) (maxL := 4) (ret := (some .boolean)) [.ref a_tp, .ref (sa (2 + k)), .int p2] (plainFor_of_name (by decide)) rfl (Nat.le_of_ble_eq_true rfl) ?_
  intro p e s m below meth c ls Q hQ hx hb hml hr hts hown hlocks hK hA hZ hP hD hS hl
  have hl : lv_has ls 4 [(0, .ref a_tp), (1, .ref (sa (2 + k))), (2, .int p2)] := hl
  have hown : s.vm.findClass RX8 = some m.cls := hown
  have hinX8 : ∀ w ∈ wsX80, w ∈ wsX8_isWord := fun _ h => List.mem_cons_of_mem _ (inWX80 _ h)
  have w_1 := hts (Cond.fieldLink RX8 15 "SheetNames$Tape" "length" "I") (List.mem_cons_of_mem _ t_w837)
  have w_2 := hts (Cond.fieldLink RX8 9 "SheetNames$Tape" "bytes" "[I") (List.mem_cons_of_mem _ t_w838)
  unfold f_Tape_isWord at hf
  have hgo : ∀ (H : Heap) (locs : List Loc), H = s.heap → va_P D vwCl ((a_tp, .inr (8, [.ref a_tp_bytes, .int tp_length])) :: (a_tp_bytes, .inl (ci 0, 200, .inl tp_bytes)) :: Rw) H → va_S A s.heap H locs → W p l e ({ frames := 4, cells := 0, slots := 0, locals := 85 } : Room) s m ([.ref a_tp, .ref (sa (2 + k)), .int p2] : List Value).toArray below meth c H locs 0 0 Q (F0 m 0 ls []) := by
    intro H locs hH hP hS
    subst hH
    refine lv_aload_n (pc := 0) hx hb dX8_isWord_0 rfl (lv_at hl 1 rfl) ?_
    obtain ⟨v1, hm1, hf⟩ := q_b1_e hf
    refine q_cVs (pc := 1) (As := []) (rest := []) (v0 := (some (.int v1))) ⟨hx, hb, hml, hown, hts⟩ hK hA hZ hP hD hS hl.1 [] 2 rfl ⟨rfl, rfl, rfl⟩ (c_JString_length_8abf5 l D ci A sa N (Rw) k hk v1 hm1) (vk_recv (N := 7) (adK := fun i => sa (2 + i)) (i := k) hZ.2.2.2.2.2.1 hk hS) (cwV 0 hts gX8_isWord_J0_length_8abf5 rfl rfl rfl (by decide +kernel) ⟨Nat.le_of_ble_eq_true rfl, Nat.le_of_ble_eq_true rfl⟩) rfl rfl (Nat.le_of_ble_eq_true rfl) dX8_isWord_1 ⟨Nat.zero_le _, Nat.zero_le _⟩ (fun locs hS => ?_)
    refine lv_iload_n (pc := 4) hx hb dX8_isWord_4 rfl (lv_at hl 2 rfl) ?_
    refine q_icmp_ne (pc := 5) (tgt := 16) hx hb dX8_isWord_5 (by decide) rfl hf (fun hf => ?_) (fun hf => ?_)
    · refine lv_iconst (pc := 16) (v := 0) hx hb dX8_isWord_16 (by decide) ?_
      obtain rfl := Option.some.inj hf
      rw [hQ]
      exact q_zretr (pc := 17) hx hb hr rfl hlocks rfl hS dX8_isWord_17
    · refine lv_iload_n (pc := 8) hx hb dX8_isWord_8 rfl (lv_at hl 2 rfl) ?_
      refine lv_aload_n (pc := 9) hx hb dX8_isWord_9 rfl (lv_at hl 0 rfl) ?_
      refine va_get (pc := 10) (D := D) (ci := 8) (v := .int tp_length) (C := RX8) (T := TX8) (N := 2) hx hb hts hinX8 hown hK hP 0 rfl rfl 1 (by decide) w_1 (fun _ h9 => h9) rfl dX8_isWord_10 ?_
      refine q_icmp_le (pc := 13) (tgt := 18) hx hb dX8_isWord_13 (by decide) rfl hf (fun hf => ?_) (fun hf => ?_)
      · refine lv_iconst (pc := 18) (v := 0) hx hb dX8_isWord_18 (by decide) ?_
        obtain ⟨v2, ev2, hf⟩ := q_nm_e hf
        refine q_topi ev2 ?_
        refine lv_istore_n (pc := 19) (lv' := [(3, .int v2), (0, .ref a_tp), (1, .ref (sa (2 + k))), (2, .int p2)]) hx hb dX8_isWord_19 rfl hl (by decide) rfl (fun ls hl => ?_)
        obtain ⟨k20, o20_, ek20, hm20, hk20⟩ := q_s0_k hf
        have JE20 : ∀  (H : Heap) (locs : List Loc) (ls : Array Slot), k20 = some r → H = s.heap → va_S A s.heap H locs → lv_has ls 4 [] → W p l e ({ frames := 4, cells := 0, slots := 0, locals := 85 } : Room) s m ([.ref a_tp, .ref (sa (2 + k)), .int p2] : List Value).toArray below meth c H locs 0 0 Q (F0 m 47 ls []) := by
          intro  H locs ls hf hHs hS hl
          subst hHs
          have hf := (ek20).symm.trans hf
          refine lv_iconst (pc := 47) (v := 1) hx hb dX8_isWord_47 (by decide) ?_
          obtain rfl := Option.some.inj hf
          rw [hQ]
          exact q_zretr (pc := 48) hx hb hr rfl hlocks rfl hS dX8_isWord_48
        have LP20 : ∀ (n20 : Nat) (v3 : Int32) (H : Heap) (locs : List Loc) (ls : Array Slot), f_Tape_isWord_L20 k p2 tp_bytes n20 v3 = some o20_ → H = s.heap → va_S A s.heap H locs → lv_has ls 4 [(0, .ref a_tp), (1, .ref (sa (2 + k))), (2, .int p2), (3, .int v3)] → W p l e ({ frames := 4, cells := 0, slots := 0, locals := 85 } : Room) s m ([.ref a_tp, .ref (sa (2 + k)), .int p2] : List Value).toArray below meth c H locs 0 0 Q (F0 m 20 ls []) := by
          intro n20
          induction n20 with
          | zero => intro v3 H locs ls hf; rw [f_Tape_isWord_L20] at hf; cases hf
          | succ n20 ih20 =>
            intro v3 H locs ls hf hHs hS hl
            subst hHs
            rw [f_Tape_isWord_L20] at hf
            refine lv_iload_n (pc := 20) hx hb dX8_isWord_20 rfl (lv_at hl 3 rfl) ?_
            refine lv_iload_n (pc := 21) hx hb dX8_isWord_21 rfl (lv_at hl 2 rfl) ?_
            refine q_icmp_ge (pc := 22) (tgt := 47) hx hb dX8_isWord_22 (by decide) rfl hf (fun hf => ?_) (fun hf => ?_)
            · obtain rfl := Option.some.inj hf
              exact JE20  _ _ _ hk20 rfl hS (lv_sub hl [] rfl)
            · refine lv_aload_n (pc := 25) hx hb dX8_isWord_25 rfl (lv_at hl 0 rfl) ?_
              refine va_get (pc := 26) (D := D) (ci := 8) (v := .ref a_tp_bytes) (C := RX8) (T := TX8) (N := 2) hx hb hts hinX8 hown hK hP 0 rfl rfl 0 (by decide) w_2 (fun _ h9 => h9) rfl dX8_isWord_26 ?_
              refine lv_iload_n (pc := 29) hx hb dX8_isWord_29 rfl (lv_at hl 3 rfl) ?_
              refine q_iald (pc := 30) hx hb hK hP 1 0 hf rfl rfl dX8_isWord_30 (fun v4 hf => ?_)
              refine lv_aload_n (pc := 31) hx hb dX8_isWord_31 rfl (lv_at hl 1 rfl) ?_
              refine lv_iload_n (pc := 32) hx hb dX8_isWord_32 rfl (lv_at hl 3 rfl) ?_
              obtain ⟨v5, hm33, hf⟩ := q_b1_e hf
              refine q_cVs (pc := 33) (As := [.int v3]) (rest := [.int v4]) (v0 := (some (.int v5))) ⟨hx, hb, hml, hown, hts⟩ hK hA hZ hP hD hS hl.1 [] 2 rfl ⟨rfl, rfl, rfl⟩ (c_JString_charAt_5068e l D ci A sa N (Rw) k hk v3 v5 hm33) (vk_recv (N := 7) (adK := fun i => sa (2 + i)) (i := k) hZ.2.2.2.2.2.1 hk hS) (cwV 1 hts gX8_isWord_J0_charAt_5068e rfl rfl rfl (by decide +kernel) ⟨Nat.le_of_ble_eq_true rfl, Nat.le_of_ble_eq_true rfl⟩) rfl rfl (Nat.le_of_ble_eq_true rfl) dX8_isWord_33 ⟨Nat.zero_le _, Nat.zero_le _⟩ (fun locs hS => ?_)
              refine q_icmp_eq (pc := 36) (tgt := 41) hx hb dX8_isWord_36 (by decide) rfl hf (fun hf => ?_) (fun hf => ?_)
              · obtain ⟨v6, ev6, hf⟩ := q_nm_e hf
                refine lv_iinc (pc := 41) (v := v6) (lv' := [(3, .int v6), (0, .ref a_tp), (1, .ref (sa (2 + k))), (2, .int p2)]) hx hb dX8_isWord_41 hl (k := 3) rfl (by rw [ev6]; rfl) (by decide) rfl (fun ls hl => ?_)
                refine lv_goto (pc := 44) (tgt := 20) hx hb dX8_isWord_44 (by decide) ?_
                exact ih20 v6 _ _ _ hf rfl hS (lv_sub hl [1, 2, 3, 0] rfl)
              · refine lv_iconst (pc := 39) (v := 0) hx hb dX8_isWord_39 (by decide) ?_
                obtain rfl := Option.some.inj hf
                have hk20 : (0 : Int32) = r := hk20
                obtain rfl := hk20
                rw [hQ]
                exact q_zretr (pc := 40) hx hb hr rfl hlocks rfl hS dX8_isWord_40
        exact LP20 N v2 _ _ _ hm20 rfl hS (lv_sub hl [1, 2, 3, 0] rfl)
      · refine lv_iconst (pc := 16) (v := 0) hx hb dX8_isWord_16 (by decide) ?_
        obtain rfl := Option.some.inj hf
        rw [hQ]
        exact q_zretr (pc := 17) hx hb hr rfl hlocks rfl hS dX8_isWord_17
  exact hgo _ _ rfl hP hS
end
section
/-! X3_fail -/
set_option maxRecDepth 100000 in
set_option maxHeartbeats 4000000 in
theorem c_NameReader_fail (l : Launch) (D : va_G) (ci : Nat → ClassId) (A : Nat → Prop) (sa : Nat → Nat) (N : Nat) (Rw : va_W) (a_rd : Nat) (a_g : Nat) (a_tp : Nat) (rd_next : Int32) (rd_end : Int32) (rd_level : Int32) (rd_key : Int32) (rd_fault : Int32) (rd_faultPlace : Int32) (rd_endedSoon : Int32) (p1 : Int32) (p2 : Int32) (r : Int32) (o1 : Int32) (o2 : Int32) (o3 : Int32) (hf : f_NameReader_fail rd_fault rd_faultPlace rd_endedSoon p1 p2 = some (r, o1, o2, o3)) : Met l yX3_fail wsX3_fail ({ frames := 0, cells := 0, slots := 0, locals := 0 }) (va_Pc [.ref a_rd, .int p1, .int p2] (q_N D ci A sa ((a_rd, .inr (3, [.ref a_g, .ref a_tp, .int rd_next, .int rd_end, .int rd_level, .int rd_key, .int rd_fault, .int rd_faultPlace, .int rd_endedSoon])) :: Rw))) (q_Q (some (.int r)) (q_O D A ((a_rd, .inr (3, [.ref a_g, .ref a_tp, .int rd_next, .int rd_end, .int rd_level, .int rd_key, .int o1, .int o2, .int o3])) :: Rw)) A) 0 0 A := by
  refine q_ofW (cc := cX3_fail) (maxL := 3) (ret := (some .boolean)) [.ref a_rd, .int p1, .int p2] (plainFor_of_name (by decide)) rfl (Nat.le_of_ble_eq_true rfl) ?_
  intro p e s m below meth c ls Q hQ hx hb hml hr hts hown hlocks hK hA hZ hP hD hS hl
  have hl : lv_has ls 3 [(0, .ref a_rd), (1, .int p1), (2, .int p2)] := hl
  have hown : s.vm.findClass RX3 = some m.cls := hown
  have hinX3 : ∀ w ∈ wsX30, w ∈ wsX3_fail := fun _ h => List.mem_cons_of_mem _ (inWX30 _ h)
  have w_1 := hts (Cond.fieldLink RX3 24 "SheetNames$NameReader" "fault" "I") (List.mem_cons_of_mem _ t_w843)
  have w_2 := hts (Cond.fieldLink RX3 27 "SheetNames$NameReader" "faultPlace" "I") (List.mem_cons_of_mem _ t_w844)
  have w_3 := hts (Cond.fieldLink RX3 30 "SheetNames$NameReader" "endedSoon" "Z") (List.mem_cons_of_mem _ t_w845)
  unfold f_NameReader_fail at hf
  have hgo : ∀ (H : Heap) (locs : List Loc), H = s.heap → va_P D vwCl ((a_rd, .inr (3, [.ref a_g, .ref a_tp, .int rd_next, .int rd_end, .int rd_level, .int rd_key, .int rd_fault, .int rd_faultPlace, .int rd_endedSoon])) :: Rw) H → va_S A s.heap H locs → W p l e ({ frames := 0, cells := 0, slots := 0, locals := 0 } : Room) s m ([.ref a_rd, .int p1, .int p2] : List Value).toArray below meth c H locs 0 0 Q (F0 m 0 ls []) := by
    intro H locs hH hP hS
    refine lv_aload_n (pc := 0) hx hb dX3_fail_0 rfl (lv_at hl 0 rfl) ?_
    refine lv_iload_n (pc := 1) hx hb dX3_fail_1 rfl (lv_at hl 1 rfl) ?_
    refine va_put (pc := 2) (D := D) (ci := 3) (v := .int p1) (ty := .int) (C := RX3) (T := TX3) (N := 9) hx hb hts hinX3 tyX3 tyX3_ok nmX3 hown hK hP hD hS 0 rfl rfl 6 (by decide) w_1 (fun _ h9 => h9) rfl (by decide +kernel) rfl rfl (Nat.le_of_ble_eq_true rfl) dX3_fail_2 (fun H locs hP hD hS => ?_)
    obtain ⟨hP, hD⟩ : va_PD D A ((a_rd, .inr (3, [.ref a_g, .ref a_tp, .int rd_next, .int rd_end, .int rd_level, .int rd_key, .int p1, .int rd_faultPlace, .int rd_endedSoon])) :: Rw) H := ⟨hP, hD⟩
    refine lv_aload_n (pc := 5) hx hb dX3_fail_5 rfl (lv_at hl 0 rfl) ?_
    refine lv_iload_n (pc := 6) hx hb dX3_fail_6 rfl (lv_at hl 2 rfl) ?_
    refine va_put (pc := 7) (D := D) (ci := 3) (v := .int p2) (ty := .int) (C := RX3) (T := TX3) (N := 9) hx hb hts hinX3 tyX3 tyX3_ok nmX3 hown hK hP hD hS 0 rfl rfl 7 (by decide) w_2 (fun _ h9 => h9) rfl (by decide +kernel) rfl rfl (Nat.le_of_ble_eq_true rfl) dX3_fail_7 (fun H locs hP hD hS => ?_)
    obtain ⟨hP, hD⟩ : va_PD D A ((a_rd, .inr (3, [.ref a_g, .ref a_tp, .int rd_next, .int rd_end, .int rd_level, .int rd_key, .int p1, .int p2, .int rd_endedSoon])) :: Rw) H := ⟨hP, hD⟩
    refine lv_aload_n (pc := 10) hx hb dX3_fail_10 rfl (lv_at hl 0 rfl) ?_
    refine lv_iconst (pc := 11) (v := 0) hx hb dX3_fail_11 (by decide) ?_
    refine va_put (pc := 12) (D := D) (ci := 3) (v := .int 0) (ty := .boolean) (C := RX3) (T := TX3) (N := 9) hx hb hts hinX3 tyX3 tyX3_ok nmX3 hown hK hP hD hS 0 rfl rfl 8 (by decide) w_3 (fun _ h9 => h9) rfl (by decide +kernel) rfl rfl (Nat.le_of_ble_eq_true rfl) dX3_fail_12 (fun H locs hP hD hS => ?_)
    obtain ⟨hP, hD⟩ : va_PD D A ((a_rd, .inr (3, [.ref a_g, .ref a_tp, .int rd_next, .int rd_end, .int rd_level, .int rd_key, .int p1, .int p2, .int 0])) :: Rw) H := ⟨hP, hD⟩
    refine lv_iconst (pc := 15) (v := 0) hx hb dX3_fail_15 (by decide) ?_
    obtain ⟨e90, e91, e92, e93⟩ := q_inj4 (Option.some.inj hf)
    rw [hQ, ← e90, ← e91, ← e92, ← e93]
    exact q_zret (pc := 16) hx hb hr rfl hlocks hP hD hS dX3_fail_16
  exact hgo _ _ rfl hP hS
/-! X3_failHere -/
set_option maxRecDepth 100000 in
set_option maxHeartbeats 4000000 in
theorem c_NameReader_failHere (l : Launch) (D : va_G) (ci : Nat → ClassId) (A : Nat → Prop) (sa : Nat → Nat) (N : Nat) (Rw : va_W) (a_rd : Nat) (a_g : Nat) (a_tp : Nat) (rd_next : Int32) (rd_end : Int32) (rd_level : Int32) (rd_key : Int32) (rd_fault : Int32) (rd_faultPlace : Int32) (rd_endedSoon : Int32) (r : Int32) (o1 : Int32) (o2 : Int32) (o3 : Int32) (hf : f_NameReader_failHere rd_next rd_end rd_fault rd_faultPlace rd_endedSoon = some (r, o1, o2, o3)) : Met l yX3_failHere wsX3_failHere ({ frames := 0, cells := 0, slots := 0, locals := 0 }) (va_Pc [.ref a_rd] (q_N D ci A sa ((a_rd, .inr (3, [.ref a_g, .ref a_tp, .int rd_next, .int rd_end, .int rd_level, .int rd_key, .int rd_fault, .int rd_faultPlace, .int rd_endedSoon])) :: Rw))) (q_Q (some (.int r)) (q_O D A ((a_rd, .inr (3, [.ref a_g, .ref a_tp, .int rd_next, .int rd_end, .int rd_level, .int rd_key, .int o1, .int o2, .int o3])) :: Rw)) A) 0 0 A := by
  refine q_ofW (cc := cX3_failHere) (maxL := 1) (ret := (some .boolean)) [.ref a_rd] (plainFor_of_name (by decide)) rfl (Nat.le_of_ble_eq_true rfl) ?_
  intro p e s m below meth c ls Q hQ hx hb hml hr hts hown hlocks hK hA hZ hP hD hS hl
  have hl : lv_has ls 1 [(0, .ref a_rd)] := hl
  have hown : s.vm.findClass RX3 = some m.cls := hown
  have hinX3 : ∀ w ∈ wsX30, w ∈ wsX3_failHere := fun _ h => List.mem_cons_of_mem _ (inWX30 _ h)
  have w_1 := hts (Cond.fieldLink RX3 24 "SheetNames$NameReader" "fault" "I") (List.mem_cons_of_mem _ t_w843)
  have w_2 := hts (Cond.fieldLink RX3 9 "SheetNames$NameReader" "next" "I") (List.mem_cons_of_mem _ t_w846)
  have w_3 := hts (Cond.fieldLink RX3 27 "SheetNames$NameReader" "faultPlace" "I") (List.mem_cons_of_mem _ t_w844)
  have w_4 := hts (Cond.fieldLink RX3 15 "SheetNames$NameReader" "end" "I") (List.mem_cons_of_mem _ t_w847)
  have w_5 := hts (Cond.fieldLink RX3 30 "SheetNames$NameReader" "endedSoon" "Z") (List.mem_cons_of_mem _ t_w845)
  unfold f_NameReader_failHere at hf
  have hgo : ∀ (H : Heap) (locs : List Loc), H = s.heap → va_P D vwCl ((a_rd, .inr (3, [.ref a_g, .ref a_tp, .int rd_next, .int rd_end, .int rd_level, .int rd_key, .int rd_fault, .int rd_faultPlace, .int rd_endedSoon])) :: Rw) H → va_S A s.heap H locs → W p l e ({ frames := 0, cells := 0, slots := 0, locals := 0 } : Room) s m ([.ref a_rd] : List Value).toArray below meth c H locs 0 0 Q (F0 m 0 ls []) := by
    intro H locs hH hP hS
    refine lv_aload_n (pc := 0) hx hb dX3_failHere_0 rfl (lv_at hl 0 rfl) ?_
    refine lv_iconst (pc := 1) (v := 1) hx hb dX3_failHere_1 (by decide) ?_
    refine va_put (pc := 2) (D := D) (ci := 3) (v := .int 1) (ty := .int) (C := RX3) (T := TX3) (N := 9) hx hb hts hinX3 tyX3 tyX3_ok nmX3 hown hK hP hD hS 0 rfl rfl 6 (by decide) w_1 (fun _ h9 => h9) rfl (by decide +kernel) rfl rfl (Nat.le_of_ble_eq_true rfl) dX3_failHere_2 (fun H locs hP hD hS => ?_)
    obtain ⟨hP, hD⟩ : va_PD D A ((a_rd, .inr (3, [.ref a_g, .ref a_tp, .int rd_next, .int rd_end, .int rd_level, .int rd_key, .int 1, .int rd_faultPlace, .int rd_endedSoon])) :: Rw) H := ⟨hP, hD⟩
    refine lv_aload_n (pc := 5) hx hb dX3_failHere_5 rfl (lv_at hl 0 rfl) ?_
    refine lv_aload_n (pc := 6) hx hb dX3_failHere_6 rfl (lv_at hl 0 rfl) ?_
    refine va_get (pc := 7) (D := D) (ci := 3) (v := .int rd_next) (C := RX3) (T := TX3) (N := 9) hx hb hts hinX3 hown hK hP 0 rfl rfl 2 (by decide) w_2 (fun _ h9 => h9) rfl dX3_failHere_7 ?_
    refine va_put (pc := 10) (D := D) (ci := 3) (v := .int rd_next) (ty := .int) (C := RX3) (T := TX3) (N := 9) hx hb hts hinX3 tyX3 tyX3_ok nmX3 hown hK hP hD hS 0 rfl rfl 7 (by decide) w_3 (fun _ h9 => h9) rfl (by decide +kernel) rfl rfl (Nat.le_of_ble_eq_true rfl) dX3_failHere_10 (fun H locs hP hD hS => ?_)
    obtain ⟨hP, hD⟩ : va_PD D A ((a_rd, .inr (3, [.ref a_g, .ref a_tp, .int rd_next, .int rd_end, .int rd_level, .int rd_key, .int 1, .int rd_next, .int rd_endedSoon])) :: Rw) H := ⟨hP, hD⟩
    refine lv_aload_n (pc := 13) hx hb dX3_failHere_13 rfl (lv_at hl 0 rfl) ?_
    refine lv_aload_n (pc := 14) hx hb dX3_failHere_14 rfl (lv_at hl 0 rfl) ?_
    refine va_get (pc := 15) (D := D) (ci := 3) (v := .int rd_next) (C := RX3) (T := TX3) (N := 9) hx hb hts hinX3 hown hK hP 0 rfl rfl 2 (by decide) w_2 (fun _ h9 => h9) rfl dX3_failHere_15 ?_
    refine lv_aload_n (pc := 18) hx hb dX3_failHere_18 rfl (lv_at hl 0 rfl) ?_
    refine va_get (pc := 19) (D := D) (ci := 3) (v := .int rd_end) (C := RX3) (T := TX3) (N := 9) hx hb hts hinX3 hown hK hP 0 rfl rfl 3 (by decide) w_4 (fun _ h9 => h9) rfl dX3_failHere_19 ?_
    obtain ⟨k30, ek30, hf⟩ := q_j1_e hf
    have J30 : ∀ (v1 : Int32) (H : Heap) (locs : List Loc) (ls : Array Slot), k30 v1 = some (r, o1, o2, o3) → va_P D vwCl ((a_rd, .inr (3, [.ref a_g, .ref a_tp, .int rd_next, .int rd_end, .int rd_level, .int rd_key, .int 1, .int rd_next, .int rd_endedSoon])) :: Rw) H → va_D A ((a_rd, .inr (3, [.ref a_g, .ref a_tp, .int rd_next, .int rd_end, .int rd_level, .int rd_key, .int 1, .int rd_next, .int rd_endedSoon])) :: Rw) → va_S A s.heap H locs → lv_has ls 1 [] → W p l e ({ frames := 0, cells := 0, slots := 0, locals := 0 } : Room) s m ([.ref a_rd] : List Value).toArray below meth c H locs 0 0 Q (F0 m 30 ls [.int v1, .ref a_rd]) := by
      intro v1 H locs ls hf hP hD hS hl
      have hf := (ek30 v1).symm.trans hf
      obtain ⟨hn9, hf9, hf⟩ := q_bo_e hf
      refine va_put (pc := 30) (D := D) (ci := 3) (v := .int v1) (ty := .boolean) (C := RX3) (T := TX3) (N := 9) hx hb hts hinX3 tyX3 tyX3_ok nmX3 hown hK hP hD hS 0 rfl rfl 8 (by decide) w_5 (fun _ h9 => h9) rfl (by decide +kernel) hn9 hf9 (Nat.le_of_ble_eq_true rfl) dX3_failHere_30 (fun H locs hP hD hS => ?_)
      obtain ⟨hP, hD⟩ : va_PD D A ((a_rd, .inr (3, [.ref a_g, .ref a_tp, .int rd_next, .int rd_end, .int rd_level, .int rd_key, .int 1, .int rd_next, .int v1])) :: Rw) H := ⟨hP, hD⟩
      refine lv_iconst (pc := 33) (v := 0) hx hb dX3_failHere_33 (by decide) ?_
      obtain ⟨e90, e91, e92, e93⟩ := q_inj4 (Option.some.inj hf)
      rw [hQ, ← e90, ← e91, ← e92, ← e93]
      exact q_zret (pc := 34) hx hb hr rfl hlocks hP hD hS dX3_failHere_34
    refine q_icmp_lt (pc := 22) (tgt := 29) hx hb dX3_failHere_22 (by decide) rfl hf (fun hf => ?_) (fun hf => ?_)
    · refine lv_iconst (pc := 29) (v := 0) hx hb dX3_failHere_29 (by decide) ?_
      exact J30 0 _ _ _ hf hP hD hS (lv_sub hl [] rfl)
    · refine lv_iconst (pc := 25) (v := 1) hx hb dX3_failHere_25 (by decide) ?_
      refine lv_goto (pc := 26) (tgt := 30) hx hb dX3_failHere_26 (by decide) ?_
      exact J30 1 _ _ _ hf hP hD hS (lv_sub hl [] rfl)
  exact hgo _ _ rfl hP hS
/-! X3_failWithoutBlank -/
set_option maxRecDepth 100000 in
set_option maxHeartbeats 4000000 in
theorem c_NameReader_failWithoutBlank (l : Launch) (D : va_G) (ci : Nat → ClassId) (A : Nat → Prop) (sa : Nat → Nat) (N : Nat) (Rw : va_W) (a_rd : Nat) (a_g : Nat) (a_tp : Nat) (rd_next : Int32) (rd_end : Int32) (rd_level : Int32) (rd_key : Int32) (rd_fault : Int32) (rd_faultPlace : Int32) (rd_endedSoon : Int32) (p1 : Int32) (r : Int32) (o1 : Int32) (o2 : Int32) (o3 : Int32) (hf : f_NameReader_failWithoutBlank rd_fault rd_faultPlace rd_endedSoon p1 = some (r, o1, o2, o3)) : Met l yX3_failWithoutBlank wsX3_failWithoutBlank ({ frames := 1, cells := 0, slots := 0, locals := 22 }) (va_Pc [.ref a_rd, .int p1] (q_N D ci A sa ((a_rd, .inr (3, [.ref a_g, .ref a_tp, .int rd_next, .int rd_end, .int rd_level, .int rd_key, .int rd_fault, .int rd_faultPlace, .int rd_endedSoon])) :: Rw))) (q_Q (some (.int r)) (q_O D A ((a_rd, .inr (3, [.ref a_g, .ref a_tp, .int rd_next, .int rd_end, .int rd_level, .int rd_key, .int o1, .int o2, .int o3])) :: Rw)) A) 0 0 A := by
  refine q_ofW (cc := cX3_failWithoutBlank) (maxL := 2) (ret := (some .boolean)) [.ref a_rd, .int p1] (plainFor_of_name (by decide)) rfl (Nat.le_of_ble_eq_true rfl) ?_
  intro p e s m below meth c ls Q hQ hx hb hml hr hts hown hlocks hK hA hZ hP hD hS hl
  have hl : lv_has ls 2 [(0, .ref a_rd), (1, .int p1)] := hl
  have hown : s.vm.findClass RX3 = some m.cls := hown
  have hinX3 : ∀ w ∈ wsX30, w ∈ wsX3_failWithoutBlank := fun _ h => List.mem_cons_of_mem _ (inWX30 _ h)
  have w_1 := hts (Cond.fieldLink RX3 30 "SheetNames$NameReader" "endedSoon" "Z") (List.mem_cons_of_mem _ t_w845)
  unfold f_NameReader_failWithoutBlank at hf
  have hgo : ∀ (H : Heap) (locs : List Loc), H = s.heap → va_P D vwCl ((a_rd, .inr (3, [.ref a_g, .ref a_tp, .int rd_next, .int rd_end, .int rd_level, .int rd_key, .int rd_fault, .int rd_faultPlace, .int rd_endedSoon])) :: Rw) H → va_S A s.heap H locs → W p l e ({ frames := 1, cells := 0, slots := 0, locals := 22 } : Room) s m ([.ref a_rd, .int p1] : List Value).toArray below meth c H locs 0 0 Q (F0 m 0 ls []) := by
    intro H locs hH hP hS
    refine lv_aload_n (pc := 0) hx hb dX3_failWithoutBlank_0 rfl (lv_at hl 0 rfl) ?_
    refine lv_iconst (pc := 1) (v := 1) hx hb dX3_failWithoutBlank_1 (by decide) ?_
    refine lv_iload_n (pc := 2) hx hb dX3_failWithoutBlank_2 rfl (lv_at hl 1 rfl) ?_
    obtain ⟨v1, v2, v3, v4, hm3, hf⟩ := q_b4_e hf
    refine q_cV (pc := 3) (As := [.int 1, .int p1]) (rest := []) (v0 := (some (.int v1))) ⟨hx, hb, hml, hown, hts⟩ hK hA hZ hP hD hS hl.1 [0] 1 rfl ⟨rfl, rfl, rfl⟩ (c_NameReader_fail l D ci A sa N (Rw) a_rd a_g a_tp rd_next rd_end rd_level rd_key rd_fault rd_faultPlace rd_endedSoon 1 p1 v1 v2 v3 v4 hm3) 0 rfl rfl (cwV 2 hts gX3_failWithoutBlank_X3_fail rfl rfl rfl (by decide +kernel) ⟨Nat.le_of_ble_eq_true rfl, Nat.le_of_ble_eq_true rfl⟩) rfl rfl (Nat.le_of_ble_eq_true rfl) dX3_failWithoutBlank_3 ⟨Nat.zero_le _, Nat.zero_le _⟩ [0] 1 rfl ⟨rfl, rfl, rfl⟩ (fun H locs hP hD hS => ?_)
    obtain ⟨hP, hD⟩ : va_PD D A ((a_rd, .inr (3, [.ref a_g, .ref a_tp, .int rd_next, .int rd_end, .int rd_level, .int rd_key, .int v2, .int v3, .int v4])) :: Rw) H := ⟨hP, hD⟩
    refine lv_pop (pc := 6) hx hb dX3_failWithoutBlank_6 rfl ?_
    refine lv_aload_n (pc := 7) hx hb dX3_failWithoutBlank_7 rfl (lv_at hl 0 rfl) ?_
    refine lv_iconst (pc := 8) (v := 1) hx hb dX3_failWithoutBlank_8 (by decide) ?_
    refine va_put (pc := 9) (D := D) (ci := 3) (v := .int 1) (ty := .boolean) (C := RX3) (T := TX3) (N := 9) hx hb hts hinX3 tyX3 tyX3_ok nmX3 hown hK hP hD hS 0 rfl rfl 8 (by decide) w_1 (fun _ h9 => h9) rfl (by decide +kernel) rfl rfl (Nat.le_of_ble_eq_true rfl) dX3_failWithoutBlank_9 (fun H locs hP hD hS => ?_)
    obtain ⟨hP, hD⟩ : va_PD D A ((a_rd, .inr (3, [.ref a_g, .ref a_tp, .int rd_next, .int rd_end, .int rd_level, .int rd_key, .int v2, .int v3, .int 1])) :: Rw) H := ⟨hP, hD⟩
    refine lv_iconst (pc := 12) (v := 0) hx hb dX3_failWithoutBlank_12 (by decide) ?_
    obtain ⟨e90, e91, e92, e93⟩ := q_inj4 (Option.some.inj hf)
    rw [hQ, ← e90, ← e91, ← e92, ← e93]
    exact q_zret (pc := 13) hx hb hr rfl hlocks hP hD hS dX3_failWithoutBlank_13
  exact hgo _ _ rfl hP hS
/-! X3_here -/
set_option maxRecDepth 100000 in
set_option maxHeartbeats 4000000 in
theorem c_NameReader_here (l : Launch) (D : va_G) (ci : Nat → ClassId) (A : Nat → Prop) (sa : Nat → Nat) (N : Nat) (Rw : va_W) (a_rd : Nat) (a_g : Nat) (a_tp : Nat) (a_tp_bytes : Nat) (rd_next : Int32) (rd_end : Int32) (rd_level : Int32) (rd_key : Int32) (rd_fault : Int32) (rd_faultPlace : Int32) (rd_endedSoon : Int32) (tp_length : Int32) (tp_bytes : Nat → Int32) (r : Int32) (hf : f_NameReader_here rd_next rd_end tp_bytes tp_length = some r) : Met l yX3_here wsX3_here ({ frames := 0, cells := 0, slots := 0, locals := 0 }) (va_Pc [.ref a_rd] (q_N D ci A sa ((a_rd, .inr (3, [.ref a_g, .ref a_tp, .int rd_next, .int rd_end, .int rd_level, .int rd_key, .int rd_fault, .int rd_faultPlace, .int rd_endedSoon])) :: (a_tp, .inr (8, [.ref a_tp_bytes, .int tp_length])) :: (a_tp_bytes, .inl (ci 0, 200, .inl tp_bytes)) :: Rw))) (q_R (some (.int r))) 0 0 A := by
  refine q_ofW (cc := cX3_here) (maxL := 1) (ret := (some .int)) [.ref a_rd] (plainFor_of_name (by decide)) rfl (Nat.le_of_ble_eq_true rfl) ?_
  intro p e s m below meth c ls Q hQ hx hb hml hr hts hown hlocks hK hA hZ hP hD hS hl
  have hl : lv_has ls 1 [(0, .ref a_rd)] := hl
  have hown : s.vm.findClass RX3 = some m.cls := hown
  have hinX3 : ∀ w ∈ wsX30, w ∈ wsX3_here := fun _ h => List.mem_cons_of_mem _ (inWX30 _ h)
  have hinX8 : ∀ w ∈ wsX80, w ∈ wsX3_here := fun _ h => List.mem_cons_of_mem _ (inWX80 _ h)
  have w_1 := hts (Cond.fieldLink RX3 9 "SheetNames$NameReader" "next" "I") (List.mem_cons_of_mem _ t_w846)
  have w_2 := hts (Cond.fieldLink RX3 15 "SheetNames$NameReader" "end" "I") (List.mem_cons_of_mem _ t_w847)
  have w_3 := hts (Cond.fieldLink RX3 38 "SheetNames$NameReader" "tape" "LSheetNames$Tape;") (List.mem_cons_of_mem _ t_w848)
  have wn_48 : (Cond.fieldLinkNest "SheetNames$NameReader" 88 "SheetNames$Tape" "length" "I" "SheetNames").before ([.ref a_rd] : List Value).toArray s = true := (hZ.2.2.2.2.2.2.2.2.2.1 _ (List.mem_of_getElem? (i := 48) rfl)).use rfl
  have wn_49 : (Cond.fieldLinkNest "SheetNames$NameReader" 93 "SheetNames$Tape" "bytes" "[I" "SheetNames").before ([.ref a_rd] : List Value).toArray s = true := (hZ.2.2.2.2.2.2.2.2.2.1 _ (List.mem_of_getElem? (i := 49) rfl)).use rfl
  unfold f_NameReader_here at hf
  have hgo : ∀ (H : Heap) (locs : List Loc), H = s.heap → va_P D vwCl ((a_rd, .inr (3, [.ref a_g, .ref a_tp, .int rd_next, .int rd_end, .int rd_level, .int rd_key, .int rd_fault, .int rd_faultPlace, .int rd_endedSoon])) :: (a_tp, .inr (8, [.ref a_tp_bytes, .int tp_length])) :: (a_tp_bytes, .inl (ci 0, 200, .inl tp_bytes)) :: Rw) H → va_S A s.heap H locs → W p l e ({ frames := 0, cells := 0, slots := 0, locals := 0 } : Room) s m ([.ref a_rd] : List Value).toArray below meth c H locs 0 0 Q (F0 m 0 ls []) := by
    intro H locs hH hP hS
    subst hH
    refine lv_aload_n (pc := 0) hx hb dX3_here_0 rfl (lv_at hl 0 rfl) ?_
    refine va_get (pc := 1) (D := D) (ci := 3) (v := .int rd_next) (C := RX3) (T := TX3) (N := 9) hx hb hts hinX3 hown hK hP 0 rfl rfl 2 (by decide) w_1 (fun _ h9 => h9) rfl dX3_here_1 ?_
    refine q_if_lt (pc := 4) (tgt := 47) hx hb dX3_here_4 (by decide) rfl hf (fun hf => ?_) (fun hf => ?_)
    · refine lv_iconst (pc := 47) (v := (-1)) hx hb dX3_here_47 (by decide) ?_
      obtain rfl := Option.some.inj hf
      rw [hQ]
      exact q_iretr (pc := 48) hx hb hr hlocks rfl hS dX3_here_48
    · refine lv_aload_n (pc := 7) hx hb dX3_here_7 rfl (lv_at hl 0 rfl) ?_
      refine va_get (pc := 8) (D := D) (ci := 3) (v := .int rd_next) (C := RX3) (T := TX3) (N := 9) hx hb hts hinX3 hown hK hP 0 rfl rfl 2 (by decide) w_1 (fun _ h9 => h9) rfl dX3_here_8 ?_
      refine lv_aload_n (pc := 11) hx hb dX3_here_11 rfl (lv_at hl 0 rfl) ?_
      refine va_get (pc := 12) (D := D) (ci := 3) (v := .int rd_end) (C := RX3) (T := TX3) (N := 9) hx hb hts hinX3 hown hK hP 0 rfl rfl 3 (by decide) w_2 (fun _ h9 => h9) rfl dX3_here_12 ?_
      refine q_icmp_ge (pc := 15) (tgt := 47) hx hb dX3_here_15 (by decide) rfl hf (fun hf => ?_) (fun hf => ?_)
      · refine lv_iconst (pc := 47) (v := (-1)) hx hb dX3_here_47 (by decide) ?_
        obtain rfl := Option.some.inj hf
        rw [hQ]
        exact q_iretr (pc := 48) hx hb hr hlocks rfl hS dX3_here_48
      · refine lv_aload_n (pc := 18) hx hb dX3_here_18 rfl (lv_at hl 0 rfl) ?_
        refine va_get (pc := 19) (D := D) (ci := 3) (v := .int rd_next) (C := RX3) (T := TX3) (N := 9) hx hb hts hinX3 hown hK hP 0 rfl rfl 2 (by decide) w_1 (fun _ h9 => h9) rfl dX3_here_19 ?_
        refine lv_aload_n (pc := 22) hx hb dX3_here_22 rfl (lv_at hl 0 rfl) ?_
        refine va_get (pc := 23) (D := D) (ci := 3) (v := .ref a_tp) (C := RX3) (T := TX3) (N := 9) hx hb hts hinX3 hown hK hP 0 rfl rfl 1 (by decide) w_3 (fun _ h9 => h9) rfl dX3_here_23 ?_
        refine va_getN (pc := 26) (D := D) (ci := 8) (v := .int tp_length) (C := RX8) (T := TX8) (N := 2) hx hb hts hinX8 hown hK hP 1 rfl rfl 1 (by decide) wn_48 (fun _ h9 => h9) rfl dX3_here_26 ?_
        refine q_icmp_ge (pc := 29) (tgt := 47) hx hb dX3_here_29 (by decide) rfl hf (fun hf => ?_) (fun hf => ?_)
        · refine lv_iconst (pc := 47) (v := (-1)) hx hb dX3_here_47 (by decide) ?_
          obtain rfl := Option.some.inj hf
          rw [hQ]
          exact q_iretr (pc := 48) hx hb hr hlocks rfl hS dX3_here_48
        · refine lv_aload_n (pc := 32) hx hb dX3_here_32 rfl (lv_at hl 0 rfl) ?_
          refine va_get (pc := 33) (D := D) (ci := 3) (v := .ref a_tp) (C := RX3) (T := TX3) (N := 9) hx hb hts hinX3 hown hK hP 0 rfl rfl 1 (by decide) w_3 (fun _ h9 => h9) rfl dX3_here_33 ?_
          refine va_getN (pc := 36) (D := D) (ci := 8) (v := .ref a_tp_bytes) (C := RX8) (T := TX8) (N := 2) hx hb hts hinX8 hown hK hP 1 rfl rfl 0 (by decide) wn_49 (fun _ h9 => h9) rfl dX3_here_36 ?_
          refine lv_aload_n (pc := 39) hx hb dX3_here_39 rfl (lv_at hl 0 rfl) ?_
          refine va_get (pc := 40) (D := D) (ci := 3) (v := .int rd_next) (C := RX3) (T := TX3) (N := 9) hx hb hts hinX3 hown hK hP 0 rfl rfl 2 (by decide) w_1 (fun _ h9 => h9) rfl dX3_here_40 ?_
          refine q_iald (pc := 43) hx hb hK hP 2 0 hf rfl rfl dX3_here_43 (fun v1 hf => ?_)
          refine lv_goto (pc := 44) (tgt := 48) hx hb dX3_here_44 (by decide) ?_
          obtain rfl := Option.some.inj hf
          rw [hQ]
          exact q_iretr (pc := 48) hx hb hr hlocks rfl hS dX3_here_48
  exact hgo _ _ rfl hP hS
/-! X3_isDigit -/
set_option maxRecDepth 100000 in
set_option maxHeartbeats 4000000 in
theorem c_NameReader_isDigit (l : Launch) (D : va_G) (ci : Nat → ClassId) (A : Nat → Prop) (sa : Nat → Nat) (N : Nat) (Rw : va_W) (p1 : Int32) (r : Int32) (hf : f_NameReader_isDigit p1 = some r) : Met l yX3_isDigit wsX3_isDigit ({ frames := 0, cells := 0, slots := 0, locals := 0 }) (va_Pc [.int p1] (q_N D ci A sa (Rw))) (q_R (some (.int r))) 0 0 A := by
  refine q_ofW (cc := cX3_isDigit) (maxL := 1) (ret := (some .boolean)) [.int p1] (plainFor_of_name (by decide)) rfl (Nat.le_of_ble_eq_true rfl) ?_
  intro p e s m below meth c ls Q hQ hx hb hml hr hts hown hlocks hK hA hZ hP hD hS hl
  have hl : lv_has ls 1 [(0, .int p1)] := hl
  have hown : s.vm.findClass RX3 = some m.cls := hown
  unfold f_NameReader_isDigit at hf
  have hgo : ∀ (H : Heap) (locs : List Loc), H = s.heap → va_P D vwCl (Rw) H → va_S A s.heap H locs → W p l e ({ frames := 0, cells := 0, slots := 0, locals := 0 } : Room) s m ([.int p1] : List Value).toArray below meth c H locs 0 0 Q (F0 m 0 ls []) := by
    intro H locs hH hP hS
    subst hH
    refine lv_iload_n (pc := 0) hx hb dX3_isDigit_0 rfl (lv_at hl 0 rfl) ?_
    refine lv_bipush (pc := 1) (v := 48) hx hb dX3_isDigit_1 (by decide) ?_
    refine q_icmp_lt (pc := 3) (tgt := 16) hx hb dX3_isDigit_3 (by decide) rfl hf (fun hf => ?_) (fun hf => ?_)
    · refine lv_iconst (pc := 16) (v := 0) hx hb dX3_isDigit_16 (by decide) ?_
      obtain rfl := Option.some.inj hf
      rw [hQ]
      exact q_zretr (pc := 17) hx hb hr rfl hlocks rfl hS dX3_isDigit_17
    · refine lv_iload_n (pc := 6) hx hb dX3_isDigit_6 rfl (lv_at hl 0 rfl) ?_
      refine lv_bipush (pc := 7) (v := 57) hx hb dX3_isDigit_7 (by decide) ?_
      refine q_icmp_gt (pc := 9) (tgt := 16) hx hb dX3_isDigit_9 (by decide) rfl hf (fun hf => ?_) (fun hf => ?_)
      · refine lv_iconst (pc := 16) (v := 0) hx hb dX3_isDigit_16 (by decide) ?_
        obtain rfl := Option.some.inj hf
        rw [hQ]
        exact q_zretr (pc := 17) hx hb hr rfl hlocks rfl hS dX3_isDigit_17
      · refine lv_iconst (pc := 12) (v := 1) hx hb dX3_isDigit_12 (by decide) ?_
        refine lv_goto (pc := 13) (tgt := 17) hx hb dX3_isDigit_13 (by decide) ?_
        obtain rfl := Option.some.inj hf
        rw [hQ]
        exact q_zretr (pc := 17) hx hb hr rfl hlocks rfl hS dX3_isDigit_17
  exact hgo _ _ rfl hP hS
/-! X3_readNumber -/
set_option maxRecDepth 100000 in
set_option maxHeartbeats 4000000 in
theorem c_NameReader_readNumber (l : Launch) (D : va_G) (ci : Nat → ClassId) (A : Nat → Prop) (sa : Nat → Nat) (N : Nat) (Rw : va_W) (a_rd : Nat) (a_g : Nat) (a_tp : Nat) (a_tp_bytes : Nat) (rd_next : Int32) (rd_end : Int32) (rd_level : Int32) (rd_key : Int32) (rd_fault : Int32) (rd_faultPlace : Int32) (rd_endedSoon : Int32) (tp_length : Int32) (tp_bytes : Nat → Int32) (p1 : Int32) (r : Int32) (o1 : Int32) (o2 : Int32) (o3 : Int32) (o4 : Int32) (hf : f_NameReader_readNumber N rd_next rd_end rd_fault rd_faultPlace rd_endedSoon tp_bytes tp_length p1 = some (r, o1, o2, o3, o4)) : Met l yX3_readNumber wsX3_readNumber ({ frames := 1, cells := 0, slots := 0, locals := 22 }) (va_Pc [.ref a_rd, .int p1] (q_N D ci A sa ((a_rd, .inr (3, [.ref a_g, .ref a_tp, .int rd_next, .int rd_end, .int rd_level, .int rd_key, .int rd_fault, .int rd_faultPlace, .int rd_endedSoon])) :: (a_tp, .inr (8, [.ref a_tp_bytes, .int tp_length])) :: (a_tp_bytes, .inl (ci 0, 200, .inl tp_bytes)) :: Rw))) (q_Q (some (.int r)) (q_O D A ((a_rd, .inr (3, [.ref a_g, .ref a_tp, .int o1, .int rd_end, .int rd_level, .int rd_key, .int o2, .int o3, .int o4])) :: (a_tp, .inr (8, [.ref a_tp_bytes, .int tp_length])) :: (a_tp_bytes, .inl (ci 0, 200, .inl tp_bytes)) :: Rw)) A) 0 0 A := by
  refine q_ofW (cc := cX3_readNumber) (maxL := 4) (ret := (some .int)) [.ref a_rd, .int p1] (plainFor_of_name (by decide)) rfl (Nat.le_of_ble_eq_true rfl) ?_
  intro p e s m below meth c ls Q hQ hx hb hml hr hts hown hlocks hK hA hZ hP hD hS hl
  have hl : lv_has ls 4 [(0, .ref a_rd), (1, .int p1)] := hl
  have hown : s.vm.findClass RX3 = some m.cls := hown
  have hinX3 : ∀ w ∈ wsX30, w ∈ wsX3_readNumber := fun _ h => List.mem_cons_of_mem _ (inWX30 _ h)
  have w_1 := hts (Cond.fieldLink RX3 9 "SheetNames$NameReader" "next" "I") (List.mem_cons_of_mem _ t_w846)
  unfold f_NameReader_readNumber at hf
  have hgo : ∀ (H : Heap) (locs : List Loc), H = s.heap → va_P D vwCl ((a_rd, .inr (3, [.ref a_g, .ref a_tp, .int rd_next, .int rd_end, .int rd_level, .int rd_key, .int rd_fault, .int rd_faultPlace, .int rd_endedSoon])) :: (a_tp, .inr (8, [.ref a_tp_bytes, .int tp_length])) :: (a_tp_bytes, .inl (ci 0, 200, .inl tp_bytes)) :: Rw) H → va_S A s.heap H locs → W p l e ({ frames := 1, cells := 0, slots := 0, locals := 22 } : Room) s m ([.ref a_rd, .int p1] : List Value).toArray below meth c H locs 0 0 Q (F0 m 0 ls []) := by
    intro H locs hH hP hS
    refine lv_aload_n (pc := 0) hx hb dX3_readNumber_0 rfl (lv_at hl 0 rfl) ?_
    refine va_get (pc := 1) (D := D) (ci := 3) (v := .int rd_next) (C := RX3) (T := TX3) (N := 9) hx hb hts hinX3 hown hK hP 0 rfl rfl 2 (by decide) w_1 (fun _ h9 => h9) rfl dX3_readNumber_1 ?_
    refine lv_istore_n (pc := 4) (lv' := [(2, .int rd_next), (0, .ref a_rd), (1, .int p1)]) hx hb dX3_readNumber_4 rfl hl (by decide) rfl (fun ls hl => ?_)
    refine lv_iconst (pc := 5) (v := 0) hx hb dX3_readNumber_5 (by decide) ?_
    obtain ⟨v1, ev1, hf⟩ := q_nm_e hf
    refine q_topi ev1 ?_
    refine lv_istore_n (pc := 6) (lv' := [(3, .int v1), (2, .int rd_next), (0, .ref a_rd), (1, .int p1)]) hx hb dX3_readNumber_6 rfl hl (by decide) rfl (fun ls hl => ?_)
    obtain ⟨v4, v5, hm7, hf⟩ := q_b2_e hf
    have JE7 : ∀ (H : Heap) (locs : List Loc) (ls : Array Slot), va_P D vwCl ((a_rd, .inr (3, [.ref a_g, .ref a_tp, .int v5, .int rd_end, .int rd_level, .int rd_key, .int rd_fault, .int rd_faultPlace, .int rd_endedSoon])) :: (a_tp, .inr (8, [.ref a_tp_bytes, .int tp_length])) :: (a_tp_bytes, .inl (ci 0, 200, .inl tp_bytes)) :: Rw) H → va_D A ((a_rd, .inr (3, [.ref a_g, .ref a_tp, .int v5, .int rd_end, .int rd_level, .int rd_key, .int rd_fault, .int rd_faultPlace, .int rd_endedSoon])) :: (a_tp, .inr (8, [.ref a_tp_bytes, .int tp_length])) :: (a_tp_bytes, .inl (ci 0, 200, .inl tp_bytes)) :: Rw) → va_S A s.heap H locs → lv_has ls 4 [(0, .ref a_rd), (1, .int p1), (2, .int rd_next), (3, .int v4)] → W p l e ({ frames := 1, cells := 0, slots := 0, locals := 22 } : Room) s m ([.ref a_rd, .int p1] : List Value).toArray below meth c H locs 0 0 Q (F0 m 53 ls []) := by
      intro H locs ls hP hD hS hl
      refine lv_aload_n (pc := 53) hx hb dX3_readNumber_53 rfl (lv_at hl 0 rfl) ?_
      refine va_get (pc := 54) (D := D) (ci := 3) (v := .int v5) (C := RX3) (T := TX3) (N := 9) hx hb hts hinX3 hown hK hP 0 rfl rfl 2 (by decide) w_1 (fun _ h9 => h9) rfl dX3_readNumber_54 ?_
      refine lv_iload_n (pc := 57) hx hb dX3_readNumber_57 rfl (lv_at hl 2 rfl) ?_
      obtain ⟨k71, ek71, hf⟩ := q_j0_e hf
      have J71 : ∀  (H : Heap) (locs : List Loc) (ls : Array Slot), k71 = some (r, o1, o2, o3, o4) → va_P D vwCl ((a_rd, .inr (3, [.ref a_g, .ref a_tp, .int v5, .int rd_end, .int rd_level, .int rd_key, .int rd_fault, .int rd_faultPlace, .int rd_endedSoon])) :: (a_tp, .inr (8, [.ref a_tp_bytes, .int tp_length])) :: (a_tp_bytes, .inl (ci 0, 200, .inl tp_bytes)) :: Rw) H → va_D A ((a_rd, .inr (3, [.ref a_g, .ref a_tp, .int v5, .int rd_end, .int rd_level, .int rd_key, .int rd_fault, .int rd_faultPlace, .int rd_endedSoon])) :: (a_tp, .inr (8, [.ref a_tp_bytes, .int tp_length])) :: (a_tp_bytes, .inl (ci 0, 200, .inl tp_bytes)) :: Rw) → va_S A s.heap H locs → lv_has ls 4 [(0, .ref a_rd)] → W p l e ({ frames := 1, cells := 0, slots := 0, locals := 22 } : Room) s m ([.ref a_rd, .int p1] : List Value).toArray below meth c H locs 0 0 Q (F0 m 71 ls []) := by
        intro  H locs ls hf hP hD hS hl
        have hf := (ek71).symm.trans hf
        refine lv_aload_n (pc := 71) hx hb dX3_readNumber_71 rfl (lv_at hl 0 rfl) ?_
        obtain ⟨v6, v7, v8, v9, hm72, hf⟩ := q_b4_e hf
        refine q_cV (pc := 72) (As := []) (rest := []) (v0 := (some (.int v6))) ⟨hx, hb, hml, hown, hts⟩ hK hA hZ hP hD hS hl.1 [0, 1, 2] 3 rfl ⟨rfl, rfl, rfl⟩ (c_NameReader_failHere l D ci A sa N ((a_tp, .inr (8, [.ref a_tp_bytes, .int tp_length])) :: (a_tp_bytes, .inl (ci 0, 200, .inl tp_bytes)) :: Rw) a_rd a_g a_tp v5 rd_end rd_level rd_key rd_fault rd_faultPlace rd_endedSoon v6 v7 v8 v9 hm72) 0 rfl rfl (cwV 0 hts gX3_readNumber_X3_failHere rfl rfl rfl (by decide +kernel) ⟨Nat.le_of_ble_eq_true rfl, Nat.le_of_ble_eq_true rfl⟩) rfl rfl (Nat.le_of_ble_eq_true rfl) dX3_readNumber_72 ⟨Nat.zero_le _, Nat.zero_le _⟩ [0, 1, 2] 3 rfl ⟨rfl, rfl, rfl⟩ (fun H locs hP hD hS => ?_)
        obtain ⟨hP, hD⟩ : va_PD D A ((a_rd, .inr (3, [.ref a_g, .ref a_tp, .int v5, .int rd_end, .int rd_level, .int rd_key, .int v7, .int v8, .int v9])) :: (a_tp, .inr (8, [.ref a_tp_bytes, .int tp_length])) :: (a_tp_bytes, .inl (ci 0, 200, .inl tp_bytes)) :: Rw) H := ⟨hP, hD⟩
        refine lv_pop (pc := 75) hx hb dX3_readNumber_75 rfl ?_
        refine lv_iconst (pc := 76) (v := 1) hx hb dX3_readNumber_76 (by decide) ?_
        obtain ⟨e90, e91, e92, e93, e94⟩ := q_inj5 (Option.some.inj hf)
        rw [hQ, ← e90, ← e91, ← e92, ← e93, ← e94]
        exact q_iret (pc := 77) hx hb hr hlocks hP hD hS dX3_readNumber_77
      refine q_icmp_eq (pc := 58) (tgt := 71) hx hb dX3_readNumber_58 (by decide) rfl hf (fun hf => ?_) (fun hf => ?_)
      · exact J71  _ _ _ hf hP hD hS (lv_sub hl [0] rfl)
      · refine lv_aload_n (pc := 61) hx hb dX3_readNumber_61 rfl (lv_at hl 0 rfl) ?_
        obtain ⟨v10, hm62, hf⟩ := q_b1_e hf
        refine q_cVr (pc := 62) (As := []) (rest := []) (v0 := (some (.int v10))) ⟨hx, hb, hml, hown, hts⟩ hK hA hZ hP hD hS hl.1 [0, 1, 2] 3 rfl ⟨rfl, rfl, rfl⟩ (c_NameReader_here l D ci A sa N (Rw) a_rd a_g a_tp a_tp_bytes v5 rd_end rd_level rd_key rd_fault rd_faultPlace rd_endedSoon tp_length tp_bytes v10 hm62) 0 rfl rfl (cwV 0 hts gX3_readNumber_X3_here rfl rfl rfl (by decide +kernel) ⟨Nat.le_of_ble_eq_true rfl, Nat.le_of_ble_eq_true rfl⟩) rfl rfl (Nat.le_of_ble_eq_true rfl) dX3_readNumber_62 ⟨Nat.zero_le _, Nat.zero_le _⟩ (fun locs hS => ?_)
        obtain ⟨v11, hm65, hf⟩ := q_b1_e hf
        refine q_cSr (pc := 65) (As := [.int v10]) (rest := []) (v0 := (some (.int v11))) ⟨hx, hb, hml, hown, hts⟩ hK hA hZ hP hD hS hl.1 [] 3 rfl ⟨rfl, rfl, rfl⟩ (c_NameReader_isDigit l D ci A sa N (Rw) v10 v11 hm65) (va_cwS 1 hts gX3_readNumber_X3_isDigit rfl rfl rfl (by decide +kernel) ⟨Nat.le_of_ble_eq_true rfl, Nat.le_of_ble_eq_true rfl⟩) rfl rfl (Nat.le_of_ble_eq_true rfl) dX3_readNumber_65 ⟨Nat.zero_le _, Nat.zero_le _⟩ (fun locs hS => ?_)
        refine q_if_eq (pc := 68) (tgt := 78) hx hb dX3_readNumber_68 (by decide) rfl hf (fun hf => ?_) (fun hf => ?_)
        · refine lv_iload_n (pc := 78) hx hb dX3_readNumber_78 rfl (lv_at hl 3 rfl) ?_
          refine lv_iconst (pc := 79) (v := 1) hx hb dX3_readNumber_79 (by decide) ?_
          obtain ⟨k88, ek88, hf⟩ := q_j0_e hf
          have J88 : ∀  (H : Heap) (locs : List Loc) (ls : Array Slot), k88 = some (r, o1, o2, o3, o4) → va_P D vwCl ((a_rd, .inr (3, [.ref a_g, .ref a_tp, .int v5, .int rd_end, .int rd_level, .int rd_key, .int rd_fault, .int rd_faultPlace, .int rd_endedSoon])) :: (a_tp, .inr (8, [.ref a_tp_bytes, .int tp_length])) :: (a_tp_bytes, .inl (ci 0, 200, .inl tp_bytes)) :: Rw) H → va_D A ((a_rd, .inr (3, [.ref a_g, .ref a_tp, .int v5, .int rd_end, .int rd_level, .int rd_key, .int rd_fault, .int rd_faultPlace, .int rd_endedSoon])) :: (a_tp, .inr (8, [.ref a_tp_bytes, .int tp_length])) :: (a_tp_bytes, .inl (ci 0, 200, .inl tp_bytes)) :: Rw) → va_S A s.heap H locs → lv_has ls 4 [(0, .ref a_rd), (2, .int rd_next)] → W p l e ({ frames := 1, cells := 0, slots := 0, locals := 22 } : Room) s m ([.ref a_rd, .int p1] : List Value).toArray below meth c H locs 0 0 Q (F0 m 88 ls []) := by
            intro  H locs ls hf hP hD hS hl
            have hf := (ek88).symm.trans hf
            refine lv_aload_n (pc := 88) hx hb dX3_readNumber_88 rfl (lv_at hl 0 rfl) ?_
            refine lv_iconst (pc := 89) (v := 2) hx hb dX3_readNumber_89 (by decide) ?_
            refine lv_iload_n (pc := 90) hx hb dX3_readNumber_90 rfl (lv_at hl 1 rfl) ?_
            obtain ⟨v12, v13, v14, v15, hm91, hf⟩ := q_b4_e hf
            refine q_cV (pc := 91) (As := [.int 2, .int rd_next]) (rest := []) (v0 := (some (.int v12))) ⟨hx, hb, hml, hown, hts⟩ hK hA hZ hP hD hS hl.1 [0, 1, 2] 3 rfl ⟨rfl, rfl, rfl⟩ (c_NameReader_fail l D ci A sa N ((a_tp, .inr (8, [.ref a_tp_bytes, .int tp_length])) :: (a_tp_bytes, .inl (ci 0, 200, .inl tp_bytes)) :: Rw) a_rd a_g a_tp v5 rd_end rd_level rd_key rd_fault rd_faultPlace rd_endedSoon 2 rd_next v12 v13 v14 v15 hm91) 0 rfl rfl (cwV 2 hts gX3_readNumber_X3_fail rfl rfl rfl (by decide +kernel) ⟨Nat.le_of_ble_eq_true rfl, Nat.le_of_ble_eq_true rfl⟩) rfl rfl (Nat.le_of_ble_eq_true rfl) dX3_readNumber_91 ⟨Nat.zero_le _, Nat.zero_le _⟩ [0, 1, 2] 3 rfl ⟨rfl, rfl, rfl⟩ (fun H locs hP hD hS => ?_)
            obtain ⟨hP, hD⟩ : va_PD D A ((a_rd, .inr (3, [.ref a_g, .ref a_tp, .int v5, .int rd_end, .int rd_level, .int rd_key, .int v13, .int v14, .int v15])) :: (a_tp, .inr (8, [.ref a_tp_bytes, .int tp_length])) :: (a_tp_bytes, .inl (ci 0, 200, .inl tp_bytes)) :: Rw) H := ⟨hP, hD⟩
            refine lv_pop (pc := 94) hx hb dX3_readNumber_94 rfl ?_
            refine lv_iconst (pc := 95) (v := 1) hx hb dX3_readNumber_95 (by decide) ?_
            obtain ⟨e90, e91, e92, e93, e94⟩ := q_inj5 (Option.some.inj hf)
            rw [hQ, ← e90, ← e91, ← e92, ← e93, ← e94]
            exact q_iret (pc := 96) hx hb hr hlocks hP hD hS dX3_readNumber_96
          refine q_icmp_lt (pc := 80) (tgt := 88) hx hb dX3_readNumber_80 (by decide) rfl hf (fun hf => ?_) (fun hf => ?_)
          · exact J88  _ _ _ hf hP hD hS (lv_sub hl [0, 2] rfl)
          · refine lv_iload_n (pc := 83) hx hb dX3_readNumber_83 rfl (lv_at hl 3 rfl) ?_
            refine lv_iload_n (pc := 84) hx hb dX3_readNumber_84 rfl (lv_at hl 1 rfl) ?_
            refine q_icmp_le (pc := 85) (tgt := 97) hx hb dX3_readNumber_85 (by decide) rfl hf (fun hf => ?_) (fun hf => ?_)
            · refine lv_iload_n (pc := 97) hx hb dX3_readNumber_97 rfl (lv_at hl 3 rfl) ?_
              obtain ⟨e90, e91, e92, e93, e94⟩ := q_inj5 (Option.some.inj hf)
              rw [hQ, ← e90, ← e91, ← e92, ← e93, ← e94]
              exact q_iret (pc := 98) hx hb hr hlocks hP hD hS dX3_readNumber_98
            · exact J88  _ _ _ hf hP hD hS (lv_sub hl [0, 2] rfl)
        · exact J71  _ _ _ hf hP hD hS (lv_sub hl [0] rfl)
    have LP7 : ∀ (n7 : Nat) (v2 : Int32) (v3 : Int32) (H : Heap) (locs : List Loc) (ls : Array Slot), f_NameReader_readNumber_L7 rd_end rd_next tp_bytes tp_length n7 v2 v3 = some (v4, v5) → va_P D vwCl ((a_rd, .inr (3, [.ref a_g, .ref a_tp, .int v3, .int rd_end, .int rd_level, .int rd_key, .int rd_fault, .int rd_faultPlace, .int rd_endedSoon])) :: (a_tp, .inr (8, [.ref a_tp_bytes, .int tp_length])) :: (a_tp_bytes, .inl (ci 0, 200, .inl tp_bytes)) :: Rw) H → va_D A ((a_rd, .inr (3, [.ref a_g, .ref a_tp, .int v3, .int rd_end, .int rd_level, .int rd_key, .int rd_fault, .int rd_faultPlace, .int rd_endedSoon])) :: (a_tp, .inr (8, [.ref a_tp_bytes, .int tp_length])) :: (a_tp_bytes, .inl (ci 0, 200, .inl tp_bytes)) :: Rw) → va_S A s.heap H locs → lv_has ls 4 [(0, .ref a_rd), (1, .int p1), (2, .int rd_next), (3, .int v2)] → W p l e ({ frames := 1, cells := 0, slots := 0, locals := 22 } : Room) s m ([.ref a_rd, .int p1] : List Value).toArray below meth c H locs 0 0 Q (F0 m 7 ls []) := by
      intro n7
      induction n7 with
      | zero => intro v2 v3 H locs ls hf; rw [f_NameReader_readNumber_L7] at hf; cases hf
      | succ n7 ih7 =>
        intro v2 v3 H locs ls hf hP hD hS hl
        rw [f_NameReader_readNumber_L7] at hf
        refine lv_aload_n (pc := 7) hx hb dX3_readNumber_7 rfl (lv_at hl 0 rfl) ?_
        obtain ⟨v16, hm8, hf⟩ := q_b1_e hf
        refine q_cVr (pc := 8) (As := []) (rest := []) (v0 := (some (.int v16))) ⟨hx, hb, hml, hown, hts⟩ hK hA hZ hP hD hS hl.1 [0, 1, 2] 3 rfl ⟨rfl, rfl, rfl⟩ (c_NameReader_here l D ci A sa N (Rw) a_rd a_g a_tp a_tp_bytes v3 rd_end rd_level rd_key rd_fault rd_faultPlace rd_endedSoon tp_length tp_bytes v16 hm8) 0 rfl rfl (cwV 0 hts gX3_readNumber_X3_here rfl rfl rfl (by decide +kernel) ⟨Nat.le_of_ble_eq_true rfl, Nat.le_of_ble_eq_true rfl⟩) rfl rfl (Nat.le_of_ble_eq_true rfl) dX3_readNumber_8 ⟨Nat.zero_le _, Nat.zero_le _⟩ (fun locs hS => ?_)
        obtain ⟨v17, hm11, hf⟩ := q_b1_e hf
        refine q_cSr (pc := 11) (As := [.int v16]) (rest := []) (v0 := (some (.int v17))) ⟨hx, hb, hml, hown, hts⟩ hK hA hZ hP hD hS hl.1 [] 3 rfl ⟨rfl, rfl, rfl⟩ (c_NameReader_isDigit l D ci A sa N (Rw) v16 v17 hm11) (va_cwS 1 hts gX3_readNumber_X3_isDigit rfl rfl rfl (by decide +kernel) ⟨Nat.le_of_ble_eq_true rfl, Nat.le_of_ble_eq_true rfl⟩) rfl rfl (Nat.le_of_ble_eq_true rfl) dX3_readNumber_11 ⟨Nat.zero_le _, Nat.zero_le _⟩ (fun locs hS => ?_)
        refine q_if_eq (pc := 14) (tgt := 53) hx hb dX3_readNumber_14 (by decide) rfl hf (fun hf => ?_) (fun hf => ?_)
        · obtain ⟨rfl, rfl⟩ := q_inj2 (Option.some.inj hf)
          exact JE7 _ _ _ hP hD hS (lv_sub hl [0, 1, 2, 3] rfl)
        · refine lv_aload_n (pc := 17) hx hb dX3_readNumber_17 rfl (lv_at hl 0 rfl) ?_
          refine va_get (pc := 18) (D := D) (ci := 3) (v := .int v3) (C := RX3) (T := TX3) (N := 9) hx hb hts hinX3 hown hK hP 0 rfl rfl 2 (by decide) w_1 (fun _ h9 => h9) rfl dX3_readNumber_18 ?_
          refine lv_iload_n (pc := 21) hx hb dX3_readNumber_21 rfl (lv_at hl 2 rfl) ?_
          refine lv_iconst (pc := 22) (v := 2) hx hb dX3_readNumber_22 (by decide) ?_
          refine lv_iadd (pc := 23) hx hb dX3_readNumber_23 ?_
          refine q_icmp_ge (pc := 24) (tgt := 53) hx hb dX3_readNumber_24 (by decide) rfl hf (fun hf => ?_) (fun hf => ?_)
          · obtain ⟨rfl, rfl⟩ := q_inj2 (Option.some.inj hf)
            exact JE7 _ _ _ hP hD hS (lv_sub hl [0, 1, 2, 3] rfl)
          · refine lv_iload_n (pc := 27) hx hb dX3_readNumber_27 rfl (lv_at hl 3 rfl) ?_
            refine lv_bipush (pc := 28) (v := 10) hx hb dX3_readNumber_28 (by decide) ?_
            refine lv_imul (pc := 30) hx hb dX3_readNumber_30 ?_
            refine lv_aload_n (pc := 31) hx hb dX3_readNumber_31 rfl (lv_at hl 0 rfl) ?_
            obtain ⟨v18, hm32, hf⟩ := q_b1_e hf
            refine q_cVr (pc := 32) (As := []) (rest := [.int (v2 * 10)]) (v0 := (some (.int v18))) ⟨hx, hb, hml, hown, hts⟩ hK hA hZ hP hD hS hl.1 [0, 1, 2] 3 rfl ⟨rfl, rfl, rfl⟩ (c_NameReader_here l D ci A sa N (Rw) a_rd a_g a_tp a_tp_bytes v3 rd_end rd_level rd_key rd_fault rd_faultPlace rd_endedSoon tp_length tp_bytes v18 hm32) 0 rfl rfl (cwV 0 hts gX3_readNumber_X3_here rfl rfl rfl (by decide +kernel) ⟨Nat.le_of_ble_eq_true rfl, Nat.le_of_ble_eq_true rfl⟩) rfl rfl (Nat.le_of_ble_eq_true rfl) dX3_readNumber_32 ⟨Nat.zero_le _, Nat.zero_le _⟩ (fun locs hS => ?_)
            refine lv_iadd (pc := 35) hx hb dX3_readNumber_35 ?_
            refine lv_bipush (pc := 36) (v := 48) hx hb dX3_readNumber_36 (by decide) ?_
            refine lv_isub (pc := 38) hx hb dX3_readNumber_38 ?_
            obtain ⟨v19, ev19, hf⟩ := q_nm_e hf
            refine q_topi ev19 ?_
            refine lv_istore_n (pc := 39) (lv' := [(3, .int v19), (0, .ref a_rd), (1, .int p1), (2, .int rd_next)]) hx hb dX3_readNumber_39 rfl hl (by decide) rfl (fun ls hl => ?_)
            refine lv_aload_n (pc := 40) hx hb dX3_readNumber_40 rfl (lv_at hl 1 rfl) ?_
            refine lv_dup (pc := 41) hx hb dX3_readNumber_41 rfl ?_
            refine va_get (pc := 42) (D := D) (ci := 3) (v := .int v3) (C := RX3) (T := TX3) (N := 9) hx hb hts hinX3 hown hK hP 0 rfl rfl 2 (by decide) w_1 (fun _ h9 => h9) rfl dX3_readNumber_42 ?_
            refine lv_iconst (pc := 45) (v := 1) hx hb dX3_readNumber_45 (by decide) ?_
            refine lv_iadd (pc := 46) hx hb dX3_readNumber_46 ?_
            obtain ⟨v20, ev20, hf⟩ := q_nm_e hf
            refine q_topi ev20 ?_
            refine va_put (pc := 47) (D := D) (ci := 3) (v := .int v20) (ty := .int) (C := RX3) (T := TX3) (N := 9) hx hb hts hinX3 tyX3 tyX3_ok nmX3 hown hK hP hD hS 0 rfl rfl 2 (by decide) w_1 (fun _ h9 => h9) rfl (by decide +kernel) rfl rfl (Nat.le_of_ble_eq_true rfl) dX3_readNumber_47 (fun H locs hP hD hS => ?_)
            obtain ⟨hP, hD⟩ : va_PD D A ((a_rd, .inr (3, [.ref a_g, .ref a_tp, .int v20, .int rd_end, .int rd_level, .int rd_key, .int rd_fault, .int rd_faultPlace, .int rd_endedSoon])) :: (a_tp, .inr (8, [.ref a_tp_bytes, .int tp_length])) :: (a_tp_bytes, .inl (ci 0, 200, .inl tp_bytes)) :: Rw) H := ⟨hP, hD⟩
            refine lv_goto (pc := 50) (tgt := 7) hx hb dX3_readNumber_50 (by decide) ?_
            exact ih7 v19 v20 _ _ _ hf hP hD hS (lv_sub hl [1, 2, 3, 0] rfl)
    exact LP7 N v1 rd_next _ _ _ hm7 hP hD hS (lv_sub hl [2, 3, 1, 0] rfl)
  exact hgo _ _ rfl hP hS
/-! X3_readNumbers -/
set_option maxRecDepth 100000 in
set_option maxHeartbeats 4000000 in
theorem c_NameReader_readNumbers (l : Launch) (D : va_G) (ci : Nat → ClassId) (A : Nat → Prop) (sa : Nat → Nat) (N : Nat) (Rw : va_W) (a_rd : Nat) (a_g : Nat) (a_tp : Nat) (a_tp_bytes : Nat) (a_g_rowCuts : Nat) (a_g_columnCuts : Nat) (a_g_bandRows : Nat) (a_g_zoneColumns : Nat) (a_g_rows : Nat) (a_g_sheets : Nat) (rd_next : Int32) (rd_end : Int32) (rd_level : Int32) (rd_key : Int32) (rd_fault : Int32) (rd_faultPlace : Int32) (rd_endedSoon : Int32) (tp_length : Int32) (tp_bytes : Nat → Int32) (g_rowCuts : Nat → Int32) (g_columnCuts : Nat → Int32) (g_bandRows : Nat → Int32) (g_zoneColumns : Nat → Int32) (g_rows : Nat → Int32) (g_sheets : Nat → Int32) (p1 : Int32) (r : Int32) (o1 : Int32) (o2 : Int32) (o3 : Int32) (o4 : Int32) (o5 : Int32) (o6 : Int32) (hf : f_NameReader_readNumbers N rd_next rd_end rd_level rd_key rd_fault rd_faultPlace rd_endedSoon tp_bytes tp_length g_rowCuts g_columnCuts g_bandRows g_zoneColumns g_rows g_sheets p1 = some (r, o1, o2, o3, o4, o5, o6)) : Met l yX3_readNumbers wsX3_readNumbers ({ frames := 2, cells := 0, slots := 0, locals := 45 }) (va_Pc [.ref a_rd, .int p1] (q_N D ci A sa ((a_rd, .inr (3, [.ref a_g, .ref a_tp, .int rd_next, .int rd_end, .int rd_level, .int rd_key, .int rd_fault, .int rd_faultPlace, .int rd_endedSoon])) :: (a_tp, .inr (8, [.ref a_tp_bytes, .int tp_length])) :: (a_tp_bytes, .inl (ci 0, 200, .inl tp_bytes)) :: (a_g, .inr (2, [.ref a_g_rowCuts, .ref a_g_columnCuts, .ref a_g_bandRows, .ref a_g_zoneColumns, .ref a_g_rows, .ref a_g_sheets])) :: (a_g_rowCuts, .inl (ci 0, 5, .inl g_rowCuts)) :: (a_g_columnCuts, .inl (ci 0, 5, .inl g_columnCuts)) :: (a_g_bandRows, .inl (ci 0, 5, .inl g_bandRows)) :: (a_g_zoneColumns, .inl (ci 0, 5, .inl g_zoneColumns)) :: (a_g_rows, .inl (ci 0, 5, .inl g_rows)) :: (a_g_sheets, .inl (ci 0, 5, .inl g_sheets)) :: Rw))) (q_Q (some (.int r)) (q_O D A ((a_rd, .inr (3, [.ref a_g, .ref a_tp, .int o1, .int rd_end, .int o2, .int o3, .int o4, .int o5, .int o6])) :: (a_tp, .inr (8, [.ref a_tp_bytes, .int tp_length])) :: (a_tp_bytes, .inl (ci 0, 200, .inl tp_bytes)) :: (a_g, .inr (2, [.ref a_g_rowCuts, .ref a_g_columnCuts, .ref a_g_bandRows, .ref a_g_zoneColumns, .ref a_g_rows, .ref a_g_sheets])) :: (a_g_rowCuts, .inl (ci 0, 5, .inl g_rowCuts)) :: (a_g_columnCuts, .inl (ci 0, 5, .inl g_columnCuts)) :: (a_g_bandRows, .inl (ci 0, 5, .inl g_bandRows)) :: (a_g_zoneColumns, .inl (ci 0, 5, .inl g_zoneColumns)) :: (a_g_rows, .inl (ci 0, 5, .inl g_rows)) :: (a_g_sheets, .inl (ci 0, 5, .inl g_sheets)) :: Rw)) A) 0 0 A := by
  refine q_ofW (cc := cX3_readNumbers) (maxL := 6) (ret := (some .boolean)) [.ref a_rd, .int p1] (plainFor_of_name (by decide)) rfl (Nat.le_of_ble_eq_true rfl) ?_
  intro p e s m below meth c ls Q hQ hx hb hml hr hts hown hlocks hK hA hZ hP hD hS hl
  have hl : lv_has ls 6 [(0, .ref a_rd), (1, .int p1)] := hl
  have hown : s.vm.findClass RX3 = some m.cls := hown
  have hinX2 : ∀ w ∈ wsX20, w ∈ wsX3_readNumbers := fun _ h => List.mem_cons_of_mem _ (inWX20 _ h)
  have hinX3 : ∀ w ∈ wsX30, w ∈ wsX3_readNumbers := fun _ h => List.mem_cons_of_mem _ (inWX30 _ h)
  have w_1 := hts (Cond.fieldLink RX3 18 "SheetNames$NameReader" "level" "I") (List.mem_cons_of_mem _ t_w849)
  have w_2 := hts (Cond.fieldLink RX3 24 "SheetNames$NameReader" "fault" "I") (List.mem_cons_of_mem _ t_w843)
  have w_3 := hts (Cond.fieldLink RX3 9 "SheetNames$NameReader" "next" "I") (List.mem_cons_of_mem _ t_w846)
  have w_4 := hts (Cond.fieldLink RX3 15 "SheetNames$NameReader" "end" "I") (List.mem_cons_of_mem _ t_w847)
  have w_5 := hts (Cond.fieldLink RX3 34 "SheetNames$NameReader" "grid" "LSheetNames$Grid;") (List.mem_cons_of_mem _ t_w850)
  have w_6 := hts (Cond.fieldLink RX3 21 "SheetNames$NameReader" "key" "I") (List.mem_cons_of_mem _ t_w851)
  have wn_45 : (Cond.fieldLinkNest "SheetNames$NameReader" 64 "SheetNames" "BAND_ZONES" "[I" "SheetNames").before ([.ref a_rd, .int p1] : List Value).toArray s = true := (hZ.2.2.2.2.2.2.2.2.2.1 _ (List.mem_of_getElem? (i := 45) rfl)).use rfl
  have wn_46 : (Cond.fieldLinkNest "SheetNames$NameReader" 71 "SheetNames$Grid" "columnCuts" "[I" "SheetNames").before ([.ref a_rd, .int p1] : List Value).toArray s = true := (hZ.2.2.2.2.2.2.2.2.2.1 _ (List.mem_of_getElem? (i := 46) rfl)).use rfl
  have wn_47 : (Cond.fieldLinkNest "SheetNames$NameReader" 74 "SheetNames$Grid" "rowCuts" "[I" "SheetNames").before ([.ref a_rd, .int p1] : List Value).toArray s = true := (hZ.2.2.2.2.2.2.2.2.2.1 _ (List.mem_of_getElem? (i := 47) rfl)).use rfl
  unfold f_NameReader_readNumbers at hf
  have hgo : ∀ (H : Heap) (locs : List Loc), H = s.heap → va_P D vwCl ((a_rd, .inr (3, [.ref a_g, .ref a_tp, .int rd_next, .int rd_end, .int rd_level, .int rd_key, .int rd_fault, .int rd_faultPlace, .int rd_endedSoon])) :: (a_tp, .inr (8, [.ref a_tp_bytes, .int tp_length])) :: (a_tp_bytes, .inl (ci 0, 200, .inl tp_bytes)) :: (a_g, .inr (2, [.ref a_g_rowCuts, .ref a_g_columnCuts, .ref a_g_bandRows, .ref a_g_zoneColumns, .ref a_g_rows, .ref a_g_sheets])) :: (a_g_rowCuts, .inl (ci 0, 5, .inl g_rowCuts)) :: (a_g_columnCuts, .inl (ci 0, 5, .inl g_columnCuts)) :: (a_g_bandRows, .inl (ci 0, 5, .inl g_bandRows)) :: (a_g_zoneColumns, .inl (ci 0, 5, .inl g_zoneColumns)) :: (a_g_rows, .inl (ci 0, 5, .inl g_rows)) :: (a_g_sheets, .inl (ci 0, 5, .inl g_sheets)) :: Rw) H → va_S A s.heap H locs → W p l e ({ frames := 2, cells := 0, slots := 0, locals := 45 } : Room) s m ([.ref a_rd, .int p1] : List Value).toArray below meth c H locs 0 0 Q (F0 m 0 ls []) := by
    intro H locs hH hP hS
    refine lv_aload_n (pc := 0) hx hb dX3_readNumbers_0 rfl (lv_at hl 0 rfl) ?_
    refine va_getsN (pc := 1) hx hb hZ.1 hS hown wn_45 (fun _ h9 => h9) dX3_readNumbers_1 ?_
    refine lv_iload_n (pc := 4) hx hb dX3_readNumbers_4 rfl (lv_at hl 1 rfl) ?_
    refine q_sald (pc := 5) (f := q_bZ) (N := 44) hx hb hf hZ.2.1 hS dX3_readNumbers_5 (fun v1 hf => ?_)
    obtain ⟨v2, v3, v4, v5, v6, hm6, hf⟩ := q_b5_e hf
    refine q_cV (pc := 6) (As := [.int v1]) (rest := []) (v0 := (some (.int v2))) ⟨hx, hb, hml, hown, hts⟩ hK hA hZ hP hD hS hl.1 [0, 1, 2, 3, 4, 5, 6, 7, 8, 9] 10 rfl ⟨rfl, rfl, rfl⟩ (c_NameReader_readNumber l D ci A sa N ((a_g, .inr (2, [.ref a_g_rowCuts, .ref a_g_columnCuts, .ref a_g_bandRows, .ref a_g_zoneColumns, .ref a_g_rows, .ref a_g_sheets])) :: (a_g_rowCuts, .inl (ci 0, 5, .inl g_rowCuts)) :: (a_g_columnCuts, .inl (ci 0, 5, .inl g_columnCuts)) :: (a_g_bandRows, .inl (ci 0, 5, .inl g_bandRows)) :: (a_g_zoneColumns, .inl (ci 0, 5, .inl g_zoneColumns)) :: (a_g_rows, .inl (ci 0, 5, .inl g_rows)) :: (a_g_sheets, .inl (ci 0, 5, .inl g_sheets)) :: Rw) a_rd a_g a_tp a_tp_bytes rd_next rd_end rd_level rd_key rd_fault rd_faultPlace rd_endedSoon tp_length tp_bytes v1 v2 v3 v4 v5 v6 hm6) 0 rfl rfl (cwV 1 hts gX3_readNumbers_X3_readNumber rfl rfl rfl (by decide +kernel) ⟨Nat.le_of_ble_eq_true rfl, Nat.le_of_ble_eq_true rfl⟩) rfl rfl (Nat.le_of_ble_eq_true rfl) dX3_readNumbers_6 ⟨Nat.zero_le _, Nat.zero_le _⟩ [0, 1, 2, 3, 4, 5, 6, 7, 8, 9] 10 rfl ⟨rfl, rfl, rfl⟩ (fun H locs hP hD hS => ?_)
    obtain ⟨hP, hD⟩ : va_PD D A ((a_rd, .inr (3, [.ref a_g, .ref a_tp, .int v3, .int rd_end, .int rd_level, .int rd_key, .int v4, .int v5, .int v6])) :: (a_tp, .inr (8, [.ref a_tp_bytes, .int tp_length])) :: (a_tp_bytes, .inl (ci 0, 200, .inl tp_bytes)) :: (a_g, .inr (2, [.ref a_g_rowCuts, .ref a_g_columnCuts, .ref a_g_bandRows, .ref a_g_zoneColumns, .ref a_g_rows, .ref a_g_sheets])) :: (a_g_rowCuts, .inl (ci 0, 5, .inl g_rowCuts)) :: (a_g_columnCuts, .inl (ci 0, 5, .inl g_columnCuts)) :: (a_g_bandRows, .inl (ci 0, 5, .inl g_bandRows)) :: (a_g_zoneColumns, .inl (ci 0, 5, .inl g_zoneColumns)) :: (a_g_rows, .inl (ci 0, 5, .inl g_rows)) :: (a_g_sheets, .inl (ci 0, 5, .inl g_sheets)) :: Rw) H := ⟨hP, hD⟩
    refine lv_istore_n (pc := 9) (lv' := [(2, .int v2), (0, .ref a_rd), (1, .int p1)]) hx hb dX3_readNumbers_9 rfl hl (by decide) rfl (fun ls hl => ?_)
    refine lv_iload_n (pc := 10) hx hb dX3_readNumbers_10 rfl (lv_at hl 2 rfl) ?_
    refine lv_istore_n (pc := 11) (lv' := [(3, .int p1), (2, .int v2), (0, .ref a_rd), (1, .int p1)]) hx hb dX3_readNumbers_11 rfl hl (by decide) rfl (fun ls hl => ?_)
    refine lv_iload_n (pc := 12) hx hb dX3_readNumbers_12 rfl (lv_at hl 1 rfl) ?_
    refine lv_iconst (pc := 13) (v := 1) hx hb dX3_readNumbers_13 (by decide) ?_
    refine lv_isub (pc := 14) hx hb dX3_readNumbers_14 ?_
    obtain ⟨v7, ev7, hf⟩ := q_nm_e hf
    refine q_topi ev7 ?_
    refine lv_istore (pc := 15) (lv' := [(4, .int v7), (3, .int p1), (2, .int v2), (0, .ref a_rd), (1, .int p1)]) hx hb dX3_readNumbers_15 hl (by decide) rfl (fun ls hl => ?_)
    refine lv_aload_n (pc := 17) hx hb dX3_readNumbers_17 rfl (lv_at hl 3 rfl) ?_
    refine lv_iconst (pc := 18) (v := 0) hx hb dX3_readNumbers_18 (by decide) ?_
    refine va_put (pc := 19) (D := D) (ci := 3) (v := .int 0) (ty := .int) (C := RX3) (T := TX3) (N := 9) hx hb hts hinX3 tyX3 tyX3_ok nmX3 hown hK hP hD hS 0 rfl rfl 4 (by decide) w_1 (fun _ h9 => h9) rfl (by decide +kernel) rfl rfl (Nat.le_of_ble_eq_true rfl) dX3_readNumbers_19 (fun H locs hP hD hS => ?_)
    obtain ⟨hP, hD⟩ : va_PD D A ((a_rd, .inr (3, [.ref a_g, .ref a_tp, .int v3, .int rd_end, .int 0, .int rd_key, .int v4, .int v5, .int v6])) :: (a_tp, .inr (8, [.ref a_tp_bytes, .int tp_length])) :: (a_tp_bytes, .inl (ci 0, 200, .inl tp_bytes)) :: (a_g, .inr (2, [.ref a_g_rowCuts, .ref a_g_columnCuts, .ref a_g_bandRows, .ref a_g_zoneColumns, .ref a_g_rows, .ref a_g_sheets])) :: (a_g_rowCuts, .inl (ci 0, 5, .inl g_rowCuts)) :: (a_g_columnCuts, .inl (ci 0, 5, .inl g_columnCuts)) :: (a_g_bandRows, .inl (ci 0, 5, .inl g_bandRows)) :: (a_g_zoneColumns, .inl (ci 0, 5, .inl g_zoneColumns)) :: (a_g_rows, .inl (ci 0, 5, .inl g_rows)) :: (a_g_sheets, .inl (ci 0, 5, .inl g_sheets)) :: Rw) H := ⟨hP, hD⟩
    obtain ⟨v15, v16, v17, v18, v19, v20, v21, hm22, hf⟩ := q_b7_e hf
    have JE22 : ∀ (H : Heap) (locs : List Loc) (ls : Array Slot), va_P D vwCl ((a_rd, .inr (3, [.ref a_g, .ref a_tp, .int v17, .int rd_end, .int v18, .int rd_key, .int v19, .int v20, .int v21])) :: (a_tp, .inr (8, [.ref a_tp_bytes, .int tp_length])) :: (a_tp_bytes, .inl (ci 0, 200, .inl tp_bytes)) :: (a_g, .inr (2, [.ref a_g_rowCuts, .ref a_g_columnCuts, .ref a_g_bandRows, .ref a_g_zoneColumns, .ref a_g_rows, .ref a_g_sheets])) :: (a_g_rowCuts, .inl (ci 0, 5, .inl g_rowCuts)) :: (a_g_columnCuts, .inl (ci 0, 5, .inl g_columnCuts)) :: (a_g_bandRows, .inl (ci 0, 5, .inl g_bandRows)) :: (a_g_zoneColumns, .inl (ci 0, 5, .inl g_zoneColumns)) :: (a_g_rows, .inl (ci 0, 5, .inl g_rows)) :: (a_g_sheets, .inl (ci 0, 5, .inl g_sheets)) :: Rw) H → va_D A ((a_rd, .inr (3, [.ref a_g, .ref a_tp, .int v17, .int rd_end, .int v18, .int rd_key, .int v19, .int v20, .int v21])) :: (a_tp, .inr (8, [.ref a_tp_bytes, .int tp_length])) :: (a_tp_bytes, .inl (ci 0, 200, .inl tp_bytes)) :: (a_g, .inr (2, [.ref a_g_rowCuts, .ref a_g_columnCuts, .ref a_g_bandRows, .ref a_g_zoneColumns, .ref a_g_rows, .ref a_g_sheets])) :: (a_g_rowCuts, .inl (ci 0, 5, .inl g_rowCuts)) :: (a_g_columnCuts, .inl (ci 0, 5, .inl g_columnCuts)) :: (a_g_bandRows, .inl (ci 0, 5, .inl g_bandRows)) :: (a_g_zoneColumns, .inl (ci 0, 5, .inl g_zoneColumns)) :: (a_g_rows, .inl (ci 0, 5, .inl g_rows)) :: (a_g_sheets, .inl (ci 0, 5, .inl g_sheets)) :: Rw) → va_S A s.heap H locs → lv_has ls 6 [(0, .ref a_rd), (3, .int v15), (4, .int v16)] → W p l e ({ frames := 2, cells := 0, slots := 0, locals := 45 } : Room) s m ([.ref a_rd, .int p1] : List Value).toArray below meth c H locs 0 0 Q (F0 m 150 ls []) := by
      intro H locs ls hP hD hS hl
      refine lv_aload_n (pc := 150) hx hb dX3_readNumbers_150 rfl (lv_at hl 0 rfl) ?_
      refine va_get (pc := 151) (D := D) (ci := 3) (v := .int v19) (C := RX3) (T := TX3) (N := 9) hx hb hts hinX3 hown hK hP 0 rfl rfl 6 (by decide) w_2 (fun _ h9 => h9) rfl dX3_readNumbers_151 ?_
      obtain ⟨k194, ek194, hf⟩ := q_j0_e hf
      have J194 : ∀  (H : Heap) (locs : List Loc) (ls : Array Slot), k194 = some (r, o1, o2, o3, o4, o5, o6) → va_P D vwCl ((a_rd, .inr (3, [.ref a_g, .ref a_tp, .int v17, .int rd_end, .int v18, .int rd_key, .int v19, .int v20, .int v21])) :: (a_tp, .inr (8, [.ref a_tp_bytes, .int tp_length])) :: (a_tp_bytes, .inl (ci 0, 200, .inl tp_bytes)) :: (a_g, .inr (2, [.ref a_g_rowCuts, .ref a_g_columnCuts, .ref a_g_bandRows, .ref a_g_zoneColumns, .ref a_g_rows, .ref a_g_sheets])) :: (a_g_rowCuts, .inl (ci 0, 5, .inl g_rowCuts)) :: (a_g_columnCuts, .inl (ci 0, 5, .inl g_columnCuts)) :: (a_g_bandRows, .inl (ci 0, 5, .inl g_bandRows)) :: (a_g_zoneColumns, .inl (ci 0, 5, .inl g_zoneColumns)) :: (a_g_rows, .inl (ci 0, 5, .inl g_rows)) :: (a_g_sheets, .inl (ci 0, 5, .inl g_sheets)) :: Rw) H → va_D A ((a_rd, .inr (3, [.ref a_g, .ref a_tp, .int v17, .int rd_end, .int v18, .int rd_key, .int v19, .int v20, .int v21])) :: (a_tp, .inr (8, [.ref a_tp_bytes, .int tp_length])) :: (a_tp_bytes, .inl (ci 0, 200, .inl tp_bytes)) :: (a_g, .inr (2, [.ref a_g_rowCuts, .ref a_g_columnCuts, .ref a_g_bandRows, .ref a_g_zoneColumns, .ref a_g_rows, .ref a_g_sheets])) :: (a_g_rowCuts, .inl (ci 0, 5, .inl g_rowCuts)) :: (a_g_columnCuts, .inl (ci 0, 5, .inl g_columnCuts)) :: (a_g_bandRows, .inl (ci 0, 5, .inl g_bandRows)) :: (a_g_zoneColumns, .inl (ci 0, 5, .inl g_zoneColumns)) :: (a_g_rows, .inl (ci 0, 5, .inl g_rows)) :: (a_g_sheets, .inl (ci 0, 5, .inl g_sheets)) :: Rw) → va_S A s.heap H locs → lv_has ls 6 [(0, .ref a_rd), (3, .int v15), (4, .int v16)] → W p l e ({ frames := 2, cells := 0, slots := 0, locals := 45 } : Room) s m ([.ref a_rd, .int p1] : List Value).toArray below meth c H locs 0 0 Q (F0 m 194 ls []) := by
        intro  H locs ls hf hP hD hS hl
        have hf := (ek194).symm.trans hf
        refine lv_aload_n (pc := 194) hx hb dX3_readNumbers_194 rfl (lv_at hl 0 rfl) ?_
        refine lv_aload_n (pc := 195) hx hb dX3_readNumbers_195 rfl (lv_at hl 0 rfl) ?_
        refine va_get (pc := 196) (D := D) (ci := 3) (v := .ref a_g) (C := RX3) (T := TX3) (N := 9) hx hb hts hinX3 hown hK hP 0 rfl rfl 0 (by decide) w_5 (fun _ h9 => h9) rfl dX3_readNumbers_196 ?_
        refine lv_aload_n (pc := 199) hx hb dX3_readNumbers_199 rfl (lv_at hl 0 rfl) ?_
        refine va_get (pc := 200) (D := D) (ci := 3) (v := .int v18) (C := RX3) (T := TX3) (N := 9) hx hb hts hinX3 hown hK hP 0 rfl rfl 4 (by decide) w_1 (fun _ h9 => h9) rfl dX3_readNumbers_200 ?_
        refine lv_iload_n (pc := 203) hx hb dX3_readNumbers_203 rfl (lv_at hl 1 rfl) ?_
        refine lv_iconst (pc := 204) (v := 1) hx hb dX3_readNumbers_204 (by decide) ?_
        refine lv_iadd (pc := 205) hx hb dX3_readNumbers_205 ?_
        obtain ⟨v22, hm206, hf⟩ := q_b1_e hf
        refine q_cVr (pc := 206) (As := [.int v18, .int (v15 + 1)]) (rest := [.ref a_rd]) (v0 := (some (.int v22))) ⟨hx, hb, hml, hown, hts⟩ hK hA hZ hP hD hS hl.1 [3, 6, 7, 8, 9] 10 rfl ⟨rfl, rfl, rfl⟩ (c_Grid_rowStart l D ci A sa N (Rw) a_g a_g_rowCuts a_g_columnCuts a_g_bandRows a_g_zoneColumns a_g_rows a_g_sheets g_bandRows g_zoneColumns g_rows g_sheets v18 (v15 + 1) v22 hm206) 3 rfl rfl (cwV 2 hts gX3_readNumbers_X2_rowStart rfl rfl rfl (by decide +kernel) ⟨Nat.le_of_ble_eq_true rfl, Nat.le_of_ble_eq_true rfl⟩) rfl rfl (Nat.le_of_ble_eq_true rfl) dX3_readNumbers_206 ⟨Nat.zero_le _, Nat.zero_le _⟩ (fun locs hS => ?_)
        refine lv_iload (pc := 209) hx hb dX3_readNumbers_209 (lv_at hl 2 rfl) ?_
        refine lv_iadd (pc := 211) hx hb dX3_readNumbers_211 ?_
        obtain ⟨v23, ev23, hf⟩ := q_nm_e hf
        refine q_topi ev23 ?_
        refine va_put (pc := 212) (D := D) (ci := 3) (v := .int v23) (ty := .int) (C := RX3) (T := TX3) (N := 9) hx hb hts hinX3 tyX3 tyX3_ok nmX3 hown hK hP hD hS 0 rfl rfl 5 (by decide) w_6 (fun _ h9 => h9) rfl (by decide +kernel) rfl rfl (Nat.le_of_ble_eq_true rfl) dX3_readNumbers_212 (fun H locs hP hD hS => ?_)
        obtain ⟨hP, hD⟩ : va_PD D A ((a_rd, .inr (3, [.ref a_g, .ref a_tp, .int v17, .int rd_end, .int v18, .int v23, .int v19, .int v20, .int v21])) :: (a_tp, .inr (8, [.ref a_tp_bytes, .int tp_length])) :: (a_tp_bytes, .inl (ci 0, 200, .inl tp_bytes)) :: (a_g, .inr (2, [.ref a_g_rowCuts, .ref a_g_columnCuts, .ref a_g_bandRows, .ref a_g_zoneColumns, .ref a_g_rows, .ref a_g_sheets])) :: (a_g_rowCuts, .inl (ci 0, 5, .inl g_rowCuts)) :: (a_g_columnCuts, .inl (ci 0, 5, .inl g_columnCuts)) :: (a_g_bandRows, .inl (ci 0, 5, .inl g_bandRows)) :: (a_g_zoneColumns, .inl (ci 0, 5, .inl g_zoneColumns)) :: (a_g_rows, .inl (ci 0, 5, .inl g_rows)) :: (a_g_sheets, .inl (ci 0, 5, .inl g_sheets)) :: Rw) H := ⟨hP, hD⟩
        refine lv_aload_n (pc := 215) hx hb dX3_readNumbers_215 rfl (lv_at hl 0 rfl) ?_
        refine va_get (pc := 216) (D := D) (ci := 3) (v := .int v19) (C := RX3) (T := TX3) (N := 9) hx hb hts hinX3 hown hK hP 0 rfl rfl 6 (by decide) w_2 (fun _ h9 => h9) rfl dX3_readNumbers_216 ?_
        refine q_if_ne (pc := 219) (tgt := 226) hx hb dX3_readNumbers_219 (by decide) rfl hf (fun hf => ?_) (fun hf => ?_)
        · refine lv_iconst (pc := 226) (v := 0) hx hb dX3_readNumbers_226 (by decide) ?_
          obtain ⟨e90, e91, e92, e93, e94, e95, e96⟩ := q_inj7 (Option.some.inj hf)
          rw [hQ, ← e90, ← e91, ← e92, ← e93, ← e94, ← e95, ← e96]
          exact q_zret (pc := 227) hx hb hr rfl hlocks hP hD hS dX3_readNumbers_227
        · refine lv_iconst (pc := 222) (v := 1) hx hb dX3_readNumbers_222 (by decide) ?_
          refine lv_goto (pc := 223) (tgt := 227) hx hb dX3_readNumbers_223 (by decide) ?_
          obtain ⟨e90, e91, e92, e93, e94, e95, e96⟩ := q_inj7 (Option.some.inj hf)
          rw [hQ, ← e90, ← e91, ← e92, ← e93, ← e94, ← e95, ← e96]
          exact q_zret (pc := 227) hx hb hr rfl hlocks hP hD hS dX3_readNumbers_227
      refine q_if_ne (pc := 154) (tgt := 194) hx hb dX3_readNumbers_154 (by decide) rfl hf (fun hf => ?_) (fun hf => ?_)
      · exact J194  _ _ _ hf hP hD hS (lv_sub hl [0, 1, 2] rfl)
      · refine lv_aload_n (pc := 157) hx hb dX3_readNumbers_157 rfl (lv_at hl 0 rfl) ?_
        refine va_get (pc := 158) (D := D) (ci := 3) (v := .int v17) (C := RX3) (T := TX3) (N := 9) hx hb hts hinX3 hown hK hP 0 rfl rfl 2 (by decide) w_3 (fun _ h9 => h9) rfl dX3_readNumbers_158 ?_
        refine lv_aload_n (pc := 161) hx hb dX3_readNumbers_161 rfl (lv_at hl 0 rfl) ?_
        refine va_get (pc := 162) (D := D) (ci := 3) (v := .int rd_end) (C := RX3) (T := TX3) (N := 9) hx hb hts hinX3 hown hK hP 0 rfl rfl 3 (by decide) w_4 (fun _ h9 => h9) rfl dX3_readNumbers_162 ?_
        refine q_icmp_ge (pc := 165) (tgt := 194) hx hb dX3_readNumbers_165 (by decide) rfl hf (fun hf => ?_) (fun hf => ?_)
        · exact J194  _ _ _ hf hP hD hS (lv_sub hl [0, 1, 2] rfl)
        · refine lv_aload_n (pc := 168) hx hb dX3_readNumbers_168 rfl (lv_at hl 0 rfl) ?_
          obtain ⟨v24, hm169, hf⟩ := q_b1_e hf
          refine q_cVr (pc := 169) (As := []) (rest := []) (v0 := (some (.int v24))) ⟨hx, hb, hml, hown, hts⟩ hK hA hZ hP hD hS hl.1 [0, 1, 2] 10 rfl ⟨rfl, rfl, rfl⟩ (c_NameReader_here l D ci A sa N (Rw) a_rd a_g a_tp a_tp_bytes v17 rd_end v18 rd_key v19 v20 v21 tp_length tp_bytes v24 hm169) 0 rfl rfl (cwV 0 hts gX3_readNumbers_X3_here rfl rfl rfl (by decide +kernel) ⟨Nat.le_of_ble_eq_true rfl, Nat.le_of_ble_eq_true rfl⟩) rfl rfl (Nat.le_of_ble_eq_true rfl) dX3_readNumbers_169 ⟨Nat.zero_le _, Nat.zero_le _⟩ (fun locs hS => ?_)
          refine lv_bipush (pc := 172) (v := 45) hx hb dX3_readNumbers_172 (by decide) ?_
          refine q_icmp_ne (pc := 174) (tgt := 189) hx hb dX3_readNumbers_174 (by decide) rfl hf (fun hf => ?_) (fun hf => ?_)
          · refine lv_aload_n (pc := 189) hx hb dX3_readNumbers_189 rfl (lv_at hl 0 rfl) ?_
            obtain ⟨v25, v26, v27, v28, hm190, hf⟩ := q_b4_e hf
            refine q_cV (pc := 190) (As := []) (rest := []) (v0 := (some (.int v25))) ⟨hx, hb, hml, hown, hts⟩ hK hA hZ hP hD hS hl.1 [0, 1, 2, 3, 4, 5, 6, 7, 8, 9] 10 rfl ⟨rfl, rfl, rfl⟩ (c_NameReader_failHere l D ci A sa N ((a_tp, .inr (8, [.ref a_tp_bytes, .int tp_length])) :: (a_tp_bytes, .inl (ci 0, 200, .inl tp_bytes)) :: (a_g, .inr (2, [.ref a_g_rowCuts, .ref a_g_columnCuts, .ref a_g_bandRows, .ref a_g_zoneColumns, .ref a_g_rows, .ref a_g_sheets])) :: (a_g_rowCuts, .inl (ci 0, 5, .inl g_rowCuts)) :: (a_g_columnCuts, .inl (ci 0, 5, .inl g_columnCuts)) :: (a_g_bandRows, .inl (ci 0, 5, .inl g_bandRows)) :: (a_g_zoneColumns, .inl (ci 0, 5, .inl g_zoneColumns)) :: (a_g_rows, .inl (ci 0, 5, .inl g_rows)) :: (a_g_sheets, .inl (ci 0, 5, .inl g_sheets)) :: Rw) a_rd a_g a_tp v17 rd_end v18 rd_key v19 v20 v21 v25 v26 v27 v28 hm190) 0 rfl rfl (cwV 0 hts gX3_readNumbers_X3_failHere rfl rfl rfl (by decide +kernel) ⟨Nat.le_of_ble_eq_true rfl, Nat.le_of_ble_eq_true rfl⟩) rfl rfl (Nat.le_of_ble_eq_true rfl) dX3_readNumbers_190 ⟨Nat.zero_le _, Nat.zero_le _⟩ [0, 1, 2, 3, 4, 5, 6, 7, 8, 9] 10 rfl ⟨rfl, rfl, rfl⟩ (fun H locs hP hD hS => ?_)
            obtain ⟨hP, hD⟩ : va_PD D A ((a_rd, .inr (3, [.ref a_g, .ref a_tp, .int v17, .int rd_end, .int v18, .int rd_key, .int v26, .int v27, .int v28])) :: (a_tp, .inr (8, [.ref a_tp_bytes, .int tp_length])) :: (a_tp_bytes, .inl (ci 0, 200, .inl tp_bytes)) :: (a_g, .inr (2, [.ref a_g_rowCuts, .ref a_g_columnCuts, .ref a_g_bandRows, .ref a_g_zoneColumns, .ref a_g_rows, .ref a_g_sheets])) :: (a_g_rowCuts, .inl (ci 0, 5, .inl g_rowCuts)) :: (a_g_columnCuts, .inl (ci 0, 5, .inl g_columnCuts)) :: (a_g_bandRows, .inl (ci 0, 5, .inl g_bandRows)) :: (a_g_zoneColumns, .inl (ci 0, 5, .inl g_zoneColumns)) :: (a_g_rows, .inl (ci 0, 5, .inl g_rows)) :: (a_g_sheets, .inl (ci 0, 5, .inl g_sheets)) :: Rw) H := ⟨hP, hD⟩
            obtain ⟨hn9, hf9, hf⟩ := q_bo_e hf
            obtain ⟨e90, e91, e92, e93, e94, e95, e96⟩ := q_inj7 (Option.some.inj hf)
            rw [hQ, ← e90, ← e91, ← e92, ← e93, ← e94, ← e95, ← e96]
            exact q_zret (pc := 193) hx hb hr hn9 hlocks hP hD hS dX3_readNumbers_193
          · refine lv_aload_n (pc := 177) hx hb dX3_readNumbers_177 rfl (lv_at hl 0 rfl) ?_
            refine lv_iconst (pc := 178) (v := 3) hx hb dX3_readNumbers_178 (by decide) ?_
            refine lv_aload_n (pc := 179) hx hb dX3_readNumbers_179 rfl (lv_at hl 0 rfl) ?_
            refine va_get (pc := 180) (D := D) (ci := 3) (v := .int v17) (C := RX3) (T := TX3) (N := 9) hx hb hts hinX3 hown hK hP 0 rfl rfl 2 (by decide) w_3 (fun _ h9 => h9) rfl dX3_readNumbers_180 ?_
            obtain ⟨v29, v30, v31, v32, hm183, hf⟩ := q_b4_e hf
            refine q_cV (pc := 183) (As := [.int 3, .int v17]) (rest := []) (v0 := (some (.int v29))) ⟨hx, hb, hml, hown, hts⟩ hK hA hZ hP hD hS hl.1 [0, 1, 2, 3, 4, 5, 6, 7, 8, 9] 10 rfl ⟨rfl, rfl, rfl⟩ (c_NameReader_fail l D ci A sa N ((a_tp, .inr (8, [.ref a_tp_bytes, .int tp_length])) :: (a_tp_bytes, .inl (ci 0, 200, .inl tp_bytes)) :: (a_g, .inr (2, [.ref a_g_rowCuts, .ref a_g_columnCuts, .ref a_g_bandRows, .ref a_g_zoneColumns, .ref a_g_rows, .ref a_g_sheets])) :: (a_g_rowCuts, .inl (ci 0, 5, .inl g_rowCuts)) :: (a_g_columnCuts, .inl (ci 0, 5, .inl g_columnCuts)) :: (a_g_bandRows, .inl (ci 0, 5, .inl g_bandRows)) :: (a_g_zoneColumns, .inl (ci 0, 5, .inl g_zoneColumns)) :: (a_g_rows, .inl (ci 0, 5, .inl g_rows)) :: (a_g_sheets, .inl (ci 0, 5, .inl g_sheets)) :: Rw) a_rd a_g a_tp v17 rd_end v18 rd_key v19 v20 v21 3 v17 v29 v30 v31 v32 hm183) 0 rfl rfl (cwV 2 hts gX3_readNumbers_X3_fail rfl rfl rfl (by decide +kernel) ⟨Nat.le_of_ble_eq_true rfl, Nat.le_of_ble_eq_true rfl⟩) rfl rfl (Nat.le_of_ble_eq_true rfl) dX3_readNumbers_183 ⟨Nat.zero_le _, Nat.zero_le _⟩ [0, 1, 2, 3, 4, 5, 6, 7, 8, 9] 10 rfl ⟨rfl, rfl, rfl⟩ (fun H locs hP hD hS => ?_)
            obtain ⟨hP, hD⟩ : va_PD D A ((a_rd, .inr (3, [.ref a_g, .ref a_tp, .int v17, .int rd_end, .int v18, .int rd_key, .int v30, .int v31, .int v32])) :: (a_tp, .inr (8, [.ref a_tp_bytes, .int tp_length])) :: (a_tp_bytes, .inl (ci 0, 200, .inl tp_bytes)) :: (a_g, .inr (2, [.ref a_g_rowCuts, .ref a_g_columnCuts, .ref a_g_bandRows, .ref a_g_zoneColumns, .ref a_g_rows, .ref a_g_sheets])) :: (a_g_rowCuts, .inl (ci 0, 5, .inl g_rowCuts)) :: (a_g_columnCuts, .inl (ci 0, 5, .inl g_columnCuts)) :: (a_g_bandRows, .inl (ci 0, 5, .inl g_bandRows)) :: (a_g_zoneColumns, .inl (ci 0, 5, .inl g_zoneColumns)) :: (a_g_rows, .inl (ci 0, 5, .inl g_rows)) :: (a_g_sheets, .inl (ci 0, 5, .inl g_sheets)) :: Rw) H := ⟨hP, hD⟩
            refine lv_goto (pc := 186) (tgt := 193) hx hb dX3_readNumbers_186 (by decide) ?_
            obtain ⟨hn9, hf9, hf⟩ := q_bo_e hf
            obtain ⟨e90, e91, e92, e93, e94, e95, e96⟩ := q_inj7 (Option.some.inj hf)
            rw [hQ, ← e90, ← e91, ← e92, ← e93, ← e94, ← e95, ← e96]
            exact q_zret (pc := 193) hx hb hr hn9 hlocks hP hD hS dX3_readNumbers_193
    have LP22 : ∀ (n22 : Nat) (v8 : Int32) (v9 : Int32) (v10 : Int32) (v11 : Int32) (v12 : Int32) (v13 : Int32) (v14 : Int32) (H : Heap) (locs : List Loc) (ls : Array Slot), f_NameReader_readNumbers_L22 N g_columnCuts g_rowCuts rd_end tp_bytes tp_length n22 v8 v9 v10 v11 v12 v13 v14 = some (v15, v16, v17, v18, v19, v20, v21) → va_P D vwCl ((a_rd, .inr (3, [.ref a_g, .ref a_tp, .int v10, .int rd_end, .int v11, .int rd_key, .int v12, .int v13, .int v14])) :: (a_tp, .inr (8, [.ref a_tp_bytes, .int tp_length])) :: (a_tp_bytes, .inl (ci 0, 200, .inl tp_bytes)) :: (a_g, .inr (2, [.ref a_g_rowCuts, .ref a_g_columnCuts, .ref a_g_bandRows, .ref a_g_zoneColumns, .ref a_g_rows, .ref a_g_sheets])) :: (a_g_rowCuts, .inl (ci 0, 5, .inl g_rowCuts)) :: (a_g_columnCuts, .inl (ci 0, 5, .inl g_columnCuts)) :: (a_g_bandRows, .inl (ci 0, 5, .inl g_bandRows)) :: (a_g_zoneColumns, .inl (ci 0, 5, .inl g_zoneColumns)) :: (a_g_rows, .inl (ci 0, 5, .inl g_rows)) :: (a_g_sheets, .inl (ci 0, 5, .inl g_sheets)) :: Rw) H → va_D A ((a_rd, .inr (3, [.ref a_g, .ref a_tp, .int v10, .int rd_end, .int v11, .int rd_key, .int v12, .int v13, .int v14])) :: (a_tp, .inr (8, [.ref a_tp_bytes, .int tp_length])) :: (a_tp_bytes, .inl (ci 0, 200, .inl tp_bytes)) :: (a_g, .inr (2, [.ref a_g_rowCuts, .ref a_g_columnCuts, .ref a_g_bandRows, .ref a_g_zoneColumns, .ref a_g_rows, .ref a_g_sheets])) :: (a_g_rowCuts, .inl (ci 0, 5, .inl g_rowCuts)) :: (a_g_columnCuts, .inl (ci 0, 5, .inl g_columnCuts)) :: (a_g_bandRows, .inl (ci 0, 5, .inl g_bandRows)) :: (a_g_zoneColumns, .inl (ci 0, 5, .inl g_zoneColumns)) :: (a_g_rows, .inl (ci 0, 5, .inl g_rows)) :: (a_g_sheets, .inl (ci 0, 5, .inl g_sheets)) :: Rw) → va_S A s.heap H locs → lv_has ls 6 [(0, .ref a_rd), (3, .int v8), (4, .int v9)] → W p l e ({ frames := 2, cells := 0, slots := 0, locals := 45 } : Room) s m ([.ref a_rd, .int p1] : List Value).toArray below meth c H locs 0 0 Q (F0 m 22 ls []) := by
      intro n22
      induction n22 with
      | zero => intro v8 v9 v10 v11 v12 v13 v14 H locs ls hf; rw [f_NameReader_readNumbers_L22] at hf; cases hf
      | succ n22 ih22 =>
        intro v8 v9 v10 v11 v12 v13 v14 H locs ls hf hP hD hS hl
        rw [f_NameReader_readNumbers_L22] at hf
        refine lv_aload_n (pc := 22) hx hb dX3_readNumbers_22 rfl (lv_at hl 0 rfl) ?_
        refine va_get (pc := 23) (D := D) (ci := 3) (v := .int v12) (C := RX3) (T := TX3) (N := 9) hx hb hts hinX3 hown hK hP 0 rfl rfl 6 (by decide) w_2 (fun _ h9 => h9) rfl dX3_readNumbers_23 ?_
        refine q_if_ne (pc := 26) (tgt := 150) hx hb dX3_readNumbers_26 (by decide) rfl hf (fun hf => ?_) (fun hf => ?_)
        · obtain ⟨rfl, rfl, rfl, rfl, rfl, rfl, rfl⟩ := q_inj7 (Option.some.inj hf)
          exact JE22 _ _ _ hP hD hS (lv_sub hl [0, 1, 2] rfl)
        · refine lv_aload_n (pc := 29) hx hb dX3_readNumbers_29 rfl (lv_at hl 0 rfl) ?_
          refine va_get (pc := 30) (D := D) (ci := 3) (v := .int v10) (C := RX3) (T := TX3) (N := 9) hx hb hts hinX3 hown hK hP 0 rfl rfl 2 (by decide) w_3 (fun _ h9 => h9) rfl dX3_readNumbers_30 ?_
          refine lv_aload_n (pc := 33) hx hb dX3_readNumbers_33 rfl (lv_at hl 0 rfl) ?_
          refine va_get (pc := 34) (D := D) (ci := 3) (v := .int rd_end) (C := RX3) (T := TX3) (N := 9) hx hb hts hinX3 hown hK hP 0 rfl rfl 3 (by decide) w_4 (fun _ h9 => h9) rfl dX3_readNumbers_34 ?_
          refine q_icmp_ge (pc := 37) (tgt := 150) hx hb dX3_readNumbers_37 (by decide) rfl hf (fun hf => ?_) (fun hf => ?_)
          · obtain ⟨rfl, rfl, rfl, rfl, rfl, rfl, rfl⟩ := q_inj7 (Option.some.inj hf)
            exact JE22 _ _ _ hP hD hS (lv_sub hl [0, 1, 2] rfl)
          · refine lv_aload_n (pc := 40) hx hb dX3_readNumbers_40 rfl (lv_at hl 0 rfl) ?_
            refine va_get (pc := 41) (D := D) (ci := 3) (v := .int v11) (C := RX3) (T := TX3) (N := 9) hx hb hts hinX3 hown hK hP 0 rfl rfl 4 (by decide) w_1 (fun _ h9 => h9) rfl dX3_readNumbers_41 ?_
            refine lv_iconst (pc := 44) (v := 4) hx hb dX3_readNumbers_44 (by decide) ?_
            refine q_icmp_ge (pc := 45) (tgt := 150) hx hb dX3_readNumbers_45 (by decide) rfl hf (fun hf => ?_) (fun hf => ?_)
            · obtain ⟨rfl, rfl, rfl, rfl, rfl, rfl, rfl⟩ := q_inj7 (Option.some.inj hf)
              exact JE22 _ _ _ hP hD hS (lv_sub hl [0, 1, 2] rfl)
            · refine lv_aload_n (pc := 48) hx hb dX3_readNumbers_48 rfl (lv_at hl 0 rfl) ?_
              obtain ⟨v33, hm49, hf⟩ := q_b1_e hf
              refine q_cVr (pc := 49) (As := []) (rest := []) (v0 := (some (.int v33))) ⟨hx, hb, hml, hown, hts⟩ hK hA hZ hP hD hS hl.1 [0, 1, 2] 10 rfl ⟨rfl, rfl, rfl⟩ (c_NameReader_here l D ci A sa N (Rw) a_rd a_g a_tp a_tp_bytes v10 rd_end v11 rd_key v12 v13 v14 tp_length tp_bytes v33 hm49) 0 rfl rfl (cwV 0 hts gX3_readNumbers_X3_here rfl rfl rfl (by decide +kernel) ⟨Nat.le_of_ble_eq_true rfl, Nat.le_of_ble_eq_true rfl⟩) rfl rfl (Nat.le_of_ble_eq_true rfl) dX3_readNumbers_49 ⟨Nat.zero_le _, Nat.zero_le _⟩ (fun locs hS => ?_)
              refine lv_bipush (pc := 52) (v := 45) hx hb dX3_readNumbers_52 (by decide) ?_
              refine q_icmp_ne (pc := 54) (tgt := 150) hx hb dX3_readNumbers_54 (by decide) rfl hf (fun hf => ?_) (fun hf => ?_)
              · obtain ⟨rfl, rfl, rfl, rfl, rfl, rfl, rfl⟩ := q_inj7 (Option.some.inj hf)
                exact JE22 _ _ _ hP hD hS (lv_sub hl [0, 1, 2] rfl)
              · refine lv_aload_n (pc := 57) hx hb dX3_readNumbers_57 rfl (lv_at hl 0 rfl) ?_
                refine lv_dup (pc := 58) hx hb dX3_readNumbers_58 rfl ?_
                refine va_get (pc := 59) (D := D) (ci := 3) (v := .int v10) (C := RX3) (T := TX3) (N := 9) hx hb hts hinX3 hown hK hP 0 rfl rfl 2 (by decide) w_3 (fun _ h9 => h9) rfl dX3_readNumbers_59 ?_
                refine lv_iconst (pc := 62) (v := 1) hx hb dX3_readNumbers_62 (by decide) ?_
                refine lv_iadd (pc := 63) hx hb dX3_readNumbers_63 ?_
                obtain ⟨v34, ev34, hf⟩ := q_nm_e hf
                refine q_topi ev34 ?_
                refine va_put (pc := 64) (D := D) (ci := 3) (v := .int v34) (ty := .int) (C := RX3) (T := TX3) (N := 9) hx hb hts hinX3 tyX3 tyX3_ok nmX3 hown hK hP hD hS 0 rfl rfl 2 (by decide) w_3 (fun _ h9 => h9) rfl (by decide +kernel) rfl rfl (Nat.le_of_ble_eq_true rfl) dX3_readNumbers_64 (fun H locs hP hD hS => ?_)
                obtain ⟨hP, hD⟩ : va_PD D A ((a_rd, .inr (3, [.ref a_g, .ref a_tp, .int v34, .int rd_end, .int v11, .int rd_key, .int v12, .int v13, .int v14])) :: (a_tp, .inr (8, [.ref a_tp_bytes, .int tp_length])) :: (a_tp_bytes, .inl (ci 0, 200, .inl tp_bytes)) :: (a_g, .inr (2, [.ref a_g_rowCuts, .ref a_g_columnCuts, .ref a_g_bandRows, .ref a_g_zoneColumns, .ref a_g_rows, .ref a_g_sheets])) :: (a_g_rowCuts, .inl (ci 0, 5, .inl g_rowCuts)) :: (a_g_columnCuts, .inl (ci 0, 5, .inl g_columnCuts)) :: (a_g_bandRows, .inl (ci 0, 5, .inl g_bandRows)) :: (a_g_zoneColumns, .inl (ci 0, 5, .inl g_zoneColumns)) :: (a_g_rows, .inl (ci 0, 5, .inl g_rows)) :: (a_g_sheets, .inl (ci 0, 5, .inl g_sheets)) :: Rw) H := ⟨hP, hD⟩
                refine lv_aload_n (pc := 67) hx hb dX3_readNumbers_67 rfl (lv_at hl 0 rfl) ?_
                refine lv_dup (pc := 68) hx hb dX3_readNumbers_68 rfl ?_
                refine va_get (pc := 69) (D := D) (ci := 3) (v := .int v11) (C := RX3) (T := TX3) (N := 9) hx hb hts hinX3 hown hK hP 0 rfl rfl 4 (by decide) w_1 (fun _ h9 => h9) rfl dX3_readNumbers_69 ?_
                refine lv_iconst (pc := 72) (v := 1) hx hb dX3_readNumbers_72 (by decide) ?_
                refine lv_iadd (pc := 73) hx hb dX3_readNumbers_73 ?_
                obtain ⟨v35, ev35, hf⟩ := q_nm_e hf
                refine q_topi ev35 ?_
                refine va_put (pc := 74) (D := D) (ci := 3) (v := .int v35) (ty := .int) (C := RX3) (T := TX3) (N := 9) hx hb hts hinX3 tyX3 tyX3_ok nmX3 hown hK hP hD hS 0 rfl rfl 4 (by decide) w_1 (fun _ h9 => h9) rfl (by decide +kernel) rfl rfl (Nat.le_of_ble_eq_true rfl) dX3_readNumbers_74 (fun H locs hP hD hS => ?_)
                obtain ⟨hP, hD⟩ : va_PD D A ((a_rd, .inr (3, [.ref a_g, .ref a_tp, .int v34, .int rd_end, .int v35, .int rd_key, .int v12, .int v13, .int v14])) :: (a_tp, .inr (8, [.ref a_tp_bytes, .int tp_length])) :: (a_tp_bytes, .inl (ci 0, 200, .inl tp_bytes)) :: (a_g, .inr (2, [.ref a_g_rowCuts, .ref a_g_columnCuts, .ref a_g_bandRows, .ref a_g_zoneColumns, .ref a_g_rows, .ref a_g_sheets])) :: (a_g_rowCuts, .inl (ci 0, 5, .inl g_rowCuts)) :: (a_g_columnCuts, .inl (ci 0, 5, .inl g_columnCuts)) :: (a_g_bandRows, .inl (ci 0, 5, .inl g_bandRows)) :: (a_g_zoneColumns, .inl (ci 0, 5, .inl g_zoneColumns)) :: (a_g_rows, .inl (ci 0, 5, .inl g_rows)) :: (a_g_sheets, .inl (ci 0, 5, .inl g_sheets)) :: Rw) H := ⟨hP, hD⟩
                refine lv_aload_n (pc := 77) hx hb dX3_readNumbers_77 rfl (lv_at hl 0 rfl) ?_
                refine va_get (pc := 78) (D := D) (ci := 3) (v := .ref a_g) (C := RX3) (T := TX3) (N := 9) hx hb hts hinX3 hown hK hP 0 rfl rfl 0 (by decide) w_5 (fun _ h9 => h9) rfl dX3_readNumbers_78 ?_
                refine va_getN (pc := 81) (D := D) (ci := 2) (v := .ref a_g_columnCuts) (C := RX2) (T := TX2) (N := 6) hx hb hts hinX2 hown hK hP 3 rfl rfl 1 (by decide) wn_46 (fun _ h9 => h9) rfl dX3_readNumbers_81 ?_
                refine lv_aload_n (pc := 84) hx hb dX3_readNumbers_84 rfl (lv_at hl 0 rfl) ?_
                refine va_get (pc := 85) (D := D) (ci := 3) (v := .int v35) (C := RX3) (T := TX3) (N := 9) hx hb hts hinX3 hown hK hP 0 rfl rfl 4 (by decide) w_1 (fun _ h9 => h9) rfl dX3_readNumbers_85 ?_
                refine q_iald (pc := 88) hx hb hK hP 5 0 hf rfl rfl dX3_readNumbers_88 (fun v36 hf => ?_)
                refine lv_istore (pc := 89) (lv' := [(5, .int v36), (0, .ref a_rd), (3, .int v8), (4, .int v9)]) hx hb dX3_readNumbers_89 hl (by decide) rfl (fun ls hl => ?_)
                refine lv_aload_n (pc := 91) hx hb dX3_readNumbers_91 rfl (lv_at hl 1 rfl) ?_
                refine lv_aload_n (pc := 92) hx hb dX3_readNumbers_92 rfl (lv_at hl 1 rfl) ?_
                refine va_get (pc := 93) (D := D) (ci := 3) (v := .ref a_g) (C := RX3) (T := TX3) (N := 9) hx hb hts hinX3 hown hK hP 0 rfl rfl 0 (by decide) w_5 (fun _ h9 => h9) rfl dX3_readNumbers_93 ?_
                refine va_getN (pc := 96) (D := D) (ci := 2) (v := .ref a_g_rowCuts) (C := RX2) (T := TX2) (N := 6) hx hb hts hinX2 hown hK hP 3 rfl rfl 0 (by decide) wn_47 (fun _ h9 => h9) rfl dX3_readNumbers_96 ?_
                refine lv_aload_n (pc := 99) hx hb dX3_readNumbers_99 rfl (lv_at hl 1 rfl) ?_
                refine va_get (pc := 100) (D := D) (ci := 3) (v := .int v35) (C := RX3) (T := TX3) (N := 9) hx hb hts hinX3 hown hK hP 0 rfl rfl 4 (by decide) w_1 (fun _ h9 => h9) rfl dX3_readNumbers_100 ?_
                refine q_iald (pc := 103) hx hb hK hP 4 0 hf rfl rfl dX3_readNumbers_103 (fun v37 hf => ?_)
                refine lv_iload (pc := 104) hx hb dX3_readNumbers_104 (lv_at hl 0 rfl) ?_
                refine lv_imul (pc := 106) hx hb dX3_readNumbers_106 ?_
                obtain ⟨v38, v39, v40, v41, v42, hm107, hf⟩ := q_b5_e hf
                refine q_cV (pc := 107) (As := [.int (v37 * v36)]) (rest := []) (v0 := (some (.int v38))) ⟨hx, hb, hml, hown, hts⟩ hK hA hZ hP hD hS hl.1 [0, 1, 2, 3, 4, 5, 6, 7, 8, 9] 10 rfl ⟨rfl, rfl, rfl⟩ (c_NameReader_readNumber l D ci A sa N ((a_g, .inr (2, [.ref a_g_rowCuts, .ref a_g_columnCuts, .ref a_g_bandRows, .ref a_g_zoneColumns, .ref a_g_rows, .ref a_g_sheets])) :: (a_g_rowCuts, .inl (ci 0, 5, .inl g_rowCuts)) :: (a_g_columnCuts, .inl (ci 0, 5, .inl g_columnCuts)) :: (a_g_bandRows, .inl (ci 0, 5, .inl g_bandRows)) :: (a_g_zoneColumns, .inl (ci 0, 5, .inl g_zoneColumns)) :: (a_g_rows, .inl (ci 0, 5, .inl g_rows)) :: (a_g_sheets, .inl (ci 0, 5, .inl g_sheets)) :: Rw) a_rd a_g a_tp a_tp_bytes v34 rd_end v35 rd_key v12 v13 v14 tp_length tp_bytes (v37 * v36) v38 v39 v40 v41 v42 hm107) 0 rfl rfl (cwV 1 hts gX3_readNumbers_X3_readNumber rfl rfl rfl (by decide +kernel) ⟨Nat.le_of_ble_eq_true rfl, Nat.le_of_ble_eq_true rfl⟩) rfl rfl (Nat.le_of_ble_eq_true rfl) dX3_readNumbers_107 ⟨Nat.zero_le _, Nat.zero_le _⟩ [0, 1, 2, 3, 4, 5, 6, 7, 8, 9] 10 rfl ⟨rfl, rfl, rfl⟩ (fun H locs hP hD hS => ?_)
                obtain ⟨hP, hD⟩ : va_PD D A ((a_rd, .inr (3, [.ref a_g, .ref a_tp, .int v39, .int rd_end, .int v35, .int rd_key, .int v40, .int v41, .int v42])) :: (a_tp, .inr (8, [.ref a_tp_bytes, .int tp_length])) :: (a_tp_bytes, .inl (ci 0, 200, .inl tp_bytes)) :: (a_g, .inr (2, [.ref a_g_rowCuts, .ref a_g_columnCuts, .ref a_g_bandRows, .ref a_g_zoneColumns, .ref a_g_rows, .ref a_g_sheets])) :: (a_g_rowCuts, .inl (ci 0, 5, .inl g_rowCuts)) :: (a_g_columnCuts, .inl (ci 0, 5, .inl g_columnCuts)) :: (a_g_bandRows, .inl (ci 0, 5, .inl g_bandRows)) :: (a_g_zoneColumns, .inl (ci 0, 5, .inl g_zoneColumns)) :: (a_g_rows, .inl (ci 0, 5, .inl g_rows)) :: (a_g_sheets, .inl (ci 0, 5, .inl g_sheets)) :: Rw) H := ⟨hP, hD⟩
                refine lv_istore_n (pc := 110) (lv' := [(2, .int v38), (5, .int v36), (0, .ref a_rd), (3, .int v8), (4, .int v9)]) hx hb dX3_readNumbers_110 rfl hl (by decide) rfl (fun ls hl => ?_)
                refine lv_iload_n (pc := 111) hx hb dX3_readNumbers_111 rfl (lv_at hl 3 rfl) ?_
                refine lv_aload_n (pc := 112) hx hb dX3_readNumbers_112 rfl (lv_at hl 2 rfl) ?_
                refine va_get (pc := 113) (D := D) (ci := 3) (v := .ref a_g) (C := RX3) (T := TX3) (N := 9) hx hb hts hinX3 hown hK hP 0 rfl rfl 0 (by decide) w_5 (fun _ h9 => h9) rfl dX3_readNumbers_113 ?_
                refine va_getN (pc := 116) (D := D) (ci := 2) (v := .ref a_g_rowCuts) (C := RX2) (T := TX2) (N := 6) hx hb hts hinX2 hown hK hP 3 rfl rfl 0 (by decide) wn_47 (fun _ h9 => h9) rfl dX3_readNumbers_116 ?_
                refine lv_aload_n (pc := 119) hx hb dX3_readNumbers_119 rfl (lv_at hl 2 rfl) ?_
                refine va_get (pc := 120) (D := D) (ci := 3) (v := .int v35) (C := RX3) (T := TX3) (N := 9) hx hb hts hinX3 hown hK hP 0 rfl rfl 4 (by decide) w_1 (fun _ h9 => h9) rfl dX3_readNumbers_120 ?_
                refine q_iald (pc := 123) hx hb hK hP 4 0 hf rfl rfl dX3_readNumbers_123 (fun v43 hf => ?_)
                refine lv_imul (pc := 124) hx hb dX3_readNumbers_124 ?_
                refine lv_iload_n (pc := 125) hx hb dX3_readNumbers_125 rfl (lv_at hl 0 rfl) ?_
                refine lv_iconst (pc := 126) (v := 1) hx hb dX3_readNumbers_126 (by decide) ?_
                refine lv_isub (pc := 127) hx hb dX3_readNumbers_127 ?_
                refine lv_iload (pc := 128) hx hb dX3_readNumbers_128 (lv_at hl 1 rfl) ?_
                refine q_idiv (pc := 130) hx hb dX3_readNumbers_130 hf (fun v44 hf => ?_)
                refine lv_iadd (pc := 131) hx hb dX3_readNumbers_131 ?_
                obtain ⟨v45, ev45, hf⟩ := q_nm_e hf
                refine q_topi ev45 ?_
                refine lv_istore_n (pc := 132) (lv' := [(3, .int v45), (2, .int v38), (5, .int v36), (0, .ref a_rd), (4, .int v9)]) hx hb dX3_readNumbers_132 rfl hl (by decide) rfl (fun ls hl => ?_)
                refine lv_iload (pc := 133) hx hb dX3_readNumbers_133 (lv_at hl 4 rfl) ?_
                refine lv_iload (pc := 135) hx hb dX3_readNumbers_135 (lv_at hl 2 rfl) ?_
                refine lv_imul (pc := 137) hx hb dX3_readNumbers_137 ?_
                refine lv_iload_n (pc := 138) hx hb dX3_readNumbers_138 rfl (lv_at hl 1 rfl) ?_
                refine lv_iconst (pc := 139) (v := 1) hx hb dX3_readNumbers_139 (by decide) ?_
                refine lv_isub (pc := 140) hx hb dX3_readNumbers_140 ?_
                refine lv_iload (pc := 141) hx hb dX3_readNumbers_141 (lv_at hl 2 rfl) ?_
                refine q_irem (pc := 143) hx hb dX3_readNumbers_143 hf (fun v46 hf => ?_)
                refine lv_iadd (pc := 144) hx hb dX3_readNumbers_144 ?_
                obtain ⟨v47, ev47, hf⟩ := q_nm_e hf
                refine q_topi ev47 ?_
                refine lv_istore (pc := 145) (lv' := [(4, .int v47), (3, .int v45), (2, .int v38), (5, .int v36), (0, .ref a_rd)]) hx hb dX3_readNumbers_145 hl (by decide) rfl (fun ls hl => ?_)
                refine lv_goto (pc := 147) (tgt := 22) hx hb dX3_readNumbers_147 (by decide) ?_
                exact ih22 v45 v47 v39 v35 v40 v41 v42 _ _ _ hf hP hD hS (lv_sub hl [4, 1, 0] rfl)
    exact LP22 N p1 v7 v3 0 v4 v5 v6 _ _ _ hm22 hP hD hS (lv_sub hl [3, 1, 0] rfl)
  exact hgo _ _ rfl hP hS
/-! X3_readCap -/
set_option maxRecDepth 100000 in
set_option maxHeartbeats 4000000 in
theorem c_NameReader_readCap (l : Launch) (D : va_G) (ci : Nat → ClassId) (A : Nat → Prop) (sa : Nat → Nat) (N : Nat) (Rw : va_W) (a_rd : Nat) (a_g : Nat) (a_tp : Nat) (a_g_rowCuts : Nat) (a_g_columnCuts : Nat) (a_g_bandRows : Nat) (a_g_zoneColumns : Nat) (a_g_rows : Nat) (a_g_sheets : Nat) (rd_next : Int32) (rd_end : Int32) (rd_level : Int32) (rd_key : Int32) (rd_fault : Int32) (rd_faultPlace : Int32) (rd_endedSoon : Int32) (g_sheets : Nat → Int32) (p1 : Int32) (r : Int32) (o1 : Int32) (o2 : Int32) (o3 : Int32) (o4 : Int32) (o5 : Int32) (o6 : Int32) (hf : f_NameReader_readCap rd_next rd_end rd_level rd_key rd_fault rd_faultPlace rd_endedSoon g_sheets p1 = some (r, o1, o2, o3, o4, o5, o6)) : Met l yX3_readCap wsX3_readCap ({ frames := 1, cells := 0, slots := 0, locals := 20 }) (va_Pc [.ref a_rd, .int p1] (q_N D ci A sa ((a_rd, .inr (3, [.ref a_g, .ref a_tp, .int rd_next, .int rd_end, .int rd_level, .int rd_key, .int rd_fault, .int rd_faultPlace, .int rd_endedSoon])) :: (a_g, .inr (2, [.ref a_g_rowCuts, .ref a_g_columnCuts, .ref a_g_bandRows, .ref a_g_zoneColumns, .ref a_g_rows, .ref a_g_sheets])) :: (a_g_sheets, .inl (ci 0, 5, .inl g_sheets)) :: Rw))) (q_Q (some (.int r)) (q_O D A ((a_rd, .inr (3, [.ref a_g, .ref a_tp, .int o1, .int rd_end, .int o2, .int o3, .int o4, .int o5, .int o6])) :: (a_g, .inr (2, [.ref a_g_rowCuts, .ref a_g_columnCuts, .ref a_g_bandRows, .ref a_g_zoneColumns, .ref a_g_rows, .ref a_g_sheets])) :: (a_g_sheets, .inl (ci 0, 5, .inl g_sheets)) :: Rw)) A) 0 0 A := by
  refine q_ofW (cc := cX3_readCap) (maxL := 2) (ret := (some .boolean)) [.ref a_rd, .int p1] (plainFor_of_name (by decide)) rfl (Nat.le_of_ble_eq_true rfl) ?_
  intro p e s m below meth c ls Q hQ hx hb hml hr hts hown hlocks hK hA hZ hP hD hS hl
  have hl : lv_has ls 2 [(0, .ref a_rd), (1, .int p1)] := hl
  have hown : s.vm.findClass RX3 = some m.cls := hown
  have hinX2 : ∀ w ∈ wsX20, w ∈ wsX3_readCap := fun _ h => List.mem_cons_of_mem _ (inWX20 _ h)
  have hinX3 : ∀ w ∈ wsX30, w ∈ wsX3_readCap := fun _ h => List.mem_cons_of_mem _ (inWX30 _ h)
  have w_1 := hts (Cond.fieldLink RX3 9 "SheetNames$NameReader" "next" "I") (List.mem_cons_of_mem _ t_w846)
  have w_2 := hts (Cond.fieldLink RX3 15 "SheetNames$NameReader" "end" "I") (List.mem_cons_of_mem _ t_w847)
  have w_3 := hts (Cond.fieldLink RX3 18 "SheetNames$NameReader" "level" "I") (List.mem_cons_of_mem _ t_w849)
  have w_4 := hts (Cond.fieldLink RX3 34 "SheetNames$NameReader" "grid" "LSheetNames$Grid;") (List.mem_cons_of_mem _ t_w850)
  have w_5 := hts (Cond.fieldLink RX3 21 "SheetNames$NameReader" "key" "I") (List.mem_cons_of_mem _ t_w851)
  have wn_44 : (Cond.fieldLinkNest "SheetNames$NameReader" 58 "SheetNames$Grid" "sheets" "[I" "SheetNames").before ([.ref a_rd, .int p1] : List Value).toArray s = true := (hZ.2.2.2.2.2.2.2.2.2.1 _ (List.mem_of_getElem? (i := 44) rfl)).use rfl
  unfold f_NameReader_readCap at hf
  have hgo : ∀ (H : Heap) (locs : List Loc), H = s.heap → va_P D vwCl ((a_rd, .inr (3, [.ref a_g, .ref a_tp, .int rd_next, .int rd_end, .int rd_level, .int rd_key, .int rd_fault, .int rd_faultPlace, .int rd_endedSoon])) :: (a_g, .inr (2, [.ref a_g_rowCuts, .ref a_g_columnCuts, .ref a_g_bandRows, .ref a_g_zoneColumns, .ref a_g_rows, .ref a_g_sheets])) :: (a_g_sheets, .inl (ci 0, 5, .inl g_sheets)) :: Rw) H → va_S A s.heap H locs → W p l e ({ frames := 1, cells := 0, slots := 0, locals := 20 } : Room) s m ([.ref a_rd, .int p1] : List Value).toArray below meth c H locs 0 0 Q (F0 m 0 ls []) := by
    intro H locs hH hP hS
    refine lv_aload_n (pc := 0) hx hb dX3_readCap_0 rfl (lv_at hl 0 rfl) ?_
    refine lv_dup (pc := 1) hx hb dX3_readCap_1 rfl ?_
    refine va_get (pc := 2) (D := D) (ci := 3) (v := .int rd_next) (C := RX3) (T := TX3) (N := 9) hx hb hts hinX3 hown hK hP 0 rfl rfl 2 (by decide) w_1 (fun _ h9 => h9) rfl dX3_readCap_2 ?_
    refine lv_iconst (pc := 5) (v := 1) hx hb dX3_readCap_5 (by decide) ?_
    refine lv_iadd (pc := 6) hx hb dX3_readCap_6 ?_
    obtain ⟨v1, ev1, hf⟩ := q_nm_e hf
    refine q_topi ev1 ?_
    refine va_put (pc := 7) (D := D) (ci := 3) (v := .int v1) (ty := .int) (C := RX3) (T := TX3) (N := 9) hx hb hts hinX3 tyX3 tyX3_ok nmX3 hown hK hP hD hS 0 rfl rfl 2 (by decide) w_1 (fun _ h9 => h9) rfl (by decide +kernel) rfl rfl (Nat.le_of_ble_eq_true rfl) dX3_readCap_7 (fun H locs hP hD hS => ?_)
    obtain ⟨hP, hD⟩ : va_PD D A ((a_rd, .inr (3, [.ref a_g, .ref a_tp, .int v1, .int rd_end, .int rd_level, .int rd_key, .int rd_fault, .int rd_faultPlace, .int rd_endedSoon])) :: (a_g, .inr (2, [.ref a_g_rowCuts, .ref a_g_columnCuts, .ref a_g_bandRows, .ref a_g_zoneColumns, .ref a_g_rows, .ref a_g_sheets])) :: (a_g_sheets, .inl (ci 0, 5, .inl g_sheets)) :: Rw) H := ⟨hP, hD⟩
    refine lv_aload_n (pc := 10) hx hb dX3_readCap_10 rfl (lv_at hl 0 rfl) ?_
    refine va_get (pc := 11) (D := D) (ci := 3) (v := .int v1) (C := RX3) (T := TX3) (N := 9) hx hb hts hinX3 hown hK hP 0 rfl rfl 2 (by decide) w_1 (fun _ h9 => h9) rfl dX3_readCap_11 ?_
    refine lv_aload_n (pc := 14) hx hb dX3_readCap_14 rfl (lv_at hl 0 rfl) ?_
    refine va_get (pc := 15) (D := D) (ci := 3) (v := .int rd_end) (C := RX3) (T := TX3) (N := 9) hx hb hts hinX3 hown hK hP 0 rfl rfl 3 (by decide) w_2 (fun _ h9 => h9) rfl dX3_readCap_15 ?_
    refine q_icmp_ge (pc := 18) (tgt := 26) hx hb dX3_readCap_18 (by decide) rfl hf (fun hf => ?_) (fun hf => ?_)
    · refine lv_aload_n (pc := 26) hx hb dX3_readCap_26 rfl (lv_at hl 0 rfl) ?_
      refine lv_iconst (pc := 27) (v := 0) hx hb dX3_readCap_27 (by decide) ?_
      refine va_put (pc := 28) (D := D) (ci := 3) (v := .int 0) (ty := .int) (C := RX3) (T := TX3) (N := 9) hx hb hts hinX3 tyX3 tyX3_ok nmX3 hown hK hP hD hS 0 rfl rfl 4 (by decide) w_3 (fun _ h9 => h9) rfl (by decide +kernel) rfl rfl (Nat.le_of_ble_eq_true rfl) dX3_readCap_28 (fun H locs hP hD hS => ?_)
      obtain ⟨hP, hD⟩ : va_PD D A ((a_rd, .inr (3, [.ref a_g, .ref a_tp, .int v1, .int rd_end, .int 0, .int rd_key, .int rd_fault, .int rd_faultPlace, .int rd_endedSoon])) :: (a_g, .inr (2, [.ref a_g_rowCuts, .ref a_g_columnCuts, .ref a_g_bandRows, .ref a_g_zoneColumns, .ref a_g_rows, .ref a_g_sheets])) :: (a_g_sheets, .inl (ci 0, 5, .inl g_sheets)) :: Rw) H := ⟨hP, hD⟩
      refine lv_aload_n (pc := 31) hx hb dX3_readCap_31 rfl (lv_at hl 0 rfl) ?_
      refine lv_iload_n (pc := 32) hx hb dX3_readCap_32 rfl (lv_at hl 1 rfl) ?_
      obtain ⟨k51, ek51, hf⟩ := q_j1_e hf
      have J51 : ∀ (v2 : Int32) (H : Heap) (locs : List Loc) (ls : Array Slot), k51 v2 = some (r, o1, o2, o3, o4, o5, o6) → va_P D vwCl ((a_rd, .inr (3, [.ref a_g, .ref a_tp, .int v1, .int rd_end, .int 0, .int rd_key, .int rd_fault, .int rd_faultPlace, .int rd_endedSoon])) :: (a_g, .inr (2, [.ref a_g_rowCuts, .ref a_g_columnCuts, .ref a_g_bandRows, .ref a_g_zoneColumns, .ref a_g_rows, .ref a_g_sheets])) :: (a_g_sheets, .inl (ci 0, 5, .inl g_sheets)) :: Rw) H → va_D A ((a_rd, .inr (3, [.ref a_g, .ref a_tp, .int v1, .int rd_end, .int 0, .int rd_key, .int rd_fault, .int rd_faultPlace, .int rd_endedSoon])) :: (a_g, .inr (2, [.ref a_g_rowCuts, .ref a_g_columnCuts, .ref a_g_bandRows, .ref a_g_zoneColumns, .ref a_g_rows, .ref a_g_sheets])) :: (a_g_sheets, .inl (ci 0, 5, .inl g_sheets)) :: Rw) → va_S A s.heap H locs → lv_has ls 2 [] → W p l e ({ frames := 1, cells := 0, slots := 0, locals := 20 } : Room) s m ([.ref a_rd, .int p1] : List Value).toArray below meth c H locs 0 0 Q (F0 m 51 ls [.int v2, .ref a_rd]) := by
        intro v2 H locs ls hf hP hD hS hl
        have hf := (ek51 v2).symm.trans hf
        refine va_put (pc := 51) (D := D) (ci := 3) (v := .int v2) (ty := .int) (C := RX3) (T := TX3) (N := 9) hx hb hts hinX3 tyX3 tyX3_ok nmX3 hown hK hP hD hS 0 rfl rfl 5 (by decide) w_5 (fun _ h9 => h9) rfl (by decide +kernel) rfl rfl (Nat.le_of_ble_eq_true rfl) dX3_readCap_51 (fun H locs hP hD hS => ?_)
        obtain ⟨hP, hD⟩ : va_PD D A ((a_rd, .inr (3, [.ref a_g, .ref a_tp, .int v1, .int rd_end, .int 0, .int v2, .int rd_fault, .int rd_faultPlace, .int rd_endedSoon])) :: (a_g, .inr (2, [.ref a_g_rowCuts, .ref a_g_columnCuts, .ref a_g_bandRows, .ref a_g_zoneColumns, .ref a_g_rows, .ref a_g_sheets])) :: (a_g_sheets, .inl (ci 0, 5, .inl g_sheets)) :: Rw) H := ⟨hP, hD⟩
        refine lv_iconst (pc := 54) (v := 1) hx hb dX3_readCap_54 (by decide) ?_
        obtain ⟨e90, e91, e92, e93, e94, e95, e96⟩ := q_inj7 (Option.some.inj hf)
        rw [hQ, ← e90, ← e91, ← e92, ← e93, ← e94, ← e95, ← e96]
        exact q_zret (pc := 55) hx hb hr rfl hlocks hP hD hS dX3_readCap_55
      refine q_if_eq (pc := 33) (tgt := 40) hx hb dX3_readCap_33 (by decide) rfl hf (fun hf => ?_) (fun hf => ?_)
      · refine lv_aload_n (pc := 40) hx hb dX3_readCap_40 rfl (lv_at hl 0 rfl) ?_
        refine va_get (pc := 41) (D := D) (ci := 3) (v := .ref a_g) (C := RX3) (T := TX3) (N := 9) hx hb hts hinX3 hown hK hP 0 rfl rfl 0 (by decide) w_4 (fun _ h9 => h9) rfl dX3_readCap_41 ?_
        refine va_getN (pc := 44) (D := D) (ci := 2) (v := .ref a_g_sheets) (C := RX2) (T := TX2) (N := 6) hx hb hts hinX2 hown hK hP 1 rfl rfl 5 (by decide) wn_44 (fun _ h9 => h9) rfl dX3_readCap_44 ?_
        refine lv_iconst (pc := 47) (v := 0) hx hb dX3_readCap_47 (by decide) ?_
        refine q_iald (pc := 48) hx hb hK hP 2 0 hf rfl rfl dX3_readCap_48 (fun v3 hf => ?_)
        refine lv_iconst (pc := 49) (v := 1) hx hb dX3_readCap_49 (by decide) ?_
        refine lv_isub (pc := 50) hx hb dX3_readCap_50 ?_
        exact J51 (v3 - 1) _ _ _ hf hP hD hS (lv_sub hl [] rfl)
      · refine lv_iconst (pc := 36) (v := 0) hx hb dX3_readCap_36 (by decide) ?_
        refine lv_goto (pc := 37) (tgt := 51) hx hb dX3_readCap_37 (by decide) ?_
        exact J51 0 _ _ _ hf hP hD hS (lv_sub hl [] rfl)
    · refine lv_aload_n (pc := 21) hx hb dX3_readCap_21 rfl (lv_at hl 0 rfl) ?_
      obtain ⟨v4, v5, v6, v7, hm22, hf⟩ := q_b4_e hf
      refine q_cV (pc := 22) (As := []) (rest := []) (v0 := (some (.int v4))) ⟨hx, hb, hml, hown, hts⟩ hK hA hZ hP hD hS hl.1 [0, 1, 2] 3 rfl ⟨rfl, rfl, rfl⟩ (c_NameReader_failHere l D ci A sa N ((a_g, .inr (2, [.ref a_g_rowCuts, .ref a_g_columnCuts, .ref a_g_bandRows, .ref a_g_zoneColumns, .ref a_g_rows, .ref a_g_sheets])) :: (a_g_sheets, .inl (ci 0, 5, .inl g_sheets)) :: Rw) a_rd a_g a_tp v1 rd_end rd_level rd_key rd_fault rd_faultPlace rd_endedSoon v4 v5 v6 v7 hm22) 0 rfl rfl (cwV 0 hts gX3_readCap_X3_failHere rfl rfl rfl (by decide +kernel) ⟨Nat.le_of_ble_eq_true rfl, Nat.le_of_ble_eq_true rfl⟩) rfl rfl (Nat.le_of_ble_eq_true rfl) dX3_readCap_22 ⟨Nat.zero_le _, Nat.zero_le _⟩ [0, 1, 2] 3 rfl ⟨rfl, rfl, rfl⟩ (fun H locs hP hD hS => ?_)
      obtain ⟨hP, hD⟩ : va_PD D A ((a_rd, .inr (3, [.ref a_g, .ref a_tp, .int v1, .int rd_end, .int rd_level, .int rd_key, .int v5, .int v6, .int v7])) :: (a_g, .inr (2, [.ref a_g_rowCuts, .ref a_g_columnCuts, .ref a_g_bandRows, .ref a_g_zoneColumns, .ref a_g_rows, .ref a_g_sheets])) :: (a_g_sheets, .inl (ci 0, 5, .inl g_sheets)) :: Rw) H := ⟨hP, hD⟩
      obtain ⟨hn9, hf9, hf⟩ := q_bo_e hf
      obtain ⟨e90, e91, e92, e93, e94, e95, e96⟩ := q_inj7 (Option.some.inj hf)
      rw [hQ, ← e90, ← e91, ← e92, ← e93, ← e94, ← e95, ← e96]
      exact q_zret (pc := 25) hx hb hr hn9 hlocks hP hD hS dX3_readCap_25
  exact hgo _ _ rfl hP hS
/-! X3_read -/
set_option maxRecDepth 100000 in
set_option maxHeartbeats 4000000 in
theorem c_NameReader_read (l : Launch) (D : va_G) (ci : Nat → ClassId) (A : Nat → Prop) (sa : Nat → Nat) (N : Nat) (Rw : va_W) (a_rd : Nat) (a_g : Nat) (a_tp : Nat) (a_tp_bytes : Nat) (a_g_rowCuts : Nat) (a_g_columnCuts : Nat) (a_g_bandRows : Nat) (a_g_zoneColumns : Nat) (a_g_rows : Nat) (a_g_sheets : Nat) (rd_next : Int32) (rd_end : Int32) (rd_level : Int32) (rd_key : Int32) (rd_fault : Int32) (rd_faultPlace : Int32) (rd_endedSoon : Int32) (tp_length : Int32) (tp_bytes : Nat → Int32) (g_rowCuts : Nat → Int32) (g_columnCuts : Nat → Int32) (g_bandRows : Nat → Int32) (g_zoneColumns : Nat → Int32) (g_rows : Nat → Int32) (g_sheets : Nat → Int32) (p1 : Int32) (p2 : Int32) (r : Int32) (o1 : Int32) (o2 : Int32) (o3 : Int32) (o4 : Int32) (o5 : Int32) (o6 : Int32) (o7 : Int32) (hf : f_NameReader_read N rd_next rd_end rd_level rd_key rd_fault rd_faultPlace rd_endedSoon tp_bytes tp_length g_rowCuts g_columnCuts g_bandRows g_zoneColumns g_rows g_sheets p1 p2 = some (r, o1, o2, o3, o4, o5, o6, o7)) : Met l yX3_read wsX3_read ({ frames := 3, cells := 0, slots := 0, locals := 70 }) (va_Pc [.ref a_rd, .int p1, .int p2] (q_N D ci A sa ((a_rd, .inr (3, [.ref a_g, .ref a_tp, .int rd_next, .int rd_end, .int rd_level, .int rd_key, .int rd_fault, .int rd_faultPlace, .int rd_endedSoon])) :: (a_tp, .inr (8, [.ref a_tp_bytes, .int tp_length])) :: (a_tp_bytes, .inl (ci 0, 200, .inl tp_bytes)) :: (a_g, .inr (2, [.ref a_g_rowCuts, .ref a_g_columnCuts, .ref a_g_bandRows, .ref a_g_zoneColumns, .ref a_g_rows, .ref a_g_sheets])) :: (a_g_rowCuts, .inl (ci 0, 5, .inl g_rowCuts)) :: (a_g_columnCuts, .inl (ci 0, 5, .inl g_columnCuts)) :: (a_g_bandRows, .inl (ci 0, 5, .inl g_bandRows)) :: (a_g_zoneColumns, .inl (ci 0, 5, .inl g_zoneColumns)) :: (a_g_rows, .inl (ci 0, 5, .inl g_rows)) :: (a_g_sheets, .inl (ci 0, 5, .inl g_sheets)) :: Rw))) (q_Q (some (.int r)) (q_O D A ((a_rd, .inr (3, [.ref a_g, .ref a_tp, .int o1, .int o2, .int o3, .int o4, .int o5, .int o6, .int o7])) :: (a_tp, .inr (8, [.ref a_tp_bytes, .int tp_length])) :: (a_tp_bytes, .inl (ci 0, 200, .inl tp_bytes)) :: (a_g, .inr (2, [.ref a_g_rowCuts, .ref a_g_columnCuts, .ref a_g_bandRows, .ref a_g_zoneColumns, .ref a_g_rows, .ref a_g_sheets])) :: (a_g_rowCuts, .inl (ci 0, 5, .inl g_rowCuts)) :: (a_g_columnCuts, .inl (ci 0, 5, .inl g_columnCuts)) :: (a_g_bandRows, .inl (ci 0, 5, .inl g_bandRows)) :: (a_g_zoneColumns, .inl (ci 0, 5, .inl g_zoneColumns)) :: (a_g_rows, .inl (ci 0, 5, .inl g_rows)) :: (a_g_sheets, .inl (ci 0, 5, .inl g_sheets)) :: Rw)) A) 0 0 A := by
  refine q_ofW (cc := cX3_read) (maxL := 6) (ret := (some .boolean)) [.ref a_rd, .int p1, .int p2] (plainFor_of_name (by decide)) rfl (Nat.le_of_ble_eq_true rfl) ?_
  intro p e s m below meth c ls Q hQ hx hb hml hr hts hown hlocks hK hA hZ hP hD hS hl
  have hl : lv_has ls 6 [(0, .ref a_rd), (1, .int p1), (2, .int p2)] := hl
  have hown : s.vm.findClass RX3 = some m.cls := hown
  have hinX3 : ∀ w ∈ wsX30, w ∈ wsX3_read := fun _ h => List.mem_cons_of_mem _ (inWX30 _ h)
  have w_1 := hts (Cond.fieldLink RX3 9 "SheetNames$NameReader" "next" "I") (List.mem_cons_of_mem _ t_w846)
  have w_2 := hts (Cond.fieldLink RX3 15 "SheetNames$NameReader" "end" "I") (List.mem_cons_of_mem _ t_w847)
  have w_3 := hts (Cond.fieldLink RX3 24 "SheetNames$NameReader" "fault" "I") (List.mem_cons_of_mem _ t_w843)
  have w_4 := hts (Cond.fieldLink RX3 30 "SheetNames$NameReader" "endedSoon" "Z") (List.mem_cons_of_mem _ t_w845)
  unfold f_NameReader_read at hf
  have hgo : ∀ (H : Heap) (locs : List Loc), H = s.heap → va_P D vwCl ((a_rd, .inr (3, [.ref a_g, .ref a_tp, .int rd_next, .int rd_end, .int rd_level, .int rd_key, .int rd_fault, .int rd_faultPlace, .int rd_endedSoon])) :: (a_tp, .inr (8, [.ref a_tp_bytes, .int tp_length])) :: (a_tp_bytes, .inl (ci 0, 200, .inl tp_bytes)) :: (a_g, .inr (2, [.ref a_g_rowCuts, .ref a_g_columnCuts, .ref a_g_bandRows, .ref a_g_zoneColumns, .ref a_g_rows, .ref a_g_sheets])) :: (a_g_rowCuts, .inl (ci 0, 5, .inl g_rowCuts)) :: (a_g_columnCuts, .inl (ci 0, 5, .inl g_columnCuts)) :: (a_g_bandRows, .inl (ci 0, 5, .inl g_bandRows)) :: (a_g_zoneColumns, .inl (ci 0, 5, .inl g_zoneColumns)) :: (a_g_rows, .inl (ci 0, 5, .inl g_rows)) :: (a_g_sheets, .inl (ci 0, 5, .inl g_sheets)) :: Rw) H → va_S A s.heap H locs → W p l e ({ frames := 3, cells := 0, slots := 0, locals := 70 } : Room) s m ([.ref a_rd, .int p1, .int p2] : List Value).toArray below meth c H locs 0 0 Q (F0 m 0 ls []) := by
    intro H locs hH hP hS
    refine lv_aload_n (pc := 0) hx hb dX3_read_0 rfl (lv_at hl 0 rfl) ?_
    refine lv_iload_n (pc := 1) hx hb dX3_read_1 rfl (lv_at hl 1 rfl) ?_
    refine va_put (pc := 2) (D := D) (ci := 3) (v := .int p1) (ty := .int) (C := RX3) (T := TX3) (N := 9) hx hb hts hinX3 tyX3 tyX3_ok nmX3 hown hK hP hD hS 0 rfl rfl 2 (by decide) w_1 (fun _ h9 => h9) rfl (by decide +kernel) rfl rfl (Nat.le_of_ble_eq_true rfl) dX3_read_2 (fun H locs hP hD hS => ?_)
    obtain ⟨hP, hD⟩ : va_PD D A ((a_rd, .inr (3, [.ref a_g, .ref a_tp, .int p1, .int rd_end, .int rd_level, .int rd_key, .int rd_fault, .int rd_faultPlace, .int rd_endedSoon])) :: (a_tp, .inr (8, [.ref a_tp_bytes, .int tp_length])) :: (a_tp_bytes, .inl (ci 0, 200, .inl tp_bytes)) :: (a_g, .inr (2, [.ref a_g_rowCuts, .ref a_g_columnCuts, .ref a_g_bandRows, .ref a_g_zoneColumns, .ref a_g_rows, .ref a_g_sheets])) :: (a_g_rowCuts, .inl (ci 0, 5, .inl g_rowCuts)) :: (a_g_columnCuts, .inl (ci 0, 5, .inl g_columnCuts)) :: (a_g_bandRows, .inl (ci 0, 5, .inl g_bandRows)) :: (a_g_zoneColumns, .inl (ci 0, 5, .inl g_zoneColumns)) :: (a_g_rows, .inl (ci 0, 5, .inl g_rows)) :: (a_g_sheets, .inl (ci 0, 5, .inl g_sheets)) :: Rw) H := ⟨hP, hD⟩
    refine lv_aload_n (pc := 5) hx hb dX3_read_5 rfl (lv_at hl 0 rfl) ?_
    refine lv_iload_n (pc := 6) hx hb dX3_read_6 rfl (lv_at hl 2 rfl) ?_
    refine va_put (pc := 7) (D := D) (ci := 3) (v := .int p2) (ty := .int) (C := RX3) (T := TX3) (N := 9) hx hb hts hinX3 tyX3 tyX3_ok nmX3 hown hK hP hD hS 0 rfl rfl 3 (by decide) w_2 (fun _ h9 => h9) rfl (by decide +kernel) rfl rfl (Nat.le_of_ble_eq_true rfl) dX3_read_7 (fun H locs hP hD hS => ?_)
    obtain ⟨hP, hD⟩ : va_PD D A ((a_rd, .inr (3, [.ref a_g, .ref a_tp, .int p1, .int p2, .int rd_level, .int rd_key, .int rd_fault, .int rd_faultPlace, .int rd_endedSoon])) :: (a_tp, .inr (8, [.ref a_tp_bytes, .int tp_length])) :: (a_tp_bytes, .inl (ci 0, 200, .inl tp_bytes)) :: (a_g, .inr (2, [.ref a_g_rowCuts, .ref a_g_columnCuts, .ref a_g_bandRows, .ref a_g_zoneColumns, .ref a_g_rows, .ref a_g_sheets])) :: (a_g_rowCuts, .inl (ci 0, 5, .inl g_rowCuts)) :: (a_g_columnCuts, .inl (ci 0, 5, .inl g_columnCuts)) :: (a_g_bandRows, .inl (ci 0, 5, .inl g_bandRows)) :: (a_g_zoneColumns, .inl (ci 0, 5, .inl g_zoneColumns)) :: (a_g_rows, .inl (ci 0, 5, .inl g_rows)) :: (a_g_sheets, .inl (ci 0, 5, .inl g_sheets)) :: Rw) H := ⟨hP, hD⟩
    refine lv_aload_n (pc := 10) hx hb dX3_read_10 rfl (lv_at hl 0 rfl) ?_
    refine lv_iconst (pc := 11) (v := 0) hx hb dX3_read_11 (by decide) ?_
    refine va_put (pc := 12) (D := D) (ci := 3) (v := .int 0) (ty := .int) (C := RX3) (T := TX3) (N := 9) hx hb hts hinX3 tyX3 tyX3_ok nmX3 hown hK hP hD hS 0 rfl rfl 6 (by decide) w_3 (fun _ h9 => h9) rfl (by decide +kernel) rfl rfl (Nat.le_of_ble_eq_true rfl) dX3_read_12 (fun H locs hP hD hS => ?_)
    obtain ⟨hP, hD⟩ : va_PD D A ((a_rd, .inr (3, [.ref a_g, .ref a_tp, .int p1, .int p2, .int rd_level, .int rd_key, .int 0, .int rd_faultPlace, .int rd_endedSoon])) :: (a_tp, .inr (8, [.ref a_tp_bytes, .int tp_length])) :: (a_tp_bytes, .inl (ci 0, 200, .inl tp_bytes)) :: (a_g, .inr (2, [.ref a_g_rowCuts, .ref a_g_columnCuts, .ref a_g_bandRows, .ref a_g_zoneColumns, .ref a_g_rows, .ref a_g_sheets])) :: (a_g_rowCuts, .inl (ci 0, 5, .inl g_rowCuts)) :: (a_g_columnCuts, .inl (ci 0, 5, .inl g_columnCuts)) :: (a_g_bandRows, .inl (ci 0, 5, .inl g_bandRows)) :: (a_g_zoneColumns, .inl (ci 0, 5, .inl g_zoneColumns)) :: (a_g_rows, .inl (ci 0, 5, .inl g_rows)) :: (a_g_sheets, .inl (ci 0, 5, .inl g_sheets)) :: Rw) H := ⟨hP, hD⟩
    refine lv_aload_n (pc := 15) hx hb dX3_read_15 rfl (lv_at hl 0 rfl) ?_
    refine lv_iconst (pc := 16) (v := 0) hx hb dX3_read_16 (by decide) ?_
    refine va_put (pc := 17) (D := D) (ci := 3) (v := .int 0) (ty := .boolean) (C := RX3) (T := TX3) (N := 9) hx hb hts hinX3 tyX3 tyX3_ok nmX3 hown hK hP hD hS 0 rfl rfl 8 (by decide) w_4 (fun _ h9 => h9) rfl (by decide +kernel) rfl rfl (Nat.le_of_ble_eq_true rfl) dX3_read_17 (fun H locs hP hD hS => ?_)
    obtain ⟨hP, hD⟩ : va_PD D A ((a_rd, .inr (3, [.ref a_g, .ref a_tp, .int p1, .int p2, .int rd_level, .int rd_key, .int 0, .int rd_faultPlace, .int 0])) :: (a_tp, .inr (8, [.ref a_tp_bytes, .int tp_length])) :: (a_tp_bytes, .inl (ci 0, 200, .inl tp_bytes)) :: (a_g, .inr (2, [.ref a_g_rowCuts, .ref a_g_columnCuts, .ref a_g_bandRows, .ref a_g_zoneColumns, .ref a_g_rows, .ref a_g_sheets])) :: (a_g_rowCuts, .inl (ci 0, 5, .inl g_rowCuts)) :: (a_g_columnCuts, .inl (ci 0, 5, .inl g_columnCuts)) :: (a_g_bandRows, .inl (ci 0, 5, .inl g_bandRows)) :: (a_g_zoneColumns, .inl (ci 0, 5, .inl g_zoneColumns)) :: (a_g_rows, .inl (ci 0, 5, .inl g_rows)) :: (a_g_sheets, .inl (ci 0, 5, .inl g_sheets)) :: Rw) H := ⟨hP, hD⟩
    refine lv_aload_n (pc := 20) hx hb dX3_read_20 rfl (lv_at hl 0 rfl) ?_
    obtain ⟨v1, hm21, hf⟩ := q_b1_e hf
    refine q_cVr (pc := 21) (As := []) (rest := []) (v0 := (some (.int v1))) ⟨hx, hb, hml, hown, hts⟩ hK hA hZ hP hD hS hl.1 [0, 1, 2] 10 rfl ⟨rfl, rfl, rfl⟩ (c_NameReader_here l D ci A sa N (Rw) a_rd a_g a_tp a_tp_bytes p1 p2 rd_level rd_key 0 rd_faultPlace 0 tp_length tp_bytes v1 hm21) 0 rfl rfl (cwV 0 hts gX3_read_X3_here rfl rfl rfl (by decide +kernel) ⟨Nat.le_of_ble_eq_true rfl, Nat.le_of_ble_eq_true rfl⟩) rfl rfl (Nat.le_of_ble_eq_true rfl) dX3_read_21 ⟨Nat.zero_le _, Nat.zero_le _⟩ (fun locs hS => ?_)
    refine lv_istore_n (pc := 24) (lv' := [(3, .int v1), (0, .ref a_rd), (1, .int p1), (2, .int p2)]) hx hb dX3_read_24 rfl hl (by decide) rfl (fun ls hl => ?_)
    refine lv_iload_n (pc := 25) hx hb dX3_read_25 rfl (lv_at hl 0 rfl) ?_
    refine lv_bipush (pc := 26) (v := 78) hx hb dX3_read_26 (by decide) ?_
    obtain ⟨k42, ek42, hf⟩ := q_j0_e hf
    have J42 : ∀  (H : Heap) (locs : List Loc) (ls : Array Slot), k42 = some (r, o1, o2, o3, o4, o5, o6, o7) → va_P D vwCl ((a_rd, .inr (3, [.ref a_g, .ref a_tp, .int p1, .int p2, .int rd_level, .int rd_key, .int 0, .int rd_faultPlace, .int 0])) :: (a_tp, .inr (8, [.ref a_tp_bytes, .int tp_length])) :: (a_tp_bytes, .inl (ci 0, 200, .inl tp_bytes)) :: (a_g, .inr (2, [.ref a_g_rowCuts, .ref a_g_columnCuts, .ref a_g_bandRows, .ref a_g_zoneColumns, .ref a_g_rows, .ref a_g_sheets])) :: (a_g_rowCuts, .inl (ci 0, 5, .inl g_rowCuts)) :: (a_g_columnCuts, .inl (ci 0, 5, .inl g_columnCuts)) :: (a_g_bandRows, .inl (ci 0, 5, .inl g_bandRows)) :: (a_g_zoneColumns, .inl (ci 0, 5, .inl g_zoneColumns)) :: (a_g_rows, .inl (ci 0, 5, .inl g_rows)) :: (a_g_sheets, .inl (ci 0, 5, .inl g_sheets)) :: Rw) H → va_D A ((a_rd, .inr (3, [.ref a_g, .ref a_tp, .int p1, .int p2, .int rd_level, .int rd_key, .int 0, .int rd_faultPlace, .int 0])) :: (a_tp, .inr (8, [.ref a_tp_bytes, .int tp_length])) :: (a_tp_bytes, .inl (ci 0, 200, .inl tp_bytes)) :: (a_g, .inr (2, [.ref a_g_rowCuts, .ref a_g_columnCuts, .ref a_g_bandRows, .ref a_g_zoneColumns, .ref a_g_rows, .ref a_g_sheets])) :: (a_g_rowCuts, .inl (ci 0, 5, .inl g_rowCuts)) :: (a_g_columnCuts, .inl (ci 0, 5, .inl g_columnCuts)) :: (a_g_bandRows, .inl (ci 0, 5, .inl g_bandRows)) :: (a_g_zoneColumns, .inl (ci 0, 5, .inl g_zoneColumns)) :: (a_g_rows, .inl (ci 0, 5, .inl g_rows)) :: (a_g_sheets, .inl (ci 0, 5, .inl g_sheets)) :: Rw) → va_S A s.heap H locs → lv_has ls 6 [(0, .ref a_rd), (3, .int v1)] → W p l e ({ frames := 3, cells := 0, slots := 0, locals := 70 } : Room) s m ([.ref a_rd, .int p1, .int p2] : List Value).toArray below meth c H locs 0 0 Q (F0 m 42 ls []) := by
      intro  H locs ls hf hP hD hS hl
      have hf := (ek42).symm.trans hf
      refine lv_aload_n (pc := 42) hx hb dX3_read_42 rfl (lv_at hl 0 rfl) ?_
      refine lv_dup (pc := 43) hx hb dX3_read_43 rfl ?_
      refine va_get (pc := 44) (D := D) (ci := 3) (v := .int p1) (C := RX3) (T := TX3) (N := 9) hx hb hts hinX3 hown hK hP 0 rfl rfl 2 (by decide) w_1 (fun _ h9 => h9) rfl dX3_read_44 ?_
      refine lv_iconst (pc := 47) (v := 1) hx hb dX3_read_47 (by decide) ?_
      refine lv_iadd (pc := 48) hx hb dX3_read_48 ?_
      obtain ⟨v2, ev2, hf⟩ := q_nm_e hf
      refine q_topi ev2 ?_
      refine va_put (pc := 49) (D := D) (ci := 3) (v := .int v2) (ty := .int) (C := RX3) (T := TX3) (N := 9) hx hb hts hinX3 tyX3 tyX3_ok nmX3 hown hK hP hD hS 0 rfl rfl 2 (by decide) w_1 (fun _ h9 => h9) rfl (by decide +kernel) rfl rfl (Nat.le_of_ble_eq_true rfl) dX3_read_49 (fun H locs hP hD hS => ?_)
      obtain ⟨hP, hD⟩ : va_PD D A ((a_rd, .inr (3, [.ref a_g, .ref a_tp, .int v2, .int p2, .int rd_level, .int rd_key, .int 0, .int rd_faultPlace, .int 0])) :: (a_tp, .inr (8, [.ref a_tp_bytes, .int tp_length])) :: (a_tp_bytes, .inl (ci 0, 200, .inl tp_bytes)) :: (a_g, .inr (2, [.ref a_g_rowCuts, .ref a_g_columnCuts, .ref a_g_bandRows, .ref a_g_zoneColumns, .ref a_g_rows, .ref a_g_sheets])) :: (a_g_rowCuts, .inl (ci 0, 5, .inl g_rowCuts)) :: (a_g_columnCuts, .inl (ci 0, 5, .inl g_columnCuts)) :: (a_g_bandRows, .inl (ci 0, 5, .inl g_bandRows)) :: (a_g_zoneColumns, .inl (ci 0, 5, .inl g_zoneColumns)) :: (a_g_rows, .inl (ci 0, 5, .inl g_rows)) :: (a_g_sheets, .inl (ci 0, 5, .inl g_sheets)) :: Rw) H := ⟨hP, hD⟩
      refine lv_aload_n (pc := 52) hx hb dX3_read_52 rfl (lv_at hl 0 rfl) ?_
      obtain ⟨v3, hm53, hf⟩ := q_b1_e hf
      refine q_cVr (pc := 53) (As := []) (rest := []) (v0 := (some (.int v3))) ⟨hx, hb, hml, hown, hts⟩ hK hA hZ hP hD hS hl.1 [0, 1, 2] 10 rfl ⟨rfl, rfl, rfl⟩ (c_NameReader_here l D ci A sa N (Rw) a_rd a_g a_tp a_tp_bytes v2 p2 rd_level rd_key 0 rd_faultPlace 0 tp_length tp_bytes v3 hm53) 0 rfl rfl (cwV 0 hts gX3_read_X3_here rfl rfl rfl (by decide +kernel) ⟨Nat.le_of_ble_eq_true rfl, Nat.le_of_ble_eq_true rfl⟩) rfl rfl (Nat.le_of_ble_eq_true rfl) dX3_read_53 ⟨Nat.zero_le _, Nat.zero_le _⟩ (fun locs hS => ?_)
      refine lv_istore (pc := 56) (lv' := [(4, .int v3), (0, .ref a_rd), (3, .int v1)]) hx hb dX3_read_56 hl (by decide) rfl (fun ls hl => ?_)
      refine lv_iload (pc := 58) hx hb dX3_read_58 (lv_at hl 0 rfl) ?_
      refine lv_bipush (pc := 60) (v := 90) hx hb dX3_read_60 (by decide) ?_
      refine q_icmp_ne (pc := 62) (tgt := 81) hx hb dX3_read_62 (by decide) rfl hf (fun hf => ?_) (fun hf => ?_)
      · refine lv_iload (pc := 81) hx hb dX3_read_81 (lv_at hl 0 rfl) ?_
        refine lv_bipush (pc := 83) (v := 65) hx hb dX3_read_83 (by decide) ?_
        obtain ⟨k95, ek95, hf⟩ := q_j0_e hf
        have J95 : ∀  (H : Heap) (locs : List Loc) (ls : Array Slot), k95 = some (r, o1, o2, o3, o4, o5, o6, o7) → va_P D vwCl ((a_rd, .inr (3, [.ref a_g, .ref a_tp, .int v2, .int p2, .int rd_level, .int rd_key, .int 0, .int rd_faultPlace, .int 0])) :: (a_tp, .inr (8, [.ref a_tp_bytes, .int tp_length])) :: (a_tp_bytes, .inl (ci 0, 200, .inl tp_bytes)) :: (a_g, .inr (2, [.ref a_g_rowCuts, .ref a_g_columnCuts, .ref a_g_bandRows, .ref a_g_zoneColumns, .ref a_g_rows, .ref a_g_sheets])) :: (a_g_rowCuts, .inl (ci 0, 5, .inl g_rowCuts)) :: (a_g_columnCuts, .inl (ci 0, 5, .inl g_columnCuts)) :: (a_g_bandRows, .inl (ci 0, 5, .inl g_bandRows)) :: (a_g_zoneColumns, .inl (ci 0, 5, .inl g_zoneColumns)) :: (a_g_rows, .inl (ci 0, 5, .inl g_rows)) :: (a_g_sheets, .inl (ci 0, 5, .inl g_sheets)) :: Rw) H → va_D A ((a_rd, .inr (3, [.ref a_g, .ref a_tp, .int v2, .int p2, .int rd_level, .int rd_key, .int 0, .int rd_faultPlace, .int 0])) :: (a_tp, .inr (8, [.ref a_tp_bytes, .int tp_length])) :: (a_tp_bytes, .inl (ci 0, 200, .inl tp_bytes)) :: (a_g, .inr (2, [.ref a_g_rowCuts, .ref a_g_columnCuts, .ref a_g_bandRows, .ref a_g_zoneColumns, .ref a_g_rows, .ref a_g_sheets])) :: (a_g_rowCuts, .inl (ci 0, 5, .inl g_rowCuts)) :: (a_g_columnCuts, .inl (ci 0, 5, .inl g_columnCuts)) :: (a_g_bandRows, .inl (ci 0, 5, .inl g_bandRows)) :: (a_g_zoneColumns, .inl (ci 0, 5, .inl g_zoneColumns)) :: (a_g_rows, .inl (ci 0, 5, .inl g_rows)) :: (a_g_sheets, .inl (ci 0, 5, .inl g_sheets)) :: Rw) → va_S A s.heap H locs → lv_has ls 6 [(0, .ref a_rd)] → W p l e ({ frames := 3, cells := 0, slots := 0, locals := 70 } : Room) s m ([.ref a_rd, .int p1, .int p2] : List Value).toArray below meth c H locs 0 0 Q (F0 m 95 ls []) := by
          intro  H locs ls hf hP hD hS hl
          have hf := (ek95).symm.trans hf
          refine lv_aload_n (pc := 95) hx hb dX3_read_95 rfl (lv_at hl 0 rfl) ?_
          obtain ⟨v4, v5, v6, v7, hm96, hf⟩ := q_b4_e hf
          refine q_cV (pc := 96) (As := []) (rest := []) (v0 := (some (.int v4))) ⟨hx, hb, hml, hown, hts⟩ hK hA hZ hP hD hS hl.1 [0, 1, 2, 3, 4, 5, 6, 7, 8, 9] 10 rfl ⟨rfl, rfl, rfl⟩ (c_NameReader_failHere l D ci A sa N ((a_tp, .inr (8, [.ref a_tp_bytes, .int tp_length])) :: (a_tp_bytes, .inl (ci 0, 200, .inl tp_bytes)) :: (a_g, .inr (2, [.ref a_g_rowCuts, .ref a_g_columnCuts, .ref a_g_bandRows, .ref a_g_zoneColumns, .ref a_g_rows, .ref a_g_sheets])) :: (a_g_rowCuts, .inl (ci 0, 5, .inl g_rowCuts)) :: (a_g_columnCuts, .inl (ci 0, 5, .inl g_columnCuts)) :: (a_g_bandRows, .inl (ci 0, 5, .inl g_bandRows)) :: (a_g_zoneColumns, .inl (ci 0, 5, .inl g_zoneColumns)) :: (a_g_rows, .inl (ci 0, 5, .inl g_rows)) :: (a_g_sheets, .inl (ci 0, 5, .inl g_sheets)) :: Rw) a_rd a_g a_tp v2 p2 rd_level rd_key 0 rd_faultPlace 0 v4 v5 v6 v7 hm96) 0 rfl rfl (cwV 0 hts gX3_read_X3_failHere rfl rfl rfl (by decide +kernel) ⟨Nat.le_of_ble_eq_true rfl, Nat.le_of_ble_eq_true rfl⟩) rfl rfl (Nat.le_of_ble_eq_true rfl) dX3_read_96 ⟨Nat.zero_le _, Nat.zero_le _⟩ [0, 1, 2, 3, 4, 5, 6, 7, 8, 9] 10 rfl ⟨rfl, rfl, rfl⟩ (fun H locs hP hD hS => ?_)
          obtain ⟨hP, hD⟩ : va_PD D A ((a_rd, .inr (3, [.ref a_g, .ref a_tp, .int v2, .int p2, .int rd_level, .int rd_key, .int v5, .int v6, .int v7])) :: (a_tp, .inr (8, [.ref a_tp_bytes, .int tp_length])) :: (a_tp_bytes, .inl (ci 0, 200, .inl tp_bytes)) :: (a_g, .inr (2, [.ref a_g_rowCuts, .ref a_g_columnCuts, .ref a_g_bandRows, .ref a_g_zoneColumns, .ref a_g_rows, .ref a_g_sheets])) :: (a_g_rowCuts, .inl (ci 0, 5, .inl g_rowCuts)) :: (a_g_columnCuts, .inl (ci 0, 5, .inl g_columnCuts)) :: (a_g_bandRows, .inl (ci 0, 5, .inl g_bandRows)) :: (a_g_zoneColumns, .inl (ci 0, 5, .inl g_zoneColumns)) :: (a_g_rows, .inl (ci 0, 5, .inl g_rows)) :: (a_g_sheets, .inl (ci 0, 5, .inl g_sheets)) :: Rw) H := ⟨hP, hD⟩
          obtain ⟨hn9, hf9, hf⟩ := q_bo_e hf
          obtain ⟨e90, e91, e92, e93, e94, e95, e96, e97⟩ := q_inj8 (Option.some.inj hf)
          rw [hQ, ← e90, ← e91, ← e92, ← e93, ← e94, ← e95, ← e96, ← e97]
          exact q_zret (pc := 99) hx hb hr hn9 hlocks hP hD hS dX3_read_99
        refine q_icmp_lt (pc := 85) (tgt := 95) hx hb dX3_read_85 (by decide) rfl hf (fun hf => ?_) (fun hf => ?_)
        · exact J95  _ _ _ hf hP hD hS (lv_sub hl [1] rfl)
        · refine lv_iload (pc := 88) hx hb dX3_read_88 (lv_at hl 0 rfl) ?_
          refine lv_bipush (pc := 90) (v := 86) hx hb dX3_read_90 (by decide) ?_
          refine q_icmp_le (pc := 92) (tgt := 100) hx hb dX3_read_92 (by decide) rfl hf (fun hf => ?_) (fun hf => ?_)
          · refine lv_aload_n (pc := 100) hx hb dX3_read_100 rfl (lv_at hl 1 rfl) ?_
            refine lv_dup (pc := 101) hx hb dX3_read_101 rfl ?_
            refine va_get (pc := 102) (D := D) (ci := 3) (v := .int v2) (C := RX3) (T := TX3) (N := 9) hx hb hts hinX3 hown hK hP 0 rfl rfl 2 (by decide) w_1 (fun _ h9 => h9) rfl dX3_read_102 ?_
            refine lv_iconst (pc := 105) (v := 1) hx hb dX3_read_105 (by decide) ?_
            refine lv_iadd (pc := 106) hx hb dX3_read_106 ?_
            obtain ⟨v8, ev8, hf⟩ := q_nm_e hf
            refine q_topi ev8 ?_
            refine va_put (pc := 107) (D := D) (ci := 3) (v := .int v8) (ty := .int) (C := RX3) (T := TX3) (N := 9) hx hb hts hinX3 tyX3 tyX3_ok nmX3 hown hK hP hD hS 0 rfl rfl 2 (by decide) w_1 (fun _ h9 => h9) rfl (by decide +kernel) rfl rfl (Nat.le_of_ble_eq_true rfl) dX3_read_107 (fun H locs hP hD hS => ?_)
            obtain ⟨hP, hD⟩ : va_PD D A ((a_rd, .inr (3, [.ref a_g, .ref a_tp, .int v8, .int p2, .int rd_level, .int rd_key, .int 0, .int rd_faultPlace, .int 0])) :: (a_tp, .inr (8, [.ref a_tp_bytes, .int tp_length])) :: (a_tp_bytes, .inl (ci 0, 200, .inl tp_bytes)) :: (a_g, .inr (2, [.ref a_g_rowCuts, .ref a_g_columnCuts, .ref a_g_bandRows, .ref a_g_zoneColumns, .ref a_g_rows, .ref a_g_sheets])) :: (a_g_rowCuts, .inl (ci 0, 5, .inl g_rowCuts)) :: (a_g_columnCuts, .inl (ci 0, 5, .inl g_columnCuts)) :: (a_g_bandRows, .inl (ci 0, 5, .inl g_bandRows)) :: (a_g_zoneColumns, .inl (ci 0, 5, .inl g_zoneColumns)) :: (a_g_rows, .inl (ci 0, 5, .inl g_rows)) :: (a_g_sheets, .inl (ci 0, 5, .inl g_sheets)) :: Rw) H := ⟨hP, hD⟩
            refine lv_iload (pc := 110) hx hb dX3_read_110 (lv_at hl 0 rfl) ?_
            refine lv_bipush (pc := 112) (v := 65) hx hb dX3_read_112 (by decide) ?_
            refine lv_isub (pc := 114) hx hb dX3_read_114 ?_
            obtain ⟨v9, ev9, hf⟩ := q_nm_e hf
            refine q_topi ev9 ?_
            refine lv_istore (pc := 115) (lv' := [(5, .int v9), (4, .int v3), (0, .ref a_rd), (3, .int v1)]) hx hb dX3_read_115 hl (by decide) rfl (fun ls hl => ?_)
            refine lv_aload_n (pc := 117) hx hb dX3_read_117 rfl (lv_at hl 2 rfl) ?_
            refine lv_iload_n (pc := 118) hx hb dX3_read_118 rfl (lv_at hl 3 rfl) ?_
            refine lv_bipush (pc := 119) (v := 78) hx hb dX3_read_119 (by decide) ?_
            obtain ⟨k137, ek137, hf⟩ := q_j1_e hf
            have J137 : ∀ (v10 : Int32) (H : Heap) (locs : List Loc) (ls : Array Slot), k137 v10 = some (r, o1, o2, o3, o4, o5, o6, o7) → va_P D vwCl ((a_rd, .inr (3, [.ref a_g, .ref a_tp, .int v8, .int p2, .int rd_level, .int rd_key, .int 0, .int rd_faultPlace, .int 0])) :: (a_tp, .inr (8, [.ref a_tp_bytes, .int tp_length])) :: (a_tp_bytes, .inl (ci 0, 200, .inl tp_bytes)) :: (a_g, .inr (2, [.ref a_g_rowCuts, .ref a_g_columnCuts, .ref a_g_bandRows, .ref a_g_zoneColumns, .ref a_g_rows, .ref a_g_sheets])) :: (a_g_rowCuts, .inl (ci 0, 5, .inl g_rowCuts)) :: (a_g_columnCuts, .inl (ci 0, 5, .inl g_columnCuts)) :: (a_g_bandRows, .inl (ci 0, 5, .inl g_bandRows)) :: (a_g_zoneColumns, .inl (ci 0, 5, .inl g_zoneColumns)) :: (a_g_rows, .inl (ci 0, 5, .inl g_rows)) :: (a_g_sheets, .inl (ci 0, 5, .inl g_sheets)) :: Rw) H → va_D A ((a_rd, .inr (3, [.ref a_g, .ref a_tp, .int v8, .int p2, .int rd_level, .int rd_key, .int 0, .int rd_faultPlace, .int 0])) :: (a_tp, .inr (8, [.ref a_tp_bytes, .int tp_length])) :: (a_tp_bytes, .inl (ci 0, 200, .inl tp_bytes)) :: (a_g, .inr (2, [.ref a_g_rowCuts, .ref a_g_columnCuts, .ref a_g_bandRows, .ref a_g_zoneColumns, .ref a_g_rows, .ref a_g_sheets])) :: (a_g_rowCuts, .inl (ci 0, 5, .inl g_rowCuts)) :: (a_g_columnCuts, .inl (ci 0, 5, .inl g_columnCuts)) :: (a_g_bandRows, .inl (ci 0, 5, .inl g_bandRows)) :: (a_g_zoneColumns, .inl (ci 0, 5, .inl g_zoneColumns)) :: (a_g_rows, .inl (ci 0, 5, .inl g_rows)) :: (a_g_sheets, .inl (ci 0, 5, .inl g_sheets)) :: Rw) → va_S A s.heap H locs → lv_has ls 6 [] → W p l e ({ frames := 3, cells := 0, slots := 0, locals := 70 } : Room) s m ([.ref a_rd, .int p1, .int p2] : List Value).toArray below meth c H locs 0 0 Q (F0 m 137 ls [.int v10, .ref a_rd]) := by
              intro v10 H locs ls hf hP hD hS hl
              have hf := (ek137 v10).symm.trans hf
              obtain ⟨v11, v12, v13, v14, v15, v16, v17, hm137, hf⟩ := q_b7_e hf
              refine q_cV (pc := 137) (As := [.int v10]) (rest := []) (v0 := (some (.int v11))) ⟨hx, hb, hml, hown, hts⟩ hK hA hZ hP hD hS hl.1 [0, 1, 2, 3, 4, 5, 6, 7, 8, 9] 10 rfl ⟨rfl, rfl, rfl⟩ (c_NameReader_readNumbers l D ci A sa N (Rw) a_rd a_g a_tp a_tp_bytes a_g_rowCuts a_g_columnCuts a_g_bandRows a_g_zoneColumns a_g_rows a_g_sheets v8 p2 rd_level rd_key 0 rd_faultPlace 0 tp_length tp_bytes g_rowCuts g_columnCuts g_bandRows g_zoneColumns g_rows g_sheets v10 v11 v12 v13 v14 v15 v16 v17 hm137) 0 rfl rfl (cwV 1 hts gX3_read_X3_readNumbers rfl rfl rfl (by decide +kernel) ⟨Nat.le_of_ble_eq_true rfl, Nat.le_of_ble_eq_true rfl⟩) rfl rfl (Nat.le_of_ble_eq_true rfl) dX3_read_137 ⟨Nat.zero_le _, Nat.zero_le _⟩ [0, 1, 2, 3, 4, 5, 6, 7, 8, 9] 10 rfl ⟨rfl, rfl, rfl⟩ (fun H locs hP hD hS => ?_)
              obtain ⟨hP, hD⟩ : va_PD D A ((a_rd, .inr (3, [.ref a_g, .ref a_tp, .int v12, .int p2, .int v13, .int v14, .int v15, .int v16, .int v17])) :: (a_tp, .inr (8, [.ref a_tp_bytes, .int tp_length])) :: (a_tp_bytes, .inl (ci 0, 200, .inl tp_bytes)) :: (a_g, .inr (2, [.ref a_g_rowCuts, .ref a_g_columnCuts, .ref a_g_bandRows, .ref a_g_zoneColumns, .ref a_g_rows, .ref a_g_sheets])) :: (a_g_rowCuts, .inl (ci 0, 5, .inl g_rowCuts)) :: (a_g_columnCuts, .inl (ci 0, 5, .inl g_columnCuts)) :: (a_g_bandRows, .inl (ci 0, 5, .inl g_bandRows)) :: (a_g_zoneColumns, .inl (ci 0, 5, .inl g_zoneColumns)) :: (a_g_rows, .inl (ci 0, 5, .inl g_rows)) :: (a_g_sheets, .inl (ci 0, 5, .inl g_sheets)) :: Rw) H := ⟨hP, hD⟩
              obtain ⟨hn9, hf9, hf⟩ := q_bo_e hf
              obtain ⟨e90, e91, e92, e93, e94, e95, e96, e97⟩ := q_inj8 (Option.some.inj hf)
              rw [hQ, ← e90, ← e91, ← e92, ← e93, ← e94, ← e95, ← e96, ← e97]
              exact q_zret (pc := 140) hx hb hr hn9 hlocks hP hD hS dX3_read_140
            refine q_icmp_ne (pc := 121) (tgt := 132) hx hb dX3_read_121 (by decide) rfl hf (fun hf => ?_) (fun hf => ?_)
            · refine lv_bipush (pc := 132) (v := 22) hx hb dX3_read_132 (by decide) ?_
              refine lv_iload (pc := 134) hx hb dX3_read_134 (lv_at hl 0 rfl) ?_
              refine lv_iadd (pc := 136) hx hb dX3_read_136 ?_
              exact J137 (22 + v9) _ _ _ hf hP hD hS (lv_sub hl [] rfl)
            · refine lv_bipush (pc := 124) (v := 21) hx hb dX3_read_124 (by decide) ?_
              refine lv_iload (pc := 126) hx hb dX3_read_126 (lv_at hl 0 rfl) ?_
              refine lv_isub (pc := 128) hx hb dX3_read_128 ?_
              refine lv_goto (pc := 129) (tgt := 137) hx hb dX3_read_129 (by decide) ?_
              exact J137 (21 - v9) _ _ _ hf hP hD hS (lv_sub hl [] rfl)
          · exact J95  _ _ _ hf hP hD hS (lv_sub hl [1] rfl)
      · refine lv_aload_n (pc := 65) hx hb dX3_read_65 rfl (lv_at hl 1 rfl) ?_
        refine lv_iload_n (pc := 66) hx hb dX3_read_66 rfl (lv_at hl 2 rfl) ?_
        refine lv_bipush (pc := 67) (v := 78) hx hb dX3_read_67 (by decide) ?_
        obtain ⟨k77, ek77, hf⟩ := q_j1_e hf
        have J77 : ∀ (v18 : Int32) (H : Heap) (locs : List Loc) (ls : Array Slot), k77 v18 = some (r, o1, o2, o3, o4, o5, o6, o7) → va_P D vwCl ((a_rd, .inr (3, [.ref a_g, .ref a_tp, .int v2, .int p2, .int rd_level, .int rd_key, .int 0, .int rd_faultPlace, .int 0])) :: (a_tp, .inr (8, [.ref a_tp_bytes, .int tp_length])) :: (a_tp_bytes, .inl (ci 0, 200, .inl tp_bytes)) :: (a_g, .inr (2, [.ref a_g_rowCuts, .ref a_g_columnCuts, .ref a_g_bandRows, .ref a_g_zoneColumns, .ref a_g_rows, .ref a_g_sheets])) :: (a_g_rowCuts, .inl (ci 0, 5, .inl g_rowCuts)) :: (a_g_columnCuts, .inl (ci 0, 5, .inl g_columnCuts)) :: (a_g_bandRows, .inl (ci 0, 5, .inl g_bandRows)) :: (a_g_zoneColumns, .inl (ci 0, 5, .inl g_zoneColumns)) :: (a_g_rows, .inl (ci 0, 5, .inl g_rows)) :: (a_g_sheets, .inl (ci 0, 5, .inl g_sheets)) :: Rw) H → va_D A ((a_rd, .inr (3, [.ref a_g, .ref a_tp, .int v2, .int p2, .int rd_level, .int rd_key, .int 0, .int rd_faultPlace, .int 0])) :: (a_tp, .inr (8, [.ref a_tp_bytes, .int tp_length])) :: (a_tp_bytes, .inl (ci 0, 200, .inl tp_bytes)) :: (a_g, .inr (2, [.ref a_g_rowCuts, .ref a_g_columnCuts, .ref a_g_bandRows, .ref a_g_zoneColumns, .ref a_g_rows, .ref a_g_sheets])) :: (a_g_rowCuts, .inl (ci 0, 5, .inl g_rowCuts)) :: (a_g_columnCuts, .inl (ci 0, 5, .inl g_columnCuts)) :: (a_g_bandRows, .inl (ci 0, 5, .inl g_bandRows)) :: (a_g_zoneColumns, .inl (ci 0, 5, .inl g_zoneColumns)) :: (a_g_rows, .inl (ci 0, 5, .inl g_rows)) :: (a_g_sheets, .inl (ci 0, 5, .inl g_sheets)) :: Rw) → va_S A s.heap H locs → lv_has ls 6 [] → W p l e ({ frames := 3, cells := 0, slots := 0, locals := 70 } : Room) s m ([.ref a_rd, .int p1, .int p2] : List Value).toArray below meth c H locs 0 0 Q (F0 m 77 ls [.int v18, .ref a_rd]) := by
          intro v18 H locs ls hf hP hD hS hl
          have hf := (ek77 v18).symm.trans hf
          obtain ⟨v19, v20, v21, v22, v23, v24, v25, hm77, hf⟩ := q_b7_e hf
          refine q_cV (pc := 77) (As := [.int v18]) (rest := []) (v0 := (some (.int v19))) ⟨hx, hb, hml, hown, hts⟩ hK hA hZ hP hD hS hl.1 [0, 3, 9, 1, 2, 4, 5, 6, 7, 8] 10 rfl ⟨rfl, rfl, rfl⟩ (c_NameReader_readCap l D ci A sa N ((a_tp, .inr (8, [.ref a_tp_bytes, .int tp_length])) :: (a_tp_bytes, .inl (ci 0, 200, .inl tp_bytes)) :: (a_g_rowCuts, .inl (ci 0, 5, .inl g_rowCuts)) :: (a_g_columnCuts, .inl (ci 0, 5, .inl g_columnCuts)) :: (a_g_bandRows, .inl (ci 0, 5, .inl g_bandRows)) :: (a_g_zoneColumns, .inl (ci 0, 5, .inl g_zoneColumns)) :: (a_g_rows, .inl (ci 0, 5, .inl g_rows)) :: Rw) a_rd a_g a_tp a_g_rowCuts a_g_columnCuts a_g_bandRows a_g_zoneColumns a_g_rows a_g_sheets v2 p2 rd_level rd_key 0 rd_faultPlace 0 g_sheets v18 v19 v20 v21 v22 v23 v24 v25 hm77) 0 rfl rfl (cwV 1 hts gX3_read_X3_readCap rfl rfl rfl (by decide +kernel) ⟨Nat.le_of_ble_eq_true rfl, Nat.le_of_ble_eq_true rfl⟩) rfl rfl (Nat.le_of_ble_eq_true rfl) dX3_read_77 ⟨Nat.zero_le _, Nat.zero_le _⟩ [0, 3, 4, 1, 5, 6, 7, 8, 9, 2] 10 rfl ⟨rfl, rfl, rfl⟩ (fun H locs hP hD hS => ?_)
          obtain ⟨hP, hD⟩ : va_PD D A ((a_rd, .inr (3, [.ref a_g, .ref a_tp, .int v20, .int p2, .int v21, .int v22, .int v23, .int v24, .int v25])) :: (a_tp, .inr (8, [.ref a_tp_bytes, .int tp_length])) :: (a_tp_bytes, .inl (ci 0, 200, .inl tp_bytes)) :: (a_g, .inr (2, [.ref a_g_rowCuts, .ref a_g_columnCuts, .ref a_g_bandRows, .ref a_g_zoneColumns, .ref a_g_rows, .ref a_g_sheets])) :: (a_g_rowCuts, .inl (ci 0, 5, .inl g_rowCuts)) :: (a_g_columnCuts, .inl (ci 0, 5, .inl g_columnCuts)) :: (a_g_bandRows, .inl (ci 0, 5, .inl g_bandRows)) :: (a_g_zoneColumns, .inl (ci 0, 5, .inl g_zoneColumns)) :: (a_g_rows, .inl (ci 0, 5, .inl g_rows)) :: (a_g_sheets, .inl (ci 0, 5, .inl g_sheets)) :: Rw) H := ⟨hP, hD⟩
          obtain ⟨hn9, hf9, hf⟩ := q_bo_e hf
          obtain ⟨e90, e91, e92, e93, e94, e95, e96, e97⟩ := q_inj8 (Option.some.inj hf)
          rw [hQ, ← e90, ← e91, ← e92, ← e93, ← e94, ← e95, ← e96, ← e97]
          exact q_zret (pc := 80) hx hb hr hn9 hlocks hP hD hS dX3_read_80
        refine q_icmp_ne (pc := 69) (tgt := 76) hx hb dX3_read_69 (by decide) rfl hf (fun hf => ?_) (fun hf => ?_)
        · refine lv_iconst (pc := 76) (v := 0) hx hb dX3_read_76 (by decide) ?_
          exact J77 0 _ _ _ hf hP hD hS (lv_sub hl [] rfl)
        · refine lv_iconst (pc := 72) (v := 1) hx hb dX3_read_72 (by decide) ?_
          refine lv_goto (pc := 73) (tgt := 77) hx hb dX3_read_73 (by decide) ?_
          exact J77 1 _ _ _ hf hP hD hS (lv_sub hl [] rfl)
    refine q_icmp_eq (pc := 28) (tgt := 42) hx hb dX3_read_28 (by decide) rfl hf (fun hf => ?_) (fun hf => ?_)
    · exact J42  _ _ _ hf hP hD hS (lv_sub hl [1, 0] rfl)
    · refine lv_iload_n (pc := 31) hx hb dX3_read_31 rfl (lv_at hl 0 rfl) ?_
      refine lv_bipush (pc := 32) (v := 83) hx hb dX3_read_32 (by decide) ?_
      refine q_icmp_eq (pc := 34) (tgt := 42) hx hb dX3_read_34 (by decide) rfl hf (fun hf => ?_) (fun hf => ?_)
      · exact J42  _ _ _ hf hP hD hS (lv_sub hl [1, 0] rfl)
      · refine lv_aload_n (pc := 37) hx hb dX3_read_37 rfl (lv_at hl 1 rfl) ?_
        obtain ⟨v26, v27, v28, v29, hm38, hf⟩ := q_b4_e hf
        refine q_cV (pc := 38) (As := []) (rest := []) (v0 := (some (.int v26))) ⟨hx, hb, hml, hown, hts⟩ hK hA hZ hP hD hS hl.1 [0, 1, 2, 3, 4, 5, 6, 7, 8, 9] 10 rfl ⟨rfl, rfl, rfl⟩ (c_NameReader_failHere l D ci A sa N ((a_tp, .inr (8, [.ref a_tp_bytes, .int tp_length])) :: (a_tp_bytes, .inl (ci 0, 200, .inl tp_bytes)) :: (a_g, .inr (2, [.ref a_g_rowCuts, .ref a_g_columnCuts, .ref a_g_bandRows, .ref a_g_zoneColumns, .ref a_g_rows, .ref a_g_sheets])) :: (a_g_rowCuts, .inl (ci 0, 5, .inl g_rowCuts)) :: (a_g_columnCuts, .inl (ci 0, 5, .inl g_columnCuts)) :: (a_g_bandRows, .inl (ci 0, 5, .inl g_bandRows)) :: (a_g_zoneColumns, .inl (ci 0, 5, .inl g_zoneColumns)) :: (a_g_rows, .inl (ci 0, 5, .inl g_rows)) :: (a_g_sheets, .inl (ci 0, 5, .inl g_sheets)) :: Rw) a_rd a_g a_tp p1 p2 rd_level rd_key 0 rd_faultPlace 0 v26 v27 v28 v29 hm38) 0 rfl rfl (cwV 0 hts gX3_read_X3_failHere rfl rfl rfl (by decide +kernel) ⟨Nat.le_of_ble_eq_true rfl, Nat.le_of_ble_eq_true rfl⟩) rfl rfl (Nat.le_of_ble_eq_true rfl) dX3_read_38 ⟨Nat.zero_le _, Nat.zero_le _⟩ [0, 1, 2, 3, 4, 5, 6, 7, 8, 9] 10 rfl ⟨rfl, rfl, rfl⟩ (fun H locs hP hD hS => ?_)
        obtain ⟨hP, hD⟩ : va_PD D A ((a_rd, .inr (3, [.ref a_g, .ref a_tp, .int p1, .int p2, .int rd_level, .int rd_key, .int v27, .int v28, .int v29])) :: (a_tp, .inr (8, [.ref a_tp_bytes, .int tp_length])) :: (a_tp_bytes, .inl (ci 0, 200, .inl tp_bytes)) :: (a_g, .inr (2, [.ref a_g_rowCuts, .ref a_g_columnCuts, .ref a_g_bandRows, .ref a_g_zoneColumns, .ref a_g_rows, .ref a_g_sheets])) :: (a_g_rowCuts, .inl (ci 0, 5, .inl g_rowCuts)) :: (a_g_columnCuts, .inl (ci 0, 5, .inl g_columnCuts)) :: (a_g_bandRows, .inl (ci 0, 5, .inl g_bandRows)) :: (a_g_zoneColumns, .inl (ci 0, 5, .inl g_zoneColumns)) :: (a_g_rows, .inl (ci 0, 5, .inl g_rows)) :: (a_g_sheets, .inl (ci 0, 5, .inl g_sheets)) :: Rw) H := ⟨hP, hD⟩
        obtain ⟨hn9, hf9, hf⟩ := q_bo_e hf
        obtain ⟨e90, e91, e92, e93, e94, e95, e96, e97⟩ := q_inj8 (Option.some.inj hf)
        rw [hQ, ← e90, ← e91, ← e92, ← e93, ← e94, ← e95, ← e96, ← e97]
        exact q_zret (pc := 41) hx hb hr hn9 hlocks hP hD hS dX3_read_41
  exact hgo _ _ rfl hP hS
/-! X3_told -/
set_option maxRecDepth 100000 in
set_option maxHeartbeats 4000000 in
theorem c_NameReader_told (l : Launch) (D : va_G) (ci : Nat → ClassId) (A : Nat → Prop) (sa : Nat → Nat) (N : Nat) (Rw : va_W) (a_rd : Nat) (a_g : Nat) (a_tp : Nat) (rd_next : Int32) (rd_end : Int32) (rd_level : Int32) (rd_key : Int32) (rd_fault : Int32) (rd_faultPlace : Int32) (rd_endedSoon : Int32) (r : Int32) (hf : f_NameReader_told rd_fault rd_faultPlace = some r) : Met l yX3_told wsX3_told ({ frames := 0, cells := 0, slots := 0, locals := 0 }) (va_Pc [.ref a_rd] (q_N D ci A sa ((a_rd, .inr (3, [.ref a_g, .ref a_tp, .int rd_next, .int rd_end, .int rd_level, .int rd_key, .int rd_fault, .int rd_faultPlace, .int rd_endedSoon])) :: Rw))) (q_R (some (.int r))) 0 0 A := by
  refine q_ofW (cc := cX3_told) (maxL := 1) (ret := (some .int)) [.ref a_rd] (plainFor_of_name (by decide)) rfl (Nat.le_of_ble_eq_true rfl) ?_
  intro p e s m below meth c ls Q hQ hx hb hml hr hts hown hlocks hK hA hZ hP hD hS hl
  have hl : lv_has ls 1 [(0, .ref a_rd)] := hl
  have hown : s.vm.findClass RX3 = some m.cls := hown
  have hinX3 : ∀ w ∈ wsX30, w ∈ wsX3_told := fun _ h => List.mem_cons_of_mem _ (inWX30 _ h)
  have w_1 := hts (Cond.fieldLink RX3 24 "SheetNames$NameReader" "fault" "I") (List.mem_cons_of_mem _ t_w843)
  have w_2 := hts (Cond.fieldLink RX3 27 "SheetNames$NameReader" "faultPlace" "I") (List.mem_cons_of_mem _ t_w844)
  unfold f_NameReader_told at hf
  have hgo : ∀ (H : Heap) (locs : List Loc), H = s.heap → va_P D vwCl ((a_rd, .inr (3, [.ref a_g, .ref a_tp, .int rd_next, .int rd_end, .int rd_level, .int rd_key, .int rd_fault, .int rd_faultPlace, .int rd_endedSoon])) :: Rw) H → va_S A s.heap H locs → W p l e ({ frames := 0, cells := 0, slots := 0, locals := 0 } : Room) s m ([.ref a_rd] : List Value).toArray below meth c H locs 0 0 Q (F0 m 0 ls []) := by
    intro H locs hH hP hS
    subst hH
    refine lv_sipush (pc := 0) (v := (-1000)) hx hb dX3_told_0 (by decide) ?_
    refine lv_aload_n (pc := 3) hx hb dX3_told_3 rfl (lv_at hl 0 rfl) ?_
    refine va_get (pc := 4) (D := D) (ci := 3) (v := .int rd_fault) (C := RX3) (T := TX3) (N := 9) hx hb hts hinX3 hown hK hP 0 rfl rfl 6 (by decide) w_1 (fun _ h9 => h9) rfl dX3_told_4 ?_
    refine lv_imul (pc := 7) hx hb dX3_told_7 ?_
    refine lv_aload_n (pc := 8) hx hb dX3_told_8 rfl (lv_at hl 0 rfl) ?_
    refine va_get (pc := 9) (D := D) (ci := 3) (v := .int rd_faultPlace) (C := RX3) (T := TX3) (N := 9) hx hb hts hinX3 hown hK hP 0 rfl rfl 7 (by decide) w_2 (fun _ h9 => h9) rfl dX3_told_9 ?_
    refine lv_isub (pc := 12) hx hb dX3_told_12 ?_
    obtain rfl := Option.some.inj hf
    rw [hQ]
    exact q_iretr (pc := 13) hx hb hr hlocks rfl hS dX3_told_13
  exact hgo _ _ rfl hP hS
end
section
/-! X5_wordTo -/
set_option maxRecDepth 100000 in
set_option maxHeartbeats 4000000 in
theorem c_Question_wordTo (l : Launch) (D : va_G) (ci : Nat → ClassId) (A : Nat → Prop) (sa : Nat → Nat) (N : Nat) (Rw : va_W) (a_qu : Nat) (a_rd : Nat) (a_tp : Nat) (a_tp_bytes : Nat) (qu_word : Int32) (qu_level : Int32) (qu_key : Int32) (qu_otherLevel : Int32) (qu_otherKey : Int32) (tp_length : Int32) (tp_bytes : Nat → Int32) (p1 : Int32) (r : Int32) (hf : f_Question_wordTo N tp_bytes tp_length p1 = some r) : Met l yX5_wordTo wsX5_wordTo ({ frames := 5, cells := 0, slots := 0, locals := 108 }) (va_Pc [.ref a_qu, .int p1] (q_N D ci A sa ((a_qu, .inr (5, [.ref a_rd, .ref a_tp, .int qu_word, .int qu_level, .int qu_key, .int qu_otherLevel, .int qu_otherKey])) :: (a_tp, .inr (8, [.ref a_tp_bytes, .int tp_length])) :: (a_tp_bytes, .inl (ci 0, 200, .inl tp_bytes)) :: Rw))) (q_R (some (.int r))) 0 0 A := by
  refine q_ofW (cc := cX5_wordTo) (maxL := 2) (ret := (some .int)) [.ref a_qu, .int p1] (plainFor_of_name (by decide)) rfl (Nat.le_of_ble_eq_true rfl) ?_
  intro p e s m below meth c ls Q hQ hx hb hml hr hts hown hlocks hK hA hZ hP hD hS hl
  have hl : lv_has ls 2 [(0, .ref a_qu), (1, .int p1)] := hl
  have hown : s.vm.findClass RX5 = some m.cls := hown
  have hinX5 : ∀ w ∈ wsX50, w ∈ wsX5_wordTo := fun _ h => List.mem_cons_of_mem _ (inWX50 _ h)
  have w_1 := hts (Cond.fieldLink RX5 31 "SheetNames$Question" "tape" "LSheetNames$Tape;") (List.mem_cons_of_mem _ t_w852)
  unfold f_Question_wordTo at hf
  have hgo : ∀ (H : Heap) (locs : List Loc), H = s.heap → va_P D vwCl ((a_qu, .inr (5, [.ref a_rd, .ref a_tp, .int qu_word, .int qu_level, .int qu_key, .int qu_otherLevel, .int qu_otherKey])) :: (a_tp, .inr (8, [.ref a_tp_bytes, .int tp_length])) :: (a_tp_bytes, .inl (ci 0, 200, .inl tp_bytes)) :: Rw) H → va_S A s.heap H locs → W p l e ({ frames := 5, cells := 0, slots := 0, locals := 108 } : Room) s m ([.ref a_qu, .int p1] : List Value).toArray below meth c H locs 0 0 Q (F0 m 0 ls []) := by
    intro H locs hH hP hS
    subst hH
    refine lv_aload_n (pc := 0) hx hb dX5_wordTo_0 rfl (lv_at hl 0 rfl) ?_
    refine va_get (pc := 1) (D := D) (ci := 5) (v := .ref a_tp) (C := RX5) (T := TX5) (N := 7) hx hb hts hinX5 hown hK hP 0 rfl rfl 1 (by decide) w_1 (fun _ h9 => h9) rfl dX5_wordTo_1 ?_
    refine va_ldcS (pc := 4) hx hb hown (hZ.2.2.2.2.2.2.1 0 (by decide)) dX5_wordTo_4 ?_
    refine lv_iload_n (pc := 6) hx hb dX5_wordTo_6 rfl (lv_at hl 1 rfl) ?_
    obtain ⟨v1, hm7, hf⟩ := q_b1_e hf
    refine q_cVr (pc := 7) (As := [.ref (sa (2 + 0)), .int p1]) (rest := []) (v0 := (some (.int v1))) ⟨hx, hb, hml, hown, hts⟩ hK hA hZ hP hD hS hl.1 [1, 2] 3 rfl ⟨rfl, rfl, rfl⟩ (c_Tape_isWord l D ci A sa N (Rw) 0 (by decide) a_tp a_tp_bytes tp_length tp_bytes p1 v1 hm7) 1 rfl rfl (cwV 2 hts gX5_wordTo_X8_isWord rfl rfl rfl (by decide +kernel) ⟨Nat.le_of_ble_eq_true rfl, Nat.le_of_ble_eq_true rfl⟩) rfl rfl (Nat.le_of_ble_eq_true rfl) dX5_wordTo_7 ⟨Nat.zero_le _, Nat.zero_le _⟩ (fun locs hS => ?_)
    refine q_if_eq (pc := 10) (tgt := 15) hx hb dX5_wordTo_10 (by decide) rfl hf (fun hf => ?_) (fun hf => ?_)
    · refine lv_aload_n (pc := 15) hx hb dX5_wordTo_15 rfl (lv_at hl 0 rfl) ?_
      refine va_get (pc := 16) (D := D) (ci := 5) (v := .ref a_tp) (C := RX5) (T := TX5) (N := 7) hx hb hts hinX5 hown hK hP 0 rfl rfl 1 (by decide) w_1 (fun _ h9 => h9) rfl dX5_wordTo_16 ?_
      refine va_ldcS (pc := 19) hx hb hown (hZ.2.2.2.2.2.2.1 1 (by decide)) dX5_wordTo_19 ?_
      refine lv_iload_n (pc := 21) hx hb dX5_wordTo_21 rfl (lv_at hl 1 rfl) ?_
      obtain ⟨v2, hm22, hf⟩ := q_b1_e hf
      refine q_cVr (pc := 22) (As := [.ref (sa (2 + 1)), .int p1]) (rest := []) (v0 := (some (.int v2))) ⟨hx, hb, hml, hown, hts⟩ hK hA hZ hP hD hS hl.1 [1, 2] 3 rfl ⟨rfl, rfl, rfl⟩ (c_Tape_isWord l D ci A sa N (Rw) 1 (by decide) a_tp a_tp_bytes tp_length tp_bytes p1 v2 hm22) 1 rfl rfl (cwV 2 hts gX5_wordTo_X8_isWord rfl rfl rfl (by decide +kernel) ⟨Nat.le_of_ble_eq_true rfl, Nat.le_of_ble_eq_true rfl⟩) rfl rfl (Nat.le_of_ble_eq_true rfl) dX5_wordTo_22 ⟨Nat.zero_le _, Nat.zero_le _⟩ (fun locs hS => ?_)
      refine q_if_eq (pc := 25) (tgt := 30) hx hb dX5_wordTo_25 (by decide) rfl hf (fun hf => ?_) (fun hf => ?_)
      · refine lv_aload_n (pc := 30) hx hb dX5_wordTo_30 rfl (lv_at hl 0 rfl) ?_
        refine va_get (pc := 31) (D := D) (ci := 5) (v := .ref a_tp) (C := RX5) (T := TX5) (N := 7) hx hb hts hinX5 hown hK hP 0 rfl rfl 1 (by decide) w_1 (fun _ h9 => h9) rfl dX5_wordTo_31 ?_
        refine va_ldcS (pc := 34) hx hb hown (hZ.2.2.2.2.2.2.1 2 (by decide)) dX5_wordTo_34 ?_
        refine lv_iload_n (pc := 36) hx hb dX5_wordTo_36 rfl (lv_at hl 1 rfl) ?_
        obtain ⟨v3, hm37, hf⟩ := q_b1_e hf
        refine q_cVr (pc := 37) (As := [.ref (sa (2 + 2)), .int p1]) (rest := []) (v0 := (some (.int v3))) ⟨hx, hb, hml, hown, hts⟩ hK hA hZ hP hD hS hl.1 [1, 2] 3 rfl ⟨rfl, rfl, rfl⟩ (c_Tape_isWord l D ci A sa N (Rw) 2 (by decide) a_tp a_tp_bytes tp_length tp_bytes p1 v3 hm37) 1 rfl rfl (cwV 2 hts gX5_wordTo_X8_isWord rfl rfl rfl (by decide +kernel) ⟨Nat.le_of_ble_eq_true rfl, Nat.le_of_ble_eq_true rfl⟩) rfl rfl (Nat.le_of_ble_eq_true rfl) dX5_wordTo_37 ⟨Nat.zero_le _, Nat.zero_le _⟩ (fun locs hS => ?_)
        refine q_if_eq (pc := 40) (tgt := 45) hx hb dX5_wordTo_40 (by decide) rfl hf (fun hf => ?_) (fun hf => ?_)
        · refine lv_aload_n (pc := 45) hx hb dX5_wordTo_45 rfl (lv_at hl 0 rfl) ?_
          refine va_get (pc := 46) (D := D) (ci := 5) (v := .ref a_tp) (C := RX5) (T := TX5) (N := 7) hx hb hts hinX5 hown hK hP 0 rfl rfl 1 (by decide) w_1 (fun _ h9 => h9) rfl dX5_wordTo_46 ?_
          refine va_ldcS (pc := 49) hx hb hown (hZ.2.2.2.2.2.2.1 3 (by decide)) dX5_wordTo_49 ?_
          refine lv_iload_n (pc := 51) hx hb dX5_wordTo_51 rfl (lv_at hl 1 rfl) ?_
          obtain ⟨v4, hm52, hf⟩ := q_b1_e hf
          refine q_cVr (pc := 52) (As := [.ref (sa (2 + 3)), .int p1]) (rest := []) (v0 := (some (.int v4))) ⟨hx, hb, hml, hown, hts⟩ hK hA hZ hP hD hS hl.1 [1, 2] 3 rfl ⟨rfl, rfl, rfl⟩ (c_Tape_isWord l D ci A sa N (Rw) 3 (by decide) a_tp a_tp_bytes tp_length tp_bytes p1 v4 hm52) 1 rfl rfl (cwV 2 hts gX5_wordTo_X8_isWord rfl rfl rfl (by decide +kernel) ⟨Nat.le_of_ble_eq_true rfl, Nat.le_of_ble_eq_true rfl⟩) rfl rfl (Nat.le_of_ble_eq_true rfl) dX5_wordTo_52 ⟨Nat.zero_le _, Nat.zero_le _⟩ (fun locs hS => ?_)
          refine q_if_eq (pc := 55) (tgt := 60) hx hb dX5_wordTo_55 (by decide) rfl hf (fun hf => ?_) (fun hf => ?_)
          · refine lv_aload_n (pc := 60) hx hb dX5_wordTo_60 rfl (lv_at hl 0 rfl) ?_
            refine va_get (pc := 61) (D := D) (ci := 5) (v := .ref a_tp) (C := RX5) (T := TX5) (N := 7) hx hb hts hinX5 hown hK hP 0 rfl rfl 1 (by decide) w_1 (fun _ h9 => h9) rfl dX5_wordTo_61 ?_
            refine va_ldcS (pc := 64) hx hb hown (hZ.2.2.2.2.2.2.1 4 (by decide)) dX5_wordTo_64 ?_
            refine lv_iload_n (pc := 66) hx hb dX5_wordTo_66 rfl (lv_at hl 1 rfl) ?_
            obtain ⟨v5, hm67, hf⟩ := q_b1_e hf
            refine q_cVr (pc := 67) (As := [.ref (sa (2 + 4)), .int p1]) (rest := []) (v0 := (some (.int v5))) ⟨hx, hb, hml, hown, hts⟩ hK hA hZ hP hD hS hl.1 [1, 2] 3 rfl ⟨rfl, rfl, rfl⟩ (c_Tape_isWord l D ci A sa N (Rw) 4 (by decide) a_tp a_tp_bytes tp_length tp_bytes p1 v5 hm67) 1 rfl rfl (cwV 2 hts gX5_wordTo_X8_isWord rfl rfl rfl (by decide +kernel) ⟨Nat.le_of_ble_eq_true rfl, Nat.le_of_ble_eq_true rfl⟩) rfl rfl (Nat.le_of_ble_eq_true rfl) dX5_wordTo_67 ⟨Nat.zero_le _, Nat.zero_le _⟩ (fun locs hS => ?_)
            refine q_if_eq (pc := 70) (tgt := 75) hx hb dX5_wordTo_70 (by decide) rfl hf (fun hf => ?_) (fun hf => ?_)
            · refine lv_aload_n (pc := 75) hx hb dX5_wordTo_75 rfl (lv_at hl 0 rfl) ?_
              refine va_get (pc := 76) (D := D) (ci := 5) (v := .ref a_tp) (C := RX5) (T := TX5) (N := 7) hx hb hts hinX5 hown hK hP 0 rfl rfl 1 (by decide) w_1 (fun _ h9 => h9) rfl dX5_wordTo_76 ?_
              refine va_ldcS (pc := 79) hx hb hown (hZ.2.2.2.2.2.2.1 5 (by decide)) dX5_wordTo_79 ?_
              refine lv_iload_n (pc := 81) hx hb dX5_wordTo_81 rfl (lv_at hl 1 rfl) ?_
              obtain ⟨v6, hm82, hf⟩ := q_b1_e hf
              refine q_cVr (pc := 82) (As := [.ref (sa (2 + 5)), .int p1]) (rest := []) (v0 := (some (.int v6))) ⟨hx, hb, hml, hown, hts⟩ hK hA hZ hP hD hS hl.1 [1, 2] 3 rfl ⟨rfl, rfl, rfl⟩ (c_Tape_isWord l D ci A sa N (Rw) 5 (by decide) a_tp a_tp_bytes tp_length tp_bytes p1 v6 hm82) 1 rfl rfl (cwV 2 hts gX5_wordTo_X8_isWord rfl rfl rfl (by decide +kernel) ⟨Nat.le_of_ble_eq_true rfl, Nat.le_of_ble_eq_true rfl⟩) rfl rfl (Nat.le_of_ble_eq_true rfl) dX5_wordTo_82 ⟨Nat.zero_le _, Nat.zero_le _⟩ (fun locs hS => ?_)
              refine q_if_eq (pc := 85) (tgt := 90) hx hb dX5_wordTo_85 (by decide) rfl hf (fun hf => ?_) (fun hf => ?_)
              · refine lv_aload_n (pc := 90) hx hb dX5_wordTo_90 rfl (lv_at hl 0 rfl) ?_
                refine va_get (pc := 91) (D := D) (ci := 5) (v := .ref a_tp) (C := RX5) (T := TX5) (N := 7) hx hb hts hinX5 hown hK hP 0 rfl rfl 1 (by decide) w_1 (fun _ h9 => h9) rfl dX5_wordTo_91 ?_
                refine va_ldcS (pc := 94) hx hb hown (hZ.2.2.2.2.2.2.1 6 (by decide)) dX5_wordTo_94 ?_
                refine lv_iload_n (pc := 96) hx hb dX5_wordTo_96 rfl (lv_at hl 1 rfl) ?_
                obtain ⟨v7, hm97, hf⟩ := q_b1_e hf
                refine q_cVr (pc := 97) (As := [.ref (sa (2 + 6)), .int p1]) (rest := []) (v0 := (some (.int v7))) ⟨hx, hb, hml, hown, hts⟩ hK hA hZ hP hD hS hl.1 [1, 2] 3 rfl ⟨rfl, rfl, rfl⟩ (c_Tape_isWord l D ci A sa N (Rw) 6 (by decide) a_tp a_tp_bytes tp_length tp_bytes p1 v7 hm97) 1 rfl rfl (cwV 2 hts gX5_wordTo_X8_isWord rfl rfl rfl (by decide +kernel) ⟨Nat.le_of_ble_eq_true rfl, Nat.le_of_ble_eq_true rfl⟩) rfl rfl (Nat.le_of_ble_eq_true rfl) dX5_wordTo_97 ⟨Nat.zero_le _, Nat.zero_le _⟩ (fun locs hS => ?_)
                refine q_if_eq (pc := 100) (tgt := 108) hx hb dX5_wordTo_100 (by decide) rfl hf (fun hf => ?_) (fun hf => ?_)
                · refine lv_iconst (pc := 108) (v := (-1)) hx hb dX5_wordTo_108 (by decide) ?_
                  obtain rfl := Option.some.inj hf
                  rw [hQ]
                  exact q_iretr (pc := 109) hx hb hr hlocks rfl hS dX5_wordTo_109
                · refine lv_bipush (pc := 103) (v := 6) hx hb dX5_wordTo_103 (by decide) ?_
                  refine lv_goto (pc := 105) (tgt := 109) hx hb dX5_wordTo_105 (by decide) ?_
                  obtain rfl := Option.some.inj hf
                  rw [hQ]
                  exact q_iretr (pc := 109) hx hb hr hlocks rfl hS dX5_wordTo_109
              · refine lv_iconst (pc := 88) (v := 5) hx hb dX5_wordTo_88 (by decide) ?_
                obtain rfl := Option.some.inj hf
                rw [hQ]
                exact q_iretr (pc := 89) hx hb hr hlocks rfl hS dX5_wordTo_89
            · refine lv_iconst (pc := 73) (v := 4) hx hb dX5_wordTo_73 (by decide) ?_
              obtain rfl := Option.some.inj hf
              rw [hQ]
              exact q_iretr (pc := 74) hx hb hr hlocks rfl hS dX5_wordTo_74
          · refine lv_iconst (pc := 58) (v := 3) hx hb dX5_wordTo_58 (by decide) ?_
            obtain rfl := Option.some.inj hf
            rw [hQ]
            exact q_iretr (pc := 59) hx hb hr hlocks rfl hS dX5_wordTo_59
        · refine lv_iconst (pc := 43) (v := 2) hx hb dX5_wordTo_43 (by decide) ?_
          obtain rfl := Option.some.inj hf
          rw [hQ]
          exact q_iretr (pc := 44) hx hb hr hlocks rfl hS dX5_wordTo_44
      · refine lv_iconst (pc := 28) (v := 1) hx hb dX5_wordTo_28 (by decide) ?_
        obtain rfl := Option.some.inj hf
        rw [hQ]
        exact q_iretr (pc := 29) hx hb hr hlocks rfl hS dX5_wordTo_29
    · refine lv_iconst (pc := 13) (v := 0) hx hb dX5_wordTo_13 (by decide) ?_
      obtain rfl := Option.some.inj hf
      rw [hQ]
      exact q_iretr (pc := 14) hx hb hr hlocks rfl hS dX5_wordTo_14
  exact hgo _ _ rfl hP hS
/-! X5_readOther -/
set_option maxRecDepth 100000 in
set_option maxHeartbeats 4000000 in
theorem c_Question_readOther (l : Launch) (D : va_G) (ci : Nat → ClassId) (A : Nat → Prop) (sa : Nat → Nat) (N : Nat) (Rw : va_W) (a_qu : Nat) (a_rd : Nat) (a_tp : Nat) (a_g : Nat) (a_tp_bytes : Nat) (a_g_rowCuts : Nat) (a_g_columnCuts : Nat) (a_g_bandRows : Nat) (a_g_zoneColumns : Nat) (a_g_rows : Nat) (a_g_sheets : Nat) (qu_word : Int32) (qu_level : Int32) (qu_key : Int32) (qu_otherLevel : Int32) (qu_otherKey : Int32) (rd_next : Int32) (rd_end : Int32) (rd_level : Int32) (rd_key : Int32) (rd_fault : Int32) (rd_faultPlace : Int32) (rd_endedSoon : Int32) (tp_length : Int32) (tp_bytes : Nat → Int32) (g_rowCuts : Nat → Int32) (g_columnCuts : Nat → Int32) (g_bandRows : Nat → Int32) (g_zoneColumns : Nat → Int32) (g_rows : Nat → Int32) (g_sheets : Nat → Int32) (p1 : Int32) (p2 : Int32) (r : Int32) (o1 : Int32) (o2 : Int32) (o3 : Int32) (o4 : Int32) (o5 : Int32) (o6 : Int32) (o7 : Int32) (o8 : Int32) (o9 : Int32) (hf : f_Question_readOther N qu_otherLevel qu_otherKey rd_next rd_end rd_level rd_key rd_fault rd_faultPlace rd_endedSoon tp_bytes tp_length g_rowCuts g_columnCuts g_bandRows g_zoneColumns g_rows g_sheets p1 p2 = some (r, o1, o2, o3, o4, o5, o6, o7, o8, o9)) : Met l yX5_readOther wsX5_readOther ({ frames := 4, cells := 0, slots := 0, locals := 95 }) (va_Pc [.ref a_qu, .int p1, .int p2] (q_N D ci A sa ((a_qu, .inr (5, [.ref a_rd, .ref a_tp, .int qu_word, .int qu_level, .int qu_key, .int qu_otherLevel, .int qu_otherKey])) :: (a_rd, .inr (3, [.ref a_g, .ref a_tp, .int rd_next, .int rd_end, .int rd_level, .int rd_key, .int rd_fault, .int rd_faultPlace, .int rd_endedSoon])) :: (a_tp, .inr (8, [.ref a_tp_bytes, .int tp_length])) :: (a_tp_bytes, .inl (ci 0, 200, .inl tp_bytes)) :: (a_g, .inr (2, [.ref a_g_rowCuts, .ref a_g_columnCuts, .ref a_g_bandRows, .ref a_g_zoneColumns, .ref a_g_rows, .ref a_g_sheets])) :: (a_g_rowCuts, .inl (ci 0, 5, .inl g_rowCuts)) :: (a_g_columnCuts, .inl (ci 0, 5, .inl g_columnCuts)) :: (a_g_bandRows, .inl (ci 0, 5, .inl g_bandRows)) :: (a_g_zoneColumns, .inl (ci 0, 5, .inl g_zoneColumns)) :: (a_g_rows, .inl (ci 0, 5, .inl g_rows)) :: (a_g_sheets, .inl (ci 0, 5, .inl g_sheets)) :: Rw))) (q_Q (some (.int r)) (q_O D A ((a_qu, .inr (5, [.ref a_rd, .ref a_tp, .int qu_word, .int qu_level, .int qu_key, .int o1, .int o2])) :: (a_rd, .inr (3, [.ref a_g, .ref a_tp, .int o3, .int o4, .int o5, .int o6, .int o7, .int o8, .int o9])) :: (a_tp, .inr (8, [.ref a_tp_bytes, .int tp_length])) :: (a_tp_bytes, .inl (ci 0, 200, .inl tp_bytes)) :: (a_g, .inr (2, [.ref a_g_rowCuts, .ref a_g_columnCuts, .ref a_g_bandRows, .ref a_g_zoneColumns, .ref a_g_rows, .ref a_g_sheets])) :: (a_g_rowCuts, .inl (ci 0, 5, .inl g_rowCuts)) :: (a_g_columnCuts, .inl (ci 0, 5, .inl g_columnCuts)) :: (a_g_bandRows, .inl (ci 0, 5, .inl g_bandRows)) :: (a_g_zoneColumns, .inl (ci 0, 5, .inl g_zoneColumns)) :: (a_g_rows, .inl (ci 0, 5, .inl g_rows)) :: (a_g_sheets, .inl (ci 0, 5, .inl g_sheets)) :: Rw)) A) 0 0 A := by
  refine q_ofW (cc := cX5_readOther) (maxL := 3) (ret := (some .boolean)) [.ref a_qu, .int p1, .int p2] (plainFor_of_name (by decide)) rfl (Nat.le_of_ble_eq_true rfl) ?_
  intro p e s m below meth c ls Q hQ hx hb hml hr hts hown hlocks hK hA hZ hP hD hS hl
  have hl : lv_has ls 3 [(0, .ref a_qu), (1, .int p1), (2, .int p2)] := hl
  have hown : s.vm.findClass RX5 = some m.cls := hown
  have hinX3 : ∀ w ∈ wsX30, w ∈ wsX5_readOther := fun _ h => List.mem_cons_of_mem _ (inWX30 _ h)
  have hinX5 : ∀ w ∈ wsX50, w ∈ wsX5_readOther := fun _ h => List.mem_cons_of_mem _ (inWX50 _ h)
  have w_1 := hts (Cond.fieldLink RX5 27 "SheetNames$Question" "reader" "LSheetNames$NameReader;") (List.mem_cons_of_mem _ t_w853)
  have w_2 := hts (Cond.fieldLink RX5 21 "SheetNames$Question" "otherLevel" "I") (List.mem_cons_of_mem _ t_w854)
  have w_3 := hts (Cond.fieldLink RX5 24 "SheetNames$Question" "otherKey" "I") (List.mem_cons_of_mem _ t_w855)
  have wn_53 : (Cond.fieldLinkNest "SheetNames$Question" 58 "SheetNames$NameReader" "level" "I" "SheetNames").before ([.ref a_qu, .int p1, .int p2] : List Value).toArray s = true := (hZ.2.2.2.2.2.2.2.2.2.1 _ (List.mem_of_getElem? (i := 53) rfl)).use rfl
  have wn_54 : (Cond.fieldLinkNest "SheetNames$Question" 59 "SheetNames$NameReader" "key" "I" "SheetNames").before ([.ref a_qu, .int p1, .int p2] : List Value).toArray s = true := (hZ.2.2.2.2.2.2.2.2.2.1 _ (List.mem_of_getElem? (i := 54) rfl)).use rfl
  unfold f_Question_readOther at hf
  have hgo : ∀ (H : Heap) (locs : List Loc), H = s.heap → va_P D vwCl ((a_qu, .inr (5, [.ref a_rd, .ref a_tp, .int qu_word, .int qu_level, .int qu_key, .int qu_otherLevel, .int qu_otherKey])) :: (a_rd, .inr (3, [.ref a_g, .ref a_tp, .int rd_next, .int rd_end, .int rd_level, .int rd_key, .int rd_fault, .int rd_faultPlace, .int rd_endedSoon])) :: (a_tp, .inr (8, [.ref a_tp_bytes, .int tp_length])) :: (a_tp_bytes, .inl (ci 0, 200, .inl tp_bytes)) :: (a_g, .inr (2, [.ref a_g_rowCuts, .ref a_g_columnCuts, .ref a_g_bandRows, .ref a_g_zoneColumns, .ref a_g_rows, .ref a_g_sheets])) :: (a_g_rowCuts, .inl (ci 0, 5, .inl g_rowCuts)) :: (a_g_columnCuts, .inl (ci 0, 5, .inl g_columnCuts)) :: (a_g_bandRows, .inl (ci 0, 5, .inl g_bandRows)) :: (a_g_zoneColumns, .inl (ci 0, 5, .inl g_zoneColumns)) :: (a_g_rows, .inl (ci 0, 5, .inl g_rows)) :: (a_g_sheets, .inl (ci 0, 5, .inl g_sheets)) :: Rw) H → va_S A s.heap H locs → W p l e ({ frames := 4, cells := 0, slots := 0, locals := 95 } : Room) s m ([.ref a_qu, .int p1, .int p2] : List Value).toArray below meth c H locs 0 0 Q (F0 m 0 ls []) := by
    intro H locs hH hP hS
    refine lv_iload_n (pc := 0) hx hb dX5_readOther_0 rfl (lv_at hl 1 rfl) ?_
    refine lv_iload_n (pc := 1) hx hb dX5_readOther_1 rfl (lv_at hl 2 rfl) ?_
    refine q_icmp_le (pc := 2) (tgt := 14) hx hb dX5_readOther_2 (by decide) rfl hf (fun hf => ?_) (fun hf => ?_)
    · refine lv_aload_n (pc := 14) hx hb dX5_readOther_14 rfl (lv_at hl 0 rfl) ?_
      refine va_get (pc := 15) (D := D) (ci := 5) (v := .ref a_rd) (C := RX5) (T := TX5) (N := 7) hx hb hts hinX5 hown hK hP 0 rfl rfl 0 (by decide) w_1 (fun _ h9 => h9) rfl dX5_readOther_15 ?_
      refine lv_iload_n (pc := 18) hx hb dX5_readOther_18 rfl (lv_at hl 1 rfl) ?_
      refine lv_iload_n (pc := 19) hx hb dX5_readOther_19 rfl (lv_at hl 2 rfl) ?_
      obtain ⟨v1, v2, v3, v4, v5, v6, v7, v8, hm20, hf⟩ := q_b8_e hf
      refine q_cV (pc := 20) (As := [.int p1, .int p2]) (rest := []) (v0 := (some (.int v1))) ⟨hx, hb, hml, hown, hts⟩ hK hA hZ hP hD hS hl.1 [1, 2, 3, 4, 5, 6, 7, 8, 9, 10, 0] 11 rfl ⟨rfl, rfl, rfl⟩ (c_NameReader_read l D ci A sa N ((a_qu, .inr (5, [.ref a_rd, .ref a_tp, .int qu_word, .int qu_level, .int qu_key, .int qu_otherLevel, .int qu_otherKey])) :: Rw) a_rd a_g a_tp a_tp_bytes a_g_rowCuts a_g_columnCuts a_g_bandRows a_g_zoneColumns a_g_rows a_g_sheets rd_next rd_end rd_level rd_key rd_fault rd_faultPlace rd_endedSoon tp_length tp_bytes g_rowCuts g_columnCuts g_bandRows g_zoneColumns g_rows g_sheets p1 p2 v1 v2 v3 v4 v5 v6 v7 v8 hm20) 1 rfl rfl (cwV 2 hts gX5_readOther_X3_read rfl rfl rfl (by decide +kernel) ⟨Nat.le_of_ble_eq_true rfl, Nat.le_of_ble_eq_true rfl⟩) rfl rfl (Nat.le_of_ble_eq_true rfl) dX5_readOther_20 ⟨Nat.zero_le _, Nat.zero_le _⟩ [10, 0, 1, 2, 3, 4, 5, 6, 7, 8, 9] 11 rfl ⟨rfl, rfl, rfl⟩ (fun H locs hP hD hS => ?_)
      obtain ⟨hP, hD⟩ : va_PD D A ((a_qu, .inr (5, [.ref a_rd, .ref a_tp, .int qu_word, .int qu_level, .int qu_key, .int qu_otherLevel, .int qu_otherKey])) :: (a_rd, .inr (3, [.ref a_g, .ref a_tp, .int v2, .int v3, .int v4, .int v5, .int v6, .int v7, .int v8])) :: (a_tp, .inr (8, [.ref a_tp_bytes, .int tp_length])) :: (a_tp_bytes, .inl (ci 0, 200, .inl tp_bytes)) :: (a_g, .inr (2, [.ref a_g_rowCuts, .ref a_g_columnCuts, .ref a_g_bandRows, .ref a_g_zoneColumns, .ref a_g_rows, .ref a_g_sheets])) :: (a_g_rowCuts, .inl (ci 0, 5, .inl g_rowCuts)) :: (a_g_columnCuts, .inl (ci 0, 5, .inl g_columnCuts)) :: (a_g_bandRows, .inl (ci 0, 5, .inl g_bandRows)) :: (a_g_zoneColumns, .inl (ci 0, 5, .inl g_zoneColumns)) :: (a_g_rows, .inl (ci 0, 5, .inl g_rows)) :: (a_g_sheets, .inl (ci 0, 5, .inl g_sheets)) :: Rw) H := ⟨hP, hD⟩
      refine q_if_ne (pc := 23) (tgt := 28) hx hb dX5_readOther_23 (by decide) rfl hf (fun hf => ?_) (fun hf => ?_)
      · refine lv_aload_n (pc := 28) hx hb dX5_readOther_28 rfl (lv_at hl 0 rfl) ?_
        refine lv_aload_n (pc := 29) hx hb dX5_readOther_29 rfl (lv_at hl 0 rfl) ?_
        refine va_get (pc := 30) (D := D) (ci := 5) (v := .ref a_rd) (C := RX5) (T := TX5) (N := 7) hx hb hts hinX5 hown hK hP 0 rfl rfl 0 (by decide) w_1 (fun _ h9 => h9) rfl dX5_readOther_30 ?_
        refine va_getN (pc := 33) (D := D) (ci := 3) (v := .int v4) (C := RX3) (T := TX3) (N := 9) hx hb hts hinX3 hown hK hP 1 rfl rfl 4 (by decide) wn_53 (fun _ h9 => h9) rfl dX5_readOther_33 ?_
        refine va_put (pc := 36) (D := D) (ci := 5) (v := .int v4) (ty := .int) (C := RX5) (T := TX5) (N := 7) hx hb hts hinX5 tyX5 tyX5_ok nmX5 hown hK hP hD hS 0 rfl rfl 5 (by decide) w_2 (fun _ h9 => h9) rfl (by decide +kernel) rfl rfl (Nat.le_of_ble_eq_true rfl) dX5_readOther_36 (fun H locs hP hD hS => ?_)
        obtain ⟨hP, hD⟩ : va_PD D A ((a_qu, .inr (5, [.ref a_rd, .ref a_tp, .int qu_word, .int qu_level, .int qu_key, .int v4, .int qu_otherKey])) :: (a_rd, .inr (3, [.ref a_g, .ref a_tp, .int v2, .int v3, .int v4, .int v5, .int v6, .int v7, .int v8])) :: (a_tp, .inr (8, [.ref a_tp_bytes, .int tp_length])) :: (a_tp_bytes, .inl (ci 0, 200, .inl tp_bytes)) :: (a_g, .inr (2, [.ref a_g_rowCuts, .ref a_g_columnCuts, .ref a_g_bandRows, .ref a_g_zoneColumns, .ref a_g_rows, .ref a_g_sheets])) :: (a_g_rowCuts, .inl (ci 0, 5, .inl g_rowCuts)) :: (a_g_columnCuts, .inl (ci 0, 5, .inl g_columnCuts)) :: (a_g_bandRows, .inl (ci 0, 5, .inl g_bandRows)) :: (a_g_zoneColumns, .inl (ci 0, 5, .inl g_zoneColumns)) :: (a_g_rows, .inl (ci 0, 5, .inl g_rows)) :: (a_g_sheets, .inl (ci 0, 5, .inl g_sheets)) :: Rw) H := ⟨hP, hD⟩
        refine lv_aload_n (pc := 39) hx hb dX5_readOther_39 rfl (lv_at hl 0 rfl) ?_
        refine lv_aload_n (pc := 40) hx hb dX5_readOther_40 rfl (lv_at hl 0 rfl) ?_
        refine va_get (pc := 41) (D := D) (ci := 5) (v := .ref a_rd) (C := RX5) (T := TX5) (N := 7) hx hb hts hinX5 hown hK hP 0 rfl rfl 0 (by decide) w_1 (fun _ h9 => h9) rfl dX5_readOther_41 ?_
        refine va_getN (pc := 44) (D := D) (ci := 3) (v := .int v5) (C := RX3) (T := TX3) (N := 9) hx hb hts hinX3 hown hK hP 1 rfl rfl 5 (by decide) wn_54 (fun _ h9 => h9) rfl dX5_readOther_44 ?_
        refine va_put (pc := 47) (D := D) (ci := 5) (v := .int v5) (ty := .int) (C := RX5) (T := TX5) (N := 7) hx hb hts hinX5 tyX5 tyX5_ok nmX5 hown hK hP hD hS 0 rfl rfl 6 (by decide) w_3 (fun _ h9 => h9) rfl (by decide +kernel) rfl rfl (Nat.le_of_ble_eq_true rfl) dX5_readOther_47 (fun H locs hP hD hS => ?_)
        obtain ⟨hP, hD⟩ : va_PD D A ((a_qu, .inr (5, [.ref a_rd, .ref a_tp, .int qu_word, .int qu_level, .int qu_key, .int v4, .int v5])) :: (a_rd, .inr (3, [.ref a_g, .ref a_tp, .int v2, .int v3, .int v4, .int v5, .int v6, .int v7, .int v8])) :: (a_tp, .inr (8, [.ref a_tp_bytes, .int tp_length])) :: (a_tp_bytes, .inl (ci 0, 200, .inl tp_bytes)) :: (a_g, .inr (2, [.ref a_g_rowCuts, .ref a_g_columnCuts, .ref a_g_bandRows, .ref a_g_zoneColumns, .ref a_g_rows, .ref a_g_sheets])) :: (a_g_rowCuts, .inl (ci 0, 5, .inl g_rowCuts)) :: (a_g_columnCuts, .inl (ci 0, 5, .inl g_columnCuts)) :: (a_g_bandRows, .inl (ci 0, 5, .inl g_bandRows)) :: (a_g_zoneColumns, .inl (ci 0, 5, .inl g_zoneColumns)) :: (a_g_rows, .inl (ci 0, 5, .inl g_rows)) :: (a_g_sheets, .inl (ci 0, 5, .inl g_sheets)) :: Rw) H := ⟨hP, hD⟩
        refine lv_iconst (pc := 50) (v := 1) hx hb dX5_readOther_50 (by decide) ?_
        obtain ⟨e90, e91, e92, e93, e94, e95, e96, e97, e98, e99⟩ := q_inj10 (Option.some.inj hf)
        rw [hQ, ← e90, ← e91, ← e92, ← e93, ← e94, ← e95, ← e96, ← e97, ← e98, ← e99]
        exact q_zret (pc := 51) hx hb hr rfl hlocks hP hD hS dX5_readOther_51
      · refine lv_iconst (pc := 26) (v := 0) hx hb dX5_readOther_26 (by decide) ?_
        obtain ⟨e90, e91, e92, e93, e94, e95, e96, e97, e98, e99⟩ := q_inj10 (Option.some.inj hf)
        rw [hQ, ← e90, ← e91, ← e92, ← e93, ← e94, ← e95, ← e96, ← e97, ← e98, ← e99]
        exact q_zret (pc := 27) hx hb hr rfl hlocks hP hD hS dX5_readOther_27
    · refine lv_aload_n (pc := 5) hx hb dX5_readOther_5 rfl (lv_at hl 0 rfl) ?_
      refine va_get (pc := 6) (D := D) (ci := 5) (v := .ref a_rd) (C := RX5) (T := TX5) (N := 7) hx hb hts hinX5 hown hK hP 0 rfl rfl 0 (by decide) w_1 (fun _ h9 => h9) rfl dX5_readOther_6 ?_
      refine lv_iload_n (pc := 9) hx hb dX5_readOther_9 rfl (lv_at hl 2 rfl) ?_
      obtain ⟨v9, v10, v11, v12, hm10, hf⟩ := q_b4_e hf
      refine q_cV (pc := 10) (As := [.int p2]) (rest := []) (v0 := (some (.int v9))) ⟨hx, hb, hml, hown, hts⟩ hK hA hZ hP hD hS hl.1 [1, 0, 2, 3, 4, 5, 6, 7, 8, 9, 10] 11 rfl ⟨rfl, rfl, rfl⟩ (c_NameReader_failWithoutBlank l D ci A sa N ((a_qu, .inr (5, [.ref a_rd, .ref a_tp, .int qu_word, .int qu_level, .int qu_key, .int qu_otherLevel, .int qu_otherKey])) :: (a_tp, .inr (8, [.ref a_tp_bytes, .int tp_length])) :: (a_tp_bytes, .inl (ci 0, 200, .inl tp_bytes)) :: (a_g, .inr (2, [.ref a_g_rowCuts, .ref a_g_columnCuts, .ref a_g_bandRows, .ref a_g_zoneColumns, .ref a_g_rows, .ref a_g_sheets])) :: (a_g_rowCuts, .inl (ci 0, 5, .inl g_rowCuts)) :: (a_g_columnCuts, .inl (ci 0, 5, .inl g_columnCuts)) :: (a_g_bandRows, .inl (ci 0, 5, .inl g_bandRows)) :: (a_g_zoneColumns, .inl (ci 0, 5, .inl g_zoneColumns)) :: (a_g_rows, .inl (ci 0, 5, .inl g_rows)) :: (a_g_sheets, .inl (ci 0, 5, .inl g_sheets)) :: Rw) a_rd a_g a_tp rd_next rd_end rd_level rd_key rd_fault rd_faultPlace rd_endedSoon p2 v9 v10 v11 v12 hm10) 1 rfl rfl (cwV 1 hts gX5_readOther_X3_failWithoutBlank rfl rfl rfl (by decide +kernel) ⟨Nat.le_of_ble_eq_true rfl, Nat.le_of_ble_eq_true rfl⟩) rfl rfl (Nat.le_of_ble_eq_true rfl) dX5_readOther_10 ⟨Nat.zero_le _, Nat.zero_le _⟩ [1, 0, 2, 3, 4, 5, 6, 7, 8, 9, 10] 11 rfl ⟨rfl, rfl, rfl⟩ (fun H locs hP hD hS => ?_)
      obtain ⟨hP, hD⟩ : va_PD D A ((a_qu, .inr (5, [.ref a_rd, .ref a_tp, .int qu_word, .int qu_level, .int qu_key, .int qu_otherLevel, .int qu_otherKey])) :: (a_rd, .inr (3, [.ref a_g, .ref a_tp, .int rd_next, .int rd_end, .int rd_level, .int rd_key, .int v10, .int v11, .int v12])) :: (a_tp, .inr (8, [.ref a_tp_bytes, .int tp_length])) :: (a_tp_bytes, .inl (ci 0, 200, .inl tp_bytes)) :: (a_g, .inr (2, [.ref a_g_rowCuts, .ref a_g_columnCuts, .ref a_g_bandRows, .ref a_g_zoneColumns, .ref a_g_rows, .ref a_g_sheets])) :: (a_g_rowCuts, .inl (ci 0, 5, .inl g_rowCuts)) :: (a_g_columnCuts, .inl (ci 0, 5, .inl g_columnCuts)) :: (a_g_bandRows, .inl (ci 0, 5, .inl g_bandRows)) :: (a_g_zoneColumns, .inl (ci 0, 5, .inl g_zoneColumns)) :: (a_g_rows, .inl (ci 0, 5, .inl g_rows)) :: (a_g_sheets, .inl (ci 0, 5, .inl g_sheets)) :: Rw) H := ⟨hP, hD⟩
      obtain ⟨hn9, hf9, hf⟩ := q_bo_e hf
      obtain ⟨e90, e91, e92, e93, e94, e95, e96, e97, e98, e99⟩ := q_inj10 (Option.some.inj hf)
      rw [hQ, ← e90, ← e91, ← e92, ← e93, ← e94, ← e95, ← e96, ← e97, ← e98, ← e99]
      exact q_zret (pc := 13) hx hb hr hn9 hlocks hP hD hS dX5_readOther_13
  exact hgo _ _ rfl hP hS
/-! X5_read -/
set_option maxRecDepth 100000 in
set_option maxHeartbeats 4000000 in
theorem c_Question_read (l : Launch) (D : va_G) (ci : Nat → ClassId) (A : Nat → Prop) (sa : Nat → Nat) (N : Nat) (Rw : va_W) (a_qu : Nat) (a_rd : Nat) (a_tp : Nat) (a_g : Nat) (a_tp_bytes : Nat) (a_g_rowCuts : Nat) (a_g_columnCuts : Nat) (a_g_bandRows : Nat) (a_g_zoneColumns : Nat) (a_g_rows : Nat) (a_g_sheets : Nat) (qu_word : Int32) (qu_level : Int32) (qu_key : Int32) (qu_otherLevel : Int32) (qu_otherKey : Int32) (rd_next : Int32) (rd_end : Int32) (rd_level : Int32) (rd_key : Int32) (rd_fault : Int32) (rd_faultPlace : Int32) (rd_endedSoon : Int32) (tp_length : Int32) (tp_bytes : Nat → Int32) (g_rowCuts : Nat → Int32) (g_columnCuts : Nat → Int32) (g_bandRows : Nat → Int32) (g_zoneColumns : Nat → Int32) (g_rows : Nat → Int32) (g_sheets : Nat → Int32) (p1 : Int32) (r : Int32) (o1 : Int32) (o2 : Int32) (o3 : Int32) (o4 : Int32) (o5 : Int32) (o6 : Int32) (o7 : Int32) (o8 : Int32) (o9 : Int32) (o10 : Int32) (o11 : Int32) (o12 : Int32) (hf : f_Question_read N qu_word qu_level qu_key qu_otherLevel qu_otherKey rd_next rd_end rd_level rd_key rd_fault rd_faultPlace rd_endedSoon tp_bytes tp_length g_rowCuts g_columnCuts g_bandRows g_zoneColumns g_rows g_sheets p1 = some (r, o1, o2, o3, o4, o5, o6, o7, o8, o9, o10, o11, o12)) : Met l yX5_read wsX5_read ({ frames := 6, cells := 0, slots := 0, locals := 129 }) (va_Pc [.ref a_qu, .int p1] (q_N D ci A sa ((a_qu, .inr (5, [.ref a_rd, .ref a_tp, .int qu_word, .int qu_level, .int qu_key, .int qu_otherLevel, .int qu_otherKey])) :: (a_rd, .inr (3, [.ref a_g, .ref a_tp, .int rd_next, .int rd_end, .int rd_level, .int rd_key, .int rd_fault, .int rd_faultPlace, .int rd_endedSoon])) :: (a_tp, .inr (8, [.ref a_tp_bytes, .int tp_length])) :: (a_tp_bytes, .inl (ci 0, 200, .inl tp_bytes)) :: (a_g, .inr (2, [.ref a_g_rowCuts, .ref a_g_columnCuts, .ref a_g_bandRows, .ref a_g_zoneColumns, .ref a_g_rows, .ref a_g_sheets])) :: (a_g_rowCuts, .inl (ci 0, 5, .inl g_rowCuts)) :: (a_g_columnCuts, .inl (ci 0, 5, .inl g_columnCuts)) :: (a_g_bandRows, .inl (ci 0, 5, .inl g_bandRows)) :: (a_g_zoneColumns, .inl (ci 0, 5, .inl g_zoneColumns)) :: (a_g_rows, .inl (ci 0, 5, .inl g_rows)) :: (a_g_sheets, .inl (ci 0, 5, .inl g_sheets)) :: Rw))) (q_Q (some (.int r)) (q_O D A ((a_qu, .inr (5, [.ref a_rd, .ref a_tp, .int o1, .int o2, .int o3, .int o4, .int o5])) :: (a_rd, .inr (3, [.ref a_g, .ref a_tp, .int o6, .int o7, .int o8, .int o9, .int o10, .int o11, .int o12])) :: (a_tp, .inr (8, [.ref a_tp_bytes, .int tp_length])) :: (a_tp_bytes, .inl (ci 0, 200, .inl tp_bytes)) :: (a_g, .inr (2, [.ref a_g_rowCuts, .ref a_g_columnCuts, .ref a_g_bandRows, .ref a_g_zoneColumns, .ref a_g_rows, .ref a_g_sheets])) :: (a_g_rowCuts, .inl (ci 0, 5, .inl g_rowCuts)) :: (a_g_columnCuts, .inl (ci 0, 5, .inl g_columnCuts)) :: (a_g_bandRows, .inl (ci 0, 5, .inl g_bandRows)) :: (a_g_zoneColumns, .inl (ci 0, 5, .inl g_zoneColumns)) :: (a_g_rows, .inl (ci 0, 5, .inl g_rows)) :: (a_g_sheets, .inl (ci 0, 5, .inl g_sheets)) :: Rw)) A) 0 0 A := by
  refine q_ofW (cc := cX5_read) (maxL := 5) (ret := (some .boolean)) [.ref a_qu, .int p1] (plainFor_of_name (by decide)) rfl (Nat.le_of_ble_eq_true rfl) ?_
  intro p e s m below meth c ls Q hQ hx hb hml hr hts hown hlocks hK hA hZ hP hD hS hl
  have hl : lv_has ls 5 [(0, .ref a_qu), (1, .int p1)] := hl
  have hown : s.vm.findClass RX5 = some m.cls := hown
  have hinX3 : ∀ w ∈ wsX30, w ∈ wsX5_read := fun _ h => List.mem_cons_of_mem _ (inWX30 _ h)
  have hinX5 : ∀ w ∈ wsX50, w ∈ wsX5_read := fun _ h => List.mem_cons_of_mem _ (inWX50 _ h)
  have w_1 := hts (Cond.fieldLink RX5 31 "SheetNames$Question" "tape" "LSheetNames$Tape;") (List.mem_cons_of_mem _ t_w852)
  have w_2 := hts (Cond.fieldLink RX5 27 "SheetNames$Question" "reader" "LSheetNames$NameReader;") (List.mem_cons_of_mem _ t_w853)
  have w_3 := hts (Cond.fieldLink RX5 9 "SheetNames$Question" "word" "I") (List.mem_cons_of_mem _ t_w856)
  have w_4 := hts (Cond.fieldLink RX5 15 "SheetNames$Question" "level" "I") (List.mem_cons_of_mem _ t_w857)
  have w_5 := hts (Cond.fieldLink RX5 18 "SheetNames$Question" "key" "I") (List.mem_cons_of_mem _ t_w858)
  have wn_53 : (Cond.fieldLinkNest "SheetNames$Question" 58 "SheetNames$NameReader" "level" "I" "SheetNames").before ([.ref a_qu, .int p1] : List Value).toArray s = true := (hZ.2.2.2.2.2.2.2.2.2.1 _ (List.mem_of_getElem? (i := 53) rfl)).use rfl
  have wn_54 : (Cond.fieldLinkNest "SheetNames$Question" 59 "SheetNames$NameReader" "key" "I" "SheetNames").before ([.ref a_qu, .int p1] : List Value).toArray s = true := (hZ.2.2.2.2.2.2.2.2.2.1 _ (List.mem_of_getElem? (i := 54) rfl)).use rfl
  unfold f_Question_read at hf
  have hgo : ∀ (H : Heap) (locs : List Loc), H = s.heap → va_P D vwCl ((a_qu, .inr (5, [.ref a_rd, .ref a_tp, .int qu_word, .int qu_level, .int qu_key, .int qu_otherLevel, .int qu_otherKey])) :: (a_rd, .inr (3, [.ref a_g, .ref a_tp, .int rd_next, .int rd_end, .int rd_level, .int rd_key, .int rd_fault, .int rd_faultPlace, .int rd_endedSoon])) :: (a_tp, .inr (8, [.ref a_tp_bytes, .int tp_length])) :: (a_tp_bytes, .inl (ci 0, 200, .inl tp_bytes)) :: (a_g, .inr (2, [.ref a_g_rowCuts, .ref a_g_columnCuts, .ref a_g_bandRows, .ref a_g_zoneColumns, .ref a_g_rows, .ref a_g_sheets])) :: (a_g_rowCuts, .inl (ci 0, 5, .inl g_rowCuts)) :: (a_g_columnCuts, .inl (ci 0, 5, .inl g_columnCuts)) :: (a_g_bandRows, .inl (ci 0, 5, .inl g_bandRows)) :: (a_g_zoneColumns, .inl (ci 0, 5, .inl g_zoneColumns)) :: (a_g_rows, .inl (ci 0, 5, .inl g_rows)) :: (a_g_sheets, .inl (ci 0, 5, .inl g_sheets)) :: Rw) H → va_S A s.heap H locs → W p l e ({ frames := 6, cells := 0, slots := 0, locals := 129 } : Room) s m ([.ref a_qu, .int p1] : List Value).toArray below meth c H locs 0 0 Q (F0 m 0 ls []) := by
    intro H locs hH hP hS
    refine lv_aload_n (pc := 0) hx hb dX5_read_0 rfl (lv_at hl 0 rfl) ?_
    refine va_get (pc := 1) (D := D) (ci := 5) (v := .ref a_tp) (C := RX5) (T := TX5) (N := 7) hx hb hts hinX5 hown hK hP 0 rfl rfl 1 (by decide) w_1 (fun _ h9 => h9) rfl dX5_read_1 ?_
    refine lv_iconst (pc := 4) (v := 0) hx hb dX5_read_4 (by decide) ?_
    refine lv_iload_n (pc := 5) hx hb dX5_read_5 rfl (lv_at hl 1 rfl) ?_
    obtain ⟨v1, hm6, hf⟩ := q_b1_e hf
    refine q_cVr (pc := 6) (As := [.int 0, .int p1]) (rest := []) (v0 := (some (.int v1))) ⟨hx, hb, hml, hown, hts⟩ hK hA hZ hP hD hS hl.1 [2, 3] 11 rfl ⟨rfl, rfl, rfl⟩ (c_Tape_blankFrom l D ci A sa N (Rw) a_tp a_tp_bytes tp_length tp_bytes 0 p1 v1 hm6) 2 rfl rfl (cwV 2 hts gX5_read_X8_blankFrom rfl rfl rfl (by decide +kernel) ⟨Nat.le_of_ble_eq_true rfl, Nat.le_of_ble_eq_true rfl⟩) rfl rfl (Nat.le_of_ble_eq_true rfl) dX5_read_6 ⟨Nat.zero_le _, Nat.zero_le _⟩ (fun locs hS => ?_)
    refine lv_istore_n (pc := 9) (lv' := [(2, .int v1), (0, .ref a_qu), (1, .int p1)]) hx hb dX5_read_9 rfl hl (by decide) rfl (fun ls hl => ?_)
    refine lv_iload_n (pc := 10) hx hb dX5_read_10 rfl (lv_at hl 0 rfl) ?_
    refine lv_iload_n (pc := 11) hx hb dX5_read_11 rfl (lv_at hl 2 rfl) ?_
    refine q_icmp_ne (pc := 12) (tgt := 24) hx hb dX5_read_12 (by decide) rfl hf (fun hf => ?_) (fun hf => ?_)
    · refine lv_aload_n (pc := 24) hx hb dX5_read_24 rfl (lv_at hl 1 rfl) ?_
      refine lv_aload_n (pc := 25) hx hb dX5_read_25 rfl (lv_at hl 1 rfl) ?_
      refine lv_iload_n (pc := 26) hx hb dX5_read_26 rfl (lv_at hl 0 rfl) ?_
      obtain ⟨v2, hm27, hf⟩ := q_b1_e hf
      refine q_cVr (pc := 27) (As := [.int v1]) (rest := [.ref a_qu]) (v0 := (some (.int v2))) ⟨hx, hb, hml, hown, hts⟩ hK hA hZ hP hD hS hl.1 [0, 2, 3] 11 rfl ⟨rfl, rfl, rfl⟩ (c_Question_wordTo l D ci A sa N (Rw) a_qu a_rd a_tp a_tp_bytes qu_word qu_level qu_key qu_otherLevel qu_otherKey tp_length tp_bytes v1 v2 hm27) 0 rfl rfl (cwV 1 hts gX5_read_X5_wordTo rfl rfl rfl (by decide +kernel) ⟨Nat.le_of_ble_eq_true rfl, Nat.le_of_ble_eq_true rfl⟩) rfl rfl (Nat.le_of_ble_eq_true rfl) dX5_read_27 ⟨Nat.zero_le _, Nat.zero_le _⟩ (fun locs hS => ?_)
      refine va_put (pc := 30) (D := D) (ci := 5) (v := .int v2) (ty := .int) (C := RX5) (T := TX5) (N := 7) hx hb hts hinX5 tyX5 tyX5_ok nmX5 hown hK hP hD hS 0 rfl rfl 2 (by decide) w_3 (fun _ h9 => h9) rfl (by decide +kernel) rfl rfl (Nat.le_of_ble_eq_true rfl) dX5_read_30 (fun H locs hP hD hS => ?_)
      obtain ⟨hP, hD⟩ : va_PD D A ((a_qu, .inr (5, [.ref a_rd, .ref a_tp, .int v2, .int qu_level, .int qu_key, .int qu_otherLevel, .int qu_otherKey])) :: (a_rd, .inr (3, [.ref a_g, .ref a_tp, .int rd_next, .int rd_end, .int rd_level, .int rd_key, .int rd_fault, .int rd_faultPlace, .int rd_endedSoon])) :: (a_tp, .inr (8, [.ref a_tp_bytes, .int tp_length])) :: (a_tp_bytes, .inl (ci 0, 200, .inl tp_bytes)) :: (a_g, .inr (2, [.ref a_g_rowCuts, .ref a_g_columnCuts, .ref a_g_bandRows, .ref a_g_zoneColumns, .ref a_g_rows, .ref a_g_sheets])) :: (a_g_rowCuts, .inl (ci 0, 5, .inl g_rowCuts)) :: (a_g_columnCuts, .inl (ci 0, 5, .inl g_columnCuts)) :: (a_g_bandRows, .inl (ci 0, 5, .inl g_bandRows)) :: (a_g_zoneColumns, .inl (ci 0, 5, .inl g_zoneColumns)) :: (a_g_rows, .inl (ci 0, 5, .inl g_rows)) :: (a_g_sheets, .inl (ci 0, 5, .inl g_sheets)) :: Rw) H := ⟨hP, hD⟩
      refine lv_aload_n (pc := 33) hx hb dX5_read_33 rfl (lv_at hl 1 rfl) ?_
      refine va_get (pc := 34) (D := D) (ci := 5) (v := .int v2) (C := RX5) (T := TX5) (N := 7) hx hb hts hinX5 hown hK hP 0 rfl rfl 2 (by decide) w_3 (fun _ h9 => h9) rfl dX5_read_34 ?_
      refine lv_iconst (pc := 37) (v := (-1)) hx hb dX5_read_37 (by decide) ?_
      refine q_icmp_ne (pc := 38) (tgt := 51) hx hb dX5_read_38 (by decide) rfl hf (fun hf => ?_) (fun hf => ?_)
      · refine lv_aload_n (pc := 51) hx hb dX5_read_51 rfl (lv_at hl 1 rfl) ?_
        refine va_get (pc := 52) (D := D) (ci := 5) (v := .int v2) (C := RX5) (T := TX5) (N := 7) hx hb hts hinX5 hown hK hP 0 rfl rfl 2 (by decide) w_3 (fun _ h9 => h9) rfl dX5_read_52 ?_
        refine lv_iconst (pc := 55) (v := 5) hx hb dX5_read_55 (by decide) ?_
        obtain ⟨k73, ek73, hf⟩ := q_j1_e hf
        have J73 : ∀ (v3 : Int32) (H : Heap) (locs : List Loc) (ls : Array Slot), k73 v3 = some (r, o1, o2, o3, o4, o5, o6, o7, o8, o9, o10, o11, o12) → va_P D vwCl ((a_qu, .inr (5, [.ref a_rd, .ref a_tp, .int v2, .int qu_level, .int qu_key, .int qu_otherLevel, .int qu_otherKey])) :: (a_rd, .inr (3, [.ref a_g, .ref a_tp, .int rd_next, .int rd_end, .int rd_level, .int rd_key, .int rd_fault, .int rd_faultPlace, .int rd_endedSoon])) :: (a_tp, .inr (8, [.ref a_tp_bytes, .int tp_length])) :: (a_tp_bytes, .inl (ci 0, 200, .inl tp_bytes)) :: (a_g, .inr (2, [.ref a_g_rowCuts, .ref a_g_columnCuts, .ref a_g_bandRows, .ref a_g_zoneColumns, .ref a_g_rows, .ref a_g_sheets])) :: (a_g_rowCuts, .inl (ci 0, 5, .inl g_rowCuts)) :: (a_g_columnCuts, .inl (ci 0, 5, .inl g_columnCuts)) :: (a_g_bandRows, .inl (ci 0, 5, .inl g_bandRows)) :: (a_g_zoneColumns, .inl (ci 0, 5, .inl g_zoneColumns)) :: (a_g_rows, .inl (ci 0, 5, .inl g_rows)) :: (a_g_sheets, .inl (ci 0, 5, .inl g_sheets)) :: Rw) H → va_D A ((a_qu, .inr (5, [.ref a_rd, .ref a_tp, .int v2, .int qu_level, .int qu_key, .int qu_otherLevel, .int qu_otherKey])) :: (a_rd, .inr (3, [.ref a_g, .ref a_tp, .int rd_next, .int rd_end, .int rd_level, .int rd_key, .int rd_fault, .int rd_faultPlace, .int rd_endedSoon])) :: (a_tp, .inr (8, [.ref a_tp_bytes, .int tp_length])) :: (a_tp_bytes, .inl (ci 0, 200, .inl tp_bytes)) :: (a_g, .inr (2, [.ref a_g_rowCuts, .ref a_g_columnCuts, .ref a_g_bandRows, .ref a_g_zoneColumns, .ref a_g_rows, .ref a_g_sheets])) :: (a_g_rowCuts, .inl (ci 0, 5, .inl g_rowCuts)) :: (a_g_columnCuts, .inl (ci 0, 5, .inl g_columnCuts)) :: (a_g_bandRows, .inl (ci 0, 5, .inl g_bandRows)) :: (a_g_zoneColumns, .inl (ci 0, 5, .inl g_zoneColumns)) :: (a_g_rows, .inl (ci 0, 5, .inl g_rows)) :: (a_g_sheets, .inl (ci 0, 5, .inl g_sheets)) :: Rw) → va_S A s.heap H locs → lv_has ls 5 [(0, .ref a_qu), (1, .int p1), (2, .int v1)] → W p l e ({ frames := 6, cells := 0, slots := 0, locals := 129 } : Room) s m ([.ref a_qu, .int p1] : List Value).toArray below meth c H locs 0 0 Q (F0 m 73 ls [.int v3]) := by
          intro v3 H locs ls hf hP hD hS hl
          have hf := (ek73 v3).symm.trans hf
          refine lv_istore_n (pc := 73) (lv' := [(3, .int v3), (0, .ref a_qu), (1, .int p1), (2, .int v1)]) hx hb dX5_read_73 rfl hl (by decide) rfl (fun ls hl => ?_)
          refine lv_iload_n (pc := 74) hx hb dX5_read_74 rfl (lv_at hl 0 rfl) ?_
          obtain ⟨k93, ek93, hf⟩ := q_j1_e hf
          have J93 : ∀ (v4 : Int32) (H : Heap) (locs : List Loc) (ls : Array Slot), k93 v4 = some (r, o1, o2, o3, o4, o5, o6, o7, o8, o9, o10, o11, o12) → va_P D vwCl ((a_qu, .inr (5, [.ref a_rd, .ref a_tp, .int v2, .int qu_level, .int qu_key, .int qu_otherLevel, .int qu_otherKey])) :: (a_rd, .inr (3, [.ref a_g, .ref a_tp, .int rd_next, .int rd_end, .int rd_level, .int rd_key, .int rd_fault, .int rd_faultPlace, .int rd_endedSoon])) :: (a_tp, .inr (8, [.ref a_tp_bytes, .int tp_length])) :: (a_tp_bytes, .inl (ci 0, 200, .inl tp_bytes)) :: (a_g, .inr (2, [.ref a_g_rowCuts, .ref a_g_columnCuts, .ref a_g_bandRows, .ref a_g_zoneColumns, .ref a_g_rows, .ref a_g_sheets])) :: (a_g_rowCuts, .inl (ci 0, 5, .inl g_rowCuts)) :: (a_g_columnCuts, .inl (ci 0, 5, .inl g_columnCuts)) :: (a_g_bandRows, .inl (ci 0, 5, .inl g_bandRows)) :: (a_g_zoneColumns, .inl (ci 0, 5, .inl g_zoneColumns)) :: (a_g_rows, .inl (ci 0, 5, .inl g_rows)) :: (a_g_sheets, .inl (ci 0, 5, .inl g_sheets)) :: Rw) H → va_D A ((a_qu, .inr (5, [.ref a_rd, .ref a_tp, .int v2, .int qu_level, .int qu_key, .int qu_otherLevel, .int qu_otherKey])) :: (a_rd, .inr (3, [.ref a_g, .ref a_tp, .int rd_next, .int rd_end, .int rd_level, .int rd_key, .int rd_fault, .int rd_faultPlace, .int rd_endedSoon])) :: (a_tp, .inr (8, [.ref a_tp_bytes, .int tp_length])) :: (a_tp_bytes, .inl (ci 0, 200, .inl tp_bytes)) :: (a_g, .inr (2, [.ref a_g_rowCuts, .ref a_g_columnCuts, .ref a_g_bandRows, .ref a_g_zoneColumns, .ref a_g_rows, .ref a_g_sheets])) :: (a_g_rowCuts, .inl (ci 0, 5, .inl g_rowCuts)) :: (a_g_columnCuts, .inl (ci 0, 5, .inl g_columnCuts)) :: (a_g_bandRows, .inl (ci 0, 5, .inl g_bandRows)) :: (a_g_zoneColumns, .inl (ci 0, 5, .inl g_zoneColumns)) :: (a_g_rows, .inl (ci 0, 5, .inl g_rows)) :: (a_g_sheets, .inl (ci 0, 5, .inl g_sheets)) :: Rw) → va_S A s.heap H locs → lv_has ls 5 [(0, .ref a_qu), (1, .int p1), (2, .int v1), (3, .int v3)] → W p l e ({ frames := 6, cells := 0, slots := 0, locals := 129 } : Room) s m ([.ref a_qu, .int p1] : List Value).toArray below meth c H locs 0 0 Q (F0 m 93 ls [.int v4]) := by
            intro v4 H locs ls hf hP hD hS hl
            have hf := (ek93 v4).symm.trans hf
            refine lv_istore (pc := 93) (lv' := [(4, .int v4), (0, .ref a_qu), (1, .int p1), (2, .int v1), (3, .int v3)]) hx hb dX5_read_93 hl (by decide) rfl (fun ls hl => ?_)
            refine lv_aload_n (pc := 95) hx hb dX5_read_95 rfl (lv_at hl 1 rfl) ?_
            refine va_get (pc := 96) (D := D) (ci := 5) (v := .ref a_rd) (C := RX5) (T := TX5) (N := 7) hx hb hts hinX5 hown hK hP 0 rfl rfl 0 (by decide) w_2 (fun _ h9 => h9) rfl dX5_read_96 ?_
            refine lv_iload_n (pc := 99) hx hb dX5_read_99 rfl (lv_at hl 3 rfl) ?_
            refine lv_iconst (pc := 100) (v := 1) hx hb dX5_read_100 (by decide) ?_
            refine lv_iadd (pc := 101) hx hb dX5_read_101 ?_
            refine lv_iload (pc := 102) hx hb dX5_read_102 (lv_at hl 0 rfl) ?_
            obtain ⟨v5, v6, v7, v8, v9, v10, v11, v12, hm104, hf⟩ := q_b8_e hf
            refine q_cV (pc := 104) (As := [.int (v1 + 1), .int v4]) (rest := []) (v0 := (some (.int v5))) ⟨hx, hb, hml, hown, hts⟩ hK hA hZ hP hD hS hl.1 [1, 2, 3, 4, 5, 6, 7, 8, 9, 10, 0] 11 rfl ⟨rfl, rfl, rfl⟩ (c_NameReader_read l D ci A sa N ((a_qu, .inr (5, [.ref a_rd, .ref a_tp, .int v2, .int qu_level, .int qu_key, .int qu_otherLevel, .int qu_otherKey])) :: Rw) a_rd a_g a_tp a_tp_bytes a_g_rowCuts a_g_columnCuts a_g_bandRows a_g_zoneColumns a_g_rows a_g_sheets rd_next rd_end rd_level rd_key rd_fault rd_faultPlace rd_endedSoon tp_length tp_bytes g_rowCuts g_columnCuts g_bandRows g_zoneColumns g_rows g_sheets (v1 + 1) v4 v5 v6 v7 v8 v9 v10 v11 v12 hm104) 1 rfl rfl (cwV 2 hts gX5_read_X3_read rfl rfl rfl (by decide +kernel) ⟨Nat.le_of_ble_eq_true rfl, Nat.le_of_ble_eq_true rfl⟩) rfl rfl (Nat.le_of_ble_eq_true rfl) dX5_read_104 ⟨Nat.zero_le _, Nat.zero_le _⟩ [10, 0, 1, 2, 3, 4, 5, 6, 7, 8, 9] 11 rfl ⟨rfl, rfl, rfl⟩ (fun H locs hP hD hS => ?_)
            obtain ⟨hP, hD⟩ : va_PD D A ((a_qu, .inr (5, [.ref a_rd, .ref a_tp, .int v2, .int qu_level, .int qu_key, .int qu_otherLevel, .int qu_otherKey])) :: (a_rd, .inr (3, [.ref a_g, .ref a_tp, .int v6, .int v7, .int v8, .int v9, .int v10, .int v11, .int v12])) :: (a_tp, .inr (8, [.ref a_tp_bytes, .int tp_length])) :: (a_tp_bytes, .inl (ci 0, 200, .inl tp_bytes)) :: (a_g, .inr (2, [.ref a_g_rowCuts, .ref a_g_columnCuts, .ref a_g_bandRows, .ref a_g_zoneColumns, .ref a_g_rows, .ref a_g_sheets])) :: (a_g_rowCuts, .inl (ci 0, 5, .inl g_rowCuts)) :: (a_g_columnCuts, .inl (ci 0, 5, .inl g_columnCuts)) :: (a_g_bandRows, .inl (ci 0, 5, .inl g_bandRows)) :: (a_g_zoneColumns, .inl (ci 0, 5, .inl g_zoneColumns)) :: (a_g_rows, .inl (ci 0, 5, .inl g_rows)) :: (a_g_sheets, .inl (ci 0, 5, .inl g_sheets)) :: Rw) H := ⟨hP, hD⟩
            refine q_if_ne (pc := 107) (tgt := 112) hx hb dX5_read_107 (by decide) rfl hf (fun hf => ?_) (fun hf => ?_)
            · refine lv_aload_n (pc := 112) hx hb dX5_read_112 rfl (lv_at hl 1 rfl) ?_
              refine lv_aload_n (pc := 113) hx hb dX5_read_113 rfl (lv_at hl 1 rfl) ?_
              refine va_get (pc := 114) (D := D) (ci := 5) (v := .ref a_rd) (C := RX5) (T := TX5) (N := 7) hx hb hts hinX5 hown hK hP 0 rfl rfl 0 (by decide) w_2 (fun _ h9 => h9) rfl dX5_read_114 ?_
              refine va_getN (pc := 117) (D := D) (ci := 3) (v := .int v8) (C := RX3) (T := TX3) (N := 9) hx hb hts hinX3 hown hK hP 1 rfl rfl 4 (by decide) wn_53 (fun _ h9 => h9) rfl dX5_read_117 ?_
              refine va_put (pc := 120) (D := D) (ci := 5) (v := .int v8) (ty := .int) (C := RX5) (T := TX5) (N := 7) hx hb hts hinX5 tyX5 tyX5_ok nmX5 hown hK hP hD hS 0 rfl rfl 3 (by decide) w_4 (fun _ h9 => h9) rfl (by decide +kernel) rfl rfl (Nat.le_of_ble_eq_true rfl) dX5_read_120 (fun H locs hP hD hS => ?_)
              obtain ⟨hP, hD⟩ : va_PD D A ((a_qu, .inr (5, [.ref a_rd, .ref a_tp, .int v2, .int v8, .int qu_key, .int qu_otherLevel, .int qu_otherKey])) :: (a_rd, .inr (3, [.ref a_g, .ref a_tp, .int v6, .int v7, .int v8, .int v9, .int v10, .int v11, .int v12])) :: (a_tp, .inr (8, [.ref a_tp_bytes, .int tp_length])) :: (a_tp_bytes, .inl (ci 0, 200, .inl tp_bytes)) :: (a_g, .inr (2, [.ref a_g_rowCuts, .ref a_g_columnCuts, .ref a_g_bandRows, .ref a_g_zoneColumns, .ref a_g_rows, .ref a_g_sheets])) :: (a_g_rowCuts, .inl (ci 0, 5, .inl g_rowCuts)) :: (a_g_columnCuts, .inl (ci 0, 5, .inl g_columnCuts)) :: (a_g_bandRows, .inl (ci 0, 5, .inl g_bandRows)) :: (a_g_zoneColumns, .inl (ci 0, 5, .inl g_zoneColumns)) :: (a_g_rows, .inl (ci 0, 5, .inl g_rows)) :: (a_g_sheets, .inl (ci 0, 5, .inl g_sheets)) :: Rw) H := ⟨hP, hD⟩
              refine lv_aload_n (pc := 123) hx hb dX5_read_123 rfl (lv_at hl 1 rfl) ?_
              refine lv_aload_n (pc := 124) hx hb dX5_read_124 rfl (lv_at hl 1 rfl) ?_
              refine va_get (pc := 125) (D := D) (ci := 5) (v := .ref a_rd) (C := RX5) (T := TX5) (N := 7) hx hb hts hinX5 hown hK hP 0 rfl rfl 0 (by decide) w_2 (fun _ h9 => h9) rfl dX5_read_125 ?_
              refine va_getN (pc := 128) (D := D) (ci := 3) (v := .int v9) (C := RX3) (T := TX3) (N := 9) hx hb hts hinX3 hown hK hP 1 rfl rfl 5 (by decide) wn_54 (fun _ h9 => h9) rfl dX5_read_128 ?_
              refine va_put (pc := 131) (D := D) (ci := 5) (v := .int v9) (ty := .int) (C := RX5) (T := TX5) (N := 7) hx hb hts hinX5 tyX5 tyX5_ok nmX5 hown hK hP hD hS 0 rfl rfl 4 (by decide) w_5 (fun _ h9 => h9) rfl (by decide +kernel) rfl rfl (Nat.le_of_ble_eq_true rfl) dX5_read_131 (fun H locs hP hD hS => ?_)
              obtain ⟨hP, hD⟩ : va_PD D A ((a_qu, .inr (5, [.ref a_rd, .ref a_tp, .int v2, .int v8, .int v9, .int qu_otherLevel, .int qu_otherKey])) :: (a_rd, .inr (3, [.ref a_g, .ref a_tp, .int v6, .int v7, .int v8, .int v9, .int v10, .int v11, .int v12])) :: (a_tp, .inr (8, [.ref a_tp_bytes, .int tp_length])) :: (a_tp_bytes, .inl (ci 0, 200, .inl tp_bytes)) :: (a_g, .inr (2, [.ref a_g_rowCuts, .ref a_g_columnCuts, .ref a_g_bandRows, .ref a_g_zoneColumns, .ref a_g_rows, .ref a_g_sheets])) :: (a_g_rowCuts, .inl (ci 0, 5, .inl g_rowCuts)) :: (a_g_columnCuts, .inl (ci 0, 5, .inl g_columnCuts)) :: (a_g_bandRows, .inl (ci 0, 5, .inl g_bandRows)) :: (a_g_zoneColumns, .inl (ci 0, 5, .inl g_zoneColumns)) :: (a_g_rows, .inl (ci 0, 5, .inl g_rows)) :: (a_g_sheets, .inl (ci 0, 5, .inl g_sheets)) :: Rw) H := ⟨hP, hD⟩
              refine lv_iload_n (pc := 134) hx hb dX5_read_134 rfl (lv_at hl 4 rfl) ?_
              obtain ⟨k150, ek150, hf⟩ := q_j9_e hf
              have J150 : ∀ (v13 : Int32) (v14 : Int32) (v15 : Int32) (v16 : Int32) (v17 : Int32) (v18 : Int32) (v19 : Int32) (v20 : Int32) (v21 : Int32) (H : Heap) (locs : List Loc) (ls : Array Slot), k150 v13 v14 v15 v16 v17 v18 v19 v20 v21 = some (r, o1, o2, o3, o4, o5, o6, o7, o8, o9, o10, o11, o12) → va_P D vwCl ((a_qu, .inr (5, [.ref a_rd, .ref a_tp, .int v2, .int v8, .int v9, .int v13, .int v14])) :: (a_rd, .inr (3, [.ref a_g, .ref a_tp, .int v15, .int v16, .int v17, .int v18, .int v19, .int v20, .int v21])) :: (a_tp, .inr (8, [.ref a_tp_bytes, .int tp_length])) :: (a_tp_bytes, .inl (ci 0, 200, .inl tp_bytes)) :: (a_g, .inr (2, [.ref a_g_rowCuts, .ref a_g_columnCuts, .ref a_g_bandRows, .ref a_g_zoneColumns, .ref a_g_rows, .ref a_g_sheets])) :: (a_g_rowCuts, .inl (ci 0, 5, .inl g_rowCuts)) :: (a_g_columnCuts, .inl (ci 0, 5, .inl g_columnCuts)) :: (a_g_bandRows, .inl (ci 0, 5, .inl g_bandRows)) :: (a_g_zoneColumns, .inl (ci 0, 5, .inl g_zoneColumns)) :: (a_g_rows, .inl (ci 0, 5, .inl g_rows)) :: (a_g_sheets, .inl (ci 0, 5, .inl g_sheets)) :: Rw) H → va_D A ((a_qu, .inr (5, [.ref a_rd, .ref a_tp, .int v2, .int v8, .int v9, .int v13, .int v14])) :: (a_rd, .inr (3, [.ref a_g, .ref a_tp, .int v15, .int v16, .int v17, .int v18, .int v19, .int v20, .int v21])) :: (a_tp, .inr (8, [.ref a_tp_bytes, .int tp_length])) :: (a_tp_bytes, .inl (ci 0, 200, .inl tp_bytes)) :: (a_g, .inr (2, [.ref a_g_rowCuts, .ref a_g_columnCuts, .ref a_g_bandRows, .ref a_g_zoneColumns, .ref a_g_rows, .ref a_g_sheets])) :: (a_g_rowCuts, .inl (ci 0, 5, .inl g_rowCuts)) :: (a_g_columnCuts, .inl (ci 0, 5, .inl g_columnCuts)) :: (a_g_bandRows, .inl (ci 0, 5, .inl g_bandRows)) :: (a_g_zoneColumns, .inl (ci 0, 5, .inl g_zoneColumns)) :: (a_g_rows, .inl (ci 0, 5, .inl g_rows)) :: (a_g_sheets, .inl (ci 0, 5, .inl g_sheets)) :: Rw) → va_S A s.heap H locs → lv_has ls 5 [] → W p l e ({ frames := 6, cells := 0, slots := 0, locals := 129 } : Room) s m ([.ref a_qu, .int p1] : List Value).toArray below meth c H locs 0 0 Q (F0 m 150 ls []) := by
                intro v13 v14 v15 v16 v17 v18 v19 v20 v21 H locs ls hf hP hD hS hl
                have hf := (ek150 v13 v14 v15 v16 v17 v18 v19 v20 v21).symm.trans hf
                refine lv_iconst (pc := 150) (v := 1) hx hb dX5_read_150 (by decide) ?_
                refine lv_goto (pc := 151) (tgt := 155) hx hb dX5_read_151 (by decide) ?_
                obtain ⟨e90, e91, e92, e93, e94, e95, e96, e97, e98, e99, e910, e911, e912⟩ := q_inj13 (Option.some.inj hf)
                rw [hQ, ← e90, ← e91, ← e92, ← e93, ← e94, ← e95, ← e96, ← e97, ← e98, ← e99, ← e910, ← e911, ← e912]
                exact q_zret (pc := 155) hx hb hr rfl hlocks hP hD hS dX5_read_155
              refine q_if_eq (pc := 135) (tgt := 150) hx hb dX5_read_135 (by decide) rfl hf (fun hf => ?_) (fun hf => ?_)
              · exact J150 qu_otherLevel qu_otherKey v6 v7 v8 v9 v10 v11 v12 _ _ _ hf hP hD hS (lv_sub hl [] rfl)
              · refine lv_aload_n (pc := 138) hx hb dX5_read_138 rfl (lv_at hl 1 rfl) ?_
                refine lv_iload (pc := 139) hx hb dX5_read_139 (lv_at hl 0 rfl) ?_
                refine lv_iconst (pc := 141) (v := 1) hx hb dX5_read_141 (by decide) ?_
                refine lv_iadd (pc := 142) hx hb dX5_read_142 ?_
                refine lv_iload_n (pc := 143) hx hb dX5_read_143 rfl (lv_at hl 2 rfl) ?_
                obtain ⟨v22, v23, v24, v25, v26, v27, v28, v29, v30, v31, hm144, hf⟩ := q_b10_e hf
                refine q_cV (pc := 144) (As := [.int (v4 + 1), .int p1]) (rest := []) (v0 := (some (.int v22))) ⟨hx, hb, hml, hown, hts⟩ hK hA hZ hP hD hS hl.1 [0, 1, 2, 3, 4, 5, 6, 7, 8, 9, 10] 11 rfl ⟨rfl, rfl, rfl⟩ (c_Question_readOther l D ci A sa N (Rw) a_qu a_rd a_tp a_g a_tp_bytes a_g_rowCuts a_g_columnCuts a_g_bandRows a_g_zoneColumns a_g_rows a_g_sheets v2 v8 v9 qu_otherLevel qu_otherKey v6 v7 v8 v9 v10 v11 v12 tp_length tp_bytes g_rowCuts g_columnCuts g_bandRows g_zoneColumns g_rows g_sheets (v4 + 1) p1 v22 v23 v24 v25 v26 v27 v28 v29 v30 v31 hm144) 0 rfl rfl (cwV 2 hts gX5_read_X5_readOther rfl rfl rfl (by decide +kernel) ⟨Nat.le_of_ble_eq_true rfl, Nat.le_of_ble_eq_true rfl⟩) rfl rfl (Nat.le_of_ble_eq_true rfl) dX5_read_144 ⟨Nat.zero_le _, Nat.zero_le _⟩ [0, 1, 2, 3, 4, 5, 6, 7, 8, 9, 10] 11 rfl ⟨rfl, rfl, rfl⟩ (fun H locs hP hD hS => ?_)
                obtain ⟨hP, hD⟩ : va_PD D A ((a_qu, .inr (5, [.ref a_rd, .ref a_tp, .int v2, .int v8, .int v9, .int v23, .int v24])) :: (a_rd, .inr (3, [.ref a_g, .ref a_tp, .int v25, .int v26, .int v27, .int v28, .int v29, .int v30, .int v31])) :: (a_tp, .inr (8, [.ref a_tp_bytes, .int tp_length])) :: (a_tp_bytes, .inl (ci 0, 200, .inl tp_bytes)) :: (a_g, .inr (2, [.ref a_g_rowCuts, .ref a_g_columnCuts, .ref a_g_bandRows, .ref a_g_zoneColumns, .ref a_g_rows, .ref a_g_sheets])) :: (a_g_rowCuts, .inl (ci 0, 5, .inl g_rowCuts)) :: (a_g_columnCuts, .inl (ci 0, 5, .inl g_columnCuts)) :: (a_g_bandRows, .inl (ci 0, 5, .inl g_bandRows)) :: (a_g_zoneColumns, .inl (ci 0, 5, .inl g_zoneColumns)) :: (a_g_rows, .inl (ci 0, 5, .inl g_rows)) :: (a_g_sheets, .inl (ci 0, 5, .inl g_sheets)) :: Rw) H := ⟨hP, hD⟩
                refine q_if_eq (pc := 147) (tgt := 154) hx hb dX5_read_147 (by decide) rfl hf (fun hf => ?_) (fun hf => ?_)
                · refine lv_iconst (pc := 154) (v := 0) hx hb dX5_read_154 (by decide) ?_
                  obtain ⟨e90, e91, e92, e93, e94, e95, e96, e97, e98, e99, e910, e911, e912⟩ := q_inj13 (Option.some.inj hf)
                  rw [hQ, ← e90, ← e91, ← e92, ← e93, ← e94, ← e95, ← e96, ← e97, ← e98, ← e99, ← e910, ← e911, ← e912]
                  exact q_zret (pc := 155) hx hb hr rfl hlocks hP hD hS dX5_read_155
                · exact J150 v23 v24 v25 v26 v27 v28 v29 v30 v31 _ _ _ hf hP hD hS (lv_sub hl [] rfl)
            · refine lv_iconst (pc := 110) (v := 0) hx hb dX5_read_110 (by decide) ?_
              obtain ⟨e90, e91, e92, e93, e94, e95, e96, e97, e98, e99, e910, e911, e912⟩ := q_inj13 (Option.some.inj hf)
              rw [hQ, ← e90, ← e91, ← e92, ← e93, ← e94, ← e95, ← e96, ← e97, ← e98, ← e99, ← e910, ← e911, ← e912]
              exact q_zret (pc := 111) hx hb hr rfl hlocks hP hD hS dX5_read_111
          refine q_if_eq (pc := 75) (tgt := 92) hx hb dX5_read_75 (by decide) rfl hf (fun hf => ?_) (fun hf => ?_)
          · refine lv_iload_n (pc := 92) hx hb dX5_read_92 rfl (lv_at hl 2 rfl) ?_
            exact J93 p1 _ _ _ hf hP hD hS (lv_sub hl [1, 2, 3, 0] rfl)
          · refine lv_aload_n (pc := 78) hx hb dX5_read_78 rfl (lv_at hl 1 rfl) ?_
            refine va_get (pc := 79) (D := D) (ci := 5) (v := .ref a_tp) (C := RX5) (T := TX5) (N := 7) hx hb hts hinX5 hown hK hP 0 rfl rfl 1 (by decide) w_1 (fun _ h9 => h9) rfl dX5_read_79 ?_
            refine lv_iload_n (pc := 82) hx hb dX5_read_82 rfl (lv_at hl 3 rfl) ?_
            refine lv_iconst (pc := 83) (v := 1) hx hb dX5_read_83 (by decide) ?_
            refine lv_iadd (pc := 84) hx hb dX5_read_84 ?_
            refine lv_iload_n (pc := 85) hx hb dX5_read_85 rfl (lv_at hl 2 rfl) ?_
            obtain ⟨v32, hm86, hf⟩ := q_b1_e hf
            refine q_cVr (pc := 86) (As := [.int (v1 + 1), .int p1]) (rest := []) (v0 := (some (.int v32))) ⟨hx, hb, hml, hown, hts⟩ hK hA hZ hP hD hS hl.1 [2, 3] 11 rfl ⟨rfl, rfl, rfl⟩ (c_Tape_blankFrom l D ci A sa N (Rw) a_tp a_tp_bytes tp_length tp_bytes (v1 + 1) p1 v32 hm86) 2 rfl rfl (cwV 2 hts gX5_read_X8_blankFrom rfl rfl rfl (by decide +kernel) ⟨Nat.le_of_ble_eq_true rfl, Nat.le_of_ble_eq_true rfl⟩) rfl rfl (Nat.le_of_ble_eq_true rfl) dX5_read_86 ⟨Nat.zero_le _, Nat.zero_le _⟩ (fun locs hS => ?_)
            refine lv_goto (pc := 89) (tgt := 93) hx hb dX5_read_89 (by decide) ?_
            exact J93 v32 _ _ _ hf hP hD hS (lv_sub hl [1, 2, 3, 0] rfl)
        obtain ⟨k68, ek68, hf⟩ := q_j0_e hf
        have J68 : ∀  (H : Heap) (locs : List Loc) (ls : Array Slot), k68 = some (r, o1, o2, o3, o4, o5, o6, o7, o8, o9, o10, o11, o12) → va_P D vwCl ((a_qu, .inr (5, [.ref a_rd, .ref a_tp, .int v2, .int qu_level, .int qu_key, .int qu_otherLevel, .int qu_otherKey])) :: (a_rd, .inr (3, [.ref a_g, .ref a_tp, .int rd_next, .int rd_end, .int rd_level, .int rd_key, .int rd_fault, .int rd_faultPlace, .int rd_endedSoon])) :: (a_tp, .inr (8, [.ref a_tp_bytes, .int tp_length])) :: (a_tp_bytes, .inl (ci 0, 200, .inl tp_bytes)) :: (a_g, .inr (2, [.ref a_g_rowCuts, .ref a_g_columnCuts, .ref a_g_bandRows, .ref a_g_zoneColumns, .ref a_g_rows, .ref a_g_sheets])) :: (a_g_rowCuts, .inl (ci 0, 5, .inl g_rowCuts)) :: (a_g_columnCuts, .inl (ci 0, 5, .inl g_columnCuts)) :: (a_g_bandRows, .inl (ci 0, 5, .inl g_bandRows)) :: (a_g_zoneColumns, .inl (ci 0, 5, .inl g_zoneColumns)) :: (a_g_rows, .inl (ci 0, 5, .inl g_rows)) :: (a_g_sheets, .inl (ci 0, 5, .inl g_sheets)) :: Rw) H → va_D A ((a_qu, .inr (5, [.ref a_rd, .ref a_tp, .int v2, .int qu_level, .int qu_key, .int qu_otherLevel, .int qu_otherKey])) :: (a_rd, .inr (3, [.ref a_g, .ref a_tp, .int rd_next, .int rd_end, .int rd_level, .int rd_key, .int rd_fault, .int rd_faultPlace, .int rd_endedSoon])) :: (a_tp, .inr (8, [.ref a_tp_bytes, .int tp_length])) :: (a_tp_bytes, .inl (ci 0, 200, .inl tp_bytes)) :: (a_g, .inr (2, [.ref a_g_rowCuts, .ref a_g_columnCuts, .ref a_g_bandRows, .ref a_g_zoneColumns, .ref a_g_rows, .ref a_g_sheets])) :: (a_g_rowCuts, .inl (ci 0, 5, .inl g_rowCuts)) :: (a_g_columnCuts, .inl (ci 0, 5, .inl g_columnCuts)) :: (a_g_bandRows, .inl (ci 0, 5, .inl g_bandRows)) :: (a_g_zoneColumns, .inl (ci 0, 5, .inl g_zoneColumns)) :: (a_g_rows, .inl (ci 0, 5, .inl g_rows)) :: (a_g_sheets, .inl (ci 0, 5, .inl g_sheets)) :: Rw) → va_S A s.heap H locs → lv_has ls 5 [(0, .ref a_qu), (1, .int p1), (2, .int v1)] → W p l e ({ frames := 6, cells := 0, slots := 0, locals := 129 } : Room) s m ([.ref a_qu, .int p1] : List Value).toArray below meth c H locs 0 0 Q (F0 m 68 ls []) := by
          intro  H locs ls hf hP hD hS hl
          have hf := (ek68).symm.trans hf
          refine lv_iconst (pc := 68) (v := 1) hx hb dX5_read_68 (by decide) ?_
          refine lv_goto (pc := 69) (tgt := 73) hx hb dX5_read_69 (by decide) ?_
          exact J73 1 _ _ _ hf hP hD hS (lv_sub hl [0, 1, 2] rfl)
        refine q_icmp_eq (pc := 56) (tgt := 68) hx hb dX5_read_56 (by decide) rfl hf (fun hf => ?_) (fun hf => ?_)
        · exact J68  _ _ _ hf hP hD hS (lv_sub hl [1, 2, 0] rfl)
        · refine lv_aload_n (pc := 59) hx hb dX5_read_59 rfl (lv_at hl 1 rfl) ?_
          refine va_get (pc := 60) (D := D) (ci := 5) (v := .int v2) (C := RX5) (T := TX5) (N := 7) hx hb hts hinX5 hown hK hP 0 rfl rfl 2 (by decide) w_3 (fun _ h9 => h9) rfl dX5_read_60 ?_
          refine lv_bipush (pc := 63) (v := 6) hx hb dX5_read_63 (by decide) ?_
          refine q_icmp_ne (pc := 65) (tgt := 72) hx hb dX5_read_65 (by decide) rfl hf (fun hf => ?_) (fun hf => ?_)
          · refine lv_iconst (pc := 72) (v := 0) hx hb dX5_read_72 (by decide) ?_
            exact J73 0 _ _ _ hf hP hD hS (lv_sub hl [1, 2, 0] rfl)
          · exact J68  _ _ _ hf hP hD hS (lv_sub hl [1, 2, 0] rfl)
      · refine lv_aload_n (pc := 41) hx hb dX5_read_41 rfl (lv_at hl 1 rfl) ?_
        refine va_get (pc := 42) (D := D) (ci := 5) (v := .ref a_rd) (C := RX5) (T := TX5) (N := 7) hx hb hts hinX5 hown hK hP 0 rfl rfl 0 (by decide) w_2 (fun _ h9 => h9) rfl dX5_read_42 ?_
        refine lv_iconst (pc := 45) (v := 1) hx hb dX5_read_45 (by decide) ?_
        refine lv_iconst (pc := 46) (v := 0) hx hb dX5_read_46 (by decide) ?_
        obtain ⟨v33, v34, v35, v36, hm47, hf⟩ := q_b4_e hf
        refine q_cV (pc := 47) (As := [.int 1, .int 0]) (rest := []) (v0 := (some (.int v33))) ⟨hx, hb, hml, hown, hts⟩ hK hA hZ hP hD hS hl.1 [1, 0, 2, 3, 4, 5, 6, 7, 8, 9, 10] 11 rfl ⟨rfl, rfl, rfl⟩ (c_NameReader_fail l D ci A sa N ((a_qu, .inr (5, [.ref a_rd, .ref a_tp, .int v2, .int qu_level, .int qu_key, .int qu_otherLevel, .int qu_otherKey])) :: (a_tp, .inr (8, [.ref a_tp_bytes, .int tp_length])) :: (a_tp_bytes, .inl (ci 0, 200, .inl tp_bytes)) :: (a_g, .inr (2, [.ref a_g_rowCuts, .ref a_g_columnCuts, .ref a_g_bandRows, .ref a_g_zoneColumns, .ref a_g_rows, .ref a_g_sheets])) :: (a_g_rowCuts, .inl (ci 0, 5, .inl g_rowCuts)) :: (a_g_columnCuts, .inl (ci 0, 5, .inl g_columnCuts)) :: (a_g_bandRows, .inl (ci 0, 5, .inl g_bandRows)) :: (a_g_zoneColumns, .inl (ci 0, 5, .inl g_zoneColumns)) :: (a_g_rows, .inl (ci 0, 5, .inl g_rows)) :: (a_g_sheets, .inl (ci 0, 5, .inl g_sheets)) :: Rw) a_rd a_g a_tp rd_next rd_end rd_level rd_key rd_fault rd_faultPlace rd_endedSoon 1 0 v33 v34 v35 v36 hm47) 1 rfl rfl (cwV 2 hts gX5_read_X3_fail rfl rfl rfl (by decide +kernel) ⟨Nat.le_of_ble_eq_true rfl, Nat.le_of_ble_eq_true rfl⟩) rfl rfl (Nat.le_of_ble_eq_true rfl) dX5_read_47 ⟨Nat.zero_le _, Nat.zero_le _⟩ [1, 0, 2, 3, 4, 5, 6, 7, 8, 9, 10] 11 rfl ⟨rfl, rfl, rfl⟩ (fun H locs hP hD hS => ?_)
        obtain ⟨hP, hD⟩ : va_PD D A ((a_qu, .inr (5, [.ref a_rd, .ref a_tp, .int v2, .int qu_level, .int qu_key, .int qu_otherLevel, .int qu_otherKey])) :: (a_rd, .inr (3, [.ref a_g, .ref a_tp, .int rd_next, .int rd_end, .int rd_level, .int rd_key, .int v34, .int v35, .int v36])) :: (a_tp, .inr (8, [.ref a_tp_bytes, .int tp_length])) :: (a_tp_bytes, .inl (ci 0, 200, .inl tp_bytes)) :: (a_g, .inr (2, [.ref a_g_rowCuts, .ref a_g_columnCuts, .ref a_g_bandRows, .ref a_g_zoneColumns, .ref a_g_rows, .ref a_g_sheets])) :: (a_g_rowCuts, .inl (ci 0, 5, .inl g_rowCuts)) :: (a_g_columnCuts, .inl (ci 0, 5, .inl g_columnCuts)) :: (a_g_bandRows, .inl (ci 0, 5, .inl g_bandRows)) :: (a_g_zoneColumns, .inl (ci 0, 5, .inl g_zoneColumns)) :: (a_g_rows, .inl (ci 0, 5, .inl g_rows)) :: (a_g_sheets, .inl (ci 0, 5, .inl g_sheets)) :: Rw) H := ⟨hP, hD⟩
        obtain ⟨hn9, hf9, hf⟩ := q_bo_e hf
        obtain ⟨e90, e91, e92, e93, e94, e95, e96, e97, e98, e99, e910, e911, e912⟩ := q_inj13 (Option.some.inj hf)
        rw [hQ, ← e90, ← e91, ← e92, ← e93, ← e94, ← e95, ← e96, ← e97, ← e98, ← e99, ← e910, ← e911, ← e912]
        exact q_zret (pc := 50) hx hb hr hn9 hlocks hP hD hS dX5_read_50
    · refine lv_aload_n (pc := 15) hx hb dX5_read_15 rfl (lv_at hl 1 rfl) ?_
      refine va_get (pc := 16) (D := D) (ci := 5) (v := .ref a_rd) (C := RX5) (T := TX5) (N := 7) hx hb hts hinX5 hown hK hP 0 rfl rfl 0 (by decide) w_2 (fun _ h9 => h9) rfl dX5_read_16 ?_
      refine lv_iload_n (pc := 19) hx hb dX5_read_19 rfl (lv_at hl 2 rfl) ?_
      obtain ⟨v37, v38, v39, v40, hm20, hf⟩ := q_b4_e hf
      refine q_cV (pc := 20) (As := [.int p1]) (rest := []) (v0 := (some (.int v37))) ⟨hx, hb, hml, hown, hts⟩ hK hA hZ hP hD hS hl.1 [1, 0, 2, 3, 4, 5, 6, 7, 8, 9, 10] 11 rfl ⟨rfl, rfl, rfl⟩ (c_NameReader_failWithoutBlank l D ci A sa N ((a_qu, .inr (5, [.ref a_rd, .ref a_tp, .int qu_word, .int qu_level, .int qu_key, .int qu_otherLevel, .int qu_otherKey])) :: (a_tp, .inr (8, [.ref a_tp_bytes, .int tp_length])) :: (a_tp_bytes, .inl (ci 0, 200, .inl tp_bytes)) :: (a_g, .inr (2, [.ref a_g_rowCuts, .ref a_g_columnCuts, .ref a_g_bandRows, .ref a_g_zoneColumns, .ref a_g_rows, .ref a_g_sheets])) :: (a_g_rowCuts, .inl (ci 0, 5, .inl g_rowCuts)) :: (a_g_columnCuts, .inl (ci 0, 5, .inl g_columnCuts)) :: (a_g_bandRows, .inl (ci 0, 5, .inl g_bandRows)) :: (a_g_zoneColumns, .inl (ci 0, 5, .inl g_zoneColumns)) :: (a_g_rows, .inl (ci 0, 5, .inl g_rows)) :: (a_g_sheets, .inl (ci 0, 5, .inl g_sheets)) :: Rw) a_rd a_g a_tp rd_next rd_end rd_level rd_key rd_fault rd_faultPlace rd_endedSoon p1 v37 v38 v39 v40 hm20) 1 rfl rfl (cwV 1 hts gX5_read_X3_failWithoutBlank rfl rfl rfl (by decide +kernel) ⟨Nat.le_of_ble_eq_true rfl, Nat.le_of_ble_eq_true rfl⟩) rfl rfl (Nat.le_of_ble_eq_true rfl) dX5_read_20 ⟨Nat.zero_le _, Nat.zero_le _⟩ [1, 0, 2, 3, 4, 5, 6, 7, 8, 9, 10] 11 rfl ⟨rfl, rfl, rfl⟩ (fun H locs hP hD hS => ?_)
      obtain ⟨hP, hD⟩ : va_PD D A ((a_qu, .inr (5, [.ref a_rd, .ref a_tp, .int qu_word, .int qu_level, .int qu_key, .int qu_otherLevel, .int qu_otherKey])) :: (a_rd, .inr (3, [.ref a_g, .ref a_tp, .int rd_next, .int rd_end, .int rd_level, .int rd_key, .int v38, .int v39, .int v40])) :: (a_tp, .inr (8, [.ref a_tp_bytes, .int tp_length])) :: (a_tp_bytes, .inl (ci 0, 200, .inl tp_bytes)) :: (a_g, .inr (2, [.ref a_g_rowCuts, .ref a_g_columnCuts, .ref a_g_bandRows, .ref a_g_zoneColumns, .ref a_g_rows, .ref a_g_sheets])) :: (a_g_rowCuts, .inl (ci 0, 5, .inl g_rowCuts)) :: (a_g_columnCuts, .inl (ci 0, 5, .inl g_columnCuts)) :: (a_g_bandRows, .inl (ci 0, 5, .inl g_bandRows)) :: (a_g_zoneColumns, .inl (ci 0, 5, .inl g_zoneColumns)) :: (a_g_rows, .inl (ci 0, 5, .inl g_rows)) :: (a_g_sheets, .inl (ci 0, 5, .inl g_sheets)) :: Rw) H := ⟨hP, hD⟩
      obtain ⟨hn9, hf9, hf⟩ := q_bo_e hf
      obtain ⟨e90, e91, e92, e93, e94, e95, e96, e97, e98, e99, e910, e911, e912⟩ := q_inj13 (Option.some.inj hf)
      rw [hQ, ← e90, ← e91, ← e92, ← e93, ← e94, ← e95, ← e96, ← e97, ← e98, ← e99, ← e910, ← e911, ← e912]
      exact q_zret (pc := 23) hx hb hr hn9 hlocks hP hD hS dX5_read_23
  exact hgo _ _ rfl hP hS
end
section
/-! X7_copyFrom -/
set_option maxRecDepth 100000 in
set_option maxHeartbeats 4000000 in
theorem c_Store_copyFrom (l : Launch) (D : va_G) (ci : Nat → ClassId) (A : Nat → Prop) (sa : Nat → Nat) (N : Nat) (Rw : va_W) (a_st : Nat) (a_g : Nat) (a_st_levels : Nat) (a_st_keys : Nat) (a_st_years : Nat) (a_st_keysThere : Nat) (a_st2 : Nat) (a_g2 : Nat) (a_st2_levels : Nat) (a_st2_keys : Nat) (a_st2_years : Nat) (a_st2_keysThere : Nat) (st_size : Int32) (st_shownBy : Int32) (st_deepestShown : Int32) (st_latestShown : Int32) (st_levels : Nat → Int32) (st_keys : Nat → Int32) (st_years : Nat → Int32) (st2_size : Int32) (st2_shownBy : Int32) (st2_deepestShown : Int32) (st2_latestShown : Int32) (st2_levels : Nat → Int32) (st2_keys : Nat → Int32) (st2_years : Nat → Int32) (o1 : Nat → Int32) (o2 : Nat → Int32) (o3 : Nat → Int32) (o4 : Int32) (hf : f_Store_copyFrom st_levels st_keys st_years st_size st2_levels st2_keys st2_years st2_size = some (o1, o2, o3, o4)) : Met l yX7_copyFrom wsX7_copyFrom ({ frames := 1, cells := 0, slots := 0, locals := 40 }) (va_Pc [.ref a_st, .ref a_st2] (q_N D ci A sa ((a_st, .inr (7, [.ref a_g, .ref a_st_levels, .ref a_st_keys, .ref a_st_years, .ref a_st_keysThere, .int st_size, .int st_shownBy, .int st_deepestShown, .int st_latestShown])) :: (a_st_levels, .inl (ci 0, 60, .inl st_levels)) :: (a_st_keys, .inl (ci 0, 60, .inl st_keys)) :: (a_st_years, .inl (ci 0, 60, .inl st_years)) :: (a_st2, .inr (7, [.ref a_g2, .ref a_st2_levels, .ref a_st2_keys, .ref a_st2_years, .ref a_st2_keysThere, .int st2_size, .int st2_shownBy, .int st2_deepestShown, .int st2_latestShown])) :: (a_st2_levels, .inl (ci 0, 60, .inl st2_levels)) :: (a_st2_keys, .inl (ci 0, 60, .inl st2_keys)) :: (a_st2_years, .inl (ci 0, 60, .inl st2_years)) :: Rw))) (q_Q none (q_O D A ((a_st, .inr (7, [.ref a_g, .ref a_st_levels, .ref a_st_keys, .ref a_st_years, .ref a_st_keysThere, .int o4, .int st_shownBy, .int st_deepestShown, .int st_latestShown])) :: (a_st_levels, .inl (ci 0, 60, .inl o1)) :: (a_st_keys, .inl (ci 0, 60, .inl o2)) :: (a_st_years, .inl (ci 0, 60, .inl o3)) :: (a_st2, .inr (7, [.ref a_g2, .ref a_st2_levels, .ref a_st2_keys, .ref a_st2_years, .ref a_st2_keysThere, .int st2_size, .int st2_shownBy, .int st2_deepestShown, .int st2_latestShown])) :: (a_st2_levels, .inl (ci 0, 60, .inl st2_levels)) :: (a_st2_keys, .inl (ci 0, 60, .inl st2_keys)) :: (a_st2_years, .inl (ci 0, 60, .inl st2_years)) :: Rw)) A) 0 0 A := by
  refine q_ofW (cc := cX7_copyFrom) (maxL := 2) (ret := none) [.ref a_st, .ref a_st2] (plainFor_of_name (by decide)) rfl (Nat.le_of_ble_eq_true rfl) ?_
  intro p e s m below meth c ls Q hQ hx hb hml hr hts hown hlocks hK hA hZ hP hD hS hl
  have hl : lv_has ls 2 [(0, .ref a_st), (1, .ref a_st2)] := hl
  have hown : s.vm.findClass RX7 = some m.cls := hown
  have hinX7 : ∀ w ∈ wsX70, w ∈ wsX7_copyFrom := fun _ h => List.mem_cons_of_mem _ (inWX70 _ h)
  have w_1 := hts (Cond.fieldLink RX7 9 "SheetNames$Store" "levels" "[I") (List.mem_cons_of_mem _ t_w859)
  have w_2 := hts (Cond.methodLink RX7 67 arraycopyName) (List.mem_cons_of_mem _ t_w860)
  have w_3 := hts (Cond.native arraycopyName) (List.mem_cons_of_mem _ t_w790)
  have w_4 := hts (Cond.static arraycopyName) (List.mem_cons_of_mem _ t_w791)
  have w_5 := hts (Cond.initialized "java/lang/System") (List.mem_cons_of_mem _ t_w792)
  have w_6 := hts (Cond.fieldLink RX7 15 "SheetNames$Store" "keys" "[I") (List.mem_cons_of_mem _ t_w861)
  have w_7 := hts (Cond.fieldLink RX7 18 "SheetNames$Store" "years" "[I") (List.mem_cons_of_mem _ t_w862)
  have w_8 := hts (Cond.fieldLink RX7 24 "SheetNames$Store" "size" "I") (List.mem_cons_of_mem _ t_w863)
  unfold f_Store_copyFrom at hf
  have hgo : ∀ (H : Heap) (locs : List Loc), H = s.heap → va_P D vwCl ((a_st, .inr (7, [.ref a_g, .ref a_st_levels, .ref a_st_keys, .ref a_st_years, .ref a_st_keysThere, .int st_size, .int st_shownBy, .int st_deepestShown, .int st_latestShown])) :: (a_st_levels, .inl (ci 0, 60, .inl st_levels)) :: (a_st_keys, .inl (ci 0, 60, .inl st_keys)) :: (a_st_years, .inl (ci 0, 60, .inl st_years)) :: (a_st2, .inr (7, [.ref a_g2, .ref a_st2_levels, .ref a_st2_keys, .ref a_st2_years, .ref a_st2_keysThere, .int st2_size, .int st2_shownBy, .int st2_deepestShown, .int st2_latestShown])) :: (a_st2_levels, .inl (ci 0, 60, .inl st2_levels)) :: (a_st2_keys, .inl (ci 0, 60, .inl st2_keys)) :: (a_st2_years, .inl (ci 0, 60, .inl st2_years)) :: Rw) H → va_S A s.heap H locs → W p l e ({ frames := 1, cells := 0, slots := 0, locals := 40 } : Room) s m ([.ref a_st, .ref a_st2] : List Value).toArray below meth c H locs 0 0 Q (F0 m 0 ls []) := by
    intro H locs hH hP hS
    refine lv_aload_n (pc := 0) hx hb dX7_copyFrom_0 rfl (lv_at hl 1 rfl) ?_
    refine va_get (pc := 1) (D := D) (ci := 7) (v := .ref a_st2_levels) (C := RX7) (T := TX7) (N := 9) hx hb hts hinX7 hown hK hP 4 rfl rfl 1 (by decide) w_1 (fun _ h9 => h9) rfl dX7_copyFrom_1 ?_
    refine lv_iconst (pc := 4) (v := 0) hx hb dX7_copyFrom_4 (by decide) ?_
    refine lv_aload_n (pc := 5) hx hb dX7_copyFrom_5 rfl (lv_at hl 0 rfl) ?_
    refine va_get (pc := 6) (D := D) (ci := 7) (v := .ref a_st_levels) (C := RX7) (T := TX7) (N := 9) hx hb hts hinX7 hown hK hP 0 rfl rfl 1 (by decide) w_1 (fun _ h9 => h9) rfl dX7_copyFrom_6 ?_
    refine lv_iconst (pc := 9) (v := 0) hx hb dX7_copyFrom_9 (by decide) ?_
    refine lv_aload_n (pc := 10) hx hb dX7_copyFrom_10 rfl (lv_at hl 0 rfl) ?_
    refine va_get (pc := 11) (D := D) (ci := 7) (v := .ref a_st_levels) (C := RX7) (T := TX7) (N := 9) hx hb hts hinX7 hown hK hP 0 rfl rfl 1 (by decide) w_1 (fun _ h9 => h9) rfl dX7_copyFrom_11 ?_
    refine va_alen (pc := 14) (v := 60) hx hb hK hP 1 0 rfl rfl rfl dX7_copyFrom_14 ?_
    obtain ⟨f1, ef1, hf⟩ := q_nm_e hf
    refine va_copyi (pc := 15) hx hb (hml.trans hl.1.symm) hown w_2 w_3 w_4 w_5 hK hP hD hS 5 1 0 0 rfl rfl rfl rfl rfl (by decide) (by decide) (by decide) (by decide) (by decide) (fun i _ => rfl) (Nat.le_of_ble_eq_true rfl) (by decide) dX7_copyFrom_15 (fun H locs hP hD hS => ?_)
    have ec : va_cpy st2_levels st_levels (0 : Int32).toNatClampNeg (0 : Int32).toNatClampNeg (60 : Int32).toNatClampNeg = f1 := by rw [ef1]; rfl
    have hP : va_P D vwCl ((a_st, .inr (7, [.ref a_g, .ref a_st_levels, .ref a_st_keys, .ref a_st_years, .ref a_st_keysThere, .int st_size, .int st_shownBy, .int st_deepestShown, .int st_latestShown])) :: (a_st_levels, .inl (ci 0, 60, .inl f1)) :: (a_st_keys, .inl (ci 0, 60, .inl st_keys)) :: (a_st_years, .inl (ci 0, 60, .inl st_years)) :: (a_st2, .inr (7, [.ref a_g2, .ref a_st2_levels, .ref a_st2_keys, .ref a_st2_years, .ref a_st2_keysThere, .int st2_size, .int st2_shownBy, .int st2_deepestShown, .int st2_latestShown])) :: (a_st2_levels, .inl (ci 0, 60, .inl st2_levels)) :: (a_st2_keys, .inl (ci 0, 60, .inl st2_keys)) :: (a_st2_years, .inl (ci 0, 60, .inl st2_years)) :: Rw) H := by rw [← ec]; exact hP
    have hD : va_D A ((a_st, .inr (7, [.ref a_g, .ref a_st_levels, .ref a_st_keys, .ref a_st_years, .ref a_st_keysThere, .int st_size, .int st_shownBy, .int st_deepestShown, .int st_latestShown])) :: (a_st_levels, .inl (ci 0, 60, .inl f1)) :: (a_st_keys, .inl (ci 0, 60, .inl st_keys)) :: (a_st_years, .inl (ci 0, 60, .inl st_years)) :: (a_st2, .inr (7, [.ref a_g2, .ref a_st2_levels, .ref a_st2_keys, .ref a_st2_years, .ref a_st2_keysThere, .int st2_size, .int st2_shownBy, .int st2_deepestShown, .int st2_latestShown])) :: (a_st2_levels, .inl (ci 0, 60, .inl st2_levels)) :: (a_st2_keys, .inl (ci 0, 60, .inl st2_keys)) :: (a_st2_years, .inl (ci 0, 60, .inl st2_years)) :: Rw) := by rw [← ec]; exact hD
    refine lv_aload_n (pc := 18) hx hb dX7_copyFrom_18 rfl (lv_at hl 1 rfl) ?_
    refine va_get (pc := 19) (D := D) (ci := 7) (v := .ref a_st2_keys) (C := RX7) (T := TX7) (N := 9) hx hb hts hinX7 hown hK hP 4 rfl rfl 2 (by decide) w_6 (fun _ h9 => h9) rfl dX7_copyFrom_19 ?_
    refine lv_iconst (pc := 22) (v := 0) hx hb dX7_copyFrom_22 (by decide) ?_
    refine lv_aload_n (pc := 23) hx hb dX7_copyFrom_23 rfl (lv_at hl 0 rfl) ?_
    refine va_get (pc := 24) (D := D) (ci := 7) (v := .ref a_st_keys) (C := RX7) (T := TX7) (N := 9) hx hb hts hinX7 hown hK hP 0 rfl rfl 2 (by decide) w_6 (fun _ h9 => h9) rfl dX7_copyFrom_24 ?_
    refine lv_iconst (pc := 27) (v := 0) hx hb dX7_copyFrom_27 (by decide) ?_
    refine lv_aload_n (pc := 28) hx hb dX7_copyFrom_28 rfl (lv_at hl 0 rfl) ?_
    refine va_get (pc := 29) (D := D) (ci := 7) (v := .ref a_st_keys) (C := RX7) (T := TX7) (N := 9) hx hb hts hinX7 hown hK hP 0 rfl rfl 2 (by decide) w_6 (fun _ h9 => h9) rfl dX7_copyFrom_29 ?_
    refine va_alen (pc := 32) (v := 60) hx hb hK hP 2 0 rfl rfl rfl dX7_copyFrom_32 ?_
    obtain ⟨f2, ef2, hf⟩ := q_nm_e hf
    refine va_copyi (pc := 33) hx hb (hml.trans hl.1.symm) hown w_2 w_3 w_4 w_5 hK hP hD hS 6 2 0 0 rfl rfl rfl rfl rfl (by decide) (by decide) (by decide) (by decide) (by decide) (fun i _ => rfl) (Nat.le_of_ble_eq_true rfl) (by decide) dX7_copyFrom_33 (fun H locs hP hD hS => ?_)
    have ec : va_cpy st2_keys st_keys (0 : Int32).toNatClampNeg (0 : Int32).toNatClampNeg (60 : Int32).toNatClampNeg = f2 := by rw [ef2]; rfl
    have hP : va_P D vwCl ((a_st, .inr (7, [.ref a_g, .ref a_st_levels, .ref a_st_keys, .ref a_st_years, .ref a_st_keysThere, .int st_size, .int st_shownBy, .int st_deepestShown, .int st_latestShown])) :: (a_st_levels, .inl (ci 0, 60, .inl f1)) :: (a_st_keys, .inl (ci 0, 60, .inl f2)) :: (a_st_years, .inl (ci 0, 60, .inl st_years)) :: (a_st2, .inr (7, [.ref a_g2, .ref a_st2_levels, .ref a_st2_keys, .ref a_st2_years, .ref a_st2_keysThere, .int st2_size, .int st2_shownBy, .int st2_deepestShown, .int st2_latestShown])) :: (a_st2_levels, .inl (ci 0, 60, .inl st2_levels)) :: (a_st2_keys, .inl (ci 0, 60, .inl st2_keys)) :: (a_st2_years, .inl (ci 0, 60, .inl st2_years)) :: Rw) H := by rw [← ec]; exact hP
    have hD : va_D A ((a_st, .inr (7, [.ref a_g, .ref a_st_levels, .ref a_st_keys, .ref a_st_years, .ref a_st_keysThere, .int st_size, .int st_shownBy, .int st_deepestShown, .int st_latestShown])) :: (a_st_levels, .inl (ci 0, 60, .inl f1)) :: (a_st_keys, .inl (ci 0, 60, .inl f2)) :: (a_st_years, .inl (ci 0, 60, .inl st_years)) :: (a_st2, .inr (7, [.ref a_g2, .ref a_st2_levels, .ref a_st2_keys, .ref a_st2_years, .ref a_st2_keysThere, .int st2_size, .int st2_shownBy, .int st2_deepestShown, .int st2_latestShown])) :: (a_st2_levels, .inl (ci 0, 60, .inl st2_levels)) :: (a_st2_keys, .inl (ci 0, 60, .inl st2_keys)) :: (a_st2_years, .inl (ci 0, 60, .inl st2_years)) :: Rw) := by rw [← ec]; exact hD
    refine lv_aload_n (pc := 36) hx hb dX7_copyFrom_36 rfl (lv_at hl 1 rfl) ?_
    refine va_get (pc := 37) (D := D) (ci := 7) (v := .ref a_st2_years) (C := RX7) (T := TX7) (N := 9) hx hb hts hinX7 hown hK hP 4 rfl rfl 3 (by decide) w_7 (fun _ h9 => h9) rfl dX7_copyFrom_37 ?_
    refine lv_iconst (pc := 40) (v := 0) hx hb dX7_copyFrom_40 (by decide) ?_
    refine lv_aload_n (pc := 41) hx hb dX7_copyFrom_41 rfl (lv_at hl 0 rfl) ?_
    refine va_get (pc := 42) (D := D) (ci := 7) (v := .ref a_st_years) (C := RX7) (T := TX7) (N := 9) hx hb hts hinX7 hown hK hP 0 rfl rfl 3 (by decide) w_7 (fun _ h9 => h9) rfl dX7_copyFrom_42 ?_
    refine lv_iconst (pc := 45) (v := 0) hx hb dX7_copyFrom_45 (by decide) ?_
    refine lv_aload_n (pc := 46) hx hb dX7_copyFrom_46 rfl (lv_at hl 0 rfl) ?_
    refine va_get (pc := 47) (D := D) (ci := 7) (v := .ref a_st_years) (C := RX7) (T := TX7) (N := 9) hx hb hts hinX7 hown hK hP 0 rfl rfl 3 (by decide) w_7 (fun _ h9 => h9) rfl dX7_copyFrom_47 ?_
    refine va_alen (pc := 50) (v := 60) hx hb hK hP 3 0 rfl rfl rfl dX7_copyFrom_50 ?_
    obtain ⟨f3, ef3, hf⟩ := q_nm_e hf
    refine va_copyi (pc := 51) hx hb (hml.trans hl.1.symm) hown w_2 w_3 w_4 w_5 hK hP hD hS 7 3 0 0 rfl rfl rfl rfl rfl (by decide) (by decide) (by decide) (by decide) (by decide) (fun i _ => rfl) (Nat.le_of_ble_eq_true rfl) (by decide) dX7_copyFrom_51 (fun H locs hP hD hS => ?_)
    have ec : va_cpy st2_years st_years (0 : Int32).toNatClampNeg (0 : Int32).toNatClampNeg (60 : Int32).toNatClampNeg = f3 := by rw [ef3]; rfl
    have hP : va_P D vwCl ((a_st, .inr (7, [.ref a_g, .ref a_st_levels, .ref a_st_keys, .ref a_st_years, .ref a_st_keysThere, .int st_size, .int st_shownBy, .int st_deepestShown, .int st_latestShown])) :: (a_st_levels, .inl (ci 0, 60, .inl f1)) :: (a_st_keys, .inl (ci 0, 60, .inl f2)) :: (a_st_years, .inl (ci 0, 60, .inl f3)) :: (a_st2, .inr (7, [.ref a_g2, .ref a_st2_levels, .ref a_st2_keys, .ref a_st2_years, .ref a_st2_keysThere, .int st2_size, .int st2_shownBy, .int st2_deepestShown, .int st2_latestShown])) :: (a_st2_levels, .inl (ci 0, 60, .inl st2_levels)) :: (a_st2_keys, .inl (ci 0, 60, .inl st2_keys)) :: (a_st2_years, .inl (ci 0, 60, .inl st2_years)) :: Rw) H := by rw [← ec]; exact hP
    have hD : va_D A ((a_st, .inr (7, [.ref a_g, .ref a_st_levels, .ref a_st_keys, .ref a_st_years, .ref a_st_keysThere, .int st_size, .int st_shownBy, .int st_deepestShown, .int st_latestShown])) :: (a_st_levels, .inl (ci 0, 60, .inl f1)) :: (a_st_keys, .inl (ci 0, 60, .inl f2)) :: (a_st_years, .inl (ci 0, 60, .inl f3)) :: (a_st2, .inr (7, [.ref a_g2, .ref a_st2_levels, .ref a_st2_keys, .ref a_st2_years, .ref a_st2_keysThere, .int st2_size, .int st2_shownBy, .int st2_deepestShown, .int st2_latestShown])) :: (a_st2_levels, .inl (ci 0, 60, .inl st2_levels)) :: (a_st2_keys, .inl (ci 0, 60, .inl st2_keys)) :: (a_st2_years, .inl (ci 0, 60, .inl st2_years)) :: Rw) := by rw [← ec]; exact hD
    refine lv_aload_n (pc := 54) hx hb dX7_copyFrom_54 rfl (lv_at hl 0 rfl) ?_
    refine lv_aload_n (pc := 55) hx hb dX7_copyFrom_55 rfl (lv_at hl 1 rfl) ?_
    refine va_get (pc := 56) (D := D) (ci := 7) (v := .int st2_size) (C := RX7) (T := TX7) (N := 9) hx hb hts hinX7 hown hK hP 4 rfl rfl 5 (by decide) w_8 (fun _ h9 => h9) rfl dX7_copyFrom_56 ?_
    refine va_put (pc := 59) (D := D) (ci := 7) (v := .int st2_size) (ty := .int) (C := RX7) (T := TX7) (N := 9) hx hb hts hinX7 tyX7 tyX7_ok nmX7 hown hK hP hD hS 0 rfl rfl 5 (by decide) w_8 (fun _ h9 => h9) rfl (by decide +kernel) rfl rfl (Nat.le_of_ble_eq_true rfl) dX7_copyFrom_59 (fun H locs hP hD hS => ?_)
    obtain ⟨hP, hD⟩ : va_PD D A ((a_st, .inr (7, [.ref a_g, .ref a_st_levels, .ref a_st_keys, .ref a_st_years, .ref a_st_keysThere, .int st2_size, .int st_shownBy, .int st_deepestShown, .int st_latestShown])) :: (a_st_levels, .inl (ci 0, 60, .inl f1)) :: (a_st_keys, .inl (ci 0, 60, .inl f2)) :: (a_st_years, .inl (ci 0, 60, .inl f3)) :: (a_st2, .inr (7, [.ref a_g2, .ref a_st2_levels, .ref a_st2_keys, .ref a_st2_years, .ref a_st2_keysThere, .int st2_size, .int st2_shownBy, .int st2_deepestShown, .int st2_latestShown])) :: (a_st2_levels, .inl (ci 0, 60, .inl st2_levels)) :: (a_st2_keys, .inl (ci 0, 60, .inl st2_keys)) :: (a_st2_years, .inl (ci 0, 60, .inl st2_years)) :: Rw) H := ⟨hP, hD⟩
    obtain ⟨e90, e91, e92, e93⟩ := q_inj4 (Option.some.inj hf)
    rw [hQ, ← e90, ← e91, ← e92, ← e93]
    exact q_vret (pc := 62) hx hb hr hlocks hP hD hS dX7_copyFrom_62
  exact hgo _ _ rfl hP hS
/-! X7_find -/
set_option maxRecDepth 100000 in
set_option maxHeartbeats 4000000 in
theorem c_Store_find (l : Launch) (D : va_G) (ci : Nat → ClassId) (A : Nat → Prop) (sa : Nat → Nat) (N : Nat) (Rw : va_W) (a_st : Nat) (a_g : Nat) (a_st_levels : Nat) (a_st_keys : Nat) (a_st_years : Nat) (a_st_keysThere : Nat) (st_size : Int32) (st_shownBy : Int32) (st_deepestShown : Int32) (st_latestShown : Int32) (st_levels : Nat → Int32) (st_keys : Nat → Int32) (p1 : Int32) (p2 : Int32) (r : Int32) (hf : f_Store_find N st_levels st_keys st_size p1 p2 = some r) : Met l yX7_find wsX7_find ({ frames := 0, cells := 0, slots := 0, locals := 0 }) (va_Pc [.ref a_st, .int p1, .int p2] (q_N D ci A sa ((a_st, .inr (7, [.ref a_g, .ref a_st_levels, .ref a_st_keys, .ref a_st_years, .ref a_st_keysThere, .int st_size, .int st_shownBy, .int st_deepestShown, .int st_latestShown])) :: (a_st_levels, .inl (ci 0, 60, .inl st_levels)) :: (a_st_keys, .inl (ci 0, 60, .inl st_keys)) :: Rw))) (q_R (some (.int r))) 0 0 A := by
  refine q_ofW (cc := cX7_find) (maxL := 4) (ret := (some .int)) [.ref a_st, .int p1, .int p2] (plainFor_of_name (by decide)) rfl (Nat.le_of_ble_eq_true rfl) ?_
  intro p e s m below meth c ls Q hQ hx hb hml hr hts hown hlocks hK hA hZ hP hD hS hl
  have hl : lv_has ls 4 [(0, .ref a_st), (1, .int p1), (2, .int p2)] := hl
  have hown : s.vm.findClass RX7 = some m.cls := hown
  have hinX7 : ∀ w ∈ wsX70, w ∈ wsX7_find := fun _ h => List.mem_cons_of_mem _ (inWX70 _ h)
  have w_1 := hts (Cond.fieldLink RX7 24 "SheetNames$Store" "size" "I") (List.mem_cons_of_mem _ t_w863)
  have w_2 := hts (Cond.fieldLink RX7 9 "SheetNames$Store" "levels" "[I") (List.mem_cons_of_mem _ t_w859)
  have w_3 := hts (Cond.fieldLink RX7 15 "SheetNames$Store" "keys" "[I") (List.mem_cons_of_mem _ t_w861)
  unfold f_Store_find at hf
  have hgo : ∀ (H : Heap) (locs : List Loc), H = s.heap → va_P D vwCl ((a_st, .inr (7, [.ref a_g, .ref a_st_levels, .ref a_st_keys, .ref a_st_years, .ref a_st_keysThere, .int st_size, .int st_shownBy, .int st_deepestShown, .int st_latestShown])) :: (a_st_levels, .inl (ci 0, 60, .inl st_levels)) :: (a_st_keys, .inl (ci 0, 60, .inl st_keys)) :: Rw) H → va_S A s.heap H locs → W p l e ({ frames := 0, cells := 0, slots := 0, locals := 0 } : Room) s m ([.ref a_st, .int p1, .int p2] : List Value).toArray below meth c H locs 0 0 Q (F0 m 0 ls []) := by
    intro H locs hH hP hS
    subst hH
    refine lv_iconst (pc := 0) (v := 0) hx hb dX7_find_0 (by decide) ?_
    obtain ⟨v1, ev1, hf⟩ := q_nm_e hf
    refine q_topi ev1 ?_
    refine lv_istore_n (pc := 1) (lv' := [(3, .int v1), (0, .ref a_st), (1, .int p1), (2, .int p2)]) hx hb dX7_find_1 rfl hl (by decide) rfl (fun ls hl => ?_)
    obtain ⟨k2, o2_, ek2, hm2, hk2⟩ := q_s0_k hf
    have JE2 : ∀  (H : Heap) (locs : List Loc) (ls : Array Slot), k2 = some r → H = s.heap → va_S A s.heap H locs → lv_has ls 4 [] → W p l e ({ frames := 0, cells := 0, slots := 0, locals := 0 } : Room) s m ([.ref a_st, .int p1, .int p2] : List Value).toArray below meth c H locs 0 0 Q (F0 m 38 ls []) := by
      intro  H locs ls hf hHs hS hl
      subst hHs
      have hf := (ek2).symm.trans hf
      refine lv_iconst (pc := 38) (v := (-1)) hx hb dX7_find_38 (by decide) ?_
      obtain rfl := Option.some.inj hf
      rw [hQ]
      exact q_iretr (pc := 39) hx hb hr hlocks rfl hS dX7_find_39
    have LP2 : ∀ (n2 : Nat) (v2 : Int32) (H : Heap) (locs : List Loc) (ls : Array Slot), f_Store_find_L2 p1 p2 st_keys st_levels st_size n2 v2 = some o2_ → H = s.heap → va_S A s.heap H locs → lv_has ls 4 [(0, .ref a_st), (1, .int p1), (2, .int p2), (3, .int v2)] → W p l e ({ frames := 0, cells := 0, slots := 0, locals := 0 } : Room) s m ([.ref a_st, .int p1, .int p2] : List Value).toArray below meth c H locs 0 0 Q (F0 m 2 ls []) := by
      intro n2
      induction n2 with
      | zero => intro v2 H locs ls hf; rw [f_Store_find_L2] at hf; cases hf
      | succ n2 ih2 =>
        intro v2 H locs ls hf hHs hS hl
        subst hHs
        rw [f_Store_find_L2] at hf
        refine lv_iload_n (pc := 2) hx hb dX7_find_2 rfl (lv_at hl 3 rfl) ?_
        refine lv_aload_n (pc := 3) hx hb dX7_find_3 rfl (lv_at hl 0 rfl) ?_
        refine va_get (pc := 4) (D := D) (ci := 7) (v := .int st_size) (C := RX7) (T := TX7) (N := 9) hx hb hts hinX7 hown hK hP 0 rfl rfl 5 (by decide) w_1 (fun _ h9 => h9) rfl dX7_find_4 ?_
        refine q_icmp_ge (pc := 7) (tgt := 38) hx hb dX7_find_7 (by decide) rfl hf (fun hf => ?_) (fun hf => ?_)
        · obtain rfl := Option.some.inj hf
          exact JE2  _ _ _ hk2 rfl hS (lv_sub hl [] rfl)
        · refine lv_aload_n (pc := 10) hx hb dX7_find_10 rfl (lv_at hl 0 rfl) ?_
          refine va_get (pc := 11) (D := D) (ci := 7) (v := .ref a_st_levels) (C := RX7) (T := TX7) (N := 9) hx hb hts hinX7 hown hK hP 0 rfl rfl 1 (by decide) w_2 (fun _ h9 => h9) rfl dX7_find_11 ?_
          refine lv_iload_n (pc := 14) hx hb dX7_find_14 rfl (lv_at hl 3 rfl) ?_
          refine q_iald (pc := 15) hx hb hK hP 1 0 hf rfl rfl dX7_find_15 (fun v3 hf => ?_)
          refine lv_iload_n (pc := 16) hx hb dX7_find_16 rfl (lv_at hl 1 rfl) ?_
          obtain ⟨k32, ek32, hf⟩ := q_j0_e hf
          have J32 : ∀  (H : Heap) (locs : List Loc) (ls : Array Slot), k32 = some o2_ → H = s.heap → va_S A s.heap H locs → lv_has ls 4 [(0, .ref a_st), (1, .int p1), (2, .int p2), (3, .int v2)] → W p l e ({ frames := 0, cells := 0, slots := 0, locals := 0 } : Room) s m ([.ref a_st, .int p1, .int p2] : List Value).toArray below meth c H locs 0 0 Q (F0 m 32 ls []) := by
            intro  H locs ls hf hHs hS hl
            subst hHs
            have hf := (ek32).symm.trans hf
            obtain ⟨v4, ev4, hf⟩ := q_nm_e hf
            refine lv_iinc (pc := 32) (v := v4) (lv' := [(3, .int v4), (0, .ref a_st), (1, .int p1), (2, .int p2)]) hx hb dX7_find_32 hl (k := 3) rfl (by rw [ev4]; rfl) (by decide) rfl (fun ls hl => ?_)
            refine lv_goto (pc := 35) (tgt := 2) hx hb dX7_find_35 (by decide) ?_
            exact ih2 v4 _ _ _ hf rfl hS (lv_sub hl [1, 2, 3, 0] rfl)
          refine q_icmp_ne (pc := 17) (tgt := 32) hx hb dX7_find_17 (by decide) rfl hf (fun hf => ?_) (fun hf => ?_)
          · exact J32  _ _ _ hf rfl hS (lv_sub hl [0, 1, 2, 3] rfl)
          · refine lv_aload_n (pc := 20) hx hb dX7_find_20 rfl (lv_at hl 0 rfl) ?_
            refine va_get (pc := 21) (D := D) (ci := 7) (v := .ref a_st_keys) (C := RX7) (T := TX7) (N := 9) hx hb hts hinX7 hown hK hP 0 rfl rfl 2 (by decide) w_3 (fun _ h9 => h9) rfl dX7_find_21 ?_
            refine lv_iload_n (pc := 24) hx hb dX7_find_24 rfl (lv_at hl 3 rfl) ?_
            refine q_iald (pc := 25) hx hb hK hP 2 0 hf rfl rfl dX7_find_25 (fun v5 hf => ?_)
            refine lv_iload_n (pc := 26) hx hb dX7_find_26 rfl (lv_at hl 2 rfl) ?_
            refine q_icmp_ne (pc := 27) (tgt := 32) hx hb dX7_find_27 (by decide) rfl hf (fun hf => ?_) (fun hf => ?_)
            · exact J32  _ _ _ hf rfl hS (lv_sub hl [0, 1, 2, 3] rfl)
            · refine lv_iload_n (pc := 30) hx hb dX7_find_30 rfl (lv_at hl 3 rfl) ?_
              obtain rfl := Option.some.inj hf
              have hk2 : (v2 : Int32) = r := hk2
              obtain rfl := hk2
              rw [hQ]
              exact q_iretr (pc := 31) hx hb hr hlocks rfl hS dX7_find_31
    exact LP2 N v1 _ _ _ hm2 rfl hS (lv_sub hl [1, 2, 3, 0] rfl)
  exact hgo _ _ rfl hP hS
/-! X7_isBehind -/
set_option maxRecDepth 100000 in
set_option maxHeartbeats 4000000 in
theorem c_Store_isBehind (l : Launch) (D : va_G) (ci : Nat → ClassId) (A : Nat → Prop) (sa : Nat → Nat) (N : Nat) (Rw : va_W) (a_st : Nat) (a_g : Nat) (a_st_levels : Nat) (a_st_keys : Nat) (a_st_years : Nat) (a_st_keysThere : Nat) (st_size : Int32) (st_shownBy : Int32) (st_deepestShown : Int32) (st_latestShown : Int32) (st_levels : Nat → Int32) (st_keys : Nat → Int32) (p1 : Int32) (p2 : Int32) (p3 : Int32) (r : Int32) (hf : f_Store_isBehind st_levels st_keys p1 p2 p3 = some r) : Met l yX7_isBehind wsX7_isBehind ({ frames := 0, cells := 0, slots := 0, locals := 0 }) (va_Pc [.ref a_st, .int p1, .int p2, .int p3] (q_N D ci A sa ((a_st, .inr (7, [.ref a_g, .ref a_st_levels, .ref a_st_keys, .ref a_st_years, .ref a_st_keysThere, .int st_size, .int st_shownBy, .int st_deepestShown, .int st_latestShown])) :: (a_st_levels, .inl (ci 0, 60, .inl st_levels)) :: (a_st_keys, .inl (ci 0, 60, .inl st_keys)) :: Rw))) (q_R (some (.int r))) 0 0 A := by
  refine q_ofW (cc := cX7_isBehind) (maxL := 4) (ret := (some .boolean)) [.ref a_st, .int p1, .int p2, .int p3] (plainFor_of_name (by decide)) rfl (Nat.le_of_ble_eq_true rfl) ?_
  intro p e s m below meth c ls Q hQ hx hb hml hr hts hown hlocks hK hA hZ hP hD hS hl
  have hl : lv_has ls 4 [(0, .ref a_st), (1, .int p1), (2, .int p2), (3, .int p3)] := hl
  have hown : s.vm.findClass RX7 = some m.cls := hown
  have hinX7 : ∀ w ∈ wsX70, w ∈ wsX7_isBehind := fun _ h => List.mem_cons_of_mem _ (inWX70 _ h)
  have w_1 := hts (Cond.fieldLink RX7 9 "SheetNames$Store" "levels" "[I") (List.mem_cons_of_mem _ t_w859)
  have w_2 := hts (Cond.fieldLink RX7 15 "SheetNames$Store" "keys" "[I") (List.mem_cons_of_mem _ t_w861)
  unfold f_Store_isBehind at hf
  have hgo : ∀ (H : Heap) (locs : List Loc), H = s.heap → va_P D vwCl ((a_st, .inr (7, [.ref a_g, .ref a_st_levels, .ref a_st_keys, .ref a_st_years, .ref a_st_keysThere, .int st_size, .int st_shownBy, .int st_deepestShown, .int st_latestShown])) :: (a_st_levels, .inl (ci 0, 60, .inl st_levels)) :: (a_st_keys, .inl (ci 0, 60, .inl st_keys)) :: Rw) H → va_S A s.heap H locs → W p l e ({ frames := 0, cells := 0, slots := 0, locals := 0 } : Room) s m ([.ref a_st, .int p1, .int p2, .int p3] : List Value).toArray below meth c H locs 0 0 Q (F0 m 0 ls []) := by
    intro H locs hH hP hS
    subst hH
    refine lv_aload_n (pc := 0) hx hb dX7_isBehind_0 rfl (lv_at hl 0 rfl) ?_
    refine va_get (pc := 1) (D := D) (ci := 7) (v := .ref a_st_levels) (C := RX7) (T := TX7) (N := 9) hx hb hts hinX7 hown hK hP 0 rfl rfl 1 (by decide) w_1 (fun _ h9 => h9) rfl dX7_isBehind_1 ?_
    refine lv_iload_n (pc := 4) hx hb dX7_isBehind_4 rfl (lv_at hl 1 rfl) ?_
    refine q_iald (pc := 5) hx hb hK hP 1 0 hf rfl rfl dX7_isBehind_5 (fun v1 hf => ?_)
    refine lv_iload_n (pc := 6) hx hb dX7_isBehind_6 rfl (lv_at hl 2 rfl) ?_
    obtain ⟨k30, ek30, hf⟩ := q_j0_e hf
    have J30 : ∀  (H : Heap) (locs : List Loc) (ls : Array Slot), k30 = some r → H = s.heap → va_S A s.heap H locs → lv_has ls 4 [] → W p l e ({ frames := 0, cells := 0, slots := 0, locals := 0 } : Room) s m ([.ref a_st, .int p1, .int p2, .int p3] : List Value).toArray below meth c H locs 0 0 Q (F0 m 30 ls []) := by
      intro  H locs ls hf hHs hS hl
      subst hHs
      have hf := (ek30).symm.trans hf
      refine lv_iconst (pc := 30) (v := 1) hx hb dX7_isBehind_30 (by decide) ?_
      refine lv_goto (pc := 31) (tgt := 35) hx hb dX7_isBehind_31 (by decide) ?_
      obtain rfl := Option.some.inj hf
      rw [hQ]
      exact q_zretr (pc := 35) hx hb hr rfl hlocks rfl hS dX7_isBehind_35
    refine q_icmp_gt (pc := 7) (tgt := 30) hx hb dX7_isBehind_7 (by decide) rfl hf (fun hf => ?_) (fun hf => ?_)
    · exact J30  _ _ _ hf rfl hS (lv_sub hl [] rfl)
    · refine lv_aload_n (pc := 10) hx hb dX7_isBehind_10 rfl (lv_at hl 0 rfl) ?_
      refine va_get (pc := 11) (D := D) (ci := 7) (v := .ref a_st_levels) (C := RX7) (T := TX7) (N := 9) hx hb hts hinX7 hown hK hP 0 rfl rfl 1 (by decide) w_1 (fun _ h9 => h9) rfl dX7_isBehind_11 ?_
      refine lv_iload_n (pc := 14) hx hb dX7_isBehind_14 rfl (lv_at hl 1 rfl) ?_
      refine q_iald (pc := 15) hx hb hK hP 1 0 hf rfl rfl dX7_isBehind_15 (fun v2 hf => ?_)
      refine lv_iload_n (pc := 16) hx hb dX7_isBehind_16 rfl (lv_at hl 2 rfl) ?_
      refine q_icmp_ne (pc := 17) (tgt := 34) hx hb dX7_isBehind_17 (by decide) rfl hf (fun hf => ?_) (fun hf => ?_)
      · refine lv_iconst (pc := 34) (v := 0) hx hb dX7_isBehind_34 (by decide) ?_
        obtain rfl := Option.some.inj hf
        rw [hQ]
        exact q_zretr (pc := 35) hx hb hr rfl hlocks rfl hS dX7_isBehind_35
      · refine lv_aload_n (pc := 20) hx hb dX7_isBehind_20 rfl (lv_at hl 0 rfl) ?_
        refine va_get (pc := 21) (D := D) (ci := 7) (v := .ref a_st_keys) (C := RX7) (T := TX7) (N := 9) hx hb hts hinX7 hown hK hP 0 rfl rfl 2 (by decide) w_2 (fun _ h9 => h9) rfl dX7_isBehind_21 ?_
        refine lv_iload_n (pc := 24) hx hb dX7_isBehind_24 rfl (lv_at hl 1 rfl) ?_
        refine q_iald (pc := 25) hx hb hK hP 2 0 hf rfl rfl dX7_isBehind_25 (fun v3 hf => ?_)
        refine lv_iload_n (pc := 26) hx hb dX7_isBehind_26 rfl (lv_at hl 3 rfl) ?_
        refine q_icmp_le (pc := 27) (tgt := 34) hx hb dX7_isBehind_27 (by decide) rfl hf (fun hf => ?_) (fun hf => ?_)
        · refine lv_iconst (pc := 34) (v := 0) hx hb dX7_isBehind_34 (by decide) ?_
          obtain rfl := Option.some.inj hf
          rw [hQ]
          exact q_zretr (pc := 35) hx hb hr rfl hlocks rfl hS dX7_isBehind_35
        · exact J30  _ _ _ hf rfl hS (lv_sub hl [] rfl)
  exact hgo _ _ rfl hP hS
/-! X7_isNeedless -/
set_option maxRecDepth 100000 in
set_option maxHeartbeats 4000000 in
theorem c_Store_isNeedless (l : Launch) (D : va_G) (ci : Nat → ClassId) (A : Nat → Prop) (sa : Nat → Nat) (N : Nat) (Rw : va_W) (a_st : Nat) (a_g : Nat) (a_st_levels : Nat) (a_st_keys : Nat) (a_st_years : Nat) (a_st_keysThere : Nat) (a_g_rowCuts : Nat) (a_g_columnCuts : Nat) (a_g_bandRows : Nat) (a_g_zoneColumns : Nat) (a_g_rows : Nat) (a_g_sheets : Nat) (st_size : Int32) (st_shownBy : Int32) (st_deepestShown : Int32) (st_latestShown : Int32) (st_levels : Nat → Int32) (st_keys : Nat → Int32) (st_years : Nat → Int32) (g_bandRows : Nat → Int32) (g_zoneColumns : Nat → Int32) (g_rows : Nat → Int32) (g_sheets : Nat → Int32) (p1 : Int32) (r : Int32) (hf : f_Store_isNeedless N st_levels st_keys st_years g_bandRows g_zoneColumns g_rows g_sheets p1 = some r) : Met l yX7_isNeedless wsX7_isNeedless ({ frames := 3, cells := 0, slots := 0, locals := 75 }) (va_Pc [.ref a_st, .int p1] (q_N D ci A sa ((a_st, .inr (7, [.ref a_g, .ref a_st_levels, .ref a_st_keys, .ref a_st_years, .ref a_st_keysThere, .int st_size, .int st_shownBy, .int st_deepestShown, .int st_latestShown])) :: (a_st_levels, .inl (ci 0, 60, .inl st_levels)) :: (a_st_keys, .inl (ci 0, 60, .inl st_keys)) :: (a_st_years, .inl (ci 0, 60, .inl st_years)) :: (a_g, .inr (2, [.ref a_g_rowCuts, .ref a_g_columnCuts, .ref a_g_bandRows, .ref a_g_zoneColumns, .ref a_g_rows, .ref a_g_sheets])) :: (a_g_bandRows, .inl (ci 0, 5, .inl g_bandRows)) :: (a_g_zoneColumns, .inl (ci 0, 5, .inl g_zoneColumns)) :: (a_g_rows, .inl (ci 0, 5, .inl g_rows)) :: (a_g_sheets, .inl (ci 0, 5, .inl g_sheets)) :: Rw))) (q_R (some (.int r))) 0 0 A := by
  refine q_ofW (cc := cX7_isNeedless) (maxL := 3) (ret := (some .boolean)) [.ref a_st, .int p1] (plainFor_of_name (by decide)) rfl (Nat.le_of_ble_eq_true rfl) ?_
  intro p e s m below meth c ls Q hQ hx hb hml hr hts hown hlocks hK hA hZ hP hD hS hl
  have hl : lv_has ls 3 [(0, .ref a_st), (1, .int p1)] := hl
  have hown : s.vm.findClass RX7 = some m.cls := hown
  have hinX7 : ∀ w ∈ wsX70, w ∈ wsX7_isNeedless := fun _ h => List.mem_cons_of_mem _ (inWX70 _ h)
  have w_1 := hts (Cond.fieldLink RX7 9 "SheetNames$Store" "levels" "[I") (List.mem_cons_of_mem _ t_w859)
  have w_2 := hts (Cond.fieldLink RX7 18 "SheetNames$Store" "years" "[I") (List.mem_cons_of_mem _ t_w862)
  have w_3 := hts (Cond.fieldLink RX7 37 "SheetNames$Store" "grid" "LSheetNames$Grid;") (List.mem_cons_of_mem _ t_w864)
  have w_4 := hts (Cond.fieldLink RX7 15 "SheetNames$Store" "keys" "[I") (List.mem_cons_of_mem _ t_w861)
  unfold f_Store_isNeedless at hf
  have hgo : ∀ (H : Heap) (locs : List Loc), H = s.heap → va_P D vwCl ((a_st, .inr (7, [.ref a_g, .ref a_st_levels, .ref a_st_keys, .ref a_st_years, .ref a_st_keysThere, .int st_size, .int st_shownBy, .int st_deepestShown, .int st_latestShown])) :: (a_st_levels, .inl (ci 0, 60, .inl st_levels)) :: (a_st_keys, .inl (ci 0, 60, .inl st_keys)) :: (a_st_years, .inl (ci 0, 60, .inl st_years)) :: (a_g, .inr (2, [.ref a_g_rowCuts, .ref a_g_columnCuts, .ref a_g_bandRows, .ref a_g_zoneColumns, .ref a_g_rows, .ref a_g_sheets])) :: (a_g_bandRows, .inl (ci 0, 5, .inl g_bandRows)) :: (a_g_zoneColumns, .inl (ci 0, 5, .inl g_zoneColumns)) :: (a_g_rows, .inl (ci 0, 5, .inl g_rows)) :: (a_g_sheets, .inl (ci 0, 5, .inl g_sheets)) :: Rw) H → va_S A s.heap H locs → W p l e ({ frames := 3, cells := 0, slots := 0, locals := 75 } : Room) s m ([.ref a_st, .int p1] : List Value).toArray below meth c H locs 0 0 Q (F0 m 0 ls []) := by
    intro H locs hH hP hS
    subst hH
    refine lv_iconst (pc := 0) (v := 0) hx hb dX7_isNeedless_0 (by decide) ?_
    obtain ⟨v1, ev1, hf⟩ := q_nm_e hf
    refine q_topi ev1 ?_
    refine lv_istore_n (pc := 1) (lv' := [(2, .int v1), (0, .ref a_st), (1, .int p1)]) hx hb dX7_isNeedless_1 rfl hl (by decide) rfl (fun ls hl => ?_)
    obtain ⟨k2, o2_, ek2, hm2, hk2⟩ := q_s0_k hf
    have JE2 : ∀  (H : Heap) (locs : List Loc) (ls : Array Slot), k2 = some r → H = s.heap → va_S A s.heap H locs → lv_has ls 3 [] → W p l e ({ frames := 3, cells := 0, slots := 0, locals := 75 } : Room) s m ([.ref a_st, .int p1] : List Value).toArray below meth c H locs 0 0 Q (F0 m 79 ls []) := by
      intro  H locs ls hf hHs hS hl
      subst hHs
      have hf := (ek2).symm.trans hf
      refine lv_iconst (pc := 79) (v := 0) hx hb dX7_isNeedless_79 (by decide) ?_
      obtain rfl := Option.some.inj hf
      rw [hQ]
      exact q_zretr (pc := 80) hx hb hr rfl hlocks rfl hS dX7_isNeedless_80
    have LP2 : ∀ (n2 : Nat) (v2 : Int32) (H : Heap) (locs : List Loc) (ls : Array Slot), f_Store_isNeedless_L2 N g_bandRows g_rows g_sheets g_zoneColumns p1 st_keys st_levels st_years n2 v2 = some o2_ → H = s.heap → va_S A s.heap H locs → lv_has ls 3 [(0, .ref a_st), (1, .int p1), (2, .int v2)] → W p l e ({ frames := 3, cells := 0, slots := 0, locals := 75 } : Room) s m ([.ref a_st, .int p1] : List Value).toArray below meth c H locs 0 0 Q (F0 m 2 ls []) := by
      intro n2
      induction n2 with
      | zero => intro v2 H locs ls hf; rw [f_Store_isNeedless_L2] at hf; cases hf
      | succ n2 ih2 =>
        intro v2 H locs ls hf hHs hS hl
        subst hHs
        rw [f_Store_isNeedless_L2] at hf
        refine lv_iload_n (pc := 2) hx hb dX7_isNeedless_2 rfl (lv_at hl 2 rfl) ?_
        refine lv_iload_n (pc := 3) hx hb dX7_isNeedless_3 rfl (lv_at hl 1 rfl) ?_
        refine q_icmp_ge (pc := 4) (tgt := 79) hx hb dX7_isNeedless_4 (by decide) rfl hf (fun hf => ?_) (fun hf => ?_)
        · obtain rfl := Option.some.inj hf
          exact JE2  _ _ _ hk2 rfl hS (lv_sub hl [] rfl)
        · refine lv_aload_n (pc := 7) hx hb dX7_isNeedless_7 rfl (lv_at hl 0 rfl) ?_
          refine va_get (pc := 8) (D := D) (ci := 7) (v := .ref a_st_levels) (C := RX7) (T := TX7) (N := 9) hx hb hts hinX7 hown hK hP 0 rfl rfl 1 (by decide) w_1 (fun _ h9 => h9) rfl dX7_isNeedless_8 ?_
          refine lv_iload_n (pc := 11) hx hb dX7_isNeedless_11 rfl (lv_at hl 2 rfl) ?_
          refine q_iald (pc := 12) hx hb hK hP 1 0 hf rfl rfl dX7_isNeedless_12 (fun v3 hf => ?_)
          refine lv_aload_n (pc := 13) hx hb dX7_isNeedless_13 rfl (lv_at hl 0 rfl) ?_
          refine va_get (pc := 14) (D := D) (ci := 7) (v := .ref a_st_levels) (C := RX7) (T := TX7) (N := 9) hx hb hts hinX7 hown hK hP 0 rfl rfl 1 (by decide) w_1 (fun _ h9 => h9) rfl dX7_isNeedless_14 ?_
          refine lv_iload_n (pc := 17) hx hb dX7_isNeedless_17 rfl (lv_at hl 1 rfl) ?_
          refine q_iald (pc := 18) hx hb hK hP 1 0 hf rfl rfl dX7_isNeedless_18 (fun v4 hf => ?_)
          obtain ⟨k73, ek73, hf⟩ := q_j0_e hf
          have J73 : ∀  (H : Heap) (locs : List Loc) (ls : Array Slot), k73 = some o2_ → H = s.heap → va_S A s.heap H locs → lv_has ls 3 [(0, .ref a_st), (1, .int p1), (2, .int v2)] → W p l e ({ frames := 3, cells := 0, slots := 0, locals := 75 } : Room) s m ([.ref a_st, .int p1] : List Value).toArray below meth c H locs 0 0 Q (F0 m 73 ls []) := by
            intro  H locs ls hf hHs hS hl
            subst hHs
            have hf := (ek73).symm.trans hf
            obtain ⟨v5, ev5, hf⟩ := q_nm_e hf
            refine lv_iinc (pc := 73) (v := v5) (lv' := [(2, .int v5), (0, .ref a_st), (1, .int p1)]) hx hb dX7_isNeedless_73 hl (k := 2) rfl (by rw [ev5]; rfl) (by decide) rfl (fun ls hl => ?_)
            refine lv_goto (pc := 76) (tgt := 2) hx hb dX7_isNeedless_76 (by decide) ?_
            exact ih2 v5 _ _ _ hf rfl hS (lv_sub hl [1, 2, 0] rfl)
          refine q_icmp_ge (pc := 19) (tgt := 73) hx hb dX7_isNeedless_19 (by decide) rfl hf (fun hf => ?_) (fun hf => ?_)
          · exact J73  _ _ _ hf rfl hS (lv_sub hl [0, 1, 2] rfl)
          · refine lv_aload_n (pc := 22) hx hb dX7_isNeedless_22 rfl (lv_at hl 0 rfl) ?_
            refine va_get (pc := 23) (D := D) (ci := 7) (v := .ref a_st_years) (C := RX7) (T := TX7) (N := 9) hx hb hts hinX7 hown hK hP 0 rfl rfl 3 (by decide) w_2 (fun _ h9 => h9) rfl dX7_isNeedless_23 ?_
            refine lv_iload_n (pc := 26) hx hb dX7_isNeedless_26 rfl (lv_at hl 2 rfl) ?_
            refine q_iald (pc := 27) hx hb hK hP 3 0 hf rfl rfl dX7_isNeedless_27 (fun v6 hf => ?_)
            refine lv_aload_n (pc := 28) hx hb dX7_isNeedless_28 rfl (lv_at hl 0 rfl) ?_
            refine va_get (pc := 29) (D := D) (ci := 7) (v := .ref a_st_years) (C := RX7) (T := TX7) (N := 9) hx hb hts hinX7 hown hK hP 0 rfl rfl 3 (by decide) w_2 (fun _ h9 => h9) rfl dX7_isNeedless_29 ?_
            refine lv_iload_n (pc := 32) hx hb dX7_isNeedless_32 rfl (lv_at hl 1 rfl) ?_
            refine q_iald (pc := 33) hx hb hK hP 3 0 hf rfl rfl dX7_isNeedless_33 (fun v7 hf => ?_)
            refine q_icmp_lt (pc := 34) (tgt := 73) hx hb dX7_isNeedless_34 (by decide) rfl hf (fun hf => ?_) (fun hf => ?_)
            · exact J73  _ _ _ hf rfl hS (lv_sub hl [0, 1, 2] rfl)
            · refine lv_aload_n (pc := 37) hx hb dX7_isNeedless_37 rfl (lv_at hl 0 rfl) ?_
              refine va_get (pc := 38) (D := D) (ci := 7) (v := .ref a_g) (C := RX7) (T := TX7) (N := 9) hx hb hts hinX7 hown hK hP 0 rfl rfl 0 (by decide) w_3 (fun _ h9 => h9) rfl dX7_isNeedless_38 ?_
              refine lv_aload_n (pc := 41) hx hb dX7_isNeedless_41 rfl (lv_at hl 0 rfl) ?_
              refine va_get (pc := 42) (D := D) (ci := 7) (v := .ref a_st_levels) (C := RX7) (T := TX7) (N := 9) hx hb hts hinX7 hown hK hP 0 rfl rfl 1 (by decide) w_1 (fun _ h9 => h9) rfl dX7_isNeedless_42 ?_
              refine lv_iload_n (pc := 45) hx hb dX7_isNeedless_45 rfl (lv_at hl 1 rfl) ?_
              refine q_iald (pc := 46) hx hb hK hP 1 0 hf rfl rfl dX7_isNeedless_46 (fun v8 hf => ?_)
              refine lv_aload_n (pc := 47) hx hb dX7_isNeedless_47 rfl (lv_at hl 0 rfl) ?_
              refine va_get (pc := 48) (D := D) (ci := 7) (v := .ref a_st_keys) (C := RX7) (T := TX7) (N := 9) hx hb hts hinX7 hown hK hP 0 rfl rfl 2 (by decide) w_4 (fun _ h9 => h9) rfl dX7_isNeedless_48 ?_
              refine lv_iload_n (pc := 51) hx hb dX7_isNeedless_51 rfl (lv_at hl 1 rfl) ?_
              refine q_iald (pc := 52) hx hb hK hP 2 0 hf rfl rfl dX7_isNeedless_52 (fun v9 hf => ?_)
              refine lv_aload_n (pc := 53) hx hb dX7_isNeedless_53 rfl (lv_at hl 0 rfl) ?_
              refine va_get (pc := 54) (D := D) (ci := 7) (v := .ref a_st_levels) (C := RX7) (T := TX7) (N := 9) hx hb hts hinX7 hown hK hP 0 rfl rfl 1 (by decide) w_1 (fun _ h9 => h9) rfl dX7_isNeedless_54 ?_
              refine lv_iload_n (pc := 57) hx hb dX7_isNeedless_57 rfl (lv_at hl 2 rfl) ?_
              refine q_iald (pc := 58) hx hb hK hP 1 0 hf rfl rfl dX7_isNeedless_58 (fun v10 hf => ?_)
              obtain ⟨v11, hm59, hf⟩ := q_b1_e hf
              refine q_cVr (pc := 59) (As := [.int v8, .int v9, .int v10]) (rest := []) (v0 := (some (.int v11))) ⟨hx, hb, hml, hown, hts⟩ hK hA hZ hP hD hS hl.1 [4, 5, 6, 7, 8] 9 rfl ⟨rfl, rfl, rfl⟩ (c_Grid_keyAbove l D ci A sa N (Rw) a_g a_g_rowCuts a_g_columnCuts a_g_bandRows a_g_zoneColumns a_g_rows a_g_sheets g_bandRows g_zoneColumns g_rows g_sheets v8 v9 v10 v11 hm59) 4 rfl rfl (cwV 3 hts gX7_isNeedless_X2_keyAbove rfl rfl rfl (by decide +kernel) ⟨Nat.le_of_ble_eq_true rfl, Nat.le_of_ble_eq_true rfl⟩) rfl rfl (Nat.le_of_ble_eq_true rfl) dX7_isNeedless_59 ⟨Nat.zero_le _, Nat.zero_le _⟩ (fun locs hS => ?_)
              refine lv_aload_n (pc := 62) hx hb dX7_isNeedless_62 rfl (lv_at hl 0 rfl) ?_
              refine va_get (pc := 63) (D := D) (ci := 7) (v := .ref a_st_keys) (C := RX7) (T := TX7) (N := 9) hx hb hts hinX7 hown hK hP 0 rfl rfl 2 (by decide) w_4 (fun _ h9 => h9) rfl dX7_isNeedless_63 ?_
              refine lv_iload_n (pc := 66) hx hb dX7_isNeedless_66 rfl (lv_at hl 2 rfl) ?_
              refine q_iald (pc := 67) hx hb hK hP 2 0 hf rfl rfl dX7_isNeedless_67 (fun v12 hf => ?_)
              refine q_icmp_ne (pc := 68) (tgt := 73) hx hb dX7_isNeedless_68 (by decide) rfl hf (fun hf => ?_) (fun hf => ?_)
              · exact J73  _ _ _ hf rfl hS (lv_sub hl [0, 1, 2] rfl)
              · refine lv_iconst (pc := 71) (v := 1) hx hb dX7_isNeedless_71 (by decide) ?_
                obtain rfl := Option.some.inj hf
                have hk2 : (1 : Int32) = r := hk2
                obtain rfl := hk2
                rw [hQ]
                exact q_zretr (pc := 72) hx hb hr rfl hlocks rfl hS dX7_isNeedless_72
    exact LP2 N v1 _ _ _ hm2 rfl hS (lv_sub hl [1, 2, 0] rfl)
  exact hgo _ _ rfl hP hS
/-! X7_lookAt -/
set_option maxRecDepth 100000 in
set_option maxHeartbeats 4000000 in
theorem c_Store_lookAt (l : Launch) (D : va_G) (ci : Nat → ClassId) (A : Nat → Prop) (sa : Nat → Nat) (N : Nat) (Rw : va_W) (a_st : Nat) (a_g : Nat) (a_st_levels : Nat) (a_st_keys : Nat) (a_st_years : Nat) (a_st_keysThere : Nat) (a_g_rowCuts : Nat) (a_g_columnCuts : Nat) (a_g_bandRows : Nat) (a_g_zoneColumns : Nat) (a_g_rows : Nat) (a_g_sheets : Nat) (st_size : Int32) (st_shownBy : Int32) (st_deepestShown : Int32) (st_latestShown : Int32) (st_levels : Nat → Int32) (st_keys : Nat → Int32) (st_years : Nat → Int32) (st_keysThere : Nat → Int32) (g_bandRows : Nat → Int32) (g_zoneColumns : Nat → Int32) (g_rows : Nat → Int32) (g_sheets : Nat → Int32) (p1 : Int32) (p2 : Int32) (o1 : Nat → Int32) (o2 : Int32) (o3 : Int32) (o4 : Int32) (hf : f_Store_lookAt N st_levels st_keys st_years st_keysThere st_size st_shownBy st_deepestShown st_latestShown g_bandRows g_zoneColumns g_rows g_sheets p1 p2 = some (o1, o2, o3, o4)) : Met l yX7_lookAt wsX7_lookAt ({ frames := 3, cells := 0, slots := 0, locals := 73 }) (va_Pc [.ref a_st, .int p1, .int p2] (q_N D ci A sa ((a_st, .inr (7, [.ref a_g, .ref a_st_levels, .ref a_st_keys, .ref a_st_years, .ref a_st_keysThere, .int st_size, .int st_shownBy, .int st_deepestShown, .int st_latestShown])) :: (a_st_levels, .inl (ci 0, 60, .inl st_levels)) :: (a_st_keys, .inl (ci 0, 60, .inl st_keys)) :: (a_st_years, .inl (ci 0, 60, .inl st_years)) :: (a_st_keysThere, .inl (ci 0, 5, .inl st_keysThere)) :: (a_g, .inr (2, [.ref a_g_rowCuts, .ref a_g_columnCuts, .ref a_g_bandRows, .ref a_g_zoneColumns, .ref a_g_rows, .ref a_g_sheets])) :: (a_g_bandRows, .inl (ci 0, 5, .inl g_bandRows)) :: (a_g_zoneColumns, .inl (ci 0, 5, .inl g_zoneColumns)) :: (a_g_rows, .inl (ci 0, 5, .inl g_rows)) :: (a_g_sheets, .inl (ci 0, 5, .inl g_sheets)) :: Rw))) (q_Q none (q_O D A ((a_st, .inr (7, [.ref a_g, .ref a_st_levels, .ref a_st_keys, .ref a_st_years, .ref a_st_keysThere, .int st_size, .int o2, .int o3, .int o4])) :: (a_st_levels, .inl (ci 0, 60, .inl st_levels)) :: (a_st_keys, .inl (ci 0, 60, .inl st_keys)) :: (a_st_years, .inl (ci 0, 60, .inl st_years)) :: (a_st_keysThere, .inl (ci 0, 5, .inl o1)) :: (a_g, .inr (2, [.ref a_g_rowCuts, .ref a_g_columnCuts, .ref a_g_bandRows, .ref a_g_zoneColumns, .ref a_g_rows, .ref a_g_sheets])) :: (a_g_bandRows, .inl (ci 0, 5, .inl g_bandRows)) :: (a_g_zoneColumns, .inl (ci 0, 5, .inl g_zoneColumns)) :: (a_g_rows, .inl (ci 0, 5, .inl g_rows)) :: (a_g_sheets, .inl (ci 0, 5, .inl g_sheets)) :: Rw)) A) 0 0 A := by
  refine q_ofW (cc := cX7_lookAt) (maxL := 4) (ret := none) [.ref a_st, .int p1, .int p2] (plainFor_of_name (by decide)) rfl (Nat.le_of_ble_eq_true rfl) ?_
  intro p e s m below meth c ls Q hQ hx hb hml hr hts hown hlocks hK hA hZ hP hD hS hl
  have hl : lv_has ls 4 [(0, .ref a_st), (1, .int p1), (2, .int p2)] := hl
  have hown : s.vm.findClass RX7 = some m.cls := hown
  have hinX7 : ∀ w ∈ wsX70, w ∈ wsX7_lookAt := fun _ h => List.mem_cons_of_mem _ (inWX70 _ h)
  have w_1 := hts (Cond.fieldLink RX7 21 "SheetNames$Store" "keysThere" "[I") (List.mem_cons_of_mem _ t_w865)
  have w_2 := hts (Cond.fieldLink RX7 37 "SheetNames$Store" "grid" "LSheetNames$Grid;") (List.mem_cons_of_mem _ t_w864)
  have w_3 := hts (Cond.fieldLink RX7 28 "SheetNames$Store" "shownBy" "I") (List.mem_cons_of_mem _ t_w866)
  have w_4 := hts (Cond.fieldLink RX7 31 "SheetNames$Store" "deepestShown" "I") (List.mem_cons_of_mem _ t_w867)
  have w_5 := hts (Cond.fieldLink RX7 34 "SheetNames$Store" "latestShown" "I") (List.mem_cons_of_mem _ t_w868)
  have w_6 := hts (Cond.fieldLink RX7 24 "SheetNames$Store" "size" "I") (List.mem_cons_of_mem _ t_w863)
  have w_7 := hts (Cond.fieldLink RX7 9 "SheetNames$Store" "levels" "[I") (List.mem_cons_of_mem _ t_w859)
  have w_8 := hts (Cond.fieldLink RX7 15 "SheetNames$Store" "keys" "[I") (List.mem_cons_of_mem _ t_w861)
  have w_9 := hts (Cond.fieldLink RX7 18 "SheetNames$Store" "years" "[I") (List.mem_cons_of_mem _ t_w862)
  have w_10 := hts (Cond.methodLink RX7 59 Lib.Math.max.name) (List.mem_cons_of_mem _ t_w869)
  have w_11 := hts (Cond.static Lib.Math.max.name) (List.mem_cons_of_mem _ t_w813)
  have w_12 := hts (Cond.initialized "java/lang/Math") (List.mem_cons_of_mem _ t_w76)
  have w_13 := hts (Cond.code Lib.Math.max.name Lib.Math.max.code 2 (some .int)) (List.mem_cons_of_mem _ t_w814)
  unfold f_Store_lookAt at hf
  have hgo : ∀ (H : Heap) (locs : List Loc), H = s.heap → va_P D vwCl ((a_st, .inr (7, [.ref a_g, .ref a_st_levels, .ref a_st_keys, .ref a_st_years, .ref a_st_keysThere, .int st_size, .int st_shownBy, .int st_deepestShown, .int st_latestShown])) :: (a_st_levels, .inl (ci 0, 60, .inl st_levels)) :: (a_st_keys, .inl (ci 0, 60, .inl st_keys)) :: (a_st_years, .inl (ci 0, 60, .inl st_years)) :: (a_st_keysThere, .inl (ci 0, 5, .inl st_keysThere)) :: (a_g, .inr (2, [.ref a_g_rowCuts, .ref a_g_columnCuts, .ref a_g_bandRows, .ref a_g_zoneColumns, .ref a_g_rows, .ref a_g_sheets])) :: (a_g_bandRows, .inl (ci 0, 5, .inl g_bandRows)) :: (a_g_zoneColumns, .inl (ci 0, 5, .inl g_zoneColumns)) :: (a_g_rows, .inl (ci 0, 5, .inl g_rows)) :: (a_g_sheets, .inl (ci 0, 5, .inl g_sheets)) :: Rw) H → va_S A s.heap H locs → W p l e ({ frames := 3, cells := 0, slots := 0, locals := 73 } : Room) s m ([.ref a_st, .int p1, .int p2] : List Value).toArray below meth c H locs 0 0 Q (F0 m 0 ls []) := by
    intro H locs hH hP hS
    refine lv_iconst (pc := 0) (v := 0) hx hb dX7_lookAt_0 (by decide) ?_
    obtain ⟨v1, ev1, hf⟩ := q_nm_e hf
    refine q_topi ev1 ?_
    refine lv_istore_n (pc := 1) (lv' := [(3, .int v1), (0, .ref a_st), (1, .int p1), (2, .int p2)]) hx hb dX7_lookAt_1 rfl hl (by decide) rfl (fun ls hl => ?_)
    obtain ⟨f4, hm2, hf⟩ := q_b1_e hf
    have JE2 : ∀ (H : Heap) (locs : List Loc) (ls : Array Slot), va_P D vwCl ((a_st, .inr (7, [.ref a_g, .ref a_st_levels, .ref a_st_keys, .ref a_st_years, .ref a_st_keysThere, .int st_size, .int st_shownBy, .int st_deepestShown, .int st_latestShown])) :: (a_st_levels, .inl (ci 0, 60, .inl st_levels)) :: (a_st_keys, .inl (ci 0, 60, .inl st_keys)) :: (a_st_years, .inl (ci 0, 60, .inl st_years)) :: (a_st_keysThere, .inl (ci 0, 5, .inl f4)) :: (a_g, .inr (2, [.ref a_g_rowCuts, .ref a_g_columnCuts, .ref a_g_bandRows, .ref a_g_zoneColumns, .ref a_g_rows, .ref a_g_sheets])) :: (a_g_bandRows, .inl (ci 0, 5, .inl g_bandRows)) :: (a_g_zoneColumns, .inl (ci 0, 5, .inl g_zoneColumns)) :: (a_g_rows, .inl (ci 0, 5, .inl g_rows)) :: (a_g_sheets, .inl (ci 0, 5, .inl g_sheets)) :: Rw) H → va_D A ((a_st, .inr (7, [.ref a_g, .ref a_st_levels, .ref a_st_keys, .ref a_st_years, .ref a_st_keysThere, .int st_size, .int st_shownBy, .int st_deepestShown, .int st_latestShown])) :: (a_st_levels, .inl (ci 0, 60, .inl st_levels)) :: (a_st_keys, .inl (ci 0, 60, .inl st_keys)) :: (a_st_years, .inl (ci 0, 60, .inl st_years)) :: (a_st_keysThere, .inl (ci 0, 5, .inl f4)) :: (a_g, .inr (2, [.ref a_g_rowCuts, .ref a_g_columnCuts, .ref a_g_bandRows, .ref a_g_zoneColumns, .ref a_g_rows, .ref a_g_sheets])) :: (a_g_bandRows, .inl (ci 0, 5, .inl g_bandRows)) :: (a_g_zoneColumns, .inl (ci 0, 5, .inl g_zoneColumns)) :: (a_g_rows, .inl (ci 0, 5, .inl g_rows)) :: (a_g_sheets, .inl (ci 0, 5, .inl g_sheets)) :: Rw) → va_S A s.heap H locs → lv_has ls 4 [(0, .ref a_st)] → W p l e ({ frames := 3, cells := 0, slots := 0, locals := 73 } : Room) s m ([.ref a_st, .int p1, .int p2] : List Value).toArray below meth c H locs 0 0 Q (F0 m 29 ls []) := by
      intro H locs ls hP hD hS hl
      refine lv_aload_n (pc := 29) hx hb dX7_lookAt_29 rfl (lv_at hl 0 rfl) ?_
      refine lv_iconst (pc := 30) (v := 0) hx hb dX7_lookAt_30 (by decide) ?_
      refine va_put (pc := 31) (D := D) (ci := 7) (v := .int 0) (ty := .int) (C := RX7) (T := TX7) (N := 9) hx hb hts hinX7 tyX7 tyX7_ok nmX7 hown hK hP hD hS 0 rfl rfl 6 (by decide) w_3 (fun _ h9 => h9) rfl (by decide +kernel) rfl rfl (Nat.le_of_ble_eq_true rfl) dX7_lookAt_31 (fun H locs hP hD hS => ?_)
      obtain ⟨hP, hD⟩ : va_PD D A ((a_st, .inr (7, [.ref a_g, .ref a_st_levels, .ref a_st_keys, .ref a_st_years, .ref a_st_keysThere, .int st_size, .int 0, .int st_deepestShown, .int st_latestShown])) :: (a_st_levels, .inl (ci 0, 60, .inl st_levels)) :: (a_st_keys, .inl (ci 0, 60, .inl st_keys)) :: (a_st_years, .inl (ci 0, 60, .inl st_years)) :: (a_st_keysThere, .inl (ci 0, 5, .inl f4)) :: (a_g, .inr (2, [.ref a_g_rowCuts, .ref a_g_columnCuts, .ref a_g_bandRows, .ref a_g_zoneColumns, .ref a_g_rows, .ref a_g_sheets])) :: (a_g_bandRows, .inl (ci 0, 5, .inl g_bandRows)) :: (a_g_zoneColumns, .inl (ci 0, 5, .inl g_zoneColumns)) :: (a_g_rows, .inl (ci 0, 5, .inl g_rows)) :: (a_g_sheets, .inl (ci 0, 5, .inl g_sheets)) :: Rw) H := ⟨hP, hD⟩
      refine lv_aload_n (pc := 34) hx hb dX7_lookAt_34 rfl (lv_at hl 0 rfl) ?_
      refine lv_iconst (pc := 35) (v := 0) hx hb dX7_lookAt_35 (by decide) ?_
      refine va_put (pc := 36) (D := D) (ci := 7) (v := .int 0) (ty := .int) (C := RX7) (T := TX7) (N := 9) hx hb hts hinX7 tyX7 tyX7_ok nmX7 hown hK hP hD hS 0 rfl rfl 7 (by decide) w_4 (fun _ h9 => h9) rfl (by decide +kernel) rfl rfl (Nat.le_of_ble_eq_true rfl) dX7_lookAt_36 (fun H locs hP hD hS => ?_)
      obtain ⟨hP, hD⟩ : va_PD D A ((a_st, .inr (7, [.ref a_g, .ref a_st_levels, .ref a_st_keys, .ref a_st_years, .ref a_st_keysThere, .int st_size, .int 0, .int 0, .int st_latestShown])) :: (a_st_levels, .inl (ci 0, 60, .inl st_levels)) :: (a_st_keys, .inl (ci 0, 60, .inl st_keys)) :: (a_st_years, .inl (ci 0, 60, .inl st_years)) :: (a_st_keysThere, .inl (ci 0, 5, .inl f4)) :: (a_g, .inr (2, [.ref a_g_rowCuts, .ref a_g_columnCuts, .ref a_g_bandRows, .ref a_g_zoneColumns, .ref a_g_rows, .ref a_g_sheets])) :: (a_g_bandRows, .inl (ci 0, 5, .inl g_bandRows)) :: (a_g_zoneColumns, .inl (ci 0, 5, .inl g_zoneColumns)) :: (a_g_rows, .inl (ci 0, 5, .inl g_rows)) :: (a_g_sheets, .inl (ci 0, 5, .inl g_sheets)) :: Rw) H := ⟨hP, hD⟩
      refine lv_aload_n (pc := 39) hx hb dX7_lookAt_39 rfl (lv_at hl 0 rfl) ?_
      refine lv_iconst (pc := 40) (v := 0) hx hb dX7_lookAt_40 (by decide) ?_
      refine va_put (pc := 41) (D := D) (ci := 7) (v := .int 0) (ty := .int) (C := RX7) (T := TX7) (N := 9) hx hb hts hinX7 tyX7 tyX7_ok nmX7 hown hK hP hD hS 0 rfl rfl 8 (by decide) w_5 (fun _ h9 => h9) rfl (by decide +kernel) rfl rfl (Nat.le_of_ble_eq_true rfl) dX7_lookAt_41 (fun H locs hP hD hS => ?_)
      obtain ⟨hP, hD⟩ : va_PD D A ((a_st, .inr (7, [.ref a_g, .ref a_st_levels, .ref a_st_keys, .ref a_st_years, .ref a_st_keysThere, .int st_size, .int 0, .int 0, .int 0])) :: (a_st_levels, .inl (ci 0, 60, .inl st_levels)) :: (a_st_keys, .inl (ci 0, 60, .inl st_keys)) :: (a_st_years, .inl (ci 0, 60, .inl st_years)) :: (a_st_keysThere, .inl (ci 0, 5, .inl f4)) :: (a_g, .inr (2, [.ref a_g_rowCuts, .ref a_g_columnCuts, .ref a_g_bandRows, .ref a_g_zoneColumns, .ref a_g_rows, .ref a_g_sheets])) :: (a_g_bandRows, .inl (ci 0, 5, .inl g_bandRows)) :: (a_g_zoneColumns, .inl (ci 0, 5, .inl g_zoneColumns)) :: (a_g_rows, .inl (ci 0, 5, .inl g_rows)) :: (a_g_sheets, .inl (ci 0, 5, .inl g_sheets)) :: Rw) H := ⟨hP, hD⟩
      refine lv_iconst (pc := 44) (v := 0) hx hb dX7_lookAt_44 (by decide) ?_
      obtain ⟨v5, ev5, hf⟩ := q_nm_e hf
      refine q_topi ev5 ?_
      refine lv_istore_n (pc := 45) (lv' := [(3, .int v5), (0, .ref a_st)]) hx hb dX7_lookAt_45 rfl hl (by decide) rfl (fun ls hl => ?_)
      obtain ⟨v10, v11, v12, hm46, hf⟩ := q_b3_e hf
      have JE46 : ∀ (H : Heap) (locs : List Loc) (ls : Array Slot), va_P D vwCl ((a_st, .inr (7, [.ref a_g, .ref a_st_levels, .ref a_st_keys, .ref a_st_years, .ref a_st_keysThere, .int st_size, .int v10, .int v11, .int v12])) :: (a_st_levels, .inl (ci 0, 60, .inl st_levels)) :: (a_st_keys, .inl (ci 0, 60, .inl st_keys)) :: (a_st_years, .inl (ci 0, 60, .inl st_years)) :: (a_st_keysThere, .inl (ci 0, 5, .inl f4)) :: (a_g, .inr (2, [.ref a_g_rowCuts, .ref a_g_columnCuts, .ref a_g_bandRows, .ref a_g_zoneColumns, .ref a_g_rows, .ref a_g_sheets])) :: (a_g_bandRows, .inl (ci 0, 5, .inl g_bandRows)) :: (a_g_zoneColumns, .inl (ci 0, 5, .inl g_zoneColumns)) :: (a_g_rows, .inl (ci 0, 5, .inl g_rows)) :: (a_g_sheets, .inl (ci 0, 5, .inl g_sheets)) :: Rw) H → va_D A ((a_st, .inr (7, [.ref a_g, .ref a_st_levels, .ref a_st_keys, .ref a_st_years, .ref a_st_keysThere, .int st_size, .int v10, .int v11, .int v12])) :: (a_st_levels, .inl (ci 0, 60, .inl st_levels)) :: (a_st_keys, .inl (ci 0, 60, .inl st_keys)) :: (a_st_years, .inl (ci 0, 60, .inl st_years)) :: (a_st_keysThere, .inl (ci 0, 5, .inl f4)) :: (a_g, .inr (2, [.ref a_g_rowCuts, .ref a_g_columnCuts, .ref a_g_bandRows, .ref a_g_zoneColumns, .ref a_g_rows, .ref a_g_sheets])) :: (a_g_bandRows, .inl (ci 0, 5, .inl g_bandRows)) :: (a_g_zoneColumns, .inl (ci 0, 5, .inl g_zoneColumns)) :: (a_g_rows, .inl (ci 0, 5, .inl g_rows)) :: (a_g_sheets, .inl (ci 0, 5, .inl g_sheets)) :: Rw) → va_S A s.heap H locs → lv_has ls 4 [] → W p l e ({ frames := 3, cells := 0, slots := 0, locals := 73 } : Room) s m ([.ref a_st, .int p1, .int p2] : List Value).toArray below meth c H locs 0 0 Q (F0 m 117 ls []) := by
        intro H locs ls hP hD hS hl
        obtain ⟨e90, e91, e92, e93⟩ := q_inj4 (Option.some.inj hf)
        rw [hQ, ← e90, ← e91, ← e92, ← e93]
        exact q_vret (pc := 117) hx hb hr hlocks hP hD hS dX7_lookAt_117
      have LP46 : ∀ (n46 : Nat) (v6 : Int32) (v7 : Int32) (v8 : Int32) (v9 : Int32) (H : Heap) (locs : List Loc) (ls : Array Slot), f_Store_lookAt_L46 f4 st_keys st_levels st_size st_years n46 v6 v7 v8 v9 = some (v10, v11, v12) → va_P D vwCl ((a_st, .inr (7, [.ref a_g, .ref a_st_levels, .ref a_st_keys, .ref a_st_years, .ref a_st_keysThere, .int st_size, .int v7, .int v8, .int v9])) :: (a_st_levels, .inl (ci 0, 60, .inl st_levels)) :: (a_st_keys, .inl (ci 0, 60, .inl st_keys)) :: (a_st_years, .inl (ci 0, 60, .inl st_years)) :: (a_st_keysThere, .inl (ci 0, 5, .inl f4)) :: (a_g, .inr (2, [.ref a_g_rowCuts, .ref a_g_columnCuts, .ref a_g_bandRows, .ref a_g_zoneColumns, .ref a_g_rows, .ref a_g_sheets])) :: (a_g_bandRows, .inl (ci 0, 5, .inl g_bandRows)) :: (a_g_zoneColumns, .inl (ci 0, 5, .inl g_zoneColumns)) :: (a_g_rows, .inl (ci 0, 5, .inl g_rows)) :: (a_g_sheets, .inl (ci 0, 5, .inl g_sheets)) :: Rw) H → va_D A ((a_st, .inr (7, [.ref a_g, .ref a_st_levels, .ref a_st_keys, .ref a_st_years, .ref a_st_keysThere, .int st_size, .int v7, .int v8, .int v9])) :: (a_st_levels, .inl (ci 0, 60, .inl st_levels)) :: (a_st_keys, .inl (ci 0, 60, .inl st_keys)) :: (a_st_years, .inl (ci 0, 60, .inl st_years)) :: (a_st_keysThere, .inl (ci 0, 5, .inl f4)) :: (a_g, .inr (2, [.ref a_g_rowCuts, .ref a_g_columnCuts, .ref a_g_bandRows, .ref a_g_zoneColumns, .ref a_g_rows, .ref a_g_sheets])) :: (a_g_bandRows, .inl (ci 0, 5, .inl g_bandRows)) :: (a_g_zoneColumns, .inl (ci 0, 5, .inl g_zoneColumns)) :: (a_g_rows, .inl (ci 0, 5, .inl g_rows)) :: (a_g_sheets, .inl (ci 0, 5, .inl g_sheets)) :: Rw) → va_S A s.heap H locs → lv_has ls 4 [(0, .ref a_st), (3, .int v6)] → W p l e ({ frames := 3, cells := 0, slots := 0, locals := 73 } : Room) s m ([.ref a_st, .int p1, .int p2] : List Value).toArray below meth c H locs 0 0 Q (F0 m 46 ls []) := by
        intro n46
        induction n46 with
        | zero => intro v6 v7 v8 v9 H locs ls hf; rw [f_Store_lookAt_L46] at hf; cases hf
        | succ n46 ih46 =>
          intro v6 v7 v8 v9 H locs ls hf hP hD hS hl
          rw [f_Store_lookAt_L46] at hf
          refine lv_iload_n (pc := 46) hx hb dX7_lookAt_46 rfl (lv_at hl 1 rfl) ?_
          refine lv_aload_n (pc := 47) hx hb dX7_lookAt_47 rfl (lv_at hl 0 rfl) ?_
          refine va_get (pc := 48) (D := D) (ci := 7) (v := .int st_size) (C := RX7) (T := TX7) (N := 9) hx hb hts hinX7 hown hK hP 0 rfl rfl 5 (by decide) w_6 (fun _ h9 => h9) rfl dX7_lookAt_48 ?_
          refine q_icmp_ge (pc := 51) (tgt := 117) hx hb dX7_lookAt_51 (by decide) rfl hf (fun hf => ?_) (fun hf => ?_)
          · obtain ⟨rfl, rfl, rfl⟩ := q_inj3 (Option.some.inj hf)
            exact JE46 _ _ _ hP hD hS (lv_sub hl [] rfl)
          · refine lv_aload_n (pc := 54) hx hb dX7_lookAt_54 rfl (lv_at hl 0 rfl) ?_
            refine va_get (pc := 55) (D := D) (ci := 7) (v := .ref a_st_keysThere) (C := RX7) (T := TX7) (N := 9) hx hb hts hinX7 hown hK hP 0 rfl rfl 4 (by decide) w_1 (fun _ h9 => h9) rfl dX7_lookAt_55 ?_
            refine lv_aload_n (pc := 58) hx hb dX7_lookAt_58 rfl (lv_at hl 0 rfl) ?_
            refine va_get (pc := 59) (D := D) (ci := 7) (v := .ref a_st_levels) (C := RX7) (T := TX7) (N := 9) hx hb hts hinX7 hown hK hP 0 rfl rfl 1 (by decide) w_7 (fun _ h9 => h9) rfl dX7_lookAt_59 ?_
            refine lv_iload_n (pc := 62) hx hb dX7_lookAt_62 rfl (lv_at hl 1 rfl) ?_
            refine q_iald (pc := 63) hx hb hK hP 1 0 hf rfl rfl dX7_lookAt_63 (fun v13 hf => ?_)
            refine q_iald (pc := 64) hx hb hK hP 4 0 hf rfl rfl dX7_lookAt_64 (fun v14 hf => ?_)
            refine lv_aload_n (pc := 65) hx hb dX7_lookAt_65 rfl (lv_at hl 0 rfl) ?_
            refine va_get (pc := 66) (D := D) (ci := 7) (v := .ref a_st_keys) (C := RX7) (T := TX7) (N := 9) hx hb hts hinX7 hown hK hP 0 rfl rfl 2 (by decide) w_8 (fun _ h9 => h9) rfl dX7_lookAt_66 ?_
            refine lv_iload_n (pc := 69) hx hb dX7_lookAt_69 rfl (lv_at hl 1 rfl) ?_
            refine q_iald (pc := 70) hx hb hK hP 2 0 hf rfl rfl dX7_lookAt_70 (fun v15 hf => ?_)
            obtain ⟨k111, ek111, hf⟩ := q_j3_e hf
            have J111 : ∀ (v16 : Int32) (v17 : Int32) (v18 : Int32) (H : Heap) (locs : List Loc) (ls : Array Slot), k111 v16 v17 v18 = some (v10, v11, v12) → va_P D vwCl ((a_st, .inr (7, [.ref a_g, .ref a_st_levels, .ref a_st_keys, .ref a_st_years, .ref a_st_keysThere, .int st_size, .int v16, .int v17, .int v18])) :: (a_st_levels, .inl (ci 0, 60, .inl st_levels)) :: (a_st_keys, .inl (ci 0, 60, .inl st_keys)) :: (a_st_years, .inl (ci 0, 60, .inl st_years)) :: (a_st_keysThere, .inl (ci 0, 5, .inl f4)) :: (a_g, .inr (2, [.ref a_g_rowCuts, .ref a_g_columnCuts, .ref a_g_bandRows, .ref a_g_zoneColumns, .ref a_g_rows, .ref a_g_sheets])) :: (a_g_bandRows, .inl (ci 0, 5, .inl g_bandRows)) :: (a_g_zoneColumns, .inl (ci 0, 5, .inl g_zoneColumns)) :: (a_g_rows, .inl (ci 0, 5, .inl g_rows)) :: (a_g_sheets, .inl (ci 0, 5, .inl g_sheets)) :: Rw) H → va_D A ((a_st, .inr (7, [.ref a_g, .ref a_st_levels, .ref a_st_keys, .ref a_st_years, .ref a_st_keysThere, .int st_size, .int v16, .int v17, .int v18])) :: (a_st_levels, .inl (ci 0, 60, .inl st_levels)) :: (a_st_keys, .inl (ci 0, 60, .inl st_keys)) :: (a_st_years, .inl (ci 0, 60, .inl st_years)) :: (a_st_keysThere, .inl (ci 0, 5, .inl f4)) :: (a_g, .inr (2, [.ref a_g_rowCuts, .ref a_g_columnCuts, .ref a_g_bandRows, .ref a_g_zoneColumns, .ref a_g_rows, .ref a_g_sheets])) :: (a_g_bandRows, .inl (ci 0, 5, .inl g_bandRows)) :: (a_g_zoneColumns, .inl (ci 0, 5, .inl g_zoneColumns)) :: (a_g_rows, .inl (ci 0, 5, .inl g_rows)) :: (a_g_sheets, .inl (ci 0, 5, .inl g_sheets)) :: Rw) → va_S A s.heap H locs → lv_has ls 4 [(0, .ref a_st), (3, .int v6)] → W p l e ({ frames := 3, cells := 0, slots := 0, locals := 73 } : Room) s m ([.ref a_st, .int p1, .int p2] : List Value).toArray below meth c H locs 0 0 Q (F0 m 111 ls []) := by
              intro v16 v17 v18 H locs ls hf hP hD hS hl
              have hf := (ek111 v16 v17 v18).symm.trans hf
              obtain ⟨v19, ev19, hf⟩ := q_nm_e hf
              refine lv_iinc (pc := 111) (v := v19) (lv' := [(3, .int v19), (0, .ref a_st)]) hx hb dX7_lookAt_111 hl (k := 1) rfl (by rw [ev19]; rfl) (by decide) rfl (fun ls hl => ?_)
              refine lv_goto (pc := 114) (tgt := 46) hx hb dX7_lookAt_114 (by decide) ?_
              exact ih46 v19 v16 v17 v18 _ _ _ hf hP hD hS (lv_sub hl [1, 0] rfl)
            refine q_icmp_ne (pc := 71) (tgt := 111) hx hb dX7_lookAt_71 (by decide) rfl hf (fun hf => ?_) (fun hf => ?_)
            · exact J111 v7 v8 v9 _ _ _ hf hP hD hS (lv_sub hl [0, 1] rfl)
            · refine lv_aload_n (pc := 74) hx hb dX7_lookAt_74 rfl (lv_at hl 0 rfl) ?_
              refine lv_dup (pc := 75) hx hb dX7_lookAt_75 rfl ?_
              refine va_get (pc := 76) (D := D) (ci := 7) (v := .int v7) (C := RX7) (T := TX7) (N := 9) hx hb hts hinX7 hown hK hP 0 rfl rfl 6 (by decide) w_3 (fun _ h9 => h9) rfl dX7_lookAt_76 ?_
              refine lv_iconst (pc := 79) (v := 1) hx hb dX7_lookAt_79 (by decide) ?_
              refine lv_iadd (pc := 80) hx hb dX7_lookAt_80 ?_
              obtain ⟨v20, ev20, hf⟩ := q_nm_e hf
              refine q_topi ev20 ?_
              refine va_put (pc := 81) (D := D) (ci := 7) (v := .int v20) (ty := .int) (C := RX7) (T := TX7) (N := 9) hx hb hts hinX7 tyX7 tyX7_ok nmX7 hown hK hP hD hS 0 rfl rfl 6 (by decide) w_3 (fun _ h9 => h9) rfl (by decide +kernel) rfl rfl (Nat.le_of_ble_eq_true rfl) dX7_lookAt_81 (fun H locs hP hD hS => ?_)
              obtain ⟨hP, hD⟩ : va_PD D A ((a_st, .inr (7, [.ref a_g, .ref a_st_levels, .ref a_st_keys, .ref a_st_years, .ref a_st_keysThere, .int st_size, .int v20, .int v8, .int v9])) :: (a_st_levels, .inl (ci 0, 60, .inl st_levels)) :: (a_st_keys, .inl (ci 0, 60, .inl st_keys)) :: (a_st_years, .inl (ci 0, 60, .inl st_years)) :: (a_st_keysThere, .inl (ci 0, 5, .inl f4)) :: (a_g, .inr (2, [.ref a_g_rowCuts, .ref a_g_columnCuts, .ref a_g_bandRows, .ref a_g_zoneColumns, .ref a_g_rows, .ref a_g_sheets])) :: (a_g_bandRows, .inl (ci 0, 5, .inl g_bandRows)) :: (a_g_zoneColumns, .inl (ci 0, 5, .inl g_zoneColumns)) :: (a_g_rows, .inl (ci 0, 5, .inl g_rows)) :: (a_g_sheets, .inl (ci 0, 5, .inl g_sheets)) :: Rw) H := ⟨hP, hD⟩
              refine lv_aload_n (pc := 84) hx hb dX7_lookAt_84 rfl (lv_at hl 0 rfl) ?_
              refine lv_aload_n (pc := 85) hx hb dX7_lookAt_85 rfl (lv_at hl 0 rfl) ?_
              refine va_get (pc := 86) (D := D) (ci := 7) (v := .ref a_st_levels) (C := RX7) (T := TX7) (N := 9) hx hb hts hinX7 hown hK hP 0 rfl rfl 1 (by decide) w_7 (fun _ h9 => h9) rfl dX7_lookAt_86 ?_
              refine lv_iload_n (pc := 89) hx hb dX7_lookAt_89 rfl (lv_at hl 1 rfl) ?_
              refine q_iald (pc := 90) hx hb hK hP 1 0 hf rfl rfl dX7_lookAt_90 (fun v21 hf => ?_)
              refine va_put (pc := 91) (D := D) (ci := 7) (v := .int v21) (ty := .int) (C := RX7) (T := TX7) (N := 9) hx hb hts hinX7 tyX7 tyX7_ok nmX7 hown hK hP hD hS 0 rfl rfl 7 (by decide) w_4 (fun _ h9 => h9) rfl (by decide +kernel) rfl rfl (Nat.le_of_ble_eq_true rfl) dX7_lookAt_91 (fun H locs hP hD hS => ?_)
              obtain ⟨hP, hD⟩ : va_PD D A ((a_st, .inr (7, [.ref a_g, .ref a_st_levels, .ref a_st_keys, .ref a_st_years, .ref a_st_keysThere, .int st_size, .int v20, .int v21, .int v9])) :: (a_st_levels, .inl (ci 0, 60, .inl st_levels)) :: (a_st_keys, .inl (ci 0, 60, .inl st_keys)) :: (a_st_years, .inl (ci 0, 60, .inl st_years)) :: (a_st_keysThere, .inl (ci 0, 5, .inl f4)) :: (a_g, .inr (2, [.ref a_g_rowCuts, .ref a_g_columnCuts, .ref a_g_bandRows, .ref a_g_zoneColumns, .ref a_g_rows, .ref a_g_sheets])) :: (a_g_bandRows, .inl (ci 0, 5, .inl g_bandRows)) :: (a_g_zoneColumns, .inl (ci 0, 5, .inl g_zoneColumns)) :: (a_g_rows, .inl (ci 0, 5, .inl g_rows)) :: (a_g_sheets, .inl (ci 0, 5, .inl g_sheets)) :: Rw) H := ⟨hP, hD⟩
              refine lv_aload_n (pc := 94) hx hb dX7_lookAt_94 rfl (lv_at hl 0 rfl) ?_
              refine lv_aload_n (pc := 95) hx hb dX7_lookAt_95 rfl (lv_at hl 0 rfl) ?_
              refine va_get (pc := 96) (D := D) (ci := 7) (v := .int v9) (C := RX7) (T := TX7) (N := 9) hx hb hts hinX7 hown hK hP 0 rfl rfl 8 (by decide) w_5 (fun _ h9 => h9) rfl dX7_lookAt_96 ?_
              refine lv_aload_n (pc := 99) hx hb dX7_lookAt_99 rfl (lv_at hl 0 rfl) ?_
              refine va_get (pc := 100) (D := D) (ci := 7) (v := .ref a_st_years) (C := RX7) (T := TX7) (N := 9) hx hb hts hinX7 hown hK hP 0 rfl rfl 3 (by decide) w_9 (fun _ h9 => h9) rfl dX7_lookAt_100 ?_
              refine lv_iload_n (pc := 103) hx hb dX7_lookAt_103 rfl (lv_at hl 1 rfl) ?_
              refine q_iald (pc := 104) hx hb hK hP 3 0 hf rfl rfl dX7_lookAt_104 (fun v22 hf => ?_)
              obtain ⟨v23, ev23, hf⟩ := q_nm_e hf
              refine va_mmax (pc := 105) hx hb (hml.trans hl.1.symm) hown w_10 w_11 w_12 w_13 (Nat.le_of_ble_eq_true rfl) (Nat.le_of_ble_eq_true rfl) (Nat.zero_le _) (Nat.zero_le _) dX7_lookAt_105 ?_
              refine q_topi ev23 ?_
              refine va_put (pc := 108) (D := D) (ci := 7) (v := .int v23) (ty := .int) (C := RX7) (T := TX7) (N := 9) hx hb hts hinX7 tyX7 tyX7_ok nmX7 hown hK hP hD hS 0 rfl rfl 8 (by decide) w_5 (fun _ h9 => h9) rfl (by decide +kernel) rfl rfl (Nat.le_of_ble_eq_true rfl) dX7_lookAt_108 (fun H locs hP hD hS => ?_)
              obtain ⟨hP, hD⟩ : va_PD D A ((a_st, .inr (7, [.ref a_g, .ref a_st_levels, .ref a_st_keys, .ref a_st_years, .ref a_st_keysThere, .int st_size, .int v20, .int v21, .int v23])) :: (a_st_levels, .inl (ci 0, 60, .inl st_levels)) :: (a_st_keys, .inl (ci 0, 60, .inl st_keys)) :: (a_st_years, .inl (ci 0, 60, .inl st_years)) :: (a_st_keysThere, .inl (ci 0, 5, .inl f4)) :: (a_g, .inr (2, [.ref a_g_rowCuts, .ref a_g_columnCuts, .ref a_g_bandRows, .ref a_g_zoneColumns, .ref a_g_rows, .ref a_g_sheets])) :: (a_g_bandRows, .inl (ci 0, 5, .inl g_bandRows)) :: (a_g_zoneColumns, .inl (ci 0, 5, .inl g_zoneColumns)) :: (a_g_rows, .inl (ci 0, 5, .inl g_rows)) :: (a_g_sheets, .inl (ci 0, 5, .inl g_sheets)) :: Rw) H := ⟨hP, hD⟩
              exact J111 v20 v21 v23 _ _ _ hf hP hD hS (lv_sub hl [0, 1] rfl)
      exact LP46 N v5 0 0 0 _ _ _ hm46 hP hD hS (lv_sub hl [1, 0] rfl)
    have LP2 : ∀ (n2 : Nat) (v2 : Int32) (f3 : Nat → Int32) (H : Heap) (locs : List Loc) (ls : Array Slot), f_Store_lookAt_L2 g_bandRows g_rows g_sheets g_zoneColumns p1 p2 n2 v2 f3 = some f4 → va_P D vwCl ((a_st, .inr (7, [.ref a_g, .ref a_st_levels, .ref a_st_keys, .ref a_st_years, .ref a_st_keysThere, .int st_size, .int st_shownBy, .int st_deepestShown, .int st_latestShown])) :: (a_st_levels, .inl (ci 0, 60, .inl st_levels)) :: (a_st_keys, .inl (ci 0, 60, .inl st_keys)) :: (a_st_years, .inl (ci 0, 60, .inl st_years)) :: (a_st_keysThere, .inl (ci 0, 5, .inl f3)) :: (a_g, .inr (2, [.ref a_g_rowCuts, .ref a_g_columnCuts, .ref a_g_bandRows, .ref a_g_zoneColumns, .ref a_g_rows, .ref a_g_sheets])) :: (a_g_bandRows, .inl (ci 0, 5, .inl g_bandRows)) :: (a_g_zoneColumns, .inl (ci 0, 5, .inl g_zoneColumns)) :: (a_g_rows, .inl (ci 0, 5, .inl g_rows)) :: (a_g_sheets, .inl (ci 0, 5, .inl g_sheets)) :: Rw) H → va_D A ((a_st, .inr (7, [.ref a_g, .ref a_st_levels, .ref a_st_keys, .ref a_st_years, .ref a_st_keysThere, .int st_size, .int st_shownBy, .int st_deepestShown, .int st_latestShown])) :: (a_st_levels, .inl (ci 0, 60, .inl st_levels)) :: (a_st_keys, .inl (ci 0, 60, .inl st_keys)) :: (a_st_years, .inl (ci 0, 60, .inl st_years)) :: (a_st_keysThere, .inl (ci 0, 5, .inl f3)) :: (a_g, .inr (2, [.ref a_g_rowCuts, .ref a_g_columnCuts, .ref a_g_bandRows, .ref a_g_zoneColumns, .ref a_g_rows, .ref a_g_sheets])) :: (a_g_bandRows, .inl (ci 0, 5, .inl g_bandRows)) :: (a_g_zoneColumns, .inl (ci 0, 5, .inl g_zoneColumns)) :: (a_g_rows, .inl (ci 0, 5, .inl g_rows)) :: (a_g_sheets, .inl (ci 0, 5, .inl g_sheets)) :: Rw) → va_S A s.heap H locs → lv_has ls 4 [(0, .ref a_st), (1, .int p1), (2, .int p2), (3, .int v2)] → W p l e ({ frames := 3, cells := 0, slots := 0, locals := 73 } : Room) s m ([.ref a_st, .int p1, .int p2] : List Value).toArray below meth c H locs 0 0 Q (F0 m 2 ls []) := by
      intro n2
      induction n2 with
      | zero => intro v2 f3 H locs ls hf; rw [f_Store_lookAt_L2] at hf; cases hf
      | succ n2 ih2 =>
        intro v2 f3 H locs ls hf hP hD hS hl
        rw [f_Store_lookAt_L2] at hf
        refine lv_iload_n (pc := 2) hx hb dX7_lookAt_2 rfl (lv_at hl 3 rfl) ?_
        refine lv_iconst (pc := 3) (v := 4) hx hb dX7_lookAt_3 (by decide) ?_
        refine q_icmp_gt (pc := 4) (tgt := 29) hx hb dX7_lookAt_4 (by decide) rfl hf (fun hf => ?_) (fun hf => ?_)
        · obtain rfl := Option.some.inj hf
          exact JE2 _ _ _ hP hD hS (lv_sub hl [0] rfl)
        · refine lv_aload_n (pc := 7) hx hb dX7_lookAt_7 rfl (lv_at hl 0 rfl) ?_
          refine va_get (pc := 8) (D := D) (ci := 7) (v := .ref a_st_keysThere) (C := RX7) (T := TX7) (N := 9) hx hb hts hinX7 hown hK hP 0 rfl rfl 4 (by decide) w_1 (fun _ h9 => h9) rfl dX7_lookAt_8 ?_
          refine lv_iload_n (pc := 11) hx hb dX7_lookAt_11 rfl (lv_at hl 3 rfl) ?_
          refine lv_aload_n (pc := 12) hx hb dX7_lookAt_12 rfl (lv_at hl 0 rfl) ?_
          refine va_get (pc := 13) (D := D) (ci := 7) (v := .ref a_g) (C := RX7) (T := TX7) (N := 9) hx hb hts hinX7 hown hK hP 0 rfl rfl 0 (by decide) w_2 (fun _ h9 => h9) rfl dX7_lookAt_13 ?_
          refine lv_iload_n (pc := 16) hx hb dX7_lookAt_16 rfl (lv_at hl 3 rfl) ?_
          refine lv_iload_n (pc := 17) hx hb dX7_lookAt_17 rfl (lv_at hl 1 rfl) ?_
          refine lv_iload_n (pc := 18) hx hb dX7_lookAt_18 rfl (lv_at hl 2 rfl) ?_
          obtain ⟨v24, hm19, hf⟩ := q_b1_e hf
          refine q_cVr (pc := 19) (As := [.int v2, .int p1, .int p2]) (rest := [.int v2, .ref a_st_keysThere]) (v0 := (some (.int v24))) ⟨hx, hb, hml, hown, hts⟩ hK hA hZ hP hD hS hl.1 [5, 6, 7, 8, 9] 10 rfl ⟨rfl, rfl, rfl⟩ (c_Grid_keyOf l D ci A sa N (Rw) a_g a_g_rowCuts a_g_columnCuts a_g_bandRows a_g_zoneColumns a_g_rows a_g_sheets g_bandRows g_zoneColumns g_rows g_sheets v2 p1 p2 v24 hm19) 5 rfl rfl (cwV 3 hts gX7_lookAt_X2_keyOf rfl rfl rfl (by decide +kernel) ⟨Nat.le_of_ble_eq_true rfl, Nat.le_of_ble_eq_true rfl⟩) rfl rfl (Nat.le_of_ble_eq_true rfl) dX7_lookAt_19 ⟨Nat.zero_le _, Nat.zero_le _⟩ (fun locs hS => ?_)
          refine q_iast (pc := 22) hx hb hK hP hD hS 4 0 hf rfl rfl dX7_lookAt_22 (fun f25 H locs hf hP hD hS => ?_)
          obtain ⟨hP, hD⟩ : va_PD D A ((a_st, .inr (7, [.ref a_g, .ref a_st_levels, .ref a_st_keys, .ref a_st_years, .ref a_st_keysThere, .int st_size, .int st_shownBy, .int st_deepestShown, .int st_latestShown])) :: (a_st_levels, .inl (ci 0, 60, .inl st_levels)) :: (a_st_keys, .inl (ci 0, 60, .inl st_keys)) :: (a_st_years, .inl (ci 0, 60, .inl st_years)) :: (a_st_keysThere, .inl (ci 0, 5, .inl f25)) :: (a_g, .inr (2, [.ref a_g_rowCuts, .ref a_g_columnCuts, .ref a_g_bandRows, .ref a_g_zoneColumns, .ref a_g_rows, .ref a_g_sheets])) :: (a_g_bandRows, .inl (ci 0, 5, .inl g_bandRows)) :: (a_g_zoneColumns, .inl (ci 0, 5, .inl g_zoneColumns)) :: (a_g_rows, .inl (ci 0, 5, .inl g_rows)) :: (a_g_sheets, .inl (ci 0, 5, .inl g_sheets)) :: Rw) H := ⟨hP, hD⟩
          obtain ⟨v26, ev26, hf⟩ := q_nm_e hf
          refine lv_iinc (pc := 23) (v := v26) (lv' := [(3, .int v26), (0, .ref a_st), (1, .int p1), (2, .int p2)]) hx hb dX7_lookAt_23 hl (k := 3) rfl (by rw [ev26]; rfl) (by decide) rfl (fun ls hl => ?_)
          refine lv_goto (pc := 26) (tgt := 2) hx hb dX7_lookAt_26 (by decide) ?_
          exact ih2 v26 f25 _ _ _ hf hP hD hS (lv_sub hl [1, 2, 3, 0] rfl)
    exact LP2 N v1 st_keysThere _ _ _ hm2 hP hD hS (lv_sub hl [1, 2, 3, 0] rfl)
  exact hgo _ _ rfl hP hS
/-! X7_move -/
set_option maxRecDepth 100000 in
set_option maxHeartbeats 4000000 in
theorem c_Store_move (l : Launch) (D : va_G) (ci : Nat → ClassId) (A : Nat → Prop) (sa : Nat → Nat) (N : Nat) (Rw : va_W) (a_st : Nat) (a_g : Nat) (a_st_levels : Nat) (a_st_keys : Nat) (a_st_years : Nat) (a_st_keysThere : Nat) (st_size : Int32) (st_shownBy : Int32) (st_deepestShown : Int32) (st_latestShown : Int32) (st_levels : Nat → Int32) (st_keys : Nat → Int32) (st_years : Nat → Int32) (p1 : Int32) (p2 : Int32) (o1 : Nat → Int32) (o2 : Nat → Int32) (o3 : Nat → Int32) (hf : f_Store_move st_levels st_keys st_years p1 p2 = some (o1, o2, o3)) : Met l yX7_move wsX7_move ({ frames := 0, cells := 0, slots := 0, locals := 0 }) (va_Pc [.ref a_st, .int p1, .int p2] (q_N D ci A sa ((a_st, .inr (7, [.ref a_g, .ref a_st_levels, .ref a_st_keys, .ref a_st_years, .ref a_st_keysThere, .int st_size, .int st_shownBy, .int st_deepestShown, .int st_latestShown])) :: (a_st_levels, .inl (ci 0, 60, .inl st_levels)) :: (a_st_keys, .inl (ci 0, 60, .inl st_keys)) :: (a_st_years, .inl (ci 0, 60, .inl st_years)) :: Rw))) (q_Q none (q_O D A ((a_st, .inr (7, [.ref a_g, .ref a_st_levels, .ref a_st_keys, .ref a_st_years, .ref a_st_keysThere, .int st_size, .int st_shownBy, .int st_deepestShown, .int st_latestShown])) :: (a_st_levels, .inl (ci 0, 60, .inl o1)) :: (a_st_keys, .inl (ci 0, 60, .inl o2)) :: (a_st_years, .inl (ci 0, 60, .inl o3)) :: Rw)) A) 0 0 A := by
  refine q_ofW (cc := cX7_move) (maxL := 3) (ret := none) [.ref a_st, .int p1, .int p2] (plainFor_of_name (by decide)) rfl (Nat.le_of_ble_eq_true rfl) ?_
  intro p e s m below meth c ls Q hQ hx hb hml hr hts hown hlocks hK hA hZ hP hD hS hl
  have hl : lv_has ls 3 [(0, .ref a_st), (1, .int p1), (2, .int p2)] := hl
  have hown : s.vm.findClass RX7 = some m.cls := hown
  have hinX7 : ∀ w ∈ wsX70, w ∈ wsX7_move := fun _ h => List.mem_cons_of_mem _ (inWX70 _ h)
  have w_1 := hts (Cond.fieldLink RX7 9 "SheetNames$Store" "levels" "[I") (List.mem_cons_of_mem _ t_w859)
  have w_2 := hts (Cond.fieldLink RX7 15 "SheetNames$Store" "keys" "[I") (List.mem_cons_of_mem _ t_w861)
  have w_3 := hts (Cond.fieldLink RX7 18 "SheetNames$Store" "years" "[I") (List.mem_cons_of_mem _ t_w862)
  unfold f_Store_move at hf
  have hgo : ∀ (H : Heap) (locs : List Loc), H = s.heap → va_P D vwCl ((a_st, .inr (7, [.ref a_g, .ref a_st_levels, .ref a_st_keys, .ref a_st_years, .ref a_st_keysThere, .int st_size, .int st_shownBy, .int st_deepestShown, .int st_latestShown])) :: (a_st_levels, .inl (ci 0, 60, .inl st_levels)) :: (a_st_keys, .inl (ci 0, 60, .inl st_keys)) :: (a_st_years, .inl (ci 0, 60, .inl st_years)) :: Rw) H → va_S A s.heap H locs → W p l e ({ frames := 0, cells := 0, slots := 0, locals := 0 } : Room) s m ([.ref a_st, .int p1, .int p2] : List Value).toArray below meth c H locs 0 0 Q (F0 m 0 ls []) := by
    intro H locs hH hP hS
    refine lv_aload_n (pc := 0) hx hb dX7_move_0 rfl (lv_at hl 0 rfl) ?_
    refine va_get (pc := 1) (D := D) (ci := 7) (v := .ref a_st_levels) (C := RX7) (T := TX7) (N := 9) hx hb hts hinX7 hown hK hP 0 rfl rfl 1 (by decide) w_1 (fun _ h9 => h9) rfl dX7_move_1 ?_
    refine lv_iload_n (pc := 4) hx hb dX7_move_4 rfl (lv_at hl 2 rfl) ?_
    refine lv_aload_n (pc := 5) hx hb dX7_move_5 rfl (lv_at hl 0 rfl) ?_
    refine va_get (pc := 6) (D := D) (ci := 7) (v := .ref a_st_levels) (C := RX7) (T := TX7) (N := 9) hx hb hts hinX7 hown hK hP 0 rfl rfl 1 (by decide) w_1 (fun _ h9 => h9) rfl dX7_move_6 ?_
    refine lv_iload_n (pc := 9) hx hb dX7_move_9 rfl (lv_at hl 1 rfl) ?_
    refine q_iald (pc := 10) hx hb hK hP 1 0 hf rfl rfl dX7_move_10 (fun v1 hf => ?_)
    refine q_iast (pc := 11) hx hb hK hP hD hS 1 0 hf rfl rfl dX7_move_11 (fun f2 H locs hf hP hD hS => ?_)
    obtain ⟨hP, hD⟩ : va_PD D A ((a_st, .inr (7, [.ref a_g, .ref a_st_levels, .ref a_st_keys, .ref a_st_years, .ref a_st_keysThere, .int st_size, .int st_shownBy, .int st_deepestShown, .int st_latestShown])) :: (a_st_levels, .inl (ci 0, 60, .inl f2)) :: (a_st_keys, .inl (ci 0, 60, .inl st_keys)) :: (a_st_years, .inl (ci 0, 60, .inl st_years)) :: Rw) H := ⟨hP, hD⟩
    refine lv_aload_n (pc := 12) hx hb dX7_move_12 rfl (lv_at hl 0 rfl) ?_
    refine va_get (pc := 13) (D := D) (ci := 7) (v := .ref a_st_keys) (C := RX7) (T := TX7) (N := 9) hx hb hts hinX7 hown hK hP 0 rfl rfl 2 (by decide) w_2 (fun _ h9 => h9) rfl dX7_move_13 ?_
    refine lv_iload_n (pc := 16) hx hb dX7_move_16 rfl (lv_at hl 2 rfl) ?_
    refine lv_aload_n (pc := 17) hx hb dX7_move_17 rfl (lv_at hl 0 rfl) ?_
    refine va_get (pc := 18) (D := D) (ci := 7) (v := .ref a_st_keys) (C := RX7) (T := TX7) (N := 9) hx hb hts hinX7 hown hK hP 0 rfl rfl 2 (by decide) w_2 (fun _ h9 => h9) rfl dX7_move_18 ?_
    refine lv_iload_n (pc := 21) hx hb dX7_move_21 rfl (lv_at hl 1 rfl) ?_
    refine q_iald (pc := 22) hx hb hK hP 2 0 hf rfl rfl dX7_move_22 (fun v3 hf => ?_)
    refine q_iast (pc := 23) hx hb hK hP hD hS 2 0 hf rfl rfl dX7_move_23 (fun f4 H locs hf hP hD hS => ?_)
    obtain ⟨hP, hD⟩ : va_PD D A ((a_st, .inr (7, [.ref a_g, .ref a_st_levels, .ref a_st_keys, .ref a_st_years, .ref a_st_keysThere, .int st_size, .int st_shownBy, .int st_deepestShown, .int st_latestShown])) :: (a_st_levels, .inl (ci 0, 60, .inl f2)) :: (a_st_keys, .inl (ci 0, 60, .inl f4)) :: (a_st_years, .inl (ci 0, 60, .inl st_years)) :: Rw) H := ⟨hP, hD⟩
    refine lv_aload_n (pc := 24) hx hb dX7_move_24 rfl (lv_at hl 0 rfl) ?_
    refine va_get (pc := 25) (D := D) (ci := 7) (v := .ref a_st_years) (C := RX7) (T := TX7) (N := 9) hx hb hts hinX7 hown hK hP 0 rfl rfl 3 (by decide) w_3 (fun _ h9 => h9) rfl dX7_move_25 ?_
    refine lv_iload_n (pc := 28) hx hb dX7_move_28 rfl (lv_at hl 2 rfl) ?_
    refine lv_aload_n (pc := 29) hx hb dX7_move_29 rfl (lv_at hl 0 rfl) ?_
    refine va_get (pc := 30) (D := D) (ci := 7) (v := .ref a_st_years) (C := RX7) (T := TX7) (N := 9) hx hb hts hinX7 hown hK hP 0 rfl rfl 3 (by decide) w_3 (fun _ h9 => h9) rfl dX7_move_30 ?_
    refine lv_iload_n (pc := 33) hx hb dX7_move_33 rfl (lv_at hl 1 rfl) ?_
    refine q_iald (pc := 34) hx hb hK hP 3 0 hf rfl rfl dX7_move_34 (fun v5 hf => ?_)
    refine q_iast (pc := 35) hx hb hK hP hD hS 3 0 hf rfl rfl dX7_move_35 (fun f6 H locs hf hP hD hS => ?_)
    obtain ⟨hP, hD⟩ : va_PD D A ((a_st, .inr (7, [.ref a_g, .ref a_st_levels, .ref a_st_keys, .ref a_st_years, .ref a_st_keysThere, .int st_size, .int st_shownBy, .int st_deepestShown, .int st_latestShown])) :: (a_st_levels, .inl (ci 0, 60, .inl f2)) :: (a_st_keys, .inl (ci 0, 60, .inl f4)) :: (a_st_years, .inl (ci 0, 60, .inl f6)) :: Rw) H := ⟨hP, hD⟩
    obtain ⟨e90, e91, e92⟩ := q_inj3 (Option.some.inj hf)
    rw [hQ, ← e90, ← e91, ← e92]
    exact q_vret (pc := 36) hx hb hr hlocks hP hD hS dX7_move_36
  exact hgo _ _ rfl hP hS
/-! X7_put -/
set_option maxRecDepth 100000 in
set_option maxHeartbeats 4000000 in
theorem c_Store_put (l : Launch) (D : va_G) (ci : Nat → ClassId) (A : Nat → Prop) (sa : Nat → Nat) (N : Nat) (Rw : va_W) (a_st : Nat) (a_g : Nat) (a_st_levels : Nat) (a_st_keys : Nat) (a_st_years : Nat) (a_st_keysThere : Nat) (st_size : Int32) (st_shownBy : Int32) (st_deepestShown : Int32) (st_latestShown : Int32) (st_levels : Nat → Int32) (st_keys : Nat → Int32) (st_years : Nat → Int32) (p1 : Int32) (p2 : Int32) (p3 : Int32) (r : Int32) (o1 : Nat → Int32) (o2 : Nat → Int32) (o3 : Nat → Int32) (o4 : Int32) (hf : f_Store_put N st_levels st_keys st_years st_size p1 p2 p3 = some (r, o1, o2, o3, o4)) : Met l yX7_put wsX7_put ({ frames := 1, cells := 0, slots := 0, locals := 23 }) (va_Pc [.ref a_st, .int p1, .int p2, .int p3] (q_N D ci A sa ((a_st, .inr (7, [.ref a_g, .ref a_st_levels, .ref a_st_keys, .ref a_st_years, .ref a_st_keysThere, .int st_size, .int st_shownBy, .int st_deepestShown, .int st_latestShown])) :: (a_st_levels, .inl (ci 0, 60, .inl st_levels)) :: (a_st_keys, .inl (ci 0, 60, .inl st_keys)) :: (a_st_years, .inl (ci 0, 60, .inl st_years)) :: Rw))) (q_Q (some (.int r)) (q_O D A ((a_st, .inr (7, [.ref a_g, .ref a_st_levels, .ref a_st_keys, .ref a_st_years, .ref a_st_keysThere, .int o4, .int st_shownBy, .int st_deepestShown, .int st_latestShown])) :: (a_st_levels, .inl (ci 0, 60, .inl o1)) :: (a_st_keys, .inl (ci 0, 60, .inl o2)) :: (a_st_years, .inl (ci 0, 60, .inl o3)) :: Rw)) A) 0 0 A := by
  refine q_ofW (cc := cX7_put) (maxL := 6) (ret := (some .boolean)) [.ref a_st, .int p1, .int p2, .int p3] (plainFor_of_name (by decide)) rfl (Nat.le_of_ble_eq_true rfl) ?_
  intro p e s m below meth c ls Q hQ hx hb hml hr hts hown hlocks hK hA hZ hP hD hS hl
  have hl : lv_has ls 6 [(0, .ref a_st), (1, .int p1), (2, .int p2), (3, .int p3)] := hl
  have hown : s.vm.findClass RX7 = some m.cls := hown
  have hinX7 : ∀ w ∈ wsX70, w ∈ wsX7_put := fun _ h => List.mem_cons_of_mem _ (inWX70 _ h)
  have w_1 := hts (Cond.fieldLink RX7 18 "SheetNames$Store" "years" "[I") (List.mem_cons_of_mem _ t_w862)
  have w_2 := hts (Cond.fieldLink RX7 24 "SheetNames$Store" "size" "I") (List.mem_cons_of_mem _ t_w863)
  have w_3 := hts (Cond.fieldLink RX7 9 "SheetNames$Store" "levels" "[I") (List.mem_cons_of_mem _ t_w859)
  have w_4 := hts (Cond.fieldLink RX7 15 "SheetNames$Store" "keys" "[I") (List.mem_cons_of_mem _ t_w861)
  unfold f_Store_put at hf
  have hgo : ∀ (H : Heap) (locs : List Loc), H = s.heap → va_P D vwCl ((a_st, .inr (7, [.ref a_g, .ref a_st_levels, .ref a_st_keys, .ref a_st_years, .ref a_st_keysThere, .int st_size, .int st_shownBy, .int st_deepestShown, .int st_latestShown])) :: (a_st_levels, .inl (ci 0, 60, .inl st_levels)) :: (a_st_keys, .inl (ci 0, 60, .inl st_keys)) :: (a_st_years, .inl (ci 0, 60, .inl st_years)) :: Rw) H → va_S A s.heap H locs → W p l e ({ frames := 1, cells := 0, slots := 0, locals := 23 } : Room) s m ([.ref a_st, .int p1, .int p2, .int p3] : List Value).toArray below meth c H locs 0 0 Q (F0 m 0 ls []) := by
    intro H locs hH hP hS
    refine lv_aload_n (pc := 0) hx hb dX7_put_0 rfl (lv_at hl 0 rfl) ?_
    refine lv_iload_n (pc := 1) hx hb dX7_put_1 rfl (lv_at hl 1 rfl) ?_
    refine lv_iload_n (pc := 2) hx hb dX7_put_2 rfl (lv_at hl 2 rfl) ?_
    obtain ⟨v1, hm3, hf⟩ := q_b1_e hf
    refine q_cVr (pc := 3) (As := [.int p1, .int p2]) (rest := []) (v0 := (some (.int v1))) ⟨hx, hb, hml, hown, hts⟩ hK hA hZ hP hD hS hl.1 [0, 1, 2] 4 rfl ⟨rfl, rfl, rfl⟩ (c_Store_find l D ci A sa N (Rw) a_st a_g a_st_levels a_st_keys a_st_years a_st_keysThere st_size st_shownBy st_deepestShown st_latestShown st_levels st_keys p1 p2 v1 hm3) 0 rfl rfl (cwV 2 hts gX7_put_X7_find rfl rfl rfl (by decide +kernel) ⟨Nat.le_of_ble_eq_true rfl, Nat.le_of_ble_eq_true rfl⟩) rfl rfl (Nat.le_of_ble_eq_true rfl) dX7_put_3 ⟨Nat.zero_le _, Nat.zero_le _⟩ (fun locs hS => ?_)
    refine lv_istore (pc := 6) (lv' := [(4, .int v1), (0, .ref a_st), (1, .int p1), (2, .int p2), (3, .int p3)]) hx hb dX7_put_6 hl (by decide) rfl (fun ls hl => ?_)
    refine lv_iload (pc := 8) hx hb dX7_put_8 (lv_at hl 0 rfl) ?_
    refine lv_iconst (pc := 10) (v := (-1)) hx hb dX7_put_10 (by decide) ?_
    refine q_icmp_eq (pc := 11) (tgt := 24) hx hb dX7_put_11 (by decide) rfl hf (fun hf => ?_) (fun hf => ?_)
    · refine lv_aload_n (pc := 24) hx hb dX7_put_24 rfl (lv_at hl 1 rfl) ?_
      refine va_get (pc := 25) (D := D) (ci := 7) (v := .int st_size) (C := RX7) (T := TX7) (N := 9) hx hb hts hinX7 hown hK hP 0 rfl rfl 5 (by decide) w_2 (fun _ h9 => h9) rfl dX7_put_25 ?_
      refine lv_bipush (pc := 28) (v := 60) hx hb dX7_put_28 (by decide) ?_
      refine q_icmp_lt (pc := 30) (tgt := 35) hx hb dX7_put_30 (by decide) rfl hf (fun hf => ?_) (fun hf => ?_)
      · refine lv_aload_n (pc := 35) hx hb dX7_put_35 rfl (lv_at hl 1 rfl) ?_
        refine va_get (pc := 36) (D := D) (ci := 7) (v := .int st_size) (C := RX7) (T := TX7) (N := 9) hx hb hts hinX7 hown hK hP 0 rfl rfl 5 (by decide) w_2 (fun _ h9 => h9) rfl dX7_put_36 ?_
        refine lv_istore (pc := 39) (lv' := [(5, .int st_size), (4, .int v1), (0, .ref a_st), (1, .int p1), (2, .int p2), (3, .int p3)]) hx hb dX7_put_39 hl (by decide) rfl (fun ls hl => ?_)
        obtain ⟨v6, f7, f8, f9, hm41, hf⟩ := q_b4_e hf
        have JE41 : ∀ (H : Heap) (locs : List Loc) (ls : Array Slot), va_P D vwCl ((a_st, .inr (7, [.ref a_g, .ref a_st_levels, .ref a_st_keys, .ref a_st_years, .ref a_st_keysThere, .int st_size, .int st_shownBy, .int st_deepestShown, .int st_latestShown])) :: (a_st_levels, .inl (ci 0, 60, .inl f7)) :: (a_st_keys, .inl (ci 0, 60, .inl f8)) :: (a_st_years, .inl (ci 0, 60, .inl f9)) :: Rw) H → va_D A ((a_st, .inr (7, [.ref a_g, .ref a_st_levels, .ref a_st_keys, .ref a_st_years, .ref a_st_keysThere, .int st_size, .int st_shownBy, .int st_deepestShown, .int st_latestShown])) :: (a_st_levels, .inl (ci 0, 60, .inl f7)) :: (a_st_keys, .inl (ci 0, 60, .inl f8)) :: (a_st_years, .inl (ci 0, 60, .inl f9)) :: Rw) → va_S A s.heap H locs → lv_has ls 6 [(0, .ref a_st), (1, .int p1), (2, .int p2), (3, .int p3), (5, .int v6)] → W p l e ({ frames := 1, cells := 0, slots := 0, locals := 23 } : Room) s m ([.ref a_st, .int p1, .int p2, .int p3] : List Value).toArray below meth c H locs 0 0 Q (F0 m 75 ls []) := by
          intro H locs ls hP hD hS hl
          refine lv_aload_n (pc := 75) hx hb dX7_put_75 rfl (lv_at hl 0 rfl) ?_
          refine va_get (pc := 76) (D := D) (ci := 7) (v := .ref a_st_levels) (C := RX7) (T := TX7) (N := 9) hx hb hts hinX7 hown hK hP 0 rfl rfl 1 (by decide) w_3 (fun _ h9 => h9) rfl dX7_put_76 ?_
          refine lv_iload (pc := 79) hx hb dX7_put_79 (lv_at hl 4 rfl) ?_
          refine lv_iload_n (pc := 81) hx hb dX7_put_81 rfl (lv_at hl 1 rfl) ?_
          refine q_iast (pc := 82) hx hb hK hP hD hS 1 0 hf rfl rfl dX7_put_82 (fun f10 H locs hf hP hD hS => ?_)
          obtain ⟨hP, hD⟩ : va_PD D A ((a_st, .inr (7, [.ref a_g, .ref a_st_levels, .ref a_st_keys, .ref a_st_years, .ref a_st_keysThere, .int st_size, .int st_shownBy, .int st_deepestShown, .int st_latestShown])) :: (a_st_levels, .inl (ci 0, 60, .inl f10)) :: (a_st_keys, .inl (ci 0, 60, .inl f8)) :: (a_st_years, .inl (ci 0, 60, .inl f9)) :: Rw) H := ⟨hP, hD⟩
          refine lv_aload_n (pc := 83) hx hb dX7_put_83 rfl (lv_at hl 0 rfl) ?_
          refine va_get (pc := 84) (D := D) (ci := 7) (v := .ref a_st_keys) (C := RX7) (T := TX7) (N := 9) hx hb hts hinX7 hown hK hP 0 rfl rfl 2 (by decide) w_4 (fun _ h9 => h9) rfl dX7_put_84 ?_
          refine lv_iload (pc := 87) hx hb dX7_put_87 (lv_at hl 4 rfl) ?_
          refine lv_iload_n (pc := 89) hx hb dX7_put_89 rfl (lv_at hl 2 rfl) ?_
          refine q_iast (pc := 90) hx hb hK hP hD hS 2 0 hf rfl rfl dX7_put_90 (fun f11 H locs hf hP hD hS => ?_)
          obtain ⟨hP, hD⟩ : va_PD D A ((a_st, .inr (7, [.ref a_g, .ref a_st_levels, .ref a_st_keys, .ref a_st_years, .ref a_st_keysThere, .int st_size, .int st_shownBy, .int st_deepestShown, .int st_latestShown])) :: (a_st_levels, .inl (ci 0, 60, .inl f10)) :: (a_st_keys, .inl (ci 0, 60, .inl f11)) :: (a_st_years, .inl (ci 0, 60, .inl f9)) :: Rw) H := ⟨hP, hD⟩
          refine lv_aload_n (pc := 91) hx hb dX7_put_91 rfl (lv_at hl 0 rfl) ?_
          refine va_get (pc := 92) (D := D) (ci := 7) (v := .ref a_st_years) (C := RX7) (T := TX7) (N := 9) hx hb hts hinX7 hown hK hP 0 rfl rfl 3 (by decide) w_1 (fun _ h9 => h9) rfl dX7_put_92 ?_
          refine lv_iload (pc := 95) hx hb dX7_put_95 (lv_at hl 4 rfl) ?_
          refine lv_iload_n (pc := 97) hx hb dX7_put_97 rfl (lv_at hl 3 rfl) ?_
          refine q_iast (pc := 98) hx hb hK hP hD hS 3 0 hf rfl rfl dX7_put_98 (fun f12 H locs hf hP hD hS => ?_)
          obtain ⟨hP, hD⟩ : va_PD D A ((a_st, .inr (7, [.ref a_g, .ref a_st_levels, .ref a_st_keys, .ref a_st_years, .ref a_st_keysThere, .int st_size, .int st_shownBy, .int st_deepestShown, .int st_latestShown])) :: (a_st_levels, .inl (ci 0, 60, .inl f10)) :: (a_st_keys, .inl (ci 0, 60, .inl f11)) :: (a_st_years, .inl (ci 0, 60, .inl f12)) :: Rw) H := ⟨hP, hD⟩
          refine lv_aload_n (pc := 99) hx hb dX7_put_99 rfl (lv_at hl 0 rfl) ?_
          refine lv_dup (pc := 100) hx hb dX7_put_100 rfl ?_
          refine va_get (pc := 101) (D := D) (ci := 7) (v := .int st_size) (C := RX7) (T := TX7) (N := 9) hx hb hts hinX7 hown hK hP 0 rfl rfl 5 (by decide) w_2 (fun _ h9 => h9) rfl dX7_put_101 ?_
          refine lv_iconst (pc := 104) (v := 1) hx hb dX7_put_104 (by decide) ?_
          refine lv_iadd (pc := 105) hx hb dX7_put_105 ?_
          obtain ⟨v13, ev13, hf⟩ := q_nm_e hf
          refine q_topi ev13 ?_
          refine va_put (pc := 106) (D := D) (ci := 7) (v := .int v13) (ty := .int) (C := RX7) (T := TX7) (N := 9) hx hb hts hinX7 tyX7 tyX7_ok nmX7 hown hK hP hD hS 0 rfl rfl 5 (by decide) w_2 (fun _ h9 => h9) rfl (by decide +kernel) rfl rfl (Nat.le_of_ble_eq_true rfl) dX7_put_106 (fun H locs hP hD hS => ?_)
          obtain ⟨hP, hD⟩ : va_PD D A ((a_st, .inr (7, [.ref a_g, .ref a_st_levels, .ref a_st_keys, .ref a_st_years, .ref a_st_keysThere, .int v13, .int st_shownBy, .int st_deepestShown, .int st_latestShown])) :: (a_st_levels, .inl (ci 0, 60, .inl f10)) :: (a_st_keys, .inl (ci 0, 60, .inl f11)) :: (a_st_years, .inl (ci 0, 60, .inl f12)) :: Rw) H := ⟨hP, hD⟩
          refine lv_iconst (pc := 109) (v := 1) hx hb dX7_put_109 (by decide) ?_
          obtain ⟨e90, e91, e92, e93, e94⟩ := q_inj5 (Option.some.inj hf)
          rw [hQ, ← e90, ← e91, ← e92, ← e93, ← e94]
          exact q_zret (pc := 110) hx hb hr rfl hlocks hP hD hS dX7_put_110
        have LP41 : ∀ (n41 : Nat) (v2 : Int32) (f3 : Nat → Int32) (f4 : Nat → Int32) (f5 : Nat → Int32) (H : Heap) (locs : List Loc) (ls : Array Slot), f_Store_put_L41 p1 p2 n41 v2 f3 f4 f5 = some (v6, f7, f8, f9) → va_P D vwCl ((a_st, .inr (7, [.ref a_g, .ref a_st_levels, .ref a_st_keys, .ref a_st_years, .ref a_st_keysThere, .int st_size, .int st_shownBy, .int st_deepestShown, .int st_latestShown])) :: (a_st_levels, .inl (ci 0, 60, .inl f3)) :: (a_st_keys, .inl (ci 0, 60, .inl f4)) :: (a_st_years, .inl (ci 0, 60, .inl f5)) :: Rw) H → va_D A ((a_st, .inr (7, [.ref a_g, .ref a_st_levels, .ref a_st_keys, .ref a_st_years, .ref a_st_keysThere, .int st_size, .int st_shownBy, .int st_deepestShown, .int st_latestShown])) :: (a_st_levels, .inl (ci 0, 60, .inl f3)) :: (a_st_keys, .inl (ci 0, 60, .inl f4)) :: (a_st_years, .inl (ci 0, 60, .inl f5)) :: Rw) → va_S A s.heap H locs → lv_has ls 6 [(0, .ref a_st), (1, .int p1), (2, .int p2), (3, .int p3), (5, .int v2)] → W p l e ({ frames := 1, cells := 0, slots := 0, locals := 23 } : Room) s m ([.ref a_st, .int p1, .int p2, .int p3] : List Value).toArray below meth c H locs 0 0 Q (F0 m 41 ls []) := by
          intro n41
          induction n41 with
          | zero => intro v2 f3 f4 f5 H locs ls hf; rw [f_Store_put_L41] at hf; cases hf
          | succ n41 ih41 =>
            intro v2 f3 f4 f5 H locs ls hf hP hD hS hl
            rw [f_Store_put_L41] at hf
            refine lv_iload (pc := 41) hx hb dX7_put_41 (lv_at hl 4 rfl) ?_
            refine q_if_le (pc := 43) (tgt := 75) hx hb dX7_put_43 (by decide) rfl hf (fun hf => ?_) (fun hf => ?_)
            · obtain ⟨rfl, rfl, rfl, rfl⟩ := q_inj4 (Option.some.inj hf)
              exact JE41 _ _ _ hP hD hS (lv_sub hl [0, 1, 2, 3, 4] rfl)
            · refine lv_aload_n (pc := 46) hx hb dX7_put_46 rfl (lv_at hl 0 rfl) ?_
              refine lv_iload (pc := 47) hx hb dX7_put_47 (lv_at hl 4 rfl) ?_
              refine lv_iconst (pc := 49) (v := 1) hx hb dX7_put_49 (by decide) ?_
              refine lv_isub (pc := 50) hx hb dX7_put_50 ?_
              refine lv_iload_n (pc := 51) hx hb dX7_put_51 rfl (lv_at hl 1 rfl) ?_
              refine lv_iload_n (pc := 52) hx hb dX7_put_52 rfl (lv_at hl 2 rfl) ?_
              obtain ⟨v14, hm53, hf⟩ := q_b1_e hf
              refine q_cVr (pc := 53) (As := [.int (v2 - 1), .int p1, .int p2]) (rest := []) (v0 := (some (.int v14))) ⟨hx, hb, hml, hown, hts⟩ hK hA hZ hP hD hS hl.1 [0, 1, 2] 4 rfl ⟨rfl, rfl, rfl⟩ (c_Store_isBehind l D ci A sa N (Rw) a_st a_g a_st_levels a_st_keys a_st_years a_st_keysThere st_size st_shownBy st_deepestShown st_latestShown f3 f4 (v2 - 1) p1 p2 v14 hm53) 0 rfl rfl (cwV 3 hts gX7_put_X7_isBehind rfl rfl rfl (by decide +kernel) ⟨Nat.le_of_ble_eq_true rfl, Nat.le_of_ble_eq_true rfl⟩) rfl rfl (Nat.le_of_ble_eq_true rfl) dX7_put_53 ⟨Nat.zero_le _, Nat.zero_le _⟩ (fun locs hS => ?_)
              refine q_if_eq (pc := 56) (tgt := 75) hx hb dX7_put_56 (by decide) rfl hf (fun hf => ?_) (fun hf => ?_)
              · obtain ⟨rfl, rfl, rfl, rfl⟩ := q_inj4 (Option.some.inj hf)
                exact JE41 _ _ _ hP hD hS (lv_sub hl [0, 1, 2, 3, 4] rfl)
              · refine lv_aload_n (pc := 59) hx hb dX7_put_59 rfl (lv_at hl 0 rfl) ?_
                refine lv_iload (pc := 60) hx hb dX7_put_60 (lv_at hl 4 rfl) ?_
                refine lv_iconst (pc := 62) (v := 1) hx hb dX7_put_62 (by decide) ?_
                refine lv_isub (pc := 63) hx hb dX7_put_63 ?_
                refine lv_iload (pc := 64) hx hb dX7_put_64 (lv_at hl 4 rfl) ?_
                obtain ⟨f15, f16, f17, hm66, hf⟩ := q_b3_e hf
                refine q_cV (pc := 66) (As := [.int (v2 - 1), .int v2]) (rest := []) (v0 := none) ⟨hx, hb, hml, hown, hts⟩ hK hA hZ hP hD hS hl.1 [0, 1, 2, 3] 4 rfl ⟨rfl, rfl, rfl⟩ (c_Store_move l D ci A sa N (Rw) a_st a_g a_st_levels a_st_keys a_st_years a_st_keysThere st_size st_shownBy st_deepestShown st_latestShown f3 f4 f5 (v2 - 1) v2 f15 f16 f17 hm66) 0 rfl rfl (cwV 2 hts gX7_put_X7_move rfl rfl rfl (by decide +kernel) ⟨Nat.le_of_ble_eq_true rfl, Nat.le_of_ble_eq_true rfl⟩) rfl rfl (Nat.le_of_ble_eq_true rfl) dX7_put_66 ⟨Nat.zero_le _, Nat.zero_le _⟩ [0, 1, 2, 3] 4 rfl ⟨rfl, rfl, rfl⟩ (fun H locs hP hD hS => ?_)
                obtain ⟨hP, hD⟩ : va_PD D A ((a_st, .inr (7, [.ref a_g, .ref a_st_levels, .ref a_st_keys, .ref a_st_years, .ref a_st_keysThere, .int st_size, .int st_shownBy, .int st_deepestShown, .int st_latestShown])) :: (a_st_levels, .inl (ci 0, 60, .inl f15)) :: (a_st_keys, .inl (ci 0, 60, .inl f16)) :: (a_st_years, .inl (ci 0, 60, .inl f17)) :: Rw) H := ⟨hP, hD⟩
                obtain ⟨v18, ev18, hf⟩ := q_nm_e hf
                refine lv_iinc (pc := 69) (v := v18) (lv' := [(5, .int v18), (0, .ref a_st), (1, .int p1), (2, .int p2), (3, .int p3)]) hx hb dX7_put_69 hl (k := 4) rfl (by rw [ev18]; rfl) (by decide) rfl (fun ls hl => ?_)
                refine lv_goto (pc := 72) (tgt := 41) hx hb dX7_put_72 (by decide) ?_
                exact ih41 v18 f15 f16 f17 _ _ _ hf hP hD hS (lv_sub hl [1, 2, 3, 4, 0] rfl)
        exact LP41 N st_size st_levels st_keys st_years _ _ _ hm41 hP hD hS (lv_sub hl [2, 3, 4, 5, 0] rfl)
      · refine lv_iconst (pc := 33) (v := 0) hx hb dX7_put_33 (by decide) ?_
        obtain ⟨e90, e91, e92, e93, e94⟩ := q_inj5 (Option.some.inj hf)
        rw [hQ, ← e90, ← e91, ← e92, ← e93, ← e94]
        exact q_zret (pc := 34) hx hb hr rfl hlocks hP hD hS dX7_put_34
    · refine lv_aload_n (pc := 14) hx hb dX7_put_14 rfl (lv_at hl 1 rfl) ?_
      refine va_get (pc := 15) (D := D) (ci := 7) (v := .ref a_st_years) (C := RX7) (T := TX7) (N := 9) hx hb hts hinX7 hown hK hP 0 rfl rfl 3 (by decide) w_1 (fun _ h9 => h9) rfl dX7_put_15 ?_
      refine lv_iload (pc := 18) hx hb dX7_put_18 (lv_at hl 0 rfl) ?_
      refine lv_iload_n (pc := 20) hx hb dX7_put_20 rfl (lv_at hl 4 rfl) ?_
      refine q_iast (pc := 21) hx hb hK hP hD hS 3 0 hf rfl rfl dX7_put_21 (fun f19 H locs hf hP hD hS => ?_)
      obtain ⟨hP, hD⟩ : va_PD D A ((a_st, .inr (7, [.ref a_g, .ref a_st_levels, .ref a_st_keys, .ref a_st_years, .ref a_st_keysThere, .int st_size, .int st_shownBy, .int st_deepestShown, .int st_latestShown])) :: (a_st_levels, .inl (ci 0, 60, .inl st_levels)) :: (a_st_keys, .inl (ci 0, 60, .inl st_keys)) :: (a_st_years, .inl (ci 0, 60, .inl f19)) :: Rw) H := ⟨hP, hD⟩
      refine lv_iconst (pc := 22) (v := 1) hx hb dX7_put_22 (by decide) ?_
      obtain ⟨e90, e91, e92, e93, e94⟩ := q_inj5 (Option.some.inj hf)
      rw [hQ, ← e90, ← e91, ← e92, ← e93, ← e94]
      exact q_zret (pc := 23) hx hb hr rfl hlocks hP hD hS dX7_put_23
  exact hgo _ _ rfl hP hS
/-! X7_remove -/
set_option maxRecDepth 100000 in
set_option maxHeartbeats 4000000 in
theorem c_Store_remove (l : Launch) (D : va_G) (ci : Nat → ClassId) (A : Nat → Prop) (sa : Nat → Nat) (N : Nat) (Rw : va_W) (a_st : Nat) (a_g : Nat) (a_st_levels : Nat) (a_st_keys : Nat) (a_st_years : Nat) (a_st_keysThere : Nat) (st_size : Int32) (st_shownBy : Int32) (st_deepestShown : Int32) (st_latestShown : Int32) (st_levels : Nat → Int32) (st_keys : Nat → Int32) (st_years : Nat → Int32) (p1 : Int32) (o1 : Nat → Int32) (o2 : Nat → Int32) (o3 : Nat → Int32) (o4 : Int32) (hf : f_Store_remove N st_levels st_keys st_years st_size p1 = some (o1, o2, o3, o4)) : Met l yX7_remove wsX7_remove ({ frames := 1, cells := 0, slots := 0, locals := 22 }) (va_Pc [.ref a_st, .int p1] (q_N D ci A sa ((a_st, .inr (7, [.ref a_g, .ref a_st_levels, .ref a_st_keys, .ref a_st_years, .ref a_st_keysThere, .int st_size, .int st_shownBy, .int st_deepestShown, .int st_latestShown])) :: (a_st_levels, .inl (ci 0, 60, .inl st_levels)) :: (a_st_keys, .inl (ci 0, 60, .inl st_keys)) :: (a_st_years, .inl (ci 0, 60, .inl st_years)) :: Rw))) (q_Q none (q_O D A ((a_st, .inr (7, [.ref a_g, .ref a_st_levels, .ref a_st_keys, .ref a_st_years, .ref a_st_keysThere, .int o4, .int st_shownBy, .int st_deepestShown, .int st_latestShown])) :: (a_st_levels, .inl (ci 0, 60, .inl o1)) :: (a_st_keys, .inl (ci 0, 60, .inl o2)) :: (a_st_years, .inl (ci 0, 60, .inl o3)) :: Rw)) A) 0 0 A := by
  refine q_ofW (cc := cX7_remove) (maxL := 3) (ret := none) [.ref a_st, .int p1] (plainFor_of_name (by decide)) rfl (Nat.le_of_ble_eq_true rfl) ?_
  intro p e s m below meth c ls Q hQ hx hb hml hr hts hown hlocks hK hA hZ hP hD hS hl
  have hl : lv_has ls 3 [(0, .ref a_st), (1, .int p1)] := hl
  have hown : s.vm.findClass RX7 = some m.cls := hown
  have hinX7 : ∀ w ∈ wsX70, w ∈ wsX7_remove := fun _ h => List.mem_cons_of_mem _ (inWX70 _ h)
  have w_1 := hts (Cond.fieldLink RX7 24 "SheetNames$Store" "size" "I") (List.mem_cons_of_mem _ t_w863)
  unfold f_Store_remove at hf
  have hgo : ∀ (H : Heap) (locs : List Loc), H = s.heap → va_P D vwCl ((a_st, .inr (7, [.ref a_g, .ref a_st_levels, .ref a_st_keys, .ref a_st_years, .ref a_st_keysThere, .int st_size, .int st_shownBy, .int st_deepestShown, .int st_latestShown])) :: (a_st_levels, .inl (ci 0, 60, .inl st_levels)) :: (a_st_keys, .inl (ci 0, 60, .inl st_keys)) :: (a_st_years, .inl (ci 0, 60, .inl st_years)) :: Rw) H → va_S A s.heap H locs → W p l e ({ frames := 1, cells := 0, slots := 0, locals := 22 } : Room) s m ([.ref a_st, .int p1] : List Value).toArray below meth c H locs 0 0 Q (F0 m 0 ls []) := by
    intro H locs hH hP hS
    refine lv_iload_n (pc := 0) hx hb dX7_remove_0 rfl (lv_at hl 1 rfl) ?_
    refine lv_iconst (pc := 1) (v := 1) hx hb dX7_remove_1 (by decide) ?_
    refine lv_iadd (pc := 2) hx hb dX7_remove_2 ?_
    obtain ⟨v1, ev1, hf⟩ := q_nm_e hf
    refine q_topi ev1 ?_
    refine lv_istore_n (pc := 3) (lv' := [(2, .int v1), (0, .ref a_st), (1, .int p1)]) hx hb dX7_remove_3 rfl hl (by decide) rfl (fun ls hl => ?_)
    obtain ⟨f6, f7, f8, hm4, hf⟩ := q_b3_e hf
    have JE4 : ∀ (H : Heap) (locs : List Loc) (ls : Array Slot), va_P D vwCl ((a_st, .inr (7, [.ref a_g, .ref a_st_levels, .ref a_st_keys, .ref a_st_years, .ref a_st_keysThere, .int st_size, .int st_shownBy, .int st_deepestShown, .int st_latestShown])) :: (a_st_levels, .inl (ci 0, 60, .inl f6)) :: (a_st_keys, .inl (ci 0, 60, .inl f7)) :: (a_st_years, .inl (ci 0, 60, .inl f8)) :: Rw) H → va_D A ((a_st, .inr (7, [.ref a_g, .ref a_st_levels, .ref a_st_keys, .ref a_st_years, .ref a_st_keysThere, .int st_size, .int st_shownBy, .int st_deepestShown, .int st_latestShown])) :: (a_st_levels, .inl (ci 0, 60, .inl f6)) :: (a_st_keys, .inl (ci 0, 60, .inl f7)) :: (a_st_years, .inl (ci 0, 60, .inl f8)) :: Rw) → va_S A s.heap H locs → lv_has ls 3 [(0, .ref a_st)] → W p l e ({ frames := 1, cells := 0, slots := 0, locals := 22 } : Room) s m ([.ref a_st, .int p1] : List Value).toArray below meth c H locs 0 0 Q (F0 m 26 ls []) := by
      intro H locs ls hP hD hS hl
      refine lv_aload_n (pc := 26) hx hb dX7_remove_26 rfl (lv_at hl 0 rfl) ?_
      refine lv_dup (pc := 27) hx hb dX7_remove_27 rfl ?_
      refine va_get (pc := 28) (D := D) (ci := 7) (v := .int st_size) (C := RX7) (T := TX7) (N := 9) hx hb hts hinX7 hown hK hP 0 rfl rfl 5 (by decide) w_1 (fun _ h9 => h9) rfl dX7_remove_28 ?_
      refine lv_iconst (pc := 31) (v := 1) hx hb dX7_remove_31 (by decide) ?_
      refine lv_isub (pc := 32) hx hb dX7_remove_32 ?_
      obtain ⟨v9, ev9, hf⟩ := q_nm_e hf
      refine q_topi ev9 ?_
      refine va_put (pc := 33) (D := D) (ci := 7) (v := .int v9) (ty := .int) (C := RX7) (T := TX7) (N := 9) hx hb hts hinX7 tyX7 tyX7_ok nmX7 hown hK hP hD hS 0 rfl rfl 5 (by decide) w_1 (fun _ h9 => h9) rfl (by decide +kernel) rfl rfl (Nat.le_of_ble_eq_true rfl) dX7_remove_33 (fun H locs hP hD hS => ?_)
      obtain ⟨hP, hD⟩ : va_PD D A ((a_st, .inr (7, [.ref a_g, .ref a_st_levels, .ref a_st_keys, .ref a_st_years, .ref a_st_keysThere, .int v9, .int st_shownBy, .int st_deepestShown, .int st_latestShown])) :: (a_st_levels, .inl (ci 0, 60, .inl f6)) :: (a_st_keys, .inl (ci 0, 60, .inl f7)) :: (a_st_years, .inl (ci 0, 60, .inl f8)) :: Rw) H := ⟨hP, hD⟩
      obtain ⟨e90, e91, e92, e93⟩ := q_inj4 (Option.some.inj hf)
      rw [hQ, ← e90, ← e91, ← e92, ← e93]
      exact q_vret (pc := 36) hx hb hr hlocks hP hD hS dX7_remove_36
    have LP4 : ∀ (n4 : Nat) (v2 : Int32) (f3 : Nat → Int32) (f4 : Nat → Int32) (f5 : Nat → Int32) (H : Heap) (locs : List Loc) (ls : Array Slot), f_Store_remove_L4 st_size n4 v2 f3 f4 f5 = some (f6, f7, f8) → va_P D vwCl ((a_st, .inr (7, [.ref a_g, .ref a_st_levels, .ref a_st_keys, .ref a_st_years, .ref a_st_keysThere, .int st_size, .int st_shownBy, .int st_deepestShown, .int st_latestShown])) :: (a_st_levels, .inl (ci 0, 60, .inl f3)) :: (a_st_keys, .inl (ci 0, 60, .inl f4)) :: (a_st_years, .inl (ci 0, 60, .inl f5)) :: Rw) H → va_D A ((a_st, .inr (7, [.ref a_g, .ref a_st_levels, .ref a_st_keys, .ref a_st_years, .ref a_st_keysThere, .int st_size, .int st_shownBy, .int st_deepestShown, .int st_latestShown])) :: (a_st_levels, .inl (ci 0, 60, .inl f3)) :: (a_st_keys, .inl (ci 0, 60, .inl f4)) :: (a_st_years, .inl (ci 0, 60, .inl f5)) :: Rw) → va_S A s.heap H locs → lv_has ls 3 [(0, .ref a_st), (2, .int v2)] → W p l e ({ frames := 1, cells := 0, slots := 0, locals := 22 } : Room) s m ([.ref a_st, .int p1] : List Value).toArray below meth c H locs 0 0 Q (F0 m 4 ls []) := by
      intro n4
      induction n4 with
      | zero => intro v2 f3 f4 f5 H locs ls hf; rw [f_Store_remove_L4] at hf; cases hf
      | succ n4 ih4 =>
        intro v2 f3 f4 f5 H locs ls hf hP hD hS hl
        rw [f_Store_remove_L4] at hf
        refine lv_iload_n (pc := 4) hx hb dX7_remove_4 rfl (lv_at hl 1 rfl) ?_
        refine lv_aload_n (pc := 5) hx hb dX7_remove_5 rfl (lv_at hl 0 rfl) ?_
        refine va_get (pc := 6) (D := D) (ci := 7) (v := .int st_size) (C := RX7) (T := TX7) (N := 9) hx hb hts hinX7 hown hK hP 0 rfl rfl 5 (by decide) w_1 (fun _ h9 => h9) rfl dX7_remove_6 ?_
        refine q_icmp_ge (pc := 9) (tgt := 26) hx hb dX7_remove_9 (by decide) rfl hf (fun hf => ?_) (fun hf => ?_)
        · obtain ⟨rfl, rfl, rfl⟩ := q_inj3 (Option.some.inj hf)
          exact JE4 _ _ _ hP hD hS (lv_sub hl [0] rfl)
        · refine lv_aload_n (pc := 12) hx hb dX7_remove_12 rfl (lv_at hl 0 rfl) ?_
          refine lv_iload_n (pc := 13) hx hb dX7_remove_13 rfl (lv_at hl 1 rfl) ?_
          refine lv_iload_n (pc := 14) hx hb dX7_remove_14 rfl (lv_at hl 1 rfl) ?_
          refine lv_iconst (pc := 15) (v := 1) hx hb dX7_remove_15 (by decide) ?_
          refine lv_isub (pc := 16) hx hb dX7_remove_16 ?_
          obtain ⟨f10, f11, f12, hm17, hf⟩ := q_b3_e hf
          refine q_cV (pc := 17) (As := [.int v2, .int (v2 - 1)]) (rest := []) (v0 := none) ⟨hx, hb, hml, hown, hts⟩ hK hA hZ hP hD hS hl.1 [0, 1, 2, 3] 4 rfl ⟨rfl, rfl, rfl⟩ (c_Store_move l D ci A sa N (Rw) a_st a_g a_st_levels a_st_keys a_st_years a_st_keysThere st_size st_shownBy st_deepestShown st_latestShown f3 f4 f5 v2 (v2 - 1) f10 f11 f12 hm17) 0 rfl rfl (cwV 2 hts gX7_remove_X7_move rfl rfl rfl (by decide +kernel) ⟨Nat.le_of_ble_eq_true rfl, Nat.le_of_ble_eq_true rfl⟩) rfl rfl (Nat.le_of_ble_eq_true rfl) dX7_remove_17 ⟨Nat.zero_le _, Nat.zero_le _⟩ [0, 1, 2, 3] 4 rfl ⟨rfl, rfl, rfl⟩ (fun H locs hP hD hS => ?_)
          obtain ⟨hP, hD⟩ : va_PD D A ((a_st, .inr (7, [.ref a_g, .ref a_st_levels, .ref a_st_keys, .ref a_st_years, .ref a_st_keysThere, .int st_size, .int st_shownBy, .int st_deepestShown, .int st_latestShown])) :: (a_st_levels, .inl (ci 0, 60, .inl f10)) :: (a_st_keys, .inl (ci 0, 60, .inl f11)) :: (a_st_years, .inl (ci 0, 60, .inl f12)) :: Rw) H := ⟨hP, hD⟩
          obtain ⟨v13, ev13, hf⟩ := q_nm_e hf
          refine lv_iinc (pc := 20) (v := v13) (lv' := [(2, .int v13), (0, .ref a_st)]) hx hb dX7_remove_20 hl (k := 1) rfl (by rw [ev13]; rfl) (by decide) rfl (fun ls hl => ?_)
          refine lv_goto (pc := 23) (tgt := 4) hx hb dX7_remove_23 (by decide) ?_
          exact ih4 v13 f10 f11 f12 _ _ _ hf hP hD hS (lv_sub hl [1, 0] rfl)
    exact LP4 N v1 st_levels st_keys st_years _ _ _ hm4 hP hD hS (lv_sub hl [1, 0] rfl)
  exact hgo _ _ rfl hP hS
/-! X0_copyFrom -/
set_option maxRecDepth 100000 in
set_option maxHeartbeats 4000000 in
theorem c_Atlas_copyFrom (l : Launch) (D : va_G) (ci : Nat → ClassId) (A : Nat → Prop) (sa : Nat → Nat) (N : Nat) (Rw : va_W) (a_at : Nat) (a_g : Nat) (a_st : Nat) (a_st_levels : Nat) (a_st_keys : Nat) (a_st_years : Nat) (a_st_keysThere : Nat) (a_g_rowCuts : Nat) (a_g_columnCuts : Nat) (a_g_bandRows : Nat) (a_g_zoneColumns : Nat) (a_g_rows : Nat) (a_g_sheets : Nat) (a_at2 : Nat) (a_g2 : Nat) (a_st2 : Nat) (a_st2_levels : Nat) (a_st2_keys : Nat) (a_st2_years : Nat) (a_st2_keysThere : Nat) (a_g2_rowCuts : Nat) (a_g2_columnCuts : Nat) (a_g2_bandRows : Nat) (a_g2_zoneColumns : Nat) (a_g2_rows : Nat) (a_g2_sheets : Nat) (at_right : Int32) (at_faulty : Int32) (at_endedSoon : Int32) (at_noSuchNumber : Int32) (st_size : Int32) (st_shownBy : Int32) (st_deepestShown : Int32) (st_latestShown : Int32) (st_levels : Nat → Int32) (st_keys : Nat → Int32) (st_years : Nat → Int32) (g_rowCuts : Nat → Int32) (g_columnCuts : Nat → Int32) (g_bandRows : Nat → Int32) (g_zoneColumns : Nat → Int32) (g_rows : Nat → Int32) (g_sheets : Nat → Int32) (at2_right : Int32) (at2_faulty : Int32) (at2_endedSoon : Int32) (at2_noSuchNumber : Int32) (st2_size : Int32) (st2_shownBy : Int32) (st2_deepestShown : Int32) (st2_latestShown : Int32) (st2_levels : Nat → Int32) (st2_keys : Nat → Int32) (st2_years : Nat → Int32) (g2_rowCuts : Nat → Int32) (g2_columnCuts : Nat → Int32) (o1 : Int32) (o2 : Int32) (o3 : Int32) (o4 : Int32) (o5 : Nat → Int32) (o6 : Nat → Int32) (o7 : Nat → Int32) (o8 : Int32) (o9 : Nat → Int32) (o10 : Nat → Int32) (o11 : Nat → Int32) (o12 : Nat → Int32) (o13 : Nat → Int32) (o14 : Nat → Int32) (hf : f_Atlas_copyFrom N at_right at_faulty at_endedSoon at_noSuchNumber st_levels st_keys st_years st_size g_rowCuts g_columnCuts g_bandRows g_zoneColumns g_rows g_sheets at2_right at2_faulty at2_endedSoon at2_noSuchNumber st2_levels st2_keys st2_years st2_size g2_rowCuts g2_columnCuts = some (o1, o2, o3, o4, o5, o6, o7, o8, o9, o10, o11, o12, o13, o14)) : Met l yX0_copyFrom wsX0_copyFrom ({ frames := 2, cells := 0, slots := 0, locals := 61 }) (va_Pc [.ref a_at, .ref a_at2] (q_N D ci A sa ((a_at, .inr (0, [.ref a_g, .ref a_st, .int at_right, .int at_faulty, .int at_endedSoon, .int at_noSuchNumber])) :: (a_st, .inr (7, [.ref a_g, .ref a_st_levels, .ref a_st_keys, .ref a_st_years, .ref a_st_keysThere, .int st_size, .int st_shownBy, .int st_deepestShown, .int st_latestShown])) :: (a_st_levels, .inl (ci 0, 60, .inl st_levels)) :: (a_st_keys, .inl (ci 0, 60, .inl st_keys)) :: (a_st_years, .inl (ci 0, 60, .inl st_years)) :: (a_g, .inr (2, [.ref a_g_rowCuts, .ref a_g_columnCuts, .ref a_g_bandRows, .ref a_g_zoneColumns, .ref a_g_rows, .ref a_g_sheets])) :: (a_g_rowCuts, .inl (ci 0, 5, .inl g_rowCuts)) :: (a_g_columnCuts, .inl (ci 0, 5, .inl g_columnCuts)) :: (a_g_bandRows, .inl (ci 0, 5, .inl g_bandRows)) :: (a_g_zoneColumns, .inl (ci 0, 5, .inl g_zoneColumns)) :: (a_g_rows, .inl (ci 0, 5, .inl g_rows)) :: (a_g_sheets, .inl (ci 0, 5, .inl g_sheets)) :: (a_at2, .inr (0, [.ref a_g2, .ref a_st2, .int at2_right, .int at2_faulty, .int at2_endedSoon, .int at2_noSuchNumber])) :: (a_st2, .inr (7, [.ref a_g2, .ref a_st2_levels, .ref a_st2_keys, .ref a_st2_years, .ref a_st2_keysThere, .int st2_size, .int st2_shownBy, .int st2_deepestShown, .int st2_latestShown])) :: (a_st2_levels, .inl (ci 0, 60, .inl st2_levels)) :: (a_st2_keys, .inl (ci 0, 60, .inl st2_keys)) :: (a_st2_years, .inl (ci 0, 60, .inl st2_years)) :: (a_g2, .inr (2, [.ref a_g2_rowCuts, .ref a_g2_columnCuts, .ref a_g2_bandRows, .ref a_g2_zoneColumns, .ref a_g2_rows, .ref a_g2_sheets])) :: (a_g2_rowCuts, .inl (ci 0, 5, .inl g2_rowCuts)) :: (a_g2_columnCuts, .inl (ci 0, 5, .inl g2_columnCuts)) :: Rw))) (q_Q none (q_O D A ((a_at, .inr (0, [.ref a_g, .ref a_st, .int o1, .int o2, .int o3, .int o4])) :: (a_st, .inr (7, [.ref a_g, .ref a_st_levels, .ref a_st_keys, .ref a_st_years, .ref a_st_keysThere, .int o8, .int st_shownBy, .int st_deepestShown, .int st_latestShown])) :: (a_st_levels, .inl (ci 0, 60, .inl o5)) :: (a_st_keys, .inl (ci 0, 60, .inl o6)) :: (a_st_years, .inl (ci 0, 60, .inl o7)) :: (a_g, .inr (2, [.ref a_g_rowCuts, .ref a_g_columnCuts, .ref a_g_bandRows, .ref a_g_zoneColumns, .ref a_g_rows, .ref a_g_sheets])) :: (a_g_rowCuts, .inl (ci 0, 5, .inl o9)) :: (a_g_columnCuts, .inl (ci 0, 5, .inl o10)) :: (a_g_bandRows, .inl (ci 0, 5, .inl o11)) :: (a_g_zoneColumns, .inl (ci 0, 5, .inl o12)) :: (a_g_rows, .inl (ci 0, 5, .inl o13)) :: (a_g_sheets, .inl (ci 0, 5, .inl o14)) :: (a_at2, .inr (0, [.ref a_g2, .ref a_st2, .int at2_right, .int at2_faulty, .int at2_endedSoon, .int at2_noSuchNumber])) :: (a_st2, .inr (7, [.ref a_g2, .ref a_st2_levels, .ref a_st2_keys, .ref a_st2_years, .ref a_st2_keysThere, .int st2_size, .int st2_shownBy, .int st2_deepestShown, .int st2_latestShown])) :: (a_st2_levels, .inl (ci 0, 60, .inl st2_levels)) :: (a_st2_keys, .inl (ci 0, 60, .inl st2_keys)) :: (a_st2_years, .inl (ci 0, 60, .inl st2_years)) :: (a_g2, .inr (2, [.ref a_g2_rowCuts, .ref a_g2_columnCuts, .ref a_g2_bandRows, .ref a_g2_zoneColumns, .ref a_g2_rows, .ref a_g2_sheets])) :: (a_g2_rowCuts, .inl (ci 0, 5, .inl g2_rowCuts)) :: (a_g2_columnCuts, .inl (ci 0, 5, .inl g2_columnCuts)) :: Rw)) A) 0 0 A := by
  refine q_ofW (cc := cX0_copyFrom) (maxL := 2) (ret := none) [.ref a_at, .ref a_at2] (plainFor_of_name (by decide)) rfl (Nat.le_of_ble_eq_true rfl) ?_
  intro p e s m below meth c ls Q hQ hx hb hml hr hts hown hlocks hK hA hZ hP hD hS hl
  have hl : lv_has ls 2 [(0, .ref a_at), (1, .ref a_at2)] := hl
  have hown : s.vm.findClass RX0 = some m.cls := hown
  have hinX0 : ∀ w ∈ wsX00, w ∈ wsX0_copyFrom := fun _ h => List.mem_cons_of_mem _ (inWX00 _ h)
  have w_1 := hts (Cond.fieldLink RX0 12 "SheetNames$Atlas" "grid" "LSheetNames$Grid;") (List.mem_cons_of_mem _ t_w870)
  have w_2 := hts (Cond.fieldLink RX0 23 "SheetNames$Atlas" "store" "LSheetNames$Store;") (List.mem_cons_of_mem _ t_w871)
  have w_3 := hts (Cond.fieldLink RX0 27 "SheetNames$Atlas" "right" "I") (List.mem_cons_of_mem _ t_w872)
  have w_4 := hts (Cond.fieldLink RX0 31 "SheetNames$Atlas" "faulty" "I") (List.mem_cons_of_mem _ t_w873)
  have w_5 := hts (Cond.fieldLink RX0 34 "SheetNames$Atlas" "endedSoon" "I") (List.mem_cons_of_mem _ t_w874)
  have w_6 := hts (Cond.fieldLink RX0 37 "SheetNames$Atlas" "noSuchNumber" "I") (List.mem_cons_of_mem _ t_w875)
  unfold f_Atlas_copyFrom at hf
  have hgo : ∀ (H : Heap) (locs : List Loc), H = s.heap → va_P D vwCl ((a_at, .inr (0, [.ref a_g, .ref a_st, .int at_right, .int at_faulty, .int at_endedSoon, .int at_noSuchNumber])) :: (a_st, .inr (7, [.ref a_g, .ref a_st_levels, .ref a_st_keys, .ref a_st_years, .ref a_st_keysThere, .int st_size, .int st_shownBy, .int st_deepestShown, .int st_latestShown])) :: (a_st_levels, .inl (ci 0, 60, .inl st_levels)) :: (a_st_keys, .inl (ci 0, 60, .inl st_keys)) :: (a_st_years, .inl (ci 0, 60, .inl st_years)) :: (a_g, .inr (2, [.ref a_g_rowCuts, .ref a_g_columnCuts, .ref a_g_bandRows, .ref a_g_zoneColumns, .ref a_g_rows, .ref a_g_sheets])) :: (a_g_rowCuts, .inl (ci 0, 5, .inl g_rowCuts)) :: (a_g_columnCuts, .inl (ci 0, 5, .inl g_columnCuts)) :: (a_g_bandRows, .inl (ci 0, 5, .inl g_bandRows)) :: (a_g_zoneColumns, .inl (ci 0, 5, .inl g_zoneColumns)) :: (a_g_rows, .inl (ci 0, 5, .inl g_rows)) :: (a_g_sheets, .inl (ci 0, 5, .inl g_sheets)) :: (a_at2, .inr (0, [.ref a_g2, .ref a_st2, .int at2_right, .int at2_faulty, .int at2_endedSoon, .int at2_noSuchNumber])) :: (a_st2, .inr (7, [.ref a_g2, .ref a_st2_levels, .ref a_st2_keys, .ref a_st2_years, .ref a_st2_keysThere, .int st2_size, .int st2_shownBy, .int st2_deepestShown, .int st2_latestShown])) :: (a_st2_levels, .inl (ci 0, 60, .inl st2_levels)) :: (a_st2_keys, .inl (ci 0, 60, .inl st2_keys)) :: (a_st2_years, .inl (ci 0, 60, .inl st2_years)) :: (a_g2, .inr (2, [.ref a_g2_rowCuts, .ref a_g2_columnCuts, .ref a_g2_bandRows, .ref a_g2_zoneColumns, .ref a_g2_rows, .ref a_g2_sheets])) :: (a_g2_rowCuts, .inl (ci 0, 5, .inl g2_rowCuts)) :: (a_g2_columnCuts, .inl (ci 0, 5, .inl g2_columnCuts)) :: Rw) H → va_S A s.heap H locs → W p l e ({ frames := 2, cells := 0, slots := 0, locals := 61 } : Room) s m ([.ref a_at, .ref a_at2] : List Value).toArray below meth c H locs 0 0 Q (F0 m 0 ls []) := by
    intro H locs hH hP hS
    refine lv_aload_n (pc := 0) hx hb dX0_copyFrom_0 rfl (lv_at hl 0 rfl) ?_
    refine va_get (pc := 1) (D := D) (ci := 0) (v := .ref a_g) (C := RX0) (T := TX0) (N := 6) hx hb hts hinX0 hown hK hP 0 rfl rfl 0 (by decide) w_1 (fun _ h9 => h9) rfl dX0_copyFrom_1 ?_
    refine lv_aload_n (pc := 4) hx hb dX0_copyFrom_4 rfl (lv_at hl 1 rfl) ?_
    refine va_get (pc := 5) (D := D) (ci := 0) (v := .ref a_g2) (C := RX0) (T := TX0) (N := 6) hx hb hts hinX0 hown hK hP 12 rfl rfl 0 (by decide) w_1 (fun _ h9 => h9) rfl dX0_copyFrom_5 ?_
    obtain ⟨f1, f2, f3, f4, f5, f6, hm8, hf⟩ := q_b6_e hf
    refine q_cV (pc := 8) (As := [.ref a_g2]) (rest := []) (v0 := none) ⟨hx, hb, hml, hown, hts⟩ hK hA hZ hP hD hS hl.1 [5, 6, 7, 8, 9, 10, 11, 17, 18, 19, 0, 1, 2, 3, 4, 12, 13, 14, 15, 16] 20 rfl ⟨rfl, rfl, rfl⟩ (c_Grid_copyFrom l D ci A sa N ((a_at, .inr (0, [.ref a_g, .ref a_st, .int at_right, .int at_faulty, .int at_endedSoon, .int at_noSuchNumber])) :: (a_st, .inr (7, [.ref a_g, .ref a_st_levels, .ref a_st_keys, .ref a_st_years, .ref a_st_keysThere, .int st_size, .int st_shownBy, .int st_deepestShown, .int st_latestShown])) :: (a_st_levels, .inl (ci 0, 60, .inl st_levels)) :: (a_st_keys, .inl (ci 0, 60, .inl st_keys)) :: (a_st_years, .inl (ci 0, 60, .inl st_years)) :: (a_at2, .inr (0, [.ref a_g2, .ref a_st2, .int at2_right, .int at2_faulty, .int at2_endedSoon, .int at2_noSuchNumber])) :: (a_st2, .inr (7, [.ref a_g2, .ref a_st2_levels, .ref a_st2_keys, .ref a_st2_years, .ref a_st2_keysThere, .int st2_size, .int st2_shownBy, .int st2_deepestShown, .int st2_latestShown])) :: (a_st2_levels, .inl (ci 0, 60, .inl st2_levels)) :: (a_st2_keys, .inl (ci 0, 60, .inl st2_keys)) :: (a_st2_years, .inl (ci 0, 60, .inl st2_years)) :: Rw) a_g a_g_rowCuts a_g_columnCuts a_g_bandRows a_g_zoneColumns a_g_rows a_g_sheets a_g2 a_g2_rowCuts a_g2_columnCuts a_g2_bandRows a_g2_zoneColumns a_g2_rows a_g2_sheets g_rowCuts g_columnCuts g_bandRows g_zoneColumns g_rows g_sheets g2_rowCuts g2_columnCuts f1 f2 f3 f4 f5 f6 hm8) 5 rfl rfl (cwV 1 hts gX0_copyFrom_X2_copyFrom rfl rfl rfl (by decide +kernel) ⟨Nat.le_of_ble_eq_true rfl, Nat.le_of_ble_eq_true rfl⟩) rfl rfl (Nat.le_of_ble_eq_true rfl) dX0_copyFrom_8 ⟨Nat.zero_le _, Nat.zero_le _⟩ [10, 11, 12, 13, 14, 0, 1, 2, 3, 4, 5, 6, 15, 16, 17, 18, 19, 7, 8, 9] 20 rfl ⟨rfl, rfl, rfl⟩ (fun H locs hP hD hS => ?_)
    obtain ⟨hP, hD⟩ : va_PD D A ((a_at, .inr (0, [.ref a_g, .ref a_st, .int at_right, .int at_faulty, .int at_endedSoon, .int at_noSuchNumber])) :: (a_st, .inr (7, [.ref a_g, .ref a_st_levels, .ref a_st_keys, .ref a_st_years, .ref a_st_keysThere, .int st_size, .int st_shownBy, .int st_deepestShown, .int st_latestShown])) :: (a_st_levels, .inl (ci 0, 60, .inl st_levels)) :: (a_st_keys, .inl (ci 0, 60, .inl st_keys)) :: (a_st_years, .inl (ci 0, 60, .inl st_years)) :: (a_g, .inr (2, [.ref a_g_rowCuts, .ref a_g_columnCuts, .ref a_g_bandRows, .ref a_g_zoneColumns, .ref a_g_rows, .ref a_g_sheets])) :: (a_g_rowCuts, .inl (ci 0, 5, .inl f1)) :: (a_g_columnCuts, .inl (ci 0, 5, .inl f2)) :: (a_g_bandRows, .inl (ci 0, 5, .inl f3)) :: (a_g_zoneColumns, .inl (ci 0, 5, .inl f4)) :: (a_g_rows, .inl (ci 0, 5, .inl f5)) :: (a_g_sheets, .inl (ci 0, 5, .inl f6)) :: (a_at2, .inr (0, [.ref a_g2, .ref a_st2, .int at2_right, .int at2_faulty, .int at2_endedSoon, .int at2_noSuchNumber])) :: (a_st2, .inr (7, [.ref a_g2, .ref a_st2_levels, .ref a_st2_keys, .ref a_st2_years, .ref a_st2_keysThere, .int st2_size, .int st2_shownBy, .int st2_deepestShown, .int st2_latestShown])) :: (a_st2_levels, .inl (ci 0, 60, .inl st2_levels)) :: (a_st2_keys, .inl (ci 0, 60, .inl st2_keys)) :: (a_st2_years, .inl (ci 0, 60, .inl st2_years)) :: (a_g2, .inr (2, [.ref a_g2_rowCuts, .ref a_g2_columnCuts, .ref a_g2_bandRows, .ref a_g2_zoneColumns, .ref a_g2_rows, .ref a_g2_sheets])) :: (a_g2_rowCuts, .inl (ci 0, 5, .inl g2_rowCuts)) :: (a_g2_columnCuts, .inl (ci 0, 5, .inl g2_columnCuts)) :: Rw) H := ⟨hP, hD⟩
    refine lv_aload_n (pc := 11) hx hb dX0_copyFrom_11 rfl (lv_at hl 0 rfl) ?_
    refine va_get (pc := 12) (D := D) (ci := 0) (v := .ref a_st) (C := RX0) (T := TX0) (N := 6) hx hb hts hinX0 hown hK hP 0 rfl rfl 1 (by decide) w_2 (fun _ h9 => h9) rfl dX0_copyFrom_12 ?_
    refine lv_aload_n (pc := 15) hx hb dX0_copyFrom_15 rfl (lv_at hl 1 rfl) ?_
    refine va_get (pc := 16) (D := D) (ci := 0) (v := .ref a_st2) (C := RX0) (T := TX0) (N := 6) hx hb hts hinX0 hown hK hP 12 rfl rfl 1 (by decide) w_2 (fun _ h9 => h9) rfl dX0_copyFrom_16 ?_
    obtain ⟨f7, f8, f9, v10, hm19, hf⟩ := q_b4_e hf
    refine q_cV (pc := 19) (As := [.ref a_st2]) (rest := []) (v0 := none) ⟨hx, hb, hml, hown, hts⟩ hK hA hZ hP hD hS hl.1 [1, 2, 3, 4, 13, 14, 15, 16, 0, 5, 6, 7, 8, 9, 10, 11, 12, 17, 18, 19] 20 rfl ⟨rfl, rfl, rfl⟩ (c_Store_copyFrom l D ci A sa N ((a_at, .inr (0, [.ref a_g, .ref a_st, .int at_right, .int at_faulty, .int at_endedSoon, .int at_noSuchNumber])) :: (a_g, .inr (2, [.ref a_g_rowCuts, .ref a_g_columnCuts, .ref a_g_bandRows, .ref a_g_zoneColumns, .ref a_g_rows, .ref a_g_sheets])) :: (a_g_rowCuts, .inl (ci 0, 5, .inl f1)) :: (a_g_columnCuts, .inl (ci 0, 5, .inl f2)) :: (a_g_bandRows, .inl (ci 0, 5, .inl f3)) :: (a_g_zoneColumns, .inl (ci 0, 5, .inl f4)) :: (a_g_rows, .inl (ci 0, 5, .inl f5)) :: (a_g_sheets, .inl (ci 0, 5, .inl f6)) :: (a_at2, .inr (0, [.ref a_g2, .ref a_st2, .int at2_right, .int at2_faulty, .int at2_endedSoon, .int at2_noSuchNumber])) :: (a_g2, .inr (2, [.ref a_g2_rowCuts, .ref a_g2_columnCuts, .ref a_g2_bandRows, .ref a_g2_zoneColumns, .ref a_g2_rows, .ref a_g2_sheets])) :: (a_g2_rowCuts, .inl (ci 0, 5, .inl g2_rowCuts)) :: (a_g2_columnCuts, .inl (ci 0, 5, .inl g2_columnCuts)) :: Rw) a_st a_g a_st_levels a_st_keys a_st_years a_st_keysThere a_st2 a_g2 a_st2_levels a_st2_keys a_st2_years a_st2_keysThere st_size st_shownBy st_deepestShown st_latestShown st_levels st_keys st_years st2_size st2_shownBy st2_deepestShown st2_latestShown st2_levels st2_keys st2_years f7 f8 f9 v10 hm19) 1 rfl rfl (cwV 1 hts gX0_copyFrom_X7_copyFrom rfl rfl rfl (by decide +kernel) ⟨Nat.le_of_ble_eq_true rfl, Nat.le_of_ble_eq_true rfl⟩) rfl rfl (Nat.le_of_ble_eq_true rfl) dX0_copyFrom_19 ⟨Nat.zero_le _, Nat.zero_le _⟩ [8, 0, 1, 2, 3, 9, 10, 11, 12, 13, 14, 15, 16, 4, 5, 6, 7, 17, 18, 19] 20 rfl ⟨rfl, rfl, rfl⟩ (fun H locs hP hD hS => ?_)
    obtain ⟨hP, hD⟩ : va_PD D A ((a_at, .inr (0, [.ref a_g, .ref a_st, .int at_right, .int at_faulty, .int at_endedSoon, .int at_noSuchNumber])) :: (a_st, .inr (7, [.ref a_g, .ref a_st_levels, .ref a_st_keys, .ref a_st_years, .ref a_st_keysThere, .int v10, .int st_shownBy, .int st_deepestShown, .int st_latestShown])) :: (a_st_levels, .inl (ci 0, 60, .inl f7)) :: (a_st_keys, .inl (ci 0, 60, .inl f8)) :: (a_st_years, .inl (ci 0, 60, .inl f9)) :: (a_g, .inr (2, [.ref a_g_rowCuts, .ref a_g_columnCuts, .ref a_g_bandRows, .ref a_g_zoneColumns, .ref a_g_rows, .ref a_g_sheets])) :: (a_g_rowCuts, .inl (ci 0, 5, .inl f1)) :: (a_g_columnCuts, .inl (ci 0, 5, .inl f2)) :: (a_g_bandRows, .inl (ci 0, 5, .inl f3)) :: (a_g_zoneColumns, .inl (ci 0, 5, .inl f4)) :: (a_g_rows, .inl (ci 0, 5, .inl f5)) :: (a_g_sheets, .inl (ci 0, 5, .inl f6)) :: (a_at2, .inr (0, [.ref a_g2, .ref a_st2, .int at2_right, .int at2_faulty, .int at2_endedSoon, .int at2_noSuchNumber])) :: (a_st2, .inr (7, [.ref a_g2, .ref a_st2_levels, .ref a_st2_keys, .ref a_st2_years, .ref a_st2_keysThere, .int st2_size, .int st2_shownBy, .int st2_deepestShown, .int st2_latestShown])) :: (a_st2_levels, .inl (ci 0, 60, .inl st2_levels)) :: (a_st2_keys, .inl (ci 0, 60, .inl st2_keys)) :: (a_st2_years, .inl (ci 0, 60, .inl st2_years)) :: (a_g2, .inr (2, [.ref a_g2_rowCuts, .ref a_g2_columnCuts, .ref a_g2_bandRows, .ref a_g2_zoneColumns, .ref a_g2_rows, .ref a_g2_sheets])) :: (a_g2_rowCuts, .inl (ci 0, 5, .inl g2_rowCuts)) :: (a_g2_columnCuts, .inl (ci 0, 5, .inl g2_columnCuts)) :: Rw) H := ⟨hP, hD⟩
    refine lv_aload_n (pc := 22) hx hb dX0_copyFrom_22 rfl (lv_at hl 0 rfl) ?_
    refine lv_aload_n (pc := 23) hx hb dX0_copyFrom_23 rfl (lv_at hl 1 rfl) ?_
    refine va_get (pc := 24) (D := D) (ci := 0) (v := .int at2_right) (C := RX0) (T := TX0) (N := 6) hx hb hts hinX0 hown hK hP 12 rfl rfl 2 (by decide) w_3 (fun _ h9 => h9) rfl dX0_copyFrom_24 ?_
    refine va_put (pc := 27) (D := D) (ci := 0) (v := .int at2_right) (ty := .int) (C := RX0) (T := TX0) (N := 6) hx hb hts hinX0 tyX0 tyX0_ok nmX0 hown hK hP hD hS 0 rfl rfl 2 (by decide) w_3 (fun _ h9 => h9) rfl (by decide +kernel) rfl rfl (Nat.le_of_ble_eq_true rfl) dX0_copyFrom_27 (fun H locs hP hD hS => ?_)
    obtain ⟨hP, hD⟩ : va_PD D A ((a_at, .inr (0, [.ref a_g, .ref a_st, .int at2_right, .int at_faulty, .int at_endedSoon, .int at_noSuchNumber])) :: (a_st, .inr (7, [.ref a_g, .ref a_st_levels, .ref a_st_keys, .ref a_st_years, .ref a_st_keysThere, .int v10, .int st_shownBy, .int st_deepestShown, .int st_latestShown])) :: (a_st_levels, .inl (ci 0, 60, .inl f7)) :: (a_st_keys, .inl (ci 0, 60, .inl f8)) :: (a_st_years, .inl (ci 0, 60, .inl f9)) :: (a_g, .inr (2, [.ref a_g_rowCuts, .ref a_g_columnCuts, .ref a_g_bandRows, .ref a_g_zoneColumns, .ref a_g_rows, .ref a_g_sheets])) :: (a_g_rowCuts, .inl (ci 0, 5, .inl f1)) :: (a_g_columnCuts, .inl (ci 0, 5, .inl f2)) :: (a_g_bandRows, .inl (ci 0, 5, .inl f3)) :: (a_g_zoneColumns, .inl (ci 0, 5, .inl f4)) :: (a_g_rows, .inl (ci 0, 5, .inl f5)) :: (a_g_sheets, .inl (ci 0, 5, .inl f6)) :: (a_at2, .inr (0, [.ref a_g2, .ref a_st2, .int at2_right, .int at2_faulty, .int at2_endedSoon, .int at2_noSuchNumber])) :: (a_st2, .inr (7, [.ref a_g2, .ref a_st2_levels, .ref a_st2_keys, .ref a_st2_years, .ref a_st2_keysThere, .int st2_size, .int st2_shownBy, .int st2_deepestShown, .int st2_latestShown])) :: (a_st2_levels, .inl (ci 0, 60, .inl st2_levels)) :: (a_st2_keys, .inl (ci 0, 60, .inl st2_keys)) :: (a_st2_years, .inl (ci 0, 60, .inl st2_years)) :: (a_g2, .inr (2, [.ref a_g2_rowCuts, .ref a_g2_columnCuts, .ref a_g2_bandRows, .ref a_g2_zoneColumns, .ref a_g2_rows, .ref a_g2_sheets])) :: (a_g2_rowCuts, .inl (ci 0, 5, .inl g2_rowCuts)) :: (a_g2_columnCuts, .inl (ci 0, 5, .inl g2_columnCuts)) :: Rw) H := ⟨hP, hD⟩
    refine lv_aload_n (pc := 30) hx hb dX0_copyFrom_30 rfl (lv_at hl 0 rfl) ?_
    refine lv_aload_n (pc := 31) hx hb dX0_copyFrom_31 rfl (lv_at hl 1 rfl) ?_
    refine va_get (pc := 32) (D := D) (ci := 0) (v := .int at2_faulty) (C := RX0) (T := TX0) (N := 6) hx hb hts hinX0 hown hK hP 12 rfl rfl 3 (by decide) w_4 (fun _ h9 => h9) rfl dX0_copyFrom_32 ?_
    refine va_put (pc := 35) (D := D) (ci := 0) (v := .int at2_faulty) (ty := .int) (C := RX0) (T := TX0) (N := 6) hx hb hts hinX0 tyX0 tyX0_ok nmX0 hown hK hP hD hS 0 rfl rfl 3 (by decide) w_4 (fun _ h9 => h9) rfl (by decide +kernel) rfl rfl (Nat.le_of_ble_eq_true rfl) dX0_copyFrom_35 (fun H locs hP hD hS => ?_)
    obtain ⟨hP, hD⟩ : va_PD D A ((a_at, .inr (0, [.ref a_g, .ref a_st, .int at2_right, .int at2_faulty, .int at_endedSoon, .int at_noSuchNumber])) :: (a_st, .inr (7, [.ref a_g, .ref a_st_levels, .ref a_st_keys, .ref a_st_years, .ref a_st_keysThere, .int v10, .int st_shownBy, .int st_deepestShown, .int st_latestShown])) :: (a_st_levels, .inl (ci 0, 60, .inl f7)) :: (a_st_keys, .inl (ci 0, 60, .inl f8)) :: (a_st_years, .inl (ci 0, 60, .inl f9)) :: (a_g, .inr (2, [.ref a_g_rowCuts, .ref a_g_columnCuts, .ref a_g_bandRows, .ref a_g_zoneColumns, .ref a_g_rows, .ref a_g_sheets])) :: (a_g_rowCuts, .inl (ci 0, 5, .inl f1)) :: (a_g_columnCuts, .inl (ci 0, 5, .inl f2)) :: (a_g_bandRows, .inl (ci 0, 5, .inl f3)) :: (a_g_zoneColumns, .inl (ci 0, 5, .inl f4)) :: (a_g_rows, .inl (ci 0, 5, .inl f5)) :: (a_g_sheets, .inl (ci 0, 5, .inl f6)) :: (a_at2, .inr (0, [.ref a_g2, .ref a_st2, .int at2_right, .int at2_faulty, .int at2_endedSoon, .int at2_noSuchNumber])) :: (a_st2, .inr (7, [.ref a_g2, .ref a_st2_levels, .ref a_st2_keys, .ref a_st2_years, .ref a_st2_keysThere, .int st2_size, .int st2_shownBy, .int st2_deepestShown, .int st2_latestShown])) :: (a_st2_levels, .inl (ci 0, 60, .inl st2_levels)) :: (a_st2_keys, .inl (ci 0, 60, .inl st2_keys)) :: (a_st2_years, .inl (ci 0, 60, .inl st2_years)) :: (a_g2, .inr (2, [.ref a_g2_rowCuts, .ref a_g2_columnCuts, .ref a_g2_bandRows, .ref a_g2_zoneColumns, .ref a_g2_rows, .ref a_g2_sheets])) :: (a_g2_rowCuts, .inl (ci 0, 5, .inl g2_rowCuts)) :: (a_g2_columnCuts, .inl (ci 0, 5, .inl g2_columnCuts)) :: Rw) H := ⟨hP, hD⟩
    refine lv_aload_n (pc := 38) hx hb dX0_copyFrom_38 rfl (lv_at hl 0 rfl) ?_
    refine lv_aload_n (pc := 39) hx hb dX0_copyFrom_39 rfl (lv_at hl 1 rfl) ?_
    refine va_get (pc := 40) (D := D) (ci := 0) (v := .int at2_endedSoon) (C := RX0) (T := TX0) (N := 6) hx hb hts hinX0 hown hK hP 12 rfl rfl 4 (by decide) w_5 (fun _ h9 => h9) rfl dX0_copyFrom_40 ?_
    refine va_put (pc := 43) (D := D) (ci := 0) (v := .int at2_endedSoon) (ty := .int) (C := RX0) (T := TX0) (N := 6) hx hb hts hinX0 tyX0 tyX0_ok nmX0 hown hK hP hD hS 0 rfl rfl 4 (by decide) w_5 (fun _ h9 => h9) rfl (by decide +kernel) rfl rfl (Nat.le_of_ble_eq_true rfl) dX0_copyFrom_43 (fun H locs hP hD hS => ?_)
    obtain ⟨hP, hD⟩ : va_PD D A ((a_at, .inr (0, [.ref a_g, .ref a_st, .int at2_right, .int at2_faulty, .int at2_endedSoon, .int at_noSuchNumber])) :: (a_st, .inr (7, [.ref a_g, .ref a_st_levels, .ref a_st_keys, .ref a_st_years, .ref a_st_keysThere, .int v10, .int st_shownBy, .int st_deepestShown, .int st_latestShown])) :: (a_st_levels, .inl (ci 0, 60, .inl f7)) :: (a_st_keys, .inl (ci 0, 60, .inl f8)) :: (a_st_years, .inl (ci 0, 60, .inl f9)) :: (a_g, .inr (2, [.ref a_g_rowCuts, .ref a_g_columnCuts, .ref a_g_bandRows, .ref a_g_zoneColumns, .ref a_g_rows, .ref a_g_sheets])) :: (a_g_rowCuts, .inl (ci 0, 5, .inl f1)) :: (a_g_columnCuts, .inl (ci 0, 5, .inl f2)) :: (a_g_bandRows, .inl (ci 0, 5, .inl f3)) :: (a_g_zoneColumns, .inl (ci 0, 5, .inl f4)) :: (a_g_rows, .inl (ci 0, 5, .inl f5)) :: (a_g_sheets, .inl (ci 0, 5, .inl f6)) :: (a_at2, .inr (0, [.ref a_g2, .ref a_st2, .int at2_right, .int at2_faulty, .int at2_endedSoon, .int at2_noSuchNumber])) :: (a_st2, .inr (7, [.ref a_g2, .ref a_st2_levels, .ref a_st2_keys, .ref a_st2_years, .ref a_st2_keysThere, .int st2_size, .int st2_shownBy, .int st2_deepestShown, .int st2_latestShown])) :: (a_st2_levels, .inl (ci 0, 60, .inl st2_levels)) :: (a_st2_keys, .inl (ci 0, 60, .inl st2_keys)) :: (a_st2_years, .inl (ci 0, 60, .inl st2_years)) :: (a_g2, .inr (2, [.ref a_g2_rowCuts, .ref a_g2_columnCuts, .ref a_g2_bandRows, .ref a_g2_zoneColumns, .ref a_g2_rows, .ref a_g2_sheets])) :: (a_g2_rowCuts, .inl (ci 0, 5, .inl g2_rowCuts)) :: (a_g2_columnCuts, .inl (ci 0, 5, .inl g2_columnCuts)) :: Rw) H := ⟨hP, hD⟩
    refine lv_aload_n (pc := 46) hx hb dX0_copyFrom_46 rfl (lv_at hl 0 rfl) ?_
    refine lv_aload_n (pc := 47) hx hb dX0_copyFrom_47 rfl (lv_at hl 1 rfl) ?_
    refine va_get (pc := 48) (D := D) (ci := 0) (v := .int at2_noSuchNumber) (C := RX0) (T := TX0) (N := 6) hx hb hts hinX0 hown hK hP 12 rfl rfl 5 (by decide) w_6 (fun _ h9 => h9) rfl dX0_copyFrom_48 ?_
    refine va_put (pc := 51) (D := D) (ci := 0) (v := .int at2_noSuchNumber) (ty := .int) (C := RX0) (T := TX0) (N := 6) hx hb hts hinX0 tyX0 tyX0_ok nmX0 hown hK hP hD hS 0 rfl rfl 5 (by decide) w_6 (fun _ h9 => h9) rfl (by decide +kernel) rfl rfl (Nat.le_of_ble_eq_true rfl) dX0_copyFrom_51 (fun H locs hP hD hS => ?_)
    obtain ⟨hP, hD⟩ : va_PD D A ((a_at, .inr (0, [.ref a_g, .ref a_st, .int at2_right, .int at2_faulty, .int at2_endedSoon, .int at2_noSuchNumber])) :: (a_st, .inr (7, [.ref a_g, .ref a_st_levels, .ref a_st_keys, .ref a_st_years, .ref a_st_keysThere, .int v10, .int st_shownBy, .int st_deepestShown, .int st_latestShown])) :: (a_st_levels, .inl (ci 0, 60, .inl f7)) :: (a_st_keys, .inl (ci 0, 60, .inl f8)) :: (a_st_years, .inl (ci 0, 60, .inl f9)) :: (a_g, .inr (2, [.ref a_g_rowCuts, .ref a_g_columnCuts, .ref a_g_bandRows, .ref a_g_zoneColumns, .ref a_g_rows, .ref a_g_sheets])) :: (a_g_rowCuts, .inl (ci 0, 5, .inl f1)) :: (a_g_columnCuts, .inl (ci 0, 5, .inl f2)) :: (a_g_bandRows, .inl (ci 0, 5, .inl f3)) :: (a_g_zoneColumns, .inl (ci 0, 5, .inl f4)) :: (a_g_rows, .inl (ci 0, 5, .inl f5)) :: (a_g_sheets, .inl (ci 0, 5, .inl f6)) :: (a_at2, .inr (0, [.ref a_g2, .ref a_st2, .int at2_right, .int at2_faulty, .int at2_endedSoon, .int at2_noSuchNumber])) :: (a_st2, .inr (7, [.ref a_g2, .ref a_st2_levels, .ref a_st2_keys, .ref a_st2_years, .ref a_st2_keysThere, .int st2_size, .int st2_shownBy, .int st2_deepestShown, .int st2_latestShown])) :: (a_st2_levels, .inl (ci 0, 60, .inl st2_levels)) :: (a_st2_keys, .inl (ci 0, 60, .inl st2_keys)) :: (a_st2_years, .inl (ci 0, 60, .inl st2_years)) :: (a_g2, .inr (2, [.ref a_g2_rowCuts, .ref a_g2_columnCuts, .ref a_g2_bandRows, .ref a_g2_zoneColumns, .ref a_g2_rows, .ref a_g2_sheets])) :: (a_g2_rowCuts, .inl (ci 0, 5, .inl g2_rowCuts)) :: (a_g2_columnCuts, .inl (ci 0, 5, .inl g2_columnCuts)) :: Rw) H := ⟨hP, hD⟩
    obtain ⟨e90, e91, e92, e93, e94, e95, e96, e97, e98, e99, e910, e911, e912, e913⟩ := q_inj14 (Option.some.inj hf)
    rw [hQ, ← e90, ← e91, ← e92, ← e93, ← e94, ← e95, ← e96, ← e97, ← e98, ← e99, ← e910, ← e911, ← e912, ← e913]
    exact q_vret (pc := 54) hx hb hr hlocks hP hD hS dX0_copyFrom_54
  exact hgo _ _ rfl hP hS
/-! X0_countText -/
set_option maxRecDepth 100000 in
set_option maxHeartbeats 4000000 in
theorem c_Atlas_countText (l : Launch) (D : va_G) (ci : Nat → ClassId) (A : Nat → Prop) (sa : Nat → Nat) (N : Nat) (Rw : va_W) (a_rd : Nat) (a_g : Nat) (a_tp : Nat) (a_at : Nat) (a_st : Nat) (rd_next : Int32) (rd_end : Int32) (rd_level : Int32) (rd_key : Int32) (rd_fault : Int32) (rd_faultPlace : Int32) (rd_endedSoon : Int32) (at_right : Int32) (at_faulty : Int32) (at_endedSoon : Int32) (at_noSuchNumber : Int32) (p2 : Int32) (o1 : Int32) (o2 : Int32) (o3 : Int32) (o4 : Int32) (hf : f_Atlas_countText rd_fault rd_endedSoon at_right at_faulty at_endedSoon at_noSuchNumber p2 = some (o1, o2, o3, o4)) : Met l yX0_countText wsX0_countText ({ frames := 0, cells := 0, slots := 0, locals := 0 }) (va_Pc [.ref a_at, .ref a_rd, .int p2] (q_N D ci A sa ((a_rd, .inr (3, [.ref a_g, .ref a_tp, .int rd_next, .int rd_end, .int rd_level, .int rd_key, .int rd_fault, .int rd_faultPlace, .int rd_endedSoon])) :: (a_at, .inr (0, [.ref a_g, .ref a_st, .int at_right, .int at_faulty, .int at_endedSoon, .int at_noSuchNumber])) :: Rw))) (q_Q none (q_O D A ((a_rd, .inr (3, [.ref a_g, .ref a_tp, .int rd_next, .int rd_end, .int rd_level, .int rd_key, .int rd_fault, .int rd_faultPlace, .int rd_endedSoon])) :: (a_at, .inr (0, [.ref a_g, .ref a_st, .int o1, .int o2, .int o3, .int o4])) :: Rw)) A) 0 0 A := by
  refine q_ofW (cc := cX0_countText) (maxL := 3) (ret := none) [.ref a_at, .ref a_rd, .int p2] (plainFor_of_name (by decide)) rfl (Nat.le_of_ble_eq_true rfl) ?_
  intro p e s m below meth c ls Q hQ hx hb hml hr hts hown hlocks hK hA hZ hP hD hS hl
  have hl : lv_has ls 3 [(0, .ref a_at), (1, .ref a_rd), (2, .int p2)] := hl
  have hown : s.vm.findClass RX0 = some m.cls := hown
  have hinX0 : ∀ w ∈ wsX00, w ∈ wsX0_countText := fun _ h => List.mem_cons_of_mem _ (inWX00 _ h)
  have hinX3 : ∀ w ∈ wsX30, w ∈ wsX0_countText := fun _ h => List.mem_cons_of_mem _ (inWX30 _ h)
  have w_1 := hts (Cond.fieldLink RX0 27 "SheetNames$Atlas" "right" "I") (List.mem_cons_of_mem _ t_w872)
  have w_2 := hts (Cond.fieldLink RX0 31 "SheetNames$Atlas" "faulty" "I") (List.mem_cons_of_mem _ t_w873)
  have w_3 := hts (Cond.fieldLink RX0 34 "SheetNames$Atlas" "endedSoon" "I") (List.mem_cons_of_mem _ t_w874)
  have w_4 := hts (Cond.fieldLink RX0 37 "SheetNames$Atlas" "noSuchNumber" "I") (List.mem_cons_of_mem _ t_w875)
  have wn_36 : (Cond.fieldLinkNest "SheetNames$Atlas" 40 "SheetNames$NameReader" "endedSoon" "Z" "SheetNames").before ([.ref a_at, .ref a_rd, .int p2] : List Value).toArray s = true := (hZ.2.2.2.2.2.2.2.2.2.1 _ (List.mem_of_getElem? (i := 36) rfl)).use rfl
  have wn_37 : (Cond.fieldLinkNest "SheetNames$Atlas" 45 "SheetNames$NameReader" "fault" "I" "SheetNames").before ([.ref a_at, .ref a_rd, .int p2] : List Value).toArray s = true := (hZ.2.2.2.2.2.2.2.2.2.1 _ (List.mem_of_getElem? (i := 37) rfl)).use rfl
  unfold f_Atlas_countText at hf
  have hgo : ∀ (H : Heap) (locs : List Loc), H = s.heap → va_P D vwCl ((a_rd, .inr (3, [.ref a_g, .ref a_tp, .int rd_next, .int rd_end, .int rd_level, .int rd_key, .int rd_fault, .int rd_faultPlace, .int rd_endedSoon])) :: (a_at, .inr (0, [.ref a_g, .ref a_st, .int at_right, .int at_faulty, .int at_endedSoon, .int at_noSuchNumber])) :: Rw) H → va_S A s.heap H locs → W p l e ({ frames := 0, cells := 0, slots := 0, locals := 0 } : Room) s m ([.ref a_at, .ref a_rd, .int p2] : List Value).toArray below meth c H locs 0 0 Q (F0 m 0 ls []) := by
    intro H locs hH hP hS
    refine lv_iload_n (pc := 0) hx hb dX0_countText_0 rfl (lv_at hl 2 rfl) ?_
    refine q_if_eq (pc := 1) (tgt := 15) hx hb dX0_countText_1 (by decide) rfl hf (fun hf => ?_) (fun hf => ?_)
    · refine lv_aload_n (pc := 15) hx hb dX0_countText_15 rfl (lv_at hl 0 rfl) ?_
      refine lv_dup (pc := 16) hx hb dX0_countText_16 rfl ?_
      refine va_get (pc := 17) (D := D) (ci := 0) (v := .int at_faulty) (C := RX0) (T := TX0) (N := 6) hx hb hts hinX0 hown hK hP 1 rfl rfl 3 (by decide) w_2 (fun _ h9 => h9) rfl dX0_countText_17 ?_
      refine lv_iconst (pc := 20) (v := 1) hx hb dX0_countText_20 (by decide) ?_
      refine lv_iadd (pc := 21) hx hb dX0_countText_21 ?_
      obtain ⟨v1, ev1, hf⟩ := q_nm_e hf
      refine q_topi ev1 ?_
      refine va_put (pc := 22) (D := D) (ci := 0) (v := .int v1) (ty := .int) (C := RX0) (T := TX0) (N := 6) hx hb hts hinX0 tyX0 tyX0_ok nmX0 hown hK hP hD hS 1 rfl rfl 3 (by decide) w_2 (fun _ h9 => h9) rfl (by decide +kernel) rfl rfl (Nat.le_of_ble_eq_true rfl) dX0_countText_22 (fun H locs hP hD hS => ?_)
      obtain ⟨hP, hD⟩ : va_PD D A ((a_rd, .inr (3, [.ref a_g, .ref a_tp, .int rd_next, .int rd_end, .int rd_level, .int rd_key, .int rd_fault, .int rd_faultPlace, .int rd_endedSoon])) :: (a_at, .inr (0, [.ref a_g, .ref a_st, .int at_right, .int v1, .int at_endedSoon, .int at_noSuchNumber])) :: Rw) H := ⟨hP, hD⟩
      refine lv_aload_n (pc := 25) hx hb dX0_countText_25 rfl (lv_at hl 1 rfl) ?_
      refine va_getN (pc := 26) (D := D) (ci := 3) (v := .int rd_endedSoon) (C := RX3) (T := TX3) (N := 9) hx hb hts hinX3 hown hK hP 0 rfl rfl 8 (by decide) wn_36 (fun _ h9 => h9) rfl dX0_countText_26 ?_
      obtain ⟨k42, ek42, hf⟩ := q_j1_e hf
      have J42 : ∀ (v2 : Int32) (H : Heap) (locs : List Loc) (ls : Array Slot), k42 v2 = some (o1, o2, o3, o4) → va_P D vwCl ((a_rd, .inr (3, [.ref a_g, .ref a_tp, .int rd_next, .int rd_end, .int rd_level, .int rd_key, .int rd_fault, .int rd_faultPlace, .int rd_endedSoon])) :: (a_at, .inr (0, [.ref a_g, .ref a_st, .int at_right, .int v1, .int v2, .int at_noSuchNumber])) :: Rw) H → va_D A ((a_rd, .inr (3, [.ref a_g, .ref a_tp, .int rd_next, .int rd_end, .int rd_level, .int rd_key, .int rd_fault, .int rd_faultPlace, .int rd_endedSoon])) :: (a_at, .inr (0, [.ref a_g, .ref a_st, .int at_right, .int v1, .int v2, .int at_noSuchNumber])) :: Rw) → va_S A s.heap H locs → lv_has ls 3 [(0, .ref a_at), (1, .ref a_rd)] → W p l e ({ frames := 0, cells := 0, slots := 0, locals := 0 } : Room) s m ([.ref a_at, .ref a_rd, .int p2] : List Value).toArray below meth c H locs 0 0 Q (F0 m 42 ls []) := by
        intro v2 H locs ls hf hP hD hS hl
        have hf := (ek42 v2).symm.trans hf
        refine lv_aload_n (pc := 42) hx hb dX0_countText_42 rfl (lv_at hl 1 rfl) ?_
        refine va_getN (pc := 43) (D := D) (ci := 3) (v := .int rd_fault) (C := RX3) (T := TX3) (N := 9) hx hb hts hinX3 hown hK hP 0 rfl rfl 6 (by decide) wn_37 (fun _ h9 => h9) rfl dX0_countText_43 ?_
        refine lv_iconst (pc := 46) (v := 2) hx hb dX0_countText_46 (by decide) ?_
        refine q_icmp_ne (pc := 47) (tgt := 60) hx hb dX0_countText_47 (by decide) rfl hf (fun hf => ?_) (fun hf => ?_)
        · obtain ⟨e90, e91, e92, e93⟩ := q_inj4 (Option.some.inj hf)
          rw [hQ, ← e90, ← e91, ← e92, ← e93]
          exact q_vret (pc := 60) hx hb hr hlocks hP hD hS dX0_countText_60
        · refine lv_aload_n (pc := 50) hx hb dX0_countText_50 rfl (lv_at hl 0 rfl) ?_
          refine lv_dup (pc := 51) hx hb dX0_countText_51 rfl ?_
          refine va_get (pc := 52) (D := D) (ci := 0) (v := .int at_noSuchNumber) (C := RX0) (T := TX0) (N := 6) hx hb hts hinX0 hown hK hP 1 rfl rfl 5 (by decide) w_4 (fun _ h9 => h9) rfl dX0_countText_52 ?_
          refine lv_iconst (pc := 55) (v := 1) hx hb dX0_countText_55 (by decide) ?_
          refine lv_iadd (pc := 56) hx hb dX0_countText_56 ?_
          obtain ⟨v3, ev3, hf⟩ := q_nm_e hf
          refine q_topi ev3 ?_
          refine va_put (pc := 57) (D := D) (ci := 0) (v := .int v3) (ty := .int) (C := RX0) (T := TX0) (N := 6) hx hb hts hinX0 tyX0 tyX0_ok nmX0 hown hK hP hD hS 1 rfl rfl 5 (by decide) w_4 (fun _ h9 => h9) rfl (by decide +kernel) rfl rfl (Nat.le_of_ble_eq_true rfl) dX0_countText_57 (fun H locs hP hD hS => ?_)
          obtain ⟨hP, hD⟩ : va_PD D A ((a_rd, .inr (3, [.ref a_g, .ref a_tp, .int rd_next, .int rd_end, .int rd_level, .int rd_key, .int rd_fault, .int rd_faultPlace, .int rd_endedSoon])) :: (a_at, .inr (0, [.ref a_g, .ref a_st, .int at_right, .int v1, .int v2, .int v3])) :: Rw) H := ⟨hP, hD⟩
          obtain ⟨e90, e91, e92, e93⟩ := q_inj4 (Option.some.inj hf)
          rw [hQ, ← e90, ← e91, ← e92, ← e93]
          exact q_vret (pc := 60) hx hb hr hlocks hP hD hS dX0_countText_60
      refine q_if_eq (pc := 29) (tgt := 42) hx hb dX0_countText_29 (by decide) rfl hf (fun hf => ?_) (fun hf => ?_)
      · exact J42 at_endedSoon _ _ _ hf hP hD hS (lv_sub hl [0, 1] rfl)
      · refine lv_aload_n (pc := 32) hx hb dX0_countText_32 rfl (lv_at hl 0 rfl) ?_
        refine lv_dup (pc := 33) hx hb dX0_countText_33 rfl ?_
        refine va_get (pc := 34) (D := D) (ci := 0) (v := .int at_endedSoon) (C := RX0) (T := TX0) (N := 6) hx hb hts hinX0 hown hK hP 1 rfl rfl 4 (by decide) w_3 (fun _ h9 => h9) rfl dX0_countText_34 ?_
        refine lv_iconst (pc := 37) (v := 1) hx hb dX0_countText_37 (by decide) ?_
        refine lv_iadd (pc := 38) hx hb dX0_countText_38 ?_
        obtain ⟨v4, ev4, hf⟩ := q_nm_e hf
        refine q_topi ev4 ?_
        refine va_put (pc := 39) (D := D) (ci := 0) (v := .int v4) (ty := .int) (C := RX0) (T := TX0) (N := 6) hx hb hts hinX0 tyX0 tyX0_ok nmX0 hown hK hP hD hS 1 rfl rfl 4 (by decide) w_3 (fun _ h9 => h9) rfl (by decide +kernel) rfl rfl (Nat.le_of_ble_eq_true rfl) dX0_countText_39 (fun H locs hP hD hS => ?_)
        obtain ⟨hP, hD⟩ : va_PD D A ((a_rd, .inr (3, [.ref a_g, .ref a_tp, .int rd_next, .int rd_end, .int rd_level, .int rd_key, .int rd_fault, .int rd_faultPlace, .int rd_endedSoon])) :: (a_at, .inr (0, [.ref a_g, .ref a_st, .int at_right, .int v1, .int v4, .int at_noSuchNumber])) :: Rw) H := ⟨hP, hD⟩
        exact J42 v4 _ _ _ hf hP hD hS (lv_sub hl [0, 1] rfl)
    · refine lv_aload_n (pc := 4) hx hb dX0_countText_4 rfl (lv_at hl 0 rfl) ?_
      refine lv_dup (pc := 5) hx hb dX0_countText_5 rfl ?_
      refine va_get (pc := 6) (D := D) (ci := 0) (v := .int at_right) (C := RX0) (T := TX0) (N := 6) hx hb hts hinX0 hown hK hP 1 rfl rfl 2 (by decide) w_1 (fun _ h9 => h9) rfl dX0_countText_6 ?_
      refine lv_iconst (pc := 9) (v := 1) hx hb dX0_countText_9 (by decide) ?_
      refine lv_iadd (pc := 10) hx hb dX0_countText_10 ?_
      obtain ⟨v5, ev5, hf⟩ := q_nm_e hf
      refine q_topi ev5 ?_
      refine va_put (pc := 11) (D := D) (ci := 0) (v := .int v5) (ty := .int) (C := RX0) (T := TX0) (N := 6) hx hb hts hinX0 tyX0 tyX0_ok nmX0 hown hK hP hD hS 1 rfl rfl 2 (by decide) w_1 (fun _ h9 => h9) rfl (by decide +kernel) rfl rfl (Nat.le_of_ble_eq_true rfl) dX0_countText_11 (fun H locs hP hD hS => ?_)
      obtain ⟨hP, hD⟩ : va_PD D A ((a_rd, .inr (3, [.ref a_g, .ref a_tp, .int rd_next, .int rd_end, .int rd_level, .int rd_key, .int rd_fault, .int rd_faultPlace, .int rd_endedSoon])) :: (a_at, .inr (0, [.ref a_g, .ref a_st, .int v5, .int at_faulty, .int at_endedSoon, .int at_noSuchNumber])) :: Rw) H := ⟨hP, hD⟩
      obtain ⟨e90, e91, e92, e93⟩ := q_inj4 (Option.some.inj hf)
      rw [hQ, ← e90, ← e91, ← e92, ← e93]
      exact q_vret (pc := 14) hx hb hr hlocks hP hD hS dX0_countText_14
  exact hgo _ _ rfl hP hS
end
