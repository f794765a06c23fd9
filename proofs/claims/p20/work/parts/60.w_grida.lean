set_option maxRecDepth 100000 in
theorem z_nat_math : Jvm.natives.all (fun r => !(r.cls == "java/lang/Math" && (r.name == "floorDiv" || r.name == "floorMod"))) = true := by decide +kernel
theorem z_plainMath {y : MethodName} (h : y.cls = "java/lang/Math") (h2 : y.name = "floorDiv" ∨ y.name = "floorMod") : plainFor y = true := by
  unfold plainFor NativeRow.find?
  rw [List.find?_eq_none.mpr (fun r hr => by
    have a := List.all_eq_true.mp z_nat_math r hr
    intro c
    rw [h, Bool.and_eq_true, Bool.and_eq_true] at c
    rw [c.1.2] at a
    rcases h2 with h2 | h2
    · have d := c.1.1
      rw [h2] at d
      rw [d, Bool.true_or] at a
      exact absurd a (by decide)
    · have d := c.1.1
      rw [h2] at d
      rw [d, Bool.or_true] at a
      exact absurd a (by decide))]
  exact Bool.or_true _
/-! J6_compare_7cf53 -/
set_option maxRecDepth 100000 in
set_option maxHeartbeats 4000000 in
theorem c_JInteger_compare_7cf53 (l : Launch) (D : va_G) (ci : Nat → ClassId) (A : Nat → Prop) (sa : Nat → Nat) (N : Nat) (Rw : va_W) (p1 : Int32) (p2 : Int32) (r : Int32) (hf : f_JInteger_compare_7cf53 p1 p2 = some r) : Met l yJ6_compare_7cf53 wsJ6_compare_7cf53 ({ frames := 0, cells := 0, slots := 0, locals := 0 }) (va_Pc [.int p1, .int p2] (q_N D ci A sa (Rw))) (q_R (some (.int r))) 0 0 A := by
  refine q_ofW (cc := cJ6_compare_7cf53) (maxL := 2) (ret := (some .int)) [.int p1, .int p2] (plainFor_of_name (by decide)) rfl (Nat.le_of_ble_eq_true rfl) ?_
  intro p e s m below meth c ls Q hQ hx hb hml hr hts hown hlocks hK hA hZ hP hD hS hl
  have hl : lv_has ls 2 [(0, .int p1), (1, .int p2)] := hl
  have hown : s.vm.findClass RJ6 = some m.cls := hown
  unfold f_JInteger_compare_7cf53 at hf
  have hgo : ∀ (H : Heap) (locs : List Loc), H = s.heap → va_P D vwCl (Rw) H → va_S A s.heap H locs → W p l e ({ frames := 0, cells := 0, slots := 0, locals := 0 } : Room) s m ([.int p1, .int p2] : List Value).toArray below meth c H locs 0 0 Q (F0 m 0 ls []) := by
    intro H locs hH hP hS
    subst hH
    refine lv_iload_n (pc := 0) hx hb dJ6_compare_7cf53_0 rfl (lv_at hl 0 rfl) ?_
    refine lv_iload_n (pc := 1) hx hb dJ6_compare_7cf53_1 rfl (lv_at hl 1 rfl) ?_
    refine q_icmp_ge (pc := 2) (tgt := 9) hx hb dJ6_compare_7cf53_2 (by decide) rfl hf (fun hf => ?_) (fun hf => ?_)
    · refine lv_iload_n (pc := 9) hx hb dJ6_compare_7cf53_9 rfl (lv_at hl 0 rfl) ?_
      refine lv_iload_n (pc := 10) hx hb dJ6_compare_7cf53_10 rfl (lv_at hl 1 rfl) ?_
      refine q_icmp_ne (pc := 11) (tgt := 18) hx hb dJ6_compare_7cf53_11 (by decide) rfl hf (fun hf => ?_) (fun hf => ?_)
      · refine lv_iconst (pc := 18) (v := 1) hx hb dJ6_compare_7cf53_18 (by decide) ?_
        obtain rfl := Option.some.inj hf
        rw [hQ]
        exact q_iretr (pc := 19) hx hb hr hlocks rfl hS dJ6_compare_7cf53_19
      · refine lv_iconst (pc := 14) (v := 0) hx hb dJ6_compare_7cf53_14 (by decide) ?_
        refine lv_goto (pc := 15) (tgt := 19) hx hb dJ6_compare_7cf53_15 (by decide) ?_
        obtain rfl := Option.some.inj hf
        rw [hQ]
        exact q_iretr (pc := 19) hx hb hr hlocks rfl hS dJ6_compare_7cf53_19
    · refine lv_iconst (pc := 5) (v := (-1)) hx hb dJ6_compare_7cf53_5 (by decide) ?_
      refine lv_goto (pc := 6) (tgt := 19) hx hb dJ6_compare_7cf53_6 (by decide) ?_
      obtain rfl := Option.some.inj hf
      rw [hQ]
      exact q_iretr (pc := 19) hx hb hr hlocks rfl hS dJ6_compare_7cf53_19
  exact hgo _ _ rfl hP hS
/-! J9_floorDiv_7cf53 -/
set_option maxRecDepth 100000 in
set_option maxHeartbeats 4000000 in
theorem c_JMath_floorDiv_7cf53 (l : Launch) (D : va_G) (ci : Nat → ClassId) (A : Nat → Prop) (sa : Nat → Nat) (N : Nat) (Rw : va_W) (p1 : Int32) (p2 : Int32) (r : Int32) (hf : f_JMath_floorDiv_7cf53 p1 p2 = some r) : Met l yJ9_floorDiv_7cf53 wsJ9_floorDiv_7cf53 ({ frames := 0, cells := 0, slots := 0, locals := 0 }) (va_Pc [.int p1, .int p2] (q_N D ci A sa (Rw))) (q_R (some (.int r))) 0 0 A := by
  refine q_ofW (cc := cJ9_floorDiv_7cf53) (maxL := 3) (ret := (some .int)) [.int p1, .int p2] (z_plainMath rfl (Or.inl rfl)) rfl (Nat.le_of_ble_eq_true rfl) ?_
  intro p e s m below meth c ls Q hQ hx hb hml hr hts hown hlocks hK hA hZ hP hD hS hl
  have hl : lv_has ls 3 [(0, .int p1), (1, .int p2)] := hl
  have hown : s.vm.findClass RJ9 = some m.cls := hown
  unfold f_JMath_floorDiv_7cf53 at hf
  have hgo : ∀ (H : Heap) (locs : List Loc), H = s.heap → va_P D vwCl (Rw) H → va_S A s.heap H locs → W p l e ({ frames := 0, cells := 0, slots := 0, locals := 0 } : Room) s m ([.int p1, .int p2] : List Value).toArray below meth c H locs 0 0 Q (F0 m 0 ls []) := by
    intro H locs hH hP hS
    subst hH
    refine lv_iload_n (pc := 0) hx hb dJ9_floorDiv_7cf53_0 rfl (lv_at hl 0 rfl) ?_
    refine lv_iload_n (pc := 1) hx hb dJ9_floorDiv_7cf53_1 rfl (lv_at hl 1 rfl) ?_
    refine q_idiv (pc := 2) hx hb dJ9_floorDiv_7cf53_2 hf (fun v1 hf => ?_)
    refine lv_istore_n (pc := 3) (lv' := [(2, .int v1), (0, .int p1), (1, .int p2)]) hx hb dJ9_floorDiv_7cf53_3 rfl hl (by decide) rfl (fun ls hl => ?_)
    refine lv_iload_n (pc := 4) hx hb dJ9_floorDiv_7cf53_4 rfl (lv_at hl 1 rfl) ?_
    refine lv_iload_n (pc := 5) hx hb dJ9_floorDiv_7cf53_5 rfl (lv_at hl 2 rfl) ?_
    refine lv_ixor (pc := 6) hx hb dJ9_floorDiv_7cf53_6 ?_
    refine q_if_ge (pc := 7) (tgt := 21) hx hb dJ9_floorDiv_7cf53_7 (by decide) rfl hf (fun hf => ?_) (fun hf => ?_)
    · refine lv_iload_n (pc := 21) hx hb dJ9_floorDiv_7cf53_21 rfl (lv_at hl 0 rfl) ?_
      obtain rfl := Option.some.inj hf
      rw [hQ]
      exact q_iretr (pc := 22) hx hb hr hlocks rfl hS dJ9_floorDiv_7cf53_22
    · refine lv_iload_n (pc := 10) hx hb dJ9_floorDiv_7cf53_10 rfl (lv_at hl 0 rfl) ?_
      refine lv_iload_n (pc := 11) hx hb dJ9_floorDiv_7cf53_11 rfl (lv_at hl 2 rfl) ?_
      refine lv_imul (pc := 12) hx hb dJ9_floorDiv_7cf53_12 ?_
      refine lv_iload_n (pc := 13) hx hb dJ9_floorDiv_7cf53_13 rfl (lv_at hl 1 rfl) ?_
      refine q_icmp_eq (pc := 14) (tgt := 21) hx hb dJ9_floorDiv_7cf53_14 (by decide) rfl hf (fun hf => ?_) (fun hf => ?_)
      · refine lv_iload_n (pc := 21) hx hb dJ9_floorDiv_7cf53_21 rfl (lv_at hl 0 rfl) ?_
        obtain rfl := Option.some.inj hf
        rw [hQ]
        exact q_iretr (pc := 22) hx hb hr hlocks rfl hS dJ9_floorDiv_7cf53_22
      · refine lv_iload_n (pc := 17) hx hb dJ9_floorDiv_7cf53_17 rfl (lv_at hl 0 rfl) ?_
        refine lv_iconst (pc := 18) (v := 1) hx hb dJ9_floorDiv_7cf53_18 (by decide) ?_
        refine lv_isub (pc := 19) hx hb dJ9_floorDiv_7cf53_19 ?_
        obtain rfl := Option.some.inj hf
        rw [hQ]
        exact q_iretr (pc := 20) hx hb hr hlocks rfl hS dJ9_floorDiv_7cf53_20
  exact hgo _ _ rfl hP hS
/-! J9_floorDiv_f86c9 -/
set_option maxRecDepth 100000 in
set_option maxHeartbeats 4000000 in
theorem c_JMath_floorDiv_f86c9 (l : Launch) (D : va_G) (ci : Nat → ClassId) (A : Nat → Prop) (sa : Nat → Nat) (N : Nat) (Rw : va_W) (p1 : Int64) (p2 : Int64) (r : Int64) (hf : f_JMath_floorDiv_f86c9 p1 p2 = some r) : Met l yJ9_floorDiv_f86c9 wsJ9_floorDiv_f86c9 ({ frames := 0, cells := 0, slots := 0, locals := 0 }) (va_Pc [.long p1, .long p2] (q_N D ci A sa (Rw))) (q_R (some (.long r))) 0 0 A := by
  refine q_ofW (cc := cJ9_floorDiv_f86c9) (maxL := 6) (ret := (some .long)) [.long p1, .long p2] (z_plainMath rfl (Or.inl rfl)) rfl (Nat.le_of_ble_eq_true rfl) ?_
  intro p e s m below meth c ls Q hQ hx hb hml hr hts hown hlocks hK hA hZ hP hD hS hl
  have hl : lv_has ls 6 [(0, .long p1), (2, .long p2)] := hl
  have hown : s.vm.findClass RJ9 = some m.cls := hown
  unfold f_JMath_floorDiv_f86c9 at hf
  have hgo : ∀ (H : Heap) (locs : List Loc), H = s.heap → va_P D vwCl (Rw) H → va_S A s.heap H locs → W p l e ({ frames := 0, cells := 0, slots := 0, locals := 0 } : Room) s m ([.long p1, .long p2] : List Value).toArray below meth c H locs 0 0 Q (F0 m 0 ls []) := by
    intro H locs hH hP hS
    subst hH
    refine lv_lload_n (pc := 0) hx hb dJ9_floorDiv_f86c9_0 rfl (lv_at hl 0 rfl) ?_
    refine lv_lload_n (pc := 1) hx hb dJ9_floorDiv_f86c9_1 rfl (lv_at hl 1 rfl) ?_
    refine q_ldiv (pc := 2) hx hb dJ9_floorDiv_f86c9_2 hf (fun v1 hf => ?_)
    refine lv_lstore (pc := 3) (lv' := [(4, .long v1), (0, .long p1), (2, .long p2)]) hx hb dJ9_floorDiv_f86c9_3 hl (by decide) rfl (fun ls hl => ?_)
    refine lv_lload_n (pc := 5) hx hb dJ9_floorDiv_f86c9_5 rfl (lv_at hl 1 rfl) ?_
    refine lv_lload_n (pc := 6) hx hb dJ9_floorDiv_f86c9_6 rfl (lv_at hl 2 rfl) ?_
    refine lv_lxor (pc := 7) hx hb dJ9_floorDiv_f86c9_7 ?_
    refine lv_lconst (pc := 8) (v := 0) hx hb dJ9_floorDiv_f86c9_8 (by decide) ?_
    refine W.lcmp (pc := 9) hx hb dJ9_floorDiv_f86c9_9 ?_
    refine q_if_ge (pc := 10) (tgt := 27) hx hb dJ9_floorDiv_f86c9_10 (by decide) rfl hf (fun hf => ?_) (fun hf => ?_)
    · refine lv_lload (pc := 27) hx hb dJ9_floorDiv_f86c9_27 (lv_at hl 0 rfl) ?_
      obtain rfl := Option.some.inj hf
      rw [hQ]
      exact q_lretr (pc := 29) hx hb hr hlocks rfl hS dJ9_floorDiv_f86c9_29
    · refine lv_lload (pc := 13) hx hb dJ9_floorDiv_f86c9_13 (lv_at hl 0 rfl) ?_
      refine lv_lload_n (pc := 15) hx hb dJ9_floorDiv_f86c9_15 rfl (lv_at hl 2 rfl) ?_
      refine lv_lmul (pc := 16) hx hb dJ9_floorDiv_f86c9_16 ?_
      refine lv_lload_n (pc := 17) hx hb dJ9_floorDiv_f86c9_17 rfl (lv_at hl 1 rfl) ?_
      refine W.lcmp (pc := 18) hx hb dJ9_floorDiv_f86c9_18 ?_
      refine q_if_eq (pc := 19) (tgt := 27) hx hb dJ9_floorDiv_f86c9_19 (by decide) rfl hf (fun hf => ?_) (fun hf => ?_)
      · refine lv_lload (pc := 27) hx hb dJ9_floorDiv_f86c9_27 (lv_at hl 0 rfl) ?_
        obtain rfl := Option.some.inj hf
        rw [hQ]
        exact q_lretr (pc := 29) hx hb hr hlocks rfl hS dJ9_floorDiv_f86c9_29
      · refine lv_lload (pc := 22) hx hb dJ9_floorDiv_f86c9_22 (lv_at hl 0 rfl) ?_
        refine lv_lconst (pc := 24) (v := 1) hx hb dJ9_floorDiv_f86c9_24 (by decide) ?_
        refine lv_lsub (pc := 25) hx hb dJ9_floorDiv_f86c9_25 ?_
        obtain rfl := Option.some.inj hf
        rw [hQ]
        exact q_lretr (pc := 26) hx hb hr hlocks rfl hS dJ9_floorDiv_f86c9_26
  exact hgo _ _ rfl hP hS
/-! J9_floorMod_7cf53 -/
set_option maxRecDepth 100000 in
set_option maxHeartbeats 4000000 in
theorem c_JMath_floorMod_7cf53 (l : Launch) (D : va_G) (ci : Nat → ClassId) (A : Nat → Prop) (sa : Nat → Nat) (N : Nat) (Rw : va_W) (p1 : Int32) (p2 : Int32) (r : Int32) (hf : f_JMath_floorMod_7cf53 p1 p2 = some r) : Met l yJ9_floorMod_7cf53 wsJ9_floorMod_7cf53 ({ frames := 0, cells := 0, slots := 0, locals := 0 }) (va_Pc [.int p1, .int p2] (q_N D ci A sa (Rw))) (q_R (some (.int r))) 0 0 A := by
  refine q_ofW (cc := cJ9_floorMod_7cf53) (maxL := 3) (ret := (some .int)) [.int p1, .int p2] (z_plainMath rfl (Or.inr rfl)) rfl (Nat.le_of_ble_eq_true rfl) ?_
  intro p e s m below meth c ls Q hQ hx hb hml hr hts hown hlocks hK hA hZ hP hD hS hl
  have hl : lv_has ls 3 [(0, .int p1), (1, .int p2)] := hl
  have hown : s.vm.findClass RJ9 = some m.cls := hown
  unfold f_JMath_floorMod_7cf53 at hf
  have hgo : ∀ (H : Heap) (locs : List Loc), H = s.heap → va_P D vwCl (Rw) H → va_S A s.heap H locs → W p l e ({ frames := 0, cells := 0, slots := 0, locals := 0 } : Room) s m ([.int p1, .int p2] : List Value).toArray below meth c H locs 0 0 Q (F0 m 0 ls []) := by
    intro H locs hH hP hS
    subst hH
    refine lv_iload_n (pc := 0) hx hb dJ9_floorMod_7cf53_0 rfl (lv_at hl 0 rfl) ?_
    refine lv_iload_n (pc := 1) hx hb dJ9_floorMod_7cf53_1 rfl (lv_at hl 1 rfl) ?_
    refine q_irem (pc := 2) hx hb dJ9_floorMod_7cf53_2 hf (fun v1 hf => ?_)
    refine lv_istore_n (pc := 3) (lv' := [(2, .int v1), (0, .int p1), (1, .int p2)]) hx hb dJ9_floorMod_7cf53_3 rfl hl (by decide) rfl (fun ls hl => ?_)
    refine lv_iload_n (pc := 4) hx hb dJ9_floorMod_7cf53_4 rfl (lv_at hl 1 rfl) ?_
    refine lv_iload_n (pc := 5) hx hb dJ9_floorMod_7cf53_5 rfl (lv_at hl 2 rfl) ?_
    refine lv_ixor (pc := 6) hx hb dJ9_floorMod_7cf53_6 ?_
    refine q_if_ge (pc := 7) (tgt := 18) hx hb dJ9_floorMod_7cf53_7 (by decide) rfl hf (fun hf => ?_) (fun hf => ?_)
    · refine lv_iload_n (pc := 18) hx hb dJ9_floorMod_7cf53_18 rfl (lv_at hl 0 rfl) ?_
      obtain rfl := Option.some.inj hf
      rw [hQ]
      exact q_iretr (pc := 19) hx hb hr hlocks rfl hS dJ9_floorMod_7cf53_19
    · refine lv_iload_n (pc := 10) hx hb dJ9_floorMod_7cf53_10 rfl (lv_at hl 0 rfl) ?_
      refine q_if_eq (pc := 11) (tgt := 18) hx hb dJ9_floorMod_7cf53_11 (by decide) rfl hf (fun hf => ?_) (fun hf => ?_)
      · refine lv_iload_n (pc := 18) hx hb dJ9_floorMod_7cf53_18 rfl (lv_at hl 0 rfl) ?_
        obtain rfl := Option.some.inj hf
        rw [hQ]
        exact q_iretr (pc := 19) hx hb hr hlocks rfl hS dJ9_floorMod_7cf53_19
      · refine lv_iload_n (pc := 14) hx hb dJ9_floorMod_7cf53_14 rfl (lv_at hl 0 rfl) ?_
        refine lv_iload_n (pc := 15) hx hb dJ9_floorMod_7cf53_15 rfl (lv_at hl 2 rfl) ?_
        refine lv_iadd (pc := 16) hx hb dJ9_floorMod_7cf53_16 ?_
        obtain rfl := Option.some.inj hf
        rw [hQ]
        exact q_iretr (pc := 17) hx hb hr hlocks rfl hS dJ9_floorMod_7cf53_17
  exact hgo _ _ rfl hP hS
/-! J9_floorMod_f86c9 -/
set_option maxRecDepth 100000 in
set_option maxHeartbeats 4000000 in
theorem c_JMath_floorMod_f86c9 (l : Launch) (D : va_G) (ci : Nat → ClassId) (A : Nat → Prop) (sa : Nat → Nat) (N : Nat) (Rw : va_W) (p1 : Int64) (p2 : Int64) (r : Int64) (hf : f_JMath_floorMod_f86c9 p1 p2 = some r) : Met l yJ9_floorMod_f86c9 wsJ9_floorMod_f86c9 ({ frames := 0, cells := 0, slots := 0, locals := 0 }) (va_Pc [.long p1, .long p2] (q_N D ci A sa (Rw))) (q_R (some (.long r))) 0 0 A := by
  refine q_ofW (cc := cJ9_floorMod_f86c9) (maxL := 6) (ret := (some .long)) [.long p1, .long p2] (z_plainMath rfl (Or.inr rfl)) rfl (Nat.le_of_ble_eq_true rfl) ?_
  intro p e s m below meth c ls Q hQ hx hb hml hr hts hown hlocks hK hA hZ hP hD hS hl
  have hl : lv_has ls 6 [(0, .long p1), (2, .long p2)] := hl
  have hown : s.vm.findClass RJ9 = some m.cls := hown
  unfold f_JMath_floorMod_f86c9 at hf
  have hgo : ∀ (H : Heap) (locs : List Loc), H = s.heap → va_P D vwCl (Rw) H → va_S A s.heap H locs → W p l e ({ frames := 0, cells := 0, slots := 0, locals := 0 } : Room) s m ([.long p1, .long p2] : List Value).toArray below meth c H locs 0 0 Q (F0 m 0 ls []) := by
    intro H locs hH hP hS
    subst hH
    refine lv_lload_n (pc := 0) hx hb dJ9_floorMod_f86c9_0 rfl (lv_at hl 0 rfl) ?_
    refine lv_lload_n (pc := 1) hx hb dJ9_floorMod_f86c9_1 rfl (lv_at hl 1 rfl) ?_
    refine q_lrem (pc := 2) hx hb dJ9_floorMod_f86c9_2 hf (fun v1 hf => ?_)
    refine lv_lstore (pc := 3) (lv' := [(4, .long v1), (0, .long p1), (2, .long p2)]) hx hb dJ9_floorMod_f86c9_3 hl (by decide) rfl (fun ls hl => ?_)
    refine lv_lload_n (pc := 5) hx hb dJ9_floorMod_f86c9_5 rfl (lv_at hl 1 rfl) ?_
    refine lv_lload_n (pc := 6) hx hb dJ9_floorMod_f86c9_6 rfl (lv_at hl 2 rfl) ?_
    refine lv_lxor (pc := 7) hx hb dJ9_floorMod_f86c9_7 ?_
    refine lv_lconst (pc := 8) (v := 0) hx hb dJ9_floorMod_f86c9_8 (by decide) ?_
    refine W.lcmp (pc := 9) hx hb dJ9_floorMod_f86c9_9 ?_
    refine q_if_ge (pc := 10) (tgt := 25) hx hb dJ9_floorMod_f86c9_10 (by decide) rfl hf (fun hf => ?_) (fun hf => ?_)
    · refine lv_lload (pc := 25) hx hb dJ9_floorMod_f86c9_25 (lv_at hl 0 rfl) ?_
      obtain rfl := Option.some.inj hf
      rw [hQ]
      exact q_lretr (pc := 27) hx hb hr hlocks rfl hS dJ9_floorMod_f86c9_27
    · refine lv_lload (pc := 13) hx hb dJ9_floorMod_f86c9_13 (lv_at hl 0 rfl) ?_
      refine lv_lconst (pc := 15) (v := 0) hx hb dJ9_floorMod_f86c9_15 (by decide) ?_
      refine W.lcmp (pc := 16) hx hb dJ9_floorMod_f86c9_16 ?_
      refine q_if_eq (pc := 17) (tgt := 25) hx hb dJ9_floorMod_f86c9_17 (by decide) rfl hf (fun hf => ?_) (fun hf => ?_)
      · refine lv_lload (pc := 25) hx hb dJ9_floorMod_f86c9_25 (lv_at hl 0 rfl) ?_
        obtain rfl := Option.some.inj hf
        rw [hQ]
        exact q_lretr (pc := 27) hx hb hr hlocks rfl hS dJ9_floorMod_f86c9_27
      · refine lv_lload (pc := 20) hx hb dJ9_floorMod_f86c9_20 (lv_at hl 0 rfl) ?_
        refine lv_lload_n (pc := 22) hx hb dJ9_floorMod_f86c9_22 rfl (lv_at hl 2 rfl) ?_
        refine lv_ladd (pc := 23) hx hb dJ9_floorMod_f86c9_23 ?_
        obtain rfl := Option.some.inj hf
        rw [hQ]
        exact q_lretr (pc := 24) hx hb hr hlocks rfl hS dJ9_floorMod_f86c9_24
  exact hgo _ _ rfl hP hS
/-! X2_bandOfZone -/
set_option maxRecDepth 100000 in
set_option maxHeartbeats 4000000 in
theorem c_Grid_bandOfZone (l : Launch) (D : va_G) (ci : Nat → ClassId) (A : Nat → Prop) (sa : Nat → Nat) (N : Nat) (Rw : va_W) (p1 : Int32) (r : Int32) (hf : f_Grid_bandOfZone N p1 = some r) : Met l yX2_bandOfZone wsX2_bandOfZone ({ frames := 0, cells := 0, slots := 0, locals := 0 }) (va_Pc [.int p1] (q_N D ci A sa (Rw))) (q_R (some (.int r))) 0 0 A := by
  refine q_ofW (cc := cX2_bandOfZone) (maxL := 5) (ret := (some .int)) [.int p1] (plainFor_of_name (by decide)) rfl (Nat.le_of_ble_eq_true rfl) ?_
  intro p e s m below meth c ls Q hQ hx hb hml hr hts hown hlocks hK hA hZ hP hD hS hl
  have hl : lv_has ls 5 [(0, .int p1)] := hl
  have hown : s.vm.findClass RX2 = some m.cls := hown
  have wn_43 : (Cond.fieldLinkNest "SheetNames$Grid" 50 "SheetNames" "ZONES_AHEAD" "[I" "SheetNames").before ([.int p1] : List Value).toArray s = true := (hZ.2.2.2.2.2.2.2.2.2.1 _ (List.mem_of_getElem? (i := 43) rfl)).use rfl
  unfold f_Grid_bandOfZone at hf
  have hgo : ∀ (H : Heap) (locs : List Loc), H = s.heap → va_P D vwCl (Rw) H → va_S A s.heap H locs → W p l e ({ frames := 0, cells := 0, slots := 0, locals := 0 } : Room) s m ([.int p1] : List Value).toArray below meth c H locs 0 0 Q (F0 m 0 ls []) := by
    intro H locs hH hP hS
    subst hH
    refine lv_iconst (pc := 0) (v := 0) hx hb dX2_bandOfZone_0 (by decide) ?_
    obtain ⟨v1, ev1, hf⟩ := q_nm_e hf
    refine q_topi ev1 ?_
    refine lv_istore_n (pc := 1) (lv' := [(1, .int v1), (0, .int p1)]) hx hb dX2_bandOfZone_1 rfl hl (by decide) rfl (fun ls hl => ?_)
    refine lv_bipush (pc := 2) (v := 43) hx hb dX2_bandOfZone_2 (by decide) ?_
    obtain ⟨v2, ev2, hf⟩ := q_nm_e hf
    refine q_topi ev2 ?_
    refine lv_istore_n (pc := 4) (lv' := [(2, .int v2), (1, .int v1), (0, .int p1)]) hx hb dX2_bandOfZone_4 rfl hl (by decide) rfl (fun ls hl => ?_)
    refine lv_iconst (pc := 5) (v := 0) hx hb dX2_bandOfZone_5 (by decide) ?_
    obtain ⟨v3, ev3, hf⟩ := q_nm_e hf
    refine q_topi ev3 ?_
    refine lv_istore_n (pc := 6) (lv' := [(3, .int v3), (2, .int v2), (1, .int v1), (0, .int p1)]) hx hb dX2_bandOfZone_6 rfl hl (by decide) rfl (fun ls hl => ?_)
    obtain ⟨v7, hm7, hf⟩ := q_b1_e hf
    have JE7 : ∀ (H : Heap) (locs : List Loc) (ls : Array Slot), H = s.heap → va_S A s.heap H locs → lv_has ls 5 [(1, .int v7)] → W p l e ({ frames := 0, cells := 0, slots := 0, locals := 0 } : Room) s m ([.int p1] : List Value).toArray below meth c H locs 0 0 Q (F0 m 54 ls []) := by
      intro H locs ls hHs hS hl
      subst hHs
      refine lv_iload_n (pc := 54) hx hb dX2_bandOfZone_54 rfl (lv_at hl 0 rfl) ?_
      obtain rfl := Option.some.inj hf
      rw [hQ]
      exact q_iretr (pc := 55) hx hb hr hlocks rfl hS dX2_bandOfZone_55
    have LP7 : ∀ (n7 : Nat) (v4 : Int32) (v5 : Int32) (v6 : Int32) (H : Heap) (locs : List Loc) (ls : Array Slot), f_Grid_bandOfZone_L7 p1 n7 v4 v5 v6 = some v7 → H = s.heap → va_S A s.heap H locs → lv_has ls 5 [(0, .int p1), (1, .int v4), (2, .int v5), (3, .int v6)] → W p l e ({ frames := 0, cells := 0, slots := 0, locals := 0 } : Room) s m ([.int p1] : List Value).toArray below meth c H locs 0 0 Q (F0 m 7 ls []) := by
      intro n7
      induction n7 with
      | zero => intro v4 v5 v6 H locs ls hf; rw [f_Grid_bandOfZone_L7] at hf; cases hf
      | succ n7 ih7 =>
        intro v4 v5 v6 H locs ls hf hHs hS hl
        subst hHs
        rw [f_Grid_bandOfZone_L7] at hf
        refine lv_iload_n (pc := 7) hx hb dX2_bandOfZone_7 rfl (lv_at hl 3 rfl) ?_
        refine lv_bipush (pc := 8) (v := 44) hx hb dX2_bandOfZone_8 (by decide) ?_
        refine q_icmp_ge (pc := 10) (tgt := 54) hx hb dX2_bandOfZone_10 (by decide) rfl hf (fun hf => ?_) (fun hf => ?_)
        · obtain rfl := Option.some.inj hf
          exact JE7 _ _ _ rfl hS (lv_sub hl [1] rfl)
        · refine lv_iload_n (pc := 13) hx hb dX2_bandOfZone_13 rfl (lv_at hl 1 rfl) ?_
          refine lv_iload_n (pc := 14) hx hb dX2_bandOfZone_14 rfl (lv_at hl 2 rfl) ?_
          refine q_icmp_ge (pc := 15) (tgt := 54) hx hb dX2_bandOfZone_15 (by decide) rfl hf (fun hf => ?_) (fun hf => ?_)
          · obtain rfl := Option.some.inj hf
            exact JE7 _ _ _ rfl hS (lv_sub hl [1] rfl)
          · refine lv_iload_n (pc := 18) hx hb dX2_bandOfZone_18 rfl (lv_at hl 1 rfl) ?_
            refine lv_iload_n (pc := 19) hx hb dX2_bandOfZone_19 rfl (lv_at hl 2 rfl) ?_
            refine lv_iadd (pc := 20) hx hb dX2_bandOfZone_20 ?_
            refine lv_iconst (pc := 21) (v := 1) hx hb dX2_bandOfZone_21 (by decide) ?_
            refine lv_iadd (pc := 22) hx hb dX2_bandOfZone_22 ?_
            refine lv_iconst (pc := 23) (v := 2) hx hb dX2_bandOfZone_23 (by decide) ?_
            refine q_idiv (pc := 24) hx hb dX2_bandOfZone_24 hf (fun v8 hf => ?_)
            refine lv_istore (pc := 25) (lv' := [(4, .int v8), (0, .int p1), (1, .int v4), (2, .int v5), (3, .int v6)]) hx hb dX2_bandOfZone_25 hl (by decide) rfl (fun ls hl => ?_)
            refine lv_iload_n (pc := 27) hx hb dX2_bandOfZone_27 rfl (lv_at hl 1 rfl) ?_
            refine va_getsN (pc := 28) hx hb hZ.2.2.1 hS hown wn_43 (fun _ h9 => h9) dX2_bandOfZone_28 ?_
            refine lv_iload (pc := 31) hx hb dX2_bandOfZone_31 (lv_at hl 0 rfl) ?_
            refine q_sald (pc := 33) (f := q_zA) (N := 44) hx hb hf hZ.2.2.2.1 hS dX2_bandOfZone_33 (fun v9 hf => ?_)
            obtain ⟨k48, ek48, hf⟩ := q_j2_e hf
            have J48 : ∀ (v10 : Int32) (v11 : Int32) (H : Heap) (locs : List Loc) (ls : Array Slot), k48 v10 v11 = some v7 → H = s.heap → va_S A s.heap H locs → lv_has ls 5 [(0, .int p1), (1, .int v10), (2, .int v11), (3, .int v6)] → W p l e ({ frames := 0, cells := 0, slots := 0, locals := 0 } : Room) s m ([.int p1] : List Value).toArray below meth c H locs 0 0 Q (F0 m 48 ls []) := by
              intro v10 v11 H locs ls hf hHs hS hl
              subst hHs
              have hf := (ek48 v10 v11).symm.trans hf
              obtain ⟨v12, ev12, hf⟩ := q_nm_e hf
              refine lv_iinc (pc := 48) (v := v12) (lv' := [(3, .int v12), (0, .int p1), (1, .int v10), (2, .int v11)]) hx hb dX2_bandOfZone_48 hl (k := 3) rfl (by rw [ev12]; rfl) (by decide) rfl (fun ls hl => ?_)
              refine lv_goto (pc := 51) (tgt := 7) hx hb dX2_bandOfZone_51 (by decide) ?_
              exact ih7 v10 v11 v12 _ _ _ hf rfl hS (lv_sub hl [1, 2, 3, 0] rfl)
            refine q_icmp_lt (pc := 34) (tgt := 43) hx hb dX2_bandOfZone_34 (by decide) rfl hf (fun hf => ?_) (fun hf => ?_)
            · refine lv_iload (pc := 43) hx hb dX2_bandOfZone_43 (lv_at hl 0 rfl) ?_
              refine lv_iconst (pc := 45) (v := 1) hx hb dX2_bandOfZone_45 (by decide) ?_
              refine lv_isub (pc := 46) hx hb dX2_bandOfZone_46 ?_
              obtain ⟨v13, ev13, hf⟩ := q_nm_e hf
              refine q_topi ev13 ?_
              refine lv_istore_n (pc := 47) (lv' := [(2, .int v13), (4, .int v8), (0, .int p1), (1, .int v4), (3, .int v6)]) hx hb dX2_bandOfZone_47 rfl hl (by decide) rfl (fun ls hl => ?_)
              exact J48 v4 v13 _ _ _ hf rfl hS (lv_sub hl [2, 3, 0, 4] rfl)
            · refine lv_iload (pc := 37) hx hb dX2_bandOfZone_37 (lv_at hl 0 rfl) ?_
              refine lv_istore_n (pc := 39) (lv' := [(1, .int v8), (4, .int v8), (0, .int p1), (2, .int v5), (3, .int v6)]) hx hb dX2_bandOfZone_39 rfl hl (by decide) rfl (fun ls hl => ?_)
              refine lv_goto (pc := 40) (tgt := 48) hx hb dX2_bandOfZone_40 (by decide) ?_
              exact J48 v8 v5 _ _ _ hf rfl hS (lv_sub hl [2, 0, 3, 4] rfl)
    exact LP7 N v1 v2 v3 _ _ _ hm7 rfl hS (lv_sub hl [3, 2, 1, 0] rfl)
  exact hgo _ _ rfl hP hS
/-! X2_columnsIn -/
set_option maxRecDepth 100000 in
set_option maxHeartbeats 4000000 in
theorem c_Grid_columnsIn (l : Launch) (D : va_G) (ci : Nat → ClassId) (A : Nat → Prop) (sa : Nat → Nat) (N : Nat) (Rw : va_W) (a_g : Nat) (a_g_rowCuts : Nat) (a_g_columnCuts : Nat) (a_g_bandRows : Nat) (a_g_zoneColumns : Nat) (a_g_rows : Nat) (a_g_sheets : Nat) (g_zoneColumns : Nat → Int32) (p1 : Int32) (p2 : Int32) (r : Int32) (hf : f_Grid_columnsIn g_zoneColumns p1 p2 = some r) : Met l yX2_columnsIn wsX2_columnsIn ({ frames := 0, cells := 0, slots := 0, locals := 0 }) (va_Pc [.ref a_g, .int p1, .int p2] (q_N D ci A sa ((a_g, .inr (2, [.ref a_g_rowCuts, .ref a_g_columnCuts, .ref a_g_bandRows, .ref a_g_zoneColumns, .ref a_g_rows, .ref a_g_sheets])) :: (a_g_zoneColumns, .inl (ci 0, 5, .inl g_zoneColumns)) :: Rw))) (q_R (some (.int r))) 0 0 A := by
  refine q_ofW (cc := cX2_columnsIn) (maxL := 3) (ret := (some .int)) [.ref a_g, .int p1, .int p2] (plainFor_of_name (by decide)) rfl (Nat.le_of_ble_eq_true rfl) ?_
  intro p e s m below meth c ls Q hQ hx hb hml hr hts hown hlocks hK hA hZ hP hD hS hl
  have hl : lv_has ls 3 [(0, .ref a_g), (1, .int p1), (2, .int p2)] := hl
  have hown : s.vm.findClass RX2 = some m.cls := hown
  have hinX2 : ∀ w ∈ wsX20, w ∈ wsX2_columnsIn := fun _ h => List.mem_cons_of_mem _ (inWX20 _ h)
  have w_1 := hts (Cond.fieldLink RX2 21 "SheetNames$Grid" "zoneColumns" "[I") (List.mem_cons_of_mem _ t_w783)
  unfold f_Grid_columnsIn at hf
  have hgo : ∀ (H : Heap) (locs : List Loc), H = s.heap → va_P D vwCl ((a_g, .inr (2, [.ref a_g_rowCuts, .ref a_g_columnCuts, .ref a_g_bandRows, .ref a_g_zoneColumns, .ref a_g_rows, .ref a_g_sheets])) :: (a_g_zoneColumns, .inl (ci 0, 5, .inl g_zoneColumns)) :: Rw) H → va_S A s.heap H locs → W p l e ({ frames := 0, cells := 0, slots := 0, locals := 0 } : Room) s m ([.ref a_g, .int p1, .int p2] : List Value).toArray below meth c H locs 0 0 Q (F0 m 0 ls []) := by
    intro H locs hH hP hS
    subst hH
    refine lv_aload_n (pc := 0) hx hb dX2_columnsIn_0 rfl (lv_at hl 0 rfl) ?_
    refine va_get (pc := 1) (D := D) (ci := 2) (v := .ref a_g_zoneColumns) (C := RX2) (T := TX2) (N := 6) hx hb hts hinX2 hown hK hP 0 rfl rfl 3 (by decide) w_1 (fun _ h9 => h9) rfl dX2_columnsIn_1 ?_
    refine lv_iload_n (pc := 4) hx hb dX2_columnsIn_4 rfl (lv_at hl 2 rfl) ?_
    refine q_iald (pc := 5) hx hb hK hP 1 0 hf rfl rfl dX2_columnsIn_5 (fun v1 hf => ?_)
    refine lv_aload_n (pc := 6) hx hb dX2_columnsIn_6 rfl (lv_at hl 0 rfl) ?_
    refine va_get (pc := 7) (D := D) (ci := 2) (v := .ref a_g_zoneColumns) (C := RX2) (T := TX2) (N := 6) hx hb hts hinX2 hown hK hP 0 rfl rfl 3 (by decide) w_1 (fun _ h9 => h9) rfl dX2_columnsIn_7 ?_
    refine lv_iload_n (pc := 10) hx hb dX2_columnsIn_10 rfl (lv_at hl 1 rfl) ?_
    refine q_iald (pc := 11) hx hb hK hP 1 0 hf rfl rfl dX2_columnsIn_11 (fun v2 hf => ?_)
    refine q_idiv (pc := 12) hx hb dX2_columnsIn_12 hf (fun v3 hf => ?_)
    obtain rfl := Option.some.inj hf
    rw [hQ]
    exact q_iretr (pc := 13) hx hb hr hlocks rfl hS dX2_columnsIn_13
  exact hgo _ _ rfl hP hS
/-! X2_multiply -/
set_option maxRecDepth 100000 in
set_option maxHeartbeats 4000000 in
theorem c_Grid_multiply (l : Launch) (D : va_G) (ci : Nat → ClassId) (A : Nat → Prop) (sa : Nat → Nat) (N : Nat) (Rw : va_W) (a_g : Nat) (a_g_rowCuts : Nat) (a_g_columnCuts : Nat) (a_g_bandRows : Nat) (a_g_zoneColumns : Nat) (a_g_rows : Nat) (a_g_sheets : Nat) (g_rowCuts : Nat → Int32) (g_columnCuts : Nat → Int32) (g_bandRows : Nat → Int32) (g_zoneColumns : Nat → Int32) (g_rows : Nat → Int32) (g_sheets : Nat → Int32) (o1 : Nat → Int32) (o2 : Nat → Int32) (o3 : Nat → Int32) (o4 : Nat → Int32) (hf : f_Grid_multiply N g_rowCuts g_columnCuts g_bandRows g_zoneColumns g_rows g_sheets = some (o1, o2, o3, o4)) : Met l yX2_multiply wsX2_multiply ({ frames := 0, cells := 0, slots := 0, locals := 0 }) (va_Pc [.ref a_g] (q_N D ci A sa ((a_g, .inr (2, [.ref a_g_rowCuts, .ref a_g_columnCuts, .ref a_g_bandRows, .ref a_g_zoneColumns, .ref a_g_rows, .ref a_g_sheets])) :: (a_g_rowCuts, .inl (ci 0, 5, .inl g_rowCuts)) :: (a_g_columnCuts, .inl (ci 0, 5, .inl g_columnCuts)) :: (a_g_bandRows, .inl (ci 0, 5, .inl g_bandRows)) :: (a_g_zoneColumns, .inl (ci 0, 5, .inl g_zoneColumns)) :: (a_g_rows, .inl (ci 0, 5, .inl g_rows)) :: (a_g_sheets, .inl (ci 0, 5, .inl g_sheets)) :: Rw))) (q_Q none (q_O D A ((a_g, .inr (2, [.ref a_g_rowCuts, .ref a_g_columnCuts, .ref a_g_bandRows, .ref a_g_zoneColumns, .ref a_g_rows, .ref a_g_sheets])) :: (a_g_rowCuts, .inl (ci 0, 5, .inl g_rowCuts)) :: (a_g_columnCuts, .inl (ci 0, 5, .inl g_columnCuts)) :: (a_g_bandRows, .inl (ci 0, 5, .inl o1)) :: (a_g_zoneColumns, .inl (ci 0, 5, .inl o2)) :: (a_g_rows, .inl (ci 0, 5, .inl o3)) :: (a_g_sheets, .inl (ci 0, 5, .inl o4)) :: Rw)) A) 0 0 A := by
  refine q_ofW (cc := cX2_multiply) (maxL := 4) (ret := none) [.ref a_g] (plainFor_of_name (by decide)) rfl (Nat.le_of_ble_eq_true rfl) ?_
  intro p e s m below meth c ls Q hQ hx hb hml hr hts hown hlocks hK hA hZ hP hD hS hl
  have hl : lv_has ls 4 [(0, .ref a_g)] := hl
  have hown : s.vm.findClass RX2 = some m.cls := hown
  have hinX2 : ∀ w ∈ wsX20, w ∈ wsX2_multiply := fun _ h => List.mem_cons_of_mem _ (inWX20 _ h)
  have w_1 := hts (Cond.fieldLink RX2 9 "SheetNames$Grid" "rowCuts" "[I") (List.mem_cons_of_mem _ t_w784)
  have w_2 := hts (Cond.fieldLink RX2 15 "SheetNames$Grid" "columnCuts" "[I") (List.mem_cons_of_mem _ t_w785)
  have w_3 := hts (Cond.fieldLink RX2 18 "SheetNames$Grid" "bandRows" "[I") (List.mem_cons_of_mem _ t_w786)
  have w_4 := hts (Cond.fieldLink RX2 21 "SheetNames$Grid" "zoneColumns" "[I") (List.mem_cons_of_mem _ t_w783)
  have w_5 := hts (Cond.fieldLink RX2 24 "SheetNames$Grid" "rows" "[I") (List.mem_cons_of_mem _ t_w787)
  have w_6 := hts (Cond.fieldLink RX2 27 "SheetNames$Grid" "sheets" "[I") (List.mem_cons_of_mem _ t_w788)
  unfold f_Grid_multiply at hf
  have hgo : ∀ (H : Heap) (locs : List Loc), H = s.heap → va_P D vwCl ((a_g, .inr (2, [.ref a_g_rowCuts, .ref a_g_columnCuts, .ref a_g_bandRows, .ref a_g_zoneColumns, .ref a_g_rows, .ref a_g_sheets])) :: (a_g_rowCuts, .inl (ci 0, 5, .inl g_rowCuts)) :: (a_g_columnCuts, .inl (ci 0, 5, .inl g_columnCuts)) :: (a_g_bandRows, .inl (ci 0, 5, .inl g_bandRows)) :: (a_g_zoneColumns, .inl (ci 0, 5, .inl g_zoneColumns)) :: (a_g_rows, .inl (ci 0, 5, .inl g_rows)) :: (a_g_sheets, .inl (ci 0, 5, .inl g_sheets)) :: Rw) H → va_S A s.heap H locs → W p l e ({ frames := 0, cells := 0, slots := 0, locals := 0 } : Room) s m ([.ref a_g] : List Value).toArray below meth c H locs 0 0 Q (F0 m 0 ls []) := by
    intro H locs hH hP hS
    refine lv_iconst (pc := 0) (v := 1) hx hb dX2_multiply_0 (by decide) ?_
    obtain ⟨v1, ev1, hf⟩ := q_nm_e hf
    refine q_topi ev1 ?_
    refine lv_istore_n (pc := 1) (lv' := [(1, .int v1), (0, .ref a_g)]) hx hb dX2_multiply_1 rfl hl (by decide) rfl (fun ls hl => ?_)
    refine lv_iconst (pc := 2) (v := 1) hx hb dX2_multiply_2 (by decide) ?_
    obtain ⟨v2, ev2, hf⟩ := q_nm_e hf
    refine q_topi ev2 ?_
    refine lv_istore_n (pc := 3) (lv' := [(2, .int v2), (1, .int v1), (0, .ref a_g)]) hx hb dX2_multiply_3 rfl hl (by decide) rfl (fun ls hl => ?_)
    refine lv_iconst (pc := 4) (v := 0) hx hb dX2_multiply_4 (by decide) ?_
    obtain ⟨v3, ev3, hf⟩ := q_nm_e hf
    refine q_topi ev3 ?_
    refine lv_istore_n (pc := 5) (lv' := [(3, .int v3), (2, .int v2), (1, .int v1), (0, .ref a_g)]) hx hb dX2_multiply_5 rfl hl (by decide) rfl (fun ls hl => ?_)
    obtain ⟨f11, f12, f13, f14, hm6, hf⟩ := q_b4_e hf
    have JE6 : ∀ (H : Heap) (locs : List Loc) (ls : Array Slot), va_P D vwCl ((a_g, .inr (2, [.ref a_g_rowCuts, .ref a_g_columnCuts, .ref a_g_bandRows, .ref a_g_zoneColumns, .ref a_g_rows, .ref a_g_sheets])) :: (a_g_rowCuts, .inl (ci 0, 5, .inl g_rowCuts)) :: (a_g_columnCuts, .inl (ci 0, 5, .inl g_columnCuts)) :: (a_g_bandRows, .inl (ci 0, 5, .inl f11)) :: (a_g_zoneColumns, .inl (ci 0, 5, .inl f12)) :: (a_g_rows, .inl (ci 0, 5, .inl f13)) :: (a_g_sheets, .inl (ci 0, 5, .inl f14)) :: Rw) H → va_D A ((a_g, .inr (2, [.ref a_g_rowCuts, .ref a_g_columnCuts, .ref a_g_bandRows, .ref a_g_zoneColumns, .ref a_g_rows, .ref a_g_sheets])) :: (a_g_rowCuts, .inl (ci 0, 5, .inl g_rowCuts)) :: (a_g_columnCuts, .inl (ci 0, 5, .inl g_columnCuts)) :: (a_g_bandRows, .inl (ci 0, 5, .inl f11)) :: (a_g_zoneColumns, .inl (ci 0, 5, .inl f12)) :: (a_g_rows, .inl (ci 0, 5, .inl f13)) :: (a_g_sheets, .inl (ci 0, 5, .inl f14)) :: Rw) → va_S A s.heap H locs → lv_has ls 4 [] → W p l e ({ frames := 0, cells := 0, slots := 0, locals := 0 } : Room) s m ([.ref a_g] : List Value).toArray below meth c H locs 0 0 Q (F0 m 76 ls []) := by
      intro H locs ls hP hD hS hl
      obtain ⟨e90, e91, e92, e93⟩ := q_inj4 (Option.some.inj hf)
      rw [hQ, ← e90, ← e91, ← e92, ← e93]
      exact q_vret (pc := 76) hx hb hr hlocks hP hD hS dX2_multiply_76
    have LP6 : ∀ (n6 : Nat) (v4 : Int32) (v5 : Int32) (v6 : Int32) (f7 : Nat → Int32) (f8 : Nat → Int32) (f9 : Nat → Int32) (f10 : Nat → Int32) (H : Heap) (locs : List Loc) (ls : Array Slot), f_Grid_multiply_L6 g_columnCuts g_rowCuts n6 v4 v5 v6 f7 f8 f9 f10 = some (f11, f12, f13, f14) → va_P D vwCl ((a_g, .inr (2, [.ref a_g_rowCuts, .ref a_g_columnCuts, .ref a_g_bandRows, .ref a_g_zoneColumns, .ref a_g_rows, .ref a_g_sheets])) :: (a_g_rowCuts, .inl (ci 0, 5, .inl g_rowCuts)) :: (a_g_columnCuts, .inl (ci 0, 5, .inl g_columnCuts)) :: (a_g_bandRows, .inl (ci 0, 5, .inl f7)) :: (a_g_zoneColumns, .inl (ci 0, 5, .inl f8)) :: (a_g_rows, .inl (ci 0, 5, .inl f9)) :: (a_g_sheets, .inl (ci 0, 5, .inl f10)) :: Rw) H → va_D A ((a_g, .inr (2, [.ref a_g_rowCuts, .ref a_g_columnCuts, .ref a_g_bandRows, .ref a_g_zoneColumns, .ref a_g_rows, .ref a_g_sheets])) :: (a_g_rowCuts, .inl (ci 0, 5, .inl g_rowCuts)) :: (a_g_columnCuts, .inl (ci 0, 5, .inl g_columnCuts)) :: (a_g_bandRows, .inl (ci 0, 5, .inl f7)) :: (a_g_zoneColumns, .inl (ci 0, 5, .inl f8)) :: (a_g_rows, .inl (ci 0, 5, .inl f9)) :: (a_g_sheets, .inl (ci 0, 5, .inl f10)) :: Rw) → va_S A s.heap H locs → lv_has ls 4 [(0, .ref a_g), (1, .int v4), (2, .int v5), (3, .int v6)] → W p l e ({ frames := 0, cells := 0, slots := 0, locals := 0 } : Room) s m ([.ref a_g] : List Value).toArray below meth c H locs 0 0 Q (F0 m 6 ls []) := by
      intro n6
      induction n6 with
      | zero => intro v4 v5 v6 f7 f8 f9 f10 H locs ls hf; rw [f_Grid_multiply_L6] at hf; cases hf
      | succ n6 ih6 =>
        intro v4 v5 v6 f7 f8 f9 f10 H locs ls hf hP hD hS hl
        rw [f_Grid_multiply_L6] at hf
        refine lv_iload_n (pc := 6) hx hb dX2_multiply_6 rfl (lv_at hl 3 rfl) ?_
        refine lv_iconst (pc := 7) (v := 4) hx hb dX2_multiply_7 (by decide) ?_
        refine q_icmp_gt (pc := 8) (tgt := 76) hx hb dX2_multiply_8 (by decide) rfl hf (fun hf => ?_) (fun hf => ?_)
        · obtain ⟨rfl, rfl, rfl, rfl⟩ := q_inj4 (Option.some.inj hf)
          exact JE6 _ _ _ hP hD hS (lv_sub hl [] rfl)
        · refine lv_iload_n (pc := 11) hx hb dX2_multiply_11 rfl (lv_at hl 1 rfl) ?_
          refine lv_aload_n (pc := 12) hx hb dX2_multiply_12 rfl (lv_at hl 0 rfl) ?_
          refine va_get (pc := 13) (D := D) (ci := 2) (v := .ref a_g_rowCuts) (C := RX2) (T := TX2) (N := 6) hx hb hts hinX2 hown hK hP 0 rfl rfl 0 (by decide) w_1 (fun _ h9 => h9) rfl dX2_multiply_13 ?_
          refine lv_iload_n (pc := 16) hx hb dX2_multiply_16 rfl (lv_at hl 3 rfl) ?_
          refine q_iald (pc := 17) hx hb hK hP 1 0 hf rfl rfl dX2_multiply_17 (fun v15 hf => ?_)
          refine lv_imul (pc := 18) hx hb dX2_multiply_18 ?_
          obtain ⟨v16, ev16, hf⟩ := q_nm_e hf
          refine q_topi ev16 ?_
          refine lv_istore_n (pc := 19) (lv' := [(1, .int v16), (0, .ref a_g), (2, .int v5), (3, .int v6)]) hx hb dX2_multiply_19 rfl hl (by decide) rfl (fun ls hl => ?_)
          refine lv_iload_n (pc := 20) hx hb dX2_multiply_20 rfl (lv_at hl 2 rfl) ?_
          refine lv_aload_n (pc := 21) hx hb dX2_multiply_21 rfl (lv_at hl 1 rfl) ?_
          refine va_get (pc := 22) (D := D) (ci := 2) (v := .ref a_g_columnCuts) (C := RX2) (T := TX2) (N := 6) hx hb hts hinX2 hown hK hP 0 rfl rfl 1 (by decide) w_2 (fun _ h9 => h9) rfl dX2_multiply_22 ?_
          refine lv_iload_n (pc := 25) hx hb dX2_multiply_25 rfl (lv_at hl 3 rfl) ?_
          refine q_iald (pc := 26) hx hb hK hP 2 0 hf rfl rfl dX2_multiply_26 (fun v17 hf => ?_)
          refine lv_imul (pc := 27) hx hb dX2_multiply_27 ?_
          obtain ⟨v18, ev18, hf⟩ := q_nm_e hf
          refine q_topi ev18 ?_
          refine lv_istore_n (pc := 28) (lv' := [(2, .int v18), (1, .int v16), (0, .ref a_g), (3, .int v6)]) hx hb dX2_multiply_28 rfl hl (by decide) rfl (fun ls hl => ?_)
          refine lv_aload_n (pc := 29) hx hb dX2_multiply_29 rfl (lv_at hl 2 rfl) ?_
          refine va_get (pc := 30) (D := D) (ci := 2) (v := .ref a_g_bandRows) (C := RX2) (T := TX2) (N := 6) hx hb hts hinX2 hown hK hP 0 rfl rfl 2 (by decide) w_3 (fun _ h9 => h9) rfl dX2_multiply_30 ?_
          refine lv_iload_n (pc := 33) hx hb dX2_multiply_33 rfl (lv_at hl 3 rfl) ?_
          refine lv_iload_n (pc := 34) hx hb dX2_multiply_34 rfl (lv_at hl 1 rfl) ?_
          refine q_iast (pc := 35) hx hb hK hP hD hS 3 0 hf rfl rfl dX2_multiply_35 (fun f19 H locs hf hP hD hS => ?_)
          obtain ⟨hP, hD⟩ : va_PD D A ((a_g, .inr (2, [.ref a_g_rowCuts, .ref a_g_columnCuts, .ref a_g_bandRows, .ref a_g_zoneColumns, .ref a_g_rows, .ref a_g_sheets])) :: (a_g_rowCuts, .inl (ci 0, 5, .inl g_rowCuts)) :: (a_g_columnCuts, .inl (ci 0, 5, .inl g_columnCuts)) :: (a_g_bandRows, .inl (ci 0, 5, .inl f19)) :: (a_g_zoneColumns, .inl (ci 0, 5, .inl f8)) :: (a_g_rows, .inl (ci 0, 5, .inl f9)) :: (a_g_sheets, .inl (ci 0, 5, .inl f10)) :: Rw) H := ⟨hP, hD⟩
          refine lv_aload_n (pc := 36) hx hb dX2_multiply_36 rfl (lv_at hl 2 rfl) ?_
          refine va_get (pc := 37) (D := D) (ci := 2) (v := .ref a_g_zoneColumns) (C := RX2) (T := TX2) (N := 6) hx hb hts hinX2 hown hK hP 0 rfl rfl 3 (by decide) w_4 (fun _ h9 => h9) rfl dX2_multiply_37 ?_
          refine lv_iload_n (pc := 40) hx hb dX2_multiply_40 rfl (lv_at hl 3 rfl) ?_
          refine lv_iload_n (pc := 41) hx hb dX2_multiply_41 rfl (lv_at hl 0 rfl) ?_
          refine q_iast (pc := 42) hx hb hK hP hD hS 4 0 hf rfl rfl dX2_multiply_42 (fun f20 H locs hf hP hD hS => ?_)
          obtain ⟨hP, hD⟩ : va_PD D A ((a_g, .inr (2, [.ref a_g_rowCuts, .ref a_g_columnCuts, .ref a_g_bandRows, .ref a_g_zoneColumns, .ref a_g_rows, .ref a_g_sheets])) :: (a_g_rowCuts, .inl (ci 0, 5, .inl g_rowCuts)) :: (a_g_columnCuts, .inl (ci 0, 5, .inl g_columnCuts)) :: (a_g_bandRows, .inl (ci 0, 5, .inl f19)) :: (a_g_zoneColumns, .inl (ci 0, 5, .inl f20)) :: (a_g_rows, .inl (ci 0, 5, .inl f9)) :: (a_g_sheets, .inl (ci 0, 5, .inl f10)) :: Rw) H := ⟨hP, hD⟩
          refine lv_aload_n (pc := 43) hx hb dX2_multiply_43 rfl (lv_at hl 2 rfl) ?_
          refine va_get (pc := 44) (D := D) (ci := 2) (v := .ref a_g_rows) (C := RX2) (T := TX2) (N := 6) hx hb hts hinX2 hown hK hP 0 rfl rfl 4 (by decide) w_5 (fun _ h9 => h9) rfl dX2_multiply_44 ?_
          refine lv_iload_n (pc := 47) hx hb dX2_multiply_47 rfl (lv_at hl 3 rfl) ?_
          refine lv_bipush (pc := 48) (v := 44) hx hb dX2_multiply_48 (by decide) ?_
          refine lv_iload_n (pc := 50) hx hb dX2_multiply_50 rfl (lv_at hl 1 rfl) ?_
          refine lv_imul (pc := 51) hx hb dX2_multiply_51 ?_
          refine lv_iconst (pc := 52) (v := 2) hx hb dX2_multiply_52 (by decide) ?_
          refine lv_iadd (pc := 53) hx hb dX2_multiply_53 ?_
          refine q_iast (pc := 54) hx hb hK hP hD hS 5 0 hf rfl rfl dX2_multiply_54 (fun f21 H locs hf hP hD hS => ?_)
          obtain ⟨hP, hD⟩ : va_PD D A ((a_g, .inr (2, [.ref a_g_rowCuts, .ref a_g_columnCuts, .ref a_g_bandRows, .ref a_g_zoneColumns, .ref a_g_rows, .ref a_g_sheets])) :: (a_g_rowCuts, .inl (ci 0, 5, .inl g_rowCuts)) :: (a_g_columnCuts, .inl (ci 0, 5, .inl g_columnCuts)) :: (a_g_bandRows, .inl (ci 0, 5, .inl f19)) :: (a_g_zoneColumns, .inl (ci 0, 5, .inl f20)) :: (a_g_rows, .inl (ci 0, 5, .inl f21)) :: (a_g_sheets, .inl (ci 0, 5, .inl f10)) :: Rw) H := ⟨hP, hD⟩
          refine lv_aload_n (pc := 55) hx hb dX2_multiply_55 rfl (lv_at hl 2 rfl) ?_
          refine va_get (pc := 56) (D := D) (ci := 2) (v := .ref a_g_sheets) (C := RX2) (T := TX2) (N := 6) hx hb hts hinX2 hown hK hP 0 rfl rfl 5 (by decide) w_6 (fun _ h9 => h9) rfl dX2_multiply_56 ?_
          refine lv_iload_n (pc := 59) hx hb dX2_multiply_59 rfl (lv_at hl 3 rfl) ?_
          refine lv_sipush (pc := 60) (v := 2130) hx hb dX2_multiply_60 (by decide) ?_
          refine lv_iload_n (pc := 63) hx hb dX2_multiply_63 rfl (lv_at hl 1 rfl) ?_
          refine lv_imul (pc := 64) hx hb dX2_multiply_64 ?_
          refine lv_iload_n (pc := 65) hx hb dX2_multiply_65 rfl (lv_at hl 0 rfl) ?_
          refine lv_imul (pc := 66) hx hb dX2_multiply_66 ?_
          refine lv_iconst (pc := 67) (v := 2) hx hb dX2_multiply_67 (by decide) ?_
          refine lv_iadd (pc := 68) hx hb dX2_multiply_68 ?_
          refine q_iast (pc := 69) hx hb hK hP hD hS 6 0 hf rfl rfl dX2_multiply_69 (fun f22 H locs hf hP hD hS => ?_)
          obtain ⟨hP, hD⟩ : va_PD D A ((a_g, .inr (2, [.ref a_g_rowCuts, .ref a_g_columnCuts, .ref a_g_bandRows, .ref a_g_zoneColumns, .ref a_g_rows, .ref a_g_sheets])) :: (a_g_rowCuts, .inl (ci 0, 5, .inl g_rowCuts)) :: (a_g_columnCuts, .inl (ci 0, 5, .inl g_columnCuts)) :: (a_g_bandRows, .inl (ci 0, 5, .inl f19)) :: (a_g_zoneColumns, .inl (ci 0, 5, .inl f20)) :: (a_g_rows, .inl (ci 0, 5, .inl f21)) :: (a_g_sheets, .inl (ci 0, 5, .inl f22)) :: Rw) H := ⟨hP, hD⟩
          obtain ⟨v23, ev23, hf⟩ := q_nm_e hf
          refine lv_iinc (pc := 70) (v := v23) (lv' := [(3, .int v23), (2, .int v18), (1, .int v16), (0, .ref a_g)]) hx hb dX2_multiply_70 hl (k := 3) rfl (by rw [ev23]; rfl) (by decide) rfl (fun ls hl => ?_)
          refine lv_goto (pc := 73) (tgt := 6) hx hb dX2_multiply_73 (by decide) ?_
          exact ih6 v16 v18 v23 f19 f20 f21 f22 _ _ _ hf hP hD hS (lv_sub hl [3, 2, 1, 0] rfl)
    exact LP6 N v1 v2 v3 g_bandRows g_zoneColumns g_rows g_sheets _ _ _ hm6 hP hD hS (lv_sub hl [3, 2, 1, 0] rfl)
  exact hgo _ _ rfl hP hS
/-! X2_copyFrom -/
set_option maxRecDepth 100000 in
set_option maxHeartbeats 4000000 in
theorem c_Grid_copyFrom (l : Launch) (D : va_G) (ci : Nat → ClassId) (A : Nat → Prop) (sa : Nat → Nat) (N : Nat) (Rw : va_W) (a_g : Nat) (a_g_rowCuts : Nat) (a_g_columnCuts : Nat) (a_g_bandRows : Nat) (a_g_zoneColumns : Nat) (a_g_rows : Nat) (a_g_sheets : Nat) (a_g2 : Nat) (a_g2_rowCuts : Nat) (a_g2_columnCuts : Nat) (a_g2_bandRows : Nat) (a_g2_zoneColumns : Nat) (a_g2_rows : Nat) (a_g2_sheets : Nat) (g_rowCuts : Nat → Int32) (g_columnCuts : Nat → Int32) (g_bandRows : Nat → Int32) (g_zoneColumns : Nat → Int32) (g_rows : Nat → Int32) (g_sheets : Nat → Int32) (g2_rowCuts : Nat → Int32) (g2_columnCuts : Nat → Int32) (o1 : Nat → Int32) (o2 : Nat → Int32) (o3 : Nat → Int32) (o4 : Nat → Int32) (o5 : Nat → Int32) (o6 : Nat → Int32) (hf : f_Grid_copyFrom N g_rowCuts g_columnCuts g_bandRows g_zoneColumns g_rows g_sheets g2_rowCuts g2_columnCuts = some (o1, o2, o3, o4, o5, o6)) : Met l yX2_copyFrom wsX2_copyFrom ({ frames := 1, cells := 0, slots := 0, locals := 40 }) (va_Pc [.ref a_g, .ref a_g2] (q_N D ci A sa ((a_g, .inr (2, [.ref a_g_rowCuts, .ref a_g_columnCuts, .ref a_g_bandRows, .ref a_g_zoneColumns, .ref a_g_rows, .ref a_g_sheets])) :: (a_g_rowCuts, .inl (ci 0, 5, .inl g_rowCuts)) :: (a_g_columnCuts, .inl (ci 0, 5, .inl g_columnCuts)) :: (a_g_bandRows, .inl (ci 0, 5, .inl g_bandRows)) :: (a_g_zoneColumns, .inl (ci 0, 5, .inl g_zoneColumns)) :: (a_g_rows, .inl (ci 0, 5, .inl g_rows)) :: (a_g_sheets, .inl (ci 0, 5, .inl g_sheets)) :: (a_g2, .inr (2, [.ref a_g2_rowCuts, .ref a_g2_columnCuts, .ref a_g2_bandRows, .ref a_g2_zoneColumns, .ref a_g2_rows, .ref a_g2_sheets])) :: (a_g2_rowCuts, .inl (ci 0, 5, .inl g2_rowCuts)) :: (a_g2_columnCuts, .inl (ci 0, 5, .inl g2_columnCuts)) :: Rw))) (q_Q none (q_O D A ((a_g, .inr (2, [.ref a_g_rowCuts, .ref a_g_columnCuts, .ref a_g_bandRows, .ref a_g_zoneColumns, .ref a_g_rows, .ref a_g_sheets])) :: (a_g_rowCuts, .inl (ci 0, 5, .inl o1)) :: (a_g_columnCuts, .inl (ci 0, 5, .inl o2)) :: (a_g_bandRows, .inl (ci 0, 5, .inl o3)) :: (a_g_zoneColumns, .inl (ci 0, 5, .inl o4)) :: (a_g_rows, .inl (ci 0, 5, .inl o5)) :: (a_g_sheets, .inl (ci 0, 5, .inl o6)) :: (a_g2, .inr (2, [.ref a_g2_rowCuts, .ref a_g2_columnCuts, .ref a_g2_bandRows, .ref a_g2_zoneColumns, .ref a_g2_rows, .ref a_g2_sheets])) :: (a_g2_rowCuts, .inl (ci 0, 5, .inl g2_rowCuts)) :: (a_g2_columnCuts, .inl (ci 0, 5, .inl g2_columnCuts)) :: Rw)) A) 0 0 A := by
  refine q_ofW (cc := cX2_copyFrom) (maxL := 2) (ret := none) [.ref a_g, .ref a_g2] (plainFor_of_name (by decide)) rfl (Nat.le_of_ble_eq_true rfl) ?_
  intro p e s m below meth c ls Q hQ hx hb hml hr hts hown hlocks hK hA hZ hP hD hS hl
  have hl : lv_has ls 2 [(0, .ref a_g), (1, .ref a_g2)] := hl
  have hown : s.vm.findClass RX2 = some m.cls := hown
  have hinX2 : ∀ w ∈ wsX20, w ∈ wsX2_copyFrom := fun _ h => List.mem_cons_of_mem _ (inWX20 _ h)
  have w_1 := hts (Cond.fieldLink RX2 9 "SheetNames$Grid" "rowCuts" "[I") (List.mem_cons_of_mem _ t_w784)
  have w_2 := hts (Cond.methodLink RX2 37 arraycopyName) (List.mem_cons_of_mem _ t_w789)
  have w_3 := hts (Cond.native arraycopyName) (List.mem_cons_of_mem _ t_w790)
  have w_4 := hts (Cond.static arraycopyName) (List.mem_cons_of_mem _ t_w791)
  have w_5 := hts (Cond.initialized "java/lang/System") (List.mem_cons_of_mem _ t_w792)
  have w_6 := hts (Cond.fieldLink RX2 15 "SheetNames$Grid" "columnCuts" "[I") (List.mem_cons_of_mem _ t_w785)
  unfold f_Grid_copyFrom at hf
  have hgo : ∀ (H : Heap) (locs : List Loc), H = s.heap → va_P D vwCl ((a_g, .inr (2, [.ref a_g_rowCuts, .ref a_g_columnCuts, .ref a_g_bandRows, .ref a_g_zoneColumns, .ref a_g_rows, .ref a_g_sheets])) :: (a_g_rowCuts, .inl (ci 0, 5, .inl g_rowCuts)) :: (a_g_columnCuts, .inl (ci 0, 5, .inl g_columnCuts)) :: (a_g_bandRows, .inl (ci 0, 5, .inl g_bandRows)) :: (a_g_zoneColumns, .inl (ci 0, 5, .inl g_zoneColumns)) :: (a_g_rows, .inl (ci 0, 5, .inl g_rows)) :: (a_g_sheets, .inl (ci 0, 5, .inl g_sheets)) :: (a_g2, .inr (2, [.ref a_g2_rowCuts, .ref a_g2_columnCuts, .ref a_g2_bandRows, .ref a_g2_zoneColumns, .ref a_g2_rows, .ref a_g2_sheets])) :: (a_g2_rowCuts, .inl (ci 0, 5, .inl g2_rowCuts)) :: (a_g2_columnCuts, .inl (ci 0, 5, .inl g2_columnCuts)) :: Rw) H → va_S A s.heap H locs → W p l e ({ frames := 1, cells := 0, slots := 0, locals := 40 } : Room) s m ([.ref a_g, .ref a_g2] : List Value).toArray below meth c H locs 0 0 Q (F0 m 0 ls []) := by
    intro H locs hH hP hS
    refine lv_aload_n (pc := 0) hx hb dX2_copyFrom_0 rfl (lv_at hl 1 rfl) ?_
    refine va_get (pc := 1) (D := D) (ci := 2) (v := .ref a_g2_rowCuts) (C := RX2) (T := TX2) (N := 6) hx hb hts hinX2 hown hK hP 7 rfl rfl 0 (by decide) w_1 (fun _ h9 => h9) rfl dX2_copyFrom_1 ?_
    refine lv_iconst (pc := 4) (v := 0) hx hb dX2_copyFrom_4 (by decide) ?_
    refine lv_aload_n (pc := 5) hx hb dX2_copyFrom_5 rfl (lv_at hl 0 rfl) ?_
    refine va_get (pc := 6) (D := D) (ci := 2) (v := .ref a_g_rowCuts) (C := RX2) (T := TX2) (N := 6) hx hb hts hinX2 hown hK hP 0 rfl rfl 0 (by decide) w_1 (fun _ h9 => h9) rfl dX2_copyFrom_6 ?_
    refine lv_iconst (pc := 9) (v := 0) hx hb dX2_copyFrom_9 (by decide) ?_
    refine lv_aload_n (pc := 10) hx hb dX2_copyFrom_10 rfl (lv_at hl 0 rfl) ?_
    refine va_get (pc := 11) (D := D) (ci := 2) (v := .ref a_g_rowCuts) (C := RX2) (T := TX2) (N := 6) hx hb hts hinX2 hown hK hP 0 rfl rfl 0 (by decide) w_1 (fun _ h9 => h9) rfl dX2_copyFrom_11 ?_
    refine va_alen (pc := 14) (v := 5) hx hb hK hP 1 0 rfl rfl rfl dX2_copyFrom_14 ?_
    obtain ⟨f1, ef1, hf⟩ := q_nm_e hf
    refine va_copyi (pc := 15) hx hb (hml.trans hl.1.symm) hown w_2 w_3 w_4 w_5 hK hP hD hS 8 1 0 0 rfl rfl rfl rfl rfl (by decide) (by decide) (by decide) (by decide) (by decide) (fun i _ => rfl) (Nat.le_of_ble_eq_true rfl) (by decide) dX2_copyFrom_15 (fun H locs hP hD hS => ?_)
    have ec : va_cpy g2_rowCuts g_rowCuts (0 : Int32).toNatClampNeg (0 : Int32).toNatClampNeg (5 : Int32).toNatClampNeg = f1 := by rw [ef1]; rfl
    have hP : va_P D vwCl ((a_g, .inr (2, [.ref a_g_rowCuts, .ref a_g_columnCuts, .ref a_g_bandRows, .ref a_g_zoneColumns, .ref a_g_rows, .ref a_g_sheets])) :: (a_g_rowCuts, .inl (ci 0, 5, .inl f1)) :: (a_g_columnCuts, .inl (ci 0, 5, .inl g_columnCuts)) :: (a_g_bandRows, .inl (ci 0, 5, .inl g_bandRows)) :: (a_g_zoneColumns, .inl (ci 0, 5, .inl g_zoneColumns)) :: (a_g_rows, .inl (ci 0, 5, .inl g_rows)) :: (a_g_sheets, .inl (ci 0, 5, .inl g_sheets)) :: (a_g2, .inr (2, [.ref a_g2_rowCuts, .ref a_g2_columnCuts, .ref a_g2_bandRows, .ref a_g2_zoneColumns, .ref a_g2_rows, .ref a_g2_sheets])) :: (a_g2_rowCuts, .inl (ci 0, 5, .inl g2_rowCuts)) :: (a_g2_columnCuts, .inl (ci 0, 5, .inl g2_columnCuts)) :: Rw) H := by rw [← ec]; exact hP
    have hD : va_D A ((a_g, .inr (2, [.ref a_g_rowCuts, .ref a_g_columnCuts, .ref a_g_bandRows, .ref a_g_zoneColumns, .ref a_g_rows, .ref a_g_sheets])) :: (a_g_rowCuts, .inl (ci 0, 5, .inl f1)) :: (a_g_columnCuts, .inl (ci 0, 5, .inl g_columnCuts)) :: (a_g_bandRows, .inl (ci 0, 5, .inl g_bandRows)) :: (a_g_zoneColumns, .inl (ci 0, 5, .inl g_zoneColumns)) :: (a_g_rows, .inl (ci 0, 5, .inl g_rows)) :: (a_g_sheets, .inl (ci 0, 5, .inl g_sheets)) :: (a_g2, .inr (2, [.ref a_g2_rowCuts, .ref a_g2_columnCuts, .ref a_g2_bandRows, .ref a_g2_zoneColumns, .ref a_g2_rows, .ref a_g2_sheets])) :: (a_g2_rowCuts, .inl (ci 0, 5, .inl g2_rowCuts)) :: (a_g2_columnCuts, .inl (ci 0, 5, .inl g2_columnCuts)) :: Rw) := by rw [← ec]; exact hD
    refine lv_aload_n (pc := 18) hx hb dX2_copyFrom_18 rfl (lv_at hl 1 rfl) ?_
    refine va_get (pc := 19) (D := D) (ci := 2) (v := .ref a_g2_columnCuts) (C := RX2) (T := TX2) (N := 6) hx hb hts hinX2 hown hK hP 7 rfl rfl 1 (by decide) w_6 (fun _ h9 => h9) rfl dX2_copyFrom_19 ?_
    refine lv_iconst (pc := 22) (v := 0) hx hb dX2_copyFrom_22 (by decide) ?_
    refine lv_aload_n (pc := 23) hx hb dX2_copyFrom_23 rfl (lv_at hl 0 rfl) ?_
    refine va_get (pc := 24) (D := D) (ci := 2) (v := .ref a_g_columnCuts) (C := RX2) (T := TX2) (N := 6) hx hb hts hinX2 hown hK hP 0 rfl rfl 1 (by decide) w_6 (fun _ h9 => h9) rfl dX2_copyFrom_24 ?_
    refine lv_iconst (pc := 27) (v := 0) hx hb dX2_copyFrom_27 (by decide) ?_
    refine lv_aload_n (pc := 28) hx hb dX2_copyFrom_28 rfl (lv_at hl 0 rfl) ?_
    refine va_get (pc := 29) (D := D) (ci := 2) (v := .ref a_g_columnCuts) (C := RX2) (T := TX2) (N := 6) hx hb hts hinX2 hown hK hP 0 rfl rfl 1 (by decide) w_6 (fun _ h9 => h9) rfl dX2_copyFrom_29 ?_
    refine va_alen (pc := 32) (v := 5) hx hb hK hP 2 0 rfl rfl rfl dX2_copyFrom_32 ?_
    obtain ⟨f2, ef2, hf⟩ := q_nm_e hf
    refine va_copyi (pc := 33) hx hb (hml.trans hl.1.symm) hown w_2 w_3 w_4 w_5 hK hP hD hS 9 2 0 0 rfl rfl rfl rfl rfl (by decide) (by decide) (by decide) (by decide) (by decide) (fun i _ => rfl) (Nat.le_of_ble_eq_true rfl) (by decide) dX2_copyFrom_33 (fun H locs hP hD hS => ?_)
    have ec : va_cpy g2_columnCuts g_columnCuts (0 : Int32).toNatClampNeg (0 : Int32).toNatClampNeg (5 : Int32).toNatClampNeg = f2 := by rw [ef2]; rfl
    have hP : va_P D vwCl ((a_g, .inr (2, [.ref a_g_rowCuts, .ref a_g_columnCuts, .ref a_g_bandRows, .ref a_g_zoneColumns, .ref a_g_rows, .ref a_g_sheets])) :: (a_g_rowCuts, .inl (ci 0, 5, .inl f1)) :: (a_g_columnCuts, .inl (ci 0, 5, .inl f2)) :: (a_g_bandRows, .inl (ci 0, 5, .inl g_bandRows)) :: (a_g_zoneColumns, .inl (ci 0, 5, .inl g_zoneColumns)) :: (a_g_rows, .inl (ci 0, 5, .inl g_rows)) :: (a_g_sheets, .inl (ci 0, 5, .inl g_sheets)) :: (a_g2, .inr (2, [.ref a_g2_rowCuts, .ref a_g2_columnCuts, .ref a_g2_bandRows, .ref a_g2_zoneColumns, .ref a_g2_rows, .ref a_g2_sheets])) :: (a_g2_rowCuts, .inl (ci 0, 5, .inl g2_rowCuts)) :: (a_g2_columnCuts, .inl (ci 0, 5, .inl g2_columnCuts)) :: Rw) H := by rw [← ec]; exact hP
    have hD : va_D A ((a_g, .inr (2, [.ref a_g_rowCuts, .ref a_g_columnCuts, .ref a_g_bandRows, .ref a_g_zoneColumns, .ref a_g_rows, .ref a_g_sheets])) :: (a_g_rowCuts, .inl (ci 0, 5, .inl f1)) :: (a_g_columnCuts, .inl (ci 0, 5, .inl f2)) :: (a_g_bandRows, .inl (ci 0, 5, .inl g_bandRows)) :: (a_g_zoneColumns, .inl (ci 0, 5, .inl g_zoneColumns)) :: (a_g_rows, .inl (ci 0, 5, .inl g_rows)) :: (a_g_sheets, .inl (ci 0, 5, .inl g_sheets)) :: (a_g2, .inr (2, [.ref a_g2_rowCuts, .ref a_g2_columnCuts, .ref a_g2_bandRows, .ref a_g2_zoneColumns, .ref a_g2_rows, .ref a_g2_sheets])) :: (a_g2_rowCuts, .inl (ci 0, 5, .inl g2_rowCuts)) :: (a_g2_columnCuts, .inl (ci 0, 5, .inl g2_columnCuts)) :: Rw) := by rw [← ec]; exact hD
    refine lv_aload_n (pc := 36) hx hb dX2_copyFrom_36 rfl (lv_at hl 0 rfl) ?_
    obtain ⟨f3, f4, f5, f6, hm37, hf⟩ := q_b4_e hf
    refine q_cV (pc := 37) (As := []) (rest := []) (v0 := none) ⟨hx, hb, hml, hown, hts⟩ hK hA hZ hP hD hS hl.1 [0, 1, 2, 3, 4, 5, 6, 7, 8, 9] 10 rfl ⟨rfl, rfl, rfl⟩ (c_Grid_multiply l D ci A sa N ((a_g2, .inr (2, [.ref a_g2_rowCuts, .ref a_g2_columnCuts, .ref a_g2_bandRows, .ref a_g2_zoneColumns, .ref a_g2_rows, .ref a_g2_sheets])) :: (a_g2_rowCuts, .inl (ci 0, 5, .inl g2_rowCuts)) :: (a_g2_columnCuts, .inl (ci 0, 5, .inl g2_columnCuts)) :: Rw) a_g a_g_rowCuts a_g_columnCuts a_g_bandRows a_g_zoneColumns a_g_rows a_g_sheets f1 f2 g_bandRows g_zoneColumns g_rows g_sheets f3 f4 f5 f6 hm37) 0 rfl rfl (cwV 0 hts gX2_copyFrom_X2_multiply rfl rfl rfl (by decide +kernel) ⟨Nat.le_of_ble_eq_true rfl, Nat.le_of_ble_eq_true rfl⟩) rfl rfl (Nat.le_of_ble_eq_true rfl) dX2_copyFrom_37 ⟨Nat.zero_le _, Nat.zero_le _⟩ [0, 1, 2, 3, 4, 5, 6, 7, 8, 9] 10 rfl ⟨rfl, rfl, rfl⟩ (fun H locs hP hD hS => ?_)
    obtain ⟨hP, hD⟩ : va_PD D A ((a_g, .inr (2, [.ref a_g_rowCuts, .ref a_g_columnCuts, .ref a_g_bandRows, .ref a_g_zoneColumns, .ref a_g_rows, .ref a_g_sheets])) :: (a_g_rowCuts, .inl (ci 0, 5, .inl f1)) :: (a_g_columnCuts, .inl (ci 0, 5, .inl f2)) :: (a_g_bandRows, .inl (ci 0, 5, .inl f3)) :: (a_g_zoneColumns, .inl (ci 0, 5, .inl f4)) :: (a_g_rows, .inl (ci 0, 5, .inl f5)) :: (a_g_sheets, .inl (ci 0, 5, .inl f6)) :: (a_g2, .inr (2, [.ref a_g2_rowCuts, .ref a_g2_columnCuts, .ref a_g2_bandRows, .ref a_g2_zoneColumns, .ref a_g2_rows, .ref a_g2_sheets])) :: (a_g2_rowCuts, .inl (ci 0, 5, .inl g2_rowCuts)) :: (a_g2_columnCuts, .inl (ci 0, 5, .inl g2_columnCuts)) :: Rw) H := ⟨hP, hD⟩
    obtain ⟨e90, e91, e92, e93, e94, e95⟩ := q_inj6 (Option.some.inj hf)
    rw [hQ, ← e90, ← e91, ← e92, ← e93, ← e94, ← e95]
    exact q_vret (pc := 40) hx hb hr hlocks hP hD hS dX2_copyFrom_40
  exact hgo _ _ rfl hP hS
/-! X2_deepestSheetsIf -/
set_option maxRecDepth 100000 in
set_option maxHeartbeats 4000000 in
theorem c_Grid_deepestSheetsIf (l : Launch) (D : va_G) (ci : Nat → ClassId) (A : Nat → Prop) (sa : Nat → Nat) (N : Nat) (Rw : va_W) (a_g : Nat) (a_g_rowCuts : Nat) (a_g_columnCuts : Nat) (a_g_bandRows : Nat) (a_g_zoneColumns : Nat) (a_g_rows : Nat) (a_g_sheets : Nat) (g_rowCuts : Nat → Int32) (g_columnCuts : Nat → Int32) (p1 : Int32) (p2 : Int32) (p3 : Int32) (r : Int64) (hf : f_Grid_deepestSheetsIf N g_rowCuts g_columnCuts p1 p2 p3 = some r) : Met l yX2_deepestSheetsIf wsX2_deepestSheetsIf ({ frames := 0, cells := 0, slots := 0, locals := 0 }) (va_Pc [.ref a_g, .int p1, .int p2, .int p3] (q_N D ci A sa ((a_g, .inr (2, [.ref a_g_rowCuts, .ref a_g_columnCuts, .ref a_g_bandRows, .ref a_g_zoneColumns, .ref a_g_rows, .ref a_g_sheets])) :: (a_g_rowCuts, .inl (ci 0, 5, .inl g_rowCuts)) :: (a_g_columnCuts, .inl (ci 0, 5, .inl g_columnCuts)) :: Rw))) (q_R (some (.long r))) 0 0 A := by
  refine q_ofW (cc := cX2_deepestSheetsIf) (maxL := 7) (ret := (some .long)) [.ref a_g, .int p1, .int p2, .int p3] (plainFor_of_name (by decide)) rfl (Nat.le_of_ble_eq_true rfl) ?_
  intro p e s m below meth c ls Q hQ hx hb hml hr hts hown hlocks hK hA hZ hP hD hS hl
  have hl : lv_has ls 7 [(0, .ref a_g), (1, .int p1), (2, .int p2), (3, .int p3)] := hl
  have hown : s.vm.findClass RX2 = some m.cls := hown
  have hinX2 : ∀ w ∈ wsX20, w ∈ wsX2_deepestSheetsIf := fun _ h => List.mem_cons_of_mem _ (inWX20 _ h)
  have w_1 := hts (Cond.constantLong RX2 33 (2130)) (List.mem_cons_of_mem _ t_w793)
  have w_2 := hts (Cond.fieldLink RX2 9 "SheetNames$Grid" "rowCuts" "[I") (List.mem_cons_of_mem _ t_w784)
  have w_3 := hts (Cond.fieldLink RX2 15 "SheetNames$Grid" "columnCuts" "[I") (List.mem_cons_of_mem _ t_w785)
  have w_4 := hts (Cond.constantLong RX2 35 (2)) (List.mem_cons_of_mem _ t_w794)
  unfold f_Grid_deepestSheetsIf at hf
  have hgo : ∀ (H : Heap) (locs : List Loc), H = s.heap → va_P D vwCl ((a_g, .inr (2, [.ref a_g_rowCuts, .ref a_g_columnCuts, .ref a_g_bandRows, .ref a_g_zoneColumns, .ref a_g_rows, .ref a_g_sheets])) :: (a_g_rowCuts, .inl (ci 0, 5, .inl g_rowCuts)) :: (a_g_columnCuts, .inl (ci 0, 5, .inl g_columnCuts)) :: Rw) H → va_S A s.heap H locs → W p l e ({ frames := 0, cells := 0, slots := 0, locals := 0 } : Room) s m ([.ref a_g, .int p1, .int p2, .int p3] : List Value).toArray below meth c H locs 0 0 Q (F0 m 0 ls []) := by
    intro H locs hH hP hS
    subst hH
    refine lv_ldc2 (pc := 0) (v := 2130) hx hb hown w_1 dX2_deepestSheetsIf_0 ?_
    obtain ⟨v1, ev1, hf⟩ := q_nm_e hf
    refine q_topl ev1 ?_
    refine lv_lstore (pc := 3) (lv' := [(4, .long v1), (0, .ref a_g), (1, .int p1), (2, .int p2), (3, .int p3)]) hx hb dX2_deepestSheetsIf_3 hl (by decide) rfl (fun ls hl => ?_)
    refine lv_iconst (pc := 5) (v := 1) hx hb dX2_deepestSheetsIf_5 (by decide) ?_
    obtain ⟨v2, ev2, hf⟩ := q_nm_e hf
    refine q_topi ev2 ?_
    refine lv_istore (pc := 6) (lv' := [(6, .int v2), (4, .long v1), (0, .ref a_g), (1, .int p1), (2, .int p2), (3, .int p3)]) hx hb dX2_deepestSheetsIf_6 hl (by decide) rfl (fun ls hl => ?_)
    obtain ⟨v5, hm8, hf⟩ := q_b1_e hf
    have JE8 : ∀ (H : Heap) (locs : List Loc) (ls : Array Slot), H = s.heap → va_S A s.heap H locs → lv_has ls 7 [(4, .long v5)] → W p l e ({ frames := 0, cells := 0, slots := 0, locals := 0 } : Room) s m ([.ref a_g, .int p1, .int p2, .int p3] : List Value).toArray below meth c H locs 0 0 Q (F0 m 54 ls []) := by
      intro H locs ls hHs hS hl
      subst hHs
      refine lv_lload (pc := 54) hx hb dX2_deepestSheetsIf_54 (lv_at hl 0 rfl) ?_
      refine lv_ldc2 (pc := 56) (v := 2) hx hb hown w_4 dX2_deepestSheetsIf_56 ?_
      refine lv_ladd (pc := 59) hx hb dX2_deepestSheetsIf_59 ?_
      obtain rfl := Option.some.inj hf
      rw [hQ]
      exact q_lretr (pc := 60) hx hb hr hlocks rfl hS dX2_deepestSheetsIf_60
    have LP8 : ∀ (n8 : Nat) (v3 : Int64) (v4 : Int32) (H : Heap) (locs : List Loc) (ls : Array Slot), f_Grid_deepestSheetsIf_L8 g_columnCuts g_rowCuts p1 p2 p3 n8 v3 v4 = some v5 → H = s.heap → va_S A s.heap H locs → lv_has ls 7 [(0, .ref a_g), (1, .int p1), (2, .int p2), (3, .int p3), (4, .long v3), (6, .int v4)] → W p l e ({ frames := 0, cells := 0, slots := 0, locals := 0 } : Room) s m ([.ref a_g, .int p1, .int p2, .int p3] : List Value).toArray below meth c H locs 0 0 Q (F0 m 8 ls []) := by
      intro n8
      induction n8 with
      | zero => intro v3 v4 H locs ls hf; rw [f_Grid_deepestSheetsIf_L8] at hf; cases hf
      | succ n8 ih8 =>
        intro v3 v4 H locs ls hf hHs hS hl
        subst hHs
        rw [f_Grid_deepestSheetsIf_L8] at hf
        refine lv_iload (pc := 8) hx hb dX2_deepestSheetsIf_8 (lv_at hl 5 rfl) ?_
        refine lv_iconst (pc := 10) (v := 4) hx hb dX2_deepestSheetsIf_10 (by decide) ?_
        refine q_icmp_gt (pc := 11) (tgt := 54) hx hb dX2_deepestSheetsIf_11 (by decide) rfl hf (fun hf => ?_) (fun hf => ?_)
        · obtain rfl := Option.some.inj hf
          exact JE8 _ _ _ rfl hS (lv_sub hl [4] rfl)
        · refine lv_lload (pc := 14) hx hb dX2_deepestSheetsIf_14 (lv_at hl 4 rfl) ?_
          refine lv_iload (pc := 16) hx hb dX2_deepestSheetsIf_16 (lv_at hl 5 rfl) ?_
          refine lv_iload_n (pc := 18) hx hb dX2_deepestSheetsIf_18 rfl (lv_at hl 1 rfl) ?_
          obtain ⟨k45, ek45, hf⟩ := q_j1_e hf
          have J45 : ∀ (v6 : Int64) (H : Heap) (locs : List Loc) (ls : Array Slot), k45 v6 = some v5 → H = s.heap → va_S A s.heap H locs → lv_has ls 7 [(0, .ref a_g), (1, .int p1), (2, .int p2), (3, .int p3), (6, .int v4)] → W p l e ({ frames := 0, cells := 0, slots := 0, locals := 0 } : Room) s m ([.ref a_g, .int p1, .int p2, .int p3] : List Value).toArray below meth c H locs 0 0 Q (F0 m 45 ls [.long v6, .long v3]) := by
            intro v6 H locs ls hf hHs hS hl
            subst hHs
            have hf := (ek45 v6).symm.trans hf
            refine lv_lmul (pc := 45) hx hb dX2_deepestSheetsIf_45 ?_
            obtain ⟨v7, ev7, hf⟩ := q_nm_e hf
            refine q_topl ev7 ?_
            refine lv_lstore (pc := 46) (lv' := [(4, .long v7), (0, .ref a_g), (1, .int p1), (2, .int p2), (3, .int p3), (6, .int v4)]) hx hb dX2_deepestSheetsIf_46 hl (by decide) rfl (fun ls hl => ?_)
            obtain ⟨v8, ev8, hf⟩ := q_nm_e hf
            refine lv_iinc (pc := 48) (v := v8) (lv' := [(6, .int v8), (4, .long v7), (0, .ref a_g), (1, .int p1), (2, .int p2), (3, .int p3)]) hx hb dX2_deepestSheetsIf_48 hl (k := 5) rfl (by rw [ev8]; rfl) (by decide) rfl (fun ls hl => ?_)
            refine lv_goto (pc := 51) (tgt := 8) hx hb dX2_deepestSheetsIf_51 (by decide) ?_
            exact ih8 v7 v8 _ _ _ hf rfl hS (lv_sub hl [2, 3, 4, 5, 1, 0] rfl)
          refine q_icmp_ne (pc := 19) (tgt := 29) hx hb dX2_deepestSheetsIf_19 (by decide) rfl hf (fun hf => ?_) (fun hf => ?_)
          · refine lv_aload_n (pc := 29) hx hb dX2_deepestSheetsIf_29 rfl (lv_at hl 0 rfl) ?_
            refine va_get (pc := 30) (D := D) (ci := 2) (v := .ref a_g_rowCuts) (C := RX2) (T := TX2) (N := 6) hx hb hts hinX2 hown hK hP 0 rfl rfl 0 (by decide) w_2 (fun _ h9 => h9) rfl dX2_deepestSheetsIf_30 ?_
            refine lv_iload (pc := 33) hx hb dX2_deepestSheetsIf_33 (lv_at hl 5 rfl) ?_
            refine q_iald (pc := 35) hx hb hK hP 1 0 hf rfl rfl dX2_deepestSheetsIf_35 (fun v9 hf => ?_)
            refine lv_aload_n (pc := 36) hx hb dX2_deepestSheetsIf_36 rfl (lv_at hl 0 rfl) ?_
            refine va_get (pc := 37) (D := D) (ci := 2) (v := .ref a_g_columnCuts) (C := RX2) (T := TX2) (N := 6) hx hb hts hinX2 hown hK hP 0 rfl rfl 1 (by decide) w_3 (fun _ h9 => h9) rfl dX2_deepestSheetsIf_37 ?_
            refine lv_iload (pc := 40) hx hb dX2_deepestSheetsIf_40 (lv_at hl 5 rfl) ?_
            refine q_iald (pc := 42) hx hb hK hP 2 0 hf rfl rfl dX2_deepestSheetsIf_42 (fun v10 hf => ?_)
            refine lv_imul (pc := 43) hx hb dX2_deepestSheetsIf_43 ?_
            refine lv_i2l (pc := 44) hx hb dX2_deepestSheetsIf_44 rfl ?_
            exact J45 ((v9 * v10).toInt64) _ _ _ hf rfl hS (lv_sub hl [0, 1, 2, 3, 5] rfl)
          · refine lv_iload_n (pc := 22) hx hb dX2_deepestSheetsIf_22 rfl (lv_at hl 2 rfl) ?_
            refine lv_iload_n (pc := 23) hx hb dX2_deepestSheetsIf_23 rfl (lv_at hl 3 rfl) ?_
            refine lv_imul (pc := 24) hx hb dX2_deepestSheetsIf_24 ?_
            refine lv_i2l (pc := 25) hx hb dX2_deepestSheetsIf_25 rfl ?_
            refine lv_goto (pc := 26) (tgt := 45) hx hb dX2_deepestSheetsIf_26 (by decide) ?_
            exact J45 ((p2 * p3).toInt64) _ _ _ hf rfl hS (lv_sub hl [0, 1, 2, 3, 5] rfl)
    exact LP8 N v1 v2 _ _ _ hm8 rfl hS (lv_sub hl [2, 3, 4, 5, 1, 0] rfl)
  exact hgo _ _ rfl hP hS
/-! X10_isLevel -/
set_option maxRecDepth 100000 in
set_option maxHeartbeats 4000000 in
theorem c_X_isLevel (l : Launch) (D : va_G) (ci : Nat → ClassId) (A : Nat → Prop) (sa : Nat → Nat) (N : Nat) (Rw : va_W) (p1 : Int32) (r : Int32) (hf : f_X_isLevel p1 = some r) : Met l yX10_isLevel wsX10_isLevel ({ frames := 0, cells := 0, slots := 0, locals := 0 }) (va_Pc [.int p1] (q_N D ci A sa (Rw))) (q_R (some (.int r))) 0 0 A := by
  refine q_ofW (cc := cX10_isLevel) (maxL := 1) (ret := (some .boolean)) [.int p1] (plainFor_of_name (by decide)) rfl (Nat.le_of_ble_eq_true rfl) ?_
  intro p e s m below meth c ls Q hQ hx hb hml hr hts hown hlocks hK hA hZ hP hD hS hl
  have hl : lv_has ls 1 [(0, .int p1)] := hl
  have hown : s.vm.findClass RX10 = some m.cls := hown
  unfold f_X_isLevel at hf
  have hgo : ∀ (H : Heap) (locs : List Loc), H = s.heap → va_P D vwCl (Rw) H → va_S A s.heap H locs → W p l e ({ frames := 0, cells := 0, slots := 0, locals := 0 } : Room) s m ([.int p1] : List Value).toArray below meth c H locs 0 0 Q (F0 m 0 ls []) := by
    intro H locs hH hP hS
    subst hH
    refine lv_iload_n (pc := 0) hx hb dX10_isLevel_0 rfl (lv_at hl 0 rfl) ?_
    refine q_if_lt (pc := 1) (tgt := 13) hx hb dX10_isLevel_1 (by decide) rfl hf (fun hf => ?_) (fun hf => ?_)
    · refine lv_iconst (pc := 13) (v := 0) hx hb dX10_isLevel_13 (by decide) ?_
      obtain rfl := Option.some.inj hf
      rw [hQ]
      exact q_zretr (pc := 14) hx hb hr rfl hlocks rfl hS dX10_isLevel_14
    · refine lv_iload_n (pc := 4) hx hb dX10_isLevel_4 rfl (lv_at hl 0 rfl) ?_
      refine lv_iconst (pc := 5) (v := 4) hx hb dX10_isLevel_5 (by decide) ?_
      refine q_icmp_gt (pc := 6) (tgt := 13) hx hb dX10_isLevel_6 (by decide) rfl hf (fun hf => ?_) (fun hf => ?_)
      · refine lv_iconst (pc := 13) (v := 0) hx hb dX10_isLevel_13 (by decide) ?_
        obtain rfl := Option.some.inj hf
        rw [hQ]
        exact q_zretr (pc := 14) hx hb hr rfl hlocks rfl hS dX10_isLevel_14
      · refine lv_iconst (pc := 9) (v := 1) hx hb dX10_isLevel_9 (by decide) ?_
        refine lv_goto (pc := 10) (tgt := 14) hx hb dX10_isLevel_10 (by decide) ?_
        obtain rfl := Option.some.inj hf
        rw [hQ]
        exact q_zretr (pc := 14) hx hb hr rfl hlocks rfl hS dX10_isLevel_14
  exact hgo _ _ rfl hP hS
/-! X2_hasSheet -/
set_option maxRecDepth 100000 in
set_option maxHeartbeats 4000000 in
theorem c_Grid_hasSheet (l : Launch) (D : va_G) (ci : Nat → ClassId) (A : Nat → Prop) (sa : Nat → Nat) (N : Nat) (Rw : va_W) (a_g : Nat) (a_g_rowCuts : Nat) (a_g_columnCuts : Nat) (a_g_bandRows : Nat) (a_g_zoneColumns : Nat) (a_g_rows : Nat) (a_g_sheets : Nat) (g_sheets : Nat → Int32) (p1 : Int32) (p2 : Int32) (r : Int32) (hf : f_Grid_hasSheet g_sheets p1 p2 = some r) : Met l yX2_hasSheet wsX2_hasSheet ({ frames := 1, cells := 0, slots := 0, locals := 20 }) (va_Pc [.ref a_g, .int p1, .int p2] (q_N D ci A sa ((a_g, .inr (2, [.ref a_g_rowCuts, .ref a_g_columnCuts, .ref a_g_bandRows, .ref a_g_zoneColumns, .ref a_g_rows, .ref a_g_sheets])) :: (a_g_sheets, .inl (ci 0, 5, .inl g_sheets)) :: Rw))) (q_R (some (.int r))) 0 0 A := by
  refine q_ofW (cc := cX2_hasSheet) (maxL := 3) (ret := (some .boolean)) [.ref a_g, .int p1, .int p2] (plainFor_of_name (by decide)) rfl (Nat.le_of_ble_eq_true rfl) ?_
  intro p e s m below meth c ls Q hQ hx hb hml hr hts hown hlocks hK hA hZ hP hD hS hl
  have hl : lv_has ls 3 [(0, .ref a_g), (1, .int p1), (2, .int p2)] := hl
  have hown : s.vm.findClass RX2 = some m.cls := hown
  have hinX2 : ∀ w ∈ wsX20, w ∈ wsX2_hasSheet := fun _ h => List.mem_cons_of_mem _ (inWX20 _ h)
  have w_1 := hts (Cond.fieldLink RX2 27 "SheetNames$Grid" "sheets" "[I") (List.mem_cons_of_mem _ t_w788)
  have w_2 := hts (Cond.static yX10_isLevel) (List.mem_cons_of_mem _ t_w328)
  have w_3 := hts (Cond.initialized RX10) (List.mem_cons_of_mem _ t_w317)
  unfold f_Grid_hasSheet at hf
  have hgo : ∀ (H : Heap) (locs : List Loc), H = s.heap → va_P D vwCl ((a_g, .inr (2, [.ref a_g_rowCuts, .ref a_g_columnCuts, .ref a_g_bandRows, .ref a_g_zoneColumns, .ref a_g_rows, .ref a_g_sheets])) :: (a_g_sheets, .inl (ci 0, 5, .inl g_sheets)) :: Rw) H → va_S A s.heap H locs → W p l e ({ frames := 1, cells := 0, slots := 0, locals := 20 } : Room) s m ([.ref a_g, .int p1, .int p2] : List Value).toArray below meth c H locs 0 0 Q (F0 m 0 ls []) := by
    intro H locs hH hP hS
    subst hH
    refine lv_iload_n (pc := 0) hx hb dX2_hasSheet_0 rfl (lv_at hl 1 rfl) ?_
    obtain ⟨v1, hm1, hf⟩ := q_b1_e hf
    refine q_cSNr (pc := 1) (As := [.int p1]) (rest := []) (v0 := (some (.int v1))) ⟨hx, hb, hml, hown, hts⟩ hK hA hZ hP hD hS hl.1 [] 2 rfl ⟨rfl, rfl, rfl⟩ (c_X_isLevel l D ci A sa N (Rw) p1 v1 hm1) ⟨va_cnB 1 hts gX2_hasSheet_X10_isLevel_n43 rfl rfl rfl (q_zm hZ 3 rfl) w_3 (by decide +kernel) ⟨Nat.le_of_ble_eq_true rfl, Nat.le_of_ble_eq_true rfl⟩, w_2, trivial⟩ rfl rfl (Nat.le_of_ble_eq_true rfl) dX2_hasSheet_1 ⟨Nat.zero_le _, Nat.zero_le _⟩ (fun locs hS => ?_)
    refine q_if_eq (pc := 4) (tgt := 25) hx hb dX2_hasSheet_4 (by decide) rfl hf (fun hf => ?_) (fun hf => ?_)
    · refine lv_iconst (pc := 25) (v := 0) hx hb dX2_hasSheet_25 (by decide) ?_
      obtain rfl := Option.some.inj hf
      rw [hQ]
      exact q_zretr (pc := 26) hx hb hr rfl hlocks rfl hS dX2_hasSheet_26
    · refine lv_iload_n (pc := 7) hx hb dX2_hasSheet_7 rfl (lv_at hl 2 rfl) ?_
      refine q_if_lt (pc := 8) (tgt := 25) hx hb dX2_hasSheet_8 (by decide) rfl hf (fun hf => ?_) (fun hf => ?_)
      · refine lv_iconst (pc := 25) (v := 0) hx hb dX2_hasSheet_25 (by decide) ?_
        obtain rfl := Option.some.inj hf
        rw [hQ]
        exact q_zretr (pc := 26) hx hb hr rfl hlocks rfl hS dX2_hasSheet_26
      · refine lv_iload_n (pc := 11) hx hb dX2_hasSheet_11 rfl (lv_at hl 2 rfl) ?_
        refine lv_aload_n (pc := 12) hx hb dX2_hasSheet_12 rfl (lv_at hl 0 rfl) ?_
        refine va_get (pc := 13) (D := D) (ci := 2) (v := .ref a_g_sheets) (C := RX2) (T := TX2) (N := 6) hx hb hts hinX2 hown hK hP 0 rfl rfl 5 (by decide) w_1 (fun _ h9 => h9) rfl dX2_hasSheet_13 ?_
        refine lv_iload_n (pc := 16) hx hb dX2_hasSheet_16 rfl (lv_at hl 1 rfl) ?_
        refine q_iald (pc := 17) hx hb hK hP 1 0 hf rfl rfl dX2_hasSheet_17 (fun v2 hf => ?_)
        refine q_icmp_ge (pc := 18) (tgt := 25) hx hb dX2_hasSheet_18 (by decide) rfl hf (fun hf => ?_) (fun hf => ?_)
        · refine lv_iconst (pc := 25) (v := 0) hx hb dX2_hasSheet_25 (by decide) ?_
          obtain rfl := Option.some.inj hf
          rw [hQ]
          exact q_zretr (pc := 26) hx hb hr rfl hlocks rfl hS dX2_hasSheet_26
        · refine lv_iconst (pc := 21) (v := 1) hx hb dX2_hasSheet_21 (by decide) ?_
          refine lv_goto (pc := 22) (tgt := 26) hx hb dX2_hasSheet_22 (by decide) ?_
          obtain rfl := Option.some.inj hf
          rw [hQ]
          exact q_zretr (pc := 26) hx hb hr rfl hlocks rfl hS dX2_hasSheet_26
  exact hgo _ _ rfl hP hS
/-! X2_isCapRow -/
set_option maxRecDepth 100000 in
set_option maxHeartbeats 4000000 in
theorem c_Grid_isCapRow (l : Launch) (D : va_G) (ci : Nat → ClassId) (A : Nat → Prop) (sa : Nat → Nat) (N : Nat) (Rw : va_W) (a_g : Nat) (a_g_rowCuts : Nat) (a_g_columnCuts : Nat) (a_g_bandRows : Nat) (a_g_zoneColumns : Nat) (a_g_rows : Nat) (a_g_sheets : Nat) (g_rows : Nat → Int32) (p1 : Int32) (p2 : Int32) (r : Int32) (hf : f_Grid_isCapRow g_rows p1 p2 = some r) : Met l yX2_isCapRow wsX2_isCapRow ({ frames := 0, cells := 0, slots := 0, locals := 0 }) (va_Pc [.ref a_g, .int p1, .int p2] (q_N D ci A sa ((a_g, .inr (2, [.ref a_g_rowCuts, .ref a_g_columnCuts, .ref a_g_bandRows, .ref a_g_zoneColumns, .ref a_g_rows, .ref a_g_sheets])) :: (a_g_rows, .inl (ci 0, 5, .inl g_rows)) :: Rw))) (q_R (some (.int r))) 0 0 A := by
  refine q_ofW (cc := cX2_isCapRow) (maxL := 3) (ret := (some .boolean)) [.ref a_g, .int p1, .int p2] (plainFor_of_name (by decide)) rfl (Nat.le_of_ble_eq_true rfl) ?_
  intro p e s m below meth c ls Q hQ hx hb hml hr hts hown hlocks hK hA hZ hP hD hS hl
  have hl : lv_has ls 3 [(0, .ref a_g), (1, .int p1), (2, .int p2)] := hl
  have hown : s.vm.findClass RX2 = some m.cls := hown
  have hinX2 : ∀ w ∈ wsX20, w ∈ wsX2_isCapRow := fun _ h => List.mem_cons_of_mem _ (inWX20 _ h)
  have w_1 := hts (Cond.fieldLink RX2 24 "SheetNames$Grid" "rows" "[I") (List.mem_cons_of_mem _ t_w787)
  unfold f_Grid_isCapRow at hf
  have hgo : ∀ (H : Heap) (locs : List Loc), H = s.heap → va_P D vwCl ((a_g, .inr (2, [.ref a_g_rowCuts, .ref a_g_columnCuts, .ref a_g_bandRows, .ref a_g_zoneColumns, .ref a_g_rows, .ref a_g_sheets])) :: (a_g_rows, .inl (ci 0, 5, .inl g_rows)) :: Rw) H → va_S A s.heap H locs → W p l e ({ frames := 0, cells := 0, slots := 0, locals := 0 } : Room) s m ([.ref a_g, .int p1, .int p2] : List Value).toArray below meth c H locs 0 0 Q (F0 m 0 ls []) := by
    intro H locs hH hP hS
    subst hH
    refine lv_iload_n (pc := 0) hx hb dX2_isCapRow_0 rfl (lv_at hl 2 rfl) ?_
    obtain ⟨k16, ek16, hf⟩ := q_j0_e hf
    have J16 : ∀  (H : Heap) (locs : List Loc) (ls : Array Slot), k16 = some r → H = s.heap → va_S A s.heap H locs → lv_has ls 3 [] → W p l e ({ frames := 0, cells := 0, slots := 0, locals := 0 } : Room) s m ([.ref a_g, .int p1, .int p2] : List Value).toArray below meth c H locs 0 0 Q (F0 m 16 ls []) := by
      intro  H locs ls hf hHs hS hl
      subst hHs
      have hf := (ek16).symm.trans hf
      refine lv_iconst (pc := 16) (v := 1) hx hb dX2_isCapRow_16 (by decide) ?_
      refine lv_goto (pc := 17) (tgt := 21) hx hb dX2_isCapRow_17 (by decide) ?_
      obtain rfl := Option.some.inj hf
      rw [hQ]
      exact q_zretr (pc := 21) hx hb hr rfl hlocks rfl hS dX2_isCapRow_21
    refine q_if_le (pc := 1) (tgt := 16) hx hb dX2_isCapRow_1 (by decide) rfl hf (fun hf => ?_) (fun hf => ?_)
    · exact J16  _ _ _ hf rfl hS (lv_sub hl [] rfl)
    · refine lv_iload_n (pc := 4) hx hb dX2_isCapRow_4 rfl (lv_at hl 2 rfl) ?_
      refine lv_aload_n (pc := 5) hx hb dX2_isCapRow_5 rfl (lv_at hl 0 rfl) ?_
      refine va_get (pc := 6) (D := D) (ci := 2) (v := .ref a_g_rows) (C := RX2) (T := TX2) (N := 6) hx hb hts hinX2 hown hK hP 0 rfl rfl 4 (by decide) w_1 (fun _ h9 => h9) rfl dX2_isCapRow_6 ?_
      refine lv_iload_n (pc := 9) hx hb dX2_isCapRow_9 rfl (lv_at hl 1 rfl) ?_
      refine q_iald (pc := 10) hx hb hK hP 1 0 hf rfl rfl dX2_isCapRow_10 (fun v1 hf => ?_)
      refine lv_iconst (pc := 11) (v := 1) hx hb dX2_isCapRow_11 (by decide) ?_
      refine lv_isub (pc := 12) hx hb dX2_isCapRow_12 ?_
      refine q_icmp_lt (pc := 13) (tgt := 20) hx hb dX2_isCapRow_13 (by decide) rfl hf (fun hf => ?_) (fun hf => ?_)
      · refine lv_iconst (pc := 20) (v := 0) hx hb dX2_isCapRow_20 (by decide) ?_
        obtain rfl := Option.some.inj hf
        rw [hQ]
        exact q_zretr (pc := 21) hx hb hr rfl hlocks rfl hS dX2_isCapRow_21
      · exact J16  _ _ _ hf rfl hS (lv_sub hl [] rfl)
  exact hgo _ _ rfl hP hS
/-! X2_rowOfKey -/
set_option maxRecDepth 100000 in
set_option maxHeartbeats 4000000 in
theorem c_Grid_rowOfKey (l : Launch) (D : va_G) (ci : Nat → ClassId) (A : Nat → Prop) (sa : Nat → Nat) (N : Nat) (Rw : va_W) (a_g : Nat) (a_g_rowCuts : Nat) (a_g_columnCuts : Nat) (a_g_bandRows : Nat) (a_g_zoneColumns : Nat) (a_g_rows : Nat) (a_g_sheets : Nat) (g_bandRows : Nat → Int32) (g_zoneColumns : Nat → Int32) (g_rows : Nat → Int32) (g_sheets : Nat → Int32) (p1 : Int32) (p2 : Int32) (r : Int32) (hf : f_Grid_rowOfKey N g_bandRows g_zoneColumns g_rows g_sheets p1 p2 = some r) : Met l yX2_rowOfKey wsX2_rowOfKey ({ frames := 1, cells := 0, slots := 0, locals := 24 }) (va_Pc [.ref a_g, .int p1, .int p2] (q_N D ci A sa ((a_g, .inr (2, [.ref a_g_rowCuts, .ref a_g_columnCuts, .ref a_g_bandRows, .ref a_g_zoneColumns, .ref a_g_rows, .ref a_g_sheets])) :: (a_g_bandRows, .inl (ci 0, 5, .inl g_bandRows)) :: (a_g_zoneColumns, .inl (ci 0, 5, .inl g_zoneColumns)) :: (a_g_rows, .inl (ci 0, 5, .inl g_rows)) :: (a_g_sheets, .inl (ci 0, 5, .inl g_sheets)) :: Rw))) (q_R (some (.int r))) 0 0 A := by
  refine q_ofW (cc := cX2_rowOfKey) (maxL := 6) (ret := (some .int)) [.ref a_g, .int p1, .int p2] (plainFor_of_name (by decide)) rfl (Nat.le_of_ble_eq_true rfl) ?_
  intro p e s m below meth c ls Q hQ hx hb hml hr hts hown hlocks hK hA hZ hP hD hS hl
  have hl : lv_has ls 6 [(0, .ref a_g), (1, .int p1), (2, .int p2)] := hl
  have hown : s.vm.findClass RX2 = some m.cls := hown
  have hinX2 : ∀ w ∈ wsX20, w ∈ wsX2_rowOfKey := fun _ h => List.mem_cons_of_mem _ (inWX20 _ h)
  have w_1 := hts (Cond.fieldLink RX2 27 "SheetNames$Grid" "sheets" "[I") (List.mem_cons_of_mem _ t_w788)
  have w_2 := hts (Cond.fieldLink RX2 24 "SheetNames$Grid" "rows" "[I") (List.mem_cons_of_mem _ t_w787)
  have w_3 := hts (Cond.fieldLink RX2 18 "SheetNames$Grid" "bandRows" "[I") (List.mem_cons_of_mem _ t_w786)
  have w_4 := hts (Cond.fieldLink RX2 21 "SheetNames$Grid" "zoneColumns" "[I") (List.mem_cons_of_mem _ t_w783)
  have wn_42 : (Cond.fieldLinkNest "SheetNames$Grid" 47 "SheetNames" "BAND_ZONES" "[I" "SheetNames").before ([.ref a_g, .int p1, .int p2] : List Value).toArray s = true := (hZ.2.2.2.2.2.2.2.2.2.1 _ (List.mem_of_getElem? (i := 42) rfl)).use rfl
  have wn_43 : (Cond.fieldLinkNest "SheetNames$Grid" 50 "SheetNames" "ZONES_AHEAD" "[I" "SheetNames").before ([.ref a_g, .int p1, .int p2] : List Value).toArray s = true := (hZ.2.2.2.2.2.2.2.2.2.1 _ (List.mem_of_getElem? (i := 43) rfl)).use rfl
  unfold f_Grid_rowOfKey at hf
  have hgo : ∀ (H : Heap) (locs : List Loc), H = s.heap → va_P D vwCl ((a_g, .inr (2, [.ref a_g_rowCuts, .ref a_g_columnCuts, .ref a_g_bandRows, .ref a_g_zoneColumns, .ref a_g_rows, .ref a_g_sheets])) :: (a_g_bandRows, .inl (ci 0, 5, .inl g_bandRows)) :: (a_g_zoneColumns, .inl (ci 0, 5, .inl g_zoneColumns)) :: (a_g_rows, .inl (ci 0, 5, .inl g_rows)) :: (a_g_sheets, .inl (ci 0, 5, .inl g_sheets)) :: Rw) H → va_S A s.heap H locs → W p l e ({ frames := 1, cells := 0, slots := 0, locals := 24 } : Room) s m ([.ref a_g, .int p1, .int p2] : List Value).toArray below meth c H locs 0 0 Q (F0 m 0 ls []) := by
    intro H locs hH hP hS
    subst hH
    refine lv_iload_n (pc := 0) hx hb dX2_rowOfKey_0 rfl (lv_at hl 2 rfl) ?_
    refine q_if_gt (pc := 1) (tgt := 6) hx hb dX2_rowOfKey_1 (by decide) rfl hf (fun hf => ?_) (fun hf => ?_)
    · refine lv_iload_n (pc := 6) hx hb dX2_rowOfKey_6 rfl (lv_at hl 2 rfl) ?_
      refine lv_aload_n (pc := 7) hx hb dX2_rowOfKey_7 rfl (lv_at hl 0 rfl) ?_
      refine va_get (pc := 8) (D := D) (ci := 2) (v := .ref a_g_sheets) (C := RX2) (T := TX2) (N := 6) hx hb hts hinX2 hown hK hP 0 rfl rfl 5 (by decide) w_1 (fun _ h9 => h9) rfl dX2_rowOfKey_8 ?_
      refine lv_iload_n (pc := 11) hx hb dX2_rowOfKey_11 rfl (lv_at hl 1 rfl) ?_
      refine q_iald (pc := 12) hx hb hK hP 4 0 hf rfl rfl dX2_rowOfKey_12 (fun v1 hf => ?_)
      refine lv_iconst (pc := 13) (v := 1) hx hb dX2_rowOfKey_13 (by decide) ?_
      refine lv_isub (pc := 14) hx hb dX2_rowOfKey_14 ?_
      refine q_icmp_lt (pc := 15) (tgt := 27) hx hb dX2_rowOfKey_15 (by decide) rfl hf (fun hf => ?_) (fun hf => ?_)
      · refine lv_aload_n (pc := 27) hx hb dX2_rowOfKey_27 rfl (lv_at hl 0 rfl) ?_
        refine va_get (pc := 28) (D := D) (ci := 2) (v := .ref a_g_bandRows) (C := RX2) (T := TX2) (N := 6) hx hb hts hinX2 hown hK hP 0 rfl rfl 2 (by decide) w_3 (fun _ h9 => h9) rfl dX2_rowOfKey_28 ?_
        refine lv_iload_n (pc := 31) hx hb dX2_rowOfKey_31 rfl (lv_at hl 1 rfl) ?_
        refine q_iald (pc := 32) hx hb hK hP 1 0 hf rfl rfl dX2_rowOfKey_32 (fun v2 hf => ?_)
        refine lv_aload_n (pc := 33) hx hb dX2_rowOfKey_33 rfl (lv_at hl 0 rfl) ?_
        refine va_get (pc := 34) (D := D) (ci := 2) (v := .ref a_g_zoneColumns) (C := RX2) (T := TX2) (N := 6) hx hb hts hinX2 hown hK hP 0 rfl rfl 3 (by decide) w_4 (fun _ h9 => h9) rfl dX2_rowOfKey_34 ?_
        refine lv_iload_n (pc := 37) hx hb dX2_rowOfKey_37 rfl (lv_at hl 1 rfl) ?_
        refine q_iald (pc := 38) hx hb hK hP 2 0 hf rfl rfl dX2_rowOfKey_38 (fun v3 hf => ?_)
        refine lv_imul (pc := 39) hx hb dX2_rowOfKey_39 ?_
        obtain ⟨v4, ev4, hf⟩ := q_nm_e hf
        refine q_topi ev4 ?_
        refine lv_istore_n (pc := 40) (lv' := [(3, .int v4), (0, .ref a_g), (1, .int p1), (2, .int p2)]) hx hb dX2_rowOfKey_40 rfl hl (by decide) rfl (fun ls hl => ?_)
        refine lv_iload_n (pc := 41) hx hb dX2_rowOfKey_41 rfl (lv_at hl 3 rfl) ?_
        refine lv_iconst (pc := 42) (v := 1) hx hb dX2_rowOfKey_42 (by decide) ?_
        refine lv_isub (pc := 43) hx hb dX2_rowOfKey_43 ?_
        refine lv_iload_n (pc := 44) hx hb dX2_rowOfKey_44 rfl (lv_at hl 0 rfl) ?_
        refine q_idiv (pc := 45) hx hb dX2_rowOfKey_45 hf (fun v5 hf => ?_)
        obtain ⟨v6, hm46, hf⟩ := q_b1_e hf
        refine q_cSr (pc := 46) (As := [.int v5]) (rest := []) (v0 := (some (.int v6))) ⟨hx, hb, hml, hown, hts⟩ hK hA hZ hP hD hS hl.1 [] 5 rfl ⟨rfl, rfl, rfl⟩ (c_Grid_bandOfZone l D ci A sa N (Rw) v5 v6 hm46) (va_cwS 1 hts gX2_rowOfKey_X2_bandOfZone rfl rfl rfl (by decide +kernel) ⟨Nat.le_of_ble_eq_true rfl, Nat.le_of_ble_eq_true rfl⟩) rfl rfl (Nat.le_of_ble_eq_true rfl) dX2_rowOfKey_46 ⟨Nat.zero_le _, Nat.zero_le _⟩ (fun locs hS => ?_)
        refine lv_istore (pc := 49) (lv' := [(4, .int v6), (3, .int v4), (0, .ref a_g), (1, .int p1), (2, .int p2)]) hx hb dX2_rowOfKey_49 hl (by decide) rfl (fun ls hl => ?_)
        refine lv_iload_n (pc := 51) hx hb dX2_rowOfKey_51 rfl (lv_at hl 4 rfl) ?_
        refine lv_iconst (pc := 52) (v := 1) hx hb dX2_rowOfKey_52 (by decide) ?_
        refine lv_isub (pc := 53) hx hb dX2_rowOfKey_53 ?_
        refine va_getsN (pc := 54) hx hb hZ.2.2.1 hS hown wn_43 (fun _ h9 => h9) dX2_rowOfKey_54 ?_
        refine lv_iload (pc := 57) hx hb dX2_rowOfKey_57 (lv_at hl 0 rfl) ?_
        refine q_sald (pc := 59) (f := q_zA) (N := 44) hx hb hf hZ.2.2.2.1 hS dX2_rowOfKey_59 (fun v7 hf => ?_)
        refine lv_iload_n (pc := 60) hx hb dX2_rowOfKey_60 rfl (lv_at hl 1 rfl) ?_
        refine lv_imul (pc := 61) hx hb dX2_rowOfKey_61 ?_
        refine lv_isub (pc := 62) hx hb dX2_rowOfKey_62 ?_
        obtain ⟨v8, ev8, hf⟩ := q_nm_e hf
        refine q_topi ev8 ?_
        refine lv_istore (pc := 63) (lv' := [(5, .int v8), (4, .int v6), (3, .int v4), (0, .ref a_g), (1, .int p1), (2, .int p2)]) hx hb dX2_rowOfKey_63 hl (by decide) rfl (fun ls hl => ?_)
        refine lv_iconst (pc := 65) (v := 1) hx hb dX2_rowOfKey_65 (by decide) ?_
        refine lv_iload (pc := 66) hx hb dX2_rowOfKey_66 (lv_at hl 1 rfl) ?_
        refine lv_aload_n (pc := 68) hx hb dX2_rowOfKey_68 rfl (lv_at hl 3 rfl) ?_
        refine va_get (pc := 69) (D := D) (ci := 2) (v := .ref a_g_bandRows) (C := RX2) (T := TX2) (N := 6) hx hb hts hinX2 hown hK hP 0 rfl rfl 2 (by decide) w_3 (fun _ h9 => h9) rfl dX2_rowOfKey_69 ?_
        refine lv_iload_n (pc := 72) hx hb dX2_rowOfKey_72 rfl (lv_at hl 4 rfl) ?_
        refine q_iald (pc := 73) hx hb hK hP 1 0 hf rfl rfl dX2_rowOfKey_73 (fun v9 hf => ?_)
        refine lv_imul (pc := 74) hx hb dX2_rowOfKey_74 ?_
        refine lv_iadd (pc := 75) hx hb dX2_rowOfKey_75 ?_
        refine lv_iload (pc := 76) hx hb dX2_rowOfKey_76 (lv_at hl 0 rfl) ?_
        refine va_getsN (pc := 78) hx hb hZ.1 hS hown wn_42 (fun _ h9 => h9) dX2_rowOfKey_78 ?_
        refine lv_iload (pc := 81) hx hb dX2_rowOfKey_81 (lv_at hl 1 rfl) ?_
        refine q_sald (pc := 83) (f := q_bZ) (N := 44) hx hb hf hZ.2.1 hS dX2_rowOfKey_83 (fun v10 hf => ?_)
        refine lv_aload_n (pc := 84) hx hb dX2_rowOfKey_84 rfl (lv_at hl 3 rfl) ?_
        refine va_get (pc := 85) (D := D) (ci := 2) (v := .ref a_g_zoneColumns) (C := RX2) (T := TX2) (N := 6) hx hb hts hinX2 hown hK hP 0 rfl rfl 3 (by decide) w_4 (fun _ h9 => h9) rfl dX2_rowOfKey_85 ?_
        refine lv_iload_n (pc := 88) hx hb dX2_rowOfKey_88 rfl (lv_at hl 4 rfl) ?_
        refine q_iald (pc := 89) hx hb hK hP 2 0 hf rfl rfl dX2_rowOfKey_89 (fun v11 hf => ?_)
        refine lv_imul (pc := 90) hx hb dX2_rowOfKey_90 ?_
        refine q_idiv (pc := 91) hx hb dX2_rowOfKey_91 hf (fun v12 hf => ?_)
        refine lv_iadd (pc := 92) hx hb dX2_rowOfKey_92 ?_
        obtain rfl := Option.some.inj hf
        rw [hQ]
        exact q_iretr (pc := 93) hx hb hr hlocks rfl hS dX2_rowOfKey_93
      · refine lv_aload_n (pc := 18) hx hb dX2_rowOfKey_18 rfl (lv_at hl 0 rfl) ?_
        refine va_get (pc := 19) (D := D) (ci := 2) (v := .ref a_g_rows) (C := RX2) (T := TX2) (N := 6) hx hb hts hinX2 hown hK hP 0 rfl rfl 4 (by decide) w_2 (fun _ h9 => h9) rfl dX2_rowOfKey_19 ?_
        refine lv_iload_n (pc := 22) hx hb dX2_rowOfKey_22 rfl (lv_at hl 1 rfl) ?_
        refine q_iald (pc := 23) hx hb hK hP 3 0 hf rfl rfl dX2_rowOfKey_23 (fun v13 hf => ?_)
        refine lv_iconst (pc := 24) (v := 1) hx hb dX2_rowOfKey_24 (by decide) ?_
        refine lv_isub (pc := 25) hx hb dX2_rowOfKey_25 ?_
        obtain rfl := Option.some.inj hf
        rw [hQ]
        exact q_iretr (pc := 26) hx hb hr hlocks rfl hS dX2_rowOfKey_26
    · refine lv_iconst (pc := 4) (v := 0) hx hb dX2_rowOfKey_4 (by decide) ?_
      obtain rfl := Option.some.inj hf
      rw [hQ]
      exact q_iretr (pc := 5) hx hb hr hlocks rfl hS dX2_rowOfKey_5
  exact hgo _ _ rfl hP hS
/-! X2_rowStart -/
set_option maxRecDepth 100000 in
set_option maxHeartbeats 4000000 in
theorem c_Grid_rowStart (l : Launch) (D : va_G) (ci : Nat → ClassId) (A : Nat → Prop) (sa : Nat → Nat) (N : Nat) (Rw : va_W) (a_g : Nat) (a_g_rowCuts : Nat) (a_g_columnCuts : Nat) (a_g_bandRows : Nat) (a_g_zoneColumns : Nat) (a_g_rows : Nat) (a_g_sheets : Nat) (g_bandRows : Nat → Int32) (g_zoneColumns : Nat → Int32) (g_rows : Nat → Int32) (g_sheets : Nat → Int32) (p1 : Int32) (p2 : Int32) (r : Int32) (hf : f_Grid_rowStart g_bandRows g_zoneColumns g_rows g_sheets p1 p2 = some r) : Met l yX2_rowStart wsX2_rowStart ({ frames := 0, cells := 0, slots := 0, locals := 0 }) (va_Pc [.ref a_g, .int p1, .int p2] (q_N D ci A sa ((a_g, .inr (2, [.ref a_g_rowCuts, .ref a_g_columnCuts, .ref a_g_bandRows, .ref a_g_zoneColumns, .ref a_g_rows, .ref a_g_sheets])) :: (a_g_bandRows, .inl (ci 0, 5, .inl g_bandRows)) :: (a_g_zoneColumns, .inl (ci 0, 5, .inl g_zoneColumns)) :: (a_g_rows, .inl (ci 0, 5, .inl g_rows)) :: (a_g_sheets, .inl (ci 0, 5, .inl g_sheets)) :: Rw))) (q_R (some (.int r))) 0 0 A := by
  refine q_ofW (cc := cX2_rowStart) (maxL := 6) (ret := (some .int)) [.ref a_g, .int p1, .int p2] (plainFor_of_name (by decide)) rfl (Nat.le_of_ble_eq_true rfl) ?_
  intro p e s m below meth c ls Q hQ hx hb hml hr hts hown hlocks hK hA hZ hP hD hS hl
  have hl : lv_has ls 6 [(0, .ref a_g), (1, .int p1), (2, .int p2)] := hl
  have hown : s.vm.findClass RX2 = some m.cls := hown
  have hinX2 : ∀ w ∈ wsX20, w ∈ wsX2_rowStart := fun _ h => List.mem_cons_of_mem _ (inWX20 _ h)
  have w_1 := hts (Cond.fieldLink RX2 24 "SheetNames$Grid" "rows" "[I") (List.mem_cons_of_mem _ t_w787)
  have w_2 := hts (Cond.fieldLink RX2 27 "SheetNames$Grid" "sheets" "[I") (List.mem_cons_of_mem _ t_w788)
  have w_3 := hts (Cond.fieldLink RX2 18 "SheetNames$Grid" "bandRows" "[I") (List.mem_cons_of_mem _ t_w786)
  have w_4 := hts (Cond.fieldLink RX2 21 "SheetNames$Grid" "zoneColumns" "[I") (List.mem_cons_of_mem _ t_w783)
  have wn_42 : (Cond.fieldLinkNest "SheetNames$Grid" 47 "SheetNames" "BAND_ZONES" "[I" "SheetNames").before ([.ref a_g, .int p1, .int p2] : List Value).toArray s = true := (hZ.2.2.2.2.2.2.2.2.2.1 _ (List.mem_of_getElem? (i := 42) rfl)).use rfl
  have wn_43 : (Cond.fieldLinkNest "SheetNames$Grid" 50 "SheetNames" "ZONES_AHEAD" "[I" "SheetNames").before ([.ref a_g, .int p1, .int p2] : List Value).toArray s = true := (hZ.2.2.2.2.2.2.2.2.2.1 _ (List.mem_of_getElem? (i := 43) rfl)).use rfl
  unfold f_Grid_rowStart at hf
  have hgo : ∀ (H : Heap) (locs : List Loc), H = s.heap → va_P D vwCl ((a_g, .inr (2, [.ref a_g_rowCuts, .ref a_g_columnCuts, .ref a_g_bandRows, .ref a_g_zoneColumns, .ref a_g_rows, .ref a_g_sheets])) :: (a_g_bandRows, .inl (ci 0, 5, .inl g_bandRows)) :: (a_g_zoneColumns, .inl (ci 0, 5, .inl g_zoneColumns)) :: (a_g_rows, .inl (ci 0, 5, .inl g_rows)) :: (a_g_sheets, .inl (ci 0, 5, .inl g_sheets)) :: Rw) H → va_S A s.heap H locs → W p l e ({ frames := 0, cells := 0, slots := 0, locals := 0 } : Room) s m ([.ref a_g, .int p1, .int p2] : List Value).toArray below meth c H locs 0 0 Q (F0 m 0 ls []) := by
    intro H locs hH hP hS
    subst hH
    refine lv_iload_n (pc := 0) hx hb dX2_rowStart_0 rfl (lv_at hl 2 rfl) ?_
    refine q_if_gt (pc := 1) (tgt := 6) hx hb dX2_rowStart_1 (by decide) rfl hf (fun hf => ?_) (fun hf => ?_)
    · refine lv_iload_n (pc := 6) hx hb dX2_rowStart_6 rfl (lv_at hl 2 rfl) ?_
      refine lv_aload_n (pc := 7) hx hb dX2_rowStart_7 rfl (lv_at hl 0 rfl) ?_
      refine va_get (pc := 8) (D := D) (ci := 2) (v := .ref a_g_rows) (C := RX2) (T := TX2) (N := 6) hx hb hts hinX2 hown hK hP 0 rfl rfl 4 (by decide) w_1 (fun _ h9 => h9) rfl dX2_rowStart_8 ?_
      refine lv_iload_n (pc := 11) hx hb dX2_rowStart_11 rfl (lv_at hl 1 rfl) ?_
      refine q_iald (pc := 12) hx hb hK hP 3 0 hf rfl rfl dX2_rowStart_12 (fun v1 hf => ?_)
      refine lv_iconst (pc := 13) (v := 1) hx hb dX2_rowStart_13 (by decide) ?_
      refine lv_isub (pc := 14) hx hb dX2_rowStart_14 ?_
      refine q_icmp_lt (pc := 15) (tgt := 27) hx hb dX2_rowStart_15 (by decide) rfl hf (fun hf => ?_) (fun hf => ?_)
      · refine lv_iload_n (pc := 27) hx hb dX2_rowStart_27 rfl (lv_at hl 2 rfl) ?_
        refine lv_iconst (pc := 28) (v := 1) hx hb dX2_rowStart_28 (by decide) ?_
        refine lv_isub (pc := 29) hx hb dX2_rowStart_29 ?_
        refine lv_aload_n (pc := 30) hx hb dX2_rowStart_30 rfl (lv_at hl 0 rfl) ?_
        refine va_get (pc := 31) (D := D) (ci := 2) (v := .ref a_g_bandRows) (C := RX2) (T := TX2) (N := 6) hx hb hts hinX2 hown hK hP 0 rfl rfl 2 (by decide) w_3 (fun _ h9 => h9) rfl dX2_rowStart_31 ?_
        refine lv_iload_n (pc := 34) hx hb dX2_rowStart_34 rfl (lv_at hl 1 rfl) ?_
        refine q_iald (pc := 35) hx hb hK hP 1 0 hf rfl rfl dX2_rowStart_35 (fun v2 hf => ?_)
        refine q_idiv (pc := 36) hx hb dX2_rowStart_36 hf (fun v3 hf => ?_)
        refine lv_istore_n (pc := 37) (lv' := [(3, .int v3), (0, .ref a_g), (1, .int p1), (2, .int p2)]) hx hb dX2_rowStart_37 rfl hl (by decide) rfl (fun ls hl => ?_)
        refine lv_iload_n (pc := 38) hx hb dX2_rowStart_38 rfl (lv_at hl 3 rfl) ?_
        refine lv_iconst (pc := 39) (v := 1) hx hb dX2_rowStart_39 (by decide) ?_
        refine lv_isub (pc := 40) hx hb dX2_rowStart_40 ?_
        refine lv_aload_n (pc := 41) hx hb dX2_rowStart_41 rfl (lv_at hl 1 rfl) ?_
        refine va_get (pc := 42) (D := D) (ci := 2) (v := .ref a_g_bandRows) (C := RX2) (T := TX2) (N := 6) hx hb hts hinX2 hown hK hP 0 rfl rfl 2 (by decide) w_3 (fun _ h9 => h9) rfl dX2_rowStart_42 ?_
        refine lv_iload_n (pc := 45) hx hb dX2_rowStart_45 rfl (lv_at hl 2 rfl) ?_
        refine q_iald (pc := 46) hx hb hK hP 1 0 hf rfl rfl dX2_rowStart_46 (fun v4 hf => ?_)
        refine q_irem (pc := 47) hx hb dX2_rowStart_47 hf (fun v5 hf => ?_)
        refine lv_istore (pc := 48) (lv' := [(4, .int v5), (3, .int v3), (0, .ref a_g), (1, .int p1), (2, .int p2)]) hx hb dX2_rowStart_48 hl (by decide) rfl (fun ls hl => ?_)
        refine va_getsN (pc := 50) hx hb hZ.2.2.1 hS hown wn_43 (fun _ h9 => h9) dX2_rowStart_50 ?_
        refine lv_iload_n (pc := 53) hx hb dX2_rowStart_53 rfl (lv_at hl 1 rfl) ?_
        refine q_sald (pc := 54) (f := q_zA) (N := 44) hx hb hf hZ.2.2.2.1 hS dX2_rowStart_54 (fun v6 hf => ?_)
        refine lv_aload_n (pc := 55) hx hb dX2_rowStart_55 rfl (lv_at hl 2 rfl) ?_
        refine va_get (pc := 56) (D := D) (ci := 2) (v := .ref a_g_bandRows) (C := RX2) (T := TX2) (N := 6) hx hb hts hinX2 hown hK hP 0 rfl rfl 2 (by decide) w_3 (fun _ h9 => h9) rfl dX2_rowStart_56 ?_
        refine lv_iload_n (pc := 59) hx hb dX2_rowStart_59 rfl (lv_at hl 3 rfl) ?_
        refine q_iald (pc := 60) hx hb hK hP 1 0 hf rfl rfl dX2_rowStart_60 (fun v7 hf => ?_)
        refine lv_imul (pc := 61) hx hb dX2_rowStart_61 ?_
        refine lv_iload (pc := 62) hx hb dX2_rowStart_62 (lv_at hl 0 rfl) ?_
        refine va_getsN (pc := 64) hx hb hZ.1 hS hown wn_42 (fun _ h9 => h9) dX2_rowStart_64 ?_
        refine lv_iload_n (pc := 67) hx hb dX2_rowStart_67 rfl (lv_at hl 1 rfl) ?_
        refine q_sald (pc := 68) (f := q_bZ) (N := 44) hx hb hf hZ.2.1 hS dX2_rowStart_68 (fun v8 hf => ?_)
        refine lv_imul (pc := 69) hx hb dX2_rowStart_69 ?_
        refine lv_iadd (pc := 70) hx hb dX2_rowStart_70 ?_
        obtain ⟨v9, ev9, hf⟩ := q_nm_e hf
        refine q_topi ev9 ?_
        refine lv_istore (pc := 71) (lv' := [(5, .int v9), (4, .int v5), (3, .int v3), (0, .ref a_g), (1, .int p1), (2, .int p2)]) hx hb dX2_rowStart_71 hl (by decide) rfl (fun ls hl => ?_)
        refine lv_iconst (pc := 73) (v := 1) hx hb dX2_rowStart_73 (by decide) ?_
        refine lv_iload (pc := 74) hx hb dX2_rowStart_74 (lv_at hl 0 rfl) ?_
        refine lv_aload_n (pc := 76) hx hb dX2_rowStart_76 rfl (lv_at hl 3 rfl) ?_
        refine va_get (pc := 77) (D := D) (ci := 2) (v := .ref a_g_zoneColumns) (C := RX2) (T := TX2) (N := 6) hx hb hts hinX2 hown hK hP 0 rfl rfl 3 (by decide) w_4 (fun _ h9 => h9) rfl dX2_rowStart_77 ?_
        refine lv_iload_n (pc := 80) hx hb dX2_rowStart_80 rfl (lv_at hl 4 rfl) ?_
        refine q_iald (pc := 81) hx hb hK hP 2 0 hf rfl rfl dX2_rowStart_81 (fun v10 hf => ?_)
        refine lv_imul (pc := 82) hx hb dX2_rowStart_82 ?_
        refine lv_iadd (pc := 83) hx hb dX2_rowStart_83 ?_
        obtain rfl := Option.some.inj hf
        rw [hQ]
        exact q_iretr (pc := 84) hx hb hr hlocks rfl hS dX2_rowStart_84
      · refine lv_aload_n (pc := 18) hx hb dX2_rowStart_18 rfl (lv_at hl 0 rfl) ?_
        refine va_get (pc := 19) (D := D) (ci := 2) (v := .ref a_g_sheets) (C := RX2) (T := TX2) (N := 6) hx hb hts hinX2 hown hK hP 0 rfl rfl 5 (by decide) w_2 (fun _ h9 => h9) rfl dX2_rowStart_19 ?_
        refine lv_iload_n (pc := 22) hx hb dX2_rowStart_22 rfl (lv_at hl 1 rfl) ?_
        refine q_iald (pc := 23) hx hb hK hP 4 0 hf rfl rfl dX2_rowStart_23 (fun v11 hf => ?_)
        refine lv_iconst (pc := 24) (v := 1) hx hb dX2_rowStart_24 (by decide) ?_
        refine lv_isub (pc := 25) hx hb dX2_rowStart_25 ?_
        obtain rfl := Option.some.inj hf
        rw [hQ]
        exact q_iretr (pc := 26) hx hb hr hlocks rfl hS dX2_rowStart_26
    · refine lv_iconst (pc := 4) (v := 0) hx hb dX2_rowStart_4 (by decide) ?_
      obtain rfl := Option.some.inj hf
      rw [hQ]
      exact q_iretr (pc := 5) hx hb hr hlocks rfl hS dX2_rowStart_5
  exact hgo _ _ rfl hP hS
/-! X2_rowsIn -/
set_option maxRecDepth 100000 in
set_option maxHeartbeats 4000000 in
theorem c_Grid_rowsIn (l : Launch) (D : va_G) (ci : Nat → ClassId) (A : Nat → Prop) (sa : Nat → Nat) (N : Nat) (Rw : va_W) (a_g : Nat) (a_g_rowCuts : Nat) (a_g_columnCuts : Nat) (a_g_bandRows : Nat) (a_g_zoneColumns : Nat) (a_g_rows : Nat) (a_g_sheets : Nat) (g_bandRows : Nat → Int32) (p1 : Int32) (p2 : Int32) (r : Int32) (hf : f_Grid_rowsIn g_bandRows p1 p2 = some r) : Met l yX2_rowsIn wsX2_rowsIn ({ frames := 0, cells := 0, slots := 0, locals := 0 }) (va_Pc [.ref a_g, .int p1, .int p2] (q_N D ci A sa ((a_g, .inr (2, [.ref a_g_rowCuts, .ref a_g_columnCuts, .ref a_g_bandRows, .ref a_g_zoneColumns, .ref a_g_rows, .ref a_g_sheets])) :: (a_g_bandRows, .inl (ci 0, 5, .inl g_bandRows)) :: Rw))) (q_R (some (.int r))) 0 0 A := by
  refine q_ofW (cc := cX2_rowsIn) (maxL := 3) (ret := (some .int)) [.ref a_g, .int p1, .int p2] (plainFor_of_name (by decide)) rfl (Nat.le_of_ble_eq_true rfl) ?_
  intro p e s m below meth c ls Q hQ hx hb hml hr hts hown hlocks hK hA hZ hP hD hS hl
  have hl : lv_has ls 3 [(0, .ref a_g), (1, .int p1), (2, .int p2)] := hl
  have hown : s.vm.findClass RX2 = some m.cls := hown
  have hinX2 : ∀ w ∈ wsX20, w ∈ wsX2_rowsIn := fun _ h => List.mem_cons_of_mem _ (inWX20 _ h)
  have w_1 := hts (Cond.fieldLink RX2 18 "SheetNames$Grid" "bandRows" "[I") (List.mem_cons_of_mem _ t_w786)
  unfold f_Grid_rowsIn at hf
  have hgo : ∀ (H : Heap) (locs : List Loc), H = s.heap → va_P D vwCl ((a_g, .inr (2, [.ref a_g_rowCuts, .ref a_g_columnCuts, .ref a_g_bandRows, .ref a_g_zoneColumns, .ref a_g_rows, .ref a_g_sheets])) :: (a_g_bandRows, .inl (ci 0, 5, .inl g_bandRows)) :: Rw) H → va_S A s.heap H locs → W p l e ({ frames := 0, cells := 0, slots := 0, locals := 0 } : Room) s m ([.ref a_g, .int p1, .int p2] : List Value).toArray below meth c H locs 0 0 Q (F0 m 0 ls []) := by
    intro H locs hH hP hS
    subst hH
    refine lv_aload_n (pc := 0) hx hb dX2_rowsIn_0 rfl (lv_at hl 0 rfl) ?_
    refine va_get (pc := 1) (D := D) (ci := 2) (v := .ref a_g_bandRows) (C := RX2) (T := TX2) (N := 6) hx hb hts hinX2 hown hK hP 0 rfl rfl 2 (by decide) w_1 (fun _ h9 => h9) rfl dX2_rowsIn_1 ?_
    refine lv_iload_n (pc := 4) hx hb dX2_rowsIn_4 rfl (lv_at hl 2 rfl) ?_
    refine q_iald (pc := 5) hx hb hK hP 1 0 hf rfl rfl dX2_rowsIn_5 (fun v1 hf => ?_)
    refine lv_aload_n (pc := 6) hx hb dX2_rowsIn_6 rfl (lv_at hl 0 rfl) ?_
    refine va_get (pc := 7) (D := D) (ci := 2) (v := .ref a_g_bandRows) (C := RX2) (T := TX2) (N := 6) hx hb hts hinX2 hown hK hP 0 rfl rfl 2 (by decide) w_1 (fun _ h9 => h9) rfl dX2_rowsIn_7 ?_
    refine lv_iload_n (pc := 10) hx hb dX2_rowsIn_10 rfl (lv_at hl 1 rfl) ?_
    refine q_iald (pc := 11) hx hb hK hP 1 0 hf rfl rfl dX2_rowsIn_11 (fun v2 hf => ?_)
    refine q_idiv (pc := 12) hx hb dX2_rowsIn_12 hf (fun v3 hf => ?_)
    obtain rfl := Option.some.inj hf
    rw [hQ]
    exact q_iretr (pc := 13) hx hb hr hlocks rfl hS dX2_rowsIn_13
  exact hgo _ _ rfl hP hS
/-! X2_keyAbove -/
set_option maxRecDepth 100000 in
set_option maxHeartbeats 4000000 in
theorem c_Grid_keyAbove (l : Launch) (D : va_G) (ci : Nat → ClassId) (A : Nat → Prop) (sa : Nat → Nat) (N : Nat) (Rw : va_W) (a_g : Nat) (a_g_rowCuts : Nat) (a_g_columnCuts : Nat) (a_g_bandRows : Nat) (a_g_zoneColumns : Nat) (a_g_rows : Nat) (a_g_sheets : Nat) (g_bandRows : Nat → Int32) (g_zoneColumns : Nat → Int32) (g_rows : Nat → Int32) (g_sheets : Nat → Int32) (p1 : Int32) (p2 : Int32) (p3 : Int32) (r : Int32) (hf : f_Grid_keyAbove N g_bandRows g_zoneColumns g_rows g_sheets p1 p2 p3 = some r) : Met l yX2_keyAbove wsX2_keyAbove ({ frames := 2, cells := 0, slots := 0, locals := 49 }) (va_Pc [.ref a_g, .int p1, .int p2, .int p3] (q_N D ci A sa ((a_g, .inr (2, [.ref a_g_rowCuts, .ref a_g_columnCuts, .ref a_g_bandRows, .ref a_g_zoneColumns, .ref a_g_rows, .ref a_g_sheets])) :: (a_g_bandRows, .inl (ci 0, 5, .inl g_bandRows)) :: (a_g_zoneColumns, .inl (ci 0, 5, .inl g_zoneColumns)) :: (a_g_rows, .inl (ci 0, 5, .inl g_rows)) :: (a_g_sheets, .inl (ci 0, 5, .inl g_sheets)) :: Rw))) (q_R (some (.int r))) 0 0 A := by
  refine q_ofW (cc := cX2_keyAbove) (maxL := 7) (ret := (some .int)) [.ref a_g, .int p1, .int p2, .int p3] (plainFor_of_name (by decide)) rfl (Nat.le_of_ble_eq_true rfl) ?_
  intro p e s m below meth c ls Q hQ hx hb hml hr hts hown hlocks hK hA hZ hP hD hS hl
  have hl : lv_has ls 7 [(0, .ref a_g), (1, .int p1), (2, .int p2), (3, .int p3)] := hl
  have hown : s.vm.findClass RX2 = some m.cls := hown
  have hinX2 : ∀ w ∈ wsX20, w ∈ wsX2_keyAbove := fun _ h => List.mem_cons_of_mem _ (inWX20 _ h)
  have w_1 := hts (Cond.fieldLink RX2 24 "SheetNames$Grid" "rows" "[I") (List.mem_cons_of_mem _ t_w787)
  have w_2 := hts (Cond.fieldLink RX2 27 "SheetNames$Grid" "sheets" "[I") (List.mem_cons_of_mem _ t_w788)
  unfold f_Grid_keyAbove at hf
  have hgo : ∀ (H : Heap) (locs : List Loc), H = s.heap → va_P D vwCl ((a_g, .inr (2, [.ref a_g_rowCuts, .ref a_g_columnCuts, .ref a_g_bandRows, .ref a_g_zoneColumns, .ref a_g_rows, .ref a_g_sheets])) :: (a_g_bandRows, .inl (ci 0, 5, .inl g_bandRows)) :: (a_g_zoneColumns, .inl (ci 0, 5, .inl g_zoneColumns)) :: (a_g_rows, .inl (ci 0, 5, .inl g_rows)) :: (a_g_sheets, .inl (ci 0, 5, .inl g_sheets)) :: Rw) H → va_S A s.heap H locs → W p l e ({ frames := 2, cells := 0, slots := 0, locals := 49 } : Room) s m ([.ref a_g, .int p1, .int p2, .int p3] : List Value).toArray below meth c H locs 0 0 Q (F0 m 0 ls []) := by
    intro H locs hH hP hS
    subst hH
    refine lv_aload_n (pc := 0) hx hb dX2_keyAbove_0 rfl (lv_at hl 0 rfl) ?_
    refine lv_iload_n (pc := 1) hx hb dX2_keyAbove_1 rfl (lv_at hl 1 rfl) ?_
    refine lv_iload_n (pc := 2) hx hb dX2_keyAbove_2 rfl (lv_at hl 2 rfl) ?_
    obtain ⟨v1, hm3, hf⟩ := q_b1_e hf
    refine q_cVr (pc := 3) (As := [.int p1, .int p2]) (rest := []) (v0 := (some (.int v1))) ⟨hx, hb, hml, hown, hts⟩ hK hA hZ hP hD hS hl.1 [0, 1, 2, 3, 4] 5 rfl ⟨rfl, rfl, rfl⟩ (c_Grid_rowOfKey l D ci A sa N (Rw) a_g a_g_rowCuts a_g_columnCuts a_g_bandRows a_g_zoneColumns a_g_rows a_g_sheets g_bandRows g_zoneColumns g_rows g_sheets p1 p2 v1 hm3) 0 rfl rfl (cwV 2 hts gX2_keyAbove_X2_rowOfKey rfl rfl rfl (by decide +kernel) ⟨Nat.le_of_ble_eq_true rfl, Nat.le_of_ble_eq_true rfl⟩) rfl rfl (Nat.le_of_ble_eq_true rfl) dX2_keyAbove_3 ⟨Nat.zero_le _, Nat.zero_le _⟩ (fun locs hS => ?_)
    refine lv_istore (pc := 6) (lv' := [(4, .int v1), (0, .ref a_g), (1, .int p1), (2, .int p2), (3, .int p3)]) hx hb dX2_keyAbove_6 hl (by decide) rfl (fun ls hl => ?_)
    refine lv_iload (pc := 8) hx hb dX2_keyAbove_8 (lv_at hl 0 rfl) ?_
    refine q_if_ne (pc := 10) (tgt := 15) hx hb dX2_keyAbove_10 (by decide) rfl hf (fun hf => ?_) (fun hf => ?_)
    · refine lv_iload (pc := 15) hx hb dX2_keyAbove_15 (lv_at hl 0 rfl) ?_
      refine lv_aload_n (pc := 17) hx hb dX2_keyAbove_17 rfl (lv_at hl 1 rfl) ?_
      refine va_get (pc := 18) (D := D) (ci := 2) (v := .ref a_g_rows) (C := RX2) (T := TX2) (N := 6) hx hb hts hinX2 hown hK hP 0 rfl rfl 4 (by decide) w_1 (fun _ h9 => h9) rfl dX2_keyAbove_18 ?_
      refine lv_iload_n (pc := 21) hx hb dX2_keyAbove_21 rfl (lv_at hl 2 rfl) ?_
      refine q_iald (pc := 22) hx hb hK hP 3 0 hf rfl rfl dX2_keyAbove_22 (fun v2 hf => ?_)
      refine lv_iconst (pc := 23) (v := 1) hx hb dX2_keyAbove_23 (by decide) ?_
      refine lv_isub (pc := 24) hx hb dX2_keyAbove_24 ?_
      refine q_icmp_ne (pc := 25) (tgt := 37) hx hb dX2_keyAbove_25 (by decide) rfl hf (fun hf => ?_) (fun hf => ?_)
      · refine lv_iload_n (pc := 37) hx hb dX2_keyAbove_37 rfl (lv_at hl 3 rfl) ?_
        refine lv_aload_n (pc := 38) hx hb dX2_keyAbove_38 rfl (lv_at hl 1 rfl) ?_
        refine lv_iload_n (pc := 39) hx hb dX2_keyAbove_39 rfl (lv_at hl 2 rfl) ?_
        refine lv_iload (pc := 40) hx hb dX2_keyAbove_40 (lv_at hl 0 rfl) ?_
        obtain ⟨v3, hm42, hf⟩ := q_b1_e hf
        refine q_cVr (pc := 42) (As := [.int p1, .int v1]) (rest := [.int p2]) (v0 := (some (.int v3))) ⟨hx, hb, hml, hown, hts⟩ hK hA hZ hP hD hS hl.1 [0, 1, 2, 3, 4] 5 rfl ⟨rfl, rfl, rfl⟩ (c_Grid_rowStart l D ci A sa N (Rw) a_g a_g_rowCuts a_g_columnCuts a_g_bandRows a_g_zoneColumns a_g_rows a_g_sheets g_bandRows g_zoneColumns g_rows g_sheets p1 v1 v3 hm42) 0 rfl rfl (cwV 2 hts gX2_keyAbove_X2_rowStart rfl rfl rfl (by decide +kernel) ⟨Nat.le_of_ble_eq_true rfl, Nat.le_of_ble_eq_true rfl⟩) rfl rfl (Nat.le_of_ble_eq_true rfl) dX2_keyAbove_42 ⟨Nat.zero_le _, Nat.zero_le _⟩ (fun locs hS => ?_)
        refine lv_isub (pc := 45) hx hb dX2_keyAbove_45 ?_
        obtain ⟨v4, ev4, hf⟩ := q_nm_e hf
        refine q_topi ev4 ?_
        refine lv_istore (pc := 46) (lv' := [(5, .int v4), (4, .int v1), (0, .ref a_g), (1, .int p1), (2, .int p2), (3, .int p3)]) hx hb dX2_keyAbove_46 hl (by decide) rfl (fun ls hl => ?_)
        refine lv_iload (pc := 48) hx hb dX2_keyAbove_48 (lv_at hl 1 rfl) ?_
        refine lv_iconst (pc := 50) (v := 1) hx hb dX2_keyAbove_50 (by decide) ?_
        refine lv_isub (pc := 51) hx hb dX2_keyAbove_51 ?_
        refine lv_aload_n (pc := 52) hx hb dX2_keyAbove_52 rfl (lv_at hl 2 rfl) ?_
        refine lv_iload_n (pc := 53) hx hb dX2_keyAbove_53 rfl (lv_at hl 5 rfl) ?_
        refine lv_iload_n (pc := 54) hx hb dX2_keyAbove_54 rfl (lv_at hl 3 rfl) ?_
        obtain ⟨v5, hm55, hf⟩ := q_b1_e hf
        refine q_cVr (pc := 55) (As := [.int p3, .int p1]) (rest := [.int (v1 - 1)]) (v0 := (some (.int v5))) ⟨hx, hb, hml, hown, hts⟩ hK hA hZ hP hD hS hl.1 [0, 1] 5 rfl ⟨rfl, rfl, rfl⟩ (c_Grid_rowsIn l D ci A sa N (Rw) a_g a_g_rowCuts a_g_columnCuts a_g_bandRows a_g_zoneColumns a_g_rows a_g_sheets g_bandRows p3 p1 v5 hm55) 0 rfl rfl (cwV 2 hts gX2_keyAbove_X2_rowsIn rfl rfl rfl (by decide +kernel) ⟨Nat.le_of_ble_eq_true rfl, Nat.le_of_ble_eq_true rfl⟩) rfl rfl (Nat.le_of_ble_eq_true rfl) dX2_keyAbove_55 ⟨Nat.zero_le _, Nat.zero_le _⟩ (fun locs hS => ?_)
        refine q_idiv (pc := 58) hx hb dX2_keyAbove_58 hf (fun v6 hf => ?_)
        refine lv_iconst (pc := 59) (v := 1) hx hb dX2_keyAbove_59 (by decide) ?_
        refine lv_iadd (pc := 60) hx hb dX2_keyAbove_60 ?_
        obtain ⟨v7, ev7, hf⟩ := q_nm_e hf
        refine q_topi ev7 ?_
        refine lv_istore (pc := 61) (lv' := [(6, .int v7), (5, .int v4), (4, .int v1), (0, .ref a_g), (1, .int p1), (2, .int p2), (3, .int p3)]) hx hb dX2_keyAbove_61 hl (by decide) rfl (fun ls hl => ?_)
        refine lv_aload_n (pc := 63) hx hb dX2_keyAbove_63 rfl (lv_at hl 3 rfl) ?_
        refine lv_iload_n (pc := 64) hx hb dX2_keyAbove_64 rfl (lv_at hl 6 rfl) ?_
        refine lv_iload (pc := 65) hx hb dX2_keyAbove_65 (lv_at hl 0 rfl) ?_
        obtain ⟨v8, hm67, hf⟩ := q_b1_e hf
        refine q_cVr (pc := 67) (As := [.int p3, .int v7]) (rest := []) (v0 := (some (.int v8))) ⟨hx, hb, hml, hown, hts⟩ hK hA hZ hP hD hS hl.1 [0, 1, 2, 3, 4] 5 rfl ⟨rfl, rfl, rfl⟩ (c_Grid_rowStart l D ci A sa N (Rw) a_g a_g_rowCuts a_g_columnCuts a_g_bandRows a_g_zoneColumns a_g_rows a_g_sheets g_bandRows g_zoneColumns g_rows g_sheets p3 v7 v8 hm67) 0 rfl rfl (cwV 2 hts gX2_keyAbove_X2_rowStart rfl rfl rfl (by decide +kernel) ⟨Nat.le_of_ble_eq_true rfl, Nat.le_of_ble_eq_true rfl⟩) rfl rfl (Nat.le_of_ble_eq_true rfl) dX2_keyAbove_67 ⟨Nat.zero_le _, Nat.zero_le _⟩ (fun locs hS => ?_)
        refine lv_iload (pc := 70) hx hb dX2_keyAbove_70 (lv_at hl 1 rfl) ?_
        refine lv_aload_n (pc := 72) hx hb dX2_keyAbove_72 rfl (lv_at hl 3 rfl) ?_
        refine lv_iload_n (pc := 73) hx hb dX2_keyAbove_73 rfl (lv_at hl 6 rfl) ?_
        refine lv_iload_n (pc := 74) hx hb dX2_keyAbove_74 rfl (lv_at hl 4 rfl) ?_
        obtain ⟨v9, hm75, hf⟩ := q_b1_e hf
        refine q_cVr (pc := 75) (As := [.int p3, .int p1]) (rest := [.int v4, .int v8]) (v0 := (some (.int v9))) ⟨hx, hb, hml, hown, hts⟩ hK hA hZ hP hD hS hl.1 [0, 2] 5 rfl ⟨rfl, rfl, rfl⟩ (c_Grid_columnsIn l D ci A sa N (Rw) a_g a_g_rowCuts a_g_columnCuts a_g_bandRows a_g_zoneColumns a_g_rows a_g_sheets g_zoneColumns p3 p1 v9 hm75) 0 rfl rfl (cwV 2 hts gX2_keyAbove_X2_columnsIn rfl rfl rfl (by decide +kernel) ⟨Nat.le_of_ble_eq_true rfl, Nat.le_of_ble_eq_true rfl⟩) rfl rfl (Nat.le_of_ble_eq_true rfl) dX2_keyAbove_75 ⟨Nat.zero_le _, Nat.zero_le _⟩ (fun locs hS => ?_)
        refine q_idiv (pc := 78) hx hb dX2_keyAbove_78 hf (fun v10 hf => ?_)
        refine lv_iadd (pc := 79) hx hb dX2_keyAbove_79 ?_
        obtain rfl := Option.some.inj hf
        rw [hQ]
        exact q_iretr (pc := 80) hx hb hr hlocks rfl hS dX2_keyAbove_80
      · refine lv_aload_n (pc := 28) hx hb dX2_keyAbove_28 rfl (lv_at hl 1 rfl) ?_
        refine va_get (pc := 29) (D := D) (ci := 2) (v := .ref a_g_sheets) (C := RX2) (T := TX2) (N := 6) hx hb hts hinX2 hown hK hP 0 rfl rfl 5 (by decide) w_2 (fun _ h9 => h9) rfl dX2_keyAbove_29 ?_
        refine lv_iload_n (pc := 32) hx hb dX2_keyAbove_32 rfl (lv_at hl 4 rfl) ?_
        refine q_iald (pc := 33) hx hb hK hP 4 0 hf rfl rfl dX2_keyAbove_33 (fun v11 hf => ?_)
        refine lv_iconst (pc := 34) (v := 1) hx hb dX2_keyAbove_34 (by decide) ?_
        refine lv_isub (pc := 35) hx hb dX2_keyAbove_35 ?_
        obtain rfl := Option.some.inj hf
        rw [hQ]
        exact q_iretr (pc := 36) hx hb hr hlocks rfl hS dX2_keyAbove_36
    · refine lv_iconst (pc := 13) (v := 0) hx hb dX2_keyAbove_13 (by decide) ?_
      obtain rfl := Option.some.inj hf
      rw [hQ]
      exact q_iretr (pc := 14) hx hb hr hlocks rfl hS dX2_keyAbove_14
  exact hgo _ _ rfl hP hS
/-! X2_rowOfLat -/
set_option maxRecDepth 100000 in
set_option maxHeartbeats 4000000 in
theorem c_Grid_rowOfLat (l : Launch) (D : va_G) (ci : Nat → ClassId) (A : Nat → Prop) (sa : Nat → Nat) (N : Nat) (Rw : va_W) (a_g : Nat) (a_g_rowCuts : Nat) (a_g_columnCuts : Nat) (a_g_bandRows : Nat) (a_g_zoneColumns : Nat) (a_g_rows : Nat) (a_g_sheets : Nat) (g_bandRows : Nat → Int32) (g_rows : Nat → Int32) (p1 : Int32) (p2 : Int32) (r : Int32) (hf : f_Grid_rowOfLat g_bandRows g_rows p1 p2 = some r) : Met l yX2_rowOfLat wsX2_rowOfLat ({ frames := 1, cells := 0, slots := 0, locals := 25 }) (va_Pc [.ref a_g, .int p1, .int p2] (q_N D ci A sa ((a_g, .inr (2, [.ref a_g_rowCuts, .ref a_g_columnCuts, .ref a_g_bandRows, .ref a_g_zoneColumns, .ref a_g_rows, .ref a_g_sheets])) :: (a_g_bandRows, .inl (ci 0, 5, .inl g_bandRows)) :: (a_g_rows, .inl (ci 0, 5, .inl g_rows)) :: Rw))) (q_R (some (.int r))) 0 0 A := by
  refine q_ofW (cc := cX2_rowOfLat) (maxL := 5) (ret := (some .int)) [.ref a_g, .int p1, .int p2] (plainFor_of_name (by decide)) rfl (Nat.le_of_ble_eq_true rfl) ?_
  intro p e s m below meth c ls Q hQ hx hb hml hr hts hown hlocks hK hA hZ hP hD hS hl
  have hl : lv_has ls 5 [(0, .ref a_g), (1, .int p1), (2, .int p2)] := hl
  have hown : s.vm.findClass RX2 = some m.cls := hown
  have hinX2 : ∀ w ∈ wsX20, w ∈ wsX2_rowOfLat := fun _ h => List.mem_cons_of_mem _ (inWX20 _ h)
  have w_1 := hts (Cond.constant RX2 57 (316800)) (List.mem_cons_of_mem _ t_w795)
  have w_2 := hts (Cond.constant RX2 58 (-316800)) (List.mem_cons_of_mem _ t_w796)
  have w_3 := hts (Cond.fieldLink RX2 24 "SheetNames$Grid" "rows" "[I") (List.mem_cons_of_mem _ t_w787)
  have w_4 := hts (Cond.fieldLink RX2 18 "SheetNames$Grid" "bandRows" "[I") (List.mem_cons_of_mem _ t_w786)
  have w_5 := hts (Cond.constantLong RX2 59 (14400)) (List.mem_cons_of_mem _ t_w797)
  unfold f_Grid_rowOfLat at hf
  have hgo : ∀ (H : Heap) (locs : List Loc), H = s.heap → va_P D vwCl ((a_g, .inr (2, [.ref a_g_rowCuts, .ref a_g_columnCuts, .ref a_g_bandRows, .ref a_g_zoneColumns, .ref a_g_rows, .ref a_g_sheets])) :: (a_g_bandRows, .inl (ci 0, 5, .inl g_bandRows)) :: (a_g_rows, .inl (ci 0, 5, .inl g_rows)) :: Rw) H → va_S A s.heap H locs → W p l e ({ frames := 1, cells := 0, slots := 0, locals := 25 } : Room) s m ([.ref a_g, .int p1, .int p2] : List Value).toArray below meth c H locs 0 0 Q (F0 m 0 ls []) := by
    intro H locs hH hP hS
    subst hH
    refine lv_iload_n (pc := 0) hx hb dX2_rowOfLat_0 rfl (lv_at hl 2 rfl) ?_
    refine lv_ldc (pc := 1) (v := 316800) hx hb hown w_1 dX2_rowOfLat_1 ?_
    refine q_icmp_lt (pc := 3) (tgt := 8) hx hb dX2_rowOfLat_3 (by decide) rfl hf (fun hf => ?_) (fun hf => ?_)
    · refine lv_iload_n (pc := 8) hx hb dX2_rowOfLat_8 rfl (lv_at hl 2 rfl) ?_
      refine lv_ldc (pc := 9) (v := (-316800)) hx hb hown w_2 dX2_rowOfLat_9 ?_
      refine q_icmp_ge (pc := 11) (tgt := 23) hx hb dX2_rowOfLat_11 (by decide) rfl hf (fun hf => ?_) (fun hf => ?_)
      · refine lv_iload_n (pc := 23) hx hb dX2_rowOfLat_23 rfl (lv_at hl 2 rfl) ?_
        refine lv_i2l (pc := 24) hx hb dX2_rowOfLat_24 rfl ?_
        refine lv_aload_n (pc := 25) hx hb dX2_rowOfLat_25 rfl (lv_at hl 0 rfl) ?_
        refine va_get (pc := 26) (D := D) (ci := 2) (v := .ref a_g_bandRows) (C := RX2) (T := TX2) (N := 6) hx hb hts hinX2 hown hK hP 0 rfl rfl 2 (by decide) w_4 (fun _ h9 => h9) rfl dX2_rowOfLat_26 ?_
        refine lv_iload_n (pc := 29) hx hb dX2_rowOfLat_29 rfl (lv_at hl 1 rfl) ?_
        refine q_iald (pc := 30) hx hb hK hP 1 0 hf rfl rfl dX2_rowOfLat_30 (fun v1 hf => ?_)
        refine lv_i2l (pc := 31) hx hb dX2_rowOfLat_31 rfl ?_
        refine lv_lmul (pc := 32) hx hb dX2_rowOfLat_32 ?_
        refine lv_ldc2 (pc := 33) (v := 14400) hx hb hown w_5 dX2_rowOfLat_33 ?_
        obtain ⟨v2, hm36, hf⟩ := q_b1_e hf
        refine q_cSr (pc := 36) (As := [.long (p2.toInt64 * v1.toInt64), .long 14400]) (rest := []) (v0 := (some (.long v2))) ⟨hx, hb, hml, hown, hts⟩ hK hA hZ hP hD hS hl.1 [] 3 rfl ⟨rfl, rfl, rfl⟩ (c_JMath_floorDiv_f86c9 l D ci A sa N (Rw) (p2.toInt64 * v1.toInt64) 14400 v2 hm36) (va_cwS 2 hts gX2_rowOfLat_J9_floorDiv_f86c9 rfl rfl rfl (by decide +kernel) ⟨Nat.le_of_ble_eq_true rfl, Nat.le_of_ble_eq_true rfl⟩) rfl rfl (Nat.le_of_ble_eq_true rfl) dX2_rowOfLat_36 ⟨Nat.zero_le _, Nat.zero_le _⟩ (fun locs hS => ?_)
        refine lv_lstore_n (pc := 39) (lv' := [(3, .long v2), (0, .ref a_g), (1, .int p1), (2, .int p2)]) hx hb dX2_rowOfLat_39 rfl hl (by decide) rfl (fun ls hl => ?_)
        refine lv_bipush (pc := 40) (v := 22) hx hb dX2_rowOfLat_40 (by decide) ?_
        refine lv_aload_n (pc := 42) hx hb dX2_rowOfLat_42 rfl (lv_at hl 1 rfl) ?_
        refine va_get (pc := 43) (D := D) (ci := 2) (v := .ref a_g_bandRows) (C := RX2) (T := TX2) (N := 6) hx hb hts hinX2 hown hK hP 0 rfl rfl 2 (by decide) w_4 (fun _ h9 => h9) rfl dX2_rowOfLat_43 ?_
        refine lv_iload_n (pc := 46) hx hb dX2_rowOfLat_46 rfl (lv_at hl 2 rfl) ?_
        refine q_iald (pc := 47) hx hb hK hP 1 0 hf rfl rfl dX2_rowOfLat_47 (fun v3 hf => ?_)
        refine lv_imul (pc := 48) hx hb dX2_rowOfLat_48 ?_
        refine lv_lload_n (pc := 49) hx hb dX2_rowOfLat_49 rfl (lv_at hl 0 rfl) ?_
        refine lv_l2i (pc := 50) hx hb dX2_rowOfLat_50 rfl ?_
        refine lv_isub (pc := 51) hx hb dX2_rowOfLat_51 ?_
        obtain rfl := Option.some.inj hf
        rw [hQ]
        exact q_iretr (pc := 52) hx hb hr hlocks rfl hS dX2_rowOfLat_52
      · refine lv_aload_n (pc := 14) hx hb dX2_rowOfLat_14 rfl (lv_at hl 0 rfl) ?_
        refine va_get (pc := 15) (D := D) (ci := 2) (v := .ref a_g_rows) (C := RX2) (T := TX2) (N := 6) hx hb hts hinX2 hown hK hP 0 rfl rfl 4 (by decide) w_3 (fun _ h9 => h9) rfl dX2_rowOfLat_15 ?_
        refine lv_iload_n (pc := 18) hx hb dX2_rowOfLat_18 rfl (lv_at hl 1 rfl) ?_
        refine q_iald (pc := 19) hx hb hK hP 2 0 hf rfl rfl dX2_rowOfLat_19 (fun v4 hf => ?_)
        refine lv_iconst (pc := 20) (v := 1) hx hb dX2_rowOfLat_20 (by decide) ?_
        refine lv_isub (pc := 21) hx hb dX2_rowOfLat_21 ?_
        obtain rfl := Option.some.inj hf
        rw [hQ]
        exact q_iretr (pc := 22) hx hb hr hlocks rfl hS dX2_rowOfLat_22
    · refine lv_iconst (pc := 6) (v := 0) hx hb dX2_rowOfLat_6 (by decide) ?_
      obtain rfl := Option.some.inj hf
      rw [hQ]
      exact q_iretr (pc := 7) hx hb hr hlocks rfl hS dX2_rowOfLat_7
  exact hgo _ _ rfl hP hS
/-! X2_rowLength -/
set_option maxRecDepth 100000 in
set_option maxHeartbeats 4000000 in
theorem c_Grid_rowLength (l : Launch) (D : va_G) (ci : Nat → ClassId) (A : Nat → Prop) (sa : Nat → Nat) (N : Nat) (Rw : va_W) (a_g : Nat) (a_g_rowCuts : Nat) (a_g_columnCuts : Nat) (a_g_bandRows : Nat) (a_g_zoneColumns : Nat) (a_g_rows : Nat) (a_g_sheets : Nat) (g_bandRows : Nat → Int32) (g_zoneColumns : Nat → Int32) (g_rows : Nat → Int32) (p1 : Int32) (p2 : Int32) (r : Int32) (hf : f_Grid_rowLength g_bandRows g_zoneColumns g_rows p1 p2 = some r) : Met l yX2_rowLength wsX2_rowLength ({ frames := 0, cells := 0, slots := 0, locals := 0 }) (va_Pc [.ref a_g, .int p1, .int p2] (q_N D ci A sa ((a_g, .inr (2, [.ref a_g_rowCuts, .ref a_g_columnCuts, .ref a_g_bandRows, .ref a_g_zoneColumns, .ref a_g_rows, .ref a_g_sheets])) :: (a_g_bandRows, .inl (ci 0, 5, .inl g_bandRows)) :: (a_g_zoneColumns, .inl (ci 0, 5, .inl g_zoneColumns)) :: (a_g_rows, .inl (ci 0, 5, .inl g_rows)) :: Rw))) (q_R (some (.int r))) 0 0 A := by
  refine q_ofW (cc := cX2_rowLength) (maxL := 3) (ret := (some .int)) [.ref a_g, .int p1, .int p2] (plainFor_of_name (by decide)) rfl (Nat.le_of_ble_eq_true rfl) ?_
  intro p e s m below meth c ls Q hQ hx hb hml hr hts hown hlocks hK hA hZ hP hD hS hl
  have hl : lv_has ls 3 [(0, .ref a_g), (1, .int p1), (2, .int p2)] := hl
  have hown : s.vm.findClass RX2 = some m.cls := hown
  have hinX2 : ∀ w ∈ wsX20, w ∈ wsX2_rowLength := fun _ h => List.mem_cons_of_mem _ (inWX20 _ h)
  have w_1 := hts (Cond.fieldLink RX2 24 "SheetNames$Grid" "rows" "[I") (List.mem_cons_of_mem _ t_w787)
  have w_2 := hts (Cond.fieldLink RX2 18 "SheetNames$Grid" "bandRows" "[I") (List.mem_cons_of_mem _ t_w786)
  have w_3 := hts (Cond.fieldLink RX2 21 "SheetNames$Grid" "zoneColumns" "[I") (List.mem_cons_of_mem _ t_w783)
  have wn_42 : (Cond.fieldLinkNest "SheetNames$Grid" 47 "SheetNames" "BAND_ZONES" "[I" "SheetNames").before ([.ref a_g, .int p1, .int p2] : List Value).toArray s = true := (hZ.2.2.2.2.2.2.2.2.2.1 _ (List.mem_of_getElem? (i := 42) rfl)).use rfl
  unfold f_Grid_rowLength at hf
  have hgo : ∀ (H : Heap) (locs : List Loc), H = s.heap → va_P D vwCl ((a_g, .inr (2, [.ref a_g_rowCuts, .ref a_g_columnCuts, .ref a_g_bandRows, .ref a_g_zoneColumns, .ref a_g_rows, .ref a_g_sheets])) :: (a_g_bandRows, .inl (ci 0, 5, .inl g_bandRows)) :: (a_g_zoneColumns, .inl (ci 0, 5, .inl g_zoneColumns)) :: (a_g_rows, .inl (ci 0, 5, .inl g_rows)) :: Rw) H → va_S A s.heap H locs → W p l e ({ frames := 0, cells := 0, slots := 0, locals := 0 } : Room) s m ([.ref a_g, .int p1, .int p2] : List Value).toArray below meth c H locs 0 0 Q (F0 m 0 ls []) := by
    intro H locs hH hP hS
    subst hH
    refine lv_iload_n (pc := 0) hx hb dX2_rowLength_0 rfl (lv_at hl 2 rfl) ?_
    refine q_if_le (pc := 1) (tgt := 16) hx hb dX2_rowLength_1 (by decide) rfl hf (fun hf => ?_) (fun hf => ?_)
    · refine lv_iconst (pc := 16) (v := 1) hx hb dX2_rowLength_16 (by decide) ?_
      obtain rfl := Option.some.inj hf
      rw [hQ]
      exact q_iretr (pc := 17) hx hb hr hlocks rfl hS dX2_rowLength_17
    · refine lv_iload_n (pc := 4) hx hb dX2_rowLength_4 rfl (lv_at hl 2 rfl) ?_
      refine lv_aload_n (pc := 5) hx hb dX2_rowLength_5 rfl (lv_at hl 0 rfl) ?_
      refine va_get (pc := 6) (D := D) (ci := 2) (v := .ref a_g_rows) (C := RX2) (T := TX2) (N := 6) hx hb hts hinX2 hown hK hP 0 rfl rfl 4 (by decide) w_1 (fun _ h9 => h9) rfl dX2_rowLength_6 ?_
      refine lv_iload_n (pc := 9) hx hb dX2_rowLength_9 rfl (lv_at hl 1 rfl) ?_
      refine q_iald (pc := 10) hx hb hK hP 3 0 hf rfl rfl dX2_rowLength_10 (fun v1 hf => ?_)
      refine lv_iconst (pc := 11) (v := 1) hx hb dX2_rowLength_11 (by decide) ?_
      refine lv_isub (pc := 12) hx hb dX2_rowLength_12 ?_
      refine q_icmp_lt (pc := 13) (tgt := 18) hx hb dX2_rowLength_13 (by decide) rfl hf (fun hf => ?_) (fun hf => ?_)
      · refine va_getsN (pc := 18) hx hb hZ.1 hS hown wn_42 (fun _ h9 => h9) dX2_rowLength_18 ?_
        refine lv_iload_n (pc := 21) hx hb dX2_rowLength_21 rfl (lv_at hl 2 rfl) ?_
        refine lv_iconst (pc := 22) (v := 1) hx hb dX2_rowLength_22 (by decide) ?_
        refine lv_isub (pc := 23) hx hb dX2_rowLength_23 ?_
        refine lv_aload_n (pc := 24) hx hb dX2_rowLength_24 rfl (lv_at hl 0 rfl) ?_
        refine va_get (pc := 25) (D := D) (ci := 2) (v := .ref a_g_bandRows) (C := RX2) (T := TX2) (N := 6) hx hb hts hinX2 hown hK hP 0 rfl rfl 2 (by decide) w_2 (fun _ h9 => h9) rfl dX2_rowLength_25 ?_
        refine lv_iload_n (pc := 28) hx hb dX2_rowLength_28 rfl (lv_at hl 1 rfl) ?_
        refine q_iald (pc := 29) hx hb hK hP 1 0 hf rfl rfl dX2_rowLength_29 (fun v2 hf => ?_)
        refine q_idiv (pc := 30) hx hb dX2_rowLength_30 hf (fun v3 hf => ?_)
        refine q_sald (pc := 31) (f := q_bZ) (N := 44) hx hb hf hZ.2.1 hS dX2_rowLength_31 (fun v4 hf => ?_)
        refine lv_aload_n (pc := 32) hx hb dX2_rowLength_32 rfl (lv_at hl 0 rfl) ?_
        refine va_get (pc := 33) (D := D) (ci := 2) (v := .ref a_g_zoneColumns) (C := RX2) (T := TX2) (N := 6) hx hb hts hinX2 hown hK hP 0 rfl rfl 3 (by decide) w_3 (fun _ h9 => h9) rfl dX2_rowLength_33 ?_
        refine lv_iload_n (pc := 36) hx hb dX2_rowLength_36 rfl (lv_at hl 1 rfl) ?_
        refine q_iald (pc := 37) hx hb hK hP 2 0 hf rfl rfl dX2_rowLength_37 (fun v5 hf => ?_)
        refine lv_imul (pc := 38) hx hb dX2_rowLength_38 ?_
        obtain rfl := Option.some.inj hf
        rw [hQ]
        exact q_iretr (pc := 39) hx hb hr hlocks rfl hS dX2_rowLength_39
      · refine lv_iconst (pc := 16) (v := 1) hx hb dX2_rowLength_16 (by decide) ?_
        obtain rfl := Option.some.inj hf
        rw [hQ]
        exact q_iretr (pc := 17) hx hb hr hlocks rfl hS dX2_rowLength_17
  exact hgo _ _ rfl hP hS
/-! X2_placeOfLon -/
set_option maxRecDepth 100000 in
set_option maxHeartbeats 4000000 in
theorem c_Grid_placeOfLon (l : Launch) (D : va_G) (ci : Nat → ClassId) (A : Nat → Prop) (sa : Nat → Nat) (N : Nat) (Rw : va_W) (a_g : Nat) (a_g_rowCuts : Nat) (a_g_columnCuts : Nat) (a_g_bandRows : Nat) (a_g_zoneColumns : Nat) (a_g_rows : Nat) (a_g_sheets : Nat) (g_bandRows : Nat → Int32) (g_zoneColumns : Nat → Int32) (g_rows : Nat → Int32) (p1 : Int32) (p2 : Int32) (p3 : Int32) (r : Int32) (hf : f_Grid_placeOfLon g_bandRows g_zoneColumns g_rows p1 p2 p3 = some r) : Met l yX2_placeOfLon wsX2_placeOfLon ({ frames := 1, cells := 0, slots := 0, locals := 22 }) (va_Pc [.ref a_g, .int p1, .int p2, .int p3] (q_N D ci A sa ((a_g, .inr (2, [.ref a_g_rowCuts, .ref a_g_columnCuts, .ref a_g_bandRows, .ref a_g_zoneColumns, .ref a_g_rows, .ref a_g_sheets])) :: (a_g_bandRows, .inl (ci 0, 5, .inl g_bandRows)) :: (a_g_zoneColumns, .inl (ci 0, 5, .inl g_zoneColumns)) :: (a_g_rows, .inl (ci 0, 5, .inl g_rows)) :: Rw))) (q_R (some (.int r))) 0 0 A := by
  refine q_ofW (cc := cX2_placeOfLon) (maxL := 4) (ret := (some .int)) [.ref a_g, .int p1, .int p2, .int p3] (plainFor_of_name (by decide)) rfl (Nat.le_of_ble_eq_true rfl) ?_
  intro p e s m below meth c ls Q hQ hx hb hml hr hts hown hlocks hK hA hZ hP hD hS hl
  have hl : lv_has ls 4 [(0, .ref a_g), (1, .int p1), (2, .int p2), (3, .int p3)] := hl
  have hown : s.vm.findClass RX2 = some m.cls := hown
  have w_1 := hts (Cond.constantLong RX2 71 (1296000)) (List.mem_cons_of_mem _ t_w798)
  unfold f_Grid_placeOfLon at hf
  have hgo : ∀ (H : Heap) (locs : List Loc), H = s.heap → va_P D vwCl ((a_g, .inr (2, [.ref a_g_rowCuts, .ref a_g_columnCuts, .ref a_g_bandRows, .ref a_g_zoneColumns, .ref a_g_rows, .ref a_g_sheets])) :: (a_g_bandRows, .inl (ci 0, 5, .inl g_bandRows)) :: (a_g_zoneColumns, .inl (ci 0, 5, .inl g_zoneColumns)) :: (a_g_rows, .inl (ci 0, 5, .inl g_rows)) :: Rw) H → va_S A s.heap H locs → W p l e ({ frames := 1, cells := 0, slots := 0, locals := 22 } : Room) s m ([.ref a_g, .int p1, .int p2, .int p3] : List Value).toArray below meth c H locs 0 0 Q (F0 m 0 ls []) := by
    intro H locs hH hP hS
    subst hH
    refine lv_iload_n (pc := 0) hx hb dX2_placeOfLon_0 rfl (lv_at hl 3 rfl) ?_
    refine lv_i2l (pc := 1) hx hb dX2_placeOfLon_1 rfl ?_
    refine lv_aload_n (pc := 2) hx hb dX2_placeOfLon_2 rfl (lv_at hl 0 rfl) ?_
    refine lv_iload_n (pc := 3) hx hb dX2_placeOfLon_3 rfl (lv_at hl 1 rfl) ?_
    refine lv_iload_n (pc := 4) hx hb dX2_placeOfLon_4 rfl (lv_at hl 2 rfl) ?_
    obtain ⟨v1, hm5, hf⟩ := q_b1_e hf
    refine q_cVr (pc := 5) (As := [.int p1, .int p2]) (rest := [.long p3.toInt64]) (v0 := (some (.int v1))) ⟨hx, hb, hml, hown, hts⟩ hK hA hZ hP hD hS hl.1 [0, 1, 2, 3] 4 rfl ⟨rfl, rfl, rfl⟩ (c_Grid_rowLength l D ci A sa N (Rw) a_g a_g_rowCuts a_g_columnCuts a_g_bandRows a_g_zoneColumns a_g_rows a_g_sheets g_bandRows g_zoneColumns g_rows p1 p2 v1 hm5) 0 rfl rfl (cwV 2 hts gX2_placeOfLon_X2_rowLength rfl rfl rfl (by decide +kernel) ⟨Nat.le_of_ble_eq_true rfl, Nat.le_of_ble_eq_true rfl⟩) rfl rfl (Nat.le_of_ble_eq_true rfl) dX2_placeOfLon_5 ⟨Nat.zero_le _, Nat.zero_le _⟩ (fun locs hS => ?_)
    refine lv_i2l (pc := 8) hx hb dX2_placeOfLon_8 rfl ?_
    refine lv_lmul (pc := 9) hx hb dX2_placeOfLon_9 ?_
    refine lv_ldc2 (pc := 10) (v := 1296000) hx hb hown w_1 dX2_placeOfLon_10 ?_
    refine q_ldiv (pc := 13) hx hb dX2_placeOfLon_13 hf (fun v2 hf => ?_)
    refine lv_l2i (pc := 14) hx hb dX2_placeOfLon_14 rfl ?_
    obtain rfl := Option.some.inj hf
    rw [hQ]
    exact q_iretr (pc := 15) hx hb hr hlocks rfl hS dX2_placeOfLon_15
  exact hgo _ _ rfl hP hS
/-! X2_keyOf -/
set_option maxRecDepth 100000 in
set_option maxHeartbeats 4000000 in
theorem c_Grid_keyOf (l : Launch) (D : va_G) (ci : Nat → ClassId) (A : Nat → Prop) (sa : Nat → Nat) (N : Nat) (Rw : va_W) (a_g : Nat) (a_g_rowCuts : Nat) (a_g_columnCuts : Nat) (a_g_bandRows : Nat) (a_g_zoneColumns : Nat) (a_g_rows : Nat) (a_g_sheets : Nat) (g_bandRows : Nat → Int32) (g_zoneColumns : Nat → Int32) (g_rows : Nat → Int32) (g_sheets : Nat → Int32) (p1 : Int32) (p2 : Int32) (p3 : Int32) (r : Int32) (hf : f_Grid_keyOf g_bandRows g_zoneColumns g_rows g_sheets p1 p2 p3 = some r) : Met l yX2_keyOf wsX2_keyOf ({ frames := 2, cells := 0, slots := 0, locals := 49 }) (va_Pc [.ref a_g, .int p1, .int p2, .int p3] (q_N D ci A sa ((a_g, .inr (2, [.ref a_g_rowCuts, .ref a_g_columnCuts, .ref a_g_bandRows, .ref a_g_zoneColumns, .ref a_g_rows, .ref a_g_sheets])) :: (a_g_bandRows, .inl (ci 0, 5, .inl g_bandRows)) :: (a_g_zoneColumns, .inl (ci 0, 5, .inl g_zoneColumns)) :: (a_g_rows, .inl (ci 0, 5, .inl g_rows)) :: (a_g_sheets, .inl (ci 0, 5, .inl g_sheets)) :: Rw))) (q_R (some (.int r))) 0 0 A := by
  refine q_ofW (cc := cX2_keyOf) (maxL := 5) (ret := (some .int)) [.ref a_g, .int p1, .int p2, .int p3] (plainFor_of_name (by decide)) rfl (Nat.le_of_ble_eq_true rfl) ?_
  intro p e s m below meth c ls Q hQ hx hb hml hr hts hown hlocks hK hA hZ hP hD hS hl
  have hl : lv_has ls 5 [(0, .ref a_g), (1, .int p1), (2, .int p2), (3, .int p3)] := hl
  have hown : s.vm.findClass RX2 = some m.cls := hown
  unfold f_Grid_keyOf at hf
  have hgo : ∀ (H : Heap) (locs : List Loc), H = s.heap → va_P D vwCl ((a_g, .inr (2, [.ref a_g_rowCuts, .ref a_g_columnCuts, .ref a_g_bandRows, .ref a_g_zoneColumns, .ref a_g_rows, .ref a_g_sheets])) :: (a_g_bandRows, .inl (ci 0, 5, .inl g_bandRows)) :: (a_g_zoneColumns, .inl (ci 0, 5, .inl g_zoneColumns)) :: (a_g_rows, .inl (ci 0, 5, .inl g_rows)) :: (a_g_sheets, .inl (ci 0, 5, .inl g_sheets)) :: Rw) H → va_S A s.heap H locs → W p l e ({ frames := 2, cells := 0, slots := 0, locals := 49 } : Room) s m ([.ref a_g, .int p1, .int p2, .int p3] : List Value).toArray below meth c H locs 0 0 Q (F0 m 0 ls []) := by
    intro H locs hH hP hS
    subst hH
    refine lv_aload_n (pc := 0) hx hb dX2_keyOf_0 rfl (lv_at hl 0 rfl) ?_
    refine lv_iload_n (pc := 1) hx hb dX2_keyOf_1 rfl (lv_at hl 1 rfl) ?_
    refine lv_iload_n (pc := 2) hx hb dX2_keyOf_2 rfl (lv_at hl 2 rfl) ?_
    obtain ⟨v1, hm3, hf⟩ := q_b1_e hf
    refine q_cVr (pc := 3) (As := [.int p1, .int p2]) (rest := []) (v0 := (some (.int v1))) ⟨hx, hb, hml, hown, hts⟩ hK hA hZ hP hD hS hl.1 [0, 1, 3] 5 rfl ⟨rfl, rfl, rfl⟩ (c_Grid_rowOfLat l D ci A sa N (Rw) a_g a_g_rowCuts a_g_columnCuts a_g_bandRows a_g_zoneColumns a_g_rows a_g_sheets g_bandRows g_rows p1 p2 v1 hm3) 0 rfl rfl (cwV 2 hts gX2_keyOf_X2_rowOfLat rfl rfl rfl (by decide +kernel) ⟨Nat.le_of_ble_eq_true rfl, Nat.le_of_ble_eq_true rfl⟩) rfl rfl (Nat.le_of_ble_eq_true rfl) dX2_keyOf_3 ⟨Nat.zero_le _, Nat.zero_le _⟩ (fun locs hS => ?_)
    refine lv_istore (pc := 6) (lv' := [(4, .int v1), (0, .ref a_g), (1, .int p1), (2, .int p2), (3, .int p3)]) hx hb dX2_keyOf_6 hl (by decide) rfl (fun ls hl => ?_)
    refine lv_aload_n (pc := 8) hx hb dX2_keyOf_8 rfl (lv_at hl 1 rfl) ?_
    refine lv_iload_n (pc := 9) hx hb dX2_keyOf_9 rfl (lv_at hl 2 rfl) ?_
    refine lv_iload (pc := 10) hx hb dX2_keyOf_10 (lv_at hl 0 rfl) ?_
    obtain ⟨v2, hm12, hf⟩ := q_b1_e hf
    refine q_cVr (pc := 12) (As := [.int p1, .int v1]) (rest := []) (v0 := (some (.int v2))) ⟨hx, hb, hml, hown, hts⟩ hK hA hZ hP hD hS hl.1 [0, 1, 2, 3, 4] 5 rfl ⟨rfl, rfl, rfl⟩ (c_Grid_rowStart l D ci A sa N (Rw) a_g a_g_rowCuts a_g_columnCuts a_g_bandRows a_g_zoneColumns a_g_rows a_g_sheets g_bandRows g_zoneColumns g_rows g_sheets p1 v1 v2 hm12) 0 rfl rfl (cwV 2 hts gX2_keyOf_X2_rowStart rfl rfl rfl (by decide +kernel) ⟨Nat.le_of_ble_eq_true rfl, Nat.le_of_ble_eq_true rfl⟩) rfl rfl (Nat.le_of_ble_eq_true rfl) dX2_keyOf_12 ⟨Nat.zero_le _, Nat.zero_le _⟩ (fun locs hS => ?_)
    refine lv_aload_n (pc := 15) hx hb dX2_keyOf_15 rfl (lv_at hl 1 rfl) ?_
    refine lv_iload_n (pc := 16) hx hb dX2_keyOf_16 rfl (lv_at hl 2 rfl) ?_
    refine lv_iload (pc := 17) hx hb dX2_keyOf_17 (lv_at hl 0 rfl) ?_
    refine lv_iload_n (pc := 19) hx hb dX2_keyOf_19 rfl (lv_at hl 4 rfl) ?_
    obtain ⟨v3, hm20, hf⟩ := q_b1_e hf
    refine q_cVr (pc := 20) (As := [.int p1, .int v1, .int p3]) (rest := [.int v2]) (v0 := (some (.int v3))) ⟨hx, hb, hml, hown, hts⟩ hK hA hZ hP hD hS hl.1 [0, 1, 2, 3] 5 rfl ⟨rfl, rfl, rfl⟩ (c_Grid_placeOfLon l D ci A sa N (Rw) a_g a_g_rowCuts a_g_columnCuts a_g_bandRows a_g_zoneColumns a_g_rows a_g_sheets g_bandRows g_zoneColumns g_rows p1 v1 p3 v3 hm20) 0 rfl rfl (cwV 3 hts gX2_keyOf_X2_placeOfLon rfl rfl rfl (by decide +kernel) ⟨Nat.le_of_ble_eq_true rfl, Nat.le_of_ble_eq_true rfl⟩) rfl rfl (Nat.le_of_ble_eq_true rfl) dX2_keyOf_20 ⟨Nat.zero_le _, Nat.zero_le _⟩ (fun locs hS => ?_)
    refine lv_iadd (pc := 23) hx hb dX2_keyOf_23 ?_
    obtain rfl := Option.some.inj hf
    rw [hQ]
    exact q_iretr (pc := 24) hx hb hr hlocks rfl hS dX2_keyOf_24
  exact hgo _ _ rfl hP hS
/-! X2_setCuts -/
set_option maxRecDepth 100000 in
set_option maxHeartbeats 4000000 in
theorem c_Grid_setCuts (l : Launch) (D : va_G) (ci : Nat → ClassId) (A : Nat → Prop) (sa : Nat → Nat) (N : Nat) (Rw : va_W) (a_g : Nat) (a_g_rowCuts : Nat) (a_g_columnCuts : Nat) (a_g_bandRows : Nat) (a_g_zoneColumns : Nat) (a_g_rows : Nat) (a_g_sheets : Nat) (g_rowCuts : Nat → Int32) (g_columnCuts : Nat → Int32) (g_bandRows : Nat → Int32) (g_zoneColumns : Nat → Int32) (g_rows : Nat → Int32) (g_sheets : Nat → Int32) (p1 : Int32) (p2 : Int32) (p3 : Int32) (o1 : Nat → Int32) (o2 : Nat → Int32) (o3 : Nat → Int32) (o4 : Nat → Int32) (o5 : Nat → Int32) (o6 : Nat → Int32) (hf : f_Grid_setCuts N g_rowCuts g_columnCuts g_bandRows g_zoneColumns g_rows g_sheets p1 p2 p3 = some (o1, o2, o3, o4, o5, o6)) : Met l yX2_setCuts wsX2_setCuts ({ frames := 1, cells := 0, slots := 0, locals := 23 }) (va_Pc [.ref a_g, .int p1, .int p2, .int p3] (q_N D ci A sa ((a_g, .inr (2, [.ref a_g_rowCuts, .ref a_g_columnCuts, .ref a_g_bandRows, .ref a_g_zoneColumns, .ref a_g_rows, .ref a_g_sheets])) :: (a_g_rowCuts, .inl (ci 0, 5, .inl g_rowCuts)) :: (a_g_columnCuts, .inl (ci 0, 5, .inl g_columnCuts)) :: (a_g_bandRows, .inl (ci 0, 5, .inl g_bandRows)) :: (a_g_zoneColumns, .inl (ci 0, 5, .inl g_zoneColumns)) :: (a_g_rows, .inl (ci 0, 5, .inl g_rows)) :: (a_g_sheets, .inl (ci 0, 5, .inl g_sheets)) :: Rw))) (q_Q none (q_O D A ((a_g, .inr (2, [.ref a_g_rowCuts, .ref a_g_columnCuts, .ref a_g_bandRows, .ref a_g_zoneColumns, .ref a_g_rows, .ref a_g_sheets])) :: (a_g_rowCuts, .inl (ci 0, 5, .inl o1)) :: (a_g_columnCuts, .inl (ci 0, 5, .inl o2)) :: (a_g_bandRows, .inl (ci 0, 5, .inl o3)) :: (a_g_zoneColumns, .inl (ci 0, 5, .inl o4)) :: (a_g_rows, .inl (ci 0, 5, .inl o5)) :: (a_g_sheets, .inl (ci 0, 5, .inl o6)) :: Rw)) A) 0 0 A := by
  refine q_ofW (cc := cX2_setCuts) (maxL := 4) (ret := none) [.ref a_g, .int p1, .int p2, .int p3] (plainFor_of_name (by decide)) rfl (Nat.le_of_ble_eq_true rfl) ?_
  intro p e s m below meth c ls Q hQ hx hb hml hr hts hown hlocks hK hA hZ hP hD hS hl
  have hl : lv_has ls 4 [(0, .ref a_g), (1, .int p1), (2, .int p2), (3, .int p3)] := hl
  have hown : s.vm.findClass RX2 = some m.cls := hown
  have hinX2 : ∀ w ∈ wsX20, w ∈ wsX2_setCuts := fun _ h => List.mem_cons_of_mem _ (inWX20 _ h)
  have w_1 := hts (Cond.fieldLink RX2 9 "SheetNames$Grid" "rowCuts" "[I") (List.mem_cons_of_mem _ t_w784)
  have w_2 := hts (Cond.fieldLink RX2 15 "SheetNames$Grid" "columnCuts" "[I") (List.mem_cons_of_mem _ t_w785)
  unfold f_Grid_setCuts at hf
  have hgo : ∀ (H : Heap) (locs : List Loc), H = s.heap → va_P D vwCl ((a_g, .inr (2, [.ref a_g_rowCuts, .ref a_g_columnCuts, .ref a_g_bandRows, .ref a_g_zoneColumns, .ref a_g_rows, .ref a_g_sheets])) :: (a_g_rowCuts, .inl (ci 0, 5, .inl g_rowCuts)) :: (a_g_columnCuts, .inl (ci 0, 5, .inl g_columnCuts)) :: (a_g_bandRows, .inl (ci 0, 5, .inl g_bandRows)) :: (a_g_zoneColumns, .inl (ci 0, 5, .inl g_zoneColumns)) :: (a_g_rows, .inl (ci 0, 5, .inl g_rows)) :: (a_g_sheets, .inl (ci 0, 5, .inl g_sheets)) :: Rw) H → va_S A s.heap H locs → W p l e ({ frames := 1, cells := 0, slots := 0, locals := 23 } : Room) s m ([.ref a_g, .int p1, .int p2, .int p3] : List Value).toArray below meth c H locs 0 0 Q (F0 m 0 ls []) := by
    intro H locs hH hP hS
    refine lv_aload_n (pc := 0) hx hb dX2_setCuts_0 rfl (lv_at hl 0 rfl) ?_
    refine va_get (pc := 1) (D := D) (ci := 2) (v := .ref a_g_rowCuts) (C := RX2) (T := TX2) (N := 6) hx hb hts hinX2 hown hK hP 0 rfl rfl 0 (by decide) w_1 (fun _ h9 => h9) rfl dX2_setCuts_1 ?_
    refine lv_iload_n (pc := 4) hx hb dX2_setCuts_4 rfl (lv_at hl 1 rfl) ?_
    refine lv_iload_n (pc := 5) hx hb dX2_setCuts_5 rfl (lv_at hl 2 rfl) ?_
    refine q_iast (pc := 6) hx hb hK hP hD hS 1 0 hf rfl rfl dX2_setCuts_6 (fun f1 H locs hf hP hD hS => ?_)
    obtain ⟨hP, hD⟩ : va_PD D A ((a_g, .inr (2, [.ref a_g_rowCuts, .ref a_g_columnCuts, .ref a_g_bandRows, .ref a_g_zoneColumns, .ref a_g_rows, .ref a_g_sheets])) :: (a_g_rowCuts, .inl (ci 0, 5, .inl f1)) :: (a_g_columnCuts, .inl (ci 0, 5, .inl g_columnCuts)) :: (a_g_bandRows, .inl (ci 0, 5, .inl g_bandRows)) :: (a_g_zoneColumns, .inl (ci 0, 5, .inl g_zoneColumns)) :: (a_g_rows, .inl (ci 0, 5, .inl g_rows)) :: (a_g_sheets, .inl (ci 0, 5, .inl g_sheets)) :: Rw) H := ⟨hP, hD⟩
    refine lv_aload_n (pc := 7) hx hb dX2_setCuts_7 rfl (lv_at hl 0 rfl) ?_
    refine va_get (pc := 8) (D := D) (ci := 2) (v := .ref a_g_columnCuts) (C := RX2) (T := TX2) (N := 6) hx hb hts hinX2 hown hK hP 0 rfl rfl 1 (by decide) w_2 (fun _ h9 => h9) rfl dX2_setCuts_8 ?_
    refine lv_iload_n (pc := 11) hx hb dX2_setCuts_11 rfl (lv_at hl 1 rfl) ?_
    refine lv_iload_n (pc := 12) hx hb dX2_setCuts_12 rfl (lv_at hl 3 rfl) ?_
    refine q_iast (pc := 13) hx hb hK hP hD hS 2 0 hf rfl rfl dX2_setCuts_13 (fun f2 H locs hf hP hD hS => ?_)
    obtain ⟨hP, hD⟩ : va_PD D A ((a_g, .inr (2, [.ref a_g_rowCuts, .ref a_g_columnCuts, .ref a_g_bandRows, .ref a_g_zoneColumns, .ref a_g_rows, .ref a_g_sheets])) :: (a_g_rowCuts, .inl (ci 0, 5, .inl f1)) :: (a_g_columnCuts, .inl (ci 0, 5, .inl f2)) :: (a_g_bandRows, .inl (ci 0, 5, .inl g_bandRows)) :: (a_g_zoneColumns, .inl (ci 0, 5, .inl g_zoneColumns)) :: (a_g_rows, .inl (ci 0, 5, .inl g_rows)) :: (a_g_sheets, .inl (ci 0, 5, .inl g_sheets)) :: Rw) H := ⟨hP, hD⟩
    refine lv_aload_n (pc := 14) hx hb dX2_setCuts_14 rfl (lv_at hl 0 rfl) ?_
    obtain ⟨f3, f4, f5, f6, hm15, hf⟩ := q_b4_e hf
    refine q_cV (pc := 15) (As := []) (rest := []) (v0 := none) ⟨hx, hb, hml, hown, hts⟩ hK hA hZ hP hD hS hl.1 [0, 1, 2, 3, 4, 5, 6] 7 rfl ⟨rfl, rfl, rfl⟩ (c_Grid_multiply l D ci A sa N (Rw) a_g a_g_rowCuts a_g_columnCuts a_g_bandRows a_g_zoneColumns a_g_rows a_g_sheets f1 f2 g_bandRows g_zoneColumns g_rows g_sheets f3 f4 f5 f6 hm15) 0 rfl rfl (cwV 0 hts gX2_setCuts_X2_multiply rfl rfl rfl (by decide +kernel) ⟨Nat.le_of_ble_eq_true rfl, Nat.le_of_ble_eq_true rfl⟩) rfl rfl (Nat.le_of_ble_eq_true rfl) dX2_setCuts_15 ⟨Nat.zero_le _, Nat.zero_le _⟩ [0, 1, 2, 3, 4, 5, 6] 7 rfl ⟨rfl, rfl, rfl⟩ (fun H locs hP hD hS => ?_)
    obtain ⟨hP, hD⟩ : va_PD D A ((a_g, .inr (2, [.ref a_g_rowCuts, .ref a_g_columnCuts, .ref a_g_bandRows, .ref a_g_zoneColumns, .ref a_g_rows, .ref a_g_sheets])) :: (a_g_rowCuts, .inl (ci 0, 5, .inl f1)) :: (a_g_columnCuts, .inl (ci 0, 5, .inl f2)) :: (a_g_bandRows, .inl (ci 0, 5, .inl f3)) :: (a_g_zoneColumns, .inl (ci 0, 5, .inl f4)) :: (a_g_rows, .inl (ci 0, 5, .inl f5)) :: (a_g_sheets, .inl (ci 0, 5, .inl f6)) :: Rw) H := ⟨hP, hD⟩
    obtain ⟨e90, e91, e92, e93, e94, e95⟩ := q_inj6 (Option.some.inj hf)
    rw [hQ, ← e90, ← e91, ← e92, ← e93, ← e94, ← e95]
    exact q_vret (pc := 18) hx hb hr hlocks hP hD hS dX2_setCuts_18
  exact hgo _ _ rfl hP hS
/-! X2_storedLevel -/
set_option maxRecDepth 100000 in
set_option maxHeartbeats 4000000 in
theorem c_Grid_storedLevel (l : Launch) (D : va_G) (ci : Nat → ClassId) (A : Nat → Prop) (sa : Nat → Nat) (N : Nat) (Rw : va_W) (a_g : Nat) (a_g_rowCuts : Nat) (a_g_columnCuts : Nat) (a_g_bandRows : Nat) (a_g_zoneColumns : Nat) (a_g_rows : Nat) (a_g_sheets : Nat) (g_sheets : Nat → Int32) (p1 : Int32) (p2 : Int32) (r : Int32) (hf : f_Grid_storedLevel g_sheets p1 p2 = some r) : Met l yX2_storedLevel wsX2_storedLevel ({ frames := 0, cells := 0, slots := 0, locals := 0 }) (va_Pc [.ref a_g, .int p1, .int p2] (q_N D ci A sa ((a_g, .inr (2, [.ref a_g_rowCuts, .ref a_g_columnCuts, .ref a_g_bandRows, .ref a_g_zoneColumns, .ref a_g_rows, .ref a_g_sheets])) :: (a_g_sheets, .inl (ci 0, 5, .inl g_sheets)) :: Rw))) (q_R (some (.int r))) 0 0 A := by
  refine q_ofW (cc := cX2_storedLevel) (maxL := 3) (ret := (some .int)) [.ref a_g, .int p1, .int p2] (plainFor_of_name (by decide)) rfl (Nat.le_of_ble_eq_true rfl) ?_
  intro p e s m below meth c ls Q hQ hx hb hml hr hts hown hlocks hK hA hZ hP hD hS hl
  have hl : lv_has ls 3 [(0, .ref a_g), (1, .int p1), (2, .int p2)] := hl
  have hown : s.vm.findClass RX2 = some m.cls := hown
  have hinX2 : ∀ w ∈ wsX20, w ∈ wsX2_storedLevel := fun _ h => List.mem_cons_of_mem _ (inWX20 _ h)
  have w_1 := hts (Cond.fieldLink RX2 27 "SheetNames$Grid" "sheets" "[I") (List.mem_cons_of_mem _ t_w788)
  unfold f_Grid_storedLevel at hf
  have hgo : ∀ (H : Heap) (locs : List Loc), H = s.heap → va_P D vwCl ((a_g, .inr (2, [.ref a_g_rowCuts, .ref a_g_columnCuts, .ref a_g_bandRows, .ref a_g_zoneColumns, .ref a_g_rows, .ref a_g_sheets])) :: (a_g_sheets, .inl (ci 0, 5, .inl g_sheets)) :: Rw) H → va_S A s.heap H locs → W p l e ({ frames := 0, cells := 0, slots := 0, locals := 0 } : Room) s m ([.ref a_g, .int p1, .int p2] : List Value).toArray below meth c H locs 0 0 Q (F0 m 0 ls []) := by
    intro H locs hH hP hS
    subst hH
    refine lv_iload_n (pc := 0) hx hb dX2_storedLevel_0 rfl (lv_at hl 2 rfl) ?_
    obtain ⟨k16, ek16, hf⟩ := q_j0_e hf
    have J16 : ∀  (H : Heap) (locs : List Loc) (ls : Array Slot), k16 = some r → H = s.heap → va_S A s.heap H locs → lv_has ls 3 [] → W p l e ({ frames := 0, cells := 0, slots := 0, locals := 0 } : Room) s m ([.ref a_g, .int p1, .int p2] : List Value).toArray below meth c H locs 0 0 Q (F0 m 16 ls []) := by
      intro  H locs ls hf hHs hS hl
      subst hHs
      have hf := (ek16).symm.trans hf
      refine lv_iconst (pc := 16) (v := 0) hx hb dX2_storedLevel_16 (by decide) ?_
      refine lv_goto (pc := 17) (tgt := 21) hx hb dX2_storedLevel_17 (by decide) ?_
      obtain rfl := Option.some.inj hf
      rw [hQ]
      exact q_iretr (pc := 21) hx hb hr hlocks rfl hS dX2_storedLevel_21
    refine q_if_eq (pc := 1) (tgt := 16) hx hb dX2_storedLevel_1 (by decide) rfl hf (fun hf => ?_) (fun hf => ?_)
    · exact J16  _ _ _ hf rfl hS (lv_sub hl [] rfl)
    · refine lv_iload_n (pc := 4) hx hb dX2_storedLevel_4 rfl (lv_at hl 2 rfl) ?_
      refine lv_aload_n (pc := 5) hx hb dX2_storedLevel_5 rfl (lv_at hl 0 rfl) ?_
      refine va_get (pc := 6) (D := D) (ci := 2) (v := .ref a_g_sheets) (C := RX2) (T := TX2) (N := 6) hx hb hts hinX2 hown hK hP 0 rfl rfl 5 (by decide) w_1 (fun _ h9 => h9) rfl dX2_storedLevel_6 ?_
      refine lv_iload_n (pc := 9) hx hb dX2_storedLevel_9 rfl (lv_at hl 1 rfl) ?_
      refine q_iald (pc := 10) hx hb hK hP 1 0 hf rfl rfl dX2_storedLevel_10 (fun v1 hf => ?_)
      refine lv_iconst (pc := 11) (v := 1) hx hb dX2_storedLevel_11 (by decide) ?_
      refine lv_isub (pc := 12) hx hb dX2_storedLevel_12 ?_
      refine q_icmp_ne (pc := 13) (tgt := 20) hx hb dX2_storedLevel_13 (by decide) rfl hf (fun hf => ?_) (fun hf => ?_)
      · refine lv_iload_n (pc := 20) hx hb dX2_storedLevel_20 rfl (lv_at hl 1 rfl) ?_
        obtain rfl := Option.some.inj hf
        rw [hQ]
        exact q_iretr (pc := 21) hx hb hr hlocks rfl hS dX2_storedLevel_21
      · exact J16  _ _ _ hf rfl hS (lv_sub hl [] rfl)
  exact hgo _ _ rfl hP hS
