/-! X3_fail -/
set_option maxRecDepth 100000 in
set_option maxHeartbeats 4000000 in
theorem c_NameReader_fail (l : Launch) (D : va_G) (ci : Nat → ClassId) (A : Nat → Prop) (sa : Nat → Nat) (N : Nat) (Rw : va_W) (a_rd : Nat) (a_g : Nat) (a_tp : Nat) (rd_next : Int32) (rd_end : Int32) (rd_level : Int32) (rd_key : Int32) (rd_fault : Int32) (rd_faultPlace : Int32) (rd_endedSoon : Int32) (p1 : Int32) (p2 : Int32) (r : Int32) (o1 : Int32) (o2 : Int32) (o3 : Int32) (hf : f_NameReader_fail rd_fault rd_faultPlace rd_endedSoon p1 p2 = some (r, o1, o2, o3)) : Met l yX3_fail wsX3_fail ({ frames := 0, cells := 0, slots := 0, locals := 0 }) (va_Pc [.ref a_rd, .int p1, .int p2] (q_N D ci A sa ((a_rd, .inr (3, [.ref a_g, .ref a_tp, .int rd_next, .int rd_end, .int rd_level, .int rd_key, .int rd_fault, .int rd_faultPlace, .int rd_endedSoon])) :: Rw))) (q_Q (some (.int r)) (q_O D A ((a_rd, .inr (3, [.ref a_g, .ref a_tp, .int rd_next, .int rd_end, .int rd_level, .int rd_key, .int o1, .int o2, .int o3])) :: Rw)) A) 0 0 A := by
  refine q_ofW (cc := cX3_fail) (maxL := 3) (ret := (some .boolean)) [.ref a_rd, .int p1, .int p2] (plainFor_of_name (by decide)) rfl (Nat.le_of_ble_eq_true rfl) ?_
  intro p e s m below meth c ls Q hQ hx hb hml hr hts hown hlocks hK hA hZ hP hD hS hl
  have hl : lv_has ls 3 [(0, .ref a_rd), (1, .int p1), (2, .int p2)] := hl
  have hown : s.vm.findClass RX3 = some m.cls := hown
  have hinX3 : ∀ w ∈ wsX30, w ∈ wsX3_fail := fun _ h => List.mem_cons_of_mem _ (inWX30 _ h)
  have w_1 := hts (Cond.fieldLink RX3 24 "SheetNames$NameReader" "fault" "I") (List.mem_cons_of_mem _ t_w843)
  have w_2 := hts (Cond.fieldLink RX3 27 "SheetNames$NameReader" "faultPlace" "I") (List.mem_cons_of_mem _ t_w844)
  have w_3 := hts (Cond.fieldLink RX3 30 "SheetNames$NameReader" "endedSoon" "Z") (List.mem_cons_of_mem _ t_w845)
  unfold f_NameReader_fail at hf
  have hgo : ∀ (H : Heap) (locs : List Loc), H = s.heap → va_P D vwCl ((a_rd, .inr (3, [.ref a_g, .ref a_tp, .int rd_next, .int rd_end, .int rd_level, .int rd_key, .int rd_fault, .int rd_faultPlace, .int rd_endedSoon])) :: Rw) H → va_S A s.heap H locs → W p l e ({ frames := 0, cells := 0, slots := 0, locals := 0 } : Room) s m ([.ref a_rd, .int p1, .int p2] : List Value).toArray below meth c H locs 0 0 Q (F0 m 0 ls []) := by
    intro H locs hH hP hS
    refine lv_aload_n (pc := 0) hx hb dX3_fail_0 rfl (lv_at hl 0 rfl) ?_
    refine lv_iload_n (pc := 1) hx hb dX3_fail_1 rfl (lv_at hl 1 rfl) ?_
    refine va_put (pc := 2) (D := D) (ci := 3) (v := .int p1) (ty := .int) (C := RX3) (T := TX3) (N := 9) hx hb hts hinX3 tyX3 tyX3_ok nmX3 hown hK hP hD hS 0 rfl rfl 6 (by decide) w_1 (fun _ h9 => h9) rfl (by decide +kernel) rfl rfl (Nat.le_of_ble_eq_true rfl) dX3_fail_2 (fun H locs hP hD hS => ?_)
    obtain ⟨hP, hD⟩ : va_PD D A ((a_rd, .inr (3, [.ref a_g, .ref a_tp, .int rd_next, .int rd_end, .int rd_level, .int rd_key, .int p1, .int rd_faultPlace, .int rd_endedSoon])) :: Rw) H := ⟨hP, hD⟩
    refine lv_aload_n (pc := 5) hx hb dX3_fail_5 rfl (lv_at hl 0 rfl) ?_
    refine lv_iload_n (pc := 6) hx hb dX3_fail_6 rfl (lv_at hl 2 rfl) ?_
    refine va_put (pc := 7) (D := D) (ci := 3) (v := .int p2) (ty := .int) (C := RX3) (T := TX3) (N := 9) hx hb hts hinX3 tyX3 tyX3_ok nmX3 hown hK hP hD hS 0 rfl rfl 7 (by decide) w_2 (fun _ h9 => h9) rfl (by decide +kernel) rfl rfl (Nat.le_of_ble_eq_true rfl) dX3_fail_7 (fun H locs hP hD hS => ?_)
    obtain ⟨hP, hD⟩ : va_PD D A ((a_rd, .inr (3, [.ref a_g, .ref a_tp, .int rd_next, .int rd_end, .int rd_level, .int rd_key, .int p1, .int p2, .int rd_endedSoon])) :: Rw) H := ⟨hP, hD⟩
    refine lv_aload_n (pc := 10) hx hb dX3_fail_10 rfl (lv_at hl 0 rfl) ?_
    refine lv_iconst (pc := 11) (v := 0) hx hb dX3_fail_11 (by decide) ?_
    refine va_put (pc := 12) (D := D) (ci := 3) (v := .int 0) (ty := .boolean) (C := RX3) (T := TX3) (N := 9) hx hb hts hinX3 tyX3 tyX3_ok nmX3 hown hK hP hD hS 0 rfl rfl 8 (by decide) w_3 (fun _ h9 => h9) rfl (by decide +kernel) rfl rfl (Nat.le_of_ble_eq_true rfl) dX3_fail_12 (fun H locs hP hD hS => ?_)
    obtain ⟨hP, hD⟩ : va_PD D A ((a_rd, .inr (3, [.ref a_g, .ref a_tp, .int rd_next, .int rd_end, .int rd_level, .int rd_key, .int p1, .int p2, .int 0])) :: Rw) H := ⟨hP, hD⟩
    refine lv_iconst (pc := 15) (v := 0) hx hb dX3_fail_15 (by decide) ?_
    obtain ⟨e90, e91, e92, e93⟩ := q_inj4 (Option.some.inj hf)
    rw [hQ, ← e90, ← e91, ← e92, ← e93]
    exact q_zret (pc := 16) hx hb hr rfl hlocks hP hD hS dX3_fail_16
  exact hgo _ _ rfl hP hS
/-! X3_failHere -/
set_option maxRecDepth 100000 in
set_option maxHeartbeats 4000000 in
theorem c_NameReader_failHere (l : Launch) (D : va_G) (ci : Nat → ClassId) (A : Nat → Prop) (sa : Nat → Nat) (N : Nat) (Rw : va_W) (a_rd : Nat) (a_g : Nat) (a_tp : Nat) (rd_next : Int32) (rd_end : Int32) (rd_level : Int32) (rd_key : Int32) (rd_fault : Int32) (rd_faultPlace : Int32) (rd_endedSoon : Int32) (r : Int32) (o1 : Int32) (o2 : Int32) (o3 : Int32) (hf : f_NameReader_failHere rd_next rd_end rd_fault rd_faultPlace rd_endedSoon = some (r, o1, o2, o3)) : Met l yX3_failHere wsX3_failHere ({ frames := 0, cells := 0, slots := 0, locals := 0 }) (va_Pc [.ref a_rd] (q_N D ci A sa ((a_rd, .inr (3, [.ref a_g, .ref a_tp, .int rd_next, .int rd_end, .int rd_level, .int rd_key, .int rd_fault, .int rd_faultPlace, .int rd_endedSoon])) :: Rw))) (q_Q (some (.int r)) (q_O D A ((a_rd, .inr (3, [.ref a_g, .ref a_tp, .int rd_next, .int rd_end, .int rd_level, .int rd_key, .int o1, .int o2, .int o3])) :: Rw)) A) 0 0 A := by
  refine q_ofW (cc := cX3_failHere) (maxL := 1) (ret := (some .boolean)) [.ref a_rd] (plainFor_of_name (by decide)) rfl (Nat.le_of_ble_eq_true rfl) ?_
  intro p e s m below meth c ls Q hQ hx hb hml hr hts hown hlocks hK hA hZ hP hD hS hl
  have hl : lv_has ls 1 [(0, .ref a_rd)] := hl
  have hown : s.vm.findClass RX3 = some m.cls := hown
  have hinX3 : ∀ w ∈ wsX30, w ∈ wsX3_failHere := fun _ h => List.mem_cons_of_mem _ (inWX30 _ h)
  have w_1 := hts (Cond.fieldLink RX3 24 "SheetNames$NameReader" "fault" "I") (List.mem_cons_of_mem _ t_w843)
  have w_2 := hts (Cond.fieldLink RX3 9 "SheetNames$NameReader" "next" "I") (List.mem_cons_of_mem _ t_w846)
  have w_3 := hts (Cond.fieldLink RX3 27 "SheetNames$NameReader" "faultPlace" "I") (List.mem_cons_of_mem _ t_w844)
  have w_4 := hts (Cond.fieldLink RX3 15 "SheetNames$NameReader" "end" "I") (List.mem_cons_of_mem _ t_w847)
  have w_5 := hts (Cond.fieldLink RX3 30 "SheetNames$NameReader" "endedSoon" "Z") (List.mem_cons_of_mem _ t_w845)
  unfold f_NameReader_failHere at hf
  have hgo : ∀ (H : Heap) (locs : List Loc), H = s.heap → va_P D vwCl ((a_rd, .inr (3, [.ref a_g, .ref a_tp, .int rd_next, .int rd_end, .int rd_level, .int rd_key, .int rd_fault, .int rd_faultPlace, .int rd_endedSoon])) :: Rw) H → va_S A s.heap H locs → W p l e ({ frames := 0, cells := 0, slots := 0, locals := 0 } : Room) s m ([.ref a_rd] : List Value).toArray below meth c H locs 0 0 Q (F0 m 0 ls []) := by
    intro H locs hH hP hS
    refine lv_aload_n (pc := 0) hx hb dX3_failHere_0 rfl (lv_at hl 0 rfl) ?_
    refine lv_iconst (pc := 1) (v := 1) hx hb dX3_failHere_1 (by decide) ?_
    refine va_put (pc := 2) (D := D) (ci := 3) (v := .int 1) (ty := .int) (C := RX3) (T := TX3) (N := 9) hx hb hts hinX3 tyX3 tyX3_ok nmX3 hown hK hP hD hS 0 rfl rfl 6 (by decide) w_1 (fun _ h9 => h9) rfl (by decide +kernel) rfl rfl (Nat.le_of_ble_eq_true rfl) dX3_failHere_2 (fun H locs hP hD hS => ?_)
    obtain ⟨hP, hD⟩ : va_PD D A ((a_rd, .inr (3, [.ref a_g, .ref a_tp, .int rd_next, .int rd_end, .int rd_level, .int rd_key, .int 1, .int rd_faultPlace, .int rd_endedSoon])) :: Rw) H := ⟨hP, hD⟩
    refine lv_aload_n (pc := 5) hx hb dX3_failHere_5 rfl (lv_at hl 0 rfl) ?_
    refine lv_aload_n (pc := 6) hx hb dX3_failHere_6 rfl (lv_at hl 0 rfl) ?_
    refine va_get (pc := 7) (D := D) (ci := 3) (v := .int rd_next) (C := RX3) (T := TX3) (N := 9) hx hb hts hinX3 hown hK hP 0 rfl rfl 2 (by decide) w_2 (fun _ h9 => h9) rfl dX3_failHere_7 ?_
    refine va_put (pc := 10) (D := D) (ci := 3) (v := .int rd_next) (ty := .int) (C := RX3) (T := TX3) (N := 9) hx hb hts hinX3 tyX3 tyX3_ok nmX3 hown hK hP hD hS 0 rfl rfl 7 (by decide) w_3 (fun _ h9 => h9) rfl (by decide +kernel) rfl rfl (Nat.le_of_ble_eq_true rfl) dX3_failHere_10 (fun H locs hP hD hS => ?_)
    obtain ⟨hP, hD⟩ : va_PD D A ((a_rd, .inr (3, [.ref a_g, .ref a_tp, .int rd_next, .int rd_end, .int rd_level, .int rd_key, .int 1, .int rd_next, .int rd_endedSoon])) :: Rw) H := ⟨hP, hD⟩
    refine lv_aload_n (pc := 13) hx hb dX3_failHere_13 rfl (lv_at hl 0 rfl) ?_
    refine lv_aload_n (pc := 14) hx hb dX3_failHere_14 rfl (lv_at hl 0 rfl) ?_
    refine va_get (pc := 15) (D := D) (ci := 3) (v := .int rd_next) (C := RX3) (T := TX3) (N := 9) hx hb hts hinX3 hown hK hP 0 rfl rfl 2 (by decide) w_2 (fun _ h9 => h9) rfl dX3_failHere_15 ?_
    refine lv_aload_n (pc := 18) hx hb dX3_failHere_18 rfl (lv_at hl 0 rfl) ?_
    refine va_get (pc := 19) (D := D) (ci := 3) (v := .int rd_end) (C := RX3) (T := TX3) (N := 9) hx hb hts hinX3 hown hK hP 0 rfl rfl 3 (by decide) w_4 (fun _ h9 => h9) rfl dX3_failHere_19 ?_
    obtain ⟨k30, ek30, hf⟩ := q_j1_e hf
    have J30 : ∀ (v1 : Int32) (H : Heap) (locs : List Loc) (ls : Array Slot), k30 v1 = some (r, o1, o2, o3) → va_P D vwCl ((a_rd, .inr (3, [.ref a_g, .ref a_tp, .int rd_next, .int rd_end, .int rd_level, .int rd_key, .int 1, .int rd_next, .int rd_endedSoon])) :: Rw) H → va_D A ((a_rd, .inr (3, [.ref a_g, .ref a_tp, .int rd_next, .int rd_end, .int rd_level, .int rd_key, .int 1, .int rd_next, .int rd_endedSoon])) :: Rw) → va_S A s.heap H locs → lv_has ls 1 [] → W p l e ({ frames := 0, cells := 0, slots := 0, locals := 0 } : Room) s m ([.ref a_rd] : List Value).toArray below meth c H locs 0 0 Q (F0 m 30 ls [.int v1, .ref a_rd]) := by
      intro v1 H locs ls hf hP hD hS hl
      have hf := (ek30 v1).symm.trans hf
      obtain ⟨hn9, hf9, hf⟩ := q_bo_e hf
      refine va_put (pc := 30) (D := D) (ci := 3) (v := .int v1) (ty := .boolean) (C := RX3) (T := TX3) (N := 9) hx hb hts hinX3 tyX3 tyX3_ok nmX3 hown hK hP hD hS 0 rfl rfl 8 (by decide) w_5 (fun _ h9 => h9) rfl (by decide +kernel) hn9 hf9 (Nat.le_of_ble_eq_true rfl) dX3_failHere_30 (fun H locs hP hD hS => ?_)
      obtain ⟨hP, hD⟩ : va_PD D A ((a_rd, .inr (3, [.ref a_g, .ref a_tp, .int rd_next, .int rd_end, .int rd_level, .int rd_key, .int 1, .int rd_next, .int v1])) :: Rw) H := ⟨hP, hD⟩
      refine lv_iconst (pc := 33) (v := 0) hx hb dX3_failHere_33 (by decide) ?_
      obtain ⟨e90, e91, e92, e93⟩ := q_inj4 (Option.some.inj hf)
      rw [hQ, ← e90, ← e91, ← e92, ← e93]
      exact q_zret (pc := 34) hx hb hr rfl hlocks hP hD hS dX3_failHere_34
    refine q_icmp_lt (pc := 22) (tgt := 29) hx hb dX3_failHere_22 (by decide) rfl hf (fun hf => ?_) (fun hf => ?_)
    · refine lv_iconst (pc := 29) (v := 0) hx hb dX3_failHere_29 (by decide) ?_
      exact J30 0 _ _ _ hf hP hD hS (lv_sub hl [] rfl)
    · refine lv_iconst (pc := 25) (v := 1) hx hb dX3_failHere_25 (by decide) ?_
      refine lv_goto (pc := 26) (tgt := 30) hx hb dX3_failHere_26 (by decide) ?_
      exact J30 1 _ _ _ hf hP hD hS (lv_sub hl [] rfl)
  exact hgo _ _ rfl hP hS
/-! X3_failWithoutBlank -/
set_option maxRecDepth 100000 in
set_option maxHeartbeats 4000000 in
theorem c_NameReader_failWithoutBlank (l : Launch) (D : va_G) (ci : Nat → ClassId) (A : Nat → Prop) (sa : Nat → Nat) (N : Nat) (Rw : va_W) (a_rd : Nat) (a_g : Nat) (a_tp : Nat) (rd_next : Int32) (rd_end : Int32) (rd_level : Int32) (rd_key : Int32) (rd_fault : Int32) (rd_faultPlace : Int32) (rd_endedSoon : Int32) (p1 : Int32) (r : Int32) (o1 : Int32) (o2 : Int32) (o3 : Int32) (hf : f_NameReader_failWithoutBlank rd_fault rd_faultPlace rd_endedSoon p1 = some (r, o1, o2, o3)) : Met l yX3_failWithoutBlank wsX3_failWithoutBlank ({ frames := 1, cells := 0, slots := 0, locals := 22 }) (va_Pc [.ref a_rd, .int p1] (q_N D ci A sa ((a_rd, .inr (3, [.ref a_g, .ref a_tp, .int rd_next, .int rd_end, .int rd_level, .int rd_key, .int rd_fault, .int rd_faultPlace, .int rd_endedSoon])) :: Rw))) (q_Q (some (.int r)) (q_O D A ((a_rd, .inr (3, [.ref a_g, .ref a_tp, .int rd_next, .int rd_end, .int rd_level, .int rd_key, .int o1, .int o2, .int o3])) :: Rw)) A) 0 0 A := by
  refine q_ofW (cc := cX3_failWithoutBlank) (maxL := 2) (ret := (some .boolean)) [.ref a_rd, .int p1] (plainFor_of_name (by decide)) rfl (Nat.le_of_ble_eq_true rfl) ?_
  intro p e s m below meth c ls Q hQ hx hb hml hr hts hown hlocks hK hA hZ hP hD hS hl
  have hl : lv_has ls 2 [(0, .ref a_rd), (1, .int p1)] := hl
  have hown : s.vm.findClass RX3 = some m.cls := hown
  have hinX3 : ∀ w ∈ wsX30, w ∈ wsX3_failWithoutBlank := fun _ h => List.mem_cons_of_mem _ (inWX30 _ h)
  have w_1 := hts (Cond.fieldLink RX3 30 "SheetNames$NameReader" "endedSoon" "Z") (List.mem_cons_of_mem _ t_w845)
  unfold f_NameReader_failWithoutBlank at hf
  have hgo : ∀ (H : Heap) (locs : List Loc), H = s.heap → va_P D vwCl ((a_rd, .inr (3, [.ref a_g, .ref a_tp, .int rd_next, .int rd_end, .int rd_level, .int rd_key, .int rd_fault, .int rd_faultPlace, .int rd_endedSoon])) :: Rw) H → va_S A s.heap H locs → W p l e ({ frames := 1, cells := 0, slots := 0, locals := 22 } : Room) s m ([.ref a_rd, .int p1] : List Value).toArray below meth c H locs 0 0 Q (F0 m 0 ls []) := by
    intro H locs hH hP hS
    refine lv_aload_n (pc := 0) hx hb dX3_failWithoutBlank_0 rfl (lv_at hl 0 rfl) ?_
    refine lv_iconst (pc := 1) (v := 1) hx hb dX3_failWithoutBlank_1 (by decide) ?_
    refine lv_iload_n (pc := 2) hx hb dX3_failWithoutBlank_2 rfl (lv_at hl 1 rfl) ?_
    obtain ⟨v1, v2, v3, v4, hm3, hf⟩ := q_b4_e hf
    refine q_cV (pc := 3) (As := [.int 1, .int p1]) (rest := []) (v0 := (some (.int v1))) ⟨hx, hb, hml, hown, hts⟩ hK hA hZ hP hD hS hl.1 [0] 1 rfl ⟨rfl, rfl, rfl⟩ (c_NameReader_fail l D ci A sa N (Rw) a_rd a_g a_tp rd_next rd_end rd_level rd_key rd_fault rd_faultPlace rd_endedSoon 1 p1 v1 v2 v3 v4 hm3) 0 rfl rfl (cwV 2 hts gX3_failWithoutBlank_X3_fail rfl rfl rfl (by decide +kernel) ⟨Nat.le_of_ble_eq_true rfl, Nat.le_of_ble_eq_true rfl⟩) rfl rfl (Nat.le_of_ble_eq_true rfl) dX3_failWithoutBlank_3 ⟨Nat.zero_le _, Nat.zero_le _⟩ [0] 1 rfl ⟨rfl, rfl, rfl⟩ (fun H locs hP hD hS => ?_)
    obtain ⟨hP, hD⟩ : va_PD D A ((a_rd, .inr (3, [.ref a_g, .ref a_tp, .int rd_next, .int rd_end, .int rd_level, .int rd_key, .int v2, .int v3, .int v4])) :: Rw) H := ⟨hP, hD⟩
    refine lv_pop (pc := 6) hx hb dX3_failWithoutBlank_6 rfl ?_
    refine lv_aload_n (pc := 7) hx hb dX3_failWithoutBlank_7 rfl (lv_at hl 0 rfl) ?_
    refine lv_iconst (pc := 8) (v := 1) hx hb dX3_failWithoutBlank_8 (by decide) ?_
    refine va_put (pc := 9) (D := D) (ci := 3) (v := .int 1) (ty := .boolean) (C := RX3) (T := TX3) (N := 9) hx hb hts hinX3 tyX3 tyX3_ok nmX3 hown hK hP hD hS 0 rfl rfl 8 (by decide) w_1 (fun _ h9 => h9) rfl (by decide +kernel) rfl rfl (Nat.le_of_ble_eq_true rfl) dX3_failWithoutBlank_9 (fun H locs hP hD hS => ?_)
    obtain ⟨hP, hD⟩ : va_PD D A ((a_rd, .inr (3, [.ref a_g, .ref a_tp, .int rd_next, .int rd_end, .int rd_level, .int rd_key, .int v2, .int v3, .int 1])) :: Rw) H := ⟨hP, hD⟩
    refine lv_iconst (pc := 12) (v := 0) hx hb dX3_failWithoutBlank_12 (by decide) ?_
    obtain ⟨e90, e91, e92, e93⟩ := q_inj4 (Option.some.inj hf)
    rw [hQ, ← e90, ← e91, ← e92, ← e93]
    exact q_zret (pc := 13) hx hb hr rfl hlocks hP hD hS dX3_failWithoutBlank_13
  exact hgo _ _ rfl hP hS
/-! X3_here -/
set_option maxRecDepth 100000 in
set_option maxHeartbeats 4000000 in
theorem c_NameReader_here (l : Launch) (D : va_G) (ci : Nat → ClassId) (A : Nat → Prop) (sa : Nat → Nat) (N : Nat) (Rw : va_W) (a_rd : Nat) (a_g : Nat) (a_tp : Nat) (a_tp_bytes : Nat) (rd_next : Int32) (rd_end : Int32) (rd_level : Int32) (rd_key : Int32) (rd_fault : Int32) (rd_faultPlace : Int32) (rd_endedSoon : Int32) (tp_length : Int32) (tp_bytes : Nat → Int32) (r : Int32) (hf : f_NameReader_here rd_next rd_end tp_bytes tp_length = some r) : Met l yX3_here wsX3_here ({ frames := 0, cells := 0, slots := 0, locals := 0 }) (va_Pc [.ref a_rd] (q_N D ci A sa ((a_rd, .inr (3, [.ref a_g, .ref a_tp, .int rd_next, .int rd_end, .int rd_level, .int rd_key, .int rd_fault, .int rd_faultPlace, .int rd_endedSoon])) :: (a_tp, .inr (8, [.ref a_tp_bytes, .int tp_length])) :: (a_tp_bytes, .inl (ci 0, 200, .inl tp_bytes)) :: Rw))) (q_R (some (.int r))) 0 0 A := by
  refine q_ofW (cc := cX3_here) (maxL := 1) (ret := (some .int)) [.ref a_rd] (plainFor_of_name (by decide)) rfl (Nat.le_of_ble_eq_true rfl) ?_
  intro p e s m below meth c ls Q hQ hx hb hml hr hts hown hlocks hK hA hZ hP hD hS hl
  have hl : lv_has ls 1 [(0, .ref a_rd)] := hl
  have hown : s.vm.findClass RX3 = some m.cls := hown
  have hinX3 : ∀ w ∈ wsX30, w ∈ wsX3_here := fun _ h => List.mem_cons_of_mem _ (inWX30 _ h)
  have hinX8 : ∀ w ∈ wsX80, w ∈ wsX3_here := fun _ h => List.mem_cons_of_mem _ (inWX80 _ h)
  have w_1 := hts (Cond.fieldLink RX3 9 "SheetNames$NameReader" "next" "I") (List.mem_cons_of_mem _ t_w846)
  have w_2 := hts (Cond.fieldLink RX3 15 "SheetNames$NameReader" "end" "I") (List.mem_cons_of_mem _ t_w847)
  have w_3 := hts (Cond.fieldLink RX3 38 "SheetNames$NameReader" "tape" "LSheetNames$Tape;") (List.mem_cons_of_mem _ t_w848)
  have wn_48 : (Cond.fieldLinkNest "SheetNames$NameReader" 88 "SheetNames$Tape" "length" "I" "SheetNames").before ([.ref a_rd] : List Value).toArray s = true := (hZ.2.2.2.2.2.2.2.2.2.1 _ (List.mem_of_getElem? (i := 48) rfl)).use rfl
  have wn_49 : (Cond.fieldLinkNest "SheetNames$NameReader" 93 "SheetNames$Tape" "bytes" "[I" "SheetNames").before ([.ref a_rd] : List Value).toArray s = true := (hZ.2.2.2.2.2.2.2.2.2.1 _ (List.mem_of_getElem? (i := 49) rfl)).use rfl
  unfold f_NameReader_here at hf
  have hgo : ∀ (H : Heap) (locs : List Loc), H = s.heap → va_P D vwCl ((a_rd, .inr (3, [.ref a_g, .ref a_tp, .int rd_next, .int rd_end, .int rd_level, .int rd_key, .int rd_fault, .int rd_faultPlace, .int rd_endedSoon])) :: (a_tp, .inr (8, [.ref a_tp_bytes, .int tp_length])) :: (a_tp_bytes, .inl (ci 0, 200, .inl tp_bytes)) :: Rw) H → va_S A s.heap H locs → W p l e ({ frames := 0, cells := 0, slots := 0, locals := 0 } : Room) s m ([.ref a_rd] : List Value).toArray below meth c H locs 0 0 Q (F0 m 0 ls []) := by
    intro H locs hH hP hS
    subst hH
    refine lv_aload_n (pc := 0) hx hb dX3_here_0 rfl (lv_at hl 0 rfl) ?_
    refine va_get (pc := 1) (D := D) (ci := 3) (v := .int rd_next) (C := RX3) (T := TX3) (N := 9) hx hb hts hinX3 hown hK hP 0 rfl rfl 2 (by decide) w_1 (fun _ h9 => h9) rfl dX3_here_1 ?_
    refine q_if_lt (pc := 4) (tgt := 47) hx hb dX3_here_4 (by decide) rfl hf (fun hf => ?_) (fun hf => ?_)
    · refine lv_iconst (pc := 47) (v := (-1)) hx hb dX3_here_47 (by decide) ?_
      obtain rfl := Option.some.inj hf
      rw [hQ]
      exact q_iretr (pc := 48) hx hb hr hlocks rfl hS dX3_here_48
    · refine lv_aload_n (pc := 7) hx hb dX3_here_7 rfl (lv_at hl 0 rfl) ?_
      refine va_get (pc := 8) (D := D) (ci := 3) (v := .int rd_next) (C := RX3) (T := TX3) (N := 9) hx hb hts hinX3 hown hK hP 0 rfl rfl 2 (by decide) w_1 (fun _ h9 => h9) rfl dX3_here_8 ?_
      refine lv_aload_n (pc := 11) hx hb dX3_here_11 rfl (lv_at hl 0 rfl) ?_
      refine va_get (pc := 12) (D := D) (ci := 3) (v := .int rd_end) (C := RX3) (T := TX3) (N := 9) hx hb hts hinX3 hown hK hP 0 rfl rfl 3 (by decide) w_2 (fun _ h9 => h9) rfl dX3_here_12 ?_
      refine q_icmp_ge (pc := 15) (tgt := 47) hx hb dX3_here_15 (by decide) rfl hf (fun hf => ?_) (fun hf => ?_)
      · refine lv_iconst (pc := 47) (v := (-1)) hx hb dX3_here_47 (by decide) ?_
        obtain rfl := Option.some.inj hf
        rw [hQ]
        exact q_iretr (pc := 48) hx hb hr hlocks rfl hS dX3_here_48
      · refine lv_aload_n (pc := 18) hx hb dX3_here_18 rfl (lv_at hl 0 rfl) ?_
        refine va_get (pc := 19) (D := D) (ci := 3) (v := .int rd_next) (C := RX3) (T := TX3) (N := 9) hx hb hts hinX3 hown hK hP 0 rfl rfl 2 (by decide) w_1 (fun _ h9 => h9) rfl dX3_here_19 ?_
        refine lv_aload_n (pc := 22) hx hb dX3_here_22 rfl (lv_at hl 0 rfl) ?_
        refine va_get (pc := 23) (D := D) (ci := 3) (v := .ref a_tp) (C := RX3) (T := TX3) (N := 9) hx hb hts hinX3 hown hK hP 0 rfl rfl 1 (by decide) w_3 (fun _ h9 => h9) rfl dX3_here_23 ?_
        refine va_getN (pc := 26) (D := D) (ci := 8) (v := .int tp_length) (C := RX8) (T := TX8) (N := 2) hx hb hts hinX8 hown hK hP 1 rfl rfl 1 (by decide) wn_48 (fun _ h9 => h9) rfl dX3_here_26 ?_
        refine q_icmp_ge (pc := 29) (tgt := 47) hx hb dX3_here_29 (by decide) rfl hf (fun hf => ?_) (fun hf => ?_)
        · refine lv_iconst (pc := 47) (v := (-1)) hx hb dX3_here_47 (by decide) ?_
          obtain rfl := Option.some.inj hf
          rw [hQ]
          exact q_iretr (pc := 48) hx hb hr hlocks rfl hS dX3_here_48
        · refine lv_aload_n (pc := 32) hx hb dX3_here_32 rfl (lv_at hl 0 rfl) ?_
          refine va_get (pc := 33) (D := D) (ci := 3) (v := .ref a_tp) (C := RX3) (T := TX3) (N := 9) hx hb hts hinX3 hown hK hP 0 rfl rfl 1 (by decide) w_3 (fun _ h9 => h9) rfl dX3_here_33 ?_
          refine va_getN (pc := 36) (D := D) (ci := 8) (v := .ref a_tp_bytes) (C := RX8) (T := TX8) (N := 2) hx hb hts hinX8 hown hK hP 1 rfl rfl 0 (by decide) wn_49 (fun _ h9 => h9) rfl dX3_here_36 ?_
          refine lv_aload_n (pc := 39) hx hb dX3_here_39 rfl (lv_at hl 0 rfl) ?_
          refine va_get (pc := 40) (D := D) (ci := 3) (v := .int rd_next) (C := RX3) (T := TX3) (N := 9) hx hb hts hinX3 hown hK hP 0 rfl rfl 2 (by decide) w_1 (fun _ h9 => h9) rfl dX3_here_40 ?_
          refine q_iald (pc := 43) hx hb hK hP 2 0 hf rfl rfl dX3_here_43 (fun v1 hf => ?_)
          refine lv_goto (pc := 44) (tgt := 48) hx hb dX3_here_44 (by decide) ?_
          obtain rfl := Option.some.inj hf
          rw [hQ]
          exact q_iretr (pc := 48) hx hb hr hlocks rfl hS dX3_here_48
  exact hgo _ _ rfl hP hS
/-! X3_isDigit -/
set_option maxRecDepth 100000 in
set_option maxHeartbeats 4000000 in
theorem c_NameReader_isDigit (l : Launch) (D : va_G) (ci : Nat → ClassId) (A : Nat → Prop) (sa : Nat → Nat) (N : Nat) (Rw : va_W) (p1 : Int32) (r : Int32) (hf : f_NameReader_isDigit p1 = some r) : Met l yX3_isDigit wsX3_isDigit ({ frames := 0, cells := 0, slots := 0, locals := 0 }) (va_Pc [.int p1] (q_N D ci A sa (Rw))) (q_R (some (.int r))) 0 0 A := by
  refine q_ofW (cc := cX3_isDigit) (maxL := 1) (ret := (some .boolean)) [.int p1] (plainFor_of_name (by decide)) rfl (Nat.le_of_ble_eq_true rfl) ?_
  intro p e s m below meth c ls Q hQ hx hb hml hr hts hown hlocks hK hA hZ hP hD hS hl
  have hl : lv_has ls 1 [(0, .int p1)] := hl
  have hown : s.vm.findClass RX3 = some m.cls := hown
  unfold f_NameReader_isDigit at hf
  have hgo : ∀ (H : Heap) (locs : List Loc), H = s.heap → va_P D vwCl (Rw) H → va_S A s.heap H locs → W p l e ({ frames := 0, cells := 0, slots := 0, locals := 0 } : Room) s m ([.int p1] : List Value).toArray below meth c H locs 0 0 Q (F0 m 0 ls []) := by
    intro H locs hH hP hS
    subst hH
    refine lv_iload_n (pc := 0) hx hb dX3_isDigit_0 rfl (lv_at hl 0 rfl) ?_
    refine lv_bipush (pc := 1) (v := 48) hx hb dX3_isDigit_1 (by decide) ?_
    refine q_icmp_lt (pc := 3) (tgt := 16) hx hb dX3_isDigit_3 (by decide) rfl hf (fun hf => ?_) (fun hf => ?_)
    · refine lv_iconst (pc := 16) (v := 0) hx hb dX3_isDigit_16 (by decide) ?_
      obtain rfl := Option.some.inj hf
      rw [hQ]
      exact q_zretr (pc := 17) hx hb hr rfl hlocks rfl hS dX3_isDigit_17
    · refine lv_iload_n (pc := 6) hx hb dX3_isDigit_6 rfl (lv_at hl 0 rfl) ?_
      refine lv_bipush (pc := 7) (v := 57) hx hb dX3_isDigit_7 (by decide) ?_
      refine q_icmp_gt (pc := 9) (tgt := 16) hx hb dX3_isDigit_9 (by decide) rfl hf (fun hf => ?_) (fun hf => ?_)
      · refine lv_iconst (pc := 16) (v := 0) hx hb dX3_isDigit_16 (by decide) ?_
        obtain rfl := Option.some.inj hf
        rw [hQ]
        exact q_zretr (pc := 17) hx hb hr rfl hlocks rfl hS dX3_isDigit_17
      · refine lv_iconst (pc := 12) (v := 1) hx hb dX3_isDigit_12 (by decide) ?_
        refine lv_goto (pc := 13) (tgt := 17) hx hb dX3_isDigit_13 (by decide) ?_
        obtain rfl := Option.some.inj hf
        rw [hQ]
        exact q_zretr (pc := 17) hx hb hr rfl hlocks rfl hS dX3_isDigit_17
  exact hgo _ _ rfl hP hS
/-! X3_readNumber -/
set_option maxRecDepth 100000 in
set_option maxHeartbeats 4000000 in
theorem c_NameReader_readNumber (l : Launch) (D : va_G) (ci : Nat → ClassId) (A : Nat → Prop) (sa : Nat → Nat) (N : Nat) (Rw : va_W) (a_rd : Nat) (a_g : Nat) (a_tp : Nat) (a_tp_bytes : Nat) (rd_next : Int32) (rd_end : Int32) (rd_level : Int32) (rd_key : Int32) (rd_fault : Int32) (rd_faultPlace : Int32) (rd_endedSoon : Int32) (tp_length : Int32) (tp_bytes : Nat → Int32) (p1 : Int32) (r : Int32) (o1 : Int32) (o2 : Int32) (o3 : Int32) (o4 : Int32) (hf : f_NameReader_readNumber N rd_next rd_end rd_fault rd_faultPlace rd_endedSoon tp_bytes tp_length p1 = some (r, o1, o2, o3, o4)) : Met l yX3_readNumber wsX3_readNumber ({ frames := 1, cells := 0, slots := 0, locals := 22 }) (va_Pc [.ref a_rd, .int p1] (q_N D ci A sa ((a_rd, .inr (3, [.ref a_g, .ref a_tp, .int rd_next, .int rd_end, .int rd_level, .int rd_key, .int rd_fault, .int rd_faultPlace, .int rd_endedSoon])) :: (a_tp, .inr (8, [.ref a_tp_bytes, .int tp_length])) :: (a_tp_bytes, .inl (ci 0, 200, .inl tp_bytes)) :: Rw))) (q_Q (some (.int r)) (q_O D A ((a_rd, .inr (3, [.ref a_g, .ref a_tp, .int o1, .int rd_end, .int rd_level, .int rd_key, .int o2, .int o3, .int o4])) :: (a_tp, .inr (8, [.ref a_tp_bytes, .int tp_length])) :: (a_tp_bytes, .inl (ci 0, 200, .inl tp_bytes)) :: Rw)) A) 0 0 A := by
  refine q_ofW (cc := cX3_readNumber) (maxL := 4) (ret := (some .int)) [.ref a_rd, .int p1] (plainFor_of_name (by decide)) rfl (Nat.le_of_ble_eq_true rfl) ?_
  intro p e s m below meth c ls Q hQ hx hb hml hr hts hown hlocks hK hA hZ hP hD hS hl
  have hl : lv_has ls 4 [(0, .ref a_rd), (1, .int p1)] := hl
  have hown : s.vm.findClass RX3 = some m.cls := hown
  have hinX3 : ∀ w ∈ wsX30, w ∈ wsX3_readNumber := fun _ h => List.mem_cons_of_mem _ (inWX30 _ h)
  have w_1 := hts (Cond.fieldLink RX3 9 "SheetNames$NameReader" "next" "I") (List.mem_cons_of_mem _ t_w846)
  unfold f_NameReader_readNumber at hf
  have hgo : ∀ (H : Heap) (locs : List Loc), H = s.heap → va_P D vwCl ((a_rd, .inr (3, [.ref a_g, .ref a_tp, .int rd_next, .int rd_end, .int rd_level, .int rd_key, .int rd_fault, .int rd_faultPlace, .int rd_endedSoon])) :: (a_tp, .inr (8, [.ref a_tp_bytes, .int tp_length])) :: (a_tp_bytes, .inl (ci 0, 200, .inl tp_bytes)) :: Rw) H → va_S A s.heap H locs → W p l e ({ frames := 1, cells := 0, slots := 0, locals := 22 } : Room) s m ([.ref a_rd, .int p1] : List Value).toArray below meth c H locs 0 0 Q (F0 m 0 ls []) := by
    intro H locs hH hP hS
    refine lv_aload_n (pc := 0) hx hb dX3_readNumber_0 rfl (lv_at hl 0 rfl) ?_
    refine va_get (pc := 1) (D := D) (ci := 3) (v := .int rd_next) (C := RX3) (T := TX3) (N := 9) hx hb hts hinX3 hown hK hP 0 rfl rfl 2 (by decide) w_1 (fun _ h9 => h9) rfl dX3_readNumber_1 ?_
    refine lv_istore_n (pc := 4) (lv' := [(2, .int rd_next), (0, .ref a_rd), (1, .int p1)]) hx hb dX3_readNumber_4 rfl hl (by decide) rfl (fun ls hl => ?_)
    refine lv_iconst (pc := 5) (v := 0) hx hb dX3_readNumber_5 (by decide) ?_
    obtain ⟨v1, ev1, hf⟩ := q_nm_e hf
    refine q_topi ev1 ?_
    refine lv_istore_n (pc := 6) (lv' := [(3, .int v1), (2, .int rd_next), (0, .ref a_rd), (1, .int p1)]) hx hb dX3_readNumber_6 rfl hl (by decide) rfl (fun ls hl => ?_)
    obtain ⟨v4, v5, hm7, hf⟩ := q_b2_e hf
    have JE7 : ∀ (H : Heap) (locs : List Loc) (ls : Array Slot), va_P D vwCl ((a_rd, .inr (3, [.ref a_g, .ref a_tp, .int v5, .int rd_end, .int rd_level, .int rd_key, .int rd_fault, .int rd_faultPlace, .int rd_endedSoon])) :: (a_tp, .inr (8, [.ref a_tp_bytes, .int tp_length])) :: (a_tp_bytes, .inl (ci 0, 200, .inl tp_bytes)) :: Rw) H → va_D A ((a_rd, .inr (3, [.ref a_g, .ref a_tp, .int v5, .int rd_end, .int rd_level, .int rd_key, .int rd_fault, .int rd_faultPlace, .int rd_endedSoon])) :: (a_tp, .inr (8, [.ref a_tp_bytes, .int tp_length])) :: (a_tp_bytes, .inl (ci 0, 200, .inl tp_bytes)) :: Rw) → va_S A s.heap H locs → lv_has ls 4 [(0, .ref a_rd), (1, .int p1), (2, .int rd_next), (3, .int v4)] → W p l e ({ frames := 1, cells := 0, slots := 0, locals := 22 } : Room) s m ([.ref a_rd, .int p1] : List Value).toArray below meth c H locs 0 0 Q (F0 m 53 ls []) := by
      intro H locs ls hP hD hS hl
      refine lv_aload_n (pc := 53) hx hb dX3_readNumber_53 rfl (lv_at hl 0 rfl) ?_
      refine va_get (pc := 54) (D := D) (ci := 3) (v := .int v5) (C := RX3) (T := TX3) (N := 9) hx hb hts hinX3 hown hK hP 0 rfl rfl 2 (by decide) w_1 (fun _ h9 => h9) rfl dX3_readNumber_54 ?_
      refine lv_iload_n (pc := 57) hx hb dX3_readNumber_57 rfl (lv_at hl 2 rfl) ?_
      obtain ⟨k71, ek71, hf⟩ := q_j0_e hf
      have J71 : ∀  (H : Heap) (locs : List Loc) (ls : Array Slot), k71 = some (r, o1, o2, o3, o4) → va_P D vwCl ((a_rd, .inr (3, [.ref a_g, .ref a_tp, .int v5, .int rd_end, .int rd_level, .int rd_key, .int rd_fault, .int rd_faultPlace, .int rd_endedSoon])) :: (a_tp, .inr (8, [.ref a_tp_bytes, .int tp_length])) :: (a_tp_bytes, .inl (ci 0, 200, .inl tp_bytes)) :: Rw) H → va_D A ((a_rd, .inr (3, [.ref a_g, .ref a_tp, .int v5, .int rd_end, .int rd_level, .int rd_key, .int rd_fault, .int rd_faultPlace, .int rd_endedSoon])) :: (a_tp, .inr (8, [.ref a_tp_bytes, .int tp_length])) :: (a_tp_bytes, .inl (ci 0, 200, .inl tp_bytes)) :: Rw) → va_S A s.heap H locs → lv_has ls 4 [(0, .ref a_rd)] → W p l e ({ frames := 1, cells := 0, slots := 0, locals := 22 } : Room) s m ([.ref a_rd, .int p1] : List Value).toArray below meth c H locs 0 0 Q (F0 m 71 ls []) := by
        intro  H locs ls hf hP hD hS hl
        have hf := (ek71).symm.trans hf
        refine lv_aload_n (pc := 71) hx hb dX3_readNumber_71 rfl (lv_at hl 0 rfl) ?_
        obtain ⟨v6, v7, v8, v9, hm72, hf⟩ := q_b4_e hf
        refine q_cV (pc := 72) (As := []) (rest := []) (v0 := (some (.int v6))) ⟨hx, hb, hml, hown, hts⟩ hK hA hZ hP hD hS hl.1 [0, 1, 2] 3 rfl ⟨rfl, rfl, rfl⟩ (c_NameReader_failHere l D ci A sa N ((a_tp, .inr (8, [.ref a_tp_bytes, .int tp_length])) :: (a_tp_bytes, .inl (ci 0, 200, .inl tp_bytes)) :: Rw) a_rd a_g a_tp v5 rd_end rd_level rd_key rd_fault rd_faultPlace rd_endedSoon v6 v7 v8 v9 hm72) 0 rfl rfl (cwV 0 hts gX3_readNumber_X3_failHere rfl rfl rfl (by decide +kernel) ⟨Nat.le_of_ble_eq_true rfl, Nat.le_of_ble_eq_true rfl⟩) rfl rfl (Nat.le_of_ble_eq_true rfl) dX3_readNumber_72 ⟨Nat.zero_le _, Nat.zero_le _⟩ [0, 1, 2] 3 rfl ⟨rfl, rfl, rfl⟩ (fun H locs hP hD hS => ?_)
        obtain ⟨hP, hD⟩ : va_PD D A ((a_rd, .inr (3, [.ref a_g, .ref a_tp, .int v5, .int rd_end, .int rd_level, .int rd_key, .int v7, .int v8, .int v9])) :: (a_tp, .inr (8, [.ref a_tp_bytes, .int tp_length])) :: (a_tp_bytes, .inl (ci 0, 200, .inl tp_bytes)) :: Rw) H := ⟨hP, hD⟩
        refine lv_pop (pc := 75) hx hb dX3_readNumber_75 rfl ?_
        refine lv_iconst (pc := 76) (v := 1) hx hb dX3_readNumber_76 (by decide) ?_
        obtain ⟨e90, e91, e92, e93, e94⟩ := q_inj5 (Option.some.inj hf)
        rw [hQ, ← e90, ← e91, ← e92, ← e93, ← e94]
        exact q_iret (pc := 77) hx hb hr hlocks hP hD hS dX3_readNumber_77
      refine q_icmp_eq (pc := 58) (tgt := 71) hx hb dX3_readNumber_58 (by decide) rfl hf (fun hf => ?_) (fun hf => ?_)
      · exact J71  _ _ _ hf hP hD hS (lv_sub hl [0] rfl)
      · refine lv_aload_n (pc := 61) hx hb dX3_readNumber_61 rfl (lv_at hl 0 rfl) ?_
        obtain ⟨v10, hm62, hf⟩ := q_b1_e hf
        refine q_cVr (pc := 62) (As := []) (rest := []) (v0 := (some (.int v10))) ⟨hx, hb, hml, hown, hts⟩ hK hA hZ hP hD hS hl.1 [0, 1, 2] 3 rfl ⟨rfl, rfl, rfl⟩ (c_NameReader_here l D ci A sa N (Rw) a_rd a_g a_tp a_tp_bytes v5 rd_end rd_level rd_key rd_fault rd_faultPlace rd_endedSoon tp_length tp_bytes v10 hm62) 0 rfl rfl (cwV 0 hts gX3_readNumber_X3_here rfl rfl rfl (by decide +kernel) ⟨Nat.le_of_ble_eq_true rfl, Nat.le_of_ble_eq_true rfl⟩) rfl rfl (Nat.le_of_ble_eq_true rfl) dX3_readNumber_62 ⟨Nat.zero_le _, Nat.zero_le _⟩ (fun locs hS => ?_)
        obtain ⟨v11, hm65, hf⟩ := q_b1_e hf
        refine q_cSr (pc := 65) (As := [.int v10]) (rest := []) (v0 := (some (.int v11))) ⟨hx, hb, hml, hown, hts⟩ hK hA hZ hP hD hS hl.1 [] 3 rfl ⟨rfl, rfl, rfl⟩ (c_NameReader_isDigit l D ci A sa N (Rw) v10 v11 hm65) (va_cwS 1 hts gX3_readNumber_X3_isDigit rfl rfl rfl (by decide +kernel) ⟨Nat.le_of_ble_eq_true rfl, Nat.le_of_ble_eq_true rfl⟩) rfl rfl (Nat.le_of_ble_eq_true rfl) dX3_readNumber_65 ⟨Nat.zero_le _, Nat.zero_le _⟩ (fun locs hS => ?_)
        refine q_if_eq (pc := 68) (tgt := 78) hx hb dX3_readNumber_68 (by decide) rfl hf (fun hf => ?_) (fun hf => ?_)
        · refine lv_iload_n (pc := 78) hx hb dX3_readNumber_78 rfl (lv_at hl 3 rfl) ?_
          refine lv_iconst (pc := 79) (v := 1) hx hb dX3_readNumber_79 (by decide) ?_
          obtain ⟨k88, ek88, hf⟩ := q_j0_e hf
          have J88 : ∀  (H : Heap) (locs : List Loc) (ls : Array Slot), k88 = some (r, o1, o2, o3, o4) → va_P D vwCl ((a_rd, .inr (3, [.ref a_g, .ref a_tp, .int v5, .int rd_end, .int rd_level, .int rd_key, .int rd_fault, .int rd_faultPlace, .int rd_endedSoon])) :: (a_tp, .inr (8, [.ref a_tp_bytes, .int tp_length])) :: (a_tp_bytes, .inl (ci 0, 200, .inl tp_bytes)) :: Rw) H → va_D A ((a_rd, .inr (3, [.ref a_g, .ref a_tp, .int v5, .int rd_end, .int rd_level, .int rd_key, .int rd_fault, .int rd_faultPlace, .int rd_endedSoon])) :: (a_tp, .inr (8, [.ref a_tp_bytes, .int tp_length])) :: (a_tp_bytes, .inl (ci 0, 200, .inl tp_bytes)) :: Rw) → va_S A s.heap H locs → lv_has ls 4 [(0, .ref a_rd), (2, .int rd_next)] → W p l e ({ frames := 1, cells := 0, slots := 0, locals := 22 } : Room) s m ([.ref a_rd, .int p1] : List Value).toArray below meth c H locs 0 0 Q (F0 m 88 ls []) := by
            intro  H locs ls hf hP hD hS hl
            have hf := (ek88).symm.trans hf
            refine lv_aload_n (pc := 88) hx hb dX3_readNumber_88 rfl (lv_at hl 0 rfl) ?_
            refine lv_iconst (pc := 89) (v := 2) hx hb dX3_readNumber_89 (by decide) ?_
            refine lv_iload_n (pc := 90) hx hb dX3_readNumber_90 rfl (lv_at hl 1 rfl) ?_
            obtain ⟨v12, v13, v14, v15, hm91, hf⟩ := q_b4_e hf
            refine q_cV (pc := 91) (As := [.int 2, .int rd_next]) (rest := []) (v0 := (some (.int v12))) ⟨hx, hb, hml, hown, hts⟩ hK hA hZ hP hD hS hl.1 [0, 1, 2] 3 rfl ⟨rfl, rfl, rfl⟩ (c_NameReader_fail l D ci A sa N ((a_tp, .inr (8, [.ref a_tp_bytes, .int tp_length])) :: (a_tp_bytes, .inl (ci 0, 200, .inl tp_bytes)) :: Rw) a_rd a_g a_tp v5 rd_end rd_level rd_key rd_fault rd_faultPlace rd_endedSoon 2 rd_next v12 v13 v14 v15 hm91) 0 rfl rfl (cwV 2 hts gX3_readNumber_X3_fail rfl rfl rfl (by decide +kernel) ⟨Nat.le_of_ble_eq_true rfl, Nat.le_of_ble_eq_true rfl⟩) rfl rfl (Nat.le_of_ble_eq_true rfl) dX3_readNumber_91 ⟨Nat.zero_le _, Nat.zero_le _⟩ [0, 1, 2] 3 rfl ⟨rfl, rfl, rfl⟩ (fun H locs hP hD hS => ?_)
            obtain ⟨hP, hD⟩ : va_PD D A ((a_rd, .inr (3, [.ref a_g, .ref a_tp, .int v5, .int rd_end, .int rd_level, .int rd_key, .int v13, .int v14, .int v15])) :: (a_tp, .inr (8, [.ref a_tp_bytes, .int tp_length])) :: (a_tp_bytes, .inl (ci 0, 200, .inl tp_bytes)) :: Rw) H := ⟨hP, hD⟩
            refine lv_pop (pc := 94) hx hb dX3_readNumber_94 rfl ?_
            refine lv_iconst (pc := 95) (v := 1) hx hb dX3_readNumber_95 (by decide) ?_
            obtain ⟨e90, e91, e92, e93, e94⟩ := q_inj5 (Option.some.inj hf)
            rw [hQ, ← e90, ← e91, ← e92, ← e93, ← e94]
            exact q_iret (pc := 96) hx hb hr hlocks hP hD hS dX3_readNumber_96
          refine q_icmp_lt (pc := 80) (tgt := 88) hx hb dX3_readNumber_80 (by decide) rfl hf (fun hf => ?_) (fun hf => ?_)
          · exact J88  _ _ _ hf hP hD hS (lv_sub hl [0, 2] rfl)
          · refine lv_iload_n (pc := 83) hx hb dX3_readNumber_83 rfl (lv_at hl 3 rfl) ?_
            refine lv_iload_n (pc := 84) hx hb dX3_readNumber_84 rfl (lv_at hl 1 rfl) ?_
            refine q_icmp_le (pc := 85) (tgt := 97) hx hb dX3_readNumber_85 (by decide) rfl hf (fun hf => ?_) (fun hf => ?_)
            · refine lv_iload_n (pc := 97) hx hb dX3_readNumber_97 rfl (lv_at hl 3 rfl) ?_
              obtain ⟨e90, e91, e92, e93, e94⟩ := q_inj5 (Option.some.inj hf)
              rw [hQ, ← e90, ← e91, ← e92, ← e93, ← e94]
              exact q_iret (pc := 98) hx hb hr hlocks hP hD hS dX3_readNumber_98
            · exact J88  _ _ _ hf hP hD hS (lv_sub hl [0, 2] rfl)
        · exact J71  _ _ _ hf hP hD hS (lv_sub hl [0] rfl)
    have LP7 : ∀ (n7 : Nat) (v2 : Int32) (v3 : Int32) (H : Heap) (locs : List Loc) (ls : Array Slot), f_NameReader_readNumber_L7 rd_end rd_next tp_bytes tp_length n7 v2 v3 = some (v4, v5) → va_P D vwCl ((a_rd, .inr (3, [.ref a_g, .ref a_tp, .int v3, .int rd_end, .int rd_level, .int rd_key, .int rd_fault, .int rd_faultPlace, .int rd_endedSoon])) :: (a_tp, .inr (8, [.ref a_tp_bytes, .int tp_length])) :: (a_tp_bytes, .inl (ci 0, 200, .inl tp_bytes)) :: Rw) H → va_D A ((a_rd, .inr (3, [.ref a_g, .ref a_tp, .int v3, .int rd_end, .int rd_level, .int rd_key, .int rd_fault, .int rd_faultPlace, .int rd_endedSoon])) :: (a_tp, .inr (8, [.ref a_tp_bytes, .int tp_length])) :: (a_tp_bytes, .inl (ci 0, 200, .inl tp_bytes)) :: Rw) → va_S A s.heap H locs → lv_has ls 4 [(0, .ref a_rd), (1, .int p1), (2, .int rd_next), (3, .int v2)] → W p l e ({ frames := 1, cells := 0, slots := 0, locals := 22 } : Room) s m ([.ref a_rd, .int p1] : List Value).toArray below meth c H locs 0 0 Q (F0 m 7 ls []) := by
      intro n7
      induction n7 with
      | zero => intro v2 v3 H locs ls hf; rw [f_NameReader_readNumber_L7] at hf; cases hf
      | succ n7 ih7 =>
        intro v2 v3 H locs ls hf hP hD hS hl
        rw [f_NameReader_readNumber_L7] at hf
        refine lv_aload_n (pc := 7) hx hb dX3_readNumber_7 rfl (lv_at hl 0 rfl) ?_
        obtain ⟨v16, hm8, hf⟩ := q_b1_e hf
        refine q_cVr (pc := 8) (As := []) (rest := []) (v0 := (some (.int v16))) ⟨hx, hb, hml, hown, hts⟩ hK hA hZ hP hD hS hl.1 [0, 1, 2] 3 rfl ⟨rfl, rfl, rfl⟩ (c_NameReader_here l D ci A sa N (Rw) a_rd a_g a_tp a_tp_bytes v3 rd_end rd_level rd_key rd_fault rd_faultPlace rd_endedSoon tp_length tp_bytes v16 hm8) 0 rfl rfl (cwV 0 hts gX3_readNumber_X3_here rfl rfl rfl (by decide +kernel) ⟨Nat.le_of_ble_eq_true rfl, Nat.le_of_ble_eq_true rfl⟩) rfl rfl (Nat.le_of_ble_eq_true rfl) dX3_readNumber_8 ⟨Nat.zero_le _, Nat.zero_le _⟩ (fun locs hS => ?_)
        obtain ⟨v17, hm11, hf⟩ := q_b1_e hf
        refine q_cSr (pc := 11) (As := [.int v16]) (rest := []) (v0 := (some (.int v17))) ⟨hx, hb, hml, hown, hts⟩ hK hA hZ hP hD hS hl.1 [] 3 rfl ⟨rfl, rfl, rfl⟩ (c_NameReader_isDigit l D ci A sa N (Rw) v16 v17 hm11) (va_cwS 1 hts gX3_readNumber_X3_isDigit rfl rfl rfl (by decide +kernel) ⟨Nat.le_of_ble_eq_true rfl, Nat.le_of_ble_eq_true rfl⟩) rfl rfl (Nat.le_of_ble_eq_true rfl) dX3_readNumber_11 ⟨Nat.zero_le _, Nat.zero_le _⟩ (fun locs hS => ?_)
        refine q_if_eq (pc := 14) (tgt := 53) hx hb dX3_readNumber_14 (by decide) rfl hf (fun hf => ?_) (fun hf => ?_)
        · obtain ⟨rfl, rfl⟩ := q_inj2 (Option.some.inj hf)
          exact JE7 _ _ _ hP hD hS (lv_sub hl [0, 1, 2, 3] rfl)
        · refine lv_aload_n (pc := 17) hx hb dX3_readNumber_17 rfl (lv_at hl 0 rfl) ?_
          refine va_get (pc := 18) (D := D) (ci := 3) (v := .int v3) (C := RX3) (T := TX3) (N := 9) hx hb hts hinX3 hown hK hP 0 rfl rfl 2 (by decide) w_1 (fun _ h9 => h9) rfl dX3_readNumber_18 ?_
          refine lv_iload_n (pc := 21) hx hb dX3_readNumber_21 rfl (lv_at hl 2 rfl) ?_
          refine lv_iconst (pc := 22) (v := 2) hx hb dX3_readNumber_22 (by decide) ?_
          refine lv_iadd (pc := 23) hx hb dX3_readNumber_23 ?_
          refine q_icmp_ge (pc := 24) (tgt := 53) hx hb dX3_readNumber_24 (by decide) rfl hf (fun hf => ?_) (fun hf => ?_)
          · obtain ⟨rfl, rfl⟩ := q_inj2 (Option.some.inj hf)
            exact JE7 _ _ _ hP hD hS (lv_sub hl [0, 1, 2, 3] rfl)
          · refine lv_iload_n (pc := 27) hx hb dX3_readNumber_27 rfl (lv_at hl 3 rfl) ?_
            refine lv_bipush (pc := 28) (v := 10) hx hb dX3_readNumber_28 (by decide) ?_
            refine lv_imul (pc := 30) hx hb dX3_readNumber_30 ?_
            refine lv_aload_n (pc := 31) hx hb dX3_readNumber_31 rfl (lv_at hl 0 rfl) ?_
            obtain ⟨v18, hm32, hf⟩ := q_b1_e hf
            refine q_cVr (pc := 32) (As := []) (rest := [.int (v2 * 10)]) (v0 := (some (.int v18))) ⟨hx, hb, hml, hown, hts⟩ hK hA hZ hP hD hS hl.1 [0, 1, 2] 3 rfl ⟨rfl, rfl, rfl⟩ (c_NameReader_here l D ci A sa N (Rw) a_rd a_g a_tp a_tp_bytes v3 rd_end rd_level rd_key rd_fault rd_faultPlace rd_endedSoon tp_length tp_bytes v18 hm32) 0 rfl rfl (cwV 0 hts gX3_readNumber_X3_here rfl rfl rfl (by decide +kernel) ⟨Nat.le_of_ble_eq_true rfl, Nat.le_of_ble_eq_true rfl⟩) rfl rfl (Nat.le_of_ble_eq_true rfl) dX3_readNumber_32 ⟨Nat.zero_le _, Nat.zero_le _⟩ (fun locs hS => ?_)
            refine lv_iadd (pc := 35) hx hb dX3_readNumber_35 ?_
            refine lv_bipush (pc := 36) (v := 48) hx hb dX3_readNumber_36 (by decide) ?_
            refine lv_isub (pc := 38) hx hb dX3_readNumber_38 ?_
            obtain ⟨v19, ev19, hf⟩ := q_nm_e hf
            refine q_topi ev19 ?_
            refine lv_istore_n (pc := 39) (lv' := [(3, .int v19), (0, .ref a_rd), (1, .int p1), (2, .int rd_next)]) hx hb dX3_readNumber_39 rfl hl (by decide) rfl (fun ls hl => ?_)
            refine lv_aload_n (pc := 40) hx hb dX3_readNumber_40 rfl (lv_at hl 1 rfl) ?_
            refine lv_dup (pc := 41) hx hb dX3_readNumber_41 rfl ?_
            refine va_get (pc := 42) (D := D) (ci := 3) (v := .int v3) (C := RX3) (T := TX3) (N := 9) hx hb hts hinX3 hown hK hP 0 rfl rfl 2 (by decide) w_1 (fun _ h9 => h9) rfl dX3_readNumber_42 ?_
            refine lv_iconst (pc := 45) (v := 1) hx hb dX3_readNumber_45 (by decide) ?_
            refine lv_iadd (pc := 46) hx hb dX3_readNumber_46 ?_
            obtain ⟨v20, ev20, hf⟩ := q_nm_e hf
            refine q_topi ev20 ?_
            refine va_put (pc := 47) (D := D) (ci := 3) (v := .int v20) (ty := .int) (C := RX3) (T := TX3) (N := 9) hx hb hts hinX3 tyX3 tyX3_ok nmX3 hown hK hP hD hS 0 rfl rfl 2 (by decide) w_1 (fun _ h9 => h9) rfl (by decide +kernel) rfl rfl (Nat.le_of_ble_eq_true rfl) dX3_readNumber_47 (fun H locs hP hD hS => ?_)
            obtain ⟨hP, hD⟩ : va_PD D A ((a_rd, .inr (3, [.ref a_g, .ref a_tp, .int v20, .int rd_end, .int rd_level, .int rd_key, .int rd_fault, .int rd_faultPlace, .int rd_endedSoon])) :: (a_tp, .inr (8, [.ref a_tp_bytes, .int tp_length])) :: (a_tp_bytes, .inl (ci 0, 200, .inl tp_bytes)) :: Rw) H := ⟨hP, hD⟩
            refine lv_goto (pc := 50) (tgt := 7) hx hb dX3_readNumber_50 (by decide) ?_
            exact ih7 v19 v20 _ _ _ hf hP hD hS (lv_sub hl [1, 2, 3, 0] rfl)
    exact LP7 N v1 rd_next _ _ _ hm7 hP hD hS (lv_sub hl [2, 3, 1, 0] rfl)
  exact hgo _ _ rfl hP hS
/-! X3_readNumbers -/
set_option maxRecDepth 100000 in
set_option maxHeartbeats 4000000 in
theorem c_NameReader_readNumbers (l : Launch) (D : va_G) (ci : Nat → ClassId) (A : Nat → Prop) (sa : Nat → Nat) (N : Nat) (Rw : va_W) (a_rd : Nat) (a_g : Nat) (a_tp : Nat) (a_tp_bytes : Nat) (a_g_rowCuts : Nat) (a_g_columnCuts : Nat) (a_g_bandRows : Nat) (a_g_zoneColumns : Nat) (a_g_rows : Nat) (a_g_sheets : Nat) (rd_next : Int32) (rd_end : Int32) (rd_level : Int32) (rd_key : Int32) (rd_fault : Int32) (rd_faultPlace : Int32) (rd_endedSoon : Int32) (tp_length : Int32) (tp_bytes : Nat → Int32) (g_rowCuts : Nat → Int32) (g_columnCuts : Nat → Int32) (g_bandRows : Nat → Int32) (g_zoneColumns : Nat → Int32) (g_rows : Nat → Int32) (g_sheets : Nat → Int32) (p1 : Int32) (r : Int32) (o1 : Int32) (o2 : Int32) (o3 : Int32) (o4 : Int32) (o5 : Int32) (o6 : Int32) (hf : f_NameReader_readNumbers N rd_next rd_end rd_level rd_key rd_fault rd_faultPlace rd_endedSoon tp_bytes tp_length g_rowCuts g_columnCuts g_bandRows g_zoneColumns g_rows g_sheets p1 = some (r, o1, o2, o3, o4, o5, o6)) : Met l yX3_readNumbers wsX3_readNumbers ({ frames := 2, cells := 0, slots := 0, locals := 45 }) (va_Pc [.ref a_rd, .int p1] (q_N D ci A sa ((a_rd, .inr (3, [.ref a_g, .ref a_tp, .int rd_next, .int rd_end, .int rd_level, .int rd_key, .int rd_fault, .int rd_faultPlace, .int rd_endedSoon])) :: (a_tp, .inr (8, [.ref a_tp_bytes, .int tp_length])) :: (a_tp_bytes, .inl (ci 0, 200, .inl tp_bytes)) :: (a_g, .inr (2, [.ref a_g_rowCuts, .ref a_g_columnCuts, .ref a_g_bandRows, .ref a_g_zoneColumns, .ref a_g_rows, .ref a_g_sheets])) :: (a_g_rowCuts, .inl (ci 0, 5, .inl g_rowCuts)) :: (a_g_columnCuts, .inl (ci 0, 5, .inl g_columnCuts)) :: (a_g_bandRows, .inl (ci 0, 5, .inl g_bandRows)) :: (a_g_zoneColumns, .inl (ci 0, 5, .inl g_zoneColumns)) :: (a_g_rows, .inl (ci 0, 5, .inl g_rows)) :: (a_g_sheets, .inl (ci 0, 5, .inl g_sheets)) :: Rw))) (q_Q (some (.int r)) (q_O D A ((a_rd, .inr (3, [.ref a_g, .ref a_tp, .int o1, .int rd_end, .int o2, .int o3, .int o4, .int o5, .int o6])) :: (a_tp, .inr (8, [.ref a_tp_bytes, .int tp_length])) :: (a_tp_bytes, .inl (ci 0, 200, .inl tp_bytes)) :: (a_g, .inr (2, [.ref a_g_rowCuts, .ref a_g_columnCuts, .ref a_g_bandRows, .ref a_g_zoneColumns, .ref a_g_rows, .ref a_g_sheets])) :: (a_g_rowCuts, .inl (ci 0, 5, .inl g_rowCuts)) :: (a_g_columnCuts, .inl (ci 0, 5, .inl g_columnCuts)) :: (a_g_bandRows, .inl (ci 0, 5, .inl g_bandRows)) :: (a_g_zoneColumns, .inl (ci 0, 5, .inl g_zoneColumns)) :: (a_g_rows, .inl (ci 0, 5, .inl g_rows)) :: (a_g_sheets, .inl (ci 0, 5, .inl g_sheets)) :: Rw)) A) 0 0 A := by
  refine q_ofW (cc := cX3_readNumbers) (maxL := 6) (ret := (some .boolean)) [.ref a_rd, .int p1] (plainFor_of_name (by decide)) rfl (Nat.le_of_ble_eq_true rfl) ?_
  intro p e s m below meth c ls Q hQ hx hb hml hr hts hown hlocks hK hA hZ hP hD hS hl
  have hl : lv_has ls 6 [(0, .ref a_rd), (1, .int p1)] := hl
  have hown : s.vm.findClass RX3 = some m.cls := hown
  have hinX2 : ∀ w ∈ wsX20, w ∈ wsX3_readNumbers := fun _ h => List.mem_cons_of_mem _ (inWX20 _ h)
  have hinX3 : ∀ w ∈ wsX30, w ∈ wsX3_readNumbers := fun _ h => List.mem_cons_of_mem _ (inWX30 _ h)
  have w_1 := hts (Cond.fieldLink RX3 18 "SheetNames$NameReader" "level" "I") (List.mem_cons_of_mem _ t_w849)
  have w_2 := hts (Cond.fieldLink RX3 24 "SheetNames$NameReader" "fault" "I") (List.mem_cons_of_mem _ t_w843)
  have w_3 := hts (Cond.fieldLink RX3 9 "SheetNames$NameReader" "next" "I") (List.mem_cons_of_mem _ t_w846)
  have w_4 := hts (Cond.fieldLink RX3 15 "SheetNames$NameReader" "end" "I") (List.mem_cons_of_mem _ t_w847)
  have w_5 := hts (Cond.fieldLink RX3 34 "SheetNames$NameReader" "grid" "LSheetNames$Grid;") (List.mem_cons_of_mem _ t_w850)
  have w_6 := hts (Cond.fieldLink RX3 21 "SheetNames$NameReader" "key" "I") (List.mem_cons_of_mem _ t_w851)
  have wn_45 : (Cond.fieldLinkNest "SheetNames$NameReader" 64 "SheetNames" "BAND_ZONES" "[I" "SheetNames").before ([.ref a_rd, .int p1] : List Value).toArray s = true := (hZ.2.2.2.2.2.2.2.2.2.1 _ (List.mem_of_getElem? (i := 45) rfl)).use rfl
  have wn_46 : (Cond.fieldLinkNest "SheetNames$NameReader" 71 "SheetNames$Grid" "columnCuts" "[I" "SheetNames").before ([.ref a_rd, .int p1] : List Value).toArray s = true := (hZ.2.2.2.2.2.2.2.2.2.1 _ (List.mem_of_getElem? (i := 46) rfl)).use rfl
  have wn_47 : (Cond.fieldLinkNest "SheetNames$NameReader" 74 "SheetNames$Grid" "rowCuts" "[I" "SheetNames").before ([.ref a_rd, .int p1] : List Value).toArray s = true := (hZ.2.2.2.2.2.2.2.2.2.1 _ (List.mem_of_getElem? (i := 47) rfl)).use rfl
  unfold f_NameReader_readNumbers at hf
  have hgo : ∀ (H : Heap) (locs : List Loc), H = s.heap → va_P D vwCl ((a_rd, .inr (3, [.ref a_g, .ref a_tp, .int rd_next, .int rd_end, .int rd_level, .int rd_key, .int rd_fault, .int rd_faultPlace, .int rd_endedSoon])) :: (a_tp, .inr (8, [.ref a_tp_bytes, .int tp_length])) :: (a_tp_bytes, .inl (ci 0, 200, .inl tp_bytes)) :: (a_g, .inr (2, [.ref a_g_rowCuts, .ref a_g_columnCuts, .ref a_g_bandRows, .ref a_g_zoneColumns, .ref a_g_rows, .ref a_g_sheets])) :: (a_g_rowCuts, .inl (ci 0, 5, .inl g_rowCuts)) :: (a_g_columnCuts, .inl (ci 0, 5, .inl g_columnCuts)) :: (a_g_bandRows, .inl (ci 0, 5, .inl g_bandRows)) :: (a_g_zoneColumns, .inl (ci 0, 5, .inl g_zoneColumns)) :: (a_g_rows, .inl (ci 0, 5, .inl g_rows)) :: (a_g_sheets, .inl (ci 0, 5, .inl g_sheets)) :: Rw) H → va_S A s.heap H locs → W p l e ({ frames := 2, cells := 0, slots := 0, locals := 45 } : Room) s m ([.ref a_rd, .int p1] : List Value).toArray below meth c H locs 0 0 Q (F0 m 0 ls []) := by
    intro H locs hH hP hS
    refine lv_aload_n (pc := 0) hx hb dX3_readNumbers_0 rfl (lv_at hl 0 rfl) ?_
    refine va_getsN (pc := 1) hx hb hZ.1 hS hown wn_45 (fun _ h9 => h9) dX3_readNumbers_1 ?_
    refine lv_iload_n (pc := 4) hx hb dX3_readNumbers_4 rfl (lv_at hl 1 rfl) ?_
    refine q_sald (pc := 5) (f := q_bZ) (N := 44) hx hb hf hZ.2.1 hS dX3_readNumbers_5 (fun v1 hf => ?_)
    obtain ⟨v2, v3, v4, v5, v6, hm6, hf⟩ := q_b5_e hf
    refine q_cV (pc := 6) (As := [.int v1]) (rest := []) (v0 := (some (.int v2))) ⟨hx, hb, hml, hown, hts⟩ hK hA hZ hP hD hS hl.1 [0, 1, 2, 3, 4, 5, 6, 7, 8, 9] 10 rfl ⟨rfl, rfl, rfl⟩ (c_NameReader_readNumber l D ci A sa N ((a_g, .inr (2, [.ref a_g_rowCuts, .ref a_g_columnCuts, .ref a_g_bandRows, .ref a_g_zoneColumns, .ref a_g_rows, .ref a_g_sheets])) :: (a_g_rowCuts, .inl (ci 0, 5, .inl g_rowCuts)) :: (a_g_columnCuts, .inl (ci 0, 5, .inl g_columnCuts)) :: (a_g_bandRows, .inl (ci 0, 5, .inl g_bandRows)) :: (a_g_zoneColumns, .inl (ci 0, 5, .inl g_zoneColumns)) :: (a_g_rows, .inl (ci 0, 5, .inl g_rows)) :: (a_g_sheets, .inl (ci 0, 5, .inl g_sheets)) :: Rw) a_rd a_g a_tp a_tp_bytes rd_next rd_end rd_level rd_key rd_fault rd_faultPlace rd_endedSoon tp_length tp_bytes v1 v2 v3 v4 v5 v6 hm6) 0 rfl rfl (cwV 1 hts gX3_readNumbers_X3_readNumber rfl rfl rfl (by decide +kernel) ⟨Nat.le_of_ble_eq_true rfl, Nat.le_of_ble_eq_true rfl⟩) rfl rfl (Nat.le_of_ble_eq_true rfl) dX3_readNumbers_6 ⟨Nat.zero_le _, Nat.zero_le _⟩ [0, 1, 2, 3, 4, 5, 6, 7, 8, 9] 10 rfl ⟨rfl, rfl, rfl⟩ (fun H locs hP hD hS => ?_)
    obtain ⟨hP, hD⟩ : va_PD D A ((a_rd, .inr (3, [.ref a_g, .ref a_tp, .int v3, .int rd_end, .int rd_level, .int rd_key, .int v4, .int v5, .int v6])) :: (a_tp, .inr (8, [.ref a_tp_bytes, .int tp_length])) :: (a_tp_bytes, .inl (ci 0, 200, .inl tp_bytes)) :: (a_g, .inr (2, [.ref a_g_rowCuts, .ref a_g_columnCuts, .ref a_g_bandRows, .ref a_g_zoneColumns, .ref a_g_rows, .ref a_g_sheets])) :: (a_g_rowCuts, .inl (ci 0, 5, .inl g_rowCuts)) :: (a_g_columnCuts, .inl (ci 0, 5, .inl g_columnCuts)) :: (a_g_bandRows, .inl (ci 0, 5, .inl g_bandRows)) :: (a_g_zoneColumns, .inl (ci 0, 5, .inl g_zoneColumns)) :: (a_g_rows, .inl (ci 0, 5, .inl g_rows)) :: (a_g_sheets, .inl (ci 0, 5, .inl g_sheets)) :: Rw) H := ⟨hP, hD⟩
    refine lv_istore_n (pc := 9) (lv' := [(2, .int v2), (0, .ref a_rd), (1, .int p1)]) hx hb dX3_readNumbers_9 rfl hl (by decide) rfl (fun ls hl => ?_)
    refine lv_iload_n (pc := 10) hx hb dX3_readNumbers_10 rfl (lv_at hl 2 rfl) ?_
    refine lv_istore_n (pc := 11) (lv' := [(3, .int p1), (2, .int v2), (0, .ref a_rd), (1, .int p1)]) hx hb dX3_readNumbers_11 rfl hl (by decide) rfl (fun ls hl => ?_)
    refine lv_iload_n (pc := 12) hx hb dX3_readNumbers_12 rfl (lv_at hl 1 rfl) ?_
    refine lv_iconst (pc := 13) (v := 1) hx hb dX3_readNumbers_13 (by decide) ?_
    refine lv_isub (pc := 14) hx hb dX3_readNumbers_14 ?_
    obtain ⟨v7, ev7, hf⟩ := q_nm_e hf
    refine q_topi ev7 ?_
    refine lv_istore (pc := 15) (lv' := [(4, .int v7), (3, .int p1), (2, .int v2), (0, .ref a_rd), (1, .int p1)]) hx hb dX3_readNumbers_15 hl (by decide) rfl (fun ls hl => ?_)
    refine lv_aload_n (pc := 17) hx hb dX3_readNumbers_17 rfl (lv_at hl 3 rfl) ?_
    refine lv_iconst (pc := 18) (v := 0) hx hb dX3_readNumbers_18 (by decide) ?_
    refine va_put (pc := 19) (D := D) (ci := 3) (v := .int 0) (ty := .int) (C := RX3) (T := TX3) (N := 9) hx hb hts hinX3 tyX3 tyX3_ok nmX3 hown hK hP hD hS 0 rfl rfl 4 (by decide) w_1 (fun _ h9 => h9) rfl (by decide +kernel) rfl rfl (Nat.le_of_ble_eq_true rfl) dX3_readNumbers_19 (fun H locs hP hD hS => ?_)
    obtain ⟨hP, hD⟩ : va_PD D A ((a_rd, .inr (3, [.ref a_g, .ref a_tp, .int v3, .int rd_end, .int 0, .int rd_key, .int v4, .int v5, .int v6])) :: (a_tp, .inr (8, [.ref a_tp_bytes, .int tp_length])) :: (a_tp_bytes, .inl (ci 0, 200, .inl tp_bytes)) :: (a_g, .inr (2, [.ref a_g_rowCuts, .ref a_g_columnCuts, .ref a_g_bandRows, .ref a_g_zoneColumns, .ref a_g_rows, .ref a_g_sheets])) :: (a_g_rowCuts, .inl (ci 0, 5, .inl g_rowCuts)) :: (a_g_columnCuts, .inl (ci 0, 5, .inl g_columnCuts)) :: (a_g_bandRows, .inl (ci 0, 5, .inl g_bandRows)) :: (a_g_zoneColumns, .inl (ci 0, 5, .inl g_zoneColumns)) :: (a_g_rows, .inl (ci 0, 5, .inl g_rows)) :: (a_g_sheets, .inl (ci 0, 5, .inl g_sheets)) :: Rw) H := ⟨hP, hD⟩
    obtain ⟨v15, v16, v17, v18, v19, v20, v21, hm22, hf⟩ := q_b7_e hf
    have JE22 : ∀ (H : Heap) (locs : List Loc) (ls : Array Slot), va_P D vwCl ((a_rd, .inr (3, [.ref a_g, .ref a_tp, .int v17, .int rd_end, .int v18, .int rd_key, .int v19, .int v20, .int v21])) :: (a_tp, .inr (8, [.ref a_tp_bytes, .int tp_length])) :: (a_tp_bytes, .inl (ci 0, 200, .inl tp_bytes)) :: (a_g, .inr (2, [.ref a_g_rowCuts, .ref a_g_columnCuts, .ref a_g_bandRows, .ref a_g_zoneColumns, .ref a_g_rows, .ref a_g_sheets])) :: (a_g_rowCuts, .inl (ci 0, 5, .inl g_rowCuts)) :: (a_g_columnCuts, .inl (ci 0, 5, .inl g_columnCuts)) :: (a_g_bandRows, .inl (ci 0, 5, .inl g_bandRows)) :: (a_g_zoneColumns, .inl (ci 0, 5, .inl g_zoneColumns)) :: (a_g_rows, .inl (ci 0, 5, .inl g_rows)) :: (a_g_sheets, .inl (ci 0, 5, .inl g_sheets)) :: Rw) H → va_D A ((a_rd, .inr (3, [.ref a_g, .ref a_tp, .int v17, .int rd_end, .int v18, .int rd_key, .int v19, .int v20, .int v21])) :: (a_tp, .inr (8, [.ref a_tp_bytes, .int tp_length])) :: (a_tp_bytes, .inl (ci 0, 200, .inl tp_bytes)) :: (a_g, .inr (2, [.ref a_g_rowCuts, .ref a_g_columnCuts, .ref a_g_bandRows, .ref a_g_zoneColumns, .ref a_g_rows, .ref a_g_sheets])) :: (a_g_rowCuts, .inl (ci 0, 5, .inl g_rowCuts)) :: (a_g_columnCuts, .inl (ci 0, 5, .inl g_columnCuts)) :: (a_g_bandRows, .inl (ci 0, 5, .inl g_bandRows)) :: (a_g_zoneColumns, .inl (ci 0, 5, .inl g_zoneColumns)) :: (a_g_rows, .inl (ci 0, 5, .inl g_rows)) :: (a_g_sheets, .inl (ci 0, 5, .inl g_sheets)) :: Rw) → va_S A s.heap H locs → lv_has ls 6 [(0, .ref a_rd), (3, .int v15), (4, .int v16)] → W p l e ({ frames := 2, cells := 0, slots := 0, locals := 45 } : Room) s m ([.ref a_rd, .int p1] : List Value).toArray below meth c H locs 0 0 Q (F0 m 150 ls []) := by
      intro H locs ls hP hD hS hl
      refine lv_aload_n (pc := 150) hx hb dX3_readNumbers_150 rfl (lv_at hl 0 rfl) ?_
      refine va_get (pc := 151) (D := D) (ci := 3) (v := .int v19) (C := RX3) (T := TX3) (N := 9) hx hb hts hinX3 hown hK hP 0 rfl rfl 6 (by decide) w_2 (fun _ h9 => h9) rfl dX3_readNumbers_151 ?_
      obtain ⟨k194, ek194, hf⟩ := q_j0_e hf
      have J194 : ∀  (H : Heap) (locs : List Loc) (ls : Array Slot), k194 = some (r, o1, o2, o3, o4, o5, o6) → va_P D vwCl ((a_rd, .inr (3, [.ref a_g, .ref a_tp, .int v17, .int rd_end, .int v18, .int rd_key, .int v19, .int v20, .int v21])) :: (a_tp, .inr (8, [.ref a_tp_bytes, .int tp_length])) :: (a_tp_bytes, .inl (ci 0, 200, .inl tp_bytes)) :: (a_g, .inr (2, [.ref a_g_rowCuts, .ref a_g_columnCuts, .ref a_g_bandRows, .ref a_g_zoneColumns, .ref a_g_rows, .ref a_g_sheets])) :: (a_g_rowCuts, .inl (ci 0, 5, .inl g_rowCuts)) :: (a_g_columnCuts, .inl (ci 0, 5, .inl g_columnCuts)) :: (a_g_bandRows, .inl (ci 0, 5, .inl g_bandRows)) :: (a_g_zoneColumns, .inl (ci 0, 5, .inl g_zoneColumns)) :: (a_g_rows, .inl (ci 0, 5, .inl g_rows)) :: (a_g_sheets, .inl (ci 0, 5, .inl g_sheets)) :: Rw) H → va_D A ((a_rd, .inr (3, [.ref a_g, .ref a_tp, .int v17, .int rd_end, .int v18, .int rd_key, .int v19, .int v20, .int v21])) :: (a_tp, .inr (8, [.ref a_tp_bytes, .int tp_length])) :: (a_tp_bytes, .inl (ci 0, 200, .inl tp_bytes)) :: (a_g, .inr (2, [.ref a_g_rowCuts, .ref a_g_columnCuts, .ref a_g_bandRows, .ref a_g_zoneColumns, .ref a_g_rows, .ref a_g_sheets])) :: (a_g_rowCuts, .inl (ci 0, 5, .inl g_rowCuts)) :: (a_g_columnCuts, .inl (ci 0, 5, .inl g_columnCuts)) :: (a_g_bandRows, .inl (ci 0, 5, .inl g_bandRows)) :: (a_g_zoneColumns, .inl (ci 0, 5, .inl g_zoneColumns)) :: (a_g_rows, .inl (ci 0, 5, .inl g_rows)) :: (a_g_sheets, .inl (ci 0, 5, .inl g_sheets)) :: Rw) → va_S A s.heap H locs → lv_has ls 6 [(0, .ref a_rd), (3, .int v15), (4, .int v16)] → W p l e ({ frames := 2, cells := 0, slots := 0, locals := 45 } : Room) s m ([.ref a_rd, .int p1] : List Value).toArray below meth c H locs 0 0 Q (F0 m 194 ls []) := by
        intro  H locs ls hf hP hD hS hl
        have hf := (ek194).symm.trans hf
        refine lv_aload_n (pc := 194) hx hb dX3_readNumbers_194 rfl (lv_at hl 0 rfl) ?_
        refine lv_aload_n (pc := 195) hx hb dX3_readNumbers_195 rfl (lv_at hl 0 rfl) ?_
        refine va_get (pc := 196) (D := D) (ci := 3) (v := .ref a_g) (C := RX3) (T := TX3) (N := 9) hx hb hts hinX3 hown hK hP 0 rfl rfl 0 (by decide) w_5 (fun _ h9 => h9) rfl dX3_readNumbers_196 ?_
        refine lv_aload_n (pc := 199) hx hb dX3_readNumbers_199 rfl (lv_at hl 0 rfl) ?_
        refine va_get (pc := 200) (D := D) (ci := 3) (v := .int v18) (C := RX3) (T := TX3) (N := 9) hx hb hts hinX3 hown hK hP 0 rfl rfl 4 (by decide) w_1 (fun _ h9 => h9) rfl dX3_readNumbers_200 ?_
        refine lv_iload_n (pc := 203) hx hb dX3_readNumbers_203 rfl (lv_at hl 1 rfl) ?_
        refine lv_iconst (pc := 204) (v := 1) hx hb dX3_readNumbers_204 (by decide) ?_
        refine lv_iadd (pc := 205) hx hb dX3_readNumbers_205 ?_
        obtain ⟨v22, hm206, hf⟩ := q_b1_e hf
        refine q_cVr (pc := 206) (As := [.int v18, .int (v15 + 1)]) (rest := [.ref a_rd]) (v0 := (some (.int v22))) ⟨hx, hb, hml, hown, hts⟩ hK hA hZ hP hD hS hl.1 [3, 6, 7, 8, 9] 10 rfl ⟨rfl, rfl, rfl⟩ (c_Grid_rowStart l D ci A sa N (Rw) a_g a_g_rowCuts a_g_columnCuts a_g_bandRows a_g_zoneColumns a_g_rows a_g_sheets g_bandRows g_zoneColumns g_rows g_sheets v18 (v15 + 1) v22 hm206) 3 rfl rfl (cwV 2 hts gX3_readNumbers_X2_rowStart rfl rfl rfl (by decide +kernel) ⟨Nat.le_of_ble_eq_true rfl, Nat.le_of_ble_eq_true rfl⟩) rfl rfl (Nat.le_of_ble_eq_true rfl) dX3_readNumbers_206 ⟨Nat.zero_le _, Nat.zero_le _⟩ (fun locs hS => ?_)
        refine lv_iload (pc := 209) hx hb dX3_readNumbers_209 (lv_at hl 2 rfl) ?_
        refine lv_iadd (pc := 211) hx hb dX3_readNumbers_211 ?_
        obtain ⟨v23, ev23, hf⟩ := q_nm_e hf
        refine q_topi ev23 ?_
        refine va_put (pc := 212) (D := D) (ci := 3) (v := .int v23) (ty := .int) (C := RX3) (T := TX3) (N := 9) hx hb hts hinX3 tyX3 tyX3_ok nmX3 hown hK hP hD hS 0 rfl rfl 5 (by decide) w_6 (fun _ h9 => h9) rfl (by decide +kernel) rfl rfl (Nat.le_of_ble_eq_true rfl) dX3_readNumbers_212 (fun H locs hP hD hS => ?_)
        obtain ⟨hP, hD⟩ : va_PD D A ((a_rd, .inr (3, [.ref a_g, .ref a_tp, .int v17, .int rd_end, .int v18, .int v23, .int v19, .int v20, .int v21])) :: (a_tp, .inr (8, [.ref a_tp_bytes, .int tp_length])) :: (a_tp_bytes, .inl (ci 0, 200, .inl tp_bytes)) :: (a_g, .inr (2, [.ref a_g_rowCuts, .ref a_g_columnCuts, .ref a_g_bandRows, .ref a_g_zoneColumns, .ref a_g_rows, .ref a_g_sheets])) :: (a_g_rowCuts, .inl (ci 0, 5, .inl g_rowCuts)) :: (a_g_columnCuts, .inl (ci 0, 5, .inl g_columnCuts)) :: (a_g_bandRows, .inl (ci 0, 5, .inl g_bandRows)) :: (a_g_zoneColumns, .inl (ci 0, 5, .inl g_zoneColumns)) :: (a_g_rows, .inl (ci 0, 5, .inl g_rows)) :: (a_g_sheets, .inl (ci 0, 5, .inl g_sheets)) :: Rw) H := ⟨hP, hD⟩
        refine lv_aload_n (pc := 215) hx hb dX3_readNumbers_215 rfl (lv_at hl 0 rfl) ?_
        refine va_get (pc := 216) (D := D) (ci := 3) (v := .int v19) (C := RX3) (T := TX3) (N := 9) hx hb hts hinX3 hown hK hP 0 rfl rfl 6 (by decide) w_2 (fun _ h9 => h9) rfl dX3_readNumbers_216 ?_
        refine q_if_ne (pc := 219) (tgt := 226) hx hb dX3_readNumbers_219 (by decide) rfl hf (fun hf => ?_) (fun hf => ?_)
        · refine lv_iconst (pc := 226) (v := 0) hx hb dX3_readNumbers_226 (by decide) ?_
          obtain ⟨e90, e91, e92, e93, e94, e95, e96⟩ := q_inj7 (Option.some.inj hf)
          rw [hQ, ← e90, ← e91, ← e92, ← e93, ← e94, ← e95, ← e96]
          exact q_zret (pc := 227) hx hb hr rfl hlocks hP hD hS dX3_readNumbers_227
        · refine lv_iconst (pc := 222) (v := 1) hx hb dX3_readNumbers_222 (by decide) ?_
          refine lv_goto (pc := 223) (tgt := 227) hx hb dX3_readNumbers_223 (by decide) ?_
          obtain ⟨e90, e91, e92, e93, e94, e95, e96⟩ := q_inj7 (Option.some.inj hf)
          rw [hQ, ← e90, ← e91, ← e92, ← e93, ← e94, ← e95, ← e96]
          exact q_zret (pc := 227) hx hb hr rfl hlocks hP hD hS dX3_readNumbers_227
      refine q_if_ne (pc := 154) (tgt := 194) hx hb dX3_readNumbers_154 (by decide) rfl hf (fun hf => ?_) (fun hf => ?_)
      · exact J194  _ _ _ hf hP hD hS (lv_sub hl [0, 1, 2] rfl)
      · refine lv_aload_n (pc := 157) hx hb dX3_readNumbers_157 rfl (lv_at hl 0 rfl) ?_
        refine va_get (pc := 158) (D := D) (ci := 3) (v := .int v17) (C := RX3) (T := TX3) (N := 9) hx hb hts hinX3 hown hK hP 0 rfl rfl 2 (by decide) w_3 (fun _ h9 => h9) rfl dX3_readNumbers_158 ?_
        refine lv_aload_n (pc := 161) hx hb dX3_readNumbers_161 rfl (lv_at hl 0 rfl) ?_
        refine va_get (pc := 162) (D := D) (ci := 3) (v := .int rd_end) (C := RX3) (T := TX3) (N := 9) hx hb hts hinX3 hown hK hP 0 rfl rfl 3 (by decide) w_4 (fun _ h9 => h9) rfl dX3_readNumbers_162 ?_
        refine q_icmp_ge (pc := 165) (tgt := 194) hx hb dX3_readNumbers_165 (by decide) rfl hf (fun hf => ?_) (fun hf => ?_)
        · exact J194  _ _ _ hf hP hD hS (lv_sub hl [0, 1, 2] rfl)
        · refine lv_aload_n (pc := 168) hx hb dX3_readNumbers_168 rfl (lv_at hl 0 rfl) ?_
          obtain ⟨v24, hm169, hf⟩ := q_b1_e hf
          refine q_cVr (pc := 169) (As := []) (rest := []) (v0 := (some (.int v24))) ⟨hx, hb, hml, hown, hts⟩ hK hA hZ hP hD hS hl.1 [0, 1, 2] 10 rfl ⟨rfl, rfl, rfl⟩ (c_NameReader_here l D ci A sa N (Rw) a_rd a_g a_tp a_tp_bytes v17 rd_end v18 rd_key v19 v20 v21 tp_length tp_bytes v24 hm169) 0 rfl rfl (cwV 0 hts gX3_readNumbers_X3_here rfl rfl rfl (by decide +kernel) ⟨Nat.le_of_ble_eq_true rfl, Nat.le_of_ble_eq_true rfl⟩) rfl rfl (Nat.le_of_ble_eq_true rfl) dX3_readNumbers_169 ⟨Nat.zero_le _, Nat.zero_le _⟩ (fun locs hS => ?_)
          refine lv_bipush (pc := 172) (v := 45) hx hb dX3_readNumbers_172 (by decide) ?_
          refine q_icmp_ne (pc := 174) (tgt := 189) hx hb dX3_readNumbers_174 (by decide) rfl hf (fun hf => ?_) (fun hf => ?_)
          · refine lv_aload_n (pc := 189) hx hb dX3_readNumbers_189 rfl (lv_at hl 0 rfl) ?_
            obtain ⟨v25, v26, v27, v28, hm190, hf⟩ := q_b4_e hf
            refine q_cV (pc := 190) (As := []) (rest := []) (v0 := (some (.int v25))) ⟨hx, hb, hml, hown, hts⟩ hK hA hZ hP hD hS hl.1 [0, 1, 2, 3, 4, 5, 6, 7, 8, 9] 10 rfl ⟨rfl, rfl, rfl⟩ (c_NameReader_failHere l D ci A sa N ((a_tp, .inr (8, [.ref a_tp_bytes, .int tp_length])) :: (a_tp_bytes, .inl (ci 0, 200, .inl tp_bytes)) :: (a_g, .inr (2, [.ref a_g_rowCuts, .ref a_g_columnCuts, .ref a_g_bandRows, .ref a_g_zoneColumns, .ref a_g_rows, .ref a_g_sheets])) :: (a_g_rowCuts, .inl (ci 0, 5, .inl g_rowCuts)) :: (a_g_columnCuts, .inl (ci 0, 5, .inl g_columnCuts)) :: (a_g_bandRows, .inl (ci 0, 5, .inl g_bandRows)) :: (a_g_zoneColumns, .inl (ci 0, 5, .inl g_zoneColumns)) :: (a_g_rows, .inl (ci 0, 5, .inl g_rows)) :: (a_g_sheets, .inl (ci 0, 5, .inl g_sheets)) :: Rw) a_rd a_g a_tp v17 rd_end v18 rd_key v19 v20 v21 v25 v26 v27 v28 hm190) 0 rfl rfl (cwV 0 hts gX3_readNumbers_X3_failHere rfl rfl rfl (by decide +kernel) ⟨Nat.le_of_ble_eq_true rfl, Nat.le_of_ble_eq_true rfl⟩) rfl rfl (Nat.le_of_ble_eq_true rfl) dX3_readNumbers_190 ⟨Nat.zero_le _, Nat.zero_le _⟩ [0, 1, 2, 3, 4, 5, 6, 7, 8, 9] 10 rfl ⟨rfl, rfl, rfl⟩ (fun H locs hP hD hS => ?_)
            obtain ⟨hP, hD⟩ : va_PD D A ((a_rd, .inr (3, [.ref a_g, .ref a_tp, .int v17, .int rd_end, .int v18, .int rd_key, .int v26, .int v27, .int v28])) :: (a_tp, .inr (8, [.ref a_tp_bytes, .int tp_length])) :: (a_tp_bytes, .inl (ci 0, 200, .inl tp_bytes)) :: (a_g, .inr (2, [.ref a_g_rowCuts, .ref a_g_columnCuts, .ref a_g_bandRows, .ref a_g_zoneColumns, .ref a_g_rows, .ref a_g_sheets])) :: (a_g_rowCuts, .inl (ci 0, 5, .inl g_rowCuts)) :: (a_g_columnCuts, .inl (ci 0, 5, .inl g_columnCuts)) :: (a_g_bandRows, .inl (ci 0, 5, .inl g_bandRows)) :: (a_g_zoneColumns, .inl (ci 0, 5, .inl g_zoneColumns)) :: (a_g_rows, .inl (ci 0, 5, .inl g_rows)) :: (a_g_sheets, .inl (ci 0, 5, .inl g_sheets)) :: Rw) H := ⟨hP, hD⟩
            obtain ⟨hn9, hf9, hf⟩ := q_bo_e hf
            obtain ⟨e90, e91, e92, e93, e94, e95, e96⟩ := q_inj7 (Option.some.inj hf)
            rw [hQ, ← e90, ← e91, ← e92, ← e93, ← e94, ← e95, ← e96]
            exact q_zret (pc := 193) hx hb hr hn9 hlocks hP hD hS dX3_readNumbers_193
          · refine lv_aload_n (pc := 177) hx hb dX3_readNumbers_177 rfl (lv_at hl 0 rfl) ?_
            refine lv_iconst (pc := 178) (v := 3) hx hb dX3_readNumbers_178 (by decide) ?_
            refine lv_aload_n (pc := 179) hx hb dX3_readNumbers_179 rfl (lv_at hl 0 rfl) ?_
            refine va_get (pc := 180) (D := D) (ci := 3) (v := .int v17) (C := RX3) (T := TX3) (N := 9) hx hb hts hinX3 hown hK hP 0 rfl rfl 2 (by decide) w_3 (fun _ h9 => h9) rfl dX3_readNumbers_180 ?_
            obtain ⟨v29, v30, v31, v32, hm183, hf⟩ := q_b4_e hf
            refine q_cV (pc := 183) (As := [.int 3, .int v17]) (rest := []) (v0 := (some (.int v29))) ⟨hx, hb, hml, hown, hts⟩ hK hA hZ hP hD hS hl.1 [0, 1, 2, 3, 4, 5, 6, 7, 8, 9] 10 rfl ⟨rfl, rfl, rfl⟩ (c_NameReader_fail l D ci A sa N ((a_tp, .inr (8, [.ref a_tp_bytes, .int tp_length])) :: (a_tp_bytes, .inl (ci 0, 200, .inl tp_bytes)) :: (a_g, .inr (2, [.ref a_g_rowCuts, .ref a_g_columnCuts, .ref a_g_bandRows, .ref a_g_zoneColumns, .ref a_g_rows, .ref a_g_sheets])) :: (a_g_rowCuts, .inl (ci 0, 5, .inl g_rowCuts)) :: (a_g_columnCuts, .inl (ci 0, 5, .inl g_columnCuts)) :: (a_g_bandRows, .inl (ci 0, 5, .inl g_bandRows)) :: (a_g_zoneColumns, .inl (ci 0, 5, .inl g_zoneColumns)) :: (a_g_rows, .inl (ci 0, 5, .inl g_rows)) :: (a_g_sheets, .inl (ci 0, 5, .inl g_sheets)) :: Rw) a_rd a_g a_tp v17 rd_end v18 rd_key v19 v20 v21 3 v17 v29 v30 v31 v32 hm183) 0 rfl rfl (cwV 2 hts gX3_readNumbers_X3_fail rfl rfl rfl (by decide +kernel) ⟨Nat.le_of_ble_eq_true rfl, Nat.le_of_ble_eq_true rfl⟩) rfl rfl (Nat.le_of_ble_eq_true rfl) dX3_readNumbers_183 ⟨Nat.zero_le _, Nat.zero_le _⟩ [0, 1, 2, 3, 4, 5, 6, 7, 8, 9] 10 rfl ⟨rfl, rfl, rfl⟩ (fun H locs hP hD hS => ?_)
            obtain ⟨hP, hD⟩ : va_PD D A ((a_rd, .inr (3, [.ref a_g, .ref a_tp, .int v17, .int rd_end, .int v18, .int rd_key, .int v30, .int v31, .int v32])) :: (a_tp, .inr (8, [.ref a_tp_bytes, .int tp_length])) :: (a_tp_bytes, .inl (ci 0, 200, .inl tp_bytes)) :: (a_g, .inr (2, [.ref a_g_rowCuts, .ref a_g_columnCuts, .ref a_g_bandRows, .ref a_g_zoneColumns, .ref a_g_rows, .ref a_g_sheets])) :: (a_g_rowCuts, .inl (ci 0, 5, .inl g_rowCuts)) :: (a_g_columnCuts, .inl (ci 0, 5, .inl g_columnCuts)) :: (a_g_bandRows, .inl (ci 0, 5, .inl g_bandRows)) :: (a_g_zoneColumns, .inl (ci 0, 5, .inl g_zoneColumns)) :: (a_g_rows, .inl (ci 0, 5, .inl g_rows)) :: (a_g_sheets, .inl (ci 0, 5, .inl g_sheets)) :: Rw) H := ⟨hP, hD⟩
            refine lv_goto (pc := 186) (tgt := 193) hx hb dX3_readNumbers_186 (by decide) ?_
            obtain ⟨hn9, hf9, hf⟩ := q_bo_e hf
            obtain ⟨e90, e91, e92, e93, e94, e95, e96⟩ := q_inj7 (Option.some.inj hf)
            rw [hQ, ← e90, ← e91, ← e92, ← e93, ← e94, ← e95, ← e96]
            exact q_zret (pc := 193) hx hb hr hn9 hlocks hP hD hS dX3_readNumbers_193
    have LP22 : ∀ (n22 : Nat) (v8 : Int32) (v9 : Int32) (v10 : Int32) (v11 : Int32) (v12 : Int32) (v13 : Int32) (v14 : Int32) (H : Heap) (locs : List Loc) (ls : Array Slot), f_NameReader_readNumbers_L22 N g_columnCuts g_rowCuts rd_end tp_bytes tp_length n22 v8 v9 v10 v11 v12 v13 v14 = some (v15, v16, v17, v18, v19, v20, v21) → va_P D vwCl ((a_rd, .inr (3, [.ref a_g, .ref a_tp, .int v10, .int rd_end, .int v11, .int rd_key, .int v12, .int v13, .int v14])) :: (a_tp, .inr (8, [.ref a_tp_bytes, .int tp_length])) :: (a_tp_bytes, .inl (ci 0, 200, .inl tp_bytes)) :: (a_g, .inr (2, [.ref a_g_rowCuts, .ref a_g_columnCuts, .ref a_g_bandRows, .ref a_g_zoneColumns, .ref a_g_rows, .ref a_g_sheets])) :: (a_g_rowCuts, .inl (ci 0, 5, .inl g_rowCuts)) :: (a_g_columnCuts, .inl (ci 0, 5, .inl g_columnCuts)) :: (a_g_bandRows, .inl (ci 0, 5, .inl g_bandRows)) :: (a_g_zoneColumns, .inl (ci 0, 5, .inl g_zoneColumns)) :: (a_g_rows, .inl (ci 0, 5, .inl g_rows)) :: (a_g_sheets, .inl (ci 0, 5, .inl g_sheets)) :: Rw) H → va_D A ((a_rd, .inr (3, [.ref a_g, .ref a_tp, .int v10, .int rd_end, .int v11, .int rd_key, .int v12, .int v13, .int v14])) :: (a_tp, .inr (8, [.ref a_tp_bytes, .int tp_length])) :: (a_tp_bytes, .inl (ci 0, 200, .inl tp_bytes)) :: (a_g, .inr (2, [.ref a_g_rowCuts, .ref a_g_columnCuts, .ref a_g_bandRows, .ref a_g_zoneColumns, .ref a_g_rows, .ref a_g_sheets])) :: (a_g_rowCuts, .inl (ci 0, 5, .inl g_rowCuts)) :: (a_g_columnCuts, .inl (ci 0, 5, .inl g_columnCuts)) :: (a_g_bandRows, .inl (ci 0, 5, .inl g_bandRows)) :: (a_g_zoneColumns, .inl (ci 0, 5, .inl g_zoneColumns)) :: (a_g_rows, .inl (ci 0, 5, .inl g_rows)) :: (a_g_sheets, .inl (ci 0, 5, .inl g_sheets)) :: Rw) → va_S A s.heap H locs → lv_has ls 6 [(0, .ref a_rd), (3, .int v8), (4, .int v9)] → W p l e ({ frames := 2, cells := 0, slots := 0, locals := 45 } : Room) s m ([.ref a_rd, .int p1] : List Value).toArray below meth c H locs 0 0 Q (F0 m 22 ls []) := by
      intro n22
      induction n22 with
      | zero => intro v8 v9 v10 v11 v12 v13 v14 H locs ls hf; rw [f_NameReader_readNumbers_L22] at hf; cases hf
      | succ n22 ih22 =>
        intro v8 v9 v10 v11 v12 v13 v14 H locs ls hf hP hD hS hl
        rw [f_NameReader_readNumbers_L22] at hf
        refine lv_aload_n (pc := 22) hx hb dX3_readNumbers_22 rfl (lv_at hl 0 rfl) ?_
        refine va_get (pc := 23) (D := D) (ci := 3) (v := .int v12) (C := RX3) (T := TX3) (N := 9) hx hb hts hinX3 hown hK hP 0 rfl rfl 6 (by decide) w_2 (fun _ h9 => h9) rfl dX3_readNumbers_23 ?_
        refine q_if_ne (pc := 26) (tgt := 150) hx hb dX3_readNumbers_26 (by decide) rfl hf (fun hf => ?_) (fun hf => ?_)
        · obtain ⟨rfl, rfl, rfl, rfl, rfl, rfl, rfl⟩ := q_inj7 (Option.some.inj hf)
          exact JE22 _ _ _ hP hD hS (lv_sub hl [0, 1, 2] rfl)
        · refine lv_aload_n (pc := 29) hx hb dX3_readNumbers_29 rfl (lv_at hl 0 rfl) ?_
          refine va_get (pc := 30) (D := D) (ci := 3) (v := .int v10) (C := RX3) (T := TX3) (N := 9) hx hb hts hinX3 hown hK hP 0 rfl rfl 2 (by decide) w_3 (fun _ h9 => h9) rfl dX3_readNumbers_30 ?_
          refine lv_aload_n (pc := 33) hx hb dX3_readNumbers_33 rfl (lv_at hl 0 rfl) ?_
          refine va_get (pc := 34) (D := D) (ci := 3) (v := .int rd_end) (C := RX3) (T := TX3) (N := 9) hx hb hts hinX3 hown hK hP 0 rfl rfl 3 (by decide) w_4 (fun _ h9 => h9) rfl dX3_readNumbers_34 ?_
          refine q_icmp_ge (pc := 37) (tgt := 150) hx hb dX3_readNumbers_37 (by decide) rfl hf (fun hf => ?_) (fun hf => ?_)
          · obtain ⟨rfl, rfl, rfl, rfl, rfl, rfl, rfl⟩ := q_inj7 (Option.some.inj hf)
            exact JE22 _ _ _ hP hD hS (lv_sub hl [0, 1, 2] rfl)
          · refine lv_aload_n (pc := 40) hx hb dX3_readNumbers_40 rfl (lv_at hl 0 rfl) ?_
            refine va_get (pc := 41) (D := D) (ci := 3) (v := .int v11) (C := RX3) (T := TX3) (N := 9) hx hb hts hinX3 hown hK hP 0 rfl rfl 4 (by decide) w_1 (fun _ h9 => h9) rfl dX3_readNumbers_41 ?_
            refine lv_iconst (pc := 44) (v := 4) hx hb dX3_readNumbers_44 (by decide) ?_
            refine q_icmp_ge (pc := 45) (tgt := 150) hx hb dX3_readNumbers_45 (by decide) rfl hf (fun hf => ?_) (fun hf => ?_)
            · obtain ⟨rfl, rfl, rfl, rfl, rfl, rfl, rfl⟩ := q_inj7 (Option.some.inj hf)
              exact JE22 _ _ _ hP hD hS (lv_sub hl [0, 1, 2] rfl)
            · refine lv_aload_n (pc := 48) hx hb dX3_readNumbers_48 rfl (lv_at hl 0 rfl) ?_
              obtain ⟨v33, hm49, hf⟩ := q_b1_e hf
              refine q_cVr (pc := 49) (As := []) (rest := []) (v0 := (some (.int v33))) ⟨hx, hb, hml, hown, hts⟩ hK hA hZ hP hD hS hl.1 [0, 1, 2] 10 rfl ⟨rfl, rfl, rfl⟩ (c_NameReader_here l D ci A sa N (Rw) a_rd a_g a_tp a_tp_bytes v10 rd_end v11 rd_key v12 v13 v14 tp_length tp_bytes v33 hm49) 0 rfl rfl (cwV 0 hts gX3_readNumbers_X3_here rfl rfl rfl (by decide +kernel) ⟨Nat.le_of_ble_eq_true rfl, Nat.le_of_ble_eq_true rfl⟩) rfl rfl (Nat.le_of_ble_eq_true rfl) dX3_readNumbers_49 ⟨Nat.zero_le _, Nat.zero_le _⟩ (fun locs hS => ?_)
              refine lv_bipush (pc := 52) (v := 45) hx hb dX3_readNumbers_52 (by decide) ?_
              refine q_icmp_ne (pc := 54) (tgt := 150) hx hb dX3_readNumbers_54 (by decide) rfl hf (fun hf => ?_) (fun hf => ?_)
              · obtain ⟨rfl, rfl, rfl, rfl, rfl, rfl, rfl⟩ := q_inj7 (Option.some.inj hf)
                exact JE22 _ _ _ hP hD hS (lv_sub hl [0, 1, 2] rfl)
              · refine lv_aload_n (pc := 57) hx hb dX3_readNumbers_57 rfl (lv_at hl 0 rfl) ?_
                refine lv_dup (pc := 58) hx hb dX3_readNumbers_58 rfl ?_
                refine va_get (pc := 59) (D := D) (ci := 3) (v := .int v10) (C := RX3) (T := TX3) (N := 9) hx hb hts hinX3 hown hK hP 0 rfl rfl 2 (by decide) w_3 (fun _ h9 => h9) rfl dX3_readNumbers_59 ?_
                refine lv_iconst (pc := 62) (v := 1) hx hb dX3_readNumbers_62 (by decide) ?_
                refine lv_iadd (pc := 63) hx hb dX3_readNumbers_63 ?_
                obtain ⟨v34, ev34, hf⟩ := q_nm_e hf
                refine q_topi ev34 ?_
                refine va_put (pc := 64) (D := D) (ci := 3) (v := .int v34) (ty := .int) (C := RX3) (T := TX3) (N := 9) hx hb hts hinX3 tyX3 tyX3_ok nmX3 hown hK hP hD hS 0 rfl rfl 2 (by decide) w_3 (fun _ h9 => h9) rfl (by decide +kernel) rfl rfl (Nat.le_of_ble_eq_true rfl) dX3_readNumbers_64 (fun H locs hP hD hS => ?_)
                obtain ⟨hP, hD⟩ : va_PD D A ((a_rd, .inr (3, [.ref a_g, .ref a_tp, .int v34, .int rd_end, .int v11, .int rd_key, .int v12, .int v13, .int v14])) :: (a_tp, .inr (8, [.ref a_tp_bytes, .int tp_length])) :: (a_tp_bytes, .inl (ci 0, 200, .inl tp_bytes)) :: (a_g, .inr (2, [.ref a_g_rowCuts, .ref a_g_columnCuts, .ref a_g_bandRows, .ref a_g_zoneColumns, .ref a_g_rows, .ref a_g_sheets])) :: (a_g_rowCuts, .inl (ci 0, 5, .inl g_rowCuts)) :: (a_g_columnCuts, .inl (ci 0, 5, .inl g_columnCuts)) :: (a_g_bandRows, .inl (ci 0, 5, .inl g_bandRows)) :: (a_g_zoneColumns, .inl (ci 0, 5, .inl g_zoneColumns)) :: (a_g_rows, .inl (ci 0, 5, .inl g_rows)) :: (a_g_sheets, .inl (ci 0, 5, .inl g_sheets)) :: Rw) H := ⟨hP, hD⟩
                refine lv_aload_n (pc := 67) hx hb dX3_readNumbers_67 rfl (lv_at hl 0 rfl) ?_
                refine lv_dup (pc := 68) hx hb dX3_readNumbers_68 rfl ?_
                refine va_get (pc := 69) (D := D) (ci := 3) (v := .int v11) (C := RX3) (T := TX3) (N := 9) hx hb hts hinX3 hown hK hP 0 rfl rfl 4 (by decide) w_1 (fun _ h9 => h9) rfl dX3_readNumbers_69 ?_
                refine lv_iconst (pc := 72) (v := 1) hx hb dX3_readNumbers_72 (by decide) ?_
                refine lv_iadd (pc := 73) hx hb dX3_readNumbers_73 ?_
                obtain ⟨v35, ev35, hf⟩ := q_nm_e hf
                refine q_topi ev35 ?_
                refine va_put (pc := 74) (D := D) (ci := 3) (v := .int v35) (ty := .int) (C := RX3) (T := TX3) (N := 9) hx hb hts hinX3 tyX3 tyX3_ok nmX3 hown hK hP hD hS 0 rfl rfl 4 (by decide) w_1 (fun _ h9 => h9) rfl (by decide +kernel) rfl rfl (Nat.le_of_ble_eq_true rfl) dX3_readNumbers_74 (fun H locs hP hD hS => ?_)
                obtain ⟨hP, hD⟩ : va_PD D A ((a_rd, .inr (3, [.ref a_g, .ref a_tp, .int v34, .int rd_end, .int v35, .int rd_key, .int v12, .int v13, .int v14])) :: (a_tp, .inr (8, [.ref a_tp_bytes, .int tp_length])) :: (a_tp_bytes, .inl (ci 0, 200, .inl tp_bytes)) :: (a_g, .inr (2, [.ref a_g_rowCuts, .ref a_g_columnCuts, .ref a_g_bandRows, .ref a_g_zoneColumns, .ref a_g_rows, .ref a_g_sheets])) :: (a_g_rowCuts, .inl (ci 0, 5, .inl g_rowCuts)) :: (a_g_columnCuts, .inl (ci 0, 5, .inl g_columnCuts)) :: (a_g_bandRows, .inl (ci 0, 5, .inl g_bandRows)) :: (a_g_zoneColumns, .inl (ci 0, 5, .inl g_zoneColumns)) :: (a_g_rows, .inl (ci 0, 5, .inl g_rows)) :: (a_g_sheets, .inl (ci 0, 5, .inl g_sheets)) :: Rw) H := ⟨hP, hD⟩
                refine lv_aload_n (pc := 77) hx hb dX3_readNumbers_77 rfl (lv_at hl 0 rfl) ?_
                refine va_get (pc := 78) (D := D) (ci := 3) (v := .ref a_g) (C := RX3) (T := TX3) (N := 9) hx hb hts hinX3 hown hK hP 0 rfl rfl 0 (by decide) w_5 (fun _ h9 => h9) rfl dX3_readNumbers_78 ?_
                refine va_getN (pc := 81) (D := D) (ci := 2) (v := .ref a_g_columnCuts) (C := RX2) (T := TX2) (N := 6) hx hb hts hinX2 hown hK hP 3 rfl rfl 1 (by decide) wn_46 (fun _ h9 => h9) rfl dX3_readNumbers_81 ?_
                refine lv_aload_n (pc := 84) hx hb dX3_readNumbers_84 rfl (lv_at hl 0 rfl) ?_
                refine va_get (pc := 85) (D := D) (ci := 3) (v := .int v35) (C := RX3) (T := TX3) (N := 9) hx hb hts hinX3 hown hK hP 0 rfl rfl 4 (by decide) w_1 (fun _ h9 => h9) rfl dX3_readNumbers_85 ?_
                refine q_iald (pc := 88) hx hb hK hP 5 0 hf rfl rfl dX3_readNumbers_88 (fun v36 hf => ?_)
                refine lv_istore (pc := 89) (lv' := [(5, .int v36), (0, .ref a_rd), (3, .int v8), (4, .int v9)]) hx hb dX3_readNumbers_89 hl (by decide) rfl (fun ls hl => ?_)
                refine lv_aload_n (pc := 91) hx hb dX3_readNumbers_91 rfl (lv_at hl 1 rfl) ?_
                refine lv_aload_n (pc := 92) hx hb dX3_readNumbers_92 rfl (lv_at hl 1 rfl) ?_
                refine va_get (pc := 93) (D := D) (ci := 3) (v := .ref a_g) (C := RX3) (T := TX3) (N := 9) hx hb hts hinX3 hown hK hP 0 rfl rfl 0 (by decide) w_5 (fun _ h9 => h9) rfl dX3_readNumbers_93 ?_
                refine va_getN (pc := 96) (D := D) (ci := 2) (v := .ref a_g_rowCuts) (C := RX2) (T := TX2) (N := 6) hx hb hts hinX2 hown hK hP 3 rfl rfl 0 (by decide) wn_47 (fun _ h9 => h9) rfl dX3_readNumbers_96 ?_
                refine lv_aload_n (pc := 99) hx hb dX3_readNumbers_99 rfl (lv_at hl 1 rfl) ?_
                refine va_get (pc := 100) (D := D) (ci := 3) (v := .int v35) (C := RX3) (T := TX3) (N := 9) hx hb hts hinX3 hown hK hP 0 rfl rfl 4 (by decide) w_1 (fun _ h9 => h9) rfl dX3_readNumbers_100 ?_
                refine q_iald (pc := 103) hx hb hK hP 4 0 hf rfl rfl dX3_readNumbers_103 (fun v37 hf => ?_)
                refine lv_iload (pc := 104) hx hb dX3_readNumbers_104 (lv_at hl 0 rfl) ?_
                refine lv_imul (pc := 106) hx hb dX3_readNumbers_106 ?_
                obtain ⟨v38, v39, v40, v41, v42, hm107, hf⟩ := q_b5_e hf
                refine q_cV (pc := 107) (As := [.int (v37 * v36)]) (rest := []) (v0 := (some (.int v38))) ⟨hx, hb, hml, hown, hts⟩ hK hA hZ hP hD hS hl.1 [0, 1, 2, 3, 4, 5, 6, 7, 8, 9] 10 rfl ⟨rfl, rfl, rfl⟩ (c_NameReader_readNumber l D ci A sa N ((a_g, .inr (2, [.ref a_g_rowCuts, .ref a_g_columnCuts, .ref a_g_bandRows, .ref a_g_zoneColumns, .ref a_g_rows, .ref a_g_sheets])) :: (a_g_rowCuts, .inl (ci 0, 5, .inl g_rowCuts)) :: (a_g_columnCuts, .inl (ci 0, 5, .inl g_columnCuts)) :: (a_g_bandRows, .inl (ci 0, 5, .inl g_bandRows)) :: (a_g_zoneColumns, .inl (ci 0, 5, .inl g_zoneColumns)) :: (a_g_rows, .inl (ci 0, 5, .inl g_rows)) :: (a_g_sheets, .inl (ci 0, 5, .inl g_sheets)) :: Rw) a_rd a_g a_tp a_tp_bytes v34 rd_end v35 rd_key v12 v13 v14 tp_length tp_bytes (v37 * v36) v38 v39 v40 v41 v42 hm107) 0 rfl rfl (cwV 1 hts gX3_readNumbers_X3_readNumber rfl rfl rfl (by decide +kernel) ⟨Nat.le_of_ble_eq_true rfl, Nat.le_of_ble_eq_true rfl⟩) rfl rfl (Nat.le_of_ble_eq_true rfl) dX3_readNumbers_107 ⟨Nat.zero_le _, Nat.zero_le _⟩ [0, 1, 2, 3, 4, 5, 6, 7, 8, 9] 10 rfl ⟨rfl, rfl, rfl⟩ (fun H locs hP hD hS => ?_)
                obtain ⟨hP, hD⟩ : va_PD D A ((a_rd, .inr (3, [.ref a_g, .ref a_tp, .int v39, .int rd_end, .int v35, .int rd_key, .int v40, .int v41, .int v42])) :: (a_tp, .inr (8, [.ref a_tp_bytes, .int tp_length])) :: (a_tp_bytes, .inl (ci 0, 200, .inl tp_bytes)) :: (a_g, .inr (2, [.ref a_g_rowCuts, .ref a_g_columnCuts, .ref a_g_bandRows, .ref a_g_zoneColumns, .ref a_g_rows, .ref a_g_sheets])) :: (a_g_rowCuts, .inl (ci 0, 5, .inl g_rowCuts)) :: (a_g_columnCuts, .inl (ci 0, 5, .inl g_columnCuts)) :: (a_g_bandRows, .inl (ci 0, 5, .inl g_bandRows)) :: (a_g_zoneColumns, .inl (ci 0, 5, .inl g_zoneColumns)) :: (a_g_rows, .inl (ci 0, 5, .inl g_rows)) :: (a_g_sheets, .inl (ci 0, 5, .inl g_sheets)) :: Rw) H := ⟨hP, hD⟩
                refine lv_istore_n (pc := 110) (lv' := [(2, .int v38), (5, .int v36), (0, .ref a_rd), (3, .int v8), (4, .int v9)]) hx hb dX3_readNumbers_110 rfl hl (by decide) rfl (fun ls hl => ?_)
                refine lv_iload_n (pc := 111) hx hb dX3_readNumbers_111 rfl (lv_at hl 3 rfl) ?_
                refine lv_aload_n (pc := 112) hx hb dX3_readNumbers_112 rfl (lv_at hl 2 rfl) ?_
                refine va_get (pc := 113) (D := D) (ci := 3) (v := .ref a_g) (C := RX3) (T := TX3) (N := 9) hx hb hts hinX3 hown hK hP 0 rfl rfl 0 (by decide) w_5 (fun _ h9 => h9) rfl dX3_readNumbers_113 ?_
                refine va_getN (pc := 116) (D := D) (ci := 2) (v := .ref a_g_rowCuts) (C := RX2) (T := TX2) (N := 6) hx hb hts hinX2 hown hK hP 3 rfl rfl 0 (by decide) wn_47 (fun _ h9 => h9) rfl dX3_readNumbers_116 ?_
                refine lv_aload_n (pc := 119) hx hb dX3_readNumbers_119 rfl (lv_at hl 2 rfl) ?_
                refine va_get (pc := 120) (D := D) (ci := 3) (v := .int v35) (C := RX3) (T := TX3) (N := 9) hx hb hts hinX3 hown hK hP 0 rfl rfl 4 (by decide) w_1 (fun _ h9 => h9) rfl dX3_readNumbers_120 ?_
                refine q_iald (pc := 123) hx hb hK hP 4 0 hf rfl rfl dX3_readNumbers_123 (fun v43 hf => ?_)
                refine lv_imul (pc := 124) hx hb dX3_readNumbers_124 ?_
                refine lv_iload_n (pc := 125) hx hb dX3_readNumbers_125 rfl (lv_at hl 0 rfl) ?_
                refine lv_iconst (pc := 126) (v := 1) hx hb dX3_readNumbers_126 (by decide) ?_
                refine lv_isub (pc := 127) hx hb dX3_readNumbers_127 ?_
                refine lv_iload (pc := 128) hx hb dX3_readNumbers_128 (lv_at hl 1 rfl) ?_
                refine q_idiv (pc := 130) hx hb dX3_readNumbers_130 hf (fun v44 hf => ?_)
                refine lv_iadd (pc := 131) hx hb dX3_readNumbers_131 ?_
                obtain ⟨v45, ev45, hf⟩ := q_nm_e hf
                refine q_topi ev45 ?_
                refine lv_istore_n (pc := 132) (lv' := [(3, .int v45), (2, .int v38), (5, .int v36), (0, .ref a_rd), (4, .int v9)]) hx hb dX3_readNumbers_132 rfl hl (by decide) rfl (fun ls hl => ?_)
                refine lv_iload (pc := 133) hx hb dX3_readNumbers_133 (lv_at hl 4 rfl) ?_
                refine lv_iload (pc := 135) hx hb dX3_readNumbers_135 (lv_at hl 2 rfl) ?_
                refine lv_imul (pc := 137) hx hb dX3_readNumbers_137 ?_
                refine lv_iload_n (pc := 138) hx hb dX3_readNumbers_138 rfl (lv_at hl 1 rfl) ?_
                refine lv_iconst (pc := 139) (v := 1) hx hb dX3_readNumbers_139 (by decide) ?_
                refine lv_isub (pc := 140) hx hb dX3_readNumbers_140 ?_
                refine lv_iload (pc := 141) hx hb dX3_readNumbers_141 (lv_at hl 2 rfl) ?_
                refine q_irem (pc := 143) hx hb dX3_readNumbers_143 hf (fun v46 hf => ?_)
                refine lv_iadd (pc := 144) hx hb dX3_readNumbers_144 ?_
                obtain ⟨v47, ev47, hf⟩ := q_nm_e hf
                refine q_topi ev47 ?_
                refine lv_istore (pc := 145) (lv' := [(4, .int v47), (3, .int v45), (2, .int v38), (5, .int v36), (0, .ref a_rd)]) hx hb dX3_readNumbers_145 hl (by decide) rfl (fun ls hl => ?_)
                refine lv_goto (pc := 147) (tgt := 22) hx hb dX3_readNumbers_147 (by decide) ?_
                exact ih22 v45 v47 v39 v35 v40 v41 v42 _ _ _ hf hP hD hS (lv_sub hl [4, 1, 0] rfl)
    exact LP22 N p1 v7 v3 0 v4 v5 v6 _ _ _ hm22 hP hD hS (lv_sub hl [3, 1, 0] rfl)
  exact hgo _ _ rfl hP hS
/-! X3_readCap -/
set_option maxRecDepth 100000 in
set_option maxHeartbeats 4000000 in
theorem c_NameReader_readCap (l : Launch) (D : va_G) (ci : Nat → ClassId) (A : Nat → Prop) (sa : Nat → Nat) (N : Nat) (Rw : va_W) (a_rd : Nat) (a_g : Nat) (a_tp : Nat) (a_g_rowCuts : Nat) (a_g_columnCuts : Nat) (a_g_bandRows : Nat) (a_g_zoneColumns : Nat) (a_g_rows : Nat) (a_g_sheets : Nat) (rd_next : Int32) (rd_end : Int32) (rd_level : Int32) (rd_key : Int32) (rd_fault : Int32) (rd_faultPlace : Int32) (rd_endedSoon : Int32) (g_sheets : Nat → Int32) (p1 : Int32) (r : Int32) (o1 : Int32) (o2 : Int32) (o3 : Int32) (o4 : Int32) (o5 : Int32) (o6 : Int32) (hf : f_NameReader_readCap rd_next rd_end rd_level rd_key rd_fault rd_faultPlace rd_endedSoon g_sheets p1 = some (r, o1, o2, o3, o4, o5, o6)) : Met l yX3_readCap wsX3_readCap ({ frames := 1, cells := 0, slots := 0, locals := 20 }) (va_Pc [.ref a_rd, .int p1] (q_N D ci A sa ((a_rd, .inr (3, [.ref a_g, .ref a_tp, .int rd_next, .int rd_end, .int rd_level, .int rd_key, .int rd_fault, .int rd_faultPlace, .int rd_endedSoon])) :: (a_g, .inr (2, [.ref a_g_rowCuts, .ref a_g_columnCuts, .ref a_g_bandRows, .ref a_g_zoneColumns, .ref a_g_rows, .ref a_g_sheets])) :: (a_g_sheets, .inl (ci 0, 5, .inl g_sheets)) :: Rw))) (q_Q (some (.int r)) (q_O D A ((a_rd, .inr (3, [.ref a_g, .ref a_tp, .int o1, .int rd_end, .int o2, .int o3, .int o4, .int o5, .int o6])) :: (a_g, .inr (2, [.ref a_g_rowCuts, .ref a_g_columnCuts, .ref a_g_bandRows, .ref a_g_zoneColumns, .ref a_g_rows, .ref a_g_sheets])) :: (a_g_sheets, .inl (ci 0, 5, .inl g_sheets)) :: Rw)) A) 0 0 A := by
  refine q_ofW (cc := cX3_readCap) (maxL := 2) (ret := (some .boolean)) [.ref a_rd, .int p1] (plainFor_of_name (by decide)) rfl (Nat.le_of_ble_eq_true rfl) ?_
  intro p e s m below meth c ls Q hQ hx hb hml hr hts hown hlocks hK hA hZ hP hD hS hl
  have hl : lv_has ls 2 [(0, .ref a_rd), (1, .int p1)] := hl
  have hown : s.vm.findClass RX3 = some m.cls := hown
  have hinX2 : ∀ w ∈ wsX20, w ∈ wsX3_readCap := fun _ h => List.mem_cons_of_mem _ (inWX20 _ h)
  have hinX3 : ∀ w ∈ wsX30, w ∈ wsX3_readCap := fun _ h => List.mem_cons_of_mem _ (inWX30 _ h)
  have w_1 := hts (Cond.fieldLink RX3 9 "SheetNames$NameReader" "next" "I") (List.mem_cons_of_mem _ t_w846)
  have w_2 := hts (Cond.fieldLink RX3 15 "SheetNames$NameReader" "end" "I") (List.mem_cons_of_mem _ t_w847)
  have w_3 := hts (Cond.fieldLink RX3 18 "SheetNames$NameReader" "level" "I") (List.mem_cons_of_mem _ t_w849)
  have w_4 := hts (Cond.fieldLink RX3 34 "SheetNames$NameReader" "grid" "LSheetNames$Grid;") (List.mem_cons_of_mem _ t_w850)
  have w_5 := hts (Cond.fieldLink RX3 21 "SheetNames$NameReader" "key" "I") (List.mem_cons_of_mem _ t_w851)
  have wn_44 : (Cond.fieldLinkNest "SheetNames$NameReader" 58 "SheetNames$Grid" "sheets" "[I" "SheetNames").before ([.ref a_rd, .int p1] : List Value).toArray s = true := (hZ.2.2.2.2.2.2.2.2.2.1 _ (List.mem_of_getElem? (i := 44) rfl)).use rfl
  unfold f_NameReader_readCap at hf
  have hgo : ∀ (H : Heap) (locs : List Loc), H = s.heap → va_P D vwCl ((a_rd, .inr (3, [.ref a_g, .ref a_tp, .int rd_next, .int rd_end, .int rd_level, .int rd_key, .int rd_fault, .int rd_faultPlace, .int rd_endedSoon])) :: (a_g, .inr (2, [.ref a_g_rowCuts, .ref a_g_columnCuts, .ref a_g_bandRows, .ref a_g_zoneColumns, .ref a_g_rows, .ref a_g_sheets])) :: (a_g_sheets, .inl (ci 0, 5, .inl g_sheets)) :: Rw) H → va_S A s.heap H locs → W p l e ({ frames := 1, cells := 0, slots := 0, locals := 20 } : Room) s m ([.ref a_rd, .int p1] : List Value).toArray below meth c H locs 0 0 Q (F0 m 0 ls []) := by
    intro H locs hH hP hS
    refine lv_aload_n (pc := 0) hx hb dX3_readCap_0 rfl (lv_at hl 0 rfl) ?_
    refine lv_dup (pc := 1) hx hb dX3_readCap_1 rfl ?_
    refine va_get (pc := 2) (D := D) (ci := 3) (v := .int rd_next) (C := RX3) (T := TX3) (N := 9) hx hb hts hinX3 hown hK hP 0 rfl rfl 2 (by decide) w_1 (fun _ h9 => h9) rfl dX3_readCap_2 ?_
    refine lv_iconst (pc := 5) (v := 1) hx hb dX3_readCap_5 (by decide) ?_
    refine lv_iadd (pc := 6) hx hb dX3_readCap_6 ?_
    obtain ⟨v1, ev1, hf⟩ := q_nm_e hf
    refine q_topi ev1 ?_
    refine va_put (pc := 7) (D := D) (ci := 3) (v := .int v1) (ty := .int) (C := RX3) (T := TX3) (N := 9) hx hb hts hinX3 tyX3 tyX3_ok nmX3 hown hK hP hD hS 0 rfl rfl 2 (by decide) w_1 (fun _ h9 => h9) rfl (by decide +kernel) rfl rfl (Nat.le_of_ble_eq_true rfl) dX3_readCap_7 (fun H locs hP hD hS => ?_)
    obtain ⟨hP, hD⟩ : va_PD D A ((a_rd, .inr (3, [.ref a_g, .ref a_tp, .int v1, .int rd_end, .int rd_level, .int rd_key, .int rd_fault, .int rd_faultPlace, .int rd_endedSoon])) :: (a_g, .inr (2, [.ref a_g_rowCuts, .ref a_g_columnCuts, .ref a_g_bandRows, .ref a_g_zoneColumns, .ref a_g_rows, .ref a_g_sheets])) :: (a_g_sheets, .inl (ci 0, 5, .inl g_sheets)) :: Rw) H := ⟨hP, hD⟩
    refine lv_aload_n (pc := 10) hx hb dX3_readCap_10 rfl (lv_at hl 0 rfl) ?_
    refine va_get (pc := 11) (D := D) (ci := 3) (v := .int v1) (C := RX3) (T := TX3) (N := 9) hx hb hts hinX3 hown hK hP 0 rfl rfl 2 (by decide) w_1 (fun _ h9 => h9) rfl dX3_readCap_11 ?_
    refine lv_aload_n (pc := 14) hx hb dX3_readCap_14 rfl (lv_at hl 0 rfl) ?_
    refine va_get (pc := 15) (D := D) (ci := 3) (v := .int rd_end) (C := RX3) (T := TX3) (N := 9) hx hb hts hinX3 hown hK hP 0 rfl rfl 3 (by decide) w_2 (fun _ h9 => h9) rfl dX3_readCap_15 ?_
    refine q_icmp_ge (pc := 18) (tgt := 26) hx hb dX3_readCap_18 (by decide) rfl hf (fun hf => ?_) (fun hf => ?_)
    · refine lv_aload_n (pc := 26) hx hb dX3_readCap_26 rfl (lv_at hl 0 rfl) ?_
      refine lv_iconst (pc := 27) (v := 0) hx hb dX3_readCap_27 (by decide) ?_
      refine va_put (pc := 28) (D := D) (ci := 3) (v := .int 0) (ty := .int) (C := RX3) (T := TX3) (N := 9) hx hb hts hinX3 tyX3 tyX3_ok nmX3 hown hK hP hD hS 0 rfl rfl 4 (by decide) w_3 (fun _ h9 => h9) rfl (by decide +kernel) rfl rfl (Nat.le_of_ble_eq_true rfl) dX3_readCap_28 (fun H locs hP hD hS => ?_)
      obtain ⟨hP, hD⟩ : va_PD D A ((a_rd, .inr (3, [.ref a_g, .ref a_tp, .int v1, .int rd_end, .int 0, .int rd_key, .int rd_fault, .int rd_faultPlace, .int rd_endedSoon])) :: (a_g, .inr (2, [.ref a_g_rowCuts, .ref a_g_columnCuts, .ref a_g_bandRows, .ref a_g_zoneColumns, .ref a_g_rows, .ref a_g_sheets])) :: (a_g_sheets, .inl (ci 0, 5, .inl g_sheets)) :: Rw) H := ⟨hP, hD⟩
      refine lv_aload_n (pc := 31) hx hb dX3_readCap_31 rfl (lv_at hl 0 rfl) ?_
      refine lv_iload_n (pc := 32) hx hb dX3_readCap_32 rfl (lv_at hl 1 rfl) ?_
      obtain ⟨k51, ek51, hf⟩ := q_j1_e hf
      have J51 : ∀ (v2 : Int32) (H : Heap) (locs : List Loc) (ls : Array Slot), k51 v2 = some (r, o1, o2, o3, o4, o5, o6) → va_P D vwCl ((a_rd, .inr (3, [.ref a_g, .ref a_tp, .int v1, .int rd_end, .int 0, .int rd_key, .int rd_fault, .int rd_faultPlace, .int rd_endedSoon])) :: (a_g, .inr (2, [.ref a_g_rowCuts, .ref a_g_columnCuts, .ref a_g_bandRows, .ref a_g_zoneColumns, .ref a_g_rows, .ref a_g_sheets])) :: (a_g_sheets, .inl (ci 0, 5, .inl g_sheets)) :: Rw) H → va_D A ((a_rd, .inr (3, [.ref a_g, .ref a_tp, .int v1, .int rd_end, .int 0, .int rd_key, .int rd_fault, .int rd_faultPlace, .int rd_endedSoon])) :: (a_g, .inr (2, [.ref a_g_rowCuts, .ref a_g_columnCuts, .ref a_g_bandRows, .ref a_g_zoneColumns, .ref a_g_rows, .ref a_g_sheets])) :: (a_g_sheets, .inl (ci 0, 5, .inl g_sheets)) :: Rw) → va_S A s.heap H locs → lv_has ls 2 [] → W p l e ({ frames := 1, cells := 0, slots := 0, locals := 20 } : Room) s m ([.ref a_rd, .int p1] : List Value).toArray below meth c H locs 0 0 Q (F0 m 51 ls [.int v2, .ref a_rd]) := by
        intro v2 H locs ls hf hP hD hS hl
        have hf := (ek51 v2).symm.trans hf
        refine va_put (pc := 51) (D := D) (ci := 3) (v := .int v2) (ty := .int) (C := RX3) (T := TX3) (N := 9) hx hb hts hinX3 tyX3 tyX3_ok nmX3 hown hK hP hD hS 0 rfl rfl 5 (by decide) w_5 (fun _ h9 => h9) rfl (by decide +kernel) rfl rfl (Nat.le_of_ble_eq_true rfl) dX3_readCap_51 (fun H locs hP hD hS => ?_)
        obtain ⟨hP, hD⟩ : va_PD D A ((a_rd, .inr (3, [.ref a_g, .ref a_tp, .int v1, .int rd_end, .int 0, .int v2, .int rd_fault, .int rd_faultPlace, .int rd_endedSoon])) :: (a_g, .inr (2, [.ref a_g_rowCuts, .ref a_g_columnCuts, .ref a_g_bandRows, .ref a_g_zoneColumns, .ref a_g_rows, .ref a_g_sheets])) :: (a_g_sheets, .inl (ci 0, 5, .inl g_sheets)) :: Rw) H := ⟨hP, hD⟩
        refine lv_iconst (pc := 54) (v := 1) hx hb dX3_readCap_54 (by decide) ?_
        obtain ⟨e90, e91, e92, e93, e94, e95, e96⟩ := q_inj7 (Option.some.inj hf)
        rw [hQ, ← e90, ← e91, ← e92, ← e93, ← e94, ← e95, ← e96]
        exact q_zret (pc := 55) hx hb hr rfl hlocks hP hD hS dX3_readCap_55
      refine q_if_eq (pc := 33) (tgt := 40) hx hb dX3_readCap_33 (by decide) rfl hf (fun hf => ?_) (fun hf => ?_)
      · refine lv_aload_n (pc := 40) hx hb dX3_readCap_40 rfl (lv_at hl 0 rfl) ?_
        refine va_get (pc := 41) (D := D) (ci := 3) (v := .ref a_g) (C := RX3) (T := TX3) (N := 9) hx hb hts hinX3 hown hK hP 0 rfl rfl 0 (by decide) w_4 (fun _ h9 => h9) rfl dX3_readCap_41 ?_
        refine va_getN (pc := 44) (D := D) (ci := 2) (v := .ref a_g_sheets) (C := RX2) (T := TX2) (N := 6) hx hb hts hinX2 hown hK hP 1 rfl rfl 5 (by decide) wn_44 (fun _ h9 => h9) rfl dX3_readCap_44 ?_
        refine lv_iconst (pc := 47) (v := 0) hx hb dX3_readCap_47 (by decide) ?_
        refine q_iald (pc := 48) hx hb hK hP 2 0 hf rfl rfl dX3_readCap_48 (fun v3 hf => ?_)
        refine lv_iconst (pc := 49) (v := 1) hx hb dX3_readCap_49 (by decide) ?_
        refine lv_isub (pc := 50) hx hb dX3_readCap_50 ?_
        exact J51 (v3 - 1) _ _ _ hf hP hD hS (lv_sub hl [] rfl)
      · refine lv_iconst (pc := 36) (v := 0) hx hb dX3_readCap_36 (by decide) ?_
        refine lv_goto (pc := 37) (tgt := 51) hx hb dX3_readCap_37 (by decide) ?_
        exact J51 0 _ _ _ hf hP hD hS (lv_sub hl [] rfl)
    · refine lv_aload_n (pc := 21) hx hb dX3_readCap_21 rfl (lv_at hl 0 rfl) ?_
      obtain ⟨v4, v5, v6, v7, hm22, hf⟩ := q_b4_e hf
      refine q_cV (pc := 22) (As := []) (rest := []) (v0 := (some (.int v4))) ⟨hx, hb, hml, hown, hts⟩ hK hA hZ hP hD hS hl.1 [0, 1, 2] 3 rfl ⟨rfl, rfl, rfl⟩ (c_NameReader_failHere l D ci A sa N ((a_g, .inr (2, [.ref a_g_rowCuts, .ref a_g_columnCuts, .ref a_g_bandRows, .ref a_g_zoneColumns, .ref a_g_rows, .ref a_g_sheets])) :: (a_g_sheets, .inl (ci 0, 5, .inl g_sheets)) :: Rw) a_rd a_g a_tp v1 rd_end rd_level rd_key rd_fault rd_faultPlace rd_endedSoon v4 v5 v6 v7 hm22) 0 rfl rfl (cwV 0 hts gX3_readCap_X3_failHere rfl rfl rfl (by decide +kernel) ⟨Nat.le_of_ble_eq_true rfl, Nat.le_of_ble_eq_true rfl⟩) rfl rfl (Nat.le_of_ble_eq_true rfl) dX3_readCap_22 ⟨Nat.zero_le _, Nat.zero_le _⟩ [0, 1, 2] 3 rfl ⟨rfl, rfl, rfl⟩ (fun H locs hP hD hS => ?_)
      obtain ⟨hP, hD⟩ : va_PD D A ((a_rd, .inr (3, [.ref a_g, .ref a_tp, .int v1, .int rd_end, .int rd_level, .int rd_key, .int v5, .int v6, .int v7])) :: (a_g, .inr (2, [.ref a_g_rowCuts, .ref a_g_columnCuts, .ref a_g_bandRows, .ref a_g_zoneColumns, .ref a_g_rows, .ref a_g_sheets])) :: (a_g_sheets, .inl (ci 0, 5, .inl g_sheets)) :: Rw) H := ⟨hP, hD⟩
      obtain ⟨hn9, hf9, hf⟩ := q_bo_e hf
      obtain ⟨e90, e91, e92, e93, e94, e95, e96⟩ := q_inj7 (Option.some.inj hf)
      rw [hQ, ← e90, ← e91, ← e92, ← e93, ← e94, ← e95, ← e96]
      exact q_zret (pc := 25) hx hb hr hn9 hlocks hP hD hS dX3_readCap_25
  exact hgo _ _ rfl hP hS
/-! X3_read -/
set_option maxRecDepth 100000 in
set_option maxHeartbeats 4000000 in
theorem c_NameReader_read (l : Launch) (D : va_G) (ci : Nat → ClassId) (A : Nat → Prop) (sa : Nat → Nat) (N : Nat) (Rw : va_W) (a_rd : Nat) (a_g : Nat) (a_tp : Nat) (a_tp_bytes : Nat) (a_g_rowCuts : Nat) (a_g_columnCuts : Nat) (a_g_bandRows : Nat) (a_g_zoneColumns : Nat) (a_g_rows : Nat) (a_g_sheets : Nat) (rd_next : Int32) (rd_end : Int32) (rd_level : Int32) (rd_key : Int32) (rd_fault : Int32) (rd_faultPlace : Int32) (rd_endedSoon : Int32) (tp_length : Int32) (tp_bytes : Nat → Int32) (g_rowCuts : Nat → Int32) (g_columnCuts : Nat → Int32) (g_bandRows : Nat → Int32) (g_zoneColumns : Nat → Int32) (g_rows : Nat → Int32) (g_sheets : Nat → Int32) (p1 : Int32) (p2 : Int32) (r : Int32) (o1 : Int32) (o2 : Int32) (o3 : Int32) (o4 : Int32) (o5 : Int32) (o6 : Int32) (o7 : Int32) (hf : f_NameReader_read N rd_next rd_end rd_level rd_key rd_fault rd_faultPlace rd_endedSoon tp_bytes tp_length g_rowCuts g_columnCuts g_bandRows g_zoneColumns g_rows g_sheets p1 p2 = some (r, o1, o2, o3, o4, o5, o6, o7)) : Met l yX3_read wsX3_read ({ frames := 3, cells := 0, slots := 0, locals := 70 }) (va_Pc [.ref a_rd, .int p1, .int p2] (q_N D ci A sa ((a_rd, .inr (3, [.ref a_g, .ref a_tp, .int rd_next, .int rd_end, .int rd_level, .int rd_key, .int rd_fault, .int rd_faultPlace, .int rd_endedSoon])) :: (a_tp, .inr (8, [.ref a_tp_bytes, .int tp_length])) :: (a_tp_bytes, .inl (ci 0, 200, .inl tp_bytes)) :: (a_g, .inr (2, [.ref a_g_rowCuts, .ref a_g_columnCuts, .ref a_g_bandRows, .ref a_g_zoneColumns, .ref a_g_rows, .ref a_g_sheets])) :: (a_g_rowCuts, .inl (ci 0, 5, .inl g_rowCuts)) :: (a_g_columnCuts, .inl (ci 0, 5, .inl g_columnCuts)) :: (a_g_bandRows, .inl (ci 0, 5, .inl g_bandRows)) :: (a_g_zoneColumns, .inl (ci 0, 5, .inl g_zoneColumns)) :: (a_g_rows, .inl (ci 0, 5, .inl g_rows)) :: (a_g_sheets, .inl (ci 0, 5, .inl g_sheets)) :: Rw))) (q_Q (some (.int r)) (q_O D A ((a_rd, .inr (3, [.ref a_g, .ref a_tp, .int o1, .int o2, .int o3, .int o4, .int o5, .int o6, .int o7])) :: (a_tp, .inr (8, [.ref a_tp_bytes, .int tp_length])) :: (a_tp_bytes, .inl (ci 0, 200, .inl tp_bytes)) :: (a_g, .inr (2, [.ref a_g_rowCuts, .ref a_g_columnCuts, .ref a_g_bandRows, .ref a_g_zoneColumns, .ref a_g_rows, .ref a_g_sheets])) :: (a_g_rowCuts, .inl (ci 0, 5, .inl g_rowCuts)) :: (a_g_columnCuts, .inl (ci 0, 5, .inl g_columnCuts)) :: (a_g_bandRows, .inl (ci 0, 5, .inl g_bandRows)) :: (a_g_zoneColumns, .inl (ci 0, 5, .inl g_zoneColumns)) :: (a_g_rows, .inl (ci 0, 5, .inl g_rows)) :: (a_g_sheets, .inl (ci 0, 5, .inl g_sheets)) :: Rw)) A) 0 0 A := by
  refine q_ofW (cc := cX3_read) (maxL := 6) (ret := (some .boolean)) [.ref a_rd, .int p1, .int p2] (plainFor_of_name (by decide)) rfl (Nat.le_of_ble_eq_true rfl) ?_
  intro p e s m below meth c ls Q hQ hx hb hml hr hts hown hlocks hK hA hZ hP hD hS hl
  have hl : lv_has ls 6 [(0, .ref a_rd), (1, .int p1), (2, .int p2)] := hl
  have hown : s.vm.findClass RX3 = some m.cls := hown
  have hinX3 : ∀ w ∈ wsX30, w ∈ wsX3_read := fun _ h => List.mem_cons_of_mem _ (inWX30 _ h)
  have w_1 := hts (Cond.fieldLink RX3 9 "SheetNames$NameReader" "next" "I") (List.mem_cons_of_mem _ t_w846)
  have w_2 := hts (Cond.fieldLink RX3 15 "SheetNames$NameReader" "end" "I") (List.mem_cons_of_mem _ t_w847)
  have w_3 := hts (Cond.fieldLink RX3 24 "SheetNames$NameReader" "fault" "I") (List.mem_cons_of_mem _ t_w843)
  have w_4 := hts (Cond.fieldLink RX3 30 "SheetNames$NameReader" "endedSoon" "Z") (List.mem_cons_of_mem _ t_w845)
  unfold f_NameReader_read at hf
  have hgo : ∀ (H : Heap) (locs : List Loc), H = s.heap → va_P D vwCl ((a_rd, .inr (3, [.ref a_g, .ref a_tp, .int rd_next, .int rd_end, .int rd_level, .int rd_key, .int rd_fault, .int rd_faultPlace, .int rd_endedSoon])) :: (a_tp, .inr (8, [.ref a_tp_bytes, .int tp_length])) :: (a_tp_bytes, .inl (ci 0, 200, .inl tp_bytes)) :: (a_g, .inr (2, [.ref a_g_rowCuts, .ref a_g_columnCuts, .ref a_g_bandRows, .ref a_g_zoneColumns, .ref a_g_rows, .ref a_g_sheets])) :: (a_g_rowCuts, .inl (ci 0, 5, .inl g_rowCuts)) :: (a_g_columnCuts, .inl (ci 0, 5, .inl g_columnCuts)) :: (a_g_bandRows, .inl (ci 0, 5, .inl g_bandRows)) :: (a_g_zoneColumns, .inl (ci 0, 5, .inl g_zoneColumns)) :: (a_g_rows, .inl (ci 0, 5, .inl g_rows)) :: (a_g_sheets, .inl (ci 0, 5, .inl g_sheets)) :: Rw) H → va_S A s.heap H locs → W p l e ({ frames := 3, cells := 0, slots := 0, locals := 70 } : Room) s m ([.ref a_rd, .int p1, .int p2] : List Value).toArray below meth c H locs 0 0 Q (F0 m 0 ls []) := by
    intro H locs hH hP hS
    refine lv_aload_n (pc := 0) hx hb dX3_read_0 rfl (lv_at hl 0 rfl) ?_
    refine lv_iload_n (pc := 1) hx hb dX3_read_1 rfl (lv_at hl 1 rfl) ?_
    refine va_put (pc := 2) (D := D) (ci := 3) (v := .int p1) (ty := .int) (C := RX3) (T := TX3) (N := 9) hx hb hts hinX3 tyX3 tyX3_ok nmX3 hown hK hP hD hS 0 rfl rfl 2 (by decide) w_1 (fun _ h9 => h9) rfl (by decide +kernel) rfl rfl (Nat.le_of_ble_eq_true rfl) dX3_read_2 (fun H locs hP hD hS => ?_)
    obtain ⟨hP, hD⟩ : va_PD D A ((a_rd, .inr (3, [.ref a_g, .ref a_tp, .int p1, .int rd_end, .int rd_level, .int rd_key, .int rd_fault, .int rd_faultPlace, .int rd_endedSoon])) :: (a_tp, .inr (8, [.ref a_tp_bytes, .int tp_length])) :: (a_tp_bytes, .inl (ci 0, 200, .inl tp_bytes)) :: (a_g, .inr (2, [.ref a_g_rowCuts, .ref a_g_columnCuts, .ref a_g_bandRows, .ref a_g_zoneColumns, .ref a_g_rows, .ref a_g_sheets])) :: (a_g_rowCuts, .inl (ci 0, 5, .inl g_rowCuts)) :: (a_g_columnCuts, .inl (ci 0, 5, .inl g_columnCuts)) :: (a_g_bandRows, .inl (ci 0, 5, .inl g_bandRows)) :: (a_g_zoneColumns, .inl (ci 0, 5, .inl g_zoneColumns)) :: (a_g_rows, .inl (ci 0, 5, .inl g_rows)) :: (a_g_sheets, .inl (ci 0, 5, .inl g_sheets)) :: Rw) H := ⟨hP, hD⟩
    refine lv_aload_n (pc := 5) hx hb dX3_read_5 rfl (lv_at hl 0 rfl) ?_
    refine lv_iload_n (pc := 6) hx hb dX3_read_6 rfl (lv_at hl 2 rfl) ?_
    refine va_put (pc := 7) (D := D) (ci := 3) (v := .int p2) (ty := .int) (C := RX3) (T := TX3) (N := 9) hx hb hts hinX3 tyX3 tyX3_ok nmX3 hown hK hP hD hS 0 rfl rfl 3 (by decide) w_2 (fun _ h9 => h9) rfl (by decide +kernel) rfl rfl (Nat.le_of_ble_eq_true rfl) dX3_read_7 (fun H locs hP hD hS => ?_)
    obtain ⟨hP, hD⟩ : va_PD D A ((a_rd, .inr (3, [.ref a_g, .ref a_tp, .int p1, .int p2, .int rd_level, .int rd_key, .int rd_fault, .int rd_faultPlace, .int rd_endedSoon])) :: (a_tp, .inr (8, [.ref a_tp_bytes, .int tp_length])) :: (a_tp_bytes, .inl (ci 0, 200, .inl tp_bytes)) :: (a_g, .inr (2, [.ref a_g_rowCuts, .ref a_g_columnCuts, .ref a_g_bandRows, .ref a_g_zoneColumns, .ref a_g_rows, .ref a_g_sheets])) :: (a_g_rowCuts, .inl (ci 0, 5, .inl g_rowCuts)) :: (a_g_columnCuts, .inl (ci 0, 5, .inl g_columnCuts)) :: (a_g_bandRows, .inl (ci 0, 5, .inl g_bandRows)) :: (a_g_zoneColumns, .inl (ci 0, 5, .inl g_zoneColumns)) :: (a_g_rows, .inl (ci 0, 5, .inl g_rows)) :: (a_g_sheets, .inl (ci 0, 5, .inl g_sheets)) :: Rw) H := ⟨hP, hD⟩
    refine lv_aload_n (pc := 10) hx hb dX3_read_10 rfl (lv_at hl 0 rfl) ?_
    refine lv_iconst (pc := 11) (v := 0) hx hb dX3_read_11 (by decide) ?_
    refine va_put (pc := 12) (D := D) (ci := 3) (v := .int 0) (ty := .int) (C := RX3) (T := TX3) (N := 9) hx hb hts hinX3 tyX3 tyX3_ok nmX3 hown hK hP hD hS 0 rfl rfl 6 (by decide) w_3 (fun _ h9 => h9) rfl (by decide +kernel) rfl rfl (Nat.le_of_ble_eq_true rfl) dX3_read_12 (fun H locs hP hD hS => ?_)
    obtain ⟨hP, hD⟩ : va_PD D A ((a_rd, .inr (3, [.ref a_g, .ref a_tp, .int p1, .int p2, .int rd_level, .int rd_key, .int 0, .int rd_faultPlace, .int rd_endedSoon])) :: (a_tp, .inr (8, [.ref a_tp_bytes, .int tp_length])) :: (a_tp_bytes, .inl (ci 0, 200, .inl tp_bytes)) :: (a_g, .inr (2, [.ref a_g_rowCuts, .ref a_g_columnCuts, .ref a_g_bandRows, .ref a_g_zoneColumns, .ref a_g_rows, .ref a_g_sheets])) :: (a_g_rowCuts, .inl (ci 0, 5, .inl g_rowCuts)) :: (a_g_columnCuts, .inl (ci 0, 5, .inl g_columnCuts)) :: (a_g_bandRows, .inl (ci 0, 5, .inl g_bandRows)) :: (a_g_zoneColumns, .inl (ci 0, 5, .inl g_zoneColumns)) :: (a_g_rows, .inl (ci 0, 5, .inl g_rows)) :: (a_g_sheets, .inl (ci 0, 5, .inl g_sheets)) :: Rw) H := ⟨hP, hD⟩
    refine lv_aload_n (pc := 15) hx hb dX3_read_15 rfl (lv_at hl 0 rfl) ?_
    refine lv_iconst (pc := 16) (v := 0) hx hb dX3_read_16 (by decide) ?_
    refine va_put (pc := 17) (D := D) (ci := 3) (v := .int 0) (ty := .boolean) (C := RX3) (T := TX3) (N := 9) hx hb hts hinX3 tyX3 tyX3_ok nmX3 hown hK hP hD hS 0 rfl rfl 8 (by decide) w_4 (fun _ h9 => h9) rfl (by decide +kernel) rfl rfl (Nat.le_of_ble_eq_true rfl) dX3_read_17 (fun H locs hP hD hS => ?_)
    obtain ⟨hP, hD⟩ : va_PD D A ((a_rd, .inr (3, [.ref a_g, .ref a_tp, .int p1, .int p2, .int rd_level, .int rd_key, .int 0, .int rd_faultPlace, .int 0])) :: (a_tp, .inr (8, [.ref a_tp_bytes, .int tp_length])) :: (a_tp_bytes, .inl (ci 0, 200, .inl tp_bytes)) :: (a_g, .inr (2, [.ref a_g_rowCuts, .ref a_g_columnCuts, .ref a_g_bandRows, .ref a_g_zoneColumns, .ref a_g_rows, .ref a_g_sheets])) :: (a_g_rowCuts, .inl (ci 0, 5, .inl g_rowCuts)) :: (a_g_columnCuts, .inl (ci 0, 5, .inl g_columnCuts)) :: (a_g_bandRows, .inl (ci 0, 5, .inl g_bandRows)) :: (a_g_zoneColumns, .inl (ci 0, 5, .inl g_zoneColumns)) :: (a_g_rows, .inl (ci 0, 5, .inl g_rows)) :: (a_g_sheets, .inl (ci 0, 5, .inl g_sheets)) :: Rw) H := ⟨hP, hD⟩
    refine lv_aload_n (pc := 20) hx hb dX3_read_20 rfl (lv_at hl 0 rfl) ?_
    obtain ⟨v1, hm21, hf⟩ := q_b1_e hf
    refine q_cVr (pc := 21) (As := []) (rest := []) (v0 := (some (.int v1))) ⟨hx, hb, hml, hown, hts⟩ hK hA hZ hP hD hS hl.1 [0, 1, 2] 10 rfl ⟨rfl, rfl, rfl⟩ (c_NameReader_here l D ci A sa N (Rw) a_rd a_g a_tp a_tp_bytes p1 p2 rd_level rd_key 0 rd_faultPlace 0 tp_length tp_bytes v1 hm21) 0 rfl rfl (cwV 0 hts gX3_read_X3_here rfl rfl rfl (by decide +kernel) ⟨Nat.le_of_ble_eq_true rfl, Nat.le_of_ble_eq_true rfl⟩) rfl rfl (Nat.le_of_ble_eq_true rfl) dX3_read_21 ⟨Nat.zero_le _, Nat.zero_le _⟩ (fun locs hS => ?_)
    refine lv_istore_n (pc := 24) (lv' := [(3, .int v1), (0, .ref a_rd), (1, .int p1), (2, .int p2)]) hx hb dX3_read_24 rfl hl (by decide) rfl (fun ls hl => ?_)
    refine lv_iload_n (pc := 25) hx hb dX3_read_25 rfl (lv_at hl 0 rfl) ?_
    refine lv_bipush (pc := 26) (v := 78) hx hb dX3_read_26 (by decide) ?_
    obtain ⟨k42, ek42, hf⟩ := q_j0_e hf
    have J42 : ∀  (H : Heap) (locs : List Loc) (ls : Array Slot), k42 = some (r, o1, o2, o3, o4, o5, o6, o7) → va_P D vwCl ((a_rd, .inr (3, [.ref a_g, .ref a_tp, .int p1, .int p2, .int rd_level, .int rd_key, .int 0, .int rd_faultPlace, .int 0])) :: (a_tp, .inr (8, [.ref a_tp_bytes, .int tp_length])) :: (a_tp_bytes, .inl (ci 0, 200, .inl tp_bytes)) :: (a_g, .inr (2, [.ref a_g_rowCuts, .ref a_g_columnCuts, .ref a_g_bandRows, .ref a_g_zoneColumns, .ref a_g_rows, .ref a_g_sheets])) :: (a_g_rowCuts, .inl (ci 0, 5, .inl g_rowCuts)) :: (a_g_columnCuts, .inl (ci 0, 5, .inl g_columnCuts)) :: (a_g_bandRows, .inl (ci 0, 5, .inl g_bandRows)) :: (a_g_zoneColumns, .inl (ci 0, 5, .inl g_zoneColumns)) :: (a_g_rows, .inl (ci 0, 5, .inl g_rows)) :: (a_g_sheets, .inl (ci 0, 5, .inl g_sheets)) :: Rw) H → va_D A ((a_rd, .inr (3, [.ref a_g, .ref a_tp, .int p1, .int p2, .int rd_level, .int rd_key, .int 0, .int rd_faultPlace, .int 0])) :: (a_tp, .inr (8, [.ref a_tp_bytes, .int tp_length])) :: (a_tp_bytes, .inl (ci 0, 200, .inl tp_bytes)) :: (a_g, .inr (2, [.ref a_g_rowCuts, .ref a_g_columnCuts, .ref a_g_bandRows, .ref a_g_zoneColumns, .ref a_g_rows, .ref a_g_sheets])) :: (a_g_rowCuts, .inl (ci 0, 5, .inl g_rowCuts)) :: (a_g_columnCuts, .inl (ci 0, 5, .inl g_columnCuts)) :: (a_g_bandRows, .inl (ci 0, 5, .inl g_bandRows)) :: (a_g_zoneColumns, .inl (ci 0, 5, .inl g_zoneColumns)) :: (a_g_rows, .inl (ci 0, 5, .inl g_rows)) :: (a_g_sheets, .inl (ci 0, 5, .inl g_sheets)) :: Rw) → va_S A s.heap H locs → lv_has ls 6 [(0, .ref a_rd), (3, .int v1)] → W p l e ({ frames := 3, cells := 0, slots := 0, locals := 70 } : Room) s m ([.ref a_rd, .int p1, .int p2] : List Value).toArray below meth c H locs 0 0 Q (F0 m 42 ls []) := by
      intro  H locs ls hf hP hD hS hl
      have hf := (ek42).symm.trans hf
      refine lv_aload_n (pc := 42) hx hb dX3_read_42 rfl (lv_at hl 0 rfl) ?_
      refine lv_dup (pc := 43) hx hb dX3_read_43 rfl ?_
      refine va_get (pc := 44) (D := D) (ci := 3) (v := .int p1) (C := RX3) (T := TX3) (N := 9) hx hb hts hinX3 hown hK hP 0 rfl rfl 2 (by decide) w_1 (fun _ h9 => h9) rfl dX3_read_44 ?_
      refine lv_iconst (pc := 47) (v := 1) hx hb dX3_read_47 (by decide) ?_
      refine lv_iadd (pc := 48) hx hb dX3_read_48 ?_
      obtain ⟨v2, ev2, hf⟩ := q_nm_e hf
      refine q_topi ev2 ?_
      refine va_put (pc := 49) (D := D) (ci := 3) (v := .int v2) (ty := .int) (C := RX3) (T := TX3) (N := 9) hx hb hts hinX3 tyX3 tyX3_ok nmX3 hown hK hP hD hS 0 rfl rfl 2 (by decide) w_1 (fun _ h9 => h9) rfl (by decide +kernel) rfl rfl (Nat.le_of_ble_eq_true rfl) dX3_read_49 (fun H locs hP hD hS => ?_)
      obtain ⟨hP, hD⟩ : va_PD D A ((a_rd, .inr (3, [.ref a_g, .ref a_tp, .int v2, .int p2, .int rd_level, .int rd_key, .int 0, .int rd_faultPlace, .int 0])) :: (a_tp, .inr (8, [.ref a_tp_bytes, .int tp_length])) :: (a_tp_bytes, .inl (ci 0, 200, .inl tp_bytes)) :: (a_g, .inr (2, [.ref a_g_rowCuts, .ref a_g_columnCuts, .ref a_g_bandRows, .ref a_g_zoneColumns, .ref a_g_rows, .ref a_g_sheets])) :: (a_g_rowCuts, .inl (ci 0, 5, .inl g_rowCuts)) :: (a_g_columnCuts, .inl (ci 0, 5, .inl g_columnCuts)) :: (a_g_bandRows, .inl (ci 0, 5, .inl g_bandRows)) :: (a_g_zoneColumns, .inl (ci 0, 5, .inl g_zoneColumns)) :: (a_g_rows, .inl (ci 0, 5, .inl g_rows)) :: (a_g_sheets, .inl (ci 0, 5, .inl g_sheets)) :: Rw) H := ⟨hP, hD⟩
      refine lv_aload_n (pc := 52) hx hb dX3_read_52 rfl (lv_at hl 0 rfl) ?_
      obtain ⟨v3, hm53, hf⟩ := q_b1_e hf
      refine q_cVr (pc := 53) (As := []) (rest := []) (v0 := (some (.int v3))) ⟨hx, hb, hml, hown, hts⟩ hK hA hZ hP hD hS hl.1 [0, 1, 2] 10 rfl ⟨rfl, rfl, rfl⟩ (c_NameReader_here l D ci A sa N (Rw) a_rd a_g a_tp a_tp_bytes v2 p2 rd_level rd_key 0 rd_faultPlace 0 tp_length tp_bytes v3 hm53) 0 rfl rfl (cwV 0 hts gX3_read_X3_here rfl rfl rfl (by decide +kernel) ⟨Nat.le_of_ble_eq_true rfl, Nat.le_of_ble_eq_true rfl⟩) rfl rfl (Nat.le_of_ble_eq_true rfl) dX3_read_53 ⟨Nat.zero_le _, Nat.zero_le _⟩ (fun locs hS => ?_)
      refine lv_istore (pc := 56) (lv' := [(4, .int v3), (0, .ref a_rd), (3, .int v1)]) hx hb dX3_read_56 hl (by decide) rfl (fun ls hl => ?_)
      refine lv_iload (pc := 58) hx hb dX3_read_58 (lv_at hl 0 rfl) ?_
      refine lv_bipush (pc := 60) (v := 90) hx hb dX3_read_60 (by decide) ?_
      refine q_icmp_ne (pc := 62) (tgt := 81) hx hb dX3_read_62 (by decide) rfl hf (fun hf => ?_) (fun hf => ?_)
      · refine lv_iload (pc := 81) hx hb dX3_read_81 (lv_at hl 0 rfl) ?_
        refine lv_bipush (pc := 83) (v := 65) hx hb dX3_read_83 (by decide) ?_
        obtain ⟨k95, ek95, hf⟩ := q_j0_e hf
        have J95 : ∀  (H : Heap) (locs : List Loc) (ls : Array Slot), k95 = some (r, o1, o2, o3, o4, o5, o6, o7) → va_P D vwCl ((a_rd, .inr (3, [.ref a_g, .ref a_tp, .int v2, .int p2, .int rd_level, .int rd_key, .int 0, .int rd_faultPlace, .int 0])) :: (a_tp, .inr (8, [.ref a_tp_bytes, .int tp_length])) :: (a_tp_bytes, .inl (ci 0, 200, .inl tp_bytes)) :: (a_g, .inr (2, [.ref a_g_rowCuts, .ref a_g_columnCuts, .ref a_g_bandRows, .ref a_g_zoneColumns, .ref a_g_rows, .ref a_g_sheets])) :: (a_g_rowCuts, .inl (ci 0, 5, .inl g_rowCuts)) :: (a_g_columnCuts, .inl (ci 0, 5, .inl g_columnCuts)) :: (a_g_bandRows, .inl (ci 0, 5, .inl g_bandRows)) :: (a_g_zoneColumns, .inl (ci 0, 5, .inl g_zoneColumns)) :: (a_g_rows, .inl (ci 0, 5, .inl g_rows)) :: (a_g_sheets, .inl (ci 0, 5, .inl g_sheets)) :: Rw) H → va_D A ((a_rd, .inr (3, [.ref a_g, .ref a_tp, .int v2, .int p2, .int rd_level, .int rd_key, .int 0, .int rd_faultPlace, .int 0])) :: (a_tp, .inr (8, [.ref a_tp_bytes, .int tp_length])) :: (a_tp_bytes, .inl (ci 0, 200, .inl tp_bytes)) :: (a_g, .inr (2, [.ref a_g_rowCuts, .ref a_g_columnCuts, .ref a_g_bandRows, .ref a_g_zoneColumns, .ref a_g_rows, .ref a_g_sheets])) :: (a_g_rowCuts, .inl (ci 0, 5, .inl g_rowCuts)) :: (a_g_columnCuts, .inl (ci 0, 5, .inl g_columnCuts)) :: (a_g_bandRows, .inl (ci 0, 5, .inl g_bandRows)) :: (a_g_zoneColumns, .inl (ci 0, 5, .inl g_zoneColumns)) :: (a_g_rows, .inl (ci 0, 5, .inl g_rows)) :: (a_g_sheets, .inl (ci 0, 5, .inl g_sheets)) :: Rw) → va_S A s.heap H locs → lv_has ls 6 [(0, .ref a_rd)] → W p l e ({ frames := 3, cells := 0, slots := 0, locals := 70 } : Room) s m ([.ref a_rd, .int p1, .int p2] : List Value).toArray below meth c H locs 0 0 Q (F0 m 95 ls []) := by
          intro  H locs ls hf hP hD hS hl
          have hf := (ek95).symm.trans hf
          refine lv_aload_n (pc := 95) hx hb dX3_read_95 rfl (lv_at hl 0 rfl) ?_
          obtain ⟨v4, v5, v6, v7, hm96, hf⟩ := q_b4_e hf
          refine q_cV (pc := 96) (As := []) (rest := []) (v0 := (some (.int v4))) ⟨hx, hb, hml, hown, hts⟩ hK hA hZ hP hD hS hl.1 [0, 1, 2, 3, 4, 5, 6, 7, 8, 9] 10 rfl ⟨rfl, rfl, rfl⟩ (c_NameReader_failHere l D ci A sa N ((a_tp, .inr (8, [.ref a_tp_bytes, .int tp_length])) :: (a_tp_bytes, .inl (ci 0, 200, .inl tp_bytes)) :: (a_g, .inr (2, [.ref a_g_rowCuts, .ref a_g_columnCuts, .ref a_g_bandRows, .ref a_g_zoneColumns, .ref a_g_rows, .ref a_g_sheets])) :: (a_g_rowCuts, .inl (ci 0, 5, .inl g_rowCuts)) :: (a_g_columnCuts, .inl (ci 0, 5, .inl g_columnCuts)) :: (a_g_bandRows, .inl (ci 0, 5, .inl g_bandRows)) :: (a_g_zoneColumns, .inl (ci 0, 5, .inl g_zoneColumns)) :: (a_g_rows, .inl (ci 0, 5, .inl g_rows)) :: (a_g_sheets, .inl (ci 0, 5, .inl g_sheets)) :: Rw) a_rd a_g a_tp v2 p2 rd_level rd_key 0 rd_faultPlace 0 v4 v5 v6 v7 hm96) 0 rfl rfl (cwV 0 hts gX3_read_X3_failHere rfl rfl rfl (by decide +kernel) ⟨Nat.le_of_ble_eq_true rfl, Nat.le_of_ble_eq_true rfl⟩) rfl rfl (Nat.le_of_ble_eq_true rfl) dX3_read_96 ⟨Nat.zero_le _, Nat.zero_le _⟩ [0, 1, 2, 3, 4, 5, 6, 7, 8, 9] 10 rfl ⟨rfl, rfl, rfl⟩ (fun H locs hP hD hS => ?_)
          obtain ⟨hP, hD⟩ : va_PD D A ((a_rd, .inr (3, [.ref a_g, .ref a_tp, .int v2, .int p2, .int rd_level, .int rd_key, .int v5, .int v6, .int v7])) :: (a_tp, .inr (8, [.ref a_tp_bytes, .int tp_length])) :: (a_tp_bytes, .inl (ci 0, 200, .inl tp_bytes)) :: (a_g, .inr (2, [.ref a_g_rowCuts, .ref a_g_columnCuts, .ref a_g_bandRows, .ref a_g_zoneColumns, .ref a_g_rows, .ref a_g_sheets])) :: (a_g_rowCuts, .inl (ci 0, 5, .inl g_rowCuts)) :: (a_g_columnCuts, .inl (ci 0, 5, .inl g_columnCuts)) :: (a_g_bandRows, .inl (ci 0, 5, .inl g_bandRows)) :: (a_g_zoneColumns, .inl (ci 0, 5, .inl g_zoneColumns)) :: (a_g_rows, .inl (ci 0, 5, .inl g_rows)) :: (a_g_sheets, .inl (ci 0, 5, .inl g_sheets)) :: Rw) H := ⟨hP, hD⟩
          obtain ⟨hn9, hf9, hf⟩ := q_bo_e hf
          obtain ⟨e90, e91, e92, e93, e94, e95, e96, e97⟩ := q_inj8 (Option.some.inj hf)
          rw [hQ, ← e90, ← e91, ← e92, ← e93, ← e94, ← e95, ← e96, ← e97]
          exact q_zret (pc := 99) hx hb hr hn9 hlocks hP hD hS dX3_read_99
        refine q_icmp_lt (pc := 85) (tgt := 95) hx hb dX3_read_85 (by decide) rfl hf (fun hf => ?_) (fun hf => ?_)
        · exact J95  _ _ _ hf hP hD hS (lv_sub hl [1] rfl)
        · refine lv_iload (pc := 88) hx hb dX3_read_88 (lv_at hl 0 rfl) ?_
          refine lv_bipush (pc := 90) (v := 86) hx hb dX3_read_90 (by decide) ?_
          refine q_icmp_le (pc := 92) (tgt := 100) hx hb dX3_read_92 (by decide) rfl hf (fun hf => ?_) (fun hf => ?_)
          · refine lv_aload_n (pc := 100) hx hb dX3_read_100 rfl (lv_at hl 1 rfl) ?_
            refine lv_dup (pc := 101) hx hb dX3_read_101 rfl ?_
            refine va_get (pc := 102) (D := D) (ci := 3) (v := .int v2) (C := RX3) (T := TX3) (N := 9) hx hb hts hinX3 hown hK hP 0 rfl rfl 2 (by decide) w_1 (fun _ h9 => h9) rfl dX3_read_102 ?_
            refine lv_iconst (pc := 105) (v := 1) hx hb dX3_read_105 (by decide) ?_
            refine lv_iadd (pc := 106) hx hb dX3_read_106 ?_
            obtain ⟨v8, ev8, hf⟩ := q_nm_e hf
            refine q_topi ev8 ?_
            refine va_put (pc := 107) (D := D) (ci := 3) (v := .int v8) (ty := .int) (C := RX3) (T := TX3) (N := 9) hx hb hts hinX3 tyX3 tyX3_ok nmX3 hown hK hP hD hS 0 rfl rfl 2 (by decide) w_1 (fun _ h9 => h9) rfl (by decide +kernel) rfl rfl (Nat.le_of_ble_eq_true rfl) dX3_read_107 (fun H locs hP hD hS => ?_)
            obtain ⟨hP, hD⟩ : va_PD D A ((a_rd, .inr (3, [.ref a_g, .ref a_tp, .int v8, .int p2, .int rd_level, .int rd_key, .int 0, .int rd_faultPlace, .int 0])) :: (a_tp, .inr (8, [.ref a_tp_bytes, .int tp_length])) :: (a_tp_bytes, .inl (ci 0, 200, .inl tp_bytes)) :: (a_g, .inr (2, [.ref a_g_rowCuts, .ref a_g_columnCuts, .ref a_g_bandRows, .ref a_g_zoneColumns, .ref a_g_rows, .ref a_g_sheets])) :: (a_g_rowCuts, .inl (ci 0, 5, .inl g_rowCuts)) :: (a_g_columnCuts, .inl (ci 0, 5, .inl g_columnCuts)) :: (a_g_bandRows, .inl (ci 0, 5, .inl g_bandRows)) :: (a_g_zoneColumns, .inl (ci 0, 5, .inl g_zoneColumns)) :: (a_g_rows, .inl (ci 0, 5, .inl g_rows)) :: (a_g_sheets, .inl (ci 0, 5, .inl g_sheets)) :: Rw) H := ⟨hP, hD⟩
            refine lv_iload (pc := 110) hx hb dX3_read_110 (lv_at hl 0 rfl) ?_
            refine lv_bipush (pc := 112) (v := 65) hx hb dX3_read_112 (by decide) ?_
            refine lv_isub (pc := 114) hx hb dX3_read_114 ?_
            obtain ⟨v9, ev9, hf⟩ := q_nm_e hf
            refine q_topi ev9 ?_
            refine lv_istore (pc := 115) (lv' := [(5, .int v9), (4, .int v3), (0, .ref a_rd), (3, .int v1)]) hx hb dX3_read_115 hl (by decide) rfl (fun ls hl => ?_)
            refine lv_aload_n (pc := 117) hx hb dX3_read_117 rfl (lv_at hl 2 rfl) ?_
            refine lv_iload_n (pc := 118) hx hb dX3_read_118 rfl (lv_at hl 3 rfl) ?_
            refine lv_bipush (pc := 119) (v := 78) hx hb dX3_read_119 (by decide) ?_
            obtain ⟨k137, ek137, hf⟩ := q_j1_e hf
            have J137 : ∀ (v10 : Int32) (H : Heap) (locs : List Loc) (ls : Array Slot), k137 v10 = some (r, o1, o2, o3, o4, o5, o6, o7) → va_P D vwCl ((a_rd, .inr (3, [.ref a_g, .ref a_tp, .int v8, .int p2, .int rd_level, .int rd_key, .int 0, .int rd_faultPlace, .int 0])) :: (a_tp, .inr (8, [.ref a_tp_bytes, .int tp_length])) :: (a_tp_bytes, .inl (ci 0, 200, .inl tp_bytes)) :: (a_g, .inr (2, [.ref a_g_rowCuts, .ref a_g_columnCuts, .ref a_g_bandRows, .ref a_g_zoneColumns, .ref a_g_rows, .ref a_g_sheets])) :: (a_g_rowCuts, .inl (ci 0, 5, .inl g_rowCuts)) :: (a_g_columnCuts, .inl (ci 0, 5, .inl g_columnCuts)) :: (a_g_bandRows, .inl (ci 0, 5, .inl g_bandRows)) :: (a_g_zoneColumns, .inl (ci 0, 5, .inl g_zoneColumns)) :: (a_g_rows, .inl (ci 0, 5, .inl g_rows)) :: (a_g_sheets, .inl (ci 0, 5, .inl g_sheets)) :: Rw) H → va_D A ((a_rd, .inr (3, [.ref a_g, .ref a_tp, .int v8, .int p2, .int rd_level, .int rd_key, .int 0, .int rd_faultPlace, .int 0])) :: (a_tp, .inr (8, [.ref a_tp_bytes, .int tp_length])) :: (a_tp_bytes, .inl (ci 0, 200, .inl tp_bytes)) :: (a_g, .inr (2, [.ref a_g_rowCuts, .ref a_g_columnCuts, .ref a_g_bandRows, .ref a_g_zoneColumns, .ref a_g_rows, .ref a_g_sheets])) :: (a_g_rowCuts, .inl (ci 0, 5, .inl g_rowCuts)) :: (a_g_columnCuts, .inl (ci 0, 5, .inl g_columnCuts)) :: (a_g_bandRows, .inl (ci 0, 5, .inl g_bandRows)) :: (a_g_zoneColumns, .inl (ci 0, 5, .inl g_zoneColumns)) :: (a_g_rows, .inl (ci 0, 5, .inl g_rows)) :: (a_g_sheets, .inl (ci 0, 5, .inl g_sheets)) :: Rw) → va_S A s.heap H locs → lv_has ls 6 [] → W p l e ({ frames := 3, cells := 0, slots := 0, locals := 70 } : Room) s m ([.ref a_rd, .int p1, .int p2] : List Value).toArray below meth c H locs 0 0 Q (F0 m 137 ls [.int v10, .ref a_rd]) := by
              intro v10 H locs ls hf hP hD hS hl
              have hf := (ek137 v10).symm.trans hf
              obtain ⟨v11, v12, v13, v14, v15, v16, v17, hm137, hf⟩ := q_b7_e hf
              refine q_cV (pc := 137) (As := [.int v10]) (rest := []) (v0 := (some (.int v11))) ⟨hx, hb, hml, hown, hts⟩ hK hA hZ hP hD hS hl.1 [0, 1, 2, 3, 4, 5, 6, 7, 8, 9] 10 rfl ⟨rfl, rfl, rfl⟩ (c_NameReader_readNumbers l D ci A sa N (Rw) a_rd a_g a_tp a_tp_bytes a_g_rowCuts a_g_columnCuts a_g_bandRows a_g_zoneColumns a_g_rows a_g_sheets v8 p2 rd_level rd_key 0 rd_faultPlace 0 tp_length tp_bytes g_rowCuts g_columnCuts g_bandRows g_zoneColumns g_rows g_sheets v10 v11 v12 v13 v14 v15 v16 v17 hm137) 0 rfl rfl (cwV 1 hts gX3_read_X3_readNumbers rfl rfl rfl (by decide +kernel) ⟨Nat.le_of_ble_eq_true rfl, Nat.le_of_ble_eq_true rfl⟩) rfl rfl (Nat.le_of_ble_eq_true rfl) dX3_read_137 ⟨Nat.zero_le _, Nat.zero_le _⟩ [0, 1, 2, 3, 4, 5, 6, 7, 8, 9] 10 rfl ⟨rfl, rfl, rfl⟩ (fun H locs hP hD hS => ?_)
              obtain ⟨hP, hD⟩ : va_PD D A ((a_rd, .inr (3, [.ref a_g, .ref a_tp, .int v12, .int p2, .int v13, .int v14, .int v15, .int v16, .int v17])) :: (a_tp, .inr (8, [.ref a_tp_bytes, .int tp_length])) :: (a_tp_bytes, .inl (ci 0, 200, .inl tp_bytes)) :: (a_g, .inr (2, [.ref a_g_rowCuts, .ref a_g_columnCuts, .ref a_g_bandRows, .ref a_g_zoneColumns, .ref a_g_rows, .ref a_g_sheets])) :: (a_g_rowCuts, .inl (ci 0, 5, .inl g_rowCuts)) :: (a_g_columnCuts, .inl (ci 0, 5, .inl g_columnCuts)) :: (a_g_bandRows, .inl (ci 0, 5, .inl g_bandRows)) :: (a_g_zoneColumns, .inl (ci 0, 5, .inl g_zoneColumns)) :: (a_g_rows, .inl (ci 0, 5, .inl g_rows)) :: (a_g_sheets, .inl (ci 0, 5, .inl g_sheets)) :: Rw) H := ⟨hP, hD⟩
              obtain ⟨hn9, hf9, hf⟩ := q_bo_e hf
              obtain ⟨e90, e91, e92, e93, e94, e95, e96, e97⟩ := q_inj8 (Option.some.inj hf)
              rw [hQ, ← e90, ← e91, ← e92, ← e93, ← e94, ← e95, ← e96, ← e97]
              exact q_zret (pc := 140) hx hb hr hn9 hlocks hP hD hS dX3_read_140
            refine q_icmp_ne (pc := 121) (tgt := 132) hx hb dX3_read_121 (by decide) rfl hf (fun hf => ?_) (fun hf => ?_)
            · refine lv_bipush (pc := 132) (v := 22) hx hb dX3_read_132 (by decide) ?_
              refine lv_iload (pc := 134) hx hb dX3_read_134 (lv_at hl 0 rfl) ?_
              refine lv_iadd (pc := 136) hx hb dX3_read_136 ?_
              exact J137 (22 + v9) _ _ _ hf hP hD hS (lv_sub hl [] rfl)
            · refine lv_bipush (pc := 124) (v := 21) hx hb dX3_read_124 (by decide) ?_
              refine lv_iload (pc := 126) hx hb dX3_read_126 (lv_at hl 0 rfl) ?_
              refine lv_isub (pc := 128) hx hb dX3_read_128 ?_
              refine lv_goto (pc := 129) (tgt := 137) hx hb dX3_read_129 (by decide) ?_
              exact J137 (21 - v9) _ _ _ hf hP hD hS (lv_sub hl [] rfl)
          · exact J95  _ _ _ hf hP hD hS (lv_sub hl [1] rfl)
      · refine lv_aload_n (pc := 65) hx hb dX3_read_65 rfl (lv_at hl 1 rfl) ?_
        refine lv_iload_n (pc := 66) hx hb dX3_read_66 rfl (lv_at hl 2 rfl) ?_
        refine lv_bipush (pc := 67) (v := 78) hx hb dX3_read_67 (by decide) ?_
        obtain ⟨k77, ek77, hf⟩ := q_j1_e hf
        have J77 : ∀ (v18 : Int32) (H : Heap) (locs : List Loc) (ls : Array Slot), k77 v18 = some (r, o1, o2, o3, o4, o5, o6, o7) → va_P D vwCl ((a_rd, .inr (3, [.ref a_g, .ref a_tp, .int v2, .int p2, .int rd_level, .int rd_key, .int 0, .int rd_faultPlace, .int 0])) :: (a_tp, .inr (8, [.ref a_tp_bytes, .int tp_length])) :: (a_tp_bytes, .inl (ci 0, 200, .inl tp_bytes)) :: (a_g, .inr (2, [.ref a_g_rowCuts, .ref a_g_columnCuts, .ref a_g_bandRows, .ref a_g_zoneColumns, .ref a_g_rows, .ref a_g_sheets])) :: (a_g_rowCuts, .inl (ci 0, 5, .inl g_rowCuts)) :: (a_g_columnCuts, .inl (ci 0, 5, .inl g_columnCuts)) :: (a_g_bandRows, .inl (ci 0, 5, .inl g_bandRows)) :: (a_g_zoneColumns, .inl (ci 0, 5, .inl g_zoneColumns)) :: (a_g_rows, .inl (ci 0, 5, .inl g_rows)) :: (a_g_sheets, .inl (ci 0, 5, .inl g_sheets)) :: Rw) H → va_D A ((a_rd, .inr (3, [.ref a_g, .ref a_tp, .int v2, .int p2, .int rd_level, .int rd_key, .int 0, .int rd_faultPlace, .int 0])) :: (a_tp, .inr (8, [.ref a_tp_bytes, .int tp_length])) :: (a_tp_bytes, .inl (ci 0, 200, .inl tp_bytes)) :: (a_g, .inr (2, [.ref a_g_rowCuts, .ref a_g_columnCuts, .ref a_g_bandRows, .ref a_g_zoneColumns, .ref a_g_rows, .ref a_g_sheets])) :: (a_g_rowCuts, .inl (ci 0, 5, .inl g_rowCuts)) :: (a_g_columnCuts, .inl (ci 0, 5, .inl g_columnCuts)) :: (a_g_bandRows, .inl (ci 0, 5, .inl g_bandRows)) :: (a_g_zoneColumns, .inl (ci 0, 5, .inl g_zoneColumns)) :: (a_g_rows, .inl (ci 0, 5, .inl g_rows)) :: (a_g_sheets, .inl (ci 0, 5, .inl g_sheets)) :: Rw) → va_S A s.heap H locs → lv_has ls 6 [] → W p l e ({ frames := 3, cells := 0, slots := 0, locals := 70 } : Room) s m ([.ref a_rd, .int p1, .int p2] : List Value).toArray below meth c H locs 0 0 Q (F0 m 77 ls [.int v18, .ref a_rd]) := by
          intro v18 H locs ls hf hP hD hS hl
          have hf := (ek77 v18).symm.trans hf
          obtain ⟨v19, v20, v21, v22, v23, v24, v25, hm77, hf⟩ := q_b7_e hf
          refine q_cV (pc := 77) (As := [.int v18]) (rest := []) (v0 := (some (.int v19))) ⟨hx, hb, hml, hown, hts⟩ hK hA hZ hP hD hS hl.1 [0, 3, 9, 1, 2, 4, 5, 6, 7, 8] 10 rfl ⟨rfl, rfl, rfl⟩ (c_NameReader_readCap l D ci A sa N ((a_tp, .inr (8, [.ref a_tp_bytes, .int tp_length])) :: (a_tp_bytes, .inl (ci 0, 200, .inl tp_bytes)) :: (a_g_rowCuts, .inl (ci 0, 5, .inl g_rowCuts)) :: (a_g_columnCuts, .inl (ci 0, 5, .inl g_columnCuts)) :: (a_g_bandRows, .inl (ci 0, 5, .inl g_bandRows)) :: (a_g_zoneColumns, .inl (ci 0, 5, .inl g_zoneColumns)) :: (a_g_rows, .inl (ci 0, 5, .inl g_rows)) :: Rw) a_rd a_g a_tp a_g_rowCuts a_g_columnCuts a_g_bandRows a_g_zoneColumns a_g_rows a_g_sheets v2 p2 rd_level rd_key 0 rd_faultPlace 0 g_sheets v18 v19 v20 v21 v22 v23 v24 v25 hm77) 0 rfl rfl (cwV 1 hts gX3_read_X3_readCap rfl rfl rfl (by decide +kernel) ⟨Nat.le_of_ble_eq_true rfl, Nat.le_of_ble_eq_true rfl⟩) rfl rfl (Nat.le_of_ble_eq_true rfl) dX3_read_77 ⟨Nat.zero_le _, Nat.zero_le _⟩ [0, 3, 4, 1, 5, 6, 7, 8, 9, 2] 10 rfl ⟨rfl, rfl, rfl⟩ (fun H locs hP hD hS => ?_)
          obtain ⟨hP, hD⟩ : va_PD D A ((a_rd, .inr (3, [.ref a_g, .ref a_tp, .int v20, .int p2, .int v21, .int v22, .int v23, .int v24, .int v25])) :: (a_tp, .inr (8, [.ref a_tp_bytes, .int tp_length])) :: (a_tp_bytes, .inl (ci 0, 200, .inl tp_bytes)) :: (a_g, .inr (2, [.ref a_g_rowCuts, .ref a_g_columnCuts, .ref a_g_bandRows, .ref a_g_zoneColumns, .ref a_g_rows, .ref a_g_sheets])) :: (a_g_rowCuts, .inl (ci 0, 5, .inl g_rowCuts)) :: (a_g_columnCuts, .inl (ci 0, 5, .inl g_columnCuts)) :: (a_g_bandRows, .inl (ci 0, 5, .inl g_bandRows)) :: (a_g_zoneColumns, .inl (ci 0, 5, .inl g_zoneColumns)) :: (a_g_rows, .inl (ci 0, 5, .inl g_rows)) :: (a_g_sheets, .inl (ci 0, 5, .inl g_sheets)) :: Rw) H := ⟨hP, hD⟩
          obtain ⟨hn9, hf9, hf⟩ := q_bo_e hf
          obtain ⟨e90, e91, e92, e93, e94, e95, e96, e97⟩ := q_inj8 (Option.some.inj hf)
          rw [hQ, ← e90, ← e91, ← e92, ← e93, ← e94, ← e95, ← e96, ← e97]
          exact q_zret (pc := 80) hx hb hr hn9 hlocks hP hD hS dX3_read_80
        refine q_icmp_ne (pc := 69) (tgt := 76) hx hb dX3_read_69 (by decide) rfl hf (fun hf => ?_) (fun hf => ?_)
        · refine lv_iconst (pc := 76) (v := 0) hx hb dX3_read_76 (by decide) ?_
          exact J77 0 _ _ _ hf hP hD hS (lv_sub hl [] rfl)
        · refine lv_iconst (pc := 72) (v := 1) hx hb dX3_read_72 (by decide) ?_
          refine lv_goto (pc := 73) (tgt := 77) hx hb dX3_read_73 (by decide) ?_
          exact J77 1 _ _ _ hf hP hD hS (lv_sub hl [] rfl)
    refine q_icmp_eq (pc := 28) (tgt := 42) hx hb dX3_read_28 (by decide) rfl hf (fun hf => ?_) (fun hf => ?_)
    · exact J42  _ _ _ hf hP hD hS (lv_sub hl [1, 0] rfl)
    · refine lv_iload_n (pc := 31) hx hb dX3_read_31 rfl (lv_at hl 0 rfl) ?_
      refine lv_bipush (pc := 32) (v := 83) hx hb dX3_read_32 (by decide) ?_
      refine q_icmp_eq (pc := 34) (tgt := 42) hx hb dX3_read_34 (by decide) rfl hf (fun hf => ?_) (fun hf => ?_)
      · exact J42  _ _ _ hf hP hD hS (lv_sub hl [1, 0] rfl)
      · refine lv_aload_n (pc := 37) hx hb dX3_read_37 rfl (lv_at hl 1 rfl) ?_
        obtain ⟨v26, v27, v28, v29, hm38, hf⟩ := q_b4_e hf
        refine q_cV (pc := 38) (As := []) (rest := []) (v0 := (some (.int v26))) ⟨hx, hb, hml, hown, hts⟩ hK hA hZ hP hD hS hl.1 [0, 1, 2, 3, 4, 5, 6, 7, 8, 9] 10 rfl ⟨rfl, rfl, rfl⟩ (c_NameReader_failHere l D ci A sa N ((a_tp, .inr (8, [.ref a_tp_bytes, .int tp_length])) :: (a_tp_bytes, .inl (ci 0, 200, .inl tp_bytes)) :: (a_g, .inr (2, [.ref a_g_rowCuts, .ref a_g_columnCuts, .ref a_g_bandRows, .ref a_g_zoneColumns, .ref a_g_rows, .ref a_g_sheets])) :: (a_g_rowCuts, .inl (ci 0, 5, .inl g_rowCuts)) :: (a_g_columnCuts, .inl (ci 0, 5, .inl g_columnCuts)) :: (a_g_bandRows, .inl (ci 0, 5, .inl g_bandRows)) :: (a_g_zoneColumns, .inl (ci 0, 5, .inl g_zoneColumns)) :: (a_g_rows, .inl (ci 0, 5, .inl g_rows)) :: (a_g_sheets, .inl (ci 0, 5, .inl g_sheets)) :: Rw) a_rd a_g a_tp p1 p2 rd_level rd_key 0 rd_faultPlace 0 v26 v27 v28 v29 hm38) 0 rfl rfl (cwV 0 hts gX3_read_X3_failHere rfl rfl rfl (by decide +kernel) ⟨Nat.le_of_ble_eq_true rfl, Nat.le_of_ble_eq_true rfl⟩) rfl rfl (Nat.le_of_ble_eq_true rfl) dX3_read_38 ⟨Nat.zero_le _, Nat.zero_le _⟩ [0, 1, 2, 3, 4, 5, 6, 7, 8, 9] 10 rfl ⟨rfl, rfl, rfl⟩ (fun H locs hP hD hS => ?_)
        obtain ⟨hP, hD⟩ : va_PD D A ((a_rd, .inr (3, [.ref a_g, .ref a_tp, .int p1, .int p2, .int rd_level, .int rd_key, .int v27, .int v28, .int v29])) :: (a_tp, .inr (8, [.ref a_tp_bytes, .int tp_length])) :: (a_tp_bytes, .inl (ci 0, 200, .inl tp_bytes)) :: (a_g, .inr (2, [.ref a_g_rowCuts, .ref a_g_columnCuts, .ref a_g_bandRows, .ref a_g_zoneColumns, .ref a_g_rows, .ref a_g_sheets])) :: (a_g_rowCuts, .inl (ci 0, 5, .inl g_rowCuts)) :: (a_g_columnCuts, .inl (ci 0, 5, .inl g_columnCuts)) :: (a_g_bandRows, .inl (ci 0, 5, .inl g_bandRows)) :: (a_g_zoneColumns, .inl (ci 0, 5, .inl g_zoneColumns)) :: (a_g_rows, .inl (ci 0, 5, .inl g_rows)) :: (a_g_sheets, .inl (ci 0, 5, .inl g_sheets)) :: Rw) H := ⟨hP, hD⟩
        obtain ⟨hn9, hf9, hf⟩ := q_bo_e hf
        obtain ⟨e90, e91, e92, e93, e94, e95, e96, e97⟩ := q_inj8 (Option.some.inj hf)
        rw [hQ, ← e90, ← e91, ← e92, ← e93, ← e94, ← e95, ← e96, ← e97]
        exact q_zret (pc := 41) hx hb hr hn9 hlocks hP hD hS dX3_read_41
  exact hgo _ _ rfl hP hS
/-! X3_told -/
set_option maxRecDepth 100000 in
set_option maxHeartbeats 4000000 in
theorem c_NameReader_told (l : Launch) (D : va_G) (ci : Nat → ClassId) (A : Nat → Prop) (sa : Nat → Nat) (N : Nat) (Rw : va_W) (a_rd : Nat) (a_g : Nat) (a_tp : Nat) (rd_next : Int32) (rd_end : Int32) (rd_level : Int32) (rd_key : Int32) (rd_fault : Int32) (rd_faultPlace : Int32) (rd_endedSoon : Int32) (r : Int32) (hf : f_NameReader_told rd_fault rd_faultPlace = some r) : Met l yX3_told wsX3_told ({ frames := 0, cells := 0, slots := 0, locals := 0 }) (va_Pc [.ref a_rd] (q_N D ci A sa ((a_rd, .inr (3, [.ref a_g, .ref a_tp, .int rd_next, .int rd_end, .int rd_level, .int rd_key, .int rd_fault, .int rd_faultPlace, .int rd_endedSoon])) :: Rw))) (q_R (some (.int r))) 0 0 A := by
  refine q_ofW (cc := cX3_told) (maxL := 1) (ret := (some .int)) [.ref a_rd] (plainFor_of_name (by decide)) rfl (Nat.le_of_ble_eq_true rfl) ?_
  intro p e s m below meth c ls Q hQ hx hb hml hr hts hown hlocks hK hA hZ hP hD hS hl
  have hl : lv_has ls 1 [(0, .ref a_rd)] := hl
  have hown : s.vm.findClass RX3 = some m.cls := hown
  have hinX3 : ∀ w ∈ wsX30, w ∈ wsX3_told := fun _ h => List.mem_cons_of_mem _ (inWX30 _ h)
  have w_1 := hts (Cond.fieldLink RX3 24 "SheetNames$NameReader" "fault" "I") (List.mem_cons_of_mem _ t_w843)
  have w_2 := hts (Cond.fieldLink RX3 27 "SheetNames$NameReader" "faultPlace" "I") (List.mem_cons_of_mem _ t_w844)
  unfold f_NameReader_told at hf
  have hgo : ∀ (H : Heap) (locs : List Loc), H = s.heap → va_P D vwCl ((a_rd, .inr (3, [.ref a_g, .ref a_tp, .int rd_next, .int rd_end, .int rd_level, .int rd_key, .int rd_fault, .int rd_faultPlace, .int rd_endedSoon])) :: Rw) H → va_S A s.heap H locs → W p l e ({ frames := 0, cells := 0, slots := 0, locals := 0 } : Room) s m ([.ref a_rd] : List Value).toArray below meth c H locs 0 0 Q (F0 m 0 ls []) := by
    intro H locs hH hP hS
    subst hH
    refine lv_sipush (pc := 0) (v := (-1000)) hx hb dX3_told_0 (by decide) ?_
    refine lv_aload_n (pc := 3) hx hb dX3_told_3 rfl (lv_at hl 0 rfl) ?_
    refine va_get (pc := 4) (D := D) (ci := 3) (v := .int rd_fault) (C := RX3) (T := TX3) (N := 9) hx hb hts hinX3 hown hK hP 0 rfl rfl 6 (by decide) w_1 (fun _ h9 => h9) rfl dX3_told_4 ?_
    refine lv_imul (pc := 7) hx hb dX3_told_7 ?_
    refine lv_aload_n (pc := 8) hx hb dX3_told_8 rfl (lv_at hl 0 rfl) ?_
    refine va_get (pc := 9) (D := D) (ci := 3) (v := .int rd_faultPlace) (C := RX3) (T := TX3) (N := 9) hx hb hts hinX3 hown hK hP 0 rfl rfl 7 (by decide) w_2 (fun _ h9 => h9) rfl dX3_told_9 ?_
    refine lv_isub (pc := 12) hx hb dX3_told_12 ?_
    obtain rfl := Option.some.inj hf
    rw [hQ]
    exact q_iretr (pc := 13) hx hb hr hlocks rfl hS dX3_told_13
  exact hgo _ _ rfl hP hS
