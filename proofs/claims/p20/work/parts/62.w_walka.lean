/-! X9_farthestKey -/
set_option maxRecDepth 100000 in
set_option maxHeartbeats 4000000 in
theorem c_Walk_farthestKey (l : Launch) (D : va_G) (ci : Nat → ClassId) (A : Nat → Prop) (sa : Nat → Nat) (N : Nat) (Rw : va_W) (a_wk : Nat) (a_ws : Nat) (a_wk_steps : Nat) (a_wk_reached : Nat) (n_wk_steps : Nat) (wk_many : Int32) (wk_steps : Nat → Int32) (r : Int32) (hf : f_Walk_farthestKey N n_wk_steps wk_steps wk_many = some r) : Met l yX9_farthestKey wsX9_farthestKey ({ frames := 0, cells := 0, slots := 0, locals := 0 }) (va_Pc [.ref a_wk] (q_N D ci A sa ((a_wk, .inr (9, [.ref a_ws, .ref a_wk_steps, .ref a_wk_reached, .int wk_many])) :: (a_wk_steps, .inl (ci 0, n_wk_steps, .inl wk_steps)) :: Rw))) (q_R (some (.int r))) 0 0 A := by
  refine q_ofW (cc := cX9_farthestKey) (maxL := 3) (ret := (some .int)) [.ref a_wk] (plainFor_of_name (by decide)) rfl (Nat.le_of_ble_eq_true rfl) ?_
  intro p e s m below meth c ls Q hQ hx hb hml hr hts hown hlocks hK hA hZ hP hD hS hl
  have hl : lv_has ls 3 [(0, .ref a_wk)] := hl
  have hown : s.vm.findClass RX9 = some m.cls := hown
  have hinX9 : ∀ w ∈ wsX90, w ∈ wsX9_farthestKey := fun _ h => List.mem_cons_of_mem _ (inWX90 _ h)
  have w_1 := hts (Cond.fieldLink RX9 18 "SheetNames$Walk" "many" "I") (List.mem_cons_of_mem _ t_w823)
  have w_2 := hts (Cond.fieldLink RX9 9 "SheetNames$Walk" "steps" "[I") (List.mem_cons_of_mem _ t_w824)
  unfold f_Walk_farthestKey at hf
  have hgo : ∀ (H : Heap) (locs : List Loc), H = s.heap → va_P D vwCl ((a_wk, .inr (9, [.ref a_ws, .ref a_wk_steps, .ref a_wk_reached, .int wk_many])) :: (a_wk_steps, .inl (ci 0, n_wk_steps, .inl wk_steps)) :: Rw) H → va_S A s.heap H locs → W p l e ({ frames := 0, cells := 0, slots := 0, locals := 0 } : Room) s m ([.ref a_wk] : List Value).toArray below meth c H locs 0 0 Q (F0 m 0 ls []) := by
    intro H locs hH hP hS
    subst hH
    refine lv_iconst (pc := 0) (v := 0) hx hb dX9_farthestKey_0 (by decide) ?_
    obtain ⟨v1, ev1, hf⟩ := q_nm_e hf
    refine q_topi ev1 ?_
    refine lv_istore_n (pc := 1) (lv' := [(1, .int v1), (0, .ref a_wk)]) hx hb dX9_farthestKey_1 rfl hl (by decide) rfl (fun ls hl => ?_)
    refine lv_iconst (pc := 2) (v := 1) hx hb dX9_farthestKey_2 (by decide) ?_
    obtain ⟨v2, ev2, hf⟩ := q_nm_e hf
    refine q_topi ev2 ?_
    refine lv_istore_n (pc := 3) (lv' := [(2, .int v2), (1, .int v1), (0, .ref a_wk)]) hx hb dX9_farthestKey_3 rfl hl (by decide) rfl (fun ls hl => ?_)
    obtain ⟨v5, hm4, hf⟩ := q_b1_e hf
    have JE4 : ∀ (H : Heap) (locs : List Loc) (ls : Array Slot), H = s.heap → va_S A s.heap H locs → lv_has ls 3 [(1, .int v5)] → W p l e ({ frames := 0, cells := 0, slots := 0, locals := 0 } : Room) s m ([.ref a_wk] : List Value).toArray below meth c H locs 0 0 Q (F0 m 35 ls []) := by
      intro H locs ls hHs hS hl
      subst hHs
      refine lv_iload_n (pc := 35) hx hb dX9_farthestKey_35 rfl (lv_at hl 0 rfl) ?_
      obtain rfl := Option.some.inj hf
      rw [hQ]
      exact q_iretr (pc := 36) hx hb hr hlocks rfl hS dX9_farthestKey_36
    have LP4 : ∀ (n4 : Nat) (v3 : Int32) (v4 : Int32) (H : Heap) (locs : List Loc) (ls : Array Slot), f_Walk_farthestKey_L4 n_wk_steps wk_many wk_steps n4 v3 v4 = some v5 → H = s.heap → va_S A s.heap H locs → lv_has ls 3 [(0, .ref a_wk), (1, .int v3), (2, .int v4)] → W p l e ({ frames := 0, cells := 0, slots := 0, locals := 0 } : Room) s m ([.ref a_wk] : List Value).toArray below meth c H locs 0 0 Q (F0 m 4 ls []) := by
      intro n4
      induction n4 with
      | zero => intro v3 v4 H locs ls hf; rw [f_Walk_farthestKey_L4] at hf; cases hf
      | succ n4 ih4 =>
        intro v3 v4 H locs ls hf hHs hS hl
        subst hHs
        rw [f_Walk_farthestKey_L4] at hf
        refine lv_iload_n (pc := 4) hx hb dX9_farthestKey_4 rfl (lv_at hl 2 rfl) ?_
        refine lv_aload_n (pc := 5) hx hb dX9_farthestKey_5 rfl (lv_at hl 0 rfl) ?_
        refine va_get (pc := 6) (D := D) (ci := 9) (v := .int wk_many) (C := RX9) (T := TX9) (N := 4) hx hb hts hinX9 hown hK hP 0 rfl rfl 3 (by decide) w_1 (fun _ h9 => h9) rfl dX9_farthestKey_6 ?_
        refine q_icmp_ge (pc := 9) (tgt := 35) hx hb dX9_farthestKey_9 (by decide) rfl hf (fun hf => ?_) (fun hf => ?_)
        · obtain rfl := Option.some.inj hf
          exact JE4 _ _ _ rfl hS (lv_sub hl [1] rfl)
        · refine lv_aload_n (pc := 12) hx hb dX9_farthestKey_12 rfl (lv_at hl 0 rfl) ?_
          refine va_get (pc := 13) (D := D) (ci := 9) (v := .ref a_wk_steps) (C := RX9) (T := TX9) (N := 4) hx hb hts hinX9 hown hK hP 0 rfl rfl 1 (by decide) w_2 (fun _ h9 => h9) rfl dX9_farthestKey_13 ?_
          refine lv_iload_n (pc := 16) hx hb dX9_farthestKey_16 rfl (lv_at hl 2 rfl) ?_
          refine q_iald (pc := 17) hx hb hK hP 1 0 hf rfl rfl dX9_farthestKey_17 (fun v6 hf => ?_)
          refine lv_aload_n (pc := 18) hx hb dX9_farthestKey_18 rfl (lv_at hl 0 rfl) ?_
          refine va_get (pc := 19) (D := D) (ci := 9) (v := .ref a_wk_steps) (C := RX9) (T := TX9) (N := 4) hx hb hts hinX9 hown hK hP 0 rfl rfl 1 (by decide) w_2 (fun _ h9 => h9) rfl dX9_farthestKey_19 ?_
          refine lv_iload_n (pc := 22) hx hb dX9_farthestKey_22 rfl (lv_at hl 1 rfl) ?_
          refine q_iald (pc := 23) hx hb hK hP 1 0 hf rfl rfl dX9_farthestKey_23 (fun v7 hf => ?_)
          obtain ⟨k29, ek29, hf⟩ := q_j1_e hf
          have J29 : ∀ (v8 : Int32) (H : Heap) (locs : List Loc) (ls : Array Slot), k29 v8 = some v5 → H = s.heap → va_S A s.heap H locs → lv_has ls 3 [(0, .ref a_wk), (1, .int v8), (2, .int v4)] → W p l e ({ frames := 0, cells := 0, slots := 0, locals := 0 } : Room) s m ([.ref a_wk] : List Value).toArray below meth c H locs 0 0 Q (F0 m 29 ls []) := by
            intro v8 H locs ls hf hHs hS hl
            subst hHs
            have hf := (ek29 v8).symm.trans hf
            obtain ⟨v9, ev9, hf⟩ := q_nm_e hf
            refine lv_iinc (pc := 29) (v := v9) (lv' := [(2, .int v9), (0, .ref a_wk), (1, .int v8)]) hx hb dX9_farthestKey_29 hl (k := 2) rfl (by rw [ev9]; rfl) (by decide) rfl (fun ls hl => ?_)
            refine lv_goto (pc := 32) (tgt := 4) hx hb dX9_farthestKey_32 (by decide) ?_
            exact ih4 v8 v9 _ _ _ hf rfl hS (lv_sub hl [1, 2, 0] rfl)
          refine q_icmp_le (pc := 24) (tgt := 29) hx hb dX9_farthestKey_24 (by decide) rfl hf (fun hf => ?_) (fun hf => ?_)
          · exact J29 v3 _ _ _ hf rfl hS (lv_sub hl [0, 1, 2] rfl)
          · refine lv_iload_n (pc := 27) hx hb dX9_farthestKey_27 rfl (lv_at hl 2 rfl) ?_
            refine lv_istore_n (pc := 28) (lv' := [(1, .int v4), (0, .ref a_wk), (2, .int v4)]) hx hb dX9_farthestKey_28 rfl hl (by decide) rfl (fun ls hl => ?_)
            exact J29 v4 _ _ _ hf rfl hS (lv_sub hl [1, 0, 2] rfl)
    exact LP4 N v1 v2 _ _ _ hm4 rfl hS (lv_sub hl [2, 1, 0] rfl)
  exact hgo _ _ rfl hP hS
/-! X9_makeRoom -/
set_option maxRecDepth 100000 in
set_option maxHeartbeats 4000000 in
theorem c_Walk_makeRoom (l : Launch) (D : va_G) (ci : Nat → ClassId) (A : Nat → Prop) (sa : Nat → Nat) (N : Nat) (Rw : va_W) (a_wk : Nat) (a_ws : Nat) (a_wk_steps : Nat) (a_wk_reached : Nat) (n_wk_steps : Nat) (wk_many : Int32) (wk_steps : Nat → Int32) (p1 : Int32) (o1 : Nat → Int32) (o2 : Int32) (hf : f_Walk_makeRoom N n_wk_steps wk_steps wk_many p1 = some (o1, o2)) : Met l yX9_makeRoom wsX9_makeRoom ({ frames := 0, cells := 0, slots := 0, locals := 0 }) (va_Pc [.ref a_wk, .int p1] (q_N D ci A sa ((a_wk, .inr (9, [.ref a_ws, .ref a_wk_steps, .ref a_wk_reached, .int wk_many])) :: (a_wk_steps, .inl (ci 0, n_wk_steps, .inl wk_steps)) :: Rw))) (q_Q none (q_O D A ((a_wk, .inr (9, [.ref a_ws, .ref a_wk_steps, .ref a_wk_reached, .int o2])) :: (a_wk_steps, .inl (ci 0, n_wk_steps, .inl o1)) :: Rw)) A) 0 0 A := by
  refine q_ofW (cc := cX9_makeRoom) (maxL := 3) (ret := none) [.ref a_wk, .int p1] (plainFor_of_name (by decide)) rfl (Nat.le_of_ble_eq_true rfl) ?_
  intro p e s m below meth c ls Q hQ hx hb hml hr hts hown hlocks hK hA hZ hP hD hS hl
  have hl : lv_has ls 3 [(0, .ref a_wk), (1, .int p1)] := hl
  have hown : s.vm.findClass RX9 = some m.cls := hown
  have hinX9 : ∀ w ∈ wsX90, w ∈ wsX9_makeRoom := fun _ h => List.mem_cons_of_mem _ (inWX90 _ h)
  have w_1 := hts (Cond.fieldLink RX9 18 "SheetNames$Walk" "many" "I") (List.mem_cons_of_mem _ t_w823)
  have w_2 := hts (Cond.fieldLink RX9 9 "SheetNames$Walk" "steps" "[I") (List.mem_cons_of_mem _ t_w824)
  unfold f_Walk_makeRoom at hf
  have hgo : ∀ (H : Heap) (locs : List Loc), H = s.heap → va_P D vwCl ((a_wk, .inr (9, [.ref a_ws, .ref a_wk_steps, .ref a_wk_reached, .int wk_many])) :: (a_wk_steps, .inl (ci 0, n_wk_steps, .inl wk_steps)) :: Rw) H → va_S A s.heap H locs → W p l e ({ frames := 0, cells := 0, slots := 0, locals := 0 } : Room) s m ([.ref a_wk, .int p1] : List Value).toArray below meth c H locs 0 0 Q (F0 m 0 ls []) := by
    intro H locs hH hP hS
    refine lv_aload_n (pc := 0) hx hb dX9_makeRoom_0 rfl (lv_at hl 0 rfl) ?_
    refine lv_iload_n (pc := 1) hx hb dX9_makeRoom_1 rfl (lv_at hl 1 rfl) ?_
    refine va_put (pc := 2) (D := D) (ci := 9) (v := .int p1) (ty := .int) (C := RX9) (T := TX9) (N := 4) hx hb hts hinX9 tyX9 tyX9_ok nmX9 hown hK hP hD hS 0 rfl rfl 3 (by decide) w_1 (fun _ h9 => h9) rfl (by decide +kernel) rfl rfl (Nat.le_of_ble_eq_true rfl) dX9_makeRoom_2 (fun H locs hP hD hS => ?_)
    obtain ⟨hP, hD⟩ : va_PD D A ((a_wk, .inr (9, [.ref a_ws, .ref a_wk_steps, .ref a_wk_reached, .int p1])) :: (a_wk_steps, .inl (ci 0, n_wk_steps, .inl wk_steps)) :: Rw) H := ⟨hP, hD⟩
    refine lv_aload_n (pc := 5) hx hb dX9_makeRoom_5 rfl (lv_at hl 0 rfl) ?_
    refine va_get (pc := 6) (D := D) (ci := 9) (v := .ref a_wk_steps) (C := RX9) (T := TX9) (N := 4) hx hb hts hinX9 hown hK hP 0 rfl rfl 1 (by decide) w_2 (fun _ h9 => h9) rfl dX9_makeRoom_6 ?_
    refine va_alen (pc := 9) (v := (nI n_wk_steps)) hx hb hK hP 1 0 rfl rfl rfl dX9_makeRoom_9 ?_
    refine lv_iload_n (pc := 10) hx hb dX9_makeRoom_10 rfl (lv_at hl 1 rfl) ?_
    refine q_icmp_ge (pc := 11) (tgt := 28) hx hb dX9_makeRoom_11 (by decide) rfl hf (fun hf => ?_) (fun hf => ?_)
    · refine lv_iconst (pc := 28) (v := 0) hx hb dX9_makeRoom_28 (by decide) ?_
      obtain ⟨v1, ev1, hf⟩ := q_nm_e hf
      refine q_topi ev1 ?_
      refine lv_istore_n (pc := 29) (lv' := [(2, .int v1), (0, .ref a_wk), (1, .int p1)]) hx hb dX9_makeRoom_29 rfl hl (by decide) rfl (fun ls hl => ?_)
      obtain ⟨f4, hm30, hf⟩ := q_b1_e hf
      have JE30 : ∀ (H : Heap) (locs : List Loc) (ls : Array Slot), va_P D vwCl ((a_wk, .inr (9, [.ref a_ws, .ref a_wk_steps, .ref a_wk_reached, .int p1])) :: (a_wk_steps, .inl (ci 0, n_wk_steps, .inl f4)) :: Rw) H → va_D A ((a_wk, .inr (9, [.ref a_ws, .ref a_wk_steps, .ref a_wk_reached, .int p1])) :: (a_wk_steps, .inl (ci 0, n_wk_steps, .inl f4)) :: Rw) → va_S A s.heap H locs → lv_has ls 3 [] → W p l e ({ frames := 0, cells := 0, slots := 0, locals := 0 } : Room) s m ([.ref a_wk, .int p1] : List Value).toArray below meth c H locs 0 0 Q (F0 m 48 ls []) := by
        intro H locs ls hP hD hS hl
        obtain ⟨rfl, rfl⟩ := q_inj2 (Option.some.inj hf)
        rw [hQ]
        exact q_vret (pc := 48) hx hb hr hlocks hP hD hS dX9_makeRoom_48
      have LP30 : ∀ (n30 : Nat) (v2 : Int32) (f3 : Nat → Int32) (H : Heap) (locs : List Loc) (ls : Array Slot), f_Walk_makeRoom_L30 n_wk_steps p1 n30 v2 f3 = some f4 → va_P D vwCl ((a_wk, .inr (9, [.ref a_ws, .ref a_wk_steps, .ref a_wk_reached, .int p1])) :: (a_wk_steps, .inl (ci 0, n_wk_steps, .inl f3)) :: Rw) H → va_D A ((a_wk, .inr (9, [.ref a_ws, .ref a_wk_steps, .ref a_wk_reached, .int p1])) :: (a_wk_steps, .inl (ci 0, n_wk_steps, .inl f3)) :: Rw) → va_S A s.heap H locs → lv_has ls 3 [(0, .ref a_wk), (1, .int p1), (2, .int v2)] → W p l e ({ frames := 0, cells := 0, slots := 0, locals := 0 } : Room) s m ([.ref a_wk, .int p1] : List Value).toArray below meth c H locs 0 0 Q (F0 m 30 ls []) := by
        intro n30
        induction n30 with
        | zero => intro v2 f3 H locs ls hf; rw [f_Walk_makeRoom_L30] at hf; cases hf
        | succ n30 ih30 =>
          intro v2 f3 H locs ls hf hP hD hS hl
          rw [f_Walk_makeRoom_L30] at hf
          refine lv_iload_n (pc := 30) hx hb dX9_makeRoom_30 rfl (lv_at hl 2 rfl) ?_
          refine lv_iload_n (pc := 31) hx hb dX9_makeRoom_31 rfl (lv_at hl 1 rfl) ?_
          refine q_icmp_ge (pc := 32) (tgt := 48) hx hb dX9_makeRoom_32 (by decide) rfl hf (fun hf => ?_) (fun hf => ?_)
          · obtain rfl := Option.some.inj hf
            exact JE30 _ _ _ hP hD hS (lv_sub hl [] rfl)
          · refine lv_aload_n (pc := 35) hx hb dX9_makeRoom_35 rfl (lv_at hl 0 rfl) ?_
            refine va_get (pc := 36) (D := D) (ci := 9) (v := .ref a_wk_steps) (C := RX9) (T := TX9) (N := 4) hx hb hts hinX9 hown hK hP 0 rfl rfl 1 (by decide) w_2 (fun _ h9 => h9) rfl dX9_makeRoom_36 ?_
            refine lv_iload_n (pc := 39) hx hb dX9_makeRoom_39 rfl (lv_at hl 2 rfl) ?_
            refine lv_iconst (pc := 40) (v := (-1)) hx hb dX9_makeRoom_40 (by decide) ?_
            refine q_iast (pc := 41) hx hb hK hP hD hS 1 0 hf rfl rfl dX9_makeRoom_41 (fun f5 H locs hf hP hD hS => ?_)
            obtain ⟨hP, hD⟩ : va_PD D A ((a_wk, .inr (9, [.ref a_ws, .ref a_wk_steps, .ref a_wk_reached, .int p1])) :: (a_wk_steps, .inl (ci 0, n_wk_steps, .inl f5)) :: Rw) H := ⟨hP, hD⟩
            obtain ⟨v6, ev6, hf⟩ := q_nm_e hf
            refine lv_iinc (pc := 42) (v := v6) (lv' := [(2, .int v6), (0, .ref a_wk), (1, .int p1)]) hx hb dX9_makeRoom_42 hl (k := 2) rfl (by rw [ev6]; rfl) (by decide) rfl (fun ls hl => ?_)
            refine lv_goto (pc := 45) (tgt := 30) hx hb dX9_makeRoom_45 (by decide) ?_
            exact ih30 v6 f5 _ _ _ hf hP hD hS (lv_sub hl [1, 2, 0] rfl)
      exact LP30 N v1 wk_steps _ _ _ hm30 hP hD hS (lv_sub hl [1, 2, 0] rfl)
    · cases hf
  exact hgo _ _ rfl hP hS
/-! X9_nearer -/
set_option maxRecDepth 100000 in
set_option maxHeartbeats 4000000 in
theorem c_Walk_nearer (l : Launch) (D : va_G) (ci : Nat → ClassId) (A : Nat → Prop) (sa : Nat → Nat) (N : Nat) (Rw : va_W) (a_wk : Nat) (a_ws : Nat) (a_wk_steps : Nat) (a_wk_reached : Nat) (n_wk_steps : Nat) (a_g : Nat) (a_ws_first : Nat) (a_ws_many : Nat) (a_ws_corner : Nat) (wk_many : Int32) (wk_steps : Nat → Int32) (ws_cornerCount : Int32) (ws_level : Int32) (ws_row : Int32) (ws_start : Int32) (ws_place : Int32) (ws_length : Int32) (ws_cap : Int32) (ws_first : Nat → Int32) (ws_many : Nat → Int32) (p1 : Int32) (r : Int32) (hf : f_Walk_nearer N n_wk_steps wk_steps ws_first ws_many p1 = some r) : Met l yX9_nearer wsX9_nearer ({ frames := 2, cells := 0, slots := 0, locals := 62 }) (va_Pc [.ref a_wk, .int p1] (q_N D ci A sa ((a_wk, .inr (9, [.ref a_ws, .ref a_wk_steps, .ref a_wk_reached, .int wk_many])) :: (a_wk_steps, .inl (ci 0, n_wk_steps, .inl wk_steps)) :: (a_ws, .inr (6, [.ref a_g, .ref a_ws_first, .ref a_ws_many, .ref a_ws_corner, .int ws_cornerCount, .int ws_level, .int ws_row, .int ws_start, .int ws_place, .int ws_length, .int ws_cap])) :: (a_ws_first, .inl (ci 0, 4, .inl ws_first)) :: (a_ws_many, .inl (ci 0, 4, .inl ws_many)) :: Rw))) (q_R (some (.int r))) 0 0 A := by
  refine q_ofW (cc := cX9_nearer) (maxL := 5) (ret := (some .int)) [.ref a_wk, .int p1] (plainFor_of_name (by decide)) rfl (Nat.le_of_ble_eq_true rfl) ?_
  intro p e s m below meth c ls Q hQ hx hb hml hr hts hown hlocks hK hA hZ hP hD hS hl
  have hl : lv_has ls 5 [(0, .ref a_wk), (1, .int p1)] := hl
  have hown : s.vm.findClass RX9 = some m.cls := hown
  have hinX9 : ∀ w ∈ wsX90, w ∈ wsX9_nearer := fun _ h => List.mem_cons_of_mem _ (inWX90 _ h)
  have w_1 := hts (Cond.fieldLink RX9 27 "SheetNames$Walk" "spot" "LSheetNames$Spot;") (List.mem_cons_of_mem _ t_w825)
  have w_2 := hts (Cond.fieldLink RX9 9 "SheetNames$Walk" "steps" "[I") (List.mem_cons_of_mem _ t_w824)
  unfold f_Walk_nearer at hf
  have hgo : ∀ (H : Heap) (locs : List Loc), H = s.heap → va_P D vwCl ((a_wk, .inr (9, [.ref a_ws, .ref a_wk_steps, .ref a_wk_reached, .int wk_many])) :: (a_wk_steps, .inl (ci 0, n_wk_steps, .inl wk_steps)) :: (a_ws, .inr (6, [.ref a_g, .ref a_ws_first, .ref a_ws_many, .ref a_ws_corner, .int ws_cornerCount, .int ws_level, .int ws_row, .int ws_start, .int ws_place, .int ws_length, .int ws_cap])) :: (a_ws_first, .inl (ci 0, 4, .inl ws_first)) :: (a_ws_many, .inl (ci 0, 4, .inl ws_many)) :: Rw) H → va_S A s.heap H locs → W p l e ({ frames := 2, cells := 0, slots := 0, locals := 62 } : Room) s m ([.ref a_wk, .int p1] : List Value).toArray below meth c H locs 0 0 Q (F0 m 0 ls []) := by
    intro H locs hH hP hS
    subst hH
    refine lv_aload_n (pc := 0) hx hb dX9_nearer_0 rfl (lv_at hl 0 rfl) ?_
    refine va_get (pc := 1) (D := D) (ci := 9) (v := .ref a_ws) (C := RX9) (T := TX9) (N := 4) hx hb hts hinX9 hown hK hP 0 rfl rfl 0 (by decide) w_1 (fun _ h9 => h9) rfl dX9_nearer_1 ?_
    obtain ⟨v1, hm4, hf⟩ := q_b1_e hf
    refine q_cVr (pc := 4) (As := []) (rest := []) (v0 := (some (.int v1))) ⟨hx, hb, hml, hown, hts⟩ hK hA hZ hP hD hS hl.1 [2, 4] 5 rfl ⟨rfl, rfl, rfl⟩ (c_Spot_allBeside l D ci A sa N (Rw) a_ws a_g a_ws_first a_ws_many a_ws_corner ws_cornerCount ws_level ws_row ws_start ws_place ws_length ws_cap ws_many v1 hm4) 2 rfl rfl (cwV 0 hts gX9_nearer_X6_allBeside rfl rfl rfl (by decide +kernel) ⟨Nat.le_of_ble_eq_true rfl, Nat.le_of_ble_eq_true rfl⟩) rfl rfl (Nat.le_of_ble_eq_true rfl) dX9_nearer_4 ⟨Nat.zero_le _, Nat.zero_le _⟩ (fun locs hS => ?_)
    refine lv_istore_n (pc := 7) (lv' := [(2, .int v1), (0, .ref a_wk), (1, .int p1)]) hx hb dX9_nearer_7 rfl hl (by decide) rfl (fun ls hl => ?_)
    refine lv_iconst (pc := 8) (v := 0) hx hb dX9_nearer_8 (by decide) ?_
    obtain ⟨v2, ev2, hf⟩ := q_nm_e hf
    refine q_topi ev2 ?_
    refine lv_istore_n (pc := 9) (lv' := [(3, .int v2), (2, .int v1), (0, .ref a_wk), (1, .int p1)]) hx hb dX9_nearer_9 rfl hl (by decide) rfl (fun ls hl => ?_)
    obtain ⟨k10, o10_, ek10, hm10, hk10⟩ := q_s0_k hf
    have JE10 : ∀  (H : Heap) (locs : List Loc) (ls : Array Slot), k10 = some r → H = s.heap → va_S A s.heap H locs → lv_has ls 5 [(1, .int p1)] → W p l e ({ frames := 2, cells := 0, slots := 0, locals := 62 } : Room) s m ([.ref a_wk, .int p1] : List Value).toArray below meth c H locs 0 0 Q (F0 m 52 ls []) := by
      intro  H locs ls hf hHs hS hl
      subst hHs
      have hf := (ek10).symm.trans hf
      refine lv_iload_n (pc := 52) hx hb dX9_nearer_52 rfl (lv_at hl 0 rfl) ?_
      obtain rfl := Option.some.inj hf
      rw [hQ]
      exact q_iretr (pc := 53) hx hb hr hlocks rfl hS dX9_nearer_53
    have LP10 : ∀ (n10 : Nat) (v3 : Int32) (H : Heap) (locs : List Loc) (ls : Array Slot), f_Walk_nearer_L10 n_wk_steps p1 v1 wk_steps ws_first ws_many n10 v3 = some o10_ → H = s.heap → va_S A s.heap H locs → lv_has ls 5 [(0, .ref a_wk), (1, .int p1), (2, .int v1), (3, .int v3)] → W p l e ({ frames := 2, cells := 0, slots := 0, locals := 62 } : Room) s m ([.ref a_wk, .int p1] : List Value).toArray below meth c H locs 0 0 Q (F0 m 10 ls []) := by
      intro n10
      induction n10 with
      | zero => intro v3 H locs ls hf; rw [f_Walk_nearer_L10] at hf; cases hf
      | succ n10 ih10 =>
        intro v3 H locs ls hf hHs hS hl
        subst hHs
        rw [f_Walk_nearer_L10] at hf
        refine lv_iload_n (pc := 10) hx hb dX9_nearer_10 rfl (lv_at hl 3 rfl) ?_
        refine lv_iload_n (pc := 11) hx hb dX9_nearer_11 rfl (lv_at hl 2 rfl) ?_
        refine q_icmp_ge (pc := 12) (tgt := 52) hx hb dX9_nearer_12 (by decide) rfl hf (fun hf => ?_) (fun hf => ?_)
        · obtain rfl := Option.some.inj hf
          exact JE10  _ _ _ hk10 rfl hS (lv_sub hl [1] rfl)
        · refine lv_aload_n (pc := 15) hx hb dX9_nearer_15 rfl (lv_at hl 0 rfl) ?_
          refine va_get (pc := 16) (D := D) (ci := 9) (v := .ref a_ws) (C := RX9) (T := TX9) (N := 4) hx hb hts hinX9 hown hK hP 0 rfl rfl 0 (by decide) w_1 (fun _ h9 => h9) rfl dX9_nearer_16 ?_
          refine lv_iload_n (pc := 19) hx hb dX9_nearer_19 rfl (lv_at hl 3 rfl) ?_
          obtain ⟨v4, hm20, hf⟩ := q_b1_e hf
          refine q_cVr (pc := 20) (As := [.int v3]) (rest := []) (v0 := (some (.int v4))) ⟨hx, hb, hml, hown, hts⟩ hK hA hZ hP hD hS hl.1 [2, 3, 4] 5 rfl ⟨rfl, rfl, rfl⟩ (c_Spot_besideKey l D ci A sa N (Rw) a_ws a_g a_ws_first a_ws_many a_ws_corner ws_cornerCount ws_level ws_row ws_start ws_place ws_length ws_cap ws_first ws_many v3 v4 hm20) 2 rfl rfl (cwV 1 hts gX9_nearer_X6_besideKey rfl rfl rfl (by decide +kernel) ⟨Nat.le_of_ble_eq_true rfl, Nat.le_of_ble_eq_true rfl⟩) rfl rfl (Nat.le_of_ble_eq_true rfl) dX9_nearer_20 ⟨Nat.zero_le _, Nat.zero_le _⟩ (fun locs hS => ?_)
          refine lv_istore (pc := 23) (lv' := [(4, .int v4), (0, .ref a_wk), (1, .int p1), (2, .int v1), (3, .int v3)]) hx hb dX9_nearer_23 hl (by decide) rfl (fun ls hl => ?_)
          refine lv_aload_n (pc := 25) hx hb dX9_nearer_25 rfl (lv_at hl 1 rfl) ?_
          refine va_get (pc := 26) (D := D) (ci := 9) (v := .ref a_wk_steps) (C := RX9) (T := TX9) (N := 4) hx hb hts hinX9 hown hK hP 0 rfl rfl 1 (by decide) w_2 (fun _ h9 => h9) rfl dX9_nearer_26 ?_
          refine lv_iload (pc := 29) hx hb dX9_nearer_29 (lv_at hl 0 rfl) ?_
          refine q_iald (pc := 31) hx hb hK hP 1 0 hf rfl rfl dX9_nearer_31 (fun v5 hf => ?_)
          refine lv_aload_n (pc := 32) hx hb dX9_nearer_32 rfl (lv_at hl 1 rfl) ?_
          refine va_get (pc := 33) (D := D) (ci := 9) (v := .ref a_wk_steps) (C := RX9) (T := TX9) (N := 4) hx hb hts hinX9 hown hK hP 0 rfl rfl 1 (by decide) w_2 (fun _ h9 => h9) rfl dX9_nearer_33 ?_
          refine lv_iload_n (pc := 36) hx hb dX9_nearer_36 rfl (lv_at hl 2 rfl) ?_
          refine q_iald (pc := 37) hx hb hK hP 1 0 hf rfl rfl dX9_nearer_37 (fun v6 hf => ?_)
          refine lv_iconst (pc := 38) (v := 1) hx hb dX9_nearer_38 (by decide) ?_
          refine lv_isub (pc := 39) hx hb dX9_nearer_39 ?_
          refine q_icmp_ne (pc := 40) (tgt := 46) hx hb dX9_nearer_40 (by decide) rfl hf (fun hf => ?_) (fun hf => ?_)
          · obtain ⟨v7, ev7, hf⟩ := q_nm_e hf
            refine lv_iinc (pc := 46) (v := v7) (lv' := [(3, .int v7), (4, .int v4), (0, .ref a_wk), (1, .int p1), (2, .int v1)]) hx hb dX9_nearer_46 hl (k := 4) rfl (by rw [ev7]; rfl) (by decide) rfl (fun ls hl => ?_)
            refine lv_goto (pc := 49) (tgt := 10) hx hb dX9_nearer_49 (by decide) ?_
            exact ih10 v7 _ _ _ hf rfl hS (lv_sub hl [2, 3, 4, 0] rfl)
          · refine lv_iload (pc := 43) hx hb dX9_nearer_43 (lv_at hl 0 rfl) ?_
            obtain rfl := Option.some.inj hf
            have hk10 : (v4 : Int32) = r := hk10
            obtain rfl := hk10
            rw [hQ]
            exact q_iretr (pc := 45) hx hb hr hlocks rfl hS dX9_nearer_45
    exact LP10 N v2 _ _ _ hm10 rfl hS (lv_sub hl [2, 3, 1, 0] rfl)
  exact hgo _ _ rfl hP hS
/-! X9_onTheWay -/
set_option maxRecDepth 100000 in
set_option maxHeartbeats 4000000 in
theorem c_Walk_onTheWay (l : Launch) (D : va_G) (ci : Nat → ClassId) (A : Nat → Prop) (sa : Nat → Nat) (N : Nat) (Rw : va_W) (a_wk : Nat) (a_ws : Nat) (a_wk_steps : Nat) (a_wk_reached : Nat) (n_wk_steps : Nat) (a_g : Nat) (a_ws_first : Nat) (a_ws_many : Nat) (a_ws_corner : Nat) (a_g_rowCuts : Nat) (a_g_columnCuts : Nat) (a_g_bandRows : Nat) (a_g_zoneColumns : Nat) (a_g_rows : Nat) (a_g_sheets : Nat) (wk_many : Int32) (wk_steps : Nat → Int32) (ws_cornerCount : Int32) (ws_level : Int32) (ws_row : Int32) (ws_start : Int32) (ws_place : Int32) (ws_length : Int32) (ws_cap : Int32) (ws_first : Nat → Int32) (ws_many : Nat → Int32) (g_bandRows : Nat → Int32) (g_zoneColumns : Nat → Int32) (g_rows : Nat → Int32) (g_sheets : Nat → Int32) (p1 : Int32) (p2 : Int32) (p3 : Int32) (r : Int32) (o1 : Nat → Int32) (o2 : Nat → Int32) (o3 : Int32) (o4 : Int32) (o5 : Int32) (o6 : Int32) (o7 : Int32) (o8 : Int32) (hf : f_Walk_onTheWay N n_wk_steps wk_steps wk_many ws_first ws_many ws_level ws_row ws_start ws_place ws_length ws_cap g_bandRows g_zoneColumns g_rows g_sheets p1 p2 p3 = some (r, o1, o2, o3, o4, o5, o6, o7, o8)) : Met l yX9_onTheWay wsX9_onTheWay ({ frames := 3, cells := 0, slots := 0, locals := 86 }) (va_Pc [.ref a_wk, .int p1, .int p2, .int p3] (q_N D ci A sa ((a_wk, .inr (9, [.ref a_ws, .ref a_wk_steps, .ref a_wk_reached, .int wk_many])) :: (a_wk_steps, .inl (ci 0, n_wk_steps, .inl wk_steps)) :: (a_ws, .inr (6, [.ref a_g, .ref a_ws_first, .ref a_ws_many, .ref a_ws_corner, .int ws_cornerCount, .int ws_level, .int ws_row, .int ws_start, .int ws_place, .int ws_length, .int ws_cap])) :: (a_ws_first, .inl (ci 0, 4, .inl ws_first)) :: (a_ws_many, .inl (ci 0, 4, .inl ws_many)) :: (a_g, .inr (2, [.ref a_g_rowCuts, .ref a_g_columnCuts, .ref a_g_bandRows, .ref a_g_zoneColumns, .ref a_g_rows, .ref a_g_sheets])) :: (a_g_bandRows, .inl (ci 0, 5, .inl g_bandRows)) :: (a_g_zoneColumns, .inl (ci 0, 5, .inl g_zoneColumns)) :: (a_g_rows, .inl (ci 0, 5, .inl g_rows)) :: (a_g_sheets, .inl (ci 0, 5, .inl g_sheets)) :: Rw))) (q_Q (some (.int r)) (q_O D A ((a_wk, .inr (9, [.ref a_ws, .ref a_wk_steps, .ref a_wk_reached, .int wk_many])) :: (a_wk_steps, .inl (ci 0, n_wk_steps, .inl wk_steps)) :: (a_ws, .inr (6, [.ref a_g, .ref a_ws_first, .ref a_ws_many, .ref a_ws_corner, .int ws_cornerCount, .int o3, .int o4, .int o5, .int o6, .int o7, .int o8])) :: (a_ws_first, .inl (ci 0, 4, .inl o1)) :: (a_ws_many, .inl (ci 0, 4, .inl o2)) :: (a_g, .inr (2, [.ref a_g_rowCuts, .ref a_g_columnCuts, .ref a_g_bandRows, .ref a_g_zoneColumns, .ref a_g_rows, .ref a_g_sheets])) :: (a_g_bandRows, .inl (ci 0, 5, .inl g_bandRows)) :: (a_g_zoneColumns, .inl (ci 0, 5, .inl g_zoneColumns)) :: (a_g_rows, .inl (ci 0, 5, .inl g_rows)) :: (a_g_sheets, .inl (ci 0, 5, .inl g_sheets)) :: Rw)) A) 0 0 A := by
  refine q_ofW (cc := cX9_onTheWay) (maxL := 6) (ret := (some .int)) [.ref a_wk, .int p1, .int p2, .int p3] (plainFor_of_name (by decide)) rfl (Nat.le_of_ble_eq_true rfl) ?_
  intro p e s m below meth c ls Q hQ hx hb hml hr hts hown hlocks hK hA hZ hP hD hS hl
  have hl : lv_has ls 6 [(0, .ref a_wk), (1, .int p1), (2, .int p2), (3, .int p3)] := hl
  have hown : s.vm.findClass RX9 = some m.cls := hown
  have hinX9 : ∀ w ∈ wsX90, w ∈ wsX9_onTheWay := fun _ h => List.mem_cons_of_mem _ (inWX90 _ h)
  have w_1 := hts (Cond.fieldLink RX9 18 "SheetNames$Walk" "many" "I") (List.mem_cons_of_mem _ t_w823)
  have w_2 := hts (Cond.fieldLink RX9 27 "SheetNames$Walk" "spot" "LSheetNames$Spot;") (List.mem_cons_of_mem _ t_w825)
  unfold f_Walk_onTheWay at hf
  have hgo : ∀ (H : Heap) (locs : List Loc), H = s.heap → va_P D vwCl ((a_wk, .inr (9, [.ref a_ws, .ref a_wk_steps, .ref a_wk_reached, .int wk_many])) :: (a_wk_steps, .inl (ci 0, n_wk_steps, .inl wk_steps)) :: (a_ws, .inr (6, [.ref a_g, .ref a_ws_first, .ref a_ws_many, .ref a_ws_corner, .int ws_cornerCount, .int ws_level, .int ws_row, .int ws_start, .int ws_place, .int ws_length, .int ws_cap])) :: (a_ws_first, .inl (ci 0, 4, .inl ws_first)) :: (a_ws_many, .inl (ci 0, 4, .inl ws_many)) :: (a_g, .inr (2, [.ref a_g_rowCuts, .ref a_g_columnCuts, .ref a_g_bandRows, .ref a_g_zoneColumns, .ref a_g_rows, .ref a_g_sheets])) :: (a_g_bandRows, .inl (ci 0, 5, .inl g_bandRows)) :: (a_g_zoneColumns, .inl (ci 0, 5, .inl g_zoneColumns)) :: (a_g_rows, .inl (ci 0, 5, .inl g_rows)) :: (a_g_sheets, .inl (ci 0, 5, .inl g_sheets)) :: Rw) H → va_S A s.heap H locs → W p l e ({ frames := 3, cells := 0, slots := 0, locals := 86 } : Room) s m ([.ref a_wk, .int p1, .int p2, .int p3] : List Value).toArray below meth c H locs 0 0 Q (F0 m 0 ls []) := by
    intro H locs hH hP hS
    refine lv_iload_n (pc := 0) hx hb dX9_onTheWay_0 rfl (lv_at hl 2 rfl) ?_
    refine lv_istore (pc := 1) (lv' := [(4, .int p2), (0, .ref a_wk), (1, .int p1), (2, .int p2), (3, .int p3)]) hx hb dX9_onTheWay_1 hl (by decide) rfl (fun ls hl => ?_)
    refine lv_iconst (pc := 3) (v := 0) hx hb dX9_onTheWay_3 (by decide) ?_
    obtain ⟨v1, ev1, hf⟩ := q_nm_e hf
    refine q_topi ev1 ?_
    refine lv_istore (pc := 4) (lv' := [(5, .int v1), (4, .int p2), (0, .ref a_wk), (1, .int p1), (2, .int p2), (3, .int p3)]) hx hb dX9_onTheWay_4 hl (by decide) rfl (fun ls hl => ?_)
    obtain ⟨v12, f13, f14, v15, v16, v17, v18, v19, v20, hm6, hf⟩ := q_b9_e hf
    have JE6 : ∀ (H : Heap) (locs : List Loc) (ls : Array Slot), va_P D vwCl ((a_wk, .inr (9, [.ref a_ws, .ref a_wk_steps, .ref a_wk_reached, .int wk_many])) :: (a_wk_steps, .inl (ci 0, n_wk_steps, .inl wk_steps)) :: (a_ws, .inr (6, [.ref a_g, .ref a_ws_first, .ref a_ws_many, .ref a_ws_corner, .int ws_cornerCount, .int v15, .int v16, .int v17, .int v18, .int v19, .int v20])) :: (a_ws_first, .inl (ci 0, 4, .inl f13)) :: (a_ws_many, .inl (ci 0, 4, .inl f14)) :: (a_g, .inr (2, [.ref a_g_rowCuts, .ref a_g_columnCuts, .ref a_g_bandRows, .ref a_g_zoneColumns, .ref a_g_rows, .ref a_g_sheets])) :: (a_g_bandRows, .inl (ci 0, 5, .inl g_bandRows)) :: (a_g_zoneColumns, .inl (ci 0, 5, .inl g_zoneColumns)) :: (a_g_rows, .inl (ci 0, 5, .inl g_rows)) :: (a_g_sheets, .inl (ci 0, 5, .inl g_sheets)) :: Rw) H → va_D A ((a_wk, .inr (9, [.ref a_ws, .ref a_wk_steps, .ref a_wk_reached, .int wk_many])) :: (a_wk_steps, .inl (ci 0, n_wk_steps, .inl wk_steps)) :: (a_ws, .inr (6, [.ref a_g, .ref a_ws_first, .ref a_ws_many, .ref a_ws_corner, .int ws_cornerCount, .int v15, .int v16, .int v17, .int v18, .int v19, .int v20])) :: (a_ws_first, .inl (ci 0, 4, .inl f13)) :: (a_ws_many, .inl (ci 0, 4, .inl f14)) :: (a_g, .inr (2, [.ref a_g_rowCuts, .ref a_g_columnCuts, .ref a_g_bandRows, .ref a_g_zoneColumns, .ref a_g_rows, .ref a_g_sheets])) :: (a_g_bandRows, .inl (ci 0, 5, .inl g_bandRows)) :: (a_g_zoneColumns, .inl (ci 0, 5, .inl g_zoneColumns)) :: (a_g_rows, .inl (ci 0, 5, .inl g_rows)) :: (a_g_sheets, .inl (ci 0, 5, .inl g_sheets)) :: Rw) → va_S A s.heap H locs → lv_has ls 6 [(4, .int v12)] → W p l e ({ frames := 3, cells := 0, slots := 0, locals := 86 } : Room) s m ([.ref a_wk, .int p1, .int p2, .int p3] : List Value).toArray below meth c H locs 0 0 Q (F0 m 52 ls []) := by
      intro H locs ls hP hD hS hl
      refine lv_iload (pc := 52) hx hb dX9_onTheWay_52 (lv_at hl 0 rfl) ?_
      obtain ⟨e90, e91, e92, e93, e94, e95, e96, e97, e98⟩ := q_inj9 (Option.some.inj hf)
      rw [hQ, ← e90, ← e91, ← e92, ← e93, ← e94, ← e95, ← e96, ← e97, ← e98]
      exact q_iret (pc := 54) hx hb hr hlocks hP hD hS dX9_onTheWay_54
    have LP6 : ∀ (n6 : Nat) (v2 : Int32) (v3 : Int32) (f4 : Nat → Int32) (f5 : Nat → Int32) (v6 : Int32) (v7 : Int32) (v8 : Int32) (v9 : Int32) (v10 : Int32) (v11 : Int32) (H : Heap) (locs : List Loc) (ls : Array Slot), f_Walk_onTheWay_L6 N g_bandRows g_rows g_sheets g_zoneColumns n_wk_steps p1 p3 wk_many wk_steps n6 v2 v3 f4 f5 v6 v7 v8 v9 v10 v11 = some (v12, f13, f14, v15, v16, v17, v18, v19, v20) → va_P D vwCl ((a_wk, .inr (9, [.ref a_ws, .ref a_wk_steps, .ref a_wk_reached, .int wk_many])) :: (a_wk_steps, .inl (ci 0, n_wk_steps, .inl wk_steps)) :: (a_ws, .inr (6, [.ref a_g, .ref a_ws_first, .ref a_ws_many, .ref a_ws_corner, .int ws_cornerCount, .int v6, .int v7, .int v8, .int v9, .int v10, .int v11])) :: (a_ws_first, .inl (ci 0, 4, .inl f4)) :: (a_ws_many, .inl (ci 0, 4, .inl f5)) :: (a_g, .inr (2, [.ref a_g_rowCuts, .ref a_g_columnCuts, .ref a_g_bandRows, .ref a_g_zoneColumns, .ref a_g_rows, .ref a_g_sheets])) :: (a_g_bandRows, .inl (ci 0, 5, .inl g_bandRows)) :: (a_g_zoneColumns, .inl (ci 0, 5, .inl g_zoneColumns)) :: (a_g_rows, .inl (ci 0, 5, .inl g_rows)) :: (a_g_sheets, .inl (ci 0, 5, .inl g_sheets)) :: Rw) H → va_D A ((a_wk, .inr (9, [.ref a_ws, .ref a_wk_steps, .ref a_wk_reached, .int wk_many])) :: (a_wk_steps, .inl (ci 0, n_wk_steps, .inl wk_steps)) :: (a_ws, .inr (6, [.ref a_g, .ref a_ws_first, .ref a_ws_many, .ref a_ws_corner, .int ws_cornerCount, .int v6, .int v7, .int v8, .int v9, .int v10, .int v11])) :: (a_ws_first, .inl (ci 0, 4, .inl f4)) :: (a_ws_many, .inl (ci 0, 4, .inl f5)) :: (a_g, .inr (2, [.ref a_g_rowCuts, .ref a_g_columnCuts, .ref a_g_bandRows, .ref a_g_zoneColumns, .ref a_g_rows, .ref a_g_sheets])) :: (a_g_bandRows, .inl (ci 0, 5, .inl g_bandRows)) :: (a_g_zoneColumns, .inl (ci 0, 5, .inl g_zoneColumns)) :: (a_g_rows, .inl (ci 0, 5, .inl g_rows)) :: (a_g_sheets, .inl (ci 0, 5, .inl g_sheets)) :: Rw) → va_S A s.heap H locs → lv_has ls 6 [(0, .ref a_wk), (1, .int p1), (3, .int p3), (4, .int v2), (5, .int v3)] → W p l e ({ frames := 3, cells := 0, slots := 0, locals := 86 } : Room) s m ([.ref a_wk, .int p1, .int p2, .int p3] : List Value).toArray below meth c H locs 0 0 Q (F0 m 6 ls []) := by
      intro n6
      induction n6 with
      | zero => intro v2 v3 f4 f5 v6 v7 v8 v9 v10 v11 H locs ls hf; rw [f_Walk_onTheWay_L6] at hf; cases hf
      | succ n6 ih6 =>
        intro v2 v3 f4 f5 v6 v7 v8 v9 v10 v11 H locs ls hf hP hD hS hl
        rw [f_Walk_onTheWay_L6] at hf
        refine lv_iload (pc := 6) hx hb dX9_onTheWay_6 (lv_at hl 4 rfl) ?_
        refine lv_iload_n (pc := 8) hx hb dX9_onTheWay_8 rfl (lv_at hl 2 rfl) ?_
        refine q_icmp_ge (pc := 9) (tgt := 52) hx hb dX9_onTheWay_9 (by decide) rfl hf (fun hf => ?_) (fun hf => ?_)
        · obtain ⟨rfl, rfl, rfl, rfl, rfl, rfl, rfl, rfl, rfl⟩ := q_inj9 (Option.some.inj hf)
          exact JE6 _ _ _ hP hD hS (lv_sub hl [3] rfl)
        · refine lv_iload (pc := 12) hx hb dX9_onTheWay_12 (lv_at hl 4 rfl) ?_
          refine lv_aload_n (pc := 14) hx hb dX9_onTheWay_14 rfl (lv_at hl 0 rfl) ?_
          refine va_get (pc := 15) (D := D) (ci := 9) (v := .int wk_many) (C := RX9) (T := TX9) (N := 4) hx hb hts hinX9 hown hK hP 0 rfl rfl 3 (by decide) w_1 (fun _ h9 => h9) rfl dX9_onTheWay_15 ?_
          refine q_icmp_ge (pc := 18) (tgt := 52) hx hb dX9_onTheWay_18 (by decide) rfl hf (fun hf => ?_) (fun hf => ?_)
          · obtain ⟨rfl, rfl, rfl, rfl, rfl, rfl, rfl, rfl, rfl⟩ := q_inj9 (Option.some.inj hf)
            exact JE6 _ _ _ hP hD hS (lv_sub hl [3] rfl)
          · refine lv_aload_n (pc := 21) hx hb dX9_onTheWay_21 rfl (lv_at hl 0 rfl) ?_
            refine va_get (pc := 22) (D := D) (ci := 9) (v := .ref a_ws) (C := RX9) (T := TX9) (N := 4) hx hb hts hinX9 hown hK hP 0 rfl rfl 0 (by decide) w_2 (fun _ h9 => h9) rfl dX9_onTheWay_22 ?_
            refine lv_iload_n (pc := 25) hx hb dX9_onTheWay_25 rfl (lv_at hl 1 rfl) ?_
            refine lv_iload (pc := 26) hx hb dX9_onTheWay_26 (lv_at hl 3 rfl) ?_
            obtain ⟨v21, v22, v23, v24, v25, v26, hm28, hf⟩ := q_b6_e hf
            refine q_cV (pc := 28) (As := [.int p1, .int v2]) (rest := []) (v0 := none) ⟨hx, hb, hml, hown, hts⟩ hK hA hZ hP hD hS hl.1 [2, 5, 6, 7, 8, 9, 0, 1, 3, 4] 10 rfl ⟨rfl, rfl, rfl⟩ (c_Spot_put l D ci A sa N ((a_wk, .inr (9, [.ref a_ws, .ref a_wk_steps, .ref a_wk_reached, .int wk_many])) :: (a_wk_steps, .inl (ci 0, n_wk_steps, .inl wk_steps)) :: (a_ws_first, .inl (ci 0, 4, .inl f4)) :: (a_ws_many, .inl (ci 0, 4, .inl f5)) :: Rw) a_ws a_g a_ws_first a_ws_many a_ws_corner a_g_rowCuts a_g_columnCuts a_g_bandRows a_g_zoneColumns a_g_rows a_g_sheets ws_cornerCount v6 v7 v8 v9 v10 v11 g_bandRows g_zoneColumns g_rows g_sheets p1 v2 v21 v22 v23 v24 v25 v26 hm28) 2 rfl rfl (cwV 2 hts gX9_onTheWay_X6_put rfl rfl rfl (by decide +kernel) ⟨Nat.le_of_ble_eq_true rfl, Nat.le_of_ble_eq_true rfl⟩) rfl rfl (Nat.le_of_ble_eq_true rfl) dX9_onTheWay_28 ⟨Nat.zero_le _, Nat.zero_le _⟩ [6, 7, 0, 8, 9, 1, 2, 3, 4, 5] 10 rfl ⟨rfl, rfl, rfl⟩ (fun H locs hP hD hS => ?_)
            obtain ⟨hP, hD⟩ : va_PD D A ((a_wk, .inr (9, [.ref a_ws, .ref a_wk_steps, .ref a_wk_reached, .int wk_many])) :: (a_wk_steps, .inl (ci 0, n_wk_steps, .inl wk_steps)) :: (a_ws, .inr (6, [.ref a_g, .ref a_ws_first, .ref a_ws_many, .ref a_ws_corner, .int ws_cornerCount, .int v21, .int v22, .int v23, .int v24, .int v25, .int v26])) :: (a_ws_first, .inl (ci 0, 4, .inl f4)) :: (a_ws_many, .inl (ci 0, 4, .inl f5)) :: (a_g, .inr (2, [.ref a_g_rowCuts, .ref a_g_columnCuts, .ref a_g_bandRows, .ref a_g_zoneColumns, .ref a_g_rows, .ref a_g_sheets])) :: (a_g_bandRows, .inl (ci 0, 5, .inl g_bandRows)) :: (a_g_zoneColumns, .inl (ci 0, 5, .inl g_zoneColumns)) :: (a_g_rows, .inl (ci 0, 5, .inl g_rows)) :: (a_g_sheets, .inl (ci 0, 5, .inl g_sheets)) :: Rw) H := ⟨hP, hD⟩
            refine lv_aload_n (pc := 31) hx hb dX9_onTheWay_31 rfl (lv_at hl 0 rfl) ?_
            refine va_get (pc := 32) (D := D) (ci := 9) (v := .ref a_ws) (C := RX9) (T := TX9) (N := 4) hx hb hts hinX9 hown hK hP 0 rfl rfl 0 (by decide) w_2 (fun _ h9 => h9) rfl dX9_onTheWay_32 ?_
            obtain ⟨f27, f28, hm35, hf⟩ := q_b2_e hf
            refine q_cV (pc := 35) (As := []) (rest := []) (v0 := none) ⟨hx, hb, hml, hown, hts⟩ hK hA hZ hP hD hS hl.1 [2, 3, 4, 5, 6, 7, 8, 9, 0, 1] 10 rfl ⟨rfl, rfl, rfl⟩ (c_Spot_lookAround l D ci A sa N ((a_wk, .inr (9, [.ref a_ws, .ref a_wk_steps, .ref a_wk_reached, .int wk_many])) :: (a_wk_steps, .inl (ci 0, n_wk_steps, .inl wk_steps)) :: Rw) a_ws a_g a_ws_first a_ws_many a_ws_corner a_g_rowCuts a_g_columnCuts a_g_bandRows a_g_zoneColumns a_g_rows a_g_sheets ws_cornerCount v21 v22 v23 v24 v25 v26 f4 f5 g_bandRows g_zoneColumns g_rows g_sheets f27 f28 hm35) 2 rfl rfl (cwV 0 hts gX9_onTheWay_X6_lookAround rfl rfl rfl (by decide +kernel) ⟨Nat.le_of_ble_eq_true rfl, Nat.le_of_ble_eq_true rfl⟩) rfl rfl (Nat.le_of_ble_eq_true rfl) dX9_onTheWay_35 ⟨Nat.zero_le _, Nat.zero_le _⟩ [8, 9, 0, 1, 2, 3, 4, 5, 6, 7] 10 rfl ⟨rfl, rfl, rfl⟩ (fun H locs hP hD hS => ?_)
            obtain ⟨hP, hD⟩ : va_PD D A ((a_wk, .inr (9, [.ref a_ws, .ref a_wk_steps, .ref a_wk_reached, .int wk_many])) :: (a_wk_steps, .inl (ci 0, n_wk_steps, .inl wk_steps)) :: (a_ws, .inr (6, [.ref a_g, .ref a_ws_first, .ref a_ws_many, .ref a_ws_corner, .int ws_cornerCount, .int v21, .int v22, .int v23, .int v24, .int v25, .int v26])) :: (a_ws_first, .inl (ci 0, 4, .inl f27)) :: (a_ws_many, .inl (ci 0, 4, .inl f28)) :: (a_g, .inr (2, [.ref a_g_rowCuts, .ref a_g_columnCuts, .ref a_g_bandRows, .ref a_g_zoneColumns, .ref a_g_rows, .ref a_g_sheets])) :: (a_g_bandRows, .inl (ci 0, 5, .inl g_bandRows)) :: (a_g_zoneColumns, .inl (ci 0, 5, .inl g_zoneColumns)) :: (a_g_rows, .inl (ci 0, 5, .inl g_rows)) :: (a_g_sheets, .inl (ci 0, 5, .inl g_sheets)) :: Rw) H := ⟨hP, hD⟩
            refine lv_aload_n (pc := 38) hx hb dX9_onTheWay_38 rfl (lv_at hl 0 rfl) ?_
            refine lv_iload (pc := 39) hx hb dX9_onTheWay_39 (lv_at hl 3 rfl) ?_
            obtain ⟨v29, hm41, hf⟩ := q_b1_e hf
            refine q_cVr (pc := 41) (As := [.int v2]) (rest := []) (v0 := (some (.int v29))) ⟨hx, hb, hml, hown, hts⟩ hK hA hZ hP hD hS hl.1 [0, 1, 2, 3, 4] 10 rfl ⟨rfl, rfl, rfl⟩ (c_Walk_nearer l D ci A sa N (Rw) a_wk a_ws a_wk_steps a_wk_reached n_wk_steps a_g a_ws_first a_ws_many a_ws_corner wk_many wk_steps ws_cornerCount v21 v22 v23 v24 v25 v26 f27 f28 v2 v29 hm41) 0 rfl rfl (cwV 1 hts gX9_onTheWay_X9_nearer rfl rfl rfl (by decide +kernel) ⟨Nat.le_of_ble_eq_true rfl, Nat.le_of_ble_eq_true rfl⟩) rfl rfl (Nat.le_of_ble_eq_true rfl) dX9_onTheWay_41 ⟨Nat.zero_le _, Nat.zero_le _⟩ (fun locs hS => ?_)
            refine lv_istore (pc := 44) (lv' := [(4, .int v29), (0, .ref a_wk), (1, .int p1), (3, .int p3), (5, .int v3)]) hx hb dX9_onTheWay_44 hl (by decide) rfl (fun ls hl => ?_)
            obtain ⟨v30, ev30, hf⟩ := q_nm_e hf
            refine lv_iinc (pc := 46) (v := v30) (lv' := [(5, .int v30), (4, .int v29), (0, .ref a_wk), (1, .int p1), (3, .int p3)]) hx hb dX9_onTheWay_46 hl (k := 4) rfl (by rw [ev30]; rfl) (by decide) rfl (fun ls hl => ?_)
            refine lv_goto (pc := 49) (tgt := 6) hx hb dX9_onTheWay_49 (by decide) ?_
            exact ih6 v29 v30 f27 f28 v21 v22 v23 v24 v25 v26 _ _ _ hf hP hD hS (lv_sub hl [2, 3, 4, 1, 0] rfl)
    exact LP6 N p2 v1 ws_first ws_many ws_level ws_row ws_start ws_place ws_length ws_cap _ _ _ hm6 hP hD hS (lv_sub hl [2, 3, 5, 1, 0] rfl)
  exact hgo _ _ rfl hP hS
/-! X9_spreadOn -/
set_option maxRecDepth 100000 in
set_option maxHeartbeats 4000000 in
theorem c_Walk_spreadOn (l : Launch) (D : va_G) (ci : Nat → ClassId) (A : Nat → Prop) (sa : Nat → Nat) (N : Nat) (Rw : va_W) (a_wk : Nat) (a_ws : Nat) (a_wk_steps : Nat) (a_wk_reached : Nat) (n_wk_steps : Nat) (n_wk_reached : Nat) (a_g : Nat) (a_ws_first : Nat) (a_ws_many : Nat) (a_ws_corner : Nat) (wk_many : Int32) (wk_steps : Nat → Int32) (wk_reached : Nat → Int32) (ws_cornerCount : Int32) (ws_level : Int32) (ws_row : Int32) (ws_start : Int32) (ws_place : Int32) (ws_length : Int32) (ws_cap : Int32) (ws_first : Nat → Int32) (ws_many : Nat → Int32) (p1 : Int32) (p2 : Int32) (r : Int32) (o1 : Nat → Int32) (o2 : Nat → Int32) (hf : f_Walk_spreadOn N n_wk_steps n_wk_reached wk_steps wk_reached wk_many ws_first ws_many p1 p2 = some (r, o1, o2)) : Met l yX9_spreadOn wsX9_spreadOn ({ frames := 2, cells := 0, slots := 0, locals := 62 }) (va_Pc [.ref a_wk, .int p1, .int p2] (q_N D ci A sa ((a_wk, .inr (9, [.ref a_ws, .ref a_wk_steps, .ref a_wk_reached, .int wk_many])) :: (a_wk_steps, .inl (ci 0, n_wk_steps, .inl wk_steps)) :: (a_wk_reached, .inl (ci 0, n_wk_reached, .inl wk_reached)) :: (a_ws, .inr (6, [.ref a_g, .ref a_ws_first, .ref a_ws_many, .ref a_ws_corner, .int ws_cornerCount, .int ws_level, .int ws_row, .int ws_start, .int ws_place, .int ws_length, .int ws_cap])) :: (a_ws_first, .inl (ci 0, 4, .inl ws_first)) :: (a_ws_many, .inl (ci 0, 4, .inl ws_many)) :: Rw))) (q_Q (some (.int r)) (q_O D A ((a_wk, .inr (9, [.ref a_ws, .ref a_wk_steps, .ref a_wk_reached, .int wk_many])) :: (a_wk_steps, .inl (ci 0, n_wk_steps, .inl o1)) :: (a_wk_reached, .inl (ci 0, n_wk_reached, .inl o2)) :: (a_ws, .inr (6, [.ref a_g, .ref a_ws_first, .ref a_ws_many, .ref a_ws_corner, .int ws_cornerCount, .int ws_level, .int ws_row, .int ws_start, .int ws_place, .int ws_length, .int ws_cap])) :: (a_ws_first, .inl (ci 0, 4, .inl ws_first)) :: (a_ws_many, .inl (ci 0, 4, .inl ws_many)) :: Rw)) A) 0 0 A := by
  refine q_ofW (cc := cX9_spreadOn) (maxL := 7) (ret := (some .int)) [.ref a_wk, .int p1, .int p2] (plainFor_of_name (by decide)) rfl (Nat.le_of_ble_eq_true rfl) ?_
  intro p e s m below meth c ls Q hQ hx hb hml hr hts hown hlocks hK hA hZ hP hD hS hl
  have hl : lv_has ls 7 [(0, .ref a_wk), (1, .int p1), (2, .int p2)] := hl
  have hown : s.vm.findClass RX9 = some m.cls := hown
  have hinX9 : ∀ w ∈ wsX90, w ∈ wsX9_spreadOn := fun _ h => List.mem_cons_of_mem _ (inWX90 _ h)
  have w_1 := hts (Cond.fieldLink RX9 27 "SheetNames$Walk" "spot" "LSheetNames$Spot;") (List.mem_cons_of_mem _ t_w825)
  have w_2 := hts (Cond.fieldLink RX9 9 "SheetNames$Walk" "steps" "[I") (List.mem_cons_of_mem _ t_w824)
  have w_3 := hts (Cond.fieldLink RX9 18 "SheetNames$Walk" "many" "I") (List.mem_cons_of_mem _ t_w823)
  have w_4 := hts (Cond.fieldLink RX9 15 "SheetNames$Walk" "reached" "[I") (List.mem_cons_of_mem _ t_w826)
  unfold f_Walk_spreadOn at hf
  have hgo : ∀ (H : Heap) (locs : List Loc), H = s.heap → va_P D vwCl ((a_wk, .inr (9, [.ref a_ws, .ref a_wk_steps, .ref a_wk_reached, .int wk_many])) :: (a_wk_steps, .inl (ci 0, n_wk_steps, .inl wk_steps)) :: (a_wk_reached, .inl (ci 0, n_wk_reached, .inl wk_reached)) :: (a_ws, .inr (6, [.ref a_g, .ref a_ws_first, .ref a_ws_many, .ref a_ws_corner, .int ws_cornerCount, .int ws_level, .int ws_row, .int ws_start, .int ws_place, .int ws_length, .int ws_cap])) :: (a_ws_first, .inl (ci 0, 4, .inl ws_first)) :: (a_ws_many, .inl (ci 0, 4, .inl ws_many)) :: Rw) H → va_S A s.heap H locs → W p l e ({ frames := 2, cells := 0, slots := 0, locals := 62 } : Room) s m ([.ref a_wk, .int p1, .int p2] : List Value).toArray below meth c H locs 0 0 Q (F0 m 0 ls []) := by
    intro H locs hH hP hS
    refine lv_iload_n (pc := 0) hx hb dX9_spreadOn_0 rfl (lv_at hl 2 rfl) ?_
    refine lv_istore_n (pc := 1) (lv' := [(3, .int p2), (0, .ref a_wk), (1, .int p1), (2, .int p2)]) hx hb dX9_spreadOn_1 rfl hl (by decide) rfl (fun ls hl => ?_)
    refine lv_aload_n (pc := 2) hx hb dX9_spreadOn_2 rfl (lv_at hl 1 rfl) ?_
    refine va_get (pc := 3) (D := D) (ci := 9) (v := .ref a_ws) (C := RX9) (T := TX9) (N := 4) hx hb hts hinX9 hown hK hP 0 rfl rfl 0 (by decide) w_1 (fun _ h9 => h9) rfl dX9_spreadOn_3 ?_
    obtain ⟨v1, hm6, hf⟩ := q_b1_e hf
    refine q_cVr (pc := 6) (As := []) (rest := []) (v0 := (some (.int v1))) ⟨hx, hb, hml, hown, hts⟩ hK hA hZ hP hD hS hl.1 [3, 5] 6 rfl ⟨rfl, rfl, rfl⟩ (c_Spot_allBeside l D ci A sa N (Rw) a_ws a_g a_ws_first a_ws_many a_ws_corner ws_cornerCount ws_level ws_row ws_start ws_place ws_length ws_cap ws_many v1 hm6) 3 rfl rfl (cwV 0 hts gX9_spreadOn_X6_allBeside rfl rfl rfl (by decide +kernel) ⟨Nat.le_of_ble_eq_true rfl, Nat.le_of_ble_eq_true rfl⟩) rfl rfl (Nat.le_of_ble_eq_true rfl) dX9_spreadOn_6 ⟨Nat.zero_le _, Nat.zero_le _⟩ (fun locs hS => ?_)
    refine lv_istore (pc := 9) (lv' := [(4, .int v1), (3, .int p2), (0, .ref a_wk), (1, .int p1), (2, .int p2)]) hx hb dX9_spreadOn_9 hl (by decide) rfl (fun ls hl => ?_)
    refine lv_iconst (pc := 11) (v := 0) hx hb dX9_spreadOn_11 (by decide) ?_
    obtain ⟨v2, ev2, hf⟩ := q_nm_e hf
    refine q_topi ev2 ?_
    refine lv_istore (pc := 12) (lv' := [(5, .int v2), (4, .int v1), (3, .int p2), (0, .ref a_wk), (1, .int p1), (2, .int p2)]) hx hb dX9_spreadOn_12 hl (by decide) rfl (fun ls hl => ?_)
    obtain ⟨v7, f8, f9, hm14, hf⟩ := q_b3_e hf
    have JE14 : ∀ (H : Heap) (locs : List Loc) (ls : Array Slot), va_P D vwCl ((a_wk, .inr (9, [.ref a_ws, .ref a_wk_steps, .ref a_wk_reached, .int wk_many])) :: (a_wk_steps, .inl (ci 0, n_wk_steps, .inl f8)) :: (a_wk_reached, .inl (ci 0, n_wk_reached, .inl f9)) :: (a_ws, .inr (6, [.ref a_g, .ref a_ws_first, .ref a_ws_many, .ref a_ws_corner, .int ws_cornerCount, .int ws_level, .int ws_row, .int ws_start, .int ws_place, .int ws_length, .int ws_cap])) :: (a_ws_first, .inl (ci 0, 4, .inl ws_first)) :: (a_ws_many, .inl (ci 0, 4, .inl ws_many)) :: Rw) H → va_D A ((a_wk, .inr (9, [.ref a_ws, .ref a_wk_steps, .ref a_wk_reached, .int wk_many])) :: (a_wk_steps, .inl (ci 0, n_wk_steps, .inl f8)) :: (a_wk_reached, .inl (ci 0, n_wk_reached, .inl f9)) :: (a_ws, .inr (6, [.ref a_g, .ref a_ws_first, .ref a_ws_many, .ref a_ws_corner, .int ws_cornerCount, .int ws_level, .int ws_row, .int ws_start, .int ws_place, .int ws_length, .int ws_cap])) :: (a_ws_first, .inl (ci 0, 4, .inl ws_first)) :: (a_ws_many, .inl (ci 0, 4, .inl ws_many)) :: Rw) → va_S A s.heap H locs → lv_has ls 7 [(3, .int v7)] → W p l e ({ frames := 2, cells := 0, slots := 0, locals := 62 } : Room) s m ([.ref a_wk, .int p1, .int p2] : List Value).toArray below meth c H locs 0 0 Q (F0 m 76 ls []) := by
      intro H locs ls hP hD hS hl
      refine lv_iload_n (pc := 76) hx hb dX9_spreadOn_76 rfl (lv_at hl 0 rfl) ?_
      obtain ⟨e90, e91, e92⟩ := q_inj3 (Option.some.inj hf)
      rw [hQ, ← e90, ← e91, ← e92]
      exact q_iret (pc := 77) hx hb hr hlocks hP hD hS dX9_spreadOn_77
    have LP14 : ∀ (n14 : Nat) (v3 : Int32) (v4 : Int32) (f5 : Nat → Int32) (f6 : Nat → Int32) (H : Heap) (locs : List Loc) (ls : Array Slot), f_Walk_spreadOn_L14 n_wk_reached n_wk_steps p1 v1 wk_many ws_first ws_many n14 v3 v4 f5 f6 = some (v7, f8, f9) → va_P D vwCl ((a_wk, .inr (9, [.ref a_ws, .ref a_wk_steps, .ref a_wk_reached, .int wk_many])) :: (a_wk_steps, .inl (ci 0, n_wk_steps, .inl f5)) :: (a_wk_reached, .inl (ci 0, n_wk_reached, .inl f6)) :: (a_ws, .inr (6, [.ref a_g, .ref a_ws_first, .ref a_ws_many, .ref a_ws_corner, .int ws_cornerCount, .int ws_level, .int ws_row, .int ws_start, .int ws_place, .int ws_length, .int ws_cap])) :: (a_ws_first, .inl (ci 0, 4, .inl ws_first)) :: (a_ws_many, .inl (ci 0, 4, .inl ws_many)) :: Rw) H → va_D A ((a_wk, .inr (9, [.ref a_ws, .ref a_wk_steps, .ref a_wk_reached, .int wk_many])) :: (a_wk_steps, .inl (ci 0, n_wk_steps, .inl f5)) :: (a_wk_reached, .inl (ci 0, n_wk_reached, .inl f6)) :: (a_ws, .inr (6, [.ref a_g, .ref a_ws_first, .ref a_ws_many, .ref a_ws_corner, .int ws_cornerCount, .int ws_level, .int ws_row, .int ws_start, .int ws_place, .int ws_length, .int ws_cap])) :: (a_ws_first, .inl (ci 0, 4, .inl ws_first)) :: (a_ws_many, .inl (ci 0, 4, .inl ws_many)) :: Rw) → va_S A s.heap H locs → lv_has ls 7 [(0, .ref a_wk), (1, .int p1), (3, .int v3), (4, .int v1), (5, .int v4)] → W p l e ({ frames := 2, cells := 0, slots := 0, locals := 62 } : Room) s m ([.ref a_wk, .int p1, .int p2] : List Value).toArray below meth c H locs 0 0 Q (F0 m 14 ls []) := by
      intro n14
      induction n14 with
      | zero => intro v3 v4 f5 f6 H locs ls hf; rw [f_Walk_spreadOn_L14] at hf; cases hf
      | succ n14 ih14 =>
        intro v3 v4 f5 f6 H locs ls hf hP hD hS hl
        rw [f_Walk_spreadOn_L14] at hf
        refine lv_iload (pc := 14) hx hb dX9_spreadOn_14 (lv_at hl 4 rfl) ?_
        refine lv_iload (pc := 16) hx hb dX9_spreadOn_16 (lv_at hl 3 rfl) ?_
        refine q_icmp_ge (pc := 18) (tgt := 76) hx hb dX9_spreadOn_18 (by decide) rfl hf (fun hf => ?_) (fun hf => ?_)
        · obtain ⟨rfl, rfl, rfl⟩ := q_inj3 (Option.some.inj hf)
          exact JE14 _ _ _ hP hD hS (lv_sub hl [2] rfl)
        · refine lv_aload_n (pc := 21) hx hb dX9_spreadOn_21 rfl (lv_at hl 0 rfl) ?_
          refine va_get (pc := 22) (D := D) (ci := 9) (v := .ref a_ws) (C := RX9) (T := TX9) (N := 4) hx hb hts hinX9 hown hK hP 0 rfl rfl 0 (by decide) w_1 (fun _ h9 => h9) rfl dX9_spreadOn_22 ?_
          refine lv_iload (pc := 25) hx hb dX9_spreadOn_25 (lv_at hl 4 rfl) ?_
          obtain ⟨v10, hm27, hf⟩ := q_b1_e hf
          refine q_cVr (pc := 27) (As := [.int v4]) (rest := []) (v0 := (some (.int v10))) ⟨hx, hb, hml, hown, hts⟩ hK hA hZ hP hD hS hl.1 [3, 4, 5] 6 rfl ⟨rfl, rfl, rfl⟩ (c_Spot_besideKey l D ci A sa N (Rw) a_ws a_g a_ws_first a_ws_many a_ws_corner ws_cornerCount ws_level ws_row ws_start ws_place ws_length ws_cap ws_first ws_many v4 v10 hm27) 3 rfl rfl (cwV 1 hts gX9_spreadOn_X6_besideKey rfl rfl rfl (by decide +kernel) ⟨Nat.le_of_ble_eq_true rfl, Nat.le_of_ble_eq_true rfl⟩) rfl rfl (Nat.le_of_ble_eq_true rfl) dX9_spreadOn_27 ⟨Nat.zero_le _, Nat.zero_le _⟩ (fun locs hS => ?_)
          refine lv_istore (pc := 30) (lv' := [(6, .int v10), (0, .ref a_wk), (1, .int p1), (3, .int v3), (4, .int v1), (5, .int v4)]) hx hb dX9_spreadOn_30 hl (by decide) rfl (fun ls hl => ?_)
          refine lv_aload_n (pc := 32) hx hb dX9_spreadOn_32 rfl (lv_at hl 1 rfl) ?_
          refine va_get (pc := 33) (D := D) (ci := 9) (v := .ref a_wk_steps) (C := RX9) (T := TX9) (N := 4) hx hb hts hinX9 hown hK hP 0 rfl rfl 1 (by decide) w_2 (fun _ h9 => h9) rfl dX9_spreadOn_33 ?_
          refine lv_iload (pc := 36) hx hb dX9_spreadOn_36 (lv_at hl 0 rfl) ?_
          refine q_iald (pc := 38) hx hb hK hP 1 0 hf rfl rfl dX9_spreadOn_38 (fun v11 hf => ?_)
          refine lv_iconst (pc := 39) (v := (-1)) hx hb dX9_spreadOn_39 (by decide) ?_
          obtain ⟨k70, ek70, hf⟩ := q_j3_e hf
          have J70 : ∀ (v12 : Int32) (f13 : Nat → Int32) (f14 : Nat → Int32) (H : Heap) (locs : List Loc) (ls : Array Slot), k70 v12 f13 f14 = some (v7, f8, f9) → va_P D vwCl ((a_wk, .inr (9, [.ref a_ws, .ref a_wk_steps, .ref a_wk_reached, .int wk_many])) :: (a_wk_steps, .inl (ci 0, n_wk_steps, .inl f13)) :: (a_wk_reached, .inl (ci 0, n_wk_reached, .inl f14)) :: (a_ws, .inr (6, [.ref a_g, .ref a_ws_first, .ref a_ws_many, .ref a_ws_corner, .int ws_cornerCount, .int ws_level, .int ws_row, .int ws_start, .int ws_place, .int ws_length, .int ws_cap])) :: (a_ws_first, .inl (ci 0, 4, .inl ws_first)) :: (a_ws_many, .inl (ci 0, 4, .inl ws_many)) :: Rw) H → va_D A ((a_wk, .inr (9, [.ref a_ws, .ref a_wk_steps, .ref a_wk_reached, .int wk_many])) :: (a_wk_steps, .inl (ci 0, n_wk_steps, .inl f13)) :: (a_wk_reached, .inl (ci 0, n_wk_reached, .inl f14)) :: (a_ws, .inr (6, [.ref a_g, .ref a_ws_first, .ref a_ws_many, .ref a_ws_corner, .int ws_cornerCount, .int ws_level, .int ws_row, .int ws_start, .int ws_place, .int ws_length, .int ws_cap])) :: (a_ws_first, .inl (ci 0, 4, .inl ws_first)) :: (a_ws_many, .inl (ci 0, 4, .inl ws_many)) :: Rw) → va_S A s.heap H locs → lv_has ls 7 [(0, .ref a_wk), (1, .int p1), (3, .int v12), (4, .int v1), (5, .int v4)] → W p l e ({ frames := 2, cells := 0, slots := 0, locals := 62 } : Room) s m ([.ref a_wk, .int p1, .int p2] : List Value).toArray below meth c H locs 0 0 Q (F0 m 70 ls []) := by
            intro v12 f13 f14 H locs ls hf hP hD hS hl
            have hf := (ek70 v12 f13 f14).symm.trans hf
            obtain ⟨v15, ev15, hf⟩ := q_nm_e hf
            refine lv_iinc (pc := 70) (v := v15) (lv' := [(5, .int v15), (0, .ref a_wk), (1, .int p1), (3, .int v12), (4, .int v1)]) hx hb dX9_spreadOn_70 hl (k := 4) rfl (by rw [ev15]; rfl) (by decide) rfl (fun ls hl => ?_)
            refine lv_goto (pc := 73) (tgt := 14) hx hb dX9_spreadOn_73 (by decide) ?_
            exact ih14 v12 v15 f13 f14 _ _ _ hf hP hD hS (lv_sub hl [1, 2, 3, 4, 0] rfl)
          refine q_icmp_ne (pc := 40) (tgt := 70) hx hb dX9_spreadOn_40 (by decide) rfl hf (fun hf => ?_) (fun hf => ?_)
          · exact J70 v3 f5 f6 _ _ _ hf hP hD hS (lv_sub hl [1, 2, 3, 4, 5] rfl)
          · refine lv_iload_n (pc := 43) hx hb dX9_spreadOn_43 rfl (lv_at hl 3 rfl) ?_
            refine lv_aload_n (pc := 44) hx hb dX9_spreadOn_44 rfl (lv_at hl 1 rfl) ?_
            refine va_get (pc := 45) (D := D) (ci := 9) (v := .int wk_many) (C := RX9) (T := TX9) (N := 4) hx hb hts hinX9 hown hK hP 0 rfl rfl 3 (by decide) w_3 (fun _ h9 => h9) rfl dX9_spreadOn_45 ?_
            refine q_icmp_ge (pc := 48) (tgt := 70) hx hb dX9_spreadOn_48 (by decide) rfl hf (fun hf => ?_) (fun hf => ?_)
            · exact J70 v3 f5 f6 _ _ _ hf hP hD hS (lv_sub hl [1, 2, 3, 4, 5] rfl)
            · refine lv_aload_n (pc := 51) hx hb dX9_spreadOn_51 rfl (lv_at hl 1 rfl) ?_
              refine va_get (pc := 52) (D := D) (ci := 9) (v := .ref a_wk_steps) (C := RX9) (T := TX9) (N := 4) hx hb hts hinX9 hown hK hP 0 rfl rfl 1 (by decide) w_2 (fun _ h9 => h9) rfl dX9_spreadOn_52 ?_
              refine lv_iload (pc := 55) hx hb dX9_spreadOn_55 (lv_at hl 0 rfl) ?_
              refine lv_iload_n (pc := 57) hx hb dX9_spreadOn_57 rfl (lv_at hl 2 rfl) ?_
              refine q_iast (pc := 58) hx hb hK hP hD hS 1 0 hf rfl rfl dX9_spreadOn_58 (fun f16 H locs hf hP hD hS => ?_)
              obtain ⟨hP, hD⟩ : va_PD D A ((a_wk, .inr (9, [.ref a_ws, .ref a_wk_steps, .ref a_wk_reached, .int wk_many])) :: (a_wk_steps, .inl (ci 0, n_wk_steps, .inl f16)) :: (a_wk_reached, .inl (ci 0, n_wk_reached, .inl f6)) :: (a_ws, .inr (6, [.ref a_g, .ref a_ws_first, .ref a_ws_many, .ref a_ws_corner, .int ws_cornerCount, .int ws_level, .int ws_row, .int ws_start, .int ws_place, .int ws_length, .int ws_cap])) :: (a_ws_first, .inl (ci 0, 4, .inl ws_first)) :: (a_ws_many, .inl (ci 0, 4, .inl ws_many)) :: Rw) H := ⟨hP, hD⟩
              refine lv_aload_n (pc := 59) hx hb dX9_spreadOn_59 rfl (lv_at hl 1 rfl) ?_
              refine va_get (pc := 60) (D := D) (ci := 9) (v := .ref a_wk_reached) (C := RX9) (T := TX9) (N := 4) hx hb hts hinX9 hown hK hP 0 rfl rfl 2 (by decide) w_4 (fun _ h9 => h9) rfl dX9_spreadOn_60 ?_
              refine lv_iload_n (pc := 63) hx hb dX9_spreadOn_63 rfl (lv_at hl 3 rfl) ?_
              refine lv_iload (pc := 64) hx hb dX9_spreadOn_64 (lv_at hl 0 rfl) ?_
              refine q_iast (pc := 66) hx hb hK hP hD hS 2 0 hf rfl rfl dX9_spreadOn_66 (fun f17 H locs hf hP hD hS => ?_)
              obtain ⟨hP, hD⟩ : va_PD D A ((a_wk, .inr (9, [.ref a_ws, .ref a_wk_steps, .ref a_wk_reached, .int wk_many])) :: (a_wk_steps, .inl (ci 0, n_wk_steps, .inl f16)) :: (a_wk_reached, .inl (ci 0, n_wk_reached, .inl f17)) :: (a_ws, .inr (6, [.ref a_g, .ref a_ws_first, .ref a_ws_many, .ref a_ws_corner, .int ws_cornerCount, .int ws_level, .int ws_row, .int ws_start, .int ws_place, .int ws_length, .int ws_cap])) :: (a_ws_first, .inl (ci 0, 4, .inl ws_first)) :: (a_ws_many, .inl (ci 0, 4, .inl ws_many)) :: Rw) H := ⟨hP, hD⟩
              obtain ⟨v18, ev18, hf⟩ := q_nm_e hf
              refine lv_iinc (pc := 67) (v := v18) (lv' := [(3, .int v18), (6, .int v10), (0, .ref a_wk), (1, .int p1), (4, .int v1), (5, .int v4)]) hx hb dX9_spreadOn_67 hl (k := 3) rfl (by rw [ev18]; rfl) (by decide) rfl (fun ls hl => ?_)
              exact J70 v18 f16 f17 _ _ _ hf hP hD hS (lv_sub hl [2, 3, 0, 4, 5] rfl)
    exact LP14 N p2 v2 wk_steps wk_reached _ _ _ hm14 hP hD hS (lv_sub hl [3, 4, 2, 1, 0] rfl)
  exact hgo _ _ rfl hP hS
/-! X9_spread -/
set_option maxRecDepth 100000 in
set_option maxHeartbeats 4000000 in
theorem c_Walk_spread (l : Launch) (D : va_G) (ci : Nat → ClassId) (A : Nat → Prop) (sa : Nat → Nat) (N : Nat) (Rw : va_W) (a_wk : Nat) (a_ws : Nat) (a_wk_steps : Nat) (a_wk_reached : Nat) (n_wk_steps : Nat) (n_wk_reached : Nat) (a_g : Nat) (a_ws_first : Nat) (a_ws_many : Nat) (a_ws_corner : Nat) (a_g_rowCuts : Nat) (a_g_columnCuts : Nat) (a_g_bandRows : Nat) (a_g_zoneColumns : Nat) (a_g_rows : Nat) (a_g_sheets : Nat) (wk_many : Int32) (wk_steps : Nat → Int32) (wk_reached : Nat → Int32) (ws_cornerCount : Int32) (ws_level : Int32) (ws_row : Int32) (ws_start : Int32) (ws_place : Int32) (ws_length : Int32) (ws_cap : Int32) (ws_first : Nat → Int32) (ws_many : Nat → Int32) (g_bandRows : Nat → Int32) (g_zoneColumns : Nat → Int32) (g_rows : Nat → Int32) (g_sheets : Nat → Int32) (p1 : Int32) (p2 : Int32) (o1 : Nat → Int32) (o2 : Nat → Int32) (o3 : Int32) (o4 : Nat → Int32) (o5 : Nat → Int32) (o6 : Int32) (o7 : Int32) (o8 : Int32) (o9 : Int32) (o10 : Int32) (o11 : Int32) (hf : f_Walk_spread N n_wk_steps n_wk_reached wk_steps wk_reached wk_many ws_first ws_many ws_level ws_row ws_start ws_place ws_length ws_cap g_bandRows g_zoneColumns g_rows g_sheets p1 p2 = some (o1, o2, o3, o4, o5, o6, o7, o8, o9, o10, o11)) : Met l yX9_spread wsX9_spread ({ frames := 3, cells := 0, slots := 0, locals := 88 }) (va_Pc [.ref a_wk, .int p1, .int p2] (q_N D ci A sa ((a_wk, .inr (9, [.ref a_ws, .ref a_wk_steps, .ref a_wk_reached, .int wk_many])) :: (a_wk_steps, .inl (ci 0, n_wk_steps, .inl wk_steps)) :: (a_wk_reached, .inl (ci 0, n_wk_reached, .inl wk_reached)) :: (a_ws, .inr (6, [.ref a_g, .ref a_ws_first, .ref a_ws_many, .ref a_ws_corner, .int ws_cornerCount, .int ws_level, .int ws_row, .int ws_start, .int ws_place, .int ws_length, .int ws_cap])) :: (a_ws_first, .inl (ci 0, 4, .inl ws_first)) :: (a_ws_many, .inl (ci 0, 4, .inl ws_many)) :: (a_g, .inr (2, [.ref a_g_rowCuts, .ref a_g_columnCuts, .ref a_g_bandRows, .ref a_g_zoneColumns, .ref a_g_rows, .ref a_g_sheets])) :: (a_g_bandRows, .inl (ci 0, 5, .inl g_bandRows)) :: (a_g_zoneColumns, .inl (ci 0, 5, .inl g_zoneColumns)) :: (a_g_rows, .inl (ci 0, 5, .inl g_rows)) :: (a_g_sheets, .inl (ci 0, 5, .inl g_sheets)) :: Rw))) (q_Q none (q_O D A ((a_wk, .inr (9, [.ref a_ws, .ref a_wk_steps, .ref a_wk_reached, .int o3])) :: (a_wk_steps, .inl (ci 0, n_wk_steps, .inl o1)) :: (a_wk_reached, .inl (ci 0, n_wk_reached, .inl o2)) :: (a_ws, .inr (6, [.ref a_g, .ref a_ws_first, .ref a_ws_many, .ref a_ws_corner, .int ws_cornerCount, .int o6, .int o7, .int o8, .int o9, .int o10, .int o11])) :: (a_ws_first, .inl (ci 0, 4, .inl o4)) :: (a_ws_many, .inl (ci 0, 4, .inl o5)) :: (a_g, .inr (2, [.ref a_g_rowCuts, .ref a_g_columnCuts, .ref a_g_bandRows, .ref a_g_zoneColumns, .ref a_g_rows, .ref a_g_sheets])) :: (a_g_bandRows, .inl (ci 0, 5, .inl g_bandRows)) :: (a_g_zoneColumns, .inl (ci 0, 5, .inl g_zoneColumns)) :: (a_g_rows, .inl (ci 0, 5, .inl g_rows)) :: (a_g_sheets, .inl (ci 0, 5, .inl g_sheets)) :: Rw)) A) 0 0 A := by
  refine q_ofW (cc := cX9_spread) (maxL := 5) (ret := none) [.ref a_wk, .int p1, .int p2] (plainFor_of_name (by decide)) rfl (Nat.le_of_ble_eq_true rfl) ?_
  intro p e s m below meth c ls Q hQ hx hb hml hr hts hown hlocks hK hA hZ hP hD hS hl
  have hl : lv_has ls 5 [(0, .ref a_wk), (1, .int p1), (2, .int p2)] := hl
  have hown : s.vm.findClass RX9 = some m.cls := hown
  have hinX2 : ∀ w ∈ wsX20, w ∈ wsX9_spread := fun _ h => List.mem_cons_of_mem _ (inWX20 _ h)
  have hinX6 : ∀ w ∈ wsX60, w ∈ wsX9_spread := fun _ h => List.mem_cons_of_mem _ (inWX60 _ h)
  have hinX9 : ∀ w ∈ wsX90, w ∈ wsX9_spread := fun _ h => List.mem_cons_of_mem _ (inWX90 _ h)
  have w_1 := hts (Cond.fieldLink RX9 27 "SheetNames$Walk" "spot" "LSheetNames$Spot;") (List.mem_cons_of_mem _ t_w825)
  have w_2 := hts (Cond.fieldLink RX9 15 "SheetNames$Walk" "reached" "[I") (List.mem_cons_of_mem _ t_w826)
  have w_3 := hts (Cond.fieldLink RX9 9 "SheetNames$Walk" "steps" "[I") (List.mem_cons_of_mem _ t_w824)
  have w_4 := hts (Cond.fieldLink RX9 18 "SheetNames$Walk" "many" "I") (List.mem_cons_of_mem _ t_w823)
  have wn_61 : (Cond.fieldLinkNest "SheetNames$Walk" 31 "SheetNames$Spot" "grid" "LSheetNames$Grid;" "SheetNames").before ([.ref a_wk, .int p1, .int p2] : List Value).toArray s = true := (hZ.2.2.2.2.2.2.2.2.2.1 _ (List.mem_of_getElem? (i := 61) rfl)).use rfl
  have wn_62 : (Cond.fieldLinkNest "SheetNames$Walk" 35 "SheetNames$Grid" "sheets" "[I" "SheetNames").before ([.ref a_wk, .int p1, .int p2] : List Value).toArray s = true := (hZ.2.2.2.2.2.2.2.2.2.1 _ (List.mem_of_getElem? (i := 62) rfl)).use rfl
  unfold f_Walk_spread at hf
  have hgo : ∀ (H : Heap) (locs : List Loc), H = s.heap → va_P D vwCl ((a_wk, .inr (9, [.ref a_ws, .ref a_wk_steps, .ref a_wk_reached, .int wk_many])) :: (a_wk_steps, .inl (ci 0, n_wk_steps, .inl wk_steps)) :: (a_wk_reached, .inl (ci 0, n_wk_reached, .inl wk_reached)) :: (a_ws, .inr (6, [.ref a_g, .ref a_ws_first, .ref a_ws_many, .ref a_ws_corner, .int ws_cornerCount, .int ws_level, .int ws_row, .int ws_start, .int ws_place, .int ws_length, .int ws_cap])) :: (a_ws_first, .inl (ci 0, 4, .inl ws_first)) :: (a_ws_many, .inl (ci 0, 4, .inl ws_many)) :: (a_g, .inr (2, [.ref a_g_rowCuts, .ref a_g_columnCuts, .ref a_g_bandRows, .ref a_g_zoneColumns, .ref a_g_rows, .ref a_g_sheets])) :: (a_g_bandRows, .inl (ci 0, 5, .inl g_bandRows)) :: (a_g_zoneColumns, .inl (ci 0, 5, .inl g_zoneColumns)) :: (a_g_rows, .inl (ci 0, 5, .inl g_rows)) :: (a_g_sheets, .inl (ci 0, 5, .inl g_sheets)) :: Rw) H → va_S A s.heap H locs → W p l e ({ frames := 3, cells := 0, slots := 0, locals := 88 } : Room) s m ([.ref a_wk, .int p1, .int p2] : List Value).toArray below meth c H locs 0 0 Q (F0 m 0 ls []) := by
    intro H locs hH hP hS
    refine lv_aload_n (pc := 0) hx hb dX9_spread_0 rfl (lv_at hl 0 rfl) ?_
    refine lv_aload_n (pc := 1) hx hb dX9_spread_1 rfl (lv_at hl 0 rfl) ?_
    refine va_get (pc := 2) (D := D) (ci := 9) (v := .ref a_ws) (C := RX9) (T := TX9) (N := 4) hx hb hts hinX9 hown hK hP 0 rfl rfl 0 (by decide) w_1 (fun _ h9 => h9) rfl dX9_spread_2 ?_
    refine va_getN (pc := 5) (D := D) (ci := 6) (v := .ref a_g) (C := RX6) (T := TX6) (N := 11) hx hb hts hinX6 hown hK hP 3 rfl rfl 0 (by decide) wn_61 (fun _ h9 => h9) rfl dX9_spread_5 ?_
    refine va_getN (pc := 8) (D := D) (ci := 2) (v := .ref a_g_sheets) (C := RX2) (T := TX2) (N := 6) hx hb hts hinX2 hown hK hP 6 rfl rfl 5 (by decide) wn_62 (fun _ h9 => h9) rfl dX9_spread_8 ?_
    refine lv_iload_n (pc := 11) hx hb dX9_spread_11 rfl (lv_at hl 1 rfl) ?_
    refine q_iald (pc := 12) hx hb hK hP 10 0 hf rfl rfl dX9_spread_12 (fun v1 hf => ?_)
    obtain ⟨f2, v3, hm13, hf⟩ := q_b2_e hf
    refine q_cV (pc := 13) (As := [.int v1]) (rest := []) (v0 := none) ⟨hx, hb, hml, hown, hts⟩ hK hA hZ hP hD hS hl.1 [0, 1, 2, 3, 4, 5, 6, 7, 8, 9, 10] 11 rfl ⟨rfl, rfl, rfl⟩ (c_Walk_makeRoom l D ci A sa N ((a_wk_reached, .inl (ci 0, n_wk_reached, .inl wk_reached)) :: (a_ws, .inr (6, [.ref a_g, .ref a_ws_first, .ref a_ws_many, .ref a_ws_corner, .int ws_cornerCount, .int ws_level, .int ws_row, .int ws_start, .int ws_place, .int ws_length, .int ws_cap])) :: (a_ws_first, .inl (ci 0, 4, .inl ws_first)) :: (a_ws_many, .inl (ci 0, 4, .inl ws_many)) :: (a_g, .inr (2, [.ref a_g_rowCuts, .ref a_g_columnCuts, .ref a_g_bandRows, .ref a_g_zoneColumns, .ref a_g_rows, .ref a_g_sheets])) :: (a_g_bandRows, .inl (ci 0, 5, .inl g_bandRows)) :: (a_g_zoneColumns, .inl (ci 0, 5, .inl g_zoneColumns)) :: (a_g_rows, .inl (ci 0, 5, .inl g_rows)) :: (a_g_sheets, .inl (ci 0, 5, .inl g_sheets)) :: Rw) a_wk a_ws a_wk_steps a_wk_reached n_wk_steps wk_many wk_steps v1 f2 v3 hm13) 0 rfl rfl (cwV 1 hts gX9_spread_X9_makeRoom rfl rfl rfl (by decide +kernel) ⟨Nat.le_of_ble_eq_true rfl, Nat.le_of_ble_eq_true rfl⟩) rfl rfl (Nat.le_of_ble_eq_true rfl) dX9_spread_13 ⟨Nat.zero_le _, Nat.zero_le _⟩ [0, 1, 2, 3, 4, 5, 6, 7, 8, 9, 10] 11 rfl ⟨rfl, rfl, rfl⟩ (fun H locs hP hD hS => ?_)
    obtain ⟨hP, hD⟩ : va_PD D A ((a_wk, .inr (9, [.ref a_ws, .ref a_wk_steps, .ref a_wk_reached, .int v3])) :: (a_wk_steps, .inl (ci 0, n_wk_steps, .inl f2)) :: (a_wk_reached, .inl (ci 0, n_wk_reached, .inl wk_reached)) :: (a_ws, .inr (6, [.ref a_g, .ref a_ws_first, .ref a_ws_many, .ref a_ws_corner, .int ws_cornerCount, .int ws_level, .int ws_row, .int ws_start, .int ws_place, .int ws_length, .int ws_cap])) :: (a_ws_first, .inl (ci 0, 4, .inl ws_first)) :: (a_ws_many, .inl (ci 0, 4, .inl ws_many)) :: (a_g, .inr (2, [.ref a_g_rowCuts, .ref a_g_columnCuts, .ref a_g_bandRows, .ref a_g_zoneColumns, .ref a_g_rows, .ref a_g_sheets])) :: (a_g_bandRows, .inl (ci 0, 5, .inl g_bandRows)) :: (a_g_zoneColumns, .inl (ci 0, 5, .inl g_zoneColumns)) :: (a_g_rows, .inl (ci 0, 5, .inl g_rows)) :: (a_g_sheets, .inl (ci 0, 5, .inl g_sheets)) :: Rw) H := ⟨hP, hD⟩
    refine lv_aload_n (pc := 16) hx hb dX9_spread_16 rfl (lv_at hl 0 rfl) ?_
    refine va_get (pc := 17) (D := D) (ci := 9) (v := .ref a_wk_reached) (C := RX9) (T := TX9) (N := 4) hx hb hts hinX9 hown hK hP 0 rfl rfl 2 (by decide) w_2 (fun _ h9 => h9) rfl dX9_spread_17 ?_
    refine lv_iconst (pc := 20) (v := 0) hx hb dX9_spread_20 (by decide) ?_
    refine lv_iload_n (pc := 21) hx hb dX9_spread_21 rfl (lv_at hl 2 rfl) ?_
    refine q_iast (pc := 22) hx hb hK hP hD hS 2 0 hf rfl rfl dX9_spread_22 (fun f4 H locs hf hP hD hS => ?_)
    obtain ⟨hP, hD⟩ : va_PD D A ((a_wk, .inr (9, [.ref a_ws, .ref a_wk_steps, .ref a_wk_reached, .int v3])) :: (a_wk_steps, .inl (ci 0, n_wk_steps, .inl f2)) :: (a_wk_reached, .inl (ci 0, n_wk_reached, .inl f4)) :: (a_ws, .inr (6, [.ref a_g, .ref a_ws_first, .ref a_ws_many, .ref a_ws_corner, .int ws_cornerCount, .int ws_level, .int ws_row, .int ws_start, .int ws_place, .int ws_length, .int ws_cap])) :: (a_ws_first, .inl (ci 0, 4, .inl ws_first)) :: (a_ws_many, .inl (ci 0, 4, .inl ws_many)) :: (a_g, .inr (2, [.ref a_g_rowCuts, .ref a_g_columnCuts, .ref a_g_bandRows, .ref a_g_zoneColumns, .ref a_g_rows, .ref a_g_sheets])) :: (a_g_bandRows, .inl (ci 0, 5, .inl g_bandRows)) :: (a_g_zoneColumns, .inl (ci 0, 5, .inl g_zoneColumns)) :: (a_g_rows, .inl (ci 0, 5, .inl g_rows)) :: (a_g_sheets, .inl (ci 0, 5, .inl g_sheets)) :: Rw) H := ⟨hP, hD⟩
    refine lv_aload_n (pc := 23) hx hb dX9_spread_23 rfl (lv_at hl 0 rfl) ?_
    refine va_get (pc := 24) (D := D) (ci := 9) (v := .ref a_wk_steps) (C := RX9) (T := TX9) (N := 4) hx hb hts hinX9 hown hK hP 0 rfl rfl 1 (by decide) w_3 (fun _ h9 => h9) rfl dX9_spread_24 ?_
    refine lv_iload_n (pc := 27) hx hb dX9_spread_27 rfl (lv_at hl 2 rfl) ?_
    refine lv_iconst (pc := 28) (v := 0) hx hb dX9_spread_28 (by decide) ?_
    refine q_iast (pc := 29) hx hb hK hP hD hS 1 0 hf rfl rfl dX9_spread_29 (fun f5 H locs hf hP hD hS => ?_)
    obtain ⟨hP, hD⟩ : va_PD D A ((a_wk, .inr (9, [.ref a_ws, .ref a_wk_steps, .ref a_wk_reached, .int v3])) :: (a_wk_steps, .inl (ci 0, n_wk_steps, .inl f5)) :: (a_wk_reached, .inl (ci 0, n_wk_reached, .inl f4)) :: (a_ws, .inr (6, [.ref a_g, .ref a_ws_first, .ref a_ws_many, .ref a_ws_corner, .int ws_cornerCount, .int ws_level, .int ws_row, .int ws_start, .int ws_place, .int ws_length, .int ws_cap])) :: (a_ws_first, .inl (ci 0, 4, .inl ws_first)) :: (a_ws_many, .inl (ci 0, 4, .inl ws_many)) :: (a_g, .inr (2, [.ref a_g_rowCuts, .ref a_g_columnCuts, .ref a_g_bandRows, .ref a_g_zoneColumns, .ref a_g_rows, .ref a_g_sheets])) :: (a_g_bandRows, .inl (ci 0, 5, .inl g_bandRows)) :: (a_g_zoneColumns, .inl (ci 0, 5, .inl g_zoneColumns)) :: (a_g_rows, .inl (ci 0, 5, .inl g_rows)) :: (a_g_sheets, .inl (ci 0, 5, .inl g_sheets)) :: Rw) H := ⟨hP, hD⟩
    refine lv_iconst (pc := 30) (v := 1) hx hb dX9_spread_30 (by decide) ?_
    obtain ⟨v6, ev6, hf⟩ := q_nm_e hf
    refine q_topi ev6 ?_
    refine lv_istore_n (pc := 31) (lv' := [(3, .int v6), (0, .ref a_wk), (1, .int p1), (2, .int p2)]) hx hb dX9_spread_31 rfl hl (by decide) rfl (fun ls hl => ?_)
    refine lv_iconst (pc := 32) (v := 0) hx hb dX9_spread_32 (by decide) ?_
    obtain ⟨v7, ev7, hf⟩ := q_nm_e hf
    refine q_topi ev7 ?_
    refine lv_istore (pc := 33) (lv' := [(4, .int v7), (3, .int v6), (0, .ref a_wk), (1, .int p1), (2, .int p2)]) hx hb dX9_spread_33 hl (by decide) rfl (fun ls hl => ?_)
    obtain ⟨f20, f21, f22, f23, v24, v25, v26, v27, v28, v29, hm35, hf⟩ := q_b10_e hf
    have JE35 : ∀ (H : Heap) (locs : List Loc) (ls : Array Slot), va_P D vwCl ((a_wk, .inr (9, [.ref a_ws, .ref a_wk_steps, .ref a_wk_reached, .int v3])) :: (a_wk_steps, .inl (ci 0, n_wk_steps, .inl f20)) :: (a_wk_reached, .inl (ci 0, n_wk_reached, .inl f21)) :: (a_ws, .inr (6, [.ref a_g, .ref a_ws_first, .ref a_ws_many, .ref a_ws_corner, .int ws_cornerCount, .int v24, .int v25, .int v26, .int v27, .int v28, .int v29])) :: (a_ws_first, .inl (ci 0, 4, .inl f22)) :: (a_ws_many, .inl (ci 0, 4, .inl f23)) :: (a_g, .inr (2, [.ref a_g_rowCuts, .ref a_g_columnCuts, .ref a_g_bandRows, .ref a_g_zoneColumns, .ref a_g_rows, .ref a_g_sheets])) :: (a_g_bandRows, .inl (ci 0, 5, .inl g_bandRows)) :: (a_g_zoneColumns, .inl (ci 0, 5, .inl g_zoneColumns)) :: (a_g_rows, .inl (ci 0, 5, .inl g_rows)) :: (a_g_sheets, .inl (ci 0, 5, .inl g_sheets)) :: Rw) H → va_D A ((a_wk, .inr (9, [.ref a_ws, .ref a_wk_steps, .ref a_wk_reached, .int v3])) :: (a_wk_steps, .inl (ci 0, n_wk_steps, .inl f20)) :: (a_wk_reached, .inl (ci 0, n_wk_reached, .inl f21)) :: (a_ws, .inr (6, [.ref a_g, .ref a_ws_first, .ref a_ws_many, .ref a_ws_corner, .int ws_cornerCount, .int v24, .int v25, .int v26, .int v27, .int v28, .int v29])) :: (a_ws_first, .inl (ci 0, 4, .inl f22)) :: (a_ws_many, .inl (ci 0, 4, .inl f23)) :: (a_g, .inr (2, [.ref a_g_rowCuts, .ref a_g_columnCuts, .ref a_g_bandRows, .ref a_g_zoneColumns, .ref a_g_rows, .ref a_g_sheets])) :: (a_g_bandRows, .inl (ci 0, 5, .inl g_bandRows)) :: (a_g_zoneColumns, .inl (ci 0, 5, .inl g_zoneColumns)) :: (a_g_rows, .inl (ci 0, 5, .inl g_rows)) :: (a_g_sheets, .inl (ci 0, 5, .inl g_sheets)) :: Rw) → va_S A s.heap H locs → lv_has ls 5 [] → W p l e ({ frames := 3, cells := 0, slots := 0, locals := 88 } : Room) s m ([.ref a_wk, .int p1, .int p2] : List Value).toArray below meth c H locs 0 0 Q (F0 m 98 ls []) := by
      intro H locs ls hP hD hS hl
      obtain ⟨e90, e91, e92, e93, e94, e95, e96, e97, e98, e99, e910⟩ := q_inj11 (Option.some.inj hf)
      rw [hQ, ← e90, ← e91, ← e92, ← e93, ← e94, ← e95, ← e96, ← e97, ← e98, ← e99, ← e910]
      exact q_vret (pc := 98) hx hb hr hlocks hP hD hS dX9_spread_98
    have LP35 : ∀ (n35 : Nat) (v8 : Int32) (v9 : Int32) (f10 : Nat → Int32) (f11 : Nat → Int32) (f12 : Nat → Int32) (f13 : Nat → Int32) (v14 : Int32) (v15 : Int32) (v16 : Int32) (v17 : Int32) (v18 : Int32) (v19 : Int32) (H : Heap) (locs : List Loc) (ls : Array Slot), f_Walk_spread_L35 N g_bandRows g_rows g_sheets g_zoneColumns n_wk_reached n_wk_steps p1 v3 n35 v8 v9 f10 f11 f12 f13 v14 v15 v16 v17 v18 v19 = some (f20, f21, f22, f23, v24, v25, v26, v27, v28, v29) → va_P D vwCl ((a_wk, .inr (9, [.ref a_ws, .ref a_wk_steps, .ref a_wk_reached, .int v3])) :: (a_wk_steps, .inl (ci 0, n_wk_steps, .inl f10)) :: (a_wk_reached, .inl (ci 0, n_wk_reached, .inl f11)) :: (a_ws, .inr (6, [.ref a_g, .ref a_ws_first, .ref a_ws_many, .ref a_ws_corner, .int ws_cornerCount, .int v14, .int v15, .int v16, .int v17, .int v18, .int v19])) :: (a_ws_first, .inl (ci 0, 4, .inl f12)) :: (a_ws_many, .inl (ci 0, 4, .inl f13)) :: (a_g, .inr (2, [.ref a_g_rowCuts, .ref a_g_columnCuts, .ref a_g_bandRows, .ref a_g_zoneColumns, .ref a_g_rows, .ref a_g_sheets])) :: (a_g_bandRows, .inl (ci 0, 5, .inl g_bandRows)) :: (a_g_zoneColumns, .inl (ci 0, 5, .inl g_zoneColumns)) :: (a_g_rows, .inl (ci 0, 5, .inl g_rows)) :: (a_g_sheets, .inl (ci 0, 5, .inl g_sheets)) :: Rw) H → va_D A ((a_wk, .inr (9, [.ref a_ws, .ref a_wk_steps, .ref a_wk_reached, .int v3])) :: (a_wk_steps, .inl (ci 0, n_wk_steps, .inl f10)) :: (a_wk_reached, .inl (ci 0, n_wk_reached, .inl f11)) :: (a_ws, .inr (6, [.ref a_g, .ref a_ws_first, .ref a_ws_many, .ref a_ws_corner, .int ws_cornerCount, .int v14, .int v15, .int v16, .int v17, .int v18, .int v19])) :: (a_ws_first, .inl (ci 0, 4, .inl f12)) :: (a_ws_many, .inl (ci 0, 4, .inl f13)) :: (a_g, .inr (2, [.ref a_g_rowCuts, .ref a_g_columnCuts, .ref a_g_bandRows, .ref a_g_zoneColumns, .ref a_g_rows, .ref a_g_sheets])) :: (a_g_bandRows, .inl (ci 0, 5, .inl g_bandRows)) :: (a_g_zoneColumns, .inl (ci 0, 5, .inl g_zoneColumns)) :: (a_g_rows, .inl (ci 0, 5, .inl g_rows)) :: (a_g_sheets, .inl (ci 0, 5, .inl g_sheets)) :: Rw) → va_S A s.heap H locs → lv_has ls 5 [(0, .ref a_wk), (1, .int p1), (3, .int v8), (4, .int v9)] → W p l e ({ frames := 3, cells := 0, slots := 0, locals := 88 } : Room) s m ([.ref a_wk, .int p1, .int p2] : List Value).toArray below meth c H locs 0 0 Q (F0 m 35 ls []) := by
      intro n35
      induction n35 with
      | zero => intro v8 v9 f10 f11 f12 f13 v14 v15 v16 v17 v18 v19 H locs ls hf; rw [f_Walk_spread_L35] at hf; cases hf
      | succ n35 ih35 =>
        intro v8 v9 f10 f11 f12 f13 v14 v15 v16 v17 v18 v19 H locs ls hf hP hD hS hl
        rw [f_Walk_spread_L35] at hf
        refine lv_iload (pc := 35) hx hb dX9_spread_35 (lv_at hl 3 rfl) ?_
        refine lv_iload_n (pc := 37) hx hb dX9_spread_37 rfl (lv_at hl 2 rfl) ?_
        refine q_icmp_ge (pc := 38) (tgt := 98) hx hb dX9_spread_38 (by decide) rfl hf (fun hf => ?_) (fun hf => ?_)
        · obtain ⟨rfl, rfl, rfl, rfl, rfl, rfl, rfl, rfl, rfl, rfl⟩ := q_inj10 (Option.some.inj hf)
          exact JE35 _ _ _ hP hD hS (lv_sub hl [] rfl)
        · refine lv_iload (pc := 41) hx hb dX9_spread_41 (lv_at hl 3 rfl) ?_
          refine lv_aload_n (pc := 43) hx hb dX9_spread_43 rfl (lv_at hl 0 rfl) ?_
          refine va_get (pc := 44) (D := D) (ci := 9) (v := .int v3) (C := RX9) (T := TX9) (N := 4) hx hb hts hinX9 hown hK hP 0 rfl rfl 3 (by decide) w_4 (fun _ h9 => h9) rfl dX9_spread_44 ?_
          refine q_icmp_ge (pc := 47) (tgt := 98) hx hb dX9_spread_47 (by decide) rfl hf (fun hf => ?_) (fun hf => ?_)
          · obtain ⟨rfl, rfl, rfl, rfl, rfl, rfl, rfl, rfl, rfl, rfl⟩ := q_inj10 (Option.some.inj hf)
            exact JE35 _ _ _ hP hD hS (lv_sub hl [] rfl)
          · refine lv_aload_n (pc := 50) hx hb dX9_spread_50 rfl (lv_at hl 0 rfl) ?_
            refine va_get (pc := 51) (D := D) (ci := 9) (v := .ref a_ws) (C := RX9) (T := TX9) (N := 4) hx hb hts hinX9 hown hK hP 0 rfl rfl 0 (by decide) w_1 (fun _ h9 => h9) rfl dX9_spread_51 ?_
            refine lv_iload_n (pc := 54) hx hb dX9_spread_54 rfl (lv_at hl 1 rfl) ?_
            refine lv_aload_n (pc := 55) hx hb dX9_spread_55 rfl (lv_at hl 0 rfl) ?_
            refine va_get (pc := 56) (D := D) (ci := 9) (v := .ref a_wk_reached) (C := RX9) (T := TX9) (N := 4) hx hb hts hinX9 hown hK hP 0 rfl rfl 2 (by decide) w_2 (fun _ h9 => h9) rfl dX9_spread_56 ?_
            refine lv_iload (pc := 59) hx hb dX9_spread_59 (lv_at hl 3 rfl) ?_
            refine q_iald (pc := 61) hx hb hK hP 2 0 hf rfl rfl dX9_spread_61 (fun v30 hf => ?_)
            obtain ⟨v31, v32, v33, v34, v35, v36, hm62, hf⟩ := q_b6_e hf
            refine q_cV (pc := 62) (As := [.int p1, .int v30]) (rest := []) (v0 := none) ⟨hx, hb, hml, hown, hts⟩ hK hA hZ hP hD hS hl.1 [3, 6, 7, 8, 9, 10, 0, 1, 2, 4, 5] 11 rfl ⟨rfl, rfl, rfl⟩ (c_Spot_put l D ci A sa N ((a_wk, .inr (9, [.ref a_ws, .ref a_wk_steps, .ref a_wk_reached, .int v3])) :: (a_wk_steps, .inl (ci 0, n_wk_steps, .inl f10)) :: (a_wk_reached, .inl (ci 0, n_wk_reached, .inl f11)) :: (a_ws_first, .inl (ci 0, 4, .inl f12)) :: (a_ws_many, .inl (ci 0, 4, .inl f13)) :: Rw) a_ws a_g a_ws_first a_ws_many a_ws_corner a_g_rowCuts a_g_columnCuts a_g_bandRows a_g_zoneColumns a_g_rows a_g_sheets ws_cornerCount v14 v15 v16 v17 v18 v19 g_bandRows g_zoneColumns g_rows g_sheets p1 v30 v31 v32 v33 v34 v35 v36 hm62) 3 rfl rfl (cwV 2 hts gX9_spread_X6_put rfl rfl rfl (by decide +kernel) ⟨Nat.le_of_ble_eq_true rfl, Nat.le_of_ble_eq_true rfl⟩) rfl rfl (Nat.le_of_ble_eq_true rfl) dX9_spread_62 ⟨Nat.zero_le _, Nat.zero_le _⟩ [6, 7, 8, 0, 9, 10, 1, 2, 3, 4, 5] 11 rfl ⟨rfl, rfl, rfl⟩ (fun H locs hP hD hS => ?_)
            obtain ⟨hP, hD⟩ : va_PD D A ((a_wk, .inr (9, [.ref a_ws, .ref a_wk_steps, .ref a_wk_reached, .int v3])) :: (a_wk_steps, .inl (ci 0, n_wk_steps, .inl f10)) :: (a_wk_reached, .inl (ci 0, n_wk_reached, .inl f11)) :: (a_ws, .inr (6, [.ref a_g, .ref a_ws_first, .ref a_ws_many, .ref a_ws_corner, .int ws_cornerCount, .int v31, .int v32, .int v33, .int v34, .int v35, .int v36])) :: (a_ws_first, .inl (ci 0, 4, .inl f12)) :: (a_ws_many, .inl (ci 0, 4, .inl f13)) :: (a_g, .inr (2, [.ref a_g_rowCuts, .ref a_g_columnCuts, .ref a_g_bandRows, .ref a_g_zoneColumns, .ref a_g_rows, .ref a_g_sheets])) :: (a_g_bandRows, .inl (ci 0, 5, .inl g_bandRows)) :: (a_g_zoneColumns, .inl (ci 0, 5, .inl g_zoneColumns)) :: (a_g_rows, .inl (ci 0, 5, .inl g_rows)) :: (a_g_sheets, .inl (ci 0, 5, .inl g_sheets)) :: Rw) H := ⟨hP, hD⟩
            refine lv_aload_n (pc := 65) hx hb dX9_spread_65 rfl (lv_at hl 0 rfl) ?_
            refine va_get (pc := 66) (D := D) (ci := 9) (v := .ref a_ws) (C := RX9) (T := TX9) (N := 4) hx hb hts hinX9 hown hK hP 0 rfl rfl 0 (by decide) w_1 (fun _ h9 => h9) rfl dX9_spread_66 ?_
            obtain ⟨f37, f38, hm69, hf⟩ := q_b2_e hf
            refine q_cV (pc := 69) (As := []) (rest := []) (v0 := none) ⟨hx, hb, hml, hown, hts⟩ hK hA hZ hP hD hS hl.1 [3, 4, 5, 6, 7, 8, 9, 10, 0, 1, 2] 11 rfl ⟨rfl, rfl, rfl⟩ (c_Spot_lookAround l D ci A sa N ((a_wk, .inr (9, [.ref a_ws, .ref a_wk_steps, .ref a_wk_reached, .int v3])) :: (a_wk_steps, .inl (ci 0, n_wk_steps, .inl f10)) :: (a_wk_reached, .inl (ci 0, n_wk_reached, .inl f11)) :: Rw) a_ws a_g a_ws_first a_ws_many a_ws_corner a_g_rowCuts a_g_columnCuts a_g_bandRows a_g_zoneColumns a_g_rows a_g_sheets ws_cornerCount v31 v32 v33 v34 v35 v36 f12 f13 g_bandRows g_zoneColumns g_rows g_sheets f37 f38 hm69) 3 rfl rfl (cwV 0 hts gX9_spread_X6_lookAround rfl rfl rfl (by decide +kernel) ⟨Nat.le_of_ble_eq_true rfl, Nat.le_of_ble_eq_true rfl⟩) rfl rfl (Nat.le_of_ble_eq_true rfl) dX9_spread_69 ⟨Nat.zero_le _, Nat.zero_le _⟩ [8, 9, 10, 0, 1, 2, 3, 4, 5, 6, 7] 11 rfl ⟨rfl, rfl, rfl⟩ (fun H locs hP hD hS => ?_)
            obtain ⟨hP, hD⟩ : va_PD D A ((a_wk, .inr (9, [.ref a_ws, .ref a_wk_steps, .ref a_wk_reached, .int v3])) :: (a_wk_steps, .inl (ci 0, n_wk_steps, .inl f10)) :: (a_wk_reached, .inl (ci 0, n_wk_reached, .inl f11)) :: (a_ws, .inr (6, [.ref a_g, .ref a_ws_first, .ref a_ws_many, .ref a_ws_corner, .int ws_cornerCount, .int v31, .int v32, .int v33, .int v34, .int v35, .int v36])) :: (a_ws_first, .inl (ci 0, 4, .inl f37)) :: (a_ws_many, .inl (ci 0, 4, .inl f38)) :: (a_g, .inr (2, [.ref a_g_rowCuts, .ref a_g_columnCuts, .ref a_g_bandRows, .ref a_g_zoneColumns, .ref a_g_rows, .ref a_g_sheets])) :: (a_g_bandRows, .inl (ci 0, 5, .inl g_bandRows)) :: (a_g_zoneColumns, .inl (ci 0, 5, .inl g_zoneColumns)) :: (a_g_rows, .inl (ci 0, 5, .inl g_rows)) :: (a_g_sheets, .inl (ci 0, 5, .inl g_sheets)) :: Rw) H := ⟨hP, hD⟩
            refine lv_aload_n (pc := 72) hx hb dX9_spread_72 rfl (lv_at hl 0 rfl) ?_
            refine lv_aload_n (pc := 73) hx hb dX9_spread_73 rfl (lv_at hl 0 rfl) ?_
            refine va_get (pc := 74) (D := D) (ci := 9) (v := .ref a_wk_steps) (C := RX9) (T := TX9) (N := 4) hx hb hts hinX9 hown hK hP 0 rfl rfl 1 (by decide) w_3 (fun _ h9 => h9) rfl dX9_spread_74 ?_
            refine lv_aload_n (pc := 77) hx hb dX9_spread_77 rfl (lv_at hl 0 rfl) ?_
            refine va_get (pc := 78) (D := D) (ci := 9) (v := .ref a_wk_reached) (C := RX9) (T := TX9) (N := 4) hx hb hts hinX9 hown hK hP 0 rfl rfl 2 (by decide) w_2 (fun _ h9 => h9) rfl dX9_spread_78 ?_
            refine lv_iload (pc := 81) hx hb dX9_spread_81 (lv_at hl 3 rfl) ?_
            refine q_iald (pc := 83) hx hb hK hP 2 0 hf rfl rfl dX9_spread_83 (fun v39 hf => ?_)
            refine q_iald (pc := 84) hx hb hK hP 1 0 hf rfl rfl dX9_spread_84 (fun v40 hf => ?_)
            refine lv_iconst (pc := 85) (v := 1) hx hb dX9_spread_85 (by decide) ?_
            refine lv_iadd (pc := 86) hx hb dX9_spread_86 ?_
            refine lv_iload_n (pc := 87) hx hb dX9_spread_87 rfl (lv_at hl 2 rfl) ?_
            obtain ⟨v41, f42, f43, hm88, hf⟩ := q_b3_e hf
            refine q_cV (pc := 88) (As := [.int (v40 + 1), .int v8]) (rest := []) (v0 := (some (.int v41))) ⟨hx, hb, hml, hown, hts⟩ hK hA hZ hP hD hS hl.1 [0, 1, 2, 3, 4, 5, 6, 7, 8, 9, 10] 11 rfl ⟨rfl, rfl, rfl⟩ (c_Walk_spreadOn l D ci A sa N ((a_g, .inr (2, [.ref a_g_rowCuts, .ref a_g_columnCuts, .ref a_g_bandRows, .ref a_g_zoneColumns, .ref a_g_rows, .ref a_g_sheets])) :: (a_g_bandRows, .inl (ci 0, 5, .inl g_bandRows)) :: (a_g_zoneColumns, .inl (ci 0, 5, .inl g_zoneColumns)) :: (a_g_rows, .inl (ci 0, 5, .inl g_rows)) :: (a_g_sheets, .inl (ci 0, 5, .inl g_sheets)) :: Rw) a_wk a_ws a_wk_steps a_wk_reached n_wk_steps n_wk_reached a_g a_ws_first a_ws_many a_ws_corner v3 f10 f11 ws_cornerCount v31 v32 v33 v34 v35 v36 f37 f38 (v40 + 1) v8 v41 f42 f43 hm88) 0 rfl rfl (cwV 2 hts gX9_spread_X9_spreadOn rfl rfl rfl (by decide +kernel) ⟨Nat.le_of_ble_eq_true rfl, Nat.le_of_ble_eq_true rfl⟩) rfl rfl (Nat.le_of_ble_eq_true rfl) dX9_spread_88 ⟨Nat.zero_le _, Nat.zero_le _⟩ [0, 1, 2, 3, 4, 5, 6, 7, 8, 9, 10] 11 rfl ⟨rfl, rfl, rfl⟩ (fun H locs hP hD hS => ?_)
            obtain ⟨hP, hD⟩ : va_PD D A ((a_wk, .inr (9, [.ref a_ws, .ref a_wk_steps, .ref a_wk_reached, .int v3])) :: (a_wk_steps, .inl (ci 0, n_wk_steps, .inl f42)) :: (a_wk_reached, .inl (ci 0, n_wk_reached, .inl f43)) :: (a_ws, .inr (6, [.ref a_g, .ref a_ws_first, .ref a_ws_many, .ref a_ws_corner, .int ws_cornerCount, .int v31, .int v32, .int v33, .int v34, .int v35, .int v36])) :: (a_ws_first, .inl (ci 0, 4, .inl f37)) :: (a_ws_many, .inl (ci 0, 4, .inl f38)) :: (a_g, .inr (2, [.ref a_g_rowCuts, .ref a_g_columnCuts, .ref a_g_bandRows, .ref a_g_zoneColumns, .ref a_g_rows, .ref a_g_sheets])) :: (a_g_bandRows, .inl (ci 0, 5, .inl g_bandRows)) :: (a_g_zoneColumns, .inl (ci 0, 5, .inl g_zoneColumns)) :: (a_g_rows, .inl (ci 0, 5, .inl g_rows)) :: (a_g_sheets, .inl (ci 0, 5, .inl g_sheets)) :: Rw) H := ⟨hP, hD⟩
            refine lv_istore_n (pc := 91) (lv' := [(3, .int v41), (0, .ref a_wk), (1, .int p1), (4, .int v9)]) hx hb dX9_spread_91 rfl hl (by decide) rfl (fun ls hl => ?_)
            obtain ⟨v44, ev44, hf⟩ := q_nm_e hf
            refine lv_iinc (pc := 92) (v := v44) (lv' := [(4, .int v44), (3, .int v41), (0, .ref a_wk), (1, .int p1)]) hx hb dX9_spread_92 hl (k := 3) rfl (by rw [ev44]; rfl) (by decide) rfl (fun ls hl => ?_)
            refine lv_goto (pc := 95) (tgt := 35) hx hb dX9_spread_95 (by decide) ?_
            exact ih35 v41 v44 f42 f43 f37 f38 v31 v32 v33 v34 v35 v36 _ _ _ hf hP hD hS (lv_sub hl [2, 3, 1, 0] rfl)
    exact LP35 N v6 v7 f5 f4 ws_first ws_many ws_level ws_row ws_start ws_place ws_length ws_cap _ _ _ hm35 hP hD hS (lv_sub hl [2, 3, 1, 0] rfl)
  exact hgo _ _ rfl hP hS
/-! X9_stepsTo -/
set_option maxRecDepth 100000 in
set_option maxHeartbeats 4000000 in
theorem c_Walk_stepsTo (l : Launch) (D : va_G) (ci : Nat → ClassId) (A : Nat → Prop) (sa : Nat → Nat) (N : Nat) (Rw : va_W) (a_wk : Nat) (a_ws : Nat) (a_wk_steps : Nat) (a_wk_reached : Nat) (n_wk_steps : Nat) (wk_many : Int32) (wk_steps : Nat → Int32) (p1 : Int32) (r : Int32) (hf : f_Walk_stepsTo n_wk_steps wk_steps p1 = some r) : Met l yX9_stepsTo wsX9_stepsTo ({ frames := 0, cells := 0, slots := 0, locals := 0 }) (va_Pc [.ref a_wk, .int p1] (q_N D ci A sa ((a_wk, .inr (9, [.ref a_ws, .ref a_wk_steps, .ref a_wk_reached, .int wk_many])) :: (a_wk_steps, .inl (ci 0, n_wk_steps, .inl wk_steps)) :: Rw))) (q_R (some (.int r))) 0 0 A := by
  refine q_ofW (cc := cX9_stepsTo) (maxL := 2) (ret := (some .int)) [.ref a_wk, .int p1] (plainFor_of_name (by decide)) rfl (Nat.le_of_ble_eq_true rfl) ?_
  intro p e s m below meth c ls Q hQ hx hb hml hr hts hown hlocks hK hA hZ hP hD hS hl
  have hl : lv_has ls 2 [(0, .ref a_wk), (1, .int p1)] := hl
  have hown : s.vm.findClass RX9 = some m.cls := hown
  have hinX9 : ∀ w ∈ wsX90, w ∈ wsX9_stepsTo := fun _ h => List.mem_cons_of_mem _ (inWX90 _ h)
  have w_1 := hts (Cond.fieldLink RX9 9 "SheetNames$Walk" "steps" "[I") (List.mem_cons_of_mem _ t_w824)
  unfold f_Walk_stepsTo at hf
  have hgo : ∀ (H : Heap) (locs : List Loc), H = s.heap → va_P D vwCl ((a_wk, .inr (9, [.ref a_ws, .ref a_wk_steps, .ref a_wk_reached, .int wk_many])) :: (a_wk_steps, .inl (ci 0, n_wk_steps, .inl wk_steps)) :: Rw) H → va_S A s.heap H locs → W p l e ({ frames := 0, cells := 0, slots := 0, locals := 0 } : Room) s m ([.ref a_wk, .int p1] : List Value).toArray below meth c H locs 0 0 Q (F0 m 0 ls []) := by
    intro H locs hH hP hS
    subst hH
    refine lv_aload_n (pc := 0) hx hb dX9_stepsTo_0 rfl (lv_at hl 0 rfl) ?_
    refine va_get (pc := 1) (D := D) (ci := 9) (v := .ref a_wk_steps) (C := RX9) (T := TX9) (N := 4) hx hb hts hinX9 hown hK hP 0 rfl rfl 1 (by decide) w_1 (fun _ h9 => h9) rfl dX9_stepsTo_1 ?_
    refine lv_iload_n (pc := 4) hx hb dX9_stepsTo_4 rfl (lv_at hl 1 rfl) ?_
    refine q_iald (pc := 5) hx hb hK hP 1 0 hf rfl rfl dX9_stepsTo_5 (fun v1 hf => ?_)
    obtain rfl := Option.some.inj hf
    rw [hQ]
    exact q_iretr (pc := 6) hx hb hr hlocks rfl hS dX9_stepsTo_6
  exact hgo _ _ rfl hP hS
/-! X9_within -/
set_option maxRecDepth 100000 in
set_option maxHeartbeats 4000000 in
theorem c_Walk_within (l : Launch) (D : va_G) (ci : Nat → ClassId) (A : Nat → Prop) (sa : Nat → Nat) (N : Nat) (Rw : va_W) (a_wk : Nat) (a_ws : Nat) (a_wk_steps : Nat) (a_wk_reached : Nat) (n_wk_steps : Nat) (wk_many : Int32) (wk_steps : Nat → Int32) (p1 : Int32) (r : Int32) (hf : f_Walk_within N n_wk_steps wk_steps wk_many p1 = some r) : Met l yX9_within wsX9_within ({ frames := 0, cells := 0, slots := 0, locals := 0 }) (va_Pc [.ref a_wk, .int p1] (q_N D ci A sa ((a_wk, .inr (9, [.ref a_ws, .ref a_wk_steps, .ref a_wk_reached, .int wk_many])) :: (a_wk_steps, .inl (ci 0, n_wk_steps, .inl wk_steps)) :: Rw))) (q_R (some (.int r))) 0 0 A := by
  refine q_ofW (cc := cX9_within) (maxL := 4) (ret := (some .int)) [.ref a_wk, .int p1] (plainFor_of_name (by decide)) rfl (Nat.le_of_ble_eq_true rfl) ?_
  intro p e s m below meth c ls Q hQ hx hb hml hr hts hown hlocks hK hA hZ hP hD hS hl
  have hl : lv_has ls 4 [(0, .ref a_wk), (1, .int p1)] := hl
  have hown : s.vm.findClass RX9 = some m.cls := hown
  have hinX9 : ∀ w ∈ wsX90, w ∈ wsX9_within := fun _ h => List.mem_cons_of_mem _ (inWX90 _ h)
  have w_1 := hts (Cond.fieldLink RX9 18 "SheetNames$Walk" "many" "I") (List.mem_cons_of_mem _ t_w823)
  have w_2 := hts (Cond.fieldLink RX9 9 "SheetNames$Walk" "steps" "[I") (List.mem_cons_of_mem _ t_w824)
  unfold f_Walk_within at hf
  have hgo : ∀ (H : Heap) (locs : List Loc), H = s.heap → va_P D vwCl ((a_wk, .inr (9, [.ref a_ws, .ref a_wk_steps, .ref a_wk_reached, .int wk_many])) :: (a_wk_steps, .inl (ci 0, n_wk_steps, .inl wk_steps)) :: Rw) H → va_S A s.heap H locs → W p l e ({ frames := 0, cells := 0, slots := 0, locals := 0 } : Room) s m ([.ref a_wk, .int p1] : List Value).toArray below meth c H locs 0 0 Q (F0 m 0 ls []) := by
    intro H locs hH hP hS
    subst hH
    refine lv_iconst (pc := 0) (v := 0) hx hb dX9_within_0 (by decide) ?_
    obtain ⟨v1, ev1, hf⟩ := q_nm_e hf
    refine q_topi ev1 ?_
    refine lv_istore_n (pc := 1) (lv' := [(2, .int v1), (0, .ref a_wk), (1, .int p1)]) hx hb dX9_within_1 rfl hl (by decide) rfl (fun ls hl => ?_)
    refine lv_iconst (pc := 2) (v := 0) hx hb dX9_within_2 (by decide) ?_
    obtain ⟨v2, ev2, hf⟩ := q_nm_e hf
    refine q_topi ev2 ?_
    refine lv_istore_n (pc := 3) (lv' := [(3, .int v2), (2, .int v1), (0, .ref a_wk), (1, .int p1)]) hx hb dX9_within_3 rfl hl (by decide) rfl (fun ls hl => ?_)
    obtain ⟨v5, hm4, hf⟩ := q_b1_e hf
    have JE4 : ∀ (H : Heap) (locs : List Loc) (ls : Array Slot), H = s.heap → va_S A s.heap H locs → lv_has ls 4 [(2, .int v5)] → W p l e ({ frames := 0, cells := 0, slots := 0, locals := 0 } : Room) s m ([.ref a_wk, .int p1] : List Value).toArray below meth c H locs 0 0 Q (F0 m 31 ls []) := by
      intro H locs ls hHs hS hl
      subst hHs
      refine lv_iload_n (pc := 31) hx hb dX9_within_31 rfl (lv_at hl 0 rfl) ?_
      obtain rfl := Option.some.inj hf
      rw [hQ]
      exact q_iretr (pc := 32) hx hb hr hlocks rfl hS dX9_within_32
    have LP4 : ∀ (n4 : Nat) (v3 : Int32) (v4 : Int32) (H : Heap) (locs : List Loc) (ls : Array Slot), f_Walk_within_L4 n_wk_steps p1 wk_many wk_steps n4 v3 v4 = some v5 → H = s.heap → va_S A s.heap H locs → lv_has ls 4 [(0, .ref a_wk), (1, .int p1), (2, .int v3), (3, .int v4)] → W p l e ({ frames := 0, cells := 0, slots := 0, locals := 0 } : Room) s m ([.ref a_wk, .int p1] : List Value).toArray below meth c H locs 0 0 Q (F0 m 4 ls []) := by
      intro n4
      induction n4 with
      | zero => intro v3 v4 H locs ls hf; rw [f_Walk_within_L4] at hf; cases hf
      | succ n4 ih4 =>
        intro v3 v4 H locs ls hf hHs hS hl
        subst hHs
        rw [f_Walk_within_L4] at hf
        refine lv_iload_n (pc := 4) hx hb dX9_within_4 rfl (lv_at hl 3 rfl) ?_
        refine lv_aload_n (pc := 5) hx hb dX9_within_5 rfl (lv_at hl 0 rfl) ?_
        refine va_get (pc := 6) (D := D) (ci := 9) (v := .int wk_many) (C := RX9) (T := TX9) (N := 4) hx hb hts hinX9 hown hK hP 0 rfl rfl 3 (by decide) w_1 (fun _ h9 => h9) rfl dX9_within_6 ?_
        refine q_icmp_ge (pc := 9) (tgt := 31) hx hb dX9_within_9 (by decide) rfl hf (fun hf => ?_) (fun hf => ?_)
        · obtain rfl := Option.some.inj hf
          exact JE4 _ _ _ rfl hS (lv_sub hl [2] rfl)
        · refine lv_aload_n (pc := 12) hx hb dX9_within_12 rfl (lv_at hl 0 rfl) ?_
          refine va_get (pc := 13) (D := D) (ci := 9) (v := .ref a_wk_steps) (C := RX9) (T := TX9) (N := 4) hx hb hts hinX9 hown hK hP 0 rfl rfl 1 (by decide) w_2 (fun _ h9 => h9) rfl dX9_within_13 ?_
          refine lv_iload_n (pc := 16) hx hb dX9_within_16 rfl (lv_at hl 3 rfl) ?_
          refine q_iald (pc := 17) hx hb hK hP 1 0 hf rfl rfl dX9_within_17 (fun v6 hf => ?_)
          refine lv_iload_n (pc := 18) hx hb dX9_within_18 rfl (lv_at hl 1 rfl) ?_
          obtain ⟨k25, ek25, hf⟩ := q_j1_e hf
          have J25 : ∀ (v7 : Int32) (H : Heap) (locs : List Loc) (ls : Array Slot), k25 v7 = some v5 → H = s.heap → va_S A s.heap H locs → lv_has ls 4 [(0, .ref a_wk), (1, .int p1), (2, .int v7), (3, .int v4)] → W p l e ({ frames := 0, cells := 0, slots := 0, locals := 0 } : Room) s m ([.ref a_wk, .int p1] : List Value).toArray below meth c H locs 0 0 Q (F0 m 25 ls []) := by
            intro v7 H locs ls hf hHs hS hl
            subst hHs
            have hf := (ek25 v7).symm.trans hf
            obtain ⟨v8, ev8, hf⟩ := q_nm_e hf
            refine lv_iinc (pc := 25) (v := v8) (lv' := [(3, .int v8), (0, .ref a_wk), (1, .int p1), (2, .int v7)]) hx hb dX9_within_25 hl (k := 3) rfl (by rw [ev8]; rfl) (by decide) rfl (fun ls hl => ?_)
            refine lv_goto (pc := 28) (tgt := 4) hx hb dX9_within_28 (by decide) ?_
            exact ih4 v7 v8 _ _ _ hf rfl hS (lv_sub hl [1, 2, 3, 0] rfl)
          refine q_icmp_gt (pc := 19) (tgt := 25) hx hb dX9_within_19 (by decide) rfl hf (fun hf => ?_) (fun hf => ?_)
          · exact J25 v3 _ _ _ hf rfl hS (lv_sub hl [0, 1, 2, 3] rfl)
          · obtain ⟨v9, ev9, hf⟩ := q_nm_e hf
            refine lv_iinc (pc := 22) (v := v9) (lv' := [(2, .int v9), (0, .ref a_wk), (1, .int p1), (3, .int v4)]) hx hb dX9_within_22 hl (k := 2) rfl (by rw [ev9]; rfl) (by decide) rfl (fun ls hl => ?_)
            exact J25 v9 _ _ _ hf rfl hS (lv_sub hl [1, 2, 0, 3] rfl)
    exact LP4 N v1 v2 _ _ _ hm4 rfl hS (lv_sub hl [2, 3, 1, 0] rfl)
  exact hgo _ _ rfl hP hS
