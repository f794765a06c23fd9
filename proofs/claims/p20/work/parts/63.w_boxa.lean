/-! X1_bottomRow -/
set_option maxRecDepth 100000 in
set_option maxHeartbeats 4000000 in
theorem c_Box_bottomRow (l : Launch) (D : va_G) (ci : Nat → ClassId) (A : Nat → Prop) (sa : Nat → Nat) (N : Nat) (Rw : va_W) (a_bx : Nat) (a_g : Nat) (a_g_rowCuts : Nat) (a_g_columnCuts : Nat) (a_g_bandRows : Nat) (a_g_zoneColumns : Nat) (a_g_rows : Nat) (a_g_sheets : Nat) (bx_south : Int32) (bx_north : Int32) (bx_west : Int32) (bx_east : Int32) (g_bandRows : Nat → Int32) (g_rows : Nat → Int32) (p1 : Int32) (r : Int32) (hf : f_Box_bottomRow bx_south g_bandRows g_rows p1 = some r) : Met l yX1_bottomRow wsX1_bottomRow ({ frames := 2, cells := 0, slots := 0, locals := 49 }) (va_Pc [.ref a_bx, .int p1] (q_N D ci A sa ((a_bx, .inr (1, [.ref a_g, .int bx_south, .int bx_north, .int bx_west, .int bx_east])) :: (a_g, .inr (2, [.ref a_g_rowCuts, .ref a_g_columnCuts, .ref a_g_bandRows, .ref a_g_zoneColumns, .ref a_g_rows, .ref a_g_sheets])) :: (a_g_bandRows, .inl (ci 0, 5, .inl g_bandRows)) :: (a_g_rows, .inl (ci 0, 5, .inl g_rows)) :: Rw))) (q_R (some (.int r))) 0 0 A := by
  refine q_ofW (cc := cX1_bottomRow) (maxL := 2) (ret := (some .int)) [.ref a_bx, .int p1] (plainFor_of_name (by decide)) rfl (Nat.le_of_ble_eq_true rfl) ?_
  intro p e s m below meth c ls Q hQ hx hb hml hr hts hown hlocks hK hA hZ hP hD hS hl
  have hl : lv_has ls 2 [(0, .ref a_bx), (1, .int p1)] := hl
  have hown : s.vm.findClass RX1 = some m.cls := hown
  have hinX1 : ∀ w ∈ wsX10, w ∈ wsX1_bottomRow := fun _ h => List.mem_cons_of_mem _ (inWX10 _ h)
  have w_1 := hts (Cond.fieldLink RX1 24 "SheetNames$Box" "grid" "LSheetNames$Grid;") (List.mem_cons_of_mem _ t_w827)
  have w_2 := hts (Cond.fieldLink RX1 9 "SheetNames$Box" "south" "I") (List.mem_cons_of_mem _ t_w828)
  unfold f_Box_bottomRow at hf
  have hgo : ∀ (H : Heap) (locs : List Loc), H = s.heap → va_P D vwCl ((a_bx, .inr (1, [.ref a_g, .int bx_south, .int bx_north, .int bx_west, .int bx_east])) :: (a_g, .inr (2, [.ref a_g_rowCuts, .ref a_g_columnCuts, .ref a_g_bandRows, .ref a_g_zoneColumns, .ref a_g_rows, .ref a_g_sheets])) :: (a_g_bandRows, .inl (ci 0, 5, .inl g_bandRows)) :: (a_g_rows, .inl (ci 0, 5, .inl g_rows)) :: Rw) H → va_S A s.heap H locs → W p l e ({ frames := 2, cells := 0, slots := 0, locals := 49 } : Room) s m ([.ref a_bx, .int p1] : List Value).toArray below meth c H locs 0 0 Q (F0 m 0 ls []) := by
    intro H locs hH hP hS
    subst hH
    refine lv_aload_n (pc := 0) hx hb dX1_bottomRow_0 rfl (lv_at hl 0 rfl) ?_
    refine va_get (pc := 1) (D := D) (ci := 1) (v := .ref a_g) (C := RX1) (T := TX1) (N := 5) hx hb hts hinX1 hown hK hP 0 rfl rfl 0 (by decide) w_1 (fun _ h9 => h9) rfl dX1_bottomRow_1 ?_
    refine lv_iload_n (pc := 4) hx hb dX1_bottomRow_4 rfl (lv_at hl 1 rfl) ?_
    refine lv_aload_n (pc := 5) hx hb dX1_bottomRow_5 rfl (lv_at hl 0 rfl) ?_
    refine va_get (pc := 6) (D := D) (ci := 1) (v := .int bx_south) (C := RX1) (T := TX1) (N := 5) hx hb hts hinX1 hown hK hP 0 rfl rfl 1 (by decide) w_2 (fun _ h9 => h9) rfl dX1_bottomRow_6 ?_
    obtain ⟨v1, hm9, hf⟩ := q_b1_e hf
    refine q_cVr (pc := 9) (As := [.int p1, .int bx_south]) (rest := []) (v0 := (some (.int v1))) ⟨hx, hb, hml, hown, hts⟩ hK hA hZ hP hD hS hl.1 [1, 2, 3] 4 rfl ⟨rfl, rfl, rfl⟩ (c_Grid_rowOfLat l D ci A sa N (Rw) a_g a_g_rowCuts a_g_columnCuts a_g_bandRows a_g_zoneColumns a_g_rows a_g_sheets g_bandRows g_rows p1 bx_south v1 hm9) 1 rfl rfl (cwV 2 hts gX1_bottomRow_X2_rowOfLat rfl rfl rfl (by decide +kernel) ⟨Nat.le_of_ble_eq_true rfl, Nat.le_of_ble_eq_true rfl⟩) rfl rfl (Nat.le_of_ble_eq_true rfl) dX1_bottomRow_9 ⟨Nat.zero_le _, Nat.zero_le _⟩ (fun locs hS => ?_)
    obtain rfl := Option.some.inj hf
    rw [hQ]
    exact q_iretr (pc := 12) hx hb hr hlocks rfl hS dX1_bottomRow_12
  exact hgo _ _ rfl hP hS
/-! X1_beltBottom -/
set_option maxRecDepth 100000 in
set_option maxHeartbeats 4000000 in
theorem c_Box_beltBottom (l : Launch) (D : va_G) (ci : Nat → ClassId) (A : Nat → Prop) (sa : Nat → Nat) (N : Nat) (Rw : va_W) (a_bx : Nat) (a_g : Nat) (a_g_rowCuts : Nat) (a_g_columnCuts : Nat) (a_g_bandRows : Nat) (a_g_zoneColumns : Nat) (a_g_rows : Nat) (a_g_sheets : Nat) (bx_south : Int32) (bx_north : Int32) (bx_west : Int32) (bx_east : Int32) (g_bandRows : Nat → Int32) (g_rows : Nat → Int32) (p1 : Int32) (p2 : Int32) (r : Int32) (hf : f_Box_beltBottom bx_south g_bandRows g_rows p1 p2 = some r) : Met l yX1_beltBottom wsX1_beltBottom ({ frames := 3, cells := 0, slots := 0, locals := 70 }) (va_Pc [.ref a_bx, .int p1, .int p2] (q_N D ci A sa ((a_bx, .inr (1, [.ref a_g, .int bx_south, .int bx_north, .int bx_west, .int bx_east])) :: (a_g, .inr (2, [.ref a_g_rowCuts, .ref a_g_columnCuts, .ref a_g_bandRows, .ref a_g_zoneColumns, .ref a_g_rows, .ref a_g_sheets])) :: (a_g_bandRows, .inl (ci 0, 5, .inl g_bandRows)) :: (a_g_rows, .inl (ci 0, 5, .inl g_rows)) :: Rw))) (q_R (some (.int r))) 0 0 A := by
  refine q_ofW (cc := cX1_beltBottom) (maxL := 4) (ret := (some .int)) [.ref a_bx, .int p1, .int p2] (plainFor_of_name (by decide)) rfl (Nat.le_of_ble_eq_true rfl) ?_
  intro p e s m below meth c ls Q hQ hx hb hml hr hts hown hlocks hK hA hZ hP hD hS hl
  have hl : lv_has ls 4 [(0, .ref a_bx), (1, .int p1), (2, .int p2)] := hl
  have hown : s.vm.findClass RX1 = some m.cls := hown
  have hinX1 : ∀ w ∈ wsX10, w ∈ wsX1_beltBottom := fun _ h => List.mem_cons_of_mem _ (inWX10 _ h)
  have hinX2 : ∀ w ∈ wsX20, w ∈ wsX1_beltBottom := fun _ h => List.mem_cons_of_mem _ (inWX20 _ h)
  have w_1 := hts (Cond.fieldLink RX1 24 "SheetNames$Box" "grid" "LSheetNames$Grid;") (List.mem_cons_of_mem _ t_w827)
  have w_2 := hts (Cond.methodLink RX1 41 Lib.Math.min.name) (List.mem_cons_of_mem _ t_w829)
  have w_3 := hts (Cond.static Lib.Math.min.name) (List.mem_cons_of_mem _ t_w810)
  have w_4 := hts (Cond.initialized "java/lang/Math") (List.mem_cons_of_mem _ t_w76)
  have w_5 := hts (Cond.code Lib.Math.min.name Lib.Math.min.code 2 (some .int)) (List.mem_cons_of_mem _ t_w811)
  have wn_38 : (Cond.fieldLinkNest "SheetNames$Box" 49 "SheetNames$Grid" "bandRows" "[I" "SheetNames").before ([.ref a_bx, .int p1, .int p2] : List Value).toArray s = true := (hZ.2.2.2.2.2.2.2.2.2.1 _ (List.mem_of_getElem? (i := 38) rfl)).use rfl
  have wn_39 : (Cond.fieldLinkNest "SheetNames$Box" 60 "SheetNames$Grid" "rows" "[I" "SheetNames").before ([.ref a_bx, .int p1, .int p2] : List Value).toArray s = true := (hZ.2.2.2.2.2.2.2.2.2.1 _ (List.mem_of_getElem? (i := 39) rfl)).use rfl
  unfold f_Box_beltBottom at hf
  have hgo : ∀ (H : Heap) (locs : List Loc), H = s.heap → va_P D vwCl ((a_bx, .inr (1, [.ref a_g, .int bx_south, .int bx_north, .int bx_west, .int bx_east])) :: (a_g, .inr (2, [.ref a_g_rowCuts, .ref a_g_columnCuts, .ref a_g_bandRows, .ref a_g_zoneColumns, .ref a_g_rows, .ref a_g_sheets])) :: (a_g_bandRows, .inl (ci 0, 5, .inl g_bandRows)) :: (a_g_rows, .inl (ci 0, 5, .inl g_rows)) :: Rw) H → va_S A s.heap H locs → W p l e ({ frames := 3, cells := 0, slots := 0, locals := 70 } : Room) s m ([.ref a_bx, .int p1, .int p2] : List Value).toArray below meth c H locs 0 0 Q (F0 m 0 ls []) := by
    intro H locs hH hP hS
    subst hH
    refine lv_iload_n (pc := 0) hx hb dX1_beltBottom_0 rfl (lv_at hl 2 rfl) ?_
    refine lv_bipush (pc := 1) (v := 44) hx hb dX1_beltBottom_1 (by decide) ?_
    obtain ⟨k31, ek31, hf⟩ := q_j1_e hf
    have J31 : ∀ (v1 : Int32) (H : Heap) (locs : List Loc) (ls : Array Slot), k31 v1 = some r → H = s.heap → va_S A s.heap H locs → lv_has ls 4 [(0, .ref a_bx), (1, .int p1)] → W p l e ({ frames := 3, cells := 0, slots := 0, locals := 70 } : Room) s m ([.ref a_bx, .int p1, .int p2] : List Value).toArray below meth c H locs 0 0 Q (F0 m 31 ls [.int v1]) := by
      intro v1 H locs ls hf hHs hS hl
      subst hHs
      have hf := (ek31 v1).symm.trans hf
      refine lv_istore_n (pc := 31) (lv' := [(3, .int v1), (0, .ref a_bx), (1, .int p1)]) hx hb dX1_beltBottom_31 rfl hl (by decide) rfl (fun ls hl => ?_)
      refine lv_iload_n (pc := 32) hx hb dX1_beltBottom_32 rfl (lv_at hl 0 rfl) ?_
      refine lv_aload_n (pc := 33) hx hb dX1_beltBottom_33 rfl (lv_at hl 1 rfl) ?_
      refine lv_iload_n (pc := 34) hx hb dX1_beltBottom_34 rfl (lv_at hl 2 rfl) ?_
      obtain ⟨v2, hm35, hf⟩ := q_b1_e hf
      refine q_cVr (pc := 35) (As := [.int p1]) (rest := [.int v1]) (v0 := (some (.int v2))) ⟨hx, hb, hml, hown, hts⟩ hK hA hZ hP hD hS hl.1 [0, 1, 2, 3] 4 rfl ⟨rfl, rfl, rfl⟩ (c_Box_bottomRow l D ci A sa N (Rw) a_bx a_g a_g_rowCuts a_g_columnCuts a_g_bandRows a_g_zoneColumns a_g_rows a_g_sheets bx_south bx_north bx_west bx_east g_bandRows g_rows p1 v2 hm35) 0 rfl rfl (cwV 1 hts gX1_beltBottom_X1_bottomRow rfl rfl rfl (by decide +kernel) ⟨Nat.le_of_ble_eq_true rfl, Nat.le_of_ble_eq_true rfl⟩) rfl rfl (Nat.le_of_ble_eq_true rfl) dX1_beltBottom_35 ⟨Nat.zero_le _, Nat.zero_le _⟩ (fun locs hS => ?_)
      obtain ⟨v3, ev3, hf⟩ := q_nm_e hf
      refine va_mmin (pc := 38) hx hb (hml.trans hl.1.symm) hown w_2 w_3 w_4 w_5 (Nat.le_of_ble_eq_true rfl) (Nat.le_of_ble_eq_true rfl) (Nat.zero_le _) (Nat.zero_le _) dX1_beltBottom_38 ?_
      refine q_topi ev3 ?_
      obtain rfl := Option.some.inj hf
      rw [hQ]
      exact q_iretr (pc := 41) hx hb hr hlocks rfl hS dX1_beltBottom_41
    refine q_icmp_le (pc := 3) (tgt := 20) hx hb dX1_beltBottom_3 (by decide) rfl hf (fun hf => ?_) (fun hf => ?_)
    · refine lv_iload_n (pc := 20) hx hb dX1_beltBottom_20 rfl (lv_at hl 2 rfl) ?_
      refine lv_aload_n (pc := 21) hx hb dX1_beltBottom_21 rfl (lv_at hl 0 rfl) ?_
      refine va_get (pc := 22) (D := D) (ci := 1) (v := .ref a_g) (C := RX1) (T := TX1) (N := 5) hx hb hts hinX1 hown hK hP 0 rfl rfl 0 (by decide) w_1 (fun _ h9 => h9) rfl dX1_beltBottom_22 ?_
      refine va_getN (pc := 25) (D := D) (ci := 2) (v := .ref a_g_bandRows) (C := RX2) (T := TX2) (N := 6) hx hb hts hinX2 hown hK hP 1 rfl rfl 2 (by decide) wn_38 (fun _ h9 => h9) rfl dX1_beltBottom_25 ?_
      refine lv_iload_n (pc := 28) hx hb dX1_beltBottom_28 rfl (lv_at hl 1 rfl) ?_
      refine q_iald (pc := 29) hx hb hK hP 2 0 hf rfl rfl dX1_beltBottom_29 (fun v4 hf => ?_)
      refine lv_imul (pc := 30) hx hb dX1_beltBottom_30 ?_
      exact J31 (p2 * v4) _ _ _ hf rfl hS (lv_sub hl [0, 1] rfl)
    · refine lv_aload_n (pc := 6) hx hb dX1_beltBottom_6 rfl (lv_at hl 0 rfl) ?_
      refine va_get (pc := 7) (D := D) (ci := 1) (v := .ref a_g) (C := RX1) (T := TX1) (N := 5) hx hb hts hinX1 hown hK hP 0 rfl rfl 0 (by decide) w_1 (fun _ h9 => h9) rfl dX1_beltBottom_7 ?_
      refine va_getN (pc := 10) (D := D) (ci := 2) (v := .ref a_g_rows) (C := RX2) (T := TX2) (N := 6) hx hb hts hinX2 hown hK hP 1 rfl rfl 4 (by decide) wn_39 (fun _ h9 => h9) rfl dX1_beltBottom_10 ?_
      refine lv_iload_n (pc := 13) hx hb dX1_beltBottom_13 rfl (lv_at hl 1 rfl) ?_
      refine q_iald (pc := 14) hx hb hK hP 3 0 hf rfl rfl dX1_beltBottom_14 (fun v5 hf => ?_)
      refine lv_iconst (pc := 15) (v := 1) hx hb dX1_beltBottom_15 (by decide) ?_
      refine lv_isub (pc := 16) hx hb dX1_beltBottom_16 ?_
      refine lv_goto (pc := 17) (tgt := 31) hx hb dX1_beltBottom_17 (by decide) ?_
      exact J31 (v5 - 1) _ _ _ hf rfl hS (lv_sub hl [0, 1] rfl)
  exact hgo _ _ rfl hP hS
/-! X1_topRow -/
set_option maxRecDepth 100000 in
set_option maxHeartbeats 4000000 in
theorem c_Box_topRow (l : Launch) (D : va_G) (ci : Nat → ClassId) (A : Nat → Prop) (sa : Nat → Nat) (N : Nat) (Rw : va_W) (a_bx : Nat) (a_g : Nat) (a_g_rowCuts : Nat) (a_g_columnCuts : Nat) (a_g_bandRows : Nat) (a_g_zoneColumns : Nat) (a_g_rows : Nat) (a_g_sheets : Nat) (bx_south : Int32) (bx_north : Int32) (bx_west : Int32) (bx_east : Int32) (g_bandRows : Nat → Int32) (g_rows : Nat → Int32) (p1 : Int32) (r : Int32) (hf : f_Box_topRow bx_north g_bandRows g_rows p1 = some r) : Met l yX1_topRow wsX1_topRow ({ frames := 2, cells := 0, slots := 0, locals := 49 }) (va_Pc [.ref a_bx, .int p1] (q_N D ci A sa ((a_bx, .inr (1, [.ref a_g, .int bx_south, .int bx_north, .int bx_west, .int bx_east])) :: (a_g, .inr (2, [.ref a_g_rowCuts, .ref a_g_columnCuts, .ref a_g_bandRows, .ref a_g_zoneColumns, .ref a_g_rows, .ref a_g_sheets])) :: (a_g_bandRows, .inl (ci 0, 5, .inl g_bandRows)) :: (a_g_rows, .inl (ci 0, 5, .inl g_rows)) :: Rw))) (q_R (some (.int r))) 0 0 A := by
  refine q_ofW (cc := cX1_topRow) (maxL := 2) (ret := (some .int)) [.ref a_bx, .int p1] (plainFor_of_name (by decide)) rfl (Nat.le_of_ble_eq_true rfl) ?_
  intro p e s m below meth c ls Q hQ hx hb hml hr hts hown hlocks hK hA hZ hP hD hS hl
  have hl : lv_has ls 2 [(0, .ref a_bx), (1, .int p1)] := hl
  have hown : s.vm.findClass RX1 = some m.cls := hown
  have hinX1 : ∀ w ∈ wsX10, w ∈ wsX1_topRow := fun _ h => List.mem_cons_of_mem _ (inWX10 _ h)
  have w_1 := hts (Cond.fieldLink RX1 24 "SheetNames$Box" "grid" "LSheetNames$Grid;") (List.mem_cons_of_mem _ t_w827)
  have w_2 := hts (Cond.fieldLink RX1 15 "SheetNames$Box" "north" "I") (List.mem_cons_of_mem _ t_w830)
  unfold f_Box_topRow at hf
  have hgo : ∀ (H : Heap) (locs : List Loc), H = s.heap → va_P D vwCl ((a_bx, .inr (1, [.ref a_g, .int bx_south, .int bx_north, .int bx_west, .int bx_east])) :: (a_g, .inr (2, [.ref a_g_rowCuts, .ref a_g_columnCuts, .ref a_g_bandRows, .ref a_g_zoneColumns, .ref a_g_rows, .ref a_g_sheets])) :: (a_g_bandRows, .inl (ci 0, 5, .inl g_bandRows)) :: (a_g_rows, .inl (ci 0, 5, .inl g_rows)) :: Rw) H → va_S A s.heap H locs → W p l e ({ frames := 2, cells := 0, slots := 0, locals := 49 } : Room) s m ([.ref a_bx, .int p1] : List Value).toArray below meth c H locs 0 0 Q (F0 m 0 ls []) := by
    intro H locs hH hP hS
    subst hH
    refine lv_aload_n (pc := 0) hx hb dX1_topRow_0 rfl (lv_at hl 0 rfl) ?_
    refine va_get (pc := 1) (D := D) (ci := 1) (v := .ref a_g) (C := RX1) (T := TX1) (N := 5) hx hb hts hinX1 hown hK hP 0 rfl rfl 0 (by decide) w_1 (fun _ h9 => h9) rfl dX1_topRow_1 ?_
    refine lv_iload_n (pc := 4) hx hb dX1_topRow_4 rfl (lv_at hl 1 rfl) ?_
    refine lv_aload_n (pc := 5) hx hb dX1_topRow_5 rfl (lv_at hl 0 rfl) ?_
    refine va_get (pc := 6) (D := D) (ci := 1) (v := .int bx_north) (C := RX1) (T := TX1) (N := 5) hx hb hts hinX1 hown hK hP 0 rfl rfl 2 (by decide) w_2 (fun _ h9 => h9) rfl dX1_topRow_6 ?_
    obtain ⟨v1, hm9, hf⟩ := q_b1_e hf
    refine q_cVr (pc := 9) (As := [.int p1, .int bx_north]) (rest := []) (v0 := (some (.int v1))) ⟨hx, hb, hml, hown, hts⟩ hK hA hZ hP hD hS hl.1 [1, 2, 3] 4 rfl ⟨rfl, rfl, rfl⟩ (c_Grid_rowOfLat l D ci A sa N (Rw) a_g a_g_rowCuts a_g_columnCuts a_g_bandRows a_g_zoneColumns a_g_rows a_g_sheets g_bandRows g_rows p1 bx_north v1 hm9) 1 rfl rfl (cwV 2 hts gX1_topRow_X2_rowOfLat rfl rfl rfl (by decide +kernel) ⟨Nat.le_of_ble_eq_true rfl, Nat.le_of_ble_eq_true rfl⟩) rfl rfl (Nat.le_of_ble_eq_true rfl) dX1_topRow_9 ⟨Nat.zero_le _, Nat.zero_le _⟩ (fun locs hS => ?_)
    obtain rfl := Option.some.inj hf
    rw [hQ]
    exact q_iretr (pc := 12) hx hb hr hlocks rfl hS dX1_topRow_12
  exact hgo _ _ rfl hP hS
/-! X1_beltTop -/
set_option maxRecDepth 100000 in
set_option maxHeartbeats 4000000 in
theorem c_Box_beltTop (l : Launch) (D : va_G) (ci : Nat → ClassId) (A : Nat → Prop) (sa : Nat → Nat) (N : Nat) (Rw : va_W) (a_bx : Nat) (a_g : Nat) (a_g_rowCuts : Nat) (a_g_columnCuts : Nat) (a_g_bandRows : Nat) (a_g_zoneColumns : Nat) (a_g_rows : Nat) (a_g_sheets : Nat) (bx_south : Int32) (bx_north : Int32) (bx_west : Int32) (bx_east : Int32) (g_bandRows : Nat → Int32) (g_rows : Nat → Int32) (p1 : Int32) (p2 : Int32) (r : Int32) (hf : f_Box_beltTop bx_north g_bandRows g_rows p1 p2 = some r) : Met l yX1_beltTop wsX1_beltTop ({ frames := 3, cells := 0, slots := 0, locals := 70 }) (va_Pc [.ref a_bx, .int p1, .int p2] (q_N D ci A sa ((a_bx, .inr (1, [.ref a_g, .int bx_south, .int bx_north, .int bx_west, .int bx_east])) :: (a_g, .inr (2, [.ref a_g_rowCuts, .ref a_g_columnCuts, .ref a_g_bandRows, .ref a_g_zoneColumns, .ref a_g_rows, .ref a_g_sheets])) :: (a_g_bandRows, .inl (ci 0, 5, .inl g_bandRows)) :: (a_g_rows, .inl (ci 0, 5, .inl g_rows)) :: Rw))) (q_R (some (.int r))) 0 0 A := by
  refine q_ofW (cc := cX1_beltTop) (maxL := 4) (ret := (some .int)) [.ref a_bx, .int p1, .int p2] (plainFor_of_name (by decide)) rfl (Nat.le_of_ble_eq_true rfl) ?_
  intro p e s m below meth c ls Q hQ hx hb hml hr hts hown hlocks hK hA hZ hP hD hS hl
  have hl : lv_has ls 4 [(0, .ref a_bx), (1, .int p1), (2, .int p2)] := hl
  have hown : s.vm.findClass RX1 = some m.cls := hown
  have hinX1 : ∀ w ∈ wsX10, w ∈ wsX1_beltTop := fun _ h => List.mem_cons_of_mem _ (inWX10 _ h)
  have hinX2 : ∀ w ∈ wsX20, w ∈ wsX1_beltTop := fun _ h => List.mem_cons_of_mem _ (inWX20 _ h)
  have w_1 := hts (Cond.fieldLink RX1 24 "SheetNames$Box" "grid" "LSheetNames$Grid;") (List.mem_cons_of_mem _ t_w827)
  have w_2 := hts (Cond.methodLink RX1 57 Lib.Math.max.name) (List.mem_cons_of_mem _ t_w831)
  have w_3 := hts (Cond.static Lib.Math.max.name) (List.mem_cons_of_mem _ t_w813)
  have w_4 := hts (Cond.initialized "java/lang/Math") (List.mem_cons_of_mem _ t_w76)
  have w_5 := hts (Cond.code Lib.Math.max.name Lib.Math.max.code 2 (some .int)) (List.mem_cons_of_mem _ t_w814)
  have wn_38 : (Cond.fieldLinkNest "SheetNames$Box" 49 "SheetNames$Grid" "bandRows" "[I" "SheetNames").before ([.ref a_bx, .int p1, .int p2] : List Value).toArray s = true := (hZ.2.2.2.2.2.2.2.2.2.1 _ (List.mem_of_getElem? (i := 38) rfl)).use rfl
  unfold f_Box_beltTop at hf
  have hgo : ∀ (H : Heap) (locs : List Loc), H = s.heap → va_P D vwCl ((a_bx, .inr (1, [.ref a_g, .int bx_south, .int bx_north, .int bx_west, .int bx_east])) :: (a_g, .inr (2, [.ref a_g_rowCuts, .ref a_g_columnCuts, .ref a_g_bandRows, .ref a_g_zoneColumns, .ref a_g_rows, .ref a_g_sheets])) :: (a_g_bandRows, .inl (ci 0, 5, .inl g_bandRows)) :: (a_g_rows, .inl (ci 0, 5, .inl g_rows)) :: Rw) H → va_S A s.heap H locs → W p l e ({ frames := 3, cells := 0, slots := 0, locals := 70 } : Room) s m ([.ref a_bx, .int p1, .int p2] : List Value).toArray below meth c H locs 0 0 Q (F0 m 0 ls []) := by
    intro H locs hH hP hS
    subst hH
    refine lv_iload_n (pc := 0) hx hb dX1_beltTop_0 rfl (lv_at hl 2 rfl) ?_
    obtain ⟨k23, ek23, hf⟩ := q_j1_e hf
    have J23 : ∀ (v1 : Int32) (H : Heap) (locs : List Loc) (ls : Array Slot), k23 v1 = some r → H = s.heap → va_S A s.heap H locs → lv_has ls 4 [(0, .ref a_bx), (1, .int p1)] → W p l e ({ frames := 3, cells := 0, slots := 0, locals := 70 } : Room) s m ([.ref a_bx, .int p1, .int p2] : List Value).toArray below meth c H locs 0 0 Q (F0 m 23 ls [.int v1]) := by
      intro v1 H locs ls hf hHs hS hl
      subst hHs
      have hf := (ek23 v1).symm.trans hf
      refine lv_istore_n (pc := 23) (lv' := [(3, .int v1), (0, .ref a_bx), (1, .int p1)]) hx hb dX1_beltTop_23 rfl hl (by decide) rfl (fun ls hl => ?_)
      refine lv_iload_n (pc := 24) hx hb dX1_beltTop_24 rfl (lv_at hl 0 rfl) ?_
      refine lv_aload_n (pc := 25) hx hb dX1_beltTop_25 rfl (lv_at hl 1 rfl) ?_
      refine lv_iload_n (pc := 26) hx hb dX1_beltTop_26 rfl (lv_at hl 2 rfl) ?_
      obtain ⟨v2, hm27, hf⟩ := q_b1_e hf
      refine q_cVr (pc := 27) (As := [.int p1]) (rest := [.int v1]) (v0 := (some (.int v2))) ⟨hx, hb, hml, hown, hts⟩ hK hA hZ hP hD hS hl.1 [0, 1, 2, 3] 4 rfl ⟨rfl, rfl, rfl⟩ (c_Box_topRow l D ci A sa N (Rw) a_bx a_g a_g_rowCuts a_g_columnCuts a_g_bandRows a_g_zoneColumns a_g_rows a_g_sheets bx_south bx_north bx_west bx_east g_bandRows g_rows p1 v2 hm27) 0 rfl rfl (cwV 1 hts gX1_beltTop_X1_topRow rfl rfl rfl (by decide +kernel) ⟨Nat.le_of_ble_eq_true rfl, Nat.le_of_ble_eq_true rfl⟩) rfl rfl (Nat.le_of_ble_eq_true rfl) dX1_beltTop_27 ⟨Nat.zero_le _, Nat.zero_le _⟩ (fun locs hS => ?_)
      obtain ⟨v3, ev3, hf⟩ := q_nm_e hf
      refine va_mmax (pc := 30) hx hb (hml.trans hl.1.symm) hown w_2 w_3 w_4 w_5 (Nat.le_of_ble_eq_true rfl) (Nat.le_of_ble_eq_true rfl) (Nat.zero_le _) (Nat.zero_le _) dX1_beltTop_30 ?_
      refine q_topi ev3 ?_
      obtain rfl := Option.some.inj hf
      rw [hQ]
      exact q_iretr (pc := 33) hx hb hr hlocks rfl hS dX1_beltTop_33
    refine q_if_ne (pc := 1) (tgt := 8) hx hb dX1_beltTop_1 (by decide) rfl hf (fun hf => ?_) (fun hf => ?_)
    · refine lv_iload_n (pc := 8) hx hb dX1_beltTop_8 rfl (lv_at hl 2 rfl) ?_
      refine lv_iconst (pc := 9) (v := 1) hx hb dX1_beltTop_9 (by decide) ?_
      refine lv_isub (pc := 10) hx hb dX1_beltTop_10 ?_
      refine lv_aload_n (pc := 11) hx hb dX1_beltTop_11 rfl (lv_at hl 0 rfl) ?_
      refine va_get (pc := 12) (D := D) (ci := 1) (v := .ref a_g) (C := RX1) (T := TX1) (N := 5) hx hb hts hinX1 hown hK hP 0 rfl rfl 0 (by decide) w_1 (fun _ h9 => h9) rfl dX1_beltTop_12 ?_
      refine va_getN (pc := 15) (D := D) (ci := 2) (v := .ref a_g_bandRows) (C := RX2) (T := TX2) (N := 6) hx hb hts hinX2 hown hK hP 1 rfl rfl 2 (by decide) wn_38 (fun _ h9 => h9) rfl dX1_beltTop_15 ?_
      refine lv_iload_n (pc := 18) hx hb dX1_beltTop_18 rfl (lv_at hl 1 rfl) ?_
      refine q_iald (pc := 19) hx hb hK hP 2 0 hf rfl rfl dX1_beltTop_19 (fun v4 hf => ?_)
      refine lv_imul (pc := 20) hx hb dX1_beltTop_20 ?_
      refine lv_iconst (pc := 21) (v := 1) hx hb dX1_beltTop_21 (by decide) ?_
      refine lv_iadd (pc := 22) hx hb dX1_beltTop_22 ?_
      exact J23 (((p2 - 1) * v4) + 1) _ _ _ hf rfl hS (lv_sub hl [0, 1] rfl)
    · refine lv_iconst (pc := 4) (v := 0) hx hb dX1_beltTop_4 (by decide) ?_
      refine lv_goto (pc := 5) (tgt := 23) hx hb dX1_beltTop_5 (by decide) ?_
      exact J23 0 _ _ _ hf rfl hS (lv_sub hl [0, 1] rfl)
  exact hgo _ _ rfl hP hS
/-! X1_inRow -/
set_option maxRecDepth 100000 in
set_option maxHeartbeats 4000000 in
theorem c_Box_inRow (l : Launch) (D : va_G) (ci : Nat → ClassId) (A : Nat → Prop) (sa : Nat → Nat) (N : Nat) (Rw : va_W) (a_bx : Nat) (a_g : Nat) (a_g_rowCuts : Nat) (a_g_columnCuts : Nat) (a_g_bandRows : Nat) (a_g_zoneColumns : Nat) (a_g_rows : Nat) (a_g_sheets : Nat) (bx_south : Int32) (bx_north : Int32) (bx_west : Int32) (bx_east : Int32) (g_bandRows : Nat → Int32) (g_zoneColumns : Nat → Int32) (g_rows : Nat → Int32) (p1 : Int32) (p2 : Int32) (r : Int32) (hf : f_Box_inRow bx_west bx_east g_bandRows g_zoneColumns g_rows p1 p2 = some r) : Met l yX1_inRow wsX1_inRow ({ frames := 2, cells := 0, slots := 0, locals := 45 }) (va_Pc [.ref a_bx, .int p1, .int p2] (q_N D ci A sa ((a_bx, .inr (1, [.ref a_g, .int bx_south, .int bx_north, .int bx_west, .int bx_east])) :: (a_g, .inr (2, [.ref a_g_rowCuts, .ref a_g_columnCuts, .ref a_g_bandRows, .ref a_g_zoneColumns, .ref a_g_rows, .ref a_g_sheets])) :: (a_g_bandRows, .inl (ci 0, 5, .inl g_bandRows)) :: (a_g_zoneColumns, .inl (ci 0, 5, .inl g_zoneColumns)) :: (a_g_rows, .inl (ci 0, 5, .inl g_rows)) :: Rw))) (q_R (some (.int r))) 0 0 A := by
  refine q_ofW (cc := cX1_inRow) (maxL := 6) (ret := (some .int)) [.ref a_bx, .int p1, .int p2] (plainFor_of_name (by decide)) rfl (Nat.le_of_ble_eq_true rfl) ?_
  intro p e s m below meth c ls Q hQ hx hb hml hr hts hown hlocks hK hA hZ hP hD hS hl
  have hl : lv_has ls 6 [(0, .ref a_bx), (1, .int p1), (2, .int p2)] := hl
  have hown : s.vm.findClass RX1 = some m.cls := hown
  have hinX1 : ∀ w ∈ wsX10, w ∈ wsX1_inRow := fun _ h => List.mem_cons_of_mem _ (inWX10 _ h)
  have w_1 := hts (Cond.fieldLink RX1 24 "SheetNames$Box" "grid" "LSheetNames$Grid;") (List.mem_cons_of_mem _ t_w827)
  have w_2 := hts (Cond.fieldLink RX1 18 "SheetNames$Box" "west" "I") (List.mem_cons_of_mem _ t_w832)
  have w_3 := hts (Cond.fieldLink RX1 21 "SheetNames$Box" "east" "I") (List.mem_cons_of_mem _ t_w833)
  have w_4 := hts (Cond.methodLink RX1 41 Lib.Math.min.name) (List.mem_cons_of_mem _ t_w829)
  have w_5 := hts (Cond.static Lib.Math.min.name) (List.mem_cons_of_mem _ t_w810)
  have w_6 := hts (Cond.initialized "java/lang/Math") (List.mem_cons_of_mem _ t_w76)
  have w_7 := hts (Cond.code Lib.Math.min.name Lib.Math.min.code 2 (some .int)) (List.mem_cons_of_mem _ t_w811)
  unfold f_Box_inRow at hf
  have hgo : ∀ (H : Heap) (locs : List Loc), H = s.heap → va_P D vwCl ((a_bx, .inr (1, [.ref a_g, .int bx_south, .int bx_north, .int bx_west, .int bx_east])) :: (a_g, .inr (2, [.ref a_g_rowCuts, .ref a_g_columnCuts, .ref a_g_bandRows, .ref a_g_zoneColumns, .ref a_g_rows, .ref a_g_sheets])) :: (a_g_bandRows, .inl (ci 0, 5, .inl g_bandRows)) :: (a_g_zoneColumns, .inl (ci 0, 5, .inl g_zoneColumns)) :: (a_g_rows, .inl (ci 0, 5, .inl g_rows)) :: Rw) H → va_S A s.heap H locs → W p l e ({ frames := 2, cells := 0, slots := 0, locals := 45 } : Room) s m ([.ref a_bx, .int p1, .int p2] : List Value).toArray below meth c H locs 0 0 Q (F0 m 0 ls []) := by
    intro H locs hH hP hS
    subst hH
    refine lv_aload_n (pc := 0) hx hb dX1_inRow_0 rfl (lv_at hl 0 rfl) ?_
    refine va_get (pc := 1) (D := D) (ci := 1) (v := .ref a_g) (C := RX1) (T := TX1) (N := 5) hx hb hts hinX1 hown hK hP 0 rfl rfl 0 (by decide) w_1 (fun _ h9 => h9) rfl dX1_inRow_1 ?_
    refine lv_iload_n (pc := 4) hx hb dX1_inRow_4 rfl (lv_at hl 1 rfl) ?_
    refine lv_iload_n (pc := 5) hx hb dX1_inRow_5 rfl (lv_at hl 2 rfl) ?_
    refine lv_aload_n (pc := 6) hx hb dX1_inRow_6 rfl (lv_at hl 0 rfl) ?_
    refine va_get (pc := 7) (D := D) (ci := 1) (v := .int bx_west) (C := RX1) (T := TX1) (N := 5) hx hb hts hinX1 hown hK hP 0 rfl rfl 3 (by decide) w_2 (fun _ h9 => h9) rfl dX1_inRow_7 ?_
    obtain ⟨v1, hm10, hf⟩ := q_b1_e hf
    refine q_cVr (pc := 10) (As := [.int p1, .int p2, .int bx_west]) (rest := []) (v0 := (some (.int v1))) ⟨hx, hb, hml, hown, hts⟩ hK hA hZ hP hD hS hl.1 [1, 2, 3, 4] 5 rfl ⟨rfl, rfl, rfl⟩ (c_Grid_placeOfLon l D ci A sa N (Rw) a_g a_g_rowCuts a_g_columnCuts a_g_bandRows a_g_zoneColumns a_g_rows a_g_sheets g_bandRows g_zoneColumns g_rows p1 p2 bx_west v1 hm10) 1 rfl rfl (cwV 3 hts gX1_inRow_X2_placeOfLon rfl rfl rfl (by decide +kernel) ⟨Nat.le_of_ble_eq_true rfl, Nat.le_of_ble_eq_true rfl⟩) rfl rfl (Nat.le_of_ble_eq_true rfl) dX1_inRow_10 ⟨Nat.zero_le _, Nat.zero_le _⟩ (fun locs hS => ?_)
    refine lv_istore_n (pc := 13) (lv' := [(3, .int v1), (0, .ref a_bx), (1, .int p1), (2, .int p2)]) hx hb dX1_inRow_13 rfl hl (by decide) rfl (fun ls hl => ?_)
    refine lv_aload_n (pc := 14) hx hb dX1_inRow_14 rfl (lv_at hl 1 rfl) ?_
    refine va_get (pc := 15) (D := D) (ci := 1) (v := .ref a_g) (C := RX1) (T := TX1) (N := 5) hx hb hts hinX1 hown hK hP 0 rfl rfl 0 (by decide) w_1 (fun _ h9 => h9) rfl dX1_inRow_15 ?_
    refine lv_iload_n (pc := 18) hx hb dX1_inRow_18 rfl (lv_at hl 2 rfl) ?_
    refine lv_iload_n (pc := 19) hx hb dX1_inRow_19 rfl (lv_at hl 3 rfl) ?_
    refine lv_aload_n (pc := 20) hx hb dX1_inRow_20 rfl (lv_at hl 1 rfl) ?_
    refine va_get (pc := 21) (D := D) (ci := 1) (v := .int bx_east) (C := RX1) (T := TX1) (N := 5) hx hb hts hinX1 hown hK hP 0 rfl rfl 4 (by decide) w_3 (fun _ h9 => h9) rfl dX1_inRow_21 ?_
    obtain ⟨v2, hm24, hf⟩ := q_b1_e hf
    refine q_cVr (pc := 24) (As := [.int p1, .int p2, .int bx_east]) (rest := []) (v0 := (some (.int v2))) ⟨hx, hb, hml, hown, hts⟩ hK hA hZ hP hD hS hl.1 [1, 2, 3, 4] 5 rfl ⟨rfl, rfl, rfl⟩ (c_Grid_placeOfLon l D ci A sa N (Rw) a_g a_g_rowCuts a_g_columnCuts a_g_bandRows a_g_zoneColumns a_g_rows a_g_sheets g_bandRows g_zoneColumns g_rows p1 p2 bx_east v2 hm24) 1 rfl rfl (cwV 3 hts gX1_inRow_X2_placeOfLon rfl rfl rfl (by decide +kernel) ⟨Nat.le_of_ble_eq_true rfl, Nat.le_of_ble_eq_true rfl⟩) rfl rfl (Nat.le_of_ble_eq_true rfl) dX1_inRow_24 ⟨Nat.zero_le _, Nat.zero_le _⟩ (fun locs hS => ?_)
    refine lv_istore (pc := 27) (lv' := [(4, .int v2), (3, .int v1), (0, .ref a_bx), (1, .int p1), (2, .int p2)]) hx hb dX1_inRow_27 hl (by decide) rfl (fun ls hl => ?_)
    refine lv_aload_n (pc := 29) hx hb dX1_inRow_29 rfl (lv_at hl 2 rfl) ?_
    refine va_get (pc := 30) (D := D) (ci := 1) (v := .int bx_west) (C := RX1) (T := TX1) (N := 5) hx hb hts hinX1 hown hK hP 0 rfl rfl 3 (by decide) w_2 (fun _ h9 => h9) rfl dX1_inRow_30 ?_
    refine lv_aload_n (pc := 33) hx hb dX1_inRow_33 rfl (lv_at hl 2 rfl) ?_
    refine va_get (pc := 34) (D := D) (ci := 1) (v := .int bx_east) (C := RX1) (T := TX1) (N := 5) hx hb hts hinX1 hown hK hP 0 rfl rfl 4 (by decide) w_3 (fun _ h9 => h9) rfl dX1_inRow_34 ?_
    refine q_icmp_gt (pc := 37) (tgt := 47) hx hb dX1_inRow_37 (by decide) rfl hf (fun hf => ?_) (fun hf => ?_)
    · refine lv_aload_n (pc := 47) hx hb dX1_inRow_47 rfl (lv_at hl 2 rfl) ?_
      refine va_get (pc := 48) (D := D) (ci := 1) (v := .ref a_g) (C := RX1) (T := TX1) (N := 5) hx hb hts hinX1 hown hK hP 0 rfl rfl 0 (by decide) w_1 (fun _ h9 => h9) rfl dX1_inRow_48 ?_
      refine lv_iload_n (pc := 51) hx hb dX1_inRow_51 rfl (lv_at hl 3 rfl) ?_
      refine lv_iload_n (pc := 52) hx hb dX1_inRow_52 rfl (lv_at hl 4 rfl) ?_
      obtain ⟨v3, hm53, hf⟩ := q_b1_e hf
      refine q_cVr (pc := 53) (As := [.int p1, .int p2]) (rest := []) (v0 := (some (.int v3))) ⟨hx, hb, hml, hown, hts⟩ hK hA hZ hP hD hS hl.1 [1, 2, 3, 4] 5 rfl ⟨rfl, rfl, rfl⟩ (c_Grid_rowLength l D ci A sa N (Rw) a_g a_g_rowCuts a_g_columnCuts a_g_bandRows a_g_zoneColumns a_g_rows a_g_sheets g_bandRows g_zoneColumns g_rows p1 p2 v3 hm53) 1 rfl rfl (cwV 2 hts gX1_inRow_X2_rowLength rfl rfl rfl (by decide +kernel) ⟨Nat.le_of_ble_eq_true rfl, Nat.le_of_ble_eq_true rfl⟩) rfl rfl (Nat.le_of_ble_eq_true rfl) dX1_inRow_53 ⟨Nat.zero_le _, Nat.zero_le _⟩ (fun locs hS => ?_)
      refine lv_istore (pc := 56) (lv' := [(5, .int v3), (4, .int v2), (3, .int v1), (0, .ref a_bx), (1, .int p1), (2, .int p2)]) hx hb dX1_inRow_56 hl (by decide) rfl (fun ls hl => ?_)
      refine lv_iload (pc := 58) hx hb dX1_inRow_58 (lv_at hl 0 rfl) ?_
      refine lv_iload (pc := 60) hx hb dX1_inRow_60 (lv_at hl 0 rfl) ?_
      refine lv_iload_n (pc := 62) hx hb dX1_inRow_62 rfl (lv_at hl 2 rfl) ?_
      refine lv_isub (pc := 63) hx hb dX1_inRow_63 ?_
      refine lv_iload (pc := 64) hx hb dX1_inRow_64 (lv_at hl 1 rfl) ?_
      refine lv_iadd (pc := 66) hx hb dX1_inRow_66 ?_
      refine lv_iconst (pc := 67) (v := 1) hx hb dX1_inRow_67 (by decide) ?_
      refine lv_iadd (pc := 68) hx hb dX1_inRow_68 ?_
      obtain ⟨v4, ev4, hf⟩ := q_nm_e hf
      refine va_mmin (pc := 69) hx hb (hml.trans hl.1.symm) hown w_4 w_5 w_6 w_7 (Nat.le_of_ble_eq_true rfl) (Nat.le_of_ble_eq_true rfl) (Nat.zero_le _) (Nat.zero_le _) dX1_inRow_69 ?_
      refine q_topi ev4 ?_
      obtain rfl := Option.some.inj hf
      rw [hQ]
      exact q_iretr (pc := 72) hx hb hr hlocks rfl hS dX1_inRow_72
    · refine lv_iload (pc := 40) hx hb dX1_inRow_40 (lv_at hl 0 rfl) ?_
      refine lv_iload_n (pc := 42) hx hb dX1_inRow_42 rfl (lv_at hl 1 rfl) ?_
      refine lv_isub (pc := 43) hx hb dX1_inRow_43 ?_
      refine lv_iconst (pc := 44) (v := 1) hx hb dX1_inRow_44 (by decide) ?_
      refine lv_iadd (pc := 45) hx hb dX1_inRow_45 ?_
      obtain rfl := Option.some.inj hf
      rw [hQ]
      exact q_iretr (pc := 46) hx hb hr hlocks rfl hS dX1_inRow_46
  exact hgo _ _ rfl hP hS
/-! X1_placeByKeys -/
set_option maxRecDepth 100000 in
set_option maxHeartbeats 4000000 in
theorem c_Box_placeByKeys (l : Launch) (D : va_G) (ci : Nat → ClassId) (A : Nat → Prop) (sa : Nat → Nat) (N : Nat) (Rw : va_W) (a_bx : Nat) (a_g : Nat) (a_g_rowCuts : Nat) (a_g_columnCuts : Nat) (a_g_bandRows : Nat) (a_g_zoneColumns : Nat) (a_g_rows : Nat) (a_g_sheets : Nat) (bx_south : Int32) (bx_north : Int32) (bx_west : Int32) (bx_east : Int32) (g_bandRows : Nat → Int32) (g_zoneColumns : Nat → Int32) (g_rows : Nat → Int32) (p1 : Int32) (p2 : Int32) (p3 : Int32) (r : Int32) (hf : f_Box_placeByKeys bx_west bx_east g_bandRows g_zoneColumns g_rows p1 p2 p3 = some r) : Met l yX1_placeByKeys wsX1_placeByKeys ({ frames := 3, cells := 0, slots := 0, locals := 70 }) (va_Pc [.ref a_bx, .int p1, .int p2, .int p3] (q_N D ci A sa ((a_bx, .inr (1, [.ref a_g, .int bx_south, .int bx_north, .int bx_west, .int bx_east])) :: (a_g, .inr (2, [.ref a_g_rowCuts, .ref a_g_columnCuts, .ref a_g_bandRows, .ref a_g_zoneColumns, .ref a_g_rows, .ref a_g_sheets])) :: (a_g_bandRows, .inl (ci 0, 5, .inl g_bandRows)) :: (a_g_zoneColumns, .inl (ci 0, 5, .inl g_zoneColumns)) :: (a_g_rows, .inl (ci 0, 5, .inl g_rows)) :: Rw))) (q_R (some (.int r))) 0 0 A := by
  refine q_ofW (cc := cX1_placeByKeys) (maxL := 8) (ret := (some .int)) [.ref a_bx, .int p1, .int p2, .int p3] (plainFor_of_name (by decide)) rfl (Nat.le_of_ble_eq_true rfl) ?_
  intro p e s m below meth c ls Q hQ hx hb hml hr hts hown hlocks hK hA hZ hP hD hS hl
  have hl : lv_has ls 8 [(0, .ref a_bx), (1, .int p1), (2, .int p2), (3, .int p3)] := hl
  have hown : s.vm.findClass RX1 = some m.cls := hown
  have hinX1 : ∀ w ∈ wsX10, w ∈ wsX1_placeByKeys := fun _ h => List.mem_cons_of_mem _ (inWX10 _ h)
  have w_1 := hts (Cond.fieldLink RX1 24 "SheetNames$Box" "grid" "LSheetNames$Grid;") (List.mem_cons_of_mem _ t_w827)
  have w_2 := hts (Cond.fieldLink RX1 18 "SheetNames$Box" "west" "I") (List.mem_cons_of_mem _ t_w832)
  have w_3 := hts (Cond.methodLink RX1 57 Lib.Math.max.name) (List.mem_cons_of_mem _ t_w831)
  have w_4 := hts (Cond.static Lib.Math.max.name) (List.mem_cons_of_mem _ t_w813)
  have w_5 := hts (Cond.initialized "java/lang/Math") (List.mem_cons_of_mem _ t_w76)
  have w_6 := hts (Cond.code Lib.Math.max.name Lib.Math.max.code 2 (some .int)) (List.mem_cons_of_mem _ t_w814)
  unfold f_Box_placeByKeys at hf
  have hgo : ∀ (H : Heap) (locs : List Loc), H = s.heap → va_P D vwCl ((a_bx, .inr (1, [.ref a_g, .int bx_south, .int bx_north, .int bx_west, .int bx_east])) :: (a_g, .inr (2, [.ref a_g_rowCuts, .ref a_g_columnCuts, .ref a_g_bandRows, .ref a_g_zoneColumns, .ref a_g_rows, .ref a_g_sheets])) :: (a_g_bandRows, .inl (ci 0, 5, .inl g_bandRows)) :: (a_g_zoneColumns, .inl (ci 0, 5, .inl g_zoneColumns)) :: (a_g_rows, .inl (ci 0, 5, .inl g_rows)) :: Rw) H → va_S A s.heap H locs → W p l e ({ frames := 3, cells := 0, slots := 0, locals := 70 } : Room) s m ([.ref a_bx, .int p1, .int p2, .int p3] : List Value).toArray below meth c H locs 0 0 Q (F0 m 0 ls []) := by
    intro H locs hH hP hS
    subst hH
    refine lv_aload_n (pc := 0) hx hb dX1_placeByKeys_0 rfl (lv_at hl 0 rfl) ?_
    refine va_get (pc := 1) (D := D) (ci := 1) (v := .ref a_g) (C := RX1) (T := TX1) (N := 5) hx hb hts hinX1 hown hK hP 0 rfl rfl 0 (by decide) w_1 (fun _ h9 => h9) rfl dX1_placeByKeys_1 ?_
    refine lv_iload_n (pc := 4) hx hb dX1_placeByKeys_4 rfl (lv_at hl 1 rfl) ?_
    refine lv_iload_n (pc := 5) hx hb dX1_placeByKeys_5 rfl (lv_at hl 2 rfl) ?_
    obtain ⟨v1, hm6, hf⟩ := q_b1_e hf
    refine q_cVr (pc := 6) (As := [.int p1, .int p2]) (rest := []) (v0 := (some (.int v1))) ⟨hx, hb, hml, hown, hts⟩ hK hA hZ hP hD hS hl.1 [1, 2, 3, 4] 5 rfl ⟨rfl, rfl, rfl⟩ (c_Grid_rowLength l D ci A sa N (Rw) a_g a_g_rowCuts a_g_columnCuts a_g_bandRows a_g_zoneColumns a_g_rows a_g_sheets g_bandRows g_zoneColumns g_rows p1 p2 v1 hm6) 1 rfl rfl (cwV 2 hts gX1_placeByKeys_X2_rowLength rfl rfl rfl (by decide +kernel) ⟨Nat.le_of_ble_eq_true rfl, Nat.le_of_ble_eq_true rfl⟩) rfl rfl (Nat.le_of_ble_eq_true rfl) dX1_placeByKeys_6 ⟨Nat.zero_le _, Nat.zero_le _⟩ (fun locs hS => ?_)
    refine lv_istore (pc := 9) (lv' := [(4, .int v1), (0, .ref a_bx), (1, .int p1), (2, .int p2), (3, .int p3)]) hx hb dX1_placeByKeys_9 hl (by decide) rfl (fun ls hl => ?_)
    refine lv_aload_n (pc := 11) hx hb dX1_placeByKeys_11 rfl (lv_at hl 1 rfl) ?_
    refine lv_iload_n (pc := 12) hx hb dX1_placeByKeys_12 rfl (lv_at hl 2 rfl) ?_
    refine lv_iload_n (pc := 13) hx hb dX1_placeByKeys_13 rfl (lv_at hl 3 rfl) ?_
    obtain ⟨v2, hm14, hf⟩ := q_b1_e hf
    refine q_cVr (pc := 14) (As := [.int p1, .int p2]) (rest := []) (v0 := (some (.int v2))) ⟨hx, hb, hml, hown, hts⟩ hK hA hZ hP hD hS hl.1 [0, 1, 2, 3, 4] 5 rfl ⟨rfl, rfl, rfl⟩ (c_Box_inRow l D ci A sa N (Rw) a_bx a_g a_g_rowCuts a_g_columnCuts a_g_bandRows a_g_zoneColumns a_g_rows a_g_sheets bx_south bx_north bx_west bx_east g_bandRows g_zoneColumns g_rows p1 p2 v2 hm14) 0 rfl rfl (cwV 2 hts gX1_placeByKeys_X1_inRow rfl rfl rfl (by decide +kernel) ⟨Nat.le_of_ble_eq_true rfl, Nat.le_of_ble_eq_true rfl⟩) rfl rfl (Nat.le_of_ble_eq_true rfl) dX1_placeByKeys_14 ⟨Nat.zero_le _, Nat.zero_le _⟩ (fun locs hS => ?_)
    refine lv_istore (pc := 17) (lv' := [(5, .int v2), (4, .int v1), (0, .ref a_bx), (1, .int p1), (2, .int p2), (3, .int p3)]) hx hb dX1_placeByKeys_17 hl (by decide) rfl (fun ls hl => ?_)
    refine lv_iload (pc := 19) hx hb dX1_placeByKeys_19 (lv_at hl 0 rfl) ?_
    refine lv_iload (pc := 21) hx hb dX1_placeByKeys_21 (lv_at hl 1 rfl) ?_
    refine q_icmp_ne (pc := 23) (tgt := 28) hx hb dX1_placeByKeys_23 (by decide) rfl hf (fun hf => ?_) (fun hf => ?_)
    · refine lv_aload_n (pc := 28) hx hb dX1_placeByKeys_28 rfl (lv_at hl 2 rfl) ?_
      refine va_get (pc := 29) (D := D) (ci := 1) (v := .ref a_g) (C := RX1) (T := TX1) (N := 5) hx hb hts hinX1 hown hK hP 0 rfl rfl 0 (by decide) w_1 (fun _ h9 => h9) rfl dX1_placeByKeys_29 ?_
      refine lv_iload_n (pc := 32) hx hb dX1_placeByKeys_32 rfl (lv_at hl 3 rfl) ?_
      refine lv_iload_n (pc := 33) hx hb dX1_placeByKeys_33 rfl (lv_at hl 4 rfl) ?_
      refine lv_aload_n (pc := 34) hx hb dX1_placeByKeys_34 rfl (lv_at hl 2 rfl) ?_
      refine va_get (pc := 35) (D := D) (ci := 1) (v := .int bx_west) (C := RX1) (T := TX1) (N := 5) hx hb hts hinX1 hown hK hP 0 rfl rfl 3 (by decide) w_2 (fun _ h9 => h9) rfl dX1_placeByKeys_35 ?_
      obtain ⟨v3, hm38, hf⟩ := q_b1_e hf
      refine q_cVr (pc := 38) (As := [.int p1, .int p2, .int bx_west]) (rest := []) (v0 := (some (.int v3))) ⟨hx, hb, hml, hown, hts⟩ hK hA hZ hP hD hS hl.1 [1, 2, 3, 4] 5 rfl ⟨rfl, rfl, rfl⟩ (c_Grid_placeOfLon l D ci A sa N (Rw) a_g a_g_rowCuts a_g_columnCuts a_g_bandRows a_g_zoneColumns a_g_rows a_g_sheets g_bandRows g_zoneColumns g_rows p1 p2 bx_west v3 hm38) 1 rfl rfl (cwV 3 hts gX1_placeByKeys_X2_placeOfLon rfl rfl rfl (by decide +kernel) ⟨Nat.le_of_ble_eq_true rfl, Nat.le_of_ble_eq_true rfl⟩) rfl rfl (Nat.le_of_ble_eq_true rfl) dX1_placeByKeys_38 ⟨Nat.zero_le _, Nat.zero_le _⟩ (fun locs hS => ?_)
      refine lv_istore (pc := 41) (lv' := [(6, .int v3), (5, .int v2), (4, .int v1), (0, .ref a_bx), (1, .int p1), (2, .int p2), (3, .int p3)]) hx hb dX1_placeByKeys_41 hl (by decide) rfl (fun ls hl => ?_)
      refine lv_iconst (pc := 43) (v := 0) hx hb dX1_placeByKeys_43 (by decide) ?_
      refine lv_iload (pc := 44) hx hb dX1_placeByKeys_44 (lv_at hl 0 rfl) ?_
      refine lv_iload (pc := 46) hx hb dX1_placeByKeys_46 (lv_at hl 1 rfl) ?_
      refine lv_iadd (pc := 48) hx hb dX1_placeByKeys_48 ?_
      refine lv_iload (pc := 49) hx hb dX1_placeByKeys_49 (lv_at hl 2 rfl) ?_
      refine lv_isub (pc := 51) hx hb dX1_placeByKeys_51 ?_
      obtain ⟨v4, ev4, hf⟩ := q_nm_e hf
      refine va_mmax (pc := 52) hx hb (hml.trans hl.1.symm) hown w_3 w_4 w_5 w_6 (Nat.le_of_ble_eq_true rfl) (Nat.le_of_ble_eq_true rfl) (Nat.zero_le _) (Nat.zero_le _) dX1_placeByKeys_52 ?_
      refine q_topi ev4 ?_
      refine lv_istore (pc := 55) (lv' := [(7, .int v4), (6, .int v3), (5, .int v2), (4, .int v1), (0, .ref a_bx), (1, .int p1), (2, .int p2), (3, .int p3)]) hx hb dX1_placeByKeys_55 hl (by decide) rfl (fun ls hl => ?_)
      refine lv_iload_n (pc := 57) hx hb dX1_placeByKeys_57 rfl (lv_at hl 7 rfl) ?_
      refine lv_iload (pc := 58) hx hb dX1_placeByKeys_58 (lv_at hl 0 rfl) ?_
      refine q_icmp_ge (pc := 60) (tgt := 67) hx hb dX1_placeByKeys_60 (by decide) rfl hf (fun hf => ?_) (fun hf => ?_)
      · refine lv_iload (pc := 67) hx hb dX1_placeByKeys_67 (lv_at hl 1 rfl) ?_
        refine lv_iload_n (pc := 69) hx hb dX1_placeByKeys_69 rfl (lv_at hl 7 rfl) ?_
        refine lv_iadd (pc := 70) hx hb dX1_placeByKeys_70 ?_
        refine lv_iload (pc := 71) hx hb dX1_placeByKeys_71 (lv_at hl 0 rfl) ?_
        refine lv_isub (pc := 73) hx hb dX1_placeByKeys_73 ?_
        obtain rfl := Option.some.inj hf
        rw [hQ]
        exact q_iretr (pc := 74) hx hb hr hlocks rfl hS dX1_placeByKeys_74
      · refine lv_iload_n (pc := 63) hx hb dX1_placeByKeys_63 rfl (lv_at hl 7 rfl) ?_
        refine lv_goto (pc := 64) (tgt := 74) hx hb dX1_placeByKeys_64 (by decide) ?_
        obtain rfl := Option.some.inj hf
        rw [hQ]
        exact q_iretr (pc := 74) hx hb hr hlocks rfl hS dX1_placeByKeys_74
    · refine lv_iload_n (pc := 26) hx hb dX1_placeByKeys_26 rfl (lv_at hl 5 rfl) ?_
      obtain rfl := Option.some.inj hf
      rw [hQ]
      exact q_iretr (pc := 27) hx hb hr hlocks rfl hS dX1_placeByKeys_27
  exact hgo _ _ rfl hP hS
/-! X1_isWhole -/
set_option maxRecDepth 100000 in
set_option maxHeartbeats 4000000 in
theorem c_Box_isWhole (l : Launch) (D : va_G) (ci : Nat → ClassId) (A : Nat → Prop) (sa : Nat → Nat) (N : Nat) (Rw : va_W) (a_bx : Nat) (a_g : Nat) (a_g_rowCuts : Nat) (a_g_columnCuts : Nat) (a_g_bandRows : Nat) (a_g_zoneColumns : Nat) (a_g_rows : Nat) (a_g_sheets : Nat) (bx_south : Int32) (bx_north : Int32) (bx_west : Int32) (bx_east : Int32) (g_bandRows : Nat → Int32) (g_zoneColumns : Nat → Int32) (g_rows : Nat → Int32) (p1 : Int32) (p2 : Int32) (p3 : Int32) (p4 : Int32) (r : Int32) (hf : f_Box_isWhole bx_south bx_north bx_west bx_east g_bandRows g_zoneColumns g_rows p1 p2 p3 p4 = some r) : Met l yX1_isWhole wsX1_isWhole ({ frames := 3, cells := 0, slots := 0, locals := 70 }) (va_Pc [.ref a_bx, .int p1, .int p2, .int p3, .int p4] (q_N D ci A sa ((a_bx, .inr (1, [.ref a_g, .int bx_south, .int bx_north, .int bx_west, .int bx_east])) :: (a_g, .inr (2, [.ref a_g_rowCuts, .ref a_g_columnCuts, .ref a_g_bandRows, .ref a_g_zoneColumns, .ref a_g_rows, .ref a_g_sheets])) :: (a_g_bandRows, .inl (ci 0, 5, .inl g_bandRows)) :: (a_g_zoneColumns, .inl (ci 0, 5, .inl g_zoneColumns)) :: (a_g_rows, .inl (ci 0, 5, .inl g_rows)) :: Rw))) (q_R (some (.int r))) 0 0 A := by
  refine q_ofW (cc := cX1_isWhole) (maxL := 11) (ret := (some .boolean)) [.ref a_bx, .int p1, .int p2, .int p3, .int p4] (plainFor_of_name (by decide)) rfl (Nat.le_of_ble_eq_true rfl) ?_
  intro p e s m below meth c ls Q hQ hx hb hml hr hts hown hlocks hK hA hZ hP hD hS hl
  have hl : lv_has ls 11 [(0, .ref a_bx), (1, .int p1), (2, .int p2), (3, .int p3), (4, .int p4)] := hl
  have hown : s.vm.findClass RX1 = some m.cls := hown
  have hinX1 : ∀ w ∈ wsX10, w ∈ wsX1_isWhole := fun _ h => List.mem_cons_of_mem _ (inWX10 _ h)
  have w_1 := hts (Cond.fieldLink RX1 24 "SheetNames$Box" "grid" "LSheetNames$Grid;") (List.mem_cons_of_mem _ t_w827)
  have w_2 := hts (Cond.fieldLink RX1 18 "SheetNames$Box" "west" "I") (List.mem_cons_of_mem _ t_w832)
  unfold f_Box_isWhole at hf
  have hgo : ∀ (H : Heap) (locs : List Loc), H = s.heap → va_P D vwCl ((a_bx, .inr (1, [.ref a_g, .int bx_south, .int bx_north, .int bx_west, .int bx_east])) :: (a_g, .inr (2, [.ref a_g_rowCuts, .ref a_g_columnCuts, .ref a_g_bandRows, .ref a_g_zoneColumns, .ref a_g_rows, .ref a_g_sheets])) :: (a_g_bandRows, .inl (ci 0, 5, .inl g_bandRows)) :: (a_g_zoneColumns, .inl (ci 0, 5, .inl g_zoneColumns)) :: (a_g_rows, .inl (ci 0, 5, .inl g_rows)) :: Rw) H → va_S A s.heap H locs → W p l e ({ frames := 3, cells := 0, slots := 0, locals := 70 } : Room) s m ([.ref a_bx, .int p1, .int p2, .int p3, .int p4] : List Value).toArray below meth c H locs 0 0 Q (F0 m 0 ls []) := by
    intro H locs hH hP hS
    subst hH
    refine lv_aload_n (pc := 0) hx hb dX1_isWhole_0 rfl (lv_at hl 0 rfl) ?_
    refine va_get (pc := 1) (D := D) (ci := 1) (v := .ref a_g) (C := RX1) (T := TX1) (N := 5) hx hb hts hinX1 hown hK hP 0 rfl rfl 0 (by decide) w_1 (fun _ h9 => h9) rfl dX1_isWhole_1 ?_
    refine lv_iload_n (pc := 4) hx hb dX1_isWhole_4 rfl (lv_at hl 1 rfl) ?_
    refine lv_iload (pc := 5) hx hb dX1_isWhole_5 (lv_at hl 4 rfl) ?_
    obtain ⟨v1, hm7, hf⟩ := q_b1_e hf
    refine q_cVr (pc := 7) (As := [.int p1, .int p4]) (rest := []) (v0 := (some (.int v1))) ⟨hx, hb, hml, hown, hts⟩ hK hA hZ hP hD hS hl.1 [1, 2] 5 rfl ⟨rfl, rfl, rfl⟩ (c_Grid_rowsIn l D ci A sa N (Rw) a_g a_g_rowCuts a_g_columnCuts a_g_bandRows a_g_zoneColumns a_g_rows a_g_sheets g_bandRows p1 p4 v1 hm7) 1 rfl rfl (cwV 2 hts gX1_isWhole_X2_rowsIn rfl rfl rfl (by decide +kernel) ⟨Nat.le_of_ble_eq_true rfl, Nat.le_of_ble_eq_true rfl⟩) rfl rfl (Nat.le_of_ble_eq_true rfl) dX1_isWhole_7 ⟨Nat.zero_le _, Nat.zero_le _⟩ (fun locs hS => ?_)
    refine lv_istore (pc := 10) (lv' := [(5, .int v1), (0, .ref a_bx), (1, .int p1), (2, .int p2), (3, .int p3), (4, .int p4)]) hx hb dX1_isWhole_10 hl (by decide) rfl (fun ls hl => ?_)
    refine lv_iload_n (pc := 12) hx hb dX1_isWhole_12 rfl (lv_at hl 3 rfl) ?_
    refine lv_iconst (pc := 13) (v := 1) hx hb dX1_isWhole_13 (by decide) ?_
    refine lv_isub (pc := 14) hx hb dX1_isWhole_14 ?_
    refine lv_iload (pc := 15) hx hb dX1_isWhole_15 (lv_at hl 0 rfl) ?_
    refine lv_imul (pc := 17) hx hb dX1_isWhole_17 ?_
    refine lv_iconst (pc := 18) (v := 1) hx hb dX1_isWhole_18 (by decide) ?_
    refine lv_iadd (pc := 19) hx hb dX1_isWhole_19 ?_
    obtain ⟨v2, ev2, hf⟩ := q_nm_e hf
    refine q_topi ev2 ?_
    refine lv_istore (pc := 20) (lv' := [(6, .int v2), (5, .int v1), (0, .ref a_bx), (1, .int p1), (2, .int p2), (3, .int p3), (4, .int p4)]) hx hb dX1_isWhole_20 hl (by decide) rfl (fun ls hl => ?_)
    refine lv_iload (pc := 22) hx hb dX1_isWhole_22 (lv_at hl 0 rfl) ?_
    refine lv_aload_n (pc := 24) hx hb dX1_isWhole_24 rfl (lv_at hl 2 rfl) ?_
    refine lv_iload (pc := 25) hx hb dX1_isWhole_25 (lv_at hl 6 rfl) ?_
    obtain ⟨v3, hm27, hf⟩ := q_b1_e hf
    refine q_cVr (pc := 27) (As := [.int p4]) (rest := [.int v2]) (v0 := (some (.int v3))) ⟨hx, hb, hml, hown, hts⟩ hK hA hZ hP hD hS hl.1 [0, 1, 2, 4] 5 rfl ⟨rfl, rfl, rfl⟩ (c_Box_topRow l D ci A sa N (Rw) a_bx a_g a_g_rowCuts a_g_columnCuts a_g_bandRows a_g_zoneColumns a_g_rows a_g_sheets bx_south bx_north bx_west bx_east g_bandRows g_rows p4 v3 hm27) 0 rfl rfl (cwV 1 hts gX1_isWhole_X1_topRow rfl rfl rfl (by decide +kernel) ⟨Nat.le_of_ble_eq_true rfl, Nat.le_of_ble_eq_true rfl⟩) rfl rfl (Nat.le_of_ble_eq_true rfl) dX1_isWhole_27 ⟨Nat.zero_le _, Nat.zero_le _⟩ (fun locs hS => ?_)
    refine q_icmp_lt (pc := 30) (tgt := 49) hx hb dX1_isWhole_30 (by decide) rfl hf (fun hf => ?_) (fun hf => ?_)
    · refine lv_iconst (pc := 49) (v := 0) hx hb dX1_isWhole_49 (by decide) ?_
      obtain rfl := Option.some.inj hf
      rw [hQ]
      exact q_zretr (pc := 50) hx hb hr rfl hlocks rfl hS dX1_isWhole_50
    · refine lv_iload (pc := 33) hx hb dX1_isWhole_33 (lv_at hl 0 rfl) ?_
      refine lv_iload (pc := 35) hx hb dX1_isWhole_35 (lv_at hl 1 rfl) ?_
      refine lv_iadd (pc := 37) hx hb dX1_isWhole_37 ?_
      refine lv_iconst (pc := 38) (v := 1) hx hb dX1_isWhole_38 (by decide) ?_
      refine lv_isub (pc := 39) hx hb dX1_isWhole_39 ?_
      refine lv_aload_n (pc := 40) hx hb dX1_isWhole_40 rfl (lv_at hl 2 rfl) ?_
      refine lv_iload (pc := 41) hx hb dX1_isWhole_41 (lv_at hl 6 rfl) ?_
      obtain ⟨v4, hm43, hf⟩ := q_b1_e hf
      refine q_cVr (pc := 43) (As := [.int p4]) (rest := [.int ((v2 + v1) - 1)]) (v0 := (some (.int v4))) ⟨hx, hb, hml, hown, hts⟩ hK hA hZ hP hD hS hl.1 [0, 1, 2, 4] 5 rfl ⟨rfl, rfl, rfl⟩ (c_Box_bottomRow l D ci A sa N (Rw) a_bx a_g a_g_rowCuts a_g_columnCuts a_g_bandRows a_g_zoneColumns a_g_rows a_g_sheets bx_south bx_north bx_west bx_east g_bandRows g_rows p4 v4 hm43) 0 rfl rfl (cwV 1 hts gX1_isWhole_X1_bottomRow rfl rfl rfl (by decide +kernel) ⟨Nat.le_of_ble_eq_true rfl, Nat.le_of_ble_eq_true rfl⟩) rfl rfl (Nat.le_of_ble_eq_true rfl) dX1_isWhole_43 ⟨Nat.zero_le _, Nat.zero_le _⟩ (fun locs hS => ?_)
      refine q_icmp_le (pc := 46) (tgt := 51) hx hb dX1_isWhole_46 (by decide) rfl hf (fun hf => ?_) (fun hf => ?_)
      · refine lv_aload_n (pc := 51) hx hb dX1_isWhole_51 rfl (lv_at hl 2 rfl) ?_
        refine lv_iload (pc := 52) hx hb dX1_isWhole_52 (lv_at hl 6 rfl) ?_
        refine lv_iload (pc := 54) hx hb dX1_isWhole_54 (lv_at hl 0 rfl) ?_
        obtain ⟨v5, hm56, hf⟩ := q_b1_e hf
        refine q_cVr (pc := 56) (As := [.int p4, .int v2]) (rest := []) (v0 := (some (.int v5))) ⟨hx, hb, hml, hown, hts⟩ hK hA hZ hP hD hS hl.1 [0, 1, 2, 3, 4] 5 rfl ⟨rfl, rfl, rfl⟩ (c_Box_inRow l D ci A sa N (Rw) a_bx a_g a_g_rowCuts a_g_columnCuts a_g_bandRows a_g_zoneColumns a_g_rows a_g_sheets bx_south bx_north bx_west bx_east g_bandRows g_zoneColumns g_rows p4 v2 v5 hm56) 0 rfl rfl (cwV 2 hts gX1_isWhole_X1_inRow rfl rfl rfl (by decide +kernel) ⟨Nat.le_of_ble_eq_true rfl, Nat.le_of_ble_eq_true rfl⟩) rfl rfl (Nat.le_of_ble_eq_true rfl) dX1_isWhole_56 ⟨Nat.zero_le _, Nat.zero_le _⟩ (fun locs hS => ?_)
        refine lv_istore (pc := 59) (lv' := [(7, .int v5), (6, .int v2), (5, .int v1), (0, .ref a_bx), (1, .int p1), (2, .int p2), (3, .int p3), (4, .int p4)]) hx hb dX1_isWhole_59 hl (by decide) rfl (fun ls hl => ?_)
        refine lv_aload_n (pc := 61) hx hb dX1_isWhole_61 rfl (lv_at hl 3 rfl) ?_
        refine va_get (pc := 62) (D := D) (ci := 1) (v := .ref a_g) (C := RX1) (T := TX1) (N := 5) hx hb hts hinX1 hown hK hP 0 rfl rfl 0 (by decide) w_1 (fun _ h9 => h9) rfl dX1_isWhole_62 ?_
        refine lv_iload (pc := 65) hx hb dX1_isWhole_65 (lv_at hl 7 rfl) ?_
        refine lv_iload (pc := 67) hx hb dX1_isWhole_67 (lv_at hl 1 rfl) ?_
        obtain ⟨v6, hm69, hf⟩ := q_b1_e hf
        refine q_cVr (pc := 69) (As := [.int p4, .int v2]) (rest := []) (v0 := (some (.int v6))) ⟨hx, hb, hml, hown, hts⟩ hK hA hZ hP hD hS hl.1 [1, 2, 3, 4] 5 rfl ⟨rfl, rfl, rfl⟩ (c_Grid_rowLength l D ci A sa N (Rw) a_g a_g_rowCuts a_g_columnCuts a_g_bandRows a_g_zoneColumns a_g_rows a_g_sheets g_bandRows g_zoneColumns g_rows p4 v2 v6 hm69) 1 rfl rfl (cwV 2 hts gX1_isWhole_X2_rowLength rfl rfl rfl (by decide +kernel) ⟨Nat.le_of_ble_eq_true rfl, Nat.le_of_ble_eq_true rfl⟩) rfl rfl (Nat.le_of_ble_eq_true rfl) dX1_isWhole_69 ⟨Nat.zero_le _, Nat.zero_le _⟩ (fun locs hS => ?_)
        refine lv_istore (pc := 72) (lv' := [(8, .int v6), (7, .int v5), (6, .int v2), (5, .int v1), (0, .ref a_bx), (1, .int p1), (2, .int p2), (3, .int p3), (4, .int p4)]) hx hb dX1_isWhole_72 hl (by decide) rfl (fun ls hl => ?_)
        refine lv_iload (pc := 74) hx hb dX1_isWhole_74 (lv_at hl 1 rfl) ?_
        refine lv_iload (pc := 76) hx hb dX1_isWhole_76 (lv_at hl 0 rfl) ?_
        refine q_icmp_ne (pc := 78) (tgt := 83) hx hb dX1_isWhole_78 (by decide) rfl hf (fun hf => ?_) (fun hf => ?_)
        · refine lv_aload_n (pc := 83) hx hb dX1_isWhole_83 rfl (lv_at hl 4 rfl) ?_
          refine va_get (pc := 84) (D := D) (ci := 1) (v := .ref a_g) (C := RX1) (T := TX1) (N := 5) hx hb hts hinX1 hown hK hP 0 rfl rfl 0 (by decide) w_1 (fun _ h9 => h9) rfl dX1_isWhole_84 ?_
          refine lv_iload_n (pc := 87) hx hb dX1_isWhole_87 rfl (lv_at hl 5 rfl) ?_
          refine lv_iload (pc := 88) hx hb dX1_isWhole_88 (lv_at hl 8 rfl) ?_
          obtain ⟨v7, hm90, hf⟩ := q_b1_e hf
          refine q_cVr (pc := 90) (As := [.int p1, .int p4]) (rest := []) (v0 := (some (.int v7))) ⟨hx, hb, hml, hown, hts⟩ hK hA hZ hP hD hS hl.1 [1, 3] 5 rfl ⟨rfl, rfl, rfl⟩ (c_Grid_columnsIn l D ci A sa N (Rw) a_g a_g_rowCuts a_g_columnCuts a_g_bandRows a_g_zoneColumns a_g_rows a_g_sheets g_zoneColumns p1 p4 v7 hm90) 1 rfl rfl (cwV 2 hts gX1_isWhole_X2_columnsIn rfl rfl rfl (by decide +kernel) ⟨Nat.le_of_ble_eq_true rfl, Nat.le_of_ble_eq_true rfl⟩) rfl rfl (Nat.le_of_ble_eq_true rfl) dX1_isWhole_90 ⟨Nat.zero_le _, Nat.zero_le _⟩ (fun locs hS => ?_)
          refine lv_istore (pc := 93) (lv' := [(9, .int v7), (8, .int v6), (7, .int v5), (6, .int v2), (5, .int v1), (0, .ref a_bx), (1, .int p1), (2, .int p2), (3, .int p3), (4, .int p4)]) hx hb dX1_isWhole_93 hl (by decide) rfl (fun ls hl => ?_)
          refine lv_aload_n (pc := 95) hx hb dX1_isWhole_95 rfl (lv_at hl 5 rfl) ?_
          refine va_get (pc := 96) (D := D) (ci := 1) (v := .ref a_g) (C := RX1) (T := TX1) (N := 5) hx hb hts hinX1 hown hK hP 0 rfl rfl 0 (by decide) w_1 (fun _ h9 => h9) rfl dX1_isWhole_96 ?_
          refine lv_iload (pc := 99) hx hb dX1_isWhole_99 (lv_at hl 9 rfl) ?_
          refine lv_iload (pc := 101) hx hb dX1_isWhole_101 (lv_at hl 3 rfl) ?_
          refine lv_aload_n (pc := 103) hx hb dX1_isWhole_103 rfl (lv_at hl 5 rfl) ?_
          refine va_get (pc := 104) (D := D) (ci := 1) (v := .int bx_west) (C := RX1) (T := TX1) (N := 5) hx hb hts hinX1 hown hK hP 0 rfl rfl 3 (by decide) w_2 (fun _ h9 => h9) rfl dX1_isWhole_104 ?_
          obtain ⟨v8, hm107, hf⟩ := q_b1_e hf
          refine q_cVr (pc := 107) (As := [.int p4, .int v2, .int bx_west]) (rest := []) (v0 := (some (.int v8))) ⟨hx, hb, hml, hown, hts⟩ hK hA hZ hP hD hS hl.1 [1, 2, 3, 4] 5 rfl ⟨rfl, rfl, rfl⟩ (c_Grid_placeOfLon l D ci A sa N (Rw) a_g a_g_rowCuts a_g_columnCuts a_g_bandRows a_g_zoneColumns a_g_rows a_g_sheets g_bandRows g_zoneColumns g_rows p4 v2 bx_west v8 hm107) 1 rfl rfl (cwV 3 hts gX1_isWhole_X2_placeOfLon rfl rfl rfl (by decide +kernel) ⟨Nat.le_of_ble_eq_true rfl, Nat.le_of_ble_eq_true rfl⟩) rfl rfl (Nat.le_of_ble_eq_true rfl) dX1_isWhole_107 ⟨Nat.zero_le _, Nat.zero_le _⟩ (fun locs hS => ?_)
          refine lv_istore (pc := 110) (lv' := [(10, .int v8), (9, .int v7), (8, .int v6), (7, .int v5), (6, .int v2), (5, .int v1), (0, .ref a_bx), (1, .int p1), (2, .int p2), (3, .int p3), (4, .int p4)]) hx hb dX1_isWhole_110 hl (by decide) rfl (fun ls hl => ?_)
          refine lv_iload_n (pc := 112) hx hb dX1_isWhole_112 rfl (lv_at hl 9 rfl) ?_
          refine lv_iload (pc := 113) hx hb dX1_isWhole_113 (lv_at hl 1 rfl) ?_
          refine lv_imul (pc := 115) hx hb dX1_isWhole_115 ?_
          refine lv_iload (pc := 116) hx hb dX1_isWhole_116 (lv_at hl 0 rfl) ?_
          refine lv_isub (pc := 118) hx hb dX1_isWhole_118 ?_
          refine lv_iload (pc := 119) hx hb dX1_isWhole_119 (lv_at hl 2 rfl) ?_
          obtain ⟨v9, hm121, hf⟩ := q_b1_e hf
          refine q_cSr (pc := 121) (As := [.int ((p3 * v7) - v8), .int v6]) (rest := []) (v0 := (some (.int v9))) ⟨hx, hb, hml, hown, hts⟩ hK hA hZ hP hD hS hl.1 [] 5 rfl ⟨rfl, rfl, rfl⟩ (c_JMath_floorMod_7cf53 l D ci A sa N (Rw) ((p3 * v7) - v8) v6 v9 hm121) (va_cwS 2 hts gX1_isWhole_J9_floorMod_7cf53 rfl rfl rfl (by decide +kernel) ⟨Nat.le_of_ble_eq_true rfl, Nat.le_of_ble_eq_true rfl⟩) rfl rfl (Nat.le_of_ble_eq_true rfl) dX1_isWhole_121 ⟨Nat.zero_le _, Nat.zero_le _⟩ (fun locs hS => ?_)
          refine lv_iload (pc := 124) hx hb dX1_isWhole_124 (lv_at hl 1 rfl) ?_
          refine lv_iadd (pc := 126) hx hb dX1_isWhole_126 ?_
          refine lv_iload (pc := 127) hx hb dX1_isWhole_127 (lv_at hl 3 rfl) ?_
          refine q_icmp_gt (pc := 129) (tgt := 136) hx hb dX1_isWhole_129 (by decide) rfl hf (fun hf => ?_) (fun hf => ?_)
          · refine lv_iconst (pc := 136) (v := 0) hx hb dX1_isWhole_136 (by decide) ?_
            obtain rfl := Option.some.inj hf
            rw [hQ]
            exact q_zretr (pc := 137) hx hb hr rfl hlocks rfl hS dX1_isWhole_137
          · refine lv_iconst (pc := 132) (v := 1) hx hb dX1_isWhole_132 (by decide) ?_
            refine lv_goto (pc := 133) (tgt := 137) hx hb dX1_isWhole_133 (by decide) ?_
            obtain rfl := Option.some.inj hf
            rw [hQ]
            exact q_zretr (pc := 137) hx hb hr rfl hlocks rfl hS dX1_isWhole_137
        · refine lv_iconst (pc := 81) (v := 1) hx hb dX1_isWhole_81 (by decide) ?_
          obtain rfl := Option.some.inj hf
          rw [hQ]
          exact q_zretr (pc := 82) hx hb hr rfl hlocks rfl hS dX1_isWhole_82
      · refine lv_iconst (pc := 49) (v := 0) hx hb dX1_isWhole_49 (by decide) ?_
        obtain rfl := Option.some.inj hf
        rw [hQ]
        exact q_zretr (pc := 50) hx hb hr rfl hlocks rfl hS dX1_isWhole_50
  exact hgo _ _ rfl hP hS
/-! X1_isCover -/
set_option maxRecDepth 100000 in
set_option maxHeartbeats 4000000 in
theorem c_Box_isCover (l : Launch) (D : va_G) (ci : Nat → ClassId) (A : Nat → Prop) (sa : Nat → Nat) (N : Nat) (Rw : va_W) (a_bx : Nat) (a_g : Nat) (a_g_rowCuts : Nat) (a_g_columnCuts : Nat) (a_g_bandRows : Nat) (a_g_zoneColumns : Nat) (a_g_rows : Nat) (a_g_sheets : Nat) (bx_south : Int32) (bx_north : Int32) (bx_west : Int32) (bx_east : Int32) (g_rowCuts : Nat → Int32) (g_columnCuts : Nat → Int32) (g_bandRows : Nat → Int32) (g_zoneColumns : Nat → Int32) (g_rows : Nat → Int32) (p1 : Int32) (p2 : Int32) (p3 : Int32) (p4 : Int32) (r : Int32) (hf : f_Box_isCover bx_south bx_north bx_west bx_east g_rowCuts g_columnCuts g_bandRows g_zoneColumns g_rows p1 p2 p3 p4 = some r) : Met l yX1_isCover wsX1_isCover ({ frames := 4, cells := 0, slots := 0, locals := 100 }) (va_Pc [.ref a_bx, .int p1, .int p2, .int p3, .int p4] (q_N D ci A sa ((a_bx, .inr (1, [.ref a_g, .int bx_south, .int bx_north, .int bx_west, .int bx_east])) :: (a_g, .inr (2, [.ref a_g_rowCuts, .ref a_g_columnCuts, .ref a_g_bandRows, .ref a_g_zoneColumns, .ref a_g_rows, .ref a_g_sheets])) :: (a_g_rowCuts, .inl (ci 0, 5, .inl g_rowCuts)) :: (a_g_columnCuts, .inl (ci 0, 5, .inl g_columnCuts)) :: (a_g_bandRows, .inl (ci 0, 5, .inl g_bandRows)) :: (a_g_zoneColumns, .inl (ci 0, 5, .inl g_zoneColumns)) :: (a_g_rows, .inl (ci 0, 5, .inl g_rows)) :: Rw))) (q_R (some (.int r))) 0 0 A := by
  refine q_ofW (cc := cX1_isCover) (maxL := 6) (ret := (some .boolean)) [.ref a_bx, .int p1, .int p2, .int p3, .int p4] (plainFor_of_name (by decide)) rfl (Nat.le_of_ble_eq_true rfl) ?_
  intro p e s m below meth c ls Q hQ hx hb hml hr hts hown hlocks hK hA hZ hP hD hS hl
  have hl : lv_has ls 6 [(0, .ref a_bx), (1, .int p1), (2, .int p2), (3, .int p3), (4, .int p4)] := hl
  have hown : s.vm.findClass RX1 = some m.cls := hown
  have hinX1 : ∀ w ∈ wsX10, w ∈ wsX1_isCover := fun _ h => List.mem_cons_of_mem _ (inWX10 _ h)
  have hinX2 : ∀ w ∈ wsX20, w ∈ wsX1_isCover := fun _ h => List.mem_cons_of_mem _ (inWX20 _ h)
  have w_1 := hts (Cond.fieldLink RX1 24 "SheetNames$Box" "grid" "LSheetNames$Grid;") (List.mem_cons_of_mem _ t_w827)
  have wn_40 : (Cond.fieldLinkNest "SheetNames$Box" 92 "SheetNames$Grid" "rowCuts" "[I" "SheetNames").before ([.ref a_bx, .int p1, .int p2, .int p3, .int p4] : List Value).toArray s = true := (hZ.2.2.2.2.2.2.2.2.2.1 _ (List.mem_of_getElem? (i := 40) rfl)).use rfl
  have wn_41 : (Cond.fieldLinkNest "SheetNames$Box" 95 "SheetNames$Grid" "columnCuts" "[I" "SheetNames").before ([.ref a_bx, .int p1, .int p2, .int p3, .int p4] : List Value).toArray s = true := (hZ.2.2.2.2.2.2.2.2.2.1 _ (List.mem_of_getElem? (i := 41) rfl)).use rfl
  unfold f_Box_isCover at hf
  have hgo : ∀ (H : Heap) (locs : List Loc), H = s.heap → va_P D vwCl ((a_bx, .inr (1, [.ref a_g, .int bx_south, .int bx_north, .int bx_west, .int bx_east])) :: (a_g, .inr (2, [.ref a_g_rowCuts, .ref a_g_columnCuts, .ref a_g_bandRows, .ref a_g_zoneColumns, .ref a_g_rows, .ref a_g_sheets])) :: (a_g_rowCuts, .inl (ci 0, 5, .inl g_rowCuts)) :: (a_g_columnCuts, .inl (ci 0, 5, .inl g_columnCuts)) :: (a_g_bandRows, .inl (ci 0, 5, .inl g_bandRows)) :: (a_g_zoneColumns, .inl (ci 0, 5, .inl g_zoneColumns)) :: (a_g_rows, .inl (ci 0, 5, .inl g_rows)) :: Rw) H → va_S A s.heap H locs → W p l e ({ frames := 4, cells := 0, slots := 0, locals := 100 } : Room) s m ([.ref a_bx, .int p1, .int p2, .int p3, .int p4] : List Value).toArray below meth c H locs 0 0 Q (F0 m 0 ls []) := by
    intro H locs hH hP hS
    subst hH
    refine lv_aload_n (pc := 0) hx hb dX1_isCover_0 rfl (lv_at hl 0 rfl) ?_
    refine va_get (pc := 1) (D := D) (ci := 1) (v := .ref a_g) (C := RX1) (T := TX1) (N := 5) hx hb hts hinX1 hown hK hP 0 rfl rfl 0 (by decide) w_1 (fun _ h9 => h9) rfl dX1_isCover_1 ?_
    refine lv_iload_n (pc := 4) hx hb dX1_isCover_4 rfl (lv_at hl 1 rfl) ?_
    refine lv_iload_n (pc := 5) hx hb dX1_isCover_5 rfl (lv_at hl 2 rfl) ?_
    obtain ⟨v1, hm6, hf⟩ := q_b1_e hf
    refine q_cVr (pc := 6) (As := [.int p1, .int p2]) (rest := []) (v0 := (some (.int v1))) ⟨hx, hb, hml, hown, hts⟩ hK hA hZ hP hD hS hl.1 [1, 6] 7 rfl ⟨rfl, rfl, rfl⟩ (c_Grid_isCapRow l D ci A sa N (Rw) a_g a_g_rowCuts a_g_columnCuts a_g_bandRows a_g_zoneColumns a_g_rows a_g_sheets g_rows p1 p2 v1 hm6) 1 rfl rfl (cwV 2 hts gX1_isCover_X2_isCapRow rfl rfl rfl (by decide +kernel) ⟨Nat.le_of_ble_eq_true rfl, Nat.le_of_ble_eq_true rfl⟩) rfl rfl (Nat.le_of_ble_eq_true rfl) dX1_isCover_6 ⟨Nat.zero_le _, Nat.zero_le _⟩ (fun locs hS => ?_)
    refine q_if_eq (pc := 9) (tgt := 22) hx hb dX1_isCover_9 (by decide) rfl hf (fun hf => ?_) (fun hf => ?_)
    · refine lv_aload_n (pc := 22) hx hb dX1_isCover_22 rfl (lv_at hl 0 rfl) ?_
      refine lv_iload_n (pc := 23) hx hb dX1_isCover_23 rfl (lv_at hl 1 rfl) ?_
      refine lv_iload_n (pc := 24) hx hb dX1_isCover_24 rfl (lv_at hl 2 rfl) ?_
      refine lv_iload_n (pc := 25) hx hb dX1_isCover_25 rfl (lv_at hl 3 rfl) ?_
      refine lv_iload (pc := 26) hx hb dX1_isCover_26 (lv_at hl 4 rfl) ?_
      obtain ⟨v2, hm28, hf⟩ := q_b1_e hf
      refine q_cVr (pc := 28) (As := [.int p1, .int p2, .int p3, .int p4]) (rest := []) (v0 := (some (.int v2))) ⟨hx, hb, hml, hown, hts⟩ hK hA hZ hP hD hS hl.1 [0, 1, 4, 5, 6] 7 rfl ⟨rfl, rfl, rfl⟩ (c_Box_isWhole l D ci A sa N (Rw) a_bx a_g a_g_rowCuts a_g_columnCuts a_g_bandRows a_g_zoneColumns a_g_rows a_g_sheets bx_south bx_north bx_west bx_east g_bandRows g_zoneColumns g_rows p1 p2 p3 p4 v2 hm28) 0 rfl rfl (cwV 4 hts gX1_isCover_X1_isWhole rfl rfl rfl (by decide +kernel) ⟨Nat.le_of_ble_eq_true rfl, Nat.le_of_ble_eq_true rfl⟩) rfl rfl (Nat.le_of_ble_eq_true rfl) dX1_isCover_28 ⟨Nat.zero_le _, Nat.zero_le _⟩ (fun locs hS => ?_)
      refine q_if_ne (pc := 31) (tgt := 36) hx hb dX1_isCover_31 (by decide) rfl hf (fun hf => ?_) (fun hf => ?_)
      · refine lv_iload_n (pc := 36) hx hb dX1_isCover_36 rfl (lv_at hl 1 rfl) ?_
        refine q_if_ne (pc := 37) (tgt := 42) hx hb dX1_isCover_37 (by decide) rfl hf (fun hf => ?_) (fun hf => ?_)
        · refine lv_iload_n (pc := 42) hx hb dX1_isCover_42 rfl (lv_at hl 2 rfl) ?_
          refine lv_iconst (pc := 43) (v := 1) hx hb dX1_isCover_43 (by decide) ?_
          refine lv_isub (pc := 44) hx hb dX1_isCover_44 ?_
          refine lv_aload_n (pc := 45) hx hb dX1_isCover_45 rfl (lv_at hl 0 rfl) ?_
          refine va_get (pc := 46) (D := D) (ci := 1) (v := .ref a_g) (C := RX1) (T := TX1) (N := 5) hx hb hts hinX1 hown hK hP 0 rfl rfl 0 (by decide) w_1 (fun _ h9 => h9) rfl dX1_isCover_46 ?_
          refine va_getN (pc := 49) (D := D) (ci := 2) (v := .ref a_g_rowCuts) (C := RX2) (T := TX2) (N := 6) hx hb hts hinX2 hown hK hP 1 rfl rfl 0 (by decide) wn_40 (fun _ h9 => h9) rfl dX1_isCover_49 ?_
          refine lv_iload_n (pc := 52) hx hb dX1_isCover_52 rfl (lv_at hl 1 rfl) ?_
          refine q_iald (pc := 53) hx hb hK hP 2 0 hf rfl rfl dX1_isCover_53 (fun v3 hf => ?_)
          refine q_idiv (pc := 54) hx hb dX1_isCover_54 hf (fun v4 hf => ?_)
          refine lv_iconst (pc := 55) (v := 1) hx hb dX1_isCover_55 (by decide) ?_
          refine lv_iadd (pc := 56) hx hb dX1_isCover_56 ?_
          obtain ⟨v5, ev5, hf⟩ := q_nm_e hf
          refine q_topi ev5 ?_
          refine lv_istore (pc := 57) (lv' := [(5, .int v5), (0, .ref a_bx), (1, .int p1), (2, .int p2), (3, .int p3), (4, .int p4)]) hx hb dX1_isCover_57 hl (by decide) rfl (fun ls hl => ?_)
          refine lv_aload_n (pc := 59) hx hb dX1_isCover_59 rfl (lv_at hl 1 rfl) ?_
          refine lv_iload_n (pc := 60) hx hb dX1_isCover_60 rfl (lv_at hl 2 rfl) ?_
          refine lv_iconst (pc := 61) (v := 1) hx hb dX1_isCover_61 (by decide) ?_
          refine lv_isub (pc := 62) hx hb dX1_isCover_62 ?_
          refine lv_iload (pc := 63) hx hb dX1_isCover_63 (lv_at hl 0 rfl) ?_
          refine lv_iload_n (pc := 65) hx hb dX1_isCover_65 rfl (lv_at hl 4 rfl) ?_
          refine lv_aload_n (pc := 66) hx hb dX1_isCover_66 rfl (lv_at hl 1 rfl) ?_
          refine va_get (pc := 67) (D := D) (ci := 1) (v := .ref a_g) (C := RX1) (T := TX1) (N := 5) hx hb hts hinX1 hown hK hP 0 rfl rfl 0 (by decide) w_1 (fun _ h9 => h9) rfl dX1_isCover_67 ?_
          refine va_getN (pc := 70) (D := D) (ci := 2) (v := .ref a_g_columnCuts) (C := RX2) (T := TX2) (N := 6) hx hb hts hinX2 hown hK hP 1 rfl rfl 1 (by decide) wn_41 (fun _ h9 => h9) rfl dX1_isCover_70 ?_
          refine lv_iload_n (pc := 73) hx hb dX1_isCover_73 rfl (lv_at hl 2 rfl) ?_
          refine q_iald (pc := 74) hx hb hK hP 3 0 hf rfl rfl dX1_isCover_74 (fun v6 hf => ?_)
          refine q_idiv (pc := 75) hx hb dX1_isCover_75 hf (fun v7 hf => ?_)
          refine lv_iload (pc := 76) hx hb dX1_isCover_76 (lv_at hl 5 rfl) ?_
          obtain ⟨v8, hm78, hf⟩ := q_b1_e hf
          refine q_cVr (pc := 78) (As := [.int (p1 - 1), .int v5, .int v7, .int p4]) (rest := []) (v0 := (some (.int v8))) ⟨hx, hb, hml, hown, hts⟩ hK hA hZ hP hD hS hl.1 [0, 1, 4, 5, 6] 7 rfl ⟨rfl, rfl, rfl⟩ (c_Box_isWhole l D ci A sa N (Rw) a_bx a_g a_g_rowCuts a_g_columnCuts a_g_bandRows a_g_zoneColumns a_g_rows a_g_sheets bx_south bx_north bx_west bx_east g_bandRows g_zoneColumns g_rows (p1 - 1) v5 v7 p4 v8 hm78) 0 rfl rfl (cwV 4 hts gX1_isCover_X1_isWhole rfl rfl rfl (by decide +kernel) ⟨Nat.le_of_ble_eq_true rfl, Nat.le_of_ble_eq_true rfl⟩) rfl rfl (Nat.le_of_ble_eq_true rfl) dX1_isCover_78 ⟨Nat.zero_le _, Nat.zero_le _⟩ (fun locs hS => ?_)
          refine q_if_ne (pc := 81) (tgt := 88) hx hb dX1_isCover_81 (by decide) rfl hf (fun hf => ?_) (fun hf => ?_)
          · refine lv_iconst (pc := 88) (v := 0) hx hb dX1_isCover_88 (by decide) ?_
            obtain rfl := Option.some.inj hf
            rw [hQ]
            exact q_zretr (pc := 89) hx hb hr rfl hlocks rfl hS dX1_isCover_89
          · refine lv_iconst (pc := 84) (v := 1) hx hb dX1_isCover_84 (by decide) ?_
            refine lv_goto (pc := 85) (tgt := 89) hx hb dX1_isCover_85 (by decide) ?_
            obtain rfl := Option.some.inj hf
            rw [hQ]
            exact q_zretr (pc := 89) hx hb hr rfl hlocks rfl hS dX1_isCover_89
        · refine lv_iconst (pc := 40) (v := 1) hx hb dX1_isCover_40 (by decide) ?_
          obtain rfl := Option.some.inj hf
          rw [hQ]
          exact q_zretr (pc := 41) hx hb hr rfl hlocks rfl hS dX1_isCover_41
      · refine lv_iconst (pc := 34) (v := 0) hx hb dX1_isCover_34 (by decide) ?_
        obtain rfl := Option.some.inj hf
        rw [hQ]
        exact q_zretr (pc := 35) hx hb hr rfl hlocks rfl hS dX1_isCover_35
    · refine lv_iload_n (pc := 12) hx hb dX1_isCover_12 rfl (lv_at hl 1 rfl) ?_
      refine q_if_ne (pc := 13) (tgt := 20) hx hb dX1_isCover_13 (by decide) rfl hf (fun hf => ?_) (fun hf => ?_)
      · refine lv_iconst (pc := 20) (v := 0) hx hb dX1_isCover_20 (by decide) ?_
        obtain rfl := Option.some.inj hf
        rw [hQ]
        exact q_zretr (pc := 21) hx hb hr rfl hlocks rfl hS dX1_isCover_21
      · refine lv_iconst (pc := 16) (v := 1) hx hb dX1_isCover_16 (by decide) ?_
        refine lv_goto (pc := 17) (tgt := 21) hx hb dX1_isCover_17 (by decide) ?_
        obtain rfl := Option.some.inj hf
        rw [hQ]
        exact q_zretr (pc := 21) hx hb hr rfl hlocks rfl hS dX1_isCover_21
  exact hgo _ _ rfl hP hS
/-! X1_coverAt -/
set_option maxRecDepth 100000 in
set_option maxHeartbeats 4000000 in
theorem c_Box_coverAt (l : Launch) (D : va_G) (ci : Nat → ClassId) (A : Nat → Prop) (sa : Nat → Nat) (N : Nat) (Rw : va_W) (a_bx : Nat) (a_g : Nat) (a_g_rowCuts : Nat) (a_g_columnCuts : Nat) (a_g_bandRows : Nat) (a_g_zoneColumns : Nat) (a_g_rows : Nat) (a_g_sheets : Nat) (bx_south : Int32) (bx_north : Int32) (bx_west : Int32) (bx_east : Int32) (g_rowCuts : Nat → Int32) (g_columnCuts : Nat → Int32) (g_bandRows : Nat → Int32) (g_zoneColumns : Nat → Int32) (g_rows : Nat → Int32) (p1 : Int32) (p2 : Int32) (r : Int32) (hf : f_Box_coverAt N bx_south bx_north bx_west bx_east g_rowCuts g_columnCuts g_bandRows g_zoneColumns g_rows p1 p2 = some r) : Met l yX1_coverAt wsX1_coverAt ({ frames := 5, cells := 0, slots := 0, locals := 125 }) (va_Pc [.ref a_bx, .int p1, .int p2] (q_N D ci A sa ((a_bx, .inr (1, [.ref a_g, .int bx_south, .int bx_north, .int bx_west, .int bx_east])) :: (a_g, .inr (2, [.ref a_g_rowCuts, .ref a_g_columnCuts, .ref a_g_bandRows, .ref a_g_zoneColumns, .ref a_g_rows, .ref a_g_sheets])) :: (a_g_rowCuts, .inl (ci 0, 5, .inl g_rowCuts)) :: (a_g_columnCuts, .inl (ci 0, 5, .inl g_columnCuts)) :: (a_g_bandRows, .inl (ci 0, 5, .inl g_bandRows)) :: (a_g_zoneColumns, .inl (ci 0, 5, .inl g_zoneColumns)) :: (a_g_rows, .inl (ci 0, 5, .inl g_rows)) :: Rw))) (q_R (some (.int r))) 0 0 A := by
  refine q_ofW (cc := cX1_coverAt) (maxL := 8) (ret := (some .int)) [.ref a_bx, .int p1, .int p2] (plainFor_of_name (by decide)) rfl (Nat.le_of_ble_eq_true rfl) ?_
  intro p e s m below meth c ls Q hQ hx hb hml hr hts hown hlocks hK hA hZ hP hD hS hl
  have hl : lv_has ls 8 [(0, .ref a_bx), (1, .int p1), (2, .int p2)] := hl
  have hown : s.vm.findClass RX1 = some m.cls := hown
  unfold f_Box_coverAt at hf
  have hgo : ∀ (H : Heap) (locs : List Loc), H = s.heap → va_P D vwCl ((a_bx, .inr (1, [.ref a_g, .int bx_south, .int bx_north, .int bx_west, .int bx_east])) :: (a_g, .inr (2, [.ref a_g_rowCuts, .ref a_g_columnCuts, .ref a_g_bandRows, .ref a_g_zoneColumns, .ref a_g_rows, .ref a_g_sheets])) :: (a_g_rowCuts, .inl (ci 0, 5, .inl g_rowCuts)) :: (a_g_columnCuts, .inl (ci 0, 5, .inl g_columnCuts)) :: (a_g_bandRows, .inl (ci 0, 5, .inl g_bandRows)) :: (a_g_zoneColumns, .inl (ci 0, 5, .inl g_zoneColumns)) :: (a_g_rows, .inl (ci 0, 5, .inl g_rows)) :: Rw) H → va_S A s.heap H locs → W p l e ({ frames := 5, cells := 0, slots := 0, locals := 125 } : Room) s m ([.ref a_bx, .int p1, .int p2] : List Value).toArray below meth c H locs 0 0 Q (F0 m 0 ls []) := by
    intro H locs hH hP hS
    subst hH
    refine lv_iconst (pc := 0) (v := 0) hx hb dX1_coverAt_0 (by decide) ?_
    obtain ⟨v1, ev1, hf⟩ := q_nm_e hf
    refine q_topi ev1 ?_
    refine lv_istore_n (pc := 1) (lv' := [(3, .int v1), (0, .ref a_bx), (1, .int p1), (2, .int p2)]) hx hb dX1_coverAt_1 rfl hl (by decide) rfl (fun ls hl => ?_)
    refine lv_aload_n (pc := 2) hx hb dX1_coverAt_2 rfl (lv_at hl 1 rfl) ?_
    refine lv_iload_n (pc := 3) hx hb dX1_coverAt_3 rfl (lv_at hl 2 rfl) ?_
    obtain ⟨v2, hm4, hf⟩ := q_b1_e hf
    refine q_cVr (pc := 4) (As := [.int p1]) (rest := []) (v0 := (some (.int v2))) ⟨hx, hb, hml, hown, hts⟩ hK hA hZ hP hD hS hl.1 [0, 1, 4, 6] 7 rfl ⟨rfl, rfl, rfl⟩ (c_Box_bottomRow l D ci A sa N (Rw) a_bx a_g a_g_rowCuts a_g_columnCuts a_g_bandRows a_g_zoneColumns a_g_rows a_g_sheets bx_south bx_north bx_west bx_east g_bandRows g_rows p1 v2 hm4) 0 rfl rfl (cwV 1 hts gX1_coverAt_X1_bottomRow rfl rfl rfl (by decide +kernel) ⟨Nat.le_of_ble_eq_true rfl, Nat.le_of_ble_eq_true rfl⟩) rfl rfl (Nat.le_of_ble_eq_true rfl) dX1_coverAt_4 ⟨Nat.zero_le _, Nat.zero_le _⟩ (fun locs hS => ?_)
    refine lv_istore (pc := 7) (lv' := [(4, .int v2), (3, .int v1), (0, .ref a_bx), (1, .int p1), (2, .int p2)]) hx hb dX1_coverAt_7 hl (by decide) rfl (fun ls hl => ?_)
    refine lv_aload_n (pc := 9) hx hb dX1_coverAt_9 rfl (lv_at hl 2 rfl) ?_
    refine lv_iload_n (pc := 10) hx hb dX1_coverAt_10 rfl (lv_at hl 3 rfl) ?_
    obtain ⟨v3, hm11, hf⟩ := q_b1_e hf
    refine q_cVr (pc := 11) (As := [.int p1]) (rest := []) (v0 := (some (.int v3))) ⟨hx, hb, hml, hown, hts⟩ hK hA hZ hP hD hS hl.1 [0, 1, 4, 6] 7 rfl ⟨rfl, rfl, rfl⟩ (c_Box_topRow l D ci A sa N (Rw) a_bx a_g a_g_rowCuts a_g_columnCuts a_g_bandRows a_g_zoneColumns a_g_rows a_g_sheets bx_south bx_north bx_west bx_east g_bandRows g_rows p1 v3 hm11) 0 rfl rfl (cwV 1 hts gX1_coverAt_X1_topRow rfl rfl rfl (by decide +kernel) ⟨Nat.le_of_ble_eq_true rfl, Nat.le_of_ble_eq_true rfl⟩) rfl rfl (Nat.le_of_ble_eq_true rfl) dX1_coverAt_11 ⟨Nat.zero_le _, Nat.zero_le _⟩ (fun locs hS => ?_)
    refine lv_istore (pc := 14) (lv' := [(5, .int v3), (4, .int v2), (3, .int v1), (0, .ref a_bx), (1, .int p1), (2, .int p2)]) hx hb dX1_coverAt_14 hl (by decide) rfl (fun ls hl => ?_)
    obtain ⟨v6, hm16, hf⟩ := q_b1_e hf
    have JE16 : ∀ (H : Heap) (locs : List Loc) (ls : Array Slot), H = s.heap → va_S A s.heap H locs → lv_has ls 8 [(3, .int v6)] → W p l e ({ frames := 5, cells := 0, slots := 0, locals := 125 } : Room) s m ([.ref a_bx, .int p1, .int p2] : List Value).toArray below meth c H locs 0 0 Q (F0 m 77 ls []) := by
      intro H locs ls hHs hS hl
      subst hHs
      refine lv_iload_n (pc := 77) hx hb dX1_coverAt_77 rfl (lv_at hl 0 rfl) ?_
      obtain rfl := Option.some.inj hf
      rw [hQ]
      exact q_iretr (pc := 78) hx hb hr hlocks rfl hS dX1_coverAt_78
    have LP16 : ∀ (n16 : Nat) (v4 : Int32) (v5 : Int32) (H : Heap) (locs : List Loc) (ls : Array Slot), f_Box_coverAt_L16 N bx_east bx_north bx_south bx_west g_bandRows g_columnCuts g_rowCuts g_rows g_zoneColumns p1 p2 v2 n16 v4 v5 = some v6 → H = s.heap → va_S A s.heap H locs → lv_has ls 8 [(0, .ref a_bx), (1, .int p1), (2, .int p2), (3, .int v4), (4, .int v2), (5, .int v5)] → W p l e ({ frames := 5, cells := 0, slots := 0, locals := 125 } : Room) s m ([.ref a_bx, .int p1, .int p2] : List Value).toArray below meth c H locs 0 0 Q (F0 m 16 ls []) := by
      intro n16
      induction n16 with
      | zero => intro v4 v5 H locs ls hf; rw [f_Box_coverAt_L16] at hf; cases hf
      | succ n16 ih16 =>
        intro v4 v5 H locs ls hf hHs hS hl
        subst hHs
        rw [f_Box_coverAt_L16] at hf
        refine lv_iload (pc := 16) hx hb dX1_coverAt_16 (lv_at hl 5 rfl) ?_
        refine lv_iload (pc := 18) hx hb dX1_coverAt_18 (lv_at hl 4 rfl) ?_
        refine q_icmp_gt (pc := 20) (tgt := 77) hx hb dX1_coverAt_20 (by decide) rfl hf (fun hf => ?_) (fun hf => ?_)
        · obtain rfl := Option.some.inj hf
          exact JE16 _ _ _ rfl hS (lv_sub hl [3] rfl)
        · refine lv_aload_n (pc := 23) hx hb dX1_coverAt_23 rfl (lv_at hl 0 rfl) ?_
          refine lv_iload_n (pc := 24) hx hb dX1_coverAt_24 rfl (lv_at hl 1 rfl) ?_
          refine lv_iload (pc := 25) hx hb dX1_coverAt_25 (lv_at hl 5 rfl) ?_
          obtain ⟨v7, hm27, hf⟩ := q_b1_e hf
          refine q_cVr (pc := 27) (As := [.int p1, .int v5]) (rest := []) (v0 := (some (.int v7))) ⟨hx, hb, hml, hown, hts⟩ hK hA hZ hP hD hS hl.1 [0, 1, 4, 5, 6] 7 rfl ⟨rfl, rfl, rfl⟩ (c_Box_inRow l D ci A sa N (Rw) a_bx a_g a_g_rowCuts a_g_columnCuts a_g_bandRows a_g_zoneColumns a_g_rows a_g_sheets bx_south bx_north bx_west bx_east g_bandRows g_zoneColumns g_rows p1 v5 v7 hm27) 0 rfl rfl (cwV 2 hts gX1_coverAt_X1_inRow rfl rfl rfl (by decide +kernel) ⟨Nat.le_of_ble_eq_true rfl, Nat.le_of_ble_eq_true rfl⟩) rfl rfl (Nat.le_of_ble_eq_true rfl) dX1_coverAt_27 ⟨Nat.zero_le _, Nat.zero_le _⟩ (fun locs hS => ?_)
          refine lv_istore (pc := 30) (lv' := [(6, .int v7), (0, .ref a_bx), (1, .int p1), (2, .int p2), (3, .int v4), (4, .int v2), (5, .int v5)]) hx hb dX1_coverAt_30 hl (by decide) rfl (fun ls hl => ?_)
          refine lv_iconst (pc := 32) (v := 0) hx hb dX1_coverAt_32 (by decide) ?_
          obtain ⟨v8, ev8, hf⟩ := q_nm_e hf
          refine q_topi ev8 ?_
          refine lv_istore (pc := 33) (lv' := [(7, .int v8), (6, .int v7), (0, .ref a_bx), (1, .int p1), (2, .int p2), (3, .int v4), (4, .int v2), (5, .int v5)]) hx hb dX1_coverAt_33 hl (by decide) rfl (fun ls hl => ?_)
          obtain ⟨v11, hm35, hf⟩ := q_b1_e hf
          have JE35 : ∀ (H : Heap) (locs : List Loc) (ls : Array Slot), H = s.heap → va_S A s.heap H locs → lv_has ls 8 [(0, .ref a_bx), (1, .int p1), (2, .int p2), (3, .int v11), (4, .int v2), (5, .int v5)] → W p l e ({ frames := 5, cells := 0, slots := 0, locals := 125 } : Room) s m ([.ref a_bx, .int p1, .int p2] : List Value).toArray below meth c H locs 0 0 Q (F0 m 71 ls []) := by
            intro H locs ls hHs hS hl
            subst hHs
            obtain ⟨v12, ev12, hf⟩ := q_nm_e hf
            refine lv_iinc (pc := 71) (v := v12) (lv' := [(5, .int v12), (0, .ref a_bx), (1, .int p1), (2, .int p2), (3, .int v11), (4, .int v2)]) hx hb dX1_coverAt_71 hl (k := 5) rfl (by rw [ev12]; rfl) (by decide) rfl (fun ls hl => ?_)
            refine lv_goto (pc := 74) (tgt := 16) hx hb dX1_coverAt_74 (by decide) ?_
            exact ih16 v11 v12 _ _ _ hf rfl hS (lv_sub hl [1, 2, 3, 4, 5, 0] rfl)
          have LP35 : ∀ (n35 : Nat) (v9 : Int32) (v10 : Int32) (H : Heap) (locs : List Loc) (ls : Array Slot), f_Box_coverAt_L35 bx_east bx_north bx_south bx_west g_bandRows g_columnCuts g_rowCuts g_rows g_zoneColumns p1 p2 v5 v7 n35 v9 v10 = some v11 → H = s.heap → va_S A s.heap H locs → lv_has ls 8 [(0, .ref a_bx), (1, .int p1), (2, .int p2), (3, .int v9), (4, .int v2), (5, .int v5), (6, .int v7), (7, .int v10)] → W p l e ({ frames := 5, cells := 0, slots := 0, locals := 125 } : Room) s m ([.ref a_bx, .int p1, .int p2] : List Value).toArray below meth c H locs 0 0 Q (F0 m 35 ls []) := by
            intro n35
            induction n35 with
            | zero => intro v9 v10 H locs ls hf; rw [f_Box_coverAt_L35] at hf; cases hf
            | succ n35 ih35 =>
              intro v9 v10 H locs ls hf hHs hS hl
              subst hHs
              rw [f_Box_coverAt_L35] at hf
              refine lv_iload (pc := 35) hx hb dX1_coverAt_35 (lv_at hl 7 rfl) ?_
              refine lv_iload (pc := 37) hx hb dX1_coverAt_37 (lv_at hl 6 rfl) ?_
              refine q_icmp_ge (pc := 39) (tgt := 71) hx hb dX1_coverAt_39 (by decide) rfl hf (fun hf => ?_) (fun hf => ?_)
              · obtain rfl := Option.some.inj hf
                exact JE35 _ _ _ rfl hS (lv_sub hl [0, 1, 2, 3, 4, 5] rfl)
              · refine lv_aload_n (pc := 42) hx hb dX1_coverAt_42 rfl (lv_at hl 0 rfl) ?_
                refine lv_iload_n (pc := 43) hx hb dX1_coverAt_43 rfl (lv_at hl 1 rfl) ?_
                refine lv_iload (pc := 44) hx hb dX1_coverAt_44 (lv_at hl 5 rfl) ?_
                refine lv_aload_n (pc := 46) hx hb dX1_coverAt_46 rfl (lv_at hl 0 rfl) ?_
                refine lv_iload_n (pc := 47) hx hb dX1_coverAt_47 rfl (lv_at hl 1 rfl) ?_
                refine lv_iload (pc := 48) hx hb dX1_coverAt_48 (lv_at hl 5 rfl) ?_
                refine lv_iload (pc := 50) hx hb dX1_coverAt_50 (lv_at hl 7 rfl) ?_
                obtain ⟨v13, hm52, hf⟩ := q_b1_e hf
                refine q_cVr (pc := 52) (As := [.int p1, .int v5, .int v10]) (rest := [.int v5, .int p1, .ref a_bx]) (v0 := (some (.int v13))) ⟨hx, hb, hml, hown, hts⟩ hK hA hZ hP hD hS hl.1 [0, 1, 4, 5, 6] 7 rfl ⟨rfl, rfl, rfl⟩ (c_Box_placeByKeys l D ci A sa N (Rw) a_bx a_g a_g_rowCuts a_g_columnCuts a_g_bandRows a_g_zoneColumns a_g_rows a_g_sheets bx_south bx_north bx_west bx_east g_bandRows g_zoneColumns g_rows p1 v5 v10 v13 hm52) 0 rfl rfl (cwV 3 hts gX1_coverAt_X1_placeByKeys rfl rfl rfl (by decide +kernel) ⟨Nat.le_of_ble_eq_true rfl, Nat.le_of_ble_eq_true rfl⟩) rfl rfl (Nat.le_of_ble_eq_true rfl) dX1_coverAt_52 ⟨Nat.zero_le _, Nat.zero_le _⟩ (fun locs hS => ?_)
                refine lv_iload_n (pc := 55) hx hb dX1_coverAt_55 rfl (lv_at hl 2 rfl) ?_
                obtain ⟨v14, hm56, hf⟩ := q_b1_e hf
                refine q_cVr (pc := 56) (As := [.int p1, .int v5, .int v13, .int p2]) (rest := []) (v0 := (some (.int v14))) ⟨hx, hb, hml, hown, hts⟩ hK hA hZ hP hD hS hl.1 [0, 1, 2, 3, 4, 5, 6] 7 rfl ⟨rfl, rfl, rfl⟩ (c_Box_isCover l D ci A sa N (Rw) a_bx a_g a_g_rowCuts a_g_columnCuts a_g_bandRows a_g_zoneColumns a_g_rows a_g_sheets bx_south bx_north bx_west bx_east g_rowCuts g_columnCuts g_bandRows g_zoneColumns g_rows p1 v5 v13 p2 v14 hm56) 0 rfl rfl (cwV 4 hts gX1_coverAt_X1_isCover rfl rfl rfl (by decide +kernel) ⟨Nat.le_of_ble_eq_true rfl, Nat.le_of_ble_eq_true rfl⟩) rfl rfl (Nat.le_of_ble_eq_true rfl) dX1_coverAt_56 ⟨Nat.zero_le _, Nat.zero_le _⟩ (fun locs hS => ?_)
                obtain ⟨k65, ek65, hf⟩ := q_j1_e hf
                have J65 : ∀ (v15 : Int32) (H : Heap) (locs : List Loc) (ls : Array Slot), k65 v15 = some v11 → H = s.heap → va_S A s.heap H locs → lv_has ls 8 [(0, .ref a_bx), (1, .int p1), (2, .int p2), (3, .int v15), (4, .int v2), (5, .int v5), (6, .int v7), (7, .int v10)] → W p l e ({ frames := 5, cells := 0, slots := 0, locals := 125 } : Room) s m ([.ref a_bx, .int p1, .int p2] : List Value).toArray below meth c H locs 0 0 Q (F0 m 65 ls []) := by
                  intro v15 H locs ls hf hHs hS hl
                  subst hHs
                  have hf := (ek65 v15).symm.trans hf
                  obtain ⟨v16, ev16, hf⟩ := q_nm_e hf
                  refine lv_iinc (pc := 65) (v := v16) (lv' := [(7, .int v16), (0, .ref a_bx), (1, .int p1), (2, .int p2), (3, .int v15), (4, .int v2), (5, .int v5), (6, .int v7)]) hx hb dX1_coverAt_65 hl (k := 7) rfl (by rw [ev16]; rfl) (by decide) rfl (fun ls hl => ?_)
                  refine lv_goto (pc := 68) (tgt := 35) hx hb dX1_coverAt_68 (by decide) ?_
                  exact ih35 v15 v16 _ _ _ hf rfl hS (lv_sub hl [1, 2, 3, 4, 5, 6, 7, 0] rfl)
                refine q_if_eq (pc := 59) (tgt := 65) hx hb dX1_coverAt_59 (by decide) rfl hf (fun hf => ?_) (fun hf => ?_)
                · exact J65 v9 _ _ _ hf rfl hS (lv_sub hl [0, 1, 2, 3, 4, 5, 6, 7] rfl)
                · obtain ⟨v17, ev17, hf⟩ := q_nm_e hf
                  refine lv_iinc (pc := 62) (v := v17) (lv' := [(3, .int v17), (0, .ref a_bx), (1, .int p1), (2, .int p2), (4, .int v2), (5, .int v5), (6, .int v7), (7, .int v10)]) hx hb dX1_coverAt_62 hl (k := 3) rfl (by rw [ev17]; rfl) (by decide) rfl (fun ls hl => ?_)
                  exact J65 v17 _ _ _ hf rfl hS (lv_sub hl [1, 2, 3, 0, 4, 5, 6, 7] rfl)
          exact LP35 N v4 v8 _ _ _ hm35 rfl hS (lv_sub hl [2, 3, 4, 5, 6, 7, 1, 0] rfl)
    exact LP16 N v1 v3 _ _ _ hm16 rfl hS (lv_sub hl [3, 4, 5, 2, 1, 0] rfl)
  exact hgo _ _ rfl hP hS
/-! X1_coverSheet -/
set_option maxRecDepth 100000 in
set_option maxHeartbeats 4000000 in
theorem c_Box_coverSheet (l : Launch) (D : va_G) (ci : Nat → ClassId) (A : Nat → Prop) (sa : Nat → Nat) (N : Nat) (Rw : va_W) (a_bx : Nat) (a_g : Nat) (a_g_rowCuts : Nat) (a_g_columnCuts : Nat) (a_g_bandRows : Nat) (a_g_zoneColumns : Nat) (a_g_rows : Nat) (a_g_sheets : Nat) (bx_south : Int32) (bx_north : Int32) (bx_west : Int32) (bx_east : Int32) (g_rowCuts : Nat → Int32) (g_columnCuts : Nat → Int32) (g_bandRows : Nat → Int32) (g_zoneColumns : Nat → Int32) (g_rows : Nat → Int32) (g_sheets : Nat → Int32) (p1 : Int32) (p2 : Int32) (p3 : Int32) (r : Int32) (hf : f_Box_coverSheet N bx_south bx_north bx_west bx_east g_rowCuts g_columnCuts g_bandRows g_zoneColumns g_rows g_sheets p1 p2 p3 = some r) : Met l yX1_coverSheet wsX1_coverSheet ({ frames := 5, cells := 0, slots := 0, locals := 125 }) (va_Pc [.ref a_bx, .int p1, .int p2, .int p3] (q_N D ci A sa ((a_bx, .inr (1, [.ref a_g, .int bx_south, .int bx_north, .int bx_west, .int bx_east])) :: (a_g, .inr (2, [.ref a_g_rowCuts, .ref a_g_columnCuts, .ref a_g_bandRows, .ref a_g_zoneColumns, .ref a_g_rows, .ref a_g_sheets])) :: (a_g_rowCuts, .inl (ci 0, 5, .inl g_rowCuts)) :: (a_g_columnCuts, .inl (ci 0, 5, .inl g_columnCuts)) :: (a_g_bandRows, .inl (ci 0, 5, .inl g_bandRows)) :: (a_g_zoneColumns, .inl (ci 0, 5, .inl g_zoneColumns)) :: (a_g_rows, .inl (ci 0, 5, .inl g_rows)) :: (a_g_sheets, .inl (ci 0, 5, .inl g_sheets)) :: Rw))) (q_R (some (.int r))) 0 0 A := by
  refine q_ofW (cc := cX1_coverSheet) (maxL := 10) (ret := (some .int)) [.ref a_bx, .int p1, .int p2, .int p3] (plainFor_of_name (by decide)) rfl (Nat.le_of_ble_eq_true rfl) ?_
  intro p e s m below meth c ls Q hQ hx hb hml hr hts hown hlocks hK hA hZ hP hD hS hl
  have hl : lv_has ls 10 [(0, .ref a_bx), (1, .int p1), (2, .int p2), (3, .int p3)] := hl
  have hown : s.vm.findClass RX1 = some m.cls := hown
  have hinX1 : ∀ w ∈ wsX10, w ∈ wsX1_coverSheet := fun _ h => List.mem_cons_of_mem _ (inWX10 _ h)
  have w_1 := hts (Cond.fieldLink RX1 24 "SheetNames$Box" "grid" "LSheetNames$Grid;") (List.mem_cons_of_mem _ t_w827)
  unfold f_Box_coverSheet at hf
  have hgo : ∀ (H : Heap) (locs : List Loc), H = s.heap → va_P D vwCl ((a_bx, .inr (1, [.ref a_g, .int bx_south, .int bx_north, .int bx_west, .int bx_east])) :: (a_g, .inr (2, [.ref a_g_rowCuts, .ref a_g_columnCuts, .ref a_g_bandRows, .ref a_g_zoneColumns, .ref a_g_rows, .ref a_g_sheets])) :: (a_g_rowCuts, .inl (ci 0, 5, .inl g_rowCuts)) :: (a_g_columnCuts, .inl (ci 0, 5, .inl g_columnCuts)) :: (a_g_bandRows, .inl (ci 0, 5, .inl g_bandRows)) :: (a_g_zoneColumns, .inl (ci 0, 5, .inl g_zoneColumns)) :: (a_g_rows, .inl (ci 0, 5, .inl g_rows)) :: (a_g_sheets, .inl (ci 0, 5, .inl g_sheets)) :: Rw) H → va_S A s.heap H locs → W p l e ({ frames := 5, cells := 0, slots := 0, locals := 125 } : Room) s m ([.ref a_bx, .int p1, .int p2, .int p3] : List Value).toArray below meth c H locs 0 0 Q (F0 m 0 ls []) := by
    intro H locs hH hP hS
    subst hH
    refine lv_iconst (pc := 0) (v := 0) hx hb dX1_coverSheet_0 (by decide) ?_
    obtain ⟨v1, ev1, hf⟩ := q_nm_e hf
    refine q_topi ev1 ?_
    refine lv_istore (pc := 1) (lv' := [(4, .int v1), (0, .ref a_bx), (1, .int p1), (2, .int p2), (3, .int p3)]) hx hb dX1_coverSheet_1 hl (by decide) rfl (fun ls hl => ?_)
    refine lv_aload_n (pc := 3) hx hb dX1_coverSheet_3 rfl (lv_at hl 1 rfl) ?_
    refine lv_iload_n (pc := 4) hx hb dX1_coverSheet_4 rfl (lv_at hl 2 rfl) ?_
    obtain ⟨v2, hm5, hf⟩ := q_b1_e hf
    refine q_cVr (pc := 5) (As := [.int p1]) (rest := []) (v0 := (some (.int v2))) ⟨hx, hb, hml, hown, hts⟩ hK hA hZ hP hD hS hl.1 [0, 1, 4, 6] 8 rfl ⟨rfl, rfl, rfl⟩ (c_Box_bottomRow l D ci A sa N (Rw) a_bx a_g a_g_rowCuts a_g_columnCuts a_g_bandRows a_g_zoneColumns a_g_rows a_g_sheets bx_south bx_north bx_west bx_east g_bandRows g_rows p1 v2 hm5) 0 rfl rfl (cwV 1 hts gX1_coverSheet_X1_bottomRow rfl rfl rfl (by decide +kernel) ⟨Nat.le_of_ble_eq_true rfl, Nat.le_of_ble_eq_true rfl⟩) rfl rfl (Nat.le_of_ble_eq_true rfl) dX1_coverSheet_5 ⟨Nat.zero_le _, Nat.zero_le _⟩ (fun locs hS => ?_)
    refine lv_istore (pc := 8) (lv' := [(5, .int v2), (4, .int v1), (0, .ref a_bx), (1, .int p1), (2, .int p2), (3, .int p3)]) hx hb dX1_coverSheet_8 hl (by decide) rfl (fun ls hl => ?_)
    refine lv_aload_n (pc := 10) hx hb dX1_coverSheet_10 rfl (lv_at hl 2 rfl) ?_
    refine lv_iload_n (pc := 11) hx hb dX1_coverSheet_11 rfl (lv_at hl 3 rfl) ?_
    obtain ⟨v3, hm12, hf⟩ := q_b1_e hf
    refine q_cVr (pc := 12) (As := [.int p1]) (rest := []) (v0 := (some (.int v3))) ⟨hx, hb, hml, hown, hts⟩ hK hA hZ hP hD hS hl.1 [0, 1, 4, 6] 8 rfl ⟨rfl, rfl, rfl⟩ (c_Box_topRow l D ci A sa N (Rw) a_bx a_g a_g_rowCuts a_g_columnCuts a_g_bandRows a_g_zoneColumns a_g_rows a_g_sheets bx_south bx_north bx_west bx_east g_bandRows g_rows p1 v3 hm12) 0 rfl rfl (cwV 1 hts gX1_coverSheet_X1_topRow rfl rfl rfl (by decide +kernel) ⟨Nat.le_of_ble_eq_true rfl, Nat.le_of_ble_eq_true rfl⟩) rfl rfl (Nat.le_of_ble_eq_true rfl) dX1_coverSheet_12 ⟨Nat.zero_le _, Nat.zero_le _⟩ (fun locs hS => ?_)
    refine lv_istore (pc := 15) (lv' := [(6, .int v3), (5, .int v2), (4, .int v1), (0, .ref a_bx), (1, .int p1), (2, .int p2), (3, .int p3)]) hx hb dX1_coverSheet_15 hl (by decide) rfl (fun ls hl => ?_)
    obtain ⟨k17, o17_, ek17, hm17, hk17⟩ := q_s0_k hf
    have JE17 : ∀  (H : Heap) (locs : List Loc) (ls : Array Slot), k17 = some r → H = s.heap → va_S A s.heap H locs → lv_has ls 10 [] → W p l e ({ frames := 5, cells := 0, slots := 0, locals := 125 } : Room) s m ([.ref a_bx, .int p1, .int p2, .int p3] : List Value).toArray below meth c H locs 0 0 Q (F0 m 105 ls []) := by
      intro  H locs ls hf hHs hS hl
      subst hHs
      have hf := (ek17).symm.trans hf
      refine lv_iconst (pc := 105) (v := (-1)) hx hb dX1_coverSheet_105 (by decide) ?_
      obtain rfl := Option.some.inj hf
      rw [hQ]
      exact q_iretr (pc := 106) hx hb hr hlocks rfl hS dX1_coverSheet_106
    have LP17 : ∀ (n17 : Nat) (v4 : Int32) (v5 : Int32) (H : Heap) (locs : List Loc) (ls : Array Slot), f_Box_coverSheet_L17 N bx_east bx_north bx_south bx_west g_bandRows g_columnCuts g_rowCuts g_rows g_sheets g_zoneColumns p1 p2 p3 v2 n17 v4 v5 = some o17_ → H = s.heap → va_S A s.heap H locs → lv_has ls 10 [(0, .ref a_bx), (1, .int p1), (2, .int p2), (3, .int p3), (4, .int v4), (5, .int v2), (6, .int v5)] → W p l e ({ frames := 5, cells := 0, slots := 0, locals := 125 } : Room) s m ([.ref a_bx, .int p1, .int p2, .int p3] : List Value).toArray below meth c H locs 0 0 Q (F0 m 17 ls []) := by
      intro n17
      induction n17 with
      | zero => intro v4 v5 H locs ls hf; rw [f_Box_coverSheet_L17] at hf; cases hf
      | succ n17 ih17 =>
        intro v4 v5 H locs ls hf hHs hS hl
        subst hHs
        rw [f_Box_coverSheet_L17] at hf
        refine lv_iload (pc := 17) hx hb dX1_coverSheet_17 (lv_at hl 6 rfl) ?_
        refine lv_iload (pc := 19) hx hb dX1_coverSheet_19 (lv_at hl 5 rfl) ?_
        refine q_icmp_gt (pc := 21) (tgt := 105) hx hb dX1_coverSheet_21 (by decide) rfl hf (fun hf => ?_) (fun hf => ?_)
        · obtain rfl := Option.some.inj hf
          exact JE17  _ _ _ hk17 rfl hS (lv_sub hl [] rfl)
        · refine lv_aload_n (pc := 24) hx hb dX1_coverSheet_24 rfl (lv_at hl 0 rfl) ?_
          refine lv_iload_n (pc := 25) hx hb dX1_coverSheet_25 rfl (lv_at hl 1 rfl) ?_
          refine lv_iload (pc := 26) hx hb dX1_coverSheet_26 (lv_at hl 6 rfl) ?_
          obtain ⟨v6, hm28, hf⟩ := q_b1_e hf
          refine q_cVr (pc := 28) (As := [.int p1, .int v5]) (rest := []) (v0 := (some (.int v6))) ⟨hx, hb, hml, hown, hts⟩ hK hA hZ hP hD hS hl.1 [0, 1, 4, 5, 6] 8 rfl ⟨rfl, rfl, rfl⟩ (c_Box_inRow l D ci A sa N (Rw) a_bx a_g a_g_rowCuts a_g_columnCuts a_g_bandRows a_g_zoneColumns a_g_rows a_g_sheets bx_south bx_north bx_west bx_east g_bandRows g_zoneColumns g_rows p1 v5 v6 hm28) 0 rfl rfl (cwV 2 hts gX1_coverSheet_X1_inRow rfl rfl rfl (by decide +kernel) ⟨Nat.le_of_ble_eq_true rfl, Nat.le_of_ble_eq_true rfl⟩) rfl rfl (Nat.le_of_ble_eq_true rfl) dX1_coverSheet_28 ⟨Nat.zero_le _, Nat.zero_le _⟩ (fun locs hS => ?_)
          refine lv_istore (pc := 31) (lv' := [(7, .int v6), (0, .ref a_bx), (1, .int p1), (2, .int p2), (3, .int p3), (4, .int v4), (5, .int v2), (6, .int v5)]) hx hb dX1_coverSheet_31 hl (by decide) rfl (fun ls hl => ?_)
          refine lv_iconst (pc := 33) (v := 0) hx hb dX1_coverSheet_33 (by decide) ?_
          obtain ⟨v7, ev7, hf⟩ := q_nm_e hf
          refine q_topi ev7 ?_
          refine lv_istore (pc := 34) (lv' := [(8, .int v7), (7, .int v6), (0, .ref a_bx), (1, .int p1), (2, .int p2), (3, .int p3), (4, .int v4), (5, .int v2), (6, .int v5)]) hx hb dX1_coverSheet_34 hl (by decide) rfl (fun ls hl => ?_)
          obtain ⟨k36, o36_, ek36, hm36, hk36⟩ := q_s1_k hf
          have JE36 : ∀ (v10 : Int32) (H : Heap) (locs : List Loc) (ls : Array Slot), k36 v10 = some o17_ → H = s.heap → va_S A s.heap H locs → lv_has ls 10 [(0, .ref a_bx), (1, .int p1), (2, .int p2), (3, .int p3), (4, .int v10), (5, .int v2), (6, .int v5)] → W p l e ({ frames := 5, cells := 0, slots := 0, locals := 125 } : Room) s m ([.ref a_bx, .int p1, .int p2, .int p3] : List Value).toArray below meth c H locs 0 0 Q (F0 m 99 ls []) := by
            intro v10 H locs ls hf hHs hS hl
            subst hHs
            have hf := (ek36 v10).symm.trans hf
            obtain ⟨v11, ev11, hf⟩ := q_nm_e hf
            refine lv_iinc (pc := 99) (v := v11) (lv' := [(6, .int v11), (0, .ref a_bx), (1, .int p1), (2, .int p2), (3, .int p3), (4, .int v10), (5, .int v2)]) hx hb dX1_coverSheet_99 hl (k := 6) rfl (by rw [ev11]; rfl) (by decide) rfl (fun ls hl => ?_)
            refine lv_goto (pc := 102) (tgt := 17) hx hb dX1_coverSheet_102 (by decide) ?_
            exact ih17 v10 v11 _ _ _ hf rfl hS (lv_sub hl [1, 2, 3, 4, 5, 6, 0] rfl)
          have LP36 : ∀ (n36 : Nat) (v8 : Int32) (v9 : Int32) (H : Heap) (locs : List Loc) (ls : Array Slot), f_Box_coverSheet_L36 bx_east bx_north bx_south bx_west g_bandRows g_columnCuts g_rowCuts g_rows g_sheets g_zoneColumns p1 p2 p3 v5 v6 n36 v8 v9 = some o36_ → H = s.heap → va_S A s.heap H locs → lv_has ls 10 [(0, .ref a_bx), (1, .int p1), (2, .int p2), (3, .int p3), (4, .int v8), (5, .int v2), (6, .int v5), (7, .int v6), (8, .int v9)] → W p l e ({ frames := 5, cells := 0, slots := 0, locals := 125 } : Room) s m ([.ref a_bx, .int p1, .int p2, .int p3] : List Value).toArray below meth c H locs 0 0 Q (F0 m 36 ls []) := by
            intro n36
            induction n36 with
            | zero => intro v8 v9 H locs ls hf; rw [f_Box_coverSheet_L36] at hf; cases hf
            | succ n36 ih36 =>
              intro v8 v9 H locs ls hf hHs hS hl
              subst hHs
              rw [f_Box_coverSheet_L36] at hf
              refine lv_iload (pc := 36) hx hb dX1_coverSheet_36 (lv_at hl 8 rfl) ?_
              refine lv_iload (pc := 38) hx hb dX1_coverSheet_38 (lv_at hl 7 rfl) ?_
              refine q_icmp_ge (pc := 40) (tgt := 99) hx hb dX1_coverSheet_40 (by decide) rfl hf (fun hf => ?_) (fun hf => ?_)
              · obtain rfl := Option.some.inj hf
                exact JE36 v8 _ _ _ hk36 rfl hS (lv_sub hl [0, 1, 2, 3, 4, 5, 6] rfl)
              · refine lv_aload_n (pc := 43) hx hb dX1_coverSheet_43 rfl (lv_at hl 0 rfl) ?_
                refine lv_iload_n (pc := 44) hx hb dX1_coverSheet_44 rfl (lv_at hl 1 rfl) ?_
                refine lv_iload (pc := 45) hx hb dX1_coverSheet_45 (lv_at hl 6 rfl) ?_
                refine lv_iload (pc := 47) hx hb dX1_coverSheet_47 (lv_at hl 8 rfl) ?_
                obtain ⟨v12, hm49, hf⟩ := q_b1_e hf
                refine q_cVr (pc := 49) (As := [.int p1, .int v5, .int v9]) (rest := []) (v0 := (some (.int v12))) ⟨hx, hb, hml, hown, hts⟩ hK hA hZ hP hD hS hl.1 [0, 1, 4, 5, 6] 8 rfl ⟨rfl, rfl, rfl⟩ (c_Box_placeByKeys l D ci A sa N (Rw) a_bx a_g a_g_rowCuts a_g_columnCuts a_g_bandRows a_g_zoneColumns a_g_rows a_g_sheets bx_south bx_north bx_west bx_east g_bandRows g_zoneColumns g_rows p1 v5 v9 v12 hm49) 0 rfl rfl (cwV 3 hts gX1_coverSheet_X1_placeByKeys rfl rfl rfl (by decide +kernel) ⟨Nat.le_of_ble_eq_true rfl, Nat.le_of_ble_eq_true rfl⟩) rfl rfl (Nat.le_of_ble_eq_true rfl) dX1_coverSheet_49 ⟨Nat.zero_le _, Nat.zero_le _⟩ (fun locs hS => ?_)
                refine lv_istore (pc := 52) (lv' := [(9, .int v12), (0, .ref a_bx), (1, .int p1), (2, .int p2), (3, .int p3), (4, .int v8), (5, .int v2), (6, .int v5), (7, .int v6), (8, .int v9)]) hx hb dX1_coverSheet_52 hl (by decide) rfl (fun ls hl => ?_)
                refine lv_aload_n (pc := 54) hx hb dX1_coverSheet_54 rfl (lv_at hl 1 rfl) ?_
                refine lv_iload_n (pc := 55) hx hb dX1_coverSheet_55 rfl (lv_at hl 2 rfl) ?_
                refine lv_iload (pc := 56) hx hb dX1_coverSheet_56 (lv_at hl 7 rfl) ?_
                refine lv_iload (pc := 58) hx hb dX1_coverSheet_58 (lv_at hl 0 rfl) ?_
                refine lv_iload_n (pc := 60) hx hb dX1_coverSheet_60 rfl (lv_at hl 3 rfl) ?_
                obtain ⟨v13, hm61, hf⟩ := q_b1_e hf
                refine q_cVr (pc := 61) (As := [.int p1, .int v5, .int v12, .int p2]) (rest := []) (v0 := (some (.int v13))) ⟨hx, hb, hml, hown, hts⟩ hK hA hZ hP hD hS hl.1 [0, 1, 2, 3, 4, 5, 6] 8 rfl ⟨rfl, rfl, rfl⟩ (c_Box_isCover l D ci A sa N (Rw) a_bx a_g a_g_rowCuts a_g_columnCuts a_g_bandRows a_g_zoneColumns a_g_rows a_g_sheets bx_south bx_north bx_west bx_east g_rowCuts g_columnCuts g_bandRows g_zoneColumns g_rows p1 v5 v12 p2 v13 hm61) 0 rfl rfl (cwV 4 hts gX1_coverSheet_X1_isCover rfl rfl rfl (by decide +kernel) ⟨Nat.le_of_ble_eq_true rfl, Nat.le_of_ble_eq_true rfl⟩) rfl rfl (Nat.le_of_ble_eq_true rfl) dX1_coverSheet_61 ⟨Nat.zero_le _, Nat.zero_le _⟩ (fun locs hS => ?_)
                obtain ⟨k93, ek93, hf⟩ := q_j1_e hf
                have J93 : ∀ (v14 : Int32) (H : Heap) (locs : List Loc) (ls : Array Slot), k93 v14 = some o36_ → H = s.heap → va_S A s.heap H locs → lv_has ls 10 [(0, .ref a_bx), (1, .int p1), (2, .int p2), (3, .int p3), (4, .int v14), (5, .int v2), (6, .int v5), (7, .int v6), (8, .int v9)] → W p l e ({ frames := 5, cells := 0, slots := 0, locals := 125 } : Room) s m ([.ref a_bx, .int p1, .int p2, .int p3] : List Value).toArray below meth c H locs 0 0 Q (F0 m 93 ls []) := by
                  intro v14 H locs ls hf hHs hS hl
                  subst hHs
                  have hf := (ek93 v14).symm.trans hf
                  obtain ⟨v15, ev15, hf⟩ := q_nm_e hf
                  refine lv_iinc (pc := 93) (v := v15) (lv' := [(8, .int v15), (0, .ref a_bx), (1, .int p1), (2, .int p2), (3, .int p3), (4, .int v14), (5, .int v2), (6, .int v5), (7, .int v6)]) hx hb dX1_coverSheet_93 hl (k := 8) rfl (by rw [ev15]; rfl) (by decide) rfl (fun ls hl => ?_)
                  refine lv_goto (pc := 96) (tgt := 36) hx hb dX1_coverSheet_96 (by decide) ?_
                  exact ih36 v14 v15 _ _ _ hf rfl hS (lv_sub hl [1, 2, 3, 4, 5, 6, 7, 8, 0] rfl)
                refine q_if_ne (pc := 64) (tgt := 70) hx hb dX1_coverSheet_64 (by decide) rfl hf (fun hf => ?_) (fun hf => ?_)
                · refine lv_iload (pc := 70) hx hb dX1_coverSheet_70 (lv_at hl 5 rfl) ?_
                  refine lv_iload_n (pc := 72) hx hb dX1_coverSheet_72 rfl (lv_at hl 4 rfl) ?_
                  refine q_icmp_ne (pc := 73) (tgt := 90) hx hb dX1_coverSheet_73 (by decide) rfl hf (fun hf => ?_) (fun hf => ?_)
                  · obtain ⟨v16, ev16, hf⟩ := q_nm_e hf
                    refine lv_iinc (pc := 90) (v := v16) (lv' := [(4, .int v16), (9, .int v12), (0, .ref a_bx), (1, .int p1), (2, .int p2), (3, .int p3), (5, .int v2), (6, .int v5), (7, .int v6), (8, .int v9)]) hx hb dX1_coverSheet_90 hl (k := 5) rfl (by rw [ev16]; rfl) (by decide) rfl (fun ls hl => ?_)
                    exact J93 v16 _ _ _ hf rfl hS (lv_sub hl [2, 3, 4, 5, 0, 6, 7, 8, 9] rfl)
                  · refine lv_aload_n (pc := 76) hx hb dX1_coverSheet_76 rfl (lv_at hl 1 rfl) ?_
                    refine va_get (pc := 77) (D := D) (ci := 1) (v := .ref a_g) (C := RX1) (T := TX1) (N := 5) hx hb hts hinX1 hown hK hP 0 rfl rfl 0 (by decide) w_1 (fun _ h9 => h9) rfl dX1_coverSheet_77 ?_
                    refine lv_iload_n (pc := 80) hx hb dX1_coverSheet_80 rfl (lv_at hl 2 rfl) ?_
                    refine lv_iload (pc := 81) hx hb dX1_coverSheet_81 (lv_at hl 7 rfl) ?_
                    obtain ⟨v17, hm83, hf⟩ := q_b1_e hf
                    refine q_cVr (pc := 83) (As := [.int p1, .int v5]) (rest := []) (v0 := (some (.int v17))) ⟨hx, hb, hml, hown, hts⟩ hK hA hZ hP hD hS hl.1 [1, 4, 5, 6, 7] 8 rfl ⟨rfl, rfl, rfl⟩ (c_Grid_rowStart l D ci A sa N (Rw) a_g a_g_rowCuts a_g_columnCuts a_g_bandRows a_g_zoneColumns a_g_rows a_g_sheets g_bandRows g_zoneColumns g_rows g_sheets p1 v5 v17 hm83) 1 rfl rfl (cwV 2 hts gX1_coverSheet_X2_rowStart rfl rfl rfl (by decide +kernel) ⟨Nat.le_of_ble_eq_true rfl, Nat.le_of_ble_eq_true rfl⟩) rfl rfl (Nat.le_of_ble_eq_true rfl) dX1_coverSheet_83 ⟨Nat.zero_le _, Nat.zero_le _⟩ (fun locs hS => ?_)
                    refine lv_iload (pc := 86) hx hb dX1_coverSheet_86 (lv_at hl 0 rfl) ?_
                    refine lv_iadd (pc := 88) hx hb dX1_coverSheet_88 ?_
                    obtain rfl := Option.some.inj hf
                    have hk36 : ((.inr (v17 + v12)) : (Unit) ⊕ (Int32)) = o17_ := hk36
                    obtain rfl := hk36
                    have hk17 : ((v17 + v12) : Int32) = r := hk17
                    obtain rfl := hk17
                    rw [hQ]
                    exact q_iretr (pc := 89) hx hb hr hlocks rfl hS dX1_coverSheet_89
                · refine lv_goto (pc := 67) (tgt := 93) hx hb dX1_coverSheet_67 (by decide) ?_
                  exact J93 v8 _ _ _ hf rfl hS (lv_sub hl [1, 2, 3, 4, 5, 6, 7, 8, 9] rfl)
          exact LP36 N v4 v7 _ _ _ hm36 rfl hS (lv_sub hl [2, 3, 4, 5, 6, 7, 8, 1, 0] rfl)
    exact LP17 N v1 v3 _ _ _ hm17 rfl hS (lv_sub hl [3, 4, 5, 6, 2, 1, 0] rfl)
  exact hgo _ _ rfl hP hS
/-! X1_keyFromWest -/
set_option maxRecDepth 100000 in
set_option maxHeartbeats 4000000 in
theorem c_Box_keyFromWest (l : Launch) (D : va_G) (ci : Nat → ClassId) (A : Nat → Prop) (sa : Nat → Nat) (N : Nat) (Rw : va_W) (a_bx : Nat) (a_g : Nat) (a_g_rowCuts : Nat) (a_g_columnCuts : Nat) (a_g_bandRows : Nat) (a_g_zoneColumns : Nat) (a_g_rows : Nat) (a_g_sheets : Nat) (bx_south : Int32) (bx_north : Int32) (bx_west : Int32) (bx_east : Int32) (g_bandRows : Nat → Int32) (g_zoneColumns : Nat → Int32) (g_rows : Nat → Int32) (g_sheets : Nat → Int32) (p1 : Int32) (p2 : Int32) (p3 : Int32) (r : Int32) (hf : f_Box_keyFromWest bx_west g_bandRows g_zoneColumns g_rows g_sheets p1 p2 p3 = some r) : Met l yX1_keyFromWest wsX1_keyFromWest ({ frames := 2, cells := 0, slots := 0, locals := 45 }) (va_Pc [.ref a_bx, .int p1, .int p2, .int p3] (q_N D ci A sa ((a_bx, .inr (1, [.ref a_g, .int bx_south, .int bx_north, .int bx_west, .int bx_east])) :: (a_g, .inr (2, [.ref a_g_rowCuts, .ref a_g_columnCuts, .ref a_g_bandRows, .ref a_g_zoneColumns, .ref a_g_rows, .ref a_g_sheets])) :: (a_g_bandRows, .inl (ci 0, 5, .inl g_bandRows)) :: (a_g_zoneColumns, .inl (ci 0, 5, .inl g_zoneColumns)) :: (a_g_rows, .inl (ci 0, 5, .inl g_rows)) :: (a_g_sheets, .inl (ci 0, 5, .inl g_sheets)) :: Rw))) (q_R (some (.int r))) 0 0 A := by
  refine q_ofW (cc := cX1_keyFromWest) (maxL := 5) (ret := (some .int)) [.ref a_bx, .int p1, .int p2, .int p3] (plainFor_of_name (by decide)) rfl (Nat.le_of_ble_eq_true rfl) ?_
  intro p e s m below meth c ls Q hQ hx hb hml hr hts hown hlocks hK hA hZ hP hD hS hl
  have hl : lv_has ls 5 [(0, .ref a_bx), (1, .int p1), (2, .int p2), (3, .int p3)] := hl
  have hown : s.vm.findClass RX1 = some m.cls := hown
  have hinX1 : ∀ w ∈ wsX10, w ∈ wsX1_keyFromWest := fun _ h => List.mem_cons_of_mem _ (inWX10 _ h)
  have w_1 := hts (Cond.fieldLink RX1 24 "SheetNames$Box" "grid" "LSheetNames$Grid;") (List.mem_cons_of_mem _ t_w827)
  have w_2 := hts (Cond.fieldLink RX1 18 "SheetNames$Box" "west" "I") (List.mem_cons_of_mem _ t_w832)
  unfold f_Box_keyFromWest at hf
  have hgo : ∀ (H : Heap) (locs : List Loc), H = s.heap → va_P D vwCl ((a_bx, .inr (1, [.ref a_g, .int bx_south, .int bx_north, .int bx_west, .int bx_east])) :: (a_g, .inr (2, [.ref a_g_rowCuts, .ref a_g_columnCuts, .ref a_g_bandRows, .ref a_g_zoneColumns, .ref a_g_rows, .ref a_g_sheets])) :: (a_g_bandRows, .inl (ci 0, 5, .inl g_bandRows)) :: (a_g_zoneColumns, .inl (ci 0, 5, .inl g_zoneColumns)) :: (a_g_rows, .inl (ci 0, 5, .inl g_rows)) :: (a_g_sheets, .inl (ci 0, 5, .inl g_sheets)) :: Rw) H → va_S A s.heap H locs → W p l e ({ frames := 2, cells := 0, slots := 0, locals := 45 } : Room) s m ([.ref a_bx, .int p1, .int p2, .int p3] : List Value).toArray below meth c H locs 0 0 Q (F0 m 0 ls []) := by
    intro H locs hH hP hS
    subst hH
    refine lv_aload_n (pc := 0) hx hb dX1_keyFromWest_0 rfl (lv_at hl 0 rfl) ?_
    refine va_get (pc := 1) (D := D) (ci := 1) (v := .ref a_g) (C := RX1) (T := TX1) (N := 5) hx hb hts hinX1 hown hK hP 0 rfl rfl 0 (by decide) w_1 (fun _ h9 => h9) rfl dX1_keyFromWest_1 ?_
    refine lv_iload_n (pc := 4) hx hb dX1_keyFromWest_4 rfl (lv_at hl 1 rfl) ?_
    refine lv_iload_n (pc := 5) hx hb dX1_keyFromWest_5 rfl (lv_at hl 2 rfl) ?_
    refine lv_aload_n (pc := 6) hx hb dX1_keyFromWest_6 rfl (lv_at hl 0 rfl) ?_
    refine va_get (pc := 7) (D := D) (ci := 1) (v := .int bx_west) (C := RX1) (T := TX1) (N := 5) hx hb hts hinX1 hown hK hP 0 rfl rfl 3 (by decide) w_2 (fun _ h9 => h9) rfl dX1_keyFromWest_7 ?_
    obtain ⟨v1, hm10, hf⟩ := q_b1_e hf
    refine q_cVr (pc := 10) (As := [.int p1, .int p2, .int bx_west]) (rest := []) (v0 := (some (.int v1))) ⟨hx, hb, hml, hown, hts⟩ hK hA hZ hP hD hS hl.1 [1, 2, 3, 4] 6 rfl ⟨rfl, rfl, rfl⟩ (c_Grid_placeOfLon l D ci A sa N (Rw) a_g a_g_rowCuts a_g_columnCuts a_g_bandRows a_g_zoneColumns a_g_rows a_g_sheets g_bandRows g_zoneColumns g_rows p1 p2 bx_west v1 hm10) 1 rfl rfl (cwV 3 hts gX1_keyFromWest_X2_placeOfLon rfl rfl rfl (by decide +kernel) ⟨Nat.le_of_ble_eq_true rfl, Nat.le_of_ble_eq_true rfl⟩) rfl rfl (Nat.le_of_ble_eq_true rfl) dX1_keyFromWest_10 ⟨Nat.zero_le _, Nat.zero_le _⟩ (fun locs hS => ?_)
    refine lv_istore (pc := 13) (lv' := [(4, .int v1), (0, .ref a_bx), (1, .int p1), (2, .int p2), (3, .int p3)]) hx hb dX1_keyFromWest_13 hl (by decide) rfl (fun ls hl => ?_)
    refine lv_aload_n (pc := 15) hx hb dX1_keyFromWest_15 rfl (lv_at hl 1 rfl) ?_
    refine va_get (pc := 16) (D := D) (ci := 1) (v := .ref a_g) (C := RX1) (T := TX1) (N := 5) hx hb hts hinX1 hown hK hP 0 rfl rfl 0 (by decide) w_1 (fun _ h9 => h9) rfl dX1_keyFromWest_16 ?_
    refine lv_iload_n (pc := 19) hx hb dX1_keyFromWest_19 rfl (lv_at hl 2 rfl) ?_
    refine lv_iload_n (pc := 20) hx hb dX1_keyFromWest_20 rfl (lv_at hl 3 rfl) ?_
    obtain ⟨v2, hm21, hf⟩ := q_b1_e hf
    refine q_cVr (pc := 21) (As := [.int p1, .int p2]) (rest := []) (v0 := (some (.int v2))) ⟨hx, hb, hml, hown, hts⟩ hK hA hZ hP hD hS hl.1 [1, 2, 3, 4, 5] 6 rfl ⟨rfl, rfl, rfl⟩ (c_Grid_rowStart l D ci A sa N (Rw) a_g a_g_rowCuts a_g_columnCuts a_g_bandRows a_g_zoneColumns a_g_rows a_g_sheets g_bandRows g_zoneColumns g_rows g_sheets p1 p2 v2 hm21) 1 rfl rfl (cwV 2 hts gX1_keyFromWest_X2_rowStart rfl rfl rfl (by decide +kernel) ⟨Nat.le_of_ble_eq_true rfl, Nat.le_of_ble_eq_true rfl⟩) rfl rfl (Nat.le_of_ble_eq_true rfl) dX1_keyFromWest_21 ⟨Nat.zero_le _, Nat.zero_le _⟩ (fun locs hS => ?_)
    refine lv_iload (pc := 24) hx hb dX1_keyFromWest_24 (lv_at hl 0 rfl) ?_
    refine lv_iload_n (pc := 26) hx hb dX1_keyFromWest_26 rfl (lv_at hl 4 rfl) ?_
    refine lv_iadd (pc := 27) hx hb dX1_keyFromWest_27 ?_
    refine lv_aload_n (pc := 28) hx hb dX1_keyFromWest_28 rfl (lv_at hl 1 rfl) ?_
    refine va_get (pc := 29) (D := D) (ci := 1) (v := .ref a_g) (C := RX1) (T := TX1) (N := 5) hx hb hts hinX1 hown hK hP 0 rfl rfl 0 (by decide) w_1 (fun _ h9 => h9) rfl dX1_keyFromWest_29 ?_
    refine lv_iload_n (pc := 32) hx hb dX1_keyFromWest_32 rfl (lv_at hl 2 rfl) ?_
    refine lv_iload_n (pc := 33) hx hb dX1_keyFromWest_33 rfl (lv_at hl 3 rfl) ?_
    obtain ⟨v3, hm34, hf⟩ := q_b1_e hf
    refine q_cVr (pc := 34) (As := [.int p1, .int p2]) (rest := [.int (v1 + p3), .int v2]) (v0 := (some (.int v3))) ⟨hx, hb, hml, hown, hts⟩ hK hA hZ hP hD hS hl.1 [1, 2, 3, 4] 6 rfl ⟨rfl, rfl, rfl⟩ (c_Grid_rowLength l D ci A sa N (Rw) a_g a_g_rowCuts a_g_columnCuts a_g_bandRows a_g_zoneColumns a_g_rows a_g_sheets g_bandRows g_zoneColumns g_rows p1 p2 v3 hm34) 1 rfl rfl (cwV 2 hts gX1_keyFromWest_X2_rowLength rfl rfl rfl (by decide +kernel) ⟨Nat.le_of_ble_eq_true rfl, Nat.le_of_ble_eq_true rfl⟩) rfl rfl (Nat.le_of_ble_eq_true rfl) dX1_keyFromWest_34 ⟨Nat.zero_le _, Nat.zero_le _⟩ (fun locs hS => ?_)
    refine q_irem (pc := 37) hx hb dX1_keyFromWest_37 hf (fun v4 hf => ?_)
    refine lv_iadd (pc := 38) hx hb dX1_keyFromWest_38 ?_
    obtain rfl := Option.some.inj hf
    rw [hQ]
    exact q_iretr (pc := 39) hx hb hr hlocks rfl hS dX1_keyFromWest_39
  exact hgo _ _ rfl hP hS
/-! X1_set -/
set_option maxRecDepth 100000 in
set_option maxHeartbeats 4000000 in
theorem c_Box_set (l : Launch) (D : va_G) (ci : Nat → ClassId) (A : Nat → Prop) (sa : Nat → Nat) (N : Nat) (Rw : va_W) (a_bx : Nat) (a_g : Nat) (bx_south : Int32) (bx_north : Int32) (bx_west : Int32) (bx_east : Int32) (p1 : Int32) (p2 : Int32) (p3 : Int32) (p4 : Int32) (o1 : Int32) (o2 : Int32) (o3 : Int32) (o4 : Int32) (hf : f_Box_set bx_south bx_north bx_west bx_east p1 p2 p3 p4 = some (o1, o2, o3, o4)) : Met l yX1_set wsX1_set ({ frames := 0, cells := 0, slots := 0, locals := 0 }) (va_Pc [.ref a_bx, .int p1, .int p2, .int p3, .int p4] (q_N D ci A sa ((a_bx, .inr (1, [.ref a_g, .int bx_south, .int bx_north, .int bx_west, .int bx_east])) :: Rw))) (q_Q none (q_O D A ((a_bx, .inr (1, [.ref a_g, .int o1, .int o2, .int o3, .int o4])) :: Rw)) A) 0 0 A := by
  refine q_ofW (cc := cX1_set) (maxL := 5) (ret := none) [.ref a_bx, .int p1, .int p2, .int p3, .int p4] (plainFor_of_name (by decide)) rfl (Nat.le_of_ble_eq_true rfl) ?_
  intro p e s m below meth c ls Q hQ hx hb hml hr hts hown hlocks hK hA hZ hP hD hS hl
  have hl : lv_has ls 5 [(0, .ref a_bx), (1, .int p1), (2, .int p2), (3, .int p3), (4, .int p4)] := hl
  have hown : s.vm.findClass RX1 = some m.cls := hown
  have hinX1 : ∀ w ∈ wsX10, w ∈ wsX1_set := fun _ h => List.mem_cons_of_mem _ (inWX10 _ h)
  have w_1 := hts (Cond.fieldLink RX1 9 "SheetNames$Box" "south" "I") (List.mem_cons_of_mem _ t_w828)
  have w_2 := hts (Cond.fieldLink RX1 15 "SheetNames$Box" "north" "I") (List.mem_cons_of_mem _ t_w830)
  have w_3 := hts (Cond.fieldLink RX1 18 "SheetNames$Box" "west" "I") (List.mem_cons_of_mem _ t_w832)
  have w_4 := hts (Cond.fieldLink RX1 21 "SheetNames$Box" "east" "I") (List.mem_cons_of_mem _ t_w833)
  unfold f_Box_set at hf
  have hgo : ∀ (H : Heap) (locs : List Loc), H = s.heap → va_P D vwCl ((a_bx, .inr (1, [.ref a_g, .int bx_south, .int bx_north, .int bx_west, .int bx_east])) :: Rw) H → va_S A s.heap H locs → W p l e ({ frames := 0, cells := 0, slots := 0, locals := 0 } : Room) s m ([.ref a_bx, .int p1, .int p2, .int p3, .int p4] : List Value).toArray below meth c H locs 0 0 Q (F0 m 0 ls []) := by
    intro H locs hH hP hS
    refine lv_aload_n (pc := 0) hx hb dX1_set_0 rfl (lv_at hl 0 rfl) ?_
    refine lv_iload_n (pc := 1) hx hb dX1_set_1 rfl (lv_at hl 1 rfl) ?_
    refine va_put (pc := 2) (D := D) (ci := 1) (v := .int p1) (ty := .int) (C := RX1) (T := TX1) (N := 5) hx hb hts hinX1 tyX1 tyX1_ok nmX1 hown hK hP hD hS 0 rfl rfl 1 (by decide) w_1 (fun _ h9 => h9) rfl (by decide +kernel) rfl rfl (Nat.le_of_ble_eq_true rfl) dX1_set_2 (fun H locs hP hD hS => ?_)
    obtain ⟨hP, hD⟩ : va_PD D A ((a_bx, .inr (1, [.ref a_g, .int p1, .int bx_north, .int bx_west, .int bx_east])) :: Rw) H := ⟨hP, hD⟩
    refine lv_aload_n (pc := 5) hx hb dX1_set_5 rfl (lv_at hl 0 rfl) ?_
    refine lv_iload_n (pc := 6) hx hb dX1_set_6 rfl (lv_at hl 2 rfl) ?_
    refine va_put (pc := 7) (D := D) (ci := 1) (v := .int p2) (ty := .int) (C := RX1) (T := TX1) (N := 5) hx hb hts hinX1 tyX1 tyX1_ok nmX1 hown hK hP hD hS 0 rfl rfl 2 (by decide) w_2 (fun _ h9 => h9) rfl (by decide +kernel) rfl rfl (Nat.le_of_ble_eq_true rfl) dX1_set_7 (fun H locs hP hD hS => ?_)
    obtain ⟨hP, hD⟩ : va_PD D A ((a_bx, .inr (1, [.ref a_g, .int p1, .int p2, .int bx_west, .int bx_east])) :: Rw) H := ⟨hP, hD⟩
    refine lv_aload_n (pc := 10) hx hb dX1_set_10 rfl (lv_at hl 0 rfl) ?_
    refine lv_iload_n (pc := 11) hx hb dX1_set_11 rfl (lv_at hl 3 rfl) ?_
    refine va_put (pc := 12) (D := D) (ci := 1) (v := .int p3) (ty := .int) (C := RX1) (T := TX1) (N := 5) hx hb hts hinX1 tyX1 tyX1_ok nmX1 hown hK hP hD hS 0 rfl rfl 3 (by decide) w_3 (fun _ h9 => h9) rfl (by decide +kernel) rfl rfl (Nat.le_of_ble_eq_true rfl) dX1_set_12 (fun H locs hP hD hS => ?_)
    obtain ⟨hP, hD⟩ : va_PD D A ((a_bx, .inr (1, [.ref a_g, .int p1, .int p2, .int p3, .int bx_east])) :: Rw) H := ⟨hP, hD⟩
    refine lv_aload_n (pc := 15) hx hb dX1_set_15 rfl (lv_at hl 0 rfl) ?_
    refine lv_iload (pc := 16) hx hb dX1_set_16 (lv_at hl 4 rfl) ?_
    refine va_put (pc := 18) (D := D) (ci := 1) (v := .int p4) (ty := .int) (C := RX1) (T := TX1) (N := 5) hx hb hts hinX1 tyX1 tyX1_ok nmX1 hown hK hP hD hS 0 rfl rfl 4 (by decide) w_4 (fun _ h9 => h9) rfl (by decide +kernel) rfl rfl (Nat.le_of_ble_eq_true rfl) dX1_set_18 (fun H locs hP hD hS => ?_)
    obtain ⟨hP, hD⟩ : va_PD D A ((a_bx, .inr (1, [.ref a_g, .int p1, .int p2, .int p3, .int p4])) :: Rw) H := ⟨hP, hD⟩
    obtain ⟨e90, e91, e92, e93⟩ := q_inj4 (Option.some.inj hf)
    rw [hQ, ← e90, ← e91, ← e92, ← e93]
    exact q_vret (pc := 21) hx hb hr hlocks hP hD hS dX1_set_21
  exact hgo _ _ rfl hP hS
/-! X1_sheetAt -/
set_option maxRecDepth 100000 in
set_option maxHeartbeats 4000000 in
theorem c_Box_sheetAt (l : Launch) (D : va_G) (ci : Nat → ClassId) (A : Nat → Prop) (sa : Nat → Nat) (N : Nat) (Rw : va_W) (a_bx : Nat) (a_g : Nat) (a_g_rowCuts : Nat) (a_g_columnCuts : Nat) (a_g_bandRows : Nat) (a_g_zoneColumns : Nat) (a_g_rows : Nat) (a_g_sheets : Nat) (bx_south : Int32) (bx_north : Int32) (bx_west : Int32) (bx_east : Int32) (g_bandRows : Nat → Int32) (g_zoneColumns : Nat → Int32) (g_rows : Nat → Int32) (g_sheets : Nat → Int32) (p1 : Int32) (p2 : Int32) (r : Int32) (hf : f_Box_sheetAt N bx_south bx_north bx_west bx_east g_bandRows g_zoneColumns g_rows g_sheets p1 p2 = some r) : Met l yX1_sheetAt wsX1_sheetAt ({ frames := 4, cells := 0, slots := 0, locals := 93 }) (va_Pc [.ref a_bx, .int p1, .int p2] (q_N D ci A sa ((a_bx, .inr (1, [.ref a_g, .int bx_south, .int bx_north, .int bx_west, .int bx_east])) :: (a_g, .inr (2, [.ref a_g_rowCuts, .ref a_g_columnCuts, .ref a_g_bandRows, .ref a_g_zoneColumns, .ref a_g_rows, .ref a_g_sheets])) :: (a_g_bandRows, .inl (ci 0, 5, .inl g_bandRows)) :: (a_g_zoneColumns, .inl (ci 0, 5, .inl g_zoneColumns)) :: (a_g_rows, .inl (ci 0, 5, .inl g_rows)) :: (a_g_sheets, .inl (ci 0, 5, .inl g_sheets)) :: Rw))) (q_R (some (.int r))) 0 0 A := by
  refine q_ofW (cc := cX1_sheetAt) (maxL := 9) (ret := (some .int)) [.ref a_bx, .int p1, .int p2] (plainFor_of_name (by decide)) rfl (Nat.le_of_ble_eq_true rfl) ?_
  intro p e s m below meth c ls Q hQ hx hb hml hr hts hown hlocks hK hA hZ hP hD hS hl
  have hl : lv_has ls 9 [(0, .ref a_bx), (1, .int p1), (2, .int p2)] := hl
  have hown : s.vm.findClass RX1 = some m.cls := hown
  have w_1 := hts (Cond.methodLink RX1 57 Lib.Math.max.name) (List.mem_cons_of_mem _ t_w831)
  have w_2 := hts (Cond.static Lib.Math.max.name) (List.mem_cons_of_mem _ t_w813)
  have w_3 := hts (Cond.initialized "java/lang/Math") (List.mem_cons_of_mem _ t_w76)
  have w_4 := hts (Cond.code Lib.Math.max.name Lib.Math.max.code 2 (some .int)) (List.mem_cons_of_mem _ t_w814)
  unfold f_Box_sheetAt at hf
  have hgo : ∀ (H : Heap) (locs : List Loc), H = s.heap → va_P D vwCl ((a_bx, .inr (1, [.ref a_g, .int bx_south, .int bx_north, .int bx_west, .int bx_east])) :: (a_g, .inr (2, [.ref a_g_rowCuts, .ref a_g_columnCuts, .ref a_g_bandRows, .ref a_g_zoneColumns, .ref a_g_rows, .ref a_g_sheets])) :: (a_g_bandRows, .inl (ci 0, 5, .inl g_bandRows)) :: (a_g_zoneColumns, .inl (ci 0, 5, .inl g_zoneColumns)) :: (a_g_rows, .inl (ci 0, 5, .inl g_rows)) :: (a_g_sheets, .inl (ci 0, 5, .inl g_sheets)) :: Rw) H → va_S A s.heap H locs → W p l e ({ frames := 4, cells := 0, slots := 0, locals := 93 } : Room) s m ([.ref a_bx, .int p1, .int p2] : List Value).toArray below meth c H locs 0 0 Q (F0 m 0 ls []) := by
    intro H locs hH hP hS
    subst hH
    refine lv_iconst (pc := 0) (v := 0) hx hb dX1_sheetAt_0 (by decide) ?_
    obtain ⟨v1, ev1, hf⟩ := q_nm_e hf
    refine q_topi ev1 ?_
    refine lv_istore_n (pc := 1) (lv' := [(3, .int v1), (0, .ref a_bx), (1, .int p1), (2, .int p2)]) hx hb dX1_sheetAt_1 rfl hl (by decide) rfl (fun ls hl => ?_)
    refine lv_iconst (pc := 2) (v := 0) hx hb dX1_sheetAt_2 (by decide) ?_
    obtain ⟨v2, ev2, hf⟩ := q_nm_e hf
    refine q_topi ev2 ?_
    refine lv_istore (pc := 3) (lv' := [(4, .int v2), (3, .int v1), (0, .ref a_bx), (1, .int p1), (2, .int p2)]) hx hb dX1_sheetAt_3 hl (by decide) rfl (fun ls hl => ?_)
    obtain ⟨k5, o5_, ek5, hm5, hk5⟩ := q_s0_k hf
    have JE5 : ∀  (H : Heap) (locs : List Loc) (ls : Array Slot), k5 = some r → H = s.heap → va_S A s.heap H locs → lv_has ls 9 [] → W p l e ({ frames := 4, cells := 0, slots := 0, locals := 93 } : Room) s m ([.ref a_bx, .int p1, .int p2] : List Value).toArray below meth c H locs 0 0 Q (F0 m 105 ls []) := by
      intro  H locs ls hf hHs hS hl
      subst hHs
      have hf := (ek5).symm.trans hf
      refine lv_iconst (pc := 105) (v := (-1)) hx hb dX1_sheetAt_105 (by decide) ?_
      obtain rfl := Option.some.inj hf
      rw [hQ]
      exact q_iretr (pc := 106) hx hb hr hlocks rfl hS dX1_sheetAt_106
    have LP5 : ∀ (n5 : Nat) (v3 : Int32) (v4 : Int32) (H : Heap) (locs : List Loc) (ls : Array Slot), f_Box_sheetAt_L5 bx_east bx_north bx_south bx_west g_bandRows g_rows g_sheets g_zoneColumns p1 p2 n5 v3 v4 = some o5_ → H = s.heap → va_S A s.heap H locs → lv_has ls 9 [(0, .ref a_bx), (1, .int p1), (2, .int p2), (3, .int v3), (4, .int v4)] → W p l e ({ frames := 4, cells := 0, slots := 0, locals := 93 } : Room) s m ([.ref a_bx, .int p1, .int p2] : List Value).toArray below meth c H locs 0 0 Q (F0 m 5 ls []) := by
      intro n5
      induction n5 with
      | zero => intro v3 v4 H locs ls hf; rw [f_Box_sheetAt_L5] at hf; cases hf
      | succ n5 ih5 =>
        intro v3 v4 H locs ls hf hHs hS hl
        subst hHs
        rw [f_Box_sheetAt_L5] at hf
        refine lv_iload (pc := 5) hx hb dX1_sheetAt_5 (lv_at hl 4 rfl) ?_
        refine lv_bipush (pc := 7) (v := 45) hx hb dX1_sheetAt_7 (by decide) ?_
        refine q_icmp_gt (pc := 9) (tgt := 105) hx hb dX1_sheetAt_9 (by decide) rfl hf (fun hf => ?_) (fun hf => ?_)
        · obtain rfl := Option.some.inj hf
          exact JE5  _ _ _ hk5 rfl hS (lv_sub hl [] rfl)
        · refine lv_aload_n (pc := 12) hx hb dX1_sheetAt_12 rfl (lv_at hl 0 rfl) ?_
          refine lv_iload_n (pc := 13) hx hb dX1_sheetAt_13 rfl (lv_at hl 1 rfl) ?_
          refine lv_iload (pc := 14) hx hb dX1_sheetAt_14 (lv_at hl 4 rfl) ?_
          obtain ⟨v5, hm16, hf⟩ := q_b1_e hf
          refine q_cVr (pc := 16) (As := [.int p1, .int v4]) (rest := []) (v0 := (some (.int v5))) ⟨hx, hb, hml, hown, hts⟩ hK hA hZ hP hD hS hl.1 [0, 1, 2, 4] 6 rfl ⟨rfl, rfl, rfl⟩ (c_Box_beltTop l D ci A sa N (Rw) a_bx a_g a_g_rowCuts a_g_columnCuts a_g_bandRows a_g_zoneColumns a_g_rows a_g_sheets bx_south bx_north bx_west bx_east g_bandRows g_rows p1 v4 v5 hm16) 0 rfl rfl (cwV 2 hts gX1_sheetAt_X1_beltTop rfl rfl rfl (by decide +kernel) ⟨Nat.le_of_ble_eq_true rfl, Nat.le_of_ble_eq_true rfl⟩) rfl rfl (Nat.le_of_ble_eq_true rfl) dX1_sheetAt_16 ⟨Nat.zero_le _, Nat.zero_le _⟩ (fun locs hS => ?_)
          refine lv_istore (pc := 19) (lv' := [(5, .int v5), (0, .ref a_bx), (1, .int p1), (2, .int p2), (3, .int v3), (4, .int v4)]) hx hb dX1_sheetAt_19 hl (by decide) rfl (fun ls hl => ?_)
          refine lv_aload_n (pc := 21) hx hb dX1_sheetAt_21 rfl (lv_at hl 1 rfl) ?_
          refine lv_iload_n (pc := 22) hx hb dX1_sheetAt_22 rfl (lv_at hl 2 rfl) ?_
          refine lv_iload (pc := 23) hx hb dX1_sheetAt_23 (lv_at hl 5 rfl) ?_
          obtain ⟨v6, hm25, hf⟩ := q_b1_e hf
          refine q_cVr (pc := 25) (As := [.int p1, .int v4]) (rest := []) (v0 := (some (.int v6))) ⟨hx, hb, hml, hown, hts⟩ hK hA hZ hP hD hS hl.1 [0, 1, 2, 4] 6 rfl ⟨rfl, rfl, rfl⟩ (c_Box_beltBottom l D ci A sa N (Rw) a_bx a_g a_g_rowCuts a_g_columnCuts a_g_bandRows a_g_zoneColumns a_g_rows a_g_sheets bx_south bx_north bx_west bx_east g_bandRows g_rows p1 v4 v6 hm25) 0 rfl rfl (cwV 2 hts gX1_sheetAt_X1_beltBottom rfl rfl rfl (by decide +kernel) ⟨Nat.le_of_ble_eq_true rfl, Nat.le_of_ble_eq_true rfl⟩) rfl rfl (Nat.le_of_ble_eq_true rfl) dX1_sheetAt_25 ⟨Nat.zero_le _, Nat.zero_le _⟩ (fun locs hS => ?_)
          refine lv_istore (pc := 28) (lv' := [(6, .int v6), (5, .int v5), (0, .ref a_bx), (1, .int p1), (2, .int p2), (3, .int v3), (4, .int v4)]) hx hb dX1_sheetAt_28 hl (by decide) rfl (fun ls hl => ?_)
          refine lv_iload (pc := 30) hx hb dX1_sheetAt_30 (lv_at hl 1 rfl) ?_
          refine lv_iload (pc := 32) hx hb dX1_sheetAt_32 (lv_at hl 0 rfl) ?_
          obtain ⟨k99, ek99, hf⟩ := q_j1_e hf
          have J99 : ∀ (v7 : Int32) (H : Heap) (locs : List Loc) (ls : Array Slot), k99 v7 = some o5_ → H = s.heap → va_S A s.heap H locs → lv_has ls 9 [(0, .ref a_bx), (1, .int p1), (2, .int p2), (3, .int v7), (4, .int v4)] → W p l e ({ frames := 4, cells := 0, slots := 0, locals := 93 } : Room) s m ([.ref a_bx, .int p1, .int p2] : List Value).toArray below meth c H locs 0 0 Q (F0 m 99 ls []) := by
            intro v7 H locs ls hf hHs hS hl
            subst hHs
            have hf := (ek99 v7).symm.trans hf
            obtain ⟨v8, ev8, hf⟩ := q_nm_e hf
            refine lv_iinc (pc := 99) (v := v8) (lv' := [(4, .int v8), (0, .ref a_bx), (1, .int p1), (2, .int p2), (3, .int v7)]) hx hb dX1_sheetAt_99 hl (k := 4) rfl (by rw [ev8]; rfl) (by decide) rfl (fun ls hl => ?_)
            refine lv_goto (pc := 102) (tgt := 5) hx hb dX1_sheetAt_102 (by decide) ?_
            exact ih5 v7 v8 _ _ _ hf rfl hS (lv_sub hl [1, 2, 3, 4, 0] rfl)
          refine q_icmp_le (pc := 34) (tgt := 40) hx hb dX1_sheetAt_34 (by decide) rfl hf (fun hf => ?_) (fun hf => ?_)
          · refine lv_iconst (pc := 40) (v := 1) hx hb dX1_sheetAt_40 (by decide) ?_
            refine lv_aload_n (pc := 41) hx hb dX1_sheetAt_41 rfl (lv_at hl 2 rfl) ?_
            refine lv_iload_n (pc := 42) hx hb dX1_sheetAt_42 rfl (lv_at hl 3 rfl) ?_
            refine lv_iload (pc := 43) hx hb dX1_sheetAt_43 (lv_at hl 1 rfl) ?_
            obtain ⟨v9, hm45, hf⟩ := q_b1_e hf
            refine q_cVr (pc := 45) (As := [.int p1, .int v5]) (rest := [.int 1]) (v0 := (some (.int v9))) ⟨hx, hb, hml, hown, hts⟩ hK hA hZ hP hD hS hl.1 [0, 1, 2, 3, 4] 6 rfl ⟨rfl, rfl, rfl⟩ (c_Box_inRow l D ci A sa N (Rw) a_bx a_g a_g_rowCuts a_g_columnCuts a_g_bandRows a_g_zoneColumns a_g_rows a_g_sheets bx_south bx_north bx_west bx_east g_bandRows g_zoneColumns g_rows p1 v5 v9 hm45) 0 rfl rfl (cwV 2 hts gX1_sheetAt_X1_inRow rfl rfl rfl (by decide +kernel) ⟨Nat.le_of_ble_eq_true rfl, Nat.le_of_ble_eq_true rfl⟩) rfl rfl (Nat.le_of_ble_eq_true rfl) dX1_sheetAt_45 ⟨Nat.zero_le _, Nat.zero_le _⟩ (fun locs hS => ?_)
            obtain ⟨v10, ev10, hf⟩ := q_nm_e hf
            refine va_mmax (pc := 48) hx hb (hml.trans hl.1.symm) hown w_1 w_2 w_3 w_4 (Nat.le_of_ble_eq_true rfl) (Nat.le_of_ble_eq_true rfl) (Nat.zero_le _) (Nat.zero_le _) dX1_sheetAt_48 ?_
            refine q_topi ev10 ?_
            refine lv_istore (pc := 51) (lv' := [(7, .int v10), (6, .int v6), (5, .int v5), (0, .ref a_bx), (1, .int p1), (2, .int p2), (3, .int v3), (4, .int v4)]) hx hb dX1_sheetAt_51 hl (by decide) rfl (fun ls hl => ?_)
            refine lv_iload (pc := 53) hx hb dX1_sheetAt_53 (lv_at hl 1 rfl) ?_
            refine lv_iload (pc := 55) hx hb dX1_sheetAt_55 (lv_at hl 2 rfl) ?_
            refine lv_isub (pc := 57) hx hb dX1_sheetAt_57 ?_
            refine lv_iconst (pc := 58) (v := 1) hx hb dX1_sheetAt_58 (by decide) ?_
            refine lv_iadd (pc := 59) hx hb dX1_sheetAt_59 ?_
            refine lv_iload (pc := 60) hx hb dX1_sheetAt_60 (lv_at hl 0 rfl) ?_
            refine lv_imul (pc := 62) hx hb dX1_sheetAt_62 ?_
            obtain ⟨v11, ev11, hf⟩ := q_nm_e hf
            refine q_topi ev11 ?_
            refine lv_istore (pc := 63) (lv' := [(8, .int v11), (7, .int v10), (6, .int v6), (5, .int v5), (0, .ref a_bx), (1, .int p1), (2, .int p2), (3, .int v3), (4, .int v4)]) hx hb dX1_sheetAt_63 hl (by decide) rfl (fun ls hl => ?_)
            refine lv_iload_n (pc := 65) hx hb dX1_sheetAt_65 rfl (lv_at hl 6 rfl) ?_
            refine lv_iload_n (pc := 66) hx hb dX1_sheetAt_66 rfl (lv_at hl 7 rfl) ?_
            refine lv_isub (pc := 67) hx hb dX1_sheetAt_67 ?_
            refine lv_iload (pc := 68) hx hb dX1_sheetAt_68 (lv_at hl 0 rfl) ?_
            refine q_icmp_ge (pc := 70) (tgt := 94) hx hb dX1_sheetAt_70 (by decide) rfl hf (fun hf => ?_) (fun hf => ?_)
            · refine lv_iload_n (pc := 94) hx hb dX1_sheetAt_94 rfl (lv_at hl 7 rfl) ?_
              refine lv_iload (pc := 95) hx hb dX1_sheetAt_95 (lv_at hl 0 rfl) ?_
              refine lv_iadd (pc := 97) hx hb dX1_sheetAt_97 ?_
              obtain ⟨v12, ev12, hf⟩ := q_nm_e hf
              refine q_topi ev12 ?_
              refine lv_istore_n (pc := 98) (lv' := [(3, .int v12), (8, .int v11), (7, .int v10), (6, .int v6), (5, .int v5), (0, .ref a_bx), (1, .int p1), (2, .int p2), (4, .int v4)]) hx hb dX1_sheetAt_98 rfl hl (by decide) rfl (fun ls hl => ?_)
              exact J99 v12 _ _ _ hf rfl hS (lv_sub hl [5, 6, 7, 0, 8] rfl)
            · refine lv_aload_n (pc := 73) hx hb dX1_sheetAt_73 rfl (lv_at hl 4 rfl) ?_
              refine lv_iload_n (pc := 74) hx hb dX1_sheetAt_74 rfl (lv_at hl 5 rfl) ?_
              refine lv_iload (pc := 75) hx hb dX1_sheetAt_75 (lv_at hl 3 rfl) ?_
              refine lv_iload_n (pc := 77) hx hb dX1_sheetAt_77 rfl (lv_at hl 6 rfl) ?_
              refine lv_iload_n (pc := 78) hx hb dX1_sheetAt_78 rfl (lv_at hl 7 rfl) ?_
              refine lv_isub (pc := 79) hx hb dX1_sheetAt_79 ?_
              refine lv_iload (pc := 80) hx hb dX1_sheetAt_80 (lv_at hl 1 rfl) ?_
              refine q_idiv (pc := 82) hx hb dX1_sheetAt_82 hf (fun v13 hf => ?_)
              refine lv_iadd (pc := 83) hx hb dX1_sheetAt_83 ?_
              refine lv_iload_n (pc := 84) hx hb dX1_sheetAt_84 rfl (lv_at hl 6 rfl) ?_
              refine lv_iload_n (pc := 85) hx hb dX1_sheetAt_85 rfl (lv_at hl 7 rfl) ?_
              refine lv_isub (pc := 86) hx hb dX1_sheetAt_86 ?_
              refine lv_iload (pc := 87) hx hb dX1_sheetAt_87 (lv_at hl 1 rfl) ?_
              refine q_irem (pc := 89) hx hb dX1_sheetAt_89 hf (fun v14 hf => ?_)
              obtain ⟨v15, hm90, hf⟩ := q_b1_e hf
              refine q_cVr (pc := 90) (As := [.int p1, .int (v5 + v13), .int v14]) (rest := []) (v0 := (some (.int v15))) ⟨hx, hb, hml, hown, hts⟩ hK hA hZ hP hD hS hl.1 [0, 1, 2, 3, 4, 5] 6 rfl ⟨rfl, rfl, rfl⟩ (c_Box_keyFromWest l D ci A sa N (Rw) a_bx a_g a_g_rowCuts a_g_columnCuts a_g_bandRows a_g_zoneColumns a_g_rows a_g_sheets bx_south bx_north bx_west bx_east g_bandRows g_zoneColumns g_rows g_sheets p1 (v5 + v13) v14 v15 hm90) 0 rfl rfl (cwV 3 hts gX1_sheetAt_X1_keyFromWest rfl rfl rfl (by decide +kernel) ⟨Nat.le_of_ble_eq_true rfl, Nat.le_of_ble_eq_true rfl⟩) rfl rfl (Nat.le_of_ble_eq_true rfl) dX1_sheetAt_90 ⟨Nat.zero_le _, Nat.zero_le _⟩ (fun locs hS => ?_)
              obtain rfl := Option.some.inj hf
              have hk5 : (v15 : Int32) = r := hk5
              obtain rfl := hk5
              rw [hQ]
              exact q_iretr (pc := 93) hx hb hr hlocks rfl hS dX1_sheetAt_93
          · refine lv_goto (pc := 37) (tgt := 99) hx hb dX1_sheetAt_37 (by decide) ?_
            exact J99 v3 _ _ _ hf rfl hS (lv_sub hl [2, 3, 4, 5, 6] rfl)
    exact LP5 N v1 v2 _ _ _ hm5 rfl hS (lv_sub hl [2, 3, 4, 1, 0] rfl)
  exact hgo _ _ rfl hP hS
/-! X1_sheetsAt -/
set_option maxRecDepth 100000 in
set_option maxHeartbeats 4000000 in
theorem c_Box_sheetsAt (l : Launch) (D : va_G) (ci : Nat → ClassId) (A : Nat → Prop) (sa : Nat → Nat) (N : Nat) (Rw : va_W) (a_bx : Nat) (a_g : Nat) (a_g_rowCuts : Nat) (a_g_columnCuts : Nat) (a_g_bandRows : Nat) (a_g_zoneColumns : Nat) (a_g_rows : Nat) (a_g_sheets : Nat) (bx_south : Int32) (bx_north : Int32) (bx_west : Int32) (bx_east : Int32) (g_bandRows : Nat → Int32) (g_zoneColumns : Nat → Int32) (g_rows : Nat → Int32) (p1 : Int32) (r : Int32) (hf : f_Box_sheetsAt N bx_south bx_north bx_west bx_east g_bandRows g_zoneColumns g_rows p1 = some r) : Met l yX1_sheetsAt wsX1_sheetsAt ({ frames := 4, cells := 0, slots := 0, locals := 93 }) (va_Pc [.ref a_bx, .int p1] (q_N D ci A sa ((a_bx, .inr (1, [.ref a_g, .int bx_south, .int bx_north, .int bx_west, .int bx_east])) :: (a_g, .inr (2, [.ref a_g_rowCuts, .ref a_g_columnCuts, .ref a_g_bandRows, .ref a_g_zoneColumns, .ref a_g_rows, .ref a_g_sheets])) :: (a_g_bandRows, .inl (ci 0, 5, .inl g_bandRows)) :: (a_g_zoneColumns, .inl (ci 0, 5, .inl g_zoneColumns)) :: (a_g_rows, .inl (ci 0, 5, .inl g_rows)) :: Rw))) (q_R (some (.int r))) 0 0 A := by
  refine q_ofW (cc := cX1_sheetsAt) (maxL := 6) (ret := (some .int)) [.ref a_bx, .int p1] (plainFor_of_name (by decide)) rfl (Nat.le_of_ble_eq_true rfl) ?_
  intro p e s m below meth c ls Q hQ hx hb hml hr hts hown hlocks hK hA hZ hP hD hS hl
  have hl : lv_has ls 6 [(0, .ref a_bx), (1, .int p1)] := hl
  have hown : s.vm.findClass RX1 = some m.cls := hown
  unfold f_Box_sheetsAt at hf
  have hgo : ∀ (H : Heap) (locs : List Loc), H = s.heap → va_P D vwCl ((a_bx, .inr (1, [.ref a_g, .int bx_south, .int bx_north, .int bx_west, .int bx_east])) :: (a_g, .inr (2, [.ref a_g_rowCuts, .ref a_g_columnCuts, .ref a_g_bandRows, .ref a_g_zoneColumns, .ref a_g_rows, .ref a_g_sheets])) :: (a_g_bandRows, .inl (ci 0, 5, .inl g_bandRows)) :: (a_g_zoneColumns, .inl (ci 0, 5, .inl g_zoneColumns)) :: (a_g_rows, .inl (ci 0, 5, .inl g_rows)) :: Rw) H → va_S A s.heap H locs → W p l e ({ frames := 4, cells := 0, slots := 0, locals := 93 } : Room) s m ([.ref a_bx, .int p1] : List Value).toArray below meth c H locs 0 0 Q (F0 m 0 ls []) := by
    intro H locs hH hP hS
    subst hH
    refine lv_iconst (pc := 0) (v := 0) hx hb dX1_sheetsAt_0 (by decide) ?_
    obtain ⟨v1, ev1, hf⟩ := q_nm_e hf
    refine q_topi ev1 ?_
    refine lv_istore_n (pc := 1) (lv' := [(2, .int v1), (0, .ref a_bx), (1, .int p1)]) hx hb dX1_sheetsAt_1 rfl hl (by decide) rfl (fun ls hl => ?_)
    refine lv_iconst (pc := 2) (v := 0) hx hb dX1_sheetsAt_2 (by decide) ?_
    obtain ⟨v2, ev2, hf⟩ := q_nm_e hf
    refine q_topi ev2 ?_
    refine lv_istore_n (pc := 3) (lv' := [(3, .int v2), (2, .int v1), (0, .ref a_bx), (1, .int p1)]) hx hb dX1_sheetsAt_3 rfl hl (by decide) rfl (fun ls hl => ?_)
    obtain ⟨v5, hm4, hf⟩ := q_b1_e hf
    have JE4 : ∀ (H : Heap) (locs : List Loc) (ls : Array Slot), H = s.heap → va_S A s.heap H locs → lv_has ls 6 [(2, .int v5)] → W p l e ({ frames := 4, cells := 0, slots := 0, locals := 93 } : Room) s m ([.ref a_bx, .int p1] : List Value).toArray below meth c H locs 0 0 Q (F0 m 57 ls []) := by
      intro H locs ls hHs hS hl
      subst hHs
      refine lv_iload_n (pc := 57) hx hb dX1_sheetsAt_57 rfl (lv_at hl 0 rfl) ?_
      obtain rfl := Option.some.inj hf
      rw [hQ]
      exact q_iretr (pc := 58) hx hb hr hlocks rfl hS dX1_sheetsAt_58
    have LP4 : ∀ (n4 : Nat) (v3 : Int32) (v4 : Int32) (H : Heap) (locs : List Loc) (ls : Array Slot), f_Box_sheetsAt_L4 bx_east bx_north bx_south bx_west g_bandRows g_rows g_zoneColumns p1 n4 v3 v4 = some v5 → H = s.heap → va_S A s.heap H locs → lv_has ls 6 [(0, .ref a_bx), (1, .int p1), (2, .int v3), (3, .int v4)] → W p l e ({ frames := 4, cells := 0, slots := 0, locals := 93 } : Room) s m ([.ref a_bx, .int p1] : List Value).toArray below meth c H locs 0 0 Q (F0 m 4 ls []) := by
      intro n4
      induction n4 with
      | zero => intro v3 v4 H locs ls hf; rw [f_Box_sheetsAt_L4] at hf; cases hf
      | succ n4 ih4 =>
        intro v3 v4 H locs ls hf hHs hS hl
        subst hHs
        rw [f_Box_sheetsAt_L4] at hf
        refine lv_iload_n (pc := 4) hx hb dX1_sheetsAt_4 rfl (lv_at hl 3 rfl) ?_
        refine lv_bipush (pc := 5) (v := 45) hx hb dX1_sheetsAt_5 (by decide) ?_
        refine q_icmp_gt (pc := 7) (tgt := 57) hx hb dX1_sheetsAt_7 (by decide) rfl hf (fun hf => ?_) (fun hf => ?_)
        · obtain rfl := Option.some.inj hf
          exact JE4 _ _ _ rfl hS (lv_sub hl [2] rfl)
        · refine lv_aload_n (pc := 10) hx hb dX1_sheetsAt_10 rfl (lv_at hl 0 rfl) ?_
          refine lv_iload_n (pc := 11) hx hb dX1_sheetsAt_11 rfl (lv_at hl 1 rfl) ?_
          refine lv_iload_n (pc := 12) hx hb dX1_sheetsAt_12 rfl (lv_at hl 3 rfl) ?_
          obtain ⟨v6, hm13, hf⟩ := q_b1_e hf
          refine q_cVr (pc := 13) (As := [.int p1, .int v4]) (rest := []) (v0 := (some (.int v6))) ⟨hx, hb, hml, hown, hts⟩ hK hA hZ hP hD hS hl.1 [0, 1, 2, 4] 5 rfl ⟨rfl, rfl, rfl⟩ (c_Box_beltTop l D ci A sa N (Rw) a_bx a_g a_g_rowCuts a_g_columnCuts a_g_bandRows a_g_zoneColumns a_g_rows a_g_sheets bx_south bx_north bx_west bx_east g_bandRows g_rows p1 v4 v6 hm13) 0 rfl rfl (cwV 2 hts gX1_sheetsAt_X1_beltTop rfl rfl rfl (by decide +kernel) ⟨Nat.le_of_ble_eq_true rfl, Nat.le_of_ble_eq_true rfl⟩) rfl rfl (Nat.le_of_ble_eq_true rfl) dX1_sheetsAt_13 ⟨Nat.zero_le _, Nat.zero_le _⟩ (fun locs hS => ?_)
          refine lv_istore (pc := 16) (lv' := [(4, .int v6), (0, .ref a_bx), (1, .int p1), (2, .int v3), (3, .int v4)]) hx hb dX1_sheetsAt_16 hl (by decide) rfl (fun ls hl => ?_)
          refine lv_aload_n (pc := 18) hx hb dX1_sheetsAt_18 rfl (lv_at hl 1 rfl) ?_
          refine lv_iload_n (pc := 19) hx hb dX1_sheetsAt_19 rfl (lv_at hl 2 rfl) ?_
          refine lv_iload_n (pc := 20) hx hb dX1_sheetsAt_20 rfl (lv_at hl 4 rfl) ?_
          obtain ⟨v7, hm21, hf⟩ := q_b1_e hf
          refine q_cVr (pc := 21) (As := [.int p1, .int v4]) (rest := []) (v0 := (some (.int v7))) ⟨hx, hb, hml, hown, hts⟩ hK hA hZ hP hD hS hl.1 [0, 1, 2, 4] 5 rfl ⟨rfl, rfl, rfl⟩ (c_Box_beltBottom l D ci A sa N (Rw) a_bx a_g a_g_rowCuts a_g_columnCuts a_g_bandRows a_g_zoneColumns a_g_rows a_g_sheets bx_south bx_north bx_west bx_east g_bandRows g_rows p1 v4 v7 hm21) 0 rfl rfl (cwV 2 hts gX1_sheetsAt_X1_beltBottom rfl rfl rfl (by decide +kernel) ⟨Nat.le_of_ble_eq_true rfl, Nat.le_of_ble_eq_true rfl⟩) rfl rfl (Nat.le_of_ble_eq_true rfl) dX1_sheetsAt_21 ⟨Nat.zero_le _, Nat.zero_le _⟩ (fun locs hS => ?_)
          refine lv_istore (pc := 24) (lv' := [(5, .int v7), (4, .int v6), (0, .ref a_bx), (1, .int p1), (2, .int v3), (3, .int v4)]) hx hb dX1_sheetsAt_24 hl (by decide) rfl (fun ls hl => ?_)
          refine lv_iload (pc := 26) hx hb dX1_sheetsAt_26 (lv_at hl 1 rfl) ?_
          refine lv_iload (pc := 28) hx hb dX1_sheetsAt_28 (lv_at hl 0 rfl) ?_
          obtain ⟨k51, ek51, hf⟩ := q_j1_e hf
          have J51 : ∀ (v8 : Int32) (H : Heap) (locs : List Loc) (ls : Array Slot), k51 v8 = some v5 → H = s.heap → va_S A s.heap H locs → lv_has ls 6 [(0, .ref a_bx), (1, .int p1), (2, .int v8), (3, .int v4)] → W p l e ({ frames := 4, cells := 0, slots := 0, locals := 93 } : Room) s m ([.ref a_bx, .int p1] : List Value).toArray below meth c H locs 0 0 Q (F0 m 51 ls []) := by
            intro v8 H locs ls hf hHs hS hl
            subst hHs
            have hf := (ek51 v8).symm.trans hf
            obtain ⟨v9, ev9, hf⟩ := q_nm_e hf
            refine lv_iinc (pc := 51) (v := v9) (lv' := [(3, .int v9), (0, .ref a_bx), (1, .int p1), (2, .int v8)]) hx hb dX1_sheetsAt_51 hl (k := 3) rfl (by rw [ev9]; rfl) (by decide) rfl (fun ls hl => ?_)
            refine lv_goto (pc := 54) (tgt := 4) hx hb dX1_sheetsAt_54 (by decide) ?_
            exact ih4 v8 v9 _ _ _ hf rfl hS (lv_sub hl [1, 2, 3, 0] rfl)
          refine q_icmp_gt (pc := 30) (tgt := 51) hx hb dX1_sheetsAt_30 (by decide) rfl hf (fun hf => ?_) (fun hf => ?_)
          · exact J51 v3 _ _ _ hf rfl hS (lv_sub hl [2, 3, 4, 5] rfl)
          · refine lv_iload_n (pc := 33) hx hb dX1_sheetsAt_33 rfl (lv_at hl 4 rfl) ?_
            refine lv_iload (pc := 34) hx hb dX1_sheetsAt_34 (lv_at hl 0 rfl) ?_
            refine lv_iload (pc := 36) hx hb dX1_sheetsAt_36 (lv_at hl 1 rfl) ?_
            refine lv_isub (pc := 38) hx hb dX1_sheetsAt_38 ?_
            refine lv_iconst (pc := 39) (v := 1) hx hb dX1_sheetsAt_39 (by decide) ?_
            refine lv_iadd (pc := 40) hx hb dX1_sheetsAt_40 ?_
            refine lv_aload_n (pc := 41) hx hb dX1_sheetsAt_41 rfl (lv_at hl 2 rfl) ?_
            refine lv_iload_n (pc := 42) hx hb dX1_sheetsAt_42 rfl (lv_at hl 3 rfl) ?_
            refine lv_iload (pc := 43) hx hb dX1_sheetsAt_43 (lv_at hl 1 rfl) ?_
            obtain ⟨v10, hm45, hf⟩ := q_b1_e hf
            refine q_cVr (pc := 45) (As := [.int p1, .int v6]) (rest := [.int ((v7 - v6) + 1), .int v3]) (v0 := (some (.int v10))) ⟨hx, hb, hml, hown, hts⟩ hK hA hZ hP hD hS hl.1 [0, 1, 2, 3, 4] 5 rfl ⟨rfl, rfl, rfl⟩ (c_Box_inRow l D ci A sa N (Rw) a_bx a_g a_g_rowCuts a_g_columnCuts a_g_bandRows a_g_zoneColumns a_g_rows a_g_sheets bx_south bx_north bx_west bx_east g_bandRows g_zoneColumns g_rows p1 v6 v10 hm45) 0 rfl rfl (cwV 2 hts gX1_sheetsAt_X1_inRow rfl rfl rfl (by decide +kernel) ⟨Nat.le_of_ble_eq_true rfl, Nat.le_of_ble_eq_true rfl⟩) rfl rfl (Nat.le_of_ble_eq_true rfl) dX1_sheetsAt_45 ⟨Nat.zero_le _, Nat.zero_le _⟩ (fun locs hS => ?_)
            refine lv_imul (pc := 48) hx hb dX1_sheetsAt_48 ?_
            refine lv_iadd (pc := 49) hx hb dX1_sheetsAt_49 ?_
            obtain ⟨v11, ev11, hf⟩ := q_nm_e hf
            refine q_topi ev11 ?_
            refine lv_istore_n (pc := 50) (lv' := [(2, .int v11), (5, .int v7), (4, .int v6), (0, .ref a_bx), (1, .int p1), (3, .int v4)]) hx hb dX1_sheetsAt_50 rfl hl (by decide) rfl (fun ls hl => ?_)
            exact J51 v11 _ _ _ hf rfl hS (lv_sub hl [3, 4, 0, 5] rfl)
    exact LP4 N v1 v2 _ _ _ hm4 rfl hS (lv_sub hl [2, 3, 1, 0] rfl)
  exact hgo _ _ rfl hP hS
