/-! X10_parent -/
set_option maxRecDepth 100000 in
set_option maxHeartbeats 4000000 in
theorem c_X_parent (l : Launch) (D : va_G) (ci : Nat → ClassId) (A : Nat → Prop) (sa : Nat → Nat) (N : Nat) (Rw : va_W) (a_x : Nat) (a_at : Nat) (a_g : Nat) (a_st : Nat) (a_x_kept : Nat) (a_tp : Nat) (a_rd : Nat) (a_qu : Nat) (a_sp : Nat) (a_wk : Nat) (a_bx : Nat) (a_nt : Nat) (a_nu : Nat) (a_x_seen : Nat) (a_g_rowCuts : Nat) (a_g_columnCuts : Nat) (a_g_bandRows : Nat) (a_g_zoneColumns : Nat) (a_g_rows : Nat) (a_g_sheets : Nat) (x_keptStates : Int32) (g_bandRows : Nat → Int32) (g_zoneColumns : Nat → Int32) (g_rows : Nat → Int32) (g_sheets : Nat → Int32) (p1 : Int32) (p2 : Int32) (p3 : Int32) (r : Int32) (hf : f_X_parent N g_bandRows g_zoneColumns g_rows g_sheets p1 p2 p3 = some r) : Met l yX10_parent wsX10_parent ({ frames := 3, cells := 0, slots := 0, locals := 75 }) (va_Pc [.ref a_x, .int p1, .int p2, .int p3] (q_N D ci A sa ((a_x, .inr (10, [.ref a_at, .ref a_g, .ref a_st, .ref a_x_kept, .int x_keptStates, .ref a_tp, .ref a_rd, .ref a_qu, .ref a_sp, .ref a_wk, .ref a_bx, .ref a_nt, .ref a_nu, .ref a_x_seen])) :: (a_g, .inr (2, [.ref a_g_rowCuts, .ref a_g_columnCuts, .ref a_g_bandRows, .ref a_g_zoneColumns, .ref a_g_rows, .ref a_g_sheets])) :: (a_g_bandRows, .inl (ci 0, 5, .inl g_bandRows)) :: (a_g_zoneColumns, .inl (ci 0, 5, .inl g_zoneColumns)) :: (a_g_rows, .inl (ci 0, 5, .inl g_rows)) :: (a_g_sheets, .inl (ci 0, 5, .inl g_sheets)) :: Rw))) (q_R (some (.int r))) 0 0 A := by
  refine q_ofW (cc := cX10_parent) (maxL := 4) (ret := (some .int)) [.ref a_x, .int p1, .int p2, .int p3] (plainFor_of_name (by decide)) rfl (Nat.le_of_ble_eq_true rfl) ?_
  intro p e s m below meth c ls Q hQ hx hb hml hr hts hown hlocks hK hA hZ hP hD hS hl
  have hl : lv_has ls 4 [(0, .ref a_x), (1, .int p1), (2, .int p2), (3, .int p3)] := hl
  have hown : s.vm.findClass RX10 = some m.cls := hown
  have hinX10 : ∀ w ∈ wsX100, w ∈ wsX10_parent := fun _ h => List.mem_cons_of_mem _ (inWX100 _ h)
  have w_1 := hts (Cond.fieldLink RX10 20 "SheetNames" "grid" "LSheetNames$Grid;") (List.mem_cons_of_mem _ t_w876)
  unfold f_X_parent at hf
  have hgo : ∀ (H : Heap) (locs : List Loc), H = s.heap → va_P D vwCl ((a_x, .inr (10, [.ref a_at, .ref a_g, .ref a_st, .ref a_x_kept, .int x_keptStates, .ref a_tp, .ref a_rd, .ref a_qu, .ref a_sp, .ref a_wk, .ref a_bx, .ref a_nt, .ref a_nu, .ref a_x_seen])) :: (a_g, .inr (2, [.ref a_g_rowCuts, .ref a_g_columnCuts, .ref a_g_bandRows, .ref a_g_zoneColumns, .ref a_g_rows, .ref a_g_sheets])) :: (a_g_bandRows, .inl (ci 0, 5, .inl g_bandRows)) :: (a_g_zoneColumns, .inl (ci 0, 5, .inl g_zoneColumns)) :: (a_g_rows, .inl (ci 0, 5, .inl g_rows)) :: (a_g_sheets, .inl (ci 0, 5, .inl g_sheets)) :: Rw) H → va_S A s.heap H locs → W p l e ({ frames := 3, cells := 0, slots := 0, locals := 75 } : Room) s m ([.ref a_x, .int p1, .int p2, .int p3] : List Value).toArray below meth c H locs 0 0 Q (F0 m 0 ls []) := by
    intro H locs hH hP hS
    subst hH
    refine lv_aload_n (pc := 0) hx hb dX10_parent_0 rfl (lv_at hl 0 rfl) ?_
    refine va_get (pc := 1) (D := D) (ci := 10) (v := .ref a_g) (C := RX10) (T := TX10) (N := 14) hx hb hts hinX10 hown hK hP 0 rfl rfl 1 (by decide) w_1 (fun _ h9 => h9) rfl dX10_parent_1 ?_
    refine lv_iload_n (pc := 4) hx hb dX10_parent_4 rfl (lv_at hl 1 rfl) ?_
    refine lv_iload_n (pc := 5) hx hb dX10_parent_5 rfl (lv_at hl 2 rfl) ?_
    obtain ⟨v1, hm6, hf⟩ := q_b1_e hf
    refine q_cVr (pc := 6) (As := [.int p1, .int p2]) (rest := []) (v0 := (some (.int v1))) ⟨hx, hb, hml, hown, hts⟩ hK hA hZ hP hD hS hl.1 [1, 5] 6 rfl ⟨rfl, rfl, rfl⟩ (c_Grid_hasSheet l D ci A sa N (Rw) a_g a_g_rowCuts a_g_columnCuts a_g_bandRows a_g_zoneColumns a_g_rows a_g_sheets g_sheets p1 p2 v1 hm6) 1 rfl rfl (cwV 2 hts gX10_parent_X2_hasSheet rfl rfl rfl (by decide +kernel) ⟨Nat.le_of_ble_eq_true rfl, Nat.le_of_ble_eq_true rfl⟩) rfl rfl (Nat.le_of_ble_eq_true rfl) dX10_parent_6 ⟨Nat.zero_le _, Nat.zero_le _⟩ (fun locs hS => ?_)
    refine q_if_eq (pc := 9) (tgt := 21) hx hb dX10_parent_9 (by decide) rfl hf (fun hf => ?_) (fun hf => ?_)
    · refine lv_iconst (pc := 21) (v := (-1)) hx hb dX10_parent_21 (by decide) ?_
      obtain rfl := Option.some.inj hf
      rw [hQ]
      exact q_iretr (pc := 22) hx hb hr hlocks rfl hS dX10_parent_22
    · refine lv_iload_n (pc := 12) hx hb dX10_parent_12 rfl (lv_at hl 3 rfl) ?_
      refine lv_iconst (pc := 13) (v := 0) hx hb dX10_parent_13 (by decide) ?_
      refine lv_iload_n (pc := 14) hx hb dX10_parent_14 rfl (lv_at hl 1 rfl) ?_
      obtain ⟨v2, hm15, hf⟩ := q_b1_e hf
      refine q_cSr (pc := 15) (As := [.int p3, .int 0, .int p1]) (rest := []) (v0 := (some (.int v2))) ⟨hx, hb, hml, hown, hts⟩ hK hA hZ hP hD hS hl.1 [] 6 rfl ⟨rfl, rfl, rfl⟩ (c_X_isFrom l D ci A sa N (Rw) p3 0 p1 v2 hm15) (va_cwS 3 hts gX10_parent_X10_isFrom rfl rfl rfl (by decide +kernel) ⟨Nat.le_of_ble_eq_true rfl, Nat.le_of_ble_eq_true rfl⟩) rfl rfl (Nat.le_of_ble_eq_true rfl) dX10_parent_15 ⟨Nat.zero_le _, Nat.zero_le _⟩ (fun locs hS => ?_)
      refine q_if_ne (pc := 18) (tgt := 23) hx hb dX10_parent_18 (by decide) rfl hf (fun hf => ?_) (fun hf => ?_)
      · refine lv_aload_n (pc := 23) hx hb dX10_parent_23 rfl (lv_at hl 0 rfl) ?_
        refine va_get (pc := 24) (D := D) (ci := 10) (v := .ref a_g) (C := RX10) (T := TX10) (N := 14) hx hb hts hinX10 hown hK hP 0 rfl rfl 1 (by decide) w_1 (fun _ h9 => h9) rfl dX10_parent_24 ?_
        refine lv_iload_n (pc := 27) hx hb dX10_parent_27 rfl (lv_at hl 1 rfl) ?_
        refine lv_iload_n (pc := 28) hx hb dX10_parent_28 rfl (lv_at hl 2 rfl) ?_
        refine lv_iload_n (pc := 29) hx hb dX10_parent_29 rfl (lv_at hl 3 rfl) ?_
        obtain ⟨v3, hm30, hf⟩ := q_b1_e hf
        refine q_cVr (pc := 30) (As := [.int p1, .int p2, .int p3]) (rest := []) (v0 := (some (.int v3))) ⟨hx, hb, hml, hown, hts⟩ hK hA hZ hP hD hS hl.1 [1, 2, 3, 4, 5] 6 rfl ⟨rfl, rfl, rfl⟩ (c_Grid_keyAbove l D ci A sa N (Rw) a_g a_g_rowCuts a_g_columnCuts a_g_bandRows a_g_zoneColumns a_g_rows a_g_sheets g_bandRows g_zoneColumns g_rows g_sheets p1 p2 p3 v3 hm30) 1 rfl rfl (cwV 3 hts gX10_parent_X2_keyAbove rfl rfl rfl (by decide +kernel) ⟨Nat.le_of_ble_eq_true rfl, Nat.le_of_ble_eq_true rfl⟩) rfl rfl (Nat.le_of_ble_eq_true rfl) dX10_parent_30 ⟨Nat.zero_le _, Nat.zero_le _⟩ (fun locs hS => ?_)
        obtain rfl := Option.some.inj hf
        rw [hQ]
        exact q_iretr (pc := 33) hx hb hr hlocks rfl hS dX10_parent_33
      · refine lv_iconst (pc := 21) (v := (-1)) hx hb dX10_parent_21 (by decide) ?_
        obtain rfl := Option.some.inj hf
        rw [hQ]
        exact q_iretr (pc := 22) hx hb hr hlocks rfl hS dX10_parent_22
  exact hgo _ _ rfl hP hS
/-! X10_piece -/
set_option maxRecDepth 100000 in
set_option maxHeartbeats 4000000 in
theorem c_X_piece (l : Launch) (D : va_G) (ci : Nat → ClassId) (A : Nat → Prop) (sa : Nat → Nat) (N : Nat) (Rw : va_W) (a_x : Nat) (a_at : Nat) (a_g : Nat) (a_st : Nat) (a_x_kept : Nat) (a_tp : Nat) (a_rd : Nat) (a_qu : Nat) (a_sp : Nat) (a_wk : Nat) (a_bx : Nat) (a_nt : Nat) (a_nu : Nat) (a_x_seen : Nat) (a_st_levels : Nat) (a_st_keys : Nat) (a_st_years : Nat) (a_st_keysThere : Nat) (x_keptStates : Int32) (st_size : Int32) (st_shownBy : Int32) (st_deepestShown : Int32) (st_latestShown : Int32) (st_levels : Nat → Int32) (st_keys : Nat → Int32) (st_years : Nat → Int32) (p1 : Int32) (p2 : Int32) (r : Int32) (hf : f_X_piece st_levels st_keys st_years st_size p1 p2 = some r) : Met l yX10_piece wsX10_piece ({ frames := 1, cells := 0, slots := 0, locals := 22 }) (va_Pc [.ref a_x, .int p1, .int p2] (q_N D ci A sa ((a_x, .inr (10, [.ref a_at, .ref a_g, .ref a_st, .ref a_x_kept, .int x_keptStates, .ref a_tp, .ref a_rd, .ref a_qu, .ref a_sp, .ref a_wk, .ref a_bx, .ref a_nt, .ref a_nu, .ref a_x_seen])) :: (a_st, .inr (7, [.ref a_g, .ref a_st_levels, .ref a_st_keys, .ref a_st_years, .ref a_st_keysThere, .int st_size, .int st_shownBy, .int st_deepestShown, .int st_latestShown])) :: (a_st_levels, .inl (ci 0, 60, .inl st_levels)) :: (a_st_keys, .inl (ci 0, 60, .inl st_keys)) :: (a_st_years, .inl (ci 0, 60, .inl st_years)) :: Rw))) (q_R (some (.int r))) 0 0 A := by
  refine q_ofW (cc := cX10_piece) (maxL := 3) (ret := (some .int)) [.ref a_x, .int p1, .int p2] (plainFor_of_name (by decide)) rfl (Nat.le_of_ble_eq_true rfl) ?_
  intro p e s m below meth c ls Q hQ hx hb hml hr hts hown hlocks hK hA hZ hP hD hS hl
  have hl : lv_has ls 3 [(0, .ref a_x), (1, .int p1), (2, .int p2)] := hl
  have hown : s.vm.findClass RX10 = some m.cls := hown
  have hinX10 : ∀ w ∈ wsX100, w ∈ wsX10_piece := fun _ h => List.mem_cons_of_mem _ (inWX100 _ h)
  have hinX7 : ∀ w ∈ wsX70, w ∈ wsX10_piece := fun _ h => List.mem_cons_of_mem _ (inWX70 _ h)
  have w_1 := hts (Cond.fieldLink RX10 25 "SheetNames" "pieces" "LSheetNames$Store;") (List.mem_cons_of_mem _ t_w892)
  have wn_0 : (Cond.fieldLinkNest "SheetNames" 109 "SheetNames$Store" "size" "I" "SheetNames").before ([.ref a_x, .int p1, .int p2] : List Value).toArray s = true := (hZ.2.2.2.2.2.2.2.2.2.1 _ (List.mem_of_getElem? (i := 0) rfl)).use rfl
  have wn_25 : (Cond.fieldLinkNest "SheetNames" 376 "SheetNames$Store" "years" "[I" "SheetNames").before ([.ref a_x, .int p1, .int p2] : List Value).toArray s = true := (hZ.2.2.2.2.2.2.2.2.2.1 _ (List.mem_of_getElem? (i := 25) rfl)).use rfl
  have wn_26 : (Cond.fieldLinkNest "SheetNames" 382 "SheetNames$Store" "levels" "[I" "SheetNames").before ([.ref a_x, .int p1, .int p2] : List Value).toArray s = true := (hZ.2.2.2.2.2.2.2.2.2.1 _ (List.mem_of_getElem? (i := 26) rfl)).use rfl
  have wn_27 : (Cond.fieldLinkNest "SheetNames" 385 "SheetNames$Store" "keys" "[I" "SheetNames").before ([.ref a_x, .int p1, .int p2] : List Value).toArray s = true := (hZ.2.2.2.2.2.2.2.2.2.1 _ (List.mem_of_getElem? (i := 27) rfl)).use rfl
  unfold f_X_piece at hf
  have hgo : ∀ (H : Heap) (locs : List Loc), H = s.heap → va_P D vwCl ((a_x, .inr (10, [.ref a_at, .ref a_g, .ref a_st, .ref a_x_kept, .int x_keptStates, .ref a_tp, .ref a_rd, .ref a_qu, .ref a_sp, .ref a_wk, .ref a_bx, .ref a_nt, .ref a_nu, .ref a_x_seen])) :: (a_st, .inr (7, [.ref a_g, .ref a_st_levels, .ref a_st_keys, .ref a_st_years, .ref a_st_keysThere, .int st_size, .int st_shownBy, .int st_deepestShown, .int st_latestShown])) :: (a_st_levels, .inl (ci 0, 60, .inl st_levels)) :: (a_st_keys, .inl (ci 0, 60, .inl st_keys)) :: (a_st_years, .inl (ci 0, 60, .inl st_years)) :: Rw) H → va_S A s.heap H locs → W p l e ({ frames := 1, cells := 0, slots := 0, locals := 22 } : Room) s m ([.ref a_x, .int p1, .int p2] : List Value).toArray below meth c H locs 0 0 Q (F0 m 0 ls []) := by
    intro H locs hH hP hS
    subst hH
    refine lv_iload_n (pc := 0) hx hb dX10_piece_0 rfl (lv_at hl 1 rfl) ?_
    refine q_if_lt (pc := 1) (tgt := 13) hx hb dX10_piece_1 (by decide) rfl hf (fun hf => ?_) (fun hf => ?_)
    · refine lv_iconst (pc := 13) (v := (-1)) hx hb dX10_piece_13 (by decide) ?_
      obtain rfl := Option.some.inj hf
      rw [hQ]
      exact q_iretr (pc := 14) hx hb hr hlocks rfl hS dX10_piece_14
    · refine lv_iload_n (pc := 4) hx hb dX10_piece_4 rfl (lv_at hl 2 rfl) ?_
      refine lv_iconst (pc := 5) (v := 0) hx hb dX10_piece_5 (by decide) ?_
      refine lv_iconst (pc := 6) (v := 2) hx hb dX10_piece_6 (by decide) ?_
      obtain ⟨v1, hm7, hf⟩ := q_b1_e hf
      refine q_cSr (pc := 7) (As := [.int p2, .int 0, .int 2]) (rest := []) (v0 := (some (.int v1))) ⟨hx, hb, hml, hown, hts⟩ hK hA hZ hP hD hS hl.1 [] 5 rfl ⟨rfl, rfl, rfl⟩ (c_X_isFrom l D ci A sa N (Rw) p2 0 2 v1 hm7) (va_cwS 3 hts gX10_piece_X10_isFrom rfl rfl rfl (by decide +kernel) ⟨Nat.le_of_ble_eq_true rfl, Nat.le_of_ble_eq_true rfl⟩) rfl rfl (Nat.le_of_ble_eq_true rfl) dX10_piece_7 ⟨Nat.zero_le _, Nat.zero_le _⟩ (fun locs hS => ?_)
      refine q_if_ne (pc := 10) (tgt := 15) hx hb dX10_piece_10 (by decide) rfl hf (fun hf => ?_) (fun hf => ?_)
      · refine lv_iload_n (pc := 15) hx hb dX10_piece_15 rfl (lv_at hl 1 rfl) ?_
        refine lv_aload_n (pc := 16) hx hb dX10_piece_16 rfl (lv_at hl 0 rfl) ?_
        refine va_get (pc := 17) (D := D) (ci := 10) (v := .ref a_st) (C := RX10) (T := TX10) (N := 14) hx hb hts hinX10 hown hK hP 0 rfl rfl 2 (by decide) w_1 (fun _ h9 => h9) rfl dX10_piece_17 ?_
        refine va_getN (pc := 20) (D := D) (ci := 7) (v := .int st_size) (C := RX7) (T := TX7) (N := 9) hx hb hts hinX7 hown hK hP 1 rfl rfl 5 (by decide) wn_0 (fun _ h9 => h9) rfl dX10_piece_20 ?_
        refine q_icmp_lt (pc := 23) (tgt := 29) hx hb dX10_piece_23 (by decide) rfl hf (fun hf => ?_) (fun hf => ?_)
        · refine lv_iload_n (pc := 29) hx hb dX10_piece_29 rfl (lv_at hl 2 rfl) ?_
          rcases q_if_e hf with ⟨hc0, hf⟩ | ⟨hc0, hf⟩
          · refine lv_lookup (pc := 30) (tgt := 56) (off := 26) hx hb dX10_piece_30 (by decide) (by rw [hc0]; decide) (by decide) ?_
            refine lv_aload_n (pc := 56) hx hb dX10_piece_56 rfl (lv_at hl 0 rfl) ?_
            refine va_get (pc := 57) (D := D) (ci := 10) (v := .ref a_st) (C := RX10) (T := TX10) (N := 14) hx hb hts hinX10 hown hK hP 0 rfl rfl 2 (by decide) w_1 (fun _ h9 => h9) rfl dX10_piece_57 ?_
            refine va_getN (pc := 60) (D := D) (ci := 7) (v := .ref a_st_levels) (C := RX7) (T := TX7) (N := 9) hx hb hts hinX7 hown hK hP 1 rfl rfl 1 (by decide) wn_26 (fun _ h9 => h9) rfl dX10_piece_60 ?_
            refine lv_iload_n (pc := 63) hx hb dX10_piece_63 rfl (lv_at hl 1 rfl) ?_
            refine q_iald (pc := 64) hx hb hK hP 2 0 hf rfl rfl dX10_piece_64 (fun v2 hf => ?_)
            obtain rfl := Option.some.inj hf
            rw [hQ]
            exact q_iretr (pc := 65) hx hb hr hlocks rfl hS dX10_piece_65
          rcases q_if_e hf with ⟨hc1, hf⟩ | ⟨hc1, hf⟩
          · refine lv_lookup (pc := 30) (tgt := 66) (off := 36) hx hb dX10_piece_30 (by decide) (by rw [hc1]; decide) (by decide) ?_
            refine lv_aload_n (pc := 66) hx hb dX10_piece_66 rfl (lv_at hl 0 rfl) ?_
            refine va_get (pc := 67) (D := D) (ci := 10) (v := .ref a_st) (C := RX10) (T := TX10) (N := 14) hx hb hts hinX10 hown hK hP 0 rfl rfl 2 (by decide) w_1 (fun _ h9 => h9) rfl dX10_piece_67 ?_
            refine va_getN (pc := 70) (D := D) (ci := 7) (v := .ref a_st_keys) (C := RX7) (T := TX7) (N := 9) hx hb hts hinX7 hown hK hP 1 rfl rfl 2 (by decide) wn_27 (fun _ h9 => h9) rfl dX10_piece_70 ?_
            refine lv_iload_n (pc := 73) hx hb dX10_piece_73 rfl (lv_at hl 1 rfl) ?_
            refine q_iald (pc := 74) hx hb hK hP 3 0 hf rfl rfl dX10_piece_74 (fun v3 hf => ?_)
            obtain rfl := Option.some.inj hf
            rw [hQ]
            exact q_iretr (pc := 75) hx hb hr hlocks rfl hS dX10_piece_75
          refine lv_lookup (pc := 30) (tgt := 76) (off := 46) hx hb dX10_piece_30 (by decide) ((lv_osw (k := 0) (a := 0) hc0 rfl).trans ((lv_osw (k := 1) (a := 1) hc1 rfl).trans rfl)) (by decide) ?_
          refine lv_aload_n (pc := 76) hx hb dX10_piece_76 rfl (lv_at hl 0 rfl) ?_
          refine va_get (pc := 77) (D := D) (ci := 10) (v := .ref a_st) (C := RX10) (T := TX10) (N := 14) hx hb hts hinX10 hown hK hP 0 rfl rfl 2 (by decide) w_1 (fun _ h9 => h9) rfl dX10_piece_77 ?_
          refine va_getN (pc := 80) (D := D) (ci := 7) (v := .ref a_st_years) (C := RX7) (T := TX7) (N := 9) hx hb hts hinX7 hown hK hP 1 rfl rfl 3 (by decide) wn_25 (fun _ h9 => h9) rfl dX10_piece_80 ?_
          refine lv_iload_n (pc := 83) hx hb dX10_piece_83 rfl (lv_at hl 1 rfl) ?_
          refine q_iald (pc := 84) hx hb hK hP 4 0 hf rfl rfl dX10_piece_84 (fun v4 hf => ?_)
          obtain rfl := Option.some.inj hf
          rw [hQ]
          exact q_iretr (pc := 85) hx hb hr hlocks rfl hS dX10_piece_85
        · refine lv_bipush (pc := 26) (v := (-2)) hx hb dX10_piece_26 (by decide) ?_
          obtain rfl := Option.some.inj hf
          rw [hQ]
          exact q_iretr (pc := 28) hx hb hr hlocks rfl hS dX10_piece_28
      · refine lv_iconst (pc := 13) (v := (-1)) hx hb dX10_piece_13 (by decide) ?_
        obtain rfl := Option.some.inj hf
        rw [hQ]
        exact q_iretr (pc := 14) hx hb hr hlocks rfl hS dX10_piece_14
  exact hgo _ _ rfl hP hS
/-! X10_reach -/
set_option maxRecDepth 100000 in
set_option maxHeartbeats 4000000 in
theorem c_X_reach (l : Launch) (D : va_G) (ci : Nat → ClassId) (A : Nat → Prop) (sa : Nat → Nat) (N : Nat) (Rw : va_W) (a_x : Nat) (a_at : Nat) (a_g : Nat) (a_st : Nat) (a_x_kept : Nat) (a_tp : Nat) (a_rd : Nat) (a_qu : Nat) (a_sp : Nat) (a_wk : Nat) (a_bx : Nat) (a_nt : Nat) (a_nu : Nat) (a_x_seen : Nat) (a_ws : Nat) (a_wk_steps : Nat) (a_wk_reached : Nat) (n_wk_steps : Nat) (n_wk_reached : Nat) (a_ws_first : Nat) (a_ws_many : Nat) (a_ws_corner : Nat) (a_g_rowCuts : Nat) (a_g_columnCuts : Nat) (a_g_bandRows : Nat) (a_g_zoneColumns : Nat) (a_g_rows : Nat) (a_g_sheets : Nat) (x_keptStates : Int32) (wk_many : Int32) (wk_steps : Nat → Int32) (wk_reached : Nat → Int32) (ws_cornerCount : Int32) (ws_level : Int32) (ws_row : Int32) (ws_start : Int32) (ws_place : Int32) (ws_length : Int32) (ws_cap : Int32) (ws_first : Nat → Int32) (ws_many : Nat → Int32) (g_bandRows : Nat → Int32) (g_zoneColumns : Nat → Int32) (g_rows : Nat → Int32) (g_sheets : Nat → Int32) (p1 : Int32) (p2 : Int32) (p3 : Int32) (r : Int32) (o1 : Nat → Int32) (o2 : Nat → Int32) (o3 : Int32) (o4 : Nat → Int32) (o5 : Nat → Int32) (o6 : Int32) (o7 : Int32) (o8 : Int32) (o9 : Int32) (o10 : Int32) (o11 : Int32) (hf : f_X_reach N n_wk_steps n_wk_reached wk_steps wk_reached wk_many ws_first ws_many ws_level ws_row ws_start ws_place ws_length ws_cap g_bandRows g_zoneColumns g_rows g_sheets p1 p2 p3 = some (r, o1, o2, o3, o4, o5, o6, o7, o8, o9, o10, o11)) : Met l yX10_reach wsX10_reach ({ frames := 4, cells := 0, slots := 0, locals := 112 }) (va_Pc [.ref a_x, .int p1, .int p2, .int p3] (q_N D ci A sa ((a_x, .inr (10, [.ref a_at, .ref a_g, .ref a_st, .ref a_x_kept, .int x_keptStates, .ref a_tp, .ref a_rd, .ref a_qu, .ref a_sp, .ref a_wk, .ref a_bx, .ref a_nt, .ref a_nu, .ref a_x_seen])) :: (a_wk, .inr (9, [.ref a_ws, .ref a_wk_steps, .ref a_wk_reached, .int wk_many])) :: (a_wk_steps, .inl (ci 0, n_wk_steps, .inl wk_steps)) :: (a_wk_reached, .inl (ci 0, n_wk_reached, .inl wk_reached)) :: (a_ws, .inr (6, [.ref a_g, .ref a_ws_first, .ref a_ws_many, .ref a_ws_corner, .int ws_cornerCount, .int ws_level, .int ws_row, .int ws_start, .int ws_place, .int ws_length, .int ws_cap])) :: (a_ws_first, .inl (ci 0, 4, .inl ws_first)) :: (a_ws_many, .inl (ci 0, 4, .inl ws_many)) :: (a_g, .inr (2, [.ref a_g_rowCuts, .ref a_g_columnCuts, .ref a_g_bandRows, .ref a_g_zoneColumns, .ref a_g_rows, .ref a_g_sheets])) :: (a_g_bandRows, .inl (ci 0, 5, .inl g_bandRows)) :: (a_g_zoneColumns, .inl (ci 0, 5, .inl g_zoneColumns)) :: (a_g_rows, .inl (ci 0, 5, .inl g_rows)) :: (a_g_sheets, .inl (ci 0, 5, .inl g_sheets)) :: Rw))) (q_Q (some (.int r)) (q_O D A ((a_x, .inr (10, [.ref a_at, .ref a_g, .ref a_st, .ref a_x_kept, .int x_keptStates, .ref a_tp, .ref a_rd, .ref a_qu, .ref a_sp, .ref a_wk, .ref a_bx, .ref a_nt, .ref a_nu, .ref a_x_seen])) :: (a_wk, .inr (9, [.ref a_ws, .ref a_wk_steps, .ref a_wk_reached, .int o3])) :: (a_wk_steps, .inl (ci 0, n_wk_steps, .inl o1)) :: (a_wk_reached, .inl (ci 0, n_wk_reached, .inl o2)) :: (a_ws, .inr (6, [.ref a_g, .ref a_ws_first, .ref a_ws_many, .ref a_ws_corner, .int ws_cornerCount, .int o6, .int o7, .int o8, .int o9, .int o10, .int o11])) :: (a_ws_first, .inl (ci 0, 4, .inl o4)) :: (a_ws_many, .inl (ci 0, 4, .inl o5)) :: (a_g, .inr (2, [.ref a_g_rowCuts, .ref a_g_columnCuts, .ref a_g_bandRows, .ref a_g_zoneColumns, .ref a_g_rows, .ref a_g_sheets])) :: (a_g_bandRows, .inl (ci 0, 5, .inl g_bandRows)) :: (a_g_zoneColumns, .inl (ci 0, 5, .inl g_zoneColumns)) :: (a_g_rows, .inl (ci 0, 5, .inl g_rows)) :: (a_g_sheets, .inl (ci 0, 5, .inl g_sheets)) :: Rw)) A) 0 0 A := by
  refine q_ofW (cc := cX10_reach) (maxL := 4) (ret := (some .int)) [.ref a_x, .int p1, .int p2, .int p3] (plainFor_of_name (by decide)) rfl (Nat.le_of_ble_eq_true rfl) ?_
  intro p e s m below meth c ls Q hQ hx hb hml hr hts hown hlocks hK hA hZ hP hD hS hl
  have hl : lv_has ls 4 [(0, .ref a_x), (1, .int p1), (2, .int p2), (3, .int p3)] := hl
  have hown : s.vm.findClass RX10 = some m.cls := hown
  have hinX10 : ∀ w ∈ wsX100, w ∈ wsX10_reach := fun _ h => List.mem_cons_of_mem _ (inWX100 _ h)
  have hinX2 : ∀ w ∈ wsX20, w ∈ wsX10_reach := fun _ h => List.mem_cons_of_mem _ (inWX20 _ h)
  have w_1 := hts (Cond.fieldLink RX10 20 "SheetNames" "grid" "LSheetNames$Grid;") (List.mem_cons_of_mem _ t_w876)
  have w_2 := hts (Cond.fieldLink RX10 73 "SheetNames" "walk" "LSheetNames$Walk;") (List.mem_cons_of_mem _ t_w881)
  have wn_1 : (Cond.fieldLinkNest "SheetNames" 126 "SheetNames$Grid" "sheets" "[I" "SheetNames").before ([.ref a_x, .int p1, .int p2, .int p3] : List Value).toArray s = true := (hZ.2.2.2.2.2.2.2.2.2.1 _ (List.mem_of_getElem? (i := 1) rfl)).use rfl
  unfold f_X_reach at hf
  have hgo : ∀ (H : Heap) (locs : List Loc), H = s.heap → va_P D vwCl ((a_x, .inr (10, [.ref a_at, .ref a_g, .ref a_st, .ref a_x_kept, .int x_keptStates, .ref a_tp, .ref a_rd, .ref a_qu, .ref a_sp, .ref a_wk, .ref a_bx, .ref a_nt, .ref a_nu, .ref a_x_seen])) :: (a_wk, .inr (9, [.ref a_ws, .ref a_wk_steps, .ref a_wk_reached, .int wk_many])) :: (a_wk_steps, .inl (ci 0, n_wk_steps, .inl wk_steps)) :: (a_wk_reached, .inl (ci 0, n_wk_reached, .inl wk_reached)) :: (a_ws, .inr (6, [.ref a_g, .ref a_ws_first, .ref a_ws_many, .ref a_ws_corner, .int ws_cornerCount, .int ws_level, .int ws_row, .int ws_start, .int ws_place, .int ws_length, .int ws_cap])) :: (a_ws_first, .inl (ci 0, 4, .inl ws_first)) :: (a_ws_many, .inl (ci 0, 4, .inl ws_many)) :: (a_g, .inr (2, [.ref a_g_rowCuts, .ref a_g_columnCuts, .ref a_g_bandRows, .ref a_g_zoneColumns, .ref a_g_rows, .ref a_g_sheets])) :: (a_g_bandRows, .inl (ci 0, 5, .inl g_bandRows)) :: (a_g_zoneColumns, .inl (ci 0, 5, .inl g_zoneColumns)) :: (a_g_rows, .inl (ci 0, 5, .inl g_rows)) :: (a_g_sheets, .inl (ci 0, 5, .inl g_sheets)) :: Rw) H → va_S A s.heap H locs → W p l e ({ frames := 4, cells := 0, slots := 0, locals := 112 } : Room) s m ([.ref a_x, .int p1, .int p2, .int p3] : List Value).toArray below meth c H locs 0 0 Q (F0 m 0 ls []) := by
    intro H locs hH hP hS
    refine lv_aload_n (pc := 0) hx hb dX10_reach_0 rfl (lv_at hl 0 rfl) ?_
    refine va_get (pc := 1) (D := D) (ci := 10) (v := .ref a_g) (C := RX10) (T := TX10) (N := 14) hx hb hts hinX10 hown hK hP 0 rfl rfl 1 (by decide) w_1 (fun _ h9 => h9) rfl dX10_reach_1 ?_
    refine lv_iload_n (pc := 4) hx hb dX10_reach_4 rfl (lv_at hl 1 rfl) ?_
    refine lv_iload_n (pc := 5) hx hb dX10_reach_5 rfl (lv_at hl 2 rfl) ?_
    obtain ⟨v1, hm6, hf⟩ := q_b1_e hf
    refine q_cVr (pc := 6) (As := [.int p1, .int p2]) (rest := []) (v0 := (some (.int v1))) ⟨hx, hb, hml, hown, hts⟩ hK hA hZ hP hD hS hl.1 [7, 11] 12 rfl ⟨rfl, rfl, rfl⟩ (c_Grid_hasSheet l D ci A sa N (Rw) a_g a_g_rowCuts a_g_columnCuts a_g_bandRows a_g_zoneColumns a_g_rows a_g_sheets g_sheets p1 p2 v1 hm6) 7 rfl rfl (cwV 2 hts gX10_reach_X2_hasSheet rfl rfl rfl (by decide +kernel) ⟨Nat.le_of_ble_eq_true rfl, Nat.le_of_ble_eq_true rfl⟩) rfl rfl (Nat.le_of_ble_eq_true rfl) dX10_reach_6 ⟨Nat.zero_le _, Nat.zero_le _⟩ (fun locs hS => ?_)
    refine q_if_eq (pc := 9) (tgt := 16) hx hb dX10_reach_9 (by decide) rfl hf (fun hf => ?_) (fun hf => ?_)
    · refine lv_iconst (pc := 16) (v := (-1)) hx hb dX10_reach_16 (by decide) ?_
      obtain ⟨e90, e91, e92, e93, e94, e95, e96, e97, e98, e99, e910, e911⟩ := q_inj12 (Option.some.inj hf)
      rw [hQ, ← e90, ← e91, ← e92, ← e93, ← e94, ← e95, ← e96, ← e97, ← e98, ← e99, ← e910, ← e911]
      exact q_iret (pc := 17) hx hb hr hlocks hP hD hS dX10_reach_17
    · refine lv_iload_n (pc := 12) hx hb dX10_reach_12 rfl (lv_at hl 3 rfl) ?_
      refine q_if_ge (pc := 13) (tgt := 18) hx hb dX10_reach_13 (by decide) rfl hf (fun hf => ?_) (fun hf => ?_)
      · refine lv_aload_n (pc := 18) hx hb dX10_reach_18 rfl (lv_at hl 0 rfl) ?_
        refine va_get (pc := 19) (D := D) (ci := 10) (v := .ref a_g) (C := RX10) (T := TX10) (N := 14) hx hb hts hinX10 hown hK hP 0 rfl rfl 1 (by decide) w_1 (fun _ h9 => h9) rfl dX10_reach_19 ?_
        refine va_getN (pc := 22) (D := D) (ci := 2) (v := .ref a_g_sheets) (C := RX2) (T := TX2) (N := 6) hx hb hts hinX2 hown hK hP 7 rfl rfl 5 (by decide) wn_1 (fun _ h9 => h9) rfl dX10_reach_22 ?_
        refine lv_iload_n (pc := 25) hx hb dX10_reach_25 rfl (lv_at hl 1 rfl) ?_
        refine q_iald (pc := 26) hx hb hK hP 11 0 hf rfl rfl dX10_reach_26 (fun v2 hf => ?_)
        refine lv_sipush (pc := 27) (v := 20000) hx hb dX10_reach_27 (by decide) ?_
        refine q_icmp_le (pc := 30) (tgt := 36) hx hb dX10_reach_30 (by decide) rfl hf (fun hf => ?_) (fun hf => ?_)
        · refine lv_aload_n (pc := 36) hx hb dX10_reach_36 rfl (lv_at hl 0 rfl) ?_
          refine va_get (pc := 37) (D := D) (ci := 10) (v := .ref a_wk) (C := RX10) (T := TX10) (N := 14) hx hb hts hinX10 hown hK hP 0 rfl rfl 9 (by decide) w_2 (fun _ h9 => h9) rfl dX10_reach_37 ?_
          refine lv_iload_n (pc := 40) hx hb dX10_reach_40 rfl (lv_at hl 1 rfl) ?_
          refine lv_iload_n (pc := 41) hx hb dX10_reach_41 rfl (lv_at hl 2 rfl) ?_
          obtain ⟨f3, f4, v5, f6, f7, v8, v9, v10, v11, v12, v13, hm42, hf⟩ := q_b11_e hf
          refine q_cV (pc := 42) (As := [.int p1, .int p2]) (rest := []) (v0 := none) ⟨hx, hb, hml, hown, hts⟩ hK hA hZ hP hD hS hl.1 [1, 2, 3, 4, 5, 6, 7, 8, 9, 10, 11, 0] 12 rfl ⟨rfl, rfl, rfl⟩ (c_Walk_spread l D ci A sa N ((a_x, .inr (10, [.ref a_at, .ref a_g, .ref a_st, .ref a_x_kept, .int x_keptStates, .ref a_tp, .ref a_rd, .ref a_qu, .ref a_sp, .ref a_wk, .ref a_bx, .ref a_nt, .ref a_nu, .ref a_x_seen])) :: Rw) a_wk a_ws a_wk_steps a_wk_reached n_wk_steps n_wk_reached a_g a_ws_first a_ws_many a_ws_corner a_g_rowCuts a_g_columnCuts a_g_bandRows a_g_zoneColumns a_g_rows a_g_sheets wk_many wk_steps wk_reached ws_cornerCount ws_level ws_row ws_start ws_place ws_length ws_cap ws_first ws_many g_bandRows g_zoneColumns g_rows g_sheets p1 p2 f3 f4 v5 f6 f7 v8 v9 v10 v11 v12 v13 hm42) 1 rfl rfl (cwV 2 hts gX10_reach_X9_spread rfl rfl rfl (by decide +kernel) ⟨Nat.le_of_ble_eq_true rfl, Nat.le_of_ble_eq_true rfl⟩) rfl rfl (Nat.le_of_ble_eq_true rfl) dX10_reach_42 ⟨Nat.zero_le _, Nat.zero_le _⟩ [11, 0, 1, 2, 3, 4, 5, 6, 7, 8, 9, 10] 12 rfl ⟨rfl, rfl, rfl⟩ (fun H locs hP hD hS => ?_)
          obtain ⟨hP, hD⟩ : va_PD D A ((a_x, .inr (10, [.ref a_at, .ref a_g, .ref a_st, .ref a_x_kept, .int x_keptStates, .ref a_tp, .ref a_rd, .ref a_qu, .ref a_sp, .ref a_wk, .ref a_bx, .ref a_nt, .ref a_nu, .ref a_x_seen])) :: (a_wk, .inr (9, [.ref a_ws, .ref a_wk_steps, .ref a_wk_reached, .int v5])) :: (a_wk_steps, .inl (ci 0, n_wk_steps, .inl f3)) :: (a_wk_reached, .inl (ci 0, n_wk_reached, .inl f4)) :: (a_ws, .inr (6, [.ref a_g, .ref a_ws_first, .ref a_ws_many, .ref a_ws_corner, .int ws_cornerCount, .int v8, .int v9, .int v10, .int v11, .int v12, .int v13])) :: (a_ws_first, .inl (ci 0, 4, .inl f6)) :: (a_ws_many, .inl (ci 0, 4, .inl f7)) :: (a_g, .inr (2, [.ref a_g_rowCuts, .ref a_g_columnCuts, .ref a_g_bandRows, .ref a_g_zoneColumns, .ref a_g_rows, .ref a_g_sheets])) :: (a_g_bandRows, .inl (ci 0, 5, .inl g_bandRows)) :: (a_g_zoneColumns, .inl (ci 0, 5, .inl g_zoneColumns)) :: (a_g_rows, .inl (ci 0, 5, .inl g_rows)) :: (a_g_sheets, .inl (ci 0, 5, .inl g_sheets)) :: Rw) H := ⟨hP, hD⟩
          refine lv_aload_n (pc := 45) hx hb dX10_reach_45 rfl (lv_at hl 0 rfl) ?_
          refine va_get (pc := 46) (D := D) (ci := 10) (v := .ref a_wk) (C := RX10) (T := TX10) (N := 14) hx hb hts hinX10 hown hK hP 0 rfl rfl 9 (by decide) w_2 (fun _ h9 => h9) rfl dX10_reach_46 ?_
          refine lv_iload_n (pc := 49) hx hb dX10_reach_49 rfl (lv_at hl 3 rfl) ?_
          obtain ⟨v14, hm50, hf⟩ := q_b1_e hf
          refine q_cVr (pc := 50) (As := [.int p3]) (rest := []) (v0 := (some (.int v14))) ⟨hx, hb, hml, hown, hts⟩ hK hA hZ hP hD hS hl.1 [1, 2] 12 rfl ⟨rfl, rfl, rfl⟩ (c_Walk_within l D ci A sa N (Rw) a_wk a_ws a_wk_steps a_wk_reached n_wk_steps v5 f3 p3 v14 hm50) 1 rfl rfl (cwV 1 hts gX10_reach_X9_within rfl rfl rfl (by decide +kernel) ⟨Nat.le_of_ble_eq_true rfl, Nat.le_of_ble_eq_true rfl⟩) rfl rfl (Nat.le_of_ble_eq_true rfl) dX10_reach_50 ⟨Nat.zero_le _, Nat.zero_le _⟩ (fun locs hS => ?_)
          obtain ⟨e90, e91, e92, e93, e94, e95, e96, e97, e98, e99, e910, e911⟩ := q_inj12 (Option.some.inj hf)
          rw [hQ, ← e90, ← e91, ← e92, ← e93, ← e94, ← e95, ← e96, ← e97, ← e98, ← e99, ← e910, ← e911]
          exact q_iret (pc := 53) hx hb hr hlocks hP hD hS dX10_reach_53
        · refine lv_bipush (pc := 33) (v := (-3)) hx hb dX10_reach_33 (by decide) ?_
          obtain ⟨e90, e91, e92, e93, e94, e95, e96, e97, e98, e99, e910, e911⟩ := q_inj12 (Option.some.inj hf)
          rw [hQ, ← e90, ← e91, ← e92, ← e93, ← e94, ← e95, ← e96, ← e97, ← e98, ← e99, ← e910, ← e911]
          exact q_iret (pc := 35) hx hb hr hlocks hP hD hS dX10_reach_35
      · refine lv_iconst (pc := 16) (v := (-1)) hx hb dX10_reach_16 (by decide) ?_
        obtain ⟨e90, e91, e92, e93, e94, e95, e96, e97, e98, e99, e910, e911⟩ := q_inj12 (Option.some.inj hf)
        rw [hQ, ← e90, ← e91, ← e92, ← e93, ← e94, ← e95, ← e96, ← e97, ← e98, ← e99, ← e910, ← e911]
        exact q_iret (pc := 17) hx hb hr hlocks hP hD hS dX10_reach_17
  exact hgo _ _ rfl hP hS
/-! X10_renew -/
set_option maxRecDepth 100000 in
set_option maxHeartbeats 4000000 in
theorem c_X_renew (l : Launch) (D : va_G) (ci : Nat → ClassId) (A : Nat → Prop) (sa : Nat → Nat) (N : Nat) (Rw : va_W) (a_x : Nat) (a_at : Nat) (a_g : Nat) (a_st : Nat) (a_x_kept : Nat) (a_tp : Nat) (a_rd : Nat) (a_qu : Nat) (a_sp : Nat) (a_wk : Nat) (a_bx : Nat) (a_nt : Nat) (a_nu : Nat) (a_x_seen : Nat) (a_st_levels : Nat) (a_st_keys : Nat) (a_st_years : Nat) (a_st_keysThere : Nat) (x_keptStates : Int32) (st_size : Int32) (st_shownBy : Int32) (st_deepestShown : Int32) (st_latestShown : Int32) (st_levels : Nat → Int32) (st_years : Nat → Int32) (p1 : Int32) (p2 : Int32) (r : Int32) (o1 : Nat → Int32) (hf : f_X_renew N st_levels st_years st_size p1 p2 = some (r, o1)) : Met l yX10_renew wsX10_renew ({ frames := 1, cells := 0, slots := 0, locals := 22 }) (va_Pc [.ref a_x, .int p1, .int p2] (q_N D ci A sa ((a_x, .inr (10, [.ref a_at, .ref a_g, .ref a_st, .ref a_x_kept, .int x_keptStates, .ref a_tp, .ref a_rd, .ref a_qu, .ref a_sp, .ref a_wk, .ref a_bx, .ref a_nt, .ref a_nu, .ref a_x_seen])) :: (a_st, .inr (7, [.ref a_g, .ref a_st_levels, .ref a_st_keys, .ref a_st_years, .ref a_st_keysThere, .int st_size, .int st_shownBy, .int st_deepestShown, .int st_latestShown])) :: (a_st_levels, .inl (ci 0, 60, .inl st_levels)) :: (a_st_years, .inl (ci 0, 60, .inl st_years)) :: Rw))) (q_Q (some (.int r)) (q_O D A ((a_x, .inr (10, [.ref a_at, .ref a_g, .ref a_st, .ref a_x_kept, .int x_keptStates, .ref a_tp, .ref a_rd, .ref a_qu, .ref a_sp, .ref a_wk, .ref a_bx, .ref a_nt, .ref a_nu, .ref a_x_seen])) :: (a_st, .inr (7, [.ref a_g, .ref a_st_levels, .ref a_st_keys, .ref a_st_years, .ref a_st_keysThere, .int st_size, .int st_shownBy, .int st_deepestShown, .int st_latestShown])) :: (a_st_levels, .inl (ci 0, 60, .inl st_levels)) :: (a_st_years, .inl (ci 0, 60, .inl o1)) :: Rw)) A) 0 0 A := by
  refine q_ofW (cc := cX10_renew) (maxL := 5) (ret := (some .int)) [.ref a_x, .int p1, .int p2] (plainFor_of_name (by decide)) rfl (Nat.le_of_ble_eq_true rfl) ?_
  intro p e s m below meth c ls Q hQ hx hb hml hr hts hown hlocks hK hA hZ hP hD hS hl
  have hl : lv_has ls 5 [(0, .ref a_x), (1, .int p1), (2, .int p2)] := hl
  have hown : s.vm.findClass RX10 = some m.cls := hown
  have hinX10 : ∀ w ∈ wsX100, w ∈ wsX10_renew := fun _ h => List.mem_cons_of_mem _ (inWX100 _ h)
  have hinX7 : ∀ w ∈ wsX70, w ∈ wsX10_renew := fun _ h => List.mem_cons_of_mem _ (inWX70 _ h)
  have w_1 := hts (Cond.fieldLink RX10 25 "SheetNames" "pieces" "LSheetNames$Store;") (List.mem_cons_of_mem _ t_w892)
  have wn_0 : (Cond.fieldLinkNest "SheetNames" 109 "SheetNames$Store" "size" "I" "SheetNames").before ([.ref a_x, .int p1, .int p2] : List Value).toArray s = true := (hZ.2.2.2.2.2.2.2.2.2.1 _ (List.mem_of_getElem? (i := 0) rfl)).use rfl
  have wn_25 : (Cond.fieldLinkNest "SheetNames" 376 "SheetNames$Store" "years" "[I" "SheetNames").before ([.ref a_x, .int p1, .int p2] : List Value).toArray s = true := (hZ.2.2.2.2.2.2.2.2.2.1 _ (List.mem_of_getElem? (i := 25) rfl)).use rfl
  have wn_26 : (Cond.fieldLinkNest "SheetNames" 382 "SheetNames$Store" "levels" "[I" "SheetNames").before ([.ref a_x, .int p1, .int p2] : List Value).toArray s = true := (hZ.2.2.2.2.2.2.2.2.2.1 _ (List.mem_of_getElem? (i := 26) rfl)).use rfl
  unfold f_X_renew at hf
  have hgo : ∀ (H : Heap) (locs : List Loc), H = s.heap → va_P D vwCl ((a_x, .inr (10, [.ref a_at, .ref a_g, .ref a_st, .ref a_x_kept, .int x_keptStates, .ref a_tp, .ref a_rd, .ref a_qu, .ref a_sp, .ref a_wk, .ref a_bx, .ref a_nt, .ref a_nu, .ref a_x_seen])) :: (a_st, .inr (7, [.ref a_g, .ref a_st_levels, .ref a_st_keys, .ref a_st_years, .ref a_st_keysThere, .int st_size, .int st_shownBy, .int st_deepestShown, .int st_latestShown])) :: (a_st_levels, .inl (ci 0, 60, .inl st_levels)) :: (a_st_years, .inl (ci 0, 60, .inl st_years)) :: Rw) H → va_S A s.heap H locs → W p l e ({ frames := 1, cells := 0, slots := 0, locals := 22 } : Room) s m ([.ref a_x, .int p1, .int p2] : List Value).toArray below meth c H locs 0 0 Q (F0 m 0 ls []) := by
    intro H locs hH hP hS
    refine lv_iload_n (pc := 0) hx hb dX10_renew_0 rfl (lv_at hl 1 rfl) ?_
    obtain ⟨v1, hm1, hf⟩ := q_b1_e hf
    refine q_cSr (pc := 1) (As := [.int p1]) (rest := []) (v0 := (some (.int v1))) ⟨hx, hb, hml, hown, hts⟩ hK hA hZ hP hD hS hl.1 [] 4 rfl ⟨rfl, rfl, rfl⟩ (c_X_isLevel l D ci A sa N (Rw) p1 v1 hm1) (va_cwS 1 hts gX10_renew_X10_isLevel rfl rfl rfl (by decide +kernel) ⟨Nat.le_of_ble_eq_true rfl, Nat.le_of_ble_eq_true rfl⟩) rfl rfl (Nat.le_of_ble_eq_true rfl) dX10_renew_1 ⟨Nat.zero_le _, Nat.zero_le _⟩ (fun locs hS => ?_)
    refine q_if_eq (pc := 4) (tgt := 20) hx hb dX10_renew_4 (by decide) rfl hf (fun hf => ?_) (fun hf => ?_)
    · refine lv_iconst (pc := 20) (v := (-1)) hx hb dX10_renew_20 (by decide) ?_
      obtain ⟨rfl, rfl⟩ := q_inj2 (Option.some.inj hf)
      rw [hQ]
      exact q_iret (pc := 21) hx hb hr hlocks hP hD hS dX10_renew_21
    · refine lv_iload_n (pc := 7) hx hb dX10_renew_7 rfl (lv_at hl 2 rfl) ?_
      refine lv_sipush (pc := 8) (v := 1800) hx hb dX10_renew_8 (by decide) ?_
      refine lv_sipush (pc := 11) (v := 2100) hx hb dX10_renew_11 (by decide) ?_
      obtain ⟨v2, hm14, hf⟩ := q_b1_e hf
      refine q_cSr (pc := 14) (As := [.int p2, .int 1800, .int 2100]) (rest := []) (v0 := (some (.int v2))) ⟨hx, hb, hml, hown, hts⟩ hK hA hZ hP hD hS hl.1 [] 4 rfl ⟨rfl, rfl, rfl⟩ (c_X_isFrom l D ci A sa N (Rw) p2 1800 2100 v2 hm14) (va_cwS 3 hts gX10_renew_X10_isFrom rfl rfl rfl (by decide +kernel) ⟨Nat.le_of_ble_eq_true rfl, Nat.le_of_ble_eq_true rfl⟩) rfl rfl (Nat.le_of_ble_eq_true rfl) dX10_renew_14 ⟨Nat.zero_le _, Nat.zero_le _⟩ (fun locs hS => ?_)
      refine q_if_ne (pc := 17) (tgt := 22) hx hb dX10_renew_17 (by decide) rfl hf (fun hf => ?_) (fun hf => ?_)
      · refine lv_iconst (pc := 22) (v := 0) hx hb dX10_renew_22 (by decide) ?_
        obtain ⟨v3, ev3, hf⟩ := q_nm_e hf
        refine q_topi ev3 ?_
        refine lv_istore_n (pc := 23) (lv' := [(3, .int v3), (0, .ref a_x), (1, .int p1), (2, .int p2)]) hx hb dX10_renew_23 rfl hl (by decide) rfl (fun ls hl => ?_)
        refine lv_iconst (pc := 24) (v := 0) hx hb dX10_renew_24 (by decide) ?_
        obtain ⟨v4, ev4, hf⟩ := q_nm_e hf
        refine q_topi ev4 ?_
        refine lv_istore (pc := 25) (lv' := [(4, .int v4), (3, .int v3), (0, .ref a_x), (1, .int p1), (2, .int p2)]) hx hb dX10_renew_25 hl (by decide) rfl (fun ls hl => ?_)
        obtain ⟨v8, f9, hm27, hf⟩ := q_b2_e hf
        have JE27 : ∀ (H : Heap) (locs : List Loc) (ls : Array Slot), va_P D vwCl ((a_x, .inr (10, [.ref a_at, .ref a_g, .ref a_st, .ref a_x_kept, .int x_keptStates, .ref a_tp, .ref a_rd, .ref a_qu, .ref a_sp, .ref a_wk, .ref a_bx, .ref a_nt, .ref a_nu, .ref a_x_seen])) :: (a_st, .inr (7, [.ref a_g, .ref a_st_levels, .ref a_st_keys, .ref a_st_years, .ref a_st_keysThere, .int st_size, .int st_shownBy, .int st_deepestShown, .int st_latestShown])) :: (a_st_levels, .inl (ci 0, 60, .inl st_levels)) :: (a_st_years, .inl (ci 0, 60, .inl f9)) :: Rw) H → va_D A ((a_x, .inr (10, [.ref a_at, .ref a_g, .ref a_st, .ref a_x_kept, .int x_keptStates, .ref a_tp, .ref a_rd, .ref a_qu, .ref a_sp, .ref a_wk, .ref a_bx, .ref a_nt, .ref a_nu, .ref a_x_seen])) :: (a_st, .inr (7, [.ref a_g, .ref a_st_levels, .ref a_st_keys, .ref a_st_years, .ref a_st_keysThere, .int st_size, .int st_shownBy, .int st_deepestShown, .int st_latestShown])) :: (a_st_levels, .inl (ci 0, 60, .inl st_levels)) :: (a_st_years, .inl (ci 0, 60, .inl f9)) :: Rw) → va_S A s.heap H locs → lv_has ls 5 [(3, .int v8)] → W p l e ({ frames := 1, cells := 0, slots := 0, locals := 22 } : Room) s m ([.ref a_x, .int p1, .int p2] : List Value).toArray below meth c H locs 0 0 Q (F0 m 87 ls []) := by
          intro H locs ls hP hD hS hl
          refine lv_iload_n (pc := 87) hx hb dX10_renew_87 rfl (lv_at hl 0 rfl) ?_
          obtain ⟨rfl, rfl⟩ := q_inj2 (Option.some.inj hf)
          rw [hQ]
          exact q_iret (pc := 88) hx hb hr hlocks hP hD hS dX10_renew_88
        have LP27 : ∀ (n27 : Nat) (v5 : Int32) (v6 : Int32) (f7 : Nat → Int32) (H : Heap) (locs : List Loc) (ls : Array Slot), f_X_renew_L27 p1 p2 st_levels st_size n27 v5 v6 f7 = some (v8, f9) → va_P D vwCl ((a_x, .inr (10, [.ref a_at, .ref a_g, .ref a_st, .ref a_x_kept, .int x_keptStates, .ref a_tp, .ref a_rd, .ref a_qu, .ref a_sp, .ref a_wk, .ref a_bx, .ref a_nt, .ref a_nu, .ref a_x_seen])) :: (a_st, .inr (7, [.ref a_g, .ref a_st_levels, .ref a_st_keys, .ref a_st_years, .ref a_st_keysThere, .int st_size, .int st_shownBy, .int st_deepestShown, .int st_latestShown])) :: (a_st_levels, .inl (ci 0, 60, .inl st_levels)) :: (a_st_years, .inl (ci 0, 60, .inl f7)) :: Rw) H → va_D A ((a_x, .inr (10, [.ref a_at, .ref a_g, .ref a_st, .ref a_x_kept, .int x_keptStates, .ref a_tp, .ref a_rd, .ref a_qu, .ref a_sp, .ref a_wk, .ref a_bx, .ref a_nt, .ref a_nu, .ref a_x_seen])) :: (a_st, .inr (7, [.ref a_g, .ref a_st_levels, .ref a_st_keys, .ref a_st_years, .ref a_st_keysThere, .int st_size, .int st_shownBy, .int st_deepestShown, .int st_latestShown])) :: (a_st_levels, .inl (ci 0, 60, .inl st_levels)) :: (a_st_years, .inl (ci 0, 60, .inl f7)) :: Rw) → va_S A s.heap H locs → lv_has ls 5 [(0, .ref a_x), (1, .int p1), (2, .int p2), (3, .int v5), (4, .int v6)] → W p l e ({ frames := 1, cells := 0, slots := 0, locals := 22 } : Room) s m ([.ref a_x, .int p1, .int p2] : List Value).toArray below meth c H locs 0 0 Q (F0 m 27 ls []) := by
          intro n27
          induction n27 with
          | zero => intro v5 v6 f7 H locs ls hf; rw [f_X_renew_L27] at hf; cases hf
          | succ n27 ih27 =>
            intro v5 v6 f7 H locs ls hf hP hD hS hl
            rw [f_X_renew_L27] at hf
            refine lv_iload (pc := 27) hx hb dX10_renew_27 (lv_at hl 4 rfl) ?_
            refine lv_aload_n (pc := 29) hx hb dX10_renew_29 rfl (lv_at hl 0 rfl) ?_
            refine va_get (pc := 30) (D := D) (ci := 10) (v := .ref a_st) (C := RX10) (T := TX10) (N := 14) hx hb hts hinX10 hown hK hP 0 rfl rfl 2 (by decide) w_1 (fun _ h9 => h9) rfl dX10_renew_30 ?_
            refine va_getN (pc := 33) (D := D) (ci := 7) (v := .int st_size) (C := RX7) (T := TX7) (N := 9) hx hb hts hinX7 hown hK hP 1 rfl rfl 5 (by decide) wn_0 (fun _ h9 => h9) rfl dX10_renew_33 ?_
            refine q_icmp_ge (pc := 36) (tgt := 87) hx hb dX10_renew_36 (by decide) rfl hf (fun hf => ?_) (fun hf => ?_)
            · obtain ⟨rfl, rfl⟩ := q_inj2 (Option.some.inj hf)
              exact JE27 _ _ _ hP hD hS (lv_sub hl [3] rfl)
            · refine lv_aload_n (pc := 39) hx hb dX10_renew_39 rfl (lv_at hl 0 rfl) ?_
              refine va_get (pc := 40) (D := D) (ci := 10) (v := .ref a_st) (C := RX10) (T := TX10) (N := 14) hx hb hts hinX10 hown hK hP 0 rfl rfl 2 (by decide) w_1 (fun _ h9 => h9) rfl dX10_renew_40 ?_
              refine va_getN (pc := 43) (D := D) (ci := 7) (v := .ref a_st_levels) (C := RX7) (T := TX7) (N := 9) hx hb hts hinX7 hown hK hP 1 rfl rfl 1 (by decide) wn_26 (fun _ h9 => h9) rfl dX10_renew_43 ?_
              refine lv_iload (pc := 46) hx hb dX10_renew_46 (lv_at hl 4 rfl) ?_
              refine q_iald (pc := 48) hx hb hK hP 2 0 hf rfl rfl dX10_renew_48 (fun v10 hf => ?_)
              refine lv_iload_n (pc := 49) hx hb dX10_renew_49 rfl (lv_at hl 1 rfl) ?_
              obtain ⟨k81, ek81, hf⟩ := q_j2_e hf
              have J81 : ∀ (v11 : Int32) (f12 : Nat → Int32) (H : Heap) (locs : List Loc) (ls : Array Slot), k81 v11 f12 = some (v8, f9) → va_P D vwCl ((a_x, .inr (10, [.ref a_at, .ref a_g, .ref a_st, .ref a_x_kept, .int x_keptStates, .ref a_tp, .ref a_rd, .ref a_qu, .ref a_sp, .ref a_wk, .ref a_bx, .ref a_nt, .ref a_nu, .ref a_x_seen])) :: (a_st, .inr (7, [.ref a_g, .ref a_st_levels, .ref a_st_keys, .ref a_st_years, .ref a_st_keysThere, .int st_size, .int st_shownBy, .int st_deepestShown, .int st_latestShown])) :: (a_st_levels, .inl (ci 0, 60, .inl st_levels)) :: (a_st_years, .inl (ci 0, 60, .inl f12)) :: Rw) H → va_D A ((a_x, .inr (10, [.ref a_at, .ref a_g, .ref a_st, .ref a_x_kept, .int x_keptStates, .ref a_tp, .ref a_rd, .ref a_qu, .ref a_sp, .ref a_wk, .ref a_bx, .ref a_nt, .ref a_nu, .ref a_x_seen])) :: (a_st, .inr (7, [.ref a_g, .ref a_st_levels, .ref a_st_keys, .ref a_st_years, .ref a_st_keysThere, .int st_size, .int st_shownBy, .int st_deepestShown, .int st_latestShown])) :: (a_st_levels, .inl (ci 0, 60, .inl st_levels)) :: (a_st_years, .inl (ci 0, 60, .inl f12)) :: Rw) → va_S A s.heap H locs → lv_has ls 5 [(0, .ref a_x), (1, .int p1), (2, .int p2), (3, .int v11), (4, .int v6)] → W p l e ({ frames := 1, cells := 0, slots := 0, locals := 22 } : Room) s m ([.ref a_x, .int p1, .int p2] : List Value).toArray below meth c H locs 0 0 Q (F0 m 81 ls []) := by
                intro v11 f12 H locs ls hf hP hD hS hl
                have hf := (ek81 v11 f12).symm.trans hf
                obtain ⟨v13, ev13, hf⟩ := q_nm_e hf
                refine lv_iinc (pc := 81) (v := v13) (lv' := [(4, .int v13), (0, .ref a_x), (1, .int p1), (2, .int p2), (3, .int v11)]) hx hb dX10_renew_81 hl (k := 4) rfl (by rw [ev13]; rfl) (by decide) rfl (fun ls hl => ?_)
                refine lv_goto (pc := 84) (tgt := 27) hx hb dX10_renew_84 (by decide) ?_
                exact ih27 v11 v13 f12 _ _ _ hf hP hD hS (lv_sub hl [1, 2, 3, 4, 0] rfl)
              refine q_icmp_ne (pc := 50) (tgt := 81) hx hb dX10_renew_50 (by decide) rfl hf (fun hf => ?_) (fun hf => ?_)
              · exact J81 v5 f7 _ _ _ hf hP hD hS (lv_sub hl [0, 1, 2, 3, 4] rfl)
              · refine lv_aload_n (pc := 53) hx hb dX10_renew_53 rfl (lv_at hl 0 rfl) ?_
                refine va_get (pc := 54) (D := D) (ci := 10) (v := .ref a_st) (C := RX10) (T := TX10) (N := 14) hx hb hts hinX10 hown hK hP 0 rfl rfl 2 (by decide) w_1 (fun _ h9 => h9) rfl dX10_renew_54 ?_
                refine va_getN (pc := 57) (D := D) (ci := 7) (v := .ref a_st_years) (C := RX7) (T := TX7) (N := 9) hx hb hts hinX7 hown hK hP 1 rfl rfl 3 (by decide) wn_25 (fun _ h9 => h9) rfl dX10_renew_57 ?_
                refine lv_iload (pc := 60) hx hb dX10_renew_60 (lv_at hl 4 rfl) ?_
                refine q_iald (pc := 62) hx hb hK hP 3 0 hf rfl rfl dX10_renew_62 (fun v14 hf => ?_)
                refine lv_iload_n (pc := 63) hx hb dX10_renew_63 rfl (lv_at hl 2 rfl) ?_
                refine q_icmp_ge (pc := 64) (tgt := 81) hx hb dX10_renew_64 (by decide) rfl hf (fun hf => ?_) (fun hf => ?_)
                · exact J81 v5 f7 _ _ _ hf hP hD hS (lv_sub hl [0, 1, 2, 3, 4] rfl)
                · refine lv_aload_n (pc := 67) hx hb dX10_renew_67 rfl (lv_at hl 0 rfl) ?_
                  refine va_get (pc := 68) (D := D) (ci := 10) (v := .ref a_st) (C := RX10) (T := TX10) (N := 14) hx hb hts hinX10 hown hK hP 0 rfl rfl 2 (by decide) w_1 (fun _ h9 => h9) rfl dX10_renew_68 ?_
                  refine va_getN (pc := 71) (D := D) (ci := 7) (v := .ref a_st_years) (C := RX7) (T := TX7) (N := 9) hx hb hts hinX7 hown hK hP 1 rfl rfl 3 (by decide) wn_25 (fun _ h9 => h9) rfl dX10_renew_71 ?_
                  refine lv_iload (pc := 74) hx hb dX10_renew_74 (lv_at hl 4 rfl) ?_
                  refine lv_iload_n (pc := 76) hx hb dX10_renew_76 rfl (lv_at hl 2 rfl) ?_
                  refine q_iast (pc := 77) hx hb hK hP hD hS 3 0 hf rfl rfl dX10_renew_77 (fun f15 H locs hf hP hD hS => ?_)
                  obtain ⟨hP, hD⟩ : va_PD D A ((a_x, .inr (10, [.ref a_at, .ref a_g, .ref a_st, .ref a_x_kept, .int x_keptStates, .ref a_tp, .ref a_rd, .ref a_qu, .ref a_sp, .ref a_wk, .ref a_bx, .ref a_nt, .ref a_nu, .ref a_x_seen])) :: (a_st, .inr (7, [.ref a_g, .ref a_st_levels, .ref a_st_keys, .ref a_st_years, .ref a_st_keysThere, .int st_size, .int st_shownBy, .int st_deepestShown, .int st_latestShown])) :: (a_st_levels, .inl (ci 0, 60, .inl st_levels)) :: (a_st_years, .inl (ci 0, 60, .inl f15)) :: Rw) H := ⟨hP, hD⟩
                  obtain ⟨v16, ev16, hf⟩ := q_nm_e hf
                  refine lv_iinc (pc := 78) (v := v16) (lv' := [(3, .int v16), (0, .ref a_x), (1, .int p1), (2, .int p2), (4, .int v6)]) hx hb dX10_renew_78 hl (k := 3) rfl (by rw [ev16]; rfl) (by decide) rfl (fun ls hl => ?_)
                  exact J81 v16 f15 _ _ _ hf hP hD hS (lv_sub hl [1, 2, 3, 0, 4] rfl)
        exact LP27 N v3 v4 st_years _ _ _ hm27 hP hD hS (lv_sub hl [2, 3, 4, 1, 0] rfl)
      · refine lv_iconst (pc := 20) (v := (-1)) hx hb dX10_renew_20 (by decide) ?_
        obtain ⟨rfl, rfl⟩ := q_inj2 (Option.some.inj hf)
        rw [hQ]
        exact q_iret (pc := 21) hx hb hr hlocks hP hD hS dX10_renew_21
  exact hgo _ _ rfl hP hS
/-! X10_shown -/
set_option maxRecDepth 100000 in
set_option maxHeartbeats 4000000 in
theorem c_X_shown (l : Launch) (D : va_G) (ci : Nat → ClassId) (A : Nat → Prop) (sa : Nat → Nat) (N : Nat) (Rw : va_W) (a_x : Nat) (a_at : Nat) (a_g : Nat) (a_st : Nat) (a_x_kept : Nat) (a_tp : Nat) (a_rd : Nat) (a_qu : Nat) (a_sp : Nat) (a_wk : Nat) (a_bx : Nat) (a_nt : Nat) (a_nu : Nat) (a_x_seen : Nat) (a_st_levels : Nat) (a_st_keys : Nat) (a_st_years : Nat) (a_st_keysThere : Nat) (a_g_rowCuts : Nat) (a_g_columnCuts : Nat) (a_g_bandRows : Nat) (a_g_zoneColumns : Nat) (a_g_rows : Nat) (a_g_sheets : Nat) (x_keptStates : Int32) (st_size : Int32) (st_shownBy : Int32) (st_deepestShown : Int32) (st_latestShown : Int32) (st_levels : Nat → Int32) (st_keys : Nat → Int32) (st_years : Nat → Int32) (st_keysThere : Nat → Int32) (g_bandRows : Nat → Int32) (g_zoneColumns : Nat → Int32) (g_rows : Nat → Int32) (g_sheets : Nat → Int32) (p1 : Int32) (p2 : Int32) (p3 : Int32) (r : Int32) (o1 : Nat → Int32) (o2 : Int32) (o3 : Int32) (o4 : Int32) (hf : f_X_shown N st_levels st_keys st_years st_keysThere st_size st_shownBy st_deepestShown st_latestShown g_bandRows g_zoneColumns g_rows g_sheets p1 p2 p3 = some (r, o1, o2, o3, o4)) : Met l yX10_shown wsX10_shown ({ frames := 4, cells := 0, slots := 0, locals := 96 }) (va_Pc [.ref a_x, .int p1, .int p2, .int p3] (q_N D ci A sa ((a_x, .inr (10, [.ref a_at, .ref a_g, .ref a_st, .ref a_x_kept, .int x_keptStates, .ref a_tp, .ref a_rd, .ref a_qu, .ref a_sp, .ref a_wk, .ref a_bx, .ref a_nt, .ref a_nu, .ref a_x_seen])) :: (a_st, .inr (7, [.ref a_g, .ref a_st_levels, .ref a_st_keys, .ref a_st_years, .ref a_st_keysThere, .int st_size, .int st_shownBy, .int st_deepestShown, .int st_latestShown])) :: (a_st_levels, .inl (ci 0, 60, .inl st_levels)) :: (a_st_keys, .inl (ci 0, 60, .inl st_keys)) :: (a_st_years, .inl (ci 0, 60, .inl st_years)) :: (a_st_keysThere, .inl (ci 0, 5, .inl st_keysThere)) :: (a_g, .inr (2, [.ref a_g_rowCuts, .ref a_g_columnCuts, .ref a_g_bandRows, .ref a_g_zoneColumns, .ref a_g_rows, .ref a_g_sheets])) :: (a_g_bandRows, .inl (ci 0, 5, .inl g_bandRows)) :: (a_g_zoneColumns, .inl (ci 0, 5, .inl g_zoneColumns)) :: (a_g_rows, .inl (ci 0, 5, .inl g_rows)) :: (a_g_sheets, .inl (ci 0, 5, .inl g_sheets)) :: Rw))) (q_Q (some (.int r)) (q_O D A ((a_x, .inr (10, [.ref a_at, .ref a_g, .ref a_st, .ref a_x_kept, .int x_keptStates, .ref a_tp, .ref a_rd, .ref a_qu, .ref a_sp, .ref a_wk, .ref a_bx, .ref a_nt, .ref a_nu, .ref a_x_seen])) :: (a_st, .inr (7, [.ref a_g, .ref a_st_levels, .ref a_st_keys, .ref a_st_years, .ref a_st_keysThere, .int st_size, .int o2, .int o3, .int o4])) :: (a_st_levels, .inl (ci 0, 60, .inl st_levels)) :: (a_st_keys, .inl (ci 0, 60, .inl st_keys)) :: (a_st_years, .inl (ci 0, 60, .inl st_years)) :: (a_st_keysThere, .inl (ci 0, 5, .inl o1)) :: (a_g, .inr (2, [.ref a_g_rowCuts, .ref a_g_columnCuts, .ref a_g_bandRows, .ref a_g_zoneColumns, .ref a_g_rows, .ref a_g_sheets])) :: (a_g_bandRows, .inl (ci 0, 5, .inl g_bandRows)) :: (a_g_zoneColumns, .inl (ci 0, 5, .inl g_zoneColumns)) :: (a_g_rows, .inl (ci 0, 5, .inl g_rows)) :: (a_g_sheets, .inl (ci 0, 5, .inl g_sheets)) :: Rw)) A) 0 0 A := by
  refine q_ofW (cc := cX10_shown) (maxL := 4) (ret := (some .int)) [.ref a_x, .int p1, .int p2, .int p3] (plainFor_of_name (by decide)) rfl (Nat.le_of_ble_eq_true rfl) ?_
  intro p e s m below meth c ls Q hQ hx hb hml hr hts hown hlocks hK hA hZ hP hD hS hl
  have hl : lv_has ls 4 [(0, .ref a_x), (1, .int p1), (2, .int p2), (3, .int p3)] := hl
  have hown : s.vm.findClass RX10 = some m.cls := hown
  have hinX10 : ∀ w ∈ wsX100, w ∈ wsX10_shown := fun _ h => List.mem_cons_of_mem _ (inWX100 _ h)
  have hinX7 : ∀ w ∈ wsX70, w ∈ wsX10_shown := fun _ h => List.mem_cons_of_mem _ (inWX70 _ h)
  have w_1 := hts (Cond.fieldLink RX10 25 "SheetNames" "pieces" "LSheetNames$Store;") (List.mem_cons_of_mem _ t_w892)
  have wn_28 : (Cond.fieldLinkNest "SheetNames" 391 "SheetNames$Store" "shownBy" "I" "SheetNames").before ([.ref a_x, .int p1, .int p2, .int p3] : List Value).toArray s = true := (hZ.2.2.2.2.2.2.2.2.2.1 _ (List.mem_of_getElem? (i := 28) rfl)).use rfl
  have wn_29 : (Cond.fieldLinkNest "SheetNames" 394 "SheetNames$Store" "deepestShown" "I" "SheetNames").before ([.ref a_x, .int p1, .int p2, .int p3] : List Value).toArray s = true := (hZ.2.2.2.2.2.2.2.2.2.1 _ (List.mem_of_getElem? (i := 29) rfl)).use rfl
  have wn_30 : (Cond.fieldLinkNest "SheetNames" 397 "SheetNames$Store" "latestShown" "I" "SheetNames").before ([.ref a_x, .int p1, .int p2, .int p3] : List Value).toArray s = true := (hZ.2.2.2.2.2.2.2.2.2.1 _ (List.mem_of_getElem? (i := 30) rfl)).use rfl
  unfold f_X_shown at hf
  have hgo : ∀ (H : Heap) (locs : List Loc), H = s.heap → va_P D vwCl ((a_x, .inr (10, [.ref a_at, .ref a_g, .ref a_st, .ref a_x_kept, .int x_keptStates, .ref a_tp, .ref a_rd, .ref a_qu, .ref a_sp, .ref a_wk, .ref a_bx, .ref a_nt, .ref a_nu, .ref a_x_seen])) :: (a_st, .inr (7, [.ref a_g, .ref a_st_levels, .ref a_st_keys, .ref a_st_years, .ref a_st_keysThere, .int st_size, .int st_shownBy, .int st_deepestShown, .int st_latestShown])) :: (a_st_levels, .inl (ci 0, 60, .inl st_levels)) :: (a_st_keys, .inl (ci 0, 60, .inl st_keys)) :: (a_st_years, .inl (ci 0, 60, .inl st_years)) :: (a_st_keysThere, .inl (ci 0, 5, .inl st_keysThere)) :: (a_g, .inr (2, [.ref a_g_rowCuts, .ref a_g_columnCuts, .ref a_g_bandRows, .ref a_g_zoneColumns, .ref a_g_rows, .ref a_g_sheets])) :: (a_g_bandRows, .inl (ci 0, 5, .inl g_bandRows)) :: (a_g_zoneColumns, .inl (ci 0, 5, .inl g_zoneColumns)) :: (a_g_rows, .inl (ci 0, 5, .inl g_rows)) :: (a_g_sheets, .inl (ci 0, 5, .inl g_sheets)) :: Rw) H → va_S A s.heap H locs → W p l e ({ frames := 4, cells := 0, slots := 0, locals := 96 } : Room) s m ([.ref a_x, .int p1, .int p2, .int p3] : List Value).toArray below meth c H locs 0 0 Q (F0 m 0 ls []) := by
    intro H locs hH hP hS
    refine lv_iload_n (pc := 0) hx hb dX10_shown_0 rfl (lv_at hl 1 rfl) ?_
    refine lv_iload_n (pc := 1) hx hb dX10_shown_1 rfl (lv_at hl 2 rfl) ?_
    obtain ⟨v1, hm2, hf⟩ := q_b1_e hf
    refine q_cSr (pc := 2) (As := [.int p1, .int p2]) (rest := []) (v0 := (some (.int v1))) ⟨hx, hb, hml, hown, hts⟩ hK hA hZ hP hD hS hl.1 [] 11 rfl ⟨rfl, rfl, rfl⟩ (c_X_isPlace l D ci A sa N (Rw) p1 p2 v1 hm2) (va_cwS 2 hts gX10_shown_X10_isPlace rfl rfl rfl (by decide +kernel) ⟨Nat.le_of_ble_eq_true rfl, Nat.le_of_ble_eq_true rfl⟩) rfl rfl (Nat.le_of_ble_eq_true rfl) dX10_shown_2 ⟨Nat.zero_le _, Nat.zero_le _⟩ (fun locs hS => ?_)
    refine q_if_eq (pc := 5) (tgt := 17) hx hb dX10_shown_5 (by decide) rfl hf (fun hf => ?_) (fun hf => ?_)
    · refine lv_iconst (pc := 17) (v := (-1)) hx hb dX10_shown_17 (by decide) ?_
      obtain ⟨e90, e91, e92, e93, e94⟩ := q_inj5 (Option.some.inj hf)
      rw [hQ, ← e90, ← e91, ← e92, ← e93, ← e94]
      exact q_iret (pc := 18) hx hb hr hlocks hP hD hS dX10_shown_18
    · refine lv_iload_n (pc := 8) hx hb dX10_shown_8 rfl (lv_at hl 3 rfl) ?_
      refine lv_iconst (pc := 9) (v := 0) hx hb dX10_shown_9 (by decide) ?_
      refine lv_iconst (pc := 10) (v := 2) hx hb dX10_shown_10 (by decide) ?_
      obtain ⟨v2, hm11, hf⟩ := q_b1_e hf
      refine q_cSr (pc := 11) (As := [.int p3, .int 0, .int 2]) (rest := []) (v0 := (some (.int v2))) ⟨hx, hb, hml, hown, hts⟩ hK hA hZ hP hD hS hl.1 [] 11 rfl ⟨rfl, rfl, rfl⟩ (c_X_isFrom l D ci A sa N (Rw) p3 0 2 v2 hm11) (va_cwS 3 hts gX10_shown_X10_isFrom rfl rfl rfl (by decide +kernel) ⟨Nat.le_of_ble_eq_true rfl, Nat.le_of_ble_eq_true rfl⟩) rfl rfl (Nat.le_of_ble_eq_true rfl) dX10_shown_11 ⟨Nat.zero_le _, Nat.zero_le _⟩ (fun locs hS => ?_)
      refine q_if_ne (pc := 14) (tgt := 19) hx hb dX10_shown_14 (by decide) rfl hf (fun hf => ?_) (fun hf => ?_)
      · refine lv_aload_n (pc := 19) hx hb dX10_shown_19 rfl (lv_at hl 0 rfl) ?_
        refine va_get (pc := 20) (D := D) (ci := 10) (v := .ref a_st) (C := RX10) (T := TX10) (N := 14) hx hb hts hinX10 hown hK hP 0 rfl rfl 2 (by decide) w_1 (fun _ h9 => h9) rfl dX10_shown_20 ?_
        refine lv_iload_n (pc := 23) hx hb dX10_shown_23 rfl (lv_at hl 1 rfl) ?_
        refine lv_iload_n (pc := 24) hx hb dX10_shown_24 rfl (lv_at hl 2 rfl) ?_
        obtain ⟨f3, v4, v5, v6, hm25, hf⟩ := q_b4_e hf
        refine q_cV (pc := 25) (As := [.int p1, .int p2]) (rest := []) (v0 := none) ⟨hx, hb, hml, hown, hts⟩ hK hA hZ hP hD hS hl.1 [1, 2, 3, 4, 5, 6, 7, 8, 9, 10, 0] 11 rfl ⟨rfl, rfl, rfl⟩ (c_Store_lookAt l D ci A sa N ((a_x, .inr (10, [.ref a_at, .ref a_g, .ref a_st, .ref a_x_kept, .int x_keptStates, .ref a_tp, .ref a_rd, .ref a_qu, .ref a_sp, .ref a_wk, .ref a_bx, .ref a_nt, .ref a_nu, .ref a_x_seen])) :: Rw) a_st a_g a_st_levels a_st_keys a_st_years a_st_keysThere a_g_rowCuts a_g_columnCuts a_g_bandRows a_g_zoneColumns a_g_rows a_g_sheets st_size st_shownBy st_deepestShown st_latestShown st_levels st_keys st_years st_keysThere g_bandRows g_zoneColumns g_rows g_sheets p1 p2 f3 v4 v5 v6 hm25) 1 rfl rfl (cwV 2 hts gX10_shown_X7_lookAt rfl rfl rfl (by decide +kernel) ⟨Nat.le_of_ble_eq_true rfl, Nat.le_of_ble_eq_true rfl⟩) rfl rfl (Nat.le_of_ble_eq_true rfl) dX10_shown_25 ⟨Nat.zero_le _, Nat.zero_le _⟩ [10, 0, 1, 2, 3, 4, 5, 6, 7, 8, 9] 11 rfl ⟨rfl, rfl, rfl⟩ (fun H locs hP hD hS => ?_)
        obtain ⟨hP, hD⟩ : va_PD D A ((a_x, .inr (10, [.ref a_at, .ref a_g, .ref a_st, .ref a_x_kept, .int x_keptStates, .ref a_tp, .ref a_rd, .ref a_qu, .ref a_sp, .ref a_wk, .ref a_bx, .ref a_nt, .ref a_nu, .ref a_x_seen])) :: (a_st, .inr (7, [.ref a_g, .ref a_st_levels, .ref a_st_keys, .ref a_st_years, .ref a_st_keysThere, .int st_size, .int v4, .int v5, .int v6])) :: (a_st_levels, .inl (ci 0, 60, .inl st_levels)) :: (a_st_keys, .inl (ci 0, 60, .inl st_keys)) :: (a_st_years, .inl (ci 0, 60, .inl st_years)) :: (a_st_keysThere, .inl (ci 0, 5, .inl f3)) :: (a_g, .inr (2, [.ref a_g_rowCuts, .ref a_g_columnCuts, .ref a_g_bandRows, .ref a_g_zoneColumns, .ref a_g_rows, .ref a_g_sheets])) :: (a_g_bandRows, .inl (ci 0, 5, .inl g_bandRows)) :: (a_g_zoneColumns, .inl (ci 0, 5, .inl g_zoneColumns)) :: (a_g_rows, .inl (ci 0, 5, .inl g_rows)) :: (a_g_sheets, .inl (ci 0, 5, .inl g_sheets)) :: Rw) H := ⟨hP, hD⟩
        refine lv_iload_n (pc := 28) hx hb dX10_shown_28 rfl (lv_at hl 3 rfl) ?_
        refine q_if_ne (pc := 29) (tgt := 40) hx hb dX10_shown_29 (by decide) rfl hf (fun hf => ?_) (fun hf => ?_)
        · refine lv_aload_n (pc := 40) hx hb dX10_shown_40 rfl (lv_at hl 0 rfl) ?_
          refine va_get (pc := 41) (D := D) (ci := 10) (v := .ref a_st) (C := RX10) (T := TX10) (N := 14) hx hb hts hinX10 hown hK hP 0 rfl rfl 2 (by decide) w_1 (fun _ h9 => h9) rfl dX10_shown_41 ?_
          refine va_getN (pc := 44) (D := D) (ci := 7) (v := .int v4) (C := RX7) (T := TX7) (N := 9) hx hb hts hinX7 hown hK hP 1 rfl rfl 6 (by decide) wn_28 (fun _ h9 => h9) rfl dX10_shown_44 ?_
          refine q_if_ne (pc := 47) (tgt := 53) hx hb dX10_shown_47 (by decide) rfl hf (fun hf => ?_) (fun hf => ?_)
          · refine lv_iload_n (pc := 53) hx hb dX10_shown_53 rfl (lv_at hl 3 rfl) ?_
            refine lv_iconst (pc := 54) (v := 1) hx hb dX10_shown_54 (by decide) ?_
            refine q_icmp_ne (pc := 55) (tgt := 68) hx hb dX10_shown_55 (by decide) rfl hf (fun hf => ?_) (fun hf => ?_)
            · refine lv_aload_n (pc := 68) hx hb dX10_shown_68 rfl (lv_at hl 0 rfl) ?_
              refine va_get (pc := 69) (D := D) (ci := 10) (v := .ref a_st) (C := RX10) (T := TX10) (N := 14) hx hb hts hinX10 hown hK hP 0 rfl rfl 2 (by decide) w_1 (fun _ h9 => h9) rfl dX10_shown_69 ?_
              refine va_getN (pc := 72) (D := D) (ci := 7) (v := .int v6) (C := RX7) (T := TX7) (N := 9) hx hb hts hinX7 hown hK hP 1 rfl rfl 8 (by decide) wn_30 (fun _ h9 => h9) rfl dX10_shown_72 ?_
              obtain ⟨e90, e91, e92, e93, e94⟩ := q_inj5 (Option.some.inj hf)
              rw [hQ, ← e90, ← e91, ← e92, ← e93, ← e94]
              exact q_iret (pc := 75) hx hb hr hlocks hP hD hS dX10_shown_75
            · refine lv_aload_n (pc := 58) hx hb dX10_shown_58 rfl (lv_at hl 0 rfl) ?_
              refine va_get (pc := 59) (D := D) (ci := 10) (v := .ref a_st) (C := RX10) (T := TX10) (N := 14) hx hb hts hinX10 hown hK hP 0 rfl rfl 2 (by decide) w_1 (fun _ h9 => h9) rfl dX10_shown_59 ?_
              refine va_getN (pc := 62) (D := D) (ci := 7) (v := .int v5) (C := RX7) (T := TX7) (N := 9) hx hb hts hinX7 hown hK hP 1 rfl rfl 7 (by decide) wn_29 (fun _ h9 => h9) rfl dX10_shown_62 ?_
              refine lv_goto (pc := 65) (tgt := 75) hx hb dX10_shown_65 (by decide) ?_
              obtain ⟨e90, e91, e92, e93, e94⟩ := q_inj5 (Option.some.inj hf)
              rw [hQ, ← e90, ← e91, ← e92, ← e93, ← e94]
              exact q_iret (pc := 75) hx hb hr hlocks hP hD hS dX10_shown_75
          · refine lv_bipush (pc := 50) (v := (-2)) hx hb dX10_shown_50 (by decide) ?_
            obtain ⟨e90, e91, e92, e93, e94⟩ := q_inj5 (Option.some.inj hf)
            rw [hQ, ← e90, ← e91, ← e92, ← e93, ← e94]
            exact q_iret (pc := 52) hx hb hr hlocks hP hD hS dX10_shown_52
        · refine lv_aload_n (pc := 32) hx hb dX10_shown_32 rfl (lv_at hl 0 rfl) ?_
          refine va_get (pc := 33) (D := D) (ci := 10) (v := .ref a_st) (C := RX10) (T := TX10) (N := 14) hx hb hts hinX10 hown hK hP 0 rfl rfl 2 (by decide) w_1 (fun _ h9 => h9) rfl dX10_shown_33 ?_
          refine va_getN (pc := 36) (D := D) (ci := 7) (v := .int v4) (C := RX7) (T := TX7) (N := 9) hx hb hts hinX7 hown hK hP 1 rfl rfl 6 (by decide) wn_28 (fun _ h9 => h9) rfl dX10_shown_36 ?_
          obtain ⟨e90, e91, e92, e93, e94⟩ := q_inj5 (Option.some.inj hf)
          rw [hQ, ← e90, ← e91, ← e92, ← e93, ← e94]
          exact q_iret (pc := 39) hx hb hr hlocks hP hD hS dX10_shown_39
      · refine lv_iconst (pc := 17) (v := (-1)) hx hb dX10_shown_17 (by decide) ?_
        obtain ⟨e90, e91, e92, e93, e94⟩ := q_inj5 (Option.some.inj hf)
        rw [hQ, ← e90, ← e91, ← e92, ← e93, ← e94]
        exact q_iret (pc := 18) hx hb hr hlocks hP hD hS dX10_shown_18
  exact hgo _ _ rfl hP hS
/-! X10_side -/
set_option maxRecDepth 100000 in
set_option maxHeartbeats 4000000 in
theorem c_X_side (l : Launch) (D : va_G) (ci : Nat → ClassId) (A : Nat → Prop) (sa : Nat → Nat) (N : Nat) (Rw : va_W) (a_x : Nat) (a_at : Nat) (a_g : Nat) (a_st : Nat) (a_x_kept : Nat) (a_tp : Nat) (a_rd : Nat) (a_qu : Nat) (a_sp : Nat) (a_wk : Nat) (a_bx : Nat) (a_nt : Nat) (a_nu : Nat) (a_x_seen : Nat) (a_sp_first : Nat) (a_sp_many : Nat) (a_sp_corner : Nat) (a_g_rowCuts : Nat) (a_g_columnCuts : Nat) (a_g_bandRows : Nat) (a_g_zoneColumns : Nat) (a_g_rows : Nat) (a_g_sheets : Nat) (x_keptStates : Int32) (sp_cornerCount : Int32) (sp_level : Int32) (sp_row : Int32) (sp_start : Int32) (sp_place : Int32) (sp_length : Int32) (sp_cap : Int32) (sp_first : Nat → Int32) (sp_many : Nat → Int32) (g_bandRows : Nat → Int32) (g_zoneColumns : Nat → Int32) (g_rows : Nat → Int32) (g_sheets : Nat → Int32) (p1 : Int32) (p2 : Int32) (p3 : Int32) (r : Int32) (o1 : Nat → Int32) (o2 : Nat → Int32) (o3 : Int32) (o4 : Int32) (o5 : Int32) (o6 : Int32) (o7 : Int32) (o8 : Int32) (hf : f_X_side N sp_first sp_many sp_level sp_row sp_start sp_place sp_length sp_cap g_bandRows g_zoneColumns g_rows g_sheets p1 p2 p3 = some (r, o1, o2, o3, o4, o5, o6, o7, o8)) : Met l yX10_side wsX10_side ({ frames := 3, cells := 0, slots := 0, locals := 71 }) (va_Pc [.ref a_x, .int p1, .int p2, .int p3] (q_N D ci A sa ((a_x, .inr (10, [.ref a_at, .ref a_g, .ref a_st, .ref a_x_kept, .int x_keptStates, .ref a_tp, .ref a_rd, .ref a_qu, .ref a_sp, .ref a_wk, .ref a_bx, .ref a_nt, .ref a_nu, .ref a_x_seen])) :: (a_sp, .inr (6, [.ref a_g, .ref a_sp_first, .ref a_sp_many, .ref a_sp_corner, .int sp_cornerCount, .int sp_level, .int sp_row, .int sp_start, .int sp_place, .int sp_length, .int sp_cap])) :: (a_sp_first, .inl (ci 0, 4, .inl sp_first)) :: (a_sp_many, .inl (ci 0, 4, .inl sp_many)) :: (a_g, .inr (2, [.ref a_g_rowCuts, .ref a_g_columnCuts, .ref a_g_bandRows, .ref a_g_zoneColumns, .ref a_g_rows, .ref a_g_sheets])) :: (a_g_bandRows, .inl (ci 0, 5, .inl g_bandRows)) :: (a_g_zoneColumns, .inl (ci 0, 5, .inl g_zoneColumns)) :: (a_g_rows, .inl (ci 0, 5, .inl g_rows)) :: (a_g_sheets, .inl (ci 0, 5, .inl g_sheets)) :: Rw))) (q_Q (some (.int r)) (q_O D A ((a_x, .inr (10, [.ref a_at, .ref a_g, .ref a_st, .ref a_x_kept, .int x_keptStates, .ref a_tp, .ref a_rd, .ref a_qu, .ref a_sp, .ref a_wk, .ref a_bx, .ref a_nt, .ref a_nu, .ref a_x_seen])) :: (a_sp, .inr (6, [.ref a_g, .ref a_sp_first, .ref a_sp_many, .ref a_sp_corner, .int sp_cornerCount, .int o3, .int o4, .int o5, .int o6, .int o7, .int o8])) :: (a_sp_first, .inl (ci 0, 4, .inl o1)) :: (a_sp_many, .inl (ci 0, 4, .inl o2)) :: (a_g, .inr (2, [.ref a_g_rowCuts, .ref a_g_columnCuts, .ref a_g_bandRows, .ref a_g_zoneColumns, .ref a_g_rows, .ref a_g_sheets])) :: (a_g_bandRows, .inl (ci 0, 5, .inl g_bandRows)) :: (a_g_zoneColumns, .inl (ci 0, 5, .inl g_zoneColumns)) :: (a_g_rows, .inl (ci 0, 5, .inl g_rows)) :: (a_g_sheets, .inl (ci 0, 5, .inl g_sheets)) :: Rw)) A) 0 0 A := by
  refine q_ofW (cc := cX10_side) (maxL := 5) (ret := (some .int)) [.ref a_x, .int p1, .int p2, .int p3] (plainFor_of_name (by decide)) rfl (Nat.le_of_ble_eq_true rfl) ?_
  intro p e s m below meth c ls Q hQ hx hb hml hr hts hown hlocks hK hA hZ hP hD hS hl
  have hl : lv_has ls 5 [(0, .ref a_x), (1, .int p1), (2, .int p2), (3, .int p3)] := hl
  have hown : s.vm.findClass RX10 = some m.cls := hown
  have hinX10 : ∀ w ∈ wsX100, w ∈ wsX10_side := fun _ h => List.mem_cons_of_mem _ (inWX100 _ h)
  have hinX6 : ∀ w ∈ wsX60, w ∈ wsX10_side := fun _ h => List.mem_cons_of_mem _ (inWX60 _ h)
  have w_1 := hts (Cond.fieldLink RX10 66 "SheetNames" "spot" "LSheetNames$Spot;") (List.mem_cons_of_mem _ t_w877)
  have wn_16 : (Cond.fieldLinkNest "SheetNames" 250 "SheetNames$Spot" "many" "[I" "SheetNames").before ([.ref a_x, .int p1, .int p2, .int p3] : List Value).toArray s = true := (hZ.2.2.2.2.2.2.2.2.2.1 _ (List.mem_of_getElem? (i := 16) rfl)).use rfl
  have wn_17 : (Cond.fieldLinkNest "SheetNames" 253 "SheetNames$Spot" "first" "[I" "SheetNames").before ([.ref a_x, .int p1, .int p2, .int p3] : List Value).toArray s = true := (hZ.2.2.2.2.2.2.2.2.2.1 _ (List.mem_of_getElem? (i := 17) rfl)).use rfl
  unfold f_X_side at hf
  have hgo : ∀ (H : Heap) (locs : List Loc), H = s.heap → va_P D vwCl ((a_x, .inr (10, [.ref a_at, .ref a_g, .ref a_st, .ref a_x_kept, .int x_keptStates, .ref a_tp, .ref a_rd, .ref a_qu, .ref a_sp, .ref a_wk, .ref a_bx, .ref a_nt, .ref a_nu, .ref a_x_seen])) :: (a_sp, .inr (6, [.ref a_g, .ref a_sp_first, .ref a_sp_many, .ref a_sp_corner, .int sp_cornerCount, .int sp_level, .int sp_row, .int sp_start, .int sp_place, .int sp_length, .int sp_cap])) :: (a_sp_first, .inl (ci 0, 4, .inl sp_first)) :: (a_sp_many, .inl (ci 0, 4, .inl sp_many)) :: (a_g, .inr (2, [.ref a_g_rowCuts, .ref a_g_columnCuts, .ref a_g_bandRows, .ref a_g_zoneColumns, .ref a_g_rows, .ref a_g_sheets])) :: (a_g_bandRows, .inl (ci 0, 5, .inl g_bandRows)) :: (a_g_zoneColumns, .inl (ci 0, 5, .inl g_zoneColumns)) :: (a_g_rows, .inl (ci 0, 5, .inl g_rows)) :: (a_g_sheets, .inl (ci 0, 5, .inl g_sheets)) :: Rw) H → va_S A s.heap H locs → W p l e ({ frames := 3, cells := 0, slots := 0, locals := 71 } : Room) s m ([.ref a_x, .int p1, .int p2, .int p3] : List Value).toArray below meth c H locs 0 0 Q (F0 m 0 ls []) := by
    intro H locs hH hP hS
    refine lv_aload_n (pc := 0) hx hb dX10_side_0 rfl (lv_at hl 0 rfl) ?_
    refine lv_iload_n (pc := 1) hx hb dX10_side_1 rfl (lv_at hl 1 rfl) ?_
    refine lv_iload_n (pc := 2) hx hb dX10_side_2 rfl (lv_at hl 2 rfl) ?_
    refine lv_iload_n (pc := 3) hx hb dX10_side_3 rfl (lv_at hl 3 rfl) ?_
    obtain ⟨v1, hm4, hf⟩ := q_b1_e hf
    refine q_cVr (pc := 4) (As := [.int p1, .int p2, .int p3]) (rest := []) (v0 := (some (.int v1))) ⟨hx, hb, hml, hown, hts⟩ hK hA hZ hP hD hS hl.1 [0, 4, 8] 9 rfl ⟨rfl, rfl, rfl⟩ (c_X_areSheets l D ci A sa N (Rw) a_x a_at a_g a_st a_x_kept a_tp a_rd a_qu a_sp a_wk a_bx a_nt a_nu a_x_seen a_g_rowCuts a_g_columnCuts a_g_bandRows a_g_zoneColumns a_g_rows a_g_sheets x_keptStates g_sheets p1 p2 p3 v1 hm4) 0 rfl rfl (cwV 3 hts gX10_side_X10_areSheets rfl rfl rfl (by decide +kernel) ⟨Nat.le_of_ble_eq_true rfl, Nat.le_of_ble_eq_true rfl⟩) rfl rfl (Nat.le_of_ble_eq_true rfl) dX10_side_4 ⟨Nat.zero_le _, Nat.zero_le _⟩ (fun locs hS => ?_)
    refine q_if_eq (pc := 7) (tgt := 15) hx hb dX10_side_7 (by decide) rfl hf (fun hf => ?_) (fun hf => ?_)
    · refine lv_iconst (pc := 15) (v := (-1)) hx hb dX10_side_15 (by decide) ?_
      obtain ⟨e90, e91, e92, e93, e94, e95, e96, e97, e98⟩ := q_inj9 (Option.some.inj hf)
      rw [hQ, ← e90, ← e91, ← e92, ← e93, ← e94, ← e95, ← e96, ← e97, ← e98]
      exact q_iret (pc := 16) hx hb hr hlocks hP hD hS dX10_side_16
    · refine lv_iload_n (pc := 10) hx hb dX10_side_10 rfl (lv_at hl 2 rfl) ?_
      refine lv_iload_n (pc := 11) hx hb dX10_side_11 rfl (lv_at hl 3 rfl) ?_
      refine q_icmp_ne (pc := 12) (tgt := 17) hx hb dX10_side_12 (by decide) rfl hf (fun hf => ?_) (fun hf => ?_)
      · refine lv_aload_n (pc := 17) hx hb dX10_side_17 rfl (lv_at hl 0 rfl) ?_
        refine va_get (pc := 18) (D := D) (ci := 10) (v := .ref a_sp) (C := RX10) (T := TX10) (N := 14) hx hb hts hinX10 hown hK hP 0 rfl rfl 8 (by decide) w_1 (fun _ h9 => h9) rfl dX10_side_18 ?_
        refine lv_iload_n (pc := 21) hx hb dX10_side_21 rfl (lv_at hl 1 rfl) ?_
        refine lv_iload_n (pc := 22) hx hb dX10_side_22 rfl (lv_at hl 2 rfl) ?_
        obtain ⟨v2, v3, v4, v5, v6, v7, hm23, hf⟩ := q_b6_e hf
        refine q_cV (pc := 23) (As := [.int p1, .int p2]) (rest := []) (v0 := none) ⟨hx, hb, hml, hown, hts⟩ hK hA hZ hP hD hS hl.1 [1, 4, 5, 6, 7, 8, 0, 2, 3] 9 rfl ⟨rfl, rfl, rfl⟩ (c_Spot_put l D ci A sa N ((a_x, .inr (10, [.ref a_at, .ref a_g, .ref a_st, .ref a_x_kept, .int x_keptStates, .ref a_tp, .ref a_rd, .ref a_qu, .ref a_sp, .ref a_wk, .ref a_bx, .ref a_nt, .ref a_nu, .ref a_x_seen])) :: (a_sp_first, .inl (ci 0, 4, .inl sp_first)) :: (a_sp_many, .inl (ci 0, 4, .inl sp_many)) :: Rw) a_sp a_g a_sp_first a_sp_many a_sp_corner a_g_rowCuts a_g_columnCuts a_g_bandRows a_g_zoneColumns a_g_rows a_g_sheets sp_cornerCount sp_level sp_row sp_start sp_place sp_length sp_cap g_bandRows g_zoneColumns g_rows g_sheets p1 p2 v2 v3 v4 v5 v6 v7 hm23) 1 rfl rfl (cwV 2 hts gX10_side_X6_put rfl rfl rfl (by decide +kernel) ⟨Nat.le_of_ble_eq_true rfl, Nat.le_of_ble_eq_true rfl⟩) rfl rfl (Nat.le_of_ble_eq_true rfl) dX10_side_23 ⟨Nat.zero_le _, Nat.zero_le _⟩ [6, 0, 7, 8, 1, 2, 3, 4, 5] 9 rfl ⟨rfl, rfl, rfl⟩ (fun H locs hP hD hS => ?_)
        obtain ⟨hP, hD⟩ : va_PD D A ((a_x, .inr (10, [.ref a_at, .ref a_g, .ref a_st, .ref a_x_kept, .int x_keptStates, .ref a_tp, .ref a_rd, .ref a_qu, .ref a_sp, .ref a_wk, .ref a_bx, .ref a_nt, .ref a_nu, .ref a_x_seen])) :: (a_sp, .inr (6, [.ref a_g, .ref a_sp_first, .ref a_sp_many, .ref a_sp_corner, .int sp_cornerCount, .int v2, .int v3, .int v4, .int v5, .int v6, .int v7])) :: (a_sp_first, .inl (ci 0, 4, .inl sp_first)) :: (a_sp_many, .inl (ci 0, 4, .inl sp_many)) :: (a_g, .inr (2, [.ref a_g_rowCuts, .ref a_g_columnCuts, .ref a_g_bandRows, .ref a_g_zoneColumns, .ref a_g_rows, .ref a_g_sheets])) :: (a_g_bandRows, .inl (ci 0, 5, .inl g_bandRows)) :: (a_g_zoneColumns, .inl (ci 0, 5, .inl g_zoneColumns)) :: (a_g_rows, .inl (ci 0, 5, .inl g_rows)) :: (a_g_sheets, .inl (ci 0, 5, .inl g_sheets)) :: Rw) H := ⟨hP, hD⟩
        refine lv_aload_n (pc := 26) hx hb dX10_side_26 rfl (lv_at hl 0 rfl) ?_
        refine va_get (pc := 27) (D := D) (ci := 10) (v := .ref a_sp) (C := RX10) (T := TX10) (N := 14) hx hb hts hinX10 hown hK hP 0 rfl rfl 8 (by decide) w_1 (fun _ h9 => h9) rfl dX10_side_27 ?_
        obtain ⟨f8, f9, hm30, hf⟩ := q_b2_e hf
        refine q_cV (pc := 30) (As := []) (rest := []) (v0 := none) ⟨hx, hb, hml, hown, hts⟩ hK hA hZ hP hD hS hl.1 [1, 2, 3, 4, 5, 6, 7, 8, 0] 9 rfl ⟨rfl, rfl, rfl⟩ (c_Spot_lookAround l D ci A sa N ((a_x, .inr (10, [.ref a_at, .ref a_g, .ref a_st, .ref a_x_kept, .int x_keptStates, .ref a_tp, .ref a_rd, .ref a_qu, .ref a_sp, .ref a_wk, .ref a_bx, .ref a_nt, .ref a_nu, .ref a_x_seen])) :: Rw) a_sp a_g a_sp_first a_sp_many a_sp_corner a_g_rowCuts a_g_columnCuts a_g_bandRows a_g_zoneColumns a_g_rows a_g_sheets sp_cornerCount v2 v3 v4 v5 v6 v7 sp_first sp_many g_bandRows g_zoneColumns g_rows g_sheets f8 f9 hm30) 1 rfl rfl (cwV 0 hts gX10_side_X6_lookAround rfl rfl rfl (by decide +kernel) ⟨Nat.le_of_ble_eq_true rfl, Nat.le_of_ble_eq_true rfl⟩) rfl rfl (Nat.le_of_ble_eq_true rfl) dX10_side_30 ⟨Nat.zero_le _, Nat.zero_le _⟩ [8, 0, 1, 2, 3, 4, 5, 6, 7] 9 rfl ⟨rfl, rfl, rfl⟩ (fun H locs hP hD hS => ?_)
        obtain ⟨hP, hD⟩ : va_PD D A ((a_x, .inr (10, [.ref a_at, .ref a_g, .ref a_st, .ref a_x_kept, .int x_keptStates, .ref a_tp, .ref a_rd, .ref a_qu, .ref a_sp, .ref a_wk, .ref a_bx, .ref a_nt, .ref a_nu, .ref a_x_seen])) :: (a_sp, .inr (6, [.ref a_g, .ref a_sp_first, .ref a_sp_many, .ref a_sp_corner, .int sp_cornerCount, .int v2, .int v3, .int v4, .int v5, .int v6, .int v7])) :: (a_sp_first, .inl (ci 0, 4, .inl f8)) :: (a_sp_many, .inl (ci 0, 4, .inl f9)) :: (a_g, .inr (2, [.ref a_g_rowCuts, .ref a_g_columnCuts, .ref a_g_bandRows, .ref a_g_zoneColumns, .ref a_g_rows, .ref a_g_sheets])) :: (a_g_bandRows, .inl (ci 0, 5, .inl g_bandRows)) :: (a_g_zoneColumns, .inl (ci 0, 5, .inl g_zoneColumns)) :: (a_g_rows, .inl (ci 0, 5, .inl g_rows)) :: (a_g_sheets, .inl (ci 0, 5, .inl g_sheets)) :: Rw) H := ⟨hP, hD⟩
        refine lv_iconst (pc := 33) (v := 0) hx hb dX10_side_33 (by decide) ?_
        obtain ⟨v10, ev10, hf⟩ := q_nm_e hf
        refine q_topi ev10 ?_
        refine lv_istore (pc := 34) (lv' := [(4, .int v10), (0, .ref a_x), (1, .int p1), (2, .int p2), (3, .int p3)]) hx hb dX10_side_34 hl (by decide) rfl (fun ls hl => ?_)
        obtain ⟨k36, o36_, ek36, hm36, hk36⟩ := q_s0_k hf
        have JE36 : ∀  (H : Heap) (locs : List Loc) (ls : Array Slot), k36 = some (r, o1, o2, o3, o4, o5, o6, o7, o8) → va_P D vwCl ((a_x, .inr (10, [.ref a_at, .ref a_g, .ref a_st, .ref a_x_kept, .int x_keptStates, .ref a_tp, .ref a_rd, .ref a_qu, .ref a_sp, .ref a_wk, .ref a_bx, .ref a_nt, .ref a_nu, .ref a_x_seen])) :: (a_sp, .inr (6, [.ref a_g, .ref a_sp_first, .ref a_sp_many, .ref a_sp_corner, .int sp_cornerCount, .int v2, .int v3, .int v4, .int v5, .int v6, .int v7])) :: (a_sp_first, .inl (ci 0, 4, .inl f8)) :: (a_sp_many, .inl (ci 0, 4, .inl f9)) :: (a_g, .inr (2, [.ref a_g_rowCuts, .ref a_g_columnCuts, .ref a_g_bandRows, .ref a_g_zoneColumns, .ref a_g_rows, .ref a_g_sheets])) :: (a_g_bandRows, .inl (ci 0, 5, .inl g_bandRows)) :: (a_g_zoneColumns, .inl (ci 0, 5, .inl g_zoneColumns)) :: (a_g_rows, .inl (ci 0, 5, .inl g_rows)) :: (a_g_sheets, .inl (ci 0, 5, .inl g_sheets)) :: Rw) H → va_D A ((a_x, .inr (10, [.ref a_at, .ref a_g, .ref a_st, .ref a_x_kept, .int x_keptStates, .ref a_tp, .ref a_rd, .ref a_qu, .ref a_sp, .ref a_wk, .ref a_bx, .ref a_nt, .ref a_nu, .ref a_x_seen])) :: (a_sp, .inr (6, [.ref a_g, .ref a_sp_first, .ref a_sp_many, .ref a_sp_corner, .int sp_cornerCount, .int v2, .int v3, .int v4, .int v5, .int v6, .int v7])) :: (a_sp_first, .inl (ci 0, 4, .inl f8)) :: (a_sp_many, .inl (ci 0, 4, .inl f9)) :: (a_g, .inr (2, [.ref a_g_rowCuts, .ref a_g_columnCuts, .ref a_g_bandRows, .ref a_g_zoneColumns, .ref a_g_rows, .ref a_g_sheets])) :: (a_g_bandRows, .inl (ci 0, 5, .inl g_bandRows)) :: (a_g_zoneColumns, .inl (ci 0, 5, .inl g_zoneColumns)) :: (a_g_rows, .inl (ci 0, 5, .inl g_rows)) :: (a_g_sheets, .inl (ci 0, 5, .inl g_sheets)) :: Rw) → va_S A s.heap H locs → lv_has ls 5 [] → W p l e ({ frames := 3, cells := 0, slots := 0, locals := 71 } : Room) s m ([.ref a_x, .int p1, .int p2, .int p3] : List Value).toArray below meth c H locs 0 0 Q (F0 m 90 ls []) := by
          intro  H locs ls hf hP hD hS hl
          have hf := (ek36).symm.trans hf
          refine lv_bipush (pc := 90) (v := (-2)) hx hb dX10_side_90 (by decide) ?_
          obtain ⟨e90, e91, e92, e93, e94, e95, e96, e97, e98⟩ := q_inj9 (Option.some.inj hf)
          rw [hQ, ← e90, ← e91, ← e92, ← e93, ← e94, ← e95, ← e96, ← e97, ← e98]
          exact q_iret (pc := 92) hx hb hr hlocks hP hD hS dX10_side_92
        have LP36 : ∀ (n36 : Nat) (v11 : Int32) (H : Heap) (locs : List Loc) (ls : Array Slot), f_X_side_L36 f8 f9 p3 v2 v3 v4 v5 v6 v7 n36 v11 = some o36_ → va_P D vwCl ((a_x, .inr (10, [.ref a_at, .ref a_g, .ref a_st, .ref a_x_kept, .int x_keptStates, .ref a_tp, .ref a_rd, .ref a_qu, .ref a_sp, .ref a_wk, .ref a_bx, .ref a_nt, .ref a_nu, .ref a_x_seen])) :: (a_sp, .inr (6, [.ref a_g, .ref a_sp_first, .ref a_sp_many, .ref a_sp_corner, .int sp_cornerCount, .int v2, .int v3, .int v4, .int v5, .int v6, .int v7])) :: (a_sp_first, .inl (ci 0, 4, .inl f8)) :: (a_sp_many, .inl (ci 0, 4, .inl f9)) :: (a_g, .inr (2, [.ref a_g_rowCuts, .ref a_g_columnCuts, .ref a_g_bandRows, .ref a_g_zoneColumns, .ref a_g_rows, .ref a_g_sheets])) :: (a_g_bandRows, .inl (ci 0, 5, .inl g_bandRows)) :: (a_g_zoneColumns, .inl (ci 0, 5, .inl g_zoneColumns)) :: (a_g_rows, .inl (ci 0, 5, .inl g_rows)) :: (a_g_sheets, .inl (ci 0, 5, .inl g_sheets)) :: Rw) H → va_D A ((a_x, .inr (10, [.ref a_at, .ref a_g, .ref a_st, .ref a_x_kept, .int x_keptStates, .ref a_tp, .ref a_rd, .ref a_qu, .ref a_sp, .ref a_wk, .ref a_bx, .ref a_nt, .ref a_nu, .ref a_x_seen])) :: (a_sp, .inr (6, [.ref a_g, .ref a_sp_first, .ref a_sp_many, .ref a_sp_corner, .int sp_cornerCount, .int v2, .int v3, .int v4, .int v5, .int v6, .int v7])) :: (a_sp_first, .inl (ci 0, 4, .inl f8)) :: (a_sp_many, .inl (ci 0, 4, .inl f9)) :: (a_g, .inr (2, [.ref a_g_rowCuts, .ref a_g_columnCuts, .ref a_g_bandRows, .ref a_g_zoneColumns, .ref a_g_rows, .ref a_g_sheets])) :: (a_g_bandRows, .inl (ci 0, 5, .inl g_bandRows)) :: (a_g_zoneColumns, .inl (ci 0, 5, .inl g_zoneColumns)) :: (a_g_rows, .inl (ci 0, 5, .inl g_rows)) :: (a_g_sheets, .inl (ci 0, 5, .inl g_sheets)) :: Rw) → va_S A s.heap H locs → lv_has ls 5 [(0, .ref a_x), (3, .int p3), (4, .int v11)] → W p l e ({ frames := 3, cells := 0, slots := 0, locals := 71 } : Room) s m ([.ref a_x, .int p1, .int p2, .int p3] : List Value).toArray below meth c H locs 0 0 Q (F0 m 36 ls []) := by
          intro n36
          induction n36 with
          | zero => intro v11 H locs ls hf; rw [f_X_side_L36] at hf; cases hf
          | succ n36 ih36 =>
            intro v11 H locs ls hf hP hD hS hl
            rw [f_X_side_L36] at hf
            refine lv_iload (pc := 36) hx hb dX10_side_36 (lv_at hl 2 rfl) ?_
            refine lv_iconst (pc := 38) (v := 3) hx hb dX10_side_38 (by decide) ?_
            refine q_icmp_gt (pc := 39) (tgt := 90) hx hb dX10_side_39 (by decide) rfl hf (fun hf => ?_) (fun hf => ?_)
            · obtain rfl := Option.some.inj hf
              exact JE36  _ _ _ hk36 hP hD hS (lv_sub hl [] rfl)
            · refine lv_iload_n (pc := 42) hx hb dX10_side_42 rfl (lv_at hl 1 rfl) ?_
              refine lv_aload_n (pc := 43) hx hb dX10_side_43 rfl (lv_at hl 0 rfl) ?_
              refine va_get (pc := 44) (D := D) (ci := 10) (v := .ref a_sp) (C := RX10) (T := TX10) (N := 14) hx hb hts hinX10 hown hK hP 0 rfl rfl 8 (by decide) w_1 (fun _ h9 => h9) rfl dX10_side_44 ?_
              refine va_getN (pc := 47) (D := D) (ci := 6) (v := .ref a_sp_first) (C := RX6) (T := TX6) (N := 11) hx hb hts hinX6 hown hK hP 1 rfl rfl 1 (by decide) wn_17 (fun _ h9 => h9) rfl dX10_side_47 ?_
              refine lv_iload (pc := 50) hx hb dX10_side_50 (lv_at hl 2 rfl) ?_
              refine q_iald (pc := 52) hx hb hK hP 2 0 hf rfl rfl dX10_side_52 (fun v12 hf => ?_)
              obtain ⟨k84, ek84, hf⟩ := q_j0_e hf
              have J84 : ∀  (H : Heap) (locs : List Loc) (ls : Array Slot), k84 = some o36_ → va_P D vwCl ((a_x, .inr (10, [.ref a_at, .ref a_g, .ref a_st, .ref a_x_kept, .int x_keptStates, .ref a_tp, .ref a_rd, .ref a_qu, .ref a_sp, .ref a_wk, .ref a_bx, .ref a_nt, .ref a_nu, .ref a_x_seen])) :: (a_sp, .inr (6, [.ref a_g, .ref a_sp_first, .ref a_sp_many, .ref a_sp_corner, .int sp_cornerCount, .int v2, .int v3, .int v4, .int v5, .int v6, .int v7])) :: (a_sp_first, .inl (ci 0, 4, .inl f8)) :: (a_sp_many, .inl (ci 0, 4, .inl f9)) :: (a_g, .inr (2, [.ref a_g_rowCuts, .ref a_g_columnCuts, .ref a_g_bandRows, .ref a_g_zoneColumns, .ref a_g_rows, .ref a_g_sheets])) :: (a_g_bandRows, .inl (ci 0, 5, .inl g_bandRows)) :: (a_g_zoneColumns, .inl (ci 0, 5, .inl g_zoneColumns)) :: (a_g_rows, .inl (ci 0, 5, .inl g_rows)) :: (a_g_sheets, .inl (ci 0, 5, .inl g_sheets)) :: Rw) H → va_D A ((a_x, .inr (10, [.ref a_at, .ref a_g, .ref a_st, .ref a_x_kept, .int x_keptStates, .ref a_tp, .ref a_rd, .ref a_qu, .ref a_sp, .ref a_wk, .ref a_bx, .ref a_nt, .ref a_nu, .ref a_x_seen])) :: (a_sp, .inr (6, [.ref a_g, .ref a_sp_first, .ref a_sp_many, .ref a_sp_corner, .int sp_cornerCount, .int v2, .int v3, .int v4, .int v5, .int v6, .int v7])) :: (a_sp_first, .inl (ci 0, 4, .inl f8)) :: (a_sp_many, .inl (ci 0, 4, .inl f9)) :: (a_g, .inr (2, [.ref a_g_rowCuts, .ref a_g_columnCuts, .ref a_g_bandRows, .ref a_g_zoneColumns, .ref a_g_rows, .ref a_g_sheets])) :: (a_g_bandRows, .inl (ci 0, 5, .inl g_bandRows)) :: (a_g_zoneColumns, .inl (ci 0, 5, .inl g_zoneColumns)) :: (a_g_rows, .inl (ci 0, 5, .inl g_rows)) :: (a_g_sheets, .inl (ci 0, 5, .inl g_sheets)) :: Rw) → va_S A s.heap H locs → lv_has ls 5 [(0, .ref a_x), (3, .int p3), (4, .int v11)] → W p l e ({ frames := 3, cells := 0, slots := 0, locals := 71 } : Room) s m ([.ref a_x, .int p1, .int p2, .int p3] : List Value).toArray below meth c H locs 0 0 Q (F0 m 84 ls []) := by
                intro  H locs ls hf hP hD hS hl
                have hf := (ek84).symm.trans hf
                obtain ⟨v13, ev13, hf⟩ := q_nm_e hf
                refine lv_iinc (pc := 84) (v := v13) (lv' := [(4, .int v13), (0, .ref a_x), (3, .int p3)]) hx hb dX10_side_84 hl (k := 2) rfl (by rw [ev13]; rfl) (by decide) rfl (fun ls hl => ?_)
                refine lv_goto (pc := 87) (tgt := 36) hx hb dX10_side_87 (by decide) ?_
                exact ih36 v13 _ _ _ hf hP hD hS (lv_sub hl [1, 2, 0] rfl)
              refine q_icmp_lt (pc := 53) (tgt := 84) hx hb dX10_side_53 (by decide) rfl hf (fun hf => ?_) (fun hf => ?_)
              · exact J84  _ _ _ hf hP hD hS (lv_sub hl [0, 1, 2] rfl)
              · refine lv_iload_n (pc := 56) hx hb dX10_side_56 rfl (lv_at hl 1 rfl) ?_
                refine lv_aload_n (pc := 57) hx hb dX10_side_57 rfl (lv_at hl 0 rfl) ?_
                refine va_get (pc := 58) (D := D) (ci := 10) (v := .ref a_sp) (C := RX10) (T := TX10) (N := 14) hx hb hts hinX10 hown hK hP 0 rfl rfl 8 (by decide) w_1 (fun _ h9 => h9) rfl dX10_side_58 ?_
                refine va_getN (pc := 61) (D := D) (ci := 6) (v := .ref a_sp_first) (C := RX6) (T := TX6) (N := 11) hx hb hts hinX6 hown hK hP 1 rfl rfl 1 (by decide) wn_17 (fun _ h9 => h9) rfl dX10_side_61 ?_
                refine lv_iload (pc := 64) hx hb dX10_side_64 (lv_at hl 2 rfl) ?_
                refine q_iald (pc := 66) hx hb hK hP 2 0 hf rfl rfl dX10_side_66 (fun v14 hf => ?_)
                refine lv_aload_n (pc := 67) hx hb dX10_side_67 rfl (lv_at hl 0 rfl) ?_
                refine va_get (pc := 68) (D := D) (ci := 10) (v := .ref a_sp) (C := RX10) (T := TX10) (N := 14) hx hb hts hinX10 hown hK hP 0 rfl rfl 8 (by decide) w_1 (fun _ h9 => h9) rfl dX10_side_68 ?_
                refine va_getN (pc := 71) (D := D) (ci := 6) (v := .ref a_sp_many) (C := RX6) (T := TX6) (N := 11) hx hb hts hinX6 hown hK hP 1 rfl rfl 2 (by decide) wn_16 (fun _ h9 => h9) rfl dX10_side_71 ?_
                refine lv_iload (pc := 74) hx hb dX10_side_74 (lv_at hl 2 rfl) ?_
                refine q_iald (pc := 76) hx hb hK hP 3 0 hf rfl rfl dX10_side_76 (fun v15 hf => ?_)
                refine lv_iadd (pc := 77) hx hb dX10_side_77 ?_
                refine q_icmp_ge (pc := 78) (tgt := 84) hx hb dX10_side_78 (by decide) rfl hf (fun hf => ?_) (fun hf => ?_)
                · exact J84  _ _ _ hf hP hD hS (lv_sub hl [0, 1, 2] rfl)
                · refine lv_iload (pc := 81) hx hb dX10_side_81 (lv_at hl 2 rfl) ?_
                  obtain rfl := Option.some.inj hf
                  have hk36 : ((v11, f8, f9, v2, v3, v4, v5, v6, v7) : Int32 × (Nat → Int32) × (Nat → Int32) × Int32 × Int32 × Int32 × Int32 × Int32 × Int32) = (r, o1, o2, o3, o4, o5, o6, o7, o8) := hk36
                  obtain ⟨e90, e91, e92, e93, e94, e95, e96, e97, e98⟩ := q_inj9 (hk36)
                  rw [hQ, ← e90, ← e91, ← e92, ← e93, ← e94, ← e95, ← e96, ← e97, ← e98]
                  exact q_iret (pc := 83) hx hb hr hlocks hP hD hS dX10_side_83
        exact LP36 N v10 _ _ _ hm36 hP hD hS (lv_sub hl [1, 4, 0] rfl)
      · refine lv_iconst (pc := 15) (v := (-1)) hx hb dX10_side_15 (by decide) ?_
        obtain ⟨e90, e91, e92, e93, e94, e95, e96, e97, e98⟩ := q_inj9 (Option.some.inj hf)
        rw [hQ, ← e90, ← e91, ← e92, ← e93, ← e94, ← e95, ← e96, ← e97, ← e98]
        exact q_iret (pc := 16) hx hb hr hlocks hP hD hS dX10_side_16
  exact hgo _ _ rfl hP hS
/-! X10_store -/
set_option maxRecDepth 100000 in
set_option maxHeartbeats 4000000 in
theorem c_X_store (l : Launch) (D : va_G) (ci : Nat → ClassId) (A : Nat → Prop) (sa : Nat → Nat) (N : Nat) (Rw : va_W) (a_x : Nat) (a_at : Nat) (a_g : Nat) (a_st : Nat) (a_x_kept : Nat) (a_tp : Nat) (a_rd : Nat) (a_qu : Nat) (a_sp : Nat) (a_wk : Nat) (a_bx : Nat) (a_nt : Nat) (a_nu : Nat) (a_x_seen : Nat) (a_st_levels : Nat) (a_st_keys : Nat) (a_st_years : Nat) (a_st_keysThere : Nat) (a_g_rowCuts : Nat) (a_g_columnCuts : Nat) (a_g_bandRows : Nat) (a_g_zoneColumns : Nat) (a_g_rows : Nat) (a_g_sheets : Nat) (x_keptStates : Int32) (st_size : Int32) (st_shownBy : Int32) (st_deepestShown : Int32) (st_latestShown : Int32) (st_levels : Nat → Int32) (st_keys : Nat → Int32) (st_years : Nat → Int32) (g_bandRows : Nat → Int32) (g_zoneColumns : Nat → Int32) (g_rows : Nat → Int32) (g_sheets : Nat → Int32) (p1 : Int32) (p2 : Int32) (p3 : Int32) (r : Int32) (o1 : Nat → Int32) (o2 : Nat → Int32) (o3 : Nat → Int32) (o4 : Int32) (hf : f_X_store N st_levels st_keys st_years st_size g_bandRows g_zoneColumns g_rows g_sheets p1 p2 p3 = some (r, o1, o2, o3, o4)) : Met l yX10_store wsX10_store ({ frames := 3, cells := 0, slots := 0, locals := 75 }) (va_Pc [.ref a_x, .int p1, .int p2, .int p3] (q_N D ci A sa ((a_x, .inr (10, [.ref a_at, .ref a_g, .ref a_st, .ref a_x_kept, .int x_keptStates, .ref a_tp, .ref a_rd, .ref a_qu, .ref a_sp, .ref a_wk, .ref a_bx, .ref a_nt, .ref a_nu, .ref a_x_seen])) :: (a_st, .inr (7, [.ref a_g, .ref a_st_levels, .ref a_st_keys, .ref a_st_years, .ref a_st_keysThere, .int st_size, .int st_shownBy, .int st_deepestShown, .int st_latestShown])) :: (a_st_levels, .inl (ci 0, 60, .inl st_levels)) :: (a_st_keys, .inl (ci 0, 60, .inl st_keys)) :: (a_st_years, .inl (ci 0, 60, .inl st_years)) :: (a_g, .inr (2, [.ref a_g_rowCuts, .ref a_g_columnCuts, .ref a_g_bandRows, .ref a_g_zoneColumns, .ref a_g_rows, .ref a_g_sheets])) :: (a_g_bandRows, .inl (ci 0, 5, .inl g_bandRows)) :: (a_g_zoneColumns, .inl (ci 0, 5, .inl g_zoneColumns)) :: (a_g_rows, .inl (ci 0, 5, .inl g_rows)) :: (a_g_sheets, .inl (ci 0, 5, .inl g_sheets)) :: Rw))) (q_Q (some (.int r)) (q_O D A ((a_x, .inr (10, [.ref a_at, .ref a_g, .ref a_st, .ref a_x_kept, .int x_keptStates, .ref a_tp, .ref a_rd, .ref a_qu, .ref a_sp, .ref a_wk, .ref a_bx, .ref a_nt, .ref a_nu, .ref a_x_seen])) :: (a_st, .inr (7, [.ref a_g, .ref a_st_levels, .ref a_st_keys, .ref a_st_years, .ref a_st_keysThere, .int o4, .int st_shownBy, .int st_deepestShown, .int st_latestShown])) :: (a_st_levels, .inl (ci 0, 60, .inl o1)) :: (a_st_keys, .inl (ci 0, 60, .inl o2)) :: (a_st_years, .inl (ci 0, 60, .inl o3)) :: (a_g, .inr (2, [.ref a_g_rowCuts, .ref a_g_columnCuts, .ref a_g_bandRows, .ref a_g_zoneColumns, .ref a_g_rows, .ref a_g_sheets])) :: (a_g_bandRows, .inl (ci 0, 5, .inl g_bandRows)) :: (a_g_zoneColumns, .inl (ci 0, 5, .inl g_zoneColumns)) :: (a_g_rows, .inl (ci 0, 5, .inl g_rows)) :: (a_g_sheets, .inl (ci 0, 5, .inl g_sheets)) :: Rw)) A) 0 0 A := by
  refine q_ofW (cc := cX10_store) (maxL := 6) (ret := (some .int)) [.ref a_x, .int p1, .int p2, .int p3] (plainFor_of_name (by decide)) rfl (Nat.le_of_ble_eq_true rfl) ?_
  intro p e s m below meth c ls Q hQ hx hb hml hr hts hown hlocks hK hA hZ hP hD hS hl
  have hl : lv_has ls 6 [(0, .ref a_x), (1, .int p1), (2, .int p2), (3, .int p3)] := hl
  have hown : s.vm.findClass RX10 = some m.cls := hown
  have hinX10 : ∀ w ∈ wsX100, w ∈ wsX10_store := fun _ h => List.mem_cons_of_mem _ (inWX100 _ h)
  have hinX7 : ∀ w ∈ wsX70, w ∈ wsX10_store := fun _ h => List.mem_cons_of_mem _ (inWX70 _ h)
  have w_1 := hts (Cond.fieldLink RX10 20 "SheetNames" "grid" "LSheetNames$Grid;") (List.mem_cons_of_mem _ t_w876)
  have w_2 := hts (Cond.fieldLink RX10 25 "SheetNames" "pieces" "LSheetNames$Store;") (List.mem_cons_of_mem _ t_w892)
  have wn_0 : (Cond.fieldLinkNest "SheetNames" 109 "SheetNames$Store" "size" "I" "SheetNames").before ([.ref a_x, .int p1, .int p2, .int p3] : List Value).toArray s = true := (hZ.2.2.2.2.2.2.2.2.2.1 _ (List.mem_of_getElem? (i := 0) rfl)).use rfl
  unfold f_X_store at hf
  have hgo : ∀ (H : Heap) (locs : List Loc), H = s.heap → va_P D vwCl ((a_x, .inr (10, [.ref a_at, .ref a_g, .ref a_st, .ref a_x_kept, .int x_keptStates, .ref a_tp, .ref a_rd, .ref a_qu, .ref a_sp, .ref a_wk, .ref a_bx, .ref a_nt, .ref a_nu, .ref a_x_seen])) :: (a_st, .inr (7, [.ref a_g, .ref a_st_levels, .ref a_st_keys, .ref a_st_years, .ref a_st_keysThere, .int st_size, .int st_shownBy, .int st_deepestShown, .int st_latestShown])) :: (a_st_levels, .inl (ci 0, 60, .inl st_levels)) :: (a_st_keys, .inl (ci 0, 60, .inl st_keys)) :: (a_st_years, .inl (ci 0, 60, .inl st_years)) :: (a_g, .inr (2, [.ref a_g_rowCuts, .ref a_g_columnCuts, .ref a_g_bandRows, .ref a_g_zoneColumns, .ref a_g_rows, .ref a_g_sheets])) :: (a_g_bandRows, .inl (ci 0, 5, .inl g_bandRows)) :: (a_g_zoneColumns, .inl (ci 0, 5, .inl g_zoneColumns)) :: (a_g_rows, .inl (ci 0, 5, .inl g_rows)) :: (a_g_sheets, .inl (ci 0, 5, .inl g_sheets)) :: Rw) H → va_S A s.heap H locs → W p l e ({ frames := 3, cells := 0, slots := 0, locals := 75 } : Room) s m ([.ref a_x, .int p1, .int p2, .int p3] : List Value).toArray below meth c H locs 0 0 Q (F0 m 0 ls []) := by
    intro H locs hH hP hS
    refine lv_aload_n (pc := 0) hx hb dX10_store_0 rfl (lv_at hl 0 rfl) ?_
    refine va_get (pc := 1) (D := D) (ci := 10) (v := .ref a_g) (C := RX10) (T := TX10) (N := 14) hx hb hts hinX10 hown hK hP 0 rfl rfl 1 (by decide) w_1 (fun _ h9 => h9) rfl dX10_store_1 ?_
    refine lv_iload_n (pc := 4) hx hb dX10_store_4 rfl (lv_at hl 1 rfl) ?_
    refine lv_iload_n (pc := 5) hx hb dX10_store_5 rfl (lv_at hl 2 rfl) ?_
    obtain ⟨v1, hm6, hf⟩ := q_b1_e hf
    refine q_cVr (pc := 6) (As := [.int p1, .int p2]) (rest := []) (v0 := (some (.int v1))) ⟨hx, hb, hml, hown, hts⟩ hK hA hZ hP hD hS hl.1 [5, 9] 10 rfl ⟨rfl, rfl, rfl⟩ (c_Grid_hasSheet l D ci A sa N (Rw) a_g a_g_rowCuts a_g_columnCuts a_g_bandRows a_g_zoneColumns a_g_rows a_g_sheets g_sheets p1 p2 v1 hm6) 5 rfl rfl (cwV 2 hts gX10_store_X2_hasSheet rfl rfl rfl (by decide +kernel) ⟨Nat.le_of_ble_eq_true rfl, Nat.le_of_ble_eq_true rfl⟩) rfl rfl (Nat.le_of_ble_eq_true rfl) dX10_store_6 ⟨Nat.zero_le _, Nat.zero_le _⟩ (fun locs hS => ?_)
    refine q_if_eq (pc := 9) (tgt := 25) hx hb dX10_store_9 (by decide) rfl hf (fun hf => ?_) (fun hf => ?_)
    · refine lv_iconst (pc := 25) (v := (-1)) hx hb dX10_store_25 (by decide) ?_
      obtain ⟨e90, e91, e92, e93, e94⟩ := q_inj5 (Option.some.inj hf)
      rw [hQ, ← e90, ← e91, ← e92, ← e93, ← e94]
      exact q_iret (pc := 26) hx hb hr hlocks hP hD hS dX10_store_26
    · refine lv_iload_n (pc := 12) hx hb dX10_store_12 rfl (lv_at hl 3 rfl) ?_
      refine lv_sipush (pc := 13) (v := 1800) hx hb dX10_store_13 (by decide) ?_
      refine lv_sipush (pc := 16) (v := 2100) hx hb dX10_store_16 (by decide) ?_
      obtain ⟨v2, hm19, hf⟩ := q_b1_e hf
      refine q_cSr (pc := 19) (As := [.int p3, .int 1800, .int 2100]) (rest := []) (v0 := (some (.int v2))) ⟨hx, hb, hml, hown, hts⟩ hK hA hZ hP hD hS hl.1 [] 10 rfl ⟨rfl, rfl, rfl⟩ (c_X_isFrom l D ci A sa N (Rw) p3 1800 2100 v2 hm19) (va_cwS 3 hts gX10_store_X10_isFrom rfl rfl rfl (by decide +kernel) ⟨Nat.le_of_ble_eq_true rfl, Nat.le_of_ble_eq_true rfl⟩) rfl rfl (Nat.le_of_ble_eq_true rfl) dX10_store_19 ⟨Nat.zero_le _, Nat.zero_le _⟩ (fun locs hS => ?_)
      refine q_if_ne (pc := 22) (tgt := 27) hx hb dX10_store_22 (by decide) rfl hf (fun hf => ?_) (fun hf => ?_)
      · refine lv_aload_n (pc := 27) hx hb dX10_store_27 rfl (lv_at hl 0 rfl) ?_
        refine va_get (pc := 28) (D := D) (ci := 10) (v := .ref a_g) (C := RX10) (T := TX10) (N := 14) hx hb hts hinX10 hown hK hP 0 rfl rfl 1 (by decide) w_1 (fun _ h9 => h9) rfl dX10_store_28 ?_
        refine lv_iload_n (pc := 31) hx hb dX10_store_31 rfl (lv_at hl 1 rfl) ?_
        refine lv_iload_n (pc := 32) hx hb dX10_store_32 rfl (lv_at hl 2 rfl) ?_
        obtain ⟨v3, hm33, hf⟩ := q_b1_e hf
        refine q_cVr (pc := 33) (As := [.int p1, .int p2]) (rest := []) (v0 := (some (.int v3))) ⟨hx, hb, hml, hown, hts⟩ hK hA hZ hP hD hS hl.1 [5, 9] 10 rfl ⟨rfl, rfl, rfl⟩ (c_Grid_storedLevel l D ci A sa N (Rw) a_g a_g_rowCuts a_g_columnCuts a_g_bandRows a_g_zoneColumns a_g_rows a_g_sheets g_sheets p1 p2 v3 hm33) 5 rfl rfl (cwV 2 hts gX10_store_X2_storedLevel rfl rfl rfl (by decide +kernel) ⟨Nat.le_of_ble_eq_true rfl, Nat.le_of_ble_eq_true rfl⟩) rfl rfl (Nat.le_of_ble_eq_true rfl) dX10_store_33 ⟨Nat.zero_le _, Nat.zero_le _⟩ (fun locs hS => ?_)
        refine lv_istore (pc := 36) (lv' := [(4, .int v3), (0, .ref a_x), (1, .int p1), (2, .int p2), (3, .int p3)]) hx hb dX10_store_36 hl (by decide) rfl (fun ls hl => ?_)
        refine lv_aload_n (pc := 38) hx hb dX10_store_38 rfl (lv_at hl 1 rfl) ?_
        refine va_get (pc := 39) (D := D) (ci := 10) (v := .ref a_g) (C := RX10) (T := TX10) (N := 14) hx hb hts hinX10 hown hK hP 0 rfl rfl 1 (by decide) w_1 (fun _ h9 => h9) rfl dX10_store_39 ?_
        refine lv_iload_n (pc := 42) hx hb dX10_store_42 rfl (lv_at hl 2 rfl) ?_
        refine lv_iload_n (pc := 43) hx hb dX10_store_43 rfl (lv_at hl 3 rfl) ?_
        refine lv_iload (pc := 44) hx hb dX10_store_44 (lv_at hl 0 rfl) ?_
        obtain ⟨v4, hm46, hf⟩ := q_b1_e hf
        refine q_cVr (pc := 46) (As := [.int p1, .int p2, .int v3]) (rest := []) (v0 := (some (.int v4))) ⟨hx, hb, hml, hown, hts⟩ hK hA hZ hP hD hS hl.1 [5, 6, 7, 8, 9] 10 rfl ⟨rfl, rfl, rfl⟩ (c_Grid_keyAbove l D ci A sa N (Rw) a_g a_g_rowCuts a_g_columnCuts a_g_bandRows a_g_zoneColumns a_g_rows a_g_sheets g_bandRows g_zoneColumns g_rows g_sheets p1 p2 v3 v4 hm46) 5 rfl rfl (cwV 3 hts gX10_store_X2_keyAbove rfl rfl rfl (by decide +kernel) ⟨Nat.le_of_ble_eq_true rfl, Nat.le_of_ble_eq_true rfl⟩) rfl rfl (Nat.le_of_ble_eq_true rfl) dX10_store_46 ⟨Nat.zero_le _, Nat.zero_le _⟩ (fun locs hS => ?_)
        refine lv_istore (pc := 49) (lv' := [(5, .int v4), (4, .int v3), (0, .ref a_x), (1, .int p1), (2, .int p2), (3, .int p3)]) hx hb dX10_store_49 hl (by decide) rfl (fun ls hl => ?_)
        refine lv_aload_n (pc := 51) hx hb dX10_store_51 rfl (lv_at hl 2 rfl) ?_
        refine va_get (pc := 52) (D := D) (ci := 10) (v := .ref a_st) (C := RX10) (T := TX10) (N := 14) hx hb hts hinX10 hown hK hP 0 rfl rfl 2 (by decide) w_2 (fun _ h9 => h9) rfl dX10_store_52 ?_
        refine lv_iload (pc := 55) hx hb dX10_store_55 (lv_at hl 1 rfl) ?_
        refine lv_iload (pc := 57) hx hb dX10_store_57 (lv_at hl 0 rfl) ?_
        refine lv_iload_n (pc := 59) hx hb dX10_store_59 rfl (lv_at hl 5 rfl) ?_
        obtain ⟨v5, f6, f7, f8, v9, hm60, hf⟩ := q_b5_e hf
        refine q_cV (pc := 60) (As := [.int v3, .int v4, .int p3]) (rest := []) (v0 := (some (.int v5))) ⟨hx, hb, hml, hown, hts⟩ hK hA hZ hP hD hS hl.1 [1, 2, 3, 4, 0, 5, 6, 7, 8, 9] 10 rfl ⟨rfl, rfl, rfl⟩ (c_Store_put l D ci A sa N ((a_x, .inr (10, [.ref a_at, .ref a_g, .ref a_st, .ref a_x_kept, .int x_keptStates, .ref a_tp, .ref a_rd, .ref a_qu, .ref a_sp, .ref a_wk, .ref a_bx, .ref a_nt, .ref a_nu, .ref a_x_seen])) :: (a_g, .inr (2, [.ref a_g_rowCuts, .ref a_g_columnCuts, .ref a_g_bandRows, .ref a_g_zoneColumns, .ref a_g_rows, .ref a_g_sheets])) :: (a_g_bandRows, .inl (ci 0, 5, .inl g_bandRows)) :: (a_g_zoneColumns, .inl (ci 0, 5, .inl g_zoneColumns)) :: (a_g_rows, .inl (ci 0, 5, .inl g_rows)) :: (a_g_sheets, .inl (ci 0, 5, .inl g_sheets)) :: Rw) a_st a_g a_st_levels a_st_keys a_st_years a_st_keysThere st_size st_shownBy st_deepestShown st_latestShown st_levels st_keys st_years v3 v4 p3 v5 f6 f7 f8 v9 hm60) 1 rfl rfl (cwV 3 hts gX10_store_X7_put rfl rfl rfl (by decide +kernel) ⟨Nat.le_of_ble_eq_true rfl, Nat.le_of_ble_eq_true rfl⟩) rfl rfl (Nat.le_of_ble_eq_true rfl) dX10_store_60 ⟨Nat.zero_le _, Nat.zero_le _⟩ [4, 0, 1, 2, 3, 5, 6, 7, 8, 9] 10 rfl ⟨rfl, rfl, rfl⟩ (fun H locs hP hD hS => ?_)
        obtain ⟨hP, hD⟩ : va_PD D A ((a_x, .inr (10, [.ref a_at, .ref a_g, .ref a_st, .ref a_x_kept, .int x_keptStates, .ref a_tp, .ref a_rd, .ref a_qu, .ref a_sp, .ref a_wk, .ref a_bx, .ref a_nt, .ref a_nu, .ref a_x_seen])) :: (a_st, .inr (7, [.ref a_g, .ref a_st_levels, .ref a_st_keys, .ref a_st_years, .ref a_st_keysThere, .int v9, .int st_shownBy, .int st_deepestShown, .int st_latestShown])) :: (a_st_levels, .inl (ci 0, 60, .inl f6)) :: (a_st_keys, .inl (ci 0, 60, .inl f7)) :: (a_st_years, .inl (ci 0, 60, .inl f8)) :: (a_g, .inr (2, [.ref a_g_rowCuts, .ref a_g_columnCuts, .ref a_g_bandRows, .ref a_g_zoneColumns, .ref a_g_rows, .ref a_g_sheets])) :: (a_g_bandRows, .inl (ci 0, 5, .inl g_bandRows)) :: (a_g_zoneColumns, .inl (ci 0, 5, .inl g_zoneColumns)) :: (a_g_rows, .inl (ci 0, 5, .inl g_rows)) :: (a_g_sheets, .inl (ci 0, 5, .inl g_sheets)) :: Rw) H := ⟨hP, hD⟩
        refine q_if_eq (pc := 63) (tgt := 76) hx hb dX10_store_63 (by decide) rfl hf (fun hf => ?_) (fun hf => ?_)
        · refine lv_bipush (pc := 76) (v := (-2)) hx hb dX10_store_76 (by decide) ?_
          obtain ⟨e90, e91, e92, e93, e94⟩ := q_inj5 (Option.some.inj hf)
          rw [hQ, ← e90, ← e91, ← e92, ← e93, ← e94]
          exact q_iret (pc := 78) hx hb hr hlocks hP hD hS dX10_store_78
        · refine lv_aload_n (pc := 66) hx hb dX10_store_66 rfl (lv_at hl 2 rfl) ?_
          refine va_get (pc := 67) (D := D) (ci := 10) (v := .ref a_st) (C := RX10) (T := TX10) (N := 14) hx hb hts hinX10 hown hK hP 0 rfl rfl 2 (by decide) w_2 (fun _ h9 => h9) rfl dX10_store_67 ?_
          refine va_getN (pc := 70) (D := D) (ci := 7) (v := .int v9) (C := RX7) (T := TX7) (N := 9) hx hb hts hinX7 hown hK hP 1 rfl rfl 5 (by decide) wn_0 (fun _ h9 => h9) rfl dX10_store_70 ?_
          refine lv_goto (pc := 73) (tgt := 78) hx hb dX10_store_73 (by decide) ?_
          obtain ⟨e90, e91, e92, e93, e94⟩ := q_inj5 (Option.some.inj hf)
          rw [hQ, ← e90, ← e91, ← e92, ← e93, ← e94]
          exact q_iret (pc := 78) hx hb hr hlocks hP hD hS dX10_store_78
      · refine lv_iconst (pc := 25) (v := (-1)) hx hb dX10_store_25 (by decide) ?_
        obtain ⟨e90, e91, e92, e93, e94⟩ := q_inj5 (Option.some.inj hf)
        rw [hQ, ← e90, ← e91, ← e92, ← e93, ← e94]
        exact q_iret (pc := 26) hx hb hr hlocks hP hD hS dX10_store_26
  exact hgo _ _ rfl hP hS
/-! X10_tidy -/
set_option maxRecDepth 100000 in
set_option maxHeartbeats 4000000 in
theorem c_X_tidy (l : Launch) (D : va_G) (ci : Nat → ClassId) (A : Nat → Prop) (sa : Nat → Nat) (N : Nat) (Rw : va_W) (a_x : Nat) (a_at : Nat) (a_g : Nat) (a_st : Nat) (a_x_kept : Nat) (a_tp : Nat) (a_rd : Nat) (a_qu : Nat) (a_sp : Nat) (a_wk : Nat) (a_bx : Nat) (a_nt : Nat) (a_nu : Nat) (a_x_seen : Nat) (a_st_levels : Nat) (a_st_keys : Nat) (a_st_years : Nat) (a_st_keysThere : Nat) (a_g_rowCuts : Nat) (a_g_columnCuts : Nat) (a_g_bandRows : Nat) (a_g_zoneColumns : Nat) (a_g_rows : Nat) (a_g_sheets : Nat) (x_keptStates : Int32) (st_size : Int32) (st_shownBy : Int32) (st_deepestShown : Int32) (st_latestShown : Int32) (st_levels : Nat → Int32) (st_keys : Nat → Int32) (st_years : Nat → Int32) (g_bandRows : Nat → Int32) (g_zoneColumns : Nat → Int32) (g_rows : Nat → Int32) (g_sheets : Nat → Int32) (r : Int32) (o1 : Nat → Int32) (o2 : Nat → Int32) (o3 : Nat → Int32) (o4 : Int32) (hf : f_X_tidy N st_levels st_keys st_years st_size g_bandRows g_zoneColumns g_rows g_sheets = some (r, o1, o2, o3, o4)) : Met l yX10_tidy wsX10_tidy ({ frames := 4, cells := 0, slots := 0, locals := 97 }) (va_Pc [.ref a_x] (q_N D ci A sa ((a_x, .inr (10, [.ref a_at, .ref a_g, .ref a_st, .ref a_x_kept, .int x_keptStates, .ref a_tp, .ref a_rd, .ref a_qu, .ref a_sp, .ref a_wk, .ref a_bx, .ref a_nt, .ref a_nu, .ref a_x_seen])) :: (a_st, .inr (7, [.ref a_g, .ref a_st_levels, .ref a_st_keys, .ref a_st_years, .ref a_st_keysThere, .int st_size, .int st_shownBy, .int st_deepestShown, .int st_latestShown])) :: (a_st_levels, .inl (ci 0, 60, .inl st_levels)) :: (a_st_keys, .inl (ci 0, 60, .inl st_keys)) :: (a_st_years, .inl (ci 0, 60, .inl st_years)) :: (a_g, .inr (2, [.ref a_g_rowCuts, .ref a_g_columnCuts, .ref a_g_bandRows, .ref a_g_zoneColumns, .ref a_g_rows, .ref a_g_sheets])) :: (a_g_bandRows, .inl (ci 0, 5, .inl g_bandRows)) :: (a_g_zoneColumns, .inl (ci 0, 5, .inl g_zoneColumns)) :: (a_g_rows, .inl (ci 0, 5, .inl g_rows)) :: (a_g_sheets, .inl (ci 0, 5, .inl g_sheets)) :: Rw))) (q_Q (some (.int r)) (q_O D A ((a_x, .inr (10, [.ref a_at, .ref a_g, .ref a_st, .ref a_x_kept, .int x_keptStates, .ref a_tp, .ref a_rd, .ref a_qu, .ref a_sp, .ref a_wk, .ref a_bx, .ref a_nt, .ref a_nu, .ref a_x_seen])) :: (a_st, .inr (7, [.ref a_g, .ref a_st_levels, .ref a_st_keys, .ref a_st_years, .ref a_st_keysThere, .int o4, .int st_shownBy, .int st_deepestShown, .int st_latestShown])) :: (a_st_levels, .inl (ci 0, 60, .inl o1)) :: (a_st_keys, .inl (ci 0, 60, .inl o2)) :: (a_st_years, .inl (ci 0, 60, .inl o3)) :: (a_g, .inr (2, [.ref a_g_rowCuts, .ref a_g_columnCuts, .ref a_g_bandRows, .ref a_g_zoneColumns, .ref a_g_rows, .ref a_g_sheets])) :: (a_g_bandRows, .inl (ci 0, 5, .inl g_bandRows)) :: (a_g_zoneColumns, .inl (ci 0, 5, .inl g_zoneColumns)) :: (a_g_rows, .inl (ci 0, 5, .inl g_rows)) :: (a_g_sheets, .inl (ci 0, 5, .inl g_sheets)) :: Rw)) A) 0 0 A := by
  refine q_ofW (cc := cX10_tidy) (maxL := 3) (ret := (some .int)) [.ref a_x] (plainFor_of_name (by decide)) rfl (Nat.le_of_ble_eq_true rfl) ?_
  intro p e s m below meth c ls Q hQ hx hb hml hr hts hown hlocks hK hA hZ hP hD hS hl
  have hl : lv_has ls 3 [(0, .ref a_x)] := hl
  have hown : s.vm.findClass RX10 = some m.cls := hown
  have hinX10 : ∀ w ∈ wsX100, w ∈ wsX10_tidy := fun _ h => List.mem_cons_of_mem _ (inWX100 _ h)
  have hinX7 : ∀ w ∈ wsX70, w ∈ wsX10_tidy := fun _ h => List.mem_cons_of_mem _ (inWX70 _ h)
  have w_1 := hts (Cond.fieldLink RX10 25 "SheetNames" "pieces" "LSheetNames$Store;") (List.mem_cons_of_mem _ t_w892)
  have wn_0 : (Cond.fieldLinkNest "SheetNames" 109 "SheetNames$Store" "size" "I" "SheetNames").before ([.ref a_x] : List Value).toArray s = true := (hZ.2.2.2.2.2.2.2.2.2.1 _ (List.mem_of_getElem? (i := 0) rfl)).use rfl
  unfold f_X_tidy at hf
  have hgo : ∀ (H : Heap) (locs : List Loc), H = s.heap → va_P D vwCl ((a_x, .inr (10, [.ref a_at, .ref a_g, .ref a_st, .ref a_x_kept, .int x_keptStates, .ref a_tp, .ref a_rd, .ref a_qu, .ref a_sp, .ref a_wk, .ref a_bx, .ref a_nt, .ref a_nu, .ref a_x_seen])) :: (a_st, .inr (7, [.ref a_g, .ref a_st_levels, .ref a_st_keys, .ref a_st_years, .ref a_st_keysThere, .int st_size, .int st_shownBy, .int st_deepestShown, .int st_latestShown])) :: (a_st_levels, .inl (ci 0, 60, .inl st_levels)) :: (a_st_keys, .inl (ci 0, 60, .inl st_keys)) :: (a_st_years, .inl (ci 0, 60, .inl st_years)) :: (a_g, .inr (2, [.ref a_g_rowCuts, .ref a_g_columnCuts, .ref a_g_bandRows, .ref a_g_zoneColumns, .ref a_g_rows, .ref a_g_sheets])) :: (a_g_bandRows, .inl (ci 0, 5, .inl g_bandRows)) :: (a_g_zoneColumns, .inl (ci 0, 5, .inl g_zoneColumns)) :: (a_g_rows, .inl (ci 0, 5, .inl g_rows)) :: (a_g_sheets, .inl (ci 0, 5, .inl g_sheets)) :: Rw) H → va_S A s.heap H locs → W p l e ({ frames := 4, cells := 0, slots := 0, locals := 97 } : Room) s m ([.ref a_x] : List Value).toArray below meth c H locs 0 0 Q (F0 m 0 ls []) := by
    intro H locs hH hP hS
    refine lv_iconst (pc := 0) (v := 0) hx hb dX10_tidy_0 (by decide) ?_
    obtain ⟨v1, ev1, hf⟩ := q_nm_e hf
    refine q_topi ev1 ?_
    refine lv_istore_n (pc := 1) (lv' := [(1, .int v1), (0, .ref a_x)]) hx hb dX10_tidy_1 rfl hl (by decide) rfl (fun ls hl => ?_)
    refine lv_aload_n (pc := 2) hx hb dX10_tidy_2 rfl (lv_at hl 1 rfl) ?_
    refine va_get (pc := 3) (D := D) (ci := 10) (v := .ref a_st) (C := RX10) (T := TX10) (N := 14) hx hb hts hinX10 hown hK hP 0 rfl rfl 2 (by decide) w_1 (fun _ h9 => h9) rfl dX10_tidy_3 ?_
    refine va_getN (pc := 6) (D := D) (ci := 7) (v := .int st_size) (C := RX7) (T := TX7) (N := 9) hx hb hts hinX7 hown hK hP 1 rfl rfl 5 (by decide) wn_0 (fun _ h9 => h9) rfl dX10_tidy_6 ?_
    refine lv_iconst (pc := 9) (v := 1) hx hb dX10_tidy_9 (by decide) ?_
    refine lv_isub (pc := 10) hx hb dX10_tidy_10 ?_
    obtain ⟨v2, ev2, hf⟩ := q_nm_e hf
    refine q_topi ev2 ?_
    refine lv_istore_n (pc := 11) (lv' := [(2, .int v2), (1, .int v1), (0, .ref a_x)]) hx hb dX10_tidy_11 rfl hl (by decide) rfl (fun ls hl => ?_)
    obtain ⟨v9, f10, f11, f12, v13, hm12, hf⟩ := q_b5_e hf
    have JE12 : ∀ (H : Heap) (locs : List Loc) (ls : Array Slot), va_P D vwCl ((a_x, .inr (10, [.ref a_at, .ref a_g, .ref a_st, .ref a_x_kept, .int x_keptStates, .ref a_tp, .ref a_rd, .ref a_qu, .ref a_sp, .ref a_wk, .ref a_bx, .ref a_nt, .ref a_nu, .ref a_x_seen])) :: (a_st, .inr (7, [.ref a_g, .ref a_st_levels, .ref a_st_keys, .ref a_st_years, .ref a_st_keysThere, .int v13, .int st_shownBy, .int st_deepestShown, .int st_latestShown])) :: (a_st_levels, .inl (ci 0, 60, .inl f10)) :: (a_st_keys, .inl (ci 0, 60, .inl f11)) :: (a_st_years, .inl (ci 0, 60, .inl f12)) :: (a_g, .inr (2, [.ref a_g_rowCuts, .ref a_g_columnCuts, .ref a_g_bandRows, .ref a_g_zoneColumns, .ref a_g_rows, .ref a_g_sheets])) :: (a_g_bandRows, .inl (ci 0, 5, .inl g_bandRows)) :: (a_g_zoneColumns, .inl (ci 0, 5, .inl g_zoneColumns)) :: (a_g_rows, .inl (ci 0, 5, .inl g_rows)) :: (a_g_sheets, .inl (ci 0, 5, .inl g_sheets)) :: Rw) H → va_D A ((a_x, .inr (10, [.ref a_at, .ref a_g, .ref a_st, .ref a_x_kept, .int x_keptStates, .ref a_tp, .ref a_rd, .ref a_qu, .ref a_sp, .ref a_wk, .ref a_bx, .ref a_nt, .ref a_nu, .ref a_x_seen])) :: (a_st, .inr (7, [.ref a_g, .ref a_st_levels, .ref a_st_keys, .ref a_st_years, .ref a_st_keysThere, .int v13, .int st_shownBy, .int st_deepestShown, .int st_latestShown])) :: (a_st_levels, .inl (ci 0, 60, .inl f10)) :: (a_st_keys, .inl (ci 0, 60, .inl f11)) :: (a_st_years, .inl (ci 0, 60, .inl f12)) :: (a_g, .inr (2, [.ref a_g_rowCuts, .ref a_g_columnCuts, .ref a_g_bandRows, .ref a_g_zoneColumns, .ref a_g_rows, .ref a_g_sheets])) :: (a_g_bandRows, .inl (ci 0, 5, .inl g_bandRows)) :: (a_g_zoneColumns, .inl (ci 0, 5, .inl g_zoneColumns)) :: (a_g_rows, .inl (ci 0, 5, .inl g_rows)) :: (a_g_sheets, .inl (ci 0, 5, .inl g_sheets)) :: Rw) → va_S A s.heap H locs → lv_has ls 3 [(1, .int v9)] → W p l e ({ frames := 4, cells := 0, slots := 0, locals := 97 } : Room) s m ([.ref a_x] : List Value).toArray below meth c H locs 0 0 Q (F0 m 44 ls []) := by
      intro H locs ls hP hD hS hl
      refine lv_iload_n (pc := 44) hx hb dX10_tidy_44 rfl (lv_at hl 0 rfl) ?_
      obtain ⟨e90, e91, e92, e93, e94⟩ := q_inj5 (Option.some.inj hf)
      rw [hQ, ← e90, ← e91, ← e92, ← e93, ← e94]
      exact q_iret (pc := 45) hx hb hr hlocks hP hD hS dX10_tidy_45
    have LP12 : ∀ (n12 : Nat) (v3 : Int32) (v4 : Int32) (f5 : Nat → Int32) (f6 : Nat → Int32) (f7 : Nat → Int32) (v8 : Int32) (H : Heap) (locs : List Loc) (ls : Array Slot), f_X_tidy_L12 N g_bandRows g_rows g_sheets g_zoneColumns n12 v3 v4 f5 f6 f7 v8 = some (v9, f10, f11, f12, v13) → va_P D vwCl ((a_x, .inr (10, [.ref a_at, .ref a_g, .ref a_st, .ref a_x_kept, .int x_keptStates, .ref a_tp, .ref a_rd, .ref a_qu, .ref a_sp, .ref a_wk, .ref a_bx, .ref a_nt, .ref a_nu, .ref a_x_seen])) :: (a_st, .inr (7, [.ref a_g, .ref a_st_levels, .ref a_st_keys, .ref a_st_years, .ref a_st_keysThere, .int v8, .int st_shownBy, .int st_deepestShown, .int st_latestShown])) :: (a_st_levels, .inl (ci 0, 60, .inl f5)) :: (a_st_keys, .inl (ci 0, 60, .inl f6)) :: (a_st_years, .inl (ci 0, 60, .inl f7)) :: (a_g, .inr (2, [.ref a_g_rowCuts, .ref a_g_columnCuts, .ref a_g_bandRows, .ref a_g_zoneColumns, .ref a_g_rows, .ref a_g_sheets])) :: (a_g_bandRows, .inl (ci 0, 5, .inl g_bandRows)) :: (a_g_zoneColumns, .inl (ci 0, 5, .inl g_zoneColumns)) :: (a_g_rows, .inl (ci 0, 5, .inl g_rows)) :: (a_g_sheets, .inl (ci 0, 5, .inl g_sheets)) :: Rw) H → va_D A ((a_x, .inr (10, [.ref a_at, .ref a_g, .ref a_st, .ref a_x_kept, .int x_keptStates, .ref a_tp, .ref a_rd, .ref a_qu, .ref a_sp, .ref a_wk, .ref a_bx, .ref a_nt, .ref a_nu, .ref a_x_seen])) :: (a_st, .inr (7, [.ref a_g, .ref a_st_levels, .ref a_st_keys, .ref a_st_years, .ref a_st_keysThere, .int v8, .int st_shownBy, .int st_deepestShown, .int st_latestShown])) :: (a_st_levels, .inl (ci 0, 60, .inl f5)) :: (a_st_keys, .inl (ci 0, 60, .inl f6)) :: (a_st_years, .inl (ci 0, 60, .inl f7)) :: (a_g, .inr (2, [.ref a_g_rowCuts, .ref a_g_columnCuts, .ref a_g_bandRows, .ref a_g_zoneColumns, .ref a_g_rows, .ref a_g_sheets])) :: (a_g_bandRows, .inl (ci 0, 5, .inl g_bandRows)) :: (a_g_zoneColumns, .inl (ci 0, 5, .inl g_zoneColumns)) :: (a_g_rows, .inl (ci 0, 5, .inl g_rows)) :: (a_g_sheets, .inl (ci 0, 5, .inl g_sheets)) :: Rw) → va_S A s.heap H locs → lv_has ls 3 [(0, .ref a_x), (1, .int v3), (2, .int v4)] → W p l e ({ frames := 4, cells := 0, slots := 0, locals := 97 } : Room) s m ([.ref a_x] : List Value).toArray below meth c H locs 0 0 Q (F0 m 12 ls []) := by
      intro n12
      induction n12 with
      | zero => intro v3 v4 f5 f6 f7 v8 H locs ls hf; rw [f_X_tidy_L12] at hf; cases hf
      | succ n12 ih12 =>
        intro v3 v4 f5 f6 f7 v8 H locs ls hf hP hD hS hl
        rw [f_X_tidy_L12] at hf
        refine lv_iload_n (pc := 12) hx hb dX10_tidy_12 rfl (lv_at hl 2 rfl) ?_
        refine q_if_lt (pc := 13) (tgt := 44) hx hb dX10_tidy_13 (by decide) rfl hf (fun hf => ?_) (fun hf => ?_)
        · obtain ⟨rfl, rfl, rfl, rfl, rfl⟩ := q_inj5 (Option.some.inj hf)
          exact JE12 _ _ _ hP hD hS (lv_sub hl [1] rfl)
        · refine lv_aload_n (pc := 16) hx hb dX10_tidy_16 rfl (lv_at hl 0 rfl) ?_
          refine va_get (pc := 17) (D := D) (ci := 10) (v := .ref a_st) (C := RX10) (T := TX10) (N := 14) hx hb hts hinX10 hown hK hP 0 rfl rfl 2 (by decide) w_1 (fun _ h9 => h9) rfl dX10_tidy_17 ?_
          refine lv_iload_n (pc := 20) hx hb dX10_tidy_20 rfl (lv_at hl 2 rfl) ?_
          obtain ⟨v14, hm21, hf⟩ := q_b1_e hf
          refine q_cVr (pc := 21) (As := [.int v4]) (rest := []) (v0 := (some (.int v14))) ⟨hx, hb, hml, hown, hts⟩ hK hA hZ hP hD hS hl.1 [1, 2, 3, 4, 5, 6, 7, 8, 9] 10 rfl ⟨rfl, rfl, rfl⟩ (c_Store_isNeedless l D ci A sa N (Rw) a_st a_g a_st_levels a_st_keys a_st_years a_st_keysThere a_g_rowCuts a_g_columnCuts a_g_bandRows a_g_zoneColumns a_g_rows a_g_sheets v8 st_shownBy st_deepestShown st_latestShown f5 f6 f7 g_bandRows g_zoneColumns g_rows g_sheets v4 v14 hm21) 1 rfl rfl (cwV 1 hts gX10_tidy_X7_isNeedless rfl rfl rfl (by decide +kernel) ⟨Nat.le_of_ble_eq_true rfl, Nat.le_of_ble_eq_true rfl⟩) rfl rfl (Nat.le_of_ble_eq_true rfl) dX10_tidy_21 ⟨Nat.zero_le _, Nat.zero_le _⟩ (fun locs hS => ?_)
          obtain ⟨k38, ek38, hf⟩ := q_j5_e hf
          have J38 : ∀ (v15 : Int32) (f16 : Nat → Int32) (f17 : Nat → Int32) (f18 : Nat → Int32) (v19 : Int32) (H : Heap) (locs : List Loc) (ls : Array Slot), k38 v15 f16 f17 f18 v19 = some (v9, f10, f11, f12, v13) → va_P D vwCl ((a_x, .inr (10, [.ref a_at, .ref a_g, .ref a_st, .ref a_x_kept, .int x_keptStates, .ref a_tp, .ref a_rd, .ref a_qu, .ref a_sp, .ref a_wk, .ref a_bx, .ref a_nt, .ref a_nu, .ref a_x_seen])) :: (a_st, .inr (7, [.ref a_g, .ref a_st_levels, .ref a_st_keys, .ref a_st_years, .ref a_st_keysThere, .int v19, .int st_shownBy, .int st_deepestShown, .int st_latestShown])) :: (a_st_levels, .inl (ci 0, 60, .inl f16)) :: (a_st_keys, .inl (ci 0, 60, .inl f17)) :: (a_st_years, .inl (ci 0, 60, .inl f18)) :: (a_g, .inr (2, [.ref a_g_rowCuts, .ref a_g_columnCuts, .ref a_g_bandRows, .ref a_g_zoneColumns, .ref a_g_rows, .ref a_g_sheets])) :: (a_g_bandRows, .inl (ci 0, 5, .inl g_bandRows)) :: (a_g_zoneColumns, .inl (ci 0, 5, .inl g_zoneColumns)) :: (a_g_rows, .inl (ci 0, 5, .inl g_rows)) :: (a_g_sheets, .inl (ci 0, 5, .inl g_sheets)) :: Rw) H → va_D A ((a_x, .inr (10, [.ref a_at, .ref a_g, .ref a_st, .ref a_x_kept, .int x_keptStates, .ref a_tp, .ref a_rd, .ref a_qu, .ref a_sp, .ref a_wk, .ref a_bx, .ref a_nt, .ref a_nu, .ref a_x_seen])) :: (a_st, .inr (7, [.ref a_g, .ref a_st_levels, .ref a_st_keys, .ref a_st_years, .ref a_st_keysThere, .int v19, .int st_shownBy, .int st_deepestShown, .int st_latestShown])) :: (a_st_levels, .inl (ci 0, 60, .inl f16)) :: (a_st_keys, .inl (ci 0, 60, .inl f17)) :: (a_st_years, .inl (ci 0, 60, .inl f18)) :: (a_g, .inr (2, [.ref a_g_rowCuts, .ref a_g_columnCuts, .ref a_g_bandRows, .ref a_g_zoneColumns, .ref a_g_rows, .ref a_g_sheets])) :: (a_g_bandRows, .inl (ci 0, 5, .inl g_bandRows)) :: (a_g_zoneColumns, .inl (ci 0, 5, .inl g_zoneColumns)) :: (a_g_rows, .inl (ci 0, 5, .inl g_rows)) :: (a_g_sheets, .inl (ci 0, 5, .inl g_sheets)) :: Rw) → va_S A s.heap H locs → lv_has ls 3 [(0, .ref a_x), (1, .int v15), (2, .int v4)] → W p l e ({ frames := 4, cells := 0, slots := 0, locals := 97 } : Room) s m ([.ref a_x] : List Value).toArray below meth c H locs 0 0 Q (F0 m 38 ls []) := by
            intro v15 f16 f17 f18 v19 H locs ls hf hP hD hS hl
            have hf := (ek38 v15 f16 f17 f18 v19).symm.trans hf
            obtain ⟨v20, ev20, hf⟩ := q_nm_e hf
            refine lv_iinc (pc := 38) (v := v20) (lv' := [(2, .int v20), (0, .ref a_x), (1, .int v15)]) hx hb dX10_tidy_38 hl (k := 2) rfl (by rw [ev20]; rfl) (by decide) rfl (fun ls hl => ?_)
            refine lv_goto (pc := 41) (tgt := 12) hx hb dX10_tidy_41 (by decide) ?_
            exact ih12 v15 v20 f16 f17 f18 v19 _ _ _ hf hP hD hS (lv_sub hl [1, 2, 0] rfl)
          refine q_if_eq (pc := 24) (tgt := 38) hx hb dX10_tidy_24 (by decide) rfl hf (fun hf => ?_) (fun hf => ?_)
          · exact J38 v3 f5 f6 f7 v8 _ _ _ hf hP hD hS (lv_sub hl [0, 1, 2] rfl)
          · refine lv_aload_n (pc := 27) hx hb dX10_tidy_27 rfl (lv_at hl 0 rfl) ?_
            refine va_get (pc := 28) (D := D) (ci := 10) (v := .ref a_st) (C := RX10) (T := TX10) (N := 14) hx hb hts hinX10 hown hK hP 0 rfl rfl 2 (by decide) w_1 (fun _ h9 => h9) rfl dX10_tidy_28 ?_
            refine lv_iload_n (pc := 31) hx hb dX10_tidy_31 rfl (lv_at hl 2 rfl) ?_
            obtain ⟨f21, f22, f23, v24, hm32, hf⟩ := q_b4_e hf
            refine q_cV (pc := 32) (As := [.int v4]) (rest := []) (v0 := none) ⟨hx, hb, hml, hown, hts⟩ hK hA hZ hP hD hS hl.1 [1, 2, 3, 4, 0, 5, 6, 7, 8, 9] 10 rfl ⟨rfl, rfl, rfl⟩ (c_Store_remove l D ci A sa N ((a_x, .inr (10, [.ref a_at, .ref a_g, .ref a_st, .ref a_x_kept, .int x_keptStates, .ref a_tp, .ref a_rd, .ref a_qu, .ref a_sp, .ref a_wk, .ref a_bx, .ref a_nt, .ref a_nu, .ref a_x_seen])) :: (a_g, .inr (2, [.ref a_g_rowCuts, .ref a_g_columnCuts, .ref a_g_bandRows, .ref a_g_zoneColumns, .ref a_g_rows, .ref a_g_sheets])) :: (a_g_bandRows, .inl (ci 0, 5, .inl g_bandRows)) :: (a_g_zoneColumns, .inl (ci 0, 5, .inl g_zoneColumns)) :: (a_g_rows, .inl (ci 0, 5, .inl g_rows)) :: (a_g_sheets, .inl (ci 0, 5, .inl g_sheets)) :: Rw) a_st a_g a_st_levels a_st_keys a_st_years a_st_keysThere v8 st_shownBy st_deepestShown st_latestShown f5 f6 f7 v4 f21 f22 f23 v24 hm32) 1 rfl rfl (cwV 1 hts gX10_tidy_X7_remove rfl rfl rfl (by decide +kernel) ⟨Nat.le_of_ble_eq_true rfl, Nat.le_of_ble_eq_true rfl⟩) rfl rfl (Nat.le_of_ble_eq_true rfl) dX10_tidy_32 ⟨Nat.zero_le _, Nat.zero_le _⟩ [4, 0, 1, 2, 3, 5, 6, 7, 8, 9] 10 rfl ⟨rfl, rfl, rfl⟩ (fun H locs hP hD hS => ?_)
            obtain ⟨hP, hD⟩ : va_PD D A ((a_x, .inr (10, [.ref a_at, .ref a_g, .ref a_st, .ref a_x_kept, .int x_keptStates, .ref a_tp, .ref a_rd, .ref a_qu, .ref a_sp, .ref a_wk, .ref a_bx, .ref a_nt, .ref a_nu, .ref a_x_seen])) :: (a_st, .inr (7, [.ref a_g, .ref a_st_levels, .ref a_st_keys, .ref a_st_years, .ref a_st_keysThere, .int v24, .int st_shownBy, .int st_deepestShown, .int st_latestShown])) :: (a_st_levels, .inl (ci 0, 60, .inl f21)) :: (a_st_keys, .inl (ci 0, 60, .inl f22)) :: (a_st_years, .inl (ci 0, 60, .inl f23)) :: (a_g, .inr (2, [.ref a_g_rowCuts, .ref a_g_columnCuts, .ref a_g_bandRows, .ref a_g_zoneColumns, .ref a_g_rows, .ref a_g_sheets])) :: (a_g_bandRows, .inl (ci 0, 5, .inl g_bandRows)) :: (a_g_zoneColumns, .inl (ci 0, 5, .inl g_zoneColumns)) :: (a_g_rows, .inl (ci 0, 5, .inl g_rows)) :: (a_g_sheets, .inl (ci 0, 5, .inl g_sheets)) :: Rw) H := ⟨hP, hD⟩
            obtain ⟨v25, ev25, hf⟩ := q_nm_e hf
            refine lv_iinc (pc := 35) (v := v25) (lv' := [(1, .int v25), (0, .ref a_x), (2, .int v4)]) hx hb dX10_tidy_35 hl (k := 1) rfl (by rw [ev25]; rfl) (by decide) rfl (fun ls hl => ?_)
            exact J38 v25 f21 f22 f23 v24 _ _ _ hf hP hD hS (lv_sub hl [1, 0, 2] rfl)
    exact LP12 N v1 v2 st_levels st_keys st_years st_size _ _ _ hm12 hP hD hS (lv_sub hl [2, 1, 0] rfl)
  exact hgo _ _ rfl hP hS
/-! X10_undo -/
set_option maxRecDepth 100000 in
set_option maxHeartbeats 4000000 in
theorem c_X_undo (l : Launch) (D : va_G) (ci : Nat → ClassId) (A : Nat → Prop) (sa : Nat → Nat) (N : Nat) (Rw : va_W) (a_x : Nat) (a_at : Nat) (a_g : Nat) (a_st : Nat) (a_x_kept : Nat) (a_tp : Nat) (a_rd : Nat) (a_qu : Nat) (a_sp : Nat) (a_wk : Nat) (a_bx : Nat) (a_nt : Nat) (a_nu : Nat) (a_x_seen : Nat) (a_st_levels : Nat) (a_st_keys : Nat) (a_st_years : Nat) (a_st_keysThere : Nat) (a_g_rowCuts : Nat) (a_g_columnCuts : Nat) (a_g_bandRows : Nat) (a_g_zoneColumns : Nat) (a_g_rows : Nat) (a_g_sheets : Nat) (a_at2 : Nat) (a_g2 : Nat) (a_st2 : Nat) (a_st2_levels : Nat) (a_st2_keys : Nat) (a_st2_years : Nat) (a_st2_keysThere : Nat) (a_g2_rowCuts : Nat) (a_g2_columnCuts : Nat) (a_g2_bandRows : Nat) (a_g2_zoneColumns : Nat) (a_g2_rows : Nat) (a_g2_sheets : Nat) (x_keptStates : Int32) (x_kept : Nat → Option Nat) (at_right : Int32) (at_faulty : Int32) (at_endedSoon : Int32) (at_noSuchNumber : Int32) (st_size : Int32) (st_shownBy : Int32) (st_deepestShown : Int32) (st_latestShown : Int32) (st_levels : Nat → Int32) (st_keys : Nat → Int32) (st_years : Nat → Int32) (g_rowCuts : Nat → Int32) (g_columnCuts : Nat → Int32) (g_bandRows : Nat → Int32) (g_zoneColumns : Nat → Int32) (g_rows : Nat → Int32) (g_sheets : Nat → Int32) (at2_right : Int32) (at2_faulty : Int32) (at2_endedSoon : Int32) (at2_noSuchNumber : Int32) (st2_size : Int32) (st2_shownBy : Int32) (st2_deepestShown : Int32) (st2_latestShown : Int32) (st2_levels : Nat → Int32) (st2_keys : Nat → Int32) (st2_years : Nat → Int32) (g2_rowCuts : Nat → Int32) (g2_columnCuts : Nat → Int32) (r : Int32) (o1 : Int32) (o2 : Int32) (o3 : Int32) (o4 : Int32) (o5 : Int32) (o6 : Nat → Int32) (o7 : Nat → Int32) (o8 : Nat → Int32) (o9 : Int32) (o10 : Nat → Int32) (o11 : Nat → Int32) (o12 : Nat → Int32) (o13 : Nat → Int32) (o14 : Nat → Int32) (o15 : Nat → Int32) (k : Nat) (hkept : x_kept k = some a_at2) (hf : f_X_undo N k x_keptStates at_right at_faulty at_endedSoon at_noSuchNumber st_levels st_keys st_years st_size g_rowCuts g_columnCuts g_bandRows g_zoneColumns g_rows g_sheets at2_right at2_faulty at2_endedSoon at2_noSuchNumber st2_levels st2_keys st2_years st2_size g2_rowCuts g2_columnCuts = some (r, o1, o2, o3, o4, o5, o6, o7, o8, o9, o10, o11, o12, o13, o14, o15)) : Met l yX10_undo wsX10_undo ({ frames := 3, cells := 0, slots := 0, locals := 82 }) (va_Pc [.ref a_x] (q_N D ci A sa ((a_x, .inr (10, [.ref a_at, .ref a_g, .ref a_st, .ref a_x_kept, .int x_keptStates, .ref a_tp, .ref a_rd, .ref a_qu, .ref a_sp, .ref a_wk, .ref a_bx, .ref a_nt, .ref a_nu, .ref a_x_seen])) :: (a_x_kept, .inl (ci 3, 8, .inr (.inr (.inr (.inr x_kept))))) :: (a_at, .inr (0, [.ref a_g, .ref a_st, .int at_right, .int at_faulty, .int at_endedSoon, .int at_noSuchNumber])) :: (a_st, .inr (7, [.ref a_g, .ref a_st_levels, .ref a_st_keys, .ref a_st_years, .ref a_st_keysThere, .int st_size, .int st_shownBy, .int st_deepestShown, .int st_latestShown])) :: (a_st_levels, .inl (ci 0, 60, .inl st_levels)) :: (a_st_keys, .inl (ci 0, 60, .inl st_keys)) :: (a_st_years, .inl (ci 0, 60, .inl st_years)) :: (a_g, .inr (2, [.ref a_g_rowCuts, .ref a_g_columnCuts, .ref a_g_bandRows, .ref a_g_zoneColumns, .ref a_g_rows, .ref a_g_sheets])) :: (a_g_rowCuts, .inl (ci 0, 5, .inl g_rowCuts)) :: (a_g_columnCuts, .inl (ci 0, 5, .inl g_columnCuts)) :: (a_g_bandRows, .inl (ci 0, 5, .inl g_bandRows)) :: (a_g_zoneColumns, .inl (ci 0, 5, .inl g_zoneColumns)) :: (a_g_rows, .inl (ci 0, 5, .inl g_rows)) :: (a_g_sheets, .inl (ci 0, 5, .inl g_sheets)) :: (a_at2, .inr (0, [.ref a_g2, .ref a_st2, .int at2_right, .int at2_faulty, .int at2_endedSoon, .int at2_noSuchNumber])) :: (a_st2, .inr (7, [.ref a_g2, .ref a_st2_levels, .ref a_st2_keys, .ref a_st2_years, .ref a_st2_keysThere, .int st2_size, .int st2_shownBy, .int st2_deepestShown, .int st2_latestShown])) :: (a_st2_levels, .inl (ci 0, 60, .inl st2_levels)) :: (a_st2_keys, .inl (ci 0, 60, .inl st2_keys)) :: (a_st2_years, .inl (ci 0, 60, .inl st2_years)) :: (a_g2, .inr (2, [.ref a_g2_rowCuts, .ref a_g2_columnCuts, .ref a_g2_bandRows, .ref a_g2_zoneColumns, .ref a_g2_rows, .ref a_g2_sheets])) :: (a_g2_rowCuts, .inl (ci 0, 5, .inl g2_rowCuts)) :: (a_g2_columnCuts, .inl (ci 0, 5, .inl g2_columnCuts)) :: Rw))) (q_Q (some (.int r)) (q_O D A ((a_x, .inr (10, [.ref a_at, .ref a_g, .ref a_st, .ref a_x_kept, .int o1, .ref a_tp, .ref a_rd, .ref a_qu, .ref a_sp, .ref a_wk, .ref a_bx, .ref a_nt, .ref a_nu, .ref a_x_seen])) :: (a_x_kept, .inl (ci 3, 8, .inr (.inr (.inr (.inr x_kept))))) :: (a_at, .inr (0, [.ref a_g, .ref a_st, .int o2, .int o3, .int o4, .int o5])) :: (a_st, .inr (7, [.ref a_g, .ref a_st_levels, .ref a_st_keys, .ref a_st_years, .ref a_st_keysThere, .int o9, .int st_shownBy, .int st_deepestShown, .int st_latestShown])) :: (a_st_levels, .inl (ci 0, 60, .inl o6)) :: (a_st_keys, .inl (ci 0, 60, .inl o7)) :: (a_st_years, .inl (ci 0, 60, .inl o8)) :: (a_g, .inr (2, [.ref a_g_rowCuts, .ref a_g_columnCuts, .ref a_g_bandRows, .ref a_g_zoneColumns, .ref a_g_rows, .ref a_g_sheets])) :: (a_g_rowCuts, .inl (ci 0, 5, .inl o10)) :: (a_g_columnCuts, .inl (ci 0, 5, .inl o11)) :: (a_g_bandRows, .inl (ci 0, 5, .inl o12)) :: (a_g_zoneColumns, .inl (ci 0, 5, .inl o13)) :: (a_g_rows, .inl (ci 0, 5, .inl o14)) :: (a_g_sheets, .inl (ci 0, 5, .inl o15)) :: (a_at2, .inr (0, [.ref a_g2, .ref a_st2, .int at2_right, .int at2_faulty, .int at2_endedSoon, .int at2_noSuchNumber])) :: (a_st2, .inr (7, [.ref a_g2, .ref a_st2_levels, .ref a_st2_keys, .ref a_st2_years, .ref a_st2_keysThere, .int st2_size, .int st2_shownBy, .int st2_deepestShown, .int st2_latestShown])) :: (a_st2_levels, .inl (ci 0, 60, .inl st2_levels)) :: (a_st2_keys, .inl (ci 0, 60, .inl st2_keys)) :: (a_st2_years, .inl (ci 0, 60, .inl st2_years)) :: (a_g2, .inr (2, [.ref a_g2_rowCuts, .ref a_g2_columnCuts, .ref a_g2_bandRows, .ref a_g2_zoneColumns, .ref a_g2_rows, .ref a_g2_sheets])) :: (a_g2_rowCuts, .inl (ci 0, 5, .inl g2_rowCuts)) :: (a_g2_columnCuts, .inl (ci 0, 5, .inl g2_columnCuts)) :: Rw)) A) 0 0 A := by
  refine q_ofW (cc := cX10_undo) (maxL := 1) (ret := (some .int)) [.ref a_x] (plainFor_of_name (by decide)) rfl (Nat.le_of_ble_eq_true rfl) ?_
  intro p e s m below meth c ls Q hQ hx hb hml hr hts hown hlocks hK hA hZ hP hD hS hl
  have hl : lv_has ls 1 [(0, .ref a_x)] := hl
  have hown : s.vm.findClass RX10 = some m.cls := hown
  have hinX10 : ∀ w ∈ wsX100, w ∈ wsX10_undo := fun _ h => List.mem_cons_of_mem _ (inWX100 _ h)
  have w_1 := hts (Cond.fieldLink RX10 32 "SheetNames" "keptStates" "I") (List.mem_cons_of_mem _ t_w893)
  have w_2 := hts (Cond.fieldLink RX10 10 "SheetNames" "now" "LSheetNames$Atlas;") (List.mem_cons_of_mem _ t_w884)
  have w_3 := hts (Cond.fieldLink RX10 28 "SheetNames" "kept" "[LSheetNames$Atlas;") (List.mem_cons_of_mem _ t_w903)
  unfold f_X_undo at hf
  have hgo : ∀ (H : Heap) (locs : List Loc), H = s.heap → va_P D vwCl ((a_x, .inr (10, [.ref a_at, .ref a_g, .ref a_st, .ref a_x_kept, .int x_keptStates, .ref a_tp, .ref a_rd, .ref a_qu, .ref a_sp, .ref a_wk, .ref a_bx, .ref a_nt, .ref a_nu, .ref a_x_seen])) :: (a_x_kept, .inl (ci 3, 8, .inr (.inr (.inr (.inr x_kept))))) :: (a_at, .inr (0, [.ref a_g, .ref a_st, .int at_right, .int at_faulty, .int at_endedSoon, .int at_noSuchNumber])) :: (a_st, .inr (7, [.ref a_g, .ref a_st_levels, .ref a_st_keys, .ref a_st_years, .ref a_st_keysThere, .int st_size, .int st_shownBy, .int st_deepestShown, .int st_latestShown])) :: (a_st_levels, .inl (ci 0, 60, .inl st_levels)) :: (a_st_keys, .inl (ci 0, 60, .inl st_keys)) :: (a_st_years, .inl (ci 0, 60, .inl st_years)) :: (a_g, .inr (2, [.ref a_g_rowCuts, .ref a_g_columnCuts, .ref a_g_bandRows, .ref a_g_zoneColumns, .ref a_g_rows, .ref a_g_sheets])) :: (a_g_rowCuts, .inl (ci 0, 5, .inl g_rowCuts)) :: (a_g_columnCuts, .inl (ci 0, 5, .inl g_columnCuts)) :: (a_g_bandRows, .inl (ci 0, 5, .inl g_bandRows)) :: (a_g_zoneColumns, .inl (ci 0, 5, .inl g_zoneColumns)) :: (a_g_rows, .inl (ci 0, 5, .inl g_rows)) :: (a_g_sheets, .inl (ci 0, 5, .inl g_sheets)) :: (a_at2, .inr (0, [.ref a_g2, .ref a_st2, .int at2_right, .int at2_faulty, .int at2_endedSoon, .int at2_noSuchNumber])) :: (a_st2, .inr (7, [.ref a_g2, .ref a_st2_levels, .ref a_st2_keys, .ref a_st2_years, .ref a_st2_keysThere, .int st2_size, .int st2_shownBy, .int st2_deepestShown, .int st2_latestShown])) :: (a_st2_levels, .inl (ci 0, 60, .inl st2_levels)) :: (a_st2_keys, .inl (ci 0, 60, .inl st2_keys)) :: (a_st2_years, .inl (ci 0, 60, .inl st2_years)) :: (a_g2, .inr (2, [.ref a_g2_rowCuts, .ref a_g2_columnCuts, .ref a_g2_bandRows, .ref a_g2_zoneColumns, .ref a_g2_rows, .ref a_g2_sheets])) :: (a_g2_rowCuts, .inl (ci 0, 5, .inl g2_rowCuts)) :: (a_g2_columnCuts, .inl (ci 0, 5, .inl g2_columnCuts)) :: Rw) H → va_S A s.heap H locs → W p l e ({ frames := 3, cells := 0, slots := 0, locals := 82 } : Room) s m ([.ref a_x] : List Value).toArray below meth c H locs 0 0 Q (F0 m 0 ls []) := by
    intro H locs hH hP hS
    refine lv_aload_n (pc := 0) hx hb dX10_undo_0 rfl (lv_at hl 0 rfl) ?_
    refine va_get (pc := 1) (D := D) (ci := 10) (v := .int x_keptStates) (C := RX10) (T := TX10) (N := 14) hx hb hts hinX10 hown hK hP 0 rfl rfl 4 (by decide) w_1 (fun _ h9 => h9) rfl dX10_undo_1 ?_
    refine q_if_gt (pc := 4) (tgt := 9) hx hb dX10_undo_4 (by decide) rfl hf (fun hf => ?_) (fun hf => ?_)
    · refine lv_aload_n (pc := 9) hx hb dX10_undo_9 rfl (lv_at hl 0 rfl) ?_
      refine lv_dup (pc := 10) hx hb dX10_undo_10 rfl ?_
      refine va_get (pc := 11) (D := D) (ci := 10) (v := .int x_keptStates) (C := RX10) (T := TX10) (N := 14) hx hb hts hinX10 hown hK hP 0 rfl rfl 4 (by decide) w_1 (fun _ h9 => h9) rfl dX10_undo_11 ?_
      refine lv_iconst (pc := 14) (v := 1) hx hb dX10_undo_14 (by decide) ?_
      refine lv_isub (pc := 15) hx hb dX10_undo_15 ?_
      obtain ⟨v1, ev1, hf⟩ := q_nm_e hf
      refine q_topi ev1 ?_
      refine va_put (pc := 16) (D := D) (ci := 10) (v := .int v1) (ty := .int) (C := RX10) (T := TX10) (N := 14) hx hb hts hinX10 tyX10 tyX10_ok nmX10 hown hK hP hD hS 0 rfl rfl 4 (by decide) w_1 (fun _ h9 => h9) rfl (by decide +kernel) rfl rfl (Nat.le_of_ble_eq_true rfl) dX10_undo_16 (fun H locs hP hD hS => ?_)
      obtain ⟨hP, hD⟩ : va_PD D A ((a_x, .inr (10, [.ref a_at, .ref a_g, .ref a_st, .ref a_x_kept, .int v1, .ref a_tp, .ref a_rd, .ref a_qu, .ref a_sp, .ref a_wk, .ref a_bx, .ref a_nt, .ref a_nu, .ref a_x_seen])) :: (a_x_kept, .inl (ci 3, 8, .inr (.inr (.inr (.inr x_kept))))) :: (a_at, .inr (0, [.ref a_g, .ref a_st, .int at_right, .int at_faulty, .int at_endedSoon, .int at_noSuchNumber])) :: (a_st, .inr (7, [.ref a_g, .ref a_st_levels, .ref a_st_keys, .ref a_st_years, .ref a_st_keysThere, .int st_size, .int st_shownBy, .int st_deepestShown, .int st_latestShown])) :: (a_st_levels, .inl (ci 0, 60, .inl st_levels)) :: (a_st_keys, .inl (ci 0, 60, .inl st_keys)) :: (a_st_years, .inl (ci 0, 60, .inl st_years)) :: (a_g, .inr (2, [.ref a_g_rowCuts, .ref a_g_columnCuts, .ref a_g_bandRows, .ref a_g_zoneColumns, .ref a_g_rows, .ref a_g_sheets])) :: (a_g_rowCuts, .inl (ci 0, 5, .inl g_rowCuts)) :: (a_g_columnCuts, .inl (ci 0, 5, .inl g_columnCuts)) :: (a_g_bandRows, .inl (ci 0, 5, .inl g_bandRows)) :: (a_g_zoneColumns, .inl (ci 0, 5, .inl g_zoneColumns)) :: (a_g_rows, .inl (ci 0, 5, .inl g_rows)) :: (a_g_sheets, .inl (ci 0, 5, .inl g_sheets)) :: (a_at2, .inr (0, [.ref a_g2, .ref a_st2, .int at2_right, .int at2_faulty, .int at2_endedSoon, .int at2_noSuchNumber])) :: (a_st2, .inr (7, [.ref a_g2, .ref a_st2_levels, .ref a_st2_keys, .ref a_st2_years, .ref a_st2_keysThere, .int st2_size, .int st2_shownBy, .int st2_deepestShown, .int st2_latestShown])) :: (a_st2_levels, .inl (ci 0, 60, .inl st2_levels)) :: (a_st2_keys, .inl (ci 0, 60, .inl st2_keys)) :: (a_st2_years, .inl (ci 0, 60, .inl st2_years)) :: (a_g2, .inr (2, [.ref a_g2_rowCuts, .ref a_g2_columnCuts, .ref a_g2_bandRows, .ref a_g2_zoneColumns, .ref a_g2_rows, .ref a_g2_sheets])) :: (a_g2_rowCuts, .inl (ci 0, 5, .inl g2_rowCuts)) :: (a_g2_columnCuts, .inl (ci 0, 5, .inl g2_columnCuts)) :: Rw) H := ⟨hP, hD⟩
      refine lv_aload_n (pc := 19) hx hb dX10_undo_19 rfl (lv_at hl 0 rfl) ?_
      refine va_get (pc := 20) (D := D) (ci := 10) (v := .ref a_at) (C := RX10) (T := TX10) (N := 14) hx hb hts hinX10 hown hK hP 0 rfl rfl 0 (by decide) w_2 (fun _ h9 => h9) rfl dX10_undo_20 ?_
      refine lv_aload_n (pc := 23) hx hb dX10_undo_23 rfl (lv_at hl 0 rfl) ?_
      refine va_get (pc := 24) (D := D) (ci := 10) (v := .ref a_x_kept) (C := RX10) (T := TX10) (N := 14) hx hb hts hinX10 hown hK hP 0 rfl rfl 3 (by decide) w_3 (fun _ h9 => h9) rfl dX10_undo_24 ?_
      refine lv_aload_n (pc := 27) hx hb dX10_undo_27 rfl (lv_at hl 0 rfl) ?_
      refine va_get (pc := 28) (D := D) (ci := 10) (v := .int v1) (C := RX10) (T := TX10) (N := 14) hx hb hts hinX10 hown hK hP 0 rfl rfl 4 (by decide) w_1 (fun _ h9 => h9) rfl dX10_undo_28 ?_
      refine q_kld (pc := 31) (k := k) hx hb hK hP 1 hf rfl hkept dX10_undo_31 (fun hf => ?_)
      obtain ⟨v2, v3, v4, v5, f6, f7, f8, v9, f10, f11, f12, f13, f14, f15, hm32, hf⟩ := q_b14_e hf
      refine q_cV (pc := 32) (As := [.ref a_at2]) (rest := []) (v0 := none) ⟨hx, hb, hml, hown, hts⟩ hK hA hZ hP hD hS hl.1 [2, 3, 4, 5, 6, 7, 8, 9, 10, 11, 12, 13, 14, 15, 16, 17, 18, 19, 20, 21, 0, 1] 22 rfl ⟨rfl, rfl, rfl⟩ (c_Atlas_copyFrom l D ci A sa N ((a_x, .inr (10, [.ref a_at, .ref a_g, .ref a_st, .ref a_x_kept, .int v1, .ref a_tp, .ref a_rd, .ref a_qu, .ref a_sp, .ref a_wk, .ref a_bx, .ref a_nt, .ref a_nu, .ref a_x_seen])) :: (a_x_kept, .inl (ci 3, 8, .inr (.inr (.inr (.inr x_kept))))) :: Rw) a_at a_g a_st a_st_levels a_st_keys a_st_years a_st_keysThere a_g_rowCuts a_g_columnCuts a_g_bandRows a_g_zoneColumns a_g_rows a_g_sheets a_at2 a_g2 a_st2 a_st2_levels a_st2_keys a_st2_years a_st2_keysThere a_g2_rowCuts a_g2_columnCuts a_g2_bandRows a_g2_zoneColumns a_g2_rows a_g2_sheets at_right at_faulty at_endedSoon at_noSuchNumber st_size st_shownBy st_deepestShown st_latestShown st_levels st_keys st_years g_rowCuts g_columnCuts g_bandRows g_zoneColumns g_rows g_sheets at2_right at2_faulty at2_endedSoon at2_noSuchNumber st2_size st2_shownBy st2_deepestShown st2_latestShown st2_levels st2_keys st2_years g2_rowCuts g2_columnCuts v2 v3 v4 v5 f6 f7 f8 v9 f10 f11 f12 f13 f14 f15 hm32) 2 rfl rfl (cwV 1 hts gX10_undo_X0_copyFrom rfl rfl rfl (by decide +kernel) ⟨Nat.le_of_ble_eq_true rfl, Nat.le_of_ble_eq_true rfl⟩) rfl rfl (Nat.le_of_ble_eq_true rfl) dX10_undo_32 ⟨Nat.zero_le _, Nat.zero_le _⟩ [20, 21, 0, 1, 2, 3, 4, 5, 6, 7, 8, 9, 10, 11, 12, 13, 14, 15, 16, 17, 18, 19] 22 rfl ⟨rfl, rfl, rfl⟩ (fun H locs hP hD hS => ?_)
      obtain ⟨hP, hD⟩ : va_PD D A ((a_x, .inr (10, [.ref a_at, .ref a_g, .ref a_st, .ref a_x_kept, .int v1, .ref a_tp, .ref a_rd, .ref a_qu, .ref a_sp, .ref a_wk, .ref a_bx, .ref a_nt, .ref a_nu, .ref a_x_seen])) :: (a_x_kept, .inl (ci 3, 8, .inr (.inr (.inr (.inr x_kept))))) :: (a_at, .inr (0, [.ref a_g, .ref a_st, .int v2, .int v3, .int v4, .int v5])) :: (a_st, .inr (7, [.ref a_g, .ref a_st_levels, .ref a_st_keys, .ref a_st_years, .ref a_st_keysThere, .int v9, .int st_shownBy, .int st_deepestShown, .int st_latestShown])) :: (a_st_levels, .inl (ci 0, 60, .inl f6)) :: (a_st_keys, .inl (ci 0, 60, .inl f7)) :: (a_st_years, .inl (ci 0, 60, .inl f8)) :: (a_g, .inr (2, [.ref a_g_rowCuts, .ref a_g_columnCuts, .ref a_g_bandRows, .ref a_g_zoneColumns, .ref a_g_rows, .ref a_g_sheets])) :: (a_g_rowCuts, .inl (ci 0, 5, .inl f10)) :: (a_g_columnCuts, .inl (ci 0, 5, .inl f11)) :: (a_g_bandRows, .inl (ci 0, 5, .inl f12)) :: (a_g_zoneColumns, .inl (ci 0, 5, .inl f13)) :: (a_g_rows, .inl (ci 0, 5, .inl f14)) :: (a_g_sheets, .inl (ci 0, 5, .inl f15)) :: (a_at2, .inr (0, [.ref a_g2, .ref a_st2, .int at2_right, .int at2_faulty, .int at2_endedSoon, .int at2_noSuchNumber])) :: (a_st2, .inr (7, [.ref a_g2, .ref a_st2_levels, .ref a_st2_keys, .ref a_st2_years, .ref a_st2_keysThere, .int st2_size, .int st2_shownBy, .int st2_deepestShown, .int st2_latestShown])) :: (a_st2_levels, .inl (ci 0, 60, .inl st2_levels)) :: (a_st2_keys, .inl (ci 0, 60, .inl st2_keys)) :: (a_st2_years, .inl (ci 0, 60, .inl st2_years)) :: (a_g2, .inr (2, [.ref a_g2_rowCuts, .ref a_g2_columnCuts, .ref a_g2_bandRows, .ref a_g2_zoneColumns, .ref a_g2_rows, .ref a_g2_sheets])) :: (a_g2_rowCuts, .inl (ci 0, 5, .inl g2_rowCuts)) :: (a_g2_columnCuts, .inl (ci 0, 5, .inl g2_columnCuts)) :: Rw) H := ⟨hP, hD⟩
      refine lv_aload_n (pc := 35) hx hb dX10_undo_35 rfl (lv_at hl 0 rfl) ?_
      refine va_get (pc := 36) (D := D) (ci := 10) (v := .int v1) (C := RX10) (T := TX10) (N := 14) hx hb hts hinX10 hown hK hP 0 rfl rfl 4 (by decide) w_1 (fun _ h9 => h9) rfl dX10_undo_36 ?_
      obtain ⟨e90, e91, e92, e93, e94, e95, e96, e97, e98, e99, e910, e911, e912, e913, e914, e915⟩ := q_inj16 (Option.some.inj hf)
      rw [hQ, ← e90, ← e91, ← e92, ← e93, ← e94, ← e95, ← e96, ← e97, ← e98, ← e99, ← e910, ← e911, ← e912, ← e913, ← e914, ← e915]
      exact q_iret (pc := 39) hx hb hr hlocks hP hD hS dX10_undo_39
    · refine lv_iconst (pc := 7) (v := (-1)) hx hb dX10_undo_7 (by decide) ?_
      obtain ⟨e90, e91, e92, e93, e94, e95, e96, e97, e98, e99, e910, e911, e912, e913, e914, e915⟩ := q_inj16 (Option.some.inj hf)
      rw [hQ, ← e90, ← e91, ← e92, ← e93, ← e94, ← e95, ← e96, ← e97, ← e98, ← e99, ← e910, ← e911, ← e912, ← e913, ← e914, ← e915]
      exact q_iret (pc := 8) hx hb hr hlocks hP hD hS dX10_undo_8
  exact hgo _ _ rfl hP hS
/-! X10_way -/
set_option maxRecDepth 100000 in
set_option maxHeartbeats 4000000 in
theorem c_X_way (l : Launch) (D : va_G) (ci : Nat → ClassId) (A : Nat → Prop) (sa : Nat → Nat) (N : Nat) (Rw : va_W) (a_x : Nat) (a_at : Nat) (a_g : Nat) (a_st : Nat) (a_x_kept : Nat) (a_tp : Nat) (a_rd : Nat) (a_qu : Nat) (a_sp : Nat) (a_wk : Nat) (a_bx : Nat) (a_nt : Nat) (a_nu : Nat) (a_x_seen : Nat) (a_ws : Nat) (a_wk_steps : Nat) (a_wk_reached : Nat) (n_wk_steps : Nat) (n_wk_reached : Nat) (a_ws_first : Nat) (a_ws_many : Nat) (a_ws_corner : Nat) (a_g_rowCuts : Nat) (a_g_columnCuts : Nat) (a_g_bandRows : Nat) (a_g_zoneColumns : Nat) (a_g_rows : Nat) (a_g_sheets : Nat) (x_keptStates : Int32) (wk_many : Int32) (wk_steps : Nat → Int32) (wk_reached : Nat → Int32) (ws_cornerCount : Int32) (ws_level : Int32) (ws_row : Int32) (ws_start : Int32) (ws_place : Int32) (ws_length : Int32) (ws_cap : Int32) (ws_first : Nat → Int32) (ws_many : Nat → Int32) (g_bandRows : Nat → Int32) (g_zoneColumns : Nat → Int32) (g_rows : Nat → Int32) (g_sheets : Nat → Int32) (p1 : Int32) (p2 : Int32) (p3 : Int32) (p4 : Int32) (r : Int32) (o1 : Nat → Int32) (o2 : Nat → Int32) (o3 : Int32) (o4 : Nat → Int32) (o5 : Nat → Int32) (o6 : Int32) (o7 : Int32) (o8 : Int32) (o9 : Int32) (o10 : Int32) (o11 : Int32) (hf : f_X_way N n_wk_steps n_wk_reached wk_steps wk_reached wk_many ws_first ws_many ws_level ws_row ws_start ws_place ws_length ws_cap g_bandRows g_zoneColumns g_rows g_sheets p1 p2 p3 p4 = some (r, o1, o2, o3, o4, o5, o6, o7, o8, o9, o10, o11)) : Met l yX10_way wsX10_way ({ frames := 4, cells := 0, slots := 0, locals := 112 }) (va_Pc [.ref a_x, .int p1, .int p2, .int p3, .int p4] (q_N D ci A sa ((a_x, .inr (10, [.ref a_at, .ref a_g, .ref a_st, .ref a_x_kept, .int x_keptStates, .ref a_tp, .ref a_rd, .ref a_qu, .ref a_sp, .ref a_wk, .ref a_bx, .ref a_nt, .ref a_nu, .ref a_x_seen])) :: (a_wk, .inr (9, [.ref a_ws, .ref a_wk_steps, .ref a_wk_reached, .int wk_many])) :: (a_wk_steps, .inl (ci 0, n_wk_steps, .inl wk_steps)) :: (a_wk_reached, .inl (ci 0, n_wk_reached, .inl wk_reached)) :: (a_ws, .inr (6, [.ref a_g, .ref a_ws_first, .ref a_ws_many, .ref a_ws_corner, .int ws_cornerCount, .int ws_level, .int ws_row, .int ws_start, .int ws_place, .int ws_length, .int ws_cap])) :: (a_ws_first, .inl (ci 0, 4, .inl ws_first)) :: (a_ws_many, .inl (ci 0, 4, .inl ws_many)) :: (a_g, .inr (2, [.ref a_g_rowCuts, .ref a_g_columnCuts, .ref a_g_bandRows, .ref a_g_zoneColumns, .ref a_g_rows, .ref a_g_sheets])) :: (a_g_bandRows, .inl (ci 0, 5, .inl g_bandRows)) :: (a_g_zoneColumns, .inl (ci 0, 5, .inl g_zoneColumns)) :: (a_g_rows, .inl (ci 0, 5, .inl g_rows)) :: (a_g_sheets, .inl (ci 0, 5, .inl g_sheets)) :: Rw))) (q_Q (some (.int r)) (q_O D A ((a_x, .inr (10, [.ref a_at, .ref a_g, .ref a_st, .ref a_x_kept, .int x_keptStates, .ref a_tp, .ref a_rd, .ref a_qu, .ref a_sp, .ref a_wk, .ref a_bx, .ref a_nt, .ref a_nu, .ref a_x_seen])) :: (a_wk, .inr (9, [.ref a_ws, .ref a_wk_steps, .ref a_wk_reached, .int o3])) :: (a_wk_steps, .inl (ci 0, n_wk_steps, .inl o1)) :: (a_wk_reached, .inl (ci 0, n_wk_reached, .inl o2)) :: (a_ws, .inr (6, [.ref a_g, .ref a_ws_first, .ref a_ws_many, .ref a_ws_corner, .int ws_cornerCount, .int o6, .int o7, .int o8, .int o9, .int o10, .int o11])) :: (a_ws_first, .inl (ci 0, 4, .inl o4)) :: (a_ws_many, .inl (ci 0, 4, .inl o5)) :: (a_g, .inr (2, [.ref a_g_rowCuts, .ref a_g_columnCuts, .ref a_g_bandRows, .ref a_g_zoneColumns, .ref a_g_rows, .ref a_g_sheets])) :: (a_g_bandRows, .inl (ci 0, 5, .inl g_bandRows)) :: (a_g_zoneColumns, .inl (ci 0, 5, .inl g_zoneColumns)) :: (a_g_rows, .inl (ci 0, 5, .inl g_rows)) :: (a_g_sheets, .inl (ci 0, 5, .inl g_sheets)) :: Rw)) A) 0 0 A := by
  refine q_ofW (cc := cX10_way) (maxL := 5) (ret := (some .int)) [.ref a_x, .int p1, .int p2, .int p3, .int p4] (plainFor_of_name (by decide)) rfl (Nat.le_of_ble_eq_true rfl) ?_
  intro p e s m below meth c ls Q hQ hx hb hml hr hts hown hlocks hK hA hZ hP hD hS hl
  have hl : lv_has ls 5 [(0, .ref a_x), (1, .int p1), (2, .int p2), (3, .int p3), (4, .int p4)] := hl
  have hown : s.vm.findClass RX10 = some m.cls := hown
  have hinX10 : ∀ w ∈ wsX100, w ∈ wsX10_way := fun _ h => List.mem_cons_of_mem _ (inWX100 _ h)
  have hinX2 : ∀ w ∈ wsX20, w ∈ wsX10_way := fun _ h => List.mem_cons_of_mem _ (inWX20 _ h)
  have w_1 := hts (Cond.fieldLink RX10 20 "SheetNames" "grid" "LSheetNames$Grid;") (List.mem_cons_of_mem _ t_w876)
  have w_2 := hts (Cond.fieldLink RX10 73 "SheetNames" "walk" "LSheetNames$Walk;") (List.mem_cons_of_mem _ t_w881)
  have wn_1 : (Cond.fieldLinkNest "SheetNames" 126 "SheetNames$Grid" "sheets" "[I" "SheetNames").before ([.ref a_x, .int p1, .int p2, .int p3, .int p4] : List Value).toArray s = true := (hZ.2.2.2.2.2.2.2.2.2.1 _ (List.mem_of_getElem? (i := 1) rfl)).use rfl
  unfold f_X_way at hf
  have hgo : ∀ (H : Heap) (locs : List Loc), H = s.heap → va_P D vwCl ((a_x, .inr (10, [.ref a_at, .ref a_g, .ref a_st, .ref a_x_kept, .int x_keptStates, .ref a_tp, .ref a_rd, .ref a_qu, .ref a_sp, .ref a_wk, .ref a_bx, .ref a_nt, .ref a_nu, .ref a_x_seen])) :: (a_wk, .inr (9, [.ref a_ws, .ref a_wk_steps, .ref a_wk_reached, .int wk_many])) :: (a_wk_steps, .inl (ci 0, n_wk_steps, .inl wk_steps)) :: (a_wk_reached, .inl (ci 0, n_wk_reached, .inl wk_reached)) :: (a_ws, .inr (6, [.ref a_g, .ref a_ws_first, .ref a_ws_many, .ref a_ws_corner, .int ws_cornerCount, .int ws_level, .int ws_row, .int ws_start, .int ws_place, .int ws_length, .int ws_cap])) :: (a_ws_first, .inl (ci 0, 4, .inl ws_first)) :: (a_ws_many, .inl (ci 0, 4, .inl ws_many)) :: (a_g, .inr (2, [.ref a_g_rowCuts, .ref a_g_columnCuts, .ref a_g_bandRows, .ref a_g_zoneColumns, .ref a_g_rows, .ref a_g_sheets])) :: (a_g_bandRows, .inl (ci 0, 5, .inl g_bandRows)) :: (a_g_zoneColumns, .inl (ci 0, 5, .inl g_zoneColumns)) :: (a_g_rows, .inl (ci 0, 5, .inl g_rows)) :: (a_g_sheets, .inl (ci 0, 5, .inl g_sheets)) :: Rw) H → va_S A s.heap H locs → W p l e ({ frames := 4, cells := 0, slots := 0, locals := 112 } : Room) s m ([.ref a_x, .int p1, .int p2, .int p3, .int p4] : List Value).toArray below meth c H locs 0 0 Q (F0 m 0 ls []) := by
    intro H locs hH hP hS
    refine lv_aload_n (pc := 0) hx hb dX10_way_0 rfl (lv_at hl 0 rfl) ?_
    refine lv_iload_n (pc := 1) hx hb dX10_way_1 rfl (lv_at hl 1 rfl) ?_
    refine lv_iload_n (pc := 2) hx hb dX10_way_2 rfl (lv_at hl 2 rfl) ?_
    refine lv_iload_n (pc := 3) hx hb dX10_way_3 rfl (lv_at hl 3 rfl) ?_
    obtain ⟨v1, hm4, hf⟩ := q_b1_e hf
    refine q_cVr (pc := 4) (As := [.int p1, .int p2, .int p3]) (rest := []) (v0 := (some (.int v1))) ⟨hx, hb, hml, hown, hts⟩ hK hA hZ hP hD hS hl.1 [0, 7, 11] 12 rfl ⟨rfl, rfl, rfl⟩ (c_X_areSheets l D ci A sa N (Rw) a_x a_at a_g a_st a_x_kept a_tp a_rd a_qu a_sp a_wk a_bx a_nt a_nu a_x_seen a_g_rowCuts a_g_columnCuts a_g_bandRows a_g_zoneColumns a_g_rows a_g_sheets x_keptStates g_sheets p1 p2 p3 v1 hm4) 0 rfl rfl (cwV 3 hts gX10_way_X10_areSheets rfl rfl rfl (by decide +kernel) ⟨Nat.le_of_ble_eq_true rfl, Nat.le_of_ble_eq_true rfl⟩) rfl rfl (Nat.le_of_ble_eq_true rfl) dX10_way_4 ⟨Nat.zero_le _, Nat.zero_le _⟩ (fun locs hS => ?_)
    refine q_if_eq (pc := 7) (tgt := 15) hx hb dX10_way_7 (by decide) rfl hf (fun hf => ?_) (fun hf => ?_)
    · refine lv_iconst (pc := 15) (v := (-1)) hx hb dX10_way_15 (by decide) ?_
      obtain ⟨e90, e91, e92, e93, e94, e95, e96, e97, e98, e99, e910, e911⟩ := q_inj12 (Option.some.inj hf)
      rw [hQ, ← e90, ← e91, ← e92, ← e93, ← e94, ← e95, ← e96, ← e97, ← e98, ← e99, ← e910, ← e911]
      exact q_iret (pc := 16) hx hb hr hlocks hP hD hS dX10_way_16
    · refine lv_iload (pc := 10) hx hb dX10_way_10 (lv_at hl 4 rfl) ?_
      refine q_if_ge (pc := 12) (tgt := 17) hx hb dX10_way_12 (by decide) rfl hf (fun hf => ?_) (fun hf => ?_)
      · refine lv_aload_n (pc := 17) hx hb dX10_way_17 rfl (lv_at hl 0 rfl) ?_
        refine va_get (pc := 18) (D := D) (ci := 10) (v := .ref a_g) (C := RX10) (T := TX10) (N := 14) hx hb hts hinX10 hown hK hP 0 rfl rfl 1 (by decide) w_1 (fun _ h9 => h9) rfl dX10_way_18 ?_
        refine va_getN (pc := 21) (D := D) (ci := 2) (v := .ref a_g_sheets) (C := RX2) (T := TX2) (N := 6) hx hb hts hinX2 hown hK hP 7 rfl rfl 5 (by decide) wn_1 (fun _ h9 => h9) rfl dX10_way_21 ?_
        refine lv_iload_n (pc := 24) hx hb dX10_way_24 rfl (lv_at hl 1 rfl) ?_
        refine q_iald (pc := 25) hx hb hK hP 11 0 hf rfl rfl dX10_way_25 (fun v2 hf => ?_)
        refine lv_sipush (pc := 26) (v := 20000) hx hb dX10_way_26 (by decide) ?_
        refine q_icmp_le (pc := 29) (tgt := 35) hx hb dX10_way_29 (by decide) rfl hf (fun hf => ?_) (fun hf => ?_)
        · refine lv_aload_n (pc := 35) hx hb dX10_way_35 rfl (lv_at hl 0 rfl) ?_
          refine va_get (pc := 36) (D := D) (ci := 10) (v := .ref a_wk) (C := RX10) (T := TX10) (N := 14) hx hb hts hinX10 hown hK hP 0 rfl rfl 9 (by decide) w_2 (fun _ h9 => h9) rfl dX10_way_36 ?_
          refine lv_iload_n (pc := 39) hx hb dX10_way_39 rfl (lv_at hl 1 rfl) ?_
          refine lv_iload_n (pc := 40) hx hb dX10_way_40 rfl (lv_at hl 3 rfl) ?_
          obtain ⟨f3, f4, v5, f6, f7, v8, v9, v10, v11, v12, v13, hm41, hf⟩ := q_b11_e hf
          refine q_cV (pc := 41) (As := [.int p1, .int p3]) (rest := []) (v0 := none) ⟨hx, hb, hml, hown, hts⟩ hK hA hZ hP hD hS hl.1 [1, 2, 3, 4, 5, 6, 7, 8, 9, 10, 11, 0] 12 rfl ⟨rfl, rfl, rfl⟩ (c_Walk_spread l D ci A sa N ((a_x, .inr (10, [.ref a_at, .ref a_g, .ref a_st, .ref a_x_kept, .int x_keptStates, .ref a_tp, .ref a_rd, .ref a_qu, .ref a_sp, .ref a_wk, .ref a_bx, .ref a_nt, .ref a_nu, .ref a_x_seen])) :: Rw) a_wk a_ws a_wk_steps a_wk_reached n_wk_steps n_wk_reached a_g a_ws_first a_ws_many a_ws_corner a_g_rowCuts a_g_columnCuts a_g_bandRows a_g_zoneColumns a_g_rows a_g_sheets wk_many wk_steps wk_reached ws_cornerCount ws_level ws_row ws_start ws_place ws_length ws_cap ws_first ws_many g_bandRows g_zoneColumns g_rows g_sheets p1 p3 f3 f4 v5 f6 f7 v8 v9 v10 v11 v12 v13 hm41) 1 rfl rfl (cwV 2 hts gX10_way_X9_spread rfl rfl rfl (by decide +kernel) ⟨Nat.le_of_ble_eq_true rfl, Nat.le_of_ble_eq_true rfl⟩) rfl rfl (Nat.le_of_ble_eq_true rfl) dX10_way_41 ⟨Nat.zero_le _, Nat.zero_le _⟩ [11, 0, 1, 2, 3, 4, 5, 6, 7, 8, 9, 10] 12 rfl ⟨rfl, rfl, rfl⟩ (fun H locs hP hD hS => ?_)
          obtain ⟨hP, hD⟩ : va_PD D A ((a_x, .inr (10, [.ref a_at, .ref a_g, .ref a_st, .ref a_x_kept, .int x_keptStates, .ref a_tp, .ref a_rd, .ref a_qu, .ref a_sp, .ref a_wk, .ref a_bx, .ref a_nt, .ref a_nu, .ref a_x_seen])) :: (a_wk, .inr (9, [.ref a_ws, .ref a_wk_steps, .ref a_wk_reached, .int v5])) :: (a_wk_steps, .inl (ci 0, n_wk_steps, .inl f3)) :: (a_wk_reached, .inl (ci 0, n_wk_reached, .inl f4)) :: (a_ws, .inr (6, [.ref a_g, .ref a_ws_first, .ref a_ws_many, .ref a_ws_corner, .int ws_cornerCount, .int v8, .int v9, .int v10, .int v11, .int v12, .int v13])) :: (a_ws_first, .inl (ci 0, 4, .inl f6)) :: (a_ws_many, .inl (ci 0, 4, .inl f7)) :: (a_g, .inr (2, [.ref a_g_rowCuts, .ref a_g_columnCuts, .ref a_g_bandRows, .ref a_g_zoneColumns, .ref a_g_rows, .ref a_g_sheets])) :: (a_g_bandRows, .inl (ci 0, 5, .inl g_bandRows)) :: (a_g_zoneColumns, .inl (ci 0, 5, .inl g_zoneColumns)) :: (a_g_rows, .inl (ci 0, 5, .inl g_rows)) :: (a_g_sheets, .inl (ci 0, 5, .inl g_sheets)) :: Rw) H := ⟨hP, hD⟩
          refine lv_iload (pc := 44) hx hb dX10_way_44 (lv_at hl 4 rfl) ?_
          refine lv_aload_n (pc := 46) hx hb dX10_way_46 rfl (lv_at hl 0 rfl) ?_
          refine va_get (pc := 47) (D := D) (ci := 10) (v := .ref a_wk) (C := RX10) (T := TX10) (N := 14) hx hb hts hinX10 hown hK hP 0 rfl rfl 9 (by decide) w_2 (fun _ h9 => h9) rfl dX10_way_47 ?_
          refine lv_iload_n (pc := 50) hx hb dX10_way_50 rfl (lv_at hl 2 rfl) ?_
          obtain ⟨v14, hm51, hf⟩ := q_b1_e hf
          refine q_cVr (pc := 51) (As := [.int p2]) (rest := [.int p4]) (v0 := (some (.int v14))) ⟨hx, hb, hml, hown, hts⟩ hK hA hZ hP hD hS hl.1 [1, 2] 12 rfl ⟨rfl, rfl, rfl⟩ (c_Walk_stepsTo l D ci A sa N (Rw) a_wk a_ws a_wk_steps a_wk_reached n_wk_steps v5 f3 p2 v14 hm51) 1 rfl rfl (cwV 1 hts gX10_way_X9_stepsTo rfl rfl rfl (by decide +kernel) ⟨Nat.le_of_ble_eq_true rfl, Nat.le_of_ble_eq_true rfl⟩) rfl rfl (Nat.le_of_ble_eq_true rfl) dX10_way_51 ⟨Nat.zero_le _, Nat.zero_le _⟩ (fun locs hS => ?_)
          refine q_icmp_le (pc := 54) (tgt := 62) hx hb dX10_way_54 (by decide) rfl hf (fun hf => ?_) (fun hf => ?_)
          · refine lv_aload_n (pc := 62) hx hb dX10_way_62 rfl (lv_at hl 0 rfl) ?_
            refine va_get (pc := 63) (D := D) (ci := 10) (v := .ref a_wk) (C := RX10) (T := TX10) (N := 14) hx hb hts hinX10 hown hK hP 0 rfl rfl 9 (by decide) w_2 (fun _ h9 => h9) rfl dX10_way_63 ?_
            refine lv_iload_n (pc := 66) hx hb dX10_way_66 rfl (lv_at hl 1 rfl) ?_
            refine lv_iload_n (pc := 67) hx hb dX10_way_67 rfl (lv_at hl 2 rfl) ?_
            refine lv_iload (pc := 68) hx hb dX10_way_68 (lv_at hl 4 rfl) ?_
            obtain ⟨v15, f16, f17, v18, v19, v20, v21, v22, v23, hm70, hf⟩ := q_b9_e hf
            refine q_cV (pc := 70) (As := [.int p1, .int p2, .int p4]) (rest := []) (v0 := (some (.int v15))) ⟨hx, hb, hml, hown, hts⟩ hK hA hZ hP hD hS hl.1 [1, 2, 4, 5, 6, 7, 8, 9, 10, 11, 0, 3] 12 rfl ⟨rfl, rfl, rfl⟩ (c_Walk_onTheWay l D ci A sa N ((a_x, .inr (10, [.ref a_at, .ref a_g, .ref a_st, .ref a_x_kept, .int x_keptStates, .ref a_tp, .ref a_rd, .ref a_qu, .ref a_sp, .ref a_wk, .ref a_bx, .ref a_nt, .ref a_nu, .ref a_x_seen])) :: (a_wk_reached, .inl (ci 0, n_wk_reached, .inl f4)) :: Rw) a_wk a_ws a_wk_steps a_wk_reached n_wk_steps a_g a_ws_first a_ws_many a_ws_corner a_g_rowCuts a_g_columnCuts a_g_bandRows a_g_zoneColumns a_g_rows a_g_sheets v5 f3 ws_cornerCount v8 v9 v10 v11 v12 v13 f6 f7 g_bandRows g_zoneColumns g_rows g_sheets p1 p2 p4 v15 f16 f17 v18 v19 v20 v21 v22 v23 hm70) 1 rfl rfl (cwV 3 hts gX10_way_X9_onTheWay rfl rfl rfl (by decide +kernel) ⟨Nat.le_of_ble_eq_true rfl, Nat.le_of_ble_eq_true rfl⟩) rfl rfl (Nat.le_of_ble_eq_true rfl) dX10_way_70 ⟨Nat.zero_le _, Nat.zero_le _⟩ [10, 0, 1, 11, 2, 3, 4, 5, 6, 7, 8, 9] 12 rfl ⟨rfl, rfl, rfl⟩ (fun H locs hP hD hS => ?_)
            obtain ⟨hP, hD⟩ : va_PD D A ((a_x, .inr (10, [.ref a_at, .ref a_g, .ref a_st, .ref a_x_kept, .int x_keptStates, .ref a_tp, .ref a_rd, .ref a_qu, .ref a_sp, .ref a_wk, .ref a_bx, .ref a_nt, .ref a_nu, .ref a_x_seen])) :: (a_wk, .inr (9, [.ref a_ws, .ref a_wk_steps, .ref a_wk_reached, .int v5])) :: (a_wk_steps, .inl (ci 0, n_wk_steps, .inl f3)) :: (a_wk_reached, .inl (ci 0, n_wk_reached, .inl f4)) :: (a_ws, .inr (6, [.ref a_g, .ref a_ws_first, .ref a_ws_many, .ref a_ws_corner, .int ws_cornerCount, .int v18, .int v19, .int v20, .int v21, .int v22, .int v23])) :: (a_ws_first, .inl (ci 0, 4, .inl f16)) :: (a_ws_many, .inl (ci 0, 4, .inl f17)) :: (a_g, .inr (2, [.ref a_g_rowCuts, .ref a_g_columnCuts, .ref a_g_bandRows, .ref a_g_zoneColumns, .ref a_g_rows, .ref a_g_sheets])) :: (a_g_bandRows, .inl (ci 0, 5, .inl g_bandRows)) :: (a_g_zoneColumns, .inl (ci 0, 5, .inl g_zoneColumns)) :: (a_g_rows, .inl (ci 0, 5, .inl g_rows)) :: (a_g_sheets, .inl (ci 0, 5, .inl g_sheets)) :: Rw) H := ⟨hP, hD⟩
            obtain ⟨e90, e91, e92, e93, e94, e95, e96, e97, e98, e99, e910, e911⟩ := q_inj12 (Option.some.inj hf)
            rw [hQ, ← e90, ← e91, ← e92, ← e93, ← e94, ← e95, ← e96, ← e97, ← e98, ← e99, ← e910, ← e911]
            exact q_iret (pc := 73) hx hb hr hlocks hP hD hS dX10_way_73
          · refine lv_bipush (pc := 57) (v := (-2)) hx hb dX10_way_57 (by decide) ?_
            refine lv_goto (pc := 59) (tgt := 73) hx hb dX10_way_59 (by decide) ?_
            obtain ⟨e90, e91, e92, e93, e94, e95, e96, e97, e98, e99, e910, e911⟩ := q_inj12 (Option.some.inj hf)
            rw [hQ, ← e90, ← e91, ← e92, ← e93, ← e94, ← e95, ← e96, ← e97, ← e98, ← e99, ← e910, ← e911]
            exact q_iret (pc := 73) hx hb hr hlocks hP hD hS dX10_way_73
        · refine lv_bipush (pc := 32) (v := (-3)) hx hb dX10_way_32 (by decide) ?_
          obtain ⟨e90, e91, e92, e93, e94, e95, e96, e97, e98, e99, e910, e911⟩ := q_inj12 (Option.some.inj hf)
          rw [hQ, ← e90, ← e91, ← e92, ← e93, ← e94, ← e95, ← e96, ← e97, ← e98, ← e99, ← e910, ← e911]
          exact q_iret (pc := 34) hx hb hr hlocks hP hD hS dX10_way_34
      · refine lv_iconst (pc := 15) (v := (-1)) hx hb dX10_way_15 (by decide) ?_
        obtain ⟨e90, e91, e92, e93, e94, e95, e96, e97, e98, e99, e910, e911⟩ := q_inj12 (Option.some.inj hf)
        rw [hQ, ← e90, ← e91, ← e92, ← e93, ← e94, ← e95, ← e96, ← e97, ← e98, ← e99, ← e910, ← e911]
        exact q_iret (pc := 16) hx hb hr hlocks hP hD hS dX10_way_16
  exact hgo _ _ rfl hP hS
/-! X10_wider -/
set_option maxRecDepth 100000 in
set_option maxHeartbeats 4000000 in
theorem c_X_wider (l : Launch) (D : va_G) (ci : Nat → ClassId) (A : Nat → Prop) (sa : Nat → Nat) (N : Nat) (Rw : va_W) (a_x : Nat) (a_at : Nat) (a_g : Nat) (a_st : Nat) (a_x_kept : Nat) (a_tp : Nat) (a_rd : Nat) (a_qu : Nat) (a_sp : Nat) (a_wk : Nat) (a_bx : Nat) (a_nt : Nat) (a_nu : Nat) (a_x_seen : Nat) (a_g_rowCuts : Nat) (a_g_columnCuts : Nat) (a_g_bandRows : Nat) (a_g_zoneColumns : Nat) (a_g_rows : Nat) (a_g_sheets : Nat) (x_keptStates : Int32) (g_bandRows : Nat → Int32) (g_zoneColumns : Nat → Int32) (g_rows : Nat → Int32) (g_sheets : Nat → Int32) (p1 : Int32) (p2 : Int32) (p3 : Int32) (r : Int32) (hf : f_X_wider N g_bandRows g_zoneColumns g_rows g_sheets p1 p2 p3 = some r) : Met l yX10_wider wsX10_wider ({ frames := 3, cells := 0, slots := 0, locals := 65 }) (va_Pc [.ref a_x, .int p1, .int p2, .int p3] (q_N D ci A sa ((a_x, .inr (10, [.ref a_at, .ref a_g, .ref a_st, .ref a_x_kept, .int x_keptStates, .ref a_tp, .ref a_rd, .ref a_qu, .ref a_sp, .ref a_wk, .ref a_bx, .ref a_nt, .ref a_nu, .ref a_x_seen])) :: (a_g, .inr (2, [.ref a_g_rowCuts, .ref a_g_columnCuts, .ref a_g_bandRows, .ref a_g_zoneColumns, .ref a_g_rows, .ref a_g_sheets])) :: (a_g_bandRows, .inl (ci 0, 5, .inl g_bandRows)) :: (a_g_zoneColumns, .inl (ci 0, 5, .inl g_zoneColumns)) :: (a_g_rows, .inl (ci 0, 5, .inl g_rows)) :: (a_g_sheets, .inl (ci 0, 5, .inl g_sheets)) :: Rw))) (q_R (some (.int r))) 0 0 A := by
  refine q_ofW (cc := cX10_wider) (maxL := 6) (ret := (some .int)) [.ref a_x, .int p1, .int p2, .int p3] (plainFor_of_name (by decide)) rfl (Nat.le_of_ble_eq_true rfl) ?_
  intro p e s m below meth c ls Q hQ hx hb hml hr hts hown hlocks hK hA hZ hP hD hS hl
  have hl : lv_has ls 6 [(0, .ref a_x), (1, .int p1), (2, .int p2), (3, .int p3)] := hl
  have hown : s.vm.findClass RX10 = some m.cls := hown
  have hinX10 : ∀ w ∈ wsX100, w ∈ wsX10_wider := fun _ h => List.mem_cons_of_mem _ (inWX100 _ h)
  have w_1 := hts (Cond.constant RX10 207 (-1000000)) (List.mem_cons_of_mem _ t_w886)
  have w_2 := hts (Cond.fieldLink RX10 20 "SheetNames" "grid" "LSheetNames$Grid;") (List.mem_cons_of_mem _ t_w876)
  unfold f_X_wider at hf
  have hgo : ∀ (H : Heap) (locs : List Loc), H = s.heap → va_P D vwCl ((a_x, .inr (10, [.ref a_at, .ref a_g, .ref a_st, .ref a_x_kept, .int x_keptStates, .ref a_tp, .ref a_rd, .ref a_qu, .ref a_sp, .ref a_wk, .ref a_bx, .ref a_nt, .ref a_nu, .ref a_x_seen])) :: (a_g, .inr (2, [.ref a_g_rowCuts, .ref a_g_columnCuts, .ref a_g_bandRows, .ref a_g_zoneColumns, .ref a_g_rows, .ref a_g_sheets])) :: (a_g_bandRows, .inl (ci 0, 5, .inl g_bandRows)) :: (a_g_zoneColumns, .inl (ci 0, 5, .inl g_zoneColumns)) :: (a_g_rows, .inl (ci 0, 5, .inl g_rows)) :: (a_g_sheets, .inl (ci 0, 5, .inl g_sheets)) :: Rw) H → va_S A s.heap H locs → W p l e ({ frames := 3, cells := 0, slots := 0, locals := 65 } : Room) s m ([.ref a_x, .int p1, .int p2, .int p3] : List Value).toArray below meth c H locs 0 0 Q (F0 m 0 ls []) := by
    intro H locs hH hP hS
    subst hH
    refine lv_aload_n (pc := 0) hx hb dX10_wider_0 rfl (lv_at hl 0 rfl) ?_
    refine lv_iload_n (pc := 1) hx hb dX10_wider_1 rfl (lv_at hl 1 rfl) ?_
    refine lv_iload_n (pc := 2) hx hb dX10_wider_2 rfl (lv_at hl 2 rfl) ?_
    refine lv_iload_n (pc := 3) hx hb dX10_wider_3 rfl (lv_at hl 3 rfl) ?_
    obtain ⟨v1, hm4, hf⟩ := q_b1_e hf
    refine q_cVr (pc := 4) (As := [.int p1, .int p2, .int p3]) (rest := []) (v0 := (some (.int v1))) ⟨hx, hb, hml, hown, hts⟩ hK hA hZ hP hD hS hl.1 [0, 1, 5] 6 rfl ⟨rfl, rfl, rfl⟩ (c_X_areSheets l D ci A sa N (Rw) a_x a_at a_g a_st a_x_kept a_tp a_rd a_qu a_sp a_wk a_bx a_nt a_nu a_x_seen a_g_rowCuts a_g_columnCuts a_g_bandRows a_g_zoneColumns a_g_rows a_g_sheets x_keptStates g_sheets p1 p2 p3 v1 hm4) 0 rfl rfl (cwV 3 hts gX10_wider_X10_areSheets rfl rfl rfl (by decide +kernel) ⟨Nat.le_of_ble_eq_true rfl, Nat.le_of_ble_eq_true rfl⟩) rfl rfl (Nat.le_of_ble_eq_true rfl) dX10_wider_4 ⟨Nat.zero_le _, Nat.zero_le _⟩ (fun locs hS => ?_)
    refine q_if_ne (pc := 7) (tgt := 13) hx hb dX10_wider_7 (by decide) rfl hf (fun hf => ?_) (fun hf => ?_)
    · refine lv_aload_n (pc := 13) hx hb dX10_wider_13 rfl (lv_at hl 0 rfl) ?_
      refine va_get (pc := 14) (D := D) (ci := 10) (v := .ref a_g) (C := RX10) (T := TX10) (N := 14) hx hb hts hinX10 hown hK hP 0 rfl rfl 1 (by decide) w_2 (fun _ h9 => h9) rfl dX10_wider_14 ?_
      refine lv_iload_n (pc := 17) hx hb dX10_wider_17 rfl (lv_at hl 1 rfl) ?_
      refine lv_aload_n (pc := 18) hx hb dX10_wider_18 rfl (lv_at hl 0 rfl) ?_
      refine va_get (pc := 19) (D := D) (ci := 10) (v := .ref a_g) (C := RX10) (T := TX10) (N := 14) hx hb hts hinX10 hown hK hP 0 rfl rfl 1 (by decide) w_2 (fun _ h9 => h9) rfl dX10_wider_19 ?_
      refine lv_iload_n (pc := 22) hx hb dX10_wider_22 rfl (lv_at hl 1 rfl) ?_
      refine lv_iload_n (pc := 23) hx hb dX10_wider_23 rfl (lv_at hl 2 rfl) ?_
      obtain ⟨v2, hm24, hf⟩ := q_b1_e hf
      refine q_cVr (pc := 24) (As := [.int p1, .int p2]) (rest := [.int p1, .ref a_g]) (v0 := (some (.int v2))) ⟨hx, hb, hml, hown, hts⟩ hK hA hZ hP hD hS hl.1 [1, 2, 3, 4, 5] 6 rfl ⟨rfl, rfl, rfl⟩ (c_Grid_rowOfKey l D ci A sa N (Rw) a_g a_g_rowCuts a_g_columnCuts a_g_bandRows a_g_zoneColumns a_g_rows a_g_sheets g_bandRows g_zoneColumns g_rows g_sheets p1 p2 v2 hm24) 1 rfl rfl (cwV 2 hts gX10_wider_X2_rowOfKey rfl rfl rfl (by decide +kernel) ⟨Nat.le_of_ble_eq_true rfl, Nat.le_of_ble_eq_true rfl⟩) rfl rfl (Nat.le_of_ble_eq_true rfl) dX10_wider_24 ⟨Nat.zero_le _, Nat.zero_le _⟩ (fun locs hS => ?_)
      obtain ⟨v3, hm27, hf⟩ := q_b1_e hf
      refine q_cVr (pc := 27) (As := [.int p1, .int v2]) (rest := []) (v0 := (some (.int v3))) ⟨hx, hb, hml, hown, hts⟩ hK hA hZ hP hD hS hl.1 [1, 2, 3, 4] 6 rfl ⟨rfl, rfl, rfl⟩ (c_Grid_rowLength l D ci A sa N (Rw) a_g a_g_rowCuts a_g_columnCuts a_g_bandRows a_g_zoneColumns a_g_rows a_g_sheets g_bandRows g_zoneColumns g_rows p1 v2 v3 hm27) 1 rfl rfl (cwV 2 hts gX10_wider_X2_rowLength rfl rfl rfl (by decide +kernel) ⟨Nat.le_of_ble_eq_true rfl, Nat.le_of_ble_eq_true rfl⟩) rfl rfl (Nat.le_of_ble_eq_true rfl) dX10_wider_27 ⟨Nat.zero_le _, Nat.zero_le _⟩ (fun locs hS => ?_)
      refine lv_istore (pc := 30) (lv' := [(4, .int v3), (0, .ref a_x), (1, .int p1), (2, .int p2), (3, .int p3)]) hx hb dX10_wider_30 hl (by decide) rfl (fun ls hl => ?_)
      refine lv_aload_n (pc := 32) hx hb dX10_wider_32 rfl (lv_at hl 1 rfl) ?_
      refine va_get (pc := 33) (D := D) (ci := 10) (v := .ref a_g) (C := RX10) (T := TX10) (N := 14) hx hb hts hinX10 hown hK hP 0 rfl rfl 1 (by decide) w_2 (fun _ h9 => h9) rfl dX10_wider_33 ?_
      refine lv_iload_n (pc := 36) hx hb dX10_wider_36 rfl (lv_at hl 2 rfl) ?_
      refine lv_aload_n (pc := 37) hx hb dX10_wider_37 rfl (lv_at hl 1 rfl) ?_
      refine va_get (pc := 38) (D := D) (ci := 10) (v := .ref a_g) (C := RX10) (T := TX10) (N := 14) hx hb hts hinX10 hown hK hP 0 rfl rfl 1 (by decide) w_2 (fun _ h9 => h9) rfl dX10_wider_38 ?_
      refine lv_iload_n (pc := 41) hx hb dX10_wider_41 rfl (lv_at hl 2 rfl) ?_
      refine lv_iload_n (pc := 42) hx hb dX10_wider_42 rfl (lv_at hl 4 rfl) ?_
      obtain ⟨v4, hm43, hf⟩ := q_b1_e hf
      refine q_cVr (pc := 43) (As := [.int p1, .int p3]) (rest := [.int p1, .ref a_g]) (v0 := (some (.int v4))) ⟨hx, hb, hml, hown, hts⟩ hK hA hZ hP hD hS hl.1 [1, 2, 3, 4, 5] 6 rfl ⟨rfl, rfl, rfl⟩ (c_Grid_rowOfKey l D ci A sa N (Rw) a_g a_g_rowCuts a_g_columnCuts a_g_bandRows a_g_zoneColumns a_g_rows a_g_sheets g_bandRows g_zoneColumns g_rows g_sheets p1 p3 v4 hm43) 1 rfl rfl (cwV 2 hts gX10_wider_X2_rowOfKey rfl rfl rfl (by decide +kernel) ⟨Nat.le_of_ble_eq_true rfl, Nat.le_of_ble_eq_true rfl⟩) rfl rfl (Nat.le_of_ble_eq_true rfl) dX10_wider_43 ⟨Nat.zero_le _, Nat.zero_le _⟩ (fun locs hS => ?_)
      obtain ⟨v5, hm46, hf⟩ := q_b1_e hf
      refine q_cVr (pc := 46) (As := [.int p1, .int v4]) (rest := []) (v0 := (some (.int v5))) ⟨hx, hb, hml, hown, hts⟩ hK hA hZ hP hD hS hl.1 [1, 2, 3, 4] 6 rfl ⟨rfl, rfl, rfl⟩ (c_Grid_rowLength l D ci A sa N (Rw) a_g a_g_rowCuts a_g_columnCuts a_g_bandRows a_g_zoneColumns a_g_rows a_g_sheets g_bandRows g_zoneColumns g_rows p1 v4 v5 hm46) 1 rfl rfl (cwV 2 hts gX10_wider_X2_rowLength rfl rfl rfl (by decide +kernel) ⟨Nat.le_of_ble_eq_true rfl, Nat.le_of_ble_eq_true rfl⟩) rfl rfl (Nat.le_of_ble_eq_true rfl) dX10_wider_46 ⟨Nat.zero_le _, Nat.zero_le _⟩ (fun locs hS => ?_)
      refine lv_istore (pc := 49) (lv' := [(5, .int v5), (4, .int v3), (0, .ref a_x), (1, .int p1), (2, .int p2), (3, .int p3)]) hx hb dX10_wider_49 hl (by decide) rfl (fun ls hl => ?_)
      refine lv_iload (pc := 51) hx hb dX10_wider_51 (lv_at hl 0 rfl) ?_
      refine lv_iload (pc := 53) hx hb dX10_wider_53 (lv_at hl 1 rfl) ?_
      obtain ⟨v6, hm55, hf⟩ := q_b1_e hf
      refine q_cSr (pc := 55) (As := [.int v5, .int v3]) (rest := []) (v0 := (some (.int v6))) ⟨hx, hb, hml, hown, hts⟩ hK hA hZ hP hD hS hl.1 [] 6 rfl ⟨rfl, rfl, rfl⟩ (c_JInteger_compare_7cf53 l D ci A sa N (Rw) v5 v3 v6 hm55) (va_cwS 2 hts gX10_wider_J6_compare_7cf53 rfl rfl rfl (by decide +kernel) ⟨Nat.le_of_ble_eq_true rfl, Nat.le_of_ble_eq_true rfl⟩) rfl rfl (Nat.le_of_ble_eq_true rfl) dX10_wider_55 ⟨Nat.zero_le _, Nat.zero_le _⟩ (fun locs hS => ?_)
      obtain rfl := Option.some.inj hf
      rw [hQ]
      exact q_iretr (pc := 58) hx hb hr hlocks rfl hS dX10_wider_58
    · refine lv_ldc (pc := 10) (v := (-1000000)) hx hb hown w_1 dX10_wider_10 ?_
      obtain rfl := Option.some.inj hf
      rw [hQ]
      exact q_iretr (pc := 12) hx hb hr hlocks rfl hS dX10_wider_12
  exact hgo _ _ rfl hP hS
/-! X10_years -/
set_option maxRecDepth 100000 in
set_option maxHeartbeats 4000000 in
theorem c_X_years (l : Launch) (D : va_G) (ci : Nat → ClassId) (A : Nat → Prop) (sa : Nat → Nat) (N : Nat) (Rw : va_W) (a_x : Nat) (a_at : Nat) (a_g : Nat) (a_st : Nat) (a_x_kept : Nat) (a_tp : Nat) (a_rd : Nat) (a_qu : Nat) (a_sp : Nat) (a_wk : Nat) (a_bx : Nat) (a_nt : Nat) (a_nu : Nat) (a_x_seen : Nat) (a_st_levels : Nat) (a_st_keys : Nat) (a_st_years : Nat) (a_st_keysThere : Nat) (x_keptStates : Int32) (st_size : Int32) (st_shownBy : Int32) (st_deepestShown : Int32) (st_latestShown : Int32) (st_years : Nat → Int32) (p1 : Int32) (p2 : Int32) (p3 : Int32) (r : Int32) (hf : f_X_years N st_years st_size p1 p2 p3 = some r) : Met l yX10_years wsX10_years ({ frames := 1, cells := 0, slots := 0, locals := 40 }) (va_Pc [.ref a_x, .int p1, .int p2, .int p3] (q_N D ci A sa ((a_x, .inr (10, [.ref a_at, .ref a_g, .ref a_st, .ref a_x_kept, .int x_keptStates, .ref a_tp, .ref a_rd, .ref a_qu, .ref a_sp, .ref a_wk, .ref a_bx, .ref a_nt, .ref a_nu, .ref a_x_seen])) :: (a_st, .inr (7, [.ref a_g, .ref a_st_levels, .ref a_st_keys, .ref a_st_years, .ref a_st_keysThere, .int st_size, .int st_shownBy, .int st_deepestShown, .int st_latestShown])) :: (a_st_years, .inl (ci 0, 60, .inl st_years)) :: Rw))) (q_R (some (.int r))) 0 0 A := by
  refine q_ofW (cc := cX10_years) (maxL := 9) (ret := (some .int)) [.ref a_x, .int p1, .int p2, .int p3] (plainFor_of_name (by decide)) rfl (Nat.le_of_ble_eq_true rfl) ?_
  intro p e s m below meth c ls Q hQ hx hb hml hr hts hown hlocks hK hA hZ hP hD hS hl
  have hl : lv_has ls 9 [(0, .ref a_x), (1, .int p1), (2, .int p2), (3, .int p3)] := hl
  have hown : s.vm.findClass RX10 = some m.cls := hown
  have hinX10 : ∀ w ∈ wsX100, w ∈ wsX10_years := fun _ h => List.mem_cons_of_mem _ (inWX100 _ h)
  have hinX7 : ∀ w ∈ wsX70, w ∈ wsX10_years := fun _ h => List.mem_cons_of_mem _ (inWX70 _ h)
  have w_1 := hts (Cond.fieldLink RX10 25 "SheetNames" "pieces" "LSheetNames$Store;") (List.mem_cons_of_mem _ t_w892)
  have w_2 := hts (Cond.methodLink RX10 310 Lib.Math.min.name) (List.mem_cons_of_mem _ t_w879)
  have w_3 := hts (Cond.static Lib.Math.min.name) (List.mem_cons_of_mem _ t_w810)
  have w_4 := hts (Cond.initialized "java/lang/Math") (List.mem_cons_of_mem _ t_w76)
  have w_5 := hts (Cond.code Lib.Math.min.name Lib.Math.min.code 2 (some .int)) (List.mem_cons_of_mem _ t_w811)
  have w_6 := hts (Cond.methodLink RX10 313 Lib.Math.max.name) (List.mem_cons_of_mem _ t_w880)
  have w_7 := hts (Cond.static Lib.Math.max.name) (List.mem_cons_of_mem _ t_w813)
  have w_8 := hts (Cond.code Lib.Math.max.name Lib.Math.max.code 2 (some .int)) (List.mem_cons_of_mem _ t_w814)
  have wn_0 : (Cond.fieldLinkNest "SheetNames" 109 "SheetNames$Store" "size" "I" "SheetNames").before ([.ref a_x, .int p1, .int p2, .int p3] : List Value).toArray s = true := (hZ.2.2.2.2.2.2.2.2.2.1 _ (List.mem_of_getElem? (i := 0) rfl)).use rfl
  have wn_25 : (Cond.fieldLinkNest "SheetNames" 376 "SheetNames$Store" "years" "[I" "SheetNames").before ([.ref a_x, .int p1, .int p2, .int p3] : List Value).toArray s = true := (hZ.2.2.2.2.2.2.2.2.2.1 _ (List.mem_of_getElem? (i := 25) rfl)).use rfl
  unfold f_X_years at hf
  have hgo : ∀ (H : Heap) (locs : List Loc), H = s.heap → va_P D vwCl ((a_x, .inr (10, [.ref a_at, .ref a_g, .ref a_st, .ref a_x_kept, .int x_keptStates, .ref a_tp, .ref a_rd, .ref a_qu, .ref a_sp, .ref a_wk, .ref a_bx, .ref a_nt, .ref a_nu, .ref a_x_seen])) :: (a_st, .inr (7, [.ref a_g, .ref a_st_levels, .ref a_st_keys, .ref a_st_years, .ref a_st_keysThere, .int st_size, .int st_shownBy, .int st_deepestShown, .int st_latestShown])) :: (a_st_years, .inl (ci 0, 60, .inl st_years)) :: Rw) H → va_S A s.heap H locs → W p l e ({ frames := 1, cells := 0, slots := 0, locals := 40 } : Room) s m ([.ref a_x, .int p1, .int p2, .int p3] : List Value).toArray below meth c H locs 0 0 Q (F0 m 0 ls []) := by
    intro H locs hH hP hS
    subst hH
    refine lv_iload_n (pc := 0) hx hb dX10_years_0 rfl (lv_at hl 1 rfl) ?_
    refine lv_iconst (pc := 1) (v := 0) hx hb dX10_years_1 (by decide) ?_
    refine lv_sipush (pc := 2) (v := 2100) hx hb dX10_years_2 (by decide) ?_
    obtain ⟨v1, hm5, hf⟩ := q_b1_e hf
    refine q_cSr (pc := 5) (As := [.int p1, .int 0, .int 2100]) (rest := []) (v0 := (some (.int v1))) ⟨hx, hb, hml, hown, hts⟩ hK hA hZ hP hD hS hl.1 [] 3 rfl ⟨rfl, rfl, rfl⟩ (c_X_isFrom l D ci A sa N (Rw) p1 0 2100 v1 hm5) (va_cwS 3 hts gX10_years_X10_isFrom rfl rfl rfl (by decide +kernel) ⟨Nat.le_of_ble_eq_true rfl, Nat.le_of_ble_eq_true rfl⟩) rfl rfl (Nat.le_of_ble_eq_true rfl) dX10_years_5 ⟨Nat.zero_le _, Nat.zero_le _⟩ (fun locs hS => ?_)
    refine q_if_eq (pc := 8) (tgt := 31) hx hb dX10_years_8 (by decide) rfl hf (fun hf => ?_) (fun hf => ?_)
    · refine lv_iconst (pc := 31) (v := (-1)) hx hb dX10_years_31 (by decide) ?_
      obtain rfl := Option.some.inj hf
      rw [hQ]
      exact q_iretr (pc := 32) hx hb hr hlocks rfl hS dX10_years_32
    · refine lv_iload_n (pc := 11) hx hb dX10_years_11 rfl (lv_at hl 2 rfl) ?_
      refine lv_iconst (pc := 12) (v := 0) hx hb dX10_years_12 (by decide) ?_
      refine lv_sipush (pc := 13) (v := 2100) hx hb dX10_years_13 (by decide) ?_
      obtain ⟨v2, hm16, hf⟩ := q_b1_e hf
      refine q_cSr (pc := 16) (As := [.int p2, .int 0, .int 2100]) (rest := []) (v0 := (some (.int v2))) ⟨hx, hb, hml, hown, hts⟩ hK hA hZ hP hD hS hl.1 [] 3 rfl ⟨rfl, rfl, rfl⟩ (c_X_isFrom l D ci A sa N (Rw) p2 0 2100 v2 hm16) (va_cwS 3 hts gX10_years_X10_isFrom rfl rfl rfl (by decide +kernel) ⟨Nat.le_of_ble_eq_true rfl, Nat.le_of_ble_eq_true rfl⟩) rfl rfl (Nat.le_of_ble_eq_true rfl) dX10_years_16 ⟨Nat.zero_le _, Nat.zero_le _⟩ (fun locs hS => ?_)
      refine q_if_eq (pc := 19) (tgt := 31) hx hb dX10_years_19 (by decide) rfl hf (fun hf => ?_) (fun hf => ?_)
      · refine lv_iconst (pc := 31) (v := (-1)) hx hb dX10_years_31 (by decide) ?_
        obtain rfl := Option.some.inj hf
        rw [hQ]
        exact q_iretr (pc := 32) hx hb hr hlocks rfl hS dX10_years_32
      · refine lv_iload_n (pc := 22) hx hb dX10_years_22 rfl (lv_at hl 3 rfl) ?_
        refine lv_iconst (pc := 23) (v := 0) hx hb dX10_years_23 (by decide) ?_
        refine lv_iconst (pc := 24) (v := 2) hx hb dX10_years_24 (by decide) ?_
        obtain ⟨v3, hm25, hf⟩ := q_b1_e hf
        refine q_cSr (pc := 25) (As := [.int p3, .int 0, .int 2]) (rest := []) (v0 := (some (.int v3))) ⟨hx, hb, hml, hown, hts⟩ hK hA hZ hP hD hS hl.1 [] 3 rfl ⟨rfl, rfl, rfl⟩ (c_X_isFrom l D ci A sa N (Rw) p3 0 2 v3 hm25) (va_cwS 3 hts gX10_years_X10_isFrom rfl rfl rfl (by decide +kernel) ⟨Nat.le_of_ble_eq_true rfl, Nat.le_of_ble_eq_true rfl⟩) rfl rfl (Nat.le_of_ble_eq_true rfl) dX10_years_25 ⟨Nat.zero_le _, Nat.zero_le _⟩ (fun locs hS => ?_)
        refine q_if_ne (pc := 28) (tgt := 33) hx hb dX10_years_28 (by decide) rfl hf (fun hf => ?_) (fun hf => ?_)
        · refine lv_iconst (pc := 33) (v := 0) hx hb dX10_years_33 (by decide) ?_
          obtain ⟨v4, ev4, hf⟩ := q_nm_e hf
          refine q_topi ev4 ?_
          refine lv_istore (pc := 34) (lv' := [(4, .int v4), (0, .ref a_x), (1, .int p1), (2, .int p2), (3, .int p3)]) hx hb dX10_years_34 hl (by decide) rfl (fun ls hl => ?_)
          refine lv_sipush (pc := 36) (v := 2100) hx hb dX10_years_36 (by decide) ?_
          obtain ⟨v5, ev5, hf⟩ := q_nm_e hf
          refine q_topi ev5 ?_
          refine lv_istore (pc := 39) (lv' := [(5, .int v5), (4, .int v4), (0, .ref a_x), (1, .int p1), (2, .int p2), (3, .int p3)]) hx hb dX10_years_39 hl (by decide) rfl (fun ls hl => ?_)
          refine lv_iconst (pc := 41) (v := 0) hx hb dX10_years_41 (by decide) ?_
          obtain ⟨v6, ev6, hf⟩ := q_nm_e hf
          refine q_topi ev6 ?_
          refine lv_istore (pc := 42) (lv' := [(6, .int v6), (5, .int v5), (4, .int v4), (0, .ref a_x), (1, .int p1), (2, .int p2), (3, .int p3)]) hx hb dX10_years_42 hl (by decide) rfl (fun ls hl => ?_)
          refine lv_iconst (pc := 44) (v := 0) hx hb dX10_years_44 (by decide) ?_
          obtain ⟨v7, ev7, hf⟩ := q_nm_e hf
          refine q_topi ev7 ?_
          refine lv_istore (pc := 45) (lv' := [(7, .int v7), (6, .int v6), (5, .int v5), (4, .int v4), (0, .ref a_x), (1, .int p1), (2, .int p2), (3, .int p3)]) hx hb dX10_years_45 hl (by decide) rfl (fun ls hl => ?_)
          obtain ⟨v12, v13, v14, hm47, hf⟩ := q_b3_e hf
          have JE47 : ∀ (H : Heap) (locs : List Loc) (ls : Array Slot), H = s.heap → va_S A s.heap H locs → lv_has ls 9 [(3, .int p3), (4, .int v12), (5, .int v13), (6, .int v14)] → W p l e ({ frames := 1, cells := 0, slots := 0, locals := 40 } : Room) s m ([.ref a_x, .int p1, .int p2, .int p3] : List Value).toArray below meth c H locs 0 0 Q (F0 m 108 ls []) := by
            intro H locs ls hHs hS hl
            subst hHs
            refine lv_iload_n (pc := 108) hx hb dX10_years_108 rfl (lv_at hl 0 rfl) ?_
            refine q_if_ne (pc := 109) (tgt := 115) hx hb dX10_years_109 (by decide) rfl hf (fun hf => ?_) (fun hf => ?_)
            · refine lv_iload (pc := 115) hx hb dX10_years_115 (lv_at hl 1 rfl) ?_
              refine q_if_ne (pc := 117) (tgt := 123) hx hb dX10_years_117 (by decide) rfl hf (fun hf => ?_) (fun hf => ?_)
              · refine lv_iload_n (pc := 123) hx hb dX10_years_123 rfl (lv_at hl 0 rfl) ?_
                refine lv_iconst (pc := 124) (v := 1) hx hb dX10_years_124 (by decide) ?_
                refine q_icmp_ne (pc := 125) (tgt := 133) hx hb dX10_years_125 (by decide) rfl hf (fun hf => ?_) (fun hf => ?_)
                · refine lv_iload (pc := 133) hx hb dX10_years_133 (lv_at hl 3 rfl) ?_
                  obtain rfl := Option.some.inj hf
                  rw [hQ]
                  exact q_iretr (pc := 135) hx hb hr hlocks rfl hS dX10_years_135
                · refine lv_iload (pc := 128) hx hb dX10_years_128 (lv_at hl 2 rfl) ?_
                  refine lv_goto (pc := 130) (tgt := 135) hx hb dX10_years_130 (by decide) ?_
                  obtain rfl := Option.some.inj hf
                  rw [hQ]
                  exact q_iretr (pc := 135) hx hb hr hlocks rfl hS dX10_years_135
              · refine lv_bipush (pc := 120) (v := (-2)) hx hb dX10_years_120 (by decide) ?_
                obtain rfl := Option.some.inj hf
                rw [hQ]
                exact q_iretr (pc := 122) hx hb hr hlocks rfl hS dX10_years_122
            · refine lv_iload (pc := 112) hx hb dX10_years_112 (lv_at hl 1 rfl) ?_
              obtain rfl := Option.some.inj hf
              rw [hQ]
              exact q_iretr (pc := 114) hx hb hr hlocks rfl hS dX10_years_114
          have LP47 : ∀ (n47 : Nat) (v8 : Int32) (v9 : Int32) (v10 : Int32) (v11 : Int32) (H : Heap) (locs : List Loc) (ls : Array Slot), f_X_years_L47 p1 p2 st_size st_years n47 v8 v9 v10 v11 = some (v12, v13, v14) → H = s.heap → va_S A s.heap H locs → lv_has ls 9 [(0, .ref a_x), (1, .int p1), (2, .int p2), (3, .int p3), (4, .int v8), (5, .int v9), (6, .int v10), (7, .int v11)] → W p l e ({ frames := 1, cells := 0, slots := 0, locals := 40 } : Room) s m ([.ref a_x, .int p1, .int p2, .int p3] : List Value).toArray below meth c H locs 0 0 Q (F0 m 47 ls []) := by
            intro n47
            induction n47 with
            | zero => intro v8 v9 v10 v11 H locs ls hf; rw [f_X_years_L47] at hf; cases hf
            | succ n47 ih47 =>
              intro v8 v9 v10 v11 H locs ls hf hHs hS hl
              subst hHs
              rw [f_X_years_L47] at hf
              refine lv_iload (pc := 47) hx hb dX10_years_47 (lv_at hl 7 rfl) ?_
              refine lv_aload_n (pc := 49) hx hb dX10_years_49 rfl (lv_at hl 0 rfl) ?_
              refine va_get (pc := 50) (D := D) (ci := 10) (v := .ref a_st) (C := RX10) (T := TX10) (N := 14) hx hb hts hinX10 hown hK hP 0 rfl rfl 2 (by decide) w_1 (fun _ h9 => h9) rfl dX10_years_50 ?_
              refine va_getN (pc := 53) (D := D) (ci := 7) (v := .int st_size) (C := RX7) (T := TX7) (N := 9) hx hb hts hinX7 hown hK hP 1 rfl rfl 5 (by decide) wn_0 (fun _ h9 => h9) rfl dX10_years_53 ?_
              refine q_icmp_ge (pc := 56) (tgt := 108) hx hb dX10_years_56 (by decide) rfl hf (fun hf => ?_) (fun hf => ?_)
              · obtain ⟨rfl, rfl, rfl⟩ := q_inj3 (Option.some.inj hf)
                exact JE47 _ _ _ rfl hS (lv_sub hl [3, 4, 5, 6] rfl)
              · refine lv_aload_n (pc := 59) hx hb dX10_years_59 rfl (lv_at hl 0 rfl) ?_
                refine va_get (pc := 60) (D := D) (ci := 10) (v := .ref a_st) (C := RX10) (T := TX10) (N := 14) hx hb hts hinX10 hown hK hP 0 rfl rfl 2 (by decide) w_1 (fun _ h9 => h9) rfl dX10_years_60 ?_
                refine va_getN (pc := 63) (D := D) (ci := 7) (v := .ref a_st_years) (C := RX7) (T := TX7) (N := 9) hx hb hts hinX7 hown hK hP 1 rfl rfl 3 (by decide) wn_25 (fun _ h9 => h9) rfl dX10_years_63 ?_
                refine lv_iload (pc := 66) hx hb dX10_years_66 (lv_at hl 7 rfl) ?_
                refine q_iald (pc := 68) hx hb hK hP 2 0 hf rfl rfl dX10_years_68 (fun v15 hf => ?_)
                refine lv_istore (pc := 69) (lv' := [(8, .int v15), (0, .ref a_x), (1, .int p1), (2, .int p2), (3, .int p3), (4, .int v8), (5, .int v9), (6, .int v10), (7, .int v11)]) hx hb dX10_years_69 hl (by decide) rfl (fun ls hl => ?_)
                refine lv_iload (pc := 71) hx hb dX10_years_71 (lv_at hl 0 rfl) ?_
                refine lv_iload_n (pc := 73) hx hb dX10_years_73 rfl (lv_at hl 2 rfl) ?_
                refine lv_iload_n (pc := 74) hx hb dX10_years_74 rfl (lv_at hl 3 rfl) ?_
                obtain ⟨v16, hm75, hf⟩ := q_b1_e hf
                refine q_cSr (pc := 75) (As := [.int v15, .int p1, .int p2]) (rest := []) (v0 := (some (.int v16))) ⟨hx, hb, hml, hown, hts⟩ hK hA hZ hP hD hS hl.1 [] 3 rfl ⟨rfl, rfl, rfl⟩ (c_X_isFrom l D ci A sa N (Rw) v15 p1 p2 v16 hm75) (va_cwS 3 hts gX10_years_X10_isFrom rfl rfl rfl (by decide +kernel) ⟨Nat.le_of_ble_eq_true rfl, Nat.le_of_ble_eq_true rfl⟩) rfl rfl (Nat.le_of_ble_eq_true rfl) dX10_years_75 ⟨Nat.zero_le _, Nat.zero_le _⟩ (fun locs hS => ?_)
                obtain ⟨k102, ek102, hf⟩ := q_j3_e hf
                have J102 : ∀ (v17 : Int32) (v18 : Int32) (v19 : Int32) (H : Heap) (locs : List Loc) (ls : Array Slot), k102 v17 v18 v19 = some (v12, v13, v14) → H = s.heap → va_S A s.heap H locs → lv_has ls 9 [(0, .ref a_x), (1, .int p1), (2, .int p2), (3, .int p3), (4, .int v17), (5, .int v18), (6, .int v19), (7, .int v11)] → W p l e ({ frames := 1, cells := 0, slots := 0, locals := 40 } : Room) s m ([.ref a_x, .int p1, .int p2, .int p3] : List Value).toArray below meth c H locs 0 0 Q (F0 m 102 ls []) := by
                  intro v17 v18 v19 H locs ls hf hHs hS hl
                  subst hHs
                  have hf := (ek102 v17 v18 v19).symm.trans hf
                  obtain ⟨v20, ev20, hf⟩ := q_nm_e hf
                  refine lv_iinc (pc := 102) (v := v20) (lv' := [(7, .int v20), (0, .ref a_x), (1, .int p1), (2, .int p2), (3, .int p3), (4, .int v17), (5, .int v18), (6, .int v19)]) hx hb dX10_years_102 hl (k := 7) rfl (by rw [ev20]; rfl) (by decide) rfl (fun ls hl => ?_)
                  refine lv_goto (pc := 105) (tgt := 47) hx hb dX10_years_105 (by decide) ?_
                  exact ih47 v17 v18 v19 v20 _ _ _ hf rfl hS (lv_sub hl [1, 2, 3, 4, 5, 6, 7, 0] rfl)
                refine q_if_eq (pc := 78) (tgt := 102) hx hb dX10_years_78 (by decide) rfl hf (fun hf => ?_) (fun hf => ?_)
                · exact J102 v8 v9 v10 _ _ _ hf rfl hS (lv_sub hl [1, 2, 3, 4, 5, 6, 7, 8] rfl)
                · obtain ⟨v21, ev21, hf⟩ := q_nm_e hf
                  refine lv_iinc (pc := 81) (v := v21) (lv' := [(4, .int v21), (8, .int v15), (0, .ref a_x), (1, .int p1), (2, .int p2), (3, .int p3), (5, .int v9), (6, .int v10), (7, .int v11)]) hx hb dX10_years_81 hl (k := 5) rfl (by rw [ev21]; rfl) (by decide) rfl (fun ls hl => ?_)
                  refine lv_iload (pc := 84) hx hb dX10_years_84 (lv_at hl 6 rfl) ?_
                  refine lv_iload (pc := 86) hx hb dX10_years_86 (lv_at hl 1 rfl) ?_
                  obtain ⟨v22, ev22, hf⟩ := q_nm_e hf
                  refine va_mmin (pc := 88) hx hb (hml.trans hl.1.symm) hown w_2 w_3 w_4 w_5 (Nat.le_of_ble_eq_true rfl) (Nat.le_of_ble_eq_true rfl) (Nat.zero_le _) (Nat.zero_le _) dX10_years_88 ?_
                  refine q_topi ev22 ?_
                  refine lv_istore (pc := 91) (lv' := [(5, .int v22), (4, .int v21), (8, .int v15), (0, .ref a_x), (1, .int p1), (2, .int p2), (3, .int p3), (6, .int v10), (7, .int v11)]) hx hb dX10_years_91 hl (by decide) rfl (fun ls hl => ?_)
                  refine lv_iload (pc := 93) hx hb dX10_years_93 (lv_at hl 7 rfl) ?_
                  refine lv_iload (pc := 95) hx hb dX10_years_95 (lv_at hl 2 rfl) ?_
                  obtain ⟨v23, ev23, hf⟩ := q_nm_e hf
                  refine va_mmax (pc := 97) hx hb (hml.trans hl.1.symm) hown w_6 w_7 w_4 w_8 (Nat.le_of_ble_eq_true rfl) (Nat.le_of_ble_eq_true rfl) (Nat.zero_le _) (Nat.zero_le _) dX10_years_97 ?_
                  refine q_topi ev23 ?_
                  refine lv_istore (pc := 100) (lv' := [(6, .int v23), (5, .int v22), (4, .int v21), (8, .int v15), (0, .ref a_x), (1, .int p1), (2, .int p2), (3, .int p3), (7, .int v11)]) hx hb dX10_years_100 hl (by decide) rfl (fun ls hl => ?_)
                  exact J102 v21 v22 v23 _ _ _ hf rfl hS (lv_sub hl [4, 5, 6, 7, 2, 1, 0, 8] rfl)
          exact LP47 N v4 v5 v6 v7 _ _ _ hm47 rfl hS (lv_sub hl [4, 5, 6, 7, 3, 2, 1, 0] rfl)
        · refine lv_iconst (pc := 31) (v := (-1)) hx hb dX10_years_31 (by decide) ?_
          obtain rfl := Option.some.inj hf
          rw [hQ]
          exact q_iretr (pc := 32) hx hb hr hlocks rfl hS dX10_years_32
  exact hgo _ _ rfl hP hS
