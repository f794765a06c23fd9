/-! X10_changes -/
set_option maxRecDepth 100000 in
set_option maxHeartbeats 4000000 in
theorem c_X_changes (l : Launch) (D : va_G) (ci : Nat → ClassId) (A : Nat → Prop) (sa : Nat → Nat) (N : Nat) (Rw : va_W) (a_x : Nat) (a_at : Nat) (a_g : Nat) (a_st : Nat) (a_x_kept : Nat) (a_tp : Nat) (a_rd : Nat) (a_qu : Nat) (a_sp : Nat) (a_wk : Nat) (a_bx : Nat) (a_nt : Nat) (a_nu : Nat) (a_x_seen : Nat) (a_g_rowCuts : Nat) (a_g_columnCuts : Nat) (a_g_bandRows : Nat) (a_g_zoneColumns : Nat) (a_g_rows : Nat) (a_g_sheets : Nat) (x_keptStates : Int32) (g_bandRows : Nat → Int32) (g_zoneColumns : Nat → Int32) (g_rows : Nat → Int32) (g_sheets : Nat → Int32) (p1 : Int32) (p2 : Int32) (p3 : Int32) (p4 : Int32) (p5 : Int32) (p6 : Int32) (r : Int32) (hf : f_X_changes N g_bandRows g_zoneColumns g_rows g_sheets p1 p2 p3 p4 p5 p6 = some r) : Met l yX10_changes wsX10_changes ({ frames := 3, cells := 0, slots := 0, locals := 73 }) (va_Pc [.ref a_x, .int p1, .int p2, .int p3, .int p4, .int p5, .int p6] (q_N D ci A sa ((a_x, .inr (10, [.ref a_at, .ref a_g, .ref a_st, .ref a_x_kept, .int x_keptStates, .ref a_tp, .ref a_rd, .ref a_qu, .ref a_sp, .ref a_wk, .ref a_bx, .ref a_nt, .ref a_nu, .ref a_x_seen])) :: (a_g, .inr (2, [.ref a_g_rowCuts, .ref a_g_columnCuts, .ref a_g_bandRows, .ref a_g_zoneColumns, .ref a_g_rows, .ref a_g_sheets])) :: (a_g_bandRows, .inl (ci 0, 5, .inl g_bandRows)) :: (a_g_zoneColumns, .inl (ci 0, 5, .inl g_zoneColumns)) :: (a_g_rows, .inl (ci 0, 5, .inl g_rows)) :: (a_g_sheets, .inl (ci 0, 5, .inl g_sheets)) :: Rw))) (q_R (some (.int r))) 0 0 A := by
  refine q_ofW (cc := cX10_changes) (maxL := 13) (ret := (some .int)) [.ref a_x, .int p1, .int p2, .int p3, .int p4, .int p5, .int p6] (plainFor_of_name (by decide)) rfl (Nat.le_of_ble_eq_true rfl) ?_
  intro p e s m below meth c ls Q hQ hx hb hml hr hts hown hlocks hK hA hZ hP hD hS hl
  have hl : lv_has ls 13 [(0, .ref a_x), (1, .int p1), (2, .int p2), (3, .int p3), (4, .int p4), (5, .int p5), (6, .int p6)] := hl
  have hown : s.vm.findClass RX10 = some m.cls := hown
  have hinX10 : ∀ w ∈ wsX100, w ∈ wsX10_changes := fun _ h => List.mem_cons_of_mem _ (inWX100 _ h)
  have w_1 := hts (Cond.fieldLink RX10 20 "SheetNames" "grid" "LSheetNames$Grid;") (List.mem_cons_of_mem _ t_w876)
  unfold f_X_changes at hf
  have hgo : ∀ (H : Heap) (locs : List Loc), H = s.heap → va_P D vwCl ((a_x, .inr (10, [.ref a_at, .ref a_g, .ref a_st, .ref a_x_kept, .int x_keptStates, .ref a_tp, .ref a_rd, .ref a_qu, .ref a_sp, .ref a_wk, .ref a_bx, .ref a_nt, .ref a_nu, .ref a_x_seen])) :: (a_g, .inr (2, [.ref a_g_rowCuts, .ref a_g_columnCuts, .ref a_g_bandRows, .ref a_g_zoneColumns, .ref a_g_rows, .ref a_g_sheets])) :: (a_g_bandRows, .inl (ci 0, 5, .inl g_bandRows)) :: (a_g_zoneColumns, .inl (ci 0, 5, .inl g_zoneColumns)) :: (a_g_rows, .inl (ci 0, 5, .inl g_rows)) :: (a_g_sheets, .inl (ci 0, 5, .inl g_sheets)) :: Rw) H → va_S A s.heap H locs → W p l e ({ frames := 3, cells := 0, slots := 0, locals := 73 } : Room) s m ([.ref a_x, .int p1, .int p2, .int p3, .int p4, .int p5, .int p6] : List Value).toArray below meth c H locs 0 0 Q (F0 m 0 ls []) := by
    intro H locs hH hP hS
    subst hH
    refine lv_iload_n (pc := 0) hx hb dX10_changes_0 rfl (lv_at hl 1 rfl) ?_
    refine lv_iload_n (pc := 1) hx hb dX10_changes_1 rfl (lv_at hl 2 rfl) ?_
    obtain ⟨v1, hm2, hf⟩ := q_b1_e hf
    refine q_cSr (pc := 2) (As := [.int p1, .int p2]) (rest := []) (v0 := (some (.int v1))) ⟨hx, hb, hml, hown, hts⟩ hK hA hZ hP hD hS hl.1 [] 6 rfl ⟨rfl, rfl, rfl⟩ (c_X_isPlace l D ci A sa N (Rw) p1 p2 v1 hm2) (va_cwS 2 hts gX10_changes_X10_isPlace rfl rfl rfl (by decide +kernel) ⟨Nat.le_of_ble_eq_true rfl, Nat.le_of_ble_eq_true rfl⟩) rfl rfl (Nat.le_of_ble_eq_true rfl) dX10_changes_2 ⟨Nat.zero_le _, Nat.zero_le _⟩ (fun locs hS => ?_)
    refine q_if_eq (pc := 5) (tgt := 37) hx hb dX10_changes_5 (by decide) rfl hf (fun hf => ?_) (fun hf => ?_)
    · refine lv_iconst (pc := 37) (v := (-1)) hx hb dX10_changes_37 (by decide) ?_
      obtain rfl := Option.some.inj hf
      rw [hQ]
      exact q_iretr (pc := 38) hx hb hr hlocks rfl hS dX10_changes_38
    · refine lv_iload_n (pc := 8) hx hb dX10_changes_8 rfl (lv_at hl 3 rfl) ?_
      refine lv_iload (pc := 9) hx hb dX10_changes_9 (lv_at hl 4 rfl) ?_
      obtain ⟨v2, hm11, hf⟩ := q_b1_e hf
      refine q_cSr (pc := 11) (As := [.int p3, .int p4]) (rest := []) (v0 := (some (.int v2))) ⟨hx, hb, hml, hown, hts⟩ hK hA hZ hP hD hS hl.1 [] 6 rfl ⟨rfl, rfl, rfl⟩ (c_X_isPlace l D ci A sa N (Rw) p3 p4 v2 hm11) (va_cwS 2 hts gX10_changes_X10_isPlace rfl rfl rfl (by decide +kernel) ⟨Nat.le_of_ble_eq_true rfl, Nat.le_of_ble_eq_true rfl⟩) rfl rfl (Nat.le_of_ble_eq_true rfl) dX10_changes_11 ⟨Nat.zero_le _, Nat.zero_le _⟩ (fun locs hS => ?_)
      refine q_if_eq (pc := 14) (tgt := 37) hx hb dX10_changes_14 (by decide) rfl hf (fun hf => ?_) (fun hf => ?_)
      · refine lv_iconst (pc := 37) (v := (-1)) hx hb dX10_changes_37 (by decide) ?_
        obtain rfl := Option.some.inj hf
        rw [hQ]
        exact q_iretr (pc := 38) hx hb hr hlocks rfl hS dX10_changes_38
      · refine lv_iload (pc := 17) hx hb dX10_changes_17 (lv_at hl 5 rfl) ?_
        refine lv_iconst (pc := 19) (v := 1) hx hb dX10_changes_19 (by decide) ?_
        refine lv_sipush (pc := 20) (v := 200) hx hb dX10_changes_20 (by decide) ?_
        obtain ⟨v3, hm23, hf⟩ := q_b1_e hf
        refine q_cSr (pc := 23) (As := [.int p5, .int 1, .int 200]) (rest := []) (v0 := (some (.int v3))) ⟨hx, hb, hml, hown, hts⟩ hK hA hZ hP hD hS hl.1 [] 6 rfl ⟨rfl, rfl, rfl⟩ (c_X_isFrom l D ci A sa N (Rw) p5 1 200 v3 hm23) (va_cwS 3 hts gX10_changes_X10_isFrom rfl rfl rfl (by decide +kernel) ⟨Nat.le_of_ble_eq_true rfl, Nat.le_of_ble_eq_true rfl⟩) rfl rfl (Nat.le_of_ble_eq_true rfl) dX10_changes_23 ⟨Nat.zero_le _, Nat.zero_le _⟩ (fun locs hS => ?_)
        refine q_if_eq (pc := 26) (tgt := 37) hx hb dX10_changes_26 (by decide) rfl hf (fun hf => ?_) (fun hf => ?_)
        · refine lv_iconst (pc := 37) (v := (-1)) hx hb dX10_changes_37 (by decide) ?_
          obtain rfl := Option.some.inj hf
          rw [hQ]
          exact q_iretr (pc := 38) hx hb hr hlocks rfl hS dX10_changes_38
        · refine lv_iload (pc := 29) hx hb dX10_changes_29 (lv_at hl 6 rfl) ?_
          obtain ⟨v4, hm31, hf⟩ := q_b1_e hf
          refine q_cSr (pc := 31) (As := [.int p6]) (rest := []) (v0 := (some (.int v4))) ⟨hx, hb, hml, hown, hts⟩ hK hA hZ hP hD hS hl.1 [] 6 rfl ⟨rfl, rfl, rfl⟩ (c_X_isLevel l D ci A sa N (Rw) p6 v4 hm31) (va_cwS 1 hts gX10_changes_X10_isLevel rfl rfl rfl (by decide +kernel) ⟨Nat.le_of_ble_eq_true rfl, Nat.le_of_ble_eq_true rfl⟩) rfl rfl (Nat.le_of_ble_eq_true rfl) dX10_changes_31 ⟨Nat.zero_le _, Nat.zero_le _⟩ (fun locs hS => ?_)
          refine q_if_ne (pc := 34) (tgt := 39) hx hb dX10_changes_34 (by decide) rfl hf (fun hf => ?_) (fun hf => ?_)
          · refine lv_iconst (pc := 39) (v := 0) hx hb dX10_changes_39 (by decide) ?_
            obtain ⟨v5, ev5, hf⟩ := q_nm_e hf
            refine q_topi ev5 ?_
            refine lv_istore (pc := 40) (lv' := [(7, .int v5), (0, .ref a_x), (1, .int p1), (2, .int p2), (3, .int p3), (4, .int p4), (5, .int p5), (6, .int p6)]) hx hb dX10_changes_40 hl (by decide) rfl (fun ls hl => ?_)
            refine lv_aload_n (pc := 42) hx hb dX10_changes_42 rfl (lv_at hl 1 rfl) ?_
            refine va_get (pc := 43) (D := D) (ci := 10) (v := .ref a_g) (C := RX10) (T := TX10) (N := 14) hx hb hts hinX10 hown hK hP 0 rfl rfl 1 (by decide) w_1 (fun _ h9 => h9) rfl dX10_changes_43 ?_
            refine lv_iload (pc := 46) hx hb dX10_changes_46 (lv_at hl 7 rfl) ?_
            refine lv_iload_n (pc := 48) hx hb dX10_changes_48 rfl (lv_at hl 2 rfl) ?_
            refine lv_iload_n (pc := 49) hx hb dX10_changes_49 rfl (lv_at hl 3 rfl) ?_
            obtain ⟨v6, hm50, hf⟩ := q_b1_e hf
            refine q_cVr (pc := 50) (As := [.int p6, .int p1, .int p2]) (rest := []) (v0 := (some (.int v6))) ⟨hx, hb, hml, hown, hts⟩ hK hA hZ hP hD hS hl.1 [1, 2, 3, 4, 5] 6 rfl ⟨rfl, rfl, rfl⟩ (c_Grid_keyOf l D ci A sa N (Rw) a_g a_g_rowCuts a_g_columnCuts a_g_bandRows a_g_zoneColumns a_g_rows a_g_sheets g_bandRows g_zoneColumns g_rows g_sheets p6 p1 p2 v6 hm50) 1 rfl rfl (cwV 3 hts gX10_changes_X2_keyOf rfl rfl rfl (by decide +kernel) ⟨Nat.le_of_ble_eq_true rfl, Nat.le_of_ble_eq_true rfl⟩) rfl rfl (Nat.le_of_ble_eq_true rfl) dX10_changes_50 ⟨Nat.zero_le _, Nat.zero_le _⟩ (fun locs hS => ?_)
            refine lv_istore (pc := 53) (lv' := [(8, .int v6), (7, .int v5), (0, .ref a_x), (1, .int p1), (2, .int p2), (3, .int p3), (4, .int p4), (5, .int p5), (6, .int p6)]) hx hb dX10_changes_53 hl (by decide) rfl (fun ls hl => ?_)
            refine lv_iconst (pc := 55) (v := 1) hx hb dX10_changes_55 (by decide) ?_
            obtain ⟨v7, ev7, hf⟩ := q_nm_e hf
            refine q_topi ev7 ?_
            refine lv_istore (pc := 56) (lv' := [(9, .int v7), (8, .int v6), (7, .int v5), (0, .ref a_x), (1, .int p1), (2, .int p2), (3, .int p3), (4, .int p4), (5, .int p5), (6, .int p6)]) hx hb dX10_changes_56 hl (by decide) rfl (fun ls hl => ?_)
            obtain ⟨v11, hm58, hf⟩ := q_b1_e hf
            have JE58 : ∀ (H : Heap) (locs : List Loc) (ls : Array Slot), H = s.heap → va_S A s.heap H locs → lv_has ls 13 [(7, .int v11)] → W p l e ({ frames := 3, cells := 0, slots := 0, locals := 73 } : Room) s m ([.ref a_x, .int p1, .int p2, .int p3, .int p4, .int p5, .int p6] : List Value).toArray below meth c H locs 0 0 Q (F0 m 131 ls []) := by
              intro H locs ls hHs hS hl
              subst hHs
              refine lv_iload (pc := 131) hx hb dX10_changes_131 (lv_at hl 0 rfl) ?_
              obtain rfl := Option.some.inj hf
              rw [hQ]
              exact q_iretr (pc := 133) hx hb hr hlocks rfl hS dX10_changes_133
            have LP58 : ∀ (n58 : Nat) (v8 : Int32) (v9 : Int32) (v10 : Int32) (H : Heap) (locs : List Loc) (ls : Array Slot), f_X_changes_L58 g_bandRows g_rows g_sheets g_zoneColumns p1 p2 p3 p4 p5 p6 n58 v8 v9 v10 = some v11 → H = s.heap → va_S A s.heap H locs → lv_has ls 13 [(0, .ref a_x), (1, .int p1), (2, .int p2), (3, .int p3), (4, .int p4), (5, .int p5), (6, .int p6), (7, .int v8), (8, .int v9), (9, .int v10)] → W p l e ({ frames := 3, cells := 0, slots := 0, locals := 73 } : Room) s m ([.ref a_x, .int p1, .int p2, .int p3, .int p4, .int p5, .int p6] : List Value).toArray below meth c H locs 0 0 Q (F0 m 58 ls []) := by
              intro n58
              induction n58 with
              | zero => intro v8 v9 v10 H locs ls hf; rw [f_X_changes_L58] at hf; cases hf
              | succ n58 ih58 =>
                intro v8 v9 v10 H locs ls hf hHs hS hl
                subst hHs
                rw [f_X_changes_L58] at hf
                refine lv_iload (pc := 58) hx hb dX10_changes_58 (lv_at hl 9 rfl) ?_
                refine lv_iload (pc := 60) hx hb dX10_changes_60 (lv_at hl 5 rfl) ?_
                refine q_icmp_gt (pc := 62) (tgt := 131) hx hb dX10_changes_62 (by decide) rfl hf (fun hf => ?_) (fun hf => ?_)
                · obtain rfl := Option.some.inj hf
                  exact JE58 _ _ _ rfl hS (lv_sub hl [7] rfl)
                · refine lv_iload_n (pc := 65) hx hb dX10_changes_65 rfl (lv_at hl 1 rfl) ?_
                  refine lv_iload_n (pc := 66) hx hb dX10_changes_66 rfl (lv_at hl 3 rfl) ?_
                  refine lv_iload_n (pc := 67) hx hb dX10_changes_67 rfl (lv_at hl 1 rfl) ?_
                  refine lv_isub (pc := 68) hx hb dX10_changes_68 ?_
                  refine lv_iload (pc := 69) hx hb dX10_changes_69 (lv_at hl 9 rfl) ?_
                  refine lv_imul (pc := 71) hx hb dX10_changes_71 ?_
                  refine lv_iload (pc := 72) hx hb dX10_changes_72 (lv_at hl 5 rfl) ?_
                  obtain ⟨v12, hm74, hf⟩ := q_b1_e hf
                  refine q_cSr (pc := 74) (As := [.int ((p3 - p1) * v10), .int p5]) (rest := [.int p1]) (v0 := (some (.int v12))) ⟨hx, hb, hml, hown, hts⟩ hK hA hZ hP hD hS hl.1 [] 6 rfl ⟨rfl, rfl, rfl⟩ (c_JMath_floorDiv_7cf53 l D ci A sa N (Rw) ((p3 - p1) * v10) p5 v12 hm74) (va_cwS 2 hts gX10_changes_J9_floorDiv_7cf53 rfl rfl rfl (by decide +kernel) ⟨Nat.le_of_ble_eq_true rfl, Nat.le_of_ble_eq_true rfl⟩) rfl rfl (Nat.le_of_ble_eq_true rfl) dX10_changes_74 ⟨Nat.zero_le _, Nat.zero_le _⟩ (fun locs hS => ?_)
                  refine lv_iadd (pc := 77) hx hb dX10_changes_77 ?_
                  obtain ⟨v13, ev13, hf⟩ := q_nm_e hf
                  refine q_topi ev13 ?_
                  refine lv_istore (pc := 78) (lv' := [(10, .int v13), (0, .ref a_x), (1, .int p1), (2, .int p2), (3, .int p3), (4, .int p4), (5, .int p5), (6, .int p6), (7, .int v8), (8, .int v9), (9, .int v10)]) hx hb dX10_changes_78 hl (by decide) rfl (fun ls hl => ?_)
                  refine lv_iload_n (pc := 80) hx hb dX10_changes_80 rfl (lv_at hl 3 rfl) ?_
                  refine lv_iload (pc := 81) hx hb dX10_changes_81 (lv_at hl 5 rfl) ?_
                  refine lv_iload_n (pc := 83) hx hb dX10_changes_83 rfl (lv_at hl 3 rfl) ?_
                  refine lv_isub (pc := 84) hx hb dX10_changes_84 ?_
                  refine lv_iload (pc := 85) hx hb dX10_changes_85 (lv_at hl 10 rfl) ?_
                  refine lv_imul (pc := 87) hx hb dX10_changes_87 ?_
                  refine lv_iload (pc := 88) hx hb dX10_changes_88 (lv_at hl 6 rfl) ?_
                  obtain ⟨v14, hm90, hf⟩ := q_b1_e hf
                  refine q_cSr (pc := 90) (As := [.int ((p4 - p2) * v10), .int p5]) (rest := [.int p2]) (v0 := (some (.int v14))) ⟨hx, hb, hml, hown, hts⟩ hK hA hZ hP hD hS hl.1 [] 6 rfl ⟨rfl, rfl, rfl⟩ (c_JMath_floorDiv_7cf53 l D ci A sa N (Rw) ((p4 - p2) * v10) p5 v14 hm90) (va_cwS 2 hts gX10_changes_J9_floorDiv_7cf53 rfl rfl rfl (by decide +kernel) ⟨Nat.le_of_ble_eq_true rfl, Nat.le_of_ble_eq_true rfl⟩) rfl rfl (Nat.le_of_ble_eq_true rfl) dX10_changes_90 ⟨Nat.zero_le _, Nat.zero_le _⟩ (fun locs hS => ?_)
                  refine lv_iadd (pc := 93) hx hb dX10_changes_93 ?_
                  obtain ⟨v15, ev15, hf⟩ := q_nm_e hf
                  refine q_topi ev15 ?_
                  refine lv_istore (pc := 94) (lv' := [(11, .int v15), (10, .int v13), (0, .ref a_x), (1, .int p1), (2, .int p2), (3, .int p3), (4, .int p4), (5, .int p5), (6, .int p6), (7, .int v8), (8, .int v9), (9, .int v10)]) hx hb dX10_changes_94 hl (by decide) rfl (fun ls hl => ?_)
                  refine lv_aload_n (pc := 96) hx hb dX10_changes_96 rfl (lv_at hl 2 rfl) ?_
                  refine va_get (pc := 97) (D := D) (ci := 10) (v := .ref a_g) (C := RX10) (T := TX10) (N := 14) hx hb hts hinX10 hown hK hP 0 rfl rfl 1 (by decide) w_1 (fun _ h9 => h9) rfl dX10_changes_97 ?_
                  refine lv_iload (pc := 100) hx hb dX10_changes_100 (lv_at hl 8 rfl) ?_
                  refine lv_iload (pc := 102) hx hb dX10_changes_102 (lv_at hl 1 rfl) ?_
                  refine lv_iload (pc := 104) hx hb dX10_changes_104 (lv_at hl 0 rfl) ?_
                  obtain ⟨v16, hm106, hf⟩ := q_b1_e hf
                  refine q_cVr (pc := 106) (As := [.int p6, .int v13, .int v15]) (rest := []) (v0 := (some (.int v16))) ⟨hx, hb, hml, hown, hts⟩ hK hA hZ hP hD hS hl.1 [1, 2, 3, 4, 5] 6 rfl ⟨rfl, rfl, rfl⟩ (c_Grid_keyOf l D ci A sa N (Rw) a_g a_g_rowCuts a_g_columnCuts a_g_bandRows a_g_zoneColumns a_g_rows a_g_sheets g_bandRows g_zoneColumns g_rows g_sheets p6 v13 v15 v16 hm106) 1 rfl rfl (cwV 3 hts gX10_changes_X2_keyOf rfl rfl rfl (by decide +kernel) ⟨Nat.le_of_ble_eq_true rfl, Nat.le_of_ble_eq_true rfl⟩) rfl rfl (Nat.le_of_ble_eq_true rfl) dX10_changes_106 ⟨Nat.zero_le _, Nat.zero_le _⟩ (fun locs hS => ?_)
                  refine lv_istore (pc := 109) (lv' := [(12, .int v16), (11, .int v15), (10, .int v13), (0, .ref a_x), (1, .int p1), (2, .int p2), (3, .int p3), (4, .int p4), (5, .int p5), (6, .int p6), (7, .int v8), (8, .int v9), (9, .int v10)]) hx hb dX10_changes_109 hl (by decide) rfl (fun ls hl => ?_)
                  refine lv_iload (pc := 111) hx hb dX10_changes_111 (lv_at hl 0 rfl) ?_
                  refine lv_iload (pc := 113) hx hb dX10_changes_113 (lv_at hl 11 rfl) ?_
                  obtain ⟨k121, ek121, hf⟩ := q_j1_e hf
                  have J121 : ∀ (v17 : Int32) (H : Heap) (locs : List Loc) (ls : Array Slot), k121 v17 = some v11 → H = s.heap → va_S A s.heap H locs → lv_has ls 13 [(0, .ref a_x), (1, .int p1), (2, .int p2), (3, .int p3), (4, .int p4), (5, .int p5), (6, .int p6), (7, .int v17), (9, .int v10), (12, .int v16)] → W p l e ({ frames := 3, cells := 0, slots := 0, locals := 73 } : Room) s m ([.ref a_x, .int p1, .int p2, .int p3, .int p4, .int p5, .int p6] : List Value).toArray below meth c H locs 0 0 Q (F0 m 121 ls []) := by
                    intro v17 H locs ls hf hHs hS hl
                    subst hHs
                    have hf := (ek121 v17).symm.trans hf
                    refine lv_iload (pc := 121) hx hb dX10_changes_121 (lv_at hl 9 rfl) ?_
                    refine lv_istore (pc := 123) (lv' := [(8, .int v16), (0, .ref a_x), (1, .int p1), (2, .int p2), (3, .int p3), (4, .int p4), (5, .int p5), (6, .int p6), (7, .int v17), (9, .int v10), (12, .int v16)]) hx hb dX10_changes_123 hl (by decide) rfl (fun ls hl => ?_)
                    obtain ⟨v18, ev18, hf⟩ := q_nm_e hf
                    refine lv_iinc (pc := 125) (v := v18) (lv' := [(9, .int v18), (8, .int v16), (0, .ref a_x), (1, .int p1), (2, .int p2), (3, .int p3), (4, .int p4), (5, .int p5), (6, .int p6), (7, .int v17), (12, .int v16)]) hx hb dX10_changes_125 hl (k := 9) rfl (by rw [ev18]; rfl) (by decide) rfl (fun ls hl => ?_)
                    refine lv_goto (pc := 128) (tgt := 58) hx hb dX10_changes_128 (by decide) ?_
                    exact ih58 v17 v16 v18 _ _ _ hf rfl hS (lv_sub hl [2, 3, 4, 5, 6, 7, 8, 9, 1, 0] rfl)
                  refine q_icmp_eq (pc := 115) (tgt := 121) hx hb dX10_changes_115 (by decide) rfl hf (fun hf => ?_) (fun hf => ?_)
                  · exact J121 v8 _ _ _ hf rfl hS (lv_sub hl [3, 4, 5, 6, 7, 8, 9, 10, 12, 0] rfl)
                  · obtain ⟨v19, ev19, hf⟩ := q_nm_e hf
                    refine lv_iinc (pc := 118) (v := v19) (lv' := [(7, .int v19), (12, .int v16), (11, .int v15), (10, .int v13), (0, .ref a_x), (1, .int p1), (2, .int p2), (3, .int p3), (4, .int p4), (5, .int p5), (6, .int p6), (8, .int v9), (9, .int v10)]) hx hb dX10_changes_118 hl (k := 10) rfl (by rw [ev19]; rfl) (by decide) rfl (fun ls hl => ?_)
                    exact J121 v19 _ _ _ hf rfl hS (lv_sub hl [4, 5, 6, 7, 8, 9, 10, 0, 12, 1] rfl)
            exact LP58 N v5 v6 v7 _ _ _ hm58 rfl hS (lv_sub hl [3, 4, 5, 6, 7, 8, 9, 2, 1, 0] rfl)
          · refine lv_iconst (pc := 37) (v := (-1)) hx hb dX10_changes_37 (by decide) ?_
            obtain rfl := Option.some.inj hf
            rw [hQ]
            exact q_iretr (pc := 38) hx hb hr hlocks rfl hS dX10_changes_38
  exact hgo _ _ rfl hP hS
/-! X10_child -/
set_option maxRecDepth 100000 in
set_option maxHeartbeats 4000000 in
theorem c_X_child (l : Launch) (D : va_G) (ci : Nat → ClassId) (A : Nat → Prop) (sa : Nat → Nat) (N : Nat) (Rw : va_W) (a_x : Nat) (a_at : Nat) (a_g : Nat) (a_st : Nat) (a_x_kept : Nat) (a_tp : Nat) (a_rd : Nat) (a_qu : Nat) (a_sp : Nat) (a_wk : Nat) (a_bx : Nat) (a_nt : Nat) (a_nu : Nat) (a_x_seen : Nat) (a_sp_first : Nat) (a_sp_many : Nat) (a_sp_corner : Nat) (a_g_rowCuts : Nat) (a_g_columnCuts : Nat) (a_g_bandRows : Nat) (a_g_zoneColumns : Nat) (a_g_rows : Nat) (a_g_sheets : Nat) (x_keptStates : Int32) (sp_cornerCount : Int32) (sp_level : Int32) (sp_row : Int32) (sp_start : Int32) (sp_place : Int32) (sp_length : Int32) (sp_cap : Int32) (g_bandRows : Nat → Int32) (g_zoneColumns : Nat → Int32) (g_rows : Nat → Int32) (g_sheets : Nat → Int32) (p1 : Int32) (p2 : Int32) (p3 : Int32) (p4 : Int32) (r : Int32) (o1 : Int32) (o2 : Int32) (o3 : Int32) (o4 : Int32) (o5 : Int32) (o6 : Int32) (hf : f_X_child N sp_level sp_row sp_start sp_place sp_length sp_cap g_bandRows g_zoneColumns g_rows g_sheets p1 p2 p3 p4 = some (r, o1, o2, o3, o4, o5, o6)) : Met l yX10_child wsX10_child ({ frames := 3, cells := 0, slots := 0, locals := 71 }) (va_Pc [.ref a_x, .int p1, .int p2, .int p3, .int p4] (q_N D ci A sa ((a_x, .inr (10, [.ref a_at, .ref a_g, .ref a_st, .ref a_x_kept, .int x_keptStates, .ref a_tp, .ref a_rd, .ref a_qu, .ref a_sp, .ref a_wk, .ref a_bx, .ref a_nt, .ref a_nu, .ref a_x_seen])) :: (a_sp, .inr (6, [.ref a_g, .ref a_sp_first, .ref a_sp_many, .ref a_sp_corner, .int sp_cornerCount, .int sp_level, .int sp_row, .int sp_start, .int sp_place, .int sp_length, .int sp_cap])) :: (a_g, .inr (2, [.ref a_g_rowCuts, .ref a_g_columnCuts, .ref a_g_bandRows, .ref a_g_zoneColumns, .ref a_g_rows, .ref a_g_sheets])) :: (a_g_bandRows, .inl (ci 0, 5, .inl g_bandRows)) :: (a_g_zoneColumns, .inl (ci 0, 5, .inl g_zoneColumns)) :: (a_g_rows, .inl (ci 0, 5, .inl g_rows)) :: (a_g_sheets, .inl (ci 0, 5, .inl g_sheets)) :: Rw))) (q_Q (some (.int r)) (q_O D A ((a_x, .inr (10, [.ref a_at, .ref a_g, .ref a_st, .ref a_x_kept, .int x_keptStates, .ref a_tp, .ref a_rd, .ref a_qu, .ref a_sp, .ref a_wk, .ref a_bx, .ref a_nt, .ref a_nu, .ref a_x_seen])) :: (a_sp, .inr (6, [.ref a_g, .ref a_sp_first, .ref a_sp_many, .ref a_sp_corner, .int sp_cornerCount, .int o1, .int o2, .int o3, .int o4, .int o5, .int o6])) :: (a_g, .inr (2, [.ref a_g_rowCuts, .ref a_g_columnCuts, .ref a_g_bandRows, .ref a_g_zoneColumns, .ref a_g_rows, .ref a_g_sheets])) :: (a_g_bandRows, .inl (ci 0, 5, .inl g_bandRows)) :: (a_g_zoneColumns, .inl (ci 0, 5, .inl g_zoneColumns)) :: (a_g_rows, .inl (ci 0, 5, .inl g_rows)) :: (a_g_sheets, .inl (ci 0, 5, .inl g_sheets)) :: Rw)) A) 0 0 A := by
  refine q_ofW (cc := cX10_child) (maxL := 6) (ret := (some .int)) [.ref a_x, .int p1, .int p2, .int p3, .int p4] (plainFor_of_name (by decide)) rfl (Nat.le_of_ble_eq_true rfl) ?_
  intro p e s m below meth c ls Q hQ hx hb hml hr hts hown hlocks hK hA hZ hP hD hS hl
  have hl : lv_has ls 6 [(0, .ref a_x), (1, .int p1), (2, .int p2), (3, .int p3), (4, .int p4)] := hl
  have hown : s.vm.findClass RX10 = some m.cls := hown
  have hinX10 : ∀ w ∈ wsX100, w ∈ wsX10_child := fun _ h => List.mem_cons_of_mem _ (inWX100 _ h)
  have w_1 := hts (Cond.fieldLink RX10 20 "SheetNames" "grid" "LSheetNames$Grid;") (List.mem_cons_of_mem _ t_w876)
  have w_2 := hts (Cond.fieldLink RX10 66 "SheetNames" "spot" "LSheetNames$Spot;") (List.mem_cons_of_mem _ t_w877)
  unfold f_X_child at hf
  have hgo : ∀ (H : Heap) (locs : List Loc), H = s.heap → va_P D vwCl ((a_x, .inr (10, [.ref a_at, .ref a_g, .ref a_st, .ref a_x_kept, .int x_keptStates, .ref a_tp, .ref a_rd, .ref a_qu, .ref a_sp, .ref a_wk, .ref a_bx, .ref a_nt, .ref a_nu, .ref a_x_seen])) :: (a_sp, .inr (6, [.ref a_g, .ref a_sp_first, .ref a_sp_many, .ref a_sp_corner, .int sp_cornerCount, .int sp_level, .int sp_row, .int sp_start, .int sp_place, .int sp_length, .int sp_cap])) :: (a_g, .inr (2, [.ref a_g_rowCuts, .ref a_g_columnCuts, .ref a_g_bandRows, .ref a_g_zoneColumns, .ref a_g_rows, .ref a_g_sheets])) :: (a_g_bandRows, .inl (ci 0, 5, .inl g_bandRows)) :: (a_g_zoneColumns, .inl (ci 0, 5, .inl g_zoneColumns)) :: (a_g_rows, .inl (ci 0, 5, .inl g_rows)) :: (a_g_sheets, .inl (ci 0, 5, .inl g_sheets)) :: Rw) H → va_S A s.heap H locs → W p l e ({ frames := 3, cells := 0, slots := 0, locals := 71 } : Room) s m ([.ref a_x, .int p1, .int p2, .int p3, .int p4] : List Value).toArray below meth c H locs 0 0 Q (F0 m 0 ls []) := by
    intro H locs hH hP hS
    refine lv_aload_n (pc := 0) hx hb dX10_child_0 rfl (lv_at hl 0 rfl) ?_
    refine va_get (pc := 1) (D := D) (ci := 10) (v := .ref a_g) (C := RX10) (T := TX10) (N := 14) hx hb hts hinX10 hown hK hP 0 rfl rfl 1 (by decide) w_1 (fun _ h9 => h9) rfl dX10_child_1 ?_
    refine lv_iload_n (pc := 4) hx hb dX10_child_4 rfl (lv_at hl 1 rfl) ?_
    refine lv_iload_n (pc := 5) hx hb dX10_child_5 rfl (lv_at hl 2 rfl) ?_
    obtain ⟨v1, hm6, hf⟩ := q_b1_e hf
    refine q_cVr (pc := 6) (As := [.int p1, .int p2]) (rest := []) (v0 := (some (.int v1))) ⟨hx, hb, hml, hown, hts⟩ hK hA hZ hP hD hS hl.1 [2, 6] 7 rfl ⟨rfl, rfl, rfl⟩ (c_Grid_hasSheet l D ci A sa N (Rw) a_g a_g_rowCuts a_g_columnCuts a_g_bandRows a_g_zoneColumns a_g_rows a_g_sheets g_sheets p1 p2 v1 hm6) 2 rfl rfl (cwV 2 hts gX10_child_X2_hasSheet rfl rfl rfl (by decide +kernel) ⟨Nat.le_of_ble_eq_true rfl, Nat.le_of_ble_eq_true rfl⟩) rfl rfl (Nat.le_of_ble_eq_true rfl) dX10_child_6 ⟨Nat.zero_le _, Nat.zero_le _⟩ (fun locs hS => ?_)
    refine q_if_eq (pc := 9) (tgt := 27) hx hb dX10_child_9 (by decide) rfl hf (fun hf => ?_) (fun hf => ?_)
    · refine lv_iconst (pc := 27) (v := (-1)) hx hb dX10_child_27 (by decide) ?_
      obtain ⟨e90, e91, e92, e93, e94, e95, e96⟩ := q_inj7 (Option.some.inj hf)
      rw [hQ, ← e90, ← e91, ← e92, ← e93, ← e94, ← e95, ← e96]
      exact q_iret (pc := 28) hx hb hr hlocks hP hD hS dX10_child_28
    · refine lv_iload_n (pc := 12) hx hb dX10_child_12 rfl (lv_at hl 3 rfl) ?_
      refine lv_iload_n (pc := 13) hx hb dX10_child_13 rfl (lv_at hl 1 rfl) ?_
      refine lv_iconst (pc := 14) (v := 4) hx hb dX10_child_14 (by decide) ?_
      obtain ⟨v2, hm15, hf⟩ := q_b1_e hf
      refine q_cSr (pc := 15) (As := [.int p3, .int p1, .int 4]) (rest := []) (v0 := (some (.int v2))) ⟨hx, hb, hml, hown, hts⟩ hK hA hZ hP hD hS hl.1 [] 7 rfl ⟨rfl, rfl, rfl⟩ (c_X_isFrom l D ci A sa N (Rw) p3 p1 4 v2 hm15) (va_cwS 3 hts gX10_child_X10_isFrom rfl rfl rfl (by decide +kernel) ⟨Nat.le_of_ble_eq_true rfl, Nat.le_of_ble_eq_true rfl⟩) rfl rfl (Nat.le_of_ble_eq_true rfl) dX10_child_15 ⟨Nat.zero_le _, Nat.zero_le _⟩ (fun locs hS => ?_)
      refine q_if_eq (pc := 18) (tgt := 27) hx hb dX10_child_18 (by decide) rfl hf (fun hf => ?_) (fun hf => ?_)
      · refine lv_iconst (pc := 27) (v := (-1)) hx hb dX10_child_27 (by decide) ?_
        obtain ⟨e90, e91, e92, e93, e94, e95, e96⟩ := q_inj7 (Option.some.inj hf)
        rw [hQ, ← e90, ← e91, ← e92, ← e93, ← e94, ← e95, ← e96]
        exact q_iret (pc := 28) hx hb hr hlocks hP hD hS dX10_child_28
      · refine lv_iload (pc := 21) hx hb dX10_child_21 (lv_at hl 4 rfl) ?_
        refine lv_iconst (pc := 23) (v := (-1)) hx hb dX10_child_23 (by decide) ?_
        refine q_icmp_ge (pc := 24) (tgt := 29) hx hb dX10_child_24 (by decide) rfl hf (fun hf => ?_) (fun hf => ?_)
        · refine lv_aload_n (pc := 29) hx hb dX10_child_29 rfl (lv_at hl 0 rfl) ?_
          refine va_get (pc := 30) (D := D) (ci := 10) (v := .ref a_sp) (C := RX10) (T := TX10) (N := 14) hx hb hts hinX10 hown hK hP 0 rfl rfl 8 (by decide) w_2 (fun _ h9 => h9) rfl dX10_child_30 ?_
          refine lv_iload_n (pc := 33) hx hb dX10_child_33 rfl (lv_at hl 1 rfl) ?_
          refine lv_iload_n (pc := 34) hx hb dX10_child_34 rfl (lv_at hl 2 rfl) ?_
          obtain ⟨v3, v4, v5, v6, v7, v8, hm35, hf⟩ := q_b6_e hf
          refine q_cV (pc := 35) (As := [.int p1, .int p2]) (rest := []) (v0 := none) ⟨hx, hb, hml, hown, hts⟩ hK hA hZ hP hD hS hl.1 [1, 2, 3, 4, 5, 6, 0] 7 rfl ⟨rfl, rfl, rfl⟩ (c_Spot_put l D ci A sa N ((a_x, .inr (10, [.ref a_at, .ref a_g, .ref a_st, .ref a_x_kept, .int x_keptStates, .ref a_tp, .ref a_rd, .ref a_qu, .ref a_sp, .ref a_wk, .ref a_bx, .ref a_nt, .ref a_nu, .ref a_x_seen])) :: Rw) a_sp a_g a_sp_first a_sp_many a_sp_corner a_g_rowCuts a_g_columnCuts a_g_bandRows a_g_zoneColumns a_g_rows a_g_sheets sp_cornerCount sp_level sp_row sp_start sp_place sp_length sp_cap g_bandRows g_zoneColumns g_rows g_sheets p1 p2 v3 v4 v5 v6 v7 v8 hm35) 1 rfl rfl (cwV 2 hts gX10_child_X6_put rfl rfl rfl (by decide +kernel) ⟨Nat.le_of_ble_eq_true rfl, Nat.le_of_ble_eq_true rfl⟩) rfl rfl (Nat.le_of_ble_eq_true rfl) dX10_child_35 ⟨Nat.zero_le _, Nat.zero_le _⟩ [6, 0, 1, 2, 3, 4, 5] 7 rfl ⟨rfl, rfl, rfl⟩ (fun H locs hP hD hS => ?_)
          obtain ⟨hP, hD⟩ : va_PD D A ((a_x, .inr (10, [.ref a_at, .ref a_g, .ref a_st, .ref a_x_kept, .int x_keptStates, .ref a_tp, .ref a_rd, .ref a_qu, .ref a_sp, .ref a_wk, .ref a_bx, .ref a_nt, .ref a_nu, .ref a_x_seen])) :: (a_sp, .inr (6, [.ref a_g, .ref a_sp_first, .ref a_sp_many, .ref a_sp_corner, .int sp_cornerCount, .int v3, .int v4, .int v5, .int v6, .int v7, .int v8])) :: (a_g, .inr (2, [.ref a_g_rowCuts, .ref a_g_columnCuts, .ref a_g_bandRows, .ref a_g_zoneColumns, .ref a_g_rows, .ref a_g_sheets])) :: (a_g_bandRows, .inl (ci 0, 5, .inl g_bandRows)) :: (a_g_zoneColumns, .inl (ci 0, 5, .inl g_zoneColumns)) :: (a_g_rows, .inl (ci 0, 5, .inl g_rows)) :: (a_g_sheets, .inl (ci 0, 5, .inl g_sheets)) :: Rw) H := ⟨hP, hD⟩
          refine lv_aload_n (pc := 38) hx hb dX10_child_38 rfl (lv_at hl 0 rfl) ?_
          refine va_get (pc := 39) (D := D) (ci := 10) (v := .ref a_sp) (C := RX10) (T := TX10) (N := 14) hx hb hts hinX10 hown hK hP 0 rfl rfl 8 (by decide) w_2 (fun _ h9 => h9) rfl dX10_child_39 ?_
          refine lv_iload_n (pc := 42) hx hb dX10_child_42 rfl (lv_at hl 3 rfl) ?_
          obtain ⟨v9, hm43, hf⟩ := q_b1_e hf
          refine q_cVr (pc := 43) (As := [.int p3]) (rest := []) (v0 := (some (.int v9))) ⟨hx, hb, hml, hown, hts⟩ hK hA hZ hP hD hS hl.1 [1, 2, 3, 4] 7 rfl ⟨rfl, rfl, rfl⟩ (c_Spot_piecesAt l D ci A sa N (Rw) a_sp a_g a_sp_first a_sp_many a_sp_corner a_g_rowCuts a_g_columnCuts a_g_bandRows a_g_zoneColumns a_g_rows a_g_sheets sp_cornerCount v3 v4 v5 v6 v7 v8 g_bandRows g_zoneColumns p3 v9 hm43) 1 rfl rfl (cwV 1 hts gX10_child_X6_piecesAt rfl rfl rfl (by decide +kernel) ⟨Nat.le_of_ble_eq_true rfl, Nat.le_of_ble_eq_true rfl⟩) rfl rfl (Nat.le_of_ble_eq_true rfl) dX10_child_43 ⟨Nat.zero_le _, Nat.zero_le _⟩ (fun locs hS => ?_)
          refine lv_istore (pc := 46) (lv' := [(5, .int v9), (0, .ref a_x), (1, .int p1), (2, .int p2), (3, .int p3), (4, .int p4)]) hx hb dX10_child_46 hl (by decide) rfl (fun ls hl => ?_)
          refine lv_iload (pc := 48) hx hb dX10_child_48 (lv_at hl 5 rfl) ?_
          refine lv_iconst (pc := 50) (v := (-1)) hx hb dX10_child_50 (by decide) ?_
          refine q_icmp_ne (pc := 51) (tgt := 57) hx hb dX10_child_51 (by decide) rfl hf (fun hf => ?_) (fun hf => ?_)
          · refine lv_iload (pc := 57) hx hb dX10_child_57 (lv_at hl 5 rfl) ?_
            refine lv_iload (pc := 59) hx hb dX10_child_59 (lv_at hl 0 rfl) ?_
            refine q_icmp_ge (pc := 61) (tgt := 77) hx hb dX10_child_61 (by decide) rfl hf (fun hf => ?_) (fun hf => ?_)
            · refine lv_bipush (pc := 77) (v := (-2)) hx hb dX10_child_77 (by decide) ?_
              obtain ⟨e90, e91, e92, e93, e94, e95, e96⟩ := q_inj7 (Option.some.inj hf)
              rw [hQ, ← e90, ← e91, ← e92, ← e93, ← e94, ← e95, ← e96]
              exact q_iret (pc := 79) hx hb hr hlocks hP hD hS dX10_child_79
            · refine lv_aload_n (pc := 64) hx hb dX10_child_64 rfl (lv_at hl 1 rfl) ?_
              refine va_get (pc := 65) (D := D) (ci := 10) (v := .ref a_sp) (C := RX10) (T := TX10) (N := 14) hx hb hts hinX10 hown hK hP 0 rfl rfl 8 (by decide) w_2 (fun _ h9 => h9) rfl dX10_child_65 ?_
              refine lv_iload_n (pc := 68) hx hb dX10_child_68 rfl (lv_at hl 4 rfl) ?_
              refine lv_iload (pc := 69) hx hb dX10_child_69 (lv_at hl 5 rfl) ?_
              obtain ⟨v10, hm71, hf⟩ := q_b1_e hf
              refine q_cVr (pc := 71) (As := [.int p3, .int p4]) (rest := []) (v0 := (some (.int v10))) ⟨hx, hb, hml, hown, hts⟩ hK hA hZ hP hD hS hl.1 [1, 2, 3, 4, 5, 6] 7 rfl ⟨rfl, rfl, rfl⟩ (c_Spot_pieceAt l D ci A sa N (Rw) a_sp a_g a_sp_first a_sp_many a_sp_corner a_g_rowCuts a_g_columnCuts a_g_bandRows a_g_zoneColumns a_g_rows a_g_sheets sp_cornerCount v3 v4 v5 v6 v7 v8 g_bandRows g_zoneColumns g_rows g_sheets p3 p4 v10 hm71) 1 rfl rfl (cwV 2 hts gX10_child_X6_pieceAt rfl rfl rfl (by decide +kernel) ⟨Nat.le_of_ble_eq_true rfl, Nat.le_of_ble_eq_true rfl⟩) rfl rfl (Nat.le_of_ble_eq_true rfl) dX10_child_71 ⟨Nat.zero_le _, Nat.zero_le _⟩ (fun locs hS => ?_)
              refine lv_goto (pc := 74) (tgt := 79) hx hb dX10_child_74 (by decide) ?_
              obtain ⟨e90, e91, e92, e93, e94, e95, e96⟩ := q_inj7 (Option.some.inj hf)
              rw [hQ, ← e90, ← e91, ← e92, ← e93, ← e94, ← e95, ← e96]
              exact q_iret (pc := 79) hx hb hr hlocks hP hD hS dX10_child_79
          · refine lv_iload (pc := 54) hx hb dX10_child_54 (lv_at hl 0 rfl) ?_
            obtain ⟨e90, e91, e92, e93, e94, e95, e96⟩ := q_inj7 (Option.some.inj hf)
            rw [hQ, ← e90, ← e91, ← e92, ← e93, ← e94, ← e95, ← e96]
            exact q_iret (pc := 56) hx hb hr hlocks hP hD hS dX10_child_56
        · refine lv_iconst (pc := 27) (v := (-1)) hx hb dX10_child_27 (by decide) ?_
          obtain ⟨e90, e91, e92, e93, e94, e95, e96⟩ := q_inj7 (Option.some.inj hf)
          rw [hQ, ← e90, ← e91, ← e92, ← e93, ← e94, ← e95, ← e96]
          exact q_iret (pc := 28) hx hb hr hlocks hP hD hS dX10_child_28
  exact hgo _ _ rfl hP hS
/-! X10_common -/
set_option maxRecDepth 100000 in
set_option maxHeartbeats 4000000 in
theorem c_X_common (l : Launch) (D : va_G) (ci : Nat → ClassId) (A : Nat → Prop) (sa : Nat → Nat) (N : Nat) (Rw : va_W) (a_x : Nat) (a_at : Nat) (a_g : Nat) (a_st : Nat) (a_x_kept : Nat) (a_tp : Nat) (a_rd : Nat) (a_qu : Nat) (a_sp : Nat) (a_wk : Nat) (a_bx : Nat) (a_nt : Nat) (a_nu : Nat) (a_x_seen : Nat) (a_g_rowCuts : Nat) (a_g_columnCuts : Nat) (a_g_bandRows : Nat) (a_g_zoneColumns : Nat) (a_g_rows : Nat) (a_g_sheets : Nat) (x_keptStates : Int32) (g_bandRows : Nat → Int32) (g_zoneColumns : Nat → Int32) (g_rows : Nat → Int32) (g_sheets : Nat → Int32) (p1 : Int32) (p2 : Int32) (p3 : Int32) (p4 : Int32) (r : Int32) (hf : f_X_common N g_bandRows g_zoneColumns g_rows g_sheets p1 p2 p3 p4 = some r) : Met l yX10_common wsX10_common ({ frames := 3, cells := 0, slots := 0, locals := 73 }) (va_Pc [.ref a_x, .int p1, .int p2, .int p3, .int p4] (q_N D ci A sa ((a_x, .inr (10, [.ref a_at, .ref a_g, .ref a_st, .ref a_x_kept, .int x_keptStates, .ref a_tp, .ref a_rd, .ref a_qu, .ref a_sp, .ref a_wk, .ref a_bx, .ref a_nt, .ref a_nu, .ref a_x_seen])) :: (a_g, .inr (2, [.ref a_g_rowCuts, .ref a_g_columnCuts, .ref a_g_bandRows, .ref a_g_zoneColumns, .ref a_g_rows, .ref a_g_sheets])) :: (a_g_bandRows, .inl (ci 0, 5, .inl g_bandRows)) :: (a_g_zoneColumns, .inl (ci 0, 5, .inl g_zoneColumns)) :: (a_g_rows, .inl (ci 0, 5, .inl g_rows)) :: (a_g_sheets, .inl (ci 0, 5, .inl g_sheets)) :: Rw))) (q_R (some (.int r))) 0 0 A := by
  refine q_ofW (cc := cX10_common) (maxL := 6) (ret := (some .int)) [.ref a_x, .int p1, .int p2, .int p3, .int p4] (plainFor_of_name (by decide)) rfl (Nat.le_of_ble_eq_true rfl) ?_
  intro p e s m below meth c ls Q hQ hx hb hml hr hts hown hlocks hK hA hZ hP hD hS hl
  have hl : lv_has ls 6 [(0, .ref a_x), (1, .int p1), (2, .int p2), (3, .int p3), (4, .int p4)] := hl
  have hown : s.vm.findClass RX10 = some m.cls := hown
  have hinX10 : ∀ w ∈ wsX100, w ∈ wsX10_common := fun _ h => List.mem_cons_of_mem _ (inWX100 _ h)
  have w_1 := hts (Cond.fieldLink RX10 20 "SheetNames" "grid" "LSheetNames$Grid;") (List.mem_cons_of_mem _ t_w876)
  unfold f_X_common at hf
  have hgo : ∀ (H : Heap) (locs : List Loc), H = s.heap → va_P D vwCl ((a_x, .inr (10, [.ref a_at, .ref a_g, .ref a_st, .ref a_x_kept, .int x_keptStates, .ref a_tp, .ref a_rd, .ref a_qu, .ref a_sp, .ref a_wk, .ref a_bx, .ref a_nt, .ref a_nu, .ref a_x_seen])) :: (a_g, .inr (2, [.ref a_g_rowCuts, .ref a_g_columnCuts, .ref a_g_bandRows, .ref a_g_zoneColumns, .ref a_g_rows, .ref a_g_sheets])) :: (a_g_bandRows, .inl (ci 0, 5, .inl g_bandRows)) :: (a_g_zoneColumns, .inl (ci 0, 5, .inl g_zoneColumns)) :: (a_g_rows, .inl (ci 0, 5, .inl g_rows)) :: (a_g_sheets, .inl (ci 0, 5, .inl g_sheets)) :: Rw) H → va_S A s.heap H locs → W p l e ({ frames := 3, cells := 0, slots := 0, locals := 73 } : Room) s m ([.ref a_x, .int p1, .int p2, .int p3, .int p4] : List Value).toArray below meth c H locs 0 0 Q (F0 m 0 ls []) := by
    intro H locs hH hP hS
    subst hH
    refine lv_iload_n (pc := 0) hx hb dX10_common_0 rfl (lv_at hl 1 rfl) ?_
    refine lv_iload_n (pc := 1) hx hb dX10_common_1 rfl (lv_at hl 2 rfl) ?_
    obtain ⟨v1, hm2, hf⟩ := q_b1_e hf
    refine q_cSr (pc := 2) (As := [.int p1, .int p2]) (rest := []) (v0 := (some (.int v1))) ⟨hx, hb, hml, hown, hts⟩ hK hA hZ hP hD hS hl.1 [] 6 rfl ⟨rfl, rfl, rfl⟩ (c_X_isPlace l D ci A sa N (Rw) p1 p2 v1 hm2) (va_cwS 2 hts gX10_common_X10_isPlace rfl rfl rfl (by decide +kernel) ⟨Nat.le_of_ble_eq_true rfl, Nat.le_of_ble_eq_true rfl⟩) rfl rfl (Nat.le_of_ble_eq_true rfl) dX10_common_2 ⟨Nat.zero_le _, Nat.zero_le _⟩ (fun locs hS => ?_)
    refine q_if_eq (pc := 5) (tgt := 17) hx hb dX10_common_5 (by decide) rfl hf (fun hf => ?_) (fun hf => ?_)
    · refine lv_iconst (pc := 17) (v := (-1)) hx hb dX10_common_17 (by decide) ?_
      obtain rfl := Option.some.inj hf
      rw [hQ]
      exact q_iretr (pc := 18) hx hb hr hlocks rfl hS dX10_common_18
    · refine lv_iload_n (pc := 8) hx hb dX10_common_8 rfl (lv_at hl 3 rfl) ?_
      refine lv_iload (pc := 9) hx hb dX10_common_9 (lv_at hl 4 rfl) ?_
      obtain ⟨v2, hm11, hf⟩ := q_b1_e hf
      refine q_cSr (pc := 11) (As := [.int p3, .int p4]) (rest := []) (v0 := (some (.int v2))) ⟨hx, hb, hml, hown, hts⟩ hK hA hZ hP hD hS hl.1 [] 6 rfl ⟨rfl, rfl, rfl⟩ (c_X_isPlace l D ci A sa N (Rw) p3 p4 v2 hm11) (va_cwS 2 hts gX10_common_X10_isPlace rfl rfl rfl (by decide +kernel) ⟨Nat.le_of_ble_eq_true rfl, Nat.le_of_ble_eq_true rfl⟩) rfl rfl (Nat.le_of_ble_eq_true rfl) dX10_common_11 ⟨Nat.zero_le _, Nat.zero_le _⟩ (fun locs hS => ?_)
      refine q_if_ne (pc := 14) (tgt := 19) hx hb dX10_common_14 (by decide) rfl hf (fun hf => ?_) (fun hf => ?_)
      · refine lv_iconst (pc := 19) (v := 4) hx hb dX10_common_19 (by decide) ?_
        obtain ⟨v3, ev3, hf⟩ := q_nm_e hf
        refine q_topi ev3 ?_
        refine lv_istore (pc := 20) (lv' := [(5, .int v3), (0, .ref a_x), (1, .int p1), (2, .int p2), (3, .int p3), (4, .int p4)]) hx hb dX10_common_20 hl (by decide) rfl (fun ls hl => ?_)
        obtain ⟨k22, o22_, ek22, hm22, hk22⟩ := q_s0_k hf
        have JE22 : ∀  (H : Heap) (locs : List Loc) (ls : Array Slot), k22 = some r → H = s.heap → va_S A s.heap H locs → lv_has ls 6 [] → W p l e ({ frames := 3, cells := 0, slots := 0, locals := 73 } : Room) s m ([.ref a_x, .int p1, .int p2, .int p3, .int p4] : List Value).toArray below meth c H locs 0 0 Q (F0 m 62 ls []) := by
          intro  H locs ls hf hHs hS hl
          subst hHs
          have hf := (ek22).symm.trans hf
          refine lv_bipush (pc := 62) (v := (-2)) hx hb dX10_common_62 (by decide) ?_
          obtain rfl := Option.some.inj hf
          rw [hQ]
          exact q_iretr (pc := 64) hx hb hr hlocks rfl hS dX10_common_64
        have LP22 : ∀ (n22 : Nat) (v4 : Int32) (H : Heap) (locs : List Loc) (ls : Array Slot), f_X_common_L22 g_bandRows g_rows g_sheets g_zoneColumns p1 p2 p3 p4 n22 v4 = some o22_ → H = s.heap → va_S A s.heap H locs → lv_has ls 6 [(0, .ref a_x), (1, .int p1), (2, .int p2), (3, .int p3), (4, .int p4), (5, .int v4)] → W p l e ({ frames := 3, cells := 0, slots := 0, locals := 73 } : Room) s m ([.ref a_x, .int p1, .int p2, .int p3, .int p4] : List Value).toArray below meth c H locs 0 0 Q (F0 m 22 ls []) := by
          intro n22
          induction n22 with
          | zero => intro v4 H locs ls hf; rw [f_X_common_L22] at hf; cases hf
          | succ n22 ih22 =>
            intro v4 H locs ls hf hHs hS hl
            subst hHs
            rw [f_X_common_L22] at hf
            refine lv_iload (pc := 22) hx hb dX10_common_22 (lv_at hl 5 rfl) ?_
            refine q_if_lt (pc := 24) (tgt := 62) hx hb dX10_common_24 (by decide) rfl hf (fun hf => ?_) (fun hf => ?_)
            · obtain rfl := Option.some.inj hf
              exact JE22  _ _ _ hk22 rfl hS (lv_sub hl [] rfl)
            · refine lv_aload_n (pc := 27) hx hb dX10_common_27 rfl (lv_at hl 0 rfl) ?_
              refine va_get (pc := 28) (D := D) (ci := 10) (v := .ref a_g) (C := RX10) (T := TX10) (N := 14) hx hb hts hinX10 hown hK hP 0 rfl rfl 1 (by decide) w_1 (fun _ h9 => h9) rfl dX10_common_28 ?_
              refine lv_iload (pc := 31) hx hb dX10_common_31 (lv_at hl 5 rfl) ?_
              refine lv_iload_n (pc := 33) hx hb dX10_common_33 rfl (lv_at hl 1 rfl) ?_
              refine lv_iload_n (pc := 34) hx hb dX10_common_34 rfl (lv_at hl 2 rfl) ?_
              obtain ⟨v5, hm35, hf⟩ := q_b1_e hf
              refine q_cVr (pc := 35) (As := [.int v4, .int p1, .int p2]) (rest := []) (v0 := (some (.int v5))) ⟨hx, hb, hml, hown, hts⟩ hK hA hZ hP hD hS hl.1 [1, 2, 3, 4, 5] 6 rfl ⟨rfl, rfl, rfl⟩ (c_Grid_keyOf l D ci A sa N (Rw) a_g a_g_rowCuts a_g_columnCuts a_g_bandRows a_g_zoneColumns a_g_rows a_g_sheets g_bandRows g_zoneColumns g_rows g_sheets v4 p1 p2 v5 hm35) 1 rfl rfl (cwV 3 hts gX10_common_X2_keyOf rfl rfl rfl (by decide +kernel) ⟨Nat.le_of_ble_eq_true rfl, Nat.le_of_ble_eq_true rfl⟩) rfl rfl (Nat.le_of_ble_eq_true rfl) dX10_common_35 ⟨Nat.zero_le _, Nat.zero_le _⟩ (fun locs hS => ?_)
              refine lv_aload_n (pc := 38) hx hb dX10_common_38 rfl (lv_at hl 0 rfl) ?_
              refine va_get (pc := 39) (D := D) (ci := 10) (v := .ref a_g) (C := RX10) (T := TX10) (N := 14) hx hb hts hinX10 hown hK hP 0 rfl rfl 1 (by decide) w_1 (fun _ h9 => h9) rfl dX10_common_39 ?_
              refine lv_iload (pc := 42) hx hb dX10_common_42 (lv_at hl 5 rfl) ?_
              refine lv_iload_n (pc := 44) hx hb dX10_common_44 rfl (lv_at hl 3 rfl) ?_
              refine lv_iload (pc := 45) hx hb dX10_common_45 (lv_at hl 4 rfl) ?_
              obtain ⟨v6, hm47, hf⟩ := q_b1_e hf
              refine q_cVr (pc := 47) (As := [.int v4, .int p3, .int p4]) (rest := [.int v5]) (v0 := (some (.int v6))) ⟨hx, hb, hml, hown, hts⟩ hK hA hZ hP hD hS hl.1 [1, 2, 3, 4, 5] 6 rfl ⟨rfl, rfl, rfl⟩ (c_Grid_keyOf l D ci A sa N (Rw) a_g a_g_rowCuts a_g_columnCuts a_g_bandRows a_g_zoneColumns a_g_rows a_g_sheets g_bandRows g_zoneColumns g_rows g_sheets v4 p3 p4 v6 hm47) 1 rfl rfl (cwV 3 hts gX10_common_X2_keyOf rfl rfl rfl (by decide +kernel) ⟨Nat.le_of_ble_eq_true rfl, Nat.le_of_ble_eq_true rfl⟩) rfl rfl (Nat.le_of_ble_eq_true rfl) dX10_common_47 ⟨Nat.zero_le _, Nat.zero_le _⟩ (fun locs hS => ?_)
              refine q_icmp_ne (pc := 50) (tgt := 56) hx hb dX10_common_50 (by decide) rfl hf (fun hf => ?_) (fun hf => ?_)
              · obtain ⟨v7, ev7, hf⟩ := q_nm_e hf
                refine lv_iinc (pc := 56) (v := v7) (lv' := [(5, .int v7), (0, .ref a_x), (1, .int p1), (2, .int p2), (3, .int p3), (4, .int p4)]) hx hb dX10_common_56 hl (k := 5) rfl (by rw [ev7]; rfl) (by decide) rfl (fun ls hl => ?_)
                refine lv_goto (pc := 59) (tgt := 22) hx hb dX10_common_59 (by decide) ?_
                exact ih22 v7 _ _ _ hf rfl hS (lv_sub hl [1, 2, 3, 4, 5, 0] rfl)
              · refine lv_iload (pc := 53) hx hb dX10_common_53 (lv_at hl 5 rfl) ?_
                obtain rfl := Option.some.inj hf
                have hk22 : (v4 : Int32) = r := hk22
                obtain rfl := hk22
                rw [hQ]
                exact q_iretr (pc := 55) hx hb hr hlocks rfl hS dX10_common_55
        exact LP22 N v3 _ _ _ hm22 rfl hS (lv_sub hl [1, 2, 3, 4, 5, 0] rfl)
      · refine lv_iconst (pc := 17) (v := (-1)) hx hb dX10_common_17 (by decide) ?_
        obtain rfl := Option.some.inj hf
        rw [hQ]
        exact q_iretr (pc := 18) hx hb hr hlocks rfl hS dX10_common_18
  exact hgo _ _ rfl hP hS
/-! X10_commonDivisor -/
set_option maxRecDepth 100000 in
set_option maxHeartbeats 4000000 in
theorem c_X_commonDivisor (l : Launch) (D : va_G) (ci : Nat → ClassId) (A : Nat → Prop) (sa : Nat → Nat) (N : Nat) (Rw : va_W) (p1 : Int64) (p2 : Int64) (r : Int64) (hf : f_X_commonDivisor N p1 p2 = some r) : Met l yX10_commonDivisor wsX10_commonDivisor ({ frames := 0, cells := 0, slots := 0, locals := 0 }) (va_Pc [.long p1, .long p2] (q_N D ci A sa (Rw))) (q_R (some (.long r))) 0 0 A := by
  refine q_ofW (cc := cX10_commonDivisor) (maxL := 11) (ret := (some .long)) [.long p1, .long p2] (plainFor_of_name (by decide)) rfl (Nat.le_of_ble_eq_true rfl) ?_
  intro p e s m below meth c ls Q hQ hx hb hml hr hts hown hlocks hK hA hZ hP hD hS hl
  have hl : lv_has ls 11 [(0, .long p1), (2, .long p2)] := hl
  have hown : s.vm.findClass RX10 = some m.cls := hown
  unfold f_X_commonDivisor at hf
  have hgo : ∀ (H : Heap) (locs : List Loc), H = s.heap → va_P D vwCl (Rw) H → va_S A s.heap H locs → W p l e ({ frames := 0, cells := 0, slots := 0, locals := 0 } : Room) s m ([.long p1, .long p2] : List Value).toArray below meth c H locs 0 0 Q (F0 m 0 ls []) := by
    intro H locs hH hP hS
    subst hH
    refine lv_lload_n (pc := 0) hx hb dX10_commonDivisor_0 rfl (lv_at hl 0 rfl) ?_
    refine lv_lstore (pc := 1) (lv' := [(4, .long p1), (0, .long p1), (2, .long p2)]) hx hb dX10_commonDivisor_1 hl (by decide) rfl (fun ls hl => ?_)
    refine lv_lload_n (pc := 3) hx hb dX10_commonDivisor_3 rfl (lv_at hl 2 rfl) ?_
    refine lv_lstore (pc := 4) (lv' := [(6, .long p2), (4, .long p1), (0, .long p1), (2, .long p2)]) hx hb dX10_commonDivisor_4 hl (by decide) rfl (fun ls hl => ?_)
    refine lv_iconst (pc := 6) (v := 0) hx hb dX10_commonDivisor_6 (by decide) ?_
    obtain ⟨v1, ev1, hf⟩ := q_nm_e hf
    refine q_topi ev1 ?_
    refine lv_istore (pc := 7) (lv' := [(8, .int v1), (6, .long p2), (4, .long p1), (0, .long p1), (2, .long p2)]) hx hb dX10_commonDivisor_7 hl (by decide) rfl (fun ls hl => ?_)
    obtain ⟨v5, hm9, hf⟩ := q_b1_e hf
    have JE9 : ∀ (H : Heap) (locs : List Loc) (ls : Array Slot), H = s.heap → va_S A s.heap H locs → lv_has ls 11 [(4, .long v5)] → W p l e ({ frames := 0, cells := 0, slots := 0, locals := 0 } : Room) s m ([.long p1, .long p2] : List Value).toArray below meth c H locs 0 0 Q (F0 m 45 ls []) := by
      intro H locs ls hHs hS hl
      subst hHs
      refine lv_lload (pc := 45) hx hb dX10_commonDivisor_45 (lv_at hl 0 rfl) ?_
      obtain rfl := Option.some.inj hf
      rw [hQ]
      exact q_lretr (pc := 47) hx hb hr hlocks rfl hS dX10_commonDivisor_47
    have LP9 : ∀ (n9 : Nat) (v2 : Int64) (v3 : Int64) (v4 : Int32) (H : Heap) (locs : List Loc) (ls : Array Slot), f_X_commonDivisor_L9 n9 v2 v3 v4 = some v5 → H = s.heap → va_S A s.heap H locs → lv_has ls 11 [(4, .long v2), (6, .long v3), (8, .int v4)] → W p l e ({ frames := 0, cells := 0, slots := 0, locals := 0 } : Room) s m ([.long p1, .long p2] : List Value).toArray below meth c H locs 0 0 Q (F0 m 9 ls []) := by
      intro n9
      induction n9 with
      | zero => intro v2 v3 v4 H locs ls hf; rw [f_X_commonDivisor_L9] at hf; cases hf
      | succ n9 ih9 =>
        intro v2 v3 v4 H locs ls hf hHs hS hl
        subst hHs
        rw [f_X_commonDivisor_L9] at hf
        refine lv_iload (pc := 9) hx hb dX10_commonDivisor_9 (lv_at hl 2 rfl) ?_
        refine lv_sipush (pc := 11) (v := 200) hx hb dX10_commonDivisor_11 (by decide) ?_
        refine q_icmp_ge (pc := 14) (tgt := 45) hx hb dX10_commonDivisor_14 (by decide) rfl hf (fun hf => ?_) (fun hf => ?_)
        · obtain rfl := Option.some.inj hf
          exact JE9 _ _ _ rfl hS (lv_sub hl [0] rfl)
        · refine lv_lload (pc := 17) hx hb dX10_commonDivisor_17 (lv_at hl 1 rfl) ?_
          refine lv_lconst (pc := 19) (v := 0) hx hb dX10_commonDivisor_19 (by decide) ?_
          refine W.lcmp (pc := 20) hx hb dX10_commonDivisor_20 ?_
          refine q_if_eq (pc := 21) (tgt := 45) hx hb dX10_commonDivisor_21 (by decide) rfl hf (fun hf => ?_) (fun hf => ?_)
          · obtain rfl := Option.some.inj hf
            exact JE9 _ _ _ rfl hS (lv_sub hl [0] rfl)
          · refine lv_lload (pc := 24) hx hb dX10_commonDivisor_24 (lv_at hl 0 rfl) ?_
            refine lv_lload (pc := 26) hx hb dX10_commonDivisor_26 (lv_at hl 1 rfl) ?_
            refine q_lrem (pc := 28) hx hb dX10_commonDivisor_28 hf (fun v6 hf => ?_)
            refine lv_lstore (pc := 29) (lv' := [(9, .long v6), (4, .long v2), (6, .long v3), (8, .int v4)]) hx hb dX10_commonDivisor_29 hl (by decide) rfl (fun ls hl => ?_)
            refine lv_lload (pc := 31) hx hb dX10_commonDivisor_31 (lv_at hl 2 rfl) ?_
            refine lv_lstore (pc := 33) (lv' := [(4, .long v3), (9, .long v6), (6, .long v3), (8, .int v4)]) hx hb dX10_commonDivisor_33 hl (by decide) rfl (fun ls hl => ?_)
            refine lv_lload (pc := 35) hx hb dX10_commonDivisor_35 (lv_at hl 1 rfl) ?_
            refine lv_lstore (pc := 37) (lv' := [(6, .long v6), (4, .long v3), (9, .long v6), (8, .int v4)]) hx hb dX10_commonDivisor_37 hl (by decide) rfl (fun ls hl => ?_)
            obtain ⟨v7, ev7, hf⟩ := q_nm_e hf
            refine lv_iinc (pc := 39) (v := v7) (lv' := [(8, .int v7), (6, .long v6), (4, .long v3), (9, .long v6)]) hx hb dX10_commonDivisor_39 hl (k := 3) rfl (by rw [ev7]; rfl) (by decide) rfl (fun ls hl => ?_)
            refine lv_goto (pc := 42) (tgt := 9) hx hb dX10_commonDivisor_42 (by decide) ?_
            exact ih9 v3 v6 v7 _ _ _ hf rfl hS (lv_sub hl [2, 1, 0] rfl)
    exact LP9 N p1 p2 v1 _ _ _ hm9 rfl hS (lv_sub hl [2, 1, 0] rfl)
  exact hgo _ _ rfl hP hS
/-! X10_corners -/
set_option maxRecDepth 100000 in
set_option maxHeartbeats 4000000 in
theorem c_X_corners (l : Launch) (D : va_G) (ci : Nat → ClassId) (A : Nat → Prop) (sa : Nat → Nat) (N : Nat) (Rw : va_W) (a_x : Nat) (a_at : Nat) (a_g : Nat) (a_st : Nat) (a_x_kept : Nat) (a_tp : Nat) (a_rd : Nat) (a_qu : Nat) (a_sp : Nat) (a_wk : Nat) (a_bx : Nat) (a_nt : Nat) (a_nu : Nat) (a_x_seen : Nat) (a_sp_first : Nat) (a_sp_many : Nat) (a_sp_corner : Nat) (a_g_rowCuts : Nat) (a_g_columnCuts : Nat) (a_g_bandRows : Nat) (a_g_zoneColumns : Nat) (a_g_rows : Nat) (a_g_sheets : Nat) (x_keptStates : Int32) (sp_cornerCount : Int32) (sp_level : Int32) (sp_row : Int32) (sp_start : Int32) (sp_place : Int32) (sp_length : Int32) (sp_cap : Int32) (sp_corner : Nat → Int32) (g_bandRows : Nat → Int32) (g_zoneColumns : Nat → Int32) (g_rows : Nat → Int32) (g_sheets : Nat → Int32) (p1 : Int32) (p2 : Int32) (p3 : Int32) (r : Int32) (o1 : Nat → Int32) (o2 : Int32) (o3 : Int32) (o4 : Int32) (o5 : Int32) (o6 : Int32) (o7 : Int32) (o8 : Int32) (hf : f_X_corners N sp_corner sp_cornerCount sp_level sp_row sp_start sp_place sp_length sp_cap g_bandRows g_zoneColumns g_rows g_sheets p1 p2 p3 = some (r, o1, o2, o3, o4, o5, o6, o7, o8)) : Met l yX10_corners wsX10_corners ({ frames := 3, cells := 0, slots := 0, locals := 72 }) (va_Pc [.ref a_x, .int p1, .int p2, .int p3] (q_N D ci A sa ((a_x, .inr (10, [.ref a_at, .ref a_g, .ref a_st, .ref a_x_kept, .int x_keptStates, .ref a_tp, .ref a_rd, .ref a_qu, .ref a_sp, .ref a_wk, .ref a_bx, .ref a_nt, .ref a_nu, .ref a_x_seen])) :: (a_sp, .inr (6, [.ref a_g, .ref a_sp_first, .ref a_sp_many, .ref a_sp_corner, .int sp_cornerCount, .int sp_level, .int sp_row, .int sp_start, .int sp_place, .int sp_length, .int sp_cap])) :: (a_sp_corner, .inl (ci 0, 4, .inl sp_corner)) :: (a_g, .inr (2, [.ref a_g_rowCuts, .ref a_g_columnCuts, .ref a_g_bandRows, .ref a_g_zoneColumns, .ref a_g_rows, .ref a_g_sheets])) :: (a_g_bandRows, .inl (ci 0, 5, .inl g_bandRows)) :: (a_g_zoneColumns, .inl (ci 0, 5, .inl g_zoneColumns)) :: (a_g_rows, .inl (ci 0, 5, .inl g_rows)) :: (a_g_sheets, .inl (ci 0, 5, .inl g_sheets)) :: Rw))) (q_Q (some (.int r)) (q_O D A ((a_x, .inr (10, [.ref a_at, .ref a_g, .ref a_st, .ref a_x_kept, .int x_keptStates, .ref a_tp, .ref a_rd, .ref a_qu, .ref a_sp, .ref a_wk, .ref a_bx, .ref a_nt, .ref a_nu, .ref a_x_seen])) :: (a_sp, .inr (6, [.ref a_g, .ref a_sp_first, .ref a_sp_many, .ref a_sp_corner, .int o2, .int o3, .int o4, .int o5, .int o6, .int o7, .int o8])) :: (a_sp_corner, .inl (ci 0, 4, .inl o1)) :: (a_g, .inr (2, [.ref a_g_rowCuts, .ref a_g_columnCuts, .ref a_g_bandRows, .ref a_g_zoneColumns, .ref a_g_rows, .ref a_g_sheets])) :: (a_g_bandRows, .inl (ci 0, 5, .inl g_bandRows)) :: (a_g_zoneColumns, .inl (ci 0, 5, .inl g_zoneColumns)) :: (a_g_rows, .inl (ci 0, 5, .inl g_rows)) :: (a_g_sheets, .inl (ci 0, 5, .inl g_sheets)) :: Rw)) A) 0 0 A := by
  refine q_ofW (cc := cX10_corners) (maxL := 4) (ret := (some .int)) [.ref a_x, .int p1, .int p2, .int p3] (plainFor_of_name (by decide)) rfl (Nat.le_of_ble_eq_true rfl) ?_
  intro p e s m below meth c ls Q hQ hx hb hml hr hts hown hlocks hK hA hZ hP hD hS hl
  have hl : lv_has ls 4 [(0, .ref a_x), (1, .int p1), (2, .int p2), (3, .int p3)] := hl
  have hown : s.vm.findClass RX10 = some m.cls := hown
  have hinX10 : ∀ w ∈ wsX100, w ∈ wsX10_corners := fun _ h => List.mem_cons_of_mem _ (inWX100 _ h)
  have hinX6 : ∀ w ∈ wsX60, w ∈ wsX10_corners := fun _ h => List.mem_cons_of_mem _ (inWX60 _ h)
  have w_1 := hts (Cond.fieldLink RX10 20 "SheetNames" "grid" "LSheetNames$Grid;") (List.mem_cons_of_mem _ t_w876)
  have w_2 := hts (Cond.fieldLink RX10 66 "SheetNames" "spot" "LSheetNames$Spot;") (List.mem_cons_of_mem _ t_w877)
  have wn_18 : (Cond.fieldLinkNest "SheetNames" 283 "SheetNames$Spot" "cornerCount" "I" "SheetNames").before ([.ref a_x, .int p1, .int p2, .int p3] : List Value).toArray s = true := (hZ.2.2.2.2.2.2.2.2.2.1 _ (List.mem_of_getElem? (i := 18) rfl)).use rfl
  have wn_19 : (Cond.fieldLinkNest "SheetNames" 286 "SheetNames$Spot" "corner" "[I" "SheetNames").before ([.ref a_x, .int p1, .int p2, .int p3] : List Value).toArray s = true := (hZ.2.2.2.2.2.2.2.2.2.1 _ (List.mem_of_getElem? (i := 19) rfl)).use rfl
  unfold f_X_corners at hf
  have hgo : ∀ (H : Heap) (locs : List Loc), H = s.heap → va_P D vwCl ((a_x, .inr (10, [.ref a_at, .ref a_g, .ref a_st, .ref a_x_kept, .int x_keptStates, .ref a_tp, .ref a_rd, .ref a_qu, .ref a_sp, .ref a_wk, .ref a_bx, .ref a_nt, .ref a_nu, .ref a_x_seen])) :: (a_sp, .inr (6, [.ref a_g, .ref a_sp_first, .ref a_sp_many, .ref a_sp_corner, .int sp_cornerCount, .int sp_level, .int sp_row, .int sp_start, .int sp_place, .int sp_length, .int sp_cap])) :: (a_sp_corner, .inl (ci 0, 4, .inl sp_corner)) :: (a_g, .inr (2, [.ref a_g_rowCuts, .ref a_g_columnCuts, .ref a_g_bandRows, .ref a_g_zoneColumns, .ref a_g_rows, .ref a_g_sheets])) :: (a_g_bandRows, .inl (ci 0, 5, .inl g_bandRows)) :: (a_g_zoneColumns, .inl (ci 0, 5, .inl g_zoneColumns)) :: (a_g_rows, .inl (ci 0, 5, .inl g_rows)) :: (a_g_sheets, .inl (ci 0, 5, .inl g_sheets)) :: Rw) H → va_S A s.heap H locs → W p l e ({ frames := 3, cells := 0, slots := 0, locals := 72 } : Room) s m ([.ref a_x, .int p1, .int p2, .int p3] : List Value).toArray below meth c H locs 0 0 Q (F0 m 0 ls []) := by
    intro H locs hH hP hS
    refine lv_aload_n (pc := 0) hx hb dX10_corners_0 rfl (lv_at hl 0 rfl) ?_
    refine va_get (pc := 1) (D := D) (ci := 10) (v := .ref a_g) (C := RX10) (T := TX10) (N := 14) hx hb hts hinX10 hown hK hP 0 rfl rfl 1 (by decide) w_1 (fun _ h9 => h9) rfl dX10_corners_1 ?_
    refine lv_iload_n (pc := 4) hx hb dX10_corners_4 rfl (lv_at hl 1 rfl) ?_
    refine lv_iload_n (pc := 5) hx hb dX10_corners_5 rfl (lv_at hl 2 rfl) ?_
    obtain ⟨v1, hm6, hf⟩ := q_b1_e hf
    refine q_cVr (pc := 6) (As := [.int p1, .int p2]) (rest := []) (v0 := (some (.int v1))) ⟨hx, hb, hml, hown, hts⟩ hK hA hZ hP hD hS hl.1 [3, 7] 8 rfl ⟨rfl, rfl, rfl⟩ (c_Grid_hasSheet l D ci A sa N (Rw) a_g a_g_rowCuts a_g_columnCuts a_g_bandRows a_g_zoneColumns a_g_rows a_g_sheets g_sheets p1 p2 v1 hm6) 3 rfl rfl (cwV 2 hts gX10_corners_X2_hasSheet rfl rfl rfl (by decide +kernel) ⟨Nat.le_of_ble_eq_true rfl, Nat.le_of_ble_eq_true rfl⟩) rfl rfl (Nat.le_of_ble_eq_true rfl) dX10_corners_6 ⟨Nat.zero_le _, Nat.zero_le _⟩ (fun locs hS => ?_)
    refine q_if_eq (pc := 9) (tgt := 17) hx hb dX10_corners_9 (by decide) rfl hf (fun hf => ?_) (fun hf => ?_)
    · refine lv_iconst (pc := 17) (v := (-1)) hx hb dX10_corners_17 (by decide) ?_
      obtain ⟨e90, e91, e92, e93, e94, e95, e96, e97, e98⟩ := q_inj9 (Option.some.inj hf)
      rw [hQ, ← e90, ← e91, ← e92, ← e93, ← e94, ← e95, ← e96, ← e97, ← e98]
      exact q_iret (pc := 18) hx hb hr hlocks hP hD hS dX10_corners_18
    · refine lv_iload_n (pc := 12) hx hb dX10_corners_12 rfl (lv_at hl 3 rfl) ?_
      refine lv_iconst (pc := 13) (v := (-1)) hx hb dX10_corners_13 (by decide) ?_
      refine q_icmp_ge (pc := 14) (tgt := 19) hx hb dX10_corners_14 (by decide) rfl hf (fun hf => ?_) (fun hf => ?_)
      · refine lv_aload_n (pc := 19) hx hb dX10_corners_19 rfl (lv_at hl 0 rfl) ?_
        refine va_get (pc := 20) (D := D) (ci := 10) (v := .ref a_sp) (C := RX10) (T := TX10) (N := 14) hx hb hts hinX10 hown hK hP 0 rfl rfl 8 (by decide) w_2 (fun _ h9 => h9) rfl dX10_corners_20 ?_
        refine lv_iload_n (pc := 23) hx hb dX10_corners_23 rfl (lv_at hl 1 rfl) ?_
        refine lv_iload_n (pc := 24) hx hb dX10_corners_24 rfl (lv_at hl 2 rfl) ?_
        obtain ⟨v2, v3, v4, v5, v6, v7, hm25, hf⟩ := q_b6_e hf
        refine q_cV (pc := 25) (As := [.int p1, .int p2]) (rest := []) (v0 := none) ⟨hx, hb, hml, hown, hts⟩ hK hA hZ hP hD hS hl.1 [1, 3, 4, 5, 6, 7, 0, 2] 8 rfl ⟨rfl, rfl, rfl⟩ (c_Spot_put l D ci A sa N ((a_x, .inr (10, [.ref a_at, .ref a_g, .ref a_st, .ref a_x_kept, .int x_keptStates, .ref a_tp, .ref a_rd, .ref a_qu, .ref a_sp, .ref a_wk, .ref a_bx, .ref a_nt, .ref a_nu, .ref a_x_seen])) :: (a_sp_corner, .inl (ci 0, 4, .inl sp_corner)) :: Rw) a_sp a_g a_sp_first a_sp_many a_sp_corner a_g_rowCuts a_g_columnCuts a_g_bandRows a_g_zoneColumns a_g_rows a_g_sheets sp_cornerCount sp_level sp_row sp_start sp_place sp_length sp_cap g_bandRows g_zoneColumns g_rows g_sheets p1 p2 v2 v3 v4 v5 v6 v7 hm25) 1 rfl rfl (cwV 2 hts gX10_corners_X6_put rfl rfl rfl (by decide +kernel) ⟨Nat.le_of_ble_eq_true rfl, Nat.le_of_ble_eq_true rfl⟩) rfl rfl (Nat.le_of_ble_eq_true rfl) dX10_corners_25 ⟨Nat.zero_le _, Nat.zero_le _⟩ [6, 0, 7, 1, 2, 3, 4, 5] 8 rfl ⟨rfl, rfl, rfl⟩ (fun H locs hP hD hS => ?_)
        obtain ⟨hP, hD⟩ : va_PD D A ((a_x, .inr (10, [.ref a_at, .ref a_g, .ref a_st, .ref a_x_kept, .int x_keptStates, .ref a_tp, .ref a_rd, .ref a_qu, .ref a_sp, .ref a_wk, .ref a_bx, .ref a_nt, .ref a_nu, .ref a_x_seen])) :: (a_sp, .inr (6, [.ref a_g, .ref a_sp_first, .ref a_sp_many, .ref a_sp_corner, .int sp_cornerCount, .int v2, .int v3, .int v4, .int v5, .int v6, .int v7])) :: (a_sp_corner, .inl (ci 0, 4, .inl sp_corner)) :: (a_g, .inr (2, [.ref a_g_rowCuts, .ref a_g_columnCuts, .ref a_g_bandRows, .ref a_g_zoneColumns, .ref a_g_rows, .ref a_g_sheets])) :: (a_g_bandRows, .inl (ci 0, 5, .inl g_bandRows)) :: (a_g_zoneColumns, .inl (ci 0, 5, .inl g_zoneColumns)) :: (a_g_rows, .inl (ci 0, 5, .inl g_rows)) :: (a_g_sheets, .inl (ci 0, 5, .inl g_sheets)) :: Rw) H := ⟨hP, hD⟩
        refine lv_aload_n (pc := 28) hx hb dX10_corners_28 rfl (lv_at hl 0 rfl) ?_
        refine va_get (pc := 29) (D := D) (ci := 10) (v := .ref a_sp) (C := RX10) (T := TX10) (N := 14) hx hb hts hinX10 hown hK hP 0 rfl rfl 8 (by decide) w_2 (fun _ h9 => h9) rfl dX10_corners_29 ?_
        obtain ⟨f8, v9, hm32, hf⟩ := q_b2_e hf
        refine q_cV (pc := 32) (As := []) (rest := []) (v0 := none) ⟨hx, hb, hml, hown, hts⟩ hK hA hZ hP hD hS hl.1 [1, 2, 3, 4, 5, 6, 7, 0] 8 rfl ⟨rfl, rfl, rfl⟩ (c_Spot_lookAtCorners l D ci A sa N ((a_x, .inr (10, [.ref a_at, .ref a_g, .ref a_st, .ref a_x_kept, .int x_keptStates, .ref a_tp, .ref a_rd, .ref a_qu, .ref a_sp, .ref a_wk, .ref a_bx, .ref a_nt, .ref a_nu, .ref a_x_seen])) :: Rw) a_sp a_g a_sp_first a_sp_many a_sp_corner a_g_rowCuts a_g_columnCuts a_g_bandRows a_g_zoneColumns a_g_rows a_g_sheets sp_cornerCount v2 v3 v4 v5 v6 v7 sp_corner g_bandRows g_zoneColumns g_rows g_sheets f8 v9 hm32) 1 rfl rfl (cwV 0 hts gX10_corners_X6_lookAtCorners rfl rfl rfl (by decide +kernel) ⟨Nat.le_of_ble_eq_true rfl, Nat.le_of_ble_eq_true rfl⟩) rfl rfl (Nat.le_of_ble_eq_true rfl) dX10_corners_32 ⟨Nat.zero_le _, Nat.zero_le _⟩ [7, 0, 1, 2, 3, 4, 5, 6] 8 rfl ⟨rfl, rfl, rfl⟩ (fun H locs hP hD hS => ?_)
        obtain ⟨hP, hD⟩ : va_PD D A ((a_x, .inr (10, [.ref a_at, .ref a_g, .ref a_st, .ref a_x_kept, .int x_keptStates, .ref a_tp, .ref a_rd, .ref a_qu, .ref a_sp, .ref a_wk, .ref a_bx, .ref a_nt, .ref a_nu, .ref a_x_seen])) :: (a_sp, .inr (6, [.ref a_g, .ref a_sp_first, .ref a_sp_many, .ref a_sp_corner, .int v9, .int v2, .int v3, .int v4, .int v5, .int v6, .int v7])) :: (a_sp_corner, .inl (ci 0, 4, .inl f8)) :: (a_g, .inr (2, [.ref a_g_rowCuts, .ref a_g_columnCuts, .ref a_g_bandRows, .ref a_g_zoneColumns, .ref a_g_rows, .ref a_g_sheets])) :: (a_g_bandRows, .inl (ci 0, 5, .inl g_bandRows)) :: (a_g_zoneColumns, .inl (ci 0, 5, .inl g_zoneColumns)) :: (a_g_rows, .inl (ci 0, 5, .inl g_rows)) :: (a_g_sheets, .inl (ci 0, 5, .inl g_sheets)) :: Rw) H := ⟨hP, hD⟩
        refine lv_iload_n (pc := 35) hx hb dX10_corners_35 rfl (lv_at hl 3 rfl) ?_
        refine lv_iconst (pc := 36) (v := (-1)) hx hb dX10_corners_36 (by decide) ?_
        refine q_icmp_ne (pc := 37) (tgt := 48) hx hb dX10_corners_37 (by decide) rfl hf (fun hf => ?_) (fun hf => ?_)
        · refine lv_iload_n (pc := 48) hx hb dX10_corners_48 rfl (lv_at hl 3 rfl) ?_
          refine lv_aload_n (pc := 49) hx hb dX10_corners_49 rfl (lv_at hl 0 rfl) ?_
          refine va_get (pc := 50) (D := D) (ci := 10) (v := .ref a_sp) (C := RX10) (T := TX10) (N := 14) hx hb hts hinX10 hown hK hP 0 rfl rfl 8 (by decide) w_2 (fun _ h9 => h9) rfl dX10_corners_50 ?_
          refine va_getN (pc := 53) (D := D) (ci := 6) (v := .int v9) (C := RX6) (T := TX6) (N := 11) hx hb hts hinX6 hown hK hP 1 rfl rfl 4 (by decide) wn_18 (fun _ h9 => h9) rfl dX10_corners_53 ?_
          refine q_icmp_ge (pc := 56) (tgt := 71) hx hb dX10_corners_56 (by decide) rfl hf (fun hf => ?_) (fun hf => ?_)
          · refine lv_bipush (pc := 71) (v := (-2)) hx hb dX10_corners_71 (by decide) ?_
            obtain ⟨e90, e91, e92, e93, e94, e95, e96, e97, e98⟩ := q_inj9 (Option.some.inj hf)
            rw [hQ, ← e90, ← e91, ← e92, ← e93, ← e94, ← e95, ← e96, ← e97, ← e98]
            exact q_iret (pc := 73) hx hb hr hlocks hP hD hS dX10_corners_73
          · refine lv_aload_n (pc := 59) hx hb dX10_corners_59 rfl (lv_at hl 0 rfl) ?_
            refine va_get (pc := 60) (D := D) (ci := 10) (v := .ref a_sp) (C := RX10) (T := TX10) (N := 14) hx hb hts hinX10 hown hK hP 0 rfl rfl 8 (by decide) w_2 (fun _ h9 => h9) rfl dX10_corners_60 ?_
            refine va_getN (pc := 63) (D := D) (ci := 6) (v := .ref a_sp_corner) (C := RX6) (T := TX6) (N := 11) hx hb hts hinX6 hown hK hP 1 rfl rfl 3 (by decide) wn_19 (fun _ h9 => h9) rfl dX10_corners_63 ?_
            refine lv_iload_n (pc := 66) hx hb dX10_corners_66 rfl (lv_at hl 3 rfl) ?_
            refine q_iald (pc := 67) hx hb hK hP 2 0 hf rfl rfl dX10_corners_67 (fun v10 hf => ?_)
            refine lv_goto (pc := 68) (tgt := 73) hx hb dX10_corners_68 (by decide) ?_
            obtain ⟨e90, e91, e92, e93, e94, e95, e96, e97, e98⟩ := q_inj9 (Option.some.inj hf)
            rw [hQ, ← e90, ← e91, ← e92, ← e93, ← e94, ← e95, ← e96, ← e97, ← e98]
            exact q_iret (pc := 73) hx hb hr hlocks hP hD hS dX10_corners_73
        · refine lv_aload_n (pc := 40) hx hb dX10_corners_40 rfl (lv_at hl 0 rfl) ?_
          refine va_get (pc := 41) (D := D) (ci := 10) (v := .ref a_sp) (C := RX10) (T := TX10) (N := 14) hx hb hts hinX10 hown hK hP 0 rfl rfl 8 (by decide) w_2 (fun _ h9 => h9) rfl dX10_corners_41 ?_
          refine va_getN (pc := 44) (D := D) (ci := 6) (v := .int v9) (C := RX6) (T := TX6) (N := 11) hx hb hts hinX6 hown hK hP 1 rfl rfl 4 (by decide) wn_18 (fun _ h9 => h9) rfl dX10_corners_44 ?_
          obtain ⟨e90, e91, e92, e93, e94, e95, e96, e97, e98⟩ := q_inj9 (Option.some.inj hf)
          rw [hQ, ← e90, ← e91, ← e92, ← e93, ← e94, ← e95, ← e96, ← e97, ← e98]
          exact q_iret (pc := 47) hx hb hr hlocks hP hD hS dX10_corners_47
      · refine lv_iconst (pc := 17) (v := (-1)) hx hb dX10_corners_17 (by decide) ?_
        obtain ⟨e90, e91, e92, e93, e94, e95, e96, e97, e98⟩ := q_inj9 (Option.some.inj hf)
        rw [hQ, ← e90, ← e91, ← e92, ← e93, ← e94, ← e95, ← e96, ← e97, ← e98]
        exact q_iret (pc := 18) hx hb hr hlocks hP hD hS dX10_corners_18
  exact hgo _ _ rfl hP hS
/-! X10_count -/
set_option maxRecDepth 100000 in
set_option maxHeartbeats 4000000 in
theorem c_X_count (l : Launch) (D : va_G) (ci : Nat → ClassId) (A : Nat → Prop) (sa : Nat → Nat) (N : Nat) (Rw : va_W) (a_x : Nat) (a_at : Nat) (a_g : Nat) (a_st : Nat) (a_x_kept : Nat) (a_tp : Nat) (a_rd : Nat) (a_qu : Nat) (a_sp : Nat) (a_wk : Nat) (a_bx : Nat) (a_nt : Nat) (a_nu : Nat) (a_x_seen : Nat) (a_tp_bytes : Nat) (a_st_levels : Nat) (a_st_keys : Nat) (a_st_years : Nat) (a_st_keysThere : Nat) (x_keptStates : Int32) (tp_length : Int32) (at_right : Int32) (at_faulty : Int32) (at_endedSoon : Int32) (at_noSuchNumber : Int32) (st_size : Int32) (st_shownBy : Int32) (st_deepestShown : Int32) (st_latestShown : Int32) (p1 : Int32) (r : Int32) (hf : f_X_count x_keptStates tp_length at_right at_faulty at_endedSoon at_noSuchNumber st_size p1 = some r) : Met l yX10_count wsX10_count ({ frames := 0, cells := 0, slots := 0, locals := 0 }) (va_Pc [.ref a_x, .int p1] (q_N D ci A sa ((a_x, .inr (10, [.ref a_at, .ref a_g, .ref a_st, .ref a_x_kept, .int x_keptStates, .ref a_tp, .ref a_rd, .ref a_qu, .ref a_sp, .ref a_wk, .ref a_bx, .ref a_nt, .ref a_nu, .ref a_x_seen])) :: (a_tp, .inr (8, [.ref a_tp_bytes, .int tp_length])) :: (a_at, .inr (0, [.ref a_g, .ref a_st, .int at_right, .int at_faulty, .int at_endedSoon, .int at_noSuchNumber])) :: (a_st, .inr (7, [.ref a_g, .ref a_st_levels, .ref a_st_keys, .ref a_st_years, .ref a_st_keysThere, .int st_size, .int st_shownBy, .int st_deepestShown, .int st_latestShown])) :: Rw))) (q_R (some (.int r))) 0 0 A := by
  refine q_ofW (cc := cX10_count) (maxL := 2) (ret := (some .int)) [.ref a_x, .int p1] (plainFor_of_name (by decide)) rfl (Nat.le_of_ble_eq_true rfl) ?_
  intro p e s m below meth c ls Q hQ hx hb hml hr hts hown hlocks hK hA hZ hP hD hS hl
  have hl : lv_has ls 2 [(0, .ref a_x), (1, .int p1)] := hl
  have hown : s.vm.findClass RX10 = some m.cls := hown
  have hinX0 : ∀ w ∈ wsX00, w ∈ wsX10_count := fun _ h => List.mem_cons_of_mem _ (inWX00 _ h)
  have hinX10 : ∀ w ∈ wsX100, w ∈ wsX10_count := fun _ h => List.mem_cons_of_mem _ (inWX100 _ h)
  have hinX7 : ∀ w ∈ wsX70, w ∈ wsX10_count := fun _ h => List.mem_cons_of_mem _ (inWX70 _ h)
  have hinX8 : ∀ w ∈ wsX80, w ∈ wsX10_count := fun _ h => List.mem_cons_of_mem _ (inWX80 _ h)
  have w_1 := hts (Cond.fieldLink RX10 25 "SheetNames" "pieces" "LSheetNames$Store;") (List.mem_cons_of_mem _ t_w892)
  have w_2 := hts (Cond.fieldLink RX10 39 "SheetNames" "tape" "LSheetNames$Tape;") (List.mem_cons_of_mem _ t_w882)
  have w_3 := hts (Cond.fieldLink RX10 32 "SheetNames" "keptStates" "I") (List.mem_cons_of_mem _ t_w893)
  have w_4 := hts (Cond.fieldLink RX10 10 "SheetNames" "now" "LSheetNames$Atlas;") (List.mem_cons_of_mem _ t_w884)
  have wn_0 : (Cond.fieldLinkNest "SheetNames" 109 "SheetNames$Store" "size" "I" "SheetNames").before ([.ref a_x, .int p1] : List Value).toArray s = true := (hZ.2.2.2.2.2.2.2.2.2.1 _ (List.mem_of_getElem? (i := 0) rfl)).use rfl
  have wn_31 : (Cond.fieldLinkNest "SheetNames" 429 "SheetNames$Atlas" "right" "I" "SheetNames").before ([.ref a_x, .int p1] : List Value).toArray s = true := (hZ.2.2.2.2.2.2.2.2.2.1 _ (List.mem_of_getElem? (i := 31) rfl)).use rfl
  have wn_32 : (Cond.fieldLinkNest "SheetNames" 432 "SheetNames$Atlas" "faulty" "I" "SheetNames").before ([.ref a_x, .int p1] : List Value).toArray s = true := (hZ.2.2.2.2.2.2.2.2.2.1 _ (List.mem_of_getElem? (i := 32) rfl)).use rfl
  have wn_33 : (Cond.fieldLinkNest "SheetNames" 435 "SheetNames$Atlas" "endedSoon" "I" "SheetNames").before ([.ref a_x, .int p1] : List Value).toArray s = true := (hZ.2.2.2.2.2.2.2.2.2.1 _ (List.mem_of_getElem? (i := 33) rfl)).use rfl
  have wn_34 : (Cond.fieldLinkNest "SheetNames" 438 "SheetNames$Atlas" "noSuchNumber" "I" "SheetNames").before ([.ref a_x, .int p1] : List Value).toArray s = true := (hZ.2.2.2.2.2.2.2.2.2.1 _ (List.mem_of_getElem? (i := 34) rfl)).use rfl
  have wn_35 : (Cond.fieldLinkNest "SheetNames" 98 "SheetNames$Tape" "length" "I" "SheetNames").before ([.ref a_x, .int p1] : List Value).toArray s = true := (hZ.2.2.2.2.2.2.2.2.2.1 _ (List.mem_of_getElem? (i := 35) rfl)).use rfl
  unfold f_X_count at hf
  have hgo : ∀ (H : Heap) (locs : List Loc), H = s.heap → va_P D vwCl ((a_x, .inr (10, [.ref a_at, .ref a_g, .ref a_st, .ref a_x_kept, .int x_keptStates, .ref a_tp, .ref a_rd, .ref a_qu, .ref a_sp, .ref a_wk, .ref a_bx, .ref a_nt, .ref a_nu, .ref a_x_seen])) :: (a_tp, .inr (8, [.ref a_tp_bytes, .int tp_length])) :: (a_at, .inr (0, [.ref a_g, .ref a_st, .int at_right, .int at_faulty, .int at_endedSoon, .int at_noSuchNumber])) :: (a_st, .inr (7, [.ref a_g, .ref a_st_levels, .ref a_st_keys, .ref a_st_years, .ref a_st_keysThere, .int st_size, .int st_shownBy, .int st_deepestShown, .int st_latestShown])) :: Rw) H → va_S A s.heap H locs → W p l e ({ frames := 0, cells := 0, slots := 0, locals := 0 } : Room) s m ([.ref a_x, .int p1] : List Value).toArray below meth c H locs 0 0 Q (F0 m 0 ls []) := by
    intro H locs hH hP hS
    subst hH
    refine lv_iload_n (pc := 0) hx hb dX10_count_0 rfl (lv_at hl 1 rfl) ?_
    rcases q_if_e hf with ⟨hc0, hf⟩ | ⟨hc0, hf⟩
    · refine lv_tableIn (pc := 1) (tgt := 44) (off := 43) hx hb dX10_count_1 (by rw [hc0]; decide) (by rw [hc0]; decide) (by rw [hc0]; decide) (by decide) ?_
      refine lv_aload_n (pc := 44) hx hb dX10_count_44 rfl (lv_at hl 0 rfl) ?_
      refine va_get (pc := 45) (D := D) (ci := 10) (v := .ref a_st) (C := RX10) (T := TX10) (N := 14) hx hb hts hinX10 hown hK hP 0 rfl rfl 2 (by decide) w_1 (fun _ h9 => h9) rfl dX10_count_45 ?_
      refine va_getN (pc := 48) (D := D) (ci := 7) (v := .int st_size) (C := RX7) (T := TX7) (N := 9) hx hb hts hinX7 hown hK hP 3 rfl rfl 5 (by decide) wn_0 (fun _ h9 => h9) rfl dX10_count_48 ?_
      obtain rfl := Option.some.inj hf
      rw [hQ]
      exact q_iretr (pc := 51) hx hb hr hlocks rfl hS dX10_count_51
    rcases q_if_e hf with ⟨hc1, hf⟩ | ⟨hc1, hf⟩
    · refine lv_tableIn (pc := 1) (tgt := 52) (off := 51) hx hb dX10_count_1 (by rw [hc1]; decide) (by rw [hc1]; decide) (by rw [hc1]; decide) (by decide) ?_
      refine lv_aload_n (pc := 52) hx hb dX10_count_52 rfl (lv_at hl 0 rfl) ?_
      refine va_get (pc := 53) (D := D) (ci := 10) (v := .ref a_tp) (C := RX10) (T := TX10) (N := 14) hx hb hts hinX10 hown hK hP 0 rfl rfl 5 (by decide) w_2 (fun _ h9 => h9) rfl dX10_count_53 ?_
      refine va_getN (pc := 56) (D := D) (ci := 8) (v := .int tp_length) (C := RX8) (T := TX8) (N := 2) hx hb hts hinX8 hown hK hP 1 rfl rfl 1 (by decide) wn_35 (fun _ h9 => h9) rfl dX10_count_56 ?_
      obtain rfl := Option.some.inj hf
      rw [hQ]
      exact q_iretr (pc := 59) hx hb hr hlocks rfl hS dX10_count_59
    rcases q_if_e hf with ⟨hc2, hf⟩ | ⟨hc2, hf⟩
    · refine lv_tableIn (pc := 1) (tgt := 60) (off := 59) hx hb dX10_count_1 (by rw [hc2]; decide) (by rw [hc2]; decide) (by rw [hc2]; decide) (by decide) ?_
      refine lv_aload_n (pc := 60) hx hb dX10_count_60 rfl (lv_at hl 0 rfl) ?_
      refine va_get (pc := 61) (D := D) (ci := 10) (v := .int x_keptStates) (C := RX10) (T := TX10) (N := 14) hx hb hts hinX10 hown hK hP 0 rfl rfl 4 (by decide) w_3 (fun _ h9 => h9) rfl dX10_count_61 ?_
      obtain rfl := Option.some.inj hf
      rw [hQ]
      exact q_iretr (pc := 64) hx hb hr hlocks rfl hS dX10_count_64
    rcases q_if_e hf with ⟨hc3, hf⟩ | ⟨hc3, hf⟩
    · refine lv_tableIn (pc := 1) (tgt := 65) (off := 64) hx hb dX10_count_1 (by rw [hc3]; decide) (by rw [hc3]; decide) (by rw [hc3]; decide) (by decide) ?_
      refine lv_aload_n (pc := 65) hx hb dX10_count_65 rfl (lv_at hl 0 rfl) ?_
      refine va_get (pc := 66) (D := D) (ci := 10) (v := .ref a_at) (C := RX10) (T := TX10) (N := 14) hx hb hts hinX10 hown hK hP 0 rfl rfl 0 (by decide) w_4 (fun _ h9 => h9) rfl dX10_count_66 ?_
      refine va_getN (pc := 69) (D := D) (ci := 0) (v := .int at_right) (C := RX0) (T := TX0) (N := 6) hx hb hts hinX0 hown hK hP 2 rfl rfl 2 (by decide) wn_31 (fun _ h9 => h9) rfl dX10_count_69 ?_
      obtain rfl := Option.some.inj hf
      rw [hQ]
      exact q_iretr (pc := 72) hx hb hr hlocks rfl hS dX10_count_72
    rcases q_if_e hf with ⟨hc4, hf⟩ | ⟨hc4, hf⟩
    · refine lv_tableIn (pc := 1) (tgt := 73) (off := 72) hx hb dX10_count_1 (by rw [hc4]; decide) (by rw [hc4]; decide) (by rw [hc4]; decide) (by decide) ?_
      refine lv_aload_n (pc := 73) hx hb dX10_count_73 rfl (lv_at hl 0 rfl) ?_
      refine va_get (pc := 74) (D := D) (ci := 10) (v := .ref a_at) (C := RX10) (T := TX10) (N := 14) hx hb hts hinX10 hown hK hP 0 rfl rfl 0 (by decide) w_4 (fun _ h9 => h9) rfl dX10_count_74 ?_
      refine va_getN (pc := 77) (D := D) (ci := 0) (v := .int at_faulty) (C := RX0) (T := TX0) (N := 6) hx hb hts hinX0 hown hK hP 2 rfl rfl 3 (by decide) wn_32 (fun _ h9 => h9) rfl dX10_count_77 ?_
      obtain rfl := Option.some.inj hf
      rw [hQ]
      exact q_iretr (pc := 80) hx hb hr hlocks rfl hS dX10_count_80
    rcases q_if_e hf with ⟨hc5, hf⟩ | ⟨hc5, hf⟩
    · refine lv_tableIn (pc := 1) (tgt := 81) (off := 80) hx hb dX10_count_1 (by rw [hc5]; decide) (by rw [hc5]; decide) (by rw [hc5]; decide) (by decide) ?_
      refine lv_aload_n (pc := 81) hx hb dX10_count_81 rfl (lv_at hl 0 rfl) ?_
      refine va_get (pc := 82) (D := D) (ci := 10) (v := .ref a_at) (C := RX10) (T := TX10) (N := 14) hx hb hts hinX10 hown hK hP 0 rfl rfl 0 (by decide) w_4 (fun _ h9 => h9) rfl dX10_count_82 ?_
      refine va_getN (pc := 85) (D := D) (ci := 0) (v := .int at_endedSoon) (C := RX0) (T := TX0) (N := 6) hx hb hts hinX0 hown hK hP 2 rfl rfl 4 (by decide) wn_33 (fun _ h9 => h9) rfl dX10_count_85 ?_
      obtain rfl := Option.some.inj hf
      rw [hQ]
      exact q_iretr (pc := 88) hx hb hr hlocks rfl hS dX10_count_88
    rcases q_if_e hf with ⟨hc6, hf⟩ | ⟨hc6, hf⟩
    · refine lv_tableIn (pc := 1) (tgt := 89) (off := 88) hx hb dX10_count_1 (by rw [hc6]; decide) (by rw [hc6]; decide) (by rw [hc6]; decide) (by decide) ?_
      refine lv_aload_n (pc := 89) hx hb dX10_count_89 rfl (lv_at hl 0 rfl) ?_
      refine va_get (pc := 90) (D := D) (ci := 10) (v := .ref a_at) (C := RX10) (T := TX10) (N := 14) hx hb hts hinX10 hown hK hP 0 rfl rfl 0 (by decide) w_4 (fun _ h9 => h9) rfl dX10_count_90 ?_
      refine va_getN (pc := 93) (D := D) (ci := 0) (v := .int at_noSuchNumber) (C := RX0) (T := TX0) (N := 6) hx hb hts hinX0 hown hK hP 2 rfl rfl 5 (by decide) wn_34 (fun _ h9 => h9) rfl dX10_count_93 ?_
      obtain rfl := Option.some.inj hf
      rw [hQ]
      exact q_iretr (pc := 96) hx hb hr hlocks rfl hS dX10_count_96
    have hsw : p1.toInt < 0 ∨ 6 < p1.toInt := by
      have hd0 := q_nei hc0; have hd1 := q_nei hc1; have hd2 := q_nei hc2; have hd3 := q_nei hc3; have hd4 := q_nei hc4; have hd5 := q_nei hc5; have hd6 := q_nei hc6
      rw [show (0 : Int32).toInt = 0 from rfl] at hd0; rw [show (1 : Int32).toInt = 1 from rfl] at hd1; rw [show (2 : Int32).toInt = 2 from rfl] at hd2; rw [show (3 : Int32).toInt = 3 from rfl] at hd3; rw [show (4 : Int32).toInt = 4 from rfl] at hd4; rw [show (5 : Int32).toInt = 5 from rfl] at hd5; rw [show (6 : Int32).toInt = 6 from rfl] at hd6
      omega
    refine lv_tableOut (pc := 1) (tgt := 97) hx hb dX10_count_1 hsw (by decide) ?_
    refine lv_iconst (pc := 97) (v := (-1)) hx hb dX10_count_97 (by decide) ?_
    obtain rfl := Option.some.inj hf
    rw [hQ]
    exact q_iretr (pc := 98) hx hb hr hlocks rfl hS dX10_count_98
  exact hgo _ _ rfl hP hS
/-! X10_cover -/
set_option maxRecDepth 100000 in
set_option maxHeartbeats 4000000 in
theorem c_X_cover (l : Launch) (D : va_G) (ci : Nat → ClassId) (A : Nat → Prop) (sa : Nat → Nat) (N : Nat) (Rw : va_W) (a_x : Nat) (a_at : Nat) (a_g : Nat) (a_st : Nat) (a_x_kept : Nat) (a_tp : Nat) (a_rd : Nat) (a_qu : Nat) (a_sp : Nat) (a_wk : Nat) (a_bx : Nat) (a_nt : Nat) (a_nu : Nat) (a_x_seen : Nat) (a_g_rowCuts : Nat) (a_g_columnCuts : Nat) (a_g_bandRows : Nat) (a_g_zoneColumns : Nat) (a_g_rows : Nat) (a_g_sheets : Nat) (x_keptStates : Int32) (bx_south : Int32) (bx_north : Int32) (bx_west : Int32) (bx_east : Int32) (g_rowCuts : Nat → Int32) (g_columnCuts : Nat → Int32) (g_bandRows : Nat → Int32) (g_zoneColumns : Nat → Int32) (g_rows : Nat → Int32) (g_sheets : Nat → Int32) (p1 : Int32) (p2 : Int32) (p3 : Int32) (p4 : Int32) (p5 : Int32) (p6 : Int32) (r : Int32) (o1 : Int32) (o2 : Int32) (o3 : Int32) (o4 : Int32) (hf : f_X_cover N bx_south bx_north bx_west bx_east g_rowCuts g_columnCuts g_bandRows g_zoneColumns g_rows g_sheets p1 p2 p3 p4 p5 p6 = some (r, o1, o2, o3, o4)) : Met l yX10_cover wsX10_cover ({ frames := 6, cells := 0, slots := 0, locals := 154 }) (va_Pc [.ref a_x, .int p1, .int p2, .int p3, .int p4, .int p5, .int p6] (q_N D ci A sa ((a_x, .inr (10, [.ref a_at, .ref a_g, .ref a_st, .ref a_x_kept, .int x_keptStates, .ref a_tp, .ref a_rd, .ref a_qu, .ref a_sp, .ref a_wk, .ref a_bx, .ref a_nt, .ref a_nu, .ref a_x_seen])) :: (a_bx, .inr (1, [.ref a_g, .int bx_south, .int bx_north, .int bx_west, .int bx_east])) :: (a_g, .inr (2, [.ref a_g_rowCuts, .ref a_g_columnCuts, .ref a_g_bandRows, .ref a_g_zoneColumns, .ref a_g_rows, .ref a_g_sheets])) :: (a_g_rowCuts, .inl (ci 0, 5, .inl g_rowCuts)) :: (a_g_columnCuts, .inl (ci 0, 5, .inl g_columnCuts)) :: (a_g_bandRows, .inl (ci 0, 5, .inl g_bandRows)) :: (a_g_zoneColumns, .inl (ci 0, 5, .inl g_zoneColumns)) :: (a_g_rows, .inl (ci 0, 5, .inl g_rows)) :: (a_g_sheets, .inl (ci 0, 5, .inl g_sheets)) :: Rw))) (q_Q (some (.int r)) (q_O D A ((a_x, .inr (10, [.ref a_at, .ref a_g, .ref a_st, .ref a_x_kept, .int x_keptStates, .ref a_tp, .ref a_rd, .ref a_qu, .ref a_sp, .ref a_wk, .ref a_bx, .ref a_nt, .ref a_nu, .ref a_x_seen])) :: (a_bx, .inr (1, [.ref a_g, .int o1, .int o2, .int o3, .int o4])) :: (a_g, .inr (2, [.ref a_g_rowCuts, .ref a_g_columnCuts, .ref a_g_bandRows, .ref a_g_zoneColumns, .ref a_g_rows, .ref a_g_sheets])) :: (a_g_rowCuts, .inl (ci 0, 5, .inl g_rowCuts)) :: (a_g_columnCuts, .inl (ci 0, 5, .inl g_columnCuts)) :: (a_g_bandRows, .inl (ci 0, 5, .inl g_bandRows)) :: (a_g_zoneColumns, .inl (ci 0, 5, .inl g_zoneColumns)) :: (a_g_rows, .inl (ci 0, 5, .inl g_rows)) :: (a_g_sheets, .inl (ci 0, 5, .inl g_sheets)) :: Rw)) A) 0 0 A := by
  refine q_ofW (cc := cX10_cover) (maxL := 10) (ret := (some .int)) [.ref a_x, .int p1, .int p2, .int p3, .int p4, .int p5, .int p6] (plainFor_of_name (by decide)) rfl (Nat.le_of_ble_eq_true rfl) ?_
  intro p e s m below meth c ls Q hQ hx hb hml hr hts hown hlocks hK hA hZ hP hD hS hl
  have hl : lv_has ls 10 [(0, .ref a_x), (1, .int p1), (2, .int p2), (3, .int p3), (4, .int p4), (5, .int p5), (6, .int p6)] := hl
  have hown : s.vm.findClass RX10 = some m.cls := hown
  have hinX10 : ∀ w ∈ wsX100, w ∈ wsX10_cover := fun _ h => List.mem_cons_of_mem _ (inWX100 _ h)
  have w_1 := hts (Cond.fieldLink RX10 80 "SheetNames" "area" "LSheetNames$Box;") (List.mem_cons_of_mem _ t_w878)
  have w_2 := hts (Cond.constant RX10 306 (100000000)) (List.mem_cons_of_mem _ t_w894)
  unfold f_X_cover at hf
  have hgo : ∀ (H : Heap) (locs : List Loc), H = s.heap → va_P D vwCl ((a_x, .inr (10, [.ref a_at, .ref a_g, .ref a_st, .ref a_x_kept, .int x_keptStates, .ref a_tp, .ref a_rd, .ref a_qu, .ref a_sp, .ref a_wk, .ref a_bx, .ref a_nt, .ref a_nu, .ref a_x_seen])) :: (a_bx, .inr (1, [.ref a_g, .int bx_south, .int bx_north, .int bx_west, .int bx_east])) :: (a_g, .inr (2, [.ref a_g_rowCuts, .ref a_g_columnCuts, .ref a_g_bandRows, .ref a_g_zoneColumns, .ref a_g_rows, .ref a_g_sheets])) :: (a_g_rowCuts, .inl (ci 0, 5, .inl g_rowCuts)) :: (a_g_columnCuts, .inl (ci 0, 5, .inl g_columnCuts)) :: (a_g_bandRows, .inl (ci 0, 5, .inl g_bandRows)) :: (a_g_zoneColumns, .inl (ci 0, 5, .inl g_zoneColumns)) :: (a_g_rows, .inl (ci 0, 5, .inl g_rows)) :: (a_g_sheets, .inl (ci 0, 5, .inl g_sheets)) :: Rw) H → va_S A s.heap H locs → W p l e ({ frames := 6, cells := 0, slots := 0, locals := 154 } : Room) s m ([.ref a_x, .int p1, .int p2, .int p3, .int p4, .int p5, .int p6] : List Value).toArray below meth c H locs 0 0 Q (F0 m 0 ls []) := by
    intro H locs hH hP hS
    refine lv_iload_n (pc := 0) hx hb dX10_cover_0 rfl (lv_at hl 1 rfl) ?_
    refine lv_iload_n (pc := 1) hx hb dX10_cover_1 rfl (lv_at hl 2 rfl) ?_
    refine lv_iload_n (pc := 2) hx hb dX10_cover_2 rfl (lv_at hl 3 rfl) ?_
    refine lv_iload (pc := 3) hx hb dX10_cover_3 (lv_at hl 4 rfl) ?_
    obtain ⟨v1, hm5, hf⟩ := q_b1_e hf
    refine q_cSr (pc := 5) (As := [.int p1, .int p2, .int p3, .int p4]) (rest := []) (v0 := (some (.int v1))) ⟨hx, hb, hml, hown, hts⟩ hK hA hZ hP hD hS hl.1 [] 9 rfl ⟨rfl, rfl, rfl⟩ (c_X_isBox l D ci A sa N (Rw) p1 p2 p3 p4 v1 hm5) (va_cwS 4 hts gX10_cover_X10_isBox rfl rfl rfl (by decide +kernel) ⟨Nat.le_of_ble_eq_true rfl, Nat.le_of_ble_eq_true rfl⟩) rfl rfl (Nat.le_of_ble_eq_true rfl) dX10_cover_5 ⟨Nat.zero_le _, Nat.zero_le _⟩ (fun locs hS => ?_)
    refine q_if_eq (pc := 8) (tgt := 25) hx hb dX10_cover_8 (by decide) rfl hf (fun hf => ?_) (fun hf => ?_)
    · refine lv_iconst (pc := 25) (v := (-1)) hx hb dX10_cover_25 (by decide) ?_
      obtain ⟨e90, e91, e92, e93, e94⟩ := q_inj5 (Option.some.inj hf)
      rw [hQ, ← e90, ← e91, ← e92, ← e93, ← e94]
      exact q_iret (pc := 26) hx hb hr hlocks hP hD hS dX10_cover_26
    · refine lv_iload (pc := 11) hx hb dX10_cover_11 (lv_at hl 5 rfl) ?_
      obtain ⟨v2, hm13, hf⟩ := q_b1_e hf
      refine q_cSr (pc := 13) (As := [.int p5]) (rest := []) (v0 := (some (.int v2))) ⟨hx, hb, hml, hown, hts⟩ hK hA hZ hP hD hS hl.1 [] 9 rfl ⟨rfl, rfl, rfl⟩ (c_X_isLevel l D ci A sa N (Rw) p5 v2 hm13) (va_cwS 1 hts gX10_cover_X10_isLevel rfl rfl rfl (by decide +kernel) ⟨Nat.le_of_ble_eq_true rfl, Nat.le_of_ble_eq_true rfl⟩) rfl rfl (Nat.le_of_ble_eq_true rfl) dX10_cover_13 ⟨Nat.zero_le _, Nat.zero_le _⟩ (fun locs hS => ?_)
      refine q_if_eq (pc := 16) (tgt := 25) hx hb dX10_cover_16 (by decide) rfl hf (fun hf => ?_) (fun hf => ?_)
      · refine lv_iconst (pc := 25) (v := (-1)) hx hb dX10_cover_25 (by decide) ?_
        obtain ⟨e90, e91, e92, e93, e94⟩ := q_inj5 (Option.some.inj hf)
        rw [hQ, ← e90, ← e91, ← e92, ← e93, ← e94]
        exact q_iret (pc := 26) hx hb hr hlocks hP hD hS dX10_cover_26
      · refine lv_iload (pc := 19) hx hb dX10_cover_19 (lv_at hl 6 rfl) ?_
        refine lv_iconst (pc := 21) (v := (-1)) hx hb dX10_cover_21 (by decide) ?_
        refine q_icmp_ge (pc := 22) (tgt := 27) hx hb dX10_cover_22 (by decide) rfl hf (fun hf => ?_) (fun hf => ?_)
        · refine lv_aload_n (pc := 27) hx hb dX10_cover_27 rfl (lv_at hl 0 rfl) ?_
          refine va_get (pc := 28) (D := D) (ci := 10) (v := .ref a_bx) (C := RX10) (T := TX10) (N := 14) hx hb hts hinX10 hown hK hP 0 rfl rfl 10 (by decide) w_1 (fun _ h9 => h9) rfl dX10_cover_28 ?_
          refine lv_iload_n (pc := 31) hx hb dX10_cover_31 rfl (lv_at hl 1 rfl) ?_
          refine lv_iload_n (pc := 32) hx hb dX10_cover_32 rfl (lv_at hl 2 rfl) ?_
          refine lv_iload_n (pc := 33) hx hb dX10_cover_33 rfl (lv_at hl 3 rfl) ?_
          refine lv_iload (pc := 34) hx hb dX10_cover_34 (lv_at hl 4 rfl) ?_
          obtain ⟨v3, v4, v5, v6, hm36, hf⟩ := q_b4_e hf
          refine q_cV (pc := 36) (As := [.int p1, .int p2, .int p3, .int p4]) (rest := []) (v0 := none) ⟨hx, hb, hml, hown, hts⟩ hK hA hZ hP hD hS hl.1 [1, 0, 2, 3, 4, 5, 6, 7, 8] 9 rfl ⟨rfl, rfl, rfl⟩ (c_Box_set l D ci A sa N ((a_x, .inr (10, [.ref a_at, .ref a_g, .ref a_st, .ref a_x_kept, .int x_keptStates, .ref a_tp, .ref a_rd, .ref a_qu, .ref a_sp, .ref a_wk, .ref a_bx, .ref a_nt, .ref a_nu, .ref a_x_seen])) :: (a_g, .inr (2, [.ref a_g_rowCuts, .ref a_g_columnCuts, .ref a_g_bandRows, .ref a_g_zoneColumns, .ref a_g_rows, .ref a_g_sheets])) :: (a_g_rowCuts, .inl (ci 0, 5, .inl g_rowCuts)) :: (a_g_columnCuts, .inl (ci 0, 5, .inl g_columnCuts)) :: (a_g_bandRows, .inl (ci 0, 5, .inl g_bandRows)) :: (a_g_zoneColumns, .inl (ci 0, 5, .inl g_zoneColumns)) :: (a_g_rows, .inl (ci 0, 5, .inl g_rows)) :: (a_g_sheets, .inl (ci 0, 5, .inl g_sheets)) :: Rw) a_bx a_g bx_south bx_north bx_west bx_east p1 p2 p3 p4 v3 v4 v5 v6 hm36) 1 rfl rfl (cwV 4 hts gX10_cover_X1_set rfl rfl rfl (by decide +kernel) ⟨Nat.le_of_ble_eq_true rfl, Nat.le_of_ble_eq_true rfl⟩) rfl rfl (Nat.le_of_ble_eq_true rfl) dX10_cover_36 ⟨Nat.zero_le _, Nat.zero_le _⟩ [1, 0, 2, 3, 4, 5, 6, 7, 8] 9 rfl ⟨rfl, rfl, rfl⟩ (fun H locs hP hD hS => ?_)
          obtain ⟨hP, hD⟩ : va_PD D A ((a_x, .inr (10, [.ref a_at, .ref a_g, .ref a_st, .ref a_x_kept, .int x_keptStates, .ref a_tp, .ref a_rd, .ref a_qu, .ref a_sp, .ref a_wk, .ref a_bx, .ref a_nt, .ref a_nu, .ref a_x_seen])) :: (a_bx, .inr (1, [.ref a_g, .int v3, .int v4, .int v5, .int v6])) :: (a_g, .inr (2, [.ref a_g_rowCuts, .ref a_g_columnCuts, .ref a_g_bandRows, .ref a_g_zoneColumns, .ref a_g_rows, .ref a_g_sheets])) :: (a_g_rowCuts, .inl (ci 0, 5, .inl g_rowCuts)) :: (a_g_columnCuts, .inl (ci 0, 5, .inl g_columnCuts)) :: (a_g_bandRows, .inl (ci 0, 5, .inl g_bandRows)) :: (a_g_zoneColumns, .inl (ci 0, 5, .inl g_zoneColumns)) :: (a_g_rows, .inl (ci 0, 5, .inl g_rows)) :: (a_g_sheets, .inl (ci 0, 5, .inl g_sheets)) :: Rw) H := ⟨hP, hD⟩
          refine lv_aload_n (pc := 39) hx hb dX10_cover_39 rfl (lv_at hl 0 rfl) ?_
          refine va_get (pc := 40) (D := D) (ci := 10) (v := .ref a_bx) (C := RX10) (T := TX10) (N := 14) hx hb hts hinX10 hown hK hP 0 rfl rfl 10 (by decide) w_1 (fun _ h9 => h9) rfl dX10_cover_40 ?_
          refine lv_iload (pc := 43) hx hb dX10_cover_43 (lv_at hl 5 rfl) ?_
          obtain ⟨v7, hm45, hf⟩ := q_b1_e hf
          refine q_cVr (pc := 45) (As := [.int p5]) (rest := []) (v0 := (some (.int v7))) ⟨hx, hb, hml, hown, hts⟩ hK hA hZ hP hD hS hl.1 [1, 2, 5, 6, 7] 9 rfl ⟨rfl, rfl, rfl⟩ (c_Box_sheetsAt l D ci A sa N (Rw) a_bx a_g a_g_rowCuts a_g_columnCuts a_g_bandRows a_g_zoneColumns a_g_rows a_g_sheets v3 v4 v5 v6 g_bandRows g_zoneColumns g_rows p5 v7 hm45) 1 rfl rfl (cwV 1 hts gX10_cover_X1_sheetsAt rfl rfl rfl (by decide +kernel) ⟨Nat.le_of_ble_eq_true rfl, Nat.le_of_ble_eq_true rfl⟩) rfl rfl (Nat.le_of_ble_eq_true rfl) dX10_cover_45 ⟨Nat.zero_le _, Nat.zero_le _⟩ (fun locs hS => ?_)
          refine lv_sipush (pc := 48) (v := 4000) hx hb dX10_cover_48 (by decide) ?_
          refine q_icmp_le (pc := 51) (tgt := 57) hx hb dX10_cover_51 (by decide) rfl hf (fun hf => ?_) (fun hf => ?_)
          · refine lv_iconst (pc := 57) (v := 0) hx hb dX10_cover_57 (by decide) ?_
            obtain ⟨v8, ev8, hf⟩ := q_nm_e hf
            refine q_topi ev8 ?_
            refine lv_istore (pc := 58) (lv' := [(7, .int v8), (0, .ref a_x), (1, .int p1), (2, .int p2), (3, .int p3), (4, .int p4), (5, .int p5), (6, .int p6)]) hx hb dX10_cover_58 hl (by decide) rfl (fun ls hl => ?_)
            refine lv_iconst (pc := 60) (v := 0) hx hb dX10_cover_60 (by decide) ?_
            obtain ⟨v9, ev9, hf⟩ := q_nm_e hf
            refine q_topi ev9 ?_
            refine lv_istore (pc := 61) (lv' := [(8, .int v9), (7, .int v8), (0, .ref a_x), (1, .int p1), (2, .int p2), (3, .int p3), (4, .int p4), (5, .int p5), (6, .int p6)]) hx hb dX10_cover_61 hl (by decide) rfl (fun ls hl => ?_)
            obtain ⟨k63, o63_, ek63, hm63, hk63⟩ := q_s1_k hf
            have JE63 : ∀ (v12 : Int32) (H : Heap) (locs : List Loc) (ls : Array Slot), k63 v12 = some (r, o1, o2, o3, o4) → va_P D vwCl ((a_x, .inr (10, [.ref a_at, .ref a_g, .ref a_st, .ref a_x_kept, .int x_keptStates, .ref a_tp, .ref a_rd, .ref a_qu, .ref a_sp, .ref a_wk, .ref a_bx, .ref a_nt, .ref a_nu, .ref a_x_seen])) :: (a_bx, .inr (1, [.ref a_g, .int v3, .int v4, .int v5, .int v6])) :: (a_g, .inr (2, [.ref a_g_rowCuts, .ref a_g_columnCuts, .ref a_g_bandRows, .ref a_g_zoneColumns, .ref a_g_rows, .ref a_g_sheets])) :: (a_g_rowCuts, .inl (ci 0, 5, .inl g_rowCuts)) :: (a_g_columnCuts, .inl (ci 0, 5, .inl g_columnCuts)) :: (a_g_bandRows, .inl (ci 0, 5, .inl g_bandRows)) :: (a_g_zoneColumns, .inl (ci 0, 5, .inl g_zoneColumns)) :: (a_g_rows, .inl (ci 0, 5, .inl g_rows)) :: (a_g_sheets, .inl (ci 0, 5, .inl g_sheets)) :: Rw) H → va_D A ((a_x, .inr (10, [.ref a_at, .ref a_g, .ref a_st, .ref a_x_kept, .int x_keptStates, .ref a_tp, .ref a_rd, .ref a_qu, .ref a_sp, .ref a_wk, .ref a_bx, .ref a_nt, .ref a_nu, .ref a_x_seen])) :: (a_bx, .inr (1, [.ref a_g, .int v3, .int v4, .int v5, .int v6])) :: (a_g, .inr (2, [.ref a_g_rowCuts, .ref a_g_columnCuts, .ref a_g_bandRows, .ref a_g_zoneColumns, .ref a_g_rows, .ref a_g_sheets])) :: (a_g_rowCuts, .inl (ci 0, 5, .inl g_rowCuts)) :: (a_g_columnCuts, .inl (ci 0, 5, .inl g_columnCuts)) :: (a_g_bandRows, .inl (ci 0, 5, .inl g_bandRows)) :: (a_g_zoneColumns, .inl (ci 0, 5, .inl g_zoneColumns)) :: (a_g_rows, .inl (ci 0, 5, .inl g_rows)) :: (a_g_sheets, .inl (ci 0, 5, .inl g_sheets)) :: Rw) → va_S A s.heap H locs → lv_has ls 10 [(6, .int p6), (7, .int v12)] → W p l e ({ frames := 6, cells := 0, slots := 0, locals := 154 } : Room) s m ([.ref a_x, .int p1, .int p2, .int p3, .int p4, .int p5, .int p6] : List Value).toArray below meth c H locs 0 0 Q (F0 m 135 ls []) := by
              intro v12 H locs ls hf hP hD hS hl
              have hf := (ek63 v12).symm.trans hf
              refine lv_iload (pc := 135) hx hb dX10_cover_135 (lv_at hl 0 rfl) ?_
              refine lv_iconst (pc := 137) (v := (-1)) hx hb dX10_cover_137 (by decide) ?_
              refine q_icmp_ne (pc := 138) (tgt := 146) hx hb dX10_cover_138 (by decide) rfl hf (fun hf => ?_) (fun hf => ?_)
              · refine lv_bipush (pc := 146) (v := (-3)) hx hb dX10_cover_146 (by decide) ?_
                obtain ⟨e90, e91, e92, e93, e94⟩ := q_inj5 (Option.some.inj hf)
                rw [hQ, ← e90, ← e91, ← e92, ← e93, ← e94]
                exact q_iret (pc := 148) hx hb hr hlocks hP hD hS dX10_cover_148
              · refine lv_iload (pc := 141) hx hb dX10_cover_141 (lv_at hl 1 rfl) ?_
                refine lv_goto (pc := 143) (tgt := 148) hx hb dX10_cover_143 (by decide) ?_
                obtain ⟨e90, e91, e92, e93, e94⟩ := q_inj5 (Option.some.inj hf)
                rw [hQ, ← e90, ← e91, ← e92, ← e93, ← e94]
                exact q_iret (pc := 148) hx hb hr hlocks hP hD hS dX10_cover_148
            have LP63 : ∀ (n63 : Nat) (v10 : Int32) (v11 : Int32) (H : Heap) (locs : List Loc) (ls : Array Slot), f_X_cover_L63 N g_bandRows g_columnCuts g_rowCuts g_rows g_sheets g_zoneColumns p5 p6 v3 v4 v5 v6 n63 v10 v11 = some o63_ → va_P D vwCl ((a_x, .inr (10, [.ref a_at, .ref a_g, .ref a_st, .ref a_x_kept, .int x_keptStates, .ref a_tp, .ref a_rd, .ref a_qu, .ref a_sp, .ref a_wk, .ref a_bx, .ref a_nt, .ref a_nu, .ref a_x_seen])) :: (a_bx, .inr (1, [.ref a_g, .int v3, .int v4, .int v5, .int v6])) :: (a_g, .inr (2, [.ref a_g_rowCuts, .ref a_g_columnCuts, .ref a_g_bandRows, .ref a_g_zoneColumns, .ref a_g_rows, .ref a_g_sheets])) :: (a_g_rowCuts, .inl (ci 0, 5, .inl g_rowCuts)) :: (a_g_columnCuts, .inl (ci 0, 5, .inl g_columnCuts)) :: (a_g_bandRows, .inl (ci 0, 5, .inl g_bandRows)) :: (a_g_zoneColumns, .inl (ci 0, 5, .inl g_zoneColumns)) :: (a_g_rows, .inl (ci 0, 5, .inl g_rows)) :: (a_g_sheets, .inl (ci 0, 5, .inl g_sheets)) :: Rw) H → va_D A ((a_x, .inr (10, [.ref a_at, .ref a_g, .ref a_st, .ref a_x_kept, .int x_keptStates, .ref a_tp, .ref a_rd, .ref a_qu, .ref a_sp, .ref a_wk, .ref a_bx, .ref a_nt, .ref a_nu, .ref a_x_seen])) :: (a_bx, .inr (1, [.ref a_g, .int v3, .int v4, .int v5, .int v6])) :: (a_g, .inr (2, [.ref a_g_rowCuts, .ref a_g_columnCuts, .ref a_g_bandRows, .ref a_g_zoneColumns, .ref a_g_rows, .ref a_g_sheets])) :: (a_g_rowCuts, .inl (ci 0, 5, .inl g_rowCuts)) :: (a_g_columnCuts, .inl (ci 0, 5, .inl g_columnCuts)) :: (a_g_bandRows, .inl (ci 0, 5, .inl g_bandRows)) :: (a_g_zoneColumns, .inl (ci 0, 5, .inl g_zoneColumns)) :: (a_g_rows, .inl (ci 0, 5, .inl g_rows)) :: (a_g_sheets, .inl (ci 0, 5, .inl g_sheets)) :: Rw) → va_S A s.heap H locs → lv_has ls 10 [(0, .ref a_x), (5, .int p5), (6, .int p6), (7, .int v10), (8, .int v11)] → W p l e ({ frames := 6, cells := 0, slots := 0, locals := 154 } : Room) s m ([.ref a_x, .int p1, .int p2, .int p3, .int p4, .int p5, .int p6] : List Value).toArray below meth c H locs 0 0 Q (F0 m 63 ls []) := by
              intro n63
              induction n63 with
              | zero => intro v10 v11 H locs ls hf; rw [f_X_cover_L63] at hf; cases hf
              | succ n63 ih63 =>
                intro v10 v11 H locs ls hf hP hD hS hl
                rw [f_X_cover_L63] at hf
                refine lv_iload (pc := 63) hx hb dX10_cover_63 (lv_at hl 4 rfl) ?_
                refine lv_iload (pc := 65) hx hb dX10_cover_65 (lv_at hl 1 rfl) ?_
                refine q_icmp_gt (pc := 67) (tgt := 135) hx hb dX10_cover_67 (by decide) rfl hf (fun hf => ?_) (fun hf => ?_)
                · obtain rfl := Option.some.inj hf
                  exact JE63 v10 _ _ _ hk63 hP hD hS (lv_sub hl [2, 3] rfl)
                · refine lv_aload_n (pc := 70) hx hb dX10_cover_70 rfl (lv_at hl 0 rfl) ?_
                  refine va_get (pc := 71) (D := D) (ci := 10) (v := .ref a_bx) (C := RX10) (T := TX10) (N := 14) hx hb hts hinX10 hown hK hP 0 rfl rfl 10 (by decide) w_1 (fun _ h9 => h9) rfl dX10_cover_71 ?_
                  refine lv_iload (pc := 74) hx hb dX10_cover_74 (lv_at hl 4 rfl) ?_
                  refine lv_iload (pc := 76) hx hb dX10_cover_76 (lv_at hl 1 rfl) ?_
                  obtain ⟨v13, hm78, hf⟩ := q_b1_e hf
                  refine q_cVr (pc := 78) (As := [.int v11, .int p5]) (rest := []) (v0 := (some (.int v13))) ⟨hx, hb, hml, hown, hts⟩ hK hA hZ hP hD hS hl.1 [1, 2, 3, 4, 5, 6, 7] 9 rfl ⟨rfl, rfl, rfl⟩ (c_Box_coverAt l D ci A sa N (Rw) a_bx a_g a_g_rowCuts a_g_columnCuts a_g_bandRows a_g_zoneColumns a_g_rows a_g_sheets v3 v4 v5 v6 g_rowCuts g_columnCuts g_bandRows g_zoneColumns g_rows v11 p5 v13 hm78) 1 rfl rfl (cwV 2 hts gX10_cover_X1_coverAt rfl rfl rfl (by decide +kernel) ⟨Nat.le_of_ble_eq_true rfl, Nat.le_of_ble_eq_true rfl⟩) rfl rfl (Nat.le_of_ble_eq_true rfl) dX10_cover_78 ⟨Nat.zero_le _, Nat.zero_le _⟩ (fun locs hS => ?_)
                  refine lv_istore (pc := 81) (lv' := [(9, .int v13), (0, .ref a_x), (5, .int p5), (6, .int p6), (7, .int v10), (8, .int v11)]) hx hb dX10_cover_81 hl (by decide) rfl (fun ls hl => ?_)
                  refine lv_iload (pc := 83) hx hb dX10_cover_83 (lv_at hl 3 rfl) ?_
                  obtain ⟨k122, ek122, hf⟩ := q_j0_e hf
                  have J122 : ∀  (H : Heap) (locs : List Loc) (ls : Array Slot), k122 = some o63_ → va_P D vwCl ((a_x, .inr (10, [.ref a_at, .ref a_g, .ref a_st, .ref a_x_kept, .int x_keptStates, .ref a_tp, .ref a_rd, .ref a_qu, .ref a_sp, .ref a_wk, .ref a_bx, .ref a_nt, .ref a_nu, .ref a_x_seen])) :: (a_bx, .inr (1, [.ref a_g, .int v3, .int v4, .int v5, .int v6])) :: (a_g, .inr (2, [.ref a_g_rowCuts, .ref a_g_columnCuts, .ref a_g_bandRows, .ref a_g_zoneColumns, .ref a_g_rows, .ref a_g_sheets])) :: (a_g_rowCuts, .inl (ci 0, 5, .inl g_rowCuts)) :: (a_g_columnCuts, .inl (ci 0, 5, .inl g_columnCuts)) :: (a_g_bandRows, .inl (ci 0, 5, .inl g_bandRows)) :: (a_g_zoneColumns, .inl (ci 0, 5, .inl g_zoneColumns)) :: (a_g_rows, .inl (ci 0, 5, .inl g_rows)) :: (a_g_sheets, .inl (ci 0, 5, .inl g_sheets)) :: Rw) H → va_D A ((a_x, .inr (10, [.ref a_at, .ref a_g, .ref a_st, .ref a_x_kept, .int x_keptStates, .ref a_tp, .ref a_rd, .ref a_qu, .ref a_sp, .ref a_wk, .ref a_bx, .ref a_nt, .ref a_nu, .ref a_x_seen])) :: (a_bx, .inr (1, [.ref a_g, .int v3, .int v4, .int v5, .int v6])) :: (a_g, .inr (2, [.ref a_g_rowCuts, .ref a_g_columnCuts, .ref a_g_bandRows, .ref a_g_zoneColumns, .ref a_g_rows, .ref a_g_sheets])) :: (a_g_rowCuts, .inl (ci 0, 5, .inl g_rowCuts)) :: (a_g_columnCuts, .inl (ci 0, 5, .inl g_columnCuts)) :: (a_g_bandRows, .inl (ci 0, 5, .inl g_bandRows)) :: (a_g_zoneColumns, .inl (ci 0, 5, .inl g_zoneColumns)) :: (a_g_rows, .inl (ci 0, 5, .inl g_rows)) :: (a_g_sheets, .inl (ci 0, 5, .inl g_sheets)) :: Rw) → va_S A s.heap H locs → lv_has ls 10 [(0, .ref a_x), (5, .int p5), (6, .int p6), (7, .int v10), (8, .int v11), (9, .int v13)] → W p l e ({ frames := 6, cells := 0, slots := 0, locals := 154 } : Room) s m ([.ref a_x, .int p1, .int p2, .int p3, .int p4, .int p5, .int p6] : List Value).toArray below meth c H locs 0 0 Q (F0 m 122 ls []) := by
                    intro  H locs ls hf hP hD hS hl
                    have hf := (ek122).symm.trans hf
                    refine lv_iload (pc := 122) hx hb dX10_cover_122 (lv_at hl 3 rfl) ?_
                    refine lv_iload (pc := 124) hx hb dX10_cover_124 (lv_at hl 5 rfl) ?_
                    refine lv_iadd (pc := 126) hx hb dX10_cover_126 ?_
                    obtain ⟨v14, ev14, hf⟩ := q_nm_e hf
                    refine q_topi ev14 ?_
                    refine lv_istore (pc := 127) (lv' := [(7, .int v14), (0, .ref a_x), (5, .int p5), (6, .int p6), (8, .int v11), (9, .int v13)]) hx hb dX10_cover_127 hl (by decide) rfl (fun ls hl => ?_)
                    obtain ⟨v15, ev15, hf⟩ := q_nm_e hf
                    refine lv_iinc (pc := 129) (v := v15) (lv' := [(8, .int v15), (7, .int v14), (0, .ref a_x), (5, .int p5), (6, .int p6), (9, .int v13)]) hx hb dX10_cover_129 hl (k := 4) rfl (by rw [ev15]; rfl) (by decide) rfl (fun ls hl => ?_)
                    refine lv_goto (pc := 132) (tgt := 63) hx hb dX10_cover_132 (by decide) ?_
                    exact ih63 v14 v15 _ _ _ hf hP hD hS (lv_sub hl [2, 3, 4, 1, 0] rfl)
                  refine q_if_lt (pc := 85) (tgt := 122) hx hb dX10_cover_85 (by decide) rfl hf (fun hf => ?_) (fun hf => ?_)
                  · exact J122  _ _ _ hf hP hD hS (lv_sub hl [1, 2, 3, 4, 5, 0] rfl)
                  · refine lv_iload (pc := 88) hx hb dX10_cover_88 (lv_at hl 3 rfl) ?_
                    refine lv_iload (pc := 90) hx hb dX10_cover_90 (lv_at hl 4 rfl) ?_
                    refine lv_isub (pc := 92) hx hb dX10_cover_92 ?_
                    refine lv_iload (pc := 93) hx hb dX10_cover_93 (lv_at hl 0 rfl) ?_
                    refine q_icmp_ge (pc := 95) (tgt := 122) hx hb dX10_cover_95 (by decide) rfl hf (fun hf => ?_) (fun hf => ?_)
                    · exact J122  _ _ _ hf hP hD hS (lv_sub hl [1, 2, 3, 4, 5, 0] rfl)
                    · refine lv_iload (pc := 98) hx hb dX10_cover_98 (lv_at hl 5 rfl) ?_
                      refine lv_ldcw (pc := 100) (v := 100000000) hx hb hown w_2 dX10_cover_100 ?_
                      refine lv_imul (pc := 103) hx hb dX10_cover_103 ?_
                      refine lv_aload_n (pc := 104) hx hb dX10_cover_104 rfl (lv_at hl 1 rfl) ?_
                      refine va_get (pc := 105) (D := D) (ci := 10) (v := .ref a_bx) (C := RX10) (T := TX10) (N := 14) hx hb hts hinX10 hown hK hP 0 rfl rfl 10 (by decide) w_1 (fun _ h9 => h9) rfl dX10_cover_105 ?_
                      refine lv_iload (pc := 108) hx hb dX10_cover_108 (lv_at hl 5 rfl) ?_
                      refine lv_iload (pc := 110) hx hb dX10_cover_110 (lv_at hl 2 rfl) ?_
                      refine lv_iload (pc := 112) hx hb dX10_cover_112 (lv_at hl 3 rfl) ?_
                      refine lv_iload (pc := 114) hx hb dX10_cover_114 (lv_at hl 4 rfl) ?_
                      refine lv_isub (pc := 116) hx hb dX10_cover_116 ?_
                      obtain ⟨v16, hm117, hf⟩ := q_b1_e hf
                      refine q_cVr (pc := 117) (As := [.int v11, .int p5, .int (p6 - v10)]) (rest := [.int (v11 * 100000000)]) (v0 := (some (.int v16))) ⟨hx, hb, hml, hown, hts⟩ hK hA hZ hP hD hS hl.1 [1, 2, 3, 4, 5, 6, 7, 8] 9 rfl ⟨rfl, rfl, rfl⟩ (c_Box_coverSheet l D ci A sa N (Rw) a_bx a_g a_g_rowCuts a_g_columnCuts a_g_bandRows a_g_zoneColumns a_g_rows a_g_sheets v3 v4 v5 v6 g_rowCuts g_columnCuts g_bandRows g_zoneColumns g_rows g_sheets v11 p5 (p6 - v10) v16 hm117) 1 rfl rfl (cwV 3 hts gX10_cover_X1_coverSheet rfl rfl rfl (by decide +kernel) ⟨Nat.le_of_ble_eq_true rfl, Nat.le_of_ble_eq_true rfl⟩) rfl rfl (Nat.le_of_ble_eq_true rfl) dX10_cover_117 ⟨Nat.zero_le _, Nat.zero_le _⟩ (fun locs hS => ?_)
                      refine lv_iadd (pc := 120) hx hb dX10_cover_120 ?_
                      obtain rfl := Option.some.inj hf
                      have hk63 : ((((v11 * 100000000) + v16), v3, v4, v5, v6) : Int32 × Int32 × Int32 × Int32 × Int32) = (r, o1, o2, o3, o4) := hk63
                      obtain ⟨e90, e91, e92, e93, e94⟩ := q_inj5 (hk63)
                      rw [hQ, ← e90, ← e91, ← e92, ← e93, ← e94]
                      exact q_iret (pc := 121) hx hb hr hlocks hP hD hS dX10_cover_121
            exact LP63 N v8 v9 _ _ _ hm63 hP hD hS (lv_sub hl [2, 7, 8, 1, 0] rfl)
          · refine lv_bipush (pc := 54) (v := (-2)) hx hb dX10_cover_54 (by decide) ?_
            obtain ⟨e90, e91, e92, e93, e94⟩ := q_inj5 (Option.some.inj hf)
            rw [hQ, ← e90, ← e91, ← e92, ← e93, ← e94]
            exact q_iret (pc := 56) hx hb hr hlocks hP hD hS dX10_cover_56
        · refine lv_iconst (pc := 25) (v := (-1)) hx hb dX10_cover_25 (by decide) ?_
          obtain ⟨e90, e91, e92, e93, e94⟩ := q_inj5 (Option.some.inj hf)
          rw [hQ, ← e90, ← e91, ← e92, ← e93, ← e94]
          exact q_iret (pc := 26) hx hb hr hlocks hP hD hS dX10_cover_26
  exact hgo _ _ rfl hP hS
/-! X10_cut -/
set_option maxRecDepth 100000 in
set_option maxHeartbeats 4000000 in
theorem c_X_cut (l : Launch) (D : va_G) (ci : Nat → ClassId) (A : Nat → Prop) (sa : Nat → Nat) (N : Nat) (Rw : va_W) (a_x : Nat) (a_at : Nat) (a_g : Nat) (a_st : Nat) (a_x_kept : Nat) (a_tp : Nat) (a_rd : Nat) (a_qu : Nat) (a_sp : Nat) (a_wk : Nat) (a_bx : Nat) (a_nt : Nat) (a_nu : Nat) (a_x_seen : Nat) (a_st_levels : Nat) (a_st_keys : Nat) (a_st_years : Nat) (a_st_keysThere : Nat) (a_g_rowCuts : Nat) (a_g_columnCuts : Nat) (a_g_bandRows : Nat) (a_g_zoneColumns : Nat) (a_g_rows : Nat) (a_g_sheets : Nat) (x_keptStates : Int32) (st_size : Int32) (st_shownBy : Int32) (st_deepestShown : Int32) (st_latestShown : Int32) (g_rowCuts : Nat → Int32) (g_columnCuts : Nat → Int32) (g_bandRows : Nat → Int32) (g_zoneColumns : Nat → Int32) (g_rows : Nat → Int32) (g_sheets : Nat → Int32) (p1 : Int32) (p2 : Int32) (p3 : Int32) (r : Int32) (o1 : Nat → Int32) (o2 : Nat → Int32) (o3 : Nat → Int32) (o4 : Nat → Int32) (o5 : Nat → Int32) (o6 : Nat → Int32) (hf : f_X_cut N st_size g_rowCuts g_columnCuts g_bandRows g_zoneColumns g_rows g_sheets p1 p2 p3 = some (r, o1, o2, o3, o4, o5, o6)) : Met l yX10_cut wsX10_cut ({ frames := 2, cells := 0, slots := 0, locals := 46 }) (va_Pc [.ref a_x, .int p1, .int p2, .int p3] (q_N D ci A sa ((a_x, .inr (10, [.ref a_at, .ref a_g, .ref a_st, .ref a_x_kept, .int x_keptStates, .ref a_tp, .ref a_rd, .ref a_qu, .ref a_sp, .ref a_wk, .ref a_bx, .ref a_nt, .ref a_nu, .ref a_x_seen])) :: (a_st, .inr (7, [.ref a_g, .ref a_st_levels, .ref a_st_keys, .ref a_st_years, .ref a_st_keysThere, .int st_size, .int st_shownBy, .int st_deepestShown, .int st_latestShown])) :: (a_g, .inr (2, [.ref a_g_rowCuts, .ref a_g_columnCuts, .ref a_g_bandRows, .ref a_g_zoneColumns, .ref a_g_rows, .ref a_g_sheets])) :: (a_g_rowCuts, .inl (ci 0, 5, .inl g_rowCuts)) :: (a_g_columnCuts, .inl (ci 0, 5, .inl g_columnCuts)) :: (a_g_bandRows, .inl (ci 0, 5, .inl g_bandRows)) :: (a_g_zoneColumns, .inl (ci 0, 5, .inl g_zoneColumns)) :: (a_g_rows, .inl (ci 0, 5, .inl g_rows)) :: (a_g_sheets, .inl (ci 0, 5, .inl g_sheets)) :: Rw))) (q_Q (some (.int r)) (q_O D A ((a_x, .inr (10, [.ref a_at, .ref a_g, .ref a_st, .ref a_x_kept, .int x_keptStates, .ref a_tp, .ref a_rd, .ref a_qu, .ref a_sp, .ref a_wk, .ref a_bx, .ref a_nt, .ref a_nu, .ref a_x_seen])) :: (a_st, .inr (7, [.ref a_g, .ref a_st_levels, .ref a_st_keys, .ref a_st_years, .ref a_st_keysThere, .int st_size, .int st_shownBy, .int st_deepestShown, .int st_latestShown])) :: (a_g, .inr (2, [.ref a_g_rowCuts, .ref a_g_columnCuts, .ref a_g_bandRows, .ref a_g_zoneColumns, .ref a_g_rows, .ref a_g_sheets])) :: (a_g_rowCuts, .inl (ci 0, 5, .inl o1)) :: (a_g_columnCuts, .inl (ci 0, 5, .inl o2)) :: (a_g_bandRows, .inl (ci 0, 5, .inl o3)) :: (a_g_zoneColumns, .inl (ci 0, 5, .inl o4)) :: (a_g_rows, .inl (ci 0, 5, .inl o5)) :: (a_g_sheets, .inl (ci 0, 5, .inl o6)) :: Rw)) A) 0 0 A := by
  refine q_ofW (cc := cX10_cut) (maxL := 4) (ret := (some .int)) [.ref a_x, .int p1, .int p2, .int p3] (plainFor_of_name (by decide)) rfl (Nat.le_of_ble_eq_true rfl) ?_
  intro p e s m below meth c ls Q hQ hx hb hml hr hts hown hlocks hK hA hZ hP hD hS hl
  have hl : lv_has ls 4 [(0, .ref a_x), (1, .int p1), (2, .int p2), (3, .int p3)] := hl
  have hown : s.vm.findClass RX10 = some m.cls := hown
  have hinX10 : ∀ w ∈ wsX100, w ∈ wsX10_cut := fun _ h => List.mem_cons_of_mem _ (inWX100 _ h)
  have hinX2 : ∀ w ∈ wsX20, w ∈ wsX10_cut := fun _ h => List.mem_cons_of_mem _ (inWX20 _ h)
  have hinX7 : ∀ w ∈ wsX70, w ∈ wsX10_cut := fun _ h => List.mem_cons_of_mem _ (inWX70 _ h)
  have w_1 := hts (Cond.fieldLink RX10 25 "SheetNames" "pieces" "LSheetNames$Store;") (List.mem_cons_of_mem _ t_w892)
  have w_2 := hts (Cond.fieldLink RX10 20 "SheetNames" "grid" "LSheetNames$Grid;") (List.mem_cons_of_mem _ t_w876)
  have w_3 := hts (Cond.constantLong RX10 120 (20000000)) (List.mem_cons_of_mem _ t_w895)
  have wn_0 : (Cond.fieldLinkNest "SheetNames" 109 "SheetNames$Store" "size" "I" "SheetNames").before ([.ref a_x, .int p1, .int p2, .int p3] : List Value).toArray s = true := (hZ.2.2.2.2.2.2.2.2.2.1 _ (List.mem_of_getElem? (i := 0) rfl)).use rfl
  have wn_1 : (Cond.fieldLinkNest "SheetNames" 126 "SheetNames$Grid" "sheets" "[I" "SheetNames").before ([.ref a_x, .int p1, .int p2, .int p3] : List Value).toArray s = true := (hZ.2.2.2.2.2.2.2.2.2.1 _ (List.mem_of_getElem? (i := 1) rfl)).use rfl
  unfold f_X_cut at hf
  have hgo : ∀ (H : Heap) (locs : List Loc), H = s.heap → va_P D vwCl ((a_x, .inr (10, [.ref a_at, .ref a_g, .ref a_st, .ref a_x_kept, .int x_keptStates, .ref a_tp, .ref a_rd, .ref a_qu, .ref a_sp, .ref a_wk, .ref a_bx, .ref a_nt, .ref a_nu, .ref a_x_seen])) :: (a_st, .inr (7, [.ref a_g, .ref a_st_levels, .ref a_st_keys, .ref a_st_years, .ref a_st_keysThere, .int st_size, .int st_shownBy, .int st_deepestShown, .int st_latestShown])) :: (a_g, .inr (2, [.ref a_g_rowCuts, .ref a_g_columnCuts, .ref a_g_bandRows, .ref a_g_zoneColumns, .ref a_g_rows, .ref a_g_sheets])) :: (a_g_rowCuts, .inl (ci 0, 5, .inl g_rowCuts)) :: (a_g_columnCuts, .inl (ci 0, 5, .inl g_columnCuts)) :: (a_g_bandRows, .inl (ci 0, 5, .inl g_bandRows)) :: (a_g_zoneColumns, .inl (ci 0, 5, .inl g_zoneColumns)) :: (a_g_rows, .inl (ci 0, 5, .inl g_rows)) :: (a_g_sheets, .inl (ci 0, 5, .inl g_sheets)) :: Rw) H → va_S A s.heap H locs → W p l e ({ frames := 2, cells := 0, slots := 0, locals := 46 } : Room) s m ([.ref a_x, .int p1, .int p2, .int p3] : List Value).toArray below meth c H locs 0 0 Q (F0 m 0 ls []) := by
    intro H locs hH hP hS
    refine lv_iload_n (pc := 0) hx hb dX10_cut_0 rfl (lv_at hl 1 rfl) ?_
    refine lv_iconst (pc := 1) (v := 1) hx hb dX10_cut_1 (by decide) ?_
    refine q_icmp_lt (pc := 2) (tgt := 30) hx hb dX10_cut_2 (by decide) rfl hf (fun hf => ?_) (fun hf => ?_)
    · refine lv_iconst (pc := 30) (v := (-1)) hx hb dX10_cut_30 (by decide) ?_
      obtain ⟨e90, e91, e92, e93, e94, e95, e96⟩ := q_inj7 (Option.some.inj hf)
      rw [hQ, ← e90, ← e91, ← e92, ← e93, ← e94, ← e95, ← e96]
      exact q_iret (pc := 31) hx hb hr hlocks hP hD hS dX10_cut_31
    · refine lv_iload_n (pc := 5) hx hb dX10_cut_5 rfl (lv_at hl 1 rfl) ?_
      refine lv_iconst (pc := 6) (v := 4) hx hb dX10_cut_6 (by decide) ?_
      refine q_icmp_gt (pc := 7) (tgt := 30) hx hb dX10_cut_7 (by decide) rfl hf (fun hf => ?_) (fun hf => ?_)
      · refine lv_iconst (pc := 30) (v := (-1)) hx hb dX10_cut_30 (by decide) ?_
        obtain ⟨e90, e91, e92, e93, e94, e95, e96⟩ := q_inj7 (Option.some.inj hf)
        rw [hQ, ← e90, ← e91, ← e92, ← e93, ← e94, ← e95, ← e96]
        exact q_iret (pc := 31) hx hb hr hlocks hP hD hS dX10_cut_31
      · refine lv_iload_n (pc := 10) hx hb dX10_cut_10 rfl (lv_at hl 2 rfl) ?_
        refine lv_iconst (pc := 11) (v := 1) hx hb dX10_cut_11 (by decide) ?_
        refine lv_bipush (pc := 12) (v := 6) hx hb dX10_cut_12 (by decide) ?_
        obtain ⟨v1, hm14, hf⟩ := q_b1_e hf
        refine q_cSr (pc := 14) (As := [.int p2, .int 1, .int 6]) (rest := []) (v0 := (some (.int v1))) ⟨hx, hb, hml, hown, hts⟩ hK hA hZ hP hD hS hl.1 [] 9 rfl ⟨rfl, rfl, rfl⟩ (c_X_isFrom l D ci A sa N (Rw) p2 1 6 v1 hm14) (va_cwS 3 hts gX10_cut_X10_isFrom rfl rfl rfl (by decide +kernel) ⟨Nat.le_of_ble_eq_true rfl, Nat.le_of_ble_eq_true rfl⟩) rfl rfl (Nat.le_of_ble_eq_true rfl) dX10_cut_14 ⟨Nat.zero_le _, Nat.zero_le _⟩ (fun locs hS => ?_)
        refine q_if_eq (pc := 17) (tgt := 30) hx hb dX10_cut_17 (by decide) rfl hf (fun hf => ?_) (fun hf => ?_)
        · refine lv_iconst (pc := 30) (v := (-1)) hx hb dX10_cut_30 (by decide) ?_
          obtain ⟨e90, e91, e92, e93, e94, e95, e96⟩ := q_inj7 (Option.some.inj hf)
          rw [hQ, ← e90, ← e91, ← e92, ← e93, ← e94, ← e95, ← e96]
          exact q_iret (pc := 31) hx hb hr hlocks hP hD hS dX10_cut_31
        · refine lv_iload_n (pc := 20) hx hb dX10_cut_20 rfl (lv_at hl 3 rfl) ?_
          refine lv_iconst (pc := 21) (v := 1) hx hb dX10_cut_21 (by decide) ?_
          refine lv_bipush (pc := 22) (v := 6) hx hb dX10_cut_22 (by decide) ?_
          obtain ⟨v2, hm24, hf⟩ := q_b1_e hf
          refine q_cSr (pc := 24) (As := [.int p3, .int 1, .int 6]) (rest := []) (v0 := (some (.int v2))) ⟨hx, hb, hml, hown, hts⟩ hK hA hZ hP hD hS hl.1 [] 9 rfl ⟨rfl, rfl, rfl⟩ (c_X_isFrom l D ci A sa N (Rw) p3 1 6 v2 hm24) (va_cwS 3 hts gX10_cut_X10_isFrom rfl rfl rfl (by decide +kernel) ⟨Nat.le_of_ble_eq_true rfl, Nat.le_of_ble_eq_true rfl⟩) rfl rfl (Nat.le_of_ble_eq_true rfl) dX10_cut_24 ⟨Nat.zero_le _, Nat.zero_le _⟩ (fun locs hS => ?_)
          refine q_if_ne (pc := 27) (tgt := 32) hx hb dX10_cut_27 (by decide) rfl hf (fun hf => ?_) (fun hf => ?_)
          · refine lv_aload_n (pc := 32) hx hb dX10_cut_32 rfl (lv_at hl 0 rfl) ?_
            refine va_get (pc := 33) (D := D) (ci := 10) (v := .ref a_st) (C := RX10) (T := TX10) (N := 14) hx hb hts hinX10 hown hK hP 0 rfl rfl 2 (by decide) w_1 (fun _ h9 => h9) rfl dX10_cut_33 ?_
            refine va_getN (pc := 36) (D := D) (ci := 7) (v := .int st_size) (C := RX7) (T := TX7) (N := 9) hx hb hts hinX7 hown hK hP 1 rfl rfl 5 (by decide) wn_0 (fun _ h9 => h9) rfl dX10_cut_36 ?_
            refine q_if_le (pc := 39) (tgt := 45) hx hb dX10_cut_39 (by decide) rfl hf (fun hf => ?_) (fun hf => ?_)
            · refine lv_aload_n (pc := 45) hx hb dX10_cut_45 rfl (lv_at hl 0 rfl) ?_
              refine va_get (pc := 46) (D := D) (ci := 10) (v := .ref a_g) (C := RX10) (T := TX10) (N := 14) hx hb hts hinX10 hown hK hP 0 rfl rfl 1 (by decide) w_2 (fun _ h9 => h9) rfl dX10_cut_46 ?_
              refine lv_iload_n (pc := 49) hx hb dX10_cut_49 rfl (lv_at hl 1 rfl) ?_
              refine lv_iload_n (pc := 50) hx hb dX10_cut_50 rfl (lv_at hl 2 rfl) ?_
              refine lv_iload_n (pc := 51) hx hb dX10_cut_51 rfl (lv_at hl 3 rfl) ?_
              obtain ⟨v3, hm52, hf⟩ := q_b1_e hf
              refine q_cVr (pc := 52) (As := [.int p1, .int p2, .int p3]) (rest := []) (v0 := (some (.long v3))) ⟨hx, hb, hml, hown, hts⟩ hK hA hZ hP hD hS hl.1 [2, 3, 4] 9 rfl ⟨rfl, rfl, rfl⟩ (c_Grid_deepestSheetsIf l D ci A sa N (Rw) a_g a_g_rowCuts a_g_columnCuts a_g_bandRows a_g_zoneColumns a_g_rows a_g_sheets g_rowCuts g_columnCuts p1 p2 p3 v3 hm52) 2 rfl rfl (cwV 3 hts gX10_cut_X2_deepestSheetsIf rfl rfl rfl (by decide +kernel) ⟨Nat.le_of_ble_eq_true rfl, Nat.le_of_ble_eq_true rfl⟩) rfl rfl (Nat.le_of_ble_eq_true rfl) dX10_cut_52 ⟨Nat.zero_le _, Nat.zero_le _⟩ (fun locs hS => ?_)
              refine lv_ldc2 (pc := 55) (v := 20000000) hx hb hown w_3 dX10_cut_55 ?_
              refine W.lcmp (pc := 58) hx hb dX10_cut_58 ?_
              refine q_if_le (pc := 59) (tgt := 65) hx hb dX10_cut_59 (by decide) rfl hf (fun hf => ?_) (fun hf => ?_)
              · refine lv_aload_n (pc := 65) hx hb dX10_cut_65 rfl (lv_at hl 0 rfl) ?_
                refine va_get (pc := 66) (D := D) (ci := 10) (v := .ref a_g) (C := RX10) (T := TX10) (N := 14) hx hb hts hinX10 hown hK hP 0 rfl rfl 1 (by decide) w_2 (fun _ h9 => h9) rfl dX10_cut_66 ?_
                refine lv_iload_n (pc := 69) hx hb dX10_cut_69 rfl (lv_at hl 1 rfl) ?_
                refine lv_iload_n (pc := 70) hx hb dX10_cut_70 rfl (lv_at hl 2 rfl) ?_
                refine lv_iload_n (pc := 71) hx hb dX10_cut_71 rfl (lv_at hl 3 rfl) ?_
                obtain ⟨f4, f5, f6, f7, f8, f9, hm72, hf⟩ := q_b6_e hf
                refine q_cV (pc := 72) (As := [.int p1, .int p2, .int p3]) (rest := []) (v0 := none) ⟨hx, hb, hml, hown, hts⟩ hK hA hZ hP hD hS hl.1 [2, 3, 4, 5, 6, 7, 8, 0, 1] 9 rfl ⟨rfl, rfl, rfl⟩ (c_Grid_setCuts l D ci A sa N ((a_x, .inr (10, [.ref a_at, .ref a_g, .ref a_st, .ref a_x_kept, .int x_keptStates, .ref a_tp, .ref a_rd, .ref a_qu, .ref a_sp, .ref a_wk, .ref a_bx, .ref a_nt, .ref a_nu, .ref a_x_seen])) :: (a_st, .inr (7, [.ref a_g, .ref a_st_levels, .ref a_st_keys, .ref a_st_years, .ref a_st_keysThere, .int st_size, .int st_shownBy, .int st_deepestShown, .int st_latestShown])) :: Rw) a_g a_g_rowCuts a_g_columnCuts a_g_bandRows a_g_zoneColumns a_g_rows a_g_sheets g_rowCuts g_columnCuts g_bandRows g_zoneColumns g_rows g_sheets p1 p2 p3 f4 f5 f6 f7 f8 f9 hm72) 2 rfl rfl (cwV 3 hts gX10_cut_X2_setCuts rfl rfl rfl (by decide +kernel) ⟨Nat.le_of_ble_eq_true rfl, Nat.le_of_ble_eq_true rfl⟩) rfl rfl (Nat.le_of_ble_eq_true rfl) dX10_cut_72 ⟨Nat.zero_le _, Nat.zero_le _⟩ [7, 8, 0, 1, 2, 3, 4, 5, 6] 9 rfl ⟨rfl, rfl, rfl⟩ (fun H locs hP hD hS => ?_)
                obtain ⟨hP, hD⟩ : va_PD D A ((a_x, .inr (10, [.ref a_at, .ref a_g, .ref a_st, .ref a_x_kept, .int x_keptStates, .ref a_tp, .ref a_rd, .ref a_qu, .ref a_sp, .ref a_wk, .ref a_bx, .ref a_nt, .ref a_nu, .ref a_x_seen])) :: (a_st, .inr (7, [.ref a_g, .ref a_st_levels, .ref a_st_keys, .ref a_st_years, .ref a_st_keysThere, .int st_size, .int st_shownBy, .int st_deepestShown, .int st_latestShown])) :: (a_g, .inr (2, [.ref a_g_rowCuts, .ref a_g_columnCuts, .ref a_g_bandRows, .ref a_g_zoneColumns, .ref a_g_rows, .ref a_g_sheets])) :: (a_g_rowCuts, .inl (ci 0, 5, .inl f4)) :: (a_g_columnCuts, .inl (ci 0, 5, .inl f5)) :: (a_g_bandRows, .inl (ci 0, 5, .inl f6)) :: (a_g_zoneColumns, .inl (ci 0, 5, .inl f7)) :: (a_g_rows, .inl (ci 0, 5, .inl f8)) :: (a_g_sheets, .inl (ci 0, 5, .inl f9)) :: Rw) H := ⟨hP, hD⟩
                refine lv_aload_n (pc := 75) hx hb dX10_cut_75 rfl (lv_at hl 0 rfl) ?_
                refine va_get (pc := 76) (D := D) (ci := 10) (v := .ref a_g) (C := RX10) (T := TX10) (N := 14) hx hb hts hinX10 hown hK hP 0 rfl rfl 1 (by decide) w_2 (fun _ h9 => h9) rfl dX10_cut_76 ?_
                refine va_getN (pc := 79) (D := D) (ci := 2) (v := .ref a_g_sheets) (C := RX2) (T := TX2) (N := 6) hx hb hts hinX2 hown hK hP 2 rfl rfl 5 (by decide) wn_1 (fun _ h9 => h9) rfl dX10_cut_79 ?_
                refine lv_iload_n (pc := 82) hx hb dX10_cut_82 rfl (lv_at hl 1 rfl) ?_
                refine q_iald (pc := 83) hx hb hK hP 8 0 hf rfl rfl dX10_cut_83 (fun v10 hf => ?_)
                obtain ⟨e90, e91, e92, e93, e94, e95, e96⟩ := q_inj7 (Option.some.inj hf)
                rw [hQ, ← e90, ← e91, ← e92, ← e93, ← e94, ← e95, ← e96]
                exact q_iret (pc := 84) hx hb hr hlocks hP hD hS dX10_cut_84
              · refine lv_bipush (pc := 62) (v := (-3)) hx hb dX10_cut_62 (by decide) ?_
                obtain ⟨e90, e91, e92, e93, e94, e95, e96⟩ := q_inj7 (Option.some.inj hf)
                rw [hQ, ← e90, ← e91, ← e92, ← e93, ← e94, ← e95, ← e96]
                exact q_iret (pc := 64) hx hb hr hlocks hP hD hS dX10_cut_64
            · refine lv_bipush (pc := 42) (v := (-2)) hx hb dX10_cut_42 (by decide) ?_
              obtain ⟨e90, e91, e92, e93, e94, e95, e96⟩ := q_inj7 (Option.some.inj hf)
              rw [hQ, ← e90, ← e91, ← e92, ← e93, ← e94, ← e95, ← e96]
              exact q_iret (pc := 44) hx hb hr hlocks hP hD hS dX10_cut_44
          · refine lv_iconst (pc := 30) (v := (-1)) hx hb dX10_cut_30 (by decide) ?_
            obtain ⟨e90, e91, e92, e93, e94, e95, e96⟩ := q_inj7 (Option.some.inj hf)
            rw [hQ, ← e90, ← e91, ← e92, ← e93, ← e94, ← e95, ← e96]
            exact q_iret (pc := 31) hx hb hr hlocks hP hD hS dX10_cut_31
  exact hgo _ _ rfl hP hS
/-! X10_nextDraw -/
set_option maxRecDepth 100000 in
set_option maxHeartbeats 4000000 in
theorem c_X_nextDraw (l : Launch) (D : va_G) (ci : Nat → ClassId) (A : Nat → Prop) (sa : Nat → Nat) (N : Nat) (Rw : va_W) (p1 : Int32) (r : Int32) (hf : f_X_nextDraw p1 = some r) : Met l yX10_nextDraw wsX10_nextDraw ({ frames := 0, cells := 0, slots := 0, locals := 0 }) (va_Pc [.int p1] (q_N D ci A sa (Rw))) (q_R (some (.int r))) 0 0 A := by
  refine q_ofW (cc := cX10_nextDraw) (maxL := 1) (ret := (some .int)) [.int p1] (plainFor_of_name (by decide)) rfl (Nat.le_of_ble_eq_true rfl) ?_
  intro p e s m below meth c ls Q hQ hx hb hml hr hts hown hlocks hK hA hZ hP hD hS hl
  have hl : lv_has ls 1 [(0, .int p1)] := hl
  have hown : s.vm.findClass RX10 = some m.cls := hown
  have w_1 := hts (Cond.constant RX10 421 (65535)) (List.mem_cons_of_mem _ t_w896)
  unfold f_X_nextDraw at hf
  have hgo : ∀ (H : Heap) (locs : List Loc), H = s.heap → va_P D vwCl (Rw) H → va_S A s.heap H locs → W p l e ({ frames := 0, cells := 0, slots := 0, locals := 0 } : Room) s m ([.int p1] : List Value).toArray below meth c H locs 0 0 Q (F0 m 0 ls []) := by
    intro H locs hH hP hS
    subst hH
    refine lv_sipush (pc := 0) (v := 25173) hx hb dX10_nextDraw_0 (by decide) ?_
    refine lv_iload_n (pc := 3) hx hb dX10_nextDraw_3 rfl (lv_at hl 0 rfl) ?_
    refine lv_imul (pc := 4) hx hb dX10_nextDraw_4 ?_
    refine lv_sipush (pc := 5) (v := 13849) hx hb dX10_nextDraw_5 (by decide) ?_
    refine lv_iadd (pc := 8) hx hb dX10_nextDraw_8 ?_
    refine lv_ldcw (pc := 9) (v := 65535) hx hb hown w_1 dX10_nextDraw_9 ?_
    refine lv_iand (pc := 12) hx hb dX10_nextDraw_12 ?_
    obtain rfl := Option.some.inj hf
    rw [hQ]
    exact q_iretr (pc := 13) hx hb hr hlocks rfl hS dX10_nextDraw_13
  exact hgo _ _ rfl hP hS
/-! X10_isSeen -/
set_option maxRecDepth 100000 in
set_option maxHeartbeats 4000000 in
theorem c_X_isSeen (l : Launch) (D : va_G) (ci : Nat → ClassId) (A : Nat → Prop) (sa : Nat → Nat) (N : Nat) (Rw : va_W) (a_x : Nat) (a_at : Nat) (a_g : Nat) (a_st : Nat) (a_x_kept : Nat) (a_tp : Nat) (a_rd : Nat) (a_qu : Nat) (a_sp : Nat) (a_wk : Nat) (a_bx : Nat) (a_nt : Nat) (a_nu : Nat) (a_x_seen : Nat) (x_keptStates : Int32) (x_seen : Nat → Int32) (p1 : Int32) (p2 : Int32) (r : Int32) (hf : f_X_isSeen N x_seen p1 p2 = some r) : Met l yX10_isSeen wsX10_isSeen ({ frames := 0, cells := 0, slots := 0, locals := 0 }) (va_Pc [.ref a_x, .int p1, .int p2] (q_N D ci A sa ((a_x, .inr (10, [.ref a_at, .ref a_g, .ref a_st, .ref a_x_kept, .int x_keptStates, .ref a_tp, .ref a_rd, .ref a_qu, .ref a_sp, .ref a_wk, .ref a_bx, .ref a_nt, .ref a_nu, .ref a_x_seen])) :: (a_x_seen, .inl (ci 0, 200, .inl x_seen)) :: Rw))) (q_R (some (.int r))) 0 0 A := by
  refine q_ofW (cc := cX10_isSeen) (maxL := 4) (ret := (some .boolean)) [.ref a_x, .int p1, .int p2] (plainFor_of_name (by decide)) rfl (Nat.le_of_ble_eq_true rfl) ?_
  intro p e s m below meth c ls Q hQ hx hb hml hr hts hown hlocks hK hA hZ hP hD hS hl
  have hl : lv_has ls 4 [(0, .ref a_x), (1, .int p1), (2, .int p2)] := hl
  have hown : s.vm.findClass RX10 = some m.cls := hown
  have hinX10 : ∀ w ∈ wsX100, w ∈ wsX10_isSeen := fun _ h => List.mem_cons_of_mem _ (inWX100 _ h)
  have w_1 := hts (Cond.fieldLink RX10 94 "SheetNames" "seen" "[I") (List.mem_cons_of_mem _ t_w897)
  unfold f_X_isSeen at hf
  have hgo : ∀ (H : Heap) (locs : List Loc), H = s.heap → va_P D vwCl ((a_x, .inr (10, [.ref a_at, .ref a_g, .ref a_st, .ref a_x_kept, .int x_keptStates, .ref a_tp, .ref a_rd, .ref a_qu, .ref a_sp, .ref a_wk, .ref a_bx, .ref a_nt, .ref a_nu, .ref a_x_seen])) :: (a_x_seen, .inl (ci 0, 200, .inl x_seen)) :: Rw) H → va_S A s.heap H locs → W p l e ({ frames := 0, cells := 0, slots := 0, locals := 0 } : Room) s m ([.ref a_x, .int p1, .int p2] : List Value).toArray below meth c H locs 0 0 Q (F0 m 0 ls []) := by
    intro H locs hH hP hS
    subst hH
    refine lv_iconst (pc := 0) (v := 0) hx hb dX10_isSeen_0 (by decide) ?_
    obtain ⟨v1, ev1, hf⟩ := q_nm_e hf
    refine q_topi ev1 ?_
    refine lv_istore_n (pc := 1) (lv' := [(3, .int v1), (0, .ref a_x), (1, .int p1), (2, .int p2)]) hx hb dX10_isSeen_1 rfl hl (by decide) rfl (fun ls hl => ?_)
    obtain ⟨k2, o2_, ek2, hm2, hk2⟩ := q_s0_k hf
    have JE2 : ∀  (H : Heap) (locs : List Loc) (ls : Array Slot), k2 = some r → H = s.heap → va_S A s.heap H locs → lv_has ls 4 [] → W p l e ({ frames := 0, cells := 0, slots := 0, locals := 0 } : Room) s m ([.ref a_x, .int p1, .int p2] : List Value).toArray below meth c H locs 0 0 Q (F0 m 34 ls []) := by
      intro  H locs ls hf hHs hS hl
      subst hHs
      have hf := (ek2).symm.trans hf
      refine lv_iconst (pc := 34) (v := 0) hx hb dX10_isSeen_34 (by decide) ?_
      obtain rfl := Option.some.inj hf
      rw [hQ]
      exact q_zretr (pc := 35) hx hb hr rfl hlocks rfl hS dX10_isSeen_35
    have LP2 : ∀ (n2 : Nat) (v2 : Int32) (H : Heap) (locs : List Loc) (ls : Array Slot), f_X_isSeen_L2 p1 p2 x_seen n2 v2 = some o2_ → H = s.heap → va_S A s.heap H locs → lv_has ls 4 [(0, .ref a_x), (1, .int p1), (2, .int p2), (3, .int v2)] → W p l e ({ frames := 0, cells := 0, slots := 0, locals := 0 } : Room) s m ([.ref a_x, .int p1, .int p2] : List Value).toArray below meth c H locs 0 0 Q (F0 m 2 ls []) := by
      intro n2
      induction n2 with
      | zero => intro v2 H locs ls hf; rw [f_X_isSeen_L2] at hf; cases hf
      | succ n2 ih2 =>
        intro v2 H locs ls hf hHs hS hl
        subst hHs
        rw [f_X_isSeen_L2] at hf
        refine lv_iload_n (pc := 2) hx hb dX10_isSeen_2 rfl (lv_at hl 3 rfl) ?_
        refine lv_iload_n (pc := 3) hx hb dX10_isSeen_3 rfl (lv_at hl 2 rfl) ?_
        refine q_icmp_ge (pc := 4) (tgt := 34) hx hb dX10_isSeen_4 (by decide) rfl hf (fun hf => ?_) (fun hf => ?_)
        · obtain rfl := Option.some.inj hf
          exact JE2  _ _ _ hk2 rfl hS (lv_sub hl [] rfl)
        · refine lv_iload_n (pc := 7) hx hb dX10_isSeen_7 rfl (lv_at hl 3 rfl) ?_
          refine lv_aload_n (pc := 8) hx hb dX10_isSeen_8 rfl (lv_at hl 0 rfl) ?_
          refine va_get (pc := 9) (D := D) (ci := 10) (v := .ref a_x_seen) (C := RX10) (T := TX10) (N := 14) hx hb hts hinX10 hown hK hP 0 rfl rfl 13 (by decide) w_1 (fun _ h9 => h9) rfl dX10_isSeen_9 ?_
          refine va_alen (pc := 12) (v := 200) hx hb hK hP 1 0 rfl rfl rfl dX10_isSeen_12 ?_
          refine q_icmp_ge (pc := 13) (tgt := 34) hx hb dX10_isSeen_13 (by decide) rfl hf (fun hf => ?_) (fun hf => ?_)
          · obtain rfl := Option.some.inj hf
            exact JE2  _ _ _ hk2 rfl hS (lv_sub hl [] rfl)
          · refine lv_aload_n (pc := 16) hx hb dX10_isSeen_16 rfl (lv_at hl 0 rfl) ?_
            refine va_get (pc := 17) (D := D) (ci := 10) (v := .ref a_x_seen) (C := RX10) (T := TX10) (N := 14) hx hb hts hinX10 hown hK hP 0 rfl rfl 13 (by decide) w_1 (fun _ h9 => h9) rfl dX10_isSeen_17 ?_
            refine lv_iload_n (pc := 20) hx hb dX10_isSeen_20 rfl (lv_at hl 3 rfl) ?_
            refine q_iald (pc := 21) hx hb hK hP 1 0 hf rfl rfl dX10_isSeen_21 (fun v3 hf => ?_)
            refine lv_iload_n (pc := 22) hx hb dX10_isSeen_22 rfl (lv_at hl 1 rfl) ?_
            refine q_icmp_ne (pc := 23) (tgt := 28) hx hb dX10_isSeen_23 (by decide) rfl hf (fun hf => ?_) (fun hf => ?_)
            · obtain ⟨v4, ev4, hf⟩ := q_nm_e hf
              refine lv_iinc (pc := 28) (v := v4) (lv' := [(3, .int v4), (0, .ref a_x), (1, .int p1), (2, .int p2)]) hx hb dX10_isSeen_28 hl (k := 3) rfl (by rw [ev4]; rfl) (by decide) rfl (fun ls hl => ?_)
              refine lv_goto (pc := 31) (tgt := 2) hx hb dX10_isSeen_31 (by decide) ?_
              exact ih2 v4 _ _ _ hf rfl hS (lv_sub hl [1, 2, 3, 0] rfl)
            · refine lv_iconst (pc := 26) (v := 1) hx hb dX10_isSeen_26 (by decide) ?_
              obtain rfl := Option.some.inj hf
              have hk2 : (1 : Int32) = r := hk2
              obtain rfl := hk2
              rw [hQ]
              exact q_zretr (pc := 27) hx hb hr rfl hlocks rfl hS dX10_isSeen_27
    exact LP2 N v1 _ _ _ hm2 rfl hS (lv_sub hl [1, 2, 3, 0] rfl)
  exact hgo _ _ rfl hP hS
/-! X10_drawn -/
set_option maxRecDepth 100000 in
set_option maxHeartbeats 4000000 in
theorem c_X_drawn (l : Launch) (D : va_G) (ci : Nat → ClassId) (A : Nat → Prop) (sa : Nat → Nat) (N : Nat) (Rw : va_W) (a_x : Nat) (a_at : Nat) (a_g : Nat) (a_st : Nat) (a_x_kept : Nat) (a_tp : Nat) (a_rd : Nat) (a_qu : Nat) (a_sp : Nat) (a_wk : Nat) (a_bx : Nat) (a_nt : Nat) (a_nu : Nat) (a_x_seen : Nat) (a_g_rowCuts : Nat) (a_g_columnCuts : Nat) (a_g_bandRows : Nat) (a_g_zoneColumns : Nat) (a_g_rows : Nat) (a_g_sheets : Nat) (x_keptStates : Int32) (x_seen : Nat → Int32) (g_bandRows : Nat → Int32) (g_zoneColumns : Nat → Int32) (g_rows : Nat → Int32) (g_sheets : Nat → Int32) (p1 : Int32) (p2 : Int32) (p3 : Int32) (r : Int32) (o1 : Nat → Int32) (hf : f_X_drawn N x_seen g_bandRows g_zoneColumns g_rows g_sheets p1 p2 p3 = some (r, o1)) : Met l yX10_drawn wsX10_drawn ({ frames := 3, cells := 0, slots := 0, locals := 73 }) (va_Pc [.ref a_x, .int p1, .int p2, .int p3] (q_N D ci A sa ((a_x, .inr (10, [.ref a_at, .ref a_g, .ref a_st, .ref a_x_kept, .int x_keptStates, .ref a_tp, .ref a_rd, .ref a_qu, .ref a_sp, .ref a_wk, .ref a_bx, .ref a_nt, .ref a_nu, .ref a_x_seen])) :: (a_x_seen, .inl (ci 0, 200, .inl x_seen)) :: (a_g, .inr (2, [.ref a_g_rowCuts, .ref a_g_columnCuts, .ref a_g_bandRows, .ref a_g_zoneColumns, .ref a_g_rows, .ref a_g_sheets])) :: (a_g_bandRows, .inl (ci 0, 5, .inl g_bandRows)) :: (a_g_zoneColumns, .inl (ci 0, 5, .inl g_zoneColumns)) :: (a_g_rows, .inl (ci 0, 5, .inl g_rows)) :: (a_g_sheets, .inl (ci 0, 5, .inl g_sheets)) :: Rw))) (q_Q (some (.int r)) (q_O D A ((a_x, .inr (10, [.ref a_at, .ref a_g, .ref a_st, .ref a_x_kept, .int x_keptStates, .ref a_tp, .ref a_rd, .ref a_qu, .ref a_sp, .ref a_wk, .ref a_bx, .ref a_nt, .ref a_nu, .ref a_x_seen])) :: (a_x_seen, .inl (ci 0, 200, .inl o1)) :: (a_g, .inr (2, [.ref a_g_rowCuts, .ref a_g_columnCuts, .ref a_g_bandRows, .ref a_g_zoneColumns, .ref a_g_rows, .ref a_g_sheets])) :: (a_g_bandRows, .inl (ci 0, 5, .inl g_bandRows)) :: (a_g_zoneColumns, .inl (ci 0, 5, .inl g_zoneColumns)) :: (a_g_rows, .inl (ci 0, 5, .inl g_rows)) :: (a_g_sheets, .inl (ci 0, 5, .inl g_sheets)) :: Rw)) A) 0 0 A := by
  refine q_ofW (cc := cX10_drawn) (maxL := 10) (ret := (some .int)) [.ref a_x, .int p1, .int p2, .int p3] (plainFor_of_name (by decide)) rfl (Nat.le_of_ble_eq_true rfl) ?_
  intro p e s m below meth c ls Q hQ hx hb hml hr hts hown hlocks hK hA hZ hP hD hS hl
  have hl : lv_has ls 10 [(0, .ref a_x), (1, .int p1), (2, .int p2), (3, .int p3)] := hl
  have hown : s.vm.findClass RX10 = some m.cls := hown
  have hinX10 : ∀ w ∈ wsX100, w ∈ wsX10_drawn := fun _ h => List.mem_cons_of_mem _ (inWX100 _ h)
  have w_1 := hts (Cond.constant RX10 421 (65535)) (List.mem_cons_of_mem _ t_w896)
  have w_2 := hts (Cond.constant RX10 425 (319488)) (List.mem_cons_of_mem _ t_w898)
  have w_3 := hts (Cond.fieldLink RX10 20 "SheetNames" "grid" "LSheetNames$Grid;") (List.mem_cons_of_mem _ t_w876)
  have w_4 := hts (Cond.fieldLink RX10 94 "SheetNames" "seen" "[I") (List.mem_cons_of_mem _ t_w897)
  unfold f_X_drawn at hf
  have hgo : ∀ (H : Heap) (locs : List Loc), H = s.heap → va_P D vwCl ((a_x, .inr (10, [.ref a_at, .ref a_g, .ref a_st, .ref a_x_kept, .int x_keptStates, .ref a_tp, .ref a_rd, .ref a_qu, .ref a_sp, .ref a_wk, .ref a_bx, .ref a_nt, .ref a_nu, .ref a_x_seen])) :: (a_x_seen, .inl (ci 0, 200, .inl x_seen)) :: (a_g, .inr (2, [.ref a_g_rowCuts, .ref a_g_columnCuts, .ref a_g_bandRows, .ref a_g_zoneColumns, .ref a_g_rows, .ref a_g_sheets])) :: (a_g_bandRows, .inl (ci 0, 5, .inl g_bandRows)) :: (a_g_zoneColumns, .inl (ci 0, 5, .inl g_zoneColumns)) :: (a_g_rows, .inl (ci 0, 5, .inl g_rows)) :: (a_g_sheets, .inl (ci 0, 5, .inl g_sheets)) :: Rw) H → va_S A s.heap H locs → W p l e ({ frames := 3, cells := 0, slots := 0, locals := 73 } : Room) s m ([.ref a_x, .int p1, .int p2, .int p3] : List Value).toArray below meth c H locs 0 0 Q (F0 m 0 ls []) := by
    intro H locs hH hP hS
    refine lv_iload_n (pc := 0) hx hb dX10_drawn_0 rfl (lv_at hl 2 rfl) ?_
    refine lv_iconst (pc := 1) (v := 1) hx hb dX10_drawn_1 (by decide) ?_
    refine lv_sipush (pc := 2) (v := 200) hx hb dX10_drawn_2 (by decide) ?_
    obtain ⟨v1, hm5, hf⟩ := q_b1_e hf
    refine q_cSr (pc := 5) (As := [.int p2, .int 1, .int 200]) (rest := []) (v0 := (some (.int v1))) ⟨hx, hb, hml, hown, hts⟩ hK hA hZ hP hD hS hl.1 [] 7 rfl ⟨rfl, rfl, rfl⟩ (c_X_isFrom l D ci A sa N (Rw) p2 1 200 v1 hm5) (va_cwS 3 hts gX10_drawn_X10_isFrom rfl rfl rfl (by decide +kernel) ⟨Nat.le_of_ble_eq_true rfl, Nat.le_of_ble_eq_true rfl⟩) rfl rfl (Nat.le_of_ble_eq_true rfl) dX10_drawn_5 ⟨Nat.zero_le _, Nat.zero_le _⟩ (fun locs hS => ?_)
    refine q_if_eq (pc := 8) (tgt := 18) hx hb dX10_drawn_8 (by decide) rfl hf (fun hf => ?_) (fun hf => ?_)
    · refine lv_iconst (pc := 18) (v := (-1)) hx hb dX10_drawn_18 (by decide) ?_
      obtain ⟨rfl, rfl⟩ := q_inj2 (Option.some.inj hf)
      rw [hQ]
      exact q_iret (pc := 19) hx hb hr hlocks hP hD hS dX10_drawn_19
    · refine lv_iload_n (pc := 11) hx hb dX10_drawn_11 rfl (lv_at hl 3 rfl) ?_
      obtain ⟨v2, hm12, hf⟩ := q_b1_e hf
      refine q_cSr (pc := 12) (As := [.int p3]) (rest := []) (v0 := (some (.int v2))) ⟨hx, hb, hml, hown, hts⟩ hK hA hZ hP hD hS hl.1 [] 7 rfl ⟨rfl, rfl, rfl⟩ (c_X_isLevel l D ci A sa N (Rw) p3 v2 hm12) (va_cwS 1 hts gX10_drawn_X10_isLevel rfl rfl rfl (by decide +kernel) ⟨Nat.le_of_ble_eq_true rfl, Nat.le_of_ble_eq_true rfl⟩) rfl rfl (Nat.le_of_ble_eq_true rfl) dX10_drawn_12 ⟨Nat.zero_le _, Nat.zero_le _⟩ (fun locs hS => ?_)
      refine q_if_ne (pc := 15) (tgt := 20) hx hb dX10_drawn_15 (by decide) rfl hf (fun hf => ?_) (fun hf => ?_)
      · refine lv_iload_n (pc := 20) hx hb dX10_drawn_20 rfl (lv_at hl 1 rfl) ?_
        refine lv_ldcw (pc := 21) (v := 65535) hx hb hown w_1 dX10_drawn_21 ?_
        refine lv_iand (pc := 24) hx hb dX10_drawn_24 ?_
        obtain ⟨v3, ev3, hf⟩ := q_nm_e hf
        refine q_topi ev3 ?_
        refine lv_istore (pc := 25) (lv' := [(4, .int v3), (0, .ref a_x), (1, .int p1), (2, .int p2), (3, .int p3)]) hx hb dX10_drawn_25 hl (by decide) rfl (fun ls hl => ?_)
        refine lv_iconst (pc := 27) (v := 0) hx hb dX10_drawn_27 (by decide) ?_
        obtain ⟨v4, ev4, hf⟩ := q_nm_e hf
        refine q_topi ev4 ?_
        refine lv_istore (pc := 28) (lv' := [(5, .int v4), (4, .int v3), (0, .ref a_x), (1, .int p1), (2, .int p2), (3, .int p3)]) hx hb dX10_drawn_28 hl (by decide) rfl (fun ls hl => ?_)
        refine lv_iconst (pc := 30) (v := 0) hx hb dX10_drawn_30 (by decide) ?_
        obtain ⟨v5, ev5, hf⟩ := q_nm_e hf
        refine q_topi ev5 ?_
        refine lv_istore (pc := 31) (lv' := [(6, .int v5), (5, .int v4), (4, .int v3), (0, .ref a_x), (1, .int p1), (2, .int p2), (3, .int p3)]) hx hb dX10_drawn_31 hl (by decide) rfl (fun ls hl => ?_)
        obtain ⟨v10, f11, hm33, hf⟩ := q_b2_e hf
        have JE33 : ∀ (H : Heap) (locs : List Loc) (ls : Array Slot), va_P D vwCl ((a_x, .inr (10, [.ref a_at, .ref a_g, .ref a_st, .ref a_x_kept, .int x_keptStates, .ref a_tp, .ref a_rd, .ref a_qu, .ref a_sp, .ref a_wk, .ref a_bx, .ref a_nt, .ref a_nu, .ref a_x_seen])) :: (a_x_seen, .inl (ci 0, 200, .inl f11)) :: (a_g, .inr (2, [.ref a_g_rowCuts, .ref a_g_columnCuts, .ref a_g_bandRows, .ref a_g_zoneColumns, .ref a_g_rows, .ref a_g_sheets])) :: (a_g_bandRows, .inl (ci 0, 5, .inl g_bandRows)) :: (a_g_zoneColumns, .inl (ci 0, 5, .inl g_zoneColumns)) :: (a_g_rows, .inl (ci 0, 5, .inl g_rows)) :: (a_g_sheets, .inl (ci 0, 5, .inl g_sheets)) :: Rw) H → va_D A ((a_x, .inr (10, [.ref a_at, .ref a_g, .ref a_st, .ref a_x_kept, .int x_keptStates, .ref a_tp, .ref a_rd, .ref a_qu, .ref a_sp, .ref a_wk, .ref a_bx, .ref a_nt, .ref a_nu, .ref a_x_seen])) :: (a_x_seen, .inl (ci 0, 200, .inl f11)) :: (a_g, .inr (2, [.ref a_g_rowCuts, .ref a_g_columnCuts, .ref a_g_bandRows, .ref a_g_zoneColumns, .ref a_g_rows, .ref a_g_sheets])) :: (a_g_bandRows, .inl (ci 0, 5, .inl g_bandRows)) :: (a_g_zoneColumns, .inl (ci 0, 5, .inl g_zoneColumns)) :: (a_g_rows, .inl (ci 0, 5, .inl g_rows)) :: (a_g_sheets, .inl (ci 0, 5, .inl g_sheets)) :: Rw) → va_S A s.heap H locs → lv_has ls 10 [(5, .int v10)] → W p l e ({ frames := 3, cells := 0, slots := 0, locals := 73 } : Room) s m ([.ref a_x, .int p1, .int p2, .int p3] : List Value).toArray below meth c H locs 0 0 Q (F0 m 136 ls []) := by
          intro H locs ls hP hD hS hl
          refine lv_iload (pc := 136) hx hb dX10_drawn_136 (lv_at hl 0 rfl) ?_
          obtain ⟨rfl, rfl⟩ := q_inj2 (Option.some.inj hf)
          rw [hQ]
          exact q_iret (pc := 138) hx hb hr hlocks hP hD hS dX10_drawn_138
        have LP33 : ∀ (n33 : Nat) (v6 : Int32) (v7 : Int32) (v8 : Int32) (f9 : Nat → Int32) (H : Heap) (locs : List Loc) (ls : Array Slot), f_X_drawn_L33 N g_bandRows g_rows g_sheets g_zoneColumns p2 p3 n33 v6 v7 v8 f9 = some (v10, f11) → va_P D vwCl ((a_x, .inr (10, [.ref a_at, .ref a_g, .ref a_st, .ref a_x_kept, .int x_keptStates, .ref a_tp, .ref a_rd, .ref a_qu, .ref a_sp, .ref a_wk, .ref a_bx, .ref a_nt, .ref a_nu, .ref a_x_seen])) :: (a_x_seen, .inl (ci 0, 200, .inl f9)) :: (a_g, .inr (2, [.ref a_g_rowCuts, .ref a_g_columnCuts, .ref a_g_bandRows, .ref a_g_zoneColumns, .ref a_g_rows, .ref a_g_sheets])) :: (a_g_bandRows, .inl (ci 0, 5, .inl g_bandRows)) :: (a_g_zoneColumns, .inl (ci 0, 5, .inl g_zoneColumns)) :: (a_g_rows, .inl (ci 0, 5, .inl g_rows)) :: (a_g_sheets, .inl (ci 0, 5, .inl g_sheets)) :: Rw) H → va_D A ((a_x, .inr (10, [.ref a_at, .ref a_g, .ref a_st, .ref a_x_kept, .int x_keptStates, .ref a_tp, .ref a_rd, .ref a_qu, .ref a_sp, .ref a_wk, .ref a_bx, .ref a_nt, .ref a_nu, .ref a_x_seen])) :: (a_x_seen, .inl (ci 0, 200, .inl f9)) :: (a_g, .inr (2, [.ref a_g_rowCuts, .ref a_g_columnCuts, .ref a_g_bandRows, .ref a_g_zoneColumns, .ref a_g_rows, .ref a_g_sheets])) :: (a_g_bandRows, .inl (ci 0, 5, .inl g_bandRows)) :: (a_g_zoneColumns, .inl (ci 0, 5, .inl g_zoneColumns)) :: (a_g_rows, .inl (ci 0, 5, .inl g_rows)) :: (a_g_sheets, .inl (ci 0, 5, .inl g_sheets)) :: Rw) → va_S A s.heap H locs → lv_has ls 10 [(0, .ref a_x), (2, .int p2), (3, .int p3), (4, .int v6), (5, .int v7), (6, .int v8)] → W p l e ({ frames := 3, cells := 0, slots := 0, locals := 73 } : Room) s m ([.ref a_x, .int p1, .int p2, .int p3] : List Value).toArray below meth c H locs 0 0 Q (F0 m 33 ls []) := by
          intro n33
          induction n33 with
          | zero => intro v6 v7 v8 f9 H locs ls hf; rw [f_X_drawn_L33] at hf; cases hf
          | succ n33 ih33 =>
            intro v6 v7 v8 f9 H locs ls hf hP hD hS hl
            rw [f_X_drawn_L33] at hf
            refine lv_iload (pc := 33) hx hb dX10_drawn_33 (lv_at hl 5 rfl) ?_
            refine lv_iload_n (pc := 35) hx hb dX10_drawn_35 rfl (lv_at hl 1 rfl) ?_
            refine q_icmp_ge (pc := 36) (tgt := 136) hx hb dX10_drawn_36 (by decide) rfl hf (fun hf => ?_) (fun hf => ?_)
            · obtain ⟨rfl, rfl⟩ := q_inj2 (Option.some.inj hf)
              exact JE33 _ _ _ hP hD hS (lv_sub hl [4] rfl)
            · refine lv_iload (pc := 39) hx hb dX10_drawn_39 (lv_at hl 3 rfl) ?_
              obtain ⟨v12, hm41, hf⟩ := q_b1_e hf
              refine q_cSr (pc := 41) (As := [.int v6]) (rest := []) (v0 := (some (.int v12))) ⟨hx, hb, hml, hown, hts⟩ hK hA hZ hP hD hS hl.1 [] 7 rfl ⟨rfl, rfl, rfl⟩ (c_X_nextDraw l D ci A sa N (Rw) v6 v12 hm41) (va_cwS 1 hts gX10_drawn_X10_nextDraw rfl rfl rfl (by decide +kernel) ⟨Nat.le_of_ble_eq_true rfl, Nat.le_of_ble_eq_true rfl⟩) rfl rfl (Nat.le_of_ble_eq_true rfl) dX10_drawn_41 ⟨Nat.zero_le _, Nat.zero_le _⟩ (fun locs hS => ?_)
              refine lv_istore (pc := 44) (lv' := [(4, .int v12), (0, .ref a_x), (2, .int p2), (3, .int p3), (5, .int v7), (6, .int v8)]) hx hb dX10_drawn_44 hl (by decide) rfl (fun ls hl => ?_)
              refine lv_iload (pc := 46) hx hb dX10_drawn_46 (lv_at hl 0 rfl) ?_
              refine lv_iconst (pc := 48) (v := 4) hx hb dX10_drawn_48 (by decide) ?_
              refine q_idiv (pc := 49) hx hb dX10_drawn_49 hf (fun v13 hf => ?_)
              refine lv_sipush (pc := 50) (v := 16384) hx hb dX10_drawn_50 (by decide) ?_
              refine q_irem (pc := 53) hx hb dX10_drawn_53 hf (fun v14 hf => ?_)
              refine lv_bipush (pc := 54) (v := 39) hx hb dX10_drawn_54 (by decide) ?_
              refine lv_imul (pc := 56) hx hb dX10_drawn_56 ?_
              refine lv_ldcw (pc := 57) (v := 319488) hx hb hown w_2 dX10_drawn_57 ?_
              refine lv_isub (pc := 60) hx hb dX10_drawn_60 ?_
              obtain ⟨v15, ev15, hf⟩ := q_nm_e hf
              refine q_topi ev15 ?_
              refine lv_istore (pc := 61) (lv' := [(7, .int v15), (4, .int v12), (0, .ref a_x), (2, .int p2), (3, .int p3), (5, .int v7), (6, .int v8)]) hx hb dX10_drawn_61 hl (by decide) rfl (fun ls hl => ?_)
              refine lv_iload (pc := 63) hx hb dX10_drawn_63 (lv_at hl 1 rfl) ?_
              obtain ⟨v16, hm65, hf⟩ := q_b1_e hf
              refine q_cSr (pc := 65) (As := [.int v12]) (rest := []) (v0 := (some (.int v16))) ⟨hx, hb, hml, hown, hts⟩ hK hA hZ hP hD hS hl.1 [] 7 rfl ⟨rfl, rfl, rfl⟩ (c_X_nextDraw l D ci A sa N (Rw) v12 v16 hm65) (va_cwS 1 hts gX10_drawn_X10_nextDraw rfl rfl rfl (by decide +kernel) ⟨Nat.le_of_ble_eq_true rfl, Nat.le_of_ble_eq_true rfl⟩) rfl rfl (Nat.le_of_ble_eq_true rfl) dX10_drawn_65 ⟨Nat.zero_le _, Nat.zero_le _⟩ (fun locs hS => ?_)
              refine lv_istore (pc := 68) (lv' := [(4, .int v16), (7, .int v15), (0, .ref a_x), (2, .int p2), (3, .int p3), (5, .int v7), (6, .int v8)]) hx hb dX10_drawn_68 hl (by decide) rfl (fun ls hl => ?_)
              refine lv_iload (pc := 70) hx hb dX10_drawn_70 (lv_at hl 0 rfl) ?_
              refine lv_iconst (pc := 72) (v := 4) hx hb dX10_drawn_72 (by decide) ?_
              refine q_idiv (pc := 73) hx hb dX10_drawn_73 hf (fun v17 hf => ?_)
              refine lv_sipush (pc := 74) (v := 16384) hx hb dX10_drawn_74 (by decide) ?_
              refine q_irem (pc := 77) hx hb dX10_drawn_77 hf (fun v18 hf => ?_)
              refine lv_bipush (pc := 78) (v := 79) hx hb dX10_drawn_78 (by decide) ?_
              refine lv_imul (pc := 80) hx hb dX10_drawn_80 ?_
              obtain ⟨v19, ev19, hf⟩ := q_nm_e hf
              refine q_topi ev19 ?_
              refine lv_istore (pc := 81) (lv' := [(8, .int v19), (4, .int v16), (7, .int v15), (0, .ref a_x), (2, .int p2), (3, .int p3), (5, .int v7), (6, .int v8)]) hx hb dX10_drawn_81 hl (by decide) rfl (fun ls hl => ?_)
              refine lv_aload_n (pc := 83) hx hb dX10_drawn_83 rfl (lv_at hl 3 rfl) ?_
              refine va_get (pc := 84) (D := D) (ci := 10) (v := .ref a_g) (C := RX10) (T := TX10) (N := 14) hx hb hts hinX10 hown hK hP 0 rfl rfl 1 (by decide) w_3 (fun _ h9 => h9) rfl dX10_drawn_84 ?_
              refine lv_iload_n (pc := 87) hx hb dX10_drawn_87 rfl (lv_at hl 5 rfl) ?_
              refine lv_iload (pc := 88) hx hb dX10_drawn_88 (lv_at hl 2 rfl) ?_
              refine lv_iload (pc := 90) hx hb dX10_drawn_90 (lv_at hl 0 rfl) ?_
              obtain ⟨v20, hm92, hf⟩ := q_b1_e hf
              refine q_cVr (pc := 92) (As := [.int p3, .int v15, .int v19]) (rest := []) (v0 := (some (.int v20))) ⟨hx, hb, hml, hown, hts⟩ hK hA hZ hP hD hS hl.1 [2, 3, 4, 5, 6] 7 rfl ⟨rfl, rfl, rfl⟩ (c_Grid_keyOf l D ci A sa N (Rw) a_g a_g_rowCuts a_g_columnCuts a_g_bandRows a_g_zoneColumns a_g_rows a_g_sheets g_bandRows g_zoneColumns g_rows g_sheets p3 v15 v19 v20 hm92) 2 rfl rfl (cwV 3 hts gX10_drawn_X2_keyOf rfl rfl rfl (by decide +kernel) ⟨Nat.le_of_ble_eq_true rfl, Nat.le_of_ble_eq_true rfl⟩) rfl rfl (Nat.le_of_ble_eq_true rfl) dX10_drawn_92 ⟨Nat.zero_le _, Nat.zero_le _⟩ (fun locs hS => ?_)
              refine lv_istore (pc := 95) (lv' := [(9, .int v20), (8, .int v19), (4, .int v16), (7, .int v15), (0, .ref a_x), (2, .int p2), (3, .int p3), (5, .int v7), (6, .int v8)]) hx hb dX10_drawn_95 hl (by decide) rfl (fun ls hl => ?_)
              refine lv_aload_n (pc := 97) hx hb dX10_drawn_97 rfl (lv_at hl 4 rfl) ?_
              refine lv_iload (pc := 98) hx hb dX10_drawn_98 (lv_at hl 0 rfl) ?_
              refine lv_iload (pc := 100) hx hb dX10_drawn_100 (lv_at hl 7 rfl) ?_
              obtain ⟨v21, hm102, hf⟩ := q_b1_e hf
              refine q_cVr (pc := 102) (As := [.int v20, .int v7]) (rest := []) (v0 := (some (.int v21))) ⟨hx, hb, hml, hown, hts⟩ hK hA hZ hP hD hS hl.1 [0, 1] 7 rfl ⟨rfl, rfl, rfl⟩ (c_X_isSeen l D ci A sa N (Rw) a_x a_at a_g a_st a_x_kept a_tp a_rd a_qu a_sp a_wk a_bx a_nt a_nu a_x_seen x_keptStates f9 v20 v7 v21 hm102) 0 rfl rfl (cwV 2 hts gX10_drawn_X10_isSeen rfl rfl rfl (by decide +kernel) ⟨Nat.le_of_ble_eq_true rfl, Nat.le_of_ble_eq_true rfl⟩) rfl rfl (Nat.le_of_ble_eq_true rfl) dX10_drawn_102 ⟨Nat.zero_le _, Nat.zero_le _⟩ (fun locs hS => ?_)
              obtain ⟨k130, ek130, hf⟩ := q_j2_e hf
              have J130 : ∀ (v22 : Int32) (f23 : Nat → Int32) (H : Heap) (locs : List Loc) (ls : Array Slot), k130 v22 f23 = some (v10, f11) → va_P D vwCl ((a_x, .inr (10, [.ref a_at, .ref a_g, .ref a_st, .ref a_x_kept, .int x_keptStates, .ref a_tp, .ref a_rd, .ref a_qu, .ref a_sp, .ref a_wk, .ref a_bx, .ref a_nt, .ref a_nu, .ref a_x_seen])) :: (a_x_seen, .inl (ci 0, 200, .inl f23)) :: (a_g, .inr (2, [.ref a_g_rowCuts, .ref a_g_columnCuts, .ref a_g_bandRows, .ref a_g_zoneColumns, .ref a_g_rows, .ref a_g_sheets])) :: (a_g_bandRows, .inl (ci 0, 5, .inl g_bandRows)) :: (a_g_zoneColumns, .inl (ci 0, 5, .inl g_zoneColumns)) :: (a_g_rows, .inl (ci 0, 5, .inl g_rows)) :: (a_g_sheets, .inl (ci 0, 5, .inl g_sheets)) :: Rw) H → va_D A ((a_x, .inr (10, [.ref a_at, .ref a_g, .ref a_st, .ref a_x_kept, .int x_keptStates, .ref a_tp, .ref a_rd, .ref a_qu, .ref a_sp, .ref a_wk, .ref a_bx, .ref a_nt, .ref a_nu, .ref a_x_seen])) :: (a_x_seen, .inl (ci 0, 200, .inl f23)) :: (a_g, .inr (2, [.ref a_g_rowCuts, .ref a_g_columnCuts, .ref a_g_bandRows, .ref a_g_zoneColumns, .ref a_g_rows, .ref a_g_sheets])) :: (a_g_bandRows, .inl (ci 0, 5, .inl g_bandRows)) :: (a_g_zoneColumns, .inl (ci 0, 5, .inl g_zoneColumns)) :: (a_g_rows, .inl (ci 0, 5, .inl g_rows)) :: (a_g_sheets, .inl (ci 0, 5, .inl g_sheets)) :: Rw) → va_S A s.heap H locs → lv_has ls 10 [(0, .ref a_x), (2, .int p2), (3, .int p3), (4, .int v16), (5, .int v22), (6, .int v8)] → W p l e ({ frames := 3, cells := 0, slots := 0, locals := 73 } : Room) s m ([.ref a_x, .int p1, .int p2, .int p3] : List Value).toArray below meth c H locs 0 0 Q (F0 m 130 ls []) := by
                intro v22 f23 H locs ls hf hP hD hS hl
                have hf := (ek130 v22 f23).symm.trans hf
                obtain ⟨v24, ev24, hf⟩ := q_nm_e hf
                refine lv_iinc (pc := 130) (v := v24) (lv' := [(6, .int v24), (0, .ref a_x), (2, .int p2), (3, .int p3), (4, .int v16), (5, .int v22)]) hx hb dX10_drawn_130 hl (k := 5) rfl (by rw [ev24]; rfl) (by decide) rfl (fun ls hl => ?_)
                refine lv_goto (pc := 133) (tgt := 33) hx hb dX10_drawn_133 (by decide) ?_
                exact ih33 v16 v22 v24 f23 _ _ _ hf hP hD hS (lv_sub hl [1, 2, 3, 4, 5, 0] rfl)
              refine q_if_ne (pc := 105) (tgt := 130) hx hb dX10_drawn_105 (by decide) rfl hf (fun hf => ?_) (fun hf => ?_)
              · exact J130 v7 f9 _ _ _ hf hP hD hS (lv_sub hl [4, 5, 6, 2, 7, 8] rfl)
              · refine lv_iload (pc := 108) hx hb dX10_drawn_108 (lv_at hl 7 rfl) ?_
                refine lv_aload_n (pc := 110) hx hb dX10_drawn_110 rfl (lv_at hl 4 rfl) ?_
                refine va_get (pc := 111) (D := D) (ci := 10) (v := .ref a_x_seen) (C := RX10) (T := TX10) (N := 14) hx hb hts hinX10 hown hK hP 0 rfl rfl 13 (by decide) w_4 (fun _ h9 => h9) rfl dX10_drawn_111 ?_
                refine va_alen (pc := 114) (v := 200) hx hb hK hP 1 0 rfl rfl rfl dX10_drawn_114 ?_
                refine q_icmp_ge (pc := 115) (tgt := 130) hx hb dX10_drawn_115 (by decide) rfl hf (fun hf => ?_) (fun hf => ?_)
                · exact J130 v7 f9 _ _ _ hf hP hD hS (lv_sub hl [4, 5, 6, 2, 7, 8] rfl)
                · refine lv_aload_n (pc := 118) hx hb dX10_drawn_118 rfl (lv_at hl 4 rfl) ?_
                  refine va_get (pc := 119) (D := D) (ci := 10) (v := .ref a_x_seen) (C := RX10) (T := TX10) (N := 14) hx hb hts hinX10 hown hK hP 0 rfl rfl 13 (by decide) w_4 (fun _ h9 => h9) rfl dX10_drawn_119 ?_
                  refine lv_iload (pc := 122) hx hb dX10_drawn_122 (lv_at hl 7 rfl) ?_
                  refine lv_iload (pc := 124) hx hb dX10_drawn_124 (lv_at hl 0 rfl) ?_
                  refine q_iast (pc := 126) hx hb hK hP hD hS 1 0 hf rfl rfl dX10_drawn_126 (fun f25 H locs hf hP hD hS => ?_)
                  obtain ⟨hP, hD⟩ : va_PD D A ((a_x, .inr (10, [.ref a_at, .ref a_g, .ref a_st, .ref a_x_kept, .int x_keptStates, .ref a_tp, .ref a_rd, .ref a_qu, .ref a_sp, .ref a_wk, .ref a_bx, .ref a_nt, .ref a_nu, .ref a_x_seen])) :: (a_x_seen, .inl (ci 0, 200, .inl f25)) :: (a_g, .inr (2, [.ref a_g_rowCuts, .ref a_g_columnCuts, .ref a_g_bandRows, .ref a_g_zoneColumns, .ref a_g_rows, .ref a_g_sheets])) :: (a_g_bandRows, .inl (ci 0, 5, .inl g_bandRows)) :: (a_g_zoneColumns, .inl (ci 0, 5, .inl g_zoneColumns)) :: (a_g_rows, .inl (ci 0, 5, .inl g_rows)) :: (a_g_sheets, .inl (ci 0, 5, .inl g_sheets)) :: Rw) H := ⟨hP, hD⟩
                  obtain ⟨v26, ev26, hf⟩ := q_nm_e hf
                  refine lv_iinc (pc := 127) (v := v26) (lv' := [(5, .int v26), (9, .int v20), (8, .int v19), (4, .int v16), (7, .int v15), (0, .ref a_x), (2, .int p2), (3, .int p3), (6, .int v8)]) hx hb dX10_drawn_127 hl (k := 7) rfl (by rw [ev26]; rfl) (by decide) rfl (fun ls hl => ?_)
                  exact J130 v26 f25 _ _ _ hf hP hD hS (lv_sub hl [5, 6, 7, 3, 0, 8] rfl)
        exact LP33 N v3 v4 v5 x_seen _ _ _ hm33 hP hD hS (lv_sub hl [3, 5, 6, 2, 1, 0] rfl)
      · refine lv_iconst (pc := 18) (v := (-1)) hx hb dX10_drawn_18 (by decide) ?_
        obtain ⟨rfl, rfl⟩ := q_inj2 (Option.some.inj hf)
        rw [hQ]
        exact q_iret (pc := 19) hx hb hr hlocks hP hD hS dX10_drawn_19
  exact hgo _ _ rfl hP hS
/-! X10_drop -/
set_option maxRecDepth 100000 in
set_option maxHeartbeats 4000000 in
theorem c_X_drop (l : Launch) (D : va_G) (ci : Nat → ClassId) (A : Nat → Prop) (sa : Nat → Nat) (N : Nat) (Rw : va_W) (a_x : Nat) (a_at : Nat) (a_g : Nat) (a_st : Nat) (a_x_kept : Nat) (a_tp : Nat) (a_rd : Nat) (a_qu : Nat) (a_sp : Nat) (a_wk : Nat) (a_bx : Nat) (a_nt : Nat) (a_nu : Nat) (a_x_seen : Nat) (a_st_levels : Nat) (a_st_keys : Nat) (a_st_years : Nat) (a_st_keysThere : Nat) (a_g_rowCuts : Nat) (a_g_columnCuts : Nat) (a_g_bandRows : Nat) (a_g_zoneColumns : Nat) (a_g_rows : Nat) (a_g_sheets : Nat) (x_keptStates : Int32) (st_size : Int32) (st_shownBy : Int32) (st_deepestShown : Int32) (st_latestShown : Int32) (st_levels : Nat → Int32) (st_keys : Nat → Int32) (st_years : Nat → Int32) (g_bandRows : Nat → Int32) (g_zoneColumns : Nat → Int32) (g_rows : Nat → Int32) (g_sheets : Nat → Int32) (p1 : Int32) (p2 : Int32) (r : Int32) (o1 : Nat → Int32) (o2 : Nat → Int32) (o3 : Nat → Int32) (o4 : Int32) (hf : f_X_drop N st_levels st_keys st_years st_size g_bandRows g_zoneColumns g_rows g_sheets p1 p2 = some (r, o1, o2, o3, o4)) : Met l yX10_drop wsX10_drop ({ frames := 3, cells := 0, slots := 0, locals := 75 }) (va_Pc [.ref a_x, .int p1, .int p2] (q_N D ci A sa ((a_x, .inr (10, [.ref a_at, .ref a_g, .ref a_st, .ref a_x_kept, .int x_keptStates, .ref a_tp, .ref a_rd, .ref a_qu, .ref a_sp, .ref a_wk, .ref a_bx, .ref a_nt, .ref a_nu, .ref a_x_seen])) :: (a_st, .inr (7, [.ref a_g, .ref a_st_levels, .ref a_st_keys, .ref a_st_years, .ref a_st_keysThere, .int st_size, .int st_shownBy, .int st_deepestShown, .int st_latestShown])) :: (a_st_levels, .inl (ci 0, 60, .inl st_levels)) :: (a_st_keys, .inl (ci 0, 60, .inl st_keys)) :: (a_st_years, .inl (ci 0, 60, .inl st_years)) :: (a_g, .inr (2, [.ref a_g_rowCuts, .ref a_g_columnCuts, .ref a_g_bandRows, .ref a_g_zoneColumns, .ref a_g_rows, .ref a_g_sheets])) :: (a_g_bandRows, .inl (ci 0, 5, .inl g_bandRows)) :: (a_g_zoneColumns, .inl (ci 0, 5, .inl g_zoneColumns)) :: (a_g_rows, .inl (ci 0, 5, .inl g_rows)) :: (a_g_sheets, .inl (ci 0, 5, .inl g_sheets)) :: Rw))) (q_Q (some (.int r)) (q_O D A ((a_x, .inr (10, [.ref a_at, .ref a_g, .ref a_st, .ref a_x_kept, .int x_keptStates, .ref a_tp, .ref a_rd, .ref a_qu, .ref a_sp, .ref a_wk, .ref a_bx, .ref a_nt, .ref a_nu, .ref a_x_seen])) :: (a_st, .inr (7, [.ref a_g, .ref a_st_levels, .ref a_st_keys, .ref a_st_years, .ref a_st_keysThere, .int o4, .int st_shownBy, .int st_deepestShown, .int st_latestShown])) :: (a_st_levels, .inl (ci 0, 60, .inl o1)) :: (a_st_keys, .inl (ci 0, 60, .inl o2)) :: (a_st_years, .inl (ci 0, 60, .inl o3)) :: (a_g, .inr (2, [.ref a_g_rowCuts, .ref a_g_columnCuts, .ref a_g_bandRows, .ref a_g_zoneColumns, .ref a_g_rows, .ref a_g_sheets])) :: (a_g_bandRows, .inl (ci 0, 5, .inl g_bandRows)) :: (a_g_zoneColumns, .inl (ci 0, 5, .inl g_zoneColumns)) :: (a_g_rows, .inl (ci 0, 5, .inl g_rows)) :: (a_g_sheets, .inl (ci 0, 5, .inl g_sheets)) :: Rw)) A) 0 0 A := by
  refine q_ofW (cc := cX10_drop) (maxL := 6) (ret := (some .int)) [.ref a_x, .int p1, .int p2] (plainFor_of_name (by decide)) rfl (Nat.le_of_ble_eq_true rfl) ?_
  intro p e s m below meth c ls Q hQ hx hb hml hr hts hown hlocks hK hA hZ hP hD hS hl
  have hl : lv_has ls 6 [(0, .ref a_x), (1, .int p1), (2, .int p2)] := hl
  have hown : s.vm.findClass RX10 = some m.cls := hown
  have hinX10 : ∀ w ∈ wsX100, w ∈ wsX10_drop := fun _ h => List.mem_cons_of_mem _ (inWX100 _ h)
  have hinX7 : ∀ w ∈ wsX70, w ∈ wsX10_drop := fun _ h => List.mem_cons_of_mem _ (inWX70 _ h)
  have w_1 := hts (Cond.fieldLink RX10 20 "SheetNames" "grid" "LSheetNames$Grid;") (List.mem_cons_of_mem _ t_w876)
  have w_2 := hts (Cond.fieldLink RX10 25 "SheetNames" "pieces" "LSheetNames$Store;") (List.mem_cons_of_mem _ t_w892)
  have wn_25 : (Cond.fieldLinkNest "SheetNames" 376 "SheetNames$Store" "years" "[I" "SheetNames").before ([.ref a_x, .int p1, .int p2] : List Value).toArray s = true := (hZ.2.2.2.2.2.2.2.2.2.1 _ (List.mem_of_getElem? (i := 25) rfl)).use rfl
  unfold f_X_drop at hf
  have hgo : ∀ (H : Heap) (locs : List Loc), H = s.heap → va_P D vwCl ((a_x, .inr (10, [.ref a_at, .ref a_g, .ref a_st, .ref a_x_kept, .int x_keptStates, .ref a_tp, .ref a_rd, .ref a_qu, .ref a_sp, .ref a_wk, .ref a_bx, .ref a_nt, .ref a_nu, .ref a_x_seen])) :: (a_st, .inr (7, [.ref a_g, .ref a_st_levels, .ref a_st_keys, .ref a_st_years, .ref a_st_keysThere, .int st_size, .int st_shownBy, .int st_deepestShown, .int st_latestShown])) :: (a_st_levels, .inl (ci 0, 60, .inl st_levels)) :: (a_st_keys, .inl (ci 0, 60, .inl st_keys)) :: (a_st_years, .inl (ci 0, 60, .inl st_years)) :: (a_g, .inr (2, [.ref a_g_rowCuts, .ref a_g_columnCuts, .ref a_g_bandRows, .ref a_g_zoneColumns, .ref a_g_rows, .ref a_g_sheets])) :: (a_g_bandRows, .inl (ci 0, 5, .inl g_bandRows)) :: (a_g_zoneColumns, .inl (ci 0, 5, .inl g_zoneColumns)) :: (a_g_rows, .inl (ci 0, 5, .inl g_rows)) :: (a_g_sheets, .inl (ci 0, 5, .inl g_sheets)) :: Rw) H → va_S A s.heap H locs → W p l e ({ frames := 3, cells := 0, slots := 0, locals := 75 } : Room) s m ([.ref a_x, .int p1, .int p2] : List Value).toArray below meth c H locs 0 0 Q (F0 m 0 ls []) := by
    intro H locs hH hP hS
    refine lv_aload_n (pc := 0) hx hb dX10_drop_0 rfl (lv_at hl 0 rfl) ?_
    refine va_get (pc := 1) (D := D) (ci := 10) (v := .ref a_g) (C := RX10) (T := TX10) (N := 14) hx hb hts hinX10 hown hK hP 0 rfl rfl 1 (by decide) w_1 (fun _ h9 => h9) rfl dX10_drop_1 ?_
    refine lv_iload_n (pc := 4) hx hb dX10_drop_4 rfl (lv_at hl 1 rfl) ?_
    refine lv_iload_n (pc := 5) hx hb dX10_drop_5 rfl (lv_at hl 2 rfl) ?_
    obtain ⟨v1, hm6, hf⟩ := q_b1_e hf
    refine q_cVr (pc := 6) (As := [.int p1, .int p2]) (rest := []) (v0 := (some (.int v1))) ⟨hx, hb, hml, hown, hts⟩ hK hA hZ hP hD hS hl.1 [5, 9] 10 rfl ⟨rfl, rfl, rfl⟩ (c_Grid_hasSheet l D ci A sa N (Rw) a_g a_g_rowCuts a_g_columnCuts a_g_bandRows a_g_zoneColumns a_g_rows a_g_sheets g_sheets p1 p2 v1 hm6) 5 rfl rfl (cwV 2 hts gX10_drop_X2_hasSheet rfl rfl rfl (by decide +kernel) ⟨Nat.le_of_ble_eq_true rfl, Nat.le_of_ble_eq_true rfl⟩) rfl rfl (Nat.le_of_ble_eq_true rfl) dX10_drop_6 ⟨Nat.zero_le _, Nat.zero_le _⟩ (fun locs hS => ?_)
    refine q_if_ne (pc := 9) (tgt := 14) hx hb dX10_drop_9 (by decide) rfl hf (fun hf => ?_) (fun hf => ?_)
    · refine lv_aload_n (pc := 14) hx hb dX10_drop_14 rfl (lv_at hl 0 rfl) ?_
      refine va_get (pc := 15) (D := D) (ci := 10) (v := .ref a_g) (C := RX10) (T := TX10) (N := 14) hx hb hts hinX10 hown hK hP 0 rfl rfl 1 (by decide) w_1 (fun _ h9 => h9) rfl dX10_drop_15 ?_
      refine lv_iload_n (pc := 18) hx hb dX10_drop_18 rfl (lv_at hl 1 rfl) ?_
      refine lv_iload_n (pc := 19) hx hb dX10_drop_19 rfl (lv_at hl 2 rfl) ?_
      obtain ⟨v2, hm20, hf⟩ := q_b1_e hf
      refine q_cVr (pc := 20) (As := [.int p1, .int p2]) (rest := []) (v0 := (some (.int v2))) ⟨hx, hb, hml, hown, hts⟩ hK hA hZ hP hD hS hl.1 [5, 9] 10 rfl ⟨rfl, rfl, rfl⟩ (c_Grid_storedLevel l D ci A sa N (Rw) a_g a_g_rowCuts a_g_columnCuts a_g_bandRows a_g_zoneColumns a_g_rows a_g_sheets g_sheets p1 p2 v2 hm20) 5 rfl rfl (cwV 2 hts gX10_drop_X2_storedLevel rfl rfl rfl (by decide +kernel) ⟨Nat.le_of_ble_eq_true rfl, Nat.le_of_ble_eq_true rfl⟩) rfl rfl (Nat.le_of_ble_eq_true rfl) dX10_drop_20 ⟨Nat.zero_le _, Nat.zero_le _⟩ (fun locs hS => ?_)
      refine lv_istore_n (pc := 23) (lv' := [(3, .int v2), (0, .ref a_x), (1, .int p1), (2, .int p2)]) hx hb dX10_drop_23 rfl hl (by decide) rfl (fun ls hl => ?_)
      refine lv_aload_n (pc := 24) hx hb dX10_drop_24 rfl (lv_at hl 1 rfl) ?_
      refine va_get (pc := 25) (D := D) (ci := 10) (v := .ref a_st) (C := RX10) (T := TX10) (N := 14) hx hb hts hinX10 hown hK hP 0 rfl rfl 2 (by decide) w_2 (fun _ h9 => h9) rfl dX10_drop_25 ?_
      refine lv_iload_n (pc := 28) hx hb dX10_drop_28 rfl (lv_at hl 0 rfl) ?_
      refine lv_aload_n (pc := 29) hx hb dX10_drop_29 rfl (lv_at hl 1 rfl) ?_
      refine va_get (pc := 30) (D := D) (ci := 10) (v := .ref a_g) (C := RX10) (T := TX10) (N := 14) hx hb hts hinX10 hown hK hP 0 rfl rfl 1 (by decide) w_1 (fun _ h9 => h9) rfl dX10_drop_30 ?_
      refine lv_iload_n (pc := 33) hx hb dX10_drop_33 rfl (lv_at hl 2 rfl) ?_
      refine lv_iload_n (pc := 34) hx hb dX10_drop_34 rfl (lv_at hl 3 rfl) ?_
      refine lv_iload_n (pc := 35) hx hb dX10_drop_35 rfl (lv_at hl 0 rfl) ?_
      obtain ⟨v3, hm36, hf⟩ := q_b1_e hf
      refine q_cVr (pc := 36) (As := [.int p1, .int p2, .int v2]) (rest := [.int v2, .ref a_st]) (v0 := (some (.int v3))) ⟨hx, hb, hml, hown, hts⟩ hK hA hZ hP hD hS hl.1 [5, 6, 7, 8, 9] 10 rfl ⟨rfl, rfl, rfl⟩ (c_Grid_keyAbove l D ci A sa N (Rw) a_g a_g_rowCuts a_g_columnCuts a_g_bandRows a_g_zoneColumns a_g_rows a_g_sheets g_bandRows g_zoneColumns g_rows g_sheets p1 p2 v2 v3 hm36) 5 rfl rfl (cwV 3 hts gX10_drop_X2_keyAbove rfl rfl rfl (by decide +kernel) ⟨Nat.le_of_ble_eq_true rfl, Nat.le_of_ble_eq_true rfl⟩) rfl rfl (Nat.le_of_ble_eq_true rfl) dX10_drop_36 ⟨Nat.zero_le _, Nat.zero_le _⟩ (fun locs hS => ?_)
      obtain ⟨v4, hm39, hf⟩ := q_b1_e hf
      refine q_cVr (pc := 39) (As := [.int v2, .int v3]) (rest := []) (v0 := (some (.int v4))) ⟨hx, hb, hml, hown, hts⟩ hK hA hZ hP hD hS hl.1 [1, 2, 3] 10 rfl ⟨rfl, rfl, rfl⟩ (c_Store_find l D ci A sa N (Rw) a_st a_g a_st_levels a_st_keys a_st_years a_st_keysThere st_size st_shownBy st_deepestShown st_latestShown st_levels st_keys v2 v3 v4 hm39) 1 rfl rfl (cwV 2 hts gX10_drop_X7_find rfl rfl rfl (by decide +kernel) ⟨Nat.le_of_ble_eq_true rfl, Nat.le_of_ble_eq_true rfl⟩) rfl rfl (Nat.le_of_ble_eq_true rfl) dX10_drop_39 ⟨Nat.zero_le _, Nat.zero_le _⟩ (fun locs hS => ?_)
      refine lv_istore (pc := 42) (lv' := [(4, .int v4), (3, .int v2), (0, .ref a_x), (1, .int p1), (2, .int p2)]) hx hb dX10_drop_42 hl (by decide) rfl (fun ls hl => ?_)
      refine lv_iload (pc := 44) hx hb dX10_drop_44 (lv_at hl 0 rfl) ?_
      refine lv_iconst (pc := 46) (v := (-1)) hx hb dX10_drop_46 (by decide) ?_
      refine q_icmp_ne (pc := 47) (tgt := 53) hx hb dX10_drop_47 (by decide) rfl hf (fun hf => ?_) (fun hf => ?_)
      · refine lv_aload_n (pc := 53) hx hb dX10_drop_53 rfl (lv_at hl 2 rfl) ?_
        refine va_get (pc := 54) (D := D) (ci := 10) (v := .ref a_st) (C := RX10) (T := TX10) (N := 14) hx hb hts hinX10 hown hK hP 0 rfl rfl 2 (by decide) w_2 (fun _ h9 => h9) rfl dX10_drop_54 ?_
        refine va_getN (pc := 57) (D := D) (ci := 7) (v := .ref a_st_years) (C := RX7) (T := TX7) (N := 9) hx hb hts hinX7 hown hK hP 1 rfl rfl 3 (by decide) wn_25 (fun _ h9 => h9) rfl dX10_drop_57 ?_
        refine lv_iload (pc := 60) hx hb dX10_drop_60 (lv_at hl 0 rfl) ?_
        refine q_iald (pc := 62) hx hb hK hP 4 0 hf rfl rfl dX10_drop_62 (fun v5 hf => ?_)
        refine lv_istore (pc := 63) (lv' := [(5, .int v5), (4, .int v4), (3, .int v2), (0, .ref a_x), (1, .int p1), (2, .int p2)]) hx hb dX10_drop_63 hl (by decide) rfl (fun ls hl => ?_)
        refine lv_aload_n (pc := 65) hx hb dX10_drop_65 rfl (lv_at hl 3 rfl) ?_
        refine va_get (pc := 66) (D := D) (ci := 10) (v := .ref a_st) (C := RX10) (T := TX10) (N := 14) hx hb hts hinX10 hown hK hP 0 rfl rfl 2 (by decide) w_2 (fun _ h9 => h9) rfl dX10_drop_66 ?_
        refine lv_iload (pc := 69) hx hb dX10_drop_69 (lv_at hl 1 rfl) ?_
        obtain ⟨f6, f7, f8, v9, hm71, hf⟩ := q_b4_e hf
        refine q_cV (pc := 71) (As := [.int v4]) (rest := []) (v0 := none) ⟨hx, hb, hml, hown, hts⟩ hK hA hZ hP hD hS hl.1 [1, 2, 3, 4, 0, 5, 6, 7, 8, 9] 10 rfl ⟨rfl, rfl, rfl⟩ (c_Store_remove l D ci A sa N ((a_x, .inr (10, [.ref a_at, .ref a_g, .ref a_st, .ref a_x_kept, .int x_keptStates, .ref a_tp, .ref a_rd, .ref a_qu, .ref a_sp, .ref a_wk, .ref a_bx, .ref a_nt, .ref a_nu, .ref a_x_seen])) :: (a_g, .inr (2, [.ref a_g_rowCuts, .ref a_g_columnCuts, .ref a_g_bandRows, .ref a_g_zoneColumns, .ref a_g_rows, .ref a_g_sheets])) :: (a_g_bandRows, .inl (ci 0, 5, .inl g_bandRows)) :: (a_g_zoneColumns, .inl (ci 0, 5, .inl g_zoneColumns)) :: (a_g_rows, .inl (ci 0, 5, .inl g_rows)) :: (a_g_sheets, .inl (ci 0, 5, .inl g_sheets)) :: Rw) a_st a_g a_st_levels a_st_keys a_st_years a_st_keysThere st_size st_shownBy st_deepestShown st_latestShown st_levels st_keys st_years v4 f6 f7 f8 v9 hm71) 1 rfl rfl (cwV 1 hts gX10_drop_X7_remove rfl rfl rfl (by decide +kernel) ⟨Nat.le_of_ble_eq_true rfl, Nat.le_of_ble_eq_true rfl⟩) rfl rfl (Nat.le_of_ble_eq_true rfl) dX10_drop_71 ⟨Nat.zero_le _, Nat.zero_le _⟩ [4, 0, 1, 2, 3, 5, 6, 7, 8, 9] 10 rfl ⟨rfl, rfl, rfl⟩ (fun H locs hP hD hS => ?_)
        obtain ⟨hP, hD⟩ : va_PD D A ((a_x, .inr (10, [.ref a_at, .ref a_g, .ref a_st, .ref a_x_kept, .int x_keptStates, .ref a_tp, .ref a_rd, .ref a_qu, .ref a_sp, .ref a_wk, .ref a_bx, .ref a_nt, .ref a_nu, .ref a_x_seen])) :: (a_st, .inr (7, [.ref a_g, .ref a_st_levels, .ref a_st_keys, .ref a_st_years, .ref a_st_keysThere, .int v9, .int st_shownBy, .int st_deepestShown, .int st_latestShown])) :: (a_st_levels, .inl (ci 0, 60, .inl f6)) :: (a_st_keys, .inl (ci 0, 60, .inl f7)) :: (a_st_years, .inl (ci 0, 60, .inl f8)) :: (a_g, .inr (2, [.ref a_g_rowCuts, .ref a_g_columnCuts, .ref a_g_bandRows, .ref a_g_zoneColumns, .ref a_g_rows, .ref a_g_sheets])) :: (a_g_bandRows, .inl (ci 0, 5, .inl g_bandRows)) :: (a_g_zoneColumns, .inl (ci 0, 5, .inl g_zoneColumns)) :: (a_g_rows, .inl (ci 0, 5, .inl g_rows)) :: (a_g_sheets, .inl (ci 0, 5, .inl g_sheets)) :: Rw) H := ⟨hP, hD⟩
        refine lv_iload (pc := 74) hx hb dX10_drop_74 (lv_at hl 0 rfl) ?_
        obtain ⟨e90, e91, e92, e93, e94⟩ := q_inj5 (Option.some.inj hf)
        rw [hQ, ← e90, ← e91, ← e92, ← e93, ← e94]
        exact q_iret (pc := 76) hx hb hr hlocks hP hD hS dX10_drop_76
      · refine lv_bipush (pc := 50) (v := (-2)) hx hb dX10_drop_50 (by decide) ?_
        obtain ⟨e90, e91, e92, e93, e94⟩ := q_inj5 (Option.some.inj hf)
        rw [hQ, ← e90, ← e91, ← e92, ← e93, ← e94]
        exact q_iret (pc := 52) hx hb hr hlocks hP hD hS dX10_drop_52
    · refine lv_iconst (pc := 12) (v := (-1)) hx hb dX10_drop_12 (by decide) ?_
      obtain ⟨e90, e91, e92, e93, e94⟩ := q_inj5 (Option.some.inj hf)
      rw [hQ, ← e90, ← e91, ← e92, ← e93, ← e94]
      exact q_iret (pc := 13) hx hb hr hlocks hP hD hS dX10_drop_13
  exact hgo _ _ rfl hP hS
/-! X10_edge -/
set_option maxRecDepth 100000 in
set_option maxHeartbeats 4000000 in
theorem c_X_edge (l : Launch) (D : va_G) (ci : Nat → ClassId) (A : Nat → Prop) (sa : Nat → Nat) (N : Nat) (Rw : va_W) (a_x : Nat) (a_at : Nat) (a_g : Nat) (a_st : Nat) (a_x_kept : Nat) (a_tp : Nat) (a_rd : Nat) (a_qu : Nat) (a_sp : Nat) (a_wk : Nat) (a_bx : Nat) (a_nt : Nat) (a_nu : Nat) (a_x_seen : Nat) (a_sp_first : Nat) (a_sp_many : Nat) (a_sp_corner : Nat) (a_g_rowCuts : Nat) (a_g_columnCuts : Nat) (a_g_bandRows : Nat) (a_g_zoneColumns : Nat) (a_g_rows : Nat) (a_g_sheets : Nat) (x_keptStates : Int32) (sp_cornerCount : Int32) (sp_level : Int32) (sp_row : Int32) (sp_start : Int32) (sp_place : Int32) (sp_length : Int32) (sp_cap : Int32) (g_bandRows : Nat → Int32) (g_zoneColumns : Nat → Int32) (g_rows : Nat → Int32) (g_sheets : Nat → Int32) (p1 : Int32) (p2 : Int32) (p3 : Int32) (r : Int64) (o1 : Int32) (o2 : Int32) (o3 : Int32) (o4 : Int32) (o5 : Int32) (o6 : Int32) (hf : f_X_edge N sp_level sp_row sp_start sp_place sp_length sp_cap g_bandRows g_zoneColumns g_rows g_sheets p1 p2 p3 = some (r, o1, o2, o3, o4, o5, o6)) : Met l yX10_edge wsX10_edge ({ frames := 3, cells := 0, slots := 0, locals := 71 }) (va_Pc [.ref a_x, .int p1, .int p2, .int p3] (q_N D ci A sa ((a_x, .inr (10, [.ref a_at, .ref a_g, .ref a_st, .ref a_x_kept, .int x_keptStates, .ref a_tp, .ref a_rd, .ref a_qu, .ref a_sp, .ref a_wk, .ref a_bx, .ref a_nt, .ref a_nu, .ref a_x_seen])) :: (a_sp, .inr (6, [.ref a_g, .ref a_sp_first, .ref a_sp_many, .ref a_sp_corner, .int sp_cornerCount, .int sp_level, .int sp_row, .int sp_start, .int sp_place, .int sp_length, .int sp_cap])) :: (a_g, .inr (2, [.ref a_g_rowCuts, .ref a_g_columnCuts, .ref a_g_bandRows, .ref a_g_zoneColumns, .ref a_g_rows, .ref a_g_sheets])) :: (a_g_bandRows, .inl (ci 0, 5, .inl g_bandRows)) :: (a_g_zoneColumns, .inl (ci 0, 5, .inl g_zoneColumns)) :: (a_g_rows, .inl (ci 0, 5, .inl g_rows)) :: (a_g_sheets, .inl (ci 0, 5, .inl g_sheets)) :: Rw))) (q_Q (some (.long r)) (q_O D A ((a_x, .inr (10, [.ref a_at, .ref a_g, .ref a_st, .ref a_x_kept, .int x_keptStates, .ref a_tp, .ref a_rd, .ref a_qu, .ref a_sp, .ref a_wk, .ref a_bx, .ref a_nt, .ref a_nu, .ref a_x_seen])) :: (a_sp, .inr (6, [.ref a_g, .ref a_sp_first, .ref a_sp_many, .ref a_sp_corner, .int sp_cornerCount, .int o1, .int o2, .int o3, .int o4, .int o5, .int o6])) :: (a_g, .inr (2, [.ref a_g_rowCuts, .ref a_g_columnCuts, .ref a_g_bandRows, .ref a_g_zoneColumns, .ref a_g_rows, .ref a_g_sheets])) :: (a_g_bandRows, .inl (ci 0, 5, .inl g_bandRows)) :: (a_g_zoneColumns, .inl (ci 0, 5, .inl g_zoneColumns)) :: (a_g_rows, .inl (ci 0, 5, .inl g_rows)) :: (a_g_sheets, .inl (ci 0, 5, .inl g_sheets)) :: Rw)) A) 0 0 A := by
  refine q_ofW (cc := cX10_edge) (maxL := 10) (ret := (some .long)) [.ref a_x, .int p1, .int p2, .int p3] (plainFor_of_name (by decide)) rfl (Nat.le_of_ble_eq_true rfl) ?_
  intro p e s m below meth c ls Q hQ hx hb hml hr hts hown hlocks hK hA hZ hP hD hS hl
  have hl : lv_has ls 10 [(0, .ref a_x), (1, .int p1), (2, .int p2), (3, .int p3)] := hl
  have hown : s.vm.findClass RX10 = some m.cls := hown
  have hinX10 : ∀ w ∈ wsX100, w ∈ wsX10_edge := fun _ h => List.mem_cons_of_mem _ (inWX100 _ h)
  have w_1 := hts (Cond.fieldLink RX10 20 "SheetNames" "grid" "LSheetNames$Grid;") (List.mem_cons_of_mem _ t_w876)
  have w_2 := hts (Cond.constantLong RX10 188 (-9223372036854775808)) (List.mem_cons_of_mem _ t_w899)
  have w_3 := hts (Cond.fieldLink RX10 66 "SheetNames" "spot" "LSheetNames$Spot;") (List.mem_cons_of_mem _ t_w877)
  have w_4 := hts (Cond.methodLink RX10 197 Lib.MathLoose.abs_long.x) (List.mem_cons_of_mem _ t_w900)
  have w_5 := hts (Cond.static Lib.MathLoose.abs_long.x) (List.mem_cons_of_mem _ t_w901)
  have w_6 := hts (Cond.initialized "java/lang/Math") (List.mem_cons_of_mem _ t_w76)
  have w_7 := hts (Cond.code Lib.MathLoose.abs_long.x Lib.MathLoose.abs_long.code 2 (some .long)) (List.mem_cons_of_mem _ t_w902)
  unfold f_X_edge at hf
  have hgo : ∀ (H : Heap) (locs : List Loc), H = s.heap → va_P D vwCl ((a_x, .inr (10, [.ref a_at, .ref a_g, .ref a_st, .ref a_x_kept, .int x_keptStates, .ref a_tp, .ref a_rd, .ref a_qu, .ref a_sp, .ref a_wk, .ref a_bx, .ref a_nt, .ref a_nu, .ref a_x_seen])) :: (a_sp, .inr (6, [.ref a_g, .ref a_sp_first, .ref a_sp_many, .ref a_sp_corner, .int sp_cornerCount, .int sp_level, .int sp_row, .int sp_start, .int sp_place, .int sp_length, .int sp_cap])) :: (a_g, .inr (2, [.ref a_g_rowCuts, .ref a_g_columnCuts, .ref a_g_bandRows, .ref a_g_zoneColumns, .ref a_g_rows, .ref a_g_sheets])) :: (a_g_bandRows, .inl (ci 0, 5, .inl g_bandRows)) :: (a_g_zoneColumns, .inl (ci 0, 5, .inl g_zoneColumns)) :: (a_g_rows, .inl (ci 0, 5, .inl g_rows)) :: (a_g_sheets, .inl (ci 0, 5, .inl g_sheets)) :: Rw) H → va_S A s.heap H locs → W p l e ({ frames := 3, cells := 0, slots := 0, locals := 71 } : Room) s m ([.ref a_x, .int p1, .int p2, .int p3] : List Value).toArray below meth c H locs 0 0 Q (F0 m 0 ls []) := by
    intro H locs hH hP hS
    refine lv_aload_n (pc := 0) hx hb dX10_edge_0 rfl (lv_at hl 0 rfl) ?_
    refine va_get (pc := 1) (D := D) (ci := 10) (v := .ref a_g) (C := RX10) (T := TX10) (N := 14) hx hb hts hinX10 hown hK hP 0 rfl rfl 1 (by decide) w_1 (fun _ h9 => h9) rfl dX10_edge_1 ?_
    refine lv_iload_n (pc := 4) hx hb dX10_edge_4 rfl (lv_at hl 1 rfl) ?_
    refine lv_iload_n (pc := 5) hx hb dX10_edge_5 rfl (lv_at hl 2 rfl) ?_
    obtain ⟨v1, hm6, hf⟩ := q_b1_e hf
    refine q_cVr (pc := 6) (As := [.int p1, .int p2]) (rest := []) (v0 := (some (.int v1))) ⟨hx, hb, hml, hown, hts⟩ hK hA hZ hP hD hS hl.1 [2, 6] 7 rfl ⟨rfl, rfl, rfl⟩ (c_Grid_hasSheet l D ci A sa N (Rw) a_g a_g_rowCuts a_g_columnCuts a_g_bandRows a_g_zoneColumns a_g_rows a_g_sheets g_sheets p1 p2 v1 hm6) 2 rfl rfl (cwV 2 hts gX10_edge_X2_hasSheet rfl rfl rfl (by decide +kernel) ⟨Nat.le_of_ble_eq_true rfl, Nat.le_of_ble_eq_true rfl⟩) rfl rfl (Nat.le_of_ble_eq_true rfl) dX10_edge_6 ⟨Nat.zero_le _, Nat.zero_le _⟩ (fun locs hS => ?_)
    refine q_if_eq (pc := 9) (tgt := 22) hx hb dX10_edge_9 (by decide) rfl hf (fun hf => ?_) (fun hf => ?_)
    · refine lv_ldc2 (pc := 22) (v := (-9223372036854775808)) hx hb hown w_2 dX10_edge_22 ?_
      obtain ⟨e90, e91, e92, e93, e94, e95, e96⟩ := q_inj7 (Option.some.inj hf)
      rw [hQ, ← e90, ← e91, ← e92, ← e93, ← e94, ← e95, ← e96]
      exact q_lret (pc := 25) hx hb hr hlocks hP hD hS dX10_edge_25
    · refine lv_iload_n (pc := 12) hx hb dX10_edge_12 rfl (lv_at hl 3 rfl) ?_
      refine lv_iconst (pc := 13) (v := 0) hx hb dX10_edge_13 (by decide) ?_
      refine lv_bipush (pc := 14) (v := 7) hx hb dX10_edge_14 (by decide) ?_
      obtain ⟨v2, hm16, hf⟩ := q_b1_e hf
      refine q_cSr (pc := 16) (As := [.int p3, .int 0, .int 7]) (rest := []) (v0 := (some (.int v2))) ⟨hx, hb, hml, hown, hts⟩ hK hA hZ hP hD hS hl.1 [] 7 rfl ⟨rfl, rfl, rfl⟩ (c_X_isFrom l D ci A sa N (Rw) p3 0 7 v2 hm16) (va_cwS 3 hts gX10_edge_X10_isFrom rfl rfl rfl (by decide +kernel) ⟨Nat.le_of_ble_eq_true rfl, Nat.le_of_ble_eq_true rfl⟩) rfl rfl (Nat.le_of_ble_eq_true rfl) dX10_edge_16 ⟨Nat.zero_le _, Nat.zero_le _⟩ (fun locs hS => ?_)
      refine q_if_ne (pc := 19) (tgt := 26) hx hb dX10_edge_19 (by decide) rfl hf (fun hf => ?_) (fun hf => ?_)
      · refine lv_aload_n (pc := 26) hx hb dX10_edge_26 rfl (lv_at hl 0 rfl) ?_
        refine va_get (pc := 27) (D := D) (ci := 10) (v := .ref a_sp) (C := RX10) (T := TX10) (N := 14) hx hb hts hinX10 hown hK hP 0 rfl rfl 8 (by decide) w_3 (fun _ h9 => h9) rfl dX10_edge_27 ?_
        refine lv_iload_n (pc := 30) hx hb dX10_edge_30 rfl (lv_at hl 1 rfl) ?_
        refine lv_iload_n (pc := 31) hx hb dX10_edge_31 rfl (lv_at hl 2 rfl) ?_
        obtain ⟨v3, v4, v5, v6, v7, v8, hm32, hf⟩ := q_b6_e hf
        refine q_cV (pc := 32) (As := [.int p1, .int p2]) (rest := []) (v0 := none) ⟨hx, hb, hml, hown, hts⟩ hK hA hZ hP hD hS hl.1 [1, 2, 3, 4, 5, 6, 0] 7 rfl ⟨rfl, rfl, rfl⟩ (c_Spot_put l D ci A sa N ((a_x, .inr (10, [.ref a_at, .ref a_g, .ref a_st, .ref a_x_kept, .int x_keptStates, .ref a_tp, .ref a_rd, .ref a_qu, .ref a_sp, .ref a_wk, .ref a_bx, .ref a_nt, .ref a_nu, .ref a_x_seen])) :: Rw) a_sp a_g a_sp_first a_sp_many a_sp_corner a_g_rowCuts a_g_columnCuts a_g_bandRows a_g_zoneColumns a_g_rows a_g_sheets sp_cornerCount sp_level sp_row sp_start sp_place sp_length sp_cap g_bandRows g_zoneColumns g_rows g_sheets p1 p2 v3 v4 v5 v6 v7 v8 hm32) 1 rfl rfl (cwV 2 hts gX10_edge_X6_put rfl rfl rfl (by decide +kernel) ⟨Nat.le_of_ble_eq_true rfl, Nat.le_of_ble_eq_true rfl⟩) rfl rfl (Nat.le_of_ble_eq_true rfl) dX10_edge_32 ⟨Nat.zero_le _, Nat.zero_le _⟩ [6, 0, 1, 2, 3, 4, 5] 7 rfl ⟨rfl, rfl, rfl⟩ (fun H locs hP hD hS => ?_)
        obtain ⟨hP, hD⟩ : va_PD D A ((a_x, .inr (10, [.ref a_at, .ref a_g, .ref a_st, .ref a_x_kept, .int x_keptStates, .ref a_tp, .ref a_rd, .ref a_qu, .ref a_sp, .ref a_wk, .ref a_bx, .ref a_nt, .ref a_nu, .ref a_x_seen])) :: (a_sp, .inr (6, [.ref a_g, .ref a_sp_first, .ref a_sp_many, .ref a_sp_corner, .int sp_cornerCount, .int v3, .int v4, .int v5, .int v6, .int v7, .int v8])) :: (a_g, .inr (2, [.ref a_g_rowCuts, .ref a_g_columnCuts, .ref a_g_bandRows, .ref a_g_zoneColumns, .ref a_g_rows, .ref a_g_sheets])) :: (a_g_bandRows, .inl (ci 0, 5, .inl g_bandRows)) :: (a_g_zoneColumns, .inl (ci 0, 5, .inl g_zoneColumns)) :: (a_g_rows, .inl (ci 0, 5, .inl g_rows)) :: (a_g_sheets, .inl (ci 0, 5, .inl g_sheets)) :: Rw) H := ⟨hP, hD⟩
        refine lv_aload_n (pc := 35) hx hb dX10_edge_35 rfl (lv_at hl 0 rfl) ?_
        refine va_get (pc := 36) (D := D) (ci := 10) (v := .ref a_sp) (C := RX10) (T := TX10) (N := 14) hx hb hts hinX10 hown hK hP 0 rfl rfl 8 (by decide) w_3 (fun _ h9 => h9) rfl dX10_edge_36 ?_
        refine lv_iload_n (pc := 39) hx hb dX10_edge_39 rfl (lv_at hl 3 rfl) ?_
        refine lv_iconst (pc := 40) (v := 2) hx hb dX10_edge_40 (by decide) ?_
        refine q_idiv (pc := 41) hx hb dX10_edge_41 hf (fun v9 hf => ?_)
        obtain ⟨v10, hm42, hf⟩ := q_b1_e hf
        refine q_cVr (pc := 42) (As := [.int v9]) (rest := []) (v0 := (some (.long v10))) ⟨hx, hb, hml, hown, hts⟩ hK hA hZ hP hD hS hl.1 [1, 2, 3] 7 rfl ⟨rfl, rfl, rfl⟩ (c_Spot_edgeTop l D ci A sa N (Rw) a_sp a_g a_sp_first a_sp_many a_sp_corner a_g_rowCuts a_g_columnCuts a_g_bandRows a_g_zoneColumns a_g_rows a_g_sheets sp_cornerCount v3 v4 v5 v6 v7 v8 g_bandRows v9 v10 hm42) 1 rfl rfl (cwV 1 hts gX10_edge_X6_edgeTop rfl rfl rfl (by decide +kernel) ⟨Nat.le_of_ble_eq_true rfl, Nat.le_of_ble_eq_true rfl⟩) rfl rfl (Nat.le_of_ble_eq_true rfl) dX10_edge_42 ⟨Nat.zero_le _, Nat.zero_le _⟩ (fun locs hS => ?_)
        refine lv_lstore (pc := 45) (lv' := [(4, .long v10), (0, .ref a_x), (1, .int p1), (2, .int p2), (3, .int p3)]) hx hb dX10_edge_45 hl (by decide) rfl (fun ls hl => ?_)
        refine lv_aload_n (pc := 47) hx hb dX10_edge_47 rfl (lv_at hl 1 rfl) ?_
        refine va_get (pc := 48) (D := D) (ci := 10) (v := .ref a_sp) (C := RX10) (T := TX10) (N := 14) hx hb hts hinX10 hown hK hP 0 rfl rfl 8 (by decide) w_3 (fun _ h9 => h9) rfl dX10_edge_48 ?_
        refine lv_iload_n (pc := 51) hx hb dX10_edge_51 rfl (lv_at hl 4 rfl) ?_
        refine lv_iconst (pc := 52) (v := 2) hx hb dX10_edge_52 (by decide) ?_
        refine q_idiv (pc := 53) hx hb dX10_edge_53 hf (fun v11 hf => ?_)
        obtain ⟨v12, hm54, hf⟩ := q_b1_e hf
        refine q_cVr (pc := 54) (As := [.int v11]) (rest := []) (v0 := (some (.long v12))) ⟨hx, hb, hml, hown, hts⟩ hK hA hZ hP hD hS hl.1 [1, 2, 3] 7 rfl ⟨rfl, rfl, rfl⟩ (c_Spot_edgeBottom l D ci A sa N (Rw) a_sp a_g a_sp_first a_sp_many a_sp_corner a_g_rowCuts a_g_columnCuts a_g_bandRows a_g_zoneColumns a_g_rows a_g_sheets sp_cornerCount v3 v4 v5 v6 v7 v8 g_bandRows v11 v12 hm54) 1 rfl rfl (cwV 1 hts gX10_edge_X6_edgeBottom rfl rfl rfl (by decide +kernel) ⟨Nat.le_of_ble_eq_true rfl, Nat.le_of_ble_eq_true rfl⟩) rfl rfl (Nat.le_of_ble_eq_true rfl) dX10_edge_54 ⟨Nat.zero_le _, Nat.zero_le _⟩ (fun locs hS => ?_)
        refine lv_lstore (pc := 57) (lv' := [(6, .long v12), (4, .long v10), (0, .ref a_x), (1, .int p1), (2, .int p2), (3, .int p3)]) hx hb dX10_edge_57 hl (by decide) rfl (fun ls hl => ?_)
        refine lv_lload (pc := 59) hx hb dX10_edge_59 (lv_at hl 1 rfl) ?_
        obtain ⟨v13, ev13, hf⟩ := q_nm_e hf
        refine va_mabs_long (pc := 61) hx hb (hml.trans hl.1.symm) hown w_4 w_5 w_6 w_7 (Nat.le_of_ble_eq_true rfl) (Nat.le_of_ble_eq_true rfl) (Nat.zero_le _) (Nat.zero_le _) dX10_edge_61 ?_
        refine q_topl ev13 ?_
        refine lv_lload (pc := 64) hx hb dX10_edge_64 (lv_at hl 0 rfl) ?_
        obtain ⟨v14, hm66, hf⟩ := q_b1_e hf
        refine q_cSr (pc := 66) (As := [.long v13, .long v12]) (rest := []) (v0 := (some (.long v14))) ⟨hx, hb, hml, hown, hts⟩ hK hA hZ hP hD hS hl.1 [] 7 rfl ⟨rfl, rfl, rfl⟩ (c_X_commonDivisor l D ci A sa N (Rw) v13 v12 v14 hm66) (va_cwS 2 hts gX10_edge_X10_commonDivisor rfl rfl rfl (by decide +kernel) ⟨Nat.le_of_ble_eq_true rfl, Nat.le_of_ble_eq_true rfl⟩) rfl rfl (Nat.le_of_ble_eq_true rfl) dX10_edge_66 ⟨Nat.zero_le _, Nat.zero_le _⟩ (fun locs hS => ?_)
        refine lv_lstore (pc := 69) (lv' := [(8, .long v14), (6, .long v12), (4, .long v10), (0, .ref a_x), (1, .int p1), (2, .int p2), (3, .int p3)]) hx hb dX10_edge_69 hl (by decide) rfl (fun ls hl => ?_)
        refine lv_lload (pc := 71) hx hb dX10_edge_71 (lv_at hl 0 rfl) ?_
        refine lv_lconst (pc := 73) (v := 1) hx hb dX10_edge_73 (by decide) ?_
        refine W.lcmp (pc := 74) hx hb dX10_edge_74 ?_
        refine q_if_ge (pc := 75) (tgt := 82) hx hb dX10_edge_75 (by decide) rfl hf (fun hf => ?_) (fun hf => ?_)
        · refine lv_iload_n (pc := 82) hx hb dX10_edge_82 rfl (lv_at hl 6 rfl) ?_
          refine lv_iconst (pc := 83) (v := 2) hx hb dX10_edge_83 (by decide) ?_
          refine q_irem (pc := 84) hx hb dX10_edge_84 hf (fun v15 hf => ?_)
          refine q_if_ne (pc := 85) (tgt := 96) hx hb dX10_edge_85 (by decide) rfl hf (fun hf => ?_) (fun hf => ?_)
          · refine lv_lload (pc := 96) hx hb dX10_edge_96 (lv_at hl 1 rfl) ?_
            refine lv_lload (pc := 98) hx hb dX10_edge_98 (lv_at hl 0 rfl) ?_
            refine q_ldiv (pc := 100) hx hb dX10_edge_100 hf (fun v16 hf => ?_)
            obtain ⟨e90, e91, e92, e93, e94, e95, e96⟩ := q_inj7 (Option.some.inj hf)
            rw [hQ, ← e90, ← e91, ← e92, ← e93, ← e94, ← e95, ← e96]
            exact q_lret (pc := 101) hx hb hr hlocks hP hD hS dX10_edge_101
          · refine lv_lload (pc := 88) hx hb dX10_edge_88 (lv_at hl 2 rfl) ?_
            refine lv_lload (pc := 90) hx hb dX10_edge_90 (lv_at hl 0 rfl) ?_
            refine q_ldiv (pc := 92) hx hb dX10_edge_92 hf (fun v17 hf => ?_)
            refine lv_goto (pc := 93) (tgt := 101) hx hb dX10_edge_93 (by decide) ?_
            obtain ⟨e90, e91, e92, e93, e94, e95, e96⟩ := q_inj7 (Option.some.inj hf)
            rw [hQ, ← e90, ← e91, ← e92, ← e93, ← e94, ← e95, ← e96]
            exact q_lret (pc := 101) hx hb hr hlocks hP hD hS dX10_edge_101
        · refine lv_ldc2 (pc := 78) (v := (-9223372036854775808)) hx hb hown w_2 dX10_edge_78 ?_
          obtain ⟨e90, e91, e92, e93, e94, e95, e96⟩ := q_inj7 (Option.some.inj hf)
          rw [hQ, ← e90, ← e91, ← e92, ← e93, ← e94, ← e95, ← e96]
          exact q_lret (pc := 81) hx hb hr hlocks hP hD hS dX10_edge_81
      · refine lv_ldc2 (pc := 22) (v := (-9223372036854775808)) hx hb hown w_2 dX10_edge_22 ?_
        obtain ⟨e90, e91, e92, e93, e94, e95, e96⟩ := q_inj7 (Option.some.inj hf)
        rw [hQ, ← e90, ← e91, ← e92, ← e93, ← e94, ← e95, ← e96]
        exact q_lret (pc := 25) hx hb hr hlocks hP hD hS dX10_edge_25
  exact hgo _ _ rfl hP hS
/-! X10_farthest -/
set_option maxRecDepth 100000 in
set_option maxHeartbeats 4000000 in
theorem c_X_farthest (l : Launch) (D : va_G) (ci : Nat → ClassId) (A : Nat → Prop) (sa : Nat → Nat) (N : Nat) (Rw : va_W) (a_x : Nat) (a_at : Nat) (a_g : Nat) (a_st : Nat) (a_x_kept : Nat) (a_tp : Nat) (a_rd : Nat) (a_qu : Nat) (a_sp : Nat) (a_wk : Nat) (a_bx : Nat) (a_nt : Nat) (a_nu : Nat) (a_x_seen : Nat) (a_ws : Nat) (a_wk_steps : Nat) (a_wk_reached : Nat) (n_wk_steps : Nat) (n_wk_reached : Nat) (a_ws_first : Nat) (a_ws_many : Nat) (a_ws_corner : Nat) (a_g_rowCuts : Nat) (a_g_columnCuts : Nat) (a_g_bandRows : Nat) (a_g_zoneColumns : Nat) (a_g_rows : Nat) (a_g_sheets : Nat) (x_keptStates : Int32) (wk_many : Int32) (wk_steps : Nat → Int32) (wk_reached : Nat → Int32) (ws_cornerCount : Int32) (ws_level : Int32) (ws_row : Int32) (ws_start : Int32) (ws_place : Int32) (ws_length : Int32) (ws_cap : Int32) (ws_first : Nat → Int32) (ws_many : Nat → Int32) (g_bandRows : Nat → Int32) (g_zoneColumns : Nat → Int32) (g_rows : Nat → Int32) (g_sheets : Nat → Int32) (p1 : Int32) (p2 : Int32) (p3 : Int32) (r : Int32) (o1 : Nat → Int32) (o2 : Nat → Int32) (o3 : Int32) (o4 : Nat → Int32) (o5 : Nat → Int32) (o6 : Int32) (o7 : Int32) (o8 : Int32) (o9 : Int32) (o10 : Int32) (o11 : Int32) (hf : f_X_farthest N n_wk_steps n_wk_reached wk_steps wk_reached wk_many ws_first ws_many ws_level ws_row ws_start ws_place ws_length ws_cap g_bandRows g_zoneColumns g_rows g_sheets p1 p2 p3 = some (r, o1, o2, o3, o4, o5, o6, o7, o8, o9, o10, o11)) : Met l yX10_farthest wsX10_farthest ({ frames := 4, cells := 0, slots := 0, locals := 112 }) (va_Pc [.ref a_x, .int p1, .int p2, .int p3] (q_N D ci A sa ((a_x, .inr (10, [.ref a_at, .ref a_g, .ref a_st, .ref a_x_kept, .int x_keptStates, .ref a_tp, .ref a_rd, .ref a_qu, .ref a_sp, .ref a_wk, .ref a_bx, .ref a_nt, .ref a_nu, .ref a_x_seen])) :: (a_wk, .inr (9, [.ref a_ws, .ref a_wk_steps, .ref a_wk_reached, .int wk_many])) :: (a_wk_steps, .inl (ci 0, n_wk_steps, .inl wk_steps)) :: (a_wk_reached, .inl (ci 0, n_wk_reached, .inl wk_reached)) :: (a_ws, .inr (6, [.ref a_g, .ref a_ws_first, .ref a_ws_many, .ref a_ws_corner, .int ws_cornerCount, .int ws_level, .int ws_row, .int ws_start, .int ws_place, .int ws_length, .int ws_cap])) :: (a_ws_first, .inl (ci 0, 4, .inl ws_first)) :: (a_ws_many, .inl (ci 0, 4, .inl ws_many)) :: (a_g, .inr (2, [.ref a_g_rowCuts, .ref a_g_columnCuts, .ref a_g_bandRows, .ref a_g_zoneColumns, .ref a_g_rows, .ref a_g_sheets])) :: (a_g_bandRows, .inl (ci 0, 5, .inl g_bandRows)) :: (a_g_zoneColumns, .inl (ci 0, 5, .inl g_zoneColumns)) :: (a_g_rows, .inl (ci 0, 5, .inl g_rows)) :: (a_g_sheets, .inl (ci 0, 5, .inl g_sheets)) :: Rw))) (q_Q (some (.int r)) (q_O D A ((a_x, .inr (10, [.ref a_at, .ref a_g, .ref a_st, .ref a_x_kept, .int x_keptStates, .ref a_tp, .ref a_rd, .ref a_qu, .ref a_sp, .ref a_wk, .ref a_bx, .ref a_nt, .ref a_nu, .ref a_x_seen])) :: (a_wk, .inr (9, [.ref a_ws, .ref a_wk_steps, .ref a_wk_reached, .int o3])) :: (a_wk_steps, .inl (ci 0, n_wk_steps, .inl o1)) :: (a_wk_reached, .inl (ci 0, n_wk_reached, .inl o2)) :: (a_ws, .inr (6, [.ref a_g, .ref a_ws_first, .ref a_ws_many, .ref a_ws_corner, .int ws_cornerCount, .int o6, .int o7, .int o8, .int o9, .int o10, .int o11])) :: (a_ws_first, .inl (ci 0, 4, .inl o4)) :: (a_ws_many, .inl (ci 0, 4, .inl o5)) :: (a_g, .inr (2, [.ref a_g_rowCuts, .ref a_g_columnCuts, .ref a_g_bandRows, .ref a_g_zoneColumns, .ref a_g_rows, .ref a_g_sheets])) :: (a_g_bandRows, .inl (ci 0, 5, .inl g_bandRows)) :: (a_g_zoneColumns, .inl (ci 0, 5, .inl g_zoneColumns)) :: (a_g_rows, .inl (ci 0, 5, .inl g_rows)) :: (a_g_sheets, .inl (ci 0, 5, .inl g_sheets)) :: Rw)) A) 0 0 A := by
  refine q_ofW (cc := cX10_farthest) (maxL := 5) (ret := (some .int)) [.ref a_x, .int p1, .int p2, .int p3] (plainFor_of_name (by decide)) rfl (Nat.le_of_ble_eq_true rfl) ?_
  intro p e s m below meth c ls Q hQ hx hb hml hr hts hown hlocks hK hA hZ hP hD hS hl
  have hl : lv_has ls 5 [(0, .ref a_x), (1, .int p1), (2, .int p2), (3, .int p3)] := hl
  have hown : s.vm.findClass RX10 = some m.cls := hown
  have hinX10 : ∀ w ∈ wsX100, w ∈ wsX10_farthest := fun _ h => List.mem_cons_of_mem _ (inWX100 _ h)
  have hinX2 : ∀ w ∈ wsX20, w ∈ wsX10_farthest := fun _ h => List.mem_cons_of_mem _ (inWX20 _ h)
  have w_1 := hts (Cond.fieldLink RX10 20 "SheetNames" "grid" "LSheetNames$Grid;") (List.mem_cons_of_mem _ t_w876)
  have w_2 := hts (Cond.fieldLink RX10 73 "SheetNames" "walk" "LSheetNames$Walk;") (List.mem_cons_of_mem _ t_w881)
  have wn_1 : (Cond.fieldLinkNest "SheetNames" 126 "SheetNames$Grid" "sheets" "[I" "SheetNames").before ([.ref a_x, .int p1, .int p2, .int p3] : List Value).toArray s = true := (hZ.2.2.2.2.2.2.2.2.2.1 _ (List.mem_of_getElem? (i := 1) rfl)).use rfl
  unfold f_X_farthest at hf
  have hgo : ∀ (H : Heap) (locs : List Loc), H = s.heap → va_P D vwCl ((a_x, .inr (10, [.ref a_at, .ref a_g, .ref a_st, .ref a_x_kept, .int x_keptStates, .ref a_tp, .ref a_rd, .ref a_qu, .ref a_sp, .ref a_wk, .ref a_bx, .ref a_nt, .ref a_nu, .ref a_x_seen])) :: (a_wk, .inr (9, [.ref a_ws, .ref a_wk_steps, .ref a_wk_reached, .int wk_many])) :: (a_wk_steps, .inl (ci 0, n_wk_steps, .inl wk_steps)) :: (a_wk_reached, .inl (ci 0, n_wk_reached, .inl wk_reached)) :: (a_ws, .inr (6, [.ref a_g, .ref a_ws_first, .ref a_ws_many, .ref a_ws_corner, .int ws_cornerCount, .int ws_level, .int ws_row, .int ws_start, .int ws_place, .int ws_length, .int ws_cap])) :: (a_ws_first, .inl (ci 0, 4, .inl ws_first)) :: (a_ws_many, .inl (ci 0, 4, .inl ws_many)) :: (a_g, .inr (2, [.ref a_g_rowCuts, .ref a_g_columnCuts, .ref a_g_bandRows, .ref a_g_zoneColumns, .ref a_g_rows, .ref a_g_sheets])) :: (a_g_bandRows, .inl (ci 0, 5, .inl g_bandRows)) :: (a_g_zoneColumns, .inl (ci 0, 5, .inl g_zoneColumns)) :: (a_g_rows, .inl (ci 0, 5, .inl g_rows)) :: (a_g_sheets, .inl (ci 0, 5, .inl g_sheets)) :: Rw) H → va_S A s.heap H locs → W p l e ({ frames := 4, cells := 0, slots := 0, locals := 112 } : Room) s m ([.ref a_x, .int p1, .int p2, .int p3] : List Value).toArray below meth c H locs 0 0 Q (F0 m 0 ls []) := by
    intro H locs hH hP hS
    refine lv_aload_n (pc := 0) hx hb dX10_farthest_0 rfl (lv_at hl 0 rfl) ?_
    refine va_get (pc := 1) (D := D) (ci := 10) (v := .ref a_g) (C := RX10) (T := TX10) (N := 14) hx hb hts hinX10 hown hK hP 0 rfl rfl 1 (by decide) w_1 (fun _ h9 => h9) rfl dX10_farthest_1 ?_
    refine lv_iload_n (pc := 4) hx hb dX10_farthest_4 rfl (lv_at hl 1 rfl) ?_
    refine lv_iload_n (pc := 5) hx hb dX10_farthest_5 rfl (lv_at hl 2 rfl) ?_
    obtain ⟨v1, hm6, hf⟩ := q_b1_e hf
    refine q_cVr (pc := 6) (As := [.int p1, .int p2]) (rest := []) (v0 := (some (.int v1))) ⟨hx, hb, hml, hown, hts⟩ hK hA hZ hP hD hS hl.1 [7, 11] 12 rfl ⟨rfl, rfl, rfl⟩ (c_Grid_hasSheet l D ci A sa N (Rw) a_g a_g_rowCuts a_g_columnCuts a_g_bandRows a_g_zoneColumns a_g_rows a_g_sheets g_sheets p1 p2 v1 hm6) 7 rfl rfl (cwV 2 hts gX10_farthest_X2_hasSheet rfl rfl rfl (by decide +kernel) ⟨Nat.le_of_ble_eq_true rfl, Nat.le_of_ble_eq_true rfl⟩) rfl rfl (Nat.le_of_ble_eq_true rfl) dX10_farthest_6 ⟨Nat.zero_le _, Nat.zero_le _⟩ (fun locs hS => ?_)
    refine q_if_eq (pc := 9) (tgt := 21) hx hb dX10_farthest_9 (by decide) rfl hf (fun hf => ?_) (fun hf => ?_)
    · refine lv_iconst (pc := 21) (v := (-1)) hx hb dX10_farthest_21 (by decide) ?_
      obtain ⟨e90, e91, e92, e93, e94, e95, e96, e97, e98, e99, e910, e911⟩ := q_inj12 (Option.some.inj hf)
      rw [hQ, ← e90, ← e91, ← e92, ← e93, ← e94, ← e95, ← e96, ← e97, ← e98, ← e99, ← e910, ← e911]
      exact q_iret (pc := 22) hx hb hr hlocks hP hD hS dX10_farthest_22
    · refine lv_iload_n (pc := 12) hx hb dX10_farthest_12 rfl (lv_at hl 3 rfl) ?_
      refine lv_iconst (pc := 13) (v := 0) hx hb dX10_farthest_13 (by decide) ?_
      refine lv_iconst (pc := 14) (v := 1) hx hb dX10_farthest_14 (by decide) ?_
      obtain ⟨v2, hm15, hf⟩ := q_b1_e hf
      refine q_cSr (pc := 15) (As := [.int p3, .int 0, .int 1]) (rest := []) (v0 := (some (.int v2))) ⟨hx, hb, hml, hown, hts⟩ hK hA hZ hP hD hS hl.1 [] 12 rfl ⟨rfl, rfl, rfl⟩ (c_X_isFrom l D ci A sa N (Rw) p3 0 1 v2 hm15) (va_cwS 3 hts gX10_farthest_X10_isFrom rfl rfl rfl (by decide +kernel) ⟨Nat.le_of_ble_eq_true rfl, Nat.le_of_ble_eq_true rfl⟩) rfl rfl (Nat.le_of_ble_eq_true rfl) dX10_farthest_15 ⟨Nat.zero_le _, Nat.zero_le _⟩ (fun locs hS => ?_)
      refine q_if_ne (pc := 18) (tgt := 23) hx hb dX10_farthest_18 (by decide) rfl hf (fun hf => ?_) (fun hf => ?_)
      · refine lv_aload_n (pc := 23) hx hb dX10_farthest_23 rfl (lv_at hl 0 rfl) ?_
        refine va_get (pc := 24) (D := D) (ci := 10) (v := .ref a_g) (C := RX10) (T := TX10) (N := 14) hx hb hts hinX10 hown hK hP 0 rfl rfl 1 (by decide) w_1 (fun _ h9 => h9) rfl dX10_farthest_24 ?_
        refine va_getN (pc := 27) (D := D) (ci := 2) (v := .ref a_g_sheets) (C := RX2) (T := TX2) (N := 6) hx hb hts hinX2 hown hK hP 7 rfl rfl 5 (by decide) wn_1 (fun _ h9 => h9) rfl dX10_farthest_27 ?_
        refine lv_iload_n (pc := 30) hx hb dX10_farthest_30 rfl (lv_at hl 1 rfl) ?_
        refine q_iald (pc := 31) hx hb hK hP 11 0 hf rfl rfl dX10_farthest_31 (fun v3 hf => ?_)
        refine lv_sipush (pc := 32) (v := 20000) hx hb dX10_farthest_32 (by decide) ?_
        refine q_icmp_le (pc := 35) (tgt := 41) hx hb dX10_farthest_35 (by decide) rfl hf (fun hf => ?_) (fun hf => ?_)
        · refine lv_aload_n (pc := 41) hx hb dX10_farthest_41 rfl (lv_at hl 0 rfl) ?_
          refine va_get (pc := 42) (D := D) (ci := 10) (v := .ref a_wk) (C := RX10) (T := TX10) (N := 14) hx hb hts hinX10 hown hK hP 0 rfl rfl 9 (by decide) w_2 (fun _ h9 => h9) rfl dX10_farthest_42 ?_
          refine lv_iload_n (pc := 45) hx hb dX10_farthest_45 rfl (lv_at hl 1 rfl) ?_
          refine lv_iload_n (pc := 46) hx hb dX10_farthest_46 rfl (lv_at hl 2 rfl) ?_
          obtain ⟨f4, f5, v6, f7, f8, v9, v10, v11, v12, v13, v14, hm47, hf⟩ := q_b11_e hf
          refine q_cV (pc := 47) (As := [.int p1, .int p2]) (rest := []) (v0 := none) ⟨hx, hb, hml, hown, hts⟩ hK hA hZ hP hD hS hl.1 [1, 2, 3, 4, 5, 6, 7, 8, 9, 10, 11, 0] 12 rfl ⟨rfl, rfl, rfl⟩ (c_Walk_spread l D ci A sa N ((a_x, .inr (10, [.ref a_at, .ref a_g, .ref a_st, .ref a_x_kept, .int x_keptStates, .ref a_tp, .ref a_rd, .ref a_qu, .ref a_sp, .ref a_wk, .ref a_bx, .ref a_nt, .ref a_nu, .ref a_x_seen])) :: Rw) a_wk a_ws a_wk_steps a_wk_reached n_wk_steps n_wk_reached a_g a_ws_first a_ws_many a_ws_corner a_g_rowCuts a_g_columnCuts a_g_bandRows a_g_zoneColumns a_g_rows a_g_sheets wk_many wk_steps wk_reached ws_cornerCount ws_level ws_row ws_start ws_place ws_length ws_cap ws_first ws_many g_bandRows g_zoneColumns g_rows g_sheets p1 p2 f4 f5 v6 f7 f8 v9 v10 v11 v12 v13 v14 hm47) 1 rfl rfl (cwV 2 hts gX10_farthest_X9_spread rfl rfl rfl (by decide +kernel) ⟨Nat.le_of_ble_eq_true rfl, Nat.le_of_ble_eq_true rfl⟩) rfl rfl (Nat.le_of_ble_eq_true rfl) dX10_farthest_47 ⟨Nat.zero_le _, Nat.zero_le _⟩ [11, 0, 1, 2, 3, 4, 5, 6, 7, 8, 9, 10] 12 rfl ⟨rfl, rfl, rfl⟩ (fun H locs hP hD hS => ?_)
          obtain ⟨hP, hD⟩ : va_PD D A ((a_x, .inr (10, [.ref a_at, .ref a_g, .ref a_st, .ref a_x_kept, .int x_keptStates, .ref a_tp, .ref a_rd, .ref a_qu, .ref a_sp, .ref a_wk, .ref a_bx, .ref a_nt, .ref a_nu, .ref a_x_seen])) :: (a_wk, .inr (9, [.ref a_ws, .ref a_wk_steps, .ref a_wk_reached, .int v6])) :: (a_wk_steps, .inl (ci 0, n_wk_steps, .inl f4)) :: (a_wk_reached, .inl (ci 0, n_wk_reached, .inl f5)) :: (a_ws, .inr (6, [.ref a_g, .ref a_ws_first, .ref a_ws_many, .ref a_ws_corner, .int ws_cornerCount, .int v9, .int v10, .int v11, .int v12, .int v13, .int v14])) :: (a_ws_first, .inl (ci 0, 4, .inl f7)) :: (a_ws_many, .inl (ci 0, 4, .inl f8)) :: (a_g, .inr (2, [.ref a_g_rowCuts, .ref a_g_columnCuts, .ref a_g_bandRows, .ref a_g_zoneColumns, .ref a_g_rows, .ref a_g_sheets])) :: (a_g_bandRows, .inl (ci 0, 5, .inl g_bandRows)) :: (a_g_zoneColumns, .inl (ci 0, 5, .inl g_zoneColumns)) :: (a_g_rows, .inl (ci 0, 5, .inl g_rows)) :: (a_g_sheets, .inl (ci 0, 5, .inl g_sheets)) :: Rw) H := ⟨hP, hD⟩
          refine lv_aload_n (pc := 50) hx hb dX10_farthest_50 rfl (lv_at hl 0 rfl) ?_
          refine va_get (pc := 51) (D := D) (ci := 10) (v := .ref a_wk) (C := RX10) (T := TX10) (N := 14) hx hb hts hinX10 hown hK hP 0 rfl rfl 9 (by decide) w_2 (fun _ h9 => h9) rfl dX10_farthest_51 ?_
          obtain ⟨v15, hm54, hf⟩ := q_b1_e hf
          refine q_cVr (pc := 54) (As := []) (rest := []) (v0 := (some (.int v15))) ⟨hx, hb, hml, hown, hts⟩ hK hA hZ hP hD hS hl.1 [1, 2] 12 rfl ⟨rfl, rfl, rfl⟩ (c_Walk_farthestKey l D ci A sa N (Rw) a_wk a_ws a_wk_steps a_wk_reached n_wk_steps v6 f4 v15 hm54) 1 rfl rfl (cwV 0 hts gX10_farthest_X9_farthestKey rfl rfl rfl (by decide +kernel) ⟨Nat.le_of_ble_eq_true rfl, Nat.le_of_ble_eq_true rfl⟩) rfl rfl (Nat.le_of_ble_eq_true rfl) dX10_farthest_54 ⟨Nat.zero_le _, Nat.zero_le _⟩ (fun locs hS => ?_)
          refine lv_istore (pc := 57) (lv' := [(4, .int v15), (0, .ref a_x), (1, .int p1), (2, .int p2), (3, .int p3)]) hx hb dX10_farthest_57 hl (by decide) rfl (fun ls hl => ?_)
          refine lv_iload_n (pc := 59) hx hb dX10_farthest_59 rfl (lv_at hl 4 rfl) ?_
          refine q_if_ne (pc := 60) (tgt := 75) hx hb dX10_farthest_60 (by decide) rfl hf (fun hf => ?_) (fun hf => ?_)
          · refine lv_iload (pc := 75) hx hb dX10_farthest_75 (lv_at hl 0 rfl) ?_
            obtain ⟨e90, e91, e92, e93, e94, e95, e96, e97, e98, e99, e910, e911⟩ := q_inj12 (Option.some.inj hf)
            rw [hQ, ← e90, ← e91, ← e92, ← e93, ← e94, ← e95, ← e96, ← e97, ← e98, ← e99, ← e910, ← e911]
            exact q_iret (pc := 77) hx hb hr hlocks hP hD hS dX10_farthest_77
          · refine lv_aload_n (pc := 63) hx hb dX10_farthest_63 rfl (lv_at hl 1 rfl) ?_
            refine va_get (pc := 64) (D := D) (ci := 10) (v := .ref a_wk) (C := RX10) (T := TX10) (N := 14) hx hb hts hinX10 hown hK hP 0 rfl rfl 9 (by decide) w_2 (fun _ h9 => h9) rfl dX10_farthest_64 ?_
            refine lv_iload (pc := 67) hx hb dX10_farthest_67 (lv_at hl 0 rfl) ?_
            obtain ⟨v16, hm69, hf⟩ := q_b1_e hf
            refine q_cVr (pc := 69) (As := [.int v15]) (rest := []) (v0 := (some (.int v16))) ⟨hx, hb, hml, hown, hts⟩ hK hA hZ hP hD hS hl.1 [1, 2] 12 rfl ⟨rfl, rfl, rfl⟩ (c_Walk_stepsTo l D ci A sa N (Rw) a_wk a_ws a_wk_steps a_wk_reached n_wk_steps v6 f4 v15 v16 hm69) 1 rfl rfl (cwV 1 hts gX10_farthest_X9_stepsTo rfl rfl rfl (by decide +kernel) ⟨Nat.le_of_ble_eq_true rfl, Nat.le_of_ble_eq_true rfl⟩) rfl rfl (Nat.le_of_ble_eq_true rfl) dX10_farthest_69 ⟨Nat.zero_le _, Nat.zero_le _⟩ (fun locs hS => ?_)
            refine lv_goto (pc := 72) (tgt := 77) hx hb dX10_farthest_72 (by decide) ?_
            obtain ⟨e90, e91, e92, e93, e94, e95, e96, e97, e98, e99, e910, e911⟩ := q_inj12 (Option.some.inj hf)
            rw [hQ, ← e90, ← e91, ← e92, ← e93, ← e94, ← e95, ← e96, ← e97, ← e98, ← e99, ← e910, ← e911]
            exact q_iret (pc := 77) hx hb hr hlocks hP hD hS dX10_farthest_77
        · refine lv_bipush (pc := 38) (v := (-3)) hx hb dX10_farthest_38 (by decide) ?_
          obtain ⟨e90, e91, e92, e93, e94, e95, e96, e97, e98, e99, e910, e911⟩ := q_inj12 (Option.some.inj hf)
          rw [hQ, ← e90, ← e91, ← e92, ← e93, ← e94, ← e95, ← e96, ← e97, ← e98, ← e99, ← e910, ← e911]
          exact q_iret (pc := 40) hx hb hr hlocks hP hD hS dX10_farthest_40
      · refine lv_iconst (pc := 21) (v := (-1)) hx hb dX10_farthest_21 (by decide) ?_
        obtain ⟨e90, e91, e92, e93, e94, e95, e96, e97, e98, e99, e910, e911⟩ := q_inj12 (Option.some.inj hf)
        rw [hQ, ← e90, ← e91, ← e92, ← e93, ← e94, ← e95, ← e96, ← e97, ← e98, ← e99, ← e910, ← e911]
        exact q_iret (pc := 22) hx hb hr hlocks hP hD hS dX10_farthest_22
  exact hgo _ _ rfl hP hS
/-! X10_feed -/
set_option maxRecDepth 100000 in
set_option maxHeartbeats 4000000 in
theorem c_X_feed (l : Launch) (D : va_G) (ci : Nat → ClassId) (A : Nat → Prop) (sa : Nat → Nat) (N : Nat) (Rw : va_W) (a_x : Nat) (a_at : Nat) (a_g : Nat) (a_st : Nat) (a_x_kept : Nat) (a_tp : Nat) (a_rd : Nat) (a_qu : Nat) (a_sp : Nat) (a_wk : Nat) (a_bx : Nat) (a_nt : Nat) (a_nu : Nat) (a_x_seen : Nat) (a_tp_bytes : Nat) (x_keptStates : Int32) (tp_length : Int32) (tp_bytes : Nat → Int32) (p1 : Int32) (p2 : Int32) (p3 : Int32) (p4 : Int32) (p5 : Int32) (r : Int32) (o1 : Nat → Int32) (o2 : Int32) (hf : f_X_feed N tp_bytes tp_length p1 p2 p3 p4 p5 = some (r, o1, o2)) : Met l yX10_feed wsX10_feed ({ frames := 1, cells := 0, slots := 0, locals := 22 }) (va_Pc [.ref a_x, .int p1, .int p2, .int p3, .int p4, .int p5] (q_N D ci A sa ((a_x, .inr (10, [.ref a_at, .ref a_g, .ref a_st, .ref a_x_kept, .int x_keptStates, .ref a_tp, .ref a_rd, .ref a_qu, .ref a_sp, .ref a_wk, .ref a_bx, .ref a_nt, .ref a_nu, .ref a_x_seen])) :: (a_tp, .inr (8, [.ref a_tp_bytes, .int tp_length])) :: (a_tp_bytes, .inl (ci 0, 200, .inl tp_bytes)) :: Rw))) (q_Q (some (.int r)) (q_O D A ((a_x, .inr (10, [.ref a_at, .ref a_g, .ref a_st, .ref a_x_kept, .int x_keptStates, .ref a_tp, .ref a_rd, .ref a_qu, .ref a_sp, .ref a_wk, .ref a_bx, .ref a_nt, .ref a_nu, .ref a_x_seen])) :: (a_tp, .inr (8, [.ref a_tp_bytes, .int o2])) :: (a_tp_bytes, .inl (ci 0, 200, .inl o1)) :: Rw)) A) 0 0 A := by
  refine q_ofW (cc := cX10_feed) (maxL := 6) (ret := (some .int)) [.ref a_x, .int p1, .int p2, .int p3, .int p4, .int p5] (plainFor_of_name (by decide)) rfl (Nat.le_of_ble_eq_true rfl) ?_
  intro p e s m below meth c ls Q hQ hx hb hml hr hts hown hlocks hK hA hZ hP hD hS hl
  have hl : lv_has ls 6 [(0, .ref a_x), (1, .int p1), (2, .int p2), (3, .int p3), (4, .int p4), (5, .int p5)] := hl
  have hown : s.vm.findClass RX10 = some m.cls := hown
  have hinX10 : ∀ w ∈ wsX100, w ∈ wsX10_feed := fun _ h => List.mem_cons_of_mem _ (inWX100 _ h)
  have hinX8 : ∀ w ∈ wsX80, w ∈ wsX10_feed := fun _ h => List.mem_cons_of_mem _ (inWX80 _ h)
  have w_1 := hts (Cond.fieldLink RX10 39 "SheetNames" "tape" "LSheetNames$Tape;") (List.mem_cons_of_mem _ t_w882)
  have wn_35 : (Cond.fieldLinkNest "SheetNames" 98 "SheetNames$Tape" "length" "I" "SheetNames").before ([.ref a_x, .int p1, .int p2, .int p3, .int p4, .int p5] : List Value).toArray s = true := (hZ.2.2.2.2.2.2.2.2.2.1 _ (List.mem_of_getElem? (i := 35) rfl)).use rfl
  unfold f_X_feed at hf
  have hgo : ∀ (H : Heap) (locs : List Loc), H = s.heap → va_P D vwCl ((a_x, .inr (10, [.ref a_at, .ref a_g, .ref a_st, .ref a_x_kept, .int x_keptStates, .ref a_tp, .ref a_rd, .ref a_qu, .ref a_sp, .ref a_wk, .ref a_bx, .ref a_nt, .ref a_nu, .ref a_x_seen])) :: (a_tp, .inr (8, [.ref a_tp_bytes, .int tp_length])) :: (a_tp_bytes, .inl (ci 0, 200, .inl tp_bytes)) :: Rw) H → va_S A s.heap H locs → W p l e ({ frames := 1, cells := 0, slots := 0, locals := 22 } : Room) s m ([.ref a_x, .int p1, .int p2, .int p3, .int p4, .int p5] : List Value).toArray below meth c H locs 0 0 Q (F0 m 0 ls []) := by
    intro H locs hH hP hS
    refine lv_aload_n (pc := 0) hx hb dX10_feed_0 rfl (lv_at hl 0 rfl) ?_
    refine va_get (pc := 1) (D := D) (ci := 10) (v := .ref a_tp) (C := RX10) (T := TX10) (N := 14) hx hb hts hinX10 hown hK hP 0 rfl rfl 5 (by decide) w_1 (fun _ h9 => h9) rfl dX10_feed_1 ?_
    refine va_getN (pc := 4) (D := D) (ci := 8) (v := .int tp_length) (C := RX8) (T := TX8) (N := 2) hx hb hts hinX8 hown hK hP 1 rfl rfl 1 (by decide) wn_35 (fun _ h9 => h9) rfl dX10_feed_4 ?_
    refine lv_bipush (pc := 7) (v := 20) hx hb dX10_feed_7 (by decide) ?_
    refine lv_iadd (pc := 9) hx hb dX10_feed_9 ?_
    refine lv_sipush (pc := 10) (v := 200) hx hb dX10_feed_10 (by decide) ?_
    refine q_icmp_le (pc := 13) (tgt := 18) hx hb dX10_feed_13 (by decide) rfl hf (fun hf => ?_) (fun hf => ?_)
    · refine lv_aload_n (pc := 18) hx hb dX10_feed_18 rfl (lv_at hl 0 rfl) ?_
      refine va_get (pc := 19) (D := D) (ci := 10) (v := .ref a_tp) (C := RX10) (T := TX10) (N := 14) hx hb hts hinX10 hown hK hP 0 rfl rfl 5 (by decide) w_1 (fun _ h9 => h9) rfl dX10_feed_19 ?_
      refine lv_iload_n (pc := 22) hx hb dX10_feed_22 rfl (lv_at hl 1 rfl) ?_
      obtain ⟨f1, v2, hm23, hf⟩ := q_b2_e hf
      refine q_cV (pc := 23) (As := [.int p1]) (rest := []) (v0 := none) ⟨hx, hb, hml, hown, hts⟩ hK hA hZ hP hD hS hl.1 [1, 2, 0] 3 rfl ⟨rfl, rfl, rfl⟩ (c_Tape_add l D ci A sa N ((a_x, .inr (10, [.ref a_at, .ref a_g, .ref a_st, .ref a_x_kept, .int x_keptStates, .ref a_tp, .ref a_rd, .ref a_qu, .ref a_sp, .ref a_wk, .ref a_bx, .ref a_nt, .ref a_nu, .ref a_x_seen])) :: Rw) a_tp a_tp_bytes tp_length tp_bytes p1 f1 v2 hm23) 1 rfl rfl (cwV 1 hts gX10_feed_X8_add rfl rfl rfl (by decide +kernel) ⟨Nat.le_of_ble_eq_true rfl, Nat.le_of_ble_eq_true rfl⟩) rfl rfl (Nat.le_of_ble_eq_true rfl) dX10_feed_23 ⟨Nat.zero_le _, Nat.zero_le _⟩ [2, 0, 1] 3 rfl ⟨rfl, rfl, rfl⟩ (fun H locs hP hD hS => ?_)
      obtain ⟨hP, hD⟩ : va_PD D A ((a_x, .inr (10, [.ref a_at, .ref a_g, .ref a_st, .ref a_x_kept, .int x_keptStates, .ref a_tp, .ref a_rd, .ref a_qu, .ref a_sp, .ref a_wk, .ref a_bx, .ref a_nt, .ref a_nu, .ref a_x_seen])) :: (a_tp, .inr (8, [.ref a_tp_bytes, .int v2])) :: (a_tp_bytes, .inl (ci 0, 200, .inl f1)) :: Rw) H := ⟨hP, hD⟩
      refine lv_aload_n (pc := 26) hx hb dX10_feed_26 rfl (lv_at hl 0 rfl) ?_
      refine va_get (pc := 27) (D := D) (ci := 10) (v := .ref a_tp) (C := RX10) (T := TX10) (N := 14) hx hb hts hinX10 hown hK hP 0 rfl rfl 5 (by decide) w_1 (fun _ h9 => h9) rfl dX10_feed_27 ?_
      refine lv_iload_n (pc := 30) hx hb dX10_feed_30 rfl (lv_at hl 2 rfl) ?_
      obtain ⟨f3, v4, hm31, hf⟩ := q_b2_e hf
      refine q_cV (pc := 31) (As := [.int p2]) (rest := []) (v0 := none) ⟨hx, hb, hml, hown, hts⟩ hK hA hZ hP hD hS hl.1 [1, 2, 0] 3 rfl ⟨rfl, rfl, rfl⟩ (c_Tape_add l D ci A sa N ((a_x, .inr (10, [.ref a_at, .ref a_g, .ref a_st, .ref a_x_kept, .int x_keptStates, .ref a_tp, .ref a_rd, .ref a_qu, .ref a_sp, .ref a_wk, .ref a_bx, .ref a_nt, .ref a_nu, .ref a_x_seen])) :: Rw) a_tp a_tp_bytes v2 f1 p2 f3 v4 hm31) 1 rfl rfl (cwV 1 hts gX10_feed_X8_add rfl rfl rfl (by decide +kernel) ⟨Nat.le_of_ble_eq_true rfl, Nat.le_of_ble_eq_true rfl⟩) rfl rfl (Nat.le_of_ble_eq_true rfl) dX10_feed_31 ⟨Nat.zero_le _, Nat.zero_le _⟩ [2, 0, 1] 3 rfl ⟨rfl, rfl, rfl⟩ (fun H locs hP hD hS => ?_)
      obtain ⟨hP, hD⟩ : va_PD D A ((a_x, .inr (10, [.ref a_at, .ref a_g, .ref a_st, .ref a_x_kept, .int x_keptStates, .ref a_tp, .ref a_rd, .ref a_qu, .ref a_sp, .ref a_wk, .ref a_bx, .ref a_nt, .ref a_nu, .ref a_x_seen])) :: (a_tp, .inr (8, [.ref a_tp_bytes, .int v4])) :: (a_tp_bytes, .inl (ci 0, 200, .inl f3)) :: Rw) H := ⟨hP, hD⟩
      refine lv_aload_n (pc := 34) hx hb dX10_feed_34 rfl (lv_at hl 0 rfl) ?_
      refine va_get (pc := 35) (D := D) (ci := 10) (v := .ref a_tp) (C := RX10) (T := TX10) (N := 14) hx hb hts hinX10 hown hK hP 0 rfl rfl 5 (by decide) w_1 (fun _ h9 => h9) rfl dX10_feed_35 ?_
      refine lv_iload_n (pc := 38) hx hb dX10_feed_38 rfl (lv_at hl 3 rfl) ?_
      obtain ⟨f5, v6, hm39, hf⟩ := q_b2_e hf
      refine q_cV (pc := 39) (As := [.int p3]) (rest := []) (v0 := none) ⟨hx, hb, hml, hown, hts⟩ hK hA hZ hP hD hS hl.1 [1, 2, 0] 3 rfl ⟨rfl, rfl, rfl⟩ (c_Tape_add l D ci A sa N ((a_x, .inr (10, [.ref a_at, .ref a_g, .ref a_st, .ref a_x_kept, .int x_keptStates, .ref a_tp, .ref a_rd, .ref a_qu, .ref a_sp, .ref a_wk, .ref a_bx, .ref a_nt, .ref a_nu, .ref a_x_seen])) :: Rw) a_tp a_tp_bytes v4 f3 p3 f5 v6 hm39) 1 rfl rfl (cwV 1 hts gX10_feed_X8_add rfl rfl rfl (by decide +kernel) ⟨Nat.le_of_ble_eq_true rfl, Nat.le_of_ble_eq_true rfl⟩) rfl rfl (Nat.le_of_ble_eq_true rfl) dX10_feed_39 ⟨Nat.zero_le _, Nat.zero_le _⟩ [2, 0, 1] 3 rfl ⟨rfl, rfl, rfl⟩ (fun H locs hP hD hS => ?_)
      obtain ⟨hP, hD⟩ : va_PD D A ((a_x, .inr (10, [.ref a_at, .ref a_g, .ref a_st, .ref a_x_kept, .int x_keptStates, .ref a_tp, .ref a_rd, .ref a_qu, .ref a_sp, .ref a_wk, .ref a_bx, .ref a_nt, .ref a_nu, .ref a_x_seen])) :: (a_tp, .inr (8, [.ref a_tp_bytes, .int v6])) :: (a_tp_bytes, .inl (ci 0, 200, .inl f5)) :: Rw) H := ⟨hP, hD⟩
      refine lv_aload_n (pc := 42) hx hb dX10_feed_42 rfl (lv_at hl 0 rfl) ?_
      refine va_get (pc := 43) (D := D) (ci := 10) (v := .ref a_tp) (C := RX10) (T := TX10) (N := 14) hx hb hts hinX10 hown hK hP 0 rfl rfl 5 (by decide) w_1 (fun _ h9 => h9) rfl dX10_feed_43 ?_
      refine lv_iload (pc := 46) hx hb dX10_feed_46 (lv_at hl 4 rfl) ?_
      obtain ⟨f7, v8, hm48, hf⟩ := q_b2_e hf
      refine q_cV (pc := 48) (As := [.int p4]) (rest := []) (v0 := none) ⟨hx, hb, hml, hown, hts⟩ hK hA hZ hP hD hS hl.1 [1, 2, 0] 3 rfl ⟨rfl, rfl, rfl⟩ (c_Tape_add l D ci A sa N ((a_x, .inr (10, [.ref a_at, .ref a_g, .ref a_st, .ref a_x_kept, .int x_keptStates, .ref a_tp, .ref a_rd, .ref a_qu, .ref a_sp, .ref a_wk, .ref a_bx, .ref a_nt, .ref a_nu, .ref a_x_seen])) :: Rw) a_tp a_tp_bytes v6 f5 p4 f7 v8 hm48) 1 rfl rfl (cwV 1 hts gX10_feed_X8_add rfl rfl rfl (by decide +kernel) ⟨Nat.le_of_ble_eq_true rfl, Nat.le_of_ble_eq_true rfl⟩) rfl rfl (Nat.le_of_ble_eq_true rfl) dX10_feed_48 ⟨Nat.zero_le _, Nat.zero_le _⟩ [2, 0, 1] 3 rfl ⟨rfl, rfl, rfl⟩ (fun H locs hP hD hS => ?_)
      obtain ⟨hP, hD⟩ : va_PD D A ((a_x, .inr (10, [.ref a_at, .ref a_g, .ref a_st, .ref a_x_kept, .int x_keptStates, .ref a_tp, .ref a_rd, .ref a_qu, .ref a_sp, .ref a_wk, .ref a_bx, .ref a_nt, .ref a_nu, .ref a_x_seen])) :: (a_tp, .inr (8, [.ref a_tp_bytes, .int v8])) :: (a_tp_bytes, .inl (ci 0, 200, .inl f7)) :: Rw) H := ⟨hP, hD⟩
      refine lv_aload_n (pc := 51) hx hb dX10_feed_51 rfl (lv_at hl 0 rfl) ?_
      refine va_get (pc := 52) (D := D) (ci := 10) (v := .ref a_tp) (C := RX10) (T := TX10) (N := 14) hx hb hts hinX10 hown hK hP 0 rfl rfl 5 (by decide) w_1 (fun _ h9 => h9) rfl dX10_feed_52 ?_
      refine lv_iload (pc := 55) hx hb dX10_feed_55 (lv_at hl 5 rfl) ?_
      obtain ⟨f9, v10, hm57, hf⟩ := q_b2_e hf
      refine q_cV (pc := 57) (As := [.int p5]) (rest := []) (v0 := none) ⟨hx, hb, hml, hown, hts⟩ hK hA hZ hP hD hS hl.1 [1, 2, 0] 3 rfl ⟨rfl, rfl, rfl⟩ (c_Tape_add l D ci A sa N ((a_x, .inr (10, [.ref a_at, .ref a_g, .ref a_st, .ref a_x_kept, .int x_keptStates, .ref a_tp, .ref a_rd, .ref a_qu, .ref a_sp, .ref a_wk, .ref a_bx, .ref a_nt, .ref a_nu, .ref a_x_seen])) :: Rw) a_tp a_tp_bytes v8 f7 p5 f9 v10 hm57) 1 rfl rfl (cwV 1 hts gX10_feed_X8_add rfl rfl rfl (by decide +kernel) ⟨Nat.le_of_ble_eq_true rfl, Nat.le_of_ble_eq_true rfl⟩) rfl rfl (Nat.le_of_ble_eq_true rfl) dX10_feed_57 ⟨Nat.zero_le _, Nat.zero_le _⟩ [2, 0, 1] 3 rfl ⟨rfl, rfl, rfl⟩ (fun H locs hP hD hS => ?_)
      obtain ⟨hP, hD⟩ : va_PD D A ((a_x, .inr (10, [.ref a_at, .ref a_g, .ref a_st, .ref a_x_kept, .int x_keptStates, .ref a_tp, .ref a_rd, .ref a_qu, .ref a_sp, .ref a_wk, .ref a_bx, .ref a_nt, .ref a_nu, .ref a_x_seen])) :: (a_tp, .inr (8, [.ref a_tp_bytes, .int v10])) :: (a_tp_bytes, .inl (ci 0, 200, .inl f9)) :: Rw) H := ⟨hP, hD⟩
      refine lv_aload_n (pc := 60) hx hb dX10_feed_60 rfl (lv_at hl 0 rfl) ?_
      refine va_get (pc := 61) (D := D) (ci := 10) (v := .ref a_tp) (C := RX10) (T := TX10) (N := 14) hx hb hts hinX10 hown hK hP 0 rfl rfl 5 (by decide) w_1 (fun _ h9 => h9) rfl dX10_feed_61 ?_
      refine va_getN (pc := 64) (D := D) (ci := 8) (v := .int v10) (C := RX8) (T := TX8) (N := 2) hx hb hts hinX8 hown hK hP 1 rfl rfl 1 (by decide) wn_35 (fun _ h9 => h9) rfl dX10_feed_64 ?_
      obtain ⟨e90, e91, e92⟩ := q_inj3 (Option.some.inj hf)
      rw [hQ, ← e90, ← e91, ← e92]
      exact q_iret (pc := 67) hx hb hr hlocks hP hD hS dX10_feed_67
    · refine lv_iconst (pc := 16) (v := (-1)) hx hb dX10_feed_16 (by decide) ?_
      obtain ⟨e90, e91, e92⟩ := q_inj3 (Option.some.inj hf)
      rw [hQ, ← e90, ← e91, ← e92]
      exact q_iret (pc := 17) hx hb hr hlocks hP hD hS dX10_feed_17
  exact hgo _ _ rfl hP hS
/-! X10_isInt -/
set_option maxRecDepth 100000 in
set_option maxHeartbeats 4000000 in
theorem c_X_isInt (l : Launch) (D : va_G) (ci : Nat → ClassId) (A : Nat → Prop) (sa : Nat → Nat) (N : Nat) (Rw : va_W) (p1 : Int64) (r : Int32) (hf : f_X_isInt p1 = some r) : Met l yX10_isInt wsX10_isInt ({ frames := 0, cells := 0, slots := 0, locals := 0 }) (va_Pc [.long p1] (q_N D ci A sa (Rw))) (q_R (some (.int r))) 0 0 A := by
  refine q_ofW (cc := cX10_isInt) (maxL := 2) (ret := (some .boolean)) [.long p1] (plainFor_of_name (by decide)) rfl (Nat.le_of_ble_eq_true rfl) ?_
  intro p e s m below meth c ls Q hQ hx hb hml hr hts hown hlocks hK hA hZ hP hD hS hl
  have hl : lv_has ls 2 [(0, .long p1)] := hl
  have hown : s.vm.findClass RX10 = some m.cls := hown
  unfold f_X_isInt at hf
  have hgo : ∀ (H : Heap) (locs : List Loc), H = s.heap → va_P D vwCl (Rw) H → va_S A s.heap H locs → W p l e ({ frames := 0, cells := 0, slots := 0, locals := 0 } : Room) s m ([.long p1] : List Value).toArray below meth c H locs 0 0 Q (F0 m 0 ls []) := by
    intro H locs hH hP hS
    subst hH
    refine lv_lload_n (pc := 0) hx hb dX10_isInt_0 rfl (lv_at hl 0 rfl) ?_
    refine lv_lload_n (pc := 1) hx hb dX10_isInt_1 rfl (lv_at hl 0 rfl) ?_
    refine lv_l2i (pc := 2) hx hb dX10_isInt_2 rfl ?_
    refine lv_i2l (pc := 3) hx hb dX10_isInt_3 rfl ?_
    refine W.lcmp (pc := 4) hx hb dX10_isInt_4 ?_
    refine q_if_ne (pc := 5) (tgt := 12) hx hb dX10_isInt_5 (by decide) rfl hf (fun hf => ?_) (fun hf => ?_)
    · refine lv_iconst (pc := 12) (v := 0) hx hb dX10_isInt_12 (by decide) ?_
      obtain rfl := Option.some.inj hf
      rw [hQ]
      exact q_zretr (pc := 13) hx hb hr rfl hlocks rfl hS dX10_isInt_13
    · refine lv_iconst (pc := 8) (v := 1) hx hb dX10_isInt_8 (by decide) ?_
      refine lv_goto (pc := 9) (tgt := 13) hx hb dX10_isInt_9 (by decide) ?_
      obtain rfl := Option.some.inj hf
      rw [hQ]
      exact q_zretr (pc := 13) hx hb hr rfl hlocks rfl hS dX10_isInt_13
  exact hgo _ _ rfl hP hS
