/-! X11_child -/
set_option maxRecDepth 100000 in
set_option maxHeartbeats 4000000 in
theorem c_M_child (l : Launch) (D : va_G) (ci : Nat → ClassId) (A : Nat → Prop) (sa : Nat → Nat) (N : Nat) (Rw : va_W) (a_m : Nat) (a_m_cutRows : Nat) (a_m_cutColumns : Nat) (a_m_deep : Nat) (a_m_wide : Nat) (a_m_zonesAhead : Nat) (a_m_nameOne : Nat) (a_m_nameOther : Nat) (a_m_tape : Nat) (a_m_edges : Nat) (a_m_dist : Nat) (a_m_queue : Nat) (a_m_pieceLevel : Nat) (a_m_pieceKey : Nat) (a_m_pieceYear : Nat) (a_m_drawnKeys : Nat) (a_m_kept : Nat) (a_m_noNumbers : Nat) (m_taped : Int32) (m_place : Int32) (m_fault : Int32) (m_number : Int32) (m_levelRead : Int32) (m_keyRead : Int32) (m_reads : Int32) (m_faults : Int32) (m_cutShort : Int32) (m_noNumber : Int32) (m_bottomLat : Int64) (m_bottomLon : Int64) (m_firstBeside : Int32) (m_manyBeside : Int32) (m_queued : Int32) (m_boxLevel : Int32) (m_boxTop : Int32) (m_boxBottom : Int32) (m_boxWest : Int32) (m_boxEast : Int32) (m_isEarly : Int32) (m_pieces : Int32) (m_states : Int32) (m_drawnNow : Int32) (m_keptAt : Int32) (m_deep : Nat → Int32) (m_wide : Nat → Int32) (m_zonesAhead : Nat → Int32) (p1 : Int32) (p2 : Int32) (p3 : Int32) (p4 : Int32) (r : Int32) (hf : f_M_child N m_deep m_wide m_zonesAhead p1 p2 p3 p4 = some r) : Met l yX11_child wsX11_child ({ frames := 4, cells := 0, slots := 0, locals := 88 }) (va_Pc [.ref a_m, .int p1, .int p2, .int p3, .int p4] (q_N D ci A sa ((a_m, .inr (11, (.ref a_m_cutRows :: .ref a_m_cutColumns :: .ref a_m_deep :: .ref a_m_wide :: .ref a_m_zonesAhead :: .ref a_m_nameOne :: .ref a_m_nameOther :: .ref a_m_tape :: .int m_taped :: .int m_place :: .int m_fault :: .int m_number :: .int m_levelRead :: .int m_keyRead :: .int m_reads :: .int m_faults :: .int m_cutShort :: .int m_noNumber :: .long m_bottomLat :: .long m_bottomLon :: .ref a_m_edges :: .int m_firstBeside :: .int m_manyBeside :: .ref a_m_dist :: .ref a_m_queue :: .int m_queued :: .int m_boxLevel :: .int m_boxTop :: .int m_boxBottom :: .int m_boxWest :: .int m_boxEast :: .int m_isEarly :: .int m_pieces :: .int m_states :: .ref a_m_pieceLevel :: .ref a_m_pieceKey :: .ref a_m_pieceYear :: .int m_drawnNow :: .ref a_m_drawnKeys :: .ref a_m_kept :: .int m_keptAt :: .ref a_m_noNumbers :: []))) :: (a_m_deep, .inl (ci 0, 5, .inl m_deep)) :: (a_m_wide, .inl (ci 0, 5, .inl m_wide)) :: (a_m_zonesAhead, .inl (ci 0, 45, .inl m_zonesAhead)) :: Rw))) (q_R (some (.int r))) 0 0 A := by
  refine q_ofW (cc := cX11_child) (maxL := 8) (ret := (some .int)) [.ref a_m, .int p1, .int p2, .int p3, .int p4] (plainFor_of_name (by decide)) rfl (Nat.le_of_ble_eq_true rfl) ?_
  intro p e s m below meth c ls Q hQ hx hb hml hr hts hown hlocks hK hA hZ hP hD hS hl
  have hl : lv_has ls 8 [(0, .ref a_m), (1, .int p1), (2, .int p2), (3, .int p3), (4, .int p4)] := hl
  have hown : s.vm.findClass RX11 = some m.cls := hown
  have hinX11 : ∀ w ∈ wsX110, w ∈ wsX11_child := fun _ h => List.mem_cons_of_mem _ (inWX110 _ h)
  have w_1 := hts (Cond.constantLong RX11 70 (4)) (List.mem_cons_of_mem _ t_w956)
  have w_2 := hts (Cond.fieldLink RX11 16 "SheetNamesModel" "deep" "[I") (List.mem_cons_of_mem _ t_w908)
  have w_3 := hts (Cond.fieldLink RX11 19 "SheetNamesModel" "wide" "[I") (List.mem_cons_of_mem _ t_w909)
  unfold f_M_child at hf
  have hgo : ∀ (H : Heap) (locs : List Loc), H = s.heap → va_P D vwCl ((a_m, .inr (11, (.ref a_m_cutRows :: .ref a_m_cutColumns :: .ref a_m_deep :: .ref a_m_wide :: .ref a_m_zonesAhead :: .ref a_m_nameOne :: .ref a_m_nameOther :: .ref a_m_tape :: .int m_taped :: .int m_place :: .int m_fault :: .int m_number :: .int m_levelRead :: .int m_keyRead :: .int m_reads :: .int m_faults :: .int m_cutShort :: .int m_noNumber :: .long m_bottomLat :: .long m_bottomLon :: .ref a_m_edges :: .int m_firstBeside :: .int m_manyBeside :: .ref a_m_dist :: .ref a_m_queue :: .int m_queued :: .int m_boxLevel :: .int m_boxTop :: .int m_boxBottom :: .int m_boxWest :: .int m_boxEast :: .int m_isEarly :: .int m_pieces :: .int m_states :: .ref a_m_pieceLevel :: .ref a_m_pieceKey :: .ref a_m_pieceYear :: .int m_drawnNow :: .ref a_m_drawnKeys :: .ref a_m_kept :: .int m_keptAt :: .ref a_m_noNumbers :: []))) :: (a_m_deep, .inl (ci 0, 5, .inl m_deep)) :: (a_m_wide, .inl (ci 0, 5, .inl m_wide)) :: (a_m_zonesAhead, .inl (ci 0, 45, .inl m_zonesAhead)) :: Rw) H → va_S A s.heap H locs → W p l e ({ frames := 4, cells := 0, slots := 0, locals := 88 } : Room) s m ([.ref a_m, .int p1, .int p2, .int p3, .int p4] : List Value).toArray below meth c H locs 0 0 Q (F0 m 0 ls []) := by
    intro H locs hH hP hS
    subst hH
    refine lv_aload_n (pc := 0) hx hb dX11_child_0 rfl (lv_at hl 0 rfl) ?_
    refine lv_iload_n (pc := 1) hx hb dX11_child_1 rfl (lv_at hl 1 rfl) ?_
    refine lv_iload_n (pc := 2) hx hb dX11_child_2 rfl (lv_at hl 2 rfl) ?_
    obtain ⟨v1, hm3, hf⟩ := q_b1_e hf
    refine q_cVr (pc := 3) (As := [.int p1, .int p2]) (rest := []) (v0 := (some (.int v1))) ⟨hx, hb, hml, hown, hts⟩ hK hA hZ hP hD hS hl.1 [0, 1, 2, 3] 4 rfl ⟨rfl, rfl, rfl⟩ (c_M_isKey l D ci A sa N (Rw) a_m a_m_cutRows a_m_cutColumns a_m_deep a_m_wide a_m_zonesAhead a_m_nameOne a_m_nameOther a_m_tape a_m_edges a_m_dist a_m_queue a_m_pieceLevel a_m_pieceKey a_m_pieceYear a_m_drawnKeys a_m_kept a_m_noNumbers m_taped m_place m_fault m_number m_levelRead m_keyRead m_reads m_faults m_cutShort m_noNumber m_bottomLat m_bottomLon m_firstBeside m_manyBeside m_queued m_boxLevel m_boxTop m_boxBottom m_boxWest m_boxEast m_isEarly m_pieces m_states m_drawnNow m_keptAt m_deep m_wide m_zonesAhead p1 p2 v1 hm3) 0 rfl rfl (cwV 2 hts gX11_child_X11_isKey rfl rfl rfl (by decide +kernel) ⟨Nat.le_of_ble_eq_true rfl, Nat.le_of_ble_eq_true rfl⟩) rfl rfl (Nat.le_of_ble_eq_true rfl) dX11_child_3 ⟨Nat.zero_le _, Nat.zero_le _⟩ (fun locs hS => ?_)
    refine q_if_eq (pc := 6) (tgt := 28) hx hb dX11_child_6 (by decide) rfl hf (fun hf => ?_) (fun hf => ?_)
    · refine lv_iconst (pc := 28) (v := (-1)) hx hb dX11_child_28 (by decide) ?_
      obtain rfl := Option.some.inj hf
      rw [hQ]
      exact q_iretr (pc := 29) hx hb hr hlocks rfl hS dX11_child_29
    · refine lv_iload_n (pc := 9) hx hb dX11_child_9 rfl (lv_at hl 3 rfl) ?_
      refine lv_i2l (pc := 10) hx hb dX11_child_10 rfl ?_
      refine lv_iload_n (pc := 11) hx hb dX11_child_11 rfl (lv_at hl 1 rfl) ?_
      refine lv_i2l (pc := 12) hx hb dX11_child_12 rfl ?_
      refine lv_ldc2 (pc := 13) (v := 4) hx hb hown w_1 dX11_child_13 ?_
      obtain ⟨v2, hm16, hf⟩ := q_b1_e hf
      refine q_cSr (pc := 16) (As := [.long p3.toInt64, .long p1.toInt64, .long 4]) (rest := []) (v0 := (some (.int v2))) ⟨hx, hb, hml, hown, hts⟩ hK hA hZ hP hD hS hl.1 [] 4 rfl ⟨rfl, rfl, rfl⟩ (c_M_in l D ci A sa N (Rw) p3.toInt64 p1.toInt64 4 v2 hm16) (va_cwS 3 hts gX11_child_X11_in rfl rfl rfl (by decide +kernel) ⟨Nat.le_of_ble_eq_true rfl, Nat.le_of_ble_eq_true rfl⟩) rfl rfl (Nat.le_of_ble_eq_true rfl) dX11_child_16 ⟨Nat.zero_le _, Nat.zero_le _⟩ (fun locs hS => ?_)
      refine q_if_eq (pc := 19) (tgt := 28) hx hb dX11_child_19 (by decide) rfl hf (fun hf => ?_) (fun hf => ?_)
      · refine lv_iconst (pc := 28) (v := (-1)) hx hb dX11_child_28 (by decide) ?_
        obtain rfl := Option.some.inj hf
        rw [hQ]
        exact q_iretr (pc := 29) hx hb hr hlocks rfl hS dX11_child_29
      · refine lv_iload (pc := 22) hx hb dX11_child_22 (lv_at hl 4 rfl) ?_
        refine lv_iconst (pc := 24) (v := (-1)) hx hb dX11_child_24 (by decide) ?_
        refine q_icmp_ge (pc := 25) (tgt := 30) hx hb dX11_child_25 (by decide) rfl hf (fun hf => ?_) (fun hf => ?_)
        · refine lv_aload_n (pc := 30) hx hb dX11_child_30 rfl (lv_at hl 0 rfl) ?_
          refine lv_iload_n (pc := 31) hx hb dX11_child_31 rfl (lv_at hl 1 rfl) ?_
          refine lv_iload_n (pc := 32) hx hb dX11_child_32 rfl (lv_at hl 2 rfl) ?_
          obtain ⟨v3, hm33, hf⟩ := q_b1_e hf
          refine q_cVr (pc := 33) (As := [.int p1, .int p2]) (rest := []) (v0 := (some (.int v3))) ⟨hx, hb, hml, hown, hts⟩ hK hA hZ hP hD hS hl.1 [0, 1, 2, 3] 4 rfl ⟨rfl, rfl, rfl⟩ (c_M_isCap l D ci A sa N (Rw) a_m a_m_cutRows a_m_cutColumns a_m_deep a_m_wide a_m_zonesAhead a_m_nameOne a_m_nameOther a_m_tape a_m_edges a_m_dist a_m_queue a_m_pieceLevel a_m_pieceKey a_m_pieceYear a_m_drawnKeys a_m_kept a_m_noNumbers m_taped m_place m_fault m_number m_levelRead m_keyRead m_reads m_faults m_cutShort m_noNumber m_bottomLat m_bottomLon m_firstBeside m_manyBeside m_queued m_boxLevel m_boxTop m_boxBottom m_boxWest m_boxEast m_isEarly m_pieces m_states m_drawnNow m_keptAt m_deep m_wide m_zonesAhead p1 p2 v3 hm33) 0 rfl rfl (cwV 2 hts gX11_child_X11_isCap rfl rfl rfl (by decide +kernel) ⟨Nat.le_of_ble_eq_true rfl, Nat.le_of_ble_eq_true rfl⟩) rfl rfl (Nat.le_of_ble_eq_true rfl) dX11_child_33 ⟨Nat.zero_le _, Nat.zero_le _⟩ (fun locs hS => ?_)
          refine lv_istore (pc := 36) (lv' := [(5, .int v3), (0, .ref a_m), (1, .int p1), (2, .int p2), (3, .int p3), (4, .int p4)]) hx hb dX11_child_36 hl (by decide) rfl (fun ls hl => ?_)
          refine lv_iload (pc := 38) hx hb dX11_child_38 (lv_at hl 0 rfl) ?_
          obtain ⟨k60, ek60, hf⟩ := q_j1_e hf
          have J60 : ∀ (v4 : Int32) (H : Heap) (locs : List Loc) (ls : Array Slot), k60 v4 = some r → H = s.heap → va_S A s.heap H locs → lv_has ls 8 [(0, .ref a_m), (1, .int p1), (2, .int p2), (3, .int p3), (4, .int p4), (5, .int v3)] → W p l e ({ frames := 4, cells := 0, slots := 0, locals := 88 } : Room) s m ([.ref a_m, .int p1, .int p2, .int p3, .int p4] : List Value).toArray below meth c H locs 0 0 Q (F0 m 60 ls [.int v4]) := by
            intro v4 H locs ls hf hHs hS hl
            subst hHs
            have hf := (ek60 v4).symm.trans hf
            refine lv_istore (pc := 60) (lv' := [(6, .int v4), (0, .ref a_m), (1, .int p1), (2, .int p2), (3, .int p3), (4, .int p4), (5, .int v3)]) hx hb dX11_child_60 hl (by decide) rfl (fun ls hl => ?_)
            refine lv_iload (pc := 62) hx hb dX11_child_62 (lv_at hl 6 rfl) ?_
            obtain ⟨k84, ek84, hf⟩ := q_j1_e hf
            have J84 : ∀ (v5 : Int32) (H : Heap) (locs : List Loc) (ls : Array Slot), k84 v5 = some r → H = s.heap → va_S A s.heap H locs → lv_has ls 8 [(0, .ref a_m), (1, .int p1), (2, .int p2), (3, .int p3), (4, .int p4), (5, .int v3), (6, .int v4)] → W p l e ({ frames := 4, cells := 0, slots := 0, locals := 88 } : Room) s m ([.ref a_m, .int p1, .int p2, .int p3, .int p4] : List Value).toArray below meth c H locs 0 0 Q (F0 m 84 ls [.int v5]) := by
              intro v5 H locs ls hf hHs hS hl
              subst hHs
              have hf := (ek84 v5).symm.trans hf
              refine lv_istore (pc := 84) (lv' := [(7, .int v5), (0, .ref a_m), (1, .int p1), (2, .int p2), (3, .int p3), (4, .int p4), (5, .int v3), (6, .int v4)]) hx hb dX11_child_84 hl (by decide) rfl (fun ls hl => ?_)
              refine lv_iload (pc := 86) hx hb dX11_child_86 (lv_at hl 5 rfl) ?_
              refine lv_iconst (pc := 88) (v := (-1)) hx hb dX11_child_88 (by decide) ?_
              refine q_icmp_ne (pc := 89) (tgt := 98) hx hb dX11_child_89 (by decide) rfl hf (fun hf => ?_) (fun hf => ?_)
              · refine lv_iload (pc := 98) hx hb dX11_child_98 (lv_at hl 5 rfl) ?_
                refine lv_iload (pc := 100) hx hb dX11_child_100 (lv_at hl 7 rfl) ?_
                refine lv_iload (pc := 102) hx hb dX11_child_102 (lv_at hl 0 rfl) ?_
                refine lv_imul (pc := 104) hx hb dX11_child_104 ?_
                refine q_icmp_lt (pc := 105) (tgt := 111) hx hb dX11_child_105 (by decide) rfl hf (fun hf => ?_) (fun hf => ?_)
                · refine lv_iload (pc := 111) hx hb dX11_child_111 (lv_at hl 6 rfl) ?_
                  refine q_if_eq (pc := 113) (tgt := 132) hx hb dX11_child_113 (by decide) rfl hf (fun hf => ?_) (fun hf => ?_)
                  · refine lv_aload_n (pc := 132) hx hb dX11_child_132 rfl (lv_at hl 1 rfl) ?_
                    refine lv_iload_n (pc := 133) hx hb dX11_child_133 rfl (lv_at hl 4 rfl) ?_
                    refine lv_iconst (pc := 134) (v := 1) hx hb dX11_child_134 (by decide) ?_
                    refine lv_aload_n (pc := 135) hx hb dX11_child_135 rfl (lv_at hl 1 rfl) ?_
                    refine lv_iload_n (pc := 136) hx hb dX11_child_136 rfl (lv_at hl 2 rfl) ?_
                    refine lv_iload_n (pc := 137) hx hb dX11_child_137 rfl (lv_at hl 3 rfl) ?_
                    obtain ⟨v6, hm138, hf⟩ := q_b1_e hf
                    refine q_cVr (pc := 138) (As := [.int p1, .int p2]) (rest := [.int 1, .int p3, .ref a_m]) (v0 := (some (.int v6))) ⟨hx, hb, hml, hown, hts⟩ hK hA hZ hP hD hS hl.1 [0, 1, 2, 3] 4 rfl ⟨rfl, rfl, rfl⟩ (c_M_rowOf l D ci A sa N (Rw) a_m a_m_cutRows a_m_cutColumns a_m_deep a_m_wide a_m_zonesAhead a_m_nameOne a_m_nameOther a_m_tape a_m_edges a_m_dist a_m_queue a_m_pieceLevel a_m_pieceKey a_m_pieceYear a_m_drawnKeys a_m_kept a_m_noNumbers m_taped m_place m_fault m_number m_levelRead m_keyRead m_reads m_faults m_cutShort m_noNumber m_bottomLat m_bottomLon m_firstBeside m_manyBeside m_queued m_boxLevel m_boxTop m_boxBottom m_boxWest m_boxEast m_isEarly m_pieces m_states m_drawnNow m_keptAt m_deep m_wide m_zonesAhead p1 p2 v6 hm138) 0 rfl rfl (cwV 2 hts gX11_child_X11_rowOf rfl rfl rfl (by decide +kernel) ⟨Nat.le_of_ble_eq_true rfl, Nat.le_of_ble_eq_true rfl⟩) rfl rfl (Nat.le_of_ble_eq_true rfl) dX11_child_138 ⟨Nat.zero_le _, Nat.zero_le _⟩ (fun locs hS => ?_)
                    refine lv_iconst (pc := 141) (v := 1) hx hb dX11_child_141 (by decide) ?_
                    refine lv_isub (pc := 142) hx hb dX11_child_142 ?_
                    refine lv_iload (pc := 143) hx hb dX11_child_143 (lv_at hl 7 rfl) ?_
                    refine lv_imul (pc := 145) hx hb dX11_child_145 ?_
                    refine lv_iadd (pc := 146) hx hb dX11_child_146 ?_
                    refine lv_iload (pc := 147) hx hb dX11_child_147 (lv_at hl 5 rfl) ?_
                    refine lv_iload (pc := 149) hx hb dX11_child_149 (lv_at hl 0 rfl) ?_
                    refine q_idiv (pc := 151) hx hb dX11_child_151 hf (fun v7 hf => ?_)
                    refine lv_iadd (pc := 152) hx hb dX11_child_152 ?_
                    refine lv_aload_n (pc := 153) hx hb dX11_child_153 rfl (lv_at hl 1 rfl) ?_
                    refine lv_iload_n (pc := 154) hx hb dX11_child_154 rfl (lv_at hl 2 rfl) ?_
                    refine lv_iload_n (pc := 155) hx hb dX11_child_155 rfl (lv_at hl 3 rfl) ?_
                    obtain ⟨v8, hm156, hf⟩ := q_b1_e hf
                    refine q_cVr (pc := 156) (As := [.int p1, .int p2]) (rest := [.int ((1 + ((v6 - 1) * v4)) + v7), .int p3, .ref a_m]) (v0 := (some (.int v8))) ⟨hx, hb, hml, hown, hts⟩ hK hA hZ hP hD hS hl.1 [0, 1, 2, 3] 4 rfl ⟨rfl, rfl, rfl⟩ (c_M_placeOf l D ci A sa N (Rw) a_m a_m_cutRows a_m_cutColumns a_m_deep a_m_wide a_m_zonesAhead a_m_nameOne a_m_nameOther a_m_tape a_m_edges a_m_dist a_m_queue a_m_pieceLevel a_m_pieceKey a_m_pieceYear a_m_drawnKeys a_m_kept a_m_noNumbers m_taped m_place m_fault m_number m_levelRead m_keyRead m_reads m_faults m_cutShort m_noNumber m_bottomLat m_bottomLon m_firstBeside m_manyBeside m_queued m_boxLevel m_boxTop m_boxBottom m_boxWest m_boxEast m_isEarly m_pieces m_states m_drawnNow m_keptAt m_deep m_wide m_zonesAhead p1 p2 v8 hm156) 0 rfl rfl (cwV 2 hts gX11_child_X11_placeOf rfl rfl rfl (by decide +kernel) ⟨Nat.le_of_ble_eq_true rfl, Nat.le_of_ble_eq_true rfl⟩) rfl rfl (Nat.le_of_ble_eq_true rfl) dX11_child_156 ⟨Nat.zero_le _, Nat.zero_le _⟩ (fun locs hS => ?_)
                    refine lv_iload (pc := 159) hx hb dX11_child_159 (lv_at hl 0 rfl) ?_
                    refine lv_imul (pc := 161) hx hb dX11_child_161 ?_
                    refine lv_iload (pc := 162) hx hb dX11_child_162 (lv_at hl 5 rfl) ?_
                    refine lv_iload (pc := 164) hx hb dX11_child_164 (lv_at hl 0 rfl) ?_
                    refine q_irem (pc := 166) hx hb dX11_child_166 hf (fun v9 hf => ?_)
                    refine lv_iadd (pc := 167) hx hb dX11_child_167 ?_
                    obtain ⟨v10, hm168, hf⟩ := q_b1_e hf
                    refine q_cVr (pc := 168) (As := [.int p3, .int ((1 + ((v6 - 1) * v4)) + v7), .int ((v8 * v5) + v9)]) (rest := []) (v0 := (some (.int v10))) ⟨hx, hb, hml, hown, hts⟩ hK hA hZ hP hD hS hl.1 [0, 1, 2, 3] 4 rfl ⟨rfl, rfl, rfl⟩ (c_M_keyOf l D ci A sa N (Rw) a_m a_m_cutRows a_m_cutColumns a_m_deep a_m_wide a_m_zonesAhead a_m_nameOne a_m_nameOther a_m_tape a_m_edges a_m_dist a_m_queue a_m_pieceLevel a_m_pieceKey a_m_pieceYear a_m_drawnKeys a_m_kept a_m_noNumbers m_taped m_place m_fault m_number m_levelRead m_keyRead m_reads m_faults m_cutShort m_noNumber m_bottomLat m_bottomLon m_firstBeside m_manyBeside m_queued m_boxLevel m_boxTop m_boxBottom m_boxWest m_boxEast m_isEarly m_pieces m_states m_drawnNow m_keptAt m_deep m_wide m_zonesAhead p3 ((1 + ((v6 - 1) * v4)) + v7) ((v8 * v5) + v9) v10 hm168) 0 rfl rfl (cwV 3 hts gX11_child_X11_keyOf rfl rfl rfl (by decide +kernel) ⟨Nat.le_of_ble_eq_true rfl, Nat.le_of_ble_eq_true rfl⟩) rfl rfl (Nat.le_of_ble_eq_true rfl) dX11_child_168 ⟨Nat.zero_le _, Nat.zero_le _⟩ (fun locs hS => ?_)
                    obtain rfl := Option.some.inj hf
                    rw [hQ]
                    exact q_iretr (pc := 171) hx hb hr hlocks rfl hS dX11_child_171
                  · refine lv_iload_n (pc := 116) hx hb dX11_child_116 rfl (lv_at hl 3 rfl) ?_
                    refine q_if_ne (pc := 117) (tgt := 124) hx hb dX11_child_117 (by decide) rfl hf (fun hf => ?_) (fun hf => ?_)
                    · refine lv_aload_n (pc := 124) hx hb dX11_child_124 rfl (lv_at hl 1 rfl) ?_
                      refine lv_iload_n (pc := 125) hx hb dX11_child_125 rfl (lv_at hl 4 rfl) ?_
                      obtain ⟨v11, hm126, hf⟩ := q_b1_e hf
                      refine q_cVr (pc := 126) (As := [.int p3]) (rest := []) (v0 := (some (.int v11))) ⟨hx, hb, hml, hown, hts⟩ hK hA hZ hP hD hS hl.1 [0, 1, 2, 3] 4 rfl ⟨rfl, rfl, rfl⟩ (c_M_sheets l D ci A sa N (Rw) a_m a_m_cutRows a_m_cutColumns a_m_deep a_m_wide a_m_zonesAhead a_m_nameOne a_m_nameOther a_m_tape a_m_edges a_m_dist a_m_queue a_m_pieceLevel a_m_pieceKey a_m_pieceYear a_m_drawnKeys a_m_kept a_m_noNumbers m_taped m_place m_fault m_number m_levelRead m_keyRead m_reads m_faults m_cutShort m_noNumber m_bottomLat m_bottomLon m_firstBeside m_manyBeside m_queued m_boxLevel m_boxTop m_boxBottom m_boxWest m_boxEast m_isEarly m_pieces m_states m_drawnNow m_keptAt m_deep m_wide m_zonesAhead p3 v11 hm126) 0 rfl rfl (cwV 1 hts gX11_child_X11_sheets rfl rfl rfl (by decide +kernel) ⟨Nat.le_of_ble_eq_true rfl, Nat.le_of_ble_eq_true rfl⟩) rfl rfl (Nat.le_of_ble_eq_true rfl) dX11_child_126 ⟨Nat.zero_le _, Nat.zero_le _⟩ (fun locs hS => ?_)
                      refine lv_iconst (pc := 129) (v := 1) hx hb dX11_child_129 (by decide) ?_
                      refine lv_isub (pc := 130) hx hb dX11_child_130 ?_
                      obtain rfl := Option.some.inj hf
                      rw [hQ]
                      exact q_iretr (pc := 131) hx hb hr hlocks rfl hS dX11_child_131
                    · refine lv_iconst (pc := 120) (v := 0) hx hb dX11_child_120 (by decide) ?_
                      refine lv_goto (pc := 121) (tgt := 131) hx hb dX11_child_121 (by decide) ?_
                      obtain rfl := Option.some.inj hf
                      rw [hQ]
                      exact q_iretr (pc := 131) hx hb hr hlocks rfl hS dX11_child_131
                · refine lv_bipush (pc := 108) (v := (-2)) hx hb dX11_child_108 (by decide) ?_
                  obtain rfl := Option.some.inj hf
                  rw [hQ]
                  exact q_iretr (pc := 110) hx hb hr hlocks rfl hS dX11_child_110
              · refine lv_iload (pc := 92) hx hb dX11_child_92 (lv_at hl 7 rfl) ?_
                refine lv_iload (pc := 94) hx hb dX11_child_94 (lv_at hl 0 rfl) ?_
                refine lv_imul (pc := 96) hx hb dX11_child_96 ?_
                obtain rfl := Option.some.inj hf
                rw [hQ]
                exact q_iretr (pc := 97) hx hb hr hlocks rfl hS dX11_child_97
            refine q_if_eq (pc := 64) (tgt := 71) hx hb dX11_child_64 (by decide) rfl hf (fun hf => ?_) (fun hf => ?_)
            · refine lv_aload_n (pc := 71) hx hb dX11_child_71 rfl (lv_at hl 1 rfl) ?_
              refine va_get (pc := 72) (D := D) (ci := 11) (v := .ref a_m_wide) (C := RX11) (T := TX11) (N := 42) hx hb hts hinX11 hown hK hP 0 rfl rfl 3 (by decide) w_3 (fun _ h9 => h9) rfl dX11_child_72 ?_
              refine lv_iload_n (pc := 75) hx hb dX11_child_75 rfl (lv_at hl 4 rfl) ?_
              refine q_iald (pc := 76) hx hb hK hP 2 0 hf rfl rfl dX11_child_76 (fun v12 hf => ?_)
              refine lv_aload_n (pc := 77) hx hb dX11_child_77 rfl (lv_at hl 1 rfl) ?_
              refine va_get (pc := 78) (D := D) (ci := 11) (v := .ref a_m_wide) (C := RX11) (T := TX11) (N := 42) hx hb hts hinX11 hown hK hP 0 rfl rfl 3 (by decide) w_3 (fun _ h9 => h9) rfl dX11_child_78 ?_
              refine lv_iload_n (pc := 81) hx hb dX11_child_81 rfl (lv_at hl 2 rfl) ?_
              refine q_iald (pc := 82) hx hb hK hP 2 0 hf rfl rfl dX11_child_82 (fun v13 hf => ?_)
              refine q_idiv (pc := 83) hx hb dX11_child_83 hf (fun v14 hf => ?_)
              exact J84 v14 _ _ _ hf rfl hS (lv_sub hl [1, 2, 3, 4, 5, 6, 0] rfl)
            · refine lv_iconst (pc := 67) (v := 1) hx hb dX11_child_67 (by decide) ?_
              refine lv_goto (pc := 68) (tgt := 84) hx hb dX11_child_68 (by decide) ?_
              exact J84 1 _ _ _ hf rfl hS (lv_sub hl [1, 2, 3, 4, 5, 6, 0] rfl)
          refine q_if_eq (pc := 40) (tgt := 47) hx hb dX11_child_40 (by decide) rfl hf (fun hf => ?_) (fun hf => ?_)
          · refine lv_aload_n (pc := 47) hx hb dX11_child_47 rfl (lv_at hl 1 rfl) ?_
            refine va_get (pc := 48) (D := D) (ci := 11) (v := .ref a_m_deep) (C := RX11) (T := TX11) (N := 42) hx hb hts hinX11 hown hK hP 0 rfl rfl 2 (by decide) w_2 (fun _ h9 => h9) rfl dX11_child_48 ?_
            refine lv_iload_n (pc := 51) hx hb dX11_child_51 rfl (lv_at hl 4 rfl) ?_
            refine q_iald (pc := 52) hx hb hK hP 1 0 hf rfl rfl dX11_child_52 (fun v15 hf => ?_)
            refine lv_aload_n (pc := 53) hx hb dX11_child_53 rfl (lv_at hl 1 rfl) ?_
            refine va_get (pc := 54) (D := D) (ci := 11) (v := .ref a_m_deep) (C := RX11) (T := TX11) (N := 42) hx hb hts hinX11 hown hK hP 0 rfl rfl 2 (by decide) w_2 (fun _ h9 => h9) rfl dX11_child_54 ?_
            refine lv_iload_n (pc := 57) hx hb dX11_child_57 rfl (lv_at hl 2 rfl) ?_
            refine q_iald (pc := 58) hx hb hK hP 1 0 hf rfl rfl dX11_child_58 (fun v16 hf => ?_)
            refine q_idiv (pc := 59) hx hb dX11_child_59 hf (fun v17 hf => ?_)
            exact J60 v17 _ _ _ hf rfl hS (lv_sub hl [1, 2, 3, 4, 5, 0] rfl)
          · refine lv_iconst (pc := 43) (v := 1) hx hb dX11_child_43 (by decide) ?_
            refine lv_goto (pc := 44) (tgt := 60) hx hb dX11_child_44 (by decide) ?_
            exact J60 1 _ _ _ hf rfl hS (lv_sub hl [1, 2, 3, 4, 5, 0] rfl)
        · refine lv_iconst (pc := 28) (v := (-1)) hx hb dX11_child_28 (by decide) ?_
          obtain rfl := Option.some.inj hf
          rw [hQ]
          exact q_iretr (pc := 29) hx hb hr hlocks rfl hS dX11_child_29
  exact hgo _ _ rfl hP hS
/-! X11_common -/
set_option maxRecDepth 100000 in
set_option maxHeartbeats 4000000 in
theorem c_M_common (l : Launch) (D : va_G) (ci : Nat → ClassId) (A : Nat → Prop) (sa : Nat → Nat) (N : Nat) (Rw : va_W) (p1 : Int64) (p2 : Int64) (r : Int64) (hf : f_M_common N p1 p2 = some r) : Met l yX11_common wsX11_common ({ frames := 0, cells := 0, slots := 0, locals := 0 }) (va_Pc [.long p1, .long p2] (q_N D ci A sa (Rw))) (q_R (some (.long r))) 0 0 A := by
  refine q_ofW (cc := cX11_common) (maxL := 10) (ret := (some .long)) [.long p1, .long p2] (plainFor_of_name (by decide)) rfl (Nat.le_of_ble_eq_true rfl) ?_
  intro p e s m below meth c ls Q hQ hx hb hml hr hts hown hlocks hK hA hZ hP hD hS hl
  have hl : lv_has ls 10 [(0, .long p1), (2, .long p2)] := hl
  have hown : s.vm.findClass RX11 = some m.cls := hown
  unfold f_M_common at hf
  have hgo : ∀ (H : Heap) (locs : List Loc), H = s.heap → va_P D vwCl (Rw) H → va_S A s.heap H locs → W p l e ({ frames := 0, cells := 0, slots := 0, locals := 0 } : Room) s m ([.long p1, .long p2] : List Value).toArray below meth c H locs 0 0 Q (F0 m 0 ls []) := by
    intro H locs hH hP hS
    subst hH
    refine lv_lload_n (pc := 0) hx hb dX11_common_0 rfl (lv_at hl 0 rfl) ?_
    refine lv_lconst (pc := 1) (v := 0) hx hb dX11_common_1 (by decide) ?_
    refine W.lcmp (pc := 2) hx hb dX11_common_2 ?_
    obtain ⟨k12, ek12, hf⟩ := q_j1_e hf
    have J12 : ∀ (v1 : Int64) (H : Heap) (locs : List Loc) (ls : Array Slot), k12 v1 = some r → H = s.heap → va_S A s.heap H locs → lv_has ls 10 [(2, .long p2)] → W p l e ({ frames := 0, cells := 0, slots := 0, locals := 0 } : Room) s m ([.long p1, .long p2] : List Value).toArray below meth c H locs 0 0 Q (F0 m 12 ls [.long v1]) := by
      intro v1 H locs ls hf hHs hS hl
      subst hHs
      have hf := (ek12 v1).symm.trans hf
      refine lv_lstore (pc := 12) (lv' := [(4, .long v1), (2, .long p2)]) hx hb dX11_common_12 hl (by decide) rfl (fun ls hl => ?_)
      refine lv_lload_n (pc := 14) hx hb dX11_common_14 rfl (lv_at hl 1 rfl) ?_
      refine lv_lstore (pc := 15) (lv' := [(6, .long p2), (4, .long v1), (2, .long p2)]) hx hb dX11_common_15 hl (by decide) rfl (fun ls hl => ?_)
      obtain ⟨v4, hm17, hf⟩ := q_b1_e hf
      have JE17 : ∀ (H : Heap) (locs : List Loc) (ls : Array Slot), H = s.heap → va_S A s.heap H locs → lv_has ls 10 [(4, .long v4)] → W p l e ({ frames := 0, cells := 0, slots := 0, locals := 0 } : Room) s m ([.long p1, .long p2] : List Value).toArray below meth c H locs 0 0 Q (F0 m 42 ls []) := by
        intro H locs ls hHs hS hl
        subst hHs
        refine lv_lload (pc := 42) hx hb dX11_common_42 (lv_at hl 0 rfl) ?_
        obtain rfl := Option.some.inj hf
        rw [hQ]
        exact q_lretr (pc := 44) hx hb hr hlocks rfl hS dX11_common_44
      have LP17 : ∀ (n17 : Nat) (v2 : Int64) (v3 : Int64) (H : Heap) (locs : List Loc) (ls : Array Slot), f_M_common_L17 n17 v2 v3 = some v4 → H = s.heap → va_S A s.heap H locs → lv_has ls 10 [(4, .long v2), (6, .long v3)] → W p l e ({ frames := 0, cells := 0, slots := 0, locals := 0 } : Room) s m ([.long p1, .long p2] : List Value).toArray below meth c H locs 0 0 Q (F0 m 17 ls []) := by
        intro n17
        induction n17 with
        | zero => intro v2 v3 H locs ls hf; rw [f_M_common_L17] at hf; cases hf
        | succ n17 ih17 =>
          intro v2 v3 H locs ls hf hHs hS hl
          subst hHs
          rw [f_M_common_L17] at hf
          refine lv_lload (pc := 17) hx hb dX11_common_17 (lv_at hl 1 rfl) ?_
          refine lv_lconst (pc := 19) (v := 0) hx hb dX11_common_19 (by decide) ?_
          refine W.lcmp (pc := 20) hx hb dX11_common_20 ?_
          refine q_if_eq (pc := 21) (tgt := 42) hx hb dX11_common_21 (by decide) rfl hf (fun hf => ?_) (fun hf => ?_)
          · obtain rfl := Option.some.inj hf
            exact JE17 _ _ _ rfl hS (lv_sub hl [0] rfl)
          · refine lv_lload (pc := 24) hx hb dX11_common_24 (lv_at hl 0 rfl) ?_
            refine lv_lload (pc := 26) hx hb dX11_common_26 (lv_at hl 1 rfl) ?_
            refine q_lrem (pc := 28) hx hb dX11_common_28 hf (fun v5 hf => ?_)
            refine lv_lstore (pc := 29) (lv' := [(8, .long v5), (4, .long v2), (6, .long v3)]) hx hb dX11_common_29 hl (by decide) rfl (fun ls hl => ?_)
            refine lv_lload (pc := 31) hx hb dX11_common_31 (lv_at hl 2 rfl) ?_
            refine lv_lstore (pc := 33) (lv' := [(4, .long v3), (8, .long v5), (6, .long v3)]) hx hb dX11_common_33 hl (by decide) rfl (fun ls hl => ?_)
            refine lv_lload (pc := 35) hx hb dX11_common_35 (lv_at hl 1 rfl) ?_
            refine lv_lstore (pc := 37) (lv' := [(6, .long v5), (4, .long v3), (8, .long v5)]) hx hb dX11_common_37 hl (by decide) rfl (fun ls hl => ?_)
            refine lv_goto (pc := 39) (tgt := 17) hx hb dX11_common_39 (by decide) ?_
            exact ih17 v3 v5 _ _ _ hf rfl hS (lv_sub hl [1, 0] rfl)
      exact LP17 N v1 p2 _ _ _ hm17 rfl hS (lv_sub hl [1, 0] rfl)
    refine q_if_ge (pc := 3) (tgt := 11) hx hb dX11_common_3 (by decide) rfl hf (fun hf => ?_) (fun hf => ?_)
    · refine lv_lload_n (pc := 11) hx hb dX11_common_11 rfl (lv_at hl 0 rfl) ?_
      exact J12 p1 _ _ _ hf rfl hS (lv_sub hl [1] rfl)
    · refine lv_lload_n (pc := 6) hx hb dX11_common_6 rfl (lv_at hl 0 rfl) ?_
      refine lv_lneg (pc := 7) hx hb dX11_common_7 ?_
      refine lv_goto (pc := 8) (tgt := 12) hx hb dX11_common_8 (by decide) ?_
      exact J12 (-p1) _ _ _ hf rfl hS (lv_sub hl [1] rfl)
  exact hgo _ _ rfl hP hS
/-! X11_common_ -/
set_option maxRecDepth 100000 in
set_option maxHeartbeats 4000000 in
theorem c_M_common_ (l : Launch) (D : va_G) (ci : Nat → ClassId) (A : Nat → Prop) (sa : Nat → Nat) (N : Nat) (Rw : va_W) (a_m : Nat) (a_m_cutRows : Nat) (a_m_cutColumns : Nat) (a_m_deep : Nat) (a_m_wide : Nat) (a_m_zonesAhead : Nat) (a_m_nameOne : Nat) (a_m_nameOther : Nat) (a_m_tape : Nat) (a_m_edges : Nat) (a_m_dist : Nat) (a_m_queue : Nat) (a_m_pieceLevel : Nat) (a_m_pieceKey : Nat) (a_m_pieceYear : Nat) (a_m_drawnKeys : Nat) (a_m_kept : Nat) (a_m_noNumbers : Nat) (m_taped : Int32) (m_place : Int32) (m_fault : Int32) (m_number : Int32) (m_levelRead : Int32) (m_keyRead : Int32) (m_reads : Int32) (m_faults : Int32) (m_cutShort : Int32) (m_noNumber : Int32) (m_bottomLat : Int64) (m_bottomLon : Int64) (m_firstBeside : Int32) (m_manyBeside : Int32) (m_queued : Int32) (m_boxLevel : Int32) (m_boxTop : Int32) (m_boxBottom : Int32) (m_boxWest : Int32) (m_boxEast : Int32) (m_isEarly : Int32) (m_pieces : Int32) (m_states : Int32) (m_drawnNow : Int32) (m_keptAt : Int32) (m_deep : Nat → Int32) (m_wide : Nat → Int32) (m_zonesAhead : Nat → Int32) (p1 : Int32) (p2 : Int32) (p3 : Int32) (p4 : Int32) (r : Int32) (hf : f_M_common_ N m_deep m_wide m_zonesAhead p1 p2 p3 p4 = some r) : Met l yX11_common_ wsX11_common_ ({ frames := 4, cells := 0, slots := 0, locals := 90 }) (va_Pc [.ref a_m, .int p1, .int p2, .int p3, .int p4] (q_N D ci A sa ((a_m, .inr (11, (.ref a_m_cutRows :: .ref a_m_cutColumns :: .ref a_m_deep :: .ref a_m_wide :: .ref a_m_zonesAhead :: .ref a_m_nameOne :: .ref a_m_nameOther :: .ref a_m_tape :: .int m_taped :: .int m_place :: .int m_fault :: .int m_number :: .int m_levelRead :: .int m_keyRead :: .int m_reads :: .int m_faults :: .int m_cutShort :: .int m_noNumber :: .long m_bottomLat :: .long m_bottomLon :: .ref a_m_edges :: .int m_firstBeside :: .int m_manyBeside :: .ref a_m_dist :: .ref a_m_queue :: .int m_queued :: .int m_boxLevel :: .int m_boxTop :: .int m_boxBottom :: .int m_boxWest :: .int m_boxEast :: .int m_isEarly :: .int m_pieces :: .int m_states :: .ref a_m_pieceLevel :: .ref a_m_pieceKey :: .ref a_m_pieceYear :: .int m_drawnNow :: .ref a_m_drawnKeys :: .ref a_m_kept :: .int m_keptAt :: .ref a_m_noNumbers :: []))) :: (a_m_deep, .inl (ci 0, 5, .inl m_deep)) :: (a_m_wide, .inl (ci 0, 5, .inl m_wide)) :: (a_m_zonesAhead, .inl (ci 0, 45, .inl m_zonesAhead)) :: Rw))) (q_R (some (.int r))) 0 0 A := by
  refine q_ofW (cc := cX11_common_) (maxL := 6) (ret := (some .int)) [.ref a_m, .int p1, .int p2, .int p3, .int p4] (plainFor_of_name (by decide)) rfl (Nat.le_of_ble_eq_true rfl) ?_
  intro p e s m below meth c ls Q hQ hx hb hml hr hts hown hlocks hK hA hZ hP hD hS hl
  have hl : lv_has ls 6 [(0, .ref a_m), (1, .int p1), (2, .int p2), (3, .int p3), (4, .int p4)] := hl
  have hown : s.vm.findClass RX11 = some m.cls := hown
  unfold f_M_common_ at hf
  have hgo : ∀ (H : Heap) (locs : List Loc), H = s.heap → va_P D vwCl ((a_m, .inr (11, (.ref a_m_cutRows :: .ref a_m_cutColumns :: .ref a_m_deep :: .ref a_m_wide :: .ref a_m_zonesAhead :: .ref a_m_nameOne :: .ref a_m_nameOther :: .ref a_m_tape :: .int m_taped :: .int m_place :: .int m_fault :: .int m_number :: .int m_levelRead :: .int m_keyRead :: .int m_reads :: .int m_faults :: .int m_cutShort :: .int m_noNumber :: .long m_bottomLat :: .long m_bottomLon :: .ref a_m_edges :: .int m_firstBeside :: .int m_manyBeside :: .ref a_m_dist :: .ref a_m_queue :: .int m_queued :: .int m_boxLevel :: .int m_boxTop :: .int m_boxBottom :: .int m_boxWest :: .int m_boxEast :: .int m_isEarly :: .int m_pieces :: .int m_states :: .ref a_m_pieceLevel :: .ref a_m_pieceKey :: .ref a_m_pieceYear :: .int m_drawnNow :: .ref a_m_drawnKeys :: .ref a_m_kept :: .int m_keptAt :: .ref a_m_noNumbers :: []))) :: (a_m_deep, .inl (ci 0, 5, .inl m_deep)) :: (a_m_wide, .inl (ci 0, 5, .inl m_wide)) :: (a_m_zonesAhead, .inl (ci 0, 45, .inl m_zonesAhead)) :: Rw) H → va_S A s.heap H locs → W p l e ({ frames := 4, cells := 0, slots := 0, locals := 90 } : Room) s m ([.ref a_m, .int p1, .int p2, .int p3, .int p4] : List Value).toArray below meth c H locs 0 0 Q (F0 m 0 ls []) := by
    intro H locs hH hP hS
    subst hH
    refine lv_iload_n (pc := 0) hx hb dX11_common__0 rfl (lv_at hl 1 rfl) ?_
    refine lv_iload_n (pc := 1) hx hb dX11_common__1 rfl (lv_at hl 2 rfl) ?_
    obtain ⟨v1, hm2, hf⟩ := q_b1_e hf
    refine q_cSr (pc := 2) (As := [.int p1, .int p2]) (rest := []) (v0 := (some (.int v1))) ⟨hx, hb, hml, hown, hts⟩ hK hA hZ hP hD hS hl.1 [] 4 rfl ⟨rfl, rfl, rfl⟩ (c_M_isPlace l D ci A sa N (Rw) p1 p2 v1 hm2) (va_cwS 2 hts gX11_common__X11_isPlace rfl rfl rfl (by decide +kernel) ⟨Nat.le_of_ble_eq_true rfl, Nat.le_of_ble_eq_true rfl⟩) rfl rfl (Nat.le_of_ble_eq_true rfl) dX11_common__2 ⟨Nat.zero_le _, Nat.zero_le _⟩ (fun locs hS => ?_)
    refine q_if_eq (pc := 5) (tgt := 17) hx hb dX11_common__5 (by decide) rfl hf (fun hf => ?_) (fun hf => ?_)
    · refine lv_iconst (pc := 17) (v := (-1)) hx hb dX11_common__17 (by decide) ?_
      obtain rfl := Option.some.inj hf
      rw [hQ]
      exact q_iretr (pc := 18) hx hb hr hlocks rfl hS dX11_common__18
    · refine lv_iload_n (pc := 8) hx hb dX11_common__8 rfl (lv_at hl 3 rfl) ?_
      refine lv_iload (pc := 9) hx hb dX11_common__9 (lv_at hl 4 rfl) ?_
      obtain ⟨v2, hm11, hf⟩ := q_b1_e hf
      refine q_cSr (pc := 11) (As := [.int p3, .int p4]) (rest := []) (v0 := (some (.int v2))) ⟨hx, hb, hml, hown, hts⟩ hK hA hZ hP hD hS hl.1 [] 4 rfl ⟨rfl, rfl, rfl⟩ (c_M_isPlace l D ci A sa N (Rw) p3 p4 v2 hm11) (va_cwS 2 hts gX11_common__X11_isPlace rfl rfl rfl (by decide +kernel) ⟨Nat.le_of_ble_eq_true rfl, Nat.le_of_ble_eq_true rfl⟩) rfl rfl (Nat.le_of_ble_eq_true rfl) dX11_common__11 ⟨Nat.zero_le _, Nat.zero_le _⟩ (fun locs hS => ?_)
      refine q_if_ne (pc := 14) (tgt := 19) hx hb dX11_common__14 (by decide) rfl hf (fun hf => ?_) (fun hf => ?_)
      · refine lv_iconst (pc := 19) (v := 4) hx hb dX11_common__19 (by decide) ?_
        obtain ⟨v3, ev3, hf⟩ := q_nm_e hf
        refine q_topi ev3 ?_
        refine lv_istore (pc := 20) (lv' := [(5, .int v3), (0, .ref a_m), (1, .int p1), (2, .int p2), (3, .int p3), (4, .int p4)]) hx hb dX11_common__20 hl (by decide) rfl (fun ls hl => ?_)
        obtain ⟨k22, o22_, ek22, hm22, hk22⟩ := q_s0_k hf
        have JE22 : ∀  (H : Heap) (locs : List Loc) (ls : Array Slot), k22 = some r → H = s.heap → va_S A s.heap H locs → lv_has ls 6 [] → W p l e ({ frames := 4, cells := 0, slots := 0, locals := 90 } : Room) s m ([.ref a_m, .int p1, .int p2, .int p3, .int p4] : List Value).toArray below meth c H locs 0 0 Q (F0 m 56 ls []) := by
          intro  H locs ls hf hHs hS hl
          subst hHs
          have hf := (ek22).symm.trans hf
          refine lv_bipush (pc := 56) (v := (-2)) hx hb dX11_common__56 (by decide) ?_
          obtain rfl := Option.some.inj hf
          rw [hQ]
          exact q_iretr (pc := 58) hx hb hr hlocks rfl hS dX11_common__58
        have LP22 : ∀ (n22 : Nat) (v4 : Int32) (H : Heap) (locs : List Loc) (ls : Array Slot), f_M_common__L22 m_deep m_wide m_zonesAhead p1 p2 p3 p4 n22 v4 = some o22_ → H = s.heap → va_S A s.heap H locs → lv_has ls 6 [(0, .ref a_m), (1, .int p1), (2, .int p2), (3, .int p3), (4, .int p4), (5, .int v4)] → W p l e ({ frames := 4, cells := 0, slots := 0, locals := 90 } : Room) s m ([.ref a_m, .int p1, .int p2, .int p3, .int p4] : List Value).toArray below meth c H locs 0 0 Q (F0 m 22 ls []) := by
          intro n22
          induction n22 with
          | zero => intro v4 H locs ls hf; rw [f_M_common__L22] at hf; cases hf
          | succ n22 ih22 =>
            intro v4 H locs ls hf hHs hS hl
            subst hHs
            rw [f_M_common__L22] at hf
            refine lv_iload (pc := 22) hx hb dX11_common__22 (lv_at hl 5 rfl) ?_
            refine q_if_lt (pc := 24) (tgt := 56) hx hb dX11_common__24 (by decide) rfl hf (fun hf => ?_) (fun hf => ?_)
            · obtain rfl := Option.some.inj hf
              exact JE22  _ _ _ hk22 rfl hS (lv_sub hl [] rfl)
            · refine lv_aload_n (pc := 27) hx hb dX11_common__27 rfl (lv_at hl 0 rfl) ?_
              refine lv_iload_n (pc := 28) hx hb dX11_common__28 rfl (lv_at hl 1 rfl) ?_
              refine lv_iload_n (pc := 29) hx hb dX11_common__29 rfl (lv_at hl 2 rfl) ?_
              refine lv_iload (pc := 30) hx hb dX11_common__30 (lv_at hl 5 rfl) ?_
              obtain ⟨v5, hm32, hf⟩ := q_b1_e hf
              refine q_cVr (pc := 32) (As := [.int p1, .int p2, .int v4]) (rest := []) (v0 := (some (.int v5))) ⟨hx, hb, hml, hown, hts⟩ hK hA hZ hP hD hS hl.1 [0, 1, 2, 3] 4 rfl ⟨rfl, rfl, rfl⟩ (c_M_keyAtPlace l D ci A sa N (Rw) a_m a_m_cutRows a_m_cutColumns a_m_deep a_m_wide a_m_zonesAhead a_m_nameOne a_m_nameOther a_m_tape a_m_edges a_m_dist a_m_queue a_m_pieceLevel a_m_pieceKey a_m_pieceYear a_m_drawnKeys a_m_kept a_m_noNumbers m_taped m_place m_fault m_number m_levelRead m_keyRead m_reads m_faults m_cutShort m_noNumber m_bottomLat m_bottomLon m_firstBeside m_manyBeside m_queued m_boxLevel m_boxTop m_boxBottom m_boxWest m_boxEast m_isEarly m_pieces m_states m_drawnNow m_keptAt m_deep m_wide m_zonesAhead p1 p2 v4 v5 hm32) 0 rfl rfl (cwV 3 hts gX11_common__X11_keyAtPlace rfl rfl rfl (by decide +kernel) ⟨Nat.le_of_ble_eq_true rfl, Nat.le_of_ble_eq_true rfl⟩) rfl rfl (Nat.le_of_ble_eq_true rfl) dX11_common__32 ⟨Nat.zero_le _, Nat.zero_le _⟩ (fun locs hS => ?_)
              refine lv_aload_n (pc := 35) hx hb dX11_common__35 rfl (lv_at hl 0 rfl) ?_
              refine lv_iload_n (pc := 36) hx hb dX11_common__36 rfl (lv_at hl 3 rfl) ?_
              refine lv_iload (pc := 37) hx hb dX11_common__37 (lv_at hl 4 rfl) ?_
              refine lv_iload (pc := 39) hx hb dX11_common__39 (lv_at hl 5 rfl) ?_
              obtain ⟨v6, hm41, hf⟩ := q_b1_e hf
              refine q_cVr (pc := 41) (As := [.int p3, .int p4, .int v4]) (rest := [.int v5]) (v0 := (some (.int v6))) ⟨hx, hb, hml, hown, hts⟩ hK hA hZ hP hD hS hl.1 [0, 1, 2, 3] 4 rfl ⟨rfl, rfl, rfl⟩ (c_M_keyAtPlace l D ci A sa N (Rw) a_m a_m_cutRows a_m_cutColumns a_m_deep a_m_wide a_m_zonesAhead a_m_nameOne a_m_nameOther a_m_tape a_m_edges a_m_dist a_m_queue a_m_pieceLevel a_m_pieceKey a_m_pieceYear a_m_drawnKeys a_m_kept a_m_noNumbers m_taped m_place m_fault m_number m_levelRead m_keyRead m_reads m_faults m_cutShort m_noNumber m_bottomLat m_bottomLon m_firstBeside m_manyBeside m_queued m_boxLevel m_boxTop m_boxBottom m_boxWest m_boxEast m_isEarly m_pieces m_states m_drawnNow m_keptAt m_deep m_wide m_zonesAhead p3 p4 v4 v6 hm41) 0 rfl rfl (cwV 3 hts gX11_common__X11_keyAtPlace rfl rfl rfl (by decide +kernel) ⟨Nat.le_of_ble_eq_true rfl, Nat.le_of_ble_eq_true rfl⟩) rfl rfl (Nat.le_of_ble_eq_true rfl) dX11_common__41 ⟨Nat.zero_le _, Nat.zero_le _⟩ (fun locs hS => ?_)
              refine q_icmp_ne (pc := 44) (tgt := 50) hx hb dX11_common__44 (by decide) rfl hf (fun hf => ?_) (fun hf => ?_)
              · obtain ⟨v7, ev7, hf⟩ := q_nm_e hf
                refine lv_iinc (pc := 50) (v := v7) (lv' := [(5, .int v7), (0, .ref a_m), (1, .int p1), (2, .int p2), (3, .int p3), (4, .int p4)]) hx hb dX11_common__50 hl (k := 5) rfl (by rw [ev7]; rfl) (by decide) rfl (fun ls hl => ?_)
                refine lv_goto (pc := 53) (tgt := 22) hx hb dX11_common__53 (by decide) ?_
                exact ih22 v7 _ _ _ hf rfl hS (lv_sub hl [1, 2, 3, 4, 5, 0] rfl)
              · refine lv_iload (pc := 47) hx hb dX11_common__47 (lv_at hl 5 rfl) ?_
                obtain rfl := Option.some.inj hf
                have hk22 : (v4 : Int32) = r := hk22
                obtain rfl := hk22
                rw [hQ]
                exact q_iretr (pc := 49) hx hb hr hlocks rfl hS dX11_common__49
        exact LP22 N v3 _ _ _ hm22 rfl hS (lv_sub hl [1, 2, 3, 4, 5, 0] rfl)
      · refine lv_iconst (pc := 17) (v := (-1)) hx hb dX11_common__17 (by decide) ?_
        obtain rfl := Option.some.inj hf
        rw [hQ]
        exact q_iretr (pc := 18) hx hb hr hlocks rfl hS dX11_common__18
  exact hgo _ _ rfl hP hS
/-! X11_cornerOf -/
set_option maxRecDepth 100000 in
set_option maxHeartbeats 4000000 in
theorem c_M_cornerOf (l : Launch) (D : va_G) (ci : Nat → ClassId) (A : Nat → Prop) (sa : Nat → Nat) (N : Nat) (Rw : va_W) (a_m : Nat) (a_m_cutRows : Nat) (a_m_cutColumns : Nat) (a_m_deep : Nat) (a_m_wide : Nat) (a_m_zonesAhead : Nat) (a_m_nameOne : Nat) (a_m_nameOther : Nat) (a_m_tape : Nat) (a_m_edges : Nat) (a_m_dist : Nat) (a_m_queue : Nat) (a_m_pieceLevel : Nat) (a_m_pieceKey : Nat) (a_m_pieceYear : Nat) (a_m_drawnKeys : Nat) (a_m_kept : Nat) (a_m_noNumbers : Nat) (m_taped : Int32) (m_place : Int32) (m_fault : Int32) (m_number : Int32) (m_levelRead : Int32) (m_keyRead : Int32) (m_reads : Int32) (m_faults : Int32) (m_cutShort : Int32) (m_noNumber : Int32) (m_bottomLat : Int64) (m_bottomLon : Int64) (m_firstBeside : Int32) (m_manyBeside : Int32) (m_queued : Int32) (m_boxLevel : Int32) (m_boxTop : Int32) (m_boxBottom : Int32) (m_boxWest : Int32) (m_boxEast : Int32) (m_isEarly : Int32) (m_pieces : Int32) (m_states : Int32) (m_drawnNow : Int32) (m_keptAt : Int32) (m_deep : Nat → Int32) (m_wide : Nat → Int32) (m_zonesAhead : Nat → Int32) (p1 : Int32) (p2 : Int32) (p3 : Int32) (p4 : Int32) (r : Int32) (hf : f_M_cornerOf N m_deep m_wide m_zonesAhead p1 p2 p3 p4 = some r) : Met l yX11_cornerOf wsX11_cornerOf ({ frames := 4, cells := 0, slots := 0, locals := 88 }) (va_Pc [.ref a_m, .int p1, .int p2, .int p3, .int p4] (q_N D ci A sa ((a_m, .inr (11, (.ref a_m_cutRows :: .ref a_m_cutColumns :: .ref a_m_deep :: .ref a_m_wide :: .ref a_m_zonesAhead :: .ref a_m_nameOne :: .ref a_m_nameOther :: .ref a_m_tape :: .int m_taped :: .int m_place :: .int m_fault :: .int m_number :: .int m_levelRead :: .int m_keyRead :: .int m_reads :: .int m_faults :: .int m_cutShort :: .int m_noNumber :: .long m_bottomLat :: .long m_bottomLon :: .ref a_m_edges :: .int m_firstBeside :: .int m_manyBeside :: .ref a_m_dist :: .ref a_m_queue :: .int m_queued :: .int m_boxLevel :: .int m_boxTop :: .int m_boxBottom :: .int m_boxWest :: .int m_boxEast :: .int m_isEarly :: .int m_pieces :: .int m_states :: .ref a_m_pieceLevel :: .ref a_m_pieceKey :: .ref a_m_pieceYear :: .int m_drawnNow :: .ref a_m_drawnKeys :: .ref a_m_kept :: .int m_keptAt :: .ref a_m_noNumbers :: []))) :: (a_m_deep, .inl (ci 0, 5, .inl m_deep)) :: (a_m_wide, .inl (ci 0, 5, .inl m_wide)) :: (a_m_zonesAhead, .inl (ci 0, 45, .inl m_zonesAhead)) :: Rw))) (q_R (some (.int r))) 0 0 A := by
  refine q_ofW (cc := cX11_cornerOf) (maxL := 15) (ret := (some .int)) [.ref a_m, .int p1, .int p2, .int p3, .int p4] (plainFor_of_name (by decide)) rfl (Nat.le_of_ble_eq_true rfl) ?_
  intro p e s m below meth c ls Q hQ hx hb hml hr hts hown hlocks hK hA hZ hP hD hS hl
  have hl : lv_has ls 15 [(0, .ref a_m), (1, .int p1), (2, .int p2), (3, .int p3), (4, .int p4)] := hl
  have hown : s.vm.findClass RX11 = some m.cls := hown
  unfold f_M_cornerOf at hf
  have hgo : ∀ (H : Heap) (locs : List Loc), H = s.heap → va_P D vwCl ((a_m, .inr (11, (.ref a_m_cutRows :: .ref a_m_cutColumns :: .ref a_m_deep :: .ref a_m_wide :: .ref a_m_zonesAhead :: .ref a_m_nameOne :: .ref a_m_nameOther :: .ref a_m_tape :: .int m_taped :: .int m_place :: .int m_fault :: .int m_number :: .int m_levelRead :: .int m_keyRead :: .int m_reads :: .int m_faults :: .int m_cutShort :: .int m_noNumber :: .long m_bottomLat :: .long m_bottomLon :: .ref a_m_edges :: .int m_firstBeside :: .int m_manyBeside :: .ref a_m_dist :: .ref a_m_queue :: .int m_queued :: .int m_boxLevel :: .int m_boxTop :: .int m_boxBottom :: .int m_boxWest :: .int m_boxEast :: .int m_isEarly :: .int m_pieces :: .int m_states :: .ref a_m_pieceLevel :: .ref a_m_pieceKey :: .ref a_m_pieceYear :: .int m_drawnNow :: .ref a_m_drawnKeys :: .ref a_m_kept :: .int m_keptAt :: .ref a_m_noNumbers :: []))) :: (a_m_deep, .inl (ci 0, 5, .inl m_deep)) :: (a_m_wide, .inl (ci 0, 5, .inl m_wide)) :: (a_m_zonesAhead, .inl (ci 0, 45, .inl m_zonesAhead)) :: Rw) H → va_S A s.heap H locs → W p l e ({ frames := 4, cells := 0, slots := 0, locals := 88 } : Room) s m ([.ref a_m, .int p1, .int p2, .int p3, .int p4] : List Value).toArray below meth c H locs 0 0 Q (F0 m 0 ls []) := by
    intro H locs hH hP hS
    subst hH
    refine lv_aload_n (pc := 0) hx hb dX11_cornerOf_0 rfl (lv_at hl 0 rfl) ?_
    refine lv_iload_n (pc := 1) hx hb dX11_cornerOf_1 rfl (lv_at hl 1 rfl) ?_
    refine lv_iload_n (pc := 2) hx hb dX11_cornerOf_2 rfl (lv_at hl 2 rfl) ?_
    obtain ⟨v1, hm3, hf⟩ := q_b1_e hf
    refine q_cVr (pc := 3) (As := [.int p1, .int p2]) (rest := []) (v0 := (some (.int v1))) ⟨hx, hb, hml, hown, hts⟩ hK hA hZ hP hD hS hl.1 [0, 1, 2, 3] 4 rfl ⟨rfl, rfl, rfl⟩ (c_M_rowOf l D ci A sa N (Rw) a_m a_m_cutRows a_m_cutColumns a_m_deep a_m_wide a_m_zonesAhead a_m_nameOne a_m_nameOther a_m_tape a_m_edges a_m_dist a_m_queue a_m_pieceLevel a_m_pieceKey a_m_pieceYear a_m_drawnKeys a_m_kept a_m_noNumbers m_taped m_place m_fault m_number m_levelRead m_keyRead m_reads m_faults m_cutShort m_noNumber m_bottomLat m_bottomLon m_firstBeside m_manyBeside m_queued m_boxLevel m_boxTop m_boxBottom m_boxWest m_boxEast m_isEarly m_pieces m_states m_drawnNow m_keptAt m_deep m_wide m_zonesAhead p1 p2 v1 hm3) 0 rfl rfl (cwV 2 hts gX11_cornerOf_X11_rowOf rfl rfl rfl (by decide +kernel) ⟨Nat.le_of_ble_eq_true rfl, Nat.le_of_ble_eq_true rfl⟩) rfl rfl (Nat.le_of_ble_eq_true rfl) dX11_cornerOf_3 ⟨Nat.zero_le _, Nat.zero_le _⟩ (fun locs hS => ?_)
    refine lv_istore (pc := 6) (lv' := [(5, .int v1), (0, .ref a_m), (1, .int p1), (2, .int p2), (3, .int p3), (4, .int p4)]) hx hb dX11_cornerOf_6 hl (by decide) rfl (fun ls hl => ?_)
    refine lv_iload_n (pc := 8) hx hb dX11_cornerOf_8 rfl (lv_at hl 4 rfl) ?_
    obtain ⟨k23, ek23, hf⟩ := q_j1_e hf
    have J23 : ∀ (v2 : Int32) (H : Heap) (locs : List Loc) (ls : Array Slot), k23 v2 = some r → H = s.heap → va_S A s.heap H locs → lv_has ls 15 [(0, .ref a_m), (1, .int p1), (2, .int p2), (4, .int p4), (5, .int v1)] → W p l e ({ frames := 4, cells := 0, slots := 0, locals := 88 } : Room) s m ([.ref a_m, .int p1, .int p2, .int p3, .int p4] : List Value).toArray below meth c H locs 0 0 Q (F0 m 23 ls [.int v2]) := by
      intro v2 H locs ls hf hHs hS hl
      subst hHs
      have hf := (ek23 v2).symm.trans hf
      refine lv_istore (pc := 23) (lv' := [(6, .int v2), (0, .ref a_m), (1, .int p1), (2, .int p2), (4, .int p4), (5, .int v1)]) hx hb dX11_cornerOf_23 hl (by decide) rfl (fun ls hl => ?_)
      refine lv_aload_n (pc := 25) hx hb dX11_cornerOf_25 rfl (lv_at hl 1 rfl) ?_
      refine lv_iload_n (pc := 26) hx hb dX11_cornerOf_26 rfl (lv_at hl 2 rfl) ?_
      refine lv_iload (pc := 27) hx hb dX11_cornerOf_27 (lv_at hl 5 rfl) ?_
      obtain ⟨v3, hm29, hf⟩ := q_b1_e hf
      refine q_cVr (pc := 29) (As := [.int p1, .int v1]) (rest := []) (v0 := (some (.int v3))) ⟨hx, hb, hml, hown, hts⟩ hK hA hZ hP hD hS hl.1 [0, 1, 2] 4 rfl ⟨rfl, rfl, rfl⟩ (c_M_many l D ci A sa N (Rw) a_m a_m_cutRows a_m_cutColumns a_m_deep a_m_wide a_m_zonesAhead a_m_nameOne a_m_nameOther a_m_tape a_m_edges a_m_dist a_m_queue a_m_pieceLevel a_m_pieceKey a_m_pieceYear a_m_drawnKeys a_m_kept a_m_noNumbers m_taped m_place m_fault m_number m_levelRead m_keyRead m_reads m_faults m_cutShort m_noNumber m_bottomLat m_bottomLon m_firstBeside m_manyBeside m_queued m_boxLevel m_boxTop m_boxBottom m_boxWest m_boxEast m_isEarly m_pieces m_states m_drawnNow m_keptAt m_deep m_wide p1 v1 v3 hm29) 0 rfl rfl (cwV 2 hts gX11_cornerOf_X11_many rfl rfl rfl (by decide +kernel) ⟨Nat.le_of_ble_eq_true rfl, Nat.le_of_ble_eq_true rfl⟩) rfl rfl (Nat.le_of_ble_eq_true rfl) dX11_cornerOf_29 ⟨Nat.zero_le _, Nat.zero_le _⟩ (fun locs hS => ?_)
      refine lv_i2l (pc := 32) hx hb dX11_cornerOf_32 rfl ?_
      obtain ⟨v4, ev4, hf⟩ := q_nm_e hf
      refine q_topl ev4 ?_
      refine lv_lstore (pc := 33) (lv' := [(7, .long v4), (6, .int v2), (0, .ref a_m), (1, .int p1), (2, .int p2), (4, .int p4), (5, .int v1)]) hx hb dX11_cornerOf_33 hl (by decide) rfl (fun ls hl => ?_)
      refine lv_lload (pc := 35) hx hb dX11_cornerOf_35 (lv_at hl 0 rfl) ?_
      refine lv_lconst (pc := 37) (v := 1) hx hb dX11_cornerOf_37 (by decide) ?_
      refine W.lcmp (pc := 38) hx hb dX11_cornerOf_38 ?_
      refine q_if_eq (pc := 39) (tgt := 53) hx hb dX11_cornerOf_39 (by decide) rfl hf (fun hf => ?_) (fun hf => ?_)
      · refine lv_iconst (pc := 53) (v := (-1)) hx hb dX11_cornerOf_53 (by decide) ?_
        obtain rfl := Option.some.inj hf
        rw [hQ]
        exact q_iretr (pc := 54) hx hb hr hlocks rfl hS dX11_cornerOf_54
      · refine lv_aload_n (pc := 42) hx hb dX11_cornerOf_42 rfl (lv_at hl 2 rfl) ?_
        refine lv_iload_n (pc := 43) hx hb dX11_cornerOf_43 rfl (lv_at hl 3 rfl) ?_
        refine lv_iload (pc := 44) hx hb dX11_cornerOf_44 (lv_at hl 1 rfl) ?_
        obtain ⟨v5, hm46, hf⟩ := q_b1_e hf
        refine q_cVr (pc := 46) (As := [.int p1, .int v2]) (rest := []) (v0 := (some (.int v5))) ⟨hx, hb, hml, hown, hts⟩ hK hA hZ hP hD hS hl.1 [0, 1, 2] 4 rfl ⟨rfl, rfl, rfl⟩ (c_M_many l D ci A sa N (Rw) a_m a_m_cutRows a_m_cutColumns a_m_deep a_m_wide a_m_zonesAhead a_m_nameOne a_m_nameOther a_m_tape a_m_edges a_m_dist a_m_queue a_m_pieceLevel a_m_pieceKey a_m_pieceYear a_m_drawnKeys a_m_kept a_m_noNumbers m_taped m_place m_fault m_number m_levelRead m_keyRead m_reads m_faults m_cutShort m_noNumber m_bottomLat m_bottomLon m_firstBeside m_manyBeside m_queued m_boxLevel m_boxTop m_boxBottom m_boxWest m_boxEast m_isEarly m_pieces m_states m_drawnNow m_keptAt m_deep m_wide p1 v2 v5 hm46) 0 rfl rfl (cwV 2 hts gX11_cornerOf_X11_many rfl rfl rfl (by decide +kernel) ⟨Nat.le_of_ble_eq_true rfl, Nat.le_of_ble_eq_true rfl⟩) rfl rfl (Nat.le_of_ble_eq_true rfl) dX11_cornerOf_46 ⟨Nat.zero_le _, Nat.zero_le _⟩ (fun locs hS => ?_)
        refine lv_iconst (pc := 49) (v := 1) hx hb dX11_cornerOf_49 (by decide) ?_
        refine q_icmp_ne (pc := 50) (tgt := 55) hx hb dX11_cornerOf_50 (by decide) rfl hf (fun hf => ?_) (fun hf => ?_)
        · refine lv_aload_n (pc := 55) hx hb dX11_cornerOf_55 rfl (lv_at hl 2 rfl) ?_
          refine lv_iload_n (pc := 56) hx hb dX11_cornerOf_56 rfl (lv_at hl 3 rfl) ?_
          refine lv_iload (pc := 57) hx hb dX11_cornerOf_57 (lv_at hl 1 rfl) ?_
          obtain ⟨v6, hm59, hf⟩ := q_b1_e hf
          refine q_cVr (pc := 59) (As := [.int p1, .int v2]) (rest := []) (v0 := (some (.int v6))) ⟨hx, hb, hml, hown, hts⟩ hK hA hZ hP hD hS hl.1 [0, 1, 2] 4 rfl ⟨rfl, rfl, rfl⟩ (c_M_many l D ci A sa N (Rw) a_m a_m_cutRows a_m_cutColumns a_m_deep a_m_wide a_m_zonesAhead a_m_nameOne a_m_nameOther a_m_tape a_m_edges a_m_dist a_m_queue a_m_pieceLevel a_m_pieceKey a_m_pieceYear a_m_drawnKeys a_m_kept a_m_noNumbers m_taped m_place m_fault m_number m_levelRead m_keyRead m_reads m_faults m_cutShort m_noNumber m_bottomLat m_bottomLon m_firstBeside m_manyBeside m_queued m_boxLevel m_boxTop m_boxBottom m_boxWest m_boxEast m_isEarly m_pieces m_states m_drawnNow m_keptAt m_deep m_wide p1 v2 v6 hm59) 0 rfl rfl (cwV 2 hts gX11_cornerOf_X11_many rfl rfl rfl (by decide +kernel) ⟨Nat.le_of_ble_eq_true rfl, Nat.le_of_ble_eq_true rfl⟩) rfl rfl (Nat.le_of_ble_eq_true rfl) dX11_cornerOf_59 ⟨Nat.zero_le _, Nat.zero_le _⟩ (fun locs hS => ?_)
          refine lv_i2l (pc := 62) hx hb dX11_cornerOf_62 rfl ?_
          obtain ⟨v7, ev7, hf⟩ := q_nm_e hf
          refine q_topl ev7 ?_
          refine lv_lstore (pc := 63) (lv' := [(9, .long v7), (7, .long v4), (6, .int v2), (0, .ref a_m), (1, .int p1), (2, .int p2), (4, .int p4), (5, .int v1)]) hx hb dX11_cornerOf_63 hl (by decide) rfl (fun ls hl => ?_)
          refine lv_aload_n (pc := 65) hx hb dX11_cornerOf_65 rfl (lv_at hl 3 rfl) ?_
          refine lv_iload_n (pc := 66) hx hb dX11_cornerOf_66 rfl (lv_at hl 4 rfl) ?_
          refine lv_iload_n (pc := 67) hx hb dX11_cornerOf_67 rfl (lv_at hl 5 rfl) ?_
          obtain ⟨v8, hm68, hf⟩ := q_b1_e hf
          refine q_cVr (pc := 68) (As := [.int p1, .int p2]) (rest := []) (v0 := (some (.int v8))) ⟨hx, hb, hml, hown, hts⟩ hK hA hZ hP hD hS hl.1 [0, 1, 2, 3] 4 rfl ⟨rfl, rfl, rfl⟩ (c_M_placeOf l D ci A sa N (Rw) a_m a_m_cutRows a_m_cutColumns a_m_deep a_m_wide a_m_zonesAhead a_m_nameOne a_m_nameOther a_m_tape a_m_edges a_m_dist a_m_queue a_m_pieceLevel a_m_pieceKey a_m_pieceYear a_m_drawnKeys a_m_kept a_m_noNumbers m_taped m_place m_fault m_number m_levelRead m_keyRead m_reads m_faults m_cutShort m_noNumber m_bottomLat m_bottomLon m_firstBeside m_manyBeside m_queued m_boxLevel m_boxTop m_boxBottom m_boxWest m_boxEast m_isEarly m_pieces m_states m_drawnNow m_keptAt m_deep m_wide m_zonesAhead p1 p2 v8 hm68) 0 rfl rfl (cwV 2 hts gX11_cornerOf_X11_placeOf rfl rfl rfl (by decide +kernel) ⟨Nat.le_of_ble_eq_true rfl, Nat.le_of_ble_eq_true rfl⟩) rfl rfl (Nat.le_of_ble_eq_true rfl) dX11_cornerOf_68 ⟨Nat.zero_le _, Nat.zero_le _⟩ (fun locs hS => ?_)
          refine lv_iload (pc := 71) hx hb dX11_cornerOf_71 (lv_at hl 6 rfl) ?_
          refine lv_iadd (pc := 73) hx hb dX11_cornerOf_73 ?_
          refine lv_i2l (pc := 74) hx hb dX11_cornerOf_74 rfl ?_
          refine lv_lload (pc := 75) hx hb dX11_cornerOf_75 (lv_at hl 0 rfl) ?_
          refine lv_lmul (pc := 77) hx hb dX11_cornerOf_77 ?_
          obtain ⟨v9, ev9, hf⟩ := q_nm_e hf
          refine q_topl ev9 ?_
          refine lv_lstore (pc := 78) (lv' := [(11, .long v9), (9, .long v7), (7, .long v4), (6, .int v2), (0, .ref a_m), (1, .int p1), (2, .int p2), (4, .int p4), (5, .int v1)]) hx hb dX11_cornerOf_78 hl (by decide) rfl (fun ls hl => ?_)
          refine lv_lload (pc := 80) hx hb dX11_cornerOf_80 (lv_at hl 0 rfl) ?_
          refine lv_lload (pc := 82) hx hb dX11_cornerOf_82 (lv_at hl 2 rfl) ?_
          refine q_lrem (pc := 84) hx hb dX11_cornerOf_84 hf (fun v10 hf => ?_)
          refine lv_lconst (pc := 85) (v := 0) hx hb dX11_cornerOf_85 (by decide) ?_
          refine W.lcmp (pc := 86) hx hb dX11_cornerOf_86 ?_
          refine q_if_eq (pc := 87) (tgt := 92) hx hb dX11_cornerOf_87 (by decide) rfl hf (fun hf => ?_) (fun hf => ?_)
          · refine lv_lload (pc := 92) hx hb dX11_cornerOf_92 (lv_at hl 0 rfl) ?_
            refine lv_lload (pc := 94) hx hb dX11_cornerOf_94 (lv_at hl 2 rfl) ?_
            refine q_ldiv (pc := 96) hx hb dX11_cornerOf_96 hf (fun v11 hf => ?_)
            refine lv_lstore (pc := 97) (lv' := [(13, .long v11), (11, .long v9), (9, .long v7), (7, .long v4), (6, .int v2), (0, .ref a_m), (1, .int p1), (2, .int p2), (4, .int p4), (5, .int v1)]) hx hb dX11_cornerOf_97 hl (by decide) rfl (fun ls hl => ?_)
            refine lv_aload_n (pc := 99) hx hb dX11_cornerOf_99 rfl (lv_at hl 5 rfl) ?_
            refine lv_iload_n (pc := 100) hx hb dX11_cornerOf_100 rfl (lv_at hl 6 rfl) ?_
            refine lv_iload (pc := 101) hx hb dX11_cornerOf_101 (lv_at hl 4 rfl) ?_
            refine lv_iload (pc := 103) hx hb dX11_cornerOf_103 (lv_at hl 8 rfl) ?_
            obtain ⟨k126, ek126, hf⟩ := q_j1_e hf
            have J126 : ∀ (v12 : Int64) (H : Heap) (locs : List Loc) (ls : Array Slot), k126 v12 = some r → H = s.heap → va_S A s.heap H locs → lv_has ls 15 [] → W p l e ({ frames := 4, cells := 0, slots := 0, locals := 88 } : Room) s m ([.ref a_m, .int p1, .int p2, .int p3, .int p4] : List Value).toArray below meth c H locs 0 0 Q (F0 m 126 ls [.long v12, .int v2, .int p1, .ref a_m]) := by
              intro v12 H locs ls hf hHs hS hl
              subst hHs
              have hf := (ek126 v12).symm.trans hf
              refine lv_l2i (pc := 126) hx hb dX11_cornerOf_126 rfl ?_
              obtain ⟨v13, hm127, hf⟩ := q_b1_e hf
              refine q_cVr (pc := 127) (As := [.int p1, .int v2, .int v12.toInt32]) (rest := []) (v0 := (some (.int v13))) ⟨hx, hb, hml, hown, hts⟩ hK hA hZ hP hD hS hl.1 [0, 1, 2, 3] 4 rfl ⟨rfl, rfl, rfl⟩ (c_M_keyOf l D ci A sa N (Rw) a_m a_m_cutRows a_m_cutColumns a_m_deep a_m_wide a_m_zonesAhead a_m_nameOne a_m_nameOther a_m_tape a_m_edges a_m_dist a_m_queue a_m_pieceLevel a_m_pieceKey a_m_pieceYear a_m_drawnKeys a_m_kept a_m_noNumbers m_taped m_place m_fault m_number m_levelRead m_keyRead m_reads m_faults m_cutShort m_noNumber m_bottomLat m_bottomLon m_firstBeside m_manyBeside m_queued m_boxLevel m_boxTop m_boxBottom m_boxWest m_boxEast m_isEarly m_pieces m_states m_drawnNow m_keptAt m_deep m_wide m_zonesAhead p1 v2 v12.toInt32 v13 hm127) 0 rfl rfl (cwV 3 hts gX11_cornerOf_X11_keyOf rfl rfl rfl (by decide +kernel) ⟨Nat.le_of_ble_eq_true rfl, Nat.le_of_ble_eq_true rfl⟩) rfl rfl (Nat.le_of_ble_eq_true rfl) dX11_cornerOf_127 ⟨Nat.zero_le _, Nat.zero_le _⟩ (fun locs hS => ?_)
              obtain rfl := Option.some.inj hf
              rw [hQ]
              exact q_iretr (pc := 130) hx hb hr hlocks rfl hS dX11_cornerOf_130
            refine q_if_ne (pc := 105) (tgt := 121) hx hb dX11_cornerOf_105 (by decide) rfl hf (fun hf => ?_) (fun hf => ?_)
            · refine lv_lload (pc := 121) hx hb dX11_cornerOf_121 (lv_at hl 0 rfl) ?_
              refine lv_lload (pc := 123) hx hb dX11_cornerOf_123 (lv_at hl 2 rfl) ?_
              refine q_lrem (pc := 125) hx hb dX11_cornerOf_125 hf (fun v14 hf => ?_)
              exact J126 v14 _ _ _ hf rfl hS (lv_sub hl [] rfl)
            · refine lv_lload (pc := 108) hx hb dX11_cornerOf_108 (lv_at hl 0 rfl) ?_
              refine lv_lload (pc := 110) hx hb dX11_cornerOf_110 (lv_at hl 2 rfl) ?_
              refine lv_ladd (pc := 112) hx hb dX11_cornerOf_112 ?_
              refine lv_lconst (pc := 113) (v := 1) hx hb dX11_cornerOf_113 (by decide) ?_
              refine lv_lsub (pc := 114) hx hb dX11_cornerOf_114 ?_
              refine lv_lload (pc := 115) hx hb dX11_cornerOf_115 (lv_at hl 2 rfl) ?_
              refine q_lrem (pc := 117) hx hb dX11_cornerOf_117 hf (fun v15 hf => ?_)
              refine lv_goto (pc := 118) (tgt := 126) hx hb dX11_cornerOf_118 (by decide) ?_
              exact J126 v15 _ _ _ hf rfl hS (lv_sub hl [] rfl)
          · refine lv_iconst (pc := 90) (v := (-1)) hx hb dX11_cornerOf_90 (by decide) ?_
            obtain rfl := Option.some.inj hf
            rw [hQ]
            exact q_iretr (pc := 91) hx hb hr hlocks rfl hS dX11_cornerOf_91
        · refine lv_iconst (pc := 53) (v := (-1)) hx hb dX11_cornerOf_53 (by decide) ?_
          obtain rfl := Option.some.inj hf
          rw [hQ]
          exact q_iretr (pc := 54) hx hb hr hlocks rfl hS dX11_cornerOf_54
    refine q_if_ne (pc := 9) (tgt := 19) hx hb dX11_cornerOf_9 (by decide) rfl hf (fun hf => ?_) (fun hf => ?_)
    · refine lv_iload (pc := 19) hx hb dX11_cornerOf_19 (lv_at hl 0 rfl) ?_
      refine lv_iconst (pc := 21) (v := 1) hx hb dX11_cornerOf_21 (by decide) ?_
      refine lv_iadd (pc := 22) hx hb dX11_cornerOf_22 ?_
      exact J23 (v1 + 1) _ _ _ hf rfl hS (lv_sub hl [1, 2, 3, 5, 0] rfl)
    · refine lv_iload (pc := 12) hx hb dX11_cornerOf_12 (lv_at hl 0 rfl) ?_
      refine lv_iconst (pc := 14) (v := 1) hx hb dX11_cornerOf_14 (by decide) ?_
      refine lv_isub (pc := 15) hx hb dX11_cornerOf_15 ?_
      refine lv_goto (pc := 16) (tgt := 23) hx hb dX11_cornerOf_16 (by decide) ?_
      exact J23 (v1 - 1) _ _ _ hf rfl hS (lv_sub hl [1, 2, 3, 5, 0] rfl)
  exact hgo _ _ rfl hP hS
/-! X11_corners -/
set_option maxRecDepth 100000 in
set_option maxHeartbeats 4000000 in
theorem c_M_corners (l : Launch) (D : va_G) (ci : Nat → ClassId) (A : Nat → Prop) (sa : Nat → Nat) (N : Nat) (Rw : va_W) (a_m : Nat) (a_m_cutRows : Nat) (a_m_cutColumns : Nat) (a_m_deep : Nat) (a_m_wide : Nat) (a_m_zonesAhead : Nat) (a_m_nameOne : Nat) (a_m_nameOther : Nat) (a_m_tape : Nat) (a_m_edges : Nat) (a_m_dist : Nat) (a_m_queue : Nat) (a_m_pieceLevel : Nat) (a_m_pieceKey : Nat) (a_m_pieceYear : Nat) (a_m_drawnKeys : Nat) (a_m_kept : Nat) (a_m_noNumbers : Nat) (m_taped : Int32) (m_place : Int32) (m_fault : Int32) (m_number : Int32) (m_levelRead : Int32) (m_keyRead : Int32) (m_reads : Int32) (m_faults : Int32) (m_cutShort : Int32) (m_noNumber : Int32) (m_bottomLat : Int64) (m_bottomLon : Int64) (m_firstBeside : Int32) (m_manyBeside : Int32) (m_queued : Int32) (m_boxLevel : Int32) (m_boxTop : Int32) (m_boxBottom : Int32) (m_boxWest : Int32) (m_boxEast : Int32) (m_isEarly : Int32) (m_pieces : Int32) (m_states : Int32) (m_drawnNow : Int32) (m_keptAt : Int32) (m_deep : Nat → Int32) (m_wide : Nat → Int32) (m_zonesAhead : Nat → Int32) (p1 : Int32) (p2 : Int32) (p3 : Int32) (r : Int32) (hf : f_M_corners N m_deep m_wide m_zonesAhead p1 p2 p3 = some r) : Met l yX11_corners wsX11_corners ({ frames := 5, cells := 0, slots := 0, locals := 122 }) (va_Pc [.ref a_m, .int p1, .int p2, .int p3] (q_N D ci A sa ((a_m, .inr (11, (.ref a_m_cutRows :: .ref a_m_cutColumns :: .ref a_m_deep :: .ref a_m_wide :: .ref a_m_zonesAhead :: .ref a_m_nameOne :: .ref a_m_nameOther :: .ref a_m_tape :: .int m_taped :: .int m_place :: .int m_fault :: .int m_number :: .int m_levelRead :: .int m_keyRead :: .int m_reads :: .int m_faults :: .int m_cutShort :: .int m_noNumber :: .long m_bottomLat :: .long m_bottomLon :: .ref a_m_edges :: .int m_firstBeside :: .int m_manyBeside :: .ref a_m_dist :: .ref a_m_queue :: .int m_queued :: .int m_boxLevel :: .int m_boxTop :: .int m_boxBottom :: .int m_boxWest :: .int m_boxEast :: .int m_isEarly :: .int m_pieces :: .int m_states :: .ref a_m_pieceLevel :: .ref a_m_pieceKey :: .ref a_m_pieceYear :: .int m_drawnNow :: .ref a_m_drawnKeys :: .ref a_m_kept :: .int m_keptAt :: .ref a_m_noNumbers :: []))) :: (a_m_deep, .inl (ci 0, 5, .inl m_deep)) :: (a_m_wide, .inl (ci 0, 5, .inl m_wide)) :: (a_m_zonesAhead, .inl (ci 0, 45, .inl m_zonesAhead)) :: Rw))) (q_R (some (.int r))) 0 0 A := by
  refine q_ofW (cc := cX11_corners) (maxL := 11) (ret := (some .int)) [.ref a_m, .int p1, .int p2, .int p3] (plainFor_of_name (by decide)) rfl (Nat.le_of_ble_eq_true rfl) ?_
  intro p e s m below meth c ls Q hQ hx hb hml hr hts hown hlocks hK hA hZ hP hD hS hl
  have hl : lv_has ls 11 [(0, .ref a_m), (1, .int p1), (2, .int p2), (3, .int p3)] := hl
  have hown : s.vm.findClass RX11 = some m.cls := hown
  unfold f_M_corners at hf
  have hgo : ∀ (H : Heap) (locs : List Loc), H = s.heap → va_P D vwCl ((a_m, .inr (11, (.ref a_m_cutRows :: .ref a_m_cutColumns :: .ref a_m_deep :: .ref a_m_wide :: .ref a_m_zonesAhead :: .ref a_m_nameOne :: .ref a_m_nameOther :: .ref a_m_tape :: .int m_taped :: .int m_place :: .int m_fault :: .int m_number :: .int m_levelRead :: .int m_keyRead :: .int m_reads :: .int m_faults :: .int m_cutShort :: .int m_noNumber :: .long m_bottomLat :: .long m_bottomLon :: .ref a_m_edges :: .int m_firstBeside :: .int m_manyBeside :: .ref a_m_dist :: .ref a_m_queue :: .int m_queued :: .int m_boxLevel :: .int m_boxTop :: .int m_boxBottom :: .int m_boxWest :: .int m_boxEast :: .int m_isEarly :: .int m_pieces :: .int m_states :: .ref a_m_pieceLevel :: .ref a_m_pieceKey :: .ref a_m_pieceYear :: .int m_drawnNow :: .ref a_m_drawnKeys :: .ref a_m_kept :: .int m_keptAt :: .ref a_m_noNumbers :: []))) :: (a_m_deep, .inl (ci 0, 5, .inl m_deep)) :: (a_m_wide, .inl (ci 0, 5, .inl m_wide)) :: (a_m_zonesAhead, .inl (ci 0, 45, .inl m_zonesAhead)) :: Rw) H → va_S A s.heap H locs → W p l e ({ frames := 5, cells := 0, slots := 0, locals := 122 } : Room) s m ([.ref a_m, .int p1, .int p2, .int p3] : List Value).toArray below meth c H locs 0 0 Q (F0 m 0 ls []) := by
    intro H locs hH hP hS
    subst hH
    refine lv_aload_n (pc := 0) hx hb dX11_corners_0 rfl (lv_at hl 0 rfl) ?_
    refine lv_iload_n (pc := 1) hx hb dX11_corners_1 rfl (lv_at hl 1 rfl) ?_
    refine lv_iload_n (pc := 2) hx hb dX11_corners_2 rfl (lv_at hl 2 rfl) ?_
    obtain ⟨v1, hm3, hf⟩ := q_b1_e hf
    refine q_cVr (pc := 3) (As := [.int p1, .int p2]) (rest := []) (v0 := (some (.int v1))) ⟨hx, hb, hml, hown, hts⟩ hK hA hZ hP hD hS hl.1 [0, 1, 2, 3] 4 rfl ⟨rfl, rfl, rfl⟩ (c_M_isKey l D ci A sa N (Rw) a_m a_m_cutRows a_m_cutColumns a_m_deep a_m_wide a_m_zonesAhead a_m_nameOne a_m_nameOther a_m_tape a_m_edges a_m_dist a_m_queue a_m_pieceLevel a_m_pieceKey a_m_pieceYear a_m_drawnKeys a_m_kept a_m_noNumbers m_taped m_place m_fault m_number m_levelRead m_keyRead m_reads m_faults m_cutShort m_noNumber m_bottomLat m_bottomLon m_firstBeside m_manyBeside m_queued m_boxLevel m_boxTop m_boxBottom m_boxWest m_boxEast m_isEarly m_pieces m_states m_drawnNow m_keptAt m_deep m_wide m_zonesAhead p1 p2 v1 hm3) 0 rfl rfl (cwV 2 hts gX11_corners_X11_isKey rfl rfl rfl (by decide +kernel) ⟨Nat.le_of_ble_eq_true rfl, Nat.le_of_ble_eq_true rfl⟩) rfl rfl (Nat.le_of_ble_eq_true rfl) dX11_corners_3 ⟨Nat.zero_le _, Nat.zero_le _⟩ (fun locs hS => ?_)
    refine q_if_eq (pc := 6) (tgt := 14) hx hb dX11_corners_6 (by decide) rfl hf (fun hf => ?_) (fun hf => ?_)
    · refine lv_iconst (pc := 14) (v := (-1)) hx hb dX11_corners_14 (by decide) ?_
      obtain rfl := Option.some.inj hf
      rw [hQ]
      exact q_iretr (pc := 15) hx hb hr hlocks rfl hS dX11_corners_15
    · refine lv_iload_n (pc := 9) hx hb dX11_corners_9 rfl (lv_at hl 3 rfl) ?_
      refine lv_iconst (pc := 10) (v := (-1)) hx hb dX11_corners_10 (by decide) ?_
      refine q_icmp_ge (pc := 11) (tgt := 16) hx hb dX11_corners_11 (by decide) rfl hf (fun hf => ?_) (fun hf => ?_)
      · refine lv_iload_n (pc := 16) hx hb dX11_corners_16 rfl (lv_at hl 3 rfl) ?_
        refine lv_istore (pc := 17) (lv' := [(4, .int p3), (0, .ref a_m), (1, .int p1), (2, .int p2), (3, .int p3)]) hx hb dX11_corners_17 hl (by decide) rfl (fun ls hl => ?_)
        refine lv_iconst (pc := 19) (v := 0) hx hb dX11_corners_19 (by decide) ?_
        obtain ⟨v2, ev2, hf⟩ := q_nm_e hf
        refine q_topi ev2 ?_
        refine lv_istore (pc := 20) (lv' := [(5, .int v2), (4, .int p3), (0, .ref a_m), (1, .int p1), (2, .int p2), (3, .int p3)]) hx hb dX11_corners_20 hl (by decide) rfl (fun ls hl => ?_)
        refine lv_iconst (pc := 22) (v := 0) hx hb dX11_corners_22 (by decide) ?_
        obtain ⟨v3, ev3, hf⟩ := q_nm_e hf
        refine q_topi ev3 ?_
        refine lv_istore (pc := 23) (lv' := [(6, .int v3), (5, .int v2), (4, .int p3), (0, .ref a_m), (1, .int p1), (2, .int p2), (3, .int p3)]) hx hb dX11_corners_23 hl (by decide) rfl (fun ls hl => ?_)
        obtain ⟨k25, o25_, ek25, hm25, hk25⟩ := q_s1_k hf
        have JE25 : ∀ (v7 : Int32) (H : Heap) (locs : List Loc) (ls : Array Slot), k25 v7 = some r → H = s.heap → va_S A s.heap H locs → lv_has ls 11 [(3, .int p3), (5, .int v7)] → W p l e ({ frames := 5, cells := 0, slots := 0, locals := 122 } : Room) s m ([.ref a_m, .int p1, .int p2, .int p3] : List Value).toArray below meth c H locs 0 0 Q (F0 m 178 ls []) := by
          intro v7 H locs ls hf hHs hS hl
          subst hHs
          have hf := (ek25 v7).symm.trans hf
          refine lv_iload_n (pc := 178) hx hb dX11_corners_178 rfl (lv_at hl 0 rfl) ?_
          refine lv_iconst (pc := 179) (v := (-1)) hx hb dX11_corners_179 (by decide) ?_
          refine q_icmp_ne (pc := 180) (tgt := 188) hx hb dX11_corners_180 (by decide) rfl hf (fun hf => ?_) (fun hf => ?_)
          · refine lv_bipush (pc := 188) (v := (-2)) hx hb dX11_corners_188 (by decide) ?_
            obtain rfl := Option.some.inj hf
            rw [hQ]
            exact q_iretr (pc := 190) hx hb hr hlocks rfl hS dX11_corners_190
          · refine lv_iload (pc := 183) hx hb dX11_corners_183 (lv_at hl 1 rfl) ?_
            refine lv_goto (pc := 185) (tgt := 190) hx hb dX11_corners_185 (by decide) ?_
            obtain rfl := Option.some.inj hf
            rw [hQ]
            exact q_iretr (pc := 190) hx hb hr hlocks rfl hS dX11_corners_190
        have LP25 : ∀ (n25 : Nat) (v4 : Int32) (v5 : Int32) (v6 : Int32) (H : Heap) (locs : List Loc) (ls : Array Slot), f_M_corners_L25 N m_deep m_wide m_zonesAhead p1 p2 p3 n25 v4 v5 v6 = some o25_ → H = s.heap → va_S A s.heap H locs → lv_has ls 11 [(0, .ref a_m), (1, .int p1), (2, .int p2), (3, .int p3), (4, .int v4), (5, .int v5), (6, .int v6)] → W p l e ({ frames := 5, cells := 0, slots := 0, locals := 122 } : Room) s m ([.ref a_m, .int p1, .int p2, .int p3] : List Value).toArray below meth c H locs 0 0 Q (F0 m 25 ls []) := by
          intro n25
          induction n25 with
          | zero => intro v4 v5 v6 H locs ls hf; rw [f_M_corners_L25] at hf; cases hf
          | succ n25 ih25 =>
            intro v4 v5 v6 H locs ls hf hHs hS hl
            subst hHs
            rw [f_M_corners_L25] at hf
            refine lv_iload (pc := 25) hx hb dX11_corners_25 (lv_at hl 6 rfl) ?_
            refine lv_iconst (pc := 27) (v := 3) hx hb dX11_corners_27 (by decide) ?_
            refine q_icmp_ge (pc := 28) (tgt := 178) hx hb dX11_corners_28 (by decide) rfl hf (fun hf => ?_) (fun hf => ?_)
            · obtain rfl := Option.some.inj hf
              exact JE25 v5 _ _ _ hk25 rfl hS (lv_sub hl [3, 5] rfl)
            · refine lv_aload_n (pc := 31) hx hb dX11_corners_31 rfl (lv_at hl 0 rfl) ?_
              refine lv_iload_n (pc := 32) hx hb dX11_corners_32 rfl (lv_at hl 1 rfl) ?_
              refine lv_iload_n (pc := 33) hx hb dX11_corners_33 rfl (lv_at hl 2 rfl) ?_
              refine lv_iload (pc := 34) hx hb dX11_corners_34 (lv_at hl 6 rfl) ?_
              refine lv_iconst (pc := 36) (v := 0) hx hb dX11_corners_36 (by decide) ?_
              obtain ⟨v8, hm37, hf⟩ := q_b1_e hf
              refine q_cVr (pc := 37) (As := [.int p1, .int p2, .int v6, .int 0]) (rest := []) (v0 := (some (.int v8))) ⟨hx, hb, hml, hown, hts⟩ hK hA hZ hP hD hS hl.1 [0, 1, 2, 3] 4 rfl ⟨rfl, rfl, rfl⟩ (c_M_cornerOf l D ci A sa N (Rw) a_m a_m_cutRows a_m_cutColumns a_m_deep a_m_wide a_m_zonesAhead a_m_nameOne a_m_nameOther a_m_tape a_m_edges a_m_dist a_m_queue a_m_pieceLevel a_m_pieceKey a_m_pieceYear a_m_drawnKeys a_m_kept a_m_noNumbers m_taped m_place m_fault m_number m_levelRead m_keyRead m_reads m_faults m_cutShort m_noNumber m_bottomLat m_bottomLon m_firstBeside m_manyBeside m_queued m_boxLevel m_boxTop m_boxBottom m_boxWest m_boxEast m_isEarly m_pieces m_states m_drawnNow m_keptAt m_deep m_wide m_zonesAhead p1 p2 v6 0 v8 hm37) 0 rfl rfl (cwV 4 hts gX11_corners_X11_cornerOf rfl rfl rfl (by decide +kernel) ⟨Nat.le_of_ble_eq_true rfl, Nat.le_of_ble_eq_true rfl⟩) rfl rfl (Nat.le_of_ble_eq_true rfl) dX11_corners_37 ⟨Nat.zero_le _, Nat.zero_le _⟩ (fun locs hS => ?_)
              refine lv_istore (pc := 40) (lv' := [(7, .int v8), (0, .ref a_m), (1, .int p1), (2, .int p2), (3, .int p3), (4, .int v4), (5, .int v5), (6, .int v6)]) hx hb dX11_corners_40 hl (by decide) rfl (fun ls hl => ?_)
              refine lv_aload_n (pc := 42) hx hb dX11_corners_42 rfl (lv_at hl 1 rfl) ?_
              refine lv_iload_n (pc := 43) hx hb dX11_corners_43 rfl (lv_at hl 2 rfl) ?_
              refine lv_iload_n (pc := 44) hx hb dX11_corners_44 rfl (lv_at hl 3 rfl) ?_
              refine lv_iload (pc := 45) hx hb dX11_corners_45 (lv_at hl 7 rfl) ?_
              refine lv_iconst (pc := 47) (v := 1) hx hb dX11_corners_47 (by decide) ?_
              obtain ⟨v9, hm48, hf⟩ := q_b1_e hf
              refine q_cVr (pc := 48) (As := [.int p1, .int p2, .int v6, .int 1]) (rest := []) (v0 := (some (.int v9))) ⟨hx, hb, hml, hown, hts⟩ hK hA hZ hP hD hS hl.1 [0, 1, 2, 3] 4 rfl ⟨rfl, rfl, rfl⟩ (c_M_cornerOf l D ci A sa N (Rw) a_m a_m_cutRows a_m_cutColumns a_m_deep a_m_wide a_m_zonesAhead a_m_nameOne a_m_nameOther a_m_tape a_m_edges a_m_dist a_m_queue a_m_pieceLevel a_m_pieceKey a_m_pieceYear a_m_drawnKeys a_m_kept a_m_noNumbers m_taped m_place m_fault m_number m_levelRead m_keyRead m_reads m_faults m_cutShort m_noNumber m_bottomLat m_bottomLon m_firstBeside m_manyBeside m_queued m_boxLevel m_boxTop m_boxBottom m_boxWest m_boxEast m_isEarly m_pieces m_states m_drawnNow m_keptAt m_deep m_wide m_zonesAhead p1 p2 v6 1 v9 hm48) 0 rfl rfl (cwV 4 hts gX11_corners_X11_cornerOf rfl rfl rfl (by decide +kernel) ⟨Nat.le_of_ble_eq_true rfl, Nat.le_of_ble_eq_true rfl⟩) rfl rfl (Nat.le_of_ble_eq_true rfl) dX11_corners_48 ⟨Nat.zero_le _, Nat.zero_le _⟩ (fun locs hS => ?_)
              refine lv_istore (pc := 51) (lv' := [(8, .int v9), (7, .int v8), (0, .ref a_m), (1, .int p1), (2, .int p2), (3, .int p3), (4, .int v4), (5, .int v5), (6, .int v6)]) hx hb dX11_corners_51 hl (by decide) rfl (fun ls hl => ?_)
              refine lv_iload (pc := 53) hx hb dX11_corners_53 (lv_at hl 1 rfl) ?_
              refine lv_iconst (pc := 55) (v := (-1)) hx hb dX11_corners_55 (by decide) ?_
              obtain ⟨k64, ek64, hf⟩ := q_j1_e hf
              have J64 : ∀ (v10 : Int32) (H : Heap) (locs : List Loc) (ls : Array Slot), k64 v10 = some o25_ → H = s.heap → va_S A s.heap H locs → lv_has ls 11 [(0, .ref a_m), (1, .int p1), (2, .int p2), (3, .int p3), (4, .int v4), (5, .int v5), (6, .int v6), (7, .int v8), (8, .int v9)] → W p l e ({ frames := 5, cells := 0, slots := 0, locals := 122 } : Room) s m ([.ref a_m, .int p1, .int p2, .int p3] : List Value).toArray below meth c H locs 0 0 Q (F0 m 64 ls [.int v10]) := by
                intro v10 H locs ls hf hHs hS hl
                subst hHs
                have hf := (ek64 v10).symm.trans hf
                refine lv_iload (pc := 64) hx hb dX11_corners_64 (lv_at hl 8 rfl) ?_
                refine lv_iconst (pc := 66) (v := (-1)) hx hb dX11_corners_66 (by decide) ?_
                obtain ⟨k75, ek75, hf⟩ := q_j1_e hf
                have J75 : ∀ (v11 : Int32) (H : Heap) (locs : List Loc) (ls : Array Slot), k75 v11 = some o25_ → H = s.heap → va_S A s.heap H locs → lv_has ls 11 [(0, .ref a_m), (1, .int p1), (2, .int p2), (3, .int p3), (4, .int v4), (5, .int v5), (6, .int v6), (7, .int v8), (8, .int v9)] → W p l e ({ frames := 5, cells := 0, slots := 0, locals := 122 } : Room) s m ([.ref a_m, .int p1, .int p2, .int p3] : List Value).toArray below meth c H locs 0 0 Q (F0 m 75 ls [.int v11, .int v10]) := by
                  intro v11 H locs ls hf hHs hS hl
                  subst hHs
                  have hf := (ek75 v11).symm.trans hf
                  refine lv_iadd (pc := 75) hx hb dX11_corners_75 ?_
                  obtain ⟨v12, ev12, hf⟩ := q_nm_e hf
                  refine q_topi ev12 ?_
                  refine lv_istore (pc := 76) (lv' := [(9, .int v12), (0, .ref a_m), (1, .int p1), (2, .int p2), (3, .int p3), (4, .int v4), (5, .int v5), (6, .int v6), (7, .int v8), (8, .int v9)]) hx hb dX11_corners_76 hl (by decide) rfl (fun ls hl => ?_)
                  refine lv_iload (pc := 78) hx hb dX11_corners_78 (lv_at hl 5 rfl) ?_
                  refine lv_i2l (pc := 80) hx hb dX11_corners_80 rfl ?_
                  refine lv_lconst (pc := 81) (v := 0) hx hb dX11_corners_81 (by decide) ?_
                  refine lv_iload (pc := 82) hx hb dX11_corners_82 (lv_at hl 0 rfl) ?_
                  refine lv_iconst (pc := 84) (v := 1) hx hb dX11_corners_84 (by decide) ?_
                  refine lv_isub (pc := 85) hx hb dX11_corners_85 ?_
                  refine lv_i2l (pc := 86) hx hb dX11_corners_86 rfl ?_
                  obtain ⟨v13, hm87, hf⟩ := q_b1_e hf
                  refine q_cSr (pc := 87) (As := [.long v4.toInt64, .long 0, .long (v12 - 1).toInt64]) (rest := []) (v0 := (some (.int v13))) ⟨hx, hb, hml, hown, hts⟩ hK hA hZ hP hD hS hl.1 [] 4 rfl ⟨rfl, rfl, rfl⟩ (c_M_in l D ci A sa N (Rw) v4.toInt64 0 ((v12 - 1).toInt64) v13 hm87) (va_cwS 3 hts gX11_corners_X11_in rfl rfl rfl (by decide +kernel) ⟨Nat.le_of_ble_eq_true rfl, Nat.le_of_ble_eq_true rfl⟩) rfl rfl (Nat.le_of_ble_eq_true rfl) dX11_corners_87 ⟨Nat.zero_le _, Nat.zero_le _⟩ (fun locs hS => ?_)
                  refine q_if_eq (pc := 90) (tgt := 146) hx hb dX11_corners_90 (by decide) rfl hf (fun hf => ?_) (fun hf => ?_)
                  · refine lv_iload (pc := 146) hx hb dX11_corners_146 (lv_at hl 5 rfl) ?_
                    refine lv_iload_n (pc := 148) hx hb dX11_corners_148 rfl (lv_at hl 4 rfl) ?_
                    refine lv_iconst (pc := 149) (v := (-1)) hx hb dX11_corners_149 (by decide) ?_
                    obtain ⟨k159, ek159, hf⟩ := q_j1_e hf
                    have J159 : ∀ (v14 : Int32) (H : Heap) (locs : List Loc) (ls : Array Slot), k159 v14 = some o25_ → H = s.heap → va_S A s.heap H locs → lv_has ls 11 [(0, .ref a_m), (1, .int p1), (2, .int p2), (3, .int p3), (5, .int v5), (6, .int v6), (9, .int v12)] → W p l e ({ frames := 5, cells := 0, slots := 0, locals := 122 } : Room) s m ([.ref a_m, .int p1, .int p2, .int p3] : List Value).toArray below meth c H locs 0 0 Q (F0 m 159 ls [.int v14, .int v4]) := by
                      intro v14 H locs ls hf hHs hS hl
                      subst hHs
                      have hf := (ek159 v14).symm.trans hf
                      refine lv_isub (pc := 159) hx hb dX11_corners_159 ?_
                      obtain ⟨v15, ev15, hf⟩ := q_nm_e hf
                      refine q_topi ev15 ?_
                      refine lv_istore (pc := 160) (lv' := [(4, .int v15), (0, .ref a_m), (1, .int p1), (2, .int p2), (3, .int p3), (5, .int v5), (6, .int v6), (9, .int v12)]) hx hb dX11_corners_160 hl (by decide) rfl (fun ls hl => ?_)
                      refine lv_iload (pc := 162) hx hb dX11_corners_162 (lv_at hl 5 rfl) ?_
                      refine lv_iload (pc := 164) hx hb dX11_corners_164 (lv_at hl 7 rfl) ?_
                      refine lv_iadd (pc := 166) hx hb dX11_corners_166 ?_
                      obtain ⟨v16, ev16, hf⟩ := q_nm_e hf
                      refine q_topi ev16 ?_
                      refine lv_istore (pc := 167) (lv' := [(5, .int v16), (4, .int v15), (0, .ref a_m), (1, .int p1), (2, .int p2), (3, .int p3), (6, .int v6), (9, .int v12)]) hx hb dX11_corners_167 hl (by decide) rfl (fun ls hl => ?_)
                      refine lv_iload (pc := 169) hx hb dX11_corners_169 (lv_at hl 6 rfl) ?_
                      refine lv_iconst (pc := 171) (v := 2) hx hb dX11_corners_171 (by decide) ?_
                      refine lv_iadd (pc := 172) hx hb dX11_corners_172 ?_
                      obtain ⟨v17, ev17, hf⟩ := q_nm_e hf
                      refine q_topi ev17 ?_
                      refine lv_istore (pc := 173) (lv' := [(6, .int v17), (5, .int v16), (4, .int v15), (0, .ref a_m), (1, .int p1), (2, .int p2), (3, .int p3), (9, .int v12)]) hx hb dX11_corners_173 hl (by decide) rfl (fun ls hl => ?_)
                      refine lv_goto (pc := 175) (tgt := 25) hx hb dX11_corners_175 (by decide) ?_
                      exact ih25 v15 v16 v17 _ _ _ hf rfl hS (lv_sub hl [3, 4, 5, 6, 2, 1, 0] rfl)
                    refine q_icmp_ne (pc := 150) (tgt := 157) hx hb dX11_corners_150 (by decide) rfl hf (fun hf => ?_) (fun hf => ?_)
                    · refine lv_iload (pc := 157) hx hb dX11_corners_157 (lv_at hl 0 rfl) ?_
                      exact J159 v12 _ _ _ hf rfl hS (lv_sub hl [1, 2, 3, 4, 6, 7, 0] rfl)
                    · refine lv_iconst (pc := 153) (v := 0) hx hb dX11_corners_153 (by decide) ?_
                      refine lv_goto (pc := 154) (tgt := 159) hx hb dX11_corners_154 (by decide) ?_
                      exact J159 0 _ _ _ hf rfl hS (lv_sub hl [1, 2, 3, 4, 6, 7, 0] rfl)
                  · refine lv_iload (pc := 93) hx hb dX11_corners_93 (lv_at hl 8 rfl) ?_
                    refine lv_iconst (pc := 95) (v := (-1)) hx hb dX11_corners_95 (by decide) ?_
                    obtain ⟨k119, ek119, hf⟩ := q_j1_e hf
                    have J119 : ∀ (v18 : Int32) (H : Heap) (locs : List Loc) (ls : Array Slot), k119 v18 = some o25_ → H = s.heap → va_S A s.heap H locs → lv_has ls 11 [(4, .int v4), (7, .int v8), (8, .int v9)] → W p l e ({ frames := 5, cells := 0, slots := 0, locals := 122 } : Room) s m ([.ref a_m, .int p1, .int p2, .int p3] : List Value).toArray below meth c H locs 0 0 Q (F0 m 119 ls [.int v18]) := by
                      intro v18 H locs ls hf hHs hS hl
                      subst hHs
                      have hf := (ek119 v18).symm.trans hf
                      refine lv_istore (pc := 119) (lv' := [(10, .int v18), (4, .int v4), (7, .int v8), (8, .int v9)]) hx hb dX11_corners_119 hl (by decide) rfl (fun ls hl => ?_)
                      refine lv_iload (pc := 121) hx hb dX11_corners_121 (lv_at hl 1 rfl) ?_
                      refine q_if_ne (pc := 123) (tgt := 131) hx hb dX11_corners_123 (by decide) rfl hf (fun hf => ?_) (fun hf => ?_)
                      · refine lv_iload (pc := 131) hx hb dX11_corners_131 (lv_at hl 0 rfl) ?_
                        refine lv_iload (pc := 133) hx hb dX11_corners_133 (lv_at hl 2 rfl) ?_
                        refine q_icmp_ne (pc := 135) (tgt := 143) hx hb dX11_corners_135 (by decide) rfl hf (fun hf => ?_) (fun hf => ?_)
                        · refine lv_iload (pc := 143) hx hb dX11_corners_143 (lv_at hl 2 rfl) ?_
                          obtain rfl := Option.some.inj hf
                          have hk25 : (v8 : Int32) = r := hk25
                          obtain rfl := hk25
                          rw [hQ]
                          exact q_iretr (pc := 145) hx hb hr hlocks rfl hS dX11_corners_145
                        · refine lv_iload (pc := 138) hx hb dX11_corners_138 (lv_at hl 3 rfl) ?_
                          refine lv_goto (pc := 140) (tgt := 145) hx hb dX11_corners_140 (by decide) ?_
                          obtain rfl := Option.some.inj hf
                          have hk25 : (v9 : Int32) = r := hk25
                          obtain rfl := hk25
                          rw [hQ]
                          exact q_iretr (pc := 145) hx hb hr hlocks rfl hS dX11_corners_145
                      · refine lv_iload (pc := 126) hx hb dX11_corners_126 (lv_at hl 0 rfl) ?_
                        refine lv_goto (pc := 128) (tgt := 145) hx hb dX11_corners_128 (by decide) ?_
                        obtain rfl := Option.some.inj hf
                        have hk25 : (v18 : Int32) = r := hk25
                        obtain rfl := hk25
                        rw [hQ]
                        exact q_iretr (pc := 145) hx hb hr hlocks rfl hS dX11_corners_145
                    obtain ⟨k112, ek112, hf⟩ := q_j0_e hf
                    have J112 : ∀  (H : Heap) (locs : List Loc) (ls : Array Slot), k112 = some o25_ → H = s.heap → va_S A s.heap H locs → lv_has ls 11 [(4, .int v4), (7, .int v8), (8, .int v9)] → W p l e ({ frames := 5, cells := 0, slots := 0, locals := 122 } : Room) s m ([.ref a_m, .int p1, .int p2, .int p3] : List Value).toArray below meth c H locs 0 0 Q (F0 m 112 ls []) := by
                      intro  H locs ls hf hHs hS hl
                      subst hHs
                      have hf := (ek112).symm.trans hf
                      refine lv_iload (pc := 112) hx hb dX11_corners_112 (lv_at hl 2 rfl) ?_
                      refine lv_goto (pc := 114) (tgt := 119) hx hb dX11_corners_114 (by decide) ?_
                      exact J119 v9 _ _ _ hf rfl hS (lv_sub hl [0, 1, 2] rfl)
                    refine q_icmp_eq (pc := 96) (tgt := 112) hx hb dX11_corners_96 (by decide) rfl hf (fun hf => ?_) (fun hf => ?_)
                    · exact J112  _ _ _ hf rfl hS (lv_sub hl [5, 8, 9] rfl)
                    · refine lv_iload (pc := 99) hx hb dX11_corners_99 (lv_at hl 9 rfl) ?_
                      refine lv_iconst (pc := 101) (v := (-1)) hx hb dX11_corners_101 (by decide) ?_
                      obtain ⟨k117, ek117, hf⟩ := q_j0_e hf
                      have J117 : ∀  (H : Heap) (locs : List Loc) (ls : Array Slot), k117 = some o25_ → H = s.heap → va_S A s.heap H locs → lv_has ls 11 [(4, .int v4), (7, .int v8), (8, .int v9)] → W p l e ({ frames := 5, cells := 0, slots := 0, locals := 122 } : Room) s m ([.ref a_m, .int p1, .int p2, .int p3] : List Value).toArray below meth c H locs 0 0 Q (F0 m 117 ls []) := by
                        intro  H locs ls hf hHs hS hl
                        subst hHs
                        have hf := (ek117).symm.trans hf
                        refine lv_iload (pc := 117) hx hb dX11_corners_117 (lv_at hl 1 rfl) ?_
                        exact J119 v8 _ _ _ hf rfl hS (lv_sub hl [0, 1, 2] rfl)
                      refine q_icmp_eq (pc := 102) (tgt := 117) hx hb dX11_corners_102 (by decide) rfl hf (fun hf => ?_) (fun hf => ?_)
                      · exact J117  _ _ _ hf rfl hS (lv_sub hl [5, 8, 9] rfl)
                      · refine lv_iload (pc := 105) hx hb dX11_corners_105 (lv_at hl 9 rfl) ?_
                        refine lv_iload (pc := 107) hx hb dX11_corners_107 (lv_at hl 8 rfl) ?_
                        refine q_icmp_ge (pc := 109) (tgt := 117) hx hb dX11_corners_109 (by decide) rfl hf (fun hf => ?_) (fun hf => ?_)
                        · exact J117  _ _ _ hf rfl hS (lv_sub hl [5, 8, 9] rfl)
                        · exact J112  _ _ _ hf rfl hS (lv_sub hl [5, 8, 9] rfl)
                refine q_icmp_ne (pc := 67) (tgt := 74) hx hb dX11_corners_67 (by decide) rfl hf (fun hf => ?_) (fun hf => ?_)
                · refine lv_iconst (pc := 74) (v := 1) hx hb dX11_corners_74 (by decide) ?_
                  exact J75 1 _ _ _ hf rfl hS (lv_sub hl [0, 1, 2, 3, 4, 5, 6, 7, 8] rfl)
                · refine lv_iconst (pc := 70) (v := 0) hx hb dX11_corners_70 (by decide) ?_
                  refine lv_goto (pc := 71) (tgt := 75) hx hb dX11_corners_71 (by decide) ?_
                  exact J75 0 _ _ _ hf rfl hS (lv_sub hl [0, 1, 2, 3, 4, 5, 6, 7, 8] rfl)
              refine q_icmp_ne (pc := 56) (tgt := 63) hx hb dX11_corners_56 (by decide) rfl hf (fun hf => ?_) (fun hf => ?_)
              · refine lv_iconst (pc := 63) (v := 1) hx hb dX11_corners_63 (by decide) ?_
                exact J64 1 _ _ _ hf rfl hS (lv_sub hl [2, 3, 4, 5, 6, 7, 8, 1, 0] rfl)
              · refine lv_iconst (pc := 59) (v := 0) hx hb dX11_corners_59 (by decide) ?_
                refine lv_goto (pc := 60) (tgt := 64) hx hb dX11_corners_60 (by decide) ?_
                exact J64 0 _ _ _ hf rfl hS (lv_sub hl [2, 3, 4, 5, 6, 7, 8, 1, 0] rfl)
        exact LP25 N p3 v2 v3 _ _ _ hm25 rfl hS (lv_sub hl [3, 4, 5, 6, 2, 1, 0] rfl)
      · refine lv_iconst (pc := 14) (v := (-1)) hx hb dX11_corners_14 (by decide) ?_
        obtain rfl := Option.some.inj hf
        rw [hQ]
        exact q_iretr (pc := 15) hx hb hr hlocks rfl hS dX11_corners_15
  exact hgo _ _ rfl hP hS
/-! X11_count -/
set_option maxRecDepth 100000 in
set_option maxHeartbeats 4000000 in
theorem c_M_count (l : Launch) (D : va_G) (ci : Nat → ClassId) (A : Nat → Prop) (sa : Nat → Nat) (N : Nat) (Rw : va_W) (a_m : Nat) (a_m_cutRows : Nat) (a_m_cutColumns : Nat) (a_m_deep : Nat) (a_m_wide : Nat) (a_m_zonesAhead : Nat) (a_m_nameOne : Nat) (a_m_nameOther : Nat) (a_m_tape : Nat) (a_m_edges : Nat) (a_m_dist : Nat) (a_m_queue : Nat) (a_m_pieceLevel : Nat) (a_m_pieceKey : Nat) (a_m_pieceYear : Nat) (a_m_drawnKeys : Nat) (a_m_kept : Nat) (a_m_noNumbers : Nat) (m_taped : Int32) (m_place : Int32) (m_fault : Int32) (m_number : Int32) (m_levelRead : Int32) (m_keyRead : Int32) (m_reads : Int32) (m_faults : Int32) (m_cutShort : Int32) (m_noNumber : Int32) (m_bottomLat : Int64) (m_bottomLon : Int64) (m_firstBeside : Int32) (m_manyBeside : Int32) (m_queued : Int32) (m_boxLevel : Int32) (m_boxTop : Int32) (m_boxBottom : Int32) (m_boxWest : Int32) (m_boxEast : Int32) (m_isEarly : Int32) (m_pieces : Int32) (m_states : Int32) (m_drawnNow : Int32) (m_keptAt : Int32) (p1 : Int32) (r : Int32) (hf : f_M_count m_taped m_reads m_faults m_cutShort m_noNumber m_pieces m_states p1 = some r) : Met l yX11_count wsX11_count ({ frames := 0, cells := 0, slots := 0, locals := 0 }) (va_Pc [.ref a_m, .int p1] (q_N D ci A sa ((a_m, .inr (11, (.ref a_m_cutRows :: .ref a_m_cutColumns :: .ref a_m_deep :: .ref a_m_wide :: .ref a_m_zonesAhead :: .ref a_m_nameOne :: .ref a_m_nameOther :: .ref a_m_tape :: .int m_taped :: .int m_place :: .int m_fault :: .int m_number :: .int m_levelRead :: .int m_keyRead :: .int m_reads :: .int m_faults :: .int m_cutShort :: .int m_noNumber :: .long m_bottomLat :: .long m_bottomLon :: .ref a_m_edges :: .int m_firstBeside :: .int m_manyBeside :: .ref a_m_dist :: .ref a_m_queue :: .int m_queued :: .int m_boxLevel :: .int m_boxTop :: .int m_boxBottom :: .int m_boxWest :: .int m_boxEast :: .int m_isEarly :: .int m_pieces :: .int m_states :: .ref a_m_pieceLevel :: .ref a_m_pieceKey :: .ref a_m_pieceYear :: .int m_drawnNow :: .ref a_m_drawnKeys :: .ref a_m_kept :: .int m_keptAt :: .ref a_m_noNumbers :: []))) :: Rw))) (q_R (some (.int r))) 0 0 A := by
  refine q_ofW (cc := cX11_count) (maxL := 2) (ret := (some .int)) [.ref a_m, .int p1] (plainFor_of_name (by decide)) rfl (Nat.le_of_ble_eq_true rfl) ?_
  intro p e s m below meth c ls Q hQ hx hb hml hr hts hown hlocks hK hA hZ hP hD hS hl
  have hl : lv_has ls 2 [(0, .ref a_m), (1, .int p1)] := hl
  have hown : s.vm.findClass RX11 = some m.cls := hown
  have hinX11 : ∀ w ∈ wsX110, w ∈ wsX11_count := fun _ h => List.mem_cons_of_mem _ (inWX110 _ h)
  have w_1 := hts (Cond.fieldLink RX11 123 "SheetNamesModel" "pieces" "I") (List.mem_cons_of_mem _ t_w972)
  have w_2 := hts (Cond.fieldLink RX11 160 "SheetNamesModel" "taped" "I") (List.mem_cons_of_mem _ t_w962)
  have w_3 := hts (Cond.fieldLink RX11 440 "SheetNamesModel" "states" "I") (List.mem_cons_of_mem _ t_w973)
  have w_4 := hts (Cond.fieldLink RX11 199 "SheetNamesModel" "reads" "I") (List.mem_cons_of_mem _ t_w926)
  have w_5 := hts (Cond.fieldLink RX11 202 "SheetNamesModel" "faults" "I") (List.mem_cons_of_mem _ t_w927)
  have w_6 := hts (Cond.fieldLink RX11 205 "SheetNamesModel" "cutShort" "I") (List.mem_cons_of_mem _ t_w928)
  have w_7 := hts (Cond.fieldLink RX11 208 "SheetNamesModel" "noNumber" "I") (List.mem_cons_of_mem _ t_w929)
  unfold f_M_count at hf
  have hgo : ∀ (H : Heap) (locs : List Loc), H = s.heap → va_P D vwCl ((a_m, .inr (11, (.ref a_m_cutRows :: .ref a_m_cutColumns :: .ref a_m_deep :: .ref a_m_wide :: .ref a_m_zonesAhead :: .ref a_m_nameOne :: .ref a_m_nameOther :: .ref a_m_tape :: .int m_taped :: .int m_place :: .int m_fault :: .int m_number :: .int m_levelRead :: .int m_keyRead :: .int m_reads :: .int m_faults :: .int m_cutShort :: .int m_noNumber :: .long m_bottomLat :: .long m_bottomLon :: .ref a_m_edges :: .int m_firstBeside :: .int m_manyBeside :: .ref a_m_dist :: .ref a_m_queue :: .int m_queued :: .int m_boxLevel :: .int m_boxTop :: .int m_boxBottom :: .int m_boxWest :: .int m_boxEast :: .int m_isEarly :: .int m_pieces :: .int m_states :: .ref a_m_pieceLevel :: .ref a_m_pieceKey :: .ref a_m_pieceYear :: .int m_drawnNow :: .ref a_m_drawnKeys :: .ref a_m_kept :: .int m_keptAt :: .ref a_m_noNumbers :: []))) :: Rw) H → va_S A s.heap H locs → W p l e ({ frames := 0, cells := 0, slots := 0, locals := 0 } : Room) s m ([.ref a_m, .int p1] : List Value).toArray below meth c H locs 0 0 Q (F0 m 0 ls []) := by
    intro H locs hH hP hS
    subst hH
    refine lv_iload_n (pc := 0) hx hb dX11_count_0 rfl (lv_at hl 1 rfl) ?_
    rcases q_if_e hf with ⟨hc0, hf⟩ | ⟨hc0, hf⟩
    · refine lv_tableIn (pc := 1) (tgt := 44) (off := 43) hx hb dX11_count_1 (by rw [hc0]; decide) (by rw [hc0]; decide) (by rw [hc0]; decide) (by decide) ?_
      refine lv_aload_n (pc := 44) hx hb dX11_count_44 rfl (lv_at hl 0 rfl) ?_
      refine va_get (pc := 45) (D := D) (ci := 11) (v := .int m_pieces) (C := RX11) (T := TX11) (N := 42) hx hb hts hinX11 hown hK hP 0 rfl rfl 32 (by decide) w_1 (fun _ h9 => h9) rfl dX11_count_45 ?_
      obtain rfl := Option.some.inj hf
      rw [hQ]
      exact q_iretr (pc := 48) hx hb hr hlocks rfl hS dX11_count_48
    rcases q_if_e hf with ⟨hc1, hf⟩ | ⟨hc1, hf⟩
    · refine lv_tableIn (pc := 1) (tgt := 49) (off := 48) hx hb dX11_count_1 (by rw [hc1]; decide) (by rw [hc1]; decide) (by rw [hc1]; decide) (by decide) ?_
      refine lv_aload_n (pc := 49) hx hb dX11_count_49 rfl (lv_at hl 0 rfl) ?_
      refine va_get (pc := 50) (D := D) (ci := 11) (v := .int m_taped) (C := RX11) (T := TX11) (N := 42) hx hb hts hinX11 hown hK hP 0 rfl rfl 8 (by decide) w_2 (fun _ h9 => h9) rfl dX11_count_50 ?_
      obtain rfl := Option.some.inj hf
      rw [hQ]
      exact q_iretr (pc := 53) hx hb hr hlocks rfl hS dX11_count_53
    rcases q_if_e hf with ⟨hc2, hf⟩ | ⟨hc2, hf⟩
    · refine lv_tableIn (pc := 1) (tgt := 54) (off := 53) hx hb dX11_count_1 (by rw [hc2]; decide) (by rw [hc2]; decide) (by rw [hc2]; decide) (by decide) ?_
      refine lv_aload_n (pc := 54) hx hb dX11_count_54 rfl (lv_at hl 0 rfl) ?_
      refine va_get (pc := 55) (D := D) (ci := 11) (v := .int m_states) (C := RX11) (T := TX11) (N := 42) hx hb hts hinX11 hown hK hP 0 rfl rfl 33 (by decide) w_3 (fun _ h9 => h9) rfl dX11_count_55 ?_
      obtain rfl := Option.some.inj hf
      rw [hQ]
      exact q_iretr (pc := 58) hx hb hr hlocks rfl hS dX11_count_58
    rcases q_if_e hf with ⟨hc3, hf⟩ | ⟨hc3, hf⟩
    · refine lv_tableIn (pc := 1) (tgt := 59) (off := 58) hx hb dX11_count_1 (by rw [hc3]; decide) (by rw [hc3]; decide) (by rw [hc3]; decide) (by decide) ?_
      refine lv_aload_n (pc := 59) hx hb dX11_count_59 rfl (lv_at hl 0 rfl) ?_
      refine va_get (pc := 60) (D := D) (ci := 11) (v := .int m_reads) (C := RX11) (T := TX11) (N := 42) hx hb hts hinX11 hown hK hP 0 rfl rfl 14 (by decide) w_4 (fun _ h9 => h9) rfl dX11_count_60 ?_
      obtain rfl := Option.some.inj hf
      rw [hQ]
      exact q_iretr (pc := 63) hx hb hr hlocks rfl hS dX11_count_63
    rcases q_if_e hf with ⟨hc4, hf⟩ | ⟨hc4, hf⟩
    · refine lv_tableIn (pc := 1) (tgt := 64) (off := 63) hx hb dX11_count_1 (by rw [hc4]; decide) (by rw [hc4]; decide) (by rw [hc4]; decide) (by decide) ?_
      refine lv_aload_n (pc := 64) hx hb dX11_count_64 rfl (lv_at hl 0 rfl) ?_
      refine va_get (pc := 65) (D := D) (ci := 11) (v := .int m_faults) (C := RX11) (T := TX11) (N := 42) hx hb hts hinX11 hown hK hP 0 rfl rfl 15 (by decide) w_5 (fun _ h9 => h9) rfl dX11_count_65 ?_
      obtain rfl := Option.some.inj hf
      rw [hQ]
      exact q_iretr (pc := 68) hx hb hr hlocks rfl hS dX11_count_68
    rcases q_if_e hf with ⟨hc5, hf⟩ | ⟨hc5, hf⟩
    · refine lv_tableIn (pc := 1) (tgt := 69) (off := 68) hx hb dX11_count_1 (by rw [hc5]; decide) (by rw [hc5]; decide) (by rw [hc5]; decide) (by decide) ?_
      refine lv_aload_n (pc := 69) hx hb dX11_count_69 rfl (lv_at hl 0 rfl) ?_
      refine va_get (pc := 70) (D := D) (ci := 11) (v := .int m_cutShort) (C := RX11) (T := TX11) (N := 42) hx hb hts hinX11 hown hK hP 0 rfl rfl 16 (by decide) w_6 (fun _ h9 => h9) rfl dX11_count_70 ?_
      obtain rfl := Option.some.inj hf
      rw [hQ]
      exact q_iretr (pc := 73) hx hb hr hlocks rfl hS dX11_count_73
    rcases q_if_e hf with ⟨hc6, hf⟩ | ⟨hc6, hf⟩
    · refine lv_tableIn (pc := 1) (tgt := 74) (off := 73) hx hb dX11_count_1 (by rw [hc6]; decide) (by rw [hc6]; decide) (by rw [hc6]; decide) (by decide) ?_
      refine lv_aload_n (pc := 74) hx hb dX11_count_74 rfl (lv_at hl 0 rfl) ?_
      refine va_get (pc := 75) (D := D) (ci := 11) (v := .int m_noNumber) (C := RX11) (T := TX11) (N := 42) hx hb hts hinX11 hown hK hP 0 rfl rfl 17 (by decide) w_7 (fun _ h9 => h9) rfl dX11_count_75 ?_
      obtain rfl := Option.some.inj hf
      rw [hQ]
      exact q_iretr (pc := 78) hx hb hr hlocks rfl hS dX11_count_78
    have hsw : p1.toInt < 0 ∨ 6 < p1.toInt := by
      have hd0 := q_nei hc0; have hd1 := q_nei hc1; have hd2 := q_nei hc2; have hd3 := q_nei hc3; have hd4 := q_nei hc4; have hd5 := q_nei hc5; have hd6 := q_nei hc6
      rw [show (0 : Int32).toInt = 0 from rfl] at hd0; rw [show (1 : Int32).toInt = 1 from rfl] at hd1; rw [show (2 : Int32).toInt = 2 from rfl] at hd2; rw [show (3 : Int32).toInt = 3 from rfl] at hd3; rw [show (4 : Int32).toInt = 4 from rfl] at hd4; rw [show (5 : Int32).toInt = 5 from rfl] at hd5; rw [show (6 : Int32).toInt = 6 from rfl] at hd6
      omega
    refine lv_tableOut (pc := 1) (tgt := 79) hx hb dX11_count_1 hsw (by decide) ?_
    refine lv_iconst (pc := 79) (v := (-1)) hx hb dX11_count_79 (by decide) ?_
    obtain rfl := Option.some.inj hf
    rw [hQ]
    exact q_iretr (pc := 80) hx hb hr hlocks rfl hS dX11_count_80
  exact hgo _ _ rfl hP hS
/-! X11_isWhole -/
set_option maxRecDepth 100000 in
set_option maxHeartbeats 4000000 in
theorem c_M_isWhole (l : Launch) (D : va_G) (ci : Nat → ClassId) (A : Nat → Prop) (sa : Nat → Nat) (N : Nat) (Rw : va_W) (a_m : Nat) (a_m_cutRows : Nat) (a_m_cutColumns : Nat) (a_m_deep : Nat) (a_m_wide : Nat) (a_m_zonesAhead : Nat) (a_m_nameOne : Nat) (a_m_nameOther : Nat) (a_m_tape : Nat) (a_m_edges : Nat) (a_m_dist : Nat) (a_m_queue : Nat) (a_m_pieceLevel : Nat) (a_m_pieceKey : Nat) (a_m_pieceYear : Nat) (a_m_drawnKeys : Nat) (a_m_kept : Nat) (a_m_noNumbers : Nat) (m_taped : Int32) (m_place : Int32) (m_fault : Int32) (m_number : Int32) (m_levelRead : Int32) (m_keyRead : Int32) (m_reads : Int32) (m_faults : Int32) (m_cutShort : Int32) (m_noNumber : Int32) (m_bottomLat : Int64) (m_bottomLon : Int64) (m_firstBeside : Int32) (m_manyBeside : Int32) (m_queued : Int32) (m_boxLevel : Int32) (m_boxTop : Int32) (m_boxBottom : Int32) (m_boxWest : Int32) (m_boxEast : Int32) (m_isEarly : Int32) (m_pieces : Int32) (m_states : Int32) (m_drawnNow : Int32) (m_keptAt : Int32) (m_deep : Nat → Int32) (m_wide : Nat → Int32) (p1 : Int32) (p2 : Int32) (p3 : Int32) (r : Int32) (hf : f_M_isWhole m_deep m_wide m_boxLevel m_boxTop m_boxBottom m_boxWest m_boxEast p1 p2 p3 = some r) : Met l yX11_isWhole wsX11_isWhole ({ frames := 4, cells := 0, slots := 0, locals := 88 }) (va_Pc [.ref a_m, .int p1, .int p2, .int p3] (q_N D ci A sa ((a_m, .inr (11, (.ref a_m_cutRows :: .ref a_m_cutColumns :: .ref a_m_deep :: .ref a_m_wide :: .ref a_m_zonesAhead :: .ref a_m_nameOne :: .ref a_m_nameOther :: .ref a_m_tape :: .int m_taped :: .int m_place :: .int m_fault :: .int m_number :: .int m_levelRead :: .int m_keyRead :: .int m_reads :: .int m_faults :: .int m_cutShort :: .int m_noNumber :: .long m_bottomLat :: .long m_bottomLon :: .ref a_m_edges :: .int m_firstBeside :: .int m_manyBeside :: .ref a_m_dist :: .ref a_m_queue :: .int m_queued :: .int m_boxLevel :: .int m_boxTop :: .int m_boxBottom :: .int m_boxWest :: .int m_boxEast :: .int m_isEarly :: .int m_pieces :: .int m_states :: .ref a_m_pieceLevel :: .ref a_m_pieceKey :: .ref a_m_pieceYear :: .int m_drawnNow :: .ref a_m_drawnKeys :: .ref a_m_kept :: .int m_keptAt :: .ref a_m_noNumbers :: []))) :: (a_m_deep, .inl (ci 0, 5, .inl m_deep)) :: (a_m_wide, .inl (ci 0, 5, .inl m_wide)) :: Rw))) (q_R (some (.int r))) 0 0 A := by
  refine q_ofW (cc := cX11_isWhole) (maxL := 11) (ret := (some .boolean)) [.ref a_m, .int p1, .int p2, .int p3] (plainFor_of_name (by decide)) rfl (Nat.le_of_ble_eq_true rfl) ?_
  intro p e s m below meth c ls Q hQ hx hb hml hr hts hown hlocks hK hA hZ hP hD hS hl
  have hl : lv_has ls 11 [(0, .ref a_m), (1, .int p1), (2, .int p2), (3, .int p3)] := hl
  have hown : s.vm.findClass RX11 = some m.cls := hown
  have hinX11 : ∀ w ∈ wsX110, w ∈ wsX11_isWhole := fun _ h => List.mem_cons_of_mem _ (inWX110 _ h)
  have w_1 := hts (Cond.fieldLink RX11 298 "SheetNamesModel" "boxLevel" "I") (List.mem_cons_of_mem _ t_w948)
  have w_2 := hts (Cond.fieldLink RX11 301 "SheetNamesModel" "boxTop" "I") (List.mem_cons_of_mem _ t_w949)
  have w_3 := hts (Cond.fieldLink RX11 304 "SheetNamesModel" "boxBottom" "I") (List.mem_cons_of_mem _ t_w950)
  have w_4 := hts (Cond.fieldLink RX11 16 "SheetNamesModel" "deep" "[I") (List.mem_cons_of_mem _ t_w908)
  have w_5 := hts (Cond.fieldLink RX11 19 "SheetNamesModel" "wide" "[I") (List.mem_cons_of_mem _ t_w909)
  unfold f_M_isWhole at hf
  have hgo : ∀ (H : Heap) (locs : List Loc), H = s.heap → va_P D vwCl ((a_m, .inr (11, (.ref a_m_cutRows :: .ref a_m_cutColumns :: .ref a_m_deep :: .ref a_m_wide :: .ref a_m_zonesAhead :: .ref a_m_nameOne :: .ref a_m_nameOther :: .ref a_m_tape :: .int m_taped :: .int m_place :: .int m_fault :: .int m_number :: .int m_levelRead :: .int m_keyRead :: .int m_reads :: .int m_faults :: .int m_cutShort :: .int m_noNumber :: .long m_bottomLat :: .long m_bottomLon :: .ref a_m_edges :: .int m_firstBeside :: .int m_manyBeside :: .ref a_m_dist :: .ref a_m_queue :: .int m_queued :: .int m_boxLevel :: .int m_boxTop :: .int m_boxBottom :: .int m_boxWest :: .int m_boxEast :: .int m_isEarly :: .int m_pieces :: .int m_states :: .ref a_m_pieceLevel :: .ref a_m_pieceKey :: .ref a_m_pieceYear :: .int m_drawnNow :: .ref a_m_drawnKeys :: .ref a_m_kept :: .int m_keptAt :: .ref a_m_noNumbers :: []))) :: (a_m_deep, .inl (ci 0, 5, .inl m_deep)) :: (a_m_wide, .inl (ci 0, 5, .inl m_wide)) :: Rw) H → va_S A s.heap H locs → W p l e ({ frames := 4, cells := 0, slots := 0, locals := 88 } : Room) s m ([.ref a_m, .int p1, .int p2, .int p3] : List Value).toArray below meth c H locs 0 0 Q (F0 m 0 ls []) := by
    intro H locs hH hP hS
    subst hH
    refine lv_aload_n (pc := 0) hx hb dX11_isWhole_0 rfl (lv_at hl 0 rfl) ?_
    refine va_get (pc := 1) (D := D) (ci := 11) (v := .int m_boxLevel) (C := RX11) (T := TX11) (N := 42) hx hb hts hinX11 hown hK hP 0 rfl rfl 26 (by decide) w_1 (fun _ h9 => h9) rfl dX11_isWhole_1 ?_
    refine lv_istore (pc := 4) (lv' := [(4, .int m_boxLevel), (0, .ref a_m), (1, .int p1), (2, .int p2), (3, .int p3)]) hx hb dX11_isWhole_4 hl (by decide) rfl (fun ls hl => ?_)
    refine lv_iload_n (pc := 6) hx hb dX11_isWhole_6 rfl (lv_at hl 3 rfl) ?_
    refine q_if_ne (pc := 7) (tgt := 23) hx hb dX11_isWhole_7 (by decide) rfl hf (fun hf => ?_) (fun hf => ?_)
    · refine lv_iload_n (pc := 23) hx hb dX11_isWhole_23 rfl (lv_at hl 3 rfl) ?_
      refine lv_aload_n (pc := 24) hx hb dX11_isWhole_24 rfl (lv_at hl 1 rfl) ?_
      refine lv_iload_n (pc := 25) hx hb dX11_isWhole_25 rfl (lv_at hl 2 rfl) ?_
      obtain ⟨v1, hm26, hf⟩ := q_b1_e hf
      refine q_cVr (pc := 26) (As := [.int p1]) (rest := [.int p2]) (v0 := (some (.int v1))) ⟨hx, hb, hml, hown, hts⟩ hK hA hZ hP hD hS hl.1 [0, 1] 3 rfl ⟨rfl, rfl, rfl⟩ (c_M_lastRow l D ci A sa N (Rw) a_m a_m_cutRows a_m_cutColumns a_m_deep a_m_wide a_m_zonesAhead a_m_nameOne a_m_nameOther a_m_tape a_m_edges a_m_dist a_m_queue a_m_pieceLevel a_m_pieceKey a_m_pieceYear a_m_drawnKeys a_m_kept a_m_noNumbers m_taped m_place m_fault m_number m_levelRead m_keyRead m_reads m_faults m_cutShort m_noNumber m_bottomLat m_bottomLon m_firstBeside m_manyBeside m_queued m_boxLevel m_boxTop m_boxBottom m_boxWest m_boxEast m_isEarly m_pieces m_states m_drawnNow m_keptAt m_deep p1 v1 hm26) 0 rfl rfl (cwV 1 hts gX11_isWhole_X11_lastRow rfl rfl rfl (by decide +kernel) ⟨Nat.le_of_ble_eq_true rfl, Nat.le_of_ble_eq_true rfl⟩) rfl rfl (Nat.le_of_ble_eq_true rfl) dX11_isWhole_26 ⟨Nat.zero_le _, Nat.zero_le _⟩ (fun locs hS => ?_)
      refine q_icmp_ne (pc := 29) (tgt := 51) hx hb dX11_isWhole_29 (by decide) rfl hf (fun hf => ?_) (fun hf => ?_)
      · refine lv_aload_n (pc := 51) hx hb dX11_isWhole_51 rfl (lv_at hl 1 rfl) ?_
        refine va_get (pc := 52) (D := D) (ci := 11) (v := .ref a_m_deep) (C := RX11) (T := TX11) (N := 42) hx hb hts hinX11 hown hK hP 0 rfl rfl 2 (by decide) w_4 (fun _ h9 => h9) rfl dX11_isWhole_52 ?_
        refine lv_iload (pc := 55) hx hb dX11_isWhole_55 (lv_at hl 0 rfl) ?_
        refine q_iald (pc := 57) hx hb hK hP 1 0 hf rfl rfl dX11_isWhole_57 (fun v2 hf => ?_)
        refine lv_aload_n (pc := 58) hx hb dX11_isWhole_58 rfl (lv_at hl 1 rfl) ?_
        refine va_get (pc := 59) (D := D) (ci := 11) (v := .ref a_m_deep) (C := RX11) (T := TX11) (N := 42) hx hb hts hinX11 hown hK hP 0 rfl rfl 2 (by decide) w_4 (fun _ h9 => h9) rfl dX11_isWhole_59 ?_
        refine lv_iload_n (pc := 62) hx hb dX11_isWhole_62 rfl (lv_at hl 2 rfl) ?_
        refine q_iald (pc := 63) hx hb hK hP 1 0 hf rfl rfl dX11_isWhole_63 (fun v3 hf => ?_)
        refine q_idiv (pc := 64) hx hb dX11_isWhole_64 hf (fun v4 hf => ?_)
        refine lv_istore (pc := 65) (lv' := [(5, .int v4), (4, .int m_boxLevel), (0, .ref a_m), (1, .int p1), (2, .int p2), (3, .int p3)]) hx hb dX11_isWhole_65 hl (by decide) rfl (fun ls hl => ?_)
        refine lv_aload_n (pc := 67) hx hb dX11_isWhole_67 rfl (lv_at hl 2 rfl) ?_
        refine va_get (pc := 68) (D := D) (ci := 11) (v := .ref a_m_wide) (C := RX11) (T := TX11) (N := 42) hx hb hts hinX11 hown hK hP 0 rfl rfl 3 (by decide) w_5 (fun _ h9 => h9) rfl dX11_isWhole_68 ?_
        refine lv_iload (pc := 71) hx hb dX11_isWhole_71 (lv_at hl 1 rfl) ?_
        refine q_iald (pc := 73) hx hb hK hP 2 0 hf rfl rfl dX11_isWhole_73 (fun v5 hf => ?_)
        refine lv_aload_n (pc := 74) hx hb dX11_isWhole_74 rfl (lv_at hl 2 rfl) ?_
        refine va_get (pc := 75) (D := D) (ci := 11) (v := .ref a_m_wide) (C := RX11) (T := TX11) (N := 42) hx hb hts hinX11 hown hK hP 0 rfl rfl 3 (by decide) w_5 (fun _ h9 => h9) rfl dX11_isWhole_75 ?_
        refine lv_iload_n (pc := 78) hx hb dX11_isWhole_78 rfl (lv_at hl 3 rfl) ?_
        refine q_iald (pc := 79) hx hb hK hP 2 0 hf rfl rfl dX11_isWhole_79 (fun v6 hf => ?_)
        refine q_idiv (pc := 80) hx hb dX11_isWhole_80 hf (fun v7 hf => ?_)
        refine lv_istore (pc := 81) (lv' := [(6, .int v7), (5, .int v4), (4, .int m_boxLevel), (0, .ref a_m), (1, .int p1), (2, .int p2), (3, .int p3)]) hx hb dX11_isWhole_81 hl (by decide) rfl (fun ls hl => ?_)
        refine lv_iconst (pc := 83) (v := 1) hx hb dX11_isWhole_83 (by decide) ?_
        refine lv_iload_n (pc := 84) hx hb dX11_isWhole_84 rfl (lv_at hl 5 rfl) ?_
        refine lv_iconst (pc := 85) (v := 1) hx hb dX11_isWhole_85 (by decide) ?_
        refine lv_isub (pc := 86) hx hb dX11_isWhole_86 ?_
        refine lv_iload (pc := 87) hx hb dX11_isWhole_87 (lv_at hl 1 rfl) ?_
        refine lv_imul (pc := 89) hx hb dX11_isWhole_89 ?_
        refine lv_iadd (pc := 90) hx hb dX11_isWhole_90 ?_
        obtain ⟨v8, ev8, hf⟩ := q_nm_e hf
        refine q_topi ev8 ?_
        refine lv_istore (pc := 91) (lv' := [(7, .int v8), (6, .int v7), (5, .int v4), (4, .int m_boxLevel), (0, .ref a_m), (1, .int p1), (2, .int p2), (3, .int p3)]) hx hb dX11_isWhole_91 hl (by decide) rfl (fun ls hl => ?_)
        refine lv_iload (pc := 93) hx hb dX11_isWhole_93 (lv_at hl 0 rfl) ?_
        refine lv_aload_n (pc := 95) hx hb dX11_isWhole_95 rfl (lv_at hl 4 rfl) ?_
        refine va_get (pc := 96) (D := D) (ci := 11) (v := .int m_boxTop) (C := RX11) (T := TX11) (N := 42) hx hb hts hinX11 hown hK hP 0 rfl rfl 27 (by decide) w_2 (fun _ h9 => h9) rfl dX11_isWhole_96 ?_
        refine q_icmp_lt (pc := 99) (tgt := 116) hx hb dX11_isWhole_99 (by decide) rfl hf (fun hf => ?_) (fun hf => ?_)
        · refine lv_iconst (pc := 116) (v := 0) hx hb dX11_isWhole_116 (by decide) ?_
          obtain rfl := Option.some.inj hf
          rw [hQ]
          exact q_zretr (pc := 117) hx hb hr rfl hlocks rfl hS dX11_isWhole_117
        · refine lv_iload (pc := 102) hx hb dX11_isWhole_102 (lv_at hl 0 rfl) ?_
          refine lv_iload (pc := 104) hx hb dX11_isWhole_104 (lv_at hl 2 rfl) ?_
          refine lv_iadd (pc := 106) hx hb dX11_isWhole_106 ?_
          refine lv_iconst (pc := 107) (v := 1) hx hb dX11_isWhole_107 (by decide) ?_
          refine lv_isub (pc := 108) hx hb dX11_isWhole_108 ?_
          refine lv_aload_n (pc := 109) hx hb dX11_isWhole_109 rfl (lv_at hl 4 rfl) ?_
          refine va_get (pc := 110) (D := D) (ci := 11) (v := .int m_boxBottom) (C := RX11) (T := TX11) (N := 42) hx hb hts hinX11 hown hK hP 0 rfl rfl 28 (by decide) w_3 (fun _ h9 => h9) rfl dX11_isWhole_110 ?_
          refine q_icmp_le (pc := 113) (tgt := 118) hx hb dX11_isWhole_113 (by decide) rfl hf (fun hf => ?_) (fun hf => ?_)
          · refine lv_aload_n (pc := 118) hx hb dX11_isWhole_118 rfl (lv_at hl 4 rfl) ?_
            refine lv_iload (pc := 119) hx hb dX11_isWhole_119 (lv_at hl 3 rfl) ?_
            refine lv_iload (pc := 121) hx hb dX11_isWhole_121 (lv_at hl 0 rfl) ?_
            obtain ⟨v9, hm123, hf⟩ := q_b1_e hf
            refine q_cVr (pc := 123) (As := [.int m_boxLevel, .int v8]) (rest := []) (v0 := (some (.int v9))) ⟨hx, hb, hml, hown, hts⟩ hK hA hZ hP hD hS hl.1 [0, 1, 2] 3 rfl ⟨rfl, rfl, rfl⟩ (c_M_many l D ci A sa N (Rw) a_m a_m_cutRows a_m_cutColumns a_m_deep a_m_wide a_m_zonesAhead a_m_nameOne a_m_nameOther a_m_tape a_m_edges a_m_dist a_m_queue a_m_pieceLevel a_m_pieceKey a_m_pieceYear a_m_drawnKeys a_m_kept a_m_noNumbers m_taped m_place m_fault m_number m_levelRead m_keyRead m_reads m_faults m_cutShort m_noNumber m_bottomLat m_bottomLon m_firstBeside m_manyBeside m_queued m_boxLevel m_boxTop m_boxBottom m_boxWest m_boxEast m_isEarly m_pieces m_states m_drawnNow m_keptAt m_deep m_wide m_boxLevel v8 v9 hm123) 0 rfl rfl (cwV 2 hts gX11_isWhole_X11_many rfl rfl rfl (by decide +kernel) ⟨Nat.le_of_ble_eq_true rfl, Nat.le_of_ble_eq_true rfl⟩) rfl rfl (Nat.le_of_ble_eq_true rfl) dX11_isWhole_123 ⟨Nat.zero_le _, Nat.zero_le _⟩ (fun locs hS => ?_)
            refine lv_istore (pc := 126) (lv' := [(8, .int v9), (7, .int v8), (6, .int v7), (5, .int v4), (4, .int m_boxLevel), (0, .ref a_m), (1, .int p1), (2, .int p2), (3, .int p3)]) hx hb dX11_isWhole_126 hl (by decide) rfl (fun ls hl => ?_)
            refine lv_aload_n (pc := 128) hx hb dX11_isWhole_128 rfl (lv_at hl 5 rfl) ?_
            refine lv_iload (pc := 129) hx hb dX11_isWhole_129 (lv_at hl 1 rfl) ?_
            obtain ⟨v10, hm131, hf⟩ := q_b1_e hf
            refine q_cVr (pc := 131) (As := [.int v8]) (rest := []) (v0 := (some (.int v10))) ⟨hx, hb, hml, hown, hts⟩ hK hA hZ hP hD hS hl.1 [0, 1, 2] 3 rfl ⟨rfl, rfl, rfl⟩ (c_M_boxMany l D ci A sa N (Rw) a_m a_m_cutRows a_m_cutColumns a_m_deep a_m_wide a_m_zonesAhead a_m_nameOne a_m_nameOther a_m_tape a_m_edges a_m_dist a_m_queue a_m_pieceLevel a_m_pieceKey a_m_pieceYear a_m_drawnKeys a_m_kept a_m_noNumbers m_taped m_place m_fault m_number m_levelRead m_keyRead m_reads m_faults m_cutShort m_noNumber m_bottomLat m_bottomLon m_firstBeside m_manyBeside m_queued m_boxLevel m_boxTop m_boxBottom m_boxWest m_boxEast m_isEarly m_pieces m_states m_drawnNow m_keptAt m_deep m_wide v8 v10 hm131) 0 rfl rfl (cwV 1 hts gX11_isWhole_X11_boxMany rfl rfl rfl (by decide +kernel) ⟨Nat.le_of_ble_eq_true rfl, Nat.le_of_ble_eq_true rfl⟩) rfl rfl (Nat.le_of_ble_eq_true rfl) dX11_isWhole_131 ⟨Nat.zero_le _, Nat.zero_le _⟩ (fun locs hS => ?_)
            refine lv_istore (pc := 134) (lv' := [(9, .int v10), (8, .int v9), (7, .int v8), (6, .int v7), (5, .int v4), (4, .int m_boxLevel), (0, .ref a_m), (1, .int p1), (2, .int p2), (3, .int p3)]) hx hb dX11_isWhole_134 hl (by decide) rfl (fun ls hl => ?_)
            refine lv_iload_n (pc := 136) hx hb dX11_isWhole_136 rfl (lv_at hl 9 rfl) ?_
            refine lv_iload (pc := 137) hx hb dX11_isWhole_137 (lv_at hl 3 rfl) ?_
            refine lv_imul (pc := 139) hx hb dX11_isWhole_139 ?_
            refine lv_aload_n (pc := 140) hx hb dX11_isWhole_140 rfl (lv_at hl 6 rfl) ?_
            refine lv_iload (pc := 141) hx hb dX11_isWhole_141 (lv_at hl 2 rfl) ?_
            obtain ⟨v11, hm143, hf⟩ := q_b1_e hf
            refine q_cVr (pc := 143) (As := [.int v8]) (rest := [.int (p3 * v7)]) (v0 := (some (.int v11))) ⟨hx, hb, hml, hown, hts⟩ hK hA hZ hP hD hS hl.1 [0, 1, 2] 3 rfl ⟨rfl, rfl, rfl⟩ (c_M_westOf l D ci A sa N (Rw) a_m a_m_cutRows a_m_cutColumns a_m_deep a_m_wide a_m_zonesAhead a_m_nameOne a_m_nameOther a_m_tape a_m_edges a_m_dist a_m_queue a_m_pieceLevel a_m_pieceKey a_m_pieceYear a_m_drawnKeys a_m_kept a_m_noNumbers m_taped m_place m_fault m_number m_levelRead m_keyRead m_reads m_faults m_cutShort m_noNumber m_bottomLat m_bottomLon m_firstBeside m_manyBeside m_queued m_boxLevel m_boxTop m_boxBottom m_boxWest m_boxEast m_isEarly m_pieces m_states m_drawnNow m_keptAt m_deep m_wide v8 v11 hm143) 0 rfl rfl (cwV 1 hts gX11_isWhole_X11_westOf rfl rfl rfl (by decide +kernel) ⟨Nat.le_of_ble_eq_true rfl, Nat.le_of_ble_eq_true rfl⟩) rfl rfl (Nat.le_of_ble_eq_true rfl) dX11_isWhole_143 ⟨Nat.zero_le _, Nat.zero_le _⟩ (fun locs hS => ?_)
            refine lv_isub (pc := 146) hx hb dX11_isWhole_146 ?_
            refine lv_iload (pc := 147) hx hb dX11_isWhole_147 (lv_at hl 1 rfl) ?_
            refine lv_iadd (pc := 149) hx hb dX11_isWhole_149 ?_
            refine lv_iload (pc := 150) hx hb dX11_isWhole_150 (lv_at hl 1 rfl) ?_
            refine q_irem (pc := 152) hx hb dX11_isWhole_152 hf (fun v12 hf => ?_)
            refine lv_istore (pc := 153) (lv' := [(10, .int v12), (9, .int v10), (8, .int v9), (7, .int v8), (6, .int v7), (5, .int v4), (4, .int m_boxLevel), (0, .ref a_m), (1, .int p1), (2, .int p2), (3, .int p3)]) hx hb dX11_isWhole_153 hl (by decide) rfl (fun ls hl => ?_)
            refine lv_iload (pc := 155) hx hb dX11_isWhole_155 (lv_at hl 1 rfl) ?_
            refine lv_iload (pc := 157) hx hb dX11_isWhole_157 (lv_at hl 2 rfl) ?_
            obtain ⟨k172, ek172, hf⟩ := q_j0_e hf
            have J172 : ∀  (H : Heap) (locs : List Loc) (ls : Array Slot), k172 = some r → H = s.heap → va_S A s.heap H locs → lv_has ls 11 [] → W p l e ({ frames := 4, cells := 0, slots := 0, locals := 88 } : Room) s m ([.ref a_m, .int p1, .int p2, .int p3] : List Value).toArray below meth c H locs 0 0 Q (F0 m 172 ls []) := by
              intro  H locs ls hf hHs hS hl
              subst hHs
              have hf := (ek172).symm.trans hf
              refine lv_iconst (pc := 172) (v := 1) hx hb dX11_isWhole_172 (by decide) ?_
              refine lv_goto (pc := 173) (tgt := 177) hx hb dX11_isWhole_173 (by decide) ?_
              obtain rfl := Option.some.inj hf
              rw [hQ]
              exact q_zretr (pc := 177) hx hb hr rfl hlocks rfl hS dX11_isWhole_177
            refine q_icmp_eq (pc := 159) (tgt := 172) hx hb dX11_isWhole_159 (by decide) rfl hf (fun hf => ?_) (fun hf => ?_)
            · exact J172  _ _ _ hf rfl hS (lv_sub hl [] rfl)
            · refine lv_iload (pc := 162) hx hb dX11_isWhole_162 (lv_at hl 0 rfl) ?_
              refine lv_iload (pc := 164) hx hb dX11_isWhole_164 (lv_at hl 4 rfl) ?_
              refine lv_iadd (pc := 166) hx hb dX11_isWhole_166 ?_
              refine lv_iload (pc := 167) hx hb dX11_isWhole_167 (lv_at hl 1 rfl) ?_
              refine q_icmp_gt (pc := 169) (tgt := 176) hx hb dX11_isWhole_169 (by decide) rfl hf (fun hf => ?_) (fun hf => ?_)
              · refine lv_iconst (pc := 176) (v := 0) hx hb dX11_isWhole_176 (by decide) ?_
                obtain rfl := Option.some.inj hf
                rw [hQ]
                exact q_zretr (pc := 177) hx hb hr rfl hlocks rfl hS dX11_isWhole_177
              · exact J172  _ _ _ hf rfl hS (lv_sub hl [] rfl)
          · refine lv_iconst (pc := 116) (v := 0) hx hb dX11_isWhole_116 (by decide) ?_
            obtain rfl := Option.some.inj hf
            rw [hQ]
            exact q_zretr (pc := 117) hx hb hr rfl hlocks rfl hS dX11_isWhole_117
      · refine lv_aload_n (pc := 32) hx hb dX11_isWhole_32 rfl (lv_at hl 1 rfl) ?_
        refine va_get (pc := 33) (D := D) (ci := 11) (v := .int m_boxBottom) (C := RX11) (T := TX11) (N := 42) hx hb hts hinX11 hown hK hP 0 rfl rfl 28 (by decide) w_3 (fun _ h9 => h9) rfl dX11_isWhole_33 ?_
        refine lv_aload_n (pc := 36) hx hb dX11_isWhole_36 rfl (lv_at hl 1 rfl) ?_
        refine lv_iload (pc := 37) hx hb dX11_isWhole_37 (lv_at hl 0 rfl) ?_
        obtain ⟨v13, hm39, hf⟩ := q_b1_e hf
        refine q_cVr (pc := 39) (As := [.int m_boxLevel]) (rest := [.int m_boxBottom]) (v0 := (some (.int v13))) ⟨hx, hb, hml, hown, hts⟩ hK hA hZ hP hD hS hl.1 [0, 1] 3 rfl ⟨rfl, rfl, rfl⟩ (c_M_lastRow l D ci A sa N (Rw) a_m a_m_cutRows a_m_cutColumns a_m_deep a_m_wide a_m_zonesAhead a_m_nameOne a_m_nameOther a_m_tape a_m_edges a_m_dist a_m_queue a_m_pieceLevel a_m_pieceKey a_m_pieceYear a_m_drawnKeys a_m_kept a_m_noNumbers m_taped m_place m_fault m_number m_levelRead m_keyRead m_reads m_faults m_cutShort m_noNumber m_bottomLat m_bottomLon m_firstBeside m_manyBeside m_queued m_boxLevel m_boxTop m_boxBottom m_boxWest m_boxEast m_isEarly m_pieces m_states m_drawnNow m_keptAt m_deep m_boxLevel v13 hm39) 0 rfl rfl (cwV 1 hts gX11_isWhole_X11_lastRow rfl rfl rfl (by decide +kernel) ⟨Nat.le_of_ble_eq_true rfl, Nat.le_of_ble_eq_true rfl⟩) rfl rfl (Nat.le_of_ble_eq_true rfl) dX11_isWhole_39 ⟨Nat.zero_le _, Nat.zero_le _⟩ (fun locs hS => ?_)
        refine q_icmp_ne (pc := 42) (tgt := 49) hx hb dX11_isWhole_42 (by decide) rfl hf (fun hf => ?_) (fun hf => ?_)
        · refine lv_iconst (pc := 49) (v := 0) hx hb dX11_isWhole_49 (by decide) ?_
          obtain rfl := Option.some.inj hf
          rw [hQ]
          exact q_zretr (pc := 50) hx hb hr rfl hlocks rfl hS dX11_isWhole_50
        · refine lv_iconst (pc := 45) (v := 1) hx hb dX11_isWhole_45 (by decide) ?_
          refine lv_goto (pc := 46) (tgt := 50) hx hb dX11_isWhole_46 (by decide) ?_
          obtain rfl := Option.some.inj hf
          rw [hQ]
          exact q_zretr (pc := 50) hx hb hr rfl hlocks rfl hS dX11_isWhole_50
    · refine lv_aload_n (pc := 10) hx hb dX11_isWhole_10 rfl (lv_at hl 1 rfl) ?_
      refine va_get (pc := 11) (D := D) (ci := 11) (v := .int m_boxTop) (C := RX11) (T := TX11) (N := 42) hx hb hts hinX11 hown hK hP 0 rfl rfl 27 (by decide) w_2 (fun _ h9 => h9) rfl dX11_isWhole_11 ?_
      refine q_if_ne (pc := 14) (tgt := 21) hx hb dX11_isWhole_14 (by decide) rfl hf (fun hf => ?_) (fun hf => ?_)
      · refine lv_iconst (pc := 21) (v := 0) hx hb dX11_isWhole_21 (by decide) ?_
        obtain rfl := Option.some.inj hf
        rw [hQ]
        exact q_zretr (pc := 22) hx hb hr rfl hlocks rfl hS dX11_isWhole_22
      · refine lv_iconst (pc := 17) (v := 1) hx hb dX11_isWhole_17 (by decide) ?_
        refine lv_goto (pc := 18) (tgt := 22) hx hb dX11_isWhole_18 (by decide) ?_
        obtain rfl := Option.some.inj hf
        rw [hQ]
        exact q_zretr (pc := 22) hx hb hr rfl hlocks rfl hS dX11_isWhole_22
  exact hgo _ _ rfl hP hS
/-! X11_isWholeAbove -/
set_option maxRecDepth 100000 in
set_option maxHeartbeats 4000000 in
theorem c_M_isWholeAbove (l : Launch) (D : va_G) (ci : Nat → ClassId) (A : Nat → Prop) (sa : Nat → Nat) (N : Nat) (Rw : va_W) (a_m : Nat) (a_m_cutRows : Nat) (a_m_cutColumns : Nat) (a_m_deep : Nat) (a_m_wide : Nat) (a_m_zonesAhead : Nat) (a_m_nameOne : Nat) (a_m_nameOther : Nat) (a_m_tape : Nat) (a_m_edges : Nat) (a_m_dist : Nat) (a_m_queue : Nat) (a_m_pieceLevel : Nat) (a_m_pieceKey : Nat) (a_m_pieceYear : Nat) (a_m_drawnKeys : Nat) (a_m_kept : Nat) (a_m_noNumbers : Nat) (m_taped : Int32) (m_place : Int32) (m_fault : Int32) (m_number : Int32) (m_levelRead : Int32) (m_keyRead : Int32) (m_reads : Int32) (m_faults : Int32) (m_cutShort : Int32) (m_noNumber : Int32) (m_bottomLat : Int64) (m_bottomLon : Int64) (m_firstBeside : Int32) (m_manyBeside : Int32) (m_queued : Int32) (m_boxLevel : Int32) (m_boxTop : Int32) (m_boxBottom : Int32) (m_boxWest : Int32) (m_boxEast : Int32) (m_isEarly : Int32) (m_pieces : Int32) (m_states : Int32) (m_drawnNow : Int32) (m_keptAt : Int32) (m_cutRows : Nat → Int32) (m_cutColumns : Nat → Int32) (m_deep : Nat → Int32) (m_wide : Nat → Int32) (p1 : Int32) (p2 : Int32) (p3 : Int32) (r : Int32) (hf : f_M_isWholeAbove m_cutRows m_cutColumns m_deep m_wide m_boxLevel m_boxTop m_boxBottom m_boxWest m_boxEast p1 p2 p3 = some r) : Met l yX11_isWholeAbove wsX11_isWholeAbove ({ frames := 5, cells := 0, slots := 0, locals := 118 }) (va_Pc [.ref a_m, .int p1, .int p2, .int p3] (q_N D ci A sa ((a_m, .inr (11, (.ref a_m_cutRows :: .ref a_m_cutColumns :: .ref a_m_deep :: .ref a_m_wide :: .ref a_m_zonesAhead :: .ref a_m_nameOne :: .ref a_m_nameOther :: .ref a_m_tape :: .int m_taped :: .int m_place :: .int m_fault :: .int m_number :: .int m_levelRead :: .int m_keyRead :: .int m_reads :: .int m_faults :: .int m_cutShort :: .int m_noNumber :: .long m_bottomLat :: .long m_bottomLon :: .ref a_m_edges :: .int m_firstBeside :: .int m_manyBeside :: .ref a_m_dist :: .ref a_m_queue :: .int m_queued :: .int m_boxLevel :: .int m_boxTop :: .int m_boxBottom :: .int m_boxWest :: .int m_boxEast :: .int m_isEarly :: .int m_pieces :: .int m_states :: .ref a_m_pieceLevel :: .ref a_m_pieceKey :: .ref a_m_pieceYear :: .int m_drawnNow :: .ref a_m_drawnKeys :: .ref a_m_kept :: .int m_keptAt :: .ref a_m_noNumbers :: []))) :: (a_m_cutRows, .inl (ci 0, 5, .inl m_cutRows)) :: (a_m_cutColumns, .inl (ci 0, 5, .inl m_cutColumns)) :: (a_m_deep, .inl (ci 0, 5, .inl m_deep)) :: (a_m_wide, .inl (ci 0, 5, .inl m_wide)) :: Rw))) (q_R (some (.int r))) 0 0 A := by
  refine q_ofW (cc := cX11_isWholeAbove) (maxL := 4) (ret := (some .boolean)) [.ref a_m, .int p1, .int p2, .int p3] (plainFor_of_name (by decide)) rfl (Nat.le_of_ble_eq_true rfl) ?_
  intro p e s m below meth c ls Q hQ hx hb hml hr hts hown hlocks hK hA hZ hP hD hS hl
  have hl : lv_has ls 4 [(0, .ref a_m), (1, .int p1), (2, .int p2), (3, .int p3)] := hl
  have hown : s.vm.findClass RX11 = some m.cls := hown
  have hinX11 : ∀ w ∈ wsX110, w ∈ wsX11_isWholeAbove := fun _ h => List.mem_cons_of_mem _ (inWX110 _ h)
  have w_1 := hts (Cond.fieldLink RX11 7 "SheetNamesModel" "cutRows" "[I") (List.mem_cons_of_mem _ t_w924)
  have w_2 := hts (Cond.fieldLink RX11 13 "SheetNamesModel" "cutColumns" "[I") (List.mem_cons_of_mem _ t_w923)
  unfold f_M_isWholeAbove at hf
  have hgo : ∀ (H : Heap) (locs : List Loc), H = s.heap → va_P D vwCl ((a_m, .inr (11, (.ref a_m_cutRows :: .ref a_m_cutColumns :: .ref a_m_deep :: .ref a_m_wide :: .ref a_m_zonesAhead :: .ref a_m_nameOne :: .ref a_m_nameOther :: .ref a_m_tape :: .int m_taped :: .int m_place :: .int m_fault :: .int m_number :: .int m_levelRead :: .int m_keyRead :: .int m_reads :: .int m_faults :: .int m_cutShort :: .int m_noNumber :: .long m_bottomLat :: .long m_bottomLon :: .ref a_m_edges :: .int m_firstBeside :: .int m_manyBeside :: .ref a_m_dist :: .ref a_m_queue :: .int m_queued :: .int m_boxLevel :: .int m_boxTop :: .int m_boxBottom :: .int m_boxWest :: .int m_boxEast :: .int m_isEarly :: .int m_pieces :: .int m_states :: .ref a_m_pieceLevel :: .ref a_m_pieceKey :: .ref a_m_pieceYear :: .int m_drawnNow :: .ref a_m_drawnKeys :: .ref a_m_kept :: .int m_keptAt :: .ref a_m_noNumbers :: []))) :: (a_m_cutRows, .inl (ci 0, 5, .inl m_cutRows)) :: (a_m_cutColumns, .inl (ci 0, 5, .inl m_cutColumns)) :: (a_m_deep, .inl (ci 0, 5, .inl m_deep)) :: (a_m_wide, .inl (ci 0, 5, .inl m_wide)) :: Rw) H → va_S A s.heap H locs → W p l e ({ frames := 5, cells := 0, slots := 0, locals := 118 } : Room) s m ([.ref a_m, .int p1, .int p2, .int p3] : List Value).toArray below meth c H locs 0 0 Q (F0 m 0 ls []) := by
    intro H locs hH hP hS
    subst hH
    refine lv_iload_n (pc := 0) hx hb dX11_isWholeAbove_0 rfl (lv_at hl 2 rfl) ?_
    refine q_if_eq (pc := 1) (tgt := 13) hx hb dX11_isWholeAbove_1 (by decide) rfl hf (fun hf => ?_) (fun hf => ?_)
    · refine lv_iconst (pc := 13) (v := 1) hx hb dX11_isWholeAbove_13 (by decide) ?_
      obtain rfl := Option.some.inj hf
      rw [hQ]
      exact q_zretr (pc := 14) hx hb hr rfl hlocks rfl hS dX11_isWholeAbove_14
    · refine lv_iload_n (pc := 4) hx hb dX11_isWholeAbove_4 rfl (lv_at hl 2 rfl) ?_
      refine lv_aload_n (pc := 5) hx hb dX11_isWholeAbove_5 rfl (lv_at hl 0 rfl) ?_
      refine lv_iload_n (pc := 6) hx hb dX11_isWholeAbove_6 rfl (lv_at hl 1 rfl) ?_
      obtain ⟨v1, hm7, hf⟩ := q_b1_e hf
      refine q_cVr (pc := 7) (As := [.int p1]) (rest := [.int p2]) (v0 := (some (.int v1))) ⟨hx, hb, hml, hown, hts⟩ hK hA hZ hP hD hS hl.1 [0, 3] 5 rfl ⟨rfl, rfl, rfl⟩ (c_M_lastRow l D ci A sa N (Rw) a_m a_m_cutRows a_m_cutColumns a_m_deep a_m_wide a_m_zonesAhead a_m_nameOne a_m_nameOther a_m_tape a_m_edges a_m_dist a_m_queue a_m_pieceLevel a_m_pieceKey a_m_pieceYear a_m_drawnKeys a_m_kept a_m_noNumbers m_taped m_place m_fault m_number m_levelRead m_keyRead m_reads m_faults m_cutShort m_noNumber m_bottomLat m_bottomLon m_firstBeside m_manyBeside m_queued m_boxLevel m_boxTop m_boxBottom m_boxWest m_boxEast m_isEarly m_pieces m_states m_drawnNow m_keptAt m_deep p1 v1 hm7) 0 rfl rfl (cwV 1 hts gX11_isWholeAbove_X11_lastRow rfl rfl rfl (by decide +kernel) ⟨Nat.le_of_ble_eq_true rfl, Nat.le_of_ble_eq_true rfl⟩) rfl rfl (Nat.le_of_ble_eq_true rfl) dX11_isWholeAbove_7 ⟨Nat.zero_le _, Nat.zero_le _⟩ (fun locs hS => ?_)
      refine q_icmp_ne (pc := 10) (tgt := 15) hx hb dX11_isWholeAbove_10 (by decide) rfl hf (fun hf => ?_) (fun hf => ?_)
      · refine lv_aload_n (pc := 15) hx hb dX11_isWholeAbove_15 rfl (lv_at hl 0 rfl) ?_
        refine lv_iload_n (pc := 16) hx hb dX11_isWholeAbove_16 rfl (lv_at hl 1 rfl) ?_
        refine lv_iconst (pc := 17) (v := 1) hx hb dX11_isWholeAbove_17 (by decide) ?_
        refine lv_isub (pc := 18) hx hb dX11_isWholeAbove_18 ?_
        refine lv_iconst (pc := 19) (v := 1) hx hb dX11_isWholeAbove_19 (by decide) ?_
        refine lv_iload_n (pc := 20) hx hb dX11_isWholeAbove_20 rfl (lv_at hl 2 rfl) ?_
        refine lv_iconst (pc := 21) (v := 1) hx hb dX11_isWholeAbove_21 (by decide) ?_
        refine lv_isub (pc := 22) hx hb dX11_isWholeAbove_22 ?_
        refine lv_aload_n (pc := 23) hx hb dX11_isWholeAbove_23 rfl (lv_at hl 0 rfl) ?_
        refine va_get (pc := 24) (D := D) (ci := 11) (v := .ref a_m_cutRows) (C := RX11) (T := TX11) (N := 42) hx hb hts hinX11 hown hK hP 0 rfl rfl 0 (by decide) w_1 (fun _ h9 => h9) rfl dX11_isWholeAbove_24 ?_
        refine lv_iload_n (pc := 27) hx hb dX11_isWholeAbove_27 rfl (lv_at hl 1 rfl) ?_
        refine q_iald (pc := 28) hx hb hK hP 1 0 hf rfl rfl dX11_isWholeAbove_28 (fun v2 hf => ?_)
        refine q_idiv (pc := 29) hx hb dX11_isWholeAbove_29 hf (fun v3 hf => ?_)
        refine lv_iadd (pc := 30) hx hb dX11_isWholeAbove_30 ?_
        refine lv_iload_n (pc := 31) hx hb dX11_isWholeAbove_31 rfl (lv_at hl 3 rfl) ?_
        refine lv_aload_n (pc := 32) hx hb dX11_isWholeAbove_32 rfl (lv_at hl 0 rfl) ?_
        refine va_get (pc := 33) (D := D) (ci := 11) (v := .ref a_m_cutColumns) (C := RX11) (T := TX11) (N := 42) hx hb hts hinX11 hown hK hP 0 rfl rfl 1 (by decide) w_2 (fun _ h9 => h9) rfl dX11_isWholeAbove_33 ?_
        refine lv_iload_n (pc := 36) hx hb dX11_isWholeAbove_36 rfl (lv_at hl 1 rfl) ?_
        refine q_iald (pc := 37) hx hb hK hP 2 0 hf rfl rfl dX11_isWholeAbove_37 (fun v4 hf => ?_)
        refine q_idiv (pc := 38) hx hb dX11_isWholeAbove_38 hf (fun v5 hf => ?_)
        obtain ⟨v6, hm39, hf⟩ := q_b1_e hf
        refine q_cVr (pc := 39) (As := [.int (p1 - 1), .int (1 + v3), .int v5]) (rest := []) (v0 := (some (.int v6))) ⟨hx, hb, hml, hown, hts⟩ hK hA hZ hP hD hS hl.1 [0, 3, 4] 5 rfl ⟨rfl, rfl, rfl⟩ (c_M_isWhole l D ci A sa N (Rw) a_m a_m_cutRows a_m_cutColumns a_m_deep a_m_wide a_m_zonesAhead a_m_nameOne a_m_nameOther a_m_tape a_m_edges a_m_dist a_m_queue a_m_pieceLevel a_m_pieceKey a_m_pieceYear a_m_drawnKeys a_m_kept a_m_noNumbers m_taped m_place m_fault m_number m_levelRead m_keyRead m_reads m_faults m_cutShort m_noNumber m_bottomLat m_bottomLon m_firstBeside m_manyBeside m_queued m_boxLevel m_boxTop m_boxBottom m_boxWest m_boxEast m_isEarly m_pieces m_states m_drawnNow m_keptAt m_deep m_wide (p1 - 1) (1 + v3) v5 v6 hm39) 0 rfl rfl (cwV 3 hts gX11_isWholeAbove_X11_isWhole rfl rfl rfl (by decide +kernel) ⟨Nat.le_of_ble_eq_true rfl, Nat.le_of_ble_eq_true rfl⟩) rfl rfl (Nat.le_of_ble_eq_true rfl) dX11_isWholeAbove_39 ⟨Nat.zero_le _, Nat.zero_le _⟩ (fun locs hS => ?_)
        obtain ⟨hn9, hf9, hf⟩ := q_bo_e hf
        obtain rfl := Option.some.inj hf
        rw [hQ]
        exact q_zretr (pc := 42) hx hb hr hn9 hlocks rfl hS dX11_isWholeAbove_42
      · refine lv_iconst (pc := 13) (v := 1) hx hb dX11_isWholeAbove_13 (by decide) ?_
        obtain rfl := Option.some.inj hf
        rw [hQ]
        exact q_zretr (pc := 14) hx hb hr rfl hlocks rfl hS dX11_isWholeAbove_14
  exact hgo _ _ rfl hP hS
/-! X11_covers -/
set_option maxRecDepth 100000 in
set_option maxHeartbeats 4000000 in
theorem c_M_covers (l : Launch) (D : va_G) (ci : Nat → ClassId) (A : Nat → Prop) (sa : Nat → Nat) (N : Nat) (Rw : va_W) (a_m : Nat) (a_m_cutRows : Nat) (a_m_cutColumns : Nat) (a_m_deep : Nat) (a_m_wide : Nat) (a_m_zonesAhead : Nat) (a_m_nameOne : Nat) (a_m_nameOther : Nat) (a_m_tape : Nat) (a_m_edges : Nat) (a_m_dist : Nat) (a_m_queue : Nat) (a_m_pieceLevel : Nat) (a_m_pieceKey : Nat) (a_m_pieceYear : Nat) (a_m_drawnKeys : Nat) (a_m_kept : Nat) (a_m_noNumbers : Nat) (m_taped : Int32) (m_place : Int32) (m_fault : Int32) (m_number : Int32) (m_levelRead : Int32) (m_keyRead : Int32) (m_reads : Int32) (m_faults : Int32) (m_cutShort : Int32) (m_noNumber : Int32) (m_bottomLat : Int64) (m_bottomLon : Int64) (m_firstBeside : Int32) (m_manyBeside : Int32) (m_queued : Int32) (m_boxLevel : Int32) (m_boxTop : Int32) (m_boxBottom : Int32) (m_boxWest : Int32) (m_boxEast : Int32) (m_isEarly : Int32) (m_pieces : Int32) (m_states : Int32) (m_drawnNow : Int32) (m_keptAt : Int32) (m_cutRows : Nat → Int32) (m_cutColumns : Nat → Int32) (m_deep : Nat → Int32) (m_wide : Nat → Int32) (m_zonesAhead : Nat → Int32) (p1 : Int32) (r : Int32) (hf : f_M_covers N m_cutRows m_cutColumns m_deep m_wide m_zonesAhead m_boxLevel m_boxTop m_boxBottom m_boxWest m_boxEast p1 = some r) : Met l yX11_covers wsX11_covers ({ frames := 6, cells := 0, slots := 0, locals := 141 }) (va_Pc [.ref a_m, .int p1] (q_N D ci A sa ((a_m, .inr (11, (.ref a_m_cutRows :: .ref a_m_cutColumns :: .ref a_m_deep :: .ref a_m_wide :: .ref a_m_zonesAhead :: .ref a_m_nameOne :: .ref a_m_nameOther :: .ref a_m_tape :: .int m_taped :: .int m_place :: .int m_fault :: .int m_number :: .int m_levelRead :: .int m_keyRead :: .int m_reads :: .int m_faults :: .int m_cutShort :: .int m_noNumber :: .long m_bottomLat :: .long m_bottomLon :: .ref a_m_edges :: .int m_firstBeside :: .int m_manyBeside :: .ref a_m_dist :: .ref a_m_queue :: .int m_queued :: .int m_boxLevel :: .int m_boxTop :: .int m_boxBottom :: .int m_boxWest :: .int m_boxEast :: .int m_isEarly :: .int m_pieces :: .int m_states :: .ref a_m_pieceLevel :: .ref a_m_pieceKey :: .ref a_m_pieceYear :: .int m_drawnNow :: .ref a_m_drawnKeys :: .ref a_m_kept :: .int m_keptAt :: .ref a_m_noNumbers :: []))) :: (a_m_cutRows, .inl (ci 0, 5, .inl m_cutRows)) :: (a_m_cutColumns, .inl (ci 0, 5, .inl m_cutColumns)) :: (a_m_deep, .inl (ci 0, 5, .inl m_deep)) :: (a_m_wide, .inl (ci 0, 5, .inl m_wide)) :: (a_m_zonesAhead, .inl (ci 0, 45, .inl m_zonesAhead)) :: Rw))) (q_R (some (.int r))) 0 0 A := by
  refine q_ofW (cc := cX11_covers) (maxL := 13) (ret := (some .int)) [.ref a_m, .int p1] (plainFor_of_name (by decide)) rfl (Nat.le_of_ble_eq_true rfl) ?_
  intro p e s m below meth c ls Q hQ hx hb hml hr hts hown hlocks hK hA hZ hP hD hS hl
  have hl : lv_has ls 13 [(0, .ref a_m), (1, .int p1)] := hl
  have hown : s.vm.findClass RX11 = some m.cls := hown
  have hinX11 : ∀ w ∈ wsX110, w ∈ wsX11_covers := fun _ h => List.mem_cons_of_mem _ (inWX110 _ h)
  have w_1 := hts (Cond.fieldLink RX11 298 "SheetNamesModel" "boxLevel" "I") (List.mem_cons_of_mem _ t_w948)
  have w_2 := hts (Cond.fieldLink RX11 301 "SheetNamesModel" "boxTop" "I") (List.mem_cons_of_mem _ t_w949)
  have w_3 := hts (Cond.fieldLink RX11 16 "SheetNamesModel" "deep" "[I") (List.mem_cons_of_mem _ t_w908)
  have w_4 := hts (Cond.fieldLink RX11 304 "SheetNamesModel" "boxBottom" "I") (List.mem_cons_of_mem _ t_w950)
  have w_5 := hts (Cond.fieldLink RX11 307 "SheetNamesModel" "boxWest" "I") (List.mem_cons_of_mem _ t_w951)
  have w_6 := hts (Cond.fieldLink RX11 310 "SheetNamesModel" "boxEast" "I") (List.mem_cons_of_mem _ t_w952)
  have w_7 := hts (Cond.constant RX11 341 (100000000)) (List.mem_cons_of_mem _ t_w974)
  unfold f_M_covers at hf
  have hgo : ∀ (H : Heap) (locs : List Loc), H = s.heap → va_P D vwCl ((a_m, .inr (11, (.ref a_m_cutRows :: .ref a_m_cutColumns :: .ref a_m_deep :: .ref a_m_wide :: .ref a_m_zonesAhead :: .ref a_m_nameOne :: .ref a_m_nameOther :: .ref a_m_tape :: .int m_taped :: .int m_place :: .int m_fault :: .int m_number :: .int m_levelRead :: .int m_keyRead :: .int m_reads :: .int m_faults :: .int m_cutShort :: .int m_noNumber :: .long m_bottomLat :: .long m_bottomLon :: .ref a_m_edges :: .int m_firstBeside :: .int m_manyBeside :: .ref a_m_dist :: .ref a_m_queue :: .int m_queued :: .int m_boxLevel :: .int m_boxTop :: .int m_boxBottom :: .int m_boxWest :: .int m_boxEast :: .int m_isEarly :: .int m_pieces :: .int m_states :: .ref a_m_pieceLevel :: .ref a_m_pieceKey :: .ref a_m_pieceYear :: .int m_drawnNow :: .ref a_m_drawnKeys :: .ref a_m_kept :: .int m_keptAt :: .ref a_m_noNumbers :: []))) :: (a_m_cutRows, .inl (ci 0, 5, .inl m_cutRows)) :: (a_m_cutColumns, .inl (ci 0, 5, .inl m_cutColumns)) :: (a_m_deep, .inl (ci 0, 5, .inl m_deep)) :: (a_m_wide, .inl (ci 0, 5, .inl m_wide)) :: (a_m_zonesAhead, .inl (ci 0, 45, .inl m_zonesAhead)) :: Rw) H → va_S A s.heap H locs → W p l e ({ frames := 6, cells := 0, slots := 0, locals := 141 } : Room) s m ([.ref a_m, .int p1] : List Value).toArray below meth c H locs 0 0 Q (F0 m 0 ls []) := by
    intro H locs hH hP hS
    subst hH
    refine lv_iconst (pc := 0) (v := 0) hx hb dX11_covers_0 (by decide) ?_
    obtain ⟨v1, ev1, hf⟩ := q_nm_e hf
    refine q_topi ev1 ?_
    refine lv_istore_n (pc := 1) (lv' := [(2, .int v1), (0, .ref a_m), (1, .int p1)]) hx hb dX11_covers_1 rfl hl (by decide) rfl (fun ls hl => ?_)
    refine lv_iconst (pc := 2) (v := 0) hx hb dX11_covers_2 (by decide) ?_
    obtain ⟨v2, ev2, hf⟩ := q_nm_e hf
    refine q_topi ev2 ?_
    refine lv_istore_n (pc := 3) (lv' := [(3, .int v2), (2, .int v1), (0, .ref a_m), (1, .int p1)]) hx hb dX11_covers_3 rfl hl (by decide) rfl (fun ls hl => ?_)
    obtain ⟨k4, o4_, ek4, hm4, hk4⟩ := q_s1_k hf
    have JE4 : ∀ (v5 : Int32) (H : Heap) (locs : List Loc) (ls : Array Slot), k4 v5 = some r → H = s.heap → va_S A s.heap H locs → lv_has ls 13 [(1, .int p1), (2, .int v5)] → W p l e ({ frames := 6, cells := 0, slots := 0, locals := 141 } : Room) s m ([.ref a_m, .int p1] : List Value).toArray below meth c H locs 0 0 Q (F0 m 325 ls []) := by
      intro v5 H locs ls hf hHs hS hl
      subst hHs
      have hf := (ek4 v5).symm.trans hf
      refine lv_iload_n (pc := 325) hx hb dX11_covers_325 rfl (lv_at hl 0 rfl) ?_
      refine lv_iconst (pc := 326) (v := (-1)) hx hb dX11_covers_326 (by decide) ?_
      refine q_icmp_ne (pc := 327) (tgt := 334) hx hb dX11_covers_327 (by decide) rfl hf (fun hf => ?_) (fun hf => ?_)
      · refine lv_bipush (pc := 334) (v := (-3)) hx hb dX11_covers_334 (by decide) ?_
        obtain rfl := Option.some.inj hf
        rw [hQ]
        exact q_iretr (pc := 336) hx hb hr hlocks rfl hS dX11_covers_336
      · refine lv_iload_n (pc := 330) hx hb dX11_covers_330 rfl (lv_at hl 1 rfl) ?_
        refine lv_goto (pc := 331) (tgt := 336) hx hb dX11_covers_331 (by decide) ?_
        obtain rfl := Option.some.inj hf
        rw [hQ]
        exact q_iretr (pc := 336) hx hb hr hlocks rfl hS dX11_covers_336
    have LP4 : ∀ (n4 : Nat) (v3 : Int32) (v4 : Int32) (H : Heap) (locs : List Loc) (ls : Array Slot), f_M_covers_L4 N m_boxBottom m_boxEast m_boxLevel m_boxTop m_boxWest m_cutColumns m_cutRows m_deep m_wide m_zonesAhead p1 n4 v3 v4 = some o4_ → H = s.heap → va_S A s.heap H locs → lv_has ls 13 [(0, .ref a_m), (1, .int p1), (2, .int v3), (3, .int v4)] → W p l e ({ frames := 6, cells := 0, slots := 0, locals := 141 } : Room) s m ([.ref a_m, .int p1] : List Value).toArray below meth c H locs 0 0 Q (F0 m 4 ls []) := by
      intro n4
      induction n4 with
      | zero => intro v3 v4 H locs ls hf; rw [f_M_covers_L4] at hf; cases hf
      | succ n4 ih4 =>
        intro v3 v4 H locs ls hf hHs hS hl
        subst hHs
        rw [f_M_covers_L4] at hf
        refine lv_iload_n (pc := 4) hx hb dX11_covers_4 rfl (lv_at hl 3 rfl) ?_
        refine lv_aload_n (pc := 5) hx hb dX11_covers_5 rfl (lv_at hl 0 rfl) ?_
        refine va_get (pc := 6) (D := D) (ci := 11) (v := .int m_boxLevel) (C := RX11) (T := TX11) (N := 42) hx hb hts hinX11 hown hK hP 0 rfl rfl 26 (by decide) w_1 (fun _ h9 => h9) rfl dX11_covers_6 ?_
        refine q_icmp_gt (pc := 9) (tgt := 325) hx hb dX11_covers_9 (by decide) rfl hf (fun hf => ?_) (fun hf => ?_)
        · obtain rfl := Option.some.inj hf
          exact JE4 v3 _ _ _ hk4 rfl hS (lv_sub hl [1, 2] rfl)
        · refine lv_aload_n (pc := 12) hx hb dX11_covers_12 rfl (lv_at hl 0 rfl) ?_
          refine va_get (pc := 13) (D := D) (ci := 11) (v := .int m_boxTop) (C := RX11) (T := TX11) (N := 42) hx hb hts hinX11 hown hK hP 0 rfl rfl 27 (by decide) w_2 (fun _ h9 => h9) rfl dX11_covers_13 ?_
          obtain ⟨k48, ek48, hf⟩ := q_j1_e hf
          have J48 : ∀ (v6 : Int32) (H : Heap) (locs : List Loc) (ls : Array Slot), k48 v6 = some o4_ → H = s.heap → va_S A s.heap H locs → lv_has ls 13 [(0, .ref a_m), (1, .int p1), (2, .int v3), (3, .int v4)] → W p l e ({ frames := 6, cells := 0, slots := 0, locals := 141 } : Room) s m ([.ref a_m, .int p1] : List Value).toArray below meth c H locs 0 0 Q (F0 m 48 ls [.int v6]) := by
            intro v6 H locs ls hf hHs hS hl
            subst hHs
            have hf := (ek48 v6).symm.trans hf
            refine lv_istore (pc := 48) (lv' := [(4, .int v6), (0, .ref a_m), (1, .int p1), (2, .int v3), (3, .int v4)]) hx hb dX11_covers_48 hl (by decide) rfl (fun ls hl => ?_)
            refine lv_aload_n (pc := 50) hx hb dX11_covers_50 rfl (lv_at hl 1 rfl) ?_
            refine va_get (pc := 51) (D := D) (ci := 11) (v := .int m_boxBottom) (C := RX11) (T := TX11) (N := 42) hx hb hts hinX11 hown hK hP 0 rfl rfl 28 (by decide) w_4 (fun _ h9 => h9) rfl dX11_covers_51 ?_
            obtain ⟨k109, ek109, hf⟩ := q_j1_e hf
            have J109 : ∀ (v7 : Int32) (H : Heap) (locs : List Loc) (ls : Array Slot), k109 v7 = some o4_ → H = s.heap → va_S A s.heap H locs → lv_has ls 13 [(0, .ref a_m), (1, .int p1), (2, .int v3), (3, .int v4), (4, .int v6)] → W p l e ({ frames := 6, cells := 0, slots := 0, locals := 141 } : Room) s m ([.ref a_m, .int p1] : List Value).toArray below meth c H locs 0 0 Q (F0 m 109 ls [.int v7]) := by
              intro v7 H locs ls hf hHs hS hl
              subst hHs
              have hf := (ek109 v7).symm.trans hf
              refine lv_istore (pc := 109) (lv' := [(5, .int v7), (0, .ref a_m), (1, .int p1), (2, .int v3), (3, .int v4), (4, .int v6)]) hx hb dX11_covers_109 hl (by decide) rfl (fun ls hl => ?_)
              refine lv_aload_n (pc := 111) hx hb dX11_covers_111 rfl (lv_at hl 1 rfl) ?_
              refine va_get (pc := 112) (D := D) (ci := 11) (v := .int m_boxTop) (C := RX11) (T := TX11) (N := 42) hx hb hts hinX11 hown hK hP 0 rfl rfl 27 (by decide) w_2 (fun _ h9 => h9) rfl dX11_covers_112 ?_
              refine lv_aload_n (pc := 115) hx hb dX11_covers_115 rfl (lv_at hl 1 rfl) ?_
              refine lv_aload_n (pc := 116) hx hb dX11_covers_116 rfl (lv_at hl 1 rfl) ?_
              refine va_get (pc := 117) (D := D) (ci := 11) (v := .int m_boxLevel) (C := RX11) (T := TX11) (N := 42) hx hb hts hinX11 hown hK hP 0 rfl rfl 26 (by decide) w_1 (fun _ h9 => h9) rfl dX11_covers_117 ?_
              obtain ⟨v8, hm120, hf⟩ := q_b1_e hf
              refine q_cVr (pc := 120) (As := [.int m_boxLevel]) (rest := [.int m_boxTop]) (v0 := (some (.int v8))) ⟨hx, hb, hml, hown, hts⟩ hK hA hZ hP hD hS hl.1 [0, 3] 6 rfl ⟨rfl, rfl, rfl⟩ (c_M_lastRow l D ci A sa N (Rw) a_m a_m_cutRows a_m_cutColumns a_m_deep a_m_wide a_m_zonesAhead a_m_nameOne a_m_nameOther a_m_tape a_m_edges a_m_dist a_m_queue a_m_pieceLevel a_m_pieceKey a_m_pieceYear a_m_drawnKeys a_m_kept a_m_noNumbers m_taped m_place m_fault m_number m_levelRead m_keyRead m_reads m_faults m_cutShort m_noNumber m_bottomLat m_bottomLon m_firstBeside m_manyBeside m_queued m_boxLevel m_boxTop m_boxBottom m_boxWest m_boxEast m_isEarly m_pieces m_states m_drawnNow m_keptAt m_deep m_boxLevel v8 hm120) 0 rfl rfl (cwV 1 hts gX11_covers_X11_lastRow rfl rfl rfl (by decide +kernel) ⟨Nat.le_of_ble_eq_true rfl, Nat.le_of_ble_eq_true rfl⟩) rfl rfl (Nat.le_of_ble_eq_true rfl) dX11_covers_120 ⟨Nat.zero_le _, Nat.zero_le _⟩ (fun locs hS => ?_)
              obtain ⟨k133, ek133, hf⟩ := q_j1_e hf
              have J133 : ∀ (v9 : Int32) (H : Heap) (locs : List Loc) (ls : Array Slot), k133 v9 = some o4_ → H = s.heap → va_S A s.heap H locs → lv_has ls 13 [(0, .ref a_m), (1, .int p1), (2, .int v3), (3, .int v4), (4, .int v9), (5, .int v7)] → W p l e ({ frames := 6, cells := 0, slots := 0, locals := 141 } : Room) s m ([.ref a_m, .int p1] : List Value).toArray below meth c H locs 0 0 Q (F0 m 133 ls []) := by
                intro v9 H locs ls hf hHs hS hl
                subst hHs
                have hf := (ek133 v9).symm.trans hf
                refine lv_iload (pc := 133) hx hb dX11_covers_133 (lv_at hl 4 rfl) ?_
                refine lv_istore (pc := 135) (lv' := [(6, .int v9), (0, .ref a_m), (1, .int p1), (2, .int v3), (3, .int v4), (4, .int v9), (5, .int v7)]) hx hb dX11_covers_135 hl (by decide) rfl (fun ls hl => ?_)
                obtain ⟨k137, o137_, ek137, hm137, hk137⟩ := q_s1_k hf
                have JE137 : ∀ (v12 : Int32) (H : Heap) (locs : List Loc) (ls : Array Slot), k137 v12 = some o4_ → H = s.heap → va_S A s.heap H locs → lv_has ls 13 [(0, .ref a_m), (1, .int p1), (2, .int v12), (3, .int v4)] → W p l e ({ frames := 6, cells := 0, slots := 0, locals := 141 } : Room) s m ([.ref a_m, .int p1] : List Value).toArray below meth c H locs 0 0 Q (F0 m 319 ls []) := by
                  intro v12 H locs ls hf hHs hS hl
                  subst hHs
                  have hf := (ek137 v12).symm.trans hf
                  obtain ⟨v13, ev13, hf⟩ := q_nm_e hf
                  refine lv_iinc (pc := 319) (v := v13) (lv' := [(3, .int v13), (0, .ref a_m), (1, .int p1), (2, .int v12)]) hx hb dX11_covers_319 hl (k := 3) rfl (by rw [ev13]; rfl) (by decide) rfl (fun ls hl => ?_)
                  refine lv_goto (pc := 322) (tgt := 4) hx hb dX11_covers_322 (by decide) ?_
                  exact ih4 v12 v13 _ _ _ hf rfl hS (lv_sub hl [1, 2, 3, 0] rfl)
                have LP137 : ∀ (n137 : Nat) (v10 : Int32) (v11 : Int32) (H : Heap) (locs : List Loc) (ls : Array Slot), f_M_covers_L137 N m_boxBottom m_boxEast m_boxLevel m_boxTop m_boxWest m_cutColumns m_cutRows m_deep m_wide m_zonesAhead p1 v4 v7 n137 v10 v11 = some o137_ → H = s.heap → va_S A s.heap H locs → lv_has ls 13 [(0, .ref a_m), (1, .int p1), (2, .int v10), (3, .int v4), (5, .int v7), (6, .int v11)] → W p l e ({ frames := 6, cells := 0, slots := 0, locals := 141 } : Room) s m ([.ref a_m, .int p1] : List Value).toArray below meth c H locs 0 0 Q (F0 m 137 ls []) := by
                  intro n137
                  induction n137 with
                  | zero => intro v10 v11 H locs ls hf; rw [f_M_covers_L137] at hf; cases hf
                  | succ n137 ih137 =>
                    intro v10 v11 H locs ls hf hHs hS hl
                    subst hHs
                    rw [f_M_covers_L137] at hf
                    refine lv_iload (pc := 137) hx hb dX11_covers_137 (lv_at hl 5 rfl) ?_
                    refine lv_iload (pc := 139) hx hb dX11_covers_139 (lv_at hl 4 rfl) ?_
                    refine q_icmp_gt (pc := 141) (tgt := 319) hx hb dX11_covers_141 (by decide) rfl hf (fun hf => ?_) (fun hf => ?_)
                    · obtain rfl := Option.some.inj hf
                      exact JE137 v10 _ _ _ hk137 rfl hS (lv_sub hl [0, 1, 2, 3] rfl)
                    · refine lv_aload_n (pc := 144) hx hb dX11_covers_144 rfl (lv_at hl 0 rfl) ?_
                      refine lv_iload_n (pc := 145) hx hb dX11_covers_145 rfl (lv_at hl 3 rfl) ?_
                      refine lv_iload (pc := 146) hx hb dX11_covers_146 (lv_at hl 5 rfl) ?_
                      obtain ⟨v14, hm148, hf⟩ := q_b1_e hf
                      refine q_cVr (pc := 148) (As := [.int v4, .int v11]) (rest := []) (v0 := (some (.int v14))) ⟨hx, hb, hml, hown, hts⟩ hK hA hZ hP hD hS hl.1 [0, 3, 4] 6 rfl ⟨rfl, rfl, rfl⟩ (c_M_many l D ci A sa N (Rw) a_m a_m_cutRows a_m_cutColumns a_m_deep a_m_wide a_m_zonesAhead a_m_nameOne a_m_nameOther a_m_tape a_m_edges a_m_dist a_m_queue a_m_pieceLevel a_m_pieceKey a_m_pieceYear a_m_drawnKeys a_m_kept a_m_noNumbers m_taped m_place m_fault m_number m_levelRead m_keyRead m_reads m_faults m_cutShort m_noNumber m_bottomLat m_bottomLon m_firstBeside m_manyBeside m_queued m_boxLevel m_boxTop m_boxBottom m_boxWest m_boxEast m_isEarly m_pieces m_states m_drawnNow m_keptAt m_deep m_wide v4 v11 v14 hm148) 0 rfl rfl (cwV 2 hts gX11_covers_X11_many rfl rfl rfl (by decide +kernel) ⟨Nat.le_of_ble_eq_true rfl, Nat.le_of_ble_eq_true rfl⟩) rfl rfl (Nat.le_of_ble_eq_true rfl) dX11_covers_148 ⟨Nat.zero_le _, Nat.zero_le _⟩ (fun locs hS => ?_)
                      refine lv_istore (pc := 151) (lv' := [(7, .int v14), (0, .ref a_m), (1, .int p1), (2, .int v10), (3, .int v4), (5, .int v7), (6, .int v11)]) hx hb dX11_covers_151 hl (by decide) rfl (fun ls hl => ?_)
                      refine lv_aload_n (pc := 153) hx hb dX11_covers_153 rfl (lv_at hl 1 rfl) ?_
                      refine lv_aload_n (pc := 154) hx hb dX11_covers_154 rfl (lv_at hl 1 rfl) ?_
                      refine va_get (pc := 155) (D := D) (ci := 11) (v := .int m_boxWest) (C := RX11) (T := TX11) (N := 42) hx hb hts hinX11 hown hK hP 0 rfl rfl 29 (by decide) w_5 (fun _ h9 => h9) rfl dX11_covers_155 ?_
                      refine lv_iload (pc := 158) hx hb dX11_covers_158 (lv_at hl 0 rfl) ?_
                      obtain ⟨v15, hm160, hf⟩ := q_b1_e hf
                      refine q_cVr (pc := 160) (As := [.int m_boxWest, .int v14]) (rest := []) (v0 := (some (.int v15))) ⟨hx, hb, hml, hown, hts⟩ hK hA hZ hP hD hS hl.1 [0] 6 rfl ⟨rfl, rfl, rfl⟩ (c_M_placeAt l D ci A sa N (Rw) a_m a_m_cutRows a_m_cutColumns a_m_deep a_m_wide a_m_zonesAhead a_m_nameOne a_m_nameOther a_m_tape a_m_edges a_m_dist a_m_queue a_m_pieceLevel a_m_pieceKey a_m_pieceYear a_m_drawnKeys a_m_kept a_m_noNumbers m_taped m_place m_fault m_number m_levelRead m_keyRead m_reads m_faults m_cutShort m_noNumber m_bottomLat m_bottomLon m_firstBeside m_manyBeside m_queued m_boxLevel m_boxTop m_boxBottom m_boxWest m_boxEast m_isEarly m_pieces m_states m_drawnNow m_keptAt m_boxWest v14 v15 hm160) 0 rfl rfl (cwV 2 hts gX11_covers_X11_placeAt rfl rfl rfl (by decide +kernel) ⟨Nat.le_of_ble_eq_true rfl, Nat.le_of_ble_eq_true rfl⟩) rfl rfl (Nat.le_of_ble_eq_true rfl) dX11_covers_160 ⟨Nat.zero_le _, Nat.zero_le _⟩ (fun locs hS => ?_)
                      refine lv_istore (pc := 163) (lv' := [(8, .int v15), (7, .int v14), (0, .ref a_m), (1, .int p1), (2, .int v10), (3, .int v4), (5, .int v7), (6, .int v11)]) hx hb dX11_covers_163 hl (by decide) rfl (fun ls hl => ?_)
                      refine lv_aload_n (pc := 165) hx hb dX11_covers_165 rfl (lv_at hl 2 rfl) ?_
                      refine lv_aload_n (pc := 166) hx hb dX11_covers_166 rfl (lv_at hl 2 rfl) ?_
                      refine va_get (pc := 167) (D := D) (ci := 11) (v := .int m_boxEast) (C := RX11) (T := TX11) (N := 42) hx hb hts hinX11 hown hK hP 0 rfl rfl 30 (by decide) w_6 (fun _ h9 => h9) rfl dX11_covers_167 ?_
                      refine lv_iload (pc := 170) hx hb dX11_covers_170 (lv_at hl 1 rfl) ?_
                      obtain ⟨v16, hm172, hf⟩ := q_b1_e hf
                      refine q_cVr (pc := 172) (As := [.int m_boxEast, .int v14]) (rest := []) (v0 := (some (.int v16))) ⟨hx, hb, hml, hown, hts⟩ hK hA hZ hP hD hS hl.1 [0] 6 rfl ⟨rfl, rfl, rfl⟩ (c_M_placeAt l D ci A sa N (Rw) a_m a_m_cutRows a_m_cutColumns a_m_deep a_m_wide a_m_zonesAhead a_m_nameOne a_m_nameOther a_m_tape a_m_edges a_m_dist a_m_queue a_m_pieceLevel a_m_pieceKey a_m_pieceYear a_m_drawnKeys a_m_kept a_m_noNumbers m_taped m_place m_fault m_number m_levelRead m_keyRead m_reads m_faults m_cutShort m_noNumber m_bottomLat m_bottomLon m_firstBeside m_manyBeside m_queued m_boxLevel m_boxTop m_boxBottom m_boxWest m_boxEast m_isEarly m_pieces m_states m_drawnNow m_keptAt m_boxEast v14 v16 hm172) 0 rfl rfl (cwV 2 hts gX11_covers_X11_placeAt rfl rfl rfl (by decide +kernel) ⟨Nat.le_of_ble_eq_true rfl, Nat.le_of_ble_eq_true rfl⟩) rfl rfl (Nat.le_of_ble_eq_true rfl) dX11_covers_172 ⟨Nat.zero_le _, Nat.zero_le _⟩ (fun locs hS => ?_)
                      refine lv_istore (pc := 175) (lv' := [(9, .int v16), (8, .int v15), (7, .int v14), (0, .ref a_m), (1, .int p1), (2, .int v10), (3, .int v4), (5, .int v7), (6, .int v11)]) hx hb dX11_covers_175 hl (by decide) rfl (fun ls hl => ?_)
                      refine lv_aload_n (pc := 177) hx hb dX11_covers_177 rfl (lv_at hl 3 rfl) ?_
                      refine va_get (pc := 178) (D := D) (ci := 11) (v := .int m_boxWest) (C := RX11) (T := TX11) (N := 42) hx hb hts hinX11 hown hK hP 0 rfl rfl 29 (by decide) w_5 (fun _ h9 => h9) rfl dX11_covers_178 ?_
                      refine lv_aload_n (pc := 181) hx hb dX11_covers_181 rfl (lv_at hl 3 rfl) ?_
                      refine va_get (pc := 182) (D := D) (ci := 11) (v := .int m_boxEast) (C := RX11) (T := TX11) (N := 42) hx hb hts hinX11 hown hK hP 0 rfl rfl 30 (by decide) w_6 (fun _ h9 => h9) rfl dX11_covers_182 ?_
                      obtain ⟨k193, ek193, hf⟩ := q_j1_e hf
                      have J193 : ∀ (v17 : Int32) (H : Heap) (locs : List Loc) (ls : Array Slot), k193 v17 = some o137_ → H = s.heap → va_S A s.heap H locs → lv_has ls 13 [(0, .ref a_m), (1, .int p1), (2, .int v10), (3, .int v4), (5, .int v7), (6, .int v11), (7, .int v14), (8, .int v15), (9, .int v16)] → W p l e ({ frames := 6, cells := 0, slots := 0, locals := 141 } : Room) s m ([.ref a_m, .int p1] : List Value).toArray below meth c H locs 0 0 Q (F0 m 193 ls [.int v17]) := by
                        intro v17 H locs ls hf hHs hS hl
                        subst hHs
                        have hf := (ek193 v17).symm.trans hf
                        refine lv_istore (pc := 193) (lv' := [(10, .int v17), (0, .ref a_m), (1, .int p1), (2, .int v10), (3, .int v4), (5, .int v7), (6, .int v11), (7, .int v14), (8, .int v15), (9, .int v16)]) hx hb dX11_covers_193 hl (by decide) rfl (fun ls hl => ?_)
                        refine lv_iconst (pc := 195) (v := 0) hx hb dX11_covers_195 (by decide) ?_
                        obtain ⟨v18, ev18, hf⟩ := q_nm_e hf
                        refine q_topi ev18 ?_
                        refine lv_istore (pc := 196) (lv' := [(11, .int v18), (10, .int v17), (0, .ref a_m), (1, .int p1), (2, .int v10), (3, .int v4), (5, .int v7), (6, .int v11), (7, .int v14), (8, .int v15), (9, .int v16)]) hx hb dX11_covers_196 hl (by decide) rfl (fun ls hl => ?_)
                        obtain ⟨k198, o198_, ek198, hm198, hk198⟩ := q_s1_k hf
                        have JE198 : ∀ (v21 : Int32) (H : Heap) (locs : List Loc) (ls : Array Slot), k198 v21 = some o137_ → H = s.heap → va_S A s.heap H locs → lv_has ls 13 [(0, .ref a_m), (1, .int p1), (2, .int v21), (3, .int v4), (5, .int v7), (6, .int v11)] → W p l e ({ frames := 6, cells := 0, slots := 0, locals := 141 } : Room) s m ([.ref a_m, .int p1] : List Value).toArray below meth c H locs 0 0 Q (F0 m 313 ls []) := by
                          intro v21 H locs ls hf hHs hS hl
                          subst hHs
                          have hf := (ek198 v21).symm.trans hf
                          obtain ⟨v22, ev22, hf⟩ := q_nm_e hf
                          refine lv_iinc (pc := 313) (v := v22) (lv' := [(6, .int v22), (0, .ref a_m), (1, .int p1), (2, .int v21), (3, .int v4), (5, .int v7)]) hx hb dX11_covers_313 hl (k := 5) rfl (by rw [ev22]; rfl) (by decide) rfl (fun ls hl => ?_)
                          refine lv_goto (pc := 316) (tgt := 137) hx hb dX11_covers_316 (by decide) ?_
                          exact ih137 v21 v22 _ _ _ hf rfl hS (lv_sub hl [1, 2, 3, 4, 5, 0] rfl)
                        have LP198 : ∀ (n198 : Nat) (v19 : Int32) (v20 : Int32) (H : Heap) (locs : List Loc) (ls : Array Slot), f_M_covers_L198 m_boxBottom m_boxEast m_boxLevel m_boxTop m_boxWest m_cutColumns m_cutRows m_deep m_wide m_zonesAhead p1 v11 v14 v15 v16 v17 v4 n198 v19 v20 = some o198_ → H = s.heap → va_S A s.heap H locs → lv_has ls 13 [(0, .ref a_m), (1, .int p1), (2, .int v19), (3, .int v4), (5, .int v7), (6, .int v11), (7, .int v14), (8, .int v15), (9, .int v16), (10, .int v17), (11, .int v20)] → W p l e ({ frames := 6, cells := 0, slots := 0, locals := 141 } : Room) s m ([.ref a_m, .int p1] : List Value).toArray below meth c H locs 0 0 Q (F0 m 198 ls []) := by
                          intro n198
                          induction n198 with
                          | zero => intro v19 v20 H locs ls hf; rw [f_M_covers_L198] at hf; cases hf
                          | succ n198 ih198 =>
                            intro v19 v20 H locs ls hf hHs hS hl
                            subst hHs
                            rw [f_M_covers_L198] at hf
                            refine lv_iload (pc := 198) hx hb dX11_covers_198 (lv_at hl 10 rfl) ?_
                            refine lv_iload (pc := 200) hx hb dX11_covers_200 (lv_at hl 6 rfl) ?_
                            refine q_icmp_ge (pc := 202) (tgt := 313) hx hb dX11_covers_202 (by decide) rfl hf (fun hf => ?_) (fun hf => ?_)
                            · obtain rfl := Option.some.inj hf
                              exact JE198 v19 _ _ _ hk198 rfl hS (lv_sub hl [0, 1, 2, 3, 4, 5] rfl)
                            · refine lv_iload (pc := 205) hx hb dX11_covers_205 (lv_at hl 9 rfl) ?_
                              obtain ⟨k244, ek244, hf⟩ := q_j1_e hf
                              have J244 : ∀ (v23 : Int32) (H : Heap) (locs : List Loc) (ls : Array Slot), k244 v23 = some o198_ → H = s.heap → va_S A s.heap H locs → lv_has ls 13 [(0, .ref a_m), (1, .int p1), (2, .int v19), (3, .int v4), (5, .int v7), (6, .int v11), (7, .int v14), (8, .int v15), (9, .int v16), (10, .int v17), (11, .int v20)] → W p l e ({ frames := 6, cells := 0, slots := 0, locals := 141 } : Room) s m ([.ref a_m, .int p1] : List Value).toArray below meth c H locs 0 0 Q (F0 m 244 ls [.int v23]) := by
                                intro v23 H locs ls hf hHs hS hl
                                subst hHs
                                have hf := (ek244 v23).symm.trans hf
                                refine lv_istore (pc := 244) (lv' := [(12, .int v23), (0, .ref a_m), (1, .int p1), (2, .int v19), (3, .int v4), (5, .int v7), (6, .int v11), (7, .int v14), (8, .int v15), (9, .int v16), (10, .int v17), (11, .int v20)]) hx hb dX11_covers_244 hl (by decide) rfl (fun ls hl => ?_)
                                refine lv_iload (pc := 246) hx hb dX11_covers_246 (lv_at hl 0 rfl) ?_
                                obtain ⟨k307, ek307, hf⟩ := q_j1_e hf
                                have J307 : ∀ (v24 : Int32) (H : Heap) (locs : List Loc) (ls : Array Slot), k307 v24 = some o198_ → H = s.heap → va_S A s.heap H locs → lv_has ls 13 [(0, .ref a_m), (1, .int p1), (2, .int v24), (3, .int v4), (5, .int v7), (6, .int v11), (7, .int v14), (8, .int v15), (9, .int v16), (10, .int v17), (11, .int v20)] → W p l e ({ frames := 6, cells := 0, slots := 0, locals := 141 } : Room) s m ([.ref a_m, .int p1] : List Value).toArray below meth c H locs 0 0 Q (F0 m 307 ls []) := by
                                  intro v24 H locs ls hf hHs hS hl
                                  subst hHs
                                  have hf := (ek307 v24).symm.trans hf
                                  obtain ⟨v25, ev25, hf⟩ := q_nm_e hf
                                  refine lv_iinc (pc := 307) (v := v25) (lv' := [(11, .int v25), (0, .ref a_m), (1, .int p1), (2, .int v24), (3, .int v4), (5, .int v7), (6, .int v11), (7, .int v14), (8, .int v15), (9, .int v16), (10, .int v17)]) hx hb dX11_covers_307 hl (k := 10) rfl (by rw [ev25]; rfl) (by decide) rfl (fun ls hl => ?_)
                                  refine lv_goto (pc := 310) (tgt := 198) hx hb dX11_covers_310 (by decide) ?_
                                  exact ih198 v24 v25 _ _ _ hf rfl hS (lv_sub hl [1, 2, 3, 4, 5, 6, 7, 8, 9, 10, 0] rfl)
                                refine q_if_eq (pc := 248) (tgt := 307) hx hb dX11_covers_248 (by decide) rfl hf (fun hf => ?_) (fun hf => ?_)
                                · exact J307 v19 _ _ _ hf rfl hS (lv_sub hl [1, 2, 3, 4, 5, 6, 7, 8, 9, 10, 11] rfl)
                                · refine lv_aload_n (pc := 251) hx hb dX11_covers_251 rfl (lv_at hl 1 rfl) ?_
                                  refine lv_iload_n (pc := 252) hx hb dX11_covers_252 rfl (lv_at hl 4 rfl) ?_
                                  refine lv_iload (pc := 253) hx hb dX11_covers_253 (lv_at hl 6 rfl) ?_
                                  refine lv_iload (pc := 255) hx hb dX11_covers_255 (lv_at hl 11 rfl) ?_
                                  obtain ⟨v26, hm257, hf⟩ := q_b1_e hf
                                  refine q_cVr (pc := 257) (As := [.int v4, .int v11, .int v20]) (rest := []) (v0 := (some (.int v26))) ⟨hx, hb, hml, hown, hts⟩ hK hA hZ hP hD hS hl.1 [0, 3, 4] 6 rfl ⟨rfl, rfl, rfl⟩ (c_M_isWhole l D ci A sa N (Rw) a_m a_m_cutRows a_m_cutColumns a_m_deep a_m_wide a_m_zonesAhead a_m_nameOne a_m_nameOther a_m_tape a_m_edges a_m_dist a_m_queue a_m_pieceLevel a_m_pieceKey a_m_pieceYear a_m_drawnKeys a_m_kept a_m_noNumbers m_taped m_place m_fault m_number m_levelRead m_keyRead m_reads m_faults m_cutShort m_noNumber m_bottomLat m_bottomLon m_firstBeside m_manyBeside m_queued m_boxLevel m_boxTop m_boxBottom m_boxWest m_boxEast m_isEarly m_pieces m_states m_drawnNow m_keptAt m_deep m_wide v4 v11 v20 v26 hm257) 0 rfl rfl (cwV 3 hts gX11_covers_X11_isWhole rfl rfl rfl (by decide +kernel) ⟨Nat.le_of_ble_eq_true rfl, Nat.le_of_ble_eq_true rfl⟩) rfl rfl (Nat.le_of_ble_eq_true rfl) dX11_covers_257 ⟨Nat.zero_le _, Nat.zero_le _⟩ (fun locs hS => ?_)
                                  refine q_if_eq (pc := 260) (tgt := 307) hx hb dX11_covers_260 (by decide) rfl hf (fun hf => ?_) (fun hf => ?_)
                                  · exact J307 v19 _ _ _ hf rfl hS (lv_sub hl [1, 2, 3, 4, 5, 6, 7, 8, 9, 10, 11] rfl)
                                  · refine lv_iload_n (pc := 263) hx hb dX11_covers_263 rfl (lv_at hl 4 rfl) ?_
                                    obtain ⟨k282, ek282, hf⟩ := q_j0_e hf
                                    have J282 : ∀  (H : Heap) (locs : List Loc) (ls : Array Slot), k282 = some o198_ → H = s.heap → va_S A s.heap H locs → lv_has ls 13 [(0, .ref a_m), (1, .int p1), (2, .int v19), (3, .int v4), (5, .int v7), (6, .int v11), (7, .int v14), (8, .int v15), (9, .int v16), (10, .int v17), (11, .int v20)] → W p l e ({ frames := 6, cells := 0, slots := 0, locals := 141 } : Room) s m ([.ref a_m, .int p1] : List Value).toArray below meth c H locs 0 0 Q (F0 m 282 ls []) := by
                                      intro  H locs ls hf hHs hS hl
                                      subst hHs
                                      have hf := (ek282).symm.trans hf
                                      refine lv_iload_n (pc := 282) hx hb dX11_covers_282 rfl (lv_at hl 2 rfl) ?_
                                      refine lv_iload_n (pc := 283) hx hb dX11_covers_283 rfl (lv_at hl 1 rfl) ?_
                                      refine q_icmp_ne (pc := 284) (tgt := 303) hx hb dX11_covers_284 (by decide) rfl hf (fun hf => ?_) (fun hf => ?_)
                                      · refine lv_iload_n (pc := 303) hx hb dX11_covers_303 rfl (lv_at hl 2 rfl) ?_
                                        refine lv_iconst (pc := 304) (v := 1) hx hb dX11_covers_304 (by decide) ?_
                                        refine lv_iadd (pc := 305) hx hb dX11_covers_305 ?_
                                        obtain ⟨v27, ev27, hf⟩ := q_nm_e hf
                                        refine q_topi ev27 ?_
                                        refine lv_istore_n (pc := 306) (lv' := [(2, .int v27), (0, .ref a_m), (1, .int p1), (3, .int v4), (5, .int v7), (6, .int v11), (7, .int v14), (8, .int v15), (9, .int v16), (10, .int v17), (11, .int v20)]) hx hb dX11_covers_306 rfl hl (by decide) rfl (fun ls hl => ?_)
                                        exact J307 v27 _ _ _ hf rfl hS (lv_sub hl [1, 2, 0, 3, 4, 5, 6, 7, 8, 9, 10] rfl)
                                      · refine lv_ldcw (pc := 287) (v := 100000000) hx hb hown w_7 dX11_covers_287 ?_
                                        refine lv_iload_n (pc := 290) hx hb dX11_covers_290 rfl (lv_at hl 3 rfl) ?_
                                        refine lv_imul (pc := 291) hx hb dX11_covers_291 ?_
                                        refine lv_aload_n (pc := 292) hx hb dX11_covers_292 rfl (lv_at hl 0 rfl) ?_
                                        refine lv_iload_n (pc := 293) hx hb dX11_covers_293 rfl (lv_at hl 3 rfl) ?_
                                        refine lv_iload (pc := 294) hx hb dX11_covers_294 (lv_at hl 5 rfl) ?_
                                        refine lv_iload (pc := 296) hx hb dX11_covers_296 (lv_at hl 10 rfl) ?_
                                        obtain ⟨v28, hm298, hf⟩ := q_b1_e hf
                                        refine q_cVr (pc := 298) (As := [.int v4, .int v11, .int v20]) (rest := [.int (100000000 * v4)]) (v0 := (some (.int v28))) ⟨hx, hb, hml, hown, hts⟩ hK hA hZ hP hD hS hl.1 [0, 3, 4, 5] 6 rfl ⟨rfl, rfl, rfl⟩ (c_M_keyOf l D ci A sa N (Rw) a_m a_m_cutRows a_m_cutColumns a_m_deep a_m_wide a_m_zonesAhead a_m_nameOne a_m_nameOther a_m_tape a_m_edges a_m_dist a_m_queue a_m_pieceLevel a_m_pieceKey a_m_pieceYear a_m_drawnKeys a_m_kept a_m_noNumbers m_taped m_place m_fault m_number m_levelRead m_keyRead m_reads m_faults m_cutShort m_noNumber m_bottomLat m_bottomLon m_firstBeside m_manyBeside m_queued m_boxLevel m_boxTop m_boxBottom m_boxWest m_boxEast m_isEarly m_pieces m_states m_drawnNow m_keptAt m_deep m_wide m_zonesAhead v4 v11 v20 v28 hm298) 0 rfl rfl (cwV 3 hts gX11_covers_X11_keyOf rfl rfl rfl (by decide +kernel) ⟨Nat.le_of_ble_eq_true rfl, Nat.le_of_ble_eq_true rfl⟩) rfl rfl (Nat.le_of_ble_eq_true rfl) dX11_covers_298 ⟨Nat.zero_le _, Nat.zero_le _⟩ (fun locs hS => ?_)
                                        refine lv_iadd (pc := 301) hx hb dX11_covers_301 ?_
                                        obtain rfl := Option.some.inj hf
                                        have hk198 : ((.inr (.inr ((100000000 * v4) + v28))) : (Int32) ⊕ ((Int32) ⊕ (Int32))) = o137_ := hk198
                                        obtain rfl := hk198
                                        have hk137 : ((.inr ((100000000 * v4) + v28)) : (Int32) ⊕ (Int32)) = o4_ := hk137
                                        obtain rfl := hk137
                                        have hk4 : (((100000000 * v4) + v28) : Int32) = r := hk4
                                        obtain rfl := hk4
                                        rw [hQ]
                                        exact q_iretr (pc := 302) hx hb hr hlocks rfl hS dX11_covers_302
                                    refine q_if_le (pc := 264) (tgt := 282) hx hb dX11_covers_264 (by decide) rfl hf (fun hf => ?_) (fun hf => ?_)
                                    · exact J282  _ _ _ hf rfl hS (lv_sub hl [1, 2, 3, 4, 5, 6, 7, 8, 9, 10, 11] rfl)
                                    · refine lv_aload_n (pc := 267) hx hb dX11_covers_267 rfl (lv_at hl 1 rfl) ?_
                                      refine lv_iload_n (pc := 268) hx hb dX11_covers_268 rfl (lv_at hl 4 rfl) ?_
                                      refine lv_iload (pc := 269) hx hb dX11_covers_269 (lv_at hl 6 rfl) ?_
                                      refine lv_iload (pc := 271) hx hb dX11_covers_271 (lv_at hl 11 rfl) ?_
                                      obtain ⟨v29, hm273, hf⟩ := q_b1_e hf
                                      refine q_cVr (pc := 273) (As := [.int v4, .int v11, .int v20]) (rest := []) (v0 := (some (.int v29))) ⟨hx, hb, hml, hown, hts⟩ hK hA hZ hP hD hS hl.1 [0, 1, 2, 3, 4] 6 rfl ⟨rfl, rfl, rfl⟩ (c_M_isWholeAbove l D ci A sa N (Rw) a_m a_m_cutRows a_m_cutColumns a_m_deep a_m_wide a_m_zonesAhead a_m_nameOne a_m_nameOther a_m_tape a_m_edges a_m_dist a_m_queue a_m_pieceLevel a_m_pieceKey a_m_pieceYear a_m_drawnKeys a_m_kept a_m_noNumbers m_taped m_place m_fault m_number m_levelRead m_keyRead m_reads m_faults m_cutShort m_noNumber m_bottomLat m_bottomLon m_firstBeside m_manyBeside m_queued m_boxLevel m_boxTop m_boxBottom m_boxWest m_boxEast m_isEarly m_pieces m_states m_drawnNow m_keptAt m_cutRows m_cutColumns m_deep m_wide v4 v11 v20 v29 hm273) 0 rfl rfl (cwV 3 hts gX11_covers_X11_isWholeAbove rfl rfl rfl (by decide +kernel) ⟨Nat.le_of_ble_eq_true rfl, Nat.le_of_ble_eq_true rfl⟩) rfl rfl (Nat.le_of_ble_eq_true rfl) dX11_covers_273 ⟨Nat.zero_le _, Nat.zero_le _⟩ (fun locs hS => ?_)
                                      refine q_if_eq (pc := 276) (tgt := 282) hx hb dX11_covers_276 (by decide) rfl hf (fun hf => ?_) (fun hf => ?_)
                                      · exact J282  _ _ _ hf rfl hS (lv_sub hl [1, 2, 3, 4, 5, 6, 7, 8, 9, 10, 11] rfl)
                                      · refine lv_goto (pc := 279) (tgt := 307) hx hb dX11_covers_279 (by decide) ?_
                                        exact J307 v19 _ _ _ hf rfl hS (lv_sub hl [1, 2, 3, 4, 5, 6, 7, 8, 9, 10, 11] rfl)
                              refine q_if_eq (pc := 207) (tgt := 232) hx hb dX11_covers_207 (by decide) rfl hf (fun hf => ?_) (fun hf => ?_)
                              · refine lv_iload (pc := 232) hx hb dX11_covers_232 (lv_at hl 10 rfl) ?_
                                refine lv_i2l (pc := 234) hx hb dX11_covers_234 rfl ?_
                                refine lv_iload (pc := 235) hx hb dX11_covers_235 (lv_at hl 7 rfl) ?_
                                refine lv_i2l (pc := 237) hx hb dX11_covers_237 rfl ?_
                                refine lv_iload (pc := 238) hx hb dX11_covers_238 (lv_at hl 8 rfl) ?_
                                refine lv_i2l (pc := 240) hx hb dX11_covers_240 rfl ?_
                                obtain ⟨v30, hm241, hf⟩ := q_b1_e hf
                                refine q_cSr (pc := 241) (As := [.long v20.toInt64, .long v15.toInt64, .long v16.toInt64]) (rest := []) (v0 := (some (.int v30))) ⟨hx, hb, hml, hown, hts⟩ hK hA hZ hP hD hS hl.1 [] 6 rfl ⟨rfl, rfl, rfl⟩ (c_M_in l D ci A sa N (Rw) v20.toInt64 v15.toInt64 v16.toInt64 v30 hm241) (va_cwS 3 hts gX11_covers_X11_in rfl rfl rfl (by decide +kernel) ⟨Nat.le_of_ble_eq_true rfl, Nat.le_of_ble_eq_true rfl⟩) rfl rfl (Nat.le_of_ble_eq_true rfl) dX11_covers_241 ⟨Nat.zero_le _, Nat.zero_le _⟩ (fun locs hS => ?_)
                                exact J244 v30 _ _ _ hf rfl hS (lv_sub hl [0, 1, 2, 3, 4, 5, 6, 7, 8, 9, 10] rfl)
                              · refine lv_iload (pc := 210) hx hb dX11_covers_210 (lv_at hl 10 rfl) ?_
                                refine lv_iload (pc := 212) hx hb dX11_covers_212 (lv_at hl 7 rfl) ?_
                                obtain ⟨k224, ek224, hf⟩ := q_j0_e hf
                                have J224 : ∀  (H : Heap) (locs : List Loc) (ls : Array Slot), k224 = some o198_ → H = s.heap → va_S A s.heap H locs → lv_has ls 13 [(0, .ref a_m), (1, .int p1), (2, .int v19), (3, .int v4), (5, .int v7), (6, .int v11), (7, .int v14), (8, .int v15), (9, .int v16), (10, .int v17), (11, .int v20)] → W p l e ({ frames := 6, cells := 0, slots := 0, locals := 141 } : Room) s m ([.ref a_m, .int p1] : List Value).toArray below meth c H locs 0 0 Q (F0 m 224 ls []) := by
                                  intro  H locs ls hf hHs hS hl
                                  subst hHs
                                  have hf := (ek224).symm.trans hf
                                  refine lv_iconst (pc := 224) (v := 1) hx hb dX11_covers_224 (by decide) ?_
                                  refine lv_goto (pc := 225) (tgt := 244) hx hb dX11_covers_225 (by decide) ?_
                                  exact J244 1 _ _ _ hf rfl hS (lv_sub hl [0, 1, 2, 3, 4, 5, 6, 7, 8, 9, 10] rfl)
                                refine q_icmp_ge (pc := 214) (tgt := 224) hx hb dX11_covers_214 (by decide) rfl hf (fun hf => ?_) (fun hf => ?_)
                                · exact J224  _ _ _ hf rfl hS (lv_sub hl [0, 1, 2, 3, 4, 5, 6, 7, 8, 9, 10] rfl)
                                · refine lv_iload (pc := 217) hx hb dX11_covers_217 (lv_at hl 10 rfl) ?_
                                  refine lv_iload (pc := 219) hx hb dX11_covers_219 (lv_at hl 8 rfl) ?_
                                  refine q_icmp_gt (pc := 221) (tgt := 228) hx hb dX11_covers_221 (by decide) rfl hf (fun hf => ?_) (fun hf => ?_)
                                  · refine lv_iconst (pc := 228) (v := 0) hx hb dX11_covers_228 (by decide) ?_
                                    refine lv_goto (pc := 229) (tgt := 244) hx hb dX11_covers_229 (by decide) ?_
                                    exact J244 0 _ _ _ hf rfl hS (lv_sub hl [0, 1, 2, 3, 4, 5, 6, 7, 8, 9, 10] rfl)
                                  · exact J224  _ _ _ hf rfl hS (lv_sub hl [0, 1, 2, 3, 4, 5, 6, 7, 8, 9, 10] rfl)
                        exact LP198 N v10 v18 _ _ _ hm198 rfl hS (lv_sub hl [2, 3, 4, 5, 6, 7, 8, 9, 10, 1, 0] rfl)
                      refine q_icmp_le (pc := 185) (tgt := 192) hx hb dX11_covers_185 (by decide) rfl hf (fun hf => ?_) (fun hf => ?_)
                      · refine lv_iconst (pc := 192) (v := 0) hx hb dX11_covers_192 (by decide) ?_
                        exact J193 0 _ _ _ hf rfl hS (lv_sub hl [3, 4, 5, 6, 7, 8, 2, 1, 0] rfl)
                      · refine lv_iconst (pc := 188) (v := 1) hx hb dX11_covers_188 (by decide) ?_
                        refine lv_goto (pc := 189) (tgt := 193) hx hb dX11_covers_189 (by decide) ?_
                        exact J193 1 _ _ _ hf rfl hS (lv_sub hl [3, 4, 5, 6, 7, 8, 2, 1, 0] rfl)
                exact LP137 N v3 v9 _ _ _ hm137 rfl hS (lv_sub hl [1, 2, 3, 4, 6, 0] rfl)
              refine q_icmp_ne (pc := 123) (tgt := 133) hx hb dX11_covers_123 (by decide) rfl hf (fun hf => ?_) (fun hf => ?_)
              · exact J133 v6 _ _ _ hf rfl hS (lv_sub hl [1, 2, 3, 4, 5, 0] rfl)
              · refine lv_aload_n (pc := 126) hx hb dX11_covers_126 rfl (lv_at hl 1 rfl) ?_
                refine lv_iload_n (pc := 127) hx hb dX11_covers_127 rfl (lv_at hl 4 rfl) ?_
                obtain ⟨v31, hm128, hf⟩ := q_b1_e hf
                refine q_cVr (pc := 128) (As := [.int v4]) (rest := []) (v0 := (some (.int v31))) ⟨hx, hb, hml, hown, hts⟩ hK hA hZ hP hD hS hl.1 [0, 3] 6 rfl ⟨rfl, rfl, rfl⟩ (c_M_lastRow l D ci A sa N (Rw) a_m a_m_cutRows a_m_cutColumns a_m_deep a_m_wide a_m_zonesAhead a_m_nameOne a_m_nameOther a_m_tape a_m_edges a_m_dist a_m_queue a_m_pieceLevel a_m_pieceKey a_m_pieceYear a_m_drawnKeys a_m_kept a_m_noNumbers m_taped m_place m_fault m_number m_levelRead m_keyRead m_reads m_faults m_cutShort m_noNumber m_bottomLat m_bottomLon m_firstBeside m_manyBeside m_queued m_boxLevel m_boxTop m_boxBottom m_boxWest m_boxEast m_isEarly m_pieces m_states m_drawnNow m_keptAt m_deep v4 v31 hm128) 0 rfl rfl (cwV 1 hts gX11_covers_X11_lastRow rfl rfl rfl (by decide +kernel) ⟨Nat.le_of_ble_eq_true rfl, Nat.le_of_ble_eq_true rfl⟩) rfl rfl (Nat.le_of_ble_eq_true rfl) dX11_covers_128 ⟨Nat.zero_le _, Nat.zero_le _⟩ (fun locs hS => ?_)
                refine lv_istore (pc := 131) (lv' := [(4, .int v31), (5, .int v7), (0, .ref a_m), (1, .int p1), (2, .int v3), (3, .int v4)]) hx hb dX11_covers_131 hl (by decide) rfl (fun ls hl => ?_)
                exact J133 v31 _ _ _ hf rfl hS (lv_sub hl [2, 3, 4, 5, 0, 1] rfl)
            refine q_if_ne (pc := 54) (tgt := 61) hx hb dX11_covers_54 (by decide) rfl hf (fun hf => ?_) (fun hf => ?_)
            · refine lv_aload_n (pc := 61) hx hb dX11_covers_61 rfl (lv_at hl 1 rfl) ?_
              refine va_get (pc := 62) (D := D) (ci := 11) (v := .int m_boxBottom) (C := RX11) (T := TX11) (N := 42) hx hb hts hinX11 hown hK hP 0 rfl rfl 28 (by decide) w_4 (fun _ h9 => h9) rfl dX11_covers_62 ?_
              refine lv_aload_n (pc := 65) hx hb dX11_covers_65 rfl (lv_at hl 1 rfl) ?_
              refine lv_aload_n (pc := 66) hx hb dX11_covers_66 rfl (lv_at hl 1 rfl) ?_
              refine va_get (pc := 67) (D := D) (ci := 11) (v := .int m_boxLevel) (C := RX11) (T := TX11) (N := 42) hx hb hts hinX11 hown hK hP 0 rfl rfl 26 (by decide) w_1 (fun _ h9 => h9) rfl dX11_covers_67 ?_
              obtain ⟨v32, hm70, hf⟩ := q_b1_e hf
              refine q_cVr (pc := 70) (As := [.int m_boxLevel]) (rest := [.int m_boxBottom]) (v0 := (some (.int v32))) ⟨hx, hb, hml, hown, hts⟩ hK hA hZ hP hD hS hl.1 [0, 3] 6 rfl ⟨rfl, rfl, rfl⟩ (c_M_lastRow l D ci A sa N (Rw) a_m a_m_cutRows a_m_cutColumns a_m_deep a_m_wide a_m_zonesAhead a_m_nameOne a_m_nameOther a_m_tape a_m_edges a_m_dist a_m_queue a_m_pieceLevel a_m_pieceKey a_m_pieceYear a_m_drawnKeys a_m_kept a_m_noNumbers m_taped m_place m_fault m_number m_levelRead m_keyRead m_reads m_faults m_cutShort m_noNumber m_bottomLat m_bottomLon m_firstBeside m_manyBeside m_queued m_boxLevel m_boxTop m_boxBottom m_boxWest m_boxEast m_isEarly m_pieces m_states m_drawnNow m_keptAt m_deep m_boxLevel v32 hm70) 0 rfl rfl (cwV 1 hts gX11_covers_X11_lastRow rfl rfl rfl (by decide +kernel) ⟨Nat.le_of_ble_eq_true rfl, Nat.le_of_ble_eq_true rfl⟩) rfl rfl (Nat.le_of_ble_eq_true rfl) dX11_covers_70 ⟨Nat.zero_le _, Nat.zero_le _⟩ (fun locs hS => ?_)
              refine q_icmp_ne (pc := 73) (tgt := 84) hx hb dX11_covers_73 (by decide) rfl hf (fun hf => ?_) (fun hf => ?_)
              · refine lv_iconst (pc := 84) (v := 1) hx hb dX11_covers_84 (by decide) ?_
                refine lv_aload_n (pc := 85) hx hb dX11_covers_85 rfl (lv_at hl 1 rfl) ?_
                refine va_get (pc := 86) (D := D) (ci := 11) (v := .int m_boxBottom) (C := RX11) (T := TX11) (N := 42) hx hb hts hinX11 hown hK hP 0 rfl rfl 28 (by decide) w_4 (fun _ h9 => h9) rfl dX11_covers_86 ?_
                refine lv_iconst (pc := 89) (v := 1) hx hb dX11_covers_89 (by decide) ?_
                refine lv_isub (pc := 90) hx hb dX11_covers_90 ?_
                refine lv_aload_n (pc := 91) hx hb dX11_covers_91 rfl (lv_at hl 1 rfl) ?_
                refine va_get (pc := 92) (D := D) (ci := 11) (v := .ref a_m_deep) (C := RX11) (T := TX11) (N := 42) hx hb hts hinX11 hown hK hP 0 rfl rfl 2 (by decide) w_3 (fun _ h9 => h9) rfl dX11_covers_92 ?_
                refine lv_aload_n (pc := 95) hx hb dX11_covers_95 rfl (lv_at hl 1 rfl) ?_
                refine va_get (pc := 96) (D := D) (ci := 11) (v := .int m_boxLevel) (C := RX11) (T := TX11) (N := 42) hx hb hts hinX11 hown hK hP 0 rfl rfl 26 (by decide) w_1 (fun _ h9 => h9) rfl dX11_covers_96 ?_
                refine q_iald (pc := 99) hx hb hK hP 3 0 hf rfl rfl dX11_covers_99 (fun v33 hf => ?_)
                refine lv_aload_n (pc := 100) hx hb dX11_covers_100 rfl (lv_at hl 1 rfl) ?_
                refine va_get (pc := 101) (D := D) (ci := 11) (v := .ref a_m_deep) (C := RX11) (T := TX11) (N := 42) hx hb hts hinX11 hown hK hP 0 rfl rfl 2 (by decide) w_3 (fun _ h9 => h9) rfl dX11_covers_101 ?_
                refine lv_iload_n (pc := 104) hx hb dX11_covers_104 rfl (lv_at hl 4 rfl) ?_
                refine q_iald (pc := 105) hx hb hK hP 3 0 hf rfl rfl dX11_covers_105 (fun v34 hf => ?_)
                refine q_idiv (pc := 106) hx hb dX11_covers_106 hf (fun v35 hf => ?_)
                refine q_idiv (pc := 107) hx hb dX11_covers_107 hf (fun v36 hf => ?_)
                refine lv_iadd (pc := 108) hx hb dX11_covers_108 ?_
                exact J109 (1 + v36) _ _ _ hf rfl hS (lv_sub hl [1, 2, 3, 4, 0] rfl)
              · refine lv_aload_n (pc := 76) hx hb dX11_covers_76 rfl (lv_at hl 1 rfl) ?_
                refine lv_iload_n (pc := 77) hx hb dX11_covers_77 rfl (lv_at hl 4 rfl) ?_
                obtain ⟨v37, hm78, hf⟩ := q_b1_e hf
                refine q_cVr (pc := 78) (As := [.int v4]) (rest := []) (v0 := (some (.int v37))) ⟨hx, hb, hml, hown, hts⟩ hK hA hZ hP hD hS hl.1 [0, 3] 6 rfl ⟨rfl, rfl, rfl⟩ (c_M_lastRow l D ci A sa N (Rw) a_m a_m_cutRows a_m_cutColumns a_m_deep a_m_wide a_m_zonesAhead a_m_nameOne a_m_nameOther a_m_tape a_m_edges a_m_dist a_m_queue a_m_pieceLevel a_m_pieceKey a_m_pieceYear a_m_drawnKeys a_m_kept a_m_noNumbers m_taped m_place m_fault m_number m_levelRead m_keyRead m_reads m_faults m_cutShort m_noNumber m_bottomLat m_bottomLon m_firstBeside m_manyBeside m_queued m_boxLevel m_boxTop m_boxBottom m_boxWest m_boxEast m_isEarly m_pieces m_states m_drawnNow m_keptAt m_deep v4 v37 hm78) 0 rfl rfl (cwV 1 hts gX11_covers_X11_lastRow rfl rfl rfl (by decide +kernel) ⟨Nat.le_of_ble_eq_true rfl, Nat.le_of_ble_eq_true rfl⟩) rfl rfl (Nat.le_of_ble_eq_true rfl) dX11_covers_78 ⟨Nat.zero_le _, Nat.zero_le _⟩ (fun locs hS => ?_)
                refine lv_goto (pc := 81) (tgt := 109) hx hb dX11_covers_81 (by decide) ?_
                exact J109 v37 _ _ _ hf rfl hS (lv_sub hl [1, 2, 3, 4, 0] rfl)
            · refine lv_iconst (pc := 57) (v := 0) hx hb dX11_covers_57 (by decide) ?_
              refine lv_goto (pc := 58) (tgt := 109) hx hb dX11_covers_58 (by decide) ?_
              exact J109 0 _ _ _ hf rfl hS (lv_sub hl [1, 2, 3, 4, 0] rfl)
          refine q_if_ne (pc := 16) (tgt := 23) hx hb dX11_covers_16 (by decide) rfl hf (fun hf => ?_) (fun hf => ?_)
          · refine lv_iconst (pc := 23) (v := 1) hx hb dX11_covers_23 (by decide) ?_
            refine lv_aload_n (pc := 24) hx hb dX11_covers_24 rfl (lv_at hl 0 rfl) ?_
            refine va_get (pc := 25) (D := D) (ci := 11) (v := .int m_boxTop) (C := RX11) (T := TX11) (N := 42) hx hb hts hinX11 hown hK hP 0 rfl rfl 27 (by decide) w_2 (fun _ h9 => h9) rfl dX11_covers_25 ?_
            refine lv_iconst (pc := 28) (v := 1) hx hb dX11_covers_28 (by decide) ?_
            refine lv_isub (pc := 29) hx hb dX11_covers_29 ?_
            refine lv_aload_n (pc := 30) hx hb dX11_covers_30 rfl (lv_at hl 0 rfl) ?_
            refine va_get (pc := 31) (D := D) (ci := 11) (v := .ref a_m_deep) (C := RX11) (T := TX11) (N := 42) hx hb hts hinX11 hown hK hP 0 rfl rfl 2 (by decide) w_3 (fun _ h9 => h9) rfl dX11_covers_31 ?_
            refine lv_aload_n (pc := 34) hx hb dX11_covers_34 rfl (lv_at hl 0 rfl) ?_
            refine va_get (pc := 35) (D := D) (ci := 11) (v := .int m_boxLevel) (C := RX11) (T := TX11) (N := 42) hx hb hts hinX11 hown hK hP 0 rfl rfl 26 (by decide) w_1 (fun _ h9 => h9) rfl dX11_covers_35 ?_
            refine q_iald (pc := 38) hx hb hK hP 3 0 hf rfl rfl dX11_covers_38 (fun v38 hf => ?_)
            refine lv_aload_n (pc := 39) hx hb dX11_covers_39 rfl (lv_at hl 0 rfl) ?_
            refine va_get (pc := 40) (D := D) (ci := 11) (v := .ref a_m_deep) (C := RX11) (T := TX11) (N := 42) hx hb hts hinX11 hown hK hP 0 rfl rfl 2 (by decide) w_3 (fun _ h9 => h9) rfl dX11_covers_40 ?_
            refine lv_iload_n (pc := 43) hx hb dX11_covers_43 rfl (lv_at hl 3 rfl) ?_
            refine q_iald (pc := 44) hx hb hK hP 3 0 hf rfl rfl dX11_covers_44 (fun v39 hf => ?_)
            refine q_idiv (pc := 45) hx hb dX11_covers_45 hf (fun v40 hf => ?_)
            refine q_idiv (pc := 46) hx hb dX11_covers_46 hf (fun v41 hf => ?_)
            refine lv_iadd (pc := 47) hx hb dX11_covers_47 ?_
            exact J48 (1 + v41) _ _ _ hf rfl hS (lv_sub hl [0, 1, 2, 3] rfl)
          · refine lv_iconst (pc := 19) (v := 0) hx hb dX11_covers_19 (by decide) ?_
            refine lv_goto (pc := 20) (tgt := 48) hx hb dX11_covers_20 (by decide) ?_
            exact J48 0 _ _ _ hf rfl hS (lv_sub hl [0, 1, 2, 3] rfl)
    exact LP4 N v1 v2 _ _ _ hm4 rfl hS (lv_sub hl [2, 3, 1, 0] rfl)
  exact hgo _ _ rfl hP hS
/-! X11_cover -/
set_option maxRecDepth 100000 in
set_option maxHeartbeats 4000000 in
theorem c_M_cover (l : Launch) (D : va_G) (ci : Nat → ClassId) (A : Nat → Prop) (sa : Nat → Nat) (N : Nat) (Rw : va_W) (a_m : Nat) (a_m_cutRows : Nat) (a_m_cutColumns : Nat) (a_m_deep : Nat) (a_m_wide : Nat) (a_m_zonesAhead : Nat) (a_m_nameOne : Nat) (a_m_nameOther : Nat) (a_m_tape : Nat) (a_m_edges : Nat) (a_m_dist : Nat) (a_m_queue : Nat) (a_m_pieceLevel : Nat) (a_m_pieceKey : Nat) (a_m_pieceYear : Nat) (a_m_drawnKeys : Nat) (a_m_kept : Nat) (a_m_noNumbers : Nat) (m_taped : Int32) (m_place : Int32) (m_fault : Int32) (m_number : Int32) (m_levelRead : Int32) (m_keyRead : Int32) (m_reads : Int32) (m_faults : Int32) (m_cutShort : Int32) (m_noNumber : Int32) (m_bottomLat : Int64) (m_bottomLon : Int64) (m_firstBeside : Int32) (m_manyBeside : Int32) (m_queued : Int32) (m_boxLevel : Int32) (m_boxTop : Int32) (m_boxBottom : Int32) (m_boxWest : Int32) (m_boxEast : Int32) (m_isEarly : Int32) (m_pieces : Int32) (m_states : Int32) (m_drawnNow : Int32) (m_keptAt : Int32) (m_cutRows : Nat → Int32) (m_cutColumns : Nat → Int32) (m_deep : Nat → Int32) (m_wide : Nat → Int32) (m_zonesAhead : Nat → Int32) (p1 : Int32) (p2 : Int32) (p3 : Int32) (p4 : Int32) (p5 : Int32) (p6 : Int32) (r : Int32) (o1 : Int32) (o2 : Int32) (o3 : Int32) (o4 : Int32) (o5 : Int32) (hf : f_M_cover N m_cutRows m_cutColumns m_deep m_wide m_zonesAhead m_boxLevel m_boxTop m_boxBottom m_boxWest m_boxEast p1 p2 p3 p4 p5 p6 = some (r, o1, o2, o3, o4, o5)) : Met l yX11_cover wsX11_cover ({ frames := 7, cells := 0, slots := 0, locals := 173 }) (va_Pc [.ref a_m, .int p1, .int p2, .int p3, .int p4, .int p5, .int p6] (q_N D ci A sa ((a_m, .inr (11, (.ref a_m_cutRows :: .ref a_m_cutColumns :: .ref a_m_deep :: .ref a_m_wide :: .ref a_m_zonesAhead :: .ref a_m_nameOne :: .ref a_m_nameOther :: .ref a_m_tape :: .int m_taped :: .int m_place :: .int m_fault :: .int m_number :: .int m_levelRead :: .int m_keyRead :: .int m_reads :: .int m_faults :: .int m_cutShort :: .int m_noNumber :: .long m_bottomLat :: .long m_bottomLon :: .ref a_m_edges :: .int m_firstBeside :: .int m_manyBeside :: .ref a_m_dist :: .ref a_m_queue :: .int m_queued :: .int m_boxLevel :: .int m_boxTop :: .int m_boxBottom :: .int m_boxWest :: .int m_boxEast :: .int m_isEarly :: .int m_pieces :: .int m_states :: .ref a_m_pieceLevel :: .ref a_m_pieceKey :: .ref a_m_pieceYear :: .int m_drawnNow :: .ref a_m_drawnKeys :: .ref a_m_kept :: .int m_keptAt :: .ref a_m_noNumbers :: []))) :: (a_m_cutRows, .inl (ci 0, 5, .inl m_cutRows)) :: (a_m_cutColumns, .inl (ci 0, 5, .inl m_cutColumns)) :: (a_m_deep, .inl (ci 0, 5, .inl m_deep)) :: (a_m_wide, .inl (ci 0, 5, .inl m_wide)) :: (a_m_zonesAhead, .inl (ci 0, 45, .inl m_zonesAhead)) :: Rw))) (q_Q (some (.int r)) (q_O D A ((a_m, .inr (11, (.ref a_m_cutRows :: .ref a_m_cutColumns :: .ref a_m_deep :: .ref a_m_wide :: .ref a_m_zonesAhead :: .ref a_m_nameOne :: .ref a_m_nameOther :: .ref a_m_tape :: .int m_taped :: .int m_place :: .int m_fault :: .int m_number :: .int m_levelRead :: .int m_keyRead :: .int m_reads :: .int m_faults :: .int m_cutShort :: .int m_noNumber :: .long m_bottomLat :: .long m_bottomLon :: .ref a_m_edges :: .int m_firstBeside :: .int m_manyBeside :: .ref a_m_dist :: .ref a_m_queue :: .int m_queued :: .int o1 :: .int o2 :: .int o3 :: .int o4 :: .int o5 :: .int m_isEarly :: .int m_pieces :: .int m_states :: .ref a_m_pieceLevel :: .ref a_m_pieceKey :: .ref a_m_pieceYear :: .int m_drawnNow :: .ref a_m_drawnKeys :: .ref a_m_kept :: .int m_keptAt :: .ref a_m_noNumbers :: []))) :: (a_m_cutRows, .inl (ci 0, 5, .inl m_cutRows)) :: (a_m_cutColumns, .inl (ci 0, 5, .inl m_cutColumns)) :: (a_m_deep, .inl (ci 0, 5, .inl m_deep)) :: (a_m_wide, .inl (ci 0, 5, .inl m_wide)) :: (a_m_zonesAhead, .inl (ci 0, 45, .inl m_zonesAhead)) :: Rw)) A) 0 0 A := by
  refine q_ofW (cc := cX11_cover) (maxL := 7) (ret := (some .int)) [.ref a_m, .int p1, .int p2, .int p3, .int p4, .int p5, .int p6] (plainFor_of_name (by decide)) rfl (Nat.le_of_ble_eq_true rfl) ?_
  intro p e s m below meth c ls Q hQ hx hb hml hr hts hown hlocks hK hA hZ hP hD hS hl
  have hl : lv_has ls 7 [(0, .ref a_m), (1, .int p1), (2, .int p2), (3, .int p3), (4, .int p4), (5, .int p5), (6, .int p6)] := hl
  have hown : s.vm.findClass RX11 = some m.cls := hown
  unfold f_M_cover at hf
  have hgo : ∀ (H : Heap) (locs : List Loc), H = s.heap → va_P D vwCl ((a_m, .inr (11, (.ref a_m_cutRows :: .ref a_m_cutColumns :: .ref a_m_deep :: .ref a_m_wide :: .ref a_m_zonesAhead :: .ref a_m_nameOne :: .ref a_m_nameOther :: .ref a_m_tape :: .int m_taped :: .int m_place :: .int m_fault :: .int m_number :: .int m_levelRead :: .int m_keyRead :: .int m_reads :: .int m_faults :: .int m_cutShort :: .int m_noNumber :: .long m_bottomLat :: .long m_bottomLon :: .ref a_m_edges :: .int m_firstBeside :: .int m_manyBeside :: .ref a_m_dist :: .ref a_m_queue :: .int m_queued :: .int m_boxLevel :: .int m_boxTop :: .int m_boxBottom :: .int m_boxWest :: .int m_boxEast :: .int m_isEarly :: .int m_pieces :: .int m_states :: .ref a_m_pieceLevel :: .ref a_m_pieceKey :: .ref a_m_pieceYear :: .int m_drawnNow :: .ref a_m_drawnKeys :: .ref a_m_kept :: .int m_keptAt :: .ref a_m_noNumbers :: []))) :: (a_m_cutRows, .inl (ci 0, 5, .inl m_cutRows)) :: (a_m_cutColumns, .inl (ci 0, 5, .inl m_cutColumns)) :: (a_m_deep, .inl (ci 0, 5, .inl m_deep)) :: (a_m_wide, .inl (ci 0, 5, .inl m_wide)) :: (a_m_zonesAhead, .inl (ci 0, 45, .inl m_zonesAhead)) :: Rw) H → va_S A s.heap H locs → W p l e ({ frames := 7, cells := 0, slots := 0, locals := 173 } : Room) s m ([.ref a_m, .int p1, .int p2, .int p3, .int p4, .int p5, .int p6] : List Value).toArray below meth c H locs 0 0 Q (F0 m 0 ls []) := by
    intro H locs hH hP hS
    refine lv_aload_n (pc := 0) hx hb dX11_cover_0 rfl (lv_at hl 0 rfl) ?_
    refine lv_iload_n (pc := 1) hx hb dX11_cover_1 rfl (lv_at hl 1 rfl) ?_
    refine lv_iload_n (pc := 2) hx hb dX11_cover_2 rfl (lv_at hl 2 rfl) ?_
    refine lv_iload_n (pc := 3) hx hb dX11_cover_3 rfl (lv_at hl 3 rfl) ?_
    refine lv_iload (pc := 4) hx hb dX11_cover_4 (lv_at hl 4 rfl) ?_
    obtain ⟨v1, hm6, hf⟩ := q_b1_e hf
    refine q_cVr (pc := 6) (As := [.int p1, .int p2, .int p3, .int p4]) (rest := []) (v0 := (some (.int v1))) ⟨hx, hb, hml, hown, hts⟩ hK hA hZ hP hD hS hl.1 [0] 6 rfl ⟨rfl, rfl, rfl⟩ (c_M_isBox l D ci A sa N (Rw) a_m a_m_cutRows a_m_cutColumns a_m_deep a_m_wide a_m_zonesAhead a_m_nameOne a_m_nameOther a_m_tape a_m_edges a_m_dist a_m_queue a_m_pieceLevel a_m_pieceKey a_m_pieceYear a_m_drawnKeys a_m_kept a_m_noNumbers m_taped m_place m_fault m_number m_levelRead m_keyRead m_reads m_faults m_cutShort m_noNumber m_bottomLat m_bottomLon m_firstBeside m_manyBeside m_queued m_boxLevel m_boxTop m_boxBottom m_boxWest m_boxEast m_isEarly m_pieces m_states m_drawnNow m_keptAt p1 p2 p3 p4 v1 hm6) 0 rfl rfl (cwV 4 hts gX11_cover_X11_isBox rfl rfl rfl (by decide +kernel) ⟨Nat.le_of_ble_eq_true rfl, Nat.le_of_ble_eq_true rfl⟩) rfl rfl (Nat.le_of_ble_eq_true rfl) dX11_cover_6 ⟨Nat.zero_le _, Nat.zero_le _⟩ (fun locs hS => ?_)
    refine q_if_eq (pc := 9) (tgt := 26) hx hb dX11_cover_9 (by decide) rfl hf (fun hf => ?_) (fun hf => ?_)
    · refine lv_iconst (pc := 26) (v := (-1)) hx hb dX11_cover_26 (by decide) ?_
      obtain ⟨e90, e91, e92, e93, e94, e95⟩ := q_inj6 (Option.some.inj hf)
      rw [hQ, ← e90, ← e91, ← e92, ← e93, ← e94, ← e95]
      exact q_iret (pc := 27) hx hb hr hlocks hP hD hS dX11_cover_27
    · refine lv_iload (pc := 12) hx hb dX11_cover_12 (lv_at hl 5 rfl) ?_
      obtain ⟨v2, hm14, hf⟩ := q_b1_e hf
      refine q_cSr (pc := 14) (As := [.int p5]) (rest := []) (v0 := (some (.int v2))) ⟨hx, hb, hml, hown, hts⟩ hK hA hZ hP hD hS hl.1 [] 6 rfl ⟨rfl, rfl, rfl⟩ (c_M_isLevel l D ci A sa N (Rw) p5 v2 hm14) (va_cwS 1 hts gX11_cover_X11_isLevel rfl rfl rfl (by decide +kernel) ⟨Nat.le_of_ble_eq_true rfl, Nat.le_of_ble_eq_true rfl⟩) rfl rfl (Nat.le_of_ble_eq_true rfl) dX11_cover_14 ⟨Nat.zero_le _, Nat.zero_le _⟩ (fun locs hS => ?_)
      refine q_if_eq (pc := 17) (tgt := 26) hx hb dX11_cover_17 (by decide) rfl hf (fun hf => ?_) (fun hf => ?_)
      · refine lv_iconst (pc := 26) (v := (-1)) hx hb dX11_cover_26 (by decide) ?_
        obtain ⟨e90, e91, e92, e93, e94, e95⟩ := q_inj6 (Option.some.inj hf)
        rw [hQ, ← e90, ← e91, ← e92, ← e93, ← e94, ← e95]
        exact q_iret (pc := 27) hx hb hr hlocks hP hD hS dX11_cover_27
      · refine lv_iload (pc := 20) hx hb dX11_cover_20 (lv_at hl 6 rfl) ?_
        refine lv_iconst (pc := 22) (v := (-1)) hx hb dX11_cover_22 (by decide) ?_
        refine q_icmp_ge (pc := 23) (tgt := 28) hx hb dX11_cover_23 (by decide) rfl hf (fun hf => ?_) (fun hf => ?_)
        · refine lv_aload_n (pc := 28) hx hb dX11_cover_28 rfl (lv_at hl 0 rfl) ?_
          refine lv_iload_n (pc := 29) hx hb dX11_cover_29 rfl (lv_at hl 1 rfl) ?_
          refine lv_iload_n (pc := 30) hx hb dX11_cover_30 rfl (lv_at hl 2 rfl) ?_
          refine lv_iload_n (pc := 31) hx hb dX11_cover_31 rfl (lv_at hl 3 rfl) ?_
          refine lv_iload (pc := 32) hx hb dX11_cover_32 (lv_at hl 4 rfl) ?_
          refine lv_iload (pc := 34) hx hb dX11_cover_34 (lv_at hl 5 rfl) ?_
          obtain ⟨v3, v4, v5, v6, v7, hm36, hf⟩ := q_b5_e hf
          refine q_cV (pc := 36) (As := [.int p1, .int p2, .int p3, .int p4, .int p5]) (rest := []) (v0 := none) ⟨hx, hb, hml, hown, hts⟩ hK hA hZ hP hD hS hl.1 [0, 3, 1, 2, 4, 5] 6 rfl ⟨rfl, rfl, rfl⟩ (c_M_laysBox l D ci A sa N ((a_m_cutRows, .inl (ci 0, 5, .inl m_cutRows)) :: (a_m_cutColumns, .inl (ci 0, 5, .inl m_cutColumns)) :: (a_m_wide, .inl (ci 0, 5, .inl m_wide)) :: (a_m_zonesAhead, .inl (ci 0, 45, .inl m_zonesAhead)) :: Rw) a_m a_m_cutRows a_m_cutColumns a_m_deep a_m_wide a_m_zonesAhead a_m_nameOne a_m_nameOther a_m_tape a_m_edges a_m_dist a_m_queue a_m_pieceLevel a_m_pieceKey a_m_pieceYear a_m_drawnKeys a_m_kept a_m_noNumbers m_taped m_place m_fault m_number m_levelRead m_keyRead m_reads m_faults m_cutShort m_noNumber m_bottomLat m_bottomLon m_firstBeside m_manyBeside m_queued m_boxLevel m_boxTop m_boxBottom m_boxWest m_boxEast m_isEarly m_pieces m_states m_drawnNow m_keptAt m_deep p1 p2 p3 p4 p5 v3 v4 v5 v6 v7 hm36) 0 rfl rfl (cwV 5 hts gX11_cover_X11_laysBox rfl rfl rfl (by decide +kernel) ⟨Nat.le_of_ble_eq_true rfl, Nat.le_of_ble_eq_true rfl⟩) rfl rfl (Nat.le_of_ble_eq_true rfl) dX11_cover_36 ⟨Nat.zero_le _, Nat.zero_le _⟩ [0, 2, 3, 1, 4, 5] 6 rfl ⟨rfl, rfl, rfl⟩ (fun H locs hP hD hS => ?_)
          obtain ⟨hP, hD⟩ : va_PD D A ((a_m, .inr (11, (.ref a_m_cutRows :: .ref a_m_cutColumns :: .ref a_m_deep :: .ref a_m_wide :: .ref a_m_zonesAhead :: .ref a_m_nameOne :: .ref a_m_nameOther :: .ref a_m_tape :: .int m_taped :: .int m_place :: .int m_fault :: .int m_number :: .int m_levelRead :: .int m_keyRead :: .int m_reads :: .int m_faults :: .int m_cutShort :: .int m_noNumber :: .long m_bottomLat :: .long m_bottomLon :: .ref a_m_edges :: .int m_firstBeside :: .int m_manyBeside :: .ref a_m_dist :: .ref a_m_queue :: .int m_queued :: .int v3 :: .int v4 :: .int v5 :: .int v6 :: .int v7 :: .int m_isEarly :: .int m_pieces :: .int m_states :: .ref a_m_pieceLevel :: .ref a_m_pieceKey :: .ref a_m_pieceYear :: .int m_drawnNow :: .ref a_m_drawnKeys :: .ref a_m_kept :: .int m_keptAt :: .ref a_m_noNumbers :: []))) :: (a_m_cutRows, .inl (ci 0, 5, .inl m_cutRows)) :: (a_m_cutColumns, .inl (ci 0, 5, .inl m_cutColumns)) :: (a_m_deep, .inl (ci 0, 5, .inl m_deep)) :: (a_m_wide, .inl (ci 0, 5, .inl m_wide)) :: (a_m_zonesAhead, .inl (ci 0, 45, .inl m_zonesAhead)) :: Rw) H := ⟨hP, hD⟩
          refine lv_aload_n (pc := 39) hx hb dX11_cover_39 rfl (lv_at hl 0 rfl) ?_
          obtain ⟨v8, hm40, hf⟩ := q_b1_e hf
          refine q_cVr (pc := 40) (As := []) (rest := []) (v0 := (some (.int v8))) ⟨hx, hb, hml, hown, hts⟩ hK hA hZ hP hD hS hl.1 [0, 3, 4] 6 rfl ⟨rfl, rfl, rfl⟩ (c_M_boxAll l D ci A sa N (Rw) a_m a_m_cutRows a_m_cutColumns a_m_deep a_m_wide a_m_zonesAhead a_m_nameOne a_m_nameOther a_m_tape a_m_edges a_m_dist a_m_queue a_m_pieceLevel a_m_pieceKey a_m_pieceYear a_m_drawnKeys a_m_kept a_m_noNumbers m_taped m_place m_fault m_number m_levelRead m_keyRead m_reads m_faults m_cutShort m_noNumber m_bottomLat m_bottomLon m_firstBeside m_manyBeside m_queued v3 v4 v5 v6 v7 m_isEarly m_pieces m_states m_drawnNow m_keptAt m_deep m_wide v8 hm40) 0 rfl rfl (cwV 0 hts gX11_cover_X11_boxAll rfl rfl rfl (by decide +kernel) ⟨Nat.le_of_ble_eq_true rfl, Nat.le_of_ble_eq_true rfl⟩) rfl rfl (Nat.le_of_ble_eq_true rfl) dX11_cover_40 ⟨Nat.zero_le _, Nat.zero_le _⟩ (fun locs hS => ?_)
          refine lv_sipush (pc := 43) (v := 4000) hx hb dX11_cover_43 (by decide) ?_
          refine q_icmp_le (pc := 46) (tgt := 54) hx hb dX11_cover_46 (by decide) rfl hf (fun hf => ?_) (fun hf => ?_)
          · refine lv_aload_n (pc := 54) hx hb dX11_cover_54 rfl (lv_at hl 0 rfl) ?_
            refine lv_iload (pc := 55) hx hb dX11_cover_55 (lv_at hl 6 rfl) ?_
            obtain ⟨v9, hm57, hf⟩ := q_b1_e hf
            refine q_cVr (pc := 57) (As := [.int p6]) (rest := []) (v0 := (some (.int v9))) ⟨hx, hb, hml, hown, hts⟩ hK hA hZ hP hD hS hl.1 [0, 1, 2, 3, 4, 5] 6 rfl ⟨rfl, rfl, rfl⟩ (c_M_covers l D ci A sa N (Rw) a_m a_m_cutRows a_m_cutColumns a_m_deep a_m_wide a_m_zonesAhead a_m_nameOne a_m_nameOther a_m_tape a_m_edges a_m_dist a_m_queue a_m_pieceLevel a_m_pieceKey a_m_pieceYear a_m_drawnKeys a_m_kept a_m_noNumbers m_taped m_place m_fault m_number m_levelRead m_keyRead m_reads m_faults m_cutShort m_noNumber m_bottomLat m_bottomLon m_firstBeside m_manyBeside m_queued v3 v4 v5 v6 v7 m_isEarly m_pieces m_states m_drawnNow m_keptAt m_cutRows m_cutColumns m_deep m_wide m_zonesAhead p6 v9 hm57) 0 rfl rfl (cwV 1 hts gX11_cover_X11_covers rfl rfl rfl (by decide +kernel) ⟨Nat.le_of_ble_eq_true rfl, Nat.le_of_ble_eq_true rfl⟩) rfl rfl (Nat.le_of_ble_eq_true rfl) dX11_cover_57 ⟨Nat.zero_le _, Nat.zero_le _⟩ (fun locs hS => ?_)
            obtain ⟨e90, e91, e92, e93, e94, e95⟩ := q_inj6 (Option.some.inj hf)
            rw [hQ, ← e90, ← e91, ← e92, ← e93, ← e94, ← e95]
            exact q_iret (pc := 60) hx hb hr hlocks hP hD hS dX11_cover_60
          · refine lv_bipush (pc := 49) (v := (-2)) hx hb dX11_cover_49 (by decide) ?_
            refine lv_goto (pc := 51) (tgt := 60) hx hb dX11_cover_51 (by decide) ?_
            obtain ⟨e90, e91, e92, e93, e94, e95⟩ := q_inj6 (Option.some.inj hf)
            rw [hQ, ← e90, ← e91, ← e92, ← e93, ← e94, ← e95]
            exact q_iret (pc := 60) hx hb hr hlocks hP hD hS dX11_cover_60
        · refine lv_iconst (pc := 26) (v := (-1)) hx hb dX11_cover_26 (by decide) ?_
          obtain ⟨e90, e91, e92, e93, e94, e95⟩ := q_inj6 (Option.some.inj hf)
          rw [hQ, ← e90, ← e91, ← e92, ← e93, ← e94, ← e95]
          exact q_iret (pc := 27) hx hb hr hlocks hP hD hS dX11_cover_27
  exact hgo _ _ rfl hP hS
/-! X11_laysGrids -/
set_option maxRecDepth 100000 in
set_option maxHeartbeats 4000000 in
theorem c_M_laysGrids (l : Launch) (D : va_G) (ci : Nat → ClassId) (A : Nat → Prop) (sa : Nat → Nat) (N : Nat) (Rw : va_W) (a_m : Nat) (a_m_cutRows : Nat) (a_m_cutColumns : Nat) (a_m_deep : Nat) (a_m_wide : Nat) (a_m_zonesAhead : Nat) (a_m_nameOne : Nat) (a_m_nameOther : Nat) (a_m_tape : Nat) (a_m_edges : Nat) (a_m_dist : Nat) (a_m_queue : Nat) (a_m_pieceLevel : Nat) (a_m_pieceKey : Nat) (a_m_pieceYear : Nat) (a_m_drawnKeys : Nat) (a_m_kept : Nat) (a_m_noNumbers : Nat) (m_taped : Int32) (m_place : Int32) (m_fault : Int32) (m_number : Int32) (m_levelRead : Int32) (m_keyRead : Int32) (m_reads : Int32) (m_faults : Int32) (m_cutShort : Int32) (m_noNumber : Int32) (m_bottomLat : Int64) (m_bottomLon : Int64) (m_firstBeside : Int32) (m_manyBeside : Int32) (m_queued : Int32) (m_boxLevel : Int32) (m_boxTop : Int32) (m_boxBottom : Int32) (m_boxWest : Int32) (m_boxEast : Int32) (m_isEarly : Int32) (m_pieces : Int32) (m_states : Int32) (m_drawnNow : Int32) (m_keptAt : Int32) (m_cutRows : Nat → Int32) (m_cutColumns : Nat → Int32) (m_deep : Nat → Int32) (m_wide : Nat → Int32) (o1 : Nat → Int32) (o2 : Nat → Int32) (hf : f_M_laysGrids N m_cutRows m_cutColumns m_deep m_wide = some (o1, o2)) : Met l yX11_laysGrids wsX11_laysGrids ({ frames := 0, cells := 0, slots := 0, locals := 0 }) (va_Pc [.ref a_m] (q_N D ci A sa ((a_m, .inr (11, (.ref a_m_cutRows :: .ref a_m_cutColumns :: .ref a_m_deep :: .ref a_m_wide :: .ref a_m_zonesAhead :: .ref a_m_nameOne :: .ref a_m_nameOther :: .ref a_m_tape :: .int m_taped :: .int m_place :: .int m_fault :: .int m_number :: .int m_levelRead :: .int m_keyRead :: .int m_reads :: .int m_faults :: .int m_cutShort :: .int m_noNumber :: .long m_bottomLat :: .long m_bottomLon :: .ref a_m_edges :: .int m_firstBeside :: .int m_manyBeside :: .ref a_m_dist :: .ref a_m_queue :: .int m_queued :: .int m_boxLevel :: .int m_boxTop :: .int m_boxBottom :: .int m_boxWest :: .int m_boxEast :: .int m_isEarly :: .int m_pieces :: .int m_states :: .ref a_m_pieceLevel :: .ref a_m_pieceKey :: .ref a_m_pieceYear :: .int m_drawnNow :: .ref a_m_drawnKeys :: .ref a_m_kept :: .int m_keptAt :: .ref a_m_noNumbers :: []))) :: (a_m_cutRows, .inl (ci 0, 5, .inl m_cutRows)) :: (a_m_cutColumns, .inl (ci 0, 5, .inl m_cutColumns)) :: (a_m_deep, .inl (ci 0, 5, .inl m_deep)) :: (a_m_wide, .inl (ci 0, 5, .inl m_wide)) :: Rw))) (q_Q none (q_O D A ((a_m, .inr (11, (.ref a_m_cutRows :: .ref a_m_cutColumns :: .ref a_m_deep :: .ref a_m_wide :: .ref a_m_zonesAhead :: .ref a_m_nameOne :: .ref a_m_nameOther :: .ref a_m_tape :: .int m_taped :: .int m_place :: .int m_fault :: .int m_number :: .int m_levelRead :: .int m_keyRead :: .int m_reads :: .int m_faults :: .int m_cutShort :: .int m_noNumber :: .long m_bottomLat :: .long m_bottomLon :: .ref a_m_edges :: .int m_firstBeside :: .int m_manyBeside :: .ref a_m_dist :: .ref a_m_queue :: .int m_queued :: .int m_boxLevel :: .int m_boxTop :: .int m_boxBottom :: .int m_boxWest :: .int m_boxEast :: .int m_isEarly :: .int m_pieces :: .int m_states :: .ref a_m_pieceLevel :: .ref a_m_pieceKey :: .ref a_m_pieceYear :: .int m_drawnNow :: .ref a_m_drawnKeys :: .ref a_m_kept :: .int m_keptAt :: .ref a_m_noNumbers :: []))) :: (a_m_cutRows, .inl (ci 0, 5, .inl m_cutRows)) :: (a_m_cutColumns, .inl (ci 0, 5, .inl m_cutColumns)) :: (a_m_deep, .inl (ci 0, 5, .inl o1)) :: (a_m_wide, .inl (ci 0, 5, .inl o2)) :: Rw)) A) 0 0 A := by
  refine q_ofW (cc := cX11_laysGrids) (maxL := 2) (ret := none) [.ref a_m] (plainFor_of_name (by decide)) rfl (Nat.le_of_ble_eq_true rfl) ?_
  intro p e s m below meth c ls Q hQ hx hb hml hr hts hown hlocks hK hA hZ hP hD hS hl
  have hl : lv_has ls 2 [(0, .ref a_m)] := hl
  have hown : s.vm.findClass RX11 = some m.cls := hown
  have hinX11 : ∀ w ∈ wsX110, w ∈ wsX11_laysGrids := fun _ h => List.mem_cons_of_mem _ (inWX110 _ h)
  have w_1 := hts (Cond.fieldLink RX11 16 "SheetNamesModel" "deep" "[I") (List.mem_cons_of_mem _ t_w908)
  have w_2 := hts (Cond.fieldLink RX11 19 "SheetNamesModel" "wide" "[I") (List.mem_cons_of_mem _ t_w909)
  have w_3 := hts (Cond.fieldLink RX11 7 "SheetNamesModel" "cutRows" "[I") (List.mem_cons_of_mem _ t_w924)
  have w_4 := hts (Cond.fieldLink RX11 13 "SheetNamesModel" "cutColumns" "[I") (List.mem_cons_of_mem _ t_w923)
  unfold f_M_laysGrids at hf
  have hgo : ∀ (H : Heap) (locs : List Loc), H = s.heap → va_P D vwCl ((a_m, .inr (11, (.ref a_m_cutRows :: .ref a_m_cutColumns :: .ref a_m_deep :: .ref a_m_wide :: .ref a_m_zonesAhead :: .ref a_m_nameOne :: .ref a_m_nameOther :: .ref a_m_tape :: .int m_taped :: .int m_place :: .int m_fault :: .int m_number :: .int m_levelRead :: .int m_keyRead :: .int m_reads :: .int m_faults :: .int m_cutShort :: .int m_noNumber :: .long m_bottomLat :: .long m_bottomLon :: .ref a_m_edges :: .int m_firstBeside :: .int m_manyBeside :: .ref a_m_dist :: .ref a_m_queue :: .int m_queued :: .int m_boxLevel :: .int m_boxTop :: .int m_boxBottom :: .int m_boxWest :: .int m_boxEast :: .int m_isEarly :: .int m_pieces :: .int m_states :: .ref a_m_pieceLevel :: .ref a_m_pieceKey :: .ref a_m_pieceYear :: .int m_drawnNow :: .ref a_m_drawnKeys :: .ref a_m_kept :: .int m_keptAt :: .ref a_m_noNumbers :: []))) :: (a_m_cutRows, .inl (ci 0, 5, .inl m_cutRows)) :: (a_m_cutColumns, .inl (ci 0, 5, .inl m_cutColumns)) :: (a_m_deep, .inl (ci 0, 5, .inl m_deep)) :: (a_m_wide, .inl (ci 0, 5, .inl m_wide)) :: Rw) H → va_S A s.heap H locs → W p l e ({ frames := 0, cells := 0, slots := 0, locals := 0 } : Room) s m ([.ref a_m] : List Value).toArray below meth c H locs 0 0 Q (F0 m 0 ls []) := by
    intro H locs hH hP hS
    refine lv_aload_n (pc := 0) hx hb dX11_laysGrids_0 rfl (lv_at hl 0 rfl) ?_
    refine va_get (pc := 1) (D := D) (ci := 11) (v := .ref a_m_deep) (C := RX11) (T := TX11) (N := 42) hx hb hts hinX11 hown hK hP 0 rfl rfl 2 (by decide) w_1 (fun _ h9 => h9) rfl dX11_laysGrids_1 ?_
    refine lv_iconst (pc := 4) (v := 0) hx hb dX11_laysGrids_4 (by decide) ?_
    refine lv_iconst (pc := 5) (v := 1) hx hb dX11_laysGrids_5 (by decide) ?_
    refine q_iast (pc := 6) hx hb hK hP hD hS 3 0 hf rfl rfl dX11_laysGrids_6 (fun f1 H locs hf hP hD hS => ?_)
    obtain ⟨hP, hD⟩ : va_PD D A ((a_m, .inr (11, (.ref a_m_cutRows :: .ref a_m_cutColumns :: .ref a_m_deep :: .ref a_m_wide :: .ref a_m_zonesAhead :: .ref a_m_nameOne :: .ref a_m_nameOther :: .ref a_m_tape :: .int m_taped :: .int m_place :: .int m_fault :: .int m_number :: .int m_levelRead :: .int m_keyRead :: .int m_reads :: .int m_faults :: .int m_cutShort :: .int m_noNumber :: .long m_bottomLat :: .long m_bottomLon :: .ref a_m_edges :: .int m_firstBeside :: .int m_manyBeside :: .ref a_m_dist :: .ref a_m_queue :: .int m_queued :: .int m_boxLevel :: .int m_boxTop :: .int m_boxBottom :: .int m_boxWest :: .int m_boxEast :: .int m_isEarly :: .int m_pieces :: .int m_states :: .ref a_m_pieceLevel :: .ref a_m_pieceKey :: .ref a_m_pieceYear :: .int m_drawnNow :: .ref a_m_drawnKeys :: .ref a_m_kept :: .int m_keptAt :: .ref a_m_noNumbers :: []))) :: (a_m_cutRows, .inl (ci 0, 5, .inl m_cutRows)) :: (a_m_cutColumns, .inl (ci 0, 5, .inl m_cutColumns)) :: (a_m_deep, .inl (ci 0, 5, .inl f1)) :: (a_m_wide, .inl (ci 0, 5, .inl m_wide)) :: Rw) H := ⟨hP, hD⟩
    refine lv_aload_n (pc := 7) hx hb dX11_laysGrids_7 rfl (lv_at hl 0 rfl) ?_
    refine va_get (pc := 8) (D := D) (ci := 11) (v := .ref a_m_wide) (C := RX11) (T := TX11) (N := 42) hx hb hts hinX11 hown hK hP 0 rfl rfl 3 (by decide) w_2 (fun _ h9 => h9) rfl dX11_laysGrids_8 ?_
    refine lv_iconst (pc := 11) (v := 0) hx hb dX11_laysGrids_11 (by decide) ?_
    refine lv_iconst (pc := 12) (v := 1) hx hb dX11_laysGrids_12 (by decide) ?_
    refine q_iast (pc := 13) hx hb hK hP hD hS 4 0 hf rfl rfl dX11_laysGrids_13 (fun f2 H locs hf hP hD hS => ?_)
    obtain ⟨hP, hD⟩ : va_PD D A ((a_m, .inr (11, (.ref a_m_cutRows :: .ref a_m_cutColumns :: .ref a_m_deep :: .ref a_m_wide :: .ref a_m_zonesAhead :: .ref a_m_nameOne :: .ref a_m_nameOther :: .ref a_m_tape :: .int m_taped :: .int m_place :: .int m_fault :: .int m_number :: .int m_levelRead :: .int m_keyRead :: .int m_reads :: .int m_faults :: .int m_cutShort :: .int m_noNumber :: .long m_bottomLat :: .long m_bottomLon :: .ref a_m_edges :: .int m_firstBeside :: .int m_manyBeside :: .ref a_m_dist :: .ref a_m_queue :: .int m_queued :: .int m_boxLevel :: .int m_boxTop :: .int m_boxBottom :: .int m_boxWest :: .int m_boxEast :: .int m_isEarly :: .int m_pieces :: .int m_states :: .ref a_m_pieceLevel :: .ref a_m_pieceKey :: .ref a_m_pieceYear :: .int m_drawnNow :: .ref a_m_drawnKeys :: .ref a_m_kept :: .int m_keptAt :: .ref a_m_noNumbers :: []))) :: (a_m_cutRows, .inl (ci 0, 5, .inl m_cutRows)) :: (a_m_cutColumns, .inl (ci 0, 5, .inl m_cutColumns)) :: (a_m_deep, .inl (ci 0, 5, .inl f1)) :: (a_m_wide, .inl (ci 0, 5, .inl f2)) :: Rw) H := ⟨hP, hD⟩
    refine lv_iconst (pc := 14) (v := 1) hx hb dX11_laysGrids_14 (by decide) ?_
    obtain ⟨v3, ev3, hf⟩ := q_nm_e hf
    refine q_topi ev3 ?_
    refine lv_istore_n (pc := 15) (lv' := [(1, .int v3), (0, .ref a_m)]) hx hb dX11_laysGrids_15 rfl hl (by decide) rfl (fun ls hl => ?_)
    obtain ⟨f7, f8, hm16, hf⟩ := q_b2_e hf
    have JE16 : ∀ (H : Heap) (locs : List Loc) (ls : Array Slot), va_P D vwCl ((a_m, .inr (11, (.ref a_m_cutRows :: .ref a_m_cutColumns :: .ref a_m_deep :: .ref a_m_wide :: .ref a_m_zonesAhead :: .ref a_m_nameOne :: .ref a_m_nameOther :: .ref a_m_tape :: .int m_taped :: .int m_place :: .int m_fault :: .int m_number :: .int m_levelRead :: .int m_keyRead :: .int m_reads :: .int m_faults :: .int m_cutShort :: .int m_noNumber :: .long m_bottomLat :: .long m_bottomLon :: .ref a_m_edges :: .int m_firstBeside :: .int m_manyBeside :: .ref a_m_dist :: .ref a_m_queue :: .int m_queued :: .int m_boxLevel :: .int m_boxTop :: .int m_boxBottom :: .int m_boxWest :: .int m_boxEast :: .int m_isEarly :: .int m_pieces :: .int m_states :: .ref a_m_pieceLevel :: .ref a_m_pieceKey :: .ref a_m_pieceYear :: .int m_drawnNow :: .ref a_m_drawnKeys :: .ref a_m_kept :: .int m_keptAt :: .ref a_m_noNumbers :: []))) :: (a_m_cutRows, .inl (ci 0, 5, .inl m_cutRows)) :: (a_m_cutColumns, .inl (ci 0, 5, .inl m_cutColumns)) :: (a_m_deep, .inl (ci 0, 5, .inl f7)) :: (a_m_wide, .inl (ci 0, 5, .inl f8)) :: Rw) H → va_D A ((a_m, .inr (11, (.ref a_m_cutRows :: .ref a_m_cutColumns :: .ref a_m_deep :: .ref a_m_wide :: .ref a_m_zonesAhead :: .ref a_m_nameOne :: .ref a_m_nameOther :: .ref a_m_tape :: .int m_taped :: .int m_place :: .int m_fault :: .int m_number :: .int m_levelRead :: .int m_keyRead :: .int m_reads :: .int m_faults :: .int m_cutShort :: .int m_noNumber :: .long m_bottomLat :: .long m_bottomLon :: .ref a_m_edges :: .int m_firstBeside :: .int m_manyBeside :: .ref a_m_dist :: .ref a_m_queue :: .int m_queued :: .int m_boxLevel :: .int m_boxTop :: .int m_boxBottom :: .int m_boxWest :: .int m_boxEast :: .int m_isEarly :: .int m_pieces :: .int m_states :: .ref a_m_pieceLevel :: .ref a_m_pieceKey :: .ref a_m_pieceYear :: .int m_drawnNow :: .ref a_m_drawnKeys :: .ref a_m_kept :: .int m_keptAt :: .ref a_m_noNumbers :: []))) :: (a_m_cutRows, .inl (ci 0, 5, .inl m_cutRows)) :: (a_m_cutColumns, .inl (ci 0, 5, .inl m_cutColumns)) :: (a_m_deep, .inl (ci 0, 5, .inl f7)) :: (a_m_wide, .inl (ci 0, 5, .inl f8)) :: Rw) → va_S A s.heap H locs → lv_has ls 2 [] → W p l e ({ frames := 0, cells := 0, slots := 0, locals := 0 } : Room) s m ([.ref a_m] : List Value).toArray below meth c H locs 0 0 Q (F0 m 69 ls []) := by
      intro H locs ls hP hD hS hl
      obtain ⟨rfl, rfl⟩ := q_inj2 (Option.some.inj hf)
      rw [hQ]
      exact q_vret (pc := 69) hx hb hr hlocks hP hD hS dX11_laysGrids_69
    have LP16 : ∀ (n16 : Nat) (v4 : Int32) (f5 : Nat → Int32) (f6 : Nat → Int32) (H : Heap) (locs : List Loc) (ls : Array Slot), f_M_laysGrids_L16 m_cutColumns m_cutRows n16 v4 f5 f6 = some (f7, f8) → va_P D vwCl ((a_m, .inr (11, (.ref a_m_cutRows :: .ref a_m_cutColumns :: .ref a_m_deep :: .ref a_m_wide :: .ref a_m_zonesAhead :: .ref a_m_nameOne :: .ref a_m_nameOther :: .ref a_m_tape :: .int m_taped :: .int m_place :: .int m_fault :: .int m_number :: .int m_levelRead :: .int m_keyRead :: .int m_reads :: .int m_faults :: .int m_cutShort :: .int m_noNumber :: .long m_bottomLat :: .long m_bottomLon :: .ref a_m_edges :: .int m_firstBeside :: .int m_manyBeside :: .ref a_m_dist :: .ref a_m_queue :: .int m_queued :: .int m_boxLevel :: .int m_boxTop :: .int m_boxBottom :: .int m_boxWest :: .int m_boxEast :: .int m_isEarly :: .int m_pieces :: .int m_states :: .ref a_m_pieceLevel :: .ref a_m_pieceKey :: .ref a_m_pieceYear :: .int m_drawnNow :: .ref a_m_drawnKeys :: .ref a_m_kept :: .int m_keptAt :: .ref a_m_noNumbers :: []))) :: (a_m_cutRows, .inl (ci 0, 5, .inl m_cutRows)) :: (a_m_cutColumns, .inl (ci 0, 5, .inl m_cutColumns)) :: (a_m_deep, .inl (ci 0, 5, .inl f5)) :: (a_m_wide, .inl (ci 0, 5, .inl f6)) :: Rw) H → va_D A ((a_m, .inr (11, (.ref a_m_cutRows :: .ref a_m_cutColumns :: .ref a_m_deep :: .ref a_m_wide :: .ref a_m_zonesAhead :: .ref a_m_nameOne :: .ref a_m_nameOther :: .ref a_m_tape :: .int m_taped :: .int m_place :: .int m_fault :: .int m_number :: .int m_levelRead :: .int m_keyRead :: .int m_reads :: .int m_faults :: .int m_cutShort :: .int m_noNumber :: .long m_bottomLat :: .long m_bottomLon :: .ref a_m_edges :: .int m_firstBeside :: .int m_manyBeside :: .ref a_m_dist :: .ref a_m_queue :: .int m_queued :: .int m_boxLevel :: .int m_boxTop :: .int m_boxBottom :: .int m_boxWest :: .int m_boxEast :: .int m_isEarly :: .int m_pieces :: .int m_states :: .ref a_m_pieceLevel :: .ref a_m_pieceKey :: .ref a_m_pieceYear :: .int m_drawnNow :: .ref a_m_drawnKeys :: .ref a_m_kept :: .int m_keptAt :: .ref a_m_noNumbers :: []))) :: (a_m_cutRows, .inl (ci 0, 5, .inl m_cutRows)) :: (a_m_cutColumns, .inl (ci 0, 5, .inl m_cutColumns)) :: (a_m_deep, .inl (ci 0, 5, .inl f5)) :: (a_m_wide, .inl (ci 0, 5, .inl f6)) :: Rw) → va_S A s.heap H locs → lv_has ls 2 [(0, .ref a_m), (1, .int v4)] → W p l e ({ frames := 0, cells := 0, slots := 0, locals := 0 } : Room) s m ([.ref a_m] : List Value).toArray below meth c H locs 0 0 Q (F0 m 16 ls []) := by
      intro n16
      induction n16 with
      | zero => intro v4 f5 f6 H locs ls hf; rw [f_M_laysGrids_L16] at hf; cases hf
      | succ n16 ih16 =>
        intro v4 f5 f6 H locs ls hf hP hD hS hl
        rw [f_M_laysGrids_L16] at hf
        refine lv_iload_n (pc := 16) hx hb dX11_laysGrids_16 rfl (lv_at hl 1 rfl) ?_
        refine lv_iconst (pc := 17) (v := 5) hx hb dX11_laysGrids_17 (by decide) ?_
        refine q_icmp_ge (pc := 18) (tgt := 69) hx hb dX11_laysGrids_18 (by decide) rfl hf (fun hf => ?_) (fun hf => ?_)
        · obtain ⟨rfl, rfl⟩ := q_inj2 (Option.some.inj hf)
          exact JE16 _ _ _ hP hD hS (lv_sub hl [] rfl)
        · refine lv_aload_n (pc := 21) hx hb dX11_laysGrids_21 rfl (lv_at hl 0 rfl) ?_
          refine va_get (pc := 22) (D := D) (ci := 11) (v := .ref a_m_deep) (C := RX11) (T := TX11) (N := 42) hx hb hts hinX11 hown hK hP 0 rfl rfl 2 (by decide) w_1 (fun _ h9 => h9) rfl dX11_laysGrids_22 ?_
          refine lv_iload_n (pc := 25) hx hb dX11_laysGrids_25 rfl (lv_at hl 1 rfl) ?_
          refine lv_aload_n (pc := 26) hx hb dX11_laysGrids_26 rfl (lv_at hl 0 rfl) ?_
          refine va_get (pc := 27) (D := D) (ci := 11) (v := .ref a_m_deep) (C := RX11) (T := TX11) (N := 42) hx hb hts hinX11 hown hK hP 0 rfl rfl 2 (by decide) w_1 (fun _ h9 => h9) rfl dX11_laysGrids_27 ?_
          refine lv_iload_n (pc := 30) hx hb dX11_laysGrids_30 rfl (lv_at hl 1 rfl) ?_
          refine lv_iconst (pc := 31) (v := 1) hx hb dX11_laysGrids_31 (by decide) ?_
          refine lv_isub (pc := 32) hx hb dX11_laysGrids_32 ?_
          refine q_iald (pc := 33) hx hb hK hP 3 0 hf rfl rfl dX11_laysGrids_33 (fun v9 hf => ?_)
          refine lv_aload_n (pc := 34) hx hb dX11_laysGrids_34 rfl (lv_at hl 0 rfl) ?_
          refine va_get (pc := 35) (D := D) (ci := 11) (v := .ref a_m_cutRows) (C := RX11) (T := TX11) (N := 42) hx hb hts hinX11 hown hK hP 0 rfl rfl 0 (by decide) w_3 (fun _ h9 => h9) rfl dX11_laysGrids_35 ?_
          refine lv_iload_n (pc := 38) hx hb dX11_laysGrids_38 rfl (lv_at hl 1 rfl) ?_
          refine q_iald (pc := 39) hx hb hK hP 1 0 hf rfl rfl dX11_laysGrids_39 (fun v10 hf => ?_)
          refine lv_imul (pc := 40) hx hb dX11_laysGrids_40 ?_
          refine q_iast (pc := 41) hx hb hK hP hD hS 3 0 hf rfl rfl dX11_laysGrids_41 (fun f11 H locs hf hP hD hS => ?_)
          obtain ⟨hP, hD⟩ : va_PD D A ((a_m, .inr (11, (.ref a_m_cutRows :: .ref a_m_cutColumns :: .ref a_m_deep :: .ref a_m_wide :: .ref a_m_zonesAhead :: .ref a_m_nameOne :: .ref a_m_nameOther :: .ref a_m_tape :: .int m_taped :: .int m_place :: .int m_fault :: .int m_number :: .int m_levelRead :: .int m_keyRead :: .int m_reads :: .int m_faults :: .int m_cutShort :: .int m_noNumber :: .long m_bottomLat :: .long m_bottomLon :: .ref a_m_edges :: .int m_firstBeside :: .int m_manyBeside :: .ref a_m_dist :: .ref a_m_queue :: .int m_queued :: .int m_boxLevel :: .int m_boxTop :: .int m_boxBottom :: .int m_boxWest :: .int m_boxEast :: .int m_isEarly :: .int m_pieces :: .int m_states :: .ref a_m_pieceLevel :: .ref a_m_pieceKey :: .ref a_m_pieceYear :: .int m_drawnNow :: .ref a_m_drawnKeys :: .ref a_m_kept :: .int m_keptAt :: .ref a_m_noNumbers :: []))) :: (a_m_cutRows, .inl (ci 0, 5, .inl m_cutRows)) :: (a_m_cutColumns, .inl (ci 0, 5, .inl m_cutColumns)) :: (a_m_deep, .inl (ci 0, 5, .inl f11)) :: (a_m_wide, .inl (ci 0, 5, .inl f6)) :: Rw) H := ⟨hP, hD⟩
          refine lv_aload_n (pc := 42) hx hb dX11_laysGrids_42 rfl (lv_at hl 0 rfl) ?_
          refine va_get (pc := 43) (D := D) (ci := 11) (v := .ref a_m_wide) (C := RX11) (T := TX11) (N := 42) hx hb hts hinX11 hown hK hP 0 rfl rfl 3 (by decide) w_2 (fun _ h9 => h9) rfl dX11_laysGrids_43 ?_
          refine lv_iload_n (pc := 46) hx hb dX11_laysGrids_46 rfl (lv_at hl 1 rfl) ?_
          refine lv_aload_n (pc := 47) hx hb dX11_laysGrids_47 rfl (lv_at hl 0 rfl) ?_
          refine va_get (pc := 48) (D := D) (ci := 11) (v := .ref a_m_wide) (C := RX11) (T := TX11) (N := 42) hx hb hts hinX11 hown hK hP 0 rfl rfl 3 (by decide) w_2 (fun _ h9 => h9) rfl dX11_laysGrids_48 ?_
          refine lv_iload_n (pc := 51) hx hb dX11_laysGrids_51 rfl (lv_at hl 1 rfl) ?_
          refine lv_iconst (pc := 52) (v := 1) hx hb dX11_laysGrids_52 (by decide) ?_
          refine lv_isub (pc := 53) hx hb dX11_laysGrids_53 ?_
          refine q_iald (pc := 54) hx hb hK hP 4 0 hf rfl rfl dX11_laysGrids_54 (fun v12 hf => ?_)
          refine lv_aload_n (pc := 55) hx hb dX11_laysGrids_55 rfl (lv_at hl 0 rfl) ?_
          refine va_get (pc := 56) (D := D) (ci := 11) (v := .ref a_m_cutColumns) (C := RX11) (T := TX11) (N := 42) hx hb hts hinX11 hown hK hP 0 rfl rfl 1 (by decide) w_4 (fun _ h9 => h9) rfl dX11_laysGrids_56 ?_
          refine lv_iload_n (pc := 59) hx hb dX11_laysGrids_59 rfl (lv_at hl 1 rfl) ?_
          refine q_iald (pc := 60) hx hb hK hP 2 0 hf rfl rfl dX11_laysGrids_60 (fun v13 hf => ?_)
          refine lv_imul (pc := 61) hx hb dX11_laysGrids_61 ?_
          refine q_iast (pc := 62) hx hb hK hP hD hS 4 0 hf rfl rfl dX11_laysGrids_62 (fun f14 H locs hf hP hD hS => ?_)
          obtain ⟨hP, hD⟩ : va_PD D A ((a_m, .inr (11, (.ref a_m_cutRows :: .ref a_m_cutColumns :: .ref a_m_deep :: .ref a_m_wide :: .ref a_m_zonesAhead :: .ref a_m_nameOne :: .ref a_m_nameOther :: .ref a_m_tape :: .int m_taped :: .int m_place :: .int m_fault :: .int m_number :: .int m_levelRead :: .int m_keyRead :: .int m_reads :: .int m_faults :: .int m_cutShort :: .int m_noNumber :: .long m_bottomLat :: .long m_bottomLon :: .ref a_m_edges :: .int m_firstBeside :: .int m_manyBeside :: .ref a_m_dist :: .ref a_m_queue :: .int m_queued :: .int m_boxLevel :: .int m_boxTop :: .int m_boxBottom :: .int m_boxWest :: .int m_boxEast :: .int m_isEarly :: .int m_pieces :: .int m_states :: .ref a_m_pieceLevel :: .ref a_m_pieceKey :: .ref a_m_pieceYear :: .int m_drawnNow :: .ref a_m_drawnKeys :: .ref a_m_kept :: .int m_keptAt :: .ref a_m_noNumbers :: []))) :: (a_m_cutRows, .inl (ci 0, 5, .inl m_cutRows)) :: (a_m_cutColumns, .inl (ci 0, 5, .inl m_cutColumns)) :: (a_m_deep, .inl (ci 0, 5, .inl f11)) :: (a_m_wide, .inl (ci 0, 5, .inl f14)) :: Rw) H := ⟨hP, hD⟩
          obtain ⟨v15, ev15, hf⟩ := q_nm_e hf
          refine lv_iinc (pc := 63) (v := v15) (lv' := [(1, .int v15), (0, .ref a_m)]) hx hb dX11_laysGrids_63 hl (k := 1) rfl (by rw [ev15]; rfl) (by decide) rfl (fun ls hl => ?_)
          refine lv_goto (pc := 66) (tgt := 16) hx hb dX11_laysGrids_66 (by decide) ?_
          exact ih16 v15 f11 f14 _ _ _ hf hP hD hS (lv_sub hl [1, 0] rfl)
    exact LP16 N v3 f1 f2 _ _ _ hm16 hP hD hS (lv_sub hl [1, 0] rfl)
  exact hgo _ _ rfl hP hS
