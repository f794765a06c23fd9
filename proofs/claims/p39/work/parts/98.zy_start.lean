/-! the law's start -/
theorem l_m0 : (Cond.classLink RL 7 RX10 ∈ lw_tbl ∧ Cond.initialized RX10 ∈ lw_tbl ∧ Cond.methodLink RL 9 yX10_init ∈ lw_tbl ∧ Cond.instanceMethod yX10_init ∈ lw_tbl) ∧ Cond.classLink RL 10 RX11 ∈ lw_tbl ∧ Cond.initialized RX11 ∈ lw_tbl ∧ Cond.methodLink RL 12 yX11_init ∈ lw_tbl ∧ Cond.instanceMethod yX11_init ∈ lw_tbl := ⟨⟨tb_1 _ (List.mem_of_getElem? (i := 20) rfl), tb_1 _ (List.mem_of_getElem? (i := 1) rfl), tb_1 _ (List.mem_of_getElem? (i := 22) rfl), tb_1 _ (List.mem_of_getElem? (i := 23) rfl)⟩, tb_5 _ (List.mem_of_getElem? (i := 147) rfl), tb_1 _ (List.mem_of_getElem? (i := 12) rfl), tb_5 _ (List.mem_of_getElem? (i := 149) rfl), tb_5 _ (List.mem_of_getElem? (i := 150) rfl)⟩
theorem l_nulX : ∀ j, j < 14 → defaultValue (tyX10 j) = vp_V [.null, .null, .null, .null, .int 0, .null, .null, .null, .null, .null, .null, .null, .null, .null] j := by
  intro j hj
  rcases (show j = 0 ∨ j = 1 ∨ j = 2 ∨ j = 3 ∨ j = 4 ∨ j = 5 ∨ j = 6 ∨ j = 7 ∨ j = 8 ∨ j = 9 ∨ j = 10 ∨ j = 11 ∨ j = 12 ∨ j = 13 by omega) with rfl | rfl | rfl | rfl | rfl | rfl | rfl | rfl | rfl | rfl | rfl | rfl | rfl | rfl <;> rfl
abbrev l_nulM : List Value := [.null, .null, .null, .null, .null, .null, .null, .null, .int 0, .int 0, .int 0, .int 0, .int 0, .int 0, .int 0, .int 0, .int 0, .int 0, .long 0, .long 0, .null, .int 0, .int 0, .null, .null, .int 0, .int 0, .int 0, .int 0, .int 0, .int 0, .int 0, .int 0, .int 0, .null, .null, .null, .int 0, .null, .null, .int 0, .null]
theorem l_nulM2 : ∀ j, j < 42 → defaultValue (tyX11 j) = vp_V l_nulM j := by
  intro j hj
  rcases (show j = 0 ∨ j = 1 ∨ j = 2 ∨ j = 3 ∨ j = 4 ∨ j = 5 ∨ j = 6 ∨ j = 7 ∨ j = 8 ∨ j = 9 ∨ j = 10 ∨ j = 11 ∨ j = 12 ∨ j = 13 ∨ j = 14 ∨ j = 15 ∨ j = 16 ∨ j = 17 ∨ j = 18 ∨ j = 19 ∨ j = 20 ∨ j = 21 ∨ j = 22 ∨ j = 23 ∨ j = 24 ∨ j = 25 ∨ j = 26 ∨ j = 27 ∨ j = 28 ∨ j = 29 ∨ j = 30 ∨ j = 31 ∨ j = 32 ∨ j = 33 ∨ j = 34 ∨ j = 35 ∨ j = 36 ∨ j = 37 ∨ j = 38 ∨ j = 39 ∨ j = 40 ∨ j = 41 by omega) with rfl | rfl | rfl | rfl | rfl | rfl | rfl | rfl | rfl | rfl | rfl | rfl | rfl | rfl | rfl | rfl | rfl | rfl | rfl | rfl | rfl | rfl | rfl | rfl | rfl | rfl | rfl | rfl | rfl | rfl | rfl | rfl | rfl | rfl | rfl | rfl | rfl | rfl | rfl | rfl | rfl | rfl <;> rfl
theorem whole_start {p : Program} {e : Env} {s : State} {m : MethodId} {below : List Frame} {meth : Method} {c : Code} (l : Launch) (hflags : l.flags = flags0) {b L : Nat} {xs : Nat → Int32} (hL : L ≤ 4096) (C0 : lw_At p s m meth c b L xs) : W p l e room_1 s m #[Value.ref b] below meth c s.heap [] 0 0 (lw_Z below #[Value.ref b] s) (entryFrame m ([Value.ref b] : List Value).toArray 4) := by
  obtain ⟨hx, hb, hr, hml, hown, hts, hX, hbl, hlocks, hgv⟩ := id C0
  obtain ⟨D, ci, hK⟩ := lw_K0 hts
  obtain ⟨sa, hZ⟩ := lw_Z0 hts hgv
  obtain ⟨⟨n1, n2, n3, n4⟩, n5, n6, n7, n8⟩ := l_m0
  obtain ⟨-, -, -, -, -, -, -, -, -, -, i10, i11⟩ := l_mi
  have htsL := wsL_law_at hts
  have hown : s.vm.findClass RL = some m.cls := hown
  have hA : ∀ q : Nat, s.heap.size ≤ q → (fun q : Nat => s.heap.size ≤ q) q := fun _ h => h
  have hS : va_S (fun q : Nat => s.heap.size ≤ q) s.heap s.heap [] := va_S.rf
  have hP : va_P D vwCl [] s.heap := fun k q h => by simp at h
  have hD : va_D (fun q : Nat => s.heap.size ≤ q) [] := ⟨fun i j p q h => by simp at h, fun k q h => by simp at h⟩
  have hl := lv_entry ([.ref b]) (n := 4) (Nat.le_of_ble_eq_true rfl)
  rw [lg_entry_eq]
  generalize (lg_sl ([.ref b]) ++ List.replicate (4 - (lg_sl ([.ref b])).length) Slot.unset).toArray = ls at hl ⊢
  have hl : lv_has ls 4 [(0, .ref b)] := hl
  refine va_new (ci := 10) (fs := [.null, .null, .null, .null, .int 0, .null, .null, .null, .null, .null, .null, .null, .null, .null]) (C := RX10) (T := TX10) (N := 14) hx hb hts (fun w h => (List.mem_filter.mp (inWX100 w h)).1) tyX10 tyX10_ok hown (hts _ n1) (hts _ i10) (hts _ n2) hK hP hD hS hA rfl l_nulX (Nat.le_of_ble_eq_true rfl) (Nat.le_of_ble_eq_true rfl) dL_law_0 (fun q1 H hP hD hS => ?_)
  have hP : va_P D vwCl ((q1, .inr (10, [.null, .null, .null, .null, .int 0, .null, .null, .null, .null, .null, .null, .null, .null, .null])) :: []) H := hP
  have hD : va_D (fun q : Nat => s.heap.size ≤ q) ((q1, .inr (10, [.null, .null, .null, .null, .int 0, .null, .null, .null, .null, .null, .null, .null, .null, .null])) :: []) := hD
  refine lv_dup (pc := 3) hx hb dL_law_3 rfl ?_
  refine q_call (pc := 4) (va_runI (As := []) (rest := [.ref q1]) ⟨hx, hb, hml, hown, htsL⟩ (l_X_init l D ci (fun q : Nat => s.heap.size ≤ q) sa [] q1) (cwI 0 htsL gL_law_X10_init rfl rfl rfl (hts _ n2) (hts _ n3) (hts _ n4) rfl (by decide +kernel) ⟨Nat.le_of_ble_eq_true rfl, Nat.le_of_ble_eq_true rfl⟩) (q_preS (As := [.ref q1]) (n1 := 0) (is1 := []) hK hA hZ hP hD hS rfl ⟨rfl, rfl, rfl⟩) rfl rfl hl.1 rfl (lv_room (Nat.le_of_ble_eq_true rfl)) dL_law_4 ⟨Nat.le_of_ble_eq_true rfl, Nat.le_of_ble_eq_true rfl⟩) hS (fun t2 locs _ hB hS => ?_)
  obtain ⟨WX, hXI, hP, hD⟩ := hB
  refine lv_astore_n (pc := 7) (lv' := [(1, .ref q1), (0, .ref b)]) hx hb dL_law_7 rfl hl (by decide) rfl (fun ls hl => ?_)
  refine va_new (pc := 8) (ci := 11) (fs := l_nulM) (C := RX11) (T := TX11) (N := 42) hx hb hts (fun w h => (List.mem_filter.mp (inWX110 w h)).1) tyX11 tyX11_ok hown (hts _ n5) (hts _ i11) (hts _ n6) hK hP hD hS hA rfl l_nulM2 (Nat.le_of_ble_eq_true rfl) (Nat.le_of_ble_eq_true rfl) dL_law_8 (fun q2 H hP hD hS => ?_)
  have hP : va_P D vwCl ((q2, .inr (11, l_nulM)) :: (WX ++ [])) H := l_swP hP
  have hD : va_D (fun q : Nat => s.heap.size ≤ q) ((q2, .inr (11, l_nulM)) :: (WX ++ [])) := l_swD hD
  refine lv_dup (pc := 11) hx hb dL_law_11 rfl ?_
  refine q_call (pc := 12) (va_runI (As := []) (rest := [.ref q2]) ⟨hx, hb, hml, hown, htsL⟩ (l_M_init l D ci (fun q : Nat => s.heap.size ≤ q) sa (WX ++ []) q2) (cwI 0 htsL gL_law_X11_init rfl rfl rfl (hts _ n6) (hts _ n7) (hts _ n8) rfl (by decide +kernel) ⟨Nat.le_of_ble_eq_true rfl, Nat.le_of_ble_eq_true rfl⟩) (q_preS (As := [.ref q2]) (n1 := 0) (is1 := []) hK hA hZ hP hD hS rfl ⟨rfl, rfl, rfl⟩) rfl rfl hl.1 rfl (lv_room (Nat.le_of_ble_eq_true rfl)) dL_law_12 ⟨Nat.le_of_ble_eq_true rfl, Nat.le_of_ble_eq_true rfl⟩) hS (fun t3 locs _ hB hS => ?_)
  obtain ⟨WM, hMI, hP, hD⟩ := hB
  rw [List.append_nil] at hP hD
  refine lv_astore_n (pc := 15) (lv' := [(2, .ref q2), (1, .ref q1), (0, .ref b)]) hx hb dL_law_15 rfl hl (by decide) rfl (fun ls hl => ?_)
  refine lv_iconst (pc := 16) (v := nI 0) hx hb dL_law_16 (by decide) ?_
  refine lv_istore_n (pc := 17) (lv' := [(3, .int (nI 0)), (2, .ref q2), (1, .ref q1), (0, .ref b)]) hx hb dL_law_17 rfl hl (by decide) rfl (fun ls hl => ?_)
  exact law_loop p l e s m below meth c b L xs D ci sa ⟨hx, hb, hml, hown, htsL, hX, hbl, hK, hZ, hr, hlocks, hL⟩ 6000 0 ls (by omega) (by omega) hl WX WM 0 0 0 _ _ _ _ _ _ hXI hMI (l_swP hP) (l_swD hD) hS (Nat.le_of_ble_eq_true rfl) (Nat.le_of_ble_eq_true rfl)
