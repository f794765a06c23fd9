/-! the law's cases -/
theorem law_11 (p : Program) (l : Launch) (e : Env) (s : State) (m : MethodId) (below : List Frame) (meth : Method) (c : Code) (b L : Nat) (xs : Nat → Int32) (D : va_G) (ci : Nat → ClassId) (sa : Nat → Nat) {a_x a_m i : Nat} {ls : Array Slot} (C0 : lL_C p l e s m below meth c b L xs D ci sa) (hi : i + 8 ≤ L) (hl : lv_has ls 4 [(3, .int (nI i)), (2, .ref a_m), (1, .ref a_x), (0, .ref b)]) (hgo : lL_go p l e s m below meth c b L xs D ci sa a_x a_m ls 2146) : lL_go p l e s m below meth c b L xs D ci sa a_x a_m ls 697 := by
  obtain ⟨hx, hb, hml, hown, hts, hX, hbl, hK, hZ, hret, hlocks, hL⟩ := C0
  intro WX WM t n s0 sv kv H locs cells slots hXI hMI hP hD hS hc hs
  have hA : ∀ q : Nat, s.heap.size ≤ q → (fun q : Nat => s.heap.size ≤ q) q := fun _ h => h
  have hbA : ¬ (fun q : Nat => s.heap.size ≤ q) b := Nat.not_le.mpr hbl
  have hn := hXI.n
  have hok := hXI.ok
  refine lv_aload_n (pc := 697) hx hb dL_law_697 rfl (lv_at hl 2 rfl) ?_
  refine lv_aload_n (pc := 698) hx hb dL_law_698 rfl (lv_at hl 3 rfl) ?_
  refine lv_iload_n (pc := 699) hx hb dL_law_699 rfl (lv_at hl 0 rfl) ?_
  refine lv_iconst (pc := 700) (v := nI 1) hx hb dL_law_700 (by decide) ?_
  refine lv_iadd (pc := 701) hx hb dL_law_701 ?_
  refine va_sld (pc := 702) hx hb hX hbl hbA hS (l_in hi (show 1 < 8 by decide) hL) dL_law_702 ?_
  refine lv_aload_n (pc := 703) hx hb dL_law_703 rfl (lv_at hl 3 rfl) ?_
  refine lv_iload_n (pc := 704) hx hb dL_law_704 rfl (lv_at hl 0 rfl) ?_
  refine lv_iconst (pc := 705) (v := nI 2) hx hb dL_law_705 (by decide) ?_
  refine lv_iadd (pc := 706) hx hb dL_law_706 ?_
  refine va_sld (pc := 707) hx hb hX hbl hbA hS (l_in hi (show 2 < 8 by decide) hL) dL_law_707 ?_
  refine lv_aload_n (pc := 708) hx hb dL_law_708 rfl (lv_at hl 3 rfl) ?_
  refine lv_iload_n (pc := 709) hx hb dL_law_709 rfl (lv_at hl 0 rfl) ?_
  refine lv_iconst (pc := 710) (v := nI 3) hx hb dL_law_710 (by decide) ?_
  refine lv_iadd (pc := 711) hx hb dL_law_711 ?_
  refine va_sld (pc := 712) hx hb hX hbl hbA hS (l_in hi (show 3 < 8 by decide) hL) dL_law_712 ?_
  refine lv_aload_n (pc := 713) hx hb dL_law_713 rfl (lv_at hl 3 rfl) ?_
  refine lv_iload_n (pc := 714) hx hb dL_law_714 rfl (lv_at hl 0 rfl) ?_
  refine lv_iconst (pc := 715) (v := nI 4) hx hb dL_law_715 (by decide) ?_
  refine lv_iadd (pc := 716) hx hb dL_law_716 ?_
  refine va_sld (pc := 717) hx hb hX hbl hbA hS (l_in hi (show 4 < 8 by decide) hL) dL_law_717 ?_
  obtain ⟨r, hM1⟩ := l_X_child l D ci (fun q : Nat => s.heap.size ≤ q) sa WM hXI (xs (nI i + nI 1).toNatClampNeg) (xs (nI i + nI 2).toNatClampNeg) (xs (nI i + nI 3).toNatClampNeg) (xs (nI i + nI 4).toNatClampNeg)
  obtain ⟨fs, hh⟩ := hXI.hd WM
  refine q_call (pc := 718) (va_runV (As := [.int (xs (nI i + nI 1).toNatClampNeg), .int (xs (nI i + nI 2).toNatClampNeg), .int (xs (nI i + nI 3).toNatClampNeg), .int (xs (nI i + nI 4).toNatClampNeg)]) (rest := []) ⟨hx, hb, hml, hown, hts⟩ hM1 (cwV 4 hts gL_law_X10_child rfl rfl rfl (by decide +kernel) ⟨Nat.le_of_ble_eq_true rfl, Nat.le_of_ble_eq_true rfl⟩) (q_preV (n1 := 0) (is1 := []) hK hA hZ hP hD hS rfl ⟨rfl, rfl, rfl⟩ 0 hh rfl) rfl rfl hl.1 rfl (lv_room (Nat.le_of_ble_eq_true rfl)) dL_law_718 (l_rm hn.2 hc hs (Nat.zero_le _) (Nat.zero_le _))) hS (fun t2 locs _ hB hS => ?_)
  obtain ⟨WX, hXI, hP, hD⟩ := hB
  refine lv_pop (pc := 721) hx hb dL_law_721 rfl ?_
  have hP := l_swP hP
  have hD := l_swD hD
  refine lv_aload_n (pc := 722) hx hb dL_law_722 rfl (lv_at hl 1 rfl) ?_
  refine lv_aload_n (pc := 723) hx hb dL_law_723 rfl (lv_at hl 3 rfl) ?_
  refine lv_iload_n (pc := 724) hx hb dL_law_724 rfl (lv_at hl 0 rfl) ?_
  refine lv_iconst (pc := 725) (v := nI 1) hx hb dL_law_725 (by decide) ?_
  refine lv_iadd (pc := 726) hx hb dL_law_726 ?_
  refine va_sld (pc := 727) hx hb hX hbl hbA hS (l_in hi (show 1 < 8 by decide) hL) dL_law_727 ?_
  refine lv_aload_n (pc := 728) hx hb dL_law_728 rfl (lv_at hl 3 rfl) ?_
  refine lv_iload_n (pc := 729) hx hb dL_law_729 rfl (lv_at hl 0 rfl) ?_
  refine lv_iconst (pc := 730) (v := nI 2) hx hb dL_law_730 (by decide) ?_
  refine lv_iadd (pc := 731) hx hb dL_law_731 ?_
  refine va_sld (pc := 732) hx hb hX hbl hbA hS (l_in hi (show 2 < 8 by decide) hL) dL_law_732 ?_
  refine lv_aload_n (pc := 733) hx hb dL_law_733 rfl (lv_at hl 3 rfl) ?_
  refine lv_iload_n (pc := 734) hx hb dL_law_734 rfl (lv_at hl 0 rfl) ?_
  refine lv_iconst (pc := 735) (v := nI 3) hx hb dL_law_735 (by decide) ?_
  refine lv_iadd (pc := 736) hx hb dL_law_736 ?_
  refine va_sld (pc := 737) hx hb hX hbl hbA hS (l_in hi (show 3 < 8 by decide) hL) dL_law_737 ?_
  refine lv_aload_n (pc := 738) hx hb dL_law_738 rfl (lv_at hl 3 rfl) ?_
  refine lv_iload_n (pc := 739) hx hb dL_law_739 rfl (lv_at hl 0 rfl) ?_
  refine lv_iconst (pc := 740) (v := nI 4) hx hb dL_law_740 (by decide) ?_
  refine lv_iadd (pc := 741) hx hb dL_law_741 ?_
  refine va_sld (pc := 742) hx hb hX hbl hbA hS (l_in hi (show 4 < 8 by decide) hL) dL_law_742 ?_
  obtain ⟨r2, hM2⟩ := l_M_child l D ci (fun q : Nat => s.heap.size ≤ q) sa WX hMI (xs (nI i + nI 1).toNatClampNeg) (xs (nI i + nI 2).toNatClampNeg) (xs (nI i + nI 3).toNatClampNeg) (xs (nI i + nI 4).toNatClampNeg)
  obtain ⟨fs, hh⟩ := hMI.hd WX
  refine q_call (pc := 743) (va_runV (As := [.int (xs (nI i + nI 1).toNatClampNeg), .int (xs (nI i + nI 2).toNatClampNeg), .int (xs (nI i + nI 3).toNatClampNeg), .int (xs (nI i + nI 4).toNatClampNeg)]) (rest := []) ⟨hx, hb, hml, hown, hts⟩ hM2 (cwV 4 hts gL_law_X11_child rfl rfl rfl (by decide +kernel) ⟨Nat.le_of_ble_eq_true rfl, Nat.le_of_ble_eq_true rfl⟩) (q_preV (n1 := 0) (is1 := []) hK hA hZ hP hD hS rfl ⟨rfl, rfl, rfl⟩ 0 hh rfl) rfl rfl hl.1 rfl (lv_room (Nat.le_of_ble_eq_true rfl)) dL_law_743 (l_rm hn.2 hc hs (Nat.zero_le _) (Nat.zero_le _))) hS (fun t2 locs _ hB hS => ?_)
  obtain ⟨WM, hMI, hP, hD⟩ := hB
  have hP := l_swP hP
  have hD := l_swD hD
  refine lv_pop (pc := 746) hx hb dL_law_746 rfl ?_
  refine lv_goto (pc := 747) (tgt := 2146) hx hb dL_law_747 rfl ?_
  exact hgo WX WM _ _ _ _ _ _ _ _ _ hXI hMI hP hD hS hc hs
theorem law_12 (p : Program) (l : Launch) (e : Env) (s : State) (m : MethodId) (below : List Frame) (meth : Method) (c : Code) (b L : Nat) (xs : Nat → Int32) (D : va_G) (ci : Nat → ClassId) (sa : Nat → Nat) {a_x a_m i : Nat} {ls : Array Slot} (C0 : lL_C p l e s m below meth c b L xs D ci sa) (hi : i + 8 ≤ L) (hl : lv_has ls 4 [(3, .int (nI i)), (2, .ref a_m), (1, .ref a_x), (0, .ref b)]) (hgo : lL_go p l e s m below meth c b L xs D ci sa a_x a_m ls 2146) : lL_go p l e s m below meth c b L xs D ci sa a_x a_m ls 750 := by
  obtain ⟨hx, hb, hml, hown, hts, hX, hbl, hK, hZ, hret, hlocks, hL⟩ := C0
  intro WX WM t n s0 sv kv H locs cells slots hXI hMI hP hD hS hc hs
  have hA : ∀ q : Nat, s.heap.size ≤ q → (fun q : Nat => s.heap.size ≤ q) q := fun _ h => h
  have hbA : ¬ (fun q : Nat => s.heap.size ≤ q) b := Nat.not_le.mpr hbl
  have hn := hXI.n
  have hok := hXI.ok
  refine lv_aload_n (pc := 750) hx hb dL_law_750 rfl (lv_at hl 2 rfl) ?_
  refine lv_aload_n (pc := 751) hx hb dL_law_751 rfl (lv_at hl 3 rfl) ?_
  refine lv_iload_n (pc := 752) hx hb dL_law_752 rfl (lv_at hl 0 rfl) ?_
  refine lv_iconst (pc := 753) (v := nI 1) hx hb dL_law_753 (by decide) ?_
  refine lv_iadd (pc := 754) hx hb dL_law_754 ?_
  refine va_sld (pc := 755) hx hb hX hbl hbA hS (l_in hi (show 1 < 8 by decide) hL) dL_law_755 ?_
  refine lv_aload_n (pc := 756) hx hb dL_law_756 rfl (lv_at hl 3 rfl) ?_
  refine lv_iload_n (pc := 757) hx hb dL_law_757 rfl (lv_at hl 0 rfl) ?_
  refine lv_iconst (pc := 758) (v := nI 2) hx hb dL_law_758 (by decide) ?_
  refine lv_iadd (pc := 759) hx hb dL_law_759 ?_
  refine va_sld (pc := 760) hx hb hX hbl hbA hS (l_in hi (show 2 < 8 by decide) hL) dL_law_760 ?_
  refine lv_aload_n (pc := 761) hx hb dL_law_761 rfl (lv_at hl 3 rfl) ?_
  refine lv_iload_n (pc := 762) hx hb dL_law_762 rfl (lv_at hl 0 rfl) ?_
  refine lv_iconst (pc := 763) (v := nI 3) hx hb dL_law_763 (by decide) ?_
  refine lv_iadd (pc := 764) hx hb dL_law_764 ?_
  refine va_sld (pc := 765) hx hb hX hbl hbA hS (l_in hi (show 3 < 8 by decide) hL) dL_law_765 ?_
  refine lv_aload_n (pc := 766) hx hb dL_law_766 rfl (lv_at hl 3 rfl) ?_
  refine lv_iload_n (pc := 767) hx hb dL_law_767 rfl (lv_at hl 0 rfl) ?_
  refine lv_iconst (pc := 768) (v := nI 4) hx hb dL_law_768 (by decide) ?_
  refine lv_iadd (pc := 769) hx hb dL_law_769 ?_
  refine va_sld (pc := 770) hx hb hX hbl hbA hS (l_in hi (show 4 < 8 by decide) hL) dL_law_770 ?_
  obtain ⟨r, hM1⟩ := l_X_common l D ci (fun q : Nat => s.heap.size ≤ q) sa WM hXI (xs (nI i + nI 1).toNatClampNeg) (xs (nI i + nI 2).toNatClampNeg) (xs (nI i + nI 3).toNatClampNeg) (xs (nI i + nI 4).toNatClampNeg)
  obtain ⟨fs, hh⟩ := hXI.hd WM
  refine q_call (pc := 771) (va_runV (As := [.int (xs (nI i + nI 1).toNatClampNeg), .int (xs (nI i + nI 2).toNatClampNeg), .int (xs (nI i + nI 3).toNatClampNeg), .int (xs (nI i + nI 4).toNatClampNeg)]) (rest := []) ⟨hx, hb, hml, hown, hts⟩ hM1 (cwV 4 hts gL_law_X10_common rfl rfl rfl (by decide +kernel) ⟨Nat.le_of_ble_eq_true rfl, Nat.le_of_ble_eq_true rfl⟩) (q_preV (n1 := 0) (is1 := []) hK hA hZ hP hD hS rfl ⟨rfl, rfl, rfl⟩ 0 hh rfl) rfl rfl hl.1 rfl (lv_room (Nat.le_of_ble_eq_true rfl)) dL_law_771 (l_rm hn.2 hc hs (Nat.zero_le _) (Nat.zero_le _))) hS (fun t2 locs _ hB hS => ?_)
  obtain ⟨WX, hXI, hP, hD⟩ := hB
  refine lv_pop (pc := 774) hx hb dL_law_774 rfl ?_
  have hP := l_swP hP
  have hD := l_swD hD
  refine lv_aload_n (pc := 775) hx hb dL_law_775 rfl (lv_at hl 1 rfl) ?_
  refine lv_aload_n (pc := 776) hx hb dL_law_776 rfl (lv_at hl 3 rfl) ?_
  refine lv_iload_n (pc := 777) hx hb dL_law_777 rfl (lv_at hl 0 rfl) ?_
  refine lv_iconst (pc := 778) (v := nI 1) hx hb dL_law_778 (by decide) ?_
  refine lv_iadd (pc := 779) hx hb dL_law_779 ?_
  refine va_sld (pc := 780) hx hb hX hbl hbA hS (l_in hi (show 1 < 8 by decide) hL) dL_law_780 ?_
  refine lv_aload_n (pc := 781) hx hb dL_law_781 rfl (lv_at hl 3 rfl) ?_
  refine lv_iload_n (pc := 782) hx hb dL_law_782 rfl (lv_at hl 0 rfl) ?_
  refine lv_iconst (pc := 783) (v := nI 2) hx hb dL_law_783 (by decide) ?_
  refine lv_iadd (pc := 784) hx hb dL_law_784 ?_
  refine va_sld (pc := 785) hx hb hX hbl hbA hS (l_in hi (show 2 < 8 by decide) hL) dL_law_785 ?_
  refine lv_aload_n (pc := 786) hx hb dL_law_786 rfl (lv_at hl 3 rfl) ?_
  refine lv_iload_n (pc := 787) hx hb dL_law_787 rfl (lv_at hl 0 rfl) ?_
  refine lv_iconst (pc := 788) (v := nI 3) hx hb dL_law_788 (by decide) ?_
  refine lv_iadd (pc := 789) hx hb dL_law_789 ?_
  refine va_sld (pc := 790) hx hb hX hbl hbA hS (l_in hi (show 3 < 8 by decide) hL) dL_law_790 ?_
  refine lv_aload_n (pc := 791) hx hb dL_law_791 rfl (lv_at hl 3 rfl) ?_
  refine lv_iload_n (pc := 792) hx hb dL_law_792 rfl (lv_at hl 0 rfl) ?_
  refine lv_iconst (pc := 793) (v := nI 4) hx hb dL_law_793 (by decide) ?_
  refine lv_iadd (pc := 794) hx hb dL_law_794 ?_
  refine va_sld (pc := 795) hx hb hX hbl hbA hS (l_in hi (show 4 < 8 by decide) hL) dL_law_795 ?_
  obtain ⟨r2, hM2⟩ := l_M_common l D ci (fun q : Nat => s.heap.size ≤ q) sa WX hMI (xs (nI i + nI 1).toNatClampNeg) (xs (nI i + nI 2).toNatClampNeg) (xs (nI i + nI 3).toNatClampNeg) (xs (nI i + nI 4).toNatClampNeg)
  obtain ⟨fs, hh⟩ := hMI.hd WX
  refine q_call (pc := 796) (va_runV (As := [.int (xs (nI i + nI 1).toNatClampNeg), .int (xs (nI i + nI 2).toNatClampNeg), .int (xs (nI i + nI 3).toNatClampNeg), .int (xs (nI i + nI 4).toNatClampNeg)]) (rest := []) ⟨hx, hb, hml, hown, hts⟩ hM2 (cwV 4 hts gL_law_X11_common_ rfl rfl rfl (by decide +kernel) ⟨Nat.le_of_ble_eq_true rfl, Nat.le_of_ble_eq_true rfl⟩) (q_preV (n1 := 0) (is1 := []) hK hA hZ hP hD hS rfl ⟨rfl, rfl, rfl⟩ 0 hh rfl) rfl rfl hl.1 rfl (lv_room (Nat.le_of_ble_eq_true rfl)) dL_law_796 (l_rm hn.2 hc hs (Nat.zero_le _) (Nat.zero_le _))) hS (fun t2 locs _ hB hS => ?_)
  obtain ⟨WM, hMI, hP, hD⟩ := hB
  have hP := l_swP hP
  have hD := l_swD hD
  refine lv_pop (pc := 799) hx hb dL_law_799 rfl ?_
  refine lv_goto (pc := 800) (tgt := 2146) hx hb dL_law_800 rfl ?_
  exact hgo WX WM _ _ _ _ _ _ _ _ _ hXI hMI hP hD hS hc hs
theorem law_13 (p : Program) (l : Launch) (e : Env) (s : State) (m : MethodId) (below : List Frame) (meth : Method) (c : Code) (b L : Nat) (xs : Nat → Int32) (D : va_G) (ci : Nat → ClassId) (sa : Nat → Nat) {a_x a_m i : Nat} {ls : Array Slot} (C0 : lL_C p l e s m below meth c b L xs D ci sa) (hi : i + 8 ≤ L) (hl : lv_has ls 4 [(3, .int (nI i)), (2, .ref a_m), (1, .ref a_x), (0, .ref b)]) (hgo : lL_go p l e s m below meth c b L xs D ci sa a_x a_m ls 2146) : lL_go p l e s m below meth c b L xs D ci sa a_x a_m ls 803 := by
  obtain ⟨hx, hb, hml, hown, hts, hX, hbl, hK, hZ, hret, hlocks, hL⟩ := C0
  intro WX WM t n s0 sv kv H locs cells slots hXI hMI hP hD hS hc hs
  have hA : ∀ q : Nat, s.heap.size ≤ q → (fun q : Nat => s.heap.size ≤ q) q := fun _ h => h
  have hbA : ¬ (fun q : Nat => s.heap.size ≤ q) b := Nat.not_le.mpr hbl
  have hn := hXI.n
  have hok := hXI.ok
  refine lv_aload_n (pc := 803) hx hb dL_law_803 rfl (lv_at hl 2 rfl) ?_
  refine lv_aload_n (pc := 804) hx hb dL_law_804 rfl (lv_at hl 3 rfl) ?_
  refine lv_iload_n (pc := 805) hx hb dL_law_805 rfl (lv_at hl 0 rfl) ?_
  refine lv_iconst (pc := 806) (v := nI 1) hx hb dL_law_806 (by decide) ?_
  refine lv_iadd (pc := 807) hx hb dL_law_807 ?_
  refine va_sld (pc := 808) hx hb hX hbl hbA hS (l_in hi (show 1 < 8 by decide) hL) dL_law_808 ?_
  refine lv_aload_n (pc := 809) hx hb dL_law_809 rfl (lv_at hl 3 rfl) ?_
  refine lv_iload_n (pc := 810) hx hb dL_law_810 rfl (lv_at hl 0 rfl) ?_
  refine lv_iconst (pc := 811) (v := nI 2) hx hb dL_law_811 (by decide) ?_
  refine lv_iadd (pc := 812) hx hb dL_law_812 ?_
  refine va_sld (pc := 813) hx hb hX hbl hbA hS (l_in hi (show 2 < 8 by decide) hL) dL_law_813 ?_
  refine lv_aload_n (pc := 814) hx hb dL_law_814 rfl (lv_at hl 3 rfl) ?_
  refine lv_iload_n (pc := 815) hx hb dL_law_815 rfl (lv_at hl 0 rfl) ?_
  refine lv_iconst (pc := 816) (v := nI 3) hx hb dL_law_816 (by decide) ?_
  refine lv_iadd (pc := 817) hx hb dL_law_817 ?_
  refine va_sld (pc := 818) hx hb hX hbl hbA hS (l_in hi (show 3 < 8 by decide) hL) dL_law_818 ?_
  refine lv_aload_n (pc := 819) hx hb dL_law_819 rfl (lv_at hl 3 rfl) ?_
  refine lv_iload_n (pc := 820) hx hb dL_law_820 rfl (lv_at hl 0 rfl) ?_
  refine lv_iconst (pc := 821) (v := nI 4) hx hb dL_law_821 (by decide) ?_
  refine lv_iadd (pc := 822) hx hb dL_law_822 ?_
  refine va_sld (pc := 823) hx hb hX hbl hbA hS (l_in hi (show 4 < 8 by decide) hL) dL_law_823 ?_
  obtain ⟨r, hM1⟩ := l_X_neighbour l D ci (fun q : Nat => s.heap.size ≤ q) sa WM hXI (xs (nI i + nI 1).toNatClampNeg) (xs (nI i + nI 2).toNatClampNeg) (xs (nI i + nI 3).toNatClampNeg) (xs (nI i + nI 4).toNatClampNeg)
  obtain ⟨fs, hh⟩ := hXI.hd WM
  refine q_call (pc := 824) (va_runV (As := [.int (xs (nI i + nI 1).toNatClampNeg), .int (xs (nI i + nI 2).toNatClampNeg), .int (xs (nI i + nI 3).toNatClampNeg), .int (xs (nI i + nI 4).toNatClampNeg)]) (rest := []) ⟨hx, hb, hml, hown, hts⟩ hM1 (cwV 4 hts gL_law_X10_neighbour rfl rfl rfl (by decide +kernel) ⟨Nat.le_of_ble_eq_true rfl, Nat.le_of_ble_eq_true rfl⟩) (q_preV (n1 := 0) (is1 := []) hK hA hZ hP hD hS rfl ⟨rfl, rfl, rfl⟩ 0 hh rfl) rfl rfl hl.1 rfl (lv_room (Nat.le_of_ble_eq_true rfl)) dL_law_824 (l_rm hn.2 hc hs (Nat.zero_le _) (Nat.zero_le _))) hS (fun t2 locs _ hB hS => ?_)
  obtain ⟨WX, hXI, hP, hD⟩ := hB
  refine lv_pop (pc := 827) hx hb dL_law_827 rfl ?_
  have hP := l_swP hP
  have hD := l_swD hD
  refine lv_aload_n (pc := 828) hx hb dL_law_828 rfl (lv_at hl 1 rfl) ?_
  refine lv_aload_n (pc := 829) hx hb dL_law_829 rfl (lv_at hl 3 rfl) ?_
  refine lv_iload_n (pc := 830) hx hb dL_law_830 rfl (lv_at hl 0 rfl) ?_
  refine lv_iconst (pc := 831) (v := nI 1) hx hb dL_law_831 (by decide) ?_
  refine lv_iadd (pc := 832) hx hb dL_law_832 ?_
  refine va_sld (pc := 833) hx hb hX hbl hbA hS (l_in hi (show 1 < 8 by decide) hL) dL_law_833 ?_
  refine lv_aload_n (pc := 834) hx hb dL_law_834 rfl (lv_at hl 3 rfl) ?_
  refine lv_iload_n (pc := 835) hx hb dL_law_835 rfl (lv_at hl 0 rfl) ?_
  refine lv_iconst (pc := 836) (v := nI 2) hx hb dL_law_836 (by decide) ?_
  refine lv_iadd (pc := 837) hx hb dL_law_837 ?_
  refine va_sld (pc := 838) hx hb hX hbl hbA hS (l_in hi (show 2 < 8 by decide) hL) dL_law_838 ?_
  refine lv_aload_n (pc := 839) hx hb dL_law_839 rfl (lv_at hl 3 rfl) ?_
  refine lv_iload_n (pc := 840) hx hb dL_law_840 rfl (lv_at hl 0 rfl) ?_
  refine lv_iconst (pc := 841) (v := nI 3) hx hb dL_law_841 (by decide) ?_
  refine lv_iadd (pc := 842) hx hb dL_law_842 ?_
  refine va_sld (pc := 843) hx hb hX hbl hbA hS (l_in hi (show 3 < 8 by decide) hL) dL_law_843 ?_
  refine lv_aload_n (pc := 844) hx hb dL_law_844 rfl (lv_at hl 3 rfl) ?_
  refine lv_iload_n (pc := 845) hx hb dL_law_845 rfl (lv_at hl 0 rfl) ?_
  refine lv_iconst (pc := 846) (v := nI 4) hx hb dL_law_846 (by decide) ?_
  refine lv_iadd (pc := 847) hx hb dL_law_847 ?_
  refine va_sld (pc := 848) hx hb hX hbl hbA hS (l_in hi (show 4 < 8 by decide) hL) dL_law_848 ?_
  obtain ⟨r2, hM2⟩ := l_M_neighbour l D ci (fun q : Nat => s.heap.size ≤ q) sa WX hMI (xs (nI i + nI 1).toNatClampNeg) (xs (nI i + nI 2).toNatClampNeg) (xs (nI i + nI 3).toNatClampNeg) (xs (nI i + nI 4).toNatClampNeg)
  obtain ⟨fs, hh⟩ := hMI.hd WX
  refine q_call (pc := 849) (va_runV (As := [.int (xs (nI i + nI 1).toNatClampNeg), .int (xs (nI i + nI 2).toNatClampNeg), .int (xs (nI i + nI 3).toNatClampNeg), .int (xs (nI i + nI 4).toNatClampNeg)]) (rest := []) ⟨hx, hb, hml, hown, hts⟩ hM2 (cwV 4 hts gL_law_X11_neighbour rfl rfl rfl (by decide +kernel) ⟨Nat.le_of_ble_eq_true rfl, Nat.le_of_ble_eq_true rfl⟩) (q_preV (n1 := 0) (is1 := []) hK hA hZ hP hD hS rfl ⟨rfl, rfl, rfl⟩ 0 hh rfl) rfl rfl hl.1 rfl (lv_room (Nat.le_of_ble_eq_true rfl)) dL_law_849 (l_rm hn.2 hc hs (Nat.zero_le _) (Nat.zero_le _))) hS (fun t2 locs _ hB hS => ?_)
  obtain ⟨WM, hMI, hP, hD⟩ := hB
  have hP := l_swP hP
  have hD := l_swD hD
  refine lv_pop (pc := 852) hx hb dL_law_852 rfl ?_
  refine lv_goto (pc := 853) (tgt := 2146) hx hb dL_law_853 rfl ?_
  exact hgo WX WM _ _ _ _ _ _ _ _ _ hXI hMI hP hD hS hc hs
theorem law_14 (p : Program) (l : Launch) (e : Env) (s : State) (m : MethodId) (below : List Frame) (meth : Method) (c : Code) (b L : Nat) (xs : Nat → Int32) (D : va_G) (ci : Nat → ClassId) (sa : Nat → Nat) {a_x a_m i : Nat} {ls : Array Slot} (C0 : lL_C p l e s m below meth c b L xs D ci sa) (hi : i + 8 ≤ L) (hl : lv_has ls 4 [(3, .int (nI i)), (2, .ref a_m), (1, .ref a_x), (0, .ref b)]) (hgo : lL_go p l e s m below meth c b L xs D ci sa a_x a_m ls 2146) : lL_go p l e s m below meth c b L xs D ci sa a_x a_m ls 856 := by
  obtain ⟨hx, hb, hml, hown, hts, hX, hbl, hK, hZ, hret, hlocks, hL⟩ := C0
  intro WX WM t n s0 sv kv H locs cells slots hXI hMI hP hD hS hc hs
  have hA : ∀ q : Nat, s.heap.size ≤ q → (fun q : Nat => s.heap.size ≤ q) q := fun _ h => h
  have hbA : ¬ (fun q : Nat => s.heap.size ≤ q) b := Nat.not_le.mpr hbl
  have hn := hXI.n
  have hok := hXI.ok
  refine lv_aload_n (pc := 856) hx hb dL_law_856 rfl (lv_at hl 2 rfl) ?_
  refine lv_aload_n (pc := 857) hx hb dL_law_857 rfl (lv_at hl 3 rfl) ?_
  refine lv_iload_n (pc := 858) hx hb dL_law_858 rfl (lv_at hl 0 rfl) ?_
  refine lv_iconst (pc := 859) (v := nI 1) hx hb dL_law_859 (by decide) ?_
  refine lv_iadd (pc := 860) hx hb dL_law_860 ?_
  refine va_sld (pc := 861) hx hb hX hbl hbA hS (l_in hi (show 1 < 8 by decide) hL) dL_law_861 ?_
  refine lv_aload_n (pc := 862) hx hb dL_law_862 rfl (lv_at hl 3 rfl) ?_
  refine lv_iload_n (pc := 863) hx hb dL_law_863 rfl (lv_at hl 0 rfl) ?_
  refine lv_iconst (pc := 864) (v := nI 2) hx hb dL_law_864 (by decide) ?_
  refine lv_iadd (pc := 865) hx hb dL_law_865 ?_
  refine va_sld (pc := 866) hx hb hX hbl hbA hS (l_in hi (show 2 < 8 by decide) hL) dL_law_866 ?_
  refine lv_aload_n (pc := 867) hx hb dL_law_867 rfl (lv_at hl 3 rfl) ?_
  refine lv_iload_n (pc := 868) hx hb dL_law_868 rfl (lv_at hl 0 rfl) ?_
  refine lv_iconst (pc := 869) (v := nI 3) hx hb dL_law_869 (by decide) ?_
  refine lv_iadd (pc := 870) hx hb dL_law_870 ?_
  refine va_sld (pc := 871) hx hb hX hbl hbA hS (l_in hi (show 3 < 8 by decide) hL) dL_law_871 ?_
  obtain ⟨r, hM1⟩ := l_X_around l D ci (fun q : Nat => s.heap.size ≤ q) sa WM hXI (xs (nI i + nI 1).toNatClampNeg) (xs (nI i + nI 2).toNatClampNeg) (xs (nI i + nI 3).toNatClampNeg)
  obtain ⟨fs, hh⟩ := hXI.hd WM
  refine q_call (pc := 872) (va_runV (As := [.int (xs (nI i + nI 1).toNatClampNeg), .int (xs (nI i + nI 2).toNatClampNeg), .int (xs (nI i + nI 3).toNatClampNeg)]) (rest := []) ⟨hx, hb, hml, hown, hts⟩ hM1 (cwV 3 hts gL_law_X10_around rfl rfl rfl (by decide +kernel) ⟨Nat.le_of_ble_eq_true rfl, Nat.le_of_ble_eq_true rfl⟩) (q_preV (n1 := 0) (is1 := []) hK hA hZ hP hD hS rfl ⟨rfl, rfl, rfl⟩ 0 hh rfl) rfl rfl hl.1 rfl (lv_room (Nat.le_of_ble_eq_true rfl)) dL_law_872 (l_rm hn.2 hc hs (Nat.zero_le _) (Nat.zero_le _))) hS (fun t2 locs _ hB hS => ?_)
  obtain ⟨WX, hXI, hP, hD⟩ := hB
  refine lv_pop (pc := 875) hx hb dL_law_875 rfl ?_
  have hP := l_swP hP
  have hD := l_swD hD
  refine lv_aload_n (pc := 876) hx hb dL_law_876 rfl (lv_at hl 1 rfl) ?_
  refine lv_aload_n (pc := 877) hx hb dL_law_877 rfl (lv_at hl 3 rfl) ?_
  refine lv_iload_n (pc := 878) hx hb dL_law_878 rfl (lv_at hl 0 rfl) ?_
  refine lv_iconst (pc := 879) (v := nI 1) hx hb dL_law_879 (by decide) ?_
  refine lv_iadd (pc := 880) hx hb dL_law_880 ?_
  refine va_sld (pc := 881) hx hb hX hbl hbA hS (l_in hi (show 1 < 8 by decide) hL) dL_law_881 ?_
  refine lv_aload_n (pc := 882) hx hb dL_law_882 rfl (lv_at hl 3 rfl) ?_
  refine lv_iload_n (pc := 883) hx hb dL_law_883 rfl (lv_at hl 0 rfl) ?_
  refine lv_iconst (pc := 884) (v := nI 2) hx hb dL_law_884 (by decide) ?_
  refine lv_iadd (pc := 885) hx hb dL_law_885 ?_
  refine va_sld (pc := 886) hx hb hX hbl hbA hS (l_in hi (show 2 < 8 by decide) hL) dL_law_886 ?_
  refine lv_aload_n (pc := 887) hx hb dL_law_887 rfl (lv_at hl 3 rfl) ?_
  refine lv_iload_n (pc := 888) hx hb dL_law_888 rfl (lv_at hl 0 rfl) ?_
  refine lv_iconst (pc := 889) (v := nI 3) hx hb dL_law_889 (by decide) ?_
  refine lv_iadd (pc := 890) hx hb dL_law_890 ?_
  refine va_sld (pc := 891) hx hb hX hbl hbA hS (l_in hi (show 3 < 8 by decide) hL) dL_law_891 ?_
  obtain ⟨r2, hM2⟩ := l_M_around l D ci (fun q : Nat => s.heap.size ≤ q) sa WX hMI (xs (nI i + nI 1).toNatClampNeg) (xs (nI i + nI 2).toNatClampNeg) (xs (nI i + nI 3).toNatClampNeg)
  obtain ⟨fs, hh⟩ := hMI.hd WX
  refine q_call (pc := 892) (va_runV (As := [.int (xs (nI i + nI 1).toNatClampNeg), .int (xs (nI i + nI 2).toNatClampNeg), .int (xs (nI i + nI 3).toNatClampNeg)]) (rest := []) ⟨hx, hb, hml, hown, hts⟩ hM2 (cwV 3 hts gL_law_X11_around rfl rfl rfl (by decide +kernel) ⟨Nat.le_of_ble_eq_true rfl, Nat.le_of_ble_eq_true rfl⟩) (q_preV (n1 := 0) (is1 := []) hK hA hZ hP hD hS rfl ⟨rfl, rfl, rfl⟩ 0 hh rfl) rfl rfl hl.1 rfl (lv_room (Nat.le_of_ble_eq_true rfl)) dL_law_892 (l_rm hn.2 hc hs (Nat.zero_le _) (Nat.zero_le _))) hS (fun t2 locs _ hB hS => ?_)
  obtain ⟨WM, hMI, hP, hD⟩ := hB
  have hP := l_swP hP
  have hD := l_swD hD
  refine lv_pop (pc := 895) hx hb dL_law_895 rfl ?_
  refine lv_goto (pc := 896) (tgt := 2146) hx hb dL_law_896 rfl ?_
  exact hgo WX WM _ _ _ _ _ _ _ _ _ hXI hMI hP hD hS hc hs
theorem law_15 (p : Program) (l : Launch) (e : Env) (s : State) (m : MethodId) (below : List Frame) (meth : Method) (c : Code) (b L : Nat) (xs : Nat → Int32) (D : va_G) (ci : Nat → ClassId) (sa : Nat → Nat) {a_x a_m i : Nat} {ls : Array Slot} (C0 : lL_C p l e s m below meth c b L xs D ci sa) (hi : i + 8 ≤ L) (hl : lv_has ls 4 [(3, .int (nI i)), (2, .ref a_m), (1, .ref a_x), (0, .ref b)]) (hgo : lL_go p l e s m below meth c b L xs D ci sa a_x a_m ls 2146) : lL_go p l e s m below meth c b L xs D ci sa a_x a_m ls 899 := by
  obtain ⟨hx, hb, hml, hown, hts, hX, hbl, hK, hZ, hret, hlocks, hL⟩ := C0
  intro WX WM t n s0 sv kv H locs cells slots hXI hMI hP hD hS hc hs
  have hA : ∀ q : Nat, s.heap.size ≤ q → (fun q : Nat => s.heap.size ≤ q) q := fun _ h => h
  have hbA : ¬ (fun q : Nat => s.heap.size ≤ q) b := Nat.not_le.mpr hbl
  have hn := hXI.n
  have hok := hXI.ok
  refine lv_aload_n (pc := 899) hx hb dL_law_899 rfl (lv_at hl 2 rfl) ?_
  refine lv_aload_n (pc := 900) hx hb dL_law_900 rfl (lv_at hl 3 rfl) ?_
  refine lv_iload_n (pc := 901) hx hb dL_law_901 rfl (lv_at hl 0 rfl) ?_
  refine lv_iconst (pc := 902) (v := nI 1) hx hb dL_law_902 (by decide) ?_
  refine lv_iadd (pc := 903) hx hb dL_law_903 ?_
  refine va_sld (pc := 904) hx hb hX hbl hbA hS (l_in hi (show 1 < 8 by decide) hL) dL_law_904 ?_
  refine lv_aload_n (pc := 905) hx hb dL_law_905 rfl (lv_at hl 3 rfl) ?_
  refine lv_iload_n (pc := 906) hx hb dL_law_906 rfl (lv_at hl 0 rfl) ?_
  refine lv_iconst (pc := 907) (v := nI 2) hx hb dL_law_907 (by decide) ?_
  refine lv_iadd (pc := 908) hx hb dL_law_908 ?_
  refine va_sld (pc := 909) hx hb hX hbl hbA hS (l_in hi (show 2 < 8 by decide) hL) dL_law_909 ?_
  refine lv_aload_n (pc := 910) hx hb dL_law_910 rfl (lv_at hl 3 rfl) ?_
  refine lv_iload_n (pc := 911) hx hb dL_law_911 rfl (lv_at hl 0 rfl) ?_
  refine lv_iconst (pc := 912) (v := nI 3) hx hb dL_law_912 (by decide) ?_
  refine lv_iadd (pc := 913) hx hb dL_law_913 ?_
  refine va_sld (pc := 914) hx hb hX hbl hbA hS (l_in hi (show 3 < 8 by decide) hL) dL_law_914 ?_
  obtain ⟨r, hM1⟩ := l_X_side l D ci (fun q : Nat => s.heap.size ≤ q) sa WM hXI (xs (nI i + nI 1).toNatClampNeg) (xs (nI i + nI 2).toNatClampNeg) (xs (nI i + nI 3).toNatClampNeg)
  obtain ⟨fs, hh⟩ := hXI.hd WM
  refine q_call (pc := 915) (va_runV (As := [.int (xs (nI i + nI 1).toNatClampNeg), .int (xs (nI i + nI 2).toNatClampNeg), .int (xs (nI i + nI 3).toNatClampNeg)]) (rest := []) ⟨hx, hb, hml, hown, hts⟩ hM1 (cwV 3 hts gL_law_X10_side rfl rfl rfl (by decide +kernel) ⟨Nat.le_of_ble_eq_true rfl, Nat.le_of_ble_eq_true rfl⟩) (q_preV (n1 := 0) (is1 := []) hK hA hZ hP hD hS rfl ⟨rfl, rfl, rfl⟩ 0 hh rfl) rfl rfl hl.1 rfl (lv_room (Nat.le_of_ble_eq_true rfl)) dL_law_915 (l_rm hn.2 hc hs (Nat.zero_le _) (Nat.zero_le _))) hS (fun t2 locs _ hB hS => ?_)
  obtain ⟨WX, hXI, hP, hD⟩ := hB
  refine lv_pop (pc := 918) hx hb dL_law_918 rfl ?_
  have hP := l_swP hP
  have hD := l_swD hD
  refine lv_aload_n (pc := 919) hx hb dL_law_919 rfl (lv_at hl 1 rfl) ?_
  refine lv_aload_n (pc := 920) hx hb dL_law_920 rfl (lv_at hl 3 rfl) ?_
  refine lv_iload_n (pc := 921) hx hb dL_law_921 rfl (lv_at hl 0 rfl) ?_
  refine lv_iconst (pc := 922) (v := nI 1) hx hb dL_law_922 (by decide) ?_
  refine lv_iadd (pc := 923) hx hb dL_law_923 ?_
  refine va_sld (pc := 924) hx hb hX hbl hbA hS (l_in hi (show 1 < 8 by decide) hL) dL_law_924 ?_
  refine lv_aload_n (pc := 925) hx hb dL_law_925 rfl (lv_at hl 3 rfl) ?_
  refine lv_iload_n (pc := 926) hx hb dL_law_926 rfl (lv_at hl 0 rfl) ?_
  refine lv_iconst (pc := 927) (v := nI 2) hx hb dL_law_927 (by decide) ?_
  refine lv_iadd (pc := 928) hx hb dL_law_928 ?_
  refine va_sld (pc := 929) hx hb hX hbl hbA hS (l_in hi (show 2 < 8 by decide) hL) dL_law_929 ?_
  refine lv_aload_n (pc := 930) hx hb dL_law_930 rfl (lv_at hl 3 rfl) ?_
  refine lv_iload_n (pc := 931) hx hb dL_law_931 rfl (lv_at hl 0 rfl) ?_
  refine lv_iconst (pc := 932) (v := nI 3) hx hb dL_law_932 (by decide) ?_
  refine lv_iadd (pc := 933) hx hb dL_law_933 ?_
  refine va_sld (pc := 934) hx hb hX hbl hbA hS (l_in hi (show 3 < 8 by decide) hL) dL_law_934 ?_
  obtain ⟨r2, hM2⟩ := l_M_side l D ci (fun q : Nat => s.heap.size ≤ q) sa WX hMI (xs (nI i + nI 1).toNatClampNeg) (xs (nI i + nI 2).toNatClampNeg) (xs (nI i + nI 3).toNatClampNeg)
  obtain ⟨fs, hh⟩ := hMI.hd WX
  refine q_call (pc := 935) (va_runV (As := [.int (xs (nI i + nI 1).toNatClampNeg), .int (xs (nI i + nI 2).toNatClampNeg), .int (xs (nI i + nI 3).toNatClampNeg)]) (rest := []) ⟨hx, hb, hml, hown, hts⟩ hM2 (cwV 3 hts gL_law_X11_side rfl rfl rfl (by decide +kernel) ⟨Nat.le_of_ble_eq_true rfl, Nat.le_of_ble_eq_true rfl⟩) (q_preV (n1 := 0) (is1 := []) hK hA hZ hP hD hS rfl ⟨rfl, rfl, rfl⟩ 0 hh rfl) rfl rfl hl.1 rfl (lv_room (Nat.le_of_ble_eq_true rfl)) dL_law_935 (l_rm hn.2 hc hs (Nat.zero_le _) (Nat.zero_le _))) hS (fun t2 locs _ hB hS => ?_)
  obtain ⟨WM, hMI, hP, hD⟩ := hB
  have hP := l_swP hP
  have hD := l_swD hD
  refine lv_pop (pc := 938) hx hb dL_law_938 rfl ?_
  refine lv_goto (pc := 939) (tgt := 2146) hx hb dL_law_939 rfl ?_
  exact hgo WX WM _ _ _ _ _ _ _ _ _ hXI hMI hP hD hS hc hs
theorem law_16 (p : Program) (l : Launch) (e : Env) (s : State) (m : MethodId) (below : List Frame) (meth : Method) (c : Code) (b L : Nat) (xs : Nat → Int32) (D : va_G) (ci : Nat → ClassId) (sa : Nat → Nat) {a_x a_m i : Nat} {ls : Array Slot} (C0 : lL_C p l e s m below meth c b L xs D ci sa) (hi : i + 8 ≤ L) (hl : lv_has ls 4 [(3, .int (nI i)), (2, .ref a_m), (1, .ref a_x), (0, .ref b)]) (hgo : lL_go p l e s m below meth c b L xs D ci sa a_x a_m ls 2146) : lL_go p l e s m below meth c b L xs D ci sa a_x a_m ls 942 := by
  obtain ⟨hx, hb, hml, hown, hts, hX, hbl, hK, hZ, hret, hlocks, hL⟩ := C0
  intro WX WM t n s0 sv kv H locs cells slots hXI hMI hP hD hS hc hs
  have hA : ∀ q : Nat, s.heap.size ≤ q → (fun q : Nat => s.heap.size ≤ q) q := fun _ h => h
  have hbA : ¬ (fun q : Nat => s.heap.size ≤ q) b := Nat.not_le.mpr hbl
  have hn := hXI.n
  have hok := hXI.ok
  refine lv_aload_n (pc := 942) hx hb dL_law_942 rfl (lv_at hl 2 rfl) ?_
  refine lv_aload_n (pc := 943) hx hb dL_law_943 rfl (lv_at hl 3 rfl) ?_
  refine lv_iload_n (pc := 944) hx hb dL_law_944 rfl (lv_at hl 0 rfl) ?_
  refine lv_iconst (pc := 945) (v := nI 1) hx hb dL_law_945 (by decide) ?_
  refine lv_iadd (pc := 946) hx hb dL_law_946 ?_
  refine va_sld (pc := 947) hx hb hX hbl hbA hS (l_in hi (show 1 < 8 by decide) hL) dL_law_947 ?_
  refine lv_aload_n (pc := 948) hx hb dL_law_948 rfl (lv_at hl 3 rfl) ?_
  refine lv_iload_n (pc := 949) hx hb dL_law_949 rfl (lv_at hl 0 rfl) ?_
  refine lv_iconst (pc := 950) (v := nI 2) hx hb dL_law_950 (by decide) ?_
  refine lv_iadd (pc := 951) hx hb dL_law_951 ?_
  refine va_sld (pc := 952) hx hb hX hbl hbA hS (l_in hi (show 2 < 8 by decide) hL) dL_law_952 ?_
  refine lv_aload_n (pc := 953) hx hb dL_law_953 rfl (lv_at hl 3 rfl) ?_
  refine lv_iload_n (pc := 954) hx hb dL_law_954 rfl (lv_at hl 0 rfl) ?_
  refine lv_iconst (pc := 955) (v := nI 3) hx hb dL_law_955 (by decide) ?_
  refine lv_iadd (pc := 956) hx hb dL_law_956 ?_
  refine va_sld (pc := 957) hx hb hX hbl hbA hS (l_in hi (show 3 < 8 by decide) hL) dL_law_957 ?_
  rcases l_X_steps l D ci (fun q : Nat => s.heap.size ≤ q) sa WM hXI (xs (nI i + nI 1).toNatClampNeg) (xs (nI i + nI 2).toNatClampNeg) (xs (nI i + nI 3).toNatClampNeg) with ⟨r, hM1⟩ | ⟨nL, r, hL1, hL2, hL3, hM1⟩
  · skip
    obtain ⟨fs, hh⟩ := hXI.hd WM
    refine q_call (pc := 958) (va_runV (As := [.int (xs (nI i + nI 1).toNatClampNeg), .int (xs (nI i + nI 2).toNatClampNeg), .int (xs (nI i + nI 3).toNatClampNeg)]) (rest := []) ⟨hx, hb, hml, hown, hts⟩ hM1 (cwV 3 hts gL_law_X10_steps rfl rfl rfl (by decide +kernel) ⟨Nat.le_of_ble_eq_true rfl, Nat.le_of_ble_eq_true rfl⟩) (q_preV (n1 := 0) (is1 := []) hK hA hZ hP hD hS rfl ⟨rfl, rfl, rfl⟩ 0 hh rfl) rfl rfl hl.1 rfl (lv_room (Nat.le_of_ble_eq_true rfl)) dL_law_958 (l_rm hn.2 hc hs (Nat.zero_le _) (Nat.zero_le _))) hS (fun t2 locs _ hB hS => ?_)
    obtain ⟨WX, hXI, hP, hD⟩ := hB
    refine lv_pop (pc := 961) hx hb dL_law_961 rfl ?_
    have hP := l_swP hP
    have hD := l_swD hD
    refine lv_aload_n (pc := 962) hx hb dL_law_962 rfl (lv_at hl 1 rfl) ?_
    refine lv_aload_n (pc := 963) hx hb dL_law_963 rfl (lv_at hl 3 rfl) ?_
    refine lv_iload_n (pc := 964) hx hb dL_law_964 rfl (lv_at hl 0 rfl) ?_
    refine lv_iconst (pc := 965) (v := nI 1) hx hb dL_law_965 (by decide) ?_
    refine lv_iadd (pc := 966) hx hb dL_law_966 ?_
    refine va_sld (pc := 967) hx hb hX hbl hbA hS (l_in hi (show 1 < 8 by decide) hL) dL_law_967 ?_
    refine lv_aload_n (pc := 968) hx hb dL_law_968 rfl (lv_at hl 3 rfl) ?_
    refine lv_iload_n (pc := 969) hx hb dL_law_969 rfl (lv_at hl 0 rfl) ?_
    refine lv_iconst (pc := 970) (v := nI 2) hx hb dL_law_970 (by decide) ?_
    refine lv_iadd (pc := 971) hx hb dL_law_971 ?_
    refine va_sld (pc := 972) hx hb hX hbl hbA hS (l_in hi (show 2 < 8 by decide) hL) dL_law_972 ?_
    refine lv_aload_n (pc := 973) hx hb dL_law_973 rfl (lv_at hl 3 rfl) ?_
    refine lv_iload_n (pc := 974) hx hb dL_law_974 rfl (lv_at hl 0 rfl) ?_
    refine lv_iconst (pc := 975) (v := nI 3) hx hb dL_law_975 (by decide) ?_
    refine lv_iadd (pc := 976) hx hb dL_law_976 ?_
    refine va_sld (pc := 977) hx hb hX hbl hbA hS (l_in hi (show 3 < 8 by decide) hL) dL_law_977 ?_
    obtain ⟨r2, hM2⟩ := l_M_steps l D ci (fun q : Nat => s.heap.size ≤ q) sa WX hMI (xs (nI i + nI 1).toNatClampNeg) (xs (nI i + nI 2).toNatClampNeg) (xs (nI i + nI 3).toNatClampNeg)
    obtain ⟨fs, hh⟩ := hMI.hd WX
    refine q_call (pc := 978) (va_runV (As := [.int (xs (nI i + nI 1).toNatClampNeg), .int (xs (nI i + nI 2).toNatClampNeg), .int (xs (nI i + nI 3).toNatClampNeg)]) (rest := []) ⟨hx, hb, hml, hown, hts⟩ hM2 (cwV 3 hts gL_law_X11_steps rfl rfl rfl (by decide +kernel) ⟨Nat.le_of_ble_eq_true rfl, Nat.le_of_ble_eq_true rfl⟩) (q_preV (n1 := 0) (is1 := []) hK hA hZ hP hD hS rfl ⟨rfl, rfl, rfl⟩ 0 hh rfl) rfl rfl hl.1 rfl (lv_room (Nat.le_of_ble_eq_true rfl)) dL_law_978 (l_rm hn.2 hc hs (Nat.zero_le _) (Nat.zero_le _))) hS (fun t2 locs _ hB hS => ?_)
    obtain ⟨WM, hMI, hP, hD⟩ := hB
    have hP := l_swP hP
    have hD := l_swD hD
    refine lv_pop (pc := 981) hx hb dL_law_981 rfl ?_
    refine lv_goto (pc := 982) (tgt := 2146) hx hb dL_law_982 rfl ?_
    exact hgo WX WM _ _ _ _ _ _ _ _ _ hXI hMI hP hD hS hc hs
  · have hpot := l_pot hn.1 hL3 hL1 hc hs
    obtain ⟨fs, hh⟩ := hXI.hd WM
    refine q_call (pc := 958) (va_runV (As := [.int (xs (nI i + nI 1).toNatClampNeg), .int (xs (nI i + nI 2).toNatClampNeg), .int (xs (nI i + nI 3).toNatClampNeg)]) (rest := []) ⟨hx, hb, hml, hown, hts⟩ hM1 (cwV 3 hts gL_law_X10_steps rfl rfl rfl (by decide +kernel) ⟨Nat.le_of_ble_eq_true rfl, Nat.le_of_ble_eq_true rfl⟩) (q_preV (n1 := 0) (is1 := []) hK hA hZ hP hD hS rfl ⟨rfl, rfl, rfl⟩ 0 hh rfl) rfl rfl hl.1 rfl (lv_room (Nat.le_of_ble_eq_true rfl)) dL_law_958 (l_rm hn.2 hc hs (Nat.le_refl _) (by omega))) hS (fun t2 locs _ hB hS => ?_)
    have hc : cells + 2 ≤ 200 + nL := hpot.1
    have hs : 1000 * (slots + (nL + nL)) ≤ 45000000 + nL * nL + 2000 * nL := hpot.2
    obtain ⟨WX, hXI, hP, hD⟩ := hB
    refine lv_pop (pc := 961) hx hb dL_law_961 rfl ?_
    have hn := hXI.n
    have hP := l_swP hP
    have hD := l_swD hD
    refine lv_aload_n (pc := 962) hx hb dL_law_962 rfl (lv_at hl 1 rfl) ?_
    refine lv_aload_n (pc := 963) hx hb dL_law_963 rfl (lv_at hl 3 rfl) ?_
    refine lv_iload_n (pc := 964) hx hb dL_law_964 rfl (lv_at hl 0 rfl) ?_
    refine lv_iconst (pc := 965) (v := nI 1) hx hb dL_law_965 (by decide) ?_
    refine lv_iadd (pc := 966) hx hb dL_law_966 ?_
    refine va_sld (pc := 967) hx hb hX hbl hbA hS (l_in hi (show 1 < 8 by decide) hL) dL_law_967 ?_
    refine lv_aload_n (pc := 968) hx hb dL_law_968 rfl (lv_at hl 3 rfl) ?_
    refine lv_iload_n (pc := 969) hx hb dL_law_969 rfl (lv_at hl 0 rfl) ?_
    refine lv_iconst (pc := 970) (v := nI 2) hx hb dL_law_970 (by decide) ?_
    refine lv_iadd (pc := 971) hx hb dL_law_971 ?_
    refine va_sld (pc := 972) hx hb hX hbl hbA hS (l_in hi (show 2 < 8 by decide) hL) dL_law_972 ?_
    refine lv_aload_n (pc := 973) hx hb dL_law_973 rfl (lv_at hl 3 rfl) ?_
    refine lv_iload_n (pc := 974) hx hb dL_law_974 rfl (lv_at hl 0 rfl) ?_
    refine lv_iconst (pc := 975) (v := nI 3) hx hb dL_law_975 (by decide) ?_
    refine lv_iadd (pc := 976) hx hb dL_law_976 ?_
    refine va_sld (pc := 977) hx hb hX hbl hbA hS (l_in hi (show 3 < 8 by decide) hL) dL_law_977 ?_
    obtain ⟨r2, hM2⟩ := l_M_steps l D ci (fun q : Nat => s.heap.size ≤ q) sa WX hMI (xs (nI i + nI 1).toNatClampNeg) (xs (nI i + nI 2).toNatClampNeg) (xs (nI i + nI 3).toNatClampNeg)
    obtain ⟨fs, hh⟩ := hMI.hd WX
    refine q_call (pc := 978) (va_runV (As := [.int (xs (nI i + nI 1).toNatClampNeg), .int (xs (nI i + nI 2).toNatClampNeg), .int (xs (nI i + nI 3).toNatClampNeg)]) (rest := []) ⟨hx, hb, hml, hown, hts⟩ hM2 (cwV 3 hts gL_law_X11_steps rfl rfl rfl (by decide +kernel) ⟨Nat.le_of_ble_eq_true rfl, Nat.le_of_ble_eq_true rfl⟩) (q_preV (n1 := 0) (is1 := []) hK hA hZ hP hD hS rfl ⟨rfl, rfl, rfl⟩ 0 hh rfl) rfl rfl hl.1 rfl (lv_room (Nat.le_of_ble_eq_true rfl)) dL_law_978 (l_rm hn.2 hc hs (Nat.zero_le _) (Nat.zero_le _))) hS (fun t2 locs _ hB hS => ?_)
    obtain ⟨WM, hMI, hP, hD⟩ := hB
    have hP := l_swP hP
    have hD := l_swD hD
    refine lv_pop (pc := 981) hx hb dL_law_981 rfl ?_
    refine lv_goto (pc := 982) (tgt := 2146) hx hb dL_law_982 rfl ?_
    exact hgo WX WM _ _ _ _ _ _ _ _ _ hXI hMI hP hD hS hc hs
theorem law_17 (p : Program) (l : Launch) (e : Env) (s : State) (m : MethodId) (below : List Frame) (meth : Method) (c : Code) (b L : Nat) (xs : Nat → Int32) (D : va_G) (ci : Nat → ClassId) (sa : Nat → Nat) {a_x a_m i : Nat} {ls : Array Slot} (C0 : lL_C p l e s m below meth c b L xs D ci sa) (hi : i + 8 ≤ L) (hl : lv_has ls 4 [(3, .int (nI i)), (2, .ref a_m), (1, .ref a_x), (0, .ref b)]) (hgo : lL_go p l e s m below meth c b L xs D ci sa a_x a_m ls 2146) : lL_go p l e s m below meth c b L xs D ci sa a_x a_m ls 985 := by
  obtain ⟨hx, hb, hml, hown, hts, hX, hbl, hK, hZ, hret, hlocks, hL⟩ := C0
  intro WX WM t n s0 sv kv H locs cells slots hXI hMI hP hD hS hc hs
  have hA : ∀ q : Nat, s.heap.size ≤ q → (fun q : Nat => s.heap.size ≤ q) q := fun _ h => h
  have hbA : ¬ (fun q : Nat => s.heap.size ≤ q) b := Nat.not_le.mpr hbl
  have hn := hXI.n
  have hok := hXI.ok
  refine lv_aload_n (pc := 985) hx hb dL_law_985 rfl (lv_at hl 2 rfl) ?_
  refine lv_aload_n (pc := 986) hx hb dL_law_986 rfl (lv_at hl 3 rfl) ?_
  refine lv_iload_n (pc := 987) hx hb dL_law_987 rfl (lv_at hl 0 rfl) ?_
  refine lv_iconst (pc := 988) (v := nI 1) hx hb dL_law_988 (by decide) ?_
  refine lv_iadd (pc := 989) hx hb dL_law_989 ?_
  refine va_sld (pc := 990) hx hb hX hbl hbA hS (l_in hi (show 1 < 8 by decide) hL) dL_law_990 ?_
  refine lv_aload_n (pc := 991) hx hb dL_law_991 rfl (lv_at hl 3 rfl) ?_
  refine lv_iload_n (pc := 992) hx hb dL_law_992 rfl (lv_at hl 0 rfl) ?_
  refine lv_iconst (pc := 993) (v := nI 2) hx hb dL_law_993 (by decide) ?_
  refine lv_iadd (pc := 994) hx hb dL_law_994 ?_
  refine va_sld (pc := 995) hx hb hX hbl hbA hS (l_in hi (show 2 < 8 by decide) hL) dL_law_995 ?_
  refine lv_aload_n (pc := 996) hx hb dL_law_996 rfl (lv_at hl 3 rfl) ?_
  refine lv_iload_n (pc := 997) hx hb dL_law_997 rfl (lv_at hl 0 rfl) ?_
  refine lv_iconst (pc := 998) (v := nI 3) hx hb dL_law_998 (by decide) ?_
  refine lv_iadd (pc := 999) hx hb dL_law_999 ?_
  refine va_sld (pc := 1000) hx hb hX hbl hbA hS (l_in hi (show 3 < 8 by decide) hL) dL_law_1000 ?_
  refine lv_aload_n (pc := 1001) hx hb dL_law_1001 rfl (lv_at hl 3 rfl) ?_
  refine lv_iload_n (pc := 1002) hx hb dL_law_1002 rfl (lv_at hl 0 rfl) ?_
  refine lv_iconst (pc := 1003) (v := nI 4) hx hb dL_law_1003 (by decide) ?_
  refine lv_iadd (pc := 1004) hx hb dL_law_1004 ?_
  refine va_sld (pc := 1005) hx hb hX hbl hbA hS (l_in hi (show 4 < 8 by decide) hL) dL_law_1005 ?_
  rcases l_X_way l D ci (fun q : Nat => s.heap.size ≤ q) sa WM hXI (xs (nI i + nI 1).toNatClampNeg) (xs (nI i + nI 2).toNatClampNeg) (xs (nI i + nI 3).toNatClampNeg) (xs (nI i + nI 4).toNatClampNeg) with ⟨r, hM1⟩ | ⟨nL, r, hL1, hL2, hL3, hM1⟩
  · skip
    obtain ⟨fs, hh⟩ := hXI.hd WM
    refine q_call (pc := 1006) (va_runV (As := [.int (xs (nI i + nI 1).toNatClampNeg), .int (xs (nI i + nI 2).toNatClampNeg), .int (xs (nI i + nI 3).toNatClampNeg), .int (xs (nI i + nI 4).toNatClampNeg)]) (rest := []) ⟨hx, hb, hml, hown, hts⟩ hM1 (cwV 4 hts gL_law_X10_way rfl rfl rfl (by decide +kernel) ⟨Nat.le_of_ble_eq_true rfl, Nat.le_of_ble_eq_true rfl⟩) (q_preV (n1 := 0) (is1 := []) hK hA hZ hP hD hS rfl ⟨rfl, rfl, rfl⟩ 0 hh rfl) rfl rfl hl.1 rfl (lv_room (Nat.le_of_ble_eq_true rfl)) dL_law_1006 (l_rm hn.2 hc hs (Nat.zero_le _) (Nat.zero_le _))) hS (fun t2 locs _ hB hS => ?_)
    obtain ⟨WX, hXI, hP, hD⟩ := hB
    refine lv_pop (pc := 1009) hx hb dL_law_1009 rfl ?_
    have hP := l_swP hP
    have hD := l_swD hD
    refine lv_aload_n (pc := 1010) hx hb dL_law_1010 rfl (lv_at hl 1 rfl) ?_
    refine lv_aload_n (pc := 1011) hx hb dL_law_1011 rfl (lv_at hl 3 rfl) ?_
    refine lv_iload_n (pc := 1012) hx hb dL_law_1012 rfl (lv_at hl 0 rfl) ?_
    refine lv_iconst (pc := 1013) (v := nI 1) hx hb dL_law_1013 (by decide) ?_
    refine lv_iadd (pc := 1014) hx hb dL_law_1014 ?_
    refine va_sld (pc := 1015) hx hb hX hbl hbA hS (l_in hi (show 1 < 8 by decide) hL) dL_law_1015 ?_
    refine lv_aload_n (pc := 1016) hx hb dL_law_1016 rfl (lv_at hl 3 rfl) ?_
    refine lv_iload_n (pc := 1017) hx hb dL_law_1017 rfl (lv_at hl 0 rfl) ?_
    refine lv_iconst (pc := 1018) (v := nI 2) hx hb dL_law_1018 (by decide) ?_
    refine lv_iadd (pc := 1019) hx hb dL_law_1019 ?_
    refine va_sld (pc := 1020) hx hb hX hbl hbA hS (l_in hi (show 2 < 8 by decide) hL) dL_law_1020 ?_
    refine lv_aload_n (pc := 1021) hx hb dL_law_1021 rfl (lv_at hl 3 rfl) ?_
    refine lv_iload_n (pc := 1022) hx hb dL_law_1022 rfl (lv_at hl 0 rfl) ?_
    refine lv_iconst (pc := 1023) (v := nI 3) hx hb dL_law_1023 (by decide) ?_
    refine lv_iadd (pc := 1024) hx hb dL_law_1024 ?_
    refine va_sld (pc := 1025) hx hb hX hbl hbA hS (l_in hi (show 3 < 8 by decide) hL) dL_law_1025 ?_
    refine lv_aload_n (pc := 1026) hx hb dL_law_1026 rfl (lv_at hl 3 rfl) ?_
    refine lv_iload_n (pc := 1027) hx hb dL_law_1027 rfl (lv_at hl 0 rfl) ?_
    refine lv_iconst (pc := 1028) (v := nI 4) hx hb dL_law_1028 (by decide) ?_
    refine lv_iadd (pc := 1029) hx hb dL_law_1029 ?_
    refine va_sld (pc := 1030) hx hb hX hbl hbA hS (l_in hi (show 4 < 8 by decide) hL) dL_law_1030 ?_
    obtain ⟨r2, hM2⟩ := l_M_way l D ci (fun q : Nat => s.heap.size ≤ q) sa WX hMI (xs (nI i + nI 1).toNatClampNeg) (xs (nI i + nI 2).toNatClampNeg) (xs (nI i + nI 3).toNatClampNeg) (xs (nI i + nI 4).toNatClampNeg)
    obtain ⟨fs, hh⟩ := hMI.hd WX
    refine q_call (pc := 1031) (va_runV (As := [.int (xs (nI i + nI 1).toNatClampNeg), .int (xs (nI i + nI 2).toNatClampNeg), .int (xs (nI i + nI 3).toNatClampNeg), .int (xs (nI i + nI 4).toNatClampNeg)]) (rest := []) ⟨hx, hb, hml, hown, hts⟩ hM2 (cwV 4 hts gL_law_X11_way rfl rfl rfl (by decide +kernel) ⟨Nat.le_of_ble_eq_true rfl, Nat.le_of_ble_eq_true rfl⟩) (q_preV (n1 := 0) (is1 := []) hK hA hZ hP hD hS rfl ⟨rfl, rfl, rfl⟩ 0 hh rfl) rfl rfl hl.1 rfl (lv_room (Nat.le_of_ble_eq_true rfl)) dL_law_1031 (l_rm hn.2 hc hs (Nat.zero_le _) (Nat.zero_le _))) hS (fun t2 locs _ hB hS => ?_)
    obtain ⟨WM, hMI, hP, hD⟩ := hB
    have hP := l_swP hP
    have hD := l_swD hD
    refine lv_pop (pc := 1034) hx hb dL_law_1034 rfl ?_
    refine lv_goto (pc := 1035) (tgt := 2146) hx hb dL_law_1035 rfl ?_
    exact hgo WX WM _ _ _ _ _ _ _ _ _ hXI hMI hP hD hS hc hs
  · have hpot := l_pot hn.1 hL3 hL1 hc hs
    obtain ⟨fs, hh⟩ := hXI.hd WM
    refine q_call (pc := 1006) (va_runV (As := [.int (xs (nI i + nI 1).toNatClampNeg), .int (xs (nI i + nI 2).toNatClampNeg), .int (xs (nI i + nI 3).toNatClampNeg), .int (xs (nI i + nI 4).toNatClampNeg)]) (rest := []) ⟨hx, hb, hml, hown, hts⟩ hM1 (cwV 4 hts gL_law_X10_way rfl rfl rfl (by decide +kernel) ⟨Nat.le_of_ble_eq_true rfl, Nat.le_of_ble_eq_true rfl⟩) (q_preV (n1 := 0) (is1 := []) hK hA hZ hP hD hS rfl ⟨rfl, rfl, rfl⟩ 0 hh rfl) rfl rfl hl.1 rfl (lv_room (Nat.le_of_ble_eq_true rfl)) dL_law_1006 (l_rm hn.2 hc hs (Nat.le_refl _) (by omega))) hS (fun t2 locs _ hB hS => ?_)
    have hc : cells + 2 ≤ 200 + nL := hpot.1
    have hs : 1000 * (slots + (nL + nL)) ≤ 45000000 + nL * nL + 2000 * nL := hpot.2
    obtain ⟨WX, hXI, hP, hD⟩ := hB
    refine lv_pop (pc := 1009) hx hb dL_law_1009 rfl ?_
    have hn := hXI.n
    have hP := l_swP hP
    have hD := l_swD hD
    refine lv_aload_n (pc := 1010) hx hb dL_law_1010 rfl (lv_at hl 1 rfl) ?_
    refine lv_aload_n (pc := 1011) hx hb dL_law_1011 rfl (lv_at hl 3 rfl) ?_
    refine lv_iload_n (pc := 1012) hx hb dL_law_1012 rfl (lv_at hl 0 rfl) ?_
    refine lv_iconst (pc := 1013) (v := nI 1) hx hb dL_law_1013 (by decide) ?_
    refine lv_iadd (pc := 1014) hx hb dL_law_1014 ?_
    refine va_sld (pc := 1015) hx hb hX hbl hbA hS (l_in hi (show 1 < 8 by decide) hL) dL_law_1015 ?_
    refine lv_aload_n (pc := 1016) hx hb dL_law_1016 rfl (lv_at hl 3 rfl) ?_
    refine lv_iload_n (pc := 1017) hx hb dL_law_1017 rfl (lv_at hl 0 rfl) ?_
    refine lv_iconst (pc := 1018) (v := nI 2) hx hb dL_law_1018 (by decide) ?_
    refine lv_iadd (pc := 1019) hx hb dL_law_1019 ?_
    refine va_sld (pc := 1020) hx hb hX hbl hbA hS (l_in hi (show 2 < 8 by decide) hL) dL_law_1020 ?_
    refine lv_aload_n (pc := 1021) hx hb dL_law_1021 rfl (lv_at hl 3 rfl) ?_
    refine lv_iload_n (pc := 1022) hx hb dL_law_1022 rfl (lv_at hl 0 rfl) ?_
    refine lv_iconst (pc := 1023) (v := nI 3) hx hb dL_law_1023 (by decide) ?_
    refine lv_iadd (pc := 1024) hx hb dL_law_1024 ?_
    refine va_sld (pc := 1025) hx hb hX hbl hbA hS (l_in hi (show 3 < 8 by decide) hL) dL_law_1025 ?_
    refine lv_aload_n (pc := 1026) hx hb dL_law_1026 rfl (lv_at hl 3 rfl) ?_
    refine lv_iload_n (pc := 1027) hx hb dL_law_1027 rfl (lv_at hl 0 rfl) ?_
    refine lv_iconst (pc := 1028) (v := nI 4) hx hb dL_law_1028 (by decide) ?_
    refine lv_iadd (pc := 1029) hx hb dL_law_1029 ?_
    refine va_sld (pc := 1030) hx hb hX hbl hbA hS (l_in hi (show 4 < 8 by decide) hL) dL_law_1030 ?_
    obtain ⟨r2, hM2⟩ := l_M_way l D ci (fun q : Nat => s.heap.size ≤ q) sa WX hMI (xs (nI i + nI 1).toNatClampNeg) (xs (nI i + nI 2).toNatClampNeg) (xs (nI i + nI 3).toNatClampNeg) (xs (nI i + nI 4).toNatClampNeg)
    obtain ⟨fs, hh⟩ := hMI.hd WX
    refine q_call (pc := 1031) (va_runV (As := [.int (xs (nI i + nI 1).toNatClampNeg), .int (xs (nI i + nI 2).toNatClampNeg), .int (xs (nI i + nI 3).toNatClampNeg), .int (xs (nI i + nI 4).toNatClampNeg)]) (rest := []) ⟨hx, hb, hml, hown, hts⟩ hM2 (cwV 4 hts gL_law_X11_way rfl rfl rfl (by decide +kernel) ⟨Nat.le_of_ble_eq_true rfl, Nat.le_of_ble_eq_true rfl⟩) (q_preV (n1 := 0) (is1 := []) hK hA hZ hP hD hS rfl ⟨rfl, rfl, rfl⟩ 0 hh rfl) rfl rfl hl.1 rfl (lv_room (Nat.le_of_ble_eq_true rfl)) dL_law_1031 (l_rm hn.2 hc hs (Nat.zero_le _) (Nat.zero_le _))) hS (fun t2 locs _ hB hS => ?_)
    obtain ⟨WM, hMI, hP, hD⟩ := hB
    have hP := l_swP hP
    have hD := l_swD hD
    refine lv_pop (pc := 1034) hx hb dL_law_1034 rfl ?_
    refine lv_goto (pc := 1035) (tgt := 2146) hx hb dL_law_1035 rfl ?_
    exact hgo WX WM _ _ _ _ _ _ _ _ _ hXI hMI hP hD hS hc hs
theorem law_18 (p : Program) (l : Launch) (e : Env) (s : State) (m : MethodId) (below : List Frame) (meth : Method) (c : Code) (b L : Nat) (xs : Nat → Int32) (D : va_G) (ci : Nat → ClassId) (sa : Nat → Nat) {a_x a_m i : Nat} {ls : Array Slot} (C0 : lL_C p l e s m below meth c b L xs D ci sa) (hi : i + 8 ≤ L) (hl : lv_has ls 4 [(3, .int (nI i)), (2, .ref a_m), (1, .ref a_x), (0, .ref b)]) (hgo : lL_go p l e s m below meth c b L xs D ci sa a_x a_m ls 2146) : lL_go p l e s m below meth c b L xs D ci sa a_x a_m ls 1038 := by
  obtain ⟨hx, hb, hml, hown, hts, hX, hbl, hK, hZ, hret, hlocks, hL⟩ := C0
  intro WX WM t n s0 sv kv H locs cells slots hXI hMI hP hD hS hc hs
  have hA : ∀ q : Nat, s.heap.size ≤ q → (fun q : Nat => s.heap.size ≤ q) q := fun _ h => h
  have hbA : ¬ (fun q : Nat => s.heap.size ≤ q) b := Nat.not_le.mpr hbl
  have hn := hXI.n
  have hok := hXI.ok
  refine lv_aload_n (pc := 1038) hx hb dL_law_1038 rfl (lv_at hl 2 rfl) ?_
  refine lv_aload_n (pc := 1039) hx hb dL_law_1039 rfl (lv_at hl 3 rfl) ?_
  refine lv_iload_n (pc := 1040) hx hb dL_law_1040 rfl (lv_at hl 0 rfl) ?_
  refine lv_iconst (pc := 1041) (v := nI 1) hx hb dL_law_1041 (by decide) ?_
  refine lv_iadd (pc := 1042) hx hb dL_law_1042 ?_
  refine va_sld (pc := 1043) hx hb hX hbl hbA hS (l_in hi (show 1 < 8 by decide) hL) dL_law_1043 ?_
  refine lv_aload_n (pc := 1044) hx hb dL_law_1044 rfl (lv_at hl 3 rfl) ?_
  refine lv_iload_n (pc := 1045) hx hb dL_law_1045 rfl (lv_at hl 0 rfl) ?_
  refine lv_iconst (pc := 1046) (v := nI 2) hx hb dL_law_1046 (by decide) ?_
  refine lv_iadd (pc := 1047) hx hb dL_law_1047 ?_
  refine va_sld (pc := 1048) hx hb hX hbl hbA hS (l_in hi (show 2 < 8 by decide) hL) dL_law_1048 ?_
  refine lv_aload_n (pc := 1049) hx hb dL_law_1049 rfl (lv_at hl 3 rfl) ?_
  refine lv_iload_n (pc := 1050) hx hb dL_law_1050 rfl (lv_at hl 0 rfl) ?_
  refine lv_iconst (pc := 1051) (v := nI 3) hx hb dL_law_1051 (by decide) ?_
  refine lv_iadd (pc := 1052) hx hb dL_law_1052 ?_
  refine va_sld (pc := 1053) hx hb hX hbl hbA hS (l_in hi (show 3 < 8 by decide) hL) dL_law_1053 ?_
  rcases l_X_reach l D ci (fun q : Nat => s.heap.size ≤ q) sa WM hXI (xs (nI i + nI 1).toNatClampNeg) (xs (nI i + nI 2).toNatClampNeg) (xs (nI i + nI 3).toNatClampNeg) with ⟨r, hM1⟩ | ⟨nL, r, hL1, hL2, hL3, hM1⟩
  · skip
    obtain ⟨fs, hh⟩ := hXI.hd WM
    refine q_call (pc := 1054) (va_runV (As := [.int (xs (nI i + nI 1).toNatClampNeg), .int (xs (nI i + nI 2).toNatClampNeg), .int (xs (nI i + nI 3).toNatClampNeg)]) (rest := []) ⟨hx, hb, hml, hown, hts⟩ hM1 (cwV 3 hts gL_law_X10_reach rfl rfl rfl (by decide +kernel) ⟨Nat.le_of_ble_eq_true rfl, Nat.le_of_ble_eq_true rfl⟩) (q_preV (n1 := 0) (is1 := []) hK hA hZ hP hD hS rfl ⟨rfl, rfl, rfl⟩ 0 hh rfl) rfl rfl hl.1 rfl (lv_room (Nat.le_of_ble_eq_true rfl)) dL_law_1054 (l_rm hn.2 hc hs (Nat.zero_le _) (Nat.zero_le _))) hS (fun t2 locs _ hB hS => ?_)
    obtain ⟨WX, hXI, hP, hD⟩ := hB
    refine lv_pop (pc := 1057) hx hb dL_law_1057 rfl ?_
    have hP := l_swP hP
    have hD := l_swD hD
    refine lv_aload_n (pc := 1058) hx hb dL_law_1058 rfl (lv_at hl 1 rfl) ?_
    refine lv_aload_n (pc := 1059) hx hb dL_law_1059 rfl (lv_at hl 3 rfl) ?_
    refine lv_iload_n (pc := 1060) hx hb dL_law_1060 rfl (lv_at hl 0 rfl) ?_
    refine lv_iconst (pc := 1061) (v := nI 1) hx hb dL_law_1061 (by decide) ?_
    refine lv_iadd (pc := 1062) hx hb dL_law_1062 ?_
    refine va_sld (pc := 1063) hx hb hX hbl hbA hS (l_in hi (show 1 < 8 by decide) hL) dL_law_1063 ?_
    refine lv_aload_n (pc := 1064) hx hb dL_law_1064 rfl (lv_at hl 3 rfl) ?_
    refine lv_iload_n (pc := 1065) hx hb dL_law_1065 rfl (lv_at hl 0 rfl) ?_
    refine lv_iconst (pc := 1066) (v := nI 2) hx hb dL_law_1066 (by decide) ?_
    refine lv_iadd (pc := 1067) hx hb dL_law_1067 ?_
    refine va_sld (pc := 1068) hx hb hX hbl hbA hS (l_in hi (show 2 < 8 by decide) hL) dL_law_1068 ?_
    refine lv_aload_n (pc := 1069) hx hb dL_law_1069 rfl (lv_at hl 3 rfl) ?_
    refine lv_iload_n (pc := 1070) hx hb dL_law_1070 rfl (lv_at hl 0 rfl) ?_
    refine lv_iconst (pc := 1071) (v := nI 3) hx hb dL_law_1071 (by decide) ?_
    refine lv_iadd (pc := 1072) hx hb dL_law_1072 ?_
    refine va_sld (pc := 1073) hx hb hX hbl hbA hS (l_in hi (show 3 < 8 by decide) hL) dL_law_1073 ?_
    obtain ⟨r2, hM2⟩ := l_M_reach l D ci (fun q : Nat => s.heap.size ≤ q) sa WX hMI (xs (nI i + nI 1).toNatClampNeg) (xs (nI i + nI 2).toNatClampNeg) (xs (nI i + nI 3).toNatClampNeg)
    obtain ⟨fs, hh⟩ := hMI.hd WX
    refine q_call (pc := 1074) (va_runV (As := [.int (xs (nI i + nI 1).toNatClampNeg), .int (xs (nI i + nI 2).toNatClampNeg), .int (xs (nI i + nI 3).toNatClampNeg)]) (rest := []) ⟨hx, hb, hml, hown, hts⟩ hM2 (cwV 3 hts gL_law_X11_reach rfl rfl rfl (by decide +kernel) ⟨Nat.le_of_ble_eq_true rfl, Nat.le_of_ble_eq_true rfl⟩) (q_preV (n1 := 0) (is1 := []) hK hA hZ hP hD hS rfl ⟨rfl, rfl, rfl⟩ 0 hh rfl) rfl rfl hl.1 rfl (lv_room (Nat.le_of_ble_eq_true rfl)) dL_law_1074 (l_rm hn.2 hc hs (Nat.zero_le _) (Nat.zero_le _))) hS (fun t2 locs _ hB hS => ?_)
    obtain ⟨WM, hMI, hP, hD⟩ := hB
    have hP := l_swP hP
    have hD := l_swD hD
    refine lv_pop (pc := 1077) hx hb dL_law_1077 rfl ?_
    refine lv_goto (pc := 1078) (tgt := 2146) hx hb dL_law_1078 rfl ?_
    exact hgo WX WM _ _ _ _ _ _ _ _ _ hXI hMI hP hD hS hc hs
  · have hpot := l_pot hn.1 hL3 hL1 hc hs
    obtain ⟨fs, hh⟩ := hXI.hd WM
    refine q_call (pc := 1054) (va_runV (As := [.int (xs (nI i + nI 1).toNatClampNeg), .int (xs (nI i + nI 2).toNatClampNeg), .int (xs (nI i + nI 3).toNatClampNeg)]) (rest := []) ⟨hx, hb, hml, hown, hts⟩ hM1 (cwV 3 hts gL_law_X10_reach rfl rfl rfl (by decide +kernel) ⟨Nat.le_of_ble_eq_true rfl, Nat.le_of_ble_eq_true rfl⟩) (q_preV (n1 := 0) (is1 := []) hK hA hZ hP hD hS rfl ⟨rfl, rfl, rfl⟩ 0 hh rfl) rfl rfl hl.1 rfl (lv_room (Nat.le_of_ble_eq_true rfl)) dL_law_1054 (l_rm hn.2 hc hs (Nat.le_refl _) (by omega))) hS (fun t2 locs _ hB hS => ?_)
    have hc : cells + 2 ≤ 200 + nL := hpot.1
    have hs : 1000 * (slots + (nL + nL)) ≤ 45000000 + nL * nL + 2000 * nL := hpot.2
    obtain ⟨WX, hXI, hP, hD⟩ := hB
    refine lv_pop (pc := 1057) hx hb dL_law_1057 rfl ?_
    have hn := hXI.n
    have hP := l_swP hP
    have hD := l_swD hD
    refine lv_aload_n (pc := 1058) hx hb dL_law_1058 rfl (lv_at hl 1 rfl) ?_
    refine lv_aload_n (pc := 1059) hx hb dL_law_1059 rfl (lv_at hl 3 rfl) ?_
    refine lv_iload_n (pc := 1060) hx hb dL_law_1060 rfl (lv_at hl 0 rfl) ?_
    refine lv_iconst (pc := 1061) (v := nI 1) hx hb dL_law_1061 (by decide) ?_
    refine lv_iadd (pc := 1062) hx hb dL_law_1062 ?_
    refine va_sld (pc := 1063) hx hb hX hbl hbA hS (l_in hi (show 1 < 8 by decide) hL) dL_law_1063 ?_
    refine lv_aload_n (pc := 1064) hx hb dL_law_1064 rfl (lv_at hl 3 rfl) ?_
    refine lv_iload_n (pc := 1065) hx hb dL_law_1065 rfl (lv_at hl 0 rfl) ?_
    refine lv_iconst (pc := 1066) (v := nI 2) hx hb dL_law_1066 (by decide) ?_
    refine lv_iadd (pc := 1067) hx hb dL_law_1067 ?_
    refine va_sld (pc := 1068) hx hb hX hbl hbA hS (l_in hi (show 2 < 8 by decide) hL) dL_law_1068 ?_
    refine lv_aload_n (pc := 1069) hx hb dL_law_1069 rfl (lv_at hl 3 rfl) ?_
    refine lv_iload_n (pc := 1070) hx hb dL_law_1070 rfl (lv_at hl 0 rfl) ?_
    refine lv_iconst (pc := 1071) (v := nI 3) hx hb dL_law_1071 (by decide) ?_
    refine lv_iadd (pc := 1072) hx hb dL_law_1072 ?_
    refine va_sld (pc := 1073) hx hb hX hbl hbA hS (l_in hi (show 3 < 8 by decide) hL) dL_law_1073 ?_
    obtain ⟨r2, hM2⟩ := l_M_reach l D ci (fun q : Nat => s.heap.size ≤ q) sa WX hMI (xs (nI i + nI 1).toNatClampNeg) (xs (nI i + nI 2).toNatClampNeg) (xs (nI i + nI 3).toNatClampNeg)
    obtain ⟨fs, hh⟩ := hMI.hd WX
    refine q_call (pc := 1074) (va_runV (As := [.int (xs (nI i + nI 1).toNatClampNeg), .int (xs (nI i + nI 2).toNatClampNeg), .int (xs (nI i + nI 3).toNatClampNeg)]) (rest := []) ⟨hx, hb, hml, hown, hts⟩ hM2 (cwV 3 hts gL_law_X11_reach rfl rfl rfl (by decide +kernel) ⟨Nat.le_of_ble_eq_true rfl, Nat.le_of_ble_eq_true rfl⟩) (q_preV (n1 := 0) (is1 := []) hK hA hZ hP hD hS rfl ⟨rfl, rfl, rfl⟩ 0 hh rfl) rfl rfl hl.1 rfl (lv_room (Nat.le_of_ble_eq_true rfl)) dL_law_1074 (l_rm hn.2 hc hs (Nat.zero_le _) (Nat.zero_le _))) hS (fun t2 locs _ hB hS => ?_)
    obtain ⟨WM, hMI, hP, hD⟩ := hB
    have hP := l_swP hP
    have hD := l_swD hD
    refine lv_pop (pc := 1077) hx hb dL_law_1077 rfl ?_
    refine lv_goto (pc := 1078) (tgt := 2146) hx hb dL_law_1078 rfl ?_
    exact hgo WX WM _ _ _ _ _ _ _ _ _ hXI hMI hP hD hS hc hs
theorem law_19 (p : Program) (l : Launch) (e : Env) (s : State) (m : MethodId) (below : List Frame) (meth : Method) (c : Code) (b L : Nat) (xs : Nat → Int32) (D : va_G) (ci : Nat → ClassId) (sa : Nat → Nat) {a_x a_m i : Nat} {ls : Array Slot} (C0 : lL_C p l e s m below meth c b L xs D ci sa) (hi : i + 8 ≤ L) (hl : lv_has ls 4 [(3, .int (nI i)), (2, .ref a_m), (1, .ref a_x), (0, .ref b)]) (hgo : lL_go p l e s m below meth c b L xs D ci sa a_x a_m ls 2146) : lL_go p l e s m below meth c b L xs D ci sa a_x a_m ls 1081 := by
  obtain ⟨hx, hb, hml, hown, hts, hX, hbl, hK, hZ, hret, hlocks, hL⟩ := C0
  intro WX WM t n s0 sv kv H locs cells slots hXI hMI hP hD hS hc hs
  have hA : ∀ q : Nat, s.heap.size ≤ q → (fun q : Nat => s.heap.size ≤ q) q := fun _ h => h
  have hbA : ¬ (fun q : Nat => s.heap.size ≤ q) b := Nat.not_le.mpr hbl
  have hn := hXI.n
  have hok := hXI.ok
  refine lv_aload_n (pc := 1081) hx hb dL_law_1081 rfl (lv_at hl 2 rfl) ?_
  refine lv_aload_n (pc := 1082) hx hb dL_law_1082 rfl (lv_at hl 3 rfl) ?_
  refine lv_iload_n (pc := 1083) hx hb dL_law_1083 rfl (lv_at hl 0 rfl) ?_
  refine lv_iconst (pc := 1084) (v := nI 1) hx hb dL_law_1084 (by decide) ?_
  refine lv_iadd (pc := 1085) hx hb dL_law_1085 ?_
  refine va_sld (pc := 1086) hx hb hX hbl hbA hS (l_in hi (show 1 < 8 by decide) hL) dL_law_1086 ?_
  refine lv_aload_n (pc := 1087) hx hb dL_law_1087 rfl (lv_at hl 3 rfl) ?_
  refine lv_iload_n (pc := 1088) hx hb dL_law_1088 rfl (lv_at hl 0 rfl) ?_
  refine lv_iconst (pc := 1089) (v := nI 2) hx hb dL_law_1089 (by decide) ?_
  refine lv_iadd (pc := 1090) hx hb dL_law_1090 ?_
  refine va_sld (pc := 1091) hx hb hX hbl hbA hS (l_in hi (show 2 < 8 by decide) hL) dL_law_1091 ?_
  refine lv_aload_n (pc := 1092) hx hb dL_law_1092 rfl (lv_at hl 3 rfl) ?_
  refine lv_iload_n (pc := 1093) hx hb dL_law_1093 rfl (lv_at hl 0 rfl) ?_
  refine lv_iconst (pc := 1094) (v := nI 3) hx hb dL_law_1094 (by decide) ?_
  refine lv_iadd (pc := 1095) hx hb dL_law_1095 ?_
  refine va_sld (pc := 1096) hx hb hX hbl hbA hS (l_in hi (show 3 < 8 by decide) hL) dL_law_1096 ?_
  rcases l_X_farthest l D ci (fun q : Nat => s.heap.size ≤ q) sa WM hXI (xs (nI i + nI 1).toNatClampNeg) (xs (nI i + nI 2).toNatClampNeg) (xs (nI i + nI 3).toNatClampNeg) with ⟨r, hM1⟩ | ⟨nL, r, hL1, hL2, hL3, hM1⟩
  · skip
    obtain ⟨fs, hh⟩ := hXI.hd WM
    refine q_call (pc := 1097) (va_runV (As := [.int (xs (nI i + nI 1).toNatClampNeg), .int (xs (nI i + nI 2).toNatClampNeg), .int (xs (nI i + nI 3).toNatClampNeg)]) (rest := []) ⟨hx, hb, hml, hown, hts⟩ hM1 (cwV 3 hts gL_law_X10_farthest rfl rfl rfl (by decide +kernel) ⟨Nat.le_of_ble_eq_true rfl, Nat.le_of_ble_eq_true rfl⟩) (q_preV (n1 := 0) (is1 := []) hK hA hZ hP hD hS rfl ⟨rfl, rfl, rfl⟩ 0 hh rfl) rfl rfl hl.1 rfl (lv_room (Nat.le_of_ble_eq_true rfl)) dL_law_1097 (l_rm hn.2 hc hs (Nat.zero_le _) (Nat.zero_le _))) hS (fun t2 locs _ hB hS => ?_)
    obtain ⟨WX, hXI, hP, hD⟩ := hB
    refine lv_pop (pc := 1100) hx hb dL_law_1100 rfl ?_
    have hP := l_swP hP
    have hD := l_swD hD
    refine lv_aload_n (pc := 1101) hx hb dL_law_1101 rfl (lv_at hl 1 rfl) ?_
    refine lv_aload_n (pc := 1102) hx hb dL_law_1102 rfl (lv_at hl 3 rfl) ?_
    refine lv_iload_n (pc := 1103) hx hb dL_law_1103 rfl (lv_at hl 0 rfl) ?_
    refine lv_iconst (pc := 1104) (v := nI 1) hx hb dL_law_1104 (by decide) ?_
    refine lv_iadd (pc := 1105) hx hb dL_law_1105 ?_
    refine va_sld (pc := 1106) hx hb hX hbl hbA hS (l_in hi (show 1 < 8 by decide) hL) dL_law_1106 ?_
    refine lv_aload_n (pc := 1107) hx hb dL_law_1107 rfl (lv_at hl 3 rfl) ?_
    refine lv_iload_n (pc := 1108) hx hb dL_law_1108 rfl (lv_at hl 0 rfl) ?_
    refine lv_iconst (pc := 1109) (v := nI 2) hx hb dL_law_1109 (by decide) ?_
    refine lv_iadd (pc := 1110) hx hb dL_law_1110 ?_
    refine va_sld (pc := 1111) hx hb hX hbl hbA hS (l_in hi (show 2 < 8 by decide) hL) dL_law_1111 ?_
    refine lv_aload_n (pc := 1112) hx hb dL_law_1112 rfl (lv_at hl 3 rfl) ?_
    refine lv_iload_n (pc := 1113) hx hb dL_law_1113 rfl (lv_at hl 0 rfl) ?_
    refine lv_iconst (pc := 1114) (v := nI 3) hx hb dL_law_1114 (by decide) ?_
    refine lv_iadd (pc := 1115) hx hb dL_law_1115 ?_
    refine va_sld (pc := 1116) hx hb hX hbl hbA hS (l_in hi (show 3 < 8 by decide) hL) dL_law_1116 ?_
    obtain ⟨r2, hM2⟩ := l_M_farthest l D ci (fun q : Nat => s.heap.size ≤ q) sa WX hMI (xs (nI i + nI 1).toNatClampNeg) (xs (nI i + nI 2).toNatClampNeg) (xs (nI i + nI 3).toNatClampNeg)
    obtain ⟨fs, hh⟩ := hMI.hd WX
    refine q_call (pc := 1117) (va_runV (As := [.int (xs (nI i + nI 1).toNatClampNeg), .int (xs (nI i + nI 2).toNatClampNeg), .int (xs (nI i + nI 3).toNatClampNeg)]) (rest := []) ⟨hx, hb, hml, hown, hts⟩ hM2 (cwV 3 hts gL_law_X11_farthest rfl rfl rfl (by decide +kernel) ⟨Nat.le_of_ble_eq_true rfl, Nat.le_of_ble_eq_true rfl⟩) (q_preV (n1 := 0) (is1 := []) hK hA hZ hP hD hS rfl ⟨rfl, rfl, rfl⟩ 0 hh rfl) rfl rfl hl.1 rfl (lv_room (Nat.le_of_ble_eq_true rfl)) dL_law_1117 (l_rm hn.2 hc hs (Nat.zero_le _) (Nat.zero_le _))) hS (fun t2 locs _ hB hS => ?_)
    obtain ⟨WM, hMI, hP, hD⟩ := hB
    have hP := l_swP hP
    have hD := l_swD hD
    refine lv_pop (pc := 1120) hx hb dL_law_1120 rfl ?_
    refine lv_goto (pc := 1121) (tgt := 2146) hx hb dL_law_1121 rfl ?_
    exact hgo WX WM _ _ _ _ _ _ _ _ _ hXI hMI hP hD hS hc hs
  · have hpot := l_pot hn.1 hL3 hL1 hc hs
    obtain ⟨fs, hh⟩ := hXI.hd WM
    refine q_call (pc := 1097) (va_runV (As := [.int (xs (nI i + nI 1).toNatClampNeg), .int (xs (nI i + nI 2).toNatClampNeg), .int (xs (nI i + nI 3).toNatClampNeg)]) (rest := []) ⟨hx, hb, hml, hown, hts⟩ hM1 (cwV 3 hts gL_law_X10_farthest rfl rfl rfl (by decide +kernel) ⟨Nat.le_of_ble_eq_true rfl, Nat.le_of_ble_eq_true rfl⟩) (q_preV (n1 := 0) (is1 := []) hK hA hZ hP hD hS rfl ⟨rfl, rfl, rfl⟩ 0 hh rfl) rfl rfl hl.1 rfl (lv_room (Nat.le_of_ble_eq_true rfl)) dL_law_1097 (l_rm hn.2 hc hs (Nat.le_refl _) (by omega))) hS (fun t2 locs _ hB hS => ?_)
    have hc : cells + 2 ≤ 200 + nL := hpot.1
    have hs : 1000 * (slots + (nL + nL)) ≤ 45000000 + nL * nL + 2000 * nL := hpot.2
    obtain ⟨WX, hXI, hP, hD⟩ := hB
    refine lv_pop (pc := 1100) hx hb dL_law_1100 rfl ?_
    have hn := hXI.n
    have hP := l_swP hP
    have hD := l_swD hD
    refine lv_aload_n (pc := 1101) hx hb dL_law_1101 rfl (lv_at hl 1 rfl) ?_
    refine lv_aload_n (pc := 1102) hx hb dL_law_1102 rfl (lv_at hl 3 rfl) ?_
    refine lv_iload_n (pc := 1103) hx hb dL_law_1103 rfl (lv_at hl 0 rfl) ?_
    refine lv_iconst (pc := 1104) (v := nI 1) hx hb dL_law_1104 (by decide) ?_
    refine lv_iadd (pc := 1105) hx hb dL_law_1105 ?_
    refine va_sld (pc := 1106) hx hb hX hbl hbA hS (l_in hi (show 1 < 8 by decide) hL) dL_law_1106 ?_
    refine lv_aload_n (pc := 1107) hx hb dL_law_1107 rfl (lv_at hl 3 rfl) ?_
    refine lv_iload_n (pc := 1108) hx hb dL_law_1108 rfl (lv_at hl 0 rfl) ?_
    refine lv_iconst (pc := 1109) (v := nI 2) hx hb dL_law_1109 (by decide) ?_
    refine lv_iadd (pc := 1110) hx hb dL_law_1110 ?_
    refine va_sld (pc := 1111) hx hb hX hbl hbA hS (l_in hi (show 2 < 8 by decide) hL) dL_law_1111 ?_
    refine lv_aload_n (pc := 1112) hx hb dL_law_1112 rfl (lv_at hl 3 rfl) ?_
    refine lv_iload_n (pc := 1113) hx hb dL_law_1113 rfl (lv_at hl 0 rfl) ?_
    refine lv_iconst (pc := 1114) (v := nI 3) hx hb dL_law_1114 (by decide) ?_
    refine lv_iadd (pc := 1115) hx hb dL_law_1115 ?_
    refine va_sld (pc := 1116) hx hb hX hbl hbA hS (l_in hi (show 3 < 8 by decide) hL) dL_law_1116 ?_
    obtain ⟨r2, hM2⟩ := l_M_farthest l D ci (fun q : Nat => s.heap.size ≤ q) sa WX hMI (xs (nI i + nI 1).toNatClampNeg) (xs (nI i + nI 2).toNatClampNeg) (xs (nI i + nI 3).toNatClampNeg)
    obtain ⟨fs, hh⟩ := hMI.hd WX
    refine q_call (pc := 1117) (va_runV (As := [.int (xs (nI i + nI 1).toNatClampNeg), .int (xs (nI i + nI 2).toNatClampNeg), .int (xs (nI i + nI 3).toNatClampNeg)]) (rest := []) ⟨hx, hb, hml, hown, hts⟩ hM2 (cwV 3 hts gL_law_X11_farthest rfl rfl rfl (by decide +kernel) ⟨Nat.le_of_ble_eq_true rfl, Nat.le_of_ble_eq_true rfl⟩) (q_preV (n1 := 0) (is1 := []) hK hA hZ hP hD hS rfl ⟨rfl, rfl, rfl⟩ 0 hh rfl) rfl rfl hl.1 rfl (lv_room (Nat.le_of_ble_eq_true rfl)) dL_law_1117 (l_rm hn.2 hc hs (Nat.zero_le _) (Nat.zero_le _))) hS (fun t2 locs _ hB hS => ?_)
    obtain ⟨WM, hMI, hP, hD⟩ := hB
    have hP := l_swP hP
    have hD := l_swD hD
    refine lv_pop (pc := 1120) hx hb dL_law_1120 rfl ?_
    refine lv_goto (pc := 1121) (tgt := 2146) hx hb dL_law_1121 rfl ?_
    exact hgo WX WM _ _ _ _ _ _ _ _ _ hXI hMI hP hD hS hc hs
theorem law_20 (p : Program) (l : Launch) (e : Env) (s : State) (m : MethodId) (below : List Frame) (meth : Method) (c : Code) (b L : Nat) (xs : Nat → Int32) (D : va_G) (ci : Nat → ClassId) (sa : Nat → Nat) {a_x a_m i : Nat} {ls : Array Slot} (C0 : lL_C p l e s m below meth c b L xs D ci sa) (hi : i + 8 ≤ L) (hl : lv_has ls 4 [(3, .int (nI i)), (2, .ref a_m), (1, .ref a_x), (0, .ref b)]) (hgo : lL_go p l e s m below meth c b L xs D ci sa a_x a_m ls 2146) : lL_go p l e s m below meth c b L xs D ci sa a_x a_m ls 1124 := by
  obtain ⟨hx, hb, hml, hown, hts, hX, hbl, hK, hZ, hret, hlocks, hL⟩ := C0
  intro WX WM t n s0 sv kv H locs cells slots hXI hMI hP hD hS hc hs
  have hA : ∀ q : Nat, s.heap.size ≤ q → (fun q : Nat => s.heap.size ≤ q) q := fun _ h => h
  have hbA : ¬ (fun q : Nat => s.heap.size ≤ q) b := Nat.not_le.mpr hbl
  have hn := hXI.n
  have hok := hXI.ok
  refine lv_aload_n (pc := 1124) hx hb dL_law_1124 rfl (lv_at hl 2 rfl) ?_
  refine lv_aload_n (pc := 1125) hx hb dL_law_1125 rfl (lv_at hl 3 rfl) ?_
  refine lv_iload_n (pc := 1126) hx hb dL_law_1126 rfl (lv_at hl 0 rfl) ?_
  refine lv_iconst (pc := 1127) (v := nI 1) hx hb dL_law_1127 (by decide) ?_
  refine lv_iadd (pc := 1128) hx hb dL_law_1128 ?_
  refine va_sld (pc := 1129) hx hb hX hbl hbA hS (l_in hi (show 1 < 8 by decide) hL) dL_law_1129 ?_
  refine lv_aload_n (pc := 1130) hx hb dL_law_1130 rfl (lv_at hl 3 rfl) ?_
  refine lv_iload_n (pc := 1131) hx hb dL_law_1131 rfl (lv_at hl 0 rfl) ?_
  refine lv_iconst (pc := 1132) (v := nI 2) hx hb dL_law_1132 (by decide) ?_
  refine lv_iadd (pc := 1133) hx hb dL_law_1133 ?_
  refine va_sld (pc := 1134) hx hb hX hbl hbA hS (l_in hi (show 2 < 8 by decide) hL) dL_law_1134 ?_
  refine lv_aload_n (pc := 1135) hx hb dL_law_1135 rfl (lv_at hl 3 rfl) ?_
  refine lv_iload_n (pc := 1136) hx hb dL_law_1136 rfl (lv_at hl 0 rfl) ?_
  refine lv_iconst (pc := 1137) (v := nI 3) hx hb dL_law_1137 (by decide) ?_
  refine lv_iadd (pc := 1138) hx hb dL_law_1138 ?_
  refine va_sld (pc := 1139) hx hb hX hbl hbA hS (l_in hi (show 3 < 8 by decide) hL) dL_law_1139 ?_
  obtain ⟨r, hM1⟩ := l_X_corners l D ci (fun q : Nat => s.heap.size ≤ q) sa WM hXI (xs (nI i + nI 1).toNatClampNeg) (xs (nI i + nI 2).toNatClampNeg) (xs (nI i + nI 3).toNatClampNeg)
  obtain ⟨fs, hh⟩ := hXI.hd WM
  refine q_call (pc := 1140) (va_runV (As := [.int (xs (nI i + nI 1).toNatClampNeg), .int (xs (nI i + nI 2).toNatClampNeg), .int (xs (nI i + nI 3).toNatClampNeg)]) (rest := []) ⟨hx, hb, hml, hown, hts⟩ hM1 (cwV 3 hts gL_law_X10_corners rfl rfl rfl (by decide +kernel) ⟨Nat.le_of_ble_eq_true rfl, Nat.le_of_ble_eq_true rfl⟩) (q_preV (n1 := 0) (is1 := []) hK hA hZ hP hD hS rfl ⟨rfl, rfl, rfl⟩ 0 hh rfl) rfl rfl hl.1 rfl (lv_room (Nat.le_of_ble_eq_true rfl)) dL_law_1140 (l_rm hn.2 hc hs (Nat.zero_le _) (Nat.zero_le _))) hS (fun t2 locs _ hB hS => ?_)
  obtain ⟨WX, hXI, hP, hD⟩ := hB
  refine lv_pop (pc := 1143) hx hb dL_law_1143 rfl ?_
  have hP := l_swP hP
  have hD := l_swD hD
  refine lv_aload_n (pc := 1144) hx hb dL_law_1144 rfl (lv_at hl 1 rfl) ?_
  refine lv_aload_n (pc := 1145) hx hb dL_law_1145 rfl (lv_at hl 3 rfl) ?_
  refine lv_iload_n (pc := 1146) hx hb dL_law_1146 rfl (lv_at hl 0 rfl) ?_
  refine lv_iconst (pc := 1147) (v := nI 1) hx hb dL_law_1147 (by decide) ?_
  refine lv_iadd (pc := 1148) hx hb dL_law_1148 ?_
  refine va_sld (pc := 1149) hx hb hX hbl hbA hS (l_in hi (show 1 < 8 by decide) hL) dL_law_1149 ?_
  refine lv_aload_n (pc := 1150) hx hb dL_law_1150 rfl (lv_at hl 3 rfl) ?_
  refine lv_iload_n (pc := 1151) hx hb dL_law_1151 rfl (lv_at hl 0 rfl) ?_
  refine lv_iconst (pc := 1152) (v := nI 2) hx hb dL_law_1152 (by decide) ?_
  refine lv_iadd (pc := 1153) hx hb dL_law_1153 ?_
  refine va_sld (pc := 1154) hx hb hX hbl hbA hS (l_in hi (show 2 < 8 by decide) hL) dL_law_1154 ?_
  refine lv_aload_n (pc := 1155) hx hb dL_law_1155 rfl (lv_at hl 3 rfl) ?_
  refine lv_iload_n (pc := 1156) hx hb dL_law_1156 rfl (lv_at hl 0 rfl) ?_
  refine lv_iconst (pc := 1157) (v := nI 3) hx hb dL_law_1157 (by decide) ?_
  refine lv_iadd (pc := 1158) hx hb dL_law_1158 ?_
  refine va_sld (pc := 1159) hx hb hX hbl hbA hS (l_in hi (show 3 < 8 by decide) hL) dL_law_1159 ?_
  obtain ⟨r2, hM2⟩ := l_M_corners l D ci (fun q : Nat => s.heap.size ≤ q) sa WX hMI (xs (nI i + nI 1).toNatClampNeg) (xs (nI i + nI 2).toNatClampNeg) (xs (nI i + nI 3).toNatClampNeg)
  obtain ⟨fs, hh⟩ := hMI.hd WX
  refine q_call (pc := 1160) (va_runV (As := [.int (xs (nI i + nI 1).toNatClampNeg), .int (xs (nI i + nI 2).toNatClampNeg), .int (xs (nI i + nI 3).toNatClampNeg)]) (rest := []) ⟨hx, hb, hml, hown, hts⟩ hM2 (cwV 3 hts gL_law_X11_corners rfl rfl rfl (by decide +kernel) ⟨Nat.le_of_ble_eq_true rfl, Nat.le_of_ble_eq_true rfl⟩) (q_preV (n1 := 0) (is1 := []) hK hA hZ hP hD hS rfl ⟨rfl, rfl, rfl⟩ 0 hh rfl) rfl rfl hl.1 rfl (lv_room (Nat.le_of_ble_eq_true rfl)) dL_law_1160 (l_rm hn.2 hc hs (Nat.zero_le _) (Nat.zero_le _))) hS (fun t2 locs _ hB hS => ?_)
  obtain ⟨WM, hMI, hP, hD⟩ := hB
  have hP := l_swP hP
  have hD := l_swD hD
  refine lv_pop (pc := 1163) hx hb dL_law_1163 rfl ?_
  refine lv_goto (pc := 1164) (tgt := 2146) hx hb dL_law_1164 rfl ?_
  exact hgo WX WM _ _ _ _ _ _ _ _ _ hXI hMI hP hD hS hc hs
theorem law_21 (p : Program) (l : Launch) (e : Env) (s : State) (m : MethodId) (below : List Frame) (meth : Method) (c : Code) (b L : Nat) (xs : Nat → Int32) (D : va_G) (ci : Nat → ClassId) (sa : Nat → Nat) {a_x a_m i : Nat} {ls : Array Slot} (C0 : lL_C p l e s m below meth c b L xs D ci sa) (hi : i + 8 ≤ L) (hl : lv_has ls 4 [(3, .int (nI i)), (2, .ref a_m), (1, .ref a_x), (0, .ref b)]) (hgo : lL_go p l e s m below meth c b L xs D ci sa a_x a_m ls 2146) : lL_go p l e s m below meth c b L xs D ci sa a_x a_m ls 1167 := by
  obtain ⟨hx, hb, hml, hown, hts, hX, hbl, hK, hZ, hret, hlocks, hL⟩ := C0
  intro WX WM t n s0 sv kv H locs cells slots hXI hMI hP hD hS hc hs
  have hA : ∀ q : Nat, s.heap.size ≤ q → (fun q : Nat => s.heap.size ≤ q) q := fun _ h => h
  have hbA : ¬ (fun q : Nat => s.heap.size ≤ q) b := Nat.not_le.mpr hbl
  have hn := hXI.n
  have hok := hXI.ok
  refine lv_aload_n (pc := 1167) hx hb dL_law_1167 rfl (lv_at hl 2 rfl) ?_
  refine lv_aload_n (pc := 1168) hx hb dL_law_1168 rfl (lv_at hl 3 rfl) ?_
  refine lv_iload_n (pc := 1169) hx hb dL_law_1169 rfl (lv_at hl 0 rfl) ?_
  refine lv_iconst (pc := 1170) (v := nI 1) hx hb dL_law_1170 (by decide) ?_
  refine lv_iadd (pc := 1171) hx hb dL_law_1171 ?_
  refine va_sld (pc := 1172) hx hb hX hbl hbA hS (l_in hi (show 1 < 8 by decide) hL) dL_law_1172 ?_
  refine lv_aload_n (pc := 1173) hx hb dL_law_1173 rfl (lv_at hl 3 rfl) ?_
  refine lv_iload_n (pc := 1174) hx hb dL_law_1174 rfl (lv_at hl 0 rfl) ?_
  refine lv_iconst (pc := 1175) (v := nI 2) hx hb dL_law_1175 (by decide) ?_
  refine lv_iadd (pc := 1176) hx hb dL_law_1176 ?_
  refine va_sld (pc := 1177) hx hb hX hbl hbA hS (l_in hi (show 2 < 8 by decide) hL) dL_law_1177 ?_
  refine lv_aload_n (pc := 1178) hx hb dL_law_1178 rfl (lv_at hl 3 rfl) ?_
  refine lv_iload_n (pc := 1179) hx hb dL_law_1179 rfl (lv_at hl 0 rfl) ?_
  refine lv_iconst (pc := 1180) (v := nI 3) hx hb dL_law_1180 (by decide) ?_
  refine lv_iadd (pc := 1181) hx hb dL_law_1181 ?_
  refine va_sld (pc := 1182) hx hb hX hbl hbA hS (l_in hi (show 3 < 8 by decide) hL) dL_law_1182 ?_
  obtain ⟨r, hM1⟩ := l_X_jog l D ci (fun q : Nat => s.heap.size ≤ q) sa WM hXI (xs (nI i + nI 1).toNatClampNeg) (xs (nI i + nI 2).toNatClampNeg) (xs (nI i + nI 3).toNatClampNeg)
  obtain ⟨fs, hh⟩ := hXI.hd WM
  refine q_call (pc := 1183) (va_runV (As := [.int (xs (nI i + nI 1).toNatClampNeg), .int (xs (nI i + nI 2).toNatClampNeg), .int (xs (nI i + nI 3).toNatClampNeg)]) (rest := []) ⟨hx, hb, hml, hown, hts⟩ hM1 (cwV 3 hts gL_law_X10_jog rfl rfl rfl (by decide +kernel) ⟨Nat.le_of_ble_eq_true rfl, Nat.le_of_ble_eq_true rfl⟩) (q_preV (n1 := 0) (is1 := []) hK hA hZ hP hD hS rfl ⟨rfl, rfl, rfl⟩ 0 hh rfl) rfl rfl hl.1 rfl (lv_room (Nat.le_of_ble_eq_true rfl)) dL_law_1183 (l_rm hn.2 hc hs (Nat.zero_le _) (Nat.zero_le _))) hS (fun t2 locs _ hB hS => ?_)
  obtain ⟨WX, hXI, hP, hD⟩ := hB
  refine lv_pop (pc := 1186) hx hb dL_law_1186 rfl ?_
  have hP := l_swP hP
  have hD := l_swD hD
  refine lv_aload_n (pc := 1187) hx hb dL_law_1187 rfl (lv_at hl 1 rfl) ?_
  refine lv_aload_n (pc := 1188) hx hb dL_law_1188 rfl (lv_at hl 3 rfl) ?_
  refine lv_iload_n (pc := 1189) hx hb dL_law_1189 rfl (lv_at hl 0 rfl) ?_
  refine lv_iconst (pc := 1190) (v := nI 1) hx hb dL_law_1190 (by decide) ?_
  refine lv_iadd (pc := 1191) hx hb dL_law_1191 ?_
  refine va_sld (pc := 1192) hx hb hX hbl hbA hS (l_in hi (show 1 < 8 by decide) hL) dL_law_1192 ?_
  refine lv_aload_n (pc := 1193) hx hb dL_law_1193 rfl (lv_at hl 3 rfl) ?_
  refine lv_iload_n (pc := 1194) hx hb dL_law_1194 rfl (lv_at hl 0 rfl) ?_
  refine lv_iconst (pc := 1195) (v := nI 2) hx hb dL_law_1195 (by decide) ?_
  refine lv_iadd (pc := 1196) hx hb dL_law_1196 ?_
  refine va_sld (pc := 1197) hx hb hX hbl hbA hS (l_in hi (show 2 < 8 by decide) hL) dL_law_1197 ?_
  refine lv_aload_n (pc := 1198) hx hb dL_law_1198 rfl (lv_at hl 3 rfl) ?_
  refine lv_iload_n (pc := 1199) hx hb dL_law_1199 rfl (lv_at hl 0 rfl) ?_
  refine lv_iconst (pc := 1200) (v := nI 3) hx hb dL_law_1200 (by decide) ?_
  refine lv_iadd (pc := 1201) hx hb dL_law_1201 ?_
  refine va_sld (pc := 1202) hx hb hX hbl hbA hS (l_in hi (show 3 < 8 by decide) hL) dL_law_1202 ?_
  obtain ⟨r2, hM2⟩ := l_M_jog l D ci (fun q : Nat => s.heap.size ≤ q) sa WX hMI (xs (nI i + nI 1).toNatClampNeg) (xs (nI i + nI 2).toNatClampNeg) (xs (nI i + nI 3).toNatClampNeg)
  obtain ⟨fs, hh⟩ := hMI.hd WX
  refine q_call (pc := 1203) (va_runV (As := [.int (xs (nI i + nI 1).toNatClampNeg), .int (xs (nI i + nI 2).toNatClampNeg), .int (xs (nI i + nI 3).toNatClampNeg)]) (rest := []) ⟨hx, hb, hml, hown, hts⟩ hM2 (cwV 3 hts gL_law_X11_jog rfl rfl rfl (by decide +kernel) ⟨Nat.le_of_ble_eq_true rfl, Nat.le_of_ble_eq_true rfl⟩) (q_preV (n1 := 0) (is1 := []) hK hA hZ hP hD hS rfl ⟨rfl, rfl, rfl⟩ 0 hh rfl) rfl rfl hl.1 rfl (lv_room (Nat.le_of_ble_eq_true rfl)) dL_law_1203 (l_rm hn.2 hc hs (Nat.zero_le _) (Nat.zero_le _))) hS (fun t2 locs _ hB hS => ?_)
  obtain ⟨WM, hMI, hP, hD⟩ := hB
  have hP := l_swP hP
  have hD := l_swD hD
  refine lv_pop (pc := 1206) hx hb dL_law_1206 rfl ?_
  refine lv_goto (pc := 1207) (tgt := 2146) hx hb dL_law_1207 rfl ?_
  exact hgo WX WM _ _ _ _ _ _ _ _ _ hXI hMI hP hD hS hc hs
