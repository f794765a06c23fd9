/-! the law's cases -/
theorem law_33 (p : Program) (l : Launch) (e : Env) (s : State) (m : MethodId) (below : List Frame) (meth : Method) (c : Code) (b L : Nat) (xs : Nat → Int32) (D : va_G) (ci : Nat → ClassId) (sa : Nat → Nat) {a_x a_m i : Nat} {ls : Array Slot} (C0 : lL_C p l e s m below meth c b L xs D ci sa) (hi : i + 8 ≤ L) (hl : lv_has ls 4 [(3, .int (nI i)), (2, .ref a_m), (1, .ref a_x), (0, .ref b)]) (hgo : lL_go p l e s m below meth c b L xs D ci sa a_x a_m ls 2146) : lL_go p l e s m below meth c b L xs D ci sa a_x a_m ls 1727 := by
  obtain ⟨hx, hb, hml, hown, hts, hX, hbl, hK, hZ, hret, hlocks, hL⟩ := C0
  intro WX WM t n s0 sv kv H locs cells slots hXI hMI hP hD hS hc hs
  have hA : ∀ q : Nat, s.heap.size ≤ q → (fun q : Nat => s.heap.size ≤ q) q := fun _ h => h
  have hbA : ¬ (fun q : Nat => s.heap.size ≤ q) b := Nat.not_le.mpr hbl
  have hn := hXI.n
  have hok := hXI.ok
  refine lv_aload_n (pc := 1727) hx hb dL_law_1727 rfl (lv_at hl 2 rfl) ?_
  refine lv_aload_n (pc := 1728) hx hb dL_law_1728 rfl (lv_at hl 3 rfl) ?_
  refine lv_iload_n (pc := 1729) hx hb dL_law_1729 rfl (lv_at hl 0 rfl) ?_
  refine lv_iconst (pc := 1730) (v := nI 1) hx hb dL_law_1730 (by decide) ?_
  refine lv_iadd (pc := 1731) hx hb dL_law_1731 ?_
  refine va_sld (pc := 1732) hx hb hX hbl hbA hS (l_in hi (show 1 < 8 by decide) hL) dL_law_1732 ?_
  refine lv_aload_n (pc := 1733) hx hb dL_law_1733 rfl (lv_at hl 3 rfl) ?_
  refine lv_iload_n (pc := 1734) hx hb dL_law_1734 rfl (lv_at hl 0 rfl) ?_
  refine lv_iconst (pc := 1735) (v := nI 2) hx hb dL_law_1735 (by decide) ?_
  refine lv_iadd (pc := 1736) hx hb dL_law_1736 ?_
  refine va_sld (pc := 1737) hx hb hX hbl hbA hS (l_in hi (show 2 < 8 by decide) hL) dL_law_1737 ?_
  refine lv_aload_n (pc := 1738) hx hb dL_law_1738 rfl (lv_at hl 3 rfl) ?_
  refine lv_iload_n (pc := 1739) hx hb dL_law_1739 rfl (lv_at hl 0 rfl) ?_
  refine lv_iconst (pc := 1740) (v := nI 3) hx hb dL_law_1740 (by decide) ?_
  refine lv_iadd (pc := 1741) hx hb dL_law_1741 ?_
  refine va_sld (pc := 1742) hx hb hX hbl hbA hS (l_in hi (show 3 < 8 by decide) hL) dL_law_1742 ?_
  refine lv_aload_n (pc := 1743) hx hb dL_law_1743 rfl (lv_at hl 3 rfl) ?_
  refine lv_iload_n (pc := 1744) hx hb dL_law_1744 rfl (lv_at hl 0 rfl) ?_
  refine lv_iconst (pc := 1745) (v := nI 4) hx hb dL_law_1745 (by decide) ?_
  refine lv_iadd (pc := 1746) hx hb dL_law_1746 ?_
  refine va_sld (pc := 1747) hx hb hX hbl hbA hS (l_in hi (show 4 < 8 by decide) hL) dL_law_1747 ?_
  refine lv_aload_n (pc := 1748) hx hb dL_law_1748 rfl (lv_at hl 3 rfl) ?_
  refine lv_iload_n (pc := 1749) hx hb dL_law_1749 rfl (lv_at hl 0 rfl) ?_
  refine lv_iconst (pc := 1750) (v := nI 5) hx hb dL_law_1750 (by decide) ?_
  refine lv_iadd (pc := 1751) hx hb dL_law_1751 ?_
  refine va_sld (pc := 1752) hx hb hX hbl hbA hS (l_in hi (show 5 < 8 by decide) hL) dL_law_1752 ?_
  refine lv_aload_n (pc := 1753) hx hb dL_law_1753 rfl (lv_at hl 3 rfl) ?_
  refine lv_iload_n (pc := 1754) hx hb dL_law_1754 rfl (lv_at hl 0 rfl) ?_
  refine lv_bipush (pc := 1755) (v := nI 6) hx hb dL_law_1755 (by decide) ?_
  refine lv_iadd (pc := 1757) hx hb dL_law_1757 ?_
  refine va_sld (pc := 1758) hx hb hX hbl hbA hS (l_in hi (show 6 < 8 by decide) hL) dL_law_1758 ?_
  refine lv_aload_n (pc := 1759) hx hb dL_law_1759 rfl (lv_at hl 3 rfl) ?_
  refine lv_iload_n (pc := 1760) hx hb dL_law_1760 rfl (lv_at hl 0 rfl) ?_
  refine lv_bipush (pc := 1761) (v := nI 7) hx hb dL_law_1761 (by decide) ?_
  refine lv_iadd (pc := 1763) hx hb dL_law_1763 ?_
  refine va_sld (pc := 1764) hx hb hX hbl hbA hS (l_in hi (show 7 < 8 by decide) hL) dL_law_1764 ?_
  obtain ⟨r, hM1⟩ := l_X_lacks l D ci (fun q : Nat => s.heap.size ≤ q) sa WM hXI (xs (nI i + nI 1).toNatClampNeg) (xs (nI i + nI 2).toNatClampNeg) (xs (nI i + nI 3).toNatClampNeg) (xs (nI i + nI 4).toNatClampNeg) (xs (nI i + nI 5).toNatClampNeg) (xs (nI i + nI 6).toNatClampNeg) (xs (nI i + nI 7).toNatClampNeg)
  obtain ⟨fs, hh⟩ := hXI.hd WM
  refine q_call (pc := 1765) (va_runV (As := [.int (xs (nI i + nI 1).toNatClampNeg), .int (xs (nI i + nI 2).toNatClampNeg), .int (xs (nI i + nI 3).toNatClampNeg), .int (xs (nI i + nI 4).toNatClampNeg), .int (xs (nI i + nI 5).toNatClampNeg), .int (xs (nI i + nI 6).toNatClampNeg), .int (xs (nI i + nI 7).toNatClampNeg)]) (rest := []) ⟨hx, hb, hml, hown, hts⟩ hM1 (cwV 7 hts gL_law_X10_lacks rfl rfl rfl (by decide +kernel) ⟨Nat.le_of_ble_eq_true rfl, Nat.le_of_ble_eq_true rfl⟩) (q_preV (n1 := 0) (is1 := []) hK hA hZ hP hD hS rfl ⟨rfl, rfl, rfl⟩ 0 hh rfl) rfl rfl hl.1 rfl (lv_room (Nat.le_of_ble_eq_true rfl)) dL_law_1765 (l_rm hn.2 hc hs (Nat.zero_le _) (Nat.zero_le _))) hS (fun t2 locs _ hB hS => ?_)
  obtain ⟨WX, hXI, hP, hD⟩ := hB
  refine lv_pop (pc := 1768) hx hb dL_law_1768 rfl ?_
  have hP := l_swP hP
  have hD := l_swD hD
  refine lv_aload_n (pc := 1769) hx hb dL_law_1769 rfl (lv_at hl 1 rfl) ?_
  refine lv_aload_n (pc := 1770) hx hb dL_law_1770 rfl (lv_at hl 3 rfl) ?_
  refine lv_iload_n (pc := 1771) hx hb dL_law_1771 rfl (lv_at hl 0 rfl) ?_
  refine lv_iconst (pc := 1772) (v := nI 1) hx hb dL_law_1772 (by decide) ?_
  refine lv_iadd (pc := 1773) hx hb dL_law_1773 ?_
  refine va_sld (pc := 1774) hx hb hX hbl hbA hS (l_in hi (show 1 < 8 by decide) hL) dL_law_1774 ?_
  refine lv_aload_n (pc := 1775) hx hb dL_law_1775 rfl (lv_at hl 3 rfl) ?_
  refine lv_iload_n (pc := 1776) hx hb dL_law_1776 rfl (lv_at hl 0 rfl) ?_
  refine lv_iconst (pc := 1777) (v := nI 2) hx hb dL_law_1777 (by decide) ?_
  refine lv_iadd (pc := 1778) hx hb dL_law_1778 ?_
  refine va_sld (pc := 1779) hx hb hX hbl hbA hS (l_in hi (show 2 < 8 by decide) hL) dL_law_1779 ?_
  refine lv_aload_n (pc := 1780) hx hb dL_law_1780 rfl (lv_at hl 3 rfl) ?_
  refine lv_iload_n (pc := 1781) hx hb dL_law_1781 rfl (lv_at hl 0 rfl) ?_
  refine lv_iconst (pc := 1782) (v := nI 3) hx hb dL_law_1782 (by decide) ?_
  refine lv_iadd (pc := 1783) hx hb dL_law_1783 ?_
  refine va_sld (pc := 1784) hx hb hX hbl hbA hS (l_in hi (show 3 < 8 by decide) hL) dL_law_1784 ?_
  refine lv_aload_n (pc := 1785) hx hb dL_law_1785 rfl (lv_at hl 3 rfl) ?_
  refine lv_iload_n (pc := 1786) hx hb dL_law_1786 rfl (lv_at hl 0 rfl) ?_
  refine lv_iconst (pc := 1787) (v := nI 4) hx hb dL_law_1787 (by decide) ?_
  refine lv_iadd (pc := 1788) hx hb dL_law_1788 ?_
  refine va_sld (pc := 1789) hx hb hX hbl hbA hS (l_in hi (show 4 < 8 by decide) hL) dL_law_1789 ?_
  refine lv_aload_n (pc := 1790) hx hb dL_law_1790 rfl (lv_at hl 3 rfl) ?_
  refine lv_iload_n (pc := 1791) hx hb dL_law_1791 rfl (lv_at hl 0 rfl) ?_
  refine lv_iconst (pc := 1792) (v := nI 5) hx hb dL_law_1792 (by decide) ?_
  refine lv_iadd (pc := 1793) hx hb dL_law_1793 ?_
  refine va_sld (pc := 1794) hx hb hX hbl hbA hS (l_in hi (show 5 < 8 by decide) hL) dL_law_1794 ?_
  refine lv_aload_n (pc := 1795) hx hb dL_law_1795 rfl (lv_at hl 3 rfl) ?_
  refine lv_iload_n (pc := 1796) hx hb dL_law_1796 rfl (lv_at hl 0 rfl) ?_
  refine lv_bipush (pc := 1797) (v := nI 6) hx hb dL_law_1797 (by decide) ?_
  refine lv_iadd (pc := 1799) hx hb dL_law_1799 ?_
  refine va_sld (pc := 1800) hx hb hX hbl hbA hS (l_in hi (show 6 < 8 by decide) hL) dL_law_1800 ?_
  refine lv_aload_n (pc := 1801) hx hb dL_law_1801 rfl (lv_at hl 3 rfl) ?_
  refine lv_iload_n (pc := 1802) hx hb dL_law_1802 rfl (lv_at hl 0 rfl) ?_
  refine lv_bipush (pc := 1803) (v := nI 7) hx hb dL_law_1803 (by decide) ?_
  refine lv_iadd (pc := 1805) hx hb dL_law_1805 ?_
  refine va_sld (pc := 1806) hx hb hX hbl hbA hS (l_in hi (show 7 < 8 by decide) hL) dL_law_1806 ?_
  obtain ⟨r2, hM2⟩ := l_M_lacks l D ci (fun q : Nat => s.heap.size ≤ q) sa WX hMI (xs (nI i + nI 1).toNatClampNeg) (xs (nI i + nI 2).toNatClampNeg) (xs (nI i + nI 3).toNatClampNeg) (xs (nI i + nI 4).toNatClampNeg) (xs (nI i + nI 5).toNatClampNeg) (xs (nI i + nI 6).toNatClampNeg) (xs (nI i + nI 7).toNatClampNeg)
  obtain ⟨fs, hh⟩ := hMI.hd WX
  refine q_call (pc := 1807) (va_runV (As := [.int (xs (nI i + nI 1).toNatClampNeg), .int (xs (nI i + nI 2).toNatClampNeg), .int (xs (nI i + nI 3).toNatClampNeg), .int (xs (nI i + nI 4).toNatClampNeg), .int (xs (nI i + nI 5).toNatClampNeg), .int (xs (nI i + nI 6).toNatClampNeg), .int (xs (nI i + nI 7).toNatClampNeg)]) (rest := []) ⟨hx, hb, hml, hown, hts⟩ hM2 (cwV 7 hts gL_law_X11_lacks rfl rfl rfl (by decide +kernel) ⟨Nat.le_of_ble_eq_true rfl, Nat.le_of_ble_eq_true rfl⟩) (q_preV (n1 := 0) (is1 := []) hK hA hZ hP hD hS rfl ⟨rfl, rfl, rfl⟩ 0 hh rfl) rfl rfl hl.1 rfl (lv_room (Nat.le_of_ble_eq_true rfl)) dL_law_1807 (l_rm hn.2 hc hs (Nat.zero_le _) (Nat.zero_le _))) hS (fun t2 locs _ hB hS => ?_)
  obtain ⟨WM, hMI, hP, hD⟩ := hB
  have hP := l_swP hP
  have hD := l_swD hD
  refine lv_pop (pc := 1810) hx hb dL_law_1810 rfl ?_
  refine lv_goto (pc := 1811) (tgt := 2146) hx hb dL_law_1811 rfl ?_
  exact hgo WX WM _ _ _ _ _ _ _ _ _ hXI hMI hP hD hS hc hs
theorem law_34 (p : Program) (l : Launch) (e : Env) (s : State) (m : MethodId) (below : List Frame) (meth : Method) (c : Code) (b L : Nat) (xs : Nat → Int32) (D : va_G) (ci : Nat → ClassId) (sa : Nat → Nat) {a_x a_m i : Nat} {ls : Array Slot} (C0 : lL_C p l e s m below meth c b L xs D ci sa) (hi : i + 8 ≤ L) (hl : lv_has ls 4 [(3, .int (nI i)), (2, .ref a_m), (1, .ref a_x), (0, .ref b)]) (hgo : lL_go p l e s m below meth c b L xs D ci sa a_x a_m ls 2146) : lL_go p l e s m below meth c b L xs D ci sa a_x a_m ls 1814 := by
  obtain ⟨hx, hb, hml, hown, hts, hX, hbl, hK, hZ, hret, hlocks, hL⟩ := C0
  intro WX WM t n s0 sv kv H locs cells slots hXI hMI hP hD hS hc hs
  have hA : ∀ q : Nat, s.heap.size ≤ q → (fun q : Nat => s.heap.size ≤ q) q := fun _ h => h
  have hbA : ¬ (fun q : Nat => s.heap.size ≤ q) b := Nat.not_le.mpr hbl
  have hn := hXI.n
  have hok := hXI.ok
  refine lv_aload_n (pc := 1814) hx hb dL_law_1814 rfl (lv_at hl 2 rfl) ?_
  refine lv_aload_n (pc := 1815) hx hb dL_law_1815 rfl (lv_at hl 3 rfl) ?_
  refine lv_iload_n (pc := 1816) hx hb dL_law_1816 rfl (lv_at hl 0 rfl) ?_
  refine lv_iconst (pc := 1817) (v := nI 1) hx hb dL_law_1817 (by decide) ?_
  refine lv_iadd (pc := 1818) hx hb dL_law_1818 ?_
  refine va_sld (pc := 1819) hx hb hX hbl hbA hS (l_in hi (show 1 < 8 by decide) hL) dL_law_1819 ?_
  refine lv_aload_n (pc := 1820) hx hb dL_law_1820 rfl (lv_at hl 3 rfl) ?_
  refine lv_iload_n (pc := 1821) hx hb dL_law_1821 rfl (lv_at hl 0 rfl) ?_
  refine lv_iconst (pc := 1822) (v := nI 2) hx hb dL_law_1822 (by decide) ?_
  refine lv_iadd (pc := 1823) hx hb dL_law_1823 ?_
  refine va_sld (pc := 1824) hx hb hX hbl hbA hS (l_in hi (show 2 < 8 by decide) hL) dL_law_1824 ?_
  refine lv_aload_n (pc := 1825) hx hb dL_law_1825 rfl (lv_at hl 3 rfl) ?_
  refine lv_iload_n (pc := 1826) hx hb dL_law_1826 rfl (lv_at hl 0 rfl) ?_
  refine lv_iconst (pc := 1827) (v := nI 3) hx hb dL_law_1827 (by decide) ?_
  refine lv_iadd (pc := 1828) hx hb dL_law_1828 ?_
  refine va_sld (pc := 1829) hx hb hX hbl hbA hS (l_in hi (show 3 < 8 by decide) hL) dL_law_1829 ?_
  obtain ⟨r, hM1⟩ := l_X_years l D ci (fun q : Nat => s.heap.size ≤ q) sa WM hXI (xs (nI i + nI 1).toNatClampNeg) (xs (nI i + nI 2).toNatClampNeg) (xs (nI i + nI 3).toNatClampNeg)
  obtain ⟨fs, hh⟩ := hXI.hd WM
  refine q_call (pc := 1830) (va_runV (As := [.int (xs (nI i + nI 1).toNatClampNeg), .int (xs (nI i + nI 2).toNatClampNeg), .int (xs (nI i + nI 3).toNatClampNeg)]) (rest := []) ⟨hx, hb, hml, hown, hts⟩ hM1 (cwV 3 hts gL_law_X10_years rfl rfl rfl (by decide +kernel) ⟨Nat.le_of_ble_eq_true rfl, Nat.le_of_ble_eq_true rfl⟩) (q_preV (n1 := 0) (is1 := []) hK hA hZ hP hD hS rfl ⟨rfl, rfl, rfl⟩ 0 hh rfl) rfl rfl hl.1 rfl (lv_room (Nat.le_of_ble_eq_true rfl)) dL_law_1830 (l_rm hn.2 hc hs (Nat.zero_le _) (Nat.zero_le _))) hS (fun t2 locs _ hB hS => ?_)
  obtain ⟨WX, hXI, hP, hD⟩ := hB
  refine lv_pop (pc := 1833) hx hb dL_law_1833 rfl ?_
  have hP := l_swP hP
  have hD := l_swD hD
  refine lv_aload_n (pc := 1834) hx hb dL_law_1834 rfl (lv_at hl 1 rfl) ?_
  refine lv_aload_n (pc := 1835) hx hb dL_law_1835 rfl (lv_at hl 3 rfl) ?_
  refine lv_iload_n (pc := 1836) hx hb dL_law_1836 rfl (lv_at hl 0 rfl) ?_
  refine lv_iconst (pc := 1837) (v := nI 1) hx hb dL_law_1837 (by decide) ?_
  refine lv_iadd (pc := 1838) hx hb dL_law_1838 ?_
  refine va_sld (pc := 1839) hx hb hX hbl hbA hS (l_in hi (show 1 < 8 by decide) hL) dL_law_1839 ?_
  refine lv_aload_n (pc := 1840) hx hb dL_law_1840 rfl (lv_at hl 3 rfl) ?_
  refine lv_iload_n (pc := 1841) hx hb dL_law_1841 rfl (lv_at hl 0 rfl) ?_
  refine lv_iconst (pc := 1842) (v := nI 2) hx hb dL_law_1842 (by decide) ?_
  refine lv_iadd (pc := 1843) hx hb dL_law_1843 ?_
  refine va_sld (pc := 1844) hx hb hX hbl hbA hS (l_in hi (show 2 < 8 by decide) hL) dL_law_1844 ?_
  refine lv_aload_n (pc := 1845) hx hb dL_law_1845 rfl (lv_at hl 3 rfl) ?_
  refine lv_iload_n (pc := 1846) hx hb dL_law_1846 rfl (lv_at hl 0 rfl) ?_
  refine lv_iconst (pc := 1847) (v := nI 3) hx hb dL_law_1847 (by decide) ?_
  refine lv_iadd (pc := 1848) hx hb dL_law_1848 ?_
  refine va_sld (pc := 1849) hx hb hX hbl hbA hS (l_in hi (show 3 < 8 by decide) hL) dL_law_1849 ?_
  obtain ⟨r2, hM2⟩ := l_M_years l D ci (fun q : Nat => s.heap.size ≤ q) sa WX hMI (xs (nI i + nI 1).toNatClampNeg) (xs (nI i + nI 2).toNatClampNeg) (xs (nI i + nI 3).toNatClampNeg)
  obtain ⟨fs, hh⟩ := hMI.hd WX
  refine q_call (pc := 1850) (va_runV (As := [.int (xs (nI i + nI 1).toNatClampNeg), .int (xs (nI i + nI 2).toNatClampNeg), .int (xs (nI i + nI 3).toNatClampNeg)]) (rest := []) ⟨hx, hb, hml, hown, hts⟩ hM2 (cwV 3 hts gL_law_X11_years rfl rfl rfl (by decide +kernel) ⟨Nat.le_of_ble_eq_true rfl, Nat.le_of_ble_eq_true rfl⟩) (q_preV (n1 := 0) (is1 := []) hK hA hZ hP hD hS rfl ⟨rfl, rfl, rfl⟩ 0 hh rfl) rfl rfl hl.1 rfl (lv_room (Nat.le_of_ble_eq_true rfl)) dL_law_1850 (l_rm hn.2 hc hs (Nat.zero_le _) (Nat.zero_le _))) hS (fun t2 locs _ hB hS => ?_)
  obtain ⟨WM, hMI, hP, hD⟩ := hB
  have hP := l_swP hP
  have hD := l_swD hD
  refine lv_pop (pc := 1853) hx hb dL_law_1853 rfl ?_
  refine lv_goto (pc := 1854) (tgt := 2146) hx hb dL_law_1854 rfl ?_
  exact hgo WX WM _ _ _ _ _ _ _ _ _ hXI hMI hP hD hS hc hs
theorem law_35 (p : Program) (l : Launch) (e : Env) (s : State) (m : MethodId) (below : List Frame) (meth : Method) (c : Code) (b L : Nat) (xs : Nat → Int32) (D : va_G) (ci : Nat → ClassId) (sa : Nat → Nat) {a_x a_m i : Nat} {ls : Array Slot} (C0 : lL_C p l e s m below meth c b L xs D ci sa) (hi : i + 8 ≤ L) (hl : lv_has ls 4 [(3, .int (nI i)), (2, .ref a_m), (1, .ref a_x), (0, .ref b)]) (hgo : lL_go p l e s m below meth c b L xs D ci sa a_x a_m ls 2146) : lL_go p l e s m below meth c b L xs D ci sa a_x a_m ls 1857 := by
  obtain ⟨hx, hb, hml, hown, hts, hX, hbl, hK, hZ, hret, hlocks, hL⟩ := C0
  intro WX WM t n s0 sv kv H locs cells slots hXI hMI hP hD hS hc hs
  have hA : ∀ q : Nat, s.heap.size ≤ q → (fun q : Nat => s.heap.size ≤ q) q := fun _ h => h
  have hbA : ¬ (fun q : Nat => s.heap.size ≤ q) b := Nat.not_le.mpr hbl
  have hn := hXI.n
  have hok := hXI.ok
  refine lv_aload_n (pc := 1857) hx hb dL_law_1857 rfl (lv_at hl 2 rfl) ?_
  refine lv_aload_n (pc := 1858) hx hb dL_law_1858 rfl (lv_at hl 3 rfl) ?_
  refine lv_iload_n (pc := 1859) hx hb dL_law_1859 rfl (lv_at hl 0 rfl) ?_
  refine lv_iconst (pc := 1860) (v := nI 1) hx hb dL_law_1860 (by decide) ?_
  refine lv_iadd (pc := 1861) hx hb dL_law_1861 ?_
  refine va_sld (pc := 1862) hx hb hX hbl hbA hS (l_in hi (show 1 < 8 by decide) hL) dL_law_1862 ?_
  refine lv_aload_n (pc := 1863) hx hb dL_law_1863 rfl (lv_at hl 3 rfl) ?_
  refine lv_iload_n (pc := 1864) hx hb dL_law_1864 rfl (lv_at hl 0 rfl) ?_
  refine lv_iconst (pc := 1865) (v := nI 2) hx hb dL_law_1865 (by decide) ?_
  refine lv_iadd (pc := 1866) hx hb dL_law_1866 ?_
  refine va_sld (pc := 1867) hx hb hX hbl hbA hS (l_in hi (show 2 < 8 by decide) hL) dL_law_1867 ?_
  obtain ⟨r, s2, hT, hM1⟩ := l_X_renew l D ci (fun q : Nat => s.heap.size ≤ q) sa WM hXI (xs (nI i + nI 1).toNatClampNeg) (xs (nI i + nI 2).toNatClampNeg)
  obtain ⟨fs, hh⟩ := hXI.hd WM
  refine q_call (pc := 1868) (va_runV (As := [.int (xs (nI i + nI 1).toNatClampNeg), .int (xs (nI i + nI 2).toNatClampNeg)]) (rest := []) ⟨hx, hb, hml, hown, hts⟩ hM1 (cwV 2 hts gL_law_X10_renew rfl rfl rfl (by decide +kernel) ⟨Nat.le_of_ble_eq_true rfl, Nat.le_of_ble_eq_true rfl⟩) (q_preV (n1 := 0) (is1 := []) hK hA hZ hP hD hS rfl ⟨rfl, rfl, rfl⟩ 0 hh rfl) rfl rfl hl.1 rfl (lv_room (Nat.le_of_ble_eq_true rfl)) dL_law_1868 (l_rm hn.2 hc hs (Nat.zero_le _) (Nat.zero_le _))) hS (fun t2 locs _ hB hS => ?_)
  obtain ⟨WX, hXI, hP, hD⟩ := hB
  refine lv_pop (pc := 1871) hx hb dL_law_1871 rfl ?_
  have hP := l_swP hP
  have hD := l_swD hD
  refine lv_aload_n (pc := 1872) hx hb dL_law_1872 rfl (lv_at hl 1 rfl) ?_
  refine lv_aload_n (pc := 1873) hx hb dL_law_1873 rfl (lv_at hl 3 rfl) ?_
  refine lv_iload_n (pc := 1874) hx hb dL_law_1874 rfl (lv_at hl 0 rfl) ?_
  refine lv_iconst (pc := 1875) (v := nI 1) hx hb dL_law_1875 (by decide) ?_
  refine lv_iadd (pc := 1876) hx hb dL_law_1876 ?_
  refine va_sld (pc := 1877) hx hb hX hbl hbA hS (l_in hi (show 1 < 8 by decide) hL) dL_law_1877 ?_
  refine lv_aload_n (pc := 1878) hx hb dL_law_1878 rfl (lv_at hl 3 rfl) ?_
  refine lv_iload_n (pc := 1879) hx hb dL_law_1879 rfl (lv_at hl 0 rfl) ?_
  refine lv_iconst (pc := 1880) (v := nI 2) hx hb dL_law_1880 (by decide) ?_
  refine lv_iadd (pc := 1881) hx hb dL_law_1881 ?_
  refine va_sld (pc := 1882) hx hb hX hbl hbA hS (l_in hi (show 2 < 8 by decide) hL) dL_law_1882 ?_
  obtain ⟨r2, s3, hT2, hM2⟩ := l_M_renew l D ci (fun q : Nat => s.heap.size ≤ q) sa WX hMI (xs (nI i + nI 1).toNatClampNeg) (xs (nI i + nI 2).toNatClampNeg)
  obtain ⟨fs, hh⟩ := hMI.hd WX
  refine q_call (pc := 1883) (va_runV (As := [.int (xs (nI i + nI 1).toNatClampNeg), .int (xs (nI i + nI 2).toNatClampNeg)]) (rest := []) ⟨hx, hb, hml, hown, hts⟩ hM2 (cwV 2 hts gL_law_X11_renew rfl rfl rfl (by decide +kernel) ⟨Nat.le_of_ble_eq_true rfl, Nat.le_of_ble_eq_true rfl⟩) (q_preV (n1 := 0) (is1 := []) hK hA hZ hP hD hS rfl ⟨rfl, rfl, rfl⟩ 0 hh rfl) rfl rfl hl.1 rfl (lv_room (Nat.le_of_ble_eq_true rfl)) dL_law_1883 (l_rm hn.2 hc hs (Nat.zero_le _) (Nat.zero_le _))) hS (fun t2 locs _ hB hS => ?_)
  obtain ⟨WM, hMI, hP, hD⟩ := hB
  obtain ⟨hrr, e23⟩ := l_trenew_one hok hT hT2
  rw [← e23] at hMI
  have hP := l_swP hP
  have hD := l_swD hD
  refine lv_pop (pc := 1886) hx hb dL_law_1886 rfl ?_
  refine lv_goto (pc := 1887) (tgt := 2146) hx hb dL_law_1887 rfl ?_
  exact hgo WX WM _ _ _ _ _ _ _ _ _ hXI hMI hP hD hS hc hs
theorem law_36 (p : Program) (l : Launch) (e : Env) (s : State) (m : MethodId) (below : List Frame) (meth : Method) (c : Code) (b L : Nat) (xs : Nat → Int32) (D : va_G) (ci : Nat → ClassId) (sa : Nat → Nat) {a_x a_m i : Nat} {ls : Array Slot} (C0 : lL_C p l e s m below meth c b L xs D ci sa) (hi : i + 8 ≤ L) (hl : lv_has ls 4 [(3, .int (nI i)), (2, .ref a_m), (1, .ref a_x), (0, .ref b)]) (hgo : lL_go p l e s m below meth c b L xs D ci sa a_x a_m ls 2146) : lL_go p l e s m below meth c b L xs D ci sa a_x a_m ls 1890 := by
  obtain ⟨hx, hb, hml, hown, hts, hX, hbl, hK, hZ, hret, hlocks, hL⟩ := C0
  intro WX WM t n s0 sv kv H locs cells slots hXI hMI hP hD hS hc hs
  have hA : ∀ q : Nat, s.heap.size ≤ q → (fun q : Nat => s.heap.size ≤ q) q := fun _ h => h
  have hbA : ¬ (fun q : Nat => s.heap.size ≤ q) b := Nat.not_le.mpr hbl
  have hn := hXI.n
  have hok := hXI.ok
  refine lv_aload_n (pc := 1890) hx hb dL_law_1890 rfl (lv_at hl 2 rfl) ?_
  refine lv_aload_n (pc := 1891) hx hb dL_law_1891 rfl (lv_at hl 3 rfl) ?_
  refine lv_iload_n (pc := 1892) hx hb dL_law_1892 rfl (lv_at hl 0 rfl) ?_
  refine lv_iconst (pc := 1893) (v := nI 1) hx hb dL_law_1893 (by decide) ?_
  refine lv_iadd (pc := 1894) hx hb dL_law_1894 ?_
  refine va_sld (pc := 1895) hx hb hX hbl hbA hS (l_in hi (show 1 < 8 by decide) hL) dL_law_1895 ?_
  refine lv_aload_n (pc := 1896) hx hb dL_law_1896 rfl (lv_at hl 3 rfl) ?_
  refine lv_iload_n (pc := 1897) hx hb dL_law_1897 rfl (lv_at hl 0 rfl) ?_
  refine lv_iconst (pc := 1898) (v := nI 2) hx hb dL_law_1898 (by decide) ?_
  refine lv_iadd (pc := 1899) hx hb dL_law_1899 ?_
  refine va_sld (pc := 1900) hx hb hX hbl hbA hS (l_in hi (show 2 < 8 by decide) hL) dL_law_1900 ?_
  obtain ⟨r, hM1⟩ := l_X_oldest l D ci (fun q : Nat => s.heap.size ≤ q) sa WM hXI (xs (nI i + nI 1).toNatClampNeg) (xs (nI i + nI 2).toNatClampNeg)
  obtain ⟨fs, hh⟩ := hXI.hd WM
  refine q_call (pc := 1901) (va_runV (As := [.int (xs (nI i + nI 1).toNatClampNeg), .int (xs (nI i + nI 2).toNatClampNeg)]) (rest := []) ⟨hx, hb, hml, hown, hts⟩ hM1 (cwV 2 hts gL_law_X10_oldest rfl rfl rfl (by decide +kernel) ⟨Nat.le_of_ble_eq_true rfl, Nat.le_of_ble_eq_true rfl⟩) (q_preV (n1 := 0) (is1 := []) hK hA hZ hP hD hS rfl ⟨rfl, rfl, rfl⟩ 0 hh rfl) rfl rfl hl.1 rfl (lv_room (Nat.le_of_ble_eq_true rfl)) dL_law_1901 (l_rm hn.2 hc hs (Nat.zero_le _) (Nat.zero_le _))) hS (fun t2 locs _ hB hS => ?_)
  obtain ⟨WX, hXI, hP, hD⟩ := hB
  refine lv_pop (pc := 1904) hx hb dL_law_1904 rfl ?_
  have hP := l_swP hP
  have hD := l_swD hD
  refine lv_aload_n (pc := 1905) hx hb dL_law_1905 rfl (lv_at hl 1 rfl) ?_
  refine lv_aload_n (pc := 1906) hx hb dL_law_1906 rfl (lv_at hl 3 rfl) ?_
  refine lv_iload_n (pc := 1907) hx hb dL_law_1907 rfl (lv_at hl 0 rfl) ?_
  refine lv_iconst (pc := 1908) (v := nI 1) hx hb dL_law_1908 (by decide) ?_
  refine lv_iadd (pc := 1909) hx hb dL_law_1909 ?_
  refine va_sld (pc := 1910) hx hb hX hbl hbA hS (l_in hi (show 1 < 8 by decide) hL) dL_law_1910 ?_
  refine lv_aload_n (pc := 1911) hx hb dL_law_1911 rfl (lv_at hl 3 rfl) ?_
  refine lv_iload_n (pc := 1912) hx hb dL_law_1912 rfl (lv_at hl 0 rfl) ?_
  refine lv_iconst (pc := 1913) (v := nI 2) hx hb dL_law_1913 (by decide) ?_
  refine lv_iadd (pc := 1914) hx hb dL_law_1914 ?_
  refine va_sld (pc := 1915) hx hb hX hbl hbA hS (l_in hi (show 2 < 8 by decide) hL) dL_law_1915 ?_
  obtain ⟨r2, hM2⟩ := l_M_oldest l D ci (fun q : Nat => s.heap.size ≤ q) sa WX hMI (xs (nI i + nI 1).toNatClampNeg) (xs (nI i + nI 2).toNatClampNeg)
  obtain ⟨fs, hh⟩ := hMI.hd WX
  refine q_call (pc := 1916) (va_runV (As := [.int (xs (nI i + nI 1).toNatClampNeg), .int (xs (nI i + nI 2).toNatClampNeg)]) (rest := []) ⟨hx, hb, hml, hown, hts⟩ hM2 (cwV 2 hts gL_law_X11_oldest rfl rfl rfl (by decide +kernel) ⟨Nat.le_of_ble_eq_true rfl, Nat.le_of_ble_eq_true rfl⟩) (q_preV (n1 := 0) (is1 := []) hK hA hZ hP hD hS rfl ⟨rfl, rfl, rfl⟩ 0 hh rfl) rfl rfl hl.1 rfl (lv_room (Nat.le_of_ble_eq_true rfl)) dL_law_1916 (l_rm hn.2 hc hs (Nat.zero_le _) (Nat.zero_le _))) hS (fun t2 locs _ hB hS => ?_)
  obtain ⟨WM, hMI, hP, hD⟩ := hB
  have hP := l_swP hP
  have hD := l_swD hD
  refine lv_pop (pc := 1919) hx hb dL_law_1919 rfl ?_
  refine lv_goto (pc := 1920) (tgt := 2146) hx hb dL_law_1920 rfl ?_
  exact hgo WX WM _ _ _ _ _ _ _ _ _ hXI hMI hP hD hS hc hs
theorem law_37 (p : Program) (l : Launch) (e : Env) (s : State) (m : MethodId) (below : List Frame) (meth : Method) (c : Code) (b L : Nat) (xs : Nat → Int32) (D : va_G) (ci : Nat → ClassId) (sa : Nat → Nat) {a_x a_m i : Nat} {ls : Array Slot} (C0 : lL_C p l e s m below meth c b L xs D ci sa) (hi : i + 8 ≤ L) (hl : lv_has ls 4 [(3, .int (nI i)), (2, .ref a_m), (1, .ref a_x), (0, .ref b)]) (hgo : lL_go p l e s m below meth c b L xs D ci sa a_x a_m ls 2146) : lL_go p l e s m below meth c b L xs D ci sa a_x a_m ls 1923 := by
  obtain ⟨hx, hb, hml, hown, hts, hX, hbl, hK, hZ, hret, hlocks, hL⟩ := C0
  intro WX WM t n s0 sv kv H locs cells slots hXI hMI hP hD hS hc hs
  have hA : ∀ q : Nat, s.heap.size ≤ q → (fun q : Nat => s.heap.size ≤ q) q := fun _ h => h
  have hbA : ¬ (fun q : Nat => s.heap.size ≤ q) b := Nat.not_le.mpr hbl
  have hn := hXI.n
  have hok := hXI.ok
  refine lv_aload_n (pc := 1923) hx hb dL_law_1923 rfl (lv_at hl 2 rfl) ?_
  obtain ⟨r, s2, hT, hM1⟩ := l_X_tidy l D ci (fun q : Nat => s.heap.size ≤ q) sa WM hXI 
  obtain ⟨fs, hh⟩ := hXI.hd WM
  refine q_call (pc := 1924) (va_runV (As := []) (rest := []) ⟨hx, hb, hml, hown, hts⟩ hM1 (cwV 0 hts gL_law_X10_tidy rfl rfl rfl (by decide +kernel) ⟨Nat.le_of_ble_eq_true rfl, Nat.le_of_ble_eq_true rfl⟩) (q_preV (n1 := 0) (is1 := []) hK hA hZ hP hD hS rfl ⟨rfl, rfl, rfl⟩ 0 hh rfl) rfl rfl hl.1 rfl (lv_room (Nat.le_of_ble_eq_true rfl)) dL_law_1924 (l_rm hn.2 hc hs (Nat.zero_le _) (Nat.zero_le _))) hS (fun t2 locs _ hB hS => ?_)
  obtain ⟨WX, hXI, hP, hD⟩ := hB
  have hP := l_swP hP
  have hD := l_swD hD
  refine lv_aload_n (pc := 1927) hx hb dL_law_1927 rfl (lv_at hl 1 rfl) ?_
  obtain ⟨r2, s3, hT2, hM2⟩ := l_M_tidy l D ci (fun q : Nat => s.heap.size ≤ q) sa WX hMI 
  obtain ⟨fs, hh⟩ := hMI.hd WX
  refine q_call (pc := 1928) (va_runV (As := []) (rest := [.int r]) ⟨hx, hb, hml, hown, hts⟩ hM2 (cwV 0 hts gL_law_X11_tidy rfl rfl rfl (by decide +kernel) ⟨Nat.le_of_ble_eq_true rfl, Nat.le_of_ble_eq_true rfl⟩) (q_preV (n1 := 0) (is1 := []) hK hA hZ hP hD hS rfl ⟨rfl, rfl, rfl⟩ 0 hh rfl) rfl rfl hl.1 rfl (lv_room (Nat.le_of_ble_eq_true rfl)) dL_law_1928 (l_rm hn.2 hc hs (Nat.zero_le _) (Nat.zero_le _))) hS (fun t2 locs _ hB hS => ?_)
  obtain ⟨WM, hMI, hP, hD⟩ := hB
  obtain ⟨hrr, e23⟩ := l_ttidy_one hok hT hT2
  rw [← e23] at hMI
  have hP := l_swP hP
  have hD := l_swD hD
  refine lv_icmp_eq (pc := 1931) (tgt := 2146) hx hb dL_law_1931 rfl (fun _ => ?_) (fun hne => absurd hrr hne)
  exact hgo WX WM _ _ _ _ _ _ _ _ _ hXI hMI hP hD hS hc hs
theorem law_38 (p : Program) (l : Launch) (e : Env) (s : State) (m : MethodId) (below : List Frame) (meth : Method) (c : Code) (b L : Nat) (xs : Nat → Int32) (D : va_G) (ci : Nat → ClassId) (sa : Nat → Nat) {a_x a_m i : Nat} {ls : Array Slot} (C0 : lL_C p l e s m below meth c b L xs D ci sa) (hi : i + 8 ≤ L) (hl : lv_has ls 4 [(3, .int (nI i)), (2, .ref a_m), (1, .ref a_x), (0, .ref b)]) (hgo : lL_go p l e s m below meth c b L xs D ci sa a_x a_m ls 2146) : lL_go p l e s m below meth c b L xs D ci sa a_x a_m ls 1936 := by
  obtain ⟨hx, hb, hml, hown, hts, hX, hbl, hK, hZ, hret, hlocks, hL⟩ := C0
  intro WX WM t n s0 sv kv H locs cells slots hXI hMI hP hD hS hc hs
  have hA : ∀ q : Nat, s.heap.size ≤ q → (fun q : Nat => s.heap.size ≤ q) q := fun _ h => h
  have hbA : ¬ (fun q : Nat => s.heap.size ≤ q) b := Nat.not_le.mpr hbl
  have hn := hXI.n
  have hok := hXI.ok
  refine lv_aload_n (pc := 1936) hx hb dL_law_1936 rfl (lv_at hl 2 rfl) ?_
  refine lv_aload_n (pc := 1937) hx hb dL_law_1937 rfl (lv_at hl 3 rfl) ?_
  refine lv_iload_n (pc := 1938) hx hb dL_law_1938 rfl (lv_at hl 0 rfl) ?_
  refine lv_iconst (pc := 1939) (v := nI 1) hx hb dL_law_1939 (by decide) ?_
  refine lv_iadd (pc := 1940) hx hb dL_law_1940 ?_
  refine va_sld (pc := 1941) hx hb hX hbl hbA hS (l_in hi (show 1 < 8 by decide) hL) dL_law_1941 ?_
  refine lv_aload_n (pc := 1942) hx hb dL_law_1942 rfl (lv_at hl 3 rfl) ?_
  refine lv_iload_n (pc := 1943) hx hb dL_law_1943 rfl (lv_at hl 0 rfl) ?_
  refine lv_iconst (pc := 1944) (v := nI 2) hx hb dL_law_1944 (by decide) ?_
  refine lv_iadd (pc := 1945) hx hb dL_law_1945 ?_
  refine va_sld (pc := 1946) hx hb hX hbl hbA hS (l_in hi (show 2 < 8 by decide) hL) dL_law_1946 ?_
  refine lv_aload_n (pc := 1947) hx hb dL_law_1947 rfl (lv_at hl 3 rfl) ?_
  refine lv_iload_n (pc := 1948) hx hb dL_law_1948 rfl (lv_at hl 0 rfl) ?_
  refine lv_iconst (pc := 1949) (v := nI 3) hx hb dL_law_1949 (by decide) ?_
  refine lv_iadd (pc := 1950) hx hb dL_law_1950 ?_
  refine va_sld (pc := 1951) hx hb hX hbl hbA hS (l_in hi (show 3 < 8 by decide) hL) dL_law_1951 ?_
  refine lv_aload_n (pc := 1952) hx hb dL_law_1952 rfl (lv_at hl 3 rfl) ?_
  refine lv_iload_n (pc := 1953) hx hb dL_law_1953 rfl (lv_at hl 0 rfl) ?_
  refine lv_iconst (pc := 1954) (v := nI 4) hx hb dL_law_1954 (by decide) ?_
  refine lv_iadd (pc := 1955) hx hb dL_law_1955 ?_
  refine va_sld (pc := 1956) hx hb hX hbl hbA hS (l_in hi (show 4 < 8 by decide) hL) dL_law_1956 ?_
  refine lv_aload_n (pc := 1957) hx hb dL_law_1957 rfl (lv_at hl 3 rfl) ?_
  refine lv_iload_n (pc := 1958) hx hb dL_law_1958 rfl (lv_at hl 0 rfl) ?_
  refine lv_iconst (pc := 1959) (v := nI 5) hx hb dL_law_1959 (by decide) ?_
  refine lv_iadd (pc := 1960) hx hb dL_law_1960 ?_
  refine va_sld (pc := 1961) hx hb hX hbl hbA hS (l_in hi (show 5 < 8 by decide) hL) dL_law_1961 ?_
  refine lv_aload_n (pc := 1962) hx hb dL_law_1962 rfl (lv_at hl 3 rfl) ?_
  refine lv_iload_n (pc := 1963) hx hb dL_law_1963 rfl (lv_at hl 0 rfl) ?_
  refine lv_bipush (pc := 1964) (v := nI 6) hx hb dL_law_1964 (by decide) ?_
  refine lv_iadd (pc := 1966) hx hb dL_law_1966 ?_
  refine va_sld (pc := 1967) hx hb hX hbl hbA hS (l_in hi (show 6 < 8 by decide) hL) dL_law_1967 ?_
  obtain ⟨r, hM1⟩ := l_X_changes l D ci (fun q : Nat => s.heap.size ≤ q) sa WM hXI (xs (nI i + nI 1).toNatClampNeg) (xs (nI i + nI 2).toNatClampNeg) (xs (nI i + nI 3).toNatClampNeg) (xs (nI i + nI 4).toNatClampNeg) (xs (nI i + nI 5).toNatClampNeg) (xs (nI i + nI 6).toNatClampNeg)
  obtain ⟨fs, hh⟩ := hXI.hd WM
  refine q_call (pc := 1968) (va_runV (As := [.int (xs (nI i + nI 1).toNatClampNeg), .int (xs (nI i + nI 2).toNatClampNeg), .int (xs (nI i + nI 3).toNatClampNeg), .int (xs (nI i + nI 4).toNatClampNeg), .int (xs (nI i + nI 5).toNatClampNeg), .int (xs (nI i + nI 6).toNatClampNeg)]) (rest := []) ⟨hx, hb, hml, hown, hts⟩ hM1 (cwV 6 hts gL_law_X10_changes rfl rfl rfl (by decide +kernel) ⟨Nat.le_of_ble_eq_true rfl, Nat.le_of_ble_eq_true rfl⟩) (q_preV (n1 := 0) (is1 := []) hK hA hZ hP hD hS rfl ⟨rfl, rfl, rfl⟩ 0 hh rfl) rfl rfl hl.1 rfl (lv_room (Nat.le_of_ble_eq_true rfl)) dL_law_1968 (l_rm hn.2 hc hs (Nat.zero_le _) (Nat.zero_le _))) hS (fun t2 locs _ hB hS => ?_)
  obtain ⟨WX, hXI, hP, hD⟩ := hB
  refine lv_pop (pc := 1971) hx hb dL_law_1971 rfl ?_
  have hP := l_swP hP
  have hD := l_swD hD
  refine lv_aload_n (pc := 1972) hx hb dL_law_1972 rfl (lv_at hl 1 rfl) ?_
  refine lv_aload_n (pc := 1973) hx hb dL_law_1973 rfl (lv_at hl 3 rfl) ?_
  refine lv_iload_n (pc := 1974) hx hb dL_law_1974 rfl (lv_at hl 0 rfl) ?_
  refine lv_iconst (pc := 1975) (v := nI 1) hx hb dL_law_1975 (by decide) ?_
  refine lv_iadd (pc := 1976) hx hb dL_law_1976 ?_
  refine va_sld (pc := 1977) hx hb hX hbl hbA hS (l_in hi (show 1 < 8 by decide) hL) dL_law_1977 ?_
  refine lv_aload_n (pc := 1978) hx hb dL_law_1978 rfl (lv_at hl 3 rfl) ?_
  refine lv_iload_n (pc := 1979) hx hb dL_law_1979 rfl (lv_at hl 0 rfl) ?_
  refine lv_iconst (pc := 1980) (v := nI 2) hx hb dL_law_1980 (by decide) ?_
  refine lv_iadd (pc := 1981) hx hb dL_law_1981 ?_
  refine va_sld (pc := 1982) hx hb hX hbl hbA hS (l_in hi (show 2 < 8 by decide) hL) dL_law_1982 ?_
  refine lv_aload_n (pc := 1983) hx hb dL_law_1983 rfl (lv_at hl 3 rfl) ?_
  refine lv_iload_n (pc := 1984) hx hb dL_law_1984 rfl (lv_at hl 0 rfl) ?_
  refine lv_iconst (pc := 1985) (v := nI 3) hx hb dL_law_1985 (by decide) ?_
  refine lv_iadd (pc := 1986) hx hb dL_law_1986 ?_
  refine va_sld (pc := 1987) hx hb hX hbl hbA hS (l_in hi (show 3 < 8 by decide) hL) dL_law_1987 ?_
  refine lv_aload_n (pc := 1988) hx hb dL_law_1988 rfl (lv_at hl 3 rfl) ?_
  refine lv_iload_n (pc := 1989) hx hb dL_law_1989 rfl (lv_at hl 0 rfl) ?_
  refine lv_iconst (pc := 1990) (v := nI 4) hx hb dL_law_1990 (by decide) ?_
  refine lv_iadd (pc := 1991) hx hb dL_law_1991 ?_
  refine va_sld (pc := 1992) hx hb hX hbl hbA hS (l_in hi (show 4 < 8 by decide) hL) dL_law_1992 ?_
  refine lv_aload_n (pc := 1993) hx hb dL_law_1993 rfl (lv_at hl 3 rfl) ?_
  refine lv_iload_n (pc := 1994) hx hb dL_law_1994 rfl (lv_at hl 0 rfl) ?_
  refine lv_iconst (pc := 1995) (v := nI 5) hx hb dL_law_1995 (by decide) ?_
  refine lv_iadd (pc := 1996) hx hb dL_law_1996 ?_
  refine va_sld (pc := 1997) hx hb hX hbl hbA hS (l_in hi (show 5 < 8 by decide) hL) dL_law_1997 ?_
  refine lv_aload_n (pc := 1998) hx hb dL_law_1998 rfl (lv_at hl 3 rfl) ?_
  refine lv_iload_n (pc := 1999) hx hb dL_law_1999 rfl (lv_at hl 0 rfl) ?_
  refine lv_bipush (pc := 2000) (v := nI 6) hx hb dL_law_2000 (by decide) ?_
  refine lv_iadd (pc := 2002) hx hb dL_law_2002 ?_
  refine va_sld (pc := 2003) hx hb hX hbl hbA hS (l_in hi (show 6 < 8 by decide) hL) dL_law_2003 ?_
  obtain ⟨r2, hM2⟩ := l_M_changes l D ci (fun q : Nat => s.heap.size ≤ q) sa WX hMI (xs (nI i + nI 1).toNatClampNeg) (xs (nI i + nI 2).toNatClampNeg) (xs (nI i + nI 3).toNatClampNeg) (xs (nI i + nI 4).toNatClampNeg) (xs (nI i + nI 5).toNatClampNeg) (xs (nI i + nI 6).toNatClampNeg)
  obtain ⟨fs, hh⟩ := hMI.hd WX
  refine q_call (pc := 2004) (va_runV (As := [.int (xs (nI i + nI 1).toNatClampNeg), .int (xs (nI i + nI 2).toNatClampNeg), .int (xs (nI i + nI 3).toNatClampNeg), .int (xs (nI i + nI 4).toNatClampNeg), .int (xs (nI i + nI 5).toNatClampNeg), .int (xs (nI i + nI 6).toNatClampNeg)]) (rest := []) ⟨hx, hb, hml, hown, hts⟩ hM2 (cwV 6 hts gL_law_X11_changes rfl rfl rfl (by decide +kernel) ⟨Nat.le_of_ble_eq_true rfl, Nat.le_of_ble_eq_true rfl⟩) (q_preV (n1 := 0) (is1 := []) hK hA hZ hP hD hS rfl ⟨rfl, rfl, rfl⟩ 0 hh rfl) rfl rfl hl.1 rfl (lv_room (Nat.le_of_ble_eq_true rfl)) dL_law_2004 (l_rm hn.2 hc hs (Nat.zero_le _) (Nat.zero_le _))) hS (fun t2 locs _ hB hS => ?_)
  obtain ⟨WM, hMI, hP, hD⟩ := hB
  have hP := l_swP hP
  have hD := l_swD hD
  refine lv_pop (pc := 2007) hx hb dL_law_2007 rfl ?_
  refine lv_goto (pc := 2008) (tgt := 2146) hx hb dL_law_2008 rfl ?_
  exact hgo WX WM _ _ _ _ _ _ _ _ _ hXI hMI hP hD hS hc hs
theorem law_39 (p : Program) (l : Launch) (e : Env) (s : State) (m : MethodId) (below : List Frame) (meth : Method) (c : Code) (b L : Nat) (xs : Nat → Int32) (D : va_G) (ci : Nat → ClassId) (sa : Nat → Nat) {a_x a_m i : Nat} {ls : Array Slot} (C0 : lL_C p l e s m below meth c b L xs D ci sa) (hi : i + 8 ≤ L) (hl : lv_has ls 4 [(3, .int (nI i)), (2, .ref a_m), (1, .ref a_x), (0, .ref b)]) (hgo : lL_go p l e s m below meth c b L xs D ci sa a_x a_m ls 2146) : lL_go p l e s m below meth c b L xs D ci sa a_x a_m ls 2011 := by
  obtain ⟨hx, hb, hml, hown, hts, hX, hbl, hK, hZ, hret, hlocks, hL⟩ := C0
  intro WX WM t n s0 sv kv H locs cells slots hXI hMI hP hD hS hc hs
  have hA : ∀ q : Nat, s.heap.size ≤ q → (fun q : Nat => s.heap.size ≤ q) q := fun _ h => h
  have hbA : ¬ (fun q : Nat => s.heap.size ≤ q) b := Nat.not_le.mpr hbl
  have hn := hXI.n
  have hok := hXI.ok
  refine lv_aload_n (pc := 2011) hx hb dL_law_2011 rfl (lv_at hl 2 rfl) ?_
  refine lv_aload_n (pc := 2012) hx hb dL_law_2012 rfl (lv_at hl 3 rfl) ?_
  refine lv_iload_n (pc := 2013) hx hb dL_law_2013 rfl (lv_at hl 0 rfl) ?_
  refine lv_iconst (pc := 2014) (v := nI 1) hx hb dL_law_2014 (by decide) ?_
  refine lv_iadd (pc := 2015) hx hb dL_law_2015 ?_
  refine va_sld (pc := 2016) hx hb hX hbl hbA hS (l_in hi (show 1 < 8 by decide) hL) dL_law_2016 ?_
  refine lv_aload_n (pc := 2017) hx hb dL_law_2017 rfl (lv_at hl 3 rfl) ?_
  refine lv_iload_n (pc := 2018) hx hb dL_law_2018 rfl (lv_at hl 0 rfl) ?_
  refine lv_iconst (pc := 2019) (v := nI 2) hx hb dL_law_2019 (by decide) ?_
  refine lv_iadd (pc := 2020) hx hb dL_law_2020 ?_
  refine va_sld (pc := 2021) hx hb hX hbl hbA hS (l_in hi (show 2 < 8 by decide) hL) dL_law_2021 ?_
  refine lv_aload_n (pc := 2022) hx hb dL_law_2022 rfl (lv_at hl 3 rfl) ?_
  refine lv_iload_n (pc := 2023) hx hb dL_law_2023 rfl (lv_at hl 0 rfl) ?_
  refine lv_iconst (pc := 2024) (v := nI 3) hx hb dL_law_2024 (by decide) ?_
  refine lv_iadd (pc := 2025) hx hb dL_law_2025 ?_
  refine va_sld (pc := 2026) hx hb hX hbl hbA hS (l_in hi (show 3 < 8 by decide) hL) dL_law_2026 ?_
  obtain ⟨r, hM1⟩ := l_X_drawn l D ci (fun q : Nat => s.heap.size ≤ q) sa WM hXI (xs (nI i + nI 1).toNatClampNeg) (xs (nI i + nI 2).toNatClampNeg) (xs (nI i + nI 3).toNatClampNeg)
  obtain ⟨fs, hh⟩ := hXI.hd WM
  refine q_call (pc := 2027) (va_runV (As := [.int (xs (nI i + nI 1).toNatClampNeg), .int (xs (nI i + nI 2).toNatClampNeg), .int (xs (nI i + nI 3).toNatClampNeg)]) (rest := []) ⟨hx, hb, hml, hown, hts⟩ hM1 (cwV 3 hts gL_law_X10_drawn rfl rfl rfl (by decide +kernel) ⟨Nat.le_of_ble_eq_true rfl, Nat.le_of_ble_eq_true rfl⟩) (q_preV (n1 := 0) (is1 := []) hK hA hZ hP hD hS rfl ⟨rfl, rfl, rfl⟩ 0 hh rfl) rfl rfl hl.1 rfl (lv_room (Nat.le_of_ble_eq_true rfl)) dL_law_2027 (l_rm hn.2 hc hs (Nat.zero_le _) (Nat.zero_le _))) hS (fun t2 locs _ hB hS => ?_)
  obtain ⟨WX, hXI, hP, hD⟩ := hB
  refine lv_pop (pc := 2030) hx hb dL_law_2030 rfl ?_
  have hP := l_swP hP
  have hD := l_swD hD
  refine lv_aload_n (pc := 2031) hx hb dL_law_2031 rfl (lv_at hl 1 rfl) ?_
  refine lv_aload_n (pc := 2032) hx hb dL_law_2032 rfl (lv_at hl 3 rfl) ?_
  refine lv_iload_n (pc := 2033) hx hb dL_law_2033 rfl (lv_at hl 0 rfl) ?_
  refine lv_iconst (pc := 2034) (v := nI 1) hx hb dL_law_2034 (by decide) ?_
  refine lv_iadd (pc := 2035) hx hb dL_law_2035 ?_
  refine va_sld (pc := 2036) hx hb hX hbl hbA hS (l_in hi (show 1 < 8 by decide) hL) dL_law_2036 ?_
  refine lv_aload_n (pc := 2037) hx hb dL_law_2037 rfl (lv_at hl 3 rfl) ?_
  refine lv_iload_n (pc := 2038) hx hb dL_law_2038 rfl (lv_at hl 0 rfl) ?_
  refine lv_iconst (pc := 2039) (v := nI 2) hx hb dL_law_2039 (by decide) ?_
  refine lv_iadd (pc := 2040) hx hb dL_law_2040 ?_
  refine va_sld (pc := 2041) hx hb hX hbl hbA hS (l_in hi (show 2 < 8 by decide) hL) dL_law_2041 ?_
  refine lv_aload_n (pc := 2042) hx hb dL_law_2042 rfl (lv_at hl 3 rfl) ?_
  refine lv_iload_n (pc := 2043) hx hb dL_law_2043 rfl (lv_at hl 0 rfl) ?_
  refine lv_iconst (pc := 2044) (v := nI 3) hx hb dL_law_2044 (by decide) ?_
  refine lv_iadd (pc := 2045) hx hb dL_law_2045 ?_
  refine va_sld (pc := 2046) hx hb hX hbl hbA hS (l_in hi (show 3 < 8 by decide) hL) dL_law_2046 ?_
  obtain ⟨r2, hM2⟩ := l_M_drawn l D ci (fun q : Nat => s.heap.size ≤ q) sa WX hMI (xs (nI i + nI 1).toNatClampNeg) (xs (nI i + nI 2).toNatClampNeg) (xs (nI i + nI 3).toNatClampNeg)
  obtain ⟨fs, hh⟩ := hMI.hd WX
  refine q_call (pc := 2047) (va_runV (As := [.int (xs (nI i + nI 1).toNatClampNeg), .int (xs (nI i + nI 2).toNatClampNeg), .int (xs (nI i + nI 3).toNatClampNeg)]) (rest := []) ⟨hx, hb, hml, hown, hts⟩ hM2 (cwV 3 hts gL_law_X11_drawn rfl rfl rfl (by decide +kernel) ⟨Nat.le_of_ble_eq_true rfl, Nat.le_of_ble_eq_true rfl⟩) (q_preV (n1 := 0) (is1 := []) hK hA hZ hP hD hS rfl ⟨rfl, rfl, rfl⟩ 0 hh rfl) rfl rfl hl.1 rfl (lv_room (Nat.le_of_ble_eq_true rfl)) dL_law_2047 (l_rm hn.2 hc hs (Nat.zero_le _) (Nat.zero_le _))) hS (fun t2 locs _ hB hS => ?_)
  obtain ⟨WM, hMI, hP, hD⟩ := hB
  have hP := l_swP hP
  have hD := l_swD hD
  refine lv_pop (pc := 2050) hx hb dL_law_2050 rfl ?_
  refine lv_goto (pc := 2051) (tgt := 2146) hx hb dL_law_2051 rfl ?_
  exact hgo WX WM _ _ _ _ _ _ _ _ _ hXI hMI hP hD hS hc hs
theorem law_40 (p : Program) (l : Launch) (e : Env) (s : State) (m : MethodId) (below : List Frame) (meth : Method) (c : Code) (b L : Nat) (xs : Nat → Int32) (D : va_G) (ci : Nat → ClassId) (sa : Nat → Nat) {a_x a_m i : Nat} {ls : Array Slot} (C0 : lL_C p l e s m below meth c b L xs D ci sa) (hi : i + 8 ≤ L) (hl : lv_has ls 4 [(3, .int (nI i)), (2, .ref a_m), (1, .ref a_x), (0, .ref b)]) (hgo : lL_go p l e s m below meth c b L xs D ci sa a_x a_m ls 2146) : lL_go p l e s m below meth c b L xs D ci sa a_x a_m ls 2054 := by
  obtain ⟨hx, hb, hml, hown, hts, hX, hbl, hK, hZ, hret, hlocks, hL⟩ := C0
  intro WX WM t n s0 sv kv H locs cells slots hXI hMI hP hD hS hc hs
  have hA : ∀ q : Nat, s.heap.size ≤ q → (fun q : Nat => s.heap.size ≤ q) q := fun _ h => h
  have hbA : ¬ (fun q : Nat => s.heap.size ≤ q) b := Nat.not_le.mpr hbl
  have hn := hXI.n
  have hok := hXI.ok
  refine lv_aload_n (pc := 2054) hx hb dL_law_2054 rfl (lv_at hl 2 rfl) ?_
  refine lv_aload_n (pc := 2055) hx hb dL_law_2055 rfl (lv_at hl 3 rfl) ?_
  refine lv_iload_n (pc := 2056) hx hb dL_law_2056 rfl (lv_at hl 0 rfl) ?_
  refine lv_iconst (pc := 2057) (v := nI 1) hx hb dL_law_2057 (by decide) ?_
  refine lv_iadd (pc := 2058) hx hb dL_law_2058 ?_
  refine va_sld (pc := 2059) hx hb hX hbl hbA hS (l_in hi (show 1 < 8 by decide) hL) dL_law_2059 ?_
  refine lv_aload_n (pc := 2060) hx hb dL_law_2060 rfl (lv_at hl 3 rfl) ?_
  refine lv_iload_n (pc := 2061) hx hb dL_law_2061 rfl (lv_at hl 0 rfl) ?_
  refine lv_iconst (pc := 2062) (v := nI 2) hx hb dL_law_2062 (by decide) ?_
  refine lv_iadd (pc := 2063) hx hb dL_law_2063 ?_
  refine va_sld (pc := 2064) hx hb hX hbl hbA hS (l_in hi (show 2 < 8 by decide) hL) dL_law_2064 ?_
  refine lv_aload_n (pc := 2065) hx hb dL_law_2065 rfl (lv_at hl 3 rfl) ?_
  refine lv_iload_n (pc := 2066) hx hb dL_law_2066 rfl (lv_at hl 0 rfl) ?_
  refine lv_iconst (pc := 2067) (v := nI 3) hx hb dL_law_2067 (by decide) ?_
  refine lv_iadd (pc := 2068) hx hb dL_law_2068 ?_
  refine va_sld (pc := 2069) hx hb hX hbl hbA hS (l_in hi (show 3 < 8 by decide) hL) dL_law_2069 ?_
  obtain ⟨r, hM1⟩ := l_X_bands l D ci (fun q : Nat => s.heap.size ≤ q) sa WM hXI (xs (nI i + nI 1).toNatClampNeg) (xs (nI i + nI 2).toNatClampNeg) (xs (nI i + nI 3).toNatClampNeg)
  obtain ⟨fs, hh⟩ := hXI.hd WM
  refine q_call (pc := 2070) (va_runV (As := [.int (xs (nI i + nI 1).toNatClampNeg), .int (xs (nI i + nI 2).toNatClampNeg), .int (xs (nI i + nI 3).toNatClampNeg)]) (rest := []) ⟨hx, hb, hml, hown, hts⟩ hM1 (cwV 3 hts gL_law_X10_bands rfl rfl rfl (by decide +kernel) ⟨Nat.le_of_ble_eq_true rfl, Nat.le_of_ble_eq_true rfl⟩) (q_preV (n1 := 0) (is1 := []) hK hA hZ hP hD hS rfl ⟨rfl, rfl, rfl⟩ 0 hh rfl) rfl rfl hl.1 rfl (lv_room (Nat.le_of_ble_eq_true rfl)) dL_law_2070 (l_rm hn.2 hc hs (Nat.zero_le _) (Nat.zero_le _))) hS (fun t2 locs _ hB hS => ?_)
  obtain ⟨WX, hXI, hP, hD⟩ := hB
  refine lv_pop (pc := 2073) hx hb dL_law_2073 rfl ?_
  have hP := l_swP hP
  have hD := l_swD hD
  refine lv_aload_n (pc := 2074) hx hb dL_law_2074 rfl (lv_at hl 1 rfl) ?_
  refine lv_aload_n (pc := 2075) hx hb dL_law_2075 rfl (lv_at hl 3 rfl) ?_
  refine lv_iload_n (pc := 2076) hx hb dL_law_2076 rfl (lv_at hl 0 rfl) ?_
  refine lv_iconst (pc := 2077) (v := nI 1) hx hb dL_law_2077 (by decide) ?_
  refine lv_iadd (pc := 2078) hx hb dL_law_2078 ?_
  refine va_sld (pc := 2079) hx hb hX hbl hbA hS (l_in hi (show 1 < 8 by decide) hL) dL_law_2079 ?_
  refine lv_aload_n (pc := 2080) hx hb dL_law_2080 rfl (lv_at hl 3 rfl) ?_
  refine lv_iload_n (pc := 2081) hx hb dL_law_2081 rfl (lv_at hl 0 rfl) ?_
  refine lv_iconst (pc := 2082) (v := nI 2) hx hb dL_law_2082 (by decide) ?_
  refine lv_iadd (pc := 2083) hx hb dL_law_2083 ?_
  refine va_sld (pc := 2084) hx hb hX hbl hbA hS (l_in hi (show 2 < 8 by decide) hL) dL_law_2084 ?_
  refine lv_aload_n (pc := 2085) hx hb dL_law_2085 rfl (lv_at hl 3 rfl) ?_
  refine lv_iload_n (pc := 2086) hx hb dL_law_2086 rfl (lv_at hl 0 rfl) ?_
  refine lv_iconst (pc := 2087) (v := nI 3) hx hb dL_law_2087 (by decide) ?_
  refine lv_iadd (pc := 2088) hx hb dL_law_2088 ?_
  refine va_sld (pc := 2089) hx hb hX hbl hbA hS (l_in hi (show 3 < 8 by decide) hL) dL_law_2089 ?_
  obtain ⟨r2, hM2⟩ := l_M_bands l D ci (fun q : Nat => s.heap.size ≤ q) sa WX hMI (xs (nI i + nI 1).toNatClampNeg) (xs (nI i + nI 2).toNatClampNeg) (xs (nI i + nI 3).toNatClampNeg)
  obtain ⟨fs, hh⟩ := hMI.hd WX
  refine q_call (pc := 2090) (va_runV (As := [.int (xs (nI i + nI 1).toNatClampNeg), .int (xs (nI i + nI 2).toNatClampNeg), .int (xs (nI i + nI 3).toNatClampNeg)]) (rest := []) ⟨hx, hb, hml, hown, hts⟩ hM2 (cwV 3 hts gL_law_X11_bands rfl rfl rfl (by decide +kernel) ⟨Nat.le_of_ble_eq_true rfl, Nat.le_of_ble_eq_true rfl⟩) (q_preV (n1 := 0) (is1 := []) hK hA hZ hP hD hS rfl ⟨rfl, rfl, rfl⟩ 0 hh rfl) rfl rfl hl.1 rfl (lv_room (Nat.le_of_ble_eq_true rfl)) dL_law_2090 (l_rm hn.2 hc hs (Nat.zero_le _) (Nat.zero_le _))) hS (fun t2 locs _ hB hS => ?_)
  obtain ⟨WM, hMI, hP, hD⟩ := hB
  have hP := l_swP hP
  have hD := l_swD hD
  refine lv_pop (pc := 2093) hx hb dL_law_2093 rfl ?_
  refine lv_goto (pc := 2094) (tgt := 2146) hx hb dL_law_2094 rfl ?_
  exact hgo WX WM _ _ _ _ _ _ _ _ _ hXI hMI hP hD hS hc hs
theorem law_41 (p : Program) (l : Launch) (e : Env) (s : State) (m : MethodId) (below : List Frame) (meth : Method) (c : Code) (b L : Nat) (xs : Nat → Int32) (D : va_G) (ci : Nat → ClassId) (sa : Nat → Nat) {a_x a_m i : Nat} {ls : Array Slot} (C0 : lL_C p l e s m below meth c b L xs D ci sa) (hi : i + 8 ≤ L) (hl : lv_has ls 4 [(3, .int (nI i)), (2, .ref a_m), (1, .ref a_x), (0, .ref b)]) (hgo : lL_go p l e s m below meth c b L xs D ci sa a_x a_m ls 2146) : lL_go p l e s m below meth c b L xs D ci sa a_x a_m ls 2097 := by
  obtain ⟨hx, hb, hml, hown, hts, hX, hbl, hK, hZ, hret, hlocks, hL⟩ := C0
  intro WX WM t n s0 sv kv H locs cells slots hXI hMI hP hD hS hc hs
  have hA : ∀ q : Nat, s.heap.size ≤ q → (fun q : Nat => s.heap.size ≤ q) q := fun _ h => h
  have hbA : ¬ (fun q : Nat => s.heap.size ≤ q) b := Nat.not_le.mpr hbl
  have hn := hXI.n
  have hok := hXI.ok
  refine lv_aload_n (pc := 2097) hx hb dL_law_2097 rfl (lv_at hl 2 rfl) ?_
  refine lv_aload_n (pc := 2098) hx hb dL_law_2098 rfl (lv_at hl 3 rfl) ?_
  refine lv_iload_n (pc := 2099) hx hb dL_law_2099 rfl (lv_at hl 0 rfl) ?_
  refine lv_iconst (pc := 2100) (v := nI 1) hx hb dL_law_2100 (by decide) ?_
  refine lv_iadd (pc := 2101) hx hb dL_law_2101 ?_
  refine va_sld (pc := 2102) hx hb hX hbl hbA hS (l_in hi (show 1 < 8 by decide) hL) dL_law_2102 ?_
  obtain ⟨r, hM1⟩ := l_X_count l D ci (fun q : Nat => s.heap.size ≤ q) sa WM hXI (xs (nI i + nI 1).toNatClampNeg)
  obtain ⟨fs, hh⟩ := hXI.hd WM
  refine q_call (pc := 2103) (va_runV (As := [.int (xs (nI i + nI 1).toNatClampNeg)]) (rest := []) ⟨hx, hb, hml, hown, hts⟩ hM1 (cwV 1 hts gL_law_X10_count rfl rfl rfl (by decide +kernel) ⟨Nat.le_of_ble_eq_true rfl, Nat.le_of_ble_eq_true rfl⟩) (q_preV (n1 := 0) (is1 := []) hK hA hZ hP hD hS rfl ⟨rfl, rfl, rfl⟩ 0 hh rfl) rfl rfl hl.1 rfl (lv_room (Nat.le_of_ble_eq_true rfl)) dL_law_2103 (l_rm hn.2 hc hs (Nat.zero_le _) (Nat.zero_le _))) hS (fun t2 locs _ hB hS => ?_)
  obtain ⟨WX, hXI, hP, hD⟩ := hB
  refine lv_pop (pc := 2106) hx hb dL_law_2106 rfl ?_
  have hP := l_swP hP
  have hD := l_swD hD
  refine lv_aload_n (pc := 2107) hx hb dL_law_2107 rfl (lv_at hl 1 rfl) ?_
  refine lv_aload_n (pc := 2108) hx hb dL_law_2108 rfl (lv_at hl 3 rfl) ?_
  refine lv_iload_n (pc := 2109) hx hb dL_law_2109 rfl (lv_at hl 0 rfl) ?_
  refine lv_iconst (pc := 2110) (v := nI 1) hx hb dL_law_2110 (by decide) ?_
  refine lv_iadd (pc := 2111) hx hb dL_law_2111 ?_
  refine va_sld (pc := 2112) hx hb hX hbl hbA hS (l_in hi (show 1 < 8 by decide) hL) dL_law_2112 ?_
  obtain ⟨r2, hM2⟩ := l_M_count l D ci (fun q : Nat => s.heap.size ≤ q) sa WX hMI (xs (nI i + nI 1).toNatClampNeg)
  obtain ⟨fs, hh⟩ := hMI.hd WX
  refine q_call (pc := 2113) (va_runV (As := [.int (xs (nI i + nI 1).toNatClampNeg)]) (rest := []) ⟨hx, hb, hml, hown, hts⟩ hM2 (cwV 1 hts gL_law_X11_count rfl rfl rfl (by decide +kernel) ⟨Nat.le_of_ble_eq_true rfl, Nat.le_of_ble_eq_true rfl⟩) (q_preV (n1 := 0) (is1 := []) hK hA hZ hP hD hS rfl ⟨rfl, rfl, rfl⟩ 0 hh rfl) rfl rfl hl.1 rfl (lv_room (Nat.le_of_ble_eq_true rfl)) dL_law_2113 (l_rm hn.2 hc hs (Nat.zero_le _) (Nat.zero_le _))) hS (fun t2 locs _ hB hS => ?_)
  obtain ⟨WM, hMI, hP, hD⟩ := hB
  have hP := l_swP hP
  have hD := l_swD hD
  refine lv_pop (pc := 2116) hx hb dL_law_2116 rfl ?_
  refine lv_goto (pc := 2117) (tgt := 2146) hx hb dL_law_2117 rfl ?_
  exact hgo WX WM _ _ _ _ _ _ _ _ _ hXI hMI hP hD hS hc hs
theorem law_42 (p : Program) (l : Launch) (e : Env) (s : State) (m : MethodId) (below : List Frame) (meth : Method) (c : Code) (b L : Nat) (xs : Nat → Int32) (D : va_G) (ci : Nat → ClassId) (sa : Nat → Nat) {a_x a_m i : Nat} {ls : Array Slot} (C0 : lL_C p l e s m below meth c b L xs D ci sa) (hi : i + 8 ≤ L) (hl : lv_has ls 4 [(3, .int (nI i)), (2, .ref a_m), (1, .ref a_x), (0, .ref b)]) (hgo : lL_go p l e s m below meth c b L xs D ci sa a_x a_m ls 2146) : lL_go p l e s m below meth c b L xs D ci sa a_x a_m ls 2120 := by
  obtain ⟨hx, hb, hml, hown, hts, hX, hbl, hK, hZ, hret, hlocks, hL⟩ := C0
  intro WX WM t n s0 sv kv H locs cells slots hXI hMI hP hD hS hc hs
  have hA : ∀ q : Nat, s.heap.size ≤ q → (fun q : Nat => s.heap.size ≤ q) q := fun _ h => h
  have hbA : ¬ (fun q : Nat => s.heap.size ≤ q) b := Nat.not_le.mpr hbl
  have hn := hXI.n
  have hok := hXI.ok
  refine lv_aload_n (pc := 2120) hx hb dL_law_2120 rfl (lv_at hl 2 rfl) ?_
  obtain ⟨r, hr, hM1⟩ := l_X_keep l D ci (fun q : Nat => s.heap.size ≤ q) sa WM hXI 
  obtain ⟨fs, hh⟩ := hXI.hd WM
  refine q_call (pc := 2121) (va_runV (As := []) (rest := []) ⟨hx, hb, hml, hown, hts⟩ hM1 (cwV 0 hts gL_law_X10_keep rfl rfl rfl (by decide +kernel) ⟨Nat.le_of_ble_eq_true rfl, Nat.le_of_ble_eq_true rfl⟩) (q_preV (n1 := 0) (is1 := []) hK hA hZ hP hD hS rfl ⟨rfl, rfl, rfl⟩ 0 hh rfl) rfl rfl hl.1 rfl (lv_room (Nat.le_of_ble_eq_true rfl)) dL_law_2121 (l_rm hn.2 hc hs (Nat.zero_le _) (Nat.zero_le _))) hS (fun t2 locs _ hB hS => ?_)
  obtain ⟨WX, hXI, hP, hD⟩ := hB
  refine lv_pop (pc := 2124) hx hb dL_law_2124 rfl ?_
  have hP := l_swP hP
  have hD := l_swD hD
  refine lv_aload_n (pc := 2125) hx hb dL_law_2125 rfl (lv_at hl 1 rfl) ?_
  obtain ⟨r2, hr2, hM2⟩ := l_M_keep l D ci (fun q : Nat => s.heap.size ≤ q) sa WX hMI 
  obtain ⟨fs, hh⟩ := hMI.hd WX
  refine q_call (pc := 2126) (va_runV (As := []) (rest := []) ⟨hx, hb, hml, hown, hts⟩ hM2 (cwV 0 hts gL_law_X11_keep rfl rfl rfl (by decide +kernel) ⟨Nat.le_of_ble_eq_true rfl, Nat.le_of_ble_eq_true rfl⟩) (q_preV (n1 := 0) (is1 := []) hK hA hZ hP hD hS rfl ⟨rfl, rfl, rfl⟩ 0 hh rfl) rfl rfl hl.1 rfl (lv_room (Nat.le_of_ble_eq_true rfl)) dL_law_2126 (l_rm hn.2 hc hs (Nat.zero_le _) (Nat.zero_le _))) hS (fun t2 locs _ hB hS => ?_)
  obtain ⟨WM, hMI, hP, hD⟩ := hB
  have hP := l_swP hP
  have hD := l_swD hD
  refine lv_pop (pc := 2129) hx hb dL_law_2129 rfl ?_
  refine lv_goto (pc := 2130) (tgt := 2146) hx hb dL_law_2130 rfl ?_
  exact hgo WX WM _ _ _ _ _ _ _ _ _ hXI hMI hP hD hS hc hs
theorem law_43 (p : Program) (l : Launch) (e : Env) (s : State) (m : MethodId) (below : List Frame) (meth : Method) (c : Code) (b L : Nat) (xs : Nat → Int32) (D : va_G) (ci : Nat → ClassId) (sa : Nat → Nat) {a_x a_m i : Nat} {ls : Array Slot} (C0 : lL_C p l e s m below meth c b L xs D ci sa) (hi : i + 8 ≤ L) (hl : lv_has ls 4 [(3, .int (nI i)), (2, .ref a_m), (1, .ref a_x), (0, .ref b)]) (hgo : lL_go p l e s m below meth c b L xs D ci sa a_x a_m ls 2146) : lL_go p l e s m below meth c b L xs D ci sa a_x a_m ls 2133 := by
  obtain ⟨hx, hb, hml, hown, hts, hX, hbl, hK, hZ, hret, hlocks, hL⟩ := C0
  intro WX WM t n s0 sv kv H locs cells slots hXI hMI hP hD hS hc hs
  have hA : ∀ q : Nat, s.heap.size ≤ q → (fun q : Nat => s.heap.size ≤ q) q := fun _ h => h
  have hbA : ¬ (fun q : Nat => s.heap.size ≤ q) b := Nat.not_le.mpr hbl
  have hn := hXI.n
  have hok := hXI.ok
  refine lv_aload_n (pc := 2133) hx hb dL_law_2133 rfl (lv_at hl 2 rfl) ?_
  obtain ⟨r, hr, hM1⟩ := l_X_undo l D ci (fun q : Nat => s.heap.size ≤ q) sa WM hXI 
  obtain ⟨fs, hh⟩ := hXI.hd WM
  refine q_call (pc := 2134) (va_runV (As := []) (rest := []) ⟨hx, hb, hml, hown, hts⟩ hM1 (cwV 0 hts gL_law_X10_undo rfl rfl rfl (by decide +kernel) ⟨Nat.le_of_ble_eq_true rfl, Nat.le_of_ble_eq_true rfl⟩) (q_preV (n1 := 0) (is1 := []) hK hA hZ hP hD hS rfl ⟨rfl, rfl, rfl⟩ 0 hh rfl) rfl rfl hl.1 rfl (lv_room (Nat.le_of_ble_eq_true rfl)) dL_law_2134 (l_rm hn.2 hc hs (Nat.zero_le _) (Nat.zero_le _))) hS (fun t2 locs _ hB hS => ?_)
  obtain ⟨WX, hXI, hP, hD⟩ := hB
  refine lv_pop (pc := 2137) hx hb dL_law_2137 rfl ?_
  have hP := l_swP hP
  have hD := l_swD hD
  refine lv_aload_n (pc := 2138) hx hb dL_law_2138 rfl (lv_at hl 1 rfl) ?_
  obtain ⟨r2, hr2, hM2⟩ := l_M_undo l D ci (fun q : Nat => s.heap.size ≤ q) sa WX hMI 
  obtain ⟨fs, hh⟩ := hMI.hd WX
  refine q_call (pc := 2139) (va_runV (As := []) (rest := []) ⟨hx, hb, hml, hown, hts⟩ hM2 (cwV 0 hts gL_law_X11_undo rfl rfl rfl (by decide +kernel) ⟨Nat.le_of_ble_eq_true rfl, Nat.le_of_ble_eq_true rfl⟩) (q_preV (n1 := 0) (is1 := []) hK hA hZ hP hD hS rfl ⟨rfl, rfl, rfl⟩ 0 hh rfl) rfl rfl hl.1 rfl (lv_room (Nat.le_of_ble_eq_true rfl)) dL_law_2139 (l_rm hn.2 hc hs (Nat.zero_le _) (Nat.zero_le _))) hS (fun t2 locs _ hB hS => ?_)
  obtain ⟨WM, hMI, hP, hD⟩ := hB
  have hP := l_swP hP
  have hD := l_swD hD
  refine lv_pop (pc := 2142) hx hb dL_law_2142 rfl ?_
  refine lv_goto (pc := 2143) (tgt := 2146) hx hb dL_law_2143 rfl ?_
  exact hgo WX WM _ _ _ _ _ _ _ _ _ hXI hMI hP hD hS hc hs
