def l_cJ6_compare_7cf53_1 : List Nat := [0, 4, 4, 172]
def l_cJ6_compare_7cf53_0 : List Nat := 26 :: 27 :: 162 :: 0 :: 7 :: 2 :: 167 :: 0 :: 13 :: 26 :: 27 :: 160 :: 0 :: 7 :: 3 :: 167 :: l_cJ6_compare_7cf53_1
set_option maxRecDepth 1000000 in
theorem bs_cJ6_compare_7cf53 : cJ6_compare_7cf53.data.toList.map (fun x => x.toNat) = l_cJ6_compare_7cf53_0 := by decide +kernel
theorem W_cJ6_compare_7cf53_0 (i : Nat) : rd cJ6_compare_7cf53 (i + 0) = l_cJ6_compare_7cf53_0[i]? := by rw [← bs_cJ6_compare_7cf53, List.getElem?_map]; rfl
theorem W_cJ6_compare_7cf53_1 (i : Nat) : rd cJ6_compare_7cf53 (i + 16) = l_cJ6_compare_7cf53_1[i]? := W_cJ6_compare_7cf53_0 (i + 16)
theorem dJ6_compare_7cf53_0 : dI cJ6_compare_7cf53 0 (.iload_n 0) 1 := op_26 (W_cJ6_compare_7cf53_0 0)
theorem dJ6_compare_7cf53_1 : dI cJ6_compare_7cf53 1 (.iload_n 1) 1 := op_27 (W_cJ6_compare_7cf53_0 1)
theorem dJ6_compare_7cf53_2 : dI cJ6_compare_7cf53 2 (.if_icmp .ge 7) 3 := op_162 (W_cJ6_compare_7cf53_0 2) (W_cJ6_compare_7cf53_0 3) (W_cJ6_compare_7cf53_0 4) (by decide +kernel)
theorem dJ6_compare_7cf53_5 : dI cJ6_compare_7cf53 5 (.iconst (-1)) 1 := op_2 (W_cJ6_compare_7cf53_0 5)
theorem dJ6_compare_7cf53_6 : dI cJ6_compare_7cf53 6 (.goto 13) 3 := op_167 (W_cJ6_compare_7cf53_0 6) (W_cJ6_compare_7cf53_0 7) (W_cJ6_compare_7cf53_0 8) (by decide +kernel)
theorem dJ6_compare_7cf53_9 : dI cJ6_compare_7cf53 9 (.iload_n 0) 1 := op_26 (W_cJ6_compare_7cf53_0 9)
theorem dJ6_compare_7cf53_10 : dI cJ6_compare_7cf53 10 (.iload_n 1) 1 := op_27 (W_cJ6_compare_7cf53_0 10)
theorem dJ6_compare_7cf53_11 : dI cJ6_compare_7cf53 11 (.if_icmp .ne 7) 3 := op_160 (W_cJ6_compare_7cf53_0 11) (W_cJ6_compare_7cf53_0 12) (W_cJ6_compare_7cf53_0 13) (by decide +kernel)
theorem dJ6_compare_7cf53_14 : dI cJ6_compare_7cf53 14 (.iconst 0) 1 := op_3 (W_cJ6_compare_7cf53_0 14)
theorem dJ6_compare_7cf53_15 : dI cJ6_compare_7cf53 15 (.goto 4) 3 := op_167 (W_cJ6_compare_7cf53_0 15) (W_cJ6_compare_7cf53_1 0) (W_cJ6_compare_7cf53_1 1) (by decide +kernel)
theorem dJ6_compare_7cf53_18 : dI cJ6_compare_7cf53 18 (.iconst 1) 1 := op_4 (W_cJ6_compare_7cf53_1 2)
theorem dJ6_compare_7cf53_19 : dI cJ6_compare_7cf53 19 (.ireturn) 1 := op_172 (W_cJ6_compare_7cf53_1 3)
def l_cJ9_floorDiv_7cf53_1 : List Nat := [7, 28, 4, 100, 172, 28, 172]
def l_cJ9_floorDiv_7cf53_0 : List Nat := 26 :: 27 :: 108 :: 61 :: 26 :: 27 :: 130 :: 156 :: 0 :: 14 :: 28 :: 27 :: 104 :: 26 :: 159 :: 0 :: l_cJ9_floorDiv_7cf53_1
set_option maxRecDepth 1000000 in
theorem bs_cJ9_floorDiv_7cf53 : cJ9_floorDiv_7cf53.data.toList.map (fun x => x.toNat) = l_cJ9_floorDiv_7cf53_0 := by decide +kernel
theorem W_cJ9_floorDiv_7cf53_0 (i : Nat) : rd cJ9_floorDiv_7cf53 (i + 0) = l_cJ9_floorDiv_7cf53_0[i]? := by rw [← bs_cJ9_floorDiv_7cf53, List.getElem?_map]; rfl
theorem W_cJ9_floorDiv_7cf53_1 (i : Nat) : rd cJ9_floorDiv_7cf53 (i + 16) = l_cJ9_floorDiv_7cf53_1[i]? := W_cJ9_floorDiv_7cf53_0 (i + 16)
theorem dJ9_floorDiv_7cf53_0 : dI cJ9_floorDiv_7cf53 0 (.iload_n 0) 1 := op_26 (W_cJ9_floorDiv_7cf53_0 0)
theorem dJ9_floorDiv_7cf53_1 : dI cJ9_floorDiv_7cf53 1 (.iload_n 1) 1 := op_27 (W_cJ9_floorDiv_7cf53_0 1)
theorem dJ9_floorDiv_7cf53_2 : dI cJ9_floorDiv_7cf53 2 (.idiv) 1 := op_108 (W_cJ9_floorDiv_7cf53_0 2)
theorem dJ9_floorDiv_7cf53_3 : dI cJ9_floorDiv_7cf53 3 (.istore_n 2) 1 := op_61 (W_cJ9_floorDiv_7cf53_0 3)
theorem dJ9_floorDiv_7cf53_4 : dI cJ9_floorDiv_7cf53 4 (.iload_n 0) 1 := op_26 (W_cJ9_floorDiv_7cf53_0 4)
theorem dJ9_floorDiv_7cf53_5 : dI cJ9_floorDiv_7cf53 5 (.iload_n 1) 1 := op_27 (W_cJ9_floorDiv_7cf53_0 5)
theorem dJ9_floorDiv_7cf53_6 : dI cJ9_floorDiv_7cf53 6 (.ixor) 1 := op_130 (W_cJ9_floorDiv_7cf53_0 6)
theorem dJ9_floorDiv_7cf53_7 : dI cJ9_floorDiv_7cf53 7 (.ifCond .ge 14) 3 := op_156 (W_cJ9_floorDiv_7cf53_0 7) (W_cJ9_floorDiv_7cf53_0 8) (W_cJ9_floorDiv_7cf53_0 9) (by decide +kernel)
theorem dJ9_floorDiv_7cf53_10 : dI cJ9_floorDiv_7cf53 10 (.iload_n 2) 1 := op_28 (W_cJ9_floorDiv_7cf53_0 10)
theorem dJ9_floorDiv_7cf53_11 : dI cJ9_floorDiv_7cf53 11 (.iload_n 1) 1 := op_27 (W_cJ9_floorDiv_7cf53_0 11)
theorem dJ9_floorDiv_7cf53_12 : dI cJ9_floorDiv_7cf53 12 (.imul) 1 := op_104 (W_cJ9_floorDiv_7cf53_0 12)
theorem dJ9_floorDiv_7cf53_13 : dI cJ9_floorDiv_7cf53 13 (.iload_n 0) 1 := op_26 (W_cJ9_floorDiv_7cf53_0 13)
theorem dJ9_floorDiv_7cf53_14 : dI cJ9_floorDiv_7cf53 14 (.if_icmp .eq 7) 3 := op_159 (W_cJ9_floorDiv_7cf53_0 14) (W_cJ9_floorDiv_7cf53_0 15) (W_cJ9_floorDiv_7cf53_1 0) (by decide +kernel)
theorem dJ9_floorDiv_7cf53_17 : dI cJ9_floorDiv_7cf53 17 (.iload_n 2) 1 := op_28 (W_cJ9_floorDiv_7cf53_1 1)
theorem dJ9_floorDiv_7cf53_18 : dI cJ9_floorDiv_7cf53 18 (.iconst 1) 1 := op_4 (W_cJ9_floorDiv_7cf53_1 2)
theorem dJ9_floorDiv_7cf53_19 : dI cJ9_floorDiv_7cf53 19 (.isub) 1 := op_100 (W_cJ9_floorDiv_7cf53_1 3)
theorem dJ9_floorDiv_7cf53_20 : dI cJ9_floorDiv_7cf53 20 (.ireturn) 1 := op_172 (W_cJ9_floorDiv_7cf53_1 4)
theorem dJ9_floorDiv_7cf53_21 : dI cJ9_floorDiv_7cf53 21 (.iload_n 2) 1 := op_28 (W_cJ9_floorDiv_7cf53_1 5)
theorem dJ9_floorDiv_7cf53_22 : dI cJ9_floorDiv_7cf53 22 (.ireturn) 1 := op_172 (W_cJ9_floorDiv_7cf53_1 6)
def l_cJ9_floorDiv_f86c9_1 : List Nat := [105, 30, 148, 153, 0, 8, 22, 4, 10, 101, 173, 22, 4, 173]
def l_cJ9_floorDiv_f86c9_0 : List Nat := 30 :: 32 :: 109 :: 55 :: 4 :: 30 :: 32 :: 131 :: 9 :: 148 :: 156 :: 0 :: 17 :: 22 :: 4 :: 32 :: l_cJ9_floorDiv_f86c9_1
set_option maxRecDepth 1000000 in
theorem bs_cJ9_floorDiv_f86c9 : cJ9_floorDiv_f86c9.data.toList.map (fun x => x.toNat) = l_cJ9_floorDiv_f86c9_0 := by decide +kernel
theorem W_cJ9_floorDiv_f86c9_0 (i : Nat) : rd cJ9_floorDiv_f86c9 (i + 0) = l_cJ9_floorDiv_f86c9_0[i]? := by rw [← bs_cJ9_floorDiv_f86c9, List.getElem?_map]; rfl
theorem W_cJ9_floorDiv_f86c9_1 (i : Nat) : rd cJ9_floorDiv_f86c9 (i + 16) = l_cJ9_floorDiv_f86c9_1[i]? := W_cJ9_floorDiv_f86c9_0 (i + 16)
theorem dJ9_floorDiv_f86c9_0 : dI cJ9_floorDiv_f86c9 0 (.lload_n 0) 1 := op_30 (W_cJ9_floorDiv_f86c9_0 0)
theorem dJ9_floorDiv_f86c9_1 : dI cJ9_floorDiv_f86c9 1 (.lload_n 2) 1 := op_32 (W_cJ9_floorDiv_f86c9_0 1)
theorem dJ9_floorDiv_f86c9_2 : dI cJ9_floorDiv_f86c9 2 (.ldiv) 1 := op_109 (W_cJ9_floorDiv_f86c9_0 2)
theorem dJ9_floorDiv_f86c9_3 : dI cJ9_floorDiv_f86c9 3 (.lstore 4) 2 := op_55 (W_cJ9_floorDiv_f86c9_0 3) (W_cJ9_floorDiv_f86c9_0 4)
theorem dJ9_floorDiv_f86c9_5 : dI cJ9_floorDiv_f86c9 5 (.lload_n 0) 1 := op_30 (W_cJ9_floorDiv_f86c9_0 5)
theorem dJ9_floorDiv_f86c9_6 : dI cJ9_floorDiv_f86c9 6 (.lload_n 2) 1 := op_32 (W_cJ9_floorDiv_f86c9_0 6)
theorem dJ9_floorDiv_f86c9_7 : dI cJ9_floorDiv_f86c9 7 (.lxor) 1 := op_131 (W_cJ9_floorDiv_f86c9_0 7)
theorem dJ9_floorDiv_f86c9_8 : dI cJ9_floorDiv_f86c9 8 (.lconst 0) 1 := op_9 (W_cJ9_floorDiv_f86c9_0 8)
theorem dJ9_floorDiv_f86c9_9 : dI cJ9_floorDiv_f86c9 9 (.lcmp) 1 := op_148 (W_cJ9_floorDiv_f86c9_0 9)
theorem dJ9_floorDiv_f86c9_10 : dI cJ9_floorDiv_f86c9 10 (.ifCond .ge 17) 3 := op_156 (W_cJ9_floorDiv_f86c9_0 10) (W_cJ9_floorDiv_f86c9_0 11) (W_cJ9_floorDiv_f86c9_0 12) (by decide +kernel)
theorem dJ9_floorDiv_f86c9_13 : dI cJ9_floorDiv_f86c9 13 (.lload 4) 2 := op_22 (W_cJ9_floorDiv_f86c9_0 13) (W_cJ9_floorDiv_f86c9_0 14)
theorem dJ9_floorDiv_f86c9_15 : dI cJ9_floorDiv_f86c9 15 (.lload_n 2) 1 := op_32 (W_cJ9_floorDiv_f86c9_0 15)
theorem dJ9_floorDiv_f86c9_16 : dI cJ9_floorDiv_f86c9 16 (.lmul) 1 := op_105 (W_cJ9_floorDiv_f86c9_1 0)
theorem dJ9_floorDiv_f86c9_17 : dI cJ9_floorDiv_f86c9 17 (.lload_n 0) 1 := op_30 (W_cJ9_floorDiv_f86c9_1 1)
theorem dJ9_floorDiv_f86c9_18 : dI cJ9_floorDiv_f86c9 18 (.lcmp) 1 := op_148 (W_cJ9_floorDiv_f86c9_1 2)
theorem dJ9_floorDiv_f86c9_19 : dI cJ9_floorDiv_f86c9 19 (.ifCond .eq 8) 3 := op_153 (W_cJ9_floorDiv_f86c9_1 3) (W_cJ9_floorDiv_f86c9_1 4) (W_cJ9_floorDiv_f86c9_1 5) (by decide +kernel)
theorem dJ9_floorDiv_f86c9_22 : dI cJ9_floorDiv_f86c9 22 (.lload 4) 2 := op_22 (W_cJ9_floorDiv_f86c9_1 6) (W_cJ9_floorDiv_f86c9_1 7)
theorem dJ9_floorDiv_f86c9_24 : dI cJ9_floorDiv_f86c9 24 (.lconst 1) 1 := op_10 (W_cJ9_floorDiv_f86c9_1 8)
theorem dJ9_floorDiv_f86c9_25 : dI cJ9_floorDiv_f86c9 25 (.lsub) 1 := op_101 (W_cJ9_floorDiv_f86c9_1 9)
theorem dJ9_floorDiv_f86c9_26 : dI cJ9_floorDiv_f86c9 26 (.lreturn) 1 := op_173 (W_cJ9_floorDiv_f86c9_1 10)
theorem dJ9_floorDiv_f86c9_27 : dI cJ9_floorDiv_f86c9 27 (.lload 4) 2 := op_22 (W_cJ9_floorDiv_f86c9_1 11) (W_cJ9_floorDiv_f86c9_1 12)
theorem dJ9_floorDiv_f86c9_29 : dI cJ9_floorDiv_f86c9 29 (.lreturn) 1 := op_173 (W_cJ9_floorDiv_f86c9_1 13)
def l_cJ9_floorMod_7cf53_1 : List Nat := [96, 172, 28, 172]
def l_cJ9_floorMod_7cf53_0 : List Nat := 26 :: 27 :: 112 :: 61 :: 26 :: 27 :: 130 :: 156 :: 0 :: 11 :: 28 :: 153 :: 0 :: 7 :: 28 :: 27 :: l_cJ9_floorMod_7cf53_1
set_option maxRecDepth 1000000 in
theorem bs_cJ9_floorMod_7cf53 : cJ9_floorMod_7cf53.data.toList.map (fun x => x.toNat) = l_cJ9_floorMod_7cf53_0 := by decide +kernel
theorem W_cJ9_floorMod_7cf53_0 (i : Nat) : rd cJ9_floorMod_7cf53 (i + 0) = l_cJ9_floorMod_7cf53_0[i]? := by rw [← bs_cJ9_floorMod_7cf53, List.getElem?_map]; rfl
theorem W_cJ9_floorMod_7cf53_1 (i : Nat) : rd cJ9_floorMod_7cf53 (i + 16) = l_cJ9_floorMod_7cf53_1[i]? := W_cJ9_floorMod_7cf53_0 (i + 16)
theorem dJ9_floorMod_7cf53_0 : dI cJ9_floorMod_7cf53 0 (.iload_n 0) 1 := op_26 (W_cJ9_floorMod_7cf53_0 0)
theorem dJ9_floorMod_7cf53_1 : dI cJ9_floorMod_7cf53 1 (.iload_n 1) 1 := op_27 (W_cJ9_floorMod_7cf53_0 1)
theorem dJ9_floorMod_7cf53_2 : dI cJ9_floorMod_7cf53 2 (.irem) 1 := op_112 (W_cJ9_floorMod_7cf53_0 2)
theorem dJ9_floorMod_7cf53_3 : dI cJ9_floorMod_7cf53 3 (.istore_n 2) 1 := op_61 (W_cJ9_floorMod_7cf53_0 3)
theorem dJ9_floorMod_7cf53_4 : dI cJ9_floorMod_7cf53 4 (.iload_n 0) 1 := op_26 (W_cJ9_floorMod_7cf53_0 4)
theorem dJ9_floorMod_7cf53_5 : dI cJ9_floorMod_7cf53 5 (.iload_n 1) 1 := op_27 (W_cJ9_floorMod_7cf53_0 5)
theorem dJ9_floorMod_7cf53_6 : dI cJ9_floorMod_7cf53 6 (.ixor) 1 := op_130 (W_cJ9_floorMod_7cf53_0 6)
theorem dJ9_floorMod_7cf53_7 : dI cJ9_floorMod_7cf53 7 (.ifCond .ge 11) 3 := op_156 (W_cJ9_floorMod_7cf53_0 7) (W_cJ9_floorMod_7cf53_0 8) (W_cJ9_floorMod_7cf53_0 9) (by decide +kernel)
theorem dJ9_floorMod_7cf53_10 : dI cJ9_floorMod_7cf53 10 (.iload_n 2) 1 := op_28 (W_cJ9_floorMod_7cf53_0 10)
theorem dJ9_floorMod_7cf53_11 : dI cJ9_floorMod_7cf53 11 (.ifCond .eq 7) 3 := op_153 (W_cJ9_floorMod_7cf53_0 11) (W_cJ9_floorMod_7cf53_0 12) (W_cJ9_floorMod_7cf53_0 13) (by decide +kernel)
theorem dJ9_floorMod_7cf53_14 : dI cJ9_floorMod_7cf53 14 (.iload_n 2) 1 := op_28 (W_cJ9_floorMod_7cf53_0 14)
theorem dJ9_floorMod_7cf53_15 : dI cJ9_floorMod_7cf53 15 (.iload_n 1) 1 := op_27 (W_cJ9_floorMod_7cf53_0 15)
theorem dJ9_floorMod_7cf53_16 : dI cJ9_floorMod_7cf53 16 (.iadd) 1 := op_96 (W_cJ9_floorMod_7cf53_1 0)
theorem dJ9_floorMod_7cf53_17 : dI cJ9_floorMod_7cf53 17 (.ireturn) 1 := op_172 (W_cJ9_floorMod_7cf53_1 1)
theorem dJ9_floorMod_7cf53_18 : dI cJ9_floorMod_7cf53 18 (.iload_n 2) 1 := op_28 (W_cJ9_floorMod_7cf53_1 2)
theorem dJ9_floorMod_7cf53_19 : dI cJ9_floorMod_7cf53 19 (.ireturn) 1 := op_172 (W_cJ9_floorMod_7cf53_1 3)
def l_cJ9_floorMod_f86c9_1 : List Nat := [148, 153, 0, 8, 22, 4, 32, 97, 173, 22, 4, 173]
def l_cJ9_floorMod_f86c9_0 : List Nat := 30 :: 32 :: 113 :: 55 :: 4 :: 30 :: 32 :: 131 :: 9 :: 148 :: 156 :: 0 :: 15 :: 22 :: 4 :: 9 :: l_cJ9_floorMod_f86c9_1
set_option maxRecDepth 1000000 in
theorem bs_cJ9_floorMod_f86c9 : cJ9_floorMod_f86c9.data.toList.map (fun x => x.toNat) = l_cJ9_floorMod_f86c9_0 := by decide +kernel
theorem W_cJ9_floorMod_f86c9_0 (i : Nat) : rd cJ9_floorMod_f86c9 (i + 0) = l_cJ9_floorMod_f86c9_0[i]? := by rw [← bs_cJ9_floorMod_f86c9, List.getElem?_map]; rfl
theorem W_cJ9_floorMod_f86c9_1 (i : Nat) : rd cJ9_floorMod_f86c9 (i + 16) = l_cJ9_floorMod_f86c9_1[i]? := W_cJ9_floorMod_f86c9_0 (i + 16)
theorem dJ9_floorMod_f86c9_0 : dI cJ9_floorMod_f86c9 0 (.lload_n 0) 1 := op_30 (W_cJ9_floorMod_f86c9_0 0)
theorem dJ9_floorMod_f86c9_1 : dI cJ9_floorMod_f86c9 1 (.lload_n 2) 1 := op_32 (W_cJ9_floorMod_f86c9_0 1)
theorem dJ9_floorMod_f86c9_2 : dI cJ9_floorMod_f86c9 2 (.lrem) 1 := op_113 (W_cJ9_floorMod_f86c9_0 2)
theorem dJ9_floorMod_f86c9_3 : dI cJ9_floorMod_f86c9 3 (.lstore 4) 2 := op_55 (W_cJ9_floorMod_f86c9_0 3) (W_cJ9_floorMod_f86c9_0 4)
theorem dJ9_floorMod_f86c9_5 : dI cJ9_floorMod_f86c9 5 (.lload_n 0) 1 := op_30 (W_cJ9_floorMod_f86c9_0 5)
theorem dJ9_floorMod_f86c9_6 : dI cJ9_floorMod_f86c9 6 (.lload_n 2) 1 := op_32 (W_cJ9_floorMod_f86c9_0 6)
theorem dJ9_floorMod_f86c9_7 : dI cJ9_floorMod_f86c9 7 (.lxor) 1 := op_131 (W_cJ9_floorMod_f86c9_0 7)
theorem dJ9_floorMod_f86c9_8 : dI cJ9_floorMod_f86c9 8 (.lconst 0) 1 := op_9 (W_cJ9_floorMod_f86c9_0 8)
theorem dJ9_floorMod_f86c9_9 : dI cJ9_floorMod_f86c9 9 (.lcmp) 1 := op_148 (W_cJ9_floorMod_f86c9_0 9)
theorem dJ9_floorMod_f86c9_10 : dI cJ9_floorMod_f86c9 10 (.ifCond .ge 15) 3 := op_156 (W_cJ9_floorMod_f86c9_0 10) (W_cJ9_floorMod_f86c9_0 11) (W_cJ9_floorMod_f86c9_0 12) (by decide +kernel)
theorem dJ9_floorMod_f86c9_13 : dI cJ9_floorMod_f86c9 13 (.lload 4) 2 := op_22 (W_cJ9_floorMod_f86c9_0 13) (W_cJ9_floorMod_f86c9_0 14)
theorem dJ9_floorMod_f86c9_15 : dI cJ9_floorMod_f86c9 15 (.lconst 0) 1 := op_9 (W_cJ9_floorMod_f86c9_0 15)
theorem dJ9_floorMod_f86c9_16 : dI cJ9_floorMod_f86c9 16 (.lcmp) 1 := op_148 (W_cJ9_floorMod_f86c9_1 0)
theorem dJ9_floorMod_f86c9_17 : dI cJ9_floorMod_f86c9 17 (.ifCond .eq 8) 3 := op_153 (W_cJ9_floorMod_f86c9_1 1) (W_cJ9_floorMod_f86c9_1 2) (W_cJ9_floorMod_f86c9_1 3) (by decide +kernel)
theorem dJ9_floorMod_f86c9_20 : dI cJ9_floorMod_f86c9 20 (.lload 4) 2 := op_22 (W_cJ9_floorMod_f86c9_1 4) (W_cJ9_floorMod_f86c9_1 5)
theorem dJ9_floorMod_f86c9_22 : dI cJ9_floorMod_f86c9 22 (.lload_n 2) 1 := op_32 (W_cJ9_floorMod_f86c9_1 6)
theorem dJ9_floorMod_f86c9_23 : dI cJ9_floorMod_f86c9 23 (.ladd) 1 := op_97 (W_cJ9_floorMod_f86c9_1 7)
theorem dJ9_floorMod_f86c9_24 : dI cJ9_floorMod_f86c9 24 (.lreturn) 1 := op_173 (W_cJ9_floorMod_f86c9_1 8)
theorem dJ9_floorMod_f86c9_25 : dI cJ9_floorMod_f86c9 25 (.lload 4) 2 := op_22 (W_cJ9_floorMod_f86c9_1 9) (W_cJ9_floorMod_f86c9_1 10)
theorem dJ9_floorMod_f86c9_27 : dI cJ9_floorMod_f86c9 27 (.lreturn) 1 := op_173 (W_cJ9_floorMod_f86c9_1 11)
def l_cJ9_abs_067f4_0 : List Nat := [30, 9, 148, 156, 0, 8, 30, 117, 167, 0, 4, 30, 173]
set_option maxRecDepth 1000000 in
theorem bs_cJ9_abs_067f4 : cJ9_abs_067f4.data.toList.map (fun x => x.toNat) = l_cJ9_abs_067f4_0 := by decide +kernel
theorem W_cJ9_abs_067f4_0 (i : Nat) : rd cJ9_abs_067f4 (i + 0) = l_cJ9_abs_067f4_0[i]? := by rw [← bs_cJ9_abs_067f4, List.getElem?_map]; rfl
theorem dJ9_abs_067f4_0 : dI cJ9_abs_067f4 0 (.lload_n 0) 1 := op_30 (W_cJ9_abs_067f4_0 0)
theorem dJ9_abs_067f4_1 : dI cJ9_abs_067f4 1 (.lconst 0) 1 := op_9 (W_cJ9_abs_067f4_0 1)
theorem dJ9_abs_067f4_2 : dI cJ9_abs_067f4 2 (.lcmp) 1 := op_148 (W_cJ9_abs_067f4_0 2)
theorem dJ9_abs_067f4_3 : dI cJ9_abs_067f4 3 (.ifCond .ge 8) 3 := op_156 (W_cJ9_abs_067f4_0 3) (W_cJ9_abs_067f4_0 4) (W_cJ9_abs_067f4_0 5) (by decide +kernel)
theorem dJ9_abs_067f4_6 : dI cJ9_abs_067f4 6 (.lload_n 0) 1 := op_30 (W_cJ9_abs_067f4_0 6)
theorem dJ9_abs_067f4_7 : dI cJ9_abs_067f4 7 (.lneg) 1 := op_117 (W_cJ9_abs_067f4_0 7)
theorem dJ9_abs_067f4_8 : dI cJ9_abs_067f4 8 (.goto 4) 3 := op_167 (W_cJ9_abs_067f4_0 8) (W_cJ9_abs_067f4_0 9) (W_cJ9_abs_067f4_0 10) (by decide +kernel)
theorem dJ9_abs_067f4_11 : dI cJ9_abs_067f4 11 (.lload_n 0) 1 := op_30 (W_cJ9_abs_067f4_0 11)
theorem dJ9_abs_067f4_12 : dI cJ9_abs_067f4 12 (.lreturn) 1 := op_173 (W_cJ9_abs_067f4_0 12)
def l_cJ9_max_7cf53_0 : List Nat := [26, 27, 161, 0, 7, 26, 167, 0, 4, 27, 172]
set_option maxRecDepth 1000000 in
theorem bs_cJ9_max_7cf53 : cJ9_max_7cf53.data.toList.map (fun x => x.toNat) = l_cJ9_max_7cf53_0 := by decide +kernel
theorem W_cJ9_max_7cf53_0 (i : Nat) : rd cJ9_max_7cf53 (i + 0) = l_cJ9_max_7cf53_0[i]? := by rw [← bs_cJ9_max_7cf53, List.getElem?_map]; rfl
theorem dJ9_max_7cf53_0 : dI cJ9_max_7cf53 0 (.iload_n 0) 1 := op_26 (W_cJ9_max_7cf53_0 0)
theorem dJ9_max_7cf53_1 : dI cJ9_max_7cf53 1 (.iload_n 1) 1 := op_27 (W_cJ9_max_7cf53_0 1)
theorem dJ9_max_7cf53_2 : dI cJ9_max_7cf53 2 (.if_icmp .lt 7) 3 := op_161 (W_cJ9_max_7cf53_0 2) (W_cJ9_max_7cf53_0 3) (W_cJ9_max_7cf53_0 4) (by decide +kernel)
theorem dJ9_max_7cf53_5 : dI cJ9_max_7cf53 5 (.iload_n 0) 1 := op_26 (W_cJ9_max_7cf53_0 5)
theorem dJ9_max_7cf53_6 : dI cJ9_max_7cf53 6 (.goto 4) 3 := op_167 (W_cJ9_max_7cf53_0 6) (W_cJ9_max_7cf53_0 7) (W_cJ9_max_7cf53_0 8) (by decide +kernel)
theorem dJ9_max_7cf53_9 : dI cJ9_max_7cf53 9 (.iload_n 1) 1 := op_27 (W_cJ9_max_7cf53_0 9)
theorem dJ9_max_7cf53_10 : dI cJ9_max_7cf53 10 (.ireturn) 1 := op_172 (W_cJ9_max_7cf53_0 10)
def l_cJ9_min_7cf53_0 : List Nat := [26, 27, 163, 0, 7, 26, 167, 0, 4, 27, 172]
set_option maxRecDepth 1000000 in
theorem bs_cJ9_min_7cf53 : cJ9_min_7cf53.data.toList.map (fun x => x.toNat) = l_cJ9_min_7cf53_0 := by decide +kernel
theorem W_cJ9_min_7cf53_0 (i : Nat) : rd cJ9_min_7cf53 (i + 0) = l_cJ9_min_7cf53_0[i]? := by rw [← bs_cJ9_min_7cf53, List.getElem?_map]; rfl
theorem dJ9_min_7cf53_0 : dI cJ9_min_7cf53 0 (.iload_n 0) 1 := op_26 (W_cJ9_min_7cf53_0 0)
theorem dJ9_min_7cf53_1 : dI cJ9_min_7cf53 1 (.iload_n 1) 1 := op_27 (W_cJ9_min_7cf53_0 1)
theorem dJ9_min_7cf53_2 : dI cJ9_min_7cf53 2 (.if_icmp .gt 7) 3 := op_163 (W_cJ9_min_7cf53_0 2) (W_cJ9_min_7cf53_0 3) (W_cJ9_min_7cf53_0 4) (by decide +kernel)
theorem dJ9_min_7cf53_5 : dI cJ9_min_7cf53 5 (.iload_n 0) 1 := op_26 (W_cJ9_min_7cf53_0 5)
theorem dJ9_min_7cf53_6 : dI cJ9_min_7cf53 6 (.goto 4) 3 := op_167 (W_cJ9_min_7cf53_0 6) (W_cJ9_min_7cf53_0 7) (W_cJ9_min_7cf53_0 8) (by decide +kernel)
theorem dJ9_min_7cf53_9 : dI cJ9_min_7cf53 9 (.iload_n 1) 1 := op_27 (W_cJ9_min_7cf53_0 9)
theorem dJ9_min_7cf53_10 : dI cJ9_min_7cf53 10 (.ireturn) 1 := op_172 (W_cJ9_min_7cf53_0 10)
theorem gJ0_length_8abf5_J0_coder_7d493 : GoodIn wsJ0_length_8abf5 (wsV RJ0 335 RJ0 yJ0_coder_7d493 wsJ0_coder_7d493) := gw_c t_w182 (gw_c t_w181 (gw_c t_w180 (gw_c t_w179 (gw_c t_w178 (gw_t)))))
def l_cJ0_length_8abf5_0 : List Nat := [42, 180, 0, 9, 190, 42, 182, 1, 79, 122, 172]
set_option maxRecDepth 1000000 in
theorem bs_cJ0_length_8abf5 : cJ0_length_8abf5.data.toList.map (fun x => x.toNat) = l_cJ0_length_8abf5_0 := by decide +kernel
theorem W_cJ0_length_8abf5_0 (i : Nat) : rd cJ0_length_8abf5 (i + 0) = l_cJ0_length_8abf5_0[i]? := by rw [← bs_cJ0_length_8abf5, List.getElem?_map]; rfl
theorem dJ0_length_8abf5_0 : dI cJ0_length_8abf5 0 (.aload_n 0) 1 := op_42 (W_cJ0_length_8abf5_0 0)
theorem dJ0_length_8abf5_1 : dI cJ0_length_8abf5 1 (.getfield 9) 3 := op_180 (W_cJ0_length_8abf5_0 1) (W_cJ0_length_8abf5_0 2) (W_cJ0_length_8abf5_0 3)
theorem dJ0_length_8abf5_4 : dI cJ0_length_8abf5 4 (.arraylength) 1 := op_190 (W_cJ0_length_8abf5_0 4)
theorem dJ0_length_8abf5_5 : dI cJ0_length_8abf5 5 (.aload_n 0) 1 := op_42 (W_cJ0_length_8abf5_0 5)
theorem dJ0_length_8abf5_6 : dI cJ0_length_8abf5 6 (.invokevirtual 335) 3 := op_182 (W_cJ0_length_8abf5_0 6) (W_cJ0_length_8abf5_0 7) (W_cJ0_length_8abf5_0 8)
theorem dJ0_length_8abf5_9 : dI cJ0_length_8abf5 9 (.ishr) 1 := op_122 (W_cJ0_length_8abf5_0 9)
theorem dJ0_length_8abf5_10 : dI cJ0_length_8abf5 10 (.ireturn) 1 := op_172 (W_cJ0_length_8abf5_0 10)
theorem gJ0_charAt_5068e_J0_isLatin1_aae02 : GoodIn wsJ0_charAt_5068e (wsV RJ0 492 RJ0 yJ0_isLatin1_aae02 wsJ0_isLatin1_aae02) := gw_c t_w186 (gw_c t_w185 (gw_c t_w184 (gw_c t_w179 (gw_c t_w183 (gw_t)))))
theorem gJ0_charAt_5068e_J1_charAt_3b067 : GoodIn wsJ0_charAt_5068e (va_wsS RJ0 495 yJ1_charAt_3b067 wsJ1_charAt_3b067) := gw_c t_w190 (gw_c t_w189 (gw_c t_w188 (gw_c t_w187 (gw_t))))
theorem gJ0_charAt_5068e_J2_charAt_3b067 : GoodIn wsJ0_charAt_5068e (va_wsS RJ0 498 yJ2_charAt_3b067 wsJ2_charAt_3b067) := gw_c t_w194 (gw_c t_w193 (gw_c t_w192 (gw_c t_w191 (gw_t))))
def l_cJ0_charAt_5068e_1 : List Nat := [42, 180, 0, 9, 27, 184, 1, 242, 172]
def l_cJ0_charAt_5068e_0 : List Nat := 42 :: 182 :: 1 :: 236 :: 153 :: 0 :: 12 :: 42 :: 180 :: 0 :: 9 :: 27 :: 184 :: 1 :: 239 :: 172 :: l_cJ0_charAt_5068e_1
set_option maxRecDepth 1000000 in
theorem bs_cJ0_charAt_5068e : cJ0_charAt_5068e.data.toList.map (fun x => x.toNat) = l_cJ0_charAt_5068e_0 := by decide +kernel
theorem W_cJ0_charAt_5068e_0 (i : Nat) : rd cJ0_charAt_5068e (i + 0) = l_cJ0_charAt_5068e_0[i]? := by rw [← bs_cJ0_charAt_5068e, List.getElem?_map]; rfl
theorem W_cJ0_charAt_5068e_1 (i : Nat) : rd cJ0_charAt_5068e (i + 16) = l_cJ0_charAt_5068e_1[i]? := W_cJ0_charAt_5068e_0 (i + 16)
theorem dJ0_charAt_5068e_0 : dI cJ0_charAt_5068e 0 (.aload_n 0) 1 := op_42 (W_cJ0_charAt_5068e_0 0)
theorem dJ0_charAt_5068e_1 : dI cJ0_charAt_5068e 1 (.invokevirtual 492) 3 := op_182 (W_cJ0_charAt_5068e_0 1) (W_cJ0_charAt_5068e_0 2) (W_cJ0_charAt_5068e_0 3)
theorem dJ0_charAt_5068e_4 : dI cJ0_charAt_5068e 4 (.ifCond .eq 12) 3 := op_153 (W_cJ0_charAt_5068e_0 4) (W_cJ0_charAt_5068e_0 5) (W_cJ0_charAt_5068e_0 6) (by decide +kernel)
theorem dJ0_charAt_5068e_7 : dI cJ0_charAt_5068e 7 (.aload_n 0) 1 := op_42 (W_cJ0_charAt_5068e_0 7)
theorem dJ0_charAt_5068e_8 : dI cJ0_charAt_5068e 8 (.getfield 9) 3 := op_180 (W_cJ0_charAt_5068e_0 8) (W_cJ0_charAt_5068e_0 9) (W_cJ0_charAt_5068e_0 10)
theorem dJ0_charAt_5068e_11 : dI cJ0_charAt_5068e 11 (.iload_n 1) 1 := op_27 (W_cJ0_charAt_5068e_0 11)
theorem dJ0_charAt_5068e_12 : dI cJ0_charAt_5068e 12 (.invokestatic 495) 3 := op_184 (W_cJ0_charAt_5068e_0 12) (W_cJ0_charAt_5068e_0 13) (W_cJ0_charAt_5068e_0 14)
theorem dJ0_charAt_5068e_15 : dI cJ0_charAt_5068e 15 (.ireturn) 1 := op_172 (W_cJ0_charAt_5068e_0 15)
theorem dJ0_charAt_5068e_16 : dI cJ0_charAt_5068e 16 (.aload_n 0) 1 := op_42 (W_cJ0_charAt_5068e_1 0)
theorem dJ0_charAt_5068e_17 : dI cJ0_charAt_5068e 17 (.getfield 9) 3 := op_180 (W_cJ0_charAt_5068e_1 1) (W_cJ0_charAt_5068e_1 2) (W_cJ0_charAt_5068e_1 3)
theorem dJ0_charAt_5068e_20 : dI cJ0_charAt_5068e 20 (.iload_n 1) 1 := op_27 (W_cJ0_charAt_5068e_1 4)
theorem dJ0_charAt_5068e_21 : dI cJ0_charAt_5068e 21 (.invokestatic 498) 3 := op_184 (W_cJ0_charAt_5068e_1 5) (W_cJ0_charAt_5068e_1 6) (W_cJ0_charAt_5068e_1 7)
theorem dJ0_charAt_5068e_24 : dI cJ0_charAt_5068e 24 (.ireturn) 1 := op_172 (W_cJ0_charAt_5068e_1 8)
def l_cJ0_coder_7d493_0 : List Nat := [178, 0, 38, 153, 0, 10, 42, 180, 0, 15, 167, 0, 4, 4, 172]
set_option maxRecDepth 1000000 in
theorem bs_cJ0_coder_7d493 : cJ0_coder_7d493.data.toList.map (fun x => x.toNat) = l_cJ0_coder_7d493_0 := by decide +kernel
theorem W_cJ0_coder_7d493_0 (i : Nat) : rd cJ0_coder_7d493 (i + 0) = l_cJ0_coder_7d493_0[i]? := by rw [← bs_cJ0_coder_7d493, List.getElem?_map]; rfl
theorem dJ0_coder_7d493_0 : dI cJ0_coder_7d493 0 (.getstatic 38) 3 := op_178 (W_cJ0_coder_7d493_0 0) (W_cJ0_coder_7d493_0 1) (W_cJ0_coder_7d493_0 2)
theorem dJ0_coder_7d493_3 : dI cJ0_coder_7d493 3 (.ifCond .eq 10) 3 := op_153 (W_cJ0_coder_7d493_0 3) (W_cJ0_coder_7d493_0 4) (W_cJ0_coder_7d493_0 5) (by decide +kernel)
theorem dJ0_coder_7d493_6 : dI cJ0_coder_7d493 6 (.aload_n 0) 1 := op_42 (W_cJ0_coder_7d493_0 6)
theorem dJ0_coder_7d493_7 : dI cJ0_coder_7d493 7 (.getfield 15) 3 := op_180 (W_cJ0_coder_7d493_0 7) (W_cJ0_coder_7d493_0 8) (W_cJ0_coder_7d493_0 9)
theorem dJ0_coder_7d493_10 : dI cJ0_coder_7d493 10 (.goto 4) 3 := op_167 (W_cJ0_coder_7d493_0 10) (W_cJ0_coder_7d493_0 11) (W_cJ0_coder_7d493_0 12) (by decide +kernel)
theorem dJ0_coder_7d493_13 : dI cJ0_coder_7d493 13 (.iconst 1) 1 := op_4 (W_cJ0_coder_7d493_0 13)
theorem dJ0_coder_7d493_14 : dI cJ0_coder_7d493 14 (.ireturn) 1 := op_172 (W_cJ0_coder_7d493_0 14)
def l_cJ0_isLatin1_aae02_1 : List Nat := [4, 3, 172]
def l_cJ0_isLatin1_aae02_0 : List Nat := 178 :: 0 :: 38 :: 153 :: 0 :: 14 :: 42 :: 180 :: 0 :: 15 :: 154 :: 0 :: 7 :: 4 :: 167 :: 0 :: l_cJ0_isLatin1_aae02_1
set_option maxRecDepth 1000000 in
theorem bs_cJ0_isLatin1_aae02 : cJ0_isLatin1_aae02.data.toList.map (fun x => x.toNat) = l_cJ0_isLatin1_aae02_0 := by decide +kernel
theorem W_cJ0_isLatin1_aae02_0 (i : Nat) : rd cJ0_isLatin1_aae02 (i + 0) = l_cJ0_isLatin1_aae02_0[i]? := by rw [← bs_cJ0_isLatin1_aae02, List.getElem?_map]; rfl
theorem W_cJ0_isLatin1_aae02_1 (i : Nat) : rd cJ0_isLatin1_aae02 (i + 16) = l_cJ0_isLatin1_aae02_1[i]? := W_cJ0_isLatin1_aae02_0 (i + 16)
theorem dJ0_isLatin1_aae02_0 : dI cJ0_isLatin1_aae02 0 (.getstatic 38) 3 := op_178 (W_cJ0_isLatin1_aae02_0 0) (W_cJ0_isLatin1_aae02_0 1) (W_cJ0_isLatin1_aae02_0 2)
theorem dJ0_isLatin1_aae02_3 : dI cJ0_isLatin1_aae02 3 (.ifCond .eq 14) 3 := op_153 (W_cJ0_isLatin1_aae02_0 3) (W_cJ0_isLatin1_aae02_0 4) (W_cJ0_isLatin1_aae02_0 5) (by decide +kernel)
theorem dJ0_isLatin1_aae02_6 : dI cJ0_isLatin1_aae02 6 (.aload_n 0) 1 := op_42 (W_cJ0_isLatin1_aae02_0 6)
theorem dJ0_isLatin1_aae02_7 : dI cJ0_isLatin1_aae02 7 (.getfield 15) 3 := op_180 (W_cJ0_isLatin1_aae02_0 7) (W_cJ0_isLatin1_aae02_0 8) (W_cJ0_isLatin1_aae02_0 9)
theorem dJ0_isLatin1_aae02_10 : dI cJ0_isLatin1_aae02 10 (.ifCond .ne 7) 3 := op_154 (W_cJ0_isLatin1_aae02_0 10) (W_cJ0_isLatin1_aae02_0 11) (W_cJ0_isLatin1_aae02_0 12) (by decide +kernel)
theorem dJ0_isLatin1_aae02_13 : dI cJ0_isLatin1_aae02 13 (.iconst 1) 1 := op_4 (W_cJ0_isLatin1_aae02_0 13)
theorem dJ0_isLatin1_aae02_14 : dI cJ0_isLatin1_aae02 14 (.goto 4) 3 := op_167 (W_cJ0_isLatin1_aae02_0 14) (W_cJ0_isLatin1_aae02_0 15) (W_cJ0_isLatin1_aae02_1 0) (by decide +kernel)
theorem dJ0_isLatin1_aae02_17 : dI cJ0_isLatin1_aae02 17 (.iconst 0) 1 := op_3 (W_cJ0_isLatin1_aae02_1 1)
theorem dJ0_isLatin1_aae02_18 : dI cJ0_isLatin1_aae02 18 (.ireturn) 1 := op_172 (W_cJ0_isLatin1_aae02_1 2)
theorem gJ0_checkIndex_df160_J3_checkIndex_8e157 : GoodIn wsJ0_checkIndex_df160 (va_wsS RJ0 1059 yJ3_checkIndex_8e157 wsJ3_checkIndex_8e157) := gw_c t_w198 (gw_c t_w197 (gw_c t_w196 (gw_c t_w195 (gw_t))))
def l_cJ0_checkIndex_df160_0 : List Nat := [26, 27, 178, 4, 29, 184, 4, 35, 87, 177]
set_option maxRecDepth 1000000 in
theorem bs_cJ0_checkIndex_df160 : cJ0_checkIndex_df160.data.toList.map (fun x => x.toNat) = l_cJ0_checkIndex_df160_0 := by decide +kernel
theorem W_cJ0_checkIndex_df160_0 (i : Nat) : rd cJ0_checkIndex_df160 (i + 0) = l_cJ0_checkIndex_df160_0[i]? := by rw [← bs_cJ0_checkIndex_df160, List.getElem?_map]; rfl
theorem dJ0_checkIndex_df160_0 : dI cJ0_checkIndex_df160 0 (.iload_n 0) 1 := op_26 (W_cJ0_checkIndex_df160_0 0)
theorem dJ0_checkIndex_df160_1 : dI cJ0_checkIndex_df160 1 (.iload_n 1) 1 := op_27 (W_cJ0_checkIndex_df160_0 1)
theorem dJ0_checkIndex_df160_2 : dI cJ0_checkIndex_df160 2 (.getstatic 1053) 3 := op_178 (W_cJ0_checkIndex_df160_0 2) (W_cJ0_checkIndex_df160_0 3) (W_cJ0_checkIndex_df160_0 4)
theorem dJ0_checkIndex_df160_5 : dI cJ0_checkIndex_df160 5 (.invokestatic 1059) 3 := op_184 (W_cJ0_checkIndex_df160_0 5) (W_cJ0_checkIndex_df160_0 6) (W_cJ0_checkIndex_df160_0 7)
theorem dJ0_checkIndex_df160_8 : dI cJ0_checkIndex_df160 8 (.pop) 1 := op_87 (W_cJ0_checkIndex_df160_0 8)
theorem dJ0_checkIndex_df160_9 : dI cJ0_checkIndex_df160 9 (.return_) 1 := op_177 (W_cJ0_checkIndex_df160_0 9)
theorem gJ1_charAt_3b067_J0_checkIndex_df160 : GoodIn wsJ1_charAt_3b067 (va_wsS RJ1 9 yJ0_checkIndex_df160 wsJ0_checkIndex_df160) := gw_c t_w201 (gw_c t_w200 (gw_c t_w179 (gw_c t_w199 (gw_t))))
def l_cJ1_charAt_3b067_0 : List Nat := [27, 42, 190, 184, 0, 9, 42, 27, 51, 17, 0, 255, 126, 146, 172]
set_option maxRecDepth 1000000 in
theorem bs_cJ1_charAt_3b067 : cJ1_charAt_3b067.data.toList.map (fun x => x.toNat) = l_cJ1_charAt_3b067_0 := by decide +kernel
theorem W_cJ1_charAt_3b067_0 (i : Nat) : rd cJ1_charAt_3b067 (i + 0) = l_cJ1_charAt_3b067_0[i]? := by rw [← bs_cJ1_charAt_3b067, List.getElem?_map]; rfl
theorem dJ1_charAt_3b067_0 : dI cJ1_charAt_3b067 0 (.iload_n 1) 1 := op_27 (W_cJ1_charAt_3b067_0 0)
theorem dJ1_charAt_3b067_1 : dI cJ1_charAt_3b067 1 (.aload_n 0) 1 := op_42 (W_cJ1_charAt_3b067_0 1)
theorem dJ1_charAt_3b067_2 : dI cJ1_charAt_3b067 2 (.arraylength) 1 := op_190 (W_cJ1_charAt_3b067_0 2)
theorem dJ1_charAt_3b067_3 : dI cJ1_charAt_3b067 3 (.invokestatic 9) 3 := op_184 (W_cJ1_charAt_3b067_0 3) (W_cJ1_charAt_3b067_0 4) (W_cJ1_charAt_3b067_0 5)
theorem dJ1_charAt_3b067_6 : dI cJ1_charAt_3b067 6 (.aload_n 0) 1 := op_42 (W_cJ1_charAt_3b067_0 6)
theorem dJ1_charAt_3b067_7 : dI cJ1_charAt_3b067 7 (.iload_n 1) 1 := op_27 (W_cJ1_charAt_3b067_0 7)
theorem dJ1_charAt_3b067_8 : dI cJ1_charAt_3b067 8 (.baload) 1 := op_51 (W_cJ1_charAt_3b067_0 8)
theorem dJ1_charAt_3b067_9 : dI cJ1_charAt_3b067 9 (.sipush 255) 3 := op_17 (W_cJ1_charAt_3b067_0 9) (W_cJ1_charAt_3b067_0 10) (W_cJ1_charAt_3b067_0 11) (by decide +kernel)
theorem dJ1_charAt_3b067_12 : dI cJ1_charAt_3b067 12 (.iand) 1 := op_126 (W_cJ1_charAt_3b067_0 12)
theorem dJ1_charAt_3b067_13 : dI cJ1_charAt_3b067 13 (.i2c) 1 := op_146 (W_cJ1_charAt_3b067_0 13)
theorem dJ1_charAt_3b067_14 : dI cJ1_charAt_3b067 14 (.ireturn) 1 := op_172 (W_cJ1_charAt_3b067_0 14)
theorem gJ2_getChar_3b067_J2_length_9d52b : GoodIn wsJ2_getChar_3b067 (va_wsS RJ2 48 yJ2_length_9d52b wsJ2_length_9d52b) := gw_c t_w204 (gw_c t_w203 (gw_c t_w192 (gw_c t_w202 (gw_t))))
def l_cJ2_getChar_3b067_3 : List Nat := [51, 17, 0, 255, 126, 178, 0, 63, 120, 128, 146, 172]
def l_cJ2_getChar_3b067_2 : List Nat := 42 :: 27 :: 132 :: 1 :: 1 :: 51 :: 17 :: 0 :: 255 :: 126 :: 178 :: 0 :: 59 :: 120 :: 42 :: 27 :: l_cJ2_getChar_3b067_3
def l_cJ2_getChar_3b067_1 : List Nat := 0 :: 13 :: 187 :: 0 :: 52 :: 89 :: 18 :: 54 :: 183 :: 0 :: 56 :: 191 :: 27 :: 4 :: 120 :: 60 :: l_cJ2_getChar_3b067_2
def l_cJ2_getChar_3b067_0 : List Nat := 178 :: 0 :: 44 :: 154 :: 0 :: 25 :: 27 :: 155 :: 0 :: 11 :: 27 :: 42 :: 184 :: 0 :: 48 :: 161 :: l_cJ2_getChar_3b067_1
set_option maxRecDepth 1000000 in
theorem bs_cJ2_getChar_3b067 : cJ2_getChar_3b067.data.toList.map (fun x => x.toNat) = l_cJ2_getChar_3b067_0 := by decide +kernel
theorem W_cJ2_getChar_3b067_0 (i : Nat) : rd cJ2_getChar_3b067 (i + 0) = l_cJ2_getChar_3b067_0[i]? := by rw [← bs_cJ2_getChar_3b067, List.getElem?_map]; rfl
theorem W_cJ2_getChar_3b067_1 (i : Nat) : rd cJ2_getChar_3b067 (i + 16) = l_cJ2_getChar_3b067_1[i]? := W_cJ2_getChar_3b067_0 (i + 16)
theorem W_cJ2_getChar_3b067_2 (i : Nat) : rd cJ2_getChar_3b067 (i + 32) = l_cJ2_getChar_3b067_2[i]? := W_cJ2_getChar_3b067_1 (i + 16)
theorem W_cJ2_getChar_3b067_3 (i : Nat) : rd cJ2_getChar_3b067 (i + 48) = l_cJ2_getChar_3b067_3[i]? := W_cJ2_getChar_3b067_2 (i + 16)
theorem dJ2_getChar_3b067_0 : dI cJ2_getChar_3b067 0 (.getstatic 44) 3 := op_178 (W_cJ2_getChar_3b067_0 0) (W_cJ2_getChar_3b067_0 1) (W_cJ2_getChar_3b067_0 2)
theorem dJ2_getChar_3b067_3 : dI cJ2_getChar_3b067 3 (.ifCond .ne 25) 3 := op_154 (W_cJ2_getChar_3b067_0 3) (W_cJ2_getChar_3b067_0 4) (W_cJ2_getChar_3b067_0 5) (by decide +kernel)
theorem dJ2_getChar_3b067_6 : dI cJ2_getChar_3b067 6 (.iload_n 1) 1 := op_27 (W_cJ2_getChar_3b067_0 6)
theorem dJ2_getChar_3b067_7 : dI cJ2_getChar_3b067 7 (.ifCond .lt 11) 3 := op_155 (W_cJ2_getChar_3b067_0 7) (W_cJ2_getChar_3b067_0 8) (W_cJ2_getChar_3b067_0 9) (by decide +kernel)
theorem dJ2_getChar_3b067_10 : dI cJ2_getChar_3b067 10 (.iload_n 1) 1 := op_27 (W_cJ2_getChar_3b067_0 10)
theorem dJ2_getChar_3b067_11 : dI cJ2_getChar_3b067 11 (.aload_n 0) 1 := op_42 (W_cJ2_getChar_3b067_0 11)
theorem dJ2_getChar_3b067_12 : dI cJ2_getChar_3b067 12 (.invokestatic 48) 3 := op_184 (W_cJ2_getChar_3b067_0 12) (W_cJ2_getChar_3b067_0 13) (W_cJ2_getChar_3b067_0 14)
theorem dJ2_getChar_3b067_15 : dI cJ2_getChar_3b067 15 (.if_icmp .lt 13) 3 := op_161 (W_cJ2_getChar_3b067_0 15) (W_cJ2_getChar_3b067_1 0) (W_cJ2_getChar_3b067_1 1) (by decide +kernel)
theorem dJ2_getChar_3b067_18 : dI cJ2_getChar_3b067 18 (.new 52) 3 := op_187 (W_cJ2_getChar_3b067_1 2) (W_cJ2_getChar_3b067_1 3) (W_cJ2_getChar_3b067_1 4)
theorem dJ2_getChar_3b067_21 : dI cJ2_getChar_3b067 21 (.dup) 1 := op_89 (W_cJ2_getChar_3b067_1 5)
theorem dJ2_getChar_3b067_22 : dI cJ2_getChar_3b067 22 (.ldc 54) 2 := op_18 (W_cJ2_getChar_3b067_1 6) (W_cJ2_getChar_3b067_1 7)
theorem dJ2_getChar_3b067_24 : dI cJ2_getChar_3b067 24 (.invokespecial 56) 3 := op_183 (W_cJ2_getChar_3b067_1 8) (W_cJ2_getChar_3b067_1 9) (W_cJ2_getChar_3b067_1 10)
theorem dJ2_getChar_3b067_27 : dI cJ2_getChar_3b067 27 (.athrow) 1 := op_191 (W_cJ2_getChar_3b067_1 11)
theorem dJ2_getChar_3b067_28 : dI cJ2_getChar_3b067 28 (.iload_n 1) 1 := op_27 (W_cJ2_getChar_3b067_1 12)
theorem dJ2_getChar_3b067_29 : dI cJ2_getChar_3b067 29 (.iconst 1) 1 := op_4 (W_cJ2_getChar_3b067_1 13)
theorem dJ2_getChar_3b067_30 : dI cJ2_getChar_3b067 30 (.ishl) 1 := op_120 (W_cJ2_getChar_3b067_1 14)
theorem dJ2_getChar_3b067_31 : dI cJ2_getChar_3b067 31 (.istore_n 1) 1 := op_60 (W_cJ2_getChar_3b067_1 15)
theorem dJ2_getChar_3b067_32 : dI cJ2_getChar_3b067 32 (.aload_n 0) 1 := op_42 (W_cJ2_getChar_3b067_2 0)
theorem dJ2_getChar_3b067_33 : dI cJ2_getChar_3b067 33 (.iload_n 1) 1 := op_27 (W_cJ2_getChar_3b067_2 1)
theorem dJ2_getChar_3b067_34 : decode cJ2_getChar_3b067 34 = .ok (.iinc 1 1, 3) := by decide +kernel
theorem dJ2_getChar_3b067_37 : dI cJ2_getChar_3b067 37 (.baload) 1 := op_51 (W_cJ2_getChar_3b067_2 5)
theorem dJ2_getChar_3b067_38 : dI cJ2_getChar_3b067 38 (.sipush 255) 3 := op_17 (W_cJ2_getChar_3b067_2 6) (W_cJ2_getChar_3b067_2 7) (W_cJ2_getChar_3b067_2 8) (by decide +kernel)
theorem dJ2_getChar_3b067_41 : dI cJ2_getChar_3b067 41 (.iand) 1 := op_126 (W_cJ2_getChar_3b067_2 9)
theorem dJ2_getChar_3b067_42 : dI cJ2_getChar_3b067 42 (.getstatic 59) 3 := op_178 (W_cJ2_getChar_3b067_2 10) (W_cJ2_getChar_3b067_2 11) (W_cJ2_getChar_3b067_2 12)
theorem dJ2_getChar_3b067_45 : dI cJ2_getChar_3b067 45 (.ishl) 1 := op_120 (W_cJ2_getChar_3b067_2 13)
theorem dJ2_getChar_3b067_46 : dI cJ2_getChar_3b067 46 (.aload_n 0) 1 := op_42 (W_cJ2_getChar_3b067_2 14)
theorem dJ2_getChar_3b067_47 : dI cJ2_getChar_3b067 47 (.iload_n 1) 1 := op_27 (W_cJ2_getChar_3b067_2 15)
theorem dJ2_getChar_3b067_48 : dI cJ2_getChar_3b067 48 (.baload) 1 := op_51 (W_cJ2_getChar_3b067_3 0)
theorem dJ2_getChar_3b067_49 : dI cJ2_getChar_3b067 49 (.sipush 255) 3 := op_17 (W_cJ2_getChar_3b067_3 1) (W_cJ2_getChar_3b067_3 2) (W_cJ2_getChar_3b067_3 3) (by decide +kernel)
theorem dJ2_getChar_3b067_52 : dI cJ2_getChar_3b067 52 (.iand) 1 := op_126 (W_cJ2_getChar_3b067_3 4)
theorem dJ2_getChar_3b067_53 : dI cJ2_getChar_3b067 53 (.getstatic 63) 3 := op_178 (W_cJ2_getChar_3b067_3 5) (W_cJ2_getChar_3b067_3 6) (W_cJ2_getChar_3b067_3 7)
theorem dJ2_getChar_3b067_56 : dI cJ2_getChar_3b067 56 (.ishl) 1 := op_120 (W_cJ2_getChar_3b067_3 8)
theorem dJ2_getChar_3b067_57 : dI cJ2_getChar_3b067 57 (.ior) 1 := op_128 (W_cJ2_getChar_3b067_3 9)
theorem dJ2_getChar_3b067_58 : dI cJ2_getChar_3b067 58 (.i2c) 1 := op_146 (W_cJ2_getChar_3b067_3 10)
theorem dJ2_getChar_3b067_59 : dI cJ2_getChar_3b067 59 (.ireturn) 1 := op_172 (W_cJ2_getChar_3b067_3 11)
def l_cJ2_length_9d52b_0 : List Nat := [42, 190, 4, 122, 172]
set_option maxRecDepth 1000000 in
theorem bs_cJ2_length_9d52b : cJ2_length_9d52b.data.toList.map (fun x => x.toNat) = l_cJ2_length_9d52b_0 := by decide +kernel
theorem W_cJ2_length_9d52b_0 (i : Nat) : rd cJ2_length_9d52b (i + 0) = l_cJ2_length_9d52b_0[i]? := by rw [← bs_cJ2_length_9d52b, List.getElem?_map]; rfl
theorem dJ2_length_9d52b_0 : dI cJ2_length_9d52b 0 (.aload_n 0) 1 := op_42 (W_cJ2_length_9d52b_0 0)
theorem dJ2_length_9d52b_1 : dI cJ2_length_9d52b 1 (.arraylength) 1 := op_190 (W_cJ2_length_9d52b_0 1)
theorem dJ2_length_9d52b_2 : dI cJ2_length_9d52b 2 (.iconst 1) 1 := op_4 (W_cJ2_length_9d52b_0 2)
theorem dJ2_length_9d52b_3 : dI cJ2_length_9d52b 3 (.ishr) 1 := op_122 (W_cJ2_length_9d52b_0 3)
theorem dJ2_length_9d52b_4 : dI cJ2_length_9d52b 4 (.ireturn) 1 := op_172 (W_cJ2_length_9d52b_0 4)
theorem gJ2_charAt_3b067_J2_checkIndex_2214a : GoodIn wsJ2_charAt_3b067 (va_wsS RJ2 67 yJ2_checkIndex_2214a wsJ2_checkIndex_2214a) := gw_c t_w207 (gw_c t_w206 (gw_c t_w192 (gw_c t_w205 (gw_t))))
theorem gJ2_charAt_3b067_J2_getChar_3b067 : GoodIn wsJ2_charAt_3b067 (va_wsS RJ2 71 yJ2_getChar_3b067 wsJ2_getChar_3b067) := gw_c t_w210 (gw_c t_w209 (gw_c t_w192 (gw_c t_w208 (gw_t))))
def l_cJ2_charAt_3b067_0 : List Nat := [27, 42, 184, 0, 67, 42, 27, 184, 0, 71, 172]
set_option maxRecDepth 1000000 in
theorem bs_cJ2_charAt_3b067 : cJ2_charAt_3b067.data.toList.map (fun x => x.toNat) = l_cJ2_charAt_3b067_0 := by decide +kernel
theorem W_cJ2_charAt_3b067_0 (i : Nat) : rd cJ2_charAt_3b067 (i + 0) = l_cJ2_charAt_3b067_0[i]? := by rw [← bs_cJ2_charAt_3b067, List.getElem?_map]; rfl
theorem dJ2_charAt_3b067_0 : dI cJ2_charAt_3b067 0 (.iload_n 1) 1 := op_27 (W_cJ2_charAt_3b067_0 0)
theorem dJ2_charAt_3b067_1 : dI cJ2_charAt_3b067 1 (.aload_n 0) 1 := op_42 (W_cJ2_charAt_3b067_0 1)
theorem dJ2_charAt_3b067_2 : dI cJ2_charAt_3b067 2 (.invokestatic 67) 3 := op_184 (W_cJ2_charAt_3b067_0 2) (W_cJ2_charAt_3b067_0 3) (W_cJ2_charAt_3b067_0 4)
theorem dJ2_charAt_3b067_5 : dI cJ2_charAt_3b067 5 (.aload_n 0) 1 := op_42 (W_cJ2_charAt_3b067_0 5)
theorem dJ2_charAt_3b067_6 : dI cJ2_charAt_3b067 6 (.iload_n 1) 1 := op_27 (W_cJ2_charAt_3b067_0 6)
theorem dJ2_charAt_3b067_7 : dI cJ2_charAt_3b067 7 (.invokestatic 71) 3 := op_184 (W_cJ2_charAt_3b067_0 7) (W_cJ2_charAt_3b067_0 8) (W_cJ2_charAt_3b067_0 9)
theorem dJ2_charAt_3b067_10 : dI cJ2_charAt_3b067 10 (.ireturn) 1 := op_172 (W_cJ2_charAt_3b067_0 10)
theorem gJ2_checkIndex_2214a_J2_length_9d52b : GoodIn wsJ2_checkIndex_2214a (va_wsS RJ2 48 yJ2_length_9d52b wsJ2_length_9d52b) := gw_c t_w204 (gw_c t_w203 (gw_c t_w192 (gw_c t_w202 (gw_t))))
theorem gJ2_checkIndex_2214a_J0_checkIndex_df160 : GoodIn wsJ2_checkIndex_2214a (va_wsS RJ2 414 yJ0_checkIndex_df160 wsJ0_checkIndex_df160) := gw_c t_w211 (gw_c t_w200 (gw_c t_w179 (gw_c t_w199 (gw_t))))
def l_cJ2_checkIndex_2214a_0 : List Nat := [26, 43, 184, 0, 48, 184, 1, 158, 177]
set_option maxRecDepth 1000000 in
theorem bs_cJ2_checkIndex_2214a : cJ2_checkIndex_2214a.data.toList.map (fun x => x.toNat) = l_cJ2_checkIndex_2214a_0 := by decide +kernel
theorem W_cJ2_checkIndex_2214a_0 (i : Nat) : rd cJ2_checkIndex_2214a (i + 0) = l_cJ2_checkIndex_2214a_0[i]? := by rw [← bs_cJ2_checkIndex_2214a, List.getElem?_map]; rfl
theorem dJ2_checkIndex_2214a_0 : dI cJ2_checkIndex_2214a 0 (.iload_n 0) 1 := op_26 (W_cJ2_checkIndex_2214a_0 0)
theorem dJ2_checkIndex_2214a_1 : dI cJ2_checkIndex_2214a 1 (.aload_n 1) 1 := op_43 (W_cJ2_checkIndex_2214a_0 1)
theorem dJ2_checkIndex_2214a_2 : dI cJ2_checkIndex_2214a 2 (.invokestatic 48) 3 := op_184 (W_cJ2_checkIndex_2214a_0 2) (W_cJ2_checkIndex_2214a_0 3) (W_cJ2_checkIndex_2214a_0 4)
theorem dJ2_checkIndex_2214a_5 : dI cJ2_checkIndex_2214a 5 (.invokestatic 414) 3 := op_184 (W_cJ2_checkIndex_2214a_0 5) (W_cJ2_checkIndex_2214a_0 6) (W_cJ2_checkIndex_2214a_0 7)
theorem dJ2_checkIndex_2214a_8 : dI cJ2_checkIndex_2214a 8 (.return_) 1 := op_177 (W_cJ2_checkIndex_2214a_0 8)
def l_cJ3_checkIndex_8e157_1 : List Nat := [26, 172]
def l_cJ3_checkIndex_8e157_0 : List Nat := 26 :: 155 :: 0 :: 8 :: 26 :: 27 :: 161 :: 0 :: 10 :: 44 :: 26 :: 27 :: 184 :: 0 :: 95 :: 191 :: l_cJ3_checkIndex_8e157_1
set_option maxRecDepth 1000000 in
theorem bs_cJ3_checkIndex_8e157 : cJ3_checkIndex_8e157.data.toList.map (fun x => x.toNat) = l_cJ3_checkIndex_8e157_0 := by decide +kernel
theorem W_cJ3_checkIndex_8e157_0 (i : Nat) : rd cJ3_checkIndex_8e157 (i + 0) = l_cJ3_checkIndex_8e157_0[i]? := by rw [← bs_cJ3_checkIndex_8e157, List.getElem?_map]; rfl
theorem W_cJ3_checkIndex_8e157_1 (i : Nat) : rd cJ3_checkIndex_8e157 (i + 16) = l_cJ3_checkIndex_8e157_1[i]? := W_cJ3_checkIndex_8e157_0 (i + 16)
theorem dJ3_checkIndex_8e157_0 : dI cJ3_checkIndex_8e157 0 (.iload_n 0) 1 := op_26 (W_cJ3_checkIndex_8e157_0 0)
theorem dJ3_checkIndex_8e157_1 : dI cJ3_checkIndex_8e157 1 (.ifCond .lt 8) 3 := op_155 (W_cJ3_checkIndex_8e157_0 1) (W_cJ3_checkIndex_8e157_0 2) (W_cJ3_checkIndex_8e157_0 3) (by decide +kernel)
theorem dJ3_checkIndex_8e157_4 : dI cJ3_checkIndex_8e157 4 (.iload_n 0) 1 := op_26 (W_cJ3_checkIndex_8e157_0 4)
theorem dJ3_checkIndex_8e157_5 : dI cJ3_checkIndex_8e157 5 (.iload_n 1) 1 := op_27 (W_cJ3_checkIndex_8e157_0 5)
theorem dJ3_checkIndex_8e157_6 : dI cJ3_checkIndex_8e157 6 (.if_icmp .lt 10) 3 := op_161 (W_cJ3_checkIndex_8e157_0 6) (W_cJ3_checkIndex_8e157_0 7) (W_cJ3_checkIndex_8e157_0 8) (by decide +kernel)
theorem dJ3_checkIndex_8e157_9 : dI cJ3_checkIndex_8e157 9 (.aload_n 2) 1 := op_44 (W_cJ3_checkIndex_8e157_0 9)
theorem dJ3_checkIndex_8e157_10 : dI cJ3_checkIndex_8e157 10 (.iload_n 0) 1 := op_26 (W_cJ3_checkIndex_8e157_0 10)
theorem dJ3_checkIndex_8e157_11 : dI cJ3_checkIndex_8e157 11 (.iload_n 1) 1 := op_27 (W_cJ3_checkIndex_8e157_0 11)
theorem dJ3_checkIndex_8e157_12 : dI cJ3_checkIndex_8e157 12 (.invokestatic 95) 3 := op_184 (W_cJ3_checkIndex_8e157_0 12) (W_cJ3_checkIndex_8e157_0 13) (W_cJ3_checkIndex_8e157_0 14)
theorem dJ3_checkIndex_8e157_15 : dI cJ3_checkIndex_8e157 15 (.athrow) 1 := op_191 (W_cJ3_checkIndex_8e157_0 15)
theorem dJ3_checkIndex_8e157_16 : dI cJ3_checkIndex_8e157 16 (.iload_n 0) 1 := op_26 (W_cJ3_checkIndex_8e157_1 0)
theorem dJ3_checkIndex_8e157_17 : dI cJ3_checkIndex_8e157 17 (.ireturn) 1 := op_172 (W_cJ3_checkIndex_8e157_1 1)
