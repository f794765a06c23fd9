theorem dX11_laysBeside_0 : decode cX11_laysBeside 0 = .ok (.aload_n 0, 1) := by decide +kernel
theorem dX11_laysBeside_1 : decode cX11_laysBeside 1 = .ok (.iload_n 1, 1) := by decide +kernel
theorem dX11_laysBeside_2 : decode cX11_laysBeside 2 = .ok (.iload_n 2, 1) := by decide +kernel
theorem dX11_laysBeside_3 : decode cX11_laysBeside 3 = .ok (.invokevirtual 101, 3) := by decide +kernel
theorem dX11_laysBeside_6 : decode cX11_laysBeside 6 = .ok (.istore 4, 2) := by decide +kernel
theorem dX11_laysBeside_8 : decode cX11_laysBeside 8 = .ok (.aload_n 0, 1) := by decide +kernel
theorem dX11_laysBeside_9 : decode cX11_laysBeside 9 = .ok (.iload_n 1, 1) := by decide +kernel
theorem dX11_laysBeside_10 : decode cX11_laysBeside 10 = .ok (.iload_n 2, 1) := by decide +kernel
theorem dX11_laysBeside_11 : decode cX11_laysBeside 11 = .ok (.invokevirtual 143, 3) := by decide +kernel
theorem dX11_laysBeside_14 : decode cX11_laysBeside 14 = .ok (.istore 5, 2) := by decide +kernel
theorem dX11_laysBeside_16 : decode cX11_laysBeside 16 = .ok (.aload_n 0, 1) := by decide +kernel
theorem dX11_laysBeside_17 : decode cX11_laysBeside 17 = .ok (.iload_n 1, 1) := by decide +kernel
theorem dX11_laysBeside_18 : decode cX11_laysBeside 18 = .ok (.iload 4, 2) := by decide +kernel
theorem dX11_laysBeside_20 : decode cX11_laysBeside 20 = .ok (.invokevirtual 115, 3) := by decide +kernel
theorem dX11_laysBeside_23 : decode cX11_laysBeside 23 = .ok (.istore 6, 2) := by decide +kernel
theorem dX11_laysBeside_25 : decode cX11_laysBeside 25 = .ok (.aload_n 0, 1) := by decide +kernel
theorem dX11_laysBeside_26 : decode cX11_laysBeside 26 = .ok (.iconst 0, 1) := by decide +kernel
theorem dX11_laysBeside_27 : decode cX11_laysBeside 27 = .ok (.putfield 257, 3) := by decide +kernel
theorem dX11_laysBeside_30 : decode cX11_laysBeside 30 = .ok (.iload_n 3, 1) := by decide +kernel
theorem dX11_laysBeside_31 : decode cX11_laysBeside 31 = .ok (.iconst 2, 1) := by decide +kernel
theorem dX11_laysBeside_32 : decode cX11_laysBeside 32 = .ok (.irem, 1) := by decide +kernel
theorem dX11_laysBeside_33 : decode cX11_laysBeside 33 = .ok (.iconst 1, 1) := by decide +kernel
theorem dX11_laysBeside_34 : decode cX11_laysBeside 34 = .ok (.if_icmp .ne 46, 3) := by decide +kernel
theorem dX11_laysBeside_37 : decode cX11_laysBeside 37 = .ok (.iload 6, 2) := by decide +kernel
theorem dX11_laysBeside_39 : decode cX11_laysBeside 39 = .ok (.iconst 1, 1) := by decide +kernel
theorem dX11_laysBeside_40 : decode cX11_laysBeside 40 = .ok (.if_icmp .ne 4, 3) := by decide +kernel
theorem dX11_laysBeside_43 : decode cX11_laysBeside 43 = .ok (.return_, 1) := by decide +kernel
theorem dX11_laysBeside_44 : decode cX11_laysBeside 44 = .ok (.aload_n 0, 1) := by decide +kernel
theorem dX11_laysBeside_45 : decode cX11_laysBeside 45 = .ok (.aload_n 0, 1) := by decide +kernel
theorem dX11_laysBeside_46 : decode cX11_laysBeside 46 = .ok (.iload_n 1, 1) := by decide +kernel
theorem dX11_laysBeside_47 : decode cX11_laysBeside 47 = .ok (.iload 4, 2) := by decide +kernel
theorem dX11_laysBeside_49 : decode cX11_laysBeside 49 = .ok (.iload 5, 2) := by decide +kernel
theorem dX11_laysBeside_51 : decode cX11_laysBeside 51 = .ok (.iload_n 3, 1) := by decide +kernel
theorem dX11_laysBeside_52 : decode cX11_laysBeside 52 = .ok (.iconst 1, 1) := by decide +kernel
theorem dX11_laysBeside_53 : decode cX11_laysBeside 53 = .ok (.if_icmp .ne 7, 3) := by decide +kernel
theorem dX11_laysBeside_56 : decode cX11_laysBeside 56 = .ok (.iconst 1, 1) := by decide +kernel
theorem dX11_laysBeside_57 : decode cX11_laysBeside 57 = .ok (.goto 7, 3) := by decide +kernel
theorem dX11_laysBeside_60 : decode cX11_laysBeside 60 = .ok (.iload 6, 2) := by decide +kernel
theorem dX11_laysBeside_62 : decode cX11_laysBeside 62 = .ok (.iconst 1, 1) := by decide +kernel
theorem dX11_laysBeside_63 : decode cX11_laysBeside 63 = .ok (.isub, 1) := by decide +kernel
theorem dX11_laysBeside_64 : decode cX11_laysBeside 64 = .ok (.iadd, 1) := by decide +kernel
theorem dX11_laysBeside_65 : decode cX11_laysBeside 65 = .ok (.iload 6, 2) := by decide +kernel
theorem dX11_laysBeside_67 : decode cX11_laysBeside 67 = .ok (.irem, 1) := by decide +kernel
theorem dX11_laysBeside_68 : decode cX11_laysBeside 68 = .ok (.invokevirtual 104, 3) := by decide +kernel
theorem dX11_laysBeside_71 : decode cX11_laysBeside 71 = .ok (.putfield 260, 3) := by decide +kernel
theorem dX11_laysBeside_74 : decode cX11_laysBeside 74 = .ok (.aload_n 0, 1) := by decide +kernel
theorem dX11_laysBeside_75 : decode cX11_laysBeside 75 = .ok (.iconst 1, 1) := by decide +kernel
theorem dX11_laysBeside_76 : decode cX11_laysBeside 76 = .ok (.putfield 257, 3) := by decide +kernel
theorem dX11_laysBeside_79 : decode cX11_laysBeside 79 = .ok (.return_, 1) := by decide +kernel
theorem dX11_laysBeside_80 : decode cX11_laysBeside 80 = .ok (.iload_n 3, 1) := by decide +kernel
theorem dX11_laysBeside_81 : decode cX11_laysBeside 81 = .ok (.ifCond .ne 10, 3) := by decide +kernel
theorem dX11_laysBeside_84 : decode cX11_laysBeside 84 = .ok (.iload 4, 2) := by decide +kernel
theorem dX11_laysBeside_86 : decode cX11_laysBeside 86 = .ok (.iconst 1, 1) := by decide +kernel
theorem dX11_laysBeside_87 : decode cX11_laysBeside 87 = .ok (.isub, 1) := by decide +kernel
theorem dX11_laysBeside_88 : decode cX11_laysBeside 88 = .ok (.goto 7, 3) := by decide +kernel
theorem dX11_laysBeside_91 : decode cX11_laysBeside 91 = .ok (.iload 4, 2) := by decide +kernel
theorem dX11_laysBeside_93 : decode cX11_laysBeside 93 = .ok (.iconst 1, 1) := by decide +kernel
theorem dX11_laysBeside_94 : decode cX11_laysBeside 94 = .ok (.iadd, 1) := by decide +kernel
theorem dX11_laysBeside_95 : decode cX11_laysBeside 95 = .ok (.istore 7, 2) := by decide +kernel
theorem dX11_laysBeside_97 : decode cX11_laysBeside 97 = .ok (.iload 7, 2) := by decide +kernel
theorem dX11_laysBeside_99 : decode cX11_laysBeside 99 = .ok (.i2l, 1) := by decide +kernel
theorem dX11_laysBeside_100 : decode cX11_laysBeside 100 = .ok (.lconst 0, 1) := by decide +kernel
theorem dX11_laysBeside_101 : decode cX11_laysBeside 101 = .ok (.aload_n 0, 1) := by decide +kernel
theorem dX11_laysBeside_102 : decode cX11_laysBeside 102 = .ok (.iload_n 1, 1) := by decide +kernel
theorem dX11_laysBeside_103 : decode cX11_laysBeside 103 = .ok (.invokevirtual 94, 3) := by decide +kernel
theorem dX11_laysBeside_106 : decode cX11_laysBeside 106 = .ok (.i2l, 1) := by decide +kernel
theorem dX11_laysBeside_107 : decode cX11_laysBeside 107 = .ok (.invokestatic 72, 3) := by decide +kernel
theorem dX11_laysBeside_110 : decode cX11_laysBeside 110 = .ok (.ifCond .ne 4, 3) := by decide +kernel
theorem dX11_laysBeside_113 : decode cX11_laysBeside 113 = .ok (.return_, 1) := by decide +kernel
theorem dX11_laysBeside_114 : decode cX11_laysBeside 114 = .ok (.aload_n 0, 1) := by decide +kernel
theorem dX11_laysBeside_115 : decode cX11_laysBeside 115 = .ok (.iload_n 1, 1) := by decide +kernel
theorem dX11_laysBeside_116 : decode cX11_laysBeside 116 = .ok (.iload 7, 2) := by decide +kernel
theorem dX11_laysBeside_118 : decode cX11_laysBeside 118 = .ok (.invokevirtual 115, 3) := by decide +kernel
theorem dX11_laysBeside_121 : decode cX11_laysBeside 121 = .ok (.i2l, 1) := by decide +kernel
theorem dX11_laysBeside_122 : decode cX11_laysBeside 122 = .ok (.lstore 8, 2) := by decide +kernel
theorem dX11_laysBeside_124 : decode cX11_laysBeside 124 = .ok (.iload 5, 2) := by decide +kernel
theorem dX11_laysBeside_126 : decode cX11_laysBeside 126 = .ok (.i2l, 1) := by decide +kernel
theorem dX11_laysBeside_127 : decode cX11_laysBeside 127 = .ok (.lload 8, 2) := by decide +kernel
theorem dX11_laysBeside_129 : decode cX11_laysBeside 129 = .ok (.lmul, 1) := by decide +kernel
theorem dX11_laysBeside_130 : decode cX11_laysBeside 130 = .ok (.iload 6, 2) := by decide +kernel
theorem dX11_laysBeside_132 : decode cX11_laysBeside 132 = .ok (.i2l, 1) := by decide +kernel
theorem dX11_laysBeside_133 : decode cX11_laysBeside 133 = .ok (.ldiv, 1) := by decide +kernel
theorem dX11_laysBeside_134 : decode cX11_laysBeside 134 = .ok (.lstore 10, 2) := by decide +kernel
theorem dX11_laysBeside_136 : decode cX11_laysBeside 136 = .ok (.iload 5, 2) := by decide +kernel
theorem dX11_laysBeside_138 : decode cX11_laysBeside 138 = .ok (.iconst 1, 1) := by decide +kernel
theorem dX11_laysBeside_139 : decode cX11_laysBeside 139 = .ok (.iadd, 1) := by decide +kernel
theorem dX11_laysBeside_140 : decode cX11_laysBeside 140 = .ok (.i2l, 1) := by decide +kernel
theorem dX11_laysBeside_141 : decode cX11_laysBeside 141 = .ok (.lload 8, 2) := by decide +kernel
theorem dX11_laysBeside_143 : decode cX11_laysBeside 143 = .ok (.lmul, 1) := by decide +kernel
theorem dX11_laysBeside_144 : decode cX11_laysBeside 144 = .ok (.iload 6, 2) := by decide +kernel
theorem dX11_laysBeside_146 : decode cX11_laysBeside 146 = .ok (.i2l, 1) := by decide +kernel
theorem dX11_laysBeside_147 : decode cX11_laysBeside 147 = .ok (.ladd, 1) := by decide +kernel
theorem dX11_laysBeside_148 : decode cX11_laysBeside 148 = .ok (.lconst 1, 1) := by decide +kernel
theorem dX11_laysBeside_149 : decode cX11_laysBeside 149 = .ok (.lsub, 1) := by decide +kernel
theorem dX11_laysBeside_150 : decode cX11_laysBeside 150 = .ok (.iload 6, 2) := by decide +kernel
theorem dX11_laysBeside_152 : decode cX11_laysBeside 152 = .ok (.i2l, 1) := by decide +kernel
theorem dX11_laysBeside_153 : decode cX11_laysBeside 153 = .ok (.ldiv, 1) := by decide +kernel
theorem dX11_laysBeside_154 : decode cX11_laysBeside 154 = .ok (.lstore 12, 2) := by decide +kernel
theorem dX11_laysBeside_156 : decode cX11_laysBeside 156 = .ok (.aload_n 0, 1) := by decide +kernel
theorem dX11_laysBeside_157 : decode cX11_laysBeside 157 = .ok (.aload_n 0, 1) := by decide +kernel
theorem dX11_laysBeside_158 : decode cX11_laysBeside 158 = .ok (.iload_n 1, 1) := by decide +kernel
theorem dX11_laysBeside_159 : decode cX11_laysBeside 159 = .ok (.iload 7, 2) := by decide +kernel
theorem dX11_laysBeside_161 : decode cX11_laysBeside 161 = .ok (.lload 10, 2) := by decide +kernel
theorem dX11_laysBeside_163 : decode cX11_laysBeside 163 = .ok (.l2i, 1) := by decide +kernel
theorem dX11_laysBeside_164 : decode cX11_laysBeside 164 = .ok (.invokevirtual 104, 3) := by decide +kernel
theorem dX11_laysBeside_167 : decode cX11_laysBeside 167 = .ok (.putfield 260, 3) := by decide +kernel
theorem dX11_laysBeside_170 : decode cX11_laysBeside 170 = .ok (.aload_n 0, 1) := by decide +kernel
theorem dX11_laysBeside_171 : decode cX11_laysBeside 171 = .ok (.lload 12, 2) := by decide +kernel
theorem dX11_laysBeside_173 : decode cX11_laysBeside 173 = .ok (.lload 10, 2) := by decide +kernel
theorem dX11_laysBeside_175 : decode cX11_laysBeside 175 = .ok (.lsub, 1) := by decide +kernel
theorem dX11_laysBeside_176 : decode cX11_laysBeside 176 = .ok (.l2i, 1) := by decide +kernel
theorem dX11_laysBeside_177 : decode cX11_laysBeside 177 = .ok (.putfield 257, 3) := by decide +kernel
theorem dX11_laysBeside_180 : decode cX11_laysBeside 180 = .ok (.return_, 1) := by decide +kernel
set_option maxRecDepth 20000 in
theorem ggX11_neighbour_X11_isKey : GoodIn wsX11_neighbour wsX11_isKey := goodIn_r _ [7, 8, 9, 6, 10, 11, 12, 13, 14, 15, 16, 17, 18, 19, 20, 21, 61, 62, 63, 64, 65, 66, 67, 68, 69, 70, 71, 72, 73, 74, 75, 76, 77, 78, 79, 80, 81, 82, 83, 84, 85, 86, 87, 88, 89, 90, 91, 92, 93, 94, 95, 96, 97, 98, 99, 100, 101, 102] (by decide +kernel) (by decide +kernel)
set_option maxRecDepth 20000 in
theorem gX11_neighbour_X11_isKey : GoodIn wsX11_neighbour (wsV RX11 153 RX11 yX11_isKey wsX11_isKey) := goodIn_app (goodIn_of _ (by decide +kernel)) ggX11_neighbour_X11_isKey
set_option maxRecDepth 20000 in
theorem ggX11_neighbour_X11_isSide : GoodIn wsX11_neighbour wsX11_isSide := goodIn_r _ [24, 25, 12, 13, 6, 14] (by decide +kernel) (by decide +kernel)
set_option maxRecDepth 20000 in
theorem gX11_neighbour_X11_isSide : GoodIn wsX11_neighbour (va_wsS RX11 263 yX11_isSide wsX11_isSide) := goodIn_app (goodIn_of _ (by decide +kernel)) ggX11_neighbour_X11_isSide
set_option maxRecDepth 20000 in
theorem ggX11_neighbour_X11_laysBeside : GoodIn wsX11_neighbour wsX11_laysBeside := goodIn_r _ [29, 1, 2, 30, 31, 32, 6, 33, 19, 20, 21, 15, 16, 17, 18, 34, 35, 36, 37, 38, 39, 40, 41, 42, 43, 44, 45, 46, 47, 48, 49, 50, 51, 52, 53, 54, 55, 56, 57, 58, 59, 60, 12, 13, 14, 61, 62, 63, 64, 65, 66, 67, 68, 69, 70, 71, 72, 73, 74, 75, 76, 77, 78, 79, 80, 81, 82, 83, 84, 85, 86, 87, 88, 89, 90, 91, 92, 93, 94, 95, 96, 97, 98, 99, 100, 101, 102] (by decide +kernel) (by decide +kernel)
set_option maxRecDepth 20000 in
theorem gX11_neighbour_X11_laysBeside : GoodIn wsX11_neighbour (wsV RX11 266 RX11 yX11_laysBeside wsX11_laysBeside) := goodIn_app (goodIn_of _ (by decide +kernel)) ggX11_neighbour_X11_laysBeside
theorem dX11_neighbour_0 : decode cX11_neighbour 0 = .ok (.aload_n 0, 1) := by decide +kernel
theorem dX11_neighbour_1 : decode cX11_neighbour 1 = .ok (.iload_n 1, 1) := by decide +kernel
theorem dX11_neighbour_2 : decode cX11_neighbour 2 = .ok (.iload_n 2, 1) := by decide +kernel
theorem dX11_neighbour_3 : decode cX11_neighbour 3 = .ok (.invokevirtual 153, 3) := by decide +kernel
theorem dX11_neighbour_6 : decode cX11_neighbour 6 = .ok (.ifCond .eq 16, 3) := by decide +kernel
theorem dX11_neighbour_9 : decode cX11_neighbour 9 = .ok (.iload_n 3, 1) := by decide +kernel
theorem dX11_neighbour_10 : decode cX11_neighbour 10 = .ok (.invokestatic 263, 3) := by decide +kernel
theorem dX11_neighbour_13 : decode cX11_neighbour 13 = .ok (.ifCond .eq 9, 3) := by decide +kernel
theorem dX11_neighbour_16 : decode cX11_neighbour 16 = .ok (.iload 4, 2) := by decide +kernel
theorem dX11_neighbour_18 : decode cX11_neighbour 18 = .ok (.iconst (-1), 1) := by decide +kernel
theorem dX11_neighbour_19 : decode cX11_neighbour 19 = .ok (.if_icmp .ge 5, 3) := by decide +kernel
theorem dX11_neighbour_22 : decode cX11_neighbour 22 = .ok (.iconst (-1), 1) := by decide +kernel
theorem dX11_neighbour_23 : decode cX11_neighbour 23 = .ok (.ireturn, 1) := by decide +kernel
theorem dX11_neighbour_24 : decode cX11_neighbour 24 = .ok (.aload_n 0, 1) := by decide +kernel
theorem dX11_neighbour_25 : decode cX11_neighbour 25 = .ok (.iload_n 1, 1) := by decide +kernel
theorem dX11_neighbour_26 : decode cX11_neighbour 26 = .ok (.iload_n 2, 1) := by decide +kernel
theorem dX11_neighbour_27 : decode cX11_neighbour 27 = .ok (.iload_n 3, 1) := by decide +kernel
theorem dX11_neighbour_28 : decode cX11_neighbour 28 = .ok (.invokevirtual 266, 3) := by decide +kernel
theorem dX11_neighbour_31 : decode cX11_neighbour 31 = .ok (.iload 4, 2) := by decide +kernel
theorem dX11_neighbour_33 : decode cX11_neighbour 33 = .ok (.iconst (-1), 1) := by decide +kernel
theorem dX11_neighbour_34 : decode cX11_neighbour 34 = .ok (.if_icmp .ne 10, 3) := by decide +kernel
theorem dX11_neighbour_37 : decode cX11_neighbour 37 = .ok (.aload_n 0, 1) := by decide +kernel
theorem dX11_neighbour_38 : decode cX11_neighbour 38 = .ok (.getfield 257, 3) := by decide +kernel
theorem dX11_neighbour_41 : decode cX11_neighbour 41 = .ok (.goto 24, 3) := by decide +kernel
theorem dX11_neighbour_44 : decode cX11_neighbour 44 = .ok (.iload 4, 2) := by decide +kernel
theorem dX11_neighbour_46 : decode cX11_neighbour 46 = .ok (.aload_n 0, 1) := by decide +kernel
theorem dX11_neighbour_47 : decode cX11_neighbour 47 = .ok (.getfield 257, 3) := by decide +kernel
theorem dX11_neighbour_50 : decode cX11_neighbour 50 = .ok (.if_icmp .ge 13, 3) := by decide +kernel
theorem dX11_neighbour_53 : decode cX11_neighbour 53 = .ok (.aload_n 0, 1) := by decide +kernel
theorem dX11_neighbour_54 : decode cX11_neighbour 54 = .ok (.getfield 260, 3) := by decide +kernel
theorem dX11_neighbour_57 : decode cX11_neighbour 57 = .ok (.iload 4, 2) := by decide +kernel
theorem dX11_neighbour_59 : decode cX11_neighbour 59 = .ok (.iadd, 1) := by decide +kernel
theorem dX11_neighbour_60 : decode cX11_neighbour 60 = .ok (.goto 5, 3) := by decide +kernel
theorem dX11_neighbour_63 : decode cX11_neighbour 63 = .ok (.bipush (-2), 2) := by decide +kernel
theorem dX11_neighbour_65 : decode cX11_neighbour 65 = .ok (.ireturn, 1) := by decide +kernel
set_option maxRecDepth 20000 in
theorem ggX11_besideAll_X11_laysBeside : GoodIn wsX11_besideAll wsX11_laysBeside := goodIn_r _ [7, 1, 2, 8, 9, 10, 6, 11, 12, 13, 14, 15, 16, 17, 18, 19, 20, 21, 22, 23, 24, 25, 26, 27, 28, 29, 30, 31, 32, 33, 34, 35, 36, 37, 38, 39, 40, 41, 42, 43, 44, 45, 46, 47, 48, 49, 50, 51, 52, 53, 54, 55, 56, 57, 58, 59, 60, 61, 62, 63, 64, 65, 66, 67, 68, 69, 70, 71, 72, 73, 74, 75, 76, 77, 78, 79, 80, 81, 82, 83, 84, 85, 86, 87, 88, 89, 90] (by decide +kernel) (by decide +kernel)
set_option maxRecDepth 20000 in
theorem gX11_besideAll_X11_laysBeside : GoodIn wsX11_besideAll (wsV RX11 266 RX11 yX11_laysBeside wsX11_laysBeside) := goodIn_app (goodIn_of _ (by decide +kernel)) ggX11_besideAll_X11_laysBeside
theorem dX11_besideAll_0 : decode cX11_besideAll 0 = .ok (.iload_n 3, 1) := by decide +kernel
theorem dX11_besideAll_1 : decode cX11_besideAll 1 = .ok (.istore 4, 2) := by decide +kernel
theorem dX11_besideAll_3 : decode cX11_besideAll 3 = .ok (.aload_n 0, 1) := by decide +kernel
theorem dX11_besideAll_4 : decode cX11_besideAll 4 = .ok (.iload_n 1, 1) := by decide +kernel
theorem dX11_besideAll_5 : decode cX11_besideAll 5 = .ok (.iload_n 2, 1) := by decide +kernel
theorem dX11_besideAll_6 : decode cX11_besideAll 6 = .ok (.iconst 0, 1) := by decide +kernel
theorem dX11_besideAll_7 : decode cX11_besideAll 7 = .ok (.invokevirtual 266, 3) := by decide +kernel
theorem dX11_besideAll_10 : decode cX11_besideAll 10 = .ok (.iload 4, 2) := by decide +kernel
theorem dX11_besideAll_12 : decode cX11_besideAll 12 = .ok (.aload_n 0, 1) := by decide +kernel
theorem dX11_besideAll_13 : decode cX11_besideAll 13 = .ok (.getfield 257, 3) := by decide +kernel
theorem dX11_besideAll_16 : decode cX11_besideAll 16 = .ok (.if_icmp .ge 11, 3) := by decide +kernel
theorem dX11_besideAll_19 : decode cX11_besideAll 19 = .ok (.aload_n 0, 1) := by decide +kernel
theorem dX11_besideAll_20 : decode cX11_besideAll 20 = .ok (.getfield 260, 3) := by decide +kernel
theorem dX11_besideAll_23 : decode cX11_besideAll 23 = .ok (.iload 4, 2) := by decide +kernel
theorem dX11_besideAll_25 : decode cX11_besideAll 25 = .ok (.iadd, 1) := by decide +kernel
theorem dX11_besideAll_26 : decode cX11_besideAll 26 = .ok (.ireturn, 1) := by decide +kernel
theorem dX11_besideAll_27 : decode cX11_besideAll 27 = .ok (.iload 4, 2) := by decide +kernel
theorem dX11_besideAll_29 : decode cX11_besideAll 29 = .ok (.aload_n 0, 1) := by decide +kernel
theorem dX11_besideAll_30 : decode cX11_besideAll 30 = .ok (.getfield 257, 3) := by decide +kernel
theorem dX11_besideAll_33 : decode cX11_besideAll 33 = .ok (.isub, 1) := by decide +kernel
theorem dX11_besideAll_34 : decode cX11_besideAll 34 = .ok (.istore 4, 2) := by decide +kernel
theorem dX11_besideAll_36 : decode cX11_besideAll 36 = .ok (.aload_n 0, 1) := by decide +kernel
theorem dX11_besideAll_37 : decode cX11_besideAll 37 = .ok (.iload_n 1, 1) := by decide +kernel
theorem dX11_besideAll_38 : decode cX11_besideAll 38 = .ok (.iload_n 2, 1) := by decide +kernel
theorem dX11_besideAll_39 : decode cX11_besideAll 39 = .ok (.iconst 1, 1) := by decide +kernel
theorem dX11_besideAll_40 : decode cX11_besideAll 40 = .ok (.invokevirtual 266, 3) := by decide +kernel
theorem dX11_besideAll_43 : decode cX11_besideAll 43 = .ok (.aload_n 0, 1) := by decide +kernel
theorem dX11_besideAll_44 : decode cX11_besideAll 44 = .ok (.getfield 260, 3) := by decide +kernel
theorem dX11_besideAll_47 : decode cX11_besideAll 47 = .ok (.istore 5, 2) := by decide +kernel
theorem dX11_besideAll_49 : decode cX11_besideAll 49 = .ok (.aload_n 0, 1) := by decide +kernel
theorem dX11_besideAll_50 : decode cX11_besideAll 50 = .ok (.getfield 257, 3) := by decide +kernel
theorem dX11_besideAll_53 : decode cX11_besideAll 53 = .ok (.istore 6, 2) := by decide +kernel
theorem dX11_besideAll_55 : decode cX11_besideAll 55 = .ok (.aload_n 0, 1) := by decide +kernel
theorem dX11_besideAll_56 : decode cX11_besideAll 56 = .ok (.iload_n 1, 1) := by decide +kernel
theorem dX11_besideAll_57 : decode cX11_besideAll 57 = .ok (.iload_n 2, 1) := by decide +kernel
theorem dX11_besideAll_58 : decode cX11_besideAll 58 = .ok (.iconst 3, 1) := by decide +kernel
theorem dX11_besideAll_59 : decode cX11_besideAll 59 = .ok (.invokevirtual 266, 3) := by decide +kernel
theorem dX11_besideAll_62 : decode cX11_besideAll 62 = .ok (.aload_n 0, 1) := by decide +kernel
theorem dX11_besideAll_63 : decode cX11_besideAll 63 = .ok (.getfield 260, 3) := by decide +kernel
theorem dX11_besideAll_66 : decode cX11_besideAll 66 = .ok (.istore 7, 2) := by decide +kernel
theorem dX11_besideAll_68 : decode cX11_besideAll 68 = .ok (.iload 6, 2) := by decide +kernel
theorem dX11_besideAll_70 : decode cX11_besideAll 70 = .ok (.iconst 1, 1) := by decide +kernel
theorem dX11_besideAll_71 : decode cX11_besideAll 71 = .ok (.if_icmp .ne 42, 3) := by decide +kernel
theorem dX11_besideAll_74 : decode cX11_besideAll 74 = .ok (.iload 4, 2) := by decide +kernel
theorem dX11_besideAll_76 : decode cX11_besideAll 76 = .ok (.iconst 2, 1) := by decide +kernel
theorem dX11_besideAll_77 : decode cX11_besideAll 77 = .ok (.if_icmp .ge 36, 3) := by decide +kernel
theorem dX11_besideAll_80 : decode cX11_besideAll 80 = .ok (.iload 4, 2) := by decide +kernel
theorem dX11_besideAll_82 : decode cX11_besideAll 82 = .ok (.ifCond .ne 7, 3) := by decide +kernel
theorem dX11_besideAll_85 : decode cX11_besideAll 85 = .ok (.iconst 1, 1) := by decide +kernel
theorem dX11_besideAll_86 : decode cX11_besideAll 86 = .ok (.goto 4, 3) := by decide +kernel
theorem dX11_besideAll_89 : decode cX11_besideAll 89 = .ok (.iconst 0, 1) := by decide +kernel
theorem dX11_besideAll_90 : decode cX11_besideAll 90 = .ok (.iload 5, 2) := by decide +kernel
theorem dX11_besideAll_92 : decode cX11_besideAll 92 = .ok (.iload 7, 2) := by decide +kernel
theorem dX11_besideAll_94 : decode cX11_besideAll 94 = .ok (.if_icmp .ge 7, 3) := by decide +kernel
theorem dX11_besideAll_97 : decode cX11_besideAll 97 = .ok (.iconst 1, 1) := by decide +kernel
theorem dX11_besideAll_98 : decode cX11_besideAll 98 = .ok (.goto 4, 3) := by decide +kernel
theorem dX11_besideAll_101 : decode cX11_besideAll 101 = .ok (.iconst 0, 1) := by decide +kernel
theorem dX11_besideAll_102 : decode cX11_besideAll 102 = .ok (.if_icmp .ne 8, 3) := by decide +kernel
theorem dX11_besideAll_105 : decode cX11_besideAll 105 = .ok (.iload 5, 2) := by decide +kernel
theorem dX11_besideAll_107 : decode cX11_besideAll 107 = .ok (.goto 5, 3) := by decide +kernel
theorem dX11_besideAll_110 : decode cX11_besideAll 110 = .ok (.iload 7, 2) := by decide +kernel
theorem dX11_besideAll_112 : decode cX11_besideAll 112 = .ok (.ireturn, 1) := by decide +kernel
theorem dX11_besideAll_113 : decode cX11_besideAll 113 = .ok (.iload 4, 2) := by decide +kernel
theorem dX11_besideAll_115 : decode cX11_besideAll 115 = .ok (.iconst 2, 1) := by decide +kernel
theorem dX11_besideAll_116 : decode cX11_besideAll 116 = .ok (.iload 6, 2) := by decide +kernel
theorem dX11_besideAll_118 : decode cX11_besideAll 118 = .ok (.imul, 1) := by decide +kernel
theorem dX11_besideAll_119 : decode cX11_besideAll 119 = .ok (.isub, 1) := by decide +kernel
theorem dX11_besideAll_120 : decode cX11_besideAll 120 = .ok (.istore 4, 2) := by decide +kernel
theorem dX11_besideAll_122 : decode cX11_besideAll 122 = .ok (.aload_n 0, 1) := by decide +kernel
theorem dX11_besideAll_123 : decode cX11_besideAll 123 = .ok (.iload_n 1, 1) := by decide +kernel
theorem dX11_besideAll_124 : decode cX11_besideAll 124 = .ok (.iload_n 2, 1) := by decide +kernel
theorem dX11_besideAll_125 : decode cX11_besideAll 125 = .ok (.iconst 2, 1) := by decide +kernel
theorem dX11_besideAll_126 : decode cX11_besideAll 126 = .ok (.invokevirtual 266, 3) := by decide +kernel
theorem dX11_besideAll_129 : decode cX11_besideAll 129 = .ok (.iload 4, 2) := by decide +kernel
theorem dX11_besideAll_131 : decode cX11_besideAll 131 = .ok (.aload_n 0, 1) := by decide +kernel
theorem dX11_besideAll_132 : decode cX11_besideAll 132 = .ok (.getfield 257, 3) := by decide +kernel
theorem dX11_besideAll_135 : decode cX11_besideAll 135 = .ok (.if_icmp .ge 13, 3) := by decide +kernel
theorem dX11_besideAll_138 : decode cX11_besideAll 138 = .ok (.aload_n 0, 1) := by decide +kernel
theorem dX11_besideAll_139 : decode cX11_besideAll 139 = .ok (.getfield 260, 3) := by decide +kernel
theorem dX11_besideAll_142 : decode cX11_besideAll 142 = .ok (.iload 4, 2) := by decide +kernel
theorem dX11_besideAll_144 : decode cX11_besideAll 144 = .ok (.iadd, 1) := by decide +kernel
theorem dX11_besideAll_145 : decode cX11_besideAll 145 = .ok (.goto 4, 3) := by decide +kernel
theorem dX11_besideAll_148 : decode cX11_besideAll 148 = .ok (.iconst (-1), 1) := by decide +kernel
theorem dX11_besideAll_149 : decode cX11_besideAll 149 = .ok (.ireturn, 1) := by decide +kernel
set_option maxRecDepth 20000 in
theorem ggX11_allBeside_X11_laysBeside : GoodIn wsX11_allBeside wsX11_laysBeside := goodIn_r _ [6, 1, 7, 8, 9, 10, 5, 11, 12, 13, 14, 15, 16, 17, 18, 19, 20, 21, 22, 23, 24, 25, 26, 27, 28, 29, 30, 31, 32, 33, 34, 35, 36, 37, 38, 39, 40, 41, 42, 43, 44, 45, 46, 47, 48, 49, 50, 51, 52, 53, 54, 55, 56, 57, 58, 59, 60, 61, 62, 63, 64, 65, 66, 67, 68, 69, 70, 71, 72, 73, 74, 75, 76, 77, 78, 79, 80, 81, 82, 83, 84, 85, 86, 87, 88, 89, 90] (by decide +kernel) (by decide +kernel)
set_option maxRecDepth 20000 in
theorem gX11_allBeside_X11_laysBeside : GoodIn wsX11_allBeside (wsV RX11 266 RX11 yX11_laysBeside wsX11_laysBeside) := goodIn_app (goodIn_of _ (by decide +kernel)) ggX11_allBeside_X11_laysBeside
theorem dX11_allBeside_0 : decode cX11_allBeside 0 = .ok (.iconst 0, 1) := by decide +kernel
theorem dX11_allBeside_1 : decode cX11_allBeside 1 = .ok (.istore_n 3, 1) := by decide +kernel
theorem dX11_allBeside_2 : decode cX11_allBeside 2 = .ok (.iconst 0, 1) := by decide +kernel
theorem dX11_allBeside_3 : decode cX11_allBeside 3 = .ok (.istore 4, 2) := by decide +kernel
theorem dX11_allBeside_5 : decode cX11_allBeside 5 = .ok (.iload 4, 2) := by decide +kernel
theorem dX11_allBeside_7 : decode cX11_allBeside 7 = .ok (.iconst 4, 1) := by decide +kernel
theorem dX11_allBeside_8 : decode cX11_allBeside 8 = .ok (.if_icmp .ge 24, 3) := by decide +kernel
theorem dX11_allBeside_11 : decode cX11_allBeside 11 = .ok (.aload_n 0, 1) := by decide +kernel
theorem dX11_allBeside_12 : decode cX11_allBeside 12 = .ok (.iload_n 1, 1) := by decide +kernel
theorem dX11_allBeside_13 : decode cX11_allBeside 13 = .ok (.iload_n 2, 1) := by decide +kernel
theorem dX11_allBeside_14 : decode cX11_allBeside 14 = .ok (.iload 4, 2) := by decide +kernel
theorem dX11_allBeside_16 : decode cX11_allBeside 16 = .ok (.invokevirtual 266, 3) := by decide +kernel
theorem dX11_allBeside_19 : decode cX11_allBeside 19 = .ok (.iload_n 3, 1) := by decide +kernel
theorem dX11_allBeside_20 : decode cX11_allBeside 20 = .ok (.aload_n 0, 1) := by decide +kernel
theorem dX11_allBeside_21 : decode cX11_allBeside 21 = .ok (.getfield 257, 3) := by decide +kernel
theorem dX11_allBeside_24 : decode cX11_allBeside 24 = .ok (.iadd, 1) := by decide +kernel
theorem dX11_allBeside_25 : decode cX11_allBeside 25 = .ok (.istore_n 3, 1) := by decide +kernel
theorem dX11_allBeside_26 : decode cX11_allBeside 26 = .ok (.iinc 4 1, 3) := by decide +kernel
theorem dX11_allBeside_29 : decode cX11_allBeside 29 = .ok (.goto (-24), 3) := by decide +kernel
theorem dX11_allBeside_32 : decode cX11_allBeside 32 = .ok (.iload_n 3, 1) := by decide +kernel
theorem dX11_allBeside_33 : decode cX11_allBeside 33 = .ok (.ireturn, 1) := by decide +kernel
set_option maxRecDepth 20000 in
theorem ggX11_around_X11_isKey : GoodIn wsX11_around wsX11_isKey := goodIn_r _ [5, 6, 7, 4, 8, 9, 10, 11, 12, 13, 14, 15, 16, 17, 18, 19, 65, 66, 67, 68, 69, 70, 71, 72, 73, 74, 75, 76, 77, 78, 79, 80, 81, 82, 83, 84, 85, 86, 87, 88, 89, 90, 91, 92, 93, 94, 95, 96, 97, 98, 99, 100, 101, 102, 103, 104, 105, 106] (by decide +kernel) (by decide +kernel)
set_option maxRecDepth 20000 in
theorem gX11_around_X11_isKey : GoodIn wsX11_around (wsV RX11 153 RX11 yX11_isKey wsX11_isKey) := goodIn_app (goodIn_of _ (by decide +kernel)) ggX11_around_X11_isKey
set_option maxRecDepth 20000 in
theorem ggX11_around_X11_allBeside : GoodIn wsX11_around wsX11_allBeside := goodIn_r _ [23, 24, 25, 26, 27, 4, 28, 29, 30, 31, 32, 33, 17, 18, 19, 13, 14, 15, 16, 34, 35, 36, 37, 38, 39, 40, 41, 42, 43, 44, 45, 46, 47, 48, 49, 50, 51, 52, 53, 54, 55, 56, 57, 58, 59, 60, 10, 11, 12, 65, 66, 67, 68, 69, 70, 71, 72, 73, 74, 75, 76, 77, 78, 79, 80, 81, 82, 83, 84, 85, 86, 87, 88, 89, 90, 91, 92, 93, 94, 95, 96, 97, 98, 99, 100, 101, 102, 103, 104, 105, 106] (by decide +kernel) (by decide +kernel)
set_option maxRecDepth 20000 in
theorem gX11_around_X11_allBeside : GoodIn wsX11_around (wsV RX11 270 RX11 yX11_allBeside wsX11_allBeside) := goodIn_app (goodIn_of _ (by decide +kernel)) ggX11_around_X11_allBeside
set_option maxRecDepth 20000 in
theorem ggX11_around_X11_besideAll : GoodIn wsX11_around wsX11_besideAll := goodIn_r _ [64, 24, 29, 25, 26, 27, 4, 28, 30, 31, 32, 33, 17, 18, 19, 13, 14, 15, 16, 34, 35, 36, 37, 38, 39, 40, 41, 42, 43, 44, 45, 46, 47, 48, 49, 50, 51, 52, 53, 54, 55, 56, 57, 58, 59, 60, 10, 11, 12, 65, 66, 67, 68, 69, 70, 71, 72, 73, 74, 75, 76, 77, 78, 79, 80, 81, 82, 83, 84, 85, 86, 87, 88, 89, 90, 91, 92, 93, 94, 95, 96, 97, 98, 99, 100, 101, 102, 103, 104, 105, 106] (by decide +kernel) (by decide +kernel)
set_option maxRecDepth 20000 in
theorem gX11_around_X11_besideAll : GoodIn wsX11_around (wsV RX11 273 RX11 yX11_besideAll wsX11_besideAll) := goodIn_app (goodIn_of _ (by decide +kernel)) ggX11_around_X11_besideAll
theorem dX11_around_0 : decode cX11_around 0 = .ok (.aload_n 0, 1) := by decide +kernel
theorem dX11_around_1 : decode cX11_around 1 = .ok (.iload_n 1, 1) := by decide +kernel
theorem dX11_around_2 : decode cX11_around 2 = .ok (.iload_n 2, 1) := by decide +kernel
theorem dX11_around_3 : decode cX11_around 3 = .ok (.invokevirtual 153, 3) := by decide +kernel
theorem dX11_around_6 : decode cX11_around 6 = .ok (.ifCond .eq 8, 3) := by decide +kernel
theorem dX11_around_9 : decode cX11_around 9 = .ok (.iload_n 3, 1) := by decide +kernel
theorem dX11_around_10 : decode cX11_around 10 = .ok (.iconst (-1), 1) := by decide +kernel
theorem dX11_around_11 : decode cX11_around 11 = .ok (.if_icmp .ge 5, 3) := by decide +kernel
theorem dX11_around_14 : decode cX11_around 14 = .ok (.iconst (-1), 1) := by decide +kernel
theorem dX11_around_15 : decode cX11_around 15 = .ok (.ireturn, 1) := by decide +kernel
theorem dX11_around_16 : decode cX11_around 16 = .ok (.aload_n 0, 1) := by decide +kernel
theorem dX11_around_17 : decode cX11_around 17 = .ok (.iload_n 1, 1) := by decide +kernel
theorem dX11_around_18 : decode cX11_around 18 = .ok (.iload_n 2, 1) := by decide +kernel
theorem dX11_around_19 : decode cX11_around 19 = .ok (.invokevirtual 270, 3) := by decide +kernel
theorem dX11_around_22 : decode cX11_around 22 = .ok (.istore 4, 2) := by decide +kernel
theorem dX11_around_24 : decode cX11_around 24 = .ok (.iload_n 3, 1) := by decide +kernel
theorem dX11_around_25 : decode cX11_around 25 = .ok (.iconst (-1), 1) := by decide +kernel
theorem dX11_around_26 : decode cX11_around 26 = .ok (.if_icmp .ne 8, 3) := by decide +kernel
theorem dX11_around_29 : decode cX11_around 29 = .ok (.iload 4, 2) := by decide +kernel
theorem dX11_around_31 : decode cX11_around 31 = .ok (.goto 21, 3) := by decide +kernel
theorem dX11_around_34 : decode cX11_around 34 = .ok (.iload_n 3, 1) := by decide +kernel
theorem dX11_around_35 : decode cX11_around 35 = .ok (.iload 4, 2) := by decide +kernel
theorem dX11_around_37 : decode cX11_around 37 = .ok (.if_icmp .ge 13, 3) := by decide +kernel
theorem dX11_around_40 : decode cX11_around 40 = .ok (.aload_n 0, 1) := by decide +kernel
theorem dX11_around_41 : decode cX11_around 41 = .ok (.iload_n 1, 1) := by decide +kernel
theorem dX11_around_42 : decode cX11_around 42 = .ok (.iload_n 2, 1) := by decide +kernel
theorem dX11_around_43 : decode cX11_around 43 = .ok (.iload_n 3, 1) := by decide +kernel
theorem dX11_around_44 : decode cX11_around 44 = .ok (.invokevirtual 273, 3) := by decide +kernel
theorem dX11_around_47 : decode cX11_around 47 = .ok (.goto 5, 3) := by decide +kernel
theorem dX11_around_50 : decode cX11_around 50 = .ok (.bipush (-2), 2) := by decide +kernel
theorem dX11_around_52 : decode cX11_around 52 = .ok (.ireturn, 1) := by decide +kernel
set_option maxRecDepth 20000 in
theorem ggX11_side_X11_isKey : GoodIn wsX11_side wsX11_isKey := goodIn_r _ [7, 8, 9, 6, 10, 11, 12, 13, 14, 15, 16, 17, 18, 19, 20, 21, 57, 58, 59, 60, 61, 62, 63, 64, 65, 66, 67, 68, 69, 70, 71, 72, 73, 74, 75, 76, 77, 78, 79, 80, 81, 82, 83, 84, 85, 86, 87, 88, 89, 90, 91, 92, 93, 94, 95, 96, 97, 98] (by decide +kernel) (by decide +kernel)
set_option maxRecDepth 20000 in
theorem gX11_side_X11_isKey : GoodIn wsX11_side (wsV RX11 153 RX11 yX11_isKey wsX11_isKey) := goodIn_app (goodIn_of _ (by decide +kernel)) ggX11_side_X11_isKey
set_option maxRecDepth 20000 in
theorem ggX11_side_X11_laysBeside : GoodIn wsX11_side wsX11_laysBeside := goodIn_r _ [25, 2, 1, 26, 27, 28, 6, 29, 19, 20, 21, 15, 16, 17, 18, 30, 31, 32, 33, 34, 35, 36, 37, 38, 39, 40, 41, 42, 43, 44, 45, 46, 47, 48, 49, 50, 51, 52, 53, 54, 55, 56, 12, 13, 14, 57, 58, 59, 60, 61, 62, 63, 64, 65, 66, 67, 68, 69, 70, 71, 72, 73, 74, 75, 76, 77, 78, 79, 80, 81, 82, 83, 84, 85, 86, 87, 88, 89, 90, 91, 92, 93, 94, 95, 96, 97, 98] (by decide +kernel) (by decide +kernel)
set_option maxRecDepth 20000 in
theorem gX11_side_X11_laysBeside : GoodIn wsX11_side (wsV RX11 266 RX11 yX11_laysBeside wsX11_laysBeside) := goodIn_app (goodIn_of _ (by decide +kernel)) ggX11_side_X11_laysBeside
set_option maxRecDepth 20000 in
theorem ggX11_side_X11_in : GoodIn wsX11_side wsX11_in := goodIn_r _ [14] (by decide +kernel) (by decide +kernel)
set_option maxRecDepth 20000 in
theorem gX11_side_X11_in : GoodIn wsX11_side (va_wsS RX11 72 yX11_in wsX11_in) := goodIn_app (goodIn_of _ (by decide +kernel)) ggX11_side_X11_in
theorem dX11_side_0 : decode cX11_side 0 = .ok (.aload_n 0, 1) := by decide +kernel
theorem dX11_side_1 : decode cX11_side 1 = .ok (.iload_n 1, 1) := by decide +kernel
theorem dX11_side_2 : decode cX11_side 2 = .ok (.iload_n 2, 1) := by decide +kernel
theorem dX11_side_3 : decode cX11_side 3 = .ok (.invokevirtual 153, 3) := by decide +kernel
theorem dX11_side_6 : decode cX11_side 6 = .ok (.ifCond .eq 17, 3) := by decide +kernel
theorem dX11_side_9 : decode cX11_side 9 = .ok (.aload_n 0, 1) := by decide +kernel
theorem dX11_side_10 : decode cX11_side 10 = .ok (.iload_n 1, 1) := by decide +kernel
theorem dX11_side_11 : decode cX11_side 11 = .ok (.iload_n 3, 1) := by decide +kernel
theorem dX11_side_12 : decode cX11_side 12 = .ok (.invokevirtual 153, 3) := by decide +kernel
theorem dX11_side_15 : decode cX11_side 15 = .ok (.ifCond .eq 8, 3) := by decide +kernel
theorem dX11_side_18 : decode cX11_side 18 = .ok (.iload_n 2, 1) := by decide +kernel
theorem dX11_side_19 : decode cX11_side 19 = .ok (.iload_n 3, 1) := by decide +kernel
theorem dX11_side_20 : decode cX11_side 20 = .ok (.if_icmp .ne 5, 3) := by decide +kernel
theorem dX11_side_23 : decode cX11_side 23 = .ok (.iconst (-1), 1) := by decide +kernel
theorem dX11_side_24 : decode cX11_side 24 = .ok (.ireturn, 1) := by decide +kernel
theorem dX11_side_25 : decode cX11_side 25 = .ok (.iconst 0, 1) := by decide +kernel
theorem dX11_side_26 : decode cX11_side 26 = .ok (.istore 4, 2) := by decide +kernel
theorem dX11_side_28 : decode cX11_side 28 = .ok (.iload 4, 2) := by decide +kernel
theorem dX11_side_30 : decode cX11_side 30 = .ok (.iconst 4, 1) := by decide +kernel
theorem dX11_side_31 : decode cX11_side 31 = .ok (.if_icmp .ge 45, 3) := by decide +kernel
theorem dX11_side_34 : decode cX11_side 34 = .ok (.aload_n 0, 1) := by decide +kernel
theorem dX11_side_35 : decode cX11_side 35 = .ok (.iload_n 1, 1) := by decide +kernel
theorem dX11_side_36 : decode cX11_side 36 = .ok (.iload_n 2, 1) := by decide +kernel
theorem dX11_side_37 : decode cX11_side 37 = .ok (.iload 4, 2) := by decide +kernel
theorem dX11_side_39 : decode cX11_side 39 = .ok (.invokevirtual 266, 3) := by decide +kernel
theorem dX11_side_42 : decode cX11_side 42 = .ok (.iload_n 3, 1) := by decide +kernel
theorem dX11_side_43 : decode cX11_side 43 = .ok (.i2l, 1) := by decide +kernel
theorem dX11_side_44 : decode cX11_side 44 = .ok (.aload_n 0, 1) := by decide +kernel
theorem dX11_side_45 : decode cX11_side 45 = .ok (.getfield 260, 3) := by decide +kernel
theorem dX11_side_48 : decode cX11_side 48 = .ok (.i2l, 1) := by decide +kernel
theorem dX11_side_49 : decode cX11_side 49 = .ok (.aload_n 0, 1) := by decide +kernel
theorem dX11_side_50 : decode cX11_side 50 = .ok (.getfield 260, 3) := by decide +kernel
theorem dX11_side_53 : decode cX11_side 53 = .ok (.aload_n 0, 1) := by decide +kernel
theorem dX11_side_54 : decode cX11_side 54 = .ok (.getfield 257, 3) := by decide +kernel
theorem dX11_side_57 : decode cX11_side 57 = .ok (.iadd, 1) := by decide +kernel
theorem dX11_side_58 : decode cX11_side 58 = .ok (.iconst 1, 1) := by decide +kernel
theorem dX11_side_59 : decode cX11_side 59 = .ok (.isub, 1) := by decide +kernel
theorem dX11_side_60 : decode cX11_side 60 = .ok (.i2l, 1) := by decide +kernel
theorem dX11_side_61 : decode cX11_side 61 = .ok (.invokestatic 72, 3) := by decide +kernel
theorem dX11_side_64 : decode cX11_side 64 = .ok (.ifCond .eq 6, 3) := by decide +kernel
theorem dX11_side_67 : decode cX11_side 67 = .ok (.iload 4, 2) := by decide +kernel
theorem dX11_side_69 : decode cX11_side 69 = .ok (.ireturn, 1) := by decide +kernel
theorem dX11_side_70 : decode cX11_side 70 = .ok (.iinc 4 1, 3) := by decide +kernel
theorem dX11_side_73 : decode cX11_side 73 = .ok (.goto (-45), 3) := by decide +kernel
theorem dX11_side_76 : decode cX11_side 76 = .ok (.bipush (-2), 2) := by decide +kernel
theorem dX11_side_78 : decode cX11_side 78 = .ok (.ireturn, 1) := by decide +kernel
theorem dX11_meets_0 : decode cX11_meets 0 = .ok (.aload_n 0, 1) := by decide +kernel
theorem dX11_meets_1 : decode cX11_meets 1 = .ok (.getfield 39, 3) := by decide +kernel
theorem dX11_meets_4 : decode cX11_meets 4 = .ok (.iload_n 1, 1) := by decide +kernel
theorem dX11_meets_5 : decode cX11_meets 5 = .ok (.iaload, 1) := by decide +kernel
theorem dX11_meets_6 : decode cX11_meets 6 = .ok (.iconst (-1), 1) := by decide +kernel
theorem dX11_meets_7 : decode cX11_meets 7 = .ok (.if_icmp .eq 4, 3) := by decide +kernel
theorem dX11_meets_10 : decode cX11_meets 10 = .ok (.return_, 1) := by decide +kernel
theorem dX11_meets_11 : decode cX11_meets 11 = .ok (.aload_n 0, 1) := by decide +kernel
theorem dX11_meets_12 : decode cX11_meets 12 = .ok (.getfield 39, 3) := by decide +kernel
theorem dX11_meets_15 : decode cX11_meets 15 = .ok (.iload_n 1, 1) := by decide +kernel
theorem dX11_meets_16 : decode cX11_meets 16 = .ok (.iload_n 2, 1) := by decide +kernel
theorem dX11_meets_17 : decode cX11_meets 17 = .ok (.iastore, 1) := by decide +kernel
theorem dX11_meets_18 : decode cX11_meets 18 = .ok (.aload_n 0, 1) := by decide +kernel
theorem dX11_meets_19 : decode cX11_meets 19 = .ok (.getfield 42, 3) := by decide +kernel
theorem dX11_meets_22 : decode cX11_meets 22 = .ok (.aload_n 0, 1) := by decide +kernel
theorem dX11_meets_23 : decode cX11_meets 23 = .ok (.getfield 276, 3) := by decide +kernel
theorem dX11_meets_26 : decode cX11_meets 26 = .ok (.iload_n 1, 1) := by decide +kernel
theorem dX11_meets_27 : decode cX11_meets 27 = .ok (.iastore, 1) := by decide +kernel
theorem dX11_meets_28 : decode cX11_meets 28 = .ok (.aload_n 0, 1) := by decide +kernel
theorem dX11_meets_29 : decode cX11_meets 29 = .ok (.aload_n 0, 1) := by decide +kernel
theorem dX11_meets_30 : decode cX11_meets 30 = .ok (.getfield 276, 3) := by decide +kernel
theorem dX11_meets_33 : decode cX11_meets 33 = .ok (.iconst 1, 1) := by decide +kernel
theorem dX11_meets_34 : decode cX11_meets 34 = .ok (.iadd, 1) := by decide +kernel
theorem dX11_meets_35 : decode cX11_meets 35 = .ok (.putfield 276, 3) := by decide +kernel
theorem dX11_meets_38 : decode cX11_meets 38 = .ok (.return_, 1) := by decide +kernel
set_option maxRecDepth 20000 in
theorem ggX11_laysSteps_X11_sheets : GoodIn wsX11_laysSteps wsX11_sheets := goodIn_r _ [10, 11, 12, 13, 56, 57, 58, 59, 60, 61, 62, 63, 64, 65, 66, 67, 68, 69, 70, 71, 72, 73, 74, 75, 76, 77, 78, 79, 80, 81, 82, 83, 84, 85, 86, 87, 88, 89, 90, 91, 92, 93, 94, 95, 96, 97] (by decide +kernel) (by decide +kernel)
set_option maxRecDepth 20000 in
theorem gX11_laysSteps_X11_sheets : GoodIn wsX11_laysSteps (wsV RX11 88 RX11 yX11_sheets wsX11_sheets) := goodIn_app (goodIn_of _ (by decide +kernel)) ggX11_laysSteps_X11_sheets
set_option maxRecDepth 20000 in
theorem ggX11_laysSteps_X11_meets : GoodIn wsX11_laysSteps wsX11_meets := goodIn_r _ [17, 1, 3, 2, 56, 57, 58, 59, 60, 61, 62, 63, 64, 65, 66, 67, 68, 69, 70, 71, 72, 73, 74, 75, 76, 77, 78, 79, 80, 81, 82, 83, 84, 85, 86, 87, 88, 89, 90, 91, 92, 93, 94, 95, 96, 97] (by decide +kernel) (by decide +kernel)
set_option maxRecDepth 20000 in
theorem gX11_laysSteps_X11_meets : GoodIn wsX11_laysSteps (wsV RX11 279 RX11 yX11_meets wsX11_meets) := goodIn_app (goodIn_of _ (by decide +kernel)) ggX11_laysSteps_X11_meets
set_option maxRecDepth 20000 in
theorem ggX11_laysSteps_X11_laysBeside : GoodIn wsX11_laysSteps wsX11_laysBeside := goodIn_r _ [21, 4, 5, 22, 23, 24, 9, 25, 11, 12, 13, 6, 7, 8, 10, 26, 27, 28, 29, 30, 31, 32, 33, 34, 35, 36, 37, 38, 39, 40, 41, 42, 43, 44, 45, 46, 47, 48, 49, 50, 51, 52, 53, 54, 55, 56, 57, 58, 59, 60, 61, 62, 63, 64, 65, 66, 67, 68, 69, 70, 71, 72, 73, 74, 75, 76, 77, 78, 79, 80, 81, 82, 83, 84, 85, 86, 87, 88, 89, 90, 91, 92, 93, 94, 95, 96, 97] (by decide +kernel) (by decide +kernel)
set_option maxRecDepth 20000 in
theorem gX11_laysSteps_X11_laysBeside : GoodIn wsX11_laysSteps (wsV RX11 266 RX11 yX11_laysBeside wsX11_laysBeside) := goodIn_app (goodIn_of _ (by decide +kernel)) ggX11_laysSteps_X11_laysBeside
theorem dX11_laysSteps_0 : decode cX11_laysSteps 0 = .ok (.iconst 0, 1) := by decide +kernel
theorem dX11_laysSteps_1 : decode cX11_laysSteps 1 = .ok (.istore_n 3, 1) := by decide +kernel
theorem dX11_laysSteps_2 : decode cX11_laysSteps 2 = .ok (.iload_n 3, 1) := by decide +kernel
theorem dX11_laysSteps_3 : decode cX11_laysSteps 3 = .ok (.aload_n 0, 1) := by decide +kernel
theorem dX11_laysSteps_4 : decode cX11_laysSteps 4 = .ok (.iload_n 1, 1) := by decide +kernel
theorem dX11_laysSteps_5 : decode cX11_laysSteps 5 = .ok (.invokevirtual 88, 3) := by decide +kernel
theorem dX11_laysSteps_8 : decode cX11_laysSteps 8 = .ok (.if_icmp .ge 16, 3) := by decide +kernel
theorem dX11_laysSteps_11 : decode cX11_laysSteps 11 = .ok (.aload_n 0, 1) := by decide +kernel
theorem dX11_laysSteps_12 : decode cX11_laysSteps 12 = .ok (.getfield 39, 3) := by decide +kernel
theorem dX11_laysSteps_15 : decode cX11_laysSteps 15 = .ok (.iload_n 3, 1) := by decide +kernel
theorem dX11_laysSteps_16 : decode cX11_laysSteps 16 = .ok (.iconst (-1), 1) := by decide +kernel
theorem dX11_laysSteps_17 : decode cX11_laysSteps 17 = .ok (.iastore, 1) := by decide +kernel
theorem dX11_laysSteps_18 : decode cX11_laysSteps 18 = .ok (.iinc 3 1, 3) := by decide +kernel
theorem dX11_laysSteps_21 : decode cX11_laysSteps 21 = .ok (.goto (-19), 3) := by decide +kernel
theorem dX11_laysSteps_24 : decode cX11_laysSteps 24 = .ok (.aload_n 0, 1) := by decide +kernel
theorem dX11_laysSteps_25 : decode cX11_laysSteps 25 = .ok (.iconst 0, 1) := by decide +kernel
theorem dX11_laysSteps_26 : decode cX11_laysSteps 26 = .ok (.putfield 276, 3) := by decide +kernel
theorem dX11_laysSteps_29 : decode cX11_laysSteps 29 = .ok (.aload_n 0, 1) := by decide +kernel
theorem dX11_laysSteps_30 : decode cX11_laysSteps 30 = .ok (.iload_n 2, 1) := by decide +kernel
theorem dX11_laysSteps_31 : decode cX11_laysSteps 31 = .ok (.iconst 0, 1) := by decide +kernel
theorem dX11_laysSteps_32 : decode cX11_laysSteps 32 = .ok (.invokevirtual 279, 3) := by decide +kernel
theorem dX11_laysSteps_35 : decode cX11_laysSteps 35 = .ok (.iconst 0, 1) := by decide +kernel
theorem dX11_laysSteps_36 : decode cX11_laysSteps 36 = .ok (.istore_n 3, 1) := by decide +kernel
theorem dX11_laysSteps_37 : decode cX11_laysSteps 37 = .ok (.iload_n 3, 1) := by decide +kernel
theorem dX11_laysSteps_38 : decode cX11_laysSteps 38 = .ok (.aload_n 0, 1) := by decide +kernel
theorem dX11_laysSteps_39 : decode cX11_laysSteps 39 = .ok (.getfield 276, 3) := by decide +kernel
theorem dX11_laysSteps_42 : decode cX11_laysSteps 42 = .ok (.if_icmp .ge 79, 3) := by decide +kernel
theorem dX11_laysSteps_45 : decode cX11_laysSteps 45 = .ok (.aload_n 0, 1) := by decide +kernel
theorem dX11_laysSteps_46 : decode cX11_laysSteps 46 = .ok (.getfield 42, 3) := by decide +kernel
theorem dX11_laysSteps_49 : decode cX11_laysSteps 49 = .ok (.iload_n 3, 1) := by decide +kernel
theorem dX11_laysSteps_50 : decode cX11_laysSteps 50 = .ok (.iaload, 1) := by decide +kernel
theorem dX11_laysSteps_51 : decode cX11_laysSteps 51 = .ok (.istore 4, 2) := by decide +kernel
theorem dX11_laysSteps_53 : decode cX11_laysSteps 53 = .ok (.iconst 0, 1) := by decide +kernel
theorem dX11_laysSteps_54 : decode cX11_laysSteps 54 = .ok (.istore 5, 2) := by decide +kernel
theorem dX11_laysSteps_56 : decode cX11_laysSteps 56 = .ok (.iload 5, 2) := by decide +kernel
theorem dX11_laysSteps_58 : decode cX11_laysSteps 58 = .ok (.iconst 4, 1) := by decide +kernel
theorem dX11_laysSteps_59 : decode cX11_laysSteps 59 = .ok (.if_icmp .ge 56, 3) := by decide +kernel
theorem dX11_laysSteps_62 : decode cX11_laysSteps 62 = .ok (.aload_n 0, 1) := by decide +kernel
theorem dX11_laysSteps_63 : decode cX11_laysSteps 63 = .ok (.iload_n 1, 1) := by decide +kernel
theorem dX11_laysSteps_64 : decode cX11_laysSteps 64 = .ok (.iload 4, 2) := by decide +kernel
theorem dX11_laysSteps_66 : decode cX11_laysSteps 66 = .ok (.iload 5, 2) := by decide +kernel
theorem dX11_laysSteps_68 : decode cX11_laysSteps 68 = .ok (.invokevirtual 266, 3) := by decide +kernel
theorem dX11_laysSteps_71 : decode cX11_laysSteps 71 = .ok (.iconst 0, 1) := by decide +kernel
theorem dX11_laysSteps_72 : decode cX11_laysSteps 72 = .ok (.istore 6, 2) := by decide +kernel
theorem dX11_laysSteps_74 : decode cX11_laysSteps 74 = .ok (.iload 6, 2) := by decide +kernel
theorem dX11_laysSteps_76 : decode cX11_laysSteps 76 = .ok (.aload_n 0, 1) := by decide +kernel
theorem dX11_laysSteps_77 : decode cX11_laysSteps 77 = .ok (.getfield 257, 3) := by decide +kernel
theorem dX11_laysSteps_80 : decode cX11_laysSteps 80 = .ok (.if_icmp .ge 29, 3) := by decide +kernel
theorem dX11_laysSteps_83 : decode cX11_laysSteps 83 = .ok (.aload_n 0, 1) := by decide +kernel
theorem dX11_laysSteps_84 : decode cX11_laysSteps 84 = .ok (.aload_n 0, 1) := by decide +kernel
theorem dX11_laysSteps_85 : decode cX11_laysSteps 85 = .ok (.getfield 260, 3) := by decide +kernel
theorem dX11_laysSteps_88 : decode cX11_laysSteps 88 = .ok (.iload 6, 2) := by decide +kernel
theorem dX11_laysSteps_90 : decode cX11_laysSteps 90 = .ok (.iadd, 1) := by decide +kernel
theorem dX11_laysSteps_91 : decode cX11_laysSteps 91 = .ok (.aload_n 0, 1) := by decide +kernel
theorem dX11_laysSteps_92 : decode cX11_laysSteps 92 = .ok (.getfield 39, 3) := by decide +kernel
theorem dX11_laysSteps_95 : decode cX11_laysSteps 95 = .ok (.iload 4, 2) := by decide +kernel
theorem dX11_laysSteps_97 : decode cX11_laysSteps 97 = .ok (.iaload, 1) := by decide +kernel
theorem dX11_laysSteps_98 : decode cX11_laysSteps 98 = .ok (.iconst 1, 1) := by decide +kernel
theorem dX11_laysSteps_99 : decode cX11_laysSteps 99 = .ok (.iadd, 1) := by decide +kernel
theorem dX11_laysSteps_100 : decode cX11_laysSteps 100 = .ok (.invokevirtual 279, 3) := by decide +kernel
theorem dX11_laysSteps_103 : decode cX11_laysSteps 103 = .ok (.iinc 6 1, 3) := by decide +kernel
theorem dX11_laysSteps_106 : decode cX11_laysSteps 106 = .ok (.goto (-32), 3) := by decide +kernel
theorem dX11_laysSteps_109 : decode cX11_laysSteps 109 = .ok (.iinc 5 1, 3) := by decide +kernel
theorem dX11_laysSteps_112 : decode cX11_laysSteps 112 = .ok (.goto (-56), 3) := by decide +kernel
theorem dX11_laysSteps_115 : decode cX11_laysSteps 115 = .ok (.iinc 3 1, 3) := by decide +kernel
theorem dX11_laysSteps_118 : decode cX11_laysSteps 118 = .ok (.goto (-81), 3) := by decide +kernel
theorem dX11_laysSteps_121 : decode cX11_laysSteps 121 = .ok (.return_, 1) := by decide +kernel
set_option maxRecDepth 20000 in
theorem ggX11_isGreat_X11_sheets : GoodIn wsX11_isGreat wsX11_sheets := goodIn_r _ [5, 6, 7, 8, 9, 10, 11, 12, 13, 14, 15, 16, 17, 18, 19, 20, 21, 22, 23, 24, 25, 26, 27, 28, 29, 30, 31, 32, 33, 34, 35, 36, 37, 38, 39, 40, 41, 42, 43, 44, 45, 46, 47, 48, 49, 50] (by decide +kernel) (by decide +kernel)
set_option maxRecDepth 20000 in
theorem gX11_isGreat_X11_sheets : GoodIn wsX11_isGreat (wsV RX11 88 RX11 yX11_sheets wsX11_sheets) := goodIn_app (goodIn_of _ (by decide +kernel)) ggX11_isGreat_X11_sheets
theorem dX11_isGreat_0 : decode cX11_isGreat 0 = .ok (.aload_n 0, 1) := by decide +kernel
theorem dX11_isGreat_1 : decode cX11_isGreat 1 = .ok (.iload_n 1, 1) := by decide +kernel
theorem dX11_isGreat_2 : decode cX11_isGreat 2 = .ok (.invokevirtual 88, 3) := by decide +kernel
theorem dX11_isGreat_5 : decode cX11_isGreat 5 = .ok (.sipush 20000, 3) := by decide +kernel
theorem dX11_isGreat_8 : decode cX11_isGreat 8 = .ok (.if_icmp .le 7, 3) := by decide +kernel
theorem dX11_isGreat_11 : decode cX11_isGreat 11 = .ok (.iconst 1, 1) := by decide +kernel
theorem dX11_isGreat_12 : decode cX11_isGreat 12 = .ok (.goto 4, 3) := by decide +kernel
theorem dX11_isGreat_15 : decode cX11_isGreat 15 = .ok (.iconst 0, 1) := by decide +kernel
theorem dX11_isGreat_16 : decode cX11_isGreat 16 = .ok (.ireturn, 1) := by decide +kernel
set_option maxRecDepth 20000 in
theorem ggX11_stepsOf_X11_isGreat : GoodIn wsX11_stepsOf wsX11_isGreat := goodIn_r _ [6, 7, 8, 9, 5, 10, 11, 12, 13, 64, 65, 66, 67, 68, 69, 70, 71, 72, 73, 74, 75, 76, 77, 78, 79, 80, 81, 82, 83, 84, 85, 86, 87, 88, 89, 90, 91, 92, 93, 94, 95, 96, 97, 98, 99, 100, 101, 102, 103, 104, 105] (by decide +kernel) (by decide +kernel)
set_option maxRecDepth 20000 in
theorem gX11_stepsOf_X11_isGreat : GoodIn wsX11_stepsOf (wsV RX11 282 RX11 yX11_isGreat wsX11_isGreat) := goodIn_app (goodIn_of _ (by decide +kernel)) ggX11_stepsOf_X11_isGreat
set_option maxRecDepth 20000 in
theorem ggX11_stepsOf_X11_laysSteps : GoodIn wsX11_stepsOf wsX11_laysSteps := goodIn_r _ [17, 1, 18, 19, 20, 21, 7, 8, 9, 5, 10, 11, 12, 13, 22, 23, 24, 25, 26, 27, 28, 29, 30, 31, 32, 33, 34, 35, 36, 37, 38, 39, 40, 41, 42, 43, 44, 45, 46, 47, 48, 49, 50, 51, 52, 53, 54, 55, 56, 57, 58, 59, 60, 61, 62, 63, 64, 65, 66, 67, 68, 69, 70, 71, 72, 73, 74, 75, 76, 77, 78, 79, 80, 81, 82, 83, 84, 85, 86, 87, 88, 89, 90, 91, 92, 93, 94, 95, 96, 97, 98, 99, 100, 101, 102, 103, 104, 105] (by decide +kernel) (by decide +kernel)
set_option maxRecDepth 20000 in
theorem gX11_stepsOf_X11_laysSteps : GoodIn wsX11_stepsOf (wsV RX11 285 RX11 yX11_laysSteps wsX11_laysSteps) := goodIn_app (goodIn_of _ (by decide +kernel)) ggX11_stepsOf_X11_laysSteps
theorem dX11_stepsOf_0 : decode cX11_stepsOf 0 = .ok (.aload_n 0, 1) := by decide +kernel
theorem dX11_stepsOf_1 : decode cX11_stepsOf 1 = .ok (.iload_n 1, 1) := by decide +kernel
theorem dX11_stepsOf_2 : decode cX11_stepsOf 2 = .ok (.invokevirtual 282, 3) := by decide +kernel
theorem dX11_stepsOf_5 : decode cX11_stepsOf 5 = .ok (.ifCond .eq 6, 3) := by decide +kernel
theorem dX11_stepsOf_8 : decode cX11_stepsOf 8 = .ok (.bipush (-3), 2) := by decide +kernel
theorem dX11_stepsOf_10 : decode cX11_stepsOf 10 = .ok (.ireturn, 1) := by decide +kernel
theorem dX11_stepsOf_11 : decode cX11_stepsOf 11 = .ok (.aload_n 0, 1) := by decide +kernel
theorem dX11_stepsOf_12 : decode cX11_stepsOf 12 = .ok (.iload_n 1, 1) := by decide +kernel
theorem dX11_stepsOf_13 : decode cX11_stepsOf 13 = .ok (.iload_n 3, 1) := by decide +kernel
theorem dX11_stepsOf_14 : decode cX11_stepsOf 14 = .ok (.invokevirtual 285, 3) := by decide +kernel
theorem dX11_stepsOf_17 : decode cX11_stepsOf 17 = .ok (.aload_n 0, 1) := by decide +kernel
theorem dX11_stepsOf_18 : decode cX11_stepsOf 18 = .ok (.getfield 39, 3) := by decide +kernel
theorem dX11_stepsOf_21 : decode cX11_stepsOf 21 = .ok (.iload_n 2, 1) := by decide +kernel
theorem dX11_stepsOf_22 : decode cX11_stepsOf 22 = .ok (.iaload, 1) := by decide +kernel
theorem dX11_stepsOf_23 : decode cX11_stepsOf 23 = .ok (.ireturn, 1) := by decide +kernel
set_option maxRecDepth 20000 in
theorem ggX11_steps_X11_isKey : GoodIn wsX11_steps wsX11_isKey := goodIn_r _ [5, 6, 7, 4, 8, 9, 10, 11, 12, 13, 14, 15, 16, 17, 18, 19, 76, 77, 78, 79, 80, 81, 82, 83, 84, 85, 86, 87, 88, 89, 90, 91, 92, 93, 94, 95, 96, 97, 98, 99, 100, 101, 102, 103, 104, 105, 106, 107, 108, 109, 110, 111, 112, 113, 114, 115, 116, 117] (by decide +kernel) (by decide +kernel)
set_option maxRecDepth 20000 in
theorem gX11_steps_X11_isKey : GoodIn wsX11_steps (wsV RX11 153 RX11 yX11_isKey wsX11_isKey) := goodIn_app (goodIn_of _ (by decide +kernel)) ggX11_steps_X11_isKey
set_option maxRecDepth 20000 in
theorem ggX11_steps_X11_stepsOf : GoodIn wsX11_steps wsX11_stepsOf := goodIn_r _ [23, 24, 25, 26, 27, 4, 28, 13, 14, 15, 16, 17, 18, 19, 29, 30, 31, 32, 33, 34, 35, 36, 37, 38, 39, 40, 41, 42, 43, 44, 45, 46, 47, 48, 49, 50, 51, 52, 53, 54, 55, 56, 57, 58, 59, 60, 61, 62, 63, 64, 65, 66, 67, 68, 69, 70, 71, 72, 73, 74, 75, 10, 11, 12, 76, 77, 78, 79, 80, 81, 82, 83, 84, 85, 86, 87, 88, 89, 90, 91, 92, 93, 94, 95, 96, 97, 98, 99, 100, 101, 102, 103, 104, 105, 106, 107, 108, 109, 110, 111, 112, 113, 114, 115, 116, 117] (by decide +kernel) (by decide +kernel)
set_option maxRecDepth 20000 in
theorem gX11_steps_X11_stepsOf : GoodIn wsX11_steps (wsV RX11 288 RX11 yX11_stepsOf wsX11_stepsOf) := goodIn_app (goodIn_of _ (by decide +kernel)) ggX11_steps_X11_stepsOf
theorem dX11_steps_0 : decode cX11_steps 0 = .ok (.aload_n 0, 1) := by decide +kernel
theorem dX11_steps_1 : decode cX11_steps 1 = .ok (.iload_n 1, 1) := by decide +kernel
theorem dX11_steps_2 : decode cX11_steps 2 = .ok (.iload_n 2, 1) := by decide +kernel
theorem dX11_steps_3 : decode cX11_steps 3 = .ok (.invokevirtual 153, 3) := by decide +kernel
theorem dX11_steps_6 : decode cX11_steps 6 = .ok (.ifCond .eq 22, 3) := by decide +kernel
theorem dX11_steps_9 : decode cX11_steps 9 = .ok (.aload_n 0, 1) := by decide +kernel
theorem dX11_steps_10 : decode cX11_steps 10 = .ok (.iload_n 1, 1) := by decide +kernel
theorem dX11_steps_11 : decode cX11_steps 11 = .ok (.iload_n 3, 1) := by decide +kernel
theorem dX11_steps_12 : decode cX11_steps 12 = .ok (.invokevirtual 153, 3) := by decide +kernel
theorem dX11_steps_15 : decode cX11_steps 15 = .ok (.ifCond .eq 13, 3) := by decide +kernel
theorem dX11_steps_18 : decode cX11_steps 18 = .ok (.aload_n 0, 1) := by decide +kernel
theorem dX11_steps_19 : decode cX11_steps 19 = .ok (.iload_n 1, 1) := by decide +kernel
theorem dX11_steps_20 : decode cX11_steps 20 = .ok (.iload_n 2, 1) := by decide +kernel
theorem dX11_steps_21 : decode cX11_steps 21 = .ok (.iload_n 3, 1) := by decide +kernel
theorem dX11_steps_22 : decode cX11_steps 22 = .ok (.invokevirtual 288, 3) := by decide +kernel
theorem dX11_steps_25 : decode cX11_steps 25 = .ok (.goto 4, 3) := by decide +kernel
theorem dX11_steps_28 : decode cX11_steps 28 = .ok (.iconst (-1), 1) := by decide +kernel
theorem dX11_steps_29 : decode cX11_steps 29 = .ok (.ireturn, 1) := by decide +kernel
set_option maxRecDepth 20000 in
theorem ggX11_nearer_X11_laysBeside : GoodIn wsX11_nearer wsX11_laysBeside := goodIn_r _ [8, 1, 2, 9, 10, 11, 7, 12, 13, 14, 15, 16, 17, 18, 19, 20, 21, 22, 23, 24, 25, 26, 27, 28, 29, 30, 31, 32, 33, 34, 35, 36, 37, 38, 39, 40, 41, 42, 43, 44, 45, 46, 47, 48, 49, 50, 51, 52, 53, 54, 55, 56, 57, 58, 59, 60, 61, 62, 63, 64, 65, 66, 67, 68, 69, 70, 71, 72, 73, 74, 75, 76, 77, 78, 79, 80, 81, 82, 83, 84, 85, 86, 87, 88, 89, 90, 91] (by decide +kernel) (by decide +kernel)
set_option maxRecDepth 20000 in
theorem gX11_nearer_X11_laysBeside : GoodIn wsX11_nearer (wsV RX11 266 RX11 yX11_laysBeside wsX11_laysBeside) := goodIn_app (goodIn_of _ (by decide +kernel)) ggX11_nearer_X11_laysBeside
theorem dX11_nearer_0 : decode cX11_nearer 0 = .ok (.iconst (-1), 1) := by decide +kernel
theorem dX11_nearer_1 : decode cX11_nearer 1 = .ok (.istore_n 3, 1) := by decide +kernel
theorem dX11_nearer_2 : decode cX11_nearer 2 = .ok (.iconst 0, 1) := by decide +kernel
theorem dX11_nearer_3 : decode cX11_nearer 3 = .ok (.istore 4, 2) := by decide +kernel
theorem dX11_nearer_5 : decode cX11_nearer 5 = .ok (.iload 4, 2) := by decide +kernel
theorem dX11_nearer_7 : decode cX11_nearer 7 = .ok (.iconst 4, 1) := by decide +kernel
theorem dX11_nearer_8 : decode cX11_nearer 8 = .ok (.if_icmp .ge 76, 3) := by decide +kernel
theorem dX11_nearer_11 : decode cX11_nearer 11 = .ok (.aload_n 0, 1) := by decide +kernel
theorem dX11_nearer_12 : decode cX11_nearer 12 = .ok (.iload_n 1, 1) := by decide +kernel
theorem dX11_nearer_13 : decode cX11_nearer 13 = .ok (.iload_n 2, 1) := by decide +kernel
theorem dX11_nearer_14 : decode cX11_nearer 14 = .ok (.iload 4, 2) := by decide +kernel
theorem dX11_nearer_16 : decode cX11_nearer 16 = .ok (.invokevirtual 266, 3) := by decide +kernel
theorem dX11_nearer_19 : decode cX11_nearer 19 = .ok (.iconst 0, 1) := by decide +kernel
theorem dX11_nearer_20 : decode cX11_nearer 20 = .ok (.istore 5, 2) := by decide +kernel
theorem dX11_nearer_22 : decode cX11_nearer 22 = .ok (.iload 5, 2) := by decide +kernel
theorem dX11_nearer_24 : decode cX11_nearer 24 = .ok (.aload_n 0, 1) := by decide +kernel
theorem dX11_nearer_25 : decode cX11_nearer 25 = .ok (.getfield 257, 3) := by decide +kernel
theorem dX11_nearer_28 : decode cX11_nearer 28 = .ok (.if_icmp .ge 50, 3) := by decide +kernel
theorem dX11_nearer_31 : decode cX11_nearer 31 = .ok (.aload_n 0, 1) := by decide +kernel
theorem dX11_nearer_32 : decode cX11_nearer 32 = .ok (.getfield 260, 3) := by decide +kernel
theorem dX11_nearer_35 : decode cX11_nearer 35 = .ok (.iload 5, 2) := by decide +kernel
theorem dX11_nearer_37 : decode cX11_nearer 37 = .ok (.iadd, 1) := by decide +kernel
theorem dX11_nearer_38 : decode cX11_nearer 38 = .ok (.istore 6, 2) := by decide +kernel
theorem dX11_nearer_40 : decode cX11_nearer 40 = .ok (.aload_n 0, 1) := by decide +kernel
theorem dX11_nearer_41 : decode cX11_nearer 41 = .ok (.getfield 39, 3) := by decide +kernel
theorem dX11_nearer_44 : decode cX11_nearer 44 = .ok (.iload 6, 2) := by decide +kernel
theorem dX11_nearer_46 : decode cX11_nearer 46 = .ok (.iaload, 1) := by decide +kernel
theorem dX11_nearer_47 : decode cX11_nearer 47 = .ok (.aload_n 0, 1) := by decide +kernel
theorem dX11_nearer_48 : decode cX11_nearer 48 = .ok (.getfield 39, 3) := by decide +kernel
theorem dX11_nearer_51 : decode cX11_nearer 51 = .ok (.iload_n 2, 1) := by decide +kernel
theorem dX11_nearer_52 : decode cX11_nearer 52 = .ok (.iaload, 1) := by decide +kernel
theorem dX11_nearer_53 : decode cX11_nearer 53 = .ok (.iconst 1, 1) := by decide +kernel
theorem dX11_nearer_54 : decode cX11_nearer 54 = .ok (.isub, 1) := by decide +kernel
theorem dX11_nearer_55 : decode cX11_nearer 55 = .ok (.if_icmp .ne 17, 3) := by decide +kernel
theorem dX11_nearer_58 : decode cX11_nearer 58 = .ok (.iload_n 3, 1) := by decide +kernel
theorem dX11_nearer_59 : decode cX11_nearer 59 = .ok (.iconst (-1), 1) := by decide +kernel
theorem dX11_nearer_60 : decode cX11_nearer 60 = .ok (.if_icmp .eq 9, 3) := by decide +kernel
theorem dX11_nearer_63 : decode cX11_nearer 63 = .ok (.iload 6, 2) := by decide +kernel
theorem dX11_nearer_65 : decode cX11_nearer 65 = .ok (.iload_n 3, 1) := by decide +kernel
theorem dX11_nearer_66 : decode cX11_nearer 66 = .ok (.if_icmp .ge 6, 3) := by decide +kernel
theorem dX11_nearer_69 : decode cX11_nearer 69 = .ok (.iload 6, 2) := by decide +kernel
theorem dX11_nearer_71 : decode cX11_nearer 71 = .ok (.istore_n 3, 1) := by decide +kernel
theorem dX11_nearer_72 : decode cX11_nearer 72 = .ok (.iinc 5 1, 3) := by decide +kernel
theorem dX11_nearer_75 : decode cX11_nearer 75 = .ok (.goto (-53), 3) := by decide +kernel
theorem dX11_nearer_78 : decode cX11_nearer 78 = .ok (.iinc 4 1, 3) := by decide +kernel
theorem dX11_nearer_81 : decode cX11_nearer 81 = .ok (.goto (-76), 3) := by decide +kernel
theorem dX11_nearer_84 : decode cX11_nearer 84 = .ok (.iload_n 3, 1) := by decide +kernel
theorem dX11_nearer_85 : decode cX11_nearer 85 = .ok (.ireturn, 1) := by decide +kernel
set_option maxRecDepth 20000 in
theorem ggX11_way_X11_isKey : GoodIn wsX11_way wsX11_isKey := goodIn_r _ [6, 7, 8, 5, 9, 10, 11, 12, 13, 14, 15, 16, 17, 18, 19, 20, 76, 77, 78, 79, 80, 81, 82, 83, 84, 85, 86, 87, 88, 89, 90, 91, 92, 93, 94, 95, 96, 97, 98, 99, 100, 101, 102, 103, 104, 105, 106, 107, 108, 109, 110, 111, 112, 113, 114, 115, 116, 117] (by decide +kernel) (by decide +kernel)
set_option maxRecDepth 20000 in
theorem gX11_way_X11_isKey : GoodIn wsX11_way (wsV RX11 153 RX11 yX11_isKey wsX11_isKey) := goodIn_app (goodIn_of _ (by decide +kernel)) ggX11_way_X11_isKey
set_option maxRecDepth 20000 in
theorem ggX11_way_X11_isGreat : GoodIn wsX11_way wsX11_isGreat := goodIn_r _ [24, 14, 15, 16, 5, 17, 18, 19, 20, 76, 77, 78, 79, 80, 81, 82, 83, 84, 85, 86, 87, 88, 89, 90, 91, 92, 93, 94, 95, 96, 97, 98, 99, 100, 101, 102, 103, 104, 105, 106, 107, 108, 109, 110, 111, 112, 113, 114, 115, 116, 117] (by decide +kernel) (by decide +kernel)
set_option maxRecDepth 20000 in
theorem gX11_way_X11_isGreat : GoodIn wsX11_way (wsV RX11 282 RX11 yX11_isGreat wsX11_isGreat) := goodIn_app (goodIn_of _ (by decide +kernel)) ggX11_way_X11_isGreat
set_option maxRecDepth 20000 in
theorem ggX11_way_X11_laysSteps : GoodIn wsX11_way wsX11_laysSteps := goodIn_r _ [28, 1, 29, 30, 31, 32, 14, 15, 16, 5, 17, 18, 19, 20, 33, 34, 35, 36, 37, 38, 39, 40, 41, 42, 43, 44, 45, 46, 47, 48, 49, 50, 51, 52, 53, 54, 55, 56, 57, 58, 59, 60, 61, 62, 63, 64, 65, 66, 67, 68, 69, 70, 71, 11, 12, 13, 76, 77, 78, 79, 80, 81, 82, 83, 84, 85, 86, 87, 88, 89, 90, 91, 92, 93, 94, 95, 96, 97, 98, 99, 100, 101, 102, 103, 104, 105, 106, 107, 108, 109, 110, 111, 112, 113, 114, 115, 116, 117] (by decide +kernel) (by decide +kernel)
set_option maxRecDepth 20000 in
theorem gX11_way_X11_laysSteps : GoodIn wsX11_way (wsV RX11 285 RX11 yX11_laysSteps wsX11_laysSteps) := goodIn_app (goodIn_of _ (by decide +kernel)) ggX11_way_X11_laysSteps
set_option maxRecDepth 20000 in
theorem ggX11_way_X11_nearer : GoodIn wsX11_way wsX11_nearer := goodIn_r _ [75, 31, 32, 1, 37, 38, 39, 5, 40, 41, 42, 43, 44, 18, 19, 20, 14, 15, 16, 17, 45, 46, 47, 48, 49, 50, 51, 52, 53, 54, 55, 56, 57, 58, 59, 60, 61, 62, 63, 64, 65, 66, 67, 68, 69, 70, 71, 11, 12, 13, 76, 77, 78, 79, 80, 81, 82, 83, 84, 85, 86, 87, 88, 89, 90, 91, 92, 93, 94, 95, 96, 97, 98, 99, 100, 101, 102, 103, 104, 105, 106, 107, 108, 109, 110, 111, 112, 113, 114, 115, 116, 117] (by decide +kernel) (by decide +kernel)
set_option maxRecDepth 20000 in
theorem gX11_way_X11_nearer : GoodIn wsX11_way (wsV RX11 291 RX11 yX11_nearer wsX11_nearer) := goodIn_app (goodIn_of _ (by decide +kernel)) ggX11_way_X11_nearer
theorem dX11_way_0 : decode cX11_way 0 = .ok (.aload_n 0, 1) := by decide +kernel
theorem dX11_way_1 : decode cX11_way 1 = .ok (.iload_n 1, 1) := by decide +kernel
theorem dX11_way_2 : decode cX11_way 2 = .ok (.iload_n 2, 1) := by decide +kernel
theorem dX11_way_3 : decode cX11_way 3 = .ok (.invokevirtual 153, 3) := by decide +kernel
theorem dX11_way_6 : decode cX11_way 6 = .ok (.ifCond .eq 17, 3) := by decide +kernel
theorem dX11_way_9 : decode cX11_way 9 = .ok (.aload_n 0, 1) := by decide +kernel
theorem dX11_way_10 : decode cX11_way 10 = .ok (.iload_n 1, 1) := by decide +kernel
theorem dX11_way_11 : decode cX11_way 11 = .ok (.iload_n 3, 1) := by decide +kernel
theorem dX11_way_12 : decode cX11_way 12 = .ok (.invokevirtual 153, 3) := by decide +kernel
theorem dX11_way_15 : decode cX11_way 15 = .ok (.ifCond .eq 8, 3) := by decide +kernel
theorem dX11_way_18 : decode cX11_way 18 = .ok (.iload 4, 2) := by decide +kernel
theorem dX11_way_20 : decode cX11_way 20 = .ok (.ifCond .ge 5, 3) := by decide +kernel
theorem dX11_way_23 : decode cX11_way 23 = .ok (.iconst (-1), 1) := by decide +kernel
theorem dX11_way_24 : decode cX11_way 24 = .ok (.ireturn, 1) := by decide +kernel
theorem dX11_way_25 : decode cX11_way 25 = .ok (.aload_n 0, 1) := by decide +kernel
theorem dX11_way_26 : decode cX11_way 26 = .ok (.iload_n 1, 1) := by decide +kernel
theorem dX11_way_27 : decode cX11_way 27 = .ok (.invokevirtual 282, 3) := by decide +kernel
theorem dX11_way_30 : decode cX11_way 30 = .ok (.ifCond .eq 6, 3) := by decide +kernel
theorem dX11_way_33 : decode cX11_way 33 = .ok (.bipush (-3), 2) := by decide +kernel
theorem dX11_way_35 : decode cX11_way 35 = .ok (.ireturn, 1) := by decide +kernel
theorem dX11_way_36 : decode cX11_way 36 = .ok (.aload_n 0, 1) := by decide +kernel
theorem dX11_way_37 : decode cX11_way 37 = .ok (.iload_n 1, 1) := by decide +kernel
theorem dX11_way_38 : decode cX11_way 38 = .ok (.iload_n 3, 1) := by decide +kernel
theorem dX11_way_39 : decode cX11_way 39 = .ok (.invokevirtual 285, 3) := by decide +kernel
theorem dX11_way_42 : decode cX11_way 42 = .ok (.iload 4, 2) := by decide +kernel
theorem dX11_way_44 : decode cX11_way 44 = .ok (.aload_n 0, 1) := by decide +kernel
theorem dX11_way_45 : decode cX11_way 45 = .ok (.getfield 39, 3) := by decide +kernel
theorem dX11_way_48 : decode cX11_way 48 = .ok (.iload_n 2, 1) := by decide +kernel
theorem dX11_way_49 : decode cX11_way 49 = .ok (.iaload, 1) := by decide +kernel
theorem dX11_way_50 : decode cX11_way 50 = .ok (.if_icmp .le 6, 3) := by decide +kernel
theorem dX11_way_53 : decode cX11_way 53 = .ok (.bipush (-2), 2) := by decide +kernel
theorem dX11_way_55 : decode cX11_way 55 = .ok (.ireturn, 1) := by decide +kernel
theorem dX11_way_56 : decode cX11_way 56 = .ok (.iload_n 2, 1) := by decide +kernel
theorem dX11_way_57 : decode cX11_way 57 = .ok (.istore 5, 2) := by decide +kernel
theorem dX11_way_59 : decode cX11_way 59 = .ok (.iconst 0, 1) := by decide +kernel
theorem dX11_way_60 : decode cX11_way 60 = .ok (.istore 6, 2) := by decide +kernel
theorem dX11_way_62 : decode cX11_way 62 = .ok (.iload 6, 2) := by decide +kernel
theorem dX11_way_64 : decode cX11_way 64 = .ok (.iload 4, 2) := by decide +kernel
theorem dX11_way_66 : decode cX11_way 66 = .ok (.if_icmp .ge 18, 3) := by decide +kernel
theorem dX11_way_69 : decode cX11_way 69 = .ok (.aload_n 0, 1) := by decide +kernel
theorem dX11_way_70 : decode cX11_way 70 = .ok (.iload_n 1, 1) := by decide +kernel
theorem dX11_way_71 : decode cX11_way 71 = .ok (.iload 5, 2) := by decide +kernel
theorem dX11_way_73 : decode cX11_way 73 = .ok (.invokevirtual 291, 3) := by decide +kernel
theorem dX11_way_76 : decode cX11_way 76 = .ok (.istore 5, 2) := by decide +kernel
theorem dX11_way_78 : decode cX11_way 78 = .ok (.iinc 6 1, 3) := by decide +kernel
theorem dX11_way_81 : decode cX11_way 81 = .ok (.goto (-19), 3) := by decide +kernel
theorem dX11_way_84 : decode cX11_way 84 = .ok (.iload 5, 2) := by decide +kernel
theorem dX11_way_86 : decode cX11_way 86 = .ok (.ireturn, 1) := by decide +kernel
set_option maxRecDepth 20000 in
theorem ggX11_reach_X11_isKey : GoodIn wsX11_reach wsX11_isKey := goodIn_r _ [6, 7, 8, 5, 9, 10, 11, 12, 13, 14, 15, 16, 17, 18, 19, 20, 72, 73, 74, 75, 76, 77, 78, 79, 80, 81, 82, 83, 84, 85, 86, 87, 88, 89, 90, 91, 92, 93, 94, 95, 96, 97, 98, 99, 100, 101, 102, 103, 104, 105, 106, 107, 108, 109, 110, 111, 112, 113] (by decide +kernel) (by decide +kernel)
set_option maxRecDepth 20000 in
theorem gX11_reach_X11_isKey : GoodIn wsX11_reach (wsV RX11 153 RX11 yX11_isKey wsX11_isKey) := goodIn_app (goodIn_of _ (by decide +kernel)) ggX11_reach_X11_isKey
set_option maxRecDepth 20000 in
theorem ggX11_reach_X11_isGreat : GoodIn wsX11_reach wsX11_isGreat := goodIn_r _ [24, 14, 15, 16, 5, 17, 18, 19, 20, 72, 73, 74, 75, 76, 77, 78, 79, 80, 81, 82, 83, 84, 85, 86, 87, 88, 89, 90, 91, 92, 93, 94, 95, 96, 97, 98, 99, 100, 101, 102, 103, 104, 105, 106, 107, 108, 109, 110, 111, 112, 113] (by decide +kernel) (by decide +kernel)
set_option maxRecDepth 20000 in
theorem gX11_reach_X11_isGreat : GoodIn wsX11_reach (wsV RX11 282 RX11 yX11_isGreat wsX11_isGreat) := goodIn_app (goodIn_of _ (by decide +kernel)) ggX11_reach_X11_isGreat
set_option maxRecDepth 20000 in
theorem ggX11_reach_X11_laysSteps : GoodIn wsX11_reach wsX11_laysSteps := goodIn_r _ [28, 1, 29, 30, 31, 32, 14, 15, 16, 5, 17, 18, 19, 20, 33, 34, 35, 36, 37, 38, 39, 40, 41, 42, 43, 44, 45, 46, 47, 48, 49, 50, 51, 52, 53, 54, 55, 56, 57, 58, 59, 60, 61, 62, 63, 64, 65, 66, 67, 68, 69, 70, 71, 11, 12, 13, 72, 73, 74, 75, 76, 77, 78, 79, 80, 81, 82, 83, 84, 85, 86, 87, 88, 89, 90, 91, 92, 93, 94, 95, 96, 97, 98, 99, 100, 101, 102, 103, 104, 105, 106, 107, 108, 109, 110, 111, 112, 113] (by decide +kernel) (by decide +kernel)
set_option maxRecDepth 20000 in
theorem gX11_reach_X11_laysSteps : GoodIn wsX11_reach (wsV RX11 285 RX11 yX11_laysSteps wsX11_laysSteps) := goodIn_app (goodIn_of _ (by decide +kernel)) ggX11_reach_X11_laysSteps
set_option maxRecDepth 20000 in
theorem ggX11_reach_X11_sheets : GoodIn wsX11_reach wsX11_sheets := goodIn_r _ [17, 18, 19, 20, 72, 73, 74, 75, 76, 77, 78, 79, 80, 81, 82, 83, 84, 85, 86, 87, 88, 89, 90, 91, 92, 93, 94, 95, 96, 97, 98, 99, 100, 101, 102, 103, 104, 105, 106, 107, 108, 109, 110, 111, 112, 113] (by decide +kernel) (by decide +kernel)
set_option maxRecDepth 20000 in
theorem gX11_reach_X11_sheets : GoodIn wsX11_reach (wsV RX11 88 RX11 yX11_sheets wsX11_sheets) := goodIn_app (goodIn_of _ (by decide +kernel)) ggX11_reach_X11_sheets
theorem dX11_reach_0 : decode cX11_reach 0 = .ok (.aload_n 0, 1) := by decide +kernel
theorem dX11_reach_1 : decode cX11_reach 1 = .ok (.iload_n 1, 1) := by decide +kernel
theorem dX11_reach_2 : decode cX11_reach 2 = .ok (.iload_n 2, 1) := by decide +kernel
theorem dX11_reach_3 : decode cX11_reach 3 = .ok (.invokevirtual 153, 3) := by decide +kernel
theorem dX11_reach_6 : decode cX11_reach 6 = .ok (.ifCond .eq 7, 3) := by decide +kernel
theorem dX11_reach_9 : decode cX11_reach 9 = .ok (.iload_n 3, 1) := by decide +kernel
theorem dX11_reach_10 : decode cX11_reach 10 = .ok (.ifCond .ge 5, 3) := by decide +kernel
theorem dX11_reach_13 : decode cX11_reach 13 = .ok (.iconst (-1), 1) := by decide +kernel
theorem dX11_reach_14 : decode cX11_reach 14 = .ok (.ireturn, 1) := by decide +kernel
theorem dX11_reach_15 : decode cX11_reach 15 = .ok (.aload_n 0, 1) := by decide +kernel
theorem dX11_reach_16 : decode cX11_reach 16 = .ok (.iload_n 1, 1) := by decide +kernel
theorem dX11_reach_17 : decode cX11_reach 17 = .ok (.invokevirtual 282, 3) := by decide +kernel
theorem dX11_reach_20 : decode cX11_reach 20 = .ok (.ifCond .eq 6, 3) := by decide +kernel
theorem dX11_reach_23 : decode cX11_reach 23 = .ok (.bipush (-3), 2) := by decide +kernel
theorem dX11_reach_25 : decode cX11_reach 25 = .ok (.ireturn, 1) := by decide +kernel
theorem dX11_reach_26 : decode cX11_reach 26 = .ok (.aload_n 0, 1) := by decide +kernel
theorem dX11_reach_27 : decode cX11_reach 27 = .ok (.iload_n 1, 1) := by decide +kernel
theorem dX11_reach_28 : decode cX11_reach 28 = .ok (.iload_n 2, 1) := by decide +kernel
theorem dX11_reach_29 : decode cX11_reach 29 = .ok (.invokevirtual 285, 3) := by decide +kernel
theorem dX11_reach_32 : decode cX11_reach 32 = .ok (.iconst 0, 1) := by decide +kernel
theorem dX11_reach_33 : decode cX11_reach 33 = .ok (.istore 4, 2) := by decide +kernel
theorem dX11_reach_35 : decode cX11_reach 35 = .ok (.iconst 0, 1) := by decide +kernel
theorem dX11_reach_36 : decode cX11_reach 36 = .ok (.istore 5, 2) := by decide +kernel
theorem dX11_reach_38 : decode cX11_reach 38 = .ok (.iload 5, 2) := by decide +kernel
theorem dX11_reach_40 : decode cX11_reach 40 = .ok (.aload_n 0, 1) := by decide +kernel
theorem dX11_reach_41 : decode cX11_reach 41 = .ok (.iload_n 1, 1) := by decide +kernel
theorem dX11_reach_42 : decode cX11_reach 42 = .ok (.invokevirtual 88, 3) := by decide +kernel
theorem dX11_reach_45 : decode cX11_reach 45 = .ok (.if_icmp .ge 30, 3) := by decide +kernel
theorem dX11_reach_48 : decode cX11_reach 48 = .ok (.iload 4, 2) := by decide +kernel
theorem dX11_reach_50 : decode cX11_reach 50 = .ok (.aload_n 0, 1) := by decide +kernel
theorem dX11_reach_51 : decode cX11_reach 51 = .ok (.getfield 39, 3) := by decide +kernel
theorem dX11_reach_54 : decode cX11_reach 54 = .ok (.iload 5, 2) := by decide +kernel
theorem dX11_reach_56 : decode cX11_reach 56 = .ok (.iaload, 1) := by decide +kernel
theorem dX11_reach_57 : decode cX11_reach 57 = .ok (.iload_n 3, 1) := by decide +kernel
theorem dX11_reach_58 : decode cX11_reach 58 = .ok (.if_icmp .gt 7, 3) := by decide +kernel
theorem dX11_reach_61 : decode cX11_reach 61 = .ok (.iconst 1, 1) := by decide +kernel
theorem dX11_reach_62 : decode cX11_reach 62 = .ok (.goto 4, 3) := by decide +kernel
theorem dX11_reach_65 : decode cX11_reach 65 = .ok (.iconst 0, 1) := by decide +kernel
theorem dX11_reach_66 : decode cX11_reach 66 = .ok (.iadd, 1) := by decide +kernel
theorem dX11_reach_67 : decode cX11_reach 67 = .ok (.istore 4, 2) := by decide +kernel
theorem dX11_reach_69 : decode cX11_reach 69 = .ok (.iinc 5 1, 3) := by decide +kernel
theorem dX11_reach_72 : decode cX11_reach 72 = .ok (.goto (-34), 3) := by decide +kernel
theorem dX11_reach_75 : decode cX11_reach 75 = .ok (.iload 4, 2) := by decide +kernel
theorem dX11_reach_77 : decode cX11_reach 77 = .ok (.ireturn, 1) := by decide +kernel
set_option maxRecDepth 20000 in
theorem ggX11_farthest_X11_isKey : GoodIn wsX11_farthest wsX11_isKey := goodIn_r _ [6, 7, 8, 5, 9, 10, 11, 12, 13, 14, 15, 16, 17, 18, 19, 20, 72, 73, 74, 75, 76, 77, 78, 79, 80, 81, 82, 83, 84, 85, 86, 87, 88, 89, 90, 91, 92, 93, 94, 95, 96, 97, 98, 99, 100, 101, 102, 103, 104, 105, 106, 107, 108, 109, 110, 111, 112, 113] (by decide +kernel) (by decide +kernel)
set_option maxRecDepth 20000 in
theorem gX11_farthest_X11_isKey : GoodIn wsX11_farthest (wsV RX11 153 RX11 yX11_isKey wsX11_isKey) := goodIn_app (goodIn_of _ (by decide +kernel)) ggX11_farthest_X11_isKey
set_option maxRecDepth 20000 in
theorem ggX11_farthest_X11_in : GoodIn wsX11_farthest wsX11_in := goodIn_r _ [13] (by decide +kernel) (by decide +kernel)
set_option maxRecDepth 20000 in
theorem gX11_farthest_X11_in : GoodIn wsX11_farthest (va_wsS RX11 72 yX11_in wsX11_in) := goodIn_app (goodIn_of _ (by decide +kernel)) ggX11_farthest_X11_in
set_option maxRecDepth 20000 in
theorem ggX11_farthest_X11_isGreat : GoodIn wsX11_farthest wsX11_isGreat := goodIn_r _ [24, 14, 15, 16, 5, 17, 18, 19, 20, 72, 73, 74, 75, 76, 77, 78, 79, 80, 81, 82, 83, 84, 85, 86, 87, 88, 89, 90, 91, 92, 93, 94, 95, 96, 97, 98, 99, 100, 101, 102, 103, 104, 105, 106, 107, 108, 109, 110, 111, 112, 113] (by decide +kernel) (by decide +kernel)
set_option maxRecDepth 20000 in
theorem gX11_farthest_X11_isGreat : GoodIn wsX11_farthest (wsV RX11 282 RX11 yX11_isGreat wsX11_isGreat) := goodIn_app (goodIn_of _ (by decide +kernel)) ggX11_farthest_X11_isGreat
set_option maxRecDepth 20000 in
theorem ggX11_farthest_X11_laysSteps : GoodIn wsX11_farthest wsX11_laysSteps := goodIn_r _ [28, 1, 29, 30, 31, 32, 14, 15, 16, 5, 17, 18, 19, 20, 33, 34, 35, 36, 37, 38, 39, 40, 41, 42, 43, 44, 45, 46, 47, 48, 49, 50, 51, 52, 53, 54, 55, 56, 57, 58, 59, 60, 61, 62, 63, 64, 65, 66, 67, 68, 69, 70, 71, 11, 12, 13, 72, 73, 74, 75, 76, 77, 78, 79, 80, 81, 82, 83, 84, 85, 86, 87, 88, 89, 90, 91, 92, 93, 94, 95, 96, 97, 98, 99, 100, 101, 102, 103, 104, 105, 106, 107, 108, 109, 110, 111, 112, 113] (by decide +kernel) (by decide +kernel)
set_option maxRecDepth 20000 in
theorem gX11_farthest_X11_laysSteps : GoodIn wsX11_farthest (wsV RX11 285 RX11 yX11_laysSteps wsX11_laysSteps) := goodIn_app (goodIn_of _ (by decide +kernel)) ggX11_farthest_X11_laysSteps
set_option maxRecDepth 20000 in
theorem ggX11_farthest_X11_sheets : GoodIn wsX11_farthest wsX11_sheets := goodIn_r _ [17, 18, 19, 20, 72, 73, 74, 75, 76, 77, 78, 79, 80, 81, 82, 83, 84, 85, 86, 87, 88, 89, 90, 91, 92, 93, 94, 95, 96, 97, 98, 99, 100, 101, 102, 103, 104, 105, 106, 107, 108, 109, 110, 111, 112, 113] (by decide +kernel) (by decide +kernel)
set_option maxRecDepth 20000 in
theorem gX11_farthest_X11_sheets : GoodIn wsX11_farthest (wsV RX11 88 RX11 yX11_sheets wsX11_sheets) := goodIn_app (goodIn_of _ (by decide +kernel)) ggX11_farthest_X11_sheets
theorem dX11_farthest_0 : decode cX11_farthest 0 = .ok (.aload_n 0, 1) := by decide +kernel
theorem dX11_farthest_1 : decode cX11_farthest 1 = .ok (.iload_n 1, 1) := by decide +kernel
theorem dX11_farthest_2 : decode cX11_farthest 2 = .ok (.iload_n 2, 1) := by decide +kernel
theorem dX11_farthest_3 : decode cX11_farthest 3 = .ok (.invokevirtual 153, 3) := by decide +kernel
theorem dX11_farthest_6 : decode cX11_farthest 6 = .ok (.ifCond .eq 13, 3) := by decide +kernel
theorem dX11_farthest_9 : decode cX11_farthest 9 = .ok (.iload_n 3, 1) := by decide +kernel
theorem dX11_farthest_10 : decode cX11_farthest 10 = .ok (.i2l, 1) := by decide +kernel
theorem dX11_farthest_11 : decode cX11_farthest 11 = .ok (.lconst 0, 1) := by decide +kernel
theorem dX11_farthest_12 : decode cX11_farthest 12 = .ok (.lconst 1, 1) := by decide +kernel
theorem dX11_farthest_13 : decode cX11_farthest 13 = .ok (.invokestatic 72, 3) := by decide +kernel
theorem dX11_farthest_16 : decode cX11_farthest 16 = .ok (.ifCond .ne 5, 3) := by decide +kernel
theorem dX11_farthest_19 : decode cX11_farthest 19 = .ok (.iconst (-1), 1) := by decide +kernel
theorem dX11_farthest_20 : decode cX11_farthest 20 = .ok (.ireturn, 1) := by decide +kernel
theorem dX11_farthest_21 : decode cX11_farthest 21 = .ok (.aload_n 0, 1) := by decide +kernel
theorem dX11_farthest_22 : decode cX11_farthest 22 = .ok (.iload_n 1, 1) := by decide +kernel
theorem dX11_farthest_23 : decode cX11_farthest 23 = .ok (.invokevirtual 282, 3) := by decide +kernel
theorem dX11_farthest_26 : decode cX11_farthest 26 = .ok (.ifCond .eq 6, 3) := by decide +kernel
theorem dX11_farthest_29 : decode cX11_farthest 29 = .ok (.bipush (-3), 2) := by decide +kernel
theorem dX11_farthest_31 : decode cX11_farthest 31 = .ok (.ireturn, 1) := by decide +kernel
theorem dX11_farthest_32 : decode cX11_farthest 32 = .ok (.aload_n 0, 1) := by decide +kernel
theorem dX11_farthest_33 : decode cX11_farthest 33 = .ok (.iload_n 1, 1) := by decide +kernel
theorem dX11_farthest_34 : decode cX11_farthest 34 = .ok (.iload_n 2, 1) := by decide +kernel
theorem dX11_farthest_35 : decode cX11_farthest 35 = .ok (.invokevirtual 285, 3) := by decide +kernel
theorem dX11_farthest_38 : decode cX11_farthest 38 = .ok (.iconst 0, 1) := by decide +kernel
theorem dX11_farthest_39 : decode cX11_farthest 39 = .ok (.istore 4, 2) := by decide +kernel
theorem dX11_farthest_41 : decode cX11_farthest 41 = .ok (.iconst 1, 1) := by decide +kernel
theorem dX11_farthest_42 : decode cX11_farthest 42 = .ok (.istore 5, 2) := by decide +kernel
theorem dX11_farthest_44 : decode cX11_farthest 44 = .ok (.iload 5, 2) := by decide +kernel
theorem dX11_farthest_46 : decode cX11_farthest 46 = .ok (.aload_n 0, 1) := by decide +kernel
theorem dX11_farthest_47 : decode cX11_farthest 47 = .ok (.iload_n 1, 1) := by decide +kernel
theorem dX11_farthest_48 : decode cX11_farthest 48 = .ok (.invokevirtual 88, 3) := by decide +kernel
theorem dX11_farthest_51 : decode cX11_farthest 51 = .ok (.if_icmp .ge 35, 3) := by decide +kernel
theorem dX11_farthest_54 : decode cX11_farthest 54 = .ok (.aload_n 0, 1) := by decide +kernel
theorem dX11_farthest_55 : decode cX11_farthest 55 = .ok (.getfield 39, 3) := by decide +kernel
theorem dX11_farthest_58 : decode cX11_farthest 58 = .ok (.iload 5, 2) := by decide +kernel
theorem dX11_farthest_60 : decode cX11_farthest 60 = .ok (.iaload, 1) := by decide +kernel
theorem dX11_farthest_61 : decode cX11_farthest 61 = .ok (.aload_n 0, 1) := by decide +kernel
theorem dX11_farthest_62 : decode cX11_farthest 62 = .ok (.getfield 39, 3) := by decide +kernel
theorem dX11_farthest_65 : decode cX11_farthest 65 = .ok (.iload 4, 2) := by decide +kernel
theorem dX11_farthest_67 : decode cX11_farthest 67 = .ok (.iaload, 1) := by decide +kernel
theorem dX11_farthest_68 : decode cX11_farthest 68 = .ok (.if_icmp .le 8, 3) := by decide +kernel
theorem dX11_farthest_71 : decode cX11_farthest 71 = .ok (.iload 5, 2) := by decide +kernel
theorem dX11_farthest_73 : decode cX11_farthest 73 = .ok (.goto 5, 3) := by decide +kernel
theorem dX11_farthest_76 : decode cX11_farthest 76 = .ok (.iload 4, 2) := by decide +kernel
theorem dX11_farthest_78 : decode cX11_farthest 78 = .ok (.istore 4, 2) := by decide +kernel
theorem dX11_farthest_80 : decode cX11_farthest 80 = .ok (.iinc 5 1, 3) := by decide +kernel
theorem dX11_farthest_83 : decode cX11_farthest 83 = .ok (.goto (-39), 3) := by decide +kernel
theorem dX11_farthest_86 : decode cX11_farthest 86 = .ok (.iload_n 3, 1) := by decide +kernel
theorem dX11_farthest_87 : decode cX11_farthest 87 = .ok (.ifCond .ne 13, 3) := by decide +kernel
theorem dX11_farthest_90 : decode cX11_farthest 90 = .ok (.aload_n 0, 1) := by decide +kernel
theorem dX11_farthest_91 : decode cX11_farthest 91 = .ok (.getfield 39, 3) := by decide +kernel
theorem dX11_farthest_94 : decode cX11_farthest 94 = .ok (.iload 4, 2) := by decide +kernel
theorem dX11_farthest_96 : decode cX11_farthest 96 = .ok (.iaload, 1) := by decide +kernel
theorem dX11_farthest_97 : decode cX11_farthest 97 = .ok (.goto 5, 3) := by decide +kernel
theorem dX11_farthest_100 : decode cX11_farthest 100 = .ok (.iload 4, 2) := by decide +kernel
theorem dX11_farthest_102 : decode cX11_farthest 102 = .ok (.ireturn, 1) := by decide +kernel
set_option maxRecDepth 20000 in
theorem ggX11_cornerOf_X11_rowOf : GoodIn wsX11_cornerOf wsX11_rowOf := goodIn_r _ [5, 6, 7, 8, 9, 10, 11, 4, 12, 13, 14, 15, 16, 17, 18, 19, 20, 21, 22, 23, 40, 41, 42, 43, 44, 45, 46, 47, 48, 49, 50, 51, 52, 53, 54, 55, 56, 57, 58, 59, 60, 61, 62, 63, 64, 65, 66, 67, 68, 69, 70, 71, 72, 73, 74, 75, 76, 77, 78, 79, 80, 81] (by decide +kernel) (by decide +kernel)
set_option maxRecDepth 20000 in
theorem gX11_cornerOf_X11_rowOf : GoodIn wsX11_cornerOf (wsV RX11 101 RX11 yX11_rowOf wsX11_rowOf) := goodIn_app (goodIn_of _ (by decide +kernel)) ggX11_cornerOf_X11_rowOf
set_option maxRecDepth 20000 in
theorem ggX11_cornerOf_X11_many : GoodIn wsX11_cornerOf wsX11_many := goodIn_r _ [27, 7, 13, 14, 15, 4, 16, 17, 18, 19, 20, 6, 28, 29, 30, 31, 21, 22, 23, 40, 41, 42, 43, 44, 45, 46, 47, 48, 49, 50, 51, 52, 53, 54, 55, 56, 57, 58, 59, 60, 61, 62, 63, 64, 65, 66, 67, 68, 69, 70, 71, 72, 73, 74, 75, 76, 77, 78, 79, 80, 81] (by decide +kernel) (by decide +kernel)
set_option maxRecDepth 20000 in
theorem gX11_cornerOf_X11_many : GoodIn wsX11_cornerOf (wsV RX11 115 RX11 yX11_many wsX11_many) := goodIn_app (goodIn_of _ (by decide +kernel)) ggX11_cornerOf_X11_many
set_option maxRecDepth 20000 in
theorem ggX11_cornerOf_X11_placeOf : GoodIn wsX11_cornerOf wsX11_placeOf := goodIn_r _ [35, 1, 2, 3, 4, 5, 6, 7, 8, 9, 10, 11, 12, 13, 14, 15, 16, 17, 18, 19, 20, 21, 22, 23, 36, 37, 38, 39, 28, 29, 30, 31, 40, 41, 42, 43, 44, 45, 46, 47, 48, 49, 50, 51, 52, 53, 54, 55, 56, 57, 58, 59, 60, 61, 62, 63, 64, 65, 66, 67, 68, 69, 70, 71, 72, 73, 74, 75, 76, 77, 78, 79, 80, 81] (by decide +kernel) (by decide +kernel)
set_option maxRecDepth 20000 in
theorem gX11_cornerOf_X11_placeOf : GoodIn wsX11_cornerOf (wsV RX11 143 RX11 yX11_placeOf wsX11_placeOf) := goodIn_app (goodIn_of _ (by decide +kernel)) ggX11_cornerOf_X11_placeOf
set_option maxRecDepth 20000 in
theorem ggX11_cornerOf_X11_keyOf : GoodIn wsX11_cornerOf wsX11_keyOf := goodIn_r _ [39, 7, 6, 8, 13, 14, 15, 4, 16, 17, 18, 19, 20, 9, 10, 11, 12, 28, 29, 30, 31, 21, 22, 23, 40, 41, 42, 43, 44, 45, 46, 47, 48, 49, 50, 51, 52, 53, 54, 55, 56, 57, 58, 59, 60, 61, 62, 63, 64, 65, 66, 67, 68, 69, 70, 71, 72, 73, 74, 75, 76, 77, 78, 79, 80, 81] (by decide +kernel) (by decide +kernel)
set_option maxRecDepth 20000 in
theorem gX11_cornerOf_X11_keyOf : GoodIn wsX11_cornerOf (wsV RX11 104 RX11 yX11_keyOf wsX11_keyOf) := goodIn_app (goodIn_of _ (by decide +kernel)) ggX11_cornerOf_X11_keyOf
theorem dX11_cornerOf_0 : decode cX11_cornerOf 0 = .ok (.aload_n 0, 1) := by decide +kernel
theorem dX11_cornerOf_1 : decode cX11_cornerOf 1 = .ok (.iload_n 1, 1) := by decide +kernel
theorem dX11_cornerOf_2 : decode cX11_cornerOf 2 = .ok (.iload_n 2, 1) := by decide +kernel
theorem dX11_cornerOf_3 : decode cX11_cornerOf 3 = .ok (.invokevirtual 101, 3) := by decide +kernel
theorem dX11_cornerOf_6 : decode cX11_cornerOf 6 = .ok (.istore 5, 2) := by decide +kernel
theorem dX11_cornerOf_8 : decode cX11_cornerOf 8 = .ok (.iload_n 3, 1) := by decide +kernel
theorem dX11_cornerOf_9 : decode cX11_cornerOf 9 = .ok (.ifCond .ne 10, 3) := by decide +kernel
theorem dX11_cornerOf_12 : decode cX11_cornerOf 12 = .ok (.iload 5, 2) := by decide +kernel
theorem dX11_cornerOf_14 : decode cX11_cornerOf 14 = .ok (.iconst 1, 1) := by decide +kernel
theorem dX11_cornerOf_15 : decode cX11_cornerOf 15 = .ok (.isub, 1) := by decide +kernel
theorem dX11_cornerOf_16 : decode cX11_cornerOf 16 = .ok (.goto 7, 3) := by decide +kernel
theorem dX11_cornerOf_19 : decode cX11_cornerOf 19 = .ok (.iload 5, 2) := by decide +kernel
theorem dX11_cornerOf_21 : decode cX11_cornerOf 21 = .ok (.iconst 1, 1) := by decide +kernel
theorem dX11_cornerOf_22 : decode cX11_cornerOf 22 = .ok (.iadd, 1) := by decide +kernel
theorem dX11_cornerOf_23 : decode cX11_cornerOf 23 = .ok (.istore 6, 2) := by decide +kernel
theorem dX11_cornerOf_25 : decode cX11_cornerOf 25 = .ok (.aload_n 0, 1) := by decide +kernel
theorem dX11_cornerOf_26 : decode cX11_cornerOf 26 = .ok (.iload_n 1, 1) := by decide +kernel
theorem dX11_cornerOf_27 : decode cX11_cornerOf 27 = .ok (.iload 5, 2) := by decide +kernel
theorem dX11_cornerOf_29 : decode cX11_cornerOf 29 = .ok (.invokevirtual 115, 3) := by decide +kernel
theorem dX11_cornerOf_32 : decode cX11_cornerOf 32 = .ok (.i2l, 1) := by decide +kernel
theorem dX11_cornerOf_33 : decode cX11_cornerOf 33 = .ok (.lstore 7, 2) := by decide +kernel
theorem dX11_cornerOf_35 : decode cX11_cornerOf 35 = .ok (.lload 7, 2) := by decide +kernel
theorem dX11_cornerOf_37 : decode cX11_cornerOf 37 = .ok (.lconst 1, 1) := by decide +kernel
theorem dX11_cornerOf_38 : decode cX11_cornerOf 38 = .ok (.lcmp, 1) := by decide +kernel
theorem dX11_cornerOf_39 : decode cX11_cornerOf 39 = .ok (.ifCond .eq 14, 3) := by decide +kernel
theorem dX11_cornerOf_42 : decode cX11_cornerOf 42 = .ok (.aload_n 0, 1) := by decide +kernel
theorem dX11_cornerOf_43 : decode cX11_cornerOf 43 = .ok (.iload_n 1, 1) := by decide +kernel
theorem dX11_cornerOf_44 : decode cX11_cornerOf 44 = .ok (.iload 6, 2) := by decide +kernel
theorem dX11_cornerOf_46 : decode cX11_cornerOf 46 = .ok (.invokevirtual 115, 3) := by decide +kernel
theorem dX11_cornerOf_49 : decode cX11_cornerOf 49 = .ok (.iconst 1, 1) := by decide +kernel
theorem dX11_cornerOf_50 : decode cX11_cornerOf 50 = .ok (.if_icmp .ne 5, 3) := by decide +kernel
theorem dX11_cornerOf_53 : decode cX11_cornerOf 53 = .ok (.iconst (-1), 1) := by decide +kernel
theorem dX11_cornerOf_54 : decode cX11_cornerOf 54 = .ok (.ireturn, 1) := by decide +kernel
theorem dX11_cornerOf_55 : decode cX11_cornerOf 55 = .ok (.aload_n 0, 1) := by decide +kernel
theorem dX11_cornerOf_56 : decode cX11_cornerOf 56 = .ok (.iload_n 1, 1) := by decide +kernel
theorem dX11_cornerOf_57 : decode cX11_cornerOf 57 = .ok (.iload 6, 2) := by decide +kernel
theorem dX11_cornerOf_59 : decode cX11_cornerOf 59 = .ok (.invokevirtual 115, 3) := by decide +kernel
theorem dX11_cornerOf_62 : decode cX11_cornerOf 62 = .ok (.i2l, 1) := by decide +kernel
theorem dX11_cornerOf_63 : decode cX11_cornerOf 63 = .ok (.lstore 9, 2) := by decide +kernel
theorem dX11_cornerOf_65 : decode cX11_cornerOf 65 = .ok (.aload_n 0, 1) := by decide +kernel
theorem dX11_cornerOf_66 : decode cX11_cornerOf 66 = .ok (.iload_n 1, 1) := by decide +kernel
theorem dX11_cornerOf_67 : decode cX11_cornerOf 67 = .ok (.iload_n 2, 1) := by decide +kernel
theorem dX11_cornerOf_68 : decode cX11_cornerOf 68 = .ok (.invokevirtual 143, 3) := by decide +kernel
theorem dX11_cornerOf_71 : decode cX11_cornerOf 71 = .ok (.iload 4, 2) := by decide +kernel
theorem dX11_cornerOf_73 : decode cX11_cornerOf 73 = .ok (.iadd, 1) := by decide +kernel
theorem dX11_cornerOf_74 : decode cX11_cornerOf 74 = .ok (.i2l, 1) := by decide +kernel
theorem dX11_cornerOf_75 : decode cX11_cornerOf 75 = .ok (.lload 9, 2) := by decide +kernel
theorem dX11_cornerOf_77 : decode cX11_cornerOf 77 = .ok (.lmul, 1) := by decide +kernel
theorem dX11_cornerOf_78 : decode cX11_cornerOf 78 = .ok (.lstore 11, 2) := by decide +kernel
theorem dX11_cornerOf_80 : decode cX11_cornerOf 80 = .ok (.lload 11, 2) := by decide +kernel
theorem dX11_cornerOf_82 : decode cX11_cornerOf 82 = .ok (.lload 7, 2) := by decide +kernel
theorem dX11_cornerOf_84 : decode cX11_cornerOf 84 = .ok (.lrem, 1) := by decide +kernel
theorem dX11_cornerOf_85 : decode cX11_cornerOf 85 = .ok (.lconst 0, 1) := by decide +kernel
theorem dX11_cornerOf_86 : decode cX11_cornerOf 86 = .ok (.lcmp, 1) := by decide +kernel
theorem dX11_cornerOf_87 : decode cX11_cornerOf 87 = .ok (.ifCond .eq 5, 3) := by decide +kernel
theorem dX11_cornerOf_90 : decode cX11_cornerOf 90 = .ok (.iconst (-1), 1) := by decide +kernel
theorem dX11_cornerOf_91 : decode cX11_cornerOf 91 = .ok (.ireturn, 1) := by decide +kernel
theorem dX11_cornerOf_92 : decode cX11_cornerOf 92 = .ok (.lload 11, 2) := by decide +kernel
theorem dX11_cornerOf_94 : decode cX11_cornerOf 94 = .ok (.lload 7, 2) := by decide +kernel
theorem dX11_cornerOf_96 : decode cX11_cornerOf 96 = .ok (.ldiv, 1) := by decide +kernel
theorem dX11_cornerOf_97 : decode cX11_cornerOf 97 = .ok (.lstore 13, 2) := by decide +kernel
theorem dX11_cornerOf_99 : decode cX11_cornerOf 99 = .ok (.aload_n 0, 1) := by decide +kernel
theorem dX11_cornerOf_100 : decode cX11_cornerOf 100 = .ok (.iload_n 1, 1) := by decide +kernel
theorem dX11_cornerOf_101 : decode cX11_cornerOf 101 = .ok (.iload 6, 2) := by decide +kernel
theorem dX11_cornerOf_103 : decode cX11_cornerOf 103 = .ok (.iload 4, 2) := by decide +kernel
theorem dX11_cornerOf_105 : decode cX11_cornerOf 105 = .ok (.ifCond .ne 16, 3) := by decide +kernel
theorem dX11_cornerOf_108 : decode cX11_cornerOf 108 = .ok (.lload 13, 2) := by decide +kernel
theorem dX11_cornerOf_110 : decode cX11_cornerOf 110 = .ok (.lload 9, 2) := by decide +kernel
theorem dX11_cornerOf_112 : decode cX11_cornerOf 112 = .ok (.ladd, 1) := by decide +kernel
theorem dX11_cornerOf_113 : decode cX11_cornerOf 113 = .ok (.lconst 1, 1) := by decide +kernel
theorem dX11_cornerOf_114 : decode cX11_cornerOf 114 = .ok (.lsub, 1) := by decide +kernel
theorem dX11_cornerOf_115 : decode cX11_cornerOf 115 = .ok (.lload 9, 2) := by decide +kernel
theorem dX11_cornerOf_117 : decode cX11_cornerOf 117 = .ok (.lrem, 1) := by decide +kernel
theorem dX11_cornerOf_118 : decode cX11_cornerOf 118 = .ok (.goto 8, 3) := by decide +kernel
theorem dX11_cornerOf_121 : decode cX11_cornerOf 121 = .ok (.lload 13, 2) := by decide +kernel
theorem dX11_cornerOf_123 : decode cX11_cornerOf 123 = .ok (.lload 9, 2) := by decide +kernel
theorem dX11_cornerOf_125 : decode cX11_cornerOf 125 = .ok (.lrem, 1) := by decide +kernel
theorem dX11_cornerOf_126 : decode cX11_cornerOf 126 = .ok (.l2i, 1) := by decide +kernel
theorem dX11_cornerOf_127 : decode cX11_cornerOf 127 = .ok (.invokevirtual 104, 3) := by decide +kernel
theorem dX11_cornerOf_130 : decode cX11_cornerOf 130 = .ok (.ireturn, 1) := by decide +kernel
set_option maxRecDepth 20000 in
theorem ggX11_corners_X11_isKey : GoodIn wsX11_corners wsX11_isKey := goodIn_r _ [5, 6, 7, 4, 8, 9, 10, 11, 12, 13, 14, 15, 16, 17, 18, 19, 55, 56, 57, 58, 59, 60, 61, 62, 63, 64, 65, 66, 67, 68, 69, 70, 71, 72, 73, 74, 75, 76, 77, 78, 79, 80, 81, 82, 83, 84, 85, 86, 87, 88, 89, 90, 91, 92, 93, 94, 95, 96] (by decide +kernel) (by decide +kernel)
set_option maxRecDepth 20000 in
theorem gX11_corners_X11_isKey : GoodIn wsX11_corners (wsV RX11 153 RX11 yX11_isKey wsX11_isKey) := goodIn_app (goodIn_of _ (by decide +kernel)) ggX11_corners_X11_isKey
set_option maxRecDepth 20000 in
theorem ggX11_corners_X11_cornerOf : GoodIn wsX11_corners wsX11_cornerOf := goodIn_r _ [23, 24, 25, 26, 4, 27, 17, 18, 19, 13, 14, 15, 16, 28, 29, 30, 31, 32, 33, 34, 35, 36, 37, 38, 39, 40, 41, 42, 43, 44, 45, 46, 47, 48, 49, 50, 51, 52, 53, 54, 55, 56, 57, 58, 59, 60, 61, 62, 63, 64, 65, 66, 67, 68, 69, 70, 71, 72, 73, 74, 75, 76, 77, 78, 79, 80, 81, 82, 83, 84, 85, 86, 87, 88, 89, 90, 91, 92, 93, 94, 95, 96] (by decide +kernel) (by decide +kernel)
set_option maxRecDepth 20000 in
theorem gX11_corners_X11_cornerOf : GoodIn wsX11_corners (wsV RX11 294 RX11 yX11_cornerOf wsX11_cornerOf) := goodIn_app (goodIn_of _ (by decide +kernel)) ggX11_corners_X11_cornerOf
set_option maxRecDepth 20000 in
theorem ggX11_corners_X11_in : GoodIn wsX11_corners wsX11_in := goodIn_r _ [12] (by decide +kernel) (by decide +kernel)
set_option maxRecDepth 20000 in
theorem gX11_corners_X11_in : GoodIn wsX11_corners (va_wsS RX11 72 yX11_in wsX11_in) := goodIn_app (goodIn_of _ (by decide +kernel)) ggX11_corners_X11_in
theorem dX11_corners_0 : decode cX11_corners 0 = .ok (.aload_n 0, 1) := by decide +kernel
theorem dX11_corners_1 : decode cX11_corners 1 = .ok (.iload_n 1, 1) := by decide +kernel
theorem dX11_corners_2 : decode cX11_corners 2 = .ok (.iload_n 2, 1) := by decide +kernel
theorem dX11_corners_3 : decode cX11_corners 3 = .ok (.invokevirtual 153, 3) := by decide +kernel
theorem dX11_corners_6 : decode cX11_corners 6 = .ok (.ifCond .eq 8, 3) := by decide +kernel
theorem dX11_corners_9 : decode cX11_corners 9 = .ok (.iload_n 3, 1) := by decide +kernel
theorem dX11_corners_10 : decode cX11_corners 10 = .ok (.iconst (-1), 1) := by decide +kernel
theorem dX11_corners_11 : decode cX11_corners 11 = .ok (.if_icmp .ge 5, 3) := by decide +kernel
theorem dX11_corners_14 : decode cX11_corners 14 = .ok (.iconst (-1), 1) := by decide +kernel
theorem dX11_corners_15 : decode cX11_corners 15 = .ok (.ireturn, 1) := by decide +kernel
theorem dX11_corners_16 : decode cX11_corners 16 = .ok (.iload_n 3, 1) := by decide +kernel
theorem dX11_corners_17 : decode cX11_corners 17 = .ok (.istore 4, 2) := by decide +kernel
theorem dX11_corners_19 : decode cX11_corners 19 = .ok (.iconst 0, 1) := by decide +kernel
theorem dX11_corners_20 : decode cX11_corners 20 = .ok (.istore 5, 2) := by decide +kernel
theorem dX11_corners_22 : decode cX11_corners 22 = .ok (.iconst 0, 1) := by decide +kernel
theorem dX11_corners_23 : decode cX11_corners 23 = .ok (.istore 6, 2) := by decide +kernel
theorem dX11_corners_25 : decode cX11_corners 25 = .ok (.iload 6, 2) := by decide +kernel
theorem dX11_corners_27 : decode cX11_corners 27 = .ok (.iconst 3, 1) := by decide +kernel
theorem dX11_corners_28 : decode cX11_corners 28 = .ok (.if_icmp .ge 150, 3) := by decide +kernel
theorem dX11_corners_31 : decode cX11_corners 31 = .ok (.aload_n 0, 1) := by decide +kernel
theorem dX11_corners_32 : decode cX11_corners 32 = .ok (.iload_n 1, 1) := by decide +kernel
theorem dX11_corners_33 : decode cX11_corners 33 = .ok (.iload_n 2, 1) := by decide +kernel
theorem dX11_corners_34 : decode cX11_corners 34 = .ok (.iload 6, 2) := by decide +kernel
theorem dX11_corners_36 : decode cX11_corners 36 = .ok (.iconst 0, 1) := by decide +kernel
theorem dX11_corners_37 : decode cX11_corners 37 = .ok (.invokevirtual 294, 3) := by decide +kernel
theorem dX11_corners_40 : decode cX11_corners 40 = .ok (.istore 7, 2) := by decide +kernel
theorem dX11_corners_42 : decode cX11_corners 42 = .ok (.aload_n 0, 1) := by decide +kernel
theorem dX11_corners_43 : decode cX11_corners 43 = .ok (.iload_n 1, 1) := by decide +kernel
theorem dX11_corners_44 : decode cX11_corners 44 = .ok (.iload_n 2, 1) := by decide +kernel
theorem dX11_corners_45 : decode cX11_corners 45 = .ok (.iload 6, 2) := by decide +kernel
theorem dX11_corners_47 : decode cX11_corners 47 = .ok (.iconst 1, 1) := by decide +kernel
theorem dX11_corners_48 : decode cX11_corners 48 = .ok (.invokevirtual 294, 3) := by decide +kernel
theorem dX11_corners_51 : decode cX11_corners 51 = .ok (.istore 8, 2) := by decide +kernel
theorem dX11_corners_53 : decode cX11_corners 53 = .ok (.iload 7, 2) := by decide +kernel
theorem dX11_corners_55 : decode cX11_corners 55 = .ok (.iconst (-1), 1) := by decide +kernel
theorem dX11_corners_56 : decode cX11_corners 56 = .ok (.if_icmp .ne 7, 3) := by decide +kernel
theorem dX11_corners_59 : decode cX11_corners 59 = .ok (.iconst 0, 1) := by decide +kernel
theorem dX11_corners_60 : decode cX11_corners 60 = .ok (.goto 4, 3) := by decide +kernel
theorem dX11_corners_63 : decode cX11_corners 63 = .ok (.iconst 1, 1) := by decide +kernel
theorem dX11_corners_64 : decode cX11_corners 64 = .ok (.iload 8, 2) := by decide +kernel
theorem dX11_corners_66 : decode cX11_corners 66 = .ok (.iconst (-1), 1) := by decide +kernel
theorem dX11_corners_67 : decode cX11_corners 67 = .ok (.if_icmp .ne 7, 3) := by decide +kernel
theorem dX11_corners_70 : decode cX11_corners 70 = .ok (.iconst 0, 1) := by decide +kernel
theorem dX11_corners_71 : decode cX11_corners 71 = .ok (.goto 4, 3) := by decide +kernel
theorem dX11_corners_74 : decode cX11_corners 74 = .ok (.iconst 1, 1) := by decide +kernel
theorem dX11_corners_75 : decode cX11_corners 75 = .ok (.iadd, 1) := by decide +kernel
theorem dX11_corners_76 : decode cX11_corners 76 = .ok (.istore 9, 2) := by decide +kernel
theorem dX11_corners_78 : decode cX11_corners 78 = .ok (.iload 4, 2) := by decide +kernel
theorem dX11_corners_80 : decode cX11_corners 80 = .ok (.i2l, 1) := by decide +kernel
theorem dX11_corners_81 : decode cX11_corners 81 = .ok (.lconst 0, 1) := by decide +kernel
theorem dX11_corners_82 : decode cX11_corners 82 = .ok (.iload 9, 2) := by decide +kernel
theorem dX11_corners_84 : decode cX11_corners 84 = .ok (.iconst 1, 1) := by decide +kernel
theorem dX11_corners_85 : decode cX11_corners 85 = .ok (.isub, 1) := by decide +kernel
theorem dX11_corners_86 : decode cX11_corners 86 = .ok (.i2l, 1) := by decide +kernel
theorem dX11_corners_87 : decode cX11_corners 87 = .ok (.invokestatic 72, 3) := by decide +kernel
theorem dX11_corners_90 : decode cX11_corners 90 = .ok (.ifCond .eq 56, 3) := by decide +kernel
theorem dX11_corners_93 : decode cX11_corners 93 = .ok (.iload 7, 2) := by decide +kernel
theorem dX11_corners_95 : decode cX11_corners 95 = .ok (.iconst (-1), 1) := by decide +kernel
theorem dX11_corners_96 : decode cX11_corners 96 = .ok (.if_icmp .eq 16, 3) := by decide +kernel
theorem dX11_corners_99 : decode cX11_corners 99 = .ok (.iload 8, 2) := by decide +kernel
theorem dX11_corners_101 : decode cX11_corners 101 = .ok (.iconst (-1), 1) := by decide +kernel
theorem dX11_corners_102 : decode cX11_corners 102 = .ok (.if_icmp .eq 15, 3) := by decide +kernel
theorem dX11_corners_105 : decode cX11_corners 105 = .ok (.iload 8, 2) := by decide +kernel
theorem dX11_corners_107 : decode cX11_corners 107 = .ok (.iload 7, 2) := by decide +kernel
theorem dX11_corners_109 : decode cX11_corners 109 = .ok (.if_icmp .ge 8, 3) := by decide +kernel
theorem dX11_corners_112 : decode cX11_corners 112 = .ok (.iload 8, 2) := by decide +kernel
theorem dX11_corners_114 : decode cX11_corners 114 = .ok (.goto 5, 3) := by decide +kernel
theorem dX11_corners_117 : decode cX11_corners 117 = .ok (.iload 7, 2) := by decide +kernel
theorem dX11_corners_119 : decode cX11_corners 119 = .ok (.istore 10, 2) := by decide +kernel
theorem dX11_corners_121 : decode cX11_corners 121 = .ok (.iload 4, 2) := by decide +kernel
theorem dX11_corners_123 : decode cX11_corners 123 = .ok (.ifCond .ne 8, 3) := by decide +kernel
theorem dX11_corners_126 : decode cX11_corners 126 = .ok (.iload 10, 2) := by decide +kernel
theorem dX11_corners_128 : decode cX11_corners 128 = .ok (.goto 17, 3) := by decide +kernel
theorem dX11_corners_131 : decode cX11_corners 131 = .ok (.iload 10, 2) := by decide +kernel
theorem dX11_corners_133 : decode cX11_corners 133 = .ok (.iload 7, 2) := by decide +kernel
theorem dX11_corners_135 : decode cX11_corners 135 = .ok (.if_icmp .ne 8, 3) := by decide +kernel
theorem dX11_corners_138 : decode cX11_corners 138 = .ok (.iload 8, 2) := by decide +kernel
theorem dX11_corners_140 : decode cX11_corners 140 = .ok (.goto 5, 3) := by decide +kernel
theorem dX11_corners_143 : decode cX11_corners 143 = .ok (.iload 7, 2) := by decide +kernel
theorem dX11_corners_145 : decode cX11_corners 145 = .ok (.ireturn, 1) := by decide +kernel
theorem dX11_corners_146 : decode cX11_corners 146 = .ok (.iload 4, 2) := by decide +kernel
theorem dX11_corners_148 : decode cX11_corners 148 = .ok (.iload_n 3, 1) := by decide +kernel
theorem dX11_corners_149 : decode cX11_corners 149 = .ok (.iconst (-1), 1) := by decide +kernel
theorem dX11_corners_150 : decode cX11_corners 150 = .ok (.if_icmp .ne 7, 3) := by decide +kernel
theorem dX11_corners_153 : decode cX11_corners 153 = .ok (.iconst 0, 1) := by decide +kernel
theorem dX11_corners_154 : decode cX11_corners 154 = .ok (.goto 5, 3) := by decide +kernel
theorem dX11_corners_157 : decode cX11_corners 157 = .ok (.iload 9, 2) := by decide +kernel
theorem dX11_corners_159 : decode cX11_corners 159 = .ok (.isub, 1) := by decide +kernel
theorem dX11_corners_160 : decode cX11_corners 160 = .ok (.istore 4, 2) := by decide +kernel
theorem dX11_corners_162 : decode cX11_corners 162 = .ok (.iload 5, 2) := by decide +kernel
theorem dX11_corners_164 : decode cX11_corners 164 = .ok (.iload 9, 2) := by decide +kernel
theorem dX11_corners_166 : decode cX11_corners 166 = .ok (.iadd, 1) := by decide +kernel
theorem dX11_corners_167 : decode cX11_corners 167 = .ok (.istore 5, 2) := by decide +kernel
theorem dX11_corners_169 : decode cX11_corners 169 = .ok (.iload 6, 2) := by decide +kernel
theorem dX11_corners_171 : decode cX11_corners 171 = .ok (.iconst 2, 1) := by decide +kernel
theorem dX11_corners_172 : decode cX11_corners 172 = .ok (.iadd, 1) := by decide +kernel
theorem dX11_corners_173 : decode cX11_corners 173 = .ok (.istore 6, 2) := by decide +kernel
theorem dX11_corners_175 : decode cX11_corners 175 = .ok (.goto (-150), 3) := by decide +kernel
theorem dX11_corners_178 : decode cX11_corners 178 = .ok (.iload_n 3, 1) := by decide +kernel
theorem dX11_corners_179 : decode cX11_corners 179 = .ok (.iconst (-1), 1) := by decide +kernel
theorem dX11_corners_180 : decode cX11_corners 180 = .ok (.if_icmp .ne 8, 3) := by decide +kernel
theorem dX11_corners_183 : decode cX11_corners 183 = .ok (.iload 5, 2) := by decide +kernel
theorem dX11_corners_185 : decode cX11_corners 185 = .ok (.goto 5, 3) := by decide +kernel
theorem dX11_corners_188 : decode cX11_corners 188 = .ok (.bipush (-2), 2) := by decide +kernel
theorem dX11_corners_190 : decode cX11_corners 190 = .ok (.ireturn, 1) := by decide +kernel
set_option maxRecDepth 20000 in
theorem ggX11_jog_X11_isKey : GoodIn wsX11_jog wsX11_isKey := goodIn_r _ [5, 6, 7, 4, 8, 9, 10, 11, 12, 13, 14, 15, 16, 17, 18, 19, 43, 44, 45, 46, 47, 48, 49, 50, 51, 52, 53, 54, 55, 56, 57, 58, 59, 60, 61, 62, 63, 64, 65, 66, 67, 68, 69, 70, 71, 72, 73, 74, 75, 76, 77, 78, 79, 80, 81, 82, 83, 84] (by decide +kernel) (by decide +kernel)
set_option maxRecDepth 20000 in
theorem gX11_jog_X11_isKey : GoodIn wsX11_jog (wsV RX11 153 RX11 yX11_isKey wsX11_isKey) := goodIn_app (goodIn_of _ (by decide +kernel)) ggX11_jog_X11_isKey
set_option maxRecDepth 20000 in
theorem ggX11_jog_X11_rowOf : GoodIn wsX11_jog wsX11_rowOf := goodIn_r _ [23, 17, 18, 19, 13, 14, 15, 4, 16, 24, 25, 26, 27, 28, 29, 30, 31, 32, 33, 34, 43, 44, 45, 46, 47, 48, 49, 50, 51, 52, 53, 54, 55, 56, 57, 58, 59, 60, 61, 62, 63, 64, 65, 66, 67, 68, 69, 70, 71, 72, 73, 74, 75, 76, 77, 78, 79, 80, 81, 82, 83, 84] (by decide +kernel) (by decide +kernel)
set_option maxRecDepth 20000 in
theorem gX11_jog_X11_rowOf : GoodIn wsX11_jog (wsV RX11 101 RX11 yX11_rowOf wsX11_rowOf) := goodIn_app (goodIn_of _ (by decide +kernel)) ggX11_jog_X11_rowOf
set_option maxRecDepth 20000 in
theorem ggX11_jog_X11_lastRow : GoodIn wsX11_jog wsX11_lastRow := goodIn_r _ [27, 28, 29, 30, 4, 31, 17, 43, 44, 45, 46, 47, 48, 49, 50, 51, 52, 53, 54, 55, 56, 57, 58, 59, 60, 61, 62, 63, 64, 65, 66, 67, 68, 69, 70, 71, 72, 73, 74, 75, 76, 77, 78, 79, 80, 81, 82, 83, 84] (by decide +kernel) (by decide +kernel)
set_option maxRecDepth 20000 in
theorem gX11_jog_X11_lastRow : GoodIn wsX11_jog (wsV RX11 94 RX11 yX11_lastRow wsX11_lastRow) := goodIn_app (goodIn_of _ (by decide +kernel)) ggX11_jog_X11_lastRow
set_option maxRecDepth 20000 in
theorem ggX11_jog_X11_in : GoodIn wsX11_jog wsX11_in := goodIn_r _ [12] (by decide +kernel) (by decide +kernel)
set_option maxRecDepth 20000 in
theorem gX11_jog_X11_in : GoodIn wsX11_jog (va_wsS RX11 72 yX11_in wsX11_in) := goodIn_app (goodIn_of _ (by decide +kernel)) ggX11_jog_X11_in
set_option maxRecDepth 20000 in
theorem ggX11_jog_X11_many : GoodIn wsX11_jog wsX11_many := goodIn_r _ [38, 18, 24, 25, 26, 4, 27, 28, 29, 30, 31, 17, 39, 40, 41, 42, 32, 33, 34, 43, 44, 45, 46, 47, 48, 49, 50, 51, 52, 53, 54, 55, 56, 57, 58, 59, 60, 61, 62, 63, 64, 65, 66, 67, 68, 69, 70, 71, 72, 73, 74, 75, 76, 77, 78, 79, 80, 81, 82, 83, 84] (by decide +kernel) (by decide +kernel)
set_option maxRecDepth 20000 in
theorem gX11_jog_X11_many : GoodIn wsX11_jog (wsV RX11 115 RX11 yX11_many wsX11_many) := goodIn_app (goodIn_of _ (by decide +kernel)) ggX11_jog_X11_many
theorem dX11_jog_0 : decode cX11_jog 0 = .ok (.aload_n 0, 1) := by decide +kernel
theorem dX11_jog_1 : decode cX11_jog 1 = .ok (.iload_n 1, 1) := by decide +kernel
theorem dX11_jog_2 : decode cX11_jog 2 = .ok (.iload_n 2, 1) := by decide +kernel
theorem dX11_jog_3 : decode cX11_jog 3 = .ok (.invokevirtual 153, 3) := by decide +kernel
theorem dX11_jog_6 : decode cX11_jog 6 = .ok (.ifCond .eq 12, 3) := by decide +kernel
theorem dX11_jog_9 : decode cX11_jog 9 = .ok (.iload_n 3, 1) := by decide +kernel
theorem dX11_jog_10 : decode cX11_jog 10 = .ok (.ifCond .eq 10, 3) := by decide +kernel
theorem dX11_jog_13 : decode cX11_jog 13 = .ok (.iload_n 3, 1) := by decide +kernel
theorem dX11_jog_14 : decode cX11_jog 14 = .ok (.iconst 2, 1) := by decide +kernel
theorem dX11_jog_15 : decode cX11_jog 15 = .ok (.if_icmp .eq 5, 3) := by decide +kernel
theorem dX11_jog_18 : decode cX11_jog 18 = .ok (.iconst (-1), 1) := by decide +kernel
theorem dX11_jog_19 : decode cX11_jog 19 = .ok (.ireturn, 1) := by decide +kernel
theorem dX11_jog_20 : decode cX11_jog 20 = .ok (.aload_n 0, 1) := by decide +kernel
theorem dX11_jog_21 : decode cX11_jog 21 = .ok (.iload_n 1, 1) := by decide +kernel
theorem dX11_jog_22 : decode cX11_jog 22 = .ok (.iload_n 2, 1) := by decide +kernel
theorem dX11_jog_23 : decode cX11_jog 23 = .ok (.invokevirtual 101, 3) := by decide +kernel
theorem dX11_jog_26 : decode cX11_jog 26 = .ok (.istore 4, 2) := by decide +kernel
theorem dX11_jog_28 : decode cX11_jog 28 = .ok (.iload_n 3, 1) := by decide +kernel
theorem dX11_jog_29 : decode cX11_jog 29 = .ok (.ifCond .ne 10, 3) := by decide +kernel
theorem dX11_jog_32 : decode cX11_jog 32 = .ok (.iload 4, 2) := by decide +kernel
theorem dX11_jog_34 : decode cX11_jog 34 = .ok (.iconst 1, 1) := by decide +kernel
theorem dX11_jog_35 : decode cX11_jog 35 = .ok (.isub, 1) := by decide +kernel
theorem dX11_jog_36 : decode cX11_jog 36 = .ok (.goto 7, 3) := by decide +kernel
theorem dX11_jog_39 : decode cX11_jog 39 = .ok (.iload 4, 2) := by decide +kernel
theorem dX11_jog_41 : decode cX11_jog 41 = .ok (.iconst 1, 1) := by decide +kernel
theorem dX11_jog_42 : decode cX11_jog 42 = .ok (.iadd, 1) := by decide +kernel
theorem dX11_jog_43 : decode cX11_jog 43 = .ok (.istore 5, 2) := by decide +kernel
theorem dX11_jog_45 : decode cX11_jog 45 = .ok (.iload 5, 2) := by decide +kernel
theorem dX11_jog_47 : decode cX11_jog 47 = .ok (.i2l, 1) := by decide +kernel
theorem dX11_jog_48 : decode cX11_jog 48 = .ok (.lconst 0, 1) := by decide +kernel
theorem dX11_jog_49 : decode cX11_jog 49 = .ok (.aload_n 0, 1) := by decide +kernel
theorem dX11_jog_50 : decode cX11_jog 50 = .ok (.iload_n 1, 1) := by decide +kernel
theorem dX11_jog_51 : decode cX11_jog 51 = .ok (.invokevirtual 94, 3) := by decide +kernel
theorem dX11_jog_54 : decode cX11_jog 54 = .ok (.i2l, 1) := by decide +kernel
theorem dX11_jog_55 : decode cX11_jog 55 = .ok (.invokestatic 72, 3) := by decide +kernel
theorem dX11_jog_58 : decode cX11_jog 58 = .ok (.ifCond .eq 24, 3) := by decide +kernel
theorem dX11_jog_61 : decode cX11_jog 61 = .ok (.aload_n 0, 1) := by decide +kernel
theorem dX11_jog_62 : decode cX11_jog 62 = .ok (.iload_n 1, 1) := by decide +kernel
theorem dX11_jog_63 : decode cX11_jog 63 = .ok (.iload 5, 2) := by decide +kernel
theorem dX11_jog_65 : decode cX11_jog 65 = .ok (.invokevirtual 115, 3) := by decide +kernel
theorem dX11_jog_68 : decode cX11_jog 68 = .ok (.aload_n 0, 1) := by decide +kernel
theorem dX11_jog_69 : decode cX11_jog 69 = .ok (.iload_n 1, 1) := by decide +kernel
theorem dX11_jog_70 : decode cX11_jog 70 = .ok (.iload 4, 2) := by decide +kernel
theorem dX11_jog_72 : decode cX11_jog 72 = .ok (.invokevirtual 115, 3) := by decide +kernel
theorem dX11_jog_75 : decode cX11_jog 75 = .ok (.if_icmp .eq 7, 3) := by decide +kernel
theorem dX11_jog_78 : decode cX11_jog 78 = .ok (.iconst 1, 1) := by decide +kernel
theorem dX11_jog_79 : decode cX11_jog 79 = .ok (.goto 4, 3) := by decide +kernel
theorem dX11_jog_82 : decode cX11_jog 82 = .ok (.iconst 0, 1) := by decide +kernel
theorem dX11_jog_83 : decode cX11_jog 83 = .ok (.ireturn, 1) := by decide +kernel
set_option maxRecDepth 20000 in
theorem ggX11_isBox_X11_isPlace : GoodIn wsX11_isBox wsX11_isPlace := goodIn_r _ [4, 5, 6, 7, 8, 9, 3, 10] (by decide +kernel) (by decide +kernel)
set_option maxRecDepth 20000 in
theorem gX11_isBox_X11_isPlace : GoodIn wsX11_isBox (va_wsS RX11 133 yX11_isPlace wsX11_isPlace) := goodIn_app (goodIn_of _ (by decide +kernel)) ggX11_isBox_X11_isPlace
theorem dX11_isBox_0 : decode cX11_isBox 0 = .ok (.iload_n 1, 1) := by decide +kernel
theorem dX11_isBox_1 : decode cX11_isBox 1 = .ok (.iload_n 3, 1) := by decide +kernel
theorem dX11_isBox_2 : decode cX11_isBox 2 = .ok (.invokestatic 133, 3) := by decide +kernel
theorem dX11_isBox_5 : decode cX11_isBox 5 = .ok (.ifCond .eq 21, 3) := by decide +kernel
theorem dX11_isBox_8 : decode cX11_isBox 8 = .ok (.iload_n 2, 1) := by decide +kernel
theorem dX11_isBox_9 : decode cX11_isBox 9 = .ok (.iload 4, 2) := by decide +kernel
theorem dX11_isBox_11 : decode cX11_isBox 11 = .ok (.invokestatic 133, 3) := by decide +kernel
theorem dX11_isBox_14 : decode cX11_isBox 14 = .ok (.ifCond .eq 12, 3) := by decide +kernel
theorem dX11_isBox_17 : decode cX11_isBox 17 = .ok (.iload_n 1, 1) := by decide +kernel
theorem dX11_isBox_18 : decode cX11_isBox 18 = .ok (.iload_n 2, 1) := by decide +kernel
theorem dX11_isBox_19 : decode cX11_isBox 19 = .ok (.if_icmp .gt 7, 3) := by decide +kernel
theorem dX11_isBox_22 : decode cX11_isBox 22 = .ok (.iconst 1, 1) := by decide +kernel
theorem dX11_isBox_23 : decode cX11_isBox 23 = .ok (.goto 4, 3) := by decide +kernel
theorem dX11_isBox_26 : decode cX11_isBox 26 = .ok (.iconst 0, 1) := by decide +kernel
theorem dX11_isBox_27 : decode cX11_isBox 27 = .ok (.ireturn, 1) := by decide +kernel
set_option maxRecDepth 20000 in
theorem ggX11_laysBox_X11_rowAt : GoodIn wsX11_laysBox wsX11_rowAt := goodIn_r _ [10, 11, 12, 13, 14, 15, 16, 9, 17, 18, 19, 20, 21, 22, 23, 24, 25, 26, 27, 28, 29, 30, 31, 32, 33, 34, 35, 36, 37, 38, 39, 40, 41, 42, 43, 44, 45, 46, 47, 48, 49, 50, 51, 52, 53, 54, 55, 56, 57, 58, 59, 60, 61, 62, 63] (by decide +kernel) (by decide +kernel)
set_option maxRecDepth 20000 in
theorem gX11_laysBox_X11_rowAt : GoodIn wsX11_laysBox (wsV RX11 112 RX11 yX11_rowAt wsX11_rowAt) := goodIn_app (goodIn_of _ (by decide +kernel)) ggX11_laysBox_X11_rowAt
theorem dX11_laysBox_0 : decode cX11_laysBox 0 = .ok (.aload_n 0, 1) := by decide +kernel
theorem dX11_laysBox_1 : decode cX11_laysBox 1 = .ok (.iload 5, 2) := by decide +kernel
theorem dX11_laysBox_3 : decode cX11_laysBox 3 = .ok (.putfield 298, 3) := by decide +kernel
theorem dX11_laysBox_6 : decode cX11_laysBox 6 = .ok (.aload_n 0, 1) := by decide +kernel
theorem dX11_laysBox_7 : decode cX11_laysBox 7 = .ok (.aload_n 0, 1) := by decide +kernel
theorem dX11_laysBox_8 : decode cX11_laysBox 8 = .ok (.iload_n 2, 1) := by decide +kernel
theorem dX11_laysBox_9 : decode cX11_laysBox 9 = .ok (.iload 5, 2) := by decide +kernel
theorem dX11_laysBox_11 : decode cX11_laysBox 11 = .ok (.invokevirtual 112, 3) := by decide +kernel
theorem dX11_laysBox_14 : decode cX11_laysBox 14 = .ok (.putfield 301, 3) := by decide +kernel
theorem dX11_laysBox_17 : decode cX11_laysBox 17 = .ok (.aload_n 0, 1) := by decide +kernel
theorem dX11_laysBox_18 : decode cX11_laysBox 18 = .ok (.aload_n 0, 1) := by decide +kernel
theorem dX11_laysBox_19 : decode cX11_laysBox 19 = .ok (.iload_n 1, 1) := by decide +kernel
theorem dX11_laysBox_20 : decode cX11_laysBox 20 = .ok (.iload 5, 2) := by decide +kernel
theorem dX11_laysBox_22 : decode cX11_laysBox 22 = .ok (.invokevirtual 112, 3) := by decide +kernel
theorem dX11_laysBox_25 : decode cX11_laysBox 25 = .ok (.putfield 304, 3) := by decide +kernel
theorem dX11_laysBox_28 : decode cX11_laysBox 28 = .ok (.aload_n 0, 1) := by decide +kernel
theorem dX11_laysBox_29 : decode cX11_laysBox 29 = .ok (.iload_n 3, 1) := by decide +kernel
theorem dX11_laysBox_30 : decode cX11_laysBox 30 = .ok (.putfield 307, 3) := by decide +kernel
theorem dX11_laysBox_33 : decode cX11_laysBox 33 = .ok (.aload_n 0, 1) := by decide +kernel
theorem dX11_laysBox_34 : decode cX11_laysBox 34 = .ok (.iload 4, 2) := by decide +kernel
theorem dX11_laysBox_36 : decode cX11_laysBox 36 = .ok (.putfield 310, 3) := by decide +kernel
theorem dX11_laysBox_39 : decode cX11_laysBox 39 = .ok (.return_, 1) := by decide +kernel
set_option maxRecDepth 20000 in
theorem ggX11_westOf_X11_many : GoodIn wsX11_westOf wsX11_many := goodIn_r _ [7, 8, 9, 10, 11, 6, 12, 13, 14, 15, 16, 17, 18, 19, 20, 21, 22, 23, 24, 30, 31, 32, 33, 34, 35, 36, 37, 38, 39, 40, 41, 42, 43, 44, 45, 46, 47, 48, 49, 50, 51, 52, 53, 54, 55, 56, 57, 58, 59, 60, 61, 62, 63, 64, 65, 66, 67, 68, 69, 70, 71] (by decide +kernel) (by decide +kernel)
set_option maxRecDepth 20000 in
theorem gX11_westOf_X11_many : GoodIn wsX11_westOf (wsV RX11 115 RX11 yX11_many wsX11_many) := goodIn_app (goodIn_of _ (by decide +kernel)) ggX11_westOf_X11_many
set_option maxRecDepth 20000 in
theorem ggX11_westOf_X11_placeAt : GoodIn wsX11_westOf wsX11_placeAt := goodIn_r _ [28, 29] (by decide +kernel) (by decide +kernel)
set_option maxRecDepth 20000 in
theorem gX11_westOf_X11_placeAt : GoodIn wsX11_westOf (wsV RX11 118 RX11 yX11_placeAt wsX11_placeAt) := goodIn_app (goodIn_of _ (by decide +kernel)) ggX11_westOf_X11_placeAt
theorem dX11_westOf_0 : decode cX11_westOf 0 = .ok (.aload_n 0, 1) := by decide +kernel
theorem dX11_westOf_1 : decode cX11_westOf 1 = .ok (.aload_n 0, 1) := by decide +kernel
theorem dX11_westOf_2 : decode cX11_westOf 2 = .ok (.getfield 307, 3) := by decide +kernel
theorem dX11_westOf_5 : decode cX11_westOf 5 = .ok (.aload_n 0, 1) := by decide +kernel
theorem dX11_westOf_6 : decode cX11_westOf 6 = .ok (.aload_n 0, 1) := by decide +kernel
theorem dX11_westOf_7 : decode cX11_westOf 7 = .ok (.getfield 298, 3) := by decide +kernel
theorem dX11_westOf_10 : decode cX11_westOf 10 = .ok (.iload_n 1, 1) := by decide +kernel
theorem dX11_westOf_11 : decode cX11_westOf 11 = .ok (.invokevirtual 115, 3) := by decide +kernel
theorem dX11_westOf_14 : decode cX11_westOf 14 = .ok (.invokevirtual 118, 3) := by decide +kernel
theorem dX11_westOf_17 : decode cX11_westOf 17 = .ok (.ireturn, 1) := by decide +kernel
set_option maxRecDepth 20000 in
theorem ggX11_boxMany_X11_many : GoodIn wsX11_boxMany wsX11_many := goodIn_r _ [8, 9, 10, 11, 12, 7, 13, 14, 15, 16, 17, 18, 19, 20, 21, 22, 23, 24, 25, 31, 32, 33, 34, 35, 36, 37, 38, 39, 40, 41, 42, 43, 44, 45, 46, 47, 48, 49, 50, 51, 52, 53, 54, 55, 56, 57, 58, 59, 60, 61, 62, 63, 64, 65, 66, 67, 68, 69, 70, 71, 72] (by decide +kernel) (by decide +kernel)
set_option maxRecDepth 20000 in
theorem gX11_boxMany_X11_many : GoodIn wsX11_boxMany (wsV RX11 115 RX11 yX11_many wsX11_many) := goodIn_app (goodIn_of _ (by decide +kernel)) ggX11_boxMany_X11_many
set_option maxRecDepth 20000 in
theorem ggX11_boxMany_X11_placeAt : GoodIn wsX11_boxMany wsX11_placeAt := goodIn_r _ [29, 30] (by decide +kernel) (by decide +kernel)
set_option maxRecDepth 20000 in
theorem gX11_boxMany_X11_placeAt : GoodIn wsX11_boxMany (wsV RX11 118 RX11 yX11_placeAt wsX11_placeAt) := goodIn_app (goodIn_of _ (by decide +kernel)) ggX11_boxMany_X11_placeAt
theorem dX11_boxMany_0 : decode cX11_boxMany 0 = .ok (.aload_n 0, 1) := by decide +kernel
theorem dX11_boxMany_1 : decode cX11_boxMany 1 = .ok (.aload_n 0, 1) := by decide +kernel
theorem dX11_boxMany_2 : decode cX11_boxMany 2 = .ok (.getfield 298, 3) := by decide +kernel
theorem dX11_boxMany_5 : decode cX11_boxMany 5 = .ok (.iload_n 1, 1) := by decide +kernel
theorem dX11_boxMany_6 : decode cX11_boxMany 6 = .ok (.invokevirtual 115, 3) := by decide +kernel
theorem dX11_boxMany_9 : decode cX11_boxMany 9 = .ok (.istore_n 2, 1) := by decide +kernel
theorem dX11_boxMany_10 : decode cX11_boxMany 10 = .ok (.aload_n 0, 1) := by decide +kernel
theorem dX11_boxMany_11 : decode cX11_boxMany 11 = .ok (.aload_n 0, 1) := by decide +kernel
theorem dX11_boxMany_12 : decode cX11_boxMany 12 = .ok (.getfield 307, 3) := by decide +kernel
theorem dX11_boxMany_15 : decode cX11_boxMany 15 = .ok (.iload_n 2, 1) := by decide +kernel
theorem dX11_boxMany_16 : decode cX11_boxMany 16 = .ok (.invokevirtual 118, 3) := by decide +kernel
theorem dX11_boxMany_19 : decode cX11_boxMany 19 = .ok (.istore_n 3, 1) := by decide +kernel
theorem dX11_boxMany_20 : decode cX11_boxMany 20 = .ok (.aload_n 0, 1) := by decide +kernel
theorem dX11_boxMany_21 : decode cX11_boxMany 21 = .ok (.aload_n 0, 1) := by decide +kernel
theorem dX11_boxMany_22 : decode cX11_boxMany 22 = .ok (.getfield 310, 3) := by decide +kernel
theorem dX11_boxMany_25 : decode cX11_boxMany 25 = .ok (.iload_n 2, 1) := by decide +kernel
theorem dX11_boxMany_26 : decode cX11_boxMany 26 = .ok (.invokevirtual 118, 3) := by decide +kernel
theorem dX11_boxMany_29 : decode cX11_boxMany 29 = .ok (.istore 4, 2) := by decide +kernel
theorem dX11_boxMany_31 : decode cX11_boxMany 31 = .ok (.aload_n 0, 1) := by decide +kernel
theorem dX11_boxMany_32 : decode cX11_boxMany 32 = .ok (.getfield 307, 3) := by decide +kernel
theorem dX11_boxMany_35 : decode cX11_boxMany 35 = .ok (.aload_n 0, 1) := by decide +kernel
theorem dX11_boxMany_36 : decode cX11_boxMany 36 = .ok (.getfield 310, 3) := by decide +kernel
theorem dX11_boxMany_39 : decode cX11_boxMany 39 = .ok (.if_icmp .gt 10, 3) := by decide +kernel
theorem dX11_boxMany_42 : decode cX11_boxMany 42 = .ok (.iload 4, 2) := by decide +kernel
theorem dX11_boxMany_44 : decode cX11_boxMany 44 = .ok (.iload_n 3, 1) := by decide +kernel
theorem dX11_boxMany_45 : decode cX11_boxMany 45 = .ok (.isub, 1) := by decide +kernel
theorem dX11_boxMany_46 : decode cX11_boxMany 46 = .ok (.iconst 1, 1) := by decide +kernel
theorem dX11_boxMany_47 : decode cX11_boxMany 47 = .ok (.iadd, 1) := by decide +kernel
theorem dX11_boxMany_48 : decode cX11_boxMany 48 = .ok (.ireturn, 1) := by decide +kernel
theorem dX11_boxMany_49 : decode cX11_boxMany 49 = .ok (.iload 4, 2) := by decide +kernel
theorem dX11_boxMany_51 : decode cX11_boxMany 51 = .ok (.iload_n 3, 1) := by decide +kernel
theorem dX11_boxMany_52 : decode cX11_boxMany 52 = .ok (.if_icmp .lt 7, 3) := by decide +kernel
theorem dX11_boxMany_55 : decode cX11_boxMany 55 = .ok (.iload_n 2, 1) := by decide +kernel
theorem dX11_boxMany_56 : decode cX11_boxMany 56 = .ok (.goto 11, 3) := by decide +kernel
theorem dX11_boxMany_59 : decode cX11_boxMany 59 = .ok (.iload_n 2, 1) := by decide +kernel
theorem dX11_boxMany_60 : decode cX11_boxMany 60 = .ok (.iload_n 3, 1) := by decide +kernel
theorem dX11_boxMany_61 : decode cX11_boxMany 61 = .ok (.isub, 1) := by decide +kernel
theorem dX11_boxMany_62 : decode cX11_boxMany 62 = .ok (.iload 4, 2) := by decide +kernel
theorem dX11_boxMany_64 : decode cX11_boxMany 64 = .ok (.iadd, 1) := by decide +kernel
theorem dX11_boxMany_65 : decode cX11_boxMany 65 = .ok (.iconst 1, 1) := by decide +kernel
theorem dX11_boxMany_66 : decode cX11_boxMany 66 = .ok (.iadd, 1) := by decide +kernel
theorem dX11_boxMany_67 : decode cX11_boxMany 67 = .ok (.ireturn, 1) := by decide +kernel
set_option maxRecDepth 20000 in
theorem ggX11_boxAll_X11_lastRow : GoodIn wsX11_boxAll wsX11_lastRow := goodIn_r _ [9, 10, 11, 12, 8, 13, 4, 37, 38, 39, 40, 41, 42, 43, 44, 45, 46, 47, 48, 49, 50, 51, 52, 53, 54, 55, 56, 57, 58, 59, 60, 61, 62, 63, 64, 65, 66, 67, 68, 69, 70, 71, 72, 73, 74, 75, 76, 77, 78] (by decide +kernel) (by decide +kernel)
set_option maxRecDepth 20000 in
theorem gX11_boxAll_X11_lastRow : GoodIn wsX11_boxAll (wsV RX11 94 RX11 yX11_lastRow wsX11_lastRow) := goodIn_app (goodIn_of _ (by decide +kernel)) ggX11_boxAll_X11_lastRow
set_option maxRecDepth 20000 in
theorem ggX11_boxAll_X11_bandOf : GoodIn wsX11_boxAll wsX11_bandOf := goodIn_r _ [17, 4, 37, 38, 39, 40, 41, 42, 43, 44, 45, 46, 47, 48, 49, 50, 51, 52, 53, 54, 55, 56, 57, 58, 59, 60, 61, 62, 63, 64, 65, 66, 67, 68, 69, 70, 71, 72, 73, 74, 75, 76, 77, 78] (by decide +kernel) (by decide +kernel)
set_option maxRecDepth 20000 in
theorem gX11_boxAll_X11_bandOf : GoodIn wsX11_boxAll (wsV RX11 97 RX11 yX11_bandOf wsX11_bandOf) := goodIn_app (goodIn_of _ (by decide +kernel)) ggX11_boxAll_X11_bandOf
set_option maxRecDepth 20000 in
theorem ggX11_boxAll_X11_boxMany : GoodIn wsX11_boxAll wsX11_boxMany := goodIn_r _ [21, 3, 22, 23, 24, 25, 26, 8, 27, 28, 5, 6, 7, 9, 10, 11, 12, 13, 4, 14, 15, 16, 17, 29, 30, 31, 32, 33, 34, 35, 36, 37, 38, 39, 40, 41, 42, 43, 44, 45, 46, 47, 48, 49, 50, 51, 52, 53, 54, 55, 56, 57, 58, 59, 60, 61, 62, 63, 64, 65, 66, 67, 68, 69, 70, 71, 72, 73, 74, 75, 76, 77, 78] (by decide +kernel) (by decide +kernel)
set_option maxRecDepth 20000 in
theorem gX11_boxAll_X11_boxMany : GoodIn wsX11_boxAll (wsV RX11 313 RX11 yX11_boxMany wsX11_boxMany) := goodIn_app (goodIn_of _ (by decide +kernel)) ggX11_boxAll_X11_boxMany
theorem dX11_boxAll_0 : decode cX11_boxAll 0 = .ok (.iconst 0, 1) := by decide +kernel
theorem dX11_boxAll_1 : decode cX11_boxAll 1 = .ok (.istore_n 1, 1) := by decide +kernel
theorem dX11_boxAll_2 : decode cX11_boxAll 2 = .ok (.aload_n 0, 1) := by decide +kernel
theorem dX11_boxAll_3 : decode cX11_boxAll 3 = .ok (.getfield 301, 3) := by decide +kernel
theorem dX11_boxAll_6 : decode cX11_boxAll 6 = .ok (.istore_n 2, 1) := by decide +kernel
theorem dX11_boxAll_7 : decode cX11_boxAll 7 = .ok (.iload_n 2, 1) := by decide +kernel
theorem dX11_boxAll_8 : decode cX11_boxAll 8 = .ok (.aload_n 0, 1) := by decide +kernel
theorem dX11_boxAll_9 : decode cX11_boxAll 9 = .ok (.getfield 304, 3) := by decide +kernel
theorem dX11_boxAll_12 : decode cX11_boxAll 12 = .ok (.if_icmp .gt 83, 3) := by decide +kernel
theorem dX11_boxAll_15 : decode cX11_boxAll 15 = .ok (.iload_n 2, 1) := by decide +kernel
theorem dX11_boxAll_16 : decode cX11_boxAll 16 = .ok (.ifCond .eq 15, 3) := by decide +kernel
theorem dX11_boxAll_19 : decode cX11_boxAll 19 = .ok (.iload_n 2, 1) := by decide +kernel
theorem dX11_boxAll_20 : decode cX11_boxAll 20 = .ok (.aload_n 0, 1) := by decide +kernel
theorem dX11_boxAll_21 : decode cX11_boxAll 21 = .ok (.aload_n 0, 1) := by decide +kernel
theorem dX11_boxAll_22 : decode cX11_boxAll 22 = .ok (.getfield 298, 3) := by decide +kernel
theorem dX11_boxAll_25 : decode cX11_boxAll 25 = .ok (.invokevirtual 94, 3) := by decide +kernel
theorem dX11_boxAll_28 : decode cX11_boxAll 28 = .ok (.if_icmp .ne 7, 3) := by decide +kernel
theorem dX11_boxAll_31 : decode cX11_boxAll 31 = .ok (.iload_n 2, 1) := by decide +kernel
theorem dX11_boxAll_32 : decode cX11_boxAll 32 = .ok (.goto 24, 3) := by decide +kernel
theorem dX11_boxAll_35 : decode cX11_boxAll 35 = .ok (.aload_n 0, 1) := by decide +kernel
theorem dX11_boxAll_36 : decode cX11_boxAll 36 = .ok (.aload_n 0, 1) := by decide +kernel
theorem dX11_boxAll_37 : decode cX11_boxAll 37 = .ok (.getfield 298, 3) := by decide +kernel
theorem dX11_boxAll_40 : decode cX11_boxAll 40 = .ok (.iload_n 2, 1) := by decide +kernel
theorem dX11_boxAll_41 : decode cX11_boxAll 41 = .ok (.invokevirtual 97, 3) := by decide +kernel
theorem dX11_boxAll_44 : decode cX11_boxAll 44 = .ok (.iconst 1, 1) := by decide +kernel
theorem dX11_boxAll_45 : decode cX11_boxAll 45 = .ok (.iadd, 1) := by decide +kernel
theorem dX11_boxAll_46 : decode cX11_boxAll 46 = .ok (.aload_n 0, 1) := by decide +kernel
theorem dX11_boxAll_47 : decode cX11_boxAll 47 = .ok (.getfield 16, 3) := by decide +kernel
theorem dX11_boxAll_50 : decode cX11_boxAll 50 = .ok (.aload_n 0, 1) := by decide +kernel
theorem dX11_boxAll_51 : decode cX11_boxAll 51 = .ok (.getfield 298, 3) := by decide +kernel
theorem dX11_boxAll_54 : decode cX11_boxAll 54 = .ok (.iaload, 1) := by decide +kernel
theorem dX11_boxAll_55 : decode cX11_boxAll 55 = .ok (.imul, 1) := by decide +kernel
theorem dX11_boxAll_56 : decode cX11_boxAll 56 = .ok (.istore_n 3, 1) := by decide +kernel
theorem dX11_boxAll_57 : decode cX11_boxAll 57 = .ok (.iload_n 3, 1) := by decide +kernel
theorem dX11_boxAll_58 : decode cX11_boxAll 58 = .ok (.aload_n 0, 1) := by decide +kernel
theorem dX11_boxAll_59 : decode cX11_boxAll 59 = .ok (.getfield 304, 3) := by decide +kernel
theorem dX11_boxAll_62 : decode cX11_boxAll 62 = .ok (.if_icmp .ge 7, 3) := by decide +kernel
theorem dX11_boxAll_65 : decode cX11_boxAll 65 = .ok (.iload_n 3, 1) := by decide +kernel
theorem dX11_boxAll_66 : decode cX11_boxAll 66 = .ok (.goto 7, 3) := by decide +kernel
theorem dX11_boxAll_69 : decode cX11_boxAll 69 = .ok (.aload_n 0, 1) := by decide +kernel
theorem dX11_boxAll_70 : decode cX11_boxAll 70 = .ok (.getfield 304, 3) := by decide +kernel
theorem dX11_boxAll_73 : decode cX11_boxAll 73 = .ok (.istore_n 3, 1) := by decide +kernel
theorem dX11_boxAll_74 : decode cX11_boxAll 74 = .ok (.iload_n 1, 1) := by decide +kernel
theorem dX11_boxAll_75 : decode cX11_boxAll 75 = .ok (.iload_n 3, 1) := by decide +kernel
theorem dX11_boxAll_76 : decode cX11_boxAll 76 = .ok (.iload_n 2, 1) := by decide +kernel
theorem dX11_boxAll_77 : decode cX11_boxAll 77 = .ok (.isub, 1) := by decide +kernel
theorem dX11_boxAll_78 : decode cX11_boxAll 78 = .ok (.iconst 1, 1) := by decide +kernel
theorem dX11_boxAll_79 : decode cX11_boxAll 79 = .ok (.iadd, 1) := by decide +kernel
theorem dX11_boxAll_80 : decode cX11_boxAll 80 = .ok (.aload_n 0, 1) := by decide +kernel
theorem dX11_boxAll_81 : decode cX11_boxAll 81 = .ok (.iload_n 2, 1) := by decide +kernel
theorem dX11_boxAll_82 : decode cX11_boxAll 82 = .ok (.invokevirtual 313, 3) := by decide +kernel
theorem dX11_boxAll_85 : decode cX11_boxAll 85 = .ok (.imul, 1) := by decide +kernel
theorem dX11_boxAll_86 : decode cX11_boxAll 86 = .ok (.iadd, 1) := by decide +kernel
theorem dX11_boxAll_87 : decode cX11_boxAll 87 = .ok (.istore_n 1, 1) := by decide +kernel
theorem dX11_boxAll_88 : decode cX11_boxAll 88 = .ok (.iload_n 3, 1) := by decide +kernel
theorem dX11_boxAll_89 : decode cX11_boxAll 89 = .ok (.iconst 1, 1) := by decide +kernel
theorem dX11_boxAll_90 : decode cX11_boxAll 90 = .ok (.iadd, 1) := by decide +kernel
theorem dX11_boxAll_91 : decode cX11_boxAll 91 = .ok (.istore_n 2, 1) := by decide +kernel
theorem dX11_boxAll_92 : decode cX11_boxAll 92 = .ok (.goto (-85), 3) := by decide +kernel
theorem dX11_boxAll_95 : decode cX11_boxAll 95 = .ok (.iload_n 1, 1) := by decide +kernel
theorem dX11_boxAll_96 : decode cX11_boxAll 96 = .ok (.ireturn, 1) := by decide +kernel
set_option maxRecDepth 20000 in
theorem ggX11_boxKey_X11_boxMany : GoodIn wsX11_boxKey wsX11_boxMany := goodIn_r _ [8, 3, 9, 10, 11, 12, 13, 7, 14, 15, 16, 17, 18, 19, 20, 21, 22, 23, 24, 25, 26, 27, 28, 29, 30, 31, 32, 33, 34, 35, 36, 50, 51, 52, 53, 54, 55, 56, 57, 58, 59, 60, 61, 62, 63, 64, 65, 66, 67, 68, 69, 70, 71, 72, 73, 74, 75, 76, 77, 78, 79, 80, 81, 82, 83, 84, 85, 86, 87, 88, 89, 90, 91] (by decide +kernel) (by decide +kernel)
set_option maxRecDepth 20000 in
theorem gX11_boxKey_X11_boxMany : GoodIn wsX11_boxKey (wsV RX11 313 RX11 yX11_boxMany wsX11_boxMany) := goodIn_app (goodIn_of _ (by decide +kernel)) ggX11_boxKey_X11_boxMany
set_option maxRecDepth 20000 in
theorem ggX11_boxKey_X11_westOf : GoodIn wsX11_boxKey wsX11_westOf := goodIn_r _ [40, 9, 3, 11, 12, 13, 7, 14, 15, 16, 17, 18, 19, 20, 21, 22, 23, 24, 25, 26, 27, 28, 29, 30, 31, 32, 33, 34, 35, 36, 50, 51, 52, 53, 54, 55, 56, 57, 58, 59, 60, 61, 62, 63, 64, 65, 66, 67, 68, 69, 70, 71, 72, 73, 74, 75, 76, 77, 78, 79, 80, 81, 82, 83, 84, 85, 86, 87, 88, 89, 90, 91] (by decide +kernel) (by decide +kernel)
set_option maxRecDepth 20000 in
theorem gX11_boxKey_X11_westOf : GoodIn wsX11_boxKey (wsV RX11 316 RX11 yX11_westOf wsX11_westOf) := goodIn_app (goodIn_of _ (by decide +kernel)) ggX11_boxKey_X11_westOf
set_option maxRecDepth 20000 in
theorem ggX11_boxKey_X11_many : GoodIn wsX11_boxKey wsX11_many := goodIn_r _ [14, 15, 16, 17, 18, 7, 19, 20, 21, 22, 23, 24, 25, 26, 27, 28, 29, 30, 31, 50, 51, 52, 53, 54, 55, 56, 57, 58, 59, 60, 61, 62, 63, 64, 65, 66, 67, 68, 69, 70, 71, 72, 73, 74, 75, 76, 77, 78, 79, 80, 81, 82, 83, 84, 85, 86, 87, 88, 89, 90, 91] (by decide +kernel) (by decide +kernel)
set_option maxRecDepth 20000 in
theorem gX11_boxKey_X11_many : GoodIn wsX11_boxKey (wsV RX11 115 RX11 yX11_many wsX11_many) := goodIn_app (goodIn_of _ (by decide +kernel)) ggX11_boxKey_X11_many
set_option maxRecDepth 20000 in
theorem ggX11_boxKey_X11_keyOf : GoodIn wsX11_boxKey wsX11_keyOf := goodIn_r _ [44, 15, 24, 45, 16, 17, 18, 7, 19, 20, 21, 22, 23, 46, 47, 48, 49, 25, 26, 27, 28, 29, 30, 31, 50, 51, 52, 53, 54, 55, 56, 57, 58, 59, 60, 61, 62, 63, 64, 65, 66, 67, 68, 69, 70, 71, 72, 73, 74, 75, 76, 77, 78, 79, 80, 81, 82, 83, 84, 85, 86, 87, 88, 89, 90, 91] (by decide +kernel) (by decide +kernel)
set_option maxRecDepth 20000 in
theorem gX11_boxKey_X11_keyOf : GoodIn wsX11_boxKey (wsV RX11 104 RX11 yX11_keyOf wsX11_keyOf) := goodIn_app (goodIn_of _ (by decide +kernel)) ggX11_boxKey_X11_keyOf
theorem dX11_boxKey_0 : decode cX11_boxKey 0 = .ok (.iload_n 1, 1) := by decide +kernel
theorem dX11_boxKey_1 : decode cX11_boxKey 1 = .ok (.istore_n 2, 1) := by decide +kernel
theorem dX11_boxKey_2 : decode cX11_boxKey 2 = .ok (.aload_n 0, 1) := by decide +kernel
theorem dX11_boxKey_3 : decode cX11_boxKey 3 = .ok (.getfield 301, 3) := by decide +kernel
theorem dX11_boxKey_6 : decode cX11_boxKey 6 = .ok (.istore_n 3, 1) := by decide +kernel
theorem dX11_boxKey_7 : decode cX11_boxKey 7 = .ok (.iload_n 3, 1) := by decide +kernel
theorem dX11_boxKey_8 : decode cX11_boxKey 8 = .ok (.aload_n 0, 1) := by decide +kernel
theorem dX11_boxKey_9 : decode cX11_boxKey 9 = .ok (.getfield 304, 3) := by decide +kernel
theorem dX11_boxKey_12 : decode cX11_boxKey 12 = .ok (.if_icmp .gt 54, 3) := by decide +kernel
theorem dX11_boxKey_15 : decode cX11_boxKey 15 = .ok (.aload_n 0, 1) := by decide +kernel
theorem dX11_boxKey_16 : decode cX11_boxKey 16 = .ok (.iload_n 3, 1) := by decide +kernel
theorem dX11_boxKey_17 : decode cX11_boxKey 17 = .ok (.invokevirtual 313, 3) := by decide +kernel
theorem dX11_boxKey_20 : decode cX11_boxKey 20 = .ok (.istore 4, 2) := by decide +kernel
theorem dX11_boxKey_22 : decode cX11_boxKey 22 = .ok (.iload_n 2, 1) := by decide +kernel
theorem dX11_boxKey_23 : decode cX11_boxKey 23 = .ok (.iload 4, 2) := by decide +kernel
theorem dX11_boxKey_25 : decode cX11_boxKey 25 = .ok (.if_icmp .ge 30, 3) := by decide +kernel
theorem dX11_boxKey_28 : decode cX11_boxKey 28 = .ok (.aload_n 0, 1) := by decide +kernel
theorem dX11_boxKey_29 : decode cX11_boxKey 29 = .ok (.aload_n 0, 1) := by decide +kernel
theorem dX11_boxKey_30 : decode cX11_boxKey 30 = .ok (.getfield 298, 3) := by decide +kernel
theorem dX11_boxKey_33 : decode cX11_boxKey 33 = .ok (.iload_n 3, 1) := by decide +kernel
theorem dX11_boxKey_34 : decode cX11_boxKey 34 = .ok (.aload_n 0, 1) := by decide +kernel
theorem dX11_boxKey_35 : decode cX11_boxKey 35 = .ok (.iload_n 3, 1) := by decide +kernel
theorem dX11_boxKey_36 : decode cX11_boxKey 36 = .ok (.invokevirtual 316, 3) := by decide +kernel
theorem dX11_boxKey_39 : decode cX11_boxKey 39 = .ok (.iload_n 2, 1) := by decide +kernel
theorem dX11_boxKey_40 : decode cX11_boxKey 40 = .ok (.iadd, 1) := by decide +kernel
theorem dX11_boxKey_41 : decode cX11_boxKey 41 = .ok (.aload_n 0, 1) := by decide +kernel
theorem dX11_boxKey_42 : decode cX11_boxKey 42 = .ok (.aload_n 0, 1) := by decide +kernel
theorem dX11_boxKey_43 : decode cX11_boxKey 43 = .ok (.getfield 298, 3) := by decide +kernel
theorem dX11_boxKey_46 : decode cX11_boxKey 46 = .ok (.iload_n 3, 1) := by decide +kernel
theorem dX11_boxKey_47 : decode cX11_boxKey 47 = .ok (.invokevirtual 115, 3) := by decide +kernel
theorem dX11_boxKey_50 : decode cX11_boxKey 50 = .ok (.irem, 1) := by decide +kernel
theorem dX11_boxKey_51 : decode cX11_boxKey 51 = .ok (.invokevirtual 104, 3) := by decide +kernel
theorem dX11_boxKey_54 : decode cX11_boxKey 54 = .ok (.ireturn, 1) := by decide +kernel
theorem dX11_boxKey_55 : decode cX11_boxKey 55 = .ok (.iload_n 2, 1) := by decide +kernel
theorem dX11_boxKey_56 : decode cX11_boxKey 56 = .ok (.iload 4, 2) := by decide +kernel
theorem dX11_boxKey_58 : decode cX11_boxKey 58 = .ok (.isub, 1) := by decide +kernel
theorem dX11_boxKey_59 : decode cX11_boxKey 59 = .ok (.istore_n 2, 1) := by decide +kernel
theorem dX11_boxKey_60 : decode cX11_boxKey 60 = .ok (.iinc 3 1, 3) := by decide +kernel
theorem dX11_boxKey_63 : decode cX11_boxKey 63 = .ok (.goto (-56), 3) := by decide +kernel
theorem dX11_boxKey_66 : decode cX11_boxKey 66 = .ok (.iconst (-1), 1) := by decide +kernel
theorem dX11_boxKey_67 : decode cX11_boxKey 67 = .ok (.ireturn, 1) := by decide +kernel
set_option maxRecDepth 20000 in
theorem ggX11_box_X11_isBox : GoodIn wsX11_box wsX11_isBox := goodIn_r _ [5, 6, 7, 4, 8, 9, 10, 11, 12, 13, 14] (by decide +kernel) (by decide +kernel)
set_option maxRecDepth 20000 in
theorem gX11_box_X11_isBox : GoodIn wsX11_box (wsV RX11 319 RX11 yX11_isBox wsX11_isBox) := goodIn_app (goodIn_of _ (by decide +kernel)) ggX11_box_X11_isBox
set_option maxRecDepth 20000 in
theorem ggX11_box_X11_isLevel : GoodIn wsX11_box wsX11_isLevel := goodIn_r _ [17, 18, 12, 13, 4, 14] (by decide +kernel) (by decide +kernel)
set_option maxRecDepth 20000 in
theorem gX11_box_X11_isLevel : GoodIn wsX11_box (va_wsS RX11 84 yX11_isLevel wsX11_isLevel) := goodIn_app (goodIn_of _ (by decide +kernel)) ggX11_box_X11_isLevel
set_option maxRecDepth 20000 in
theorem ggX11_box_X11_laysBox : GoodIn wsX11_box wsX11_laysBox := goodIn_r _ [22, 23, 24, 25, 26, 27, 28, 29, 30, 4, 31, 32, 33, 34, 35, 36, 37, 38, 39, 40, 41, 42, 85, 86, 87, 88, 89, 90, 91, 92, 93, 94, 95, 96, 97, 98, 99, 100, 101, 102, 103, 104, 105, 106, 107, 108, 109, 110, 111, 112, 113, 114, 115, 116, 117, 118, 119, 120, 121, 122, 123, 124, 125, 126] (by decide +kernel) (by decide +kernel)
set_option maxRecDepth 20000 in
theorem gX11_box_X11_laysBox : GoodIn wsX11_box (wsV RX11 323 RX11 yX11_laysBox wsX11_laysBox) := goodIn_app (goodIn_of _ (by decide +kernel)) ggX11_box_X11_laysBox
set_option maxRecDepth 20000 in
theorem ggX11_box_X11_boxAll : GoodIn wsX11_box wsX11_boxAll := goodIn_r _ [46, 24, 25, 23, 34, 35, 36, 37, 4, 38, 39, 40, 41, 42, 47, 48, 49, 50, 51, 52, 53, 54, 26, 27, 55, 56, 57, 58, 59, 60, 61, 62, 63, 64, 65, 66, 67, 85, 86, 87, 88, 89, 90, 91, 92, 93, 94, 95, 96, 97, 98, 99, 100, 101, 102, 103, 104, 105, 106, 107, 108, 109, 110, 111, 112, 113, 114, 115, 116, 117, 118, 119, 120, 121, 122, 123, 124, 125, 126] (by decide +kernel) (by decide +kernel)
set_option maxRecDepth 20000 in
theorem gX11_box_X11_boxAll : GoodIn wsX11_box (wsV RX11 327 RX11 yX11_boxAll wsX11_boxAll) := goodIn_app (goodIn_of _ (by decide +kernel)) ggX11_box_X11_boxAll
set_option maxRecDepth 20000 in
theorem ggX11_box_X11_boxKey : GoodIn wsX11_box wsX11_boxKey := goodIn_r _ [71, 24, 25, 23, 51, 52, 53, 4, 54, 26, 27, 55, 56, 57, 58, 59, 35, 36, 37, 38, 39, 40, 41, 42, 34, 47, 48, 49, 50, 60, 61, 62, 63, 64, 65, 66, 67, 72, 73, 74, 75, 76, 77, 78, 79, 80, 81, 82, 83, 84, 85, 86, 87, 88, 89, 90, 91, 92, 93, 94, 95, 96, 97, 98, 99, 100, 101, 102, 103, 104, 105, 106, 107, 108, 109, 110, 111, 112, 113, 114, 115, 116, 117, 118, 119, 120, 121, 122, 123, 124, 125, 126] (by decide +kernel) (by decide +kernel)
set_option maxRecDepth 20000 in
theorem gX11_box_X11_boxKey : GoodIn wsX11_box (wsV RX11 331 RX11 yX11_boxKey wsX11_boxKey) := goodIn_app (goodIn_of _ (by decide +kernel)) ggX11_box_X11_boxKey
theorem dX11_box_0 : decode cX11_box 0 = .ok (.aload_n 0, 1) := by decide +kernel
theorem dX11_box_1 : decode cX11_box 1 = .ok (.iload_n 1, 1) := by decide +kernel
theorem dX11_box_2 : decode cX11_box 2 = .ok (.iload_n 2, 1) := by decide +kernel
theorem dX11_box_3 : decode cX11_box 3 = .ok (.iload_n 3, 1) := by decide +kernel
theorem dX11_box_4 : decode cX11_box 4 = .ok (.iload 4, 2) := by decide +kernel
theorem dX11_box_6 : decode cX11_box 6 = .ok (.invokevirtual 319, 3) := by decide +kernel
theorem dX11_box_9 : decode cX11_box 9 = .ok (.ifCond .eq 17, 3) := by decide +kernel
theorem dX11_box_12 : decode cX11_box 12 = .ok (.iload 5, 2) := by decide +kernel
theorem dX11_box_14 : decode cX11_box 14 = .ok (.invokestatic 84, 3) := by decide +kernel
theorem dX11_box_17 : decode cX11_box 17 = .ok (.ifCond .eq 9, 3) := by decide +kernel
theorem dX11_box_20 : decode cX11_box 20 = .ok (.iload 6, 2) := by decide +kernel
theorem dX11_box_22 : decode cX11_box 22 = .ok (.iconst (-1), 1) := by decide +kernel
theorem dX11_box_23 : decode cX11_box 23 = .ok (.if_icmp .ge 5, 3) := by decide +kernel
theorem dX11_box_26 : decode cX11_box 26 = .ok (.iconst (-1), 1) := by decide +kernel
theorem dX11_box_27 : decode cX11_box 27 = .ok (.ireturn, 1) := by decide +kernel
theorem dX11_box_28 : decode cX11_box 28 = .ok (.aload_n 0, 1) := by decide +kernel
theorem dX11_box_29 : decode cX11_box 29 = .ok (.iload_n 1, 1) := by decide +kernel
theorem dX11_box_30 : decode cX11_box 30 = .ok (.iload_n 2, 1) := by decide +kernel
theorem dX11_box_31 : decode cX11_box 31 = .ok (.iload_n 3, 1) := by decide +kernel
theorem dX11_box_32 : decode cX11_box 32 = .ok (.iload 4, 2) := by decide +kernel
theorem dX11_box_34 : decode cX11_box 34 = .ok (.iload 5, 2) := by decide +kernel
theorem dX11_box_36 : decode cX11_box 36 = .ok (.invokevirtual 323, 3) := by decide +kernel
theorem dX11_box_39 : decode cX11_box 39 = .ok (.aload_n 0, 1) := by decide +kernel
theorem dX11_box_40 : decode cX11_box 40 = .ok (.invokevirtual 327, 3) := by decide +kernel
theorem dX11_box_43 : decode cX11_box 43 = .ok (.istore 7, 2) := by decide +kernel
theorem dX11_box_45 : decode cX11_box 45 = .ok (.iload 6, 2) := by decide +kernel
theorem dX11_box_47 : decode cX11_box 47 = .ok (.iconst (-1), 1) := by decide +kernel
theorem dX11_box_48 : decode cX11_box 48 = .ok (.if_icmp .ne 8, 3) := by decide +kernel
theorem dX11_box_51 : decode cX11_box 51 = .ok (.iload 7, 2) := by decide +kernel
theorem dX11_box_53 : decode cX11_box 53 = .ok (.goto 21, 3) := by decide +kernel
theorem dX11_box_56 : decode cX11_box 56 = .ok (.iload 6, 2) := by decide +kernel
theorem dX11_box_58 : decode cX11_box 58 = .ok (.iload 7, 2) := by decide +kernel
theorem dX11_box_60 : decode cX11_box 60 = .ok (.if_icmp .ge 12, 3) := by decide +kernel
theorem dX11_box_63 : decode cX11_box 63 = .ok (.aload_n 0, 1) := by decide +kernel
theorem dX11_box_64 : decode cX11_box 64 = .ok (.iload 6, 2) := by decide +kernel
theorem dX11_box_66 : decode cX11_box 66 = .ok (.invokevirtual 331, 3) := by decide +kernel
theorem dX11_box_69 : decode cX11_box 69 = .ok (.goto 5, 3) := by decide +kernel
theorem dX11_box_72 : decode cX11_box 72 = .ok (.bipush (-2), 2) := by decide +kernel
theorem dX11_box_74 : decode cX11_box 74 = .ok (.ireturn, 1) := by decide +kernel
set_option maxRecDepth 20000 in
theorem ggX11_isWhole_X11_lastRow : GoodIn wsX11_isWhole wsX11_lastRow := goodIn_r _ [10, 11, 12, 13, 9, 14, 4, 41, 42, 43, 44, 45, 46, 47, 48, 49, 50, 51, 52, 53, 54, 55, 56, 57, 58, 59, 60, 61, 62, 63, 64, 65, 66, 67, 68, 69, 70, 71, 72, 73, 74, 75, 76, 77, 78, 79, 80, 81, 82] (by decide +kernel) (by decide +kernel)
set_option maxRecDepth 20000 in
theorem gX11_isWhole_X11_lastRow : GoodIn wsX11_isWhole (wsV RX11 94 RX11 yX11_lastRow wsX11_lastRow) := goodIn_app (goodIn_of _ (by decide +kernel)) ggX11_isWhole_X11_lastRow
set_option maxRecDepth 20000 in
theorem ggX11_isWhole_X11_many : GoodIn wsX11_isWhole wsX11_many := goodIn_r _ [18, 5, 6, 7, 8, 9, 10, 11, 12, 13, 14, 4, 19, 20, 21, 22, 23, 24, 25, 41, 42, 43, 44, 45, 46, 47, 48, 49, 50, 51, 52, 53, 54, 55, 56, 57, 58, 59, 60, 61, 62, 63, 64, 65, 66, 67, 68, 69, 70, 71, 72, 73, 74, 75, 76, 77, 78, 79, 80, 81, 82] (by decide +kernel) (by decide +kernel)
set_option maxRecDepth 20000 in
theorem gX11_isWhole_X11_many : GoodIn wsX11_isWhole (wsV RX11 115 RX11 yX11_many wsX11_many) := goodIn_app (goodIn_of _ (by decide +kernel)) ggX11_isWhole_X11_many
set_option maxRecDepth 20000 in
theorem ggX11_isWhole_X11_boxMany : GoodIn wsX11_isWhole wsX11_boxMany := goodIn_r _ [29, 1, 30, 31, 15, 16, 17, 9, 18, 5, 6, 7, 8, 10, 11, 12, 13, 14, 4, 19, 20, 21, 22, 23, 24, 25, 32, 33, 34, 35, 36, 41, 42, 43, 44, 45, 46, 47, 48, 49, 50, 51, 52, 53, 54, 55, 56, 57, 58, 59, 60, 61, 62, 63, 64, 65, 66, 67, 68, 69, 70, 71, 72, 73, 74, 75, 76, 77, 78, 79, 80, 81, 82] (by decide +kernel) (by decide +kernel)
set_option maxRecDepth 20000 in
theorem gX11_isWhole_X11_boxMany : GoodIn wsX11_isWhole (wsV RX11 313 RX11 yX11_boxMany wsX11_boxMany) := goodIn_app (goodIn_of _ (by decide +kernel)) ggX11_isWhole_X11_boxMany
set_option maxRecDepth 20000 in
theorem ggX11_isWhole_X11_westOf : GoodIn wsX11_isWhole wsX11_westOf := goodIn_r _ [40, 30, 1, 15, 16, 17, 9, 18, 5, 6, 7, 8, 10, 11, 12, 13, 14, 4, 19, 20, 21, 22, 23, 24, 25, 32, 33, 34, 35, 36, 41, 42, 43, 44, 45, 46, 47, 48, 49, 50, 51, 52, 53, 54, 55, 56, 57, 58, 59, 60, 61, 62, 63, 64, 65, 66, 67, 68, 69, 70, 71, 72, 73, 74, 75, 76, 77, 78, 79, 80, 81, 82] (by decide +kernel) (by decide +kernel)
set_option maxRecDepth 20000 in
theorem gX11_isWhole_X11_westOf : GoodIn wsX11_isWhole (wsV RX11 316 RX11 yX11_westOf wsX11_westOf) := goodIn_app (goodIn_of _ (by decide +kernel)) ggX11_isWhole_X11_westOf
theorem dX11_isWhole_0 : decode cX11_isWhole 0 = .ok (.aload_n 0, 1) := by decide +kernel
theorem dX11_isWhole_1 : decode cX11_isWhole 1 = .ok (.getfield 298, 3) := by decide +kernel
theorem dX11_isWhole_4 : decode cX11_isWhole 4 = .ok (.istore 4, 2) := by decide +kernel
theorem dX11_isWhole_6 : decode cX11_isWhole 6 = .ok (.iload_n 2, 1) := by decide +kernel
theorem dX11_isWhole_7 : decode cX11_isWhole 7 = .ok (.ifCond .ne 16, 3) := by decide +kernel
theorem dX11_isWhole_10 : decode cX11_isWhole 10 = .ok (.aload_n 0, 1) := by decide +kernel
theorem dX11_isWhole_11 : decode cX11_isWhole 11 = .ok (.getfield 301, 3) := by decide +kernel
theorem dX11_isWhole_14 : decode cX11_isWhole 14 = .ok (.ifCond .ne 7, 3) := by decide +kernel
theorem dX11_isWhole_17 : decode cX11_isWhole 17 = .ok (.iconst 1, 1) := by decide +kernel
theorem dX11_isWhole_18 : decode cX11_isWhole 18 = .ok (.goto 4, 3) := by decide +kernel
theorem dX11_isWhole_21 : decode cX11_isWhole 21 = .ok (.iconst 0, 1) := by decide +kernel
theorem dX11_isWhole_22 : decode cX11_isWhole 22 = .ok (.ireturn, 1) := by decide +kernel
theorem dX11_isWhole_23 : decode cX11_isWhole 23 = .ok (.iload_n 2, 1) := by decide +kernel
theorem dX11_isWhole_24 : decode cX11_isWhole 24 = .ok (.aload_n 0, 1) := by decide +kernel
theorem dX11_isWhole_25 : decode cX11_isWhole 25 = .ok (.iload_n 1, 1) := by decide +kernel
theorem dX11_isWhole_26 : decode cX11_isWhole 26 = .ok (.invokevirtual 94, 3) := by decide +kernel
theorem dX11_isWhole_29 : decode cX11_isWhole 29 = .ok (.if_icmp .ne 22, 3) := by decide +kernel
theorem dX11_isWhole_32 : decode cX11_isWhole 32 = .ok (.aload_n 0, 1) := by decide +kernel
theorem dX11_isWhole_33 : decode cX11_isWhole 33 = .ok (.getfield 304, 3) := by decide +kernel
theorem dX11_isWhole_36 : decode cX11_isWhole 36 = .ok (.aload_n 0, 1) := by decide +kernel
theorem dX11_isWhole_37 : decode cX11_isWhole 37 = .ok (.iload 4, 2) := by decide +kernel
theorem dX11_isWhole_39 : decode cX11_isWhole 39 = .ok (.invokevirtual 94, 3) := by decide +kernel
theorem dX11_isWhole_42 : decode cX11_isWhole 42 = .ok (.if_icmp .ne 7, 3) := by decide +kernel
theorem dX11_isWhole_45 : decode cX11_isWhole 45 = .ok (.iconst 1, 1) := by decide +kernel
theorem dX11_isWhole_46 : decode cX11_isWhole 46 = .ok (.goto 4, 3) := by decide +kernel
theorem dX11_isWhole_49 : decode cX11_isWhole 49 = .ok (.iconst 0, 1) := by decide +kernel
theorem dX11_isWhole_50 : decode cX11_isWhole 50 = .ok (.ireturn, 1) := by decide +kernel
theorem dX11_isWhole_51 : decode cX11_isWhole 51 = .ok (.aload_n 0, 1) := by decide +kernel
theorem dX11_isWhole_52 : decode cX11_isWhole 52 = .ok (.getfield 16, 3) := by decide +kernel
theorem dX11_isWhole_55 : decode cX11_isWhole 55 = .ok (.iload 4, 2) := by decide +kernel
theorem dX11_isWhole_57 : decode cX11_isWhole 57 = .ok (.iaload, 1) := by decide +kernel
theorem dX11_isWhole_58 : decode cX11_isWhole 58 = .ok (.aload_n 0, 1) := by decide +kernel
theorem dX11_isWhole_59 : decode cX11_isWhole 59 = .ok (.getfield 16, 3) := by decide +kernel
theorem dX11_isWhole_62 : decode cX11_isWhole 62 = .ok (.iload_n 1, 1) := by decide +kernel
theorem dX11_isWhole_63 : decode cX11_isWhole 63 = .ok (.iaload, 1) := by decide +kernel
theorem dX11_isWhole_64 : decode cX11_isWhole 64 = .ok (.idiv, 1) := by decide +kernel
theorem dX11_isWhole_65 : decode cX11_isWhole 65 = .ok (.istore 5, 2) := by decide +kernel
theorem dX11_isWhole_67 : decode cX11_isWhole 67 = .ok (.aload_n 0, 1) := by decide +kernel
theorem dX11_isWhole_68 : decode cX11_isWhole 68 = .ok (.getfield 19, 3) := by decide +kernel
theorem dX11_isWhole_71 : decode cX11_isWhole 71 = .ok (.iload 4, 2) := by decide +kernel
theorem dX11_isWhole_73 : decode cX11_isWhole 73 = .ok (.iaload, 1) := by decide +kernel
theorem dX11_isWhole_74 : decode cX11_isWhole 74 = .ok (.aload_n 0, 1) := by decide +kernel
theorem dX11_isWhole_75 : decode cX11_isWhole 75 = .ok (.getfield 19, 3) := by decide +kernel
theorem dX11_isWhole_78 : decode cX11_isWhole 78 = .ok (.iload_n 1, 1) := by decide +kernel
theorem dX11_isWhole_79 : decode cX11_isWhole 79 = .ok (.iaload, 1) := by decide +kernel
theorem dX11_isWhole_80 : decode cX11_isWhole 80 = .ok (.idiv, 1) := by decide +kernel
theorem dX11_isWhole_81 : decode cX11_isWhole 81 = .ok (.istore 6, 2) := by decide +kernel
theorem dX11_isWhole_83 : decode cX11_isWhole 83 = .ok (.iconst 1, 1) := by decide +kernel
theorem dX11_isWhole_84 : decode cX11_isWhole 84 = .ok (.iload_n 2, 1) := by decide +kernel
theorem dX11_isWhole_85 : decode cX11_isWhole 85 = .ok (.iconst 1, 1) := by decide +kernel
theorem dX11_isWhole_86 : decode cX11_isWhole 86 = .ok (.isub, 1) := by decide +kernel
theorem dX11_isWhole_87 : decode cX11_isWhole 87 = .ok (.iload 5, 2) := by decide +kernel
theorem dX11_isWhole_89 : decode cX11_isWhole 89 = .ok (.imul, 1) := by decide +kernel
theorem dX11_isWhole_90 : decode cX11_isWhole 90 = .ok (.iadd, 1) := by decide +kernel
theorem dX11_isWhole_91 : decode cX11_isWhole 91 = .ok (.istore 7, 2) := by decide +kernel
theorem dX11_isWhole_93 : decode cX11_isWhole 93 = .ok (.iload 7, 2) := by decide +kernel
theorem dX11_isWhole_95 : decode cX11_isWhole 95 = .ok (.aload_n 0, 1) := by decide +kernel
theorem dX11_isWhole_96 : decode cX11_isWhole 96 = .ok (.getfield 301, 3) := by decide +kernel
theorem dX11_isWhole_99 : decode cX11_isWhole 99 = .ok (.if_icmp .lt 17, 3) := by decide +kernel
theorem dX11_isWhole_102 : decode cX11_isWhole 102 = .ok (.iload 7, 2) := by decide +kernel
theorem dX11_isWhole_104 : decode cX11_isWhole 104 = .ok (.iload 5, 2) := by decide +kernel
theorem dX11_isWhole_106 : decode cX11_isWhole 106 = .ok (.iadd, 1) := by decide +kernel
theorem dX11_isWhole_107 : decode cX11_isWhole 107 = .ok (.iconst 1, 1) := by decide +kernel
theorem dX11_isWhole_108 : decode cX11_isWhole 108 = .ok (.isub, 1) := by decide +kernel
theorem dX11_isWhole_109 : decode cX11_isWhole 109 = .ok (.aload_n 0, 1) := by decide +kernel
theorem dX11_isWhole_110 : decode cX11_isWhole 110 = .ok (.getfield 304, 3) := by decide +kernel
theorem dX11_isWhole_113 : decode cX11_isWhole 113 = .ok (.if_icmp .le 5, 3) := by decide +kernel
theorem dX11_isWhole_116 : decode cX11_isWhole 116 = .ok (.iconst 0, 1) := by decide +kernel
theorem dX11_isWhole_117 : decode cX11_isWhole 117 = .ok (.ireturn, 1) := by decide +kernel
theorem dX11_isWhole_118 : decode cX11_isWhole 118 = .ok (.aload_n 0, 1) := by decide +kernel
theorem dX11_isWhole_119 : decode cX11_isWhole 119 = .ok (.iload 4, 2) := by decide +kernel
theorem dX11_isWhole_121 : decode cX11_isWhole 121 = .ok (.iload 7, 2) := by decide +kernel
theorem dX11_isWhole_123 : decode cX11_isWhole 123 = .ok (.invokevirtual 115, 3) := by decide +kernel
theorem dX11_isWhole_126 : decode cX11_isWhole 126 = .ok (.istore 8, 2) := by decide +kernel
theorem dX11_isWhole_128 : decode cX11_isWhole 128 = .ok (.aload_n 0, 1) := by decide +kernel
theorem dX11_isWhole_129 : decode cX11_isWhole 129 = .ok (.iload 7, 2) := by decide +kernel
theorem dX11_isWhole_131 : decode cX11_isWhole 131 = .ok (.invokevirtual 313, 3) := by decide +kernel
theorem dX11_isWhole_134 : decode cX11_isWhole 134 = .ok (.istore 9, 2) := by decide +kernel
theorem dX11_isWhole_136 : decode cX11_isWhole 136 = .ok (.iload_n 3, 1) := by decide +kernel
theorem dX11_isWhole_137 : decode cX11_isWhole 137 = .ok (.iload 6, 2) := by decide +kernel
theorem dX11_isWhole_139 : decode cX11_isWhole 139 = .ok (.imul, 1) := by decide +kernel
theorem dX11_isWhole_140 : decode cX11_isWhole 140 = .ok (.aload_n 0, 1) := by decide +kernel
theorem dX11_isWhole_141 : decode cX11_isWhole 141 = .ok (.iload 7, 2) := by decide +kernel
theorem dX11_isWhole_143 : decode cX11_isWhole 143 = .ok (.invokevirtual 316, 3) := by decide +kernel
theorem dX11_isWhole_146 : decode cX11_isWhole 146 = .ok (.isub, 1) := by decide +kernel
theorem dX11_isWhole_147 : decode cX11_isWhole 147 = .ok (.iload 8, 2) := by decide +kernel
theorem dX11_isWhole_149 : decode cX11_isWhole 149 = .ok (.iadd, 1) := by decide +kernel
theorem dX11_isWhole_150 : decode cX11_isWhole 150 = .ok (.iload 8, 2) := by decide +kernel
theorem dX11_isWhole_152 : decode cX11_isWhole 152 = .ok (.irem, 1) := by decide +kernel
theorem dX11_isWhole_153 : decode cX11_isWhole 153 = .ok (.istore 10, 2) := by decide +kernel
theorem dX11_isWhole_155 : decode cX11_isWhole 155 = .ok (.iload 9, 2) := by decide +kernel
theorem dX11_isWhole_157 : decode cX11_isWhole 157 = .ok (.iload 8, 2) := by decide +kernel
theorem dX11_isWhole_159 : decode cX11_isWhole 159 = .ok (.if_icmp .eq 13, 3) := by decide +kernel
theorem dX11_isWhole_162 : decode cX11_isWhole 162 = .ok (.iload 10, 2) := by decide +kernel
theorem dX11_isWhole_164 : decode cX11_isWhole 164 = .ok (.iload 6, 2) := by decide +kernel
theorem dX11_isWhole_166 : decode cX11_isWhole 166 = .ok (.iadd, 1) := by decide +kernel
theorem dX11_isWhole_167 : decode cX11_isWhole 167 = .ok (.iload 9, 2) := by decide +kernel
theorem dX11_isWhole_169 : decode cX11_isWhole 169 = .ok (.if_icmp .gt 7, 3) := by decide +kernel
theorem dX11_isWhole_172 : decode cX11_isWhole 172 = .ok (.iconst 1, 1) := by decide +kernel
theorem dX11_isWhole_173 : decode cX11_isWhole 173 = .ok (.goto 4, 3) := by decide +kernel
theorem dX11_isWhole_176 : decode cX11_isWhole 176 = .ok (.iconst 0, 1) := by decide +kernel
theorem dX11_isWhole_177 : decode cX11_isWhole 177 = .ok (.ireturn, 1) := by decide +kernel
set_option maxRecDepth 20000 in
theorem ggX11_covers_X11_lastRow : GoodIn wsX11_covers wsX11_lastRow := goodIn_r _ [12, 13, 14, 15, 11, 16, 3, 64, 65, 66, 67, 68, 69, 70, 71, 72, 73, 74, 75, 76, 77, 78, 79, 80, 81, 82, 83, 84, 85, 86, 87, 88, 89, 90, 91, 92, 93, 94, 95, 96, 97, 98, 99, 100, 101, 102, 103, 104, 105] (by decide +kernel) (by decide +kernel)
set_option maxRecDepth 20000 in
theorem gX11_covers_X11_lastRow : GoodIn wsX11_covers (wsV RX11 94 RX11 yX11_lastRow wsX11_lastRow) := goodIn_app (goodIn_of _ (by decide +kernel)) ggX11_covers_X11_lastRow
set_option maxRecDepth 20000 in
theorem ggX11_covers_X11_many : GoodIn wsX11_covers wsX11_many := goodIn_r _ [20, 21, 8, 9, 10, 11, 12, 13, 14, 15, 16, 3, 22, 23, 24, 25, 26, 27, 28, 64, 65, 66, 67, 68, 69, 70, 71, 72, 73, 74, 75, 76, 77, 78, 79, 80, 81, 82, 83, 84, 85, 86, 87, 88, 89, 90, 91, 92, 93, 94, 95, 96, 97, 98, 99, 100, 101, 102, 103, 104, 105] (by decide +kernel) (by decide +kernel)
set_option maxRecDepth 20000 in
theorem gX11_covers_X11_many : GoodIn wsX11_covers (wsV RX11 115 RX11 yX11_many wsX11_many) := goodIn_app (goodIn_of _ (by decide +kernel)) ggX11_covers_X11_many
set_option maxRecDepth 20000 in
theorem ggX11_covers_X11_placeAt : GoodIn wsX11_covers wsX11_placeAt := goodIn_r _ [32, 33] (by decide +kernel) (by decide +kernel)
set_option maxRecDepth 20000 in
theorem gX11_covers_X11_placeAt : GoodIn wsX11_covers (wsV RX11 118 RX11 yX11_placeAt wsX11_placeAt) := goodIn_app (goodIn_of _ (by decide +kernel)) ggX11_covers_X11_placeAt
set_option maxRecDepth 20000 in
theorem ggX11_covers_X11_in : GoodIn wsX11_covers wsX11_in := goodIn_r _ [36] (by decide +kernel) (by decide +kernel)
set_option maxRecDepth 20000 in
theorem gX11_covers_X11_in : GoodIn wsX11_covers (va_wsS RX11 72 yX11_in wsX11_in) := goodIn_app (goodIn_of _ (by decide +kernel)) ggX11_covers_X11_in
set_option maxRecDepth 20000 in
theorem ggX11_covers_X11_isWhole : GoodIn wsX11_covers wsX11_isWhole := goodIn_r _ [40, 1, 2, 4, 3, 21, 8, 9, 10, 11, 12, 13, 14, 15, 16, 17, 18, 19, 20, 22, 23, 24, 25, 26, 27, 28, 41, 42, 43, 44, 5, 6, 29, 30, 31, 32, 33, 45, 46, 47, 48, 64, 65, 66, 67, 68, 69, 70, 71, 72, 73, 74, 75, 76, 77, 78, 79, 80, 81, 82, 83, 84, 85, 86, 87, 88, 89, 90, 91, 92, 93, 94, 95, 96, 97, 98, 99, 100, 101, 102, 103, 104, 105] (by decide +kernel) (by decide +kernel)
set_option maxRecDepth 20000 in
theorem gX11_covers_X11_isWhole : GoodIn wsX11_covers (wsV RX11 334 RX11 yX11_isWhole wsX11_isWhole) := goodIn_app (goodIn_of _ (by decide +kernel)) ggX11_covers_X11_isWhole
set_option maxRecDepth 20000 in
theorem ggX11_covers_X11_isWholeAbove : GoodIn wsX11_covers wsX11_isWholeAbove := goodIn_r _ [52, 53, 54, 8, 9, 10, 11, 12, 13, 14, 15, 16, 3, 37, 38, 39, 40, 1, 2, 4, 21, 17, 18, 19, 20, 22, 23, 24, 25, 26, 27, 28, 41, 42, 43, 44, 5, 6, 29, 30, 31, 32, 33, 45, 46, 47, 48, 64, 65, 66, 67, 68, 69, 70, 71, 72, 73, 74, 75, 76, 77, 78, 79, 80, 81, 82, 83, 84, 85, 86, 87, 88, 89, 90, 91, 92, 93, 94, 95, 96, 97, 98, 99, 100, 101, 102, 103, 104, 105] (by decide +kernel) (by decide +kernel)
set_option maxRecDepth 20000 in
theorem gX11_covers_X11_isWholeAbove : GoodIn wsX11_covers (wsV RX11 338 RX11 yX11_isWholeAbove wsX11_isWholeAbove) := goodIn_app (goodIn_of _ (by decide +kernel)) ggX11_covers_X11_isWholeAbove
set_option maxRecDepth 20000 in
theorem ggX11_covers_X11_keyOf : GoodIn wsX11_covers wsX11_keyOf := goodIn_r _ [58, 21, 3, 59, 8, 9, 10, 11, 12, 13, 14, 15, 16, 60, 61, 62, 63, 22, 23, 24, 25, 26, 27, 28, 64, 65, 66, 67, 68, 69, 70, 71, 72, 73, 74, 75, 76, 77, 78, 79, 80, 81, 82, 83, 84, 85, 86, 87, 88, 89, 90, 91, 92, 93, 94, 95, 96, 97, 98, 99, 100, 101, 102, 103, 104, 105] (by decide +kernel) (by decide +kernel)
set_option maxRecDepth 20000 in
theorem gX11_covers_X11_keyOf : GoodIn wsX11_covers (wsV RX11 104 RX11 yX11_keyOf wsX11_keyOf) := goodIn_app (goodIn_of _ (by decide +kernel)) ggX11_covers_X11_keyOf
theorem dX11_covers_0 : decode cX11_covers 0 = .ok (.iconst 0, 1) := by decide +kernel
theorem dX11_covers_1 : decode cX11_covers 1 = .ok (.istore_n 2, 1) := by decide +kernel
theorem dX11_covers_2 : decode cX11_covers 2 = .ok (.iconst 0, 1) := by decide +kernel
theorem dX11_covers_3 : decode cX11_covers 3 = .ok (.istore_n 3, 1) := by decide +kernel
theorem dX11_covers_4 : decode cX11_covers 4 = .ok (.iload_n 3, 1) := by decide +kernel
theorem dX11_covers_5 : decode cX11_covers 5 = .ok (.aload_n 0, 1) := by decide +kernel
theorem dX11_covers_6 : decode cX11_covers 6 = .ok (.getfield 298, 3) := by decide +kernel
theorem dX11_covers_9 : decode cX11_covers 9 = .ok (.if_icmp .gt 316, 3) := by decide +kernel
theorem dX11_covers_12 : decode cX11_covers 12 = .ok (.aload_n 0, 1) := by decide +kernel
theorem dX11_covers_13 : decode cX11_covers 13 = .ok (.getfield 301, 3) := by decide +kernel
theorem dX11_covers_16 : decode cX11_covers 16 = .ok (.ifCond .ne 7, 3) := by decide +kernel
theorem dX11_covers_19 : decode cX11_covers 19 = .ok (.iconst 0, 1) := by decide +kernel
theorem dX11_covers_20 : decode cX11_covers 20 = .ok (.goto 28, 3) := by decide +kernel
theorem dX11_covers_23 : decode cX11_covers 23 = .ok (.iconst 1, 1) := by decide +kernel
theorem dX11_covers_24 : decode cX11_covers 24 = .ok (.aload_n 0, 1) := by decide +kernel
theorem dX11_covers_25 : decode cX11_covers 25 = .ok (.getfield 301, 3) := by decide +kernel
theorem dX11_covers_28 : decode cX11_covers 28 = .ok (.iconst 1, 1) := by decide +kernel
theorem dX11_covers_29 : decode cX11_covers 29 = .ok (.isub, 1) := by decide +kernel
theorem dX11_covers_30 : decode cX11_covers 30 = .ok (.aload_n 0, 1) := by decide +kernel
theorem dX11_covers_31 : decode cX11_covers 31 = .ok (.getfield 16, 3) := by decide +kernel
theorem dX11_covers_34 : decode cX11_covers 34 = .ok (.aload_n 0, 1) := by decide +kernel
theorem dX11_covers_35 : decode cX11_covers 35 = .ok (.getfield 298, 3) := by decide +kernel
theorem dX11_covers_38 : decode cX11_covers 38 = .ok (.iaload, 1) := by decide +kernel
theorem dX11_covers_39 : decode cX11_covers 39 = .ok (.aload_n 0, 1) := by decide +kernel
theorem dX11_covers_40 : decode cX11_covers 40 = .ok (.getfield 16, 3) := by decide +kernel
theorem dX11_covers_43 : decode cX11_covers 43 = .ok (.iload_n 3, 1) := by decide +kernel
theorem dX11_covers_44 : decode cX11_covers 44 = .ok (.iaload, 1) := by decide +kernel
theorem dX11_covers_45 : decode cX11_covers 45 = .ok (.idiv, 1) := by decide +kernel
theorem dX11_covers_46 : decode cX11_covers 46 = .ok (.idiv, 1) := by decide +kernel
theorem dX11_covers_47 : decode cX11_covers 47 = .ok (.iadd, 1) := by decide +kernel
theorem dX11_covers_48 : decode cX11_covers 48 = .ok (.istore 4, 2) := by decide +kernel
theorem dX11_covers_50 : decode cX11_covers 50 = .ok (.aload_n 0, 1) := by decide +kernel
theorem dX11_covers_51 : decode cX11_covers 51 = .ok (.getfield 304, 3) := by decide +kernel
theorem dX11_covers_54 : decode cX11_covers 54 = .ok (.ifCond .ne 7, 3) := by decide +kernel
theorem dX11_covers_57 : decode cX11_covers 57 = .ok (.iconst 0, 1) := by decide +kernel
theorem dX11_covers_58 : decode cX11_covers 58 = .ok (.goto 51, 3) := by decide +kernel
theorem dX11_covers_61 : decode cX11_covers 61 = .ok (.aload_n 0, 1) := by decide +kernel
theorem dX11_covers_62 : decode cX11_covers 62 = .ok (.getfield 304, 3) := by decide +kernel
theorem dX11_covers_65 : decode cX11_covers 65 = .ok (.aload_n 0, 1) := by decide +kernel
theorem dX11_covers_66 : decode cX11_covers 66 = .ok (.aload_n 0, 1) := by decide +kernel
theorem dX11_covers_67 : decode cX11_covers 67 = .ok (.getfield 298, 3) := by decide +kernel
theorem dX11_covers_70 : decode cX11_covers 70 = .ok (.invokevirtual 94, 3) := by decide +kernel
theorem dX11_covers_73 : decode cX11_covers 73 = .ok (.if_icmp .ne 11, 3) := by decide +kernel
theorem dX11_covers_76 : decode cX11_covers 76 = .ok (.aload_n 0, 1) := by decide +kernel
theorem dX11_covers_77 : decode cX11_covers 77 = .ok (.iload_n 3, 1) := by decide +kernel
theorem dX11_covers_78 : decode cX11_covers 78 = .ok (.invokevirtual 94, 3) := by decide +kernel
theorem dX11_covers_81 : decode cX11_covers 81 = .ok (.goto 28, 3) := by decide +kernel
theorem dX11_covers_84 : decode cX11_covers 84 = .ok (.iconst 1, 1) := by decide +kernel
theorem dX11_covers_85 : decode cX11_covers 85 = .ok (.aload_n 0, 1) := by decide +kernel
theorem dX11_covers_86 : decode cX11_covers 86 = .ok (.getfield 304, 3) := by decide +kernel
theorem dX11_covers_89 : decode cX11_covers 89 = .ok (.iconst 1, 1) := by decide +kernel
theorem dX11_covers_90 : decode cX11_covers 90 = .ok (.isub, 1) := by decide +kernel
theorem dX11_covers_91 : decode cX11_covers 91 = .ok (.aload_n 0, 1) := by decide +kernel
theorem dX11_covers_92 : decode cX11_covers 92 = .ok (.getfield 16, 3) := by decide +kernel
theorem dX11_covers_95 : decode cX11_covers 95 = .ok (.aload_n 0, 1) := by decide +kernel
theorem dX11_covers_96 : decode cX11_covers 96 = .ok (.getfield 298, 3) := by decide +kernel
theorem dX11_covers_99 : decode cX11_covers 99 = .ok (.iaload, 1) := by decide +kernel
theorem dX11_covers_100 : decode cX11_covers 100 = .ok (.aload_n 0, 1) := by decide +kernel
theorem dX11_covers_101 : decode cX11_covers 101 = .ok (.getfield 16, 3) := by decide +kernel
theorem dX11_covers_104 : decode cX11_covers 104 = .ok (.iload_n 3, 1) := by decide +kernel
theorem dX11_covers_105 : decode cX11_covers 105 = .ok (.iaload, 1) := by decide +kernel
theorem dX11_covers_106 : decode cX11_covers 106 = .ok (.idiv, 1) := by decide +kernel
theorem dX11_covers_107 : decode cX11_covers 107 = .ok (.idiv, 1) := by decide +kernel
theorem dX11_covers_108 : decode cX11_covers 108 = .ok (.iadd, 1) := by decide +kernel
theorem dX11_covers_109 : decode cX11_covers 109 = .ok (.istore 5, 2) := by decide +kernel
theorem dX11_covers_111 : decode cX11_covers 111 = .ok (.aload_n 0, 1) := by decide +kernel
theorem dX11_covers_112 : decode cX11_covers 112 = .ok (.getfield 301, 3) := by decide +kernel
theorem dX11_covers_115 : decode cX11_covers 115 = .ok (.aload_n 0, 1) := by decide +kernel
theorem dX11_covers_116 : decode cX11_covers 116 = .ok (.aload_n 0, 1) := by decide +kernel
theorem dX11_covers_117 : decode cX11_covers 117 = .ok (.getfield 298, 3) := by decide +kernel
theorem dX11_covers_120 : decode cX11_covers 120 = .ok (.invokevirtual 94, 3) := by decide +kernel
theorem dX11_covers_123 : decode cX11_covers 123 = .ok (.if_icmp .ne 10, 3) := by decide +kernel
theorem dX11_covers_126 : decode cX11_covers 126 = .ok (.aload_n 0, 1) := by decide +kernel
theorem dX11_covers_127 : decode cX11_covers 127 = .ok (.iload_n 3, 1) := by decide +kernel
theorem dX11_covers_128 : decode cX11_covers 128 = .ok (.invokevirtual 94, 3) := by decide +kernel
theorem dX11_covers_131 : decode cX11_covers 131 = .ok (.istore 4, 2) := by decide +kernel
theorem dX11_covers_133 : decode cX11_covers 133 = .ok (.iload 4, 2) := by decide +kernel
theorem dX11_covers_135 : decode cX11_covers 135 = .ok (.istore 6, 2) := by decide +kernel
theorem dX11_covers_137 : decode cX11_covers 137 = .ok (.iload 6, 2) := by decide +kernel
theorem dX11_covers_139 : decode cX11_covers 139 = .ok (.iload 5, 2) := by decide +kernel
theorem dX11_covers_141 : decode cX11_covers 141 = .ok (.if_icmp .gt 178, 3) := by decide +kernel
theorem dX11_covers_144 : decode cX11_covers 144 = .ok (.aload_n 0, 1) := by decide +kernel
theorem dX11_covers_145 : decode cX11_covers 145 = .ok (.iload_n 3, 1) := by decide +kernel
theorem dX11_covers_146 : decode cX11_covers 146 = .ok (.iload 6, 2) := by decide +kernel
theorem dX11_covers_148 : decode cX11_covers 148 = .ok (.invokevirtual 115, 3) := by decide +kernel
theorem dX11_covers_151 : decode cX11_covers 151 = .ok (.istore 7, 2) := by decide +kernel
theorem dX11_covers_153 : decode cX11_covers 153 = .ok (.aload_n 0, 1) := by decide +kernel
theorem dX11_covers_154 : decode cX11_covers 154 = .ok (.aload_n 0, 1) := by decide +kernel
theorem dX11_covers_155 : decode cX11_covers 155 = .ok (.getfield 307, 3) := by decide +kernel
theorem dX11_covers_158 : decode cX11_covers 158 = .ok (.iload 7, 2) := by decide +kernel
theorem dX11_covers_160 : decode cX11_covers 160 = .ok (.invokevirtual 118, 3) := by decide +kernel
theorem dX11_covers_163 : decode cX11_covers 163 = .ok (.istore 8, 2) := by decide +kernel
theorem dX11_covers_165 : decode cX11_covers 165 = .ok (.aload_n 0, 1) := by decide +kernel
theorem dX11_covers_166 : decode cX11_covers 166 = .ok (.aload_n 0, 1) := by decide +kernel
theorem dX11_covers_167 : decode cX11_covers 167 = .ok (.getfield 310, 3) := by decide +kernel
theorem dX11_covers_170 : decode cX11_covers 170 = .ok (.iload 7, 2) := by decide +kernel
theorem dX11_covers_172 : decode cX11_covers 172 = .ok (.invokevirtual 118, 3) := by decide +kernel
theorem dX11_covers_175 : decode cX11_covers 175 = .ok (.istore 9, 2) := by decide +kernel
theorem dX11_covers_177 : decode cX11_covers 177 = .ok (.aload_n 0, 1) := by decide +kernel
theorem dX11_covers_178 : decode cX11_covers 178 = .ok (.getfield 307, 3) := by decide +kernel
theorem dX11_covers_181 : decode cX11_covers 181 = .ok (.aload_n 0, 1) := by decide +kernel
theorem dX11_covers_182 : decode cX11_covers 182 = .ok (.getfield 310, 3) := by decide +kernel
theorem dX11_covers_185 : decode cX11_covers 185 = .ok (.if_icmp .le 7, 3) := by decide +kernel
theorem dX11_covers_188 : decode cX11_covers 188 = .ok (.iconst 1, 1) := by decide +kernel
theorem dX11_covers_189 : decode cX11_covers 189 = .ok (.goto 4, 3) := by decide +kernel
theorem dX11_covers_192 : decode cX11_covers 192 = .ok (.iconst 0, 1) := by decide +kernel
theorem dX11_covers_193 : decode cX11_covers 193 = .ok (.istore 10, 2) := by decide +kernel
theorem dX11_covers_195 : decode cX11_covers 195 = .ok (.iconst 0, 1) := by decide +kernel
theorem dX11_covers_196 : decode cX11_covers 196 = .ok (.istore 11, 2) := by decide +kernel
theorem dX11_covers_198 : decode cX11_covers 198 = .ok (.iload 11, 2) := by decide +kernel
theorem dX11_covers_200 : decode cX11_covers 200 = .ok (.iload 7, 2) := by decide +kernel
theorem dX11_covers_202 : decode cX11_covers 202 = .ok (.if_icmp .ge 111, 3) := by decide +kernel
theorem dX11_covers_205 : decode cX11_covers 205 = .ok (.iload 10, 2) := by decide +kernel
theorem dX11_covers_207 : decode cX11_covers 207 = .ok (.ifCond .eq 25, 3) := by decide +kernel
theorem dX11_covers_210 : decode cX11_covers 210 = .ok (.iload 11, 2) := by decide +kernel
theorem dX11_covers_212 : decode cX11_covers 212 = .ok (.iload 8, 2) := by decide +kernel
theorem dX11_covers_214 : decode cX11_covers 214 = .ok (.if_icmp .ge 10, 3) := by decide +kernel
theorem dX11_covers_217 : decode cX11_covers 217 = .ok (.iload 11, 2) := by decide +kernel
theorem dX11_covers_219 : decode cX11_covers 219 = .ok (.iload 9, 2) := by decide +kernel
theorem dX11_covers_221 : decode cX11_covers 221 = .ok (.if_icmp .gt 7, 3) := by decide +kernel
theorem dX11_covers_224 : decode cX11_covers 224 = .ok (.iconst 1, 1) := by decide +kernel
theorem dX11_covers_225 : decode cX11_covers 225 = .ok (.goto 19, 3) := by decide +kernel
theorem dX11_covers_228 : decode cX11_covers 228 = .ok (.iconst 0, 1) := by decide +kernel
theorem dX11_covers_229 : decode cX11_covers 229 = .ok (.goto 15, 3) := by decide +kernel
theorem dX11_covers_232 : decode cX11_covers 232 = .ok (.iload 11, 2) := by decide +kernel
theorem dX11_covers_234 : decode cX11_covers 234 = .ok (.i2l, 1) := by decide +kernel
theorem dX11_covers_235 : decode cX11_covers 235 = .ok (.iload 8, 2) := by decide +kernel
theorem dX11_covers_237 : decode cX11_covers 237 = .ok (.i2l, 1) := by decide +kernel
theorem dX11_covers_238 : decode cX11_covers 238 = .ok (.iload 9, 2) := by decide +kernel
theorem dX11_covers_240 : decode cX11_covers 240 = .ok (.i2l, 1) := by decide +kernel
theorem dX11_covers_241 : decode cX11_covers 241 = .ok (.invokestatic 72, 3) := by decide +kernel
theorem dX11_covers_244 : decode cX11_covers 244 = .ok (.istore 12, 2) := by decide +kernel
theorem dX11_covers_246 : decode cX11_covers 246 = .ok (.iload 12, 2) := by decide +kernel
theorem dX11_covers_248 : decode cX11_covers 248 = .ok (.ifCond .eq 59, 3) := by decide +kernel
theorem dX11_covers_251 : decode cX11_covers 251 = .ok (.aload_n 0, 1) := by decide +kernel
theorem dX11_covers_252 : decode cX11_covers 252 = .ok (.iload_n 3, 1) := by decide +kernel
theorem dX11_covers_253 : decode cX11_covers 253 = .ok (.iload 6, 2) := by decide +kernel
theorem dX11_covers_255 : decode cX11_covers 255 = .ok (.iload 11, 2) := by decide +kernel
theorem dX11_covers_257 : decode cX11_covers 257 = .ok (.invokevirtual 334, 3) := by decide +kernel
theorem dX11_covers_260 : decode cX11_covers 260 = .ok (.ifCond .eq 47, 3) := by decide +kernel
theorem dX11_covers_263 : decode cX11_covers 263 = .ok (.iload_n 3, 1) := by decide +kernel
theorem dX11_covers_264 : decode cX11_covers 264 = .ok (.ifCond .le 18, 3) := by decide +kernel
theorem dX11_covers_267 : decode cX11_covers 267 = .ok (.aload_n 0, 1) := by decide +kernel
theorem dX11_covers_268 : decode cX11_covers 268 = .ok (.iload_n 3, 1) := by decide +kernel
theorem dX11_covers_269 : decode cX11_covers 269 = .ok (.iload 6, 2) := by decide +kernel
theorem dX11_covers_271 : decode cX11_covers 271 = .ok (.iload 11, 2) := by decide +kernel
theorem dX11_covers_273 : decode cX11_covers 273 = .ok (.invokevirtual 338, 3) := by decide +kernel
theorem dX11_covers_276 : decode cX11_covers 276 = .ok (.ifCond .eq 6, 3) := by decide +kernel
theorem dX11_covers_279 : decode cX11_covers 279 = .ok (.goto 28, 3) := by decide +kernel
theorem dX11_covers_282 : decode cX11_covers 282 = .ok (.iload_n 2, 1) := by decide +kernel
theorem dX11_covers_283 : decode cX11_covers 283 = .ok (.iload_n 1, 1) := by decide +kernel
theorem dX11_covers_284 : decode cX11_covers 284 = .ok (.if_icmp .ne 19, 3) := by decide +kernel
theorem dX11_covers_287 : decode cX11_covers 287 = .ok (.ldc_w 341, 3) := by decide +kernel
theorem dX11_covers_290 : decode cX11_covers 290 = .ok (.iload_n 3, 1) := by decide +kernel
theorem dX11_covers_291 : decode cX11_covers 291 = .ok (.imul, 1) := by decide +kernel
theorem dX11_covers_292 : decode cX11_covers 292 = .ok (.aload_n 0, 1) := by decide +kernel
theorem dX11_covers_293 : decode cX11_covers 293 = .ok (.iload_n 3, 1) := by decide +kernel
theorem dX11_covers_294 : decode cX11_covers 294 = .ok (.iload 6, 2) := by decide +kernel
theorem dX11_covers_296 : decode cX11_covers 296 = .ok (.iload 11, 2) := by decide +kernel
theorem dX11_covers_298 : decode cX11_covers 298 = .ok (.invokevirtual 104, 3) := by decide +kernel
theorem dX11_covers_301 : decode cX11_covers 301 = .ok (.iadd, 1) := by decide +kernel
theorem dX11_covers_302 : decode cX11_covers 302 = .ok (.ireturn, 1) := by decide +kernel
theorem dX11_covers_303 : decode cX11_covers 303 = .ok (.iload_n 2, 1) := by decide +kernel
theorem dX11_covers_304 : decode cX11_covers 304 = .ok (.iconst 1, 1) := by decide +kernel
theorem dX11_covers_305 : decode cX11_covers 305 = .ok (.iadd, 1) := by decide +kernel
theorem dX11_covers_306 : decode cX11_covers 306 = .ok (.istore_n 2, 1) := by decide +kernel
theorem dX11_covers_307 : decode cX11_covers 307 = .ok (.iinc 11 1, 3) := by decide +kernel
theorem dX11_covers_310 : decode cX11_covers 310 = .ok (.goto (-112), 3) := by decide +kernel
theorem dX11_covers_313 : decode cX11_covers 313 = .ok (.iinc 6 1, 3) := by decide +kernel
theorem dX11_covers_316 : decode cX11_covers 316 = .ok (.goto (-179), 3) := by decide +kernel
theorem dX11_covers_319 : decode cX11_covers 319 = .ok (.iinc 3 1, 3) := by decide +kernel
theorem dX11_covers_322 : decode cX11_covers 322 = .ok (.goto (-318), 3) := by decide +kernel
theorem dX11_covers_325 : decode cX11_covers 325 = .ok (.iload_n 1, 1) := by decide +kernel
theorem dX11_covers_326 : decode cX11_covers 326 = .ok (.iconst (-1), 1) := by decide +kernel
theorem dX11_covers_327 : decode cX11_covers 327 = .ok (.if_icmp .ne 7, 3) := by decide +kernel
theorem dX11_covers_330 : decode cX11_covers 330 = .ok (.iload_n 2, 1) := by decide +kernel
theorem dX11_covers_331 : decode cX11_covers 331 = .ok (.goto 5, 3) := by decide +kernel
theorem dX11_covers_334 : decode cX11_covers 334 = .ok (.bipush (-3), 2) := by decide +kernel
theorem dX11_covers_336 : decode cX11_covers 336 = .ok (.ireturn, 1) := by decide +kernel
set_option maxRecDepth 20000 in
theorem ggX11_isWholeAbove_X11_lastRow : GoodIn wsX11_isWholeAbove wsX11_lastRow := goodIn_r _ [7, 8, 9, 10, 6, 11, 12, 47, 48, 49, 50, 51, 52, 53, 54, 55, 56, 57, 58, 59, 60, 61, 62, 63, 64, 65, 66, 67, 68, 69, 70, 71, 72, 73, 74, 75, 76, 77, 78, 79, 80, 81, 82, 83, 84, 85, 86, 87, 88] (by decide +kernel) (by decide +kernel)
set_option maxRecDepth 20000 in
theorem gX11_isWholeAbove_X11_lastRow : GoodIn wsX11_isWholeAbove (wsV RX11 94 RX11 yX11_lastRow wsX11_lastRow) := goodIn_app (goodIn_of _ (by decide +kernel)) ggX11_isWholeAbove_X11_lastRow
set_option maxRecDepth 20000 in
theorem ggX11_isWholeAbove_X11_isWhole : GoodIn wsX11_isWholeAbove wsX11_isWhole := goodIn_r _ [16, 17, 18, 19, 12, 20, 3, 4, 5, 6, 7, 8, 9, 10, 11, 21, 22, 23, 24, 25, 26, 27, 28, 29, 30, 31, 32, 33, 34, 35, 36, 37, 38, 39, 40, 41, 42, 43, 44, 45, 46, 47, 48, 49, 50, 51, 52, 53, 54, 55, 56, 57, 58, 59, 60, 61, 62, 63, 64, 65, 66, 67, 68, 69, 70, 71, 72, 73, 74, 75, 76, 77, 78, 79, 80, 81, 82, 83, 84, 85, 86, 87, 88] (by decide +kernel) (by decide +kernel)
set_option maxRecDepth 20000 in
theorem gX11_isWholeAbove_X11_isWhole : GoodIn wsX11_isWholeAbove (wsV RX11 334 RX11 yX11_isWhole wsX11_isWhole) := goodIn_app (goodIn_of _ (by decide +kernel)) ggX11_isWholeAbove_X11_isWhole
theorem dX11_isWholeAbove_0 : decode cX11_isWholeAbove 0 = .ok (.iload_n 2, 1) := by decide +kernel
theorem dX11_isWholeAbove_1 : decode cX11_isWholeAbove 1 = .ok (.ifCond .eq 12, 3) := by decide +kernel
theorem dX11_isWholeAbove_4 : decode cX11_isWholeAbove 4 = .ok (.iload_n 2, 1) := by decide +kernel
theorem dX11_isWholeAbove_5 : decode cX11_isWholeAbove 5 = .ok (.aload_n 0, 1) := by decide +kernel
theorem dX11_isWholeAbove_6 : decode cX11_isWholeAbove 6 = .ok (.iload_n 1, 1) := by decide +kernel
theorem dX11_isWholeAbove_7 : decode cX11_isWholeAbove 7 = .ok (.invokevirtual 94, 3) := by decide +kernel
theorem dX11_isWholeAbove_10 : decode cX11_isWholeAbove 10 = .ok (.if_icmp .ne 5, 3) := by decide +kernel
theorem dX11_isWholeAbove_13 : decode cX11_isWholeAbove 13 = .ok (.iconst 1, 1) := by decide +kernel
theorem dX11_isWholeAbove_14 : decode cX11_isWholeAbove 14 = .ok (.ireturn, 1) := by decide +kernel
theorem dX11_isWholeAbove_15 : decode cX11_isWholeAbove 15 = .ok (.aload_n 0, 1) := by decide +kernel
theorem dX11_isWholeAbove_16 : decode cX11_isWholeAbove 16 = .ok (.iload_n 1, 1) := by decide +kernel
theorem dX11_isWholeAbove_17 : decode cX11_isWholeAbove 17 = .ok (.iconst 1, 1) := by decide +kernel
theorem dX11_isWholeAbove_18 : decode cX11_isWholeAbove 18 = .ok (.isub, 1) := by decide +kernel
theorem dX11_isWholeAbove_19 : decode cX11_isWholeAbove 19 = .ok (.iconst 1, 1) := by decide +kernel
theorem dX11_isWholeAbove_20 : decode cX11_isWholeAbove 20 = .ok (.iload_n 2, 1) := by decide +kernel
theorem dX11_isWholeAbove_21 : decode cX11_isWholeAbove 21 = .ok (.iconst 1, 1) := by decide +kernel
theorem dX11_isWholeAbove_22 : decode cX11_isWholeAbove 22 = .ok (.isub, 1) := by decide +kernel
theorem dX11_isWholeAbove_23 : decode cX11_isWholeAbove 23 = .ok (.aload_n 0, 1) := by decide +kernel
theorem dX11_isWholeAbove_24 : decode cX11_isWholeAbove 24 = .ok (.getfield 7, 3) := by decide +kernel
theorem dX11_isWholeAbove_27 : decode cX11_isWholeAbove 27 = .ok (.iload_n 1, 1) := by decide +kernel
theorem dX11_isWholeAbove_28 : decode cX11_isWholeAbove 28 = .ok (.iaload, 1) := by decide +kernel
theorem dX11_isWholeAbove_29 : decode cX11_isWholeAbove 29 = .ok (.idiv, 1) := by decide +kernel
theorem dX11_isWholeAbove_30 : decode cX11_isWholeAbove 30 = .ok (.iadd, 1) := by decide +kernel
theorem dX11_isWholeAbove_31 : decode cX11_isWholeAbove 31 = .ok (.iload_n 3, 1) := by decide +kernel
theorem dX11_isWholeAbove_32 : decode cX11_isWholeAbove 32 = .ok (.aload_n 0, 1) := by decide +kernel
theorem dX11_isWholeAbove_33 : decode cX11_isWholeAbove 33 = .ok (.getfield 13, 3) := by decide +kernel
theorem dX11_isWholeAbove_36 : decode cX11_isWholeAbove 36 = .ok (.iload_n 1, 1) := by decide +kernel
theorem dX11_isWholeAbove_37 : decode cX11_isWholeAbove 37 = .ok (.iaload, 1) := by decide +kernel
theorem dX11_isWholeAbove_38 : decode cX11_isWholeAbove 38 = .ok (.idiv, 1) := by decide +kernel
theorem dX11_isWholeAbove_39 : decode cX11_isWholeAbove 39 = .ok (.invokevirtual 334, 3) := by decide +kernel
theorem dX11_isWholeAbove_42 : decode cX11_isWholeAbove 42 = .ok (.ireturn, 1) := by decide +kernel
set_option maxRecDepth 20000 in
theorem ggX11_cover_X11_isBox : GoodIn wsX11_cover wsX11_isBox := goodIn_r _ [5, 6, 7, 4, 8, 9, 10, 11, 12, 13, 14] (by decide +kernel) (by decide +kernel)
set_option maxRecDepth 20000 in
theorem gX11_cover_X11_isBox : GoodIn wsX11_cover (wsV RX11 319 RX11 yX11_isBox wsX11_isBox) := goodIn_app (goodIn_of _ (by decide +kernel)) ggX11_cover_X11_isBox
set_option maxRecDepth 20000 in
theorem ggX11_cover_X11_isLevel : GoodIn wsX11_cover wsX11_isLevel := goodIn_r _ [17, 18, 12, 13, 4, 14] (by decide +kernel) (by decide +kernel)
set_option maxRecDepth 20000 in
theorem gX11_cover_X11_isLevel : GoodIn wsX11_cover (va_wsS RX11 84 yX11_isLevel wsX11_isLevel) := goodIn_app (goodIn_of _ (by decide +kernel)) ggX11_cover_X11_isLevel
set_option maxRecDepth 20000 in
theorem ggX11_cover_X11_laysBox : GoodIn wsX11_cover wsX11_laysBox := goodIn_r _ [22, 23, 24, 25, 26, 27, 28, 29, 30, 4, 31, 32, 33, 34, 35, 36, 37, 38, 39, 40, 41, 42, 96, 97, 98, 99, 100, 101, 102, 103, 104, 105, 106, 107, 108, 109, 110, 111, 112, 113, 114, 115, 116, 117, 118, 119, 120, 121, 122, 123, 124, 125, 126, 127, 128, 129, 130, 131, 132, 133, 134, 135, 136, 137] (by decide +kernel) (by decide +kernel)
set_option maxRecDepth 20000 in
theorem gX11_cover_X11_laysBox : GoodIn wsX11_cover (wsV RX11 323 RX11 yX11_laysBox wsX11_laysBox) := goodIn_app (goodIn_of _ (by decide +kernel)) ggX11_cover_X11_laysBox
set_option maxRecDepth 20000 in
theorem ggX11_cover_X11_boxAll : GoodIn wsX11_cover wsX11_boxAll := goodIn_r _ [46, 24, 25, 23, 34, 35, 36, 37, 4, 38, 39, 40, 41, 42, 47, 48, 49, 50, 51, 52, 53, 54, 26, 27, 55, 56, 57, 58, 59, 60, 61, 62, 63, 64, 65, 66, 67, 96, 97, 98, 99, 100, 101, 102, 103, 104, 105, 106, 107, 108, 109, 110, 111, 112, 113, 114, 115, 116, 117, 118, 119, 120, 121, 122, 123, 124, 125, 126, 127, 128, 129, 130, 131, 132, 133, 134, 135, 136, 137] (by decide +kernel) (by decide +kernel)
set_option maxRecDepth 20000 in
theorem gX11_cover_X11_boxAll : GoodIn wsX11_cover (wsV RX11 327 RX11 yX11_boxAll wsX11_boxAll) := goodIn_app (goodIn_of _ (by decide +kernel)) ggX11_cover_X11_boxAll
set_option maxRecDepth 20000 in
theorem ggX11_cover_X11_covers : GoodIn wsX11_cover wsX11_covers := goodIn_r _ [71, 23, 24, 34, 25, 26, 27, 72, 35, 36, 37, 4, 38, 39, 40, 41, 42, 55, 56, 57, 58, 59, 47, 48, 49, 50, 60, 61, 62, 63, 64, 65, 66, 67, 12, 13, 14, 73, 74, 75, 76, 51, 52, 53, 54, 77, 78, 79, 80, 81, 82, 83, 84, 85, 86, 87, 88, 89, 90, 91, 92, 93, 94, 95, 96, 97, 98, 99, 100, 101, 102, 103, 104, 105, 106, 107, 108, 109, 110, 111, 112, 113, 114, 115, 116, 117, 118, 119, 120, 121, 122, 123, 124, 125, 126, 127, 128, 129, 130, 131, 132, 133, 134, 135, 136, 137] (by decide +kernel) (by decide +kernel)
set_option maxRecDepth 20000 in
theorem gX11_cover_X11_covers : GoodIn wsX11_cover (wsV RX11 342 RX11 yX11_covers wsX11_covers) := goodIn_app (goodIn_of _ (by decide +kernel)) ggX11_cover_X11_covers
theorem dX11_cover_0 : decode cX11_cover 0 = .ok (.aload_n 0, 1) := by decide +kernel
theorem dX11_cover_1 : decode cX11_cover 1 = .ok (.iload_n 1, 1) := by decide +kernel
theorem dX11_cover_2 : decode cX11_cover 2 = .ok (.iload_n 2, 1) := by decide +kernel
theorem dX11_cover_3 : decode cX11_cover 3 = .ok (.iload_n 3, 1) := by decide +kernel
theorem dX11_cover_4 : decode cX11_cover 4 = .ok (.iload 4, 2) := by decide +kernel
theorem dX11_cover_6 : decode cX11_cover 6 = .ok (.invokevirtual 319, 3) := by decide +kernel
theorem dX11_cover_9 : decode cX11_cover 9 = .ok (.ifCond .eq 17, 3) := by decide +kernel
theorem dX11_cover_12 : decode cX11_cover 12 = .ok (.iload 5, 2) := by decide +kernel
theorem dX11_cover_14 : decode cX11_cover 14 = .ok (.invokestatic 84, 3) := by decide +kernel
theorem dX11_cover_17 : decode cX11_cover 17 = .ok (.ifCond .eq 9, 3) := by decide +kernel
theorem dX11_cover_20 : decode cX11_cover 20 = .ok (.iload 6, 2) := by decide +kernel
theorem dX11_cover_22 : decode cX11_cover 22 = .ok (.iconst (-1), 1) := by decide +kernel
theorem dX11_cover_23 : decode cX11_cover 23 = .ok (.if_icmp .ge 5, 3) := by decide +kernel
theorem dX11_cover_26 : decode cX11_cover 26 = .ok (.iconst (-1), 1) := by decide +kernel
theorem dX11_cover_27 : decode cX11_cover 27 = .ok (.ireturn, 1) := by decide +kernel
theorem dX11_cover_28 : decode cX11_cover 28 = .ok (.aload_n 0, 1) := by decide +kernel
theorem dX11_cover_29 : decode cX11_cover 29 = .ok (.iload_n 1, 1) := by decide +kernel
theorem dX11_cover_30 : decode cX11_cover 30 = .ok (.iload_n 2, 1) := by decide +kernel
theorem dX11_cover_31 : decode cX11_cover 31 = .ok (.iload_n 3, 1) := by decide +kernel
theorem dX11_cover_32 : decode cX11_cover 32 = .ok (.iload 4, 2) := by decide +kernel
theorem dX11_cover_34 : decode cX11_cover 34 = .ok (.iload 5, 2) := by decide +kernel
theorem dX11_cover_36 : decode cX11_cover 36 = .ok (.invokevirtual 323, 3) := by decide +kernel
theorem dX11_cover_39 : decode cX11_cover 39 = .ok (.aload_n 0, 1) := by decide +kernel
theorem dX11_cover_40 : decode cX11_cover 40 = .ok (.invokevirtual 327, 3) := by decide +kernel
theorem dX11_cover_43 : decode cX11_cover 43 = .ok (.sipush 4000, 3) := by decide +kernel
theorem dX11_cover_46 : decode cX11_cover 46 = .ok (.if_icmp .le 8, 3) := by decide +kernel
theorem dX11_cover_49 : decode cX11_cover 49 = .ok (.bipush (-2), 2) := by decide +kernel
theorem dX11_cover_51 : decode cX11_cover 51 = .ok (.goto 9, 3) := by decide +kernel
theorem dX11_cover_54 : decode cX11_cover 54 = .ok (.aload_n 0, 1) := by decide +kernel
theorem dX11_cover_55 : decode cX11_cover 55 = .ok (.iload 6, 2) := by decide +kernel
theorem dX11_cover_57 : decode cX11_cover 57 = .ok (.invokevirtual 342, 3) := by decide +kernel
theorem dX11_cover_60 : decode cX11_cover 60 = .ok (.ireturn, 1) := by decide +kernel
set_option maxRecDepth 20000 in
theorem ggX11_betweenOf_X11_middleOf : GoodIn wsX11_betweenOf wsX11_middleOf := goodIn_r _ [5, 6, 7, 8, 9, 10, 11, 12, 13, 14, 4, 15, 16, 17, 18, 19, 20, 21, 22, 23, 24, 25, 26, 27, 28, 29, 30, 31, 32, 33, 34, 35, 36, 37, 38, 39, 40, 41, 42, 43, 44, 45, 46, 47, 48, 49, 50, 51, 52, 53, 54, 55, 56, 57, 58, 59, 60, 61, 62, 63, 64, 65, 66, 94, 95, 96, 97, 98, 99, 100, 101, 102, 103, 104, 105, 106, 107, 108, 109, 110, 111, 112, 113, 114, 115, 116, 117, 118, 119, 120, 121, 122, 123, 124, 125, 126, 127, 128, 129, 130, 131, 132, 133, 134, 135] (by decide +kernel) (by decide +kernel)
set_option maxRecDepth 20000 in
theorem gX11_betweenOf_X11_middleOf : GoodIn wsX11_betweenOf (wsV RX11 250 RX11 yX11_middleOf wsX11_middleOf) := goodIn_app (goodIn_of _ (by decide +kernel)) ggX11_betweenOf_X11_middleOf
set_option maxRecDepth 20000 in
theorem ggX11_betweenOf_X11_laysBox : GoodIn wsX11_betweenOf wsX11_laysBox := goodIn_r _ [70, 71, 72, 73, 74, 75, 76, 77, 78, 4, 79, 80, 81, 20, 37, 38, 39, 40, 41, 42, 43, 44, 94, 95, 96, 97, 98, 99, 100, 101, 102, 103, 104, 105, 106, 107, 108, 109, 110, 111, 112, 113, 114, 115, 116, 117, 118, 119, 120, 121, 122, 123, 124, 125, 126, 127, 128, 129, 130, 131, 132, 133, 134, 135] (by decide +kernel) (by decide +kernel)
set_option maxRecDepth 20000 in
theorem gX11_betweenOf_X11_laysBox : GoodIn wsX11_betweenOf (wsV RX11 323 RX11 yX11_laysBox wsX11_laysBox) := goodIn_app (goodIn_of _ (by decide +kernel)) ggX11_betweenOf_X11_laysBox
set_option maxRecDepth 20000 in
theorem ggX11_betweenOf_X11_boxAll : GoodIn wsX11_betweenOf wsX11_boxAll := goodIn_r _ [85, 72, 73, 71, 20, 37, 38, 39, 4, 40, 41, 42, 43, 44, 52, 53, 54, 55, 86, 87, 88, 89, 74, 75, 48, 49, 50, 51, 21, 45, 46, 47, 90, 91, 92, 93, 27, 94, 95, 96, 97, 98, 99, 100, 101, 102, 103, 104, 105, 106, 107, 108, 109, 110, 111, 112, 113, 114, 115, 116, 117, 118, 119, 120, 121, 122, 123, 124, 125, 126, 127, 128, 129, 130, 131, 132, 133, 134, 135] (by decide +kernel) (by decide +kernel)
set_option maxRecDepth 20000 in
theorem gX11_betweenOf_X11_boxAll : GoodIn wsX11_betweenOf (wsV RX11 327 RX11 yX11_boxAll wsX11_boxAll) := goodIn_app (goodIn_of _ (by decide +kernel)) ggX11_betweenOf_X11_boxAll
theorem dX11_betweenOf_0 : decode cX11_betweenOf 0 = .ok (.aload_n 0, 1) := by decide +kernel
theorem dX11_betweenOf_1 : decode cX11_betweenOf 1 = .ok (.iload_n 1, 1) := by decide +kernel
theorem dX11_betweenOf_2 : decode cX11_betweenOf 2 = .ok (.iload_n 2, 1) := by decide +kernel
theorem dX11_betweenOf_3 : decode cX11_betweenOf 3 = .ok (.iconst 0, 1) := by decide +kernel
theorem dX11_betweenOf_4 : decode cX11_betweenOf 4 = .ok (.invokevirtual 250, 3) := by decide +kernel
theorem dX11_betweenOf_7 : decode cX11_betweenOf 7 = .ok (.istore 4, 2) := by decide +kernel
theorem dX11_betweenOf_9 : decode cX11_betweenOf 9 = .ok (.aload_n 0, 1) := by decide +kernel
theorem dX11_betweenOf_10 : decode cX11_betweenOf 10 = .ok (.iload_n 1, 1) := by decide +kernel
theorem dX11_betweenOf_11 : decode cX11_betweenOf 11 = .ok (.iload_n 3, 1) := by decide +kernel
theorem dX11_betweenOf_12 : decode cX11_betweenOf 12 = .ok (.iconst 0, 1) := by decide +kernel
theorem dX11_betweenOf_13 : decode cX11_betweenOf 13 = .ok (.invokevirtual 250, 3) := by decide +kernel
theorem dX11_betweenOf_16 : decode cX11_betweenOf 16 = .ok (.istore 5, 2) := by decide +kernel
theorem dX11_betweenOf_18 : decode cX11_betweenOf 18 = .ok (.aload_n 0, 1) := by decide +kernel
theorem dX11_betweenOf_19 : decode cX11_betweenOf 19 = .ok (.iload 4, 2) := by decide +kernel
theorem dX11_betweenOf_21 : decode cX11_betweenOf 21 = .ok (.iload 5, 2) := by decide +kernel
theorem dX11_betweenOf_23 : decode cX11_betweenOf 23 = .ok (.if_icmp .ge 8, 3) := by decide +kernel
theorem dX11_betweenOf_26 : decode cX11_betweenOf 26 = .ok (.iload 4, 2) := by decide +kernel
theorem dX11_betweenOf_28 : decode cX11_betweenOf 28 = .ok (.goto 5, 3) := by decide +kernel
theorem dX11_betweenOf_31 : decode cX11_betweenOf 31 = .ok (.iload 5, 2) := by decide +kernel
theorem dX11_betweenOf_33 : decode cX11_betweenOf 33 = .ok (.iload 4, 2) := by decide +kernel
theorem dX11_betweenOf_35 : decode cX11_betweenOf 35 = .ok (.iload 5, 2) := by decide +kernel
theorem dX11_betweenOf_37 : decode cX11_betweenOf 37 = .ok (.if_icmp .ge 8, 3) := by decide +kernel
theorem dX11_betweenOf_40 : decode cX11_betweenOf 40 = .ok (.iload 5, 2) := by decide +kernel
theorem dX11_betweenOf_42 : decode cX11_betweenOf 42 = .ok (.goto 5, 3) := by decide +kernel
theorem dX11_betweenOf_45 : decode cX11_betweenOf 45 = .ok (.iload 4, 2) := by decide +kernel
theorem dX11_betweenOf_47 : decode cX11_betweenOf 47 = .ok (.aload_n 0, 1) := by decide +kernel
theorem dX11_betweenOf_48 : decode cX11_betweenOf 48 = .ok (.iload_n 1, 1) := by decide +kernel
theorem dX11_betweenOf_49 : decode cX11_betweenOf 49 = .ok (.iload_n 2, 1) := by decide +kernel
theorem dX11_betweenOf_50 : decode cX11_betweenOf 50 = .ok (.iconst 1, 1) := by decide +kernel
theorem dX11_betweenOf_51 : decode cX11_betweenOf 51 = .ok (.invokevirtual 250, 3) := by decide +kernel
theorem dX11_betweenOf_54 : decode cX11_betweenOf 54 = .ok (.aload_n 0, 1) := by decide +kernel
theorem dX11_betweenOf_55 : decode cX11_betweenOf 55 = .ok (.iload_n 1, 1) := by decide +kernel
theorem dX11_betweenOf_56 : decode cX11_betweenOf 56 = .ok (.iload_n 3, 1) := by decide +kernel
theorem dX11_betweenOf_57 : decode cX11_betweenOf 57 = .ok (.iconst 1, 1) := by decide +kernel
theorem dX11_betweenOf_58 : decode cX11_betweenOf 58 = .ok (.invokevirtual 250, 3) := by decide +kernel
theorem dX11_betweenOf_61 : decode cX11_betweenOf 61 = .ok (.iload_n 1, 1) := by decide +kernel
theorem dX11_betweenOf_62 : decode cX11_betweenOf 62 = .ok (.invokevirtual 323, 3) := by decide +kernel
theorem dX11_betweenOf_65 : decode cX11_betweenOf 65 = .ok (.aload_n 0, 1) := by decide +kernel
theorem dX11_betweenOf_66 : decode cX11_betweenOf 66 = .ok (.invokevirtual 327, 3) := by decide +kernel
theorem dX11_betweenOf_69 : decode cX11_betweenOf 69 = .ok (.ireturn, 1) := by decide +kernel
set_option maxRecDepth 20000 in
theorem ggX11_between_X11_isKey : GoodIn wsX11_between wsX11_isKey := goodIn_r _ [5, 6, 7, 4, 8, 9, 10, 11, 12, 13, 14, 15, 16, 17, 18, 19, 109, 110, 111, 112, 113, 114, 115, 116, 117, 118, 119, 120, 121, 122, 123, 124, 125, 126, 127, 128, 129, 130, 131, 132, 133, 134, 135, 136, 137, 138, 139, 140, 141, 142, 143, 144, 145, 146, 147, 148, 149, 150] (by decide +kernel) (by decide +kernel)
set_option maxRecDepth 20000 in
theorem gX11_between_X11_isKey : GoodIn wsX11_between (wsV RX11 153 RX11 yX11_isKey wsX11_isKey) := goodIn_app (goodIn_of _ (by decide +kernel)) ggX11_between_X11_isKey
set_option maxRecDepth 20000 in
theorem ggX11_between_X11_betweenOf : GoodIn wsX11_between wsX11_betweenOf := goodIn_r _ [23, 24, 25, 26, 4, 27, 28, 29, 30, 31, 32, 33, 34, 35, 36, 37, 13, 14, 15, 16, 17, 18, 19, 38, 39, 40, 41, 42, 43, 44, 45, 46, 47, 48, 49, 50, 51, 52, 53, 54, 55, 56, 57, 58, 59, 60, 61, 62, 63, 64, 65, 66, 67, 68, 69, 70, 71, 72, 73, 74, 75, 76, 77, 78, 79, 80, 81, 82, 83, 84, 85, 86, 87, 88, 89, 90, 91, 92, 93, 94, 95, 96, 97, 98, 99, 100, 101, 102, 103, 104, 105, 106, 107, 108, 109, 110, 111, 112, 113, 114, 115, 116, 117, 118, 119, 120, 121, 122, 123, 124, 125, 126, 127, 128, 129, 130, 131, 132, 133, 134, 135, 136, 137, 138, 139, 140, 141, 142, 143, 144, 145, 146, 147, 148, 149, 150] (by decide +kernel) (by decide +kernel)
set_option maxRecDepth 20000 in
theorem gX11_between_X11_betweenOf : GoodIn wsX11_between (wsV RX11 345 RX11 yX11_betweenOf wsX11_betweenOf) := goodIn_app (goodIn_of _ (by decide +kernel)) ggX11_between_X11_betweenOf
theorem dX11_between_0 : decode cX11_between 0 = .ok (.aload_n 0, 1) := by decide +kernel
theorem dX11_between_1 : decode cX11_between 1 = .ok (.iload_n 1, 1) := by decide +kernel
theorem dX11_between_2 : decode cX11_between 2 = .ok (.iload_n 2, 1) := by decide +kernel
theorem dX11_between_3 : decode cX11_between 3 = .ok (.invokevirtual 153, 3) := by decide +kernel
theorem dX11_between_6 : decode cX11_between 6 = .ok (.ifCond .eq 22, 3) := by decide +kernel
theorem dX11_between_9 : decode cX11_between 9 = .ok (.aload_n 0, 1) := by decide +kernel
theorem dX11_between_10 : decode cX11_between 10 = .ok (.iload_n 1, 1) := by decide +kernel
theorem dX11_between_11 : decode cX11_between 11 = .ok (.iload_n 3, 1) := by decide +kernel
theorem dX11_between_12 : decode cX11_between 12 = .ok (.invokevirtual 153, 3) := by decide +kernel
theorem dX11_between_15 : decode cX11_between 15 = .ok (.ifCond .eq 13, 3) := by decide +kernel
theorem dX11_between_18 : decode cX11_between 18 = .ok (.aload_n 0, 1) := by decide +kernel
theorem dX11_between_19 : decode cX11_between 19 = .ok (.iload_n 1, 1) := by decide +kernel
theorem dX11_between_20 : decode cX11_between 20 = .ok (.iload_n 2, 1) := by decide +kernel
theorem dX11_between_21 : decode cX11_between 21 = .ok (.iload_n 3, 1) := by decide +kernel
theorem dX11_between_22 : decode cX11_between 22 = .ok (.invokevirtual 345, 3) := by decide +kernel
theorem dX11_between_25 : decode cX11_between 25 = .ok (.goto 4, 3) := by decide +kernel
theorem dX11_between_28 : decode cX11_between 28 = .ok (.iconst (-1), 1) := by decide +kernel
theorem dX11_between_29 : decode cX11_between 29 = .ok (.ireturn, 1) := by decide +kernel
set_option maxRecDepth 20000 in
theorem ggX11_wider_X11_isKey : GoodIn wsX11_wider wsX11_isKey := goodIn_r _ [6, 7, 8, 5, 9, 10, 11, 12, 13, 14, 15, 16, 17, 18, 19, 20, 44, 45, 46, 47, 48, 49, 50, 51, 52, 53, 54, 55, 56, 57, 58, 59, 60, 61, 62, 63, 64, 65, 66, 67, 68, 69, 70, 71, 72, 73, 74, 75, 76, 77, 78, 79, 80, 81, 82, 83, 84, 85] (by decide +kernel) (by decide +kernel)
set_option maxRecDepth 20000 in
theorem gX11_wider_X11_isKey : GoodIn wsX11_wider (wsV RX11 153 RX11 yX11_isKey wsX11_isKey) := goodIn_app (goodIn_of _ (by decide +kernel)) ggX11_wider_X11_isKey
set_option maxRecDepth 20000 in
theorem ggX11_wider_X11_rowOf : GoodIn wsX11_wider wsX11_rowOf := goodIn_r _ [24, 18, 19, 20, 14, 15, 16, 5, 17, 25, 26, 27, 28, 29, 30, 31, 32, 33, 34, 35, 44, 45, 46, 47, 48, 49, 50, 51, 52, 53, 54, 55, 56, 57, 58, 59, 60, 61, 62, 63, 64, 65, 66, 67, 68, 69, 70, 71, 72, 73, 74, 75, 76, 77, 78, 79, 80, 81, 82, 83, 84, 85] (by decide +kernel) (by decide +kernel)
set_option maxRecDepth 20000 in
theorem gX11_wider_X11_rowOf : GoodIn wsX11_wider (wsV RX11 101 RX11 yX11_rowOf wsX11_rowOf) := goodIn_app (goodIn_of _ (by decide +kernel)) ggX11_wider_X11_rowOf
set_option maxRecDepth 20000 in
theorem ggX11_wider_X11_many : GoodIn wsX11_wider wsX11_many := goodIn_r _ [39, 19, 25, 26, 27, 5, 28, 29, 30, 31, 32, 18, 40, 41, 42, 43, 33, 34, 35, 44, 45, 46, 47, 48, 49, 50, 51, 52, 53, 54, 55, 56, 57, 58, 59, 60, 61, 62, 63, 64, 65, 66, 67, 68, 69, 70, 71, 72, 73, 74, 75, 76, 77, 78, 79, 80, 81, 82, 83, 84, 85] (by decide +kernel) (by decide +kernel)
set_option maxRecDepth 20000 in
theorem gX11_wider_X11_many : GoodIn wsX11_wider (wsV RX11 115 RX11 yX11_many wsX11_many) := goodIn_app (goodIn_of _ (by decide +kernel)) ggX11_wider_X11_many
theorem dX11_wider_0 : decode cX11_wider 0 = .ok (.aload_n 0, 1) := by decide +kernel
theorem dX11_wider_1 : decode cX11_wider 1 = .ok (.iload_n 1, 1) := by decide +kernel
theorem dX11_wider_2 : decode cX11_wider 2 = .ok (.iload_n 2, 1) := by decide +kernel
theorem dX11_wider_3 : decode cX11_wider 3 = .ok (.invokevirtual 153, 3) := by decide +kernel
theorem dX11_wider_6 : decode cX11_wider 6 = .ok (.ifCond .eq 12, 3) := by decide +kernel
theorem dX11_wider_9 : decode cX11_wider 9 = .ok (.aload_n 0, 1) := by decide +kernel
theorem dX11_wider_10 : decode cX11_wider 10 = .ok (.iload_n 1, 1) := by decide +kernel
theorem dX11_wider_11 : decode cX11_wider 11 = .ok (.iload_n 3, 1) := by decide +kernel
theorem dX11_wider_12 : decode cX11_wider 12 = .ok (.invokevirtual 153, 3) := by decide +kernel
theorem dX11_wider_15 : decode cX11_wider 15 = .ok (.ifCond .ne 6, 3) := by decide +kernel
theorem dX11_wider_18 : decode cX11_wider 18 = .ok (.ldc 253, 2) := by decide +kernel
theorem dX11_wider_20 : decode cX11_wider 20 = .ok (.ireturn, 1) := by decide +kernel
theorem dX11_wider_21 : decode cX11_wider 21 = .ok (.aload_n 0, 1) := by decide +kernel
theorem dX11_wider_22 : decode cX11_wider 22 = .ok (.iload_n 1, 1) := by decide +kernel
theorem dX11_wider_23 : decode cX11_wider 23 = .ok (.aload_n 0, 1) := by decide +kernel
theorem dX11_wider_24 : decode cX11_wider 24 = .ok (.iload_n 1, 1) := by decide +kernel
theorem dX11_wider_25 : decode cX11_wider 25 = .ok (.iload_n 2, 1) := by decide +kernel
theorem dX11_wider_26 : decode cX11_wider 26 = .ok (.invokevirtual 101, 3) := by decide +kernel
theorem dX11_wider_29 : decode cX11_wider 29 = .ok (.invokevirtual 115, 3) := by decide +kernel
theorem dX11_wider_32 : decode cX11_wider 32 = .ok (.istore 4, 2) := by decide +kernel
theorem dX11_wider_34 : decode cX11_wider 34 = .ok (.aload_n 0, 1) := by decide +kernel
theorem dX11_wider_35 : decode cX11_wider 35 = .ok (.iload_n 1, 1) := by decide +kernel
theorem dX11_wider_36 : decode cX11_wider 36 = .ok (.aload_n 0, 1) := by decide +kernel
theorem dX11_wider_37 : decode cX11_wider 37 = .ok (.iload_n 1, 1) := by decide +kernel
theorem dX11_wider_38 : decode cX11_wider 38 = .ok (.iload_n 3, 1) := by decide +kernel
theorem dX11_wider_39 : decode cX11_wider 39 = .ok (.invokevirtual 101, 3) := by decide +kernel
theorem dX11_wider_42 : decode cX11_wider 42 = .ok (.invokevirtual 115, 3) := by decide +kernel
theorem dX11_wider_45 : decode cX11_wider 45 = .ok (.istore 5, 2) := by decide +kernel
theorem dX11_wider_47 : decode cX11_wider 47 = .ok (.iload 4, 2) := by decide +kernel
theorem dX11_wider_49 : decode cX11_wider 49 = .ok (.iload 5, 2) := by decide +kernel
theorem dX11_wider_51 : decode cX11_wider 51 = .ok (.if_icmp .ge 7, 3) := by decide +kernel
theorem dX11_wider_54 : decode cX11_wider 54 = .ok (.iconst 1, 1) := by decide +kernel
theorem dX11_wider_55 : decode cX11_wider 55 = .ok (.goto 15, 3) := by decide +kernel
theorem dX11_wider_58 : decode cX11_wider 58 = .ok (.iload 4, 2) := by decide +kernel
theorem dX11_wider_60 : decode cX11_wider 60 = .ok (.iload 5, 2) := by decide +kernel
theorem dX11_wider_62 : decode cX11_wider 62 = .ok (.if_icmp .le 7, 3) := by decide +kernel
theorem dX11_wider_65 : decode cX11_wider 65 = .ok (.iconst (-1), 1) := by decide +kernel
theorem dX11_wider_66 : decode cX11_wider 66 = .ok (.goto 4, 3) := by decide +kernel
theorem dX11_wider_69 : decode cX11_wider 69 = .ok (.iconst 0, 1) := by decide +kernel
theorem dX11_wider_70 : decode cX11_wider 70 = .ok (.ireturn, 1) := by decide +kernel
set_option maxRecDepth 20000 in
theorem ggX11_before_X11_isKey : GoodIn wsX11_before wsX11_isKey := goodIn_r _ [8, 9, 10, 7, 11, 12, 13, 14, 15, 16, 17, 18, 19, 20, 21, 22, 68, 69, 70, 71, 72, 73, 74, 75, 76, 77, 78, 79, 80, 81, 82, 83, 84, 85, 86, 87, 88, 89, 90, 91, 92, 93, 94, 95, 96, 97, 98, 99, 100, 101, 102, 103, 104, 105, 106, 107, 108, 109] (by decide +kernel) (by decide +kernel)
set_option maxRecDepth 20000 in
theorem gX11_before_X11_isKey : GoodIn wsX11_before (wsV RX11 153 RX11 yX11_isKey wsX11_isKey) := goodIn_app (goodIn_of _ (by decide +kernel)) ggX11_before_X11_isKey
set_option maxRecDepth 20000 in
theorem ggX11_before_X11_spells : GoodIn wsX11_before wsX11_spells := goodIn_r _ [26, 21, 20, 27, 28, 29, 7, 30, 16, 17, 18, 19, 22, 31, 32, 33, 34, 35, 36, 37, 38, 39, 40, 41, 42, 43, 44, 45, 46, 47, 48, 49, 50, 51, 52, 53, 54, 55, 56, 57, 58, 59, 60, 61, 62, 63, 64, 65, 66, 67, 68, 69, 70, 71, 72, 73, 74, 75, 76, 77, 78, 79, 80, 81, 82, 83, 84, 85, 86, 87, 88, 89, 90, 91, 92, 93, 94, 95, 96, 97, 98, 99, 100, 101, 102, 103, 104, 105, 106, 107, 108, 109] (by decide +kernel) (by decide +kernel)
set_option maxRecDepth 20000 in
theorem gX11_before_X11_spells : GoodIn wsX11_before (wsV RX11 156 RX11 yX11_spells wsX11_spells) := goodIn_app (goodIn_of _ (by decide +kernel)) ggX11_before_X11_spells
theorem dX11_before_0 : decode cX11_before 0 = .ok (.aload_n 0, 1) := by decide +kernel
theorem dX11_before_1 : decode cX11_before 1 = .ok (.iload_n 1, 1) := by decide +kernel
theorem dX11_before_2 : decode cX11_before 2 = .ok (.iload_n 2, 1) := by decide +kernel
theorem dX11_before_3 : decode cX11_before 3 = .ok (.invokevirtual 153, 3) := by decide +kernel
theorem dX11_before_6 : decode cX11_before 6 = .ok (.ifCond .eq 12, 3) := by decide +kernel
theorem dX11_before_9 : decode cX11_before 9 = .ok (.aload_n 0, 1) := by decide +kernel
theorem dX11_before_10 : decode cX11_before 10 = .ok (.iload_n 1, 1) := by decide +kernel
theorem dX11_before_11 : decode cX11_before 11 = .ok (.iload_n 3, 1) := by decide +kernel
theorem dX11_before_12 : decode cX11_before 12 = .ok (.invokevirtual 153, 3) := by decide +kernel
theorem dX11_before_15 : decode cX11_before 15 = .ok (.ifCond .ne 6, 3) := by decide +kernel
theorem dX11_before_18 : decode cX11_before 18 = .ok (.ldc 253, 2) := by decide +kernel
theorem dX11_before_20 : decode cX11_before 20 = .ok (.ireturn, 1) := by decide +kernel
theorem dX11_before_21 : decode cX11_before 21 = .ok (.aload_n 0, 1) := by decide +kernel
theorem dX11_before_22 : decode cX11_before 22 = .ok (.iload_n 1, 1) := by decide +kernel
theorem dX11_before_23 : decode cX11_before 23 = .ok (.iload_n 2, 1) := by decide +kernel
theorem dX11_before_24 : decode cX11_before 24 = .ok (.aload_n 0, 1) := by decide +kernel
theorem dX11_before_25 : decode cX11_before 25 = .ok (.getfield 25, 3) := by decide +kernel
theorem dX11_before_28 : decode cX11_before 28 = .ok (.invokevirtual 156, 3) := by decide +kernel
theorem dX11_before_31 : decode cX11_before 31 = .ok (.istore 4, 2) := by decide +kernel
theorem dX11_before_33 : decode cX11_before 33 = .ok (.aload_n 0, 1) := by decide +kernel
theorem dX11_before_34 : decode cX11_before 34 = .ok (.iload_n 1, 1) := by decide +kernel
theorem dX11_before_35 : decode cX11_before 35 = .ok (.iload_n 3, 1) := by decide +kernel
theorem dX11_before_36 : decode cX11_before 36 = .ok (.aload_n 0, 1) := by decide +kernel
theorem dX11_before_37 : decode cX11_before 37 = .ok (.getfield 28, 3) := by decide +kernel
theorem dX11_before_40 : decode cX11_before 40 = .ok (.invokevirtual 156, 3) := by decide +kernel
theorem dX11_before_43 : decode cX11_before 43 = .ok (.istore 5, 2) := by decide +kernel
theorem dX11_before_45 : decode cX11_before 45 = .ok (.iconst 0, 1) := by decide +kernel
theorem dX11_before_46 : decode cX11_before 46 = .ok (.istore 6, 2) := by decide +kernel
theorem dX11_before_48 : decode cX11_before 48 = .ok (.iload 6, 2) := by decide +kernel
theorem dX11_before_50 : decode cX11_before 50 = .ok (.iload 4, 2) := by decide +kernel
theorem dX11_before_52 : decode cX11_before 52 = .ok (.if_icmp .ge 56, 3) := by decide +kernel
theorem dX11_before_55 : decode cX11_before 55 = .ok (.iload 6, 2) := by decide +kernel
theorem dX11_before_57 : decode cX11_before 57 = .ok (.iload 5, 2) := by decide +kernel
theorem dX11_before_59 : decode cX11_before 59 = .ok (.if_icmp .ge 49, 3) := by decide +kernel
theorem dX11_before_62 : decode cX11_before 62 = .ok (.aload_n 0, 1) := by decide +kernel
theorem dX11_before_63 : decode cX11_before 63 = .ok (.getfield 25, 3) := by decide +kernel
theorem dX11_before_66 : decode cX11_before 66 = .ok (.iload 6, 2) := by decide +kernel
theorem dX11_before_68 : decode cX11_before 68 = .ok (.iaload, 1) := by decide +kernel
theorem dX11_before_69 : decode cX11_before 69 = .ok (.aload_n 0, 1) := by decide +kernel
theorem dX11_before_70 : decode cX11_before 70 = .ok (.getfield 28, 3) := by decide +kernel
theorem dX11_before_73 : decode cX11_before 73 = .ok (.iload 6, 2) := by decide +kernel
theorem dX11_before_75 : decode cX11_before 75 = .ok (.iaload, 1) := by decide +kernel
theorem dX11_before_76 : decode cX11_before 76 = .ok (.if_icmp .eq 26, 3) := by decide +kernel
theorem dX11_before_79 : decode cX11_before 79 = .ok (.aload_n 0, 1) := by decide +kernel
theorem dX11_before_80 : decode cX11_before 80 = .ok (.getfield 25, 3) := by decide +kernel
theorem dX11_before_83 : decode cX11_before 83 = .ok (.iload 6, 2) := by decide +kernel
theorem dX11_before_85 : decode cX11_before 85 = .ok (.iaload, 1) := by decide +kernel
theorem dX11_before_86 : decode cX11_before 86 = .ok (.aload_n 0, 1) := by decide +kernel
theorem dX11_before_87 : decode cX11_before 87 = .ok (.getfield 28, 3) := by decide +kernel
theorem dX11_before_90 : decode cX11_before 90 = .ok (.iload 6, 2) := by decide +kernel
theorem dX11_before_92 : decode cX11_before 92 = .ok (.iaload, 1) := by decide +kernel
theorem dX11_before_93 : decode cX11_before 93 = .ok (.if_icmp .ge 7, 3) := by decide +kernel
theorem dX11_before_96 : decode cX11_before 96 = .ok (.iconst (-1), 1) := by decide +kernel
theorem dX11_before_97 : decode cX11_before 97 = .ok (.goto 4, 3) := by decide +kernel
theorem dX11_before_100 : decode cX11_before 100 = .ok (.iconst 1, 1) := by decide +kernel
theorem dX11_before_101 : decode cX11_before 101 = .ok (.ireturn, 1) := by decide +kernel
theorem dX11_before_102 : decode cX11_before 102 = .ok (.iinc 6 1, 3) := by decide +kernel
theorem dX11_before_105 : decode cX11_before 105 = .ok (.goto (-57), 3) := by decide +kernel
theorem dX11_before_108 : decode cX11_before 108 = .ok (.iload 4, 2) := by decide +kernel
theorem dX11_before_110 : decode cX11_before 110 = .ok (.iload 5, 2) := by decide +kernel
theorem dX11_before_112 : decode cX11_before 112 = .ok (.if_icmp .ge 7, 3) := by decide +kernel
theorem dX11_before_115 : decode cX11_before 115 = .ok (.iconst (-1), 1) := by decide +kernel
theorem dX11_before_116 : decode cX11_before 116 = .ok (.goto 15, 3) := by decide +kernel
theorem dX11_before_119 : decode cX11_before 119 = .ok (.iload 4, 2) := by decide +kernel
theorem dX11_before_121 : decode cX11_before 121 = .ok (.iload 5, 2) := by decide +kernel
theorem dX11_before_123 : decode cX11_before 123 = .ok (.if_icmp .le 7, 3) := by decide +kernel
theorem dX11_before_126 : decode cX11_before 126 = .ok (.iconst 1, 1) := by decide +kernel
theorem dX11_before_127 : decode cX11_before 127 = .ok (.goto 4, 3) := by decide +kernel
theorem dX11_before_130 : decode cX11_before 130 = .ok (.iconst 0, 1) := by decide +kernel
theorem dX11_before_131 : decode cX11_before 131 = .ok (.ireturn, 1) := by decide +kernel
set_option maxRecDepth 20000 in
theorem ggX11_moved_X11_isPlace : GoodIn wsX11_moved wsX11_isPlace := goodIn_r _ [7, 1, 2, 8, 9, 10, 6, 11] (by decide +kernel) (by decide +kernel)
set_option maxRecDepth 20000 in
theorem gX11_moved_X11_isPlace : GoodIn wsX11_moved (va_wsS RX11 133 yX11_isPlace wsX11_isPlace) := goodIn_app (goodIn_of _ (by decide +kernel)) ggX11_moved_X11_isPlace
set_option maxRecDepth 20000 in
theorem ggX11_moved_X11_isLevel : GoodIn wsX11_moved wsX11_isLevel := goodIn_r _ [14, 15, 9, 10, 6, 11] (by decide +kernel) (by decide +kernel)
set_option maxRecDepth 20000 in
theorem gX11_moved_X11_isLevel : GoodIn wsX11_moved (va_wsS RX11 84 yX11_isLevel wsX11_isLevel) := goodIn_app (goodIn_of _ (by decide +kernel)) ggX11_moved_X11_isLevel
set_option maxRecDepth 20000 in
theorem ggX11_moved_X11_in : GoodIn wsX11_moved wsX11_in := goodIn_r _ [11] (by decide +kernel) (by decide +kernel)
set_option maxRecDepth 20000 in
theorem gX11_moved_X11_in : GoodIn wsX11_moved (va_wsS RX11 72 yX11_in wsX11_in) := goodIn_app (goodIn_of _ (by decide +kernel)) ggX11_moved_X11_in
set_option maxRecDepth 20000 in
theorem ggX11_moved_X11_down : GoodIn wsX11_moved wsX11_down := goodIn_r _ [18] (by decide +kernel) (by decide +kernel)
set_option maxRecDepth 20000 in
theorem gX11_moved_X11_down : GoodIn wsX11_moved (va_wsS RX11 247 yX11_down wsX11_down) := goodIn_app (goodIn_of _ (by decide +kernel)) ggX11_moved_X11_down
set_option maxRecDepth 20000 in
theorem ggX11_moved_X11_keyAtPlace : GoodIn wsX11_moved wsX11_keyAtPlace := goodIn_r _ [22, 23, 24, 25, 6, 26, 27, 28, 29, 30, 31, 32, 33, 34, 35, 36, 37, 38, 39, 40, 41, 42, 43, 44, 45, 46, 47, 48, 49, 50, 51, 52, 53, 3, 54, 55, 56, 57, 58, 59, 60, 61, 62, 63, 64, 65, 66, 67, 68, 69, 70, 71, 72, 73, 74, 75, 76, 77, 78, 79, 80, 81, 82, 83, 84, 85, 86, 87, 88, 89, 90, 91, 92, 93, 94, 95, 96, 97, 98, 99, 100, 101, 102, 103, 104] (by decide +kernel) (by decide +kernel)
set_option maxRecDepth 20000 in
theorem gX11_moved_X11_keyAtPlace : GoodIn wsX11_moved (wsV RX11 137 RX11 yX11_keyAtPlace wsX11_keyAtPlace) := goodIn_app (goodIn_of _ (by decide +kernel)) ggX11_moved_X11_keyAtPlace
theorem dX11_moved_0 : decode cX11_moved 0 = .ok (.iload_n 1, 1) := by decide +kernel
theorem dX11_moved_1 : decode cX11_moved 1 = .ok (.iload_n 2, 1) := by decide +kernel
theorem dX11_moved_2 : decode cX11_moved 2 = .ok (.invokestatic 133, 3) := by decide +kernel
theorem dX11_moved_5 : decode cX11_moved 5 = .ok (.ifCond .eq 11, 3) := by decide +kernel
theorem dX11_moved_8 : decode cX11_moved 8 = .ok (.iload 5, 2) := by decide +kernel
theorem dX11_moved_10 : decode cX11_moved 10 = .ok (.invokestatic 84, 3) := by decide +kernel
theorem dX11_moved_13 : decode cX11_moved 13 = .ok (.ifCond .ne 5, 3) := by decide +kernel
theorem dX11_moved_16 : decode cX11_moved 16 = .ok (.iconst (-1), 1) := by decide +kernel
theorem dX11_moved_17 : decode cX11_moved 17 = .ok (.ireturn, 1) := by decide +kernel
theorem dX11_moved_18 : decode cX11_moved 18 = .ok (.iload_n 1, 1) := by decide +kernel
theorem dX11_moved_19 : decode cX11_moved 19 = .ok (.i2l, 1) := by decide +kernel
theorem dX11_moved_20 : decode cX11_moved 20 = .ok (.iload_n 3, 1) := by decide +kernel
theorem dX11_moved_21 : decode cX11_moved 21 = .ok (.i2l, 1) := by decide +kernel
theorem dX11_moved_22 : decode cX11_moved 22 = .ok (.ladd, 1) := by decide +kernel
theorem dX11_moved_23 : decode cX11_moved 23 = .ok (.lstore 6, 2) := by decide +kernel
theorem dX11_moved_25 : decode cX11_moved 25 = .ok (.iload_n 2, 1) := by decide +kernel
theorem dX11_moved_26 : decode cX11_moved 26 = .ok (.i2l, 1) := by decide +kernel
theorem dX11_moved_27 : decode cX11_moved 27 = .ok (.iload 4, 2) := by decide +kernel
theorem dX11_moved_29 : decode cX11_moved 29 = .ok (.i2l, 1) := by decide +kernel
theorem dX11_moved_30 : decode cX11_moved 30 = .ok (.ladd, 1) := by decide +kernel
theorem dX11_moved_31 : decode cX11_moved 31 = .ok (.lstore 8, 2) := by decide +kernel
theorem dX11_moved_33 : decode cX11_moved 33 = .ok (.lload 6, 2) := by decide +kernel
theorem dX11_moved_35 : decode cX11_moved 35 = .ok (.lload 6, 2) := by decide +kernel
theorem dX11_moved_37 : decode cX11_moved 37 = .ok (.l2i, 1) := by decide +kernel
theorem dX11_moved_38 : decode cX11_moved 38 = .ok (.i2l, 1) := by decide +kernel
theorem dX11_moved_39 : decode cX11_moved 39 = .ok (.lcmp, 1) := by decide +kernel
theorem dX11_moved_40 : decode cX11_moved 40 = .ok (.ifCond .ne 13, 3) := by decide +kernel
theorem dX11_moved_43 : decode cX11_moved 43 = .ok (.lload 8, 2) := by decide +kernel
theorem dX11_moved_45 : decode cX11_moved 45 = .ok (.lload 8, 2) := by decide +kernel
theorem dX11_moved_47 : decode cX11_moved 47 = .ok (.l2i, 1) := by decide +kernel
theorem dX11_moved_48 : decode cX11_moved 48 = .ok (.i2l, 1) := by decide +kernel
theorem dX11_moved_49 : decode cX11_moved 49 = .ok (.lcmp, 1) := by decide +kernel
theorem dX11_moved_50 : decode cX11_moved 50 = .ok (.ifCond .eq 6, 3) := by decide +kernel
theorem dX11_moved_53 : decode cX11_moved 53 = .ok (.bipush (-2), 2) := by decide +kernel
theorem dX11_moved_55 : decode cX11_moved 55 = .ok (.ireturn, 1) := by decide +kernel
theorem dX11_moved_56 : decode cX11_moved 56 = .ok (.lload 6, 2) := by decide +kernel
theorem dX11_moved_58 : decode cX11_moved 58 = .ok (.ldc2_w 76, 3) := by decide +kernel
theorem dX11_moved_61 : decode cX11_moved 61 = .ok (.ldc2_w 78, 3) := by decide +kernel
theorem dX11_moved_64 : decode cX11_moved 64 = .ok (.invokestatic 72, 3) := by decide +kernel
theorem dX11_moved_67 : decode cX11_moved 67 = .ok (.ifCond .ne 6, 3) := by decide +kernel
theorem dX11_moved_70 : decode cX11_moved 70 = .ok (.bipush (-3), 2) := by decide +kernel
theorem dX11_moved_72 : decode cX11_moved 72 = .ok (.ireturn, 1) := by decide +kernel
theorem dX11_moved_73 : decode cX11_moved 73 = .ok (.lload 8, 2) := by decide +kernel
theorem dX11_moved_75 : decode cX11_moved 75 = .ok (.ldc2_w 110, 3) := by decide +kernel
theorem dX11_moved_78 : decode cX11_moved 78 = .ok (.lload 8, 2) := by decide +kernel
theorem dX11_moved_80 : decode cX11_moved 80 = .ok (.ldc2_w 110, 3) := by decide +kernel
theorem dX11_moved_83 : decode cX11_moved 83 = .ok (.invokestatic 247, 3) := by decide +kernel
theorem dX11_moved_86 : decode cX11_moved 86 = .ok (.lmul, 1) := by decide +kernel
theorem dX11_moved_87 : decode cX11_moved 87 = .ok (.lsub, 1) := by decide +kernel
theorem dX11_moved_88 : decode cX11_moved 88 = .ok (.lstore 8, 2) := by decide +kernel
theorem dX11_moved_90 : decode cX11_moved 90 = .ok (.aload_n 0, 1) := by decide +kernel
theorem dX11_moved_91 : decode cX11_moved 91 = .ok (.lload 6, 2) := by decide +kernel
theorem dX11_moved_93 : decode cX11_moved 93 = .ok (.l2i, 1) := by decide +kernel
theorem dX11_moved_94 : decode cX11_moved 94 = .ok (.lload 8, 2) := by decide +kernel
theorem dX11_moved_96 : decode cX11_moved 96 = .ok (.l2i, 1) := by decide +kernel
theorem dX11_moved_97 : decode cX11_moved 97 = .ok (.iload 5, 2) := by decide +kernel
theorem dX11_moved_99 : decode cX11_moved 99 = .ok (.invokevirtual 137, 3) := by decide +kernel
theorem dX11_moved_102 : decode cX11_moved 102 = .ok (.ireturn, 1) := by decide +kernel
theorem dX11_blankFrom_0 : decode cX11_blankFrom 0 = .ok (.iload_n 1, 1) := by decide +kernel
theorem dX11_blankFrom_1 : decode cX11_blankFrom 1 = .ok (.istore_n 3, 1) := by decide +kernel
theorem dX11_blankFrom_2 : decode cX11_blankFrom 2 = .ok (.iload_n 3, 1) := by decide +kernel
theorem dX11_blankFrom_3 : decode cX11_blankFrom 3 = .ok (.iload_n 2, 1) := by decide +kernel
theorem dX11_blankFrom_4 : decode cX11_blankFrom 4 = .ok (.if_icmp .ge 21, 3) := by decide +kernel
theorem dX11_blankFrom_7 : decode cX11_blankFrom 7 = .ok (.aload_n 0, 1) := by decide +kernel
theorem dX11_blankFrom_8 : decode cX11_blankFrom 8 = .ok (.getfield 31, 3) := by decide +kernel
theorem dX11_blankFrom_11 : decode cX11_blankFrom 11 = .ok (.iload_n 3, 1) := by decide +kernel
theorem dX11_blankFrom_12 : decode cX11_blankFrom 12 = .ok (.baload, 1) := by decide +kernel
theorem dX11_blankFrom_13 : decode cX11_blankFrom 13 = .ok (.bipush 32, 2) := by decide +kernel
theorem dX11_blankFrom_15 : decode cX11_blankFrom 15 = .ok (.if_icmp .eq 10, 3) := by decide +kernel
theorem dX11_blankFrom_18 : decode cX11_blankFrom 18 = .ok (.iload_n 3, 1) := by decide +kernel
theorem dX11_blankFrom_19 : decode cX11_blankFrom 19 = .ok (.iconst 1, 1) := by decide +kernel
theorem dX11_blankFrom_20 : decode cX11_blankFrom 20 = .ok (.iadd, 1) := by decide +kernel
theorem dX11_blankFrom_21 : decode cX11_blankFrom 21 = .ok (.istore_n 3, 1) := by decide +kernel
theorem dX11_blankFrom_22 : decode cX11_blankFrom 22 = .ok (.goto (-20), 3) := by decide +kernel
theorem dX11_blankFrom_25 : decode cX11_blankFrom 25 = .ok (.iload_n 3, 1) := by decide +kernel
theorem dX11_blankFrom_26 : decode cX11_blankFrom 26 = .ok (.ireturn, 1) := by decide +kernel
set_option maxRecDepth 20000 in
theorem ggX11_wordTo_X11_in : GoodIn wsX11_wordTo wsX11_in := goodIn_r _ [9] (by decide +kernel) (by decide +kernel)
set_option maxRecDepth 20000 in
theorem gX11_wordTo_X11_in : GoodIn wsX11_wordTo (va_wsS RX11 72 yX11_in wsX11_in) := goodIn_app (goodIn_of _ (by decide +kernel)) ggX11_wordTo_X11_in
theorem dX11_wordTo_0 : decode cX11_wordTo 0 = .ok (.lconst 0, 1) := by decide +kernel
theorem dX11_wordTo_1 : decode cX11_wordTo 1 = .ok (.lstore_n 2, 1) := by decide +kernel
theorem dX11_wordTo_2 : decode cX11_wordTo 2 = .ok (.iconst 0, 1) := by decide +kernel
theorem dX11_wordTo_3 : decode cX11_wordTo 3 = .ok (.istore 4, 2) := by decide +kernel
theorem dX11_wordTo_5 : decode cX11_wordTo 5 = .ok (.iload 4, 2) := by decide +kernel
theorem dX11_wordTo_7 : decode cX11_wordTo 7 = .ok (.iload_n 1, 1) := by decide +kernel
theorem dX11_wordTo_8 : decode cX11_wordTo 8 = .ok (.if_icmp .ge 61, 3) := by decide +kernel
theorem dX11_wordTo_11 : decode cX11_wordTo 11 = .ok (.aload_n 0, 1) := by decide +kernel
theorem dX11_wordTo_12 : decode cX11_wordTo 12 = .ok (.getfield 31, 3) := by decide +kernel
theorem dX11_wordTo_15 : decode cX11_wordTo 15 = .ok (.iload 4, 2) := by decide +kernel
theorem dX11_wordTo_17 : decode cX11_wordTo 17 = .ok (.baload, 1) := by decide +kernel
theorem dX11_wordTo_18 : decode cX11_wordTo 18 = .ok (.i2l, 1) := by decide +kernel
theorem dX11_wordTo_19 : decode cX11_wordTo 19 = .ok (.ldc2_w 348, 3) := by decide +kernel
theorem dX11_wordTo_22 : decode cX11_wordTo 22 = .ok (.ldc2_w 350, 3) := by decide +kernel
theorem dX11_wordTo_25 : decode cX11_wordTo 25 = .ok (.invokestatic 72, 3) := by decide +kernel
theorem dX11_wordTo_28 : decode cX11_wordTo 28 = .ok (.ifCond .eq 10, 3) := by decide +kernel
theorem dX11_wordTo_31 : decode cX11_wordTo 31 = .ok (.iload 4, 2) := by decide +kernel
theorem dX11_wordTo_33 : decode cX11_wordTo 33 = .ok (.bipush 7, 2) := by decide +kernel
theorem dX11_wordTo_35 : decode cX11_wordTo 35 = .ok (.if_icmp .le 7, 3) := by decide +kernel
theorem dX11_wordTo_38 : decode cX11_wordTo 38 = .ok (.ldc2_w 352, 3) := by decide +kernel
theorem dX11_wordTo_41 : decode cX11_wordTo 41 = .ok (.lreturn, 1) := by decide +kernel
theorem dX11_wordTo_42 : decode cX11_wordTo 42 = .ok (.ldc2_w 354, 3) := by decide +kernel
theorem dX11_wordTo_45 : decode cX11_wordTo 45 = .ok (.lload_n 2, 1) := by decide +kernel
theorem dX11_wordTo_46 : decode cX11_wordTo 46 = .ok (.lmul, 1) := by decide +kernel
theorem dX11_wordTo_47 : decode cX11_wordTo 47 = .ok (.aload_n 0, 1) := by decide +kernel
theorem dX11_wordTo_48 : decode cX11_wordTo 48 = .ok (.getfield 31, 3) := by decide +kernel
theorem dX11_wordTo_51 : decode cX11_wordTo 51 = .ok (.iload 4, 2) := by decide +kernel
theorem dX11_wordTo_53 : decode cX11_wordTo 53 = .ok (.baload, 1) := by decide +kernel
theorem dX11_wordTo_54 : decode cX11_wordTo 54 = .ok (.i2l, 1) := by decide +kernel
theorem dX11_wordTo_55 : decode cX11_wordTo 55 = .ok (.ladd, 1) := by decide +kernel
theorem dX11_wordTo_56 : decode cX11_wordTo 56 = .ok (.ldc2_w 348, 3) := by decide +kernel
theorem dX11_wordTo_59 : decode cX11_wordTo 59 = .ok (.lsub, 1) := by decide +kernel
theorem dX11_wordTo_60 : decode cX11_wordTo 60 = .ok (.lconst 1, 1) := by decide +kernel
theorem dX11_wordTo_61 : decode cX11_wordTo 61 = .ok (.ladd, 1) := by decide +kernel
theorem dX11_wordTo_62 : decode cX11_wordTo 62 = .ok (.lstore_n 2, 1) := by decide +kernel
theorem dX11_wordTo_63 : decode cX11_wordTo 63 = .ok (.iinc 4 1, 3) := by decide +kernel
theorem dX11_wordTo_66 : decode cX11_wordTo 66 = .ok (.goto (-61), 3) := by decide +kernel
theorem dX11_wordTo_69 : decode cX11_wordTo 69 = .ok (.lload_n 2, 1) := by decide +kernel
theorem dX11_wordTo_70 : decode cX11_wordTo 70 = .ok (.lreturn, 1) := by decide +kernel
set_option maxRecDepth 20000 in
theorem ggX11_readsUpTo_X11_readsName : GoodIn wsX11_readsUpTo wsX11_readsName := goodIn_r _ [7, 8, 9, 10, 11, 12, 13, 14, 15, 16, 17, 18, 6, 19, 20, 21, 22, 23, 24, 1, 25, 26, 27, 28, 29, 30, 31, 32, 33, 34, 35, 36, 37, 38, 39, 40, 41, 42, 43, 44, 45, 46, 47, 48, 49, 50, 51, 52, 53, 54, 55, 56, 57, 58, 59, 60, 61, 62, 63, 64, 65, 66, 67, 68, 69, 70, 71, 72, 73, 74, 75, 76, 77, 78, 79, 80, 81, 82, 83, 84, 85, 86, 87, 88, 89, 90, 91, 92, 93, 94, 95, 96, 97, 98, 99, 100, 101] (by decide +kernel) (by decide +kernel)
set_option maxRecDepth 20000 in
theorem gX11_readsUpTo_X11_readsName : GoodIn wsX11_readsUpTo (wsV RX11 213 RX11 yX11_readsName wsX11_readsName) := goodIn_app (goodIn_of _ (by decide +kernel)) ggX11_readsUpTo_X11_readsName
theorem dX11_readsUpTo_0 : decode cX11_readsUpTo 0 = .ok (.aload_n 0, 1) := by decide +kernel
theorem dX11_readsUpTo_1 : decode cX11_readsUpTo 1 = .ok (.iload_n 1, 1) := by decide +kernel
theorem dX11_readsUpTo_2 : decode cX11_readsUpTo 2 = .ok (.invokevirtual 213, 3) := by decide +kernel
theorem dX11_readsUpTo_5 : decode cX11_readsUpTo 5 = .ok (.istore_n 2, 1) := by decide +kernel
theorem dX11_readsUpTo_6 : decode cX11_readsUpTo 6 = .ok (.aload_n 0, 1) := by decide +kernel
theorem dX11_readsUpTo_7 : decode cX11_readsUpTo 7 = .ok (.iload_n 2, 1) := by decide +kernel
theorem dX11_readsUpTo_8 : decode cX11_readsUpTo 8 = .ok (.ifCond .ne 19, 3) := by decide +kernel
theorem dX11_readsUpTo_11 : decode cX11_readsUpTo 11 = .ok (.aload_n 0, 1) := by decide +kernel
theorem dX11_readsUpTo_12 : decode cX11_readsUpTo 12 = .ok (.getfield 167, 3) := by decide +kernel
theorem dX11_readsUpTo_15 : decode cX11_readsUpTo 15 = .ok (.sipush (-1000), 3) := by decide +kernel
theorem dX11_readsUpTo_18 : decode cX11_readsUpTo 18 = .ok (.iload_n 1, 1) := by decide +kernel
theorem dX11_readsUpTo_19 : decode cX11_readsUpTo 19 = .ok (.isub, 1) := by decide +kernel
theorem dX11_readsUpTo_20 : decode cX11_readsUpTo 20 = .ok (.if_icmp .ne 7, 3) := by decide +kernel
theorem dX11_readsUpTo_23 : decode cX11_readsUpTo 23 = .ok (.iconst 1, 1) := by decide +kernel
theorem dX11_readsUpTo_24 : decode cX11_readsUpTo 24 = .ok (.goto 4, 3) := by decide +kernel
theorem dX11_readsUpTo_27 : decode cX11_readsUpTo 27 = .ok (.iconst 0, 1) := by decide +kernel
theorem dX11_readsUpTo_28 : decode cX11_readsUpTo 28 = .ok (.putfield 356, 3) := by decide +kernel
theorem dX11_readsUpTo_31 : decode cX11_readsUpTo 31 = .ok (.iload_n 2, 1) := by decide +kernel
theorem dX11_readsUpTo_32 : decode cX11_readsUpTo 32 = .ok (.ireturn, 1) := by decide +kernel
set_option maxRecDepth 20000 in
theorem ggX11_besideFirst_X11_laysBeside : GoodIn wsX11_besideFirst wsX11_laysBeside := goodIn_r _ [9, 3, 4, 10, 11, 12, 8, 13, 14, 15, 16, 17, 18, 19, 20, 21, 22, 23, 24, 25, 26, 27, 28, 29, 30, 31, 32, 33, 34, 35, 36, 37, 38, 39, 40, 41, 42, 43, 44, 45, 46, 47, 48, 49, 50, 51, 52, 53, 54, 55, 56, 57, 58, 59, 60, 61, 62, 63, 64, 65, 66, 67, 68, 69, 70, 71, 72, 73, 74, 75, 76, 77, 78, 79, 80, 81, 82, 83, 84, 85, 86, 87, 88, 89, 90, 91, 92] (by decide +kernel) (by decide +kernel)
set_option maxRecDepth 20000 in
theorem gX11_besideFirst_X11_laysBeside : GoodIn wsX11_besideFirst (wsV RX11 266 RX11 yX11_laysBeside wsX11_laysBeside) := goodIn_app (goodIn_of _ (by decide +kernel)) ggX11_besideFirst_X11_laysBeside
theorem dX11_besideFirst_0 : decode cX11_besideFirst 0 = .ok (.aload_n 0, 1) := by decide +kernel
theorem dX11_besideFirst_1 : decode cX11_besideFirst 1 = .ok (.aload_n 0, 1) := by decide +kernel
theorem dX11_besideFirst_2 : decode cX11_besideFirst 2 = .ok (.getfield 190, 3) := by decide +kernel
theorem dX11_besideFirst_5 : decode cX11_besideFirst 5 = .ok (.aload_n 0, 1) := by decide +kernel
theorem dX11_besideFirst_6 : decode cX11_besideFirst 6 = .ok (.getfield 193, 3) := by decide +kernel
theorem dX11_besideFirst_9 : decode cX11_besideFirst 9 = .ok (.iload_n 1, 1) := by decide +kernel
theorem dX11_besideFirst_10 : decode cX11_besideFirst 10 = .ok (.invokevirtual 266, 3) := by decide +kernel
theorem dX11_besideFirst_13 : decode cX11_besideFirst 13 = .ok (.aload_n 0, 1) := by decide +kernel
theorem dX11_besideFirst_14 : decode cX11_besideFirst 14 = .ok (.getfield 257, 3) := by decide +kernel
theorem dX11_besideFirst_17 : decode cX11_besideFirst 17 = .ok (.ifCond .ne 8, 3) := by decide +kernel
theorem dX11_besideFirst_20 : decode cX11_besideFirst 20 = .ok (.bipush (-2), 2) := by decide +kernel
theorem dX11_besideFirst_22 : decode cX11_besideFirst 22 = .ok (.goto 7, 3) := by decide +kernel
theorem dX11_besideFirst_25 : decode cX11_besideFirst 25 = .ok (.aload_n 0, 1) := by decide +kernel
theorem dX11_besideFirst_26 : decode cX11_besideFirst 26 = .ok (.getfield 260, 3) := by decide +kernel
theorem dX11_besideFirst_29 : decode cX11_besideFirst 29 = .ok (.ireturn, 1) := by decide +kernel
set_option maxRecDepth 20000 in
theorem ggX11_answersTwo_X11_blankFrom : GoodIn wsX11_answersTwo wsX11_blankFrom := goodIn_r _ [10, 11, 171, 172, 173, 174, 175, 176, 177, 178, 179, 180, 181, 182, 183, 184, 185, 186, 187, 188, 189, 190, 191, 192, 193, 194, 195, 196, 197, 198, 199, 200, 201, 202, 203, 204, 205, 206, 207, 208, 209, 210, 211, 212] (by decide +kernel) (by decide +kernel)
set_option maxRecDepth 20000 in
theorem gX11_answersTwo_X11_blankFrom : GoodIn wsX11_answersTwo (wsV RX11 360 RX11 yX11_blankFrom wsX11_blankFrom) := goodIn_app (goodIn_of _ (by decide +kernel)) ggX11_answersTwo_X11_blankFrom
set_option maxRecDepth 20000 in
theorem ggX11_answersTwo_X11_readsUpTo : GoodIn wsX11_answersTwo wsX11_readsUpTo := goodIn_r _ [15, 5, 2, 16, 17, 18, 9, 19, 1, 20, 21, 3, 4, 22, 23, 24, 25, 26, 27, 28, 11, 29, 30, 31, 32, 33, 34, 35, 36, 37, 38, 39, 40, 41, 42, 43, 44, 45, 46, 47, 48, 49, 50, 51, 52, 53, 54, 55, 56, 57, 58, 59, 60, 61, 62, 63, 64, 65, 66, 67, 171, 172, 173, 174, 175, 176, 177, 178, 179, 180, 181, 182, 183, 184, 185, 186, 187, 188, 189, 190, 191, 192, 193, 194, 195, 196, 197, 198, 199, 200, 201, 202, 203, 204, 205, 206, 207, 208, 209, 210, 211, 212] (by decide +kernel) (by decide +kernel)
set_option maxRecDepth 20000 in
theorem gX11_answersTwo_X11_readsUpTo : GoodIn wsX11_answersTwo (wsV RX11 363 RX11 yX11_readsUpTo wsX11_readsUpTo) := goodIn_app (goodIn_of _ (by decide +kernel)) ggX11_answersTwo_X11_readsUpTo
set_option maxRecDepth 20000 in
theorem ggX11_answersTwo_X11_wrong : GoodIn wsX11_answersTwo wsX11_wrong := goodIn_r _ [32, 5, 171, 172, 173, 174, 175, 176, 177, 178, 179, 180, 181, 182, 183, 184, 185, 186, 187, 188, 189, 190, 191, 192, 193, 194, 195, 196, 197, 198, 199, 200, 201, 202, 203, 204, 205, 206, 207, 208, 209, 210, 211, 212] (by decide +kernel) (by decide +kernel)
set_option maxRecDepth 20000 in
theorem gX11_answersTwo_X11_wrong : GoodIn wsX11_answersTwo (wsV RX11 183 RX11 yX11_wrong wsX11_wrong) := goodIn_app (goodIn_of _ (by decide +kernel)) ggX11_answersTwo_X11_wrong
set_option maxRecDepth 20000 in
theorem ggX11_answersTwo_X11_counted : GoodIn wsX11_answersTwo wsX11_counted := goodIn_r _ [71, 72, 73, 74, 75, 5, 171, 172, 173, 174, 175, 176, 177, 178, 179, 180, 181, 182, 183, 184, 185, 186, 187, 188, 189, 190, 191, 192, 193, 194, 195, 196, 197, 198, 199, 200, 201, 202, 203, 204, 205, 206, 207, 208, 209, 210, 211, 212] (by decide +kernel) (by decide +kernel)
set_option maxRecDepth 20000 in
theorem gX11_answersTwo_X11_counted : GoodIn wsX11_answersTwo (wsV RX11 216 RX11 yX11_counted wsX11_counted) := goodIn_app (goodIn_of _ (by decide +kernel)) ggX11_answersTwo_X11_counted
set_option maxRecDepth 20000 in
theorem ggX11_answersTwo_X11_stepsOf : GoodIn wsX11_answersTwo wsX11_stepsOf := goodIn_r _ [79, 80, 81, 82, 83, 9, 84, 36, 37, 38, 39, 40, 41, 42, 85, 86, 87, 88, 89, 90, 91, 92, 93, 94, 95, 96, 97, 98, 99, 100, 101, 102, 103, 104, 56, 57, 58, 59, 60, 61, 62, 63, 43, 44, 45, 105, 106, 107, 108, 52, 53, 54, 55, 64, 65, 66, 67, 109, 110, 111, 112, 33, 34, 35, 171, 172, 173, 174, 175, 176, 177, 178, 179, 180, 181, 182, 183, 184, 185, 186, 187, 188, 189, 190, 191, 192, 193, 194, 195, 196, 197, 198, 199, 200, 201, 202, 203, 204, 205, 206, 207, 208, 209, 210, 211, 212] (by decide +kernel) (by decide +kernel)
set_option maxRecDepth 20000 in
theorem gX11_answersTwo_X11_stepsOf : GoodIn wsX11_answersTwo (wsV RX11 288 RX11 yX11_stepsOf wsX11_stepsOf) := goodIn_app (goodIn_of _ (by decide +kernel)) ggX11_answersTwo_X11_stepsOf
set_option maxRecDepth 20000 in
theorem ggX11_answersTwo_X11_betweenOf : GoodIn wsX11_answersTwo wsX11_betweenOf := goodIn_r _ [116, 117, 118, 119, 9, 120, 121, 122, 123, 124, 125, 126, 127, 128, 129, 130, 36, 37, 38, 39, 40, 41, 42, 131, 132, 133, 134, 135, 136, 137, 138, 139, 140, 101, 102, 103, 104, 56, 57, 58, 59, 60, 61, 62, 63, 43, 44, 45, 109, 110, 111, 112, 64, 65, 66, 67, 105, 106, 107, 108, 52, 53, 54, 55, 141, 142, 143, 144, 145, 146, 147, 148, 149, 150, 151, 152, 153, 154, 155, 156, 157, 158, 159, 160, 161, 162, 163, 164, 165, 166, 167, 168, 169, 170, 171, 172, 173, 174, 175, 176, 177, 178, 179, 180, 181, 182, 183, 184, 185, 186, 187, 188, 189, 190, 191, 192, 193, 194, 195, 196, 197, 198, 199, 200, 201, 202, 203, 204, 205, 206, 207, 208, 209, 210, 211, 212] (by decide +kernel) (by decide +kernel)
set_option maxRecDepth 20000 in
theorem gX11_answersTwo_X11_betweenOf : GoodIn wsX11_answersTwo (wsV RX11 345 RX11 yX11_betweenOf wsX11_betweenOf) := goodIn_app (goodIn_of _ (by decide +kernel)) ggX11_answersTwo_X11_betweenOf
theorem dX11_answersTwo_0 : decode cX11_answersTwo 0 = .ok (.aload_n 0, 1) := by decide +kernel
theorem dX11_answersTwo_1 : decode cX11_answersTwo 1 = .ok (.aload_n 0, 1) := by decide +kernel
theorem dX11_answersTwo_2 : decode cX11_answersTwo 2 = .ok (.getfield 170, 3) := by decide +kernel
theorem dX11_answersTwo_5 : decode cX11_answersTwo 5 = .ok (.iload_n 2, 1) := by decide +kernel
theorem dX11_answersTwo_6 : decode cX11_answersTwo 6 = .ok (.invokevirtual 360, 3) := by decide +kernel
theorem dX11_answersTwo_9 : decode cX11_answersTwo 9 = .ok (.istore_n 3, 1) := by decide +kernel
theorem dX11_answersTwo_10 : decode cX11_answersTwo 10 = .ok (.aload_n 0, 1) := by decide +kernel
theorem dX11_answersTwo_11 : decode cX11_answersTwo 11 = .ok (.iload_n 3, 1) := by decide +kernel
theorem dX11_answersTwo_12 : decode cX11_answersTwo 12 = .ok (.invokevirtual 363, 3) := by decide +kernel
theorem dX11_answersTwo_15 : decode cX11_answersTwo 15 = .ok (.istore 4, 2) := by decide +kernel
theorem dX11_answersTwo_17 : decode cX11_answersTwo 17 = .ok (.iload 4, 2) := by decide +kernel
theorem dX11_answersTwo_19 : decode cX11_answersTwo 19 = .ok (.ifCond .eq 21, 3) := by decide +kernel
theorem dX11_answersTwo_22 : decode cX11_answersTwo 22 = .ok (.iload_n 3, 1) := by decide +kernel
theorem dX11_answersTwo_23 : decode cX11_answersTwo 23 = .ok (.iload_n 2, 1) := by decide +kernel
theorem dX11_answersTwo_24 : decode cX11_answersTwo 24 = .ok (.if_icmp .ne 16, 3) := by decide +kernel
theorem dX11_answersTwo_27 : decode cX11_answersTwo 27 = .ok (.aload_n 0, 1) := by decide +kernel
theorem dX11_answersTwo_28 : decode cX11_answersTwo 28 = .ok (.iconst 1, 1) := by decide +kernel
theorem dX11_answersTwo_29 : decode cX11_answersTwo 29 = .ok (.putfield 356, 3) := by decide +kernel
theorem dX11_answersTwo_32 : decode cX11_answersTwo 32 = .ok (.aload_n 0, 1) := by decide +kernel
theorem dX11_answersTwo_33 : decode cX11_answersTwo 33 = .ok (.iconst 1, 1) := by decide +kernel
theorem dX11_answersTwo_34 : decode cX11_answersTwo 34 = .ok (.iload_n 2, 1) := by decide +kernel
theorem dX11_answersTwo_35 : decode cX11_answersTwo 35 = .ok (.invokevirtual 183, 3) := by decide +kernel
theorem dX11_answersTwo_38 : decode cX11_answersTwo 38 = .ok (.istore 4, 2) := by decide +kernel
theorem dX11_answersTwo_40 : decode cX11_answersTwo 40 = .ok (.aload_n 0, 1) := by decide +kernel
theorem dX11_answersTwo_41 : decode cX11_answersTwo 41 = .ok (.getfield 190, 3) := by decide +kernel
theorem dX11_answersTwo_44 : decode cX11_answersTwo 44 = .ok (.istore 5, 2) := by decide +kernel
theorem dX11_answersTwo_46 : decode cX11_answersTwo 46 = .ok (.aload_n 0, 1) := by decide +kernel
theorem dX11_answersTwo_47 : decode cX11_answersTwo 47 = .ok (.getfield 193, 3) := by decide +kernel
theorem dX11_answersTwo_50 : decode cX11_answersTwo 50 = .ok (.istore 6, 2) := by decide +kernel
theorem dX11_answersTwo_52 : decode cX11_answersTwo 52 = .ok (.aload_n 0, 1) := by decide +kernel
theorem dX11_answersTwo_53 : decode cX11_answersTwo 53 = .ok (.iload_n 3, 1) := by decide +kernel
theorem dX11_answersTwo_54 : decode cX11_answersTwo 54 = .ok (.iconst 1, 1) := by decide +kernel
theorem dX11_answersTwo_55 : decode cX11_answersTwo 55 = .ok (.iadd, 1) := by decide +kernel
theorem dX11_answersTwo_56 : decode cX11_answersTwo 56 = .ok (.putfield 170, 3) := by decide +kernel
theorem dX11_answersTwo_59 : decode cX11_answersTwo 59 = .ok (.iload 4, 2) := by decide +kernel
theorem dX11_answersTwo_61 : decode cX11_answersTwo 61 = .ok (.ifCond .eq 15, 3) := by decide +kernel
theorem dX11_answersTwo_64 : decode cX11_answersTwo 64 = .ok (.aload_n 0, 1) := by decide +kernel
theorem dX11_answersTwo_65 : decode cX11_answersTwo 65 = .ok (.iload_n 2, 1) := by decide +kernel
theorem dX11_answersTwo_66 : decode cX11_answersTwo 66 = .ok (.invokevirtual 363, 3) := by decide +kernel
theorem dX11_answersTwo_69 : decode cX11_answersTwo 69 = .ok (.ifCond .eq 7, 3) := by decide +kernel
theorem dX11_answersTwo_72 : decode cX11_answersTwo 72 = .ok (.iconst 1, 1) := by decide +kernel
theorem dX11_answersTwo_73 : decode cX11_answersTwo 73 = .ok (.goto 4, 3) := by decide +kernel
theorem dX11_answersTwo_76 : decode cX11_answersTwo 76 = .ok (.iconst 0, 1) := by decide +kernel
theorem dX11_answersTwo_77 : decode cX11_answersTwo 77 = .ok (.istore 4, 2) := by decide +kernel
theorem dX11_answersTwo_79 : decode cX11_answersTwo 79 = .ok (.aload_n 0, 1) := by decide +kernel
theorem dX11_answersTwo_80 : decode cX11_answersTwo 80 = .ok (.iload 4, 2) := by decide +kernel
theorem dX11_answersTwo_82 : decode cX11_answersTwo 82 = .ok (.aload_n 0, 1) := by decide +kernel
theorem dX11_answersTwo_83 : decode cX11_answersTwo 83 = .ok (.getfield 356, 3) := by decide +kernel
theorem dX11_answersTwo_86 : decode cX11_answersTwo 86 = .ok (.invokevirtual 216, 3) := by decide +kernel
theorem dX11_answersTwo_89 : decode cX11_answersTwo 89 = .ok (.ifCond .ne 8, 3) := by decide +kernel
theorem dX11_answersTwo_92 : decode cX11_answersTwo 92 = .ok (.aload_n 0, 1) := by decide +kernel
theorem dX11_answersTwo_93 : decode cX11_answersTwo 93 = .ok (.getfield 167, 3) := by decide +kernel
theorem dX11_answersTwo_96 : decode cX11_answersTwo 96 = .ok (.ireturn, 1) := by decide +kernel
theorem dX11_answersTwo_97 : decode cX11_answersTwo 97 = .ok (.iload 5, 2) := by decide +kernel
theorem dX11_answersTwo_99 : decode cX11_answersTwo 99 = .ok (.aload_n 0, 1) := by decide +kernel
theorem dX11_answersTwo_100 : decode cX11_answersTwo 100 = .ok (.getfield 190, 3) := by decide +kernel
theorem dX11_answersTwo_103 : decode cX11_answersTwo 103 = .ok (.if_icmp .eq 6, 3) := by decide +kernel
theorem dX11_answersTwo_106 : decode cX11_answersTwo 106 = .ok (.bipush (-2), 2) := by decide +kernel
theorem dX11_answersTwo_108 : decode cX11_answersTwo 108 = .ok (.ireturn, 1) := by decide +kernel
theorem dX11_answersTwo_109 : decode cX11_answersTwo 109 = .ok (.iload_n 1, 1) := by decide +kernel
theorem dX11_answersTwo_110 : decode cX11_answersTwo 110 = .ok (.ifCond .eq 18, 3) := by decide +kernel
theorem dX11_answersTwo_113 : decode cX11_answersTwo 113 = .ok (.aload_n 0, 1) := by decide +kernel
theorem dX11_answersTwo_114 : decode cX11_answersTwo 114 = .ok (.iload 5, 2) := by decide +kernel
theorem dX11_answersTwo_116 : decode cX11_answersTwo 116 = .ok (.iload 6, 2) := by decide +kernel
theorem dX11_answersTwo_118 : decode cX11_answersTwo 118 = .ok (.aload_n 0, 1) := by decide +kernel
theorem dX11_answersTwo_119 : decode cX11_answersTwo 119 = .ok (.getfield 193, 3) := by decide +kernel
theorem dX11_answersTwo_122 : decode cX11_answersTwo 122 = .ok (.invokevirtual 288, 3) := by decide +kernel
theorem dX11_answersTwo_125 : decode cX11_answersTwo 125 = .ok (.goto 15, 3) := by decide +kernel
theorem dX11_answersTwo_128 : decode cX11_answersTwo 128 = .ok (.aload_n 0, 1) := by decide +kernel
theorem dX11_answersTwo_129 : decode cX11_answersTwo 129 = .ok (.iload 5, 2) := by decide +kernel
theorem dX11_answersTwo_131 : decode cX11_answersTwo 131 = .ok (.iload 6, 2) := by decide +kernel
theorem dX11_answersTwo_133 : decode cX11_answersTwo 133 = .ok (.aload_n 0, 1) := by decide +kernel
theorem dX11_answersTwo_134 : decode cX11_answersTwo 134 = .ok (.getfield 193, 3) := by decide +kernel
theorem dX11_answersTwo_137 : decode cX11_answersTwo 137 = .ok (.invokevirtual 345, 3) := by decide +kernel
theorem dX11_answersTwo_140 : decode cX11_answersTwo 140 = .ok (.ireturn, 1) := by decide +kernel
set_option maxRecDepth 20000 in
theorem ggX11_answersOne_X11_readsUpTo : GoodIn wsX11_answersOne wsX11_readsUpTo := goodIn_r _ [13, 2, 1, 14, 15, 16, 12, 17, 18, 19, 20, 4, 5, 21, 22, 23, 24, 25, 26, 27, 28, 29, 30, 31, 32, 33, 34, 35, 36, 37, 38, 39, 40, 41, 42, 43, 44, 45, 46, 47, 48, 49, 50, 51, 52, 53, 54, 55, 56, 57, 58, 59, 60, 61, 62, 63, 64, 65, 66, 67, 106, 107, 108, 109, 110, 111, 112, 113, 114, 115, 116, 117, 118, 119, 120, 121, 122, 123, 124, 125, 126, 127, 128, 129, 130, 131, 132, 133, 134, 135, 136, 137, 138, 139, 140, 141, 142, 143, 144, 145, 146, 147] (by decide +kernel) (by decide +kernel)
set_option maxRecDepth 20000 in
theorem gX11_answersOne_X11_readsUpTo : GoodIn wsX11_answersOne (wsV RX11 363 RX11 yX11_readsUpTo wsX11_readsUpTo) := goodIn_app (goodIn_of _ (by decide +kernel)) ggX11_answersOne_X11_readsUpTo
set_option maxRecDepth 20000 in
theorem ggX11_answersOne_X11_counted : GoodIn wsX11_answersOne wsX11_counted := goodIn_r _ [71, 72, 73, 74, 75, 2, 106, 107, 108, 109, 110, 111, 112, 113, 114, 115, 116, 117, 118, 119, 120, 121, 122, 123, 124, 125, 126, 127, 128, 129, 130, 131, 132, 133, 134, 135, 136, 137, 138, 139, 140, 141, 142, 143, 144, 145, 146, 147] (by decide +kernel) (by decide +kernel)
set_option maxRecDepth 20000 in
theorem gX11_answersOne_X11_counted : GoodIn wsX11_answersOne (wsV RX11 216 RX11 yX11_counted wsX11_counted) := goodIn_app (goodIn_of _ (by decide +kernel)) ggX11_answersOne_X11_counted
set_option maxRecDepth 20000 in
theorem ggX11_answersOne_X11_parentOf : GoodIn wsX11_answersOne wsX11_parentOf := goodIn_r _ [79, 40, 41, 80, 81, 82, 12, 83, 36, 37, 38, 39, 42, 84, 85, 86, 87, 56, 57, 58, 59, 60, 61, 62, 63, 43, 44, 45, 88, 89, 90, 91, 52, 53, 54, 55, 64, 65, 66, 67, 106, 107, 108, 109, 110, 111, 112, 113, 114, 115, 116, 117, 118, 119, 120, 121, 122, 123, 124, 125, 126, 127, 128, 129, 130, 131, 132, 133, 134, 135, 136, 137, 138, 139, 140, 141, 142, 143, 144, 145, 146, 147] (by decide +kernel) (by decide +kernel)
set_option maxRecDepth 20000 in
theorem gX11_answersOne_X11_parentOf : GoodIn wsX11_answersOne (wsV RX11 254 RX11 yX11_parentOf wsX11_parentOf) := goodIn_app (goodIn_of _ (by decide +kernel)) ggX11_answersOne_X11_parentOf
set_option maxRecDepth 20000 in
theorem ggX11_answersOne_X11_besideFirst : GoodIn wsX11_answersOne wsX11_besideFirst := goodIn_r _ [95, 4, 5, 96, 97, 98, 99, 100, 12, 101, 84, 85, 86, 87, 40, 41, 42, 36, 37, 38, 39, 56, 57, 58, 59, 60, 61, 62, 63, 43, 44, 45, 88, 89, 90, 91, 52, 53, 54, 55, 64, 65, 66, 67, 102, 103, 104, 105, 33, 34, 35, 106, 107, 108, 109, 110, 111, 112, 113, 114, 115, 116, 117, 118, 119, 120, 121, 122, 123, 124, 125, 126, 127, 128, 129, 130, 131, 132, 133, 134, 135, 136, 137, 138, 139, 140, 141, 142, 143, 144, 145, 146, 147] (by decide +kernel) (by decide +kernel)
set_option maxRecDepth 20000 in
theorem gX11_answersOne_X11_besideFirst : GoodIn wsX11_answersOne (wsV RX11 374 RX11 yX11_besideFirst wsX11_besideFirst) := goodIn_app (goodIn_of _ (by decide +kernel)) ggX11_answersOne_X11_besideFirst
theorem dX11_answersOne_0 : decode cX11_answersOne 0 = .ok (.aload_n 0, 1) := by decide +kernel
theorem dX11_answersOne_1 : decode cX11_answersOne 1 = .ok (.iload_n 3, 1) := by decide +kernel
theorem dX11_answersOne_2 : decode cX11_answersOne 2 = .ok (.invokevirtual 363, 3) := by decide +kernel
theorem dX11_answersOne_5 : decode cX11_answersOne 5 = .ok (.istore 4, 2) := by decide +kernel
theorem dX11_answersOne_7 : decode cX11_answersOne 7 = .ok (.aload_n 0, 1) := by decide +kernel
theorem dX11_answersOne_8 : decode cX11_answersOne 8 = .ok (.iload 4, 2) := by decide +kernel
theorem dX11_answersOne_10 : decode cX11_answersOne 10 = .ok (.aload_n 0, 1) := by decide +kernel
theorem dX11_answersOne_11 : decode cX11_answersOne 11 = .ok (.getfield 356, 3) := by decide +kernel
theorem dX11_answersOne_14 : decode cX11_answersOne 14 = .ok (.invokevirtual 216, 3) := by decide +kernel
theorem dX11_answersOne_17 : decode cX11_answersOne 17 = .ok (.ifCond .ne 8, 3) := by decide +kernel
theorem dX11_answersOne_20 : decode cX11_answersOne 20 = .ok (.aload_n 0, 1) := by decide +kernel
theorem dX11_answersOne_21 : decode cX11_answersOne 21 = .ok (.getfield 167, 3) := by decide +kernel
theorem dX11_answersOne_24 : decode cX11_answersOne 24 = .ok (.ireturn, 1) := by decide +kernel
theorem dX11_answersOne_25 : decode cX11_answersOne 25 = .ok (.lload_n 1, 1) := by decide +kernel
theorem dX11_answersOne_26 : decode cX11_answersOne 26 = .ok (.ldc2_w 366, 3) := by decide +kernel
theorem dX11_answersOne_29 : decode cX11_answersOne 29 = .ok (.lcmp, 1) := by decide +kernel
theorem dX11_answersOne_30 : decode cX11_answersOne 30 = .ok (.ifCond .ne 34, 3) := by decide +kernel
theorem dX11_answersOne_33 : decode cX11_answersOne 33 = .ok (.aload_n 0, 1) := by decide +kernel
theorem dX11_answersOne_34 : decode cX11_answersOne 34 = .ok (.getfield 190, 3) := by decide +kernel
theorem dX11_answersOne_37 : decode cX11_answersOne 37 = .ok (.ifCond .ne 8, 3) := by decide +kernel
theorem dX11_answersOne_40 : decode cX11_answersOne 40 = .ok (.bipush (-2), 2) := by decide +kernel
theorem dX11_answersOne_42 : decode cX11_answersOne 42 = .ok (.goto 21, 3) := by decide +kernel
theorem dX11_answersOne_45 : decode cX11_answersOne 45 = .ok (.aload_n 0, 1) := by decide +kernel
theorem dX11_answersOne_46 : decode cX11_answersOne 46 = .ok (.aload_n 0, 1) := by decide +kernel
theorem dX11_answersOne_47 : decode cX11_answersOne 47 = .ok (.getfield 190, 3) := by decide +kernel
theorem dX11_answersOne_50 : decode cX11_answersOne 50 = .ok (.aload_n 0, 1) := by decide +kernel
theorem dX11_answersOne_51 : decode cX11_answersOne 51 = .ok (.getfield 193, 3) := by decide +kernel
theorem dX11_answersOne_54 : decode cX11_answersOne 54 = .ok (.aload_n 0, 1) := by decide +kernel
theorem dX11_answersOne_55 : decode cX11_answersOne 55 = .ok (.getfield 190, 3) := by decide +kernel
theorem dX11_answersOne_58 : decode cX11_answersOne 58 = .ok (.iconst 1, 1) := by decide +kernel
theorem dX11_answersOne_59 : decode cX11_answersOne 59 = .ok (.isub, 1) := by decide +kernel
theorem dX11_answersOne_60 : decode cX11_answersOne 60 = .ok (.invokevirtual 254, 3) := by decide +kernel
theorem dX11_answersOne_63 : decode cX11_answersOne 63 = .ok (.ireturn, 1) := by decide +kernel
theorem dX11_answersOne_64 : decode cX11_answersOne 64 = .ok (.aload_n 0, 1) := by decide +kernel
theorem dX11_answersOne_65 : decode cX11_answersOne 65 = .ok (.lload_n 1, 1) := by decide +kernel
theorem dX11_answersOne_66 : decode cX11_answersOne 66 = .ok (.ldc2_w 368, 3) := by decide +kernel
theorem dX11_answersOne_69 : decode cX11_answersOne 69 = .ok (.lcmp, 1) := by decide +kernel
theorem dX11_answersOne_70 : decode cX11_answersOne 70 = .ok (.ifCond .ne 7, 3) := by decide +kernel
theorem dX11_answersOne_73 : decode cX11_answersOne 73 = .ok (.iconst 0, 1) := by decide +kernel
theorem dX11_answersOne_74 : decode cX11_answersOne 74 = .ok (.goto 28, 3) := by decide +kernel
theorem dX11_answersOne_77 : decode cX11_answersOne 77 = .ok (.lload_n 1, 1) := by decide +kernel
theorem dX11_answersOne_78 : decode cX11_answersOne 78 = .ok (.ldc2_w 370, 3) := by decide +kernel
theorem dX11_answersOne_81 : decode cX11_answersOne 81 = .ok (.lcmp, 1) := by decide +kernel
theorem dX11_answersOne_82 : decode cX11_answersOne 82 = .ok (.ifCond .ne 7, 3) := by decide +kernel
theorem dX11_answersOne_85 : decode cX11_answersOne 85 = .ok (.iconst 1, 1) := by decide +kernel
theorem dX11_answersOne_86 : decode cX11_answersOne 86 = .ok (.goto 16, 3) := by decide +kernel
theorem dX11_answersOne_89 : decode cX11_answersOne 89 = .ok (.lload_n 1, 1) := by decide +kernel
theorem dX11_answersOne_90 : decode cX11_answersOne 90 = .ok (.ldc2_w 372, 3) := by decide +kernel
theorem dX11_answersOne_93 : decode cX11_answersOne 93 = .ok (.lcmp, 1) := by decide +kernel
theorem dX11_answersOne_94 : decode cX11_answersOne 94 = .ok (.ifCond .ne 7, 3) := by decide +kernel
theorem dX11_answersOne_97 : decode cX11_answersOne 97 = .ok (.iconst 2, 1) := by decide +kernel
theorem dX11_answersOne_98 : decode cX11_answersOne 98 = .ok (.goto 4, 3) := by decide +kernel
theorem dX11_answersOne_101 : decode cX11_answersOne 101 = .ok (.iconst 3, 1) := by decide +kernel
theorem dX11_answersOne_102 : decode cX11_answersOne 102 = .ok (.invokevirtual 374, 3) := by decide +kernel
theorem dX11_answersOne_105 : decode cX11_answersOne 105 = .ok (.ireturn, 1) := by decide +kernel
set_option maxRecDepth 20000 in
theorem ggX11_ask_X11_in : GoodIn wsX11_ask wsX11_in := goodIn_r _ [16] (by decide +kernel) (by decide +kernel)
set_option maxRecDepth 20000 in
theorem gX11_ask_X11_in : GoodIn wsX11_ask (va_wsS RX11 72 yX11_in wsX11_in) := goodIn_app (goodIn_of _ (by decide +kernel)) ggX11_ask_X11_in
set_option maxRecDepth 20000 in
theorem ggX11_ask_X11_blankFrom : GoodIn wsX11_ask wsX11_blankFrom := goodIn_r _ [20, 21, 204, 205, 206, 207, 208, 209, 210, 211, 212, 213, 214, 215, 216, 217, 218, 219, 220, 221, 222, 223, 224, 225, 226, 227, 228, 229, 230, 231, 232, 233, 234, 235, 236, 237, 238, 239, 240, 241, 242, 243, 244, 245] (by decide +kernel) (by decide +kernel)
set_option maxRecDepth 20000 in
theorem gX11_ask_X11_blankFrom : GoodIn wsX11_ask (wsV RX11 360 RX11 yX11_blankFrom wsX11_blankFrom) := goodIn_app (goodIn_of _ (by decide +kernel)) ggX11_ask_X11_blankFrom
set_option maxRecDepth 20000 in
theorem ggX11_ask_X11_wrong : GoodIn wsX11_ask wsX11_wrong := goodIn_r _ [25, 3, 204, 205, 206, 207, 208, 209, 210, 211, 212, 213, 214, 215, 216, 217, 218, 219, 220, 221, 222, 223, 224, 225, 226, 227, 228, 229, 230, 231, 232, 233, 234, 235, 236, 237, 238, 239, 240, 241, 242, 243, 244, 245] (by decide +kernel) (by decide +kernel)
set_option maxRecDepth 20000 in
theorem gX11_ask_X11_wrong : GoodIn wsX11_ask (wsV RX11 183 RX11 yX11_wrong wsX11_wrong) := goodIn_app (goodIn_of _ (by decide +kernel)) ggX11_ask_X11_wrong
set_option maxRecDepth 20000 in
theorem ggX11_ask_X11_counted : GoodIn wsX11_ask wsX11_counted := goodIn_r _ [29, 30, 31, 32, 33, 3, 204, 205, 206, 207, 208, 209, 210, 211, 212, 213, 214, 215, 216, 217, 218, 219, 220, 221, 222, 223, 224, 225, 226, 227, 228, 229, 230, 231, 232, 233, 234, 235, 236, 237, 238, 239, 240, 241, 242, 243, 244, 245] (by decide +kernel) (by decide +kernel)
set_option maxRecDepth 20000 in
theorem gX11_ask_X11_counted : GoodIn wsX11_ask (wsV RX11 216 RX11 yX11_counted wsX11_counted) := goodIn_app (goodIn_of _ (by decide +kernel)) ggX11_ask_X11_counted
set_option maxRecDepth 20000 in
theorem ggX11_ask_X11_wordTo : GoodIn wsX11_ask wsX11_wordTo := goodIn_r _ [37, 21, 38, 39, 40, 41, 13, 14, 15, 16, 204, 205, 206, 207, 208, 209, 210, 211, 212, 213, 214, 215, 216, 217, 218, 219, 220, 221, 222, 223, 224, 225, 226, 227, 228, 229, 230, 231, 232, 233, 234, 235, 236, 237, 238, 239, 240, 241, 242, 243, 244, 245] (by decide +kernel) (by decide +kernel)
set_option maxRecDepth 20000 in
theorem gX11_ask_X11_wordTo : GoodIn wsX11_ask (wsV RX11 379 RX11 yX11_wordTo wsX11_wordTo) := goodIn_app (goodIn_of _ (by decide +kernel)) ggX11_ask_X11_wordTo
set_option maxRecDepth 20000 in
theorem ggX11_ask_X11_answersTwo : GoodIn wsX11_ask wsX11_answersTwo := goodIn_r _ [45, 12, 4, 46, 47, 3, 17, 18, 19, 15, 20, 21, 48, 49, 50, 51, 52, 53, 54, 55, 56, 57, 58, 59, 60, 61, 62, 63, 64, 22, 23, 24, 25, 13, 14, 16, 65, 66, 67, 68, 69, 70, 71, 72, 73, 74, 75, 76, 77, 78, 79, 80, 81, 82, 83, 84, 85, 86, 87, 88, 89, 90, 91, 92, 93, 94, 95, 96, 26, 27, 28, 29, 30, 31, 32, 33, 97, 98, 99, 100, 101, 102, 103, 104, 105, 106, 107, 108, 109, 110, 111, 112, 113, 114, 115, 116, 117, 118, 119, 120, 121, 122, 123, 124, 125, 126, 127, 128, 129, 130, 131, 132, 133, 134, 135, 136, 137, 138, 139, 140, 141, 142, 143, 144, 145, 146, 147, 148, 149, 150, 151, 152, 153, 154, 155, 156, 157, 158, 159, 160, 161, 162, 163, 164, 165, 166, 167, 168, 169, 170, 171, 172, 173, 174, 175, 176, 177, 178, 179, 180, 181, 182, 183, 184, 185, 186, 187, 188, 189, 190, 191, 204, 205, 206, 207, 208, 209, 210, 211, 212, 213, 214, 215, 216, 217, 218, 219, 220, 221, 222, 223, 224, 225, 226, 227, 228, 229, 230, 231, 232, 233, 234, 235, 236, 237, 238, 239, 240, 241, 242, 243, 244, 245] (by decide +kernel) (by decide +kernel)
set_option maxRecDepth 20000 in
theorem gX11_ask_X11_answersTwo : GoodIn wsX11_ask (wsV RX11 389 RX11 yX11_answersTwo wsX11_answersTwo) := goodIn_app (goodIn_of _ (by decide +kernel)) ggX11_ask_X11_answersTwo
set_option maxRecDepth 20000 in
theorem ggX11_ask_X11_answersOne : GoodIn wsX11_ask wsX11_answersOne := goodIn_r _ [195, 4, 3, 11, 46, 47, 7, 8, 9, 48, 49, 50, 15, 51, 52, 53, 54, 55, 12, 56, 57, 58, 59, 60, 61, 62, 63, 64, 21, 22, 23, 24, 25, 13, 14, 16, 65, 66, 67, 68, 69, 70, 71, 72, 73, 74, 75, 76, 77, 78, 79, 80, 81, 82, 83, 84, 85, 86, 87, 88, 89, 90, 91, 92, 93, 94, 95, 96, 26, 27, 28, 29, 30, 31, 32, 33, 196, 197, 198, 199, 148, 149, 150, 151, 122, 123, 124, 125, 126, 127, 128, 129, 200, 201, 202, 203, 112, 113, 118, 119, 120, 121, 130, 131, 132, 133, 204, 205, 206, 207, 208, 209, 210, 211, 212, 213, 214, 215, 216, 217, 218, 219, 220, 221, 222, 223, 224, 225, 226, 227, 228, 229, 230, 231, 232, 233, 234, 235, 236, 237, 238, 239, 240, 241, 242, 243, 244, 245] (by decide +kernel) (by decide +kernel)
set_option maxRecDepth 20000 in
theorem gX11_ask_X11_answersOne : GoodIn wsX11_ask (wsV RX11 393 RX11 yX11_answersOne wsX11_answersOne) := goodIn_app (goodIn_of _ (by decide +kernel)) ggX11_ask_X11_answersOne
theorem dX11_ask_0 : decode cX11_ask 0 = .ok (.iload_n 1, 1) := by decide +kernel
theorem dX11_ask_1 : decode cX11_ask 1 = .ok (.i2l, 1) := by decide +kernel
theorem dX11_ask_2 : decode cX11_ask 2 = .ok (.lconst 1, 1) := by decide +kernel
theorem dX11_ask_3 : decode cX11_ask 3 = .ok (.ldc2_w 377, 3) := by decide +kernel
theorem dX11_ask_6 : decode cX11_ask 6 = .ok (.invokestatic 72, 3) := by decide +kernel
theorem dX11_ask_9 : decode cX11_ask 9 = .ok (.ifCond .eq 11, 3) := by decide +kernel
theorem dX11_ask_12 : decode cX11_ask 12 = .ok (.iload_n 1, 1) := by decide +kernel
theorem dX11_ask_13 : decode cX11_ask 13 = .ok (.aload_n 0, 1) := by decide +kernel
theorem dX11_ask_14 : decode cX11_ask 14 = .ok (.getfield 160, 3) := by decide +kernel
theorem dX11_ask_17 : decode cX11_ask 17 = .ok (.if_icmp .le 5, 3) := by decide +kernel
theorem dX11_ask_20 : decode cX11_ask 20 = .ok (.iconst (-1), 1) := by decide +kernel
theorem dX11_ask_21 : decode cX11_ask 21 = .ok (.ireturn, 1) := by decide +kernel
theorem dX11_ask_22 : decode cX11_ask 22 = .ok (.aload_n 0, 1) := by decide +kernel
theorem dX11_ask_23 : decode cX11_ask 23 = .ok (.iconst 0, 1) := by decide +kernel
theorem dX11_ask_24 : decode cX11_ask 24 = .ok (.putfield 160, 3) := by decide +kernel
theorem dX11_ask_27 : decode cX11_ask 27 = .ok (.aload_n 0, 1) := by decide +kernel
theorem dX11_ask_28 : decode cX11_ask 28 = .ok (.iconst 0, 1) := by decide +kernel
theorem dX11_ask_29 : decode cX11_ask 29 = .ok (.putfield 167, 3) := by decide +kernel
theorem dX11_ask_32 : decode cX11_ask 32 = .ok (.aload_n 0, 1) := by decide +kernel
theorem dX11_ask_33 : decode cX11_ask 33 = .ok (.iconst 0, 1) := by decide +kernel
theorem dX11_ask_34 : decode cX11_ask 34 = .ok (.putfield 356, 3) := by decide +kernel
theorem dX11_ask_37 : decode cX11_ask 37 = .ok (.aload_n 0, 1) := by decide +kernel
theorem dX11_ask_38 : decode cX11_ask 38 = .ok (.iconst 0, 1) := by decide +kernel
theorem dX11_ask_39 : decode cX11_ask 39 = .ok (.iload_n 1, 1) := by decide +kernel
theorem dX11_ask_40 : decode cX11_ask 40 = .ok (.invokevirtual 360, 3) := by decide +kernel
theorem dX11_ask_43 : decode cX11_ask 43 = .ok (.istore_n 2, 1) := by decide +kernel
theorem dX11_ask_44 : decode cX11_ask 44 = .ok (.iload_n 2, 1) := by decide +kernel
theorem dX11_ask_45 : decode cX11_ask 45 = .ok (.iload_n 1, 1) := by decide +kernel
theorem dX11_ask_46 : decode cX11_ask 46 = .ok (.if_icmp .lt 12, 3) := by decide +kernel
theorem dX11_ask_49 : decode cX11_ask 49 = .ok (.aload_n 0, 1) := by decide +kernel
theorem dX11_ask_50 : decode cX11_ask 50 = .ok (.iconst 1, 1) := by decide +kernel
theorem dX11_ask_51 : decode cX11_ask 51 = .ok (.iload_n 1, 1) := by decide +kernel
theorem dX11_ask_52 : decode cX11_ask 52 = .ok (.invokevirtual 183, 3) := by decide +kernel
theorem dX11_ask_55 : decode cX11_ask 55 = .ok (.ifCond .eq 7, 3) := by decide +kernel
theorem dX11_ask_58 : decode cX11_ask 58 = .ok (.iconst 1, 1) := by decide +kernel
theorem dX11_ask_59 : decode cX11_ask 59 = .ok (.goto 4, 3) := by decide +kernel
theorem dX11_ask_62 : decode cX11_ask 62 = .ok (.iconst 0, 1) := by decide +kernel
theorem dX11_ask_63 : decode cX11_ask 63 = .ok (.istore_n 3, 1) := by decide +kernel
theorem dX11_ask_64 : decode cX11_ask 64 = .ok (.iload_n 3, 1) := by decide +kernel
theorem dX11_ask_65 : decode cX11_ask 65 = .ok (.ifCond .ne 15, 3) := by decide +kernel
theorem dX11_ask_68 : decode cX11_ask 68 = .ok (.aload_n 0, 1) := by decide +kernel
theorem dX11_ask_69 : decode cX11_ask 69 = .ok (.iconst 0, 1) := by decide +kernel
theorem dX11_ask_70 : decode cX11_ask 70 = .ok (.iconst 1, 1) := by decide +kernel
theorem dX11_ask_71 : decode cX11_ask 71 = .ok (.invokevirtual 216, 3) := by decide +kernel
theorem dX11_ask_74 : decode cX11_ask 74 = .ok (.istore_n 3, 1) := by decide +kernel
theorem dX11_ask_75 : decode cX11_ask 75 = .ok (.aload_n 0, 1) := by decide +kernel
theorem dX11_ask_76 : decode cX11_ask 76 = .ok (.getfield 167, 3) := by decide +kernel
theorem dX11_ask_79 : decode cX11_ask 79 = .ok (.ireturn, 1) := by decide +kernel
theorem dX11_ask_80 : decode cX11_ask 80 = .ok (.aload_n 0, 1) := by decide +kernel
theorem dX11_ask_81 : decode cX11_ask 81 = .ok (.iload_n 2, 1) := by decide +kernel
theorem dX11_ask_82 : decode cX11_ask 82 = .ok (.invokevirtual 379, 3) := by decide +kernel
theorem dX11_ask_85 : decode cX11_ask 85 = .ok (.lstore 4, 2) := by decide +kernel
theorem dX11_ask_87 : decode cX11_ask 87 = .ok (.lload 4, 2) := by decide +kernel
theorem dX11_ask_89 : decode cX11_ask 89 = .ok (.ldc2_w 383, 3) := by decide +kernel
theorem dX11_ask_92 : decode cX11_ask 92 = .ok (.lcmp, 1) := by decide +kernel
theorem dX11_ask_93 : decode cX11_ask 93 = .ok (.ifCond .eq 12, 3) := by decide +kernel
theorem dX11_ask_96 : decode cX11_ask 96 = .ok (.lload 4, 2) := by decide +kernel
theorem dX11_ask_98 : decode cX11_ask 98 = .ok (.ldc2_w 385, 3) := by decide +kernel
theorem dX11_ask_101 : decode cX11_ask 101 = .ok (.lcmp, 1) := by decide +kernel
theorem dX11_ask_102 : decode cX11_ask 102 = .ok (.ifCond .ne 7, 3) := by decide +kernel
theorem dX11_ask_105 : decode cX11_ask 105 = .ok (.iconst 1, 1) := by decide +kernel
theorem dX11_ask_106 : decode cX11_ask 106 = .ok (.goto 4, 3) := by decide +kernel
theorem dX11_ask_109 : decode cX11_ask 109 = .ok (.iconst 0, 1) := by decide +kernel
theorem dX11_ask_110 : decode cX11_ask 110 = .ok (.istore 6, 2) := by decide +kernel
theorem dX11_ask_112 : decode cX11_ask 112 = .ok (.lload 4, 2) := by decide +kernel
theorem dX11_ask_114 : decode cX11_ask 114 = .ok (.ldc2_w 368, 3) := by decide +kernel
theorem dX11_ask_117 : decode cX11_ask 117 = .ok (.lcmp, 1) := by decide +kernel
theorem dX11_ask_118 : decode cX11_ask 118 = .ok (.ifCond .eq 39, 3) := by decide +kernel
theorem dX11_ask_121 : decode cX11_ask 121 = .ok (.lload 4, 2) := by decide +kernel
theorem dX11_ask_123 : decode cX11_ask 123 = .ok (.ldc2_w 370, 3) := by decide +kernel
theorem dX11_ask_126 : decode cX11_ask 126 = .ok (.lcmp, 1) := by decide +kernel
theorem dX11_ask_127 : decode cX11_ask 127 = .ok (.ifCond .eq 30, 3) := by decide +kernel
theorem dX11_ask_130 : decode cX11_ask 130 = .ok (.lload 4, 2) := by decide +kernel
theorem dX11_ask_132 : decode cX11_ask 132 = .ok (.ldc2_w 372, 3) := by decide +kernel
theorem dX11_ask_135 : decode cX11_ask 135 = .ok (.lcmp, 1) := by decide +kernel
theorem dX11_ask_136 : decode cX11_ask 136 = .ok (.ifCond .eq 21, 3) := by decide +kernel
theorem dX11_ask_139 : decode cX11_ask 139 = .ok (.lload 4, 2) := by decide +kernel
theorem dX11_ask_141 : decode cX11_ask 141 = .ok (.ldc2_w 387, 3) := by decide +kernel
theorem dX11_ask_144 : decode cX11_ask 144 = .ok (.lcmp, 1) := by decide +kernel
theorem dX11_ask_145 : decode cX11_ask 145 = .ok (.ifCond .eq 12, 3) := by decide +kernel
theorem dX11_ask_148 : decode cX11_ask 148 = .ok (.lload 4, 2) := by decide +kernel
theorem dX11_ask_150 : decode cX11_ask 150 = .ok (.ldc2_w 366, 3) := by decide +kernel
theorem dX11_ask_153 : decode cX11_ask 153 = .ok (.lcmp, 1) := by decide +kernel
theorem dX11_ask_154 : decode cX11_ask 154 = .ok (.ifCond .ne 7, 3) := by decide +kernel
theorem dX11_ask_157 : decode cX11_ask 157 = .ok (.iconst 1, 1) := by decide +kernel
theorem dX11_ask_158 : decode cX11_ask 158 = .ok (.goto 4, 3) := by decide +kernel
theorem dX11_ask_161 : decode cX11_ask 161 = .ok (.iconst 0, 1) := by decide +kernel
theorem dX11_ask_162 : decode cX11_ask 162 = .ok (.istore 7, 2) := by decide +kernel
theorem dX11_ask_164 : decode cX11_ask 164 = .ok (.iload 6, 2) := by decide +kernel
theorem dX11_ask_166 : decode cX11_ask 166 = .ok (.ifCond .ne 27, 3) := by decide +kernel
theorem dX11_ask_169 : decode cX11_ask 169 = .ok (.iload 7, 2) := by decide +kernel
theorem dX11_ask_171 : decode cX11_ask 171 = .ok (.ifCond .ne 22, 3) := by decide +kernel
theorem dX11_ask_174 : decode cX11_ask 174 = .ok (.aload_n 0, 1) := by decide +kernel
theorem dX11_ask_175 : decode cX11_ask 175 = .ok (.iconst 1, 1) := by decide +kernel
theorem dX11_ask_176 : decode cX11_ask 176 = .ok (.iconst 0, 1) := by decide +kernel
theorem dX11_ask_177 : decode cX11_ask 177 = .ok (.invokevirtual 183, 3) := by decide +kernel
theorem dX11_ask_180 : decode cX11_ask 180 = .ok (.istore_n 3, 1) := by decide +kernel
theorem dX11_ask_181 : decode cX11_ask 181 = .ok (.aload_n 0, 1) := by decide +kernel
theorem dX11_ask_182 : decode cX11_ask 182 = .ok (.iconst 0, 1) := by decide +kernel
theorem dX11_ask_183 : decode cX11_ask 183 = .ok (.iconst 0, 1) := by decide +kernel
theorem dX11_ask_184 : decode cX11_ask 184 = .ok (.invokevirtual 216, 3) := by decide +kernel
theorem dX11_ask_187 : decode cX11_ask 187 = .ok (.istore_n 3, 1) := by decide +kernel
theorem dX11_ask_188 : decode cX11_ask 188 = .ok (.aload_n 0, 1) := by decide +kernel
theorem dX11_ask_189 : decode cX11_ask 189 = .ok (.getfield 167, 3) := by decide +kernel
theorem dX11_ask_192 : decode cX11_ask 192 = .ok (.ireturn, 1) := by decide +kernel
theorem dX11_ask_193 : decode cX11_ask 193 = .ok (.aload_n 0, 1) := by decide +kernel
theorem dX11_ask_194 : decode cX11_ask 194 = .ok (.iload_n 2, 1) := by decide +kernel
theorem dX11_ask_195 : decode cX11_ask 195 = .ok (.iconst 1, 1) := by decide +kernel
theorem dX11_ask_196 : decode cX11_ask 196 = .ok (.iadd, 1) := by decide +kernel
theorem dX11_ask_197 : decode cX11_ask 197 = .ok (.putfield 170, 3) := by decide +kernel
theorem dX11_ask_200 : decode cX11_ask 200 = .ok (.iload 6, 2) := by decide +kernel
theorem dX11_ask_202 : decode cX11_ask 202 = .ok (.ifCond .eq 25, 3) := by decide +kernel
theorem dX11_ask_205 : decode cX11_ask 205 = .ok (.aload_n 0, 1) := by decide +kernel
theorem dX11_ask_206 : decode cX11_ask 206 = .ok (.lload 4, 2) := by decide +kernel
theorem dX11_ask_208 : decode cX11_ask 208 = .ok (.ldc2_w 383, 3) := by decide +kernel
theorem dX11_ask_211 : decode cX11_ask 211 = .ok (.lcmp, 1) := by decide +kernel
theorem dX11_ask_212 : decode cX11_ask 212 = .ok (.ifCond .ne 7, 3) := by decide +kernel
theorem dX11_ask_215 : decode cX11_ask 215 = .ok (.iconst 1, 1) := by decide +kernel
theorem dX11_ask_216 : decode cX11_ask 216 = .ok (.goto 4, 3) := by decide +kernel
theorem dX11_ask_219 : decode cX11_ask 219 = .ok (.iconst 0, 1) := by decide +kernel
theorem dX11_ask_220 : decode cX11_ask 220 = .ok (.iload_n 1, 1) := by decide +kernel
theorem dX11_ask_221 : decode cX11_ask 221 = .ok (.invokevirtual 389, 3) := by decide +kernel
theorem dX11_ask_224 : decode cX11_ask 224 = .ok (.goto 10, 3) := by decide +kernel
theorem dX11_ask_227 : decode cX11_ask 227 = .ok (.aload_n 0, 1) := by decide +kernel
theorem dX11_ask_228 : decode cX11_ask 228 = .ok (.lload 4, 2) := by decide +kernel
theorem dX11_ask_230 : decode cX11_ask 230 = .ok (.iload_n 1, 1) := by decide +kernel
theorem dX11_ask_231 : decode cX11_ask 231 = .ok (.invokevirtual 393, 3) := by decide +kernel
theorem dX11_ask_234 : decode cX11_ask 234 = .ok (.ireturn, 1) := by decide +kernel
theorem dX11_slotOf_0 : decode cX11_slotOf 0 = .ok (.iconst 0, 1) := by decide +kernel
theorem dX11_slotOf_1 : decode cX11_slotOf 1 = .ok (.istore_n 3, 1) := by decide +kernel
theorem dX11_slotOf_2 : decode cX11_slotOf 2 = .ok (.iload_n 3, 1) := by decide +kernel
theorem dX11_slotOf_3 : decode cX11_slotOf 3 = .ok (.aload_n 0, 1) := by decide +kernel
theorem dX11_slotOf_4 : decode cX11_slotOf 4 = .ok (.getfield 123, 3) := by decide +kernel
theorem dX11_slotOf_7 : decode cX11_slotOf 7 = .ok (.if_icmp .ge 40, 3) := by decide +kernel
theorem dX11_slotOf_10 : decode cX11_slotOf 10 = .ok (.aload_n 0, 1) := by decide +kernel
theorem dX11_slotOf_11 : decode cX11_slotOf 11 = .ok (.getfield 45, 3) := by decide +kernel
theorem dX11_slotOf_14 : decode cX11_slotOf 14 = .ok (.iload_n 3, 1) := by decide +kernel
theorem dX11_slotOf_15 : decode cX11_slotOf 15 = .ok (.iaload, 1) := by decide +kernel
theorem dX11_slotOf_16 : decode cX11_slotOf 16 = .ok (.iload_n 1, 1) := by decide +kernel
theorem dX11_slotOf_17 : decode cX11_slotOf 17 = .ok (.if_icmp .lt 23, 3) := by decide +kernel
theorem dX11_slotOf_20 : decode cX11_slotOf 20 = .ok (.aload_n 0, 1) := by decide +kernel
theorem dX11_slotOf_21 : decode cX11_slotOf 21 = .ok (.getfield 45, 3) := by decide +kernel
theorem dX11_slotOf_24 : decode cX11_slotOf 24 = .ok (.iload_n 3, 1) := by decide +kernel
theorem dX11_slotOf_25 : decode cX11_slotOf 25 = .ok (.iaload, 1) := by decide +kernel
theorem dX11_slotOf_26 : decode cX11_slotOf 26 = .ok (.iload_n 1, 1) := by decide +kernel
theorem dX11_slotOf_27 : decode cX11_slotOf 27 = .ok (.if_icmp .ne 20, 3) := by decide +kernel
theorem dX11_slotOf_30 : decode cX11_slotOf 30 = .ok (.aload_n 0, 1) := by decide +kernel
theorem dX11_slotOf_31 : decode cX11_slotOf 31 = .ok (.getfield 48, 3) := by decide +kernel
theorem dX11_slotOf_34 : decode cX11_slotOf 34 = .ok (.iload_n 3, 1) := by decide +kernel
theorem dX11_slotOf_35 : decode cX11_slotOf 35 = .ok (.iaload, 1) := by decide +kernel
theorem dX11_slotOf_36 : decode cX11_slotOf 36 = .ok (.iload_n 2, 1) := by decide +kernel
theorem dX11_slotOf_37 : decode cX11_slotOf 37 = .ok (.if_icmp .ge 10, 3) := by decide +kernel
theorem dX11_slotOf_40 : decode cX11_slotOf 40 = .ok (.iload_n 3, 1) := by decide +kernel
theorem dX11_slotOf_41 : decode cX11_slotOf 41 = .ok (.iconst 1, 1) := by decide +kernel
theorem dX11_slotOf_42 : decode cX11_slotOf 42 = .ok (.iadd, 1) := by decide +kernel
theorem dX11_slotOf_43 : decode cX11_slotOf 43 = .ok (.istore_n 3, 1) := by decide +kernel
theorem dX11_slotOf_44 : decode cX11_slotOf 44 = .ok (.goto (-42), 3) := by decide +kernel
theorem dX11_slotOf_47 : decode cX11_slotOf 47 = .ok (.iload_n 3, 1) := by decide +kernel
theorem dX11_slotOf_48 : decode cX11_slotOf 48 = .ok (.ireturn, 1) := by decide +kernel
theorem dX11_isPiece_0 : decode cX11_isPiece 0 = .ok (.iload_n 1, 1) := by decide +kernel
theorem dX11_isPiece_1 : decode cX11_isPiece 1 = .ok (.aload_n 0, 1) := by decide +kernel
theorem dX11_isPiece_2 : decode cX11_isPiece 2 = .ok (.getfield 123, 3) := by decide +kernel
theorem dX11_isPiece_5 : decode cX11_isPiece 5 = .ok (.if_icmp .ge 27, 3) := by decide +kernel
theorem dX11_isPiece_8 : decode cX11_isPiece 8 = .ok (.aload_n 0, 1) := by decide +kernel
theorem dX11_isPiece_9 : decode cX11_isPiece 9 = .ok (.getfield 45, 3) := by decide +kernel
theorem dX11_isPiece_12 : decode cX11_isPiece 12 = .ok (.iload_n 1, 1) := by decide +kernel
theorem dX11_isPiece_13 : decode cX11_isPiece 13 = .ok (.iaload, 1) := by decide +kernel
theorem dX11_isPiece_14 : decode cX11_isPiece 14 = .ok (.iload_n 2, 1) := by decide +kernel
theorem dX11_isPiece_15 : decode cX11_isPiece 15 = .ok (.if_icmp .ne 17, 3) := by decide +kernel
theorem dX11_isPiece_18 : decode cX11_isPiece 18 = .ok (.aload_n 0, 1) := by decide +kernel
theorem dX11_isPiece_19 : decode cX11_isPiece 19 = .ok (.getfield 48, 3) := by decide +kernel
theorem dX11_isPiece_22 : decode cX11_isPiece 22 = .ok (.iload_n 1, 1) := by decide +kernel
theorem dX11_isPiece_23 : decode cX11_isPiece 23 = .ok (.iaload, 1) := by decide +kernel
theorem dX11_isPiece_24 : decode cX11_isPiece 24 = .ok (.iload_n 3, 1) := by decide +kernel
theorem dX11_isPiece_25 : decode cX11_isPiece 25 = .ok (.if_icmp .ne 7, 3) := by decide +kernel
theorem dX11_isPiece_28 : decode cX11_isPiece 28 = .ok (.iconst 1, 1) := by decide +kernel
theorem dX11_isPiece_29 : decode cX11_isPiece 29 = .ok (.goto 4, 3) := by decide +kernel
theorem dX11_isPiece_32 : decode cX11_isPiece 32 = .ok (.iconst 0, 1) := by decide +kernel
theorem dX11_isPiece_33 : decode cX11_isPiece 33 = .ok (.ireturn, 1) := by decide +kernel
theorem dX11_puts_0 : decode cX11_puts 0 = .ok (.aload_n 0, 1) := by decide +kernel
theorem dX11_puts_1 : decode cX11_puts 1 = .ok (.getfield 45, 3) := by decide +kernel
theorem dX11_puts_4 : decode cX11_puts 4 = .ok (.iload_n 1, 1) := by decide +kernel
theorem dX11_puts_5 : decode cX11_puts 5 = .ok (.iload_n 2, 1) := by decide +kernel
theorem dX11_puts_6 : decode cX11_puts 6 = .ok (.iastore, 1) := by decide +kernel
theorem dX11_puts_7 : decode cX11_puts 7 = .ok (.aload_n 0, 1) := by decide +kernel
theorem dX11_puts_8 : decode cX11_puts 8 = .ok (.getfield 48, 3) := by decide +kernel
theorem dX11_puts_11 : decode cX11_puts 11 = .ok (.iload_n 1, 1) := by decide +kernel
theorem dX11_puts_12 : decode cX11_puts 12 = .ok (.iload_n 3, 1) := by decide +kernel
theorem dX11_puts_13 : decode cX11_puts 13 = .ok (.iastore, 1) := by decide +kernel
theorem dX11_puts_14 : decode cX11_puts 14 = .ok (.aload_n 0, 1) := by decide +kernel
theorem dX11_puts_15 : decode cX11_puts 15 = .ok (.getfield 51, 3) := by decide +kernel
theorem dX11_puts_18 : decode cX11_puts 18 = .ok (.iload_n 1, 1) := by decide +kernel
theorem dX11_puts_19 : decode cX11_puts 19 = .ok (.iload 4, 2) := by decide +kernel
theorem dX11_puts_21 : decode cX11_puts 21 = .ok (.iastore, 1) := by decide +kernel
theorem dX11_puts_22 : decode cX11_puts 22 = .ok (.return_, 1) := by decide +kernel
set_option maxRecDepth 20000 in
theorem ggX11_removes_X11_puts : GoodIn wsX11_removes wsX11_puts := goodIn_r _ [9, 2, 3, 4, 10, 11, 12, 13, 14, 15, 16, 17, 18, 19, 20, 21, 22, 23, 24, 25, 26, 27, 28, 29, 30, 31, 32, 33, 34, 35, 36, 37, 38, 39, 40, 41, 42, 43, 44, 45, 46, 47, 48, 49, 50, 51] (by decide +kernel) (by decide +kernel)
set_option maxRecDepth 20000 in
theorem gX11_removes_X11_puts : GoodIn wsX11_removes (wsV RX11 397 RX11 yX11_puts wsX11_puts) := goodIn_app (goodIn_of _ (by decide +kernel)) ggX11_removes_X11_puts
theorem dX11_removes_0 : decode cX11_removes 0 = .ok (.aload_n 0, 1) := by decide +kernel
theorem dX11_removes_1 : decode cX11_removes 1 = .ok (.aload_n 0, 1) := by decide +kernel
theorem dX11_removes_2 : decode cX11_removes 2 = .ok (.getfield 123, 3) := by decide +kernel
theorem dX11_removes_5 : decode cX11_removes 5 = .ok (.iconst 1, 1) := by decide +kernel
theorem dX11_removes_6 : decode cX11_removes 6 = .ok (.isub, 1) := by decide +kernel
theorem dX11_removes_7 : decode cX11_removes 7 = .ok (.putfield 123, 3) := by decide +kernel
theorem dX11_removes_10 : decode cX11_removes 10 = .ok (.iload_n 1, 1) := by decide +kernel
theorem dX11_removes_11 : decode cX11_removes 11 = .ok (.istore_n 2, 1) := by decide +kernel
theorem dX11_removes_12 : decode cX11_removes 12 = .ok (.iload_n 2, 1) := by decide +kernel
theorem dX11_removes_13 : decode cX11_removes 13 = .ok (.aload_n 0, 1) := by decide +kernel
theorem dX11_removes_14 : decode cX11_removes 14 = .ok (.getfield 123, 3) := by decide +kernel
theorem dX11_removes_17 : decode cX11_removes 17 = .ok (.if_icmp .ge 38, 3) := by decide +kernel
theorem dX11_removes_20 : decode cX11_removes 20 = .ok (.aload_n 0, 1) := by decide +kernel
theorem dX11_removes_21 : decode cX11_removes 21 = .ok (.iload_n 2, 1) := by decide +kernel
theorem dX11_removes_22 : decode cX11_removes 22 = .ok (.aload_n 0, 1) := by decide +kernel
theorem dX11_removes_23 : decode cX11_removes 23 = .ok (.getfield 45, 3) := by decide +kernel
theorem dX11_removes_26 : decode cX11_removes 26 = .ok (.iload_n 2, 1) := by decide +kernel
theorem dX11_removes_27 : decode cX11_removes 27 = .ok (.iconst 1, 1) := by decide +kernel
theorem dX11_removes_28 : decode cX11_removes 28 = .ok (.iadd, 1) := by decide +kernel
theorem dX11_removes_29 : decode cX11_removes 29 = .ok (.iaload, 1) := by decide +kernel
theorem dX11_removes_30 : decode cX11_removes 30 = .ok (.aload_n 0, 1) := by decide +kernel
theorem dX11_removes_31 : decode cX11_removes 31 = .ok (.getfield 48, 3) := by decide +kernel
theorem dX11_removes_34 : decode cX11_removes 34 = .ok (.iload_n 2, 1) := by decide +kernel
theorem dX11_removes_35 : decode cX11_removes 35 = .ok (.iconst 1, 1) := by decide +kernel
theorem dX11_removes_36 : decode cX11_removes 36 = .ok (.iadd, 1) := by decide +kernel
theorem dX11_removes_37 : decode cX11_removes 37 = .ok (.iaload, 1) := by decide +kernel
theorem dX11_removes_38 : decode cX11_removes 38 = .ok (.aload_n 0, 1) := by decide +kernel
theorem dX11_removes_39 : decode cX11_removes 39 = .ok (.getfield 51, 3) := by decide +kernel
theorem dX11_removes_42 : decode cX11_removes 42 = .ok (.iload_n 2, 1) := by decide +kernel
theorem dX11_removes_43 : decode cX11_removes 43 = .ok (.iconst 1, 1) := by decide +kernel
theorem dX11_removes_44 : decode cX11_removes 44 = .ok (.iadd, 1) := by decide +kernel
theorem dX11_removes_45 : decode cX11_removes 45 = .ok (.iaload, 1) := by decide +kernel
theorem dX11_removes_46 : decode cX11_removes 46 = .ok (.invokevirtual 397, 3) := by decide +kernel
theorem dX11_removes_49 : decode cX11_removes 49 = .ok (.iinc 2 1, 3) := by decide +kernel
theorem dX11_removes_52 : decode cX11_removes 52 = .ok (.goto (-40), 3) := by decide +kernel
theorem dX11_removes_55 : decode cX11_removes 55 = .ok (.return_, 1) := by decide +kernel
set_option maxRecDepth 20000 in
theorem ggX11_isYear_X11_in : GoodIn wsX11_isYear wsX11_in := goodIn_r _ [6] (by decide +kernel) (by decide +kernel)
set_option maxRecDepth 20000 in
theorem gX11_isYear_X11_in : GoodIn wsX11_isYear (va_wsS RX11 72 yX11_in wsX11_in) := goodIn_app (goodIn_of _ (by decide +kernel)) ggX11_isYear_X11_in
theorem dX11_isYear_0 : decode cX11_isYear 0 = .ok (.iload_n 0, 1) := by decide +kernel
theorem dX11_isYear_1 : decode cX11_isYear 1 = .ok (.i2l, 1) := by decide +kernel
theorem dX11_isYear_2 : decode cX11_isYear 2 = .ok (.ldc2_w 401, 3) := by decide +kernel
theorem dX11_isYear_5 : decode cX11_isYear 5 = .ok (.ldc2_w 403, 3) := by decide +kernel
theorem dX11_isYear_8 : decode cX11_isYear 8 = .ok (.invokestatic 72, 3) := by decide +kernel
theorem dX11_isYear_11 : decode cX11_isYear 11 = .ok (.ireturn, 1) := by decide +kernel
set_option maxRecDepth 20000 in
theorem ggX11_store_X11_isKey : GoodIn wsX11_store wsX11_isKey := goodIn_r _ [9, 10, 11, 8, 12, 13, 14, 15, 16, 17, 18, 19, 20, 21, 22, 23, 76, 77, 78, 79, 80, 81, 82, 83, 84, 85, 86, 87, 88, 89, 90, 91, 92, 93, 94, 95, 96, 97, 98, 99, 100, 101, 102, 103, 104, 105, 106, 107, 108, 109, 110, 111, 112, 113, 114, 115, 116, 117] (by decide +kernel) (by decide +kernel)
set_option maxRecDepth 20000 in
theorem gX11_store_X11_isKey : GoodIn wsX11_store (wsV RX11 153 RX11 yX11_isKey wsX11_isKey) := goodIn_app (goodIn_of _ (by decide +kernel)) ggX11_store_X11_isKey
set_option maxRecDepth 20000 in
theorem ggX11_store_X11_isYear : GoodIn wsX11_store wsX11_isYear := goodIn_r _ [26, 27, 28, 14, 15, 8, 16] (by decide +kernel) (by decide +kernel)
set_option maxRecDepth 20000 in
theorem gX11_store_X11_isYear : GoodIn wsX11_store (va_wsS RX11 405 yX11_isYear wsX11_isYear) := goodIn_app (goodIn_of _ (by decide +kernel)) ggX11_store_X11_isYear
set_option maxRecDepth 20000 in
theorem ggX11_store_X11_isCap : GoodIn wsX11_store wsX11_isCap := goodIn_r _ [32, 17, 18, 19, 8, 20, 21, 22, 23, 76, 77, 78, 79, 80, 81, 82, 83, 84, 85, 86, 87, 88, 89, 90, 91, 92, 93, 94, 95, 96, 97, 98, 99, 100, 101, 102, 103, 104, 105, 106, 107, 108, 109, 110, 111, 112, 113, 114, 115, 116, 117] (by decide +kernel) (by decide +kernel)
set_option maxRecDepth 20000 in
theorem gX11_store_X11_isCap : GoodIn wsX11_store (wsV RX11 140 RX11 yX11_isCap wsX11_isCap) := goodIn_app (goodIn_of _ (by decide +kernel)) ggX11_store_X11_isCap
set_option maxRecDepth 20000 in
theorem ggX11_store_X11_parentOf : GoodIn wsX11_store wsX11_parentOf := goodIn_r _ [36, 21, 22, 29, 30, 31, 8, 32, 17, 18, 19, 20, 23, 37, 38, 39, 40, 41, 42, 43, 44, 45, 46, 47, 48, 49, 50, 51, 52, 53, 54, 55, 56, 57, 58, 59, 60, 61, 62, 63, 76, 77, 78, 79, 80, 81, 82, 83, 84, 85, 86, 87, 88, 89, 90, 91, 92, 93, 94, 95, 96, 97, 98, 99, 100, 101, 102, 103, 104, 105, 106, 107, 108, 109, 110, 111, 112, 113, 114, 115, 116, 117] (by decide +kernel) (by decide +kernel)
set_option maxRecDepth 20000 in
theorem gX11_store_X11_parentOf : GoodIn wsX11_store (wsV RX11 254 RX11 yX11_parentOf wsX11_parentOf) := goodIn_app (goodIn_of _ (by decide +kernel)) ggX11_store_X11_parentOf
set_option maxRecDepth 20000 in
theorem ggX11_store_X11_slotOf : GoodIn wsX11_store wsX11_slotOf := goodIn_r _ [67, 1, 2, 3, 76, 77, 78, 79, 80, 81, 82, 83, 84, 85, 86, 87, 88, 89, 90, 91, 92, 93, 94, 95, 96, 97, 98, 99, 100, 101, 102, 103, 104, 105, 106, 107, 108, 109, 110, 111, 112, 113, 114, 115, 116, 117] (by decide +kernel) (by decide +kernel)
set_option maxRecDepth 20000 in
theorem gX11_store_X11_slotOf : GoodIn wsX11_store (wsV RX11 408 RX11 yX11_slotOf wsX11_slotOf) := goodIn_app (goodIn_of _ (by decide +kernel)) ggX11_store_X11_slotOf
set_option maxRecDepth 20000 in
theorem ggX11_store_X11_isPiece : GoodIn wsX11_store wsX11_isPiece := goodIn_r _ [71, 1, 2, 3, 76, 77, 78, 79, 80, 81, 82, 83, 84, 85, 86, 87, 88, 89, 90, 91, 92, 93, 94, 95, 96, 97, 98, 99, 100, 101, 102, 103, 104, 105, 106, 107, 108, 109, 110, 111, 112, 113, 114, 115, 116, 117] (by decide +kernel) (by decide +kernel)
set_option maxRecDepth 20000 in
theorem gX11_store_X11_isPiece : GoodIn wsX11_store (wsV RX11 411 RX11 yX11_isPiece wsX11_isPiece) := goodIn_app (goodIn_of _ (by decide +kernel)) ggX11_store_X11_isPiece
set_option maxRecDepth 20000 in
theorem ggX11_store_X11_puts : GoodIn wsX11_store wsX11_puts := goodIn_r _ [75, 2, 3, 4, 76, 77, 78, 79, 80, 81, 82, 83, 84, 85, 86, 87, 88, 89, 90, 91, 92, 93, 94, 95, 96, 97, 98, 99, 100, 101, 102, 103, 104, 105, 106, 107, 108, 109, 110, 111, 112, 113, 114, 115, 116, 117] (by decide +kernel) (by decide +kernel)
set_option maxRecDepth 20000 in
theorem gX11_store_X11_puts : GoodIn wsX11_store (wsV RX11 397 RX11 yX11_puts wsX11_puts) := goodIn_app (goodIn_of _ (by decide +kernel)) ggX11_store_X11_puts
theorem dX11_store_0 : decode cX11_store 0 = .ok (.aload_n 0, 1) := by decide +kernel
theorem dX11_store_1 : decode cX11_store 1 = .ok (.iload_n 1, 1) := by decide +kernel
theorem dX11_store_2 : decode cX11_store 2 = .ok (.iload_n 2, 1) := by decide +kernel
theorem dX11_store_3 : decode cX11_store 3 = .ok (.invokevirtual 153, 3) := by decide +kernel
theorem dX11_store_6 : decode cX11_store 6 = .ok (.ifCond .eq 10, 3) := by decide +kernel
theorem dX11_store_9 : decode cX11_store 9 = .ok (.iload_n 3, 1) := by decide +kernel
theorem dX11_store_10 : decode cX11_store 10 = .ok (.invokestatic 405, 3) := by decide +kernel
theorem dX11_store_13 : decode cX11_store 13 = .ok (.ifCond .ne 5, 3) := by decide +kernel
theorem dX11_store_16 : decode cX11_store 16 = .ok (.iconst (-1), 1) := by decide +kernel
theorem dX11_store_17 : decode cX11_store 17 = .ok (.ireturn, 1) := by decide +kernel
theorem dX11_store_18 : decode cX11_store 18 = .ok (.aload_n 0, 1) := by decide +kernel
theorem dX11_store_19 : decode cX11_store 19 = .ok (.iload_n 1, 1) := by decide +kernel
theorem dX11_store_20 : decode cX11_store 20 = .ok (.iload_n 2, 1) := by decide +kernel
theorem dX11_store_21 : decode cX11_store 21 = .ok (.invokevirtual 140, 3) := by decide +kernel
theorem dX11_store_24 : decode cX11_store 24 = .ok (.ifCond .eq 7, 3) := by decide +kernel
theorem dX11_store_27 : decode cX11_store 27 = .ok (.iconst 0, 1) := by decide +kernel
theorem dX11_store_28 : decode cX11_store 28 = .ok (.goto 4, 3) := by decide +kernel
theorem dX11_store_31 : decode cX11_store 31 = .ok (.iload_n 1, 1) := by decide +kernel
theorem dX11_store_32 : decode cX11_store 32 = .ok (.istore 4, 2) := by decide +kernel
theorem dX11_store_34 : decode cX11_store 34 = .ok (.aload_n 0, 1) := by decide +kernel
theorem dX11_store_35 : decode cX11_store 35 = .ok (.iload_n 1, 1) := by decide +kernel
theorem dX11_store_36 : decode cX11_store 36 = .ok (.iload_n 2, 1) := by decide +kernel
theorem dX11_store_37 : decode cX11_store 37 = .ok (.invokevirtual 140, 3) := by decide +kernel
theorem dX11_store_40 : decode cX11_store 40 = .ok (.ifCond .eq 13, 3) := by decide +kernel
theorem dX11_store_43 : decode cX11_store 43 = .ok (.aload_n 0, 1) := by decide +kernel
theorem dX11_store_44 : decode cX11_store 44 = .ok (.iload_n 1, 1) := by decide +kernel
theorem dX11_store_45 : decode cX11_store 45 = .ok (.iload_n 2, 1) := by decide +kernel
theorem dX11_store_46 : decode cX11_store 46 = .ok (.iconst 0, 1) := by decide +kernel
theorem dX11_store_47 : decode cX11_store 47 = .ok (.invokevirtual 254, 3) := by decide +kernel
theorem dX11_store_50 : decode cX11_store 50 = .ok (.goto 4, 3) := by decide +kernel
theorem dX11_store_53 : decode cX11_store 53 = .ok (.iload_n 2, 1) := by decide +kernel
theorem dX11_store_54 : decode cX11_store 54 = .ok (.istore 5, 2) := by decide +kernel
theorem dX11_store_56 : decode cX11_store 56 = .ok (.aload_n 0, 1) := by decide +kernel
theorem dX11_store_57 : decode cX11_store 57 = .ok (.iload 4, 2) := by decide +kernel
theorem dX11_store_59 : decode cX11_store 59 = .ok (.iload 5, 2) := by decide +kernel
theorem dX11_store_61 : decode cX11_store 61 = .ok (.invokevirtual 408, 3) := by decide +kernel
theorem dX11_store_64 : decode cX11_store 64 = .ok (.istore 6, 2) := by decide +kernel
theorem dX11_store_66 : decode cX11_store 66 = .ok (.aload_n 0, 1) := by decide +kernel
theorem dX11_store_67 : decode cX11_store 67 = .ok (.iload 6, 2) := by decide +kernel
theorem dX11_store_69 : decode cX11_store 69 = .ok (.iload 4, 2) := by decide +kernel
theorem dX11_store_71 : decode cX11_store 71 = .ok (.iload 5, 2) := by decide +kernel
theorem dX11_store_73 : decode cX11_store 73 = .ok (.invokevirtual 411, 3) := by decide +kernel
theorem dX11_store_76 : decode cX11_store 76 = .ok (.ifCond .ne 77, 3) := by decide +kernel
theorem dX11_store_79 : decode cX11_store 79 = .ok (.aload_n 0, 1) := by decide +kernel
theorem dX11_store_80 : decode cX11_store 80 = .ok (.getfield 123, 3) := by decide +kernel
theorem dX11_store_83 : decode cX11_store 83 = .ok (.bipush 60, 2) := by decide +kernel
theorem dX11_store_85 : decode cX11_store 85 = .ok (.if_icmp .ne 6, 3) := by decide +kernel
theorem dX11_store_88 : decode cX11_store 88 = .ok (.bipush (-2), 2) := by decide +kernel
theorem dX11_store_90 : decode cX11_store 90 = .ok (.ireturn, 1) := by decide +kernel
theorem dX11_store_91 : decode cX11_store 91 = .ok (.aload_n 0, 1) := by decide +kernel
theorem dX11_store_92 : decode cX11_store 92 = .ok (.getfield 123, 3) := by decide +kernel
theorem dX11_store_95 : decode cX11_store 95 = .ok (.istore 7, 2) := by decide +kernel
theorem dX11_store_97 : decode cX11_store 97 = .ok (.iload 7, 2) := by decide +kernel
theorem dX11_store_99 : decode cX11_store 99 = .ok (.iload 6, 2) := by decide +kernel
theorem dX11_store_101 : decode cX11_store 101 = .ok (.if_icmp .le 42, 3) := by decide +kernel
theorem dX11_store_104 : decode cX11_store 104 = .ok (.aload_n 0, 1) := by decide +kernel
theorem dX11_store_105 : decode cX11_store 105 = .ok (.iload 7, 2) := by decide +kernel
theorem dX11_store_107 : decode cX11_store 107 = .ok (.aload_n 0, 1) := by decide +kernel
theorem dX11_store_108 : decode cX11_store 108 = .ok (.getfield 45, 3) := by decide +kernel
theorem dX11_store_111 : decode cX11_store 111 = .ok (.iload 7, 2) := by decide +kernel
theorem dX11_store_113 : decode cX11_store 113 = .ok (.iconst 1, 1) := by decide +kernel
theorem dX11_store_114 : decode cX11_store 114 = .ok (.isub, 1) := by decide +kernel
theorem dX11_store_115 : decode cX11_store 115 = .ok (.iaload, 1) := by decide +kernel
theorem dX11_store_116 : decode cX11_store 116 = .ok (.aload_n 0, 1) := by decide +kernel
theorem dX11_store_117 : decode cX11_store 117 = .ok (.getfield 48, 3) := by decide +kernel
theorem dX11_store_120 : decode cX11_store 120 = .ok (.iload 7, 2) := by decide +kernel
theorem dX11_store_122 : decode cX11_store 122 = .ok (.iconst 1, 1) := by decide +kernel
theorem dX11_store_123 : decode cX11_store 123 = .ok (.isub, 1) := by decide +kernel
theorem dX11_store_124 : decode cX11_store 124 = .ok (.iaload, 1) := by decide +kernel
theorem dX11_store_125 : decode cX11_store 125 = .ok (.aload_n 0, 1) := by decide +kernel
theorem dX11_store_126 : decode cX11_store 126 = .ok (.getfield 51, 3) := by decide +kernel
theorem dX11_store_129 : decode cX11_store 129 = .ok (.iload 7, 2) := by decide +kernel
theorem dX11_store_131 : decode cX11_store 131 = .ok (.iconst 1, 1) := by decide +kernel
theorem dX11_store_132 : decode cX11_store 132 = .ok (.isub, 1) := by decide +kernel
theorem dX11_store_133 : decode cX11_store 133 = .ok (.iaload, 1) := by decide +kernel
theorem dX11_store_134 : decode cX11_store 134 = .ok (.invokevirtual 397, 3) := by decide +kernel
theorem dX11_store_137 : decode cX11_store 137 = .ok (.iinc 7 (-1), 3) := by decide +kernel
theorem dX11_store_140 : decode cX11_store 140 = .ok (.goto (-43), 3) := by decide +kernel
theorem dX11_store_143 : decode cX11_store 143 = .ok (.aload_n 0, 1) := by decide +kernel
theorem dX11_store_144 : decode cX11_store 144 = .ok (.aload_n 0, 1) := by decide +kernel
theorem dX11_store_145 : decode cX11_store 145 = .ok (.getfield 123, 3) := by decide +kernel
theorem dX11_store_148 : decode cX11_store 148 = .ok (.iconst 1, 1) := by decide +kernel
theorem dX11_store_149 : decode cX11_store 149 = .ok (.iadd, 1) := by decide +kernel
theorem dX11_store_150 : decode cX11_store 150 = .ok (.putfield 123, 3) := by decide +kernel
theorem dX11_store_153 : decode cX11_store 153 = .ok (.aload_n 0, 1) := by decide +kernel
theorem dX11_store_154 : decode cX11_store 154 = .ok (.iload 6, 2) := by decide +kernel
theorem dX11_store_156 : decode cX11_store 156 = .ok (.iload 4, 2) := by decide +kernel
theorem dX11_store_158 : decode cX11_store 158 = .ok (.iload 5, 2) := by decide +kernel
theorem dX11_store_160 : decode cX11_store 160 = .ok (.iload_n 3, 1) := by decide +kernel
theorem dX11_store_161 : decode cX11_store 161 = .ok (.invokevirtual 397, 3) := by decide +kernel
theorem dX11_store_164 : decode cX11_store 164 = .ok (.aload_n 0, 1) := by decide +kernel
theorem dX11_store_165 : decode cX11_store 165 = .ok (.getfield 123, 3) := by decide +kernel
theorem dX11_store_168 : decode cX11_store 168 = .ok (.ireturn, 1) := by decide +kernel
set_option maxRecDepth 20000 in
theorem ggX11_drop_X11_isKey : GoodIn wsX11_drop wsX11_isKey := goodIn_r _ [6, 7, 8, 5, 9, 10, 11, 12, 13, 14, 15, 16, 17, 18, 19, 20, 75, 76, 77, 78, 79, 80, 81, 82, 83, 84, 85, 86, 87, 88, 89, 90, 91, 92, 93, 94, 95, 96, 97, 98, 99, 100, 101, 102, 103, 104, 105, 106, 107, 108, 109, 110, 111, 112, 113, 114, 115, 116] (by decide +kernel) (by decide +kernel)
set_option maxRecDepth 20000 in
theorem gX11_drop_X11_isKey : GoodIn wsX11_drop (wsV RX11 153 RX11 yX11_isKey wsX11_isKey) := goodIn_app (goodIn_of _ (by decide +kernel)) ggX11_drop_X11_isKey
set_option maxRecDepth 20000 in
theorem ggX11_drop_X11_isCap : GoodIn wsX11_drop wsX11_isCap := goodIn_r _ [24, 14, 15, 16, 5, 17, 18, 19, 20, 75, 76, 77, 78, 79, 80, 81, 82, 83, 84, 85, 86, 87, 88, 89, 90, 91, 92, 93, 94, 95, 96, 97, 98, 99, 100, 101, 102, 103, 104, 105, 106, 107, 108, 109, 110, 111, 112, 113, 114, 115, 116] (by decide +kernel) (by decide +kernel)
set_option maxRecDepth 20000 in
theorem gX11_drop_X11_isCap : GoodIn wsX11_drop (wsV RX11 140 RX11 yX11_isCap wsX11_isCap) := goodIn_app (goodIn_of _ (by decide +kernel)) ggX11_drop_X11_isCap
set_option maxRecDepth 20000 in
theorem ggX11_drop_X11_parentOf : GoodIn wsX11_drop wsX11_parentOf := goodIn_r _ [28, 18, 19, 21, 22, 23, 5, 24, 14, 15, 16, 17, 20, 29, 30, 31, 32, 33, 34, 35, 36, 37, 38, 39, 40, 41, 42, 43, 44, 45, 46, 47, 48, 49, 50, 51, 52, 53, 54, 55, 75, 76, 77, 78, 79, 80, 81, 82, 83, 84, 85, 86, 87, 88, 89, 90, 91, 92, 93, 94, 95, 96, 97, 98, 99, 100, 101, 102, 103, 104, 105, 106, 107, 108, 109, 110, 111, 112, 113, 114, 115, 116] (by decide +kernel) (by decide +kernel)
set_option maxRecDepth 20000 in
theorem gX11_drop_X11_parentOf : GoodIn wsX11_drop (wsV RX11 254 RX11 yX11_parentOf wsX11_parentOf) := goodIn_app (goodIn_of _ (by decide +kernel)) ggX11_drop_X11_parentOf
set_option maxRecDepth 20000 in
theorem ggX11_drop_X11_slotOf : GoodIn wsX11_drop wsX11_slotOf := goodIn_r _ [59, 60, 61, 62, 75, 76, 77, 78, 79, 80, 81, 82, 83, 84, 85, 86, 87, 88, 89, 90, 91, 92, 93, 94, 95, 96, 97, 98, 99, 100, 101, 102, 103, 104, 105, 106, 107, 108, 109, 110, 111, 112, 113, 114, 115, 116] (by decide +kernel) (by decide +kernel)
set_option maxRecDepth 20000 in
theorem gX11_drop_X11_slotOf : GoodIn wsX11_drop (wsV RX11 408 RX11 yX11_slotOf wsX11_slotOf) := goodIn_app (goodIn_of _ (by decide +kernel)) ggX11_drop_X11_slotOf
set_option maxRecDepth 20000 in
theorem ggX11_drop_X11_isPiece : GoodIn wsX11_drop wsX11_isPiece := goodIn_r _ [66, 60, 61, 62, 75, 76, 77, 78, 79, 80, 81, 82, 83, 84, 85, 86, 87, 88, 89, 90, 91, 92, 93, 94, 95, 96, 97, 98, 99, 100, 101, 102, 103, 104, 105, 106, 107, 108, 109, 110, 111, 112, 113, 114, 115, 116] (by decide +kernel) (by decide +kernel)
set_option maxRecDepth 20000 in
theorem gX11_drop_X11_isPiece : GoodIn wsX11_drop (wsV RX11 411 RX11 yX11_isPiece wsX11_isPiece) := goodIn_app (goodIn_of _ (by decide +kernel)) ggX11_drop_X11_isPiece
set_option maxRecDepth 20000 in
theorem ggX11_drop_X11_removes : GoodIn wsX11_drop wsX11_removes := goodIn_r _ [70, 60, 61, 62, 1, 71, 72, 73, 5, 74, 75, 76, 77, 78, 79, 80, 81, 82, 83, 84, 85, 86, 87, 88, 89, 90, 91, 92, 93, 94, 95, 96, 97, 98, 99, 100, 101, 102, 103, 104, 105, 106, 107, 108, 109, 110, 111, 112, 113, 114, 115, 116] (by decide +kernel) (by decide +kernel)
set_option maxRecDepth 20000 in
theorem gX11_drop_X11_removes : GoodIn wsX11_drop (wsV RX11 414 RX11 yX11_removes wsX11_removes) := goodIn_app (goodIn_of _ (by decide +kernel)) ggX11_drop_X11_removes
theorem dX11_drop_0 : decode cX11_drop 0 = .ok (.aload_n 0, 1) := by decide +kernel
theorem dX11_drop_1 : decode cX11_drop 1 = .ok (.iload_n 1, 1) := by decide +kernel
theorem dX11_drop_2 : decode cX11_drop 2 = .ok (.iload_n 2, 1) := by decide +kernel
theorem dX11_drop_3 : decode cX11_drop 3 = .ok (.invokevirtual 153, 3) := by decide +kernel
theorem dX11_drop_6 : decode cX11_drop 6 = .ok (.ifCond .ne 5, 3) := by decide +kernel
theorem dX11_drop_9 : decode cX11_drop 9 = .ok (.iconst (-1), 1) := by decide +kernel
theorem dX11_drop_10 : decode cX11_drop 10 = .ok (.ireturn, 1) := by decide +kernel
theorem dX11_drop_11 : decode cX11_drop 11 = .ok (.aload_n 0, 1) := by decide +kernel
theorem dX11_drop_12 : decode cX11_drop 12 = .ok (.iload_n 1, 1) := by decide +kernel
theorem dX11_drop_13 : decode cX11_drop 13 = .ok (.iload_n 2, 1) := by decide +kernel
theorem dX11_drop_14 : decode cX11_drop 14 = .ok (.invokevirtual 140, 3) := by decide +kernel
theorem dX11_drop_17 : decode cX11_drop 17 = .ok (.ifCond .eq 7, 3) := by decide +kernel
theorem dX11_drop_20 : decode cX11_drop 20 = .ok (.iconst 0, 1) := by decide +kernel
theorem dX11_drop_21 : decode cX11_drop 21 = .ok (.goto 4, 3) := by decide +kernel
theorem dX11_drop_24 : decode cX11_drop 24 = .ok (.iload_n 1, 1) := by decide +kernel
theorem dX11_drop_25 : decode cX11_drop 25 = .ok (.istore_n 3, 1) := by decide +kernel
theorem dX11_drop_26 : decode cX11_drop 26 = .ok (.aload_n 0, 1) := by decide +kernel
theorem dX11_drop_27 : decode cX11_drop 27 = .ok (.iload_n 1, 1) := by decide +kernel
theorem dX11_drop_28 : decode cX11_drop 28 = .ok (.iload_n 2, 1) := by decide +kernel
theorem dX11_drop_29 : decode cX11_drop 29 = .ok (.invokevirtual 140, 3) := by decide +kernel
theorem dX11_drop_32 : decode cX11_drop 32 = .ok (.ifCond .eq 13, 3) := by decide +kernel
theorem dX11_drop_35 : decode cX11_drop 35 = .ok (.aload_n 0, 1) := by decide +kernel
theorem dX11_drop_36 : decode cX11_drop 36 = .ok (.iload_n 1, 1) := by decide +kernel
theorem dX11_drop_37 : decode cX11_drop 37 = .ok (.iload_n 2, 1) := by decide +kernel
theorem dX11_drop_38 : decode cX11_drop 38 = .ok (.iconst 0, 1) := by decide +kernel
theorem dX11_drop_39 : decode cX11_drop 39 = .ok (.invokevirtual 254, 3) := by decide +kernel
theorem dX11_drop_42 : decode cX11_drop 42 = .ok (.goto 4, 3) := by decide +kernel
theorem dX11_drop_45 : decode cX11_drop 45 = .ok (.iload_n 2, 1) := by decide +kernel
theorem dX11_drop_46 : decode cX11_drop 46 = .ok (.istore 4, 2) := by decide +kernel
theorem dX11_drop_48 : decode cX11_drop 48 = .ok (.aload_n 0, 1) := by decide +kernel
theorem dX11_drop_49 : decode cX11_drop 49 = .ok (.iload_n 3, 1) := by decide +kernel
theorem dX11_drop_50 : decode cX11_drop 50 = .ok (.iload 4, 2) := by decide +kernel
theorem dX11_drop_52 : decode cX11_drop 52 = .ok (.invokevirtual 408, 3) := by decide +kernel
theorem dX11_drop_55 : decode cX11_drop 55 = .ok (.istore 5, 2) := by decide +kernel
theorem dX11_drop_57 : decode cX11_drop 57 = .ok (.aload_n 0, 1) := by decide +kernel
theorem dX11_drop_58 : decode cX11_drop 58 = .ok (.iload 5, 2) := by decide +kernel
theorem dX11_drop_60 : decode cX11_drop 60 = .ok (.iload_n 3, 1) := by decide +kernel
theorem dX11_drop_61 : decode cX11_drop 61 = .ok (.iload 4, 2) := by decide +kernel
theorem dX11_drop_63 : decode cX11_drop 63 = .ok (.invokevirtual 411, 3) := by decide +kernel
theorem dX11_drop_66 : decode cX11_drop 66 = .ok (.ifCond .ne 6, 3) := by decide +kernel
theorem dX11_drop_69 : decode cX11_drop 69 = .ok (.bipush (-2), 2) := by decide +kernel
theorem dX11_drop_71 : decode cX11_drop 71 = .ok (.ireturn, 1) := by decide +kernel
theorem dX11_drop_72 : decode cX11_drop 72 = .ok (.aload_n 0, 1) := by decide +kernel
theorem dX11_drop_73 : decode cX11_drop 73 = .ok (.getfield 51, 3) := by decide +kernel
theorem dX11_drop_76 : decode cX11_drop 76 = .ok (.iload 5, 2) := by decide +kernel
theorem dX11_drop_78 : decode cX11_drop 78 = .ok (.iaload, 1) := by decide +kernel
theorem dX11_drop_79 : decode cX11_drop 79 = .ok (.istore 6, 2) := by decide +kernel
theorem dX11_drop_81 : decode cX11_drop 81 = .ok (.aload_n 0, 1) := by decide +kernel
theorem dX11_drop_82 : decode cX11_drop 82 = .ok (.iload 5, 2) := by decide +kernel
theorem dX11_drop_84 : decode cX11_drop 84 = .ok (.invokevirtual 414, 3) := by decide +kernel
theorem dX11_drop_87 : decode cX11_drop 87 = .ok (.iload 6, 2) := by decide +kernel
theorem dX11_drop_89 : decode cX11_drop 89 = .ok (.ireturn, 1) := by decide +kernel
set_option maxRecDepth 20000 in
theorem ggX11_piece_X11_in : GoodIn wsX11_piece wsX11_in := goodIn_r _ [9] (by decide +kernel) (by decide +kernel)
set_option maxRecDepth 20000 in
theorem gX11_piece_X11_in : GoodIn wsX11_piece (va_wsS RX11 72 yX11_in wsX11_in) := goodIn_app (goodIn_of _ (by decide +kernel)) ggX11_piece_X11_in
theorem dX11_piece_0 : decode cX11_piece 0 = .ok (.iload_n 1, 1) := by decide +kernel
theorem dX11_piece_1 : decode cX11_piece 1 = .ok (.ifCond .lt 15, 3) := by decide +kernel
theorem dX11_piece_4 : decode cX11_piece 4 = .ok (.iload_n 2, 1) := by decide +kernel
theorem dX11_piece_5 : decode cX11_piece 5 = .ok (.i2l, 1) := by decide +kernel
theorem dX11_piece_6 : decode cX11_piece 6 = .ok (.lconst 0, 1) := by decide +kernel
theorem dX11_piece_7 : decode cX11_piece 7 = .ok (.ldc2_w 127, 3) := by decide +kernel
theorem dX11_piece_10 : decode cX11_piece 10 = .ok (.invokestatic 72, 3) := by decide +kernel
theorem dX11_piece_13 : decode cX11_piece 13 = .ok (.ifCond .ne 5, 3) := by decide +kernel
theorem dX11_piece_16 : decode cX11_piece 16 = .ok (.iconst (-1), 1) := by decide +kernel
theorem dX11_piece_17 : decode cX11_piece 17 = .ok (.ireturn, 1) := by decide +kernel
theorem dX11_piece_18 : decode cX11_piece 18 = .ok (.iload_n 1, 1) := by decide +kernel
theorem dX11_piece_19 : decode cX11_piece 19 = .ok (.aload_n 0, 1) := by decide +kernel
theorem dX11_piece_20 : decode cX11_piece 20 = .ok (.getfield 123, 3) := by decide +kernel
theorem dX11_piece_23 : decode cX11_piece 23 = .ok (.if_icmp .lt 6, 3) := by decide +kernel
theorem dX11_piece_26 : decode cX11_piece 26 = .ok (.bipush (-2), 2) := by decide +kernel
theorem dX11_piece_28 : decode cX11_piece 28 = .ok (.ireturn, 1) := by decide +kernel
theorem dX11_piece_29 : decode cX11_piece 29 = .ok (.iload_n 2, 1) := by decide +kernel
theorem dX11_piece_30 : decode cX11_piece 30 = .ok (.ifCond .ne 12, 3) := by decide +kernel
theorem dX11_piece_33 : decode cX11_piece 33 = .ok (.aload_n 0, 1) := by decide +kernel
theorem dX11_piece_34 : decode cX11_piece 34 = .ok (.getfield 45, 3) := by decide +kernel
theorem dX11_piece_37 : decode cX11_piece 37 = .ok (.iload_n 1, 1) := by decide +kernel
theorem dX11_piece_38 : decode cX11_piece 38 = .ok (.iaload, 1) := by decide +kernel
theorem dX11_piece_39 : decode cX11_piece 39 = .ok (.goto 23, 3) := by decide +kernel
theorem dX11_piece_42 : decode cX11_piece 42 = .ok (.iload_n 2, 1) := by decide +kernel
theorem dX11_piece_43 : decode cX11_piece 43 = .ok (.iconst 1, 1) := by decide +kernel
theorem dX11_piece_44 : decode cX11_piece 44 = .ok (.if_icmp .ne 12, 3) := by decide +kernel
theorem dX11_piece_47 : decode cX11_piece 47 = .ok (.aload_n 0, 1) := by decide +kernel
theorem dX11_piece_48 : decode cX11_piece 48 = .ok (.getfield 48, 3) := by decide +kernel
theorem dX11_piece_51 : decode cX11_piece 51 = .ok (.iload_n 1, 1) := by decide +kernel
theorem dX11_piece_52 : decode cX11_piece 52 = .ok (.iaload, 1) := by decide +kernel
theorem dX11_piece_53 : decode cX11_piece 53 = .ok (.goto 9, 3) := by decide +kernel
theorem dX11_piece_56 : decode cX11_piece 56 = .ok (.aload_n 0, 1) := by decide +kernel
theorem dX11_piece_57 : decode cX11_piece 57 = .ok (.getfield 51, 3) := by decide +kernel
theorem dX11_piece_60 : decode cX11_piece 60 = .ok (.iload_n 1, 1) := by decide +kernel
theorem dX11_piece_61 : decode cX11_piece 61 = .ok (.iaload, 1) := by decide +kernel
theorem dX11_piece_62 : decode cX11_piece 62 = .ok (.ireturn, 1) := by decide +kernel
set_option maxRecDepth 20000 in
theorem ggX11_shownOf_X11_keyAtPlace : GoodIn wsX11_shownOf wsX11_keyAtPlace := goodIn_r _ [9, 10, 11, 12, 8, 13, 14, 15, 16, 17, 18, 19, 20, 21, 22, 23, 24, 25, 26, 27, 28, 29, 30, 31, 32, 33, 34, 35, 36, 37, 38, 39, 40, 41, 42, 43, 44, 45, 46, 47, 48, 49, 50, 51, 52, 53, 54, 55, 56, 57, 58, 59, 60, 61, 62, 63, 64, 65, 66, 67, 68, 69, 70, 71, 72, 73, 74, 75, 76, 77, 78, 79, 80, 81, 82, 83, 84, 85, 86, 87, 88, 89, 90, 91, 92] (by decide +kernel) (by decide +kernel)
set_option maxRecDepth 20000 in
theorem gX11_shownOf_X11_keyAtPlace : GoodIn wsX11_shownOf (wsV RX11 137 RX11 yX11_keyAtPlace wsX11_keyAtPlace) := goodIn_app (goodIn_of _ (by decide +kernel)) ggX11_shownOf_X11_keyAtPlace
theorem dX11_shownOf_0 : decode cX11_shownOf 0 = .ok (.iconst 0, 1) := by decide +kernel
theorem dX11_shownOf_1 : decode cX11_shownOf 1 = .ok (.istore 4, 2) := by decide +kernel
theorem dX11_shownOf_3 : decode cX11_shownOf 3 = .ok (.bipush (-2), 2) := by decide +kernel
theorem dX11_shownOf_5 : decode cX11_shownOf 5 = .ok (.istore 5, 2) := by decide +kernel
theorem dX11_shownOf_7 : decode cX11_shownOf 7 = .ok (.bipush (-2), 2) := by decide +kernel
theorem dX11_shownOf_9 : decode cX11_shownOf 9 = .ok (.istore 6, 2) := by decide +kernel
theorem dX11_shownOf_11 : decode cX11_shownOf 11 = .ok (.iconst 0, 1) := by decide +kernel
theorem dX11_shownOf_12 : decode cX11_shownOf 12 = .ok (.istore 7, 2) := by decide +kernel
theorem dX11_shownOf_14 : decode cX11_shownOf 14 = .ok (.iload 7, 2) := by decide +kernel
theorem dX11_shownOf_16 : decode cX11_shownOf 16 = .ok (.aload_n 0, 1) := by decide +kernel
theorem dX11_shownOf_17 : decode cX11_shownOf 17 = .ok (.getfield 123, 3) := by decide +kernel
theorem dX11_shownOf_20 : decode cX11_shownOf 20 = .ok (.if_icmp .ge 76, 3) := by decide +kernel
theorem dX11_shownOf_23 : decode cX11_shownOf 23 = .ok (.aload_n 0, 1) := by decide +kernel
theorem dX11_shownOf_24 : decode cX11_shownOf 24 = .ok (.iload_n 1, 1) := by decide +kernel
theorem dX11_shownOf_25 : decode cX11_shownOf 25 = .ok (.iload_n 2, 1) := by decide +kernel
theorem dX11_shownOf_26 : decode cX11_shownOf 26 = .ok (.aload_n 0, 1) := by decide +kernel
theorem dX11_shownOf_27 : decode cX11_shownOf 27 = .ok (.getfield 45, 3) := by decide +kernel
theorem dX11_shownOf_30 : decode cX11_shownOf 30 = .ok (.iload 7, 2) := by decide +kernel
theorem dX11_shownOf_32 : decode cX11_shownOf 32 = .ok (.iaload, 1) := by decide +kernel
theorem dX11_shownOf_33 : decode cX11_shownOf 33 = .ok (.invokevirtual 137, 3) := by decide +kernel
theorem dX11_shownOf_36 : decode cX11_shownOf 36 = .ok (.aload_n 0, 1) := by decide +kernel
theorem dX11_shownOf_37 : decode cX11_shownOf 37 = .ok (.getfield 48, 3) := by decide +kernel
theorem dX11_shownOf_40 : decode cX11_shownOf 40 = .ok (.iload 7, 2) := by decide +kernel
theorem dX11_shownOf_42 : decode cX11_shownOf 42 = .ok (.iaload, 1) := by decide +kernel
theorem dX11_shownOf_43 : decode cX11_shownOf 43 = .ok (.if_icmp .eq 6, 3) := by decide +kernel
theorem dX11_shownOf_46 : decode cX11_shownOf 46 = .ok (.goto 44, 3) := by decide +kernel
theorem dX11_shownOf_49 : decode cX11_shownOf 49 = .ok (.iload 4, 2) := by decide +kernel
theorem dX11_shownOf_51 : decode cX11_shownOf 51 = .ok (.iconst 1, 1) := by decide +kernel
theorem dX11_shownOf_52 : decode cX11_shownOf 52 = .ok (.iadd, 1) := by decide +kernel
theorem dX11_shownOf_53 : decode cX11_shownOf 53 = .ok (.istore 4, 2) := by decide +kernel
theorem dX11_shownOf_55 : decode cX11_shownOf 55 = .ok (.aload_n 0, 1) := by decide +kernel
theorem dX11_shownOf_56 : decode cX11_shownOf 56 = .ok (.getfield 45, 3) := by decide +kernel
theorem dX11_shownOf_59 : decode cX11_shownOf 59 = .ok (.iload 7, 2) := by decide +kernel
theorem dX11_shownOf_61 : decode cX11_shownOf 61 = .ok (.iaload, 1) := by decide +kernel
theorem dX11_shownOf_62 : decode cX11_shownOf 62 = .ok (.istore 5, 2) := by decide +kernel
theorem dX11_shownOf_64 : decode cX11_shownOf 64 = .ok (.aload_n 0, 1) := by decide +kernel
theorem dX11_shownOf_65 : decode cX11_shownOf 65 = .ok (.getfield 51, 3) := by decide +kernel
theorem dX11_shownOf_68 : decode cX11_shownOf 68 = .ok (.iload 7, 2) := by decide +kernel
theorem dX11_shownOf_70 : decode cX11_shownOf 70 = .ok (.iaload, 1) := by decide +kernel
theorem dX11_shownOf_71 : decode cX11_shownOf 71 = .ok (.iload 6, 2) := by decide +kernel
theorem dX11_shownOf_73 : decode cX11_shownOf 73 = .ok (.if_icmp .le 13, 3) := by decide +kernel
theorem dX11_shownOf_76 : decode cX11_shownOf 76 = .ok (.aload_n 0, 1) := by decide +kernel
theorem dX11_shownOf_77 : decode cX11_shownOf 77 = .ok (.getfield 51, 3) := by decide +kernel
theorem dX11_shownOf_80 : decode cX11_shownOf 80 = .ok (.iload 7, 2) := by decide +kernel
theorem dX11_shownOf_82 : decode cX11_shownOf 82 = .ok (.iaload, 1) := by decide +kernel
theorem dX11_shownOf_83 : decode cX11_shownOf 83 = .ok (.goto 5, 3) := by decide +kernel
theorem dX11_shownOf_86 : decode cX11_shownOf 86 = .ok (.iload 6, 2) := by decide +kernel
theorem dX11_shownOf_88 : decode cX11_shownOf 88 = .ok (.istore 6, 2) := by decide +kernel
theorem dX11_shownOf_90 : decode cX11_shownOf 90 = .ok (.iinc 7 1, 3) := by decide +kernel
theorem dX11_shownOf_93 : decode cX11_shownOf 93 = .ok (.goto (-79), 3) := by decide +kernel
theorem dX11_shownOf_96 : decode cX11_shownOf 96 = .ok (.iload_n 3, 1) := by decide +kernel
theorem dX11_shownOf_97 : decode cX11_shownOf 97 = .ok (.ifCond .ne 8, 3) := by decide +kernel
theorem dX11_shownOf_100 : decode cX11_shownOf 100 = .ok (.iload 4, 2) := by decide +kernel
theorem dX11_shownOf_102 : decode cX11_shownOf 102 = .ok (.goto 15, 3) := by decide +kernel
theorem dX11_shownOf_105 : decode cX11_shownOf 105 = .ok (.iload_n 3, 1) := by decide +kernel
theorem dX11_shownOf_106 : decode cX11_shownOf 106 = .ok (.iconst 1, 1) := by decide +kernel
theorem dX11_shownOf_107 : decode cX11_shownOf 107 = .ok (.if_icmp .ne 8, 3) := by decide +kernel
theorem dX11_shownOf_110 : decode cX11_shownOf 110 = .ok (.iload 5, 2) := by decide +kernel
theorem dX11_shownOf_112 : decode cX11_shownOf 112 = .ok (.goto 5, 3) := by decide +kernel
theorem dX11_shownOf_115 : decode cX11_shownOf 115 = .ok (.iload 6, 2) := by decide +kernel
theorem dX11_shownOf_117 : decode cX11_shownOf 117 = .ok (.ireturn, 1) := by decide +kernel
set_option maxRecDepth 20000 in
theorem ggX11_shown_X11_isPlace : GoodIn wsX11_shown wsX11_isPlace := goodIn_r _ [5, 6, 7, 8, 9, 10, 4, 11] (by decide +kernel) (by decide +kernel)
set_option maxRecDepth 20000 in
theorem gX11_shown_X11_isPlace : GoodIn wsX11_shown (va_wsS RX11 133 yX11_isPlace wsX11_isPlace) := goodIn_app (goodIn_of _ (by decide +kernel)) ggX11_shown_X11_isPlace
set_option maxRecDepth 20000 in
theorem ggX11_shown_X11_in : GoodIn wsX11_shown wsX11_in := goodIn_r _ [11] (by decide +kernel) (by decide +kernel)
set_option maxRecDepth 20000 in
theorem gX11_shown_X11_in : GoodIn wsX11_shown (va_wsS RX11 72 yX11_in wsX11_in) := goodIn_app (goodIn_of _ (by decide +kernel)) ggX11_shown_X11_in
set_option maxRecDepth 20000 in
theorem ggX11_shown_X11_shownOf : GoodIn wsX11_shown wsX11_shownOf := goodIn_r _ [15, 16, 17, 18, 19, 20, 21, 22, 4, 23, 24, 25, 26, 27, 28, 29, 30, 31, 32, 33, 34, 35, 36, 37, 38, 39, 40, 41, 42, 43, 44, 45, 46, 47, 48, 49, 50, 51, 52, 53, 54, 55, 56, 57, 58, 59, 60, 61, 62, 63, 64, 65, 66, 67, 68, 69, 70, 71, 72, 73, 74, 75, 76, 77, 78, 79, 80, 81, 82, 83, 84, 85, 86, 87, 88, 89, 90, 91, 92, 93, 94, 95, 96, 97, 98, 99, 100, 101, 102, 103, 104, 105, 106] (by decide +kernel) (by decide +kernel)
set_option maxRecDepth 20000 in
theorem gX11_shown_X11_shownOf : GoodIn wsX11_shown (wsV RX11 417 RX11 yX11_shownOf wsX11_shownOf) := goodIn_app (goodIn_of _ (by decide +kernel)) ggX11_shown_X11_shownOf
theorem dX11_shown_0 : decode cX11_shown 0 = .ok (.iload_n 1, 1) := by decide +kernel
theorem dX11_shown_1 : decode cX11_shown 1 = .ok (.iload_n 2, 1) := by decide +kernel
theorem dX11_shown_2 : decode cX11_shown 2 = .ok (.invokestatic 133, 3) := by decide +kernel
theorem dX11_shown_5 : decode cX11_shown 5 = .ok (.ifCond .eq 25, 3) := by decide +kernel
theorem dX11_shown_8 : decode cX11_shown 8 = .ok (.iload_n 3, 1) := by decide +kernel
theorem dX11_shown_9 : decode cX11_shown 9 = .ok (.i2l, 1) := by decide +kernel
theorem dX11_shown_10 : decode cX11_shown 10 = .ok (.lconst 0, 1) := by decide +kernel
theorem dX11_shown_11 : decode cX11_shown 11 = .ok (.ldc2_w 127, 3) := by decide +kernel
theorem dX11_shown_14 : decode cX11_shown 14 = .ok (.invokestatic 72, 3) := by decide +kernel
theorem dX11_shown_17 : decode cX11_shown 17 = .ok (.ifCond .eq 13, 3) := by decide +kernel
theorem dX11_shown_20 : decode cX11_shown 20 = .ok (.aload_n 0, 1) := by decide +kernel
theorem dX11_shown_21 : decode cX11_shown 21 = .ok (.iload_n 1, 1) := by decide +kernel
theorem dX11_shown_22 : decode cX11_shown 22 = .ok (.iload_n 2, 1) := by decide +kernel
theorem dX11_shown_23 : decode cX11_shown 23 = .ok (.iload_n 3, 1) := by decide +kernel
theorem dX11_shown_24 : decode cX11_shown 24 = .ok (.invokevirtual 417, 3) := by decide +kernel
theorem dX11_shown_27 : decode cX11_shown 27 = .ok (.goto 4, 3) := by decide +kernel
theorem dX11_shown_30 : decode cX11_shown 30 = .ok (.iconst (-1), 1) := by decide +kernel
theorem dX11_shown_31 : decode cX11_shown 31 = .ok (.ireturn, 1) := by decide +kernel
set_option maxRecDepth 20000 in
theorem ggX11_isAnyYear_X11_in : GoodIn wsX11_isAnyYear wsX11_in := goodIn_r _ [5] (by decide +kernel) (by decide +kernel)
set_option maxRecDepth 20000 in
theorem gX11_isAnyYear_X11_in : GoodIn wsX11_isAnyYear (va_wsS RX11 72 yX11_in wsX11_in) := goodIn_app (goodIn_of _ (by decide +kernel)) ggX11_isAnyYear_X11_in
theorem dX11_isAnyYear_0 : decode cX11_isAnyYear 0 = .ok (.iload_n 0, 1) := by decide +kernel
theorem dX11_isAnyYear_1 : decode cX11_isAnyYear 1 = .ok (.i2l, 1) := by decide +kernel
theorem dX11_isAnyYear_2 : decode cX11_isAnyYear 2 = .ok (.lconst 0, 1) := by decide +kernel
theorem dX11_isAnyYear_3 : decode cX11_isAnyYear 3 = .ok (.ldc2_w 403, 3) := by decide +kernel
theorem dX11_isAnyYear_6 : decode cX11_isAnyYear 6 = .ok (.invokestatic 72, 3) := by decide +kernel
theorem dX11_isAnyYear_9 : decode cX11_isAnyYear 9 = .ok (.ireturn, 1) := by decide +kernel
set_option maxRecDepth 20000 in
theorem ggX11_isLacking_X11_middleOf : GoodIn wsX11_isLacking wsX11_middleOf := goodIn_r _ [5, 6, 7, 8, 9, 10, 11, 12, 13, 14, 4, 15, 16, 17, 18, 19, 20, 21, 22, 23, 24, 25, 26, 27, 28, 29, 30, 31, 32, 33, 34, 35, 36, 37, 38, 39, 40, 41, 42, 43, 44, 45, 46, 47, 48, 49, 50, 51, 52, 53, 54, 55, 56, 57, 58, 59, 60, 61, 62, 63, 64, 65, 66, 89, 90, 91, 92, 93, 94, 95, 96, 97, 98, 99, 100, 101, 102, 103, 104, 105, 106, 107, 108, 109, 110, 111, 112, 113, 114, 115, 116, 117, 118, 119, 120, 121, 122, 123, 124, 125, 126, 127, 128, 129, 130] (by decide +kernel) (by decide +kernel)
set_option maxRecDepth 20000 in
theorem gX11_isLacking_X11_middleOf : GoodIn wsX11_isLacking (wsV RX11 250 RX11 yX11_middleOf wsX11_middleOf) := goodIn_app (goodIn_of _ (by decide +kernel)) ggX11_isLacking_X11_middleOf
set_option maxRecDepth 20000 in
theorem ggX11_isLacking_X11_shownOf : GoodIn wsX11_isLacking wsX11_shownOf := goodIn_r _ [70, 71, 72, 73, 74, 75, 76, 77, 4, 78, 79, 80, 81, 82, 83, 84, 20, 37, 38, 39, 40, 41, 42, 43, 44, 48, 49, 50, 51, 21, 52, 53, 54, 55, 45, 46, 47, 85, 86, 87, 88, 27, 60, 61, 62, 63, 22, 16, 17, 18, 19, 89, 90, 91, 92, 93, 94, 95, 96, 97, 98, 99, 100, 101, 102, 103, 104, 105, 106, 107, 108, 109, 110, 111, 112, 113, 114, 115, 116, 117, 118, 119, 120, 121, 122, 123, 124, 125, 126, 127, 128, 129, 130] (by decide +kernel) (by decide +kernel)
set_option maxRecDepth 20000 in
theorem gX11_isLacking_X11_shownOf : GoodIn wsX11_isLacking (wsV RX11 417 RX11 yX11_shownOf wsX11_shownOf) := goodIn_app (goodIn_of _ (by decide +kernel)) ggX11_isLacking_X11_shownOf
theorem dX11_isLacking_0 : decode cX11_isLacking 0 = .ok (.aload_n 0, 1) := by decide +kernel
theorem dX11_isLacking_1 : decode cX11_isLacking 1 = .ok (.aload_n 0, 1) := by decide +kernel
theorem dX11_isLacking_2 : decode cX11_isLacking 2 = .ok (.iload_n 1, 1) := by decide +kernel
theorem dX11_isLacking_3 : decode cX11_isLacking 3 = .ok (.iload_n 2, 1) := by decide +kernel
theorem dX11_isLacking_4 : decode cX11_isLacking 4 = .ok (.iconst 0, 1) := by decide +kernel
theorem dX11_isLacking_5 : decode cX11_isLacking 5 = .ok (.invokevirtual 250, 3) := by decide +kernel
theorem dX11_isLacking_8 : decode cX11_isLacking 8 = .ok (.aload_n 0, 1) := by decide +kernel
theorem dX11_isLacking_9 : decode cX11_isLacking 9 = .ok (.iload_n 1, 1) := by decide +kernel
theorem dX11_isLacking_10 : decode cX11_isLacking 10 = .ok (.iload_n 2, 1) := by decide +kernel
theorem dX11_isLacking_11 : decode cX11_isLacking 11 = .ok (.iconst 1, 1) := by decide +kernel
theorem dX11_isLacking_12 : decode cX11_isLacking 12 = .ok (.invokevirtual 250, 3) := by decide +kernel
theorem dX11_isLacking_15 : decode cX11_isLacking 15 = .ok (.iconst 2, 1) := by decide +kernel
theorem dX11_isLacking_16 : decode cX11_isLacking 16 = .ok (.invokevirtual 417, 3) := by decide +kernel
theorem dX11_isLacking_19 : decode cX11_isLacking 19 = .ok (.istore 4, 2) := by decide +kernel
theorem dX11_isLacking_21 : decode cX11_isLacking 21 = .ok (.iload 4, 2) := by decide +kernel
theorem dX11_isLacking_23 : decode cX11_isLacking 23 = .ok (.iload_n 3, 1) := by decide +kernel
theorem dX11_isLacking_24 : decode cX11_isLacking 24 = .ok (.if_icmp .lt 10, 3) := by decide +kernel
theorem dX11_isLacking_27 : decode cX11_isLacking 27 = .ok (.iload 4, 2) := by decide +kernel
theorem dX11_isLacking_29 : decode cX11_isLacking 29 = .ok (.bipush (-2), 2) := by decide +kernel
theorem dX11_isLacking_31 : decode cX11_isLacking 31 = .ok (.if_icmp .ne 7, 3) := by decide +kernel
theorem dX11_isLacking_34 : decode cX11_isLacking 34 = .ok (.iconst 1, 1) := by decide +kernel
theorem dX11_isLacking_35 : decode cX11_isLacking 35 = .ok (.goto 4, 3) := by decide +kernel
theorem dX11_isLacking_38 : decode cX11_isLacking 38 = .ok (.iconst 0, 1) := by decide +kernel
theorem dX11_isLacking_39 : decode cX11_isLacking 39 = .ok (.ireturn, 1) := by decide +kernel
set_option maxRecDepth 20000 in
theorem ggX11_lacks_X11_isBox : GoodIn wsX11_lacks wsX11_isBox := goodIn_r _ [7, 8, 9, 6, 10, 11, 12, 13, 14, 15, 16] (by decide +kernel) (by decide +kernel)
set_option maxRecDepth 20000 in
theorem gX11_lacks_X11_isBox : GoodIn wsX11_lacks (wsV RX11 319 RX11 yX11_isBox wsX11_isBox) := goodIn_app (goodIn_of _ (by decide +kernel)) ggX11_lacks_X11_isBox
set_option maxRecDepth 20000 in
theorem ggX11_lacks_X11_isLevel : GoodIn wsX11_lacks wsX11_isLevel := goodIn_r _ [19, 20, 14, 15, 6, 16] (by decide +kernel) (by decide +kernel)
set_option maxRecDepth 20000 in
theorem gX11_lacks_X11_isLevel : GoodIn wsX11_lacks (va_wsS RX11 84 yX11_isLevel wsX11_isLevel) := goodIn_app (goodIn_of _ (by decide +kernel)) ggX11_lacks_X11_isLevel
set_option maxRecDepth 20000 in
theorem ggX11_lacks_X11_isAnyYear : GoodIn wsX11_lacks wsX11_isAnyYear := goodIn_r _ [23, 24, 14, 15, 6, 16] (by decide +kernel) (by decide +kernel)
set_option maxRecDepth 20000 in
theorem gX11_lacks_X11_isAnyYear : GoodIn wsX11_lacks (va_wsS RX11 420 yX11_isAnyYear wsX11_isAnyYear) := goodIn_app (goodIn_of _ (by decide +kernel)) ggX11_lacks_X11_isAnyYear
set_option maxRecDepth 20000 in
theorem ggX11_lacks_X11_laysBox : GoodIn wsX11_lacks wsX11_laysBox := goodIn_r _ [28, 29, 1, 2, 30, 31, 32, 33, 34, 6, 35, 36, 37, 38, 39, 40, 41, 42, 43, 44, 45, 46, 133, 134, 135, 136, 137, 138, 139, 140, 141, 142, 143, 144, 145, 146, 147, 148, 149, 150, 151, 152, 153, 154, 155, 156, 157, 158, 159, 160, 161, 162, 163, 164, 165, 166, 167, 168, 169, 170, 171, 172, 173, 174] (by decide +kernel) (by decide +kernel)
set_option maxRecDepth 20000 in
theorem gX11_lacks_X11_laysBox : GoodIn wsX11_lacks (wsV RX11 323 RX11 yX11_laysBox wsX11_laysBox) := goodIn_app (goodIn_of _ (by decide +kernel)) ggX11_lacks_X11_laysBox
set_option maxRecDepth 20000 in
theorem ggX11_lacks_X11_boxAll : GoodIn wsX11_lacks wsX11_boxAll := goodIn_r _ [50, 1, 2, 29, 38, 39, 40, 41, 6, 42, 43, 44, 45, 46, 51, 52, 53, 54, 55, 56, 57, 58, 30, 31, 59, 60, 61, 62, 63, 64, 65, 66, 67, 68, 69, 70, 71, 133, 134, 135, 136, 137, 138, 139, 140, 141, 142, 143, 144, 145, 146, 147, 148, 149, 150, 151, 152, 153, 154, 155, 156, 157, 158, 159, 160, 161, 162, 163, 164, 165, 166, 167, 168, 169, 170, 171, 172, 173, 174] (by decide +kernel) (by decide +kernel)
set_option maxRecDepth 20000 in
theorem gX11_lacks_X11_boxAll : GoodIn wsX11_lacks (wsV RX11 327 RX11 yX11_boxAll wsX11_boxAll) := goodIn_app (goodIn_of _ (by decide +kernel)) ggX11_lacks_X11_boxAll
set_option maxRecDepth 20000 in
theorem ggX11_lacks_X11_boxMany : GoodIn wsX11_lacks wsX11_boxMany := goodIn_r _ [58, 29, 30, 31, 59, 60, 61, 6, 62, 63, 39, 40, 41, 42, 43, 44, 45, 46, 38, 51, 52, 53, 54, 64, 65, 66, 67, 68, 69, 70, 71, 133, 134, 135, 136, 137, 138, 139, 140, 141, 142, 143, 144, 145, 146, 147, 148, 149, 150, 151, 152, 153, 154, 155, 156, 157, 158, 159, 160, 161, 162, 163, 164, 165, 166, 167, 168, 169, 170, 171, 172, 173, 174] (by decide +kernel) (by decide +kernel)
set_option maxRecDepth 20000 in
theorem gX11_lacks_X11_boxMany : GoodIn wsX11_lacks (wsV RX11 313 RX11 yX11_boxMany wsX11_boxMany) := goodIn_app (goodIn_of _ (by decide +kernel)) ggX11_lacks_X11_boxMany
set_option maxRecDepth 20000 in
theorem ggX11_lacks_X11_westOf : GoodIn wsX11_lacks wsX11_westOf := goodIn_r _ [75, 30, 29, 59, 60, 61, 6, 62, 63, 39, 40, 41, 42, 43, 44, 45, 46, 38, 51, 52, 53, 54, 64, 65, 66, 67, 68, 69, 70, 71, 133, 134, 135, 136, 137, 138, 139, 140, 141, 142, 143, 144, 145, 146, 147, 148, 149, 150, 151, 152, 153, 154, 155, 156, 157, 158, 159, 160, 161, 162, 163, 164, 165, 166, 167, 168, 169, 170, 171, 172, 173, 174] (by decide +kernel) (by decide +kernel)
set_option maxRecDepth 20000 in
theorem gX11_lacks_X11_westOf : GoodIn wsX11_lacks (wsV RX11 316 RX11 yX11_westOf wsX11_westOf) := goodIn_app (goodIn_of _ (by decide +kernel)) ggX11_lacks_X11_westOf
set_option maxRecDepth 20000 in
theorem ggX11_lacks_X11_many : GoodIn wsX11_lacks wsX11_many := goodIn_r _ [62, 63, 39, 40, 41, 6, 42, 43, 44, 45, 46, 38, 51, 52, 53, 54, 64, 65, 66, 133, 134, 135, 136, 137, 138, 139, 140, 141, 142, 143, 144, 145, 146, 147, 148, 149, 150, 151, 152, 153, 154, 155, 156, 157, 158, 159, 160, 161, 162, 163, 164, 165, 166, 167, 168, 169, 170, 171, 172, 173, 174] (by decide +kernel) (by decide +kernel)
set_option maxRecDepth 20000 in
theorem gX11_lacks_X11_many : GoodIn wsX11_lacks (wsV RX11 115 RX11 yX11_many wsX11_many) := goodIn_app (goodIn_of _ (by decide +kernel)) ggX11_lacks_X11_many
set_option maxRecDepth 20000 in
theorem ggX11_lacks_X11_keyOf : GoodIn wsX11_lacks wsX11_keyOf := goodIn_r _ [79, 63, 38, 80, 39, 40, 41, 6, 42, 43, 44, 45, 46, 81, 82, 83, 84, 51, 52, 53, 54, 64, 65, 66, 133, 134, 135, 136, 137, 138, 139, 140, 141, 142, 143, 144, 145, 146, 147, 148, 149, 150, 151, 152, 153, 154, 155, 156, 157, 158, 159, 160, 161, 162, 163, 164, 165, 166, 167, 168, 169, 170, 171, 172, 173, 174] (by decide +kernel) (by decide +kernel)
set_option maxRecDepth 20000 in
theorem gX11_lacks_X11_keyOf : GoodIn wsX11_lacks (wsV RX11 104 RX11 yX11_keyOf wsX11_keyOf) := goodIn_app (goodIn_of _ (by decide +kernel)) ggX11_lacks_X11_keyOf
set_option maxRecDepth 20000 in
theorem ggX11_lacks_X11_isLacking : GoodIn wsX11_lacks wsX11_isLacking := goodIn_r _ [88, 89, 90, 91, 6, 92, 93, 94, 95, 96, 97, 98, 99, 100, 101, 102, 81, 82, 83, 84, 38, 63, 80, 103, 104, 105, 106, 71, 107, 12, 11, 108, 109, 110, 111, 112, 113, 39, 40, 41, 42, 43, 44, 45, 46, 64, 65, 66, 59, 60, 61, 62, 51, 52, 53, 54, 114, 115, 116, 117, 76, 77, 78, 79, 118, 119, 120, 121, 122, 123, 124, 125, 126, 127, 128, 129, 130, 131, 132, 32, 33, 34, 35, 36, 37, 67, 68, 69, 70, 133, 134, 135, 136, 137, 138, 139, 140, 141, 142, 143, 144, 145, 146, 147, 148, 149, 150, 151, 152, 153, 154, 155, 156, 157, 158, 159, 160, 161, 162, 163, 164, 165, 166, 167, 168, 169, 170, 171, 172, 173, 174] (by decide +kernel) (by decide +kernel)
set_option maxRecDepth 20000 in
theorem gX11_lacks_X11_isLacking : GoodIn wsX11_lacks (wsV RX11 423 RX11 yX11_isLacking wsX11_isLacking) := goodIn_app (goodIn_of _ (by decide +kernel)) ggX11_lacks_X11_isLacking
theorem dX11_lacks_0 : decode cX11_lacks 0 = .ok (.aload_n 0, 1) := by decide +kernel
theorem dX11_lacks_1 : decode cX11_lacks 1 = .ok (.iload_n 1, 1) := by decide +kernel
theorem dX11_lacks_2 : decode cX11_lacks 2 = .ok (.iload_n 2, 1) := by decide +kernel
theorem dX11_lacks_3 : decode cX11_lacks 3 = .ok (.iload_n 3, 1) := by decide +kernel
theorem dX11_lacks_4 : decode cX11_lacks 4 = .ok (.iload 4, 2) := by decide +kernel
theorem dX11_lacks_6 : decode cX11_lacks 6 = .ok (.invokevirtual 319, 3) := by decide +kernel
theorem dX11_lacks_9 : decode cX11_lacks 9 = .ok (.ifCond .eq 25, 3) := by decide +kernel
theorem dX11_lacks_12 : decode cX11_lacks 12 = .ok (.iload 5, 2) := by decide +kernel
theorem dX11_lacks_14 : decode cX11_lacks 14 = .ok (.invokestatic 84, 3) := by decide +kernel
theorem dX11_lacks_17 : decode cX11_lacks 17 = .ok (.ifCond .eq 17, 3) := by decide +kernel
theorem dX11_lacks_20 : decode cX11_lacks 20 = .ok (.iload 6, 2) := by decide +kernel
theorem dX11_lacks_22 : decode cX11_lacks 22 = .ok (.invokestatic 420, 3) := by decide +kernel
theorem dX11_lacks_25 : decode cX11_lacks 25 = .ok (.ifCond .eq 9, 3) := by decide +kernel
theorem dX11_lacks_28 : decode cX11_lacks 28 = .ok (.iload 7, 2) := by decide +kernel
theorem dX11_lacks_30 : decode cX11_lacks 30 = .ok (.iconst (-1), 1) := by decide +kernel
theorem dX11_lacks_31 : decode cX11_lacks 31 = .ok (.if_icmp .ge 5, 3) := by decide +kernel
theorem dX11_lacks_34 : decode cX11_lacks 34 = .ok (.iconst (-1), 1) := by decide +kernel
theorem dX11_lacks_35 : decode cX11_lacks 35 = .ok (.ireturn, 1) := by decide +kernel
theorem dX11_lacks_36 : decode cX11_lacks 36 = .ok (.aload_n 0, 1) := by decide +kernel
theorem dX11_lacks_37 : decode cX11_lacks 37 = .ok (.iload_n 1, 1) := by decide +kernel
theorem dX11_lacks_38 : decode cX11_lacks 38 = .ok (.iload_n 2, 1) := by decide +kernel
theorem dX11_lacks_39 : decode cX11_lacks 39 = .ok (.iload_n 3, 1) := by decide +kernel
theorem dX11_lacks_40 : decode cX11_lacks 40 = .ok (.iload 4, 2) := by decide +kernel
theorem dX11_lacks_42 : decode cX11_lacks 42 = .ok (.iload 5, 2) := by decide +kernel
theorem dX11_lacks_44 : decode cX11_lacks 44 = .ok (.invokevirtual 323, 3) := by decide +kernel
theorem dX11_lacks_47 : decode cX11_lacks 47 = .ok (.aload_n 0, 1) := by decide +kernel
theorem dX11_lacks_48 : decode cX11_lacks 48 = .ok (.invokevirtual 327, 3) := by decide +kernel
theorem dX11_lacks_51 : decode cX11_lacks 51 = .ok (.sipush 4000, 3) := by decide +kernel
theorem dX11_lacks_54 : decode cX11_lacks 54 = .ok (.if_icmp .le 6, 3) := by decide +kernel
theorem dX11_lacks_57 : decode cX11_lacks 57 = .ok (.bipush (-2), 2) := by decide +kernel
theorem dX11_lacks_59 : decode cX11_lacks 59 = .ok (.ireturn, 1) := by decide +kernel
theorem dX11_lacks_60 : decode cX11_lacks 60 = .ok (.iconst 0, 1) := by decide +kernel
theorem dX11_lacks_61 : decode cX11_lacks 61 = .ok (.istore 8, 2) := by decide +kernel
theorem dX11_lacks_63 : decode cX11_lacks 63 = .ok (.aload_n 0, 1) := by decide +kernel
theorem dX11_lacks_64 : decode cX11_lacks 64 = .ok (.getfield 301, 3) := by decide +kernel
theorem dX11_lacks_67 : decode cX11_lacks 67 = .ok (.istore 9, 2) := by decide +kernel
theorem dX11_lacks_69 : decode cX11_lacks 69 = .ok (.iload 9, 2) := by decide +kernel
theorem dX11_lacks_71 : decode cX11_lacks 71 = .ok (.aload_n 0, 1) := by decide +kernel
theorem dX11_lacks_72 : decode cX11_lacks 72 = .ok (.getfield 304, 3) := by decide +kernel
theorem dX11_lacks_75 : decode cX11_lacks 75 = .ok (.if_icmp .gt 89, 3) := by decide +kernel
theorem dX11_lacks_78 : decode cX11_lacks 78 = .ok (.iconst 0, 1) := by decide +kernel
theorem dX11_lacks_79 : decode cX11_lacks 79 = .ok (.istore 10, 2) := by decide +kernel
theorem dX11_lacks_81 : decode cX11_lacks 81 = .ok (.iload 10, 2) := by decide +kernel
theorem dX11_lacks_83 : decode cX11_lacks 83 = .ok (.aload_n 0, 1) := by decide +kernel
theorem dX11_lacks_84 : decode cX11_lacks 84 = .ok (.iload 9, 2) := by decide +kernel
theorem dX11_lacks_86 : decode cX11_lacks 86 = .ok (.invokevirtual 313, 3) := by decide +kernel
theorem dX11_lacks_89 : decode cX11_lacks 89 = .ok (.if_icmp .ge 69, 3) := by decide +kernel
theorem dX11_lacks_92 : decode cX11_lacks 92 = .ok (.aload_n 0, 1) := by decide +kernel
theorem dX11_lacks_93 : decode cX11_lacks 93 = .ok (.iload 5, 2) := by decide +kernel
theorem dX11_lacks_95 : decode cX11_lacks 95 = .ok (.iload 9, 2) := by decide +kernel
theorem dX11_lacks_97 : decode cX11_lacks 97 = .ok (.aload_n 0, 1) := by decide +kernel
theorem dX11_lacks_98 : decode cX11_lacks 98 = .ok (.iload 9, 2) := by decide +kernel
theorem dX11_lacks_100 : decode cX11_lacks 100 = .ok (.invokevirtual 316, 3) := by decide +kernel
theorem dX11_lacks_103 : decode cX11_lacks 103 = .ok (.iload 10, 2) := by decide +kernel
theorem dX11_lacks_105 : decode cX11_lacks 105 = .ok (.iadd, 1) := by decide +kernel
theorem dX11_lacks_106 : decode cX11_lacks 106 = .ok (.aload_n 0, 1) := by decide +kernel
theorem dX11_lacks_107 : decode cX11_lacks 107 = .ok (.iload 5, 2) := by decide +kernel
theorem dX11_lacks_109 : decode cX11_lacks 109 = .ok (.iload 9, 2) := by decide +kernel
theorem dX11_lacks_111 : decode cX11_lacks 111 = .ok (.invokevirtual 115, 3) := by decide +kernel
theorem dX11_lacks_114 : decode cX11_lacks 114 = .ok (.irem, 1) := by decide +kernel
theorem dX11_lacks_115 : decode cX11_lacks 115 = .ok (.invokevirtual 104, 3) := by decide +kernel
theorem dX11_lacks_118 : decode cX11_lacks 118 = .ok (.istore 11, 2) := by decide +kernel
theorem dX11_lacks_120 : decode cX11_lacks 120 = .ok (.aload_n 0, 1) := by decide +kernel
theorem dX11_lacks_121 : decode cX11_lacks 121 = .ok (.iload 5, 2) := by decide +kernel
theorem dX11_lacks_123 : decode cX11_lacks 123 = .ok (.iload 11, 2) := by decide +kernel
theorem dX11_lacks_125 : decode cX11_lacks 125 = .ok (.iload 6, 2) := by decide +kernel
theorem dX11_lacks_127 : decode cX11_lacks 127 = .ok (.invokevirtual 423, 3) := by decide +kernel
theorem dX11_lacks_130 : decode cX11_lacks 130 = .ok (.ifCond .ne 6, 3) := by decide +kernel
theorem dX11_lacks_133 : decode cX11_lacks 133 = .ok (.goto 19, 3) := by decide +kernel
theorem dX11_lacks_136 : decode cX11_lacks 136 = .ok (.iload 8, 2) := by decide +kernel
theorem dX11_lacks_138 : decode cX11_lacks 138 = .ok (.iload 7, 2) := by decide +kernel
theorem dX11_lacks_140 : decode cX11_lacks 140 = .ok (.if_icmp .ne 6, 3) := by decide +kernel
theorem dX11_lacks_143 : decode cX11_lacks 143 = .ok (.iload 11, 2) := by decide +kernel
theorem dX11_lacks_145 : decode cX11_lacks 145 = .ok (.ireturn, 1) := by decide +kernel
theorem dX11_lacks_146 : decode cX11_lacks 146 = .ok (.iload 8, 2) := by decide +kernel
theorem dX11_lacks_148 : decode cX11_lacks 148 = .ok (.iconst 1, 1) := by decide +kernel
theorem dX11_lacks_149 : decode cX11_lacks 149 = .ok (.iadd, 1) := by decide +kernel
theorem dX11_lacks_150 : decode cX11_lacks 150 = .ok (.istore 8, 2) := by decide +kernel
theorem dX11_lacks_152 : decode cX11_lacks 152 = .ok (.iinc 10 1, 3) := by decide +kernel
theorem dX11_lacks_155 : decode cX11_lacks 155 = .ok (.goto (-74), 3) := by decide +kernel
theorem dX11_lacks_158 : decode cX11_lacks 158 = .ok (.iinc 9 1, 3) := by decide +kernel
theorem dX11_lacks_161 : decode cX11_lacks 161 = .ok (.goto (-92), 3) := by decide +kernel
theorem dX11_lacks_164 : decode cX11_lacks 164 = .ok (.iload 7, 2) := by decide +kernel
theorem dX11_lacks_166 : decode cX11_lacks 166 = .ok (.iconst (-1), 1) := by decide +kernel
theorem dX11_lacks_167 : decode cX11_lacks 167 = .ok (.if_icmp .ne 8, 3) := by decide +kernel
theorem dX11_lacks_170 : decode cX11_lacks 170 = .ok (.iload 8, 2) := by decide +kernel
theorem dX11_lacks_172 : decode cX11_lacks 172 = .ok (.goto 5, 3) := by decide +kernel
theorem dX11_lacks_175 : decode cX11_lacks 175 = .ok (.bipush (-3), 2) := by decide +kernel
theorem dX11_lacks_177 : decode cX11_lacks 177 = .ok (.ireturn, 1) := by decide +kernel
set_option maxRecDepth 20000 in
theorem ggX11_years_X11_isAnyYear : GoodIn wsX11_years wsX11_isAnyYear := goodIn_r _ [8, 1, 9, 10, 7, 11] (by decide +kernel) (by decide +kernel)
set_option maxRecDepth 20000 in
theorem gX11_years_X11_isAnyYear : GoodIn wsX11_years (va_wsS RX11 420 yX11_isAnyYear wsX11_isAnyYear) := goodIn_app (goodIn_of _ (by decide +kernel)) ggX11_years_X11_isAnyYear
set_option maxRecDepth 20000 in
theorem ggX11_years_X11_in : GoodIn wsX11_years wsX11_in := goodIn_r _ [11] (by decide +kernel) (by decide +kernel)
set_option maxRecDepth 20000 in
theorem gX11_years_X11_in : GoodIn wsX11_years (va_wsS RX11 72 yX11_in wsX11_in) := goodIn_app (goodIn_of _ (by decide +kernel)) ggX11_years_X11_in
theorem dX11_years_0 : decode cX11_years 0 = .ok (.iload_n 1, 1) := by decide +kernel
theorem dX11_years_1 : decode cX11_years 1 = .ok (.invokestatic 420, 3) := by decide +kernel
theorem dX11_years_4 : decode cX11_years 4 = .ok (.ifCond .eq 28, 3) := by decide +kernel
theorem dX11_years_7 : decode cX11_years 7 = .ok (.iload_n 2, 1) := by decide +kernel
theorem dX11_years_8 : decode cX11_years 8 = .ok (.i2l, 1) := by decide +kernel
theorem dX11_years_9 : decode cX11_years 9 = .ok (.iload_n 1, 1) := by decide +kernel
theorem dX11_years_10 : decode cX11_years 10 = .ok (.i2l, 1) := by decide +kernel
theorem dX11_years_11 : decode cX11_years 11 = .ok (.ldc2_w 403, 3) := by decide +kernel
theorem dX11_years_14 : decode cX11_years 14 = .ok (.invokestatic 72, 3) := by decide +kernel
theorem dX11_years_17 : decode cX11_years 17 = .ok (.ifCond .eq 15, 3) := by decide +kernel
theorem dX11_years_20 : decode cX11_years 20 = .ok (.iload_n 3, 1) := by decide +kernel
theorem dX11_years_21 : decode cX11_years 21 = .ok (.i2l, 1) := by decide +kernel
theorem dX11_years_22 : decode cX11_years 22 = .ok (.lconst 0, 1) := by decide +kernel
theorem dX11_years_23 : decode cX11_years 23 = .ok (.ldc2_w 127, 3) := by decide +kernel
theorem dX11_years_26 : decode cX11_years 26 = .ok (.invokestatic 72, 3) := by decide +kernel
theorem dX11_years_29 : decode cX11_years 29 = .ok (.ifCond .ne 5, 3) := by decide +kernel
theorem dX11_years_32 : decode cX11_years 32 = .ok (.iconst (-1), 1) := by decide +kernel
theorem dX11_years_33 : decode cX11_years 33 = .ok (.ireturn, 1) := by decide +kernel
theorem dX11_years_34 : decode cX11_years 34 = .ok (.iconst 0, 1) := by decide +kernel
theorem dX11_years_35 : decode cX11_years 35 = .ok (.istore 4, 2) := by decide +kernel
theorem dX11_years_37 : decode cX11_years 37 = .ok (.bipush (-2), 2) := by decide +kernel
theorem dX11_years_39 : decode cX11_years 39 = .ok (.istore 5, 2) := by decide +kernel
theorem dX11_years_41 : decode cX11_years 41 = .ok (.bipush (-2), 2) := by decide +kernel
theorem dX11_years_43 : decode cX11_years 43 = .ok (.istore 6, 2) := by decide +kernel
theorem dX11_years_45 : decode cX11_years 45 = .ok (.iconst 0, 1) := by decide +kernel
theorem dX11_years_46 : decode cX11_years 46 = .ok (.istore 7, 2) := by decide +kernel
theorem dX11_years_48 : decode cX11_years 48 = .ok (.iload 7, 2) := by decide +kernel
theorem dX11_years_50 : decode cX11_years 50 = .ok (.aload_n 0, 1) := by decide +kernel
theorem dX11_years_51 : decode cX11_years 51 = .ok (.getfield 123, 3) := by decide +kernel
theorem dX11_years_54 : decode cX11_years 54 = .ok (.if_icmp .ge 95, 3) := by decide +kernel
theorem dX11_years_57 : decode cX11_years 57 = .ok (.aload_n 0, 1) := by decide +kernel
theorem dX11_years_58 : decode cX11_years 58 = .ok (.getfield 51, 3) := by decide +kernel
theorem dX11_years_61 : decode cX11_years 61 = .ok (.iload 7, 2) := by decide +kernel
theorem dX11_years_63 : decode cX11_years 63 = .ok (.iaload, 1) := by decide +kernel
theorem dX11_years_64 : decode cX11_years 64 = .ok (.i2l, 1) := by decide +kernel
theorem dX11_years_65 : decode cX11_years 65 = .ok (.iload_n 1, 1) := by decide +kernel
theorem dX11_years_66 : decode cX11_years 66 = .ok (.i2l, 1) := by decide +kernel
theorem dX11_years_67 : decode cX11_years 67 = .ok (.iload_n 2, 1) := by decide +kernel
theorem dX11_years_68 : decode cX11_years 68 = .ok (.i2l, 1) := by decide +kernel
theorem dX11_years_69 : decode cX11_years 69 = .ok (.invokestatic 72, 3) := by decide +kernel
theorem dX11_years_72 : decode cX11_years 72 = .ok (.ifCond .ne 6, 3) := by decide +kernel
theorem dX11_years_75 : decode cX11_years 75 = .ok (.goto 68, 3) := by decide +kernel
theorem dX11_years_78 : decode cX11_years 78 = .ok (.iload 4, 2) := by decide +kernel
theorem dX11_years_80 : decode cX11_years 80 = .ok (.iconst 1, 1) := by decide +kernel
theorem dX11_years_81 : decode cX11_years 81 = .ok (.iadd, 1) := by decide +kernel
theorem dX11_years_82 : decode cX11_years 82 = .ok (.istore 4, 2) := by decide +kernel
theorem dX11_years_84 : decode cX11_years 84 = .ok (.iload 5, 2) := by decide +kernel
theorem dX11_years_86 : decode cX11_years 86 = .ok (.bipush (-2), 2) := by decide +kernel
theorem dX11_years_88 : decode cX11_years 88 = .ok (.if_icmp .eq 15, 3) := by decide +kernel
theorem dX11_years_91 : decode cX11_years 91 = .ok (.aload_n 0, 1) := by decide +kernel
theorem dX11_years_92 : decode cX11_years 92 = .ok (.getfield 51, 3) := by decide +kernel
theorem dX11_years_95 : decode cX11_years 95 = .ok (.iload 7, 2) := by decide +kernel
theorem dX11_years_97 : decode cX11_years 97 = .ok (.iaload, 1) := by decide +kernel
theorem dX11_years_98 : decode cX11_years 98 = .ok (.iload 5, 2) := by decide +kernel
theorem dX11_years_100 : decode cX11_years 100 = .ok (.if_icmp .ge 13, 3) := by decide +kernel
theorem dX11_years_103 : decode cX11_years 103 = .ok (.aload_n 0, 1) := by decide +kernel
theorem dX11_years_104 : decode cX11_years 104 = .ok (.getfield 51, 3) := by decide +kernel
theorem dX11_years_107 : decode cX11_years 107 = .ok (.iload 7, 2) := by decide +kernel
theorem dX11_years_109 : decode cX11_years 109 = .ok (.iaload, 1) := by decide +kernel
theorem dX11_years_110 : decode cX11_years 110 = .ok (.goto 5, 3) := by decide +kernel
theorem dX11_years_113 : decode cX11_years 113 = .ok (.iload 5, 2) := by decide +kernel
theorem dX11_years_115 : decode cX11_years 115 = .ok (.istore 5, 2) := by decide +kernel
theorem dX11_years_117 : decode cX11_years 117 = .ok (.aload_n 0, 1) := by decide +kernel
theorem dX11_years_118 : decode cX11_years 118 = .ok (.getfield 51, 3) := by decide +kernel
theorem dX11_years_121 : decode cX11_years 121 = .ok (.iload 7, 2) := by decide +kernel
theorem dX11_years_123 : decode cX11_years 123 = .ok (.iaload, 1) := by decide +kernel
theorem dX11_years_124 : decode cX11_years 124 = .ok (.iload 6, 2) := by decide +kernel
theorem dX11_years_126 : decode cX11_years 126 = .ok (.if_icmp .le 13, 3) := by decide +kernel
theorem dX11_years_129 : decode cX11_years 129 = .ok (.aload_n 0, 1) := by decide +kernel
theorem dX11_years_130 : decode cX11_years 130 = .ok (.getfield 51, 3) := by decide +kernel
theorem dX11_years_133 : decode cX11_years 133 = .ok (.iload 7, 2) := by decide +kernel
theorem dX11_years_135 : decode cX11_years 135 = .ok (.iaload, 1) := by decide +kernel
theorem dX11_years_136 : decode cX11_years 136 = .ok (.goto 5, 3) := by decide +kernel
theorem dX11_years_139 : decode cX11_years 139 = .ok (.iload 6, 2) := by decide +kernel
theorem dX11_years_141 : decode cX11_years 141 = .ok (.istore 6, 2) := by decide +kernel
theorem dX11_years_143 : decode cX11_years 143 = .ok (.iinc 7 1, 3) := by decide +kernel
theorem dX11_years_146 : decode cX11_years 146 = .ok (.goto (-98), 3) := by decide +kernel
theorem dX11_years_149 : decode cX11_years 149 = .ok (.iload_n 3, 1) := by decide +kernel
theorem dX11_years_150 : decode cX11_years 150 = .ok (.ifCond .ne 8, 3) := by decide +kernel
theorem dX11_years_153 : decode cX11_years 153 = .ok (.iload 4, 2) := by decide +kernel
theorem dX11_years_155 : decode cX11_years 155 = .ok (.goto 15, 3) := by decide +kernel
theorem dX11_years_158 : decode cX11_years 158 = .ok (.iload_n 3, 1) := by decide +kernel
theorem dX11_years_159 : decode cX11_years 159 = .ok (.iconst 1, 1) := by decide +kernel
theorem dX11_years_160 : decode cX11_years 160 = .ok (.if_icmp .ne 8, 3) := by decide +kernel
theorem dX11_years_163 : decode cX11_years 163 = .ok (.iload 5, 2) := by decide +kernel
theorem dX11_years_165 : decode cX11_years 165 = .ok (.goto 5, 3) := by decide +kernel
theorem dX11_years_168 : decode cX11_years 168 = .ok (.iload 6, 2) := by decide +kernel
theorem dX11_years_170 : decode cX11_years 170 = .ok (.ireturn, 1) := by decide +kernel
set_option maxRecDepth 20000 in
theorem ggX11_renew_X11_isLevel : GoodIn wsX11_renew wsX11_isLevel := goodIn_r _ [7, 8, 9, 10, 6, 11] (by decide +kernel) (by decide +kernel)
set_option maxRecDepth 20000 in
theorem gX11_renew_X11_isLevel : GoodIn wsX11_renew (va_wsS RX11 84 yX11_isLevel wsX11_isLevel) := goodIn_app (goodIn_of _ (by decide +kernel)) ggX11_renew_X11_isLevel
set_option maxRecDepth 20000 in
theorem ggX11_renew_X11_isYear : GoodIn wsX11_renew wsX11_isYear := goodIn_r _ [14, 15, 16, 9, 10, 6, 11] (by decide +kernel) (by decide +kernel)
set_option maxRecDepth 20000 in
theorem gX11_renew_X11_isYear : GoodIn wsX11_renew (va_wsS RX11 405 yX11_isYear wsX11_isYear) := goodIn_app (goodIn_of _ (by decide +kernel)) ggX11_renew_X11_isYear
theorem dX11_renew_0 : decode cX11_renew 0 = .ok (.iload_n 1, 1) := by decide +kernel
theorem dX11_renew_1 : decode cX11_renew 1 = .ok (.invokestatic 84, 3) := by decide +kernel
theorem dX11_renew_4 : decode cX11_renew 4 = .ok (.ifCond .eq 10, 3) := by decide +kernel
theorem dX11_renew_7 : decode cX11_renew 7 = .ok (.iload_n 2, 1) := by decide +kernel
theorem dX11_renew_8 : decode cX11_renew 8 = .ok (.invokestatic 405, 3) := by decide +kernel
theorem dX11_renew_11 : decode cX11_renew 11 = .ok (.ifCond .ne 5, 3) := by decide +kernel
theorem dX11_renew_14 : decode cX11_renew 14 = .ok (.iconst (-1), 1) := by decide +kernel
theorem dX11_renew_15 : decode cX11_renew 15 = .ok (.ireturn, 1) := by decide +kernel
theorem dX11_renew_16 : decode cX11_renew 16 = .ok (.iconst 0, 1) := by decide +kernel
theorem dX11_renew_17 : decode cX11_renew 17 = .ok (.istore_n 3, 1) := by decide +kernel
theorem dX11_renew_18 : decode cX11_renew 18 = .ok (.iconst 0, 1) := by decide +kernel
theorem dX11_renew_19 : decode cX11_renew 19 = .ok (.istore 4, 2) := by decide +kernel
theorem dX11_renew_21 : decode cX11_renew 21 = .ok (.iload 4, 2) := by decide +kernel
theorem dX11_renew_23 : decode cX11_renew 23 = .ok (.aload_n 0, 1) := by decide +kernel
theorem dX11_renew_24 : decode cX11_renew 24 = .ok (.getfield 123, 3) := by decide +kernel
theorem dX11_renew_27 : decode cX11_renew 27 = .ok (.if_icmp .ge 46, 3) := by decide +kernel
theorem dX11_renew_30 : decode cX11_renew 30 = .ok (.aload_n 0, 1) := by decide +kernel
theorem dX11_renew_31 : decode cX11_renew 31 = .ok (.getfield 45, 3) := by decide +kernel
theorem dX11_renew_34 : decode cX11_renew 34 = .ok (.iload 4, 2) := by decide +kernel
theorem dX11_renew_36 : decode cX11_renew 36 = .ok (.iaload, 1) := by decide +kernel
theorem dX11_renew_37 : decode cX11_renew 37 = .ok (.iload_n 1, 1) := by decide +kernel
theorem dX11_renew_38 : decode cX11_renew 38 = .ok (.if_icmp .ne 29, 3) := by decide +kernel
theorem dX11_renew_41 : decode cX11_renew 41 = .ok (.aload_n 0, 1) := by decide +kernel
theorem dX11_renew_42 : decode cX11_renew 42 = .ok (.getfield 51, 3) := by decide +kernel
theorem dX11_renew_45 : decode cX11_renew 45 = .ok (.iload 4, 2) := by decide +kernel
theorem dX11_renew_47 : decode cX11_renew 47 = .ok (.iaload, 1) := by decide +kernel
theorem dX11_renew_48 : decode cX11_renew 48 = .ok (.iload_n 2, 1) := by decide +kernel
theorem dX11_renew_49 : decode cX11_renew 49 = .ok (.if_icmp .lt 6, 3) := by decide +kernel
theorem dX11_renew_52 : decode cX11_renew 52 = .ok (.goto 15, 3) := by decide +kernel
theorem dX11_renew_55 : decode cX11_renew 55 = .ok (.aload_n 0, 1) := by decide +kernel
theorem dX11_renew_56 : decode cX11_renew 56 = .ok (.getfield 51, 3) := by decide +kernel
theorem dX11_renew_59 : decode cX11_renew 59 = .ok (.iload 4, 2) := by decide +kernel
theorem dX11_renew_61 : decode cX11_renew 61 = .ok (.iload_n 2, 1) := by decide +kernel
theorem dX11_renew_62 : decode cX11_renew 62 = .ok (.iastore, 1) := by decide +kernel
theorem dX11_renew_63 : decode cX11_renew 63 = .ok (.iload_n 3, 1) := by decide +kernel
theorem dX11_renew_64 : decode cX11_renew 64 = .ok (.iconst 1, 1) := by decide +kernel
theorem dX11_renew_65 : decode cX11_renew 65 = .ok (.iadd, 1) := by decide +kernel
theorem dX11_renew_66 : decode cX11_renew 66 = .ok (.istore_n 3, 1) := by decide +kernel
theorem dX11_renew_67 : decode cX11_renew 67 = .ok (.iinc 4 1, 3) := by decide +kernel
theorem dX11_renew_70 : decode cX11_renew 70 = .ok (.goto (-49), 3) := by decide +kernel
theorem dX11_renew_73 : decode cX11_renew 73 = .ok (.iload_n 3, 1) := by decide +kernel
theorem dX11_renew_74 : decode cX11_renew 74 = .ok (.ireturn, 1) := by decide +kernel
set_option maxRecDepth 20000 in
theorem ggX11_oldest_X11_isLevel : GoodIn wsX11_oldest wsX11_isLevel := goodIn_r _ [9, 10, 11, 12, 8, 13] (by decide +kernel) (by decide +kernel)
set_option maxRecDepth 20000 in
theorem gX11_oldest_X11_isLevel : GoodIn wsX11_oldest (va_wsS RX11 84 yX11_isLevel wsX11_isLevel) := goodIn_app (goodIn_of _ (by decide +kernel)) ggX11_oldest_X11_isLevel
set_option maxRecDepth 20000 in
theorem ggX11_oldest_X11_in : GoodIn wsX11_oldest wsX11_in := goodIn_r _ [13] (by decide +kernel) (by decide +kernel)
set_option maxRecDepth 20000 in
theorem gX11_oldest_X11_in : GoodIn wsX11_oldest (va_wsS RX11 72 yX11_in wsX11_in) := goodIn_app (goodIn_of _ (by decide +kernel)) ggX11_oldest_X11_in
theorem dX11_oldest_0 : decode cX11_oldest 0 = .ok (.iload_n 1, 1) := by decide +kernel
theorem dX11_oldest_1 : decode cX11_oldest 1 = .ok (.invokestatic 84, 3) := by decide +kernel
theorem dX11_oldest_4 : decode cX11_oldest 4 = .ok (.ifCond .eq 15, 3) := by decide +kernel
theorem dX11_oldest_7 : decode cX11_oldest 7 = .ok (.iload_n 2, 1) := by decide +kernel
theorem dX11_oldest_8 : decode cX11_oldest 8 = .ok (.i2l, 1) := by decide +kernel
theorem dX11_oldest_9 : decode cX11_oldest 9 = .ok (.lconst 0, 1) := by decide +kernel
theorem dX11_oldest_10 : decode cX11_oldest 10 = .ok (.ldc2_w 127, 3) := by decide +kernel
theorem dX11_oldest_13 : decode cX11_oldest 13 = .ok (.invokestatic 72, 3) := by decide +kernel
theorem dX11_oldest_16 : decode cX11_oldest 16 = .ok (.ifCond .ne 5, 3) := by decide +kernel
theorem dX11_oldest_19 : decode cX11_oldest 19 = .ok (.iconst (-1), 1) := by decide +kernel
theorem dX11_oldest_20 : decode cX11_oldest 20 = .ok (.ireturn, 1) := by decide +kernel
theorem dX11_oldest_21 : decode cX11_oldest 21 = .ok (.iconst (-1), 1) := by decide +kernel
theorem dX11_oldest_22 : decode cX11_oldest 22 = .ok (.istore_n 3, 1) := by decide +kernel
theorem dX11_oldest_23 : decode cX11_oldest 23 = .ok (.iconst 0, 1) := by decide +kernel
theorem dX11_oldest_24 : decode cX11_oldest 24 = .ok (.istore 4, 2) := by decide +kernel
theorem dX11_oldest_26 : decode cX11_oldest 26 = .ok (.iconst 0, 1) := by decide +kernel
theorem dX11_oldest_27 : decode cX11_oldest 27 = .ok (.istore 5, 2) := by decide +kernel
theorem dX11_oldest_29 : decode cX11_oldest 29 = .ok (.iload 5, 2) := by decide +kernel
theorem dX11_oldest_31 : decode cX11_oldest 31 = .ok (.aload_n 0, 1) := by decide +kernel
theorem dX11_oldest_32 : decode cX11_oldest 32 = .ok (.getfield 123, 3) := by decide +kernel
theorem dX11_oldest_35 : decode cX11_oldest 35 = .ok (.if_icmp .ge 84, 3) := by decide +kernel
theorem dX11_oldest_38 : decode cX11_oldest 38 = .ok (.aload_n 0, 1) := by decide +kernel
theorem dX11_oldest_39 : decode cX11_oldest 39 = .ok (.getfield 45, 3) := by decide +kernel
theorem dX11_oldest_42 : decode cX11_oldest 42 = .ok (.iload 5, 2) := by decide +kernel
theorem dX11_oldest_44 : decode cX11_oldest 44 = .ok (.iaload, 1) := by decide +kernel
theorem dX11_oldest_45 : decode cX11_oldest 45 = .ok (.iload_n 1, 1) := by decide +kernel
theorem dX11_oldest_46 : decode cX11_oldest 46 = .ok (.if_icmp .ne 67, 3) := by decide +kernel
theorem dX11_oldest_49 : decode cX11_oldest 49 = .ok (.iload_n 3, 1) := by decide +kernel
theorem dX11_oldest_50 : decode cX11_oldest 50 = .ok (.iconst (-1), 1) := by decide +kernel
theorem dX11_oldest_51 : decode cX11_oldest 51 = .ok (.if_icmp .eq 22, 3) := by decide +kernel
theorem dX11_oldest_54 : decode cX11_oldest 54 = .ok (.aload_n 0, 1) := by decide +kernel
theorem dX11_oldest_55 : decode cX11_oldest 55 = .ok (.getfield 51, 3) := by decide +kernel
theorem dX11_oldest_58 : decode cX11_oldest 58 = .ok (.iload 5, 2) := by decide +kernel
theorem dX11_oldest_60 : decode cX11_oldest 60 = .ok (.iaload, 1) := by decide +kernel
theorem dX11_oldest_61 : decode cX11_oldest 61 = .ok (.aload_n 0, 1) := by decide +kernel
theorem dX11_oldest_62 : decode cX11_oldest 62 = .ok (.getfield 51, 3) := by decide +kernel
theorem dX11_oldest_65 : decode cX11_oldest 65 = .ok (.iload_n 3, 1) := by decide +kernel
theorem dX11_oldest_66 : decode cX11_oldest 66 = .ok (.iaload, 1) := by decide +kernel
theorem dX11_oldest_67 : decode cX11_oldest 67 = .ok (.if_icmp .le 6, 3) := by decide +kernel
theorem dX11_oldest_70 : decode cX11_oldest 70 = .ok (.goto 43, 3) := by decide +kernel
theorem dX11_oldest_73 : decode cX11_oldest 73 = .ok (.iload_n 3, 1) := by decide +kernel
theorem dX11_oldest_74 : decode cX11_oldest 74 = .ok (.iconst (-1), 1) := by decide +kernel
theorem dX11_oldest_75 : decode cX11_oldest 75 = .ok (.if_icmp .eq 26, 3) := by decide +kernel
theorem dX11_oldest_78 : decode cX11_oldest 78 = .ok (.aload_n 0, 1) := by decide +kernel
theorem dX11_oldest_79 : decode cX11_oldest 79 = .ok (.getfield 51, 3) := by decide +kernel
theorem dX11_oldest_82 : decode cX11_oldest 82 = .ok (.iload 5, 2) := by decide +kernel
theorem dX11_oldest_84 : decode cX11_oldest 84 = .ok (.iaload, 1) := by decide +kernel
theorem dX11_oldest_85 : decode cX11_oldest 85 = .ok (.aload_n 0, 1) := by decide +kernel
theorem dX11_oldest_86 : decode cX11_oldest 86 = .ok (.getfield 51, 3) := by decide +kernel
theorem dX11_oldest_89 : decode cX11_oldest 89 = .ok (.iload_n 3, 1) := by decide +kernel
theorem dX11_oldest_90 : decode cX11_oldest 90 = .ok (.iaload, 1) := by decide +kernel
theorem dX11_oldest_91 : decode cX11_oldest 91 = .ok (.if_icmp .ne 10, 3) := by decide +kernel
theorem dX11_oldest_94 : decode cX11_oldest 94 = .ok (.iload 4, 2) := by decide +kernel
theorem dX11_oldest_96 : decode cX11_oldest 96 = .ok (.iconst 1, 1) := by decide +kernel
theorem dX11_oldest_97 : decode cX11_oldest 97 = .ok (.iadd, 1) := by decide +kernel
theorem dX11_oldest_98 : decode cX11_oldest 98 = .ok (.goto 4, 3) := by decide +kernel
theorem dX11_oldest_101 : decode cX11_oldest 101 = .ok (.iconst 1, 1) := by decide +kernel
theorem dX11_oldest_102 : decode cX11_oldest 102 = .ok (.istore 4, 2) := by decide +kernel
theorem dX11_oldest_104 : decode cX11_oldest 104 = .ok (.iload 4, 2) := by decide +kernel
theorem dX11_oldest_106 : decode cX11_oldest 106 = .ok (.iconst 1, 1) := by decide +kernel
theorem dX11_oldest_107 : decode cX11_oldest 107 = .ok (.if_icmp .ne 6, 3) := by decide +kernel
theorem dX11_oldest_110 : decode cX11_oldest 110 = .ok (.iload 5, 2) := by decide +kernel
theorem dX11_oldest_112 : decode cX11_oldest 112 = .ok (.istore_n 3, 1) := by decide +kernel
theorem dX11_oldest_113 : decode cX11_oldest 113 = .ok (.iinc 5 1, 3) := by decide +kernel
theorem dX11_oldest_116 : decode cX11_oldest 116 = .ok (.goto (-87), 3) := by decide +kernel
theorem dX11_oldest_119 : decode cX11_oldest 119 = .ok (.iload_n 3, 1) := by decide +kernel
theorem dX11_oldest_120 : decode cX11_oldest 120 = .ok (.iconst (-1), 1) := by decide +kernel
theorem dX11_oldest_121 : decode cX11_oldest 121 = .ok (.if_icmp .ne 6, 3) := by decide +kernel
theorem dX11_oldest_124 : decode cX11_oldest 124 = .ok (.bipush (-2), 2) := by decide +kernel
theorem dX11_oldest_126 : decode cX11_oldest 126 = .ok (.ireturn, 1) := by decide +kernel
theorem dX11_oldest_127 : decode cX11_oldest 127 = .ok (.iload_n 2, 1) := by decide +kernel
theorem dX11_oldest_128 : decode cX11_oldest 128 = .ok (.ifCond .ne 12, 3) := by decide +kernel
theorem dX11_oldest_131 : decode cX11_oldest 131 = .ok (.aload_n 0, 1) := by decide +kernel
theorem dX11_oldest_132 : decode cX11_oldest 132 = .ok (.getfield 48, 3) := by decide +kernel
theorem dX11_oldest_135 : decode cX11_oldest 135 = .ok (.iload_n 3, 1) := by decide +kernel
theorem dX11_oldest_136 : decode cX11_oldest 136 = .ok (.iaload, 1) := by decide +kernel
theorem dX11_oldest_137 : decode cX11_oldest 137 = .ok (.goto 19, 3) := by decide +kernel
theorem dX11_oldest_140 : decode cX11_oldest 140 = .ok (.iload_n 2, 1) := by decide +kernel
theorem dX11_oldest_141 : decode cX11_oldest 141 = .ok (.iconst 1, 1) := by decide +kernel
theorem dX11_oldest_142 : decode cX11_oldest 142 = .ok (.if_icmp .ne 12, 3) := by decide +kernel
theorem dX11_oldest_145 : decode cX11_oldest 145 = .ok (.aload_n 0, 1) := by decide +kernel
theorem dX11_oldest_146 : decode cX11_oldest 146 = .ok (.getfield 51, 3) := by decide +kernel
theorem dX11_oldest_149 : decode cX11_oldest 149 = .ok (.iload_n 3, 1) := by decide +kernel
theorem dX11_oldest_150 : decode cX11_oldest 150 = .ok (.iaload, 1) := by decide +kernel
theorem dX11_oldest_151 : decode cX11_oldest 151 = .ok (.goto 5, 3) := by decide +kernel
theorem dX11_oldest_154 : decode cX11_oldest 154 = .ok (.iload 4, 2) := by decide +kernel
theorem dX11_oldest_156 : decode cX11_oldest 156 = .ok (.ireturn, 1) := by decide +kernel
set_option maxRecDepth 20000 in
theorem ggX11_isNeedless_X11_parentOf : GoodIn wsX11_isNeedless wsX11_parentOf := goodIn_r _ [9, 10, 11, 12, 13, 14, 8, 15, 16, 17, 18, 19, 20, 21, 22, 23, 24, 25, 26, 27, 28, 29, 30, 31, 32, 33, 34, 35, 36, 37, 38, 39, 40, 41, 42, 43, 44, 45, 46, 47, 48, 49, 50, 51, 52, 53, 54, 55, 56, 57, 58, 59, 60, 61, 62, 63, 64, 65, 66, 67, 68, 69, 70, 71, 72, 73, 74, 75, 76, 77, 78, 79, 80, 81, 82, 83, 84, 85, 86, 87, 88, 89] (by decide +kernel) (by decide +kernel)
set_option maxRecDepth 20000 in
theorem gX11_isNeedless_X11_parentOf : GoodIn wsX11_isNeedless (wsV RX11 254 RX11 yX11_parentOf wsX11_parentOf) := goodIn_app (goodIn_of _ (by decide +kernel)) ggX11_isNeedless_X11_parentOf
theorem dX11_isNeedless_0 : decode cX11_isNeedless 0 = .ok (.iconst 0, 1) := by decide +kernel
theorem dX11_isNeedless_1 : decode cX11_isNeedless 1 = .ok (.istore_n 2, 1) := by decide +kernel
theorem dX11_isNeedless_2 : decode cX11_isNeedless 2 = .ok (.iload_n 2, 1) := by decide +kernel
theorem dX11_isNeedless_3 : decode cX11_isNeedless 3 = .ok (.aload_n 0, 1) := by decide +kernel
theorem dX11_isNeedless_4 : decode cX11_isNeedless 4 = .ok (.getfield 123, 3) := by decide +kernel
theorem dX11_isNeedless_7 : decode cX11_isNeedless 7 = .ok (.if_icmp .ge 72, 3) := by decide +kernel
theorem dX11_isNeedless_10 : decode cX11_isNeedless 10 = .ok (.aload_n 0, 1) := by decide +kernel
theorem dX11_isNeedless_11 : decode cX11_isNeedless 11 = .ok (.getfield 45, 3) := by decide +kernel
theorem dX11_isNeedless_14 : decode cX11_isNeedless 14 = .ok (.iload_n 2, 1) := by decide +kernel
theorem dX11_isNeedless_15 : decode cX11_isNeedless 15 = .ok (.iaload, 1) := by decide +kernel
theorem dX11_isNeedless_16 : decode cX11_isNeedless 16 = .ok (.aload_n 0, 1) := by decide +kernel
theorem dX11_isNeedless_17 : decode cX11_isNeedless 17 = .ok (.getfield 45, 3) := by decide +kernel
theorem dX11_isNeedless_20 : decode cX11_isNeedless 20 = .ok (.iload_n 1, 1) := by decide +kernel
theorem dX11_isNeedless_21 : decode cX11_isNeedless 21 = .ok (.iaload, 1) := by decide +kernel
theorem dX11_isNeedless_22 : decode cX11_isNeedless 22 = .ok (.if_icmp .ge 51, 3) := by decide +kernel
theorem dX11_isNeedless_25 : decode cX11_isNeedless 25 = .ok (.aload_n 0, 1) := by decide +kernel
theorem dX11_isNeedless_26 : decode cX11_isNeedless 26 = .ok (.getfield 51, 3) := by decide +kernel
theorem dX11_isNeedless_29 : decode cX11_isNeedless 29 = .ok (.iload_n 2, 1) := by decide +kernel
theorem dX11_isNeedless_30 : decode cX11_isNeedless 30 = .ok (.iaload, 1) := by decide +kernel
theorem dX11_isNeedless_31 : decode cX11_isNeedless 31 = .ok (.aload_n 0, 1) := by decide +kernel
theorem dX11_isNeedless_32 : decode cX11_isNeedless 32 = .ok (.getfield 51, 3) := by decide +kernel
theorem dX11_isNeedless_35 : decode cX11_isNeedless 35 = .ok (.iload_n 1, 1) := by decide +kernel
theorem dX11_isNeedless_36 : decode cX11_isNeedless 36 = .ok (.iaload, 1) := by decide +kernel
theorem dX11_isNeedless_37 : decode cX11_isNeedless 37 = .ok (.if_icmp .lt 36, 3) := by decide +kernel
theorem dX11_isNeedless_40 : decode cX11_isNeedless 40 = .ok (.aload_n 0, 1) := by decide +kernel
theorem dX11_isNeedless_41 : decode cX11_isNeedless 41 = .ok (.aload_n 0, 1) := by decide +kernel
theorem dX11_isNeedless_42 : decode cX11_isNeedless 42 = .ok (.getfield 45, 3) := by decide +kernel
theorem dX11_isNeedless_45 : decode cX11_isNeedless 45 = .ok (.iload_n 1, 1) := by decide +kernel
theorem dX11_isNeedless_46 : decode cX11_isNeedless 46 = .ok (.iaload, 1) := by decide +kernel
theorem dX11_isNeedless_47 : decode cX11_isNeedless 47 = .ok (.aload_n 0, 1) := by decide +kernel
theorem dX11_isNeedless_48 : decode cX11_isNeedless 48 = .ok (.getfield 48, 3) := by decide +kernel
theorem dX11_isNeedless_51 : decode cX11_isNeedless 51 = .ok (.iload_n 1, 1) := by decide +kernel
theorem dX11_isNeedless_52 : decode cX11_isNeedless 52 = .ok (.iaload, 1) := by decide +kernel
theorem dX11_isNeedless_53 : decode cX11_isNeedless 53 = .ok (.aload_n 0, 1) := by decide +kernel
theorem dX11_isNeedless_54 : decode cX11_isNeedless 54 = .ok (.getfield 45, 3) := by decide +kernel
theorem dX11_isNeedless_57 : decode cX11_isNeedless 57 = .ok (.iload_n 2, 1) := by decide +kernel
theorem dX11_isNeedless_58 : decode cX11_isNeedless 58 = .ok (.iaload, 1) := by decide +kernel
theorem dX11_isNeedless_59 : decode cX11_isNeedless 59 = .ok (.invokevirtual 254, 3) := by decide +kernel
theorem dX11_isNeedless_62 : decode cX11_isNeedless 62 = .ok (.aload_n 0, 1) := by decide +kernel
theorem dX11_isNeedless_63 : decode cX11_isNeedless 63 = .ok (.getfield 48, 3) := by decide +kernel
theorem dX11_isNeedless_66 : decode cX11_isNeedless 66 = .ok (.iload_n 2, 1) := by decide +kernel
theorem dX11_isNeedless_67 : decode cX11_isNeedless 67 = .ok (.iaload, 1) := by decide +kernel
theorem dX11_isNeedless_68 : decode cX11_isNeedless 68 = .ok (.if_icmp .ne 5, 3) := by decide +kernel
theorem dX11_isNeedless_71 : decode cX11_isNeedless 71 = .ok (.iconst 1, 1) := by decide +kernel
theorem dX11_isNeedless_72 : decode cX11_isNeedless 72 = .ok (.ireturn, 1) := by decide +kernel
theorem dX11_isNeedless_73 : decode cX11_isNeedless 73 = .ok (.iinc 2 1, 3) := by decide +kernel
theorem dX11_isNeedless_76 : decode cX11_isNeedless 76 = .ok (.goto (-74), 3) := by decide +kernel
theorem dX11_isNeedless_79 : decode cX11_isNeedless 79 = .ok (.iconst 0, 1) := by decide +kernel
theorem dX11_isNeedless_80 : decode cX11_isNeedless 80 = .ok (.ireturn, 1) := by decide +kernel
set_option maxRecDepth 20000 in
theorem ggX11_tidy_X11_isNeedless : GoodIn wsX11_tidy wsX11_isNeedless := goodIn_r _ [6, 1, 7, 8, 9, 10, 11, 12, 5, 13, 14, 15, 16, 17, 18, 19, 20, 21, 22, 23, 24, 25, 26, 27, 28, 29, 30, 31, 32, 33, 34, 35, 36, 37, 38, 39, 40, 41, 42, 43, 44, 45, 46, 47, 48, 49, 50, 51, 60, 61, 62, 63, 64, 65, 66, 67, 68, 69, 70, 71, 72, 73, 74, 75, 76, 77, 78, 79, 80, 81, 82, 83, 84, 85, 86, 87, 88, 89, 90, 91, 92, 93, 94, 95, 96, 97, 98, 99, 100, 101] (by decide +kernel) (by decide +kernel)
set_option maxRecDepth 20000 in
theorem gX11_tidy_X11_isNeedless : GoodIn wsX11_tidy (wsV RX11 426 RX11 yX11_isNeedless wsX11_isNeedless) := goodIn_app (goodIn_of _ (by decide +kernel)) ggX11_tidy_X11_isNeedless
set_option maxRecDepth 20000 in
theorem ggX11_tidy_X11_removes : GoodIn wsX11_tidy wsX11_removes := goodIn_r _ [55, 1, 7, 9, 8, 56, 57, 58, 5, 59, 60, 61, 62, 63, 64, 65, 66, 67, 68, 69, 70, 71, 72, 73, 74, 75, 76, 77, 78, 79, 80, 81, 82, 83, 84, 85, 86, 87, 88, 89, 90, 91, 92, 93, 94, 95, 96, 97, 98, 99, 100, 101] (by decide +kernel) (by decide +kernel)
set_option maxRecDepth 20000 in
theorem gX11_tidy_X11_removes : GoodIn wsX11_tidy (wsV RX11 414 RX11 yX11_removes wsX11_removes) := goodIn_app (goodIn_of _ (by decide +kernel)) ggX11_tidy_X11_removes
theorem dX11_tidy_0 : decode cX11_tidy 0 = .ok (.iconst 0, 1) := by decide +kernel
theorem dX11_tidy_1 : decode cX11_tidy 1 = .ok (.istore_n 1, 1) := by decide +kernel
theorem dX11_tidy_2 : decode cX11_tidy 2 = .ok (.aload_n 0, 1) := by decide +kernel
theorem dX11_tidy_3 : decode cX11_tidy 3 = .ok (.getfield 123, 3) := by decide +kernel
theorem dX11_tidy_6 : decode cX11_tidy 6 = .ok (.iconst 1, 1) := by decide +kernel
theorem dX11_tidy_7 : decode cX11_tidy 7 = .ok (.isub, 1) := by decide +kernel
theorem dX11_tidy_8 : decode cX11_tidy 8 = .ok (.istore_n 2, 1) := by decide +kernel
theorem dX11_tidy_9 : decode cX11_tidy 9 = .ok (.iload_n 2, 1) := by decide +kernel
theorem dX11_tidy_10 : decode cX11_tidy 10 = .ok (.ifCond .lt 29, 3) := by decide +kernel
theorem dX11_tidy_13 : decode cX11_tidy 13 = .ok (.aload_n 0, 1) := by decide +kernel
theorem dX11_tidy_14 : decode cX11_tidy 14 = .ok (.iload_n 2, 1) := by decide +kernel
theorem dX11_tidy_15 : decode cX11_tidy 15 = .ok (.invokevirtual 426, 3) := by decide +kernel
theorem dX11_tidy_18 : decode cX11_tidy 18 = .ok (.ifCond .ne 6, 3) := by decide +kernel
theorem dX11_tidy_21 : decode cX11_tidy 21 = .ok (.goto 12, 3) := by decide +kernel
theorem dX11_tidy_24 : decode cX11_tidy 24 = .ok (.aload_n 0, 1) := by decide +kernel
theorem dX11_tidy_25 : decode cX11_tidy 25 = .ok (.iload_n 2, 1) := by decide +kernel
theorem dX11_tidy_26 : decode cX11_tidy 26 = .ok (.invokevirtual 414, 3) := by decide +kernel
theorem dX11_tidy_29 : decode cX11_tidy 29 = .ok (.iload_n 1, 1) := by decide +kernel
theorem dX11_tidy_30 : decode cX11_tidy 30 = .ok (.iconst 1, 1) := by decide +kernel
theorem dX11_tidy_31 : decode cX11_tidy 31 = .ok (.iadd, 1) := by decide +kernel
theorem dX11_tidy_32 : decode cX11_tidy 32 = .ok (.istore_n 1, 1) := by decide +kernel
theorem dX11_tidy_33 : decode cX11_tidy 33 = .ok (.iinc 2 (-1), 3) := by decide +kernel
theorem dX11_tidy_36 : decode cX11_tidy 36 = .ok (.goto (-27), 3) := by decide +kernel
theorem dX11_tidy_39 : decode cX11_tidy 39 = .ok (.iload_n 1, 1) := by decide +kernel
theorem dX11_tidy_40 : decode cX11_tidy 40 = .ok (.ireturn, 1) := by decide +kernel
set_option maxRecDepth 20000 in
theorem ggX11_changes_X11_isPlace : GoodIn wsX11_changes wsX11_isPlace := goodIn_r _ [5, 6, 7, 8, 9, 10, 4, 11] (by decide +kernel) (by decide +kernel)
set_option maxRecDepth 20000 in
theorem gX11_changes_X11_isPlace : GoodIn wsX11_changes (va_wsS RX11 133 yX11_isPlace wsX11_isPlace) := goodIn_app (goodIn_of _ (by decide +kernel)) ggX11_changes_X11_isPlace
set_option maxRecDepth 20000 in
theorem ggX11_changes_X11_in : GoodIn wsX11_changes wsX11_in := goodIn_r _ [11] (by decide +kernel) (by decide +kernel)
set_option maxRecDepth 20000 in
theorem gX11_changes_X11_in : GoodIn wsX11_changes (va_wsS RX11 72 yX11_in wsX11_in) := goodIn_app (goodIn_of _ (by decide +kernel)) ggX11_changes_X11_in
set_option maxRecDepth 20000 in
theorem ggX11_changes_X11_isLevel : GoodIn wsX11_changes wsX11_isLevel := goodIn_r _ [14, 15, 9, 10, 4, 11] (by decide +kernel) (by decide +kernel)
set_option maxRecDepth 20000 in
theorem gX11_changes_X11_isLevel : GoodIn wsX11_changes (va_wsS RX11 84 yX11_isLevel wsX11_isLevel) := goodIn_app (goodIn_of _ (by decide +kernel)) ggX11_changes_X11_isLevel
set_option maxRecDepth 20000 in
theorem ggX11_changes_X11_keyAtPlace : GoodIn wsX11_changes wsX11_keyAtPlace := goodIn_r _ [19, 20, 21, 22, 4, 23, 24, 25, 26, 27, 28, 29, 30, 31, 32, 33, 34, 35, 36, 37, 38, 39, 40, 41, 42, 43, 44, 45, 46, 47, 48, 49, 50, 51, 52, 53, 54, 55, 56, 57, 58, 59, 60, 64, 65, 66, 67, 68, 69, 70, 71, 72, 73, 74, 75, 76, 77, 78, 79, 80, 81, 82, 83, 84, 85, 86, 87, 88, 89, 90, 91, 92, 93, 94, 95, 96, 97, 98, 99, 100, 101, 102, 103, 104, 105] (by decide +kernel) (by decide +kernel)
set_option maxRecDepth 20000 in
theorem gX11_changes_X11_keyAtPlace : GoodIn wsX11_changes (wsV RX11 137 RX11 yX11_keyAtPlace wsX11_keyAtPlace) := goodIn_app (goodIn_of _ (by decide +kernel)) ggX11_changes_X11_keyAtPlace
set_option maxRecDepth 20000 in
theorem ggX11_changes_X11_down : GoodIn wsX11_changes wsX11_down := goodIn_r _ [63] (by decide +kernel) (by decide +kernel)
set_option maxRecDepth 20000 in
theorem gX11_changes_X11_down : GoodIn wsX11_changes (va_wsS RX11 247 yX11_down wsX11_down) := goodIn_app (goodIn_of _ (by decide +kernel)) ggX11_changes_X11_down
theorem dX11_changes_0 : decode cX11_changes 0 = .ok (.iload_n 1, 1) := by decide +kernel
theorem dX11_changes_1 : decode cX11_changes 1 = .ok (.iload_n 2, 1) := by decide +kernel
theorem dX11_changes_2 : decode cX11_changes 2 = .ok (.invokestatic 133, 3) := by decide +kernel
theorem dX11_changes_5 : decode cX11_changes 5 = .ok (.ifCond .eq 33, 3) := by decide +kernel
theorem dX11_changes_8 : decode cX11_changes 8 = .ok (.iload_n 3, 1) := by decide +kernel
theorem dX11_changes_9 : decode cX11_changes 9 = .ok (.iload 4, 2) := by decide +kernel
theorem dX11_changes_11 : decode cX11_changes 11 = .ok (.invokestatic 133, 3) := by decide +kernel
theorem dX11_changes_14 : decode cX11_changes 14 = .ok (.ifCond .eq 24, 3) := by decide +kernel
theorem dX11_changes_17 : decode cX11_changes 17 = .ok (.iload 5, 2) := by decide +kernel
theorem dX11_changes_19 : decode cX11_changes 19 = .ok (.i2l, 1) := by decide +kernel
theorem dX11_changes_20 : decode cX11_changes 20 = .ok (.lconst 1, 1) := by decide +kernel
theorem dX11_changes_21 : decode cX11_changes 21 = .ok (.ldc2_w 429, 3) := by decide +kernel
theorem dX11_changes_24 : decode cX11_changes 24 = .ok (.invokestatic 72, 3) := by decide +kernel
theorem dX11_changes_27 : decode cX11_changes 27 = .ok (.ifCond .eq 11, 3) := by decide +kernel
theorem dX11_changes_30 : decode cX11_changes 30 = .ok (.iload 6, 2) := by decide +kernel
theorem dX11_changes_32 : decode cX11_changes 32 = .ok (.invokestatic 84, 3) := by decide +kernel
theorem dX11_changes_35 : decode cX11_changes 35 = .ok (.ifCond .ne 5, 3) := by decide +kernel
theorem dX11_changes_38 : decode cX11_changes 38 = .ok (.iconst (-1), 1) := by decide +kernel
theorem dX11_changes_39 : decode cX11_changes 39 = .ok (.ireturn, 1) := by decide +kernel
theorem dX11_changes_40 : decode cX11_changes 40 = .ok (.iconst 0, 1) := by decide +kernel
theorem dX11_changes_41 : decode cX11_changes 41 = .ok (.istore 7, 2) := by decide +kernel
theorem dX11_changes_43 : decode cX11_changes 43 = .ok (.aload_n 0, 1) := by decide +kernel
theorem dX11_changes_44 : decode cX11_changes 44 = .ok (.iload_n 1, 1) := by decide +kernel
theorem dX11_changes_45 : decode cX11_changes 45 = .ok (.iload_n 2, 1) := by decide +kernel
theorem dX11_changes_46 : decode cX11_changes 46 = .ok (.iload 6, 2) := by decide +kernel
theorem dX11_changes_48 : decode cX11_changes 48 = .ok (.invokevirtual 137, 3) := by decide +kernel
theorem dX11_changes_51 : decode cX11_changes 51 = .ok (.istore 8, 2) := by decide +kernel
theorem dX11_changes_53 : decode cX11_changes 53 = .ok (.iconst 1, 1) := by decide +kernel
theorem dX11_changes_54 : decode cX11_changes 54 = .ok (.istore 9, 2) := by decide +kernel
theorem dX11_changes_56 : decode cX11_changes 56 = .ok (.iload 9, 2) := by decide +kernel
theorem dX11_changes_58 : decode cX11_changes 58 = .ok (.iload 5, 2) := by decide +kernel
theorem dX11_changes_60 : decode cX11_changes 60 = .ok (.if_icmp .gt 91, 3) := by decide +kernel
theorem dX11_changes_63 : decode cX11_changes 63 = .ok (.iload_n 1, 1) := by decide +kernel
theorem dX11_changes_64 : decode cX11_changes 64 = .ok (.i2l, 1) := by decide +kernel
theorem dX11_changes_65 : decode cX11_changes 65 = .ok (.iload 5, 2) := by decide +kernel
theorem dX11_changes_67 : decode cX11_changes 67 = .ok (.i2l, 1) := by decide +kernel
theorem dX11_changes_68 : decode cX11_changes 68 = .ok (.lmul, 1) := by decide +kernel
theorem dX11_changes_69 : decode cX11_changes 69 = .ok (.iload_n 3, 1) := by decide +kernel
theorem dX11_changes_70 : decode cX11_changes 70 = .ok (.iload_n 1, 1) := by decide +kernel
theorem dX11_changes_71 : decode cX11_changes 71 = .ok (.isub, 1) := by decide +kernel
theorem dX11_changes_72 : decode cX11_changes 72 = .ok (.i2l, 1) := by decide +kernel
theorem dX11_changes_73 : decode cX11_changes 73 = .ok (.iload 9, 2) := by decide +kernel
theorem dX11_changes_75 : decode cX11_changes 75 = .ok (.i2l, 1) := by decide +kernel
theorem dX11_changes_76 : decode cX11_changes 76 = .ok (.lmul, 1) := by decide +kernel
theorem dX11_changes_77 : decode cX11_changes 77 = .ok (.ladd, 1) := by decide +kernel
theorem dX11_changes_78 : decode cX11_changes 78 = .ok (.iload 5, 2) := by decide +kernel
theorem dX11_changes_80 : decode cX11_changes 80 = .ok (.i2l, 1) := by decide +kernel
theorem dX11_changes_81 : decode cX11_changes 81 = .ok (.invokestatic 247, 3) := by decide +kernel
theorem dX11_changes_84 : decode cX11_changes 84 = .ok (.l2i, 1) := by decide +kernel
theorem dX11_changes_85 : decode cX11_changes 85 = .ok (.istore 10, 2) := by decide +kernel
theorem dX11_changes_87 : decode cX11_changes 87 = .ok (.iload_n 2, 1) := by decide +kernel
theorem dX11_changes_88 : decode cX11_changes 88 = .ok (.i2l, 1) := by decide +kernel
theorem dX11_changes_89 : decode cX11_changes 89 = .ok (.iload 5, 2) := by decide +kernel
theorem dX11_changes_91 : decode cX11_changes 91 = .ok (.i2l, 1) := by decide +kernel
theorem dX11_changes_92 : decode cX11_changes 92 = .ok (.lmul, 1) := by decide +kernel
theorem dX11_changes_93 : decode cX11_changes 93 = .ok (.iload 4, 2) := by decide +kernel
theorem dX11_changes_95 : decode cX11_changes 95 = .ok (.iload_n 2, 1) := by decide +kernel
theorem dX11_changes_96 : decode cX11_changes 96 = .ok (.isub, 1) := by decide +kernel
theorem dX11_changes_97 : decode cX11_changes 97 = .ok (.i2l, 1) := by decide +kernel
theorem dX11_changes_98 : decode cX11_changes 98 = .ok (.iload 9, 2) := by decide +kernel
theorem dX11_changes_100 : decode cX11_changes 100 = .ok (.i2l, 1) := by decide +kernel
theorem dX11_changes_101 : decode cX11_changes 101 = .ok (.lmul, 1) := by decide +kernel
theorem dX11_changes_102 : decode cX11_changes 102 = .ok (.ladd, 1) := by decide +kernel
theorem dX11_changes_103 : decode cX11_changes 103 = .ok (.iload 5, 2) := by decide +kernel
theorem dX11_changes_105 : decode cX11_changes 105 = .ok (.i2l, 1) := by decide +kernel
theorem dX11_changes_106 : decode cX11_changes 106 = .ok (.invokestatic 247, 3) := by decide +kernel
theorem dX11_changes_109 : decode cX11_changes 109 = .ok (.l2i, 1) := by decide +kernel
theorem dX11_changes_110 : decode cX11_changes 110 = .ok (.istore 11, 2) := by decide +kernel
theorem dX11_changes_112 : decode cX11_changes 112 = .ok (.aload_n 0, 1) := by decide +kernel
theorem dX11_changes_113 : decode cX11_changes 113 = .ok (.iload 10, 2) := by decide +kernel
theorem dX11_changes_115 : decode cX11_changes 115 = .ok (.iload 11, 2) := by decide +kernel
theorem dX11_changes_117 : decode cX11_changes 117 = .ok (.iload 6, 2) := by decide +kernel
theorem dX11_changes_119 : decode cX11_changes 119 = .ok (.invokevirtual 137, 3) := by decide +kernel
theorem dX11_changes_122 : decode cX11_changes 122 = .ok (.istore 12, 2) := by decide +kernel
theorem dX11_changes_124 : decode cX11_changes 124 = .ok (.iload 7, 2) := by decide +kernel
theorem dX11_changes_126 : decode cX11_changes 126 = .ok (.iload 12, 2) := by decide +kernel
theorem dX11_changes_128 : decode cX11_changes 128 = .ok (.iload 8, 2) := by decide +kernel
theorem dX11_changes_130 : decode cX11_changes 130 = .ok (.if_icmp .ne 7, 3) := by decide +kernel
theorem dX11_changes_133 : decode cX11_changes 133 = .ok (.iconst 0, 1) := by decide +kernel
theorem dX11_changes_134 : decode cX11_changes 134 = .ok (.goto 4, 3) := by decide +kernel
theorem dX11_changes_137 : decode cX11_changes 137 = .ok (.iconst 1, 1) := by decide +kernel
theorem dX11_changes_138 : decode cX11_changes 138 = .ok (.iadd, 1) := by decide +kernel
theorem dX11_changes_139 : decode cX11_changes 139 = .ok (.istore 7, 2) := by decide +kernel
theorem dX11_changes_141 : decode cX11_changes 141 = .ok (.iload 12, 2) := by decide +kernel
theorem dX11_changes_143 : decode cX11_changes 143 = .ok (.istore 8, 2) := by decide +kernel
theorem dX11_changes_145 : decode cX11_changes 145 = .ok (.iinc 9 1, 3) := by decide +kernel
theorem dX11_changes_148 : decode cX11_changes 148 = .ok (.goto (-92), 3) := by decide +kernel
theorem dX11_changes_151 : decode cX11_changes 151 = .ok (.iload 7, 2) := by decide +kernel
theorem dX11_changes_153 : decode cX11_changes 153 = .ok (.ireturn, 1) := by decide +kernel
theorem dX11_draw_0 : decode cX11_draw 0 = .ok (.aload_n 0, 1) := by decide +kernel
theorem dX11_draw_1 : decode cX11_draw 1 = .ok (.sipush 25173, 3) := by decide +kernel
theorem dX11_draw_4 : decode cX11_draw 4 = .ok (.aload_n 0, 1) := by decide +kernel
theorem dX11_draw_5 : decode cX11_draw 5 = .ok (.getfield 431, 3) := by decide +kernel
theorem dX11_draw_8 : decode cX11_draw 8 = .ok (.imul, 1) := by decide +kernel
theorem dX11_draw_9 : decode cX11_draw 9 = .ok (.sipush 13849, 3) := by decide +kernel
theorem dX11_draw_12 : decode cX11_draw 12 = .ok (.iadd, 1) := by decide +kernel
theorem dX11_draw_13 : decode cX11_draw 13 = .ok (.ldc_w 434, 3) := by decide +kernel
theorem dX11_draw_16 : decode cX11_draw 16 = .ok (.irem, 1) := by decide +kernel
theorem dX11_draw_17 : decode cX11_draw 17 = .ok (.putfield 431, 3) := by decide +kernel
theorem dX11_draw_20 : decode cX11_draw 20 = .ok (.aload_n 0, 1) := by decide +kernel
theorem dX11_draw_21 : decode cX11_draw 21 = .ok (.getfield 431, 3) := by decide +kernel
theorem dX11_draw_24 : decode cX11_draw 24 = .ok (.iconst 4, 1) := by decide +kernel
theorem dX11_draw_25 : decode cX11_draw 25 = .ok (.idiv, 1) := by decide +kernel
theorem dX11_draw_26 : decode cX11_draw 26 = .ok (.iload_n 1, 1) := by decide +kernel
theorem dX11_draw_27 : decode cX11_draw 27 = .ok (.irem, 1) := by decide +kernel
theorem dX11_draw_28 : decode cX11_draw 28 = .ok (.ireturn, 1) := by decide +kernel
set_option maxRecDepth 20000 in
theorem ggX11_drawn_X11_in : GoodIn wsX11_drawn wsX11_in := goodIn_r _ [9] (by decide +kernel) (by decide +kernel)
set_option maxRecDepth 20000 in
theorem gX11_drawn_X11_in : GoodIn wsX11_drawn (va_wsS RX11 72 yX11_in wsX11_in) := goodIn_app (goodIn_of _ (by decide +kernel)) ggX11_drawn_X11_in
set_option maxRecDepth 20000 in
theorem ggX11_drawn_X11_isLevel : GoodIn wsX11_drawn wsX11_isLevel := goodIn_r _ [12, 13, 6, 7, 8, 9] (by decide +kernel) (by decide +kernel)
set_option maxRecDepth 20000 in
theorem gX11_drawn_X11_isLevel : GoodIn wsX11_drawn (va_wsS RX11 84 yX11_isLevel wsX11_isLevel) := goodIn_app (goodIn_of _ (by decide +kernel)) ggX11_drawn_X11_isLevel
set_option maxRecDepth 20000 in
theorem ggX11_drawn_X11_draw : GoodIn wsX11_drawn wsX11_draw := goodIn_r _ [17, 3, 18, 64, 65, 66, 67, 68, 69, 70, 71, 72, 73, 74, 75, 76, 77, 78, 79, 80, 81, 82, 83, 84, 85, 86, 87, 88, 89, 90, 91, 92, 93, 94, 95, 96, 97, 98, 99, 100, 101, 102, 103, 104, 105] (by decide +kernel) (by decide +kernel)
set_option maxRecDepth 20000 in
theorem gX11_drawn_X11_draw : GoodIn wsX11_drawn (wsV RX11 436 RX11 yX11_draw wsX11_draw) := goodIn_app (goodIn_of _ (by decide +kernel)) ggX11_drawn_X11_draw
set_option maxRecDepth 20000 in
theorem ggX11_drawn_X11_keyAtPlace : GoodIn wsX11_drawn wsX11_keyAtPlace := goodIn_r _ [22, 23, 24, 25, 8, 26, 27, 28, 29, 30, 31, 32, 33, 34, 35, 36, 37, 38, 39, 40, 41, 42, 43, 44, 45, 46, 47, 48, 49, 50, 51, 52, 53, 54, 55, 56, 57, 58, 59, 60, 61, 62, 63, 64, 65, 66, 67, 68, 69, 70, 71, 72, 73, 74, 75, 76, 77, 78, 79, 80, 81, 82, 83, 84, 85, 86, 87, 88, 89, 90, 91, 92, 93, 94, 95, 96, 97, 98, 99, 100, 101, 102, 103, 104, 105] (by decide +kernel) (by decide +kernel)
set_option maxRecDepth 20000 in
theorem gX11_drawn_X11_keyAtPlace : GoodIn wsX11_drawn (wsV RX11 137 RX11 yX11_keyAtPlace wsX11_keyAtPlace) := goodIn_app (goodIn_of _ (by decide +kernel)) ggX11_drawn_X11_keyAtPlace
theorem dX11_drawn_0 : decode cX11_drawn 0 = .ok (.iload_n 2, 1) := by decide +kernel
theorem dX11_drawn_1 : decode cX11_drawn 1 = .ok (.i2l, 1) := by decide +kernel
theorem dX11_drawn_2 : decode cX11_drawn 2 = .ok (.lconst 1, 1) := by decide +kernel
theorem dX11_drawn_3 : decode cX11_drawn 3 = .ok (.ldc2_w 429, 3) := by decide +kernel
theorem dX11_drawn_6 : decode cX11_drawn 6 = .ok (.invokestatic 72, 3) := by decide +kernel
theorem dX11_drawn_9 : decode cX11_drawn 9 = .ok (.ifCond .eq 10, 3) := by decide +kernel
theorem dX11_drawn_12 : decode cX11_drawn 12 = .ok (.iload_n 3, 1) := by decide +kernel
theorem dX11_drawn_13 : decode cX11_drawn 13 = .ok (.invokestatic 84, 3) := by decide +kernel
theorem dX11_drawn_16 : decode cX11_drawn 16 = .ok (.ifCond .ne 5, 3) := by decide +kernel
theorem dX11_drawn_19 : decode cX11_drawn 19 = .ok (.iconst (-1), 1) := by decide +kernel
theorem dX11_drawn_20 : decode cX11_drawn 20 = .ok (.ireturn, 1) := by decide +kernel
theorem dX11_drawn_21 : decode cX11_drawn 21 = .ok (.aload_n 0, 1) := by decide +kernel
theorem dX11_drawn_22 : decode cX11_drawn 22 = .ok (.iload_n 1, 1) := by decide +kernel
theorem dX11_drawn_23 : decode cX11_drawn 23 = .ok (.ldc_w 435, 3) := by decide +kernel
theorem dX11_drawn_26 : decode cX11_drawn 26 = .ok (.iand, 1) := by decide +kernel
theorem dX11_drawn_27 : decode cX11_drawn 27 = .ok (.putfield 431, 3) := by decide +kernel
theorem dX11_drawn_30 : decode cX11_drawn 30 = .ok (.iconst 0, 1) := by decide +kernel
theorem dX11_drawn_31 : decode cX11_drawn 31 = .ok (.istore 4, 2) := by decide +kernel
theorem dX11_drawn_33 : decode cX11_drawn 33 = .ok (.iconst 0, 1) := by decide +kernel
theorem dX11_drawn_34 : decode cX11_drawn 34 = .ok (.istore 5, 2) := by decide +kernel
theorem dX11_drawn_36 : decode cX11_drawn 36 = .ok (.iload 5, 2) := by decide +kernel
theorem dX11_drawn_38 : decode cX11_drawn 38 = .ok (.iload_n 2, 1) := by decide +kernel
theorem dX11_drawn_39 : decode cX11_drawn 39 = .ok (.if_icmp .ge 111, 3) := by decide +kernel
theorem dX11_drawn_42 : decode cX11_drawn 42 = .ok (.aload_n 0, 1) := by decide +kernel
theorem dX11_drawn_43 : decode cX11_drawn 43 = .ok (.sipush 16384, 3) := by decide +kernel
theorem dX11_drawn_46 : decode cX11_drawn 46 = .ok (.invokevirtual 436, 3) := by decide +kernel
theorem dX11_drawn_49 : decode cX11_drawn 49 = .ok (.bipush 39, 2) := by decide +kernel
theorem dX11_drawn_51 : decode cX11_drawn 51 = .ok (.imul, 1) := by decide +kernel
theorem dX11_drawn_52 : decode cX11_drawn 52 = .ok (.ldc_w 439, 3) := by decide +kernel
theorem dX11_drawn_55 : decode cX11_drawn 55 = .ok (.isub, 1) := by decide +kernel
theorem dX11_drawn_56 : decode cX11_drawn 56 = .ok (.istore 6, 2) := by decide +kernel
theorem dX11_drawn_58 : decode cX11_drawn 58 = .ok (.aload_n 0, 1) := by decide +kernel
theorem dX11_drawn_59 : decode cX11_drawn 59 = .ok (.iload 6, 2) := by decide +kernel
theorem dX11_drawn_61 : decode cX11_drawn 61 = .ok (.aload_n 0, 1) := by decide +kernel
theorem dX11_drawn_62 : decode cX11_drawn 62 = .ok (.sipush 16384, 3) := by decide +kernel
theorem dX11_drawn_65 : decode cX11_drawn 65 = .ok (.invokevirtual 436, 3) := by decide +kernel
theorem dX11_drawn_68 : decode cX11_drawn 68 = .ok (.bipush 79, 2) := by decide +kernel
theorem dX11_drawn_70 : decode cX11_drawn 70 = .ok (.imul, 1) := by decide +kernel
theorem dX11_drawn_71 : decode cX11_drawn 71 = .ok (.iload_n 3, 1) := by decide +kernel
theorem dX11_drawn_72 : decode cX11_drawn 72 = .ok (.invokevirtual 137, 3) := by decide +kernel
theorem dX11_drawn_75 : decode cX11_drawn 75 = .ok (.istore 7, 2) := by decide +kernel
theorem dX11_drawn_77 : decode cX11_drawn 77 = .ok (.iconst 1, 1) := by decide +kernel
theorem dX11_drawn_78 : decode cX11_drawn 78 = .ok (.istore 8, 2) := by decide +kernel
theorem dX11_drawn_80 : decode cX11_drawn 80 = .ok (.iconst 0, 1) := by decide +kernel
theorem dX11_drawn_81 : decode cX11_drawn 81 = .ok (.istore 9, 2) := by decide +kernel
theorem dX11_drawn_83 : decode cX11_drawn 83 = .ok (.iload 9, 2) := by decide +kernel
theorem dX11_drawn_85 : decode cX11_drawn 85 = .ok (.iload 4, 2) := by decide +kernel
theorem dX11_drawn_87 : decode cX11_drawn 87 = .ok (.if_icmp .ge 33, 3) := by decide +kernel
theorem dX11_drawn_90 : decode cX11_drawn 90 = .ok (.iload 8, 2) := by decide +kernel
theorem dX11_drawn_92 : decode cX11_drawn 92 = .ok (.ifCond .eq 19, 3) := by decide +kernel
theorem dX11_drawn_95 : decode cX11_drawn 95 = .ok (.aload_n 0, 1) := by decide +kernel
theorem dX11_drawn_96 : decode cX11_drawn 96 = .ok (.getfield 54, 3) := by decide +kernel
theorem dX11_drawn_99 : decode cX11_drawn 99 = .ok (.iload 9, 2) := by decide +kernel
theorem dX11_drawn_101 : decode cX11_drawn 101 = .ok (.iaload, 1) := by decide +kernel
theorem dX11_drawn_102 : decode cX11_drawn 102 = .ok (.iload 7, 2) := by decide +kernel
theorem dX11_drawn_104 : decode cX11_drawn 104 = .ok (.if_icmp .eq 7, 3) := by decide +kernel
theorem dX11_drawn_107 : decode cX11_drawn 107 = .ok (.iconst 1, 1) := by decide +kernel
theorem dX11_drawn_108 : decode cX11_drawn 108 = .ok (.goto 4, 3) := by decide +kernel
theorem dX11_drawn_111 : decode cX11_drawn 111 = .ok (.iconst 0, 1) := by decide +kernel
theorem dX11_drawn_112 : decode cX11_drawn 112 = .ok (.istore 8, 2) := by decide +kernel
theorem dX11_drawn_114 : decode cX11_drawn 114 = .ok (.iinc 9 1, 3) := by decide +kernel
theorem dX11_drawn_117 : decode cX11_drawn 117 = .ok (.goto (-34), 3) := by decide +kernel
theorem dX11_drawn_120 : decode cX11_drawn 120 = .ok (.aload_n 0, 1) := by decide +kernel
theorem dX11_drawn_121 : decode cX11_drawn 121 = .ok (.getfield 54, 3) := by decide +kernel
theorem dX11_drawn_124 : decode cX11_drawn 124 = .ok (.iload 4, 2) := by decide +kernel
theorem dX11_drawn_126 : decode cX11_drawn 126 = .ok (.iload 7, 2) := by decide +kernel
theorem dX11_drawn_128 : decode cX11_drawn 128 = .ok (.iastore, 1) := by decide +kernel
theorem dX11_drawn_129 : decode cX11_drawn 129 = .ok (.iload 4, 2) := by decide +kernel
theorem dX11_drawn_131 : decode cX11_drawn 131 = .ok (.iload 8, 2) := by decide +kernel
theorem dX11_drawn_133 : decode cX11_drawn 133 = .ok (.ifCond .eq 7, 3) := by decide +kernel
theorem dX11_drawn_136 : decode cX11_drawn 136 = .ok (.iconst 1, 1) := by decide +kernel
theorem dX11_drawn_137 : decode cX11_drawn 137 = .ok (.goto 4, 3) := by decide +kernel
theorem dX11_drawn_140 : decode cX11_drawn 140 = .ok (.iconst 0, 1) := by decide +kernel
theorem dX11_drawn_141 : decode cX11_drawn 141 = .ok (.iadd, 1) := by decide +kernel
theorem dX11_drawn_142 : decode cX11_drawn 142 = .ok (.istore 4, 2) := by decide +kernel
theorem dX11_drawn_144 : decode cX11_drawn 144 = .ok (.iinc 5 1, 3) := by decide +kernel
theorem dX11_drawn_147 : decode cX11_drawn 147 = .ok (.goto (-111), 3) := by decide +kernel
theorem dX11_drawn_150 : decode cX11_drawn 150 = .ok (.iload 4, 2) := by decide +kernel
theorem dX11_drawn_152 : decode cX11_drawn 152 = .ok (.ireturn, 1) := by decide +kernel
set_option maxRecDepth 20000 in
theorem ggX11_bands_X11_isKey : GoodIn wsX11_bands wsX11_isKey := goodIn_r _ [5, 6, 7, 4, 8, 9, 10, 11, 12, 13, 14, 15, 16, 17, 18, 19, 39, 40, 41, 42, 43, 44, 45, 46, 47, 48, 49, 50, 51, 52, 53, 54, 55, 56, 57, 58, 59, 60, 61, 62, 63, 64, 65, 66, 67, 68, 69, 70, 71, 72, 73, 74, 75, 76, 77, 78, 79, 80] (by decide +kernel) (by decide +kernel)
set_option maxRecDepth 20000 in
theorem gX11_bands_X11_isKey : GoodIn wsX11_bands (wsV RX11 153 RX11 yX11_isKey wsX11_isKey) := goodIn_app (goodIn_of _ (by decide +kernel)) ggX11_bands_X11_isKey
set_option maxRecDepth 20000 in
theorem ggX11_bands_X11_rowOf : GoodIn wsX11_bands wsX11_rowOf := goodIn_r _ [23, 17, 18, 19, 13, 14, 15, 4, 16, 24, 25, 26, 27, 28, 29, 30, 31, 32, 33, 34, 39, 40, 41, 42, 43, 44, 45, 46, 47, 48, 49, 50, 51, 52, 53, 54, 55, 56, 57, 58, 59, 60, 61, 62, 63, 64, 65, 66, 67, 68, 69, 70, 71, 72, 73, 74, 75, 76, 77, 78, 79, 80] (by decide +kernel) (by decide +kernel)
set_option maxRecDepth 20000 in
theorem gX11_bands_X11_rowOf : GoodIn wsX11_bands (wsV RX11 101 RX11 yX11_rowOf wsX11_rowOf) := goodIn_app (goodIn_of _ (by decide +kernel)) ggX11_bands_X11_rowOf
set_option maxRecDepth 20000 in
theorem ggX11_bands_X11_lastRow : GoodIn wsX11_bands wsX11_lastRow := goodIn_r _ [27, 28, 29, 30, 4, 31, 17, 39, 40, 41, 42, 43, 44, 45, 46, 47, 48, 49, 50, 51, 52, 53, 54, 55, 56, 57, 58, 59, 60, 61, 62, 63, 64, 65, 66, 67, 68, 69, 70, 71, 72, 73, 74, 75, 76, 77, 78, 79, 80] (by decide +kernel) (by decide +kernel)
set_option maxRecDepth 20000 in
theorem gX11_bands_X11_lastRow : GoodIn wsX11_bands (wsV RX11 94 RX11 yX11_lastRow wsX11_lastRow) := goodIn_app (goodIn_of _ (by decide +kernel)) ggX11_bands_X11_lastRow
set_option maxRecDepth 20000 in
theorem ggX11_bands_X11_bandOf : GoodIn wsX11_bands wsX11_bandOf := goodIn_r _ [38, 17, 39, 40, 41, 42, 43, 44, 45, 46, 47, 48, 49, 50, 51, 52, 53, 54, 55, 56, 57, 58, 59, 60, 61, 62, 63, 64, 65, 66, 67, 68, 69, 70, 71, 72, 73, 74, 75, 76, 77, 78, 79, 80] (by decide +kernel) (by decide +kernel)
set_option maxRecDepth 20000 in
theorem gX11_bands_X11_bandOf : GoodIn wsX11_bands (wsV RX11 97 RX11 yX11_bandOf wsX11_bandOf) := goodIn_app (goodIn_of _ (by decide +kernel)) ggX11_bands_X11_bandOf
theorem dX11_bands_0 : decode cX11_bands 0 = .ok (.aload_n 0, 1) := by decide +kernel
theorem dX11_bands_1 : decode cX11_bands 1 = .ok (.iload_n 1, 1) := by decide +kernel
theorem dX11_bands_2 : decode cX11_bands 2 = .ok (.iload_n 2, 1) := by decide +kernel
theorem dX11_bands_3 : decode cX11_bands 3 = .ok (.invokevirtual 153, 3) := by decide +kernel
theorem dX11_bands_6 : decode cX11_bands 6 = .ok (.ifCond .eq 17, 3) := by decide +kernel
theorem dX11_bands_9 : decode cX11_bands 9 = .ok (.aload_n 0, 1) := by decide +kernel
theorem dX11_bands_10 : decode cX11_bands 10 = .ok (.iload_n 1, 1) := by decide +kernel
theorem dX11_bands_11 : decode cX11_bands 11 = .ok (.iload_n 3, 1) := by decide +kernel
theorem dX11_bands_12 : decode cX11_bands 12 = .ok (.invokevirtual 153, 3) := by decide +kernel
theorem dX11_bands_15 : decode cX11_bands 15 = .ok (.ifCond .eq 8, 3) := by decide +kernel
theorem dX11_bands_18 : decode cX11_bands 18 = .ok (.iload_n 2, 1) := by decide +kernel
theorem dX11_bands_19 : decode cX11_bands 19 = .ok (.iload_n 3, 1) := by decide +kernel
theorem dX11_bands_20 : decode cX11_bands 20 = .ok (.if_icmp .le 5, 3) := by decide +kernel
theorem dX11_bands_23 : decode cX11_bands 23 = .ok (.iconst (-1), 1) := by decide +kernel
theorem dX11_bands_24 : decode cX11_bands 24 = .ok (.ireturn, 1) := by decide +kernel
theorem dX11_bands_25 : decode cX11_bands 25 = .ok (.aload_n 0, 1) := by decide +kernel
theorem dX11_bands_26 : decode cX11_bands 26 = .ok (.iload_n 1, 1) := by decide +kernel
theorem dX11_bands_27 : decode cX11_bands 27 = .ok (.iload_n 2, 1) := by decide +kernel
theorem dX11_bands_28 : decode cX11_bands 28 = .ok (.invokevirtual 101, 3) := by decide +kernel
theorem dX11_bands_31 : decode cX11_bands 31 = .ok (.istore 4, 2) := by decide +kernel
theorem dX11_bands_33 : decode cX11_bands 33 = .ok (.aload_n 0, 1) := by decide +kernel
theorem dX11_bands_34 : decode cX11_bands 34 = .ok (.iload_n 1, 1) := by decide +kernel
theorem dX11_bands_35 : decode cX11_bands 35 = .ok (.iload_n 3, 1) := by decide +kernel
theorem dX11_bands_36 : decode cX11_bands 36 = .ok (.invokevirtual 101, 3) := by decide +kernel
theorem dX11_bands_39 : decode cX11_bands 39 = .ok (.istore 5, 2) := by decide +kernel
theorem dX11_bands_41 : decode cX11_bands 41 = .ok (.iload 4, 2) := by decide +kernel
theorem dX11_bands_43 : decode cX11_bands 43 = .ok (.ifCond .ne 7, 3) := by decide +kernel
theorem dX11_bands_46 : decode cX11_bands 46 = .ok (.iconst 1, 1) := by decide +kernel
theorem dX11_bands_47 : decode cX11_bands 47 = .ok (.goto 5, 3) := by decide +kernel
theorem dX11_bands_50 : decode cX11_bands 50 = .ok (.iload 4, 2) := by decide +kernel
theorem dX11_bands_52 : decode cX11_bands 52 = .ok (.istore 4, 2) := by decide +kernel
theorem dX11_bands_54 : decode cX11_bands 54 = .ok (.iload 5, 2) := by decide +kernel
theorem dX11_bands_56 : decode cX11_bands 56 = .ok (.aload_n 0, 1) := by decide +kernel
theorem dX11_bands_57 : decode cX11_bands 57 = .ok (.iload_n 1, 1) := by decide +kernel
theorem dX11_bands_58 : decode cX11_bands 58 = .ok (.invokevirtual 94, 3) := by decide +kernel
theorem dX11_bands_61 : decode cX11_bands 61 = .ok (.if_icmp .ne 10, 3) := by decide +kernel
theorem dX11_bands_64 : decode cX11_bands 64 = .ok (.iload 5, 2) := by decide +kernel
theorem dX11_bands_66 : decode cX11_bands 66 = .ok (.iconst 1, 1) := by decide +kernel
theorem dX11_bands_67 : decode cX11_bands 67 = .ok (.isub, 1) := by decide +kernel
theorem dX11_bands_68 : decode cX11_bands 68 = .ok (.goto 5, 3) := by decide +kernel
theorem dX11_bands_71 : decode cX11_bands 71 = .ok (.iload 5, 2) := by decide +kernel
theorem dX11_bands_73 : decode cX11_bands 73 = .ok (.istore 5, 2) := by decide +kernel
theorem dX11_bands_75 : decode cX11_bands 75 = .ok (.iload 4, 2) := by decide +kernel
theorem dX11_bands_77 : decode cX11_bands 77 = .ok (.iload 5, 2) := by decide +kernel
theorem dX11_bands_79 : decode cX11_bands 79 = .ok (.if_icmp .le 7, 3) := by decide +kernel
theorem dX11_bands_82 : decode cX11_bands 82 = .ok (.iconst 0, 1) := by decide +kernel
theorem dX11_bands_83 : decode cX11_bands 83 = .ok (.goto 20, 3) := by decide +kernel
theorem dX11_bands_86 : decode cX11_bands 86 = .ok (.aload_n 0, 1) := by decide +kernel
theorem dX11_bands_87 : decode cX11_bands 87 = .ok (.iload_n 1, 1) := by decide +kernel
theorem dX11_bands_88 : decode cX11_bands 88 = .ok (.iload 5, 2) := by decide +kernel
theorem dX11_bands_90 : decode cX11_bands 90 = .ok (.invokevirtual 97, 3) := by decide +kernel
theorem dX11_bands_93 : decode cX11_bands 93 = .ok (.aload_n 0, 1) := by decide +kernel
theorem dX11_bands_94 : decode cX11_bands 94 = .ok (.iload_n 1, 1) := by decide +kernel
theorem dX11_bands_95 : decode cX11_bands 95 = .ok (.iload 4, 2) := by decide +kernel
theorem dX11_bands_97 : decode cX11_bands 97 = .ok (.invokevirtual 97, 3) := by decide +kernel
theorem dX11_bands_100 : decode cX11_bands 100 = .ok (.isub, 1) := by decide +kernel
theorem dX11_bands_101 : decode cX11_bands 101 = .ok (.iconst 1, 1) := by decide +kernel
theorem dX11_bands_102 : decode cX11_bands 102 = .ok (.iadd, 1) := by decide +kernel
theorem dX11_bands_103 : decode cX11_bands 103 = .ok (.ireturn, 1) := by decide +kernel
theorem dX11_count_0 : decode cX11_count 0 = .ok (.iload_n 1, 1) := by decide +kernel
theorem dX11_count_1 : decode cX11_count 1 = .ok (.tableswitch 78 0 6 #[43, 48, 53, 58, 63, 68, 73], 43) := by decide +kernel
theorem dX11_count_44 : decode cX11_count 44 = .ok (.aload_n 0, 1) := by decide +kernel
theorem dX11_count_45 : decode cX11_count 45 = .ok (.getfield 123, 3) := by decide +kernel
theorem dX11_count_48 : decode cX11_count 48 = .ok (.ireturn, 1) := by decide +kernel
theorem dX11_count_49 : decode cX11_count 49 = .ok (.aload_n 0, 1) := by decide +kernel
theorem dX11_count_50 : decode cX11_count 50 = .ok (.getfield 160, 3) := by decide +kernel
theorem dX11_count_53 : decode cX11_count 53 = .ok (.ireturn, 1) := by decide +kernel
theorem dX11_count_54 : decode cX11_count 54 = .ok (.aload_n 0, 1) := by decide +kernel
theorem dX11_count_55 : decode cX11_count 55 = .ok (.getfield 440, 3) := by decide +kernel
theorem dX11_count_58 : decode cX11_count 58 = .ok (.ireturn, 1) := by decide +kernel
theorem dX11_count_59 : decode cX11_count 59 = .ok (.aload_n 0, 1) := by decide +kernel
theorem dX11_count_60 : decode cX11_count 60 = .ok (.getfield 199, 3) := by decide +kernel
theorem dX11_count_63 : decode cX11_count 63 = .ok (.ireturn, 1) := by decide +kernel
theorem dX11_count_64 : decode cX11_count 64 = .ok (.aload_n 0, 1) := by decide +kernel
theorem dX11_count_65 : decode cX11_count 65 = .ok (.getfield 202, 3) := by decide +kernel
theorem dX11_count_68 : decode cX11_count 68 = .ok (.ireturn, 1) := by decide +kernel
theorem dX11_count_69 : decode cX11_count 69 = .ok (.aload_n 0, 1) := by decide +kernel
theorem dX11_count_70 : decode cX11_count 70 = .ok (.getfield 205, 3) := by decide +kernel
theorem dX11_count_73 : decode cX11_count 73 = .ok (.ireturn, 1) := by decide +kernel
theorem dX11_count_74 : decode cX11_count 74 = .ok (.aload_n 0, 1) := by decide +kernel
theorem dX11_count_75 : decode cX11_count 75 = .ok (.getfield 208, 3) := by decide +kernel
theorem dX11_count_78 : decode cX11_count 78 = .ok (.ireturn, 1) := by decide +kernel
theorem dX11_count_79 : decode cX11_count 79 = .ok (.iconst (-1), 1) := by decide +kernel
theorem dX11_count_80 : decode cX11_count 80 = .ok (.ireturn, 1) := by decide +kernel
theorem dX11_keeps_0 : decode cX11_keeps 0 = .ok (.aload_n 0, 1) := by decide +kernel
theorem dX11_keeps_1 : decode cX11_keeps 1 = .ok (.getfield 57, 3) := by decide +kernel
theorem dX11_keeps_4 : decode cX11_keeps 4 = .ok (.aload_n 0, 1) := by decide +kernel
theorem dX11_keeps_5 : decode cX11_keeps 5 = .ok (.getfield 443, 3) := by decide +kernel
theorem dX11_keeps_8 : decode cX11_keeps 8 = .ok (.iload_n 1, 1) := by decide +kernel
theorem dX11_keeps_9 : decode cX11_keeps 9 = .ok (.iastore, 1) := by decide +kernel
theorem dX11_keeps_10 : decode cX11_keeps 10 = .ok (.aload_n 0, 1) := by decide +kernel
theorem dX11_keeps_11 : decode cX11_keeps 11 = .ok (.aload_n 0, 1) := by decide +kernel
theorem dX11_keeps_12 : decode cX11_keeps 12 = .ok (.getfield 443, 3) := by decide +kernel
theorem dX11_keeps_15 : decode cX11_keeps 15 = .ok (.iconst 1, 1) := by decide +kernel
theorem dX11_keeps_16 : decode cX11_keeps 16 = .ok (.iadd, 1) := by decide +kernel
theorem dX11_keeps_17 : decode cX11_keeps 17 = .ok (.putfield 443, 3) := by decide +kernel
theorem dX11_keeps_20 : decode cX11_keeps 20 = .ok (.return_, 1) := by decide +kernel
theorem dX11_tells_0 : decode cX11_tells 0 = .ok (.aload_n 0, 1) := by decide +kernel
theorem dX11_tells_1 : decode cX11_tells 1 = .ok (.aload_n 0, 1) := by decide +kernel
theorem dX11_tells_2 : decode cX11_tells 2 = .ok (.getfield 443, 3) := by decide +kernel
theorem dX11_tells_5 : decode cX11_tells 5 = .ok (.iconst 1, 1) := by decide +kernel
theorem dX11_tells_6 : decode cX11_tells 6 = .ok (.iadd, 1) := by decide +kernel
theorem dX11_tells_7 : decode cX11_tells 7 = .ok (.putfield 443, 3) := by decide +kernel
theorem dX11_tells_10 : decode cX11_tells 10 = .ok (.aload_n 0, 1) := by decide +kernel
theorem dX11_tells_11 : decode cX11_tells 11 = .ok (.getfield 57, 3) := by decide +kernel
theorem dX11_tells_14 : decode cX11_tells 14 = .ok (.aload_n 0, 1) := by decide +kernel
theorem dX11_tells_15 : decode cX11_tells 15 = .ok (.getfield 443, 3) := by decide +kernel
theorem dX11_tells_18 : decode cX11_tells 18 = .ok (.iconst 1, 1) := by decide +kernel
theorem dX11_tells_19 : decode cX11_tells 19 = .ok (.isub, 1) := by decide +kernel
theorem dX11_tells_20 : decode cX11_tells 20 = .ok (.iaload, 1) := by decide +kernel
theorem dX11_tells_21 : decode cX11_tells 21 = .ok (.ireturn, 1) := by decide +kernel
set_option maxRecDepth 20000 in
theorem ggX11_keep_X11_keeps : GoodIn wsX11_keep wsX11_keeps := goodIn_r _ [18, 19, 2, 20, 21, 22, 23, 24, 25, 26, 27, 28, 29, 30, 31, 32, 33, 34, 35, 36, 37, 38, 39, 40, 41, 42, 43, 44, 45, 46, 47, 48, 49, 50, 51, 52, 53, 54, 55, 56, 57, 58, 59, 60, 61] (by decide +kernel) (by decide +kernel)
set_option maxRecDepth 20000 in
theorem gX11_keep_X11_keeps : GoodIn wsX11_keep (wsV RX11 446 RX11 yX11_keeps wsX11_keeps) := goodIn_app (goodIn_of _ (by decide +kernel)) ggX11_keep_X11_keeps
theorem dX11_keep_0 : decode cX11_keep 0 = .ok (.aload_n 0, 1) := by decide +kernel
theorem dX11_keep_1 : decode cX11_keep 1 = .ok (.getfield 440, 3) := by decide +kernel
theorem dX11_keep_4 : decode cX11_keep 4 = .ok (.bipush 8, 2) := by decide +kernel
theorem dX11_keep_6 : decode cX11_keep 6 = .ok (.if_icmp .ne 5, 3) := by decide +kernel
theorem dX11_keep_9 : decode cX11_keep 9 = .ok (.iconst (-1), 1) := by decide +kernel
theorem dX11_keep_10 : decode cX11_keep 10 = .ok (.ireturn, 1) := by decide +kernel
theorem dX11_keep_11 : decode cX11_keep 11 = .ok (.aload_n 0, 1) := by decide +kernel
theorem dX11_keep_12 : decode cX11_keep 12 = .ok (.sipush 194, 3) := by decide +kernel
theorem dX11_keep_15 : decode cX11_keep 15 = .ok (.aload_n 0, 1) := by decide +kernel
theorem dX11_keep_16 : decode cX11_keep 16 = .ok (.getfield 440, 3) := by decide +kernel
theorem dX11_keep_19 : decode cX11_keep 19 = .ok (.imul, 1) := by decide +kernel
theorem dX11_keep_20 : decode cX11_keep 20 = .ok (.putfield 443, 3) := by decide +kernel
theorem dX11_keep_23 : decode cX11_keep 23 = .ok (.iconst 0, 1) := by decide +kernel
theorem dX11_keep_24 : decode cX11_keep 24 = .ok (.istore_n 1, 1) := by decide +kernel
theorem dX11_keep_25 : decode cX11_keep 25 = .ok (.iload_n 1, 1) := by decide +kernel
theorem dX11_keep_26 : decode cX11_keep 26 = .ok (.iconst 5, 1) := by decide +kernel
theorem dX11_keep_27 : decode cX11_keep 27 = .ok (.if_icmp .ge 29, 3) := by decide +kernel
theorem dX11_keep_30 : decode cX11_keep 30 = .ok (.aload_n 0, 1) := by decide +kernel
theorem dX11_keep_31 : decode cX11_keep 31 = .ok (.aload_n 0, 1) := by decide +kernel
theorem dX11_keep_32 : decode cX11_keep 32 = .ok (.getfield 7, 3) := by decide +kernel
theorem dX11_keep_35 : decode cX11_keep 35 = .ok (.iload_n 1, 1) := by decide +kernel
theorem dX11_keep_36 : decode cX11_keep 36 = .ok (.iaload, 1) := by decide +kernel
theorem dX11_keep_37 : decode cX11_keep 37 = .ok (.invokevirtual 446, 3) := by decide +kernel
theorem dX11_keep_40 : decode cX11_keep 40 = .ok (.aload_n 0, 1) := by decide +kernel
theorem dX11_keep_41 : decode cX11_keep 41 = .ok (.aload_n 0, 1) := by decide +kernel
theorem dX11_keep_42 : decode cX11_keep 42 = .ok (.getfield 13, 3) := by decide +kernel
theorem dX11_keep_45 : decode cX11_keep 45 = .ok (.iload_n 1, 1) := by decide +kernel
theorem dX11_keep_46 : decode cX11_keep 46 = .ok (.iaload, 1) := by decide +kernel
theorem dX11_keep_47 : decode cX11_keep 47 = .ok (.invokevirtual 446, 3) := by decide +kernel
theorem dX11_keep_50 : decode cX11_keep 50 = .ok (.iinc 1 1, 3) := by decide +kernel
theorem dX11_keep_53 : decode cX11_keep 53 = .ok (.goto (-28), 3) := by decide +kernel
theorem dX11_keep_56 : decode cX11_keep 56 = .ok (.aload_n 0, 1) := by decide +kernel
theorem dX11_keep_57 : decode cX11_keep 57 = .ok (.aload_n 0, 1) := by decide +kernel
theorem dX11_keep_58 : decode cX11_keep 58 = .ok (.getfield 123, 3) := by decide +kernel
theorem dX11_keep_61 : decode cX11_keep 61 = .ok (.invokevirtual 446, 3) := by decide +kernel
theorem dX11_keep_64 : decode cX11_keep 64 = .ok (.aload_n 0, 1) := by decide +kernel
theorem dX11_keep_65 : decode cX11_keep 65 = .ok (.aload_n 0, 1) := by decide +kernel
theorem dX11_keep_66 : decode cX11_keep 66 = .ok (.getfield 199, 3) := by decide +kernel
theorem dX11_keep_69 : decode cX11_keep 69 = .ok (.invokevirtual 446, 3) := by decide +kernel
theorem dX11_keep_72 : decode cX11_keep 72 = .ok (.aload_n 0, 1) := by decide +kernel
theorem dX11_keep_73 : decode cX11_keep 73 = .ok (.aload_n 0, 1) := by decide +kernel
theorem dX11_keep_74 : decode cX11_keep 74 = .ok (.getfield 202, 3) := by decide +kernel
theorem dX11_keep_77 : decode cX11_keep 77 = .ok (.invokevirtual 446, 3) := by decide +kernel
theorem dX11_keep_80 : decode cX11_keep 80 = .ok (.aload_n 0, 1) := by decide +kernel
theorem dX11_keep_81 : decode cX11_keep 81 = .ok (.aload_n 0, 1) := by decide +kernel
theorem dX11_keep_82 : decode cX11_keep 82 = .ok (.getfield 205, 3) := by decide +kernel
theorem dX11_keep_85 : decode cX11_keep 85 = .ok (.invokevirtual 446, 3) := by decide +kernel
theorem dX11_keep_88 : decode cX11_keep 88 = .ok (.iconst 0, 1) := by decide +kernel
theorem dX11_keep_89 : decode cX11_keep 89 = .ok (.istore_n 1, 1) := by decide +kernel
theorem dX11_keep_90 : decode cX11_keep 90 = .ok (.iload_n 1, 1) := by decide +kernel
theorem dX11_keep_91 : decode cX11_keep 91 = .ok (.bipush 60, 2) := by decide +kernel
theorem dX11_keep_93 : decode cX11_keep 93 = .ok (.if_icmp .ge 39, 3) := by decide +kernel
theorem dX11_keep_96 : decode cX11_keep 96 = .ok (.aload_n 0, 1) := by decide +kernel
theorem dX11_keep_97 : decode cX11_keep 97 = .ok (.aload_n 0, 1) := by decide +kernel
theorem dX11_keep_98 : decode cX11_keep 98 = .ok (.getfield 45, 3) := by decide +kernel
theorem dX11_keep_101 : decode cX11_keep 101 = .ok (.iload_n 1, 1) := by decide +kernel
theorem dX11_keep_102 : decode cX11_keep 102 = .ok (.iaload, 1) := by decide +kernel
theorem dX11_keep_103 : decode cX11_keep 103 = .ok (.invokevirtual 446, 3) := by decide +kernel
theorem dX11_keep_106 : decode cX11_keep 106 = .ok (.aload_n 0, 1) := by decide +kernel
theorem dX11_keep_107 : decode cX11_keep 107 = .ok (.aload_n 0, 1) := by decide +kernel
theorem dX11_keep_108 : decode cX11_keep 108 = .ok (.getfield 48, 3) := by decide +kernel
theorem dX11_keep_111 : decode cX11_keep 111 = .ok (.iload_n 1, 1) := by decide +kernel
theorem dX11_keep_112 : decode cX11_keep 112 = .ok (.iaload, 1) := by decide +kernel
theorem dX11_keep_113 : decode cX11_keep 113 = .ok (.invokevirtual 446, 3) := by decide +kernel
theorem dX11_keep_116 : decode cX11_keep 116 = .ok (.aload_n 0, 1) := by decide +kernel
theorem dX11_keep_117 : decode cX11_keep 117 = .ok (.aload_n 0, 1) := by decide +kernel
theorem dX11_keep_118 : decode cX11_keep 118 = .ok (.getfield 51, 3) := by decide +kernel
theorem dX11_keep_121 : decode cX11_keep 121 = .ok (.iload_n 1, 1) := by decide +kernel
theorem dX11_keep_122 : decode cX11_keep 122 = .ok (.iaload, 1) := by decide +kernel
theorem dX11_keep_123 : decode cX11_keep 123 = .ok (.invokevirtual 446, 3) := by decide +kernel
theorem dX11_keep_126 : decode cX11_keep 126 = .ok (.iinc 1 1, 3) := by decide +kernel
theorem dX11_keep_129 : decode cX11_keep 129 = .ok (.goto (-39), 3) := by decide +kernel
theorem dX11_keep_132 : decode cX11_keep 132 = .ok (.aload_n 0, 1) := by decide +kernel
theorem dX11_keep_133 : decode cX11_keep 133 = .ok (.getfield 60, 3) := by decide +kernel
theorem dX11_keep_136 : decode cX11_keep 136 = .ok (.aload_n 0, 1) := by decide +kernel
theorem dX11_keep_137 : decode cX11_keep 137 = .ok (.getfield 440, 3) := by decide +kernel
theorem dX11_keep_140 : decode cX11_keep 140 = .ok (.aload_n 0, 1) := by decide +kernel
theorem dX11_keep_141 : decode cX11_keep 141 = .ok (.getfield 208, 3) := by decide +kernel
theorem dX11_keep_144 : decode cX11_keep 144 = .ok (.iastore, 1) := by decide +kernel
theorem dX11_keep_145 : decode cX11_keep 145 = .ok (.aload_n 0, 1) := by decide +kernel
theorem dX11_keep_146 : decode cX11_keep 146 = .ok (.aload_n 0, 1) := by decide +kernel
theorem dX11_keep_147 : decode cX11_keep 147 = .ok (.getfield 440, 3) := by decide +kernel
theorem dX11_keep_150 : decode cX11_keep 150 = .ok (.iconst 1, 1) := by decide +kernel
theorem dX11_keep_151 : decode cX11_keep 151 = .ok (.iadd, 1) := by decide +kernel
theorem dX11_keep_152 : decode cX11_keep 152 = .ok (.putfield 440, 3) := by decide +kernel
theorem dX11_keep_155 : decode cX11_keep 155 = .ok (.aload_n 0, 1) := by decide +kernel
theorem dX11_keep_156 : decode cX11_keep 156 = .ok (.getfield 440, 3) := by decide +kernel
theorem dX11_keep_159 : decode cX11_keep 159 = .ok (.ireturn, 1) := by decide +kernel
set_option maxRecDepth 20000 in
theorem ggX11_undo_X11_tells : GoodIn wsX11_undo wsX11_tells := goodIn_r _ [18, 2, 19, 26, 27, 28, 29, 30, 31, 32, 33, 34, 35, 36, 37, 38, 39, 40, 41, 42, 43, 44, 45, 46, 47, 48, 49, 50, 51, 52, 53, 54, 55, 56, 57, 58, 59, 60, 61, 62, 63, 64, 65, 66, 67] (by decide +kernel) (by decide +kernel)
set_option maxRecDepth 20000 in
theorem gX11_undo_X11_tells : GoodIn wsX11_undo (wsV RX11 449 RX11 yX11_tells wsX11_tells) := goodIn_app (goodIn_of _ (by decide +kernel)) ggX11_undo_X11_tells
set_option maxRecDepth 20000 in
theorem ggX11_undo_X11_laysGrids : GoodIn wsX11_undo wsX11_laysGrids := goodIn_r _ [23, 24, 25, 3, 4, 26, 27, 28, 29, 30, 31, 32, 33, 34, 35, 36, 37, 38, 39, 40, 41, 42, 43, 44, 45, 46, 47, 48, 49, 50, 51, 52, 53, 54, 55, 56, 57, 58, 59, 60, 61, 62, 63, 64, 65, 66, 67] (by decide +kernel) (by decide +kernel)
set_option maxRecDepth 20000 in
theorem gX11_undo_X11_laysGrids : GoodIn wsX11_undo (wsV RX11 67 RX11 yX11_laysGrids wsX11_laysGrids) := goodIn_app (goodIn_of _ (by decide +kernel)) ggX11_undo_X11_laysGrids
theorem dX11_undo_0 : decode cX11_undo 0 = .ok (.aload_n 0, 1) := by decide +kernel
theorem dX11_undo_1 : decode cX11_undo 1 = .ok (.getfield 440, 3) := by decide +kernel
theorem dX11_undo_4 : decode cX11_undo 4 = .ok (.ifCond .ne 5, 3) := by decide +kernel
theorem dX11_undo_7 : decode cX11_undo 7 = .ok (.iconst (-1), 1) := by decide +kernel
theorem dX11_undo_8 : decode cX11_undo 8 = .ok (.ireturn, 1) := by decide +kernel
theorem dX11_undo_9 : decode cX11_undo 9 = .ok (.aload_n 0, 1) := by decide +kernel
theorem dX11_undo_10 : decode cX11_undo 10 = .ok (.aload_n 0, 1) := by decide +kernel
theorem dX11_undo_11 : decode cX11_undo 11 = .ok (.getfield 440, 3) := by decide +kernel
theorem dX11_undo_14 : decode cX11_undo 14 = .ok (.iconst 1, 1) := by decide +kernel
theorem dX11_undo_15 : decode cX11_undo 15 = .ok (.isub, 1) := by decide +kernel
theorem dX11_undo_16 : decode cX11_undo 16 = .ok (.putfield 440, 3) := by decide +kernel
theorem dX11_undo_19 : decode cX11_undo 19 = .ok (.aload_n 0, 1) := by decide +kernel
theorem dX11_undo_20 : decode cX11_undo 20 = .ok (.sipush 194, 3) := by decide +kernel
theorem dX11_undo_23 : decode cX11_undo 23 = .ok (.aload_n 0, 1) := by decide +kernel
theorem dX11_undo_24 : decode cX11_undo 24 = .ok (.getfield 440, 3) := by decide +kernel
theorem dX11_undo_27 : decode cX11_undo 27 = .ok (.imul, 1) := by decide +kernel
theorem dX11_undo_28 : decode cX11_undo 28 = .ok (.putfield 443, 3) := by decide +kernel
theorem dX11_undo_31 : decode cX11_undo 31 = .ok (.iconst 0, 1) := by decide +kernel
theorem dX11_undo_32 : decode cX11_undo 32 = .ok (.istore_n 1, 1) := by decide +kernel
theorem dX11_undo_33 : decode cX11_undo 33 = .ok (.iload_n 1, 1) := by decide +kernel
theorem dX11_undo_34 : decode cX11_undo 34 = .ok (.iconst 5, 1) := by decide +kernel
theorem dX11_undo_35 : decode cX11_undo 35 = .ok (.if_icmp .ge 29, 3) := by decide +kernel
theorem dX11_undo_38 : decode cX11_undo 38 = .ok (.aload_n 0, 1) := by decide +kernel
theorem dX11_undo_39 : decode cX11_undo 39 = .ok (.getfield 7, 3) := by decide +kernel
theorem dX11_undo_42 : decode cX11_undo 42 = .ok (.iload_n 1, 1) := by decide +kernel
theorem dX11_undo_43 : decode cX11_undo 43 = .ok (.aload_n 0, 1) := by decide +kernel
theorem dX11_undo_44 : decode cX11_undo 44 = .ok (.invokevirtual 449, 3) := by decide +kernel
theorem dX11_undo_47 : decode cX11_undo 47 = .ok (.iastore, 1) := by decide +kernel
theorem dX11_undo_48 : decode cX11_undo 48 = .ok (.aload_n 0, 1) := by decide +kernel
theorem dX11_undo_49 : decode cX11_undo 49 = .ok (.getfield 13, 3) := by decide +kernel
theorem dX11_undo_52 : decode cX11_undo 52 = .ok (.iload_n 1, 1) := by decide +kernel
theorem dX11_undo_53 : decode cX11_undo 53 = .ok (.aload_n 0, 1) := by decide +kernel
theorem dX11_undo_54 : decode cX11_undo 54 = .ok (.invokevirtual 449, 3) := by decide +kernel
theorem dX11_undo_57 : decode cX11_undo 57 = .ok (.iastore, 1) := by decide +kernel
theorem dX11_undo_58 : decode cX11_undo 58 = .ok (.iinc 1 1, 3) := by decide +kernel
theorem dX11_undo_61 : decode cX11_undo 61 = .ok (.goto (-28), 3) := by decide +kernel
theorem dX11_undo_64 : decode cX11_undo 64 = .ok (.aload_n 0, 1) := by decide +kernel
theorem dX11_undo_65 : decode cX11_undo 65 = .ok (.aload_n 0, 1) := by decide +kernel
theorem dX11_undo_66 : decode cX11_undo 66 = .ok (.invokevirtual 449, 3) := by decide +kernel
theorem dX11_undo_69 : decode cX11_undo 69 = .ok (.putfield 123, 3) := by decide +kernel
theorem dX11_undo_72 : decode cX11_undo 72 = .ok (.aload_n 0, 1) := by decide +kernel
theorem dX11_undo_73 : decode cX11_undo 73 = .ok (.aload_n 0, 1) := by decide +kernel
theorem dX11_undo_74 : decode cX11_undo 74 = .ok (.invokevirtual 449, 3) := by decide +kernel
theorem dX11_undo_77 : decode cX11_undo 77 = .ok (.putfield 199, 3) := by decide +kernel
theorem dX11_undo_80 : decode cX11_undo 80 = .ok (.aload_n 0, 1) := by decide +kernel
theorem dX11_undo_81 : decode cX11_undo 81 = .ok (.aload_n 0, 1) := by decide +kernel
theorem dX11_undo_82 : decode cX11_undo 82 = .ok (.invokevirtual 449, 3) := by decide +kernel
theorem dX11_undo_85 : decode cX11_undo 85 = .ok (.putfield 202, 3) := by decide +kernel
theorem dX11_undo_88 : decode cX11_undo 88 = .ok (.aload_n 0, 1) := by decide +kernel
theorem dX11_undo_89 : decode cX11_undo 89 = .ok (.aload_n 0, 1) := by decide +kernel
theorem dX11_undo_90 : decode cX11_undo 90 = .ok (.invokevirtual 449, 3) := by decide +kernel
theorem dX11_undo_93 : decode cX11_undo 93 = .ok (.putfield 205, 3) := by decide +kernel
theorem dX11_undo_96 : decode cX11_undo 96 = .ok (.iconst 0, 1) := by decide +kernel
theorem dX11_undo_97 : decode cX11_undo 97 = .ok (.istore_n 1, 1) := by decide +kernel
theorem dX11_undo_98 : decode cX11_undo 98 = .ok (.iload_n 1, 1) := by decide +kernel
theorem dX11_undo_99 : decode cX11_undo 99 = .ok (.bipush 60, 2) := by decide +kernel
theorem dX11_undo_101 : decode cX11_undo 101 = .ok (.if_icmp .ge 39, 3) := by decide +kernel
theorem dX11_undo_104 : decode cX11_undo 104 = .ok (.aload_n 0, 1) := by decide +kernel
theorem dX11_undo_105 : decode cX11_undo 105 = .ok (.getfield 45, 3) := by decide +kernel
theorem dX11_undo_108 : decode cX11_undo 108 = .ok (.iload_n 1, 1) := by decide +kernel
theorem dX11_undo_109 : decode cX11_undo 109 = .ok (.aload_n 0, 1) := by decide +kernel
theorem dX11_undo_110 : decode cX11_undo 110 = .ok (.invokevirtual 449, 3) := by decide +kernel
theorem dX11_undo_113 : decode cX11_undo 113 = .ok (.iastore, 1) := by decide +kernel
theorem dX11_undo_114 : decode cX11_undo 114 = .ok (.aload_n 0, 1) := by decide +kernel
theorem dX11_undo_115 : decode cX11_undo 115 = .ok (.getfield 48, 3) := by decide +kernel
theorem dX11_undo_118 : decode cX11_undo 118 = .ok (.iload_n 1, 1) := by decide +kernel
theorem dX11_undo_119 : decode cX11_undo 119 = .ok (.aload_n 0, 1) := by decide +kernel
theorem dX11_undo_120 : decode cX11_undo 120 = .ok (.invokevirtual 449, 3) := by decide +kernel
theorem dX11_undo_123 : decode cX11_undo 123 = .ok (.iastore, 1) := by decide +kernel
theorem dX11_undo_124 : decode cX11_undo 124 = .ok (.aload_n 0, 1) := by decide +kernel
theorem dX11_undo_125 : decode cX11_undo 125 = .ok (.getfield 51, 3) := by decide +kernel
theorem dX11_undo_128 : decode cX11_undo 128 = .ok (.iload_n 1, 1) := by decide +kernel
theorem dX11_undo_129 : decode cX11_undo 129 = .ok (.aload_n 0, 1) := by decide +kernel
theorem dX11_undo_130 : decode cX11_undo 130 = .ok (.invokevirtual 449, 3) := by decide +kernel
theorem dX11_undo_133 : decode cX11_undo 133 = .ok (.iastore, 1) := by decide +kernel
theorem dX11_undo_134 : decode cX11_undo 134 = .ok (.iinc 1 1, 3) := by decide +kernel
theorem dX11_undo_137 : decode cX11_undo 137 = .ok (.goto (-39), 3) := by decide +kernel
theorem dX11_undo_140 : decode cX11_undo 140 = .ok (.aload_n 0, 1) := by decide +kernel
theorem dX11_undo_141 : decode cX11_undo 141 = .ok (.aload_n 0, 1) := by decide +kernel
theorem dX11_undo_142 : decode cX11_undo 142 = .ok (.getfield 60, 3) := by decide +kernel
theorem dX11_undo_145 : decode cX11_undo 145 = .ok (.aload_n 0, 1) := by decide +kernel
theorem dX11_undo_146 : decode cX11_undo 146 = .ok (.getfield 440, 3) := by decide +kernel
theorem dX11_undo_149 : decode cX11_undo 149 = .ok (.iaload, 1) := by decide +kernel
theorem dX11_undo_150 : decode cX11_undo 150 = .ok (.putfield 208, 3) := by decide +kernel
theorem dX11_undo_153 : decode cX11_undo 153 = .ok (.aload_n 0, 1) := by decide +kernel
theorem dX11_undo_154 : decode cX11_undo 154 = .ok (.invokevirtual 67, 3) := by decide +kernel
theorem dX11_undo_157 : decode cX11_undo 157 = .ok (.aload_n 0, 1) := by decide +kernel
theorem dX11_undo_158 : decode cX11_undo 158 = .ok (.getfield 440, 3) := by decide +kernel
theorem dX11_undo_161 : decode cX11_undo 161 = .ok (.ireturn, 1) := by decide +kernel
