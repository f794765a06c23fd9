theorem dX11_laysBeside_0 : decode cX11_laysBeside 0 = .ok (.aload_n 0, 1) := by decide +kernel
theorem dX11_laysBeside_1 : decode cX11_laysBeside 1 = .ok (.iload_n 1, 1) := by decide +kernel
theorem dX11_laysBeside_2 : decode cX11_laysBeside 2 = .ok (.iload_n 2, 1) := by decide +kernel
theorem dX11_laysBeside_3 : decode cX11_laysBeside 3 = .ok (.invokevirtual 101, 3) := by decide +kernel
theorem dX11_laysBeside_6 : decode cX11_laysBeside 6 = .ok (.istore 4, 2) := by decide +kernel
theorem dX11_laysBeside_8 : decode cX11_laysBeside 8 = .ok (.aload_n 0, 1) := by decide +kernel
theorem dX11_laysBeside_9 : decode cX11_laysBeside 9 = .ok (.iload_n 1, 1) := by decide +kernel
theorem dX11_laysBeside_10 : decode cX11_laysBeside 10 = .ok (.iload_n 2, 1) := by decide +kernel
theorem dX11_laysBeside_11 : decode cX11_laysBeside 11 = .ok (.invokevirtual 143, 3) := by decide +kernel
theorem dX11_laysBeside_14 : decode cX11_laysBeside 14 = .ok (.istore 5, 2) := by decide +kernel
theorem dX11_laysBeside_16 : decode cX11_laysBeside 16 = .ok (.aload_n 0, 1) := by decide +kernel
theorem dX11_laysBeside_17 : decode cX11_laysBeside 17 = .ok (.iload_n 1, 1) := by decide +kernel
theorem dX11_laysBeside_18 : decode cX11_laysBeside 18 = .ok (.iload 4, 2) := by decide +kernel
theorem dX11_laysBeside_20 : decode cX11_laysBeside 20 = .ok (.invokevirtual 115, 3) := by decide +kernel
theorem dX11_laysBeside_23 : decode cX11_laysBeside 23 = .ok (.istore 6, 2) := by decide +kernel
theorem dX11_laysBeside_25 : decode cX11_laysBeside 25 = .ok (.aload_n 0, 1) := by decide +kernel
theorem dX11_laysBeside_26 : decode cX11_laysBeside 26 = .ok (.iconst 0, 1) := by decide +kernel
theorem dX11_laysBeside_27 : decode cX11_laysBeside 27 = .ok (.putfield 257, 3) := by decide +kernel
theorem dX11_laysBeside_30 : decode cX11_laysBeside 30 = .ok (.iload_n 3, 1) := by decide +kernel
theorem dX11_laysBeside_31 : decode cX11_laysBeside 31 = .ok (.iconst 2, 1) := by decide +kernel
theorem dX11_laysBeside_32 : decode cX11_laysBeside 32 = .ok (.irem, 1) := by decide +kernel
theorem dX11_laysBeside_33 : decode cX11_laysBeside 33 = .ok (.iconst 1, 1) := by decide +kernel
theorem dX11_laysBeside_34 : decode cX11_laysBeside 34 = .ok (.if_icmp .ne 46, 3) := by decide +kernel
theorem dX11_laysBeside_37 : decode cX11_laysBeside 37 = .ok (.iload 6, 2) := by decide +kernel
theorem dX11_laysBeside_39 : decode cX11_laysBeside 39 = .ok (.iconst 1, 1) := by decide +kernel
theorem dX11_laysBeside_40 : decode cX11_laysBeside 40 = .ok (.if_icmp .ne 4, 3) := by decide +kernel
theorem dX11_laysBeside_43 : decode cX11_laysBeside 43 = .ok (.return_, 1) := by decide +kernel
theorem dX11_laysBeside_44 : decode cX11_laysBeside 44 = .ok (.aload_n 0, 1) := by decide +kernel
theorem dX11_laysBeside_45 : decode cX11_laysBeside 45 = .ok (.aload_n 0, 1) := by decide +kernel
theorem dX11_laysBeside_46 : decode cX11_laysBeside 46 = .ok (.iload_n 1, 1) := by decide +kernel
theorem dX11_laysBeside_47 : decode cX11_laysBeside 47 = .ok (.iload 4, 2) := by decide +kernel
theorem dX11_laysBeside_49 : decode cX11_laysBeside 49 = .ok (.iload 5, 2) := by decide +kernel
theorem dX11_laysBeside_51 : decode cX11_laysBeside 51 = .ok (.iload_n 3, 1) := by decide +kernel
theorem dX11_laysBeside_52 : decode cX11_laysBeside 52 = .ok (.iconst 1, 1) := by decide +kernel
theorem dX11_laysBeside_53 : decode cX11_laysBeside 53 = .ok (.if_icmp .ne 7, 3) := by decide +kernel
theorem dX11_laysBeside_56 : decode cX11_laysBeside 56 = .ok (.iconst 1, 1) := by decide +kernel
theorem dX11_laysBeside_57 : decode cX11_laysBeside 57 = .ok (.goto 7, 3) := by decide +kernel
theorem dX11_laysBeside_60 : decode cX11_laysBeside 60 = .ok (.iload 6, 2) := by decide +kernel
theorem dX11_laysBeside_62 : decode cX11_laysBeside 62 = .ok (.iconst 1, 1) := by decide +kernel
theorem dX11_laysBeside_63 : decode cX11_laysBeside 63 = .ok (.isub, 1) := by decide +kernel
theorem dX11_laysBeside_64 : decode cX11_laysBeside 64 = .ok (.iadd, 1) := by decide +kernel
theorem dX11_laysBeside_65 : decode cX11_laysBeside 65 = .ok (.iload 6, 2) := by decide +kernel
theorem dX11_laysBeside_67 : decode cX11_laysBeside 67 = .ok (.irem, 1) := by decide +kernel
theorem dX11_laysBeside_68 : decode cX11_laysBeside 68 = .ok (.invokevirtual 104, 3) := by decide +kernel
theorem dX11_laysBeside_71 : decode cX11_laysBeside 71 = .ok (.putfield 260, 3) := by decide +kernel
theorem dX11_laysBeside_74 : decode cX11_laysBeside 74 = .ok (.aload_n 0, 1) := by decide +kernel
theorem dX11_laysBeside_75 : decode cX11_laysBeside 75 = .ok (.iconst 1, 1) := by decide +kernel
theorem dX11_laysBeside_76 : decode cX11_laysBeside 76 = .ok (.putfield 257, 3) := by decide +kernel
theorem dX11_laysBeside_79 : decode cX11_laysBeside 79 = .ok (.return_, 1) := by decide +kernel
theorem dX11_laysBeside_80 : decode cX11_laysBeside 80 = .ok (.iload_n 3, 1) := by decide +kernel
theorem dX11_laysBeside_81 : decode cX11_laysBeside 81 = .ok (.ifCond .ne 10, 3) := by decide +kernel
theorem dX11_laysBeside_84 : decode cX11_laysBeside 84 = .ok (.iload 4, 2) := by decide +kernel
theorem dX11_laysBeside_86 : decode cX11_laysBeside 86 = .ok (.iconst 1, 1) := by decide +kernel
theorem dX11_laysBeside_87 : decode cX11_laysBeside 87 = .ok (.isub, 1) := by decide +kernel
theorem dX11_laysBeside_88 : decode cX11_laysBeside 88 = .ok (.goto 7, 3) := by decide +kernel
theorem dX11_laysBeside_91 : decode cX11_laysBeside 91 = .ok (.iload 4, 2) := by decide +kernel
theorem dX11_laysBeside_93 : decode cX11_laysBeside 93 = .ok (.iconst 1, 1) := by decide +kernel
theorem dX11_laysBeside_94 : decode cX11_laysBeside 94 = .ok (.iadd, 1) := by decide +kernel
theorem dX11_laysBeside_95 : decode cX11_laysBeside 95 = .ok (.istore 7, 2) := by decide +kernel
theorem dX11_laysBeside_97 : decode cX11_laysBeside 97 = .ok (.iload 7, 2) := by decide +kernel
theorem dX11_laysBeside_99 : decode cX11_laysBeside 99 = .ok (.i2l, 1) := by decide +kernel
theorem dX11_laysBeside_100 : decode cX11_laysBeside 100 = .ok (.lconst 0, 1) := by decide +kernel
theorem dX11_laysBeside_101 : decode cX11_laysBeside 101 = .ok (.aload_n 0, 1) := by decide +kernel
theorem dX11_laysBeside_102 : decode cX11_laysBeside 102 = .ok (.iload_n 1, 1) := by decide +kernel
theorem dX11_laysBeside_103 : decode cX11_laysBeside 103 = .ok (.invokevirtual 94, 3) := by decide +kernel
theorem dX11_laysBeside_106 : decode cX11_laysBeside 106 = .ok (.i2l, 1) := by decide +kernel
theorem dX11_laysBeside_107 : decode cX11_laysBeside 107 = .ok (.invokestatic 72, 3) := by decide +kernel
theorem dX11_laysBeside_110 : decode cX11_laysBeside 110 = .ok (.ifCond .ne 4, 3) := by decide +kernel
theorem dX11_laysBeside_113 : decode cX11_laysBeside 113 = .ok (.return_, 1) := by decide +kernel
theorem dX11_laysBeside_114 : decode cX11_laysBeside 114 = .ok (.aload_n 0, 1) := by decide +kernel
theorem dX11_laysBeside_115 : decode cX11_laysBeside 115 = .ok (.iload_n 1, 1) := by decide +kernel
theorem dX11_laysBeside_116 : decode cX11_laysBeside 116 = .ok (.iload 7, 2) := by decide +kernel
theorem dX11_laysBeside_118 : decode cX11_laysBeside 118 = .ok (.invokevirtual 115, 3) := by decide +kernel
theorem dX11_laysBeside_121 : decode cX11_laysBeside 121 = .ok (.i2l, 1) := by decide +kernel
theorem dX11_laysBeside_122 : decode cX11_laysBeside 122 = .ok (.lstore 8, 2) := by decide +kernel
theorem dX11_laysBeside_124 : decode cX11_laysBeside 124 = .ok (.iload 5, 2) := by decide +kernel
theorem dX11_laysBeside_126 : decode cX11_laysBeside 126 = .ok (.i2l, 1) := by decide +kernel
theorem dX11_laysBeside_127 : decode cX11_laysBeside 127 = .ok (.lload 8, 2) := by decide +kernel
theorem dX11_laysBeside_129 : decode cX11_laysBeside 129 = .ok (.lmul, 1) := by decide +kernel
theorem dX11_laysBeside_130 : decode cX11_laysBeside 130 = .ok (.iload 6, 2) := by decide +kernel
theorem dX11_laysBeside_132 : decode cX11_laysBeside 132 = .ok (.i2l, 1) := by decide +kernel
theorem dX11_laysBeside_133 : decode cX11_laysBeside 133 = .ok (.ldiv, 1) := by decide +kernel
theorem dX11_laysBeside_134 : decode cX11_laysBeside 134 = .ok (.lstore 10, 2) := by decide +kernel
theorem dX11_laysBeside_136 : decode cX11_laysBeside 136 = .ok (.iload 5, 2) := by decide +kernel
theorem dX11_laysBeside_138 : decode cX11_laysBeside 138 = .ok (.iconst 1, 1) := by decide +kernel
theorem dX11_laysBeside_139 : decode cX11_laysBeside 139 = .ok (.iadd, 1) := by decide +kernel
theorem dX11_laysBeside_140 : decode cX11_laysBeside 140 = .ok (.i2l, 1) := by decide +kernel
theorem dX11_laysBeside_141 : decode cX11_laysBeside 141 = .ok (.lload 8, 2) := by decide +kernel
theorem dX11_laysBeside_143 : decode cX11_laysBeside 143 = .ok (.lmul, 1) := by decide +kernel
theorem dX11_laysBeside_144 : decode cX11_laysBeside 144 = .ok (.iload 6, 2) := by decide +kernel
theorem dX11_laysBeside_146 : decode cX11_laysBeside 146 = .ok (.i2l, 1) := by decide +kernel
theorem dX11_laysBeside_147 : decode cX11_laysBeside 147 = .ok (.ladd, 1) := by decide +kernel
theorem dX11_laysBeside_148 : decode cX11_laysBeside 148 = .ok (.lconst 1, 1) := by decide +kernel
theorem dX11_laysBeside_149 : decode cX11_laysBeside 149 = .ok (.lsub, 1) := by decide +kernel
theorem dX11_laysBeside_150 : decode cX11_laysBeside 150 = .ok (.iload 6, 2) := by decide +kernel
theorem dX11_laysBeside_152 : decode cX11_laysBeside 152 = .ok (.i2l, 1) := by decide +kernel
theorem dX11_laysBeside_153 : decode cX11_laysBeside 153 = .ok (.ldiv, 1) := by decide +kernel
theorem dX11_laysBeside_154 : decode cX11_laysBeside 154 = .ok (.lstore 12, 2) := by decide +kernel
theorem dX11_laysBeside_156 : decode cX11_laysBeside 156 = .ok (.aload_n 0, 1) := by decide +kernel
theorem dX11_laysBeside_157 : decode cX11_laysBeside 157 = .ok (.aload_n 0, 1) := by decide +kernel
theorem dX11_laysBeside_158 : decode cX11_laysBeside 158 = .ok (.iload_n 1, 1) := by decide +kernel
theorem dX11_laysBeside_159 : decode cX11_laysBeside 159 = .ok (.iload 7, 2) := by decide +kernel
theorem dX11_laysBeside_161 : decode cX11_laysBeside 161 = .ok (.lload 10, 2) := by decide +kernel
theorem dX11_laysBeside_163 : decode cX11_laysBeside 163 = .ok (.l2i, 1) := by decide +kernel
theorem dX11_laysBeside_164 : decode cX11_laysBeside 164 = .ok (.invokevirtual 104, 3) := by decide +kernel
theorem dX11_laysBeside_167 : decode cX11_laysBeside 167 = .ok (.putfield 260, 3) := by decide +kernel
theorem dX11_laysBeside_170 : decode cX11_laysBeside 170 = .ok (.aload_n 0, 1) := by decide +kernel
theorem dX11_laysBeside_171 : decode cX11_laysBeside 171 = .ok (.lload 12, 2) := by decide +kernel
theorem dX11_laysBeside_173 : decode cX11_laysBeside 173 = .ok (.lload 10, 2) := by decide +kernel
theorem dX11_laysBeside_175 : decode cX11_laysBeside 175 = .ok (.lsub, 1) := by decide +kernel
theorem dX11_laysBeside_176 : decode cX11_laysBeside 176 = .ok (.l2i, 1) := by decide +kernel
theorem dX11_laysBeside_177 : decode cX11_laysBeside 177 = .ok (.putfield 257, 3) := by decide +kernel
theorem dX11_laysBeside_180 : decode cX11_laysBeside 180 = .ok (.return_, 1) := by decide +kernel
theorem gX11_neighbour_X11_isKey : GoodIn wsX11_neighbour (wsV RX11 153 RX11 yX11_isKey wsX11_isKey) := gw_c t_w585 (gw_c t_w584 (gw_c t_w583 (gw_c t_w510 (gw_c t_w582 (gw_t)))))
theorem gX11_neighbour_X11_isSide : GoodIn wsX11_neighbour (va_wsS RX11 263 yX11_isSide wsX11_isSide) := gw_c t_w634 (gw_c t_w633 (gw_c t_w510 (gw_c t_w632 (gw_t))))
theorem gX11_neighbour_X11_laysBeside : GoodIn wsX11_neighbour (wsV RX11 266 RX11 yX11_laysBeside wsX11_laysBeside) := gw_c t_w638 (gw_c t_w637 (gw_c t_w636 (gw_c t_w510 (gw_c t_w635 (gw_t)))))
theorem dX11_neighbour_0 : decode cX11_neighbour 0 = .ok (.aload_n 0, 1) := by decide +kernel
theorem dX11_neighbour_1 : decode cX11_neighbour 1 = .ok (.iload_n 1, 1) := by decide +kernel
theorem dX11_neighbour_2 : decode cX11_neighbour 2 = .ok (.iload_n 2, 1) := by decide +kernel
theorem dX11_neighbour_3 : decode cX11_neighbour 3 = .ok (.invokevirtual 153, 3) := by decide +kernel
theorem dX11_neighbour_6 : decode cX11_neighbour 6 = .ok (.ifCond .eq 16, 3) := by decide +kernel
theorem dX11_neighbour_9 : decode cX11_neighbour 9 = .ok (.iload_n 3, 1) := by decide +kernel
theorem dX11_neighbour_10 : decode cX11_neighbour 10 = .ok (.invokestatic 263, 3) := by decide +kernel
theorem dX11_neighbour_13 : decode cX11_neighbour 13 = .ok (.ifCond .eq 9, 3) := by decide +kernel
theorem dX11_neighbour_16 : decode cX11_neighbour 16 = .ok (.iload 4, 2) := by decide +kernel
theorem dX11_neighbour_18 : decode cX11_neighbour 18 = .ok (.iconst (-1), 1) := by decide +kernel
theorem dX11_neighbour_19 : decode cX11_neighbour 19 = .ok (.if_icmp .ge 5, 3) := by decide +kernel
theorem dX11_neighbour_22 : decode cX11_neighbour 22 = .ok (.iconst (-1), 1) := by decide +kernel
theorem dX11_neighbour_23 : decode cX11_neighbour 23 = .ok (.ireturn, 1) := by decide +kernel
theorem dX11_neighbour_24 : decode cX11_neighbour 24 = .ok (.aload_n 0, 1) := by decide +kernel
theorem dX11_neighbour_25 : decode cX11_neighbour 25 = .ok (.iload_n 1, 1) := by decide +kernel
theorem dX11_neighbour_26 : decode cX11_neighbour 26 = .ok (.iload_n 2, 1) := by decide +kernel
theorem dX11_neighbour_27 : decode cX11_neighbour 27 = .ok (.iload_n 3, 1) := by decide +kernel
theorem dX11_neighbour_28 : decode cX11_neighbour 28 = .ok (.invokevirtual 266, 3) := by decide +kernel
theorem dX11_neighbour_31 : decode cX11_neighbour 31 = .ok (.iload 4, 2) := by decide +kernel
theorem dX11_neighbour_33 : decode cX11_neighbour 33 = .ok (.iconst (-1), 1) := by decide +kernel
theorem dX11_neighbour_34 : decode cX11_neighbour 34 = .ok (.if_icmp .ne 10, 3) := by decide +kernel
theorem dX11_neighbour_37 : decode cX11_neighbour 37 = .ok (.aload_n 0, 1) := by decide +kernel
theorem dX11_neighbour_38 : decode cX11_neighbour 38 = .ok (.getfield 257, 3) := by decide +kernel
theorem dX11_neighbour_41 : decode cX11_neighbour 41 = .ok (.goto 24, 3) := by decide +kernel
theorem dX11_neighbour_44 : decode cX11_neighbour 44 = .ok (.iload 4, 2) := by decide +kernel
theorem dX11_neighbour_46 : decode cX11_neighbour 46 = .ok (.aload_n 0, 1) := by decide +kernel
theorem dX11_neighbour_47 : decode cX11_neighbour 47 = .ok (.getfield 257, 3) := by decide +kernel
theorem dX11_neighbour_50 : decode cX11_neighbour 50 = .ok (.if_icmp .ge 13, 3) := by decide +kernel
theorem dX11_neighbour_53 : decode cX11_neighbour 53 = .ok (.aload_n 0, 1) := by decide +kernel
theorem dX11_neighbour_54 : decode cX11_neighbour 54 = .ok (.getfield 260, 3) := by decide +kernel
theorem dX11_neighbour_57 : decode cX11_neighbour 57 = .ok (.iload 4, 2) := by decide +kernel
theorem dX11_neighbour_59 : decode cX11_neighbour 59 = .ok (.iadd, 1) := by decide +kernel
theorem dX11_neighbour_60 : decode cX11_neighbour 60 = .ok (.goto 5, 3) := by decide +kernel
theorem dX11_neighbour_63 : decode cX11_neighbour 63 = .ok (.bipush (-2), 2) := by decide +kernel
theorem dX11_neighbour_65 : decode cX11_neighbour 65 = .ok (.ireturn, 1) := by decide +kernel
theorem gX11_besideAll_X11_laysBeside : GoodIn wsX11_besideAll (wsV RX11 266 RX11 yX11_laysBeside wsX11_laysBeside) := gw_c t_w638 (gw_c t_w637 (gw_c t_w636 (gw_c t_w510 (gw_c t_w635 (gw_t)))))
theorem dX11_besideAll_0 : decode cX11_besideAll 0 = .ok (.iload_n 3, 1) := by decide +kernel
theorem dX11_besideAll_1 : decode cX11_besideAll 1 = .ok (.istore 4, 2) := by decide +kernel
theorem dX11_besideAll_3 : decode cX11_besideAll 3 = .ok (.aload_n 0, 1) := by decide +kernel
theorem dX11_besideAll_4 : decode cX11_besideAll 4 = .ok (.iload_n 1, 1) := by decide +kernel
theorem dX11_besideAll_5 : decode cX11_besideAll 5 = .ok (.iload_n 2, 1) := by decide +kernel
theorem dX11_besideAll_6 : decode cX11_besideAll 6 = .ok (.iconst 0, 1) := by decide +kernel
theorem dX11_besideAll_7 : decode cX11_besideAll 7 = .ok (.invokevirtual 266, 3) := by decide +kernel
theorem dX11_besideAll_10 : decode cX11_besideAll 10 = .ok (.iload 4, 2) := by decide +kernel
theorem dX11_besideAll_12 : decode cX11_besideAll 12 = .ok (.aload_n 0, 1) := by decide +kernel
theorem dX11_besideAll_13 : decode cX11_besideAll 13 = .ok (.getfield 257, 3) := by decide +kernel
theorem dX11_besideAll_16 : decode cX11_besideAll 16 = .ok (.if_icmp .ge 11, 3) := by decide +kernel
theorem dX11_besideAll_19 : decode cX11_besideAll 19 = .ok (.aload_n 0, 1) := by decide +kernel
theorem dX11_besideAll_20 : decode cX11_besideAll 20 = .ok (.getfield 260, 3) := by decide +kernel
theorem dX11_besideAll_23 : decode cX11_besideAll 23 = .ok (.iload 4, 2) := by decide +kernel
theorem dX11_besideAll_25 : decode cX11_besideAll 25 = .ok (.iadd, 1) := by decide +kernel
theorem dX11_besideAll_26 : decode cX11_besideAll 26 = .ok (.ireturn, 1) := by decide +kernel
theorem dX11_besideAll_27 : decode cX11_besideAll 27 = .ok (.iload 4, 2) := by decide +kernel
theorem dX11_besideAll_29 : decode cX11_besideAll 29 = .ok (.aload_n 0, 1) := by decide +kernel
theorem dX11_besideAll_30 : decode cX11_besideAll 30 = .ok (.getfield 257, 3) := by decide +kernel
theorem dX11_besideAll_33 : decode cX11_besideAll 33 = .ok (.isub, 1) := by decide +kernel
theorem dX11_besideAll_34 : decode cX11_besideAll 34 = .ok (.istore 4, 2) := by decide +kernel
theorem dX11_besideAll_36 : decode cX11_besideAll 36 = .ok (.aload_n 0, 1) := by decide +kernel
theorem dX11_besideAll_37 : decode cX11_besideAll 37 = .ok (.iload_n 1, 1) := by decide +kernel
theorem dX11_besideAll_38 : decode cX11_besideAll 38 = .ok (.iload_n 2, 1) := by decide +kernel
theorem dX11_besideAll_39 : decode cX11_besideAll 39 = .ok (.iconst 1, 1) := by decide +kernel
theorem dX11_besideAll_40 : decode cX11_besideAll 40 = .ok (.invokevirtual 266, 3) := by decide +kernel
theorem dX11_besideAll_43 : decode cX11_besideAll 43 = .ok (.aload_n 0, 1) := by decide +kernel
theorem dX11_besideAll_44 : decode cX11_besideAll 44 = .ok (.getfield 260, 3) := by decide +kernel
theorem dX11_besideAll_47 : decode cX11_besideAll 47 = .ok (.istore 5, 2) := by decide +kernel
theorem dX11_besideAll_49 : decode cX11_besideAll 49 = .ok (.aload_n 0, 1) := by decide +kernel
theorem dX11_besideAll_50 : decode cX11_besideAll 50 = .ok (.getfield 257, 3) := by decide +kernel
theorem dX11_besideAll_53 : decode cX11_besideAll 53 = .ok (.istore 6, 2) := by decide +kernel
theorem dX11_besideAll_55 : decode cX11_besideAll 55 = .ok (.aload_n 0, 1) := by decide +kernel
theorem dX11_besideAll_56 : decode cX11_besideAll 56 = .ok (.iload_n 1, 1) := by decide +kernel
theorem dX11_besideAll_57 : decode cX11_besideAll 57 = .ok (.iload_n 2, 1) := by decide +kernel
theorem dX11_besideAll_58 : decode cX11_besideAll 58 = .ok (.iconst 3, 1) := by decide +kernel
theorem dX11_besideAll_59 : decode cX11_besideAll 59 = .ok (.invokevirtual 266, 3) := by decide +kernel
theorem dX11_besideAll_62 : decode cX11_besideAll 62 = .ok (.aload_n 0, 1) := by decide +kernel
theorem dX11_besideAll_63 : decode cX11_besideAll 63 = .ok (.getfield 260, 3) := by decide +kernel
theorem dX11_besideAll_66 : decode cX11_besideAll 66 = .ok (.istore 7, 2) := by decide +kernel
theorem dX11_besideAll_68 : decode cX11_besideAll 68 = .ok (.iload 6, 2) := by decide +kernel
theorem dX11_besideAll_70 : decode cX11_besideAll 70 = .ok (.iconst 1, 1) := by decide +kernel
theorem dX11_besideAll_71 : decode cX11_besideAll 71 = .ok (.if_icmp .ne 42, 3) := by decide +kernel
theorem dX11_besideAll_74 : decode cX11_besideAll 74 = .ok (.iload 4, 2) := by decide +kernel
theorem dX11_besideAll_76 : decode cX11_besideAll 76 = .ok (.iconst 2, 1) := by decide +kernel
theorem dX11_besideAll_77 : decode cX11_besideAll 77 = .ok (.if_icmp .ge 36, 3) := by decide +kernel
theorem dX11_besideAll_80 : decode cX11_besideAll 80 = .ok (.iload 4, 2) := by decide +kernel
theorem dX11_besideAll_82 : decode cX11_besideAll 82 = .ok (.ifCond .ne 7, 3) := by decide +kernel
theorem dX11_besideAll_85 : decode cX11_besideAll 85 = .ok (.iconst 1, 1) := by decide +kernel
theorem dX11_besideAll_86 : decode cX11_besideAll 86 = .ok (.goto 4, 3) := by decide +kernel
theorem dX11_besideAll_89 : decode cX11_besideAll 89 = .ok (.iconst 0, 1) := by decide +kernel
theorem dX11_besideAll_90 : decode cX11_besideAll 90 = .ok (.iload 5, 2) := by decide +kernel
theorem dX11_besideAll_92 : decode cX11_besideAll 92 = .ok (.iload 7, 2) := by decide +kernel
theorem dX11_besideAll_94 : decode cX11_besideAll 94 = .ok (.if_icmp .ge 7, 3) := by decide +kernel
theorem dX11_besideAll_97 : decode cX11_besideAll 97 = .ok (.iconst 1, 1) := by decide +kernel
theorem dX11_besideAll_98 : decode cX11_besideAll 98 = .ok (.goto 4, 3) := by decide +kernel
theorem dX11_besideAll_101 : decode cX11_besideAll 101 = .ok (.iconst 0, 1) := by decide +kernel
theorem dX11_besideAll_102 : decode cX11_besideAll 102 = .ok (.if_icmp .ne 8, 3) := by decide +kernel
theorem dX11_besideAll_105 : decode cX11_besideAll 105 = .ok (.iload 5, 2) := by decide +kernel
theorem dX11_besideAll_107 : decode cX11_besideAll 107 = .ok (.goto 5, 3) := by decide +kernel
theorem dX11_besideAll_110 : decode cX11_besideAll 110 = .ok (.iload 7, 2) := by decide +kernel
theorem dX11_besideAll_112 : decode cX11_besideAll 112 = .ok (.ireturn, 1) := by decide +kernel
theorem dX11_besideAll_113 : decode cX11_besideAll 113 = .ok (.iload 4, 2) := by decide +kernel
theorem dX11_besideAll_115 : decode cX11_besideAll 115 = .ok (.iconst 2, 1) := by decide +kernel
theorem dX11_besideAll_116 : decode cX11_besideAll 116 = .ok (.iload 6, 2) := by decide +kernel
theorem dX11_besideAll_118 : decode cX11_besideAll 118 = .ok (.imul, 1) := by decide +kernel
theorem dX11_besideAll_119 : decode cX11_besideAll 119 = .ok (.isub, 1) := by decide +kernel
theorem dX11_besideAll_120 : decode cX11_besideAll 120 = .ok (.istore 4, 2) := by decide +kernel
theorem dX11_besideAll_122 : decode cX11_besideAll 122 = .ok (.aload_n 0, 1) := by decide +kernel
theorem dX11_besideAll_123 : decode cX11_besideAll 123 = .ok (.iload_n 1, 1) := by decide +kernel
theorem dX11_besideAll_124 : decode cX11_besideAll 124 = .ok (.iload_n 2, 1) := by decide +kernel
theorem dX11_besideAll_125 : decode cX11_besideAll 125 = .ok (.iconst 2, 1) := by decide +kernel
theorem dX11_besideAll_126 : decode cX11_besideAll 126 = .ok (.invokevirtual 266, 3) := by decide +kernel
theorem dX11_besideAll_129 : decode cX11_besideAll 129 = .ok (.iload 4, 2) := by decide +kernel
theorem dX11_besideAll_131 : decode cX11_besideAll 131 = .ok (.aload_n 0, 1) := by decide +kernel
theorem dX11_besideAll_132 : decode cX11_besideAll 132 = .ok (.getfield 257, 3) := by decide +kernel
theorem dX11_besideAll_135 : decode cX11_besideAll 135 = .ok (.if_icmp .ge 13, 3) := by decide +kernel
theorem dX11_besideAll_138 : decode cX11_besideAll 138 = .ok (.aload_n 0, 1) := by decide +kernel
theorem dX11_besideAll_139 : decode cX11_besideAll 139 = .ok (.getfield 260, 3) := by decide +kernel
theorem dX11_besideAll_142 : decode cX11_besideAll 142 = .ok (.iload 4, 2) := by decide +kernel
theorem dX11_besideAll_144 : decode cX11_besideAll 144 = .ok (.iadd, 1) := by decide +kernel
theorem dX11_besideAll_145 : decode cX11_besideAll 145 = .ok (.goto 4, 3) := by decide +kernel
theorem dX11_besideAll_148 : decode cX11_besideAll 148 = .ok (.iconst (-1), 1) := by decide +kernel
theorem dX11_besideAll_149 : decode cX11_besideAll 149 = .ok (.ireturn, 1) := by decide +kernel
theorem gX11_allBeside_X11_laysBeside : GoodIn wsX11_allBeside (wsV RX11 266 RX11 yX11_laysBeside wsX11_laysBeside) := gw_c t_w638 (gw_c t_w637 (gw_c t_w636 (gw_c t_w510 (gw_c t_w635 (gw_t)))))
theorem dX11_allBeside_0 : decode cX11_allBeside 0 = .ok (.iconst 0, 1) := by decide +kernel
theorem dX11_allBeside_1 : decode cX11_allBeside 1 = .ok (.istore_n 3, 1) := by decide +kernel
theorem dX11_allBeside_2 : decode cX11_allBeside 2 = .ok (.iconst 0, 1) := by decide +kernel
theorem dX11_allBeside_3 : decode cX11_allBeside 3 = .ok (.istore 4, 2) := by decide +kernel
theorem dX11_allBeside_5 : decode cX11_allBeside 5 = .ok (.iload 4, 2) := by decide +kernel
theorem dX11_allBeside_7 : decode cX11_allBeside 7 = .ok (.iconst 4, 1) := by decide +kernel
theorem dX11_allBeside_8 : decode cX11_allBeside 8 = .ok (.if_icmp .ge 24, 3) := by decide +kernel
theorem dX11_allBeside_11 : decode cX11_allBeside 11 = .ok (.aload_n 0, 1) := by decide +kernel
theorem dX11_allBeside_12 : decode cX11_allBeside 12 = .ok (.iload_n 1, 1) := by decide +kernel
theorem dX11_allBeside_13 : decode cX11_allBeside 13 = .ok (.iload_n 2, 1) := by decide +kernel
theorem dX11_allBeside_14 : decode cX11_allBeside 14 = .ok (.iload 4, 2) := by decide +kernel
theorem dX11_allBeside_16 : decode cX11_allBeside 16 = .ok (.invokevirtual 266, 3) := by decide +kernel
theorem dX11_allBeside_19 : decode cX11_allBeside 19 = .ok (.iload_n 3, 1) := by decide +kernel
theorem dX11_allBeside_20 : decode cX11_allBeside 20 = .ok (.aload_n 0, 1) := by decide +kernel
theorem dX11_allBeside_21 : decode cX11_allBeside 21 = .ok (.getfield 257, 3) := by decide +kernel
theorem dX11_allBeside_24 : decode cX11_allBeside 24 = .ok (.iadd, 1) := by decide +kernel
theorem dX11_allBeside_25 : decode cX11_allBeside 25 = .ok (.istore_n 3, 1) := by decide +kernel
theorem dX11_allBeside_26 : decode cX11_allBeside 26 = .ok (.iinc 4 1, 3) := by decide +kernel
theorem dX11_allBeside_29 : decode cX11_allBeside 29 = .ok (.goto (-24), 3) := by decide +kernel
theorem dX11_allBeside_32 : decode cX11_allBeside 32 = .ok (.iload_n 3, 1) := by decide +kernel
theorem dX11_allBeside_33 : decode cX11_allBeside 33 = .ok (.ireturn, 1) := by decide +kernel
theorem gX11_around_X11_isKey : GoodIn wsX11_around (wsV RX11 153 RX11 yX11_isKey wsX11_isKey) := gw_c t_w585 (gw_c t_w584 (gw_c t_w583 (gw_c t_w510 (gw_c t_w582 (gw_t)))))
theorem gX11_around_X11_allBeside : GoodIn wsX11_around (wsV RX11 270 RX11 yX11_allBeside wsX11_allBeside) := gw_c t_w642 (gw_c t_w641 (gw_c t_w640 (gw_c t_w510 (gw_c t_w639 (gw_t)))))
theorem gX11_around_X11_besideAll : GoodIn wsX11_around (wsV RX11 273 RX11 yX11_besideAll wsX11_besideAll) := gw_c t_w646 (gw_c t_w645 (gw_c t_w644 (gw_c t_w510 (gw_c t_w643 (gw_t)))))
theorem dX11_around_0 : decode cX11_around 0 = .ok (.aload_n 0, 1) := by decide +kernel
theorem dX11_around_1 : decode cX11_around 1 = .ok (.iload_n 1, 1) := by decide +kernel
theorem dX11_around_2 : decode cX11_around 2 = .ok (.iload_n 2, 1) := by decide +kernel
theorem dX11_around_3 : decode cX11_around 3 = .ok (.invokevirtual 153, 3) := by decide +kernel
theorem dX11_around_6 : decode cX11_around 6 = .ok (.ifCond .eq 8, 3) := by decide +kernel
theorem dX11_around_9 : decode cX11_around 9 = .ok (.iload_n 3, 1) := by decide +kernel
theorem dX11_around_10 : decode cX11_around 10 = .ok (.iconst (-1), 1) := by decide +kernel
theorem dX11_around_11 : decode cX11_around 11 = .ok (.if_icmp .ge 5, 3) := by decide +kernel
theorem dX11_around_14 : decode cX11_around 14 = .ok (.iconst (-1), 1) := by decide +kernel
theorem dX11_around_15 : decode cX11_around 15 = .ok (.ireturn, 1) := by decide +kernel
theorem dX11_around_16 : decode cX11_around 16 = .ok (.aload_n 0, 1) := by decide +kernel
theorem dX11_around_17 : decode cX11_around 17 = .ok (.iload_n 1, 1) := by decide +kernel
theorem dX11_around_18 : decode cX11_around 18 = .ok (.iload_n 2, 1) := by decide +kernel
theorem dX11_around_19 : decode cX11_around 19 = .ok (.invokevirtual 270, 3) := by decide +kernel
theorem dX11_around_22 : decode cX11_around 22 = .ok (.istore 4, 2) := by decide +kernel
theorem dX11_around_24 : decode cX11_around 24 = .ok (.iload_n 3, 1) := by decide +kernel
theorem dX11_around_25 : decode cX11_around 25 = .ok (.iconst (-1), 1) := by decide +kernel
theorem dX11_around_26 : decode cX11_around 26 = .ok (.if_icmp .ne 8, 3) := by decide +kernel
theorem dX11_around_29 : decode cX11_around 29 = .ok (.iload 4, 2) := by decide +kernel
theorem dX11_around_31 : decode cX11_around 31 = .ok (.goto 21, 3) := by decide +kernel
theorem dX11_around_34 : decode cX11_around 34 = .ok (.iload_n 3, 1) := by decide +kernel
theorem dX11_around_35 : decode cX11_around 35 = .ok (.iload 4, 2) := by decide +kernel
theorem dX11_around_37 : decode cX11_around 37 = .ok (.if_icmp .ge 13, 3) := by decide +kernel
theorem dX11_around_40 : decode cX11_around 40 = .ok (.aload_n 0, 1) := by decide +kernel
theorem dX11_around_41 : decode cX11_around 41 = .ok (.iload_n 1, 1) := by decide +kernel
theorem dX11_around_42 : decode cX11_around 42 = .ok (.iload_n 2, 1) := by decide +kernel
theorem dX11_around_43 : decode cX11_around 43 = .ok (.iload_n 3, 1) := by decide +kernel
theorem dX11_around_44 : decode cX11_around 44 = .ok (.invokevirtual 273, 3) := by decide +kernel
theorem dX11_around_47 : decode cX11_around 47 = .ok (.goto 5, 3) := by decide +kernel
theorem dX11_around_50 : decode cX11_around 50 = .ok (.bipush (-2), 2) := by decide +kernel
theorem dX11_around_52 : decode cX11_around 52 = .ok (.ireturn, 1) := by decide +kernel
theorem gX11_side_X11_isKey : GoodIn wsX11_side (wsV RX11 153 RX11 yX11_isKey wsX11_isKey) := gw_c t_w585 (gw_c t_w584 (gw_c t_w583 (gw_c t_w510 (gw_c t_w582 (gw_t)))))
theorem gX11_side_X11_laysBeside : GoodIn wsX11_side (wsV RX11 266 RX11 yX11_laysBeside wsX11_laysBeside) := gw_c t_w638 (gw_c t_w637 (gw_c t_w636 (gw_c t_w510 (gw_c t_w635 (gw_t)))))
theorem gX11_side_X11_in : GoodIn wsX11_side (va_wsS RX11 72 yX11_in wsX11_in) := gw_c t_w519 (gw_c t_w518 (gw_c t_w510 (gw_c t_w517 (gw_t))))
theorem dX11_side_0 : decode cX11_side 0 = .ok (.aload_n 0, 1) := by decide +kernel
theorem dX11_side_1 : decode cX11_side 1 = .ok (.iload_n 1, 1) := by decide +kernel
theorem dX11_side_2 : decode cX11_side 2 = .ok (.iload_n 2, 1) := by decide +kernel
theorem dX11_side_3 : decode cX11_side 3 = .ok (.invokevirtual 153, 3) := by decide +kernel
theorem dX11_side_6 : decode cX11_side 6 = .ok (.ifCond .eq 17, 3) := by decide +kernel
theorem dX11_side_9 : decode cX11_side 9 = .ok (.aload_n 0, 1) := by decide +kernel
theorem dX11_side_10 : decode cX11_side 10 = .ok (.iload_n 1, 1) := by decide +kernel
theorem dX11_side_11 : decode cX11_side 11 = .ok (.iload_n 3, 1) := by decide +kernel
theorem dX11_side_12 : decode cX11_side 12 = .ok (.invokevirtual 153, 3) := by decide +kernel
theorem dX11_side_15 : decode cX11_side 15 = .ok (.ifCond .eq 8, 3) := by decide +kernel
theorem dX11_side_18 : decode cX11_side 18 = .ok (.iload_n 2, 1) := by decide +kernel
theorem dX11_side_19 : decode cX11_side 19 = .ok (.iload_n 3, 1) := by decide +kernel
theorem dX11_side_20 : decode cX11_side 20 = .ok (.if_icmp .ne 5, 3) := by decide +kernel
theorem dX11_side_23 : decode cX11_side 23 = .ok (.iconst (-1), 1) := by decide +kernel
theorem dX11_side_24 : decode cX11_side 24 = .ok (.ireturn, 1) := by decide +kernel
theorem dX11_side_25 : decode cX11_side 25 = .ok (.iconst 0, 1) := by decide +kernel
theorem dX11_side_26 : decode cX11_side 26 = .ok (.istore 4, 2) := by decide +kernel
theorem dX11_side_28 : decode cX11_side 28 = .ok (.iload 4, 2) := by decide +kernel
theorem dX11_side_30 : decode cX11_side 30 = .ok (.iconst 4, 1) := by decide +kernel
theorem dX11_side_31 : decode cX11_side 31 = .ok (.if_icmp .ge 45, 3) := by decide +kernel
theorem dX11_side_34 : decode cX11_side 34 = .ok (.aload_n 0, 1) := by decide +kernel
theorem dX11_side_35 : decode cX11_side 35 = .ok (.iload_n 1, 1) := by decide +kernel
theorem dX11_side_36 : decode cX11_side 36 = .ok (.iload_n 2, 1) := by decide +kernel
theorem dX11_side_37 : decode cX11_side 37 = .ok (.iload 4, 2) := by decide +kernel
theorem dX11_side_39 : decode cX11_side 39 = .ok (.invokevirtual 266, 3) := by decide +kernel
theorem dX11_side_42 : decode cX11_side 42 = .ok (.iload_n 3, 1) := by decide +kernel
theorem dX11_side_43 : decode cX11_side 43 = .ok (.i2l, 1) := by decide +kernel
theorem dX11_side_44 : decode cX11_side 44 = .ok (.aload_n 0, 1) := by decide +kernel
theorem dX11_side_45 : decode cX11_side 45 = .ok (.getfield 260, 3) := by decide +kernel
theorem dX11_side_48 : decode cX11_side 48 = .ok (.i2l, 1) := by decide +kernel
theorem dX11_side_49 : decode cX11_side 49 = .ok (.aload_n 0, 1) := by decide +kernel
theorem dX11_side_50 : decode cX11_side 50 = .ok (.getfield 260, 3) := by decide +kernel
theorem dX11_side_53 : decode cX11_side 53 = .ok (.aload_n 0, 1) := by decide +kernel
theorem dX11_side_54 : decode cX11_side 54 = .ok (.getfield 257, 3) := by decide +kernel
theorem dX11_side_57 : decode cX11_side 57 = .ok (.iadd, 1) := by decide +kernel
theorem dX11_side_58 : decode cX11_side 58 = .ok (.iconst 1, 1) := by decide +kernel
theorem dX11_side_59 : decode cX11_side 59 = .ok (.isub, 1) := by decide +kernel
theorem dX11_side_60 : decode cX11_side 60 = .ok (.i2l, 1) := by decide +kernel
theorem dX11_side_61 : decode cX11_side 61 = .ok (.invokestatic 72, 3) := by decide +kernel
theorem dX11_side_64 : decode cX11_side 64 = .ok (.ifCond .eq 6, 3) := by decide +kernel
theorem dX11_side_67 : decode cX11_side 67 = .ok (.iload 4, 2) := by decide +kernel
theorem dX11_side_69 : decode cX11_side 69 = .ok (.ireturn, 1) := by decide +kernel
theorem dX11_side_70 : decode cX11_side 70 = .ok (.iinc 4 1, 3) := by decide +kernel
theorem dX11_side_73 : decode cX11_side 73 = .ok (.goto (-45), 3) := by decide +kernel
theorem dX11_side_76 : decode cX11_side 76 = .ok (.bipush (-2), 2) := by decide +kernel
theorem dX11_side_78 : decode cX11_side 78 = .ok (.ireturn, 1) := by decide +kernel
theorem dX11_meets_0 : decode cX11_meets 0 = .ok (.aload_n 0, 1) := by decide +kernel
theorem dX11_meets_1 : decode cX11_meets 1 = .ok (.getfield 39, 3) := by decide +kernel
theorem dX11_meets_4 : decode cX11_meets 4 = .ok (.iload_n 1, 1) := by decide +kernel
theorem dX11_meets_5 : decode cX11_meets 5 = .ok (.iaload, 1) := by decide +kernel
theorem dX11_meets_6 : decode cX11_meets 6 = .ok (.iconst (-1), 1) := by decide +kernel
theorem dX11_meets_7 : decode cX11_meets 7 = .ok (.if_icmp .eq 4, 3) := by decide +kernel
theorem dX11_meets_10 : decode cX11_meets 10 = .ok (.return_, 1) := by decide +kernel
theorem dX11_meets_11 : decode cX11_meets 11 = .ok (.aload_n 0, 1) := by decide +kernel
theorem dX11_meets_12 : decode cX11_meets 12 = .ok (.getfield 39, 3) := by decide +kernel
theorem dX11_meets_15 : decode cX11_meets 15 = .ok (.iload_n 1, 1) := by decide +kernel
theorem dX11_meets_16 : decode cX11_meets 16 = .ok (.iload_n 2, 1) := by decide +kernel
theorem dX11_meets_17 : decode cX11_meets 17 = .ok (.iastore, 1) := by decide +kernel
theorem dX11_meets_18 : decode cX11_meets 18 = .ok (.aload_n 0, 1) := by decide +kernel
theorem dX11_meets_19 : decode cX11_meets 19 = .ok (.getfield 42, 3) := by decide +kernel
theorem dX11_meets_22 : decode cX11_meets 22 = .ok (.aload_n 0, 1) := by decide +kernel
theorem dX11_meets_23 : decode cX11_meets 23 = .ok (.getfield 276, 3) := by decide +kernel
theorem dX11_meets_26 : decode cX11_meets 26 = .ok (.iload_n 1, 1) := by decide +kernel
theorem dX11_meets_27 : decode cX11_meets 27 = .ok (.iastore, 1) := by decide +kernel
theorem dX11_meets_28 : decode cX11_meets 28 = .ok (.aload_n 0, 1) := by decide +kernel
theorem dX11_meets_29 : decode cX11_meets 29 = .ok (.aload_n 0, 1) := by decide +kernel
theorem dX11_meets_30 : decode cX11_meets 30 = .ok (.getfield 276, 3) := by decide +kernel
theorem dX11_meets_33 : decode cX11_meets 33 = .ok (.iconst 1, 1) := by decide +kernel
theorem dX11_meets_34 : decode cX11_meets 34 = .ok (.iadd, 1) := by decide +kernel
theorem dX11_meets_35 : decode cX11_meets 35 = .ok (.putfield 276, 3) := by decide +kernel
theorem dX11_meets_38 : decode cX11_meets 38 = .ok (.return_, 1) := by decide +kernel
theorem gX11_laysSteps_X11_sheets : GoodIn wsX11_laysSteps (wsV RX11 88 RX11 yX11_sheets wsX11_sheets) := gw_c t_w526 (gw_c t_w525 (gw_c t_w524 (gw_c t_w510 (gw_c t_w523 (gw_t)))))
theorem gX11_laysSteps_X11_meets : GoodIn wsX11_laysSteps (wsV RX11 279 RX11 yX11_meets wsX11_meets) := gw_c t_w650 (gw_c t_w649 (gw_c t_w648 (gw_c t_w510 (gw_c t_w647 (gw_t)))))
theorem gX11_laysSteps_X11_laysBeside : GoodIn wsX11_laysSteps (wsV RX11 266 RX11 yX11_laysBeside wsX11_laysBeside) := gw_c t_w638 (gw_c t_w637 (gw_c t_w636 (gw_c t_w510 (gw_c t_w635 (gw_t)))))
theorem dX11_laysSteps_0 : decode cX11_laysSteps 0 = .ok (.iconst 0, 1) := by decide +kernel
theorem dX11_laysSteps_1 : decode cX11_laysSteps 1 = .ok (.istore_n 3, 1) := by decide +kernel
theorem dX11_laysSteps_2 : decode cX11_laysSteps 2 = .ok (.iload_n 3, 1) := by decide +kernel
theorem dX11_laysSteps_3 : decode cX11_laysSteps 3 = .ok (.aload_n 0, 1) := by decide +kernel
theorem dX11_laysSteps_4 : decode cX11_laysSteps 4 = .ok (.iload_n 1, 1) := by decide +kernel
theorem dX11_laysSteps_5 : decode cX11_laysSteps 5 = .ok (.invokevirtual 88, 3) := by decide +kernel
theorem dX11_laysSteps_8 : decode cX11_laysSteps 8 = .ok (.if_icmp .ge 16, 3) := by decide +kernel
theorem dX11_laysSteps_11 : decode cX11_laysSteps 11 = .ok (.aload_n 0, 1) := by decide +kernel
theorem dX11_laysSteps_12 : decode cX11_laysSteps 12 = .ok (.getfield 39, 3) := by decide +kernel
theorem dX11_laysSteps_15 : decode cX11_laysSteps 15 = .ok (.iload_n 3, 1) := by decide +kernel
theorem dX11_laysSteps_16 : decode cX11_laysSteps 16 = .ok (.iconst (-1), 1) := by decide +kernel
theorem dX11_laysSteps_17 : decode cX11_laysSteps 17 = .ok (.iastore, 1) := by decide +kernel
theorem dX11_laysSteps_18 : decode cX11_laysSteps 18 = .ok (.iinc 3 1, 3) := by decide +kernel
theorem dX11_laysSteps_21 : decode cX11_laysSteps 21 = .ok (.goto (-19), 3) := by decide +kernel
theorem dX11_laysSteps_24 : decode cX11_laysSteps 24 = .ok (.aload_n 0, 1) := by decide +kernel
theorem dX11_laysSteps_25 : decode cX11_laysSteps 25 = .ok (.iconst 0, 1) := by decide +kernel
theorem dX11_laysSteps_26 : decode cX11_laysSteps 26 = .ok (.putfield 276, 3) := by decide +kernel
theorem dX11_laysSteps_29 : decode cX11_laysSteps 29 = .ok (.aload_n 0, 1) := by decide +kernel
theorem dX11_laysSteps_30 : decode cX11_laysSteps 30 = .ok (.iload_n 2, 1) := by decide +kernel
theorem dX11_laysSteps_31 : decode cX11_laysSteps 31 = .ok (.iconst 0, 1) := by decide +kernel
theorem dX11_laysSteps_32 : decode cX11_laysSteps 32 = .ok (.invokevirtual 279, 3) := by decide +kernel
theorem dX11_laysSteps_35 : decode cX11_laysSteps 35 = .ok (.iconst 0, 1) := by decide +kernel
theorem dX11_laysSteps_36 : decode cX11_laysSteps 36 = .ok (.istore_n 3, 1) := by decide +kernel
theorem dX11_laysSteps_37 : decode cX11_laysSteps 37 = .ok (.iload_n 3, 1) := by decide +kernel
theorem dX11_laysSteps_38 : decode cX11_laysSteps 38 = .ok (.aload_n 0, 1) := by decide +kernel
theorem dX11_laysSteps_39 : decode cX11_laysSteps 39 = .ok (.getfield 276, 3) := by decide +kernel
theorem dX11_laysSteps_42 : decode cX11_laysSteps 42 = .ok (.if_icmp .ge 79, 3) := by decide +kernel
theorem dX11_laysSteps_45 : decode cX11_laysSteps 45 = .ok (.aload_n 0, 1) := by decide +kernel
theorem dX11_laysSteps_46 : decode cX11_laysSteps 46 = .ok (.getfield 42, 3) := by decide +kernel
theorem dX11_laysSteps_49 : decode cX11_laysSteps 49 = .ok (.iload_n 3, 1) := by decide +kernel
theorem dX11_laysSteps_50 : decode cX11_laysSteps 50 = .ok (.iaload, 1) := by decide +kernel
theorem dX11_laysSteps_51 : decode cX11_laysSteps 51 = .ok (.istore 4, 2) := by decide +kernel
theorem dX11_laysSteps_53 : decode cX11_laysSteps 53 = .ok (.iconst 0, 1) := by decide +kernel
theorem dX11_laysSteps_54 : decode cX11_laysSteps 54 = .ok (.istore 5, 2) := by decide +kernel
theorem dX11_laysSteps_56 : decode cX11_laysSteps 56 = .ok (.iload 5, 2) := by decide +kernel
theorem dX11_laysSteps_58 : decode cX11_laysSteps 58 = .ok (.iconst 4, 1) := by decide +kernel
theorem dX11_laysSteps_59 : decode cX11_laysSteps 59 = .ok (.if_icmp .ge 56, 3) := by decide +kernel
theorem dX11_laysSteps_62 : decode cX11_laysSteps 62 = .ok (.aload_n 0, 1) := by decide +kernel
theorem dX11_laysSteps_63 : decode cX11_laysSteps 63 = .ok (.iload_n 1, 1) := by decide +kernel
theorem dX11_laysSteps_64 : decode cX11_laysSteps 64 = .ok (.iload 4, 2) := by decide +kernel
theorem dX11_laysSteps_66 : decode cX11_laysSteps 66 = .ok (.iload 5, 2) := by decide +kernel
theorem dX11_laysSteps_68 : decode cX11_laysSteps 68 = .ok (.invokevirtual 266, 3) := by decide +kernel
theorem dX11_laysSteps_71 : decode cX11_laysSteps 71 = .ok (.iconst 0, 1) := by decide +kernel
theorem dX11_laysSteps_72 : decode cX11_laysSteps 72 = .ok (.istore 6, 2) := by decide +kernel
theorem dX11_laysSteps_74 : decode cX11_laysSteps 74 = .ok (.iload 6, 2) := by decide +kernel
theorem dX11_laysSteps_76 : decode cX11_laysSteps 76 = .ok (.aload_n 0, 1) := by decide +kernel
theorem dX11_laysSteps_77 : decode cX11_laysSteps 77 = .ok (.getfield 257, 3) := by decide +kernel
theorem dX11_laysSteps_80 : decode cX11_laysSteps 80 = .ok (.if_icmp .ge 29, 3) := by decide +kernel
theorem dX11_laysSteps_83 : decode cX11_laysSteps 83 = .ok (.aload_n 0, 1) := by decide +kernel
theorem dX11_laysSteps_84 : decode cX11_laysSteps 84 = .ok (.aload_n 0, 1) := by decide +kernel
theorem dX11_laysSteps_85 : decode cX11_laysSteps 85 = .ok (.getfield 260, 3) := by decide +kernel
theorem dX11_laysSteps_88 : decode cX11_laysSteps 88 = .ok (.iload 6, 2) := by decide +kernel
theorem dX11_laysSteps_90 : decode cX11_laysSteps 90 = .ok (.iadd, 1) := by decide +kernel
theorem dX11_laysSteps_91 : decode cX11_laysSteps 91 = .ok (.aload_n 0, 1) := by decide +kernel
theorem dX11_laysSteps_92 : decode cX11_laysSteps 92 = .ok (.getfield 39, 3) := by decide +kernel
theorem dX11_laysSteps_95 : decode cX11_laysSteps 95 = .ok (.iload 4, 2) := by decide +kernel
theorem dX11_laysSteps_97 : decode cX11_laysSteps 97 = .ok (.iaload, 1) := by decide +kernel
theorem dX11_laysSteps_98 : decode cX11_laysSteps 98 = .ok (.iconst 1, 1) := by decide +kernel
theorem dX11_laysSteps_99 : decode cX11_laysSteps 99 = .ok (.iadd, 1) := by decide +kernel
theorem dX11_laysSteps_100 : decode cX11_laysSteps 100 = .ok (.invokevirtual 279, 3) := by decide +kernel
theorem dX11_laysSteps_103 : decode cX11_laysSteps 103 = .ok (.iinc 6 1, 3) := by decide +kernel
theorem dX11_laysSteps_106 : decode cX11_laysSteps 106 = .ok (.goto (-32), 3) := by decide +kernel
theorem dX11_laysSteps_109 : decode cX11_laysSteps 109 = .ok (.iinc 5 1, 3) := by decide +kernel
theorem dX11_laysSteps_112 : decode cX11_laysSteps 112 = .ok (.goto (-56), 3) := by decide +kernel
theorem dX11_laysSteps_115 : decode cX11_laysSteps 115 = .ok (.iinc 3 1, 3) := by decide +kernel
theorem dX11_laysSteps_118 : decode cX11_laysSteps 118 = .ok (.goto (-81), 3) := by decide +kernel
theorem dX11_laysSteps_121 : decode cX11_laysSteps 121 = .ok (.return_, 1) := by decide +kernel
theorem gX11_isGreat_X11_sheets : GoodIn wsX11_isGreat (wsV RX11 88 RX11 yX11_sheets wsX11_sheets) := gw_c t_w526 (gw_c t_w525 (gw_c t_w524 (gw_c t_w510 (gw_c t_w523 (gw_t)))))
theorem dX11_isGreat_0 : decode cX11_isGreat 0 = .ok (.aload_n 0, 1) := by decide +kernel
theorem dX11_isGreat_1 : decode cX11_isGreat 1 = .ok (.iload_n 1, 1) := by decide +kernel
theorem dX11_isGreat_2 : decode cX11_isGreat 2 = .ok (.invokevirtual 88, 3) := by decide +kernel
theorem dX11_isGreat_5 : decode cX11_isGreat 5 = .ok (.sipush 20000, 3) := by decide +kernel
theorem dX11_isGreat_8 : decode cX11_isGreat 8 = .ok (.if_icmp .le 7, 3) := by decide +kernel
theorem dX11_isGreat_11 : decode cX11_isGreat 11 = .ok (.iconst 1, 1) := by decide +kernel
theorem dX11_isGreat_12 : decode cX11_isGreat 12 = .ok (.goto 4, 3) := by decide +kernel
theorem dX11_isGreat_15 : decode cX11_isGreat 15 = .ok (.iconst 0, 1) := by decide +kernel
theorem dX11_isGreat_16 : decode cX11_isGreat 16 = .ok (.ireturn, 1) := by decide +kernel
theorem gX11_stepsOf_X11_isGreat : GoodIn wsX11_stepsOf (wsV RX11 282 RX11 yX11_isGreat wsX11_isGreat) := gw_c t_w654 (gw_c t_w653 (gw_c t_w652 (gw_c t_w510 (gw_c t_w651 (gw_t)))))
theorem gX11_stepsOf_X11_laysSteps : GoodIn wsX11_stepsOf (wsV RX11 285 RX11 yX11_laysSteps wsX11_laysSteps) := gw_c t_w658 (gw_c t_w657 (gw_c t_w656 (gw_c t_w510 (gw_c t_w655 (gw_t)))))
theorem dX11_stepsOf_0 : decode cX11_stepsOf 0 = .ok (.aload_n 0, 1) := by decide +kernel
theorem dX11_stepsOf_1 : decode cX11_stepsOf 1 = .ok (.iload_n 1, 1) := by decide +kernel
theorem dX11_stepsOf_2 : decode cX11_stepsOf 2 = .ok (.invokevirtual 282, 3) := by decide +kernel
theorem dX11_stepsOf_5 : decode cX11_stepsOf 5 = .ok (.ifCond .eq 6, 3) := by decide +kernel
theorem dX11_stepsOf_8 : decode cX11_stepsOf 8 = .ok (.bipush (-3), 2) := by decide +kernel
theorem dX11_stepsOf_10 : decode cX11_stepsOf 10 = .ok (.ireturn, 1) := by decide +kernel
theorem dX11_stepsOf_11 : decode cX11_stepsOf 11 = .ok (.aload_n 0, 1) := by decide +kernel
theorem dX11_stepsOf_12 : decode cX11_stepsOf 12 = .ok (.iload_n 1, 1) := by decide +kernel
theorem dX11_stepsOf_13 : decode cX11_stepsOf 13 = .ok (.iload_n 3, 1) := by decide +kernel
theorem dX11_stepsOf_14 : decode cX11_stepsOf 14 = .ok (.invokevirtual 285, 3) := by decide +kernel
theorem dX11_stepsOf_17 : decode cX11_stepsOf 17 = .ok (.aload_n 0, 1) := by decide +kernel
theorem dX11_stepsOf_18 : decode cX11_stepsOf 18 = .ok (.getfield 39, 3) := by decide +kernel
theorem dX11_stepsOf_21 : decode cX11_stepsOf 21 = .ok (.iload_n 2, 1) := by decide +kernel
theorem dX11_stepsOf_22 : decode cX11_stepsOf 22 = .ok (.iaload, 1) := by decide +kernel
theorem dX11_stepsOf_23 : decode cX11_stepsOf 23 = .ok (.ireturn, 1) := by decide +kernel
theorem gX11_steps_X11_isKey : GoodIn wsX11_steps (wsV RX11 153 RX11 yX11_isKey wsX11_isKey) := gw_c t_w585 (gw_c t_w584 (gw_c t_w583 (gw_c t_w510 (gw_c t_w582 (gw_t)))))
theorem gX11_steps_X11_stepsOf : GoodIn wsX11_steps (wsV RX11 288 RX11 yX11_stepsOf wsX11_stepsOf) := gw_c t_w662 (gw_c t_w661 (gw_c t_w660 (gw_c t_w510 (gw_c t_w659 (gw_t)))))
theorem dX11_steps_0 : decode cX11_steps 0 = .ok (.aload_n 0, 1) := by decide +kernel
theorem dX11_steps_1 : decode cX11_steps 1 = .ok (.iload_n 1, 1) := by decide +kernel
theorem dX11_steps_2 : decode cX11_steps 2 = .ok (.iload_n 2, 1) := by decide +kernel
theorem dX11_steps_3 : decode cX11_steps 3 = .ok (.invokevirtual 153, 3) := by decide +kernel
theorem dX11_steps_6 : decode cX11_steps 6 = .ok (.ifCond .eq 22, 3) := by decide +kernel
theorem dX11_steps_9 : decode cX11_steps 9 = .ok (.aload_n 0, 1) := by decide +kernel
theorem dX11_steps_10 : decode cX11_steps 10 = .ok (.iload_n 1, 1) := by decide +kernel
theorem dX11_steps_11 : decode cX11_steps 11 = .ok (.iload_n 3, 1) := by decide +kernel
theorem dX11_steps_12 : decode cX11_steps 12 = .ok (.invokevirtual 153, 3) := by decide +kernel
theorem dX11_steps_15 : decode cX11_steps 15 = .ok (.ifCond .eq 13, 3) := by decide +kernel
theorem dX11_steps_18 : decode cX11_steps 18 = .ok (.aload_n 0, 1) := by decide +kernel
theorem dX11_steps_19 : decode cX11_steps 19 = .ok (.iload_n 1, 1) := by decide +kernel
theorem dX11_steps_20 : decode cX11_steps 20 = .ok (.iload_n 2, 1) := by decide +kernel
theorem dX11_steps_21 : decode cX11_steps 21 = .ok (.iload_n 3, 1) := by decide +kernel
theorem dX11_steps_22 : decode cX11_steps 22 = .ok (.invokevirtual 288, 3) := by decide +kernel
theorem dX11_steps_25 : decode cX11_steps 25 = .ok (.goto 4, 3) := by decide +kernel
theorem dX11_steps_28 : decode cX11_steps 28 = .ok (.iconst (-1), 1) := by decide +kernel
theorem dX11_steps_29 : decode cX11_steps 29 = .ok (.ireturn, 1) := by decide +kernel
theorem gX11_nearer_X11_laysBeside : GoodIn wsX11_nearer (wsV RX11 266 RX11 yX11_laysBeside wsX11_laysBeside) := gw_c t_w638 (gw_c t_w637 (gw_c t_w636 (gw_c t_w510 (gw_c t_w635 (gw_t)))))
theorem dX11_nearer_0 : decode cX11_nearer 0 = .ok (.iconst (-1), 1) := by decide +kernel
theorem dX11_nearer_1 : decode cX11_nearer 1 = .ok (.istore_n 3, 1) := by decide +kernel
theorem dX11_nearer_2 : decode cX11_nearer 2 = .ok (.iconst 0, 1) := by decide +kernel
theorem dX11_nearer_3 : decode cX11_nearer 3 = .ok (.istore 4, 2) := by decide +kernel
theorem dX11_nearer_5 : decode cX11_nearer 5 = .ok (.iload 4, 2) := by decide +kernel
theorem dX11_nearer_7 : decode cX11_nearer 7 = .ok (.iconst 4, 1) := by decide +kernel
theorem dX11_nearer_8 : decode cX11_nearer 8 = .ok (.if_icmp .ge 76, 3) := by decide +kernel
theorem dX11_nearer_11 : decode cX11_nearer 11 = .ok (.aload_n 0, 1) := by decide +kernel
theorem dX11_nearer_12 : decode cX11_nearer 12 = .ok (.iload_n 1, 1) := by decide +kernel
theorem dX11_nearer_13 : decode cX11_nearer 13 = .ok (.iload_n 2, 1) := by decide +kernel
theorem dX11_nearer_14 : decode cX11_nearer 14 = .ok (.iload 4, 2) := by decide +kernel
theorem dX11_nearer_16 : decode cX11_nearer 16 = .ok (.invokevirtual 266, 3) := by decide +kernel
theorem dX11_nearer_19 : decode cX11_nearer 19 = .ok (.iconst 0, 1) := by decide +kernel
theorem dX11_nearer_20 : decode cX11_nearer 20 = .ok (.istore 5, 2) := by decide +kernel
theorem dX11_nearer_22 : decode cX11_nearer 22 = .ok (.iload 5, 2) := by decide +kernel
theorem dX11_nearer_24 : decode cX11_nearer 24 = .ok (.aload_n 0, 1) := by decide +kernel
theorem dX11_nearer_25 : decode cX11_nearer 25 = .ok (.getfield 257, 3) := by decide +kernel
theorem dX11_nearer_28 : decode cX11_nearer 28 = .ok (.if_icmp .ge 50, 3) := by decide +kernel
theorem dX11_nearer_31 : decode cX11_nearer 31 = .ok (.aload_n 0, 1) := by decide +kernel
theorem dX11_nearer_32 : decode cX11_nearer 32 = .ok (.getfield 260, 3) := by decide +kernel
theorem dX11_nearer_35 : decode cX11_nearer 35 = .ok (.iload 5, 2) := by decide +kernel
theorem dX11_nearer_37 : decode cX11_nearer 37 = .ok (.iadd, 1) := by decide +kernel
theorem dX11_nearer_38 : decode cX11_nearer 38 = .ok (.istore 6, 2) := by decide +kernel
theorem dX11_nearer_40 : decode cX11_nearer 40 = .ok (.aload_n 0, 1) := by decide +kernel
theorem dX11_nearer_41 : decode cX11_nearer 41 = .ok (.getfield 39, 3) := by decide +kernel
theorem dX11_nearer_44 : decode cX11_nearer 44 = .ok (.iload 6, 2) := by decide +kernel
theorem dX11_nearer_46 : decode cX11_nearer 46 = .ok (.iaload, 1) := by decide +kernel
theorem dX11_nearer_47 : decode cX11_nearer 47 = .ok (.aload_n 0, 1) := by decide +kernel
theorem dX11_nearer_48 : decode cX11_nearer 48 = .ok (.getfield 39, 3) := by decide +kernel
theorem dX11_nearer_51 : decode cX11_nearer 51 = .ok (.iload_n 2, 1) := by decide +kernel
theorem dX11_nearer_52 : decode cX11_nearer 52 = .ok (.iaload, 1) := by decide +kernel
theorem dX11_nearer_53 : decode cX11_nearer 53 = .ok (.iconst 1, 1) := by decide +kernel
theorem dX11_nearer_54 : decode cX11_nearer 54 = .ok (.isub, 1) := by decide +kernel
theorem dX11_nearer_55 : decode cX11_nearer 55 = .ok (.if_icmp .ne 17, 3) := by decide +kernel
theorem dX11_nearer_58 : decode cX11_nearer 58 = .ok (.iload_n 3, 1) := by decide +kernel
theorem dX11_nearer_59 : decode cX11_nearer 59 = .ok (.iconst (-1), 1) := by decide +kernel
theorem dX11_nearer_60 : decode cX11_nearer 60 = .ok (.if_icmp .eq 9, 3) := by decide +kernel
theorem dX11_nearer_63 : decode cX11_nearer 63 = .ok (.iload 6, 2) := by decide +kernel
theorem dX11_nearer_65 : decode cX11_nearer 65 = .ok (.iload_n 3, 1) := by decide +kernel
theorem dX11_nearer_66 : decode cX11_nearer 66 = .ok (.if_icmp .ge 6, 3) := by decide +kernel
theorem dX11_nearer_69 : decode cX11_nearer 69 = .ok (.iload 6, 2) := by decide +kernel
theorem dX11_nearer_71 : decode cX11_nearer 71 = .ok (.istore_n 3, 1) := by decide +kernel
theorem dX11_nearer_72 : decode cX11_nearer 72 = .ok (.iinc 5 1, 3) := by decide +kernel
theorem dX11_nearer_75 : decode cX11_nearer 75 = .ok (.goto (-53), 3) := by decide +kernel
theorem dX11_nearer_78 : decode cX11_nearer 78 = .ok (.iinc 4 1, 3) := by decide +kernel
theorem dX11_nearer_81 : decode cX11_nearer 81 = .ok (.goto (-76), 3) := by decide +kernel
theorem dX11_nearer_84 : decode cX11_nearer 84 = .ok (.iload_n 3, 1) := by decide +kernel
theorem dX11_nearer_85 : decode cX11_nearer 85 = .ok (.ireturn, 1) := by decide +kernel
theorem gX11_way_X11_isKey : GoodIn wsX11_way (wsV RX11 153 RX11 yX11_isKey wsX11_isKey) := gw_c t_w585 (gw_c t_w584 (gw_c t_w583 (gw_c t_w510 (gw_c t_w582 (gw_t)))))
theorem gX11_way_X11_isGreat : GoodIn wsX11_way (wsV RX11 282 RX11 yX11_isGreat wsX11_isGreat) := gw_c t_w654 (gw_c t_w653 (gw_c t_w652 (gw_c t_w510 (gw_c t_w651 (gw_t)))))
theorem gX11_way_X11_laysSteps : GoodIn wsX11_way (wsV RX11 285 RX11 yX11_laysSteps wsX11_laysSteps) := gw_c t_w658 (gw_c t_w657 (gw_c t_w656 (gw_c t_w510 (gw_c t_w655 (gw_t)))))
theorem gX11_way_X11_nearer : GoodIn wsX11_way (wsV RX11 291 RX11 yX11_nearer wsX11_nearer) := gw_c t_w666 (gw_c t_w665 (gw_c t_w664 (gw_c t_w510 (gw_c t_w663 (gw_t)))))
theorem dX11_way_0 : decode cX11_way 0 = .ok (.aload_n 0, 1) := by decide +kernel
theorem dX11_way_1 : decode cX11_way 1 = .ok (.iload_n 1, 1) := by decide +kernel
theorem dX11_way_2 : decode cX11_way 2 = .ok (.iload_n 2, 1) := by decide +kernel
theorem dX11_way_3 : decode cX11_way 3 = .ok (.invokevirtual 153, 3) := by decide +kernel
theorem dX11_way_6 : decode cX11_way 6 = .ok (.ifCond .eq 17, 3) := by decide +kernel
theorem dX11_way_9 : decode cX11_way 9 = .ok (.aload_n 0, 1) := by decide +kernel
theorem dX11_way_10 : decode cX11_way 10 = .ok (.iload_n 1, 1) := by decide +kernel
theorem dX11_way_11 : decode cX11_way 11 = .ok (.iload_n 3, 1) := by decide +kernel
theorem dX11_way_12 : decode cX11_way 12 = .ok (.invokevirtual 153, 3) := by decide +kernel
theorem dX11_way_15 : decode cX11_way 15 = .ok (.ifCond .eq 8, 3) := by decide +kernel
theorem dX11_way_18 : decode cX11_way 18 = .ok (.iload 4, 2) := by decide +kernel
theorem dX11_way_20 : decode cX11_way 20 = .ok (.ifCond .ge 5, 3) := by decide +kernel
theorem dX11_way_23 : decode cX11_way 23 = .ok (.iconst (-1), 1) := by decide +kernel
theorem dX11_way_24 : decode cX11_way 24 = .ok (.ireturn, 1) := by decide +kernel
theorem dX11_way_25 : decode cX11_way 25 = .ok (.aload_n 0, 1) := by decide +kernel
theorem dX11_way_26 : decode cX11_way 26 = .ok (.iload_n 1, 1) := by decide +kernel
theorem dX11_way_27 : decode cX11_way 27 = .ok (.invokevirtual 282, 3) := by decide +kernel
theorem dX11_way_30 : decode cX11_way 30 = .ok (.ifCond .eq 6, 3) := by decide +kernel
theorem dX11_way_33 : decode cX11_way 33 = .ok (.bipush (-3), 2) := by decide +kernel
theorem dX11_way_35 : decode cX11_way 35 = .ok (.ireturn, 1) := by decide +kernel
theorem dX11_way_36 : decode cX11_way 36 = .ok (.aload_n 0, 1) := by decide +kernel
theorem dX11_way_37 : decode cX11_way 37 = .ok (.iload_n 1, 1) := by decide +kernel
theorem dX11_way_38 : decode cX11_way 38 = .ok (.iload_n 3, 1) := by decide +kernel
theorem dX11_way_39 : decode cX11_way 39 = .ok (.invokevirtual 285, 3) := by decide +kernel
theorem dX11_way_42 : decode cX11_way 42 = .ok (.iload 4, 2) := by decide +kernel
theorem dX11_way_44 : decode cX11_way 44 = .ok (.aload_n 0, 1) := by decide +kernel
theorem dX11_way_45 : decode cX11_way 45 = .ok (.getfield 39, 3) := by decide +kernel
theorem dX11_way_48 : decode cX11_way 48 = .ok (.iload_n 2, 1) := by decide +kernel
theorem dX11_way_49 : decode cX11_way 49 = .ok (.iaload, 1) := by decide +kernel
theorem dX11_way_50 : decode cX11_way 50 = .ok (.if_icmp .le 6, 3) := by decide +kernel
theorem dX11_way_53 : decode cX11_way 53 = .ok (.bipush (-2), 2) := by decide +kernel
theorem dX11_way_55 : decode cX11_way 55 = .ok (.ireturn, 1) := by decide +kernel
theorem dX11_way_56 : decode cX11_way 56 = .ok (.iload_n 2, 1) := by decide +kernel
theorem dX11_way_57 : decode cX11_way 57 = .ok (.istore 5, 2) := by decide +kernel
theorem dX11_way_59 : decode cX11_way 59 = .ok (.iconst 0, 1) := by decide +kernel
theorem dX11_way_60 : decode cX11_way 60 = .ok (.istore 6, 2) := by decide +kernel
theorem dX11_way_62 : decode cX11_way 62 = .ok (.iload 6, 2) := by decide +kernel
theorem dX11_way_64 : decode cX11_way 64 = .ok (.iload 4, 2) := by decide +kernel
theorem dX11_way_66 : decode cX11_way 66 = .ok (.if_icmp .ge 18, 3) := by decide +kernel
theorem dX11_way_69 : decode cX11_way 69 = .ok (.aload_n 0, 1) := by decide +kernel
theorem dX11_way_70 : decode cX11_way 70 = .ok (.iload_n 1, 1) := by decide +kernel
theorem dX11_way_71 : decode cX11_way 71 = .ok (.iload 5, 2) := by decide +kernel
theorem dX11_way_73 : decode cX11_way 73 = .ok (.invokevirtual 291, 3) := by decide +kernel
theorem dX11_way_76 : decode cX11_way 76 = .ok (.istore 5, 2) := by decide +kernel
theorem dX11_way_78 : decode cX11_way 78 = .ok (.iinc 6 1, 3) := by decide +kernel
theorem dX11_way_81 : decode cX11_way 81 = .ok (.goto (-19), 3) := by decide +kernel
theorem dX11_way_84 : decode cX11_way 84 = .ok (.iload 5, 2) := by decide +kernel
theorem dX11_way_86 : decode cX11_way 86 = .ok (.ireturn, 1) := by decide +kernel
theorem gX11_reach_X11_isKey : GoodIn wsX11_reach (wsV RX11 153 RX11 yX11_isKey wsX11_isKey) := gw_c t_w585 (gw_c t_w584 (gw_c t_w583 (gw_c t_w510 (gw_c t_w582 (gw_t)))))
theorem gX11_reach_X11_isGreat : GoodIn wsX11_reach (wsV RX11 282 RX11 yX11_isGreat wsX11_isGreat) := gw_c t_w654 (gw_c t_w653 (gw_c t_w652 (gw_c t_w510 (gw_c t_w651 (gw_t)))))
theorem gX11_reach_X11_laysSteps : GoodIn wsX11_reach (wsV RX11 285 RX11 yX11_laysSteps wsX11_laysSteps) := gw_c t_w658 (gw_c t_w657 (gw_c t_w656 (gw_c t_w510 (gw_c t_w655 (gw_t)))))
theorem gX11_reach_X11_sheets : GoodIn wsX11_reach (wsV RX11 88 RX11 yX11_sheets wsX11_sheets) := gw_c t_w526 (gw_c t_w525 (gw_c t_w524 (gw_c t_w510 (gw_c t_w523 (gw_t)))))
theorem dX11_reach_0 : decode cX11_reach 0 = .ok (.aload_n 0, 1) := by decide +kernel
theorem dX11_reach_1 : decode cX11_reach 1 = .ok (.iload_n 1, 1) := by decide +kernel
theorem dX11_reach_2 : decode cX11_reach 2 = .ok (.iload_n 2, 1) := by decide +kernel
theorem dX11_reach_3 : decode cX11_reach 3 = .ok (.invokevirtual 153, 3) := by decide +kernel
theorem dX11_reach_6 : decode cX11_reach 6 = .ok (.ifCond .eq 7, 3) := by decide +kernel
theorem dX11_reach_9 : decode cX11_reach 9 = .ok (.iload_n 3, 1) := by decide +kernel
theorem dX11_reach_10 : decode cX11_reach 10 = .ok (.ifCond .ge 5, 3) := by decide +kernel
theorem dX11_reach_13 : decode cX11_reach 13 = .ok (.iconst (-1), 1) := by decide +kernel
theorem dX11_reach_14 : decode cX11_reach 14 = .ok (.ireturn, 1) := by decide +kernel
theorem dX11_reach_15 : decode cX11_reach 15 = .ok (.aload_n 0, 1) := by decide +kernel
theorem dX11_reach_16 : decode cX11_reach 16 = .ok (.iload_n 1, 1) := by decide +kernel
theorem dX11_reach_17 : decode cX11_reach 17 = .ok (.invokevirtual 282, 3) := by decide +kernel
theorem dX11_reach_20 : decode cX11_reach 20 = .ok (.ifCond .eq 6, 3) := by decide +kernel
theorem dX11_reach_23 : decode cX11_reach 23 = .ok (.bipush (-3), 2) := by decide +kernel
theorem dX11_reach_25 : decode cX11_reach 25 = .ok (.ireturn, 1) := by decide +kernel
theorem dX11_reach_26 : decode cX11_reach 26 = .ok (.aload_n 0, 1) := by decide +kernel
theorem dX11_reach_27 : decode cX11_reach 27 = .ok (.iload_n 1, 1) := by decide +kernel
theorem dX11_reach_28 : decode cX11_reach 28 = .ok (.iload_n 2, 1) := by decide +kernel
theorem dX11_reach_29 : decode cX11_reach 29 = .ok (.invokevirtual 285, 3) := by decide +kernel
theorem dX11_reach_32 : decode cX11_reach 32 = .ok (.iconst 0, 1) := by decide +kernel
theorem dX11_reach_33 : decode cX11_reach 33 = .ok (.istore 4, 2) := by decide +kernel
theorem dX11_reach_35 : decode cX11_reach 35 = .ok (.iconst 0, 1) := by decide +kernel
theorem dX11_reach_36 : decode cX11_reach 36 = .ok (.istore 5, 2) := by decide +kernel
theorem dX11_reach_38 : decode cX11_reach 38 = .ok (.iload 5, 2) := by decide +kernel
theorem dX11_reach_40 : decode cX11_reach 40 = .ok (.aload_n 0, 1) := by decide +kernel
theorem dX11_reach_41 : decode cX11_reach 41 = .ok (.iload_n 1, 1) := by decide +kernel
theorem dX11_reach_42 : decode cX11_reach 42 = .ok (.invokevirtual 88, 3) := by decide +kernel
theorem dX11_reach_45 : decode cX11_reach 45 = .ok (.if_icmp .ge 30, 3) := by decide +kernel
theorem dX11_reach_48 : decode cX11_reach 48 = .ok (.iload 4, 2) := by decide +kernel
theorem dX11_reach_50 : decode cX11_reach 50 = .ok (.aload_n 0, 1) := by decide +kernel
theorem dX11_reach_51 : decode cX11_reach 51 = .ok (.getfield 39, 3) := by decide +kernel
theorem dX11_reach_54 : decode cX11_reach 54 = .ok (.iload 5, 2) := by decide +kernel
theorem dX11_reach_56 : decode cX11_reach 56 = .ok (.iaload, 1) := by decide +kernel
theorem dX11_reach_57 : decode cX11_reach 57 = .ok (.iload_n 3, 1) := by decide +kernel
theorem dX11_reach_58 : decode cX11_reach 58 = .ok (.if_icmp .gt 7, 3) := by decide +kernel
theorem dX11_reach_61 : decode cX11_reach 61 = .ok (.iconst 1, 1) := by decide +kernel
theorem dX11_reach_62 : decode cX11_reach 62 = .ok (.goto 4, 3) := by decide +kernel
theorem dX11_reach_65 : decode cX11_reach 65 = .ok (.iconst 0, 1) := by decide +kernel
theorem dX11_reach_66 : decode cX11_reach 66 = .ok (.iadd, 1) := by decide +kernel
theorem dX11_reach_67 : decode cX11_reach 67 = .ok (.istore 4, 2) := by decide +kernel
theorem dX11_reach_69 : decode cX11_reach 69 = .ok (.iinc 5 1, 3) := by decide +kernel
theorem dX11_reach_72 : decode cX11_reach 72 = .ok (.goto (-34), 3) := by decide +kernel
theorem dX11_reach_75 : decode cX11_reach 75 = .ok (.iload 4, 2) := by decide +kernel
theorem dX11_reach_77 : decode cX11_reach 77 = .ok (.ireturn, 1) := by decide +kernel
theorem gX11_farthest_X11_isKey : GoodIn wsX11_farthest (wsV RX11 153 RX11 yX11_isKey wsX11_isKey) := gw_c t_w585 (gw_c t_w584 (gw_c t_w583 (gw_c t_w510 (gw_c t_w582 (gw_t)))))
theorem gX11_farthest_X11_in : GoodIn wsX11_farthest (va_wsS RX11 72 yX11_in wsX11_in) := gw_c t_w519 (gw_c t_w518 (gw_c t_w510 (gw_c t_w517 (gw_t))))
theorem gX11_farthest_X11_isGreat : GoodIn wsX11_farthest (wsV RX11 282 RX11 yX11_isGreat wsX11_isGreat) := gw_c t_w654 (gw_c t_w653 (gw_c t_w652 (gw_c t_w510 (gw_c t_w651 (gw_t)))))
theorem gX11_farthest_X11_laysSteps : GoodIn wsX11_farthest (wsV RX11 285 RX11 yX11_laysSteps wsX11_laysSteps) := gw_c t_w658 (gw_c t_w657 (gw_c t_w656 (gw_c t_w510 (gw_c t_w655 (gw_t)))))
theorem gX11_farthest_X11_sheets : GoodIn wsX11_farthest (wsV RX11 88 RX11 yX11_sheets wsX11_sheets) := gw_c t_w526 (gw_c t_w525 (gw_c t_w524 (gw_c t_w510 (gw_c t_w523 (gw_t)))))
theorem dX11_farthest_0 : decode cX11_farthest 0 = .ok (.aload_n 0, 1) := by decide +kernel
theorem dX11_farthest_1 : decode cX11_farthest 1 = .ok (.iload_n 1, 1) := by decide +kernel
theorem dX11_farthest_2 : decode cX11_farthest 2 = .ok (.iload_n 2, 1) := by decide +kernel
theorem dX11_farthest_3 : decode cX11_farthest 3 = .ok (.invokevirtual 153, 3) := by decide +kernel
theorem dX11_farthest_6 : decode cX11_farthest 6 = .ok (.ifCond .eq 13, 3) := by decide +kernel
theorem dX11_farthest_9 : decode cX11_farthest 9 = .ok (.iload_n 3, 1) := by decide +kernel
theorem dX11_farthest_10 : decode cX11_farthest 10 = .ok (.i2l, 1) := by decide +kernel
theorem dX11_farthest_11 : decode cX11_farthest 11 = .ok (.lconst 0, 1) := by decide +kernel
theorem dX11_farthest_12 : decode cX11_farthest 12 = .ok (.lconst 1, 1) := by decide +kernel
theorem dX11_farthest_13 : decode cX11_farthest 13 = .ok (.invokestatic 72, 3) := by decide +kernel
theorem dX11_farthest_16 : decode cX11_farthest 16 = .ok (.ifCond .ne 5, 3) := by decide +kernel
theorem dX11_farthest_19 : decode cX11_farthest 19 = .ok (.iconst (-1), 1) := by decide +kernel
theorem dX11_farthest_20 : decode cX11_farthest 20 = .ok (.ireturn, 1) := by decide +kernel
theorem dX11_farthest_21 : decode cX11_farthest 21 = .ok (.aload_n 0, 1) := by decide +kernel
theorem dX11_farthest_22 : decode cX11_farthest 22 = .ok (.iload_n 1, 1) := by decide +kernel
theorem dX11_farthest_23 : decode cX11_farthest 23 = .ok (.invokevirtual 282, 3) := by decide +kernel
theorem dX11_farthest_26 : decode cX11_farthest 26 = .ok (.ifCond .eq 6, 3) := by decide +kernel
theorem dX11_farthest_29 : decode cX11_farthest 29 = .ok (.bipush (-3), 2) := by decide +kernel
theorem dX11_farthest_31 : decode cX11_farthest 31 = .ok (.ireturn, 1) := by decide +kernel
theorem dX11_farthest_32 : decode cX11_farthest 32 = .ok (.aload_n 0, 1) := by decide +kernel
theorem dX11_farthest_33 : decode cX11_farthest 33 = .ok (.iload_n 1, 1) := by decide +kernel
theorem dX11_farthest_34 : decode cX11_farthest 34 = .ok (.iload_n 2, 1) := by decide +kernel
theorem dX11_farthest_35 : decode cX11_farthest 35 = .ok (.invokevirtual 285, 3) := by decide +kernel
theorem dX11_farthest_38 : decode cX11_farthest 38 = .ok (.iconst 0, 1) := by decide +kernel
theorem dX11_farthest_39 : decode cX11_farthest 39 = .ok (.istore 4, 2) := by decide +kernel
theorem dX11_farthest_41 : decode cX11_farthest 41 = .ok (.iconst 1, 1) := by decide +kernel
theorem dX11_farthest_42 : decode cX11_farthest 42 = .ok (.istore 5, 2) := by decide +kernel
theorem dX11_farthest_44 : decode cX11_farthest 44 = .ok (.iload 5, 2) := by decide +kernel
theorem dX11_farthest_46 : decode cX11_farthest 46 = .ok (.aload_n 0, 1) := by decide +kernel
theorem dX11_farthest_47 : decode cX11_farthest 47 = .ok (.iload_n 1, 1) := by decide +kernel
theorem dX11_farthest_48 : decode cX11_farthest 48 = .ok (.invokevirtual 88, 3) := by decide +kernel
theorem dX11_farthest_51 : decode cX11_farthest 51 = .ok (.if_icmp .ge 35, 3) := by decide +kernel
theorem dX11_farthest_54 : decode cX11_farthest 54 = .ok (.aload_n 0, 1) := by decide +kernel
theorem dX11_farthest_55 : decode cX11_farthest 55 = .ok (.getfield 39, 3) := by decide +kernel
theorem dX11_farthest_58 : decode cX11_farthest 58 = .ok (.iload 5, 2) := by decide +kernel
theorem dX11_farthest_60 : decode cX11_farthest 60 = .ok (.iaload, 1) := by decide +kernel
theorem dX11_farthest_61 : decode cX11_farthest 61 = .ok (.aload_n 0, 1) := by decide +kernel
theorem dX11_farthest_62 : decode cX11_farthest 62 = .ok (.getfield 39, 3) := by decide +kernel
theorem dX11_farthest_65 : decode cX11_farthest 65 = .ok (.iload 4, 2) := by decide +kernel
theorem dX11_farthest_67 : decode cX11_farthest 67 = .ok (.iaload, 1) := by decide +kernel
theorem dX11_farthest_68 : decode cX11_farthest 68 = .ok (.if_icmp .le 8, 3) := by decide +kernel
theorem dX11_farthest_71 : decode cX11_farthest 71 = .ok (.iload 5, 2) := by decide +kernel
theorem dX11_farthest_73 : decode cX11_farthest 73 = .ok (.goto 5, 3) := by decide +kernel
theorem dX11_farthest_76 : decode cX11_farthest 76 = .ok (.iload 4, 2) := by decide +kernel
theorem dX11_farthest_78 : decode cX11_farthest 78 = .ok (.istore 4, 2) := by decide +kernel
theorem dX11_farthest_80 : decode cX11_farthest 80 = .ok (.iinc 5 1, 3) := by decide +kernel
theorem dX11_farthest_83 : decode cX11_farthest 83 = .ok (.goto (-39), 3) := by decide +kernel
theorem dX11_farthest_86 : decode cX11_farthest 86 = .ok (.iload_n 3, 1) := by decide +kernel
theorem dX11_farthest_87 : decode cX11_farthest 87 = .ok (.ifCond .ne 13, 3) := by decide +kernel
theorem dX11_farthest_90 : decode cX11_farthest 90 = .ok (.aload_n 0, 1) := by decide +kernel
theorem dX11_farthest_91 : decode cX11_farthest 91 = .ok (.getfield 39, 3) := by decide +kernel
theorem dX11_farthest_94 : decode cX11_farthest 94 = .ok (.iload 4, 2) := by decide +kernel
theorem dX11_farthest_96 : decode cX11_farthest 96 = .ok (.iaload, 1) := by decide +kernel
theorem dX11_farthest_97 : decode cX11_farthest 97 = .ok (.goto 5, 3) := by decide +kernel
theorem dX11_farthest_100 : decode cX11_farthest 100 = .ok (.iload 4, 2) := by decide +kernel
theorem dX11_farthest_102 : decode cX11_farthest 102 = .ok (.ireturn, 1) := by decide +kernel
theorem gX11_cornerOf_X11_rowOf : GoodIn wsX11_cornerOf (wsV RX11 101 RX11 yX11_rowOf wsX11_rowOf) := gw_c t_w542 (gw_c t_w541 (gw_c t_w540 (gw_c t_w510 (gw_c t_w539 (gw_t)))))
theorem gX11_cornerOf_X11_many : GoodIn wsX11_cornerOf (wsV RX11 115 RX11 yX11_many wsX11_many) := gw_c t_w554 (gw_c t_w553 (gw_c t_w552 (gw_c t_w510 (gw_c t_w551 (gw_t)))))
theorem gX11_cornerOf_X11_placeOf : GoodIn wsX11_cornerOf (wsV RX11 143 RX11 yX11_placeOf wsX11_placeOf) := gw_c t_w573 (gw_c t_w572 (gw_c t_w571 (gw_c t_w510 (gw_c t_w570 (gw_t)))))
theorem gX11_cornerOf_X11_keyOf : GoodIn wsX11_cornerOf (wsV RX11 104 RX11 yX11_keyOf wsX11_keyOf) := gw_c t_w546 (gw_c t_w545 (gw_c t_w544 (gw_c t_w510 (gw_c t_w543 (gw_t)))))
theorem dX11_cornerOf_0 : decode cX11_cornerOf 0 = .ok (.aload_n 0, 1) := by decide +kernel
theorem dX11_cornerOf_1 : decode cX11_cornerOf 1 = .ok (.iload_n 1, 1) := by decide +kernel
theorem dX11_cornerOf_2 : decode cX11_cornerOf 2 = .ok (.iload_n 2, 1) := by decide +kernel
theorem dX11_cornerOf_3 : decode cX11_cornerOf 3 = .ok (.invokevirtual 101, 3) := by decide +kernel
theorem dX11_cornerOf_6 : decode cX11_cornerOf 6 = .ok (.istore 5, 2) := by decide +kernel
theorem dX11_cornerOf_8 : decode cX11_cornerOf 8 = .ok (.iload_n 3, 1) := by decide +kernel
theorem dX11_cornerOf_9 : decode cX11_cornerOf 9 = .ok (.ifCond .ne 10, 3) := by decide +kernel
theorem dX11_cornerOf_12 : decode cX11_cornerOf 12 = .ok (.iload 5, 2) := by decide +kernel
theorem dX11_cornerOf_14 : decode cX11_cornerOf 14 = .ok (.iconst 1, 1) := by decide +kernel
theorem dX11_cornerOf_15 : decode cX11_cornerOf 15 = .ok (.isub, 1) := by decide +kernel
theorem dX11_cornerOf_16 : decode cX11_cornerOf 16 = .ok (.goto 7, 3) := by decide +kernel
theorem dX11_cornerOf_19 : decode cX11_cornerOf 19 = .ok (.iload 5, 2) := by decide +kernel
theorem dX11_cornerOf_21 : decode cX11_cornerOf 21 = .ok (.iconst 1, 1) := by decide +kernel
theorem dX11_cornerOf_22 : decode cX11_cornerOf 22 = .ok (.iadd, 1) := by decide +kernel
theorem dX11_cornerOf_23 : decode cX11_cornerOf 23 = .ok (.istore 6, 2) := by decide +kernel
theorem dX11_cornerOf_25 : decode cX11_cornerOf 25 = .ok (.aload_n 0, 1) := by decide +kernel
theorem dX11_cornerOf_26 : decode cX11_cornerOf 26 = .ok (.iload_n 1, 1) := by decide +kernel
theorem dX11_cornerOf_27 : decode cX11_cornerOf 27 = .ok (.iload 5, 2) := by decide +kernel
theorem dX11_cornerOf_29 : decode cX11_cornerOf 29 = .ok (.invokevirtual 115, 3) := by decide +kernel
theorem dX11_cornerOf_32 : decode cX11_cornerOf 32 = .ok (.i2l, 1) := by decide +kernel
theorem dX11_cornerOf_33 : decode cX11_cornerOf 33 = .ok (.lstore 7, 2) := by decide +kernel
theorem dX11_cornerOf_35 : decode cX11_cornerOf 35 = .ok (.lload 7, 2) := by decide +kernel
theorem dX11_cornerOf_37 : decode cX11_cornerOf 37 = .ok (.lconst 1, 1) := by decide +kernel
theorem dX11_cornerOf_38 : decode cX11_cornerOf 38 = .ok (.lcmp, 1) := by decide +kernel
theorem dX11_cornerOf_39 : decode cX11_cornerOf 39 = .ok (.ifCond .eq 14, 3) := by decide +kernel
theorem dX11_cornerOf_42 : decode cX11_cornerOf 42 = .ok (.aload_n 0, 1) := by decide +kernel
theorem dX11_cornerOf_43 : decode cX11_cornerOf 43 = .ok (.iload_n 1, 1) := by decide +kernel
theorem dX11_cornerOf_44 : decode cX11_cornerOf 44 = .ok (.iload 6, 2) := by decide +kernel
theorem dX11_cornerOf_46 : decode cX11_cornerOf 46 = .ok (.invokevirtual 115, 3) := by decide +kernel
theorem dX11_cornerOf_49 : decode cX11_cornerOf 49 = .ok (.iconst 1, 1) := by decide +kernel
theorem dX11_cornerOf_50 : decode cX11_cornerOf 50 = .ok (.if_icmp .ne 5, 3) := by decide +kernel
theorem dX11_cornerOf_53 : decode cX11_cornerOf 53 = .ok (.iconst (-1), 1) := by decide +kernel
theorem dX11_cornerOf_54 : decode cX11_cornerOf 54 = .ok (.ireturn, 1) := by decide +kernel
theorem dX11_cornerOf_55 : decode cX11_cornerOf 55 = .ok (.aload_n 0, 1) := by decide +kernel
theorem dX11_cornerOf_56 : decode cX11_cornerOf 56 = .ok (.iload_n 1, 1) := by decide +kernel
theorem dX11_cornerOf_57 : decode cX11_cornerOf 57 = .ok (.iload 6, 2) := by decide +kernel
theorem dX11_cornerOf_59 : decode cX11_cornerOf 59 = .ok (.invokevirtual 115, 3) := by decide +kernel
theorem dX11_cornerOf_62 : decode cX11_cornerOf 62 = .ok (.i2l, 1) := by decide +kernel
theorem dX11_cornerOf_63 : decode cX11_cornerOf 63 = .ok (.lstore 9, 2) := by decide +kernel
theorem dX11_cornerOf_65 : decode cX11_cornerOf 65 = .ok (.aload_n 0, 1) := by decide +kernel
theorem dX11_cornerOf_66 : decode cX11_cornerOf 66 = .ok (.iload_n 1, 1) := by decide +kernel
theorem dX11_cornerOf_67 : decode cX11_cornerOf 67 = .ok (.iload_n 2, 1) := by decide +kernel
theorem dX11_cornerOf_68 : decode cX11_cornerOf 68 = .ok (.invokevirtual 143, 3) := by decide +kernel
theorem dX11_cornerOf_71 : decode cX11_cornerOf 71 = .ok (.iload 4, 2) := by decide +kernel
theorem dX11_cornerOf_73 : decode cX11_cornerOf 73 = .ok (.iadd, 1) := by decide +kernel
theorem dX11_cornerOf_74 : decode cX11_cornerOf 74 = .ok (.i2l, 1) := by decide +kernel
theorem dX11_cornerOf_75 : decode cX11_cornerOf 75 = .ok (.lload 9, 2) := by decide +kernel
theorem dX11_cornerOf_77 : decode cX11_cornerOf 77 = .ok (.lmul, 1) := by decide +kernel
theorem dX11_cornerOf_78 : decode cX11_cornerOf 78 = .ok (.lstore 11, 2) := by decide +kernel
theorem dX11_cornerOf_80 : decode cX11_cornerOf 80 = .ok (.lload 11, 2) := by decide +kernel
theorem dX11_cornerOf_82 : decode cX11_cornerOf 82 = .ok (.lload 7, 2) := by decide +kernel
theorem dX11_cornerOf_84 : decode cX11_cornerOf 84 = .ok (.lrem, 1) := by decide +kernel
theorem dX11_cornerOf_85 : decode cX11_cornerOf 85 = .ok (.lconst 0, 1) := by decide +kernel
theorem dX11_cornerOf_86 : decode cX11_cornerOf 86 = .ok (.lcmp, 1) := by decide +kernel
theorem dX11_cornerOf_87 : decode cX11_cornerOf 87 = .ok (.ifCond .eq 5, 3) := by decide +kernel
theorem dX11_cornerOf_90 : decode cX11_cornerOf 90 = .ok (.iconst (-1), 1) := by decide +kernel
theorem dX11_cornerOf_91 : decode cX11_cornerOf 91 = .ok (.ireturn, 1) := by decide +kernel
theorem dX11_cornerOf_92 : decode cX11_cornerOf 92 = .ok (.lload 11, 2) := by decide +kernel
theorem dX11_cornerOf_94 : decode cX11_cornerOf 94 = .ok (.lload 7, 2) := by decide +kernel
theorem dX11_cornerOf_96 : decode cX11_cornerOf 96 = .ok (.ldiv, 1) := by decide +kernel
theorem dX11_cornerOf_97 : decode cX11_cornerOf 97 = .ok (.lstore 13, 2) := by decide +kernel
theorem dX11_cornerOf_99 : decode cX11_cornerOf 99 = .ok (.aload_n 0, 1) := by decide +kernel
theorem dX11_cornerOf_100 : decode cX11_cornerOf 100 = .ok (.iload_n 1, 1) := by decide +kernel
theorem dX11_cornerOf_101 : decode cX11_cornerOf 101 = .ok (.iload 6, 2) := by decide +kernel
theorem dX11_cornerOf_103 : decode cX11_cornerOf 103 = .ok (.iload 4, 2) := by decide +kernel
theorem dX11_cornerOf_105 : decode cX11_cornerOf 105 = .ok (.ifCond .ne 16, 3) := by decide +kernel
theorem dX11_cornerOf_108 : decode cX11_cornerOf 108 = .ok (.lload 13, 2) := by decide +kernel
theorem dX11_cornerOf_110 : decode cX11_cornerOf 110 = .ok (.lload 9, 2) := by decide +kernel
theorem dX11_cornerOf_112 : decode cX11_cornerOf 112 = .ok (.ladd, 1) := by decide +kernel
theorem dX11_cornerOf_113 : decode cX11_cornerOf 113 = .ok (.lconst 1, 1) := by decide +kernel
theorem dX11_cornerOf_114 : decode cX11_cornerOf 114 = .ok (.lsub, 1) := by decide +kernel
theorem dX11_cornerOf_115 : decode cX11_cornerOf 115 = .ok (.lload 9, 2) := by decide +kernel
theorem dX11_cornerOf_117 : decode cX11_cornerOf 117 = .ok (.lrem, 1) := by decide +kernel
theorem dX11_cornerOf_118 : decode cX11_cornerOf 118 = .ok (.goto 8, 3) := by decide +kernel
theorem dX11_cornerOf_121 : decode cX11_cornerOf 121 = .ok (.lload 13, 2) := by decide +kernel
theorem dX11_cornerOf_123 : decode cX11_cornerOf 123 = .ok (.lload 9, 2) := by decide +kernel
theorem dX11_cornerOf_125 : decode cX11_cornerOf 125 = .ok (.lrem, 1) := by decide +kernel
theorem dX11_cornerOf_126 : decode cX11_cornerOf 126 = .ok (.l2i, 1) := by decide +kernel
theorem dX11_cornerOf_127 : decode cX11_cornerOf 127 = .ok (.invokevirtual 104, 3) := by decide +kernel
theorem dX11_cornerOf_130 : decode cX11_cornerOf 130 = .ok (.ireturn, 1) := by decide +kernel
theorem gX11_corners_X11_isKey : GoodIn wsX11_corners (wsV RX11 153 RX11 yX11_isKey wsX11_isKey) := gw_c t_w585 (gw_c t_w584 (gw_c t_w583 (gw_c t_w510 (gw_c t_w582 (gw_t)))))
theorem gX11_corners_X11_cornerOf : GoodIn wsX11_corners (wsV RX11 294 RX11 yX11_cornerOf wsX11_cornerOf) := gw_c t_w670 (gw_c t_w669 (gw_c t_w668 (gw_c t_w510 (gw_c t_w667 (gw_t)))))
theorem gX11_corners_X11_in : GoodIn wsX11_corners (va_wsS RX11 72 yX11_in wsX11_in) := gw_c t_w519 (gw_c t_w518 (gw_c t_w510 (gw_c t_w517 (gw_t))))
theorem dX11_corners_0 : decode cX11_corners 0 = .ok (.aload_n 0, 1) := by decide +kernel
theorem dX11_corners_1 : decode cX11_corners 1 = .ok (.iload_n 1, 1) := by decide +kernel
theorem dX11_corners_2 : decode cX11_corners 2 = .ok (.iload_n 2, 1) := by decide +kernel
theorem dX11_corners_3 : decode cX11_corners 3 = .ok (.invokevirtual 153, 3) := by decide +kernel
theorem dX11_corners_6 : decode cX11_corners 6 = .ok (.ifCond .eq 8, 3) := by decide +kernel
theorem dX11_corners_9 : decode cX11_corners 9 = .ok (.iload_n 3, 1) := by decide +kernel
theorem dX11_corners_10 : decode cX11_corners 10 = .ok (.iconst (-1), 1) := by decide +kernel
theorem dX11_corners_11 : decode cX11_corners 11 = .ok (.if_icmp .ge 5, 3) := by decide +kernel
theorem dX11_corners_14 : decode cX11_corners 14 = .ok (.iconst (-1), 1) := by decide +kernel
theorem dX11_corners_15 : decode cX11_corners 15 = .ok (.ireturn, 1) := by decide +kernel
theorem dX11_corners_16 : decode cX11_corners 16 = .ok (.iload_n 3, 1) := by decide +kernel
theorem dX11_corners_17 : decode cX11_corners 17 = .ok (.istore 4, 2) := by decide +kernel
theorem dX11_corners_19 : decode cX11_corners 19 = .ok (.iconst 0, 1) := by decide +kernel
theorem dX11_corners_20 : decode cX11_corners 20 = .ok (.istore 5, 2) := by decide +kernel
theorem dX11_corners_22 : decode cX11_corners 22 = .ok (.iconst 0, 1) := by decide +kernel
theorem dX11_corners_23 : decode cX11_corners 23 = .ok (.istore 6, 2) := by decide +kernel
theorem dX11_corners_25 : decode cX11_corners 25 = .ok (.iload 6, 2) := by decide +kernel
theorem dX11_corners_27 : decode cX11_corners 27 = .ok (.iconst 3, 1) := by decide +kernel
theorem dX11_corners_28 : decode cX11_corners 28 = .ok (.if_icmp .ge 150, 3) := by decide +kernel
theorem dX11_corners_31 : decode cX11_corners 31 = .ok (.aload_n 0, 1) := by decide +kernel
theorem dX11_corners_32 : decode cX11_corners 32 = .ok (.iload_n 1, 1) := by decide +kernel
theorem dX11_corners_33 : decode cX11_corners 33 = .ok (.iload_n 2, 1) := by decide +kernel
theorem dX11_corners_34 : decode cX11_corners 34 = .ok (.iload 6, 2) := by decide +kernel
theorem dX11_corners_36 : decode cX11_corners 36 = .ok (.iconst 0, 1) := by decide +kernel
theorem dX11_corners_37 : decode cX11_corners 37 = .ok (.invokevirtual 294, 3) := by decide +kernel
theorem dX11_corners_40 : decode cX11_corners 40 = .ok (.istore 7, 2) := by decide +kernel
theorem dX11_corners_42 : decode cX11_corners 42 = .ok (.aload_n 0, 1) := by decide +kernel
theorem dX11_corners_43 : decode cX11_corners 43 = .ok (.iload_n 1, 1) := by decide +kernel
theorem dX11_corners_44 : decode cX11_corners 44 = .ok (.iload_n 2, 1) := by decide +kernel
theorem dX11_corners_45 : decode cX11_corners 45 = .ok (.iload 6, 2) := by decide +kernel
theorem dX11_corners_47 : decode cX11_corners 47 = .ok (.iconst 1, 1) := by decide +kernel
theorem dX11_corners_48 : decode cX11_corners 48 = .ok (.invokevirtual 294, 3) := by decide +kernel
theorem dX11_corners_51 : decode cX11_corners 51 = .ok (.istore 8, 2) := by decide +kernel
theorem dX11_corners_53 : decode cX11_corners 53 = .ok (.iload 7, 2) := by decide +kernel
theorem dX11_corners_55 : decode cX11_corners 55 = .ok (.iconst (-1), 1) := by decide +kernel
theorem dX11_corners_56 : decode cX11_corners 56 = .ok (.if_icmp .ne 7, 3) := by decide +kernel
theorem dX11_corners_59 : decode cX11_corners 59 = .ok (.iconst 0, 1) := by decide +kernel
theorem dX11_corners_60 : decode cX11_corners 60 = .ok (.goto 4, 3) := by decide +kernel
theorem dX11_corners_63 : decode cX11_corners 63 = .ok (.iconst 1, 1) := by decide +kernel
theorem dX11_corners_64 : decode cX11_corners 64 = .ok (.iload 8, 2) := by decide +kernel
theorem dX11_corners_66 : decode cX11_corners 66 = .ok (.iconst (-1), 1) := by decide +kernel
theorem dX11_corners_67 : decode cX11_corners 67 = .ok (.if_icmp .ne 7, 3) := by decide +kernel
theorem dX11_corners_70 : decode cX11_corners 70 = .ok (.iconst 0, 1) := by decide +kernel
theorem dX11_corners_71 : decode cX11_corners 71 = .ok (.goto 4, 3) := by decide +kernel
theorem dX11_corners_74 : decode cX11_corners 74 = .ok (.iconst 1, 1) := by decide +kernel
theorem dX11_corners_75 : decode cX11_corners 75 = .ok (.iadd, 1) := by decide +kernel
theorem dX11_corners_76 : decode cX11_corners 76 = .ok (.istore 9, 2) := by decide +kernel
theorem dX11_corners_78 : decode cX11_corners 78 = .ok (.iload 4, 2) := by decide +kernel
theorem dX11_corners_80 : decode cX11_corners 80 = .ok (.i2l, 1) := by decide +kernel
theorem dX11_corners_81 : decode cX11_corners 81 = .ok (.lconst 0, 1) := by decide +kernel
theorem dX11_corners_82 : decode cX11_corners 82 = .ok (.iload 9, 2) := by decide +kernel
theorem dX11_corners_84 : decode cX11_corners 84 = .ok (.iconst 1, 1) := by decide +kernel
theorem dX11_corners_85 : decode cX11_corners 85 = .ok (.isub, 1) := by decide +kernel
theorem dX11_corners_86 : decode cX11_corners 86 = .ok (.i2l, 1) := by decide +kernel
theorem dX11_corners_87 : decode cX11_corners 87 = .ok (.invokestatic 72, 3) := by decide +kernel
theorem dX11_corners_90 : decode cX11_corners 90 = .ok (.ifCond .eq 56, 3) := by decide +kernel
theorem dX11_corners_93 : decode cX11_corners 93 = .ok (.iload 7, 2) := by decide +kernel
theorem dX11_corners_95 : decode cX11_corners 95 = .ok (.iconst (-1), 1) := by decide +kernel
theorem dX11_corners_96 : decode cX11_corners 96 = .ok (.if_icmp .eq 16, 3) := by decide +kernel
theorem dX11_corners_99 : decode cX11_corners 99 = .ok (.iload 8, 2) := by decide +kernel
theorem dX11_corners_101 : decode cX11_corners 101 = .ok (.iconst (-1), 1) := by decide +kernel
theorem dX11_corners_102 : decode cX11_corners 102 = .ok (.if_icmp .eq 15, 3) := by decide +kernel
theorem dX11_corners_105 : decode cX11_corners 105 = .ok (.iload 8, 2) := by decide +kernel
theorem dX11_corners_107 : decode cX11_corners 107 = .ok (.iload 7, 2) := by decide +kernel
theorem dX11_corners_109 : decode cX11_corners 109 = .ok (.if_icmp .ge 8, 3) := by decide +kernel
theorem dX11_corners_112 : decode cX11_corners 112 = .ok (.iload 8, 2) := by decide +kernel
theorem dX11_corners_114 : decode cX11_corners 114 = .ok (.goto 5, 3) := by decide +kernel
theorem dX11_corners_117 : decode cX11_corners 117 = .ok (.iload 7, 2) := by decide +kernel
theorem dX11_corners_119 : decode cX11_corners 119 = .ok (.istore 10, 2) := by decide +kernel
theorem dX11_corners_121 : decode cX11_corners 121 = .ok (.iload 4, 2) := by decide +kernel
theorem dX11_corners_123 : decode cX11_corners 123 = .ok (.ifCond .ne 8, 3) := by decide +kernel
theorem dX11_corners_126 : decode cX11_corners 126 = .ok (.iload 10, 2) := by decide +kernel
theorem dX11_corners_128 : decode cX11_corners 128 = .ok (.goto 17, 3) := by decide +kernel
theorem dX11_corners_131 : decode cX11_corners 131 = .ok (.iload 10, 2) := by decide +kernel
theorem dX11_corners_133 : decode cX11_corners 133 = .ok (.iload 7, 2) := by decide +kernel
theorem dX11_corners_135 : decode cX11_corners 135 = .ok (.if_icmp .ne 8, 3) := by decide +kernel
theorem dX11_corners_138 : decode cX11_corners 138 = .ok (.iload 8, 2) := by decide +kernel
theorem dX11_corners_140 : decode cX11_corners 140 = .ok (.goto 5, 3) := by decide +kernel
theorem dX11_corners_143 : decode cX11_corners 143 = .ok (.iload 7, 2) := by decide +kernel
theorem dX11_corners_145 : decode cX11_corners 145 = .ok (.ireturn, 1) := by decide +kernel
theorem dX11_corners_146 : decode cX11_corners 146 = .ok (.iload 4, 2) := by decide +kernel
theorem dX11_corners_148 : decode cX11_corners 148 = .ok (.iload_n 3, 1) := by decide +kernel
theorem dX11_corners_149 : decode cX11_corners 149 = .ok (.iconst (-1), 1) := by decide +kernel
theorem dX11_corners_150 : decode cX11_corners 150 = .ok (.if_icmp .ne 7, 3) := by decide +kernel
theorem dX11_corners_153 : decode cX11_corners 153 = .ok (.iconst 0, 1) := by decide +kernel
theorem dX11_corners_154 : decode cX11_corners 154 = .ok (.goto 5, 3) := by decide +kernel
theorem dX11_corners_157 : decode cX11_corners 157 = .ok (.iload 9, 2) := by decide +kernel
theorem dX11_corners_159 : decode cX11_corners 159 = .ok (.isub, 1) := by decide +kernel
theorem dX11_corners_160 : decode cX11_corners 160 = .ok (.istore 4, 2) := by decide +kernel
theorem dX11_corners_162 : decode cX11_corners 162 = .ok (.iload 5, 2) := by decide +kernel
theorem dX11_corners_164 : decode cX11_corners 164 = .ok (.iload 9, 2) := by decide +kernel
theorem dX11_corners_166 : decode cX11_corners 166 = .ok (.iadd, 1) := by decide +kernel
theorem dX11_corners_167 : decode cX11_corners 167 = .ok (.istore 5, 2) := by decide +kernel
theorem dX11_corners_169 : decode cX11_corners 169 = .ok (.iload 6, 2) := by decide +kernel
theorem dX11_corners_171 : decode cX11_corners 171 = .ok (.iconst 2, 1) := by decide +kernel
theorem dX11_corners_172 : decode cX11_corners 172 = .ok (.iadd, 1) := by decide +kernel
theorem dX11_corners_173 : decode cX11_corners 173 = .ok (.istore 6, 2) := by decide +kernel
theorem dX11_corners_175 : decode cX11_corners 175 = .ok (.goto (-150), 3) := by decide +kernel
theorem dX11_corners_178 : decode cX11_corners 178 = .ok (.iload_n 3, 1) := by decide +kernel
theorem dX11_corners_179 : decode cX11_corners 179 = .ok (.iconst (-1), 1) := by decide +kernel
theorem dX11_corners_180 : decode cX11_corners 180 = .ok (.if_icmp .ne 8, 3) := by decide +kernel
theorem dX11_corners_183 : decode cX11_corners 183 = .ok (.iload 5, 2) := by decide +kernel
theorem dX11_corners_185 : decode cX11_corners 185 = .ok (.goto 5, 3) := by decide +kernel
theorem dX11_corners_188 : decode cX11_corners 188 = .ok (.bipush (-2), 2) := by decide +kernel
theorem dX11_corners_190 : decode cX11_corners 190 = .ok (.ireturn, 1) := by decide +kernel
theorem gX11_jog_X11_isKey : GoodIn wsX11_jog (wsV RX11 153 RX11 yX11_isKey wsX11_isKey) := gw_c t_w585 (gw_c t_w584 (gw_c t_w583 (gw_c t_w510 (gw_c t_w582 (gw_t)))))
theorem gX11_jog_X11_rowOf : GoodIn wsX11_jog (wsV RX11 101 RX11 yX11_rowOf wsX11_rowOf) := gw_c t_w542 (gw_c t_w541 (gw_c t_w540 (gw_c t_w510 (gw_c t_w539 (gw_t)))))
theorem gX11_jog_X11_lastRow : GoodIn wsX11_jog (wsV RX11 94 RX11 yX11_lastRow wsX11_lastRow) := gw_c t_w534 (gw_c t_w533 (gw_c t_w532 (gw_c t_w510 (gw_c t_w531 (gw_t)))))
theorem gX11_jog_X11_in : GoodIn wsX11_jog (va_wsS RX11 72 yX11_in wsX11_in) := gw_c t_w519 (gw_c t_w518 (gw_c t_w510 (gw_c t_w517 (gw_t))))
theorem gX11_jog_X11_many : GoodIn wsX11_jog (wsV RX11 115 RX11 yX11_many wsX11_many) := gw_c t_w554 (gw_c t_w553 (gw_c t_w552 (gw_c t_w510 (gw_c t_w551 (gw_t)))))
theorem dX11_jog_0 : decode cX11_jog 0 = .ok (.aload_n 0, 1) := by decide +kernel
theorem dX11_jog_1 : decode cX11_jog 1 = .ok (.iload_n 1, 1) := by decide +kernel
theorem dX11_jog_2 : decode cX11_jog 2 = .ok (.iload_n 2, 1) := by decide +kernel
theorem dX11_jog_3 : decode cX11_jog 3 = .ok (.invokevirtual 153, 3) := by decide +kernel
theorem dX11_jog_6 : decode cX11_jog 6 = .ok (.ifCond .eq 12, 3) := by decide +kernel
theorem dX11_jog_9 : decode cX11_jog 9 = .ok (.iload_n 3, 1) := by decide +kernel
theorem dX11_jog_10 : decode cX11_jog 10 = .ok (.ifCond .eq 10, 3) := by decide +kernel
theorem dX11_jog_13 : decode cX11_jog 13 = .ok (.iload_n 3, 1) := by decide +kernel
theorem dX11_jog_14 : decode cX11_jog 14 = .ok (.iconst 2, 1) := by decide +kernel
theorem dX11_jog_15 : decode cX11_jog 15 = .ok (.if_icmp .eq 5, 3) := by decide +kernel
theorem dX11_jog_18 : decode cX11_jog 18 = .ok (.iconst (-1), 1) := by decide +kernel
theorem dX11_jog_19 : decode cX11_jog 19 = .ok (.ireturn, 1) := by decide +kernel
theorem dX11_jog_20 : decode cX11_jog 20 = .ok (.aload_n 0, 1) := by decide +kernel
theorem dX11_jog_21 : decode cX11_jog 21 = .ok (.iload_n 1, 1) := by decide +kernel
theorem dX11_jog_22 : decode cX11_jog 22 = .ok (.iload_n 2, 1) := by decide +kernel
theorem dX11_jog_23 : decode cX11_jog 23 = .ok (.invokevirtual 101, 3) := by decide +kernel
theorem dX11_jog_26 : decode cX11_jog 26 = .ok (.istore 4, 2) := by decide +kernel
theorem dX11_jog_28 : decode cX11_jog 28 = .ok (.iload_n 3, 1) := by decide +kernel
theorem dX11_jog_29 : decode cX11_jog 29 = .ok (.ifCond .ne 10, 3) := by decide +kernel
theorem dX11_jog_32 : decode cX11_jog 32 = .ok (.iload 4, 2) := by decide +kernel
theorem dX11_jog_34 : decode cX11_jog 34 = .ok (.iconst 1, 1) := by decide +kernel
theorem dX11_jog_35 : decode cX11_jog 35 = .ok (.isub, 1) := by decide +kernel
theorem dX11_jog_36 : decode cX11_jog 36 = .ok (.goto 7, 3) := by decide +kernel
theorem dX11_jog_39 : decode cX11_jog 39 = .ok (.iload 4, 2) := by decide +kernel
theorem dX11_jog_41 : decode cX11_jog 41 = .ok (.iconst 1, 1) := by decide +kernel
theorem dX11_jog_42 : decode cX11_jog 42 = .ok (.iadd, 1) := by decide +kernel
theorem dX11_jog_43 : decode cX11_jog 43 = .ok (.istore 5, 2) := by decide +kernel
theorem dX11_jog_45 : decode cX11_jog 45 = .ok (.iload 5, 2) := by decide +kernel
theorem dX11_jog_47 : decode cX11_jog 47 = .ok (.i2l, 1) := by decide +kernel
theorem dX11_jog_48 : decode cX11_jog 48 = .ok (.lconst 0, 1) := by decide +kernel
theorem dX11_jog_49 : decode cX11_jog 49 = .ok (.aload_n 0, 1) := by decide +kernel
theorem dX11_jog_50 : decode cX11_jog 50 = .ok (.iload_n 1, 1) := by decide +kernel
theorem dX11_jog_51 : decode cX11_jog 51 = .ok (.invokevirtual 94, 3) := by decide +kernel
theorem dX11_jog_54 : decode cX11_jog 54 = .ok (.i2l, 1) := by decide +kernel
theorem dX11_jog_55 : decode cX11_jog 55 = .ok (.invokestatic 72, 3) := by decide +kernel
theorem dX11_jog_58 : decode cX11_jog 58 = .ok (.ifCond .eq 24, 3) := by decide +kernel
theorem dX11_jog_61 : decode cX11_jog 61 = .ok (.aload_n 0, 1) := by decide +kernel
theorem dX11_jog_62 : decode cX11_jog 62 = .ok (.iload_n 1, 1) := by decide +kernel
theorem dX11_jog_63 : decode cX11_jog 63 = .ok (.iload 5, 2) := by decide +kernel
theorem dX11_jog_65 : decode cX11_jog 65 = .ok (.invokevirtual 115, 3) := by decide +kernel
theorem dX11_jog_68 : decode cX11_jog 68 = .ok (.aload_n 0, 1) := by decide +kernel
theorem dX11_jog_69 : decode cX11_jog 69 = .ok (.iload_n 1, 1) := by decide +kernel
theorem dX11_jog_70 : decode cX11_jog 70 = .ok (.iload 4, 2) := by decide +kernel
theorem dX11_jog_72 : decode cX11_jog 72 = .ok (.invokevirtual 115, 3) := by decide +kernel
theorem dX11_jog_75 : decode cX11_jog 75 = .ok (.if_icmp .eq 7, 3) := by decide +kernel
theorem dX11_jog_78 : decode cX11_jog 78 = .ok (.iconst 1, 1) := by decide +kernel
theorem dX11_jog_79 : decode cX11_jog 79 = .ok (.goto 4, 3) := by decide +kernel
theorem dX11_jog_82 : decode cX11_jog 82 = .ok (.iconst 0, 1) := by decide +kernel
theorem dX11_jog_83 : decode cX11_jog 83 = .ok (.ireturn, 1) := by decide +kernel
theorem gX11_isBox_X11_isPlace : GoodIn wsX11_isBox (va_wsS RX11 133 yX11_isPlace wsX11_isPlace) := gw_c t_w561 (gw_c t_w560 (gw_c t_w510 (gw_c t_w559 (gw_t))))
theorem dX11_isBox_0 : decode cX11_isBox 0 = .ok (.iload_n 1, 1) := by decide +kernel
theorem dX11_isBox_1 : decode cX11_isBox 1 = .ok (.iload_n 3, 1) := by decide +kernel
theorem dX11_isBox_2 : decode cX11_isBox 2 = .ok (.invokestatic 133, 3) := by decide +kernel
theorem dX11_isBox_5 : decode cX11_isBox 5 = .ok (.ifCond .eq 21, 3) := by decide +kernel
theorem dX11_isBox_8 : decode cX11_isBox 8 = .ok (.iload_n 2, 1) := by decide +kernel
theorem dX11_isBox_9 : decode cX11_isBox 9 = .ok (.iload 4, 2) := by decide +kernel
theorem dX11_isBox_11 : decode cX11_isBox 11 = .ok (.invokestatic 133, 3) := by decide +kernel
theorem dX11_isBox_14 : decode cX11_isBox 14 = .ok (.ifCond .eq 12, 3) := by decide +kernel
theorem dX11_isBox_17 : decode cX11_isBox 17 = .ok (.iload_n 1, 1) := by decide +kernel
theorem dX11_isBox_18 : decode cX11_isBox 18 = .ok (.iload_n 2, 1) := by decide +kernel
theorem dX11_isBox_19 : decode cX11_isBox 19 = .ok (.if_icmp .gt 7, 3) := by decide +kernel
theorem dX11_isBox_22 : decode cX11_isBox 22 = .ok (.iconst 1, 1) := by decide +kernel
theorem dX11_isBox_23 : decode cX11_isBox 23 = .ok (.goto 4, 3) := by decide +kernel
theorem dX11_isBox_26 : decode cX11_isBox 26 = .ok (.iconst 0, 1) := by decide +kernel
theorem dX11_isBox_27 : decode cX11_isBox 27 = .ok (.ireturn, 1) := by decide +kernel
theorem gX11_laysBox_X11_rowAt : GoodIn wsX11_laysBox (wsV RX11 112 RX11 yX11_rowAt wsX11_rowAt) := gw_c t_w550 (gw_c t_w549 (gw_c t_w548 (gw_c t_w510 (gw_c t_w547 (gw_t)))))
theorem dX11_laysBox_0 : decode cX11_laysBox 0 = .ok (.aload_n 0, 1) := by decide +kernel
theorem dX11_laysBox_1 : decode cX11_laysBox 1 = .ok (.iload 5, 2) := by decide +kernel
theorem dX11_laysBox_3 : decode cX11_laysBox 3 = .ok (.putfield 298, 3) := by decide +kernel
theorem dX11_laysBox_6 : decode cX11_laysBox 6 = .ok (.aload_n 0, 1) := by decide +kernel
theorem dX11_laysBox_7 : decode cX11_laysBox 7 = .ok (.aload_n 0, 1) := by decide +kernel
theorem dX11_laysBox_8 : decode cX11_laysBox 8 = .ok (.iload_n 2, 1) := by decide +kernel
theorem dX11_laysBox_9 : decode cX11_laysBox 9 = .ok (.iload 5, 2) := by decide +kernel
theorem dX11_laysBox_11 : decode cX11_laysBox 11 = .ok (.invokevirtual 112, 3) := by decide +kernel
theorem dX11_laysBox_14 : decode cX11_laysBox 14 = .ok (.putfield 301, 3) := by decide +kernel
theorem dX11_laysBox_17 : decode cX11_laysBox 17 = .ok (.aload_n 0, 1) := by decide +kernel
theorem dX11_laysBox_18 : decode cX11_laysBox 18 = .ok (.aload_n 0, 1) := by decide +kernel
theorem dX11_laysBox_19 : decode cX11_laysBox 19 = .ok (.iload_n 1, 1) := by decide +kernel
theorem dX11_laysBox_20 : decode cX11_laysBox 20 = .ok (.iload 5, 2) := by decide +kernel
theorem dX11_laysBox_22 : decode cX11_laysBox 22 = .ok (.invokevirtual 112, 3) := by decide +kernel
theorem dX11_laysBox_25 : decode cX11_laysBox 25 = .ok (.putfield 304, 3) := by decide +kernel
theorem dX11_laysBox_28 : decode cX11_laysBox 28 = .ok (.aload_n 0, 1) := by decide +kernel
theorem dX11_laysBox_29 : decode cX11_laysBox 29 = .ok (.iload_n 3, 1) := by decide +kernel
theorem dX11_laysBox_30 : decode cX11_laysBox 30 = .ok (.putfield 307, 3) := by decide +kernel
theorem dX11_laysBox_33 : decode cX11_laysBox 33 = .ok (.aload_n 0, 1) := by decide +kernel
theorem dX11_laysBox_34 : decode cX11_laysBox 34 = .ok (.iload 4, 2) := by decide +kernel
theorem dX11_laysBox_36 : decode cX11_laysBox 36 = .ok (.putfield 310, 3) := by decide +kernel
theorem dX11_laysBox_39 : decode cX11_laysBox 39 = .ok (.return_, 1) := by decide +kernel
theorem gX11_westOf_X11_many : GoodIn wsX11_westOf (wsV RX11 115 RX11 yX11_many wsX11_many) := gw_c t_w554 (gw_c t_w553 (gw_c t_w552 (gw_c t_w510 (gw_c t_w551 (gw_t)))))
theorem gX11_westOf_X11_placeAt : GoodIn wsX11_westOf (wsV RX11 118 RX11 yX11_placeAt wsX11_placeAt) := gw_c t_w558 (gw_c t_w557 (gw_c t_w556 (gw_c t_w510 (gw_c t_w555 (gw_t)))))
theorem dX11_westOf_0 : decode cX11_westOf 0 = .ok (.aload_n 0, 1) := by decide +kernel
theorem dX11_westOf_1 : decode cX11_westOf 1 = .ok (.aload_n 0, 1) := by decide +kernel
theorem dX11_westOf_2 : decode cX11_westOf 2 = .ok (.getfield 307, 3) := by decide +kernel
theorem dX11_westOf_5 : decode cX11_westOf 5 = .ok (.aload_n 0, 1) := by decide +kernel
theorem dX11_westOf_6 : decode cX11_westOf 6 = .ok (.aload_n 0, 1) := by decide +kernel
theorem dX11_westOf_7 : decode cX11_westOf 7 = .ok (.getfield 298, 3) := by decide +kernel
theorem dX11_westOf_10 : decode cX11_westOf 10 = .ok (.iload_n 1, 1) := by decide +kernel
theorem dX11_westOf_11 : decode cX11_westOf 11 = .ok (.invokevirtual 115, 3) := by decide +kernel
theorem dX11_westOf_14 : decode cX11_westOf 14 = .ok (.invokevirtual 118, 3) := by decide +kernel
theorem dX11_westOf_17 : decode cX11_westOf 17 = .ok (.ireturn, 1) := by decide +kernel
theorem gX11_boxMany_X11_many : GoodIn wsX11_boxMany (wsV RX11 115 RX11 yX11_many wsX11_many) := gw_c t_w554 (gw_c t_w553 (gw_c t_w552 (gw_c t_w510 (gw_c t_w551 (gw_t)))))
theorem gX11_boxMany_X11_placeAt : GoodIn wsX11_boxMany (wsV RX11 118 RX11 yX11_placeAt wsX11_placeAt) := gw_c t_w558 (gw_c t_w557 (gw_c t_w556 (gw_c t_w510 (gw_c t_w555 (gw_t)))))
theorem dX11_boxMany_0 : decode cX11_boxMany 0 = .ok (.aload_n 0, 1) := by decide +kernel
theorem dX11_boxMany_1 : decode cX11_boxMany 1 = .ok (.aload_n 0, 1) := by decide +kernel
theorem dX11_boxMany_2 : decode cX11_boxMany 2 = .ok (.getfield 298, 3) := by decide +kernel
theorem dX11_boxMany_5 : decode cX11_boxMany 5 = .ok (.iload_n 1, 1) := by decide +kernel
theorem dX11_boxMany_6 : decode cX11_boxMany 6 = .ok (.invokevirtual 115, 3) := by decide +kernel
theorem dX11_boxMany_9 : decode cX11_boxMany 9 = .ok (.istore_n 2, 1) := by decide +kernel
theorem dX11_boxMany_10 : decode cX11_boxMany 10 = .ok (.aload_n 0, 1) := by decide +kernel
theorem dX11_boxMany_11 : decode cX11_boxMany 11 = .ok (.aload_n 0, 1) := by decide +kernel
theorem dX11_boxMany_12 : decode cX11_boxMany 12 = .ok (.getfield 307, 3) := by decide +kernel
theorem dX11_boxMany_15 : decode cX11_boxMany 15 = .ok (.iload_n 2, 1) := by decide +kernel
theorem dX11_boxMany_16 : decode cX11_boxMany 16 = .ok (.invokevirtual 118, 3) := by decide +kernel
theorem dX11_boxMany_19 : decode cX11_boxMany 19 = .ok (.istore_n 3, 1) := by decide +kernel
theorem dX11_boxMany_20 : decode cX11_boxMany 20 = .ok (.aload_n 0, 1) := by decide +kernel
theorem dX11_boxMany_21 : decode cX11_boxMany 21 = .ok (.aload_n 0, 1) := by decide +kernel
theorem dX11_boxMany_22 : decode cX11_boxMany 22 = .ok (.getfield 310, 3) := by decide +kernel
theorem dX11_boxMany_25 : decode cX11_boxMany 25 = .ok (.iload_n 2, 1) := by decide +kernel
theorem dX11_boxMany_26 : decode cX11_boxMany 26 = .ok (.invokevirtual 118, 3) := by decide +kernel
theorem dX11_boxMany_29 : decode cX11_boxMany 29 = .ok (.istore 4, 2) := by decide +kernel
theorem dX11_boxMany_31 : decode cX11_boxMany 31 = .ok (.aload_n 0, 1) := by decide +kernel
theorem dX11_boxMany_32 : decode cX11_boxMany 32 = .ok (.getfield 307, 3) := by decide +kernel
theorem dX11_boxMany_35 : decode cX11_boxMany 35 = .ok (.aload_n 0, 1) := by decide +kernel
theorem dX11_boxMany_36 : decode cX11_boxMany 36 = .ok (.getfield 310, 3) := by decide +kernel
theorem dX11_boxMany_39 : decode cX11_boxMany 39 = .ok (.if_icmp .gt 10, 3) := by decide +kernel
theorem dX11_boxMany_42 : decode cX11_boxMany 42 = .ok (.iload 4, 2) := by decide +kernel
theorem dX11_boxMany_44 : decode cX11_boxMany 44 = .ok (.iload_n 3, 1) := by decide +kernel
theorem dX11_boxMany_45 : decode cX11_boxMany 45 = .ok (.isub, 1) := by decide +kernel
theorem dX11_boxMany_46 : decode cX11_boxMany 46 = .ok (.iconst 1, 1) := by decide +kernel
theorem dX11_boxMany_47 : decode cX11_boxMany 47 = .ok (.iadd, 1) := by decide +kernel
theorem dX11_boxMany_48 : decode cX11_boxMany 48 = .ok (.ireturn, 1) := by decide +kernel
theorem dX11_boxMany_49 : decode cX11_boxMany 49 = .ok (.iload 4, 2) := by decide +kernel
theorem dX11_boxMany_51 : decode cX11_boxMany 51 = .ok (.iload_n 3, 1) := by decide +kernel
theorem dX11_boxMany_52 : decode cX11_boxMany 52 = .ok (.if_icmp .lt 7, 3) := by decide +kernel
theorem dX11_boxMany_55 : decode cX11_boxMany 55 = .ok (.iload_n 2, 1) := by decide +kernel
theorem dX11_boxMany_56 : decode cX11_boxMany 56 = .ok (.goto 11, 3) := by decide +kernel
theorem dX11_boxMany_59 : decode cX11_boxMany 59 = .ok (.iload_n 2, 1) := by decide +kernel
theorem dX11_boxMany_60 : decode cX11_boxMany 60 = .ok (.iload_n 3, 1) := by decide +kernel
theorem dX11_boxMany_61 : decode cX11_boxMany 61 = .ok (.isub, 1) := by decide +kernel
theorem dX11_boxMany_62 : decode cX11_boxMany 62 = .ok (.iload 4, 2) := by decide +kernel
theorem dX11_boxMany_64 : decode cX11_boxMany 64 = .ok (.iadd, 1) := by decide +kernel
theorem dX11_boxMany_65 : decode cX11_boxMany 65 = .ok (.iconst 1, 1) := by decide +kernel
theorem dX11_boxMany_66 : decode cX11_boxMany 66 = .ok (.iadd, 1) := by decide +kernel
theorem dX11_boxMany_67 : decode cX11_boxMany 67 = .ok (.ireturn, 1) := by decide +kernel
theorem gX11_boxAll_X11_lastRow : GoodIn wsX11_boxAll (wsV RX11 94 RX11 yX11_lastRow wsX11_lastRow) := gw_c t_w534 (gw_c t_w533 (gw_c t_w532 (gw_c t_w510 (gw_c t_w531 (gw_t)))))
theorem gX11_boxAll_X11_bandOf : GoodIn wsX11_boxAll (wsV RX11 97 RX11 yX11_bandOf wsX11_bandOf) := gw_c t_w538 (gw_c t_w537 (gw_c t_w536 (gw_c t_w510 (gw_c t_w535 (gw_t)))))
theorem gX11_boxAll_X11_boxMany : GoodIn wsX11_boxAll (wsV RX11 313 RX11 yX11_boxMany wsX11_boxMany) := gw_c t_w674 (gw_c t_w673 (gw_c t_w672 (gw_c t_w510 (gw_c t_w671 (gw_t)))))
theorem dX11_boxAll_0 : decode cX11_boxAll 0 = .ok (.iconst 0, 1) := by decide +kernel
