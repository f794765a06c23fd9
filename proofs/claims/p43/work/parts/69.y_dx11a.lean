theorem dX11_init_0 : decode cX11_init 0 = .ok (.aload_n 0, 1) := by decide +kernel
theorem dX11_init_1 : decode cX11_init 1 = .ok (.invokespecial 1, 3) := by decide +kernel
theorem dX11_init_4 : decode cX11_init 4 = .ok (.aload_n 0, 1) := by decide +kernel
theorem dX11_init_5 : decode cX11_init 5 = .ok (.iconst 5, 1) := by decide +kernel
theorem dX11_init_6 : decode cX11_init 6 = .ok (.newarray .int, 2) := by decide +kernel
theorem dX11_init_8 : decode cX11_init 8 = .ok (.putfield 7, 3) := by decide +kernel
theorem dX11_init_11 : decode cX11_init 11 = .ok (.aload_n 0, 1) := by decide +kernel
theorem dX11_init_12 : decode cX11_init 12 = .ok (.iconst 5, 1) := by decide +kernel
theorem dX11_init_13 : decode cX11_init 13 = .ok (.newarray .int, 2) := by decide +kernel
theorem dX11_init_15 : decode cX11_init 15 = .ok (.putfield 13, 3) := by decide +kernel
theorem dX11_init_18 : decode cX11_init 18 = .ok (.aload_n 0, 1) := by decide +kernel
theorem dX11_init_19 : decode cX11_init 19 = .ok (.iconst 5, 1) := by decide +kernel
theorem dX11_init_20 : decode cX11_init 20 = .ok (.newarray .int, 2) := by decide +kernel
theorem dX11_init_22 : decode cX11_init 22 = .ok (.putfield 16, 3) := by decide +kernel
theorem dX11_init_25 : decode cX11_init 25 = .ok (.aload_n 0, 1) := by decide +kernel
theorem dX11_init_26 : decode cX11_init 26 = .ok (.iconst 5, 1) := by decide +kernel
theorem dX11_init_27 : decode cX11_init 27 = .ok (.newarray .int, 2) := by decide +kernel
theorem dX11_init_29 : decode cX11_init 29 = .ok (.putfield 19, 3) := by decide +kernel
theorem dX11_init_32 : decode cX11_init 32 = .ok (.aload_n 0, 1) := by decide +kernel
theorem dX11_init_33 : decode cX11_init 33 = .ok (.bipush 45, 2) := by decide +kernel
theorem dX11_init_35 : decode cX11_init 35 = .ok (.newarray .int, 2) := by decide +kernel
theorem dX11_init_37 : decode cX11_init 37 = .ok (.putfield 22, 3) := by decide +kernel
theorem dX11_init_40 : decode cX11_init 40 = .ok (.aload_n 0, 1) := by decide +kernel
theorem dX11_init_41 : decode cX11_init 41 = .ok (.bipush 20, 2) := by decide +kernel
theorem dX11_init_43 : decode cX11_init 43 = .ok (.newarray .int, 2) := by decide +kernel
theorem dX11_init_45 : decode cX11_init 45 = .ok (.putfield 25, 3) := by decide +kernel
theorem dX11_init_48 : decode cX11_init 48 = .ok (.aload_n 0, 1) := by decide +kernel
theorem dX11_init_49 : decode cX11_init 49 = .ok (.bipush 20, 2) := by decide +kernel
theorem dX11_init_51 : decode cX11_init 51 = .ok (.newarray .int, 2) := by decide +kernel
theorem dX11_init_53 : decode cX11_init 53 = .ok (.putfield 28, 3) := by decide +kernel
theorem dX11_init_56 : decode cX11_init 56 = .ok (.aload_n 0, 1) := by decide +kernel
theorem dX11_init_57 : decode cX11_init 57 = .ok (.sipush 200, 3) := by decide +kernel
theorem dX11_init_60 : decode cX11_init 60 = .ok (.newarray .byte, 2) := by decide +kernel
theorem dX11_init_62 : decode cX11_init 62 = .ok (.putfield 31, 3) := by decide +kernel
theorem dX11_init_65 : decode cX11_init 65 = .ok (.aload_n 0, 1) := by decide +kernel
theorem dX11_init_66 : decode cX11_init 66 = .ok (.iconst 4, 1) := by decide +kernel
theorem dX11_init_67 : decode cX11_init 67 = .ok (.newarray .long, 2) := by decide +kernel
theorem dX11_init_69 : decode cX11_init 69 = .ok (.putfield 35, 3) := by decide +kernel
theorem dX11_init_72 : decode cX11_init 72 = .ok (.aload_n 0, 1) := by decide +kernel
theorem dX11_init_73 : decode cX11_init 73 = .ok (.sipush 20000, 3) := by decide +kernel
theorem dX11_init_76 : decode cX11_init 76 = .ok (.newarray .int, 2) := by decide +kernel
theorem dX11_init_78 : decode cX11_init 78 = .ok (.putfield 39, 3) := by decide +kernel
theorem dX11_init_81 : decode cX11_init 81 = .ok (.aload_n 0, 1) := by decide +kernel
theorem dX11_init_82 : decode cX11_init 82 = .ok (.sipush 20000, 3) := by decide +kernel
theorem dX11_init_85 : decode cX11_init 85 = .ok (.newarray .int, 2) := by decide +kernel
theorem dX11_init_87 : decode cX11_init 87 = .ok (.putfield 42, 3) := by decide +kernel
theorem dX11_init_90 : decode cX11_init 90 = .ok (.aload_n 0, 1) := by decide +kernel
theorem dX11_init_91 : decode cX11_init 91 = .ok (.bipush 60, 2) := by decide +kernel
theorem dX11_init_93 : decode cX11_init 93 = .ok (.newarray .int, 2) := by decide +kernel
theorem dX11_init_95 : decode cX11_init 95 = .ok (.putfield 45, 3) := by decide +kernel
theorem dX11_init_98 : decode cX11_init 98 = .ok (.aload_n 0, 1) := by decide +kernel
theorem dX11_init_99 : decode cX11_init 99 = .ok (.bipush 60, 2) := by decide +kernel
theorem dX11_init_101 : decode cX11_init 101 = .ok (.newarray .int, 2) := by decide +kernel
theorem dX11_init_103 : decode cX11_init 103 = .ok (.putfield 48, 3) := by decide +kernel
theorem dX11_init_106 : decode cX11_init 106 = .ok (.aload_n 0, 1) := by decide +kernel
theorem dX11_init_107 : decode cX11_init 107 = .ok (.bipush 60, 2) := by decide +kernel
theorem dX11_init_109 : decode cX11_init 109 = .ok (.newarray .int, 2) := by decide +kernel
theorem dX11_init_111 : decode cX11_init 111 = .ok (.putfield 51, 3) := by decide +kernel
theorem dX11_init_114 : decode cX11_init 114 = .ok (.aload_n 0, 1) := by decide +kernel
theorem dX11_init_115 : decode cX11_init 115 = .ok (.sipush 200, 3) := by decide +kernel
theorem dX11_init_118 : decode cX11_init 118 = .ok (.newarray .int, 2) := by decide +kernel
theorem dX11_init_120 : decode cX11_init 120 = .ok (.putfield 54, 3) := by decide +kernel
theorem dX11_init_123 : decode cX11_init 123 = .ok (.aload_n 0, 1) := by decide +kernel
theorem dX11_init_124 : decode cX11_init 124 = .ok (.sipush 1552, 3) := by decide +kernel
theorem dX11_init_127 : decode cX11_init 127 = .ok (.newarray .int, 2) := by decide +kernel
theorem dX11_init_129 : decode cX11_init 129 = .ok (.putfield 57, 3) := by decide +kernel
theorem dX11_init_132 : decode cX11_init 132 = .ok (.aload_n 0, 1) := by decide +kernel
theorem dX11_init_133 : decode cX11_init 133 = .ok (.bipush 8, 2) := by decide +kernel
theorem dX11_init_135 : decode cX11_init 135 = .ok (.newarray .int, 2) := by decide +kernel
theorem dX11_init_137 : decode cX11_init 137 = .ok (.putfield 60, 3) := by decide +kernel
theorem dX11_init_140 : decode cX11_init 140 = .ok (.iconst 0, 1) := by decide +kernel
theorem dX11_init_141 : decode cX11_init 141 = .ok (.istore_n 1, 1) := by decide +kernel
theorem dX11_init_142 : decode cX11_init 142 = .ok (.iload_n 1, 1) := by decide +kernel
theorem dX11_init_143 : decode cX11_init 143 = .ok (.iconst 5, 1) := by decide +kernel
theorem dX11_init_144 : decode cX11_init 144 = .ok (.if_icmp .ge 39, 3) := by decide +kernel
theorem dX11_init_147 : decode cX11_init 147 = .ok (.aload_n 0, 1) := by decide +kernel
theorem dX11_init_148 : decode cX11_init 148 = .ok (.getfield 7, 3) := by decide +kernel
theorem dX11_init_151 : decode cX11_init 151 = .ok (.iload_n 1, 1) := by decide +kernel
theorem dX11_init_152 : decode cX11_init 152 = .ok (.iload_n 1, 1) := by decide +kernel
theorem dX11_init_153 : decode cX11_init 153 = .ok (.ifCond .ne 7, 3) := by decide +kernel
theorem dX11_init_156 : decode cX11_init 156 = .ok (.iconst 1, 1) := by decide +kernel
theorem dX11_init_157 : decode cX11_init 157 = .ok (.goto 4, 3) := by decide +kernel
theorem dX11_init_160 : decode cX11_init 160 = .ok (.iconst 2, 1) := by decide +kernel
theorem dX11_init_161 : decode cX11_init 161 = .ok (.iastore, 1) := by decide +kernel
theorem dX11_init_162 : decode cX11_init 162 = .ok (.aload_n 0, 1) := by decide +kernel
theorem dX11_init_163 : decode cX11_init 163 = .ok (.getfield 13, 3) := by decide +kernel
theorem dX11_init_166 : decode cX11_init 166 = .ok (.iload_n 1, 1) := by decide +kernel
theorem dX11_init_167 : decode cX11_init 167 = .ok (.iload_n 1, 1) := by decide +kernel
theorem dX11_init_168 : decode cX11_init 168 = .ok (.ifCond .ne 7, 3) := by decide +kernel
theorem dX11_init_171 : decode cX11_init 171 = .ok (.iconst 1, 1) := by decide +kernel
theorem dX11_init_172 : decode cX11_init 172 = .ok (.goto 4, 3) := by decide +kernel
theorem dX11_init_175 : decode cX11_init 175 = .ok (.iconst 2, 1) := by decide +kernel
theorem dX11_init_176 : decode cX11_init 176 = .ok (.iastore, 1) := by decide +kernel
theorem dX11_init_177 : decode cX11_init 177 = .ok (.iinc 1 1, 3) := by decide +kernel
theorem dX11_init_180 : decode cX11_init 180 = .ok (.goto (-38), 3) := by decide +kernel
theorem dX11_init_183 : decode cX11_init 183 = .ok (.iconst 0, 1) := by decide +kernel
theorem dX11_init_184 : decode cX11_init 184 = .ok (.istore_n 1, 1) := by decide +kernel
theorem dX11_init_185 : decode cX11_init 185 = .ok (.iload_n 1, 1) := by decide +kernel
theorem dX11_init_186 : decode cX11_init 186 = .ok (.bipush 44, 2) := by decide +kernel
theorem dX11_init_188 : decode cX11_init 188 = .ok (.if_icmp .ge 28, 3) := by decide +kernel
theorem dX11_init_191 : decode cX11_init 191 = .ok (.aload_n 0, 1) := by decide +kernel
theorem dX11_init_192 : decode cX11_init 192 = .ok (.getfield 22, 3) := by decide +kernel
theorem dX11_init_195 : decode cX11_init 195 = .ok (.iload_n 1, 1) := by decide +kernel
theorem dX11_init_196 : decode cX11_init 196 = .ok (.iconst 1, 1) := by decide +kernel
theorem dX11_init_197 : decode cX11_init 197 = .ok (.iadd, 1) := by decide +kernel
theorem dX11_init_198 : decode cX11_init 198 = .ok (.aload_n 0, 1) := by decide +kernel
theorem dX11_init_199 : decode cX11_init 199 = .ok (.getfield 22, 3) := by decide +kernel
theorem dX11_init_202 : decode cX11_init 202 = .ok (.iload_n 1, 1) := by decide +kernel
theorem dX11_init_203 : decode cX11_init 203 = .ok (.iaload, 1) := by decide +kernel
theorem dX11_init_204 : decode cX11_init 204 = .ok (.iload_n 1, 1) := by decide +kernel
theorem dX11_init_205 : decode cX11_init 205 = .ok (.invokestatic 63, 3) := by decide +kernel
theorem dX11_init_208 : decode cX11_init 208 = .ok (.iadd, 1) := by decide +kernel
theorem dX11_init_209 : decode cX11_init 209 = .ok (.iastore, 1) := by decide +kernel
theorem dX11_init_210 : decode cX11_init 210 = .ok (.iinc 1 1, 3) := by decide +kernel
theorem dX11_init_213 : decode cX11_init 213 = .ok (.goto (-28), 3) := by decide +kernel
theorem dX11_init_216 : decode cX11_init 216 = .ok (.aload_n 0, 1) := by decide +kernel
theorem dX11_init_217 : decode cX11_init 217 = .ok (.invokevirtual 67, 3) := by decide +kernel
theorem dX11_init_220 : decode cX11_init 220 = .ok (.return_, 1) := by decide +kernel
theorem dX11_in_0 : decode cX11_in 0 = .ok (.lload_n 0, 1) := by decide +kernel
theorem dX11_in_1 : decode cX11_in 1 = .ok (.lload_n 2, 1) := by decide +kernel
theorem dX11_in_2 : decode cX11_in 2 = .ok (.lcmp, 1) := by decide +kernel
theorem dX11_in_3 : decode cX11_in 3 = .ok (.ifCond .lt 14, 3) := by decide +kernel
theorem dX11_in_6 : decode cX11_in 6 = .ok (.lload_n 0, 1) := by decide +kernel
theorem dX11_in_7 : decode cX11_in 7 = .ok (.lload 4, 2) := by decide +kernel
theorem dX11_in_9 : decode cX11_in 9 = .ok (.lcmp, 1) := by decide +kernel
theorem dX11_in_10 : decode cX11_in 10 = .ok (.ifCond .gt 7, 3) := by decide +kernel
theorem dX11_in_13 : decode cX11_in 13 = .ok (.iconst 1, 1) := by decide +kernel
theorem dX11_in_14 : decode cX11_in 14 = .ok (.goto 4, 3) := by decide +kernel
theorem dX11_in_17 : decode cX11_in 17 = .ok (.iconst 0, 1) := by decide +kernel
theorem dX11_in_18 : decode cX11_in 18 = .ok (.ireturn, 1) := by decide +kernel
theorem gX11_isLevel_X11_in : GoodIn wsX11_isLevel (va_wsS RX11 72 yX11_in wsX11_in) := gw_c t_w519 (gw_c t_w518 (gw_c t_w510 (gw_c t_w517 (gw_t))))
theorem dX11_isLevel_0 : decode cX11_isLevel 0 = .ok (.iload_n 0, 1) := by decide +kernel
theorem dX11_isLevel_1 : decode cX11_isLevel 1 = .ok (.i2l, 1) := by decide +kernel
theorem dX11_isLevel_2 : decode cX11_isLevel 2 = .ok (.lconst 0, 1) := by decide +kernel
theorem dX11_isLevel_3 : decode cX11_isLevel 3 = .ok (.ldc2_w 70, 3) := by decide +kernel
theorem dX11_isLevel_6 : decode cX11_isLevel 6 = .ok (.invokestatic 72, 3) := by decide +kernel
theorem dX11_isLevel_9 : decode cX11_isLevel 9 = .ok (.ireturn, 1) := by decide +kernel
theorem gX11_isPlace_X11_in : GoodIn wsX11_isPlace (va_wsS RX11 72 yX11_in wsX11_in) := gw_c t_w519 (gw_c t_w518 (gw_c t_w510 (gw_c t_w517 (gw_t))))
theorem dX11_isPlace_0 : decode cX11_isPlace 0 = .ok (.iload_n 0, 1) := by decide +kernel
theorem dX11_isPlace_1 : decode cX11_isPlace 1 = .ok (.i2l, 1) := by decide +kernel
theorem dX11_isPlace_2 : decode cX11_isPlace 2 = .ok (.ldc2_w 76, 3) := by decide +kernel
theorem dX11_isPlace_5 : decode cX11_isPlace 5 = .ok (.ldc2_w 78, 3) := by decide +kernel
theorem dX11_isPlace_8 : decode cX11_isPlace 8 = .ok (.invokestatic 72, 3) := by decide +kernel
theorem dX11_isPlace_11 : decode cX11_isPlace 11 = .ok (.ifCond .eq 19, 3) := by decide +kernel
theorem dX11_isPlace_14 : decode cX11_isPlace 14 = .ok (.iload_n 1, 1) := by decide +kernel
theorem dX11_isPlace_15 : decode cX11_isPlace 15 = .ok (.i2l, 1) := by decide +kernel
theorem dX11_isPlace_16 : decode cX11_isPlace 16 = .ok (.lconst 0, 1) := by decide +kernel
theorem dX11_isPlace_17 : decode cX11_isPlace 17 = .ok (.ldc2_w 80, 3) := by decide +kernel
theorem dX11_isPlace_20 : decode cX11_isPlace 20 = .ok (.invokestatic 72, 3) := by decide +kernel
theorem dX11_isPlace_23 : decode cX11_isPlace 23 = .ok (.ifCond .eq 7, 3) := by decide +kernel
theorem dX11_isPlace_26 : decode cX11_isPlace 26 = .ok (.iconst 1, 1) := by decide +kernel
theorem dX11_isPlace_27 : decode cX11_isPlace 27 = .ok (.goto 4, 3) := by decide +kernel
theorem dX11_isPlace_30 : decode cX11_isPlace 30 = .ok (.iconst 0, 1) := by decide +kernel
theorem dX11_isPlace_31 : decode cX11_isPlace 31 = .ok (.ireturn, 1) := by decide +kernel
theorem gX11_isSide_X11_in : GoodIn wsX11_isSide (va_wsS RX11 72 yX11_in wsX11_in) := gw_c t_w519 (gw_c t_w518 (gw_c t_w510 (gw_c t_w517 (gw_t))))
theorem dX11_isSide_0 : decode cX11_isSide 0 = .ok (.iload_n 0, 1) := by decide +kernel
theorem dX11_isSide_1 : decode cX11_isSide 1 = .ok (.i2l, 1) := by decide +kernel
theorem dX11_isSide_2 : decode cX11_isSide 2 = .ok (.lconst 0, 1) := by decide +kernel
theorem dX11_isSide_3 : decode cX11_isSide 3 = .ok (.ldc2_w 82, 3) := by decide +kernel
theorem dX11_isSide_6 : decode cX11_isSide 6 = .ok (.invokestatic 72, 3) := by decide +kernel
theorem dX11_isSide_9 : decode cX11_isSide 9 = .ok (.ireturn, 1) := by decide +kernel
theorem dX11_down_0 : decode cX11_down 0 = .ok (.lload_n 0, 1) := by decide +kernel
theorem dX11_down_1 : decode cX11_down 1 = .ok (.lconst 0, 1) := by decide +kernel
theorem dX11_down_2 : decode cX11_down 2 = .ok (.lcmp, 1) := by decide +kernel
theorem dX11_down_3 : decode cX11_down 3 = .ok (.ifCond .ge 14, 3) := by decide +kernel
theorem dX11_down_6 : decode cX11_down 6 = .ok (.lload_n 2, 1) := by decide +kernel
theorem dX11_down_7 : decode cX11_down 7 = .ok (.lconst 1, 1) := by decide +kernel
theorem dX11_down_8 : decode cX11_down 8 = .ok (.lsub, 1) := by decide +kernel
theorem dX11_down_9 : decode cX11_down 9 = .ok (.lload_n 0, 1) := by decide +kernel
theorem dX11_down_10 : decode cX11_down 10 = .ok (.lsub, 1) := by decide +kernel
theorem dX11_down_11 : decode cX11_down 11 = .ok (.lload_n 2, 1) := by decide +kernel
theorem dX11_down_12 : decode cX11_down 12 = .ok (.ldiv, 1) := by decide +kernel
theorem dX11_down_13 : decode cX11_down 13 = .ok (.lneg, 1) := by decide +kernel
theorem dX11_down_14 : decode cX11_down 14 = .ok (.goto 6, 3) := by decide +kernel
theorem dX11_down_17 : decode cX11_down 17 = .ok (.lload_n 0, 1) := by decide +kernel
theorem dX11_down_18 : decode cX11_down 18 = .ok (.lload_n 2, 1) := by decide +kernel
theorem dX11_down_19 : decode cX11_down 19 = .ok (.ldiv, 1) := by decide +kernel
theorem dX11_down_20 : decode cX11_down 20 = .ok (.lreturn, 1) := by decide +kernel
theorem dX11_zonesOf_0 : decode cX11_zonesOf 0 = .ok (.iload_n 0, 1) := by decide +kernel
theorem dX11_zonesOf_1 : decode cX11_zonesOf 1 = .ok (.bipush 22, 2) := by decide +kernel
theorem dX11_zonesOf_3 : decode cX11_zonesOf 3 = .ok (.if_icmp .ge 10, 3) := by decide +kernel
theorem dX11_zonesOf_6 : decode cX11_zonesOf 6 = .ok (.bipush 21, 2) := by decide +kernel
theorem dX11_zonesOf_8 : decode cX11_zonesOf 8 = .ok (.iload_n 0, 1) := by decide +kernel
theorem dX11_zonesOf_9 : decode cX11_zonesOf 9 = .ok (.isub, 1) := by decide +kernel
theorem dX11_zonesOf_10 : decode cX11_zonesOf 10 = .ok (.goto 7, 3) := by decide +kernel
theorem dX11_zonesOf_13 : decode cX11_zonesOf 13 = .ok (.iload_n 0, 1) := by decide +kernel
theorem dX11_zonesOf_14 : decode cX11_zonesOf 14 = .ok (.bipush 22, 2) := by decide +kernel
theorem dX11_zonesOf_16 : decode cX11_zonesOf 16 = .ok (.isub, 1) := by decide +kernel
theorem dX11_zonesOf_17 : decode cX11_zonesOf 17 = .ok (.istore_n 1, 1) := by decide +kernel
theorem dX11_zonesOf_18 : decode cX11_zonesOf 18 = .ok (.iload_n 1, 1) := by decide +kernel
theorem dX11_zonesOf_19 : decode cX11_zonesOf 19 = .ok (.bipush 15, 2) := by decide +kernel
theorem dX11_zonesOf_21 : decode cX11_zonesOf 21 = .ok (.if_icmp .ge 8, 3) := by decide +kernel
theorem dX11_zonesOf_24 : decode cX11_zonesOf 24 = .ok (.bipush 60, 2) := by decide +kernel
theorem dX11_zonesOf_26 : decode cX11_zonesOf 26 = .ok (.goto 16, 3) := by decide +kernel
theorem dX11_zonesOf_29 : decode cX11_zonesOf 29 = .ok (.iload_n 1, 1) := by decide +kernel
theorem dX11_zonesOf_30 : decode cX11_zonesOf 30 = .ok (.bipush 19, 2) := by decide +kernel
theorem dX11_zonesOf_32 : decode cX11_zonesOf 32 = .ok (.if_icmp .ge 8, 3) := by decide +kernel
theorem dX11_zonesOf_35 : decode cX11_zonesOf 35 = .ok (.bipush 30, 2) := by decide +kernel
theorem dX11_zonesOf_37 : decode cX11_zonesOf 37 = .ok (.goto 5, 3) := by decide +kernel
theorem dX11_zonesOf_40 : decode cX11_zonesOf 40 = .ok (.bipush 15, 2) := by decide +kernel
theorem dX11_zonesOf_42 : decode cX11_zonesOf 42 = .ok (.ireturn, 1) := by decide +kernel
theorem dX11_laysGrids_0 : decode cX11_laysGrids 0 = .ok (.aload_n 0, 1) := by decide +kernel
theorem dX11_laysGrids_1 : decode cX11_laysGrids 1 = .ok (.getfield 16, 3) := by decide +kernel
theorem dX11_laysGrids_4 : decode cX11_laysGrids 4 = .ok (.iconst 0, 1) := by decide +kernel
theorem dX11_laysGrids_5 : decode cX11_laysGrids 5 = .ok (.iconst 1, 1) := by decide +kernel
theorem dX11_laysGrids_6 : decode cX11_laysGrids 6 = .ok (.iastore, 1) := by decide +kernel
theorem dX11_laysGrids_7 : decode cX11_laysGrids 7 = .ok (.aload_n 0, 1) := by decide +kernel
theorem dX11_laysGrids_8 : decode cX11_laysGrids 8 = .ok (.getfield 19, 3) := by decide +kernel
theorem dX11_laysGrids_11 : decode cX11_laysGrids 11 = .ok (.iconst 0, 1) := by decide +kernel
theorem dX11_laysGrids_12 : decode cX11_laysGrids 12 = .ok (.iconst 1, 1) := by decide +kernel
theorem dX11_laysGrids_13 : decode cX11_laysGrids 13 = .ok (.iastore, 1) := by decide +kernel
theorem dX11_laysGrids_14 : decode cX11_laysGrids 14 = .ok (.iconst 1, 1) := by decide +kernel
theorem dX11_laysGrids_15 : decode cX11_laysGrids 15 = .ok (.istore_n 1, 1) := by decide +kernel
theorem dX11_laysGrids_16 : decode cX11_laysGrids 16 = .ok (.iload_n 1, 1) := by decide +kernel
theorem dX11_laysGrids_17 : decode cX11_laysGrids 17 = .ok (.iconst 5, 1) := by decide +kernel
theorem dX11_laysGrids_18 : decode cX11_laysGrids 18 = .ok (.if_icmp .ge 51, 3) := by decide +kernel
theorem dX11_laysGrids_21 : decode cX11_laysGrids 21 = .ok (.aload_n 0, 1) := by decide +kernel
theorem dX11_laysGrids_22 : decode cX11_laysGrids 22 = .ok (.getfield 16, 3) := by decide +kernel
theorem dX11_laysGrids_25 : decode cX11_laysGrids 25 = .ok (.iload_n 1, 1) := by decide +kernel
theorem dX11_laysGrids_26 : decode cX11_laysGrids 26 = .ok (.aload_n 0, 1) := by decide +kernel
theorem dX11_laysGrids_27 : decode cX11_laysGrids 27 = .ok (.getfield 16, 3) := by decide +kernel
theorem dX11_laysGrids_30 : decode cX11_laysGrids 30 = .ok (.iload_n 1, 1) := by decide +kernel
theorem dX11_laysGrids_31 : decode cX11_laysGrids 31 = .ok (.iconst 1, 1) := by decide +kernel
theorem dX11_laysGrids_32 : decode cX11_laysGrids 32 = .ok (.isub, 1) := by decide +kernel
theorem dX11_laysGrids_33 : decode cX11_laysGrids 33 = .ok (.iaload, 1) := by decide +kernel
theorem dX11_laysGrids_34 : decode cX11_laysGrids 34 = .ok (.aload_n 0, 1) := by decide +kernel
theorem dX11_laysGrids_35 : decode cX11_laysGrids 35 = .ok (.getfield 7, 3) := by decide +kernel
theorem dX11_laysGrids_38 : decode cX11_laysGrids 38 = .ok (.iload_n 1, 1) := by decide +kernel
theorem dX11_laysGrids_39 : decode cX11_laysGrids 39 = .ok (.iaload, 1) := by decide +kernel
theorem dX11_laysGrids_40 : decode cX11_laysGrids 40 = .ok (.imul, 1) := by decide +kernel
theorem dX11_laysGrids_41 : decode cX11_laysGrids 41 = .ok (.iastore, 1) := by decide +kernel
theorem dX11_laysGrids_42 : decode cX11_laysGrids 42 = .ok (.aload_n 0, 1) := by decide +kernel
theorem dX11_laysGrids_43 : decode cX11_laysGrids 43 = .ok (.getfield 19, 3) := by decide +kernel
theorem dX11_laysGrids_46 : decode cX11_laysGrids 46 = .ok (.iload_n 1, 1) := by decide +kernel
theorem dX11_laysGrids_47 : decode cX11_laysGrids 47 = .ok (.aload_n 0, 1) := by decide +kernel
theorem dX11_laysGrids_48 : decode cX11_laysGrids 48 = .ok (.getfield 19, 3) := by decide +kernel
theorem dX11_laysGrids_51 : decode cX11_laysGrids 51 = .ok (.iload_n 1, 1) := by decide +kernel
theorem dX11_laysGrids_52 : decode cX11_laysGrids 52 = .ok (.iconst 1, 1) := by decide +kernel
theorem dX11_laysGrids_53 : decode cX11_laysGrids 53 = .ok (.isub, 1) := by decide +kernel
theorem dX11_laysGrids_54 : decode cX11_laysGrids 54 = .ok (.iaload, 1) := by decide +kernel
theorem dX11_laysGrids_55 : decode cX11_laysGrids 55 = .ok (.aload_n 0, 1) := by decide +kernel
theorem dX11_laysGrids_56 : decode cX11_laysGrids 56 = .ok (.getfield 13, 3) := by decide +kernel
theorem dX11_laysGrids_59 : decode cX11_laysGrids 59 = .ok (.iload_n 1, 1) := by decide +kernel
theorem dX11_laysGrids_60 : decode cX11_laysGrids 60 = .ok (.iaload, 1) := by decide +kernel
theorem dX11_laysGrids_61 : decode cX11_laysGrids 61 = .ok (.imul, 1) := by decide +kernel
theorem dX11_laysGrids_62 : decode cX11_laysGrids 62 = .ok (.iastore, 1) := by decide +kernel
theorem dX11_laysGrids_63 : decode cX11_laysGrids 63 = .ok (.iinc 1 1, 3) := by decide +kernel
theorem dX11_laysGrids_66 : decode cX11_laysGrids 66 = .ok (.goto (-50), 3) := by decide +kernel
theorem dX11_laysGrids_69 : decode cX11_laysGrids 69 = .ok (.return_, 1) := by decide +kernel
theorem dX11_sheets_0 : decode cX11_sheets 0 = .ok (.iconst 2, 1) := by decide +kernel
theorem dX11_sheets_1 : decode cX11_sheets 1 = .ok (.aload_n 0, 1) := by decide +kernel
theorem dX11_sheets_2 : decode cX11_sheets 2 = .ok (.getfield 16, 3) := by decide +kernel
theorem dX11_sheets_5 : decode cX11_sheets 5 = .ok (.iload_n 1, 1) := by decide +kernel
theorem dX11_sheets_6 : decode cX11_sheets 6 = .ok (.iaload, 1) := by decide +kernel
theorem dX11_sheets_7 : decode cX11_sheets 7 = .ok (.aload_n 0, 1) := by decide +kernel
theorem dX11_sheets_8 : decode cX11_sheets 8 = .ok (.getfield 19, 3) := by decide +kernel
theorem dX11_sheets_11 : decode cX11_sheets 11 = .ok (.iload_n 1, 1) := by decide +kernel
theorem dX11_sheets_12 : decode cX11_sheets 12 = .ok (.iaload, 1) := by decide +kernel
theorem dX11_sheets_13 : decode cX11_sheets 13 = .ok (.imul, 1) := by decide +kernel
theorem dX11_sheets_14 : decode cX11_sheets 14 = .ok (.aload_n 0, 1) := by decide +kernel
theorem dX11_sheets_15 : decode cX11_sheets 15 = .ok (.getfield 22, 3) := by decide +kernel
theorem dX11_sheets_18 : decode cX11_sheets 18 = .ok (.bipush 44, 2) := by decide +kernel
theorem dX11_sheets_20 : decode cX11_sheets 20 = .ok (.iaload, 1) := by decide +kernel
theorem dX11_sheets_21 : decode cX11_sheets 21 = .ok (.imul, 1) := by decide +kernel
theorem dX11_sheets_22 : decode cX11_sheets 22 = .ok (.iadd, 1) := by decide +kernel
theorem dX11_sheets_23 : decode cX11_sheets 23 = .ok (.ireturn, 1) := by decide +kernel
theorem dX11_rows_0 : decode cX11_rows 0 = .ok (.iconst 2, 1) := by decide +kernel
theorem dX11_rows_1 : decode cX11_rows 1 = .ok (.bipush 44, 2) := by decide +kernel
theorem dX11_rows_3 : decode cX11_rows 3 = .ok (.aload_n 0, 1) := by decide +kernel
theorem dX11_rows_4 : decode cX11_rows 4 = .ok (.getfield 16, 3) := by decide +kernel
theorem dX11_rows_7 : decode cX11_rows 7 = .ok (.iload_n 1, 1) := by decide +kernel
theorem dX11_rows_8 : decode cX11_rows 8 = .ok (.iaload, 1) := by decide +kernel
theorem dX11_rows_9 : decode cX11_rows 9 = .ok (.imul, 1) := by decide +kernel
theorem dX11_rows_10 : decode cX11_rows 10 = .ok (.iadd, 1) := by decide +kernel
theorem dX11_rows_11 : decode cX11_rows 11 = .ok (.ireturn, 1) := by decide +kernel
theorem gX11_isKey_X11_isLevel : GoodIn wsX11_isKey (va_wsS RX11 84 yX11_isLevel wsX11_isLevel) := gw_c t_w522 (gw_c t_w521 (gw_c t_w510 (gw_c t_w520 (gw_t))))
theorem gX11_isKey_X11_sheets : GoodIn wsX11_isKey (wsV RX11 88 RX11 yX11_sheets wsX11_sheets) := gw_c t_w526 (gw_c t_w525 (gw_c t_w524 (gw_c t_w510 (gw_c t_w523 (gw_t)))))
theorem gX11_isKey_X11_in : GoodIn wsX11_isKey (va_wsS RX11 72 yX11_in wsX11_in) := gw_c t_w519 (gw_c t_w518 (gw_c t_w510 (gw_c t_w517 (gw_t))))
theorem dX11_isKey_0 : decode cX11_isKey 0 = .ok (.iload_n 1, 1) := by decide +kernel
theorem dX11_isKey_1 : decode cX11_isKey 1 = .ok (.invokestatic 84, 3) := by decide +kernel
theorem dX11_isKey_4 : decode cX11_isKey 4 = .ok (.ifCond .eq 24, 3) := by decide +kernel
theorem dX11_isKey_7 : decode cX11_isKey 7 = .ok (.iload_n 2, 1) := by decide +kernel
theorem dX11_isKey_8 : decode cX11_isKey 8 = .ok (.i2l, 1) := by decide +kernel
theorem dX11_isKey_9 : decode cX11_isKey 9 = .ok (.lconst 0, 1) := by decide +kernel
theorem dX11_isKey_10 : decode cX11_isKey 10 = .ok (.aload_n 0, 1) := by decide +kernel
theorem dX11_isKey_11 : decode cX11_isKey 11 = .ok (.iload_n 1, 1) := by decide +kernel
theorem dX11_isKey_12 : decode cX11_isKey 12 = .ok (.invokevirtual 88, 3) := by decide +kernel
theorem dX11_isKey_15 : decode cX11_isKey 15 = .ok (.iconst 1, 1) := by decide +kernel
theorem dX11_isKey_16 : decode cX11_isKey 16 = .ok (.isub, 1) := by decide +kernel
theorem dX11_isKey_17 : decode cX11_isKey 17 = .ok (.i2l, 1) := by decide +kernel
theorem dX11_isKey_18 : decode cX11_isKey 18 = .ok (.invokestatic 72, 3) := by decide +kernel
theorem dX11_isKey_21 : decode cX11_isKey 21 = .ok (.ifCond .eq 7, 3) := by decide +kernel
theorem dX11_isKey_24 : decode cX11_isKey 24 = .ok (.iconst 1, 1) := by decide +kernel
theorem dX11_isKey_25 : decode cX11_isKey 25 = .ok (.goto 4, 3) := by decide +kernel
theorem dX11_isKey_28 : decode cX11_isKey 28 = .ok (.iconst 0, 1) := by decide +kernel
theorem dX11_isKey_29 : decode cX11_isKey 29 = .ok (.ireturn, 1) := by decide +kernel
theorem gX11_isCap_X11_sheets : GoodIn wsX11_isCap (wsV RX11 88 RX11 yX11_sheets wsX11_sheets) := gw_c t_w526 (gw_c t_w525 (gw_c t_w524 (gw_c t_w510 (gw_c t_w523 (gw_t)))))
theorem dX11_isCap_0 : decode cX11_isCap 0 = .ok (.iload_n 2, 1) := by decide +kernel
theorem dX11_isCap_1 : decode cX11_isCap 1 = .ok (.ifCond .eq 14, 3) := by decide +kernel
theorem dX11_isCap_4 : decode cX11_isCap 4 = .ok (.iload_n 2, 1) := by decide +kernel
theorem dX11_isCap_5 : decode cX11_isCap 5 = .ok (.aload_n 0, 1) := by decide +kernel
theorem dX11_isCap_6 : decode cX11_isCap 6 = .ok (.iload_n 1, 1) := by decide +kernel
theorem dX11_isCap_7 : decode cX11_isCap 7 = .ok (.invokevirtual 88, 3) := by decide +kernel
theorem dX11_isCap_10 : decode cX11_isCap 10 = .ok (.iconst 1, 1) := by decide +kernel
theorem dX11_isCap_11 : decode cX11_isCap 11 = .ok (.isub, 1) := by decide +kernel
theorem dX11_isCap_12 : decode cX11_isCap 12 = .ok (.if_icmp .ne 7, 3) := by decide +kernel
theorem dX11_isCap_15 : decode cX11_isCap 15 = .ok (.iconst 1, 1) := by decide +kernel
theorem dX11_isCap_16 : decode cX11_isCap 16 = .ok (.goto 4, 3) := by decide +kernel
theorem dX11_isCap_19 : decode cX11_isCap 19 = .ok (.iconst 0, 1) := by decide +kernel
theorem dX11_isCap_20 : decode cX11_isCap 20 = .ok (.ireturn, 1) := by decide +kernel
theorem gX11_lastRow_X11_rows : GoodIn wsX11_lastRow (wsV RX11 91 RX11 yX11_rows wsX11_rows) := gw_c t_w530 (gw_c t_w529 (gw_c t_w528 (gw_c t_w510 (gw_c t_w527 (gw_t)))))
theorem dX11_lastRow_0 : decode cX11_lastRow 0 = .ok (.aload_n 0, 1) := by decide +kernel
theorem dX11_lastRow_1 : decode cX11_lastRow 1 = .ok (.iload_n 1, 1) := by decide +kernel
theorem dX11_lastRow_2 : decode cX11_lastRow 2 = .ok (.invokevirtual 91, 3) := by decide +kernel
theorem dX11_lastRow_5 : decode cX11_lastRow 5 = .ok (.iconst 1, 1) := by decide +kernel
theorem dX11_lastRow_6 : decode cX11_lastRow 6 = .ok (.isub, 1) := by decide +kernel
theorem dX11_lastRow_7 : decode cX11_lastRow 7 = .ok (.ireturn, 1) := by decide +kernel
theorem dX11_bandOf_0 : decode cX11_bandOf 0 = .ok (.iload_n 2, 1) := by decide +kernel
theorem dX11_bandOf_1 : decode cX11_bandOf 1 = .ok (.iconst 1, 1) := by decide +kernel
theorem dX11_bandOf_2 : decode cX11_bandOf 2 = .ok (.isub, 1) := by decide +kernel
theorem dX11_bandOf_3 : decode cX11_bandOf 3 = .ok (.aload_n 0, 1) := by decide +kernel
theorem dX11_bandOf_4 : decode cX11_bandOf 4 = .ok (.getfield 16, 3) := by decide +kernel
theorem dX11_bandOf_7 : decode cX11_bandOf 7 = .ok (.iload_n 1, 1) := by decide +kernel
theorem dX11_bandOf_8 : decode cX11_bandOf 8 = .ok (.iaload, 1) := by decide +kernel
theorem dX11_bandOf_9 : decode cX11_bandOf 9 = .ok (.idiv, 1) := by decide +kernel
theorem dX11_bandOf_10 : decode cX11_bandOf 10 = .ok (.ireturn, 1) := by decide +kernel
theorem gX11_many_X11_lastRow : GoodIn wsX11_many (wsV RX11 94 RX11 yX11_lastRow wsX11_lastRow) := gw_c t_w534 (gw_c t_w533 (gw_c t_w532 (gw_c t_w510 (gw_c t_w531 (gw_t)))))
theorem gX11_many_X11_bandOf : GoodIn wsX11_many (wsV RX11 97 RX11 yX11_bandOf wsX11_bandOf) := gw_c t_w538 (gw_c t_w537 (gw_c t_w536 (gw_c t_w510 (gw_c t_w535 (gw_t)))))
theorem gX11_many_X11_zonesOf : GoodIn wsX11_many (va_wsS RX11 63 yX11_zonesOf wsX11_zonesOf) := gw_c t_w512 (gw_c t_w511 (gw_c t_w510 (gw_c t_w509 (gw_t))))
theorem dX11_many_0 : decode cX11_many 0 = .ok (.iload_n 2, 1) := by decide +kernel
theorem dX11_many_1 : decode cX11_many 1 = .ok (.ifCond .eq 12, 3) := by decide +kernel
theorem dX11_many_4 : decode cX11_many 4 = .ok (.iload_n 2, 1) := by decide +kernel
theorem dX11_many_5 : decode cX11_many 5 = .ok (.aload_n 0, 1) := by decide +kernel
theorem dX11_many_6 : decode cX11_many 6 = .ok (.iload_n 1, 1) := by decide +kernel
theorem dX11_many_7 : decode cX11_many 7 = .ok (.invokevirtual 94, 3) := by decide +kernel
theorem dX11_many_10 : decode cX11_many 10 = .ok (.if_icmp .ne 7, 3) := by decide +kernel
theorem dX11_many_13 : decode cX11_many 13 = .ok (.iconst 1, 1) := by decide +kernel
theorem dX11_many_14 : decode cX11_many 14 = .ok (.goto 19, 3) := by decide +kernel
theorem dX11_many_17 : decode cX11_many 17 = .ok (.aload_n 0, 1) := by decide +kernel
theorem dX11_many_18 : decode cX11_many 18 = .ok (.iload_n 1, 1) := by decide +kernel
theorem dX11_many_19 : decode cX11_many 19 = .ok (.iload_n 2, 1) := by decide +kernel
theorem dX11_many_20 : decode cX11_many 20 = .ok (.invokevirtual 97, 3) := by decide +kernel
theorem dX11_many_23 : decode cX11_many 23 = .ok (.invokestatic 63, 3) := by decide +kernel
theorem dX11_many_26 : decode cX11_many 26 = .ok (.aload_n 0, 1) := by decide +kernel
theorem dX11_many_27 : decode cX11_many 27 = .ok (.getfield 19, 3) := by decide +kernel
theorem dX11_many_30 : decode cX11_many 30 = .ok (.iload_n 1, 1) := by decide +kernel
theorem dX11_many_31 : decode cX11_many 31 = .ok (.iaload, 1) := by decide +kernel
theorem dX11_many_32 : decode cX11_many 32 = .ok (.imul, 1) := by decide +kernel
theorem dX11_many_33 : decode cX11_many 33 = .ok (.ireturn, 1) := by decide +kernel
theorem gX11_keyOf_X11_lastRow : GoodIn wsX11_keyOf (wsV RX11 94 RX11 yX11_lastRow wsX11_lastRow) := gw_c t_w534 (gw_c t_w533 (gw_c t_w532 (gw_c t_w510 (gw_c t_w531 (gw_t)))))
theorem gX11_keyOf_X11_sheets : GoodIn wsX11_keyOf (wsV RX11 88 RX11 yX11_sheets wsX11_sheets) := gw_c t_w526 (gw_c t_w525 (gw_c t_w524 (gw_c t_w510 (gw_c t_w523 (gw_t)))))
theorem gX11_keyOf_X11_bandOf : GoodIn wsX11_keyOf (wsV RX11 97 RX11 yX11_bandOf wsX11_bandOf) := gw_c t_w538 (gw_c t_w537 (gw_c t_w536 (gw_c t_w510 (gw_c t_w535 (gw_t)))))
theorem gX11_keyOf_X11_zonesOf : GoodIn wsX11_keyOf (va_wsS RX11 63 yX11_zonesOf wsX11_zonesOf) := gw_c t_w512 (gw_c t_w511 (gw_c t_w510 (gw_c t_w509 (gw_t))))
theorem dX11_keyOf_0 : decode cX11_keyOf 0 = .ok (.iload_n 2, 1) := by decide +kernel
theorem dX11_keyOf_1 : decode cX11_keyOf 1 = .ok (.ifCond .ne 5, 3) := by decide +kernel
theorem dX11_keyOf_4 : decode cX11_keyOf 4 = .ok (.iconst 0, 1) := by decide +kernel
theorem dX11_keyOf_5 : decode cX11_keyOf 5 = .ok (.ireturn, 1) := by decide +kernel
theorem dX11_keyOf_6 : decode cX11_keyOf 6 = .ok (.iload_n 2, 1) := by decide +kernel
theorem dX11_keyOf_7 : decode cX11_keyOf 7 = .ok (.aload_n 0, 1) := by decide +kernel
theorem dX11_keyOf_8 : decode cX11_keyOf 8 = .ok (.iload_n 1, 1) := by decide +kernel
theorem dX11_keyOf_9 : decode cX11_keyOf 9 = .ok (.invokevirtual 94, 3) := by decide +kernel
theorem dX11_keyOf_12 : decode cX11_keyOf 12 = .ok (.if_icmp .ne 11, 3) := by decide +kernel
theorem dX11_keyOf_15 : decode cX11_keyOf 15 = .ok (.aload_n 0, 1) := by decide +kernel
theorem dX11_keyOf_16 : decode cX11_keyOf 16 = .ok (.iload_n 1, 1) := by decide +kernel
theorem dX11_keyOf_17 : decode cX11_keyOf 17 = .ok (.invokevirtual 88, 3) := by decide +kernel
theorem dX11_keyOf_20 : decode cX11_keyOf 20 = .ok (.iconst 1, 1) := by decide +kernel
theorem dX11_keyOf_21 : decode cX11_keyOf 21 = .ok (.isub, 1) := by decide +kernel
theorem dX11_keyOf_22 : decode cX11_keyOf 22 = .ok (.ireturn, 1) := by decide +kernel
theorem dX11_keyOf_23 : decode cX11_keyOf 23 = .ok (.aload_n 0, 1) := by decide +kernel
theorem dX11_keyOf_24 : decode cX11_keyOf 24 = .ok (.iload_n 1, 1) := by decide +kernel
theorem dX11_keyOf_25 : decode cX11_keyOf 25 = .ok (.iload_n 2, 1) := by decide +kernel
theorem dX11_keyOf_26 : decode cX11_keyOf 26 = .ok (.invokevirtual 97, 3) := by decide +kernel
theorem dX11_keyOf_29 : decode cX11_keyOf 29 = .ok (.istore 4, 2) := by decide +kernel
theorem dX11_keyOf_31 : decode cX11_keyOf 31 = .ok (.iconst 1, 1) := by decide +kernel
theorem dX11_keyOf_32 : decode cX11_keyOf 32 = .ok (.aload_n 0, 1) := by decide +kernel
theorem dX11_keyOf_33 : decode cX11_keyOf 33 = .ok (.getfield 19, 3) := by decide +kernel
theorem dX11_keyOf_36 : decode cX11_keyOf 36 = .ok (.iload_n 1, 1) := by decide +kernel
theorem dX11_keyOf_37 : decode cX11_keyOf 37 = .ok (.iaload, 1) := by decide +kernel
theorem dX11_keyOf_38 : decode cX11_keyOf 38 = .ok (.aload_n 0, 1) := by decide +kernel
theorem dX11_keyOf_39 : decode cX11_keyOf 39 = .ok (.getfield 16, 3) := by decide +kernel
theorem dX11_keyOf_42 : decode cX11_keyOf 42 = .ok (.iload_n 1, 1) := by decide +kernel
theorem dX11_keyOf_43 : decode cX11_keyOf 43 = .ok (.iaload, 1) := by decide +kernel
theorem dX11_keyOf_44 : decode cX11_keyOf 44 = .ok (.aload_n 0, 1) := by decide +kernel
theorem dX11_keyOf_45 : decode cX11_keyOf 45 = .ok (.getfield 22, 3) := by decide +kernel
theorem dX11_keyOf_48 : decode cX11_keyOf 48 = .ok (.iload 4, 2) := by decide +kernel
theorem dX11_keyOf_50 : decode cX11_keyOf 50 = .ok (.iaload, 1) := by decide +kernel
theorem dX11_keyOf_51 : decode cX11_keyOf 51 = .ok (.imul, 1) := by decide +kernel
theorem dX11_keyOf_52 : decode cX11_keyOf 52 = .ok (.iload 4, 2) := by decide +kernel
theorem dX11_keyOf_54 : decode cX11_keyOf 54 = .ok (.invokestatic 63, 3) := by decide +kernel
theorem dX11_keyOf_57 : decode cX11_keyOf 57 = .ok (.iload_n 2, 1) := by decide +kernel
theorem dX11_keyOf_58 : decode cX11_keyOf 58 = .ok (.iconst 1, 1) := by decide +kernel
theorem dX11_keyOf_59 : decode cX11_keyOf 59 = .ok (.isub, 1) := by decide +kernel
theorem dX11_keyOf_60 : decode cX11_keyOf 60 = .ok (.aload_n 0, 1) := by decide +kernel
theorem dX11_keyOf_61 : decode cX11_keyOf 61 = .ok (.getfield 16, 3) := by decide +kernel
theorem dX11_keyOf_64 : decode cX11_keyOf 64 = .ok (.iload_n 1, 1) := by decide +kernel
theorem dX11_keyOf_65 : decode cX11_keyOf 65 = .ok (.iaload, 1) := by decide +kernel
theorem dX11_keyOf_66 : decode cX11_keyOf 66 = .ok (.irem, 1) := by decide +kernel
theorem dX11_keyOf_67 : decode cX11_keyOf 67 = .ok (.imul, 1) := by decide +kernel
theorem dX11_keyOf_68 : decode cX11_keyOf 68 = .ok (.iadd, 1) := by decide +kernel
theorem dX11_keyOf_69 : decode cX11_keyOf 69 = .ok (.imul, 1) := by decide +kernel
theorem dX11_keyOf_70 : decode cX11_keyOf 70 = .ok (.iadd, 1) := by decide +kernel
theorem dX11_keyOf_71 : decode cX11_keyOf 71 = .ok (.iload_n 3, 1) := by decide +kernel
theorem dX11_keyOf_72 : decode cX11_keyOf 72 = .ok (.iadd, 1) := by decide +kernel
theorem dX11_keyOf_73 : decode cX11_keyOf 73 = .ok (.ireturn, 1) := by decide +kernel
theorem gX11_rowOf_X11_sheets : GoodIn wsX11_rowOf (wsV RX11 88 RX11 yX11_sheets wsX11_sheets) := gw_c t_w526 (gw_c t_w525 (gw_c t_w524 (gw_c t_w510 (gw_c t_w523 (gw_t)))))
theorem gX11_rowOf_X11_lastRow : GoodIn wsX11_rowOf (wsV RX11 94 RX11 yX11_lastRow wsX11_lastRow) := gw_c t_w534 (gw_c t_w533 (gw_c t_w532 (gw_c t_w510 (gw_c t_w531 (gw_t)))))
theorem gX11_rowOf_X11_zonesOf : GoodIn wsX11_rowOf (va_wsS RX11 63 yX11_zonesOf wsX11_zonesOf) := gw_c t_w512 (gw_c t_w511 (gw_c t_w510 (gw_c t_w509 (gw_t))))
theorem dX11_rowOf_0 : decode cX11_rowOf 0 = .ok (.iload_n 2, 1) := by decide +kernel
theorem dX11_rowOf_1 : decode cX11_rowOf 1 = .ok (.ifCond .ne 5, 3) := by decide +kernel
theorem dX11_rowOf_4 : decode cX11_rowOf 4 = .ok (.iconst 0, 1) := by decide +kernel
theorem dX11_rowOf_5 : decode cX11_rowOf 5 = .ok (.ireturn, 1) := by decide +kernel
theorem dX11_rowOf_6 : decode cX11_rowOf 6 = .ok (.iload_n 2, 1) := by decide +kernel
theorem dX11_rowOf_7 : decode cX11_rowOf 7 = .ok (.aload_n 0, 1) := by decide +kernel
theorem dX11_rowOf_8 : decode cX11_rowOf 8 = .ok (.iload_n 1, 1) := by decide +kernel
theorem dX11_rowOf_9 : decode cX11_rowOf 9 = .ok (.invokevirtual 88, 3) := by decide +kernel
theorem dX11_rowOf_12 : decode cX11_rowOf 12 = .ok (.iconst 1, 1) := by decide +kernel
theorem dX11_rowOf_13 : decode cX11_rowOf 13 = .ok (.isub, 1) := by decide +kernel
theorem dX11_rowOf_14 : decode cX11_rowOf 14 = .ok (.if_icmp .ne 9, 3) := by decide +kernel
theorem dX11_rowOf_17 : decode cX11_rowOf 17 = .ok (.aload_n 0, 1) := by decide +kernel
theorem dX11_rowOf_18 : decode cX11_rowOf 18 = .ok (.iload_n 1, 1) := by decide +kernel
theorem dX11_rowOf_19 : decode cX11_rowOf 19 = .ok (.invokevirtual 94, 3) := by decide +kernel
theorem dX11_rowOf_22 : decode cX11_rowOf 22 = .ok (.ireturn, 1) := by decide +kernel
theorem dX11_rowOf_23 : decode cX11_rowOf 23 = .ok (.iconst 0, 1) := by decide +kernel
theorem dX11_rowOf_24 : decode cX11_rowOf 24 = .ok (.istore_n 3, 1) := by decide +kernel
theorem dX11_rowOf_25 : decode cX11_rowOf 25 = .ok (.aload_n 0, 1) := by decide +kernel
theorem dX11_rowOf_26 : decode cX11_rowOf 26 = .ok (.getfield 16, 3) := by decide +kernel
theorem dX11_rowOf_29 : decode cX11_rowOf 29 = .ok (.iload_n 1, 1) := by decide +kernel
theorem dX11_rowOf_30 : decode cX11_rowOf 30 = .ok (.iaload, 1) := by decide +kernel
theorem dX11_rowOf_31 : decode cX11_rowOf 31 = .ok (.aload_n 0, 1) := by decide +kernel
theorem dX11_rowOf_32 : decode cX11_rowOf 32 = .ok (.getfield 19, 3) := by decide +kernel
theorem dX11_rowOf_35 : decode cX11_rowOf 35 = .ok (.iload_n 1, 1) := by decide +kernel
theorem dX11_rowOf_36 : decode cX11_rowOf 36 = .ok (.iaload, 1) := by decide +kernel
theorem dX11_rowOf_37 : decode cX11_rowOf 37 = .ok (.imul, 1) := by decide +kernel
theorem dX11_rowOf_38 : decode cX11_rowOf 38 = .ok (.istore 4, 2) := by decide +kernel
theorem dX11_rowOf_40 : decode cX11_rowOf 40 = .ok (.iload_n 2, 1) := by decide +kernel
theorem dX11_rowOf_41 : decode cX11_rowOf 41 = .ok (.iconst 1, 1) := by decide +kernel
theorem dX11_rowOf_42 : decode cX11_rowOf 42 = .ok (.isub, 1) := by decide +kernel
theorem dX11_rowOf_43 : decode cX11_rowOf 43 = .ok (.iload 4, 2) := by decide +kernel
theorem dX11_rowOf_45 : decode cX11_rowOf 45 = .ok (.aload_n 0, 1) := by decide +kernel
theorem dX11_rowOf_46 : decode cX11_rowOf 46 = .ok (.getfield 22, 3) := by decide +kernel
theorem dX11_rowOf_49 : decode cX11_rowOf 49 = .ok (.iload_n 3, 1) := by decide +kernel
theorem dX11_rowOf_50 : decode cX11_rowOf 50 = .ok (.iconst 1, 1) := by decide +kernel
theorem dX11_rowOf_51 : decode cX11_rowOf 51 = .ok (.iadd, 1) := by decide +kernel
theorem dX11_rowOf_52 : decode cX11_rowOf 52 = .ok (.iaload, 1) := by decide +kernel
theorem dX11_rowOf_53 : decode cX11_rowOf 53 = .ok (.imul, 1) := by decide +kernel
theorem dX11_rowOf_54 : decode cX11_rowOf 54 = .ok (.if_icmp .lt 10, 3) := by decide +kernel
theorem dX11_rowOf_57 : decode cX11_rowOf 57 = .ok (.iload_n 3, 1) := by decide +kernel
theorem dX11_rowOf_58 : decode cX11_rowOf 58 = .ok (.iconst 1, 1) := by decide +kernel
theorem dX11_rowOf_59 : decode cX11_rowOf 59 = .ok (.iadd, 1) := by decide +kernel
theorem dX11_rowOf_60 : decode cX11_rowOf 60 = .ok (.istore_n 3, 1) := by decide +kernel
theorem dX11_rowOf_61 : decode cX11_rowOf 61 = .ok (.goto (-21), 3) := by decide +kernel
theorem dX11_rowOf_64 : decode cX11_rowOf 64 = .ok (.iconst 1, 1) := by decide +kernel
theorem dX11_rowOf_65 : decode cX11_rowOf 65 = .ok (.iload_n 3, 1) := by decide +kernel
theorem dX11_rowOf_66 : decode cX11_rowOf 66 = .ok (.aload_n 0, 1) := by decide +kernel
theorem dX11_rowOf_67 : decode cX11_rowOf 67 = .ok (.getfield 16, 3) := by decide +kernel
theorem dX11_rowOf_70 : decode cX11_rowOf 70 = .ok (.iload_n 1, 1) := by decide +kernel
theorem dX11_rowOf_71 : decode cX11_rowOf 71 = .ok (.iaload, 1) := by decide +kernel
theorem dX11_rowOf_72 : decode cX11_rowOf 72 = .ok (.imul, 1) := by decide +kernel
theorem dX11_rowOf_73 : decode cX11_rowOf 73 = .ok (.iadd, 1) := by decide +kernel
theorem dX11_rowOf_74 : decode cX11_rowOf 74 = .ok (.iload_n 2, 1) := by decide +kernel
theorem dX11_rowOf_75 : decode cX11_rowOf 75 = .ok (.iconst 1, 1) := by decide +kernel
theorem dX11_rowOf_76 : decode cX11_rowOf 76 = .ok (.isub, 1) := by decide +kernel
theorem dX11_rowOf_77 : decode cX11_rowOf 77 = .ok (.iload 4, 2) := by decide +kernel
theorem dX11_rowOf_79 : decode cX11_rowOf 79 = .ok (.aload_n 0, 1) := by decide +kernel
theorem dX11_rowOf_80 : decode cX11_rowOf 80 = .ok (.getfield 22, 3) := by decide +kernel
theorem dX11_rowOf_83 : decode cX11_rowOf 83 = .ok (.iload_n 3, 1) := by decide +kernel
theorem dX11_rowOf_84 : decode cX11_rowOf 84 = .ok (.iaload, 1) := by decide +kernel
theorem dX11_rowOf_85 : decode cX11_rowOf 85 = .ok (.imul, 1) := by decide +kernel
theorem dX11_rowOf_86 : decode cX11_rowOf 86 = .ok (.isub, 1) := by decide +kernel
theorem dX11_rowOf_87 : decode cX11_rowOf 87 = .ok (.iload_n 3, 1) := by decide +kernel
theorem dX11_rowOf_88 : decode cX11_rowOf 88 = .ok (.invokestatic 63, 3) := by decide +kernel
theorem dX11_rowOf_91 : decode cX11_rowOf 91 = .ok (.aload_n 0, 1) := by decide +kernel
theorem dX11_rowOf_92 : decode cX11_rowOf 92 = .ok (.getfield 19, 3) := by decide +kernel
theorem dX11_rowOf_95 : decode cX11_rowOf 95 = .ok (.iload_n 1, 1) := by decide +kernel
theorem dX11_rowOf_96 : decode cX11_rowOf 96 = .ok (.iaload, 1) := by decide +kernel
theorem dX11_rowOf_97 : decode cX11_rowOf 97 = .ok (.imul, 1) := by decide +kernel
theorem dX11_rowOf_98 : decode cX11_rowOf 98 = .ok (.idiv, 1) := by decide +kernel
theorem dX11_rowOf_99 : decode cX11_rowOf 99 = .ok (.iadd, 1) := by decide +kernel
theorem dX11_rowOf_100 : decode cX11_rowOf 100 = .ok (.ireturn, 1) := by decide +kernel
theorem gX11_placeOf_X11_rowOf : GoodIn wsX11_placeOf (wsV RX11 101 RX11 yX11_rowOf wsX11_rowOf) := gw_c t_w542 (gw_c t_w541 (gw_c t_w540 (gw_c t_w510 (gw_c t_w539 (gw_t)))))
theorem gX11_placeOf_X11_keyOf : GoodIn wsX11_placeOf (wsV RX11 104 RX11 yX11_keyOf wsX11_keyOf) := gw_c t_w546 (gw_c t_w545 (gw_c t_w544 (gw_c t_w510 (gw_c t_w543 (gw_t)))))
theorem dX11_placeOf_0 : decode cX11_placeOf 0 = .ok (.iload_n 2, 1) := by decide +kernel
theorem dX11_placeOf_1 : decode cX11_placeOf 1 = .ok (.aload_n 0, 1) := by decide +kernel
theorem dX11_placeOf_2 : decode cX11_placeOf 2 = .ok (.iload_n 1, 1) := by decide +kernel
theorem dX11_placeOf_3 : decode cX11_placeOf 3 = .ok (.aload_n 0, 1) := by decide +kernel
theorem dX11_placeOf_4 : decode cX11_placeOf 4 = .ok (.iload_n 1, 1) := by decide +kernel
theorem dX11_placeOf_5 : decode cX11_placeOf 5 = .ok (.iload_n 2, 1) := by decide +kernel
theorem dX11_placeOf_6 : decode cX11_placeOf 6 = .ok (.invokevirtual 101, 3) := by decide +kernel
theorem dX11_placeOf_9 : decode cX11_placeOf 9 = .ok (.iconst 0, 1) := by decide +kernel
theorem dX11_placeOf_10 : decode cX11_placeOf 10 = .ok (.invokevirtual 104, 3) := by decide +kernel
theorem dX11_placeOf_13 : decode cX11_placeOf 13 = .ok (.isub, 1) := by decide +kernel
theorem dX11_placeOf_14 : decode cX11_placeOf 14 = .ok (.ireturn, 1) := by decide +kernel
theorem gX11_rowAt_X11_lastRow : GoodIn wsX11_rowAt (wsV RX11 94 RX11 yX11_lastRow wsX11_lastRow) := gw_c t_w534 (gw_c t_w533 (gw_c t_w532 (gw_c t_w510 (gw_c t_w531 (gw_t)))))
theorem dX11_rowAt_0 : decode cX11_rowAt 0 = .ok (.iload_n 1, 1) := by decide +kernel
theorem dX11_rowAt_1 : decode cX11_rowAt 1 = .ok (.ldc 108, 2) := by decide +kernel
theorem dX11_rowAt_3 : decode cX11_rowAt 3 = .ok (.if_icmp .lt 5, 3) := by decide +kernel
theorem dX11_rowAt_6 : decode cX11_rowAt 6 = .ok (.iconst 0, 1) := by decide +kernel
theorem dX11_rowAt_7 : decode cX11_rowAt 7 = .ok (.ireturn, 1) := by decide +kernel
theorem dX11_rowAt_8 : decode cX11_rowAt 8 = .ok (.iload_n 1, 1) := by decide +kernel
theorem dX11_rowAt_9 : decode cX11_rowAt 9 = .ok (.ldc 109, 2) := by decide +kernel
theorem dX11_rowAt_11 : decode cX11_rowAt 11 = .ok (.if_icmp .ge 9, 3) := by decide +kernel
theorem dX11_rowAt_14 : decode cX11_rowAt 14 = .ok (.aload_n 0, 1) := by decide +kernel
theorem dX11_rowAt_15 : decode cX11_rowAt 15 = .ok (.iload_n 2, 1) := by decide +kernel
theorem dX11_rowAt_16 : decode cX11_rowAt 16 = .ok (.invokevirtual 94, 3) := by decide +kernel
theorem dX11_rowAt_19 : decode cX11_rowAt 19 = .ok (.ireturn, 1) := by decide +kernel
theorem dX11_rowAt_20 : decode cX11_rowAt 20 = .ok (.iload_n 1, 1) := by decide +kernel
theorem dX11_rowAt_21 : decode cX11_rowAt 21 = .ok (.ldc 108, 2) := by decide +kernel
theorem dX11_rowAt_23 : decode cX11_rowAt 23 = .ok (.iadd, 1) := by decide +kernel
theorem dX11_rowAt_24 : decode cX11_rowAt 24 = .ok (.istore_n 3, 1) := by decide +kernel
theorem dX11_rowAt_25 : decode cX11_rowAt 25 = .ok (.bipush 43, 2) := by decide +kernel
theorem dX11_rowAt_27 : decode cX11_rowAt 27 = .ok (.iload_n 3, 1) := by decide +kernel
theorem dX11_rowAt_28 : decode cX11_rowAt 28 = .ok (.sipush 14400, 3) := by decide +kernel
theorem dX11_rowAt_31 : decode cX11_rowAt 31 = .ok (.idiv, 1) := by decide +kernel
theorem dX11_rowAt_32 : decode cX11_rowAt 32 = .ok (.isub, 1) := by decide +kernel
theorem dX11_rowAt_33 : decode cX11_rowAt 33 = .ok (.istore 4, 2) := by decide +kernel
theorem dX11_rowAt_35 : decode cX11_rowAt 35 = .ok (.iconst 1, 1) := by decide +kernel
theorem dX11_rowAt_36 : decode cX11_rowAt 36 = .ok (.iload 4, 2) := by decide +kernel
theorem dX11_rowAt_38 : decode cX11_rowAt 38 = .ok (.aload_n 0, 1) := by decide +kernel
theorem dX11_rowAt_39 : decode cX11_rowAt 39 = .ok (.getfield 16, 3) := by decide +kernel
theorem dX11_rowAt_42 : decode cX11_rowAt 42 = .ok (.iload_n 2, 1) := by decide +kernel
theorem dX11_rowAt_43 : decode cX11_rowAt 43 = .ok (.iaload, 1) := by decide +kernel
theorem dX11_rowAt_44 : decode cX11_rowAt 44 = .ok (.imul, 1) := by decide +kernel
theorem dX11_rowAt_45 : decode cX11_rowAt 45 = .ok (.iadd, 1) := by decide +kernel
theorem dX11_rowAt_46 : decode cX11_rowAt 46 = .ok (.aload_n 0, 1) := by decide +kernel
theorem dX11_rowAt_47 : decode cX11_rowAt 47 = .ok (.getfield 16, 3) := by decide +kernel
theorem dX11_rowAt_50 : decode cX11_rowAt 50 = .ok (.iload_n 2, 1) := by decide +kernel
theorem dX11_rowAt_51 : decode cX11_rowAt 51 = .ok (.iaload, 1) := by decide +kernel
theorem dX11_rowAt_52 : decode cX11_rowAt 52 = .ok (.iadd, 1) := by decide +kernel
theorem dX11_rowAt_53 : decode cX11_rowAt 53 = .ok (.iconst 1, 1) := by decide +kernel
theorem dX11_rowAt_54 : decode cX11_rowAt 54 = .ok (.isub, 1) := by decide +kernel
theorem dX11_rowAt_55 : decode cX11_rowAt 55 = .ok (.iload_n 3, 1) := by decide +kernel
theorem dX11_rowAt_56 : decode cX11_rowAt 56 = .ok (.sipush 14400, 3) := by decide +kernel
theorem dX11_rowAt_59 : decode cX11_rowAt 59 = .ok (.irem, 1) := by decide +kernel
theorem dX11_rowAt_60 : decode cX11_rowAt 60 = .ok (.aload_n 0, 1) := by decide +kernel
theorem dX11_rowAt_61 : decode cX11_rowAt 61 = .ok (.getfield 16, 3) := by decide +kernel
theorem dX11_rowAt_64 : decode cX11_rowAt 64 = .ok (.iload_n 2, 1) := by decide +kernel
theorem dX11_rowAt_65 : decode cX11_rowAt 65 = .ok (.iaload, 1) := by decide +kernel
theorem dX11_rowAt_66 : decode cX11_rowAt 66 = .ok (.imul, 1) := by decide +kernel
theorem dX11_rowAt_67 : decode cX11_rowAt 67 = .ok (.sipush 14400, 3) := by decide +kernel
theorem dX11_rowAt_70 : decode cX11_rowAt 70 = .ok (.idiv, 1) := by decide +kernel
theorem dX11_rowAt_71 : decode cX11_rowAt 71 = .ok (.isub, 1) := by decide +kernel
theorem dX11_rowAt_72 : decode cX11_rowAt 72 = .ok (.ireturn, 1) := by decide +kernel
theorem dX11_placeAt_0 : decode cX11_placeAt 0 = .ok (.iload_n 1, 1) := by decide +kernel
theorem dX11_placeAt_1 : decode cX11_placeAt 1 = .ok (.i2l, 1) := by decide +kernel
theorem dX11_placeAt_2 : decode cX11_placeAt 2 = .ok (.iload_n 2, 1) := by decide +kernel
theorem dX11_placeAt_3 : decode cX11_placeAt 3 = .ok (.i2l, 1) := by decide +kernel
theorem dX11_placeAt_4 : decode cX11_placeAt 4 = .ok (.lmul, 1) := by decide +kernel
theorem dX11_placeAt_5 : decode cX11_placeAt 5 = .ok (.ldc2_w 110, 3) := by decide +kernel
theorem dX11_placeAt_8 : decode cX11_placeAt 8 = .ok (.ldiv, 1) := by decide +kernel
theorem dX11_placeAt_9 : decode cX11_placeAt 9 = .ok (.l2i, 1) := by decide +kernel
theorem dX11_placeAt_10 : decode cX11_placeAt 10 = .ok (.ireturn, 1) := by decide +kernel
theorem gX11_keyAtPlace_X11_rowAt : GoodIn wsX11_keyAtPlace (wsV RX11 112 RX11 yX11_rowAt wsX11_rowAt) := gw_c t_w550 (gw_c t_w549 (gw_c t_w548 (gw_c t_w510 (gw_c t_w547 (gw_t)))))
theorem gX11_keyAtPlace_X11_many : GoodIn wsX11_keyAtPlace (wsV RX11 115 RX11 yX11_many wsX11_many) := gw_c t_w554 (gw_c t_w553 (gw_c t_w552 (gw_c t_w510 (gw_c t_w551 (gw_t)))))
theorem gX11_keyAtPlace_X11_placeAt : GoodIn wsX11_keyAtPlace (wsV RX11 118 RX11 yX11_placeAt wsX11_placeAt) := gw_c t_w558 (gw_c t_w557 (gw_c t_w556 (gw_c t_w510 (gw_c t_w555 (gw_t)))))
theorem gX11_keyAtPlace_X11_keyOf : GoodIn wsX11_keyAtPlace (wsV RX11 104 RX11 yX11_keyOf wsX11_keyOf) := gw_c t_w546 (gw_c t_w545 (gw_c t_w544 (gw_c t_w510 (gw_c t_w543 (gw_t)))))
theorem dX11_keyAtPlace_0 : decode cX11_keyAtPlace 0 = .ok (.aload_n 0, 1) := by decide +kernel
theorem dX11_keyAtPlace_1 : decode cX11_keyAtPlace 1 = .ok (.iload_n 1, 1) := by decide +kernel
theorem dX11_keyAtPlace_2 : decode cX11_keyAtPlace 2 = .ok (.iload_n 3, 1) := by decide +kernel
theorem dX11_keyAtPlace_3 : decode cX11_keyAtPlace 3 = .ok (.invokevirtual 112, 3) := by decide +kernel
theorem dX11_keyAtPlace_6 : decode cX11_keyAtPlace 6 = .ok (.istore 4, 2) := by decide +kernel
theorem dX11_keyAtPlace_8 : decode cX11_keyAtPlace 8 = .ok (.aload_n 0, 1) := by decide +kernel
theorem dX11_keyAtPlace_9 : decode cX11_keyAtPlace 9 = .ok (.iload_n 3, 1) := by decide +kernel
theorem dX11_keyAtPlace_10 : decode cX11_keyAtPlace 10 = .ok (.iload 4, 2) := by decide +kernel
theorem dX11_keyAtPlace_12 : decode cX11_keyAtPlace 12 = .ok (.aload_n 0, 1) := by decide +kernel
theorem dX11_keyAtPlace_13 : decode cX11_keyAtPlace 13 = .ok (.iload_n 2, 1) := by decide +kernel
theorem dX11_keyAtPlace_14 : decode cX11_keyAtPlace 14 = .ok (.aload_n 0, 1) := by decide +kernel
theorem dX11_keyAtPlace_15 : decode cX11_keyAtPlace 15 = .ok (.iload_n 3, 1) := by decide +kernel
theorem dX11_keyAtPlace_16 : decode cX11_keyAtPlace 16 = .ok (.iload 4, 2) := by decide +kernel
theorem dX11_keyAtPlace_18 : decode cX11_keyAtPlace 18 = .ok (.invokevirtual 115, 3) := by decide +kernel
theorem dX11_keyAtPlace_21 : decode cX11_keyAtPlace 21 = .ok (.invokevirtual 118, 3) := by decide +kernel
theorem dX11_keyAtPlace_24 : decode cX11_keyAtPlace 24 = .ok (.invokevirtual 104, 3) := by decide +kernel
theorem dX11_keyAtPlace_27 : decode cX11_keyAtPlace 27 = .ok (.ireturn, 1) := by decide +kernel
theorem gX11_cut_X11_in : GoodIn wsX11_cut (va_wsS RX11 72 yX11_in wsX11_in) := gw_c t_w519 (gw_c t_w518 (gw_c t_w510 (gw_c t_w517 (gw_t))))
theorem gX11_cut_X11_laysGrids : GoodIn wsX11_cut (wsV RX11 67 RX11 yX11_laysGrids wsX11_laysGrids) := gw_c t_w516 (gw_c t_w515 (gw_c t_w514 (gw_c t_w510 (gw_c t_w513 (gw_t)))))
theorem gX11_cut_X11_sheets : GoodIn wsX11_cut (wsV RX11 88 RX11 yX11_sheets wsX11_sheets) := gw_c t_w526 (gw_c t_w525 (gw_c t_w524 (gw_c t_w510 (gw_c t_w523 (gw_t)))))
theorem dX11_cut_0 : decode cX11_cut 0 = .ok (.iload_n 1, 1) := by decide +kernel
theorem dX11_cut_1 : decode cX11_cut 1 = .ok (.i2l, 1) := by decide +kernel
theorem dX11_cut_2 : decode cX11_cut 2 = .ok (.lconst 1, 1) := by decide +kernel
theorem dX11_cut_3 : decode cX11_cut 3 = .ok (.ldc2_w 70, 3) := by decide +kernel
theorem dX11_cut_6 : decode cX11_cut 6 = .ok (.invokestatic 72, 3) := by decide +kernel
theorem dX11_cut_9 : decode cX11_cut 9 = .ok (.ifCond .eq 27, 3) := by decide +kernel
theorem dX11_cut_12 : decode cX11_cut 12 = .ok (.iload_n 2, 1) := by decide +kernel
theorem dX11_cut_13 : decode cX11_cut 13 = .ok (.i2l, 1) := by decide +kernel
theorem dX11_cut_14 : decode cX11_cut 14 = .ok (.lconst 1, 1) := by decide +kernel
theorem dX11_cut_15 : decode cX11_cut 15 = .ok (.ldc2_w 121, 3) := by decide +kernel
theorem dX11_cut_18 : decode cX11_cut 18 = .ok (.invokestatic 72, 3) := by decide +kernel
theorem dX11_cut_21 : decode cX11_cut 21 = .ok (.ifCond .eq 15, 3) := by decide +kernel
theorem dX11_cut_24 : decode cX11_cut 24 = .ok (.iload_n 3, 1) := by decide +kernel
theorem dX11_cut_25 : decode cX11_cut 25 = .ok (.i2l, 1) := by decide +kernel
theorem dX11_cut_26 : decode cX11_cut 26 = .ok (.lconst 1, 1) := by decide +kernel
theorem dX11_cut_27 : decode cX11_cut 27 = .ok (.ldc2_w 121, 3) := by decide +kernel
theorem dX11_cut_30 : decode cX11_cut 30 = .ok (.invokestatic 72, 3) := by decide +kernel
theorem dX11_cut_33 : decode cX11_cut 33 = .ok (.ifCond .ne 5, 3) := by decide +kernel
theorem dX11_cut_36 : decode cX11_cut 36 = .ok (.iconst (-1), 1) := by decide +kernel
theorem dX11_cut_37 : decode cX11_cut 37 = .ok (.ireturn, 1) := by decide +kernel
theorem dX11_cut_38 : decode cX11_cut 38 = .ok (.aload_n 0, 1) := by decide +kernel
theorem dX11_cut_39 : decode cX11_cut 39 = .ok (.getfield 123, 3) := by decide +kernel
theorem dX11_cut_42 : decode cX11_cut 42 = .ok (.ifCond .le 6, 3) := by decide +kernel
theorem dX11_cut_45 : decode cX11_cut 45 = .ok (.bipush (-2), 2) := by decide +kernel
theorem dX11_cut_47 : decode cX11_cut 47 = .ok (.ireturn, 1) := by decide +kernel
theorem dX11_cut_48 : decode cX11_cut 48 = .ok (.aload_n 0, 1) := by decide +kernel
theorem dX11_cut_49 : decode cX11_cut 49 = .ok (.getfield 22, 3) := by decide +kernel
theorem dX11_cut_52 : decode cX11_cut 52 = .ok (.bipush 44, 2) := by decide +kernel
theorem dX11_cut_54 : decode cX11_cut 54 = .ok (.iaload, 1) := by decide +kernel
theorem dX11_cut_55 : decode cX11_cut 55 = .ok (.i2l, 1) := by decide +kernel
theorem dX11_cut_56 : decode cX11_cut 56 = .ok (.lstore 4, 2) := by decide +kernel
theorem dX11_cut_58 : decode cX11_cut 58 = .ok (.iconst 1, 1) := by decide +kernel
theorem dX11_cut_59 : decode cX11_cut 59 = .ok (.istore 6, 2) := by decide +kernel
theorem dX11_cut_61 : decode cX11_cut 61 = .ok (.iload 6, 2) := by decide +kernel
theorem dX11_cut_63 : decode cX11_cut 63 = .ok (.iconst 5, 1) := by decide +kernel
theorem dX11_cut_64 : decode cX11_cut 64 = .ok (.if_icmp .ge 42, 3) := by decide +kernel
theorem dX11_cut_67 : decode cX11_cut 67 = .ok (.lload 4, 2) := by decide +kernel
theorem dX11_cut_69 : decode cX11_cut 69 = .ok (.iload 6, 2) := by decide +kernel
theorem dX11_cut_71 : decode cX11_cut 71 = .ok (.iload_n 1, 1) := by decide +kernel
theorem dX11_cut_72 : decode cX11_cut 72 = .ok (.if_icmp .ne 9, 3) := by decide +kernel
theorem dX11_cut_75 : decode cX11_cut 75 = .ok (.iload_n 2, 1) := by decide +kernel
theorem dX11_cut_76 : decode cX11_cut 76 = .ok (.iload_n 3, 1) := by decide +kernel
theorem dX11_cut_77 : decode cX11_cut 77 = .ok (.imul, 1) := by decide +kernel
theorem dX11_cut_78 : decode cX11_cut 78 = .ok (.goto 18, 3) := by decide +kernel
theorem dX11_cut_81 : decode cX11_cut 81 = .ok (.aload_n 0, 1) := by decide +kernel
theorem dX11_cut_82 : decode cX11_cut 82 = .ok (.getfield 7, 3) := by decide +kernel
theorem dX11_cut_85 : decode cX11_cut 85 = .ok (.iload 6, 2) := by decide +kernel
theorem dX11_cut_87 : decode cX11_cut 87 = .ok (.iaload, 1) := by decide +kernel
theorem dX11_cut_88 : decode cX11_cut 88 = .ok (.aload_n 0, 1) := by decide +kernel
theorem dX11_cut_89 : decode cX11_cut 89 = .ok (.getfield 13, 3) := by decide +kernel
theorem dX11_cut_92 : decode cX11_cut 92 = .ok (.iload 6, 2) := by decide +kernel
theorem dX11_cut_94 : decode cX11_cut 94 = .ok (.iaload, 1) := by decide +kernel
theorem dX11_cut_95 : decode cX11_cut 95 = .ok (.imul, 1) := by decide +kernel
theorem dX11_cut_96 : decode cX11_cut 96 = .ok (.i2l, 1) := by decide +kernel
theorem dX11_cut_97 : decode cX11_cut 97 = .ok (.lmul, 1) := by decide +kernel
theorem dX11_cut_98 : decode cX11_cut 98 = .ok (.lstore 4, 2) := by decide +kernel
theorem dX11_cut_100 : decode cX11_cut 100 = .ok (.iinc 6 1, 3) := by decide +kernel
theorem dX11_cut_103 : decode cX11_cut 103 = .ok (.goto (-42), 3) := by decide +kernel
theorem dX11_cut_106 : decode cX11_cut 106 = .ok (.lload 4, 2) := by decide +kernel
theorem dX11_cut_108 : decode cX11_cut 108 = .ok (.ldc2_w 127, 3) := by decide +kernel
theorem dX11_cut_111 : decode cX11_cut 111 = .ok (.ladd, 1) := by decide +kernel
theorem dX11_cut_112 : decode cX11_cut 112 = .ok (.ldc2_w 129, 3) := by decide +kernel
theorem dX11_cut_115 : decode cX11_cut 115 = .ok (.lcmp, 1) := by decide +kernel
theorem dX11_cut_116 : decode cX11_cut 116 = .ok (.ifCond .le 6, 3) := by decide +kernel
theorem dX11_cut_119 : decode cX11_cut 119 = .ok (.bipush (-3), 2) := by decide +kernel
theorem dX11_cut_121 : decode cX11_cut 121 = .ok (.ireturn, 1) := by decide +kernel
theorem dX11_cut_122 : decode cX11_cut 122 = .ok (.aload_n 0, 1) := by decide +kernel
theorem dX11_cut_123 : decode cX11_cut 123 = .ok (.getfield 7, 3) := by decide +kernel
theorem dX11_cut_126 : decode cX11_cut 126 = .ok (.iload_n 1, 1) := by decide +kernel
theorem dX11_cut_127 : decode cX11_cut 127 = .ok (.iload_n 2, 1) := by decide +kernel
theorem dX11_cut_128 : decode cX11_cut 128 = .ok (.iastore, 1) := by decide +kernel
theorem dX11_cut_129 : decode cX11_cut 129 = .ok (.aload_n 0, 1) := by decide +kernel
theorem dX11_cut_130 : decode cX11_cut 130 = .ok (.getfield 13, 3) := by decide +kernel
theorem dX11_cut_133 : decode cX11_cut 133 = .ok (.iload_n 1, 1) := by decide +kernel
theorem dX11_cut_134 : decode cX11_cut 134 = .ok (.iload_n 3, 1) := by decide +kernel
theorem dX11_cut_135 : decode cX11_cut 135 = .ok (.iastore, 1) := by decide +kernel
theorem dX11_cut_136 : decode cX11_cut 136 = .ok (.aload_n 0, 1) := by decide +kernel
theorem dX11_cut_137 : decode cX11_cut 137 = .ok (.invokevirtual 67, 3) := by decide +kernel
theorem dX11_cut_140 : decode cX11_cut 140 = .ok (.aload_n 0, 1) := by decide +kernel
theorem dX11_cut_141 : decode cX11_cut 141 = .ok (.iload_n 1, 1) := by decide +kernel
theorem dX11_cut_142 : decode cX11_cut 142 = .ok (.invokevirtual 88, 3) := by decide +kernel
theorem dX11_cut_145 : decode cX11_cut 145 = .ok (.ireturn, 1) := by decide +kernel
theorem gX11_level_X11_isLevel : GoodIn wsX11_level (va_wsS RX11 84 yX11_isLevel wsX11_isLevel) := gw_c t_w522 (gw_c t_w521 (gw_c t_w510 (gw_c t_w520 (gw_t))))
theorem gX11_level_X11_in : GoodIn wsX11_level (va_wsS RX11 72 yX11_in wsX11_in) := gw_c t_w519 (gw_c t_w518 (gw_c t_w510 (gw_c t_w517 (gw_t))))
theorem gX11_level_X11_sheets : GoodIn wsX11_level (wsV RX11 88 RX11 yX11_sheets wsX11_sheets) := gw_c t_w526 (gw_c t_w525 (gw_c t_w524 (gw_c t_w510 (gw_c t_w523 (gw_t)))))
theorem gX11_level_X11_rows : GoodIn wsX11_level (wsV RX11 91 RX11 yX11_rows wsX11_rows) := gw_c t_w530 (gw_c t_w529 (gw_c t_w528 (gw_c t_w510 (gw_c t_w527 (gw_t)))))
theorem dX11_level_0 : decode cX11_level 0 = .ok (.iload_n 1, 1) := by decide +kernel
theorem dX11_level_1 : decode cX11_level 1 = .ok (.invokestatic 84, 3) := by decide +kernel
theorem dX11_level_4 : decode cX11_level 4 = .ok (.ifCond .eq 15, 3) := by decide +kernel
theorem dX11_level_7 : decode cX11_level 7 = .ok (.iload_n 2, 1) := by decide +kernel
theorem dX11_level_8 : decode cX11_level 8 = .ok (.i2l, 1) := by decide +kernel
theorem dX11_level_9 : decode cX11_level 9 = .ok (.lconst 0, 1) := by decide +kernel
theorem dX11_level_10 : decode cX11_level 10 = .ok (.ldc2_w 131, 3) := by decide +kernel
theorem dX11_level_13 : decode cX11_level 13 = .ok (.invokestatic 72, 3) := by decide +kernel
theorem dX11_level_16 : decode cX11_level 16 = .ok (.ifCond .ne 5, 3) := by decide +kernel
theorem dX11_level_19 : decode cX11_level 19 = .ok (.iconst (-1), 1) := by decide +kernel
theorem dX11_level_20 : decode cX11_level 20 = .ok (.ireturn, 1) := by decide +kernel
theorem dX11_level_21 : decode cX11_level 21 = .ok (.iload_n 2, 1) := by decide +kernel
theorem dX11_level_22 : decode cX11_level 22 = .ok (.tableswitch 67 0 4 #[34, 40, 46, 53, 60], 34) := by decide +kernel
theorem dX11_level_56 : decode cX11_level 56 = .ok (.aload_n 0, 1) := by decide +kernel
theorem dX11_level_57 : decode cX11_level 57 = .ok (.iload_n 1, 1) := by decide +kernel
theorem dX11_level_58 : decode cX11_level 58 = .ok (.invokevirtual 88, 3) := by decide +kernel
theorem dX11_level_61 : decode cX11_level 61 = .ok (.ireturn, 1) := by decide +kernel
theorem dX11_level_62 : decode cX11_level 62 = .ok (.aload_n 0, 1) := by decide +kernel
theorem dX11_level_63 : decode cX11_level 63 = .ok (.iload_n 1, 1) := by decide +kernel
theorem dX11_level_64 : decode cX11_level 64 = .ok (.invokevirtual 91, 3) := by decide +kernel
theorem dX11_level_67 : decode cX11_level 67 = .ok (.ireturn, 1) := by decide +kernel
theorem dX11_level_68 : decode cX11_level 68 = .ok (.aload_n 0, 1) := by decide +kernel
theorem dX11_level_69 : decode cX11_level 69 = .ok (.getfield 7, 3) := by decide +kernel
theorem dX11_level_72 : decode cX11_level 72 = .ok (.iload_n 1, 1) := by decide +kernel
theorem dX11_level_73 : decode cX11_level 73 = .ok (.iaload, 1) := by decide +kernel
theorem dX11_level_74 : decode cX11_level 74 = .ok (.ireturn, 1) := by decide +kernel
theorem dX11_level_75 : decode cX11_level 75 = .ok (.aload_n 0, 1) := by decide +kernel
theorem dX11_level_76 : decode cX11_level 76 = .ok (.getfield 13, 3) := by decide +kernel
theorem dX11_level_79 : decode cX11_level 79 = .ok (.iload_n 1, 1) := by decide +kernel
theorem dX11_level_80 : decode cX11_level 80 = .ok (.iaload, 1) := by decide +kernel
theorem dX11_level_81 : decode cX11_level 81 = .ok (.ireturn, 1) := by decide +kernel
theorem dX11_level_82 : decode cX11_level 82 = .ok (.aload_n 0, 1) := by decide +kernel
theorem dX11_level_83 : decode cX11_level 83 = .ok (.getfield 16, 3) := by decide +kernel
theorem dX11_level_86 : decode cX11_level 86 = .ok (.iload_n 1, 1) := by decide +kernel
theorem dX11_level_87 : decode cX11_level 87 = .ok (.iaload, 1) := by decide +kernel
theorem dX11_level_88 : decode cX11_level 88 = .ok (.ireturn, 1) := by decide +kernel
theorem dX11_level_89 : decode cX11_level 89 = .ok (.aload_n 0, 1) := by decide +kernel
theorem dX11_level_90 : decode cX11_level 90 = .ok (.getfield 19, 3) := by decide +kernel
theorem dX11_level_93 : decode cX11_level 93 = .ok (.iload_n 1, 1) := by decide +kernel
theorem dX11_level_94 : decode cX11_level 94 = .ok (.iaload, 1) := by decide +kernel
theorem dX11_level_95 : decode cX11_level 95 = .ok (.ireturn, 1) := by decide +kernel
theorem gX11_key_X11_isPlace : GoodIn wsX11_key (va_wsS RX11 133 yX11_isPlace wsX11_isPlace) := gw_c t_w561 (gw_c t_w560 (gw_c t_w510 (gw_c t_w559 (gw_t))))
theorem gX11_key_X11_isLevel : GoodIn wsX11_key (va_wsS RX11 84 yX11_isLevel wsX11_isLevel) := gw_c t_w522 (gw_c t_w521 (gw_c t_w510 (gw_c t_w520 (gw_t))))
theorem gX11_key_X11_keyAtPlace : GoodIn wsX11_key (wsV RX11 137 RX11 yX11_keyAtPlace wsX11_keyAtPlace) := gw_c t_w565 (gw_c t_w564 (gw_c t_w563 (gw_c t_w510 (gw_c t_w562 (gw_t)))))
theorem dX11_key_0 : decode cX11_key 0 = .ok (.iload_n 1, 1) := by decide +kernel
theorem dX11_key_1 : decode cX11_key 1 = .ok (.iload_n 2, 1) := by decide +kernel
theorem dX11_key_2 : decode cX11_key 2 = .ok (.invokestatic 133, 3) := by decide +kernel
theorem dX11_key_5 : decode cX11_key 5 = .ok (.ifCond .eq 20, 3) := by decide +kernel
theorem dX11_key_8 : decode cX11_key 8 = .ok (.iload_n 3, 1) := by decide +kernel
theorem dX11_key_9 : decode cX11_key 9 = .ok (.invokestatic 84, 3) := by decide +kernel
theorem dX11_key_12 : decode cX11_key 12 = .ok (.ifCond .eq 13, 3) := by decide +kernel
theorem dX11_key_15 : decode cX11_key 15 = .ok (.aload_n 0, 1) := by decide +kernel
theorem dX11_key_16 : decode cX11_key 16 = .ok (.iload_n 1, 1) := by decide +kernel
theorem dX11_key_17 : decode cX11_key 17 = .ok (.iload_n 2, 1) := by decide +kernel
theorem dX11_key_18 : decode cX11_key 18 = .ok (.iload_n 3, 1) := by decide +kernel
theorem dX11_key_19 : decode cX11_key 19 = .ok (.invokevirtual 137, 3) := by decide +kernel
theorem dX11_key_22 : decode cX11_key 22 = .ok (.goto 4, 3) := by decide +kernel
theorem dX11_key_25 : decode cX11_key 25 = .ok (.iconst (-1), 1) := by decide +kernel
theorem dX11_key_26 : decode cX11_key 26 = .ok (.ireturn, 1) := by decide +kernel
theorem dX11_digitsInto_0 : decode cX11_digitsInto 0 = .ok (.iload_n 2, 1) := by decide +kernel
theorem dX11_digitsInto_1 : decode cX11_digitsInto 1 = .ok (.istore 4, 2) := by decide +kernel
theorem dX11_digitsInto_3 : decode cX11_digitsInto 3 = .ok (.iload_n 3, 1) := by decide +kernel
theorem dX11_digitsInto_4 : decode cX11_digitsInto 4 = .ok (.bipush 9, 2) := by decide +kernel
theorem dX11_digitsInto_6 : decode cX11_digitsInto 6 = .ok (.if_icmp .le 20, 3) := by decide +kernel
theorem dX11_digitsInto_9 : decode cX11_digitsInto 9 = .ok (.aload_n 1, 1) := by decide +kernel
theorem dX11_digitsInto_10 : decode cX11_digitsInto 10 = .ok (.iload 4, 2) := by decide +kernel
theorem dX11_digitsInto_12 : decode cX11_digitsInto 12 = .ok (.bipush 48, 2) := by decide +kernel
theorem dX11_digitsInto_14 : decode cX11_digitsInto 14 = .ok (.iload_n 3, 1) := by decide +kernel
theorem dX11_digitsInto_15 : decode cX11_digitsInto 15 = .ok (.bipush 10, 2) := by decide +kernel
theorem dX11_digitsInto_17 : decode cX11_digitsInto 17 = .ok (.idiv, 1) := by decide +kernel
theorem dX11_digitsInto_18 : decode cX11_digitsInto 18 = .ok (.iadd, 1) := by decide +kernel
theorem dX11_digitsInto_19 : decode cX11_digitsInto 19 = .ok (.iastore, 1) := by decide +kernel
theorem dX11_digitsInto_20 : decode cX11_digitsInto 20 = .ok (.iload 4, 2) := by decide +kernel
theorem dX11_digitsInto_22 : decode cX11_digitsInto 22 = .ok (.iconst 1, 1) := by decide +kernel
theorem dX11_digitsInto_23 : decode cX11_digitsInto 23 = .ok (.iadd, 1) := by decide +kernel
theorem dX11_digitsInto_24 : decode cX11_digitsInto 24 = .ok (.istore 4, 2) := by decide +kernel
theorem dX11_digitsInto_26 : decode cX11_digitsInto 26 = .ok (.aload_n 1, 1) := by decide +kernel
theorem dX11_digitsInto_27 : decode cX11_digitsInto 27 = .ok (.iload 4, 2) := by decide +kernel
theorem dX11_digitsInto_29 : decode cX11_digitsInto 29 = .ok (.bipush 48, 2) := by decide +kernel
theorem dX11_digitsInto_31 : decode cX11_digitsInto 31 = .ok (.iload_n 3, 1) := by decide +kernel
theorem dX11_digitsInto_32 : decode cX11_digitsInto 32 = .ok (.bipush 10, 2) := by decide +kernel
theorem dX11_digitsInto_34 : decode cX11_digitsInto 34 = .ok (.irem, 1) := by decide +kernel
theorem dX11_digitsInto_35 : decode cX11_digitsInto 35 = .ok (.iadd, 1) := by decide +kernel
theorem dX11_digitsInto_36 : decode cX11_digitsInto 36 = .ok (.iastore, 1) := by decide +kernel
theorem dX11_digitsInto_37 : decode cX11_digitsInto 37 = .ok (.iload 4, 2) := by decide +kernel
theorem dX11_digitsInto_39 : decode cX11_digitsInto 39 = .ok (.iconst 1, 1) := by decide +kernel
theorem dX11_digitsInto_40 : decode cX11_digitsInto 40 = .ok (.iadd, 1) := by decide +kernel
theorem dX11_digitsInto_41 : decode cX11_digitsInto 41 = .ok (.ireturn, 1) := by decide +kernel
theorem dX11_pieceNumber_0 : decode cX11_pieceNumber 0 = .ok (.iload_n 2, 1) := by decide +kernel
theorem dX11_pieceNumber_1 : decode cX11_pieceNumber 1 = .ok (.iconst 1, 1) := by decide +kernel
theorem dX11_pieceNumber_2 : decode cX11_pieceNumber 2 = .ok (.isub, 1) := by decide +kernel
theorem dX11_pieceNumber_3 : decode cX11_pieceNumber 3 = .ok (.aload_n 0, 1) := by decide +kernel
theorem dX11_pieceNumber_4 : decode cX11_pieceNumber 4 = .ok (.getfield 16, 3) := by decide +kernel
theorem dX11_pieceNumber_7 : decode cX11_pieceNumber 7 = .ok (.iload_n 1, 1) := by decide +kernel
theorem dX11_pieceNumber_8 : decode cX11_pieceNumber 8 = .ok (.iaload, 1) := by decide +kernel
theorem dX11_pieceNumber_9 : decode cX11_pieceNumber 9 = .ok (.irem, 1) := by decide +kernel
theorem dX11_pieceNumber_10 : decode cX11_pieceNumber 10 = .ok (.aload_n 0, 1) := by decide +kernel
theorem dX11_pieceNumber_11 : decode cX11_pieceNumber 11 = .ok (.getfield 7, 3) := by decide +kernel
theorem dX11_pieceNumber_14 : decode cX11_pieceNumber 14 = .ok (.iload_n 1, 1) := by decide +kernel
theorem dX11_pieceNumber_15 : decode cX11_pieceNumber 15 = .ok (.iaload, 1) := by decide +kernel
theorem dX11_pieceNumber_16 : decode cX11_pieceNumber 16 = .ok (.irem, 1) := by decide +kernel
theorem dX11_pieceNumber_17 : decode cX11_pieceNumber 17 = .ok (.aload_n 0, 1) := by decide +kernel
theorem dX11_pieceNumber_18 : decode cX11_pieceNumber 18 = .ok (.getfield 13, 3) := by decide +kernel
theorem dX11_pieceNumber_21 : decode cX11_pieceNumber 21 = .ok (.iload_n 1, 1) := by decide +kernel
theorem dX11_pieceNumber_22 : decode cX11_pieceNumber 22 = .ok (.iaload, 1) := by decide +kernel
theorem dX11_pieceNumber_23 : decode cX11_pieceNumber 23 = .ok (.imul, 1) := by decide +kernel
theorem dX11_pieceNumber_24 : decode cX11_pieceNumber 24 = .ok (.iload_n 3, 1) := by decide +kernel
theorem dX11_pieceNumber_25 : decode cX11_pieceNumber 25 = .ok (.aload_n 0, 1) := by decide +kernel
theorem dX11_pieceNumber_26 : decode cX11_pieceNumber 26 = .ok (.getfield 13, 3) := by decide +kernel
theorem dX11_pieceNumber_29 : decode cX11_pieceNumber 29 = .ok (.iload_n 1, 1) := by decide +kernel
theorem dX11_pieceNumber_30 : decode cX11_pieceNumber 30 = .ok (.iaload, 1) := by decide +kernel
theorem dX11_pieceNumber_31 : decode cX11_pieceNumber 31 = .ok (.irem, 1) := by decide +kernel
theorem dX11_pieceNumber_32 : decode cX11_pieceNumber 32 = .ok (.iadd, 1) := by decide +kernel
theorem dX11_pieceNumber_33 : decode cX11_pieceNumber 33 = .ok (.iconst 1, 1) := by decide +kernel
theorem dX11_pieceNumber_34 : decode cX11_pieceNumber 34 = .ok (.iadd, 1) := by decide +kernel
theorem dX11_pieceNumber_35 : decode cX11_pieceNumber 35 = .ok (.ireturn, 1) := by decide +kernel
theorem gX11_spells_X11_isCap : GoodIn wsX11_spells (wsV RX11 140 RX11 yX11_isCap wsX11_isCap) := gw_c t_w569 (gw_c t_w568 (gw_c t_w567 (gw_c t_w510 (gw_c t_w566 (gw_t)))))
theorem gX11_spells_X11_rowOf : GoodIn wsX11_spells (wsV RX11 101 RX11 yX11_rowOf wsX11_rowOf) := gw_c t_w542 (gw_c t_w541 (gw_c t_w540 (gw_c t_w510 (gw_c t_w539 (gw_t)))))
theorem gX11_spells_X11_placeOf : GoodIn wsX11_spells (wsV RX11 143 RX11 yX11_placeOf wsX11_placeOf) := gw_c t_w573 (gw_c t_w572 (gw_c t_w571 (gw_c t_w510 (gw_c t_w570 (gw_t)))))
theorem gX11_spells_X11_bandOf : GoodIn wsX11_spells (wsV RX11 97 RX11 yX11_bandOf wsX11_bandOf) := gw_c t_w538 (gw_c t_w537 (gw_c t_w536 (gw_c t_w510 (gw_c t_w535 (gw_t)))))
theorem gX11_spells_X11_digitsInto : GoodIn wsX11_spells (wsV RX11 146 RX11 yX11_digitsInto wsX11_digitsInto) := gw_c t_w577 (gw_c t_w576 (gw_c t_w575 (gw_c t_w510 (gw_c t_w574 (gw_t)))))
theorem gX11_spells_X11_pieceNumber : GoodIn wsX11_spells (wsV RX11 150 RX11 yX11_pieceNumber wsX11_pieceNumber) := gw_c t_w581 (gw_c t_w580 (gw_c t_w579 (gw_c t_w510 (gw_c t_w578 (gw_t)))))
theorem dX11_spells_0 : decode cX11_spells 0 = .ok (.aload_n 0, 1) := by decide +kernel
theorem dX11_spells_1 : decode cX11_spells 1 = .ok (.iload_n 1, 1) := by decide +kernel
theorem dX11_spells_2 : decode cX11_spells 2 = .ok (.iload_n 2, 1) := by decide +kernel
theorem dX11_spells_3 : decode cX11_spells 3 = .ok (.invokevirtual 140, 3) := by decide +kernel
theorem dX11_spells_6 : decode cX11_spells 6 = .ok (.ifCond .eq 24, 3) := by decide +kernel
theorem dX11_spells_9 : decode cX11_spells 9 = .ok (.aload_n 3, 1) := by decide +kernel
theorem dX11_spells_10 : decode cX11_spells 10 = .ok (.iconst 0, 1) := by decide +kernel
theorem dX11_spells_11 : decode cX11_spells 11 = .ok (.iload_n 2, 1) := by decide +kernel
theorem dX11_spells_12 : decode cX11_spells 12 = .ok (.ifCond .ne 8, 3) := by decide +kernel
theorem dX11_spells_15 : decode cX11_spells 15 = .ok (.bipush 78, 2) := by decide +kernel
theorem dX11_spells_17 : decode cX11_spells 17 = .ok (.goto 5, 3) := by decide +kernel
theorem dX11_spells_20 : decode cX11_spells 20 = .ok (.bipush 83, 2) := by decide +kernel
theorem dX11_spells_22 : decode cX11_spells 22 = .ok (.iastore, 1) := by decide +kernel
theorem dX11_spells_23 : decode cX11_spells 23 = .ok (.aload_n 3, 1) := by decide +kernel
theorem dX11_spells_24 : decode cX11_spells 24 = .ok (.iconst 1, 1) := by decide +kernel
theorem dX11_spells_25 : decode cX11_spells 25 = .ok (.bipush 90, 2) := by decide +kernel
theorem dX11_spells_27 : decode cX11_spells 27 = .ok (.iastore, 1) := by decide +kernel
theorem dX11_spells_28 : decode cX11_spells 28 = .ok (.iconst 2, 1) := by decide +kernel
theorem dX11_spells_29 : decode cX11_spells 29 = .ok (.ireturn, 1) := by decide +kernel
theorem dX11_spells_30 : decode cX11_spells 30 = .ok (.aload_n 0, 1) := by decide +kernel
theorem dX11_spells_31 : decode cX11_spells 31 = .ok (.iload_n 1, 1) := by decide +kernel
theorem dX11_spells_32 : decode cX11_spells 32 = .ok (.iload_n 2, 1) := by decide +kernel
theorem dX11_spells_33 : decode cX11_spells 33 = .ok (.invokevirtual 101, 3) := by decide +kernel
theorem dX11_spells_36 : decode cX11_spells 36 = .ok (.istore 4, 2) := by decide +kernel
theorem dX11_spells_38 : decode cX11_spells 38 = .ok (.aload_n 0, 1) := by decide +kernel
theorem dX11_spells_39 : decode cX11_spells 39 = .ok (.iload_n 1, 1) := by decide +kernel
theorem dX11_spells_40 : decode cX11_spells 40 = .ok (.iload_n 2, 1) := by decide +kernel
theorem dX11_spells_41 : decode cX11_spells 41 = .ok (.invokevirtual 143, 3) := by decide +kernel
theorem dX11_spells_44 : decode cX11_spells 44 = .ok (.istore 5, 2) := by decide +kernel
theorem dX11_spells_46 : decode cX11_spells 46 = .ok (.aload_n 0, 1) := by decide +kernel
theorem dX11_spells_47 : decode cX11_spells 47 = .ok (.iload_n 1, 1) := by decide +kernel
theorem dX11_spells_48 : decode cX11_spells 48 = .ok (.iload 4, 2) := by decide +kernel
theorem dX11_spells_50 : decode cX11_spells 50 = .ok (.invokevirtual 97, 3) := by decide +kernel
theorem dX11_spells_53 : decode cX11_spells 53 = .ok (.istore 6, 2) := by decide +kernel
theorem dX11_spells_55 : decode cX11_spells 55 = .ok (.aload_n 3, 1) := by decide +kernel
theorem dX11_spells_56 : decode cX11_spells 56 = .ok (.iconst 0, 1) := by decide +kernel
theorem dX11_spells_57 : decode cX11_spells 57 = .ok (.iload 6, 2) := by decide +kernel
theorem dX11_spells_59 : decode cX11_spells 59 = .ok (.bipush 22, 2) := by decide +kernel
theorem dX11_spells_61 : decode cX11_spells 61 = .ok (.if_icmp .ge 8, 3) := by decide +kernel
theorem dX11_spells_64 : decode cX11_spells 64 = .ok (.bipush 78, 2) := by decide +kernel
theorem dX11_spells_66 : decode cX11_spells 66 = .ok (.goto 5, 3) := by decide +kernel
theorem dX11_spells_69 : decode cX11_spells 69 = .ok (.bipush 83, 2) := by decide +kernel
theorem dX11_spells_71 : decode cX11_spells 71 = .ok (.iastore, 1) := by decide +kernel
theorem dX11_spells_72 : decode cX11_spells 72 = .ok (.aload_n 3, 1) := by decide +kernel
theorem dX11_spells_73 : decode cX11_spells 73 = .ok (.iconst 1, 1) := by decide +kernel
theorem dX11_spells_74 : decode cX11_spells 74 = .ok (.bipush 65, 2) := by decide +kernel
theorem dX11_spells_76 : decode cX11_spells 76 = .ok (.iload 6, 2) := by decide +kernel
theorem dX11_spells_78 : decode cX11_spells 78 = .ok (.bipush 22, 2) := by decide +kernel
theorem dX11_spells_80 : decode cX11_spells 80 = .ok (.if_icmp .ge 11, 3) := by decide +kernel
theorem dX11_spells_83 : decode cX11_spells 83 = .ok (.bipush 21, 2) := by decide +kernel
theorem dX11_spells_85 : decode cX11_spells 85 = .ok (.iload 6, 2) := by decide +kernel
theorem dX11_spells_87 : decode cX11_spells 87 = .ok (.isub, 1) := by decide +kernel
theorem dX11_spells_88 : decode cX11_spells 88 = .ok (.goto 8, 3) := by decide +kernel
theorem dX11_spells_91 : decode cX11_spells 91 = .ok (.iload 6, 2) := by decide +kernel
theorem dX11_spells_93 : decode cX11_spells 93 = .ok (.bipush 22, 2) := by decide +kernel
theorem dX11_spells_95 : decode cX11_spells 95 = .ok (.isub, 1) := by decide +kernel
theorem dX11_spells_96 : decode cX11_spells 96 = .ok (.iadd, 1) := by decide +kernel
theorem dX11_spells_97 : decode cX11_spells 97 = .ok (.iastore, 1) := by decide +kernel
theorem dX11_spells_98 : decode cX11_spells 98 = .ok (.aload_n 0, 1) := by decide +kernel
theorem dX11_spells_99 : decode cX11_spells 99 = .ok (.aload_n 3, 1) := by decide +kernel
theorem dX11_spells_100 : decode cX11_spells 100 = .ok (.iconst 2, 1) := by decide +kernel
theorem dX11_spells_101 : decode cX11_spells 101 = .ok (.iload 5, 2) := by decide +kernel
theorem dX11_spells_103 : decode cX11_spells 103 = .ok (.aload_n 0, 1) := by decide +kernel
theorem dX11_spells_104 : decode cX11_spells 104 = .ok (.getfield 19, 3) := by decide +kernel
theorem dX11_spells_107 : decode cX11_spells 107 = .ok (.iload_n 1, 1) := by decide +kernel
theorem dX11_spells_108 : decode cX11_spells 108 = .ok (.iaload, 1) := by decide +kernel
theorem dX11_spells_109 : decode cX11_spells 109 = .ok (.idiv, 1) := by decide +kernel
theorem dX11_spells_110 : decode cX11_spells 110 = .ok (.iconst 1, 1) := by decide +kernel
theorem dX11_spells_111 : decode cX11_spells 111 = .ok (.iadd, 1) := by decide +kernel
theorem dX11_spells_112 : decode cX11_spells 112 = .ok (.invokevirtual 146, 3) := by decide +kernel
theorem dX11_spells_115 : decode cX11_spells 115 = .ok (.istore 7, 2) := by decide +kernel
theorem dX11_spells_117 : decode cX11_spells 117 = .ok (.iconst 1, 1) := by decide +kernel
theorem dX11_spells_118 : decode cX11_spells 118 = .ok (.istore 8, 2) := by decide +kernel
theorem dX11_spells_120 : decode cX11_spells 120 = .ok (.iload 8, 2) := by decide +kernel
theorem dX11_spells_122 : decode cX11_spells 122 = .ok (.iload_n 1, 1) := by decide +kernel
theorem dX11_spells_123 : decode cX11_spells 123 = .ok (.if_icmp .gt 74, 3) := by decide +kernel
theorem dX11_spells_126 : decode cX11_spells 126 = .ok (.iconst 1, 1) := by decide +kernel
theorem dX11_spells_127 : decode cX11_spells 127 = .ok (.iload 4, 2) := by decide +kernel
theorem dX11_spells_129 : decode cX11_spells 129 = .ok (.iconst 1, 1) := by decide +kernel
theorem dX11_spells_130 : decode cX11_spells 130 = .ok (.isub, 1) := by decide +kernel
theorem dX11_spells_131 : decode cX11_spells 131 = .ok (.aload_n 0, 1) := by decide +kernel
theorem dX11_spells_132 : decode cX11_spells 132 = .ok (.getfield 16, 3) := by decide +kernel
theorem dX11_spells_135 : decode cX11_spells 135 = .ok (.iload_n 1, 1) := by decide +kernel
theorem dX11_spells_136 : decode cX11_spells 136 = .ok (.iaload, 1) := by decide +kernel
theorem dX11_spells_137 : decode cX11_spells 137 = .ok (.aload_n 0, 1) := by decide +kernel
theorem dX11_spells_138 : decode cX11_spells 138 = .ok (.getfield 16, 3) := by decide +kernel
theorem dX11_spells_141 : decode cX11_spells 141 = .ok (.iload 8, 2) := by decide +kernel
theorem dX11_spells_143 : decode cX11_spells 143 = .ok (.iaload, 1) := by decide +kernel
theorem dX11_spells_144 : decode cX11_spells 144 = .ok (.idiv, 1) := by decide +kernel
theorem dX11_spells_145 : decode cX11_spells 145 = .ok (.idiv, 1) := by decide +kernel
theorem dX11_spells_146 : decode cX11_spells 146 = .ok (.iadd, 1) := by decide +kernel
theorem dX11_spells_147 : decode cX11_spells 147 = .ok (.istore 9, 2) := by decide +kernel
theorem dX11_spells_149 : decode cX11_spells 149 = .ok (.aload_n 3, 1) := by decide +kernel
theorem dX11_spells_150 : decode cX11_spells 150 = .ok (.iload 7, 2) := by decide +kernel
theorem dX11_spells_152 : decode cX11_spells 152 = .ok (.bipush 45, 2) := by decide +kernel
theorem dX11_spells_154 : decode cX11_spells 154 = .ok (.iastore, 1) := by decide +kernel
theorem dX11_spells_155 : decode cX11_spells 155 = .ok (.aload_n 0, 1) := by decide +kernel
theorem dX11_spells_156 : decode cX11_spells 156 = .ok (.aload_n 3, 1) := by decide +kernel
theorem dX11_spells_157 : decode cX11_spells 157 = .ok (.iload 7, 2) := by decide +kernel
theorem dX11_spells_159 : decode cX11_spells 159 = .ok (.iconst 1, 1) := by decide +kernel
theorem dX11_spells_160 : decode cX11_spells 160 = .ok (.iadd, 1) := by decide +kernel
theorem dX11_spells_161 : decode cX11_spells 161 = .ok (.aload_n 0, 1) := by decide +kernel
theorem dX11_spells_162 : decode cX11_spells 162 = .ok (.iload 8, 2) := by decide +kernel
theorem dX11_spells_164 : decode cX11_spells 164 = .ok (.iload 9, 2) := by decide +kernel
theorem dX11_spells_166 : decode cX11_spells 166 = .ok (.iload 5, 2) := by decide +kernel
theorem dX11_spells_168 : decode cX11_spells 168 = .ok (.aload_n 0, 1) := by decide +kernel
theorem dX11_spells_169 : decode cX11_spells 169 = .ok (.getfield 19, 3) := by decide +kernel
theorem dX11_spells_172 : decode cX11_spells 172 = .ok (.iload_n 1, 1) := by decide +kernel
theorem dX11_spells_173 : decode cX11_spells 173 = .ok (.iaload, 1) := by decide +kernel
theorem dX11_spells_174 : decode cX11_spells 174 = .ok (.aload_n 0, 1) := by decide +kernel
theorem dX11_spells_175 : decode cX11_spells 175 = .ok (.getfield 19, 3) := by decide +kernel
theorem dX11_spells_178 : decode cX11_spells 178 = .ok (.iload 8, 2) := by decide +kernel
theorem dX11_spells_180 : decode cX11_spells 180 = .ok (.iaload, 1) := by decide +kernel
theorem dX11_spells_181 : decode cX11_spells 181 = .ok (.idiv, 1) := by decide +kernel
theorem dX11_spells_182 : decode cX11_spells 182 = .ok (.idiv, 1) := by decide +kernel
theorem dX11_spells_183 : decode cX11_spells 183 = .ok (.invokevirtual 150, 3) := by decide +kernel
theorem dX11_spells_186 : decode cX11_spells 186 = .ok (.invokevirtual 146, 3) := by decide +kernel
theorem dX11_spells_189 : decode cX11_spells 189 = .ok (.istore 7, 2) := by decide +kernel
theorem dX11_spells_191 : decode cX11_spells 191 = .ok (.iinc 8 1, 3) := by decide +kernel
theorem dX11_spells_194 : decode cX11_spells 194 = .ok (.goto (-74), 3) := by decide +kernel
theorem dX11_spells_197 : decode cX11_spells 197 = .ok (.iload 7, 2) := by decide +kernel
theorem dX11_spells_199 : decode cX11_spells 199 = .ok (.ireturn, 1) := by decide +kernel
theorem gX11_name_X11_isKey : GoodIn wsX11_name (wsV RX11 153 RX11 yX11_isKey wsX11_isKey) := gw_c t_w585 (gw_c t_w584 (gw_c t_w583 (gw_c t_w510 (gw_c t_w582 (gw_t)))))
theorem gX11_name_X11_spells : GoodIn wsX11_name (wsV RX11 156 RX11 yX11_spells wsX11_spells) := gw_c t_w589 (gw_c t_w588 (gw_c t_w587 (gw_c t_w510 (gw_c t_w586 (gw_t)))))
theorem dX11_name_0 : decode cX11_name 0 = .ok (.aload_n 0, 1) := by decide +kernel
theorem dX11_name_1 : decode cX11_name 1 = .ok (.iload_n 1, 1) := by decide +kernel
theorem dX11_name_2 : decode cX11_name 2 = .ok (.iload_n 2, 1) := by decide +kernel
theorem dX11_name_3 : decode cX11_name 3 = .ok (.invokevirtual 153, 3) := by decide +kernel
theorem dX11_name_6 : decode cX11_name 6 = .ok (.ifCond .eq 8, 3) := by decide +kernel
theorem dX11_name_9 : decode cX11_name 9 = .ok (.iload_n 3, 1) := by decide +kernel
theorem dX11_name_10 : decode cX11_name 10 = .ok (.iconst (-1), 1) := by decide +kernel
theorem dX11_name_11 : decode cX11_name 11 = .ok (.if_icmp .ge 5, 3) := by decide +kernel
theorem dX11_name_14 : decode cX11_name 14 = .ok (.iconst (-1), 1) := by decide +kernel
theorem dX11_name_15 : decode cX11_name 15 = .ok (.ireturn, 1) := by decide +kernel
theorem dX11_name_16 : decode cX11_name 16 = .ok (.aload_n 0, 1) := by decide +kernel
theorem dX11_name_17 : decode cX11_name 17 = .ok (.iload_n 1, 1) := by decide +kernel
theorem dX11_name_18 : decode cX11_name 18 = .ok (.iload_n 2, 1) := by decide +kernel
theorem dX11_name_19 : decode cX11_name 19 = .ok (.aload_n 0, 1) := by decide +kernel
theorem dX11_name_20 : decode cX11_name 20 = .ok (.getfield 25, 3) := by decide +kernel
theorem dX11_name_23 : decode cX11_name 23 = .ok (.invokevirtual 156, 3) := by decide +kernel
theorem dX11_name_26 : decode cX11_name 26 = .ok (.istore 4, 2) := by decide +kernel
theorem dX11_name_28 : decode cX11_name 28 = .ok (.iload_n 3, 1) := by decide +kernel
theorem dX11_name_29 : decode cX11_name 29 = .ok (.iconst (-1), 1) := by decide +kernel
theorem dX11_name_30 : decode cX11_name 30 = .ok (.if_icmp .ne 8, 3) := by decide +kernel
theorem dX11_name_33 : decode cX11_name 33 = .ok (.iload 4, 2) := by decide +kernel
theorem dX11_name_35 : decode cX11_name 35 = .ok (.goto 20, 3) := by decide +kernel
theorem dX11_name_38 : decode cX11_name 38 = .ok (.iload_n 3, 1) := by decide +kernel
theorem dX11_name_39 : decode cX11_name 39 = .ok (.iload 4, 2) := by decide +kernel
theorem dX11_name_41 : decode cX11_name 41 = .ok (.if_icmp .ge 12, 3) := by decide +kernel
theorem dX11_name_44 : decode cX11_name 44 = .ok (.aload_n 0, 1) := by decide +kernel
theorem dX11_name_45 : decode cX11_name 45 = .ok (.getfield 25, 3) := by decide +kernel
theorem dX11_name_48 : decode cX11_name 48 = .ok (.iload_n 3, 1) := by decide +kernel
theorem dX11_name_49 : decode cX11_name 49 = .ok (.iaload, 1) := by decide +kernel
theorem dX11_name_50 : decode cX11_name 50 = .ok (.goto 5, 3) := by decide +kernel
theorem dX11_name_53 : decode cX11_name 53 = .ok (.bipush (-2), 2) := by decide +kernel
theorem dX11_name_55 : decode cX11_name 55 = .ok (.ireturn, 1) := by decide +kernel
theorem dX11_typed4_0 : decode cX11_typed4 0 = .ok (.iconst 3, 1) := by decide +kernel
theorem dX11_typed4_1 : decode cX11_typed4 1 = .ok (.istore_n 2, 1) := by decide +kernel
theorem dX11_typed4_2 : decode cX11_typed4 2 = .ok (.iload_n 2, 1) := by decide +kernel
theorem dX11_typed4_3 : decode cX11_typed4 3 = .ok (.ifCond .lt 35, 3) := by decide +kernel
theorem dX11_typed4_6 : decode cX11_typed4 6 = .ok (.aload_n 0, 1) := by decide +kernel
theorem dX11_typed4_7 : decode cX11_typed4 7 = .ok (.getfield 31, 3) := by decide +kernel
theorem dX11_typed4_10 : decode cX11_typed4 10 = .ok (.aload_n 0, 1) := by decide +kernel
theorem dX11_typed4_11 : decode cX11_typed4 11 = .ok (.getfield 160, 3) := by decide +kernel
theorem dX11_typed4_14 : decode cX11_typed4 14 = .ok (.iload_n 1, 1) := by decide +kernel
theorem dX11_typed4_15 : decode cX11_typed4 15 = .ok (.bipush 8, 2) := by decide +kernel
theorem dX11_typed4_17 : decode cX11_typed4 17 = .ok (.iload_n 2, 1) := by decide +kernel
theorem dX11_typed4_18 : decode cX11_typed4 18 = .ok (.imul, 1) := by decide +kernel
theorem dX11_typed4_19 : decode cX11_typed4 19 = .ok (.ishr, 1) := by decide +kernel
theorem dX11_typed4_20 : decode cX11_typed4 20 = .ok (.i2b, 1) := by decide +kernel
theorem dX11_typed4_21 : decode cX11_typed4 21 = .ok (.bastore, 1) := by decide +kernel
theorem dX11_typed4_22 : decode cX11_typed4 22 = .ok (.aload_n 0, 1) := by decide +kernel
theorem dX11_typed4_23 : decode cX11_typed4 23 = .ok (.aload_n 0, 1) := by decide +kernel
theorem dX11_typed4_24 : decode cX11_typed4 24 = .ok (.getfield 160, 3) := by decide +kernel
theorem dX11_typed4_27 : decode cX11_typed4 27 = .ok (.iconst 1, 1) := by decide +kernel
theorem dX11_typed4_28 : decode cX11_typed4 28 = .ok (.iadd, 1) := by decide +kernel
theorem dX11_typed4_29 : decode cX11_typed4 29 = .ok (.putfield 160, 3) := by decide +kernel
theorem dX11_typed4_32 : decode cX11_typed4 32 = .ok (.iinc 2 (-1), 3) := by decide +kernel
theorem dX11_typed4_35 : decode cX11_typed4 35 = .ok (.goto (-33), 3) := by decide +kernel
theorem dX11_typed4_38 : decode cX11_typed4 38 = .ok (.return_, 1) := by decide +kernel
theorem gX11_feed_X11_typed4 : GoodIn wsX11_feed (wsV RX11 163 RX11 yX11_typed4 wsX11_typed4) := gw_c t_w593 (gw_c t_w592 (gw_c t_w591 (gw_c t_w510 (gw_c t_w590 (gw_t)))))
theorem dX11_feed_0 : decode cX11_feed 0 = .ok (.aload_n 0, 1) := by decide +kernel
theorem dX11_feed_1 : decode cX11_feed 1 = .ok (.getfield 160, 3) := by decide +kernel
theorem dX11_feed_4 : decode cX11_feed 4 = .ok (.bipush 20, 2) := by decide +kernel
theorem dX11_feed_6 : decode cX11_feed 6 = .ok (.iadd, 1) := by decide +kernel
theorem dX11_feed_7 : decode cX11_feed 7 = .ok (.sipush 200, 3) := by decide +kernel
theorem dX11_feed_10 : decode cX11_feed 10 = .ok (.if_icmp .le 5, 3) := by decide +kernel
theorem dX11_feed_13 : decode cX11_feed 13 = .ok (.iconst (-1), 1) := by decide +kernel
theorem dX11_feed_14 : decode cX11_feed 14 = .ok (.ireturn, 1) := by decide +kernel
theorem dX11_feed_15 : decode cX11_feed 15 = .ok (.aload_n 0, 1) := by decide +kernel
theorem dX11_feed_16 : decode cX11_feed 16 = .ok (.iload_n 1, 1) := by decide +kernel
theorem dX11_feed_17 : decode cX11_feed 17 = .ok (.invokevirtual 163, 3) := by decide +kernel
theorem dX11_feed_20 : decode cX11_feed 20 = .ok (.aload_n 0, 1) := by decide +kernel
theorem dX11_feed_21 : decode cX11_feed 21 = .ok (.iload_n 2, 1) := by decide +kernel
theorem dX11_feed_22 : decode cX11_feed 22 = .ok (.invokevirtual 163, 3) := by decide +kernel
theorem dX11_feed_25 : decode cX11_feed 25 = .ok (.aload_n 0, 1) := by decide +kernel
theorem dX11_feed_26 : decode cX11_feed 26 = .ok (.iload_n 3, 1) := by decide +kernel
theorem dX11_feed_27 : decode cX11_feed 27 = .ok (.invokevirtual 163, 3) := by decide +kernel
theorem dX11_feed_30 : decode cX11_feed 30 = .ok (.aload_n 0, 1) := by decide +kernel
theorem dX11_feed_31 : decode cX11_feed 31 = .ok (.iload 4, 2) := by decide +kernel
theorem dX11_feed_33 : decode cX11_feed 33 = .ok (.invokevirtual 163, 3) := by decide +kernel
theorem dX11_feed_36 : decode cX11_feed 36 = .ok (.aload_n 0, 1) := by decide +kernel
theorem dX11_feed_37 : decode cX11_feed 37 = .ok (.iload 5, 2) := by decide +kernel
theorem dX11_feed_39 : decode cX11_feed 39 = .ok (.invokevirtual 163, 3) := by decide +kernel
theorem dX11_feed_42 : decode cX11_feed 42 = .ok (.aload_n 0, 1) := by decide +kernel
theorem dX11_feed_43 : decode cX11_feed 43 = .ok (.getfield 160, 3) := by decide +kernel
theorem dX11_feed_46 : decode cX11_feed 46 = .ok (.ireturn, 1) := by decide +kernel
theorem dX11_wrong_0 : decode cX11_wrong 0 = .ok (.aload_n 0, 1) := by decide +kernel
theorem dX11_wrong_1 : decode cX11_wrong 1 = .ok (.getfield 167, 3) := by decide +kernel
theorem dX11_wrong_4 : decode cX11_wrong 4 = .ok (.ifCond .ne 14, 3) := by decide +kernel
theorem dX11_wrong_7 : decode cX11_wrong 7 = .ok (.aload_n 0, 1) := by decide +kernel
theorem dX11_wrong_8 : decode cX11_wrong 8 = .ok (.sipush (-1000), 3) := by decide +kernel
theorem dX11_wrong_11 : decode cX11_wrong 11 = .ok (.iload_n 1, 1) := by decide +kernel
theorem dX11_wrong_12 : decode cX11_wrong 12 = .ok (.imul, 1) := by decide +kernel
theorem dX11_wrong_13 : decode cX11_wrong 13 = .ok (.iload_n 2, 1) := by decide +kernel
theorem dX11_wrong_14 : decode cX11_wrong 14 = .ok (.isub, 1) := by decide +kernel
theorem dX11_wrong_15 : decode cX11_wrong 15 = .ok (.putfield 167, 3) := by decide +kernel
theorem dX11_wrong_18 : decode cX11_wrong 18 = .ok (.iconst 0, 1) := by decide +kernel
theorem dX11_wrong_19 : decode cX11_wrong 19 = .ok (.ireturn, 1) := by decide +kernel
theorem dX11_see_0 : decode cX11_see 0 = .ok (.aload_n 0, 1) := by decide +kernel
theorem dX11_see_1 : decode cX11_see 1 = .ok (.getfield 170, 3) := by decide +kernel
theorem dX11_see_4 : decode cX11_see 4 = .ok (.iload_n 1, 1) := by decide +kernel
theorem dX11_see_5 : decode cX11_see 5 = .ok (.if_icmp .ge 19, 3) := by decide +kernel
theorem dX11_see_8 : decode cX11_see 8 = .ok (.aload_n 0, 1) := by decide +kernel
theorem dX11_see_9 : decode cX11_see 9 = .ok (.getfield 31, 3) := by decide +kernel
theorem dX11_see_12 : decode cX11_see 12 = .ok (.aload_n 0, 1) := by decide +kernel
theorem dX11_see_13 : decode cX11_see 13 = .ok (.getfield 170, 3) := by decide +kernel
theorem dX11_see_16 : decode cX11_see 16 = .ok (.baload, 1) := by decide +kernel
theorem dX11_see_17 : decode cX11_see 17 = .ok (.sipush 255, 3) := by decide +kernel
theorem dX11_see_20 : decode cX11_see 20 = .ok (.iand, 1) := by decide +kernel
theorem dX11_see_21 : decode cX11_see 21 = .ok (.goto 4, 3) := by decide +kernel
theorem dX11_see_24 : decode cX11_see 24 = .ok (.iconst (-1), 1) := by decide +kernel
theorem dX11_see_25 : decode cX11_see 25 = .ok (.ireturn, 1) := by decide +kernel
theorem gX11_counts_X11_see : GoodIn wsX11_counts (wsV RX11 176 RX11 yX11_see wsX11_see) := gw_c t_w597 (gw_c t_w596 (gw_c t_w595 (gw_c t_w510 (gw_c t_w594 (gw_t)))))
theorem gX11_counts_X11_in : GoodIn wsX11_counts (va_wsS RX11 72 yX11_in wsX11_in) := gw_c t_w519 (gw_c t_w518 (gw_c t_w510 (gw_c t_w517 (gw_t))))
theorem gX11_counts_X11_wrong : GoodIn wsX11_counts (wsV RX11 183 RX11 yX11_wrong wsX11_wrong) := gw_c t_w601 (gw_c t_w600 (gw_c t_w599 (gw_c t_w510 (gw_c t_w598 (gw_t)))))
theorem dX11_counts_0 : decode cX11_counts 0 = .ok (.aload_n 0, 1) := by decide +kernel
theorem dX11_counts_1 : decode cX11_counts 1 = .ok (.getfield 170, 3) := by decide +kernel
theorem dX11_counts_4 : decode cX11_counts 4 = .ok (.istore_n 3, 1) := by decide +kernel
theorem dX11_counts_5 : decode cX11_counts 5 = .ok (.aload_n 0, 1) := by decide +kernel
theorem dX11_counts_6 : decode cX11_counts 6 = .ok (.iconst 0, 1) := by decide +kernel
theorem dX11_counts_7 : decode cX11_counts 7 = .ok (.putfield 173, 3) := by decide +kernel
theorem dX11_counts_10 : decode cX11_counts 10 = .ok (.aload_n 0, 1) := by decide +kernel
theorem dX11_counts_11 : decode cX11_counts 11 = .ok (.iload_n 1, 1) := by decide +kernel
theorem dX11_counts_12 : decode cX11_counts 12 = .ok (.invokevirtual 176, 3) := by decide +kernel
theorem dX11_counts_15 : decode cX11_counts 15 = .ok (.i2l, 1) := by decide +kernel
theorem dX11_counts_16 : decode cX11_counts 16 = .ok (.ldc2_w 179, 3) := by decide +kernel
theorem dX11_counts_19 : decode cX11_counts 19 = .ok (.ldc2_w 181, 3) := by decide +kernel
theorem dX11_counts_22 : decode cX11_counts 22 = .ok (.invokestatic 72, 3) := by decide +kernel
theorem dX11_counts_25 : decode cX11_counts 25 = .ok (.ifCond .eq 60, 3) := by decide +kernel
theorem dX11_counts_28 : decode cX11_counts 28 = .ok (.aload_n 0, 1) := by decide +kernel
theorem dX11_counts_29 : decode cX11_counts 29 = .ok (.getfield 170, 3) := by decide +kernel
theorem dX11_counts_32 : decode cX11_counts 32 = .ok (.iload_n 3, 1) := by decide +kernel
theorem dX11_counts_33 : decode cX11_counts 33 = .ok (.isub, 1) := by decide +kernel
theorem dX11_counts_34 : decode cX11_counts 34 = .ok (.iconst 2, 1) := by decide +kernel
theorem dX11_counts_35 : decode cX11_counts 35 = .ok (.if_icmp .ne 13, 3) := by decide +kernel
theorem dX11_counts_38 : decode cX11_counts 38 = .ok (.aload_n 0, 1) := by decide +kernel
theorem dX11_counts_39 : decode cX11_counts 39 = .ok (.iconst 1, 1) := by decide +kernel
theorem dX11_counts_40 : decode cX11_counts 40 = .ok (.aload_n 0, 1) := by decide +kernel
theorem dX11_counts_41 : decode cX11_counts 41 = .ok (.getfield 170, 3) := by decide +kernel
theorem dX11_counts_44 : decode cX11_counts 44 = .ok (.invokevirtual 183, 3) := by decide +kernel
theorem dX11_counts_47 : decode cX11_counts 47 = .ok (.ireturn, 1) := by decide +kernel
theorem dX11_counts_48 : decode cX11_counts 48 = .ok (.aload_n 0, 1) := by decide +kernel
theorem dX11_counts_49 : decode cX11_counts 49 = .ok (.bipush 10, 2) := by decide +kernel
theorem dX11_counts_51 : decode cX11_counts 51 = .ok (.aload_n 0, 1) := by decide +kernel
theorem dX11_counts_52 : decode cX11_counts 52 = .ok (.getfield 173, 3) := by decide +kernel
theorem dX11_counts_55 : decode cX11_counts 55 = .ok (.imul, 1) := by decide +kernel
theorem dX11_counts_56 : decode cX11_counts 56 = .ok (.aload_n 0, 1) := by decide +kernel
theorem dX11_counts_57 : decode cX11_counts 57 = .ok (.getfield 31, 3) := by decide +kernel
theorem dX11_counts_60 : decode cX11_counts 60 = .ok (.aload_n 0, 1) := by decide +kernel
theorem dX11_counts_61 : decode cX11_counts 61 = .ok (.getfield 170, 3) := by decide +kernel
theorem dX11_counts_64 : decode cX11_counts 64 = .ok (.baload, 1) := by decide +kernel
theorem dX11_counts_65 : decode cX11_counts 65 = .ok (.iadd, 1) := by decide +kernel
theorem dX11_counts_66 : decode cX11_counts 66 = .ok (.bipush 48, 2) := by decide +kernel
theorem dX11_counts_68 : decode cX11_counts 68 = .ok (.isub, 1) := by decide +kernel
theorem dX11_counts_69 : decode cX11_counts 69 = .ok (.putfield 173, 3) := by decide +kernel
theorem dX11_counts_72 : decode cX11_counts 72 = .ok (.aload_n 0, 1) := by decide +kernel
theorem dX11_counts_73 : decode cX11_counts 73 = .ok (.aload_n 0, 1) := by decide +kernel
theorem dX11_counts_74 : decode cX11_counts 74 = .ok (.getfield 170, 3) := by decide +kernel
theorem dX11_counts_77 : decode cX11_counts 77 = .ok (.iconst 1, 1) := by decide +kernel
theorem dX11_counts_78 : decode cX11_counts 78 = .ok (.iadd, 1) := by decide +kernel
theorem dX11_counts_79 : decode cX11_counts 79 = .ok (.putfield 170, 3) := by decide +kernel
theorem dX11_counts_82 : decode cX11_counts 82 = .ok (.goto (-72), 3) := by decide +kernel
theorem dX11_counts_85 : decode cX11_counts 85 = .ok (.aload_n 0, 1) := by decide +kernel
theorem dX11_counts_86 : decode cX11_counts 86 = .ok (.getfield 170, 3) := by decide +kernel
theorem dX11_counts_89 : decode cX11_counts 89 = .ok (.iload_n 3, 1) := by decide +kernel
theorem dX11_counts_90 : decode cX11_counts 90 = .ok (.if_icmp .ne 13, 3) := by decide +kernel
theorem dX11_counts_93 : decode cX11_counts 93 = .ok (.aload_n 0, 1) := by decide +kernel
theorem dX11_counts_94 : decode cX11_counts 94 = .ok (.iconst 1, 1) := by decide +kernel
theorem dX11_counts_95 : decode cX11_counts 95 = .ok (.aload_n 0, 1) := by decide +kernel
theorem dX11_counts_96 : decode cX11_counts 96 = .ok (.getfield 170, 3) := by decide +kernel
theorem dX11_counts_99 : decode cX11_counts 99 = .ok (.invokevirtual 183, 3) := by decide +kernel
theorem dX11_counts_102 : decode cX11_counts 102 = .ok (.ireturn, 1) := by decide +kernel
theorem dX11_counts_103 : decode cX11_counts 103 = .ok (.aload_n 0, 1) := by decide +kernel
theorem dX11_counts_104 : decode cX11_counts 104 = .ok (.getfield 173, 3) := by decide +kernel
theorem dX11_counts_107 : decode cX11_counts 107 = .ok (.i2l, 1) := by decide +kernel
theorem dX11_counts_108 : decode cX11_counts 108 = .ok (.lconst 1, 1) := by decide +kernel
theorem dX11_counts_109 : decode cX11_counts 109 = .ok (.iload_n 2, 1) := by decide +kernel
theorem dX11_counts_110 : decode cX11_counts 110 = .ok (.i2l, 1) := by decide +kernel
theorem dX11_counts_111 : decode cX11_counts 111 = .ok (.invokestatic 72, 3) := by decide +kernel
theorem dX11_counts_114 : decode cX11_counts 114 = .ok (.ifCond .ne 12, 3) := by decide +kernel
theorem dX11_counts_117 : decode cX11_counts 117 = .ok (.aload_n 0, 1) := by decide +kernel
theorem dX11_counts_118 : decode cX11_counts 118 = .ok (.iconst 2, 1) := by decide +kernel
theorem dX11_counts_119 : decode cX11_counts 119 = .ok (.iload_n 3, 1) := by decide +kernel
theorem dX11_counts_120 : decode cX11_counts 120 = .ok (.invokevirtual 183, 3) := by decide +kernel
theorem dX11_counts_123 : decode cX11_counts 123 = .ok (.ifCond .eq 7, 3) := by decide +kernel
theorem dX11_counts_126 : decode cX11_counts 126 = .ok (.iconst 1, 1) := by decide +kernel
theorem dX11_counts_127 : decode cX11_counts 127 = .ok (.goto 4, 3) := by decide +kernel
theorem dX11_counts_130 : decode cX11_counts 130 = .ok (.iconst 0, 1) := by decide +kernel
theorem dX11_counts_131 : decode cX11_counts 131 = .ok (.ireturn, 1) := by decide +kernel
theorem gX11_readsName_X11_see : GoodIn wsX11_readsName (wsV RX11 176 RX11 yX11_see wsX11_see) := gw_c t_w597 (gw_c t_w596 (gw_c t_w595 (gw_c t_w510 (gw_c t_w594 (gw_t)))))
theorem gX11_readsName_X11_wrong : GoodIn wsX11_readsName (wsV RX11 183 RX11 yX11_wrong wsX11_wrong) := gw_c t_w601 (gw_c t_w600 (gw_c t_w599 (gw_c t_w510 (gw_c t_w598 (gw_t)))))
theorem gX11_readsName_X11_in : GoodIn wsX11_readsName (va_wsS RX11 72 yX11_in wsX11_in) := gw_c t_w519 (gw_c t_w518 (gw_c t_w510 (gw_c t_w517 (gw_t))))
theorem gX11_readsName_X11_sheets : GoodIn wsX11_readsName (wsV RX11 88 RX11 yX11_sheets wsX11_sheets) := gw_c t_w526 (gw_c t_w525 (gw_c t_w524 (gw_c t_w510 (gw_c t_w523 (gw_t)))))
theorem gX11_readsName_X11_zonesOf : GoodIn wsX11_readsName (va_wsS RX11 63 yX11_zonesOf wsX11_zonesOf) := gw_c t_w512 (gw_c t_w511 (gw_c t_w510 (gw_c t_w509 (gw_t))))
theorem gX11_readsName_X11_counts : GoodIn wsX11_readsName (wsV RX11 196 RX11 yX11_counts wsX11_counts) := gw_c t_w605 (gw_c t_w604 (gw_c t_w603 (gw_c t_w510 (gw_c t_w602 (gw_t)))))
theorem gX11_readsName_X11_keyOf : GoodIn wsX11_readsName (wsV RX11 104 RX11 yX11_keyOf wsX11_keyOf) := gw_c t_w546 (gw_c t_w545 (gw_c t_w544 (gw_c t_w510 (gw_c t_w543 (gw_t)))))
theorem dX11_readsName_0 : decode cX11_readsName 0 = .ok (.aload_n 0, 1) := by decide +kernel
theorem dX11_readsName_1 : decode cX11_readsName 1 = .ok (.iload_n 1, 1) := by decide +kernel
theorem dX11_readsName_2 : decode cX11_readsName 2 = .ok (.invokevirtual 176, 3) := by decide +kernel
theorem dX11_readsName_5 : decode cX11_readsName 5 = .ok (.istore_n 2, 1) := by decide +kernel
theorem dX11_readsName_6 : decode cX11_readsName 6 = .ok (.iload_n 2, 1) := by decide +kernel
theorem dX11_readsName_7 : decode cX11_readsName 7 = .ok (.bipush 78, 2) := by decide +kernel
theorem dX11_readsName_9 : decode cX11_readsName 9 = .ok (.if_icmp .eq 19, 3) := by decide +kernel
theorem dX11_readsName_12 : decode cX11_readsName 12 = .ok (.iload_n 2, 1) := by decide +kernel
theorem dX11_readsName_13 : decode cX11_readsName 13 = .ok (.bipush 83, 2) := by decide +kernel
theorem dX11_readsName_15 : decode cX11_readsName 15 = .ok (.if_icmp .eq 13, 3) := by decide +kernel
theorem dX11_readsName_18 : decode cX11_readsName 18 = .ok (.aload_n 0, 1) := by decide +kernel
theorem dX11_readsName_19 : decode cX11_readsName 19 = .ok (.iconst 1, 1) := by decide +kernel
theorem dX11_readsName_20 : decode cX11_readsName 20 = .ok (.aload_n 0, 1) := by decide +kernel
theorem dX11_readsName_21 : decode cX11_readsName 21 = .ok (.getfield 170, 3) := by decide +kernel
theorem dX11_readsName_24 : decode cX11_readsName 24 = .ok (.invokevirtual 183, 3) := by decide +kernel
theorem dX11_readsName_27 : decode cX11_readsName 27 = .ok (.ireturn, 1) := by decide +kernel
theorem dX11_readsName_28 : decode cX11_readsName 28 = .ok (.aload_n 0, 1) := by decide +kernel
theorem dX11_readsName_29 : decode cX11_readsName 29 = .ok (.aload_n 0, 1) := by decide +kernel
theorem dX11_readsName_30 : decode cX11_readsName 30 = .ok (.getfield 170, 3) := by decide +kernel
theorem dX11_readsName_33 : decode cX11_readsName 33 = .ok (.iconst 1, 1) := by decide +kernel
theorem dX11_readsName_34 : decode cX11_readsName 34 = .ok (.iadd, 1) := by decide +kernel
theorem dX11_readsName_35 : decode cX11_readsName 35 = .ok (.putfield 170, 3) := by decide +kernel
theorem dX11_readsName_38 : decode cX11_readsName 38 = .ok (.aload_n 0, 1) := by decide +kernel
theorem dX11_readsName_39 : decode cX11_readsName 39 = .ok (.iload_n 1, 1) := by decide +kernel
theorem dX11_readsName_40 : decode cX11_readsName 40 = .ok (.invokevirtual 176, 3) := by decide +kernel
theorem dX11_readsName_43 : decode cX11_readsName 43 = .ok (.istore_n 3, 1) := by decide +kernel
theorem dX11_readsName_44 : decode cX11_readsName 44 = .ok (.iload_n 3, 1) := by decide +kernel
theorem dX11_readsName_45 : decode cX11_readsName 45 = .ok (.i2l, 1) := by decide +kernel
theorem dX11_readsName_46 : decode cX11_readsName 46 = .ok (.ldc2_w 186, 3) := by decide +kernel
theorem dX11_readsName_49 : decode cX11_readsName 49 = .ok (.ldc2_w 188, 3) := by decide +kernel
theorem dX11_readsName_52 : decode cX11_readsName 52 = .ok (.invokestatic 72, 3) := by decide +kernel
theorem dX11_readsName_55 : decode cX11_readsName 55 = .ok (.ifCond .ne 19, 3) := by decide +kernel
theorem dX11_readsName_58 : decode cX11_readsName 58 = .ok (.iload_n 3, 1) := by decide +kernel
theorem dX11_readsName_59 : decode cX11_readsName 59 = .ok (.bipush 90, 2) := by decide +kernel
theorem dX11_readsName_61 : decode cX11_readsName 61 = .ok (.if_icmp .eq 13, 3) := by decide +kernel
theorem dX11_readsName_64 : decode cX11_readsName 64 = .ok (.aload_n 0, 1) := by decide +kernel
theorem dX11_readsName_65 : decode cX11_readsName 65 = .ok (.iconst 1, 1) := by decide +kernel
theorem dX11_readsName_66 : decode cX11_readsName 66 = .ok (.aload_n 0, 1) := by decide +kernel
theorem dX11_readsName_67 : decode cX11_readsName 67 = .ok (.getfield 170, 3) := by decide +kernel
theorem dX11_readsName_70 : decode cX11_readsName 70 = .ok (.invokevirtual 183, 3) := by decide +kernel
theorem dX11_readsName_73 : decode cX11_readsName 73 = .ok (.ireturn, 1) := by decide +kernel
theorem dX11_readsName_74 : decode cX11_readsName 74 = .ok (.aload_n 0, 1) := by decide +kernel
theorem dX11_readsName_75 : decode cX11_readsName 75 = .ok (.aload_n 0, 1) := by decide +kernel
theorem dX11_readsName_76 : decode cX11_readsName 76 = .ok (.getfield 170, 3) := by decide +kernel
theorem dX11_readsName_79 : decode cX11_readsName 79 = .ok (.iconst 1, 1) := by decide +kernel
theorem dX11_readsName_80 : decode cX11_readsName 80 = .ok (.iadd, 1) := by decide +kernel
theorem dX11_readsName_81 : decode cX11_readsName 81 = .ok (.putfield 170, 3) := by decide +kernel
theorem dX11_readsName_84 : decode cX11_readsName 84 = .ok (.aload_n 0, 1) := by decide +kernel
theorem dX11_readsName_85 : decode cX11_readsName 85 = .ok (.iconst 0, 1) := by decide +kernel
theorem dX11_readsName_86 : decode cX11_readsName 86 = .ok (.putfield 190, 3) := by decide +kernel
theorem dX11_readsName_89 : decode cX11_readsName 89 = .ok (.iload_n 3, 1) := by decide +kernel
theorem dX11_readsName_90 : decode cX11_readsName 90 = .ok (.bipush 90, 2) := by decide +kernel
theorem dX11_readsName_92 : decode cX11_readsName 92 = .ok (.if_icmp .ne 50, 3) := by decide +kernel
theorem dX11_readsName_95 : decode cX11_readsName 95 = .ok (.aload_n 0, 1) := by decide +kernel
theorem dX11_readsName_96 : decode cX11_readsName 96 = .ok (.iload_n 2, 1) := by decide +kernel
theorem dX11_readsName_97 : decode cX11_readsName 97 = .ok (.bipush 78, 2) := by decide +kernel
theorem dX11_readsName_99 : decode cX11_readsName 99 = .ok (.if_icmp .ne 7, 3) := by decide +kernel
theorem dX11_readsName_102 : decode cX11_readsName 102 = .ok (.iconst 0, 1) := by decide +kernel
theorem dX11_readsName_103 : decode cX11_readsName 103 = .ok (.goto 10, 3) := by decide +kernel
theorem dX11_readsName_106 : decode cX11_readsName 106 = .ok (.aload_n 0, 1) := by decide +kernel
theorem dX11_readsName_107 : decode cX11_readsName 107 = .ok (.iconst 0, 1) := by decide +kernel
theorem dX11_readsName_108 : decode cX11_readsName 108 = .ok (.invokevirtual 88, 3) := by decide +kernel
theorem dX11_readsName_111 : decode cX11_readsName 111 = .ok (.iconst 1, 1) := by decide +kernel
theorem dX11_readsName_112 : decode cX11_readsName 112 = .ok (.isub, 1) := by decide +kernel
theorem dX11_readsName_113 : decode cX11_readsName 113 = .ok (.putfield 193, 3) := by decide +kernel
theorem dX11_readsName_116 : decode cX11_readsName 116 = .ok (.aload_n 0, 1) := by decide +kernel
theorem dX11_readsName_117 : decode cX11_readsName 117 = .ok (.getfield 170, 3) := by decide +kernel
theorem dX11_readsName_120 : decode cX11_readsName 120 = .ok (.iload_n 1, 1) := by decide +kernel
theorem dX11_readsName_121 : decode cX11_readsName 121 = .ok (.if_icmp .eq 15, 3) := by decide +kernel
theorem dX11_readsName_124 : decode cX11_readsName 124 = .ok (.aload_n 0, 1) := by decide +kernel
theorem dX11_readsName_125 : decode cX11_readsName 125 = .ok (.iconst 1, 1) := by decide +kernel
theorem dX11_readsName_126 : decode cX11_readsName 126 = .ok (.aload_n 0, 1) := by decide +kernel
theorem dX11_readsName_127 : decode cX11_readsName 127 = .ok (.getfield 170, 3) := by decide +kernel
theorem dX11_readsName_130 : decode cX11_readsName 130 = .ok (.invokevirtual 183, 3) := by decide +kernel
theorem dX11_readsName_133 : decode cX11_readsName 133 = .ok (.ifCond .eq 7, 3) := by decide +kernel
theorem dX11_readsName_136 : decode cX11_readsName 136 = .ok (.iconst 1, 1) := by decide +kernel
theorem dX11_readsName_137 : decode cX11_readsName 137 = .ok (.goto 4, 3) := by decide +kernel
theorem dX11_readsName_140 : decode cX11_readsName 140 = .ok (.iconst 0, 1) := by decide +kernel
theorem dX11_readsName_141 : decode cX11_readsName 141 = .ok (.ireturn, 1) := by decide +kernel
theorem dX11_readsName_142 : decode cX11_readsName 142 = .ok (.iload_n 2, 1) := by decide +kernel
theorem dX11_readsName_143 : decode cX11_readsName 143 = .ok (.bipush 78, 2) := by decide +kernel
theorem dX11_readsName_145 : decode cX11_readsName 145 = .ok (.if_icmp .ne 13, 3) := by decide +kernel
theorem dX11_readsName_148 : decode cX11_readsName 148 = .ok (.bipush 21, 2) := by decide +kernel
theorem dX11_readsName_150 : decode cX11_readsName 150 = .ok (.iload_n 3, 1) := by decide +kernel
theorem dX11_readsName_151 : decode cX11_readsName 151 = .ok (.bipush 65, 2) := by decide +kernel
theorem dX11_readsName_153 : decode cX11_readsName 153 = .ok (.isub, 1) := by decide +kernel
theorem dX11_readsName_154 : decode cX11_readsName 154 = .ok (.isub, 1) := by decide +kernel
theorem dX11_readsName_155 : decode cX11_readsName 155 = .ok (.goto 10, 3) := by decide +kernel
theorem dX11_readsName_158 : decode cX11_readsName 158 = .ok (.bipush 22, 2) := by decide +kernel
theorem dX11_readsName_160 : decode cX11_readsName 160 = .ok (.iload_n 3, 1) := by decide +kernel
theorem dX11_readsName_161 : decode cX11_readsName 161 = .ok (.iadd, 1) := by decide +kernel
theorem dX11_readsName_162 : decode cX11_readsName 162 = .ok (.bipush 65, 2) := by decide +kernel
theorem dX11_readsName_164 : decode cX11_readsName 164 = .ok (.isub, 1) := by decide +kernel
theorem dX11_readsName_165 : decode cX11_readsName 165 = .ok (.istore 4, 2) := by decide +kernel
theorem dX11_readsName_167 : decode cX11_readsName 167 = .ok (.aload_n 0, 1) := by decide +kernel
theorem dX11_readsName_168 : decode cX11_readsName 168 = .ok (.iload_n 1, 1) := by decide +kernel
theorem dX11_readsName_169 : decode cX11_readsName 169 = .ok (.iload 4, 2) := by decide +kernel
theorem dX11_readsName_171 : decode cX11_readsName 171 = .ok (.invokestatic 63, 3) := by decide +kernel
theorem dX11_readsName_174 : decode cX11_readsName 174 = .ok (.invokevirtual 196, 3) := by decide +kernel
theorem dX11_readsName_177 : decode cX11_readsName 177 = .ok (.ifCond .ne 5, 3) := by decide +kernel
theorem dX11_readsName_180 : decode cX11_readsName 180 = .ok (.iconst 0, 1) := by decide +kernel
theorem dX11_readsName_181 : decode cX11_readsName 181 = .ok (.ireturn, 1) := by decide +kernel
theorem dX11_readsName_182 : decode cX11_readsName 182 = .ok (.iload 4, 2) := by decide +kernel
theorem dX11_readsName_184 : decode cX11_readsName 184 = .ok (.istore 5, 2) := by decide +kernel
theorem dX11_readsName_186 : decode cX11_readsName 186 = .ok (.aload_n 0, 1) := by decide +kernel
theorem dX11_readsName_187 : decode cX11_readsName 187 = .ok (.getfield 173, 3) := by decide +kernel
theorem dX11_readsName_190 : decode cX11_readsName 190 = .ok (.iconst 1, 1) := by decide +kernel
theorem dX11_readsName_191 : decode cX11_readsName 191 = .ok (.isub, 1) := by decide +kernel
theorem dX11_readsName_192 : decode cX11_readsName 192 = .ok (.istore 6, 2) := by decide +kernel
theorem dX11_readsName_194 : decode cX11_readsName 194 = .ok (.aload_n 0, 1) := by decide +kernel
theorem dX11_readsName_195 : decode cX11_readsName 195 = .ok (.getfield 170, 3) := by decide +kernel
theorem dX11_readsName_198 : decode cX11_readsName 198 = .ok (.iload_n 1, 1) := by decide +kernel
theorem dX11_readsName_199 : decode cX11_readsName 199 = .ok (.if_icmp .ge 138, 3) := by decide +kernel
theorem dX11_readsName_202 : decode cX11_readsName 202 = .ok (.aload_n 0, 1) := by decide +kernel
theorem dX11_readsName_203 : decode cX11_readsName 203 = .ok (.iload_n 1, 1) := by decide +kernel
theorem dX11_readsName_204 : decode cX11_readsName 204 = .ok (.invokevirtual 176, 3) := by decide +kernel
theorem dX11_readsName_207 : decode cX11_readsName 207 = .ok (.bipush 45, 2) := by decide +kernel
theorem dX11_readsName_209 : decode cX11_readsName 209 = .ok (.if_icmp .eq 13, 3) := by decide +kernel
theorem dX11_readsName_212 : decode cX11_readsName 212 = .ok (.aload_n 0, 1) := by decide +kernel
theorem dX11_readsName_213 : decode cX11_readsName 213 = .ok (.iconst 1, 1) := by decide +kernel
theorem dX11_readsName_214 : decode cX11_readsName 214 = .ok (.aload_n 0, 1) := by decide +kernel
theorem dX11_readsName_215 : decode cX11_readsName 215 = .ok (.getfield 170, 3) := by decide +kernel
theorem dX11_readsName_218 : decode cX11_readsName 218 = .ok (.invokevirtual 183, 3) := by decide +kernel
theorem dX11_readsName_221 : decode cX11_readsName 221 = .ok (.ireturn, 1) := by decide +kernel
theorem dX11_readsName_222 : decode cX11_readsName 222 = .ok (.aload_n 0, 1) := by decide +kernel
theorem dX11_readsName_223 : decode cX11_readsName 223 = .ok (.getfield 190, 3) := by decide +kernel
theorem dX11_readsName_226 : decode cX11_readsName 226 = .ok (.iconst 4, 1) := by decide +kernel
theorem dX11_readsName_227 : decode cX11_readsName 227 = .ok (.if_icmp .ne 13, 3) := by decide +kernel
theorem dX11_readsName_230 : decode cX11_readsName 230 = .ok (.aload_n 0, 1) := by decide +kernel
theorem dX11_readsName_231 : decode cX11_readsName 231 = .ok (.iconst 3, 1) := by decide +kernel
theorem dX11_readsName_232 : decode cX11_readsName 232 = .ok (.aload_n 0, 1) := by decide +kernel
theorem dX11_readsName_233 : decode cX11_readsName 233 = .ok (.getfield 170, 3) := by decide +kernel
theorem dX11_readsName_236 : decode cX11_readsName 236 = .ok (.invokevirtual 183, 3) := by decide +kernel
theorem dX11_readsName_239 : decode cX11_readsName 239 = .ok (.ireturn, 1) := by decide +kernel
theorem dX11_readsName_240 : decode cX11_readsName 240 = .ok (.aload_n 0, 1) := by decide +kernel
theorem dX11_readsName_241 : decode cX11_readsName 241 = .ok (.aload_n 0, 1) := by decide +kernel
theorem dX11_readsName_242 : decode cX11_readsName 242 = .ok (.getfield 170, 3) := by decide +kernel
theorem dX11_readsName_245 : decode cX11_readsName 245 = .ok (.iconst 1, 1) := by decide +kernel
theorem dX11_readsName_246 : decode cX11_readsName 246 = .ok (.iadd, 1) := by decide +kernel
theorem dX11_readsName_247 : decode cX11_readsName 247 = .ok (.putfield 170, 3) := by decide +kernel
theorem dX11_readsName_250 : decode cX11_readsName 250 = .ok (.aload_n 0, 1) := by decide +kernel
theorem dX11_readsName_251 : decode cX11_readsName 251 = .ok (.aload_n 0, 1) := by decide +kernel
theorem dX11_readsName_252 : decode cX11_readsName 252 = .ok (.getfield 190, 3) := by decide +kernel
theorem dX11_readsName_255 : decode cX11_readsName 255 = .ok (.iconst 1, 1) := by decide +kernel
theorem dX11_readsName_256 : decode cX11_readsName 256 = .ok (.iadd, 1) := by decide +kernel
theorem dX11_readsName_257 : decode cX11_readsName 257 = .ok (.putfield 190, 3) := by decide +kernel
theorem dX11_readsName_260 : decode cX11_readsName 260 = .ok (.aload_n 0, 1) := by decide +kernel
theorem dX11_readsName_261 : decode cX11_readsName 261 = .ok (.getfield 13, 3) := by decide +kernel
theorem dX11_readsName_264 : decode cX11_readsName 264 = .ok (.aload_n 0, 1) := by decide +kernel
theorem dX11_readsName_265 : decode cX11_readsName 265 = .ok (.getfield 190, 3) := by decide +kernel
theorem dX11_readsName_268 : decode cX11_readsName 268 = .ok (.iaload, 1) := by decide +kernel
theorem dX11_readsName_269 : decode cX11_readsName 269 = .ok (.istore 7, 2) := by decide +kernel
theorem dX11_readsName_271 : decode cX11_readsName 271 = .ok (.aload_n 0, 1) := by decide +kernel
theorem dX11_readsName_272 : decode cX11_readsName 272 = .ok (.iload_n 1, 1) := by decide +kernel
theorem dX11_readsName_273 : decode cX11_readsName 273 = .ok (.aload_n 0, 1) := by decide +kernel
theorem dX11_readsName_274 : decode cX11_readsName 274 = .ok (.getfield 7, 3) := by decide +kernel
theorem dX11_readsName_277 : decode cX11_readsName 277 = .ok (.aload_n 0, 1) := by decide +kernel
theorem dX11_readsName_278 : decode cX11_readsName 278 = .ok (.getfield 190, 3) := by decide +kernel
theorem dX11_readsName_281 : decode cX11_readsName 281 = .ok (.iaload, 1) := by decide +kernel
theorem dX11_readsName_282 : decode cX11_readsName 282 = .ok (.iload 7, 2) := by decide +kernel
theorem dX11_readsName_284 : decode cX11_readsName 284 = .ok (.imul, 1) := by decide +kernel
theorem dX11_readsName_285 : decode cX11_readsName 285 = .ok (.invokevirtual 196, 3) := by decide +kernel
theorem dX11_readsName_288 : decode cX11_readsName 288 = .ok (.ifCond .ne 5, 3) := by decide +kernel
theorem dX11_readsName_291 : decode cX11_readsName 291 = .ok (.iconst 0, 1) := by decide +kernel
theorem dX11_readsName_292 : decode cX11_readsName 292 = .ok (.ireturn, 1) := by decide +kernel
theorem dX11_readsName_293 : decode cX11_readsName 293 = .ok (.iload 5, 2) := by decide +kernel
theorem dX11_readsName_295 : decode cX11_readsName 295 = .ok (.aload_n 0, 1) := by decide +kernel
theorem dX11_readsName_296 : decode cX11_readsName 296 = .ok (.getfield 7, 3) := by decide +kernel
theorem dX11_readsName_299 : decode cX11_readsName 299 = .ok (.aload_n 0, 1) := by decide +kernel
theorem dX11_readsName_300 : decode cX11_readsName 300 = .ok (.getfield 190, 3) := by decide +kernel
theorem dX11_readsName_303 : decode cX11_readsName 303 = .ok (.iaload, 1) := by decide +kernel
theorem dX11_readsName_304 : decode cX11_readsName 304 = .ok (.imul, 1) := by decide +kernel
theorem dX11_readsName_305 : decode cX11_readsName 305 = .ok (.aload_n 0, 1) := by decide +kernel
theorem dX11_readsName_306 : decode cX11_readsName 306 = .ok (.getfield 173, 3) := by decide +kernel
theorem dX11_readsName_309 : decode cX11_readsName 309 = .ok (.iconst 1, 1) := by decide +kernel
theorem dX11_readsName_310 : decode cX11_readsName 310 = .ok (.isub, 1) := by decide +kernel
theorem dX11_readsName_311 : decode cX11_readsName 311 = .ok (.iload 7, 2) := by decide +kernel
theorem dX11_readsName_313 : decode cX11_readsName 313 = .ok (.idiv, 1) := by decide +kernel
theorem dX11_readsName_314 : decode cX11_readsName 314 = .ok (.iadd, 1) := by decide +kernel
theorem dX11_readsName_315 : decode cX11_readsName 315 = .ok (.istore 5, 2) := by decide +kernel
theorem dX11_readsName_317 : decode cX11_readsName 317 = .ok (.iload 6, 2) := by decide +kernel
theorem dX11_readsName_319 : decode cX11_readsName 319 = .ok (.iload 7, 2) := by decide +kernel
theorem dX11_readsName_321 : decode cX11_readsName 321 = .ok (.imul, 1) := by decide +kernel
theorem dX11_readsName_322 : decode cX11_readsName 322 = .ok (.aload_n 0, 1) := by decide +kernel
theorem dX11_readsName_323 : decode cX11_readsName 323 = .ok (.getfield 173, 3) := by decide +kernel
theorem dX11_readsName_326 : decode cX11_readsName 326 = .ok (.iconst 1, 1) := by decide +kernel
theorem dX11_readsName_327 : decode cX11_readsName 327 = .ok (.isub, 1) := by decide +kernel
theorem dX11_readsName_328 : decode cX11_readsName 328 = .ok (.iload 7, 2) := by decide +kernel
theorem dX11_readsName_330 : decode cX11_readsName 330 = .ok (.irem, 1) := by decide +kernel
theorem dX11_readsName_331 : decode cX11_readsName 331 = .ok (.iadd, 1) := by decide +kernel
theorem dX11_readsName_332 : decode cX11_readsName 332 = .ok (.istore 6, 2) := by decide +kernel
theorem dX11_readsName_334 : decode cX11_readsName 334 = .ok (.goto (-140), 3) := by decide +kernel
theorem dX11_readsName_337 : decode cX11_readsName 337 = .ok (.aload_n 0, 1) := by decide +kernel
theorem dX11_readsName_338 : decode cX11_readsName 338 = .ok (.aload_n 0, 1) := by decide +kernel
theorem dX11_readsName_339 : decode cX11_readsName 339 = .ok (.aload_n 0, 1) := by decide +kernel
theorem dX11_readsName_340 : decode cX11_readsName 340 = .ok (.getfield 190, 3) := by decide +kernel
theorem dX11_readsName_343 : decode cX11_readsName 343 = .ok (.iconst 1, 1) := by decide +kernel
theorem dX11_readsName_344 : decode cX11_readsName 344 = .ok (.iload 5, 2) := by decide +kernel
theorem dX11_readsName_346 : decode cX11_readsName 346 = .ok (.iadd, 1) := by decide +kernel
theorem dX11_readsName_347 : decode cX11_readsName 347 = .ok (.iload 6, 2) := by decide +kernel
theorem dX11_readsName_349 : decode cX11_readsName 349 = .ok (.invokevirtual 104, 3) := by decide +kernel
theorem dX11_readsName_352 : decode cX11_readsName 352 = .ok (.putfield 193, 3) := by decide +kernel
theorem dX11_readsName_355 : decode cX11_readsName 355 = .ok (.iconst 1, 1) := by decide +kernel
theorem dX11_readsName_356 : decode cX11_readsName 356 = .ok (.ireturn, 1) := by decide +kernel
theorem dX11_counted_0 : decode cX11_counted 0 = .ok (.aload_n 0, 1) := by decide +kernel
theorem dX11_counted_1 : decode cX11_counted 1 = .ok (.aload_n 0, 1) := by decide +kernel
theorem dX11_counted_2 : decode cX11_counted 2 = .ok (.getfield 199, 3) := by decide +kernel
theorem dX11_counted_5 : decode cX11_counted 5 = .ok (.iload_n 1, 1) := by decide +kernel
theorem dX11_counted_6 : decode cX11_counted 6 = .ok (.ifCond .eq 7, 3) := by decide +kernel
theorem dX11_counted_9 : decode cX11_counted 9 = .ok (.iconst 1, 1) := by decide +kernel
theorem dX11_counted_10 : decode cX11_counted 10 = .ok (.goto 4, 3) := by decide +kernel
theorem dX11_counted_13 : decode cX11_counted 13 = .ok (.iconst 0, 1) := by decide +kernel
theorem dX11_counted_14 : decode cX11_counted 14 = .ok (.iadd, 1) := by decide +kernel
theorem dX11_counted_15 : decode cX11_counted 15 = .ok (.putfield 199, 3) := by decide +kernel
theorem dX11_counted_18 : decode cX11_counted 18 = .ok (.aload_n 0, 1) := by decide +kernel
theorem dX11_counted_19 : decode cX11_counted 19 = .ok (.aload_n 0, 1) := by decide +kernel
theorem dX11_counted_20 : decode cX11_counted 20 = .ok (.getfield 202, 3) := by decide +kernel
theorem dX11_counted_23 : decode cX11_counted 23 = .ok (.iload_n 1, 1) := by decide +kernel
theorem dX11_counted_24 : decode cX11_counted 24 = .ok (.ifCond .eq 7, 3) := by decide +kernel
theorem dX11_counted_27 : decode cX11_counted 27 = .ok (.iconst 0, 1) := by decide +kernel
theorem dX11_counted_28 : decode cX11_counted 28 = .ok (.goto 4, 3) := by decide +kernel
theorem dX11_counted_31 : decode cX11_counted 31 = .ok (.iconst 1, 1) := by decide +kernel
theorem dX11_counted_32 : decode cX11_counted 32 = .ok (.iadd, 1) := by decide +kernel
theorem dX11_counted_33 : decode cX11_counted 33 = .ok (.putfield 202, 3) := by decide +kernel
theorem dX11_counted_36 : decode cX11_counted 36 = .ok (.aload_n 0, 1) := by decide +kernel
theorem dX11_counted_37 : decode cX11_counted 37 = .ok (.aload_n 0, 1) := by decide +kernel
theorem dX11_counted_38 : decode cX11_counted 38 = .ok (.getfield 205, 3) := by decide +kernel
theorem dX11_counted_41 : decode cX11_counted 41 = .ok (.iload_n 1, 1) := by decide +kernel
theorem dX11_counted_42 : decode cX11_counted 42 = .ok (.ifCond .ne 11, 3) := by decide +kernel
theorem dX11_counted_45 : decode cX11_counted 45 = .ok (.iload_n 2, 1) := by decide +kernel
theorem dX11_counted_46 : decode cX11_counted 46 = .ok (.ifCond .eq 7, 3) := by decide +kernel
theorem dX11_counted_49 : decode cX11_counted 49 = .ok (.iconst 1, 1) := by decide +kernel
theorem dX11_counted_50 : decode cX11_counted 50 = .ok (.goto 4, 3) := by decide +kernel
theorem dX11_counted_53 : decode cX11_counted 53 = .ok (.iconst 0, 1) := by decide +kernel
theorem dX11_counted_54 : decode cX11_counted 54 = .ok (.iadd, 1) := by decide +kernel
theorem dX11_counted_55 : decode cX11_counted 55 = .ok (.putfield 205, 3) := by decide +kernel
theorem dX11_counted_58 : decode cX11_counted 58 = .ok (.aload_n 0, 1) := by decide +kernel
theorem dX11_counted_59 : decode cX11_counted 59 = .ok (.aload_n 0, 1) := by decide +kernel
theorem dX11_counted_60 : decode cX11_counted 60 = .ok (.getfield 208, 3) := by decide +kernel
theorem dX11_counted_63 : decode cX11_counted 63 = .ok (.iload_n 1, 1) := by decide +kernel
theorem dX11_counted_64 : decode cX11_counted 64 = .ok (.ifCond .ne 27, 3) := by decide +kernel
theorem dX11_counted_67 : decode cX11_counted 67 = .ok (.aload_n 0, 1) := by decide +kernel
theorem dX11_counted_68 : decode cX11_counted 68 = .ok (.getfield 167, 3) := by decide +kernel
theorem dX11_counted_71 : decode cX11_counted 71 = .ok (.sipush (-2000), 3) := by decide +kernel
theorem dX11_counted_74 : decode cX11_counted 74 = .ok (.if_icmp .gt 17, 3) := by decide +kernel
theorem dX11_counted_77 : decode cX11_counted 77 = .ok (.aload_n 0, 1) := by decide +kernel
theorem dX11_counted_78 : decode cX11_counted 78 = .ok (.getfield 167, 3) := by decide +kernel
theorem dX11_counted_81 : decode cX11_counted 81 = .ok (.sipush (-3000), 3) := by decide +kernel
theorem dX11_counted_84 : decode cX11_counted 84 = .ok (.if_icmp .le 7, 3) := by decide +kernel
theorem dX11_counted_87 : decode cX11_counted 87 = .ok (.iconst 1, 1) := by decide +kernel
theorem dX11_counted_88 : decode cX11_counted 88 = .ok (.goto 4, 3) := by decide +kernel
theorem dX11_counted_91 : decode cX11_counted 91 = .ok (.iconst 0, 1) := by decide +kernel
theorem dX11_counted_92 : decode cX11_counted 92 = .ok (.iadd, 1) := by decide +kernel
theorem dX11_counted_93 : decode cX11_counted 93 = .ok (.putfield 208, 3) := by decide +kernel
theorem dX11_counted_96 : decode cX11_counted 96 = .ok (.iload_n 1, 1) := by decide +kernel
theorem dX11_counted_97 : decode cX11_counted 97 = .ok (.ireturn, 1) := by decide +kernel
theorem gX11_named_X11_in : GoodIn wsX11_named (va_wsS RX11 72 yX11_in wsX11_in) := gw_c t_w519 (gw_c t_w518 (gw_c t_w510 (gw_c t_w517 (gw_t))))
theorem gX11_named_X11_readsName : GoodIn wsX11_named (wsV RX11 213 RX11 yX11_readsName wsX11_readsName) := gw_c t_w609 (gw_c t_w608 (gw_c t_w607 (gw_c t_w510 (gw_c t_w606 (gw_t)))))
theorem gX11_named_X11_counted : GoodIn wsX11_named (wsV RX11 216 RX11 yX11_counted wsX11_counted) := gw_c t_w613 (gw_c t_w612 (gw_c t_w611 (gw_c t_w510 (gw_c t_w610 (gw_t)))))
theorem dX11_named_0 : decode cX11_named 0 = .ok (.iload_n 1, 1) := by decide +kernel
theorem dX11_named_1 : decode cX11_named 1 = .ok (.i2l, 1) := by decide +kernel
theorem dX11_named_2 : decode cX11_named 2 = .ok (.lconst 1, 1) := by decide +kernel
theorem dX11_named_3 : decode cX11_named 3 = .ok (.ldc2_w 211, 3) := by decide +kernel
theorem dX11_named_6 : decode cX11_named 6 = .ok (.invokestatic 72, 3) := by decide +kernel
theorem dX11_named_9 : decode cX11_named 9 = .ok (.ifCond .eq 21, 3) := by decide +kernel
theorem dX11_named_12 : decode cX11_named 12 = .ok (.iload_n 1, 1) := by decide +kernel
theorem dX11_named_13 : decode cX11_named 13 = .ok (.aload_n 0, 1) := by decide +kernel
theorem dX11_named_14 : decode cX11_named 14 = .ok (.getfield 160, 3) := by decide +kernel
theorem dX11_named_17 : decode cX11_named 17 = .ok (.if_icmp .gt 13, 3) := by decide +kernel
theorem dX11_named_20 : decode cX11_named 20 = .ok (.iload_n 2, 1) := by decide +kernel
theorem dX11_named_21 : decode cX11_named 21 = .ok (.i2l, 1) := by decide +kernel
theorem dX11_named_22 : decode cX11_named 22 = .ok (.lconst 0, 1) := by decide +kernel
theorem dX11_named_23 : decode cX11_named 23 = .ok (.lconst 1, 1) := by decide +kernel
theorem dX11_named_24 : decode cX11_named 24 = .ok (.invokestatic 72, 3) := by decide +kernel
theorem dX11_named_27 : decode cX11_named 27 = .ok (.ifCond .ne 5, 3) := by decide +kernel
theorem dX11_named_30 : decode cX11_named 30 = .ok (.iconst (-1), 1) := by decide +kernel
theorem dX11_named_31 : decode cX11_named 31 = .ok (.ireturn, 1) := by decide +kernel
theorem dX11_named_32 : decode cX11_named 32 = .ok (.aload_n 0, 1) := by decide +kernel
theorem dX11_named_33 : decode cX11_named 33 = .ok (.iconst 0, 1) := by decide +kernel
theorem dX11_named_34 : decode cX11_named 34 = .ok (.putfield 160, 3) := by decide +kernel
theorem dX11_named_37 : decode cX11_named 37 = .ok (.aload_n 0, 1) := by decide +kernel
theorem dX11_named_38 : decode cX11_named 38 = .ok (.iconst 0, 1) := by decide +kernel
theorem dX11_named_39 : decode cX11_named 39 = .ok (.putfield 170, 3) := by decide +kernel
theorem dX11_named_42 : decode cX11_named 42 = .ok (.aload_n 0, 1) := by decide +kernel
theorem dX11_named_43 : decode cX11_named 43 = .ok (.iconst 0, 1) := by decide +kernel
theorem dX11_named_44 : decode cX11_named 44 = .ok (.putfield 167, 3) := by decide +kernel
theorem dX11_named_47 : decode cX11_named 47 = .ok (.aload_n 0, 1) := by decide +kernel
theorem dX11_named_48 : decode cX11_named 48 = .ok (.iload_n 1, 1) := by decide +kernel
theorem dX11_named_49 : decode cX11_named 49 = .ok (.invokevirtual 213, 3) := by decide +kernel
theorem dX11_named_52 : decode cX11_named 52 = .ok (.istore_n 3, 1) := by decide +kernel
theorem dX11_named_53 : decode cX11_named 53 = .ok (.aload_n 0, 1) := by decide +kernel
theorem dX11_named_54 : decode cX11_named 54 = .ok (.iload_n 3, 1) := by decide +kernel
theorem dX11_named_55 : decode cX11_named 55 = .ok (.aload_n 0, 1) := by decide +kernel
theorem dX11_named_56 : decode cX11_named 56 = .ok (.getfield 167, 3) := by decide +kernel
theorem dX11_named_59 : decode cX11_named 59 = .ok (.sipush (-1000), 3) := by decide +kernel
theorem dX11_named_62 : decode cX11_named 62 = .ok (.iload_n 1, 1) := by decide +kernel
theorem dX11_named_63 : decode cX11_named 63 = .ok (.isub, 1) := by decide +kernel
theorem dX11_named_64 : decode cX11_named 64 = .ok (.if_icmp .ne 7, 3) := by decide +kernel
theorem dX11_named_67 : decode cX11_named 67 = .ok (.iconst 1, 1) := by decide +kernel
theorem dX11_named_68 : decode cX11_named 68 = .ok (.goto 4, 3) := by decide +kernel
theorem dX11_named_71 : decode cX11_named 71 = .ok (.iconst 0, 1) := by decide +kernel
theorem dX11_named_72 : decode cX11_named 72 = .ok (.invokevirtual 216, 3) := by decide +kernel
theorem dX11_named_75 : decode cX11_named 75 = .ok (.ifCond .ne 8, 3) := by decide +kernel
theorem dX11_named_78 : decode cX11_named 78 = .ok (.aload_n 0, 1) := by decide +kernel
theorem dX11_named_79 : decode cX11_named 79 = .ok (.getfield 167, 3) := by decide +kernel
theorem dX11_named_82 : decode cX11_named 82 = .ok (.ireturn, 1) := by decide +kernel
theorem dX11_named_83 : decode cX11_named 83 = .ok (.iload_n 2, 1) := by decide +kernel
theorem dX11_named_84 : decode cX11_named 84 = .ok (.ifCond .ne 10, 3) := by decide +kernel
theorem dX11_named_87 : decode cX11_named 87 = .ok (.aload_n 0, 1) := by decide +kernel
theorem dX11_named_88 : decode cX11_named 88 = .ok (.getfield 190, 3) := by decide +kernel
theorem dX11_named_91 : decode cX11_named 91 = .ok (.goto 7, 3) := by decide +kernel
theorem dX11_named_94 : decode cX11_named 94 = .ok (.aload_n 0, 1) := by decide +kernel
theorem dX11_named_95 : decode cX11_named 95 = .ok (.getfield 193, 3) := by decide +kernel
theorem dX11_named_98 : decode cX11_named 98 = .ok (.ireturn, 1) := by decide +kernel
theorem dX11_common_0 : decode cX11_common 0 = .ok (.lload_n 0, 1) := by decide +kernel
theorem dX11_common_1 : decode cX11_common 1 = .ok (.lconst 0, 1) := by decide +kernel
theorem dX11_common_2 : decode cX11_common 2 = .ok (.lcmp, 1) := by decide +kernel
theorem dX11_common_3 : decode cX11_common 3 = .ok (.ifCond .ge 8, 3) := by decide +kernel
theorem dX11_common_6 : decode cX11_common 6 = .ok (.lload_n 0, 1) := by decide +kernel
theorem dX11_common_7 : decode cX11_common 7 = .ok (.lneg, 1) := by decide +kernel
theorem dX11_common_8 : decode cX11_common 8 = .ok (.goto 4, 3) := by decide +kernel
theorem dX11_common_11 : decode cX11_common 11 = .ok (.lload_n 0, 1) := by decide +kernel
theorem dX11_common_12 : decode cX11_common 12 = .ok (.lstore 4, 2) := by decide +kernel
theorem dX11_common_14 : decode cX11_common 14 = .ok (.lload_n 2, 1) := by decide +kernel
theorem dX11_common_15 : decode cX11_common 15 = .ok (.lstore 6, 2) := by decide +kernel
theorem dX11_common_17 : decode cX11_common 17 = .ok (.lload 6, 2) := by decide +kernel
theorem dX11_common_19 : decode cX11_common 19 = .ok (.lconst 0, 1) := by decide +kernel
theorem dX11_common_20 : decode cX11_common 20 = .ok (.lcmp, 1) := by decide +kernel
theorem dX11_common_21 : decode cX11_common 21 = .ok (.ifCond .eq 21, 3) := by decide +kernel
theorem dX11_common_24 : decode cX11_common 24 = .ok (.lload 4, 2) := by decide +kernel
theorem dX11_common_26 : decode cX11_common 26 = .ok (.lload 6, 2) := by decide +kernel
theorem dX11_common_28 : decode cX11_common 28 = .ok (.lrem, 1) := by decide +kernel
theorem dX11_common_29 : decode cX11_common 29 = .ok (.lstore 8, 2) := by decide +kernel
theorem dX11_common_31 : decode cX11_common 31 = .ok (.lload 6, 2) := by decide +kernel
theorem dX11_common_33 : decode cX11_common 33 = .ok (.lstore 4, 2) := by decide +kernel
theorem dX11_common_35 : decode cX11_common 35 = .ok (.lload 8, 2) := by decide +kernel
theorem dX11_common_37 : decode cX11_common 37 = .ok (.lstore 6, 2) := by decide +kernel
theorem dX11_common_39 : decode cX11_common 39 = .ok (.goto (-22), 3) := by decide +kernel
theorem dX11_common_42 : decode cX11_common 42 = .ok (.lload 4, 2) := by decide +kernel
theorem dX11_common_44 : decode cX11_common 44 = .ok (.lreturn, 1) := by decide +kernel
theorem gX11_laysEdges_X11_rowOf : GoodIn wsX11_laysEdges (wsV RX11 101 RX11 yX11_rowOf wsX11_rowOf) := gw_c t_w542 (gw_c t_w541 (gw_c t_w540 (gw_c t_w510 (gw_c t_w539 (gw_t)))))
theorem gX11_laysEdges_X11_lastRow : GoodIn wsX11_laysEdges (wsV RX11 94 RX11 yX11_lastRow wsX11_lastRow) := gw_c t_w534 (gw_c t_w533 (gw_c t_w532 (gw_c t_w510 (gw_c t_w531 (gw_t)))))
theorem gX11_laysEdges_X11_many : GoodIn wsX11_laysEdges (wsV RX11 115 RX11 yX11_many wsX11_many) := gw_c t_w554 (gw_c t_w553 (gw_c t_w552 (gw_c t_w510 (gw_c t_w551 (gw_t)))))
theorem gX11_laysEdges_X11_placeOf : GoodIn wsX11_laysEdges (wsV RX11 143 RX11 yX11_placeOf wsX11_placeOf) := gw_c t_w573 (gw_c t_w572 (gw_c t_w571 (gw_c t_w510 (gw_c t_w570 (gw_t)))))
theorem dX11_laysEdges_0 : decode cX11_laysEdges 0 = .ok (.aload_n 0, 1) := by decide +kernel
theorem dX11_laysEdges_1 : decode cX11_laysEdges 1 = .ok (.iload_n 1, 1) := by decide +kernel
theorem dX11_laysEdges_2 : decode cX11_laysEdges 2 = .ok (.iload_n 2, 1) := by decide +kernel
theorem dX11_laysEdges_3 : decode cX11_laysEdges 3 = .ok (.invokevirtual 101, 3) := by decide +kernel
theorem dX11_laysEdges_6 : decode cX11_laysEdges 6 = .ok (.istore_n 3, 1) := by decide +kernel
theorem dX11_laysEdges_7 : decode cX11_laysEdges 7 = .ok (.aload_n 0, 1) := by decide +kernel
theorem dX11_laysEdges_8 : decode cX11_laysEdges 8 = .ok (.lconst 1, 1) := by decide +kernel
theorem dX11_laysEdges_9 : decode cX11_laysEdges 9 = .ok (.putfield 220, 3) := by decide +kernel
theorem dX11_laysEdges_12 : decode cX11_laysEdges 12 = .ok (.aload_n 0, 1) := by decide +kernel
theorem dX11_laysEdges_13 : decode cX11_laysEdges 13 = .ok (.lconst 1, 1) := by decide +kernel
theorem dX11_laysEdges_14 : decode cX11_laysEdges 14 = .ok (.putfield 224, 3) := by decide +kernel
theorem dX11_laysEdges_17 : decode cX11_laysEdges 17 = .ok (.aload_n 0, 1) := by decide +kernel
theorem dX11_laysEdges_18 : decode cX11_laysEdges 18 = .ok (.getfield 35, 3) := by decide +kernel
theorem dX11_laysEdges_21 : decode cX11_laysEdges 21 = .ok (.iconst 2, 1) := by decide +kernel
theorem dX11_laysEdges_22 : decode cX11_laysEdges 22 = .ok (.lconst 0, 1) := by decide +kernel
theorem dX11_laysEdges_23 : decode cX11_laysEdges 23 = .ok (.lastore, 1) := by decide +kernel
theorem dX11_laysEdges_24 : decode cX11_laysEdges 24 = .ok (.aload_n 0, 1) := by decide +kernel
theorem dX11_laysEdges_25 : decode cX11_laysEdges 25 = .ok (.getfield 35, 3) := by decide +kernel
theorem dX11_laysEdges_28 : decode cX11_laysEdges 28 = .ok (.iconst 3, 1) := by decide +kernel
theorem dX11_laysEdges_29 : decode cX11_laysEdges 29 = .ok (.ldc2_w 110, 3) := by decide +kernel
theorem dX11_laysEdges_32 : decode cX11_laysEdges 32 = .ok (.lastore, 1) := by decide +kernel
theorem dX11_laysEdges_33 : decode cX11_laysEdges 33 = .ok (.iload_n 3, 1) := by decide +kernel
theorem dX11_laysEdges_34 : decode cX11_laysEdges 34 = .ok (.ifCond .ne 24, 3) := by decide +kernel
theorem dX11_laysEdges_37 : decode cX11_laysEdges 37 = .ok (.aload_n 0, 1) := by decide +kernel
theorem dX11_laysEdges_38 : decode cX11_laysEdges 38 = .ok (.getfield 35, 3) := by decide +kernel
theorem dX11_laysEdges_41 : decode cX11_laysEdges 41 = .ok (.iconst 0, 1) := by decide +kernel
theorem dX11_laysEdges_42 : decode cX11_laysEdges 42 = .ok (.ldc2_w 227, 3) := by decide +kernel
theorem dX11_laysEdges_45 : decode cX11_laysEdges 45 = .ok (.lastore, 1) := by decide +kernel
theorem dX11_laysEdges_46 : decode cX11_laysEdges 46 = .ok (.aload_n 0, 1) := by decide +kernel
theorem dX11_laysEdges_47 : decode cX11_laysEdges 47 = .ok (.getfield 35, 3) := by decide +kernel
theorem dX11_laysEdges_50 : decode cX11_laysEdges 50 = .ok (.iconst 1, 1) := by decide +kernel
theorem dX11_laysEdges_51 : decode cX11_laysEdges 51 = .ok (.ldc2_w 78, 3) := by decide +kernel
theorem dX11_laysEdges_54 : decode cX11_laysEdges 54 = .ok (.lastore, 1) := by decide +kernel
theorem dX11_laysEdges_55 : decode cX11_laysEdges 55 = .ok (.goto 130, 3) := by decide +kernel
theorem dX11_laysEdges_58 : decode cX11_laysEdges 58 = .ok (.iload_n 3, 1) := by decide +kernel
theorem dX11_laysEdges_59 : decode cX11_laysEdges 59 = .ok (.aload_n 0, 1) := by decide +kernel
theorem dX11_laysEdges_60 : decode cX11_laysEdges 60 = .ok (.iload_n 1, 1) := by decide +kernel
theorem dX11_laysEdges_61 : decode cX11_laysEdges 61 = .ok (.invokevirtual 94, 3) := by decide +kernel
theorem dX11_laysEdges_64 : decode cX11_laysEdges 64 = .ok (.if_icmp .ne 24, 3) := by decide +kernel
theorem dX11_laysEdges_67 : decode cX11_laysEdges 67 = .ok (.aload_n 0, 1) := by decide +kernel
theorem dX11_laysEdges_68 : decode cX11_laysEdges 68 = .ok (.getfield 35, 3) := by decide +kernel
theorem dX11_laysEdges_71 : decode cX11_laysEdges 71 = .ok (.iconst 0, 1) := by decide +kernel
theorem dX11_laysEdges_72 : decode cX11_laysEdges 72 = .ok (.ldc2_w 76, 3) := by decide +kernel
theorem dX11_laysEdges_75 : decode cX11_laysEdges 75 = .ok (.lastore, 1) := by decide +kernel
theorem dX11_laysEdges_76 : decode cX11_laysEdges 76 = .ok (.aload_n 0, 1) := by decide +kernel
theorem dX11_laysEdges_77 : decode cX11_laysEdges 77 = .ok (.getfield 35, 3) := by decide +kernel
theorem dX11_laysEdges_80 : decode cX11_laysEdges 80 = .ok (.iconst 1, 1) := by decide +kernel
theorem dX11_laysEdges_81 : decode cX11_laysEdges 81 = .ok (.ldc2_w 229, 3) := by decide +kernel
theorem dX11_laysEdges_84 : decode cX11_laysEdges 84 = .ok (.lastore, 1) := by decide +kernel
theorem dX11_laysEdges_85 : decode cX11_laysEdges 85 = .ok (.goto 100, 3) := by decide +kernel
theorem dX11_laysEdges_88 : decode cX11_laysEdges 88 = .ok (.aload_n 0, 1) := by decide +kernel
theorem dX11_laysEdges_89 : decode cX11_laysEdges 89 = .ok (.aload_n 0, 1) := by decide +kernel
theorem dX11_laysEdges_90 : decode cX11_laysEdges 90 = .ok (.getfield 16, 3) := by decide +kernel
theorem dX11_laysEdges_93 : decode cX11_laysEdges 93 = .ok (.iload_n 1, 1) := by decide +kernel
theorem dX11_laysEdges_94 : decode cX11_laysEdges 94 = .ok (.iaload, 1) := by decide +kernel
theorem dX11_laysEdges_95 : decode cX11_laysEdges 95 = .ok (.i2l, 1) := by decide +kernel
theorem dX11_laysEdges_96 : decode cX11_laysEdges 96 = .ok (.putfield 220, 3) := by decide +kernel
theorem dX11_laysEdges_99 : decode cX11_laysEdges 99 = .ok (.aload_n 0, 1) := by decide +kernel
theorem dX11_laysEdges_100 : decode cX11_laysEdges 100 = .ok (.aload_n 0, 1) := by decide +kernel
theorem dX11_laysEdges_101 : decode cX11_laysEdges 101 = .ok (.iload_n 1, 1) := by decide +kernel
theorem dX11_laysEdges_102 : decode cX11_laysEdges 102 = .ok (.iload_n 3, 1) := by decide +kernel
theorem dX11_laysEdges_103 : decode cX11_laysEdges 103 = .ok (.invokevirtual 115, 3) := by decide +kernel
theorem dX11_laysEdges_106 : decode cX11_laysEdges 106 = .ok (.i2l, 1) := by decide +kernel
theorem dX11_laysEdges_107 : decode cX11_laysEdges 107 = .ok (.putfield 224, 3) := by decide +kernel
theorem dX11_laysEdges_110 : decode cX11_laysEdges 110 = .ok (.aload_n 0, 1) := by decide +kernel
theorem dX11_laysEdges_111 : decode cX11_laysEdges 111 = .ok (.getfield 35, 3) := by decide +kernel
theorem dX11_laysEdges_114 : decode cX11_laysEdges 114 = .ok (.iconst 1, 1) := by decide +kernel
theorem dX11_laysEdges_115 : decode cX11_laysEdges 115 = .ok (.ldc2_w 227, 3) := by decide +kernel
theorem dX11_laysEdges_118 : decode cX11_laysEdges 118 = .ok (.aload_n 0, 1) := by decide +kernel
theorem dX11_laysEdges_119 : decode cX11_laysEdges 119 = .ok (.getfield 16, 3) := by decide +kernel
theorem dX11_laysEdges_122 : decode cX11_laysEdges 122 = .ok (.iload_n 1, 1) := by decide +kernel
theorem dX11_laysEdges_123 : decode cX11_laysEdges 123 = .ok (.iaload, 1) := by decide +kernel
theorem dX11_laysEdges_124 : decode cX11_laysEdges 124 = .ok (.i2l, 1) := by decide +kernel
theorem dX11_laysEdges_125 : decode cX11_laysEdges 125 = .ok (.lmul, 1) := by decide +kernel
theorem dX11_laysEdges_126 : decode cX11_laysEdges 126 = .ok (.ldc2_w 231, 3) := by decide +kernel
theorem dX11_laysEdges_129 : decode cX11_laysEdges 129 = .ok (.iload_n 3, 1) := by decide +kernel
theorem dX11_laysEdges_130 : decode cX11_laysEdges 130 = .ok (.iconst 1, 1) := by decide +kernel
theorem dX11_laysEdges_131 : decode cX11_laysEdges 131 = .ok (.isub, 1) := by decide +kernel
theorem dX11_laysEdges_132 : decode cX11_laysEdges 132 = .ok (.i2l, 1) := by decide +kernel
theorem dX11_laysEdges_133 : decode cX11_laysEdges 133 = .ok (.lmul, 1) := by decide +kernel
theorem dX11_laysEdges_134 : decode cX11_laysEdges 134 = .ok (.lsub, 1) := by decide +kernel
theorem dX11_laysEdges_135 : decode cX11_laysEdges 135 = .ok (.lastore, 1) := by decide +kernel
theorem dX11_laysEdges_136 : decode cX11_laysEdges 136 = .ok (.aload_n 0, 1) := by decide +kernel
theorem dX11_laysEdges_137 : decode cX11_laysEdges 137 = .ok (.getfield 35, 3) := by decide +kernel
theorem dX11_laysEdges_140 : decode cX11_laysEdges 140 = .ok (.iconst 0, 1) := by decide +kernel
theorem dX11_laysEdges_141 : decode cX11_laysEdges 141 = .ok (.aload_n 0, 1) := by decide +kernel
theorem dX11_laysEdges_142 : decode cX11_laysEdges 142 = .ok (.getfield 35, 3) := by decide +kernel
theorem dX11_laysEdges_145 : decode cX11_laysEdges 145 = .ok (.iconst 1, 1) := by decide +kernel
theorem dX11_laysEdges_146 : decode cX11_laysEdges 146 = .ok (.laload, 1) := by decide +kernel
theorem dX11_laysEdges_147 : decode cX11_laysEdges 147 = .ok (.ldc2_w 231, 3) := by decide +kernel
theorem dX11_laysEdges_150 : decode cX11_laysEdges 150 = .ok (.lsub, 1) := by decide +kernel
theorem dX11_laysEdges_151 : decode cX11_laysEdges 151 = .ok (.lastore, 1) := by decide +kernel
theorem dX11_laysEdges_152 : decode cX11_laysEdges 152 = .ok (.aload_n 0, 1) := by decide +kernel
theorem dX11_laysEdges_153 : decode cX11_laysEdges 153 = .ok (.getfield 35, 3) := by decide +kernel
theorem dX11_laysEdges_156 : decode cX11_laysEdges 156 = .ok (.iconst 2, 1) := by decide +kernel
theorem dX11_laysEdges_157 : decode cX11_laysEdges 157 = .ok (.ldc2_w 110, 3) := by decide +kernel
theorem dX11_laysEdges_160 : decode cX11_laysEdges 160 = .ok (.aload_n 0, 1) := by decide +kernel
theorem dX11_laysEdges_161 : decode cX11_laysEdges 161 = .ok (.iload_n 1, 1) := by decide +kernel
theorem dX11_laysEdges_162 : decode cX11_laysEdges 162 = .ok (.iload_n 2, 1) := by decide +kernel
theorem dX11_laysEdges_163 : decode cX11_laysEdges 163 = .ok (.invokevirtual 143, 3) := by decide +kernel
theorem dX11_laysEdges_166 : decode cX11_laysEdges 166 = .ok (.i2l, 1) := by decide +kernel
theorem dX11_laysEdges_167 : decode cX11_laysEdges 167 = .ok (.lmul, 1) := by decide +kernel
theorem dX11_laysEdges_168 : decode cX11_laysEdges 168 = .ok (.lastore, 1) := by decide +kernel
theorem dX11_laysEdges_169 : decode cX11_laysEdges 169 = .ok (.aload_n 0, 1) := by decide +kernel
theorem dX11_laysEdges_170 : decode cX11_laysEdges 170 = .ok (.getfield 35, 3) := by decide +kernel
theorem dX11_laysEdges_173 : decode cX11_laysEdges 173 = .ok (.iconst 3, 1) := by decide +kernel
theorem dX11_laysEdges_174 : decode cX11_laysEdges 174 = .ok (.aload_n 0, 1) := by decide +kernel
theorem dX11_laysEdges_175 : decode cX11_laysEdges 175 = .ok (.getfield 35, 3) := by decide +kernel
theorem dX11_laysEdges_178 : decode cX11_laysEdges 178 = .ok (.iconst 2, 1) := by decide +kernel
theorem dX11_laysEdges_179 : decode cX11_laysEdges 179 = .ok (.laload, 1) := by decide +kernel
theorem dX11_laysEdges_180 : decode cX11_laysEdges 180 = .ok (.ldc2_w 110, 3) := by decide +kernel
theorem dX11_laysEdges_183 : decode cX11_laysEdges 183 = .ok (.ladd, 1) := by decide +kernel
theorem dX11_laysEdges_184 : decode cX11_laysEdges 184 = .ok (.lastore, 1) := by decide +kernel
theorem dX11_laysEdges_185 : decode cX11_laysEdges 185 = .ok (.return_, 1) := by decide +kernel
theorem gX11_edge_X11_isKey : GoodIn wsX11_edge (wsV RX11 153 RX11 yX11_isKey wsX11_isKey) := gw_c t_w585 (gw_c t_w584 (gw_c t_w583 (gw_c t_w510 (gw_c t_w582 (gw_t)))))
theorem gX11_edge_X11_in : GoodIn wsX11_edge (va_wsS RX11 72 yX11_in wsX11_in) := gw_c t_w519 (gw_c t_w518 (gw_c t_w510 (gw_c t_w517 (gw_t))))
theorem gX11_edge_X11_laysEdges : GoodIn wsX11_edge (wsV RX11 237 RX11 yX11_laysEdges wsX11_laysEdges) := gw_c t_w617 (gw_c t_w616 (gw_c t_w615 (gw_c t_w510 (gw_c t_w614 (gw_t)))))
theorem gX11_edge_X11_common : GoodIn wsX11_edge (va_wsS RX11 241 yX11_common wsX11_common) := gw_c t_w620 (gw_c t_w619 (gw_c t_w510 (gw_c t_w618 (gw_t))))
theorem dX11_edge_0 : decode cX11_edge 0 = .ok (.aload_n 0, 1) := by decide +kernel
theorem dX11_edge_1 : decode cX11_edge 1 = .ok (.iload_n 1, 1) := by decide +kernel
theorem dX11_edge_2 : decode cX11_edge 2 = .ok (.iload_n 2, 1) := by decide +kernel
theorem dX11_edge_3 : decode cX11_edge 3 = .ok (.invokevirtual 153, 3) := by decide +kernel
theorem dX11_edge_6 : decode cX11_edge 6 = .ok (.ifCond .eq 15, 3) := by decide +kernel
theorem dX11_edge_9 : decode cX11_edge 9 = .ok (.iload_n 3, 1) := by decide +kernel
theorem dX11_edge_10 : decode cX11_edge 10 = .ok (.i2l, 1) := by decide +kernel
theorem dX11_edge_11 : decode cX11_edge 11 = .ok (.lconst 0, 1) := by decide +kernel
theorem dX11_edge_12 : decode cX11_edge 12 = .ok (.ldc2_w 233, 3) := by decide +kernel
theorem dX11_edge_15 : decode cX11_edge 15 = .ok (.invokestatic 72, 3) := by decide +kernel
theorem dX11_edge_18 : decode cX11_edge 18 = .ok (.ifCond .ne 7, 3) := by decide +kernel
theorem dX11_edge_21 : decode cX11_edge 21 = .ok (.ldc2_w 235, 3) := by decide +kernel
theorem dX11_edge_24 : decode cX11_edge 24 = .ok (.lreturn, 1) := by decide +kernel
theorem dX11_edge_25 : decode cX11_edge 25 = .ok (.aload_n 0, 1) := by decide +kernel
theorem dX11_edge_26 : decode cX11_edge 26 = .ok (.iload_n 1, 1) := by decide +kernel
theorem dX11_edge_27 : decode cX11_edge 27 = .ok (.iload_n 2, 1) := by decide +kernel
theorem dX11_edge_28 : decode cX11_edge 28 = .ok (.invokevirtual 237, 3) := by decide +kernel
theorem dX11_edge_31 : decode cX11_edge 31 = .ok (.aload_n 0, 1) := by decide +kernel
theorem dX11_edge_32 : decode cX11_edge 32 = .ok (.getfield 35, 3) := by decide +kernel
theorem dX11_edge_35 : decode cX11_edge 35 = .ok (.iload_n 3, 1) := by decide +kernel
theorem dX11_edge_36 : decode cX11_edge 36 = .ok (.iconst 2, 1) := by decide +kernel
theorem dX11_edge_37 : decode cX11_edge 37 = .ok (.idiv, 1) := by decide +kernel
theorem dX11_edge_38 : decode cX11_edge 38 = .ok (.laload, 1) := by decide +kernel
theorem dX11_edge_39 : decode cX11_edge 39 = .ok (.lstore 4, 2) := by decide +kernel
theorem dX11_edge_41 : decode cX11_edge 41 = .ok (.iload_n 3, 1) := by decide +kernel
theorem dX11_edge_42 : decode cX11_edge 42 = .ok (.iconst 4, 1) := by decide +kernel
theorem dX11_edge_43 : decode cX11_edge 43 = .ok (.if_icmp .ge 10, 3) := by decide +kernel
theorem dX11_edge_46 : decode cX11_edge 46 = .ok (.aload_n 0, 1) := by decide +kernel
theorem dX11_edge_47 : decode cX11_edge 47 = .ok (.getfield 220, 3) := by decide +kernel
theorem dX11_edge_50 : decode cX11_edge 50 = .ok (.goto 7, 3) := by decide +kernel
theorem dX11_edge_53 : decode cX11_edge 53 = .ok (.aload_n 0, 1) := by decide +kernel
theorem dX11_edge_54 : decode cX11_edge 54 = .ok (.getfield 224, 3) := by decide +kernel
theorem dX11_edge_57 : decode cX11_edge 57 = .ok (.lstore 6, 2) := by decide +kernel
theorem dX11_edge_59 : decode cX11_edge 59 = .ok (.lload 4, 2) := by decide +kernel
theorem dX11_edge_61 : decode cX11_edge 61 = .ok (.lload 6, 2) := by decide +kernel
theorem dX11_edge_63 : decode cX11_edge 63 = .ok (.invokestatic 241, 3) := by decide +kernel
theorem dX11_edge_66 : decode cX11_edge 66 = .ok (.lstore 8, 2) := by decide +kernel
theorem dX11_edge_68 : decode cX11_edge 68 = .ok (.iload_n 3, 1) := by decide +kernel
theorem dX11_edge_69 : decode cX11_edge 69 = .ok (.iconst 2, 1) := by decide +kernel
theorem dX11_edge_70 : decode cX11_edge 70 = .ok (.irem, 1) := by decide +kernel
theorem dX11_edge_71 : decode cX11_edge 71 = .ok (.ifCond .ne 11, 3) := by decide +kernel
theorem dX11_edge_74 : decode cX11_edge 74 = .ok (.lload 4, 2) := by decide +kernel
theorem dX11_edge_76 : decode cX11_edge 76 = .ok (.lload 8, 2) := by decide +kernel
theorem dX11_edge_78 : decode cX11_edge 78 = .ok (.ldiv, 1) := by decide +kernel
theorem dX11_edge_79 : decode cX11_edge 79 = .ok (.goto 8, 3) := by decide +kernel
theorem dX11_edge_82 : decode cX11_edge 82 = .ok (.lload 6, 2) := by decide +kernel
theorem dX11_edge_84 : decode cX11_edge 84 = .ok (.lload 8, 2) := by decide +kernel
theorem dX11_edge_86 : decode cX11_edge 86 = .ok (.ldiv, 1) := by decide +kernel
theorem dX11_edge_87 : decode cX11_edge 87 = .ok (.lreturn, 1) := by decide +kernel
theorem gX11_middleOf_X11_isCap : GoodIn wsX11_middleOf (wsV RX11 140 RX11 yX11_isCap wsX11_isCap) := gw_c t_w569 (gw_c t_w568 (gw_c t_w567 (gw_c t_w510 (gw_c t_w566 (gw_t)))))
theorem gX11_middleOf_X11_laysEdges : GoodIn wsX11_middleOf (wsV RX11 237 RX11 yX11_laysEdges wsX11_laysEdges) := gw_c t_w617 (gw_c t_w616 (gw_c t_w615 (gw_c t_w510 (gw_c t_w614 (gw_t)))))
theorem gX11_middleOf_X11_down : GoodIn wsX11_middleOf (va_wsS RX11 247 yX11_down wsX11_down) := gw_c t_w623 (gw_c t_w622 (gw_c t_w510 (gw_c t_w621 (gw_t))))
theorem dX11_middleOf_0 : decode cX11_middleOf 0 = .ok (.aload_n 0, 1) := by decide +kernel
theorem dX11_middleOf_1 : decode cX11_middleOf 1 = .ok (.iload_n 1, 1) := by decide +kernel
theorem dX11_middleOf_2 : decode cX11_middleOf 2 = .ok (.iload_n 2, 1) := by decide +kernel
theorem dX11_middleOf_3 : decode cX11_middleOf 3 = .ok (.invokevirtual 140, 3) := by decide +kernel
theorem dX11_middleOf_6 : decode cX11_middleOf 6 = .ok (.ifCond .eq 24, 3) := by decide +kernel
theorem dX11_middleOf_9 : decode cX11_middleOf 9 = .ok (.iload_n 3, 1) := by decide +kernel
theorem dX11_middleOf_10 : decode cX11_middleOf 10 = .ok (.iconst 1, 1) := by decide +kernel
theorem dX11_middleOf_11 : decode cX11_middleOf 11 = .ok (.if_icmp .ne 7, 3) := by decide +kernel
theorem dX11_middleOf_14 : decode cX11_middleOf 14 = .ok (.iconst 0, 1) := by decide +kernel
theorem dX11_middleOf_15 : decode cX11_middleOf 15 = .ok (.goto 14, 3) := by decide +kernel
theorem dX11_middleOf_18 : decode cX11_middleOf 18 = .ok (.iload_n 2, 1) := by decide +kernel
theorem dX11_middleOf_19 : decode cX11_middleOf 19 = .ok (.ifCond .ne 8, 3) := by decide +kernel
theorem dX11_middleOf_22 : decode cX11_middleOf 22 = .ok (.ldc 245, 2) := by decide +kernel
theorem dX11_middleOf_24 : decode cX11_middleOf 24 = .ok (.goto 5, 3) := by decide +kernel
theorem dX11_middleOf_27 : decode cX11_middleOf 27 = .ok (.ldc 246, 2) := by decide +kernel
theorem dX11_middleOf_29 : decode cX11_middleOf 29 = .ok (.ireturn, 1) := by decide +kernel
theorem dX11_middleOf_30 : decode cX11_middleOf 30 = .ok (.aload_n 0, 1) := by decide +kernel
theorem dX11_middleOf_31 : decode cX11_middleOf 31 = .ok (.iload_n 1, 1) := by decide +kernel
theorem dX11_middleOf_32 : decode cX11_middleOf 32 = .ok (.iload_n 2, 1) := by decide +kernel
theorem dX11_middleOf_33 : decode cX11_middleOf 33 = .ok (.invokevirtual 237, 3) := by decide +kernel
theorem dX11_middleOf_36 : decode cX11_middleOf 36 = .ok (.iload_n 3, 1) := by decide +kernel
theorem dX11_middleOf_37 : decode cX11_middleOf 37 = .ok (.ifCond .ne 30, 3) := by decide +kernel
theorem dX11_middleOf_40 : decode cX11_middleOf 40 = .ok (.aload_n 0, 1) := by decide +kernel
theorem dX11_middleOf_41 : decode cX11_middleOf 41 = .ok (.getfield 35, 3) := by decide +kernel
theorem dX11_middleOf_44 : decode cX11_middleOf 44 = .ok (.iconst 0, 1) := by decide +kernel
theorem dX11_middleOf_45 : decode cX11_middleOf 45 = .ok (.laload, 1) := by decide +kernel
theorem dX11_middleOf_46 : decode cX11_middleOf 46 = .ok (.aload_n 0, 1) := by decide +kernel
theorem dX11_middleOf_47 : decode cX11_middleOf 47 = .ok (.getfield 35, 3) := by decide +kernel
theorem dX11_middleOf_50 : decode cX11_middleOf 50 = .ok (.iconst 1, 1) := by decide +kernel
theorem dX11_middleOf_51 : decode cX11_middleOf 51 = .ok (.laload, 1) := by decide +kernel
theorem dX11_middleOf_52 : decode cX11_middleOf 52 = .ok (.ladd, 1) := by decide +kernel
theorem dX11_middleOf_53 : decode cX11_middleOf 53 = .ok (.ldc2_w 127, 3) := by decide +kernel
theorem dX11_middleOf_56 : decode cX11_middleOf 56 = .ok (.aload_n 0, 1) := by decide +kernel
theorem dX11_middleOf_57 : decode cX11_middleOf 57 = .ok (.getfield 220, 3) := by decide +kernel
theorem dX11_middleOf_60 : decode cX11_middleOf 60 = .ok (.lmul, 1) := by decide +kernel
theorem dX11_middleOf_61 : decode cX11_middleOf 61 = .ok (.invokestatic 247, 3) := by decide +kernel
theorem dX11_middleOf_64 : decode cX11_middleOf 64 = .ok (.goto 27, 3) := by decide +kernel
theorem dX11_middleOf_67 : decode cX11_middleOf 67 = .ok (.aload_n 0, 1) := by decide +kernel
theorem dX11_middleOf_68 : decode cX11_middleOf 68 = .ok (.getfield 35, 3) := by decide +kernel
theorem dX11_middleOf_71 : decode cX11_middleOf 71 = .ok (.iconst 2, 1) := by decide +kernel
theorem dX11_middleOf_72 : decode cX11_middleOf 72 = .ok (.laload, 1) := by decide +kernel
theorem dX11_middleOf_73 : decode cX11_middleOf 73 = .ok (.aload_n 0, 1) := by decide +kernel
theorem dX11_middleOf_74 : decode cX11_middleOf 74 = .ok (.getfield 35, 3) := by decide +kernel
theorem dX11_middleOf_77 : decode cX11_middleOf 77 = .ok (.iconst 3, 1) := by decide +kernel
theorem dX11_middleOf_78 : decode cX11_middleOf 78 = .ok (.laload, 1) := by decide +kernel
theorem dX11_middleOf_79 : decode cX11_middleOf 79 = .ok (.ladd, 1) := by decide +kernel
theorem dX11_middleOf_80 : decode cX11_middleOf 80 = .ok (.ldc2_w 127, 3) := by decide +kernel
theorem dX11_middleOf_83 : decode cX11_middleOf 83 = .ok (.aload_n 0, 1) := by decide +kernel
theorem dX11_middleOf_84 : decode cX11_middleOf 84 = .ok (.getfield 224, 3) := by decide +kernel
theorem dX11_middleOf_87 : decode cX11_middleOf 87 = .ok (.lmul, 1) := by decide +kernel
theorem dX11_middleOf_88 : decode cX11_middleOf 88 = .ok (.invokestatic 247, 3) := by decide +kernel
theorem dX11_middleOf_91 : decode cX11_middleOf 91 = .ok (.l2i, 1) := by decide +kernel
theorem dX11_middleOf_92 : decode cX11_middleOf 92 = .ok (.ireturn, 1) := by decide +kernel
theorem gX11_middle_X11_isKey : GoodIn wsX11_middle (wsV RX11 153 RX11 yX11_isKey wsX11_isKey) := gw_c t_w585 (gw_c t_w584 (gw_c t_w583 (gw_c t_w510 (gw_c t_w582 (gw_t)))))
theorem gX11_middle_X11_in : GoodIn wsX11_middle (va_wsS RX11 72 yX11_in wsX11_in) := gw_c t_w519 (gw_c t_w518 (gw_c t_w510 (gw_c t_w517 (gw_t))))
theorem gX11_middle_X11_middleOf : GoodIn wsX11_middle (wsV RX11 250 RX11 yX11_middleOf wsX11_middleOf) := gw_c t_w627 (gw_c t_w626 (gw_c t_w625 (gw_c t_w510 (gw_c t_w624 (gw_t)))))
theorem dX11_middle_0 : decode cX11_middle 0 = .ok (.aload_n 0, 1) := by decide +kernel
theorem dX11_middle_1 : decode cX11_middle 1 = .ok (.iload_n 1, 1) := by decide +kernel
theorem dX11_middle_2 : decode cX11_middle 2 = .ok (.iload_n 2, 1) := by decide +kernel
theorem dX11_middle_3 : decode cX11_middle 3 = .ok (.invokevirtual 153, 3) := by decide +kernel
theorem dX11_middle_6 : decode cX11_middle 6 = .ok (.ifCond .eq 23, 3) := by decide +kernel
theorem dX11_middle_9 : decode cX11_middle 9 = .ok (.iload_n 3, 1) := by decide +kernel
theorem dX11_middle_10 : decode cX11_middle 10 = .ok (.i2l, 1) := by decide +kernel
theorem dX11_middle_11 : decode cX11_middle 11 = .ok (.lconst 0, 1) := by decide +kernel
theorem dX11_middle_12 : decode cX11_middle 12 = .ok (.lconst 1, 1) := by decide +kernel
theorem dX11_middle_13 : decode cX11_middle 13 = .ok (.invokestatic 72, 3) := by decide +kernel
theorem dX11_middle_16 : decode cX11_middle 16 = .ok (.ifCond .eq 13, 3) := by decide +kernel
theorem dX11_middle_19 : decode cX11_middle 19 = .ok (.aload_n 0, 1) := by decide +kernel
theorem dX11_middle_20 : decode cX11_middle 20 = .ok (.iload_n 1, 1) := by decide +kernel
theorem dX11_middle_21 : decode cX11_middle 21 = .ok (.iload_n 2, 1) := by decide +kernel
theorem dX11_middle_22 : decode cX11_middle 22 = .ok (.iload_n 3, 1) := by decide +kernel
theorem dX11_middle_23 : decode cX11_middle 23 = .ok (.invokevirtual 250, 3) := by decide +kernel
theorem dX11_middle_26 : decode cX11_middle 26 = .ok (.goto 5, 3) := by decide +kernel
theorem dX11_middle_29 : decode cX11_middle 29 = .ok (.ldc 253, 2) := by decide +kernel
theorem dX11_middle_31 : decode cX11_middle 31 = .ok (.ireturn, 1) := by decide +kernel
theorem gX11_at_X11_isKey : GoodIn wsX11_at (wsV RX11 153 RX11 yX11_isKey wsX11_isKey) := gw_c t_w585 (gw_c t_w584 (gw_c t_w583 (gw_c t_w510 (gw_c t_w582 (gw_t)))))
theorem gX11_at_X11_in : GoodIn wsX11_at (va_wsS RX11 72 yX11_in wsX11_in) := gw_c t_w519 (gw_c t_w518 (gw_c t_w510 (gw_c t_w517 (gw_t))))
theorem gX11_at_X11_rowOf : GoodIn wsX11_at (wsV RX11 101 RX11 yX11_rowOf wsX11_rowOf) := gw_c t_w542 (gw_c t_w541 (gw_c t_w540 (gw_c t_w510 (gw_c t_w539 (gw_t)))))
theorem gX11_at_X11_placeOf : GoodIn wsX11_at (wsV RX11 143 RX11 yX11_placeOf wsX11_placeOf) := gw_c t_w573 (gw_c t_w572 (gw_c t_w571 (gw_c t_w510 (gw_c t_w570 (gw_t)))))
theorem gX11_at_X11_isCap : GoodIn wsX11_at (wsV RX11 140 RX11 yX11_isCap wsX11_isCap) := gw_c t_w569 (gw_c t_w568 (gw_c t_w567 (gw_c t_w510 (gw_c t_w566 (gw_t)))))
theorem gX11_at_X11_many : GoodIn wsX11_at (wsV RX11 115 RX11 yX11_many wsX11_many) := gw_c t_w554 (gw_c t_w553 (gw_c t_w552 (gw_c t_w510 (gw_c t_w551 (gw_t)))))
theorem gX11_at_X11_bandOf : GoodIn wsX11_at (wsV RX11 97 RX11 yX11_bandOf wsX11_bandOf) := gw_c t_w538 (gw_c t_w537 (gw_c t_w536 (gw_c t_w510 (gw_c t_w535 (gw_t)))))
theorem gX11_at_X11_pieceNumber : GoodIn wsX11_at (wsV RX11 150 RX11 yX11_pieceNumber wsX11_pieceNumber) := gw_c t_w581 (gw_c t_w580 (gw_c t_w579 (gw_c t_w510 (gw_c t_w578 (gw_t)))))
theorem dX11_at_0 : decode cX11_at 0 = .ok (.aload_n 0, 1) := by decide +kernel
theorem dX11_at_1 : decode cX11_at 1 = .ok (.iload_n 1, 1) := by decide +kernel
theorem dX11_at_2 : decode cX11_at 2 = .ok (.iload_n 2, 1) := by decide +kernel
theorem dX11_at_3 : decode cX11_at 3 = .ok (.invokevirtual 153, 3) := by decide +kernel
theorem dX11_at_6 : decode cX11_at 6 = .ok (.ifCond .eq 15, 3) := by decide +kernel
theorem dX11_at_9 : decode cX11_at 9 = .ok (.iload_n 3, 1) := by decide +kernel
theorem dX11_at_10 : decode cX11_at 10 = .ok (.i2l, 1) := by decide +kernel
theorem dX11_at_11 : decode cX11_at 11 = .ok (.lconst 0, 1) := by decide +kernel
theorem dX11_at_12 : decode cX11_at 12 = .ok (.ldc2_w 131, 3) := by decide +kernel
theorem dX11_at_15 : decode cX11_at 15 = .ok (.invokestatic 72, 3) := by decide +kernel
theorem dX11_at_18 : decode cX11_at 18 = .ok (.ifCond .ne 6, 3) := by decide +kernel
theorem dX11_at_21 : decode cX11_at 21 = .ok (.ldc 253, 2) := by decide +kernel
theorem dX11_at_23 : decode cX11_at 23 = .ok (.ireturn, 1) := by decide +kernel
theorem dX11_at_24 : decode cX11_at 24 = .ok (.aload_n 0, 1) := by decide +kernel
theorem dX11_at_25 : decode cX11_at 25 = .ok (.iload_n 1, 1) := by decide +kernel
theorem dX11_at_26 : decode cX11_at 26 = .ok (.iload_n 2, 1) := by decide +kernel
theorem dX11_at_27 : decode cX11_at 27 = .ok (.invokevirtual 101, 3) := by decide +kernel
theorem dX11_at_30 : decode cX11_at 30 = .ok (.istore 4, 2) := by decide +kernel
theorem dX11_at_32 : decode cX11_at 32 = .ok (.aload_n 0, 1) := by decide +kernel
theorem dX11_at_33 : decode cX11_at 33 = .ok (.iload_n 1, 1) := by decide +kernel
theorem dX11_at_34 : decode cX11_at 34 = .ok (.iload_n 2, 1) := by decide +kernel
theorem dX11_at_35 : decode cX11_at 35 = .ok (.invokevirtual 143, 3) := by decide +kernel
theorem dX11_at_38 : decode cX11_at 38 = .ok (.istore 5, 2) := by decide +kernel
theorem dX11_at_40 : decode cX11_at 40 = .ok (.aload_n 0, 1) := by decide +kernel
theorem dX11_at_41 : decode cX11_at 41 = .ok (.iload_n 1, 1) := by decide +kernel
theorem dX11_at_42 : decode cX11_at 42 = .ok (.iload_n 2, 1) := by decide +kernel
theorem dX11_at_43 : decode cX11_at 43 = .ok (.invokevirtual 140, 3) := by decide +kernel
theorem dX11_at_46 : decode cX11_at 46 = .ok (.istore 6, 2) := by decide +kernel
theorem dX11_at_48 : decode cX11_at 48 = .ok (.iload_n 3, 1) := by decide +kernel
theorem dX11_at_49 : decode cX11_at 49 = .ok (.tableswitch 98 0 4 #[35, 38, 41, 49, 79], 35) := by decide +kernel
theorem dX11_at_84 : decode cX11_at 84 = .ok (.iload 4, 2) := by decide +kernel
theorem dX11_at_86 : decode cX11_at 86 = .ok (.ireturn, 1) := by decide +kernel
theorem dX11_at_87 : decode cX11_at 87 = .ok (.iload 5, 2) := by decide +kernel
theorem dX11_at_89 : decode cX11_at 89 = .ok (.ireturn, 1) := by decide +kernel
theorem dX11_at_90 : decode cX11_at 90 = .ok (.aload_n 0, 1) := by decide +kernel
theorem dX11_at_91 : decode cX11_at 91 = .ok (.iload_n 1, 1) := by decide +kernel
theorem dX11_at_92 : decode cX11_at 92 = .ok (.iload 4, 2) := by decide +kernel
theorem dX11_at_94 : decode cX11_at 94 = .ok (.invokevirtual 115, 3) := by decide +kernel
theorem dX11_at_97 : decode cX11_at 97 = .ok (.ireturn, 1) := by decide +kernel
theorem dX11_at_98 : decode cX11_at 98 = .ok (.iload 6, 2) := by decide +kernel
theorem dX11_at_100 : decode cX11_at 100 = .ok (.ifCond .eq 17, 3) := by decide +kernel
theorem dX11_at_103 : decode cX11_at 103 = .ok (.iload_n 2, 1) := by decide +kernel
theorem dX11_at_104 : decode cX11_at 104 = .ok (.ifCond .ne 8, 3) := by decide +kernel
theorem dX11_at_107 : decode cX11_at 107 = .ok (.bipush 100, 2) := by decide +kernel
theorem dX11_at_109 : decode cX11_at 109 = .ok (.goto 18, 3) := by decide +kernel
theorem dX11_at_112 : decode cX11_at 112 = .ok (.bipush (-100), 2) := by decide +kernel
theorem dX11_at_114 : decode cX11_at 114 = .ok (.goto 13, 3) := by decide +kernel
theorem dX11_at_117 : decode cX11_at 117 = .ok (.bipush 21, 2) := by decide +kernel
theorem dX11_at_119 : decode cX11_at 119 = .ok (.aload_n 0, 1) := by decide +kernel
theorem dX11_at_120 : decode cX11_at 120 = .ok (.iload_n 1, 1) := by decide +kernel
theorem dX11_at_121 : decode cX11_at 121 = .ok (.iload 4, 2) := by decide +kernel
theorem dX11_at_123 : decode cX11_at 123 = .ok (.invokevirtual 97, 3) := by decide +kernel
theorem dX11_at_126 : decode cX11_at 126 = .ok (.isub, 1) := by decide +kernel
theorem dX11_at_127 : decode cX11_at 127 = .ok (.ireturn, 1) := by decide +kernel
theorem dX11_at_128 : decode cX11_at 128 = .ok (.iload 6, 2) := by decide +kernel
theorem dX11_at_130 : decode cX11_at 130 = .ok (.ifCond .eq 7, 3) := by decide +kernel
theorem dX11_at_133 : decode cX11_at 133 = .ok (.iconst 0, 1) := by decide +kernel
theorem dX11_at_134 : decode cX11_at 134 = .ok (.goto 12, 3) := by decide +kernel
theorem dX11_at_137 : decode cX11_at 137 = .ok (.iload 5, 2) := by decide +kernel
theorem dX11_at_139 : decode cX11_at 139 = .ok (.aload_n 0, 1) := by decide +kernel
theorem dX11_at_140 : decode cX11_at 140 = .ok (.getfield 19, 3) := by decide +kernel
theorem dX11_at_143 : decode cX11_at 143 = .ok (.iload_n 1, 1) := by decide +kernel
theorem dX11_at_144 : decode cX11_at 144 = .ok (.iaload, 1) := by decide +kernel
theorem dX11_at_145 : decode cX11_at 145 = .ok (.idiv, 1) := by decide +kernel
theorem dX11_at_146 : decode cX11_at 146 = .ok (.ireturn, 1) := by decide +kernel
theorem dX11_at_147 : decode cX11_at 147 = .ok (.iload 6, 2) := by decide +kernel
theorem dX11_at_149 : decode cX11_at 149 = .ok (.ifCond .eq 7, 3) := by decide +kernel
theorem dX11_at_152 : decode cX11_at 152 = .ok (.iconst 0, 1) := by decide +kernel
theorem dX11_at_153 : decode cX11_at 153 = .ok (.goto 23, 3) := by decide +kernel
theorem dX11_at_156 : decode cX11_at 156 = .ok (.iload_n 1, 1) := by decide +kernel
theorem dX11_at_157 : decode cX11_at 157 = .ok (.ifCond .ne 10, 3) := by decide +kernel
theorem dX11_at_160 : decode cX11_at 160 = .ok (.iload 5, 2) := by decide +kernel
theorem dX11_at_162 : decode cX11_at 162 = .ok (.iconst 1, 1) := by decide +kernel
theorem dX11_at_163 : decode cX11_at 163 = .ok (.iadd, 1) := by decide +kernel
theorem dX11_at_164 : decode cX11_at 164 = .ok (.goto 12, 3) := by decide +kernel
theorem dX11_at_167 : decode cX11_at 167 = .ok (.aload_n 0, 1) := by decide +kernel
theorem dX11_at_168 : decode cX11_at 168 = .ok (.iload_n 1, 1) := by decide +kernel
theorem dX11_at_169 : decode cX11_at 169 = .ok (.iload 4, 2) := by decide +kernel
theorem dX11_at_171 : decode cX11_at 171 = .ok (.iload 5, 2) := by decide +kernel
theorem dX11_at_173 : decode cX11_at 173 = .ok (.invokevirtual 150, 3) := by decide +kernel
theorem dX11_at_176 : decode cX11_at 176 = .ok (.ireturn, 1) := by decide +kernel
theorem gX11_keyAt_X11_isLevel : GoodIn wsX11_keyAt (va_wsS RX11 84 yX11_isLevel wsX11_isLevel) := gw_c t_w522 (gw_c t_w521 (gw_c t_w510 (gw_c t_w520 (gw_t))))
theorem gX11_keyAt_X11_lastRow : GoodIn wsX11_keyAt (wsV RX11 94 RX11 yX11_lastRow wsX11_lastRow) := gw_c t_w534 (gw_c t_w533 (gw_c t_w532 (gw_c t_w510 (gw_c t_w531 (gw_t)))))
theorem gX11_keyAt_X11_in : GoodIn wsX11_keyAt (va_wsS RX11 72 yX11_in wsX11_in) := gw_c t_w519 (gw_c t_w518 (gw_c t_w510 (gw_c t_w517 (gw_t))))
theorem gX11_keyAt_X11_many : GoodIn wsX11_keyAt (wsV RX11 115 RX11 yX11_many wsX11_many) := gw_c t_w554 (gw_c t_w553 (gw_c t_w552 (gw_c t_w510 (gw_c t_w551 (gw_t)))))
theorem gX11_keyAt_X11_keyOf : GoodIn wsX11_keyAt (wsV RX11 104 RX11 yX11_keyOf wsX11_keyOf) := gw_c t_w546 (gw_c t_w545 (gw_c t_w544 (gw_c t_w510 (gw_c t_w543 (gw_t)))))
theorem dX11_keyAt_0 : decode cX11_keyAt 0 = .ok (.iload_n 1, 1) := by decide +kernel
theorem dX11_keyAt_1 : decode cX11_keyAt 1 = .ok (.invokestatic 84, 3) := by decide +kernel
theorem dX11_keyAt_4 : decode cX11_keyAt 4 = .ok (.ifCond .eq 46, 3) := by decide +kernel
theorem dX11_keyAt_7 : decode cX11_keyAt 7 = .ok (.iload_n 2, 1) := by decide +kernel
theorem dX11_keyAt_8 : decode cX11_keyAt 8 = .ok (.i2l, 1) := by decide +kernel
theorem dX11_keyAt_9 : decode cX11_keyAt 9 = .ok (.lconst 0, 1) := by decide +kernel
theorem dX11_keyAt_10 : decode cX11_keyAt 10 = .ok (.aload_n 0, 1) := by decide +kernel
theorem dX11_keyAt_11 : decode cX11_keyAt 11 = .ok (.iload_n 1, 1) := by decide +kernel
theorem dX11_keyAt_12 : decode cX11_keyAt 12 = .ok (.invokevirtual 94, 3) := by decide +kernel
theorem dX11_keyAt_15 : decode cX11_keyAt 15 = .ok (.i2l, 1) := by decide +kernel
theorem dX11_keyAt_16 : decode cX11_keyAt 16 = .ok (.invokestatic 72, 3) := by decide +kernel
theorem dX11_keyAt_19 : decode cX11_keyAt 19 = .ok (.ifCond .eq 31, 3) := by decide +kernel
theorem dX11_keyAt_22 : decode cX11_keyAt 22 = .ok (.iload_n 3, 1) := by decide +kernel
theorem dX11_keyAt_23 : decode cX11_keyAt 23 = .ok (.i2l, 1) := by decide +kernel
theorem dX11_keyAt_24 : decode cX11_keyAt 24 = .ok (.lconst 0, 1) := by decide +kernel
theorem dX11_keyAt_25 : decode cX11_keyAt 25 = .ok (.aload_n 0, 1) := by decide +kernel
theorem dX11_keyAt_26 : decode cX11_keyAt 26 = .ok (.iload_n 1, 1) := by decide +kernel
theorem dX11_keyAt_27 : decode cX11_keyAt 27 = .ok (.iload_n 2, 1) := by decide +kernel
theorem dX11_keyAt_28 : decode cX11_keyAt 28 = .ok (.invokevirtual 115, 3) := by decide +kernel
theorem dX11_keyAt_31 : decode cX11_keyAt 31 = .ok (.iconst 1, 1) := by decide +kernel
theorem dX11_keyAt_32 : decode cX11_keyAt 32 = .ok (.isub, 1) := by decide +kernel
theorem dX11_keyAt_33 : decode cX11_keyAt 33 = .ok (.i2l, 1) := by decide +kernel
theorem dX11_keyAt_34 : decode cX11_keyAt 34 = .ok (.invokestatic 72, 3) := by decide +kernel
theorem dX11_keyAt_37 : decode cX11_keyAt 37 = .ok (.ifCond .eq 13, 3) := by decide +kernel
theorem dX11_keyAt_40 : decode cX11_keyAt 40 = .ok (.aload_n 0, 1) := by decide +kernel
theorem dX11_keyAt_41 : decode cX11_keyAt 41 = .ok (.iload_n 1, 1) := by decide +kernel
theorem dX11_keyAt_42 : decode cX11_keyAt 42 = .ok (.iload_n 2, 1) := by decide +kernel
theorem dX11_keyAt_43 : decode cX11_keyAt 43 = .ok (.iload_n 3, 1) := by decide +kernel
theorem dX11_keyAt_44 : decode cX11_keyAt 44 = .ok (.invokevirtual 104, 3) := by decide +kernel
theorem dX11_keyAt_47 : decode cX11_keyAt 47 = .ok (.goto 4, 3) := by decide +kernel
theorem dX11_keyAt_50 : decode cX11_keyAt 50 = .ok (.iconst (-1), 1) := by decide +kernel
theorem dX11_keyAt_51 : decode cX11_keyAt 51 = .ok (.ireturn, 1) := by decide +kernel
theorem gX11_parentOf_X11_isCap : GoodIn wsX11_parentOf (wsV RX11 140 RX11 yX11_isCap wsX11_isCap) := gw_c t_w569 (gw_c t_w568 (gw_c t_w567 (gw_c t_w510 (gw_c t_w566 (gw_t)))))
theorem gX11_parentOf_X11_sheets : GoodIn wsX11_parentOf (wsV RX11 88 RX11 yX11_sheets wsX11_sheets) := gw_c t_w526 (gw_c t_w525 (gw_c t_w524 (gw_c t_w510 (gw_c t_w523 (gw_t)))))
theorem gX11_parentOf_X11_rowOf : GoodIn wsX11_parentOf (wsV RX11 101 RX11 yX11_rowOf wsX11_rowOf) := gw_c t_w542 (gw_c t_w541 (gw_c t_w540 (gw_c t_w510 (gw_c t_w539 (gw_t)))))
theorem gX11_parentOf_X11_placeOf : GoodIn wsX11_parentOf (wsV RX11 143 RX11 yX11_placeOf wsX11_placeOf) := gw_c t_w573 (gw_c t_w572 (gw_c t_w571 (gw_c t_w510 (gw_c t_w570 (gw_t)))))
theorem gX11_parentOf_X11_keyOf : GoodIn wsX11_parentOf (wsV RX11 104 RX11 yX11_keyOf wsX11_keyOf) := gw_c t_w546 (gw_c t_w545 (gw_c t_w544 (gw_c t_w510 (gw_c t_w543 (gw_t)))))
theorem dX11_parentOf_0 : decode cX11_parentOf 0 = .ok (.aload_n 0, 1) := by decide +kernel
theorem dX11_parentOf_1 : decode cX11_parentOf 1 = .ok (.iload_n 1, 1) := by decide +kernel
theorem dX11_parentOf_2 : decode cX11_parentOf 2 = .ok (.iload_n 2, 1) := by decide +kernel
theorem dX11_parentOf_3 : decode cX11_parentOf 3 = .ok (.invokevirtual 140, 3) := by decide +kernel
theorem dX11_parentOf_6 : decode cX11_parentOf 6 = .ok (.ifCond .eq 19, 3) := by decide +kernel
theorem dX11_parentOf_9 : decode cX11_parentOf 9 = .ok (.iload_n 2, 1) := by decide +kernel
theorem dX11_parentOf_10 : decode cX11_parentOf 10 = .ok (.ifCond .ne 7, 3) := by decide +kernel
theorem dX11_parentOf_13 : decode cX11_parentOf 13 = .ok (.iconst 0, 1) := by decide +kernel
theorem dX11_parentOf_14 : decode cX11_parentOf 14 = .ok (.goto 10, 3) := by decide +kernel
theorem dX11_parentOf_17 : decode cX11_parentOf 17 = .ok (.aload_n 0, 1) := by decide +kernel
theorem dX11_parentOf_18 : decode cX11_parentOf 18 = .ok (.iload_n 3, 1) := by decide +kernel
theorem dX11_parentOf_19 : decode cX11_parentOf 19 = .ok (.invokevirtual 88, 3) := by decide +kernel
theorem dX11_parentOf_22 : decode cX11_parentOf 22 = .ok (.iconst 1, 1) := by decide +kernel
theorem dX11_parentOf_23 : decode cX11_parentOf 23 = .ok (.isub, 1) := by decide +kernel
theorem dX11_parentOf_24 : decode cX11_parentOf 24 = .ok (.ireturn, 1) := by decide +kernel
theorem dX11_parentOf_25 : decode cX11_parentOf 25 = .ok (.aload_n 0, 1) := by decide +kernel
theorem dX11_parentOf_26 : decode cX11_parentOf 26 = .ok (.iload_n 3, 1) := by decide +kernel
theorem dX11_parentOf_27 : decode cX11_parentOf 27 = .ok (.iconst 1, 1) := by decide +kernel
theorem dX11_parentOf_28 : decode cX11_parentOf 28 = .ok (.aload_n 0, 1) := by decide +kernel
theorem dX11_parentOf_29 : decode cX11_parentOf 29 = .ok (.iload_n 1, 1) := by decide +kernel
theorem dX11_parentOf_30 : decode cX11_parentOf 30 = .ok (.iload_n 2, 1) := by decide +kernel
theorem dX11_parentOf_31 : decode cX11_parentOf 31 = .ok (.invokevirtual 101, 3) := by decide +kernel
theorem dX11_parentOf_34 : decode cX11_parentOf 34 = .ok (.iconst 1, 1) := by decide +kernel
theorem dX11_parentOf_35 : decode cX11_parentOf 35 = .ok (.isub, 1) := by decide +kernel
theorem dX11_parentOf_36 : decode cX11_parentOf 36 = .ok (.aload_n 0, 1) := by decide +kernel
theorem dX11_parentOf_37 : decode cX11_parentOf 37 = .ok (.getfield 16, 3) := by decide +kernel
theorem dX11_parentOf_40 : decode cX11_parentOf 40 = .ok (.iload_n 1, 1) := by decide +kernel
theorem dX11_parentOf_41 : decode cX11_parentOf 41 = .ok (.iaload, 1) := by decide +kernel
theorem dX11_parentOf_42 : decode cX11_parentOf 42 = .ok (.aload_n 0, 1) := by decide +kernel
theorem dX11_parentOf_43 : decode cX11_parentOf 43 = .ok (.getfield 16, 3) := by decide +kernel
theorem dX11_parentOf_46 : decode cX11_parentOf 46 = .ok (.iload_n 3, 1) := by decide +kernel
theorem dX11_parentOf_47 : decode cX11_parentOf 47 = .ok (.iaload, 1) := by decide +kernel
theorem dX11_parentOf_48 : decode cX11_parentOf 48 = .ok (.idiv, 1) := by decide +kernel
theorem dX11_parentOf_49 : decode cX11_parentOf 49 = .ok (.idiv, 1) := by decide +kernel
theorem dX11_parentOf_50 : decode cX11_parentOf 50 = .ok (.iadd, 1) := by decide +kernel
theorem dX11_parentOf_51 : decode cX11_parentOf 51 = .ok (.aload_n 0, 1) := by decide +kernel
theorem dX11_parentOf_52 : decode cX11_parentOf 52 = .ok (.iload_n 1, 1) := by decide +kernel
theorem dX11_parentOf_53 : decode cX11_parentOf 53 = .ok (.iload_n 2, 1) := by decide +kernel
theorem dX11_parentOf_54 : decode cX11_parentOf 54 = .ok (.invokevirtual 143, 3) := by decide +kernel
theorem dX11_parentOf_57 : decode cX11_parentOf 57 = .ok (.aload_n 0, 1) := by decide +kernel
theorem dX11_parentOf_58 : decode cX11_parentOf 58 = .ok (.getfield 19, 3) := by decide +kernel
theorem dX11_parentOf_61 : decode cX11_parentOf 61 = .ok (.iload_n 1, 1) := by decide +kernel
theorem dX11_parentOf_62 : decode cX11_parentOf 62 = .ok (.iaload, 1) := by decide +kernel
theorem dX11_parentOf_63 : decode cX11_parentOf 63 = .ok (.aload_n 0, 1) := by decide +kernel
theorem dX11_parentOf_64 : decode cX11_parentOf 64 = .ok (.getfield 19, 3) := by decide +kernel
theorem dX11_parentOf_67 : decode cX11_parentOf 67 = .ok (.iload_n 3, 1) := by decide +kernel
theorem dX11_parentOf_68 : decode cX11_parentOf 68 = .ok (.iaload, 1) := by decide +kernel
theorem dX11_parentOf_69 : decode cX11_parentOf 69 = .ok (.idiv, 1) := by decide +kernel
theorem dX11_parentOf_70 : decode cX11_parentOf 70 = .ok (.idiv, 1) := by decide +kernel
theorem dX11_parentOf_71 : decode cX11_parentOf 71 = .ok (.invokevirtual 104, 3) := by decide +kernel
theorem dX11_parentOf_74 : decode cX11_parentOf 74 = .ok (.ireturn, 1) := by decide +kernel
theorem gX11_parent_X11_isKey : GoodIn wsX11_parent (wsV RX11 153 RX11 yX11_isKey wsX11_isKey) := gw_c t_w585 (gw_c t_w584 (gw_c t_w583 (gw_c t_w510 (gw_c t_w582 (gw_t)))))
theorem gX11_parent_X11_in : GoodIn wsX11_parent (va_wsS RX11 72 yX11_in wsX11_in) := gw_c t_w519 (gw_c t_w518 (gw_c t_w510 (gw_c t_w517 (gw_t))))
theorem gX11_parent_X11_parentOf : GoodIn wsX11_parent (wsV RX11 254 RX11 yX11_parentOf wsX11_parentOf) := gw_c t_w631 (gw_c t_w630 (gw_c t_w629 (gw_c t_w510 (gw_c t_w628 (gw_t)))))
theorem dX11_parent_0 : decode cX11_parent 0 = .ok (.aload_n 0, 1) := by decide +kernel
theorem dX11_parent_1 : decode cX11_parent 1 = .ok (.iload_n 1, 1) := by decide +kernel
theorem dX11_parent_2 : decode cX11_parent 2 = .ok (.iload_n 2, 1) := by decide +kernel
theorem dX11_parent_3 : decode cX11_parent 3 = .ok (.invokevirtual 153, 3) := by decide +kernel
theorem dX11_parent_6 : decode cX11_parent 6 = .ok (.ifCond .eq 24, 3) := by decide +kernel
theorem dX11_parent_9 : decode cX11_parent 9 = .ok (.iload_n 3, 1) := by decide +kernel
theorem dX11_parent_10 : decode cX11_parent 10 = .ok (.i2l, 1) := by decide +kernel
theorem dX11_parent_11 : decode cX11_parent 11 = .ok (.lconst 0, 1) := by decide +kernel
theorem dX11_parent_12 : decode cX11_parent 12 = .ok (.iload_n 1, 1) := by decide +kernel
theorem dX11_parent_13 : decode cX11_parent 13 = .ok (.i2l, 1) := by decide +kernel
theorem dX11_parent_14 : decode cX11_parent 14 = .ok (.invokestatic 72, 3) := by decide +kernel
theorem dX11_parent_17 : decode cX11_parent 17 = .ok (.ifCond .eq 13, 3) := by decide +kernel
theorem dX11_parent_20 : decode cX11_parent 20 = .ok (.aload_n 0, 1) := by decide +kernel
theorem dX11_parent_21 : decode cX11_parent 21 = .ok (.iload_n 1, 1) := by decide +kernel
theorem dX11_parent_22 : decode cX11_parent 22 = .ok (.iload_n 2, 1) := by decide +kernel
theorem dX11_parent_23 : decode cX11_parent 23 = .ok (.iload_n 3, 1) := by decide +kernel
theorem dX11_parent_24 : decode cX11_parent 24 = .ok (.invokevirtual 254, 3) := by decide +kernel
theorem dX11_parent_27 : decode cX11_parent 27 = .ok (.goto 4, 3) := by decide +kernel
theorem dX11_parent_30 : decode cX11_parent 30 = .ok (.iconst (-1), 1) := by decide +kernel
theorem dX11_parent_31 : decode cX11_parent 31 = .ok (.ireturn, 1) := by decide +kernel
theorem gX11_child_X11_isKey : GoodIn wsX11_child (wsV RX11 153 RX11 yX11_isKey wsX11_isKey) := gw_c t_w585 (gw_c t_w584 (gw_c t_w583 (gw_c t_w510 (gw_c t_w582 (gw_t)))))
theorem gX11_child_X11_in : GoodIn wsX11_child (va_wsS RX11 72 yX11_in wsX11_in) := gw_c t_w519 (gw_c t_w518 (gw_c t_w510 (gw_c t_w517 (gw_t))))
theorem gX11_child_X11_isCap : GoodIn wsX11_child (wsV RX11 140 RX11 yX11_isCap wsX11_isCap) := gw_c t_w569 (gw_c t_w568 (gw_c t_w567 (gw_c t_w510 (gw_c t_w566 (gw_t)))))
theorem gX11_child_X11_sheets : GoodIn wsX11_child (wsV RX11 88 RX11 yX11_sheets wsX11_sheets) := gw_c t_w526 (gw_c t_w525 (gw_c t_w524 (gw_c t_w510 (gw_c t_w523 (gw_t)))))
theorem gX11_child_X11_rowOf : GoodIn wsX11_child (wsV RX11 101 RX11 yX11_rowOf wsX11_rowOf) := gw_c t_w542 (gw_c t_w541 (gw_c t_w540 (gw_c t_w510 (gw_c t_w539 (gw_t)))))
theorem gX11_child_X11_placeOf : GoodIn wsX11_child (wsV RX11 143 RX11 yX11_placeOf wsX11_placeOf) := gw_c t_w573 (gw_c t_w572 (gw_c t_w571 (gw_c t_w510 (gw_c t_w570 (gw_t)))))
theorem gX11_child_X11_keyOf : GoodIn wsX11_child (wsV RX11 104 RX11 yX11_keyOf wsX11_keyOf) := gw_c t_w546 (gw_c t_w545 (gw_c t_w544 (gw_c t_w510 (gw_c t_w543 (gw_t)))))
theorem dX11_child_0 : decode cX11_child 0 = .ok (.aload_n 0, 1) := by decide +kernel
theorem dX11_child_1 : decode cX11_child 1 = .ok (.iload_n 1, 1) := by decide +kernel
theorem dX11_child_2 : decode cX11_child 2 = .ok (.iload_n 2, 1) := by decide +kernel
theorem dX11_child_3 : decode cX11_child 3 = .ok (.invokevirtual 153, 3) := by decide +kernel
theorem dX11_child_6 : decode cX11_child 6 = .ok (.ifCond .eq 22, 3) := by decide +kernel
theorem dX11_child_9 : decode cX11_child 9 = .ok (.iload_n 3, 1) := by decide +kernel
theorem dX11_child_10 : decode cX11_child 10 = .ok (.i2l, 1) := by decide +kernel
theorem dX11_child_11 : decode cX11_child 11 = .ok (.iload_n 1, 1) := by decide +kernel
theorem dX11_child_12 : decode cX11_child 12 = .ok (.i2l, 1) := by decide +kernel
theorem dX11_child_13 : decode cX11_child 13 = .ok (.ldc2_w 70, 3) := by decide +kernel
theorem dX11_child_16 : decode cX11_child 16 = .ok (.invokestatic 72, 3) := by decide +kernel
theorem dX11_child_19 : decode cX11_child 19 = .ok (.ifCond .eq 9, 3) := by decide +kernel
theorem dX11_child_22 : decode cX11_child 22 = .ok (.iload 4, 2) := by decide +kernel
theorem dX11_child_24 : decode cX11_child 24 = .ok (.iconst (-1), 1) := by decide +kernel
theorem dX11_child_25 : decode cX11_child 25 = .ok (.if_icmp .ge 5, 3) := by decide +kernel
theorem dX11_child_28 : decode cX11_child 28 = .ok (.iconst (-1), 1) := by decide +kernel
theorem dX11_child_29 : decode cX11_child 29 = .ok (.ireturn, 1) := by decide +kernel
theorem dX11_child_30 : decode cX11_child 30 = .ok (.aload_n 0, 1) := by decide +kernel
theorem dX11_child_31 : decode cX11_child 31 = .ok (.iload_n 1, 1) := by decide +kernel
theorem dX11_child_32 : decode cX11_child 32 = .ok (.iload_n 2, 1) := by decide +kernel
theorem dX11_child_33 : decode cX11_child 33 = .ok (.invokevirtual 140, 3) := by decide +kernel
theorem dX11_child_36 : decode cX11_child 36 = .ok (.istore 5, 2) := by decide +kernel
theorem dX11_child_38 : decode cX11_child 38 = .ok (.iload 5, 2) := by decide +kernel
theorem dX11_child_40 : decode cX11_child 40 = .ok (.ifCond .eq 7, 3) := by decide +kernel
theorem dX11_child_43 : decode cX11_child 43 = .ok (.iconst 1, 1) := by decide +kernel
theorem dX11_child_44 : decode cX11_child 44 = .ok (.goto 16, 3) := by decide +kernel
theorem dX11_child_47 : decode cX11_child 47 = .ok (.aload_n 0, 1) := by decide +kernel
theorem dX11_child_48 : decode cX11_child 48 = .ok (.getfield 16, 3) := by decide +kernel
theorem dX11_child_51 : decode cX11_child 51 = .ok (.iload_n 3, 1) := by decide +kernel
theorem dX11_child_52 : decode cX11_child 52 = .ok (.iaload, 1) := by decide +kernel
theorem dX11_child_53 : decode cX11_child 53 = .ok (.aload_n 0, 1) := by decide +kernel
theorem dX11_child_54 : decode cX11_child 54 = .ok (.getfield 16, 3) := by decide +kernel
theorem dX11_child_57 : decode cX11_child 57 = .ok (.iload_n 1, 1) := by decide +kernel
theorem dX11_child_58 : decode cX11_child 58 = .ok (.iaload, 1) := by decide +kernel
theorem dX11_child_59 : decode cX11_child 59 = .ok (.idiv, 1) := by decide +kernel
theorem dX11_child_60 : decode cX11_child 60 = .ok (.istore 6, 2) := by decide +kernel
theorem dX11_child_62 : decode cX11_child 62 = .ok (.iload 5, 2) := by decide +kernel
theorem dX11_child_64 : decode cX11_child 64 = .ok (.ifCond .eq 7, 3) := by decide +kernel
theorem dX11_child_67 : decode cX11_child 67 = .ok (.iconst 1, 1) := by decide +kernel
theorem dX11_child_68 : decode cX11_child 68 = .ok (.goto 16, 3) := by decide +kernel
theorem dX11_child_71 : decode cX11_child 71 = .ok (.aload_n 0, 1) := by decide +kernel
theorem dX11_child_72 : decode cX11_child 72 = .ok (.getfield 19, 3) := by decide +kernel
theorem dX11_child_75 : decode cX11_child 75 = .ok (.iload_n 3, 1) := by decide +kernel
theorem dX11_child_76 : decode cX11_child 76 = .ok (.iaload, 1) := by decide +kernel
theorem dX11_child_77 : decode cX11_child 77 = .ok (.aload_n 0, 1) := by decide +kernel
theorem dX11_child_78 : decode cX11_child 78 = .ok (.getfield 19, 3) := by decide +kernel
theorem dX11_child_81 : decode cX11_child 81 = .ok (.iload_n 1, 1) := by decide +kernel
theorem dX11_child_82 : decode cX11_child 82 = .ok (.iaload, 1) := by decide +kernel
theorem dX11_child_83 : decode cX11_child 83 = .ok (.idiv, 1) := by decide +kernel
theorem dX11_child_84 : decode cX11_child 84 = .ok (.istore 7, 2) := by decide +kernel
theorem dX11_child_86 : decode cX11_child 86 = .ok (.iload 4, 2) := by decide +kernel
theorem dX11_child_88 : decode cX11_child 88 = .ok (.iconst (-1), 1) := by decide +kernel
theorem dX11_child_89 : decode cX11_child 89 = .ok (.if_icmp .ne 9, 3) := by decide +kernel
theorem dX11_child_92 : decode cX11_child 92 = .ok (.iload 6, 2) := by decide +kernel
theorem dX11_child_94 : decode cX11_child 94 = .ok (.iload 7, 2) := by decide +kernel
theorem dX11_child_96 : decode cX11_child 96 = .ok (.imul, 1) := by decide +kernel
theorem dX11_child_97 : decode cX11_child 97 = .ok (.ireturn, 1) := by decide +kernel
theorem dX11_child_98 : decode cX11_child 98 = .ok (.iload 4, 2) := by decide +kernel
theorem dX11_child_100 : decode cX11_child 100 = .ok (.iload 6, 2) := by decide +kernel
theorem dX11_child_102 : decode cX11_child 102 = .ok (.iload 7, 2) := by decide +kernel
theorem dX11_child_104 : decode cX11_child 104 = .ok (.imul, 1) := by decide +kernel
theorem dX11_child_105 : decode cX11_child 105 = .ok (.if_icmp .lt 6, 3) := by decide +kernel
theorem dX11_child_108 : decode cX11_child 108 = .ok (.bipush (-2), 2) := by decide +kernel
theorem dX11_child_110 : decode cX11_child 110 = .ok (.ireturn, 1) := by decide +kernel
theorem dX11_child_111 : decode cX11_child 111 = .ok (.iload 5, 2) := by decide +kernel
theorem dX11_child_113 : decode cX11_child 113 = .ok (.ifCond .eq 19, 3) := by decide +kernel
theorem dX11_child_116 : decode cX11_child 116 = .ok (.iload_n 2, 1) := by decide +kernel
theorem dX11_child_117 : decode cX11_child 117 = .ok (.ifCond .ne 7, 3) := by decide +kernel
theorem dX11_child_120 : decode cX11_child 120 = .ok (.iconst 0, 1) := by decide +kernel
theorem dX11_child_121 : decode cX11_child 121 = .ok (.goto 10, 3) := by decide +kernel
theorem dX11_child_124 : decode cX11_child 124 = .ok (.aload_n 0, 1) := by decide +kernel
theorem dX11_child_125 : decode cX11_child 125 = .ok (.iload_n 3, 1) := by decide +kernel
theorem dX11_child_126 : decode cX11_child 126 = .ok (.invokevirtual 88, 3) := by decide +kernel
theorem dX11_child_129 : decode cX11_child 129 = .ok (.iconst 1, 1) := by decide +kernel
theorem dX11_child_130 : decode cX11_child 130 = .ok (.isub, 1) := by decide +kernel
theorem dX11_child_131 : decode cX11_child 131 = .ok (.ireturn, 1) := by decide +kernel
theorem dX11_child_132 : decode cX11_child 132 = .ok (.aload_n 0, 1) := by decide +kernel
theorem dX11_child_133 : decode cX11_child 133 = .ok (.iload_n 3, 1) := by decide +kernel
theorem dX11_child_134 : decode cX11_child 134 = .ok (.iconst 1, 1) := by decide +kernel
theorem dX11_child_135 : decode cX11_child 135 = .ok (.aload_n 0, 1) := by decide +kernel
theorem dX11_child_136 : decode cX11_child 136 = .ok (.iload_n 1, 1) := by decide +kernel
theorem dX11_child_137 : decode cX11_child 137 = .ok (.iload_n 2, 1) := by decide +kernel
theorem dX11_child_138 : decode cX11_child 138 = .ok (.invokevirtual 101, 3) := by decide +kernel
theorem dX11_child_141 : decode cX11_child 141 = .ok (.iconst 1, 1) := by decide +kernel
theorem dX11_child_142 : decode cX11_child 142 = .ok (.isub, 1) := by decide +kernel
theorem dX11_child_143 : decode cX11_child 143 = .ok (.iload 6, 2) := by decide +kernel
theorem dX11_child_145 : decode cX11_child 145 = .ok (.imul, 1) := by decide +kernel
theorem dX11_child_146 : decode cX11_child 146 = .ok (.iadd, 1) := by decide +kernel
theorem dX11_child_147 : decode cX11_child 147 = .ok (.iload 4, 2) := by decide +kernel
theorem dX11_child_149 : decode cX11_child 149 = .ok (.iload 7, 2) := by decide +kernel
theorem dX11_child_151 : decode cX11_child 151 = .ok (.idiv, 1) := by decide +kernel
theorem dX11_child_152 : decode cX11_child 152 = .ok (.iadd, 1) := by decide +kernel
theorem dX11_child_153 : decode cX11_child 153 = .ok (.aload_n 0, 1) := by decide +kernel
theorem dX11_child_154 : decode cX11_child 154 = .ok (.iload_n 1, 1) := by decide +kernel
theorem dX11_child_155 : decode cX11_child 155 = .ok (.iload_n 2, 1) := by decide +kernel
theorem dX11_child_156 : decode cX11_child 156 = .ok (.invokevirtual 143, 3) := by decide +kernel
theorem dX11_child_159 : decode cX11_child 159 = .ok (.iload 7, 2) := by decide +kernel
theorem dX11_child_161 : decode cX11_child 161 = .ok (.imul, 1) := by decide +kernel
theorem dX11_child_162 : decode cX11_child 162 = .ok (.iload 4, 2) := by decide +kernel
theorem dX11_child_164 : decode cX11_child 164 = .ok (.iload 7, 2) := by decide +kernel
theorem dX11_child_166 : decode cX11_child 166 = .ok (.irem, 1) := by decide +kernel
theorem dX11_child_167 : decode cX11_child 167 = .ok (.iadd, 1) := by decide +kernel
theorem dX11_child_168 : decode cX11_child 168 = .ok (.invokevirtual 104, 3) := by decide +kernel
theorem dX11_child_171 : decode cX11_child 171 = .ok (.ireturn, 1) := by decide +kernel
theorem gX11_common__X11_isPlace : GoodIn wsX11_common_ (va_wsS RX11 133 yX11_isPlace wsX11_isPlace) := gw_c t_w561 (gw_c t_w560 (gw_c t_w510 (gw_c t_w559 (gw_t))))
theorem gX11_common__X11_keyAtPlace : GoodIn wsX11_common_ (wsV RX11 137 RX11 yX11_keyAtPlace wsX11_keyAtPlace) := gw_c t_w565 (gw_c t_w564 (gw_c t_w563 (gw_c t_w510 (gw_c t_w562 (gw_t)))))
theorem dX11_common__0 : decode cX11_common_ 0 = .ok (.iload_n 1, 1) := by decide +kernel
theorem dX11_common__1 : decode cX11_common_ 1 = .ok (.iload_n 2, 1) := by decide +kernel
theorem dX11_common__2 : decode cX11_common_ 2 = .ok (.invokestatic 133, 3) := by decide +kernel
theorem dX11_common__5 : decode cX11_common_ 5 = .ok (.ifCond .eq 12, 3) := by decide +kernel
theorem dX11_common__8 : decode cX11_common_ 8 = .ok (.iload_n 3, 1) := by decide +kernel
theorem dX11_common__9 : decode cX11_common_ 9 = .ok (.iload 4, 2) := by decide +kernel
theorem dX11_common__11 : decode cX11_common_ 11 = .ok (.invokestatic 133, 3) := by decide +kernel
theorem dX11_common__14 : decode cX11_common_ 14 = .ok (.ifCond .ne 5, 3) := by decide +kernel
theorem dX11_common__17 : decode cX11_common_ 17 = .ok (.iconst (-1), 1) := by decide +kernel
theorem dX11_common__18 : decode cX11_common_ 18 = .ok (.ireturn, 1) := by decide +kernel
theorem dX11_common__19 : decode cX11_common_ 19 = .ok (.iconst 4, 1) := by decide +kernel
theorem dX11_common__20 : decode cX11_common_ 20 = .ok (.istore 5, 2) := by decide +kernel
theorem dX11_common__22 : decode cX11_common_ 22 = .ok (.iload 5, 2) := by decide +kernel
theorem dX11_common__24 : decode cX11_common_ 24 = .ok (.ifCond .lt 32, 3) := by decide +kernel
theorem dX11_common__27 : decode cX11_common_ 27 = .ok (.aload_n 0, 1) := by decide +kernel
theorem dX11_common__28 : decode cX11_common_ 28 = .ok (.iload_n 1, 1) := by decide +kernel
theorem dX11_common__29 : decode cX11_common_ 29 = .ok (.iload_n 2, 1) := by decide +kernel
theorem dX11_common__30 : decode cX11_common_ 30 = .ok (.iload 5, 2) := by decide +kernel
theorem dX11_common__32 : decode cX11_common_ 32 = .ok (.invokevirtual 137, 3) := by decide +kernel
theorem dX11_common__35 : decode cX11_common_ 35 = .ok (.aload_n 0, 1) := by decide +kernel
theorem dX11_common__36 : decode cX11_common_ 36 = .ok (.iload_n 3, 1) := by decide +kernel
theorem dX11_common__37 : decode cX11_common_ 37 = .ok (.iload 4, 2) := by decide +kernel
theorem dX11_common__39 : decode cX11_common_ 39 = .ok (.iload 5, 2) := by decide +kernel
theorem dX11_common__41 : decode cX11_common_ 41 = .ok (.invokevirtual 137, 3) := by decide +kernel
theorem dX11_common__44 : decode cX11_common_ 44 = .ok (.if_icmp .ne 6, 3) := by decide +kernel
theorem dX11_common__47 : decode cX11_common_ 47 = .ok (.iload 5, 2) := by decide +kernel
theorem dX11_common__49 : decode cX11_common_ 49 = .ok (.ireturn, 1) := by decide +kernel
theorem dX11_common__50 : decode cX11_common_ 50 = .ok (.iinc 5 (-1), 3) := by decide +kernel
theorem dX11_common__53 : decode cX11_common_ 53 = .ok (.goto (-31), 3) := by decide +kernel
theorem dX11_common__56 : decode cX11_common_ 56 = .ok (.bipush (-2), 2) := by decide +kernel
theorem dX11_common__58 : decode cX11_common_ 58 = .ok (.ireturn, 1) := by decide +kernel
theorem gX11_laysBeside_X11_rowOf : GoodIn wsX11_laysBeside (wsV RX11 101 RX11 yX11_rowOf wsX11_rowOf) := gw_c t_w542 (gw_c t_w541 (gw_c t_w540 (gw_c t_w510 (gw_c t_w539 (gw_t)))))
theorem gX11_laysBeside_X11_placeOf : GoodIn wsX11_laysBeside (wsV RX11 143 RX11 yX11_placeOf wsX11_placeOf) := gw_c t_w573 (gw_c t_w572 (gw_c t_w571 (gw_c t_w510 (gw_c t_w570 (gw_t)))))
theorem gX11_laysBeside_X11_many : GoodIn wsX11_laysBeside (wsV RX11 115 RX11 yX11_many wsX11_many) := gw_c t_w554 (gw_c t_w553 (gw_c t_w552 (gw_c t_w510 (gw_c t_w551 (gw_t)))))
theorem gX11_laysBeside_X11_keyOf : GoodIn wsX11_laysBeside (wsV RX11 104 RX11 yX11_keyOf wsX11_keyOf) := gw_c t_w546 (gw_c t_w545 (gw_c t_w544 (gw_c t_w510 (gw_c t_w543 (gw_t)))))
theorem gX11_laysBeside_X11_lastRow : GoodIn wsX11_laysBeside (wsV RX11 94 RX11 yX11_lastRow wsX11_lastRow) := gw_c t_w534 (gw_c t_w533 (gw_c t_w532 (gw_c t_w510 (gw_c t_w531 (gw_t)))))
theorem gX11_laysBeside_X11_in : GoodIn wsX11_laysBeside (va_wsS RX11 72 yX11_in wsX11_in) := gw_c t_w519 (gw_c t_w518 (gw_c t_w510 (gw_c t_w517 (gw_t))))
