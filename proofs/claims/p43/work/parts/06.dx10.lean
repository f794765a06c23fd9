theorem dX10_init_0 : decode cX10_init 0 = .ok (.aload_n 0, 1) := by decide +kernel
theorem dX10_init_1 : decode cX10_init 1 = .ok (.invokespecial 1, 3) := by decide +kernel
theorem dX10_init_4 : decode cX10_init 4 = .ok (.aload_n 0, 1) := by decide +kernel
theorem dX10_init_5 : decode cX10_init 5 = .ok (.new 7, 3) := by decide +kernel
theorem dX10_init_8 : decode cX10_init 8 = .ok (.dup, 1) := by decide +kernel
theorem dX10_init_9 : decode cX10_init 9 = .ok (.invokespecial 9, 3) := by decide +kernel
theorem dX10_init_12 : decode cX10_init 12 = .ok (.putfield 10, 3) := by decide +kernel
theorem dX10_init_15 : decode cX10_init 15 = .ok (.aload_n 0, 1) := by decide +kernel
theorem dX10_init_16 : decode cX10_init 16 = .ok (.aload_n 0, 1) := by decide +kernel
theorem dX10_init_17 : decode cX10_init 17 = .ok (.getfield 10, 3) := by decide +kernel
theorem dX10_init_20 : decode cX10_init 20 = .ok (.getfield 16, 3) := by decide +kernel
theorem dX10_init_23 : decode cX10_init 23 = .ok (.putfield 20, 3) := by decide +kernel
theorem dX10_init_26 : decode cX10_init 26 = .ok (.aload_n 0, 1) := by decide +kernel
theorem dX10_init_27 : decode cX10_init 27 = .ok (.aload_n 0, 1) := by decide +kernel
theorem dX10_init_28 : decode cX10_init 28 = .ok (.getfield 10, 3) := by decide +kernel
theorem dX10_init_31 : decode cX10_init 31 = .ok (.getfield 21, 3) := by decide +kernel
theorem dX10_init_34 : decode cX10_init 34 = .ok (.putfield 25, 3) := by decide +kernel
theorem dX10_init_37 : decode cX10_init 37 = .ok (.aload_n 0, 1) := by decide +kernel
theorem dX10_init_38 : decode cX10_init 38 = .ok (.bipush 8, 2) := by decide +kernel
theorem dX10_init_40 : decode cX10_init 40 = .ok (.anewarray 7, 3) := by decide +kernel
theorem dX10_init_43 : decode cX10_init 43 = .ok (.putfield 28, 3) := by decide +kernel
theorem dX10_init_46 : decode cX10_init 46 = .ok (.aload_n 0, 1) := by decide +kernel
theorem dX10_init_47 : decode cX10_init 47 = .ok (.iconst 0, 1) := by decide +kernel
theorem dX10_init_48 : decode cX10_init 48 = .ok (.putfield 32, 3) := by decide +kernel
theorem dX10_init_51 : decode cX10_init 51 = .ok (.aload_n 0, 1) := by decide +kernel
theorem dX10_init_52 : decode cX10_init 52 = .ok (.new 36, 3) := by decide +kernel
theorem dX10_init_55 : decode cX10_init 55 = .ok (.dup, 1) := by decide +kernel
theorem dX10_init_56 : decode cX10_init 56 = .ok (.invokespecial 38, 3) := by decide +kernel
theorem dX10_init_59 : decode cX10_init 59 = .ok (.putfield 39, 3) := by decide +kernel
theorem dX10_init_62 : decode cX10_init 62 = .ok (.aload_n 0, 1) := by decide +kernel
theorem dX10_init_63 : decode cX10_init 63 = .ok (.new 43, 3) := by decide +kernel
theorem dX10_init_66 : decode cX10_init 66 = .ok (.dup, 1) := by decide +kernel
theorem dX10_init_67 : decode cX10_init 67 = .ok (.aload_n 0, 1) := by decide +kernel
theorem dX10_init_68 : decode cX10_init 68 = .ok (.getfield 20, 3) := by decide +kernel
theorem dX10_init_71 : decode cX10_init 71 = .ok (.aload_n 0, 1) := by decide +kernel
theorem dX10_init_72 : decode cX10_init 72 = .ok (.getfield 39, 3) := by decide +kernel
theorem dX10_init_75 : decode cX10_init 75 = .ok (.invokespecial 45, 3) := by decide +kernel
theorem dX10_init_78 : decode cX10_init 78 = .ok (.putfield 48, 3) := by decide +kernel
theorem dX10_init_81 : decode cX10_init 81 = .ok (.aload_n 0, 1) := by decide +kernel
theorem dX10_init_82 : decode cX10_init 82 = .ok (.new 52, 3) := by decide +kernel
theorem dX10_init_85 : decode cX10_init 85 = .ok (.dup, 1) := by decide +kernel
theorem dX10_init_86 : decode cX10_init 86 = .ok (.aload_n 0, 1) := by decide +kernel
theorem dX10_init_87 : decode cX10_init 87 = .ok (.getfield 48, 3) := by decide +kernel
theorem dX10_init_90 : decode cX10_init 90 = .ok (.aload_n 0, 1) := by decide +kernel
theorem dX10_init_91 : decode cX10_init 91 = .ok (.getfield 39, 3) := by decide +kernel
theorem dX10_init_94 : decode cX10_init 94 = .ok (.invokespecial 54, 3) := by decide +kernel
theorem dX10_init_97 : decode cX10_init 97 = .ok (.putfield 57, 3) := by decide +kernel
theorem dX10_init_100 : decode cX10_init 100 = .ok (.aload_n 0, 1) := by decide +kernel
theorem dX10_init_101 : decode cX10_init 101 = .ok (.new 61, 3) := by decide +kernel
theorem dX10_init_104 : decode cX10_init 104 = .ok (.dup, 1) := by decide +kernel
theorem dX10_init_105 : decode cX10_init 105 = .ok (.aload_n 0, 1) := by decide +kernel
theorem dX10_init_106 : decode cX10_init 106 = .ok (.getfield 20, 3) := by decide +kernel
theorem dX10_init_109 : decode cX10_init 109 = .ok (.invokespecial 63, 3) := by decide +kernel
theorem dX10_init_112 : decode cX10_init 112 = .ok (.putfield 66, 3) := by decide +kernel
theorem dX10_init_115 : decode cX10_init 115 = .ok (.aload_n 0, 1) := by decide +kernel
theorem dX10_init_116 : decode cX10_init 116 = .ok (.new 70, 3) := by decide +kernel
theorem dX10_init_119 : decode cX10_init 119 = .ok (.dup, 1) := by decide +kernel
theorem dX10_init_120 : decode cX10_init 120 = .ok (.aload_n 0, 1) := by decide +kernel
theorem dX10_init_121 : decode cX10_init 121 = .ok (.getfield 20, 3) := by decide +kernel
theorem dX10_init_124 : decode cX10_init 124 = .ok (.invokespecial 72, 3) := by decide +kernel
theorem dX10_init_127 : decode cX10_init 127 = .ok (.putfield 73, 3) := by decide +kernel
theorem dX10_init_130 : decode cX10_init 130 = .ok (.aload_n 0, 1) := by decide +kernel
theorem dX10_init_131 : decode cX10_init 131 = .ok (.new 77, 3) := by decide +kernel
theorem dX10_init_134 : decode cX10_init 134 = .ok (.dup, 1) := by decide +kernel
theorem dX10_init_135 : decode cX10_init 135 = .ok (.aload_n 0, 1) := by decide +kernel
theorem dX10_init_136 : decode cX10_init 136 = .ok (.getfield 20, 3) := by decide +kernel
theorem dX10_init_139 : decode cX10_init 139 = .ok (.invokespecial 79, 3) := by decide +kernel
theorem dX10_init_142 : decode cX10_init 142 = .ok (.putfield 80, 3) := by decide +kernel
theorem dX10_init_145 : decode cX10_init 145 = .ok (.aload_n 0, 1) := by decide +kernel
theorem dX10_init_146 : decode cX10_init 146 = .ok (.new 84, 3) := by decide +kernel
theorem dX10_init_149 : decode cX10_init 149 = .ok (.dup, 1) := by decide +kernel
theorem dX10_init_150 : decode cX10_init 150 = .ok (.invokespecial 86, 3) := by decide +kernel
theorem dX10_init_153 : decode cX10_init 153 = .ok (.putfield 87, 3) := by decide +kernel
theorem dX10_init_156 : decode cX10_init 156 = .ok (.aload_n 0, 1) := by decide +kernel
theorem dX10_init_157 : decode cX10_init 157 = .ok (.new 84, 3) := by decide +kernel
theorem dX10_init_160 : decode cX10_init 160 = .ok (.dup, 1) := by decide +kernel
theorem dX10_init_161 : decode cX10_init 161 = .ok (.invokespecial 86, 3) := by decide +kernel
theorem dX10_init_164 : decode cX10_init 164 = .ok (.putfield 91, 3) := by decide +kernel
theorem dX10_init_167 : decode cX10_init 167 = .ok (.aload_n 0, 1) := by decide +kernel
theorem dX10_init_168 : decode cX10_init 168 = .ok (.sipush 200, 3) := by decide +kernel
theorem dX10_init_171 : decode cX10_init 171 = .ok (.newarray .int, 2) := by decide +kernel
theorem dX10_init_173 : decode cX10_init 173 = .ok (.putfield 94, 3) := by decide +kernel
theorem dX10_init_176 : decode cX10_init 176 = .ok (.iconst 0, 1) := by decide +kernel
theorem dX10_init_177 : decode cX10_init 177 = .ok (.istore_n 1, 1) := by decide +kernel
theorem dX10_init_178 : decode cX10_init 178 = .ok (.iload_n 1, 1) := by decide +kernel
theorem dX10_init_179 : decode cX10_init 179 = .ok (.aload_n 0, 1) := by decide +kernel
theorem dX10_init_180 : decode cX10_init 180 = .ok (.getfield 28, 3) := by decide +kernel
theorem dX10_init_183 : decode cX10_init 183 = .ok (.arraylength, 1) := by decide +kernel
theorem dX10_init_184 : decode cX10_init 184 = .ok (.if_icmp .ge 22, 3) := by decide +kernel
theorem dX10_init_187 : decode cX10_init 187 = .ok (.aload_n 0, 1) := by decide +kernel
theorem dX10_init_188 : decode cX10_init 188 = .ok (.getfield 28, 3) := by decide +kernel
theorem dX10_init_191 : decode cX10_init 191 = .ok (.iload_n 1, 1) := by decide +kernel
theorem dX10_init_192 : decode cX10_init 192 = .ok (.new 7, 3) := by decide +kernel
theorem dX10_init_195 : decode cX10_init 195 = .ok (.dup, 1) := by decide +kernel
theorem dX10_init_196 : decode cX10_init 196 = .ok (.invokespecial 9, 3) := by decide +kernel
theorem dX10_init_199 : decode cX10_init 199 = .ok (.aastore, 1) := by decide +kernel
theorem dX10_init_200 : decode cX10_init 200 = .ok (.iinc 1 1, 3) := by decide +kernel
theorem dX10_init_203 : decode cX10_init 203 = .ok (.goto (-25), 3) := by decide +kernel
theorem dX10_init_206 : decode cX10_init 206 = .ok (.return_, 1) := by decide +kernel
theorem gX10_feed_X8_add : GoodIn wsX10_feed (wsV RX10 101 RX8 yX8_add wsX8_add) := gw_c t_w315 (gw_c t_w314 (gw_c t_w313 (gw_c t_w152 (gw_c t_w312 (gw_t)))))
theorem dX10_feed_0 : decode cX10_feed 0 = .ok (.aload_n 0, 1) := by decide +kernel
theorem dX10_feed_1 : decode cX10_feed 1 = .ok (.getfield 39, 3) := by decide +kernel
theorem dX10_feed_4 : decode cX10_feed 4 = .ok (.getfield 98, 3) := by decide +kernel
theorem dX10_feed_7 : decode cX10_feed 7 = .ok (.bipush 20, 2) := by decide +kernel
theorem dX10_feed_9 : decode cX10_feed 9 = .ok (.iadd, 1) := by decide +kernel
theorem dX10_feed_10 : decode cX10_feed 10 = .ok (.sipush 200, 3) := by decide +kernel
theorem dX10_feed_13 : decode cX10_feed 13 = .ok (.if_icmp .le 5, 3) := by decide +kernel
theorem dX10_feed_16 : decode cX10_feed 16 = .ok (.iconst (-1), 1) := by decide +kernel
theorem dX10_feed_17 : decode cX10_feed 17 = .ok (.ireturn, 1) := by decide +kernel
theorem dX10_feed_18 : decode cX10_feed 18 = .ok (.aload_n 0, 1) := by decide +kernel
theorem dX10_feed_19 : decode cX10_feed 19 = .ok (.getfield 39, 3) := by decide +kernel
theorem dX10_feed_22 : decode cX10_feed 22 = .ok (.iload_n 1, 1) := by decide +kernel
theorem dX10_feed_23 : decode cX10_feed 23 = .ok (.invokevirtual 101, 3) := by decide +kernel
theorem dX10_feed_26 : decode cX10_feed 26 = .ok (.aload_n 0, 1) := by decide +kernel
theorem dX10_feed_27 : decode cX10_feed 27 = .ok (.getfield 39, 3) := by decide +kernel
theorem dX10_feed_30 : decode cX10_feed 30 = .ok (.iload_n 2, 1) := by decide +kernel
theorem dX10_feed_31 : decode cX10_feed 31 = .ok (.invokevirtual 101, 3) := by decide +kernel
theorem dX10_feed_34 : decode cX10_feed 34 = .ok (.aload_n 0, 1) := by decide +kernel
theorem dX10_feed_35 : decode cX10_feed 35 = .ok (.getfield 39, 3) := by decide +kernel
theorem dX10_feed_38 : decode cX10_feed 38 = .ok (.iload_n 3, 1) := by decide +kernel
theorem dX10_feed_39 : decode cX10_feed 39 = .ok (.invokevirtual 101, 3) := by decide +kernel
theorem dX10_feed_42 : decode cX10_feed 42 = .ok (.aload_n 0, 1) := by decide +kernel
theorem dX10_feed_43 : decode cX10_feed 43 = .ok (.getfield 39, 3) := by decide +kernel
theorem dX10_feed_46 : decode cX10_feed 46 = .ok (.iload 4, 2) := by decide +kernel
theorem dX10_feed_48 : decode cX10_feed 48 = .ok (.invokevirtual 101, 3) := by decide +kernel
theorem dX10_feed_51 : decode cX10_feed 51 = .ok (.aload_n 0, 1) := by decide +kernel
theorem dX10_feed_52 : decode cX10_feed 52 = .ok (.getfield 39, 3) := by decide +kernel
theorem dX10_feed_55 : decode cX10_feed 55 = .ok (.iload 5, 2) := by decide +kernel
theorem dX10_feed_57 : decode cX10_feed 57 = .ok (.invokevirtual 101, 3) := by decide +kernel
theorem dX10_feed_60 : decode cX10_feed 60 = .ok (.aload_n 0, 1) := by decide +kernel
theorem dX10_feed_61 : decode cX10_feed 61 = .ok (.getfield 39, 3) := by decide +kernel
theorem dX10_feed_64 : decode cX10_feed 64 = .ok (.getfield 98, 3) := by decide +kernel
theorem dX10_feed_67 : decode cX10_feed 67 = .ok (.ireturn, 1) := by decide +kernel
theorem gX10_cut_X10_isFrom : GoodIn wsX10_cut (va_wsS RX10 105 yX10_isFrom wsX10_isFrom) := gw_c t_w319 (gw_c t_w318 (gw_c t_w317 (gw_c t_w316 (gw_t))))
theorem gX10_cut_X2_deepestSheetsIf : GoodIn wsX10_cut (wsV RX10 114 RX2 yX2_deepestSheetsIf wsX2_deepestSheetsIf) := gw_c t_w323 (gw_c t_w322 (gw_c t_w321 (gw_c t_w1 (gw_c t_w320 (gw_t)))))
theorem gX10_cut_X2_setCuts : GoodIn wsX10_cut (wsV RX10 122 RX2 yX2_setCuts wsX2_setCuts) := gw_c t_w327 (gw_c t_w326 (gw_c t_w325 (gw_c t_w1 (gw_c t_w324 (gw_t)))))
theorem dX10_cut_0 : decode cX10_cut 0 = .ok (.iload_n 1, 1) := by decide +kernel
theorem dX10_cut_1 : decode cX10_cut 1 = .ok (.iconst 1, 1) := by decide +kernel
theorem dX10_cut_2 : decode cX10_cut 2 = .ok (.if_icmp .lt 28, 3) := by decide +kernel
theorem dX10_cut_5 : decode cX10_cut 5 = .ok (.iload_n 1, 1) := by decide +kernel
theorem dX10_cut_6 : decode cX10_cut 6 = .ok (.iconst 4, 1) := by decide +kernel
theorem dX10_cut_7 : decode cX10_cut 7 = .ok (.if_icmp .gt 23, 3) := by decide +kernel
theorem dX10_cut_10 : decode cX10_cut 10 = .ok (.iload_n 2, 1) := by decide +kernel
theorem dX10_cut_11 : decode cX10_cut 11 = .ok (.iconst 1, 1) := by decide +kernel
theorem dX10_cut_12 : decode cX10_cut 12 = .ok (.bipush 6, 2) := by decide +kernel
theorem dX10_cut_14 : decode cX10_cut 14 = .ok (.invokestatic 105, 3) := by decide +kernel
theorem dX10_cut_17 : decode cX10_cut 17 = .ok (.ifCond .eq 13, 3) := by decide +kernel
theorem dX10_cut_20 : decode cX10_cut 20 = .ok (.iload_n 3, 1) := by decide +kernel
theorem dX10_cut_21 : decode cX10_cut 21 = .ok (.iconst 1, 1) := by decide +kernel
theorem dX10_cut_22 : decode cX10_cut 22 = .ok (.bipush 6, 2) := by decide +kernel
theorem dX10_cut_24 : decode cX10_cut 24 = .ok (.invokestatic 105, 3) := by decide +kernel
theorem dX10_cut_27 : decode cX10_cut 27 = .ok (.ifCond .ne 5, 3) := by decide +kernel
theorem dX10_cut_30 : decode cX10_cut 30 = .ok (.iconst (-1), 1) := by decide +kernel
theorem dX10_cut_31 : decode cX10_cut 31 = .ok (.ireturn, 1) := by decide +kernel
theorem dX10_cut_32 : decode cX10_cut 32 = .ok (.aload_n 0, 1) := by decide +kernel
theorem dX10_cut_33 : decode cX10_cut 33 = .ok (.getfield 25, 3) := by decide +kernel
theorem dX10_cut_36 : decode cX10_cut 36 = .ok (.getfield 109, 3) := by decide +kernel
theorem dX10_cut_39 : decode cX10_cut 39 = .ok (.ifCond .le 6, 3) := by decide +kernel
theorem dX10_cut_42 : decode cX10_cut 42 = .ok (.bipush (-2), 2) := by decide +kernel
theorem dX10_cut_44 : decode cX10_cut 44 = .ok (.ireturn, 1) := by decide +kernel
theorem dX10_cut_45 : decode cX10_cut 45 = .ok (.aload_n 0, 1) := by decide +kernel
theorem dX10_cut_46 : decode cX10_cut 46 = .ok (.getfield 20, 3) := by decide +kernel
theorem dX10_cut_49 : decode cX10_cut 49 = .ok (.iload_n 1, 1) := by decide +kernel
theorem dX10_cut_50 : decode cX10_cut 50 = .ok (.iload_n 2, 1) := by decide +kernel
theorem dX10_cut_51 : decode cX10_cut 51 = .ok (.iload_n 3, 1) := by decide +kernel
theorem dX10_cut_52 : decode cX10_cut 52 = .ok (.invokevirtual 114, 3) := by decide +kernel
theorem dX10_cut_55 : decode cX10_cut 55 = .ok (.ldc2_w 120, 3) := by decide +kernel
theorem dX10_cut_58 : decode cX10_cut 58 = .ok (.lcmp, 1) := by decide +kernel
theorem dX10_cut_59 : decode cX10_cut 59 = .ok (.ifCond .le 6, 3) := by decide +kernel
theorem dX10_cut_62 : decode cX10_cut 62 = .ok (.bipush (-3), 2) := by decide +kernel
theorem dX10_cut_64 : decode cX10_cut 64 = .ok (.ireturn, 1) := by decide +kernel
theorem dX10_cut_65 : decode cX10_cut 65 = .ok (.aload_n 0, 1) := by decide +kernel
theorem dX10_cut_66 : decode cX10_cut 66 = .ok (.getfield 20, 3) := by decide +kernel
theorem dX10_cut_69 : decode cX10_cut 69 = .ok (.iload_n 1, 1) := by decide +kernel
theorem dX10_cut_70 : decode cX10_cut 70 = .ok (.iload_n 2, 1) := by decide +kernel
theorem dX10_cut_71 : decode cX10_cut 71 = .ok (.iload_n 3, 1) := by decide +kernel
theorem dX10_cut_72 : decode cX10_cut 72 = .ok (.invokevirtual 122, 3) := by decide +kernel
theorem dX10_cut_75 : decode cX10_cut 75 = .ok (.aload_n 0, 1) := by decide +kernel
theorem dX10_cut_76 : decode cX10_cut 76 = .ok (.getfield 20, 3) := by decide +kernel
theorem dX10_cut_79 : decode cX10_cut 79 = .ok (.getfield 126, 3) := by decide +kernel
theorem dX10_cut_82 : decode cX10_cut 82 = .ok (.iload_n 1, 1) := by decide +kernel
theorem dX10_cut_83 : decode cX10_cut 83 = .ok (.iaload, 1) := by decide +kernel
theorem dX10_cut_84 : decode cX10_cut 84 = .ok (.ireturn, 1) := by decide +kernel
theorem gX10_level_X10_isLevel : GoodIn wsX10_level (va_wsS RX10 129 yX10_isLevel wsX10_isLevel) := gw_c t_w329 (gw_c t_w328 (gw_c t_w317 (gw_c t_w83 (gw_t))))
theorem dX10_level_0 : decode cX10_level 0 = .ok (.iload_n 1, 1) := by decide +kernel
theorem dX10_level_1 : decode cX10_level 1 = .ok (.invokestatic 129, 3) := by decide +kernel
theorem dX10_level_4 : decode cX10_level 4 = .ok (.ifCond .ne 5, 3) := by decide +kernel
theorem dX10_level_7 : decode cX10_level 7 = .ok (.iconst (-1), 1) := by decide +kernel
theorem dX10_level_8 : decode cX10_level 8 = .ok (.ireturn, 1) := by decide +kernel
theorem dX10_level_9 : decode cX10_level 9 = .ok (.iload_n 2, 1) := by decide +kernel
theorem dX10_level_10 : decode cX10_level 10 = .ok (.tableswitch 98 0 5 #[38, 48, 58, 68, 78, 88], 38) := by decide +kernel
theorem dX10_level_48 : decode cX10_level 48 = .ok (.aload_n 0, 1) := by decide +kernel
theorem dX10_level_49 : decode cX10_level 49 = .ok (.getfield 20, 3) := by decide +kernel
theorem dX10_level_52 : decode cX10_level 52 = .ok (.getfield 126, 3) := by decide +kernel
theorem dX10_level_55 : decode cX10_level 55 = .ok (.iload_n 1, 1) := by decide +kernel
theorem dX10_level_56 : decode cX10_level 56 = .ok (.iaload, 1) := by decide +kernel
theorem dX10_level_57 : decode cX10_level 57 = .ok (.ireturn, 1) := by decide +kernel
theorem dX10_level_58 : decode cX10_level 58 = .ok (.aload_n 0, 1) := by decide +kernel
theorem dX10_level_59 : decode cX10_level 59 = .ok (.getfield 20, 3) := by decide +kernel
theorem dX10_level_62 : decode cX10_level 62 = .ok (.getfield 133, 3) := by decide +kernel
theorem dX10_level_65 : decode cX10_level 65 = .ok (.iload_n 1, 1) := by decide +kernel
theorem dX10_level_66 : decode cX10_level 66 = .ok (.iaload, 1) := by decide +kernel
theorem dX10_level_67 : decode cX10_level 67 = .ok (.ireturn, 1) := by decide +kernel
theorem dX10_level_68 : decode cX10_level 68 = .ok (.aload_n 0, 1) := by decide +kernel
theorem dX10_level_69 : decode cX10_level 69 = .ok (.getfield 20, 3) := by decide +kernel
theorem dX10_level_72 : decode cX10_level 72 = .ok (.getfield 136, 3) := by decide +kernel
theorem dX10_level_75 : decode cX10_level 75 = .ok (.iload_n 1, 1) := by decide +kernel
theorem dX10_level_76 : decode cX10_level 76 = .ok (.iaload, 1) := by decide +kernel
theorem dX10_level_77 : decode cX10_level 77 = .ok (.ireturn, 1) := by decide +kernel
theorem dX10_level_78 : decode cX10_level 78 = .ok (.aload_n 0, 1) := by decide +kernel
theorem dX10_level_79 : decode cX10_level 79 = .ok (.getfield 20, 3) := by decide +kernel
theorem dX10_level_82 : decode cX10_level 82 = .ok (.getfield 139, 3) := by decide +kernel
theorem dX10_level_85 : decode cX10_level 85 = .ok (.iload_n 1, 1) := by decide +kernel
theorem dX10_level_86 : decode cX10_level 86 = .ok (.iaload, 1) := by decide +kernel
theorem dX10_level_87 : decode cX10_level 87 = .ok (.ireturn, 1) := by decide +kernel
theorem dX10_level_88 : decode cX10_level 88 = .ok (.aload_n 0, 1) := by decide +kernel
theorem dX10_level_89 : decode cX10_level 89 = .ok (.getfield 20, 3) := by decide +kernel
theorem dX10_level_92 : decode cX10_level 92 = .ok (.getfield 142, 3) := by decide +kernel
theorem dX10_level_95 : decode cX10_level 95 = .ok (.iload_n 1, 1) := by decide +kernel
theorem dX10_level_96 : decode cX10_level 96 = .ok (.iaload, 1) := by decide +kernel
theorem dX10_level_97 : decode cX10_level 97 = .ok (.ireturn, 1) := by decide +kernel
theorem dX10_level_98 : decode cX10_level 98 = .ok (.aload_n 0, 1) := by decide +kernel
theorem dX10_level_99 : decode cX10_level 99 = .ok (.getfield 20, 3) := by decide +kernel
theorem dX10_level_102 : decode cX10_level 102 = .ok (.getfield 145, 3) := by decide +kernel
theorem dX10_level_105 : decode cX10_level 105 = .ok (.iload_n 1, 1) := by decide +kernel
theorem dX10_level_106 : decode cX10_level 106 = .ok (.iaload, 1) := by decide +kernel
theorem dX10_level_107 : decode cX10_level 107 = .ok (.ireturn, 1) := by decide +kernel
theorem dX10_level_108 : decode cX10_level 108 = .ok (.iconst (-1), 1) := by decide +kernel
theorem dX10_level_109 : decode cX10_level 109 = .ok (.ireturn, 1) := by decide +kernel
theorem gX10_key_X10_isPlace : GoodIn wsX10_key (va_wsS RX10 148 yX10_isPlace wsX10_isPlace) := gw_c t_w332 (gw_c t_w331 (gw_c t_w317 (gw_c t_w330 (gw_t))))
theorem gX10_key_X10_isLevel : GoodIn wsX10_key (va_wsS RX10 129 yX10_isLevel wsX10_isLevel) := gw_c t_w329 (gw_c t_w328 (gw_c t_w317 (gw_c t_w83 (gw_t))))
theorem gX10_key_X2_keyOf : GoodIn wsX10_key (wsV RX10 152 RX2 yX2_keyOf wsX2_keyOf) := gw_c t_w333 (gw_c t_w261 (gw_c t_w260 (gw_c t_w1 (gw_c t_w259 (gw_t)))))
theorem dX10_key_0 : decode cX10_key 0 = .ok (.iload_n 1, 1) := by decide +kernel
theorem dX10_key_1 : decode cX10_key 1 = .ok (.iload_n 2, 1) := by decide +kernel
theorem dX10_key_2 : decode cX10_key 2 = .ok (.invokestatic 148, 3) := by decide +kernel
theorem dX10_key_5 : decode cX10_key 5 = .ok (.ifCond .eq 10, 3) := by decide +kernel
theorem dX10_key_8 : decode cX10_key 8 = .ok (.iload_n 3, 1) := by decide +kernel
theorem dX10_key_9 : decode cX10_key 9 = .ok (.invokestatic 129, 3) := by decide +kernel
theorem dX10_key_12 : decode cX10_key 12 = .ok (.ifCond .ne 5, 3) := by decide +kernel
theorem dX10_key_15 : decode cX10_key 15 = .ok (.iconst (-1), 1) := by decide +kernel
theorem dX10_key_16 : decode cX10_key 16 = .ok (.ireturn, 1) := by decide +kernel
theorem dX10_key_17 : decode cX10_key 17 = .ok (.aload_n 0, 1) := by decide +kernel
theorem dX10_key_18 : decode cX10_key 18 = .ok (.getfield 20, 3) := by decide +kernel
theorem dX10_key_21 : decode cX10_key 21 = .ok (.iload_n 3, 1) := by decide +kernel
theorem dX10_key_22 : decode cX10_key 22 = .ok (.iload_n 1, 1) := by decide +kernel
theorem dX10_key_23 : decode cX10_key 23 = .ok (.iload_n 2, 1) := by decide +kernel
theorem dX10_key_24 : decode cX10_key 24 = .ok (.invokevirtual 152, 3) := by decide +kernel
theorem dX10_key_27 : decode cX10_key 27 = .ok (.ireturn, 1) := by decide +kernel
theorem gX10_name_X2_hasSheet : GoodIn wsX10_name (wsV RX10 156 RX2 yX2_hasSheet wsX2_hasSheet) := gw_c t_w337 (gw_c t_w336 (gw_c t_w335 (gw_c t_w1 (gw_c t_w334 (gw_t)))))
theorem gX10_name_X6_put : GoodIn wsX10_name (wsV RX10 159 RX6 yX6_put wsX6_put) := gw_c t_w338 (gw_c t_w283 (gw_c t_w282 (gw_c t_w135 (gw_c t_w281 (gw_t)))))
theorem gX10_name_X4_write : GoodIn wsX10_name (wsV RX10 163 RX4 yX4_write wsX4_write) := gw_c t_w342 (gw_c t_w341 (gw_c t_w340 (gw_c t_w130 (gw_c t_w339 (gw_t)))))
theorem dX10_name_0 : decode cX10_name 0 = .ok (.aload_n 0, 1) := by decide +kernel
theorem dX10_name_1 : decode cX10_name 1 = .ok (.getfield 20, 3) := by decide +kernel
theorem dX10_name_4 : decode cX10_name 4 = .ok (.iload_n 1, 1) := by decide +kernel
theorem dX10_name_5 : decode cX10_name 5 = .ok (.iload_n 2, 1) := by decide +kernel
theorem dX10_name_6 : decode cX10_name 6 = .ok (.invokevirtual 156, 3) := by decide +kernel
theorem dX10_name_9 : decode cX10_name 9 = .ok (.ifCond .eq 8, 3) := by decide +kernel
theorem dX10_name_12 : decode cX10_name 12 = .ok (.iload_n 3, 1) := by decide +kernel
theorem dX10_name_13 : decode cX10_name 13 = .ok (.iconst (-1), 1) := by decide +kernel
theorem dX10_name_14 : decode cX10_name 14 = .ok (.if_icmp .ge 5, 3) := by decide +kernel
theorem dX10_name_17 : decode cX10_name 17 = .ok (.iconst (-1), 1) := by decide +kernel
theorem dX10_name_18 : decode cX10_name 18 = .ok (.ireturn, 1) := by decide +kernel
theorem dX10_name_19 : decode cX10_name 19 = .ok (.aload_n 0, 1) := by decide +kernel
theorem dX10_name_20 : decode cX10_name 20 = .ok (.getfield 66, 3) := by decide +kernel
theorem dX10_name_23 : decode cX10_name 23 = .ok (.iload_n 1, 1) := by decide +kernel
theorem dX10_name_24 : decode cX10_name 24 = .ok (.iload_n 2, 1) := by decide +kernel
theorem dX10_name_25 : decode cX10_name 25 = .ok (.invokevirtual 159, 3) := by decide +kernel
theorem dX10_name_28 : decode cX10_name 28 = .ok (.aload_n 0, 1) := by decide +kernel
theorem dX10_name_29 : decode cX10_name 29 = .ok (.getfield 87, 3) := by decide +kernel
theorem dX10_name_32 : decode cX10_name 32 = .ok (.aload_n 0, 1) := by decide +kernel
theorem dX10_name_33 : decode cX10_name 33 = .ok (.getfield 66, 3) := by decide +kernel
theorem dX10_name_36 : decode cX10_name 36 = .ok (.invokevirtual 163, 3) := by decide +kernel
theorem dX10_name_39 : decode cX10_name 39 = .ok (.iload_n 3, 1) := by decide +kernel
theorem dX10_name_40 : decode cX10_name 40 = .ok (.iconst (-1), 1) := by decide +kernel
theorem dX10_name_41 : decode cX10_name 41 = .ok (.if_icmp .ne 11, 3) := by decide +kernel
theorem dX10_name_44 : decode cX10_name 44 = .ok (.aload_n 0, 1) := by decide +kernel
theorem dX10_name_45 : decode cX10_name 45 = .ok (.getfield 87, 3) := by decide +kernel
theorem dX10_name_48 : decode cX10_name 48 = .ok (.getfield 167, 3) := by decide +kernel
theorem dX10_name_51 : decode cX10_name 51 = .ok (.ireturn, 1) := by decide +kernel
theorem dX10_name_52 : decode cX10_name 52 = .ok (.iload_n 3, 1) := by decide +kernel
theorem dX10_name_53 : decode cX10_name 53 = .ok (.aload_n 0, 1) := by decide +kernel
theorem dX10_name_54 : decode cX10_name 54 = .ok (.getfield 87, 3) := by decide +kernel
theorem dX10_name_57 : decode cX10_name 57 = .ok (.getfield 167, 3) := by decide +kernel
theorem dX10_name_60 : decode cX10_name 60 = .ok (.if_icmp .ge 15, 3) := by decide +kernel
theorem dX10_name_63 : decode cX10_name 63 = .ok (.aload_n 0, 1) := by decide +kernel
theorem dX10_name_64 : decode cX10_name 64 = .ok (.getfield 87, 3) := by decide +kernel
theorem dX10_name_67 : decode cX10_name 67 = .ok (.getfield 168, 3) := by decide +kernel
theorem dX10_name_70 : decode cX10_name 70 = .ok (.iload_n 3, 1) := by decide +kernel
theorem dX10_name_71 : decode cX10_name 71 = .ok (.iaload, 1) := by decide +kernel
theorem dX10_name_72 : decode cX10_name 72 = .ok (.goto 5, 3) := by decide +kernel
theorem dX10_name_75 : decode cX10_name 75 = .ok (.bipush (-2), 2) := by decide +kernel
theorem dX10_name_77 : decode cX10_name 77 = .ok (.ireturn, 1) := by decide +kernel
theorem gX10_named_X10_isFrom : GoodIn wsX10_named (va_wsS RX10 105 yX10_isFrom wsX10_isFrom) := gw_c t_w319 (gw_c t_w318 (gw_c t_w317 (gw_c t_w316 (gw_t))))
theorem gX10_named_X3_read : GoodIn wsX10_named (wsV RX10 171 RX3 yX3_read wsX3_read) := gw_c t_w343 (gw_c t_w168 (gw_c t_w167 (gw_c t_w101 (gw_c t_w166 (gw_t)))))
theorem gX10_named_X0_countText : GoodIn wsX10_named (wsV RX10 174 RX0 yX0_countText wsX0_countText) := gw_c t_w348 (gw_c t_w347 (gw_c t_w346 (gw_c t_w345 (gw_c t_w344 (gw_t)))))
theorem gX10_named_X3_told : GoodIn wsX10_named (wsV RX10 178 RX3 yX3_told wsX3_told) := gw_c t_w352 (gw_c t_w351 (gw_c t_w350 (gw_c t_w101 (gw_c t_w349 (gw_t)))))
theorem dX10_named_0 : decode cX10_named 0 = .ok (.iload_n 1, 1) := by decide +kernel
theorem dX10_named_1 : decode cX10_named 1 = .ok (.iconst 1, 1) := by decide +kernel
theorem dX10_named_2 : decode cX10_named 2 = .ok (.bipush 40, 2) := by decide +kernel
theorem dX10_named_4 : decode cX10_named 4 = .ok (.invokestatic 105, 3) := by decide +kernel
theorem dX10_named_7 : decode cX10_named 7 = .ok (.ifCond .eq 23, 3) := by decide +kernel
theorem dX10_named_10 : decode cX10_named 10 = .ok (.iload_n 2, 1) := by decide +kernel
theorem dX10_named_11 : decode cX10_named 11 = .ok (.iconst 0, 1) := by decide +kernel
theorem dX10_named_12 : decode cX10_named 12 = .ok (.iconst 1, 1) := by decide +kernel
theorem dX10_named_13 : decode cX10_named 13 = .ok (.invokestatic 105, 3) := by decide +kernel
theorem dX10_named_16 : decode cX10_named 16 = .ok (.ifCond .eq 14, 3) := by decide +kernel
theorem dX10_named_19 : decode cX10_named 19 = .ok (.aload_n 0, 1) := by decide +kernel
theorem dX10_named_20 : decode cX10_named 20 = .ok (.getfield 39, 3) := by decide +kernel
theorem dX10_named_23 : decode cX10_named 23 = .ok (.getfield 98, 3) := by decide +kernel
theorem dX10_named_26 : decode cX10_named 26 = .ok (.iload_n 1, 1) := by decide +kernel
theorem dX10_named_27 : decode cX10_named 27 = .ok (.if_icmp .ge 5, 3) := by decide +kernel
theorem dX10_named_30 : decode cX10_named 30 = .ok (.iconst (-1), 1) := by decide +kernel
theorem dX10_named_31 : decode cX10_named 31 = .ok (.ireturn, 1) := by decide +kernel
theorem dX10_named_32 : decode cX10_named 32 = .ok (.aload_n 0, 1) := by decide +kernel
theorem dX10_named_33 : decode cX10_named 33 = .ok (.getfield 48, 3) := by decide +kernel
theorem dX10_named_36 : decode cX10_named 36 = .ok (.iconst 0, 1) := by decide +kernel
theorem dX10_named_37 : decode cX10_named 37 = .ok (.iload_n 1, 1) := by decide +kernel
theorem dX10_named_38 : decode cX10_named 38 = .ok (.invokevirtual 171, 3) := by decide +kernel
theorem dX10_named_41 : decode cX10_named 41 = .ok (.istore_n 3, 1) := by decide +kernel
theorem dX10_named_42 : decode cX10_named 42 = .ok (.aload_n 0, 1) := by decide +kernel
theorem dX10_named_43 : decode cX10_named 43 = .ok (.getfield 39, 3) := by decide +kernel
theorem dX10_named_46 : decode cX10_named 46 = .ok (.iconst 0, 1) := by decide +kernel
theorem dX10_named_47 : decode cX10_named 47 = .ok (.putfield 98, 3) := by decide +kernel
theorem dX10_named_50 : decode cX10_named 50 = .ok (.aload_n 0, 1) := by decide +kernel
theorem dX10_named_51 : decode cX10_named 51 = .ok (.getfield 10, 3) := by decide +kernel
theorem dX10_named_54 : decode cX10_named 54 = .ok (.aload_n 0, 1) := by decide +kernel
theorem dX10_named_55 : decode cX10_named 55 = .ok (.getfield 48, 3) := by decide +kernel
theorem dX10_named_58 : decode cX10_named 58 = .ok (.iload_n 3, 1) := by decide +kernel
theorem dX10_named_59 : decode cX10_named 59 = .ok (.invokevirtual 174, 3) := by decide +kernel
theorem dX10_named_62 : decode cX10_named 62 = .ok (.iload_n 3, 1) := by decide +kernel
theorem dX10_named_63 : decode cX10_named 63 = .ok (.ifCond .ne 11, 3) := by decide +kernel
theorem dX10_named_66 : decode cX10_named 66 = .ok (.aload_n 0, 1) := by decide +kernel
theorem dX10_named_67 : decode cX10_named 67 = .ok (.getfield 48, 3) := by decide +kernel
theorem dX10_named_70 : decode cX10_named 70 = .ok (.invokevirtual 178, 3) := by decide +kernel
theorem dX10_named_73 : decode cX10_named 73 = .ok (.ireturn, 1) := by decide +kernel
theorem dX10_named_74 : decode cX10_named 74 = .ok (.iload_n 2, 1) := by decide +kernel
theorem dX10_named_75 : decode cX10_named 75 = .ok (.ifCond .ne 13, 3) := by decide +kernel
theorem dX10_named_78 : decode cX10_named 78 = .ok (.aload_n 0, 1) := by decide +kernel
theorem dX10_named_79 : decode cX10_named 79 = .ok (.getfield 48, 3) := by decide +kernel
theorem dX10_named_82 : decode cX10_named 82 = .ok (.getfield 182, 3) := by decide +kernel
theorem dX10_named_85 : decode cX10_named 85 = .ok (.goto 10, 3) := by decide +kernel
theorem dX10_named_88 : decode cX10_named 88 = .ok (.aload_n 0, 1) := by decide +kernel
theorem dX10_named_89 : decode cX10_named 89 = .ok (.getfield 48, 3) := by decide +kernel
theorem dX10_named_92 : decode cX10_named 92 = .ok (.getfield 185, 3) := by decide +kernel
theorem dX10_named_95 : decode cX10_named 95 = .ok (.ireturn, 1) := by decide +kernel
theorem gX10_edge_X2_hasSheet : GoodIn wsX10_edge (wsV RX10 156 RX2 yX2_hasSheet wsX2_hasSheet) := gw_c t_w337 (gw_c t_w336 (gw_c t_w335 (gw_c t_w1 (gw_c t_w334 (gw_t)))))
theorem gX10_edge_X10_isFrom : GoodIn wsX10_edge (va_wsS RX10 105 yX10_isFrom wsX10_isFrom) := gw_c t_w319 (gw_c t_w318 (gw_c t_w317 (gw_c t_w316 (gw_t))))
theorem gX10_edge_X6_put : GoodIn wsX10_edge (wsV RX10 159 RX6 yX6_put wsX6_put) := gw_c t_w338 (gw_c t_w283 (gw_c t_w282 (gw_c t_w135 (gw_c t_w281 (gw_t)))))
theorem gX10_edge_X6_edgeTop : GoodIn wsX10_edge (wsV RX10 190 RX6 yX6_edgeTop wsX6_edgeTop) := gw_c t_w353 (gw_c t_w224 (gw_c t_w223 (gw_c t_w135 (gw_c t_w222 (gw_t)))))
theorem gX10_edge_X6_edgeBottom : GoodIn wsX10_edge (wsV RX10 194 RX6 yX6_edgeBottom wsX6_edgeBottom) := gw_c t_w354 (gw_c t_w228 (gw_c t_w227 (gw_c t_w135 (gw_c t_w226 (gw_t)))))
theorem gX10_edge_X10_commonDivisor : GoodIn wsX10_edge (va_wsS RX10 203 yX10_commonDivisor wsX10_commonDivisor) := gw_c t_w357 (gw_c t_w356 (gw_c t_w317 (gw_c t_w355 (gw_t))))
theorem dX10_edge_0 : decode cX10_edge 0 = .ok (.aload_n 0, 1) := by decide +kernel
theorem dX10_edge_1 : decode cX10_edge 1 = .ok (.getfield 20, 3) := by decide +kernel
theorem dX10_edge_4 : decode cX10_edge 4 = .ok (.iload_n 1, 1) := by decide +kernel
theorem dX10_edge_5 : decode cX10_edge 5 = .ok (.iload_n 2, 1) := by decide +kernel
theorem dX10_edge_6 : decode cX10_edge 6 = .ok (.invokevirtual 156, 3) := by decide +kernel
theorem dX10_edge_9 : decode cX10_edge 9 = .ok (.ifCond .eq 13, 3) := by decide +kernel
theorem dX10_edge_12 : decode cX10_edge 12 = .ok (.iload_n 3, 1) := by decide +kernel
theorem dX10_edge_13 : decode cX10_edge 13 = .ok (.iconst 0, 1) := by decide +kernel
theorem dX10_edge_14 : decode cX10_edge 14 = .ok (.bipush 7, 2) := by decide +kernel
theorem dX10_edge_16 : decode cX10_edge 16 = .ok (.invokestatic 105, 3) := by decide +kernel
theorem dX10_edge_19 : decode cX10_edge 19 = .ok (.ifCond .ne 7, 3) := by decide +kernel
theorem dX10_edge_22 : decode cX10_edge 22 = .ok (.ldc2_w 188, 3) := by decide +kernel
theorem dX10_edge_25 : decode cX10_edge 25 = .ok (.lreturn, 1) := by decide +kernel
theorem dX10_edge_26 : decode cX10_edge 26 = .ok (.aload_n 0, 1) := by decide +kernel
theorem dX10_edge_27 : decode cX10_edge 27 = .ok (.getfield 66, 3) := by decide +kernel
theorem dX10_edge_30 : decode cX10_edge 30 = .ok (.iload_n 1, 1) := by decide +kernel
theorem dX10_edge_31 : decode cX10_edge 31 = .ok (.iload_n 2, 1) := by decide +kernel
theorem dX10_edge_32 : decode cX10_edge 32 = .ok (.invokevirtual 159, 3) := by decide +kernel
theorem dX10_edge_35 : decode cX10_edge 35 = .ok (.aload_n 0, 1) := by decide +kernel
theorem dX10_edge_36 : decode cX10_edge 36 = .ok (.getfield 66, 3) := by decide +kernel
theorem dX10_edge_39 : decode cX10_edge 39 = .ok (.iload_n 3, 1) := by decide +kernel
theorem dX10_edge_40 : decode cX10_edge 40 = .ok (.iconst 2, 1) := by decide +kernel
theorem dX10_edge_41 : decode cX10_edge 41 = .ok (.idiv, 1) := by decide +kernel
theorem dX10_edge_42 : decode cX10_edge 42 = .ok (.invokevirtual 190, 3) := by decide +kernel
theorem dX10_edge_45 : decode cX10_edge 45 = .ok (.lstore 4, 2) := by decide +kernel
theorem dX10_edge_47 : decode cX10_edge 47 = .ok (.aload_n 0, 1) := by decide +kernel
theorem dX10_edge_48 : decode cX10_edge 48 = .ok (.getfield 66, 3) := by decide +kernel
theorem dX10_edge_51 : decode cX10_edge 51 = .ok (.iload_n 3, 1) := by decide +kernel
theorem dX10_edge_52 : decode cX10_edge 52 = .ok (.iconst 2, 1) := by decide +kernel
theorem dX10_edge_53 : decode cX10_edge 53 = .ok (.idiv, 1) := by decide +kernel
theorem dX10_edge_54 : decode cX10_edge 54 = .ok (.invokevirtual 194, 3) := by decide +kernel
theorem dX10_edge_57 : decode cX10_edge 57 = .ok (.lstore 6, 2) := by decide +kernel
theorem dX10_edge_59 : decode cX10_edge 59 = .ok (.lload 4, 2) := by decide +kernel
theorem dX10_edge_61 : decode cX10_edge 61 = .ok (.invokestatic 197, 3) := by decide +kernel
theorem dX10_edge_64 : decode cX10_edge 64 = .ok (.lload 6, 2) := by decide +kernel
theorem dX10_edge_66 : decode cX10_edge 66 = .ok (.invokestatic 203, 3) := by decide +kernel
theorem dX10_edge_69 : decode cX10_edge 69 = .ok (.lstore 8, 2) := by decide +kernel
theorem dX10_edge_71 : decode cX10_edge 71 = .ok (.lload 8, 2) := by decide +kernel
theorem dX10_edge_73 : decode cX10_edge 73 = .ok (.lconst 1, 1) := by decide +kernel
theorem dX10_edge_74 : decode cX10_edge 74 = .ok (.lcmp, 1) := by decide +kernel
theorem dX10_edge_75 : decode cX10_edge 75 = .ok (.ifCond .ge 7, 3) := by decide +kernel
theorem dX10_edge_78 : decode cX10_edge 78 = .ok (.ldc2_w 188, 3) := by decide +kernel
theorem dX10_edge_81 : decode cX10_edge 81 = .ok (.lreturn, 1) := by decide +kernel
theorem dX10_edge_82 : decode cX10_edge 82 = .ok (.iload_n 3, 1) := by decide +kernel
theorem dX10_edge_83 : decode cX10_edge 83 = .ok (.iconst 2, 1) := by decide +kernel
theorem dX10_edge_84 : decode cX10_edge 84 = .ok (.irem, 1) := by decide +kernel
theorem dX10_edge_85 : decode cX10_edge 85 = .ok (.ifCond .ne 11, 3) := by decide +kernel
theorem dX10_edge_88 : decode cX10_edge 88 = .ok (.lload 4, 2) := by decide +kernel
theorem dX10_edge_90 : decode cX10_edge 90 = .ok (.lload 8, 2) := by decide +kernel
theorem dX10_edge_92 : decode cX10_edge 92 = .ok (.ldiv, 1) := by decide +kernel
theorem dX10_edge_93 : decode cX10_edge 93 = .ok (.goto 8, 3) := by decide +kernel
theorem dX10_edge_96 : decode cX10_edge 96 = .ok (.lload 6, 2) := by decide +kernel
theorem dX10_edge_98 : decode cX10_edge 98 = .ok (.lload 8, 2) := by decide +kernel
theorem dX10_edge_100 : decode cX10_edge 100 = .ok (.ldiv, 1) := by decide +kernel
theorem dX10_edge_101 : decode cX10_edge 101 = .ok (.lreturn, 1) := by decide +kernel
theorem gX10_middle_X2_hasSheet : GoodIn wsX10_middle (wsV RX10 156 RX2 yX2_hasSheet wsX2_hasSheet) := gw_c t_w337 (gw_c t_w336 (gw_c t_w335 (gw_c t_w1 (gw_c t_w334 (gw_t)))))
theorem gX10_middle_X10_isFrom : GoodIn wsX10_middle (va_wsS RX10 105 yX10_isFrom wsX10_isFrom) := gw_c t_w319 (gw_c t_w318 (gw_c t_w317 (gw_c t_w316 (gw_t))))
theorem gX10_middle_X6_put : GoodIn wsX10_middle (wsV RX10 159 RX6 yX6_put wsX6_put) := gw_c t_w338 (gw_c t_w283 (gw_c t_w282 (gw_c t_w135 (gw_c t_w281 (gw_t)))))
theorem gX10_middle_X6_middleLat : GoodIn wsX10_middle (wsV RX10 208 RX6 yX6_middleLat wsX6_middleLat) := gw_c t_w361 (gw_c t_w360 (gw_c t_w359 (gw_c t_w135 (gw_c t_w358 (gw_t)))))
theorem gX10_middle_X6_middleLon : GoodIn wsX10_middle (wsV RX10 211 RX6 yX6_middleLon wsX6_middleLon) := gw_c t_w365 (gw_c t_w364 (gw_c t_w363 (gw_c t_w135 (gw_c t_w362 (gw_t)))))
theorem dX10_middle_0 : decode cX10_middle 0 = .ok (.aload_n 0, 1) := by decide +kernel
theorem dX10_middle_1 : decode cX10_middle 1 = .ok (.getfield 20, 3) := by decide +kernel
theorem dX10_middle_4 : decode cX10_middle 4 = .ok (.iload_n 1, 1) := by decide +kernel
theorem dX10_middle_5 : decode cX10_middle 5 = .ok (.iload_n 2, 1) := by decide +kernel
theorem dX10_middle_6 : decode cX10_middle 6 = .ok (.invokevirtual 156, 3) := by decide +kernel
theorem dX10_middle_9 : decode cX10_middle 9 = .ok (.ifCond .eq 12, 3) := by decide +kernel
theorem dX10_middle_12 : decode cX10_middle 12 = .ok (.iload_n 3, 1) := by decide +kernel
theorem dX10_middle_13 : decode cX10_middle 13 = .ok (.iconst 0, 1) := by decide +kernel
theorem dX10_middle_14 : decode cX10_middle 14 = .ok (.iconst 1, 1) := by decide +kernel
theorem dX10_middle_15 : decode cX10_middle 15 = .ok (.invokestatic 105, 3) := by decide +kernel
theorem dX10_middle_18 : decode cX10_middle 18 = .ok (.ifCond .ne 6, 3) := by decide +kernel
theorem dX10_middle_21 : decode cX10_middle 21 = .ok (.ldc 207, 2) := by decide +kernel
theorem dX10_middle_23 : decode cX10_middle 23 = .ok (.ireturn, 1) := by decide +kernel
theorem dX10_middle_24 : decode cX10_middle 24 = .ok (.aload_n 0, 1) := by decide +kernel
theorem dX10_middle_25 : decode cX10_middle 25 = .ok (.getfield 66, 3) := by decide +kernel
theorem dX10_middle_28 : decode cX10_middle 28 = .ok (.iload_n 1, 1) := by decide +kernel
theorem dX10_middle_29 : decode cX10_middle 29 = .ok (.iload_n 2, 1) := by decide +kernel
theorem dX10_middle_30 : decode cX10_middle 30 = .ok (.invokevirtual 159, 3) := by decide +kernel
theorem dX10_middle_33 : decode cX10_middle 33 = .ok (.iload_n 3, 1) := by decide +kernel
theorem dX10_middle_34 : decode cX10_middle 34 = .ok (.ifCond .ne 13, 3) := by decide +kernel
theorem dX10_middle_37 : decode cX10_middle 37 = .ok (.aload_n 0, 1) := by decide +kernel
theorem dX10_middle_38 : decode cX10_middle 38 = .ok (.getfield 66, 3) := by decide +kernel
theorem dX10_middle_41 : decode cX10_middle 41 = .ok (.invokevirtual 208, 3) := by decide +kernel
theorem dX10_middle_44 : decode cX10_middle 44 = .ok (.goto 10, 3) := by decide +kernel
theorem dX10_middle_47 : decode cX10_middle 47 = .ok (.aload_n 0, 1) := by decide +kernel
theorem dX10_middle_48 : decode cX10_middle 48 = .ok (.getfield 66, 3) := by decide +kernel
theorem dX10_middle_51 : decode cX10_middle 51 = .ok (.invokevirtual 211, 3) := by decide +kernel
theorem dX10_middle_54 : decode cX10_middle 54 = .ok (.ireturn, 1) := by decide +kernel
theorem gX10_at_X2_hasSheet : GoodIn wsX10_at (wsV RX10 156 RX2 yX2_hasSheet wsX2_hasSheet) := gw_c t_w337 (gw_c t_w336 (gw_c t_w335 (gw_c t_w1 (gw_c t_w334 (gw_t)))))
theorem gX10_at_X6_put : GoodIn wsX10_at (wsV RX10 159 RX6 yX6_put wsX6_put) := gw_c t_w338 (gw_c t_w283 (gw_c t_w282 (gw_c t_w135 (gw_c t_w281 (gw_t)))))
theorem gX10_at_X6_band : GoodIn wsX10_at (wsV RX10 221 RX6 yX6_band wsX6_band) := gw_c t_w366 (gw_c t_w137 (gw_c t_w136 (gw_c t_w135 (gw_c t_w134 (gw_t)))))
theorem gX10_at_X6_zone : GoodIn wsX10_at (wsV RX10 224 RX6 yX6_zone wsX6_zone) := gw_c t_w367 (gw_c t_w218 (gw_c t_w217 (gw_c t_w135 (gw_c t_w216 (gw_t)))))
theorem gX10_at_X6_numberOf : GoodIn wsX10_at (wsV RX10 227 RX6 yX6_numberOf wsX6_numberOf) := gw_c t_w368 (gw_c t_w141 (gw_c t_w140 (gw_c t_w135 (gw_c t_w139 (gw_t)))))
theorem dX10_at_0 : decode cX10_at 0 = .ok (.aload_n 0, 1) := by decide +kernel
theorem dX10_at_1 : decode cX10_at 1 = .ok (.getfield 20, 3) := by decide +kernel
theorem dX10_at_4 : decode cX10_at 4 = .ok (.iload_n 1, 1) := by decide +kernel
theorem dX10_at_5 : decode cX10_at 5 = .ok (.iload_n 2, 1) := by decide +kernel
theorem dX10_at_6 : decode cX10_at 6 = .ok (.invokevirtual 156, 3) := by decide +kernel
theorem dX10_at_9 : decode cX10_at 9 = .ok (.ifCond .ne 6, 3) := by decide +kernel
theorem dX10_at_12 : decode cX10_at 12 = .ok (.ldc 207, 2) := by decide +kernel
theorem dX10_at_14 : decode cX10_at 14 = .ok (.ireturn, 1) := by decide +kernel
theorem dX10_at_15 : decode cX10_at 15 = .ok (.aload_n 0, 1) := by decide +kernel
theorem dX10_at_16 : decode cX10_at 16 = .ok (.getfield 66, 3) := by decide +kernel
theorem dX10_at_19 : decode cX10_at 19 = .ok (.iload_n 1, 1) := by decide +kernel
theorem dX10_at_20 : decode cX10_at 20 = .ok (.iload_n 2, 1) := by decide +kernel
theorem dX10_at_21 : decode cX10_at 21 = .ok (.invokevirtual 159, 3) := by decide +kernel
theorem dX10_at_24 : decode cX10_at 24 = .ok (.iload_n 3, 1) := by decide +kernel
theorem dX10_at_25 : decode cX10_at 25 = .ok (.tableswitch 88 0 5 #[39, 47, 55, 63, 71, 79], 39) := by decide +kernel
theorem dX10_at_64 : decode cX10_at 64 = .ok (.aload_n 0, 1) := by decide +kernel
theorem dX10_at_65 : decode cX10_at 65 = .ok (.getfield 66, 3) := by decide +kernel
theorem dX10_at_68 : decode cX10_at 68 = .ok (.getfield 214, 3) := by decide +kernel
theorem dX10_at_71 : decode cX10_at 71 = .ok (.ireturn, 1) := by decide +kernel
theorem dX10_at_72 : decode cX10_at 72 = .ok (.aload_n 0, 1) := by decide +kernel
theorem dX10_at_73 : decode cX10_at 73 = .ok (.getfield 66, 3) := by decide +kernel
theorem dX10_at_76 : decode cX10_at 76 = .ok (.getfield 217, 3) := by decide +kernel
theorem dX10_at_79 : decode cX10_at 79 = .ok (.ireturn, 1) := by decide +kernel
theorem dX10_at_80 : decode cX10_at 80 = .ok (.aload_n 0, 1) := by decide +kernel
theorem dX10_at_81 : decode cX10_at 81 = .ok (.getfield 66, 3) := by decide +kernel
theorem dX10_at_84 : decode cX10_at 84 = .ok (.getfield 220, 3) := by decide +kernel
theorem dX10_at_87 : decode cX10_at 87 = .ok (.ireturn, 1) := by decide +kernel
theorem dX10_at_88 : decode cX10_at 88 = .ok (.aload_n 0, 1) := by decide +kernel
theorem dX10_at_89 : decode cX10_at 89 = .ok (.getfield 66, 3) := by decide +kernel
theorem dX10_at_92 : decode cX10_at 92 = .ok (.invokevirtual 221, 3) := by decide +kernel
theorem dX10_at_95 : decode cX10_at 95 = .ok (.ireturn, 1) := by decide +kernel
theorem dX10_at_96 : decode cX10_at 96 = .ok (.aload_n 0, 1) := by decide +kernel
theorem dX10_at_97 : decode cX10_at 97 = .ok (.getfield 66, 3) := by decide +kernel
theorem dX10_at_100 : decode cX10_at 100 = .ok (.invokevirtual 224, 3) := by decide +kernel
theorem dX10_at_103 : decode cX10_at 103 = .ok (.ireturn, 1) := by decide +kernel
theorem dX10_at_104 : decode cX10_at 104 = .ok (.aload_n 0, 1) := by decide +kernel
theorem dX10_at_105 : decode cX10_at 105 = .ok (.getfield 66, 3) := by decide +kernel
theorem dX10_at_108 : decode cX10_at 108 = .ok (.iload_n 1, 1) := by decide +kernel
theorem dX10_at_109 : decode cX10_at 109 = .ok (.invokevirtual 227, 3) := by decide +kernel
theorem dX10_at_112 : decode cX10_at 112 = .ok (.ireturn, 1) := by decide +kernel
theorem dX10_at_113 : decode cX10_at 113 = .ok (.ldc 207, 2) := by decide +kernel
theorem dX10_at_115 : decode cX10_at 115 = .ok (.ireturn, 1) := by decide +kernel
theorem gX10_keyAt_X10_isLevel : GoodIn wsX10_keyAt (va_wsS RX10 129 yX10_isLevel wsX10_isLevel) := gw_c t_w329 (gw_c t_w328 (gw_c t_w317 (gw_c t_w83 (gw_t))))
theorem gX10_keyAt_X10_isFrom : GoodIn wsX10_keyAt (va_wsS RX10 105 yX10_isFrom wsX10_isFrom) := gw_c t_w319 (gw_c t_w318 (gw_c t_w317 (gw_c t_w316 (gw_t))))
theorem gX10_keyAt_X2_rowLength : GoodIn wsX10_keyAt (wsV RX10 231 RX2 yX2_rowLength wsX2_rowLength) := gw_c t_w369 (gw_c t_w20 (gw_c t_w19 (gw_c t_w1 (gw_c t_w18 (gw_t)))))
theorem gX10_keyAt_X2_rowStart : GoodIn wsX10_keyAt (wsV RX10 235 RX2 yX2_rowStart wsX2_rowStart) := gw_c t_w370 (gw_c t_w24 (gw_c t_w23 (gw_c t_w1 (gw_c t_w22 (gw_t)))))
theorem dX10_keyAt_0 : decode cX10_keyAt 0 = .ok (.iload_n 1, 1) := by decide +kernel
theorem dX10_keyAt_1 : decode cX10_keyAt 1 = .ok (.invokestatic 129, 3) := by decide +kernel
theorem dX10_keyAt_4 : decode cX10_keyAt 4 = .ok (.ifCond .eq 22, 3) := by decide +kernel
theorem dX10_keyAt_7 : decode cX10_keyAt 7 = .ok (.iload_n 2, 1) := by decide +kernel
theorem dX10_keyAt_8 : decode cX10_keyAt 8 = .ok (.iconst 0, 1) := by decide +kernel
theorem dX10_keyAt_9 : decode cX10_keyAt 9 = .ok (.aload_n 0, 1) := by decide +kernel
theorem dX10_keyAt_10 : decode cX10_keyAt 10 = .ok (.getfield 20, 3) := by decide +kernel
theorem dX10_keyAt_13 : decode cX10_keyAt 13 = .ok (.getfield 133, 3) := by decide +kernel
theorem dX10_keyAt_16 : decode cX10_keyAt 16 = .ok (.iload_n 1, 1) := by decide +kernel
theorem dX10_keyAt_17 : decode cX10_keyAt 17 = .ok (.iaload, 1) := by decide +kernel
theorem dX10_keyAt_18 : decode cX10_keyAt 18 = .ok (.iconst 1, 1) := by decide +kernel
theorem dX10_keyAt_19 : decode cX10_keyAt 19 = .ok (.isub, 1) := by decide +kernel
theorem dX10_keyAt_20 : decode cX10_keyAt 20 = .ok (.invokestatic 105, 3) := by decide +kernel
theorem dX10_keyAt_23 : decode cX10_keyAt 23 = .ok (.ifCond .ne 5, 3) := by decide +kernel
theorem dX10_keyAt_26 : decode cX10_keyAt 26 = .ok (.iconst (-1), 1) := by decide +kernel
theorem dX10_keyAt_27 : decode cX10_keyAt 27 = .ok (.ireturn, 1) := by decide +kernel
theorem dX10_keyAt_28 : decode cX10_keyAt 28 = .ok (.iload_n 3, 1) := by decide +kernel
theorem dX10_keyAt_29 : decode cX10_keyAt 29 = .ok (.iconst 0, 1) := by decide +kernel
theorem dX10_keyAt_30 : decode cX10_keyAt 30 = .ok (.aload_n 0, 1) := by decide +kernel
theorem dX10_keyAt_31 : decode cX10_keyAt 31 = .ok (.getfield 20, 3) := by decide +kernel
theorem dX10_keyAt_34 : decode cX10_keyAt 34 = .ok (.iload_n 1, 1) := by decide +kernel
theorem dX10_keyAt_35 : decode cX10_keyAt 35 = .ok (.iload_n 2, 1) := by decide +kernel
theorem dX10_keyAt_36 : decode cX10_keyAt 36 = .ok (.invokevirtual 231, 3) := by decide +kernel
theorem dX10_keyAt_39 : decode cX10_keyAt 39 = .ok (.iconst 1, 1) := by decide +kernel
theorem dX10_keyAt_40 : decode cX10_keyAt 40 = .ok (.isub, 1) := by decide +kernel
theorem dX10_keyAt_41 : decode cX10_keyAt 41 = .ok (.invokestatic 105, 3) := by decide +kernel
theorem dX10_keyAt_44 : decode cX10_keyAt 44 = .ok (.ifCond .ne 5, 3) := by decide +kernel
theorem dX10_keyAt_47 : decode cX10_keyAt 47 = .ok (.iconst (-1), 1) := by decide +kernel
theorem dX10_keyAt_48 : decode cX10_keyAt 48 = .ok (.ireturn, 1) := by decide +kernel
theorem dX10_keyAt_49 : decode cX10_keyAt 49 = .ok (.aload_n 0, 1) := by decide +kernel
theorem dX10_keyAt_50 : decode cX10_keyAt 50 = .ok (.getfield 20, 3) := by decide +kernel
theorem dX10_keyAt_53 : decode cX10_keyAt 53 = .ok (.iload_n 1, 1) := by decide +kernel
theorem dX10_keyAt_54 : decode cX10_keyAt 54 = .ok (.iload_n 2, 1) := by decide +kernel
theorem dX10_keyAt_55 : decode cX10_keyAt 55 = .ok (.invokevirtual 235, 3) := by decide +kernel
theorem dX10_keyAt_58 : decode cX10_keyAt 58 = .ok (.iload_n 3, 1) := by decide +kernel
theorem dX10_keyAt_59 : decode cX10_keyAt 59 = .ok (.iadd, 1) := by decide +kernel
theorem dX10_keyAt_60 : decode cX10_keyAt 60 = .ok (.ireturn, 1) := by decide +kernel
theorem gX10_parent_X2_hasSheet : GoodIn wsX10_parent (wsV RX10 156 RX2 yX2_hasSheet wsX2_hasSheet) := gw_c t_w337 (gw_c t_w336 (gw_c t_w335 (gw_c t_w1 (gw_c t_w334 (gw_t)))))
theorem gX10_parent_X10_isFrom : GoodIn wsX10_parent (va_wsS RX10 105 yX10_isFrom wsX10_isFrom) := gw_c t_w319 (gw_c t_w318 (gw_c t_w317 (gw_c t_w316 (gw_t))))
theorem gX10_parent_X2_keyAbove : GoodIn wsX10_parent (wsV RX10 238 RX2 yX2_keyAbove wsX2_keyAbove) := gw_c t_w371 (gw_c t_w265 (gw_c t_w264 (gw_c t_w1 (gw_c t_w263 (gw_t)))))
theorem dX10_parent_0 : decode cX10_parent 0 = .ok (.aload_n 0, 1) := by decide +kernel
theorem dX10_parent_1 : decode cX10_parent 1 = .ok (.getfield 20, 3) := by decide +kernel
theorem dX10_parent_4 : decode cX10_parent 4 = .ok (.iload_n 1, 1) := by decide +kernel
theorem dX10_parent_5 : decode cX10_parent 5 = .ok (.iload_n 2, 1) := by decide +kernel
theorem dX10_parent_6 : decode cX10_parent 6 = .ok (.invokevirtual 156, 3) := by decide +kernel
theorem dX10_parent_9 : decode cX10_parent 9 = .ok (.ifCond .eq 12, 3) := by decide +kernel
theorem dX10_parent_12 : decode cX10_parent 12 = .ok (.iload_n 3, 1) := by decide +kernel
theorem dX10_parent_13 : decode cX10_parent 13 = .ok (.iconst 0, 1) := by decide +kernel
theorem dX10_parent_14 : decode cX10_parent 14 = .ok (.iload_n 1, 1) := by decide +kernel
theorem dX10_parent_15 : decode cX10_parent 15 = .ok (.invokestatic 105, 3) := by decide +kernel
theorem dX10_parent_18 : decode cX10_parent 18 = .ok (.ifCond .ne 5, 3) := by decide +kernel
theorem dX10_parent_21 : decode cX10_parent 21 = .ok (.iconst (-1), 1) := by decide +kernel
theorem dX10_parent_22 : decode cX10_parent 22 = .ok (.ireturn, 1) := by decide +kernel
theorem dX10_parent_23 : decode cX10_parent 23 = .ok (.aload_n 0, 1) := by decide +kernel
theorem dX10_parent_24 : decode cX10_parent 24 = .ok (.getfield 20, 3) := by decide +kernel
theorem dX10_parent_27 : decode cX10_parent 27 = .ok (.iload_n 1, 1) := by decide +kernel
theorem dX10_parent_28 : decode cX10_parent 28 = .ok (.iload_n 2, 1) := by decide +kernel
theorem dX10_parent_29 : decode cX10_parent 29 = .ok (.iload_n 3, 1) := by decide +kernel
theorem dX10_parent_30 : decode cX10_parent 30 = .ok (.invokevirtual 238, 3) := by decide +kernel
theorem dX10_parent_33 : decode cX10_parent 33 = .ok (.ireturn, 1) := by decide +kernel
theorem gX10_child_X2_hasSheet : GoodIn wsX10_child (wsV RX10 156 RX2 yX2_hasSheet wsX2_hasSheet) := gw_c t_w337 (gw_c t_w336 (gw_c t_w335 (gw_c t_w1 (gw_c t_w334 (gw_t)))))
theorem gX10_child_X10_isFrom : GoodIn wsX10_child (va_wsS RX10 105 yX10_isFrom wsX10_isFrom) := gw_c t_w319 (gw_c t_w318 (gw_c t_w317 (gw_c t_w316 (gw_t))))
theorem gX10_child_X6_put : GoodIn wsX10_child (wsV RX10 159 RX6 yX6_put wsX6_put) := gw_c t_w338 (gw_c t_w283 (gw_c t_w282 (gw_c t_w135 (gw_c t_w281 (gw_t)))))
theorem gX10_child_X6_piecesAt : GoodIn wsX10_child (wsV RX10 241 RX6 yX6_piecesAt wsX6_piecesAt) := gw_c t_w375 (gw_c t_w374 (gw_c t_w373 (gw_c t_w135 (gw_c t_w372 (gw_t)))))
theorem gX10_child_X6_pieceAt : GoodIn wsX10_child (wsV RX10 244 RX6 yX6_pieceAt wsX6_pieceAt) := gw_c t_w379 (gw_c t_w378 (gw_c t_w377 (gw_c t_w135 (gw_c t_w376 (gw_t)))))
theorem dX10_child_0 : decode cX10_child 0 = .ok (.aload_n 0, 1) := by decide +kernel
theorem dX10_child_1 : decode cX10_child 1 = .ok (.getfield 20, 3) := by decide +kernel
theorem dX10_child_4 : decode cX10_child 4 = .ok (.iload_n 1, 1) := by decide +kernel
theorem dX10_child_5 : decode cX10_child 5 = .ok (.iload_n 2, 1) := by decide +kernel
theorem dX10_child_6 : decode cX10_child 6 = .ok (.invokevirtual 156, 3) := by decide +kernel
theorem dX10_child_9 : decode cX10_child 9 = .ok (.ifCond .eq 18, 3) := by decide +kernel
theorem dX10_child_12 : decode cX10_child 12 = .ok (.iload_n 3, 1) := by decide +kernel
theorem dX10_child_13 : decode cX10_child 13 = .ok (.iload_n 1, 1) := by decide +kernel
theorem dX10_child_14 : decode cX10_child 14 = .ok (.iconst 4, 1) := by decide +kernel
theorem dX10_child_15 : decode cX10_child 15 = .ok (.invokestatic 105, 3) := by decide +kernel
theorem dX10_child_18 : decode cX10_child 18 = .ok (.ifCond .eq 9, 3) := by decide +kernel
theorem dX10_child_21 : decode cX10_child 21 = .ok (.iload 4, 2) := by decide +kernel
theorem dX10_child_23 : decode cX10_child 23 = .ok (.iconst (-1), 1) := by decide +kernel
theorem dX10_child_24 : decode cX10_child 24 = .ok (.if_icmp .ge 5, 3) := by decide +kernel
theorem dX10_child_27 : decode cX10_child 27 = .ok (.iconst (-1), 1) := by decide +kernel
theorem dX10_child_28 : decode cX10_child 28 = .ok (.ireturn, 1) := by decide +kernel
theorem dX10_child_29 : decode cX10_child 29 = .ok (.aload_n 0, 1) := by decide +kernel
theorem dX10_child_30 : decode cX10_child 30 = .ok (.getfield 66, 3) := by decide +kernel
theorem dX10_child_33 : decode cX10_child 33 = .ok (.iload_n 1, 1) := by decide +kernel
theorem dX10_child_34 : decode cX10_child 34 = .ok (.iload_n 2, 1) := by decide +kernel
theorem dX10_child_35 : decode cX10_child 35 = .ok (.invokevirtual 159, 3) := by decide +kernel
theorem dX10_child_38 : decode cX10_child 38 = .ok (.aload_n 0, 1) := by decide +kernel
theorem dX10_child_39 : decode cX10_child 39 = .ok (.getfield 66, 3) := by decide +kernel
theorem dX10_child_42 : decode cX10_child 42 = .ok (.iload_n 3, 1) := by decide +kernel
theorem dX10_child_43 : decode cX10_child 43 = .ok (.invokevirtual 241, 3) := by decide +kernel
theorem dX10_child_46 : decode cX10_child 46 = .ok (.istore 5, 2) := by decide +kernel
theorem dX10_child_48 : decode cX10_child 48 = .ok (.iload 4, 2) := by decide +kernel
theorem dX10_child_50 : decode cX10_child 50 = .ok (.iconst (-1), 1) := by decide +kernel
theorem dX10_child_51 : decode cX10_child 51 = .ok (.if_icmp .ne 6, 3) := by decide +kernel
theorem dX10_child_54 : decode cX10_child 54 = .ok (.iload 5, 2) := by decide +kernel
theorem dX10_child_56 : decode cX10_child 56 = .ok (.ireturn, 1) := by decide +kernel
theorem dX10_child_57 : decode cX10_child 57 = .ok (.iload 4, 2) := by decide +kernel
theorem dX10_child_59 : decode cX10_child 59 = .ok (.iload 5, 2) := by decide +kernel
theorem dX10_child_61 : decode cX10_child 61 = .ok (.if_icmp .ge 16, 3) := by decide +kernel
theorem dX10_child_64 : decode cX10_child 64 = .ok (.aload_n 0, 1) := by decide +kernel
theorem dX10_child_65 : decode cX10_child 65 = .ok (.getfield 66, 3) := by decide +kernel
theorem dX10_child_68 : decode cX10_child 68 = .ok (.iload_n 3, 1) := by decide +kernel
theorem dX10_child_69 : decode cX10_child 69 = .ok (.iload 4, 2) := by decide +kernel
theorem dX10_child_71 : decode cX10_child 71 = .ok (.invokevirtual 244, 3) := by decide +kernel
theorem dX10_child_74 : decode cX10_child 74 = .ok (.goto 5, 3) := by decide +kernel
theorem dX10_child_77 : decode cX10_child 77 = .ok (.bipush (-2), 2) := by decide +kernel
theorem dX10_child_79 : decode cX10_child 79 = .ok (.ireturn, 1) := by decide +kernel
theorem gX10_common_X10_isPlace : GoodIn wsX10_common (va_wsS RX10 148 yX10_isPlace wsX10_isPlace) := gw_c t_w332 (gw_c t_w331 (gw_c t_w317 (gw_c t_w330 (gw_t))))
theorem gX10_common_X2_keyOf : GoodIn wsX10_common (wsV RX10 152 RX2 yX2_keyOf wsX2_keyOf) := gw_c t_w333 (gw_c t_w261 (gw_c t_w260 (gw_c t_w1 (gw_c t_w259 (gw_t)))))
theorem dX10_common_0 : decode cX10_common 0 = .ok (.iload_n 1, 1) := by decide +kernel
theorem dX10_common_1 : decode cX10_common 1 = .ok (.iload_n 2, 1) := by decide +kernel
theorem dX10_common_2 : decode cX10_common 2 = .ok (.invokestatic 148, 3) := by decide +kernel
theorem dX10_common_5 : decode cX10_common 5 = .ok (.ifCond .eq 12, 3) := by decide +kernel
theorem dX10_common_8 : decode cX10_common 8 = .ok (.iload_n 3, 1) := by decide +kernel
theorem dX10_common_9 : decode cX10_common 9 = .ok (.iload 4, 2) := by decide +kernel
theorem dX10_common_11 : decode cX10_common 11 = .ok (.invokestatic 148, 3) := by decide +kernel
theorem dX10_common_14 : decode cX10_common 14 = .ok (.ifCond .ne 5, 3) := by decide +kernel
theorem dX10_common_17 : decode cX10_common 17 = .ok (.iconst (-1), 1) := by decide +kernel
theorem dX10_common_18 : decode cX10_common 18 = .ok (.ireturn, 1) := by decide +kernel
theorem dX10_common_19 : decode cX10_common 19 = .ok (.iconst 4, 1) := by decide +kernel
theorem dX10_common_20 : decode cX10_common 20 = .ok (.istore 5, 2) := by decide +kernel
theorem dX10_common_22 : decode cX10_common 22 = .ok (.iload 5, 2) := by decide +kernel
theorem dX10_common_24 : decode cX10_common 24 = .ok (.ifCond .lt 38, 3) := by decide +kernel
theorem dX10_common_27 : decode cX10_common 27 = .ok (.aload_n 0, 1) := by decide +kernel
theorem dX10_common_28 : decode cX10_common 28 = .ok (.getfield 20, 3) := by decide +kernel
theorem dX10_common_31 : decode cX10_common 31 = .ok (.iload 5, 2) := by decide +kernel
theorem dX10_common_33 : decode cX10_common 33 = .ok (.iload_n 1, 1) := by decide +kernel
theorem dX10_common_34 : decode cX10_common 34 = .ok (.iload_n 2, 1) := by decide +kernel
theorem dX10_common_35 : decode cX10_common 35 = .ok (.invokevirtual 152, 3) := by decide +kernel
theorem dX10_common_38 : decode cX10_common 38 = .ok (.aload_n 0, 1) := by decide +kernel
theorem dX10_common_39 : decode cX10_common 39 = .ok (.getfield 20, 3) := by decide +kernel
theorem dX10_common_42 : decode cX10_common 42 = .ok (.iload 5, 2) := by decide +kernel
theorem dX10_common_44 : decode cX10_common 44 = .ok (.iload_n 3, 1) := by decide +kernel
theorem dX10_common_45 : decode cX10_common 45 = .ok (.iload 4, 2) := by decide +kernel
theorem dX10_common_47 : decode cX10_common 47 = .ok (.invokevirtual 152, 3) := by decide +kernel
theorem dX10_common_50 : decode cX10_common 50 = .ok (.if_icmp .ne 6, 3) := by decide +kernel
theorem dX10_common_53 : decode cX10_common 53 = .ok (.iload 5, 2) := by decide +kernel
theorem dX10_common_55 : decode cX10_common 55 = .ok (.ireturn, 1) := by decide +kernel
theorem dX10_common_56 : decode cX10_common 56 = .ok (.iinc 5 (-1), 3) := by decide +kernel
theorem dX10_common_59 : decode cX10_common 59 = .ok (.goto (-37), 3) := by decide +kernel
theorem dX10_common_62 : decode cX10_common 62 = .ok (.bipush (-2), 2) := by decide +kernel
theorem dX10_common_64 : decode cX10_common 64 = .ok (.ireturn, 1) := by decide +kernel
theorem gX10_neighbour_X2_hasSheet : GoodIn wsX10_neighbour (wsV RX10 156 RX2 yX2_hasSheet wsX2_hasSheet) := gw_c t_w337 (gw_c t_w336 (gw_c t_w335 (gw_c t_w1 (gw_c t_w334 (gw_t)))))
theorem gX10_neighbour_X10_isFrom : GoodIn wsX10_neighbour (va_wsS RX10 105 yX10_isFrom wsX10_isFrom) := gw_c t_w319 (gw_c t_w318 (gw_c t_w317 (gw_c t_w316 (gw_t))))
theorem gX10_neighbour_X6_put : GoodIn wsX10_neighbour (wsV RX10 159 RX6 yX6_put wsX6_put) := gw_c t_w338 (gw_c t_w283 (gw_c t_w282 (gw_c t_w135 (gw_c t_w281 (gw_t)))))
theorem gX10_neighbour_X6_lookAround : GoodIn wsX10_neighbour (wsV RX10 247 RX6 yX6_lookAround wsX6_lookAround) := gw_c t_w380 (gw_c t_w287 (gw_c t_w286 (gw_c t_w135 (gw_c t_w285 (gw_t)))))
theorem dX10_neighbour_0 : decode cX10_neighbour 0 = .ok (.aload_n 0, 1) := by decide +kernel
theorem dX10_neighbour_1 : decode cX10_neighbour 1 = .ok (.getfield 20, 3) := by decide +kernel
theorem dX10_neighbour_4 : decode cX10_neighbour 4 = .ok (.iload_n 1, 1) := by decide +kernel
theorem dX10_neighbour_5 : decode cX10_neighbour 5 = .ok (.iload_n 2, 1) := by decide +kernel
theorem dX10_neighbour_6 : decode cX10_neighbour 6 = .ok (.invokevirtual 156, 3) := by decide +kernel
theorem dX10_neighbour_9 : decode cX10_neighbour 9 = .ok (.ifCond .eq 18, 3) := by decide +kernel
theorem dX10_neighbour_12 : decode cX10_neighbour 12 = .ok (.iload_n 3, 1) := by decide +kernel
theorem dX10_neighbour_13 : decode cX10_neighbour 13 = .ok (.iconst 0, 1) := by decide +kernel
theorem dX10_neighbour_14 : decode cX10_neighbour 14 = .ok (.iconst 3, 1) := by decide +kernel
theorem dX10_neighbour_15 : decode cX10_neighbour 15 = .ok (.invokestatic 105, 3) := by decide +kernel
theorem dX10_neighbour_18 : decode cX10_neighbour 18 = .ok (.ifCond .eq 9, 3) := by decide +kernel
theorem dX10_neighbour_21 : decode cX10_neighbour 21 = .ok (.iload 4, 2) := by decide +kernel
theorem dX10_neighbour_23 : decode cX10_neighbour 23 = .ok (.iconst (-1), 1) := by decide +kernel
theorem dX10_neighbour_24 : decode cX10_neighbour 24 = .ok (.if_icmp .ge 5, 3) := by decide +kernel
theorem dX10_neighbour_27 : decode cX10_neighbour 27 = .ok (.iconst (-1), 1) := by decide +kernel
theorem dX10_neighbour_28 : decode cX10_neighbour 28 = .ok (.ireturn, 1) := by decide +kernel
theorem dX10_neighbour_29 : decode cX10_neighbour 29 = .ok (.aload_n 0, 1) := by decide +kernel
theorem dX10_neighbour_30 : decode cX10_neighbour 30 = .ok (.getfield 66, 3) := by decide +kernel
theorem dX10_neighbour_33 : decode cX10_neighbour 33 = .ok (.iload_n 1, 1) := by decide +kernel
theorem dX10_neighbour_34 : decode cX10_neighbour 34 = .ok (.iload_n 2, 1) := by decide +kernel
theorem dX10_neighbour_35 : decode cX10_neighbour 35 = .ok (.invokevirtual 159, 3) := by decide +kernel
theorem dX10_neighbour_38 : decode cX10_neighbour 38 = .ok (.aload_n 0, 1) := by decide +kernel
theorem dX10_neighbour_39 : decode cX10_neighbour 39 = .ok (.getfield 66, 3) := by decide +kernel
theorem dX10_neighbour_42 : decode cX10_neighbour 42 = .ok (.invokevirtual 247, 3) := by decide +kernel
theorem dX10_neighbour_45 : decode cX10_neighbour 45 = .ok (.iload 4, 2) := by decide +kernel
theorem dX10_neighbour_47 : decode cX10_neighbour 47 = .ok (.iconst (-1), 1) := by decide +kernel
theorem dX10_neighbour_48 : decode cX10_neighbour 48 = .ok (.if_icmp .ne 13, 3) := by decide +kernel
theorem dX10_neighbour_51 : decode cX10_neighbour 51 = .ok (.aload_n 0, 1) := by decide +kernel
theorem dX10_neighbour_52 : decode cX10_neighbour 52 = .ok (.getfield 66, 3) := by decide +kernel
theorem dX10_neighbour_55 : decode cX10_neighbour 55 = .ok (.getfield 250, 3) := by decide +kernel
theorem dX10_neighbour_58 : decode cX10_neighbour 58 = .ok (.iload_n 3, 1) := by decide +kernel
theorem dX10_neighbour_59 : decode cX10_neighbour 59 = .ok (.iaload, 1) := by decide +kernel
theorem dX10_neighbour_60 : decode cX10_neighbour 60 = .ok (.ireturn, 1) := by decide +kernel
theorem dX10_neighbour_61 : decode cX10_neighbour 61 = .ok (.iload 4, 2) := by decide +kernel
theorem dX10_neighbour_63 : decode cX10_neighbour 63 = .ok (.aload_n 0, 1) := by decide +kernel
theorem dX10_neighbour_64 : decode cX10_neighbour 64 = .ok (.getfield 66, 3) := by decide +kernel
theorem dX10_neighbour_67 : decode cX10_neighbour 67 = .ok (.getfield 250, 3) := by decide +kernel
theorem dX10_neighbour_70 : decode cX10_neighbour 70 = .ok (.iload_n 3, 1) := by decide +kernel
theorem dX10_neighbour_71 : decode cX10_neighbour 71 = .ok (.iaload, 1) := by decide +kernel
theorem dX10_neighbour_72 : decode cX10_neighbour 72 = .ok (.if_icmp .ge 18, 3) := by decide +kernel
theorem dX10_neighbour_75 : decode cX10_neighbour 75 = .ok (.aload_n 0, 1) := by decide +kernel
theorem dX10_neighbour_76 : decode cX10_neighbour 76 = .ok (.getfield 66, 3) := by decide +kernel
theorem dX10_neighbour_79 : decode cX10_neighbour 79 = .ok (.getfield 253, 3) := by decide +kernel
theorem dX10_neighbour_82 : decode cX10_neighbour 82 = .ok (.iload_n 3, 1) := by decide +kernel
theorem dX10_neighbour_83 : decode cX10_neighbour 83 = .ok (.iaload, 1) := by decide +kernel
theorem dX10_neighbour_84 : decode cX10_neighbour 84 = .ok (.iload 4, 2) := by decide +kernel
theorem dX10_neighbour_86 : decode cX10_neighbour 86 = .ok (.iadd, 1) := by decide +kernel
theorem dX10_neighbour_87 : decode cX10_neighbour 87 = .ok (.goto 5, 3) := by decide +kernel
theorem dX10_neighbour_90 : decode cX10_neighbour 90 = .ok (.bipush (-2), 2) := by decide +kernel
theorem dX10_neighbour_92 : decode cX10_neighbour 92 = .ok (.ireturn, 1) := by decide +kernel
theorem gX10_around_X2_hasSheet : GoodIn wsX10_around (wsV RX10 156 RX2 yX2_hasSheet wsX2_hasSheet) := gw_c t_w337 (gw_c t_w336 (gw_c t_w335 (gw_c t_w1 (gw_c t_w334 (gw_t)))))
theorem gX10_around_X6_put : GoodIn wsX10_around (wsV RX10 159 RX6 yX6_put wsX6_put) := gw_c t_w338 (gw_c t_w283 (gw_c t_w282 (gw_c t_w135 (gw_c t_w281 (gw_t)))))
theorem gX10_around_X6_lookAround : GoodIn wsX10_around (wsV RX10 247 RX6 yX6_lookAround wsX6_lookAround) := gw_c t_w380 (gw_c t_w287 (gw_c t_w286 (gw_c t_w135 (gw_c t_w285 (gw_t)))))
theorem gX10_around_X6_allBeside : GoodIn wsX10_around (wsV RX10 256 RX6 yX6_allBeside wsX6_allBeside) := gw_c t_w381 (gw_c t_w295 (gw_c t_w294 (gw_c t_w135 (gw_c t_w293 (gw_t)))))
theorem gX10_around_X6_besideKey : GoodIn wsX10_around (wsV RX10 259 RX6 yX6_besideKey wsX6_besideKey) := gw_c t_w382 (gw_c t_w299 (gw_c t_w298 (gw_c t_w135 (gw_c t_w297 (gw_t)))))
theorem dX10_around_0 : decode cX10_around 0 = .ok (.aload_n 0, 1) := by decide +kernel
theorem dX10_around_1 : decode cX10_around 1 = .ok (.getfield 20, 3) := by decide +kernel
theorem dX10_around_4 : decode cX10_around 4 = .ok (.iload_n 1, 1) := by decide +kernel
theorem dX10_around_5 : decode cX10_around 5 = .ok (.iload_n 2, 1) := by decide +kernel
theorem dX10_around_6 : decode cX10_around 6 = .ok (.invokevirtual 156, 3) := by decide +kernel
theorem dX10_around_9 : decode cX10_around 9 = .ok (.ifCond .eq 8, 3) := by decide +kernel
theorem dX10_around_12 : decode cX10_around 12 = .ok (.iload_n 3, 1) := by decide +kernel
theorem dX10_around_13 : decode cX10_around 13 = .ok (.iconst (-1), 1) := by decide +kernel
theorem dX10_around_14 : decode cX10_around 14 = .ok (.if_icmp .ge 5, 3) := by decide +kernel
theorem dX10_around_17 : decode cX10_around 17 = .ok (.iconst (-1), 1) := by decide +kernel
theorem dX10_around_18 : decode cX10_around 18 = .ok (.ireturn, 1) := by decide +kernel
theorem dX10_around_19 : decode cX10_around 19 = .ok (.aload_n 0, 1) := by decide +kernel
theorem dX10_around_20 : decode cX10_around 20 = .ok (.getfield 66, 3) := by decide +kernel
theorem dX10_around_23 : decode cX10_around 23 = .ok (.iload_n 1, 1) := by decide +kernel
theorem dX10_around_24 : decode cX10_around 24 = .ok (.iload_n 2, 1) := by decide +kernel
theorem dX10_around_25 : decode cX10_around 25 = .ok (.invokevirtual 159, 3) := by decide +kernel
theorem dX10_around_28 : decode cX10_around 28 = .ok (.aload_n 0, 1) := by decide +kernel
theorem dX10_around_29 : decode cX10_around 29 = .ok (.getfield 66, 3) := by decide +kernel
theorem dX10_around_32 : decode cX10_around 32 = .ok (.invokevirtual 247, 3) := by decide +kernel
theorem dX10_around_35 : decode cX10_around 35 = .ok (.iload_n 3, 1) := by decide +kernel
theorem dX10_around_36 : decode cX10_around 36 = .ok (.iconst (-1), 1) := by decide +kernel
theorem dX10_around_37 : decode cX10_around 37 = .ok (.if_icmp .ne 11, 3) := by decide +kernel
theorem dX10_around_40 : decode cX10_around 40 = .ok (.aload_n 0, 1) := by decide +kernel
theorem dX10_around_41 : decode cX10_around 41 = .ok (.getfield 66, 3) := by decide +kernel
theorem dX10_around_44 : decode cX10_around 44 = .ok (.invokevirtual 256, 3) := by decide +kernel
theorem dX10_around_47 : decode cX10_around 47 = .ok (.ireturn, 1) := by decide +kernel
theorem dX10_around_48 : decode cX10_around 48 = .ok (.iload_n 3, 1) := by decide +kernel
theorem dX10_around_49 : decode cX10_around 49 = .ok (.aload_n 0, 1) := by decide +kernel
theorem dX10_around_50 : decode cX10_around 50 = .ok (.getfield 66, 3) := by decide +kernel
theorem dX10_around_53 : decode cX10_around 53 = .ok (.invokevirtual 256, 3) := by decide +kernel
theorem dX10_around_56 : decode cX10_around 56 = .ok (.if_icmp .ge 14, 3) := by decide +kernel
theorem dX10_around_59 : decode cX10_around 59 = .ok (.aload_n 0, 1) := by decide +kernel
theorem dX10_around_60 : decode cX10_around 60 = .ok (.getfield 66, 3) := by decide +kernel
theorem dX10_around_63 : decode cX10_around 63 = .ok (.iload_n 3, 1) := by decide +kernel
theorem dX10_around_64 : decode cX10_around 64 = .ok (.invokevirtual 259, 3) := by decide +kernel
theorem dX10_around_67 : decode cX10_around 67 = .ok (.goto 5, 3) := by decide +kernel
theorem dX10_around_70 : decode cX10_around 70 = .ok (.bipush (-2), 2) := by decide +kernel
theorem dX10_around_72 : decode cX10_around 72 = .ok (.ireturn, 1) := by decide +kernel
theorem gX10_side_X10_areSheets : GoodIn wsX10_side (wsV RX10 262 RX10 yX10_areSheets wsX10_areSheets) := gw_c t_w386 (gw_c t_w385 (gw_c t_w384 (gw_c t_w317 (gw_c t_w383 (gw_t)))))
theorem gX10_side_X6_put : GoodIn wsX10_side (wsV RX10 159 RX6 yX6_put wsX6_put) := gw_c t_w338 (gw_c t_w283 (gw_c t_w282 (gw_c t_w135 (gw_c t_w281 (gw_t)))))
theorem gX10_side_X6_lookAround : GoodIn wsX10_side (wsV RX10 247 RX6 yX6_lookAround wsX6_lookAround) := gw_c t_w380 (gw_c t_w287 (gw_c t_w286 (gw_c t_w135 (gw_c t_w285 (gw_t)))))
theorem dX10_side_0 : decode cX10_side 0 = .ok (.aload_n 0, 1) := by decide +kernel
theorem dX10_side_1 : decode cX10_side 1 = .ok (.iload_n 1, 1) := by decide +kernel
theorem dX10_side_2 : decode cX10_side 2 = .ok (.iload_n 2, 1) := by decide +kernel
theorem dX10_side_3 : decode cX10_side 3 = .ok (.iload_n 3, 1) := by decide +kernel
theorem dX10_side_4 : decode cX10_side 4 = .ok (.invokevirtual 262, 3) := by decide +kernel
theorem dX10_side_7 : decode cX10_side 7 = .ok (.ifCond .eq 8, 3) := by decide +kernel
theorem dX10_side_10 : decode cX10_side 10 = .ok (.iload_n 2, 1) := by decide +kernel
theorem dX10_side_11 : decode cX10_side 11 = .ok (.iload_n 3, 1) := by decide +kernel
theorem dX10_side_12 : decode cX10_side 12 = .ok (.if_icmp .ne 5, 3) := by decide +kernel
theorem dX10_side_15 : decode cX10_side 15 = .ok (.iconst (-1), 1) := by decide +kernel
theorem dX10_side_16 : decode cX10_side 16 = .ok (.ireturn, 1) := by decide +kernel
theorem dX10_side_17 : decode cX10_side 17 = .ok (.aload_n 0, 1) := by decide +kernel
theorem dX10_side_18 : decode cX10_side 18 = .ok (.getfield 66, 3) := by decide +kernel
theorem dX10_side_21 : decode cX10_side 21 = .ok (.iload_n 1, 1) := by decide +kernel
theorem dX10_side_22 : decode cX10_side 22 = .ok (.iload_n 2, 1) := by decide +kernel
theorem dX10_side_23 : decode cX10_side 23 = .ok (.invokevirtual 159, 3) := by decide +kernel
theorem dX10_side_26 : decode cX10_side 26 = .ok (.aload_n 0, 1) := by decide +kernel
theorem dX10_side_27 : decode cX10_side 27 = .ok (.getfield 66, 3) := by decide +kernel
theorem dX10_side_30 : decode cX10_side 30 = .ok (.invokevirtual 247, 3) := by decide +kernel
theorem dX10_side_33 : decode cX10_side 33 = .ok (.iconst 0, 1) := by decide +kernel
theorem dX10_side_34 : decode cX10_side 34 = .ok (.istore 4, 2) := by decide +kernel
theorem dX10_side_36 : decode cX10_side 36 = .ok (.iload 4, 2) := by decide +kernel
theorem dX10_side_38 : decode cX10_side 38 = .ok (.iconst 3, 1) := by decide +kernel
theorem dX10_side_39 : decode cX10_side 39 = .ok (.if_icmp .gt 51, 3) := by decide +kernel
theorem dX10_side_42 : decode cX10_side 42 = .ok (.iload_n 3, 1) := by decide +kernel
theorem dX10_side_43 : decode cX10_side 43 = .ok (.aload_n 0, 1) := by decide +kernel
theorem dX10_side_44 : decode cX10_side 44 = .ok (.getfield 66, 3) := by decide +kernel
theorem dX10_side_47 : decode cX10_side 47 = .ok (.getfield 253, 3) := by decide +kernel
theorem dX10_side_50 : decode cX10_side 50 = .ok (.iload 4, 2) := by decide +kernel
theorem dX10_side_52 : decode cX10_side 52 = .ok (.iaload, 1) := by decide +kernel
theorem dX10_side_53 : decode cX10_side 53 = .ok (.if_icmp .lt 31, 3) := by decide +kernel
theorem dX10_side_56 : decode cX10_side 56 = .ok (.iload_n 3, 1) := by decide +kernel
theorem dX10_side_57 : decode cX10_side 57 = .ok (.aload_n 0, 1) := by decide +kernel
theorem dX10_side_58 : decode cX10_side 58 = .ok (.getfield 66, 3) := by decide +kernel
theorem dX10_side_61 : decode cX10_side 61 = .ok (.getfield 253, 3) := by decide +kernel
theorem dX10_side_64 : decode cX10_side 64 = .ok (.iload 4, 2) := by decide +kernel
theorem dX10_side_66 : decode cX10_side 66 = .ok (.iaload, 1) := by decide +kernel
theorem dX10_side_67 : decode cX10_side 67 = .ok (.aload_n 0, 1) := by decide +kernel
theorem dX10_side_68 : decode cX10_side 68 = .ok (.getfield 66, 3) := by decide +kernel
theorem dX10_side_71 : decode cX10_side 71 = .ok (.getfield 250, 3) := by decide +kernel
theorem dX10_side_74 : decode cX10_side 74 = .ok (.iload 4, 2) := by decide +kernel
theorem dX10_side_76 : decode cX10_side 76 = .ok (.iaload, 1) := by decide +kernel
theorem dX10_side_77 : decode cX10_side 77 = .ok (.iadd, 1) := by decide +kernel
theorem dX10_side_78 : decode cX10_side 78 = .ok (.if_icmp .ge 6, 3) := by decide +kernel
theorem dX10_side_81 : decode cX10_side 81 = .ok (.iload 4, 2) := by decide +kernel
theorem dX10_side_83 : decode cX10_side 83 = .ok (.ireturn, 1) := by decide +kernel
theorem dX10_side_84 : decode cX10_side 84 = .ok (.iinc 4 1, 3) := by decide +kernel
theorem dX10_side_87 : decode cX10_side 87 = .ok (.goto (-51), 3) := by decide +kernel
theorem dX10_side_90 : decode cX10_side 90 = .ok (.bipush (-2), 2) := by decide +kernel
theorem dX10_side_92 : decode cX10_side 92 = .ok (.ireturn, 1) := by decide +kernel
theorem gX10_steps_X10_areSheets : GoodIn wsX10_steps (wsV RX10 262 RX10 yX10_areSheets wsX10_areSheets) := gw_c t_w386 (gw_c t_w385 (gw_c t_w384 (gw_c t_w317 (gw_c t_w383 (gw_t)))))
theorem gX10_steps_X9_spread : GoodIn wsX10_steps (wsV RX10 265 RX9 yX9_spread wsX9_spread) := gw_c t_w390 (gw_c t_w389 (gw_c t_w388 (gw_c t_w277 (gw_c t_w387 (gw_t)))))
theorem gX10_steps_X9_stepsTo : GoodIn wsX10_steps (wsV RX10 268 RX9 yX9_stepsTo wsX9_stepsTo) := gw_c t_w394 (gw_c t_w393 (gw_c t_w392 (gw_c t_w277 (gw_c t_w391 (gw_t)))))
theorem dX10_steps_0 : decode cX10_steps 0 = .ok (.aload_n 0, 1) := by decide +kernel
theorem dX10_steps_1 : decode cX10_steps 1 = .ok (.iload_n 1, 1) := by decide +kernel
theorem dX10_steps_2 : decode cX10_steps 2 = .ok (.iload_n 2, 1) := by decide +kernel
theorem dX10_steps_3 : decode cX10_steps 3 = .ok (.iload_n 3, 1) := by decide +kernel
theorem dX10_steps_4 : decode cX10_steps 4 = .ok (.invokevirtual 262, 3) := by decide +kernel
theorem dX10_steps_7 : decode cX10_steps 7 = .ok (.ifCond .ne 5, 3) := by decide +kernel
theorem dX10_steps_10 : decode cX10_steps 10 = .ok (.iconst (-1), 1) := by decide +kernel
theorem dX10_steps_11 : decode cX10_steps 11 = .ok (.ireturn, 1) := by decide +kernel
theorem dX10_steps_12 : decode cX10_steps 12 = .ok (.aload_n 0, 1) := by decide +kernel
theorem dX10_steps_13 : decode cX10_steps 13 = .ok (.getfield 20, 3) := by decide +kernel
theorem dX10_steps_16 : decode cX10_steps 16 = .ok (.getfield 126, 3) := by decide +kernel
theorem dX10_steps_19 : decode cX10_steps 19 = .ok (.iload_n 1, 1) := by decide +kernel
theorem dX10_steps_20 : decode cX10_steps 20 = .ok (.iaload, 1) := by decide +kernel
theorem dX10_steps_21 : decode cX10_steps 21 = .ok (.sipush 20000, 3) := by decide +kernel
theorem dX10_steps_24 : decode cX10_steps 24 = .ok (.if_icmp .le 6, 3) := by decide +kernel
theorem dX10_steps_27 : decode cX10_steps 27 = .ok (.bipush (-3), 2) := by decide +kernel
theorem dX10_steps_29 : decode cX10_steps 29 = .ok (.ireturn, 1) := by decide +kernel
theorem dX10_steps_30 : decode cX10_steps 30 = .ok (.aload_n 0, 1) := by decide +kernel
theorem dX10_steps_31 : decode cX10_steps 31 = .ok (.getfield 73, 3) := by decide +kernel
theorem dX10_steps_34 : decode cX10_steps 34 = .ok (.iload_n 1, 1) := by decide +kernel
theorem dX10_steps_35 : decode cX10_steps 35 = .ok (.iload_n 2, 1) := by decide +kernel
theorem dX10_steps_36 : decode cX10_steps 36 = .ok (.invokevirtual 265, 3) := by decide +kernel
theorem dX10_steps_39 : decode cX10_steps 39 = .ok (.aload_n 0, 1) := by decide +kernel
theorem dX10_steps_40 : decode cX10_steps 40 = .ok (.getfield 73, 3) := by decide +kernel
theorem dX10_steps_43 : decode cX10_steps 43 = .ok (.iload_n 3, 1) := by decide +kernel
theorem dX10_steps_44 : decode cX10_steps 44 = .ok (.invokevirtual 268, 3) := by decide +kernel
theorem dX10_steps_47 : decode cX10_steps 47 = .ok (.ireturn, 1) := by decide +kernel
theorem gX10_way_X10_areSheets : GoodIn wsX10_way (wsV RX10 262 RX10 yX10_areSheets wsX10_areSheets) := gw_c t_w386 (gw_c t_w385 (gw_c t_w384 (gw_c t_w317 (gw_c t_w383 (gw_t)))))
theorem gX10_way_X9_spread : GoodIn wsX10_way (wsV RX10 265 RX9 yX9_spread wsX9_spread) := gw_c t_w390 (gw_c t_w389 (gw_c t_w388 (gw_c t_w277 (gw_c t_w387 (gw_t)))))
theorem gX10_way_X9_stepsTo : GoodIn wsX10_way (wsV RX10 268 RX9 yX9_stepsTo wsX9_stepsTo) := gw_c t_w394 (gw_c t_w393 (gw_c t_w392 (gw_c t_w277 (gw_c t_w391 (gw_t)))))
theorem gX10_way_X9_onTheWay : GoodIn wsX10_way (wsV RX10 271 RX9 yX9_onTheWay wsX9_onTheWay) := gw_c t_w398 (gw_c t_w397 (gw_c t_w396 (gw_c t_w277 (gw_c t_w395 (gw_t)))))
theorem dX10_way_0 : decode cX10_way 0 = .ok (.aload_n 0, 1) := by decide +kernel
theorem dX10_way_1 : decode cX10_way 1 = .ok (.iload_n 1, 1) := by decide +kernel
theorem dX10_way_2 : decode cX10_way 2 = .ok (.iload_n 2, 1) := by decide +kernel
theorem dX10_way_3 : decode cX10_way 3 = .ok (.iload_n 3, 1) := by decide +kernel
theorem dX10_way_4 : decode cX10_way 4 = .ok (.invokevirtual 262, 3) := by decide +kernel
theorem dX10_way_7 : decode cX10_way 7 = .ok (.ifCond .eq 8, 3) := by decide +kernel
theorem dX10_way_10 : decode cX10_way 10 = .ok (.iload 4, 2) := by decide +kernel
theorem dX10_way_12 : decode cX10_way 12 = .ok (.ifCond .ge 5, 3) := by decide +kernel
theorem dX10_way_15 : decode cX10_way 15 = .ok (.iconst (-1), 1) := by decide +kernel
theorem dX10_way_16 : decode cX10_way 16 = .ok (.ireturn, 1) := by decide +kernel
theorem dX10_way_17 : decode cX10_way 17 = .ok (.aload_n 0, 1) := by decide +kernel
theorem dX10_way_18 : decode cX10_way 18 = .ok (.getfield 20, 3) := by decide +kernel
theorem dX10_way_21 : decode cX10_way 21 = .ok (.getfield 126, 3) := by decide +kernel
theorem dX10_way_24 : decode cX10_way 24 = .ok (.iload_n 1, 1) := by decide +kernel
theorem dX10_way_25 : decode cX10_way 25 = .ok (.iaload, 1) := by decide +kernel
theorem dX10_way_26 : decode cX10_way 26 = .ok (.sipush 20000, 3) := by decide +kernel
theorem dX10_way_29 : decode cX10_way 29 = .ok (.if_icmp .le 6, 3) := by decide +kernel
theorem dX10_way_32 : decode cX10_way 32 = .ok (.bipush (-3), 2) := by decide +kernel
theorem dX10_way_34 : decode cX10_way 34 = .ok (.ireturn, 1) := by decide +kernel
theorem dX10_way_35 : decode cX10_way 35 = .ok (.aload_n 0, 1) := by decide +kernel
theorem dX10_way_36 : decode cX10_way 36 = .ok (.getfield 73, 3) := by decide +kernel
theorem dX10_way_39 : decode cX10_way 39 = .ok (.iload_n 1, 1) := by decide +kernel
theorem dX10_way_40 : decode cX10_way 40 = .ok (.iload_n 3, 1) := by decide +kernel
theorem dX10_way_41 : decode cX10_way 41 = .ok (.invokevirtual 265, 3) := by decide +kernel
theorem dX10_way_44 : decode cX10_way 44 = .ok (.iload 4, 2) := by decide +kernel
theorem dX10_way_46 : decode cX10_way 46 = .ok (.aload_n 0, 1) := by decide +kernel
theorem dX10_way_47 : decode cX10_way 47 = .ok (.getfield 73, 3) := by decide +kernel
theorem dX10_way_50 : decode cX10_way 50 = .ok (.iload_n 2, 1) := by decide +kernel
theorem dX10_way_51 : decode cX10_way 51 = .ok (.invokevirtual 268, 3) := by decide +kernel
theorem dX10_way_54 : decode cX10_way 54 = .ok (.if_icmp .le 8, 3) := by decide +kernel
theorem dX10_way_57 : decode cX10_way 57 = .ok (.bipush (-2), 2) := by decide +kernel
theorem dX10_way_59 : decode cX10_way 59 = .ok (.goto 14, 3) := by decide +kernel
theorem dX10_way_62 : decode cX10_way 62 = .ok (.aload_n 0, 1) := by decide +kernel
theorem dX10_way_63 : decode cX10_way 63 = .ok (.getfield 73, 3) := by decide +kernel
theorem dX10_way_66 : decode cX10_way 66 = .ok (.iload_n 1, 1) := by decide +kernel
theorem dX10_way_67 : decode cX10_way 67 = .ok (.iload_n 2, 1) := by decide +kernel
theorem dX10_way_68 : decode cX10_way 68 = .ok (.iload 4, 2) := by decide +kernel
theorem dX10_way_70 : decode cX10_way 70 = .ok (.invokevirtual 271, 3) := by decide +kernel
theorem dX10_way_73 : decode cX10_way 73 = .ok (.ireturn, 1) := by decide +kernel
theorem gX10_reach_X2_hasSheet : GoodIn wsX10_reach (wsV RX10 156 RX2 yX2_hasSheet wsX2_hasSheet) := gw_c t_w337 (gw_c t_w336 (gw_c t_w335 (gw_c t_w1 (gw_c t_w334 (gw_t)))))
theorem gX10_reach_X9_spread : GoodIn wsX10_reach (wsV RX10 265 RX9 yX9_spread wsX9_spread) := gw_c t_w390 (gw_c t_w389 (gw_c t_w388 (gw_c t_w277 (gw_c t_w387 (gw_t)))))
theorem gX10_reach_X9_within : GoodIn wsX10_reach (wsV RX10 274 RX9 yX9_within wsX9_within) := gw_c t_w402 (gw_c t_w401 (gw_c t_w400 (gw_c t_w277 (gw_c t_w399 (gw_t)))))
theorem dX10_reach_0 : decode cX10_reach 0 = .ok (.aload_n 0, 1) := by decide +kernel
theorem dX10_reach_1 : decode cX10_reach 1 = .ok (.getfield 20, 3) := by decide +kernel
theorem dX10_reach_4 : decode cX10_reach 4 = .ok (.iload_n 1, 1) := by decide +kernel
theorem dX10_reach_5 : decode cX10_reach 5 = .ok (.iload_n 2, 1) := by decide +kernel
theorem dX10_reach_6 : decode cX10_reach 6 = .ok (.invokevirtual 156, 3) := by decide +kernel
theorem dX10_reach_9 : decode cX10_reach 9 = .ok (.ifCond .eq 7, 3) := by decide +kernel
theorem dX10_reach_12 : decode cX10_reach 12 = .ok (.iload_n 3, 1) := by decide +kernel
theorem dX10_reach_13 : decode cX10_reach 13 = .ok (.ifCond .ge 5, 3) := by decide +kernel
theorem dX10_reach_16 : decode cX10_reach 16 = .ok (.iconst (-1), 1) := by decide +kernel
theorem dX10_reach_17 : decode cX10_reach 17 = .ok (.ireturn, 1) := by decide +kernel
theorem dX10_reach_18 : decode cX10_reach 18 = .ok (.aload_n 0, 1) := by decide +kernel
theorem dX10_reach_19 : decode cX10_reach 19 = .ok (.getfield 20, 3) := by decide +kernel
theorem dX10_reach_22 : decode cX10_reach 22 = .ok (.getfield 126, 3) := by decide +kernel
theorem dX10_reach_25 : decode cX10_reach 25 = .ok (.iload_n 1, 1) := by decide +kernel
theorem dX10_reach_26 : decode cX10_reach 26 = .ok (.iaload, 1) := by decide +kernel
theorem dX10_reach_27 : decode cX10_reach 27 = .ok (.sipush 20000, 3) := by decide +kernel
theorem dX10_reach_30 : decode cX10_reach 30 = .ok (.if_icmp .le 6, 3) := by decide +kernel
theorem dX10_reach_33 : decode cX10_reach 33 = .ok (.bipush (-3), 2) := by decide +kernel
theorem dX10_reach_35 : decode cX10_reach 35 = .ok (.ireturn, 1) := by decide +kernel
theorem dX10_reach_36 : decode cX10_reach 36 = .ok (.aload_n 0, 1) := by decide +kernel
theorem dX10_reach_37 : decode cX10_reach 37 = .ok (.getfield 73, 3) := by decide +kernel
theorem dX10_reach_40 : decode cX10_reach 40 = .ok (.iload_n 1, 1) := by decide +kernel
theorem dX10_reach_41 : decode cX10_reach 41 = .ok (.iload_n 2, 1) := by decide +kernel
theorem dX10_reach_42 : decode cX10_reach 42 = .ok (.invokevirtual 265, 3) := by decide +kernel
theorem dX10_reach_45 : decode cX10_reach 45 = .ok (.aload_n 0, 1) := by decide +kernel
theorem dX10_reach_46 : decode cX10_reach 46 = .ok (.getfield 73, 3) := by decide +kernel
theorem dX10_reach_49 : decode cX10_reach 49 = .ok (.iload_n 3, 1) := by decide +kernel
theorem dX10_reach_50 : decode cX10_reach 50 = .ok (.invokevirtual 274, 3) := by decide +kernel
theorem dX10_reach_53 : decode cX10_reach 53 = .ok (.ireturn, 1) := by decide +kernel
theorem gX10_farthest_X2_hasSheet : GoodIn wsX10_farthest (wsV RX10 156 RX2 yX2_hasSheet wsX2_hasSheet) := gw_c t_w337 (gw_c t_w336 (gw_c t_w335 (gw_c t_w1 (gw_c t_w334 (gw_t)))))
theorem gX10_farthest_X10_isFrom : GoodIn wsX10_farthest (va_wsS RX10 105 yX10_isFrom wsX10_isFrom) := gw_c t_w319 (gw_c t_w318 (gw_c t_w317 (gw_c t_w316 (gw_t))))
theorem gX10_farthest_X9_spread : GoodIn wsX10_farthest (wsV RX10 265 RX9 yX9_spread wsX9_spread) := gw_c t_w390 (gw_c t_w389 (gw_c t_w388 (gw_c t_w277 (gw_c t_w387 (gw_t)))))
theorem gX10_farthest_X9_farthestKey : GoodIn wsX10_farthest (wsV RX10 277 RX9 yX9_farthestKey wsX9_farthestKey) := gw_c t_w406 (gw_c t_w405 (gw_c t_w404 (gw_c t_w277 (gw_c t_w403 (gw_t)))))
theorem gX10_farthest_X9_stepsTo : GoodIn wsX10_farthest (wsV RX10 268 RX9 yX9_stepsTo wsX9_stepsTo) := gw_c t_w394 (gw_c t_w393 (gw_c t_w392 (gw_c t_w277 (gw_c t_w391 (gw_t)))))
theorem dX10_farthest_0 : decode cX10_farthest 0 = .ok (.aload_n 0, 1) := by decide +kernel
theorem dX10_farthest_1 : decode cX10_farthest 1 = .ok (.getfield 20, 3) := by decide +kernel
theorem dX10_farthest_4 : decode cX10_farthest 4 = .ok (.iload_n 1, 1) := by decide +kernel
theorem dX10_farthest_5 : decode cX10_farthest 5 = .ok (.iload_n 2, 1) := by decide +kernel
theorem dX10_farthest_6 : decode cX10_farthest 6 = .ok (.invokevirtual 156, 3) := by decide +kernel
theorem dX10_farthest_9 : decode cX10_farthest 9 = .ok (.ifCond .eq 12, 3) := by decide +kernel
theorem dX10_farthest_12 : decode cX10_farthest 12 = .ok (.iload_n 3, 1) := by decide +kernel
theorem dX10_farthest_13 : decode cX10_farthest 13 = .ok (.iconst 0, 1) := by decide +kernel
theorem dX10_farthest_14 : decode cX10_farthest 14 = .ok (.iconst 1, 1) := by decide +kernel
theorem dX10_farthest_15 : decode cX10_farthest 15 = .ok (.invokestatic 105, 3) := by decide +kernel
theorem dX10_farthest_18 : decode cX10_farthest 18 = .ok (.ifCond .ne 5, 3) := by decide +kernel
theorem dX10_farthest_21 : decode cX10_farthest 21 = .ok (.iconst (-1), 1) := by decide +kernel
theorem dX10_farthest_22 : decode cX10_farthest 22 = .ok (.ireturn, 1) := by decide +kernel
theorem dX10_farthest_23 : decode cX10_farthest 23 = .ok (.aload_n 0, 1) := by decide +kernel
theorem dX10_farthest_24 : decode cX10_farthest 24 = .ok (.getfield 20, 3) := by decide +kernel
theorem dX10_farthest_27 : decode cX10_farthest 27 = .ok (.getfield 126, 3) := by decide +kernel
theorem dX10_farthest_30 : decode cX10_farthest 30 = .ok (.iload_n 1, 1) := by decide +kernel
theorem dX10_farthest_31 : decode cX10_farthest 31 = .ok (.iaload, 1) := by decide +kernel
theorem dX10_farthest_32 : decode cX10_farthest 32 = .ok (.sipush 20000, 3) := by decide +kernel
theorem dX10_farthest_35 : decode cX10_farthest 35 = .ok (.if_icmp .le 6, 3) := by decide +kernel
theorem dX10_farthest_38 : decode cX10_farthest 38 = .ok (.bipush (-3), 2) := by decide +kernel
theorem dX10_farthest_40 : decode cX10_farthest 40 = .ok (.ireturn, 1) := by decide +kernel
theorem dX10_farthest_41 : decode cX10_farthest 41 = .ok (.aload_n 0, 1) := by decide +kernel
theorem dX10_farthest_42 : decode cX10_farthest 42 = .ok (.getfield 73, 3) := by decide +kernel
theorem dX10_farthest_45 : decode cX10_farthest 45 = .ok (.iload_n 1, 1) := by decide +kernel
theorem dX10_farthest_46 : decode cX10_farthest 46 = .ok (.iload_n 2, 1) := by decide +kernel
theorem dX10_farthest_47 : decode cX10_farthest 47 = .ok (.invokevirtual 265, 3) := by decide +kernel
theorem dX10_farthest_50 : decode cX10_farthest 50 = .ok (.aload_n 0, 1) := by decide +kernel
theorem dX10_farthest_51 : decode cX10_farthest 51 = .ok (.getfield 73, 3) := by decide +kernel
theorem dX10_farthest_54 : decode cX10_farthest 54 = .ok (.invokevirtual 277, 3) := by decide +kernel
theorem dX10_farthest_57 : decode cX10_farthest 57 = .ok (.istore 4, 2) := by decide +kernel
theorem dX10_farthest_59 : decode cX10_farthest 59 = .ok (.iload_n 3, 1) := by decide +kernel
theorem dX10_farthest_60 : decode cX10_farthest 60 = .ok (.ifCond .ne 15, 3) := by decide +kernel
theorem dX10_farthest_63 : decode cX10_farthest 63 = .ok (.aload_n 0, 1) := by decide +kernel
theorem dX10_farthest_64 : decode cX10_farthest 64 = .ok (.getfield 73, 3) := by decide +kernel
theorem dX10_farthest_67 : decode cX10_farthest 67 = .ok (.iload 4, 2) := by decide +kernel
theorem dX10_farthest_69 : decode cX10_farthest 69 = .ok (.invokevirtual 268, 3) := by decide +kernel
theorem dX10_farthest_72 : decode cX10_farthest 72 = .ok (.goto 5, 3) := by decide +kernel
theorem dX10_farthest_75 : decode cX10_farthest 75 = .ok (.iload 4, 2) := by decide +kernel
theorem dX10_farthest_77 : decode cX10_farthest 77 = .ok (.ireturn, 1) := by decide +kernel
theorem gX10_corners_X2_hasSheet : GoodIn wsX10_corners (wsV RX10 156 RX2 yX2_hasSheet wsX2_hasSheet) := gw_c t_w337 (gw_c t_w336 (gw_c t_w335 (gw_c t_w1 (gw_c t_w334 (gw_t)))))
theorem gX10_corners_X6_put : GoodIn wsX10_corners (wsV RX10 159 RX6 yX6_put wsX6_put) := gw_c t_w338 (gw_c t_w283 (gw_c t_w282 (gw_c t_w135 (gw_c t_w281 (gw_t)))))
theorem gX10_corners_X6_lookAtCorners : GoodIn wsX10_corners (wsV RX10 280 RX6 yX6_lookAtCorners wsX6_lookAtCorners) := gw_c t_w410 (gw_c t_w409 (gw_c t_w408 (gw_c t_w135 (gw_c t_w407 (gw_t)))))
theorem dX10_corners_0 : decode cX10_corners 0 = .ok (.aload_n 0, 1) := by decide +kernel
theorem dX10_corners_1 : decode cX10_corners 1 = .ok (.getfield 20, 3) := by decide +kernel
theorem dX10_corners_4 : decode cX10_corners 4 = .ok (.iload_n 1, 1) := by decide +kernel
theorem dX10_corners_5 : decode cX10_corners 5 = .ok (.iload_n 2, 1) := by decide +kernel
theorem dX10_corners_6 : decode cX10_corners 6 = .ok (.invokevirtual 156, 3) := by decide +kernel
theorem dX10_corners_9 : decode cX10_corners 9 = .ok (.ifCond .eq 8, 3) := by decide +kernel
theorem dX10_corners_12 : decode cX10_corners 12 = .ok (.iload_n 3, 1) := by decide +kernel
theorem dX10_corners_13 : decode cX10_corners 13 = .ok (.iconst (-1), 1) := by decide +kernel
theorem dX10_corners_14 : decode cX10_corners 14 = .ok (.if_icmp .ge 5, 3) := by decide +kernel
theorem dX10_corners_17 : decode cX10_corners 17 = .ok (.iconst (-1), 1) := by decide +kernel
theorem dX10_corners_18 : decode cX10_corners 18 = .ok (.ireturn, 1) := by decide +kernel
theorem dX10_corners_19 : decode cX10_corners 19 = .ok (.aload_n 0, 1) := by decide +kernel
theorem dX10_corners_20 : decode cX10_corners 20 = .ok (.getfield 66, 3) := by decide +kernel
theorem dX10_corners_23 : decode cX10_corners 23 = .ok (.iload_n 1, 1) := by decide +kernel
theorem dX10_corners_24 : decode cX10_corners 24 = .ok (.iload_n 2, 1) := by decide +kernel
theorem dX10_corners_25 : decode cX10_corners 25 = .ok (.invokevirtual 159, 3) := by decide +kernel
theorem dX10_corners_28 : decode cX10_corners 28 = .ok (.aload_n 0, 1) := by decide +kernel
theorem dX10_corners_29 : decode cX10_corners 29 = .ok (.getfield 66, 3) := by decide +kernel
theorem dX10_corners_32 : decode cX10_corners 32 = .ok (.invokevirtual 280, 3) := by decide +kernel
theorem dX10_corners_35 : decode cX10_corners 35 = .ok (.iload_n 3, 1) := by decide +kernel
theorem dX10_corners_36 : decode cX10_corners 36 = .ok (.iconst (-1), 1) := by decide +kernel
theorem dX10_corners_37 : decode cX10_corners 37 = .ok (.if_icmp .ne 11, 3) := by decide +kernel
theorem dX10_corners_40 : decode cX10_corners 40 = .ok (.aload_n 0, 1) := by decide +kernel
theorem dX10_corners_41 : decode cX10_corners 41 = .ok (.getfield 66, 3) := by decide +kernel
theorem dX10_corners_44 : decode cX10_corners 44 = .ok (.getfield 283, 3) := by decide +kernel
theorem dX10_corners_47 : decode cX10_corners 47 = .ok (.ireturn, 1) := by decide +kernel
theorem dX10_corners_48 : decode cX10_corners 48 = .ok (.iload_n 3, 1) := by decide +kernel
theorem dX10_corners_49 : decode cX10_corners 49 = .ok (.aload_n 0, 1) := by decide +kernel
theorem dX10_corners_50 : decode cX10_corners 50 = .ok (.getfield 66, 3) := by decide +kernel
theorem dX10_corners_53 : decode cX10_corners 53 = .ok (.getfield 283, 3) := by decide +kernel
theorem dX10_corners_56 : decode cX10_corners 56 = .ok (.if_icmp .ge 15, 3) := by decide +kernel
theorem dX10_corners_59 : decode cX10_corners 59 = .ok (.aload_n 0, 1) := by decide +kernel
theorem dX10_corners_60 : decode cX10_corners 60 = .ok (.getfield 66, 3) := by decide +kernel
theorem dX10_corners_63 : decode cX10_corners 63 = .ok (.getfield 286, 3) := by decide +kernel
theorem dX10_corners_66 : decode cX10_corners 66 = .ok (.iload_n 3, 1) := by decide +kernel
theorem dX10_corners_67 : decode cX10_corners 67 = .ok (.iaload, 1) := by decide +kernel
theorem dX10_corners_68 : decode cX10_corners 68 = .ok (.goto 5, 3) := by decide +kernel
theorem dX10_corners_71 : decode cX10_corners 71 = .ok (.bipush (-2), 2) := by decide +kernel
theorem dX10_corners_73 : decode cX10_corners 73 = .ok (.ireturn, 1) := by decide +kernel
theorem gX10_jog_X2_hasSheet : GoodIn wsX10_jog (wsV RX10 156 RX2 yX2_hasSheet wsX2_hasSheet) := gw_c t_w337 (gw_c t_w336 (gw_c t_w335 (gw_c t_w1 (gw_c t_w334 (gw_t)))))
theorem gX10_jog_X6_put : GoodIn wsX10_jog (wsV RX10 159 RX6 yX6_put wsX6_put) := gw_c t_w338 (gw_c t_w283 (gw_c t_w282 (gw_c t_w135 (gw_c t_w281 (gw_t)))))
theorem gX10_jog_X10_isFrom : GoodIn wsX10_jog (va_wsS RX10 105 yX10_isFrom wsX10_isFrom) := gw_c t_w319 (gw_c t_w318 (gw_c t_w317 (gw_c t_w316 (gw_t))))
theorem gX10_jog_X2_rowLength : GoodIn wsX10_jog (wsV RX10 231 RX2 yX2_rowLength wsX2_rowLength) := gw_c t_w369 (gw_c t_w20 (gw_c t_w19 (gw_c t_w1 (gw_c t_w18 (gw_t)))))
theorem dX10_jog_0 : decode cX10_jog 0 = .ok (.aload_n 0, 1) := by decide +kernel
theorem dX10_jog_1 : decode cX10_jog 1 = .ok (.getfield 20, 3) := by decide +kernel
theorem dX10_jog_4 : decode cX10_jog 4 = .ok (.iload_n 1, 1) := by decide +kernel
theorem dX10_jog_5 : decode cX10_jog 5 = .ok (.iload_n 2, 1) := by decide +kernel
theorem dX10_jog_6 : decode cX10_jog 6 = .ok (.invokevirtual 156, 3) := by decide +kernel
theorem dX10_jog_9 : decode cX10_jog 9 = .ok (.ifCond .eq 12, 3) := by decide +kernel
theorem dX10_jog_12 : decode cX10_jog 12 = .ok (.iload_n 3, 1) := by decide +kernel
theorem dX10_jog_13 : decode cX10_jog 13 = .ok (.ifCond .eq 10, 3) := by decide +kernel
theorem dX10_jog_16 : decode cX10_jog 16 = .ok (.iload_n 3, 1) := by decide +kernel
theorem dX10_jog_17 : decode cX10_jog 17 = .ok (.iconst 2, 1) := by decide +kernel
theorem dX10_jog_18 : decode cX10_jog 18 = .ok (.if_icmp .eq 5, 3) := by decide +kernel
theorem dX10_jog_21 : decode cX10_jog 21 = .ok (.iconst (-1), 1) := by decide +kernel
theorem dX10_jog_22 : decode cX10_jog 22 = .ok (.ireturn, 1) := by decide +kernel
theorem dX10_jog_23 : decode cX10_jog 23 = .ok (.aload_n 0, 1) := by decide +kernel
theorem dX10_jog_24 : decode cX10_jog 24 = .ok (.getfield 66, 3) := by decide +kernel
theorem dX10_jog_27 : decode cX10_jog 27 = .ok (.iload_n 1, 1) := by decide +kernel
theorem dX10_jog_28 : decode cX10_jog 28 = .ok (.iload_n 2, 1) := by decide +kernel
theorem dX10_jog_29 : decode cX10_jog 29 = .ok (.invokevirtual 159, 3) := by decide +kernel
theorem dX10_jog_32 : decode cX10_jog 32 = .ok (.iload_n 3, 1) := by decide +kernel
theorem dX10_jog_33 : decode cX10_jog 33 = .ok (.ifCond .ne 15, 3) := by decide +kernel
theorem dX10_jog_36 : decode cX10_jog 36 = .ok (.aload_n 0, 1) := by decide +kernel
theorem dX10_jog_37 : decode cX10_jog 37 = .ok (.getfield 66, 3) := by decide +kernel
theorem dX10_jog_40 : decode cX10_jog 40 = .ok (.getfield 214, 3) := by decide +kernel
theorem dX10_jog_43 : decode cX10_jog 43 = .ok (.iconst 1, 1) := by decide +kernel
theorem dX10_jog_44 : decode cX10_jog 44 = .ok (.isub, 1) := by decide +kernel
theorem dX10_jog_45 : decode cX10_jog 45 = .ok (.goto 12, 3) := by decide +kernel
theorem dX10_jog_48 : decode cX10_jog 48 = .ok (.aload_n 0, 1) := by decide +kernel
theorem dX10_jog_49 : decode cX10_jog 49 = .ok (.getfield 66, 3) := by decide +kernel
theorem dX10_jog_52 : decode cX10_jog 52 = .ok (.getfield 214, 3) := by decide +kernel
theorem dX10_jog_55 : decode cX10_jog 55 = .ok (.iconst 1, 1) := by decide +kernel
theorem dX10_jog_56 : decode cX10_jog 56 = .ok (.iadd, 1) := by decide +kernel
theorem dX10_jog_57 : decode cX10_jog 57 = .ok (.istore 4, 2) := by decide +kernel
theorem dX10_jog_59 : decode cX10_jog 59 = .ok (.iload 4, 2) := by decide +kernel
theorem dX10_jog_61 : decode cX10_jog 61 = .ok (.iconst 0, 1) := by decide +kernel
theorem dX10_jog_62 : decode cX10_jog 62 = .ok (.aload_n 0, 1) := by decide +kernel
theorem dX10_jog_63 : decode cX10_jog 63 = .ok (.getfield 20, 3) := by decide +kernel
theorem dX10_jog_66 : decode cX10_jog 66 = .ok (.getfield 133, 3) := by decide +kernel
theorem dX10_jog_69 : decode cX10_jog 69 = .ok (.iload_n 1, 1) := by decide +kernel
theorem dX10_jog_70 : decode cX10_jog 70 = .ok (.iaload, 1) := by decide +kernel
theorem dX10_jog_71 : decode cX10_jog 71 = .ok (.iconst 1, 1) := by decide +kernel
theorem dX10_jog_72 : decode cX10_jog 72 = .ok (.isub, 1) := by decide +kernel
theorem dX10_jog_73 : decode cX10_jog 73 = .ok (.invokestatic 105, 3) := by decide +kernel
theorem dX10_jog_76 : decode cX10_jog 76 = .ok (.ifCond .ne 5, 3) := by decide +kernel
theorem dX10_jog_79 : decode cX10_jog 79 = .ok (.iconst 0, 1) := by decide +kernel
theorem dX10_jog_80 : decode cX10_jog 80 = .ok (.ireturn, 1) := by decide +kernel
theorem dX10_jog_81 : decode cX10_jog 81 = .ok (.aload_n 0, 1) := by decide +kernel
theorem dX10_jog_82 : decode cX10_jog 82 = .ok (.getfield 20, 3) := by decide +kernel
theorem dX10_jog_85 : decode cX10_jog 85 = .ok (.iload_n 1, 1) := by decide +kernel
theorem dX10_jog_86 : decode cX10_jog 86 = .ok (.iload 4, 2) := by decide +kernel
theorem dX10_jog_88 : decode cX10_jog 88 = .ok (.invokevirtual 231, 3) := by decide +kernel
theorem dX10_jog_91 : decode cX10_jog 91 = .ok (.aload_n 0, 1) := by decide +kernel
theorem dX10_jog_92 : decode cX10_jog 92 = .ok (.getfield 66, 3) := by decide +kernel
theorem dX10_jog_95 : decode cX10_jog 95 = .ok (.getfield 220, 3) := by decide +kernel
theorem dX10_jog_98 : decode cX10_jog 98 = .ok (.if_icmp .eq 7, 3) := by decide +kernel
theorem dX10_jog_101 : decode cX10_jog 101 = .ok (.iconst 1, 1) := by decide +kernel
theorem dX10_jog_102 : decode cX10_jog 102 = .ok (.goto 4, 3) := by decide +kernel
theorem dX10_jog_105 : decode cX10_jog 105 = .ok (.iconst 0, 1) := by decide +kernel
theorem dX10_jog_106 : decode cX10_jog 106 = .ok (.ireturn, 1) := by decide +kernel
theorem gX10_box_X10_isBox : GoodIn wsX10_box (va_wsS RX10 289 yX10_isBox wsX10_isBox) := gw_c t_w413 (gw_c t_w412 (gw_c t_w317 (gw_c t_w411 (gw_t))))
theorem gX10_box_X10_isLevel : GoodIn wsX10_box (va_wsS RX10 129 yX10_isLevel wsX10_isLevel) := gw_c t_w329 (gw_c t_w328 (gw_c t_w317 (gw_c t_w83 (gw_t))))
theorem gX10_box_X1_set : GoodIn wsX10_box (wsV RX10 293 RX1 yX1_set wsX1_set) := gw_c t_w417 (gw_c t_w416 (gw_c t_w415 (gw_c t_w27 (gw_c t_w414 (gw_t)))))
theorem gX10_box_X1_sheetsAt : GoodIn wsX10_box (wsV RX10 297 RX1 yX1_sheetsAt wsX1_sheetsAt) := gw_c t_w421 (gw_c t_w420 (gw_c t_w419 (gw_c t_w27 (gw_c t_w418 (gw_t)))))
theorem gX10_box_X1_sheetAt : GoodIn wsX10_box (wsV RX10 300 RX1 yX1_sheetAt wsX1_sheetAt) := gw_c t_w425 (gw_c t_w424 (gw_c t_w423 (gw_c t_w27 (gw_c t_w422 (gw_t)))))
theorem dX10_box_0 : decode cX10_box 0 = .ok (.iload_n 1, 1) := by decide +kernel
theorem dX10_box_1 : decode cX10_box 1 = .ok (.iload_n 2, 1) := by decide +kernel
theorem dX10_box_2 : decode cX10_box 2 = .ok (.iload_n 3, 1) := by decide +kernel
theorem dX10_box_3 : decode cX10_box 3 = .ok (.iload 4, 2) := by decide +kernel
theorem dX10_box_5 : decode cX10_box 5 = .ok (.invokestatic 289, 3) := by decide +kernel
theorem dX10_box_8 : decode cX10_box 8 = .ok (.ifCond .eq 17, 3) := by decide +kernel
theorem dX10_box_11 : decode cX10_box 11 = .ok (.iload 5, 2) := by decide +kernel
theorem dX10_box_13 : decode cX10_box 13 = .ok (.invokestatic 129, 3) := by decide +kernel
theorem dX10_box_16 : decode cX10_box 16 = .ok (.ifCond .eq 9, 3) := by decide +kernel
theorem dX10_box_19 : decode cX10_box 19 = .ok (.iload 6, 2) := by decide +kernel
theorem dX10_box_21 : decode cX10_box 21 = .ok (.iconst (-1), 1) := by decide +kernel
theorem dX10_box_22 : decode cX10_box 22 = .ok (.if_icmp .ge 5, 3) := by decide +kernel
theorem dX10_box_25 : decode cX10_box 25 = .ok (.iconst (-1), 1) := by decide +kernel
theorem dX10_box_26 : decode cX10_box 26 = .ok (.ireturn, 1) := by decide +kernel
theorem dX10_box_27 : decode cX10_box 27 = .ok (.aload_n 0, 1) := by decide +kernel
theorem dX10_box_28 : decode cX10_box 28 = .ok (.getfield 80, 3) := by decide +kernel
theorem dX10_box_31 : decode cX10_box 31 = .ok (.iload_n 1, 1) := by decide +kernel
theorem dX10_box_32 : decode cX10_box 32 = .ok (.iload_n 2, 1) := by decide +kernel
theorem dX10_box_33 : decode cX10_box 33 = .ok (.iload_n 3, 1) := by decide +kernel
theorem dX10_box_34 : decode cX10_box 34 = .ok (.iload 4, 2) := by decide +kernel
theorem dX10_box_36 : decode cX10_box 36 = .ok (.invokevirtual 293, 3) := by decide +kernel
theorem dX10_box_39 : decode cX10_box 39 = .ok (.aload_n 0, 1) := by decide +kernel
theorem dX10_box_40 : decode cX10_box 40 = .ok (.getfield 80, 3) := by decide +kernel
theorem dX10_box_43 : decode cX10_box 43 = .ok (.iload 5, 2) := by decide +kernel
theorem dX10_box_45 : decode cX10_box 45 = .ok (.invokevirtual 297, 3) := by decide +kernel
theorem dX10_box_48 : decode cX10_box 48 = .ok (.istore 7, 2) := by decide +kernel
theorem dX10_box_50 : decode cX10_box 50 = .ok (.iload 6, 2) := by decide +kernel
theorem dX10_box_52 : decode cX10_box 52 = .ok (.iconst (-1), 1) := by decide +kernel
theorem dX10_box_53 : decode cX10_box 53 = .ok (.if_icmp .ne 6, 3) := by decide +kernel
theorem dX10_box_56 : decode cX10_box 56 = .ok (.iload 7, 2) := by decide +kernel
theorem dX10_box_58 : decode cX10_box 58 = .ok (.ireturn, 1) := by decide +kernel
theorem dX10_box_59 : decode cX10_box 59 = .ok (.iload 6, 2) := by decide +kernel
theorem dX10_box_61 : decode cX10_box 61 = .ok (.iload 7, 2) := by decide +kernel
theorem dX10_box_63 : decode cX10_box 63 = .ok (.if_icmp .ge 17, 3) := by decide +kernel
theorem dX10_box_66 : decode cX10_box 66 = .ok (.aload_n 0, 1) := by decide +kernel
theorem dX10_box_67 : decode cX10_box 67 = .ok (.getfield 80, 3) := by decide +kernel
theorem dX10_box_70 : decode cX10_box 70 = .ok (.iload 5, 2) := by decide +kernel
theorem dX10_box_72 : decode cX10_box 72 = .ok (.iload 6, 2) := by decide +kernel
theorem dX10_box_74 : decode cX10_box 74 = .ok (.invokevirtual 300, 3) := by decide +kernel
theorem dX10_box_77 : decode cX10_box 77 = .ok (.goto 5, 3) := by decide +kernel
theorem dX10_box_80 : decode cX10_box 80 = .ok (.bipush (-2), 2) := by decide +kernel
theorem dX10_box_82 : decode cX10_box 82 = .ok (.ireturn, 1) := by decide +kernel
theorem gX10_cover_X10_isBox : GoodIn wsX10_cover (va_wsS RX10 289 yX10_isBox wsX10_isBox) := gw_c t_w413 (gw_c t_w412 (gw_c t_w317 (gw_c t_w411 (gw_t))))
theorem gX10_cover_X10_isLevel : GoodIn wsX10_cover (va_wsS RX10 129 yX10_isLevel wsX10_isLevel) := gw_c t_w329 (gw_c t_w328 (gw_c t_w317 (gw_c t_w83 (gw_t))))
theorem gX10_cover_X1_set : GoodIn wsX10_cover (wsV RX10 293 RX1 yX1_set wsX1_set) := gw_c t_w417 (gw_c t_w416 (gw_c t_w415 (gw_c t_w27 (gw_c t_w414 (gw_t)))))
theorem gX10_cover_X1_sheetsAt : GoodIn wsX10_cover (wsV RX10 297 RX1 yX1_sheetsAt wsX1_sheetsAt) := gw_c t_w421 (gw_c t_w420 (gw_c t_w419 (gw_c t_w27 (gw_c t_w418 (gw_t)))))
theorem gX10_cover_X1_coverAt : GoodIn wsX10_cover (wsV RX10 303 RX1 yX1_coverAt wsX1_coverAt) := gw_c t_w429 (gw_c t_w428 (gw_c t_w427 (gw_c t_w27 (gw_c t_w426 (gw_t)))))
theorem gX10_cover_X1_coverSheet : GoodIn wsX10_cover (wsV RX10 307 RX1 yX1_coverSheet wsX1_coverSheet) := gw_c t_w433 (gw_c t_w432 (gw_c t_w431 (gw_c t_w27 (gw_c t_w430 (gw_t)))))
theorem dX10_cover_0 : decode cX10_cover 0 = .ok (.iload_n 1, 1) := by decide +kernel
theorem dX10_cover_1 : decode cX10_cover 1 = .ok (.iload_n 2, 1) := by decide +kernel
theorem dX10_cover_2 : decode cX10_cover 2 = .ok (.iload_n 3, 1) := by decide +kernel
theorem dX10_cover_3 : decode cX10_cover 3 = .ok (.iload 4, 2) := by decide +kernel
theorem dX10_cover_5 : decode cX10_cover 5 = .ok (.invokestatic 289, 3) := by decide +kernel
theorem dX10_cover_8 : decode cX10_cover 8 = .ok (.ifCond .eq 17, 3) := by decide +kernel
theorem dX10_cover_11 : decode cX10_cover 11 = .ok (.iload 5, 2) := by decide +kernel
theorem dX10_cover_13 : decode cX10_cover 13 = .ok (.invokestatic 129, 3) := by decide +kernel
theorem dX10_cover_16 : decode cX10_cover 16 = .ok (.ifCond .eq 9, 3) := by decide +kernel
theorem dX10_cover_19 : decode cX10_cover 19 = .ok (.iload 6, 2) := by decide +kernel
theorem dX10_cover_21 : decode cX10_cover 21 = .ok (.iconst (-1), 1) := by decide +kernel
theorem dX10_cover_22 : decode cX10_cover 22 = .ok (.if_icmp .ge 5, 3) := by decide +kernel
theorem dX10_cover_25 : decode cX10_cover 25 = .ok (.iconst (-1), 1) := by decide +kernel
theorem dX10_cover_26 : decode cX10_cover 26 = .ok (.ireturn, 1) := by decide +kernel
theorem dX10_cover_27 : decode cX10_cover 27 = .ok (.aload_n 0, 1) := by decide +kernel
theorem dX10_cover_28 : decode cX10_cover 28 = .ok (.getfield 80, 3) := by decide +kernel
theorem dX10_cover_31 : decode cX10_cover 31 = .ok (.iload_n 1, 1) := by decide +kernel
theorem dX10_cover_32 : decode cX10_cover 32 = .ok (.iload_n 2, 1) := by decide +kernel
theorem dX10_cover_33 : decode cX10_cover 33 = .ok (.iload_n 3, 1) := by decide +kernel
theorem dX10_cover_34 : decode cX10_cover 34 = .ok (.iload 4, 2) := by decide +kernel
theorem dX10_cover_36 : decode cX10_cover 36 = .ok (.invokevirtual 293, 3) := by decide +kernel
theorem dX10_cover_39 : decode cX10_cover 39 = .ok (.aload_n 0, 1) := by decide +kernel
theorem dX10_cover_40 : decode cX10_cover 40 = .ok (.getfield 80, 3) := by decide +kernel
theorem dX10_cover_43 : decode cX10_cover 43 = .ok (.iload 5, 2) := by decide +kernel
theorem dX10_cover_45 : decode cX10_cover 45 = .ok (.invokevirtual 297, 3) := by decide +kernel
theorem dX10_cover_48 : decode cX10_cover 48 = .ok (.sipush 4000, 3) := by decide +kernel
theorem dX10_cover_51 : decode cX10_cover 51 = .ok (.if_icmp .le 6, 3) := by decide +kernel
theorem dX10_cover_54 : decode cX10_cover 54 = .ok (.bipush (-2), 2) := by decide +kernel
theorem dX10_cover_56 : decode cX10_cover 56 = .ok (.ireturn, 1) := by decide +kernel
theorem dX10_cover_57 : decode cX10_cover 57 = .ok (.iconst 0, 1) := by decide +kernel
theorem dX10_cover_58 : decode cX10_cover 58 = .ok (.istore 7, 2) := by decide +kernel
theorem dX10_cover_60 : decode cX10_cover 60 = .ok (.iconst 0, 1) := by decide +kernel
theorem dX10_cover_61 : decode cX10_cover 61 = .ok (.istore 8, 2) := by decide +kernel
theorem dX10_cover_63 : decode cX10_cover 63 = .ok (.iload 8, 2) := by decide +kernel
theorem dX10_cover_65 : decode cX10_cover 65 = .ok (.iload 5, 2) := by decide +kernel
theorem dX10_cover_67 : decode cX10_cover 67 = .ok (.if_icmp .gt 68, 3) := by decide +kernel
theorem dX10_cover_70 : decode cX10_cover 70 = .ok (.aload_n 0, 1) := by decide +kernel
theorem dX10_cover_71 : decode cX10_cover 71 = .ok (.getfield 80, 3) := by decide +kernel
theorem dX10_cover_74 : decode cX10_cover 74 = .ok (.iload 8, 2) := by decide +kernel
theorem dX10_cover_76 : decode cX10_cover 76 = .ok (.iload 5, 2) := by decide +kernel
theorem dX10_cover_78 : decode cX10_cover 78 = .ok (.invokevirtual 303, 3) := by decide +kernel
theorem dX10_cover_81 : decode cX10_cover 81 = .ok (.istore 9, 2) := by decide +kernel
theorem dX10_cover_83 : decode cX10_cover 83 = .ok (.iload 6, 2) := by decide +kernel
theorem dX10_cover_85 : decode cX10_cover 85 = .ok (.ifCond .lt 37, 3) := by decide +kernel
theorem dX10_cover_88 : decode cX10_cover 88 = .ok (.iload 6, 2) := by decide +kernel
theorem dX10_cover_90 : decode cX10_cover 90 = .ok (.iload 7, 2) := by decide +kernel
theorem dX10_cover_92 : decode cX10_cover 92 = .ok (.isub, 1) := by decide +kernel
theorem dX10_cover_93 : decode cX10_cover 93 = .ok (.iload 9, 2) := by decide +kernel
theorem dX10_cover_95 : decode cX10_cover 95 = .ok (.if_icmp .ge 27, 3) := by decide +kernel
theorem dX10_cover_98 : decode cX10_cover 98 = .ok (.iload 8, 2) := by decide +kernel
theorem dX10_cover_100 : decode cX10_cover 100 = .ok (.ldc_w 306, 3) := by decide +kernel
theorem dX10_cover_103 : decode cX10_cover 103 = .ok (.imul, 1) := by decide +kernel
theorem dX10_cover_104 : decode cX10_cover 104 = .ok (.aload_n 0, 1) := by decide +kernel
theorem dX10_cover_105 : decode cX10_cover 105 = .ok (.getfield 80, 3) := by decide +kernel
theorem dX10_cover_108 : decode cX10_cover 108 = .ok (.iload 8, 2) := by decide +kernel
theorem dX10_cover_110 : decode cX10_cover 110 = .ok (.iload 5, 2) := by decide +kernel
theorem dX10_cover_112 : decode cX10_cover 112 = .ok (.iload 6, 2) := by decide +kernel
theorem dX10_cover_114 : decode cX10_cover 114 = .ok (.iload 7, 2) := by decide +kernel
theorem dX10_cover_116 : decode cX10_cover 116 = .ok (.isub, 1) := by decide +kernel
theorem dX10_cover_117 : decode cX10_cover 117 = .ok (.invokevirtual 307, 3) := by decide +kernel
theorem dX10_cover_120 : decode cX10_cover 120 = .ok (.iadd, 1) := by decide +kernel
theorem dX10_cover_121 : decode cX10_cover 121 = .ok (.ireturn, 1) := by decide +kernel
theorem dX10_cover_122 : decode cX10_cover 122 = .ok (.iload 7, 2) := by decide +kernel
theorem dX10_cover_124 : decode cX10_cover 124 = .ok (.iload 9, 2) := by decide +kernel
theorem dX10_cover_126 : decode cX10_cover 126 = .ok (.iadd, 1) := by decide +kernel
theorem dX10_cover_127 : decode cX10_cover 127 = .ok (.istore 7, 2) := by decide +kernel
theorem dX10_cover_129 : decode cX10_cover 129 = .ok (.iinc 8 1, 3) := by decide +kernel
theorem dX10_cover_132 : decode cX10_cover 132 = .ok (.goto (-69), 3) := by decide +kernel
theorem dX10_cover_135 : decode cX10_cover 135 = .ok (.iload 6, 2) := by decide +kernel
theorem dX10_cover_137 : decode cX10_cover 137 = .ok (.iconst (-1), 1) := by decide +kernel
theorem dX10_cover_138 : decode cX10_cover 138 = .ok (.if_icmp .ne 8, 3) := by decide +kernel
theorem dX10_cover_141 : decode cX10_cover 141 = .ok (.iload 7, 2) := by decide +kernel
theorem dX10_cover_143 : decode cX10_cover 143 = .ok (.goto 5, 3) := by decide +kernel
theorem dX10_cover_146 : decode cX10_cover 146 = .ok (.bipush (-3), 2) := by decide +kernel
theorem dX10_cover_148 : decode cX10_cover 148 = .ok (.ireturn, 1) := by decide +kernel
theorem gX10_between_X10_areSheets : GoodIn wsX10_between (wsV RX10 262 RX10 yX10_areSheets wsX10_areSheets) := gw_c t_w386 (gw_c t_w385 (gw_c t_w384 (gw_c t_w317 (gw_c t_w383 (gw_t)))))
theorem gX10_between_X6_put : GoodIn wsX10_between (wsV RX10 159 RX6 yX6_put wsX6_put) := gw_c t_w338 (gw_c t_w283 (gw_c t_w282 (gw_c t_w135 (gw_c t_w281 (gw_t)))))
theorem gX10_between_X6_middleLat : GoodIn wsX10_between (wsV RX10 208 RX6 yX6_middleLat wsX6_middleLat) := gw_c t_w361 (gw_c t_w360 (gw_c t_w359 (gw_c t_w135 (gw_c t_w358 (gw_t)))))
theorem gX10_between_X6_middleLon : GoodIn wsX10_between (wsV RX10 211 RX6 yX6_middleLon wsX6_middleLon) := gw_c t_w365 (gw_c t_w364 (gw_c t_w363 (gw_c t_w135 (gw_c t_w362 (gw_t)))))
theorem gX10_between_X1_set : GoodIn wsX10_between (wsV RX10 293 RX1 yX1_set wsX1_set) := gw_c t_w417 (gw_c t_w416 (gw_c t_w415 (gw_c t_w27 (gw_c t_w414 (gw_t)))))
theorem gX10_between_X1_sheetsAt : GoodIn wsX10_between (wsV RX10 297 RX1 yX1_sheetsAt wsX1_sheetsAt) := gw_c t_w421 (gw_c t_w420 (gw_c t_w419 (gw_c t_w27 (gw_c t_w418 (gw_t)))))
theorem dX10_between_0 : decode cX10_between 0 = .ok (.aload_n 0, 1) := by decide +kernel
theorem dX10_between_1 : decode cX10_between 1 = .ok (.iload_n 1, 1) := by decide +kernel
theorem dX10_between_2 : decode cX10_between 2 = .ok (.iload_n 2, 1) := by decide +kernel
theorem dX10_between_3 : decode cX10_between 3 = .ok (.iload_n 3, 1) := by decide +kernel
theorem dX10_between_4 : decode cX10_between 4 = .ok (.invokevirtual 262, 3) := by decide +kernel
theorem dX10_between_7 : decode cX10_between 7 = .ok (.ifCond .ne 5, 3) := by decide +kernel
theorem dX10_between_10 : decode cX10_between 10 = .ok (.iconst (-1), 1) := by decide +kernel
theorem dX10_between_11 : decode cX10_between 11 = .ok (.ireturn, 1) := by decide +kernel
theorem dX10_between_12 : decode cX10_between 12 = .ok (.aload_n 0, 1) := by decide +kernel
theorem dX10_between_13 : decode cX10_between 13 = .ok (.getfield 66, 3) := by decide +kernel
theorem dX10_between_16 : decode cX10_between 16 = .ok (.iload_n 1, 1) := by decide +kernel
theorem dX10_between_17 : decode cX10_between 17 = .ok (.iload_n 2, 1) := by decide +kernel
theorem dX10_between_18 : decode cX10_between 18 = .ok (.invokevirtual 159, 3) := by decide +kernel
theorem dX10_between_21 : decode cX10_between 21 = .ok (.aload_n 0, 1) := by decide +kernel
theorem dX10_between_22 : decode cX10_between 22 = .ok (.getfield 66, 3) := by decide +kernel
theorem dX10_between_25 : decode cX10_between 25 = .ok (.invokevirtual 208, 3) := by decide +kernel
theorem dX10_between_28 : decode cX10_between 28 = .ok (.istore 4, 2) := by decide +kernel
theorem dX10_between_30 : decode cX10_between 30 = .ok (.aload_n 0, 1) := by decide +kernel
theorem dX10_between_31 : decode cX10_between 31 = .ok (.getfield 66, 3) := by decide +kernel
theorem dX10_between_34 : decode cX10_between 34 = .ok (.invokevirtual 211, 3) := by decide +kernel
theorem dX10_between_37 : decode cX10_between 37 = .ok (.istore 5, 2) := by decide +kernel
theorem dX10_between_39 : decode cX10_between 39 = .ok (.aload_n 0, 1) := by decide +kernel
theorem dX10_between_40 : decode cX10_between 40 = .ok (.getfield 66, 3) := by decide +kernel
theorem dX10_between_43 : decode cX10_between 43 = .ok (.iload_n 1, 1) := by decide +kernel
theorem dX10_between_44 : decode cX10_between 44 = .ok (.iload_n 3, 1) := by decide +kernel
theorem dX10_between_45 : decode cX10_between 45 = .ok (.invokevirtual 159, 3) := by decide +kernel
theorem dX10_between_48 : decode cX10_between 48 = .ok (.aload_n 0, 1) := by decide +kernel
theorem dX10_between_49 : decode cX10_between 49 = .ok (.getfield 66, 3) := by decide +kernel
theorem dX10_between_52 : decode cX10_between 52 = .ok (.invokevirtual 208, 3) := by decide +kernel
theorem dX10_between_55 : decode cX10_between 55 = .ok (.istore 6, 2) := by decide +kernel
theorem dX10_between_57 : decode cX10_between 57 = .ok (.aload_n 0, 1) := by decide +kernel
theorem dX10_between_58 : decode cX10_between 58 = .ok (.getfield 80, 3) := by decide +kernel
theorem dX10_between_61 : decode cX10_between 61 = .ok (.iload 4, 2) := by decide +kernel
theorem dX10_between_63 : decode cX10_between 63 = .ok (.iload 6, 2) := by decide +kernel
theorem dX10_between_65 : decode cX10_between 65 = .ok (.invokestatic 310, 3) := by decide +kernel
theorem dX10_between_68 : decode cX10_between 68 = .ok (.iload 4, 2) := by decide +kernel
theorem dX10_between_70 : decode cX10_between 70 = .ok (.iload 6, 2) := by decide +kernel
theorem dX10_between_72 : decode cX10_between 72 = .ok (.invokestatic 313, 3) := by decide +kernel
theorem dX10_between_75 : decode cX10_between 75 = .ok (.iload 5, 2) := by decide +kernel
theorem dX10_between_77 : decode cX10_between 77 = .ok (.aload_n 0, 1) := by decide +kernel
theorem dX10_between_78 : decode cX10_between 78 = .ok (.getfield 66, 3) := by decide +kernel
theorem dX10_between_81 : decode cX10_between 81 = .ok (.invokevirtual 211, 3) := by decide +kernel
theorem dX10_between_84 : decode cX10_between 84 = .ok (.invokevirtual 293, 3) := by decide +kernel
theorem dX10_between_87 : decode cX10_between 87 = .ok (.aload_n 0, 1) := by decide +kernel
theorem dX10_between_88 : decode cX10_between 88 = .ok (.getfield 80, 3) := by decide +kernel
theorem dX10_between_91 : decode cX10_between 91 = .ok (.iload_n 1, 1) := by decide +kernel
theorem dX10_between_92 : decode cX10_between 92 = .ok (.invokevirtual 297, 3) := by decide +kernel
theorem dX10_between_95 : decode cX10_between 95 = .ok (.ireturn, 1) := by decide +kernel
theorem gX10_wider_X10_areSheets : GoodIn wsX10_wider (wsV RX10 262 RX10 yX10_areSheets wsX10_areSheets) := gw_c t_w386 (gw_c t_w385 (gw_c t_w384 (gw_c t_w317 (gw_c t_w383 (gw_t)))))
theorem gX10_wider_X2_rowOfKey : GoodIn wsX10_wider (wsV RX10 316 RX2 yX2_rowOfKey wsX2_rowOfKey) := gw_c t_w434 (gw_c t_w96 (gw_c t_w95 (gw_c t_w1 (gw_c t_w94 (gw_t)))))
theorem gX10_wider_X2_rowLength : GoodIn wsX10_wider (wsV RX10 231 RX2 yX2_rowLength wsX2_rowLength) := gw_c t_w369 (gw_c t_w20 (gw_c t_w19 (gw_c t_w1 (gw_c t_w18 (gw_t)))))
theorem gX10_wider_J6_compare_7cf53 : GoodIn wsX10_wider (va_wsS RX10 319 yJ6_compare_7cf53 wsJ6_compare_7cf53) := gw_c t_w435 (gw_c t_w149 (gw_c t_w148 (gw_c t_w147 (gw_t))))
theorem dX10_wider_0 : decode cX10_wider 0 = .ok (.aload_n 0, 1) := by decide +kernel
theorem dX10_wider_1 : decode cX10_wider 1 = .ok (.iload_n 1, 1) := by decide +kernel
theorem dX10_wider_2 : decode cX10_wider 2 = .ok (.iload_n 2, 1) := by decide +kernel
theorem dX10_wider_3 : decode cX10_wider 3 = .ok (.iload_n 3, 1) := by decide +kernel
theorem dX10_wider_4 : decode cX10_wider 4 = .ok (.invokevirtual 262, 3) := by decide +kernel
theorem dX10_wider_7 : decode cX10_wider 7 = .ok (.ifCond .ne 6, 3) := by decide +kernel
theorem dX10_wider_10 : decode cX10_wider 10 = .ok (.ldc 207, 2) := by decide +kernel
theorem dX10_wider_12 : decode cX10_wider 12 = .ok (.ireturn, 1) := by decide +kernel
theorem dX10_wider_13 : decode cX10_wider 13 = .ok (.aload_n 0, 1) := by decide +kernel
theorem dX10_wider_14 : decode cX10_wider 14 = .ok (.getfield 20, 3) := by decide +kernel
theorem dX10_wider_17 : decode cX10_wider 17 = .ok (.iload_n 1, 1) := by decide +kernel
theorem dX10_wider_18 : decode cX10_wider 18 = .ok (.aload_n 0, 1) := by decide +kernel
theorem dX10_wider_19 : decode cX10_wider 19 = .ok (.getfield 20, 3) := by decide +kernel
theorem dX10_wider_22 : decode cX10_wider 22 = .ok (.iload_n 1, 1) := by decide +kernel
theorem dX10_wider_23 : decode cX10_wider 23 = .ok (.iload_n 2, 1) := by decide +kernel
theorem dX10_wider_24 : decode cX10_wider 24 = .ok (.invokevirtual 316, 3) := by decide +kernel
theorem dX10_wider_27 : decode cX10_wider 27 = .ok (.invokevirtual 231, 3) := by decide +kernel
theorem dX10_wider_30 : decode cX10_wider 30 = .ok (.istore 4, 2) := by decide +kernel
theorem dX10_wider_32 : decode cX10_wider 32 = .ok (.aload_n 0, 1) := by decide +kernel
theorem dX10_wider_33 : decode cX10_wider 33 = .ok (.getfield 20, 3) := by decide +kernel
theorem dX10_wider_36 : decode cX10_wider 36 = .ok (.iload_n 1, 1) := by decide +kernel
theorem dX10_wider_37 : decode cX10_wider 37 = .ok (.aload_n 0, 1) := by decide +kernel
theorem dX10_wider_38 : decode cX10_wider 38 = .ok (.getfield 20, 3) := by decide +kernel
theorem dX10_wider_41 : decode cX10_wider 41 = .ok (.iload_n 1, 1) := by decide +kernel
theorem dX10_wider_42 : decode cX10_wider 42 = .ok (.iload_n 3, 1) := by decide +kernel
theorem dX10_wider_43 : decode cX10_wider 43 = .ok (.invokevirtual 316, 3) := by decide +kernel
theorem dX10_wider_46 : decode cX10_wider 46 = .ok (.invokevirtual 231, 3) := by decide +kernel
theorem dX10_wider_49 : decode cX10_wider 49 = .ok (.istore 5, 2) := by decide +kernel
theorem dX10_wider_51 : decode cX10_wider 51 = .ok (.iload 5, 2) := by decide +kernel
theorem dX10_wider_53 : decode cX10_wider 53 = .ok (.iload 4, 2) := by decide +kernel
theorem dX10_wider_55 : decode cX10_wider 55 = .ok (.invokestatic 319, 3) := by decide +kernel
theorem dX10_wider_58 : decode cX10_wider 58 = .ok (.ireturn, 1) := by decide +kernel
theorem gX10_before_X10_areSheets : GoodIn wsX10_before (wsV RX10 262 RX10 yX10_areSheets wsX10_areSheets) := gw_c t_w386 (gw_c t_w385 (gw_c t_w384 (gw_c t_w317 (gw_c t_w383 (gw_t)))))
theorem gX10_before_X6_put : GoodIn wsX10_before (wsV RX10 159 RX6 yX6_put wsX6_put) := gw_c t_w338 (gw_c t_w283 (gw_c t_w282 (gw_c t_w135 (gw_c t_w281 (gw_t)))))
theorem gX10_before_X4_write : GoodIn wsX10_before (wsV RX10 163 RX4 yX4_write wsX4_write) := gw_c t_w342 (gw_c t_w341 (gw_c t_w340 (gw_c t_w130 (gw_c t_w339 (gw_t)))))
theorem gX10_before_X4_against : GoodIn wsX10_before (wsV RX10 324 RX4 yX4_against wsX4_against) := gw_c t_w439 (gw_c t_w438 (gw_c t_w437 (gw_c t_w130 (gw_c t_w436 (gw_t)))))
theorem dX10_before_0 : decode cX10_before 0 = .ok (.aload_n 0, 1) := by decide +kernel
theorem dX10_before_1 : decode cX10_before 1 = .ok (.iload_n 1, 1) := by decide +kernel
theorem dX10_before_2 : decode cX10_before 2 = .ok (.iload_n 2, 1) := by decide +kernel
theorem dX10_before_3 : decode cX10_before 3 = .ok (.iload_n 3, 1) := by decide +kernel
theorem dX10_before_4 : decode cX10_before 4 = .ok (.invokevirtual 262, 3) := by decide +kernel
theorem dX10_before_7 : decode cX10_before 7 = .ok (.ifCond .ne 6, 3) := by decide +kernel
theorem dX10_before_10 : decode cX10_before 10 = .ok (.ldc 207, 2) := by decide +kernel
theorem dX10_before_12 : decode cX10_before 12 = .ok (.ireturn, 1) := by decide +kernel
theorem dX10_before_13 : decode cX10_before 13 = .ok (.aload_n 0, 1) := by decide +kernel
theorem dX10_before_14 : decode cX10_before 14 = .ok (.getfield 66, 3) := by decide +kernel
theorem dX10_before_17 : decode cX10_before 17 = .ok (.iload_n 1, 1) := by decide +kernel
theorem dX10_before_18 : decode cX10_before 18 = .ok (.iload_n 2, 1) := by decide +kernel
theorem dX10_before_19 : decode cX10_before 19 = .ok (.invokevirtual 159, 3) := by decide +kernel
theorem dX10_before_22 : decode cX10_before 22 = .ok (.aload_n 0, 1) := by decide +kernel
theorem dX10_before_23 : decode cX10_before 23 = .ok (.getfield 87, 3) := by decide +kernel
theorem dX10_before_26 : decode cX10_before 26 = .ok (.aload_n 0, 1) := by decide +kernel
theorem dX10_before_27 : decode cX10_before 27 = .ok (.getfield 66, 3) := by decide +kernel
theorem dX10_before_30 : decode cX10_before 30 = .ok (.invokevirtual 163, 3) := by decide +kernel
theorem dX10_before_33 : decode cX10_before 33 = .ok (.aload_n 0, 1) := by decide +kernel
theorem dX10_before_34 : decode cX10_before 34 = .ok (.getfield 66, 3) := by decide +kernel
theorem dX10_before_37 : decode cX10_before 37 = .ok (.iload_n 1, 1) := by decide +kernel
theorem dX10_before_38 : decode cX10_before 38 = .ok (.iload_n 3, 1) := by decide +kernel
theorem dX10_before_39 : decode cX10_before 39 = .ok (.invokevirtual 159, 3) := by decide +kernel
theorem dX10_before_42 : decode cX10_before 42 = .ok (.aload_n 0, 1) := by decide +kernel
theorem dX10_before_43 : decode cX10_before 43 = .ok (.getfield 91, 3) := by decide +kernel
theorem dX10_before_46 : decode cX10_before 46 = .ok (.aload_n 0, 1) := by decide +kernel
theorem dX10_before_47 : decode cX10_before 47 = .ok (.getfield 66, 3) := by decide +kernel
theorem dX10_before_50 : decode cX10_before 50 = .ok (.invokevirtual 163, 3) := by decide +kernel
theorem dX10_before_53 : decode cX10_before 53 = .ok (.aload_n 0, 1) := by decide +kernel
theorem dX10_before_54 : decode cX10_before 54 = .ok (.getfield 87, 3) := by decide +kernel
theorem dX10_before_57 : decode cX10_before 57 = .ok (.aload_n 0, 1) := by decide +kernel
theorem dX10_before_58 : decode cX10_before 58 = .ok (.getfield 91, 3) := by decide +kernel
theorem dX10_before_61 : decode cX10_before 61 = .ok (.invokevirtual 324, 3) := by decide +kernel
theorem dX10_before_64 : decode cX10_before 64 = .ok (.ireturn, 1) := by decide +kernel
theorem gX10_moved_X10_isPlace : GoodIn wsX10_moved (va_wsS RX10 148 yX10_isPlace wsX10_isPlace) := gw_c t_w332 (gw_c t_w331 (gw_c t_w317 (gw_c t_w330 (gw_t))))
theorem gX10_moved_X10_isLevel : GoodIn wsX10_moved (va_wsS RX10 129 yX10_isLevel wsX10_isLevel) := gw_c t_w329 (gw_c t_w328 (gw_c t_w317 (gw_c t_w83 (gw_t))))
theorem gX10_moved_X10_isInt : GoodIn wsX10_moved (va_wsS RX10 328 yX10_isInt wsX10_isInt) := gw_c t_w442 (gw_c t_w441 (gw_c t_w317 (gw_c t_w440 (gw_t))))
theorem gX10_moved_J9_floorMod_f86c9 : GoodIn wsX10_moved (va_wsS RX10 338 yJ9_floorMod_f86c9 wsJ9_floorMod_f86c9) := gw_c t_w445 (gw_c t_w444 (gw_c t_w76 (gw_c t_w443 (gw_t))))
theorem gX10_moved_X2_keyOf : GoodIn wsX10_moved (wsV RX10 152 RX2 yX2_keyOf wsX2_keyOf) := gw_c t_w333 (gw_c t_w261 (gw_c t_w260 (gw_c t_w1 (gw_c t_w259 (gw_t)))))
theorem dX10_moved_0 : decode cX10_moved 0 = .ok (.iload_n 1, 1) := by decide +kernel
theorem dX10_moved_1 : decode cX10_moved 1 = .ok (.iload_n 2, 1) := by decide +kernel
theorem dX10_moved_2 : decode cX10_moved 2 = .ok (.invokestatic 148, 3) := by decide +kernel
theorem dX10_moved_5 : decode cX10_moved 5 = .ok (.ifCond .eq 11, 3) := by decide +kernel
theorem dX10_moved_8 : decode cX10_moved 8 = .ok (.iload 5, 2) := by decide +kernel
theorem dX10_moved_10 : decode cX10_moved 10 = .ok (.invokestatic 129, 3) := by decide +kernel
theorem dX10_moved_13 : decode cX10_moved 13 = .ok (.ifCond .ne 5, 3) := by decide +kernel
theorem dX10_moved_16 : decode cX10_moved 16 = .ok (.iconst (-1), 1) := by decide +kernel
theorem dX10_moved_17 : decode cX10_moved 17 = .ok (.ireturn, 1) := by decide +kernel
theorem dX10_moved_18 : decode cX10_moved 18 = .ok (.iload_n 1, 1) := by decide +kernel
theorem dX10_moved_19 : decode cX10_moved 19 = .ok (.i2l, 1) := by decide +kernel
theorem dX10_moved_20 : decode cX10_moved 20 = .ok (.iload_n 3, 1) := by decide +kernel
theorem dX10_moved_21 : decode cX10_moved 21 = .ok (.i2l, 1) := by decide +kernel
theorem dX10_moved_22 : decode cX10_moved 22 = .ok (.ladd, 1) := by decide +kernel
theorem dX10_moved_23 : decode cX10_moved 23 = .ok (.lstore 6, 2) := by decide +kernel
theorem dX10_moved_25 : decode cX10_moved 25 = .ok (.iload_n 2, 1) := by decide +kernel
theorem dX10_moved_26 : decode cX10_moved 26 = .ok (.i2l, 1) := by decide +kernel
theorem dX10_moved_27 : decode cX10_moved 27 = .ok (.iload 4, 2) := by decide +kernel
theorem dX10_moved_29 : decode cX10_moved 29 = .ok (.i2l, 1) := by decide +kernel
theorem dX10_moved_30 : decode cX10_moved 30 = .ok (.ladd, 1) := by decide +kernel
theorem dX10_moved_31 : decode cX10_moved 31 = .ok (.lstore 8, 2) := by decide +kernel
theorem dX10_moved_33 : decode cX10_moved 33 = .ok (.lload 6, 2) := by decide +kernel
theorem dX10_moved_35 : decode cX10_moved 35 = .ok (.invokestatic 328, 3) := by decide +kernel
theorem dX10_moved_38 : decode cX10_moved 38 = .ok (.ifCond .eq 11, 3) := by decide +kernel
theorem dX10_moved_41 : decode cX10_moved 41 = .ok (.lload 8, 2) := by decide +kernel
theorem dX10_moved_43 : decode cX10_moved 43 = .ok (.invokestatic 328, 3) := by decide +kernel
theorem dX10_moved_46 : decode cX10_moved 46 = .ok (.ifCond .ne 6, 3) := by decide +kernel
theorem dX10_moved_49 : decode cX10_moved 49 = .ok (.bipush (-2), 2) := by decide +kernel
theorem dX10_moved_51 : decode cX10_moved 51 = .ok (.ireturn, 1) := by decide +kernel
theorem dX10_moved_52 : decode cX10_moved 52 = .ok (.lload 6, 2) := by decide +kernel
theorem dX10_moved_54 : decode cX10_moved 54 = .ok (.ldc2_w 332, 3) := by decide +kernel
theorem dX10_moved_57 : decode cX10_moved 57 = .ok (.lcmp, 1) := by decide +kernel
theorem dX10_moved_58 : decode cX10_moved 58 = .ok (.ifCond .lt 12, 3) := by decide +kernel
theorem dX10_moved_61 : decode cX10_moved 61 = .ok (.lload 6, 2) := by decide +kernel
theorem dX10_moved_63 : decode cX10_moved 63 = .ok (.ldc2_w 334, 3) := by decide +kernel
theorem dX10_moved_66 : decode cX10_moved 66 = .ok (.lcmp, 1) := by decide +kernel
theorem dX10_moved_67 : decode cX10_moved 67 = .ok (.ifCond .le 6, 3) := by decide +kernel
theorem dX10_moved_70 : decode cX10_moved 70 = .ok (.bipush (-3), 2) := by decide +kernel
theorem dX10_moved_72 : decode cX10_moved 72 = .ok (.ireturn, 1) := by decide +kernel
theorem dX10_moved_73 : decode cX10_moved 73 = .ok (.aload_n 0, 1) := by decide +kernel
theorem dX10_moved_74 : decode cX10_moved 74 = .ok (.getfield 20, 3) := by decide +kernel
theorem dX10_moved_77 : decode cX10_moved 77 = .ok (.iload 5, 2) := by decide +kernel
theorem dX10_moved_79 : decode cX10_moved 79 = .ok (.lload 6, 2) := by decide +kernel
theorem dX10_moved_81 : decode cX10_moved 81 = .ok (.l2i, 1) := by decide +kernel
theorem dX10_moved_82 : decode cX10_moved 82 = .ok (.lload 8, 2) := by decide +kernel
theorem dX10_moved_84 : decode cX10_moved 84 = .ok (.ldc2_w 336, 3) := by decide +kernel
theorem dX10_moved_87 : decode cX10_moved 87 = .ok (.invokestatic 338, 3) := by decide +kernel
theorem dX10_moved_90 : decode cX10_moved 90 = .ok (.l2i, 1) := by decide +kernel
theorem dX10_moved_91 : decode cX10_moved 91 = .ok (.invokevirtual 152, 3) := by decide +kernel
theorem dX10_moved_94 : decode cX10_moved 94 = .ok (.ireturn, 1) := by decide +kernel
theorem gX10_ask_X10_isFrom : GoodIn wsX10_ask (va_wsS RX10 105 yX10_isFrom wsX10_isFrom) := gw_c t_w319 (gw_c t_w318 (gw_c t_w317 (gw_c t_w316 (gw_t))))
theorem gX10_ask_X5_read : GoodIn wsX10_ask (wsV RX10 341 RX5 yX5_read wsX5_read) := gw_c t_w449 (gw_c t_w448 (gw_c t_w447 (gw_c t_w161 (gw_c t_w446 (gw_t)))))
theorem gX10_ask_X0_countText : GoodIn wsX10_ask (wsV RX10 174 RX0 yX0_countText wsX0_countText) := gw_c t_w348 (gw_c t_w347 (gw_c t_w346 (gw_c t_w345 (gw_c t_w344 (gw_t)))))
theorem gX10_ask_X10_answerTo : GoodIn wsX10_ask (wsV RX10 343 RX10 yX10_answerTo wsX10_answerTo) := gw_c t_w453 (gw_c t_w452 (gw_c t_w451 (gw_c t_w317 (gw_c t_w450 (gw_t)))))
theorem gX10_ask_X3_told : GoodIn wsX10_ask (wsV RX10 178 RX3 yX3_told wsX3_told) := gw_c t_w352 (gw_c t_w351 (gw_c t_w350 (gw_c t_w101 (gw_c t_w349 (gw_t)))))
theorem dX10_ask_0 : decode cX10_ask 0 = .ok (.iload_n 1, 1) := by decide +kernel
theorem dX10_ask_1 : decode cX10_ask 1 = .ok (.iconst 1, 1) := by decide +kernel
theorem dX10_ask_2 : decode cX10_ask 2 = .ok (.bipush 100, 2) := by decide +kernel
theorem dX10_ask_4 : decode cX10_ask 4 = .ok (.invokestatic 105, 3) := by decide +kernel
theorem dX10_ask_7 : decode cX10_ask 7 = .ok (.ifCond .eq 14, 3) := by decide +kernel
theorem dX10_ask_10 : decode cX10_ask 10 = .ok (.aload_n 0, 1) := by decide +kernel
theorem dX10_ask_11 : decode cX10_ask 11 = .ok (.getfield 39, 3) := by decide +kernel
theorem dX10_ask_14 : decode cX10_ask 14 = .ok (.getfield 98, 3) := by decide +kernel
theorem dX10_ask_17 : decode cX10_ask 17 = .ok (.iload_n 1, 1) := by decide +kernel
theorem dX10_ask_18 : decode cX10_ask 18 = .ok (.if_icmp .ge 5, 3) := by decide +kernel
theorem dX10_ask_21 : decode cX10_ask 21 = .ok (.iconst (-1), 1) := by decide +kernel
theorem dX10_ask_22 : decode cX10_ask 22 = .ok (.ireturn, 1) := by decide +kernel
theorem dX10_ask_23 : decode cX10_ask 23 = .ok (.aload_n 0, 1) := by decide +kernel
theorem dX10_ask_24 : decode cX10_ask 24 = .ok (.getfield 57, 3) := by decide +kernel
theorem dX10_ask_27 : decode cX10_ask 27 = .ok (.iload_n 1, 1) := by decide +kernel
theorem dX10_ask_28 : decode cX10_ask 28 = .ok (.invokevirtual 341, 3) := by decide +kernel
theorem dX10_ask_31 : decode cX10_ask 31 = .ok (.istore_n 2, 1) := by decide +kernel
theorem dX10_ask_32 : decode cX10_ask 32 = .ok (.aload_n 0, 1) := by decide +kernel
theorem dX10_ask_33 : decode cX10_ask 33 = .ok (.getfield 39, 3) := by decide +kernel
theorem dX10_ask_36 : decode cX10_ask 36 = .ok (.iconst 0, 1) := by decide +kernel
theorem dX10_ask_37 : decode cX10_ask 37 = .ok (.putfield 98, 3) := by decide +kernel
theorem dX10_ask_40 : decode cX10_ask 40 = .ok (.aload_n 0, 1) := by decide +kernel
theorem dX10_ask_41 : decode cX10_ask 41 = .ok (.getfield 10, 3) := by decide +kernel
theorem dX10_ask_44 : decode cX10_ask 44 = .ok (.aload_n 0, 1) := by decide +kernel
theorem dX10_ask_45 : decode cX10_ask 45 = .ok (.getfield 48, 3) := by decide +kernel
theorem dX10_ask_48 : decode cX10_ask 48 = .ok (.iload_n 2, 1) := by decide +kernel
theorem dX10_ask_49 : decode cX10_ask 49 = .ok (.invokevirtual 174, 3) := by decide +kernel
theorem dX10_ask_52 : decode cX10_ask 52 = .ok (.iload_n 2, 1) := by decide +kernel
theorem dX10_ask_53 : decode cX10_ask 53 = .ok (.ifCond .eq 14, 3) := by decide +kernel
theorem dX10_ask_56 : decode cX10_ask 56 = .ok (.aload_n 0, 1) := by decide +kernel
theorem dX10_ask_57 : decode cX10_ask 57 = .ok (.aload_n 0, 1) := by decide +kernel
theorem dX10_ask_58 : decode cX10_ask 58 = .ok (.getfield 57, 3) := by decide +kernel
theorem dX10_ask_61 : decode cX10_ask 61 = .ok (.invokevirtual 343, 3) := by decide +kernel
theorem dX10_ask_64 : decode cX10_ask 64 = .ok (.goto 10, 3) := by decide +kernel
theorem dX10_ask_67 : decode cX10_ask 67 = .ok (.aload_n 0, 1) := by decide +kernel
theorem dX10_ask_68 : decode cX10_ask 68 = .ok (.getfield 48, 3) := by decide +kernel
theorem dX10_ask_71 : decode cX10_ask 71 = .ok (.invokevirtual 178, 3) := by decide +kernel
theorem dX10_ask_74 : decode cX10_ask 74 = .ok (.ireturn, 1) := by decide +kernel
theorem gX10_answerTo_X2_keyAbove : GoodIn wsX10_answerTo (wsV RX10 238 RX2 yX2_keyAbove wsX2_keyAbove) := gw_c t_w371 (gw_c t_w265 (gw_c t_w264 (gw_c t_w1 (gw_c t_w263 (gw_t)))))
theorem gX10_answerTo_X10_neighbour : GoodIn wsX10_answerTo (wsV RX10 352 RX10 yX10_neighbour wsX10_neighbour) := gw_c t_w457 (gw_c t_w456 (gw_c t_w455 (gw_c t_w317 (gw_c t_w454 (gw_t)))))
theorem gX10_answerTo_X10_steps : GoodIn wsX10_answerTo (wsV RX10 362 RX10 yX10_steps wsX10_steps) := gw_c t_w461 (gw_c t_w460 (gw_c t_w459 (gw_c t_w317 (gw_c t_w458 (gw_t)))))
theorem gX10_answerTo_X10_between : GoodIn wsX10_answerTo (wsV RX10 365 RX10 yX10_between wsX10_between) := gw_c t_w465 (gw_c t_w464 (gw_c t_w463 (gw_c t_w317 (gw_c t_w462 (gw_t)))))
theorem dX10_answerTo_0 : decode cX10_answerTo 0 = .ok (.aload_n 1, 1) := by decide +kernel
theorem dX10_answerTo_1 : decode cX10_answerTo 1 = .ok (.getfield 347, 3) := by decide +kernel
theorem dX10_answerTo_4 : decode cX10_answerTo 4 = .ok (.iconst 4, 1) := by decide +kernel
theorem dX10_answerTo_5 : decode cX10_answerTo 5 = .ok (.if_icmp .ne 37, 3) := by decide +kernel
theorem dX10_answerTo_8 : decode cX10_answerTo 8 = .ok (.aload_n 1, 1) := by decide +kernel
theorem dX10_answerTo_9 : decode cX10_answerTo 9 = .ok (.getfield 350, 3) := by decide +kernel
theorem dX10_answerTo_12 : decode cX10_answerTo 12 = .ok (.ifCond .ne 8, 3) := by decide +kernel
theorem dX10_answerTo_15 : decode cX10_answerTo 15 = .ok (.bipush (-2), 2) := by decide +kernel
theorem dX10_answerTo_17 : decode cX10_answerTo 17 = .ok (.goto 24, 3) := by decide +kernel
theorem dX10_answerTo_20 : decode cX10_answerTo 20 = .ok (.aload_n 0, 1) := by decide +kernel
theorem dX10_answerTo_21 : decode cX10_answerTo 21 = .ok (.getfield 20, 3) := by decide +kernel
theorem dX10_answerTo_24 : decode cX10_answerTo 24 = .ok (.aload_n 1, 1) := by decide +kernel
theorem dX10_answerTo_25 : decode cX10_answerTo 25 = .ok (.getfield 350, 3) := by decide +kernel
theorem dX10_answerTo_28 : decode cX10_answerTo 28 = .ok (.aload_n 1, 1) := by decide +kernel
theorem dX10_answerTo_29 : decode cX10_answerTo 29 = .ok (.getfield 351, 3) := by decide +kernel
theorem dX10_answerTo_32 : decode cX10_answerTo 32 = .ok (.aload_n 1, 1) := by decide +kernel
theorem dX10_answerTo_33 : decode cX10_answerTo 33 = .ok (.getfield 350, 3) := by decide +kernel
theorem dX10_answerTo_36 : decode cX10_answerTo 36 = .ok (.iconst 1, 1) := by decide +kernel
theorem dX10_answerTo_37 : decode cX10_answerTo 37 = .ok (.isub, 1) := by decide +kernel
theorem dX10_answerTo_38 : decode cX10_answerTo 38 = .ok (.invokevirtual 238, 3) := by decide +kernel
theorem dX10_answerTo_41 : decode cX10_answerTo 41 = .ok (.ireturn, 1) := by decide +kernel
theorem dX10_answerTo_42 : decode cX10_answerTo 42 = .ok (.aload_n 1, 1) := by decide +kernel
theorem dX10_answerTo_43 : decode cX10_answerTo 43 = .ok (.getfield 347, 3) := by decide +kernel
theorem dX10_answerTo_46 : decode cX10_answerTo 46 = .ok (.iconst 4, 1) := by decide +kernel
theorem dX10_answerTo_47 : decode cX10_answerTo 47 = .ok (.if_icmp .ge 21, 3) := by decide +kernel
theorem dX10_answerTo_50 : decode cX10_answerTo 50 = .ok (.aload_n 0, 1) := by decide +kernel
theorem dX10_answerTo_51 : decode cX10_answerTo 51 = .ok (.aload_n 1, 1) := by decide +kernel
theorem dX10_answerTo_52 : decode cX10_answerTo 52 = .ok (.getfield 350, 3) := by decide +kernel
theorem dX10_answerTo_55 : decode cX10_answerTo 55 = .ok (.aload_n 1, 1) := by decide +kernel
theorem dX10_answerTo_56 : decode cX10_answerTo 56 = .ok (.getfield 351, 3) := by decide +kernel
theorem dX10_answerTo_59 : decode cX10_answerTo 59 = .ok (.aload_n 1, 1) := by decide +kernel
theorem dX10_answerTo_60 : decode cX10_answerTo 60 = .ok (.getfield 347, 3) := by decide +kernel
theorem dX10_answerTo_63 : decode cX10_answerTo 63 = .ok (.iconst 0, 1) := by decide +kernel
theorem dX10_answerTo_64 : decode cX10_answerTo 64 = .ok (.invokevirtual 352, 3) := by decide +kernel
theorem dX10_answerTo_67 : decode cX10_answerTo 67 = .ok (.ireturn, 1) := by decide +kernel
theorem dX10_answerTo_68 : decode cX10_answerTo 68 = .ok (.aload_n 1, 1) := by decide +kernel
theorem dX10_answerTo_69 : decode cX10_answerTo 69 = .ok (.getfield 350, 3) := by decide +kernel
theorem dX10_answerTo_72 : decode cX10_answerTo 72 = .ok (.aload_n 1, 1) := by decide +kernel
theorem dX10_answerTo_73 : decode cX10_answerTo 73 = .ok (.getfield 356, 3) := by decide +kernel
theorem dX10_answerTo_76 : decode cX10_answerTo 76 = .ok (.if_icmp .eq 6, 3) := by decide +kernel
theorem dX10_answerTo_79 : decode cX10_answerTo 79 = .ok (.bipush (-2), 2) := by decide +kernel
theorem dX10_answerTo_81 : decode cX10_answerTo 81 = .ok (.ireturn, 1) := by decide +kernel
theorem dX10_answerTo_82 : decode cX10_answerTo 82 = .ok (.aload_n 1, 1) := by decide +kernel
theorem dX10_answerTo_83 : decode cX10_answerTo 83 = .ok (.getfield 347, 3) := by decide +kernel
theorem dX10_answerTo_86 : decode cX10_answerTo 86 = .ok (.iconst 5, 1) := by decide +kernel
theorem dX10_answerTo_87 : decode cX10_answerTo 87 = .ok (.if_icmp .ne 20, 3) := by decide +kernel
theorem dX10_answerTo_90 : decode cX10_answerTo 90 = .ok (.aload_n 0, 1) := by decide +kernel
theorem dX10_answerTo_91 : decode cX10_answerTo 91 = .ok (.aload_n 1, 1) := by decide +kernel
theorem dX10_answerTo_92 : decode cX10_answerTo 92 = .ok (.getfield 350, 3) := by decide +kernel
theorem dX10_answerTo_95 : decode cX10_answerTo 95 = .ok (.aload_n 1, 1) := by decide +kernel
theorem dX10_answerTo_96 : decode cX10_answerTo 96 = .ok (.getfield 351, 3) := by decide +kernel
theorem dX10_answerTo_99 : decode cX10_answerTo 99 = .ok (.aload_n 1, 1) := by decide +kernel
theorem dX10_answerTo_100 : decode cX10_answerTo 100 = .ok (.getfield 359, 3) := by decide +kernel
theorem dX10_answerTo_103 : decode cX10_answerTo 103 = .ok (.invokevirtual 362, 3) := by decide +kernel
theorem dX10_answerTo_106 : decode cX10_answerTo 106 = .ok (.ireturn, 1) := by decide +kernel
theorem dX10_answerTo_107 : decode cX10_answerTo 107 = .ok (.aload_n 0, 1) := by decide +kernel
theorem dX10_answerTo_108 : decode cX10_answerTo 108 = .ok (.aload_n 1, 1) := by decide +kernel
theorem dX10_answerTo_109 : decode cX10_answerTo 109 = .ok (.getfield 350, 3) := by decide +kernel
theorem dX10_answerTo_112 : decode cX10_answerTo 112 = .ok (.aload_n 1, 1) := by decide +kernel
theorem dX10_answerTo_113 : decode cX10_answerTo 113 = .ok (.getfield 351, 3) := by decide +kernel
theorem dX10_answerTo_116 : decode cX10_answerTo 116 = .ok (.aload_n 1, 1) := by decide +kernel
theorem dX10_answerTo_117 : decode cX10_answerTo 117 = .ok (.getfield 359, 3) := by decide +kernel
theorem dX10_answerTo_120 : decode cX10_answerTo 120 = .ok (.invokevirtual 365, 3) := by decide +kernel
theorem dX10_answerTo_123 : decode cX10_answerTo 123 = .ok (.ireturn, 1) := by decide +kernel
theorem gX10_store_X2_hasSheet : GoodIn wsX10_store (wsV RX10 156 RX2 yX2_hasSheet wsX2_hasSheet) := gw_c t_w337 (gw_c t_w336 (gw_c t_w335 (gw_c t_w1 (gw_c t_w334 (gw_t)))))
theorem gX10_store_X10_isFrom : GoodIn wsX10_store (va_wsS RX10 105 yX10_isFrom wsX10_isFrom) := gw_c t_w319 (gw_c t_w318 (gw_c t_w317 (gw_c t_w316 (gw_t))))
theorem gX10_store_X2_storedLevel : GoodIn wsX10_store (wsV RX10 368 RX2 yX2_storedLevel wsX2_storedLevel) := gw_c t_w469 (gw_c t_w468 (gw_c t_w467 (gw_c t_w1 (gw_c t_w466 (gw_t)))))
theorem gX10_store_X2_keyAbove : GoodIn wsX10_store (wsV RX10 238 RX2 yX2_keyAbove wsX2_keyAbove) := gw_c t_w371 (gw_c t_w265 (gw_c t_w264 (gw_c t_w1 (gw_c t_w263 (gw_t)))))
theorem gX10_store_X7_put : GoodIn wsX10_store (wsV RX10 371 RX7 yX7_put wsX7_put) := gw_c t_w473 (gw_c t_w472 (gw_c t_w471 (gw_c t_w6 (gw_c t_w470 (gw_t)))))
theorem dX10_store_0 : decode cX10_store 0 = .ok (.aload_n 0, 1) := by decide +kernel
theorem dX10_store_1 : decode cX10_store 1 = .ok (.getfield 20, 3) := by decide +kernel
theorem dX10_store_4 : decode cX10_store 4 = .ok (.iload_n 1, 1) := by decide +kernel
theorem dX10_store_5 : decode cX10_store 5 = .ok (.iload_n 2, 1) := by decide +kernel
theorem dX10_store_6 : decode cX10_store 6 = .ok (.invokevirtual 156, 3) := by decide +kernel
theorem dX10_store_9 : decode cX10_store 9 = .ok (.ifCond .eq 16, 3) := by decide +kernel
theorem dX10_store_12 : decode cX10_store 12 = .ok (.iload_n 3, 1) := by decide +kernel
theorem dX10_store_13 : decode cX10_store 13 = .ok (.sipush 1800, 3) := by decide +kernel
theorem dX10_store_16 : decode cX10_store 16 = .ok (.sipush 2100, 3) := by decide +kernel
theorem dX10_store_19 : decode cX10_store 19 = .ok (.invokestatic 105, 3) := by decide +kernel
theorem dX10_store_22 : decode cX10_store 22 = .ok (.ifCond .ne 5, 3) := by decide +kernel
theorem dX10_store_25 : decode cX10_store 25 = .ok (.iconst (-1), 1) := by decide +kernel
theorem dX10_store_26 : decode cX10_store 26 = .ok (.ireturn, 1) := by decide +kernel
theorem dX10_store_27 : decode cX10_store 27 = .ok (.aload_n 0, 1) := by decide +kernel
theorem dX10_store_28 : decode cX10_store 28 = .ok (.getfield 20, 3) := by decide +kernel
theorem dX10_store_31 : decode cX10_store 31 = .ok (.iload_n 1, 1) := by decide +kernel
theorem dX10_store_32 : decode cX10_store 32 = .ok (.iload_n 2, 1) := by decide +kernel
theorem dX10_store_33 : decode cX10_store 33 = .ok (.invokevirtual 368, 3) := by decide +kernel
theorem dX10_store_36 : decode cX10_store 36 = .ok (.istore 4, 2) := by decide +kernel
theorem dX10_store_38 : decode cX10_store 38 = .ok (.aload_n 0, 1) := by decide +kernel
theorem dX10_store_39 : decode cX10_store 39 = .ok (.getfield 20, 3) := by decide +kernel
theorem dX10_store_42 : decode cX10_store 42 = .ok (.iload_n 1, 1) := by decide +kernel
theorem dX10_store_43 : decode cX10_store 43 = .ok (.iload_n 2, 1) := by decide +kernel
theorem dX10_store_44 : decode cX10_store 44 = .ok (.iload 4, 2) := by decide +kernel
theorem dX10_store_46 : decode cX10_store 46 = .ok (.invokevirtual 238, 3) := by decide +kernel
theorem dX10_store_49 : decode cX10_store 49 = .ok (.istore 5, 2) := by decide +kernel
theorem dX10_store_51 : decode cX10_store 51 = .ok (.aload_n 0, 1) := by decide +kernel
theorem dX10_store_52 : decode cX10_store 52 = .ok (.getfield 25, 3) := by decide +kernel
theorem dX10_store_55 : decode cX10_store 55 = .ok (.iload 4, 2) := by decide +kernel
theorem dX10_store_57 : decode cX10_store 57 = .ok (.iload 5, 2) := by decide +kernel
theorem dX10_store_59 : decode cX10_store 59 = .ok (.iload_n 3, 1) := by decide +kernel
theorem dX10_store_60 : decode cX10_store 60 = .ok (.invokevirtual 371, 3) := by decide +kernel
theorem dX10_store_63 : decode cX10_store 63 = .ok (.ifCond .eq 13, 3) := by decide +kernel
theorem dX10_store_66 : decode cX10_store 66 = .ok (.aload_n 0, 1) := by decide +kernel
theorem dX10_store_67 : decode cX10_store 67 = .ok (.getfield 25, 3) := by decide +kernel
theorem dX10_store_70 : decode cX10_store 70 = .ok (.getfield 109, 3) := by decide +kernel
theorem dX10_store_73 : decode cX10_store 73 = .ok (.goto 5, 3) := by decide +kernel
theorem dX10_store_76 : decode cX10_store 76 = .ok (.bipush (-2), 2) := by decide +kernel
theorem dX10_store_78 : decode cX10_store 78 = .ok (.ireturn, 1) := by decide +kernel
theorem gX10_drop_X2_hasSheet : GoodIn wsX10_drop (wsV RX10 156 RX2 yX2_hasSheet wsX2_hasSheet) := gw_c t_w337 (gw_c t_w336 (gw_c t_w335 (gw_c t_w1 (gw_c t_w334 (gw_t)))))
theorem gX10_drop_X2_storedLevel : GoodIn wsX10_drop (wsV RX10 368 RX2 yX2_storedLevel wsX2_storedLevel) := gw_c t_w469 (gw_c t_w468 (gw_c t_w467 (gw_c t_w1 (gw_c t_w466 (gw_t)))))
theorem gX10_drop_X2_keyAbove : GoodIn wsX10_drop (wsV RX10 238 RX2 yX2_keyAbove wsX2_keyAbove) := gw_c t_w371 (gw_c t_w265 (gw_c t_w264 (gw_c t_w1 (gw_c t_w263 (gw_t)))))
theorem gX10_drop_X7_find : GoodIn wsX10_drop (wsV RX10 373 RX7 yX7_find wsX7_find) := gw_c t_w474 (gw_c t_w249 (gw_c t_w248 (gw_c t_w6 (gw_c t_w247 (gw_t)))))
theorem gX10_drop_X7_remove : GoodIn wsX10_drop (wsV RX10 379 RX7 yX7_remove wsX7_remove) := gw_c t_w478 (gw_c t_w477 (gw_c t_w476 (gw_c t_w6 (gw_c t_w475 (gw_t)))))
theorem dX10_drop_0 : decode cX10_drop 0 = .ok (.aload_n 0, 1) := by decide +kernel
theorem dX10_drop_1 : decode cX10_drop 1 = .ok (.getfield 20, 3) := by decide +kernel
theorem dX10_drop_4 : decode cX10_drop 4 = .ok (.iload_n 1, 1) := by decide +kernel
theorem dX10_drop_5 : decode cX10_drop 5 = .ok (.iload_n 2, 1) := by decide +kernel
theorem dX10_drop_6 : decode cX10_drop 6 = .ok (.invokevirtual 156, 3) := by decide +kernel
theorem dX10_drop_9 : decode cX10_drop 9 = .ok (.ifCond .ne 5, 3) := by decide +kernel
theorem dX10_drop_12 : decode cX10_drop 12 = .ok (.iconst (-1), 1) := by decide +kernel
theorem dX10_drop_13 : decode cX10_drop 13 = .ok (.ireturn, 1) := by decide +kernel
theorem dX10_drop_14 : decode cX10_drop 14 = .ok (.aload_n 0, 1) := by decide +kernel
theorem dX10_drop_15 : decode cX10_drop 15 = .ok (.getfield 20, 3) := by decide +kernel
theorem dX10_drop_18 : decode cX10_drop 18 = .ok (.iload_n 1, 1) := by decide +kernel
theorem dX10_drop_19 : decode cX10_drop 19 = .ok (.iload_n 2, 1) := by decide +kernel
theorem dX10_drop_20 : decode cX10_drop 20 = .ok (.invokevirtual 368, 3) := by decide +kernel
theorem dX10_drop_23 : decode cX10_drop 23 = .ok (.istore_n 3, 1) := by decide +kernel
theorem dX10_drop_24 : decode cX10_drop 24 = .ok (.aload_n 0, 1) := by decide +kernel
theorem dX10_drop_25 : decode cX10_drop 25 = .ok (.getfield 25, 3) := by decide +kernel
theorem dX10_drop_28 : decode cX10_drop 28 = .ok (.iload_n 3, 1) := by decide +kernel
theorem dX10_drop_29 : decode cX10_drop 29 = .ok (.aload_n 0, 1) := by decide +kernel
theorem dX10_drop_30 : decode cX10_drop 30 = .ok (.getfield 20, 3) := by decide +kernel
theorem dX10_drop_33 : decode cX10_drop 33 = .ok (.iload_n 1, 1) := by decide +kernel
theorem dX10_drop_34 : decode cX10_drop 34 = .ok (.iload_n 2, 1) := by decide +kernel
theorem dX10_drop_35 : decode cX10_drop 35 = .ok (.iload_n 3, 1) := by decide +kernel
theorem dX10_drop_36 : decode cX10_drop 36 = .ok (.invokevirtual 238, 3) := by decide +kernel
theorem dX10_drop_39 : decode cX10_drop 39 = .ok (.invokevirtual 373, 3) := by decide +kernel
theorem dX10_drop_42 : decode cX10_drop 42 = .ok (.istore 4, 2) := by decide +kernel
theorem dX10_drop_44 : decode cX10_drop 44 = .ok (.iload 4, 2) := by decide +kernel
theorem dX10_drop_46 : decode cX10_drop 46 = .ok (.iconst (-1), 1) := by decide +kernel
theorem dX10_drop_47 : decode cX10_drop 47 = .ok (.if_icmp .ne 6, 3) := by decide +kernel
theorem dX10_drop_50 : decode cX10_drop 50 = .ok (.bipush (-2), 2) := by decide +kernel
theorem dX10_drop_52 : decode cX10_drop 52 = .ok (.ireturn, 1) := by decide +kernel
theorem dX10_drop_53 : decode cX10_drop 53 = .ok (.aload_n 0, 1) := by decide +kernel
theorem dX10_drop_54 : decode cX10_drop 54 = .ok (.getfield 25, 3) := by decide +kernel
theorem dX10_drop_57 : decode cX10_drop 57 = .ok (.getfield 376, 3) := by decide +kernel
theorem dX10_drop_60 : decode cX10_drop 60 = .ok (.iload 4, 2) := by decide +kernel
theorem dX10_drop_62 : decode cX10_drop 62 = .ok (.iaload, 1) := by decide +kernel
theorem dX10_drop_63 : decode cX10_drop 63 = .ok (.istore 5, 2) := by decide +kernel
theorem dX10_drop_65 : decode cX10_drop 65 = .ok (.aload_n 0, 1) := by decide +kernel
theorem dX10_drop_66 : decode cX10_drop 66 = .ok (.getfield 25, 3) := by decide +kernel
theorem dX10_drop_69 : decode cX10_drop 69 = .ok (.iload 4, 2) := by decide +kernel
theorem dX10_drop_71 : decode cX10_drop 71 = .ok (.invokevirtual 379, 3) := by decide +kernel
theorem dX10_drop_74 : decode cX10_drop 74 = .ok (.iload 5, 2) := by decide +kernel
theorem dX10_drop_76 : decode cX10_drop 76 = .ok (.ireturn, 1) := by decide +kernel
theorem gX10_piece_X10_isFrom : GoodIn wsX10_piece (va_wsS RX10 105 yX10_isFrom wsX10_isFrom) := gw_c t_w319 (gw_c t_w318 (gw_c t_w317 (gw_c t_w316 (gw_t))))
theorem dX10_piece_0 : decode cX10_piece 0 = .ok (.iload_n 1, 1) := by decide +kernel
theorem dX10_piece_1 : decode cX10_piece 1 = .ok (.ifCond .lt 12, 3) := by decide +kernel
theorem dX10_piece_4 : decode cX10_piece 4 = .ok (.iload_n 2, 1) := by decide +kernel
theorem dX10_piece_5 : decode cX10_piece 5 = .ok (.iconst 0, 1) := by decide +kernel
theorem dX10_piece_6 : decode cX10_piece 6 = .ok (.iconst 2, 1) := by decide +kernel
theorem dX10_piece_7 : decode cX10_piece 7 = .ok (.invokestatic 105, 3) := by decide +kernel
theorem dX10_piece_10 : decode cX10_piece 10 = .ok (.ifCond .ne 5, 3) := by decide +kernel
theorem dX10_piece_13 : decode cX10_piece 13 = .ok (.iconst (-1), 1) := by decide +kernel
theorem dX10_piece_14 : decode cX10_piece 14 = .ok (.ireturn, 1) := by decide +kernel
theorem dX10_piece_15 : decode cX10_piece 15 = .ok (.iload_n 1, 1) := by decide +kernel
theorem dX10_piece_16 : decode cX10_piece 16 = .ok (.aload_n 0, 1) := by decide +kernel
theorem dX10_piece_17 : decode cX10_piece 17 = .ok (.getfield 25, 3) := by decide +kernel
theorem dX10_piece_20 : decode cX10_piece 20 = .ok (.getfield 109, 3) := by decide +kernel
theorem dX10_piece_23 : decode cX10_piece 23 = .ok (.if_icmp .lt 6, 3) := by decide +kernel
theorem dX10_piece_26 : decode cX10_piece 26 = .ok (.bipush (-2), 2) := by decide +kernel
theorem dX10_piece_28 : decode cX10_piece 28 = .ok (.ireturn, 1) := by decide +kernel
theorem dX10_piece_29 : decode cX10_piece 29 = .ok (.iload_n 2, 1) := by decide +kernel
theorem dX10_piece_30 : decode cX10_piece 30 = .ok (.lookupswitch 46 #[(0, 26), (1, 36)], 26) := by decide +kernel
theorem dX10_piece_56 : decode cX10_piece 56 = .ok (.aload_n 0, 1) := by decide +kernel
theorem dX10_piece_57 : decode cX10_piece 57 = .ok (.getfield 25, 3) := by decide +kernel
theorem dX10_piece_60 : decode cX10_piece 60 = .ok (.getfield 382, 3) := by decide +kernel
theorem dX10_piece_63 : decode cX10_piece 63 = .ok (.iload_n 1, 1) := by decide +kernel
theorem dX10_piece_64 : decode cX10_piece 64 = .ok (.iaload, 1) := by decide +kernel
theorem dX10_piece_65 : decode cX10_piece 65 = .ok (.ireturn, 1) := by decide +kernel
theorem dX10_piece_66 : decode cX10_piece 66 = .ok (.aload_n 0, 1) := by decide +kernel
theorem dX10_piece_67 : decode cX10_piece 67 = .ok (.getfield 25, 3) := by decide +kernel
theorem dX10_piece_70 : decode cX10_piece 70 = .ok (.getfield 385, 3) := by decide +kernel
theorem dX10_piece_73 : decode cX10_piece 73 = .ok (.iload_n 1, 1) := by decide +kernel
theorem dX10_piece_74 : decode cX10_piece 74 = .ok (.iaload, 1) := by decide +kernel
theorem dX10_piece_75 : decode cX10_piece 75 = .ok (.ireturn, 1) := by decide +kernel
theorem dX10_piece_76 : decode cX10_piece 76 = .ok (.aload_n 0, 1) := by decide +kernel
theorem dX10_piece_77 : decode cX10_piece 77 = .ok (.getfield 25, 3) := by decide +kernel
theorem dX10_piece_80 : decode cX10_piece 80 = .ok (.getfield 376, 3) := by decide +kernel
theorem dX10_piece_83 : decode cX10_piece 83 = .ok (.iload_n 1, 1) := by decide +kernel
theorem dX10_piece_84 : decode cX10_piece 84 = .ok (.iaload, 1) := by decide +kernel
theorem dX10_piece_85 : decode cX10_piece 85 = .ok (.ireturn, 1) := by decide +kernel
theorem gX10_shown_X10_isPlace : GoodIn wsX10_shown (va_wsS RX10 148 yX10_isPlace wsX10_isPlace) := gw_c t_w332 (gw_c t_w331 (gw_c t_w317 (gw_c t_w330 (gw_t))))
theorem gX10_shown_X10_isFrom : GoodIn wsX10_shown (va_wsS RX10 105 yX10_isFrom wsX10_isFrom) := gw_c t_w319 (gw_c t_w318 (gw_c t_w317 (gw_c t_w316 (gw_t))))
theorem gX10_shown_X7_lookAt : GoodIn wsX10_shown (wsV RX10 388 RX7 yX7_lookAt wsX7_lookAt) := gw_c t_w482 (gw_c t_w481 (gw_c t_w480 (gw_c t_w6 (gw_c t_w479 (gw_t)))))
theorem dX10_shown_0 : decode cX10_shown 0 = .ok (.iload_n 1, 1) := by decide +kernel
theorem dX10_shown_1 : decode cX10_shown 1 = .ok (.iload_n 2, 1) := by decide +kernel
theorem dX10_shown_2 : decode cX10_shown 2 = .ok (.invokestatic 148, 3) := by decide +kernel
theorem dX10_shown_5 : decode cX10_shown 5 = .ok (.ifCond .eq 12, 3) := by decide +kernel
theorem dX10_shown_8 : decode cX10_shown 8 = .ok (.iload_n 3, 1) := by decide +kernel
theorem dX10_shown_9 : decode cX10_shown 9 = .ok (.iconst 0, 1) := by decide +kernel
theorem dX10_shown_10 : decode cX10_shown 10 = .ok (.iconst 2, 1) := by decide +kernel
theorem dX10_shown_11 : decode cX10_shown 11 = .ok (.invokestatic 105, 3) := by decide +kernel
theorem dX10_shown_14 : decode cX10_shown 14 = .ok (.ifCond .ne 5, 3) := by decide +kernel
theorem dX10_shown_17 : decode cX10_shown 17 = .ok (.iconst (-1), 1) := by decide +kernel
theorem dX10_shown_18 : decode cX10_shown 18 = .ok (.ireturn, 1) := by decide +kernel
theorem dX10_shown_19 : decode cX10_shown 19 = .ok (.aload_n 0, 1) := by decide +kernel
theorem dX10_shown_20 : decode cX10_shown 20 = .ok (.getfield 25, 3) := by decide +kernel
theorem dX10_shown_23 : decode cX10_shown 23 = .ok (.iload_n 1, 1) := by decide +kernel
theorem dX10_shown_24 : decode cX10_shown 24 = .ok (.iload_n 2, 1) := by decide +kernel
theorem dX10_shown_25 : decode cX10_shown 25 = .ok (.invokevirtual 388, 3) := by decide +kernel
theorem dX10_shown_28 : decode cX10_shown 28 = .ok (.iload_n 3, 1) := by decide +kernel
theorem dX10_shown_29 : decode cX10_shown 29 = .ok (.ifCond .ne 11, 3) := by decide +kernel
theorem dX10_shown_32 : decode cX10_shown 32 = .ok (.aload_n 0, 1) := by decide +kernel
theorem dX10_shown_33 : decode cX10_shown 33 = .ok (.getfield 25, 3) := by decide +kernel
theorem dX10_shown_36 : decode cX10_shown 36 = .ok (.getfield 391, 3) := by decide +kernel
theorem dX10_shown_39 : decode cX10_shown 39 = .ok (.ireturn, 1) := by decide +kernel
theorem dX10_shown_40 : decode cX10_shown 40 = .ok (.aload_n 0, 1) := by decide +kernel
theorem dX10_shown_41 : decode cX10_shown 41 = .ok (.getfield 25, 3) := by decide +kernel
theorem dX10_shown_44 : decode cX10_shown 44 = .ok (.getfield 391, 3) := by decide +kernel
theorem dX10_shown_47 : decode cX10_shown 47 = .ok (.ifCond .ne 6, 3) := by decide +kernel
theorem dX10_shown_50 : decode cX10_shown 50 = .ok (.bipush (-2), 2) := by decide +kernel
theorem dX10_shown_52 : decode cX10_shown 52 = .ok (.ireturn, 1) := by decide +kernel
theorem dX10_shown_53 : decode cX10_shown 53 = .ok (.iload_n 3, 1) := by decide +kernel
theorem dX10_shown_54 : decode cX10_shown 54 = .ok (.iconst 1, 1) := by decide +kernel
theorem dX10_shown_55 : decode cX10_shown 55 = .ok (.if_icmp .ne 13, 3) := by decide +kernel
theorem dX10_shown_58 : decode cX10_shown 58 = .ok (.aload_n 0, 1) := by decide +kernel
theorem dX10_shown_59 : decode cX10_shown 59 = .ok (.getfield 25, 3) := by decide +kernel
theorem dX10_shown_62 : decode cX10_shown 62 = .ok (.getfield 394, 3) := by decide +kernel
theorem dX10_shown_65 : decode cX10_shown 65 = .ok (.goto 10, 3) := by decide +kernel
theorem dX10_shown_68 : decode cX10_shown 68 = .ok (.aload_n 0, 1) := by decide +kernel
theorem dX10_shown_69 : decode cX10_shown 69 = .ok (.getfield 25, 3) := by decide +kernel
theorem dX10_shown_72 : decode cX10_shown 72 = .ok (.getfield 397, 3) := by decide +kernel
theorem dX10_shown_75 : decode cX10_shown 75 = .ok (.ireturn, 1) := by decide +kernel
theorem gX10_lacks_X10_isBox : GoodIn wsX10_lacks (va_wsS RX10 289 yX10_isBox wsX10_isBox) := gw_c t_w413 (gw_c t_w412 (gw_c t_w317 (gw_c t_w411 (gw_t))))
theorem gX10_lacks_X10_isLevel : GoodIn wsX10_lacks (va_wsS RX10 129 yX10_isLevel wsX10_isLevel) := gw_c t_w329 (gw_c t_w328 (gw_c t_w317 (gw_c t_w83 (gw_t))))
theorem gX10_lacks_X10_isFrom : GoodIn wsX10_lacks (va_wsS RX10 105 yX10_isFrom wsX10_isFrom) := gw_c t_w319 (gw_c t_w318 (gw_c t_w317 (gw_c t_w316 (gw_t))))
theorem gX10_lacks_X1_set : GoodIn wsX10_lacks (wsV RX10 293 RX1 yX1_set wsX1_set) := gw_c t_w417 (gw_c t_w416 (gw_c t_w415 (gw_c t_w27 (gw_c t_w414 (gw_t)))))
theorem gX10_lacks_X1_sheetsAt : GoodIn wsX10_lacks (wsV RX10 297 RX1 yX1_sheetsAt wsX1_sheetsAt) := gw_c t_w421 (gw_c t_w420 (gw_c t_w419 (gw_c t_w27 (gw_c t_w418 (gw_t)))))
theorem gX10_lacks_X1_bottomRow : GoodIn wsX10_lacks (wsV RX10 400 RX1 yX1_bottomRow wsX1_bottomRow) := gw_c t_w483 (gw_c t_w33 (gw_c t_w32 (gw_c t_w27 (gw_c t_w31 (gw_t)))))
theorem gX10_lacks_X1_topRow : GoodIn wsX10_lacks (wsV RX10 403 RX1 yX1_topRow wsX1_topRow) := gw_c t_w484 (gw_c t_w29 (gw_c t_w28 (gw_c t_w27 (gw_c t_w26 (gw_t)))))
theorem gX10_lacks_X1_inRow : GoodIn wsX10_lacks (wsV RX10 406 RX1 yX1_inRow wsX1_inRow) := gw_c t_w485 (gw_c t_w45 (gw_c t_w44 (gw_c t_w27 (gw_c t_w43 (gw_t)))))
theorem gX10_lacks_X1_keyFromWest : GoodIn wsX10_lacks (wsV RX10 409 RX1 yX1_keyFromWest wsX1_keyFromWest) := gw_c t_w486 (gw_c t_w49 (gw_c t_w48 (gw_c t_w27 (gw_c t_w47 (gw_t)))))
theorem gX10_lacks_X10_isLacking : GoodIn wsX10_lacks (wsV RX10 412 RX10 yX10_isLacking wsX10_isLacking) := gw_c t_w490 (gw_c t_w489 (gw_c t_w488 (gw_c t_w317 (gw_c t_w487 (gw_t)))))
theorem dX10_lacks_0 : decode cX10_lacks 0 = .ok (.iload_n 1, 1) := by decide +kernel
theorem dX10_lacks_1 : decode cX10_lacks 1 = .ok (.iload_n 2, 1) := by decide +kernel
theorem dX10_lacks_2 : decode cX10_lacks 2 = .ok (.iload_n 3, 1) := by decide +kernel
theorem dX10_lacks_3 : decode cX10_lacks 3 = .ok (.iload 4, 2) := by decide +kernel
theorem dX10_lacks_5 : decode cX10_lacks 5 = .ok (.invokestatic 289, 3) := by decide +kernel
theorem dX10_lacks_8 : decode cX10_lacks 8 = .ok (.ifCond .eq 29, 3) := by decide +kernel
theorem dX10_lacks_11 : decode cX10_lacks 11 = .ok (.iload 5, 2) := by decide +kernel
theorem dX10_lacks_13 : decode cX10_lacks 13 = .ok (.invokestatic 129, 3) := by decide +kernel
theorem dX10_lacks_16 : decode cX10_lacks 16 = .ok (.ifCond .eq 21, 3) := by decide +kernel
theorem dX10_lacks_19 : decode cX10_lacks 19 = .ok (.iload 6, 2) := by decide +kernel
theorem dX10_lacks_21 : decode cX10_lacks 21 = .ok (.iconst 0, 1) := by decide +kernel
theorem dX10_lacks_22 : decode cX10_lacks 22 = .ok (.sipush 2100, 3) := by decide +kernel
theorem dX10_lacks_25 : decode cX10_lacks 25 = .ok (.invokestatic 105, 3) := by decide +kernel
theorem dX10_lacks_28 : decode cX10_lacks 28 = .ok (.ifCond .eq 9, 3) := by decide +kernel
theorem dX10_lacks_31 : decode cX10_lacks 31 = .ok (.iload 7, 2) := by decide +kernel
theorem dX10_lacks_33 : decode cX10_lacks 33 = .ok (.iconst (-1), 1) := by decide +kernel
theorem dX10_lacks_34 : decode cX10_lacks 34 = .ok (.if_icmp .ge 5, 3) := by decide +kernel
theorem dX10_lacks_37 : decode cX10_lacks 37 = .ok (.iconst (-1), 1) := by decide +kernel
theorem dX10_lacks_38 : decode cX10_lacks 38 = .ok (.ireturn, 1) := by decide +kernel
theorem dX10_lacks_39 : decode cX10_lacks 39 = .ok (.aload_n 0, 1) := by decide +kernel
theorem dX10_lacks_40 : decode cX10_lacks 40 = .ok (.getfield 80, 3) := by decide +kernel
theorem dX10_lacks_43 : decode cX10_lacks 43 = .ok (.iload_n 1, 1) := by decide +kernel
theorem dX10_lacks_44 : decode cX10_lacks 44 = .ok (.iload_n 2, 1) := by decide +kernel
theorem dX10_lacks_45 : decode cX10_lacks 45 = .ok (.iload_n 3, 1) := by decide +kernel
theorem dX10_lacks_46 : decode cX10_lacks 46 = .ok (.iload 4, 2) := by decide +kernel
theorem dX10_lacks_48 : decode cX10_lacks 48 = .ok (.invokevirtual 293, 3) := by decide +kernel
theorem dX10_lacks_51 : decode cX10_lacks 51 = .ok (.aload_n 0, 1) := by decide +kernel
theorem dX10_lacks_52 : decode cX10_lacks 52 = .ok (.getfield 80, 3) := by decide +kernel
theorem dX10_lacks_55 : decode cX10_lacks 55 = .ok (.iload 5, 2) := by decide +kernel
theorem dX10_lacks_57 : decode cX10_lacks 57 = .ok (.invokevirtual 297, 3) := by decide +kernel
theorem dX10_lacks_60 : decode cX10_lacks 60 = .ok (.sipush 4000, 3) := by decide +kernel
theorem dX10_lacks_63 : decode cX10_lacks 63 = .ok (.if_icmp .le 6, 3) := by decide +kernel
theorem dX10_lacks_66 : decode cX10_lacks 66 = .ok (.bipush (-2), 2) := by decide +kernel
theorem dX10_lacks_68 : decode cX10_lacks 68 = .ok (.ireturn, 1) := by decide +kernel
theorem dX10_lacks_69 : decode cX10_lacks 69 = .ok (.iconst 0, 1) := by decide +kernel
theorem dX10_lacks_70 : decode cX10_lacks 70 = .ok (.istore 8, 2) := by decide +kernel
theorem dX10_lacks_72 : decode cX10_lacks 72 = .ok (.aload_n 0, 1) := by decide +kernel
theorem dX10_lacks_73 : decode cX10_lacks 73 = .ok (.getfield 80, 3) := by decide +kernel
theorem dX10_lacks_76 : decode cX10_lacks 76 = .ok (.iload 5, 2) := by decide +kernel
theorem dX10_lacks_78 : decode cX10_lacks 78 = .ok (.invokevirtual 400, 3) := by decide +kernel
theorem dX10_lacks_81 : decode cX10_lacks 81 = .ok (.istore 9, 2) := by decide +kernel
theorem dX10_lacks_83 : decode cX10_lacks 83 = .ok (.aload_n 0, 1) := by decide +kernel
theorem dX10_lacks_84 : decode cX10_lacks 84 = .ok (.getfield 80, 3) := by decide +kernel
theorem dX10_lacks_87 : decode cX10_lacks 87 = .ok (.iload 5, 2) := by decide +kernel
theorem dX10_lacks_89 : decode cX10_lacks 89 = .ok (.invokevirtual 403, 3) := by decide +kernel
theorem dX10_lacks_92 : decode cX10_lacks 92 = .ok (.istore 10, 2) := by decide +kernel
theorem dX10_lacks_94 : decode cX10_lacks 94 = .ok (.iload 10, 2) := by decide +kernel
theorem dX10_lacks_96 : decode cX10_lacks 96 = .ok (.iload 9, 2) := by decide +kernel
theorem dX10_lacks_98 : decode cX10_lacks 98 = .ok (.if_icmp .gt 82, 3) := by decide +kernel
theorem dX10_lacks_101 : decode cX10_lacks 101 = .ok (.aload_n 0, 1) := by decide +kernel
theorem dX10_lacks_102 : decode cX10_lacks 102 = .ok (.getfield 80, 3) := by decide +kernel
theorem dX10_lacks_105 : decode cX10_lacks 105 = .ok (.iload 5, 2) := by decide +kernel
theorem dX10_lacks_107 : decode cX10_lacks 107 = .ok (.iload 10, 2) := by decide +kernel
theorem dX10_lacks_109 : decode cX10_lacks 109 = .ok (.invokevirtual 406, 3) := by decide +kernel
theorem dX10_lacks_112 : decode cX10_lacks 112 = .ok (.istore 11, 2) := by decide +kernel
theorem dX10_lacks_114 : decode cX10_lacks 114 = .ok (.iconst 0, 1) := by decide +kernel
theorem dX10_lacks_115 : decode cX10_lacks 115 = .ok (.istore 12, 2) := by decide +kernel
theorem dX10_lacks_117 : decode cX10_lacks 117 = .ok (.iload 12, 2) := by decide +kernel
theorem dX10_lacks_119 : decode cX10_lacks 119 = .ok (.iload 11, 2) := by decide +kernel
theorem dX10_lacks_121 : decode cX10_lacks 121 = .ok (.if_icmp .ge 53, 3) := by decide +kernel
theorem dX10_lacks_124 : decode cX10_lacks 124 = .ok (.aload_n 0, 1) := by decide +kernel
theorem dX10_lacks_125 : decode cX10_lacks 125 = .ok (.getfield 80, 3) := by decide +kernel
theorem dX10_lacks_128 : decode cX10_lacks 128 = .ok (.iload 5, 2) := by decide +kernel
theorem dX10_lacks_130 : decode cX10_lacks 130 = .ok (.iload 10, 2) := by decide +kernel
theorem dX10_lacks_132 : decode cX10_lacks 132 = .ok (.iload 12, 2) := by decide +kernel
theorem dX10_lacks_134 : decode cX10_lacks 134 = .ok (.invokevirtual 409, 3) := by decide +kernel
theorem dX10_lacks_137 : decode cX10_lacks 137 = .ok (.istore 13, 2) := by decide +kernel
theorem dX10_lacks_139 : decode cX10_lacks 139 = .ok (.aload_n 0, 1) := by decide +kernel
theorem dX10_lacks_140 : decode cX10_lacks 140 = .ok (.iload 5, 2) := by decide +kernel
theorem dX10_lacks_142 : decode cX10_lacks 142 = .ok (.iload 13, 2) := by decide +kernel
theorem dX10_lacks_144 : decode cX10_lacks 144 = .ok (.iload 6, 2) := by decide +kernel
theorem dX10_lacks_146 : decode cX10_lacks 146 = .ok (.invokevirtual 412, 3) := by decide +kernel
theorem dX10_lacks_149 : decode cX10_lacks 149 = .ok (.ifCond .ne 6, 3) := by decide +kernel
theorem dX10_lacks_152 : decode cX10_lacks 152 = .ok (.goto 16, 3) := by decide +kernel
theorem dX10_lacks_155 : decode cX10_lacks 155 = .ok (.iload 8, 2) := by decide +kernel
theorem dX10_lacks_157 : decode cX10_lacks 157 = .ok (.iload 7, 2) := by decide +kernel
theorem dX10_lacks_159 : decode cX10_lacks 159 = .ok (.if_icmp .ne 6, 3) := by decide +kernel
theorem dX10_lacks_162 : decode cX10_lacks 162 = .ok (.iload 13, 2) := by decide +kernel
theorem dX10_lacks_164 : decode cX10_lacks 164 = .ok (.ireturn, 1) := by decide +kernel
theorem dX10_lacks_165 : decode cX10_lacks 165 = .ok (.iinc 8 1, 3) := by decide +kernel
theorem dX10_lacks_168 : decode cX10_lacks 168 = .ok (.iinc 12 1, 3) := by decide +kernel
theorem dX10_lacks_171 : decode cX10_lacks 171 = .ok (.goto (-54), 3) := by decide +kernel
theorem dX10_lacks_174 : decode cX10_lacks 174 = .ok (.iinc 10 1, 3) := by decide +kernel
theorem dX10_lacks_177 : decode cX10_lacks 177 = .ok (.goto (-83), 3) := by decide +kernel
theorem dX10_lacks_180 : decode cX10_lacks 180 = .ok (.iload 7, 2) := by decide +kernel
theorem dX10_lacks_182 : decode cX10_lacks 182 = .ok (.iconst (-1), 1) := by decide +kernel
theorem dX10_lacks_183 : decode cX10_lacks 183 = .ok (.if_icmp .ne 8, 3) := by decide +kernel
theorem dX10_lacks_186 : decode cX10_lacks 186 = .ok (.iload 8, 2) := by decide +kernel
theorem dX10_lacks_188 : decode cX10_lacks 188 = .ok (.goto 5, 3) := by decide +kernel
theorem dX10_lacks_191 : decode cX10_lacks 191 = .ok (.bipush (-3), 2) := by decide +kernel
theorem dX10_lacks_193 : decode cX10_lacks 193 = .ok (.ireturn, 1) := by decide +kernel
theorem gX10_isLacking_X6_put : GoodIn wsX10_isLacking (wsV RX10 159 RX6 yX6_put wsX6_put) := gw_c t_w338 (gw_c t_w283 (gw_c t_w282 (gw_c t_w135 (gw_c t_w281 (gw_t)))))
theorem gX10_isLacking_X6_middleLat : GoodIn wsX10_isLacking (wsV RX10 208 RX6 yX6_middleLat wsX6_middleLat) := gw_c t_w361 (gw_c t_w360 (gw_c t_w359 (gw_c t_w135 (gw_c t_w358 (gw_t)))))
theorem gX10_isLacking_X6_middleLon : GoodIn wsX10_isLacking (wsV RX10 211 RX6 yX6_middleLon wsX6_middleLon) := gw_c t_w365 (gw_c t_w364 (gw_c t_w363 (gw_c t_w135 (gw_c t_w362 (gw_t)))))
theorem gX10_isLacking_X7_lookAt : GoodIn wsX10_isLacking (wsV RX10 388 RX7 yX7_lookAt wsX7_lookAt) := gw_c t_w482 (gw_c t_w481 (gw_c t_w480 (gw_c t_w6 (gw_c t_w479 (gw_t)))))
theorem dX10_isLacking_0 : decode cX10_isLacking 0 = .ok (.aload_n 0, 1) := by decide +kernel
theorem dX10_isLacking_1 : decode cX10_isLacking 1 = .ok (.getfield 66, 3) := by decide +kernel
theorem dX10_isLacking_4 : decode cX10_isLacking 4 = .ok (.iload_n 1, 1) := by decide +kernel
theorem dX10_isLacking_5 : decode cX10_isLacking 5 = .ok (.iload_n 2, 1) := by decide +kernel
theorem dX10_isLacking_6 : decode cX10_isLacking 6 = .ok (.invokevirtual 159, 3) := by decide +kernel
theorem dX10_isLacking_9 : decode cX10_isLacking 9 = .ok (.aload_n 0, 1) := by decide +kernel
theorem dX10_isLacking_10 : decode cX10_isLacking 10 = .ok (.getfield 25, 3) := by decide +kernel
theorem dX10_isLacking_13 : decode cX10_isLacking 13 = .ok (.aload_n 0, 1) := by decide +kernel
theorem dX10_isLacking_14 : decode cX10_isLacking 14 = .ok (.getfield 66, 3) := by decide +kernel
theorem dX10_isLacking_17 : decode cX10_isLacking 17 = .ok (.invokevirtual 208, 3) := by decide +kernel
theorem dX10_isLacking_20 : decode cX10_isLacking 20 = .ok (.aload_n 0, 1) := by decide +kernel
theorem dX10_isLacking_21 : decode cX10_isLacking 21 = .ok (.getfield 66, 3) := by decide +kernel
theorem dX10_isLacking_24 : decode cX10_isLacking 24 = .ok (.invokevirtual 211, 3) := by decide +kernel
theorem dX10_isLacking_27 : decode cX10_isLacking 27 = .ok (.invokevirtual 388, 3) := by decide +kernel
theorem dX10_isLacking_30 : decode cX10_isLacking 30 = .ok (.aload_n 0, 1) := by decide +kernel
theorem dX10_isLacking_31 : decode cX10_isLacking 31 = .ok (.getfield 25, 3) := by decide +kernel
theorem dX10_isLacking_34 : decode cX10_isLacking 34 = .ok (.getfield 391, 3) := by decide +kernel
theorem dX10_isLacking_37 : decode cX10_isLacking 37 = .ok (.ifCond .eq 14, 3) := by decide +kernel
theorem dX10_isLacking_40 : decode cX10_isLacking 40 = .ok (.aload_n 0, 1) := by decide +kernel
theorem dX10_isLacking_41 : decode cX10_isLacking 41 = .ok (.getfield 25, 3) := by decide +kernel
theorem dX10_isLacking_44 : decode cX10_isLacking 44 = .ok (.getfield 397, 3) := by decide +kernel
theorem dX10_isLacking_47 : decode cX10_isLacking 47 = .ok (.iload_n 3, 1) := by decide +kernel
theorem dX10_isLacking_48 : decode cX10_isLacking 48 = .ok (.if_icmp .ge 7, 3) := by decide +kernel
theorem dX10_isLacking_51 : decode cX10_isLacking 51 = .ok (.iconst 1, 1) := by decide +kernel
theorem dX10_isLacking_52 : decode cX10_isLacking 52 = .ok (.goto 4, 3) := by decide +kernel
theorem dX10_isLacking_55 : decode cX10_isLacking 55 = .ok (.iconst 0, 1) := by decide +kernel
theorem dX10_isLacking_56 : decode cX10_isLacking 56 = .ok (.ireturn, 1) := by decide +kernel
theorem gX10_years_X10_isFrom : GoodIn wsX10_years (va_wsS RX10 105 yX10_isFrom wsX10_isFrom) := gw_c t_w319 (gw_c t_w318 (gw_c t_w317 (gw_c t_w316 (gw_t))))
theorem dX10_years_0 : decode cX10_years 0 = .ok (.iload_n 1, 1) := by decide +kernel
theorem dX10_years_1 : decode cX10_years 1 = .ok (.iconst 0, 1) := by decide +kernel
theorem dX10_years_2 : decode cX10_years 2 = .ok (.sipush 2100, 3) := by decide +kernel
theorem dX10_years_5 : decode cX10_years 5 = .ok (.invokestatic 105, 3) := by decide +kernel
theorem dX10_years_8 : decode cX10_years 8 = .ok (.ifCond .eq 23, 3) := by decide +kernel
theorem dX10_years_11 : decode cX10_years 11 = .ok (.iload_n 2, 1) := by decide +kernel
theorem dX10_years_12 : decode cX10_years 12 = .ok (.iconst 0, 1) := by decide +kernel
theorem dX10_years_13 : decode cX10_years 13 = .ok (.sipush 2100, 3) := by decide +kernel
theorem dX10_years_16 : decode cX10_years 16 = .ok (.invokestatic 105, 3) := by decide +kernel
theorem dX10_years_19 : decode cX10_years 19 = .ok (.ifCond .eq 12, 3) := by decide +kernel
theorem dX10_years_22 : decode cX10_years 22 = .ok (.iload_n 3, 1) := by decide +kernel
theorem dX10_years_23 : decode cX10_years 23 = .ok (.iconst 0, 1) := by decide +kernel
theorem dX10_years_24 : decode cX10_years 24 = .ok (.iconst 2, 1) := by decide +kernel
theorem dX10_years_25 : decode cX10_years 25 = .ok (.invokestatic 105, 3) := by decide +kernel
theorem dX10_years_28 : decode cX10_years 28 = .ok (.ifCond .ne 5, 3) := by decide +kernel
theorem dX10_years_31 : decode cX10_years 31 = .ok (.iconst (-1), 1) := by decide +kernel
theorem dX10_years_32 : decode cX10_years 32 = .ok (.ireturn, 1) := by decide +kernel
theorem dX10_years_33 : decode cX10_years 33 = .ok (.iconst 0, 1) := by decide +kernel
theorem dX10_years_34 : decode cX10_years 34 = .ok (.istore 4, 2) := by decide +kernel
theorem dX10_years_36 : decode cX10_years 36 = .ok (.sipush 2100, 3) := by decide +kernel
theorem dX10_years_39 : decode cX10_years 39 = .ok (.istore 5, 2) := by decide +kernel
theorem dX10_years_41 : decode cX10_years 41 = .ok (.iconst 0, 1) := by decide +kernel
theorem dX10_years_42 : decode cX10_years 42 = .ok (.istore 6, 2) := by decide +kernel
theorem dX10_years_44 : decode cX10_years 44 = .ok (.iconst 0, 1) := by decide +kernel
theorem dX10_years_45 : decode cX10_years 45 = .ok (.istore 7, 2) := by decide +kernel
theorem dX10_years_47 : decode cX10_years 47 = .ok (.iload 7, 2) := by decide +kernel
theorem dX10_years_49 : decode cX10_years 49 = .ok (.aload_n 0, 1) := by decide +kernel
theorem dX10_years_50 : decode cX10_years 50 = .ok (.getfield 25, 3) := by decide +kernel
theorem dX10_years_53 : decode cX10_years 53 = .ok (.getfield 109, 3) := by decide +kernel
theorem dX10_years_56 : decode cX10_years 56 = .ok (.if_icmp .ge 52, 3) := by decide +kernel
theorem dX10_years_59 : decode cX10_years 59 = .ok (.aload_n 0, 1) := by decide +kernel
theorem dX10_years_60 : decode cX10_years 60 = .ok (.getfield 25, 3) := by decide +kernel
theorem dX10_years_63 : decode cX10_years 63 = .ok (.getfield 376, 3) := by decide +kernel
theorem dX10_years_66 : decode cX10_years 66 = .ok (.iload 7, 2) := by decide +kernel
theorem dX10_years_68 : decode cX10_years 68 = .ok (.iaload, 1) := by decide +kernel
theorem dX10_years_69 : decode cX10_years 69 = .ok (.istore 8, 2) := by decide +kernel
theorem dX10_years_71 : decode cX10_years 71 = .ok (.iload 8, 2) := by decide +kernel
theorem dX10_years_73 : decode cX10_years 73 = .ok (.iload_n 1, 1) := by decide +kernel
theorem dX10_years_74 : decode cX10_years 74 = .ok (.iload_n 2, 1) := by decide +kernel
theorem dX10_years_75 : decode cX10_years 75 = .ok (.invokestatic 105, 3) := by decide +kernel
theorem dX10_years_78 : decode cX10_years 78 = .ok (.ifCond .eq 24, 3) := by decide +kernel
theorem dX10_years_81 : decode cX10_years 81 = .ok (.iinc 4 1, 3) := by decide +kernel
theorem dX10_years_84 : decode cX10_years 84 = .ok (.iload 5, 2) := by decide +kernel
theorem dX10_years_86 : decode cX10_years 86 = .ok (.iload 8, 2) := by decide +kernel
theorem dX10_years_88 : decode cX10_years 88 = .ok (.invokestatic 310, 3) := by decide +kernel
theorem dX10_years_91 : decode cX10_years 91 = .ok (.istore 5, 2) := by decide +kernel
theorem dX10_years_93 : decode cX10_years 93 = .ok (.iload 6, 2) := by decide +kernel
theorem dX10_years_95 : decode cX10_years 95 = .ok (.iload 8, 2) := by decide +kernel
theorem dX10_years_97 : decode cX10_years 97 = .ok (.invokestatic 313, 3) := by decide +kernel
theorem dX10_years_100 : decode cX10_years 100 = .ok (.istore 6, 2) := by decide +kernel
theorem dX10_years_102 : decode cX10_years 102 = .ok (.iinc 7 1, 3) := by decide +kernel
theorem dX10_years_105 : decode cX10_years 105 = .ok (.goto (-58), 3) := by decide +kernel
theorem dX10_years_108 : decode cX10_years 108 = .ok (.iload_n 3, 1) := by decide +kernel
theorem dX10_years_109 : decode cX10_years 109 = .ok (.ifCond .ne 6, 3) := by decide +kernel
theorem dX10_years_112 : decode cX10_years 112 = .ok (.iload 4, 2) := by decide +kernel
theorem dX10_years_114 : decode cX10_years 114 = .ok (.ireturn, 1) := by decide +kernel
theorem dX10_years_115 : decode cX10_years 115 = .ok (.iload 4, 2) := by decide +kernel
theorem dX10_years_117 : decode cX10_years 117 = .ok (.ifCond .ne 6, 3) := by decide +kernel
theorem dX10_years_120 : decode cX10_years 120 = .ok (.bipush (-2), 2) := by decide +kernel
theorem dX10_years_122 : decode cX10_years 122 = .ok (.ireturn, 1) := by decide +kernel
theorem dX10_years_123 : decode cX10_years 123 = .ok (.iload_n 3, 1) := by decide +kernel
theorem dX10_years_124 : decode cX10_years 124 = .ok (.iconst 1, 1) := by decide +kernel
theorem dX10_years_125 : decode cX10_years 125 = .ok (.if_icmp .ne 8, 3) := by decide +kernel
theorem dX10_years_128 : decode cX10_years 128 = .ok (.iload 5, 2) := by decide +kernel
theorem dX10_years_130 : decode cX10_years 130 = .ok (.goto 5, 3) := by decide +kernel
theorem dX10_years_133 : decode cX10_years 133 = .ok (.iload 6, 2) := by decide +kernel
theorem dX10_years_135 : decode cX10_years 135 = .ok (.ireturn, 1) := by decide +kernel
theorem gX10_renew_X10_isLevel : GoodIn wsX10_renew (va_wsS RX10 129 yX10_isLevel wsX10_isLevel) := gw_c t_w329 (gw_c t_w328 (gw_c t_w317 (gw_c t_w83 (gw_t))))
theorem gX10_renew_X10_isFrom : GoodIn wsX10_renew (va_wsS RX10 105 yX10_isFrom wsX10_isFrom) := gw_c t_w319 (gw_c t_w318 (gw_c t_w317 (gw_c t_w316 (gw_t))))
theorem dX10_renew_0 : decode cX10_renew 0 = .ok (.iload_n 1, 1) := by decide +kernel
theorem dX10_renew_1 : decode cX10_renew 1 = .ok (.invokestatic 129, 3) := by decide +kernel
theorem dX10_renew_4 : decode cX10_renew 4 = .ok (.ifCond .eq 16, 3) := by decide +kernel
theorem dX10_renew_7 : decode cX10_renew 7 = .ok (.iload_n 2, 1) := by decide +kernel
theorem dX10_renew_8 : decode cX10_renew 8 = .ok (.sipush 1800, 3) := by decide +kernel
theorem dX10_renew_11 : decode cX10_renew 11 = .ok (.sipush 2100, 3) := by decide +kernel
theorem dX10_renew_14 : decode cX10_renew 14 = .ok (.invokestatic 105, 3) := by decide +kernel
theorem dX10_renew_17 : decode cX10_renew 17 = .ok (.ifCond .ne 5, 3) := by decide +kernel
theorem dX10_renew_20 : decode cX10_renew 20 = .ok (.iconst (-1), 1) := by decide +kernel
theorem dX10_renew_21 : decode cX10_renew 21 = .ok (.ireturn, 1) := by decide +kernel
theorem dX10_renew_22 : decode cX10_renew 22 = .ok (.iconst 0, 1) := by decide +kernel
theorem dX10_renew_23 : decode cX10_renew 23 = .ok (.istore_n 3, 1) := by decide +kernel
theorem dX10_renew_24 : decode cX10_renew 24 = .ok (.iconst 0, 1) := by decide +kernel
theorem dX10_renew_25 : decode cX10_renew 25 = .ok (.istore 4, 2) := by decide +kernel
theorem dX10_renew_27 : decode cX10_renew 27 = .ok (.iload 4, 2) := by decide +kernel
theorem dX10_renew_29 : decode cX10_renew 29 = .ok (.aload_n 0, 1) := by decide +kernel
theorem dX10_renew_30 : decode cX10_renew 30 = .ok (.getfield 25, 3) := by decide +kernel
theorem dX10_renew_33 : decode cX10_renew 33 = .ok (.getfield 109, 3) := by decide +kernel
theorem dX10_renew_36 : decode cX10_renew 36 = .ok (.if_icmp .ge 51, 3) := by decide +kernel
theorem dX10_renew_39 : decode cX10_renew 39 = .ok (.aload_n 0, 1) := by decide +kernel
theorem dX10_renew_40 : decode cX10_renew 40 = .ok (.getfield 25, 3) := by decide +kernel
theorem dX10_renew_43 : decode cX10_renew 43 = .ok (.getfield 382, 3) := by decide +kernel
theorem dX10_renew_46 : decode cX10_renew 46 = .ok (.iload 4, 2) := by decide +kernel
theorem dX10_renew_48 : decode cX10_renew 48 = .ok (.iaload, 1) := by decide +kernel
theorem dX10_renew_49 : decode cX10_renew 49 = .ok (.iload_n 1, 1) := by decide +kernel
theorem dX10_renew_50 : decode cX10_renew 50 = .ok (.if_icmp .ne 31, 3) := by decide +kernel
theorem dX10_renew_53 : decode cX10_renew 53 = .ok (.aload_n 0, 1) := by decide +kernel
theorem dX10_renew_54 : decode cX10_renew 54 = .ok (.getfield 25, 3) := by decide +kernel
theorem dX10_renew_57 : decode cX10_renew 57 = .ok (.getfield 376, 3) := by decide +kernel
theorem dX10_renew_60 : decode cX10_renew 60 = .ok (.iload 4, 2) := by decide +kernel
theorem dX10_renew_62 : decode cX10_renew 62 = .ok (.iaload, 1) := by decide +kernel
theorem dX10_renew_63 : decode cX10_renew 63 = .ok (.iload_n 2, 1) := by decide +kernel
theorem dX10_renew_64 : decode cX10_renew 64 = .ok (.if_icmp .ge 17, 3) := by decide +kernel
theorem dX10_renew_67 : decode cX10_renew 67 = .ok (.aload_n 0, 1) := by decide +kernel
theorem dX10_renew_68 : decode cX10_renew 68 = .ok (.getfield 25, 3) := by decide +kernel
theorem dX10_renew_71 : decode cX10_renew 71 = .ok (.getfield 376, 3) := by decide +kernel
theorem dX10_renew_74 : decode cX10_renew 74 = .ok (.iload 4, 2) := by decide +kernel
theorem dX10_renew_76 : decode cX10_renew 76 = .ok (.iload_n 2, 1) := by decide +kernel
theorem dX10_renew_77 : decode cX10_renew 77 = .ok (.iastore, 1) := by decide +kernel
theorem dX10_renew_78 : decode cX10_renew 78 = .ok (.iinc 3 1, 3) := by decide +kernel
theorem dX10_renew_81 : decode cX10_renew 81 = .ok (.iinc 4 1, 3) := by decide +kernel
theorem dX10_renew_84 : decode cX10_renew 84 = .ok (.goto (-57), 3) := by decide +kernel
theorem dX10_renew_87 : decode cX10_renew 87 = .ok (.iload_n 3, 1) := by decide +kernel
theorem dX10_renew_88 : decode cX10_renew 88 = .ok (.ireturn, 1) := by decide +kernel
theorem gX10_oldest_X10_isLevel : GoodIn wsX10_oldest (va_wsS RX10 129 yX10_isLevel wsX10_isLevel) := gw_c t_w329 (gw_c t_w328 (gw_c t_w317 (gw_c t_w83 (gw_t))))
theorem gX10_oldest_X10_isFrom : GoodIn wsX10_oldest (va_wsS RX10 105 yX10_isFrom wsX10_isFrom) := gw_c t_w319 (gw_c t_w318 (gw_c t_w317 (gw_c t_w316 (gw_t))))
theorem dX10_oldest_0 : decode cX10_oldest 0 = .ok (.iload_n 1, 1) := by decide +kernel
theorem dX10_oldest_1 : decode cX10_oldest 1 = .ok (.invokestatic 129, 3) := by decide +kernel
theorem dX10_oldest_4 : decode cX10_oldest 4 = .ok (.ifCond .eq 12, 3) := by decide +kernel
theorem dX10_oldest_7 : decode cX10_oldest 7 = .ok (.iload_n 2, 1) := by decide +kernel
theorem dX10_oldest_8 : decode cX10_oldest 8 = .ok (.iconst 0, 1) := by decide +kernel
theorem dX10_oldest_9 : decode cX10_oldest 9 = .ok (.iconst 2, 1) := by decide +kernel
theorem dX10_oldest_10 : decode cX10_oldest 10 = .ok (.invokestatic 105, 3) := by decide +kernel
theorem dX10_oldest_13 : decode cX10_oldest 13 = .ok (.ifCond .ne 5, 3) := by decide +kernel
theorem dX10_oldest_16 : decode cX10_oldest 16 = .ok (.iconst (-1), 1) := by decide +kernel
theorem dX10_oldest_17 : decode cX10_oldest 17 = .ok (.ireturn, 1) := by decide +kernel
theorem dX10_oldest_18 : decode cX10_oldest 18 = .ok (.iconst (-1), 1) := by decide +kernel
theorem dX10_oldest_19 : decode cX10_oldest 19 = .ok (.istore_n 3, 1) := by decide +kernel
theorem dX10_oldest_20 : decode cX10_oldest 20 = .ok (.iconst 0, 1) := by decide +kernel
theorem dX10_oldest_21 : decode cX10_oldest 21 = .ok (.istore 4, 2) := by decide +kernel
theorem dX10_oldest_23 : decode cX10_oldest 23 = .ok (.iconst 0, 1) := by decide +kernel
theorem dX10_oldest_24 : decode cX10_oldest 24 = .ok (.istore 5, 2) := by decide +kernel
theorem dX10_oldest_26 : decode cX10_oldest 26 = .ok (.iload 5, 2) := by decide +kernel
theorem dX10_oldest_28 : decode cX10_oldest 28 = .ok (.aload_n 0, 1) := by decide +kernel
theorem dX10_oldest_29 : decode cX10_oldest 29 = .ok (.getfield 25, 3) := by decide +kernel
theorem dX10_oldest_32 : decode cX10_oldest 32 = .ok (.getfield 109, 3) := by decide +kernel
theorem dX10_oldest_35 : decode cX10_oldest 35 = .ok (.if_icmp .ge 84, 3) := by decide +kernel
theorem dX10_oldest_38 : decode cX10_oldest 38 = .ok (.aload_n 0, 1) := by decide +kernel
theorem dX10_oldest_39 : decode cX10_oldest 39 = .ok (.getfield 25, 3) := by decide +kernel
theorem dX10_oldest_42 : decode cX10_oldest 42 = .ok (.getfield 382, 3) := by decide +kernel
theorem dX10_oldest_45 : decode cX10_oldest 45 = .ok (.iload 5, 2) := by decide +kernel
theorem dX10_oldest_47 : decode cX10_oldest 47 = .ok (.iaload, 1) := by decide +kernel
theorem dX10_oldest_48 : decode cX10_oldest 48 = .ok (.iload_n 1, 1) := by decide +kernel
theorem dX10_oldest_49 : decode cX10_oldest 49 = .ok (.if_icmp .eq 6, 3) := by decide +kernel
theorem dX10_oldest_52 : decode cX10_oldest 52 = .ok (.goto 61, 3) := by decide +kernel
theorem dX10_oldest_55 : decode cX10_oldest 55 = .ok (.iload_n 3, 1) := by decide +kernel
theorem dX10_oldest_56 : decode cX10_oldest 56 = .ok (.iconst (-1), 1) := by decide +kernel
theorem dX10_oldest_57 : decode cX10_oldest 57 = .ok (.if_icmp .eq 25, 3) := by decide +kernel
theorem dX10_oldest_60 : decode cX10_oldest 60 = .ok (.aload_n 0, 1) := by decide +kernel
theorem dX10_oldest_61 : decode cX10_oldest 61 = .ok (.getfield 25, 3) := by decide +kernel
theorem dX10_oldest_64 : decode cX10_oldest 64 = .ok (.getfield 376, 3) := by decide +kernel
theorem dX10_oldest_67 : decode cX10_oldest 67 = .ok (.iload 5, 2) := by decide +kernel
theorem dX10_oldest_69 : decode cX10_oldest 69 = .ok (.iaload, 1) := by decide +kernel
theorem dX10_oldest_70 : decode cX10_oldest 70 = .ok (.aload_n 0, 1) := by decide +kernel
theorem dX10_oldest_71 : decode cX10_oldest 71 = .ok (.getfield 25, 3) := by decide +kernel
theorem dX10_oldest_74 : decode cX10_oldest 74 = .ok (.getfield 376, 3) := by decide +kernel
theorem dX10_oldest_77 : decode cX10_oldest 77 = .ok (.iload_n 3, 1) := by decide +kernel
theorem dX10_oldest_78 : decode cX10_oldest 78 = .ok (.iaload, 1) := by decide +kernel
theorem dX10_oldest_79 : decode cX10_oldest 79 = .ok (.if_icmp .ge 9, 3) := by decide +kernel
theorem dX10_oldest_82 : decode cX10_oldest 82 = .ok (.iload 5, 2) := by decide +kernel
theorem dX10_oldest_84 : decode cX10_oldest 84 = .ok (.istore_n 3, 1) := by decide +kernel
theorem dX10_oldest_85 : decode cX10_oldest 85 = .ok (.iconst 0, 1) := by decide +kernel
theorem dX10_oldest_86 : decode cX10_oldest 86 = .ok (.istore 4, 2) := by decide +kernel
theorem dX10_oldest_88 : decode cX10_oldest 88 = .ok (.aload_n 0, 1) := by decide +kernel
theorem dX10_oldest_89 : decode cX10_oldest 89 = .ok (.getfield 25, 3) := by decide +kernel
theorem dX10_oldest_92 : decode cX10_oldest 92 = .ok (.getfield 376, 3) := by decide +kernel
theorem dX10_oldest_95 : decode cX10_oldest 95 = .ok (.iload 5, 2) := by decide +kernel
theorem dX10_oldest_97 : decode cX10_oldest 97 = .ok (.iaload, 1) := by decide +kernel
theorem dX10_oldest_98 : decode cX10_oldest 98 = .ok (.aload_n 0, 1) := by decide +kernel
theorem dX10_oldest_99 : decode cX10_oldest 99 = .ok (.getfield 25, 3) := by decide +kernel
theorem dX10_oldest_102 : decode cX10_oldest 102 = .ok (.getfield 376, 3) := by decide +kernel
theorem dX10_oldest_105 : decode cX10_oldest 105 = .ok (.iload_n 3, 1) := by decide +kernel
theorem dX10_oldest_106 : decode cX10_oldest 106 = .ok (.iaload, 1) := by decide +kernel
theorem dX10_oldest_107 : decode cX10_oldest 107 = .ok (.if_icmp .ne 6, 3) := by decide +kernel
theorem dX10_oldest_110 : decode cX10_oldest 110 = .ok (.iinc 4 1, 3) := by decide +kernel
theorem dX10_oldest_113 : decode cX10_oldest 113 = .ok (.iinc 5 1, 3) := by decide +kernel
theorem dX10_oldest_116 : decode cX10_oldest 116 = .ok (.goto (-90), 3) := by decide +kernel
theorem dX10_oldest_119 : decode cX10_oldest 119 = .ok (.iload_n 3, 1) := by decide +kernel
theorem dX10_oldest_120 : decode cX10_oldest 120 = .ok (.iconst (-1), 1) := by decide +kernel
theorem dX10_oldest_121 : decode cX10_oldest 121 = .ok (.if_icmp .ne 6, 3) := by decide +kernel
theorem dX10_oldest_124 : decode cX10_oldest 124 = .ok (.bipush (-2), 2) := by decide +kernel
theorem dX10_oldest_126 : decode cX10_oldest 126 = .ok (.ireturn, 1) := by decide +kernel
theorem dX10_oldest_127 : decode cX10_oldest 127 = .ok (.iload_n 2, 1) := by decide +kernel
theorem dX10_oldest_128 : decode cX10_oldest 128 = .ok (.ifCond .ne 13, 3) := by decide +kernel
theorem dX10_oldest_131 : decode cX10_oldest 131 = .ok (.aload_n 0, 1) := by decide +kernel
theorem dX10_oldest_132 : decode cX10_oldest 132 = .ok (.getfield 25, 3) := by decide +kernel
theorem dX10_oldest_135 : decode cX10_oldest 135 = .ok (.getfield 385, 3) := by decide +kernel
theorem dX10_oldest_138 : decode cX10_oldest 138 = .ok (.iload_n 3, 1) := by decide +kernel
theorem dX10_oldest_139 : decode cX10_oldest 139 = .ok (.iaload, 1) := by decide +kernel
theorem dX10_oldest_140 : decode cX10_oldest 140 = .ok (.ireturn, 1) := by decide +kernel
theorem dX10_oldest_141 : decode cX10_oldest 141 = .ok (.iload_n 2, 1) := by decide +kernel
theorem dX10_oldest_142 : decode cX10_oldest 142 = .ok (.iconst 1, 1) := by decide +kernel
theorem dX10_oldest_143 : decode cX10_oldest 143 = .ok (.if_icmp .ne 15, 3) := by decide +kernel
theorem dX10_oldest_146 : decode cX10_oldest 146 = .ok (.aload_n 0, 1) := by decide +kernel
theorem dX10_oldest_147 : decode cX10_oldest 147 = .ok (.getfield 25, 3) := by decide +kernel
theorem dX10_oldest_150 : decode cX10_oldest 150 = .ok (.getfield 376, 3) := by decide +kernel
theorem dX10_oldest_153 : decode cX10_oldest 153 = .ok (.iload_n 3, 1) := by decide +kernel
theorem dX10_oldest_154 : decode cX10_oldest 154 = .ok (.iaload, 1) := by decide +kernel
theorem dX10_oldest_155 : decode cX10_oldest 155 = .ok (.goto 5, 3) := by decide +kernel
theorem dX10_oldest_158 : decode cX10_oldest 158 = .ok (.iload 4, 2) := by decide +kernel
theorem dX10_oldest_160 : decode cX10_oldest 160 = .ok (.ireturn, 1) := by decide +kernel
theorem gX10_tidy_X7_isNeedless : GoodIn wsX10_tidy (wsV RX10 415 RX7 yX7_isNeedless wsX7_isNeedless) := gw_c t_w494 (gw_c t_w493 (gw_c t_w492 (gw_c t_w6 (gw_c t_w491 (gw_t)))))
theorem gX10_tidy_X7_remove : GoodIn wsX10_tidy (wsV RX10 379 RX7 yX7_remove wsX7_remove) := gw_c t_w478 (gw_c t_w477 (gw_c t_w476 (gw_c t_w6 (gw_c t_w475 (gw_t)))))
theorem dX10_tidy_0 : decode cX10_tidy 0 = .ok (.iconst 0, 1) := by decide +kernel
theorem dX10_tidy_1 : decode cX10_tidy 1 = .ok (.istore_n 1, 1) := by decide +kernel
theorem dX10_tidy_2 : decode cX10_tidy 2 = .ok (.aload_n 0, 1) := by decide +kernel
theorem dX10_tidy_3 : decode cX10_tidy 3 = .ok (.getfield 25, 3) := by decide +kernel
theorem dX10_tidy_6 : decode cX10_tidy 6 = .ok (.getfield 109, 3) := by decide +kernel
theorem dX10_tidy_9 : decode cX10_tidy 9 = .ok (.iconst 1, 1) := by decide +kernel
theorem dX10_tidy_10 : decode cX10_tidy 10 = .ok (.isub, 1) := by decide +kernel
theorem dX10_tidy_11 : decode cX10_tidy 11 = .ok (.istore_n 2, 1) := by decide +kernel
theorem dX10_tidy_12 : decode cX10_tidy 12 = .ok (.iload_n 2, 1) := by decide +kernel
theorem dX10_tidy_13 : decode cX10_tidy 13 = .ok (.ifCond .lt 31, 3) := by decide +kernel
theorem dX10_tidy_16 : decode cX10_tidy 16 = .ok (.aload_n 0, 1) := by decide +kernel
theorem dX10_tidy_17 : decode cX10_tidy 17 = .ok (.getfield 25, 3) := by decide +kernel
theorem dX10_tidy_20 : decode cX10_tidy 20 = .ok (.iload_n 2, 1) := by decide +kernel
theorem dX10_tidy_21 : decode cX10_tidy 21 = .ok (.invokevirtual 415, 3) := by decide +kernel
theorem dX10_tidy_24 : decode cX10_tidy 24 = .ok (.ifCond .eq 14, 3) := by decide +kernel
theorem dX10_tidy_27 : decode cX10_tidy 27 = .ok (.aload_n 0, 1) := by decide +kernel
theorem dX10_tidy_28 : decode cX10_tidy 28 = .ok (.getfield 25, 3) := by decide +kernel
theorem dX10_tidy_31 : decode cX10_tidy 31 = .ok (.iload_n 2, 1) := by decide +kernel
theorem dX10_tidy_32 : decode cX10_tidy 32 = .ok (.invokevirtual 379, 3) := by decide +kernel
theorem dX10_tidy_35 : decode cX10_tidy 35 = .ok (.iinc 1 1, 3) := by decide +kernel
theorem dX10_tidy_38 : decode cX10_tidy 38 = .ok (.iinc 2 (-1), 3) := by decide +kernel
theorem dX10_tidy_41 : decode cX10_tidy 41 = .ok (.goto (-29), 3) := by decide +kernel
theorem dX10_tidy_44 : decode cX10_tidy 44 = .ok (.iload_n 1, 1) := by decide +kernel
theorem dX10_tidy_45 : decode cX10_tidy 45 = .ok (.ireturn, 1) := by decide +kernel
theorem gX10_changes_X10_isPlace : GoodIn wsX10_changes (va_wsS RX10 148 yX10_isPlace wsX10_isPlace) := gw_c t_w332 (gw_c t_w331 (gw_c t_w317 (gw_c t_w330 (gw_t))))
theorem gX10_changes_X10_isFrom : GoodIn wsX10_changes (va_wsS RX10 105 yX10_isFrom wsX10_isFrom) := gw_c t_w319 (gw_c t_w318 (gw_c t_w317 (gw_c t_w316 (gw_t))))
theorem gX10_changes_X10_isLevel : GoodIn wsX10_changes (va_wsS RX10 129 yX10_isLevel wsX10_isLevel) := gw_c t_w329 (gw_c t_w328 (gw_c t_w317 (gw_c t_w83 (gw_t))))
theorem gX10_changes_X2_keyOf : GoodIn wsX10_changes (wsV RX10 152 RX2 yX2_keyOf wsX2_keyOf) := gw_c t_w333 (gw_c t_w261 (gw_c t_w260 (gw_c t_w1 (gw_c t_w259 (gw_t)))))
theorem gX10_changes_J9_floorDiv_7cf53 : GoodIn wsX10_changes (va_wsS RX10 418 yJ9_floorDiv_7cf53 wsJ9_floorDiv_7cf53) := gw_c t_w497 (gw_c t_w496 (gw_c t_w76 (gw_c t_w495 (gw_t))))
theorem dX10_changes_0 : decode cX10_changes 0 = .ok (.iload_n 1, 1) := by decide +kernel
theorem dX10_changes_1 : decode cX10_changes 1 = .ok (.iload_n 2, 1) := by decide +kernel
theorem dX10_changes_2 : decode cX10_changes 2 = .ok (.invokestatic 148, 3) := by decide +kernel
theorem dX10_changes_5 : decode cX10_changes 5 = .ok (.ifCond .eq 32, 3) := by decide +kernel
theorem dX10_changes_8 : decode cX10_changes 8 = .ok (.iload_n 3, 1) := by decide +kernel
theorem dX10_changes_9 : decode cX10_changes 9 = .ok (.iload 4, 2) := by decide +kernel
theorem dX10_changes_11 : decode cX10_changes 11 = .ok (.invokestatic 148, 3) := by decide +kernel
theorem dX10_changes_14 : decode cX10_changes 14 = .ok (.ifCond .eq 23, 3) := by decide +kernel
theorem dX10_changes_17 : decode cX10_changes 17 = .ok (.iload 5, 2) := by decide +kernel
theorem dX10_changes_19 : decode cX10_changes 19 = .ok (.iconst 1, 1) := by decide +kernel
theorem dX10_changes_20 : decode cX10_changes 20 = .ok (.sipush 200, 3) := by decide +kernel
theorem dX10_changes_23 : decode cX10_changes 23 = .ok (.invokestatic 105, 3) := by decide +kernel
theorem dX10_changes_26 : decode cX10_changes 26 = .ok (.ifCond .eq 11, 3) := by decide +kernel
theorem dX10_changes_29 : decode cX10_changes 29 = .ok (.iload 6, 2) := by decide +kernel
theorem dX10_changes_31 : decode cX10_changes 31 = .ok (.invokestatic 129, 3) := by decide +kernel
theorem dX10_changes_34 : decode cX10_changes 34 = .ok (.ifCond .ne 5, 3) := by decide +kernel
theorem dX10_changes_37 : decode cX10_changes 37 = .ok (.iconst (-1), 1) := by decide +kernel
theorem dX10_changes_38 : decode cX10_changes 38 = .ok (.ireturn, 1) := by decide +kernel
theorem dX10_changes_39 : decode cX10_changes 39 = .ok (.iconst 0, 1) := by decide +kernel
theorem dX10_changes_40 : decode cX10_changes 40 = .ok (.istore 7, 2) := by decide +kernel
theorem dX10_changes_42 : decode cX10_changes 42 = .ok (.aload_n 0, 1) := by decide +kernel
theorem dX10_changes_43 : decode cX10_changes 43 = .ok (.getfield 20, 3) := by decide +kernel
theorem dX10_changes_46 : decode cX10_changes 46 = .ok (.iload 6, 2) := by decide +kernel
theorem dX10_changes_48 : decode cX10_changes 48 = .ok (.iload_n 1, 1) := by decide +kernel
theorem dX10_changes_49 : decode cX10_changes 49 = .ok (.iload_n 2, 1) := by decide +kernel
theorem dX10_changes_50 : decode cX10_changes 50 = .ok (.invokevirtual 152, 3) := by decide +kernel
theorem dX10_changes_53 : decode cX10_changes 53 = .ok (.istore 8, 2) := by decide +kernel
theorem dX10_changes_55 : decode cX10_changes 55 = .ok (.iconst 1, 1) := by decide +kernel
theorem dX10_changes_56 : decode cX10_changes 56 = .ok (.istore 9, 2) := by decide +kernel
theorem dX10_changes_58 : decode cX10_changes 58 = .ok (.iload 9, 2) := by decide +kernel
theorem dX10_changes_60 : decode cX10_changes 60 = .ok (.iload 5, 2) := by decide +kernel
theorem dX10_changes_62 : decode cX10_changes 62 = .ok (.if_icmp .gt 69, 3) := by decide +kernel
theorem dX10_changes_65 : decode cX10_changes 65 = .ok (.iload_n 1, 1) := by decide +kernel
theorem dX10_changes_66 : decode cX10_changes 66 = .ok (.iload_n 3, 1) := by decide +kernel
theorem dX10_changes_67 : decode cX10_changes 67 = .ok (.iload_n 1, 1) := by decide +kernel
theorem dX10_changes_68 : decode cX10_changes 68 = .ok (.isub, 1) := by decide +kernel
theorem dX10_changes_69 : decode cX10_changes 69 = .ok (.iload 9, 2) := by decide +kernel
theorem dX10_changes_71 : decode cX10_changes 71 = .ok (.imul, 1) := by decide +kernel
theorem dX10_changes_72 : decode cX10_changes 72 = .ok (.iload 5, 2) := by decide +kernel
theorem dX10_changes_74 : decode cX10_changes 74 = .ok (.invokestatic 418, 3) := by decide +kernel
theorem dX10_changes_77 : decode cX10_changes 77 = .ok (.iadd, 1) := by decide +kernel
theorem dX10_changes_78 : decode cX10_changes 78 = .ok (.istore 10, 2) := by decide +kernel
theorem dX10_changes_80 : decode cX10_changes 80 = .ok (.iload_n 2, 1) := by decide +kernel
theorem dX10_changes_81 : decode cX10_changes 81 = .ok (.iload 4, 2) := by decide +kernel
theorem dX10_changes_83 : decode cX10_changes 83 = .ok (.iload_n 2, 1) := by decide +kernel
theorem dX10_changes_84 : decode cX10_changes 84 = .ok (.isub, 1) := by decide +kernel
theorem dX10_changes_85 : decode cX10_changes 85 = .ok (.iload 9, 2) := by decide +kernel
theorem dX10_changes_87 : decode cX10_changes 87 = .ok (.imul, 1) := by decide +kernel
theorem dX10_changes_88 : decode cX10_changes 88 = .ok (.iload 5, 2) := by decide +kernel
theorem dX10_changes_90 : decode cX10_changes 90 = .ok (.invokestatic 418, 3) := by decide +kernel
theorem dX10_changes_93 : decode cX10_changes 93 = .ok (.iadd, 1) := by decide +kernel
theorem dX10_changes_94 : decode cX10_changes 94 = .ok (.istore 11, 2) := by decide +kernel
theorem dX10_changes_96 : decode cX10_changes 96 = .ok (.aload_n 0, 1) := by decide +kernel
theorem dX10_changes_97 : decode cX10_changes 97 = .ok (.getfield 20, 3) := by decide +kernel
theorem dX10_changes_100 : decode cX10_changes 100 = .ok (.iload 6, 2) := by decide +kernel
theorem dX10_changes_102 : decode cX10_changes 102 = .ok (.iload 10, 2) := by decide +kernel
theorem dX10_changes_104 : decode cX10_changes 104 = .ok (.iload 11, 2) := by decide +kernel
theorem dX10_changes_106 : decode cX10_changes 106 = .ok (.invokevirtual 152, 3) := by decide +kernel
theorem dX10_changes_109 : decode cX10_changes 109 = .ok (.istore 12, 2) := by decide +kernel
theorem dX10_changes_111 : decode cX10_changes 111 = .ok (.iload 12, 2) := by decide +kernel
theorem dX10_changes_113 : decode cX10_changes 113 = .ok (.iload 8, 2) := by decide +kernel
theorem dX10_changes_115 : decode cX10_changes 115 = .ok (.if_icmp .eq 6, 3) := by decide +kernel
theorem dX10_changes_118 : decode cX10_changes 118 = .ok (.iinc 7 1, 3) := by decide +kernel
theorem dX10_changes_121 : decode cX10_changes 121 = .ok (.iload 12, 2) := by decide +kernel
theorem dX10_changes_123 : decode cX10_changes 123 = .ok (.istore 8, 2) := by decide +kernel
theorem dX10_changes_125 : decode cX10_changes 125 = .ok (.iinc 9 1, 3) := by decide +kernel
theorem dX10_changes_128 : decode cX10_changes 128 = .ok (.goto (-70), 3) := by decide +kernel
theorem dX10_changes_131 : decode cX10_changes 131 = .ok (.iload 7, 2) := by decide +kernel
theorem dX10_changes_133 : decode cX10_changes 133 = .ok (.ireturn, 1) := by decide +kernel
theorem gX10_drawn_X10_isFrom : GoodIn wsX10_drawn (va_wsS RX10 105 yX10_isFrom wsX10_isFrom) := gw_c t_w319 (gw_c t_w318 (gw_c t_w317 (gw_c t_w316 (gw_t))))
theorem gX10_drawn_X10_isLevel : GoodIn wsX10_drawn (va_wsS RX10 129 yX10_isLevel wsX10_isLevel) := gw_c t_w329 (gw_c t_w328 (gw_c t_w317 (gw_c t_w83 (gw_t))))
theorem gX10_drawn_X10_nextDraw : GoodIn wsX10_drawn (va_wsS RX10 422 yX10_nextDraw wsX10_nextDraw) := gw_c t_w500 (gw_c t_w499 (gw_c t_w317 (gw_c t_w498 (gw_t))))
theorem gX10_drawn_X2_keyOf : GoodIn wsX10_drawn (wsV RX10 152 RX2 yX2_keyOf wsX2_keyOf) := gw_c t_w333 (gw_c t_w261 (gw_c t_w260 (gw_c t_w1 (gw_c t_w259 (gw_t)))))
theorem gX10_drawn_X10_isSeen : GoodIn wsX10_drawn (wsV RX10 426 RX10 yX10_isSeen wsX10_isSeen) := gw_c t_w504 (gw_c t_w503 (gw_c t_w502 (gw_c t_w317 (gw_c t_w501 (gw_t)))))
theorem dX10_drawn_0 : decode cX10_drawn 0 = .ok (.iload_n 2, 1) := by decide +kernel
theorem dX10_drawn_1 : decode cX10_drawn 1 = .ok (.iconst 1, 1) := by decide +kernel
theorem dX10_drawn_2 : decode cX10_drawn 2 = .ok (.sipush 200, 3) := by decide +kernel
theorem dX10_drawn_5 : decode cX10_drawn 5 = .ok (.invokestatic 105, 3) := by decide +kernel
theorem dX10_drawn_8 : decode cX10_drawn 8 = .ok (.ifCond .eq 10, 3) := by decide +kernel
theorem dX10_drawn_11 : decode cX10_drawn 11 = .ok (.iload_n 3, 1) := by decide +kernel
theorem dX10_drawn_12 : decode cX10_drawn 12 = .ok (.invokestatic 129, 3) := by decide +kernel
theorem dX10_drawn_15 : decode cX10_drawn 15 = .ok (.ifCond .ne 5, 3) := by decide +kernel
theorem dX10_drawn_18 : decode cX10_drawn 18 = .ok (.iconst (-1), 1) := by decide +kernel
theorem dX10_drawn_19 : decode cX10_drawn 19 = .ok (.ireturn, 1) := by decide +kernel
theorem dX10_drawn_20 : decode cX10_drawn 20 = .ok (.iload_n 1, 1) := by decide +kernel
theorem dX10_drawn_21 : decode cX10_drawn 21 = .ok (.ldc_w 421, 3) := by decide +kernel
theorem dX10_drawn_24 : decode cX10_drawn 24 = .ok (.iand, 1) := by decide +kernel
theorem dX10_drawn_25 : decode cX10_drawn 25 = .ok (.istore 4, 2) := by decide +kernel
theorem dX10_drawn_27 : decode cX10_drawn 27 = .ok (.iconst 0, 1) := by decide +kernel
theorem dX10_drawn_28 : decode cX10_drawn 28 = .ok (.istore 5, 2) := by decide +kernel
theorem dX10_drawn_30 : decode cX10_drawn 30 = .ok (.iconst 0, 1) := by decide +kernel
theorem dX10_drawn_31 : decode cX10_drawn 31 = .ok (.istore 6, 2) := by decide +kernel
theorem dX10_drawn_33 : decode cX10_drawn 33 = .ok (.iload 6, 2) := by decide +kernel
theorem dX10_drawn_35 : decode cX10_drawn 35 = .ok (.iload_n 2, 1) := by decide +kernel
theorem dX10_drawn_36 : decode cX10_drawn 36 = .ok (.if_icmp .ge 100, 3) := by decide +kernel
theorem dX10_drawn_39 : decode cX10_drawn 39 = .ok (.iload 4, 2) := by decide +kernel
theorem dX10_drawn_41 : decode cX10_drawn 41 = .ok (.invokestatic 422, 3) := by decide +kernel
theorem dX10_drawn_44 : decode cX10_drawn 44 = .ok (.istore 4, 2) := by decide +kernel
theorem dX10_drawn_46 : decode cX10_drawn 46 = .ok (.iload 4, 2) := by decide +kernel
theorem dX10_drawn_48 : decode cX10_drawn 48 = .ok (.iconst 4, 1) := by decide +kernel
theorem dX10_drawn_49 : decode cX10_drawn 49 = .ok (.idiv, 1) := by decide +kernel
theorem dX10_drawn_50 : decode cX10_drawn 50 = .ok (.sipush 16384, 3) := by decide +kernel
theorem dX10_drawn_53 : decode cX10_drawn 53 = .ok (.irem, 1) := by decide +kernel
theorem dX10_drawn_54 : decode cX10_drawn 54 = .ok (.bipush 39, 2) := by decide +kernel
theorem dX10_drawn_56 : decode cX10_drawn 56 = .ok (.imul, 1) := by decide +kernel
theorem dX10_drawn_57 : decode cX10_drawn 57 = .ok (.ldc_w 425, 3) := by decide +kernel
theorem dX10_drawn_60 : decode cX10_drawn 60 = .ok (.isub, 1) := by decide +kernel
theorem dX10_drawn_61 : decode cX10_drawn 61 = .ok (.istore 7, 2) := by decide +kernel
theorem dX10_drawn_63 : decode cX10_drawn 63 = .ok (.iload 4, 2) := by decide +kernel
theorem dX10_drawn_65 : decode cX10_drawn 65 = .ok (.invokestatic 422, 3) := by decide +kernel
theorem dX10_drawn_68 : decode cX10_drawn 68 = .ok (.istore 4, 2) := by decide +kernel
theorem dX10_drawn_70 : decode cX10_drawn 70 = .ok (.iload 4, 2) := by decide +kernel
theorem dX10_drawn_72 : decode cX10_drawn 72 = .ok (.iconst 4, 1) := by decide +kernel
theorem dX10_drawn_73 : decode cX10_drawn 73 = .ok (.idiv, 1) := by decide +kernel
theorem dX10_drawn_74 : decode cX10_drawn 74 = .ok (.sipush 16384, 3) := by decide +kernel
theorem dX10_drawn_77 : decode cX10_drawn 77 = .ok (.irem, 1) := by decide +kernel
theorem dX10_drawn_78 : decode cX10_drawn 78 = .ok (.bipush 79, 2) := by decide +kernel
theorem dX10_drawn_80 : decode cX10_drawn 80 = .ok (.imul, 1) := by decide +kernel
theorem dX10_drawn_81 : decode cX10_drawn 81 = .ok (.istore 8, 2) := by decide +kernel
theorem dX10_drawn_83 : decode cX10_drawn 83 = .ok (.aload_n 0, 1) := by decide +kernel
theorem dX10_drawn_84 : decode cX10_drawn 84 = .ok (.getfield 20, 3) := by decide +kernel
theorem dX10_drawn_87 : decode cX10_drawn 87 = .ok (.iload_n 3, 1) := by decide +kernel
theorem dX10_drawn_88 : decode cX10_drawn 88 = .ok (.iload 7, 2) := by decide +kernel
theorem dX10_drawn_90 : decode cX10_drawn 90 = .ok (.iload 8, 2) := by decide +kernel
theorem dX10_drawn_92 : decode cX10_drawn 92 = .ok (.invokevirtual 152, 3) := by decide +kernel
theorem dX10_drawn_95 : decode cX10_drawn 95 = .ok (.istore 9, 2) := by decide +kernel
theorem dX10_drawn_97 : decode cX10_drawn 97 = .ok (.aload_n 0, 1) := by decide +kernel
theorem dX10_drawn_98 : decode cX10_drawn 98 = .ok (.iload 9, 2) := by decide +kernel
theorem dX10_drawn_100 : decode cX10_drawn 100 = .ok (.iload 5, 2) := by decide +kernel
theorem dX10_drawn_102 : decode cX10_drawn 102 = .ok (.invokevirtual 426, 3) := by decide +kernel
theorem dX10_drawn_105 : decode cX10_drawn 105 = .ok (.ifCond .ne 25, 3) := by decide +kernel
theorem dX10_drawn_108 : decode cX10_drawn 108 = .ok (.iload 5, 2) := by decide +kernel
theorem dX10_drawn_110 : decode cX10_drawn 110 = .ok (.aload_n 0, 1) := by decide +kernel
theorem dX10_drawn_111 : decode cX10_drawn 111 = .ok (.getfield 94, 3) := by decide +kernel
theorem dX10_drawn_114 : decode cX10_drawn 114 = .ok (.arraylength, 1) := by decide +kernel
theorem dX10_drawn_115 : decode cX10_drawn 115 = .ok (.if_icmp .ge 15, 3) := by decide +kernel
theorem dX10_drawn_118 : decode cX10_drawn 118 = .ok (.aload_n 0, 1) := by decide +kernel
theorem dX10_drawn_119 : decode cX10_drawn 119 = .ok (.getfield 94, 3) := by decide +kernel
theorem dX10_drawn_122 : decode cX10_drawn 122 = .ok (.iload 5, 2) := by decide +kernel
theorem dX10_drawn_124 : decode cX10_drawn 124 = .ok (.iload 9, 2) := by decide +kernel
theorem dX10_drawn_126 : decode cX10_drawn 126 = .ok (.iastore, 1) := by decide +kernel
theorem dX10_drawn_127 : decode cX10_drawn 127 = .ok (.iinc 5 1, 3) := by decide +kernel
theorem dX10_drawn_130 : decode cX10_drawn 130 = .ok (.iinc 6 1, 3) := by decide +kernel
theorem dX10_drawn_133 : decode cX10_drawn 133 = .ok (.goto (-100), 3) := by decide +kernel
theorem dX10_drawn_136 : decode cX10_drawn 136 = .ok (.iload 5, 2) := by decide +kernel
theorem dX10_drawn_138 : decode cX10_drawn 138 = .ok (.ireturn, 1) := by decide +kernel
theorem dX10_nextDraw_0 : decode cX10_nextDraw 0 = .ok (.sipush 25173, 3) := by decide +kernel
theorem dX10_nextDraw_3 : decode cX10_nextDraw 3 = .ok (.iload_n 0, 1) := by decide +kernel
theorem dX10_nextDraw_4 : decode cX10_nextDraw 4 = .ok (.imul, 1) := by decide +kernel
theorem dX10_nextDraw_5 : decode cX10_nextDraw 5 = .ok (.sipush 13849, 3) := by decide +kernel
theorem dX10_nextDraw_8 : decode cX10_nextDraw 8 = .ok (.iadd, 1) := by decide +kernel
theorem dX10_nextDraw_9 : decode cX10_nextDraw 9 = .ok (.ldc_w 421, 3) := by decide +kernel
theorem dX10_nextDraw_12 : decode cX10_nextDraw 12 = .ok (.iand, 1) := by decide +kernel
theorem dX10_nextDraw_13 : decode cX10_nextDraw 13 = .ok (.ireturn, 1) := by decide +kernel
theorem dX10_isSeen_0 : decode cX10_isSeen 0 = .ok (.iconst 0, 1) := by decide +kernel
theorem dX10_isSeen_1 : decode cX10_isSeen 1 = .ok (.istore_n 3, 1) := by decide +kernel
theorem dX10_isSeen_2 : decode cX10_isSeen 2 = .ok (.iload_n 3, 1) := by decide +kernel
theorem dX10_isSeen_3 : decode cX10_isSeen 3 = .ok (.iload_n 2, 1) := by decide +kernel
theorem dX10_isSeen_4 : decode cX10_isSeen 4 = .ok (.if_icmp .ge 30, 3) := by decide +kernel
theorem dX10_isSeen_7 : decode cX10_isSeen 7 = .ok (.iload_n 3, 1) := by decide +kernel
theorem dX10_isSeen_8 : decode cX10_isSeen 8 = .ok (.aload_n 0, 1) := by decide +kernel
theorem dX10_isSeen_9 : decode cX10_isSeen 9 = .ok (.getfield 94, 3) := by decide +kernel
theorem dX10_isSeen_12 : decode cX10_isSeen 12 = .ok (.arraylength, 1) := by decide +kernel
theorem dX10_isSeen_13 : decode cX10_isSeen 13 = .ok (.if_icmp .ge 21, 3) := by decide +kernel
theorem dX10_isSeen_16 : decode cX10_isSeen 16 = .ok (.aload_n 0, 1) := by decide +kernel
theorem dX10_isSeen_17 : decode cX10_isSeen 17 = .ok (.getfield 94, 3) := by decide +kernel
theorem dX10_isSeen_20 : decode cX10_isSeen 20 = .ok (.iload_n 3, 1) := by decide +kernel
theorem dX10_isSeen_21 : decode cX10_isSeen 21 = .ok (.iaload, 1) := by decide +kernel
theorem dX10_isSeen_22 : decode cX10_isSeen 22 = .ok (.iload_n 1, 1) := by decide +kernel
theorem dX10_isSeen_23 : decode cX10_isSeen 23 = .ok (.if_icmp .ne 5, 3) := by decide +kernel
theorem dX10_isSeen_26 : decode cX10_isSeen 26 = .ok (.iconst 1, 1) := by decide +kernel
theorem dX10_isSeen_27 : decode cX10_isSeen 27 = .ok (.ireturn, 1) := by decide +kernel
theorem dX10_isSeen_28 : decode cX10_isSeen 28 = .ok (.iinc 3 1, 3) := by decide +kernel
theorem dX10_isSeen_31 : decode cX10_isSeen 31 = .ok (.goto (-29), 3) := by decide +kernel
theorem dX10_isSeen_34 : decode cX10_isSeen 34 = .ok (.iconst 0, 1) := by decide +kernel
theorem dX10_isSeen_35 : decode cX10_isSeen 35 = .ok (.ireturn, 1) := by decide +kernel
theorem gX10_bands_X10_areSheets : GoodIn wsX10_bands (wsV RX10 262 RX10 yX10_areSheets wsX10_areSheets) := gw_c t_w386 (gw_c t_w385 (gw_c t_w384 (gw_c t_w317 (gw_c t_w383 (gw_t)))))
theorem gX10_bands_X2_rowStart : GoodIn wsX10_bands (wsV RX10 235 RX2 yX2_rowStart wsX2_rowStart) := gw_c t_w370 (gw_c t_w24 (gw_c t_w23 (gw_c t_w1 (gw_c t_w22 (gw_t)))))
theorem dX10_bands_0 : decode cX10_bands 0 = .ok (.aload_n 0, 1) := by decide +kernel
theorem dX10_bands_1 : decode cX10_bands 1 = .ok (.iload_n 1, 1) := by decide +kernel
theorem dX10_bands_2 : decode cX10_bands 2 = .ok (.iload_n 2, 1) := by decide +kernel
theorem dX10_bands_3 : decode cX10_bands 3 = .ok (.iload_n 3, 1) := by decide +kernel
theorem dX10_bands_4 : decode cX10_bands 4 = .ok (.invokevirtual 262, 3) := by decide +kernel
theorem dX10_bands_7 : decode cX10_bands 7 = .ok (.ifCond .eq 8, 3) := by decide +kernel
theorem dX10_bands_10 : decode cX10_bands 10 = .ok (.iload_n 2, 1) := by decide +kernel
theorem dX10_bands_11 : decode cX10_bands 11 = .ok (.iload_n 3, 1) := by decide +kernel
theorem dX10_bands_12 : decode cX10_bands 12 = .ok (.if_icmp .le 5, 3) := by decide +kernel
theorem dX10_bands_15 : decode cX10_bands 15 = .ok (.iconst (-1), 1) := by decide +kernel
theorem dX10_bands_16 : decode cX10_bands 16 = .ok (.ireturn, 1) := by decide +kernel
theorem dX10_bands_17 : decode cX10_bands 17 = .ok (.iconst 0, 1) := by decide +kernel
theorem dX10_bands_18 : decode cX10_bands 18 = .ok (.istore 4, 2) := by decide +kernel
theorem dX10_bands_20 : decode cX10_bands 20 = .ok (.iconst 0, 1) := by decide +kernel
theorem dX10_bands_21 : decode cX10_bands 21 = .ok (.istore 5, 2) := by decide +kernel
theorem dX10_bands_23 : decode cX10_bands 23 = .ok (.iload 5, 2) := by decide +kernel
theorem dX10_bands_25 : decode cX10_bands 25 = .ok (.bipush 44, 2) := by decide +kernel
theorem dX10_bands_27 : decode cX10_bands 27 = .ok (.if_icmp .ge 74, 3) := by decide +kernel
theorem dX10_bands_30 : decode cX10_bands 30 = .ok (.aload_n 0, 1) := by decide +kernel
theorem dX10_bands_31 : decode cX10_bands 31 = .ok (.getfield 20, 3) := by decide +kernel
theorem dX10_bands_34 : decode cX10_bands 34 = .ok (.iload_n 1, 1) := by decide +kernel
theorem dX10_bands_35 : decode cX10_bands 35 = .ok (.iload 5, 2) := by decide +kernel
theorem dX10_bands_37 : decode cX10_bands 37 = .ok (.aload_n 0, 1) := by decide +kernel
theorem dX10_bands_38 : decode cX10_bands 38 = .ok (.getfield 20, 3) := by decide +kernel
theorem dX10_bands_41 : decode cX10_bands 41 = .ok (.getfield 142, 3) := by decide +kernel
theorem dX10_bands_44 : decode cX10_bands 44 = .ok (.iload_n 1, 1) := by decide +kernel
theorem dX10_bands_45 : decode cX10_bands 45 = .ok (.iaload, 1) := by decide +kernel
theorem dX10_bands_46 : decode cX10_bands 46 = .ok (.imul, 1) := by decide +kernel
theorem dX10_bands_47 : decode cX10_bands 47 = .ok (.iconst 1, 1) := by decide +kernel
theorem dX10_bands_48 : decode cX10_bands 48 = .ok (.iadd, 1) := by decide +kernel
theorem dX10_bands_49 : decode cX10_bands 49 = .ok (.invokevirtual 235, 3) := by decide +kernel
theorem dX10_bands_52 : decode cX10_bands 52 = .ok (.istore 6, 2) := by decide +kernel
theorem dX10_bands_54 : decode cX10_bands 54 = .ok (.aload_n 0, 1) := by decide +kernel
theorem dX10_bands_55 : decode cX10_bands 55 = .ok (.getfield 20, 3) := by decide +kernel
theorem dX10_bands_58 : decode cX10_bands 58 = .ok (.iload_n 1, 1) := by decide +kernel
theorem dX10_bands_59 : decode cX10_bands 59 = .ok (.iload 5, 2) := by decide +kernel
theorem dX10_bands_61 : decode cX10_bands 61 = .ok (.iconst 1, 1) := by decide +kernel
theorem dX10_bands_62 : decode cX10_bands 62 = .ok (.iadd, 1) := by decide +kernel
theorem dX10_bands_63 : decode cX10_bands 63 = .ok (.aload_n 0, 1) := by decide +kernel
theorem dX10_bands_64 : decode cX10_bands 64 = .ok (.getfield 20, 3) := by decide +kernel
theorem dX10_bands_67 : decode cX10_bands 67 = .ok (.getfield 142, 3) := by decide +kernel
theorem dX10_bands_70 : decode cX10_bands 70 = .ok (.iload_n 1, 1) := by decide +kernel
theorem dX10_bands_71 : decode cX10_bands 71 = .ok (.iaload, 1) := by decide +kernel
theorem dX10_bands_72 : decode cX10_bands 72 = .ok (.imul, 1) := by decide +kernel
theorem dX10_bands_73 : decode cX10_bands 73 = .ok (.iconst 1, 1) := by decide +kernel
theorem dX10_bands_74 : decode cX10_bands 74 = .ok (.iadd, 1) := by decide +kernel
theorem dX10_bands_75 : decode cX10_bands 75 = .ok (.invokevirtual 235, 3) := by decide +kernel
theorem dX10_bands_78 : decode cX10_bands 78 = .ok (.istore 7, 2) := by decide +kernel
theorem dX10_bands_80 : decode cX10_bands 80 = .ok (.iload_n 2, 1) := by decide +kernel
theorem dX10_bands_81 : decode cX10_bands 81 = .ok (.iload 7, 2) := by decide +kernel
theorem dX10_bands_83 : decode cX10_bands 83 = .ok (.if_icmp .ge 12, 3) := by decide +kernel
theorem dX10_bands_86 : decode cX10_bands 86 = .ok (.iload_n 3, 1) := by decide +kernel
theorem dX10_bands_87 : decode cX10_bands 87 = .ok (.iload 6, 2) := by decide +kernel
theorem dX10_bands_89 : decode cX10_bands 89 = .ok (.if_icmp .lt 6, 3) := by decide +kernel
theorem dX10_bands_92 : decode cX10_bands 92 = .ok (.iinc 4 1, 3) := by decide +kernel
theorem dX10_bands_95 : decode cX10_bands 95 = .ok (.iinc 5 1, 3) := by decide +kernel
theorem dX10_bands_98 : decode cX10_bands 98 = .ok (.goto (-75), 3) := by decide +kernel
theorem dX10_bands_101 : decode cX10_bands 101 = .ok (.iload 4, 2) := by decide +kernel
theorem dX10_bands_103 : decode cX10_bands 103 = .ok (.ireturn, 1) := by decide +kernel
theorem dX10_count_0 : decode cX10_count 0 = .ok (.iload_n 1, 1) := by decide +kernel
theorem dX10_count_1 : decode cX10_count 1 = .ok (.tableswitch 96 0 6 #[43, 51, 59, 64, 72, 80, 88], 43) := by decide +kernel
theorem dX10_count_44 : decode cX10_count 44 = .ok (.aload_n 0, 1) := by decide +kernel
theorem dX10_count_45 : decode cX10_count 45 = .ok (.getfield 25, 3) := by decide +kernel
theorem dX10_count_48 : decode cX10_count 48 = .ok (.getfield 109, 3) := by decide +kernel
theorem dX10_count_51 : decode cX10_count 51 = .ok (.ireturn, 1) := by decide +kernel
theorem dX10_count_52 : decode cX10_count 52 = .ok (.aload_n 0, 1) := by decide +kernel
theorem dX10_count_53 : decode cX10_count 53 = .ok (.getfield 39, 3) := by decide +kernel
theorem dX10_count_56 : decode cX10_count 56 = .ok (.getfield 98, 3) := by decide +kernel
theorem dX10_count_59 : decode cX10_count 59 = .ok (.ireturn, 1) := by decide +kernel
theorem dX10_count_60 : decode cX10_count 60 = .ok (.aload_n 0, 1) := by decide +kernel
theorem dX10_count_61 : decode cX10_count 61 = .ok (.getfield 32, 3) := by decide +kernel
theorem dX10_count_64 : decode cX10_count 64 = .ok (.ireturn, 1) := by decide +kernel
theorem dX10_count_65 : decode cX10_count 65 = .ok (.aload_n 0, 1) := by decide +kernel
theorem dX10_count_66 : decode cX10_count 66 = .ok (.getfield 10, 3) := by decide +kernel
theorem dX10_count_69 : decode cX10_count 69 = .ok (.getfield 429, 3) := by decide +kernel
theorem dX10_count_72 : decode cX10_count 72 = .ok (.ireturn, 1) := by decide +kernel
theorem dX10_count_73 : decode cX10_count 73 = .ok (.aload_n 0, 1) := by decide +kernel
theorem dX10_count_74 : decode cX10_count 74 = .ok (.getfield 10, 3) := by decide +kernel
theorem dX10_count_77 : decode cX10_count 77 = .ok (.getfield 432, 3) := by decide +kernel
theorem dX10_count_80 : decode cX10_count 80 = .ok (.ireturn, 1) := by decide +kernel
theorem dX10_count_81 : decode cX10_count 81 = .ok (.aload_n 0, 1) := by decide +kernel
theorem dX10_count_82 : decode cX10_count 82 = .ok (.getfield 10, 3) := by decide +kernel
theorem dX10_count_85 : decode cX10_count 85 = .ok (.getfield 435, 3) := by decide +kernel
theorem dX10_count_88 : decode cX10_count 88 = .ok (.ireturn, 1) := by decide +kernel
theorem dX10_count_89 : decode cX10_count 89 = .ok (.aload_n 0, 1) := by decide +kernel
theorem dX10_count_90 : decode cX10_count 90 = .ok (.getfield 10, 3) := by decide +kernel
theorem dX10_count_93 : decode cX10_count 93 = .ok (.getfield 438, 3) := by decide +kernel
theorem dX10_count_96 : decode cX10_count 96 = .ok (.ireturn, 1) := by decide +kernel
theorem dX10_count_97 : decode cX10_count 97 = .ok (.iconst (-1), 1) := by decide +kernel
theorem dX10_count_98 : decode cX10_count 98 = .ok (.ireturn, 1) := by decide +kernel
theorem gX10_keep_X0_copyFrom : GoodIn wsX10_keep (wsV RX10 441 RX0 yX0_copyFrom wsX0_copyFrom) := gw_c t_w508 (gw_c t_w507 (gw_c t_w506 (gw_c t_w345 (gw_c t_w505 (gw_t)))))
theorem dX10_keep_0 : decode cX10_keep 0 = .ok (.aload_n 0, 1) := by decide +kernel
theorem dX10_keep_1 : decode cX10_keep 1 = .ok (.getfield 32, 3) := by decide +kernel
theorem dX10_keep_4 : decode cX10_keep 4 = .ok (.aload_n 0, 1) := by decide +kernel
theorem dX10_keep_5 : decode cX10_keep 5 = .ok (.getfield 28, 3) := by decide +kernel
theorem dX10_keep_8 : decode cX10_keep 8 = .ok (.arraylength, 1) := by decide +kernel
theorem dX10_keep_9 : decode cX10_keep 9 = .ok (.if_icmp .lt 5, 3) := by decide +kernel
theorem dX10_keep_12 : decode cX10_keep 12 = .ok (.iconst (-1), 1) := by decide +kernel
theorem dX10_keep_13 : decode cX10_keep 13 = .ok (.ireturn, 1) := by decide +kernel
theorem dX10_keep_14 : decode cX10_keep 14 = .ok (.aload_n 0, 1) := by decide +kernel
theorem dX10_keep_15 : decode cX10_keep 15 = .ok (.getfield 28, 3) := by decide +kernel
theorem dX10_keep_18 : decode cX10_keep 18 = .ok (.aload_n 0, 1) := by decide +kernel
theorem dX10_keep_19 : decode cX10_keep 19 = .ok (.getfield 32, 3) := by decide +kernel
theorem dX10_keep_22 : decode cX10_keep 22 = .ok (.aaload, 1) := by decide +kernel
theorem dX10_keep_23 : decode cX10_keep 23 = .ok (.aload_n 0, 1) := by decide +kernel
theorem dX10_keep_24 : decode cX10_keep 24 = .ok (.getfield 10, 3) := by decide +kernel
theorem dX10_keep_27 : decode cX10_keep 27 = .ok (.invokevirtual 441, 3) := by decide +kernel
theorem dX10_keep_30 : decode cX10_keep 30 = .ok (.aload_n 0, 1) := by decide +kernel
theorem dX10_keep_31 : decode cX10_keep 31 = .ok (.dup, 1) := by decide +kernel
theorem dX10_keep_32 : decode cX10_keep 32 = .ok (.getfield 32, 3) := by decide +kernel
theorem dX10_keep_35 : decode cX10_keep 35 = .ok (.iconst 1, 1) := by decide +kernel
theorem dX10_keep_36 : decode cX10_keep 36 = .ok (.iadd, 1) := by decide +kernel
theorem dX10_keep_37 : decode cX10_keep 37 = .ok (.putfield 32, 3) := by decide +kernel
theorem dX10_keep_40 : decode cX10_keep 40 = .ok (.aload_n 0, 1) := by decide +kernel
theorem dX10_keep_41 : decode cX10_keep 41 = .ok (.getfield 32, 3) := by decide +kernel
theorem dX10_keep_44 : decode cX10_keep 44 = .ok (.ireturn, 1) := by decide +kernel
theorem gX10_undo_X0_copyFrom : GoodIn wsX10_undo (wsV RX10 441 RX0 yX0_copyFrom wsX0_copyFrom) := gw_c t_w508 (gw_c t_w507 (gw_c t_w506 (gw_c t_w345 (gw_c t_w505 (gw_t)))))
theorem dX10_undo_0 : decode cX10_undo 0 = .ok (.aload_n 0, 1) := by decide +kernel
theorem dX10_undo_1 : decode cX10_undo 1 = .ok (.getfield 32, 3) := by decide +kernel
theorem dX10_undo_4 : decode cX10_undo 4 = .ok (.ifCond .gt 5, 3) := by decide +kernel
theorem dX10_undo_7 : decode cX10_undo 7 = .ok (.iconst (-1), 1) := by decide +kernel
theorem dX10_undo_8 : decode cX10_undo 8 = .ok (.ireturn, 1) := by decide +kernel
theorem dX10_undo_9 : decode cX10_undo 9 = .ok (.aload_n 0, 1) := by decide +kernel
theorem dX10_undo_10 : decode cX10_undo 10 = .ok (.dup, 1) := by decide +kernel
theorem dX10_undo_11 : decode cX10_undo 11 = .ok (.getfield 32, 3) := by decide +kernel
theorem dX10_undo_14 : decode cX10_undo 14 = .ok (.iconst 1, 1) := by decide +kernel
theorem dX10_undo_15 : decode cX10_undo 15 = .ok (.isub, 1) := by decide +kernel
theorem dX10_undo_16 : decode cX10_undo 16 = .ok (.putfield 32, 3) := by decide +kernel
theorem dX10_undo_19 : decode cX10_undo 19 = .ok (.aload_n 0, 1) := by decide +kernel
theorem dX10_undo_20 : decode cX10_undo 20 = .ok (.getfield 10, 3) := by decide +kernel
theorem dX10_undo_23 : decode cX10_undo 23 = .ok (.aload_n 0, 1) := by decide +kernel
theorem dX10_undo_24 : decode cX10_undo 24 = .ok (.getfield 28, 3) := by decide +kernel
theorem dX10_undo_27 : decode cX10_undo 27 = .ok (.aload_n 0, 1) := by decide +kernel
theorem dX10_undo_28 : decode cX10_undo 28 = .ok (.getfield 32, 3) := by decide +kernel
theorem dX10_undo_31 : decode cX10_undo 31 = .ok (.aaload, 1) := by decide +kernel
theorem dX10_undo_32 : decode cX10_undo 32 = .ok (.invokevirtual 441, 3) := by decide +kernel
theorem dX10_undo_35 : decode cX10_undo 35 = .ok (.aload_n 0, 1) := by decide +kernel
theorem dX10_undo_36 : decode cX10_undo 36 = .ok (.getfield 32, 3) := by decide +kernel
theorem dX10_undo_39 : decode cX10_undo 39 = .ok (.ireturn, 1) := by decide +kernel
theorem dX10_isFrom_0 : decode cX10_isFrom 0 = .ok (.iload_n 0, 1) := by decide +kernel
theorem dX10_isFrom_1 : decode cX10_isFrom 1 = .ok (.iload_n 1, 1) := by decide +kernel
theorem dX10_isFrom_2 : decode cX10_isFrom 2 = .ok (.if_icmp .lt 12, 3) := by decide +kernel
theorem dX10_isFrom_5 : decode cX10_isFrom 5 = .ok (.iload_n 0, 1) := by decide +kernel
theorem dX10_isFrom_6 : decode cX10_isFrom 6 = .ok (.iload_n 2, 1) := by decide +kernel
theorem dX10_isFrom_7 : decode cX10_isFrom 7 = .ok (.if_icmp .gt 7, 3) := by decide +kernel
theorem dX10_isFrom_10 : decode cX10_isFrom 10 = .ok (.iconst 1, 1) := by decide +kernel
theorem dX10_isFrom_11 : decode cX10_isFrom 11 = .ok (.goto 4, 3) := by decide +kernel
theorem dX10_isFrom_14 : decode cX10_isFrom 14 = .ok (.iconst 0, 1) := by decide +kernel
theorem dX10_isFrom_15 : decode cX10_isFrom 15 = .ok (.ireturn, 1) := by decide +kernel
theorem dX10_isLevel_0 : decode cX10_isLevel 0 = .ok (.iload_n 0, 1) := by decide +kernel
theorem dX10_isLevel_1 : decode cX10_isLevel 1 = .ok (.ifCond .lt 12, 3) := by decide +kernel
theorem dX10_isLevel_4 : decode cX10_isLevel 4 = .ok (.iload_n 0, 1) := by decide +kernel
theorem dX10_isLevel_5 : decode cX10_isLevel 5 = .ok (.iconst 4, 1) := by decide +kernel
theorem dX10_isLevel_6 : decode cX10_isLevel 6 = .ok (.if_icmp .gt 7, 3) := by decide +kernel
theorem dX10_isLevel_9 : decode cX10_isLevel 9 = .ok (.iconst 1, 1) := by decide +kernel
theorem dX10_isLevel_10 : decode cX10_isLevel 10 = .ok (.goto 4, 3) := by decide +kernel
theorem dX10_isLevel_13 : decode cX10_isLevel 13 = .ok (.iconst 0, 1) := by decide +kernel
theorem dX10_isLevel_14 : decode cX10_isLevel 14 = .ok (.ireturn, 1) := by decide +kernel
theorem gX10_isPlace_X10_isFrom : GoodIn wsX10_isPlace (va_wsS RX10 105 yX10_isFrom wsX10_isFrom) := gw_c t_w319 (gw_c t_w318 (gw_c t_w317 (gw_c t_w316 (gw_t))))
theorem dX10_isPlace_0 : decode cX10_isPlace 0 = .ok (.iload_n 0, 1) := by decide +kernel
theorem dX10_isPlace_1 : decode cX10_isPlace 1 = .ok (.ldc_w 445, 3) := by decide +kernel
theorem dX10_isPlace_4 : decode cX10_isPlace 4 = .ok (.ldc_w 446, 3) := by decide +kernel
theorem dX10_isPlace_7 : decode cX10_isPlace 7 = .ok (.invokestatic 105, 3) := by decide +kernel
theorem dX10_isPlace_10 : decode cX10_isPlace 10 = .ok (.ifCond .eq 18, 3) := by decide +kernel
theorem dX10_isPlace_13 : decode cX10_isPlace 13 = .ok (.iload_n 1, 1) := by decide +kernel
theorem dX10_isPlace_14 : decode cX10_isPlace 14 = .ok (.iconst 0, 1) := by decide +kernel
theorem dX10_isPlace_15 : decode cX10_isPlace 15 = .ok (.ldc_w 447, 3) := by decide +kernel
theorem dX10_isPlace_18 : decode cX10_isPlace 18 = .ok (.invokestatic 105, 3) := by decide +kernel
theorem dX10_isPlace_21 : decode cX10_isPlace 21 = .ok (.ifCond .eq 7, 3) := by decide +kernel
theorem dX10_isPlace_24 : decode cX10_isPlace 24 = .ok (.iconst 1, 1) := by decide +kernel
theorem dX10_isPlace_25 : decode cX10_isPlace 25 = .ok (.goto 4, 3) := by decide +kernel
theorem dX10_isPlace_28 : decode cX10_isPlace 28 = .ok (.iconst 0, 1) := by decide +kernel
theorem dX10_isPlace_29 : decode cX10_isPlace 29 = .ok (.ireturn, 1) := by decide +kernel
theorem gX10_isBox_X10_isPlace : GoodIn wsX10_isBox (va_wsS RX10 148 yX10_isPlace wsX10_isPlace) := gw_c t_w332 (gw_c t_w331 (gw_c t_w317 (gw_c t_w330 (gw_t))))
theorem dX10_isBox_0 : decode cX10_isBox 0 = .ok (.iload_n 0, 1) := by decide +kernel
theorem dX10_isBox_1 : decode cX10_isBox 1 = .ok (.iload_n 2, 1) := by decide +kernel
theorem dX10_isBox_2 : decode cX10_isBox 2 = .ok (.invokestatic 148, 3) := by decide +kernel
theorem dX10_isBox_5 : decode cX10_isBox 5 = .ok (.ifCond .eq 20, 3) := by decide +kernel
theorem dX10_isBox_8 : decode cX10_isBox 8 = .ok (.iload_n 1, 1) := by decide +kernel
theorem dX10_isBox_9 : decode cX10_isBox 9 = .ok (.iload_n 3, 1) := by decide +kernel
theorem dX10_isBox_10 : decode cX10_isBox 10 = .ok (.invokestatic 148, 3) := by decide +kernel
theorem dX10_isBox_13 : decode cX10_isBox 13 = .ok (.ifCond .eq 12, 3) := by decide +kernel
theorem dX10_isBox_16 : decode cX10_isBox 16 = .ok (.iload_n 0, 1) := by decide +kernel
theorem dX10_isBox_17 : decode cX10_isBox 17 = .ok (.iload_n 1, 1) := by decide +kernel
theorem dX10_isBox_18 : decode cX10_isBox 18 = .ok (.if_icmp .gt 7, 3) := by decide +kernel
theorem dX10_isBox_21 : decode cX10_isBox 21 = .ok (.iconst 1, 1) := by decide +kernel
theorem dX10_isBox_22 : decode cX10_isBox 22 = .ok (.goto 4, 3) := by decide +kernel
theorem dX10_isBox_25 : decode cX10_isBox 25 = .ok (.iconst 0, 1) := by decide +kernel
theorem dX10_isBox_26 : decode cX10_isBox 26 = .ok (.ireturn, 1) := by decide +kernel
theorem dX10_isInt_0 : decode cX10_isInt 0 = .ok (.lload_n 0, 1) := by decide +kernel
theorem dX10_isInt_1 : decode cX10_isInt 1 = .ok (.lload_n 0, 1) := by decide +kernel
theorem dX10_isInt_2 : decode cX10_isInt 2 = .ok (.l2i, 1) := by decide +kernel
theorem dX10_isInt_3 : decode cX10_isInt 3 = .ok (.i2l, 1) := by decide +kernel
theorem dX10_isInt_4 : decode cX10_isInt 4 = .ok (.lcmp, 1) := by decide +kernel
theorem dX10_isInt_5 : decode cX10_isInt 5 = .ok (.ifCond .ne 7, 3) := by decide +kernel
theorem dX10_isInt_8 : decode cX10_isInt 8 = .ok (.iconst 1, 1) := by decide +kernel
theorem dX10_isInt_9 : decode cX10_isInt 9 = .ok (.goto 4, 3) := by decide +kernel
theorem dX10_isInt_12 : decode cX10_isInt 12 = .ok (.iconst 0, 1) := by decide +kernel
theorem dX10_isInt_13 : decode cX10_isInt 13 = .ok (.ireturn, 1) := by decide +kernel
theorem gX10_areSheets_X2_hasSheet : GoodIn wsX10_areSheets (wsV RX10 156 RX2 yX2_hasSheet wsX2_hasSheet) := gw_c t_w337 (gw_c t_w336 (gw_c t_w335 (gw_c t_w1 (gw_c t_w334 (gw_t)))))
theorem dX10_areSheets_0 : decode cX10_areSheets 0 = .ok (.aload_n 0, 1) := by decide +kernel
theorem dX10_areSheets_1 : decode cX10_areSheets 1 = .ok (.getfield 20, 3) := by decide +kernel
theorem dX10_areSheets_4 : decode cX10_areSheets 4 = .ok (.iload_n 1, 1) := by decide +kernel
theorem dX10_areSheets_5 : decode cX10_areSheets 5 = .ok (.iload_n 2, 1) := by decide +kernel
theorem dX10_areSheets_6 : decode cX10_areSheets 6 = .ok (.invokevirtual 156, 3) := by decide +kernel
theorem dX10_areSheets_9 : decode cX10_areSheets 9 = .ok (.ifCond .eq 19, 3) := by decide +kernel
theorem dX10_areSheets_12 : decode cX10_areSheets 12 = .ok (.aload_n 0, 1) := by decide +kernel
theorem dX10_areSheets_13 : decode cX10_areSheets 13 = .ok (.getfield 20, 3) := by decide +kernel
theorem dX10_areSheets_16 : decode cX10_areSheets 16 = .ok (.iload_n 1, 1) := by decide +kernel
theorem dX10_areSheets_17 : decode cX10_areSheets 17 = .ok (.iload_n 3, 1) := by decide +kernel
theorem dX10_areSheets_18 : decode cX10_areSheets 18 = .ok (.invokevirtual 156, 3) := by decide +kernel
theorem dX10_areSheets_21 : decode cX10_areSheets 21 = .ok (.ifCond .eq 7, 3) := by decide +kernel
theorem dX10_areSheets_24 : decode cX10_areSheets 24 = .ok (.iconst 1, 1) := by decide +kernel
theorem dX10_areSheets_25 : decode cX10_areSheets 25 = .ok (.goto 4, 3) := by decide +kernel
theorem dX10_areSheets_28 : decode cX10_areSheets 28 = .ok (.iconst 0, 1) := by decide +kernel
theorem dX10_areSheets_29 : decode cX10_areSheets 29 = .ok (.ireturn, 1) := by decide +kernel
theorem dX10_commonDivisor_0 : decode cX10_commonDivisor 0 = .ok (.lload_n 0, 1) := by decide +kernel
theorem dX10_commonDivisor_1 : decode cX10_commonDivisor 1 = .ok (.lstore 4, 2) := by decide +kernel
theorem dX10_commonDivisor_3 : decode cX10_commonDivisor 3 = .ok (.lload_n 2, 1) := by decide +kernel
theorem dX10_commonDivisor_4 : decode cX10_commonDivisor 4 = .ok (.lstore 6, 2) := by decide +kernel
theorem dX10_commonDivisor_6 : decode cX10_commonDivisor 6 = .ok (.iconst 0, 1) := by decide +kernel
theorem dX10_commonDivisor_7 : decode cX10_commonDivisor 7 = .ok (.istore 8, 2) := by decide +kernel
theorem dX10_commonDivisor_9 : decode cX10_commonDivisor 9 = .ok (.iload 8, 2) := by decide +kernel
theorem dX10_commonDivisor_11 : decode cX10_commonDivisor 11 = .ok (.sipush 200, 3) := by decide +kernel
theorem dX10_commonDivisor_14 : decode cX10_commonDivisor 14 = .ok (.if_icmp .ge 31, 3) := by decide +kernel
theorem dX10_commonDivisor_17 : decode cX10_commonDivisor 17 = .ok (.lload 6, 2) := by decide +kernel
theorem dX10_commonDivisor_19 : decode cX10_commonDivisor 19 = .ok (.lconst 0, 1) := by decide +kernel
theorem dX10_commonDivisor_20 : decode cX10_commonDivisor 20 = .ok (.lcmp, 1) := by decide +kernel
theorem dX10_commonDivisor_21 : decode cX10_commonDivisor 21 = .ok (.ifCond .eq 24, 3) := by decide +kernel
theorem dX10_commonDivisor_24 : decode cX10_commonDivisor 24 = .ok (.lload 4, 2) := by decide +kernel
theorem dX10_commonDivisor_26 : decode cX10_commonDivisor 26 = .ok (.lload 6, 2) := by decide +kernel
theorem dX10_commonDivisor_28 : decode cX10_commonDivisor 28 = .ok (.lrem, 1) := by decide +kernel
theorem dX10_commonDivisor_29 : decode cX10_commonDivisor 29 = .ok (.lstore 9, 2) := by decide +kernel
theorem dX10_commonDivisor_31 : decode cX10_commonDivisor 31 = .ok (.lload 6, 2) := by decide +kernel
theorem dX10_commonDivisor_33 : decode cX10_commonDivisor 33 = .ok (.lstore 4, 2) := by decide +kernel
theorem dX10_commonDivisor_35 : decode cX10_commonDivisor 35 = .ok (.lload 9, 2) := by decide +kernel
theorem dX10_commonDivisor_37 : decode cX10_commonDivisor 37 = .ok (.lstore 6, 2) := by decide +kernel
theorem dX10_commonDivisor_39 : decode cX10_commonDivisor 39 = .ok (.iinc 8 1, 3) := by decide +kernel
theorem dX10_commonDivisor_42 : decode cX10_commonDivisor 42 = .ok (.goto (-33), 3) := by decide +kernel
theorem dX10_commonDivisor_45 : decode cX10_commonDivisor 45 = .ok (.lload 4, 2) := by decide +kernel
theorem dX10_commonDivisor_47 : decode cX10_commonDivisor 47 = .ok (.lreturn, 1) := by decide +kernel
theorem gX11_init_X11_zonesOf : GoodIn wsX11_init (va_wsS RX11 63 yX11_zonesOf wsX11_zonesOf) := gw_c t_w512 (gw_c t_w511 (gw_c t_w510 (gw_c t_w509 (gw_t))))
theorem gX11_init_X11_laysGrids : GoodIn wsX11_init (wsV RX11 67 RX11 yX11_laysGrids wsX11_laysGrids) := gw_c t_w516 (gw_c t_w515 (gw_c t_w514 (gw_c t_w510 (gw_c t_w513 (gw_t)))))
