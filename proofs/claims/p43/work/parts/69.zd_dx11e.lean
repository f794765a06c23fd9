theorem dX11_lacks_120 : decode cX11_lacks 120 = .ok (.aload_n 0, 1) := by decide +kernel
theorem dX11_lacks_121 : decode cX11_lacks 121 = .ok (.iload 5, 2) := by decide +kernel
theorem dX11_lacks_123 : decode cX11_lacks 123 = .ok (.iload 11, 2) := by decide +kernel
theorem dX11_lacks_125 : decode cX11_lacks 125 = .ok (.iload 6, 2) := by decide +kernel
theorem dX11_lacks_127 : decode cX11_lacks 127 = .ok (.invokevirtual 423, 3) := by decide +kernel
theorem dX11_lacks_130 : decode cX11_lacks 130 = .ok (.ifCond .ne 6, 3) := by decide +kernel
theorem dX11_lacks_133 : decode cX11_lacks 133 = .ok (.goto 19, 3) := by decide +kernel
theorem dX11_lacks_136 : decode cX11_lacks 136 = .ok (.iload 8, 2) := by decide +kernel
theorem dX11_lacks_138 : decode cX11_lacks 138 = .ok (.iload 7, 2) := by decide +kernel
theorem dX11_lacks_140 : decode cX11_lacks 140 = .ok (.if_icmp .ne 6, 3) := by decide +kernel
theorem dX11_lacks_143 : decode cX11_lacks 143 = .ok (.iload 11, 2) := by decide +kernel
theorem dX11_lacks_145 : decode cX11_lacks 145 = .ok (.ireturn, 1) := by decide +kernel
theorem dX11_lacks_146 : decode cX11_lacks 146 = .ok (.iload 8, 2) := by decide +kernel
theorem dX11_lacks_148 : decode cX11_lacks 148 = .ok (.iconst 1, 1) := by decide +kernel
theorem dX11_lacks_149 : decode cX11_lacks 149 = .ok (.iadd, 1) := by decide +kernel
theorem dX11_lacks_150 : decode cX11_lacks 150 = .ok (.istore 8, 2) := by decide +kernel
theorem dX11_lacks_152 : decode cX11_lacks 152 = .ok (.iinc 10 1, 3) := by decide +kernel
theorem dX11_lacks_155 : decode cX11_lacks 155 = .ok (.goto (-74), 3) := by decide +kernel
theorem dX11_lacks_158 : decode cX11_lacks 158 = .ok (.iinc 9 1, 3) := by decide +kernel
theorem dX11_lacks_161 : decode cX11_lacks 161 = .ok (.goto (-92), 3) := by decide +kernel
theorem dX11_lacks_164 : decode cX11_lacks 164 = .ok (.iload 7, 2) := by decide +kernel
theorem dX11_lacks_166 : decode cX11_lacks 166 = .ok (.iconst (-1), 1) := by decide +kernel
theorem dX11_lacks_167 : decode cX11_lacks 167 = .ok (.if_icmp .ne 8, 3) := by decide +kernel
theorem dX11_lacks_170 : decode cX11_lacks 170 = .ok (.iload 8, 2) := by decide +kernel
theorem dX11_lacks_172 : decode cX11_lacks 172 = .ok (.goto 5, 3) := by decide +kernel
theorem dX11_lacks_175 : decode cX11_lacks 175 = .ok (.bipush (-3), 2) := by decide +kernel
theorem dX11_lacks_177 : decode cX11_lacks 177 = .ok (.ireturn, 1) := by decide +kernel
theorem gX11_years_X11_isAnyYear : GoodIn wsX11_years (va_wsS RX11 420 yX11_isAnyYear wsX11_isAnyYear) := gw_c t_w760 (gw_c t_w759 (gw_c t_w510 (gw_c t_w758 (gw_t))))
theorem gX11_years_X11_in : GoodIn wsX11_years (va_wsS RX11 72 yX11_in wsX11_in) := gw_c t_w519 (gw_c t_w518 (gw_c t_w510 (gw_c t_w517 (gw_t))))
theorem dX11_years_0 : decode cX11_years 0 = .ok (.iload_n 1, 1) := by decide +kernel
theorem dX11_years_1 : decode cX11_years 1 = .ok (.invokestatic 420, 3) := by decide +kernel
theorem dX11_years_4 : decode cX11_years 4 = .ok (.ifCond .eq 28, 3) := by decide +kernel
theorem dX11_years_7 : decode cX11_years 7 = .ok (.iload_n 2, 1) := by decide +kernel
theorem dX11_years_8 : decode cX11_years 8 = .ok (.i2l, 1) := by decide +kernel
theorem dX11_years_9 : decode cX11_years 9 = .ok (.iload_n 1, 1) := by decide +kernel
theorem dX11_years_10 : decode cX11_years 10 = .ok (.i2l, 1) := by decide +kernel
theorem dX11_years_11 : decode cX11_years 11 = .ok (.ldc2_w 403, 3) := by decide +kernel
theorem dX11_years_14 : decode cX11_years 14 = .ok (.invokestatic 72, 3) := by decide +kernel
theorem dX11_years_17 : decode cX11_years 17 = .ok (.ifCond .eq 15, 3) := by decide +kernel
theorem dX11_years_20 : decode cX11_years 20 = .ok (.iload_n 3, 1) := by decide +kernel
theorem dX11_years_21 : decode cX11_years 21 = .ok (.i2l, 1) := by decide +kernel
theorem dX11_years_22 : decode cX11_years 22 = .ok (.lconst 0, 1) := by decide +kernel
theorem dX11_years_23 : decode cX11_years 23 = .ok (.ldc2_w 127, 3) := by decide +kernel
theorem dX11_years_26 : decode cX11_years 26 = .ok (.invokestatic 72, 3) := by decide +kernel
theorem dX11_years_29 : decode cX11_years 29 = .ok (.ifCond .ne 5, 3) := by decide +kernel
theorem dX11_years_32 : decode cX11_years 32 = .ok (.iconst (-1), 1) := by decide +kernel
theorem dX11_years_33 : decode cX11_years 33 = .ok (.ireturn, 1) := by decide +kernel
theorem dX11_years_34 : decode cX11_years 34 = .ok (.iconst 0, 1) := by decide +kernel
theorem dX11_years_35 : decode cX11_years 35 = .ok (.istore 4, 2) := by decide +kernel
theorem dX11_years_37 : decode cX11_years 37 = .ok (.bipush (-2), 2) := by decide +kernel
theorem dX11_years_39 : decode cX11_years 39 = .ok (.istore 5, 2) := by decide +kernel
theorem dX11_years_41 : decode cX11_years 41 = .ok (.bipush (-2), 2) := by decide +kernel
theorem dX11_years_43 : decode cX11_years 43 = .ok (.istore 6, 2) := by decide +kernel
theorem dX11_years_45 : decode cX11_years 45 = .ok (.iconst 0, 1) := by decide +kernel
theorem dX11_years_46 : decode cX11_years 46 = .ok (.istore 7, 2) := by decide +kernel
theorem dX11_years_48 : decode cX11_years 48 = .ok (.iload 7, 2) := by decide +kernel
theorem dX11_years_50 : decode cX11_years 50 = .ok (.aload_n 0, 1) := by decide +kernel
theorem dX11_years_51 : decode cX11_years 51 = .ok (.getfield 123, 3) := by decide +kernel
theorem dX11_years_54 : decode cX11_years 54 = .ok (.if_icmp .ge 95, 3) := by decide +kernel
theorem dX11_years_57 : decode cX11_years 57 = .ok (.aload_n 0, 1) := by decide +kernel
theorem dX11_years_58 : decode cX11_years 58 = .ok (.getfield 51, 3) := by decide +kernel
theorem dX11_years_61 : decode cX11_years 61 = .ok (.iload 7, 2) := by decide +kernel
theorem dX11_years_63 : decode cX11_years 63 = .ok (.iaload, 1) := by decide +kernel
theorem dX11_years_64 : decode cX11_years 64 = .ok (.i2l, 1) := by decide +kernel
theorem dX11_years_65 : decode cX11_years 65 = .ok (.iload_n 1, 1) := by decide +kernel
theorem dX11_years_66 : decode cX11_years 66 = .ok (.i2l, 1) := by decide +kernel
theorem dX11_years_67 : decode cX11_years 67 = .ok (.iload_n 2, 1) := by decide +kernel
theorem dX11_years_68 : decode cX11_years 68 = .ok (.i2l, 1) := by decide +kernel
theorem dX11_years_69 : decode cX11_years 69 = .ok (.invokestatic 72, 3) := by decide +kernel
theorem dX11_years_72 : decode cX11_years 72 = .ok (.ifCond .ne 6, 3) := by decide +kernel
theorem dX11_years_75 : decode cX11_years 75 = .ok (.goto 68, 3) := by decide +kernel
theorem dX11_years_78 : decode cX11_years 78 = .ok (.iload 4, 2) := by decide +kernel
theorem dX11_years_80 : decode cX11_years 80 = .ok (.iconst 1, 1) := by decide +kernel
theorem dX11_years_81 : decode cX11_years 81 = .ok (.iadd, 1) := by decide +kernel
theorem dX11_years_82 : decode cX11_years 82 = .ok (.istore 4, 2) := by decide +kernel
theorem dX11_years_84 : decode cX11_years 84 = .ok (.iload 5, 2) := by decide +kernel
theorem dX11_years_86 : decode cX11_years 86 = .ok (.bipush (-2), 2) := by decide +kernel
theorem dX11_years_88 : decode cX11_years 88 = .ok (.if_icmp .eq 15, 3) := by decide +kernel
theorem dX11_years_91 : decode cX11_years 91 = .ok (.aload_n 0, 1) := by decide +kernel
theorem dX11_years_92 : decode cX11_years 92 = .ok (.getfield 51, 3) := by decide +kernel
theorem dX11_years_95 : decode cX11_years 95 = .ok (.iload 7, 2) := by decide +kernel
theorem dX11_years_97 : decode cX11_years 97 = .ok (.iaload, 1) := by decide +kernel
theorem dX11_years_98 : decode cX11_years 98 = .ok (.iload 5, 2) := by decide +kernel
theorem dX11_years_100 : decode cX11_years 100 = .ok (.if_icmp .ge 13, 3) := by decide +kernel
theorem dX11_years_103 : decode cX11_years 103 = .ok (.aload_n 0, 1) := by decide +kernel
theorem dX11_years_104 : decode cX11_years 104 = .ok (.getfield 51, 3) := by decide +kernel
theorem dX11_years_107 : decode cX11_years 107 = .ok (.iload 7, 2) := by decide +kernel
theorem dX11_years_109 : decode cX11_years 109 = .ok (.iaload, 1) := by decide +kernel
theorem dX11_years_110 : decode cX11_years 110 = .ok (.goto 5, 3) := by decide +kernel
theorem dX11_years_113 : decode cX11_years 113 = .ok (.iload 5, 2) := by decide +kernel
theorem dX11_years_115 : decode cX11_years 115 = .ok (.istore 5, 2) := by decide +kernel
theorem dX11_years_117 : decode cX11_years 117 = .ok (.aload_n 0, 1) := by decide +kernel
theorem dX11_years_118 : decode cX11_years 118 = .ok (.getfield 51, 3) := by decide +kernel
theorem dX11_years_121 : decode cX11_years 121 = .ok (.iload 7, 2) := by decide +kernel
theorem dX11_years_123 : decode cX11_years 123 = .ok (.iaload, 1) := by decide +kernel
theorem dX11_years_124 : decode cX11_years 124 = .ok (.iload 6, 2) := by decide +kernel
theorem dX11_years_126 : decode cX11_years 126 = .ok (.if_icmp .le 13, 3) := by decide +kernel
theorem dX11_years_129 : decode cX11_years 129 = .ok (.aload_n 0, 1) := by decide +kernel
theorem dX11_years_130 : decode cX11_years 130 = .ok (.getfield 51, 3) := by decide +kernel
theorem dX11_years_133 : decode cX11_years 133 = .ok (.iload 7, 2) := by decide +kernel
theorem dX11_years_135 : decode cX11_years 135 = .ok (.iaload, 1) := by decide +kernel
theorem dX11_years_136 : decode cX11_years 136 = .ok (.goto 5, 3) := by decide +kernel
theorem dX11_years_139 : decode cX11_years 139 = .ok (.iload 6, 2) := by decide +kernel
theorem dX11_years_141 : decode cX11_years 141 = .ok (.istore 6, 2) := by decide +kernel
theorem dX11_years_143 : decode cX11_years 143 = .ok (.iinc 7 1, 3) := by decide +kernel
theorem dX11_years_146 : decode cX11_years 146 = .ok (.goto (-98), 3) := by decide +kernel
theorem dX11_years_149 : decode cX11_years 149 = .ok (.iload_n 3, 1) := by decide +kernel
theorem dX11_years_150 : decode cX11_years 150 = .ok (.ifCond .ne 8, 3) := by decide +kernel
theorem dX11_years_153 : decode cX11_years 153 = .ok (.iload 4, 2) := by decide +kernel
theorem dX11_years_155 : decode cX11_years 155 = .ok (.goto 15, 3) := by decide +kernel
theorem dX11_years_158 : decode cX11_years 158 = .ok (.iload_n 3, 1) := by decide +kernel
theorem dX11_years_159 : decode cX11_years 159 = .ok (.iconst 1, 1) := by decide +kernel
theorem dX11_years_160 : decode cX11_years 160 = .ok (.if_icmp .ne 8, 3) := by decide +kernel
theorem dX11_years_163 : decode cX11_years 163 = .ok (.iload 5, 2) := by decide +kernel
theorem dX11_years_165 : decode cX11_years 165 = .ok (.goto 5, 3) := by decide +kernel
theorem dX11_years_168 : decode cX11_years 168 = .ok (.iload 6, 2) := by decide +kernel
theorem dX11_years_170 : decode cX11_years 170 = .ok (.ireturn, 1) := by decide +kernel
theorem gX11_renew_X11_isLevel : GoodIn wsX11_renew (va_wsS RX11 84 yX11_isLevel wsX11_isLevel) := gw_c t_w522 (gw_c t_w521 (gw_c t_w510 (gw_c t_w520 (gw_t))))
theorem gX11_renew_X11_isYear : GoodIn wsX11_renew (va_wsS RX11 405 yX11_isYear wsX11_isYear) := gw_c t_w741 (gw_c t_w740 (gw_c t_w510 (gw_c t_w739 (gw_t))))
theorem dX11_renew_0 : decode cX11_renew 0 = .ok (.iload_n 1, 1) := by decide +kernel
theorem dX11_renew_1 : decode cX11_renew 1 = .ok (.invokestatic 84, 3) := by decide +kernel
theorem dX11_renew_4 : decode cX11_renew 4 = .ok (.ifCond .eq 10, 3) := by decide +kernel
theorem dX11_renew_7 : decode cX11_renew 7 = .ok (.iload_n 2, 1) := by decide +kernel
theorem dX11_renew_8 : decode cX11_renew 8 = .ok (.invokestatic 405, 3) := by decide +kernel
theorem dX11_renew_11 : decode cX11_renew 11 = .ok (.ifCond .ne 5, 3) := by decide +kernel
theorem dX11_renew_14 : decode cX11_renew 14 = .ok (.iconst (-1), 1) := by decide +kernel
theorem dX11_renew_15 : decode cX11_renew 15 = .ok (.ireturn, 1) := by decide +kernel
theorem dX11_renew_16 : decode cX11_renew 16 = .ok (.iconst 0, 1) := by decide +kernel
theorem dX11_renew_17 : decode cX11_renew 17 = .ok (.istore_n 3, 1) := by decide +kernel
theorem dX11_renew_18 : decode cX11_renew 18 = .ok (.iconst 0, 1) := by decide +kernel
theorem dX11_renew_19 : decode cX11_renew 19 = .ok (.istore 4, 2) := by decide +kernel
theorem dX11_renew_21 : decode cX11_renew 21 = .ok (.iload 4, 2) := by decide +kernel
theorem dX11_renew_23 : decode cX11_renew 23 = .ok (.aload_n 0, 1) := by decide +kernel
theorem dX11_renew_24 : decode cX11_renew 24 = .ok (.getfield 123, 3) := by decide +kernel
theorem dX11_renew_27 : decode cX11_renew 27 = .ok (.if_icmp .ge 46, 3) := by decide +kernel
theorem dX11_renew_30 : decode cX11_renew 30 = .ok (.aload_n 0, 1) := by decide +kernel
theorem dX11_renew_31 : decode cX11_renew 31 = .ok (.getfield 45, 3) := by decide +kernel
theorem dX11_renew_34 : decode cX11_renew 34 = .ok (.iload 4, 2) := by decide +kernel
theorem dX11_renew_36 : decode cX11_renew 36 = .ok (.iaload, 1) := by decide +kernel
theorem dX11_renew_37 : decode cX11_renew 37 = .ok (.iload_n 1, 1) := by decide +kernel
theorem dX11_renew_38 : decode cX11_renew 38 = .ok (.if_icmp .ne 29, 3) := by decide +kernel
theorem dX11_renew_41 : decode cX11_renew 41 = .ok (.aload_n 0, 1) := by decide +kernel
theorem dX11_renew_42 : decode cX11_renew 42 = .ok (.getfield 51, 3) := by decide +kernel
theorem dX11_renew_45 : decode cX11_renew 45 = .ok (.iload 4, 2) := by decide +kernel
theorem dX11_renew_47 : decode cX11_renew 47 = .ok (.iaload, 1) := by decide +kernel
theorem dX11_renew_48 : decode cX11_renew 48 = .ok (.iload_n 2, 1) := by decide +kernel
theorem dX11_renew_49 : decode cX11_renew 49 = .ok (.if_icmp .lt 6, 3) := by decide +kernel
theorem dX11_renew_52 : decode cX11_renew 52 = .ok (.goto 15, 3) := by decide +kernel
theorem dX11_renew_55 : decode cX11_renew 55 = .ok (.aload_n 0, 1) := by decide +kernel
theorem dX11_renew_56 : decode cX11_renew 56 = .ok (.getfield 51, 3) := by decide +kernel
theorem dX11_renew_59 : decode cX11_renew 59 = .ok (.iload 4, 2) := by decide +kernel
theorem dX11_renew_61 : decode cX11_renew 61 = .ok (.iload_n 2, 1) := by decide +kernel
theorem dX11_renew_62 : decode cX11_renew 62 = .ok (.iastore, 1) := by decide +kernel
theorem dX11_renew_63 : decode cX11_renew 63 = .ok (.iload_n 3, 1) := by decide +kernel
theorem dX11_renew_64 : decode cX11_renew 64 = .ok (.iconst 1, 1) := by decide +kernel
theorem dX11_renew_65 : decode cX11_renew 65 = .ok (.iadd, 1) := by decide +kernel
theorem dX11_renew_66 : decode cX11_renew 66 = .ok (.istore_n 3, 1) := by decide +kernel
theorem dX11_renew_67 : decode cX11_renew 67 = .ok (.iinc 4 1, 3) := by decide +kernel
theorem dX11_renew_70 : decode cX11_renew 70 = .ok (.goto (-49), 3) := by decide +kernel
theorem dX11_renew_73 : decode cX11_renew 73 = .ok (.iload_n 3, 1) := by decide +kernel
theorem dX11_renew_74 : decode cX11_renew 74 = .ok (.ireturn, 1) := by decide +kernel
theorem gX11_oldest_X11_isLevel : GoodIn wsX11_oldest (va_wsS RX11 84 yX11_isLevel wsX11_isLevel) := gw_c t_w522 (gw_c t_w521 (gw_c t_w510 (gw_c t_w520 (gw_t))))
theorem gX11_oldest_X11_in : GoodIn wsX11_oldest (va_wsS RX11 72 yX11_in wsX11_in) := gw_c t_w519 (gw_c t_w518 (gw_c t_w510 (gw_c t_w517 (gw_t))))
theorem dX11_oldest_0 : decode cX11_oldest 0 = .ok (.iload_n 1, 1) := by decide +kernel
theorem dX11_oldest_1 : decode cX11_oldest 1 = .ok (.invokestatic 84, 3) := by decide +kernel
theorem dX11_oldest_4 : decode cX11_oldest 4 = .ok (.ifCond .eq 15, 3) := by decide +kernel
theorem dX11_oldest_7 : decode cX11_oldest 7 = .ok (.iload_n 2, 1) := by decide +kernel
theorem dX11_oldest_8 : decode cX11_oldest 8 = .ok (.i2l, 1) := by decide +kernel
theorem dX11_oldest_9 : decode cX11_oldest 9 = .ok (.lconst 0, 1) := by decide +kernel
theorem dX11_oldest_10 : decode cX11_oldest 10 = .ok (.ldc2_w 127, 3) := by decide +kernel
theorem dX11_oldest_13 : decode cX11_oldest 13 = .ok (.invokestatic 72, 3) := by decide +kernel
theorem dX11_oldest_16 : decode cX11_oldest 16 = .ok (.ifCond .ne 5, 3) := by decide +kernel
theorem dX11_oldest_19 : decode cX11_oldest 19 = .ok (.iconst (-1), 1) := by decide +kernel
theorem dX11_oldest_20 : decode cX11_oldest 20 = .ok (.ireturn, 1) := by decide +kernel
theorem dX11_oldest_21 : decode cX11_oldest 21 = .ok (.iconst (-1), 1) := by decide +kernel
theorem dX11_oldest_22 : decode cX11_oldest 22 = .ok (.istore_n 3, 1) := by decide +kernel
theorem dX11_oldest_23 : decode cX11_oldest 23 = .ok (.iconst 0, 1) := by decide +kernel
theorem dX11_oldest_24 : decode cX11_oldest 24 = .ok (.istore 4, 2) := by decide +kernel
theorem dX11_oldest_26 : decode cX11_oldest 26 = .ok (.iconst 0, 1) := by decide +kernel
theorem dX11_oldest_27 : decode cX11_oldest 27 = .ok (.istore 5, 2) := by decide +kernel
theorem dX11_oldest_29 : decode cX11_oldest 29 = .ok (.iload 5, 2) := by decide +kernel
theorem dX11_oldest_31 : decode cX11_oldest 31 = .ok (.aload_n 0, 1) := by decide +kernel
theorem dX11_oldest_32 : decode cX11_oldest 32 = .ok (.getfield 123, 3) := by decide +kernel
theorem dX11_oldest_35 : decode cX11_oldest 35 = .ok (.if_icmp .ge 84, 3) := by decide +kernel
theorem dX11_oldest_38 : decode cX11_oldest 38 = .ok (.aload_n 0, 1) := by decide +kernel
theorem dX11_oldest_39 : decode cX11_oldest 39 = .ok (.getfield 45, 3) := by decide +kernel
theorem dX11_oldest_42 : decode cX11_oldest 42 = .ok (.iload 5, 2) := by decide +kernel
theorem dX11_oldest_44 : decode cX11_oldest 44 = .ok (.iaload, 1) := by decide +kernel
theorem dX11_oldest_45 : decode cX11_oldest 45 = .ok (.iload_n 1, 1) := by decide +kernel
theorem dX11_oldest_46 : decode cX11_oldest 46 = .ok (.if_icmp .ne 67, 3) := by decide +kernel
theorem dX11_oldest_49 : decode cX11_oldest 49 = .ok (.iload_n 3, 1) := by decide +kernel
theorem dX11_oldest_50 : decode cX11_oldest 50 = .ok (.iconst (-1), 1) := by decide +kernel
theorem dX11_oldest_51 : decode cX11_oldest 51 = .ok (.if_icmp .eq 22, 3) := by decide +kernel
theorem dX11_oldest_54 : decode cX11_oldest 54 = .ok (.aload_n 0, 1) := by decide +kernel
theorem dX11_oldest_55 : decode cX11_oldest 55 = .ok (.getfield 51, 3) := by decide +kernel
theorem dX11_oldest_58 : decode cX11_oldest 58 = .ok (.iload 5, 2) := by decide +kernel
theorem dX11_oldest_60 : decode cX11_oldest 60 = .ok (.iaload, 1) := by decide +kernel
theorem dX11_oldest_61 : decode cX11_oldest 61 = .ok (.aload_n 0, 1) := by decide +kernel
theorem dX11_oldest_62 : decode cX11_oldest 62 = .ok (.getfield 51, 3) := by decide +kernel
theorem dX11_oldest_65 : decode cX11_oldest 65 = .ok (.iload_n 3, 1) := by decide +kernel
theorem dX11_oldest_66 : decode cX11_oldest 66 = .ok (.iaload, 1) := by decide +kernel
theorem dX11_oldest_67 : decode cX11_oldest 67 = .ok (.if_icmp .le 6, 3) := by decide +kernel
theorem dX11_oldest_70 : decode cX11_oldest 70 = .ok (.goto 43, 3) := by decide +kernel
theorem dX11_oldest_73 : decode cX11_oldest 73 = .ok (.iload_n 3, 1) := by decide +kernel
theorem dX11_oldest_74 : decode cX11_oldest 74 = .ok (.iconst (-1), 1) := by decide +kernel
theorem dX11_oldest_75 : decode cX11_oldest 75 = .ok (.if_icmp .eq 26, 3) := by decide +kernel
theorem dX11_oldest_78 : decode cX11_oldest 78 = .ok (.aload_n 0, 1) := by decide +kernel
theorem dX11_oldest_79 : decode cX11_oldest 79 = .ok (.getfield 51, 3) := by decide +kernel
theorem dX11_oldest_82 : decode cX11_oldest 82 = .ok (.iload 5, 2) := by decide +kernel
theorem dX11_oldest_84 : decode cX11_oldest 84 = .ok (.iaload, 1) := by decide +kernel
theorem dX11_oldest_85 : decode cX11_oldest 85 = .ok (.aload_n 0, 1) := by decide +kernel
theorem dX11_oldest_86 : decode cX11_oldest 86 = .ok (.getfield 51, 3) := by decide +kernel
theorem dX11_oldest_89 : decode cX11_oldest 89 = .ok (.iload_n 3, 1) := by decide +kernel
theorem dX11_oldest_90 : decode cX11_oldest 90 = .ok (.iaload, 1) := by decide +kernel
theorem dX11_oldest_91 : decode cX11_oldest 91 = .ok (.if_icmp .ne 10, 3) := by decide +kernel
theorem dX11_oldest_94 : decode cX11_oldest 94 = .ok (.iload 4, 2) := by decide +kernel
theorem dX11_oldest_96 : decode cX11_oldest 96 = .ok (.iconst 1, 1) := by decide +kernel
theorem dX11_oldest_97 : decode cX11_oldest 97 = .ok (.iadd, 1) := by decide +kernel
theorem dX11_oldest_98 : decode cX11_oldest 98 = .ok (.goto 4, 3) := by decide +kernel
theorem dX11_oldest_101 : decode cX11_oldest 101 = .ok (.iconst 1, 1) := by decide +kernel
theorem dX11_oldest_102 : decode cX11_oldest 102 = .ok (.istore 4, 2) := by decide +kernel
theorem dX11_oldest_104 : decode cX11_oldest 104 = .ok (.iload 4, 2) := by decide +kernel
theorem dX11_oldest_106 : decode cX11_oldest 106 = .ok (.iconst 1, 1) := by decide +kernel
theorem dX11_oldest_107 : decode cX11_oldest 107 = .ok (.if_icmp .ne 6, 3) := by decide +kernel
theorem dX11_oldest_110 : decode cX11_oldest 110 = .ok (.iload 5, 2) := by decide +kernel
theorem dX11_oldest_112 : decode cX11_oldest 112 = .ok (.istore_n 3, 1) := by decide +kernel
theorem dX11_oldest_113 : decode cX11_oldest 113 = .ok (.iinc 5 1, 3) := by decide +kernel
theorem dX11_oldest_116 : decode cX11_oldest 116 = .ok (.goto (-87), 3) := by decide +kernel
theorem dX11_oldest_119 : decode cX11_oldest 119 = .ok (.iload_n 3, 1) := by decide +kernel
theorem dX11_oldest_120 : decode cX11_oldest 120 = .ok (.iconst (-1), 1) := by decide +kernel
theorem dX11_oldest_121 : decode cX11_oldest 121 = .ok (.if_icmp .ne 6, 3) := by decide +kernel
theorem dX11_oldest_124 : decode cX11_oldest 124 = .ok (.bipush (-2), 2) := by decide +kernel
theorem dX11_oldest_126 : decode cX11_oldest 126 = .ok (.ireturn, 1) := by decide +kernel
theorem dX11_oldest_127 : decode cX11_oldest 127 = .ok (.iload_n 2, 1) := by decide +kernel
theorem dX11_oldest_128 : decode cX11_oldest 128 = .ok (.ifCond .ne 12, 3) := by decide +kernel
theorem dX11_oldest_131 : decode cX11_oldest 131 = .ok (.aload_n 0, 1) := by decide +kernel
theorem dX11_oldest_132 : decode cX11_oldest 132 = .ok (.getfield 48, 3) := by decide +kernel
theorem dX11_oldest_135 : decode cX11_oldest 135 = .ok (.iload_n 3, 1) := by decide +kernel
theorem dX11_oldest_136 : decode cX11_oldest 136 = .ok (.iaload, 1) := by decide +kernel
theorem dX11_oldest_137 : decode cX11_oldest 137 = .ok (.goto 19, 3) := by decide +kernel
theorem dX11_oldest_140 : decode cX11_oldest 140 = .ok (.iload_n 2, 1) := by decide +kernel
theorem dX11_oldest_141 : decode cX11_oldest 141 = .ok (.iconst 1, 1) := by decide +kernel
theorem dX11_oldest_142 : decode cX11_oldest 142 = .ok (.if_icmp .ne 12, 3) := by decide +kernel
theorem dX11_oldest_145 : decode cX11_oldest 145 = .ok (.aload_n 0, 1) := by decide +kernel
theorem dX11_oldest_146 : decode cX11_oldest 146 = .ok (.getfield 51, 3) := by decide +kernel
theorem dX11_oldest_149 : decode cX11_oldest 149 = .ok (.iload_n 3, 1) := by decide +kernel
theorem dX11_oldest_150 : decode cX11_oldest 150 = .ok (.iaload, 1) := by decide +kernel
theorem dX11_oldest_151 : decode cX11_oldest 151 = .ok (.goto 5, 3) := by decide +kernel
theorem dX11_oldest_154 : decode cX11_oldest 154 = .ok (.iload 4, 2) := by decide +kernel
theorem dX11_oldest_156 : decode cX11_oldest 156 = .ok (.ireturn, 1) := by decide +kernel
theorem gX11_isNeedless_X11_parentOf : GoodIn wsX11_isNeedless (wsV RX11 254 RX11 yX11_parentOf wsX11_parentOf) := gw_c t_w631 (gw_c t_w630 (gw_c t_w629 (gw_c t_w510 (gw_c t_w628 (gw_t)))))
theorem dX11_isNeedless_0 : decode cX11_isNeedless 0 = .ok (.iconst 0, 1) := by decide +kernel
theorem dX11_isNeedless_1 : decode cX11_isNeedless 1 = .ok (.istore_n 2, 1) := by decide +kernel
theorem dX11_isNeedless_2 : decode cX11_isNeedless 2 = .ok (.iload_n 2, 1) := by decide +kernel
theorem dX11_isNeedless_3 : decode cX11_isNeedless 3 = .ok (.aload_n 0, 1) := by decide +kernel
theorem dX11_isNeedless_4 : decode cX11_isNeedless 4 = .ok (.getfield 123, 3) := by decide +kernel
theorem dX11_isNeedless_7 : decode cX11_isNeedless 7 = .ok (.if_icmp .ge 72, 3) := by decide +kernel
theorem dX11_isNeedless_10 : decode cX11_isNeedless 10 = .ok (.aload_n 0, 1) := by decide +kernel
theorem dX11_isNeedless_11 : decode cX11_isNeedless 11 = .ok (.getfield 45, 3) := by decide +kernel
theorem dX11_isNeedless_14 : decode cX11_isNeedless 14 = .ok (.iload_n 2, 1) := by decide +kernel
theorem dX11_isNeedless_15 : decode cX11_isNeedless 15 = .ok (.iaload, 1) := by decide +kernel
theorem dX11_isNeedless_16 : decode cX11_isNeedless 16 = .ok (.aload_n 0, 1) := by decide +kernel
theorem dX11_isNeedless_17 : decode cX11_isNeedless 17 = .ok (.getfield 45, 3) := by decide +kernel
theorem dX11_isNeedless_20 : decode cX11_isNeedless 20 = .ok (.iload_n 1, 1) := by decide +kernel
theorem dX11_isNeedless_21 : decode cX11_isNeedless 21 = .ok (.iaload, 1) := by decide +kernel
theorem dX11_isNeedless_22 : decode cX11_isNeedless 22 = .ok (.if_icmp .ge 51, 3) := by decide +kernel
theorem dX11_isNeedless_25 : decode cX11_isNeedless 25 = .ok (.aload_n 0, 1) := by decide +kernel
theorem dX11_isNeedless_26 : decode cX11_isNeedless 26 = .ok (.getfield 51, 3) := by decide +kernel
theorem dX11_isNeedless_29 : decode cX11_isNeedless 29 = .ok (.iload_n 2, 1) := by decide +kernel
theorem dX11_isNeedless_30 : decode cX11_isNeedless 30 = .ok (.iaload, 1) := by decide +kernel
theorem dX11_isNeedless_31 : decode cX11_isNeedless 31 = .ok (.aload_n 0, 1) := by decide +kernel
theorem dX11_isNeedless_32 : decode cX11_isNeedless 32 = .ok (.getfield 51, 3) := by decide +kernel
theorem dX11_isNeedless_35 : decode cX11_isNeedless 35 = .ok (.iload_n 1, 1) := by decide +kernel
theorem dX11_isNeedless_36 : decode cX11_isNeedless 36 = .ok (.iaload, 1) := by decide +kernel
theorem dX11_isNeedless_37 : decode cX11_isNeedless 37 = .ok (.if_icmp .lt 36, 3) := by decide +kernel
theorem dX11_isNeedless_40 : decode cX11_isNeedless 40 = .ok (.aload_n 0, 1) := by decide +kernel
theorem dX11_isNeedless_41 : decode cX11_isNeedless 41 = .ok (.aload_n 0, 1) := by decide +kernel
theorem dX11_isNeedless_42 : decode cX11_isNeedless 42 = .ok (.getfield 45, 3) := by decide +kernel
theorem dX11_isNeedless_45 : decode cX11_isNeedless 45 = .ok (.iload_n 1, 1) := by decide +kernel
theorem dX11_isNeedless_46 : decode cX11_isNeedless 46 = .ok (.iaload, 1) := by decide +kernel
theorem dX11_isNeedless_47 : decode cX11_isNeedless 47 = .ok (.aload_n 0, 1) := by decide +kernel
theorem dX11_isNeedless_48 : decode cX11_isNeedless 48 = .ok (.getfield 48, 3) := by decide +kernel
theorem dX11_isNeedless_51 : decode cX11_isNeedless 51 = .ok (.iload_n 1, 1) := by decide +kernel
theorem dX11_isNeedless_52 : decode cX11_isNeedless 52 = .ok (.iaload, 1) := by decide +kernel
theorem dX11_isNeedless_53 : decode cX11_isNeedless 53 = .ok (.aload_n 0, 1) := by decide +kernel
theorem dX11_isNeedless_54 : decode cX11_isNeedless 54 = .ok (.getfield 45, 3) := by decide +kernel
theorem dX11_isNeedless_57 : decode cX11_isNeedless 57 = .ok (.iload_n 2, 1) := by decide +kernel
theorem dX11_isNeedless_58 : decode cX11_isNeedless 58 = .ok (.iaload, 1) := by decide +kernel
theorem dX11_isNeedless_59 : decode cX11_isNeedless 59 = .ok (.invokevirtual 254, 3) := by decide +kernel
theorem dX11_isNeedless_62 : decode cX11_isNeedless 62 = .ok (.aload_n 0, 1) := by decide +kernel
theorem dX11_isNeedless_63 : decode cX11_isNeedless 63 = .ok (.getfield 48, 3) := by decide +kernel
theorem dX11_isNeedless_66 : decode cX11_isNeedless 66 = .ok (.iload_n 2, 1) := by decide +kernel
theorem dX11_isNeedless_67 : decode cX11_isNeedless 67 = .ok (.iaload, 1) := by decide +kernel
theorem dX11_isNeedless_68 : decode cX11_isNeedless 68 = .ok (.if_icmp .ne 5, 3) := by decide +kernel
theorem dX11_isNeedless_71 : decode cX11_isNeedless 71 = .ok (.iconst 1, 1) := by decide +kernel
theorem dX11_isNeedless_72 : decode cX11_isNeedless 72 = .ok (.ireturn, 1) := by decide +kernel
theorem dX11_isNeedless_73 : decode cX11_isNeedless 73 = .ok (.iinc 2 1, 3) := by decide +kernel
theorem dX11_isNeedless_76 : decode cX11_isNeedless 76 = .ok (.goto (-74), 3) := by decide +kernel
theorem dX11_isNeedless_79 : decode cX11_isNeedless 79 = .ok (.iconst 0, 1) := by decide +kernel
theorem dX11_isNeedless_80 : decode cX11_isNeedless 80 = .ok (.ireturn, 1) := by decide +kernel
theorem gX11_tidy_X11_isNeedless : GoodIn wsX11_tidy (wsV RX11 426 RX11 yX11_isNeedless wsX11_isNeedless) := gw_c t_w768 (gw_c t_w767 (gw_c t_w766 (gw_c t_w510 (gw_c t_w765 (gw_t)))))
theorem gX11_tidy_X11_removes : GoodIn wsX11_tidy (wsV RX11 414 RX11 yX11_removes wsX11_removes) := gw_c t_w753 (gw_c t_w752 (gw_c t_w751 (gw_c t_w510 (gw_c t_w750 (gw_t)))))
theorem dX11_tidy_0 : decode cX11_tidy 0 = .ok (.iconst 0, 1) := by decide +kernel
theorem dX11_tidy_1 : decode cX11_tidy 1 = .ok (.istore_n 1, 1) := by decide +kernel
theorem dX11_tidy_2 : decode cX11_tidy 2 = .ok (.aload_n 0, 1) := by decide +kernel
theorem dX11_tidy_3 : decode cX11_tidy 3 = .ok (.getfield 123, 3) := by decide +kernel
theorem dX11_tidy_6 : decode cX11_tidy 6 = .ok (.iconst 1, 1) := by decide +kernel
theorem dX11_tidy_7 : decode cX11_tidy 7 = .ok (.isub, 1) := by decide +kernel
theorem dX11_tidy_8 : decode cX11_tidy 8 = .ok (.istore_n 2, 1) := by decide +kernel
theorem dX11_tidy_9 : decode cX11_tidy 9 = .ok (.iload_n 2, 1) := by decide +kernel
theorem dX11_tidy_10 : decode cX11_tidy 10 = .ok (.ifCond .lt 29, 3) := by decide +kernel
theorem dX11_tidy_13 : decode cX11_tidy 13 = .ok (.aload_n 0, 1) := by decide +kernel
theorem dX11_tidy_14 : decode cX11_tidy 14 = .ok (.iload_n 2, 1) := by decide +kernel
theorem dX11_tidy_15 : decode cX11_tidy 15 = .ok (.invokevirtual 426, 3) := by decide +kernel
theorem dX11_tidy_18 : decode cX11_tidy 18 = .ok (.ifCond .ne 6, 3) := by decide +kernel
theorem dX11_tidy_21 : decode cX11_tidy 21 = .ok (.goto 12, 3) := by decide +kernel
theorem dX11_tidy_24 : decode cX11_tidy 24 = .ok (.aload_n 0, 1) := by decide +kernel
theorem dX11_tidy_25 : decode cX11_tidy 25 = .ok (.iload_n 2, 1) := by decide +kernel
theorem dX11_tidy_26 : decode cX11_tidy 26 = .ok (.invokevirtual 414, 3) := by decide +kernel
theorem dX11_tidy_29 : decode cX11_tidy 29 = .ok (.iload_n 1, 1) := by decide +kernel
theorem dX11_tidy_30 : decode cX11_tidy 30 = .ok (.iconst 1, 1) := by decide +kernel
theorem dX11_tidy_31 : decode cX11_tidy 31 = .ok (.iadd, 1) := by decide +kernel
theorem dX11_tidy_32 : decode cX11_tidy 32 = .ok (.istore_n 1, 1) := by decide +kernel
theorem dX11_tidy_33 : decode cX11_tidy 33 = .ok (.iinc 2 (-1), 3) := by decide +kernel
theorem dX11_tidy_36 : decode cX11_tidy 36 = .ok (.goto (-27), 3) := by decide +kernel
theorem dX11_tidy_39 : decode cX11_tidy 39 = .ok (.iload_n 1, 1) := by decide +kernel
theorem dX11_tidy_40 : decode cX11_tidy 40 = .ok (.ireturn, 1) := by decide +kernel
theorem gX11_changes_X11_isPlace : GoodIn wsX11_changes (va_wsS RX11 133 yX11_isPlace wsX11_isPlace) := gw_c t_w561 (gw_c t_w560 (gw_c t_w510 (gw_c t_w559 (gw_t))))
theorem gX11_changes_X11_in : GoodIn wsX11_changes (va_wsS RX11 72 yX11_in wsX11_in) := gw_c t_w519 (gw_c t_w518 (gw_c t_w510 (gw_c t_w517 (gw_t))))
theorem gX11_changes_X11_isLevel : GoodIn wsX11_changes (va_wsS RX11 84 yX11_isLevel wsX11_isLevel) := gw_c t_w522 (gw_c t_w521 (gw_c t_w510 (gw_c t_w520 (gw_t))))
theorem gX11_changes_X11_keyAtPlace : GoodIn wsX11_changes (wsV RX11 137 RX11 yX11_keyAtPlace wsX11_keyAtPlace) := gw_c t_w565 (gw_c t_w564 (gw_c t_w563 (gw_c t_w510 (gw_c t_w562 (gw_t)))))
theorem gX11_changes_X11_down : GoodIn wsX11_changes (va_wsS RX11 247 yX11_down wsX11_down) := gw_c t_w623 (gw_c t_w622 (gw_c t_w510 (gw_c t_w621 (gw_t))))
theorem dX11_changes_0 : decode cX11_changes 0 = .ok (.iload_n 1, 1) := by decide +kernel
theorem dX11_changes_1 : decode cX11_changes 1 = .ok (.iload_n 2, 1) := by decide +kernel
theorem dX11_changes_2 : decode cX11_changes 2 = .ok (.invokestatic 133, 3) := by decide +kernel
theorem dX11_changes_5 : decode cX11_changes 5 = .ok (.ifCond .eq 33, 3) := by decide +kernel
theorem dX11_changes_8 : decode cX11_changes 8 = .ok (.iload_n 3, 1) := by decide +kernel
theorem dX11_changes_9 : decode cX11_changes 9 = .ok (.iload 4, 2) := by decide +kernel
theorem dX11_changes_11 : decode cX11_changes 11 = .ok (.invokestatic 133, 3) := by decide +kernel
theorem dX11_changes_14 : decode cX11_changes 14 = .ok (.ifCond .eq 24, 3) := by decide +kernel
theorem dX11_changes_17 : decode cX11_changes 17 = .ok (.iload 5, 2) := by decide +kernel
theorem dX11_changes_19 : decode cX11_changes 19 = .ok (.i2l, 1) := by decide +kernel
theorem dX11_changes_20 : decode cX11_changes 20 = .ok (.lconst 1, 1) := by decide +kernel
theorem dX11_changes_21 : decode cX11_changes 21 = .ok (.ldc2_w 429, 3) := by decide +kernel
theorem dX11_changes_24 : decode cX11_changes 24 = .ok (.invokestatic 72, 3) := by decide +kernel
theorem dX11_changes_27 : decode cX11_changes 27 = .ok (.ifCond .eq 11, 3) := by decide +kernel
theorem dX11_changes_30 : decode cX11_changes 30 = .ok (.iload 6, 2) := by decide +kernel
theorem dX11_changes_32 : decode cX11_changes 32 = .ok (.invokestatic 84, 3) := by decide +kernel
theorem dX11_changes_35 : decode cX11_changes 35 = .ok (.ifCond .ne 5, 3) := by decide +kernel
theorem dX11_changes_38 : decode cX11_changes 38 = .ok (.iconst (-1), 1) := by decide +kernel
theorem dX11_changes_39 : decode cX11_changes 39 = .ok (.ireturn, 1) := by decide +kernel
theorem dX11_changes_40 : decode cX11_changes 40 = .ok (.iconst 0, 1) := by decide +kernel
theorem dX11_changes_41 : decode cX11_changes 41 = .ok (.istore 7, 2) := by decide +kernel
theorem dX11_changes_43 : decode cX11_changes 43 = .ok (.aload_n 0, 1) := by decide +kernel
theorem dX11_changes_44 : decode cX11_changes 44 = .ok (.iload_n 1, 1) := by decide +kernel
theorem dX11_changes_45 : decode cX11_changes 45 = .ok (.iload_n 2, 1) := by decide +kernel
theorem dX11_changes_46 : decode cX11_changes 46 = .ok (.iload 6, 2) := by decide +kernel
theorem dX11_changes_48 : decode cX11_changes 48 = .ok (.invokevirtual 137, 3) := by decide +kernel
theorem dX11_changes_51 : decode cX11_changes 51 = .ok (.istore 8, 2) := by decide +kernel
theorem dX11_changes_53 : decode cX11_changes 53 = .ok (.iconst 1, 1) := by decide +kernel
theorem dX11_changes_54 : decode cX11_changes 54 = .ok (.istore 9, 2) := by decide +kernel
theorem dX11_changes_56 : decode cX11_changes 56 = .ok (.iload 9, 2) := by decide +kernel
theorem dX11_changes_58 : decode cX11_changes 58 = .ok (.iload 5, 2) := by decide +kernel
theorem dX11_changes_60 : decode cX11_changes 60 = .ok (.if_icmp .gt 91, 3) := by decide +kernel
theorem dX11_changes_63 : decode cX11_changes 63 = .ok (.iload_n 1, 1) := by decide +kernel
theorem dX11_changes_64 : decode cX11_changes 64 = .ok (.i2l, 1) := by decide +kernel
theorem dX11_changes_65 : decode cX11_changes 65 = .ok (.iload 5, 2) := by decide +kernel
theorem dX11_changes_67 : decode cX11_changes 67 = .ok (.i2l, 1) := by decide +kernel
theorem dX11_changes_68 : decode cX11_changes 68 = .ok (.lmul, 1) := by decide +kernel
theorem dX11_changes_69 : decode cX11_changes 69 = .ok (.iload_n 3, 1) := by decide +kernel
theorem dX11_changes_70 : decode cX11_changes 70 = .ok (.iload_n 1, 1) := by decide +kernel
theorem dX11_changes_71 : decode cX11_changes 71 = .ok (.isub, 1) := by decide +kernel
theorem dX11_changes_72 : decode cX11_changes 72 = .ok (.i2l, 1) := by decide +kernel
theorem dX11_changes_73 : decode cX11_changes 73 = .ok (.iload 9, 2) := by decide +kernel
theorem dX11_changes_75 : decode cX11_changes 75 = .ok (.i2l, 1) := by decide +kernel
theorem dX11_changes_76 : decode cX11_changes 76 = .ok (.lmul, 1) := by decide +kernel
theorem dX11_changes_77 : decode cX11_changes 77 = .ok (.ladd, 1) := by decide +kernel
theorem dX11_changes_78 : decode cX11_changes 78 = .ok (.iload 5, 2) := by decide +kernel
theorem dX11_changes_80 : decode cX11_changes 80 = .ok (.i2l, 1) := by decide +kernel
theorem dX11_changes_81 : decode cX11_changes 81 = .ok (.invokestatic 247, 3) := by decide +kernel
theorem dX11_changes_84 : decode cX11_changes 84 = .ok (.l2i, 1) := by decide +kernel
theorem dX11_changes_85 : decode cX11_changes 85 = .ok (.istore 10, 2) := by decide +kernel
theorem dX11_changes_87 : decode cX11_changes 87 = .ok (.iload_n 2, 1) := by decide +kernel
theorem dX11_changes_88 : decode cX11_changes 88 = .ok (.i2l, 1) := by decide +kernel
theorem dX11_changes_89 : decode cX11_changes 89 = .ok (.iload 5, 2) := by decide +kernel
theorem dX11_changes_91 : decode cX11_changes 91 = .ok (.i2l, 1) := by decide +kernel
theorem dX11_changes_92 : decode cX11_changes 92 = .ok (.lmul, 1) := by decide +kernel
theorem dX11_changes_93 : decode cX11_changes 93 = .ok (.iload 4, 2) := by decide +kernel
theorem dX11_changes_95 : decode cX11_changes 95 = .ok (.iload_n 2, 1) := by decide +kernel
theorem dX11_changes_96 : decode cX11_changes 96 = .ok (.isub, 1) := by decide +kernel
theorem dX11_changes_97 : decode cX11_changes 97 = .ok (.i2l, 1) := by decide +kernel
theorem dX11_changes_98 : decode cX11_changes 98 = .ok (.iload 9, 2) := by decide +kernel
theorem dX11_changes_100 : decode cX11_changes 100 = .ok (.i2l, 1) := by decide +kernel
theorem dX11_changes_101 : decode cX11_changes 101 = .ok (.lmul, 1) := by decide +kernel
theorem dX11_changes_102 : decode cX11_changes 102 = .ok (.ladd, 1) := by decide +kernel
theorem dX11_changes_103 : decode cX11_changes 103 = .ok (.iload 5, 2) := by decide +kernel
theorem dX11_changes_105 : decode cX11_changes 105 = .ok (.i2l, 1) := by decide +kernel
theorem dX11_changes_106 : decode cX11_changes 106 = .ok (.invokestatic 247, 3) := by decide +kernel
theorem dX11_changes_109 : decode cX11_changes 109 = .ok (.l2i, 1) := by decide +kernel
theorem dX11_changes_110 : decode cX11_changes 110 = .ok (.istore 11, 2) := by decide +kernel
theorem dX11_changes_112 : decode cX11_changes 112 = .ok (.aload_n 0, 1) := by decide +kernel
theorem dX11_changes_113 : decode cX11_changes 113 = .ok (.iload 10, 2) := by decide +kernel
theorem dX11_changes_115 : decode cX11_changes 115 = .ok (.iload 11, 2) := by decide +kernel
theorem dX11_changes_117 : decode cX11_changes 117 = .ok (.iload 6, 2) := by decide +kernel
theorem dX11_changes_119 : decode cX11_changes 119 = .ok (.invokevirtual 137, 3) := by decide +kernel
theorem dX11_changes_122 : decode cX11_changes 122 = .ok (.istore 12, 2) := by decide +kernel
theorem dX11_changes_124 : decode cX11_changes 124 = .ok (.iload 7, 2) := by decide +kernel
theorem dX11_changes_126 : decode cX11_changes 126 = .ok (.iload 12, 2) := by decide +kernel
theorem dX11_changes_128 : decode cX11_changes 128 = .ok (.iload 8, 2) := by decide +kernel
theorem dX11_changes_130 : decode cX11_changes 130 = .ok (.if_icmp .ne 7, 3) := by decide +kernel
theorem dX11_changes_133 : decode cX11_changes 133 = .ok (.iconst 0, 1) := by decide +kernel
theorem dX11_changes_134 : decode cX11_changes 134 = .ok (.goto 4, 3) := by decide +kernel
theorem dX11_changes_137 : decode cX11_changes 137 = .ok (.iconst 1, 1) := by decide +kernel
theorem dX11_changes_138 : decode cX11_changes 138 = .ok (.iadd, 1) := by decide +kernel
theorem dX11_changes_139 : decode cX11_changes 139 = .ok (.istore 7, 2) := by decide +kernel
theorem dX11_changes_141 : decode cX11_changes 141 = .ok (.iload 12, 2) := by decide +kernel
theorem dX11_changes_143 : decode cX11_changes 143 = .ok (.istore 8, 2) := by decide +kernel
theorem dX11_changes_145 : decode cX11_changes 145 = .ok (.iinc 9 1, 3) := by decide +kernel
theorem dX11_changes_148 : decode cX11_changes 148 = .ok (.goto (-92), 3) := by decide +kernel
theorem dX11_changes_151 : decode cX11_changes 151 = .ok (.iload 7, 2) := by decide +kernel
theorem dX11_changes_153 : decode cX11_changes 153 = .ok (.ireturn, 1) := by decide +kernel
theorem dX11_draw_0 : decode cX11_draw 0 = .ok (.aload_n 0, 1) := by decide +kernel
theorem dX11_draw_1 : decode cX11_draw 1 = .ok (.sipush 25173, 3) := by decide +kernel
theorem dX11_draw_4 : decode cX11_draw 4 = .ok (.aload_n 0, 1) := by decide +kernel
theorem dX11_draw_5 : decode cX11_draw 5 = .ok (.getfield 431, 3) := by decide +kernel
theorem dX11_draw_8 : decode cX11_draw 8 = .ok (.imul, 1) := by decide +kernel
theorem dX11_draw_9 : decode cX11_draw 9 = .ok (.sipush 13849, 3) := by decide +kernel
theorem dX11_draw_12 : decode cX11_draw 12 = .ok (.iadd, 1) := by decide +kernel
theorem dX11_draw_13 : decode cX11_draw 13 = .ok (.ldc_w 434, 3) := by decide +kernel
theorem dX11_draw_16 : decode cX11_draw 16 = .ok (.irem, 1) := by decide +kernel
theorem dX11_draw_17 : decode cX11_draw 17 = .ok (.putfield 431, 3) := by decide +kernel
theorem dX11_draw_20 : decode cX11_draw 20 = .ok (.aload_n 0, 1) := by decide +kernel
theorem dX11_draw_21 : decode cX11_draw 21 = .ok (.getfield 431, 3) := by decide +kernel
theorem dX11_draw_24 : decode cX11_draw 24 = .ok (.iconst 4, 1) := by decide +kernel
theorem dX11_draw_25 : decode cX11_draw 25 = .ok (.idiv, 1) := by decide +kernel
theorem dX11_draw_26 : decode cX11_draw 26 = .ok (.iload_n 1, 1) := by decide +kernel
theorem dX11_draw_27 : decode cX11_draw 27 = .ok (.irem, 1) := by decide +kernel
theorem dX11_draw_28 : decode cX11_draw 28 = .ok (.ireturn, 1) := by decide +kernel
theorem gX11_drawn_X11_in : GoodIn wsX11_drawn (va_wsS RX11 72 yX11_in wsX11_in) := gw_c t_w519 (gw_c t_w518 (gw_c t_w510 (gw_c t_w517 (gw_t))))
theorem gX11_drawn_X11_isLevel : GoodIn wsX11_drawn (va_wsS RX11 84 yX11_isLevel wsX11_isLevel) := gw_c t_w522 (gw_c t_w521 (gw_c t_w510 (gw_c t_w520 (gw_t))))
theorem gX11_drawn_X11_draw : GoodIn wsX11_drawn (wsV RX11 436 RX11 yX11_draw wsX11_draw) := gw_c t_w772 (gw_c t_w771 (gw_c t_w770 (gw_c t_w510 (gw_c t_w769 (gw_t)))))
theorem gX11_drawn_X11_keyAtPlace : GoodIn wsX11_drawn (wsV RX11 137 RX11 yX11_keyAtPlace wsX11_keyAtPlace) := gw_c t_w565 (gw_c t_w564 (gw_c t_w563 (gw_c t_w510 (gw_c t_w562 (gw_t)))))
theorem dX11_drawn_0 : decode cX11_drawn 0 = .ok (.iload_n 2, 1) := by decide +kernel
theorem dX11_drawn_1 : decode cX11_drawn 1 = .ok (.i2l, 1) := by decide +kernel
theorem dX11_drawn_2 : decode cX11_drawn 2 = .ok (.lconst 1, 1) := by decide +kernel
theorem dX11_drawn_3 : decode cX11_drawn 3 = .ok (.ldc2_w 429, 3) := by decide +kernel
theorem dX11_drawn_6 : decode cX11_drawn 6 = .ok (.invokestatic 72, 3) := by decide +kernel
theorem dX11_drawn_9 : decode cX11_drawn 9 = .ok (.ifCond .eq 10, 3) := by decide +kernel
theorem dX11_drawn_12 : decode cX11_drawn 12 = .ok (.iload_n 3, 1) := by decide +kernel
theorem dX11_drawn_13 : decode cX11_drawn 13 = .ok (.invokestatic 84, 3) := by decide +kernel
theorem dX11_drawn_16 : decode cX11_drawn 16 = .ok (.ifCond .ne 5, 3) := by decide +kernel
theorem dX11_drawn_19 : decode cX11_drawn 19 = .ok (.iconst (-1), 1) := by decide +kernel
theorem dX11_drawn_20 : decode cX11_drawn 20 = .ok (.ireturn, 1) := by decide +kernel
theorem dX11_drawn_21 : decode cX11_drawn 21 = .ok (.aload_n 0, 1) := by decide +kernel
theorem dX11_drawn_22 : decode cX11_drawn 22 = .ok (.iload_n 1, 1) := by decide +kernel
theorem dX11_drawn_23 : decode cX11_drawn 23 = .ok (.ldc_w 435, 3) := by decide +kernel
theorem dX11_drawn_26 : decode cX11_drawn 26 = .ok (.iand, 1) := by decide +kernel
theorem dX11_drawn_27 : decode cX11_drawn 27 = .ok (.putfield 431, 3) := by decide +kernel
theorem dX11_drawn_30 : decode cX11_drawn 30 = .ok (.iconst 0, 1) := by decide +kernel
theorem dX11_drawn_31 : decode cX11_drawn 31 = .ok (.istore 4, 2) := by decide +kernel
theorem dX11_drawn_33 : decode cX11_drawn 33 = .ok (.iconst 0, 1) := by decide +kernel
theorem dX11_drawn_34 : decode cX11_drawn 34 = .ok (.istore 5, 2) := by decide +kernel
theorem dX11_drawn_36 : decode cX11_drawn 36 = .ok (.iload 5, 2) := by decide +kernel
theorem dX11_drawn_38 : decode cX11_drawn 38 = .ok (.iload_n 2, 1) := by decide +kernel
theorem dX11_drawn_39 : decode cX11_drawn 39 = .ok (.if_icmp .ge 111, 3) := by decide +kernel
theorem dX11_drawn_42 : decode cX11_drawn 42 = .ok (.aload_n 0, 1) := by decide +kernel
theorem dX11_drawn_43 : decode cX11_drawn 43 = .ok (.sipush 16384, 3) := by decide +kernel
theorem dX11_drawn_46 : decode cX11_drawn 46 = .ok (.invokevirtual 436, 3) := by decide +kernel
theorem dX11_drawn_49 : decode cX11_drawn 49 = .ok (.bipush 39, 2) := by decide +kernel
theorem dX11_drawn_51 : decode cX11_drawn 51 = .ok (.imul, 1) := by decide +kernel
theorem dX11_drawn_52 : decode cX11_drawn 52 = .ok (.ldc_w 439, 3) := by decide +kernel
theorem dX11_drawn_55 : decode cX11_drawn 55 = .ok (.isub, 1) := by decide +kernel
theorem dX11_drawn_56 : decode cX11_drawn 56 = .ok (.istore 6, 2) := by decide +kernel
theorem dX11_drawn_58 : decode cX11_drawn 58 = .ok (.aload_n 0, 1) := by decide +kernel
theorem dX11_drawn_59 : decode cX11_drawn 59 = .ok (.iload 6, 2) := by decide +kernel
theorem dX11_drawn_61 : decode cX11_drawn 61 = .ok (.aload_n 0, 1) := by decide +kernel
theorem dX11_drawn_62 : decode cX11_drawn 62 = .ok (.sipush 16384, 3) := by decide +kernel
theorem dX11_drawn_65 : decode cX11_drawn 65 = .ok (.invokevirtual 436, 3) := by decide +kernel
theorem dX11_drawn_68 : decode cX11_drawn 68 = .ok (.bipush 79, 2) := by decide +kernel
theorem dX11_drawn_70 : decode cX11_drawn 70 = .ok (.imul, 1) := by decide +kernel
theorem dX11_drawn_71 : decode cX11_drawn 71 = .ok (.iload_n 3, 1) := by decide +kernel
theorem dX11_drawn_72 : decode cX11_drawn 72 = .ok (.invokevirtual 137, 3) := by decide +kernel
theorem dX11_drawn_75 : decode cX11_drawn 75 = .ok (.istore 7, 2) := by decide +kernel
theorem dX11_drawn_77 : decode cX11_drawn 77 = .ok (.iconst 1, 1) := by decide +kernel
theorem dX11_drawn_78 : decode cX11_drawn 78 = .ok (.istore 8, 2) := by decide +kernel
theorem dX11_drawn_80 : decode cX11_drawn 80 = .ok (.iconst 0, 1) := by decide +kernel
theorem dX11_drawn_81 : decode cX11_drawn 81 = .ok (.istore 9, 2) := by decide +kernel
theorem dX11_drawn_83 : decode cX11_drawn 83 = .ok (.iload 9, 2) := by decide +kernel
theorem dX11_drawn_85 : decode cX11_drawn 85 = .ok (.iload 4, 2) := by decide +kernel
theorem dX11_drawn_87 : decode cX11_drawn 87 = .ok (.if_icmp .ge 33, 3) := by decide +kernel
theorem dX11_drawn_90 : decode cX11_drawn 90 = .ok (.iload 8, 2) := by decide +kernel
theorem dX11_drawn_92 : decode cX11_drawn 92 = .ok (.ifCond .eq 19, 3) := by decide +kernel
theorem dX11_drawn_95 : decode cX11_drawn 95 = .ok (.aload_n 0, 1) := by decide +kernel
theorem dX11_drawn_96 : decode cX11_drawn 96 = .ok (.getfield 54, 3) := by decide +kernel
theorem dX11_drawn_99 : decode cX11_drawn 99 = .ok (.iload 9, 2) := by decide +kernel
theorem dX11_drawn_101 : decode cX11_drawn 101 = .ok (.iaload, 1) := by decide +kernel
theorem dX11_drawn_102 : decode cX11_drawn 102 = .ok (.iload 7, 2) := by decide +kernel
theorem dX11_drawn_104 : decode cX11_drawn 104 = .ok (.if_icmp .eq 7, 3) := by decide +kernel
theorem dX11_drawn_107 : decode cX11_drawn 107 = .ok (.iconst 1, 1) := by decide +kernel
theorem dX11_drawn_108 : decode cX11_drawn 108 = .ok (.goto 4, 3) := by decide +kernel
theorem dX11_drawn_111 : decode cX11_drawn 111 = .ok (.iconst 0, 1) := by decide +kernel
theorem dX11_drawn_112 : decode cX11_drawn 112 = .ok (.istore 8, 2) := by decide +kernel
theorem dX11_drawn_114 : decode cX11_drawn 114 = .ok (.iinc 9 1, 3) := by decide +kernel
theorem dX11_drawn_117 : decode cX11_drawn 117 = .ok (.goto (-34), 3) := by decide +kernel
theorem dX11_drawn_120 : decode cX11_drawn 120 = .ok (.aload_n 0, 1) := by decide +kernel
theorem dX11_drawn_121 : decode cX11_drawn 121 = .ok (.getfield 54, 3) := by decide +kernel
theorem dX11_drawn_124 : decode cX11_drawn 124 = .ok (.iload 4, 2) := by decide +kernel
theorem dX11_drawn_126 : decode cX11_drawn 126 = .ok (.iload 7, 2) := by decide +kernel
theorem dX11_drawn_128 : decode cX11_drawn 128 = .ok (.iastore, 1) := by decide +kernel
theorem dX11_drawn_129 : decode cX11_drawn 129 = .ok (.iload 4, 2) := by decide +kernel
theorem dX11_drawn_131 : decode cX11_drawn 131 = .ok (.iload 8, 2) := by decide +kernel
theorem dX11_drawn_133 : decode cX11_drawn 133 = .ok (.ifCond .eq 7, 3) := by decide +kernel
theorem dX11_drawn_136 : decode cX11_drawn 136 = .ok (.iconst 1, 1) := by decide +kernel
theorem dX11_drawn_137 : decode cX11_drawn 137 = .ok (.goto 4, 3) := by decide +kernel
theorem dX11_drawn_140 : decode cX11_drawn 140 = .ok (.iconst 0, 1) := by decide +kernel
theorem dX11_drawn_141 : decode cX11_drawn 141 = .ok (.iadd, 1) := by decide +kernel
theorem dX11_drawn_142 : decode cX11_drawn 142 = .ok (.istore 4, 2) := by decide +kernel
theorem dX11_drawn_144 : decode cX11_drawn 144 = .ok (.iinc 5 1, 3) := by decide +kernel
theorem dX11_drawn_147 : decode cX11_drawn 147 = .ok (.goto (-111), 3) := by decide +kernel
theorem dX11_drawn_150 : decode cX11_drawn 150 = .ok (.iload 4, 2) := by decide +kernel
theorem dX11_drawn_152 : decode cX11_drawn 152 = .ok (.ireturn, 1) := by decide +kernel
theorem gX11_bands_X11_isKey : GoodIn wsX11_bands (wsV RX11 153 RX11 yX11_isKey wsX11_isKey) := gw_c t_w585 (gw_c t_w584 (gw_c t_w583 (gw_c t_w510 (gw_c t_w582 (gw_t)))))
theorem gX11_bands_X11_rowOf : GoodIn wsX11_bands (wsV RX11 101 RX11 yX11_rowOf wsX11_rowOf) := gw_c t_w542 (gw_c t_w541 (gw_c t_w540 (gw_c t_w510 (gw_c t_w539 (gw_t)))))
theorem gX11_bands_X11_lastRow : GoodIn wsX11_bands (wsV RX11 94 RX11 yX11_lastRow wsX11_lastRow) := gw_c t_w534 (gw_c t_w533 (gw_c t_w532 (gw_c t_w510 (gw_c t_w531 (gw_t)))))
theorem gX11_bands_X11_bandOf : GoodIn wsX11_bands (wsV RX11 97 RX11 yX11_bandOf wsX11_bandOf) := gw_c t_w538 (gw_c t_w537 (gw_c t_w536 (gw_c t_w510 (gw_c t_w535 (gw_t)))))
theorem dX11_bands_0 : decode cX11_bands 0 = .ok (.aload_n 0, 1) := by decide +kernel
theorem dX11_bands_1 : decode cX11_bands 1 = .ok (.iload_n 1, 1) := by decide +kernel
theorem dX11_bands_2 : decode cX11_bands 2 = .ok (.iload_n 2, 1) := by decide +kernel
theorem dX11_bands_3 : decode cX11_bands 3 = .ok (.invokevirtual 153, 3) := by decide +kernel
theorem dX11_bands_6 : decode cX11_bands 6 = .ok (.ifCond .eq 17, 3) := by decide +kernel
theorem dX11_bands_9 : decode cX11_bands 9 = .ok (.aload_n 0, 1) := by decide +kernel
theorem dX11_bands_10 : decode cX11_bands 10 = .ok (.iload_n 1, 1) := by decide +kernel
theorem dX11_bands_11 : decode cX11_bands 11 = .ok (.iload_n 3, 1) := by decide +kernel
theorem dX11_bands_12 : decode cX11_bands 12 = .ok (.invokevirtual 153, 3) := by decide +kernel
theorem dX11_bands_15 : decode cX11_bands 15 = .ok (.ifCond .eq 8, 3) := by decide +kernel
theorem dX11_bands_18 : decode cX11_bands 18 = .ok (.iload_n 2, 1) := by decide +kernel
theorem dX11_bands_19 : decode cX11_bands 19 = .ok (.iload_n 3, 1) := by decide +kernel
theorem dX11_bands_20 : decode cX11_bands 20 = .ok (.if_icmp .le 5, 3) := by decide +kernel
theorem dX11_bands_23 : decode cX11_bands 23 = .ok (.iconst (-1), 1) := by decide +kernel
theorem dX11_bands_24 : decode cX11_bands 24 = .ok (.ireturn, 1) := by decide +kernel
theorem dX11_bands_25 : decode cX11_bands 25 = .ok (.aload_n 0, 1) := by decide +kernel
theorem dX11_bands_26 : decode cX11_bands 26 = .ok (.iload_n 1, 1) := by decide +kernel
theorem dX11_bands_27 : decode cX11_bands 27 = .ok (.iload_n 2, 1) := by decide +kernel
theorem dX11_bands_28 : decode cX11_bands 28 = .ok (.invokevirtual 101, 3) := by decide +kernel
theorem dX11_bands_31 : decode cX11_bands 31 = .ok (.istore 4, 2) := by decide +kernel
theorem dX11_bands_33 : decode cX11_bands 33 = .ok (.aload_n 0, 1) := by decide +kernel
theorem dX11_bands_34 : decode cX11_bands 34 = .ok (.iload_n 1, 1) := by decide +kernel
theorem dX11_bands_35 : decode cX11_bands 35 = .ok (.iload_n 3, 1) := by decide +kernel
theorem dX11_bands_36 : decode cX11_bands 36 = .ok (.invokevirtual 101, 3) := by decide +kernel
theorem dX11_bands_39 : decode cX11_bands 39 = .ok (.istore 5, 2) := by decide +kernel
theorem dX11_bands_41 : decode cX11_bands 41 = .ok (.iload 4, 2) := by decide +kernel
theorem dX11_bands_43 : decode cX11_bands 43 = .ok (.ifCond .ne 7, 3) := by decide +kernel
theorem dX11_bands_46 : decode cX11_bands 46 = .ok (.iconst 1, 1) := by decide +kernel
theorem dX11_bands_47 : decode cX11_bands 47 = .ok (.goto 5, 3) := by decide +kernel
theorem dX11_bands_50 : decode cX11_bands 50 = .ok (.iload 4, 2) := by decide +kernel
theorem dX11_bands_52 : decode cX11_bands 52 = .ok (.istore 4, 2) := by decide +kernel
theorem dX11_bands_54 : decode cX11_bands 54 = .ok (.iload 5, 2) := by decide +kernel
theorem dX11_bands_56 : decode cX11_bands 56 = .ok (.aload_n 0, 1) := by decide +kernel
theorem dX11_bands_57 : decode cX11_bands 57 = .ok (.iload_n 1, 1) := by decide +kernel
theorem dX11_bands_58 : decode cX11_bands 58 = .ok (.invokevirtual 94, 3) := by decide +kernel
theorem dX11_bands_61 : decode cX11_bands 61 = .ok (.if_icmp .ne 10, 3) := by decide +kernel
theorem dX11_bands_64 : decode cX11_bands 64 = .ok (.iload 5, 2) := by decide +kernel
theorem dX11_bands_66 : decode cX11_bands 66 = .ok (.iconst 1, 1) := by decide +kernel
theorem dX11_bands_67 : decode cX11_bands 67 = .ok (.isub, 1) := by decide +kernel
theorem dX11_bands_68 : decode cX11_bands 68 = .ok (.goto 5, 3) := by decide +kernel
theorem dX11_bands_71 : decode cX11_bands 71 = .ok (.iload 5, 2) := by decide +kernel
theorem dX11_bands_73 : decode cX11_bands 73 = .ok (.istore 5, 2) := by decide +kernel
theorem dX11_bands_75 : decode cX11_bands 75 = .ok (.iload 4, 2) := by decide +kernel
theorem dX11_bands_77 : decode cX11_bands 77 = .ok (.iload 5, 2) := by decide +kernel
theorem dX11_bands_79 : decode cX11_bands 79 = .ok (.if_icmp .le 7, 3) := by decide +kernel
theorem dX11_bands_82 : decode cX11_bands 82 = .ok (.iconst 0, 1) := by decide +kernel
theorem dX11_bands_83 : decode cX11_bands 83 = .ok (.goto 20, 3) := by decide +kernel
theorem dX11_bands_86 : decode cX11_bands 86 = .ok (.aload_n 0, 1) := by decide +kernel
theorem dX11_bands_87 : decode cX11_bands 87 = .ok (.iload_n 1, 1) := by decide +kernel
theorem dX11_bands_88 : decode cX11_bands 88 = .ok (.iload 5, 2) := by decide +kernel
theorem dX11_bands_90 : decode cX11_bands 90 = .ok (.invokevirtual 97, 3) := by decide +kernel
theorem dX11_bands_93 : decode cX11_bands 93 = .ok (.aload_n 0, 1) := by decide +kernel
theorem dX11_bands_94 : decode cX11_bands 94 = .ok (.iload_n 1, 1) := by decide +kernel
theorem dX11_bands_95 : decode cX11_bands 95 = .ok (.iload 4, 2) := by decide +kernel
theorem dX11_bands_97 : decode cX11_bands 97 = .ok (.invokevirtual 97, 3) := by decide +kernel
theorem dX11_bands_100 : decode cX11_bands 100 = .ok (.isub, 1) := by decide +kernel
theorem dX11_bands_101 : decode cX11_bands 101 = .ok (.iconst 1, 1) := by decide +kernel
theorem dX11_bands_102 : decode cX11_bands 102 = .ok (.iadd, 1) := by decide +kernel
theorem dX11_bands_103 : decode cX11_bands 103 = .ok (.ireturn, 1) := by decide +kernel
theorem dX11_count_0 : decode cX11_count 0 = .ok (.iload_n 1, 1) := by decide +kernel
theorem dX11_count_1 : decode cX11_count 1 = .ok (.tableswitch 78 0 6 #[43, 48, 53, 58, 63, 68, 73], 43) := by decide +kernel
theorem dX11_count_44 : decode cX11_count 44 = .ok (.aload_n 0, 1) := by decide +kernel
theorem dX11_count_45 : decode cX11_count 45 = .ok (.getfield 123, 3) := by decide +kernel
theorem dX11_count_48 : decode cX11_count 48 = .ok (.ireturn, 1) := by decide +kernel
theorem dX11_count_49 : decode cX11_count 49 = .ok (.aload_n 0, 1) := by decide +kernel
theorem dX11_count_50 : decode cX11_count 50 = .ok (.getfield 160, 3) := by decide +kernel
theorem dX11_count_53 : decode cX11_count 53 = .ok (.ireturn, 1) := by decide +kernel
theorem dX11_count_54 : decode cX11_count 54 = .ok (.aload_n 0, 1) := by decide +kernel
theorem dX11_count_55 : decode cX11_count 55 = .ok (.getfield 440, 3) := by decide +kernel
theorem dX11_count_58 : decode cX11_count 58 = .ok (.ireturn, 1) := by decide +kernel
theorem dX11_count_59 : decode cX11_count 59 = .ok (.aload_n 0, 1) := by decide +kernel
theorem dX11_count_60 : decode cX11_count 60 = .ok (.getfield 199, 3) := by decide +kernel
theorem dX11_count_63 : decode cX11_count 63 = .ok (.ireturn, 1) := by decide +kernel
theorem dX11_count_64 : decode cX11_count 64 = .ok (.aload_n 0, 1) := by decide +kernel
theorem dX11_count_65 : decode cX11_count 65 = .ok (.getfield 202, 3) := by decide +kernel
theorem dX11_count_68 : decode cX11_count 68 = .ok (.ireturn, 1) := by decide +kernel
theorem dX11_count_69 : decode cX11_count 69 = .ok (.aload_n 0, 1) := by decide +kernel
theorem dX11_count_70 : decode cX11_count 70 = .ok (.getfield 205, 3) := by decide +kernel
theorem dX11_count_73 : decode cX11_count 73 = .ok (.ireturn, 1) := by decide +kernel
theorem dX11_count_74 : decode cX11_count 74 = .ok (.aload_n 0, 1) := by decide +kernel
theorem dX11_count_75 : decode cX11_count 75 = .ok (.getfield 208, 3) := by decide +kernel
theorem dX11_count_78 : decode cX11_count 78 = .ok (.ireturn, 1) := by decide +kernel
theorem dX11_count_79 : decode cX11_count 79 = .ok (.iconst (-1), 1) := by decide +kernel
theorem dX11_count_80 : decode cX11_count 80 = .ok (.ireturn, 1) := by decide +kernel
theorem dX11_keeps_0 : decode cX11_keeps 0 = .ok (.aload_n 0, 1) := by decide +kernel
theorem dX11_keeps_1 : decode cX11_keeps 1 = .ok (.getfield 57, 3) := by decide +kernel
theorem dX11_keeps_4 : decode cX11_keeps 4 = .ok (.aload_n 0, 1) := by decide +kernel
theorem dX11_keeps_5 : decode cX11_keeps 5 = .ok (.getfield 443, 3) := by decide +kernel
theorem dX11_keeps_8 : decode cX11_keeps 8 = .ok (.iload_n 1, 1) := by decide +kernel
theorem dX11_keeps_9 : decode cX11_keeps 9 = .ok (.iastore, 1) := by decide +kernel
theorem dX11_keeps_10 : decode cX11_keeps 10 = .ok (.aload_n 0, 1) := by decide +kernel
theorem dX11_keeps_11 : decode cX11_keeps 11 = .ok (.aload_n 0, 1) := by decide +kernel
theorem dX11_keeps_12 : decode cX11_keeps 12 = .ok (.getfield 443, 3) := by decide +kernel
theorem dX11_keeps_15 : decode cX11_keeps 15 = .ok (.iconst 1, 1) := by decide +kernel
theorem dX11_keeps_16 : decode cX11_keeps 16 = .ok (.iadd, 1) := by decide +kernel
theorem dX11_keeps_17 : decode cX11_keeps 17 = .ok (.putfield 443, 3) := by decide +kernel
theorem dX11_keeps_20 : decode cX11_keeps 20 = .ok (.return_, 1) := by decide +kernel
theorem dX11_tells_0 : decode cX11_tells 0 = .ok (.aload_n 0, 1) := by decide +kernel
theorem dX11_tells_1 : decode cX11_tells 1 = .ok (.aload_n 0, 1) := by decide +kernel
theorem dX11_tells_2 : decode cX11_tells 2 = .ok (.getfield 443, 3) := by decide +kernel
theorem dX11_tells_5 : decode cX11_tells 5 = .ok (.iconst 1, 1) := by decide +kernel
theorem dX11_tells_6 : decode cX11_tells 6 = .ok (.iadd, 1) := by decide +kernel
theorem dX11_tells_7 : decode cX11_tells 7 = .ok (.putfield 443, 3) := by decide +kernel
theorem dX11_tells_10 : decode cX11_tells 10 = .ok (.aload_n 0, 1) := by decide +kernel
theorem dX11_tells_11 : decode cX11_tells 11 = .ok (.getfield 57, 3) := by decide +kernel
theorem dX11_tells_14 : decode cX11_tells 14 = .ok (.aload_n 0, 1) := by decide +kernel
theorem dX11_tells_15 : decode cX11_tells 15 = .ok (.getfield 443, 3) := by decide +kernel
theorem dX11_tells_18 : decode cX11_tells 18 = .ok (.iconst 1, 1) := by decide +kernel
theorem dX11_tells_19 : decode cX11_tells 19 = .ok (.isub, 1) := by decide +kernel
theorem dX11_tells_20 : decode cX11_tells 20 = .ok (.iaload, 1) := by decide +kernel
theorem dX11_tells_21 : decode cX11_tells 21 = .ok (.ireturn, 1) := by decide +kernel
theorem gX11_keep_X11_keeps : GoodIn wsX11_keep (wsV RX11 446 RX11 yX11_keeps wsX11_keeps) := gw_c t_w776 (gw_c t_w775 (gw_c t_w774 (gw_c t_w510 (gw_c t_w773 (gw_t)))))
theorem dX11_keep_0 : decode cX11_keep 0 = .ok (.aload_n 0, 1) := by decide +kernel
theorem dX11_keep_1 : decode cX11_keep 1 = .ok (.getfield 440, 3) := by decide +kernel
theorem dX11_keep_4 : decode cX11_keep 4 = .ok (.bipush 8, 2) := by decide +kernel
theorem dX11_keep_6 : decode cX11_keep 6 = .ok (.if_icmp .ne 5, 3) := by decide +kernel
theorem dX11_keep_9 : decode cX11_keep 9 = .ok (.iconst (-1), 1) := by decide +kernel
theorem dX11_keep_10 : decode cX11_keep 10 = .ok (.ireturn, 1) := by decide +kernel
theorem dX11_keep_11 : decode cX11_keep 11 = .ok (.aload_n 0, 1) := by decide +kernel
theorem dX11_keep_12 : decode cX11_keep 12 = .ok (.sipush 194, 3) := by decide +kernel
theorem dX11_keep_15 : decode cX11_keep 15 = .ok (.aload_n 0, 1) := by decide +kernel
theorem dX11_keep_16 : decode cX11_keep 16 = .ok (.getfield 440, 3) := by decide +kernel
theorem dX11_keep_19 : decode cX11_keep 19 = .ok (.imul, 1) := by decide +kernel
theorem dX11_keep_20 : decode cX11_keep 20 = .ok (.putfield 443, 3) := by decide +kernel
theorem dX11_keep_23 : decode cX11_keep 23 = .ok (.iconst 0, 1) := by decide +kernel
theorem dX11_keep_24 : decode cX11_keep 24 = .ok (.istore_n 1, 1) := by decide +kernel
theorem dX11_keep_25 : decode cX11_keep 25 = .ok (.iload_n 1, 1) := by decide +kernel
theorem dX11_keep_26 : decode cX11_keep 26 = .ok (.iconst 5, 1) := by decide +kernel
theorem dX11_keep_27 : decode cX11_keep 27 = .ok (.if_icmp .ge 29, 3) := by decide +kernel
theorem dX11_keep_30 : decode cX11_keep 30 = .ok (.aload_n 0, 1) := by decide +kernel
theorem dX11_keep_31 : decode cX11_keep 31 = .ok (.aload_n 0, 1) := by decide +kernel
theorem dX11_keep_32 : decode cX11_keep 32 = .ok (.getfield 7, 3) := by decide +kernel
theorem dX11_keep_35 : decode cX11_keep 35 = .ok (.iload_n 1, 1) := by decide +kernel
theorem dX11_keep_36 : decode cX11_keep 36 = .ok (.iaload, 1) := by decide +kernel
theorem dX11_keep_37 : decode cX11_keep 37 = .ok (.invokevirtual 446, 3) := by decide +kernel
theorem dX11_keep_40 : decode cX11_keep 40 = .ok (.aload_n 0, 1) := by decide +kernel
theorem dX11_keep_41 : decode cX11_keep 41 = .ok (.aload_n 0, 1) := by decide +kernel
theorem dX11_keep_42 : decode cX11_keep 42 = .ok (.getfield 13, 3) := by decide +kernel
theorem dX11_keep_45 : decode cX11_keep 45 = .ok (.iload_n 1, 1) := by decide +kernel
theorem dX11_keep_46 : decode cX11_keep 46 = .ok (.iaload, 1) := by decide +kernel
theorem dX11_keep_47 : decode cX11_keep 47 = .ok (.invokevirtual 446, 3) := by decide +kernel
theorem dX11_keep_50 : decode cX11_keep 50 = .ok (.iinc 1 1, 3) := by decide +kernel
theorem dX11_keep_53 : decode cX11_keep 53 = .ok (.goto (-28), 3) := by decide +kernel
theorem dX11_keep_56 : decode cX11_keep 56 = .ok (.aload_n 0, 1) := by decide +kernel
theorem dX11_keep_57 : decode cX11_keep 57 = .ok (.aload_n 0, 1) := by decide +kernel
theorem dX11_keep_58 : decode cX11_keep 58 = .ok (.getfield 123, 3) := by decide +kernel
theorem dX11_keep_61 : decode cX11_keep 61 = .ok (.invokevirtual 446, 3) := by decide +kernel
theorem dX11_keep_64 : decode cX11_keep 64 = .ok (.aload_n 0, 1) := by decide +kernel
theorem dX11_keep_65 : decode cX11_keep 65 = .ok (.aload_n 0, 1) := by decide +kernel
theorem dX11_keep_66 : decode cX11_keep 66 = .ok (.getfield 199, 3) := by decide +kernel
theorem dX11_keep_69 : decode cX11_keep 69 = .ok (.invokevirtual 446, 3) := by decide +kernel
theorem dX11_keep_72 : decode cX11_keep 72 = .ok (.aload_n 0, 1) := by decide +kernel
theorem dX11_keep_73 : decode cX11_keep 73 = .ok (.aload_n 0, 1) := by decide +kernel
theorem dX11_keep_74 : decode cX11_keep 74 = .ok (.getfield 202, 3) := by decide +kernel
theorem dX11_keep_77 : decode cX11_keep 77 = .ok (.invokevirtual 446, 3) := by decide +kernel
theorem dX11_keep_80 : decode cX11_keep 80 = .ok (.aload_n 0, 1) := by decide +kernel
theorem dX11_keep_81 : decode cX11_keep 81 = .ok (.aload_n 0, 1) := by decide +kernel
theorem dX11_keep_82 : decode cX11_keep 82 = .ok (.getfield 205, 3) := by decide +kernel
theorem dX11_keep_85 : decode cX11_keep 85 = .ok (.invokevirtual 446, 3) := by decide +kernel
theorem dX11_keep_88 : decode cX11_keep 88 = .ok (.iconst 0, 1) := by decide +kernel
theorem dX11_keep_89 : decode cX11_keep 89 = .ok (.istore_n 1, 1) := by decide +kernel
theorem dX11_keep_90 : decode cX11_keep 90 = .ok (.iload_n 1, 1) := by decide +kernel
theorem dX11_keep_91 : decode cX11_keep 91 = .ok (.bipush 60, 2) := by decide +kernel
theorem dX11_keep_93 : decode cX11_keep 93 = .ok (.if_icmp .ge 39, 3) := by decide +kernel
theorem dX11_keep_96 : decode cX11_keep 96 = .ok (.aload_n 0, 1) := by decide +kernel
theorem dX11_keep_97 : decode cX11_keep 97 = .ok (.aload_n 0, 1) := by decide +kernel
theorem dX11_keep_98 : decode cX11_keep 98 = .ok (.getfield 45, 3) := by decide +kernel
theorem dX11_keep_101 : decode cX11_keep 101 = .ok (.iload_n 1, 1) := by decide +kernel
theorem dX11_keep_102 : decode cX11_keep 102 = .ok (.iaload, 1) := by decide +kernel
theorem dX11_keep_103 : decode cX11_keep 103 = .ok (.invokevirtual 446, 3) := by decide +kernel
theorem dX11_keep_106 : decode cX11_keep 106 = .ok (.aload_n 0, 1) := by decide +kernel
theorem dX11_keep_107 : decode cX11_keep 107 = .ok (.aload_n 0, 1) := by decide +kernel
theorem dX11_keep_108 : decode cX11_keep 108 = .ok (.getfield 48, 3) := by decide +kernel
theorem dX11_keep_111 : decode cX11_keep 111 = .ok (.iload_n 1, 1) := by decide +kernel
theorem dX11_keep_112 : decode cX11_keep 112 = .ok (.iaload, 1) := by decide +kernel
theorem dX11_keep_113 : decode cX11_keep 113 = .ok (.invokevirtual 446, 3) := by decide +kernel
theorem dX11_keep_116 : decode cX11_keep 116 = .ok (.aload_n 0, 1) := by decide +kernel
theorem dX11_keep_117 : decode cX11_keep 117 = .ok (.aload_n 0, 1) := by decide +kernel
theorem dX11_keep_118 : decode cX11_keep 118 = .ok (.getfield 51, 3) := by decide +kernel
theorem dX11_keep_121 : decode cX11_keep 121 = .ok (.iload_n 1, 1) := by decide +kernel
theorem dX11_keep_122 : decode cX11_keep 122 = .ok (.iaload, 1) := by decide +kernel
theorem dX11_keep_123 : decode cX11_keep 123 = .ok (.invokevirtual 446, 3) := by decide +kernel
theorem dX11_keep_126 : decode cX11_keep 126 = .ok (.iinc 1 1, 3) := by decide +kernel
theorem dX11_keep_129 : decode cX11_keep 129 = .ok (.goto (-39), 3) := by decide +kernel
theorem dX11_keep_132 : decode cX11_keep 132 = .ok (.aload_n 0, 1) := by decide +kernel
theorem dX11_keep_133 : decode cX11_keep 133 = .ok (.getfield 60, 3) := by decide +kernel
theorem dX11_keep_136 : decode cX11_keep 136 = .ok (.aload_n 0, 1) := by decide +kernel
theorem dX11_keep_137 : decode cX11_keep 137 = .ok (.getfield 440, 3) := by decide +kernel
theorem dX11_keep_140 : decode cX11_keep 140 = .ok (.aload_n 0, 1) := by decide +kernel
theorem dX11_keep_141 : decode cX11_keep 141 = .ok (.getfield 208, 3) := by decide +kernel
theorem dX11_keep_144 : decode cX11_keep 144 = .ok (.iastore, 1) := by decide +kernel
theorem dX11_keep_145 : decode cX11_keep 145 = .ok (.aload_n 0, 1) := by decide +kernel
theorem dX11_keep_146 : decode cX11_keep 146 = .ok (.aload_n 0, 1) := by decide +kernel
theorem dX11_keep_147 : decode cX11_keep 147 = .ok (.getfield 440, 3) := by decide +kernel
theorem dX11_keep_150 : decode cX11_keep 150 = .ok (.iconst 1, 1) := by decide +kernel
theorem dX11_keep_151 : decode cX11_keep 151 = .ok (.iadd, 1) := by decide +kernel
theorem dX11_keep_152 : decode cX11_keep 152 = .ok (.putfield 440, 3) := by decide +kernel
theorem dX11_keep_155 : decode cX11_keep 155 = .ok (.aload_n 0, 1) := by decide +kernel
theorem dX11_keep_156 : decode cX11_keep 156 = .ok (.getfield 440, 3) := by decide +kernel
theorem dX11_keep_159 : decode cX11_keep 159 = .ok (.ireturn, 1) := by decide +kernel
theorem gX11_undo_X11_tells : GoodIn wsX11_undo (wsV RX11 449 RX11 yX11_tells wsX11_tells) := gw_c t_w780 (gw_c t_w779 (gw_c t_w778 (gw_c t_w510 (gw_c t_w777 (gw_t)))))
theorem gX11_undo_X11_laysGrids : GoodIn wsX11_undo (wsV RX11 67 RX11 yX11_laysGrids wsX11_laysGrids) := gw_c t_w516 (gw_c t_w515 (gw_c t_w514 (gw_c t_w510 (gw_c t_w513 (gw_t)))))
theorem dX11_undo_0 : decode cX11_undo 0 = .ok (.aload_n 0, 1) := by decide +kernel
theorem dX11_undo_1 : decode cX11_undo 1 = .ok (.getfield 440, 3) := by decide +kernel
theorem dX11_undo_4 : decode cX11_undo 4 = .ok (.ifCond .ne 5, 3) := by decide +kernel
theorem dX11_undo_7 : decode cX11_undo 7 = .ok (.iconst (-1), 1) := by decide +kernel
theorem dX11_undo_8 : decode cX11_undo 8 = .ok (.ireturn, 1) := by decide +kernel
theorem dX11_undo_9 : decode cX11_undo 9 = .ok (.aload_n 0, 1) := by decide +kernel
theorem dX11_undo_10 : decode cX11_undo 10 = .ok (.aload_n 0, 1) := by decide +kernel
theorem dX11_undo_11 : decode cX11_undo 11 = .ok (.getfield 440, 3) := by decide +kernel
theorem dX11_undo_14 : decode cX11_undo 14 = .ok (.iconst 1, 1) := by decide +kernel
theorem dX11_undo_15 : decode cX11_undo 15 = .ok (.isub, 1) := by decide +kernel
theorem dX11_undo_16 : decode cX11_undo 16 = .ok (.putfield 440, 3) := by decide +kernel
theorem dX11_undo_19 : decode cX11_undo 19 = .ok (.aload_n 0, 1) := by decide +kernel
theorem dX11_undo_20 : decode cX11_undo 20 = .ok (.sipush 194, 3) := by decide +kernel
theorem dX11_undo_23 : decode cX11_undo 23 = .ok (.aload_n 0, 1) := by decide +kernel
theorem dX11_undo_24 : decode cX11_undo 24 = .ok (.getfield 440, 3) := by decide +kernel
theorem dX11_undo_27 : decode cX11_undo 27 = .ok (.imul, 1) := by decide +kernel
theorem dX11_undo_28 : decode cX11_undo 28 = .ok (.putfield 443, 3) := by decide +kernel
theorem dX11_undo_31 : decode cX11_undo 31 = .ok (.iconst 0, 1) := by decide +kernel
theorem dX11_undo_32 : decode cX11_undo 32 = .ok (.istore_n 1, 1) := by decide +kernel
theorem dX11_undo_33 : decode cX11_undo 33 = .ok (.iload_n 1, 1) := by decide +kernel
theorem dX11_undo_34 : decode cX11_undo 34 = .ok (.iconst 5, 1) := by decide +kernel
theorem dX11_undo_35 : decode cX11_undo 35 = .ok (.if_icmp .ge 29, 3) := by decide +kernel
theorem dX11_undo_38 : decode cX11_undo 38 = .ok (.aload_n 0, 1) := by decide +kernel
theorem dX11_undo_39 : decode cX11_undo 39 = .ok (.getfield 7, 3) := by decide +kernel
theorem dX11_undo_42 : decode cX11_undo 42 = .ok (.iload_n 1, 1) := by decide +kernel
theorem dX11_undo_43 : decode cX11_undo 43 = .ok (.aload_n 0, 1) := by decide +kernel
theorem dX11_undo_44 : decode cX11_undo 44 = .ok (.invokevirtual 449, 3) := by decide +kernel
theorem dX11_undo_47 : decode cX11_undo 47 = .ok (.iastore, 1) := by decide +kernel
theorem dX11_undo_48 : decode cX11_undo 48 = .ok (.aload_n 0, 1) := by decide +kernel
theorem dX11_undo_49 : decode cX11_undo 49 = .ok (.getfield 13, 3) := by decide +kernel
theorem dX11_undo_52 : decode cX11_undo 52 = .ok (.iload_n 1, 1) := by decide +kernel
theorem dX11_undo_53 : decode cX11_undo 53 = .ok (.aload_n 0, 1) := by decide +kernel
theorem dX11_undo_54 : decode cX11_undo 54 = .ok (.invokevirtual 449, 3) := by decide +kernel
theorem dX11_undo_57 : decode cX11_undo 57 = .ok (.iastore, 1) := by decide +kernel
theorem dX11_undo_58 : decode cX11_undo 58 = .ok (.iinc 1 1, 3) := by decide +kernel
theorem dX11_undo_61 : decode cX11_undo 61 = .ok (.goto (-28), 3) := by decide +kernel
theorem dX11_undo_64 : decode cX11_undo 64 = .ok (.aload_n 0, 1) := by decide +kernel
theorem dX11_undo_65 : decode cX11_undo 65 = .ok (.aload_n 0, 1) := by decide +kernel
theorem dX11_undo_66 : decode cX11_undo 66 = .ok (.invokevirtual 449, 3) := by decide +kernel
theorem dX11_undo_69 : decode cX11_undo 69 = .ok (.putfield 123, 3) := by decide +kernel
theorem dX11_undo_72 : decode cX11_undo 72 = .ok (.aload_n 0, 1) := by decide +kernel
theorem dX11_undo_73 : decode cX11_undo 73 = .ok (.aload_n 0, 1) := by decide +kernel
theorem dX11_undo_74 : decode cX11_undo 74 = .ok (.invokevirtual 449, 3) := by decide +kernel
theorem dX11_undo_77 : decode cX11_undo 77 = .ok (.putfield 199, 3) := by decide +kernel
theorem dX11_undo_80 : decode cX11_undo 80 = .ok (.aload_n 0, 1) := by decide +kernel
theorem dX11_undo_81 : decode cX11_undo 81 = .ok (.aload_n 0, 1) := by decide +kernel
theorem dX11_undo_82 : decode cX11_undo 82 = .ok (.invokevirtual 449, 3) := by decide +kernel
theorem dX11_undo_85 : decode cX11_undo 85 = .ok (.putfield 202, 3) := by decide +kernel
theorem dX11_undo_88 : decode cX11_undo 88 = .ok (.aload_n 0, 1) := by decide +kernel
theorem dX11_undo_89 : decode cX11_undo 89 = .ok (.aload_n 0, 1) := by decide +kernel
theorem dX11_undo_90 : decode cX11_undo 90 = .ok (.invokevirtual 449, 3) := by decide +kernel
theorem dX11_undo_93 : decode cX11_undo 93 = .ok (.putfield 205, 3) := by decide +kernel
theorem dX11_undo_96 : decode cX11_undo 96 = .ok (.iconst 0, 1) := by decide +kernel
theorem dX11_undo_97 : decode cX11_undo 97 = .ok (.istore_n 1, 1) := by decide +kernel
theorem dX11_undo_98 : decode cX11_undo 98 = .ok (.iload_n 1, 1) := by decide +kernel
theorem dX11_undo_99 : decode cX11_undo 99 = .ok (.bipush 60, 2) := by decide +kernel
theorem dX11_undo_101 : decode cX11_undo 101 = .ok (.if_icmp .ge 39, 3) := by decide +kernel
theorem dX11_undo_104 : decode cX11_undo 104 = .ok (.aload_n 0, 1) := by decide +kernel
theorem dX11_undo_105 : decode cX11_undo 105 = .ok (.getfield 45, 3) := by decide +kernel
theorem dX11_undo_108 : decode cX11_undo 108 = .ok (.iload_n 1, 1) := by decide +kernel
theorem dX11_undo_109 : decode cX11_undo 109 = .ok (.aload_n 0, 1) := by decide +kernel
theorem dX11_undo_110 : decode cX11_undo 110 = .ok (.invokevirtual 449, 3) := by decide +kernel
theorem dX11_undo_113 : decode cX11_undo 113 = .ok (.iastore, 1) := by decide +kernel
theorem dX11_undo_114 : decode cX11_undo 114 = .ok (.aload_n 0, 1) := by decide +kernel
theorem dX11_undo_115 : decode cX11_undo 115 = .ok (.getfield 48, 3) := by decide +kernel
theorem dX11_undo_118 : decode cX11_undo 118 = .ok (.iload_n 1, 1) := by decide +kernel
theorem dX11_undo_119 : decode cX11_undo 119 = .ok (.aload_n 0, 1) := by decide +kernel
theorem dX11_undo_120 : decode cX11_undo 120 = .ok (.invokevirtual 449, 3) := by decide +kernel
theorem dX11_undo_123 : decode cX11_undo 123 = .ok (.iastore, 1) := by decide +kernel
theorem dX11_undo_124 : decode cX11_undo 124 = .ok (.aload_n 0, 1) := by decide +kernel
theorem dX11_undo_125 : decode cX11_undo 125 = .ok (.getfield 51, 3) := by decide +kernel
theorem dX11_undo_128 : decode cX11_undo 128 = .ok (.iload_n 1, 1) := by decide +kernel
theorem dX11_undo_129 : decode cX11_undo 129 = .ok (.aload_n 0, 1) := by decide +kernel
theorem dX11_undo_130 : decode cX11_undo 130 = .ok (.invokevirtual 449, 3) := by decide +kernel
theorem dX11_undo_133 : decode cX11_undo 133 = .ok (.iastore, 1) := by decide +kernel
theorem dX11_undo_134 : decode cX11_undo 134 = .ok (.iinc 1 1, 3) := by decide +kernel
theorem dX11_undo_137 : decode cX11_undo 137 = .ok (.goto (-39), 3) := by decide +kernel
theorem dX11_undo_140 : decode cX11_undo 140 = .ok (.aload_n 0, 1) := by decide +kernel
theorem dX11_undo_141 : decode cX11_undo 141 = .ok (.aload_n 0, 1) := by decide +kernel
theorem dX11_undo_142 : decode cX11_undo 142 = .ok (.getfield 60, 3) := by decide +kernel
theorem dX11_undo_145 : decode cX11_undo 145 = .ok (.aload_n 0, 1) := by decide +kernel
theorem dX11_undo_146 : decode cX11_undo 146 = .ok (.getfield 440, 3) := by decide +kernel
theorem dX11_undo_149 : decode cX11_undo 149 = .ok (.iaload, 1) := by decide +kernel
theorem dX11_undo_150 : decode cX11_undo 150 = .ok (.putfield 208, 3) := by decide +kernel
theorem dX11_undo_153 : decode cX11_undo 153 = .ok (.aload_n 0, 1) := by decide +kernel
theorem dX11_undo_154 : decode cX11_undo 154 = .ok (.invokevirtual 67, 3) := by decide +kernel
theorem dX11_undo_157 : decode cX11_undo 157 = .ok (.aload_n 0, 1) := by decide +kernel
theorem dX11_undo_158 : decode cX11_undo 158 = .ok (.getfield 440, 3) := by decide +kernel
theorem dX11_undo_161 : decode cX11_undo 161 = .ok (.ireturn, 1) := by decide +kernel
