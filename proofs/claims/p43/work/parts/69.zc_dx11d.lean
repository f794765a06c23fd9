theorem gX11_answersTwo_X11_stepsOf : GoodIn wsX11_answersTwo (wsV RX11 288 RX11 yX11_stepsOf wsX11_stepsOf) := gw_c t_w662 (gw_c t_w661 (gw_c t_w660 (gw_c t_w510 (gw_c t_w659 (gw_t)))))
theorem gX11_answersTwo_X11_betweenOf : GoodIn wsX11_answersTwo (wsV RX11 345 RX11 yX11_betweenOf wsX11_betweenOf) := gw_c t_w710 (gw_c t_w709 (gw_c t_w708 (gw_c t_w510 (gw_c t_w707 (gw_t)))))
theorem dX11_answersTwo_0 : decode cX11_answersTwo 0 = .ok (.aload_n 0, 1) := by decide +kernel
theorem dX11_answersTwo_1 : decode cX11_answersTwo 1 = .ok (.aload_n 0, 1) := by decide +kernel
theorem dX11_answersTwo_2 : decode cX11_answersTwo 2 = .ok (.getfield 170, 3) := by decide +kernel
theorem dX11_answersTwo_5 : decode cX11_answersTwo 5 = .ok (.iload_n 2, 1) := by decide +kernel
theorem dX11_answersTwo_6 : decode cX11_answersTwo 6 = .ok (.invokevirtual 360, 3) := by decide +kernel
theorem dX11_answersTwo_9 : decode cX11_answersTwo 9 = .ok (.istore_n 3, 1) := by decide +kernel
theorem dX11_answersTwo_10 : decode cX11_answersTwo 10 = .ok (.aload_n 0, 1) := by decide +kernel
theorem dX11_answersTwo_11 : decode cX11_answersTwo 11 = .ok (.iload_n 3, 1) := by decide +kernel
theorem dX11_answersTwo_12 : decode cX11_answersTwo 12 = .ok (.invokevirtual 363, 3) := by decide +kernel
theorem dX11_answersTwo_15 : decode cX11_answersTwo 15 = .ok (.istore 4, 2) := by decide +kernel
theorem dX11_answersTwo_17 : decode cX11_answersTwo 17 = .ok (.iload 4, 2) := by decide +kernel
theorem dX11_answersTwo_19 : decode cX11_answersTwo 19 = .ok (.ifCond .eq 21, 3) := by decide +kernel
theorem dX11_answersTwo_22 : decode cX11_answersTwo 22 = .ok (.iload_n 3, 1) := by decide +kernel
theorem dX11_answersTwo_23 : decode cX11_answersTwo 23 = .ok (.iload_n 2, 1) := by decide +kernel
theorem dX11_answersTwo_24 : decode cX11_answersTwo 24 = .ok (.if_icmp .ne 16, 3) := by decide +kernel
theorem dX11_answersTwo_27 : decode cX11_answersTwo 27 = .ok (.aload_n 0, 1) := by decide +kernel
theorem dX11_answersTwo_28 : decode cX11_answersTwo 28 = .ok (.iconst 1, 1) := by decide +kernel
theorem dX11_answersTwo_29 : decode cX11_answersTwo 29 = .ok (.putfield 356, 3) := by decide +kernel
theorem dX11_answersTwo_32 : decode cX11_answersTwo 32 = .ok (.aload_n 0, 1) := by decide +kernel
theorem dX11_answersTwo_33 : decode cX11_answersTwo 33 = .ok (.iconst 1, 1) := by decide +kernel
theorem dX11_answersTwo_34 : decode cX11_answersTwo 34 = .ok (.iload_n 2, 1) := by decide +kernel
theorem dX11_answersTwo_35 : decode cX11_answersTwo 35 = .ok (.invokevirtual 183, 3) := by decide +kernel
theorem dX11_answersTwo_38 : decode cX11_answersTwo 38 = .ok (.istore 4, 2) := by decide +kernel
theorem dX11_answersTwo_40 : decode cX11_answersTwo 40 = .ok (.aload_n 0, 1) := by decide +kernel
theorem dX11_answersTwo_41 : decode cX11_answersTwo 41 = .ok (.getfield 190, 3) := by decide +kernel
theorem dX11_answersTwo_44 : decode cX11_answersTwo 44 = .ok (.istore 5, 2) := by decide +kernel
theorem dX11_answersTwo_46 : decode cX11_answersTwo 46 = .ok (.aload_n 0, 1) := by decide +kernel
theorem dX11_answersTwo_47 : decode cX11_answersTwo 47 = .ok (.getfield 193, 3) := by decide +kernel
theorem dX11_answersTwo_50 : decode cX11_answersTwo 50 = .ok (.istore 6, 2) := by decide +kernel
theorem dX11_answersTwo_52 : decode cX11_answersTwo 52 = .ok (.aload_n 0, 1) := by decide +kernel
theorem dX11_answersTwo_53 : decode cX11_answersTwo 53 = .ok (.iload_n 3, 1) := by decide +kernel
theorem dX11_answersTwo_54 : decode cX11_answersTwo 54 = .ok (.iconst 1, 1) := by decide +kernel
theorem dX11_answersTwo_55 : decode cX11_answersTwo 55 = .ok (.iadd, 1) := by decide +kernel
theorem dX11_answersTwo_56 : decode cX11_answersTwo 56 = .ok (.putfield 170, 3) := by decide +kernel
theorem dX11_answersTwo_59 : decode cX11_answersTwo 59 = .ok (.iload 4, 2) := by decide +kernel
theorem dX11_answersTwo_61 : decode cX11_answersTwo 61 = .ok (.ifCond .eq 15, 3) := by decide +kernel
theorem dX11_answersTwo_64 : decode cX11_answersTwo 64 = .ok (.aload_n 0, 1) := by decide +kernel
theorem dX11_answersTwo_65 : decode cX11_answersTwo 65 = .ok (.iload_n 2, 1) := by decide +kernel
theorem dX11_answersTwo_66 : decode cX11_answersTwo 66 = .ok (.invokevirtual 363, 3) := by decide +kernel
theorem dX11_answersTwo_69 : decode cX11_answersTwo 69 = .ok (.ifCond .eq 7, 3) := by decide +kernel
theorem dX11_answersTwo_72 : decode cX11_answersTwo 72 = .ok (.iconst 1, 1) := by decide +kernel
theorem dX11_answersTwo_73 : decode cX11_answersTwo 73 = .ok (.goto 4, 3) := by decide +kernel
theorem dX11_answersTwo_76 : decode cX11_answersTwo 76 = .ok (.iconst 0, 1) := by decide +kernel
theorem dX11_answersTwo_77 : decode cX11_answersTwo 77 = .ok (.istore 4, 2) := by decide +kernel
theorem dX11_answersTwo_79 : decode cX11_answersTwo 79 = .ok (.aload_n 0, 1) := by decide +kernel
theorem dX11_answersTwo_80 : decode cX11_answersTwo 80 = .ok (.iload 4, 2) := by decide +kernel
theorem dX11_answersTwo_82 : decode cX11_answersTwo 82 = .ok (.aload_n 0, 1) := by decide +kernel
theorem dX11_answersTwo_83 : decode cX11_answersTwo 83 = .ok (.getfield 356, 3) := by decide +kernel
theorem dX11_answersTwo_86 : decode cX11_answersTwo 86 = .ok (.invokevirtual 216, 3) := by decide +kernel
theorem dX11_answersTwo_89 : decode cX11_answersTwo 89 = .ok (.ifCond .ne 8, 3) := by decide +kernel
theorem dX11_answersTwo_92 : decode cX11_answersTwo 92 = .ok (.aload_n 0, 1) := by decide +kernel
theorem dX11_answersTwo_93 : decode cX11_answersTwo 93 = .ok (.getfield 167, 3) := by decide +kernel
theorem dX11_answersTwo_96 : decode cX11_answersTwo 96 = .ok (.ireturn, 1) := by decide +kernel
theorem dX11_answersTwo_97 : decode cX11_answersTwo 97 = .ok (.iload 5, 2) := by decide +kernel
theorem dX11_answersTwo_99 : decode cX11_answersTwo 99 = .ok (.aload_n 0, 1) := by decide +kernel
theorem dX11_answersTwo_100 : decode cX11_answersTwo 100 = .ok (.getfield 190, 3) := by decide +kernel
theorem dX11_answersTwo_103 : decode cX11_answersTwo 103 = .ok (.if_icmp .eq 6, 3) := by decide +kernel
theorem dX11_answersTwo_106 : decode cX11_answersTwo 106 = .ok (.bipush (-2), 2) := by decide +kernel
theorem dX11_answersTwo_108 : decode cX11_answersTwo 108 = .ok (.ireturn, 1) := by decide +kernel
theorem dX11_answersTwo_109 : decode cX11_answersTwo 109 = .ok (.iload_n 1, 1) := by decide +kernel
theorem dX11_answersTwo_110 : decode cX11_answersTwo 110 = .ok (.ifCond .eq 18, 3) := by decide +kernel
theorem dX11_answersTwo_113 : decode cX11_answersTwo 113 = .ok (.aload_n 0, 1) := by decide +kernel
theorem dX11_answersTwo_114 : decode cX11_answersTwo 114 = .ok (.iload 5, 2) := by decide +kernel
theorem dX11_answersTwo_116 : decode cX11_answersTwo 116 = .ok (.iload 6, 2) := by decide +kernel
theorem dX11_answersTwo_118 : decode cX11_answersTwo 118 = .ok (.aload_n 0, 1) := by decide +kernel
theorem dX11_answersTwo_119 : decode cX11_answersTwo 119 = .ok (.getfield 193, 3) := by decide +kernel
theorem dX11_answersTwo_122 : decode cX11_answersTwo 122 = .ok (.invokevirtual 288, 3) := by decide +kernel
theorem dX11_answersTwo_125 : decode cX11_answersTwo 125 = .ok (.goto 15, 3) := by decide +kernel
theorem dX11_answersTwo_128 : decode cX11_answersTwo 128 = .ok (.aload_n 0, 1) := by decide +kernel
theorem dX11_answersTwo_129 : decode cX11_answersTwo 129 = .ok (.iload 5, 2) := by decide +kernel
theorem dX11_answersTwo_131 : decode cX11_answersTwo 131 = .ok (.iload 6, 2) := by decide +kernel
theorem dX11_answersTwo_133 : decode cX11_answersTwo 133 = .ok (.aload_n 0, 1) := by decide +kernel
theorem dX11_answersTwo_134 : decode cX11_answersTwo 134 = .ok (.getfield 193, 3) := by decide +kernel
theorem dX11_answersTwo_137 : decode cX11_answersTwo 137 = .ok (.invokevirtual 345, 3) := by decide +kernel
theorem dX11_answersTwo_140 : decode cX11_answersTwo 140 = .ok (.ireturn, 1) := by decide +kernel
theorem gX11_answersOne_X11_readsUpTo : GoodIn wsX11_answersOne (wsV RX11 363 RX11 yX11_readsUpTo wsX11_readsUpTo) := gw_c t_w718 (gw_c t_w717 (gw_c t_w716 (gw_c t_w510 (gw_c t_w715 (gw_t)))))
theorem gX11_answersOne_X11_counted : GoodIn wsX11_answersOne (wsV RX11 216 RX11 yX11_counted wsX11_counted) := gw_c t_w613 (gw_c t_w612 (gw_c t_w611 (gw_c t_w510 (gw_c t_w610 (gw_t)))))
theorem gX11_answersOne_X11_parentOf : GoodIn wsX11_answersOne (wsV RX11 254 RX11 yX11_parentOf wsX11_parentOf) := gw_c t_w631 (gw_c t_w630 (gw_c t_w629 (gw_c t_w510 (gw_c t_w628 (gw_t)))))
theorem gX11_answersOne_X11_besideFirst : GoodIn wsX11_answersOne (wsV RX11 374 RX11 yX11_besideFirst wsX11_besideFirst) := gw_c t_w722 (gw_c t_w721 (gw_c t_w720 (gw_c t_w510 (gw_c t_w719 (gw_t)))))
theorem dX11_answersOne_0 : decode cX11_answersOne 0 = .ok (.aload_n 0, 1) := by decide +kernel
theorem dX11_answersOne_1 : decode cX11_answersOne 1 = .ok (.iload_n 3, 1) := by decide +kernel
theorem dX11_answersOne_2 : decode cX11_answersOne 2 = .ok (.invokevirtual 363, 3) := by decide +kernel
theorem dX11_answersOne_5 : decode cX11_answersOne 5 = .ok (.istore 4, 2) := by decide +kernel
theorem dX11_answersOne_7 : decode cX11_answersOne 7 = .ok (.aload_n 0, 1) := by decide +kernel
theorem dX11_answersOne_8 : decode cX11_answersOne 8 = .ok (.iload 4, 2) := by decide +kernel
theorem dX11_answersOne_10 : decode cX11_answersOne 10 = .ok (.aload_n 0, 1) := by decide +kernel
theorem dX11_answersOne_11 : decode cX11_answersOne 11 = .ok (.getfield 356, 3) := by decide +kernel
theorem dX11_answersOne_14 : decode cX11_answersOne 14 = .ok (.invokevirtual 216, 3) := by decide +kernel
theorem dX11_answersOne_17 : decode cX11_answersOne 17 = .ok (.ifCond .ne 8, 3) := by decide +kernel
theorem dX11_answersOne_20 : decode cX11_answersOne 20 = .ok (.aload_n 0, 1) := by decide +kernel
theorem dX11_answersOne_21 : decode cX11_answersOne 21 = .ok (.getfield 167, 3) := by decide +kernel
theorem dX11_answersOne_24 : decode cX11_answersOne 24 = .ok (.ireturn, 1) := by decide +kernel
theorem dX11_answersOne_25 : decode cX11_answersOne 25 = .ok (.lload_n 1, 1) := by decide +kernel
theorem dX11_answersOne_26 : decode cX11_answersOne 26 = .ok (.ldc2_w 366, 3) := by decide +kernel
theorem dX11_answersOne_29 : decode cX11_answersOne 29 = .ok (.lcmp, 1) := by decide +kernel
theorem dX11_answersOne_30 : decode cX11_answersOne 30 = .ok (.ifCond .ne 34, 3) := by decide +kernel
theorem dX11_answersOne_33 : decode cX11_answersOne 33 = .ok (.aload_n 0, 1) := by decide +kernel
theorem dX11_answersOne_34 : decode cX11_answersOne 34 = .ok (.getfield 190, 3) := by decide +kernel
theorem dX11_answersOne_37 : decode cX11_answersOne 37 = .ok (.ifCond .ne 8, 3) := by decide +kernel
theorem dX11_answersOne_40 : decode cX11_answersOne 40 = .ok (.bipush (-2), 2) := by decide +kernel
theorem dX11_answersOne_42 : decode cX11_answersOne 42 = .ok (.goto 21, 3) := by decide +kernel
theorem dX11_answersOne_45 : decode cX11_answersOne 45 = .ok (.aload_n 0, 1) := by decide +kernel
theorem dX11_answersOne_46 : decode cX11_answersOne 46 = .ok (.aload_n 0, 1) := by decide +kernel
theorem dX11_answersOne_47 : decode cX11_answersOne 47 = .ok (.getfield 190, 3) := by decide +kernel
theorem dX11_answersOne_50 : decode cX11_answersOne 50 = .ok (.aload_n 0, 1) := by decide +kernel
theorem dX11_answersOne_51 : decode cX11_answersOne 51 = .ok (.getfield 193, 3) := by decide +kernel
theorem dX11_answersOne_54 : decode cX11_answersOne 54 = .ok (.aload_n 0, 1) := by decide +kernel
theorem dX11_answersOne_55 : decode cX11_answersOne 55 = .ok (.getfield 190, 3) := by decide +kernel
theorem dX11_answersOne_58 : decode cX11_answersOne 58 = .ok (.iconst 1, 1) := by decide +kernel
theorem dX11_answersOne_59 : decode cX11_answersOne 59 = .ok (.isub, 1) := by decide +kernel
theorem dX11_answersOne_60 : decode cX11_answersOne 60 = .ok (.invokevirtual 254, 3) := by decide +kernel
theorem dX11_answersOne_63 : decode cX11_answersOne 63 = .ok (.ireturn, 1) := by decide +kernel
theorem dX11_answersOne_64 : decode cX11_answersOne 64 = .ok (.aload_n 0, 1) := by decide +kernel
theorem dX11_answersOne_65 : decode cX11_answersOne 65 = .ok (.lload_n 1, 1) := by decide +kernel
theorem dX11_answersOne_66 : decode cX11_answersOne 66 = .ok (.ldc2_w 368, 3) := by decide +kernel
theorem dX11_answersOne_69 : decode cX11_answersOne 69 = .ok (.lcmp, 1) := by decide +kernel
theorem dX11_answersOne_70 : decode cX11_answersOne 70 = .ok (.ifCond .ne 7, 3) := by decide +kernel
theorem dX11_answersOne_73 : decode cX11_answersOne 73 = .ok (.iconst 0, 1) := by decide +kernel
theorem dX11_answersOne_74 : decode cX11_answersOne 74 = .ok (.goto 28, 3) := by decide +kernel
theorem dX11_answersOne_77 : decode cX11_answersOne 77 = .ok (.lload_n 1, 1) := by decide +kernel
theorem dX11_answersOne_78 : decode cX11_answersOne 78 = .ok (.ldc2_w 370, 3) := by decide +kernel
theorem dX11_answersOne_81 : decode cX11_answersOne 81 = .ok (.lcmp, 1) := by decide +kernel
theorem dX11_answersOne_82 : decode cX11_answersOne 82 = .ok (.ifCond .ne 7, 3) := by decide +kernel
theorem dX11_answersOne_85 : decode cX11_answersOne 85 = .ok (.iconst 1, 1) := by decide +kernel
theorem dX11_answersOne_86 : decode cX11_answersOne 86 = .ok (.goto 16, 3) := by decide +kernel
theorem dX11_answersOne_89 : decode cX11_answersOne 89 = .ok (.lload_n 1, 1) := by decide +kernel
theorem dX11_answersOne_90 : decode cX11_answersOne 90 = .ok (.ldc2_w 372, 3) := by decide +kernel
theorem dX11_answersOne_93 : decode cX11_answersOne 93 = .ok (.lcmp, 1) := by decide +kernel
theorem dX11_answersOne_94 : decode cX11_answersOne 94 = .ok (.ifCond .ne 7, 3) := by decide +kernel
theorem dX11_answersOne_97 : decode cX11_answersOne 97 = .ok (.iconst 2, 1) := by decide +kernel
theorem dX11_answersOne_98 : decode cX11_answersOne 98 = .ok (.goto 4, 3) := by decide +kernel
theorem dX11_answersOne_101 : decode cX11_answersOne 101 = .ok (.iconst 3, 1) := by decide +kernel
theorem dX11_answersOne_102 : decode cX11_answersOne 102 = .ok (.invokevirtual 374, 3) := by decide +kernel
theorem dX11_answersOne_105 : decode cX11_answersOne 105 = .ok (.ireturn, 1) := by decide +kernel
theorem gX11_ask_X11_in : GoodIn wsX11_ask (va_wsS RX11 72 yX11_in wsX11_in) := gw_c t_w519 (gw_c t_w518 (gw_c t_w510 (gw_c t_w517 (gw_t))))
theorem gX11_ask_X11_blankFrom : GoodIn wsX11_ask (wsV RX11 360 RX11 yX11_blankFrom wsX11_blankFrom) := gw_c t_w714 (gw_c t_w713 (gw_c t_w712 (gw_c t_w510 (gw_c t_w711 (gw_t)))))
theorem gX11_ask_X11_wrong : GoodIn wsX11_ask (wsV RX11 183 RX11 yX11_wrong wsX11_wrong) := gw_c t_w601 (gw_c t_w600 (gw_c t_w599 (gw_c t_w510 (gw_c t_w598 (gw_t)))))
theorem gX11_ask_X11_counted : GoodIn wsX11_ask (wsV RX11 216 RX11 yX11_counted wsX11_counted) := gw_c t_w613 (gw_c t_w612 (gw_c t_w611 (gw_c t_w510 (gw_c t_w610 (gw_t)))))
theorem gX11_ask_X11_wordTo : GoodIn wsX11_ask (wsV RX11 379 RX11 yX11_wordTo wsX11_wordTo) := gw_c t_w726 (gw_c t_w725 (gw_c t_w724 (gw_c t_w510 (gw_c t_w723 (gw_t)))))
theorem gX11_ask_X11_answersTwo : GoodIn wsX11_ask (wsV RX11 389 RX11 yX11_answersTwo wsX11_answersTwo) := gw_c t_w730 (gw_c t_w729 (gw_c t_w728 (gw_c t_w510 (gw_c t_w727 (gw_t)))))
theorem gX11_ask_X11_answersOne : GoodIn wsX11_ask (wsV RX11 393 RX11 yX11_answersOne wsX11_answersOne) := gw_c t_w734 (gw_c t_w733 (gw_c t_w732 (gw_c t_w510 (gw_c t_w731 (gw_t)))))
theorem dX11_ask_0 : decode cX11_ask 0 = .ok (.iload_n 1, 1) := by decide +kernel
theorem dX11_ask_1 : decode cX11_ask 1 = .ok (.i2l, 1) := by decide +kernel
theorem dX11_ask_2 : decode cX11_ask 2 = .ok (.lconst 1, 1) := by decide +kernel
theorem dX11_ask_3 : decode cX11_ask 3 = .ok (.ldc2_w 377, 3) := by decide +kernel
theorem dX11_ask_6 : decode cX11_ask 6 = .ok (.invokestatic 72, 3) := by decide +kernel
theorem dX11_ask_9 : decode cX11_ask 9 = .ok (.ifCond .eq 11, 3) := by decide +kernel
theorem dX11_ask_12 : decode cX11_ask 12 = .ok (.iload_n 1, 1) := by decide +kernel
theorem dX11_ask_13 : decode cX11_ask 13 = .ok (.aload_n 0, 1) := by decide +kernel
theorem dX11_ask_14 : decode cX11_ask 14 = .ok (.getfield 160, 3) := by decide +kernel
theorem dX11_ask_17 : decode cX11_ask 17 = .ok (.if_icmp .le 5, 3) := by decide +kernel
theorem dX11_ask_20 : decode cX11_ask 20 = .ok (.iconst (-1), 1) := by decide +kernel
theorem dX11_ask_21 : decode cX11_ask 21 = .ok (.ireturn, 1) := by decide +kernel
theorem dX11_ask_22 : decode cX11_ask 22 = .ok (.aload_n 0, 1) := by decide +kernel
theorem dX11_ask_23 : decode cX11_ask 23 = .ok (.iconst 0, 1) := by decide +kernel
theorem dX11_ask_24 : decode cX11_ask 24 = .ok (.putfield 160, 3) := by decide +kernel
theorem dX11_ask_27 : decode cX11_ask 27 = .ok (.aload_n 0, 1) := by decide +kernel
theorem dX11_ask_28 : decode cX11_ask 28 = .ok (.iconst 0, 1) := by decide +kernel
theorem dX11_ask_29 : decode cX11_ask 29 = .ok (.putfield 167, 3) := by decide +kernel
theorem dX11_ask_32 : decode cX11_ask 32 = .ok (.aload_n 0, 1) := by decide +kernel
theorem dX11_ask_33 : decode cX11_ask 33 = .ok (.iconst 0, 1) := by decide +kernel
theorem dX11_ask_34 : decode cX11_ask 34 = .ok (.putfield 356, 3) := by decide +kernel
theorem dX11_ask_37 : decode cX11_ask 37 = .ok (.aload_n 0, 1) := by decide +kernel
theorem dX11_ask_38 : decode cX11_ask 38 = .ok (.iconst 0, 1) := by decide +kernel
theorem dX11_ask_39 : decode cX11_ask 39 = .ok (.iload_n 1, 1) := by decide +kernel
theorem dX11_ask_40 : decode cX11_ask 40 = .ok (.invokevirtual 360, 3) := by decide +kernel
theorem dX11_ask_43 : decode cX11_ask 43 = .ok (.istore_n 2, 1) := by decide +kernel
theorem dX11_ask_44 : decode cX11_ask 44 = .ok (.iload_n 2, 1) := by decide +kernel
theorem dX11_ask_45 : decode cX11_ask 45 = .ok (.iload_n 1, 1) := by decide +kernel
theorem dX11_ask_46 : decode cX11_ask 46 = .ok (.if_icmp .lt 12, 3) := by decide +kernel
theorem dX11_ask_49 : decode cX11_ask 49 = .ok (.aload_n 0, 1) := by decide +kernel
theorem dX11_ask_50 : decode cX11_ask 50 = .ok (.iconst 1, 1) := by decide +kernel
theorem dX11_ask_51 : decode cX11_ask 51 = .ok (.iload_n 1, 1) := by decide +kernel
theorem dX11_ask_52 : decode cX11_ask 52 = .ok (.invokevirtual 183, 3) := by decide +kernel
theorem dX11_ask_55 : decode cX11_ask 55 = .ok (.ifCond .eq 7, 3) := by decide +kernel
theorem dX11_ask_58 : decode cX11_ask 58 = .ok (.iconst 1, 1) := by decide +kernel
theorem dX11_ask_59 : decode cX11_ask 59 = .ok (.goto 4, 3) := by decide +kernel
theorem dX11_ask_62 : decode cX11_ask 62 = .ok (.iconst 0, 1) := by decide +kernel
theorem dX11_ask_63 : decode cX11_ask 63 = .ok (.istore_n 3, 1) := by decide +kernel
theorem dX11_ask_64 : decode cX11_ask 64 = .ok (.iload_n 3, 1) := by decide +kernel
theorem dX11_ask_65 : decode cX11_ask 65 = .ok (.ifCond .ne 15, 3) := by decide +kernel
theorem dX11_ask_68 : decode cX11_ask 68 = .ok (.aload_n 0, 1) := by decide +kernel
theorem dX11_ask_69 : decode cX11_ask 69 = .ok (.iconst 0, 1) := by decide +kernel
theorem dX11_ask_70 : decode cX11_ask 70 = .ok (.iconst 1, 1) := by decide +kernel
theorem dX11_ask_71 : decode cX11_ask 71 = .ok (.invokevirtual 216, 3) := by decide +kernel
theorem dX11_ask_74 : decode cX11_ask 74 = .ok (.istore_n 3, 1) := by decide +kernel
theorem dX11_ask_75 : decode cX11_ask 75 = .ok (.aload_n 0, 1) := by decide +kernel
theorem dX11_ask_76 : decode cX11_ask 76 = .ok (.getfield 167, 3) := by decide +kernel
theorem dX11_ask_79 : decode cX11_ask 79 = .ok (.ireturn, 1) := by decide +kernel
theorem dX11_ask_80 : decode cX11_ask 80 = .ok (.aload_n 0, 1) := by decide +kernel
theorem dX11_ask_81 : decode cX11_ask 81 = .ok (.iload_n 2, 1) := by decide +kernel
theorem dX11_ask_82 : decode cX11_ask 82 = .ok (.invokevirtual 379, 3) := by decide +kernel
theorem dX11_ask_85 : decode cX11_ask 85 = .ok (.lstore 4, 2) := by decide +kernel
theorem dX11_ask_87 : decode cX11_ask 87 = .ok (.lload 4, 2) := by decide +kernel
theorem dX11_ask_89 : decode cX11_ask 89 = .ok (.ldc2_w 383, 3) := by decide +kernel
theorem dX11_ask_92 : decode cX11_ask 92 = .ok (.lcmp, 1) := by decide +kernel
theorem dX11_ask_93 : decode cX11_ask 93 = .ok (.ifCond .eq 12, 3) := by decide +kernel
theorem dX11_ask_96 : decode cX11_ask 96 = .ok (.lload 4, 2) := by decide +kernel
theorem dX11_ask_98 : decode cX11_ask 98 = .ok (.ldc2_w 385, 3) := by decide +kernel
theorem dX11_ask_101 : decode cX11_ask 101 = .ok (.lcmp, 1) := by decide +kernel
theorem dX11_ask_102 : decode cX11_ask 102 = .ok (.ifCond .ne 7, 3) := by decide +kernel
theorem dX11_ask_105 : decode cX11_ask 105 = .ok (.iconst 1, 1) := by decide +kernel
theorem dX11_ask_106 : decode cX11_ask 106 = .ok (.goto 4, 3) := by decide +kernel
theorem dX11_ask_109 : decode cX11_ask 109 = .ok (.iconst 0, 1) := by decide +kernel
theorem dX11_ask_110 : decode cX11_ask 110 = .ok (.istore 6, 2) := by decide +kernel
theorem dX11_ask_112 : decode cX11_ask 112 = .ok (.lload 4, 2) := by decide +kernel
theorem dX11_ask_114 : decode cX11_ask 114 = .ok (.ldc2_w 368, 3) := by decide +kernel
theorem dX11_ask_117 : decode cX11_ask 117 = .ok (.lcmp, 1) := by decide +kernel
theorem dX11_ask_118 : decode cX11_ask 118 = .ok (.ifCond .eq 39, 3) := by decide +kernel
theorem dX11_ask_121 : decode cX11_ask 121 = .ok (.lload 4, 2) := by decide +kernel
theorem dX11_ask_123 : decode cX11_ask 123 = .ok (.ldc2_w 370, 3) := by decide +kernel
theorem dX11_ask_126 : decode cX11_ask 126 = .ok (.lcmp, 1) := by decide +kernel
theorem dX11_ask_127 : decode cX11_ask 127 = .ok (.ifCond .eq 30, 3) := by decide +kernel
theorem dX11_ask_130 : decode cX11_ask 130 = .ok (.lload 4, 2) := by decide +kernel
theorem dX11_ask_132 : decode cX11_ask 132 = .ok (.ldc2_w 372, 3) := by decide +kernel
theorem dX11_ask_135 : decode cX11_ask 135 = .ok (.lcmp, 1) := by decide +kernel
theorem dX11_ask_136 : decode cX11_ask 136 = .ok (.ifCond .eq 21, 3) := by decide +kernel
theorem dX11_ask_139 : decode cX11_ask 139 = .ok (.lload 4, 2) := by decide +kernel
theorem dX11_ask_141 : decode cX11_ask 141 = .ok (.ldc2_w 387, 3) := by decide +kernel
theorem dX11_ask_144 : decode cX11_ask 144 = .ok (.lcmp, 1) := by decide +kernel
theorem dX11_ask_145 : decode cX11_ask 145 = .ok (.ifCond .eq 12, 3) := by decide +kernel
theorem dX11_ask_148 : decode cX11_ask 148 = .ok (.lload 4, 2) := by decide +kernel
theorem dX11_ask_150 : decode cX11_ask 150 = .ok (.ldc2_w 366, 3) := by decide +kernel
theorem dX11_ask_153 : decode cX11_ask 153 = .ok (.lcmp, 1) := by decide +kernel
theorem dX11_ask_154 : decode cX11_ask 154 = .ok (.ifCond .ne 7, 3) := by decide +kernel
theorem dX11_ask_157 : decode cX11_ask 157 = .ok (.iconst 1, 1) := by decide +kernel
theorem dX11_ask_158 : decode cX11_ask 158 = .ok (.goto 4, 3) := by decide +kernel
theorem dX11_ask_161 : decode cX11_ask 161 = .ok (.iconst 0, 1) := by decide +kernel
theorem dX11_ask_162 : decode cX11_ask 162 = .ok (.istore 7, 2) := by decide +kernel
theorem dX11_ask_164 : decode cX11_ask 164 = .ok (.iload 6, 2) := by decide +kernel
theorem dX11_ask_166 : decode cX11_ask 166 = .ok (.ifCond .ne 27, 3) := by decide +kernel
theorem dX11_ask_169 : decode cX11_ask 169 = .ok (.iload 7, 2) := by decide +kernel
theorem dX11_ask_171 : decode cX11_ask 171 = .ok (.ifCond .ne 22, 3) := by decide +kernel
theorem dX11_ask_174 : decode cX11_ask 174 = .ok (.aload_n 0, 1) := by decide +kernel
theorem dX11_ask_175 : decode cX11_ask 175 = .ok (.iconst 1, 1) := by decide +kernel
theorem dX11_ask_176 : decode cX11_ask 176 = .ok (.iconst 0, 1) := by decide +kernel
theorem dX11_ask_177 : decode cX11_ask 177 = .ok (.invokevirtual 183, 3) := by decide +kernel
theorem dX11_ask_180 : decode cX11_ask 180 = .ok (.istore_n 3, 1) := by decide +kernel
theorem dX11_ask_181 : decode cX11_ask 181 = .ok (.aload_n 0, 1) := by decide +kernel
theorem dX11_ask_182 : decode cX11_ask 182 = .ok (.iconst 0, 1) := by decide +kernel
theorem dX11_ask_183 : decode cX11_ask 183 = .ok (.iconst 0, 1) := by decide +kernel
theorem dX11_ask_184 : decode cX11_ask 184 = .ok (.invokevirtual 216, 3) := by decide +kernel
theorem dX11_ask_187 : decode cX11_ask 187 = .ok (.istore_n 3, 1) := by decide +kernel
theorem dX11_ask_188 : decode cX11_ask 188 = .ok (.aload_n 0, 1) := by decide +kernel
theorem dX11_ask_189 : decode cX11_ask 189 = .ok (.getfield 167, 3) := by decide +kernel
theorem dX11_ask_192 : decode cX11_ask 192 = .ok (.ireturn, 1) := by decide +kernel
theorem dX11_ask_193 : decode cX11_ask 193 = .ok (.aload_n 0, 1) := by decide +kernel
theorem dX11_ask_194 : decode cX11_ask 194 = .ok (.iload_n 2, 1) := by decide +kernel
theorem dX11_ask_195 : decode cX11_ask 195 = .ok (.iconst 1, 1) := by decide +kernel
theorem dX11_ask_196 : decode cX11_ask 196 = .ok (.iadd, 1) := by decide +kernel
theorem dX11_ask_197 : decode cX11_ask 197 = .ok (.putfield 170, 3) := by decide +kernel
theorem dX11_ask_200 : decode cX11_ask 200 = .ok (.iload 6, 2) := by decide +kernel
theorem dX11_ask_202 : decode cX11_ask 202 = .ok (.ifCond .eq 25, 3) := by decide +kernel
theorem dX11_ask_205 : decode cX11_ask 205 = .ok (.aload_n 0, 1) := by decide +kernel
theorem dX11_ask_206 : decode cX11_ask 206 = .ok (.lload 4, 2) := by decide +kernel
theorem dX11_ask_208 : decode cX11_ask 208 = .ok (.ldc2_w 383, 3) := by decide +kernel
theorem dX11_ask_211 : decode cX11_ask 211 = .ok (.lcmp, 1) := by decide +kernel
theorem dX11_ask_212 : decode cX11_ask 212 = .ok (.ifCond .ne 7, 3) := by decide +kernel
theorem dX11_ask_215 : decode cX11_ask 215 = .ok (.iconst 1, 1) := by decide +kernel
theorem dX11_ask_216 : decode cX11_ask 216 = .ok (.goto 4, 3) := by decide +kernel
theorem dX11_ask_219 : decode cX11_ask 219 = .ok (.iconst 0, 1) := by decide +kernel
theorem dX11_ask_220 : decode cX11_ask 220 = .ok (.iload_n 1, 1) := by decide +kernel
theorem dX11_ask_221 : decode cX11_ask 221 = .ok (.invokevirtual 389, 3) := by decide +kernel
theorem dX11_ask_224 : decode cX11_ask 224 = .ok (.goto 10, 3) := by decide +kernel
theorem dX11_ask_227 : decode cX11_ask 227 = .ok (.aload_n 0, 1) := by decide +kernel
theorem dX11_ask_228 : decode cX11_ask 228 = .ok (.lload 4, 2) := by decide +kernel
theorem dX11_ask_230 : decode cX11_ask 230 = .ok (.iload_n 1, 1) := by decide +kernel
theorem dX11_ask_231 : decode cX11_ask 231 = .ok (.invokevirtual 393, 3) := by decide +kernel
theorem dX11_ask_234 : decode cX11_ask 234 = .ok (.ireturn, 1) := by decide +kernel
theorem dX11_slotOf_0 : decode cX11_slotOf 0 = .ok (.iconst 0, 1) := by decide +kernel
theorem dX11_slotOf_1 : decode cX11_slotOf 1 = .ok (.istore_n 3, 1) := by decide +kernel
theorem dX11_slotOf_2 : decode cX11_slotOf 2 = .ok (.iload_n 3, 1) := by decide +kernel
theorem dX11_slotOf_3 : decode cX11_slotOf 3 = .ok (.aload_n 0, 1) := by decide +kernel
theorem dX11_slotOf_4 : decode cX11_slotOf 4 = .ok (.getfield 123, 3) := by decide +kernel
theorem dX11_slotOf_7 : decode cX11_slotOf 7 = .ok (.if_icmp .ge 40, 3) := by decide +kernel
theorem dX11_slotOf_10 : decode cX11_slotOf 10 = .ok (.aload_n 0, 1) := by decide +kernel
theorem dX11_slotOf_11 : decode cX11_slotOf 11 = .ok (.getfield 45, 3) := by decide +kernel
theorem dX11_slotOf_14 : decode cX11_slotOf 14 = .ok (.iload_n 3, 1) := by decide +kernel
theorem dX11_slotOf_15 : decode cX11_slotOf 15 = .ok (.iaload, 1) := by decide +kernel
theorem dX11_slotOf_16 : decode cX11_slotOf 16 = .ok (.iload_n 1, 1) := by decide +kernel
theorem dX11_slotOf_17 : decode cX11_slotOf 17 = .ok (.if_icmp .lt 23, 3) := by decide +kernel
theorem dX11_slotOf_20 : decode cX11_slotOf 20 = .ok (.aload_n 0, 1) := by decide +kernel
theorem dX11_slotOf_21 : decode cX11_slotOf 21 = .ok (.getfield 45, 3) := by decide +kernel
theorem dX11_slotOf_24 : decode cX11_slotOf 24 = .ok (.iload_n 3, 1) := by decide +kernel
theorem dX11_slotOf_25 : decode cX11_slotOf 25 = .ok (.iaload, 1) := by decide +kernel
theorem dX11_slotOf_26 : decode cX11_slotOf 26 = .ok (.iload_n 1, 1) := by decide +kernel
theorem dX11_slotOf_27 : decode cX11_slotOf 27 = .ok (.if_icmp .ne 20, 3) := by decide +kernel
theorem dX11_slotOf_30 : decode cX11_slotOf 30 = .ok (.aload_n 0, 1) := by decide +kernel
theorem dX11_slotOf_31 : decode cX11_slotOf 31 = .ok (.getfield 48, 3) := by decide +kernel
theorem dX11_slotOf_34 : decode cX11_slotOf 34 = .ok (.iload_n 3, 1) := by decide +kernel
theorem dX11_slotOf_35 : decode cX11_slotOf 35 = .ok (.iaload, 1) := by decide +kernel
theorem dX11_slotOf_36 : decode cX11_slotOf 36 = .ok (.iload_n 2, 1) := by decide +kernel
theorem dX11_slotOf_37 : decode cX11_slotOf 37 = .ok (.if_icmp .ge 10, 3) := by decide +kernel
theorem dX11_slotOf_40 : decode cX11_slotOf 40 = .ok (.iload_n 3, 1) := by decide +kernel
theorem dX11_slotOf_41 : decode cX11_slotOf 41 = .ok (.iconst 1, 1) := by decide +kernel
theorem dX11_slotOf_42 : decode cX11_slotOf 42 = .ok (.iadd, 1) := by decide +kernel
theorem dX11_slotOf_43 : decode cX11_slotOf 43 = .ok (.istore_n 3, 1) := by decide +kernel
theorem dX11_slotOf_44 : decode cX11_slotOf 44 = .ok (.goto (-42), 3) := by decide +kernel
theorem dX11_slotOf_47 : decode cX11_slotOf 47 = .ok (.iload_n 3, 1) := by decide +kernel
theorem dX11_slotOf_48 : decode cX11_slotOf 48 = .ok (.ireturn, 1) := by decide +kernel
theorem dX11_isPiece_0 : decode cX11_isPiece 0 = .ok (.iload_n 1, 1) := by decide +kernel
theorem dX11_isPiece_1 : decode cX11_isPiece 1 = .ok (.aload_n 0, 1) := by decide +kernel
theorem dX11_isPiece_2 : decode cX11_isPiece 2 = .ok (.getfield 123, 3) := by decide +kernel
theorem dX11_isPiece_5 : decode cX11_isPiece 5 = .ok (.if_icmp .ge 27, 3) := by decide +kernel
theorem dX11_isPiece_8 : decode cX11_isPiece 8 = .ok (.aload_n 0, 1) := by decide +kernel
theorem dX11_isPiece_9 : decode cX11_isPiece 9 = .ok (.getfield 45, 3) := by decide +kernel
theorem dX11_isPiece_12 : decode cX11_isPiece 12 = .ok (.iload_n 1, 1) := by decide +kernel
theorem dX11_isPiece_13 : decode cX11_isPiece 13 = .ok (.iaload, 1) := by decide +kernel
theorem dX11_isPiece_14 : decode cX11_isPiece 14 = .ok (.iload_n 2, 1) := by decide +kernel
theorem dX11_isPiece_15 : decode cX11_isPiece 15 = .ok (.if_icmp .ne 17, 3) := by decide +kernel
theorem dX11_isPiece_18 : decode cX11_isPiece 18 = .ok (.aload_n 0, 1) := by decide +kernel
theorem dX11_isPiece_19 : decode cX11_isPiece 19 = .ok (.getfield 48, 3) := by decide +kernel
theorem dX11_isPiece_22 : decode cX11_isPiece 22 = .ok (.iload_n 1, 1) := by decide +kernel
theorem dX11_isPiece_23 : decode cX11_isPiece 23 = .ok (.iaload, 1) := by decide +kernel
theorem dX11_isPiece_24 : decode cX11_isPiece 24 = .ok (.iload_n 3, 1) := by decide +kernel
theorem dX11_isPiece_25 : decode cX11_isPiece 25 = .ok (.if_icmp .ne 7, 3) := by decide +kernel
theorem dX11_isPiece_28 : decode cX11_isPiece 28 = .ok (.iconst 1, 1) := by decide +kernel
theorem dX11_isPiece_29 : decode cX11_isPiece 29 = .ok (.goto 4, 3) := by decide +kernel
theorem dX11_isPiece_32 : decode cX11_isPiece 32 = .ok (.iconst 0, 1) := by decide +kernel
theorem dX11_isPiece_33 : decode cX11_isPiece 33 = .ok (.ireturn, 1) := by decide +kernel
theorem dX11_puts_0 : decode cX11_puts 0 = .ok (.aload_n 0, 1) := by decide +kernel
theorem dX11_puts_1 : decode cX11_puts 1 = .ok (.getfield 45, 3) := by decide +kernel
theorem dX11_puts_4 : decode cX11_puts 4 = .ok (.iload_n 1, 1) := by decide +kernel
theorem dX11_puts_5 : decode cX11_puts 5 = .ok (.iload_n 2, 1) := by decide +kernel
theorem dX11_puts_6 : decode cX11_puts 6 = .ok (.iastore, 1) := by decide +kernel
theorem dX11_puts_7 : decode cX11_puts 7 = .ok (.aload_n 0, 1) := by decide +kernel
theorem dX11_puts_8 : decode cX11_puts 8 = .ok (.getfield 48, 3) := by decide +kernel
theorem dX11_puts_11 : decode cX11_puts 11 = .ok (.iload_n 1, 1) := by decide +kernel
theorem dX11_puts_12 : decode cX11_puts 12 = .ok (.iload_n 3, 1) := by decide +kernel
theorem dX11_puts_13 : decode cX11_puts 13 = .ok (.iastore, 1) := by decide +kernel
theorem dX11_puts_14 : decode cX11_puts 14 = .ok (.aload_n 0, 1) := by decide +kernel
theorem dX11_puts_15 : decode cX11_puts 15 = .ok (.getfield 51, 3) := by decide +kernel
theorem dX11_puts_18 : decode cX11_puts 18 = .ok (.iload_n 1, 1) := by decide +kernel
theorem dX11_puts_19 : decode cX11_puts 19 = .ok (.iload 4, 2) := by decide +kernel
theorem dX11_puts_21 : decode cX11_puts 21 = .ok (.iastore, 1) := by decide +kernel
theorem dX11_puts_22 : decode cX11_puts 22 = .ok (.return_, 1) := by decide +kernel
theorem gX11_removes_X11_puts : GoodIn wsX11_removes (wsV RX11 397 RX11 yX11_puts wsX11_puts) := gw_c t_w738 (gw_c t_w737 (gw_c t_w736 (gw_c t_w510 (gw_c t_w735 (gw_t)))))
theorem dX11_removes_0 : decode cX11_removes 0 = .ok (.aload_n 0, 1) := by decide +kernel
theorem dX11_removes_1 : decode cX11_removes 1 = .ok (.aload_n 0, 1) := by decide +kernel
theorem dX11_removes_2 : decode cX11_removes 2 = .ok (.getfield 123, 3) := by decide +kernel
theorem dX11_removes_5 : decode cX11_removes 5 = .ok (.iconst 1, 1) := by decide +kernel
theorem dX11_removes_6 : decode cX11_removes 6 = .ok (.isub, 1) := by decide +kernel
theorem dX11_removes_7 : decode cX11_removes 7 = .ok (.putfield 123, 3) := by decide +kernel
theorem dX11_removes_10 : decode cX11_removes 10 = .ok (.iload_n 1, 1) := by decide +kernel
theorem dX11_removes_11 : decode cX11_removes 11 = .ok (.istore_n 2, 1) := by decide +kernel
theorem dX11_removes_12 : decode cX11_removes 12 = .ok (.iload_n 2, 1) := by decide +kernel
theorem dX11_removes_13 : decode cX11_removes 13 = .ok (.aload_n 0, 1) := by decide +kernel
theorem dX11_removes_14 : decode cX11_removes 14 = .ok (.getfield 123, 3) := by decide +kernel
theorem dX11_removes_17 : decode cX11_removes 17 = .ok (.if_icmp .ge 38, 3) := by decide +kernel
theorem dX11_removes_20 : decode cX11_removes 20 = .ok (.aload_n 0, 1) := by decide +kernel
theorem dX11_removes_21 : decode cX11_removes 21 = .ok (.iload_n 2, 1) := by decide +kernel
theorem dX11_removes_22 : decode cX11_removes 22 = .ok (.aload_n 0, 1) := by decide +kernel
theorem dX11_removes_23 : decode cX11_removes 23 = .ok (.getfield 45, 3) := by decide +kernel
theorem dX11_removes_26 : decode cX11_removes 26 = .ok (.iload_n 2, 1) := by decide +kernel
theorem dX11_removes_27 : decode cX11_removes 27 = .ok (.iconst 1, 1) := by decide +kernel
theorem dX11_removes_28 : decode cX11_removes 28 = .ok (.iadd, 1) := by decide +kernel
theorem dX11_removes_29 : decode cX11_removes 29 = .ok (.iaload, 1) := by decide +kernel
theorem dX11_removes_30 : decode cX11_removes 30 = .ok (.aload_n 0, 1) := by decide +kernel
theorem dX11_removes_31 : decode cX11_removes 31 = .ok (.getfield 48, 3) := by decide +kernel
theorem dX11_removes_34 : decode cX11_removes 34 = .ok (.iload_n 2, 1) := by decide +kernel
theorem dX11_removes_35 : decode cX11_removes 35 = .ok (.iconst 1, 1) := by decide +kernel
theorem dX11_removes_36 : decode cX11_removes 36 = .ok (.iadd, 1) := by decide +kernel
theorem dX11_removes_37 : decode cX11_removes 37 = .ok (.iaload, 1) := by decide +kernel
theorem dX11_removes_38 : decode cX11_removes 38 = .ok (.aload_n 0, 1) := by decide +kernel
theorem dX11_removes_39 : decode cX11_removes 39 = .ok (.getfield 51, 3) := by decide +kernel
theorem dX11_removes_42 : decode cX11_removes 42 = .ok (.iload_n 2, 1) := by decide +kernel
theorem dX11_removes_43 : decode cX11_removes 43 = .ok (.iconst 1, 1) := by decide +kernel
theorem dX11_removes_44 : decode cX11_removes 44 = .ok (.iadd, 1) := by decide +kernel
theorem dX11_removes_45 : decode cX11_removes 45 = .ok (.iaload, 1) := by decide +kernel
theorem dX11_removes_46 : decode cX11_removes 46 = .ok (.invokevirtual 397, 3) := by decide +kernel
theorem dX11_removes_49 : decode cX11_removes 49 = .ok (.iinc 2 1, 3) := by decide +kernel
theorem dX11_removes_52 : decode cX11_removes 52 = .ok (.goto (-40), 3) := by decide +kernel
theorem dX11_removes_55 : decode cX11_removes 55 = .ok (.return_, 1) := by decide +kernel
theorem gX11_isYear_X11_in : GoodIn wsX11_isYear (va_wsS RX11 72 yX11_in wsX11_in) := gw_c t_w519 (gw_c t_w518 (gw_c t_w510 (gw_c t_w517 (gw_t))))
theorem dX11_isYear_0 : decode cX11_isYear 0 = .ok (.iload_n 0, 1) := by decide +kernel
theorem dX11_isYear_1 : decode cX11_isYear 1 = .ok (.i2l, 1) := by decide +kernel
theorem dX11_isYear_2 : decode cX11_isYear 2 = .ok (.ldc2_w 401, 3) := by decide +kernel
theorem dX11_isYear_5 : decode cX11_isYear 5 = .ok (.ldc2_w 403, 3) := by decide +kernel
theorem dX11_isYear_8 : decode cX11_isYear 8 = .ok (.invokestatic 72, 3) := by decide +kernel
theorem dX11_isYear_11 : decode cX11_isYear 11 = .ok (.ireturn, 1) := by decide +kernel
theorem gX11_store_X11_isKey : GoodIn wsX11_store (wsV RX11 153 RX11 yX11_isKey wsX11_isKey) := gw_c t_w585 (gw_c t_w584 (gw_c t_w583 (gw_c t_w510 (gw_c t_w582 (gw_t)))))
theorem gX11_store_X11_isYear : GoodIn wsX11_store (va_wsS RX11 405 yX11_isYear wsX11_isYear) := gw_c t_w741 (gw_c t_w740 (gw_c t_w510 (gw_c t_w739 (gw_t))))
theorem gX11_store_X11_isCap : GoodIn wsX11_store (wsV RX11 140 RX11 yX11_isCap wsX11_isCap) := gw_c t_w569 (gw_c t_w568 (gw_c t_w567 (gw_c t_w510 (gw_c t_w566 (gw_t)))))
theorem gX11_store_X11_parentOf : GoodIn wsX11_store (wsV RX11 254 RX11 yX11_parentOf wsX11_parentOf) := gw_c t_w631 (gw_c t_w630 (gw_c t_w629 (gw_c t_w510 (gw_c t_w628 (gw_t)))))
theorem gX11_store_X11_slotOf : GoodIn wsX11_store (wsV RX11 408 RX11 yX11_slotOf wsX11_slotOf) := gw_c t_w745 (gw_c t_w744 (gw_c t_w743 (gw_c t_w510 (gw_c t_w742 (gw_t)))))
theorem gX11_store_X11_isPiece : GoodIn wsX11_store (wsV RX11 411 RX11 yX11_isPiece wsX11_isPiece) := gw_c t_w749 (gw_c t_w748 (gw_c t_w747 (gw_c t_w510 (gw_c t_w746 (gw_t)))))
theorem gX11_store_X11_puts : GoodIn wsX11_store (wsV RX11 397 RX11 yX11_puts wsX11_puts) := gw_c t_w738 (gw_c t_w737 (gw_c t_w736 (gw_c t_w510 (gw_c t_w735 (gw_t)))))
theorem dX11_store_0 : decode cX11_store 0 = .ok (.aload_n 0, 1) := by decide +kernel
theorem dX11_store_1 : decode cX11_store 1 = .ok (.iload_n 1, 1) := by decide +kernel
theorem dX11_store_2 : decode cX11_store 2 = .ok (.iload_n 2, 1) := by decide +kernel
theorem dX11_store_3 : decode cX11_store 3 = .ok (.invokevirtual 153, 3) := by decide +kernel
theorem dX11_store_6 : decode cX11_store 6 = .ok (.ifCond .eq 10, 3) := by decide +kernel
theorem dX11_store_9 : decode cX11_store 9 = .ok (.iload_n 3, 1) := by decide +kernel
theorem dX11_store_10 : decode cX11_store 10 = .ok (.invokestatic 405, 3) := by decide +kernel
theorem dX11_store_13 : decode cX11_store 13 = .ok (.ifCond .ne 5, 3) := by decide +kernel
theorem dX11_store_16 : decode cX11_store 16 = .ok (.iconst (-1), 1) := by decide +kernel
theorem dX11_store_17 : decode cX11_store 17 = .ok (.ireturn, 1) := by decide +kernel
theorem dX11_store_18 : decode cX11_store 18 = .ok (.aload_n 0, 1) := by decide +kernel
theorem dX11_store_19 : decode cX11_store 19 = .ok (.iload_n 1, 1) := by decide +kernel
theorem dX11_store_20 : decode cX11_store 20 = .ok (.iload_n 2, 1) := by decide +kernel
theorem dX11_store_21 : decode cX11_store 21 = .ok (.invokevirtual 140, 3) := by decide +kernel
theorem dX11_store_24 : decode cX11_store 24 = .ok (.ifCond .eq 7, 3) := by decide +kernel
theorem dX11_store_27 : decode cX11_store 27 = .ok (.iconst 0, 1) := by decide +kernel
theorem dX11_store_28 : decode cX11_store 28 = .ok (.goto 4, 3) := by decide +kernel
theorem dX11_store_31 : decode cX11_store 31 = .ok (.iload_n 1, 1) := by decide +kernel
theorem dX11_store_32 : decode cX11_store 32 = .ok (.istore 4, 2) := by decide +kernel
theorem dX11_store_34 : decode cX11_store 34 = .ok (.aload_n 0, 1) := by decide +kernel
theorem dX11_store_35 : decode cX11_store 35 = .ok (.iload_n 1, 1) := by decide +kernel
theorem dX11_store_36 : decode cX11_store 36 = .ok (.iload_n 2, 1) := by decide +kernel
theorem dX11_store_37 : decode cX11_store 37 = .ok (.invokevirtual 140, 3) := by decide +kernel
theorem dX11_store_40 : decode cX11_store 40 = .ok (.ifCond .eq 13, 3) := by decide +kernel
theorem dX11_store_43 : decode cX11_store 43 = .ok (.aload_n 0, 1) := by decide +kernel
theorem dX11_store_44 : decode cX11_store 44 = .ok (.iload_n 1, 1) := by decide +kernel
theorem dX11_store_45 : decode cX11_store 45 = .ok (.iload_n 2, 1) := by decide +kernel
theorem dX11_store_46 : decode cX11_store 46 = .ok (.iconst 0, 1) := by decide +kernel
theorem dX11_store_47 : decode cX11_store 47 = .ok (.invokevirtual 254, 3) := by decide +kernel
theorem dX11_store_50 : decode cX11_store 50 = .ok (.goto 4, 3) := by decide +kernel
theorem dX11_store_53 : decode cX11_store 53 = .ok (.iload_n 2, 1) := by decide +kernel
theorem dX11_store_54 : decode cX11_store 54 = .ok (.istore 5, 2) := by decide +kernel
theorem dX11_store_56 : decode cX11_store 56 = .ok (.aload_n 0, 1) := by decide +kernel
theorem dX11_store_57 : decode cX11_store 57 = .ok (.iload 4, 2) := by decide +kernel
theorem dX11_store_59 : decode cX11_store 59 = .ok (.iload 5, 2) := by decide +kernel
theorem dX11_store_61 : decode cX11_store 61 = .ok (.invokevirtual 408, 3) := by decide +kernel
theorem dX11_store_64 : decode cX11_store 64 = .ok (.istore 6, 2) := by decide +kernel
theorem dX11_store_66 : decode cX11_store 66 = .ok (.aload_n 0, 1) := by decide +kernel
theorem dX11_store_67 : decode cX11_store 67 = .ok (.iload 6, 2) := by decide +kernel
theorem dX11_store_69 : decode cX11_store 69 = .ok (.iload 4, 2) := by decide +kernel
theorem dX11_store_71 : decode cX11_store 71 = .ok (.iload 5, 2) := by decide +kernel
theorem dX11_store_73 : decode cX11_store 73 = .ok (.invokevirtual 411, 3) := by decide +kernel
theorem dX11_store_76 : decode cX11_store 76 = .ok (.ifCond .ne 77, 3) := by decide +kernel
theorem dX11_store_79 : decode cX11_store 79 = .ok (.aload_n 0, 1) := by decide +kernel
theorem dX11_store_80 : decode cX11_store 80 = .ok (.getfield 123, 3) := by decide +kernel
theorem dX11_store_83 : decode cX11_store 83 = .ok (.bipush 60, 2) := by decide +kernel
theorem dX11_store_85 : decode cX11_store 85 = .ok (.if_icmp .ne 6, 3) := by decide +kernel
theorem dX11_store_88 : decode cX11_store 88 = .ok (.bipush (-2), 2) := by decide +kernel
theorem dX11_store_90 : decode cX11_store 90 = .ok (.ireturn, 1) := by decide +kernel
theorem dX11_store_91 : decode cX11_store 91 = .ok (.aload_n 0, 1) := by decide +kernel
theorem dX11_store_92 : decode cX11_store 92 = .ok (.getfield 123, 3) := by decide +kernel
theorem dX11_store_95 : decode cX11_store 95 = .ok (.istore 7, 2) := by decide +kernel
theorem dX11_store_97 : decode cX11_store 97 = .ok (.iload 7, 2) := by decide +kernel
theorem dX11_store_99 : decode cX11_store 99 = .ok (.iload 6, 2) := by decide +kernel
theorem dX11_store_101 : decode cX11_store 101 = .ok (.if_icmp .le 42, 3) := by decide +kernel
theorem dX11_store_104 : decode cX11_store 104 = .ok (.aload_n 0, 1) := by decide +kernel
theorem dX11_store_105 : decode cX11_store 105 = .ok (.iload 7, 2) := by decide +kernel
theorem dX11_store_107 : decode cX11_store 107 = .ok (.aload_n 0, 1) := by decide +kernel
theorem dX11_store_108 : decode cX11_store 108 = .ok (.getfield 45, 3) := by decide +kernel
theorem dX11_store_111 : decode cX11_store 111 = .ok (.iload 7, 2) := by decide +kernel
theorem dX11_store_113 : decode cX11_store 113 = .ok (.iconst 1, 1) := by decide +kernel
theorem dX11_store_114 : decode cX11_store 114 = .ok (.isub, 1) := by decide +kernel
theorem dX11_store_115 : decode cX11_store 115 = .ok (.iaload, 1) := by decide +kernel
theorem dX11_store_116 : decode cX11_store 116 = .ok (.aload_n 0, 1) := by decide +kernel
theorem dX11_store_117 : decode cX11_store 117 = .ok (.getfield 48, 3) := by decide +kernel
theorem dX11_store_120 : decode cX11_store 120 = .ok (.iload 7, 2) := by decide +kernel
theorem dX11_store_122 : decode cX11_store 122 = .ok (.iconst 1, 1) := by decide +kernel
theorem dX11_store_123 : decode cX11_store 123 = .ok (.isub, 1) := by decide +kernel
theorem dX11_store_124 : decode cX11_store 124 = .ok (.iaload, 1) := by decide +kernel
theorem dX11_store_125 : decode cX11_store 125 = .ok (.aload_n 0, 1) := by decide +kernel
theorem dX11_store_126 : decode cX11_store 126 = .ok (.getfield 51, 3) := by decide +kernel
theorem dX11_store_129 : decode cX11_store 129 = .ok (.iload 7, 2) := by decide +kernel
theorem dX11_store_131 : decode cX11_store 131 = .ok (.iconst 1, 1) := by decide +kernel
theorem dX11_store_132 : decode cX11_store 132 = .ok (.isub, 1) := by decide +kernel
theorem dX11_store_133 : decode cX11_store 133 = .ok (.iaload, 1) := by decide +kernel
theorem dX11_store_134 : decode cX11_store 134 = .ok (.invokevirtual 397, 3) := by decide +kernel
theorem dX11_store_137 : decode cX11_store 137 = .ok (.iinc 7 (-1), 3) := by decide +kernel
theorem dX11_store_140 : decode cX11_store 140 = .ok (.goto (-43), 3) := by decide +kernel
theorem dX11_store_143 : decode cX11_store 143 = .ok (.aload_n 0, 1) := by decide +kernel
theorem dX11_store_144 : decode cX11_store 144 = .ok (.aload_n 0, 1) := by decide +kernel
theorem dX11_store_145 : decode cX11_store 145 = .ok (.getfield 123, 3) := by decide +kernel
theorem dX11_store_148 : decode cX11_store 148 = .ok (.iconst 1, 1) := by decide +kernel
theorem dX11_store_149 : decode cX11_store 149 = .ok (.iadd, 1) := by decide +kernel
theorem dX11_store_150 : decode cX11_store 150 = .ok (.putfield 123, 3) := by decide +kernel
theorem dX11_store_153 : decode cX11_store 153 = .ok (.aload_n 0, 1) := by decide +kernel
theorem dX11_store_154 : decode cX11_store 154 = .ok (.iload 6, 2) := by decide +kernel
theorem dX11_store_156 : decode cX11_store 156 = .ok (.iload 4, 2) := by decide +kernel
theorem dX11_store_158 : decode cX11_store 158 = .ok (.iload 5, 2) := by decide +kernel
theorem dX11_store_160 : decode cX11_store 160 = .ok (.iload_n 3, 1) := by decide +kernel
theorem dX11_store_161 : decode cX11_store 161 = .ok (.invokevirtual 397, 3) := by decide +kernel
theorem dX11_store_164 : decode cX11_store 164 = .ok (.aload_n 0, 1) := by decide +kernel
theorem dX11_store_165 : decode cX11_store 165 = .ok (.getfield 123, 3) := by decide +kernel
theorem dX11_store_168 : decode cX11_store 168 = .ok (.ireturn, 1) := by decide +kernel
theorem gX11_drop_X11_isKey : GoodIn wsX11_drop (wsV RX11 153 RX11 yX11_isKey wsX11_isKey) := gw_c t_w585 (gw_c t_w584 (gw_c t_w583 (gw_c t_w510 (gw_c t_w582 (gw_t)))))
theorem gX11_drop_X11_isCap : GoodIn wsX11_drop (wsV RX11 140 RX11 yX11_isCap wsX11_isCap) := gw_c t_w569 (gw_c t_w568 (gw_c t_w567 (gw_c t_w510 (gw_c t_w566 (gw_t)))))
theorem gX11_drop_X11_parentOf : GoodIn wsX11_drop (wsV RX11 254 RX11 yX11_parentOf wsX11_parentOf) := gw_c t_w631 (gw_c t_w630 (gw_c t_w629 (gw_c t_w510 (gw_c t_w628 (gw_t)))))
theorem gX11_drop_X11_slotOf : GoodIn wsX11_drop (wsV RX11 408 RX11 yX11_slotOf wsX11_slotOf) := gw_c t_w745 (gw_c t_w744 (gw_c t_w743 (gw_c t_w510 (gw_c t_w742 (gw_t)))))
theorem gX11_drop_X11_isPiece : GoodIn wsX11_drop (wsV RX11 411 RX11 yX11_isPiece wsX11_isPiece) := gw_c t_w749 (gw_c t_w748 (gw_c t_w747 (gw_c t_w510 (gw_c t_w746 (gw_t)))))
theorem gX11_drop_X11_removes : GoodIn wsX11_drop (wsV RX11 414 RX11 yX11_removes wsX11_removes) := gw_c t_w753 (gw_c t_w752 (gw_c t_w751 (gw_c t_w510 (gw_c t_w750 (gw_t)))))
theorem dX11_drop_0 : decode cX11_drop 0 = .ok (.aload_n 0, 1) := by decide +kernel
theorem dX11_drop_1 : decode cX11_drop 1 = .ok (.iload_n 1, 1) := by decide +kernel
theorem dX11_drop_2 : decode cX11_drop 2 = .ok (.iload_n 2, 1) := by decide +kernel
theorem dX11_drop_3 : decode cX11_drop 3 = .ok (.invokevirtual 153, 3) := by decide +kernel
theorem dX11_drop_6 : decode cX11_drop 6 = .ok (.ifCond .ne 5, 3) := by decide +kernel
theorem dX11_drop_9 : decode cX11_drop 9 = .ok (.iconst (-1), 1) := by decide +kernel
theorem dX11_drop_10 : decode cX11_drop 10 = .ok (.ireturn, 1) := by decide +kernel
theorem dX11_drop_11 : decode cX11_drop 11 = .ok (.aload_n 0, 1) := by decide +kernel
theorem dX11_drop_12 : decode cX11_drop 12 = .ok (.iload_n 1, 1) := by decide +kernel
theorem dX11_drop_13 : decode cX11_drop 13 = .ok (.iload_n 2, 1) := by decide +kernel
theorem dX11_drop_14 : decode cX11_drop 14 = .ok (.invokevirtual 140, 3) := by decide +kernel
theorem dX11_drop_17 : decode cX11_drop 17 = .ok (.ifCond .eq 7, 3) := by decide +kernel
theorem dX11_drop_20 : decode cX11_drop 20 = .ok (.iconst 0, 1) := by decide +kernel
theorem dX11_drop_21 : decode cX11_drop 21 = .ok (.goto 4, 3) := by decide +kernel
theorem dX11_drop_24 : decode cX11_drop 24 = .ok (.iload_n 1, 1) := by decide +kernel
theorem dX11_drop_25 : decode cX11_drop 25 = .ok (.istore_n 3, 1) := by decide +kernel
theorem dX11_drop_26 : decode cX11_drop 26 = .ok (.aload_n 0, 1) := by decide +kernel
theorem dX11_drop_27 : decode cX11_drop 27 = .ok (.iload_n 1, 1) := by decide +kernel
theorem dX11_drop_28 : decode cX11_drop 28 = .ok (.iload_n 2, 1) := by decide +kernel
theorem dX11_drop_29 : decode cX11_drop 29 = .ok (.invokevirtual 140, 3) := by decide +kernel
theorem dX11_drop_32 : decode cX11_drop 32 = .ok (.ifCond .eq 13, 3) := by decide +kernel
theorem dX11_drop_35 : decode cX11_drop 35 = .ok (.aload_n 0, 1) := by decide +kernel
theorem dX11_drop_36 : decode cX11_drop 36 = .ok (.iload_n 1, 1) := by decide +kernel
theorem dX11_drop_37 : decode cX11_drop 37 = .ok (.iload_n 2, 1) := by decide +kernel
theorem dX11_drop_38 : decode cX11_drop 38 = .ok (.iconst 0, 1) := by decide +kernel
theorem dX11_drop_39 : decode cX11_drop 39 = .ok (.invokevirtual 254, 3) := by decide +kernel
theorem dX11_drop_42 : decode cX11_drop 42 = .ok (.goto 4, 3) := by decide +kernel
theorem dX11_drop_45 : decode cX11_drop 45 = .ok (.iload_n 2, 1) := by decide +kernel
theorem dX11_drop_46 : decode cX11_drop 46 = .ok (.istore 4, 2) := by decide +kernel
theorem dX11_drop_48 : decode cX11_drop 48 = .ok (.aload_n 0, 1) := by decide +kernel
theorem dX11_drop_49 : decode cX11_drop 49 = .ok (.iload_n 3, 1) := by decide +kernel
theorem dX11_drop_50 : decode cX11_drop 50 = .ok (.iload 4, 2) := by decide +kernel
theorem dX11_drop_52 : decode cX11_drop 52 = .ok (.invokevirtual 408, 3) := by decide +kernel
theorem dX11_drop_55 : decode cX11_drop 55 = .ok (.istore 5, 2) := by decide +kernel
theorem dX11_drop_57 : decode cX11_drop 57 = .ok (.aload_n 0, 1) := by decide +kernel
theorem dX11_drop_58 : decode cX11_drop 58 = .ok (.iload 5, 2) := by decide +kernel
theorem dX11_drop_60 : decode cX11_drop 60 = .ok (.iload_n 3, 1) := by decide +kernel
theorem dX11_drop_61 : decode cX11_drop 61 = .ok (.iload 4, 2) := by decide +kernel
theorem dX11_drop_63 : decode cX11_drop 63 = .ok (.invokevirtual 411, 3) := by decide +kernel
theorem dX11_drop_66 : decode cX11_drop 66 = .ok (.ifCond .ne 6, 3) := by decide +kernel
theorem dX11_drop_69 : decode cX11_drop 69 = .ok (.bipush (-2), 2) := by decide +kernel
theorem dX11_drop_71 : decode cX11_drop 71 = .ok (.ireturn, 1) := by decide +kernel
theorem dX11_drop_72 : decode cX11_drop 72 = .ok (.aload_n 0, 1) := by decide +kernel
theorem dX11_drop_73 : decode cX11_drop 73 = .ok (.getfield 51, 3) := by decide +kernel
theorem dX11_drop_76 : decode cX11_drop 76 = .ok (.iload 5, 2) := by decide +kernel
theorem dX11_drop_78 : decode cX11_drop 78 = .ok (.iaload, 1) := by decide +kernel
theorem dX11_drop_79 : decode cX11_drop 79 = .ok (.istore 6, 2) := by decide +kernel
theorem dX11_drop_81 : decode cX11_drop 81 = .ok (.aload_n 0, 1) := by decide +kernel
theorem dX11_drop_82 : decode cX11_drop 82 = .ok (.iload 5, 2) := by decide +kernel
theorem dX11_drop_84 : decode cX11_drop 84 = .ok (.invokevirtual 414, 3) := by decide +kernel
theorem dX11_drop_87 : decode cX11_drop 87 = .ok (.iload 6, 2) := by decide +kernel
theorem dX11_drop_89 : decode cX11_drop 89 = .ok (.ireturn, 1) := by decide +kernel
theorem gX11_piece_X11_in : GoodIn wsX11_piece (va_wsS RX11 72 yX11_in wsX11_in) := gw_c t_w519 (gw_c t_w518 (gw_c t_w510 (gw_c t_w517 (gw_t))))
theorem dX11_piece_0 : decode cX11_piece 0 = .ok (.iload_n 1, 1) := by decide +kernel
theorem dX11_piece_1 : decode cX11_piece 1 = .ok (.ifCond .lt 15, 3) := by decide +kernel
theorem dX11_piece_4 : decode cX11_piece 4 = .ok (.iload_n 2, 1) := by decide +kernel
theorem dX11_piece_5 : decode cX11_piece 5 = .ok (.i2l, 1) := by decide +kernel
theorem dX11_piece_6 : decode cX11_piece 6 = .ok (.lconst 0, 1) := by decide +kernel
theorem dX11_piece_7 : decode cX11_piece 7 = .ok (.ldc2_w 127, 3) := by decide +kernel
theorem dX11_piece_10 : decode cX11_piece 10 = .ok (.invokestatic 72, 3) := by decide +kernel
theorem dX11_piece_13 : decode cX11_piece 13 = .ok (.ifCond .ne 5, 3) := by decide +kernel
theorem dX11_piece_16 : decode cX11_piece 16 = .ok (.iconst (-1), 1) := by decide +kernel
theorem dX11_piece_17 : decode cX11_piece 17 = .ok (.ireturn, 1) := by decide +kernel
theorem dX11_piece_18 : decode cX11_piece 18 = .ok (.iload_n 1, 1) := by decide +kernel
theorem dX11_piece_19 : decode cX11_piece 19 = .ok (.aload_n 0, 1) := by decide +kernel
theorem dX11_piece_20 : decode cX11_piece 20 = .ok (.getfield 123, 3) := by decide +kernel
theorem dX11_piece_23 : decode cX11_piece 23 = .ok (.if_icmp .lt 6, 3) := by decide +kernel
theorem dX11_piece_26 : decode cX11_piece 26 = .ok (.bipush (-2), 2) := by decide +kernel
theorem dX11_piece_28 : decode cX11_piece 28 = .ok (.ireturn, 1) := by decide +kernel
theorem dX11_piece_29 : decode cX11_piece 29 = .ok (.iload_n 2, 1) := by decide +kernel
theorem dX11_piece_30 : decode cX11_piece 30 = .ok (.ifCond .ne 12, 3) := by decide +kernel
theorem dX11_piece_33 : decode cX11_piece 33 = .ok (.aload_n 0, 1) := by decide +kernel
theorem dX11_piece_34 : decode cX11_piece 34 = .ok (.getfield 45, 3) := by decide +kernel
theorem dX11_piece_37 : decode cX11_piece 37 = .ok (.iload_n 1, 1) := by decide +kernel
theorem dX11_piece_38 : decode cX11_piece 38 = .ok (.iaload, 1) := by decide +kernel
theorem dX11_piece_39 : decode cX11_piece 39 = .ok (.goto 23, 3) := by decide +kernel
theorem dX11_piece_42 : decode cX11_piece 42 = .ok (.iload_n 2, 1) := by decide +kernel
theorem dX11_piece_43 : decode cX11_piece 43 = .ok (.iconst 1, 1) := by decide +kernel
theorem dX11_piece_44 : decode cX11_piece 44 = .ok (.if_icmp .ne 12, 3) := by decide +kernel
theorem dX11_piece_47 : decode cX11_piece 47 = .ok (.aload_n 0, 1) := by decide +kernel
theorem dX11_piece_48 : decode cX11_piece 48 = .ok (.getfield 48, 3) := by decide +kernel
theorem dX11_piece_51 : decode cX11_piece 51 = .ok (.iload_n 1, 1) := by decide +kernel
theorem dX11_piece_52 : decode cX11_piece 52 = .ok (.iaload, 1) := by decide +kernel
theorem dX11_piece_53 : decode cX11_piece 53 = .ok (.goto 9, 3) := by decide +kernel
theorem dX11_piece_56 : decode cX11_piece 56 = .ok (.aload_n 0, 1) := by decide +kernel
theorem dX11_piece_57 : decode cX11_piece 57 = .ok (.getfield 51, 3) := by decide +kernel
theorem dX11_piece_60 : decode cX11_piece 60 = .ok (.iload_n 1, 1) := by decide +kernel
theorem dX11_piece_61 : decode cX11_piece 61 = .ok (.iaload, 1) := by decide +kernel
theorem dX11_piece_62 : decode cX11_piece 62 = .ok (.ireturn, 1) := by decide +kernel
theorem gX11_shownOf_X11_keyAtPlace : GoodIn wsX11_shownOf (wsV RX11 137 RX11 yX11_keyAtPlace wsX11_keyAtPlace) := gw_c t_w565 (gw_c t_w564 (gw_c t_w563 (gw_c t_w510 (gw_c t_w562 (gw_t)))))
theorem dX11_shownOf_0 : decode cX11_shownOf 0 = .ok (.iconst 0, 1) := by decide +kernel
theorem dX11_shownOf_1 : decode cX11_shownOf 1 = .ok (.istore 4, 2) := by decide +kernel
theorem dX11_shownOf_3 : decode cX11_shownOf 3 = .ok (.bipush (-2), 2) := by decide +kernel
theorem dX11_shownOf_5 : decode cX11_shownOf 5 = .ok (.istore 5, 2) := by decide +kernel
theorem dX11_shownOf_7 : decode cX11_shownOf 7 = .ok (.bipush (-2), 2) := by decide +kernel
theorem dX11_shownOf_9 : decode cX11_shownOf 9 = .ok (.istore 6, 2) := by decide +kernel
theorem dX11_shownOf_11 : decode cX11_shownOf 11 = .ok (.iconst 0, 1) := by decide +kernel
theorem dX11_shownOf_12 : decode cX11_shownOf 12 = .ok (.istore 7, 2) := by decide +kernel
theorem dX11_shownOf_14 : decode cX11_shownOf 14 = .ok (.iload 7, 2) := by decide +kernel
theorem dX11_shownOf_16 : decode cX11_shownOf 16 = .ok (.aload_n 0, 1) := by decide +kernel
theorem dX11_shownOf_17 : decode cX11_shownOf 17 = .ok (.getfield 123, 3) := by decide +kernel
theorem dX11_shownOf_20 : decode cX11_shownOf 20 = .ok (.if_icmp .ge 76, 3) := by decide +kernel
theorem dX11_shownOf_23 : decode cX11_shownOf 23 = .ok (.aload_n 0, 1) := by decide +kernel
theorem dX11_shownOf_24 : decode cX11_shownOf 24 = .ok (.iload_n 1, 1) := by decide +kernel
theorem dX11_shownOf_25 : decode cX11_shownOf 25 = .ok (.iload_n 2, 1) := by decide +kernel
theorem dX11_shownOf_26 : decode cX11_shownOf 26 = .ok (.aload_n 0, 1) := by decide +kernel
theorem dX11_shownOf_27 : decode cX11_shownOf 27 = .ok (.getfield 45, 3) := by decide +kernel
theorem dX11_shownOf_30 : decode cX11_shownOf 30 = .ok (.iload 7, 2) := by decide +kernel
theorem dX11_shownOf_32 : decode cX11_shownOf 32 = .ok (.iaload, 1) := by decide +kernel
theorem dX11_shownOf_33 : decode cX11_shownOf 33 = .ok (.invokevirtual 137, 3) := by decide +kernel
theorem dX11_shownOf_36 : decode cX11_shownOf 36 = .ok (.aload_n 0, 1) := by decide +kernel
theorem dX11_shownOf_37 : decode cX11_shownOf 37 = .ok (.getfield 48, 3) := by decide +kernel
theorem dX11_shownOf_40 : decode cX11_shownOf 40 = .ok (.iload 7, 2) := by decide +kernel
theorem dX11_shownOf_42 : decode cX11_shownOf 42 = .ok (.iaload, 1) := by decide +kernel
theorem dX11_shownOf_43 : decode cX11_shownOf 43 = .ok (.if_icmp .eq 6, 3) := by decide +kernel
theorem dX11_shownOf_46 : decode cX11_shownOf 46 = .ok (.goto 44, 3) := by decide +kernel
theorem dX11_shownOf_49 : decode cX11_shownOf 49 = .ok (.iload 4, 2) := by decide +kernel
theorem dX11_shownOf_51 : decode cX11_shownOf 51 = .ok (.iconst 1, 1) := by decide +kernel
theorem dX11_shownOf_52 : decode cX11_shownOf 52 = .ok (.iadd, 1) := by decide +kernel
theorem dX11_shownOf_53 : decode cX11_shownOf 53 = .ok (.istore 4, 2) := by decide +kernel
theorem dX11_shownOf_55 : decode cX11_shownOf 55 = .ok (.aload_n 0, 1) := by decide +kernel
theorem dX11_shownOf_56 : decode cX11_shownOf 56 = .ok (.getfield 45, 3) := by decide +kernel
theorem dX11_shownOf_59 : decode cX11_shownOf 59 = .ok (.iload 7, 2) := by decide +kernel
theorem dX11_shownOf_61 : decode cX11_shownOf 61 = .ok (.iaload, 1) := by decide +kernel
theorem dX11_shownOf_62 : decode cX11_shownOf 62 = .ok (.istore 5, 2) := by decide +kernel
theorem dX11_shownOf_64 : decode cX11_shownOf 64 = .ok (.aload_n 0, 1) := by decide +kernel
theorem dX11_shownOf_65 : decode cX11_shownOf 65 = .ok (.getfield 51, 3) := by decide +kernel
theorem dX11_shownOf_68 : decode cX11_shownOf 68 = .ok (.iload 7, 2) := by decide +kernel
theorem dX11_shownOf_70 : decode cX11_shownOf 70 = .ok (.iaload, 1) := by decide +kernel
theorem dX11_shownOf_71 : decode cX11_shownOf 71 = .ok (.iload 6, 2) := by decide +kernel
theorem dX11_shownOf_73 : decode cX11_shownOf 73 = .ok (.if_icmp .le 13, 3) := by decide +kernel
theorem dX11_shownOf_76 : decode cX11_shownOf 76 = .ok (.aload_n 0, 1) := by decide +kernel
theorem dX11_shownOf_77 : decode cX11_shownOf 77 = .ok (.getfield 51, 3) := by decide +kernel
theorem dX11_shownOf_80 : decode cX11_shownOf 80 = .ok (.iload 7, 2) := by decide +kernel
theorem dX11_shownOf_82 : decode cX11_shownOf 82 = .ok (.iaload, 1) := by decide +kernel
theorem dX11_shownOf_83 : decode cX11_shownOf 83 = .ok (.goto 5, 3) := by decide +kernel
theorem dX11_shownOf_86 : decode cX11_shownOf 86 = .ok (.iload 6, 2) := by decide +kernel
theorem dX11_shownOf_88 : decode cX11_shownOf 88 = .ok (.istore 6, 2) := by decide +kernel
theorem dX11_shownOf_90 : decode cX11_shownOf 90 = .ok (.iinc 7 1, 3) := by decide +kernel
theorem dX11_shownOf_93 : decode cX11_shownOf 93 = .ok (.goto (-79), 3) := by decide +kernel
theorem dX11_shownOf_96 : decode cX11_shownOf 96 = .ok (.iload_n 3, 1) := by decide +kernel
theorem dX11_shownOf_97 : decode cX11_shownOf 97 = .ok (.ifCond .ne 8, 3) := by decide +kernel
theorem dX11_shownOf_100 : decode cX11_shownOf 100 = .ok (.iload 4, 2) := by decide +kernel
theorem dX11_shownOf_102 : decode cX11_shownOf 102 = .ok (.goto 15, 3) := by decide +kernel
theorem dX11_shownOf_105 : decode cX11_shownOf 105 = .ok (.iload_n 3, 1) := by decide +kernel
theorem dX11_shownOf_106 : decode cX11_shownOf 106 = .ok (.iconst 1, 1) := by decide +kernel
theorem dX11_shownOf_107 : decode cX11_shownOf 107 = .ok (.if_icmp .ne 8, 3) := by decide +kernel
theorem dX11_shownOf_110 : decode cX11_shownOf 110 = .ok (.iload 5, 2) := by decide +kernel
theorem dX11_shownOf_112 : decode cX11_shownOf 112 = .ok (.goto 5, 3) := by decide +kernel
theorem dX11_shownOf_115 : decode cX11_shownOf 115 = .ok (.iload 6, 2) := by decide +kernel
theorem dX11_shownOf_117 : decode cX11_shownOf 117 = .ok (.ireturn, 1) := by decide +kernel
theorem gX11_shown_X11_isPlace : GoodIn wsX11_shown (va_wsS RX11 133 yX11_isPlace wsX11_isPlace) := gw_c t_w561 (gw_c t_w560 (gw_c t_w510 (gw_c t_w559 (gw_t))))
theorem gX11_shown_X11_in : GoodIn wsX11_shown (va_wsS RX11 72 yX11_in wsX11_in) := gw_c t_w519 (gw_c t_w518 (gw_c t_w510 (gw_c t_w517 (gw_t))))
theorem gX11_shown_X11_shownOf : GoodIn wsX11_shown (wsV RX11 417 RX11 yX11_shownOf wsX11_shownOf) := gw_c t_w757 (gw_c t_w756 (gw_c t_w755 (gw_c t_w510 (gw_c t_w754 (gw_t)))))
theorem dX11_shown_0 : decode cX11_shown 0 = .ok (.iload_n 1, 1) := by decide +kernel
theorem dX11_shown_1 : decode cX11_shown 1 = .ok (.iload_n 2, 1) := by decide +kernel
theorem dX11_shown_2 : decode cX11_shown 2 = .ok (.invokestatic 133, 3) := by decide +kernel
theorem dX11_shown_5 : decode cX11_shown 5 = .ok (.ifCond .eq 25, 3) := by decide +kernel
theorem dX11_shown_8 : decode cX11_shown 8 = .ok (.iload_n 3, 1) := by decide +kernel
theorem dX11_shown_9 : decode cX11_shown 9 = .ok (.i2l, 1) := by decide +kernel
theorem dX11_shown_10 : decode cX11_shown 10 = .ok (.lconst 0, 1) := by decide +kernel
theorem dX11_shown_11 : decode cX11_shown 11 = .ok (.ldc2_w 127, 3) := by decide +kernel
theorem dX11_shown_14 : decode cX11_shown 14 = .ok (.invokestatic 72, 3) := by decide +kernel
theorem dX11_shown_17 : decode cX11_shown 17 = .ok (.ifCond .eq 13, 3) := by decide +kernel
theorem dX11_shown_20 : decode cX11_shown 20 = .ok (.aload_n 0, 1) := by decide +kernel
theorem dX11_shown_21 : decode cX11_shown 21 = .ok (.iload_n 1, 1) := by decide +kernel
theorem dX11_shown_22 : decode cX11_shown 22 = .ok (.iload_n 2, 1) := by decide +kernel
theorem dX11_shown_23 : decode cX11_shown 23 = .ok (.iload_n 3, 1) := by decide +kernel
theorem dX11_shown_24 : decode cX11_shown 24 = .ok (.invokevirtual 417, 3) := by decide +kernel
theorem dX11_shown_27 : decode cX11_shown 27 = .ok (.goto 4, 3) := by decide +kernel
theorem dX11_shown_30 : decode cX11_shown 30 = .ok (.iconst (-1), 1) := by decide +kernel
theorem dX11_shown_31 : decode cX11_shown 31 = .ok (.ireturn, 1) := by decide +kernel
theorem gX11_isAnyYear_X11_in : GoodIn wsX11_isAnyYear (va_wsS RX11 72 yX11_in wsX11_in) := gw_c t_w519 (gw_c t_w518 (gw_c t_w510 (gw_c t_w517 (gw_t))))
theorem dX11_isAnyYear_0 : decode cX11_isAnyYear 0 = .ok (.iload_n 0, 1) := by decide +kernel
theorem dX11_isAnyYear_1 : decode cX11_isAnyYear 1 = .ok (.i2l, 1) := by decide +kernel
theorem dX11_isAnyYear_2 : decode cX11_isAnyYear 2 = .ok (.lconst 0, 1) := by decide +kernel
theorem dX11_isAnyYear_3 : decode cX11_isAnyYear 3 = .ok (.ldc2_w 403, 3) := by decide +kernel
theorem dX11_isAnyYear_6 : decode cX11_isAnyYear 6 = .ok (.invokestatic 72, 3) := by decide +kernel
theorem dX11_isAnyYear_9 : decode cX11_isAnyYear 9 = .ok (.ireturn, 1) := by decide +kernel
theorem gX11_isLacking_X11_middleOf : GoodIn wsX11_isLacking (wsV RX11 250 RX11 yX11_middleOf wsX11_middleOf) := gw_c t_w627 (gw_c t_w626 (gw_c t_w625 (gw_c t_w510 (gw_c t_w624 (gw_t)))))
theorem gX11_isLacking_X11_shownOf : GoodIn wsX11_isLacking (wsV RX11 417 RX11 yX11_shownOf wsX11_shownOf) := gw_c t_w757 (gw_c t_w756 (gw_c t_w755 (gw_c t_w510 (gw_c t_w754 (gw_t)))))
theorem dX11_isLacking_0 : decode cX11_isLacking 0 = .ok (.aload_n 0, 1) := by decide +kernel
theorem dX11_isLacking_1 : decode cX11_isLacking 1 = .ok (.aload_n 0, 1) := by decide +kernel
theorem dX11_isLacking_2 : decode cX11_isLacking 2 = .ok (.iload_n 1, 1) := by decide +kernel
theorem dX11_isLacking_3 : decode cX11_isLacking 3 = .ok (.iload_n 2, 1) := by decide +kernel
theorem dX11_isLacking_4 : decode cX11_isLacking 4 = .ok (.iconst 0, 1) := by decide +kernel
theorem dX11_isLacking_5 : decode cX11_isLacking 5 = .ok (.invokevirtual 250, 3) := by decide +kernel
theorem dX11_isLacking_8 : decode cX11_isLacking 8 = .ok (.aload_n 0, 1) := by decide +kernel
theorem dX11_isLacking_9 : decode cX11_isLacking 9 = .ok (.iload_n 1, 1) := by decide +kernel
theorem dX11_isLacking_10 : decode cX11_isLacking 10 = .ok (.iload_n 2, 1) := by decide +kernel
theorem dX11_isLacking_11 : decode cX11_isLacking 11 = .ok (.iconst 1, 1) := by decide +kernel
theorem dX11_isLacking_12 : decode cX11_isLacking 12 = .ok (.invokevirtual 250, 3) := by decide +kernel
theorem dX11_isLacking_15 : decode cX11_isLacking 15 = .ok (.iconst 2, 1) := by decide +kernel
theorem dX11_isLacking_16 : decode cX11_isLacking 16 = .ok (.invokevirtual 417, 3) := by decide +kernel
theorem dX11_isLacking_19 : decode cX11_isLacking 19 = .ok (.istore 4, 2) := by decide +kernel
theorem dX11_isLacking_21 : decode cX11_isLacking 21 = .ok (.iload 4, 2) := by decide +kernel
theorem dX11_isLacking_23 : decode cX11_isLacking 23 = .ok (.iload_n 3, 1) := by decide +kernel
theorem dX11_isLacking_24 : decode cX11_isLacking 24 = .ok (.if_icmp .lt 10, 3) := by decide +kernel
theorem dX11_isLacking_27 : decode cX11_isLacking 27 = .ok (.iload 4, 2) := by decide +kernel
theorem dX11_isLacking_29 : decode cX11_isLacking 29 = .ok (.bipush (-2), 2) := by decide +kernel
theorem dX11_isLacking_31 : decode cX11_isLacking 31 = .ok (.if_icmp .ne 7, 3) := by decide +kernel
theorem dX11_isLacking_34 : decode cX11_isLacking 34 = .ok (.iconst 1, 1) := by decide +kernel
theorem dX11_isLacking_35 : decode cX11_isLacking 35 = .ok (.goto 4, 3) := by decide +kernel
theorem dX11_isLacking_38 : decode cX11_isLacking 38 = .ok (.iconst 0, 1) := by decide +kernel
theorem dX11_isLacking_39 : decode cX11_isLacking 39 = .ok (.ireturn, 1) := by decide +kernel
theorem gX11_lacks_X11_isBox : GoodIn wsX11_lacks (wsV RX11 319 RX11 yX11_isBox wsX11_isBox) := gw_c t_w682 (gw_c t_w681 (gw_c t_w680 (gw_c t_w510 (gw_c t_w679 (gw_t)))))
theorem gX11_lacks_X11_isLevel : GoodIn wsX11_lacks (va_wsS RX11 84 yX11_isLevel wsX11_isLevel) := gw_c t_w522 (gw_c t_w521 (gw_c t_w510 (gw_c t_w520 (gw_t))))
theorem gX11_lacks_X11_isAnyYear : GoodIn wsX11_lacks (va_wsS RX11 420 yX11_isAnyYear wsX11_isAnyYear) := gw_c t_w760 (gw_c t_w759 (gw_c t_w510 (gw_c t_w758 (gw_t))))
theorem gX11_lacks_X11_laysBox : GoodIn wsX11_lacks (wsV RX11 323 RX11 yX11_laysBox wsX11_laysBox) := gw_c t_w686 (gw_c t_w685 (gw_c t_w684 (gw_c t_w510 (gw_c t_w683 (gw_t)))))
theorem gX11_lacks_X11_boxAll : GoodIn wsX11_lacks (wsV RX11 327 RX11 yX11_boxAll wsX11_boxAll) := gw_c t_w690 (gw_c t_w689 (gw_c t_w688 (gw_c t_w510 (gw_c t_w687 (gw_t)))))
theorem gX11_lacks_X11_boxMany : GoodIn wsX11_lacks (wsV RX11 313 RX11 yX11_boxMany wsX11_boxMany) := gw_c t_w674 (gw_c t_w673 (gw_c t_w672 (gw_c t_w510 (gw_c t_w671 (gw_t)))))
theorem gX11_lacks_X11_westOf : GoodIn wsX11_lacks (wsV RX11 316 RX11 yX11_westOf wsX11_westOf) := gw_c t_w678 (gw_c t_w677 (gw_c t_w676 (gw_c t_w510 (gw_c t_w675 (gw_t)))))
theorem gX11_lacks_X11_many : GoodIn wsX11_lacks (wsV RX11 115 RX11 yX11_many wsX11_many) := gw_c t_w554 (gw_c t_w553 (gw_c t_w552 (gw_c t_w510 (gw_c t_w551 (gw_t)))))
theorem gX11_lacks_X11_keyOf : GoodIn wsX11_lacks (wsV RX11 104 RX11 yX11_keyOf wsX11_keyOf) := gw_c t_w546 (gw_c t_w545 (gw_c t_w544 (gw_c t_w510 (gw_c t_w543 (gw_t)))))
theorem gX11_lacks_X11_isLacking : GoodIn wsX11_lacks (wsV RX11 423 RX11 yX11_isLacking wsX11_isLacking) := gw_c t_w764 (gw_c t_w763 (gw_c t_w762 (gw_c t_w510 (gw_c t_w761 (gw_t)))))
theorem dX11_lacks_0 : decode cX11_lacks 0 = .ok (.aload_n 0, 1) := by decide +kernel
theorem dX11_lacks_1 : decode cX11_lacks 1 = .ok (.iload_n 1, 1) := by decide +kernel
theorem dX11_lacks_2 : decode cX11_lacks 2 = .ok (.iload_n 2, 1) := by decide +kernel
theorem dX11_lacks_3 : decode cX11_lacks 3 = .ok (.iload_n 3, 1) := by decide +kernel
theorem dX11_lacks_4 : decode cX11_lacks 4 = .ok (.iload 4, 2) := by decide +kernel
theorem dX11_lacks_6 : decode cX11_lacks 6 = .ok (.invokevirtual 319, 3) := by decide +kernel
theorem dX11_lacks_9 : decode cX11_lacks 9 = .ok (.ifCond .eq 25, 3) := by decide +kernel
theorem dX11_lacks_12 : decode cX11_lacks 12 = .ok (.iload 5, 2) := by decide +kernel
theorem dX11_lacks_14 : decode cX11_lacks 14 = .ok (.invokestatic 84, 3) := by decide +kernel
theorem dX11_lacks_17 : decode cX11_lacks 17 = .ok (.ifCond .eq 17, 3) := by decide +kernel
theorem dX11_lacks_20 : decode cX11_lacks 20 = .ok (.iload 6, 2) := by decide +kernel
theorem dX11_lacks_22 : decode cX11_lacks 22 = .ok (.invokestatic 420, 3) := by decide +kernel
theorem dX11_lacks_25 : decode cX11_lacks 25 = .ok (.ifCond .eq 9, 3) := by decide +kernel
theorem dX11_lacks_28 : decode cX11_lacks 28 = .ok (.iload 7, 2) := by decide +kernel
theorem dX11_lacks_30 : decode cX11_lacks 30 = .ok (.iconst (-1), 1) := by decide +kernel
theorem dX11_lacks_31 : decode cX11_lacks 31 = .ok (.if_icmp .ge 5, 3) := by decide +kernel
theorem dX11_lacks_34 : decode cX11_lacks 34 = .ok (.iconst (-1), 1) := by decide +kernel
theorem dX11_lacks_35 : decode cX11_lacks 35 = .ok (.ireturn, 1) := by decide +kernel
theorem dX11_lacks_36 : decode cX11_lacks 36 = .ok (.aload_n 0, 1) := by decide +kernel
theorem dX11_lacks_37 : decode cX11_lacks 37 = .ok (.iload_n 1, 1) := by decide +kernel
theorem dX11_lacks_38 : decode cX11_lacks 38 = .ok (.iload_n 2, 1) := by decide +kernel
theorem dX11_lacks_39 : decode cX11_lacks 39 = .ok (.iload_n 3, 1) := by decide +kernel
theorem dX11_lacks_40 : decode cX11_lacks 40 = .ok (.iload 4, 2) := by decide +kernel
theorem dX11_lacks_42 : decode cX11_lacks 42 = .ok (.iload 5, 2) := by decide +kernel
theorem dX11_lacks_44 : decode cX11_lacks 44 = .ok (.invokevirtual 323, 3) := by decide +kernel
theorem dX11_lacks_47 : decode cX11_lacks 47 = .ok (.aload_n 0, 1) := by decide +kernel
theorem dX11_lacks_48 : decode cX11_lacks 48 = .ok (.invokevirtual 327, 3) := by decide +kernel
theorem dX11_lacks_51 : decode cX11_lacks 51 = .ok (.sipush 4000, 3) := by decide +kernel
theorem dX11_lacks_54 : decode cX11_lacks 54 = .ok (.if_icmp .le 6, 3) := by decide +kernel
theorem dX11_lacks_57 : decode cX11_lacks 57 = .ok (.bipush (-2), 2) := by decide +kernel
theorem dX11_lacks_59 : decode cX11_lacks 59 = .ok (.ireturn, 1) := by decide +kernel
theorem dX11_lacks_60 : decode cX11_lacks 60 = .ok (.iconst 0, 1) := by decide +kernel
theorem dX11_lacks_61 : decode cX11_lacks 61 = .ok (.istore 8, 2) := by decide +kernel
theorem dX11_lacks_63 : decode cX11_lacks 63 = .ok (.aload_n 0, 1) := by decide +kernel
theorem dX11_lacks_64 : decode cX11_lacks 64 = .ok (.getfield 301, 3) := by decide +kernel
theorem dX11_lacks_67 : decode cX11_lacks 67 = .ok (.istore 9, 2) := by decide +kernel
theorem dX11_lacks_69 : decode cX11_lacks 69 = .ok (.iload 9, 2) := by decide +kernel
theorem dX11_lacks_71 : decode cX11_lacks 71 = .ok (.aload_n 0, 1) := by decide +kernel
theorem dX11_lacks_72 : decode cX11_lacks 72 = .ok (.getfield 304, 3) := by decide +kernel
theorem dX11_lacks_75 : decode cX11_lacks 75 = .ok (.if_icmp .gt 89, 3) := by decide +kernel
theorem dX11_lacks_78 : decode cX11_lacks 78 = .ok (.iconst 0, 1) := by decide +kernel
theorem dX11_lacks_79 : decode cX11_lacks 79 = .ok (.istore 10, 2) := by decide +kernel
theorem dX11_lacks_81 : decode cX11_lacks 81 = .ok (.iload 10, 2) := by decide +kernel
theorem dX11_lacks_83 : decode cX11_lacks 83 = .ok (.aload_n 0, 1) := by decide +kernel
theorem dX11_lacks_84 : decode cX11_lacks 84 = .ok (.iload 9, 2) := by decide +kernel
theorem dX11_lacks_86 : decode cX11_lacks 86 = .ok (.invokevirtual 313, 3) := by decide +kernel
theorem dX11_lacks_89 : decode cX11_lacks 89 = .ok (.if_icmp .ge 69, 3) := by decide +kernel
theorem dX11_lacks_92 : decode cX11_lacks 92 = .ok (.aload_n 0, 1) := by decide +kernel
theorem dX11_lacks_93 : decode cX11_lacks 93 = .ok (.iload 5, 2) := by decide +kernel
theorem dX11_lacks_95 : decode cX11_lacks 95 = .ok (.iload 9, 2) := by decide +kernel
theorem dX11_lacks_97 : decode cX11_lacks 97 = .ok (.aload_n 0, 1) := by decide +kernel
theorem dX11_lacks_98 : decode cX11_lacks 98 = .ok (.iload 9, 2) := by decide +kernel
theorem dX11_lacks_100 : decode cX11_lacks 100 = .ok (.invokevirtual 316, 3) := by decide +kernel
theorem dX11_lacks_103 : decode cX11_lacks 103 = .ok (.iload 10, 2) := by decide +kernel
theorem dX11_lacks_105 : decode cX11_lacks 105 = .ok (.iadd, 1) := by decide +kernel
theorem dX11_lacks_106 : decode cX11_lacks 106 = .ok (.aload_n 0, 1) := by decide +kernel
theorem dX11_lacks_107 : decode cX11_lacks 107 = .ok (.iload 5, 2) := by decide +kernel
theorem dX11_lacks_109 : decode cX11_lacks 109 = .ok (.iload 9, 2) := by decide +kernel
theorem dX11_lacks_111 : decode cX11_lacks 111 = .ok (.invokevirtual 115, 3) := by decide +kernel
theorem dX11_lacks_114 : decode cX11_lacks 114 = .ok (.irem, 1) := by decide +kernel
theorem dX11_lacks_115 : decode cX11_lacks 115 = .ok (.invokevirtual 104, 3) := by decide +kernel
theorem dX11_lacks_118 : decode cX11_lacks 118 = .ok (.istore 11, 2) := by decide +kernel
