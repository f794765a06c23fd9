theorem dX11_boxAll_1 : decode cX11_boxAll 1 = .ok (.istore_n 1, 1) := by decide +kernel
theorem dX11_boxAll_2 : decode cX11_boxAll 2 = .ok (.aload_n 0, 1) := by decide +kernel
theorem dX11_boxAll_3 : decode cX11_boxAll 3 = .ok (.getfield 301, 3) := by decide +kernel
theorem dX11_boxAll_6 : decode cX11_boxAll 6 = .ok (.istore_n 2, 1) := by decide +kernel
theorem dX11_boxAll_7 : decode cX11_boxAll 7 = .ok (.iload_n 2, 1) := by decide +kernel
theorem dX11_boxAll_8 : decode cX11_boxAll 8 = .ok (.aload_n 0, 1) := by decide +kernel
theorem dX11_boxAll_9 : decode cX11_boxAll 9 = .ok (.getfield 304, 3) := by decide +kernel
theorem dX11_boxAll_12 : decode cX11_boxAll 12 = .ok (.if_icmp .gt 83, 3) := by decide +kernel
theorem dX11_boxAll_15 : decode cX11_boxAll 15 = .ok (.iload_n 2, 1) := by decide +kernel
theorem dX11_boxAll_16 : decode cX11_boxAll 16 = .ok (.ifCond .eq 15, 3) := by decide +kernel
theorem dX11_boxAll_19 : decode cX11_boxAll 19 = .ok (.iload_n 2, 1) := by decide +kernel
theorem dX11_boxAll_20 : decode cX11_boxAll 20 = .ok (.aload_n 0, 1) := by decide +kernel
theorem dX11_boxAll_21 : decode cX11_boxAll 21 = .ok (.aload_n 0, 1) := by decide +kernel
theorem dX11_boxAll_22 : decode cX11_boxAll 22 = .ok (.getfield 298, 3) := by decide +kernel
theorem dX11_boxAll_25 : decode cX11_boxAll 25 = .ok (.invokevirtual 94, 3) := by decide +kernel
theorem dX11_boxAll_28 : decode cX11_boxAll 28 = .ok (.if_icmp .ne 7, 3) := by decide +kernel
theorem dX11_boxAll_31 : decode cX11_boxAll 31 = .ok (.iload_n 2, 1) := by decide +kernel
theorem dX11_boxAll_32 : decode cX11_boxAll 32 = .ok (.goto 24, 3) := by decide +kernel
theorem dX11_boxAll_35 : decode cX11_boxAll 35 = .ok (.aload_n 0, 1) := by decide +kernel
theorem dX11_boxAll_36 : decode cX11_boxAll 36 = .ok (.aload_n 0, 1) := by decide +kernel
theorem dX11_boxAll_37 : decode cX11_boxAll 37 = .ok (.getfield 298, 3) := by decide +kernel
theorem dX11_boxAll_40 : decode cX11_boxAll 40 = .ok (.iload_n 2, 1) := by decide +kernel
theorem dX11_boxAll_41 : decode cX11_boxAll 41 = .ok (.invokevirtual 97, 3) := by decide +kernel
theorem dX11_boxAll_44 : decode cX11_boxAll 44 = .ok (.iconst 1, 1) := by decide +kernel
theorem dX11_boxAll_45 : decode cX11_boxAll 45 = .ok (.iadd, 1) := by decide +kernel
theorem dX11_boxAll_46 : decode cX11_boxAll 46 = .ok (.aload_n 0, 1) := by decide +kernel
theorem dX11_boxAll_47 : decode cX11_boxAll 47 = .ok (.getfield 16, 3) := by decide +kernel
theorem dX11_boxAll_50 : decode cX11_boxAll 50 = .ok (.aload_n 0, 1) := by decide +kernel
theorem dX11_boxAll_51 : decode cX11_boxAll 51 = .ok (.getfield 298, 3) := by decide +kernel
theorem dX11_boxAll_54 : decode cX11_boxAll 54 = .ok (.iaload, 1) := by decide +kernel
theorem dX11_boxAll_55 : decode cX11_boxAll 55 = .ok (.imul, 1) := by decide +kernel
theorem dX11_boxAll_56 : decode cX11_boxAll 56 = .ok (.istore_n 3, 1) := by decide +kernel
theorem dX11_boxAll_57 : decode cX11_boxAll 57 = .ok (.iload_n 3, 1) := by decide +kernel
theorem dX11_boxAll_58 : decode cX11_boxAll 58 = .ok (.aload_n 0, 1) := by decide +kernel
theorem dX11_boxAll_59 : decode cX11_boxAll 59 = .ok (.getfield 304, 3) := by decide +kernel
theorem dX11_boxAll_62 : decode cX11_boxAll 62 = .ok (.if_icmp .ge 7, 3) := by decide +kernel
theorem dX11_boxAll_65 : decode cX11_boxAll 65 = .ok (.iload_n 3, 1) := by decide +kernel
theorem dX11_boxAll_66 : decode cX11_boxAll 66 = .ok (.goto 7, 3) := by decide +kernel
theorem dX11_boxAll_69 : decode cX11_boxAll 69 = .ok (.aload_n 0, 1) := by decide +kernel
theorem dX11_boxAll_70 : decode cX11_boxAll 70 = .ok (.getfield 304, 3) := by decide +kernel
theorem dX11_boxAll_73 : decode cX11_boxAll 73 = .ok (.istore_n 3, 1) := by decide +kernel
theorem dX11_boxAll_74 : decode cX11_boxAll 74 = .ok (.iload_n 1, 1) := by decide +kernel
theorem dX11_boxAll_75 : decode cX11_boxAll 75 = .ok (.iload_n 3, 1) := by decide +kernel
theorem dX11_boxAll_76 : decode cX11_boxAll 76 = .ok (.iload_n 2, 1) := by decide +kernel
theorem dX11_boxAll_77 : decode cX11_boxAll 77 = .ok (.isub, 1) := by decide +kernel
theorem dX11_boxAll_78 : decode cX11_boxAll 78 = .ok (.iconst 1, 1) := by decide +kernel
theorem dX11_boxAll_79 : decode cX11_boxAll 79 = .ok (.iadd, 1) := by decide +kernel
theorem dX11_boxAll_80 : decode cX11_boxAll 80 = .ok (.aload_n 0, 1) := by decide +kernel
theorem dX11_boxAll_81 : decode cX11_boxAll 81 = .ok (.iload_n 2, 1) := by decide +kernel
theorem dX11_boxAll_82 : decode cX11_boxAll 82 = .ok (.invokevirtual 313, 3) := by decide +kernel
theorem dX11_boxAll_85 : decode cX11_boxAll 85 = .ok (.imul, 1) := by decide +kernel
theorem dX11_boxAll_86 : decode cX11_boxAll 86 = .ok (.iadd, 1) := by decide +kernel
theorem dX11_boxAll_87 : decode cX11_boxAll 87 = .ok (.istore_n 1, 1) := by decide +kernel
theorem dX11_boxAll_88 : decode cX11_boxAll 88 = .ok (.iload_n 3, 1) := by decide +kernel
theorem dX11_boxAll_89 : decode cX11_boxAll 89 = .ok (.iconst 1, 1) := by decide +kernel
theorem dX11_boxAll_90 : decode cX11_boxAll 90 = .ok (.iadd, 1) := by decide +kernel
theorem dX11_boxAll_91 : decode cX11_boxAll 91 = .ok (.istore_n 2, 1) := by decide +kernel
theorem dX11_boxAll_92 : decode cX11_boxAll 92 = .ok (.goto (-85), 3) := by decide +kernel
theorem dX11_boxAll_95 : decode cX11_boxAll 95 = .ok (.iload_n 1, 1) := by decide +kernel
theorem dX11_boxAll_96 : decode cX11_boxAll 96 = .ok (.ireturn, 1) := by decide +kernel
theorem gX11_boxKey_X11_boxMany : GoodIn wsX11_boxKey (wsV RX11 313 RX11 yX11_boxMany wsX11_boxMany) := gw_c t_w674 (gw_c t_w673 (gw_c t_w672 (gw_c t_w510 (gw_c t_w671 (gw_t)))))
theorem gX11_boxKey_X11_westOf : GoodIn wsX11_boxKey (wsV RX11 316 RX11 yX11_westOf wsX11_westOf) := gw_c t_w678 (gw_c t_w677 (gw_c t_w676 (gw_c t_w510 (gw_c t_w675 (gw_t)))))
theorem gX11_boxKey_X11_many : GoodIn wsX11_boxKey (wsV RX11 115 RX11 yX11_many wsX11_many) := gw_c t_w554 (gw_c t_w553 (gw_c t_w552 (gw_c t_w510 (gw_c t_w551 (gw_t)))))
theorem gX11_boxKey_X11_keyOf : GoodIn wsX11_boxKey (wsV RX11 104 RX11 yX11_keyOf wsX11_keyOf) := gw_c t_w546 (gw_c t_w545 (gw_c t_w544 (gw_c t_w510 (gw_c t_w543 (gw_t)))))
theorem dX11_boxKey_0 : decode cX11_boxKey 0 = .ok (.iload_n 1, 1) := by decide +kernel
theorem dX11_boxKey_1 : decode cX11_boxKey 1 = .ok (.istore_n 2, 1) := by decide +kernel
theorem dX11_boxKey_2 : decode cX11_boxKey 2 = .ok (.aload_n 0, 1) := by decide +kernel
theorem dX11_boxKey_3 : decode cX11_boxKey 3 = .ok (.getfield 301, 3) := by decide +kernel
theorem dX11_boxKey_6 : decode cX11_boxKey 6 = .ok (.istore_n 3, 1) := by decide +kernel
theorem dX11_boxKey_7 : decode cX11_boxKey 7 = .ok (.iload_n 3, 1) := by decide +kernel
theorem dX11_boxKey_8 : decode cX11_boxKey 8 = .ok (.aload_n 0, 1) := by decide +kernel
theorem dX11_boxKey_9 : decode cX11_boxKey 9 = .ok (.getfield 304, 3) := by decide +kernel
theorem dX11_boxKey_12 : decode cX11_boxKey 12 = .ok (.if_icmp .gt 54, 3) := by decide +kernel
theorem dX11_boxKey_15 : decode cX11_boxKey 15 = .ok (.aload_n 0, 1) := by decide +kernel
theorem dX11_boxKey_16 : decode cX11_boxKey 16 = .ok (.iload_n 3, 1) := by decide +kernel
theorem dX11_boxKey_17 : decode cX11_boxKey 17 = .ok (.invokevirtual 313, 3) := by decide +kernel
theorem dX11_boxKey_20 : decode cX11_boxKey 20 = .ok (.istore 4, 2) := by decide +kernel
theorem dX11_boxKey_22 : decode cX11_boxKey 22 = .ok (.iload_n 2, 1) := by decide +kernel
theorem dX11_boxKey_23 : decode cX11_boxKey 23 = .ok (.iload 4, 2) := by decide +kernel
theorem dX11_boxKey_25 : decode cX11_boxKey 25 = .ok (.if_icmp .ge 30, 3) := by decide +kernel
theorem dX11_boxKey_28 : decode cX11_boxKey 28 = .ok (.aload_n 0, 1) := by decide +kernel
theorem dX11_boxKey_29 : decode cX11_boxKey 29 = .ok (.aload_n 0, 1) := by decide +kernel
theorem dX11_boxKey_30 : decode cX11_boxKey 30 = .ok (.getfield 298, 3) := by decide +kernel
theorem dX11_boxKey_33 : decode cX11_boxKey 33 = .ok (.iload_n 3, 1) := by decide +kernel
theorem dX11_boxKey_34 : decode cX11_boxKey 34 = .ok (.aload_n 0, 1) := by decide +kernel
theorem dX11_boxKey_35 : decode cX11_boxKey 35 = .ok (.iload_n 3, 1) := by decide +kernel
theorem dX11_boxKey_36 : decode cX11_boxKey 36 = .ok (.invokevirtual 316, 3) := by decide +kernel
theorem dX11_boxKey_39 : decode cX11_boxKey 39 = .ok (.iload_n 2, 1) := by decide +kernel
theorem dX11_boxKey_40 : decode cX11_boxKey 40 = .ok (.iadd, 1) := by decide +kernel
theorem dX11_boxKey_41 : decode cX11_boxKey 41 = .ok (.aload_n 0, 1) := by decide +kernel
theorem dX11_boxKey_42 : decode cX11_boxKey 42 = .ok (.aload_n 0, 1) := by decide +kernel
theorem dX11_boxKey_43 : decode cX11_boxKey 43 = .ok (.getfield 298, 3) := by decide +kernel
theorem dX11_boxKey_46 : decode cX11_boxKey 46 = .ok (.iload_n 3, 1) := by decide +kernel
theorem dX11_boxKey_47 : decode cX11_boxKey 47 = .ok (.invokevirtual 115, 3) := by decide +kernel
theorem dX11_boxKey_50 : decode cX11_boxKey 50 = .ok (.irem, 1) := by decide +kernel
theorem dX11_boxKey_51 : decode cX11_boxKey 51 = .ok (.invokevirtual 104, 3) := by decide +kernel
theorem dX11_boxKey_54 : decode cX11_boxKey 54 = .ok (.ireturn, 1) := by decide +kernel
theorem dX11_boxKey_55 : decode cX11_boxKey 55 = .ok (.iload_n 2, 1) := by decide +kernel
theorem dX11_boxKey_56 : decode cX11_boxKey 56 = .ok (.iload 4, 2) := by decide +kernel
theorem dX11_boxKey_58 : decode cX11_boxKey 58 = .ok (.isub, 1) := by decide +kernel
theorem dX11_boxKey_59 : decode cX11_boxKey 59 = .ok (.istore_n 2, 1) := by decide +kernel
theorem dX11_boxKey_60 : decode cX11_boxKey 60 = .ok (.iinc 3 1, 3) := by decide +kernel
theorem dX11_boxKey_63 : decode cX11_boxKey 63 = .ok (.goto (-56), 3) := by decide +kernel
theorem dX11_boxKey_66 : decode cX11_boxKey 66 = .ok (.iconst (-1), 1) := by decide +kernel
theorem dX11_boxKey_67 : decode cX11_boxKey 67 = .ok (.ireturn, 1) := by decide +kernel
theorem gX11_box_X11_isBox : GoodIn wsX11_box (wsV RX11 319 RX11 yX11_isBox wsX11_isBox) := gw_c t_w682 (gw_c t_w681 (gw_c t_w680 (gw_c t_w510 (gw_c t_w679 (gw_t)))))
theorem gX11_box_X11_isLevel : GoodIn wsX11_box (va_wsS RX11 84 yX11_isLevel wsX11_isLevel) := gw_c t_w522 (gw_c t_w521 (gw_c t_w510 (gw_c t_w520 (gw_t))))
theorem gX11_box_X11_laysBox : GoodIn wsX11_box (wsV RX11 323 RX11 yX11_laysBox wsX11_laysBox) := gw_c t_w686 (gw_c t_w685 (gw_c t_w684 (gw_c t_w510 (gw_c t_w683 (gw_t)))))
theorem gX11_box_X11_boxAll : GoodIn wsX11_box (wsV RX11 327 RX11 yX11_boxAll wsX11_boxAll) := gw_c t_w690 (gw_c t_w689 (gw_c t_w688 (gw_c t_w510 (gw_c t_w687 (gw_t)))))
theorem gX11_box_X11_boxKey : GoodIn wsX11_box (wsV RX11 331 RX11 yX11_boxKey wsX11_boxKey) := gw_c t_w694 (gw_c t_w693 (gw_c t_w692 (gw_c t_w510 (gw_c t_w691 (gw_t)))))
theorem dX11_box_0 : decode cX11_box 0 = .ok (.aload_n 0, 1) := by decide +kernel
theorem dX11_box_1 : decode cX11_box 1 = .ok (.iload_n 1, 1) := by decide +kernel
theorem dX11_box_2 : decode cX11_box 2 = .ok (.iload_n 2, 1) := by decide +kernel
theorem dX11_box_3 : decode cX11_box 3 = .ok (.iload_n 3, 1) := by decide +kernel
theorem dX11_box_4 : decode cX11_box 4 = .ok (.iload 4, 2) := by decide +kernel
theorem dX11_box_6 : decode cX11_box 6 = .ok (.invokevirtual 319, 3) := by decide +kernel
theorem dX11_box_9 : decode cX11_box 9 = .ok (.ifCond .eq 17, 3) := by decide +kernel
theorem dX11_box_12 : decode cX11_box 12 = .ok (.iload 5, 2) := by decide +kernel
theorem dX11_box_14 : decode cX11_box 14 = .ok (.invokestatic 84, 3) := by decide +kernel
theorem dX11_box_17 : decode cX11_box 17 = .ok (.ifCond .eq 9, 3) := by decide +kernel
theorem dX11_box_20 : decode cX11_box 20 = .ok (.iload 6, 2) := by decide +kernel
theorem dX11_box_22 : decode cX11_box 22 = .ok (.iconst (-1), 1) := by decide +kernel
theorem dX11_box_23 : decode cX11_box 23 = .ok (.if_icmp .ge 5, 3) := by decide +kernel
theorem dX11_box_26 : decode cX11_box 26 = .ok (.iconst (-1), 1) := by decide +kernel
theorem dX11_box_27 : decode cX11_box 27 = .ok (.ireturn, 1) := by decide +kernel
theorem dX11_box_28 : decode cX11_box 28 = .ok (.aload_n 0, 1) := by decide +kernel
theorem dX11_box_29 : decode cX11_box 29 = .ok (.iload_n 1, 1) := by decide +kernel
theorem dX11_box_30 : decode cX11_box 30 = .ok (.iload_n 2, 1) := by decide +kernel
theorem dX11_box_31 : decode cX11_box 31 = .ok (.iload_n 3, 1) := by decide +kernel
theorem dX11_box_32 : decode cX11_box 32 = .ok (.iload 4, 2) := by decide +kernel
theorem dX11_box_34 : decode cX11_box 34 = .ok (.iload 5, 2) := by decide +kernel
theorem dX11_box_36 : decode cX11_box 36 = .ok (.invokevirtual 323, 3) := by decide +kernel
theorem dX11_box_39 : decode cX11_box 39 = .ok (.aload_n 0, 1) := by decide +kernel
theorem dX11_box_40 : decode cX11_box 40 = .ok (.invokevirtual 327, 3) := by decide +kernel
theorem dX11_box_43 : decode cX11_box 43 = .ok (.istore 7, 2) := by decide +kernel
theorem dX11_box_45 : decode cX11_box 45 = .ok (.iload 6, 2) := by decide +kernel
theorem dX11_box_47 : decode cX11_box 47 = .ok (.iconst (-1), 1) := by decide +kernel
theorem dX11_box_48 : decode cX11_box 48 = .ok (.if_icmp .ne 8, 3) := by decide +kernel
theorem dX11_box_51 : decode cX11_box 51 = .ok (.iload 7, 2) := by decide +kernel
theorem dX11_box_53 : decode cX11_box 53 = .ok (.goto 21, 3) := by decide +kernel
theorem dX11_box_56 : decode cX11_box 56 = .ok (.iload 6, 2) := by decide +kernel
theorem dX11_box_58 : decode cX11_box 58 = .ok (.iload 7, 2) := by decide +kernel
theorem dX11_box_60 : decode cX11_box 60 = .ok (.if_icmp .ge 12, 3) := by decide +kernel
theorem dX11_box_63 : decode cX11_box 63 = .ok (.aload_n 0, 1) := by decide +kernel
theorem dX11_box_64 : decode cX11_box 64 = .ok (.iload 6, 2) := by decide +kernel
theorem dX11_box_66 : decode cX11_box 66 = .ok (.invokevirtual 331, 3) := by decide +kernel
theorem dX11_box_69 : decode cX11_box 69 = .ok (.goto 5, 3) := by decide +kernel
theorem dX11_box_72 : decode cX11_box 72 = .ok (.bipush (-2), 2) := by decide +kernel
theorem dX11_box_74 : decode cX11_box 74 = .ok (.ireturn, 1) := by decide +kernel
theorem gX11_isWhole_X11_lastRow : GoodIn wsX11_isWhole (wsV RX11 94 RX11 yX11_lastRow wsX11_lastRow) := gw_c t_w534 (gw_c t_w533 (gw_c t_w532 (gw_c t_w510 (gw_c t_w531 (gw_t)))))
theorem gX11_isWhole_X11_many : GoodIn wsX11_isWhole (wsV RX11 115 RX11 yX11_many wsX11_many) := gw_c t_w554 (gw_c t_w553 (gw_c t_w552 (gw_c t_w510 (gw_c t_w551 (gw_t)))))
theorem gX11_isWhole_X11_boxMany : GoodIn wsX11_isWhole (wsV RX11 313 RX11 yX11_boxMany wsX11_boxMany) := gw_c t_w674 (gw_c t_w673 (gw_c t_w672 (gw_c t_w510 (gw_c t_w671 (gw_t)))))
theorem gX11_isWhole_X11_westOf : GoodIn wsX11_isWhole (wsV RX11 316 RX11 yX11_westOf wsX11_westOf) := gw_c t_w678 (gw_c t_w677 (gw_c t_w676 (gw_c t_w510 (gw_c t_w675 (gw_t)))))
theorem dX11_isWhole_0 : decode cX11_isWhole 0 = .ok (.aload_n 0, 1) := by decide +kernel
theorem dX11_isWhole_1 : decode cX11_isWhole 1 = .ok (.getfield 298, 3) := by decide +kernel
theorem dX11_isWhole_4 : decode cX11_isWhole 4 = .ok (.istore 4, 2) := by decide +kernel
theorem dX11_isWhole_6 : decode cX11_isWhole 6 = .ok (.iload_n 2, 1) := by decide +kernel
theorem dX11_isWhole_7 : decode cX11_isWhole 7 = .ok (.ifCond .ne 16, 3) := by decide +kernel
theorem dX11_isWhole_10 : decode cX11_isWhole 10 = .ok (.aload_n 0, 1) := by decide +kernel
theorem dX11_isWhole_11 : decode cX11_isWhole 11 = .ok (.getfield 301, 3) := by decide +kernel
theorem dX11_isWhole_14 : decode cX11_isWhole 14 = .ok (.ifCond .ne 7, 3) := by decide +kernel
theorem dX11_isWhole_17 : decode cX11_isWhole 17 = .ok (.iconst 1, 1) := by decide +kernel
theorem dX11_isWhole_18 : decode cX11_isWhole 18 = .ok (.goto 4, 3) := by decide +kernel
theorem dX11_isWhole_21 : decode cX11_isWhole 21 = .ok (.iconst 0, 1) := by decide +kernel
theorem dX11_isWhole_22 : decode cX11_isWhole 22 = .ok (.ireturn, 1) := by decide +kernel
theorem dX11_isWhole_23 : decode cX11_isWhole 23 = .ok (.iload_n 2, 1) := by decide +kernel
theorem dX11_isWhole_24 : decode cX11_isWhole 24 = .ok (.aload_n 0, 1) := by decide +kernel
theorem dX11_isWhole_25 : decode cX11_isWhole 25 = .ok (.iload_n 1, 1) := by decide +kernel
theorem dX11_isWhole_26 : decode cX11_isWhole 26 = .ok (.invokevirtual 94, 3) := by decide +kernel
theorem dX11_isWhole_29 : decode cX11_isWhole 29 = .ok (.if_icmp .ne 22, 3) := by decide +kernel
theorem dX11_isWhole_32 : decode cX11_isWhole 32 = .ok (.aload_n 0, 1) := by decide +kernel
theorem dX11_isWhole_33 : decode cX11_isWhole 33 = .ok (.getfield 304, 3) := by decide +kernel
theorem dX11_isWhole_36 : decode cX11_isWhole 36 = .ok (.aload_n 0, 1) := by decide +kernel
theorem dX11_isWhole_37 : decode cX11_isWhole 37 = .ok (.iload 4, 2) := by decide +kernel
theorem dX11_isWhole_39 : decode cX11_isWhole 39 = .ok (.invokevirtual 94, 3) := by decide +kernel
theorem dX11_isWhole_42 : decode cX11_isWhole 42 = .ok (.if_icmp .ne 7, 3) := by decide +kernel
theorem dX11_isWhole_45 : decode cX11_isWhole 45 = .ok (.iconst 1, 1) := by decide +kernel
theorem dX11_isWhole_46 : decode cX11_isWhole 46 = .ok (.goto 4, 3) := by decide +kernel
theorem dX11_isWhole_49 : decode cX11_isWhole 49 = .ok (.iconst 0, 1) := by decide +kernel
theorem dX11_isWhole_50 : decode cX11_isWhole 50 = .ok (.ireturn, 1) := by decide +kernel
theorem dX11_isWhole_51 : decode cX11_isWhole 51 = .ok (.aload_n 0, 1) := by decide +kernel
theorem dX11_isWhole_52 : decode cX11_isWhole 52 = .ok (.getfield 16, 3) := by decide +kernel
theorem dX11_isWhole_55 : decode cX11_isWhole 55 = .ok (.iload 4, 2) := by decide +kernel
theorem dX11_isWhole_57 : decode cX11_isWhole 57 = .ok (.iaload, 1) := by decide +kernel
theorem dX11_isWhole_58 : decode cX11_isWhole 58 = .ok (.aload_n 0, 1) := by decide +kernel
theorem dX11_isWhole_59 : decode cX11_isWhole 59 = .ok (.getfield 16, 3) := by decide +kernel
theorem dX11_isWhole_62 : decode cX11_isWhole 62 = .ok (.iload_n 1, 1) := by decide +kernel
theorem dX11_isWhole_63 : decode cX11_isWhole 63 = .ok (.iaload, 1) := by decide +kernel
theorem dX11_isWhole_64 : decode cX11_isWhole 64 = .ok (.idiv, 1) := by decide +kernel
theorem dX11_isWhole_65 : decode cX11_isWhole 65 = .ok (.istore 5, 2) := by decide +kernel
theorem dX11_isWhole_67 : decode cX11_isWhole 67 = .ok (.aload_n 0, 1) := by decide +kernel
theorem dX11_isWhole_68 : decode cX11_isWhole 68 = .ok (.getfield 19, 3) := by decide +kernel
theorem dX11_isWhole_71 : decode cX11_isWhole 71 = .ok (.iload 4, 2) := by decide +kernel
theorem dX11_isWhole_73 : decode cX11_isWhole 73 = .ok (.iaload, 1) := by decide +kernel
theorem dX11_isWhole_74 : decode cX11_isWhole 74 = .ok (.aload_n 0, 1) := by decide +kernel
theorem dX11_isWhole_75 : decode cX11_isWhole 75 = .ok (.getfield 19, 3) := by decide +kernel
theorem dX11_isWhole_78 : decode cX11_isWhole 78 = .ok (.iload_n 1, 1) := by decide +kernel
theorem dX11_isWhole_79 : decode cX11_isWhole 79 = .ok (.iaload, 1) := by decide +kernel
theorem dX11_isWhole_80 : decode cX11_isWhole 80 = .ok (.idiv, 1) := by decide +kernel
theorem dX11_isWhole_81 : decode cX11_isWhole 81 = .ok (.istore 6, 2) := by decide +kernel
theorem dX11_isWhole_83 : decode cX11_isWhole 83 = .ok (.iconst 1, 1) := by decide +kernel
theorem dX11_isWhole_84 : decode cX11_isWhole 84 = .ok (.iload_n 2, 1) := by decide +kernel
theorem dX11_isWhole_85 : decode cX11_isWhole 85 = .ok (.iconst 1, 1) := by decide +kernel
theorem dX11_isWhole_86 : decode cX11_isWhole 86 = .ok (.isub, 1) := by decide +kernel
theorem dX11_isWhole_87 : decode cX11_isWhole 87 = .ok (.iload 5, 2) := by decide +kernel
theorem dX11_isWhole_89 : decode cX11_isWhole 89 = .ok (.imul, 1) := by decide +kernel
theorem dX11_isWhole_90 : decode cX11_isWhole 90 = .ok (.iadd, 1) := by decide +kernel
theorem dX11_isWhole_91 : decode cX11_isWhole 91 = .ok (.istore 7, 2) := by decide +kernel
theorem dX11_isWhole_93 : decode cX11_isWhole 93 = .ok (.iload 7, 2) := by decide +kernel
theorem dX11_isWhole_95 : decode cX11_isWhole 95 = .ok (.aload_n 0, 1) := by decide +kernel
theorem dX11_isWhole_96 : decode cX11_isWhole 96 = .ok (.getfield 301, 3) := by decide +kernel
theorem dX11_isWhole_99 : decode cX11_isWhole 99 = .ok (.if_icmp .lt 17, 3) := by decide +kernel
theorem dX11_isWhole_102 : decode cX11_isWhole 102 = .ok (.iload 7, 2) := by decide +kernel
theorem dX11_isWhole_104 : decode cX11_isWhole 104 = .ok (.iload 5, 2) := by decide +kernel
theorem dX11_isWhole_106 : decode cX11_isWhole 106 = .ok (.iadd, 1) := by decide +kernel
theorem dX11_isWhole_107 : decode cX11_isWhole 107 = .ok (.iconst 1, 1) := by decide +kernel
theorem dX11_isWhole_108 : decode cX11_isWhole 108 = .ok (.isub, 1) := by decide +kernel
theorem dX11_isWhole_109 : decode cX11_isWhole 109 = .ok (.aload_n 0, 1) := by decide +kernel
theorem dX11_isWhole_110 : decode cX11_isWhole 110 = .ok (.getfield 304, 3) := by decide +kernel
theorem dX11_isWhole_113 : decode cX11_isWhole 113 = .ok (.if_icmp .le 5, 3) := by decide +kernel
theorem dX11_isWhole_116 : decode cX11_isWhole 116 = .ok (.iconst 0, 1) := by decide +kernel
theorem dX11_isWhole_117 : decode cX11_isWhole 117 = .ok (.ireturn, 1) := by decide +kernel
theorem dX11_isWhole_118 : decode cX11_isWhole 118 = .ok (.aload_n 0, 1) := by decide +kernel
theorem dX11_isWhole_119 : decode cX11_isWhole 119 = .ok (.iload 4, 2) := by decide +kernel
theorem dX11_isWhole_121 : decode cX11_isWhole 121 = .ok (.iload 7, 2) := by decide +kernel
theorem dX11_isWhole_123 : decode cX11_isWhole 123 = .ok (.invokevirtual 115, 3) := by decide +kernel
theorem dX11_isWhole_126 : decode cX11_isWhole 126 = .ok (.istore 8, 2) := by decide +kernel
theorem dX11_isWhole_128 : decode cX11_isWhole 128 = .ok (.aload_n 0, 1) := by decide +kernel
theorem dX11_isWhole_129 : decode cX11_isWhole 129 = .ok (.iload 7, 2) := by decide +kernel
theorem dX11_isWhole_131 : decode cX11_isWhole 131 = .ok (.invokevirtual 313, 3) := by decide +kernel
theorem dX11_isWhole_134 : decode cX11_isWhole 134 = .ok (.istore 9, 2) := by decide +kernel
theorem dX11_isWhole_136 : decode cX11_isWhole 136 = .ok (.iload_n 3, 1) := by decide +kernel
theorem dX11_isWhole_137 : decode cX11_isWhole 137 = .ok (.iload 6, 2) := by decide +kernel
theorem dX11_isWhole_139 : decode cX11_isWhole 139 = .ok (.imul, 1) := by decide +kernel
theorem dX11_isWhole_140 : decode cX11_isWhole 140 = .ok (.aload_n 0, 1) := by decide +kernel
theorem dX11_isWhole_141 : decode cX11_isWhole 141 = .ok (.iload 7, 2) := by decide +kernel
theorem dX11_isWhole_143 : decode cX11_isWhole 143 = .ok (.invokevirtual 316, 3) := by decide +kernel
theorem dX11_isWhole_146 : decode cX11_isWhole 146 = .ok (.isub, 1) := by decide +kernel
theorem dX11_isWhole_147 : decode cX11_isWhole 147 = .ok (.iload 8, 2) := by decide +kernel
theorem dX11_isWhole_149 : decode cX11_isWhole 149 = .ok (.iadd, 1) := by decide +kernel
theorem dX11_isWhole_150 : decode cX11_isWhole 150 = .ok (.iload 8, 2) := by decide +kernel
theorem dX11_isWhole_152 : decode cX11_isWhole 152 = .ok (.irem, 1) := by decide +kernel
theorem dX11_isWhole_153 : decode cX11_isWhole 153 = .ok (.istore 10, 2) := by decide +kernel
theorem dX11_isWhole_155 : decode cX11_isWhole 155 = .ok (.iload 9, 2) := by decide +kernel
theorem dX11_isWhole_157 : decode cX11_isWhole 157 = .ok (.iload 8, 2) := by decide +kernel
theorem dX11_isWhole_159 : decode cX11_isWhole 159 = .ok (.if_icmp .eq 13, 3) := by decide +kernel
theorem dX11_isWhole_162 : decode cX11_isWhole 162 = .ok (.iload 10, 2) := by decide +kernel
theorem dX11_isWhole_164 : decode cX11_isWhole 164 = .ok (.iload 6, 2) := by decide +kernel
theorem dX11_isWhole_166 : decode cX11_isWhole 166 = .ok (.iadd, 1) := by decide +kernel
theorem dX11_isWhole_167 : decode cX11_isWhole 167 = .ok (.iload 9, 2) := by decide +kernel
theorem dX11_isWhole_169 : decode cX11_isWhole 169 = .ok (.if_icmp .gt 7, 3) := by decide +kernel
theorem dX11_isWhole_172 : decode cX11_isWhole 172 = .ok (.iconst 1, 1) := by decide +kernel
theorem dX11_isWhole_173 : decode cX11_isWhole 173 = .ok (.goto 4, 3) := by decide +kernel
theorem dX11_isWhole_176 : decode cX11_isWhole 176 = .ok (.iconst 0, 1) := by decide +kernel
theorem dX11_isWhole_177 : decode cX11_isWhole 177 = .ok (.ireturn, 1) := by decide +kernel
theorem gX11_covers_X11_lastRow : GoodIn wsX11_covers (wsV RX11 94 RX11 yX11_lastRow wsX11_lastRow) := gw_c t_w534 (gw_c t_w533 (gw_c t_w532 (gw_c t_w510 (gw_c t_w531 (gw_t)))))
theorem gX11_covers_X11_many : GoodIn wsX11_covers (wsV RX11 115 RX11 yX11_many wsX11_many) := gw_c t_w554 (gw_c t_w553 (gw_c t_w552 (gw_c t_w510 (gw_c t_w551 (gw_t)))))
theorem gX11_covers_X11_placeAt : GoodIn wsX11_covers (wsV RX11 118 RX11 yX11_placeAt wsX11_placeAt) := gw_c t_w558 (gw_c t_w557 (gw_c t_w556 (gw_c t_w510 (gw_c t_w555 (gw_t)))))
theorem gX11_covers_X11_in : GoodIn wsX11_covers (va_wsS RX11 72 yX11_in wsX11_in) := gw_c t_w519 (gw_c t_w518 (gw_c t_w510 (gw_c t_w517 (gw_t))))
theorem gX11_covers_X11_isWhole : GoodIn wsX11_covers (wsV RX11 334 RX11 yX11_isWhole wsX11_isWhole) := gw_c t_w698 (gw_c t_w697 (gw_c t_w696 (gw_c t_w510 (gw_c t_w695 (gw_t)))))
theorem gX11_covers_X11_isWholeAbove : GoodIn wsX11_covers (wsV RX11 338 RX11 yX11_isWholeAbove wsX11_isWholeAbove) := gw_c t_w702 (gw_c t_w701 (gw_c t_w700 (gw_c t_w510 (gw_c t_w699 (gw_t)))))
theorem gX11_covers_X11_keyOf : GoodIn wsX11_covers (wsV RX11 104 RX11 yX11_keyOf wsX11_keyOf) := gw_c t_w546 (gw_c t_w545 (gw_c t_w544 (gw_c t_w510 (gw_c t_w543 (gw_t)))))
theorem dX11_covers_0 : decode cX11_covers 0 = .ok (.iconst 0, 1) := by decide +kernel
theorem dX11_covers_1 : decode cX11_covers 1 = .ok (.istore_n 2, 1) := by decide +kernel
theorem dX11_covers_2 : decode cX11_covers 2 = .ok (.iconst 0, 1) := by decide +kernel
theorem dX11_covers_3 : decode cX11_covers 3 = .ok (.istore_n 3, 1) := by decide +kernel
theorem dX11_covers_4 : decode cX11_covers 4 = .ok (.iload_n 3, 1) := by decide +kernel
theorem dX11_covers_5 : decode cX11_covers 5 = .ok (.aload_n 0, 1) := by decide +kernel
theorem dX11_covers_6 : decode cX11_covers 6 = .ok (.getfield 298, 3) := by decide +kernel
theorem dX11_covers_9 : decode cX11_covers 9 = .ok (.if_icmp .gt 316, 3) := by decide +kernel
theorem dX11_covers_12 : decode cX11_covers 12 = .ok (.aload_n 0, 1) := by decide +kernel
theorem dX11_covers_13 : decode cX11_covers 13 = .ok (.getfield 301, 3) := by decide +kernel
theorem dX11_covers_16 : decode cX11_covers 16 = .ok (.ifCond .ne 7, 3) := by decide +kernel
theorem dX11_covers_19 : decode cX11_covers 19 = .ok (.iconst 0, 1) := by decide +kernel
theorem dX11_covers_20 : decode cX11_covers 20 = .ok (.goto 28, 3) := by decide +kernel
theorem dX11_covers_23 : decode cX11_covers 23 = .ok (.iconst 1, 1) := by decide +kernel
theorem dX11_covers_24 : decode cX11_covers 24 = .ok (.aload_n 0, 1) := by decide +kernel
theorem dX11_covers_25 : decode cX11_covers 25 = .ok (.getfield 301, 3) := by decide +kernel
theorem dX11_covers_28 : decode cX11_covers 28 = .ok (.iconst 1, 1) := by decide +kernel
theorem dX11_covers_29 : decode cX11_covers 29 = .ok (.isub, 1) := by decide +kernel
theorem dX11_covers_30 : decode cX11_covers 30 = .ok (.aload_n 0, 1) := by decide +kernel
theorem dX11_covers_31 : decode cX11_covers 31 = .ok (.getfield 16, 3) := by decide +kernel
theorem dX11_covers_34 : decode cX11_covers 34 = .ok (.aload_n 0, 1) := by decide +kernel
theorem dX11_covers_35 : decode cX11_covers 35 = .ok (.getfield 298, 3) := by decide +kernel
theorem dX11_covers_38 : decode cX11_covers 38 = .ok (.iaload, 1) := by decide +kernel
theorem dX11_covers_39 : decode cX11_covers 39 = .ok (.aload_n 0, 1) := by decide +kernel
theorem dX11_covers_40 : decode cX11_covers 40 = .ok (.getfield 16, 3) := by decide +kernel
theorem dX11_covers_43 : decode cX11_covers 43 = .ok (.iload_n 3, 1) := by decide +kernel
theorem dX11_covers_44 : decode cX11_covers 44 = .ok (.iaload, 1) := by decide +kernel
theorem dX11_covers_45 : decode cX11_covers 45 = .ok (.idiv, 1) := by decide +kernel
theorem dX11_covers_46 : decode cX11_covers 46 = .ok (.idiv, 1) := by decide +kernel
theorem dX11_covers_47 : decode cX11_covers 47 = .ok (.iadd, 1) := by decide +kernel
theorem dX11_covers_48 : decode cX11_covers 48 = .ok (.istore 4, 2) := by decide +kernel
theorem dX11_covers_50 : decode cX11_covers 50 = .ok (.aload_n 0, 1) := by decide +kernel
theorem dX11_covers_51 : decode cX11_covers 51 = .ok (.getfield 304, 3) := by decide +kernel
theorem dX11_covers_54 : decode cX11_covers 54 = .ok (.ifCond .ne 7, 3) := by decide +kernel
theorem dX11_covers_57 : decode cX11_covers 57 = .ok (.iconst 0, 1) := by decide +kernel
theorem dX11_covers_58 : decode cX11_covers 58 = .ok (.goto 51, 3) := by decide +kernel
theorem dX11_covers_61 : decode cX11_covers 61 = .ok (.aload_n 0, 1) := by decide +kernel
theorem dX11_covers_62 : decode cX11_covers 62 = .ok (.getfield 304, 3) := by decide +kernel
theorem dX11_covers_65 : decode cX11_covers 65 = .ok (.aload_n 0, 1) := by decide +kernel
theorem dX11_covers_66 : decode cX11_covers 66 = .ok (.aload_n 0, 1) := by decide +kernel
theorem dX11_covers_67 : decode cX11_covers 67 = .ok (.getfield 298, 3) := by decide +kernel
theorem dX11_covers_70 : decode cX11_covers 70 = .ok (.invokevirtual 94, 3) := by decide +kernel
theorem dX11_covers_73 : decode cX11_covers 73 = .ok (.if_icmp .ne 11, 3) := by decide +kernel
theorem dX11_covers_76 : decode cX11_covers 76 = .ok (.aload_n 0, 1) := by decide +kernel
theorem dX11_covers_77 : decode cX11_covers 77 = .ok (.iload_n 3, 1) := by decide +kernel
theorem dX11_covers_78 : decode cX11_covers 78 = .ok (.invokevirtual 94, 3) := by decide +kernel
theorem dX11_covers_81 : decode cX11_covers 81 = .ok (.goto 28, 3) := by decide +kernel
theorem dX11_covers_84 : decode cX11_covers 84 = .ok (.iconst 1, 1) := by decide +kernel
theorem dX11_covers_85 : decode cX11_covers 85 = .ok (.aload_n 0, 1) := by decide +kernel
theorem dX11_covers_86 : decode cX11_covers 86 = .ok (.getfield 304, 3) := by decide +kernel
theorem dX11_covers_89 : decode cX11_covers 89 = .ok (.iconst 1, 1) := by decide +kernel
theorem dX11_covers_90 : decode cX11_covers 90 = .ok (.isub, 1) := by decide +kernel
theorem dX11_covers_91 : decode cX11_covers 91 = .ok (.aload_n 0, 1) := by decide +kernel
theorem dX11_covers_92 : decode cX11_covers 92 = .ok (.getfield 16, 3) := by decide +kernel
theorem dX11_covers_95 : decode cX11_covers 95 = .ok (.aload_n 0, 1) := by decide +kernel
theorem dX11_covers_96 : decode cX11_covers 96 = .ok (.getfield 298, 3) := by decide +kernel
theorem dX11_covers_99 : decode cX11_covers 99 = .ok (.iaload, 1) := by decide +kernel
theorem dX11_covers_100 : decode cX11_covers 100 = .ok (.aload_n 0, 1) := by decide +kernel
theorem dX11_covers_101 : decode cX11_covers 101 = .ok (.getfield 16, 3) := by decide +kernel
theorem dX11_covers_104 : decode cX11_covers 104 = .ok (.iload_n 3, 1) := by decide +kernel
theorem dX11_covers_105 : decode cX11_covers 105 = .ok (.iaload, 1) := by decide +kernel
theorem dX11_covers_106 : decode cX11_covers 106 = .ok (.idiv, 1) := by decide +kernel
theorem dX11_covers_107 : decode cX11_covers 107 = .ok (.idiv, 1) := by decide +kernel
theorem dX11_covers_108 : decode cX11_covers 108 = .ok (.iadd, 1) := by decide +kernel
theorem dX11_covers_109 : decode cX11_covers 109 = .ok (.istore 5, 2) := by decide +kernel
theorem dX11_covers_111 : decode cX11_covers 111 = .ok (.aload_n 0, 1) := by decide +kernel
theorem dX11_covers_112 : decode cX11_covers 112 = .ok (.getfield 301, 3) := by decide +kernel
theorem dX11_covers_115 : decode cX11_covers 115 = .ok (.aload_n 0, 1) := by decide +kernel
theorem dX11_covers_116 : decode cX11_covers 116 = .ok (.aload_n 0, 1) := by decide +kernel
theorem dX11_covers_117 : decode cX11_covers 117 = .ok (.getfield 298, 3) := by decide +kernel
theorem dX11_covers_120 : decode cX11_covers 120 = .ok (.invokevirtual 94, 3) := by decide +kernel
theorem dX11_covers_123 : decode cX11_covers 123 = .ok (.if_icmp .ne 10, 3) := by decide +kernel
theorem dX11_covers_126 : decode cX11_covers 126 = .ok (.aload_n 0, 1) := by decide +kernel
theorem dX11_covers_127 : decode cX11_covers 127 = .ok (.iload_n 3, 1) := by decide +kernel
theorem dX11_covers_128 : decode cX11_covers 128 = .ok (.invokevirtual 94, 3) := by decide +kernel
theorem dX11_covers_131 : decode cX11_covers 131 = .ok (.istore 4, 2) := by decide +kernel
theorem dX11_covers_133 : decode cX11_covers 133 = .ok (.iload 4, 2) := by decide +kernel
theorem dX11_covers_135 : decode cX11_covers 135 = .ok (.istore 6, 2) := by decide +kernel
theorem dX11_covers_137 : decode cX11_covers 137 = .ok (.iload 6, 2) := by decide +kernel
theorem dX11_covers_139 : decode cX11_covers 139 = .ok (.iload 5, 2) := by decide +kernel
theorem dX11_covers_141 : decode cX11_covers 141 = .ok (.if_icmp .gt 178, 3) := by decide +kernel
theorem dX11_covers_144 : decode cX11_covers 144 = .ok (.aload_n 0, 1) := by decide +kernel
theorem dX11_covers_145 : decode cX11_covers 145 = .ok (.iload_n 3, 1) := by decide +kernel
theorem dX11_covers_146 : decode cX11_covers 146 = .ok (.iload 6, 2) := by decide +kernel
theorem dX11_covers_148 : decode cX11_covers 148 = .ok (.invokevirtual 115, 3) := by decide +kernel
theorem dX11_covers_151 : decode cX11_covers 151 = .ok (.istore 7, 2) := by decide +kernel
theorem dX11_covers_153 : decode cX11_covers 153 = .ok (.aload_n 0, 1) := by decide +kernel
theorem dX11_covers_154 : decode cX11_covers 154 = .ok (.aload_n 0, 1) := by decide +kernel
theorem dX11_covers_155 : decode cX11_covers 155 = .ok (.getfield 307, 3) := by decide +kernel
theorem dX11_covers_158 : decode cX11_covers 158 = .ok (.iload 7, 2) := by decide +kernel
theorem dX11_covers_160 : decode cX11_covers 160 = .ok (.invokevirtual 118, 3) := by decide +kernel
theorem dX11_covers_163 : decode cX11_covers 163 = .ok (.istore 8, 2) := by decide +kernel
theorem dX11_covers_165 : decode cX11_covers 165 = .ok (.aload_n 0, 1) := by decide +kernel
theorem dX11_covers_166 : decode cX11_covers 166 = .ok (.aload_n 0, 1) := by decide +kernel
theorem dX11_covers_167 : decode cX11_covers 167 = .ok (.getfield 310, 3) := by decide +kernel
theorem dX11_covers_170 : decode cX11_covers 170 = .ok (.iload 7, 2) := by decide +kernel
theorem dX11_covers_172 : decode cX11_covers 172 = .ok (.invokevirtual 118, 3) := by decide +kernel
theorem dX11_covers_175 : decode cX11_covers 175 = .ok (.istore 9, 2) := by decide +kernel
theorem dX11_covers_177 : decode cX11_covers 177 = .ok (.aload_n 0, 1) := by decide +kernel
theorem dX11_covers_178 : decode cX11_covers 178 = .ok (.getfield 307, 3) := by decide +kernel
theorem dX11_covers_181 : decode cX11_covers 181 = .ok (.aload_n 0, 1) := by decide +kernel
theorem dX11_covers_182 : decode cX11_covers 182 = .ok (.getfield 310, 3) := by decide +kernel
theorem dX11_covers_185 : decode cX11_covers 185 = .ok (.if_icmp .le 7, 3) := by decide +kernel
theorem dX11_covers_188 : decode cX11_covers 188 = .ok (.iconst 1, 1) := by decide +kernel
theorem dX11_covers_189 : decode cX11_covers 189 = .ok (.goto 4, 3) := by decide +kernel
theorem dX11_covers_192 : decode cX11_covers 192 = .ok (.iconst 0, 1) := by decide +kernel
theorem dX11_covers_193 : decode cX11_covers 193 = .ok (.istore 10, 2) := by decide +kernel
theorem dX11_covers_195 : decode cX11_covers 195 = .ok (.iconst 0, 1) := by decide +kernel
theorem dX11_covers_196 : decode cX11_covers 196 = .ok (.istore 11, 2) := by decide +kernel
theorem dX11_covers_198 : decode cX11_covers 198 = .ok (.iload 11, 2) := by decide +kernel
theorem dX11_covers_200 : decode cX11_covers 200 = .ok (.iload 7, 2) := by decide +kernel
theorem dX11_covers_202 : decode cX11_covers 202 = .ok (.if_icmp .ge 111, 3) := by decide +kernel
theorem dX11_covers_205 : decode cX11_covers 205 = .ok (.iload 10, 2) := by decide +kernel
theorem dX11_covers_207 : decode cX11_covers 207 = .ok (.ifCond .eq 25, 3) := by decide +kernel
theorem dX11_covers_210 : decode cX11_covers 210 = .ok (.iload 11, 2) := by decide +kernel
theorem dX11_covers_212 : decode cX11_covers 212 = .ok (.iload 8, 2) := by decide +kernel
theorem dX11_covers_214 : decode cX11_covers 214 = .ok (.if_icmp .ge 10, 3) := by decide +kernel
theorem dX11_covers_217 : decode cX11_covers 217 = .ok (.iload 11, 2) := by decide +kernel
theorem dX11_covers_219 : decode cX11_covers 219 = .ok (.iload 9, 2) := by decide +kernel
theorem dX11_covers_221 : decode cX11_covers 221 = .ok (.if_icmp .gt 7, 3) := by decide +kernel
theorem dX11_covers_224 : decode cX11_covers 224 = .ok (.iconst 1, 1) := by decide +kernel
theorem dX11_covers_225 : decode cX11_covers 225 = .ok (.goto 19, 3) := by decide +kernel
theorem dX11_covers_228 : decode cX11_covers 228 = .ok (.iconst 0, 1) := by decide +kernel
theorem dX11_covers_229 : decode cX11_covers 229 = .ok (.goto 15, 3) := by decide +kernel
theorem dX11_covers_232 : decode cX11_covers 232 = .ok (.iload 11, 2) := by decide +kernel
theorem dX11_covers_234 : decode cX11_covers 234 = .ok (.i2l, 1) := by decide +kernel
theorem dX11_covers_235 : decode cX11_covers 235 = .ok (.iload 8, 2) := by decide +kernel
theorem dX11_covers_237 : decode cX11_covers 237 = .ok (.i2l, 1) := by decide +kernel
theorem dX11_covers_238 : decode cX11_covers 238 = .ok (.iload 9, 2) := by decide +kernel
theorem dX11_covers_240 : decode cX11_covers 240 = .ok (.i2l, 1) := by decide +kernel
theorem dX11_covers_241 : decode cX11_covers 241 = .ok (.invokestatic 72, 3) := by decide +kernel
theorem dX11_covers_244 : decode cX11_covers 244 = .ok (.istore 12, 2) := by decide +kernel
theorem dX11_covers_246 : decode cX11_covers 246 = .ok (.iload 12, 2) := by decide +kernel
theorem dX11_covers_248 : decode cX11_covers 248 = .ok (.ifCond .eq 59, 3) := by decide +kernel
theorem dX11_covers_251 : decode cX11_covers 251 = .ok (.aload_n 0, 1) := by decide +kernel
theorem dX11_covers_252 : decode cX11_covers 252 = .ok (.iload_n 3, 1) := by decide +kernel
theorem dX11_covers_253 : decode cX11_covers 253 = .ok (.iload 6, 2) := by decide +kernel
theorem dX11_covers_255 : decode cX11_covers 255 = .ok (.iload 11, 2) := by decide +kernel
theorem dX11_covers_257 : decode cX11_covers 257 = .ok (.invokevirtual 334, 3) := by decide +kernel
theorem dX11_covers_260 : decode cX11_covers 260 = .ok (.ifCond .eq 47, 3) := by decide +kernel
theorem dX11_covers_263 : decode cX11_covers 263 = .ok (.iload_n 3, 1) := by decide +kernel
theorem dX11_covers_264 : decode cX11_covers 264 = .ok (.ifCond .le 18, 3) := by decide +kernel
theorem dX11_covers_267 : decode cX11_covers 267 = .ok (.aload_n 0, 1) := by decide +kernel
theorem dX11_covers_268 : decode cX11_covers 268 = .ok (.iload_n 3, 1) := by decide +kernel
theorem dX11_covers_269 : decode cX11_covers 269 = .ok (.iload 6, 2) := by decide +kernel
theorem dX11_covers_271 : decode cX11_covers 271 = .ok (.iload 11, 2) := by decide +kernel
theorem dX11_covers_273 : decode cX11_covers 273 = .ok (.invokevirtual 338, 3) := by decide +kernel
theorem dX11_covers_276 : decode cX11_covers 276 = .ok (.ifCond .eq 6, 3) := by decide +kernel
theorem dX11_covers_279 : decode cX11_covers 279 = .ok (.goto 28, 3) := by decide +kernel
theorem dX11_covers_282 : decode cX11_covers 282 = .ok (.iload_n 2, 1) := by decide +kernel
theorem dX11_covers_283 : decode cX11_covers 283 = .ok (.iload_n 1, 1) := by decide +kernel
theorem dX11_covers_284 : decode cX11_covers 284 = .ok (.if_icmp .ne 19, 3) := by decide +kernel
theorem dX11_covers_287 : decode cX11_covers 287 = .ok (.ldc_w 341, 3) := by decide +kernel
theorem dX11_covers_290 : decode cX11_covers 290 = .ok (.iload_n 3, 1) := by decide +kernel
theorem dX11_covers_291 : decode cX11_covers 291 = .ok (.imul, 1) := by decide +kernel
theorem dX11_covers_292 : decode cX11_covers 292 = .ok (.aload_n 0, 1) := by decide +kernel
theorem dX11_covers_293 : decode cX11_covers 293 = .ok (.iload_n 3, 1) := by decide +kernel
theorem dX11_covers_294 : decode cX11_covers 294 = .ok (.iload 6, 2) := by decide +kernel
theorem dX11_covers_296 : decode cX11_covers 296 = .ok (.iload 11, 2) := by decide +kernel
theorem dX11_covers_298 : decode cX11_covers 298 = .ok (.invokevirtual 104, 3) := by decide +kernel
theorem dX11_covers_301 : decode cX11_covers 301 = .ok (.iadd, 1) := by decide +kernel
theorem dX11_covers_302 : decode cX11_covers 302 = .ok (.ireturn, 1) := by decide +kernel
theorem dX11_covers_303 : decode cX11_covers 303 = .ok (.iload_n 2, 1) := by decide +kernel
theorem dX11_covers_304 : decode cX11_covers 304 = .ok (.iconst 1, 1) := by decide +kernel
theorem dX11_covers_305 : decode cX11_covers 305 = .ok (.iadd, 1) := by decide +kernel
theorem dX11_covers_306 : decode cX11_covers 306 = .ok (.istore_n 2, 1) := by decide +kernel
theorem dX11_covers_307 : decode cX11_covers 307 = .ok (.iinc 11 1, 3) := by decide +kernel
theorem dX11_covers_310 : decode cX11_covers 310 = .ok (.goto (-112), 3) := by decide +kernel
theorem dX11_covers_313 : decode cX11_covers 313 = .ok (.iinc 6 1, 3) := by decide +kernel
theorem dX11_covers_316 : decode cX11_covers 316 = .ok (.goto (-179), 3) := by decide +kernel
theorem dX11_covers_319 : decode cX11_covers 319 = .ok (.iinc 3 1, 3) := by decide +kernel
theorem dX11_covers_322 : decode cX11_covers 322 = .ok (.goto (-318), 3) := by decide +kernel
theorem dX11_covers_325 : decode cX11_covers 325 = .ok (.iload_n 1, 1) := by decide +kernel
theorem dX11_covers_326 : decode cX11_covers 326 = .ok (.iconst (-1), 1) := by decide +kernel
theorem dX11_covers_327 : decode cX11_covers 327 = .ok (.if_icmp .ne 7, 3) := by decide +kernel
theorem dX11_covers_330 : decode cX11_covers 330 = .ok (.iload_n 2, 1) := by decide +kernel
theorem dX11_covers_331 : decode cX11_covers 331 = .ok (.goto 5, 3) := by decide +kernel
theorem dX11_covers_334 : decode cX11_covers 334 = .ok (.bipush (-3), 2) := by decide +kernel
theorem dX11_covers_336 : decode cX11_covers 336 = .ok (.ireturn, 1) := by decide +kernel
theorem gX11_isWholeAbove_X11_lastRow : GoodIn wsX11_isWholeAbove (wsV RX11 94 RX11 yX11_lastRow wsX11_lastRow) := gw_c t_w534 (gw_c t_w533 (gw_c t_w532 (gw_c t_w510 (gw_c t_w531 (gw_t)))))
theorem gX11_isWholeAbove_X11_isWhole : GoodIn wsX11_isWholeAbove (wsV RX11 334 RX11 yX11_isWhole wsX11_isWhole) := gw_c t_w698 (gw_c t_w697 (gw_c t_w696 (gw_c t_w510 (gw_c t_w695 (gw_t)))))
theorem dX11_isWholeAbove_0 : decode cX11_isWholeAbove 0 = .ok (.iload_n 2, 1) := by decide +kernel
theorem dX11_isWholeAbove_1 : decode cX11_isWholeAbove 1 = .ok (.ifCond .eq 12, 3) := by decide +kernel
theorem dX11_isWholeAbove_4 : decode cX11_isWholeAbove 4 = .ok (.iload_n 2, 1) := by decide +kernel
theorem dX11_isWholeAbove_5 : decode cX11_isWholeAbove 5 = .ok (.aload_n 0, 1) := by decide +kernel
theorem dX11_isWholeAbove_6 : decode cX11_isWholeAbove 6 = .ok (.iload_n 1, 1) := by decide +kernel
theorem dX11_isWholeAbove_7 : decode cX11_isWholeAbove 7 = .ok (.invokevirtual 94, 3) := by decide +kernel
theorem dX11_isWholeAbove_10 : decode cX11_isWholeAbove 10 = .ok (.if_icmp .ne 5, 3) := by decide +kernel
theorem dX11_isWholeAbove_13 : decode cX11_isWholeAbove 13 = .ok (.iconst 1, 1) := by decide +kernel
theorem dX11_isWholeAbove_14 : decode cX11_isWholeAbove 14 = .ok (.ireturn, 1) := by decide +kernel
theorem dX11_isWholeAbove_15 : decode cX11_isWholeAbove 15 = .ok (.aload_n 0, 1) := by decide +kernel
theorem dX11_isWholeAbove_16 : decode cX11_isWholeAbove 16 = .ok (.iload_n 1, 1) := by decide +kernel
theorem dX11_isWholeAbove_17 : decode cX11_isWholeAbove 17 = .ok (.iconst 1, 1) := by decide +kernel
theorem dX11_isWholeAbove_18 : decode cX11_isWholeAbove 18 = .ok (.isub, 1) := by decide +kernel
theorem dX11_isWholeAbove_19 : decode cX11_isWholeAbove 19 = .ok (.iconst 1, 1) := by decide +kernel
theorem dX11_isWholeAbove_20 : decode cX11_isWholeAbove 20 = .ok (.iload_n 2, 1) := by decide +kernel
theorem dX11_isWholeAbove_21 : decode cX11_isWholeAbove 21 = .ok (.iconst 1, 1) := by decide +kernel
theorem dX11_isWholeAbove_22 : decode cX11_isWholeAbove 22 = .ok (.isub, 1) := by decide +kernel
theorem dX11_isWholeAbove_23 : decode cX11_isWholeAbove 23 = .ok (.aload_n 0, 1) := by decide +kernel
theorem dX11_isWholeAbove_24 : decode cX11_isWholeAbove 24 = .ok (.getfield 7, 3) := by decide +kernel
theorem dX11_isWholeAbove_27 : decode cX11_isWholeAbove 27 = .ok (.iload_n 1, 1) := by decide +kernel
theorem dX11_isWholeAbove_28 : decode cX11_isWholeAbove 28 = .ok (.iaload, 1) := by decide +kernel
theorem dX11_isWholeAbove_29 : decode cX11_isWholeAbove 29 = .ok (.idiv, 1) := by decide +kernel
theorem dX11_isWholeAbove_30 : decode cX11_isWholeAbove 30 = .ok (.iadd, 1) := by decide +kernel
theorem dX11_isWholeAbove_31 : decode cX11_isWholeAbove 31 = .ok (.iload_n 3, 1) := by decide +kernel
theorem dX11_isWholeAbove_32 : decode cX11_isWholeAbove 32 = .ok (.aload_n 0, 1) := by decide +kernel
theorem dX11_isWholeAbove_33 : decode cX11_isWholeAbove 33 = .ok (.getfield 13, 3) := by decide +kernel
theorem dX11_isWholeAbove_36 : decode cX11_isWholeAbove 36 = .ok (.iload_n 1, 1) := by decide +kernel
theorem dX11_isWholeAbove_37 : decode cX11_isWholeAbove 37 = .ok (.iaload, 1) := by decide +kernel
theorem dX11_isWholeAbove_38 : decode cX11_isWholeAbove 38 = .ok (.idiv, 1) := by decide +kernel
theorem dX11_isWholeAbove_39 : decode cX11_isWholeAbove 39 = .ok (.invokevirtual 334, 3) := by decide +kernel
theorem dX11_isWholeAbove_42 : decode cX11_isWholeAbove 42 = .ok (.ireturn, 1) := by decide +kernel
theorem gX11_cover_X11_isBox : GoodIn wsX11_cover (wsV RX11 319 RX11 yX11_isBox wsX11_isBox) := gw_c t_w682 (gw_c t_w681 (gw_c t_w680 (gw_c t_w510 (gw_c t_w679 (gw_t)))))
theorem gX11_cover_X11_isLevel : GoodIn wsX11_cover (va_wsS RX11 84 yX11_isLevel wsX11_isLevel) := gw_c t_w522 (gw_c t_w521 (gw_c t_w510 (gw_c t_w520 (gw_t))))
theorem gX11_cover_X11_laysBox : GoodIn wsX11_cover (wsV RX11 323 RX11 yX11_laysBox wsX11_laysBox) := gw_c t_w686 (gw_c t_w685 (gw_c t_w684 (gw_c t_w510 (gw_c t_w683 (gw_t)))))
theorem gX11_cover_X11_boxAll : GoodIn wsX11_cover (wsV RX11 327 RX11 yX11_boxAll wsX11_boxAll) := gw_c t_w690 (gw_c t_w689 (gw_c t_w688 (gw_c t_w510 (gw_c t_w687 (gw_t)))))
theorem gX11_cover_X11_covers : GoodIn wsX11_cover (wsV RX11 342 RX11 yX11_covers wsX11_covers) := gw_c t_w706 (gw_c t_w705 (gw_c t_w704 (gw_c t_w510 (gw_c t_w703 (gw_t)))))
theorem dX11_cover_0 : decode cX11_cover 0 = .ok (.aload_n 0, 1) := by decide +kernel
theorem dX11_cover_1 : decode cX11_cover 1 = .ok (.iload_n 1, 1) := by decide +kernel
theorem dX11_cover_2 : decode cX11_cover 2 = .ok (.iload_n 2, 1) := by decide +kernel
theorem dX11_cover_3 : decode cX11_cover 3 = .ok (.iload_n 3, 1) := by decide +kernel
theorem dX11_cover_4 : decode cX11_cover 4 = .ok (.iload 4, 2) := by decide +kernel
theorem dX11_cover_6 : decode cX11_cover 6 = .ok (.invokevirtual 319, 3) := by decide +kernel
theorem dX11_cover_9 : decode cX11_cover 9 = .ok (.ifCond .eq 17, 3) := by decide +kernel
theorem dX11_cover_12 : decode cX11_cover 12 = .ok (.iload 5, 2) := by decide +kernel
theorem dX11_cover_14 : decode cX11_cover 14 = .ok (.invokestatic 84, 3) := by decide +kernel
theorem dX11_cover_17 : decode cX11_cover 17 = .ok (.ifCond .eq 9, 3) := by decide +kernel
theorem dX11_cover_20 : decode cX11_cover 20 = .ok (.iload 6, 2) := by decide +kernel
theorem dX11_cover_22 : decode cX11_cover 22 = .ok (.iconst (-1), 1) := by decide +kernel
theorem dX11_cover_23 : decode cX11_cover 23 = .ok (.if_icmp .ge 5, 3) := by decide +kernel
theorem dX11_cover_26 : decode cX11_cover 26 = .ok (.iconst (-1), 1) := by decide +kernel
theorem dX11_cover_27 : decode cX11_cover 27 = .ok (.ireturn, 1) := by decide +kernel
theorem dX11_cover_28 : decode cX11_cover 28 = .ok (.aload_n 0, 1) := by decide +kernel
theorem dX11_cover_29 : decode cX11_cover 29 = .ok (.iload_n 1, 1) := by decide +kernel
theorem dX11_cover_30 : decode cX11_cover 30 = .ok (.iload_n 2, 1) := by decide +kernel
theorem dX11_cover_31 : decode cX11_cover 31 = .ok (.iload_n 3, 1) := by decide +kernel
theorem dX11_cover_32 : decode cX11_cover 32 = .ok (.iload 4, 2) := by decide +kernel
theorem dX11_cover_34 : decode cX11_cover 34 = .ok (.iload 5, 2) := by decide +kernel
theorem dX11_cover_36 : decode cX11_cover 36 = .ok (.invokevirtual 323, 3) := by decide +kernel
theorem dX11_cover_39 : decode cX11_cover 39 = .ok (.aload_n 0, 1) := by decide +kernel
theorem dX11_cover_40 : decode cX11_cover 40 = .ok (.invokevirtual 327, 3) := by decide +kernel
theorem dX11_cover_43 : decode cX11_cover 43 = .ok (.sipush 4000, 3) := by decide +kernel
theorem dX11_cover_46 : decode cX11_cover 46 = .ok (.if_icmp .le 8, 3) := by decide +kernel
theorem dX11_cover_49 : decode cX11_cover 49 = .ok (.bipush (-2), 2) := by decide +kernel
theorem dX11_cover_51 : decode cX11_cover 51 = .ok (.goto 9, 3) := by decide +kernel
theorem dX11_cover_54 : decode cX11_cover 54 = .ok (.aload_n 0, 1) := by decide +kernel
theorem dX11_cover_55 : decode cX11_cover 55 = .ok (.iload 6, 2) := by decide +kernel
theorem dX11_cover_57 : decode cX11_cover 57 = .ok (.invokevirtual 342, 3) := by decide +kernel
theorem dX11_cover_60 : decode cX11_cover 60 = .ok (.ireturn, 1) := by decide +kernel
theorem gX11_betweenOf_X11_middleOf : GoodIn wsX11_betweenOf (wsV RX11 250 RX11 yX11_middleOf wsX11_middleOf) := gw_c t_w627 (gw_c t_w626 (gw_c t_w625 (gw_c t_w510 (gw_c t_w624 (gw_t)))))
theorem gX11_betweenOf_X11_laysBox : GoodIn wsX11_betweenOf (wsV RX11 323 RX11 yX11_laysBox wsX11_laysBox) := gw_c t_w686 (gw_c t_w685 (gw_c t_w684 (gw_c t_w510 (gw_c t_w683 (gw_t)))))
theorem gX11_betweenOf_X11_boxAll : GoodIn wsX11_betweenOf (wsV RX11 327 RX11 yX11_boxAll wsX11_boxAll) := gw_c t_w690 (gw_c t_w689 (gw_c t_w688 (gw_c t_w510 (gw_c t_w687 (gw_t)))))
theorem dX11_betweenOf_0 : decode cX11_betweenOf 0 = .ok (.aload_n 0, 1) := by decide +kernel
theorem dX11_betweenOf_1 : decode cX11_betweenOf 1 = .ok (.iload_n 1, 1) := by decide +kernel
theorem dX11_betweenOf_2 : decode cX11_betweenOf 2 = .ok (.iload_n 2, 1) := by decide +kernel
theorem dX11_betweenOf_3 : decode cX11_betweenOf 3 = .ok (.iconst 0, 1) := by decide +kernel
theorem dX11_betweenOf_4 : decode cX11_betweenOf 4 = .ok (.invokevirtual 250, 3) := by decide +kernel
theorem dX11_betweenOf_7 : decode cX11_betweenOf 7 = .ok (.istore 4, 2) := by decide +kernel
theorem dX11_betweenOf_9 : decode cX11_betweenOf 9 = .ok (.aload_n 0, 1) := by decide +kernel
theorem dX11_betweenOf_10 : decode cX11_betweenOf 10 = .ok (.iload_n 1, 1) := by decide +kernel
theorem dX11_betweenOf_11 : decode cX11_betweenOf 11 = .ok (.iload_n 3, 1) := by decide +kernel
theorem dX11_betweenOf_12 : decode cX11_betweenOf 12 = .ok (.iconst 0, 1) := by decide +kernel
theorem dX11_betweenOf_13 : decode cX11_betweenOf 13 = .ok (.invokevirtual 250, 3) := by decide +kernel
theorem dX11_betweenOf_16 : decode cX11_betweenOf 16 = .ok (.istore 5, 2) := by decide +kernel
theorem dX11_betweenOf_18 : decode cX11_betweenOf 18 = .ok (.aload_n 0, 1) := by decide +kernel
theorem dX11_betweenOf_19 : decode cX11_betweenOf 19 = .ok (.iload 4, 2) := by decide +kernel
theorem dX11_betweenOf_21 : decode cX11_betweenOf 21 = .ok (.iload 5, 2) := by decide +kernel
theorem dX11_betweenOf_23 : decode cX11_betweenOf 23 = .ok (.if_icmp .ge 8, 3) := by decide +kernel
theorem dX11_betweenOf_26 : decode cX11_betweenOf 26 = .ok (.iload 4, 2) := by decide +kernel
theorem dX11_betweenOf_28 : decode cX11_betweenOf 28 = .ok (.goto 5, 3) := by decide +kernel
theorem dX11_betweenOf_31 : decode cX11_betweenOf 31 = .ok (.iload 5, 2) := by decide +kernel
theorem dX11_betweenOf_33 : decode cX11_betweenOf 33 = .ok (.iload 4, 2) := by decide +kernel
theorem dX11_betweenOf_35 : decode cX11_betweenOf 35 = .ok (.iload 5, 2) := by decide +kernel
theorem dX11_betweenOf_37 : decode cX11_betweenOf 37 = .ok (.if_icmp .ge 8, 3) := by decide +kernel
theorem dX11_betweenOf_40 : decode cX11_betweenOf 40 = .ok (.iload 5, 2) := by decide +kernel
theorem dX11_betweenOf_42 : decode cX11_betweenOf 42 = .ok (.goto 5, 3) := by decide +kernel
theorem dX11_betweenOf_45 : decode cX11_betweenOf 45 = .ok (.iload 4, 2) := by decide +kernel
theorem dX11_betweenOf_47 : decode cX11_betweenOf 47 = .ok (.aload_n 0, 1) := by decide +kernel
theorem dX11_betweenOf_48 : decode cX11_betweenOf 48 = .ok (.iload_n 1, 1) := by decide +kernel
theorem dX11_betweenOf_49 : decode cX11_betweenOf 49 = .ok (.iload_n 2, 1) := by decide +kernel
theorem dX11_betweenOf_50 : decode cX11_betweenOf 50 = .ok (.iconst 1, 1) := by decide +kernel
theorem dX11_betweenOf_51 : decode cX11_betweenOf 51 = .ok (.invokevirtual 250, 3) := by decide +kernel
theorem dX11_betweenOf_54 : decode cX11_betweenOf 54 = .ok (.aload_n 0, 1) := by decide +kernel
theorem dX11_betweenOf_55 : decode cX11_betweenOf 55 = .ok (.iload_n 1, 1) := by decide +kernel
theorem dX11_betweenOf_56 : decode cX11_betweenOf 56 = .ok (.iload_n 3, 1) := by decide +kernel
theorem dX11_betweenOf_57 : decode cX11_betweenOf 57 = .ok (.iconst 1, 1) := by decide +kernel
theorem dX11_betweenOf_58 : decode cX11_betweenOf 58 = .ok (.invokevirtual 250, 3) := by decide +kernel
theorem dX11_betweenOf_61 : decode cX11_betweenOf 61 = .ok (.iload_n 1, 1) := by decide +kernel
theorem dX11_betweenOf_62 : decode cX11_betweenOf 62 = .ok (.invokevirtual 323, 3) := by decide +kernel
theorem dX11_betweenOf_65 : decode cX11_betweenOf 65 = .ok (.aload_n 0, 1) := by decide +kernel
theorem dX11_betweenOf_66 : decode cX11_betweenOf 66 = .ok (.invokevirtual 327, 3) := by decide +kernel
theorem dX11_betweenOf_69 : decode cX11_betweenOf 69 = .ok (.ireturn, 1) := by decide +kernel
theorem gX11_between_X11_isKey : GoodIn wsX11_between (wsV RX11 153 RX11 yX11_isKey wsX11_isKey) := gw_c t_w585 (gw_c t_w584 (gw_c t_w583 (gw_c t_w510 (gw_c t_w582 (gw_t)))))
theorem gX11_between_X11_betweenOf : GoodIn wsX11_between (wsV RX11 345 RX11 yX11_betweenOf wsX11_betweenOf) := gw_c t_w710 (gw_c t_w709 (gw_c t_w708 (gw_c t_w510 (gw_c t_w707 (gw_t)))))
theorem dX11_between_0 : decode cX11_between 0 = .ok (.aload_n 0, 1) := by decide +kernel
theorem dX11_between_1 : decode cX11_between 1 = .ok (.iload_n 1, 1) := by decide +kernel
theorem dX11_between_2 : decode cX11_between 2 = .ok (.iload_n 2, 1) := by decide +kernel
theorem dX11_between_3 : decode cX11_between 3 = .ok (.invokevirtual 153, 3) := by decide +kernel
theorem dX11_between_6 : decode cX11_between 6 = .ok (.ifCond .eq 22, 3) := by decide +kernel
theorem dX11_between_9 : decode cX11_between 9 = .ok (.aload_n 0, 1) := by decide +kernel
theorem dX11_between_10 : decode cX11_between 10 = .ok (.iload_n 1, 1) := by decide +kernel
theorem dX11_between_11 : decode cX11_between 11 = .ok (.iload_n 3, 1) := by decide +kernel
theorem dX11_between_12 : decode cX11_between 12 = .ok (.invokevirtual 153, 3) := by decide +kernel
theorem dX11_between_15 : decode cX11_between 15 = .ok (.ifCond .eq 13, 3) := by decide +kernel
theorem dX11_between_18 : decode cX11_between 18 = .ok (.aload_n 0, 1) := by decide +kernel
theorem dX11_between_19 : decode cX11_between 19 = .ok (.iload_n 1, 1) := by decide +kernel
theorem dX11_between_20 : decode cX11_between 20 = .ok (.iload_n 2, 1) := by decide +kernel
theorem dX11_between_21 : decode cX11_between 21 = .ok (.iload_n 3, 1) := by decide +kernel
theorem dX11_between_22 : decode cX11_between 22 = .ok (.invokevirtual 345, 3) := by decide +kernel
theorem dX11_between_25 : decode cX11_between 25 = .ok (.goto 4, 3) := by decide +kernel
theorem dX11_between_28 : decode cX11_between 28 = .ok (.iconst (-1), 1) := by decide +kernel
theorem dX11_between_29 : decode cX11_between 29 = .ok (.ireturn, 1) := by decide +kernel
theorem gX11_wider_X11_isKey : GoodIn wsX11_wider (wsV RX11 153 RX11 yX11_isKey wsX11_isKey) := gw_c t_w585 (gw_c t_w584 (gw_c t_w583 (gw_c t_w510 (gw_c t_w582 (gw_t)))))
theorem gX11_wider_X11_rowOf : GoodIn wsX11_wider (wsV RX11 101 RX11 yX11_rowOf wsX11_rowOf) := gw_c t_w542 (gw_c t_w541 (gw_c t_w540 (gw_c t_w510 (gw_c t_w539 (gw_t)))))
theorem gX11_wider_X11_many : GoodIn wsX11_wider (wsV RX11 115 RX11 yX11_many wsX11_many) := gw_c t_w554 (gw_c t_w553 (gw_c t_w552 (gw_c t_w510 (gw_c t_w551 (gw_t)))))
theorem dX11_wider_0 : decode cX11_wider 0 = .ok (.aload_n 0, 1) := by decide +kernel
theorem dX11_wider_1 : decode cX11_wider 1 = .ok (.iload_n 1, 1) := by decide +kernel
theorem dX11_wider_2 : decode cX11_wider 2 = .ok (.iload_n 2, 1) := by decide +kernel
theorem dX11_wider_3 : decode cX11_wider 3 = .ok (.invokevirtual 153, 3) := by decide +kernel
theorem dX11_wider_6 : decode cX11_wider 6 = .ok (.ifCond .eq 12, 3) := by decide +kernel
theorem dX11_wider_9 : decode cX11_wider 9 = .ok (.aload_n 0, 1) := by decide +kernel
theorem dX11_wider_10 : decode cX11_wider 10 = .ok (.iload_n 1, 1) := by decide +kernel
theorem dX11_wider_11 : decode cX11_wider 11 = .ok (.iload_n 3, 1) := by decide +kernel
theorem dX11_wider_12 : decode cX11_wider 12 = .ok (.invokevirtual 153, 3) := by decide +kernel
theorem dX11_wider_15 : decode cX11_wider 15 = .ok (.ifCond .ne 6, 3) := by decide +kernel
theorem dX11_wider_18 : decode cX11_wider 18 = .ok (.ldc 253, 2) := by decide +kernel
theorem dX11_wider_20 : decode cX11_wider 20 = .ok (.ireturn, 1) := by decide +kernel
theorem dX11_wider_21 : decode cX11_wider 21 = .ok (.aload_n 0, 1) := by decide +kernel
theorem dX11_wider_22 : decode cX11_wider 22 = .ok (.iload_n 1, 1) := by decide +kernel
theorem dX11_wider_23 : decode cX11_wider 23 = .ok (.aload_n 0, 1) := by decide +kernel
theorem dX11_wider_24 : decode cX11_wider 24 = .ok (.iload_n 1, 1) := by decide +kernel
theorem dX11_wider_25 : decode cX11_wider 25 = .ok (.iload_n 2, 1) := by decide +kernel
theorem dX11_wider_26 : decode cX11_wider 26 = .ok (.invokevirtual 101, 3) := by decide +kernel
theorem dX11_wider_29 : decode cX11_wider 29 = .ok (.invokevirtual 115, 3) := by decide +kernel
theorem dX11_wider_32 : decode cX11_wider 32 = .ok (.istore 4, 2) := by decide +kernel
theorem dX11_wider_34 : decode cX11_wider 34 = .ok (.aload_n 0, 1) := by decide +kernel
theorem dX11_wider_35 : decode cX11_wider 35 = .ok (.iload_n 1, 1) := by decide +kernel
theorem dX11_wider_36 : decode cX11_wider 36 = .ok (.aload_n 0, 1) := by decide +kernel
theorem dX11_wider_37 : decode cX11_wider 37 = .ok (.iload_n 1, 1) := by decide +kernel
theorem dX11_wider_38 : decode cX11_wider 38 = .ok (.iload_n 3, 1) := by decide +kernel
theorem dX11_wider_39 : decode cX11_wider 39 = .ok (.invokevirtual 101, 3) := by decide +kernel
theorem dX11_wider_42 : decode cX11_wider 42 = .ok (.invokevirtual 115, 3) := by decide +kernel
theorem dX11_wider_45 : decode cX11_wider 45 = .ok (.istore 5, 2) := by decide +kernel
theorem dX11_wider_47 : decode cX11_wider 47 = .ok (.iload 4, 2) := by decide +kernel
theorem dX11_wider_49 : decode cX11_wider 49 = .ok (.iload 5, 2) := by decide +kernel
theorem dX11_wider_51 : decode cX11_wider 51 = .ok (.if_icmp .ge 7, 3) := by decide +kernel
theorem dX11_wider_54 : decode cX11_wider 54 = .ok (.iconst 1, 1) := by decide +kernel
theorem dX11_wider_55 : decode cX11_wider 55 = .ok (.goto 15, 3) := by decide +kernel
theorem dX11_wider_58 : decode cX11_wider 58 = .ok (.iload 4, 2) := by decide +kernel
theorem dX11_wider_60 : decode cX11_wider 60 = .ok (.iload 5, 2) := by decide +kernel
theorem dX11_wider_62 : decode cX11_wider 62 = .ok (.if_icmp .le 7, 3) := by decide +kernel
theorem dX11_wider_65 : decode cX11_wider 65 = .ok (.iconst (-1), 1) := by decide +kernel
theorem dX11_wider_66 : decode cX11_wider 66 = .ok (.goto 4, 3) := by decide +kernel
theorem dX11_wider_69 : decode cX11_wider 69 = .ok (.iconst 0, 1) := by decide +kernel
theorem dX11_wider_70 : decode cX11_wider 70 = .ok (.ireturn, 1) := by decide +kernel
theorem gX11_before_X11_isKey : GoodIn wsX11_before (wsV RX11 153 RX11 yX11_isKey wsX11_isKey) := gw_c t_w585 (gw_c t_w584 (gw_c t_w583 (gw_c t_w510 (gw_c t_w582 (gw_t)))))
theorem gX11_before_X11_spells : GoodIn wsX11_before (wsV RX11 156 RX11 yX11_spells wsX11_spells) := gw_c t_w589 (gw_c t_w588 (gw_c t_w587 (gw_c t_w510 (gw_c t_w586 (gw_t)))))
theorem dX11_before_0 : decode cX11_before 0 = .ok (.aload_n 0, 1) := by decide +kernel
theorem dX11_before_1 : decode cX11_before 1 = .ok (.iload_n 1, 1) := by decide +kernel
theorem dX11_before_2 : decode cX11_before 2 = .ok (.iload_n 2, 1) := by decide +kernel
theorem dX11_before_3 : decode cX11_before 3 = .ok (.invokevirtual 153, 3) := by decide +kernel
theorem dX11_before_6 : decode cX11_before 6 = .ok (.ifCond .eq 12, 3) := by decide +kernel
theorem dX11_before_9 : decode cX11_before 9 = .ok (.aload_n 0, 1) := by decide +kernel
theorem dX11_before_10 : decode cX11_before 10 = .ok (.iload_n 1, 1) := by decide +kernel
theorem dX11_before_11 : decode cX11_before 11 = .ok (.iload_n 3, 1) := by decide +kernel
theorem dX11_before_12 : decode cX11_before 12 = .ok (.invokevirtual 153, 3) := by decide +kernel
theorem dX11_before_15 : decode cX11_before 15 = .ok (.ifCond .ne 6, 3) := by decide +kernel
theorem dX11_before_18 : decode cX11_before 18 = .ok (.ldc 253, 2) := by decide +kernel
theorem dX11_before_20 : decode cX11_before 20 = .ok (.ireturn, 1) := by decide +kernel
theorem dX11_before_21 : decode cX11_before 21 = .ok (.aload_n 0, 1) := by decide +kernel
theorem dX11_before_22 : decode cX11_before 22 = .ok (.iload_n 1, 1) := by decide +kernel
theorem dX11_before_23 : decode cX11_before 23 = .ok (.iload_n 2, 1) := by decide +kernel
theorem dX11_before_24 : decode cX11_before 24 = .ok (.aload_n 0, 1) := by decide +kernel
theorem dX11_before_25 : decode cX11_before 25 = .ok (.getfield 25, 3) := by decide +kernel
theorem dX11_before_28 : decode cX11_before 28 = .ok (.invokevirtual 156, 3) := by decide +kernel
theorem dX11_before_31 : decode cX11_before 31 = .ok (.istore 4, 2) := by decide +kernel
theorem dX11_before_33 : decode cX11_before 33 = .ok (.aload_n 0, 1) := by decide +kernel
theorem dX11_before_34 : decode cX11_before 34 = .ok (.iload_n 1, 1) := by decide +kernel
theorem dX11_before_35 : decode cX11_before 35 = .ok (.iload_n 3, 1) := by decide +kernel
theorem dX11_before_36 : decode cX11_before 36 = .ok (.aload_n 0, 1) := by decide +kernel
theorem dX11_before_37 : decode cX11_before 37 = .ok (.getfield 28, 3) := by decide +kernel
theorem dX11_before_40 : decode cX11_before 40 = .ok (.invokevirtual 156, 3) := by decide +kernel
theorem dX11_before_43 : decode cX11_before 43 = .ok (.istore 5, 2) := by decide +kernel
theorem dX11_before_45 : decode cX11_before 45 = .ok (.iconst 0, 1) := by decide +kernel
theorem dX11_before_46 : decode cX11_before 46 = .ok (.istore 6, 2) := by decide +kernel
theorem dX11_before_48 : decode cX11_before 48 = .ok (.iload 6, 2) := by decide +kernel
theorem dX11_before_50 : decode cX11_before 50 = .ok (.iload 4, 2) := by decide +kernel
theorem dX11_before_52 : decode cX11_before 52 = .ok (.if_icmp .ge 56, 3) := by decide +kernel
theorem dX11_before_55 : decode cX11_before 55 = .ok (.iload 6, 2) := by decide +kernel
theorem dX11_before_57 : decode cX11_before 57 = .ok (.iload 5, 2) := by decide +kernel
theorem dX11_before_59 : decode cX11_before 59 = .ok (.if_icmp .ge 49, 3) := by decide +kernel
theorem dX11_before_62 : decode cX11_before 62 = .ok (.aload_n 0, 1) := by decide +kernel
theorem dX11_before_63 : decode cX11_before 63 = .ok (.getfield 25, 3) := by decide +kernel
theorem dX11_before_66 : decode cX11_before 66 = .ok (.iload 6, 2) := by decide +kernel
theorem dX11_before_68 : decode cX11_before 68 = .ok (.iaload, 1) := by decide +kernel
theorem dX11_before_69 : decode cX11_before 69 = .ok (.aload_n 0, 1) := by decide +kernel
theorem dX11_before_70 : decode cX11_before 70 = .ok (.getfield 28, 3) := by decide +kernel
theorem dX11_before_73 : decode cX11_before 73 = .ok (.iload 6, 2) := by decide +kernel
theorem dX11_before_75 : decode cX11_before 75 = .ok (.iaload, 1) := by decide +kernel
theorem dX11_before_76 : decode cX11_before 76 = .ok (.if_icmp .eq 26, 3) := by decide +kernel
theorem dX11_before_79 : decode cX11_before 79 = .ok (.aload_n 0, 1) := by decide +kernel
theorem dX11_before_80 : decode cX11_before 80 = .ok (.getfield 25, 3) := by decide +kernel
theorem dX11_before_83 : decode cX11_before 83 = .ok (.iload 6, 2) := by decide +kernel
theorem dX11_before_85 : decode cX11_before 85 = .ok (.iaload, 1) := by decide +kernel
theorem dX11_before_86 : decode cX11_before 86 = .ok (.aload_n 0, 1) := by decide +kernel
theorem dX11_before_87 : decode cX11_before 87 = .ok (.getfield 28, 3) := by decide +kernel
theorem dX11_before_90 : decode cX11_before 90 = .ok (.iload 6, 2) := by decide +kernel
theorem dX11_before_92 : decode cX11_before 92 = .ok (.iaload, 1) := by decide +kernel
theorem dX11_before_93 : decode cX11_before 93 = .ok (.if_icmp .ge 7, 3) := by decide +kernel
theorem dX11_before_96 : decode cX11_before 96 = .ok (.iconst (-1), 1) := by decide +kernel
theorem dX11_before_97 : decode cX11_before 97 = .ok (.goto 4, 3) := by decide +kernel
theorem dX11_before_100 : decode cX11_before 100 = .ok (.iconst 1, 1) := by decide +kernel
theorem dX11_before_101 : decode cX11_before 101 = .ok (.ireturn, 1) := by decide +kernel
theorem dX11_before_102 : decode cX11_before 102 = .ok (.iinc 6 1, 3) := by decide +kernel
theorem dX11_before_105 : decode cX11_before 105 = .ok (.goto (-57), 3) := by decide +kernel
theorem dX11_before_108 : decode cX11_before 108 = .ok (.iload 4, 2) := by decide +kernel
theorem dX11_before_110 : decode cX11_before 110 = .ok (.iload 5, 2) := by decide +kernel
theorem dX11_before_112 : decode cX11_before 112 = .ok (.if_icmp .ge 7, 3) := by decide +kernel
theorem dX11_before_115 : decode cX11_before 115 = .ok (.iconst (-1), 1) := by decide +kernel
theorem dX11_before_116 : decode cX11_before 116 = .ok (.goto 15, 3) := by decide +kernel
theorem dX11_before_119 : decode cX11_before 119 = .ok (.iload 4, 2) := by decide +kernel
theorem dX11_before_121 : decode cX11_before 121 = .ok (.iload 5, 2) := by decide +kernel
theorem dX11_before_123 : decode cX11_before 123 = .ok (.if_icmp .le 7, 3) := by decide +kernel
theorem dX11_before_126 : decode cX11_before 126 = .ok (.iconst 1, 1) := by decide +kernel
theorem dX11_before_127 : decode cX11_before 127 = .ok (.goto 4, 3) := by decide +kernel
theorem dX11_before_130 : decode cX11_before 130 = .ok (.iconst 0, 1) := by decide +kernel
theorem dX11_before_131 : decode cX11_before 131 = .ok (.ireturn, 1) := by decide +kernel
theorem gX11_moved_X11_isPlace : GoodIn wsX11_moved (va_wsS RX11 133 yX11_isPlace wsX11_isPlace) := gw_c t_w561 (gw_c t_w560 (gw_c t_w510 (gw_c t_w559 (gw_t))))
theorem gX11_moved_X11_isLevel : GoodIn wsX11_moved (va_wsS RX11 84 yX11_isLevel wsX11_isLevel) := gw_c t_w522 (gw_c t_w521 (gw_c t_w510 (gw_c t_w520 (gw_t))))
theorem gX11_moved_X11_in : GoodIn wsX11_moved (va_wsS RX11 72 yX11_in wsX11_in) := gw_c t_w519 (gw_c t_w518 (gw_c t_w510 (gw_c t_w517 (gw_t))))
theorem gX11_moved_X11_down : GoodIn wsX11_moved (va_wsS RX11 247 yX11_down wsX11_down) := gw_c t_w623 (gw_c t_w622 (gw_c t_w510 (gw_c t_w621 (gw_t))))
theorem gX11_moved_X11_keyAtPlace : GoodIn wsX11_moved (wsV RX11 137 RX11 yX11_keyAtPlace wsX11_keyAtPlace) := gw_c t_w565 (gw_c t_w564 (gw_c t_w563 (gw_c t_w510 (gw_c t_w562 (gw_t)))))
theorem dX11_moved_0 : decode cX11_moved 0 = .ok (.iload_n 1, 1) := by decide +kernel
theorem dX11_moved_1 : decode cX11_moved 1 = .ok (.iload_n 2, 1) := by decide +kernel
theorem dX11_moved_2 : decode cX11_moved 2 = .ok (.invokestatic 133, 3) := by decide +kernel
theorem dX11_moved_5 : decode cX11_moved 5 = .ok (.ifCond .eq 11, 3) := by decide +kernel
theorem dX11_moved_8 : decode cX11_moved 8 = .ok (.iload 5, 2) := by decide +kernel
theorem dX11_moved_10 : decode cX11_moved 10 = .ok (.invokestatic 84, 3) := by decide +kernel
theorem dX11_moved_13 : decode cX11_moved 13 = .ok (.ifCond .ne 5, 3) := by decide +kernel
theorem dX11_moved_16 : decode cX11_moved 16 = .ok (.iconst (-1), 1) := by decide +kernel
theorem dX11_moved_17 : decode cX11_moved 17 = .ok (.ireturn, 1) := by decide +kernel
theorem dX11_moved_18 : decode cX11_moved 18 = .ok (.iload_n 1, 1) := by decide +kernel
theorem dX11_moved_19 : decode cX11_moved 19 = .ok (.i2l, 1) := by decide +kernel
theorem dX11_moved_20 : decode cX11_moved 20 = .ok (.iload_n 3, 1) := by decide +kernel
theorem dX11_moved_21 : decode cX11_moved 21 = .ok (.i2l, 1) := by decide +kernel
theorem dX11_moved_22 : decode cX11_moved 22 = .ok (.ladd, 1) := by decide +kernel
theorem dX11_moved_23 : decode cX11_moved 23 = .ok (.lstore 6, 2) := by decide +kernel
theorem dX11_moved_25 : decode cX11_moved 25 = .ok (.iload_n 2, 1) := by decide +kernel
theorem dX11_moved_26 : decode cX11_moved 26 = .ok (.i2l, 1) := by decide +kernel
theorem dX11_moved_27 : decode cX11_moved 27 = .ok (.iload 4, 2) := by decide +kernel
theorem dX11_moved_29 : decode cX11_moved 29 = .ok (.i2l, 1) := by decide +kernel
theorem dX11_moved_30 : decode cX11_moved 30 = .ok (.ladd, 1) := by decide +kernel
theorem dX11_moved_31 : decode cX11_moved 31 = .ok (.lstore 8, 2) := by decide +kernel
theorem dX11_moved_33 : decode cX11_moved 33 = .ok (.lload 6, 2) := by decide +kernel
theorem dX11_moved_35 : decode cX11_moved 35 = .ok (.lload 6, 2) := by decide +kernel
theorem dX11_moved_37 : decode cX11_moved 37 = .ok (.l2i, 1) := by decide +kernel
theorem dX11_moved_38 : decode cX11_moved 38 = .ok (.i2l, 1) := by decide +kernel
theorem dX11_moved_39 : decode cX11_moved 39 = .ok (.lcmp, 1) := by decide +kernel
theorem dX11_moved_40 : decode cX11_moved 40 = .ok (.ifCond .ne 13, 3) := by decide +kernel
theorem dX11_moved_43 : decode cX11_moved 43 = .ok (.lload 8, 2) := by decide +kernel
theorem dX11_moved_45 : decode cX11_moved 45 = .ok (.lload 8, 2) := by decide +kernel
theorem dX11_moved_47 : decode cX11_moved 47 = .ok (.l2i, 1) := by decide +kernel
theorem dX11_moved_48 : decode cX11_moved 48 = .ok (.i2l, 1) := by decide +kernel
theorem dX11_moved_49 : decode cX11_moved 49 = .ok (.lcmp, 1) := by decide +kernel
theorem dX11_moved_50 : decode cX11_moved 50 = .ok (.ifCond .eq 6, 3) := by decide +kernel
theorem dX11_moved_53 : decode cX11_moved 53 = .ok (.bipush (-2), 2) := by decide +kernel
theorem dX11_moved_55 : decode cX11_moved 55 = .ok (.ireturn, 1) := by decide +kernel
theorem dX11_moved_56 : decode cX11_moved 56 = .ok (.lload 6, 2) := by decide +kernel
theorem dX11_moved_58 : decode cX11_moved 58 = .ok (.ldc2_w 76, 3) := by decide +kernel
theorem dX11_moved_61 : decode cX11_moved 61 = .ok (.ldc2_w 78, 3) := by decide +kernel
theorem dX11_moved_64 : decode cX11_moved 64 = .ok (.invokestatic 72, 3) := by decide +kernel
theorem dX11_moved_67 : decode cX11_moved 67 = .ok (.ifCond .ne 6, 3) := by decide +kernel
theorem dX11_moved_70 : decode cX11_moved 70 = .ok (.bipush (-3), 2) := by decide +kernel
theorem dX11_moved_72 : decode cX11_moved 72 = .ok (.ireturn, 1) := by decide +kernel
theorem dX11_moved_73 : decode cX11_moved 73 = .ok (.lload 8, 2) := by decide +kernel
theorem dX11_moved_75 : decode cX11_moved 75 = .ok (.ldc2_w 110, 3) := by decide +kernel
theorem dX11_moved_78 : decode cX11_moved 78 = .ok (.lload 8, 2) := by decide +kernel
theorem dX11_moved_80 : decode cX11_moved 80 = .ok (.ldc2_w 110, 3) := by decide +kernel
theorem dX11_moved_83 : decode cX11_moved 83 = .ok (.invokestatic 247, 3) := by decide +kernel
theorem dX11_moved_86 : decode cX11_moved 86 = .ok (.lmul, 1) := by decide +kernel
theorem dX11_moved_87 : decode cX11_moved 87 = .ok (.lsub, 1) := by decide +kernel
theorem dX11_moved_88 : decode cX11_moved 88 = .ok (.lstore 8, 2) := by decide +kernel
theorem dX11_moved_90 : decode cX11_moved 90 = .ok (.aload_n 0, 1) := by decide +kernel
theorem dX11_moved_91 : decode cX11_moved 91 = .ok (.lload 6, 2) := by decide +kernel
theorem dX11_moved_93 : decode cX11_moved 93 = .ok (.l2i, 1) := by decide +kernel
theorem dX11_moved_94 : decode cX11_moved 94 = .ok (.lload 8, 2) := by decide +kernel
theorem dX11_moved_96 : decode cX11_moved 96 = .ok (.l2i, 1) := by decide +kernel
theorem dX11_moved_97 : decode cX11_moved 97 = .ok (.iload 5, 2) := by decide +kernel
theorem dX11_moved_99 : decode cX11_moved 99 = .ok (.invokevirtual 137, 3) := by decide +kernel
theorem dX11_moved_102 : decode cX11_moved 102 = .ok (.ireturn, 1) := by decide +kernel
theorem dX11_blankFrom_0 : decode cX11_blankFrom 0 = .ok (.iload_n 1, 1) := by decide +kernel
theorem dX11_blankFrom_1 : decode cX11_blankFrom 1 = .ok (.istore_n 3, 1) := by decide +kernel
theorem dX11_blankFrom_2 : decode cX11_blankFrom 2 = .ok (.iload_n 3, 1) := by decide +kernel
theorem dX11_blankFrom_3 : decode cX11_blankFrom 3 = .ok (.iload_n 2, 1) := by decide +kernel
theorem dX11_blankFrom_4 : decode cX11_blankFrom 4 = .ok (.if_icmp .ge 21, 3) := by decide +kernel
theorem dX11_blankFrom_7 : decode cX11_blankFrom 7 = .ok (.aload_n 0, 1) := by decide +kernel
theorem dX11_blankFrom_8 : decode cX11_blankFrom 8 = .ok (.getfield 31, 3) := by decide +kernel
theorem dX11_blankFrom_11 : decode cX11_blankFrom 11 = .ok (.iload_n 3, 1) := by decide +kernel
theorem dX11_blankFrom_12 : decode cX11_blankFrom 12 = .ok (.baload, 1) := by decide +kernel
theorem dX11_blankFrom_13 : decode cX11_blankFrom 13 = .ok (.bipush 32, 2) := by decide +kernel
theorem dX11_blankFrom_15 : decode cX11_blankFrom 15 = .ok (.if_icmp .eq 10, 3) := by decide +kernel
theorem dX11_blankFrom_18 : decode cX11_blankFrom 18 = .ok (.iload_n 3, 1) := by decide +kernel
theorem dX11_blankFrom_19 : decode cX11_blankFrom 19 = .ok (.iconst 1, 1) := by decide +kernel
theorem dX11_blankFrom_20 : decode cX11_blankFrom 20 = .ok (.iadd, 1) := by decide +kernel
theorem dX11_blankFrom_21 : decode cX11_blankFrom 21 = .ok (.istore_n 3, 1) := by decide +kernel
theorem dX11_blankFrom_22 : decode cX11_blankFrom 22 = .ok (.goto (-20), 3) := by decide +kernel
theorem dX11_blankFrom_25 : decode cX11_blankFrom 25 = .ok (.iload_n 3, 1) := by decide +kernel
theorem dX11_blankFrom_26 : decode cX11_blankFrom 26 = .ok (.ireturn, 1) := by decide +kernel
theorem gX11_wordTo_X11_in : GoodIn wsX11_wordTo (va_wsS RX11 72 yX11_in wsX11_in) := gw_c t_w519 (gw_c t_w518 (gw_c t_w510 (gw_c t_w517 (gw_t))))
theorem dX11_wordTo_0 : decode cX11_wordTo 0 = .ok (.lconst 0, 1) := by decide +kernel
theorem dX11_wordTo_1 : decode cX11_wordTo 1 = .ok (.lstore_n 2, 1) := by decide +kernel
theorem dX11_wordTo_2 : decode cX11_wordTo 2 = .ok (.iconst 0, 1) := by decide +kernel
theorem dX11_wordTo_3 : decode cX11_wordTo 3 = .ok (.istore 4, 2) := by decide +kernel
theorem dX11_wordTo_5 : decode cX11_wordTo 5 = .ok (.iload 4, 2) := by decide +kernel
theorem dX11_wordTo_7 : decode cX11_wordTo 7 = .ok (.iload_n 1, 1) := by decide +kernel
theorem dX11_wordTo_8 : decode cX11_wordTo 8 = .ok (.if_icmp .ge 61, 3) := by decide +kernel
theorem dX11_wordTo_11 : decode cX11_wordTo 11 = .ok (.aload_n 0, 1) := by decide +kernel
theorem dX11_wordTo_12 : decode cX11_wordTo 12 = .ok (.getfield 31, 3) := by decide +kernel
theorem dX11_wordTo_15 : decode cX11_wordTo 15 = .ok (.iload 4, 2) := by decide +kernel
theorem dX11_wordTo_17 : decode cX11_wordTo 17 = .ok (.baload, 1) := by decide +kernel
theorem dX11_wordTo_18 : decode cX11_wordTo 18 = .ok (.i2l, 1) := by decide +kernel
theorem dX11_wordTo_19 : decode cX11_wordTo 19 = .ok (.ldc2_w 348, 3) := by decide +kernel
theorem dX11_wordTo_22 : decode cX11_wordTo 22 = .ok (.ldc2_w 350, 3) := by decide +kernel
theorem dX11_wordTo_25 : decode cX11_wordTo 25 = .ok (.invokestatic 72, 3) := by decide +kernel
theorem dX11_wordTo_28 : decode cX11_wordTo 28 = .ok (.ifCond .eq 10, 3) := by decide +kernel
theorem dX11_wordTo_31 : decode cX11_wordTo 31 = .ok (.iload 4, 2) := by decide +kernel
theorem dX11_wordTo_33 : decode cX11_wordTo 33 = .ok (.bipush 7, 2) := by decide +kernel
theorem dX11_wordTo_35 : decode cX11_wordTo 35 = .ok (.if_icmp .le 7, 3) := by decide +kernel
theorem dX11_wordTo_38 : decode cX11_wordTo 38 = .ok (.ldc2_w 352, 3) := by decide +kernel
theorem dX11_wordTo_41 : decode cX11_wordTo 41 = .ok (.lreturn, 1) := by decide +kernel
theorem dX11_wordTo_42 : decode cX11_wordTo 42 = .ok (.ldc2_w 354, 3) := by decide +kernel
theorem dX11_wordTo_45 : decode cX11_wordTo 45 = .ok (.lload_n 2, 1) := by decide +kernel
theorem dX11_wordTo_46 : decode cX11_wordTo 46 = .ok (.lmul, 1) := by decide +kernel
theorem dX11_wordTo_47 : decode cX11_wordTo 47 = .ok (.aload_n 0, 1) := by decide +kernel
theorem dX11_wordTo_48 : decode cX11_wordTo 48 = .ok (.getfield 31, 3) := by decide +kernel
theorem dX11_wordTo_51 : decode cX11_wordTo 51 = .ok (.iload 4, 2) := by decide +kernel
theorem dX11_wordTo_53 : decode cX11_wordTo 53 = .ok (.baload, 1) := by decide +kernel
theorem dX11_wordTo_54 : decode cX11_wordTo 54 = .ok (.i2l, 1) := by decide +kernel
theorem dX11_wordTo_55 : decode cX11_wordTo 55 = .ok (.ladd, 1) := by decide +kernel
theorem dX11_wordTo_56 : decode cX11_wordTo 56 = .ok (.ldc2_w 348, 3) := by decide +kernel
theorem dX11_wordTo_59 : decode cX11_wordTo 59 = .ok (.lsub, 1) := by decide +kernel
theorem dX11_wordTo_60 : decode cX11_wordTo 60 = .ok (.lconst 1, 1) := by decide +kernel
theorem dX11_wordTo_61 : decode cX11_wordTo 61 = .ok (.ladd, 1) := by decide +kernel
theorem dX11_wordTo_62 : decode cX11_wordTo 62 = .ok (.lstore_n 2, 1) := by decide +kernel
theorem dX11_wordTo_63 : decode cX11_wordTo 63 = .ok (.iinc 4 1, 3) := by decide +kernel
theorem dX11_wordTo_66 : decode cX11_wordTo 66 = .ok (.goto (-61), 3) := by decide +kernel
theorem dX11_wordTo_69 : decode cX11_wordTo 69 = .ok (.lload_n 2, 1) := by decide +kernel
theorem dX11_wordTo_70 : decode cX11_wordTo 70 = .ok (.lreturn, 1) := by decide +kernel
theorem gX11_readsUpTo_X11_readsName : GoodIn wsX11_readsUpTo (wsV RX11 213 RX11 yX11_readsName wsX11_readsName) := gw_c t_w609 (gw_c t_w608 (gw_c t_w607 (gw_c t_w510 (gw_c t_w606 (gw_t)))))
theorem dX11_readsUpTo_0 : decode cX11_readsUpTo 0 = .ok (.aload_n 0, 1) := by decide +kernel
theorem dX11_readsUpTo_1 : decode cX11_readsUpTo 1 = .ok (.iload_n 1, 1) := by decide +kernel
theorem dX11_readsUpTo_2 : decode cX11_readsUpTo 2 = .ok (.invokevirtual 213, 3) := by decide +kernel
theorem dX11_readsUpTo_5 : decode cX11_readsUpTo 5 = .ok (.istore_n 2, 1) := by decide +kernel
theorem dX11_readsUpTo_6 : decode cX11_readsUpTo 6 = .ok (.aload_n 0, 1) := by decide +kernel
theorem dX11_readsUpTo_7 : decode cX11_readsUpTo 7 = .ok (.iload_n 2, 1) := by decide +kernel
theorem dX11_readsUpTo_8 : decode cX11_readsUpTo 8 = .ok (.ifCond .ne 19, 3) := by decide +kernel
theorem dX11_readsUpTo_11 : decode cX11_readsUpTo 11 = .ok (.aload_n 0, 1) := by decide +kernel
theorem dX11_readsUpTo_12 : decode cX11_readsUpTo 12 = .ok (.getfield 167, 3) := by decide +kernel
theorem dX11_readsUpTo_15 : decode cX11_readsUpTo 15 = .ok (.sipush (-1000), 3) := by decide +kernel
theorem dX11_readsUpTo_18 : decode cX11_readsUpTo 18 = .ok (.iload_n 1, 1) := by decide +kernel
theorem dX11_readsUpTo_19 : decode cX11_readsUpTo 19 = .ok (.isub, 1) := by decide +kernel
theorem dX11_readsUpTo_20 : decode cX11_readsUpTo 20 = .ok (.if_icmp .ne 7, 3) := by decide +kernel
theorem dX11_readsUpTo_23 : decode cX11_readsUpTo 23 = .ok (.iconst 1, 1) := by decide +kernel
theorem dX11_readsUpTo_24 : decode cX11_readsUpTo 24 = .ok (.goto 4, 3) := by decide +kernel
theorem dX11_readsUpTo_27 : decode cX11_readsUpTo 27 = .ok (.iconst 0, 1) := by decide +kernel
theorem dX11_readsUpTo_28 : decode cX11_readsUpTo 28 = .ok (.putfield 356, 3) := by decide +kernel
theorem dX11_readsUpTo_31 : decode cX11_readsUpTo 31 = .ok (.iload_n 2, 1) := by decide +kernel
theorem dX11_readsUpTo_32 : decode cX11_readsUpTo 32 = .ok (.ireturn, 1) := by decide +kernel
theorem gX11_besideFirst_X11_laysBeside : GoodIn wsX11_besideFirst (wsV RX11 266 RX11 yX11_laysBeside wsX11_laysBeside) := gw_c t_w638 (gw_c t_w637 (gw_c t_w636 (gw_c t_w510 (gw_c t_w635 (gw_t)))))
theorem dX11_besideFirst_0 : decode cX11_besideFirst 0 = .ok (.aload_n 0, 1) := by decide +kernel
theorem dX11_besideFirst_1 : decode cX11_besideFirst 1 = .ok (.aload_n 0, 1) := by decide +kernel
theorem dX11_besideFirst_2 : decode cX11_besideFirst 2 = .ok (.getfield 190, 3) := by decide +kernel
theorem dX11_besideFirst_5 : decode cX11_besideFirst 5 = .ok (.aload_n 0, 1) := by decide +kernel
theorem dX11_besideFirst_6 : decode cX11_besideFirst 6 = .ok (.getfield 193, 3) := by decide +kernel
theorem dX11_besideFirst_9 : decode cX11_besideFirst 9 = .ok (.iload_n 1, 1) := by decide +kernel
theorem dX11_besideFirst_10 : decode cX11_besideFirst 10 = .ok (.invokevirtual 266, 3) := by decide +kernel
theorem dX11_besideFirst_13 : decode cX11_besideFirst 13 = .ok (.aload_n 0, 1) := by decide +kernel
theorem dX11_besideFirst_14 : decode cX11_besideFirst 14 = .ok (.getfield 257, 3) := by decide +kernel
theorem dX11_besideFirst_17 : decode cX11_besideFirst 17 = .ok (.ifCond .ne 8, 3) := by decide +kernel
theorem dX11_besideFirst_20 : decode cX11_besideFirst 20 = .ok (.bipush (-2), 2) := by decide +kernel
theorem dX11_besideFirst_22 : decode cX11_besideFirst 22 = .ok (.goto 7, 3) := by decide +kernel
theorem dX11_besideFirst_25 : decode cX11_besideFirst 25 = .ok (.aload_n 0, 1) := by decide +kernel
theorem dX11_besideFirst_26 : decode cX11_besideFirst 26 = .ok (.getfield 260, 3) := by decide +kernel
theorem dX11_besideFirst_29 : decode cX11_besideFirst 29 = .ok (.ireturn, 1) := by decide +kernel
theorem gX11_answersTwo_X11_blankFrom : GoodIn wsX11_answersTwo (wsV RX11 360 RX11 yX11_blankFrom wsX11_blankFrom) := gw_c t_w714 (gw_c t_w713 (gw_c t_w712 (gw_c t_w510 (gw_c t_w711 (gw_t)))))
theorem gX11_answersTwo_X11_readsUpTo : GoodIn wsX11_answersTwo (wsV RX11 363 RX11 yX11_readsUpTo wsX11_readsUpTo) := gw_c t_w718 (gw_c t_w717 (gw_c t_w716 (gw_c t_w510 (gw_c t_w715 (gw_t)))))
theorem gX11_answersTwo_X11_wrong : GoodIn wsX11_answersTwo (wsV RX11 183 RX11 yX11_wrong wsX11_wrong) := gw_c t_w601 (gw_c t_w600 (gw_c t_w599 (gw_c t_w510 (gw_c t_w598 (gw_t)))))
theorem gX11_answersTwo_X11_counted : GoodIn wsX11_answersTwo (wsV RX11 216 RX11 yX11_counted wsX11_counted) := gw_c t_w613 (gw_c t_w612 (gw_c t_w611 (gw_c t_w510 (gw_c t_w610 (gw_t)))))
