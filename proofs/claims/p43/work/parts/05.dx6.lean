theorem dX6_init_0 : decode cX6_init 0 = .ok (.aload_n 0, 1) := by decide +kernel
theorem dX6_init_1 : decode cX6_init 1 = .ok (.invokespecial 3, 3) := by decide +kernel
theorem dX6_init_4 : decode cX6_init 4 = .ok (.aload_n 0, 1) := by decide +kernel
theorem dX6_init_5 : decode cX6_init 5 = .ok (.iconst 4, 1) := by decide +kernel
theorem dX6_init_6 : decode cX6_init 6 = .ok (.newarray .int, 2) := by decide +kernel
theorem dX6_init_8 : decode cX6_init 8 = .ok (.putfield 9, 3) := by decide +kernel
theorem dX6_init_11 : decode cX6_init 11 = .ok (.aload_n 0, 1) := by decide +kernel
theorem dX6_init_12 : decode cX6_init 12 = .ok (.iconst 4, 1) := by decide +kernel
theorem dX6_init_13 : decode cX6_init 13 = .ok (.newarray .int, 2) := by decide +kernel
theorem dX6_init_15 : decode cX6_init 15 = .ok (.putfield 15, 3) := by decide +kernel
theorem dX6_init_18 : decode cX6_init 18 = .ok (.aload_n 0, 1) := by decide +kernel
theorem dX6_init_19 : decode cX6_init 19 = .ok (.iconst 4, 1) := by decide +kernel
theorem dX6_init_20 : decode cX6_init 20 = .ok (.newarray .int, 2) := by decide +kernel
theorem dX6_init_22 : decode cX6_init 22 = .ok (.putfield 18, 3) := by decide +kernel
theorem dX6_init_25 : decode cX6_init 25 = .ok (.aload_n 0, 1) := by decide +kernel
theorem dX6_init_26 : decode cX6_init 26 = .ok (.iconst 0, 1) := by decide +kernel
theorem dX6_init_27 : decode cX6_init 27 = .ok (.putfield 21, 3) := by decide +kernel
theorem dX6_init_30 : decode cX6_init 30 = .ok (.aload_n 0, 1) := by decide +kernel
theorem dX6_init_31 : decode cX6_init 31 = .ok (.iconst 0, 1) := by decide +kernel
theorem dX6_init_32 : decode cX6_init 32 = .ok (.putfield 25, 3) := by decide +kernel
theorem dX6_init_35 : decode cX6_init 35 = .ok (.aload_n 0, 1) := by decide +kernel
theorem dX6_init_36 : decode cX6_init 36 = .ok (.iconst 0, 1) := by decide +kernel
theorem dX6_init_37 : decode cX6_init 37 = .ok (.putfield 28, 3) := by decide +kernel
theorem dX6_init_40 : decode cX6_init 40 = .ok (.aload_n 0, 1) := by decide +kernel
theorem dX6_init_41 : decode cX6_init 41 = .ok (.iconst 0, 1) := by decide +kernel
theorem dX6_init_42 : decode cX6_init 42 = .ok (.putfield 31, 3) := by decide +kernel
theorem dX6_init_45 : decode cX6_init 45 = .ok (.aload_n 0, 1) := by decide +kernel
theorem dX6_init_46 : decode cX6_init 46 = .ok (.iconst 0, 1) := by decide +kernel
theorem dX6_init_47 : decode cX6_init 47 = .ok (.putfield 34, 3) := by decide +kernel
theorem dX6_init_50 : decode cX6_init 50 = .ok (.aload_n 0, 1) := by decide +kernel
theorem dX6_init_51 : decode cX6_init 51 = .ok (.iconst 1, 1) := by decide +kernel
theorem dX6_init_52 : decode cX6_init 52 = .ok (.putfield 37, 3) := by decide +kernel
theorem dX6_init_55 : decode cX6_init 55 = .ok (.aload_n 0, 1) := by decide +kernel
theorem dX6_init_56 : decode cX6_init 56 = .ok (.iconst 1, 1) := by decide +kernel
theorem dX6_init_57 : decode cX6_init 57 = .ok (.putfield 40, 3) := by decide +kernel
theorem dX6_init_60 : decode cX6_init 60 = .ok (.aload_n 0, 1) := by decide +kernel
theorem dX6_init_61 : decode cX6_init 61 = .ok (.aload_n 1, 1) := by decide +kernel
theorem dX6_init_62 : decode cX6_init 62 = .ok (.putfield 44, 3) := by decide +kernel
theorem dX6_init_65 : decode cX6_init 65 = .ok (.return_, 1) := by decide +kernel
theorem gX6_put_X2_rowOfKey : GoodIn wsX6_put (wsV RX6 48 RX2 yX2_rowOfKey wsX2_rowOfKey) := gw_c t_w212 (gw_c t_w96 (gw_c t_w95 (gw_c t_w1 (gw_c t_w94 (gw_t)))))
theorem gX6_put_X2_rowStart : GoodIn wsX6_put (wsV RX6 54 RX2 yX2_rowStart wsX2_rowStart) := gw_c t_w213 (gw_c t_w24 (gw_c t_w23 (gw_c t_w1 (gw_c t_w22 (gw_t)))))
theorem gX6_put_X2_rowLength : GoodIn wsX6_put (wsV RX6 57 RX2 yX2_rowLength wsX2_rowLength) := gw_c t_w214 (gw_c t_w20 (gw_c t_w19 (gw_c t_w1 (gw_c t_w18 (gw_t)))))
theorem gX6_put_X2_isCapRow : GoodIn wsX6_put (wsV RX6 60 RX2 yX2_isCapRow wsX2_isCapRow) := gw_c t_w215 (gw_c t_w61 (gw_c t_w60 (gw_c t_w1 (gw_c t_w59 (gw_t)))))
theorem dX6_put_0 : decode cX6_put 0 = .ok (.aload_n 0, 1) := by decide +kernel
theorem dX6_put_1 : decode cX6_put 1 = .ok (.iload_n 1, 1) := by decide +kernel
theorem dX6_put_2 : decode cX6_put 2 = .ok (.putfield 25, 3) := by decide +kernel
theorem dX6_put_5 : decode cX6_put 5 = .ok (.aload_n 0, 1) := by decide +kernel
theorem dX6_put_6 : decode cX6_put 6 = .ok (.aload_n 0, 1) := by decide +kernel
theorem dX6_put_7 : decode cX6_put 7 = .ok (.getfield 44, 3) := by decide +kernel
theorem dX6_put_10 : decode cX6_put 10 = .ok (.aload_n 0, 1) := by decide +kernel
theorem dX6_put_11 : decode cX6_put 11 = .ok (.getfield 25, 3) := by decide +kernel
theorem dX6_put_14 : decode cX6_put 14 = .ok (.iload_n 2, 1) := by decide +kernel
theorem dX6_put_15 : decode cX6_put 15 = .ok (.invokevirtual 48, 3) := by decide +kernel
theorem dX6_put_18 : decode cX6_put 18 = .ok (.putfield 28, 3) := by decide +kernel
theorem dX6_put_21 : decode cX6_put 21 = .ok (.aload_n 0, 1) := by decide +kernel
theorem dX6_put_22 : decode cX6_put 22 = .ok (.aload_n 0, 1) := by decide +kernel
theorem dX6_put_23 : decode cX6_put 23 = .ok (.getfield 44, 3) := by decide +kernel
theorem dX6_put_26 : decode cX6_put 26 = .ok (.aload_n 0, 1) := by decide +kernel
theorem dX6_put_27 : decode cX6_put 27 = .ok (.getfield 25, 3) := by decide +kernel
theorem dX6_put_30 : decode cX6_put 30 = .ok (.aload_n 0, 1) := by decide +kernel
theorem dX6_put_31 : decode cX6_put 31 = .ok (.getfield 28, 3) := by decide +kernel
theorem dX6_put_34 : decode cX6_put 34 = .ok (.invokevirtual 54, 3) := by decide +kernel
theorem dX6_put_37 : decode cX6_put 37 = .ok (.putfield 31, 3) := by decide +kernel
theorem dX6_put_40 : decode cX6_put 40 = .ok (.aload_n 0, 1) := by decide +kernel
theorem dX6_put_41 : decode cX6_put 41 = .ok (.aload_n 0, 1) := by decide +kernel
theorem dX6_put_42 : decode cX6_put 42 = .ok (.getfield 44, 3) := by decide +kernel
theorem dX6_put_45 : decode cX6_put 45 = .ok (.aload_n 0, 1) := by decide +kernel
theorem dX6_put_46 : decode cX6_put 46 = .ok (.getfield 25, 3) := by decide +kernel
theorem dX6_put_49 : decode cX6_put 49 = .ok (.aload_n 0, 1) := by decide +kernel
theorem dX6_put_50 : decode cX6_put 50 = .ok (.getfield 28, 3) := by decide +kernel
theorem dX6_put_53 : decode cX6_put 53 = .ok (.invokevirtual 57, 3) := by decide +kernel
theorem dX6_put_56 : decode cX6_put 56 = .ok (.putfield 37, 3) := by decide +kernel
theorem dX6_put_59 : decode cX6_put 59 = .ok (.aload_n 0, 1) := by decide +kernel
theorem dX6_put_60 : decode cX6_put 60 = .ok (.iload_n 2, 1) := by decide +kernel
theorem dX6_put_61 : decode cX6_put 61 = .ok (.aload_n 0, 1) := by decide +kernel
theorem dX6_put_62 : decode cX6_put 62 = .ok (.getfield 31, 3) := by decide +kernel
theorem dX6_put_65 : decode cX6_put 65 = .ok (.isub, 1) := by decide +kernel
theorem dX6_put_66 : decode cX6_put 66 = .ok (.putfield 34, 3) := by decide +kernel
theorem dX6_put_69 : decode cX6_put 69 = .ok (.aload_n 0, 1) := by decide +kernel
theorem dX6_put_70 : decode cX6_put 70 = .ok (.aload_n 0, 1) := by decide +kernel
theorem dX6_put_71 : decode cX6_put 71 = .ok (.getfield 44, 3) := by decide +kernel
theorem dX6_put_74 : decode cX6_put 74 = .ok (.aload_n 0, 1) := by decide +kernel
theorem dX6_put_75 : decode cX6_put 75 = .ok (.getfield 25, 3) := by decide +kernel
theorem dX6_put_78 : decode cX6_put 78 = .ok (.aload_n 0, 1) := by decide +kernel
theorem dX6_put_79 : decode cX6_put 79 = .ok (.getfield 28, 3) := by decide +kernel
theorem dX6_put_82 : decode cX6_put 82 = .ok (.invokevirtual 60, 3) := by decide +kernel
theorem dX6_put_85 : decode cX6_put 85 = .ok (.putfield 40, 3) := by decide +kernel
theorem dX6_put_88 : decode cX6_put 88 = .ok (.return_, 1) := by decide +kernel
theorem dX6_band_0 : decode cX6_band 0 = .ok (.aload_n 0, 1) := by decide +kernel
theorem dX6_band_1 : decode cX6_band 1 = .ok (.getfield 40, 3) := by decide +kernel
theorem dX6_band_4 : decode cX6_band 4 = .ok (.ifCond .eq 18, 3) := by decide +kernel
theorem dX6_band_7 : decode cX6_band 7 = .ok (.aload_n 0, 1) := by decide +kernel
theorem dX6_band_8 : decode cX6_band 8 = .ok (.getfield 28, 3) := by decide +kernel
theorem dX6_band_11 : decode cX6_band 11 = .ok (.ifCond .ne 8, 3) := by decide +kernel
theorem dX6_band_14 : decode cX6_band 14 = .ok (.bipush 100, 2) := by decide +kernel
theorem dX6_band_16 : decode cX6_band 16 = .ok (.goto 5, 3) := by decide +kernel
theorem dX6_band_19 : decode cX6_band 19 = .ok (.bipush (-100), 2) := by decide +kernel
theorem dX6_band_21 : decode cX6_band 21 = .ok (.ireturn, 1) := by decide +kernel
theorem dX6_band_22 : decode cX6_band 22 = .ok (.bipush 21, 2) := by decide +kernel
theorem dX6_band_24 : decode cX6_band 24 = .ok (.aload_n 0, 1) := by decide +kernel
theorem dX6_band_25 : decode cX6_band 25 = .ok (.getfield 28, 3) := by decide +kernel
theorem dX6_band_28 : decode cX6_band 28 = .ok (.iconst 1, 1) := by decide +kernel
theorem dX6_band_29 : decode cX6_band 29 = .ok (.isub, 1) := by decide +kernel
theorem dX6_band_30 : decode cX6_band 30 = .ok (.aload_n 0, 1) := by decide +kernel
theorem dX6_band_31 : decode cX6_band 31 = .ok (.getfield 44, 3) := by decide +kernel
theorem dX6_band_34 : decode cX6_band 34 = .ok (.getfield 64, 3) := by decide +kernel
theorem dX6_band_37 : decode cX6_band 37 = .ok (.aload_n 0, 1) := by decide +kernel
theorem dX6_band_38 : decode cX6_band 38 = .ok (.getfield 25, 3) := by decide +kernel
theorem dX6_band_41 : decode cX6_band 41 = .ok (.iaload, 1) := by decide +kernel
theorem dX6_band_42 : decode cX6_band 42 = .ok (.idiv, 1) := by decide +kernel
theorem dX6_band_43 : decode cX6_band 43 = .ok (.isub, 1) := by decide +kernel
theorem dX6_band_44 : decode cX6_band 44 = .ok (.ireturn, 1) := by decide +kernel
theorem dX6_zone_0 : decode cX6_zone 0 = .ok (.aload_n 0, 1) := by decide +kernel
theorem dX6_zone_1 : decode cX6_zone 1 = .ok (.getfield 40, 3) := by decide +kernel
theorem dX6_zone_4 : decode cX6_zone 4 = .ok (.ifCond .eq 7, 3) := by decide +kernel
theorem dX6_zone_7 : decode cX6_zone 7 = .ok (.iconst 0, 1) := by decide +kernel
theorem dX6_zone_8 : decode cX6_zone 8 = .ok (.goto 20, 3) := by decide +kernel
theorem dX6_zone_11 : decode cX6_zone 11 = .ok (.aload_n 0, 1) := by decide +kernel
theorem dX6_zone_12 : decode cX6_zone 12 = .ok (.getfield 34, 3) := by decide +kernel
theorem dX6_zone_15 : decode cX6_zone 15 = .ok (.aload_n 0, 1) := by decide +kernel
theorem dX6_zone_16 : decode cX6_zone 16 = .ok (.getfield 44, 3) := by decide +kernel
theorem dX6_zone_19 : decode cX6_zone 19 = .ok (.getfield 67, 3) := by decide +kernel
theorem dX6_zone_22 : decode cX6_zone 22 = .ok (.aload_n 0, 1) := by decide +kernel
theorem dX6_zone_23 : decode cX6_zone 23 = .ok (.getfield 25, 3) := by decide +kernel
theorem dX6_zone_26 : decode cX6_zone 26 = .ok (.iaload, 1) := by decide +kernel
theorem dX6_zone_27 : decode cX6_zone 27 = .ok (.idiv, 1) := by decide +kernel
theorem dX6_zone_28 : decode cX6_zone 28 = .ok (.ireturn, 1) := by decide +kernel
theorem gX6_numberOf_X6_zone : GoodIn wsX6_numberOf (wsV RX6 70 RX6 yX6_zone wsX6_zone) := gw_c t_w219 (gw_c t_w218 (gw_c t_w217 (gw_c t_w135 (gw_c t_w216 (gw_t)))))
theorem gX6_numberOf_X2_rowsIn : GoodIn wsX6_numberOf (wsV RX6 74 RX2 yX2_rowsIn wsX2_rowsIn) := gw_c t_w220 (gw_c t_w69 (gw_c t_w68 (gw_c t_w1 (gw_c t_w67 (gw_t)))))
theorem gX6_numberOf_X2_columnsIn : GoodIn wsX6_numberOf (wsV RX6 80 RX2 yX2_columnsIn wsX2_columnsIn) := gw_c t_w221 (gw_c t_w73 (gw_c t_w72 (gw_c t_w1 (gw_c t_w71 (gw_t)))))
theorem dX6_numberOf_0 : decode cX6_numberOf 0 = .ok (.aload_n 0, 1) := by decide +kernel
theorem dX6_numberOf_1 : decode cX6_numberOf 1 = .ok (.getfield 40, 3) := by decide +kernel
theorem dX6_numberOf_4 : decode cX6_numberOf 4 = .ok (.ifCond .eq 5, 3) := by decide +kernel
theorem dX6_numberOf_7 : decode cX6_numberOf 7 = .ok (.iconst 0, 1) := by decide +kernel
theorem dX6_numberOf_8 : decode cX6_numberOf 8 = .ok (.ireturn, 1) := by decide +kernel
theorem dX6_numberOf_9 : decode cX6_numberOf 9 = .ok (.iload_n 1, 1) := by decide +kernel
theorem dX6_numberOf_10 : decode cX6_numberOf 10 = .ok (.ifCond .ne 10, 3) := by decide +kernel
theorem dX6_numberOf_13 : decode cX6_numberOf 13 = .ok (.aload_n 0, 1) := by decide +kernel
theorem dX6_numberOf_14 : decode cX6_numberOf 14 = .ok (.invokevirtual 70, 3) := by decide +kernel
theorem dX6_numberOf_17 : decode cX6_numberOf 17 = .ok (.iconst 1, 1) := by decide +kernel
theorem dX6_numberOf_18 : decode cX6_numberOf 18 = .ok (.iadd, 1) := by decide +kernel
theorem dX6_numberOf_19 : decode cX6_numberOf 19 = .ok (.ireturn, 1) := by decide +kernel
theorem dX6_numberOf_20 : decode cX6_numberOf 20 = .ok (.aload_n 0, 1) := by decide +kernel
theorem dX6_numberOf_21 : decode cX6_numberOf 21 = .ok (.getfield 28, 3) := by decide +kernel
theorem dX6_numberOf_24 : decode cX6_numberOf 24 = .ok (.iconst 1, 1) := by decide +kernel
theorem dX6_numberOf_25 : decode cX6_numberOf 25 = .ok (.isub, 1) := by decide +kernel
theorem dX6_numberOf_26 : decode cX6_numberOf 26 = .ok (.aload_n 0, 1) := by decide +kernel
theorem dX6_numberOf_27 : decode cX6_numberOf 27 = .ok (.getfield 44, 3) := by decide +kernel
theorem dX6_numberOf_30 : decode cX6_numberOf 30 = .ok (.iload_n 1, 1) := by decide +kernel
theorem dX6_numberOf_31 : decode cX6_numberOf 31 = .ok (.aload_n 0, 1) := by decide +kernel
theorem dX6_numberOf_32 : decode cX6_numberOf 32 = .ok (.getfield 25, 3) := by decide +kernel
theorem dX6_numberOf_35 : decode cX6_numberOf 35 = .ok (.invokevirtual 74, 3) := by decide +kernel
theorem dX6_numberOf_38 : decode cX6_numberOf 38 = .ok (.idiv, 1) := by decide +kernel
theorem dX6_numberOf_39 : decode cX6_numberOf 39 = .ok (.aload_n 0, 1) := by decide +kernel
theorem dX6_numberOf_40 : decode cX6_numberOf 40 = .ok (.getfield 44, 3) := by decide +kernel
theorem dX6_numberOf_43 : decode cX6_numberOf 43 = .ok (.getfield 77, 3) := by decide +kernel
theorem dX6_numberOf_46 : decode cX6_numberOf 46 = .ok (.iload_n 1, 1) := by decide +kernel
theorem dX6_numberOf_47 : decode cX6_numberOf 47 = .ok (.iaload, 1) := by decide +kernel
theorem dX6_numberOf_48 : decode cX6_numberOf 48 = .ok (.irem, 1) := by decide +kernel
theorem dX6_numberOf_49 : decode cX6_numberOf 49 = .ok (.istore_n 2, 1) := by decide +kernel
theorem dX6_numberOf_50 : decode cX6_numberOf 50 = .ok (.aload_n 0, 1) := by decide +kernel
theorem dX6_numberOf_51 : decode cX6_numberOf 51 = .ok (.getfield 34, 3) := by decide +kernel
theorem dX6_numberOf_54 : decode cX6_numberOf 54 = .ok (.aload_n 0, 1) := by decide +kernel
theorem dX6_numberOf_55 : decode cX6_numberOf 55 = .ok (.getfield 44, 3) := by decide +kernel
theorem dX6_numberOf_58 : decode cX6_numberOf 58 = .ok (.iload_n 1, 1) := by decide +kernel
theorem dX6_numberOf_59 : decode cX6_numberOf 59 = .ok (.aload_n 0, 1) := by decide +kernel
theorem dX6_numberOf_60 : decode cX6_numberOf 60 = .ok (.getfield 25, 3) := by decide +kernel
theorem dX6_numberOf_63 : decode cX6_numberOf 63 = .ok (.invokevirtual 80, 3) := by decide +kernel
theorem dX6_numberOf_66 : decode cX6_numberOf 66 = .ok (.idiv, 1) := by decide +kernel
theorem dX6_numberOf_67 : decode cX6_numberOf 67 = .ok (.aload_n 0, 1) := by decide +kernel
theorem dX6_numberOf_68 : decode cX6_numberOf 68 = .ok (.getfield 44, 3) := by decide +kernel
theorem dX6_numberOf_71 : decode cX6_numberOf 71 = .ok (.getfield 83, 3) := by decide +kernel
theorem dX6_numberOf_74 : decode cX6_numberOf 74 = .ok (.iload_n 1, 1) := by decide +kernel
theorem dX6_numberOf_75 : decode cX6_numberOf 75 = .ok (.iaload, 1) := by decide +kernel
theorem dX6_numberOf_76 : decode cX6_numberOf 76 = .ok (.irem, 1) := by decide +kernel
theorem dX6_numberOf_77 : decode cX6_numberOf 77 = .ok (.istore_n 3, 1) := by decide +kernel
theorem dX6_numberOf_78 : decode cX6_numberOf 78 = .ok (.iload_n 2, 1) := by decide +kernel
theorem dX6_numberOf_79 : decode cX6_numberOf 79 = .ok (.aload_n 0, 1) := by decide +kernel
theorem dX6_numberOf_80 : decode cX6_numberOf 80 = .ok (.getfield 44, 3) := by decide +kernel
theorem dX6_numberOf_83 : decode cX6_numberOf 83 = .ok (.getfield 83, 3) := by decide +kernel
theorem dX6_numberOf_86 : decode cX6_numberOf 86 = .ok (.iload_n 1, 1) := by decide +kernel
theorem dX6_numberOf_87 : decode cX6_numberOf 87 = .ok (.iaload, 1) := by decide +kernel
theorem dX6_numberOf_88 : decode cX6_numberOf 88 = .ok (.imul, 1) := by decide +kernel
theorem dX6_numberOf_89 : decode cX6_numberOf 89 = .ok (.iload_n 3, 1) := by decide +kernel
theorem dX6_numberOf_90 : decode cX6_numberOf 90 = .ok (.iadd, 1) := by decide +kernel
theorem dX6_numberOf_91 : decode cX6_numberOf 91 = .ok (.iconst 1, 1) := by decide +kernel
theorem dX6_numberOf_92 : decode cX6_numberOf 92 = .ok (.iadd, 1) := by decide +kernel
theorem dX6_numberOf_93 : decode cX6_numberOf 93 = .ok (.ireturn, 1) := by decide +kernel
theorem dX6_edgeTop_0 : decode cX6_edgeTop 0 = .ok (.iload_n 1, 1) := by decide +kernel
theorem dX6_edgeTop_1 : decode cX6_edgeTop 1 = .ok (.iconst 2, 1) := by decide +kernel
theorem dX6_edgeTop_2 : decode cX6_edgeTop 2 = .ok (.if_icmp .lt 27, 3) := by decide +kernel
theorem dX6_edgeTop_5 : decode cX6_edgeTop 5 = .ok (.ldc2_w 86, 3) := by decide +kernel
theorem dX6_edgeTop_8 : decode cX6_edgeTop 8 = .ok (.iload_n 1, 1) := by decide +kernel
theorem dX6_edgeTop_9 : decode cX6_edgeTop 9 = .ok (.iconst 2, 1) := by decide +kernel
theorem dX6_edgeTop_10 : decode cX6_edgeTop 10 = .ok (.if_icmp .ne 10, 3) := by decide +kernel
theorem dX6_edgeTop_13 : decode cX6_edgeTop 13 = .ok (.aload_n 0, 1) := by decide +kernel
theorem dX6_edgeTop_14 : decode cX6_edgeTop 14 = .ok (.getfield 34, 3) := by decide +kernel
theorem dX6_edgeTop_17 : decode cX6_edgeTop 17 = .ok (.goto 9, 3) := by decide +kernel
theorem dX6_edgeTop_20 : decode cX6_edgeTop 20 = .ok (.aload_n 0, 1) := by decide +kernel
theorem dX6_edgeTop_21 : decode cX6_edgeTop 21 = .ok (.getfield 34, 3) := by decide +kernel
theorem dX6_edgeTop_24 : decode cX6_edgeTop 24 = .ok (.iconst 1, 1) := by decide +kernel
theorem dX6_edgeTop_25 : decode cX6_edgeTop 25 = .ok (.iadd, 1) := by decide +kernel
theorem dX6_edgeTop_26 : decode cX6_edgeTop 26 = .ok (.i2l, 1) := by decide +kernel
theorem dX6_edgeTop_27 : decode cX6_edgeTop 27 = .ok (.lmul, 1) := by decide +kernel
theorem dX6_edgeTop_28 : decode cX6_edgeTop 28 = .ok (.lreturn, 1) := by decide +kernel
theorem dX6_edgeTop_29 : decode cX6_edgeTop 29 = .ok (.aload_n 0, 1) := by decide +kernel
theorem dX6_edgeTop_30 : decode cX6_edgeTop 30 = .ok (.getfield 40, 3) := by decide +kernel
theorem dX6_edgeTop_33 : decode cX6_edgeTop 33 = .ok (.ifCond .eq 36, 3) := by decide +kernel
theorem dX6_edgeTop_36 : decode cX6_edgeTop 36 = .ok (.aload_n 0, 1) := by decide +kernel
theorem dX6_edgeTop_37 : decode cX6_edgeTop 37 = .ok (.getfield 28, 3) := by decide +kernel
theorem dX6_edgeTop_40 : decode cX6_edgeTop 40 = .ok (.ifCond .ne 8, 3) := by decide +kernel
theorem dX6_edgeTop_43 : decode cX6_edgeTop 43 = .ok (.ldc 88, 2) := by decide +kernel
theorem dX6_edgeTop_45 : decode cX6_edgeTop 45 = .ok (.goto 5, 3) := by decide +kernel
theorem dX6_edgeTop_48 : decode cX6_edgeTop 48 = .ok (.ldc 89, 2) := by decide +kernel
theorem dX6_edgeTop_50 : decode cX6_edgeTop 50 = .ok (.istore_n 2, 1) := by decide +kernel
theorem dX6_edgeTop_51 : decode cX6_edgeTop 51 = .ok (.iload_n 1, 1) := by decide +kernel
theorem dX6_edgeTop_52 : decode cX6_edgeTop 52 = .ok (.ifCond .ne 8, 3) := by decide +kernel
theorem dX6_edgeTop_55 : decode cX6_edgeTop 55 = .ok (.iload_n 2, 1) := by decide +kernel
theorem dX6_edgeTop_56 : decode cX6_edgeTop 56 = .ok (.i2l, 1) := by decide +kernel
theorem dX6_edgeTop_57 : decode cX6_edgeTop 57 = .ok (.goto 11, 3) := by decide +kernel
theorem dX6_edgeTop_60 : decode cX6_edgeTop 60 = .ok (.iload_n 2, 1) := by decide +kernel
theorem dX6_edgeTop_61 : decode cX6_edgeTop 61 = .ok (.ldc 90, 2) := by decide +kernel
theorem dX6_edgeTop_63 : decode cX6_edgeTop 63 = .ok (.iadd, 1) := by decide +kernel
theorem dX6_edgeTop_64 : decode cX6_edgeTop 64 = .ok (.ldc 88, 2) := by decide +kernel
theorem dX6_edgeTop_66 : decode cX6_edgeTop 66 = .ok (.isub, 1) := by decide +kernel
theorem dX6_edgeTop_67 : decode cX6_edgeTop 67 = .ok (.i2l, 1) := by decide +kernel
theorem dX6_edgeTop_68 : decode cX6_edgeTop 68 = .ok (.lreturn, 1) := by decide +kernel
theorem dX6_edgeTop_69 : decode cX6_edgeTop 69 = .ok (.ldc2_w 91, 3) := by decide +kernel
theorem dX6_edgeTop_72 : decode cX6_edgeTop 72 = .ok (.aload_n 0, 1) := by decide +kernel
theorem dX6_edgeTop_73 : decode cX6_edgeTop 73 = .ok (.getfield 44, 3) := by decide +kernel
theorem dX6_edgeTop_76 : decode cX6_edgeTop 76 = .ok (.getfield 64, 3) := by decide +kernel
theorem dX6_edgeTop_79 : decode cX6_edgeTop 79 = .ok (.aload_n 0, 1) := by decide +kernel
theorem dX6_edgeTop_80 : decode cX6_edgeTop 80 = .ok (.getfield 25, 3) := by decide +kernel
theorem dX6_edgeTop_83 : decode cX6_edgeTop 83 = .ok (.iaload, 1) := by decide +kernel
theorem dX6_edgeTop_84 : decode cX6_edgeTop 84 = .ok (.i2l, 1) := by decide +kernel
theorem dX6_edgeTop_85 : decode cX6_edgeTop 85 = .ok (.lmul, 1) := by decide +kernel
theorem dX6_edgeTop_86 : decode cX6_edgeTop 86 = .ok (.aload_n 0, 1) := by decide +kernel
theorem dX6_edgeTop_87 : decode cX6_edgeTop 87 = .ok (.getfield 28, 3) := by decide +kernel
theorem dX6_edgeTop_90 : decode cX6_edgeTop 90 = .ok (.i2l, 1) := by decide +kernel
theorem dX6_edgeTop_91 : decode cX6_edgeTop 91 = .ok (.lsub, 1) := by decide +kernel
theorem dX6_edgeTop_92 : decode cX6_edgeTop 92 = .ok (.lstore_n 2, 1) := by decide +kernel
theorem dX6_edgeTop_93 : decode cX6_edgeTop 93 = .ok (.ldc2_w 93, 3) := by decide +kernel
theorem dX6_edgeTop_96 : decode cX6_edgeTop 96 = .ok (.iload_n 1, 1) := by decide +kernel
theorem dX6_edgeTop_97 : decode cX6_edgeTop 97 = .ok (.ifCond .ne 7, 3) := by decide +kernel
theorem dX6_edgeTop_100 : decode cX6_edgeTop 100 = .ok (.lload_n 2, 1) := by decide +kernel
theorem dX6_edgeTop_101 : decode cX6_edgeTop 101 = .ok (.goto 6, 3) := by decide +kernel
theorem dX6_edgeTop_104 : decode cX6_edgeTop 104 = .ok (.lload_n 2, 1) := by decide +kernel
theorem dX6_edgeTop_105 : decode cX6_edgeTop 105 = .ok (.lconst 1, 1) := by decide +kernel
theorem dX6_edgeTop_106 : decode cX6_edgeTop 106 = .ok (.ladd, 1) := by decide +kernel
theorem dX6_edgeTop_107 : decode cX6_edgeTop 107 = .ok (.lmul, 1) := by decide +kernel
theorem dX6_edgeTop_108 : decode cX6_edgeTop 108 = .ok (.lreturn, 1) := by decide +kernel
theorem dX6_edgeBottom_0 : decode cX6_edgeBottom 0 = .ok (.iload_n 1, 1) := by decide +kernel
theorem dX6_edgeBottom_1 : decode cX6_edgeBottom 1 = .ok (.iconst 2, 1) := by decide +kernel
theorem dX6_edgeBottom_2 : decode cX6_edgeBottom 2 = .ok (.if_icmp .lt 9, 3) := by decide +kernel
theorem dX6_edgeBottom_5 : decode cX6_edgeBottom 5 = .ok (.aload_n 0, 1) := by decide +kernel
theorem dX6_edgeBottom_6 : decode cX6_edgeBottom 6 = .ok (.getfield 37, 3) := by decide +kernel
theorem dX6_edgeBottom_9 : decode cX6_edgeBottom 9 = .ok (.i2l, 1) := by decide +kernel
theorem dX6_edgeBottom_10 : decode cX6_edgeBottom 10 = .ok (.lreturn, 1) := by decide +kernel
theorem dX6_edgeBottom_11 : decode cX6_edgeBottom 11 = .ok (.aload_n 0, 1) := by decide +kernel
theorem dX6_edgeBottom_12 : decode cX6_edgeBottom 12 = .ok (.getfield 40, 3) := by decide +kernel
theorem dX6_edgeBottom_15 : decode cX6_edgeBottom 15 = .ok (.ifCond .eq 7, 3) := by decide +kernel
theorem dX6_edgeBottom_18 : decode cX6_edgeBottom 18 = .ok (.lconst 1, 1) := by decide +kernel
theorem dX6_edgeBottom_19 : decode cX6_edgeBottom 19 = .ok (.goto 16, 3) := by decide +kernel
theorem dX6_edgeBottom_22 : decode cX6_edgeBottom 22 = .ok (.aload_n 0, 1) := by decide +kernel
theorem dX6_edgeBottom_23 : decode cX6_edgeBottom 23 = .ok (.getfield 44, 3) := by decide +kernel
theorem dX6_edgeBottom_26 : decode cX6_edgeBottom 26 = .ok (.getfield 64, 3) := by decide +kernel
theorem dX6_edgeBottom_29 : decode cX6_edgeBottom 29 = .ok (.aload_n 0, 1) := by decide +kernel
theorem dX6_edgeBottom_30 : decode cX6_edgeBottom 30 = .ok (.getfield 25, 3) := by decide +kernel
theorem dX6_edgeBottom_33 : decode cX6_edgeBottom 33 = .ok (.iaload, 1) := by decide +kernel
theorem dX6_edgeBottom_34 : decode cX6_edgeBottom 34 = .ok (.i2l, 1) := by decide +kernel
theorem dX6_edgeBottom_35 : decode cX6_edgeBottom 35 = .ok (.lreturn, 1) := by decide +kernel
theorem gX6_middleLat_X6_edgeTop : GoodIn wsX6_middleLat (wsV RX6 95 RX6 yX6_edgeTop wsX6_edgeTop) := gw_c t_w225 (gw_c t_w224 (gw_c t_w223 (gw_c t_w135 (gw_c t_w222 (gw_t)))))
theorem gX6_middleLat_X6_edgeBottom : GoodIn wsX6_middleLat (wsV RX6 101 RX6 yX6_edgeBottom wsX6_edgeBottom) := gw_c t_w229 (gw_c t_w228 (gw_c t_w227 (gw_c t_w135 (gw_c t_w226 (gw_t)))))
theorem gX6_middleLat_J9_floorDiv_f86c9 : GoodIn wsX6_middleLat (va_wsS RX6 104 yJ9_floorDiv_f86c9 wsJ9_floorDiv_f86c9) := gw_c t_w230 (gw_c t_w88 (gw_c t_w76 (gw_c t_w87 (gw_t))))
theorem dX6_middleLat_0 : decode cX6_middleLat 0 = .ok (.aload_n 0, 1) := by decide +kernel
theorem dX6_middleLat_1 : decode cX6_middleLat 1 = .ok (.getfield 40, 3) := by decide +kernel
theorem dX6_middleLat_4 : decode cX6_middleLat 4 = .ok (.ifCond .eq 18, 3) := by decide +kernel
theorem dX6_middleLat_7 : decode cX6_middleLat 7 = .ok (.aload_n 0, 1) := by decide +kernel
theorem dX6_middleLat_8 : decode cX6_middleLat 8 = .ok (.getfield 28, 3) := by decide +kernel
theorem dX6_middleLat_11 : decode cX6_middleLat 11 = .ok (.ifCond .ne 8, 3) := by decide +kernel
theorem dX6_middleLat_14 : decode cX6_middleLat 14 = .ok (.ldc 90, 2) := by decide +kernel
theorem dX6_middleLat_16 : decode cX6_middleLat 16 = .ok (.goto 5, 3) := by decide +kernel
theorem dX6_middleLat_19 : decode cX6_middleLat 19 = .ok (.ldc 89, 2) := by decide +kernel
theorem dX6_middleLat_21 : decode cX6_middleLat 21 = .ok (.ireturn, 1) := by decide +kernel
theorem dX6_middleLat_22 : decode cX6_middleLat 22 = .ok (.aload_n 0, 1) := by decide +kernel
theorem dX6_middleLat_23 : decode cX6_middleLat 23 = .ok (.iconst 0, 1) := by decide +kernel
theorem dX6_middleLat_24 : decode cX6_middleLat 24 = .ok (.invokevirtual 95, 3) := by decide +kernel
theorem dX6_middleLat_27 : decode cX6_middleLat 27 = .ok (.aload_n 0, 1) := by decide +kernel
theorem dX6_middleLat_28 : decode cX6_middleLat 28 = .ok (.iconst 1, 1) := by decide +kernel
theorem dX6_middleLat_29 : decode cX6_middleLat 29 = .ok (.invokevirtual 95, 3) := by decide +kernel
theorem dX6_middleLat_32 : decode cX6_middleLat 32 = .ok (.ladd, 1) := by decide +kernel
theorem dX6_middleLat_33 : decode cX6_middleLat 33 = .ok (.ldc2_w 99, 3) := by decide +kernel
theorem dX6_middleLat_36 : decode cX6_middleLat 36 = .ok (.aload_n 0, 1) := by decide +kernel
theorem dX6_middleLat_37 : decode cX6_middleLat 37 = .ok (.iconst 0, 1) := by decide +kernel
theorem dX6_middleLat_38 : decode cX6_middleLat 38 = .ok (.invokevirtual 101, 3) := by decide +kernel
theorem dX6_middleLat_41 : decode cX6_middleLat 41 = .ok (.lmul, 1) := by decide +kernel
theorem dX6_middleLat_42 : decode cX6_middleLat 42 = .ok (.invokestatic 104, 3) := by decide +kernel
theorem dX6_middleLat_45 : decode cX6_middleLat 45 = .ok (.l2i, 1) := by decide +kernel
theorem dX6_middleLat_46 : decode cX6_middleLat 46 = .ok (.ireturn, 1) := by decide +kernel
theorem gX6_middleLon_X6_edgeTop : GoodIn wsX6_middleLon (wsV RX6 95 RX6 yX6_edgeTop wsX6_edgeTop) := gw_c t_w225 (gw_c t_w224 (gw_c t_w223 (gw_c t_w135 (gw_c t_w222 (gw_t)))))
theorem gX6_middleLon_X6_edgeBottom : GoodIn wsX6_middleLon (wsV RX6 101 RX6 yX6_edgeBottom wsX6_edgeBottom) := gw_c t_w229 (gw_c t_w228 (gw_c t_w227 (gw_c t_w135 (gw_c t_w226 (gw_t)))))
theorem gX6_middleLon_J9_floorDiv_f86c9 : GoodIn wsX6_middleLon (va_wsS RX6 104 yJ9_floorDiv_f86c9 wsJ9_floorDiv_f86c9) := gw_c t_w230 (gw_c t_w88 (gw_c t_w76 (gw_c t_w87 (gw_t))))
theorem dX6_middleLon_0 : decode cX6_middleLon 0 = .ok (.aload_n 0, 1) := by decide +kernel
theorem dX6_middleLon_1 : decode cX6_middleLon 1 = .ok (.getfield 40, 3) := by decide +kernel
theorem dX6_middleLon_4 : decode cX6_middleLon 4 = .ok (.ifCond .eq 5, 3) := by decide +kernel
theorem dX6_middleLon_7 : decode cX6_middleLon 7 = .ok (.iconst 0, 1) := by decide +kernel
theorem dX6_middleLon_8 : decode cX6_middleLon 8 = .ok (.ireturn, 1) := by decide +kernel
theorem dX6_middleLon_9 : decode cX6_middleLon 9 = .ok (.aload_n 0, 1) := by decide +kernel
theorem dX6_middleLon_10 : decode cX6_middleLon 10 = .ok (.iconst 2, 1) := by decide +kernel
theorem dX6_middleLon_11 : decode cX6_middleLon 11 = .ok (.invokevirtual 95, 3) := by decide +kernel
theorem dX6_middleLon_14 : decode cX6_middleLon 14 = .ok (.aload_n 0, 1) := by decide +kernel
theorem dX6_middleLon_15 : decode cX6_middleLon 15 = .ok (.iconst 3, 1) := by decide +kernel
theorem dX6_middleLon_16 : decode cX6_middleLon 16 = .ok (.invokevirtual 95, 3) := by decide +kernel
theorem dX6_middleLon_19 : decode cX6_middleLon 19 = .ok (.ladd, 1) := by decide +kernel
theorem dX6_middleLon_20 : decode cX6_middleLon 20 = .ok (.ldc2_w 99, 3) := by decide +kernel
theorem dX6_middleLon_23 : decode cX6_middleLon 23 = .ok (.aload_n 0, 1) := by decide +kernel
theorem dX6_middleLon_24 : decode cX6_middleLon 24 = .ok (.iconst 2, 1) := by decide +kernel
theorem dX6_middleLon_25 : decode cX6_middleLon 25 = .ok (.invokevirtual 101, 3) := by decide +kernel
theorem dX6_middleLon_28 : decode cX6_middleLon 28 = .ok (.lmul, 1) := by decide +kernel
theorem dX6_middleLon_29 : decode cX6_middleLon 29 = .ok (.invokestatic 104, 3) := by decide +kernel
theorem dX6_middleLon_32 : decode cX6_middleLon 32 = .ok (.l2i, 1) := by decide +kernel
theorem dX6_middleLon_33 : decode cX6_middleLon 33 = .ok (.ireturn, 1) := by decide +kernel
theorem gX6_piecesAt_X2_rowsIn : GoodIn wsX6_piecesAt (wsV RX6 74 RX2 yX2_rowsIn wsX2_rowsIn) := gw_c t_w220 (gw_c t_w69 (gw_c t_w68 (gw_c t_w1 (gw_c t_w67 (gw_t)))))
theorem gX6_piecesAt_X2_columnsIn : GoodIn wsX6_piecesAt (wsV RX6 80 RX2 yX2_columnsIn wsX2_columnsIn) := gw_c t_w221 (gw_c t_w73 (gw_c t_w72 (gw_c t_w1 (gw_c t_w71 (gw_t)))))
theorem dX6_piecesAt_0 : decode cX6_piecesAt 0 = .ok (.aload_n 0, 1) := by decide +kernel
theorem dX6_piecesAt_1 : decode cX6_piecesAt 1 = .ok (.getfield 40, 3) := by decide +kernel
theorem dX6_piecesAt_4 : decode cX6_piecesAt 4 = .ok (.ifCond .eq 7, 3) := by decide +kernel
theorem dX6_piecesAt_7 : decode cX6_piecesAt 7 = .ok (.iconst 1, 1) := by decide +kernel
theorem dX6_piecesAt_8 : decode cX6_piecesAt 8 = .ok (.goto 28, 3) := by decide +kernel
theorem dX6_piecesAt_11 : decode cX6_piecesAt 11 = .ok (.aload_n 0, 1) := by decide +kernel
theorem dX6_piecesAt_12 : decode cX6_piecesAt 12 = .ok (.getfield 44, 3) := by decide +kernel
theorem dX6_piecesAt_15 : decode cX6_piecesAt 15 = .ok (.aload_n 0, 1) := by decide +kernel
theorem dX6_piecesAt_16 : decode cX6_piecesAt 16 = .ok (.getfield 25, 3) := by decide +kernel
theorem dX6_piecesAt_19 : decode cX6_piecesAt 19 = .ok (.iload_n 1, 1) := by decide +kernel
theorem dX6_piecesAt_20 : decode cX6_piecesAt 20 = .ok (.invokevirtual 74, 3) := by decide +kernel
theorem dX6_piecesAt_23 : decode cX6_piecesAt 23 = .ok (.aload_n 0, 1) := by decide +kernel
theorem dX6_piecesAt_24 : decode cX6_piecesAt 24 = .ok (.getfield 44, 3) := by decide +kernel
theorem dX6_piecesAt_27 : decode cX6_piecesAt 27 = .ok (.aload_n 0, 1) := by decide +kernel
theorem dX6_piecesAt_28 : decode cX6_piecesAt 28 = .ok (.getfield 25, 3) := by decide +kernel
theorem dX6_piecesAt_31 : decode cX6_piecesAt 31 = .ok (.iload_n 1, 1) := by decide +kernel
theorem dX6_piecesAt_32 : decode cX6_piecesAt 32 = .ok (.invokevirtual 80, 3) := by decide +kernel
theorem dX6_piecesAt_35 : decode cX6_piecesAt 35 = .ok (.imul, 1) := by decide +kernel
theorem dX6_piecesAt_36 : decode cX6_piecesAt 36 = .ok (.ireturn, 1) := by decide +kernel
theorem gX6_pieceAt_X2_columnsIn : GoodIn wsX6_pieceAt (wsV RX6 80 RX2 yX2_columnsIn wsX2_columnsIn) := gw_c t_w221 (gw_c t_w73 (gw_c t_w72 (gw_c t_w1 (gw_c t_w71 (gw_t)))))
theorem gX6_pieceAt_X2_rowsIn : GoodIn wsX6_pieceAt (wsV RX6 74 RX2 yX2_rowsIn wsX2_rowsIn) := gw_c t_w220 (gw_c t_w69 (gw_c t_w68 (gw_c t_w1 (gw_c t_w67 (gw_t)))))
theorem gX6_pieceAt_X2_rowStart : GoodIn wsX6_pieceAt (wsV RX6 54 RX2 yX2_rowStart wsX2_rowStart) := gw_c t_w213 (gw_c t_w24 (gw_c t_w23 (gw_c t_w1 (gw_c t_w22 (gw_t)))))
theorem dX6_pieceAt_0 : decode cX6_pieceAt 0 = .ok (.aload_n 0, 1) := by decide +kernel
theorem dX6_pieceAt_1 : decode cX6_pieceAt 1 = .ok (.getfield 40, 3) := by decide +kernel
theorem dX6_pieceAt_4 : decode cX6_pieceAt 4 = .ok (.ifCond .eq 26, 3) := by decide +kernel
theorem dX6_pieceAt_7 : decode cX6_pieceAt 7 = .ok (.aload_n 0, 1) := by decide +kernel
theorem dX6_pieceAt_8 : decode cX6_pieceAt 8 = .ok (.getfield 28, 3) := by decide +kernel
theorem dX6_pieceAt_11 : decode cX6_pieceAt 11 = .ok (.ifCond .ne 7, 3) := by decide +kernel
theorem dX6_pieceAt_14 : decode cX6_pieceAt 14 = .ok (.iconst 0, 1) := by decide +kernel
theorem dX6_pieceAt_15 : decode cX6_pieceAt 15 = .ok (.goto 14, 3) := by decide +kernel
theorem dX6_pieceAt_18 : decode cX6_pieceAt 18 = .ok (.aload_n 0, 1) := by decide +kernel
theorem dX6_pieceAt_19 : decode cX6_pieceAt 19 = .ok (.getfield 44, 3) := by decide +kernel
theorem dX6_pieceAt_22 : decode cX6_pieceAt 22 = .ok (.getfield 110, 3) := by decide +kernel
theorem dX6_pieceAt_25 : decode cX6_pieceAt 25 = .ok (.iload_n 1, 1) := by decide +kernel
theorem dX6_pieceAt_26 : decode cX6_pieceAt 26 = .ok (.iaload, 1) := by decide +kernel
theorem dX6_pieceAt_27 : decode cX6_pieceAt 27 = .ok (.iconst 1, 1) := by decide +kernel
theorem dX6_pieceAt_28 : decode cX6_pieceAt 28 = .ok (.isub, 1) := by decide +kernel
theorem dX6_pieceAt_29 : decode cX6_pieceAt 29 = .ok (.ireturn, 1) := by decide +kernel
theorem dX6_pieceAt_30 : decode cX6_pieceAt 30 = .ok (.aload_n 0, 1) := by decide +kernel
theorem dX6_pieceAt_31 : decode cX6_pieceAt 31 = .ok (.getfield 44, 3) := by decide +kernel
theorem dX6_pieceAt_34 : decode cX6_pieceAt 34 = .ok (.aload_n 0, 1) := by decide +kernel
theorem dX6_pieceAt_35 : decode cX6_pieceAt 35 = .ok (.getfield 25, 3) := by decide +kernel
theorem dX6_pieceAt_38 : decode cX6_pieceAt 38 = .ok (.iload_n 1, 1) := by decide +kernel
theorem dX6_pieceAt_39 : decode cX6_pieceAt 39 = .ok (.invokevirtual 80, 3) := by decide +kernel
theorem dX6_pieceAt_42 : decode cX6_pieceAt 42 = .ok (.istore_n 3, 1) := by decide +kernel
theorem dX6_pieceAt_43 : decode cX6_pieceAt 43 = .ok (.aload_n 0, 1) := by decide +kernel
theorem dX6_pieceAt_44 : decode cX6_pieceAt 44 = .ok (.getfield 28, 3) := by decide +kernel
theorem dX6_pieceAt_47 : decode cX6_pieceAt 47 = .ok (.iconst 1, 1) := by decide +kernel
theorem dX6_pieceAt_48 : decode cX6_pieceAt 48 = .ok (.isub, 1) := by decide +kernel
theorem dX6_pieceAt_49 : decode cX6_pieceAt 49 = .ok (.aload_n 0, 1) := by decide +kernel
theorem dX6_pieceAt_50 : decode cX6_pieceAt 50 = .ok (.getfield 44, 3) := by decide +kernel
theorem dX6_pieceAt_53 : decode cX6_pieceAt 53 = .ok (.aload_n 0, 1) := by decide +kernel
theorem dX6_pieceAt_54 : decode cX6_pieceAt 54 = .ok (.getfield 25, 3) := by decide +kernel
theorem dX6_pieceAt_57 : decode cX6_pieceAt 57 = .ok (.iload_n 1, 1) := by decide +kernel
theorem dX6_pieceAt_58 : decode cX6_pieceAt 58 = .ok (.invokevirtual 74, 3) := by decide +kernel
theorem dX6_pieceAt_61 : decode cX6_pieceAt 61 = .ok (.imul, 1) := by decide +kernel
theorem dX6_pieceAt_62 : decode cX6_pieceAt 62 = .ok (.iload_n 2, 1) := by decide +kernel
theorem dX6_pieceAt_63 : decode cX6_pieceAt 63 = .ok (.iload_n 3, 1) := by decide +kernel
theorem dX6_pieceAt_64 : decode cX6_pieceAt 64 = .ok (.idiv, 1) := by decide +kernel
theorem dX6_pieceAt_65 : decode cX6_pieceAt 65 = .ok (.iadd, 1) := by decide +kernel
theorem dX6_pieceAt_66 : decode cX6_pieceAt 66 = .ok (.iconst 1, 1) := by decide +kernel
theorem dX6_pieceAt_67 : decode cX6_pieceAt 67 = .ok (.iadd, 1) := by decide +kernel
theorem dX6_pieceAt_68 : decode cX6_pieceAt 68 = .ok (.istore 4, 2) := by decide +kernel
theorem dX6_pieceAt_70 : decode cX6_pieceAt 70 = .ok (.aload_n 0, 1) := by decide +kernel
theorem dX6_pieceAt_71 : decode cX6_pieceAt 71 = .ok (.getfield 44, 3) := by decide +kernel
theorem dX6_pieceAt_74 : decode cX6_pieceAt 74 = .ok (.iload_n 1, 1) := by decide +kernel
theorem dX6_pieceAt_75 : decode cX6_pieceAt 75 = .ok (.iload 4, 2) := by decide +kernel
theorem dX6_pieceAt_77 : decode cX6_pieceAt 77 = .ok (.invokevirtual 54, 3) := by decide +kernel
theorem dX6_pieceAt_80 : decode cX6_pieceAt 80 = .ok (.aload_n 0, 1) := by decide +kernel
theorem dX6_pieceAt_81 : decode cX6_pieceAt 81 = .ok (.getfield 34, 3) := by decide +kernel
theorem dX6_pieceAt_84 : decode cX6_pieceAt 84 = .ok (.iload_n 3, 1) := by decide +kernel
theorem dX6_pieceAt_85 : decode cX6_pieceAt 85 = .ok (.imul, 1) := by decide +kernel
theorem dX6_pieceAt_86 : decode cX6_pieceAt 86 = .ok (.iadd, 1) := by decide +kernel
theorem dX6_pieceAt_87 : decode cX6_pieceAt 87 = .ok (.iload_n 2, 1) := by decide +kernel
theorem dX6_pieceAt_88 : decode cX6_pieceAt 88 = .ok (.iload_n 3, 1) := by decide +kernel
theorem dX6_pieceAt_89 : decode cX6_pieceAt 89 = .ok (.irem, 1) := by decide +kernel
theorem dX6_pieceAt_90 : decode cX6_pieceAt 90 = .ok (.iadd, 1) := by decide +kernel
theorem dX6_pieceAt_91 : decode cX6_pieceAt 91 = .ok (.ireturn, 1) := by decide +kernel
theorem gX6_lookAround_X6_lookAcross : GoodIn wsX6_lookAround (wsV RX6 113 RX6 yX6_lookAcross wsX6_lookAcross) := gw_c t_w234 (gw_c t_w233 (gw_c t_w232 (gw_c t_w135 (gw_c t_w231 (gw_t)))))
theorem gX6_lookAround_X6_lookAlong : GoodIn wsX6_lookAround (wsV RX6 117 RX6 yX6_lookAlong wsX6_lookAlong) := gw_c t_w238 (gw_c t_w237 (gw_c t_w236 (gw_c t_w135 (gw_c t_w235 (gw_t)))))
theorem dX6_lookAround_0 : decode cX6_lookAround 0 = .ok (.aload_n 0, 1) := by decide +kernel
theorem dX6_lookAround_1 : decode cX6_lookAround 1 = .ok (.iconst 0, 1) := by decide +kernel
theorem dX6_lookAround_2 : decode cX6_lookAround 2 = .ok (.aload_n 0, 1) := by decide +kernel
theorem dX6_lookAround_3 : decode cX6_lookAround 3 = .ok (.getfield 28, 3) := by decide +kernel
theorem dX6_lookAround_6 : decode cX6_lookAround 6 = .ok (.iconst 1, 1) := by decide +kernel
theorem dX6_lookAround_7 : decode cX6_lookAround 7 = .ok (.isub, 1) := by decide +kernel
theorem dX6_lookAround_8 : decode cX6_lookAround 8 = .ok (.invokevirtual 113, 3) := by decide +kernel
theorem dX6_lookAround_11 : decode cX6_lookAround 11 = .ok (.aload_n 0, 1) := by decide +kernel
theorem dX6_lookAround_12 : decode cX6_lookAround 12 = .ok (.iconst 1, 1) := by decide +kernel
theorem dX6_lookAround_13 : decode cX6_lookAround 13 = .ok (.iconst 1, 1) := by decide +kernel
theorem dX6_lookAround_14 : decode cX6_lookAround 14 = .ok (.invokevirtual 117, 3) := by decide +kernel
theorem dX6_lookAround_17 : decode cX6_lookAround 17 = .ok (.aload_n 0, 1) := by decide +kernel
theorem dX6_lookAround_18 : decode cX6_lookAround 18 = .ok (.iconst 2, 1) := by decide +kernel
theorem dX6_lookAround_19 : decode cX6_lookAround 19 = .ok (.aload_n 0, 1) := by decide +kernel
theorem dX6_lookAround_20 : decode cX6_lookAround 20 = .ok (.getfield 28, 3) := by decide +kernel
theorem dX6_lookAround_23 : decode cX6_lookAround 23 = .ok (.iconst 1, 1) := by decide +kernel
theorem dX6_lookAround_24 : decode cX6_lookAround 24 = .ok (.iadd, 1) := by decide +kernel
theorem dX6_lookAround_25 : decode cX6_lookAround 25 = .ok (.invokevirtual 113, 3) := by decide +kernel
theorem dX6_lookAround_28 : decode cX6_lookAround 28 = .ok (.aload_n 0, 1) := by decide +kernel
theorem dX6_lookAround_29 : decode cX6_lookAround 29 = .ok (.iconst 3, 1) := by decide +kernel
theorem dX6_lookAround_30 : decode cX6_lookAround 30 = .ok (.aload_n 0, 1) := by decide +kernel
theorem dX6_lookAround_31 : decode cX6_lookAround 31 = .ok (.getfield 37, 3) := by decide +kernel
theorem dX6_lookAround_34 : decode cX6_lookAround 34 = .ok (.iconst 1, 1) := by decide +kernel
theorem dX6_lookAround_35 : decode cX6_lookAround 35 = .ok (.isub, 1) := by decide +kernel
theorem dX6_lookAround_36 : decode cX6_lookAround 36 = .ok (.invokevirtual 117, 3) := by decide +kernel
theorem dX6_lookAround_39 : decode cX6_lookAround 39 = .ok (.return_, 1) := by decide +kernel
theorem gX6_lookAcross_X2_rowLength : GoodIn wsX6_lookAcross (wsV RX6 57 RX2 yX2_rowLength wsX2_rowLength) := gw_c t_w214 (gw_c t_w20 (gw_c t_w19 (gw_c t_w1 (gw_c t_w18 (gw_t)))))
theorem gX6_lookAcross_X2_rowStart : GoodIn wsX6_lookAcross (wsV RX6 54 RX2 yX2_rowStart wsX2_rowStart) := gw_c t_w213 (gw_c t_w24 (gw_c t_w23 (gw_c t_w1 (gw_c t_w22 (gw_t)))))
theorem dX6_lookAcross_0 : decode cX6_lookAcross 0 = .ok (.aload_n 0, 1) := by decide +kernel
theorem dX6_lookAcross_1 : decode cX6_lookAcross 1 = .ok (.getfield 9, 3) := by decide +kernel
theorem dX6_lookAcross_4 : decode cX6_lookAcross 4 = .ok (.iload_n 1, 1) := by decide +kernel
theorem dX6_lookAcross_5 : decode cX6_lookAcross 5 = .ok (.iconst 0, 1) := by decide +kernel
theorem dX6_lookAcross_6 : decode cX6_lookAcross 6 = .ok (.iastore, 1) := by decide +kernel
theorem dX6_lookAcross_7 : decode cX6_lookAcross 7 = .ok (.aload_n 0, 1) := by decide +kernel
theorem dX6_lookAcross_8 : decode cX6_lookAcross 8 = .ok (.getfield 15, 3) := by decide +kernel
theorem dX6_lookAcross_11 : decode cX6_lookAcross 11 = .ok (.iload_n 1, 1) := by decide +kernel
theorem dX6_lookAcross_12 : decode cX6_lookAcross 12 = .ok (.iconst 0, 1) := by decide +kernel
theorem dX6_lookAcross_13 : decode cX6_lookAcross 13 = .ok (.iastore, 1) := by decide +kernel
theorem dX6_lookAcross_14 : decode cX6_lookAcross 14 = .ok (.iload_n 2, 1) := by decide +kernel
theorem dX6_lookAcross_15 : decode cX6_lookAcross 15 = .ok (.ifCond .lt 19, 3) := by decide +kernel
theorem dX6_lookAcross_18 : decode cX6_lookAcross 18 = .ok (.iload_n 2, 1) := by decide +kernel
theorem dX6_lookAcross_19 : decode cX6_lookAcross 19 = .ok (.aload_n 0, 1) := by decide +kernel
theorem dX6_lookAcross_20 : decode cX6_lookAcross 20 = .ok (.getfield 44, 3) := by decide +kernel
theorem dX6_lookAcross_23 : decode cX6_lookAcross 23 = .ok (.getfield 120, 3) := by decide +kernel
theorem dX6_lookAcross_26 : decode cX6_lookAcross 26 = .ok (.aload_n 0, 1) := by decide +kernel
theorem dX6_lookAcross_27 : decode cX6_lookAcross 27 = .ok (.getfield 25, 3) := by decide +kernel
theorem dX6_lookAcross_30 : decode cX6_lookAcross 30 = .ok (.iaload, 1) := by decide +kernel
theorem dX6_lookAcross_31 : decode cX6_lookAcross 31 = .ok (.if_icmp .lt 4, 3) := by decide +kernel
theorem dX6_lookAcross_34 : decode cX6_lookAcross 34 = .ok (.return_, 1) := by decide +kernel
theorem dX6_lookAcross_35 : decode cX6_lookAcross 35 = .ok (.aload_n 0, 1) := by decide +kernel
theorem dX6_lookAcross_36 : decode cX6_lookAcross 36 = .ok (.getfield 44, 3) := by decide +kernel
theorem dX6_lookAcross_39 : decode cX6_lookAcross 39 = .ok (.aload_n 0, 1) := by decide +kernel
theorem dX6_lookAcross_40 : decode cX6_lookAcross 40 = .ok (.getfield 25, 3) := by decide +kernel
theorem dX6_lookAcross_43 : decode cX6_lookAcross 43 = .ok (.iload_n 2, 1) := by decide +kernel
theorem dX6_lookAcross_44 : decode cX6_lookAcross 44 = .ok (.invokevirtual 57, 3) := by decide +kernel
theorem dX6_lookAcross_47 : decode cX6_lookAcross 47 = .ok (.i2l, 1) := by decide +kernel
theorem dX6_lookAcross_48 : decode cX6_lookAcross 48 = .ok (.lstore_n 3, 1) := by decide +kernel
theorem dX6_lookAcross_49 : decode cX6_lookAcross 49 = .ok (.aload_n 0, 1) := by decide +kernel
theorem dX6_lookAcross_50 : decode cX6_lookAcross 50 = .ok (.getfield 34, 3) := by decide +kernel
theorem dX6_lookAcross_53 : decode cX6_lookAcross 53 = .ok (.i2l, 1) := by decide +kernel
theorem dX6_lookAcross_54 : decode cX6_lookAcross 54 = .ok (.lload_n 3, 1) := by decide +kernel
theorem dX6_lookAcross_55 : decode cX6_lookAcross 55 = .ok (.lmul, 1) := by decide +kernel
theorem dX6_lookAcross_56 : decode cX6_lookAcross 56 = .ok (.aload_n 0, 1) := by decide +kernel
theorem dX6_lookAcross_57 : decode cX6_lookAcross 57 = .ok (.getfield 37, 3) := by decide +kernel
theorem dX6_lookAcross_60 : decode cX6_lookAcross 60 = .ok (.i2l, 1) := by decide +kernel
theorem dX6_lookAcross_61 : decode cX6_lookAcross 61 = .ok (.ldiv, 1) := by decide +kernel
theorem dX6_lookAcross_62 : decode cX6_lookAcross 62 = .ok (.l2i, 1) := by decide +kernel
theorem dX6_lookAcross_63 : decode cX6_lookAcross 63 = .ok (.istore 5, 2) := by decide +kernel
theorem dX6_lookAcross_65 : decode cX6_lookAcross 65 = .ok (.aload_n 0, 1) := by decide +kernel
theorem dX6_lookAcross_66 : decode cX6_lookAcross 66 = .ok (.getfield 34, 3) := by decide +kernel
theorem dX6_lookAcross_69 : decode cX6_lookAcross 69 = .ok (.iconst 1, 1) := by decide +kernel
theorem dX6_lookAcross_70 : decode cX6_lookAcross 70 = .ok (.iadd, 1) := by decide +kernel
theorem dX6_lookAcross_71 : decode cX6_lookAcross 71 = .ok (.i2l, 1) := by decide +kernel
theorem dX6_lookAcross_72 : decode cX6_lookAcross 72 = .ok (.lload_n 3, 1) := by decide +kernel
theorem dX6_lookAcross_73 : decode cX6_lookAcross 73 = .ok (.lmul, 1) := by decide +kernel
theorem dX6_lookAcross_74 : decode cX6_lookAcross 74 = .ok (.lconst 1, 1) := by decide +kernel
theorem dX6_lookAcross_75 : decode cX6_lookAcross 75 = .ok (.lsub, 1) := by decide +kernel
theorem dX6_lookAcross_76 : decode cX6_lookAcross 76 = .ok (.aload_n 0, 1) := by decide +kernel
theorem dX6_lookAcross_77 : decode cX6_lookAcross 77 = .ok (.getfield 37, 3) := by decide +kernel
theorem dX6_lookAcross_80 : decode cX6_lookAcross 80 = .ok (.i2l, 1) := by decide +kernel
theorem dX6_lookAcross_81 : decode cX6_lookAcross 81 = .ok (.ldiv, 1) := by decide +kernel
theorem dX6_lookAcross_82 : decode cX6_lookAcross 82 = .ok (.l2i, 1) := by decide +kernel
theorem dX6_lookAcross_83 : decode cX6_lookAcross 83 = .ok (.istore 6, 2) := by decide +kernel
theorem dX6_lookAcross_85 : decode cX6_lookAcross 85 = .ok (.aload_n 0, 1) := by decide +kernel
theorem dX6_lookAcross_86 : decode cX6_lookAcross 86 = .ok (.getfield 9, 3) := by decide +kernel
theorem dX6_lookAcross_89 : decode cX6_lookAcross 89 = .ok (.iload_n 1, 1) := by decide +kernel
theorem dX6_lookAcross_90 : decode cX6_lookAcross 90 = .ok (.aload_n 0, 1) := by decide +kernel
theorem dX6_lookAcross_91 : decode cX6_lookAcross 91 = .ok (.getfield 44, 3) := by decide +kernel
theorem dX6_lookAcross_94 : decode cX6_lookAcross 94 = .ok (.aload_n 0, 1) := by decide +kernel
theorem dX6_lookAcross_95 : decode cX6_lookAcross 95 = .ok (.getfield 25, 3) := by decide +kernel
theorem dX6_lookAcross_98 : decode cX6_lookAcross 98 = .ok (.iload_n 2, 1) := by decide +kernel
theorem dX6_lookAcross_99 : decode cX6_lookAcross 99 = .ok (.invokevirtual 54, 3) := by decide +kernel
theorem dX6_lookAcross_102 : decode cX6_lookAcross 102 = .ok (.iload 5, 2) := by decide +kernel
theorem dX6_lookAcross_104 : decode cX6_lookAcross 104 = .ok (.iadd, 1) := by decide +kernel
theorem dX6_lookAcross_105 : decode cX6_lookAcross 105 = .ok (.iastore, 1) := by decide +kernel
theorem dX6_lookAcross_106 : decode cX6_lookAcross 106 = .ok (.aload_n 0, 1) := by decide +kernel
theorem dX6_lookAcross_107 : decode cX6_lookAcross 107 = .ok (.getfield 15, 3) := by decide +kernel
theorem dX6_lookAcross_110 : decode cX6_lookAcross 110 = .ok (.iload_n 1, 1) := by decide +kernel
theorem dX6_lookAcross_111 : decode cX6_lookAcross 111 = .ok (.iload 6, 2) := by decide +kernel
theorem dX6_lookAcross_113 : decode cX6_lookAcross 113 = .ok (.iload 5, 2) := by decide +kernel
theorem dX6_lookAcross_115 : decode cX6_lookAcross 115 = .ok (.isub, 1) := by decide +kernel
theorem dX6_lookAcross_116 : decode cX6_lookAcross 116 = .ok (.iconst 1, 1) := by decide +kernel
theorem dX6_lookAcross_117 : decode cX6_lookAcross 117 = .ok (.iadd, 1) := by decide +kernel
theorem dX6_lookAcross_118 : decode cX6_lookAcross 118 = .ok (.iastore, 1) := by decide +kernel
theorem dX6_lookAcross_119 : decode cX6_lookAcross 119 = .ok (.return_, 1) := by decide +kernel
theorem dX6_lookAlong_0 : decode cX6_lookAlong 0 = .ok (.aload_n 0, 1) := by decide +kernel
theorem dX6_lookAlong_1 : decode cX6_lookAlong 1 = .ok (.getfield 9, 3) := by decide +kernel
theorem dX6_lookAlong_4 : decode cX6_lookAlong 4 = .ok (.iload_n 1, 1) := by decide +kernel
theorem dX6_lookAlong_5 : decode cX6_lookAlong 5 = .ok (.aload_n 0, 1) := by decide +kernel
theorem dX6_lookAlong_6 : decode cX6_lookAlong 6 = .ok (.getfield 31, 3) := by decide +kernel
theorem dX6_lookAlong_9 : decode cX6_lookAlong 9 = .ok (.aload_n 0, 1) := by decide +kernel
theorem dX6_lookAlong_10 : decode cX6_lookAlong 10 = .ok (.getfield 34, 3) := by decide +kernel
theorem dX6_lookAlong_13 : decode cX6_lookAlong 13 = .ok (.iload_n 2, 1) := by decide +kernel
theorem dX6_lookAlong_14 : decode cX6_lookAlong 14 = .ok (.iadd, 1) := by decide +kernel
theorem dX6_lookAlong_15 : decode cX6_lookAlong 15 = .ok (.aload_n 0, 1) := by decide +kernel
theorem dX6_lookAlong_16 : decode cX6_lookAlong 16 = .ok (.getfield 37, 3) := by decide +kernel
theorem dX6_lookAlong_19 : decode cX6_lookAlong 19 = .ok (.irem, 1) := by decide +kernel
theorem dX6_lookAlong_20 : decode cX6_lookAlong 20 = .ok (.iadd, 1) := by decide +kernel
theorem dX6_lookAlong_21 : decode cX6_lookAlong 21 = .ok (.iastore, 1) := by decide +kernel
theorem dX6_lookAlong_22 : decode cX6_lookAlong 22 = .ok (.aload_n 0, 1) := by decide +kernel
theorem dX6_lookAlong_23 : decode cX6_lookAlong 23 = .ok (.getfield 15, 3) := by decide +kernel
theorem dX6_lookAlong_26 : decode cX6_lookAlong 26 = .ok (.iload_n 1, 1) := by decide +kernel
theorem dX6_lookAlong_27 : decode cX6_lookAlong 27 = .ok (.aload_n 0, 1) := by decide +kernel
theorem dX6_lookAlong_28 : decode cX6_lookAlong 28 = .ok (.getfield 40, 3) := by decide +kernel
theorem dX6_lookAlong_31 : decode cX6_lookAlong 31 = .ok (.ifCond .eq 7, 3) := by decide +kernel
theorem dX6_lookAlong_34 : decode cX6_lookAlong 34 = .ok (.iconst 0, 1) := by decide +kernel
theorem dX6_lookAlong_35 : decode cX6_lookAlong 35 = .ok (.goto 4, 3) := by decide +kernel
theorem dX6_lookAlong_38 : decode cX6_lookAlong 38 = .ok (.iconst 1, 1) := by decide +kernel
theorem dX6_lookAlong_39 : decode cX6_lookAlong 39 = .ok (.iastore, 1) := by decide +kernel
theorem dX6_lookAlong_40 : decode cX6_lookAlong 40 = .ok (.return_, 1) := by decide +kernel
theorem dX6_allBeside_0 : decode cX6_allBeside 0 = .ok (.aload_n 0, 1) := by decide +kernel
theorem dX6_allBeside_1 : decode cX6_allBeside 1 = .ok (.getfield 15, 3) := by decide +kernel
theorem dX6_allBeside_4 : decode cX6_allBeside 4 = .ok (.iconst 0, 1) := by decide +kernel
theorem dX6_allBeside_5 : decode cX6_allBeside 5 = .ok (.iaload, 1) := by decide +kernel
theorem dX6_allBeside_6 : decode cX6_allBeside 6 = .ok (.aload_n 0, 1) := by decide +kernel
theorem dX6_allBeside_7 : decode cX6_allBeside 7 = .ok (.getfield 15, 3) := by decide +kernel
theorem dX6_allBeside_10 : decode cX6_allBeside 10 = .ok (.iconst 1, 1) := by decide +kernel
theorem dX6_allBeside_11 : decode cX6_allBeside 11 = .ok (.iaload, 1) := by decide +kernel
theorem dX6_allBeside_12 : decode cX6_allBeside 12 = .ok (.iadd, 1) := by decide +kernel
theorem dX6_allBeside_13 : decode cX6_allBeside 13 = .ok (.aload_n 0, 1) := by decide +kernel
theorem dX6_allBeside_14 : decode cX6_allBeside 14 = .ok (.getfield 15, 3) := by decide +kernel
theorem dX6_allBeside_17 : decode cX6_allBeside 17 = .ok (.iconst 2, 1) := by decide +kernel
theorem dX6_allBeside_18 : decode cX6_allBeside 18 = .ok (.iaload, 1) := by decide +kernel
theorem dX6_allBeside_19 : decode cX6_allBeside 19 = .ok (.iadd, 1) := by decide +kernel
theorem dX6_allBeside_20 : decode cX6_allBeside 20 = .ok (.aload_n 0, 1) := by decide +kernel
theorem dX6_allBeside_21 : decode cX6_allBeside 21 = .ok (.getfield 15, 3) := by decide +kernel
theorem dX6_allBeside_24 : decode cX6_allBeside 24 = .ok (.iconst 3, 1) := by decide +kernel
theorem dX6_allBeside_25 : decode cX6_allBeside 25 = .ok (.iaload, 1) := by decide +kernel
theorem dX6_allBeside_26 : decode cX6_allBeside 26 = .ok (.iadd, 1) := by decide +kernel
theorem dX6_allBeside_27 : decode cX6_allBeside 27 = .ok (.ireturn, 1) := by decide +kernel
theorem dX6_besideKey_0 : decode cX6_besideKey 0 = .ok (.iload_n 1, 1) := by decide +kernel
theorem dX6_besideKey_1 : decode cX6_besideKey 1 = .ok (.aload_n 0, 1) := by decide +kernel
theorem dX6_besideKey_2 : decode cX6_besideKey 2 = .ok (.getfield 15, 3) := by decide +kernel
theorem dX6_besideKey_5 : decode cX6_besideKey 5 = .ok (.iconst 0, 1) := by decide +kernel
theorem dX6_besideKey_6 : decode cX6_besideKey 6 = .ok (.iaload, 1) := by decide +kernel
theorem dX6_besideKey_7 : decode cX6_besideKey 7 = .ok (.if_icmp .ge 12, 3) := by decide +kernel
theorem dX6_besideKey_10 : decode cX6_besideKey 10 = .ok (.aload_n 0, 1) := by decide +kernel
theorem dX6_besideKey_11 : decode cX6_besideKey 11 = .ok (.getfield 9, 3) := by decide +kernel
theorem dX6_besideKey_14 : decode cX6_besideKey 14 = .ok (.iconst 0, 1) := by decide +kernel
theorem dX6_besideKey_15 : decode cX6_besideKey 15 = .ok (.iaload, 1) := by decide +kernel
theorem dX6_besideKey_16 : decode cX6_besideKey 16 = .ok (.iload_n 1, 1) := by decide +kernel
theorem dX6_besideKey_17 : decode cX6_besideKey 17 = .ok (.iadd, 1) := by decide +kernel
theorem dX6_besideKey_18 : decode cX6_besideKey 18 = .ok (.ireturn, 1) := by decide +kernel
theorem dX6_besideKey_19 : decode cX6_besideKey 19 = .ok (.iload_n 1, 1) := by decide +kernel
theorem dX6_besideKey_20 : decode cX6_besideKey 20 = .ok (.aload_n 0, 1) := by decide +kernel
theorem dX6_besideKey_21 : decode cX6_besideKey 21 = .ok (.getfield 15, 3) := by decide +kernel
theorem dX6_besideKey_24 : decode cX6_besideKey 24 = .ok (.iconst 0, 1) := by decide +kernel
theorem dX6_besideKey_25 : decode cX6_besideKey 25 = .ok (.iaload, 1) := by decide +kernel
theorem dX6_besideKey_26 : decode cX6_besideKey 26 = .ok (.isub, 1) := by decide +kernel
theorem dX6_besideKey_27 : decode cX6_besideKey 27 = .ok (.istore_n 2, 1) := by decide +kernel
theorem dX6_besideKey_28 : decode cX6_besideKey 28 = .ok (.iload_n 2, 1) := by decide +kernel
theorem dX6_besideKey_29 : decode cX6_besideKey 29 = .ok (.aload_n 0, 1) := by decide +kernel
theorem dX6_besideKey_30 : decode cX6_besideKey 30 = .ok (.getfield 15, 3) := by decide +kernel
theorem dX6_besideKey_33 : decode cX6_besideKey 33 = .ok (.iconst 1, 1) := by decide +kernel
theorem dX6_besideKey_34 : decode cX6_besideKey 34 = .ok (.iaload, 1) := by decide +kernel
theorem dX6_besideKey_35 : decode cX6_besideKey 35 = .ok (.aload_n 0, 1) := by decide +kernel
theorem dX6_besideKey_36 : decode cX6_besideKey 36 = .ok (.getfield 15, 3) := by decide +kernel
theorem dX6_besideKey_39 : decode cX6_besideKey 39 = .ok (.iconst 3, 1) := by decide +kernel
theorem dX6_besideKey_40 : decode cX6_besideKey 40 = .ok (.iaload, 1) := by decide +kernel
theorem dX6_besideKey_41 : decode cX6_besideKey 41 = .ok (.iadd, 1) := by decide +kernel
theorem dX6_besideKey_42 : decode cX6_besideKey 42 = .ok (.if_icmp .lt 26, 3) := by decide +kernel
theorem dX6_besideKey_45 : decode cX6_besideKey 45 = .ok (.aload_n 0, 1) := by decide +kernel
theorem dX6_besideKey_46 : decode cX6_besideKey 46 = .ok (.getfield 9, 3) := by decide +kernel
theorem dX6_besideKey_49 : decode cX6_besideKey 49 = .ok (.iconst 2, 1) := by decide +kernel
theorem dX6_besideKey_50 : decode cX6_besideKey 50 = .ok (.iaload, 1) := by decide +kernel
theorem dX6_besideKey_51 : decode cX6_besideKey 51 = .ok (.iload_n 2, 1) := by decide +kernel
theorem dX6_besideKey_52 : decode cX6_besideKey 52 = .ok (.iadd, 1) := by decide +kernel
theorem dX6_besideKey_53 : decode cX6_besideKey 53 = .ok (.aload_n 0, 1) := by decide +kernel
theorem dX6_besideKey_54 : decode cX6_besideKey 54 = .ok (.getfield 15, 3) := by decide +kernel
theorem dX6_besideKey_57 : decode cX6_besideKey 57 = .ok (.iconst 1, 1) := by decide +kernel
theorem dX6_besideKey_58 : decode cX6_besideKey 58 = .ok (.iaload, 1) := by decide +kernel
theorem dX6_besideKey_59 : decode cX6_besideKey 59 = .ok (.isub, 1) := by decide +kernel
theorem dX6_besideKey_60 : decode cX6_besideKey 60 = .ok (.aload_n 0, 1) := by decide +kernel
theorem dX6_besideKey_61 : decode cX6_besideKey 61 = .ok (.getfield 15, 3) := by decide +kernel
theorem dX6_besideKey_64 : decode cX6_besideKey 64 = .ok (.iconst 3, 1) := by decide +kernel
theorem dX6_besideKey_65 : decode cX6_besideKey 65 = .ok (.iaload, 1) := by decide +kernel
theorem dX6_besideKey_66 : decode cX6_besideKey 66 = .ok (.isub, 1) := by decide +kernel
theorem dX6_besideKey_67 : decode cX6_besideKey 67 = .ok (.ireturn, 1) := by decide +kernel
theorem dX6_besideKey_68 : decode cX6_besideKey 68 = .ok (.iload_n 2, 1) := by decide +kernel
theorem dX6_besideKey_69 : decode cX6_besideKey 69 = .ok (.ifCond .ne 19, 3) := by decide +kernel
theorem dX6_besideKey_72 : decode cX6_besideKey 72 = .ok (.aload_n 0, 1) := by decide +kernel
theorem dX6_besideKey_73 : decode cX6_besideKey 73 = .ok (.getfield 9, 3) := by decide +kernel
theorem dX6_besideKey_76 : decode cX6_besideKey 76 = .ok (.iconst 1, 1) := by decide +kernel
theorem dX6_besideKey_77 : decode cX6_besideKey 77 = .ok (.iaload, 1) := by decide +kernel
theorem dX6_besideKey_78 : decode cX6_besideKey 78 = .ok (.aload_n 0, 1) := by decide +kernel
theorem dX6_besideKey_79 : decode cX6_besideKey 79 = .ok (.getfield 9, 3) := by decide +kernel
theorem dX6_besideKey_82 : decode cX6_besideKey 82 = .ok (.iconst 3, 1) := by decide +kernel
theorem dX6_besideKey_83 : decode cX6_besideKey 83 = .ok (.iaload, 1) := by decide +kernel
theorem dX6_besideKey_84 : decode cX6_besideKey 84 = .ok (.invokestatic 123, 3) := by decide +kernel
theorem dX6_besideKey_87 : decode cX6_besideKey 87 = .ok (.ireturn, 1) := by decide +kernel
theorem dX6_besideKey_88 : decode cX6_besideKey 88 = .ok (.aload_n 0, 1) := by decide +kernel
theorem dX6_besideKey_89 : decode cX6_besideKey 89 = .ok (.getfield 9, 3) := by decide +kernel
theorem dX6_besideKey_92 : decode cX6_besideKey 92 = .ok (.iconst 1, 1) := by decide +kernel
theorem dX6_besideKey_93 : decode cX6_besideKey 93 = .ok (.iaload, 1) := by decide +kernel
theorem dX6_besideKey_94 : decode cX6_besideKey 94 = .ok (.aload_n 0, 1) := by decide +kernel
theorem dX6_besideKey_95 : decode cX6_besideKey 95 = .ok (.getfield 9, 3) := by decide +kernel
theorem dX6_besideKey_98 : decode cX6_besideKey 98 = .ok (.iconst 3, 1) := by decide +kernel
theorem dX6_besideKey_99 : decode cX6_besideKey 99 = .ok (.iaload, 1) := by decide +kernel
theorem dX6_besideKey_100 : decode cX6_besideKey 100 = .ok (.invokestatic 126, 3) := by decide +kernel
theorem dX6_besideKey_103 : decode cX6_besideKey 103 = .ok (.ireturn, 1) := by decide +kernel
theorem gX6_lookAtCorners_X6_addCorners : GoodIn wsX6_lookAtCorners (wsV RX6 129 RX6 yX6_addCorners wsX6_addCorners) := gw_c t_w242 (gw_c t_w241 (gw_c t_w240 (gw_c t_w135 (gw_c t_w239 (gw_t)))))
theorem dX6_lookAtCorners_0 : decode cX6_lookAtCorners 0 = .ok (.aload_n 0, 1) := by decide +kernel
theorem dX6_lookAtCorners_1 : decode cX6_lookAtCorners 1 = .ok (.iconst 0, 1) := by decide +kernel
theorem dX6_lookAtCorners_2 : decode cX6_lookAtCorners 2 = .ok (.putfield 21, 3) := by decide +kernel
theorem dX6_lookAtCorners_5 : decode cX6_lookAtCorners 5 = .ok (.aload_n 0, 1) := by decide +kernel
theorem dX6_lookAtCorners_6 : decode cX6_lookAtCorners 6 = .ok (.getfield 40, 3) := by decide +kernel
theorem dX6_lookAtCorners_9 : decode cX6_lookAtCorners 9 = .ok (.ifCond .ne 23, 3) := by decide +kernel
theorem dX6_lookAtCorners_12 : decode cX6_lookAtCorners 12 = .ok (.aload_n 0, 1) := by decide +kernel
theorem dX6_lookAtCorners_13 : decode cX6_lookAtCorners 13 = .ok (.aload_n 0, 1) := by decide +kernel
theorem dX6_lookAtCorners_14 : decode cX6_lookAtCorners 14 = .ok (.getfield 28, 3) := by decide +kernel
theorem dX6_lookAtCorners_17 : decode cX6_lookAtCorners 17 = .ok (.iconst 1, 1) := by decide +kernel
theorem dX6_lookAtCorners_18 : decode cX6_lookAtCorners 18 = .ok (.isub, 1) := by decide +kernel
theorem dX6_lookAtCorners_19 : decode cX6_lookAtCorners 19 = .ok (.invokevirtual 129, 3) := by decide +kernel
theorem dX6_lookAtCorners_22 : decode cX6_lookAtCorners 22 = .ok (.aload_n 0, 1) := by decide +kernel
theorem dX6_lookAtCorners_23 : decode cX6_lookAtCorners 23 = .ok (.aload_n 0, 1) := by decide +kernel
theorem dX6_lookAtCorners_24 : decode cX6_lookAtCorners 24 = .ok (.getfield 28, 3) := by decide +kernel
theorem dX6_lookAtCorners_27 : decode cX6_lookAtCorners 27 = .ok (.iconst 1, 1) := by decide +kernel
theorem dX6_lookAtCorners_28 : decode cX6_lookAtCorners 28 = .ok (.iadd, 1) := by decide +kernel
theorem dX6_lookAtCorners_29 : decode cX6_lookAtCorners 29 = .ok (.invokevirtual 129, 3) := by decide +kernel
theorem dX6_lookAtCorners_32 : decode cX6_lookAtCorners 32 = .ok (.return_, 1) := by decide +kernel
theorem gX6_addCorners_X2_isCapRow : GoodIn wsX6_addCorners (wsV RX6 60 RX2 yX2_isCapRow wsX2_isCapRow) := gw_c t_w215 (gw_c t_w61 (gw_c t_w60 (gw_c t_w1 (gw_c t_w59 (gw_t)))))
theorem gX6_addCorners_X2_rowLength : GoodIn wsX6_addCorners (wsV RX6 57 RX2 yX2_rowLength wsX2_rowLength) := gw_c t_w214 (gw_c t_w20 (gw_c t_w19 (gw_c t_w1 (gw_c t_w18 (gw_t)))))
theorem gX6_addCorners_X2_rowStart : GoodIn wsX6_addCorners (wsV RX6 54 RX2 yX2_rowStart wsX2_rowStart) := gw_c t_w213 (gw_c t_w24 (gw_c t_w23 (gw_c t_w1 (gw_c t_w22 (gw_t)))))
theorem gX6_addCorners_X6_addCorner : GoodIn wsX6_addCorners (wsV RX6 133 RX6 yX6_addCorner wsX6_addCorner) := gw_c t_w246 (gw_c t_w245 (gw_c t_w244 (gw_c t_w135 (gw_c t_w243 (gw_t)))))
theorem dX6_addCorners_0 : decode cX6_addCorners 0 = .ok (.aload_n 0, 1) := by decide +kernel
theorem dX6_addCorners_1 : decode cX6_addCorners 1 = .ok (.getfield 44, 3) := by decide +kernel
theorem dX6_addCorners_4 : decode cX6_addCorners 4 = .ok (.aload_n 0, 1) := by decide +kernel
theorem dX6_addCorners_5 : decode cX6_addCorners 5 = .ok (.getfield 25, 3) := by decide +kernel
theorem dX6_addCorners_8 : decode cX6_addCorners 8 = .ok (.iload_n 1, 1) := by decide +kernel
theorem dX6_addCorners_9 : decode cX6_addCorners 9 = .ok (.invokevirtual 60, 3) := by decide +kernel
theorem dX6_addCorners_12 : decode cX6_addCorners 12 = .ok (.ifCond .eq 4, 3) := by decide +kernel
theorem dX6_addCorners_15 : decode cX6_addCorners 15 = .ok (.return_, 1) := by decide +kernel
theorem dX6_addCorners_16 : decode cX6_addCorners 16 = .ok (.aload_n 0, 1) := by decide +kernel
theorem dX6_addCorners_17 : decode cX6_addCorners 17 = .ok (.getfield 44, 3) := by decide +kernel
theorem dX6_addCorners_20 : decode cX6_addCorners 20 = .ok (.aload_n 0, 1) := by decide +kernel
theorem dX6_addCorners_21 : decode cX6_addCorners 21 = .ok (.getfield 25, 3) := by decide +kernel
theorem dX6_addCorners_24 : decode cX6_addCorners 24 = .ok (.iload_n 1, 1) := by decide +kernel
theorem dX6_addCorners_25 : decode cX6_addCorners 25 = .ok (.invokevirtual 57, 3) := by decide +kernel
theorem dX6_addCorners_28 : decode cX6_addCorners 28 = .ok (.istore_n 2, 1) := by decide +kernel
theorem dX6_addCorners_29 : decode cX6_addCorners 29 = .ok (.aload_n 0, 1) := by decide +kernel
theorem dX6_addCorners_30 : decode cX6_addCorners 30 = .ok (.getfield 44, 3) := by decide +kernel
theorem dX6_addCorners_33 : decode cX6_addCorners 33 = .ok (.aload_n 0, 1) := by decide +kernel
theorem dX6_addCorners_34 : decode cX6_addCorners 34 = .ok (.getfield 25, 3) := by decide +kernel
theorem dX6_addCorners_37 : decode cX6_addCorners 37 = .ok (.iload_n 1, 1) := by decide +kernel
theorem dX6_addCorners_38 : decode cX6_addCorners 38 = .ok (.invokevirtual 54, 3) := by decide +kernel
theorem dX6_addCorners_41 : decode cX6_addCorners 41 = .ok (.istore_n 3, 1) := by decide +kernel
theorem dX6_addCorners_42 : decode cX6_addCorners 42 = .ok (.aload_n 0, 1) := by decide +kernel
theorem dX6_addCorners_43 : decode cX6_addCorners 43 = .ok (.getfield 34, 3) := by decide +kernel
theorem dX6_addCorners_46 : decode cX6_addCorners 46 = .ok (.i2l, 1) := by decide +kernel
theorem dX6_addCorners_47 : decode cX6_addCorners 47 = .ok (.iload_n 2, 1) := by decide +kernel
theorem dX6_addCorners_48 : decode cX6_addCorners 48 = .ok (.i2l, 1) := by decide +kernel
theorem dX6_addCorners_49 : decode cX6_addCorners 49 = .ok (.lmul, 1) := by decide +kernel
theorem dX6_addCorners_50 : decode cX6_addCorners 50 = .ok (.lstore 4, 2) := by decide +kernel
theorem dX6_addCorners_52 : decode cX6_addCorners 52 = .ok (.lload 4, 2) := by decide +kernel
theorem dX6_addCorners_54 : decode cX6_addCorners 54 = .ok (.aload_n 0, 1) := by decide +kernel
theorem dX6_addCorners_55 : decode cX6_addCorners 55 = .ok (.getfield 37, 3) := by decide +kernel
theorem dX6_addCorners_58 : decode cX6_addCorners 58 = .ok (.i2l, 1) := by decide +kernel
theorem dX6_addCorners_59 : decode cX6_addCorners 59 = .ok (.lrem, 1) := by decide +kernel
theorem dX6_addCorners_60 : decode cX6_addCorners 60 = .ok (.lconst 0, 1) := by decide +kernel
theorem dX6_addCorners_61 : decode cX6_addCorners 61 = .ok (.lcmp, 1) := by decide +kernel
theorem dX6_addCorners_62 : decode cX6_addCorners 62 = .ok (.ifCond .ne 25, 3) := by decide +kernel
theorem dX6_addCorners_65 : decode cX6_addCorners 65 = .ok (.aload_n 0, 1) := by decide +kernel
theorem dX6_addCorners_66 : decode cX6_addCorners 66 = .ok (.iload_n 3, 1) := by decide +kernel
theorem dX6_addCorners_67 : decode cX6_addCorners 67 = .ok (.lload 4, 2) := by decide +kernel
theorem dX6_addCorners_69 : decode cX6_addCorners 69 = .ok (.aload_n 0, 1) := by decide +kernel
theorem dX6_addCorners_70 : decode cX6_addCorners 70 = .ok (.getfield 37, 3) := by decide +kernel
theorem dX6_addCorners_73 : decode cX6_addCorners 73 = .ok (.i2l, 1) := by decide +kernel
theorem dX6_addCorners_74 : decode cX6_addCorners 74 = .ok (.ldiv, 1) := by decide +kernel
theorem dX6_addCorners_75 : decode cX6_addCorners 75 = .ok (.iload_n 2, 1) := by decide +kernel
theorem dX6_addCorners_76 : decode cX6_addCorners 76 = .ok (.i2l, 1) := by decide +kernel
theorem dX6_addCorners_77 : decode cX6_addCorners 77 = .ok (.ladd, 1) := by decide +kernel
theorem dX6_addCorners_78 : decode cX6_addCorners 78 = .ok (.lconst 1, 1) := by decide +kernel
theorem dX6_addCorners_79 : decode cX6_addCorners 79 = .ok (.lsub, 1) := by decide +kernel
theorem dX6_addCorners_80 : decode cX6_addCorners 80 = .ok (.l2i, 1) := by decide +kernel
theorem dX6_addCorners_81 : decode cX6_addCorners 81 = .ok (.iload_n 2, 1) := by decide +kernel
theorem dX6_addCorners_82 : decode cX6_addCorners 82 = .ok (.irem, 1) := by decide +kernel
theorem dX6_addCorners_83 : decode cX6_addCorners 83 = .ok (.iadd, 1) := by decide +kernel
theorem dX6_addCorners_84 : decode cX6_addCorners 84 = .ok (.invokevirtual 133, 3) := by decide +kernel
theorem dX6_addCorners_87 : decode cX6_addCorners 87 = .ok (.lload 4, 2) := by decide +kernel
theorem dX6_addCorners_89 : decode cX6_addCorners 89 = .ok (.iload_n 2, 1) := by decide +kernel
theorem dX6_addCorners_90 : decode cX6_addCorners 90 = .ok (.i2l, 1) := by decide +kernel
theorem dX6_addCorners_91 : decode cX6_addCorners 91 = .ok (.ladd, 1) := by decide +kernel
theorem dX6_addCorners_92 : decode cX6_addCorners 92 = .ok (.lstore 6, 2) := by decide +kernel
theorem dX6_addCorners_94 : decode cX6_addCorners 94 = .ok (.lload 6, 2) := by decide +kernel
theorem dX6_addCorners_96 : decode cX6_addCorners 96 = .ok (.aload_n 0, 1) := by decide +kernel
theorem dX6_addCorners_97 : decode cX6_addCorners 97 = .ok (.getfield 37, 3) := by decide +kernel
theorem dX6_addCorners_100 : decode cX6_addCorners 100 = .ok (.i2l, 1) := by decide +kernel
theorem dX6_addCorners_101 : decode cX6_addCorners 101 = .ok (.lrem, 1) := by decide +kernel
theorem dX6_addCorners_102 : decode cX6_addCorners 102 = .ok (.lconst 0, 1) := by decide +kernel
theorem dX6_addCorners_103 : decode cX6_addCorners 103 = .ok (.lcmp, 1) := by decide +kernel
theorem dX6_addCorners_104 : decode cX6_addCorners 104 = .ok (.ifCond .ne 20, 3) := by decide +kernel
theorem dX6_addCorners_107 : decode cX6_addCorners 107 = .ok (.aload_n 0, 1) := by decide +kernel
theorem dX6_addCorners_108 : decode cX6_addCorners 108 = .ok (.iload_n 3, 1) := by decide +kernel
theorem dX6_addCorners_109 : decode cX6_addCorners 109 = .ok (.lload 6, 2) := by decide +kernel
theorem dX6_addCorners_111 : decode cX6_addCorners 111 = .ok (.aload_n 0, 1) := by decide +kernel
theorem dX6_addCorners_112 : decode cX6_addCorners 112 = .ok (.getfield 37, 3) := by decide +kernel
theorem dX6_addCorners_115 : decode cX6_addCorners 115 = .ok (.i2l, 1) := by decide +kernel
theorem dX6_addCorners_116 : decode cX6_addCorners 116 = .ok (.ldiv, 1) := by decide +kernel
theorem dX6_addCorners_117 : decode cX6_addCorners 117 = .ok (.l2i, 1) := by decide +kernel
theorem dX6_addCorners_118 : decode cX6_addCorners 118 = .ok (.iload_n 2, 1) := by decide +kernel
theorem dX6_addCorners_119 : decode cX6_addCorners 119 = .ok (.irem, 1) := by decide +kernel
theorem dX6_addCorners_120 : decode cX6_addCorners 120 = .ok (.iadd, 1) := by decide +kernel
theorem dX6_addCorners_121 : decode cX6_addCorners 121 = .ok (.invokevirtual 133, 3) := by decide +kernel
theorem dX6_addCorners_124 : decode cX6_addCorners 124 = .ok (.return_, 1) := by decide +kernel
theorem dX6_addCorner_0 : decode cX6_addCorner 0 = .ok (.aload_n 0, 1) := by decide +kernel
theorem dX6_addCorner_1 : decode cX6_addCorner 1 = .ok (.getfield 21, 3) := by decide +kernel
theorem dX6_addCorner_4 : decode cX6_addCorner 4 = .ok (.istore_n 2, 1) := by decide +kernel
theorem dX6_addCorner_5 : decode cX6_addCorner 5 = .ok (.iload_n 2, 1) := by decide +kernel
theorem dX6_addCorner_6 : decode cX6_addCorner 6 = .ok (.aload_n 0, 1) := by decide +kernel
theorem dX6_addCorner_7 : decode cX6_addCorner 7 = .ok (.getfield 18, 3) := by decide +kernel
theorem dX6_addCorner_10 : decode cX6_addCorner 10 = .ok (.arraylength, 1) := by decide +kernel
theorem dX6_addCorner_11 : decode cX6_addCorner 11 = .ok (.if_icmp .lt 4, 3) := by decide +kernel
theorem dX6_addCorner_14 : decode cX6_addCorner 14 = .ok (.return_, 1) := by decide +kernel
theorem dX6_addCorner_15 : decode cX6_addCorner 15 = .ok (.iload_n 2, 1) := by decide +kernel
theorem dX6_addCorner_16 : decode cX6_addCorner 16 = .ok (.ifCond .le 35, 3) := by decide +kernel
theorem dX6_addCorner_19 : decode cX6_addCorner 19 = .ok (.aload_n 0, 1) := by decide +kernel
theorem dX6_addCorner_20 : decode cX6_addCorner 20 = .ok (.getfield 18, 3) := by decide +kernel
theorem dX6_addCorner_23 : decode cX6_addCorner 23 = .ok (.iload_n 2, 1) := by decide +kernel
theorem dX6_addCorner_24 : decode cX6_addCorner 24 = .ok (.iconst 1, 1) := by decide +kernel
theorem dX6_addCorner_25 : decode cX6_addCorner 25 = .ok (.isub, 1) := by decide +kernel
theorem dX6_addCorner_26 : decode cX6_addCorner 26 = .ok (.iaload, 1) := by decide +kernel
theorem dX6_addCorner_27 : decode cX6_addCorner 27 = .ok (.iload_n 1, 1) := by decide +kernel
theorem dX6_addCorner_28 : decode cX6_addCorner 28 = .ok (.if_icmp .le 23, 3) := by decide +kernel
theorem dX6_addCorner_31 : decode cX6_addCorner 31 = .ok (.aload_n 0, 1) := by decide +kernel
theorem dX6_addCorner_32 : decode cX6_addCorner 32 = .ok (.getfield 18, 3) := by decide +kernel
theorem dX6_addCorner_35 : decode cX6_addCorner 35 = .ok (.iload_n 2, 1) := by decide +kernel
theorem dX6_addCorner_36 : decode cX6_addCorner 36 = .ok (.aload_n 0, 1) := by decide +kernel
theorem dX6_addCorner_37 : decode cX6_addCorner 37 = .ok (.getfield 18, 3) := by decide +kernel
theorem dX6_addCorner_40 : decode cX6_addCorner 40 = .ok (.iload_n 2, 1) := by decide +kernel
theorem dX6_addCorner_41 : decode cX6_addCorner 41 = .ok (.iconst 1, 1) := by decide +kernel
theorem dX6_addCorner_42 : decode cX6_addCorner 42 = .ok (.isub, 1) := by decide +kernel
theorem dX6_addCorner_43 : decode cX6_addCorner 43 = .ok (.iaload, 1) := by decide +kernel
theorem dX6_addCorner_44 : decode cX6_addCorner 44 = .ok (.iastore, 1) := by decide +kernel
theorem dX6_addCorner_45 : decode cX6_addCorner 45 = .ok (.iinc 2 (-1), 3) := by decide +kernel
theorem dX6_addCorner_48 : decode cX6_addCorner 48 = .ok (.goto (-33), 3) := by decide +kernel
theorem dX6_addCorner_51 : decode cX6_addCorner 51 = .ok (.aload_n 0, 1) := by decide +kernel
theorem dX6_addCorner_52 : decode cX6_addCorner 52 = .ok (.getfield 18, 3) := by decide +kernel
theorem dX6_addCorner_55 : decode cX6_addCorner 55 = .ok (.iload_n 2, 1) := by decide +kernel
theorem dX6_addCorner_56 : decode cX6_addCorner 56 = .ok (.iload_n 1, 1) := by decide +kernel
theorem dX6_addCorner_57 : decode cX6_addCorner 57 = .ok (.iastore, 1) := by decide +kernel
theorem dX6_addCorner_58 : decode cX6_addCorner 58 = .ok (.aload_n 0, 1) := by decide +kernel
theorem dX6_addCorner_59 : decode cX6_addCorner 59 = .ok (.dup, 1) := by decide +kernel
theorem dX6_addCorner_60 : decode cX6_addCorner 60 = .ok (.getfield 21, 3) := by decide +kernel
theorem dX6_addCorner_63 : decode cX6_addCorner 63 = .ok (.iconst 1, 1) := by decide +kernel
theorem dX6_addCorner_64 : decode cX6_addCorner 64 = .ok (.iadd, 1) := by decide +kernel
theorem dX6_addCorner_65 : decode cX6_addCorner 65 = .ok (.putfield 21, 3) := by decide +kernel
theorem dX6_addCorner_68 : decode cX6_addCorner 68 = .ok (.return_, 1) := by decide +kernel
theorem dX7_init_0 : decode cX7_init 0 = .ok (.aload_n 0, 1) := by decide +kernel
theorem dX7_init_1 : decode cX7_init 1 = .ok (.invokespecial 3, 3) := by decide +kernel
theorem dX7_init_4 : decode cX7_init 4 = .ok (.aload_n 0, 1) := by decide +kernel
theorem dX7_init_5 : decode cX7_init 5 = .ok (.bipush 60, 2) := by decide +kernel
theorem dX7_init_7 : decode cX7_init 7 = .ok (.newarray .int, 2) := by decide +kernel
theorem dX7_init_9 : decode cX7_init 9 = .ok (.putfield 9, 3) := by decide +kernel
theorem dX7_init_12 : decode cX7_init 12 = .ok (.aload_n 0, 1) := by decide +kernel
theorem dX7_init_13 : decode cX7_init 13 = .ok (.bipush 60, 2) := by decide +kernel
theorem dX7_init_15 : decode cX7_init 15 = .ok (.newarray .int, 2) := by decide +kernel
theorem dX7_init_17 : decode cX7_init 17 = .ok (.putfield 15, 3) := by decide +kernel
theorem dX7_init_20 : decode cX7_init 20 = .ok (.aload_n 0, 1) := by decide +kernel
theorem dX7_init_21 : decode cX7_init 21 = .ok (.bipush 60, 2) := by decide +kernel
theorem dX7_init_23 : decode cX7_init 23 = .ok (.newarray .int, 2) := by decide +kernel
theorem dX7_init_25 : decode cX7_init 25 = .ok (.putfield 18, 3) := by decide +kernel
theorem dX7_init_28 : decode cX7_init 28 = .ok (.aload_n 0, 1) := by decide +kernel
theorem dX7_init_29 : decode cX7_init 29 = .ok (.iconst 5, 1) := by decide +kernel
theorem dX7_init_30 : decode cX7_init 30 = .ok (.newarray .int, 2) := by decide +kernel
theorem dX7_init_32 : decode cX7_init 32 = .ok (.putfield 21, 3) := by decide +kernel
theorem dX7_init_35 : decode cX7_init 35 = .ok (.aload_n 0, 1) := by decide +kernel
theorem dX7_init_36 : decode cX7_init 36 = .ok (.iconst 0, 1) := by decide +kernel
theorem dX7_init_37 : decode cX7_init 37 = .ok (.putfield 24, 3) := by decide +kernel
theorem dX7_init_40 : decode cX7_init 40 = .ok (.aload_n 0, 1) := by decide +kernel
theorem dX7_init_41 : decode cX7_init 41 = .ok (.iconst 0, 1) := by decide +kernel
theorem dX7_init_42 : decode cX7_init 42 = .ok (.putfield 28, 3) := by decide +kernel
theorem dX7_init_45 : decode cX7_init 45 = .ok (.aload_n 0, 1) := by decide +kernel
theorem dX7_init_46 : decode cX7_init 46 = .ok (.iconst 0, 1) := by decide +kernel
theorem dX7_init_47 : decode cX7_init 47 = .ok (.putfield 31, 3) := by decide +kernel
theorem dX7_init_50 : decode cX7_init 50 = .ok (.aload_n 0, 1) := by decide +kernel
theorem dX7_init_51 : decode cX7_init 51 = .ok (.iconst 0, 1) := by decide +kernel
theorem dX7_init_52 : decode cX7_init 52 = .ok (.putfield 34, 3) := by decide +kernel
theorem dX7_init_55 : decode cX7_init 55 = .ok (.aload_n 0, 1) := by decide +kernel
theorem dX7_init_56 : decode cX7_init 56 = .ok (.aload_n 1, 1) := by decide +kernel
theorem dX7_init_57 : decode cX7_init 57 = .ok (.putfield 37, 3) := by decide +kernel
theorem dX7_init_60 : decode cX7_init 60 = .ok (.return_, 1) := by decide +kernel
theorem dX7_find_0 : decode cX7_find 0 = .ok (.iconst 0, 1) := by decide +kernel
theorem dX7_find_1 : decode cX7_find 1 = .ok (.istore_n 3, 1) := by decide +kernel
theorem dX7_find_2 : decode cX7_find 2 = .ok (.iload_n 3, 1) := by decide +kernel
theorem dX7_find_3 : decode cX7_find 3 = .ok (.aload_n 0, 1) := by decide +kernel
theorem dX7_find_4 : decode cX7_find 4 = .ok (.getfield 24, 3) := by decide +kernel
theorem dX7_find_7 : decode cX7_find 7 = .ok (.if_icmp .ge 31, 3) := by decide +kernel
theorem dX7_find_10 : decode cX7_find 10 = .ok (.aload_n 0, 1) := by decide +kernel
theorem dX7_find_11 : decode cX7_find 11 = .ok (.getfield 9, 3) := by decide +kernel
theorem dX7_find_14 : decode cX7_find 14 = .ok (.iload_n 3, 1) := by decide +kernel
theorem dX7_find_15 : decode cX7_find 15 = .ok (.iaload, 1) := by decide +kernel
theorem dX7_find_16 : decode cX7_find 16 = .ok (.iload_n 1, 1) := by decide +kernel
theorem dX7_find_17 : decode cX7_find 17 = .ok (.if_icmp .ne 15, 3) := by decide +kernel
theorem dX7_find_20 : decode cX7_find 20 = .ok (.aload_n 0, 1) := by decide +kernel
theorem dX7_find_21 : decode cX7_find 21 = .ok (.getfield 15, 3) := by decide +kernel
theorem dX7_find_24 : decode cX7_find 24 = .ok (.iload_n 3, 1) := by decide +kernel
theorem dX7_find_25 : decode cX7_find 25 = .ok (.iaload, 1) := by decide +kernel
theorem dX7_find_26 : decode cX7_find 26 = .ok (.iload_n 2, 1) := by decide +kernel
theorem dX7_find_27 : decode cX7_find 27 = .ok (.if_icmp .ne 5, 3) := by decide +kernel
theorem dX7_find_30 : decode cX7_find 30 = .ok (.iload_n 3, 1) := by decide +kernel
theorem dX7_find_31 : decode cX7_find 31 = .ok (.ireturn, 1) := by decide +kernel
theorem dX7_find_32 : decode cX7_find 32 = .ok (.iinc 3 1, 3) := by decide +kernel
theorem dX7_find_35 : decode cX7_find 35 = .ok (.goto (-33), 3) := by decide +kernel
theorem dX7_find_38 : decode cX7_find 38 = .ok (.iconst (-1), 1) := by decide +kernel
theorem dX7_find_39 : decode cX7_find 39 = .ok (.ireturn, 1) := by decide +kernel
theorem gX7_put_X7_find : GoodIn wsX7_put (wsV RX7 41 RX7 yX7_find wsX7_find) := gw_c t_w250 (gw_c t_w249 (gw_c t_w248 (gw_c t_w6 (gw_c t_w247 (gw_t)))))
theorem gX7_put_X7_isBehind : GoodIn wsX7_put (wsV RX7 45 RX7 yX7_isBehind wsX7_isBehind) := gw_c t_w254 (gw_c t_w253 (gw_c t_w252 (gw_c t_w6 (gw_c t_w251 (gw_t)))))
theorem gX7_put_X7_move : GoodIn wsX7_put (wsV RX7 49 RX7 yX7_move wsX7_move) := gw_c t_w258 (gw_c t_w257 (gw_c t_w256 (gw_c t_w6 (gw_c t_w255 (gw_t)))))
theorem dX7_put_0 : decode cX7_put 0 = .ok (.aload_n 0, 1) := by decide +kernel
theorem dX7_put_1 : decode cX7_put 1 = .ok (.iload_n 1, 1) := by decide +kernel
theorem dX7_put_2 : decode cX7_put 2 = .ok (.iload_n 2, 1) := by decide +kernel
theorem dX7_put_3 : decode cX7_put 3 = .ok (.invokevirtual 41, 3) := by decide +kernel
theorem dX7_put_6 : decode cX7_put 6 = .ok (.istore 4, 2) := by decide +kernel
theorem dX7_put_8 : decode cX7_put 8 = .ok (.iload 4, 2) := by decide +kernel
theorem dX7_put_10 : decode cX7_put 10 = .ok (.iconst (-1), 1) := by decide +kernel
theorem dX7_put_11 : decode cX7_put 11 = .ok (.if_icmp .eq 13, 3) := by decide +kernel
theorem dX7_put_14 : decode cX7_put 14 = .ok (.aload_n 0, 1) := by decide +kernel
theorem dX7_put_15 : decode cX7_put 15 = .ok (.getfield 18, 3) := by decide +kernel
theorem dX7_put_18 : decode cX7_put 18 = .ok (.iload 4, 2) := by decide +kernel
theorem dX7_put_20 : decode cX7_put 20 = .ok (.iload_n 3, 1) := by decide +kernel
theorem dX7_put_21 : decode cX7_put 21 = .ok (.iastore, 1) := by decide +kernel
theorem dX7_put_22 : decode cX7_put 22 = .ok (.iconst 1, 1) := by decide +kernel
theorem dX7_put_23 : decode cX7_put 23 = .ok (.ireturn, 1) := by decide +kernel
theorem dX7_put_24 : decode cX7_put 24 = .ok (.aload_n 0, 1) := by decide +kernel
theorem dX7_put_25 : decode cX7_put 25 = .ok (.getfield 24, 3) := by decide +kernel
theorem dX7_put_28 : decode cX7_put 28 = .ok (.bipush 60, 2) := by decide +kernel
theorem dX7_put_30 : decode cX7_put 30 = .ok (.if_icmp .lt 5, 3) := by decide +kernel
theorem dX7_put_33 : decode cX7_put 33 = .ok (.iconst 0, 1) := by decide +kernel
theorem dX7_put_34 : decode cX7_put 34 = .ok (.ireturn, 1) := by decide +kernel
theorem dX7_put_35 : decode cX7_put 35 = .ok (.aload_n 0, 1) := by decide +kernel
theorem dX7_put_36 : decode cX7_put 36 = .ok (.getfield 24, 3) := by decide +kernel
theorem dX7_put_39 : decode cX7_put 39 = .ok (.istore 5, 2) := by decide +kernel
theorem dX7_put_41 : decode cX7_put 41 = .ok (.iload 5, 2) := by decide +kernel
theorem dX7_put_43 : decode cX7_put 43 = .ok (.ifCond .le 32, 3) := by decide +kernel
theorem dX7_put_46 : decode cX7_put 46 = .ok (.aload_n 0, 1) := by decide +kernel
theorem dX7_put_47 : decode cX7_put 47 = .ok (.iload 5, 2) := by decide +kernel
theorem dX7_put_49 : decode cX7_put 49 = .ok (.iconst 1, 1) := by decide +kernel
theorem dX7_put_50 : decode cX7_put 50 = .ok (.isub, 1) := by decide +kernel
theorem dX7_put_51 : decode cX7_put 51 = .ok (.iload_n 1, 1) := by decide +kernel
theorem dX7_put_52 : decode cX7_put 52 = .ok (.iload_n 2, 1) := by decide +kernel
theorem dX7_put_53 : decode cX7_put 53 = .ok (.invokevirtual 45, 3) := by decide +kernel
theorem dX7_put_56 : decode cX7_put 56 = .ok (.ifCond .eq 19, 3) := by decide +kernel
theorem dX7_put_59 : decode cX7_put 59 = .ok (.aload_n 0, 1) := by decide +kernel
theorem dX7_put_60 : decode cX7_put 60 = .ok (.iload 5, 2) := by decide +kernel
theorem dX7_put_62 : decode cX7_put 62 = .ok (.iconst 1, 1) := by decide +kernel
theorem dX7_put_63 : decode cX7_put 63 = .ok (.isub, 1) := by decide +kernel
theorem dX7_put_64 : decode cX7_put 64 = .ok (.iload 5, 2) := by decide +kernel
theorem dX7_put_66 : decode cX7_put 66 = .ok (.invokevirtual 49, 3) := by decide +kernel
theorem dX7_put_69 : decode cX7_put 69 = .ok (.iinc 5 (-1), 3) := by decide +kernel
theorem dX7_put_72 : decode cX7_put 72 = .ok (.goto (-31), 3) := by decide +kernel
theorem dX7_put_75 : decode cX7_put 75 = .ok (.aload_n 0, 1) := by decide +kernel
theorem dX7_put_76 : decode cX7_put 76 = .ok (.getfield 9, 3) := by decide +kernel
theorem dX7_put_79 : decode cX7_put 79 = .ok (.iload 5, 2) := by decide +kernel
theorem dX7_put_81 : decode cX7_put 81 = .ok (.iload_n 1, 1) := by decide +kernel
theorem dX7_put_82 : decode cX7_put 82 = .ok (.iastore, 1) := by decide +kernel
theorem dX7_put_83 : decode cX7_put 83 = .ok (.aload_n 0, 1) := by decide +kernel
theorem dX7_put_84 : decode cX7_put 84 = .ok (.getfield 15, 3) := by decide +kernel
theorem dX7_put_87 : decode cX7_put 87 = .ok (.iload 5, 2) := by decide +kernel
theorem dX7_put_89 : decode cX7_put 89 = .ok (.iload_n 2, 1) := by decide +kernel
theorem dX7_put_90 : decode cX7_put 90 = .ok (.iastore, 1) := by decide +kernel
theorem dX7_put_91 : decode cX7_put 91 = .ok (.aload_n 0, 1) := by decide +kernel
theorem dX7_put_92 : decode cX7_put 92 = .ok (.getfield 18, 3) := by decide +kernel
theorem dX7_put_95 : decode cX7_put 95 = .ok (.iload 5, 2) := by decide +kernel
theorem dX7_put_97 : decode cX7_put 97 = .ok (.iload_n 3, 1) := by decide +kernel
theorem dX7_put_98 : decode cX7_put 98 = .ok (.iastore, 1) := by decide +kernel
theorem dX7_put_99 : decode cX7_put 99 = .ok (.aload_n 0, 1) := by decide +kernel
theorem dX7_put_100 : decode cX7_put 100 = .ok (.dup, 1) := by decide +kernel
theorem dX7_put_101 : decode cX7_put 101 = .ok (.getfield 24, 3) := by decide +kernel
theorem dX7_put_104 : decode cX7_put 104 = .ok (.iconst 1, 1) := by decide +kernel
theorem dX7_put_105 : decode cX7_put 105 = .ok (.iadd, 1) := by decide +kernel
theorem dX7_put_106 : decode cX7_put 106 = .ok (.putfield 24, 3) := by decide +kernel
theorem dX7_put_109 : decode cX7_put 109 = .ok (.iconst 1, 1) := by decide +kernel
theorem dX7_put_110 : decode cX7_put 110 = .ok (.ireturn, 1) := by decide +kernel
theorem dX7_isBehind_0 : decode cX7_isBehind 0 = .ok (.aload_n 0, 1) := by decide +kernel
theorem dX7_isBehind_1 : decode cX7_isBehind 1 = .ok (.getfield 9, 3) := by decide +kernel
theorem dX7_isBehind_4 : decode cX7_isBehind 4 = .ok (.iload_n 1, 1) := by decide +kernel
theorem dX7_isBehind_5 : decode cX7_isBehind 5 = .ok (.iaload, 1) := by decide +kernel
theorem dX7_isBehind_6 : decode cX7_isBehind 6 = .ok (.iload_n 2, 1) := by decide +kernel
theorem dX7_isBehind_7 : decode cX7_isBehind 7 = .ok (.if_icmp .gt 23, 3) := by decide +kernel
theorem dX7_isBehind_10 : decode cX7_isBehind 10 = .ok (.aload_n 0, 1) := by decide +kernel
theorem dX7_isBehind_11 : decode cX7_isBehind 11 = .ok (.getfield 9, 3) := by decide +kernel
theorem dX7_isBehind_14 : decode cX7_isBehind 14 = .ok (.iload_n 1, 1) := by decide +kernel
theorem dX7_isBehind_15 : decode cX7_isBehind 15 = .ok (.iaload, 1) := by decide +kernel
theorem dX7_isBehind_16 : decode cX7_isBehind 16 = .ok (.iload_n 2, 1) := by decide +kernel
theorem dX7_isBehind_17 : decode cX7_isBehind 17 = .ok (.if_icmp .ne 17, 3) := by decide +kernel
theorem dX7_isBehind_20 : decode cX7_isBehind 20 = .ok (.aload_n 0, 1) := by decide +kernel
theorem dX7_isBehind_21 : decode cX7_isBehind 21 = .ok (.getfield 15, 3) := by decide +kernel
theorem dX7_isBehind_24 : decode cX7_isBehind 24 = .ok (.iload_n 1, 1) := by decide +kernel
theorem dX7_isBehind_25 : decode cX7_isBehind 25 = .ok (.iaload, 1) := by decide +kernel
theorem dX7_isBehind_26 : decode cX7_isBehind 26 = .ok (.iload_n 3, 1) := by decide +kernel
theorem dX7_isBehind_27 : decode cX7_isBehind 27 = .ok (.if_icmp .le 7, 3) := by decide +kernel
theorem dX7_isBehind_30 : decode cX7_isBehind 30 = .ok (.iconst 1, 1) := by decide +kernel
theorem dX7_isBehind_31 : decode cX7_isBehind 31 = .ok (.goto 4, 3) := by decide +kernel
theorem dX7_isBehind_34 : decode cX7_isBehind 34 = .ok (.iconst 0, 1) := by decide +kernel
theorem dX7_isBehind_35 : decode cX7_isBehind 35 = .ok (.ireturn, 1) := by decide +kernel
theorem dX7_move_0 : decode cX7_move 0 = .ok (.aload_n 0, 1) := by decide +kernel
theorem dX7_move_1 : decode cX7_move 1 = .ok (.getfield 9, 3) := by decide +kernel
theorem dX7_move_4 : decode cX7_move 4 = .ok (.iload_n 2, 1) := by decide +kernel
theorem dX7_move_5 : decode cX7_move 5 = .ok (.aload_n 0, 1) := by decide +kernel
theorem dX7_move_6 : decode cX7_move 6 = .ok (.getfield 9, 3) := by decide +kernel
theorem dX7_move_9 : decode cX7_move 9 = .ok (.iload_n 1, 1) := by decide +kernel
theorem dX7_move_10 : decode cX7_move 10 = .ok (.iaload, 1) := by decide +kernel
theorem dX7_move_11 : decode cX7_move 11 = .ok (.iastore, 1) := by decide +kernel
theorem dX7_move_12 : decode cX7_move 12 = .ok (.aload_n 0, 1) := by decide +kernel
theorem dX7_move_13 : decode cX7_move 13 = .ok (.getfield 15, 3) := by decide +kernel
theorem dX7_move_16 : decode cX7_move 16 = .ok (.iload_n 2, 1) := by decide +kernel
theorem dX7_move_17 : decode cX7_move 17 = .ok (.aload_n 0, 1) := by decide +kernel
theorem dX7_move_18 : decode cX7_move 18 = .ok (.getfield 15, 3) := by decide +kernel
theorem dX7_move_21 : decode cX7_move 21 = .ok (.iload_n 1, 1) := by decide +kernel
theorem dX7_move_22 : decode cX7_move 22 = .ok (.iaload, 1) := by decide +kernel
theorem dX7_move_23 : decode cX7_move 23 = .ok (.iastore, 1) := by decide +kernel
theorem dX7_move_24 : decode cX7_move 24 = .ok (.aload_n 0, 1) := by decide +kernel
theorem dX7_move_25 : decode cX7_move 25 = .ok (.getfield 18, 3) := by decide +kernel
theorem dX7_move_28 : decode cX7_move 28 = .ok (.iload_n 2, 1) := by decide +kernel
theorem dX7_move_29 : decode cX7_move 29 = .ok (.aload_n 0, 1) := by decide +kernel
theorem dX7_move_30 : decode cX7_move 30 = .ok (.getfield 18, 3) := by decide +kernel
theorem dX7_move_33 : decode cX7_move 33 = .ok (.iload_n 1, 1) := by decide +kernel
theorem dX7_move_34 : decode cX7_move 34 = .ok (.iaload, 1) := by decide +kernel
theorem dX7_move_35 : decode cX7_move 35 = .ok (.iastore, 1) := by decide +kernel
theorem dX7_move_36 : decode cX7_move 36 = .ok (.return_, 1) := by decide +kernel
theorem gX7_remove_X7_move : GoodIn wsX7_remove (wsV RX7 49 RX7 yX7_move wsX7_move) := gw_c t_w258 (gw_c t_w257 (gw_c t_w256 (gw_c t_w6 (gw_c t_w255 (gw_t)))))
theorem dX7_remove_0 : decode cX7_remove 0 = .ok (.iload_n 1, 1) := by decide +kernel
theorem dX7_remove_1 : decode cX7_remove 1 = .ok (.iconst 1, 1) := by decide +kernel
theorem dX7_remove_2 : decode cX7_remove 2 = .ok (.iadd, 1) := by decide +kernel
theorem dX7_remove_3 : decode cX7_remove 3 = .ok (.istore_n 2, 1) := by decide +kernel
theorem dX7_remove_4 : decode cX7_remove 4 = .ok (.iload_n 2, 1) := by decide +kernel
theorem dX7_remove_5 : decode cX7_remove 5 = .ok (.aload_n 0, 1) := by decide +kernel
theorem dX7_remove_6 : decode cX7_remove 6 = .ok (.getfield 24, 3) := by decide +kernel
theorem dX7_remove_9 : decode cX7_remove 9 = .ok (.if_icmp .ge 17, 3) := by decide +kernel
theorem dX7_remove_12 : decode cX7_remove 12 = .ok (.aload_n 0, 1) := by decide +kernel
theorem dX7_remove_13 : decode cX7_remove 13 = .ok (.iload_n 2, 1) := by decide +kernel
theorem dX7_remove_14 : decode cX7_remove 14 = .ok (.iload_n 2, 1) := by decide +kernel
theorem dX7_remove_15 : decode cX7_remove 15 = .ok (.iconst 1, 1) := by decide +kernel
theorem dX7_remove_16 : decode cX7_remove 16 = .ok (.isub, 1) := by decide +kernel
theorem dX7_remove_17 : decode cX7_remove 17 = .ok (.invokevirtual 49, 3) := by decide +kernel
theorem dX7_remove_20 : decode cX7_remove 20 = .ok (.iinc 2 1, 3) := by decide +kernel
theorem dX7_remove_23 : decode cX7_remove 23 = .ok (.goto (-19), 3) := by decide +kernel
theorem dX7_remove_26 : decode cX7_remove 26 = .ok (.aload_n 0, 1) := by decide +kernel
theorem dX7_remove_27 : decode cX7_remove 27 = .ok (.dup, 1) := by decide +kernel
theorem dX7_remove_28 : decode cX7_remove 28 = .ok (.getfield 24, 3) := by decide +kernel
theorem dX7_remove_31 : decode cX7_remove 31 = .ok (.iconst 1, 1) := by decide +kernel
theorem dX7_remove_32 : decode cX7_remove 32 = .ok (.isub, 1) := by decide +kernel
theorem dX7_remove_33 : decode cX7_remove 33 = .ok (.putfield 24, 3) := by decide +kernel
theorem dX7_remove_36 : decode cX7_remove 36 = .ok (.return_, 1) := by decide +kernel
theorem gX7_lookAt_X2_keyOf : GoodIn wsX7_lookAt (wsV RX7 53 RX2 yX2_keyOf wsX2_keyOf) := gw_c t_w262 (gw_c t_w261 (gw_c t_w260 (gw_c t_w1 (gw_c t_w259 (gw_t)))))
theorem dX7_lookAt_0 : decode cX7_lookAt 0 = .ok (.iconst 0, 1) := by decide +kernel
theorem dX7_lookAt_1 : decode cX7_lookAt 1 = .ok (.istore_n 3, 1) := by decide +kernel
theorem dX7_lookAt_2 : decode cX7_lookAt 2 = .ok (.iload_n 3, 1) := by decide +kernel
theorem dX7_lookAt_3 : decode cX7_lookAt 3 = .ok (.iconst 4, 1) := by decide +kernel
theorem dX7_lookAt_4 : decode cX7_lookAt 4 = .ok (.if_icmp .gt 25, 3) := by decide +kernel
theorem dX7_lookAt_7 : decode cX7_lookAt 7 = .ok (.aload_n 0, 1) := by decide +kernel
theorem dX7_lookAt_8 : decode cX7_lookAt 8 = .ok (.getfield 21, 3) := by decide +kernel
theorem dX7_lookAt_11 : decode cX7_lookAt 11 = .ok (.iload_n 3, 1) := by decide +kernel
theorem dX7_lookAt_12 : decode cX7_lookAt 12 = .ok (.aload_n 0, 1) := by decide +kernel
theorem dX7_lookAt_13 : decode cX7_lookAt 13 = .ok (.getfield 37, 3) := by decide +kernel
theorem dX7_lookAt_16 : decode cX7_lookAt 16 = .ok (.iload_n 3, 1) := by decide +kernel
theorem dX7_lookAt_17 : decode cX7_lookAt 17 = .ok (.iload_n 1, 1) := by decide +kernel
theorem dX7_lookAt_18 : decode cX7_lookAt 18 = .ok (.iload_n 2, 1) := by decide +kernel
theorem dX7_lookAt_19 : decode cX7_lookAt 19 = .ok (.invokevirtual 53, 3) := by decide +kernel
theorem dX7_lookAt_22 : decode cX7_lookAt 22 = .ok (.iastore, 1) := by decide +kernel
theorem dX7_lookAt_23 : decode cX7_lookAt 23 = .ok (.iinc 3 1, 3) := by decide +kernel
theorem dX7_lookAt_26 : decode cX7_lookAt 26 = .ok (.goto (-24), 3) := by decide +kernel
theorem dX7_lookAt_29 : decode cX7_lookAt 29 = .ok (.aload_n 0, 1) := by decide +kernel
theorem dX7_lookAt_30 : decode cX7_lookAt 30 = .ok (.iconst 0, 1) := by decide +kernel
theorem dX7_lookAt_31 : decode cX7_lookAt 31 = .ok (.putfield 28, 3) := by decide +kernel
theorem dX7_lookAt_34 : decode cX7_lookAt 34 = .ok (.aload_n 0, 1) := by decide +kernel
theorem dX7_lookAt_35 : decode cX7_lookAt 35 = .ok (.iconst 0, 1) := by decide +kernel
theorem dX7_lookAt_36 : decode cX7_lookAt 36 = .ok (.putfield 31, 3) := by decide +kernel
theorem dX7_lookAt_39 : decode cX7_lookAt 39 = .ok (.aload_n 0, 1) := by decide +kernel
theorem dX7_lookAt_40 : decode cX7_lookAt 40 = .ok (.iconst 0, 1) := by decide +kernel
theorem dX7_lookAt_41 : decode cX7_lookAt 41 = .ok (.putfield 34, 3) := by decide +kernel
theorem dX7_lookAt_44 : decode cX7_lookAt 44 = .ok (.iconst 0, 1) := by decide +kernel
theorem dX7_lookAt_45 : decode cX7_lookAt 45 = .ok (.istore_n 3, 1) := by decide +kernel
theorem dX7_lookAt_46 : decode cX7_lookAt 46 = .ok (.iload_n 3, 1) := by decide +kernel
theorem dX7_lookAt_47 : decode cX7_lookAt 47 = .ok (.aload_n 0, 1) := by decide +kernel
theorem dX7_lookAt_48 : decode cX7_lookAt 48 = .ok (.getfield 24, 3) := by decide +kernel
theorem dX7_lookAt_51 : decode cX7_lookAt 51 = .ok (.if_icmp .ge 66, 3) := by decide +kernel
theorem dX7_lookAt_54 : decode cX7_lookAt 54 = .ok (.aload_n 0, 1) := by decide +kernel
theorem dX7_lookAt_55 : decode cX7_lookAt 55 = .ok (.getfield 21, 3) := by decide +kernel
theorem dX7_lookAt_58 : decode cX7_lookAt 58 = .ok (.aload_n 0, 1) := by decide +kernel
theorem dX7_lookAt_59 : decode cX7_lookAt 59 = .ok (.getfield 9, 3) := by decide +kernel
theorem dX7_lookAt_62 : decode cX7_lookAt 62 = .ok (.iload_n 3, 1) := by decide +kernel
theorem dX7_lookAt_63 : decode cX7_lookAt 63 = .ok (.iaload, 1) := by decide +kernel
theorem dX7_lookAt_64 : decode cX7_lookAt 64 = .ok (.iaload, 1) := by decide +kernel
theorem dX7_lookAt_65 : decode cX7_lookAt 65 = .ok (.aload_n 0, 1) := by decide +kernel
theorem dX7_lookAt_66 : decode cX7_lookAt 66 = .ok (.getfield 15, 3) := by decide +kernel
theorem dX7_lookAt_69 : decode cX7_lookAt 69 = .ok (.iload_n 3, 1) := by decide +kernel
theorem dX7_lookAt_70 : decode cX7_lookAt 70 = .ok (.iaload, 1) := by decide +kernel
theorem dX7_lookAt_71 : decode cX7_lookAt 71 = .ok (.if_icmp .ne 40, 3) := by decide +kernel
theorem dX7_lookAt_74 : decode cX7_lookAt 74 = .ok (.aload_n 0, 1) := by decide +kernel
theorem dX7_lookAt_75 : decode cX7_lookAt 75 = .ok (.dup, 1) := by decide +kernel
theorem dX7_lookAt_76 : decode cX7_lookAt 76 = .ok (.getfield 28, 3) := by decide +kernel
theorem dX7_lookAt_79 : decode cX7_lookAt 79 = .ok (.iconst 1, 1) := by decide +kernel
theorem dX7_lookAt_80 : decode cX7_lookAt 80 = .ok (.iadd, 1) := by decide +kernel
theorem dX7_lookAt_81 : decode cX7_lookAt 81 = .ok (.putfield 28, 3) := by decide +kernel
theorem dX7_lookAt_84 : decode cX7_lookAt 84 = .ok (.aload_n 0, 1) := by decide +kernel
theorem dX7_lookAt_85 : decode cX7_lookAt 85 = .ok (.aload_n 0, 1) := by decide +kernel
theorem dX7_lookAt_86 : decode cX7_lookAt 86 = .ok (.getfield 9, 3) := by decide +kernel
theorem dX7_lookAt_89 : decode cX7_lookAt 89 = .ok (.iload_n 3, 1) := by decide +kernel
theorem dX7_lookAt_90 : decode cX7_lookAt 90 = .ok (.iaload, 1) := by decide +kernel
theorem dX7_lookAt_91 : decode cX7_lookAt 91 = .ok (.putfield 31, 3) := by decide +kernel
theorem dX7_lookAt_94 : decode cX7_lookAt 94 = .ok (.aload_n 0, 1) := by decide +kernel
theorem dX7_lookAt_95 : decode cX7_lookAt 95 = .ok (.aload_n 0, 1) := by decide +kernel
theorem dX7_lookAt_96 : decode cX7_lookAt 96 = .ok (.getfield 34, 3) := by decide +kernel
theorem dX7_lookAt_99 : decode cX7_lookAt 99 = .ok (.aload_n 0, 1) := by decide +kernel
theorem dX7_lookAt_100 : decode cX7_lookAt 100 = .ok (.getfield 18, 3) := by decide +kernel
theorem dX7_lookAt_103 : decode cX7_lookAt 103 = .ok (.iload_n 3, 1) := by decide +kernel
theorem dX7_lookAt_104 : decode cX7_lookAt 104 = .ok (.iaload, 1) := by decide +kernel
theorem dX7_lookAt_105 : decode cX7_lookAt 105 = .ok (.invokestatic 59, 3) := by decide +kernel
theorem dX7_lookAt_108 : decode cX7_lookAt 108 = .ok (.putfield 34, 3) := by decide +kernel
theorem dX7_lookAt_111 : decode cX7_lookAt 111 = .ok (.iinc 3 1, 3) := by decide +kernel
theorem dX7_lookAt_114 : decode cX7_lookAt 114 = .ok (.goto (-68), 3) := by decide +kernel
theorem dX7_lookAt_117 : decode cX7_lookAt 117 = .ok (.return_, 1) := by decide +kernel
theorem gX7_isNeedless_X2_keyAbove : GoodIn wsX7_isNeedless (wsV RX7 64 RX2 yX2_keyAbove wsX2_keyAbove) := gw_c t_w266 (gw_c t_w265 (gw_c t_w264 (gw_c t_w1 (gw_c t_w263 (gw_t)))))
theorem dX7_isNeedless_0 : decode cX7_isNeedless 0 = .ok (.iconst 0, 1) := by decide +kernel
theorem dX7_isNeedless_1 : decode cX7_isNeedless 1 = .ok (.istore_n 2, 1) := by decide +kernel
theorem dX7_isNeedless_2 : decode cX7_isNeedless 2 = .ok (.iload_n 2, 1) := by decide +kernel
theorem dX7_isNeedless_3 : decode cX7_isNeedless 3 = .ok (.iload_n 1, 1) := by decide +kernel
theorem dX7_isNeedless_4 : decode cX7_isNeedless 4 = .ok (.if_icmp .ge 75, 3) := by decide +kernel
theorem dX7_isNeedless_7 : decode cX7_isNeedless 7 = .ok (.aload_n 0, 1) := by decide +kernel
theorem dX7_isNeedless_8 : decode cX7_isNeedless 8 = .ok (.getfield 9, 3) := by decide +kernel
theorem dX7_isNeedless_11 : decode cX7_isNeedless 11 = .ok (.iload_n 2, 1) := by decide +kernel
theorem dX7_isNeedless_12 : decode cX7_isNeedless 12 = .ok (.iaload, 1) := by decide +kernel
theorem dX7_isNeedless_13 : decode cX7_isNeedless 13 = .ok (.aload_n 0, 1) := by decide +kernel
theorem dX7_isNeedless_14 : decode cX7_isNeedless 14 = .ok (.getfield 9, 3) := by decide +kernel
theorem dX7_isNeedless_17 : decode cX7_isNeedless 17 = .ok (.iload_n 1, 1) := by decide +kernel
theorem dX7_isNeedless_18 : decode cX7_isNeedless 18 = .ok (.iaload, 1) := by decide +kernel
theorem dX7_isNeedless_19 : decode cX7_isNeedless 19 = .ok (.if_icmp .ge 54, 3) := by decide +kernel
theorem dX7_isNeedless_22 : decode cX7_isNeedless 22 = .ok (.aload_n 0, 1) := by decide +kernel
theorem dX7_isNeedless_23 : decode cX7_isNeedless 23 = .ok (.getfield 18, 3) := by decide +kernel
theorem dX7_isNeedless_26 : decode cX7_isNeedless 26 = .ok (.iload_n 2, 1) := by decide +kernel
theorem dX7_isNeedless_27 : decode cX7_isNeedless 27 = .ok (.iaload, 1) := by decide +kernel
theorem dX7_isNeedless_28 : decode cX7_isNeedless 28 = .ok (.aload_n 0, 1) := by decide +kernel
theorem dX7_isNeedless_29 : decode cX7_isNeedless 29 = .ok (.getfield 18, 3) := by decide +kernel
theorem dX7_isNeedless_32 : decode cX7_isNeedless 32 = .ok (.iload_n 1, 1) := by decide +kernel
theorem dX7_isNeedless_33 : decode cX7_isNeedless 33 = .ok (.iaload, 1) := by decide +kernel
theorem dX7_isNeedless_34 : decode cX7_isNeedless 34 = .ok (.if_icmp .lt 39, 3) := by decide +kernel
theorem dX7_isNeedless_37 : decode cX7_isNeedless 37 = .ok (.aload_n 0, 1) := by decide +kernel
theorem dX7_isNeedless_38 : decode cX7_isNeedless 38 = .ok (.getfield 37, 3) := by decide +kernel
theorem dX7_isNeedless_41 : decode cX7_isNeedless 41 = .ok (.aload_n 0, 1) := by decide +kernel
theorem dX7_isNeedless_42 : decode cX7_isNeedless 42 = .ok (.getfield 9, 3) := by decide +kernel
theorem dX7_isNeedless_45 : decode cX7_isNeedless 45 = .ok (.iload_n 1, 1) := by decide +kernel
theorem dX7_isNeedless_46 : decode cX7_isNeedless 46 = .ok (.iaload, 1) := by decide +kernel
theorem dX7_isNeedless_47 : decode cX7_isNeedless 47 = .ok (.aload_n 0, 1) := by decide +kernel
theorem dX7_isNeedless_48 : decode cX7_isNeedless 48 = .ok (.getfield 15, 3) := by decide +kernel
theorem dX7_isNeedless_51 : decode cX7_isNeedless 51 = .ok (.iload_n 1, 1) := by decide +kernel
theorem dX7_isNeedless_52 : decode cX7_isNeedless 52 = .ok (.iaload, 1) := by decide +kernel
theorem dX7_isNeedless_53 : decode cX7_isNeedless 53 = .ok (.aload_n 0, 1) := by decide +kernel
theorem dX7_isNeedless_54 : decode cX7_isNeedless 54 = .ok (.getfield 9, 3) := by decide +kernel
theorem dX7_isNeedless_57 : decode cX7_isNeedless 57 = .ok (.iload_n 2, 1) := by decide +kernel
theorem dX7_isNeedless_58 : decode cX7_isNeedless 58 = .ok (.iaload, 1) := by decide +kernel
theorem dX7_isNeedless_59 : decode cX7_isNeedless 59 = .ok (.invokevirtual 64, 3) := by decide +kernel
theorem dX7_isNeedless_62 : decode cX7_isNeedless 62 = .ok (.aload_n 0, 1) := by decide +kernel
theorem dX7_isNeedless_63 : decode cX7_isNeedless 63 = .ok (.getfield 15, 3) := by decide +kernel
theorem dX7_isNeedless_66 : decode cX7_isNeedless 66 = .ok (.iload_n 2, 1) := by decide +kernel
theorem dX7_isNeedless_67 : decode cX7_isNeedless 67 = .ok (.iaload, 1) := by decide +kernel
theorem dX7_isNeedless_68 : decode cX7_isNeedless 68 = .ok (.if_icmp .ne 5, 3) := by decide +kernel
theorem dX7_isNeedless_71 : decode cX7_isNeedless 71 = .ok (.iconst 1, 1) := by decide +kernel
theorem dX7_isNeedless_72 : decode cX7_isNeedless 72 = .ok (.ireturn, 1) := by decide +kernel
theorem dX7_isNeedless_73 : decode cX7_isNeedless 73 = .ok (.iinc 2 1, 3) := by decide +kernel
theorem dX7_isNeedless_76 : decode cX7_isNeedless 76 = .ok (.goto (-74), 3) := by decide +kernel
theorem dX7_isNeedless_79 : decode cX7_isNeedless 79 = .ok (.iconst 0, 1) := by decide +kernel
theorem dX7_isNeedless_80 : decode cX7_isNeedless 80 = .ok (.ireturn, 1) := by decide +kernel
theorem dX7_copyFrom_0 : decode cX7_copyFrom 0 = .ok (.aload_n 1, 1) := by decide +kernel
theorem dX7_copyFrom_1 : decode cX7_copyFrom 1 = .ok (.getfield 9, 3) := by decide +kernel
theorem dX7_copyFrom_4 : decode cX7_copyFrom 4 = .ok (.iconst 0, 1) := by decide +kernel
theorem dX7_copyFrom_5 : decode cX7_copyFrom 5 = .ok (.aload_n 0, 1) := by decide +kernel
theorem dX7_copyFrom_6 : decode cX7_copyFrom 6 = .ok (.getfield 9, 3) := by decide +kernel
theorem dX7_copyFrom_9 : decode cX7_copyFrom 9 = .ok (.iconst 0, 1) := by decide +kernel
theorem dX7_copyFrom_10 : decode cX7_copyFrom 10 = .ok (.aload_n 0, 1) := by decide +kernel
theorem dX7_copyFrom_11 : decode cX7_copyFrom 11 = .ok (.getfield 9, 3) := by decide +kernel
theorem dX7_copyFrom_14 : decode cX7_copyFrom 14 = .ok (.arraylength, 1) := by decide +kernel
theorem dX7_copyFrom_15 : decode cX7_copyFrom 15 = .ok (.invokestatic 67, 3) := by decide +kernel
theorem dX7_copyFrom_18 : decode cX7_copyFrom 18 = .ok (.aload_n 1, 1) := by decide +kernel
theorem dX7_copyFrom_19 : decode cX7_copyFrom 19 = .ok (.getfield 15, 3) := by decide +kernel
theorem dX7_copyFrom_22 : decode cX7_copyFrom 22 = .ok (.iconst 0, 1) := by decide +kernel
theorem dX7_copyFrom_23 : decode cX7_copyFrom 23 = .ok (.aload_n 0, 1) := by decide +kernel
theorem dX7_copyFrom_24 : decode cX7_copyFrom 24 = .ok (.getfield 15, 3) := by decide +kernel
theorem dX7_copyFrom_27 : decode cX7_copyFrom 27 = .ok (.iconst 0, 1) := by decide +kernel
theorem dX7_copyFrom_28 : decode cX7_copyFrom 28 = .ok (.aload_n 0, 1) := by decide +kernel
theorem dX7_copyFrom_29 : decode cX7_copyFrom 29 = .ok (.getfield 15, 3) := by decide +kernel
theorem dX7_copyFrom_32 : decode cX7_copyFrom 32 = .ok (.arraylength, 1) := by decide +kernel
theorem dX7_copyFrom_33 : decode cX7_copyFrom 33 = .ok (.invokestatic 67, 3) := by decide +kernel
theorem dX7_copyFrom_36 : decode cX7_copyFrom 36 = .ok (.aload_n 1, 1) := by decide +kernel
theorem dX7_copyFrom_37 : decode cX7_copyFrom 37 = .ok (.getfield 18, 3) := by decide +kernel
theorem dX7_copyFrom_40 : decode cX7_copyFrom 40 = .ok (.iconst 0, 1) := by decide +kernel
theorem dX7_copyFrom_41 : decode cX7_copyFrom 41 = .ok (.aload_n 0, 1) := by decide +kernel
theorem dX7_copyFrom_42 : decode cX7_copyFrom 42 = .ok (.getfield 18, 3) := by decide +kernel
theorem dX7_copyFrom_45 : decode cX7_copyFrom 45 = .ok (.iconst 0, 1) := by decide +kernel
theorem dX7_copyFrom_46 : decode cX7_copyFrom 46 = .ok (.aload_n 0, 1) := by decide +kernel
theorem dX7_copyFrom_47 : decode cX7_copyFrom 47 = .ok (.getfield 18, 3) := by decide +kernel
theorem dX7_copyFrom_50 : decode cX7_copyFrom 50 = .ok (.arraylength, 1) := by decide +kernel
theorem dX7_copyFrom_51 : decode cX7_copyFrom 51 = .ok (.invokestatic 67, 3) := by decide +kernel
theorem dX7_copyFrom_54 : decode cX7_copyFrom 54 = .ok (.aload_n 0, 1) := by decide +kernel
theorem dX7_copyFrom_55 : decode cX7_copyFrom 55 = .ok (.aload_n 1, 1) := by decide +kernel
theorem dX7_copyFrom_56 : decode cX7_copyFrom 56 = .ok (.getfield 24, 3) := by decide +kernel
theorem dX7_copyFrom_59 : decode cX7_copyFrom 59 = .ok (.putfield 24, 3) := by decide +kernel
theorem dX7_copyFrom_62 : decode cX7_copyFrom 62 = .ok (.return_, 1) := by decide +kernel
theorem dX8_init_0 : decode cX8_init 0 = .ok (.aload_n 0, 1) := by decide +kernel
theorem dX8_init_1 : decode cX8_init 1 = .ok (.invokespecial 3, 3) := by decide +kernel
theorem dX8_init_4 : decode cX8_init 4 = .ok (.aload_n 0, 1) := by decide +kernel
theorem dX8_init_5 : decode cX8_init 5 = .ok (.sipush 200, 3) := by decide +kernel
theorem dX8_init_8 : decode cX8_init 8 = .ok (.newarray .int, 2) := by decide +kernel
theorem dX8_init_10 : decode cX8_init 10 = .ok (.putfield 9, 3) := by decide +kernel
theorem dX8_init_13 : decode cX8_init 13 = .ok (.aload_n 0, 1) := by decide +kernel
theorem dX8_init_14 : decode cX8_init 14 = .ok (.iconst 0, 1) := by decide +kernel
theorem dX8_init_15 : decode cX8_init 15 = .ok (.putfield 15, 3) := by decide +kernel
theorem dX8_init_18 : decode cX8_init 18 = .ok (.return_, 1) := by decide +kernel
theorem dX8_add_0 : decode cX8_add 0 = .ok (.bipush 24, 2) := by decide +kernel
theorem dX8_add_2 : decode cX8_add 2 = .ok (.istore_n 2, 1) := by decide +kernel
theorem dX8_add_3 : decode cX8_add 3 = .ok (.iload_n 2, 1) := by decide +kernel
theorem dX8_add_4 : decode cX8_add 4 = .ok (.ifCond .lt 47, 3) := by decide +kernel
theorem dX8_add_7 : decode cX8_add 7 = .ok (.aload_n 0, 1) := by decide +kernel
theorem dX8_add_8 : decode cX8_add 8 = .ok (.getfield 15, 3) := by decide +kernel
theorem dX8_add_11 : decode cX8_add 11 = .ok (.aload_n 0, 1) := by decide +kernel
theorem dX8_add_12 : decode cX8_add 12 = .ok (.getfield 9, 3) := by decide +kernel
theorem dX8_add_15 : decode cX8_add 15 = .ok (.arraylength, 1) := by decide +kernel
theorem dX8_add_16 : decode cX8_add 16 = .ok (.if_icmp .ge 35, 3) := by decide +kernel
theorem dX8_add_19 : decode cX8_add 19 = .ok (.aload_n 0, 1) := by decide +kernel
theorem dX8_add_20 : decode cX8_add 20 = .ok (.getfield 9, 3) := by decide +kernel
theorem dX8_add_23 : decode cX8_add 23 = .ok (.aload_n 0, 1) := by decide +kernel
theorem dX8_add_24 : decode cX8_add 24 = .ok (.getfield 15, 3) := by decide +kernel
theorem dX8_add_27 : decode cX8_add 27 = .ok (.iload_n 1, 1) := by decide +kernel
theorem dX8_add_28 : decode cX8_add 28 = .ok (.iload_n 2, 1) := by decide +kernel
theorem dX8_add_29 : decode cX8_add 29 = .ok (.ishr, 1) := by decide +kernel
theorem dX8_add_30 : decode cX8_add 30 = .ok (.sipush 255, 3) := by decide +kernel
theorem dX8_add_33 : decode cX8_add 33 = .ok (.iand, 1) := by decide +kernel
theorem dX8_add_34 : decode cX8_add 34 = .ok (.iastore, 1) := by decide +kernel
theorem dX8_add_35 : decode cX8_add 35 = .ok (.aload_n 0, 1) := by decide +kernel
theorem dX8_add_36 : decode cX8_add 36 = .ok (.dup, 1) := by decide +kernel
theorem dX8_add_37 : decode cX8_add 37 = .ok (.getfield 15, 3) := by decide +kernel
theorem dX8_add_40 : decode cX8_add 40 = .ok (.iconst 1, 1) := by decide +kernel
theorem dX8_add_41 : decode cX8_add 41 = .ok (.iadd, 1) := by decide +kernel
theorem dX8_add_42 : decode cX8_add 42 = .ok (.putfield 15, 3) := by decide +kernel
theorem dX8_add_45 : decode cX8_add 45 = .ok (.iinc 2 (-8), 3) := by decide +kernel
theorem dX8_add_48 : decode cX8_add 48 = .ok (.goto (-45), 3) := by decide +kernel
theorem dX8_add_51 : decode cX8_add 51 = .ok (.return_, 1) := by decide +kernel
theorem gX8_isWord_J0_length_8abf5 : GoodIn wsX8_isWord (wsV RX8 19 RJ0 yJ0_length_8abf5 wsJ0_length_8abf5) := gw_c t_w270 (gw_c t_w269 (gw_c t_w268 (gw_c t_w179 (gw_c t_w267 (gw_t)))))
theorem gX8_isWord_J0_charAt_5068e : GoodIn wsX8_isWord (wsV RX8 24 RJ0 yJ0_charAt_5068e wsJ0_charAt_5068e) := gw_c t_w274 (gw_c t_w273 (gw_c t_w272 (gw_c t_w179 (gw_c t_w271 (gw_t)))))
theorem dX8_isWord_0 : decode cX8_isWord 0 = .ok (.aload_n 1, 1) := by decide +kernel
theorem dX8_isWord_1 : decode cX8_isWord 1 = .ok (.invokevirtual 19, 3) := by decide +kernel
theorem dX8_isWord_4 : decode cX8_isWord 4 = .ok (.iload_n 2, 1) := by decide +kernel
theorem dX8_isWord_5 : decode cX8_isWord 5 = .ok (.if_icmp .ne 11, 3) := by decide +kernel
theorem dX8_isWord_8 : decode cX8_isWord 8 = .ok (.iload_n 2, 1) := by decide +kernel
theorem dX8_isWord_9 : decode cX8_isWord 9 = .ok (.aload_n 0, 1) := by decide +kernel
theorem dX8_isWord_10 : decode cX8_isWord 10 = .ok (.getfield 15, 3) := by decide +kernel
theorem dX8_isWord_13 : decode cX8_isWord 13 = .ok (.if_icmp .le 5, 3) := by decide +kernel
theorem dX8_isWord_16 : decode cX8_isWord 16 = .ok (.iconst 0, 1) := by decide +kernel
theorem dX8_isWord_17 : decode cX8_isWord 17 = .ok (.ireturn, 1) := by decide +kernel
theorem dX8_isWord_18 : decode cX8_isWord 18 = .ok (.iconst 0, 1) := by decide +kernel
theorem dX8_isWord_19 : decode cX8_isWord 19 = .ok (.istore_n 3, 1) := by decide +kernel
theorem dX8_isWord_20 : decode cX8_isWord 20 = .ok (.iload_n 3, 1) := by decide +kernel
theorem dX8_isWord_21 : decode cX8_isWord 21 = .ok (.iload_n 2, 1) := by decide +kernel
theorem dX8_isWord_22 : decode cX8_isWord 22 = .ok (.if_icmp .ge 25, 3) := by decide +kernel
theorem dX8_isWord_25 : decode cX8_isWord 25 = .ok (.aload_n 0, 1) := by decide +kernel
theorem dX8_isWord_26 : decode cX8_isWord 26 = .ok (.getfield 9, 3) := by decide +kernel
theorem dX8_isWord_29 : decode cX8_isWord 29 = .ok (.iload_n 3, 1) := by decide +kernel
theorem dX8_isWord_30 : decode cX8_isWord 30 = .ok (.iaload, 1) := by decide +kernel
theorem dX8_isWord_31 : decode cX8_isWord 31 = .ok (.aload_n 1, 1) := by decide +kernel
theorem dX8_isWord_32 : decode cX8_isWord 32 = .ok (.iload_n 3, 1) := by decide +kernel
theorem dX8_isWord_33 : decode cX8_isWord 33 = .ok (.invokevirtual 24, 3) := by decide +kernel
theorem dX8_isWord_36 : decode cX8_isWord 36 = .ok (.if_icmp .eq 5, 3) := by decide +kernel
theorem dX8_isWord_39 : decode cX8_isWord 39 = .ok (.iconst 0, 1) := by decide +kernel
theorem dX8_isWord_40 : decode cX8_isWord 40 = .ok (.ireturn, 1) := by decide +kernel
theorem dX8_isWord_41 : decode cX8_isWord 41 = .ok (.iinc 3 1, 3) := by decide +kernel
theorem dX8_isWord_44 : decode cX8_isWord 44 = .ok (.goto (-24), 3) := by decide +kernel
theorem dX8_isWord_47 : decode cX8_isWord 47 = .ok (.iconst 1, 1) := by decide +kernel
theorem dX8_isWord_48 : decode cX8_isWord 48 = .ok (.ireturn, 1) := by decide +kernel
theorem dX8_blankFrom_0 : decode cX8_blankFrom 0 = .ok (.iload_n 1, 1) := by decide +kernel
theorem dX8_blankFrom_1 : decode cX8_blankFrom 1 = .ok (.istore_n 3, 1) := by decide +kernel
theorem dX8_blankFrom_2 : decode cX8_blankFrom 2 = .ok (.iload_n 3, 1) := by decide +kernel
theorem dX8_blankFrom_3 : decode cX8_blankFrom 3 = .ok (.iload_n 2, 1) := by decide +kernel
theorem dX8_blankFrom_4 : decode cX8_blankFrom 4 = .ok (.if_icmp .ge 30, 3) := by decide +kernel
theorem dX8_blankFrom_7 : decode cX8_blankFrom 7 = .ok (.iload_n 3, 1) := by decide +kernel
theorem dX8_blankFrom_8 : decode cX8_blankFrom 8 = .ok (.aload_n 0, 1) := by decide +kernel
theorem dX8_blankFrom_9 : decode cX8_blankFrom 9 = .ok (.getfield 15, 3) := by decide +kernel
theorem dX8_blankFrom_12 : decode cX8_blankFrom 12 = .ok (.if_icmp .ge 22, 3) := by decide +kernel
theorem dX8_blankFrom_15 : decode cX8_blankFrom 15 = .ok (.aload_n 0, 1) := by decide +kernel
theorem dX8_blankFrom_16 : decode cX8_blankFrom 16 = .ok (.getfield 9, 3) := by decide +kernel
theorem dX8_blankFrom_19 : decode cX8_blankFrom 19 = .ok (.iload_n 3, 1) := by decide +kernel
theorem dX8_blankFrom_20 : decode cX8_blankFrom 20 = .ok (.iaload, 1) := by decide +kernel
theorem dX8_blankFrom_21 : decode cX8_blankFrom 21 = .ok (.bipush 32, 2) := by decide +kernel
theorem dX8_blankFrom_23 : decode cX8_blankFrom 23 = .ok (.if_icmp .ne 5, 3) := by decide +kernel
theorem dX8_blankFrom_26 : decode cX8_blankFrom 26 = .ok (.iload_n 3, 1) := by decide +kernel
theorem dX8_blankFrom_27 : decode cX8_blankFrom 27 = .ok (.ireturn, 1) := by decide +kernel
theorem dX8_blankFrom_28 : decode cX8_blankFrom 28 = .ok (.iinc 3 1, 3) := by decide +kernel
theorem dX8_blankFrom_31 : decode cX8_blankFrom 31 = .ok (.goto (-29), 3) := by decide +kernel
theorem dX8_blankFrom_34 : decode cX8_blankFrom 34 = .ok (.iload_n 2, 1) := by decide +kernel
theorem dX8_blankFrom_35 : decode cX8_blankFrom 35 = .ok (.ireturn, 1) := by decide +kernel
theorem gX9_init_X6_init : GoodIn wsX9_init (wsX6_init) := gw_c t_w275 (gw_t)
theorem dX9_init_0 : decode cX9_init 0 = .ok (.aload_n 0, 1) := by decide +kernel
theorem dX9_init_1 : decode cX9_init 1 = .ok (.invokespecial 3, 3) := by decide +kernel
theorem dX9_init_4 : decode cX9_init 4 = .ok (.aload_n 0, 1) := by decide +kernel
theorem dX9_init_5 : decode cX9_init 5 = .ok (.iconst 0, 1) := by decide +kernel
theorem dX9_init_6 : decode cX9_init 6 = .ok (.newarray .int, 2) := by decide +kernel
theorem dX9_init_8 : decode cX9_init 8 = .ok (.putfield 9, 3) := by decide +kernel
theorem dX9_init_11 : decode cX9_init 11 = .ok (.aload_n 0, 1) := by decide +kernel
theorem dX9_init_12 : decode cX9_init 12 = .ok (.iconst 0, 1) := by decide +kernel
theorem dX9_init_13 : decode cX9_init 13 = .ok (.newarray .int, 2) := by decide +kernel
theorem dX9_init_15 : decode cX9_init 15 = .ok (.putfield 15, 3) := by decide +kernel
theorem dX9_init_18 : decode cX9_init 18 = .ok (.aload_n 0, 1) := by decide +kernel
theorem dX9_init_19 : decode cX9_init 19 = .ok (.iconst 0, 1) := by decide +kernel
theorem dX9_init_20 : decode cX9_init 20 = .ok (.putfield 18, 3) := by decide +kernel
theorem dX9_init_23 : decode cX9_init 23 = .ok (.aload_n 0, 1) := by decide +kernel
theorem dX9_init_24 : decode cX9_init 24 = .ok (.new 22, 3) := by decide +kernel
theorem dX9_init_27 : decode cX9_init 27 = .ok (.dup, 1) := by decide +kernel
theorem dX9_init_28 : decode cX9_init 28 = .ok (.aload_n 1, 1) := by decide +kernel
theorem dX9_init_29 : decode cX9_init 29 = .ok (.invokespecial 24, 3) := by decide +kernel
theorem dX9_init_32 : decode cX9_init 32 = .ok (.putfield 27, 3) := by decide +kernel
theorem dX9_init_35 : decode cX9_init 35 = .ok (.return_, 1) := by decide +kernel
theorem gX9_spread_X9_makeRoom : GoodIn wsX9_spread (wsV RX9 40 RX9 yX9_makeRoom wsX9_makeRoom) := gw_c t_w280 (gw_c t_w279 (gw_c t_w278 (gw_c t_w277 (gw_c t_w276 (gw_t)))))
theorem gX9_spread_X6_put : GoodIn wsX9_spread (wsV RX9 44 RX6 yX6_put wsX6_put) := gw_c t_w284 (gw_c t_w283 (gw_c t_w282 (gw_c t_w135 (gw_c t_w281 (gw_t)))))
theorem gX9_spread_X6_lookAround : GoodIn wsX9_spread (wsV RX9 48 RX6 yX6_lookAround wsX6_lookAround) := gw_c t_w288 (gw_c t_w287 (gw_c t_w286 (gw_c t_w135 (gw_c t_w285 (gw_t)))))
theorem gX9_spread_X9_spreadOn : GoodIn wsX9_spread (wsV RX9 51 RX9 yX9_spreadOn wsX9_spreadOn) := gw_c t_w292 (gw_c t_w291 (gw_c t_w290 (gw_c t_w277 (gw_c t_w289 (gw_t)))))
theorem dX9_spread_0 : decode cX9_spread 0 = .ok (.aload_n 0, 1) := by decide +kernel
theorem dX9_spread_1 : decode cX9_spread 1 = .ok (.aload_n 0, 1) := by decide +kernel
theorem dX9_spread_2 : decode cX9_spread 2 = .ok (.getfield 27, 3) := by decide +kernel
theorem dX9_spread_5 : decode cX9_spread 5 = .ok (.getfield 31, 3) := by decide +kernel
theorem dX9_spread_8 : decode cX9_spread 8 = .ok (.getfield 35, 3) := by decide +kernel
theorem dX9_spread_11 : decode cX9_spread 11 = .ok (.iload_n 1, 1) := by decide +kernel
theorem dX9_spread_12 : decode cX9_spread 12 = .ok (.iaload, 1) := by decide +kernel
theorem dX9_spread_13 : decode cX9_spread 13 = .ok (.invokevirtual 40, 3) := by decide +kernel
theorem dX9_spread_16 : decode cX9_spread 16 = .ok (.aload_n 0, 1) := by decide +kernel
theorem dX9_spread_17 : decode cX9_spread 17 = .ok (.getfield 15, 3) := by decide +kernel
theorem dX9_spread_20 : decode cX9_spread 20 = .ok (.iconst 0, 1) := by decide +kernel
theorem dX9_spread_21 : decode cX9_spread 21 = .ok (.iload_n 2, 1) := by decide +kernel
theorem dX9_spread_22 : decode cX9_spread 22 = .ok (.iastore, 1) := by decide +kernel
theorem dX9_spread_23 : decode cX9_spread 23 = .ok (.aload_n 0, 1) := by decide +kernel
theorem dX9_spread_24 : decode cX9_spread 24 = .ok (.getfield 9, 3) := by decide +kernel
theorem dX9_spread_27 : decode cX9_spread 27 = .ok (.iload_n 2, 1) := by decide +kernel
theorem dX9_spread_28 : decode cX9_spread 28 = .ok (.iconst 0, 1) := by decide +kernel
theorem dX9_spread_29 : decode cX9_spread 29 = .ok (.iastore, 1) := by decide +kernel
theorem dX9_spread_30 : decode cX9_spread 30 = .ok (.iconst 1, 1) := by decide +kernel
theorem dX9_spread_31 : decode cX9_spread 31 = .ok (.istore_n 3, 1) := by decide +kernel
theorem dX9_spread_32 : decode cX9_spread 32 = .ok (.iconst 0, 1) := by decide +kernel
theorem dX9_spread_33 : decode cX9_spread 33 = .ok (.istore 4, 2) := by decide +kernel
theorem dX9_spread_35 : decode cX9_spread 35 = .ok (.iload 4, 2) := by decide +kernel
theorem dX9_spread_37 : decode cX9_spread 37 = .ok (.iload_n 3, 1) := by decide +kernel
theorem dX9_spread_38 : decode cX9_spread 38 = .ok (.if_icmp .ge 60, 3) := by decide +kernel
theorem dX9_spread_41 : decode cX9_spread 41 = .ok (.iload 4, 2) := by decide +kernel
theorem dX9_spread_43 : decode cX9_spread 43 = .ok (.aload_n 0, 1) := by decide +kernel
theorem dX9_spread_44 : decode cX9_spread 44 = .ok (.getfield 18, 3) := by decide +kernel
theorem dX9_spread_47 : decode cX9_spread 47 = .ok (.if_icmp .ge 51, 3) := by decide +kernel
theorem dX9_spread_50 : decode cX9_spread 50 = .ok (.aload_n 0, 1) := by decide +kernel
theorem dX9_spread_51 : decode cX9_spread 51 = .ok (.getfield 27, 3) := by decide +kernel
theorem dX9_spread_54 : decode cX9_spread 54 = .ok (.iload_n 1, 1) := by decide +kernel
theorem dX9_spread_55 : decode cX9_spread 55 = .ok (.aload_n 0, 1) := by decide +kernel
theorem dX9_spread_56 : decode cX9_spread 56 = .ok (.getfield 15, 3) := by decide +kernel
theorem dX9_spread_59 : decode cX9_spread 59 = .ok (.iload 4, 2) := by decide +kernel
theorem dX9_spread_61 : decode cX9_spread 61 = .ok (.iaload, 1) := by decide +kernel
theorem dX9_spread_62 : decode cX9_spread 62 = .ok (.invokevirtual 44, 3) := by decide +kernel
theorem dX9_spread_65 : decode cX9_spread 65 = .ok (.aload_n 0, 1) := by decide +kernel
theorem dX9_spread_66 : decode cX9_spread 66 = .ok (.getfield 27, 3) := by decide +kernel
theorem dX9_spread_69 : decode cX9_spread 69 = .ok (.invokevirtual 48, 3) := by decide +kernel
theorem dX9_spread_72 : decode cX9_spread 72 = .ok (.aload_n 0, 1) := by decide +kernel
theorem dX9_spread_73 : decode cX9_spread 73 = .ok (.aload_n 0, 1) := by decide +kernel
theorem dX9_spread_74 : decode cX9_spread 74 = .ok (.getfield 9, 3) := by decide +kernel
theorem dX9_spread_77 : decode cX9_spread 77 = .ok (.aload_n 0, 1) := by decide +kernel
theorem dX9_spread_78 : decode cX9_spread 78 = .ok (.getfield 15, 3) := by decide +kernel
theorem dX9_spread_81 : decode cX9_spread 81 = .ok (.iload 4, 2) := by decide +kernel
theorem dX9_spread_83 : decode cX9_spread 83 = .ok (.iaload, 1) := by decide +kernel
theorem dX9_spread_84 : decode cX9_spread 84 = .ok (.iaload, 1) := by decide +kernel
theorem dX9_spread_85 : decode cX9_spread 85 = .ok (.iconst 1, 1) := by decide +kernel
theorem dX9_spread_86 : decode cX9_spread 86 = .ok (.iadd, 1) := by decide +kernel
theorem dX9_spread_87 : decode cX9_spread 87 = .ok (.iload_n 3, 1) := by decide +kernel
theorem dX9_spread_88 : decode cX9_spread 88 = .ok (.invokevirtual 51, 3) := by decide +kernel
theorem dX9_spread_91 : decode cX9_spread 91 = .ok (.istore_n 3, 1) := by decide +kernel
theorem dX9_spread_92 : decode cX9_spread 92 = .ok (.iinc 4 1, 3) := by decide +kernel
theorem dX9_spread_95 : decode cX9_spread 95 = .ok (.goto (-60), 3) := by decide +kernel
theorem dX9_spread_98 : decode cX9_spread 98 = .ok (.return_, 1) := by decide +kernel
theorem dX9_makeRoom_0 : decode cX9_makeRoom 0 = .ok (.aload_n 0, 1) := by decide +kernel
theorem dX9_makeRoom_1 : decode cX9_makeRoom 1 = .ok (.iload_n 1, 1) := by decide +kernel
theorem dX9_makeRoom_2 : decode cX9_makeRoom 2 = .ok (.putfield 18, 3) := by decide +kernel
theorem dX9_makeRoom_5 : decode cX9_makeRoom 5 = .ok (.aload_n 0, 1) := by decide +kernel
theorem dX9_makeRoom_6 : decode cX9_makeRoom 6 = .ok (.getfield 9, 3) := by decide +kernel
theorem dX9_makeRoom_9 : decode cX9_makeRoom 9 = .ok (.arraylength, 1) := by decide +kernel
theorem dX9_makeRoom_10 : decode cX9_makeRoom 10 = .ok (.iload_n 1, 1) := by decide +kernel
theorem dX9_makeRoom_11 : decode cX9_makeRoom 11 = .ok (.if_icmp .ge 17, 3) := by decide +kernel
theorem dX9_makeRoom_14 : decode cX9_makeRoom 14 = .ok (.aload_n 0, 1) := by decide +kernel
theorem dX9_makeRoom_15 : decode cX9_makeRoom 15 = .ok (.iload_n 1, 1) := by decide +kernel
theorem dX9_makeRoom_16 : decode cX9_makeRoom 16 = .ok (.newarray .int, 2) := by decide +kernel
theorem dX9_makeRoom_18 : decode cX9_makeRoom 18 = .ok (.putfield 9, 3) := by decide +kernel
theorem dX9_makeRoom_21 : decode cX9_makeRoom 21 = .ok (.aload_n 0, 1) := by decide +kernel
theorem dX9_makeRoom_22 : decode cX9_makeRoom 22 = .ok (.iload_n 1, 1) := by decide +kernel
theorem dX9_makeRoom_23 : decode cX9_makeRoom 23 = .ok (.newarray .int, 2) := by decide +kernel
theorem dX9_makeRoom_25 : decode cX9_makeRoom 25 = .ok (.putfield 15, 3) := by decide +kernel
theorem dX9_makeRoom_28 : decode cX9_makeRoom 28 = .ok (.iconst 0, 1) := by decide +kernel
theorem dX9_makeRoom_29 : decode cX9_makeRoom 29 = .ok (.istore_n 2, 1) := by decide +kernel
theorem dX9_makeRoom_30 : decode cX9_makeRoom 30 = .ok (.iload_n 2, 1) := by decide +kernel
theorem dX9_makeRoom_31 : decode cX9_makeRoom 31 = .ok (.iload_n 1, 1) := by decide +kernel
theorem dX9_makeRoom_32 : decode cX9_makeRoom 32 = .ok (.if_icmp .ge 16, 3) := by decide +kernel
theorem dX9_makeRoom_35 : decode cX9_makeRoom 35 = .ok (.aload_n 0, 1) := by decide +kernel
theorem dX9_makeRoom_36 : decode cX9_makeRoom 36 = .ok (.getfield 9, 3) := by decide +kernel
theorem dX9_makeRoom_39 : decode cX9_makeRoom 39 = .ok (.iload_n 2, 1) := by decide +kernel
theorem dX9_makeRoom_40 : decode cX9_makeRoom 40 = .ok (.iconst (-1), 1) := by decide +kernel
theorem dX9_makeRoom_41 : decode cX9_makeRoom 41 = .ok (.iastore, 1) := by decide +kernel
theorem dX9_makeRoom_42 : decode cX9_makeRoom 42 = .ok (.iinc 2 1, 3) := by decide +kernel
theorem dX9_makeRoom_45 : decode cX9_makeRoom 45 = .ok (.goto (-15), 3) := by decide +kernel
theorem dX9_makeRoom_48 : decode cX9_makeRoom 48 = .ok (.return_, 1) := by decide +kernel
theorem gX9_spreadOn_X6_allBeside : GoodIn wsX9_spreadOn (wsV RX9 55 RX6 yX6_allBeside wsX6_allBeside) := gw_c t_w296 (gw_c t_w295 (gw_c t_w294 (gw_c t_w135 (gw_c t_w293 (gw_t)))))
theorem gX9_spreadOn_X6_besideKey : GoodIn wsX9_spreadOn (wsV RX9 59 RX6 yX6_besideKey wsX6_besideKey) := gw_c t_w300 (gw_c t_w299 (gw_c t_w298 (gw_c t_w135 (gw_c t_w297 (gw_t)))))
theorem dX9_spreadOn_0 : decode cX9_spreadOn 0 = .ok (.iload_n 2, 1) := by decide +kernel
theorem dX9_spreadOn_1 : decode cX9_spreadOn 1 = .ok (.istore_n 3, 1) := by decide +kernel
theorem dX9_spreadOn_2 : decode cX9_spreadOn 2 = .ok (.aload_n 0, 1) := by decide +kernel
theorem dX9_spreadOn_3 : decode cX9_spreadOn 3 = .ok (.getfield 27, 3) := by decide +kernel
theorem dX9_spreadOn_6 : decode cX9_spreadOn 6 = .ok (.invokevirtual 55, 3) := by decide +kernel
theorem dX9_spreadOn_9 : decode cX9_spreadOn 9 = .ok (.istore 4, 2) := by decide +kernel
theorem dX9_spreadOn_11 : decode cX9_spreadOn 11 = .ok (.iconst 0, 1) := by decide +kernel
theorem dX9_spreadOn_12 : decode cX9_spreadOn 12 = .ok (.istore 5, 2) := by decide +kernel
theorem dX9_spreadOn_14 : decode cX9_spreadOn 14 = .ok (.iload 5, 2) := by decide +kernel
theorem dX9_spreadOn_16 : decode cX9_spreadOn 16 = .ok (.iload 4, 2) := by decide +kernel
theorem dX9_spreadOn_18 : decode cX9_spreadOn 18 = .ok (.if_icmp .ge 58, 3) := by decide +kernel
theorem dX9_spreadOn_21 : decode cX9_spreadOn 21 = .ok (.aload_n 0, 1) := by decide +kernel
theorem dX9_spreadOn_22 : decode cX9_spreadOn 22 = .ok (.getfield 27, 3) := by decide +kernel
theorem dX9_spreadOn_25 : decode cX9_spreadOn 25 = .ok (.iload 5, 2) := by decide +kernel
theorem dX9_spreadOn_27 : decode cX9_spreadOn 27 = .ok (.invokevirtual 59, 3) := by decide +kernel
theorem dX9_spreadOn_30 : decode cX9_spreadOn 30 = .ok (.istore 6, 2) := by decide +kernel
theorem dX9_spreadOn_32 : decode cX9_spreadOn 32 = .ok (.aload_n 0, 1) := by decide +kernel
theorem dX9_spreadOn_33 : decode cX9_spreadOn 33 = .ok (.getfield 9, 3) := by decide +kernel
theorem dX9_spreadOn_36 : decode cX9_spreadOn 36 = .ok (.iload 6, 2) := by decide +kernel
theorem dX9_spreadOn_38 : decode cX9_spreadOn 38 = .ok (.iaload, 1) := by decide +kernel
theorem dX9_spreadOn_39 : decode cX9_spreadOn 39 = .ok (.iconst (-1), 1) := by decide +kernel
theorem dX9_spreadOn_40 : decode cX9_spreadOn 40 = .ok (.if_icmp .ne 30, 3) := by decide +kernel
theorem dX9_spreadOn_43 : decode cX9_spreadOn 43 = .ok (.iload_n 3, 1) := by decide +kernel
theorem dX9_spreadOn_44 : decode cX9_spreadOn 44 = .ok (.aload_n 0, 1) := by decide +kernel
theorem dX9_spreadOn_45 : decode cX9_spreadOn 45 = .ok (.getfield 18, 3) := by decide +kernel
theorem dX9_spreadOn_48 : decode cX9_spreadOn 48 = .ok (.if_icmp .ge 22, 3) := by decide +kernel
theorem dX9_spreadOn_51 : decode cX9_spreadOn 51 = .ok (.aload_n 0, 1) := by decide +kernel
theorem dX9_spreadOn_52 : decode cX9_spreadOn 52 = .ok (.getfield 9, 3) := by decide +kernel
theorem dX9_spreadOn_55 : decode cX9_spreadOn 55 = .ok (.iload 6, 2) := by decide +kernel
theorem dX9_spreadOn_57 : decode cX9_spreadOn 57 = .ok (.iload_n 1, 1) := by decide +kernel
theorem dX9_spreadOn_58 : decode cX9_spreadOn 58 = .ok (.iastore, 1) := by decide +kernel
theorem dX9_spreadOn_59 : decode cX9_spreadOn 59 = .ok (.aload_n 0, 1) := by decide +kernel
theorem dX9_spreadOn_60 : decode cX9_spreadOn 60 = .ok (.getfield 15, 3) := by decide +kernel
theorem dX9_spreadOn_63 : decode cX9_spreadOn 63 = .ok (.iload_n 3, 1) := by decide +kernel
theorem dX9_spreadOn_64 : decode cX9_spreadOn 64 = .ok (.iload 6, 2) := by decide +kernel
theorem dX9_spreadOn_66 : decode cX9_spreadOn 66 = .ok (.iastore, 1) := by decide +kernel
theorem dX9_spreadOn_67 : decode cX9_spreadOn 67 = .ok (.iinc 3 1, 3) := by decide +kernel
theorem dX9_spreadOn_70 : decode cX9_spreadOn 70 = .ok (.iinc 5 1, 3) := by decide +kernel
theorem dX9_spreadOn_73 : decode cX9_spreadOn 73 = .ok (.goto (-59), 3) := by decide +kernel
theorem dX9_spreadOn_76 : decode cX9_spreadOn 76 = .ok (.iload_n 3, 1) := by decide +kernel
theorem dX9_spreadOn_77 : decode cX9_spreadOn 77 = .ok (.ireturn, 1) := by decide +kernel
theorem dX9_stepsTo_0 : decode cX9_stepsTo 0 = .ok (.aload_n 0, 1) := by decide +kernel
theorem dX9_stepsTo_1 : decode cX9_stepsTo 1 = .ok (.getfield 9, 3) := by decide +kernel
theorem dX9_stepsTo_4 : decode cX9_stepsTo 4 = .ok (.iload_n 1, 1) := by decide +kernel
theorem dX9_stepsTo_5 : decode cX9_stepsTo 5 = .ok (.iaload, 1) := by decide +kernel
theorem dX9_stepsTo_6 : decode cX9_stepsTo 6 = .ok (.ireturn, 1) := by decide +kernel
theorem dX9_within_0 : decode cX9_within 0 = .ok (.iconst 0, 1) := by decide +kernel
theorem dX9_within_1 : decode cX9_within 1 = .ok (.istore_n 2, 1) := by decide +kernel
theorem dX9_within_2 : decode cX9_within 2 = .ok (.iconst 0, 1) := by decide +kernel
theorem dX9_within_3 : decode cX9_within 3 = .ok (.istore_n 3, 1) := by decide +kernel
theorem dX9_within_4 : decode cX9_within 4 = .ok (.iload_n 3, 1) := by decide +kernel
theorem dX9_within_5 : decode cX9_within 5 = .ok (.aload_n 0, 1) := by decide +kernel
theorem dX9_within_6 : decode cX9_within 6 = .ok (.getfield 18, 3) := by decide +kernel
theorem dX9_within_9 : decode cX9_within 9 = .ok (.if_icmp .ge 22, 3) := by decide +kernel
theorem dX9_within_12 : decode cX9_within 12 = .ok (.aload_n 0, 1) := by decide +kernel
theorem dX9_within_13 : decode cX9_within 13 = .ok (.getfield 9, 3) := by decide +kernel
theorem dX9_within_16 : decode cX9_within 16 = .ok (.iload_n 3, 1) := by decide +kernel
theorem dX9_within_17 : decode cX9_within 17 = .ok (.iaload, 1) := by decide +kernel
theorem dX9_within_18 : decode cX9_within 18 = .ok (.iload_n 1, 1) := by decide +kernel
theorem dX9_within_19 : decode cX9_within 19 = .ok (.if_icmp .gt 6, 3) := by decide +kernel
theorem dX9_within_22 : decode cX9_within 22 = .ok (.iinc 2 1, 3) := by decide +kernel
theorem dX9_within_25 : decode cX9_within 25 = .ok (.iinc 3 1, 3) := by decide +kernel
theorem dX9_within_28 : decode cX9_within 28 = .ok (.goto (-24), 3) := by decide +kernel
theorem dX9_within_31 : decode cX9_within 31 = .ok (.iload_n 2, 1) := by decide +kernel
theorem dX9_within_32 : decode cX9_within 32 = .ok (.ireturn, 1) := by decide +kernel
theorem dX9_farthestKey_0 : decode cX9_farthestKey 0 = .ok (.iconst 0, 1) := by decide +kernel
theorem dX9_farthestKey_1 : decode cX9_farthestKey 1 = .ok (.istore_n 1, 1) := by decide +kernel
theorem dX9_farthestKey_2 : decode cX9_farthestKey 2 = .ok (.iconst 1, 1) := by decide +kernel
theorem dX9_farthestKey_3 : decode cX9_farthestKey 3 = .ok (.istore_n 2, 1) := by decide +kernel
theorem dX9_farthestKey_4 : decode cX9_farthestKey 4 = .ok (.iload_n 2, 1) := by decide +kernel
theorem dX9_farthestKey_5 : decode cX9_farthestKey 5 = .ok (.aload_n 0, 1) := by decide +kernel
theorem dX9_farthestKey_6 : decode cX9_farthestKey 6 = .ok (.getfield 18, 3) := by decide +kernel
theorem dX9_farthestKey_9 : decode cX9_farthestKey 9 = .ok (.if_icmp .ge 26, 3) := by decide +kernel
theorem dX9_farthestKey_12 : decode cX9_farthestKey 12 = .ok (.aload_n 0, 1) := by decide +kernel
theorem dX9_farthestKey_13 : decode cX9_farthestKey 13 = .ok (.getfield 9, 3) := by decide +kernel
theorem dX9_farthestKey_16 : decode cX9_farthestKey 16 = .ok (.iload_n 2, 1) := by decide +kernel
theorem dX9_farthestKey_17 : decode cX9_farthestKey 17 = .ok (.iaload, 1) := by decide +kernel
theorem dX9_farthestKey_18 : decode cX9_farthestKey 18 = .ok (.aload_n 0, 1) := by decide +kernel
theorem dX9_farthestKey_19 : decode cX9_farthestKey 19 = .ok (.getfield 9, 3) := by decide +kernel
theorem dX9_farthestKey_22 : decode cX9_farthestKey 22 = .ok (.iload_n 1, 1) := by decide +kernel
theorem dX9_farthestKey_23 : decode cX9_farthestKey 23 = .ok (.iaload, 1) := by decide +kernel
theorem dX9_farthestKey_24 : decode cX9_farthestKey 24 = .ok (.if_icmp .le 5, 3) := by decide +kernel
theorem dX9_farthestKey_27 : decode cX9_farthestKey 27 = .ok (.iload_n 2, 1) := by decide +kernel
theorem dX9_farthestKey_28 : decode cX9_farthestKey 28 = .ok (.istore_n 1, 1) := by decide +kernel
theorem dX9_farthestKey_29 : decode cX9_farthestKey 29 = .ok (.iinc 2 1, 3) := by decide +kernel
theorem dX9_farthestKey_32 : decode cX9_farthestKey 32 = .ok (.goto (-28), 3) := by decide +kernel
theorem dX9_farthestKey_35 : decode cX9_farthestKey 35 = .ok (.iload_n 1, 1) := by decide +kernel
theorem dX9_farthestKey_36 : decode cX9_farthestKey 36 = .ok (.ireturn, 1) := by decide +kernel
theorem gX9_onTheWay_X6_put : GoodIn wsX9_onTheWay (wsV RX9 44 RX6 yX6_put wsX6_put) := gw_c t_w284 (gw_c t_w283 (gw_c t_w282 (gw_c t_w135 (gw_c t_w281 (gw_t)))))
theorem gX9_onTheWay_X6_lookAround : GoodIn wsX9_onTheWay (wsV RX9 48 RX6 yX6_lookAround wsX6_lookAround) := gw_c t_w288 (gw_c t_w287 (gw_c t_w286 (gw_c t_w135 (gw_c t_w285 (gw_t)))))
theorem gX9_onTheWay_X9_nearer : GoodIn wsX9_onTheWay (wsV RX9 63 RX9 yX9_nearer wsX9_nearer) := gw_c t_w304 (gw_c t_w303 (gw_c t_w302 (gw_c t_w277 (gw_c t_w301 (gw_t)))))
theorem dX9_onTheWay_0 : decode cX9_onTheWay 0 = .ok (.iload_n 2, 1) := by decide +kernel
theorem dX9_onTheWay_1 : decode cX9_onTheWay 1 = .ok (.istore 4, 2) := by decide +kernel
theorem dX9_onTheWay_3 : decode cX9_onTheWay 3 = .ok (.iconst 0, 1) := by decide +kernel
theorem dX9_onTheWay_4 : decode cX9_onTheWay 4 = .ok (.istore 5, 2) := by decide +kernel
theorem dX9_onTheWay_6 : decode cX9_onTheWay 6 = .ok (.iload 5, 2) := by decide +kernel
theorem dX9_onTheWay_8 : decode cX9_onTheWay 8 = .ok (.iload_n 3, 1) := by decide +kernel
theorem dX9_onTheWay_9 : decode cX9_onTheWay 9 = .ok (.if_icmp .ge 43, 3) := by decide +kernel
theorem dX9_onTheWay_12 : decode cX9_onTheWay 12 = .ok (.iload 5, 2) := by decide +kernel
theorem dX9_onTheWay_14 : decode cX9_onTheWay 14 = .ok (.aload_n 0, 1) := by decide +kernel
theorem dX9_onTheWay_15 : decode cX9_onTheWay 15 = .ok (.getfield 18, 3) := by decide +kernel
theorem dX9_onTheWay_18 : decode cX9_onTheWay 18 = .ok (.if_icmp .ge 34, 3) := by decide +kernel
theorem dX9_onTheWay_21 : decode cX9_onTheWay 21 = .ok (.aload_n 0, 1) := by decide +kernel
theorem dX9_onTheWay_22 : decode cX9_onTheWay 22 = .ok (.getfield 27, 3) := by decide +kernel
theorem dX9_onTheWay_25 : decode cX9_onTheWay 25 = .ok (.iload_n 1, 1) := by decide +kernel
theorem dX9_onTheWay_26 : decode cX9_onTheWay 26 = .ok (.iload 4, 2) := by decide +kernel
theorem dX9_onTheWay_28 : decode cX9_onTheWay 28 = .ok (.invokevirtual 44, 3) := by decide +kernel
theorem dX9_onTheWay_31 : decode cX9_onTheWay 31 = .ok (.aload_n 0, 1) := by decide +kernel
theorem dX9_onTheWay_32 : decode cX9_onTheWay 32 = .ok (.getfield 27, 3) := by decide +kernel
theorem dX9_onTheWay_35 : decode cX9_onTheWay 35 = .ok (.invokevirtual 48, 3) := by decide +kernel
theorem dX9_onTheWay_38 : decode cX9_onTheWay 38 = .ok (.aload_n 0, 1) := by decide +kernel
theorem dX9_onTheWay_39 : decode cX9_onTheWay 39 = .ok (.iload 4, 2) := by decide +kernel
theorem dX9_onTheWay_41 : decode cX9_onTheWay 41 = .ok (.invokevirtual 63, 3) := by decide +kernel
theorem dX9_onTheWay_44 : decode cX9_onTheWay 44 = .ok (.istore 4, 2) := by decide +kernel
theorem dX9_onTheWay_46 : decode cX9_onTheWay 46 = .ok (.iinc 5 1, 3) := by decide +kernel
theorem dX9_onTheWay_49 : decode cX9_onTheWay 49 = .ok (.goto (-43), 3) := by decide +kernel
theorem dX9_onTheWay_52 : decode cX9_onTheWay 52 = .ok (.iload 4, 2) := by decide +kernel
theorem dX9_onTheWay_54 : decode cX9_onTheWay 54 = .ok (.ireturn, 1) := by decide +kernel
theorem gX9_nearer_X6_allBeside : GoodIn wsX9_nearer (wsV RX9 55 RX6 yX6_allBeside wsX6_allBeside) := gw_c t_w296 (gw_c t_w295 (gw_c t_w294 (gw_c t_w135 (gw_c t_w293 (gw_t)))))
theorem gX9_nearer_X6_besideKey : GoodIn wsX9_nearer (wsV RX9 59 RX6 yX6_besideKey wsX6_besideKey) := gw_c t_w300 (gw_c t_w299 (gw_c t_w298 (gw_c t_w135 (gw_c t_w297 (gw_t)))))
theorem dX9_nearer_0 : decode cX9_nearer 0 = .ok (.aload_n 0, 1) := by decide +kernel
theorem dX9_nearer_1 : decode cX9_nearer 1 = .ok (.getfield 27, 3) := by decide +kernel
theorem dX9_nearer_4 : decode cX9_nearer 4 = .ok (.invokevirtual 55, 3) := by decide +kernel
theorem dX9_nearer_7 : decode cX9_nearer 7 = .ok (.istore_n 2, 1) := by decide +kernel
theorem dX9_nearer_8 : decode cX9_nearer 8 = .ok (.iconst 0, 1) := by decide +kernel
theorem dX9_nearer_9 : decode cX9_nearer 9 = .ok (.istore_n 3, 1) := by decide +kernel
theorem dX9_nearer_10 : decode cX9_nearer 10 = .ok (.iload_n 3, 1) := by decide +kernel
theorem dX9_nearer_11 : decode cX9_nearer 11 = .ok (.iload_n 2, 1) := by decide +kernel
theorem dX9_nearer_12 : decode cX9_nearer 12 = .ok (.if_icmp .ge 40, 3) := by decide +kernel
theorem dX9_nearer_15 : decode cX9_nearer 15 = .ok (.aload_n 0, 1) := by decide +kernel
theorem dX9_nearer_16 : decode cX9_nearer 16 = .ok (.getfield 27, 3) := by decide +kernel
theorem dX9_nearer_19 : decode cX9_nearer 19 = .ok (.iload_n 3, 1) := by decide +kernel
theorem dX9_nearer_20 : decode cX9_nearer 20 = .ok (.invokevirtual 59, 3) := by decide +kernel
theorem dX9_nearer_23 : decode cX9_nearer 23 = .ok (.istore 4, 2) := by decide +kernel
theorem dX9_nearer_25 : decode cX9_nearer 25 = .ok (.aload_n 0, 1) := by decide +kernel
theorem dX9_nearer_26 : decode cX9_nearer 26 = .ok (.getfield 9, 3) := by decide +kernel
theorem dX9_nearer_29 : decode cX9_nearer 29 = .ok (.iload 4, 2) := by decide +kernel
theorem dX9_nearer_31 : decode cX9_nearer 31 = .ok (.iaload, 1) := by decide +kernel
theorem dX9_nearer_32 : decode cX9_nearer 32 = .ok (.aload_n 0, 1) := by decide +kernel
theorem dX9_nearer_33 : decode cX9_nearer 33 = .ok (.getfield 9, 3) := by decide +kernel
theorem dX9_nearer_36 : decode cX9_nearer 36 = .ok (.iload_n 1, 1) := by decide +kernel
theorem dX9_nearer_37 : decode cX9_nearer 37 = .ok (.iaload, 1) := by decide +kernel
theorem dX9_nearer_38 : decode cX9_nearer 38 = .ok (.iconst 1, 1) := by decide +kernel
theorem dX9_nearer_39 : decode cX9_nearer 39 = .ok (.isub, 1) := by decide +kernel
theorem dX9_nearer_40 : decode cX9_nearer 40 = .ok (.if_icmp .ne 6, 3) := by decide +kernel
theorem dX9_nearer_43 : decode cX9_nearer 43 = .ok (.iload 4, 2) := by decide +kernel
theorem dX9_nearer_45 : decode cX9_nearer 45 = .ok (.ireturn, 1) := by decide +kernel
theorem dX9_nearer_46 : decode cX9_nearer 46 = .ok (.iinc 3 1, 3) := by decide +kernel
theorem dX9_nearer_49 : decode cX9_nearer 49 = .ok (.goto (-39), 3) := by decide +kernel
theorem dX9_nearer_52 : decode cX9_nearer 52 = .ok (.iload_n 1, 1) := by decide +kernel
theorem dX9_nearer_53 : decode cX9_nearer 53 = .ok (.ireturn, 1) := by decide +kernel
theorem gX10_init_X0_init_n9 : GoodIn wsX10_init (wsX0_init) := gw_c t_w305 (gw_t)
theorem gX10_init_X8_init_n38 : GoodIn wsX10_init (wsX8_init) := gw_c t_w306 (gw_t)
theorem gX10_init_X3_init : GoodIn wsX10_init (wsX3_init) := gw_c t_w307 (gw_t)
theorem gX10_init_X5_init : GoodIn wsX10_init (wsX5_init) := gw_c t_w308 (gw_t)
theorem gX10_init_X6_init : GoodIn wsX10_init (wsX6_init) := gw_c t_w275 (gw_t)
theorem gX10_init_X9_init : GoodIn wsX10_init (wsX9_init) := gw_c t_w309 (gw_t)
theorem gX10_init_X1_init : GoodIn wsX10_init (wsX1_init) := gw_c t_w310 (gw_t)
theorem gX10_init_X4_init_n86 : GoodIn wsX10_init (wsX4_init) := gw_c t_w311 (gw_t)
