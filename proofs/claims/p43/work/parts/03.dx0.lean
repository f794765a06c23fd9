theorem dX0_init_0 : decode cX0_init 0 = .ok (.aload_n 0, 1) := by decide +kernel
theorem dX0_init_1 : decode cX0_init 1 = .ok (.invokespecial 3, 3) := by decide +kernel
theorem dX0_init_4 : decode cX0_init 4 = .ok (.aload_n 0, 1) := by decide +kernel
theorem dX0_init_5 : decode cX0_init 5 = .ok (.new 9, 3) := by decide +kernel
theorem dX0_init_8 : decode cX0_init 8 = .ok (.dup, 1) := by decide +kernel
theorem dX0_init_9 : decode cX0_init 9 = .ok (.invokespecial 11, 3) := by decide +kernel
theorem dX0_init_12 : decode cX0_init 12 = .ok (.putfield 12, 3) := by decide +kernel
theorem dX0_init_15 : decode cX0_init 15 = .ok (.aload_n 0, 1) := by decide +kernel
theorem dX0_init_16 : decode cX0_init 16 = .ok (.new 18, 3) := by decide +kernel
theorem dX0_init_19 : decode cX0_init 19 = .ok (.dup, 1) := by decide +kernel
theorem dX0_init_20 : decode cX0_init 20 = .ok (.aload_n 0, 1) := by decide +kernel
theorem dX0_init_21 : decode cX0_init 21 = .ok (.getfield 12, 3) := by decide +kernel
theorem dX0_init_24 : decode cX0_init 24 = .ok (.invokespecial 20, 3) := by decide +kernel
theorem dX0_init_27 : decode cX0_init 27 = .ok (.putfield 23, 3) := by decide +kernel
theorem dX0_init_30 : decode cX0_init 30 = .ok (.aload_n 0, 1) := by decide +kernel
theorem dX0_init_31 : decode cX0_init 31 = .ok (.iconst 0, 1) := by decide +kernel
theorem dX0_init_32 : decode cX0_init 32 = .ok (.putfield 27, 3) := by decide +kernel
theorem dX0_init_35 : decode cX0_init 35 = .ok (.aload_n 0, 1) := by decide +kernel
theorem dX0_init_36 : decode cX0_init 36 = .ok (.iconst 0, 1) := by decide +kernel
theorem dX0_init_37 : decode cX0_init 37 = .ok (.putfield 31, 3) := by decide +kernel
theorem dX0_init_40 : decode cX0_init 40 = .ok (.aload_n 0, 1) := by decide +kernel
theorem dX0_init_41 : decode cX0_init 41 = .ok (.iconst 0, 1) := by decide +kernel
theorem dX0_init_42 : decode cX0_init 42 = .ok (.putfield 34, 3) := by decide +kernel
theorem dX0_init_45 : decode cX0_init 45 = .ok (.aload_n 0, 1) := by decide +kernel
theorem dX0_init_46 : decode cX0_init 46 = .ok (.iconst 0, 1) := by decide +kernel
theorem dX0_init_47 : decode cX0_init 47 = .ok (.putfield 37, 3) := by decide +kernel
theorem dX0_init_50 : decode cX0_init 50 = .ok (.return_, 1) := by decide +kernel
theorem dX0_countText_0 : decode cX0_countText 0 = .ok (.iload_n 2, 1) := by decide +kernel
theorem dX0_countText_1 : decode cX0_countText 1 = .ok (.ifCond .eq 14, 3) := by decide +kernel
theorem dX0_countText_4 : decode cX0_countText 4 = .ok (.aload_n 0, 1) := by decide +kernel
theorem dX0_countText_5 : decode cX0_countText 5 = .ok (.dup, 1) := by decide +kernel
theorem dX0_countText_6 : decode cX0_countText 6 = .ok (.getfield 27, 3) := by decide +kernel
theorem dX0_countText_9 : decode cX0_countText 9 = .ok (.iconst 1, 1) := by decide +kernel
theorem dX0_countText_10 : decode cX0_countText 10 = .ok (.iadd, 1) := by decide +kernel
theorem dX0_countText_11 : decode cX0_countText 11 = .ok (.putfield 27, 3) := by decide +kernel
theorem dX0_countText_14 : decode cX0_countText 14 = .ok (.return_, 1) := by decide +kernel
theorem dX0_countText_15 : decode cX0_countText 15 = .ok (.aload_n 0, 1) := by decide +kernel
theorem dX0_countText_16 : decode cX0_countText 16 = .ok (.dup, 1) := by decide +kernel
theorem dX0_countText_17 : decode cX0_countText 17 = .ok (.getfield 31, 3) := by decide +kernel
theorem dX0_countText_20 : decode cX0_countText 20 = .ok (.iconst 1, 1) := by decide +kernel
theorem dX0_countText_21 : decode cX0_countText 21 = .ok (.iadd, 1) := by decide +kernel
theorem dX0_countText_22 : decode cX0_countText 22 = .ok (.putfield 31, 3) := by decide +kernel
theorem dX0_countText_25 : decode cX0_countText 25 = .ok (.aload_n 1, 1) := by decide +kernel
theorem dX0_countText_26 : decode cX0_countText 26 = .ok (.getfield 40, 3) := by decide +kernel
theorem dX0_countText_29 : decode cX0_countText 29 = .ok (.ifCond .eq 13, 3) := by decide +kernel
theorem dX0_countText_32 : decode cX0_countText 32 = .ok (.aload_n 0, 1) := by decide +kernel
theorem dX0_countText_33 : decode cX0_countText 33 = .ok (.dup, 1) := by decide +kernel
theorem dX0_countText_34 : decode cX0_countText 34 = .ok (.getfield 34, 3) := by decide +kernel
theorem dX0_countText_37 : decode cX0_countText 37 = .ok (.iconst 1, 1) := by decide +kernel
theorem dX0_countText_38 : decode cX0_countText 38 = .ok (.iadd, 1) := by decide +kernel
theorem dX0_countText_39 : decode cX0_countText 39 = .ok (.putfield 34, 3) := by decide +kernel
theorem dX0_countText_42 : decode cX0_countText 42 = .ok (.aload_n 1, 1) := by decide +kernel
theorem dX0_countText_43 : decode cX0_countText 43 = .ok (.getfield 45, 3) := by decide +kernel
theorem dX0_countText_46 : decode cX0_countText 46 = .ok (.iconst 2, 1) := by decide +kernel
theorem dX0_countText_47 : decode cX0_countText 47 = .ok (.if_icmp .ne 13, 3) := by decide +kernel
theorem dX0_countText_50 : decode cX0_countText 50 = .ok (.aload_n 0, 1) := by decide +kernel
theorem dX0_countText_51 : decode cX0_countText 51 = .ok (.dup, 1) := by decide +kernel
theorem dX0_countText_52 : decode cX0_countText 52 = .ok (.getfield 37, 3) := by decide +kernel
theorem dX0_countText_55 : decode cX0_countText 55 = .ok (.iconst 1, 1) := by decide +kernel
theorem dX0_countText_56 : decode cX0_countText 56 = .ok (.iadd, 1) := by decide +kernel
theorem dX0_countText_57 : decode cX0_countText 57 = .ok (.putfield 37, 3) := by decide +kernel
theorem dX0_countText_60 : decode cX0_countText 60 = .ok (.return_, 1) := by decide +kernel
theorem gX0_copyFrom_X2_copyFrom : GoodIn wsX0_copyFrom (wsV RX0 48 RX2 yX2_copyFrom wsX2_copyFrom) := gw_c t_w4 (gw_c t_w3 (gw_c t_w2 (gw_c t_w1 (gw_c t_w0 (gw_t)))))
theorem gX0_copyFrom_X7_copyFrom : GoodIn wsX0_copyFrom (wsV RX0 51 RX7 yX7_copyFrom wsX7_copyFrom) := gw_c t_w9 (gw_c t_w8 (gw_c t_w7 (gw_c t_w6 (gw_c t_w5 (gw_t)))))
theorem dX0_copyFrom_0 : decode cX0_copyFrom 0 = .ok (.aload_n 0, 1) := by decide +kernel
theorem dX0_copyFrom_1 : decode cX0_copyFrom 1 = .ok (.getfield 12, 3) := by decide +kernel
theorem dX0_copyFrom_4 : decode cX0_copyFrom 4 = .ok (.aload_n 1, 1) := by decide +kernel
theorem dX0_copyFrom_5 : decode cX0_copyFrom 5 = .ok (.getfield 12, 3) := by decide +kernel
theorem dX0_copyFrom_8 : decode cX0_copyFrom 8 = .ok (.invokevirtual 48, 3) := by decide +kernel
theorem dX0_copyFrom_11 : decode cX0_copyFrom 11 = .ok (.aload_n 0, 1) := by decide +kernel
theorem dX0_copyFrom_12 : decode cX0_copyFrom 12 = .ok (.getfield 23, 3) := by decide +kernel
theorem dX0_copyFrom_15 : decode cX0_copyFrom 15 = .ok (.aload_n 1, 1) := by decide +kernel
theorem dX0_copyFrom_16 : decode cX0_copyFrom 16 = .ok (.getfield 23, 3) := by decide +kernel
theorem dX0_copyFrom_19 : decode cX0_copyFrom 19 = .ok (.invokevirtual 51, 3) := by decide +kernel
theorem dX0_copyFrom_22 : decode cX0_copyFrom 22 = .ok (.aload_n 0, 1) := by decide +kernel
theorem dX0_copyFrom_23 : decode cX0_copyFrom 23 = .ok (.aload_n 1, 1) := by decide +kernel
theorem dX0_copyFrom_24 : decode cX0_copyFrom 24 = .ok (.getfield 27, 3) := by decide +kernel
theorem dX0_copyFrom_27 : decode cX0_copyFrom 27 = .ok (.putfield 27, 3) := by decide +kernel
theorem dX0_copyFrom_30 : decode cX0_copyFrom 30 = .ok (.aload_n 0, 1) := by decide +kernel
theorem dX0_copyFrom_31 : decode cX0_copyFrom 31 = .ok (.aload_n 1, 1) := by decide +kernel
theorem dX0_copyFrom_32 : decode cX0_copyFrom 32 = .ok (.getfield 31, 3) := by decide +kernel
theorem dX0_copyFrom_35 : decode cX0_copyFrom 35 = .ok (.putfield 31, 3) := by decide +kernel
theorem dX0_copyFrom_38 : decode cX0_copyFrom 38 = .ok (.aload_n 0, 1) := by decide +kernel
theorem dX0_copyFrom_39 : decode cX0_copyFrom 39 = .ok (.aload_n 1, 1) := by decide +kernel
theorem dX0_copyFrom_40 : decode cX0_copyFrom 40 = .ok (.getfield 34, 3) := by decide +kernel
theorem dX0_copyFrom_43 : decode cX0_copyFrom 43 = .ok (.putfield 34, 3) := by decide +kernel
theorem dX0_copyFrom_46 : decode cX0_copyFrom 46 = .ok (.aload_n 0, 1) := by decide +kernel
theorem dX0_copyFrom_47 : decode cX0_copyFrom 47 = .ok (.aload_n 1, 1) := by decide +kernel
theorem dX0_copyFrom_48 : decode cX0_copyFrom 48 = .ok (.getfield 37, 3) := by decide +kernel
theorem dX0_copyFrom_51 : decode cX0_copyFrom 51 = .ok (.putfield 37, 3) := by decide +kernel
theorem dX0_copyFrom_54 : decode cX0_copyFrom 54 = .ok (.return_, 1) := by decide +kernel
theorem dX1_init_0 : decode cX1_init 0 = .ok (.aload_n 0, 1) := by decide +kernel
theorem dX1_init_1 : decode cX1_init 1 = .ok (.invokespecial 3, 3) := by decide +kernel
theorem dX1_init_4 : decode cX1_init 4 = .ok (.aload_n 0, 1) := by decide +kernel
theorem dX1_init_5 : decode cX1_init 5 = .ok (.iconst 0, 1) := by decide +kernel
theorem dX1_init_6 : decode cX1_init 6 = .ok (.putfield 9, 3) := by decide +kernel
theorem dX1_init_9 : decode cX1_init 9 = .ok (.aload_n 0, 1) := by decide +kernel
theorem dX1_init_10 : decode cX1_init 10 = .ok (.iconst 0, 1) := by decide +kernel
theorem dX1_init_11 : decode cX1_init 11 = .ok (.putfield 15, 3) := by decide +kernel
theorem dX1_init_14 : decode cX1_init 14 = .ok (.aload_n 0, 1) := by decide +kernel
theorem dX1_init_15 : decode cX1_init 15 = .ok (.iconst 0, 1) := by decide +kernel
theorem dX1_init_16 : decode cX1_init 16 = .ok (.putfield 18, 3) := by decide +kernel
theorem dX1_init_19 : decode cX1_init 19 = .ok (.aload_n 0, 1) := by decide +kernel
theorem dX1_init_20 : decode cX1_init 20 = .ok (.iconst 0, 1) := by decide +kernel
theorem dX1_init_21 : decode cX1_init 21 = .ok (.putfield 21, 3) := by decide +kernel
theorem dX1_init_24 : decode cX1_init 24 = .ok (.aload_n 0, 1) := by decide +kernel
theorem dX1_init_25 : decode cX1_init 25 = .ok (.aload_n 1, 1) := by decide +kernel
theorem dX1_init_26 : decode cX1_init 26 = .ok (.putfield 24, 3) := by decide +kernel
theorem dX1_init_29 : decode cX1_init 29 = .ok (.return_, 1) := by decide +kernel
theorem dX1_set_0 : decode cX1_set 0 = .ok (.aload_n 0, 1) := by decide +kernel
theorem dX1_set_1 : decode cX1_set 1 = .ok (.iload_n 1, 1) := by decide +kernel
theorem dX1_set_2 : decode cX1_set 2 = .ok (.putfield 9, 3) := by decide +kernel
theorem dX1_set_5 : decode cX1_set 5 = .ok (.aload_n 0, 1) := by decide +kernel
theorem dX1_set_6 : decode cX1_set 6 = .ok (.iload_n 2, 1) := by decide +kernel
theorem dX1_set_7 : decode cX1_set 7 = .ok (.putfield 15, 3) := by decide +kernel
theorem dX1_set_10 : decode cX1_set 10 = .ok (.aload_n 0, 1) := by decide +kernel
theorem dX1_set_11 : decode cX1_set 11 = .ok (.iload_n 3, 1) := by decide +kernel
theorem dX1_set_12 : decode cX1_set 12 = .ok (.putfield 18, 3) := by decide +kernel
theorem dX1_set_15 : decode cX1_set 15 = .ok (.aload_n 0, 1) := by decide +kernel
theorem dX1_set_16 : decode cX1_set 16 = .ok (.iload 4, 2) := by decide +kernel
theorem dX1_set_18 : decode cX1_set 18 = .ok (.putfield 21, 3) := by decide +kernel
theorem dX1_set_21 : decode cX1_set 21 = .ok (.return_, 1) := by decide +kernel
theorem gX1_topRow_X2_rowOfLat : GoodIn wsX1_topRow (wsV RX1 28 RX2 yX2_rowOfLat wsX2_rowOfLat) := gw_c t_w13 (gw_c t_w12 (gw_c t_w11 (gw_c t_w1 (gw_c t_w10 (gw_t)))))
theorem dX1_topRow_0 : decode cX1_topRow 0 = .ok (.aload_n 0, 1) := by decide +kernel
theorem dX1_topRow_1 : decode cX1_topRow 1 = .ok (.getfield 24, 3) := by decide +kernel
theorem dX1_topRow_4 : decode cX1_topRow 4 = .ok (.iload_n 1, 1) := by decide +kernel
theorem dX1_topRow_5 : decode cX1_topRow 5 = .ok (.aload_n 0, 1) := by decide +kernel
theorem dX1_topRow_6 : decode cX1_topRow 6 = .ok (.getfield 15, 3) := by decide +kernel
theorem dX1_topRow_9 : decode cX1_topRow 9 = .ok (.invokevirtual 28, 3) := by decide +kernel
theorem dX1_topRow_12 : decode cX1_topRow 12 = .ok (.ireturn, 1) := by decide +kernel
theorem gX1_bottomRow_X2_rowOfLat : GoodIn wsX1_bottomRow (wsV RX1 28 RX2 yX2_rowOfLat wsX2_rowOfLat) := gw_c t_w13 (gw_c t_w12 (gw_c t_w11 (gw_c t_w1 (gw_c t_w10 (gw_t)))))
theorem dX1_bottomRow_0 : decode cX1_bottomRow 0 = .ok (.aload_n 0, 1) := by decide +kernel
theorem dX1_bottomRow_1 : decode cX1_bottomRow 1 = .ok (.getfield 24, 3) := by decide +kernel
theorem dX1_bottomRow_4 : decode cX1_bottomRow 4 = .ok (.iload_n 1, 1) := by decide +kernel
theorem dX1_bottomRow_5 : decode cX1_bottomRow 5 = .ok (.aload_n 0, 1) := by decide +kernel
theorem dX1_bottomRow_6 : decode cX1_bottomRow 6 = .ok (.getfield 9, 3) := by decide +kernel
theorem dX1_bottomRow_9 : decode cX1_bottomRow 9 = .ok (.invokevirtual 28, 3) := by decide +kernel
theorem dX1_bottomRow_12 : decode cX1_bottomRow 12 = .ok (.ireturn, 1) := by decide +kernel
theorem gX1_inRow_X2_placeOfLon : GoodIn wsX1_inRow (wsV RX1 34 RX2 yX2_placeOfLon wsX2_placeOfLon) := gw_c t_w17 (gw_c t_w16 (gw_c t_w15 (gw_c t_w1 (gw_c t_w14 (gw_t)))))
theorem gX1_inRow_X2_rowLength : GoodIn wsX1_inRow (wsV RX1 38 RX2 yX2_rowLength wsX2_rowLength) := gw_c t_w21 (gw_c t_w20 (gw_c t_w19 (gw_c t_w1 (gw_c t_w18 (gw_t)))))
theorem dX1_inRow_0 : decode cX1_inRow 0 = .ok (.aload_n 0, 1) := by decide +kernel
theorem dX1_inRow_1 : decode cX1_inRow 1 = .ok (.getfield 24, 3) := by decide +kernel
theorem dX1_inRow_4 : decode cX1_inRow 4 = .ok (.iload_n 1, 1) := by decide +kernel
theorem dX1_inRow_5 : decode cX1_inRow 5 = .ok (.iload_n 2, 1) := by decide +kernel
theorem dX1_inRow_6 : decode cX1_inRow 6 = .ok (.aload_n 0, 1) := by decide +kernel
theorem dX1_inRow_7 : decode cX1_inRow 7 = .ok (.getfield 18, 3) := by decide +kernel
theorem dX1_inRow_10 : decode cX1_inRow 10 = .ok (.invokevirtual 34, 3) := by decide +kernel
theorem dX1_inRow_13 : decode cX1_inRow 13 = .ok (.istore_n 3, 1) := by decide +kernel
theorem dX1_inRow_14 : decode cX1_inRow 14 = .ok (.aload_n 0, 1) := by decide +kernel
theorem dX1_inRow_15 : decode cX1_inRow 15 = .ok (.getfield 24, 3) := by decide +kernel
theorem dX1_inRow_18 : decode cX1_inRow 18 = .ok (.iload_n 1, 1) := by decide +kernel
theorem dX1_inRow_19 : decode cX1_inRow 19 = .ok (.iload_n 2, 1) := by decide +kernel
theorem dX1_inRow_20 : decode cX1_inRow 20 = .ok (.aload_n 0, 1) := by decide +kernel
theorem dX1_inRow_21 : decode cX1_inRow 21 = .ok (.getfield 21, 3) := by decide +kernel
theorem dX1_inRow_24 : decode cX1_inRow 24 = .ok (.invokevirtual 34, 3) := by decide +kernel
theorem dX1_inRow_27 : decode cX1_inRow 27 = .ok (.istore 4, 2) := by decide +kernel
theorem dX1_inRow_29 : decode cX1_inRow 29 = .ok (.aload_n 0, 1) := by decide +kernel
theorem dX1_inRow_30 : decode cX1_inRow 30 = .ok (.getfield 18, 3) := by decide +kernel
theorem dX1_inRow_33 : decode cX1_inRow 33 = .ok (.aload_n 0, 1) := by decide +kernel
theorem dX1_inRow_34 : decode cX1_inRow 34 = .ok (.getfield 21, 3) := by decide +kernel
theorem dX1_inRow_37 : decode cX1_inRow 37 = .ok (.if_icmp .gt 10, 3) := by decide +kernel
theorem dX1_inRow_40 : decode cX1_inRow 40 = .ok (.iload 4, 2) := by decide +kernel
theorem dX1_inRow_42 : decode cX1_inRow 42 = .ok (.iload_n 3, 1) := by decide +kernel
theorem dX1_inRow_43 : decode cX1_inRow 43 = .ok (.isub, 1) := by decide +kernel
theorem dX1_inRow_44 : decode cX1_inRow 44 = .ok (.iconst 1, 1) := by decide +kernel
theorem dX1_inRow_45 : decode cX1_inRow 45 = .ok (.iadd, 1) := by decide +kernel
theorem dX1_inRow_46 : decode cX1_inRow 46 = .ok (.ireturn, 1) := by decide +kernel
theorem dX1_inRow_47 : decode cX1_inRow 47 = .ok (.aload_n 0, 1) := by decide +kernel
theorem dX1_inRow_48 : decode cX1_inRow 48 = .ok (.getfield 24, 3) := by decide +kernel
theorem dX1_inRow_51 : decode cX1_inRow 51 = .ok (.iload_n 1, 1) := by decide +kernel
theorem dX1_inRow_52 : decode cX1_inRow 52 = .ok (.iload_n 2, 1) := by decide +kernel
theorem dX1_inRow_53 : decode cX1_inRow 53 = .ok (.invokevirtual 38, 3) := by decide +kernel
theorem dX1_inRow_56 : decode cX1_inRow 56 = .ok (.istore 5, 2) := by decide +kernel
theorem dX1_inRow_58 : decode cX1_inRow 58 = .ok (.iload 5, 2) := by decide +kernel
theorem dX1_inRow_60 : decode cX1_inRow 60 = .ok (.iload 5, 2) := by decide +kernel
theorem dX1_inRow_62 : decode cX1_inRow 62 = .ok (.iload_n 3, 1) := by decide +kernel
theorem dX1_inRow_63 : decode cX1_inRow 63 = .ok (.isub, 1) := by decide +kernel
theorem dX1_inRow_64 : decode cX1_inRow 64 = .ok (.iload 4, 2) := by decide +kernel
theorem dX1_inRow_66 : decode cX1_inRow 66 = .ok (.iadd, 1) := by decide +kernel
theorem dX1_inRow_67 : decode cX1_inRow 67 = .ok (.iconst 1, 1) := by decide +kernel
theorem dX1_inRow_68 : decode cX1_inRow 68 = .ok (.iadd, 1) := by decide +kernel
theorem dX1_inRow_69 : decode cX1_inRow 69 = .ok (.invokestatic 41, 3) := by decide +kernel
theorem dX1_inRow_72 : decode cX1_inRow 72 = .ok (.ireturn, 1) := by decide +kernel
theorem gX1_keyFromWest_X2_placeOfLon : GoodIn wsX1_keyFromWest (wsV RX1 34 RX2 yX2_placeOfLon wsX2_placeOfLon) := gw_c t_w17 (gw_c t_w16 (gw_c t_w15 (gw_c t_w1 (gw_c t_w14 (gw_t)))))
theorem gX1_keyFromWest_X2_rowStart : GoodIn wsX1_keyFromWest (wsV RX1 46 RX2 yX2_rowStart wsX2_rowStart) := gw_c t_w25 (gw_c t_w24 (gw_c t_w23 (gw_c t_w1 (gw_c t_w22 (gw_t)))))
theorem gX1_keyFromWest_X2_rowLength : GoodIn wsX1_keyFromWest (wsV RX1 38 RX2 yX2_rowLength wsX2_rowLength) := gw_c t_w21 (gw_c t_w20 (gw_c t_w19 (gw_c t_w1 (gw_c t_w18 (gw_t)))))
theorem dX1_keyFromWest_0 : decode cX1_keyFromWest 0 = .ok (.aload_n 0, 1) := by decide +kernel
theorem dX1_keyFromWest_1 : decode cX1_keyFromWest 1 = .ok (.getfield 24, 3) := by decide +kernel
theorem dX1_keyFromWest_4 : decode cX1_keyFromWest 4 = .ok (.iload_n 1, 1) := by decide +kernel
theorem dX1_keyFromWest_5 : decode cX1_keyFromWest 5 = .ok (.iload_n 2, 1) := by decide +kernel
theorem dX1_keyFromWest_6 : decode cX1_keyFromWest 6 = .ok (.aload_n 0, 1) := by decide +kernel
theorem dX1_keyFromWest_7 : decode cX1_keyFromWest 7 = .ok (.getfield 18, 3) := by decide +kernel
theorem dX1_keyFromWest_10 : decode cX1_keyFromWest 10 = .ok (.invokevirtual 34, 3) := by decide +kernel
theorem dX1_keyFromWest_13 : decode cX1_keyFromWest 13 = .ok (.istore 4, 2) := by decide +kernel
theorem dX1_keyFromWest_15 : decode cX1_keyFromWest 15 = .ok (.aload_n 0, 1) := by decide +kernel
theorem dX1_keyFromWest_16 : decode cX1_keyFromWest 16 = .ok (.getfield 24, 3) := by decide +kernel
theorem dX1_keyFromWest_19 : decode cX1_keyFromWest 19 = .ok (.iload_n 1, 1) := by decide +kernel
theorem dX1_keyFromWest_20 : decode cX1_keyFromWest 20 = .ok (.iload_n 2, 1) := by decide +kernel
theorem dX1_keyFromWest_21 : decode cX1_keyFromWest 21 = .ok (.invokevirtual 46, 3) := by decide +kernel
theorem dX1_keyFromWest_24 : decode cX1_keyFromWest 24 = .ok (.iload 4, 2) := by decide +kernel
theorem dX1_keyFromWest_26 : decode cX1_keyFromWest 26 = .ok (.iload_n 3, 1) := by decide +kernel
theorem dX1_keyFromWest_27 : decode cX1_keyFromWest 27 = .ok (.iadd, 1) := by decide +kernel
theorem dX1_keyFromWest_28 : decode cX1_keyFromWest 28 = .ok (.aload_n 0, 1) := by decide +kernel
theorem dX1_keyFromWest_29 : decode cX1_keyFromWest 29 = .ok (.getfield 24, 3) := by decide +kernel
theorem dX1_keyFromWest_32 : decode cX1_keyFromWest 32 = .ok (.iload_n 1, 1) := by decide +kernel
theorem dX1_keyFromWest_33 : decode cX1_keyFromWest 33 = .ok (.iload_n 2, 1) := by decide +kernel
theorem dX1_keyFromWest_34 : decode cX1_keyFromWest 34 = .ok (.invokevirtual 38, 3) := by decide +kernel
theorem dX1_keyFromWest_37 : decode cX1_keyFromWest 37 = .ok (.irem, 1) := by decide +kernel
theorem dX1_keyFromWest_38 : decode cX1_keyFromWest 38 = .ok (.iadd, 1) := by decide +kernel
theorem dX1_keyFromWest_39 : decode cX1_keyFromWest 39 = .ok (.ireturn, 1) := by decide +kernel
theorem gX1_beltTop_X1_topRow : GoodIn wsX1_beltTop (wsV RX1 53 RX1 yX1_topRow wsX1_topRow) := gw_c t_w30 (gw_c t_w29 (gw_c t_w28 (gw_c t_w27 (gw_c t_w26 (gw_t)))))
theorem dX1_beltTop_0 : decode cX1_beltTop 0 = .ok (.iload_n 2, 1) := by decide +kernel
theorem dX1_beltTop_1 : decode cX1_beltTop 1 = .ok (.ifCond .ne 7, 3) := by decide +kernel
theorem dX1_beltTop_4 : decode cX1_beltTop 4 = .ok (.iconst 0, 1) := by decide +kernel
theorem dX1_beltTop_5 : decode cX1_beltTop 5 = .ok (.goto 18, 3) := by decide +kernel
theorem dX1_beltTop_8 : decode cX1_beltTop 8 = .ok (.iload_n 2, 1) := by decide +kernel
theorem dX1_beltTop_9 : decode cX1_beltTop 9 = .ok (.iconst 1, 1) := by decide +kernel
theorem dX1_beltTop_10 : decode cX1_beltTop 10 = .ok (.isub, 1) := by decide +kernel
theorem dX1_beltTop_11 : decode cX1_beltTop 11 = .ok (.aload_n 0, 1) := by decide +kernel
theorem dX1_beltTop_12 : decode cX1_beltTop 12 = .ok (.getfield 24, 3) := by decide +kernel
theorem dX1_beltTop_15 : decode cX1_beltTop 15 = .ok (.getfield 49, 3) := by decide +kernel
theorem dX1_beltTop_18 : decode cX1_beltTop 18 = .ok (.iload_n 1, 1) := by decide +kernel
theorem dX1_beltTop_19 : decode cX1_beltTop 19 = .ok (.iaload, 1) := by decide +kernel
theorem dX1_beltTop_20 : decode cX1_beltTop 20 = .ok (.imul, 1) := by decide +kernel
theorem dX1_beltTop_21 : decode cX1_beltTop 21 = .ok (.iconst 1, 1) := by decide +kernel
theorem dX1_beltTop_22 : decode cX1_beltTop 22 = .ok (.iadd, 1) := by decide +kernel
theorem dX1_beltTop_23 : decode cX1_beltTop 23 = .ok (.istore_n 3, 1) := by decide +kernel
theorem dX1_beltTop_24 : decode cX1_beltTop 24 = .ok (.iload_n 3, 1) := by decide +kernel
theorem dX1_beltTop_25 : decode cX1_beltTop 25 = .ok (.aload_n 0, 1) := by decide +kernel
theorem dX1_beltTop_26 : decode cX1_beltTop 26 = .ok (.iload_n 1, 1) := by decide +kernel
theorem dX1_beltTop_27 : decode cX1_beltTop 27 = .ok (.invokevirtual 53, 3) := by decide +kernel
theorem dX1_beltTop_30 : decode cX1_beltTop 30 = .ok (.invokestatic 57, 3) := by decide +kernel
theorem dX1_beltTop_33 : decode cX1_beltTop 33 = .ok (.ireturn, 1) := by decide +kernel
theorem gX1_beltBottom_X1_bottomRow : GoodIn wsX1_beltBottom (wsV RX1 63 RX1 yX1_bottomRow wsX1_bottomRow) := gw_c t_w34 (gw_c t_w33 (gw_c t_w32 (gw_c t_w27 (gw_c t_w31 (gw_t)))))
theorem dX1_beltBottom_0 : decode cX1_beltBottom 0 = .ok (.iload_n 2, 1) := by decide +kernel
theorem dX1_beltBottom_1 : decode cX1_beltBottom 1 = .ok (.bipush 44, 2) := by decide +kernel
theorem dX1_beltBottom_3 : decode cX1_beltBottom 3 = .ok (.if_icmp .le 17, 3) := by decide +kernel
theorem dX1_beltBottom_6 : decode cX1_beltBottom 6 = .ok (.aload_n 0, 1) := by decide +kernel
theorem dX1_beltBottom_7 : decode cX1_beltBottom 7 = .ok (.getfield 24, 3) := by decide +kernel
theorem dX1_beltBottom_10 : decode cX1_beltBottom 10 = .ok (.getfield 60, 3) := by decide +kernel
theorem dX1_beltBottom_13 : decode cX1_beltBottom 13 = .ok (.iload_n 1, 1) := by decide +kernel
theorem dX1_beltBottom_14 : decode cX1_beltBottom 14 = .ok (.iaload, 1) := by decide +kernel
theorem dX1_beltBottom_15 : decode cX1_beltBottom 15 = .ok (.iconst 1, 1) := by decide +kernel
theorem dX1_beltBottom_16 : decode cX1_beltBottom 16 = .ok (.isub, 1) := by decide +kernel
theorem dX1_beltBottom_17 : decode cX1_beltBottom 17 = .ok (.goto 14, 3) := by decide +kernel
theorem dX1_beltBottom_20 : decode cX1_beltBottom 20 = .ok (.iload_n 2, 1) := by decide +kernel
theorem dX1_beltBottom_21 : decode cX1_beltBottom 21 = .ok (.aload_n 0, 1) := by decide +kernel
theorem dX1_beltBottom_22 : decode cX1_beltBottom 22 = .ok (.getfield 24, 3) := by decide +kernel
theorem dX1_beltBottom_25 : decode cX1_beltBottom 25 = .ok (.getfield 49, 3) := by decide +kernel
theorem dX1_beltBottom_28 : decode cX1_beltBottom 28 = .ok (.iload_n 1, 1) := by decide +kernel
theorem dX1_beltBottom_29 : decode cX1_beltBottom 29 = .ok (.iaload, 1) := by decide +kernel
theorem dX1_beltBottom_30 : decode cX1_beltBottom 30 = .ok (.imul, 1) := by decide +kernel
theorem dX1_beltBottom_31 : decode cX1_beltBottom 31 = .ok (.istore_n 3, 1) := by decide +kernel
theorem dX1_beltBottom_32 : decode cX1_beltBottom 32 = .ok (.iload_n 3, 1) := by decide +kernel
theorem dX1_beltBottom_33 : decode cX1_beltBottom 33 = .ok (.aload_n 0, 1) := by decide +kernel
theorem dX1_beltBottom_34 : decode cX1_beltBottom 34 = .ok (.iload_n 1, 1) := by decide +kernel
theorem dX1_beltBottom_35 : decode cX1_beltBottom 35 = .ok (.invokevirtual 63, 3) := by decide +kernel
theorem dX1_beltBottom_38 : decode cX1_beltBottom 38 = .ok (.invokestatic 41, 3) := by decide +kernel
theorem dX1_beltBottom_41 : decode cX1_beltBottom 41 = .ok (.ireturn, 1) := by decide +kernel
theorem gX1_sheetsAt_X1_beltTop : GoodIn wsX1_sheetsAt (wsV RX1 66 RX1 yX1_beltTop wsX1_beltTop) := gw_c t_w38 (gw_c t_w37 (gw_c t_w36 (gw_c t_w27 (gw_c t_w35 (gw_t)))))
theorem gX1_sheetsAt_X1_beltBottom : GoodIn wsX1_sheetsAt (wsV RX1 69 RX1 yX1_beltBottom wsX1_beltBottom) := gw_c t_w42 (gw_c t_w41 (gw_c t_w40 (gw_c t_w27 (gw_c t_w39 (gw_t)))))
theorem gX1_sheetsAt_X1_inRow : GoodIn wsX1_sheetsAt (wsV RX1 72 RX1 yX1_inRow wsX1_inRow) := gw_c t_w46 (gw_c t_w45 (gw_c t_w44 (gw_c t_w27 (gw_c t_w43 (gw_t)))))
theorem dX1_sheetsAt_0 : decode cX1_sheetsAt 0 = .ok (.iconst 0, 1) := by decide +kernel
theorem dX1_sheetsAt_1 : decode cX1_sheetsAt 1 = .ok (.istore_n 2, 1) := by decide +kernel
theorem dX1_sheetsAt_2 : decode cX1_sheetsAt 2 = .ok (.iconst 0, 1) := by decide +kernel
theorem dX1_sheetsAt_3 : decode cX1_sheetsAt 3 = .ok (.istore_n 3, 1) := by decide +kernel
theorem dX1_sheetsAt_4 : decode cX1_sheetsAt 4 = .ok (.iload_n 3, 1) := by decide +kernel
theorem dX1_sheetsAt_5 : decode cX1_sheetsAt 5 = .ok (.bipush 45, 2) := by decide +kernel
theorem dX1_sheetsAt_7 : decode cX1_sheetsAt 7 = .ok (.if_icmp .gt 50, 3) := by decide +kernel
theorem dX1_sheetsAt_10 : decode cX1_sheetsAt 10 = .ok (.aload_n 0, 1) := by decide +kernel
theorem dX1_sheetsAt_11 : decode cX1_sheetsAt 11 = .ok (.iload_n 1, 1) := by decide +kernel
theorem dX1_sheetsAt_12 : decode cX1_sheetsAt 12 = .ok (.iload_n 3, 1) := by decide +kernel
theorem dX1_sheetsAt_13 : decode cX1_sheetsAt 13 = .ok (.invokevirtual 66, 3) := by decide +kernel
theorem dX1_sheetsAt_16 : decode cX1_sheetsAt 16 = .ok (.istore 4, 2) := by decide +kernel
theorem dX1_sheetsAt_18 : decode cX1_sheetsAt 18 = .ok (.aload_n 0, 1) := by decide +kernel
theorem dX1_sheetsAt_19 : decode cX1_sheetsAt 19 = .ok (.iload_n 1, 1) := by decide +kernel
theorem dX1_sheetsAt_20 : decode cX1_sheetsAt 20 = .ok (.iload_n 3, 1) := by decide +kernel
theorem dX1_sheetsAt_21 : decode cX1_sheetsAt 21 = .ok (.invokevirtual 69, 3) := by decide +kernel
theorem dX1_sheetsAt_24 : decode cX1_sheetsAt 24 = .ok (.istore 5, 2) := by decide +kernel
theorem dX1_sheetsAt_26 : decode cX1_sheetsAt 26 = .ok (.iload 4, 2) := by decide +kernel
theorem dX1_sheetsAt_28 : decode cX1_sheetsAt 28 = .ok (.iload 5, 2) := by decide +kernel
theorem dX1_sheetsAt_30 : decode cX1_sheetsAt 30 = .ok (.if_icmp .gt 21, 3) := by decide +kernel
theorem dX1_sheetsAt_33 : decode cX1_sheetsAt 33 = .ok (.iload_n 2, 1) := by decide +kernel
theorem dX1_sheetsAt_34 : decode cX1_sheetsAt 34 = .ok (.iload 5, 2) := by decide +kernel
theorem dX1_sheetsAt_36 : decode cX1_sheetsAt 36 = .ok (.iload 4, 2) := by decide +kernel
theorem dX1_sheetsAt_38 : decode cX1_sheetsAt 38 = .ok (.isub, 1) := by decide +kernel
theorem dX1_sheetsAt_39 : decode cX1_sheetsAt 39 = .ok (.iconst 1, 1) := by decide +kernel
theorem dX1_sheetsAt_40 : decode cX1_sheetsAt 40 = .ok (.iadd, 1) := by decide +kernel
theorem dX1_sheetsAt_41 : decode cX1_sheetsAt 41 = .ok (.aload_n 0, 1) := by decide +kernel
theorem dX1_sheetsAt_42 : decode cX1_sheetsAt 42 = .ok (.iload_n 1, 1) := by decide +kernel
theorem dX1_sheetsAt_43 : decode cX1_sheetsAt 43 = .ok (.iload 4, 2) := by decide +kernel
theorem dX1_sheetsAt_45 : decode cX1_sheetsAt 45 = .ok (.invokevirtual 72, 3) := by decide +kernel
theorem dX1_sheetsAt_48 : decode cX1_sheetsAt 48 = .ok (.imul, 1) := by decide +kernel
theorem dX1_sheetsAt_49 : decode cX1_sheetsAt 49 = .ok (.iadd, 1) := by decide +kernel
theorem dX1_sheetsAt_50 : decode cX1_sheetsAt 50 = .ok (.istore_n 2, 1) := by decide +kernel
theorem dX1_sheetsAt_51 : decode cX1_sheetsAt 51 = .ok (.iinc 3 1, 3) := by decide +kernel
theorem dX1_sheetsAt_54 : decode cX1_sheetsAt 54 = .ok (.goto (-50), 3) := by decide +kernel
theorem dX1_sheetsAt_57 : decode cX1_sheetsAt 57 = .ok (.iload_n 2, 1) := by decide +kernel
theorem dX1_sheetsAt_58 : decode cX1_sheetsAt 58 = .ok (.ireturn, 1) := by decide +kernel
theorem gX1_sheetAt_X1_beltTop : GoodIn wsX1_sheetAt (wsV RX1 66 RX1 yX1_beltTop wsX1_beltTop) := gw_c t_w38 (gw_c t_w37 (gw_c t_w36 (gw_c t_w27 (gw_c t_w35 (gw_t)))))
theorem gX1_sheetAt_X1_beltBottom : GoodIn wsX1_sheetAt (wsV RX1 69 RX1 yX1_beltBottom wsX1_beltBottom) := gw_c t_w42 (gw_c t_w41 (gw_c t_w40 (gw_c t_w27 (gw_c t_w39 (gw_t)))))
theorem gX1_sheetAt_X1_inRow : GoodIn wsX1_sheetAt (wsV RX1 72 RX1 yX1_inRow wsX1_inRow) := gw_c t_w46 (gw_c t_w45 (gw_c t_w44 (gw_c t_w27 (gw_c t_w43 (gw_t)))))
theorem gX1_sheetAt_X1_keyFromWest : GoodIn wsX1_sheetAt (wsV RX1 75 RX1 yX1_keyFromWest wsX1_keyFromWest) := gw_c t_w50 (gw_c t_w49 (gw_c t_w48 (gw_c t_w27 (gw_c t_w47 (gw_t)))))
theorem dX1_sheetAt_0 : decode cX1_sheetAt 0 = .ok (.iconst 0, 1) := by decide +kernel
theorem dX1_sheetAt_1 : decode cX1_sheetAt 1 = .ok (.istore_n 3, 1) := by decide +kernel
theorem dX1_sheetAt_2 : decode cX1_sheetAt 2 = .ok (.iconst 0, 1) := by decide +kernel
theorem dX1_sheetAt_3 : decode cX1_sheetAt 3 = .ok (.istore 4, 2) := by decide +kernel
theorem dX1_sheetAt_5 : decode cX1_sheetAt 5 = .ok (.iload 4, 2) := by decide +kernel
theorem dX1_sheetAt_7 : decode cX1_sheetAt 7 = .ok (.bipush 45, 2) := by decide +kernel
theorem dX1_sheetAt_9 : decode cX1_sheetAt 9 = .ok (.if_icmp .gt 96, 3) := by decide +kernel
theorem dX1_sheetAt_12 : decode cX1_sheetAt 12 = .ok (.aload_n 0, 1) := by decide +kernel
theorem dX1_sheetAt_13 : decode cX1_sheetAt 13 = .ok (.iload_n 1, 1) := by decide +kernel
theorem dX1_sheetAt_14 : decode cX1_sheetAt 14 = .ok (.iload 4, 2) := by decide +kernel
theorem dX1_sheetAt_16 : decode cX1_sheetAt 16 = .ok (.invokevirtual 66, 3) := by decide +kernel
theorem dX1_sheetAt_19 : decode cX1_sheetAt 19 = .ok (.istore 5, 2) := by decide +kernel
theorem dX1_sheetAt_21 : decode cX1_sheetAt 21 = .ok (.aload_n 0, 1) := by decide +kernel
theorem dX1_sheetAt_22 : decode cX1_sheetAt 22 = .ok (.iload_n 1, 1) := by decide +kernel
theorem dX1_sheetAt_23 : decode cX1_sheetAt 23 = .ok (.iload 4, 2) := by decide +kernel
theorem dX1_sheetAt_25 : decode cX1_sheetAt 25 = .ok (.invokevirtual 69, 3) := by decide +kernel
theorem dX1_sheetAt_28 : decode cX1_sheetAt 28 = .ok (.istore 6, 2) := by decide +kernel
theorem dX1_sheetAt_30 : decode cX1_sheetAt 30 = .ok (.iload 5, 2) := by decide +kernel
theorem dX1_sheetAt_32 : decode cX1_sheetAt 32 = .ok (.iload 6, 2) := by decide +kernel
theorem dX1_sheetAt_34 : decode cX1_sheetAt 34 = .ok (.if_icmp .le 6, 3) := by decide +kernel
theorem dX1_sheetAt_37 : decode cX1_sheetAt 37 = .ok (.goto 62, 3) := by decide +kernel
theorem dX1_sheetAt_40 : decode cX1_sheetAt 40 = .ok (.iconst 1, 1) := by decide +kernel
theorem dX1_sheetAt_41 : decode cX1_sheetAt 41 = .ok (.aload_n 0, 1) := by decide +kernel
theorem dX1_sheetAt_42 : decode cX1_sheetAt 42 = .ok (.iload_n 1, 1) := by decide +kernel
theorem dX1_sheetAt_43 : decode cX1_sheetAt 43 = .ok (.iload 5, 2) := by decide +kernel
theorem dX1_sheetAt_45 : decode cX1_sheetAt 45 = .ok (.invokevirtual 72, 3) := by decide +kernel
theorem dX1_sheetAt_48 : decode cX1_sheetAt 48 = .ok (.invokestatic 57, 3) := by decide +kernel
theorem dX1_sheetAt_51 : decode cX1_sheetAt 51 = .ok (.istore 7, 2) := by decide +kernel
theorem dX1_sheetAt_53 : decode cX1_sheetAt 53 = .ok (.iload 6, 2) := by decide +kernel
theorem dX1_sheetAt_55 : decode cX1_sheetAt 55 = .ok (.iload 5, 2) := by decide +kernel
theorem dX1_sheetAt_57 : decode cX1_sheetAt 57 = .ok (.isub, 1) := by decide +kernel
theorem dX1_sheetAt_58 : decode cX1_sheetAt 58 = .ok (.iconst 1, 1) := by decide +kernel
theorem dX1_sheetAt_59 : decode cX1_sheetAt 59 = .ok (.iadd, 1) := by decide +kernel
theorem dX1_sheetAt_60 : decode cX1_sheetAt 60 = .ok (.iload 7, 2) := by decide +kernel
theorem dX1_sheetAt_62 : decode cX1_sheetAt 62 = .ok (.imul, 1) := by decide +kernel
theorem dX1_sheetAt_63 : decode cX1_sheetAt 63 = .ok (.istore 8, 2) := by decide +kernel
theorem dX1_sheetAt_65 : decode cX1_sheetAt 65 = .ok (.iload_n 2, 1) := by decide +kernel
theorem dX1_sheetAt_66 : decode cX1_sheetAt 66 = .ok (.iload_n 3, 1) := by decide +kernel
theorem dX1_sheetAt_67 : decode cX1_sheetAt 67 = .ok (.isub, 1) := by decide +kernel
theorem dX1_sheetAt_68 : decode cX1_sheetAt 68 = .ok (.iload 8, 2) := by decide +kernel
theorem dX1_sheetAt_70 : decode cX1_sheetAt 70 = .ok (.if_icmp .ge 24, 3) := by decide +kernel
theorem dX1_sheetAt_73 : decode cX1_sheetAt 73 = .ok (.aload_n 0, 1) := by decide +kernel
theorem dX1_sheetAt_74 : decode cX1_sheetAt 74 = .ok (.iload_n 1, 1) := by decide +kernel
theorem dX1_sheetAt_75 : decode cX1_sheetAt 75 = .ok (.iload 5, 2) := by decide +kernel
theorem dX1_sheetAt_77 : decode cX1_sheetAt 77 = .ok (.iload_n 2, 1) := by decide +kernel
theorem dX1_sheetAt_78 : decode cX1_sheetAt 78 = .ok (.iload_n 3, 1) := by decide +kernel
theorem dX1_sheetAt_79 : decode cX1_sheetAt 79 = .ok (.isub, 1) := by decide +kernel
theorem dX1_sheetAt_80 : decode cX1_sheetAt 80 = .ok (.iload 7, 2) := by decide +kernel
theorem dX1_sheetAt_82 : decode cX1_sheetAt 82 = .ok (.idiv, 1) := by decide +kernel
theorem dX1_sheetAt_83 : decode cX1_sheetAt 83 = .ok (.iadd, 1) := by decide +kernel
theorem dX1_sheetAt_84 : decode cX1_sheetAt 84 = .ok (.iload_n 2, 1) := by decide +kernel
theorem dX1_sheetAt_85 : decode cX1_sheetAt 85 = .ok (.iload_n 3, 1) := by decide +kernel
theorem dX1_sheetAt_86 : decode cX1_sheetAt 86 = .ok (.isub, 1) := by decide +kernel
theorem dX1_sheetAt_87 : decode cX1_sheetAt 87 = .ok (.iload 7, 2) := by decide +kernel
theorem dX1_sheetAt_89 : decode cX1_sheetAt 89 = .ok (.irem, 1) := by decide +kernel
theorem dX1_sheetAt_90 : decode cX1_sheetAt 90 = .ok (.invokevirtual 75, 3) := by decide +kernel
theorem dX1_sheetAt_93 : decode cX1_sheetAt 93 = .ok (.ireturn, 1) := by decide +kernel
theorem dX1_sheetAt_94 : decode cX1_sheetAt 94 = .ok (.iload_n 3, 1) := by decide +kernel
theorem dX1_sheetAt_95 : decode cX1_sheetAt 95 = .ok (.iload 8, 2) := by decide +kernel
theorem dX1_sheetAt_97 : decode cX1_sheetAt 97 = .ok (.iadd, 1) := by decide +kernel
theorem dX1_sheetAt_98 : decode cX1_sheetAt 98 = .ok (.istore_n 3, 1) := by decide +kernel
theorem dX1_sheetAt_99 : decode cX1_sheetAt 99 = .ok (.iinc 4 1, 3) := by decide +kernel
theorem dX1_sheetAt_102 : decode cX1_sheetAt 102 = .ok (.goto (-97), 3) := by decide +kernel
theorem dX1_sheetAt_105 : decode cX1_sheetAt 105 = .ok (.iconst (-1), 1) := by decide +kernel
theorem dX1_sheetAt_106 : decode cX1_sheetAt 106 = .ok (.ireturn, 1) := by decide +kernel
theorem gX1_coverAt_X1_bottomRow : GoodIn wsX1_coverAt (wsV RX1 63 RX1 yX1_bottomRow wsX1_bottomRow) := gw_c t_w34 (gw_c t_w33 (gw_c t_w32 (gw_c t_w27 (gw_c t_w31 (gw_t)))))
theorem gX1_coverAt_X1_topRow : GoodIn wsX1_coverAt (wsV RX1 53 RX1 yX1_topRow wsX1_topRow) := gw_c t_w30 (gw_c t_w29 (gw_c t_w28 (gw_c t_w27 (gw_c t_w26 (gw_t)))))
theorem gX1_coverAt_X1_inRow : GoodIn wsX1_coverAt (wsV RX1 72 RX1 yX1_inRow wsX1_inRow) := gw_c t_w46 (gw_c t_w45 (gw_c t_w44 (gw_c t_w27 (gw_c t_w43 (gw_t)))))
theorem gX1_coverAt_X1_placeByKeys : GoodIn wsX1_coverAt (wsV RX1 78 RX1 yX1_placeByKeys wsX1_placeByKeys) := gw_c t_w54 (gw_c t_w53 (gw_c t_w52 (gw_c t_w27 (gw_c t_w51 (gw_t)))))
theorem gX1_coverAt_X1_isCover : GoodIn wsX1_coverAt (wsV RX1 81 RX1 yX1_isCover wsX1_isCover) := gw_c t_w58 (gw_c t_w57 (gw_c t_w56 (gw_c t_w27 (gw_c t_w55 (gw_t)))))
theorem dX1_coverAt_0 : decode cX1_coverAt 0 = .ok (.iconst 0, 1) := by decide +kernel
theorem dX1_coverAt_1 : decode cX1_coverAt 1 = .ok (.istore_n 3, 1) := by decide +kernel
theorem dX1_coverAt_2 : decode cX1_coverAt 2 = .ok (.aload_n 0, 1) := by decide +kernel
theorem dX1_coverAt_3 : decode cX1_coverAt 3 = .ok (.iload_n 1, 1) := by decide +kernel
theorem dX1_coverAt_4 : decode cX1_coverAt 4 = .ok (.invokevirtual 63, 3) := by decide +kernel
theorem dX1_coverAt_7 : decode cX1_coverAt 7 = .ok (.istore 4, 2) := by decide +kernel
theorem dX1_coverAt_9 : decode cX1_coverAt 9 = .ok (.aload_n 0, 1) := by decide +kernel
theorem dX1_coverAt_10 : decode cX1_coverAt 10 = .ok (.iload_n 1, 1) := by decide +kernel
theorem dX1_coverAt_11 : decode cX1_coverAt 11 = .ok (.invokevirtual 53, 3) := by decide +kernel
theorem dX1_coverAt_14 : decode cX1_coverAt 14 = .ok (.istore 5, 2) := by decide +kernel
theorem dX1_coverAt_16 : decode cX1_coverAt 16 = .ok (.iload 5, 2) := by decide +kernel
theorem dX1_coverAt_18 : decode cX1_coverAt 18 = .ok (.iload 4, 2) := by decide +kernel
theorem dX1_coverAt_20 : decode cX1_coverAt 20 = .ok (.if_icmp .gt 57, 3) := by decide +kernel
theorem dX1_coverAt_23 : decode cX1_coverAt 23 = .ok (.aload_n 0, 1) := by decide +kernel
theorem dX1_coverAt_24 : decode cX1_coverAt 24 = .ok (.iload_n 1, 1) := by decide +kernel
theorem dX1_coverAt_25 : decode cX1_coverAt 25 = .ok (.iload 5, 2) := by decide +kernel
theorem dX1_coverAt_27 : decode cX1_coverAt 27 = .ok (.invokevirtual 72, 3) := by decide +kernel
theorem dX1_coverAt_30 : decode cX1_coverAt 30 = .ok (.istore 6, 2) := by decide +kernel
theorem dX1_coverAt_32 : decode cX1_coverAt 32 = .ok (.iconst 0, 1) := by decide +kernel
theorem dX1_coverAt_33 : decode cX1_coverAt 33 = .ok (.istore 7, 2) := by decide +kernel
theorem dX1_coverAt_35 : decode cX1_coverAt 35 = .ok (.iload 7, 2) := by decide +kernel
theorem dX1_coverAt_37 : decode cX1_coverAt 37 = .ok (.iload 6, 2) := by decide +kernel
theorem dX1_coverAt_39 : decode cX1_coverAt 39 = .ok (.if_icmp .ge 32, 3) := by decide +kernel
theorem dX1_coverAt_42 : decode cX1_coverAt 42 = .ok (.aload_n 0, 1) := by decide +kernel
theorem dX1_coverAt_43 : decode cX1_coverAt 43 = .ok (.iload_n 1, 1) := by decide +kernel
theorem dX1_coverAt_44 : decode cX1_coverAt 44 = .ok (.iload 5, 2) := by decide +kernel
theorem dX1_coverAt_46 : decode cX1_coverAt 46 = .ok (.aload_n 0, 1) := by decide +kernel
theorem dX1_coverAt_47 : decode cX1_coverAt 47 = .ok (.iload_n 1, 1) := by decide +kernel
theorem dX1_coverAt_48 : decode cX1_coverAt 48 = .ok (.iload 5, 2) := by decide +kernel
theorem dX1_coverAt_50 : decode cX1_coverAt 50 = .ok (.iload 7, 2) := by decide +kernel
theorem dX1_coverAt_52 : decode cX1_coverAt 52 = .ok (.invokevirtual 78, 3) := by decide +kernel
theorem dX1_coverAt_55 : decode cX1_coverAt 55 = .ok (.iload_n 2, 1) := by decide +kernel
theorem dX1_coverAt_56 : decode cX1_coverAt 56 = .ok (.invokevirtual 81, 3) := by decide +kernel
theorem dX1_coverAt_59 : decode cX1_coverAt 59 = .ok (.ifCond .eq 6, 3) := by decide +kernel
theorem dX1_coverAt_62 : decode cX1_coverAt 62 = .ok (.iinc 3 1, 3) := by decide +kernel
theorem dX1_coverAt_65 : decode cX1_coverAt 65 = .ok (.iinc 7 1, 3) := by decide +kernel
theorem dX1_coverAt_68 : decode cX1_coverAt 68 = .ok (.goto (-33), 3) := by decide +kernel
theorem dX1_coverAt_71 : decode cX1_coverAt 71 = .ok (.iinc 5 1, 3) := by decide +kernel
theorem dX1_coverAt_74 : decode cX1_coverAt 74 = .ok (.goto (-58), 3) := by decide +kernel
theorem dX1_coverAt_77 : decode cX1_coverAt 77 = .ok (.iload_n 3, 1) := by decide +kernel
theorem dX1_coverAt_78 : decode cX1_coverAt 78 = .ok (.ireturn, 1) := by decide +kernel
theorem gX1_coverSheet_X1_bottomRow : GoodIn wsX1_coverSheet (wsV RX1 63 RX1 yX1_bottomRow wsX1_bottomRow) := gw_c t_w34 (gw_c t_w33 (gw_c t_w32 (gw_c t_w27 (gw_c t_w31 (gw_t)))))
theorem gX1_coverSheet_X1_topRow : GoodIn wsX1_coverSheet (wsV RX1 53 RX1 yX1_topRow wsX1_topRow) := gw_c t_w30 (gw_c t_w29 (gw_c t_w28 (gw_c t_w27 (gw_c t_w26 (gw_t)))))
theorem gX1_coverSheet_X1_inRow : GoodIn wsX1_coverSheet (wsV RX1 72 RX1 yX1_inRow wsX1_inRow) := gw_c t_w46 (gw_c t_w45 (gw_c t_w44 (gw_c t_w27 (gw_c t_w43 (gw_t)))))
theorem gX1_coverSheet_X1_placeByKeys : GoodIn wsX1_coverSheet (wsV RX1 78 RX1 yX1_placeByKeys wsX1_placeByKeys) := gw_c t_w54 (gw_c t_w53 (gw_c t_w52 (gw_c t_w27 (gw_c t_w51 (gw_t)))))
theorem gX1_coverSheet_X1_isCover : GoodIn wsX1_coverSheet (wsV RX1 81 RX1 yX1_isCover wsX1_isCover) := gw_c t_w58 (gw_c t_w57 (gw_c t_w56 (gw_c t_w27 (gw_c t_w55 (gw_t)))))
theorem gX1_coverSheet_X2_rowStart : GoodIn wsX1_coverSheet (wsV RX1 46 RX2 yX2_rowStart wsX2_rowStart) := gw_c t_w25 (gw_c t_w24 (gw_c t_w23 (gw_c t_w1 (gw_c t_w22 (gw_t)))))
theorem dX1_coverSheet_0 : decode cX1_coverSheet 0 = .ok (.iconst 0, 1) := by decide +kernel
theorem dX1_coverSheet_1 : decode cX1_coverSheet 1 = .ok (.istore 4, 2) := by decide +kernel
theorem dX1_coverSheet_3 : decode cX1_coverSheet 3 = .ok (.aload_n 0, 1) := by decide +kernel
theorem dX1_coverSheet_4 : decode cX1_coverSheet 4 = .ok (.iload_n 1, 1) := by decide +kernel
theorem dX1_coverSheet_5 : decode cX1_coverSheet 5 = .ok (.invokevirtual 63, 3) := by decide +kernel
theorem dX1_coverSheet_8 : decode cX1_coverSheet 8 = .ok (.istore 5, 2) := by decide +kernel
theorem dX1_coverSheet_10 : decode cX1_coverSheet 10 = .ok (.aload_n 0, 1) := by decide +kernel
theorem dX1_coverSheet_11 : decode cX1_coverSheet 11 = .ok (.iload_n 1, 1) := by decide +kernel
theorem dX1_coverSheet_12 : decode cX1_coverSheet 12 = .ok (.invokevirtual 53, 3) := by decide +kernel
theorem dX1_coverSheet_15 : decode cX1_coverSheet 15 = .ok (.istore 6, 2) := by decide +kernel
theorem dX1_coverSheet_17 : decode cX1_coverSheet 17 = .ok (.iload 6, 2) := by decide +kernel
theorem dX1_coverSheet_19 : decode cX1_coverSheet 19 = .ok (.iload 5, 2) := by decide +kernel
theorem dX1_coverSheet_21 : decode cX1_coverSheet 21 = .ok (.if_icmp .gt 84, 3) := by decide +kernel
theorem dX1_coverSheet_24 : decode cX1_coverSheet 24 = .ok (.aload_n 0, 1) := by decide +kernel
theorem dX1_coverSheet_25 : decode cX1_coverSheet 25 = .ok (.iload_n 1, 1) := by decide +kernel
theorem dX1_coverSheet_26 : decode cX1_coverSheet 26 = .ok (.iload 6, 2) := by decide +kernel
theorem dX1_coverSheet_28 : decode cX1_coverSheet 28 = .ok (.invokevirtual 72, 3) := by decide +kernel
theorem dX1_coverSheet_31 : decode cX1_coverSheet 31 = .ok (.istore 7, 2) := by decide +kernel
theorem dX1_coverSheet_33 : decode cX1_coverSheet 33 = .ok (.iconst 0, 1) := by decide +kernel
theorem dX1_coverSheet_34 : decode cX1_coverSheet 34 = .ok (.istore 8, 2) := by decide +kernel
theorem dX1_coverSheet_36 : decode cX1_coverSheet 36 = .ok (.iload 8, 2) := by decide +kernel
theorem dX1_coverSheet_38 : decode cX1_coverSheet 38 = .ok (.iload 7, 2) := by decide +kernel
theorem dX1_coverSheet_40 : decode cX1_coverSheet 40 = .ok (.if_icmp .ge 59, 3) := by decide +kernel
theorem dX1_coverSheet_43 : decode cX1_coverSheet 43 = .ok (.aload_n 0, 1) := by decide +kernel
theorem dX1_coverSheet_44 : decode cX1_coverSheet 44 = .ok (.iload_n 1, 1) := by decide +kernel
theorem dX1_coverSheet_45 : decode cX1_coverSheet 45 = .ok (.iload 6, 2) := by decide +kernel
theorem dX1_coverSheet_47 : decode cX1_coverSheet 47 = .ok (.iload 8, 2) := by decide +kernel
theorem dX1_coverSheet_49 : decode cX1_coverSheet 49 = .ok (.invokevirtual 78, 3) := by decide +kernel
theorem dX1_coverSheet_52 : decode cX1_coverSheet 52 = .ok (.istore 9, 2) := by decide +kernel
theorem dX1_coverSheet_54 : decode cX1_coverSheet 54 = .ok (.aload_n 0, 1) := by decide +kernel
theorem dX1_coverSheet_55 : decode cX1_coverSheet 55 = .ok (.iload_n 1, 1) := by decide +kernel
theorem dX1_coverSheet_56 : decode cX1_coverSheet 56 = .ok (.iload 6, 2) := by decide +kernel
theorem dX1_coverSheet_58 : decode cX1_coverSheet 58 = .ok (.iload 9, 2) := by decide +kernel
theorem dX1_coverSheet_60 : decode cX1_coverSheet 60 = .ok (.iload_n 2, 1) := by decide +kernel
theorem dX1_coverSheet_61 : decode cX1_coverSheet 61 = .ok (.invokevirtual 81, 3) := by decide +kernel
theorem dX1_coverSheet_64 : decode cX1_coverSheet 64 = .ok (.ifCond .ne 6, 3) := by decide +kernel
theorem dX1_coverSheet_67 : decode cX1_coverSheet 67 = .ok (.goto 26, 3) := by decide +kernel
theorem dX1_coverSheet_70 : decode cX1_coverSheet 70 = .ok (.iload 4, 2) := by decide +kernel
theorem dX1_coverSheet_72 : decode cX1_coverSheet 72 = .ok (.iload_n 3, 1) := by decide +kernel
theorem dX1_coverSheet_73 : decode cX1_coverSheet 73 = .ok (.if_icmp .ne 17, 3) := by decide +kernel
theorem dX1_coverSheet_76 : decode cX1_coverSheet 76 = .ok (.aload_n 0, 1) := by decide +kernel
theorem dX1_coverSheet_77 : decode cX1_coverSheet 77 = .ok (.getfield 24, 3) := by decide +kernel
theorem dX1_coverSheet_80 : decode cX1_coverSheet 80 = .ok (.iload_n 1, 1) := by decide +kernel
theorem dX1_coverSheet_81 : decode cX1_coverSheet 81 = .ok (.iload 6, 2) := by decide +kernel
theorem dX1_coverSheet_83 : decode cX1_coverSheet 83 = .ok (.invokevirtual 46, 3) := by decide +kernel
theorem dX1_coverSheet_86 : decode cX1_coverSheet 86 = .ok (.iload 9, 2) := by decide +kernel
theorem dX1_coverSheet_88 : decode cX1_coverSheet 88 = .ok (.iadd, 1) := by decide +kernel
theorem dX1_coverSheet_89 : decode cX1_coverSheet 89 = .ok (.ireturn, 1) := by decide +kernel
theorem dX1_coverSheet_90 : decode cX1_coverSheet 90 = .ok (.iinc 4 1, 3) := by decide +kernel
theorem dX1_coverSheet_93 : decode cX1_coverSheet 93 = .ok (.iinc 8 1, 3) := by decide +kernel
theorem dX1_coverSheet_96 : decode cX1_coverSheet 96 = .ok (.goto (-60), 3) := by decide +kernel
theorem dX1_coverSheet_99 : decode cX1_coverSheet 99 = .ok (.iinc 6 1, 3) := by decide +kernel
theorem dX1_coverSheet_102 : decode cX1_coverSheet 102 = .ok (.goto (-85), 3) := by decide +kernel
theorem dX1_coverSheet_105 : decode cX1_coverSheet 105 = .ok (.iconst (-1), 1) := by decide +kernel
theorem dX1_coverSheet_106 : decode cX1_coverSheet 106 = .ok (.ireturn, 1) := by decide +kernel
theorem gX1_placeByKeys_X2_rowLength : GoodIn wsX1_placeByKeys (wsV RX1 38 RX2 yX2_rowLength wsX2_rowLength) := gw_c t_w21 (gw_c t_w20 (gw_c t_w19 (gw_c t_w1 (gw_c t_w18 (gw_t)))))
theorem gX1_placeByKeys_X1_inRow : GoodIn wsX1_placeByKeys (wsV RX1 72 RX1 yX1_inRow wsX1_inRow) := gw_c t_w46 (gw_c t_w45 (gw_c t_w44 (gw_c t_w27 (gw_c t_w43 (gw_t)))))
theorem gX1_placeByKeys_X2_placeOfLon : GoodIn wsX1_placeByKeys (wsV RX1 34 RX2 yX2_placeOfLon wsX2_placeOfLon) := gw_c t_w17 (gw_c t_w16 (gw_c t_w15 (gw_c t_w1 (gw_c t_w14 (gw_t)))))
theorem dX1_placeByKeys_0 : decode cX1_placeByKeys 0 = .ok (.aload_n 0, 1) := by decide +kernel
theorem dX1_placeByKeys_1 : decode cX1_placeByKeys 1 = .ok (.getfield 24, 3) := by decide +kernel
theorem dX1_placeByKeys_4 : decode cX1_placeByKeys 4 = .ok (.iload_n 1, 1) := by decide +kernel
theorem dX1_placeByKeys_5 : decode cX1_placeByKeys 5 = .ok (.iload_n 2, 1) := by decide +kernel
theorem dX1_placeByKeys_6 : decode cX1_placeByKeys 6 = .ok (.invokevirtual 38, 3) := by decide +kernel
theorem dX1_placeByKeys_9 : decode cX1_placeByKeys 9 = .ok (.istore 4, 2) := by decide +kernel
theorem dX1_placeByKeys_11 : decode cX1_placeByKeys 11 = .ok (.aload_n 0, 1) := by decide +kernel
theorem dX1_placeByKeys_12 : decode cX1_placeByKeys 12 = .ok (.iload_n 1, 1) := by decide +kernel
theorem dX1_placeByKeys_13 : decode cX1_placeByKeys 13 = .ok (.iload_n 2, 1) := by decide +kernel
theorem dX1_placeByKeys_14 : decode cX1_placeByKeys 14 = .ok (.invokevirtual 72, 3) := by decide +kernel
theorem dX1_placeByKeys_17 : decode cX1_placeByKeys 17 = .ok (.istore 5, 2) := by decide +kernel
theorem dX1_placeByKeys_19 : decode cX1_placeByKeys 19 = .ok (.iload 5, 2) := by decide +kernel
theorem dX1_placeByKeys_21 : decode cX1_placeByKeys 21 = .ok (.iload 4, 2) := by decide +kernel
theorem dX1_placeByKeys_23 : decode cX1_placeByKeys 23 = .ok (.if_icmp .ne 5, 3) := by decide +kernel
theorem dX1_placeByKeys_26 : decode cX1_placeByKeys 26 = .ok (.iload_n 3, 1) := by decide +kernel
theorem dX1_placeByKeys_27 : decode cX1_placeByKeys 27 = .ok (.ireturn, 1) := by decide +kernel
theorem dX1_placeByKeys_28 : decode cX1_placeByKeys 28 = .ok (.aload_n 0, 1) := by decide +kernel
theorem dX1_placeByKeys_29 : decode cX1_placeByKeys 29 = .ok (.getfield 24, 3) := by decide +kernel
theorem dX1_placeByKeys_32 : decode cX1_placeByKeys 32 = .ok (.iload_n 1, 1) := by decide +kernel
theorem dX1_placeByKeys_33 : decode cX1_placeByKeys 33 = .ok (.iload_n 2, 1) := by decide +kernel
theorem dX1_placeByKeys_34 : decode cX1_placeByKeys 34 = .ok (.aload_n 0, 1) := by decide +kernel
theorem dX1_placeByKeys_35 : decode cX1_placeByKeys 35 = .ok (.getfield 18, 3) := by decide +kernel
theorem dX1_placeByKeys_38 : decode cX1_placeByKeys 38 = .ok (.invokevirtual 34, 3) := by decide +kernel
theorem dX1_placeByKeys_41 : decode cX1_placeByKeys 41 = .ok (.istore 6, 2) := by decide +kernel
theorem dX1_placeByKeys_43 : decode cX1_placeByKeys 43 = .ok (.iconst 0, 1) := by decide +kernel
theorem dX1_placeByKeys_44 : decode cX1_placeByKeys 44 = .ok (.iload 6, 2) := by decide +kernel
theorem dX1_placeByKeys_46 : decode cX1_placeByKeys 46 = .ok (.iload 5, 2) := by decide +kernel
theorem dX1_placeByKeys_48 : decode cX1_placeByKeys 48 = .ok (.iadd, 1) := by decide +kernel
theorem dX1_placeByKeys_49 : decode cX1_placeByKeys 49 = .ok (.iload 4, 2) := by decide +kernel
theorem dX1_placeByKeys_51 : decode cX1_placeByKeys 51 = .ok (.isub, 1) := by decide +kernel
theorem dX1_placeByKeys_52 : decode cX1_placeByKeys 52 = .ok (.invokestatic 57, 3) := by decide +kernel
theorem dX1_placeByKeys_55 : decode cX1_placeByKeys 55 = .ok (.istore 7, 2) := by decide +kernel
theorem dX1_placeByKeys_57 : decode cX1_placeByKeys 57 = .ok (.iload_n 3, 1) := by decide +kernel
theorem dX1_placeByKeys_58 : decode cX1_placeByKeys 58 = .ok (.iload 7, 2) := by decide +kernel
theorem dX1_placeByKeys_60 : decode cX1_placeByKeys 60 = .ok (.if_icmp .ge 7, 3) := by decide +kernel
theorem dX1_placeByKeys_63 : decode cX1_placeByKeys 63 = .ok (.iload_n 3, 1) := by decide +kernel
theorem dX1_placeByKeys_64 : decode cX1_placeByKeys 64 = .ok (.goto 10, 3) := by decide +kernel
theorem dX1_placeByKeys_67 : decode cX1_placeByKeys 67 = .ok (.iload 6, 2) := by decide +kernel
theorem dX1_placeByKeys_69 : decode cX1_placeByKeys 69 = .ok (.iload_n 3, 1) := by decide +kernel
theorem dX1_placeByKeys_70 : decode cX1_placeByKeys 70 = .ok (.iadd, 1) := by decide +kernel
theorem dX1_placeByKeys_71 : decode cX1_placeByKeys 71 = .ok (.iload 7, 2) := by decide +kernel
theorem dX1_placeByKeys_73 : decode cX1_placeByKeys 73 = .ok (.isub, 1) := by decide +kernel
theorem dX1_placeByKeys_74 : decode cX1_placeByKeys 74 = .ok (.ireturn, 1) := by decide +kernel
theorem gX1_isCover_X2_isCapRow : GoodIn wsX1_isCover (wsV RX1 85 RX2 yX2_isCapRow wsX2_isCapRow) := gw_c t_w62 (gw_c t_w61 (gw_c t_w60 (gw_c t_w1 (gw_c t_w59 (gw_t)))))
theorem gX1_isCover_X1_isWhole : GoodIn wsX1_isCover (wsV RX1 89 RX1 yX1_isWhole wsX1_isWhole) := gw_c t_w66 (gw_c t_w65 (gw_c t_w64 (gw_c t_w27 (gw_c t_w63 (gw_t)))))
theorem dX1_isCover_0 : decode cX1_isCover 0 = .ok (.aload_n 0, 1) := by decide +kernel
theorem dX1_isCover_1 : decode cX1_isCover 1 = .ok (.getfield 24, 3) := by decide +kernel
theorem dX1_isCover_4 : decode cX1_isCover 4 = .ok (.iload_n 1, 1) := by decide +kernel
theorem dX1_isCover_5 : decode cX1_isCover 5 = .ok (.iload_n 2, 1) := by decide +kernel
theorem dX1_isCover_6 : decode cX1_isCover 6 = .ok (.invokevirtual 85, 3) := by decide +kernel
theorem dX1_isCover_9 : decode cX1_isCover 9 = .ok (.ifCond .eq 13, 3) := by decide +kernel
theorem dX1_isCover_12 : decode cX1_isCover 12 = .ok (.iload_n 1, 1) := by decide +kernel
theorem dX1_isCover_13 : decode cX1_isCover 13 = .ok (.ifCond .ne 7, 3) := by decide +kernel
theorem dX1_isCover_16 : decode cX1_isCover 16 = .ok (.iconst 1, 1) := by decide +kernel
theorem dX1_isCover_17 : decode cX1_isCover 17 = .ok (.goto 4, 3) := by decide +kernel
theorem dX1_isCover_20 : decode cX1_isCover 20 = .ok (.iconst 0, 1) := by decide +kernel
theorem dX1_isCover_21 : decode cX1_isCover 21 = .ok (.ireturn, 1) := by decide +kernel
theorem dX1_isCover_22 : decode cX1_isCover 22 = .ok (.aload_n 0, 1) := by decide +kernel
theorem dX1_isCover_23 : decode cX1_isCover 23 = .ok (.iload_n 1, 1) := by decide +kernel
theorem dX1_isCover_24 : decode cX1_isCover 24 = .ok (.iload_n 2, 1) := by decide +kernel
theorem dX1_isCover_25 : decode cX1_isCover 25 = .ok (.iload_n 3, 1) := by decide +kernel
theorem dX1_isCover_26 : decode cX1_isCover 26 = .ok (.iload 4, 2) := by decide +kernel
theorem dX1_isCover_28 : decode cX1_isCover 28 = .ok (.invokevirtual 89, 3) := by decide +kernel
theorem dX1_isCover_31 : decode cX1_isCover 31 = .ok (.ifCond .ne 5, 3) := by decide +kernel
theorem dX1_isCover_34 : decode cX1_isCover 34 = .ok (.iconst 0, 1) := by decide +kernel
theorem dX1_isCover_35 : decode cX1_isCover 35 = .ok (.ireturn, 1) := by decide +kernel
theorem dX1_isCover_36 : decode cX1_isCover 36 = .ok (.iload_n 1, 1) := by decide +kernel
theorem dX1_isCover_37 : decode cX1_isCover 37 = .ok (.ifCond .ne 5, 3) := by decide +kernel
theorem dX1_isCover_40 : decode cX1_isCover 40 = .ok (.iconst 1, 1) := by decide +kernel
theorem dX1_isCover_41 : decode cX1_isCover 41 = .ok (.ireturn, 1) := by decide +kernel
theorem dX1_isCover_42 : decode cX1_isCover 42 = .ok (.iload_n 2, 1) := by decide +kernel
theorem dX1_isCover_43 : decode cX1_isCover 43 = .ok (.iconst 1, 1) := by decide +kernel
theorem dX1_isCover_44 : decode cX1_isCover 44 = .ok (.isub, 1) := by decide +kernel
theorem dX1_isCover_45 : decode cX1_isCover 45 = .ok (.aload_n 0, 1) := by decide +kernel
theorem dX1_isCover_46 : decode cX1_isCover 46 = .ok (.getfield 24, 3) := by decide +kernel
theorem dX1_isCover_49 : decode cX1_isCover 49 = .ok (.getfield 92, 3) := by decide +kernel
theorem dX1_isCover_52 : decode cX1_isCover 52 = .ok (.iload_n 1, 1) := by decide +kernel
theorem dX1_isCover_53 : decode cX1_isCover 53 = .ok (.iaload, 1) := by decide +kernel
theorem dX1_isCover_54 : decode cX1_isCover 54 = .ok (.idiv, 1) := by decide +kernel
theorem dX1_isCover_55 : decode cX1_isCover 55 = .ok (.iconst 1, 1) := by decide +kernel
theorem dX1_isCover_56 : decode cX1_isCover 56 = .ok (.iadd, 1) := by decide +kernel
theorem dX1_isCover_57 : decode cX1_isCover 57 = .ok (.istore 5, 2) := by decide +kernel
theorem dX1_isCover_59 : decode cX1_isCover 59 = .ok (.aload_n 0, 1) := by decide +kernel
theorem dX1_isCover_60 : decode cX1_isCover 60 = .ok (.iload_n 1, 1) := by decide +kernel
theorem dX1_isCover_61 : decode cX1_isCover 61 = .ok (.iconst 1, 1) := by decide +kernel
theorem dX1_isCover_62 : decode cX1_isCover 62 = .ok (.isub, 1) := by decide +kernel
theorem dX1_isCover_63 : decode cX1_isCover 63 = .ok (.iload 5, 2) := by decide +kernel
theorem dX1_isCover_65 : decode cX1_isCover 65 = .ok (.iload_n 3, 1) := by decide +kernel
theorem dX1_isCover_66 : decode cX1_isCover 66 = .ok (.aload_n 0, 1) := by decide +kernel
theorem dX1_isCover_67 : decode cX1_isCover 67 = .ok (.getfield 24, 3) := by decide +kernel
theorem dX1_isCover_70 : decode cX1_isCover 70 = .ok (.getfield 95, 3) := by decide +kernel
theorem dX1_isCover_73 : decode cX1_isCover 73 = .ok (.iload_n 1, 1) := by decide +kernel
theorem dX1_isCover_74 : decode cX1_isCover 74 = .ok (.iaload, 1) := by decide +kernel
theorem dX1_isCover_75 : decode cX1_isCover 75 = .ok (.idiv, 1) := by decide +kernel
theorem dX1_isCover_76 : decode cX1_isCover 76 = .ok (.iload 4, 2) := by decide +kernel
theorem dX1_isCover_78 : decode cX1_isCover 78 = .ok (.invokevirtual 89, 3) := by decide +kernel
theorem dX1_isCover_81 : decode cX1_isCover 81 = .ok (.ifCond .ne 7, 3) := by decide +kernel
theorem dX1_isCover_84 : decode cX1_isCover 84 = .ok (.iconst 1, 1) := by decide +kernel
theorem dX1_isCover_85 : decode cX1_isCover 85 = .ok (.goto 4, 3) := by decide +kernel
theorem dX1_isCover_88 : decode cX1_isCover 88 = .ok (.iconst 0, 1) := by decide +kernel
theorem dX1_isCover_89 : decode cX1_isCover 89 = .ok (.ireturn, 1) := by decide +kernel
theorem gX1_isWhole_X2_rowsIn : GoodIn wsX1_isWhole (wsV RX1 98 RX2 yX2_rowsIn wsX2_rowsIn) := gw_c t_w70 (gw_c t_w69 (gw_c t_w68 (gw_c t_w1 (gw_c t_w67 (gw_t)))))
theorem gX1_isWhole_X1_topRow : GoodIn wsX1_isWhole (wsV RX1 53 RX1 yX1_topRow wsX1_topRow) := gw_c t_w30 (gw_c t_w29 (gw_c t_w28 (gw_c t_w27 (gw_c t_w26 (gw_t)))))
theorem gX1_isWhole_X1_bottomRow : GoodIn wsX1_isWhole (wsV RX1 63 RX1 yX1_bottomRow wsX1_bottomRow) := gw_c t_w34 (gw_c t_w33 (gw_c t_w32 (gw_c t_w27 (gw_c t_w31 (gw_t)))))
theorem gX1_isWhole_X1_inRow : GoodIn wsX1_isWhole (wsV RX1 72 RX1 yX1_inRow wsX1_inRow) := gw_c t_w46 (gw_c t_w45 (gw_c t_w44 (gw_c t_w27 (gw_c t_w43 (gw_t)))))
theorem gX1_isWhole_X2_rowLength : GoodIn wsX1_isWhole (wsV RX1 38 RX2 yX2_rowLength wsX2_rowLength) := gw_c t_w21 (gw_c t_w20 (gw_c t_w19 (gw_c t_w1 (gw_c t_w18 (gw_t)))))
theorem gX1_isWhole_X2_columnsIn : GoodIn wsX1_isWhole (wsV RX1 101 RX2 yX2_columnsIn wsX2_columnsIn) := gw_c t_w74 (gw_c t_w73 (gw_c t_w72 (gw_c t_w1 (gw_c t_w71 (gw_t)))))
theorem gX1_isWhole_X2_placeOfLon : GoodIn wsX1_isWhole (wsV RX1 34 RX2 yX2_placeOfLon wsX2_placeOfLon) := gw_c t_w17 (gw_c t_w16 (gw_c t_w15 (gw_c t_w1 (gw_c t_w14 (gw_t)))))
theorem gX1_isWhole_J9_floorMod_7cf53 : GoodIn wsX1_isWhole (va_wsS RX1 104 yJ9_floorMod_7cf53 wsJ9_floorMod_7cf53) := gw_c t_w78 (gw_c t_w77 (gw_c t_w76 (gw_c t_w75 (gw_t))))
theorem dX1_isWhole_0 : decode cX1_isWhole 0 = .ok (.aload_n 0, 1) := by decide +kernel
theorem dX1_isWhole_1 : decode cX1_isWhole 1 = .ok (.getfield 24, 3) := by decide +kernel
theorem dX1_isWhole_4 : decode cX1_isWhole 4 = .ok (.iload_n 1, 1) := by decide +kernel
theorem dX1_isWhole_5 : decode cX1_isWhole 5 = .ok (.iload 4, 2) := by decide +kernel
theorem dX1_isWhole_7 : decode cX1_isWhole 7 = .ok (.invokevirtual 98, 3) := by decide +kernel
theorem dX1_isWhole_10 : decode cX1_isWhole 10 = .ok (.istore 5, 2) := by decide +kernel
theorem dX1_isWhole_12 : decode cX1_isWhole 12 = .ok (.iload_n 2, 1) := by decide +kernel
theorem dX1_isWhole_13 : decode cX1_isWhole 13 = .ok (.iconst 1, 1) := by decide +kernel
theorem dX1_isWhole_14 : decode cX1_isWhole 14 = .ok (.isub, 1) := by decide +kernel
theorem dX1_isWhole_15 : decode cX1_isWhole 15 = .ok (.iload 5, 2) := by decide +kernel
theorem dX1_isWhole_17 : decode cX1_isWhole 17 = .ok (.imul, 1) := by decide +kernel
theorem dX1_isWhole_18 : decode cX1_isWhole 18 = .ok (.iconst 1, 1) := by decide +kernel
theorem dX1_isWhole_19 : decode cX1_isWhole 19 = .ok (.iadd, 1) := by decide +kernel
theorem dX1_isWhole_20 : decode cX1_isWhole 20 = .ok (.istore 6, 2) := by decide +kernel
theorem dX1_isWhole_22 : decode cX1_isWhole 22 = .ok (.iload 6, 2) := by decide +kernel
theorem dX1_isWhole_24 : decode cX1_isWhole 24 = .ok (.aload_n 0, 1) := by decide +kernel
theorem dX1_isWhole_25 : decode cX1_isWhole 25 = .ok (.iload 4, 2) := by decide +kernel
theorem dX1_isWhole_27 : decode cX1_isWhole 27 = .ok (.invokevirtual 53, 3) := by decide +kernel
theorem dX1_isWhole_30 : decode cX1_isWhole 30 = .ok (.if_icmp .lt 19, 3) := by decide +kernel
theorem dX1_isWhole_33 : decode cX1_isWhole 33 = .ok (.iload 6, 2) := by decide +kernel
theorem dX1_isWhole_35 : decode cX1_isWhole 35 = .ok (.iload 5, 2) := by decide +kernel
theorem dX1_isWhole_37 : decode cX1_isWhole 37 = .ok (.iadd, 1) := by decide +kernel
theorem dX1_isWhole_38 : decode cX1_isWhole 38 = .ok (.iconst 1, 1) := by decide +kernel
theorem dX1_isWhole_39 : decode cX1_isWhole 39 = .ok (.isub, 1) := by decide +kernel
theorem dX1_isWhole_40 : decode cX1_isWhole 40 = .ok (.aload_n 0, 1) := by decide +kernel
theorem dX1_isWhole_41 : decode cX1_isWhole 41 = .ok (.iload 4, 2) := by decide +kernel
theorem dX1_isWhole_43 : decode cX1_isWhole 43 = .ok (.invokevirtual 63, 3) := by decide +kernel
theorem dX1_isWhole_46 : decode cX1_isWhole 46 = .ok (.if_icmp .le 5, 3) := by decide +kernel
theorem dX1_isWhole_49 : decode cX1_isWhole 49 = .ok (.iconst 0, 1) := by decide +kernel
theorem dX1_isWhole_50 : decode cX1_isWhole 50 = .ok (.ireturn, 1) := by decide +kernel
theorem dX1_isWhole_51 : decode cX1_isWhole 51 = .ok (.aload_n 0, 1) := by decide +kernel
theorem dX1_isWhole_52 : decode cX1_isWhole 52 = .ok (.iload 4, 2) := by decide +kernel
theorem dX1_isWhole_54 : decode cX1_isWhole 54 = .ok (.iload 6, 2) := by decide +kernel
theorem dX1_isWhole_56 : decode cX1_isWhole 56 = .ok (.invokevirtual 72, 3) := by decide +kernel
theorem dX1_isWhole_59 : decode cX1_isWhole 59 = .ok (.istore 7, 2) := by decide +kernel
theorem dX1_isWhole_61 : decode cX1_isWhole 61 = .ok (.aload_n 0, 1) := by decide +kernel
theorem dX1_isWhole_62 : decode cX1_isWhole 62 = .ok (.getfield 24, 3) := by decide +kernel
theorem dX1_isWhole_65 : decode cX1_isWhole 65 = .ok (.iload 4, 2) := by decide +kernel
theorem dX1_isWhole_67 : decode cX1_isWhole 67 = .ok (.iload 6, 2) := by decide +kernel
theorem dX1_isWhole_69 : decode cX1_isWhole 69 = .ok (.invokevirtual 38, 3) := by decide +kernel
theorem dX1_isWhole_72 : decode cX1_isWhole 72 = .ok (.istore 8, 2) := by decide +kernel
theorem dX1_isWhole_74 : decode cX1_isWhole 74 = .ok (.iload 7, 2) := by decide +kernel
theorem dX1_isWhole_76 : decode cX1_isWhole 76 = .ok (.iload 8, 2) := by decide +kernel
theorem dX1_isWhole_78 : decode cX1_isWhole 78 = .ok (.if_icmp .ne 5, 3) := by decide +kernel
theorem dX1_isWhole_81 : decode cX1_isWhole 81 = .ok (.iconst 1, 1) := by decide +kernel
theorem dX1_isWhole_82 : decode cX1_isWhole 82 = .ok (.ireturn, 1) := by decide +kernel
theorem dX1_isWhole_83 : decode cX1_isWhole 83 = .ok (.aload_n 0, 1) := by decide +kernel
theorem dX1_isWhole_84 : decode cX1_isWhole 84 = .ok (.getfield 24, 3) := by decide +kernel
theorem dX1_isWhole_87 : decode cX1_isWhole 87 = .ok (.iload_n 1, 1) := by decide +kernel
theorem dX1_isWhole_88 : decode cX1_isWhole 88 = .ok (.iload 4, 2) := by decide +kernel
theorem dX1_isWhole_90 : decode cX1_isWhole 90 = .ok (.invokevirtual 101, 3) := by decide +kernel
theorem dX1_isWhole_93 : decode cX1_isWhole 93 = .ok (.istore 9, 2) := by decide +kernel
theorem dX1_isWhole_95 : decode cX1_isWhole 95 = .ok (.aload_n 0, 1) := by decide +kernel
theorem dX1_isWhole_96 : decode cX1_isWhole 96 = .ok (.getfield 24, 3) := by decide +kernel
theorem dX1_isWhole_99 : decode cX1_isWhole 99 = .ok (.iload 4, 2) := by decide +kernel
theorem dX1_isWhole_101 : decode cX1_isWhole 101 = .ok (.iload 6, 2) := by decide +kernel
theorem dX1_isWhole_103 : decode cX1_isWhole 103 = .ok (.aload_n 0, 1) := by decide +kernel
theorem dX1_isWhole_104 : decode cX1_isWhole 104 = .ok (.getfield 18, 3) := by decide +kernel
theorem dX1_isWhole_107 : decode cX1_isWhole 107 = .ok (.invokevirtual 34, 3) := by decide +kernel
theorem dX1_isWhole_110 : decode cX1_isWhole 110 = .ok (.istore 10, 2) := by decide +kernel
theorem dX1_isWhole_112 : decode cX1_isWhole 112 = .ok (.iload_n 3, 1) := by decide +kernel
theorem dX1_isWhole_113 : decode cX1_isWhole 113 = .ok (.iload 9, 2) := by decide +kernel
theorem dX1_isWhole_115 : decode cX1_isWhole 115 = .ok (.imul, 1) := by decide +kernel
theorem dX1_isWhole_116 : decode cX1_isWhole 116 = .ok (.iload 10, 2) := by decide +kernel
theorem dX1_isWhole_118 : decode cX1_isWhole 118 = .ok (.isub, 1) := by decide +kernel
theorem dX1_isWhole_119 : decode cX1_isWhole 119 = .ok (.iload 8, 2) := by decide +kernel
theorem dX1_isWhole_121 : decode cX1_isWhole 121 = .ok (.invokestatic 104, 3) := by decide +kernel
theorem dX1_isWhole_124 : decode cX1_isWhole 124 = .ok (.iload 9, 2) := by decide +kernel
theorem dX1_isWhole_126 : decode cX1_isWhole 126 = .ok (.iadd, 1) := by decide +kernel
theorem dX1_isWhole_127 : decode cX1_isWhole 127 = .ok (.iload 7, 2) := by decide +kernel
theorem dX1_isWhole_129 : decode cX1_isWhole 129 = .ok (.if_icmp .gt 7, 3) := by decide +kernel
theorem dX1_isWhole_132 : decode cX1_isWhole 132 = .ok (.iconst 1, 1) := by decide +kernel
theorem dX1_isWhole_133 : decode cX1_isWhole 133 = .ok (.goto 4, 3) := by decide +kernel
theorem dX1_isWhole_136 : decode cX1_isWhole 136 = .ok (.iconst 0, 1) := by decide +kernel
theorem dX1_isWhole_137 : decode cX1_isWhole 137 = .ok (.ireturn, 1) := by decide +kernel
theorem gX2_init_X2_multiply : GoodIn wsX2_init (wsV RX2 30 RX2 yX2_multiply wsX2_multiply) := gw_c t_w82 (gw_c t_w81 (gw_c t_w80 (gw_c t_w1 (gw_c t_w79 (gw_t)))))
theorem dX2_init_0 : decode cX2_init 0 = .ok (.aload_n 0, 1) := by decide +kernel
theorem dX2_init_1 : decode cX2_init 1 = .ok (.invokespecial 3, 3) := by decide +kernel
theorem dX2_init_4 : decode cX2_init 4 = .ok (.aload_n 0, 1) := by decide +kernel
theorem dX2_init_5 : decode cX2_init 5 = .ok (.iconst 5, 1) := by decide +kernel
theorem dX2_init_6 : decode cX2_init 6 = .ok (.newarray .int, 2) := by decide +kernel
theorem dX2_init_8 : decode cX2_init 8 = .ok (.dup, 1) := by decide +kernel
theorem dX2_init_9 : decode cX2_init 9 = .ok (.iconst 0, 1) := by decide +kernel
theorem dX2_init_10 : decode cX2_init 10 = .ok (.iconst 1, 1) := by decide +kernel
theorem dX2_init_11 : decode cX2_init 11 = .ok (.iastore, 1) := by decide +kernel
theorem dX2_init_12 : decode cX2_init 12 = .ok (.dup, 1) := by decide +kernel
theorem dX2_init_13 : decode cX2_init 13 = .ok (.iconst 1, 1) := by decide +kernel
theorem dX2_init_14 : decode cX2_init 14 = .ok (.iconst 2, 1) := by decide +kernel
theorem dX2_init_15 : decode cX2_init 15 = .ok (.iastore, 1) := by decide +kernel
theorem dX2_init_16 : decode cX2_init 16 = .ok (.dup, 1) := by decide +kernel
theorem dX2_init_17 : decode cX2_init 17 = .ok (.iconst 2, 1) := by decide +kernel
theorem dX2_init_18 : decode cX2_init 18 = .ok (.iconst 2, 1) := by decide +kernel
theorem dX2_init_19 : decode cX2_init 19 = .ok (.iastore, 1) := by decide +kernel
theorem dX2_init_20 : decode cX2_init 20 = .ok (.dup, 1) := by decide +kernel
theorem dX2_init_21 : decode cX2_init 21 = .ok (.iconst 3, 1) := by decide +kernel
theorem dX2_init_22 : decode cX2_init 22 = .ok (.iconst 2, 1) := by decide +kernel
theorem dX2_init_23 : decode cX2_init 23 = .ok (.iastore, 1) := by decide +kernel
theorem dX2_init_24 : decode cX2_init 24 = .ok (.dup, 1) := by decide +kernel
theorem dX2_init_25 : decode cX2_init 25 = .ok (.iconst 4, 1) := by decide +kernel
theorem dX2_init_26 : decode cX2_init 26 = .ok (.iconst 2, 1) := by decide +kernel
theorem dX2_init_27 : decode cX2_init 27 = .ok (.iastore, 1) := by decide +kernel
theorem dX2_init_28 : decode cX2_init 28 = .ok (.putfield 9, 3) := by decide +kernel
theorem dX2_init_31 : decode cX2_init 31 = .ok (.aload_n 0, 1) := by decide +kernel
theorem dX2_init_32 : decode cX2_init 32 = .ok (.iconst 5, 1) := by decide +kernel
theorem dX2_init_33 : decode cX2_init 33 = .ok (.newarray .int, 2) := by decide +kernel
theorem dX2_init_35 : decode cX2_init 35 = .ok (.dup, 1) := by decide +kernel
theorem dX2_init_36 : decode cX2_init 36 = .ok (.iconst 0, 1) := by decide +kernel
theorem dX2_init_37 : decode cX2_init 37 = .ok (.iconst 1, 1) := by decide +kernel
theorem dX2_init_38 : decode cX2_init 38 = .ok (.iastore, 1) := by decide +kernel
theorem dX2_init_39 : decode cX2_init 39 = .ok (.dup, 1) := by decide +kernel
theorem dX2_init_40 : decode cX2_init 40 = .ok (.iconst 1, 1) := by decide +kernel
theorem dX2_init_41 : decode cX2_init 41 = .ok (.iconst 2, 1) := by decide +kernel
theorem dX2_init_42 : decode cX2_init 42 = .ok (.iastore, 1) := by decide +kernel
theorem dX2_init_43 : decode cX2_init 43 = .ok (.dup, 1) := by decide +kernel
theorem dX2_init_44 : decode cX2_init 44 = .ok (.iconst 2, 1) := by decide +kernel
theorem dX2_init_45 : decode cX2_init 45 = .ok (.iconst 2, 1) := by decide +kernel
theorem dX2_init_46 : decode cX2_init 46 = .ok (.iastore, 1) := by decide +kernel
theorem dX2_init_47 : decode cX2_init 47 = .ok (.dup, 1) := by decide +kernel
theorem dX2_init_48 : decode cX2_init 48 = .ok (.iconst 3, 1) := by decide +kernel
theorem dX2_init_49 : decode cX2_init 49 = .ok (.iconst 2, 1) := by decide +kernel
theorem dX2_init_50 : decode cX2_init 50 = .ok (.iastore, 1) := by decide +kernel
theorem dX2_init_51 : decode cX2_init 51 = .ok (.dup, 1) := by decide +kernel
theorem dX2_init_52 : decode cX2_init 52 = .ok (.iconst 4, 1) := by decide +kernel
theorem dX2_init_53 : decode cX2_init 53 = .ok (.iconst 2, 1) := by decide +kernel
theorem dX2_init_54 : decode cX2_init 54 = .ok (.iastore, 1) := by decide +kernel
theorem dX2_init_55 : decode cX2_init 55 = .ok (.putfield 15, 3) := by decide +kernel
theorem dX2_init_58 : decode cX2_init 58 = .ok (.aload_n 0, 1) := by decide +kernel
theorem dX2_init_59 : decode cX2_init 59 = .ok (.iconst 5, 1) := by decide +kernel
theorem dX2_init_60 : decode cX2_init 60 = .ok (.newarray .int, 2) := by decide +kernel
theorem dX2_init_62 : decode cX2_init 62 = .ok (.putfield 18, 3) := by decide +kernel
theorem dX2_init_65 : decode cX2_init 65 = .ok (.aload_n 0, 1) := by decide +kernel
theorem dX2_init_66 : decode cX2_init 66 = .ok (.iconst 5, 1) := by decide +kernel
theorem dX2_init_67 : decode cX2_init 67 = .ok (.newarray .int, 2) := by decide +kernel
theorem dX2_init_69 : decode cX2_init 69 = .ok (.putfield 21, 3) := by decide +kernel
theorem dX2_init_72 : decode cX2_init 72 = .ok (.aload_n 0, 1) := by decide +kernel
theorem dX2_init_73 : decode cX2_init 73 = .ok (.iconst 5, 1) := by decide +kernel
theorem dX2_init_74 : decode cX2_init 74 = .ok (.newarray .int, 2) := by decide +kernel
theorem dX2_init_76 : decode cX2_init 76 = .ok (.putfield 24, 3) := by decide +kernel
theorem dX2_init_79 : decode cX2_init 79 = .ok (.aload_n 0, 1) := by decide +kernel
theorem dX2_init_80 : decode cX2_init 80 = .ok (.iconst 5, 1) := by decide +kernel
theorem dX2_init_81 : decode cX2_init 81 = .ok (.newarray .int, 2) := by decide +kernel
theorem dX2_init_83 : decode cX2_init 83 = .ok (.putfield 27, 3) := by decide +kernel
theorem dX2_init_86 : decode cX2_init 86 = .ok (.aload_n 0, 1) := by decide +kernel
theorem dX2_init_87 : decode cX2_init 87 = .ok (.invokevirtual 30, 3) := by decide +kernel
theorem dX2_init_90 : decode cX2_init 90 = .ok (.return_, 1) := by decide +kernel
theorem dX2_multiply_0 : decode cX2_multiply 0 = .ok (.iconst 1, 1) := by decide +kernel
theorem dX2_multiply_1 : decode cX2_multiply 1 = .ok (.istore_n 1, 1) := by decide +kernel
theorem dX2_multiply_2 : decode cX2_multiply 2 = .ok (.iconst 1, 1) := by decide +kernel
theorem dX2_multiply_3 : decode cX2_multiply 3 = .ok (.istore_n 2, 1) := by decide +kernel
theorem dX2_multiply_4 : decode cX2_multiply 4 = .ok (.iconst 0, 1) := by decide +kernel
theorem dX2_multiply_5 : decode cX2_multiply 5 = .ok (.istore_n 3, 1) := by decide +kernel
theorem dX2_multiply_6 : decode cX2_multiply 6 = .ok (.iload_n 3, 1) := by decide +kernel
theorem dX2_multiply_7 : decode cX2_multiply 7 = .ok (.iconst 4, 1) := by decide +kernel
theorem dX2_multiply_8 : decode cX2_multiply 8 = .ok (.if_icmp .gt 68, 3) := by decide +kernel
theorem dX2_multiply_11 : decode cX2_multiply 11 = .ok (.iload_n 1, 1) := by decide +kernel
theorem dX2_multiply_12 : decode cX2_multiply 12 = .ok (.aload_n 0, 1) := by decide +kernel
theorem dX2_multiply_13 : decode cX2_multiply 13 = .ok (.getfield 9, 3) := by decide +kernel
theorem dX2_multiply_16 : decode cX2_multiply 16 = .ok (.iload_n 3, 1) := by decide +kernel
theorem dX2_multiply_17 : decode cX2_multiply 17 = .ok (.iaload, 1) := by decide +kernel
theorem dX2_multiply_18 : decode cX2_multiply 18 = .ok (.imul, 1) := by decide +kernel
theorem dX2_multiply_19 : decode cX2_multiply 19 = .ok (.istore_n 1, 1) := by decide +kernel
theorem dX2_multiply_20 : decode cX2_multiply 20 = .ok (.iload_n 2, 1) := by decide +kernel
theorem dX2_multiply_21 : decode cX2_multiply 21 = .ok (.aload_n 0, 1) := by decide +kernel
theorem dX2_multiply_22 : decode cX2_multiply 22 = .ok (.getfield 15, 3) := by decide +kernel
theorem dX2_multiply_25 : decode cX2_multiply 25 = .ok (.iload_n 3, 1) := by decide +kernel
theorem dX2_multiply_26 : decode cX2_multiply 26 = .ok (.iaload, 1) := by decide +kernel
theorem dX2_multiply_27 : decode cX2_multiply 27 = .ok (.imul, 1) := by decide +kernel
theorem dX2_multiply_28 : decode cX2_multiply 28 = .ok (.istore_n 2, 1) := by decide +kernel
theorem dX2_multiply_29 : decode cX2_multiply 29 = .ok (.aload_n 0, 1) := by decide +kernel
theorem dX2_multiply_30 : decode cX2_multiply 30 = .ok (.getfield 18, 3) := by decide +kernel
theorem dX2_multiply_33 : decode cX2_multiply 33 = .ok (.iload_n 3, 1) := by decide +kernel
theorem dX2_multiply_34 : decode cX2_multiply 34 = .ok (.iload_n 1, 1) := by decide +kernel
theorem dX2_multiply_35 : decode cX2_multiply 35 = .ok (.iastore, 1) := by decide +kernel
theorem dX2_multiply_36 : decode cX2_multiply 36 = .ok (.aload_n 0, 1) := by decide +kernel
theorem dX2_multiply_37 : decode cX2_multiply 37 = .ok (.getfield 21, 3) := by decide +kernel
theorem dX2_multiply_40 : decode cX2_multiply 40 = .ok (.iload_n 3, 1) := by decide +kernel
theorem dX2_multiply_41 : decode cX2_multiply 41 = .ok (.iload_n 2, 1) := by decide +kernel
theorem dX2_multiply_42 : decode cX2_multiply 42 = .ok (.iastore, 1) := by decide +kernel
theorem dX2_multiply_43 : decode cX2_multiply 43 = .ok (.aload_n 0, 1) := by decide +kernel
theorem dX2_multiply_44 : decode cX2_multiply 44 = .ok (.getfield 24, 3) := by decide +kernel
theorem dX2_multiply_47 : decode cX2_multiply 47 = .ok (.iload_n 3, 1) := by decide +kernel
theorem dX2_multiply_48 : decode cX2_multiply 48 = .ok (.bipush 44, 2) := by decide +kernel
theorem dX2_multiply_50 : decode cX2_multiply 50 = .ok (.iload_n 1, 1) := by decide +kernel
theorem dX2_multiply_51 : decode cX2_multiply 51 = .ok (.imul, 1) := by decide +kernel
theorem dX2_multiply_52 : decode cX2_multiply 52 = .ok (.iconst 2, 1) := by decide +kernel
theorem dX2_multiply_53 : decode cX2_multiply 53 = .ok (.iadd, 1) := by decide +kernel
theorem dX2_multiply_54 : decode cX2_multiply 54 = .ok (.iastore, 1) := by decide +kernel
theorem dX2_multiply_55 : decode cX2_multiply 55 = .ok (.aload_n 0, 1) := by decide +kernel
theorem dX2_multiply_56 : decode cX2_multiply 56 = .ok (.getfield 27, 3) := by decide +kernel
theorem dX2_multiply_59 : decode cX2_multiply 59 = .ok (.iload_n 3, 1) := by decide +kernel
theorem dX2_multiply_60 : decode cX2_multiply 60 = .ok (.sipush 2130, 3) := by decide +kernel
theorem dX2_multiply_63 : decode cX2_multiply 63 = .ok (.iload_n 1, 1) := by decide +kernel
theorem dX2_multiply_64 : decode cX2_multiply 64 = .ok (.imul, 1) := by decide +kernel
theorem dX2_multiply_65 : decode cX2_multiply 65 = .ok (.iload_n 2, 1) := by decide +kernel
theorem dX2_multiply_66 : decode cX2_multiply 66 = .ok (.imul, 1) := by decide +kernel
theorem dX2_multiply_67 : decode cX2_multiply 67 = .ok (.iconst 2, 1) := by decide +kernel
theorem dX2_multiply_68 : decode cX2_multiply 68 = .ok (.iadd, 1) := by decide +kernel
theorem dX2_multiply_69 : decode cX2_multiply 69 = .ok (.iastore, 1) := by decide +kernel
theorem dX2_multiply_70 : decode cX2_multiply 70 = .ok (.iinc 3 1, 3) := by decide +kernel
theorem dX2_multiply_73 : decode cX2_multiply 73 = .ok (.goto (-67), 3) := by decide +kernel
theorem dX2_multiply_76 : decode cX2_multiply 76 = .ok (.return_, 1) := by decide +kernel
theorem dX2_deepestSheetsIf_0 : decode cX2_deepestSheetsIf 0 = .ok (.ldc2_w 33, 3) := by decide +kernel
theorem dX2_deepestSheetsIf_3 : decode cX2_deepestSheetsIf 3 = .ok (.lstore 4, 2) := by decide +kernel
theorem dX2_deepestSheetsIf_5 : decode cX2_deepestSheetsIf 5 = .ok (.iconst 1, 1) := by decide +kernel
theorem dX2_deepestSheetsIf_6 : decode cX2_deepestSheetsIf 6 = .ok (.istore 6, 2) := by decide +kernel
theorem dX2_deepestSheetsIf_8 : decode cX2_deepestSheetsIf 8 = .ok (.iload 6, 2) := by decide +kernel
theorem dX2_deepestSheetsIf_10 : decode cX2_deepestSheetsIf 10 = .ok (.iconst 4, 1) := by decide +kernel
theorem dX2_deepestSheetsIf_11 : decode cX2_deepestSheetsIf 11 = .ok (.if_icmp .gt 43, 3) := by decide +kernel
theorem dX2_deepestSheetsIf_14 : decode cX2_deepestSheetsIf 14 = .ok (.lload 4, 2) := by decide +kernel
theorem dX2_deepestSheetsIf_16 : decode cX2_deepestSheetsIf 16 = .ok (.iload 6, 2) := by decide +kernel
theorem dX2_deepestSheetsIf_18 : decode cX2_deepestSheetsIf 18 = .ok (.iload_n 1, 1) := by decide +kernel
theorem dX2_deepestSheetsIf_19 : decode cX2_deepestSheetsIf 19 = .ok (.if_icmp .ne 10, 3) := by decide +kernel
theorem dX2_deepestSheetsIf_22 : decode cX2_deepestSheetsIf 22 = .ok (.iload_n 2, 1) := by decide +kernel
theorem dX2_deepestSheetsIf_23 : decode cX2_deepestSheetsIf 23 = .ok (.iload_n 3, 1) := by decide +kernel
theorem dX2_deepestSheetsIf_24 : decode cX2_deepestSheetsIf 24 = .ok (.imul, 1) := by decide +kernel
theorem dX2_deepestSheetsIf_25 : decode cX2_deepestSheetsIf 25 = .ok (.i2l, 1) := by decide +kernel
theorem dX2_deepestSheetsIf_26 : decode cX2_deepestSheetsIf 26 = .ok (.goto 19, 3) := by decide +kernel
theorem dX2_deepestSheetsIf_29 : decode cX2_deepestSheetsIf 29 = .ok (.aload_n 0, 1) := by decide +kernel
theorem dX2_deepestSheetsIf_30 : decode cX2_deepestSheetsIf 30 = .ok (.getfield 9, 3) := by decide +kernel
theorem dX2_deepestSheetsIf_33 : decode cX2_deepestSheetsIf 33 = .ok (.iload 6, 2) := by decide +kernel
theorem dX2_deepestSheetsIf_35 : decode cX2_deepestSheetsIf 35 = .ok (.iaload, 1) := by decide +kernel
theorem dX2_deepestSheetsIf_36 : decode cX2_deepestSheetsIf 36 = .ok (.aload_n 0, 1) := by decide +kernel
theorem dX2_deepestSheetsIf_37 : decode cX2_deepestSheetsIf 37 = .ok (.getfield 15, 3) := by decide +kernel
theorem dX2_deepestSheetsIf_40 : decode cX2_deepestSheetsIf 40 = .ok (.iload 6, 2) := by decide +kernel
theorem dX2_deepestSheetsIf_42 : decode cX2_deepestSheetsIf 42 = .ok (.iaload, 1) := by decide +kernel
theorem dX2_deepestSheetsIf_43 : decode cX2_deepestSheetsIf 43 = .ok (.imul, 1) := by decide +kernel
theorem dX2_deepestSheetsIf_44 : decode cX2_deepestSheetsIf 44 = .ok (.i2l, 1) := by decide +kernel
theorem dX2_deepestSheetsIf_45 : decode cX2_deepestSheetsIf 45 = .ok (.lmul, 1) := by decide +kernel
theorem dX2_deepestSheetsIf_46 : decode cX2_deepestSheetsIf 46 = .ok (.lstore 4, 2) := by decide +kernel
theorem dX2_deepestSheetsIf_48 : decode cX2_deepestSheetsIf 48 = .ok (.iinc 6 1, 3) := by decide +kernel
theorem dX2_deepestSheetsIf_51 : decode cX2_deepestSheetsIf 51 = .ok (.goto (-43), 3) := by decide +kernel
theorem dX2_deepestSheetsIf_54 : decode cX2_deepestSheetsIf 54 = .ok (.lload 4, 2) := by decide +kernel
theorem dX2_deepestSheetsIf_56 : decode cX2_deepestSheetsIf 56 = .ok (.ldc2_w 35, 3) := by decide +kernel
theorem dX2_deepestSheetsIf_59 : decode cX2_deepestSheetsIf 59 = .ok (.ladd, 1) := by decide +kernel
theorem dX2_deepestSheetsIf_60 : decode cX2_deepestSheetsIf 60 = .ok (.lreturn, 1) := by decide +kernel
theorem gX2_setCuts_X2_multiply : GoodIn wsX2_setCuts (wsV RX2 30 RX2 yX2_multiply wsX2_multiply) := gw_c t_w82 (gw_c t_w81 (gw_c t_w80 (gw_c t_w1 (gw_c t_w79 (gw_t)))))
theorem dX2_setCuts_0 : decode cX2_setCuts 0 = .ok (.aload_n 0, 1) := by decide +kernel
theorem dX2_setCuts_1 : decode cX2_setCuts 1 = .ok (.getfield 9, 3) := by decide +kernel
theorem dX2_setCuts_4 : decode cX2_setCuts 4 = .ok (.iload_n 1, 1) := by decide +kernel
theorem dX2_setCuts_5 : decode cX2_setCuts 5 = .ok (.iload_n 2, 1) := by decide +kernel
theorem dX2_setCuts_6 : decode cX2_setCuts 6 = .ok (.iastore, 1) := by decide +kernel
theorem dX2_setCuts_7 : decode cX2_setCuts 7 = .ok (.aload_n 0, 1) := by decide +kernel
theorem dX2_setCuts_8 : decode cX2_setCuts 8 = .ok (.getfield 15, 3) := by decide +kernel
theorem dX2_setCuts_11 : decode cX2_setCuts 11 = .ok (.iload_n 1, 1) := by decide +kernel
theorem dX2_setCuts_12 : decode cX2_setCuts 12 = .ok (.iload_n 3, 1) := by decide +kernel
theorem dX2_setCuts_13 : decode cX2_setCuts 13 = .ok (.iastore, 1) := by decide +kernel
theorem dX2_setCuts_14 : decode cX2_setCuts 14 = .ok (.aload_n 0, 1) := by decide +kernel
theorem dX2_setCuts_15 : decode cX2_setCuts 15 = .ok (.invokevirtual 30, 3) := by decide +kernel
theorem dX2_setCuts_18 : decode cX2_setCuts 18 = .ok (.return_, 1) := by decide +kernel
theorem gX2_copyFrom_X2_multiply : GoodIn wsX2_copyFrom (wsV RX2 30 RX2 yX2_multiply wsX2_multiply) := gw_c t_w82 (gw_c t_w81 (gw_c t_w80 (gw_c t_w1 (gw_c t_w79 (gw_t)))))
theorem dX2_copyFrom_0 : decode cX2_copyFrom 0 = .ok (.aload_n 1, 1) := by decide +kernel
theorem dX2_copyFrom_1 : decode cX2_copyFrom 1 = .ok (.getfield 9, 3) := by decide +kernel
theorem dX2_copyFrom_4 : decode cX2_copyFrom 4 = .ok (.iconst 0, 1) := by decide +kernel
theorem dX2_copyFrom_5 : decode cX2_copyFrom 5 = .ok (.aload_n 0, 1) := by decide +kernel
theorem dX2_copyFrom_6 : decode cX2_copyFrom 6 = .ok (.getfield 9, 3) := by decide +kernel
theorem dX2_copyFrom_9 : decode cX2_copyFrom 9 = .ok (.iconst 0, 1) := by decide +kernel
theorem dX2_copyFrom_10 : decode cX2_copyFrom 10 = .ok (.aload_n 0, 1) := by decide +kernel
theorem dX2_copyFrom_11 : decode cX2_copyFrom 11 = .ok (.getfield 9, 3) := by decide +kernel
theorem dX2_copyFrom_14 : decode cX2_copyFrom 14 = .ok (.arraylength, 1) := by decide +kernel
theorem dX2_copyFrom_15 : decode cX2_copyFrom 15 = .ok (.invokestatic 37, 3) := by decide +kernel
theorem dX2_copyFrom_18 : decode cX2_copyFrom 18 = .ok (.aload_n 1, 1) := by decide +kernel
theorem dX2_copyFrom_19 : decode cX2_copyFrom 19 = .ok (.getfield 15, 3) := by decide +kernel
theorem dX2_copyFrom_22 : decode cX2_copyFrom 22 = .ok (.iconst 0, 1) := by decide +kernel
theorem dX2_copyFrom_23 : decode cX2_copyFrom 23 = .ok (.aload_n 0, 1) := by decide +kernel
theorem dX2_copyFrom_24 : decode cX2_copyFrom 24 = .ok (.getfield 15, 3) := by decide +kernel
theorem dX2_copyFrom_27 : decode cX2_copyFrom 27 = .ok (.iconst 0, 1) := by decide +kernel
theorem dX2_copyFrom_28 : decode cX2_copyFrom 28 = .ok (.aload_n 0, 1) := by decide +kernel
theorem dX2_copyFrom_29 : decode cX2_copyFrom 29 = .ok (.getfield 15, 3) := by decide +kernel
theorem dX2_copyFrom_32 : decode cX2_copyFrom 32 = .ok (.arraylength, 1) := by decide +kernel
theorem dX2_copyFrom_33 : decode cX2_copyFrom 33 = .ok (.invokestatic 37, 3) := by decide +kernel
theorem dX2_copyFrom_36 : decode cX2_copyFrom 36 = .ok (.aload_n 0, 1) := by decide +kernel
theorem dX2_copyFrom_37 : decode cX2_copyFrom 37 = .ok (.invokevirtual 30, 3) := by decide +kernel
theorem dX2_copyFrom_40 : decode cX2_copyFrom 40 = .ok (.return_, 1) := by decide +kernel
theorem gX2_hasSheet_X10_isLevel_n43 : GoodIn wsX2_hasSheet (wsX10_isLevel) := gw_c t_w83 (gw_t)
theorem dX2_hasSheet_0 : decode cX2_hasSheet 0 = .ok (.iload_n 1, 1) := by decide +kernel
theorem dX2_hasSheet_1 : decode cX2_hasSheet 1 = .ok (.invokestatic 43, 3) := by decide +kernel
theorem dX2_hasSheet_4 : decode cX2_hasSheet 4 = .ok (.ifCond .eq 21, 3) := by decide +kernel
theorem dX2_hasSheet_7 : decode cX2_hasSheet 7 = .ok (.iload_n 2, 1) := by decide +kernel
theorem dX2_hasSheet_8 : decode cX2_hasSheet 8 = .ok (.ifCond .lt 17, 3) := by decide +kernel
theorem dX2_hasSheet_11 : decode cX2_hasSheet 11 = .ok (.iload_n 2, 1) := by decide +kernel
theorem dX2_hasSheet_12 : decode cX2_hasSheet 12 = .ok (.aload_n 0, 1) := by decide +kernel
theorem dX2_hasSheet_13 : decode cX2_hasSheet 13 = .ok (.getfield 27, 3) := by decide +kernel
theorem dX2_hasSheet_16 : decode cX2_hasSheet 16 = .ok (.iload_n 1, 1) := by decide +kernel
theorem dX2_hasSheet_17 : decode cX2_hasSheet 17 = .ok (.iaload, 1) := by decide +kernel
theorem dX2_hasSheet_18 : decode cX2_hasSheet 18 = .ok (.if_icmp .ge 7, 3) := by decide +kernel
theorem dX2_hasSheet_21 : decode cX2_hasSheet 21 = .ok (.iconst 1, 1) := by decide +kernel
theorem dX2_hasSheet_22 : decode cX2_hasSheet 22 = .ok (.goto 4, 3) := by decide +kernel
theorem dX2_hasSheet_25 : decode cX2_hasSheet 25 = .ok (.iconst 0, 1) := by decide +kernel
theorem dX2_hasSheet_26 : decode cX2_hasSheet 26 = .ok (.ireturn, 1) := by decide +kernel
theorem dX2_isCapRow_0 : decode cX2_isCapRow 0 = .ok (.iload_n 2, 1) := by decide +kernel
theorem dX2_isCapRow_1 : decode cX2_isCapRow 1 = .ok (.ifCond .le 15, 3) := by decide +kernel
theorem dX2_isCapRow_4 : decode cX2_isCapRow 4 = .ok (.iload_n 2, 1) := by decide +kernel
theorem dX2_isCapRow_5 : decode cX2_isCapRow 5 = .ok (.aload_n 0, 1) := by decide +kernel
theorem dX2_isCapRow_6 : decode cX2_isCapRow 6 = .ok (.getfield 24, 3) := by decide +kernel
theorem dX2_isCapRow_9 : decode cX2_isCapRow 9 = .ok (.iload_n 1, 1) := by decide +kernel
theorem dX2_isCapRow_10 : decode cX2_isCapRow 10 = .ok (.iaload, 1) := by decide +kernel
theorem dX2_isCapRow_11 : decode cX2_isCapRow 11 = .ok (.iconst 1, 1) := by decide +kernel
theorem dX2_isCapRow_12 : decode cX2_isCapRow 12 = .ok (.isub, 1) := by decide +kernel
theorem dX2_isCapRow_13 : decode cX2_isCapRow 13 = .ok (.if_icmp .lt 7, 3) := by decide +kernel
theorem dX2_isCapRow_16 : decode cX2_isCapRow 16 = .ok (.iconst 1, 1) := by decide +kernel
theorem dX2_isCapRow_17 : decode cX2_isCapRow 17 = .ok (.goto 4, 3) := by decide +kernel
theorem dX2_isCapRow_20 : decode cX2_isCapRow 20 = .ok (.iconst 0, 1) := by decide +kernel
theorem dX2_isCapRow_21 : decode cX2_isCapRow 21 = .ok (.ireturn, 1) := by decide +kernel
theorem dX2_storedLevel_0 : decode cX2_storedLevel 0 = .ok (.iload_n 2, 1) := by decide +kernel
theorem dX2_storedLevel_1 : decode cX2_storedLevel 1 = .ok (.ifCond .eq 15, 3) := by decide +kernel
theorem dX2_storedLevel_4 : decode cX2_storedLevel 4 = .ok (.iload_n 2, 1) := by decide +kernel
theorem dX2_storedLevel_5 : decode cX2_storedLevel 5 = .ok (.aload_n 0, 1) := by decide +kernel
theorem dX2_storedLevel_6 : decode cX2_storedLevel 6 = .ok (.getfield 27, 3) := by decide +kernel
theorem dX2_storedLevel_9 : decode cX2_storedLevel 9 = .ok (.iload_n 1, 1) := by decide +kernel
theorem dX2_storedLevel_10 : decode cX2_storedLevel 10 = .ok (.iaload, 1) := by decide +kernel
theorem dX2_storedLevel_11 : decode cX2_storedLevel 11 = .ok (.iconst 1, 1) := by decide +kernel
theorem dX2_storedLevel_12 : decode cX2_storedLevel 12 = .ok (.isub, 1) := by decide +kernel
theorem dX2_storedLevel_13 : decode cX2_storedLevel 13 = .ok (.if_icmp .ne 7, 3) := by decide +kernel
theorem dX2_storedLevel_16 : decode cX2_storedLevel 16 = .ok (.iconst 0, 1) := by decide +kernel
theorem dX2_storedLevel_17 : decode cX2_storedLevel 17 = .ok (.goto 4, 3) := by decide +kernel
theorem dX2_storedLevel_20 : decode cX2_storedLevel 20 = .ok (.iload_n 1, 1) := by decide +kernel
theorem dX2_storedLevel_21 : decode cX2_storedLevel 21 = .ok (.ireturn, 1) := by decide +kernel
theorem dX2_rowLength_0 : decode cX2_rowLength 0 = .ok (.iload_n 2, 1) := by decide +kernel
theorem dX2_rowLength_1 : decode cX2_rowLength 1 = .ok (.ifCond .le 15, 3) := by decide +kernel
theorem dX2_rowLength_4 : decode cX2_rowLength 4 = .ok (.iload_n 2, 1) := by decide +kernel
theorem dX2_rowLength_5 : decode cX2_rowLength 5 = .ok (.aload_n 0, 1) := by decide +kernel
theorem dX2_rowLength_6 : decode cX2_rowLength 6 = .ok (.getfield 24, 3) := by decide +kernel
theorem dX2_rowLength_9 : decode cX2_rowLength 9 = .ok (.iload_n 1, 1) := by decide +kernel
theorem dX2_rowLength_10 : decode cX2_rowLength 10 = .ok (.iaload, 1) := by decide +kernel
theorem dX2_rowLength_11 : decode cX2_rowLength 11 = .ok (.iconst 1, 1) := by decide +kernel
theorem dX2_rowLength_12 : decode cX2_rowLength 12 = .ok (.isub, 1) := by decide +kernel
theorem dX2_rowLength_13 : decode cX2_rowLength 13 = .ok (.if_icmp .lt 5, 3) := by decide +kernel
theorem dX2_rowLength_16 : decode cX2_rowLength 16 = .ok (.iconst 1, 1) := by decide +kernel
theorem dX2_rowLength_17 : decode cX2_rowLength 17 = .ok (.ireturn, 1) := by decide +kernel
theorem dX2_rowLength_18 : decode cX2_rowLength 18 = .ok (.getstatic 47, 3) := by decide +kernel
theorem dX2_rowLength_21 : decode cX2_rowLength 21 = .ok (.iload_n 2, 1) := by decide +kernel
theorem dX2_rowLength_22 : decode cX2_rowLength 22 = .ok (.iconst 1, 1) := by decide +kernel
theorem dX2_rowLength_23 : decode cX2_rowLength 23 = .ok (.isub, 1) := by decide +kernel
theorem dX2_rowLength_24 : decode cX2_rowLength 24 = .ok (.aload_n 0, 1) := by decide +kernel
theorem dX2_rowLength_25 : decode cX2_rowLength 25 = .ok (.getfield 18, 3) := by decide +kernel
theorem dX2_rowLength_28 : decode cX2_rowLength 28 = .ok (.iload_n 1, 1) := by decide +kernel
theorem dX2_rowLength_29 : decode cX2_rowLength 29 = .ok (.iaload, 1) := by decide +kernel
theorem dX2_rowLength_30 : decode cX2_rowLength 30 = .ok (.idiv, 1) := by decide +kernel
theorem dX2_rowLength_31 : decode cX2_rowLength 31 = .ok (.iaload, 1) := by decide +kernel
theorem dX2_rowLength_32 : decode cX2_rowLength 32 = .ok (.aload_n 0, 1) := by decide +kernel
theorem dX2_rowLength_33 : decode cX2_rowLength 33 = .ok (.getfield 21, 3) := by decide +kernel
theorem dX2_rowLength_36 : decode cX2_rowLength 36 = .ok (.iload_n 1, 1) := by decide +kernel
theorem dX2_rowLength_37 : decode cX2_rowLength 37 = .ok (.iaload, 1) := by decide +kernel
theorem dX2_rowLength_38 : decode cX2_rowLength 38 = .ok (.imul, 1) := by decide +kernel
theorem dX2_rowLength_39 : decode cX2_rowLength 39 = .ok (.ireturn, 1) := by decide +kernel
theorem dX2_rowStart_0 : decode cX2_rowStart 0 = .ok (.iload_n 2, 1) := by decide +kernel
theorem dX2_rowStart_1 : decode cX2_rowStart 1 = .ok (.ifCond .gt 5, 3) := by decide +kernel
theorem dX2_rowStart_4 : decode cX2_rowStart 4 = .ok (.iconst 0, 1) := by decide +kernel
theorem dX2_rowStart_5 : decode cX2_rowStart 5 = .ok (.ireturn, 1) := by decide +kernel
theorem dX2_rowStart_6 : decode cX2_rowStart 6 = .ok (.iload_n 2, 1) := by decide +kernel
theorem dX2_rowStart_7 : decode cX2_rowStart 7 = .ok (.aload_n 0, 1) := by decide +kernel
theorem dX2_rowStart_8 : decode cX2_rowStart 8 = .ok (.getfield 24, 3) := by decide +kernel
theorem dX2_rowStart_11 : decode cX2_rowStart 11 = .ok (.iload_n 1, 1) := by decide +kernel
theorem dX2_rowStart_12 : decode cX2_rowStart 12 = .ok (.iaload, 1) := by decide +kernel
theorem dX2_rowStart_13 : decode cX2_rowStart 13 = .ok (.iconst 1, 1) := by decide +kernel
theorem dX2_rowStart_14 : decode cX2_rowStart 14 = .ok (.isub, 1) := by decide +kernel
theorem dX2_rowStart_15 : decode cX2_rowStart 15 = .ok (.if_icmp .lt 12, 3) := by decide +kernel
theorem dX2_rowStart_18 : decode cX2_rowStart 18 = .ok (.aload_n 0, 1) := by decide +kernel
theorem dX2_rowStart_19 : decode cX2_rowStart 19 = .ok (.getfield 27, 3) := by decide +kernel
theorem dX2_rowStart_22 : decode cX2_rowStart 22 = .ok (.iload_n 1, 1) := by decide +kernel
theorem dX2_rowStart_23 : decode cX2_rowStart 23 = .ok (.iaload, 1) := by decide +kernel
theorem dX2_rowStart_24 : decode cX2_rowStart 24 = .ok (.iconst 1, 1) := by decide +kernel
theorem dX2_rowStart_25 : decode cX2_rowStart 25 = .ok (.isub, 1) := by decide +kernel
theorem dX2_rowStart_26 : decode cX2_rowStart 26 = .ok (.ireturn, 1) := by decide +kernel
theorem dX2_rowStart_27 : decode cX2_rowStart 27 = .ok (.iload_n 2, 1) := by decide +kernel
theorem dX2_rowStart_28 : decode cX2_rowStart 28 = .ok (.iconst 1, 1) := by decide +kernel
theorem dX2_rowStart_29 : decode cX2_rowStart 29 = .ok (.isub, 1) := by decide +kernel
theorem dX2_rowStart_30 : decode cX2_rowStart 30 = .ok (.aload_n 0, 1) := by decide +kernel
theorem dX2_rowStart_31 : decode cX2_rowStart 31 = .ok (.getfield 18, 3) := by decide +kernel
theorem dX2_rowStart_34 : decode cX2_rowStart 34 = .ok (.iload_n 1, 1) := by decide +kernel
theorem dX2_rowStart_35 : decode cX2_rowStart 35 = .ok (.iaload, 1) := by decide +kernel
theorem dX2_rowStart_36 : decode cX2_rowStart 36 = .ok (.idiv, 1) := by decide +kernel
theorem dX2_rowStart_37 : decode cX2_rowStart 37 = .ok (.istore_n 3, 1) := by decide +kernel
theorem dX2_rowStart_38 : decode cX2_rowStart 38 = .ok (.iload_n 2, 1) := by decide +kernel
theorem dX2_rowStart_39 : decode cX2_rowStart 39 = .ok (.iconst 1, 1) := by decide +kernel
theorem dX2_rowStart_40 : decode cX2_rowStart 40 = .ok (.isub, 1) := by decide +kernel
theorem dX2_rowStart_41 : decode cX2_rowStart 41 = .ok (.aload_n 0, 1) := by decide +kernel
theorem dX2_rowStart_42 : decode cX2_rowStart 42 = .ok (.getfield 18, 3) := by decide +kernel
theorem dX2_rowStart_45 : decode cX2_rowStart 45 = .ok (.iload_n 1, 1) := by decide +kernel
theorem dX2_rowStart_46 : decode cX2_rowStart 46 = .ok (.iaload, 1) := by decide +kernel
theorem dX2_rowStart_47 : decode cX2_rowStart 47 = .ok (.irem, 1) := by decide +kernel
theorem dX2_rowStart_48 : decode cX2_rowStart 48 = .ok (.istore 4, 2) := by decide +kernel
theorem dX2_rowStart_50 : decode cX2_rowStart 50 = .ok (.getstatic 50, 3) := by decide +kernel
theorem dX2_rowStart_53 : decode cX2_rowStart 53 = .ok (.iload_n 3, 1) := by decide +kernel
theorem dX2_rowStart_54 : decode cX2_rowStart 54 = .ok (.iaload, 1) := by decide +kernel
theorem dX2_rowStart_55 : decode cX2_rowStart 55 = .ok (.aload_n 0, 1) := by decide +kernel
theorem dX2_rowStart_56 : decode cX2_rowStart 56 = .ok (.getfield 18, 3) := by decide +kernel
theorem dX2_rowStart_59 : decode cX2_rowStart 59 = .ok (.iload_n 1, 1) := by decide +kernel
theorem dX2_rowStart_60 : decode cX2_rowStart 60 = .ok (.iaload, 1) := by decide +kernel
theorem dX2_rowStart_61 : decode cX2_rowStart 61 = .ok (.imul, 1) := by decide +kernel
theorem dX2_rowStart_62 : decode cX2_rowStart 62 = .ok (.iload 4, 2) := by decide +kernel
theorem dX2_rowStart_64 : decode cX2_rowStart 64 = .ok (.getstatic 47, 3) := by decide +kernel
theorem dX2_rowStart_67 : decode cX2_rowStart 67 = .ok (.iload_n 3, 1) := by decide +kernel
theorem dX2_rowStart_68 : decode cX2_rowStart 68 = .ok (.iaload, 1) := by decide +kernel
theorem dX2_rowStart_69 : decode cX2_rowStart 69 = .ok (.imul, 1) := by decide +kernel
theorem dX2_rowStart_70 : decode cX2_rowStart 70 = .ok (.iadd, 1) := by decide +kernel
theorem dX2_rowStart_71 : decode cX2_rowStart 71 = .ok (.istore 5, 2) := by decide +kernel
theorem dX2_rowStart_73 : decode cX2_rowStart 73 = .ok (.iconst 1, 1) := by decide +kernel
theorem dX2_rowStart_74 : decode cX2_rowStart 74 = .ok (.iload 5, 2) := by decide +kernel
theorem dX2_rowStart_76 : decode cX2_rowStart 76 = .ok (.aload_n 0, 1) := by decide +kernel
theorem dX2_rowStart_77 : decode cX2_rowStart 77 = .ok (.getfield 21, 3) := by decide +kernel
theorem dX2_rowStart_80 : decode cX2_rowStart 80 = .ok (.iload_n 1, 1) := by decide +kernel
theorem dX2_rowStart_81 : decode cX2_rowStart 81 = .ok (.iaload, 1) := by decide +kernel
theorem dX2_rowStart_82 : decode cX2_rowStart 82 = .ok (.imul, 1) := by decide +kernel
theorem dX2_rowStart_83 : decode cX2_rowStart 83 = .ok (.iadd, 1) := by decide +kernel
theorem dX2_rowStart_84 : decode cX2_rowStart 84 = .ok (.ireturn, 1) := by decide +kernel
theorem gX2_rowOfKey_X2_bandOfZone : GoodIn wsX2_rowOfKey (va_wsS RX2 53 yX2_bandOfZone wsX2_bandOfZone) := gw_c t_w86 (gw_c t_w85 (gw_c t_w1 (gw_c t_w84 (gw_t))))
theorem dX2_rowOfKey_0 : decode cX2_rowOfKey 0 = .ok (.iload_n 2, 1) := by decide +kernel
theorem dX2_rowOfKey_1 : decode cX2_rowOfKey 1 = .ok (.ifCond .gt 5, 3) := by decide +kernel
theorem dX2_rowOfKey_4 : decode cX2_rowOfKey 4 = .ok (.iconst 0, 1) := by decide +kernel
theorem dX2_rowOfKey_5 : decode cX2_rowOfKey 5 = .ok (.ireturn, 1) := by decide +kernel
theorem dX2_rowOfKey_6 : decode cX2_rowOfKey 6 = .ok (.iload_n 2, 1) := by decide +kernel
theorem dX2_rowOfKey_7 : decode cX2_rowOfKey 7 = .ok (.aload_n 0, 1) := by decide +kernel
theorem dX2_rowOfKey_8 : decode cX2_rowOfKey 8 = .ok (.getfield 27, 3) := by decide +kernel
theorem dX2_rowOfKey_11 : decode cX2_rowOfKey 11 = .ok (.iload_n 1, 1) := by decide +kernel
theorem dX2_rowOfKey_12 : decode cX2_rowOfKey 12 = .ok (.iaload, 1) := by decide +kernel
theorem dX2_rowOfKey_13 : decode cX2_rowOfKey 13 = .ok (.iconst 1, 1) := by decide +kernel
theorem dX2_rowOfKey_14 : decode cX2_rowOfKey 14 = .ok (.isub, 1) := by decide +kernel
theorem dX2_rowOfKey_15 : decode cX2_rowOfKey 15 = .ok (.if_icmp .lt 12, 3) := by decide +kernel
theorem dX2_rowOfKey_18 : decode cX2_rowOfKey 18 = .ok (.aload_n 0, 1) := by decide +kernel
theorem dX2_rowOfKey_19 : decode cX2_rowOfKey 19 = .ok (.getfield 24, 3) := by decide +kernel
theorem dX2_rowOfKey_22 : decode cX2_rowOfKey 22 = .ok (.iload_n 1, 1) := by decide +kernel
theorem dX2_rowOfKey_23 : decode cX2_rowOfKey 23 = .ok (.iaload, 1) := by decide +kernel
theorem dX2_rowOfKey_24 : decode cX2_rowOfKey 24 = .ok (.iconst 1, 1) := by decide +kernel
theorem dX2_rowOfKey_25 : decode cX2_rowOfKey 25 = .ok (.isub, 1) := by decide +kernel
theorem dX2_rowOfKey_26 : decode cX2_rowOfKey 26 = .ok (.ireturn, 1) := by decide +kernel
theorem dX2_rowOfKey_27 : decode cX2_rowOfKey 27 = .ok (.aload_n 0, 1) := by decide +kernel
theorem dX2_rowOfKey_28 : decode cX2_rowOfKey 28 = .ok (.getfield 18, 3) := by decide +kernel
theorem dX2_rowOfKey_31 : decode cX2_rowOfKey 31 = .ok (.iload_n 1, 1) := by decide +kernel
theorem dX2_rowOfKey_32 : decode cX2_rowOfKey 32 = .ok (.iaload, 1) := by decide +kernel
theorem dX2_rowOfKey_33 : decode cX2_rowOfKey 33 = .ok (.aload_n 0, 1) := by decide +kernel
theorem dX2_rowOfKey_34 : decode cX2_rowOfKey 34 = .ok (.getfield 21, 3) := by decide +kernel
theorem dX2_rowOfKey_37 : decode cX2_rowOfKey 37 = .ok (.iload_n 1, 1) := by decide +kernel
theorem dX2_rowOfKey_38 : decode cX2_rowOfKey 38 = .ok (.iaload, 1) := by decide +kernel
theorem dX2_rowOfKey_39 : decode cX2_rowOfKey 39 = .ok (.imul, 1) := by decide +kernel
theorem dX2_rowOfKey_40 : decode cX2_rowOfKey 40 = .ok (.istore_n 3, 1) := by decide +kernel
theorem dX2_rowOfKey_41 : decode cX2_rowOfKey 41 = .ok (.iload_n 2, 1) := by decide +kernel
theorem dX2_rowOfKey_42 : decode cX2_rowOfKey 42 = .ok (.iconst 1, 1) := by decide +kernel
theorem dX2_rowOfKey_43 : decode cX2_rowOfKey 43 = .ok (.isub, 1) := by decide +kernel
theorem dX2_rowOfKey_44 : decode cX2_rowOfKey 44 = .ok (.iload_n 3, 1) := by decide +kernel
theorem dX2_rowOfKey_45 : decode cX2_rowOfKey 45 = .ok (.idiv, 1) := by decide +kernel
theorem dX2_rowOfKey_46 : decode cX2_rowOfKey 46 = .ok (.invokestatic 53, 3) := by decide +kernel
theorem dX2_rowOfKey_49 : decode cX2_rowOfKey 49 = .ok (.istore 4, 2) := by decide +kernel
theorem dX2_rowOfKey_51 : decode cX2_rowOfKey 51 = .ok (.iload_n 2, 1) := by decide +kernel
theorem dX2_rowOfKey_52 : decode cX2_rowOfKey 52 = .ok (.iconst 1, 1) := by decide +kernel
theorem dX2_rowOfKey_53 : decode cX2_rowOfKey 53 = .ok (.isub, 1) := by decide +kernel
theorem dX2_rowOfKey_54 : decode cX2_rowOfKey 54 = .ok (.getstatic 50, 3) := by decide +kernel
theorem dX2_rowOfKey_57 : decode cX2_rowOfKey 57 = .ok (.iload 4, 2) := by decide +kernel
theorem dX2_rowOfKey_59 : decode cX2_rowOfKey 59 = .ok (.iaload, 1) := by decide +kernel
theorem dX2_rowOfKey_60 : decode cX2_rowOfKey 60 = .ok (.iload_n 3, 1) := by decide +kernel
theorem dX2_rowOfKey_61 : decode cX2_rowOfKey 61 = .ok (.imul, 1) := by decide +kernel
theorem dX2_rowOfKey_62 : decode cX2_rowOfKey 62 = .ok (.isub, 1) := by decide +kernel
theorem dX2_rowOfKey_63 : decode cX2_rowOfKey 63 = .ok (.istore 5, 2) := by decide +kernel
theorem dX2_rowOfKey_65 : decode cX2_rowOfKey 65 = .ok (.iconst 1, 1) := by decide +kernel
theorem dX2_rowOfKey_66 : decode cX2_rowOfKey 66 = .ok (.iload 4, 2) := by decide +kernel
theorem dX2_rowOfKey_68 : decode cX2_rowOfKey 68 = .ok (.aload_n 0, 1) := by decide +kernel
theorem dX2_rowOfKey_69 : decode cX2_rowOfKey 69 = .ok (.getfield 18, 3) := by decide +kernel
theorem dX2_rowOfKey_72 : decode cX2_rowOfKey 72 = .ok (.iload_n 1, 1) := by decide +kernel
theorem dX2_rowOfKey_73 : decode cX2_rowOfKey 73 = .ok (.iaload, 1) := by decide +kernel
theorem dX2_rowOfKey_74 : decode cX2_rowOfKey 74 = .ok (.imul, 1) := by decide +kernel
theorem dX2_rowOfKey_75 : decode cX2_rowOfKey 75 = .ok (.iadd, 1) := by decide +kernel
theorem dX2_rowOfKey_76 : decode cX2_rowOfKey 76 = .ok (.iload 5, 2) := by decide +kernel
theorem dX2_rowOfKey_78 : decode cX2_rowOfKey 78 = .ok (.getstatic 47, 3) := by decide +kernel
theorem dX2_rowOfKey_81 : decode cX2_rowOfKey 81 = .ok (.iload 4, 2) := by decide +kernel
theorem dX2_rowOfKey_83 : decode cX2_rowOfKey 83 = .ok (.iaload, 1) := by decide +kernel
theorem dX2_rowOfKey_84 : decode cX2_rowOfKey 84 = .ok (.aload_n 0, 1) := by decide +kernel
theorem dX2_rowOfKey_85 : decode cX2_rowOfKey 85 = .ok (.getfield 21, 3) := by decide +kernel
theorem dX2_rowOfKey_88 : decode cX2_rowOfKey 88 = .ok (.iload_n 1, 1) := by decide +kernel
theorem dX2_rowOfKey_89 : decode cX2_rowOfKey 89 = .ok (.iaload, 1) := by decide +kernel
theorem dX2_rowOfKey_90 : decode cX2_rowOfKey 90 = .ok (.imul, 1) := by decide +kernel
theorem dX2_rowOfKey_91 : decode cX2_rowOfKey 91 = .ok (.idiv, 1) := by decide +kernel
theorem dX2_rowOfKey_92 : decode cX2_rowOfKey 92 = .ok (.iadd, 1) := by decide +kernel
theorem dX2_rowOfKey_93 : decode cX2_rowOfKey 93 = .ok (.ireturn, 1) := by decide +kernel
theorem gX2_rowOfLat_J9_floorDiv_f86c9 : GoodIn wsX2_rowOfLat (va_wsS RX2 61 yJ9_floorDiv_f86c9 wsJ9_floorDiv_f86c9) := gw_c t_w89 (gw_c t_w88 (gw_c t_w76 (gw_c t_w87 (gw_t))))
theorem dX2_rowOfLat_0 : decode cX2_rowOfLat 0 = .ok (.iload_n 2, 1) := by decide +kernel
theorem dX2_rowOfLat_1 : decode cX2_rowOfLat 1 = .ok (.ldc 57, 2) := by decide +kernel
theorem dX2_rowOfLat_3 : decode cX2_rowOfLat 3 = .ok (.if_icmp .lt 5, 3) := by decide +kernel
theorem dX2_rowOfLat_6 : decode cX2_rowOfLat 6 = .ok (.iconst 0, 1) := by decide +kernel
theorem dX2_rowOfLat_7 : decode cX2_rowOfLat 7 = .ok (.ireturn, 1) := by decide +kernel
theorem dX2_rowOfLat_8 : decode cX2_rowOfLat 8 = .ok (.iload_n 2, 1) := by decide +kernel
theorem dX2_rowOfLat_9 : decode cX2_rowOfLat 9 = .ok (.ldc 58, 2) := by decide +kernel
theorem dX2_rowOfLat_11 : decode cX2_rowOfLat 11 = .ok (.if_icmp .ge 12, 3) := by decide +kernel
theorem dX2_rowOfLat_14 : decode cX2_rowOfLat 14 = .ok (.aload_n 0, 1) := by decide +kernel
theorem dX2_rowOfLat_15 : decode cX2_rowOfLat 15 = .ok (.getfield 24, 3) := by decide +kernel
theorem dX2_rowOfLat_18 : decode cX2_rowOfLat 18 = .ok (.iload_n 1, 1) := by decide +kernel
theorem dX2_rowOfLat_19 : decode cX2_rowOfLat 19 = .ok (.iaload, 1) := by decide +kernel
theorem dX2_rowOfLat_20 : decode cX2_rowOfLat 20 = .ok (.iconst 1, 1) := by decide +kernel
theorem dX2_rowOfLat_21 : decode cX2_rowOfLat 21 = .ok (.isub, 1) := by decide +kernel
theorem dX2_rowOfLat_22 : decode cX2_rowOfLat 22 = .ok (.ireturn, 1) := by decide +kernel
theorem dX2_rowOfLat_23 : decode cX2_rowOfLat 23 = .ok (.iload_n 2, 1) := by decide +kernel
theorem dX2_rowOfLat_24 : decode cX2_rowOfLat 24 = .ok (.i2l, 1) := by decide +kernel
theorem dX2_rowOfLat_25 : decode cX2_rowOfLat 25 = .ok (.aload_n 0, 1) := by decide +kernel
theorem dX2_rowOfLat_26 : decode cX2_rowOfLat 26 = .ok (.getfield 18, 3) := by decide +kernel
theorem dX2_rowOfLat_29 : decode cX2_rowOfLat 29 = .ok (.iload_n 1, 1) := by decide +kernel
theorem dX2_rowOfLat_30 : decode cX2_rowOfLat 30 = .ok (.iaload, 1) := by decide +kernel
theorem dX2_rowOfLat_31 : decode cX2_rowOfLat 31 = .ok (.i2l, 1) := by decide +kernel
theorem dX2_rowOfLat_32 : decode cX2_rowOfLat 32 = .ok (.lmul, 1) := by decide +kernel
theorem dX2_rowOfLat_33 : decode cX2_rowOfLat 33 = .ok (.ldc2_w 59, 3) := by decide +kernel
theorem dX2_rowOfLat_36 : decode cX2_rowOfLat 36 = .ok (.invokestatic 61, 3) := by decide +kernel
theorem dX2_rowOfLat_39 : decode cX2_rowOfLat 39 = .ok (.lstore_n 3, 1) := by decide +kernel
theorem dX2_rowOfLat_40 : decode cX2_rowOfLat 40 = .ok (.bipush 22, 2) := by decide +kernel
theorem dX2_rowOfLat_42 : decode cX2_rowOfLat 42 = .ok (.aload_n 0, 1) := by decide +kernel
theorem dX2_rowOfLat_43 : decode cX2_rowOfLat 43 = .ok (.getfield 18, 3) := by decide +kernel
theorem dX2_rowOfLat_46 : decode cX2_rowOfLat 46 = .ok (.iload_n 1, 1) := by decide +kernel
theorem dX2_rowOfLat_47 : decode cX2_rowOfLat 47 = .ok (.iaload, 1) := by decide +kernel
theorem dX2_rowOfLat_48 : decode cX2_rowOfLat 48 = .ok (.imul, 1) := by decide +kernel
theorem dX2_rowOfLat_49 : decode cX2_rowOfLat 49 = .ok (.lload_n 3, 1) := by decide +kernel
theorem dX2_rowOfLat_50 : decode cX2_rowOfLat 50 = .ok (.l2i, 1) := by decide +kernel
theorem dX2_rowOfLat_51 : decode cX2_rowOfLat 51 = .ok (.isub, 1) := by decide +kernel
theorem dX2_rowOfLat_52 : decode cX2_rowOfLat 52 = .ok (.ireturn, 1) := by decide +kernel
theorem gX2_placeOfLon_X2_rowLength : GoodIn wsX2_placeOfLon (wsV RX2 67 RX2 yX2_rowLength wsX2_rowLength) := gw_c t_w90 (gw_c t_w20 (gw_c t_w19 (gw_c t_w1 (gw_c t_w18 (gw_t)))))
theorem dX2_placeOfLon_0 : decode cX2_placeOfLon 0 = .ok (.iload_n 3, 1) := by decide +kernel
theorem dX2_placeOfLon_1 : decode cX2_placeOfLon 1 = .ok (.i2l, 1) := by decide +kernel
theorem dX2_placeOfLon_2 : decode cX2_placeOfLon 2 = .ok (.aload_n 0, 1) := by decide +kernel
theorem dX2_placeOfLon_3 : decode cX2_placeOfLon 3 = .ok (.iload_n 1, 1) := by decide +kernel
theorem dX2_placeOfLon_4 : decode cX2_placeOfLon 4 = .ok (.iload_n 2, 1) := by decide +kernel
theorem dX2_placeOfLon_5 : decode cX2_placeOfLon 5 = .ok (.invokevirtual 67, 3) := by decide +kernel
theorem dX2_placeOfLon_8 : decode cX2_placeOfLon 8 = .ok (.i2l, 1) := by decide +kernel
theorem dX2_placeOfLon_9 : decode cX2_placeOfLon 9 = .ok (.lmul, 1) := by decide +kernel
theorem dX2_placeOfLon_10 : decode cX2_placeOfLon 10 = .ok (.ldc2_w 71, 3) := by decide +kernel
theorem dX2_placeOfLon_13 : decode cX2_placeOfLon 13 = .ok (.ldiv, 1) := by decide +kernel
theorem dX2_placeOfLon_14 : decode cX2_placeOfLon 14 = .ok (.l2i, 1) := by decide +kernel
theorem dX2_placeOfLon_15 : decode cX2_placeOfLon 15 = .ok (.ireturn, 1) := by decide +kernel
theorem gX2_keyOf_X2_rowOfLat : GoodIn wsX2_keyOf (wsV RX2 73 RX2 yX2_rowOfLat wsX2_rowOfLat) := gw_c t_w91 (gw_c t_w12 (gw_c t_w11 (gw_c t_w1 (gw_c t_w10 (gw_t)))))
theorem gX2_keyOf_X2_rowStart : GoodIn wsX2_keyOf (wsV RX2 76 RX2 yX2_rowStart wsX2_rowStart) := gw_c t_w92 (gw_c t_w24 (gw_c t_w23 (gw_c t_w1 (gw_c t_w22 (gw_t)))))
theorem gX2_keyOf_X2_placeOfLon : GoodIn wsX2_keyOf (wsV RX2 79 RX2 yX2_placeOfLon wsX2_placeOfLon) := gw_c t_w93 (gw_c t_w16 (gw_c t_w15 (gw_c t_w1 (gw_c t_w14 (gw_t)))))
theorem dX2_keyOf_0 : decode cX2_keyOf 0 = .ok (.aload_n 0, 1) := by decide +kernel
theorem dX2_keyOf_1 : decode cX2_keyOf 1 = .ok (.iload_n 1, 1) := by decide +kernel
theorem dX2_keyOf_2 : decode cX2_keyOf 2 = .ok (.iload_n 2, 1) := by decide +kernel
theorem dX2_keyOf_3 : decode cX2_keyOf 3 = .ok (.invokevirtual 73, 3) := by decide +kernel
theorem dX2_keyOf_6 : decode cX2_keyOf 6 = .ok (.istore 4, 2) := by decide +kernel
theorem dX2_keyOf_8 : decode cX2_keyOf 8 = .ok (.aload_n 0, 1) := by decide +kernel
theorem dX2_keyOf_9 : decode cX2_keyOf 9 = .ok (.iload_n 1, 1) := by decide +kernel
theorem dX2_keyOf_10 : decode cX2_keyOf 10 = .ok (.iload 4, 2) := by decide +kernel
theorem dX2_keyOf_12 : decode cX2_keyOf 12 = .ok (.invokevirtual 76, 3) := by decide +kernel
theorem dX2_keyOf_15 : decode cX2_keyOf 15 = .ok (.aload_n 0, 1) := by decide +kernel
theorem dX2_keyOf_16 : decode cX2_keyOf 16 = .ok (.iload_n 1, 1) := by decide +kernel
theorem dX2_keyOf_17 : decode cX2_keyOf 17 = .ok (.iload 4, 2) := by decide +kernel
theorem dX2_keyOf_19 : decode cX2_keyOf 19 = .ok (.iload_n 3, 1) := by decide +kernel
theorem dX2_keyOf_20 : decode cX2_keyOf 20 = .ok (.invokevirtual 79, 3) := by decide +kernel
theorem dX2_keyOf_23 : decode cX2_keyOf 23 = .ok (.iadd, 1) := by decide +kernel
theorem dX2_keyOf_24 : decode cX2_keyOf 24 = .ok (.ireturn, 1) := by decide +kernel
theorem dX2_rowsIn_0 : decode cX2_rowsIn 0 = .ok (.aload_n 0, 1) := by decide +kernel
theorem dX2_rowsIn_1 : decode cX2_rowsIn 1 = .ok (.getfield 18, 3) := by decide +kernel
theorem dX2_rowsIn_4 : decode cX2_rowsIn 4 = .ok (.iload_n 2, 1) := by decide +kernel
theorem dX2_rowsIn_5 : decode cX2_rowsIn 5 = .ok (.iaload, 1) := by decide +kernel
theorem dX2_rowsIn_6 : decode cX2_rowsIn 6 = .ok (.aload_n 0, 1) := by decide +kernel
theorem dX2_rowsIn_7 : decode cX2_rowsIn 7 = .ok (.getfield 18, 3) := by decide +kernel
theorem dX2_rowsIn_10 : decode cX2_rowsIn 10 = .ok (.iload_n 1, 1) := by decide +kernel
theorem dX2_rowsIn_11 : decode cX2_rowsIn 11 = .ok (.iaload, 1) := by decide +kernel
theorem dX2_rowsIn_12 : decode cX2_rowsIn 12 = .ok (.idiv, 1) := by decide +kernel
theorem dX2_rowsIn_13 : decode cX2_rowsIn 13 = .ok (.ireturn, 1) := by decide +kernel
theorem dX2_columnsIn_0 : decode cX2_columnsIn 0 = .ok (.aload_n 0, 1) := by decide +kernel
theorem dX2_columnsIn_1 : decode cX2_columnsIn 1 = .ok (.getfield 21, 3) := by decide +kernel
theorem dX2_columnsIn_4 : decode cX2_columnsIn 4 = .ok (.iload_n 2, 1) := by decide +kernel
theorem dX2_columnsIn_5 : decode cX2_columnsIn 5 = .ok (.iaload, 1) := by decide +kernel
theorem dX2_columnsIn_6 : decode cX2_columnsIn 6 = .ok (.aload_n 0, 1) := by decide +kernel
theorem dX2_columnsIn_7 : decode cX2_columnsIn 7 = .ok (.getfield 21, 3) := by decide +kernel
theorem dX2_columnsIn_10 : decode cX2_columnsIn 10 = .ok (.iload_n 1, 1) := by decide +kernel
theorem dX2_columnsIn_11 : decode cX2_columnsIn 11 = .ok (.iaload, 1) := by decide +kernel
theorem dX2_columnsIn_12 : decode cX2_columnsIn 12 = .ok (.idiv, 1) := by decide +kernel
theorem dX2_columnsIn_13 : decode cX2_columnsIn 13 = .ok (.ireturn, 1) := by decide +kernel
theorem gX2_keyAbove_X2_rowOfKey : GoodIn wsX2_keyAbove (wsV RX2 83 RX2 yX2_rowOfKey wsX2_rowOfKey) := gw_c t_w97 (gw_c t_w96 (gw_c t_w95 (gw_c t_w1 (gw_c t_w94 (gw_t)))))
theorem gX2_keyAbove_X2_rowStart : GoodIn wsX2_keyAbove (wsV RX2 76 RX2 yX2_rowStart wsX2_rowStart) := gw_c t_w92 (gw_c t_w24 (gw_c t_w23 (gw_c t_w1 (gw_c t_w22 (gw_t)))))
theorem gX2_keyAbove_X2_rowsIn : GoodIn wsX2_keyAbove (wsV RX2 86 RX2 yX2_rowsIn wsX2_rowsIn) := gw_c t_w98 (gw_c t_w69 (gw_c t_w68 (gw_c t_w1 (gw_c t_w67 (gw_t)))))
theorem gX2_keyAbove_X2_columnsIn : GoodIn wsX2_keyAbove (wsV RX2 89 RX2 yX2_columnsIn wsX2_columnsIn) := gw_c t_w99 (gw_c t_w73 (gw_c t_w72 (gw_c t_w1 (gw_c t_w71 (gw_t)))))
theorem dX2_keyAbove_0 : decode cX2_keyAbove 0 = .ok (.aload_n 0, 1) := by decide +kernel
theorem dX2_keyAbove_1 : decode cX2_keyAbove 1 = .ok (.iload_n 1, 1) := by decide +kernel
theorem dX2_keyAbove_2 : decode cX2_keyAbove 2 = .ok (.iload_n 2, 1) := by decide +kernel
theorem dX2_keyAbove_3 : decode cX2_keyAbove 3 = .ok (.invokevirtual 83, 3) := by decide +kernel
theorem dX2_keyAbove_6 : decode cX2_keyAbove 6 = .ok (.istore 4, 2) := by decide +kernel
theorem dX2_keyAbove_8 : decode cX2_keyAbove 8 = .ok (.iload 4, 2) := by decide +kernel
theorem dX2_keyAbove_10 : decode cX2_keyAbove 10 = .ok (.ifCond .ne 5, 3) := by decide +kernel
theorem dX2_keyAbove_13 : decode cX2_keyAbove 13 = .ok (.iconst 0, 1) := by decide +kernel
theorem dX2_keyAbove_14 : decode cX2_keyAbove 14 = .ok (.ireturn, 1) := by decide +kernel
theorem dX2_keyAbove_15 : decode cX2_keyAbove 15 = .ok (.iload 4, 2) := by decide +kernel
theorem dX2_keyAbove_17 : decode cX2_keyAbove 17 = .ok (.aload_n 0, 1) := by decide +kernel
theorem dX2_keyAbove_18 : decode cX2_keyAbove 18 = .ok (.getfield 24, 3) := by decide +kernel
theorem dX2_keyAbove_21 : decode cX2_keyAbove 21 = .ok (.iload_n 1, 1) := by decide +kernel
theorem dX2_keyAbove_22 : decode cX2_keyAbove 22 = .ok (.iaload, 1) := by decide +kernel
theorem dX2_keyAbove_23 : decode cX2_keyAbove 23 = .ok (.iconst 1, 1) := by decide +kernel
theorem dX2_keyAbove_24 : decode cX2_keyAbove 24 = .ok (.isub, 1) := by decide +kernel
theorem dX2_keyAbove_25 : decode cX2_keyAbove 25 = .ok (.if_icmp .ne 12, 3) := by decide +kernel
theorem dX2_keyAbove_28 : decode cX2_keyAbove 28 = .ok (.aload_n 0, 1) := by decide +kernel
theorem dX2_keyAbove_29 : decode cX2_keyAbove 29 = .ok (.getfield 27, 3) := by decide +kernel
theorem dX2_keyAbove_32 : decode cX2_keyAbove 32 = .ok (.iload_n 3, 1) := by decide +kernel
theorem dX2_keyAbove_33 : decode cX2_keyAbove 33 = .ok (.iaload, 1) := by decide +kernel
theorem dX2_keyAbove_34 : decode cX2_keyAbove 34 = .ok (.iconst 1, 1) := by decide +kernel
theorem dX2_keyAbove_35 : decode cX2_keyAbove 35 = .ok (.isub, 1) := by decide +kernel
theorem dX2_keyAbove_36 : decode cX2_keyAbove 36 = .ok (.ireturn, 1) := by decide +kernel
theorem dX2_keyAbove_37 : decode cX2_keyAbove 37 = .ok (.iload_n 2, 1) := by decide +kernel
theorem dX2_keyAbove_38 : decode cX2_keyAbove 38 = .ok (.aload_n 0, 1) := by decide +kernel
theorem dX2_keyAbove_39 : decode cX2_keyAbove 39 = .ok (.iload_n 1, 1) := by decide +kernel
theorem dX2_keyAbove_40 : decode cX2_keyAbove 40 = .ok (.iload 4, 2) := by decide +kernel
theorem dX2_keyAbove_42 : decode cX2_keyAbove 42 = .ok (.invokevirtual 76, 3) := by decide +kernel
theorem dX2_keyAbove_45 : decode cX2_keyAbove 45 = .ok (.isub, 1) := by decide +kernel
theorem dX2_keyAbove_46 : decode cX2_keyAbove 46 = .ok (.istore 5, 2) := by decide +kernel
theorem dX2_keyAbove_48 : decode cX2_keyAbove 48 = .ok (.iload 4, 2) := by decide +kernel
theorem dX2_keyAbove_50 : decode cX2_keyAbove 50 = .ok (.iconst 1, 1) := by decide +kernel
theorem dX2_keyAbove_51 : decode cX2_keyAbove 51 = .ok (.isub, 1) := by decide +kernel
theorem dX2_keyAbove_52 : decode cX2_keyAbove 52 = .ok (.aload_n 0, 1) := by decide +kernel
theorem dX2_keyAbove_53 : decode cX2_keyAbove 53 = .ok (.iload_n 3, 1) := by decide +kernel
theorem dX2_keyAbove_54 : decode cX2_keyAbove 54 = .ok (.iload_n 1, 1) := by decide +kernel
theorem dX2_keyAbove_55 : decode cX2_keyAbove 55 = .ok (.invokevirtual 86, 3) := by decide +kernel
theorem dX2_keyAbove_58 : decode cX2_keyAbove 58 = .ok (.idiv, 1) := by decide +kernel
theorem dX2_keyAbove_59 : decode cX2_keyAbove 59 = .ok (.iconst 1, 1) := by decide +kernel
theorem dX2_keyAbove_60 : decode cX2_keyAbove 60 = .ok (.iadd, 1) := by decide +kernel
theorem dX2_keyAbove_61 : decode cX2_keyAbove 61 = .ok (.istore 6, 2) := by decide +kernel
theorem dX2_keyAbove_63 : decode cX2_keyAbove 63 = .ok (.aload_n 0, 1) := by decide +kernel
theorem dX2_keyAbove_64 : decode cX2_keyAbove 64 = .ok (.iload_n 3, 1) := by decide +kernel
theorem dX2_keyAbove_65 : decode cX2_keyAbove 65 = .ok (.iload 6, 2) := by decide +kernel
theorem dX2_keyAbove_67 : decode cX2_keyAbove 67 = .ok (.invokevirtual 76, 3) := by decide +kernel
theorem dX2_keyAbove_70 : decode cX2_keyAbove 70 = .ok (.iload 5, 2) := by decide +kernel
theorem dX2_keyAbove_72 : decode cX2_keyAbove 72 = .ok (.aload_n 0, 1) := by decide +kernel
theorem dX2_keyAbove_73 : decode cX2_keyAbove 73 = .ok (.iload_n 3, 1) := by decide +kernel
theorem dX2_keyAbove_74 : decode cX2_keyAbove 74 = .ok (.iload_n 1, 1) := by decide +kernel
theorem dX2_keyAbove_75 : decode cX2_keyAbove 75 = .ok (.invokevirtual 89, 3) := by decide +kernel
theorem dX2_keyAbove_78 : decode cX2_keyAbove 78 = .ok (.idiv, 1) := by decide +kernel
theorem dX2_keyAbove_79 : decode cX2_keyAbove 79 = .ok (.iadd, 1) := by decide +kernel
theorem dX2_keyAbove_80 : decode cX2_keyAbove 80 = .ok (.ireturn, 1) := by decide +kernel
theorem dX2_bandOfZone_0 : decode cX2_bandOfZone 0 = .ok (.iconst 0, 1) := by decide +kernel
theorem dX2_bandOfZone_1 : decode cX2_bandOfZone 1 = .ok (.istore_n 1, 1) := by decide +kernel
theorem dX2_bandOfZone_2 : decode cX2_bandOfZone 2 = .ok (.bipush 43, 2) := by decide +kernel
theorem dX2_bandOfZone_4 : decode cX2_bandOfZone 4 = .ok (.istore_n 2, 1) := by decide +kernel
theorem dX2_bandOfZone_5 : decode cX2_bandOfZone 5 = .ok (.iconst 0, 1) := by decide +kernel
theorem dX2_bandOfZone_6 : decode cX2_bandOfZone 6 = .ok (.istore_n 3, 1) := by decide +kernel
theorem dX2_bandOfZone_7 : decode cX2_bandOfZone 7 = .ok (.iload_n 3, 1) := by decide +kernel
theorem dX2_bandOfZone_8 : decode cX2_bandOfZone 8 = .ok (.bipush 44, 2) := by decide +kernel
theorem dX2_bandOfZone_10 : decode cX2_bandOfZone 10 = .ok (.if_icmp .ge 44, 3) := by decide +kernel
theorem dX2_bandOfZone_13 : decode cX2_bandOfZone 13 = .ok (.iload_n 1, 1) := by decide +kernel
theorem dX2_bandOfZone_14 : decode cX2_bandOfZone 14 = .ok (.iload_n 2, 1) := by decide +kernel
theorem dX2_bandOfZone_15 : decode cX2_bandOfZone 15 = .ok (.if_icmp .ge 39, 3) := by decide +kernel
theorem dX2_bandOfZone_18 : decode cX2_bandOfZone 18 = .ok (.iload_n 1, 1) := by decide +kernel
theorem dX2_bandOfZone_19 : decode cX2_bandOfZone 19 = .ok (.iload_n 2, 1) := by decide +kernel
theorem dX2_bandOfZone_20 : decode cX2_bandOfZone 20 = .ok (.iadd, 1) := by decide +kernel
theorem dX2_bandOfZone_21 : decode cX2_bandOfZone 21 = .ok (.iconst 1, 1) := by decide +kernel
theorem dX2_bandOfZone_22 : decode cX2_bandOfZone 22 = .ok (.iadd, 1) := by decide +kernel
theorem dX2_bandOfZone_23 : decode cX2_bandOfZone 23 = .ok (.iconst 2, 1) := by decide +kernel
theorem dX2_bandOfZone_24 : decode cX2_bandOfZone 24 = .ok (.idiv, 1) := by decide +kernel
theorem dX2_bandOfZone_25 : decode cX2_bandOfZone 25 = .ok (.istore 4, 2) := by decide +kernel
theorem dX2_bandOfZone_27 : decode cX2_bandOfZone 27 = .ok (.iload_n 0, 1) := by decide +kernel
theorem dX2_bandOfZone_28 : decode cX2_bandOfZone 28 = .ok (.getstatic 50, 3) := by decide +kernel
theorem dX2_bandOfZone_31 : decode cX2_bandOfZone 31 = .ok (.iload 4, 2) := by decide +kernel
theorem dX2_bandOfZone_33 : decode cX2_bandOfZone 33 = .ok (.iaload, 1) := by decide +kernel
theorem dX2_bandOfZone_34 : decode cX2_bandOfZone 34 = .ok (.if_icmp .lt 9, 3) := by decide +kernel
theorem dX2_bandOfZone_37 : decode cX2_bandOfZone 37 = .ok (.iload 4, 2) := by decide +kernel
theorem dX2_bandOfZone_39 : decode cX2_bandOfZone 39 = .ok (.istore_n 1, 1) := by decide +kernel
theorem dX2_bandOfZone_40 : decode cX2_bandOfZone 40 = .ok (.goto 8, 3) := by decide +kernel
theorem dX2_bandOfZone_43 : decode cX2_bandOfZone 43 = .ok (.iload 4, 2) := by decide +kernel
theorem dX2_bandOfZone_45 : decode cX2_bandOfZone 45 = .ok (.iconst 1, 1) := by decide +kernel
theorem dX2_bandOfZone_46 : decode cX2_bandOfZone 46 = .ok (.isub, 1) := by decide +kernel
theorem dX2_bandOfZone_47 : decode cX2_bandOfZone 47 = .ok (.istore_n 2, 1) := by decide +kernel
theorem dX2_bandOfZone_48 : decode cX2_bandOfZone 48 = .ok (.iinc 3 1, 3) := by decide +kernel
theorem dX2_bandOfZone_51 : decode cX2_bandOfZone 51 = .ok (.goto (-44), 3) := by decide +kernel
theorem dX2_bandOfZone_54 : decode cX2_bandOfZone 54 = .ok (.iload_n 1, 1) := by decide +kernel
theorem dX2_bandOfZone_55 : decode cX2_bandOfZone 55 = .ok (.ireturn, 1) := by decide +kernel
theorem dX3_init_0 : decode cX3_init 0 = .ok (.aload_n 0, 1) := by decide +kernel
theorem dX3_init_1 : decode cX3_init 1 = .ok (.invokespecial 3, 3) := by decide +kernel
theorem dX3_init_4 : decode cX3_init 4 = .ok (.aload_n 0, 1) := by decide +kernel
theorem dX3_init_5 : decode cX3_init 5 = .ok (.iconst 0, 1) := by decide +kernel
theorem dX3_init_6 : decode cX3_init 6 = .ok (.putfield 9, 3) := by decide +kernel
theorem dX3_init_9 : decode cX3_init 9 = .ok (.aload_n 0, 1) := by decide +kernel
theorem dX3_init_10 : decode cX3_init 10 = .ok (.iconst 0, 1) := by decide +kernel
theorem dX3_init_11 : decode cX3_init 11 = .ok (.putfield 15, 3) := by decide +kernel
theorem dX3_init_14 : decode cX3_init 14 = .ok (.aload_n 0, 1) := by decide +kernel
theorem dX3_init_15 : decode cX3_init 15 = .ok (.iconst 0, 1) := by decide +kernel
theorem dX3_init_16 : decode cX3_init 16 = .ok (.putfield 18, 3) := by decide +kernel
theorem dX3_init_19 : decode cX3_init 19 = .ok (.aload_n 0, 1) := by decide +kernel
theorem dX3_init_20 : decode cX3_init 20 = .ok (.iconst 0, 1) := by decide +kernel
theorem dX3_init_21 : decode cX3_init 21 = .ok (.putfield 21, 3) := by decide +kernel
theorem dX3_init_24 : decode cX3_init 24 = .ok (.aload_n 0, 1) := by decide +kernel
theorem dX3_init_25 : decode cX3_init 25 = .ok (.iconst 0, 1) := by decide +kernel
theorem dX3_init_26 : decode cX3_init 26 = .ok (.putfield 24, 3) := by decide +kernel
theorem dX3_init_29 : decode cX3_init 29 = .ok (.aload_n 0, 1) := by decide +kernel
theorem dX3_init_30 : decode cX3_init 30 = .ok (.iconst 0, 1) := by decide +kernel
theorem dX3_init_31 : decode cX3_init 31 = .ok (.putfield 27, 3) := by decide +kernel
theorem dX3_init_34 : decode cX3_init 34 = .ok (.aload_n 0, 1) := by decide +kernel
theorem dX3_init_35 : decode cX3_init 35 = .ok (.iconst 0, 1) := by decide +kernel
theorem dX3_init_36 : decode cX3_init 36 = .ok (.putfield 30, 3) := by decide +kernel
theorem dX3_init_39 : decode cX3_init 39 = .ok (.aload_n 0, 1) := by decide +kernel
theorem dX3_init_40 : decode cX3_init 40 = .ok (.aload_n 1, 1) := by decide +kernel
theorem dX3_init_41 : decode cX3_init 41 = .ok (.putfield 34, 3) := by decide +kernel
theorem dX3_init_44 : decode cX3_init 44 = .ok (.aload_n 0, 1) := by decide +kernel
theorem dX3_init_45 : decode cX3_init 45 = .ok (.aload_n 2, 1) := by decide +kernel
theorem dX3_init_46 : decode cX3_init 46 = .ok (.putfield 38, 3) := by decide +kernel
theorem dX3_init_49 : decode cX3_init 49 = .ok (.return_, 1) := by decide +kernel
theorem gX3_read_X3_here : GoodIn wsX3_read (wsV RX3 42 RX3 yX3_here wsX3_here) := gw_c t_w104 (gw_c t_w103 (gw_c t_w102 (gw_c t_w101 (gw_c t_w100 (gw_t)))))
theorem gX3_read_X3_failHere : GoodIn wsX3_read (wsV RX3 46 RX3 yX3_failHere wsX3_failHere) := gw_c t_w108 (gw_c t_w107 (gw_c t_w106 (gw_c t_w101 (gw_c t_w105 (gw_t)))))
theorem gX3_read_X3_readCap : GoodIn wsX3_read (wsV RX3 50 RX3 yX3_readCap wsX3_readCap) := gw_c t_w112 (gw_c t_w111 (gw_c t_w110 (gw_c t_w101 (gw_c t_w109 (gw_t)))))
theorem gX3_read_X3_readNumbers : GoodIn wsX3_read (wsV RX3 54 RX3 yX3_readNumbers wsX3_readNumbers) := gw_c t_w116 (gw_c t_w115 (gw_c t_w114 (gw_c t_w101 (gw_c t_w113 (gw_t)))))
theorem dX3_read_0 : decode cX3_read 0 = .ok (.aload_n 0, 1) := by decide +kernel
theorem dX3_read_1 : decode cX3_read 1 = .ok (.iload_n 1, 1) := by decide +kernel
theorem dX3_read_2 : decode cX3_read 2 = .ok (.putfield 9, 3) := by decide +kernel
theorem dX3_read_5 : decode cX3_read 5 = .ok (.aload_n 0, 1) := by decide +kernel
theorem dX3_read_6 : decode cX3_read 6 = .ok (.iload_n 2, 1) := by decide +kernel
theorem dX3_read_7 : decode cX3_read 7 = .ok (.putfield 15, 3) := by decide +kernel
theorem dX3_read_10 : decode cX3_read 10 = .ok (.aload_n 0, 1) := by decide +kernel
theorem dX3_read_11 : decode cX3_read 11 = .ok (.iconst 0, 1) := by decide +kernel
theorem dX3_read_12 : decode cX3_read 12 = .ok (.putfield 24, 3) := by decide +kernel
theorem dX3_read_15 : decode cX3_read 15 = .ok (.aload_n 0, 1) := by decide +kernel
theorem dX3_read_16 : decode cX3_read 16 = .ok (.iconst 0, 1) := by decide +kernel
theorem dX3_read_17 : decode cX3_read 17 = .ok (.putfield 30, 3) := by decide +kernel
theorem dX3_read_20 : decode cX3_read 20 = .ok (.aload_n 0, 1) := by decide +kernel
theorem dX3_read_21 : decode cX3_read 21 = .ok (.invokevirtual 42, 3) := by decide +kernel
theorem dX3_read_24 : decode cX3_read 24 = .ok (.istore_n 3, 1) := by decide +kernel
theorem dX3_read_25 : decode cX3_read 25 = .ok (.iload_n 3, 1) := by decide +kernel
theorem dX3_read_26 : decode cX3_read 26 = .ok (.bipush 78, 2) := by decide +kernel
theorem dX3_read_28 : decode cX3_read 28 = .ok (.if_icmp .eq 14, 3) := by decide +kernel
theorem dX3_read_31 : decode cX3_read 31 = .ok (.iload_n 3, 1) := by decide +kernel
theorem dX3_read_32 : decode cX3_read 32 = .ok (.bipush 83, 2) := by decide +kernel
theorem dX3_read_34 : decode cX3_read 34 = .ok (.if_icmp .eq 8, 3) := by decide +kernel
theorem dX3_read_37 : decode cX3_read 37 = .ok (.aload_n 0, 1) := by decide +kernel
theorem dX3_read_38 : decode cX3_read 38 = .ok (.invokevirtual 46, 3) := by decide +kernel
theorem dX3_read_41 : decode cX3_read 41 = .ok (.ireturn, 1) := by decide +kernel
theorem dX3_read_42 : decode cX3_read 42 = .ok (.aload_n 0, 1) := by decide +kernel
theorem dX3_read_43 : decode cX3_read 43 = .ok (.dup, 1) := by decide +kernel
theorem dX3_read_44 : decode cX3_read 44 = .ok (.getfield 9, 3) := by decide +kernel
theorem dX3_read_47 : decode cX3_read 47 = .ok (.iconst 1, 1) := by decide +kernel
theorem dX3_read_48 : decode cX3_read 48 = .ok (.iadd, 1) := by decide +kernel
theorem dX3_read_49 : decode cX3_read 49 = .ok (.putfield 9, 3) := by decide +kernel
theorem dX3_read_52 : decode cX3_read 52 = .ok (.aload_n 0, 1) := by decide +kernel
theorem dX3_read_53 : decode cX3_read 53 = .ok (.invokevirtual 42, 3) := by decide +kernel
theorem dX3_read_56 : decode cX3_read 56 = .ok (.istore 4, 2) := by decide +kernel
theorem dX3_read_58 : decode cX3_read 58 = .ok (.iload 4, 2) := by decide +kernel
theorem dX3_read_60 : decode cX3_read 60 = .ok (.bipush 90, 2) := by decide +kernel
theorem dX3_read_62 : decode cX3_read 62 = .ok (.if_icmp .ne 19, 3) := by decide +kernel
theorem dX3_read_65 : decode cX3_read 65 = .ok (.aload_n 0, 1) := by decide +kernel
theorem dX3_read_66 : decode cX3_read 66 = .ok (.iload_n 3, 1) := by decide +kernel
theorem dX3_read_67 : decode cX3_read 67 = .ok (.bipush 78, 2) := by decide +kernel
theorem dX3_read_69 : decode cX3_read 69 = .ok (.if_icmp .ne 7, 3) := by decide +kernel
theorem dX3_read_72 : decode cX3_read 72 = .ok (.iconst 1, 1) := by decide +kernel
theorem dX3_read_73 : decode cX3_read 73 = .ok (.goto 4, 3) := by decide +kernel
theorem dX3_read_76 : decode cX3_read 76 = .ok (.iconst 0, 1) := by decide +kernel
theorem dX3_read_77 : decode cX3_read 77 = .ok (.invokevirtual 50, 3) := by decide +kernel
theorem dX3_read_80 : decode cX3_read 80 = .ok (.ireturn, 1) := by decide +kernel
theorem dX3_read_81 : decode cX3_read 81 = .ok (.iload 4, 2) := by decide +kernel
theorem dX3_read_83 : decode cX3_read 83 = .ok (.bipush 65, 2) := by decide +kernel
theorem dX3_read_85 : decode cX3_read 85 = .ok (.if_icmp .lt 10, 3) := by decide +kernel
theorem dX3_read_88 : decode cX3_read 88 = .ok (.iload 4, 2) := by decide +kernel
theorem dX3_read_90 : decode cX3_read 90 = .ok (.bipush 86, 2) := by decide +kernel
theorem dX3_read_92 : decode cX3_read 92 = .ok (.if_icmp .le 8, 3) := by decide +kernel
theorem dX3_read_95 : decode cX3_read 95 = .ok (.aload_n 0, 1) := by decide +kernel
theorem dX3_read_96 : decode cX3_read 96 = .ok (.invokevirtual 46, 3) := by decide +kernel
theorem dX3_read_99 : decode cX3_read 99 = .ok (.ireturn, 1) := by decide +kernel
theorem dX3_read_100 : decode cX3_read 100 = .ok (.aload_n 0, 1) := by decide +kernel
theorem dX3_read_101 : decode cX3_read 101 = .ok (.dup, 1) := by decide +kernel
theorem dX3_read_102 : decode cX3_read 102 = .ok (.getfield 9, 3) := by decide +kernel
theorem dX3_read_105 : decode cX3_read 105 = .ok (.iconst 1, 1) := by decide +kernel
theorem dX3_read_106 : decode cX3_read 106 = .ok (.iadd, 1) := by decide +kernel
theorem dX3_read_107 : decode cX3_read 107 = .ok (.putfield 9, 3) := by decide +kernel
theorem dX3_read_110 : decode cX3_read 110 = .ok (.iload 4, 2) := by decide +kernel
theorem dX3_read_112 : decode cX3_read 112 = .ok (.bipush 65, 2) := by decide +kernel
theorem dX3_read_114 : decode cX3_read 114 = .ok (.isub, 1) := by decide +kernel
theorem dX3_read_115 : decode cX3_read 115 = .ok (.istore 5, 2) := by decide +kernel
theorem dX3_read_117 : decode cX3_read 117 = .ok (.aload_n 0, 1) := by decide +kernel
theorem dX3_read_118 : decode cX3_read 118 = .ok (.iload_n 3, 1) := by decide +kernel
theorem dX3_read_119 : decode cX3_read 119 = .ok (.bipush 78, 2) := by decide +kernel
theorem dX3_read_121 : decode cX3_read 121 = .ok (.if_icmp .ne 11, 3) := by decide +kernel
theorem dX3_read_124 : decode cX3_read 124 = .ok (.bipush 21, 2) := by decide +kernel
theorem dX3_read_126 : decode cX3_read 126 = .ok (.iload 5, 2) := by decide +kernel
theorem dX3_read_128 : decode cX3_read 128 = .ok (.isub, 1) := by decide +kernel
theorem dX3_read_129 : decode cX3_read 129 = .ok (.goto 8, 3) := by decide +kernel
theorem dX3_read_132 : decode cX3_read 132 = .ok (.bipush 22, 2) := by decide +kernel
theorem dX3_read_134 : decode cX3_read 134 = .ok (.iload 5, 2) := by decide +kernel
theorem dX3_read_136 : decode cX3_read 136 = .ok (.iadd, 1) := by decide +kernel
theorem dX3_read_137 : decode cX3_read 137 = .ok (.invokevirtual 54, 3) := by decide +kernel
theorem dX3_read_140 : decode cX3_read 140 = .ok (.ireturn, 1) := by decide +kernel
theorem gX3_readCap_X3_failHere : GoodIn wsX3_readCap (wsV RX3 46 RX3 yX3_failHere wsX3_failHere) := gw_c t_w108 (gw_c t_w107 (gw_c t_w106 (gw_c t_w101 (gw_c t_w105 (gw_t)))))
theorem dX3_readCap_0 : decode cX3_readCap 0 = .ok (.aload_n 0, 1) := by decide +kernel
theorem dX3_readCap_1 : decode cX3_readCap 1 = .ok (.dup, 1) := by decide +kernel
theorem dX3_readCap_2 : decode cX3_readCap 2 = .ok (.getfield 9, 3) := by decide +kernel
theorem dX3_readCap_5 : decode cX3_readCap 5 = .ok (.iconst 1, 1) := by decide +kernel
theorem dX3_readCap_6 : decode cX3_readCap 6 = .ok (.iadd, 1) := by decide +kernel
theorem dX3_readCap_7 : decode cX3_readCap 7 = .ok (.putfield 9, 3) := by decide +kernel
theorem dX3_readCap_10 : decode cX3_readCap 10 = .ok (.aload_n 0, 1) := by decide +kernel
theorem dX3_readCap_11 : decode cX3_readCap 11 = .ok (.getfield 9, 3) := by decide +kernel
theorem dX3_readCap_14 : decode cX3_readCap 14 = .ok (.aload_n 0, 1) := by decide +kernel
theorem dX3_readCap_15 : decode cX3_readCap 15 = .ok (.getfield 15, 3) := by decide +kernel
theorem dX3_readCap_18 : decode cX3_readCap 18 = .ok (.if_icmp .ge 8, 3) := by decide +kernel
theorem dX3_readCap_21 : decode cX3_readCap 21 = .ok (.aload_n 0, 1) := by decide +kernel
theorem dX3_readCap_22 : decode cX3_readCap 22 = .ok (.invokevirtual 46, 3) := by decide +kernel
theorem dX3_readCap_25 : decode cX3_readCap 25 = .ok (.ireturn, 1) := by decide +kernel
theorem dX3_readCap_26 : decode cX3_readCap 26 = .ok (.aload_n 0, 1) := by decide +kernel
theorem dX3_readCap_27 : decode cX3_readCap 27 = .ok (.iconst 0, 1) := by decide +kernel
theorem dX3_readCap_28 : decode cX3_readCap 28 = .ok (.putfield 18, 3) := by decide +kernel
theorem dX3_readCap_31 : decode cX3_readCap 31 = .ok (.aload_n 0, 1) := by decide +kernel
theorem dX3_readCap_32 : decode cX3_readCap 32 = .ok (.iload_n 1, 1) := by decide +kernel
theorem dX3_readCap_33 : decode cX3_readCap 33 = .ok (.ifCond .eq 7, 3) := by decide +kernel
theorem dX3_readCap_36 : decode cX3_readCap 36 = .ok (.iconst 0, 1) := by decide +kernel
theorem dX3_readCap_37 : decode cX3_readCap 37 = .ok (.goto 14, 3) := by decide +kernel
theorem dX3_readCap_40 : decode cX3_readCap 40 = .ok (.aload_n 0, 1) := by decide +kernel
theorem dX3_readCap_41 : decode cX3_readCap 41 = .ok (.getfield 34, 3) := by decide +kernel
theorem dX3_readCap_44 : decode cX3_readCap 44 = .ok (.getfield 58, 3) := by decide +kernel
theorem dX3_readCap_47 : decode cX3_readCap 47 = .ok (.iconst 0, 1) := by decide +kernel
theorem dX3_readCap_48 : decode cX3_readCap 48 = .ok (.iaload, 1) := by decide +kernel
theorem dX3_readCap_49 : decode cX3_readCap 49 = .ok (.iconst 1, 1) := by decide +kernel
theorem dX3_readCap_50 : decode cX3_readCap 50 = .ok (.isub, 1) := by decide +kernel
theorem dX3_readCap_51 : decode cX3_readCap 51 = .ok (.putfield 21, 3) := by decide +kernel
theorem dX3_readCap_54 : decode cX3_readCap 54 = .ok (.iconst 1, 1) := by decide +kernel
theorem dX3_readCap_55 : decode cX3_readCap 55 = .ok (.ireturn, 1) := by decide +kernel
theorem gX3_readNumbers_X3_readNumber : GoodIn wsX3_readNumbers (wsV RX3 67 RX3 yX3_readNumber wsX3_readNumber) := gw_c t_w120 (gw_c t_w119 (gw_c t_w118 (gw_c t_w101 (gw_c t_w117 (gw_t)))))
theorem gX3_readNumbers_X3_here : GoodIn wsX3_readNumbers (wsV RX3 42 RX3 yX3_here wsX3_here) := gw_c t_w104 (gw_c t_w103 (gw_c t_w102 (gw_c t_w101 (gw_c t_w100 (gw_t)))))
theorem gX3_readNumbers_X3_fail : GoodIn wsX3_readNumbers (wsV RX3 77 RX3 yX3_fail wsX3_fail) := gw_c t_w124 (gw_c t_w123 (gw_c t_w122 (gw_c t_w101 (gw_c t_w121 (gw_t)))))
theorem gX3_readNumbers_X3_failHere : GoodIn wsX3_readNumbers (wsV RX3 46 RX3 yX3_failHere wsX3_failHere) := gw_c t_w108 (gw_c t_w107 (gw_c t_w106 (gw_c t_w101 (gw_c t_w105 (gw_t)))))
theorem gX3_readNumbers_X2_rowStart : GoodIn wsX3_readNumbers (wsV RX3 81 RX2 yX2_rowStart wsX2_rowStart) := gw_c t_w125 (gw_c t_w24 (gw_c t_w23 (gw_c t_w1 (gw_c t_w22 (gw_t)))))
theorem dX3_readNumbers_0 : decode cX3_readNumbers 0 = .ok (.aload_n 0, 1) := by decide +kernel
theorem dX3_readNumbers_1 : decode cX3_readNumbers 1 = .ok (.getstatic 64, 3) := by decide +kernel
theorem dX3_readNumbers_4 : decode cX3_readNumbers 4 = .ok (.iload_n 1, 1) := by decide +kernel
theorem dX3_readNumbers_5 : decode cX3_readNumbers 5 = .ok (.iaload, 1) := by decide +kernel
theorem dX3_readNumbers_6 : decode cX3_readNumbers 6 = .ok (.invokevirtual 67, 3) := by decide +kernel
theorem dX3_readNumbers_9 : decode cX3_readNumbers 9 = .ok (.istore_n 2, 1) := by decide +kernel
theorem dX3_readNumbers_10 : decode cX3_readNumbers 10 = .ok (.iload_n 1, 1) := by decide +kernel
theorem dX3_readNumbers_11 : decode cX3_readNumbers 11 = .ok (.istore_n 3, 1) := by decide +kernel
theorem dX3_readNumbers_12 : decode cX3_readNumbers 12 = .ok (.iload_n 2, 1) := by decide +kernel
theorem dX3_readNumbers_13 : decode cX3_readNumbers 13 = .ok (.iconst 1, 1) := by decide +kernel
theorem dX3_readNumbers_14 : decode cX3_readNumbers 14 = .ok (.isub, 1) := by decide +kernel
theorem dX3_readNumbers_15 : decode cX3_readNumbers 15 = .ok (.istore 4, 2) := by decide +kernel
theorem dX3_readNumbers_17 : decode cX3_readNumbers 17 = .ok (.aload_n 0, 1) := by decide +kernel
theorem dX3_readNumbers_18 : decode cX3_readNumbers 18 = .ok (.iconst 0, 1) := by decide +kernel
theorem dX3_readNumbers_19 : decode cX3_readNumbers 19 = .ok (.putfield 18, 3) := by decide +kernel
theorem dX3_readNumbers_22 : decode cX3_readNumbers 22 = .ok (.aload_n 0, 1) := by decide +kernel
theorem dX3_readNumbers_23 : decode cX3_readNumbers 23 = .ok (.getfield 24, 3) := by decide +kernel
theorem dX3_readNumbers_26 : decode cX3_readNumbers 26 = .ok (.ifCond .ne 124, 3) := by decide +kernel
theorem dX3_readNumbers_29 : decode cX3_readNumbers 29 = .ok (.aload_n 0, 1) := by decide +kernel
theorem dX3_readNumbers_30 : decode cX3_readNumbers 30 = .ok (.getfield 9, 3) := by decide +kernel
theorem dX3_readNumbers_33 : decode cX3_readNumbers 33 = .ok (.aload_n 0, 1) := by decide +kernel
theorem dX3_readNumbers_34 : decode cX3_readNumbers 34 = .ok (.getfield 15, 3) := by decide +kernel
theorem dX3_readNumbers_37 : decode cX3_readNumbers 37 = .ok (.if_icmp .ge 113, 3) := by decide +kernel
theorem dX3_readNumbers_40 : decode cX3_readNumbers 40 = .ok (.aload_n 0, 1) := by decide +kernel
theorem dX3_readNumbers_41 : decode cX3_readNumbers 41 = .ok (.getfield 18, 3) := by decide +kernel
theorem dX3_readNumbers_44 : decode cX3_readNumbers 44 = .ok (.iconst 4, 1) := by decide +kernel
theorem dX3_readNumbers_45 : decode cX3_readNumbers 45 = .ok (.if_icmp .ge 105, 3) := by decide +kernel
theorem dX3_readNumbers_48 : decode cX3_readNumbers 48 = .ok (.aload_n 0, 1) := by decide +kernel
theorem dX3_readNumbers_49 : decode cX3_readNumbers 49 = .ok (.invokevirtual 42, 3) := by decide +kernel
theorem dX3_readNumbers_52 : decode cX3_readNumbers 52 = .ok (.bipush 45, 2) := by decide +kernel
theorem dX3_readNumbers_54 : decode cX3_readNumbers 54 = .ok (.if_icmp .ne 96, 3) := by decide +kernel
theorem dX3_readNumbers_57 : decode cX3_readNumbers 57 = .ok (.aload_n 0, 1) := by decide +kernel
theorem dX3_readNumbers_58 : decode cX3_readNumbers 58 = .ok (.dup, 1) := by decide +kernel
theorem dX3_readNumbers_59 : decode cX3_readNumbers 59 = .ok (.getfield 9, 3) := by decide +kernel
theorem dX3_readNumbers_62 : decode cX3_readNumbers 62 = .ok (.iconst 1, 1) := by decide +kernel
theorem dX3_readNumbers_63 : decode cX3_readNumbers 63 = .ok (.iadd, 1) := by decide +kernel
theorem dX3_readNumbers_64 : decode cX3_readNumbers 64 = .ok (.putfield 9, 3) := by decide +kernel
theorem dX3_readNumbers_67 : decode cX3_readNumbers 67 = .ok (.aload_n 0, 1) := by decide +kernel
theorem dX3_readNumbers_68 : decode cX3_readNumbers 68 = .ok (.dup, 1) := by decide +kernel
theorem dX3_readNumbers_69 : decode cX3_readNumbers 69 = .ok (.getfield 18, 3) := by decide +kernel
theorem dX3_readNumbers_72 : decode cX3_readNumbers 72 = .ok (.iconst 1, 1) := by decide +kernel
theorem dX3_readNumbers_73 : decode cX3_readNumbers 73 = .ok (.iadd, 1) := by decide +kernel
theorem dX3_readNumbers_74 : decode cX3_readNumbers 74 = .ok (.putfield 18, 3) := by decide +kernel
theorem dX3_readNumbers_77 : decode cX3_readNumbers 77 = .ok (.aload_n 0, 1) := by decide +kernel
theorem dX3_readNumbers_78 : decode cX3_readNumbers 78 = .ok (.getfield 34, 3) := by decide +kernel
theorem dX3_readNumbers_81 : decode cX3_readNumbers 81 = .ok (.getfield 71, 3) := by decide +kernel
theorem dX3_readNumbers_84 : decode cX3_readNumbers 84 = .ok (.aload_n 0, 1) := by decide +kernel
theorem dX3_readNumbers_85 : decode cX3_readNumbers 85 = .ok (.getfield 18, 3) := by decide +kernel
theorem dX3_readNumbers_88 : decode cX3_readNumbers 88 = .ok (.iaload, 1) := by decide +kernel
theorem dX3_readNumbers_89 : decode cX3_readNumbers 89 = .ok (.istore 5, 2) := by decide +kernel
theorem dX3_readNumbers_91 : decode cX3_readNumbers 91 = .ok (.aload_n 0, 1) := by decide +kernel
theorem dX3_readNumbers_92 : decode cX3_readNumbers 92 = .ok (.aload_n 0, 1) := by decide +kernel
theorem dX3_readNumbers_93 : decode cX3_readNumbers 93 = .ok (.getfield 34, 3) := by decide +kernel
theorem dX3_readNumbers_96 : decode cX3_readNumbers 96 = .ok (.getfield 74, 3) := by decide +kernel
theorem dX3_readNumbers_99 : decode cX3_readNumbers 99 = .ok (.aload_n 0, 1) := by decide +kernel
theorem dX3_readNumbers_100 : decode cX3_readNumbers 100 = .ok (.getfield 18, 3) := by decide +kernel
theorem dX3_readNumbers_103 : decode cX3_readNumbers 103 = .ok (.iaload, 1) := by decide +kernel
theorem dX3_readNumbers_104 : decode cX3_readNumbers 104 = .ok (.iload 5, 2) := by decide +kernel
theorem dX3_readNumbers_106 : decode cX3_readNumbers 106 = .ok (.imul, 1) := by decide +kernel
theorem dX3_readNumbers_107 : decode cX3_readNumbers 107 = .ok (.invokevirtual 67, 3) := by decide +kernel
theorem dX3_readNumbers_110 : decode cX3_readNumbers 110 = .ok (.istore_n 2, 1) := by decide +kernel
theorem dX3_readNumbers_111 : decode cX3_readNumbers 111 = .ok (.iload_n 3, 1) := by decide +kernel
theorem dX3_readNumbers_112 : decode cX3_readNumbers 112 = .ok (.aload_n 0, 1) := by decide +kernel
theorem dX3_readNumbers_113 : decode cX3_readNumbers 113 = .ok (.getfield 34, 3) := by decide +kernel
theorem dX3_readNumbers_116 : decode cX3_readNumbers 116 = .ok (.getfield 74, 3) := by decide +kernel
theorem dX3_readNumbers_119 : decode cX3_readNumbers 119 = .ok (.aload_n 0, 1) := by decide +kernel
theorem dX3_readNumbers_120 : decode cX3_readNumbers 120 = .ok (.getfield 18, 3) := by decide +kernel
theorem dX3_readNumbers_123 : decode cX3_readNumbers 123 = .ok (.iaload, 1) := by decide +kernel
theorem dX3_readNumbers_124 : decode cX3_readNumbers 124 = .ok (.imul, 1) := by decide +kernel
theorem dX3_readNumbers_125 : decode cX3_readNumbers 125 = .ok (.iload_n 2, 1) := by decide +kernel
theorem dX3_readNumbers_126 : decode cX3_readNumbers 126 = .ok (.iconst 1, 1) := by decide +kernel
theorem dX3_readNumbers_127 : decode cX3_readNumbers 127 = .ok (.isub, 1) := by decide +kernel
theorem dX3_readNumbers_128 : decode cX3_readNumbers 128 = .ok (.iload 5, 2) := by decide +kernel
theorem dX3_readNumbers_130 : decode cX3_readNumbers 130 = .ok (.idiv, 1) := by decide +kernel
theorem dX3_readNumbers_131 : decode cX3_readNumbers 131 = .ok (.iadd, 1) := by decide +kernel
theorem dX3_readNumbers_132 : decode cX3_readNumbers 132 = .ok (.istore_n 3, 1) := by decide +kernel
theorem dX3_readNumbers_133 : decode cX3_readNumbers 133 = .ok (.iload 4, 2) := by decide +kernel
theorem dX3_readNumbers_135 : decode cX3_readNumbers 135 = .ok (.iload 5, 2) := by decide +kernel
theorem dX3_readNumbers_137 : decode cX3_readNumbers 137 = .ok (.imul, 1) := by decide +kernel
theorem dX3_readNumbers_138 : decode cX3_readNumbers 138 = .ok (.iload_n 2, 1) := by decide +kernel
theorem dX3_readNumbers_139 : decode cX3_readNumbers 139 = .ok (.iconst 1, 1) := by decide +kernel
theorem dX3_readNumbers_140 : decode cX3_readNumbers 140 = .ok (.isub, 1) := by decide +kernel
theorem dX3_readNumbers_141 : decode cX3_readNumbers 141 = .ok (.iload 5, 2) := by decide +kernel
theorem dX3_readNumbers_143 : decode cX3_readNumbers 143 = .ok (.irem, 1) := by decide +kernel
theorem dX3_readNumbers_144 : decode cX3_readNumbers 144 = .ok (.iadd, 1) := by decide +kernel
theorem dX3_readNumbers_145 : decode cX3_readNumbers 145 = .ok (.istore 4, 2) := by decide +kernel
theorem dX3_readNumbers_147 : decode cX3_readNumbers 147 = .ok (.goto (-125), 3) := by decide +kernel
theorem dX3_readNumbers_150 : decode cX3_readNumbers 150 = .ok (.aload_n 0, 1) := by decide +kernel
theorem dX3_readNumbers_151 : decode cX3_readNumbers 151 = .ok (.getfield 24, 3) := by decide +kernel
theorem dX3_readNumbers_154 : decode cX3_readNumbers 154 = .ok (.ifCond .ne 40, 3) := by decide +kernel
theorem dX3_readNumbers_157 : decode cX3_readNumbers 157 = .ok (.aload_n 0, 1) := by decide +kernel
theorem dX3_readNumbers_158 : decode cX3_readNumbers 158 = .ok (.getfield 9, 3) := by decide +kernel
theorem dX3_readNumbers_161 : decode cX3_readNumbers 161 = .ok (.aload_n 0, 1) := by decide +kernel
theorem dX3_readNumbers_162 : decode cX3_readNumbers 162 = .ok (.getfield 15, 3) := by decide +kernel
theorem dX3_readNumbers_165 : decode cX3_readNumbers 165 = .ok (.if_icmp .ge 29, 3) := by decide +kernel
theorem dX3_readNumbers_168 : decode cX3_readNumbers 168 = .ok (.aload_n 0, 1) := by decide +kernel
theorem dX3_readNumbers_169 : decode cX3_readNumbers 169 = .ok (.invokevirtual 42, 3) := by decide +kernel
theorem dX3_readNumbers_172 : decode cX3_readNumbers 172 = .ok (.bipush 45, 2) := by decide +kernel
theorem dX3_readNumbers_174 : decode cX3_readNumbers 174 = .ok (.if_icmp .ne 15, 3) := by decide +kernel
theorem dX3_readNumbers_177 : decode cX3_readNumbers 177 = .ok (.aload_n 0, 1) := by decide +kernel
theorem dX3_readNumbers_178 : decode cX3_readNumbers 178 = .ok (.iconst 3, 1) := by decide +kernel
theorem dX3_readNumbers_179 : decode cX3_readNumbers 179 = .ok (.aload_n 0, 1) := by decide +kernel
theorem dX3_readNumbers_180 : decode cX3_readNumbers 180 = .ok (.getfield 9, 3) := by decide +kernel
theorem dX3_readNumbers_183 : decode cX3_readNumbers 183 = .ok (.invokevirtual 77, 3) := by decide +kernel
theorem dX3_readNumbers_186 : decode cX3_readNumbers 186 = .ok (.goto 7, 3) := by decide +kernel
theorem dX3_readNumbers_189 : decode cX3_readNumbers 189 = .ok (.aload_n 0, 1) := by decide +kernel
theorem dX3_readNumbers_190 : decode cX3_readNumbers 190 = .ok (.invokevirtual 46, 3) := by decide +kernel
theorem dX3_readNumbers_193 : decode cX3_readNumbers 193 = .ok (.ireturn, 1) := by decide +kernel
theorem dX3_readNumbers_194 : decode cX3_readNumbers 194 = .ok (.aload_n 0, 1) := by decide +kernel
theorem dX3_readNumbers_195 : decode cX3_readNumbers 195 = .ok (.aload_n 0, 1) := by decide +kernel
theorem dX3_readNumbers_196 : decode cX3_readNumbers 196 = .ok (.getfield 34, 3) := by decide +kernel
theorem dX3_readNumbers_199 : decode cX3_readNumbers 199 = .ok (.aload_n 0, 1) := by decide +kernel
theorem dX3_readNumbers_200 : decode cX3_readNumbers 200 = .ok (.getfield 18, 3) := by decide +kernel
theorem dX3_readNumbers_203 : decode cX3_readNumbers 203 = .ok (.iload_n 3, 1) := by decide +kernel
theorem dX3_readNumbers_204 : decode cX3_readNumbers 204 = .ok (.iconst 1, 1) := by decide +kernel
theorem dX3_readNumbers_205 : decode cX3_readNumbers 205 = .ok (.iadd, 1) := by decide +kernel
theorem dX3_readNumbers_206 : decode cX3_readNumbers 206 = .ok (.invokevirtual 81, 3) := by decide +kernel
theorem dX3_readNumbers_209 : decode cX3_readNumbers 209 = .ok (.iload 4, 2) := by decide +kernel
theorem dX3_readNumbers_211 : decode cX3_readNumbers 211 = .ok (.iadd, 1) := by decide +kernel
theorem dX3_readNumbers_212 : decode cX3_readNumbers 212 = .ok (.putfield 21, 3) := by decide +kernel
theorem dX3_readNumbers_215 : decode cX3_readNumbers 215 = .ok (.aload_n 0, 1) := by decide +kernel
theorem dX3_readNumbers_216 : decode cX3_readNumbers 216 = .ok (.getfield 24, 3) := by decide +kernel
theorem dX3_readNumbers_219 : decode cX3_readNumbers 219 = .ok (.ifCond .ne 7, 3) := by decide +kernel
theorem dX3_readNumbers_222 : decode cX3_readNumbers 222 = .ok (.iconst 1, 1) := by decide +kernel
theorem dX3_readNumbers_223 : decode cX3_readNumbers 223 = .ok (.goto 4, 3) := by decide +kernel
theorem dX3_readNumbers_226 : decode cX3_readNumbers 226 = .ok (.iconst 0, 1) := by decide +kernel
theorem dX3_readNumbers_227 : decode cX3_readNumbers 227 = .ok (.ireturn, 1) := by decide +kernel
theorem gX3_readNumber_X3_here : GoodIn wsX3_readNumber (wsV RX3 42 RX3 yX3_here wsX3_here) := gw_c t_w104 (gw_c t_w103 (gw_c t_w102 (gw_c t_w101 (gw_c t_w100 (gw_t)))))
theorem gX3_readNumber_X3_isDigit : GoodIn wsX3_readNumber (va_wsS RX3 85 yX3_isDigit wsX3_isDigit) := gw_c t_w128 (gw_c t_w127 (gw_c t_w101 (gw_c t_w126 (gw_t))))
theorem gX3_readNumber_X3_failHere : GoodIn wsX3_readNumber (wsV RX3 46 RX3 yX3_failHere wsX3_failHere) := gw_c t_w108 (gw_c t_w107 (gw_c t_w106 (gw_c t_w101 (gw_c t_w105 (gw_t)))))
theorem gX3_readNumber_X3_fail : GoodIn wsX3_readNumber (wsV RX3 77 RX3 yX3_fail wsX3_fail) := gw_c t_w124 (gw_c t_w123 (gw_c t_w122 (gw_c t_w101 (gw_c t_w121 (gw_t)))))
theorem dX3_readNumber_0 : decode cX3_readNumber 0 = .ok (.aload_n 0, 1) := by decide +kernel
theorem dX3_readNumber_1 : decode cX3_readNumber 1 = .ok (.getfield 9, 3) := by decide +kernel
theorem dX3_readNumber_4 : decode cX3_readNumber 4 = .ok (.istore_n 2, 1) := by decide +kernel
theorem dX3_readNumber_5 : decode cX3_readNumber 5 = .ok (.iconst 0, 1) := by decide +kernel
theorem dX3_readNumber_6 : decode cX3_readNumber 6 = .ok (.istore_n 3, 1) := by decide +kernel
theorem dX3_readNumber_7 : decode cX3_readNumber 7 = .ok (.aload_n 0, 1) := by decide +kernel
theorem dX3_readNumber_8 : decode cX3_readNumber 8 = .ok (.invokevirtual 42, 3) := by decide +kernel
theorem dX3_readNumber_11 : decode cX3_readNumber 11 = .ok (.invokestatic 85, 3) := by decide +kernel
theorem dX3_readNumber_14 : decode cX3_readNumber 14 = .ok (.ifCond .eq 39, 3) := by decide +kernel
theorem dX3_readNumber_17 : decode cX3_readNumber 17 = .ok (.aload_n 0, 1) := by decide +kernel
theorem dX3_readNumber_18 : decode cX3_readNumber 18 = .ok (.getfield 9, 3) := by decide +kernel
theorem dX3_readNumber_21 : decode cX3_readNumber 21 = .ok (.iload_n 2, 1) := by decide +kernel
theorem dX3_readNumber_22 : decode cX3_readNumber 22 = .ok (.iconst 2, 1) := by decide +kernel
theorem dX3_readNumber_23 : decode cX3_readNumber 23 = .ok (.iadd, 1) := by decide +kernel
theorem dX3_readNumber_24 : decode cX3_readNumber 24 = .ok (.if_icmp .ge 29, 3) := by decide +kernel
theorem dX3_readNumber_27 : decode cX3_readNumber 27 = .ok (.iload_n 3, 1) := by decide +kernel
theorem dX3_readNumber_28 : decode cX3_readNumber 28 = .ok (.bipush 10, 2) := by decide +kernel
theorem dX3_readNumber_30 : decode cX3_readNumber 30 = .ok (.imul, 1) := by decide +kernel
theorem dX3_readNumber_31 : decode cX3_readNumber 31 = .ok (.aload_n 0, 1) := by decide +kernel
theorem dX3_readNumber_32 : decode cX3_readNumber 32 = .ok (.invokevirtual 42, 3) := by decide +kernel
theorem dX3_readNumber_35 : decode cX3_readNumber 35 = .ok (.iadd, 1) := by decide +kernel
theorem dX3_readNumber_36 : decode cX3_readNumber 36 = .ok (.bipush 48, 2) := by decide +kernel
theorem dX3_readNumber_38 : decode cX3_readNumber 38 = .ok (.isub, 1) := by decide +kernel
theorem dX3_readNumber_39 : decode cX3_readNumber 39 = .ok (.istore_n 3, 1) := by decide +kernel
theorem dX3_readNumber_40 : decode cX3_readNumber 40 = .ok (.aload_n 0, 1) := by decide +kernel
theorem dX3_readNumber_41 : decode cX3_readNumber 41 = .ok (.dup, 1) := by decide +kernel
theorem dX3_readNumber_42 : decode cX3_readNumber 42 = .ok (.getfield 9, 3) := by decide +kernel
theorem dX3_readNumber_45 : decode cX3_readNumber 45 = .ok (.iconst 1, 1) := by decide +kernel
theorem dX3_readNumber_46 : decode cX3_readNumber 46 = .ok (.iadd, 1) := by decide +kernel
theorem dX3_readNumber_47 : decode cX3_readNumber 47 = .ok (.putfield 9, 3) := by decide +kernel
theorem dX3_readNumber_50 : decode cX3_readNumber 50 = .ok (.goto (-43), 3) := by decide +kernel
theorem dX3_readNumber_53 : decode cX3_readNumber 53 = .ok (.aload_n 0, 1) := by decide +kernel
theorem dX3_readNumber_54 : decode cX3_readNumber 54 = .ok (.getfield 9, 3) := by decide +kernel
theorem dX3_readNumber_57 : decode cX3_readNumber 57 = .ok (.iload_n 2, 1) := by decide +kernel
theorem dX3_readNumber_58 : decode cX3_readNumber 58 = .ok (.if_icmp .eq 13, 3) := by decide +kernel
theorem dX3_readNumber_61 : decode cX3_readNumber 61 = .ok (.aload_n 0, 1) := by decide +kernel
theorem dX3_readNumber_62 : decode cX3_readNumber 62 = .ok (.invokevirtual 42, 3) := by decide +kernel
theorem dX3_readNumber_65 : decode cX3_readNumber 65 = .ok (.invokestatic 85, 3) := by decide +kernel
theorem dX3_readNumber_68 : decode cX3_readNumber 68 = .ok (.ifCond .eq 10, 3) := by decide +kernel
theorem dX3_readNumber_71 : decode cX3_readNumber 71 = .ok (.aload_n 0, 1) := by decide +kernel
theorem dX3_readNumber_72 : decode cX3_readNumber 72 = .ok (.invokevirtual 46, 3) := by decide +kernel
theorem dX3_readNumber_75 : decode cX3_readNumber 75 = .ok (.pop, 1) := by decide +kernel
theorem dX3_readNumber_76 : decode cX3_readNumber 76 = .ok (.iconst 1, 1) := by decide +kernel
theorem dX3_readNumber_77 : decode cX3_readNumber 77 = .ok (.ireturn, 1) := by decide +kernel
theorem dX3_readNumber_78 : decode cX3_readNumber 78 = .ok (.iload_n 3, 1) := by decide +kernel
theorem dX3_readNumber_79 : decode cX3_readNumber 79 = .ok (.iconst 1, 1) := by decide +kernel
theorem dX3_readNumber_80 : decode cX3_readNumber 80 = .ok (.if_icmp .lt 8, 3) := by decide +kernel
theorem dX3_readNumber_83 : decode cX3_readNumber 83 = .ok (.iload_n 3, 1) := by decide +kernel
theorem dX3_readNumber_84 : decode cX3_readNumber 84 = .ok (.iload_n 1, 1) := by decide +kernel
theorem dX3_readNumber_85 : decode cX3_readNumber 85 = .ok (.if_icmp .le 12, 3) := by decide +kernel
theorem dX3_readNumber_88 : decode cX3_readNumber 88 = .ok (.aload_n 0, 1) := by decide +kernel
theorem dX3_readNumber_89 : decode cX3_readNumber 89 = .ok (.iconst 2, 1) := by decide +kernel
theorem dX3_readNumber_90 : decode cX3_readNumber 90 = .ok (.iload_n 2, 1) := by decide +kernel
theorem dX3_readNumber_91 : decode cX3_readNumber 91 = .ok (.invokevirtual 77, 3) := by decide +kernel
theorem dX3_readNumber_94 : decode cX3_readNumber 94 = .ok (.pop, 1) := by decide +kernel
theorem dX3_readNumber_95 : decode cX3_readNumber 95 = .ok (.iconst 1, 1) := by decide +kernel
theorem dX3_readNumber_96 : decode cX3_readNumber 96 = .ok (.ireturn, 1) := by decide +kernel
theorem dX3_readNumber_97 : decode cX3_readNumber 97 = .ok (.iload_n 3, 1) := by decide +kernel
theorem dX3_readNumber_98 : decode cX3_readNumber 98 = .ok (.ireturn, 1) := by decide +kernel
theorem dX3_isDigit_0 : decode cX3_isDigit 0 = .ok (.iload_n 0, 1) := by decide +kernel
theorem dX3_isDigit_1 : decode cX3_isDigit 1 = .ok (.bipush 48, 2) := by decide +kernel
theorem dX3_isDigit_3 : decode cX3_isDigit 3 = .ok (.if_icmp .lt 13, 3) := by decide +kernel
theorem dX3_isDigit_6 : decode cX3_isDigit 6 = .ok (.iload_n 0, 1) := by decide +kernel
theorem dX3_isDigit_7 : decode cX3_isDigit 7 = .ok (.bipush 57, 2) := by decide +kernel
theorem dX3_isDigit_9 : decode cX3_isDigit 9 = .ok (.if_icmp .gt 7, 3) := by decide +kernel
theorem dX3_isDigit_12 : decode cX3_isDigit 12 = .ok (.iconst 1, 1) := by decide +kernel
theorem dX3_isDigit_13 : decode cX3_isDigit 13 = .ok (.goto 4, 3) := by decide +kernel
theorem dX3_isDigit_16 : decode cX3_isDigit 16 = .ok (.iconst 0, 1) := by decide +kernel
theorem dX3_isDigit_17 : decode cX3_isDigit 17 = .ok (.ireturn, 1) := by decide +kernel
theorem dX3_here_0 : decode cX3_here 0 = .ok (.aload_n 0, 1) := by decide +kernel
theorem dX3_here_1 : decode cX3_here 1 = .ok (.getfield 9, 3) := by decide +kernel
theorem dX3_here_4 : decode cX3_here 4 = .ok (.ifCond .lt 43, 3) := by decide +kernel
theorem dX3_here_7 : decode cX3_here 7 = .ok (.aload_n 0, 1) := by decide +kernel
theorem dX3_here_8 : decode cX3_here 8 = .ok (.getfield 9, 3) := by decide +kernel
theorem dX3_here_11 : decode cX3_here 11 = .ok (.aload_n 0, 1) := by decide +kernel
theorem dX3_here_12 : decode cX3_here 12 = .ok (.getfield 15, 3) := by decide +kernel
theorem dX3_here_15 : decode cX3_here 15 = .ok (.if_icmp .ge 32, 3) := by decide +kernel
theorem dX3_here_18 : decode cX3_here 18 = .ok (.aload_n 0, 1) := by decide +kernel
theorem dX3_here_19 : decode cX3_here 19 = .ok (.getfield 9, 3) := by decide +kernel
theorem dX3_here_22 : decode cX3_here 22 = .ok (.aload_n 0, 1) := by decide +kernel
theorem dX3_here_23 : decode cX3_here 23 = .ok (.getfield 38, 3) := by decide +kernel
theorem dX3_here_26 : decode cX3_here 26 = .ok (.getfield 88, 3) := by decide +kernel
theorem dX3_here_29 : decode cX3_here 29 = .ok (.if_icmp .ge 18, 3) := by decide +kernel
theorem dX3_here_32 : decode cX3_here 32 = .ok (.aload_n 0, 1) := by decide +kernel
theorem dX3_here_33 : decode cX3_here 33 = .ok (.getfield 38, 3) := by decide +kernel
theorem dX3_here_36 : decode cX3_here 36 = .ok (.getfield 93, 3) := by decide +kernel
theorem dX3_here_39 : decode cX3_here 39 = .ok (.aload_n 0, 1) := by decide +kernel
theorem dX3_here_40 : decode cX3_here 40 = .ok (.getfield 9, 3) := by decide +kernel
theorem dX3_here_43 : decode cX3_here 43 = .ok (.iaload, 1) := by decide +kernel
theorem dX3_here_44 : decode cX3_here 44 = .ok (.goto 4, 3) := by decide +kernel
theorem dX3_here_47 : decode cX3_here 47 = .ok (.iconst (-1), 1) := by decide +kernel
theorem dX3_here_48 : decode cX3_here 48 = .ok (.ireturn, 1) := by decide +kernel
theorem dX3_failHere_0 : decode cX3_failHere 0 = .ok (.aload_n 0, 1) := by decide +kernel
theorem dX3_failHere_1 : decode cX3_failHere 1 = .ok (.iconst 1, 1) := by decide +kernel
theorem dX3_failHere_2 : decode cX3_failHere 2 = .ok (.putfield 24, 3) := by decide +kernel
theorem dX3_failHere_5 : decode cX3_failHere 5 = .ok (.aload_n 0, 1) := by decide +kernel
theorem dX3_failHere_6 : decode cX3_failHere 6 = .ok (.aload_n 0, 1) := by decide +kernel
theorem dX3_failHere_7 : decode cX3_failHere 7 = .ok (.getfield 9, 3) := by decide +kernel
theorem dX3_failHere_10 : decode cX3_failHere 10 = .ok (.putfield 27, 3) := by decide +kernel
theorem dX3_failHere_13 : decode cX3_failHere 13 = .ok (.aload_n 0, 1) := by decide +kernel
theorem dX3_failHere_14 : decode cX3_failHere 14 = .ok (.aload_n 0, 1) := by decide +kernel
theorem dX3_failHere_15 : decode cX3_failHere 15 = .ok (.getfield 9, 3) := by decide +kernel
theorem dX3_failHere_18 : decode cX3_failHere 18 = .ok (.aload_n 0, 1) := by decide +kernel
theorem dX3_failHere_19 : decode cX3_failHere 19 = .ok (.getfield 15, 3) := by decide +kernel
theorem dX3_failHere_22 : decode cX3_failHere 22 = .ok (.if_icmp .lt 7, 3) := by decide +kernel
theorem dX3_failHere_25 : decode cX3_failHere 25 = .ok (.iconst 1, 1) := by decide +kernel
theorem dX3_failHere_26 : decode cX3_failHere 26 = .ok (.goto 4, 3) := by decide +kernel
theorem dX3_failHere_29 : decode cX3_failHere 29 = .ok (.iconst 0, 1) := by decide +kernel
theorem dX3_failHere_30 : decode cX3_failHere 30 = .ok (.putfield 30, 3) := by decide +kernel
theorem dX3_failHere_33 : decode cX3_failHere 33 = .ok (.iconst 0, 1) := by decide +kernel
theorem dX3_failHere_34 : decode cX3_failHere 34 = .ok (.ireturn, 1) := by decide +kernel
theorem dX3_fail_0 : decode cX3_fail 0 = .ok (.aload_n 0, 1) := by decide +kernel
theorem dX3_fail_1 : decode cX3_fail 1 = .ok (.iload_n 1, 1) := by decide +kernel
theorem dX3_fail_2 : decode cX3_fail 2 = .ok (.putfield 24, 3) := by decide +kernel
theorem dX3_fail_5 : decode cX3_fail 5 = .ok (.aload_n 0, 1) := by decide +kernel
theorem dX3_fail_6 : decode cX3_fail 6 = .ok (.iload_n 2, 1) := by decide +kernel
theorem dX3_fail_7 : decode cX3_fail 7 = .ok (.putfield 27, 3) := by decide +kernel
theorem dX3_fail_10 : decode cX3_fail 10 = .ok (.aload_n 0, 1) := by decide +kernel
theorem dX3_fail_11 : decode cX3_fail 11 = .ok (.iconst 0, 1) := by decide +kernel
theorem dX3_fail_12 : decode cX3_fail 12 = .ok (.putfield 30, 3) := by decide +kernel
theorem dX3_fail_15 : decode cX3_fail 15 = .ok (.iconst 0, 1) := by decide +kernel
theorem dX3_fail_16 : decode cX3_fail 16 = .ok (.ireturn, 1) := by decide +kernel
theorem gX3_failWithoutBlank_X3_fail : GoodIn wsX3_failWithoutBlank (wsV RX3 77 RX3 yX3_fail wsX3_fail) := gw_c t_w124 (gw_c t_w123 (gw_c t_w122 (gw_c t_w101 (gw_c t_w121 (gw_t)))))
theorem dX3_failWithoutBlank_0 : decode cX3_failWithoutBlank 0 = .ok (.aload_n 0, 1) := by decide +kernel
theorem dX3_failWithoutBlank_1 : decode cX3_failWithoutBlank 1 = .ok (.iconst 1, 1) := by decide +kernel
theorem dX3_failWithoutBlank_2 : decode cX3_failWithoutBlank 2 = .ok (.iload_n 1, 1) := by decide +kernel
theorem dX3_failWithoutBlank_3 : decode cX3_failWithoutBlank 3 = .ok (.invokevirtual 77, 3) := by decide +kernel
theorem dX3_failWithoutBlank_6 : decode cX3_failWithoutBlank 6 = .ok (.pop, 1) := by decide +kernel
theorem dX3_failWithoutBlank_7 : decode cX3_failWithoutBlank 7 = .ok (.aload_n 0, 1) := by decide +kernel
theorem dX3_failWithoutBlank_8 : decode cX3_failWithoutBlank 8 = .ok (.iconst 1, 1) := by decide +kernel
theorem dX3_failWithoutBlank_9 : decode cX3_failWithoutBlank 9 = .ok (.putfield 30, 3) := by decide +kernel
theorem dX3_failWithoutBlank_12 : decode cX3_failWithoutBlank 12 = .ok (.iconst 0, 1) := by decide +kernel
theorem dX3_failWithoutBlank_13 : decode cX3_failWithoutBlank 13 = .ok (.ireturn, 1) := by decide +kernel
theorem dX3_told_0 : decode cX3_told 0 = .ok (.sipush (-1000), 3) := by decide +kernel
theorem dX3_told_3 : decode cX3_told 3 = .ok (.aload_n 0, 1) := by decide +kernel
theorem dX3_told_4 : decode cX3_told 4 = .ok (.getfield 24, 3) := by decide +kernel
theorem dX3_told_7 : decode cX3_told 7 = .ok (.imul, 1) := by decide +kernel
theorem dX3_told_8 : decode cX3_told 8 = .ok (.aload_n 0, 1) := by decide +kernel
theorem dX3_told_9 : decode cX3_told 9 = .ok (.getfield 27, 3) := by decide +kernel
theorem dX3_told_12 : decode cX3_told 12 = .ok (.isub, 1) := by decide +kernel
theorem dX3_told_13 : decode cX3_told 13 = .ok (.ireturn, 1) := by decide +kernel
theorem dX4_init_0 : decode cX4_init 0 = .ok (.aload_n 0, 1) := by decide +kernel
theorem dX4_init_1 : decode cX4_init 1 = .ok (.invokespecial 3, 3) := by decide +kernel
theorem dX4_init_4 : decode cX4_init 4 = .ok (.aload_n 0, 1) := by decide +kernel
theorem dX4_init_5 : decode cX4_init 5 = .ok (.bipush 40, 2) := by decide +kernel
theorem dX4_init_7 : decode cX4_init 7 = .ok (.newarray .int, 2) := by decide +kernel
theorem dX4_init_9 : decode cX4_init 9 = .ok (.putfield 9, 3) := by decide +kernel
theorem dX4_init_12 : decode cX4_init 12 = .ok (.aload_n 0, 1) := by decide +kernel
theorem dX4_init_13 : decode cX4_init 13 = .ok (.iconst 0, 1) := by decide +kernel
theorem dX4_init_14 : decode cX4_init 14 = .ok (.putfield 15, 3) := by decide +kernel
theorem dX4_init_17 : decode cX4_init 17 = .ok (.return_, 1) := by decide +kernel
theorem gX4_write_X4_add : GoodIn wsX4_write (wsV RX4 28 RX4 yX4_add wsX4_add) := gw_c t_w133 (gw_c t_w132 (gw_c t_w131 (gw_c t_w130 (gw_c t_w129 (gw_t)))))
theorem gX4_write_X6_band : GoodIn wsX4_write (wsV RX4 32 RX6 yX6_band wsX6_band) := gw_c t_w138 (gw_c t_w137 (gw_c t_w136 (gw_c t_w135 (gw_c t_w134 (gw_t)))))
theorem gX4_write_X6_numberOf : GoodIn wsX4_write (wsV RX4 36 RX6 yX6_numberOf wsX6_numberOf) := gw_c t_w142 (gw_c t_w141 (gw_c t_w140 (gw_c t_w135 (gw_c t_w139 (gw_t)))))
theorem gX4_write_X4_addNumber : GoodIn wsX4_write (wsV RX4 40 RX4 yX4_addNumber wsX4_addNumber) := gw_c t_w146 (gw_c t_w145 (gw_c t_w144 (gw_c t_w130 (gw_c t_w143 (gw_t)))))
theorem dX4_write_0 : decode cX4_write 0 = .ok (.aload_n 0, 1) := by decide +kernel
theorem dX4_write_1 : decode cX4_write 1 = .ok (.iconst 0, 1) := by decide +kernel
theorem dX4_write_2 : decode cX4_write 2 = .ok (.putfield 15, 3) := by decide +kernel
theorem dX4_write_5 : decode cX4_write 5 = .ok (.aload_n 1, 1) := by decide +kernel
theorem dX4_write_6 : decode cX4_write 6 = .ok (.getfield 19, 3) := by decide +kernel
theorem dX4_write_9 : decode cX4_write 9 = .ok (.ifCond .eq 28, 3) := by decide +kernel
theorem dX4_write_12 : decode cX4_write 12 = .ok (.aload_n 0, 1) := by decide +kernel
theorem dX4_write_13 : decode cX4_write 13 = .ok (.aload_n 1, 1) := by decide +kernel
theorem dX4_write_14 : decode cX4_write 14 = .ok (.getfield 25, 3) := by decide +kernel
theorem dX4_write_17 : decode cX4_write 17 = .ok (.ifCond .ne 8, 3) := by decide +kernel
theorem dX4_write_20 : decode cX4_write 20 = .ok (.bipush 78, 2) := by decide +kernel
theorem dX4_write_22 : decode cX4_write 22 = .ok (.goto 5, 3) := by decide +kernel
theorem dX4_write_25 : decode cX4_write 25 = .ok (.bipush 83, 2) := by decide +kernel
theorem dX4_write_27 : decode cX4_write 27 = .ok (.invokevirtual 28, 3) := by decide +kernel
theorem dX4_write_30 : decode cX4_write 30 = .ok (.aload_n 0, 1) := by decide +kernel
theorem dX4_write_31 : decode cX4_write 31 = .ok (.bipush 90, 2) := by decide +kernel
theorem dX4_write_33 : decode cX4_write 33 = .ok (.invokevirtual 28, 3) := by decide +kernel
theorem dX4_write_36 : decode cX4_write 36 = .ok (.return_, 1) := by decide +kernel
theorem dX4_write_37 : decode cX4_write 37 = .ok (.aload_n 1, 1) := by decide +kernel
theorem dX4_write_38 : decode cX4_write 38 = .ok (.invokevirtual 32, 3) := by decide +kernel
theorem dX4_write_41 : decode cX4_write 41 = .ok (.istore_n 2, 1) := by decide +kernel
theorem dX4_write_42 : decode cX4_write 42 = .ok (.aload_n 0, 1) := by decide +kernel
theorem dX4_write_43 : decode cX4_write 43 = .ok (.iload_n 2, 1) := by decide +kernel
theorem dX4_write_44 : decode cX4_write 44 = .ok (.ifCond .lt 8, 3) := by decide +kernel
theorem dX4_write_47 : decode cX4_write 47 = .ok (.bipush 78, 2) := by decide +kernel
theorem dX4_write_49 : decode cX4_write 49 = .ok (.goto 5, 3) := by decide +kernel
theorem dX4_write_52 : decode cX4_write 52 = .ok (.bipush 83, 2) := by decide +kernel
theorem dX4_write_54 : decode cX4_write 54 = .ok (.invokevirtual 28, 3) := by decide +kernel
theorem dX4_write_57 : decode cX4_write 57 = .ok (.aload_n 0, 1) := by decide +kernel
theorem dX4_write_58 : decode cX4_write 58 = .ok (.bipush 65, 2) := by decide +kernel
theorem dX4_write_60 : decode cX4_write 60 = .ok (.iload_n 2, 1) := by decide +kernel
theorem dX4_write_61 : decode cX4_write 61 = .ok (.ifCond .lt 7, 3) := by decide +kernel
theorem dX4_write_64 : decode cX4_write 64 = .ok (.iload_n 2, 1) := by decide +kernel
theorem dX4_write_65 : decode cX4_write 65 = .ok (.goto 6, 3) := by decide +kernel
theorem dX4_write_68 : decode cX4_write 68 = .ok (.iconst (-1), 1) := by decide +kernel
theorem dX4_write_69 : decode cX4_write 69 = .ok (.iload_n 2, 1) := by decide +kernel
theorem dX4_write_70 : decode cX4_write 70 = .ok (.isub, 1) := by decide +kernel
theorem dX4_write_71 : decode cX4_write 71 = .ok (.iadd, 1) := by decide +kernel
theorem dX4_write_72 : decode cX4_write 72 = .ok (.invokevirtual 28, 3) := by decide +kernel
theorem dX4_write_75 : decode cX4_write 75 = .ok (.aload_n 0, 1) := by decide +kernel
theorem dX4_write_76 : decode cX4_write 76 = .ok (.aload_n 1, 1) := by decide +kernel
theorem dX4_write_77 : decode cX4_write 77 = .ok (.iconst 0, 1) := by decide +kernel
theorem dX4_write_78 : decode cX4_write 78 = .ok (.invokevirtual 36, 3) := by decide +kernel
theorem dX4_write_81 : decode cX4_write 81 = .ok (.invokevirtual 40, 3) := by decide +kernel
theorem dX4_write_84 : decode cX4_write 84 = .ok (.iconst 1, 1) := by decide +kernel
theorem dX4_write_85 : decode cX4_write 85 = .ok (.istore_n 3, 1) := by decide +kernel
theorem dX4_write_86 : decode cX4_write 86 = .ok (.iload_n 3, 1) := by decide +kernel
theorem dX4_write_87 : decode cX4_write 87 = .ok (.aload_n 1, 1) := by decide +kernel
theorem dX4_write_88 : decode cX4_write 88 = .ok (.getfield 43, 3) := by decide +kernel
theorem dX4_write_91 : decode cX4_write 91 = .ok (.if_icmp .gt 24, 3) := by decide +kernel
theorem dX4_write_94 : decode cX4_write 94 = .ok (.aload_n 0, 1) := by decide +kernel
theorem dX4_write_95 : decode cX4_write 95 = .ok (.bipush 45, 2) := by decide +kernel
theorem dX4_write_97 : decode cX4_write 97 = .ok (.invokevirtual 28, 3) := by decide +kernel
theorem dX4_write_100 : decode cX4_write 100 = .ok (.aload_n 0, 1) := by decide +kernel
theorem dX4_write_101 : decode cX4_write 101 = .ok (.aload_n 1, 1) := by decide +kernel
theorem dX4_write_102 : decode cX4_write 102 = .ok (.iload_n 3, 1) := by decide +kernel
theorem dX4_write_103 : decode cX4_write 103 = .ok (.invokevirtual 36, 3) := by decide +kernel
theorem dX4_write_106 : decode cX4_write 106 = .ok (.invokevirtual 40, 3) := by decide +kernel
theorem dX4_write_109 : decode cX4_write 109 = .ok (.iinc 3 1, 3) := by decide +kernel
theorem dX4_write_112 : decode cX4_write 112 = .ok (.goto (-26), 3) := by decide +kernel
theorem dX4_write_115 : decode cX4_write 115 = .ok (.return_, 1) := by decide +kernel
theorem gX4_addNumber_X4_add : GoodIn wsX4_addNumber (wsV RX4 28 RX4 yX4_add wsX4_add) := gw_c t_w133 (gw_c t_w132 (gw_c t_w131 (gw_c t_w130 (gw_c t_w129 (gw_t)))))
theorem dX4_addNumber_0 : decode cX4_addNumber 0 = .ok (.iload_n 1, 1) := by decide +kernel
theorem dX4_addNumber_1 : decode cX4_addNumber 1 = .ok (.bipush 10, 2) := by decide +kernel
theorem dX4_addNumber_3 : decode cX4_addNumber 3 = .ok (.if_icmp .lt 14, 3) := by decide +kernel
theorem dX4_addNumber_6 : decode cX4_addNumber 6 = .ok (.aload_n 0, 1) := by decide +kernel
theorem dX4_addNumber_7 : decode cX4_addNumber 7 = .ok (.bipush 48, 2) := by decide +kernel
theorem dX4_addNumber_9 : decode cX4_addNumber 9 = .ok (.iload_n 1, 1) := by decide +kernel
theorem dX4_addNumber_10 : decode cX4_addNumber 10 = .ok (.bipush 10, 2) := by decide +kernel
theorem dX4_addNumber_12 : decode cX4_addNumber 12 = .ok (.idiv, 1) := by decide +kernel
theorem dX4_addNumber_13 : decode cX4_addNumber 13 = .ok (.iadd, 1) := by decide +kernel
theorem dX4_addNumber_14 : decode cX4_addNumber 14 = .ok (.invokevirtual 28, 3) := by decide +kernel
theorem dX4_addNumber_17 : decode cX4_addNumber 17 = .ok (.aload_n 0, 1) := by decide +kernel
theorem dX4_addNumber_18 : decode cX4_addNumber 18 = .ok (.bipush 48, 2) := by decide +kernel
theorem dX4_addNumber_20 : decode cX4_addNumber 20 = .ok (.iload_n 1, 1) := by decide +kernel
theorem dX4_addNumber_21 : decode cX4_addNumber 21 = .ok (.bipush 10, 2) := by decide +kernel
theorem dX4_addNumber_23 : decode cX4_addNumber 23 = .ok (.irem, 1) := by decide +kernel
theorem dX4_addNumber_24 : decode cX4_addNumber 24 = .ok (.iadd, 1) := by decide +kernel
theorem dX4_addNumber_25 : decode cX4_addNumber 25 = .ok (.invokevirtual 28, 3) := by decide +kernel
theorem dX4_addNumber_28 : decode cX4_addNumber 28 = .ok (.return_, 1) := by decide +kernel
theorem dX4_add_0 : decode cX4_add 0 = .ok (.aload_n 0, 1) := by decide +kernel
theorem dX4_add_1 : decode cX4_add 1 = .ok (.getfield 15, 3) := by decide +kernel
theorem dX4_add_4 : decode cX4_add 4 = .ok (.aload_n 0, 1) := by decide +kernel
theorem dX4_add_5 : decode cX4_add 5 = .ok (.getfield 9, 3) := by decide +kernel
theorem dX4_add_8 : decode cX4_add 8 = .ok (.arraylength, 1) := by decide +kernel
theorem dX4_add_9 : decode cX4_add 9 = .ok (.if_icmp .ge 23, 3) := by decide +kernel
theorem dX4_add_12 : decode cX4_add 12 = .ok (.aload_n 0, 1) := by decide +kernel
theorem dX4_add_13 : decode cX4_add 13 = .ok (.getfield 9, 3) := by decide +kernel
theorem dX4_add_16 : decode cX4_add 16 = .ok (.aload_n 0, 1) := by decide +kernel
theorem dX4_add_17 : decode cX4_add 17 = .ok (.getfield 15, 3) := by decide +kernel
theorem dX4_add_20 : decode cX4_add 20 = .ok (.iload_n 1, 1) := by decide +kernel
theorem dX4_add_21 : decode cX4_add 21 = .ok (.iastore, 1) := by decide +kernel
theorem dX4_add_22 : decode cX4_add 22 = .ok (.aload_n 0, 1) := by decide +kernel
theorem dX4_add_23 : decode cX4_add 23 = .ok (.dup, 1) := by decide +kernel
theorem dX4_add_24 : decode cX4_add 24 = .ok (.getfield 15, 3) := by decide +kernel
theorem dX4_add_27 : decode cX4_add 27 = .ok (.iconst 1, 1) := by decide +kernel
theorem dX4_add_28 : decode cX4_add 28 = .ok (.iadd, 1) := by decide +kernel
theorem dX4_add_29 : decode cX4_add 29 = .ok (.putfield 15, 3) := by decide +kernel
theorem dX4_add_32 : decode cX4_add 32 = .ok (.return_, 1) := by decide +kernel
theorem gX4_against_J6_compare_7cf53 : GoodIn wsX4_against (va_wsS RX4 52 yJ6_compare_7cf53 wsJ6_compare_7cf53) := gw_c t_w150 (gw_c t_w149 (gw_c t_w148 (gw_c t_w147 (gw_t))))
theorem dX4_against_0 : decode cX4_against 0 = .ok (.aload_n 0, 1) := by decide +kernel
theorem dX4_against_1 : decode cX4_against 1 = .ok (.getfield 15, 3) := by decide +kernel
theorem dX4_against_4 : decode cX4_against 4 = .ok (.aload_n 1, 1) := by decide +kernel
theorem dX4_against_5 : decode cX4_against 5 = .ok (.getfield 15, 3) := by decide +kernel
theorem dX4_against_8 : decode cX4_against 8 = .ok (.invokestatic 46, 3) := by decide +kernel
theorem dX4_against_11 : decode cX4_against 11 = .ok (.istore_n 2, 1) := by decide +kernel
theorem dX4_against_12 : decode cX4_against 12 = .ok (.iconst 0, 1) := by decide +kernel
theorem dX4_against_13 : decode cX4_against 13 = .ok (.istore_n 3, 1) := by decide +kernel
theorem dX4_against_14 : decode cX4_against 14 = .ok (.iload_n 3, 1) := by decide +kernel
theorem dX4_against_15 : decode cX4_against 15 = .ok (.iload_n 2, 1) := by decide +kernel
theorem dX4_against_16 : decode cX4_against 16 = .ok (.if_icmp .ge 40, 3) := by decide +kernel
theorem dX4_against_19 : decode cX4_against 19 = .ok (.aload_n 0, 1) := by decide +kernel
theorem dX4_against_20 : decode cX4_against 20 = .ok (.getfield 9, 3) := by decide +kernel
theorem dX4_against_23 : decode cX4_against 23 = .ok (.iload_n 3, 1) := by decide +kernel
theorem dX4_against_24 : decode cX4_against 24 = .ok (.iaload, 1) := by decide +kernel
theorem dX4_against_25 : decode cX4_against 25 = .ok (.aload_n 1, 1) := by decide +kernel
theorem dX4_against_26 : decode cX4_against 26 = .ok (.getfield 9, 3) := by decide +kernel
theorem dX4_against_29 : decode cX4_against 29 = .ok (.iload_n 3, 1) := by decide +kernel
theorem dX4_against_30 : decode cX4_against 30 = .ok (.iaload, 1) := by decide +kernel
theorem dX4_against_31 : decode cX4_against 31 = .ok (.if_icmp .eq 19, 3) := by decide +kernel
theorem dX4_against_34 : decode cX4_against 34 = .ok (.aload_n 0, 1) := by decide +kernel
theorem dX4_against_35 : decode cX4_against 35 = .ok (.getfield 9, 3) := by decide +kernel
theorem dX4_against_38 : decode cX4_against 38 = .ok (.iload_n 3, 1) := by decide +kernel
theorem dX4_against_39 : decode cX4_against 39 = .ok (.iaload, 1) := by decide +kernel
theorem dX4_against_40 : decode cX4_against 40 = .ok (.aload_n 1, 1) := by decide +kernel
theorem dX4_against_41 : decode cX4_against 41 = .ok (.getfield 9, 3) := by decide +kernel
theorem dX4_against_44 : decode cX4_against 44 = .ok (.iload_n 3, 1) := by decide +kernel
theorem dX4_against_45 : decode cX4_against 45 = .ok (.iaload, 1) := by decide +kernel
theorem dX4_against_46 : decode cX4_against 46 = .ok (.invokestatic 52, 3) := by decide +kernel
theorem dX4_against_49 : decode cX4_against 49 = .ok (.ireturn, 1) := by decide +kernel
theorem dX4_against_50 : decode cX4_against 50 = .ok (.iinc 3 1, 3) := by decide +kernel
theorem dX4_against_53 : decode cX4_against 53 = .ok (.goto (-39), 3) := by decide +kernel
theorem dX4_against_56 : decode cX4_against 56 = .ok (.aload_n 0, 1) := by decide +kernel
theorem dX4_against_57 : decode cX4_against 57 = .ok (.getfield 15, 3) := by decide +kernel
theorem dX4_against_60 : decode cX4_against 60 = .ok (.aload_n 1, 1) := by decide +kernel
theorem dX4_against_61 : decode cX4_against 61 = .ok (.getfield 15, 3) := by decide +kernel
theorem dX4_against_64 : decode cX4_against 64 = .ok (.invokestatic 52, 3) := by decide +kernel
theorem dX4_against_67 : decode cX4_against 67 = .ok (.ireturn, 1) := by decide +kernel
theorem dX5_init_0 : decode cX5_init 0 = .ok (.aload_n 0, 1) := by decide +kernel
theorem dX5_init_1 : decode cX5_init 1 = .ok (.invokespecial 3, 3) := by decide +kernel
theorem dX5_init_4 : decode cX5_init 4 = .ok (.aload_n 0, 1) := by decide +kernel
theorem dX5_init_5 : decode cX5_init 5 = .ok (.iconst (-1), 1) := by decide +kernel
theorem dX5_init_6 : decode cX5_init 6 = .ok (.putfield 9, 3) := by decide +kernel
theorem dX5_init_9 : decode cX5_init 9 = .ok (.aload_n 0, 1) := by decide +kernel
theorem dX5_init_10 : decode cX5_init 10 = .ok (.iconst 0, 1) := by decide +kernel
theorem dX5_init_11 : decode cX5_init 11 = .ok (.putfield 15, 3) := by decide +kernel
theorem dX5_init_14 : decode cX5_init 14 = .ok (.aload_n 0, 1) := by decide +kernel
theorem dX5_init_15 : decode cX5_init 15 = .ok (.iconst 0, 1) := by decide +kernel
theorem dX5_init_16 : decode cX5_init 16 = .ok (.putfield 18, 3) := by decide +kernel
theorem dX5_init_19 : decode cX5_init 19 = .ok (.aload_n 0, 1) := by decide +kernel
theorem dX5_init_20 : decode cX5_init 20 = .ok (.iconst 0, 1) := by decide +kernel
theorem dX5_init_21 : decode cX5_init 21 = .ok (.putfield 21, 3) := by decide +kernel
theorem dX5_init_24 : decode cX5_init 24 = .ok (.aload_n 0, 1) := by decide +kernel
theorem dX5_init_25 : decode cX5_init 25 = .ok (.iconst 0, 1) := by decide +kernel
theorem dX5_init_26 : decode cX5_init 26 = .ok (.putfield 24, 3) := by decide +kernel
theorem dX5_init_29 : decode cX5_init 29 = .ok (.aload_n 0, 1) := by decide +kernel
theorem dX5_init_30 : decode cX5_init 30 = .ok (.aload_n 1, 1) := by decide +kernel
theorem dX5_init_31 : decode cX5_init 31 = .ok (.putfield 27, 3) := by decide +kernel
theorem dX5_init_34 : decode cX5_init 34 = .ok (.aload_n 0, 1) := by decide +kernel
theorem dX5_init_35 : decode cX5_init 35 = .ok (.aload_n 2, 1) := by decide +kernel
theorem dX5_init_36 : decode cX5_init 36 = .ok (.putfield 31, 3) := by decide +kernel
theorem dX5_init_39 : decode cX5_init 39 = .ok (.return_, 1) := by decide +kernel
theorem gX5_read_X8_blankFrom : GoodIn wsX5_read (wsV RX5 35 RX8 yX8_blankFrom wsX8_blankFrom) := gw_c t_w155 (gw_c t_w154 (gw_c t_w153 (gw_c t_w152 (gw_c t_w151 (gw_t)))))
theorem gX5_read_X3_failWithoutBlank : GoodIn wsX5_read (wsV RX5 41 RX3 yX3_failWithoutBlank wsX3_failWithoutBlank) := gw_c t_w159 (gw_c t_w158 (gw_c t_w157 (gw_c t_w101 (gw_c t_w156 (gw_t)))))
theorem gX5_read_X5_wordTo : GoodIn wsX5_read (wsV RX5 47 RX5 yX5_wordTo wsX5_wordTo) := gw_c t_w164 (gw_c t_w163 (gw_c t_w162 (gw_c t_w161 (gw_c t_w160 (gw_t)))))
theorem gX5_read_X3_fail : GoodIn wsX5_read (wsV RX5 51 RX3 yX3_fail wsX3_fail) := gw_c t_w165 (gw_c t_w123 (gw_c t_w122 (gw_c t_w101 (gw_c t_w121 (gw_t)))))
theorem gX5_read_X3_read : GoodIn wsX5_read (wsV RX5 55 RX3 yX3_read wsX3_read) := gw_c t_w169 (gw_c t_w168 (gw_c t_w167 (gw_c t_w101 (gw_c t_w166 (gw_t)))))
theorem gX5_read_X5_readOther : GoodIn wsX5_read (wsV RX5 60 RX5 yX5_readOther wsX5_readOther) := gw_c t_w173 (gw_c t_w172 (gw_c t_w171 (gw_c t_w161 (gw_c t_w170 (gw_t)))))
theorem dX5_read_0 : decode cX5_read 0 = .ok (.aload_n 0, 1) := by decide +kernel
theorem dX5_read_1 : decode cX5_read 1 = .ok (.getfield 31, 3) := by decide +kernel
theorem dX5_read_4 : decode cX5_read 4 = .ok (.iconst 0, 1) := by decide +kernel
theorem dX5_read_5 : decode cX5_read 5 = .ok (.iload_n 1, 1) := by decide +kernel
theorem dX5_read_6 : decode cX5_read 6 = .ok (.invokevirtual 35, 3) := by decide +kernel
theorem dX5_read_9 : decode cX5_read 9 = .ok (.istore_n 2, 1) := by decide +kernel
theorem dX5_read_10 : decode cX5_read 10 = .ok (.iload_n 2, 1) := by decide +kernel
theorem dX5_read_11 : decode cX5_read 11 = .ok (.iload_n 1, 1) := by decide +kernel
theorem dX5_read_12 : decode cX5_read 12 = .ok (.if_icmp .ne 12, 3) := by decide +kernel
theorem dX5_read_15 : decode cX5_read 15 = .ok (.aload_n 0, 1) := by decide +kernel
theorem dX5_read_16 : decode cX5_read 16 = .ok (.getfield 27, 3) := by decide +kernel
theorem dX5_read_19 : decode cX5_read 19 = .ok (.iload_n 1, 1) := by decide +kernel
theorem dX5_read_20 : decode cX5_read 20 = .ok (.invokevirtual 41, 3) := by decide +kernel
theorem dX5_read_23 : decode cX5_read 23 = .ok (.ireturn, 1) := by decide +kernel
theorem dX5_read_24 : decode cX5_read 24 = .ok (.aload_n 0, 1) := by decide +kernel
theorem dX5_read_25 : decode cX5_read 25 = .ok (.aload_n 0, 1) := by decide +kernel
theorem dX5_read_26 : decode cX5_read 26 = .ok (.iload_n 2, 1) := by decide +kernel
theorem dX5_read_27 : decode cX5_read 27 = .ok (.invokevirtual 47, 3) := by decide +kernel
theorem dX5_read_30 : decode cX5_read 30 = .ok (.putfield 9, 3) := by decide +kernel
theorem dX5_read_33 : decode cX5_read 33 = .ok (.aload_n 0, 1) := by decide +kernel
theorem dX5_read_34 : decode cX5_read 34 = .ok (.getfield 9, 3) := by decide +kernel
theorem dX5_read_37 : decode cX5_read 37 = .ok (.iconst (-1), 1) := by decide +kernel
theorem dX5_read_38 : decode cX5_read 38 = .ok (.if_icmp .ne 13, 3) := by decide +kernel
theorem dX5_read_41 : decode cX5_read 41 = .ok (.aload_n 0, 1) := by decide +kernel
theorem dX5_read_42 : decode cX5_read 42 = .ok (.getfield 27, 3) := by decide +kernel
theorem dX5_read_45 : decode cX5_read 45 = .ok (.iconst 1, 1) := by decide +kernel
theorem dX5_read_46 : decode cX5_read 46 = .ok (.iconst 0, 1) := by decide +kernel
theorem dX5_read_47 : decode cX5_read 47 = .ok (.invokevirtual 51, 3) := by decide +kernel
theorem dX5_read_50 : decode cX5_read 50 = .ok (.ireturn, 1) := by decide +kernel
theorem dX5_read_51 : decode cX5_read 51 = .ok (.aload_n 0, 1) := by decide +kernel
theorem dX5_read_52 : decode cX5_read 52 = .ok (.getfield 9, 3) := by decide +kernel
theorem dX5_read_55 : decode cX5_read 55 = .ok (.iconst 5, 1) := by decide +kernel
theorem dX5_read_56 : decode cX5_read 56 = .ok (.if_icmp .eq 12, 3) := by decide +kernel
theorem dX5_read_59 : decode cX5_read 59 = .ok (.aload_n 0, 1) := by decide +kernel
theorem dX5_read_60 : decode cX5_read 60 = .ok (.getfield 9, 3) := by decide +kernel
theorem dX5_read_63 : decode cX5_read 63 = .ok (.bipush 6, 2) := by decide +kernel
theorem dX5_read_65 : decode cX5_read 65 = .ok (.if_icmp .ne 7, 3) := by decide +kernel
theorem dX5_read_68 : decode cX5_read 68 = .ok (.iconst 1, 1) := by decide +kernel
theorem dX5_read_69 : decode cX5_read 69 = .ok (.goto 4, 3) := by decide +kernel
theorem dX5_read_72 : decode cX5_read 72 = .ok (.iconst 0, 1) := by decide +kernel
theorem dX5_read_73 : decode cX5_read 73 = .ok (.istore_n 3, 1) := by decide +kernel
theorem dX5_read_74 : decode cX5_read 74 = .ok (.iload_n 3, 1) := by decide +kernel
theorem dX5_read_75 : decode cX5_read 75 = .ok (.ifCond .eq 17, 3) := by decide +kernel
theorem dX5_read_78 : decode cX5_read 78 = .ok (.aload_n 0, 1) := by decide +kernel
theorem dX5_read_79 : decode cX5_read 79 = .ok (.getfield 31, 3) := by decide +kernel
theorem dX5_read_82 : decode cX5_read 82 = .ok (.iload_n 2, 1) := by decide +kernel
theorem dX5_read_83 : decode cX5_read 83 = .ok (.iconst 1, 1) := by decide +kernel
theorem dX5_read_84 : decode cX5_read 84 = .ok (.iadd, 1) := by decide +kernel
theorem dX5_read_85 : decode cX5_read 85 = .ok (.iload_n 1, 1) := by decide +kernel
theorem dX5_read_86 : decode cX5_read 86 = .ok (.invokevirtual 35, 3) := by decide +kernel
theorem dX5_read_89 : decode cX5_read 89 = .ok (.goto 4, 3) := by decide +kernel
theorem dX5_read_92 : decode cX5_read 92 = .ok (.iload_n 1, 1) := by decide +kernel
theorem dX5_read_93 : decode cX5_read 93 = .ok (.istore 4, 2) := by decide +kernel
theorem dX5_read_95 : decode cX5_read 95 = .ok (.aload_n 0, 1) := by decide +kernel
theorem dX5_read_96 : decode cX5_read 96 = .ok (.getfield 27, 3) := by decide +kernel
theorem dX5_read_99 : decode cX5_read 99 = .ok (.iload_n 2, 1) := by decide +kernel
theorem dX5_read_100 : decode cX5_read 100 = .ok (.iconst 1, 1) := by decide +kernel
theorem dX5_read_101 : decode cX5_read 101 = .ok (.iadd, 1) := by decide +kernel
theorem dX5_read_102 : decode cX5_read 102 = .ok (.iload 4, 2) := by decide +kernel
theorem dX5_read_104 : decode cX5_read 104 = .ok (.invokevirtual 55, 3) := by decide +kernel
theorem dX5_read_107 : decode cX5_read 107 = .ok (.ifCond .ne 5, 3) := by decide +kernel
theorem dX5_read_110 : decode cX5_read 110 = .ok (.iconst 0, 1) := by decide +kernel
theorem dX5_read_111 : decode cX5_read 111 = .ok (.ireturn, 1) := by decide +kernel
theorem dX5_read_112 : decode cX5_read 112 = .ok (.aload_n 0, 1) := by decide +kernel
theorem dX5_read_113 : decode cX5_read 113 = .ok (.aload_n 0, 1) := by decide +kernel
theorem dX5_read_114 : decode cX5_read 114 = .ok (.getfield 27, 3) := by decide +kernel
theorem dX5_read_117 : decode cX5_read 117 = .ok (.getfield 58, 3) := by decide +kernel
theorem dX5_read_120 : decode cX5_read 120 = .ok (.putfield 15, 3) := by decide +kernel
theorem dX5_read_123 : decode cX5_read 123 = .ok (.aload_n 0, 1) := by decide +kernel
theorem dX5_read_124 : decode cX5_read 124 = .ok (.aload_n 0, 1) := by decide +kernel
theorem dX5_read_125 : decode cX5_read 125 = .ok (.getfield 27, 3) := by decide +kernel
theorem dX5_read_128 : decode cX5_read 128 = .ok (.getfield 59, 3) := by decide +kernel
theorem dX5_read_131 : decode cX5_read 131 = .ok (.putfield 18, 3) := by decide +kernel
theorem dX5_read_134 : decode cX5_read 134 = .ok (.iload_n 3, 1) := by decide +kernel
theorem dX5_read_135 : decode cX5_read 135 = .ok (.ifCond .eq 15, 3) := by decide +kernel
theorem dX5_read_138 : decode cX5_read 138 = .ok (.aload_n 0, 1) := by decide +kernel
theorem dX5_read_139 : decode cX5_read 139 = .ok (.iload 4, 2) := by decide +kernel
theorem dX5_read_141 : decode cX5_read 141 = .ok (.iconst 1, 1) := by decide +kernel
theorem dX5_read_142 : decode cX5_read 142 = .ok (.iadd, 1) := by decide +kernel
theorem dX5_read_143 : decode cX5_read 143 = .ok (.iload_n 1, 1) := by decide +kernel
theorem dX5_read_144 : decode cX5_read 144 = .ok (.invokevirtual 60, 3) := by decide +kernel
theorem dX5_read_147 : decode cX5_read 147 = .ok (.ifCond .eq 7, 3) := by decide +kernel
theorem dX5_read_150 : decode cX5_read 150 = .ok (.iconst 1, 1) := by decide +kernel
theorem dX5_read_151 : decode cX5_read 151 = .ok (.goto 4, 3) := by decide +kernel
theorem dX5_read_154 : decode cX5_read 154 = .ok (.iconst 0, 1) := by decide +kernel
theorem dX5_read_155 : decode cX5_read 155 = .ok (.ireturn, 1) := by decide +kernel
theorem gX5_readOther_X3_failWithoutBlank : GoodIn wsX5_readOther (wsV RX5 41 RX3 yX3_failWithoutBlank wsX3_failWithoutBlank) := gw_c t_w159 (gw_c t_w158 (gw_c t_w157 (gw_c t_w101 (gw_c t_w156 (gw_t)))))
theorem gX5_readOther_X3_read : GoodIn wsX5_readOther (wsV RX5 55 RX3 yX3_read wsX3_read) := gw_c t_w169 (gw_c t_w168 (gw_c t_w167 (gw_c t_w101 (gw_c t_w166 (gw_t)))))
theorem dX5_readOther_0 : decode cX5_readOther 0 = .ok (.iload_n 1, 1) := by decide +kernel
theorem dX5_readOther_1 : decode cX5_readOther 1 = .ok (.iload_n 2, 1) := by decide +kernel
theorem dX5_readOther_2 : decode cX5_readOther 2 = .ok (.if_icmp .le 12, 3) := by decide +kernel
theorem dX5_readOther_5 : decode cX5_readOther 5 = .ok (.aload_n 0, 1) := by decide +kernel
theorem dX5_readOther_6 : decode cX5_readOther 6 = .ok (.getfield 27, 3) := by decide +kernel
theorem dX5_readOther_9 : decode cX5_readOther 9 = .ok (.iload_n 2, 1) := by decide +kernel
theorem dX5_readOther_10 : decode cX5_readOther 10 = .ok (.invokevirtual 41, 3) := by decide +kernel
theorem dX5_readOther_13 : decode cX5_readOther 13 = .ok (.ireturn, 1) := by decide +kernel
theorem dX5_readOther_14 : decode cX5_readOther 14 = .ok (.aload_n 0, 1) := by decide +kernel
theorem dX5_readOther_15 : decode cX5_readOther 15 = .ok (.getfield 27, 3) := by decide +kernel
theorem dX5_readOther_18 : decode cX5_readOther 18 = .ok (.iload_n 1, 1) := by decide +kernel
theorem dX5_readOther_19 : decode cX5_readOther 19 = .ok (.iload_n 2, 1) := by decide +kernel
theorem dX5_readOther_20 : decode cX5_readOther 20 = .ok (.invokevirtual 55, 3) := by decide +kernel
theorem dX5_readOther_23 : decode cX5_readOther 23 = .ok (.ifCond .ne 5, 3) := by decide +kernel
theorem dX5_readOther_26 : decode cX5_readOther 26 = .ok (.iconst 0, 1) := by decide +kernel
theorem dX5_readOther_27 : decode cX5_readOther 27 = .ok (.ireturn, 1) := by decide +kernel
theorem dX5_readOther_28 : decode cX5_readOther 28 = .ok (.aload_n 0, 1) := by decide +kernel
theorem dX5_readOther_29 : decode cX5_readOther 29 = .ok (.aload_n 0, 1) := by decide +kernel
theorem dX5_readOther_30 : decode cX5_readOther 30 = .ok (.getfield 27, 3) := by decide +kernel
theorem dX5_readOther_33 : decode cX5_readOther 33 = .ok (.getfield 58, 3) := by decide +kernel
theorem dX5_readOther_36 : decode cX5_readOther 36 = .ok (.putfield 21, 3) := by decide +kernel
theorem dX5_readOther_39 : decode cX5_readOther 39 = .ok (.aload_n 0, 1) := by decide +kernel
theorem dX5_readOther_40 : decode cX5_readOther 40 = .ok (.aload_n 0, 1) := by decide +kernel
theorem dX5_readOther_41 : decode cX5_readOther 41 = .ok (.getfield 27, 3) := by decide +kernel
theorem dX5_readOther_44 : decode cX5_readOther 44 = .ok (.getfield 59, 3) := by decide +kernel
theorem dX5_readOther_47 : decode cX5_readOther 47 = .ok (.putfield 24, 3) := by decide +kernel
theorem dX5_readOther_50 : decode cX5_readOther 50 = .ok (.iconst 1, 1) := by decide +kernel
theorem dX5_readOther_51 : decode cX5_readOther 51 = .ok (.ireturn, 1) := by decide +kernel
theorem gX5_wordTo_X8_isWord : GoodIn wsX5_wordTo (wsV RX5 65 RX8 yX8_isWord wsX8_isWord) := gw_c t_w177 (gw_c t_w176 (gw_c t_w175 (gw_c t_w152 (gw_c t_w174 (gw_t)))))
theorem dX5_wordTo_0 : decode cX5_wordTo 0 = .ok (.aload_n 0, 1) := by decide +kernel
theorem dX5_wordTo_1 : decode cX5_wordTo 1 = .ok (.getfield 31, 3) := by decide +kernel
theorem dX5_wordTo_4 : decode cX5_wordTo 4 = .ok (.ldc 63, 2) := by decide +kernel
theorem dX5_wordTo_6 : decode cX5_wordTo 6 = .ok (.iload_n 1, 1) := by decide +kernel
theorem dX5_wordTo_7 : decode cX5_wordTo 7 = .ok (.invokevirtual 65, 3) := by decide +kernel
theorem dX5_wordTo_10 : decode cX5_wordTo 10 = .ok (.ifCond .eq 5, 3) := by decide +kernel
theorem dX5_wordTo_13 : decode cX5_wordTo 13 = .ok (.iconst 0, 1) := by decide +kernel
theorem dX5_wordTo_14 : decode cX5_wordTo 14 = .ok (.ireturn, 1) := by decide +kernel
theorem dX5_wordTo_15 : decode cX5_wordTo 15 = .ok (.aload_n 0, 1) := by decide +kernel
theorem dX5_wordTo_16 : decode cX5_wordTo 16 = .ok (.getfield 31, 3) := by decide +kernel
theorem dX5_wordTo_19 : decode cX5_wordTo 19 = .ok (.ldc 69, 2) := by decide +kernel
theorem dX5_wordTo_21 : decode cX5_wordTo 21 = .ok (.iload_n 1, 1) := by decide +kernel
theorem dX5_wordTo_22 : decode cX5_wordTo 22 = .ok (.invokevirtual 65, 3) := by decide +kernel
theorem dX5_wordTo_25 : decode cX5_wordTo 25 = .ok (.ifCond .eq 5, 3) := by decide +kernel
theorem dX5_wordTo_28 : decode cX5_wordTo 28 = .ok (.iconst 1, 1) := by decide +kernel
theorem dX5_wordTo_29 : decode cX5_wordTo 29 = .ok (.ireturn, 1) := by decide +kernel
theorem dX5_wordTo_30 : decode cX5_wordTo 30 = .ok (.aload_n 0, 1) := by decide +kernel
theorem dX5_wordTo_31 : decode cX5_wordTo 31 = .ok (.getfield 31, 3) := by decide +kernel
theorem dX5_wordTo_34 : decode cX5_wordTo 34 = .ok (.ldc 71, 2) := by decide +kernel
theorem dX5_wordTo_36 : decode cX5_wordTo 36 = .ok (.iload_n 1, 1) := by decide +kernel
theorem dX5_wordTo_37 : decode cX5_wordTo 37 = .ok (.invokevirtual 65, 3) := by decide +kernel
theorem dX5_wordTo_40 : decode cX5_wordTo 40 = .ok (.ifCond .eq 5, 3) := by decide +kernel
theorem dX5_wordTo_43 : decode cX5_wordTo 43 = .ok (.iconst 2, 1) := by decide +kernel
theorem dX5_wordTo_44 : decode cX5_wordTo 44 = .ok (.ireturn, 1) := by decide +kernel
theorem dX5_wordTo_45 : decode cX5_wordTo 45 = .ok (.aload_n 0, 1) := by decide +kernel
theorem dX5_wordTo_46 : decode cX5_wordTo 46 = .ok (.getfield 31, 3) := by decide +kernel
theorem dX5_wordTo_49 : decode cX5_wordTo 49 = .ok (.ldc 73, 2) := by decide +kernel
theorem dX5_wordTo_51 : decode cX5_wordTo 51 = .ok (.iload_n 1, 1) := by decide +kernel
theorem dX5_wordTo_52 : decode cX5_wordTo 52 = .ok (.invokevirtual 65, 3) := by decide +kernel
theorem dX5_wordTo_55 : decode cX5_wordTo 55 = .ok (.ifCond .eq 5, 3) := by decide +kernel
theorem dX5_wordTo_58 : decode cX5_wordTo 58 = .ok (.iconst 3, 1) := by decide +kernel
theorem dX5_wordTo_59 : decode cX5_wordTo 59 = .ok (.ireturn, 1) := by decide +kernel
theorem dX5_wordTo_60 : decode cX5_wordTo 60 = .ok (.aload_n 0, 1) := by decide +kernel
theorem dX5_wordTo_61 : decode cX5_wordTo 61 = .ok (.getfield 31, 3) := by decide +kernel
theorem dX5_wordTo_64 : decode cX5_wordTo 64 = .ok (.ldc 75, 2) := by decide +kernel
theorem dX5_wordTo_66 : decode cX5_wordTo 66 = .ok (.iload_n 1, 1) := by decide +kernel
theorem dX5_wordTo_67 : decode cX5_wordTo 67 = .ok (.invokevirtual 65, 3) := by decide +kernel
theorem dX5_wordTo_70 : decode cX5_wordTo 70 = .ok (.ifCond .eq 5, 3) := by decide +kernel
theorem dX5_wordTo_73 : decode cX5_wordTo 73 = .ok (.iconst 4, 1) := by decide +kernel
theorem dX5_wordTo_74 : decode cX5_wordTo 74 = .ok (.ireturn, 1) := by decide +kernel
theorem dX5_wordTo_75 : decode cX5_wordTo 75 = .ok (.aload_n 0, 1) := by decide +kernel
theorem dX5_wordTo_76 : decode cX5_wordTo 76 = .ok (.getfield 31, 3) := by decide +kernel
theorem dX5_wordTo_79 : decode cX5_wordTo 79 = .ok (.ldc 77, 2) := by decide +kernel
theorem dX5_wordTo_81 : decode cX5_wordTo 81 = .ok (.iload_n 1, 1) := by decide +kernel
theorem dX5_wordTo_82 : decode cX5_wordTo 82 = .ok (.invokevirtual 65, 3) := by decide +kernel
theorem dX5_wordTo_85 : decode cX5_wordTo 85 = .ok (.ifCond .eq 5, 3) := by decide +kernel
theorem dX5_wordTo_88 : decode cX5_wordTo 88 = .ok (.iconst 5, 1) := by decide +kernel
theorem dX5_wordTo_89 : decode cX5_wordTo 89 = .ok (.ireturn, 1) := by decide +kernel
theorem dX5_wordTo_90 : decode cX5_wordTo 90 = .ok (.aload_n 0, 1) := by decide +kernel
theorem dX5_wordTo_91 : decode cX5_wordTo 91 = .ok (.getfield 31, 3) := by decide +kernel
theorem dX5_wordTo_94 : decode cX5_wordTo 94 = .ok (.ldc 79, 2) := by decide +kernel
theorem dX5_wordTo_96 : decode cX5_wordTo 96 = .ok (.iload_n 1, 1) := by decide +kernel
theorem dX5_wordTo_97 : decode cX5_wordTo 97 = .ok (.invokevirtual 65, 3) := by decide +kernel
theorem dX5_wordTo_100 : decode cX5_wordTo 100 = .ok (.ifCond .eq 8, 3) := by decide +kernel
theorem dX5_wordTo_103 : decode cX5_wordTo 103 = .ok (.bipush 6, 2) := by decide +kernel
theorem dX5_wordTo_105 : decode cX5_wordTo 105 = .ok (.goto 4, 3) := by decide +kernel
theorem dX5_wordTo_108 : decode cX5_wordTo 108 = .ok (.iconst (-1), 1) := by decide +kernel
theorem dX5_wordTo_109 : decode cX5_wordTo 109 = .ok (.ireturn, 1) := by decide +kernel
