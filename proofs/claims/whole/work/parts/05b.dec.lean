theorem dX4_init_0 : decode cX4_init 0 = .ok (.aload_n 0, 1) := by decide +kernel
theorem dX4_init_1 : decode cX4_init 1 = .ok (.invokespecial 3, 3) := by decide +kernel
theorem dX4_init_4 : decode cX4_init 4 = .ok (.aload_n 0, 1) := by decide +kernel
theorem dX4_init_5 : decode cX4_init 5 = .ok (.iload_n 1, 1) := by decide +kernel
theorem dX4_init_6 : decode cX4_init 6 = .ok (.putfield 9, 3) := by decide +kernel
theorem dX4_init_9 : decode cX4_init 9 = .ok (.aload_n 0, 1) := by decide +kernel
theorem dX4_init_10 : decode cX4_init 10 = .ok (.iload_n 2, 1) := by decide +kernel
theorem dX4_init_11 : decode cX4_init 11 = .ok (.putfield 15, 3) := by decide +kernel
theorem dX4_init_14 : decode cX4_init 14 = .ok (.aload_n 0, 1) := by decide +kernel
theorem dX4_init_15 : decode cX4_init 15 = .ok (.iload_n 3, 1) := by decide +kernel
theorem dX4_init_16 : decode cX4_init 16 = .ok (.putfield 18, 3) := by decide +kernel
theorem dX4_init_19 : decode cX4_init 19 = .ok (.aload_n 0, 1) := by decide +kernel
theorem dX4_init_20 : decode cX4_init 20 = .ok (.iload 4, 2) := by decide +kernel
theorem dX4_init_22 : decode cX4_init 22 = .ok (.putfield 21, 3) := by decide +kernel
theorem dX4_init_25 : decode cX4_init 25 = .ok (.aload_n 0, 1) := by decide +kernel
theorem dX4_init_26 : decode cX4_init 26 = .ok (.iconst 1, 1) := by decide +kernel
theorem dX4_init_27 : decode cX4_init 27 = .ok (.putfield 24, 3) := by decide +kernel
theorem dX4_init_30 : decode cX4_init 30 = .ok (.aload_n 0, 1) := by decide +kernel
theorem dX4_init_31 : decode cX4_init 31 = .ok (.iconst (-1), 1) := by decide +kernel
theorem dX4_init_32 : decode cX4_init 32 = .ok (.putfield 28, 3) := by decide +kernel
theorem dX4_init_35 : decode cX4_init 35 = .ok (.return_, 1) := by decide +kernel
theorem dX4_addChild_0 : decode cX4_addChild 0 = .ok (.iload_n 2, 1) := by decide +kernel
theorem dX4_addChild_1 : decode cX4_addChild 1 = .ok (.ifCond .ne 18, 3) := by decide +kernel
theorem dX4_addChild_4 : decode cX4_addChild 4 = .ok (.aload_n 0, 1) := by decide +kernel
theorem dX4_addChild_5 : decode cX4_addChild 5 = .ok (.dup, 1) := by decide +kernel
theorem dX4_addChild_6 : decode cX4_addChild 6 = .ok (.getfield 31, 3) := by decide +kernel
theorem dX4_addChild_9 : decode cX4_addChild 9 = .ok (.lconst 1, 1) := by decide +kernel
theorem dX4_addChild_10 : decode cX4_addChild 10 = .ok (.iload_n 1, 1) := by decide +kernel
theorem dX4_addChild_11 : decode cX4_addChild 11 = .ok (.lshl, 1) := by decide +kernel
theorem dX4_addChild_12 : decode cX4_addChild 12 = .ok (.lor, 1) := by decide +kernel
theorem dX4_addChild_13 : decode cX4_addChild 13 = .ok (.putfield 31, 3) := by decide +kernel
theorem dX4_addChild_16 : decode cX4_addChild 16 = .ok (.goto 15, 3) := by decide +kernel
theorem dX4_addChild_19 : decode cX4_addChild 19 = .ok (.aload_n 0, 1) := by decide +kernel
theorem dX4_addChild_20 : decode cX4_addChild 20 = .ok (.dup, 1) := by decide +kernel
theorem dX4_addChild_21 : decode cX4_addChild 21 = .ok (.getfield 35, 3) := by decide +kernel
theorem dX4_addChild_24 : decode cX4_addChild 24 = .ok (.lconst 1, 1) := by decide +kernel
theorem dX4_addChild_25 : decode cX4_addChild 25 = .ok (.iload_n 1, 1) := by decide +kernel
theorem dX4_addChild_26 : decode cX4_addChild 26 = .ok (.lshl, 1) := by decide +kernel
theorem dX4_addChild_27 : decode cX4_addChild 27 = .ok (.lor, 1) := by decide +kernel
theorem dX4_addChild_28 : decode cX4_addChild 28 = .ok (.putfield 35, 3) := by decide +kernel
theorem dX4_addChild_31 : decode cX4_addChild 31 = .ok (.return_, 1) := by decide +kernel
theorem dX4_spendWeeks_0 : decode cX4_spendWeeks 0 = .ok (.iload_n 1, 1) := by decide +kernel
theorem dX4_spendWeeks_1 : decode cX4_spendWeeks 1 = .ok (.aload_n 0, 1) := by decide +kernel
theorem dX4_spendWeeks_2 : decode cX4_spendWeeks 2 = .ok (.getfield 38, 3) := by decide +kernel
theorem dX4_spendWeeks_5 : decode cX4_spendWeeks 5 = .ok (.invokestatic 41, 3) := by decide +kernel
theorem dX4_spendWeeks_8 : decode cX4_spendWeeks 8 = .ok (.istore_n 3, 1) := by decide +kernel
theorem dX4_spendWeeks_9 : decode cX4_spendWeeks 9 = .ok (.aload_n 0, 1) := by decide +kernel
theorem dX4_spendWeeks_10 : decode cX4_spendWeeks 10 = .ok (.dup, 1) := by decide +kernel
theorem dX4_spendWeeks_11 : decode cX4_spendWeeks 11 = .ok (.getfield 47, 3) := by decide +kernel
theorem dX4_spendWeeks_14 : decode cX4_spendWeeks 14 = .ok (.iload_n 3, 1) := by decide +kernel
theorem dX4_spendWeeks_15 : decode cX4_spendWeeks 15 = .ok (.iload_n 2, 1) := by decide +kernel
theorem dX4_spendWeeks_16 : decode cX4_spendWeeks 16 = .ok (.imul, 1) := by decide +kernel
theorem dX4_spendWeeks_17 : decode cX4_spendWeeks 17 = .ok (.iadd, 1) := by decide +kernel
theorem dX4_spendWeeks_18 : decode cX4_spendWeeks 18 = .ok (.putfield 47, 3) := by decide +kernel
theorem dX4_spendWeeks_21 : decode cX4_spendWeeks 21 = .ok (.aload_n 0, 1) := by decide +kernel
theorem dX4_spendWeeks_22 : decode cX4_spendWeeks 22 = .ok (.dup, 1) := by decide +kernel
theorem dX4_spendWeeks_23 : decode cX4_spendWeeks 23 = .ok (.getfield 50, 3) := by decide +kernel
theorem dX4_spendWeeks_26 : decode cX4_spendWeeks 26 = .ok (.iload_n 1, 1) := by decide +kernel
theorem dX4_spendWeeks_27 : decode cX4_spendWeeks 27 = .ok (.iload_n 3, 1) := by decide +kernel
theorem dX4_spendWeeks_28 : decode cX4_spendWeeks 28 = .ok (.isub, 1) := by decide +kernel
theorem dX4_spendWeeks_29 : decode cX4_spendWeeks 29 = .ok (.iload_n 2, 1) := by decide +kernel
theorem dX4_spendWeeks_30 : decode cX4_spendWeeks 30 = .ok (.imul, 1) := by decide +kernel
theorem dX4_spendWeeks_31 : decode cX4_spendWeeks 31 = .ok (.iadd, 1) := by decide +kernel
theorem dX4_spendWeeks_32 : decode cX4_spendWeeks 32 = .ok (.putfield 50, 3) := by decide +kernel
theorem dX4_spendWeeks_35 : decode cX4_spendWeeks 35 = .ok (.aload_n 0, 1) := by decide +kernel
theorem dX4_spendWeeks_36 : decode cX4_spendWeeks 36 = .ok (.getfield 24, 3) := by decide +kernel
theorem dX4_spendWeeks_39 : decode cX4_spendWeeks 39 = .ok (.ifCond .eq 13, 3) := by decide +kernel
theorem dX4_spendWeeks_42 : decode cX4_spendWeeks 42 = .ok (.aload_n 0, 1) := by decide +kernel
theorem dX4_spendWeeks_43 : decode cX4_spendWeeks 43 = .ok (.dup, 1) := by decide +kernel
theorem dX4_spendWeeks_44 : decode cX4_spendWeeks 44 = .ok (.getfield 38, 3) := by decide +kernel
theorem dX4_spendWeeks_47 : decode cX4_spendWeeks 47 = .ok (.iload_n 3, 1) := by decide +kernel
theorem dX4_spendWeeks_48 : decode cX4_spendWeeks 48 = .ok (.isub, 1) := by decide +kernel
theorem dX4_spendWeeks_49 : decode cX4_spendWeeks 49 = .ok (.putfield 38, 3) := by decide +kernel
theorem dX4_spendWeeks_52 : decode cX4_spendWeeks 52 = .ok (.return_, 1) := by decide +kernel
theorem dX5_init_0 : decode cX5_init 0 = .ok (.aload_n 0, 1) := by decide +kernel
theorem dX5_init_1 : decode cX5_init 1 = .ok (.invokespecial 1, 3) := by decide +kernel
theorem dX5_init_4 : decode cX5_init 4 = .ok (.aload_n 0, 1) := by decide +kernel
theorem dX5_init_5 : decode cX5_init 5 = .ok (.iload_n 1, 1) := by decide +kernel
theorem dX5_init_6 : decode cX5_init 6 = .ok (.putfield 7, 3) := by decide +kernel
theorem dX5_init_9 : decode cX5_init 9 = .ok (.aload_n 0, 1) := by decide +kernel
theorem dX5_init_10 : decode cX5_init 10 = .ok (.iload_n 2, 1) := by decide +kernel
theorem dX5_init_11 : decode cX5_init 11 = .ok (.putfield 13, 3) := by decide +kernel
theorem dX5_init_14 : decode cX5_init 14 = .ok (.aload_n 0, 1) := by decide +kernel
theorem dX5_init_15 : decode cX5_init 15 = .ok (.iload_n 3, 1) := by decide +kernel
theorem dX5_init_16 : decode cX5_init 16 = .ok (.putfield 16, 3) := by decide +kernel
theorem dX5_init_19 : decode cX5_init 19 = .ok (.aload_n 0, 1) := by decide +kernel
theorem dX5_init_20 : decode cX5_init 20 = .ok (.aload 4, 2) := by decide +kernel
theorem dX5_init_22 : decode cX5_init 22 = .ok (.putfield 19, 3) := by decide +kernel
theorem dX5_init_25 : decode cX5_init 25 = .ok (.return_, 1) := by decide +kernel
theorem dX6_init_0 : decode cX6_init 0 = .ok (.aload_n 0, 1) := by decide +kernel
theorem dX6_init_1 : decode cX6_init 1 = .ok (.invokespecial 3, 3) := by decide +kernel
theorem dX6_init_4 : decode cX6_init 4 = .ok (.aload_n 0, 1) := by decide +kernel
theorem dX6_init_5 : decode cX6_init 5 = .ok (.iload_n 1, 1) := by decide +kernel
theorem dX6_init_6 : decode cX6_init 6 = .ok (.putfield 9, 3) := by decide +kernel
theorem dX6_init_9 : decode cX6_init 9 = .ok (.aload_n 0, 1) := by decide +kernel
theorem dX6_init_10 : decode cX6_init 10 = .ok (.iload_n 2, 1) := by decide +kernel
theorem dX6_init_11 : decode cX6_init 11 = .ok (.putfield 15, 3) := by decide +kernel
theorem dX6_init_14 : decode cX6_init 14 = .ok (.aload_n 0, 1) := by decide +kernel
theorem dX6_init_15 : decode cX6_init 15 = .ok (.iload_n 3, 1) := by decide +kernel
theorem dX6_init_16 : decode cX6_init 16 = .ok (.putfield 18, 3) := by decide +kernel
theorem dX6_init_19 : decode cX6_init 19 = .ok (.aload_n 0, 1) := by decide +kernel
theorem dX6_init_20 : decode cX6_init 20 = .ok (.iconst 0, 1) := by decide +kernel
theorem dX6_init_21 : decode cX6_init 21 = .ok (.putfield 21, 3) := by decide +kernel
theorem dX6_init_24 : decode cX6_init 24 = .ok (.aload_n 0, 1) := by decide +kernel
theorem dX6_init_25 : decode cX6_init 25 = .ok (.iconst 0, 1) := by decide +kernel
theorem dX6_init_26 : decode cX6_init 26 = .ok (.putfield 24, 3) := by decide +kernel
theorem dX6_init_29 : decode cX6_init 29 = .ok (.return_, 1) := by decide +kernel
theorem dJ13_bitCount_95d88_0 : decode cJ13_bitCount_95d88 0 = .ok (.lload_n 0, 1) := by decide +kernel
theorem dJ13_bitCount_95d88_1 : decode cJ13_bitCount_95d88 1 = .ok (.lload_n 0, 1) := by decide +kernel
theorem dJ13_bitCount_95d88_2 : decode cJ13_bitCount_95d88 2 = .ok (.iconst 1, 1) := by decide +kernel
theorem dJ13_bitCount_95d88_3 : decode cJ13_bitCount_95d88 3 = .ok (.lushr, 1) := by decide +kernel
theorem dJ13_bitCount_95d88_4 : decode cJ13_bitCount_95d88 4 = .ok (.ldc2_w 314, 3) := by decide +kernel
theorem dJ13_bitCount_95d88_7 : decode cJ13_bitCount_95d88 7 = .ok (.land, 1) := by decide +kernel
theorem dJ13_bitCount_95d88_8 : decode cJ13_bitCount_95d88 8 = .ok (.lsub, 1) := by decide +kernel
theorem dJ13_bitCount_95d88_9 : decode cJ13_bitCount_95d88 9 = .ok (.lstore_n 0, 1) := by decide +kernel
theorem dJ13_bitCount_95d88_10 : decode cJ13_bitCount_95d88 10 = .ok (.lload_n 0, 1) := by decide +kernel
theorem dJ13_bitCount_95d88_11 : decode cJ13_bitCount_95d88 11 = .ok (.ldc2_w 316, 3) := by decide +kernel
theorem dJ13_bitCount_95d88_14 : decode cJ13_bitCount_95d88 14 = .ok (.land, 1) := by decide +kernel
theorem dJ13_bitCount_95d88_15 : decode cJ13_bitCount_95d88 15 = .ok (.lload_n 0, 1) := by decide +kernel
theorem dJ13_bitCount_95d88_16 : decode cJ13_bitCount_95d88 16 = .ok (.iconst 2, 1) := by decide +kernel
theorem dJ13_bitCount_95d88_17 : decode cJ13_bitCount_95d88 17 = .ok (.lushr, 1) := by decide +kernel
theorem dJ13_bitCount_95d88_18 : decode cJ13_bitCount_95d88 18 = .ok (.ldc2_w 316, 3) := by decide +kernel
theorem dJ13_bitCount_95d88_21 : decode cJ13_bitCount_95d88 21 = .ok (.land, 1) := by decide +kernel
theorem dJ13_bitCount_95d88_22 : decode cJ13_bitCount_95d88 22 = .ok (.ladd, 1) := by decide +kernel
theorem dJ13_bitCount_95d88_23 : decode cJ13_bitCount_95d88 23 = .ok (.lstore_n 0, 1) := by decide +kernel
theorem dJ13_bitCount_95d88_24 : decode cJ13_bitCount_95d88 24 = .ok (.lload_n 0, 1) := by decide +kernel
theorem dJ13_bitCount_95d88_25 : decode cJ13_bitCount_95d88 25 = .ok (.lload_n 0, 1) := by decide +kernel
theorem dJ13_bitCount_95d88_26 : decode cJ13_bitCount_95d88 26 = .ok (.iconst 4, 1) := by decide +kernel
theorem dJ13_bitCount_95d88_27 : decode cJ13_bitCount_95d88 27 = .ok (.lushr, 1) := by decide +kernel
theorem dJ13_bitCount_95d88_28 : decode cJ13_bitCount_95d88 28 = .ok (.ladd, 1) := by decide +kernel
theorem dJ13_bitCount_95d88_29 : decode cJ13_bitCount_95d88 29 = .ok (.ldc2_w 318, 3) := by decide +kernel
theorem dJ13_bitCount_95d88_32 : decode cJ13_bitCount_95d88 32 = .ok (.land, 1) := by decide +kernel
theorem dJ13_bitCount_95d88_33 : decode cJ13_bitCount_95d88 33 = .ok (.lstore_n 0, 1) := by decide +kernel
theorem dJ13_bitCount_95d88_34 : decode cJ13_bitCount_95d88 34 = .ok (.lload_n 0, 1) := by decide +kernel
theorem dJ13_bitCount_95d88_35 : decode cJ13_bitCount_95d88 35 = .ok (.lload_n 0, 1) := by decide +kernel
theorem dJ13_bitCount_95d88_36 : decode cJ13_bitCount_95d88 36 = .ok (.bipush 8, 2) := by decide +kernel
theorem dJ13_bitCount_95d88_38 : decode cJ13_bitCount_95d88 38 = .ok (.lushr, 1) := by decide +kernel
theorem dJ13_bitCount_95d88_39 : decode cJ13_bitCount_95d88 39 = .ok (.ladd, 1) := by decide +kernel
theorem dJ13_bitCount_95d88_40 : decode cJ13_bitCount_95d88 40 = .ok (.lstore_n 0, 1) := by decide +kernel
theorem dJ13_bitCount_95d88_41 : decode cJ13_bitCount_95d88 41 = .ok (.lload_n 0, 1) := by decide +kernel
theorem dJ13_bitCount_95d88_42 : decode cJ13_bitCount_95d88 42 = .ok (.lload_n 0, 1) := by decide +kernel
theorem dJ13_bitCount_95d88_43 : decode cJ13_bitCount_95d88 43 = .ok (.bipush 16, 2) := by decide +kernel
theorem dJ13_bitCount_95d88_45 : decode cJ13_bitCount_95d88 45 = .ok (.lushr, 1) := by decide +kernel
theorem dJ13_bitCount_95d88_46 : decode cJ13_bitCount_95d88 46 = .ok (.ladd, 1) := by decide +kernel
theorem dJ13_bitCount_95d88_47 : decode cJ13_bitCount_95d88 47 = .ok (.lstore_n 0, 1) := by decide +kernel
theorem dJ13_bitCount_95d88_48 : decode cJ13_bitCount_95d88 48 = .ok (.lload_n 0, 1) := by decide +kernel
theorem dJ13_bitCount_95d88_49 : decode cJ13_bitCount_95d88 49 = .ok (.lload_n 0, 1) := by decide +kernel
theorem dJ13_bitCount_95d88_50 : decode cJ13_bitCount_95d88 50 = .ok (.bipush 32, 2) := by decide +kernel
theorem dJ13_bitCount_95d88_52 : decode cJ13_bitCount_95d88 52 = .ok (.lushr, 1) := by decide +kernel
theorem dJ13_bitCount_95d88_53 : decode cJ13_bitCount_95d88 53 = .ok (.ladd, 1) := by decide +kernel
theorem dJ13_bitCount_95d88_54 : decode cJ13_bitCount_95d88 54 = .ok (.lstore_n 0, 1) := by decide +kernel
theorem dJ13_bitCount_95d88_55 : decode cJ13_bitCount_95d88 55 = .ok (.lload_n 0, 1) := by decide +kernel
theorem dJ13_bitCount_95d88_56 : decode cJ13_bitCount_95d88 56 = .ok (.l2i, 1) := by decide +kernel
theorem dJ13_bitCount_95d88_57 : decode cJ13_bitCount_95d88 57 = .ok (.bipush 127, 2) := by decide +kernel
theorem dJ13_bitCount_95d88_59 : decode cJ13_bitCount_95d88 59 = .ok (.iand, 1) := by decide +kernel
theorem dJ13_bitCount_95d88_60 : decode cJ13_bitCount_95d88 60 = .ok (.ireturn, 1) := by decide +kernel
theorem dJ9_max_7cf53_0 : decode cJ9_max_7cf53 0 = .ok (.iload_n 0, 1) := by decide +kernel
theorem dJ9_max_7cf53_1 : decode cJ9_max_7cf53 1 = .ok (.iload_n 1, 1) := by decide +kernel
theorem dJ9_max_7cf53_2 : decode cJ9_max_7cf53 2 = .ok (.if_icmp .lt 7, 3) := by decide +kernel
theorem dJ9_max_7cf53_5 : decode cJ9_max_7cf53 5 = .ok (.iload_n 0, 1) := by decide +kernel
theorem dJ9_max_7cf53_6 : decode cJ9_max_7cf53 6 = .ok (.goto 4, 3) := by decide +kernel
theorem dJ9_max_7cf53_9 : decode cJ9_max_7cf53 9 = .ok (.iload_n 1, 1) := by decide +kernel
theorem dJ9_max_7cf53_10 : decode cJ9_max_7cf53 10 = .ok (.ireturn, 1) := by decide +kernel
theorem dJ9_min_7cf53_0 : decode cJ9_min_7cf53 0 = .ok (.iload_n 0, 1) := by decide +kernel
theorem dJ9_min_7cf53_1 : decode cJ9_min_7cf53 1 = .ok (.iload_n 1, 1) := by decide +kernel
theorem dJ9_min_7cf53_2 : decode cJ9_min_7cf53 2 = .ok (.if_icmp .gt 7, 3) := by decide +kernel
theorem dJ9_min_7cf53_5 : decode cJ9_min_7cf53 5 = .ok (.iload_n 0, 1) := by decide +kernel
theorem dJ9_min_7cf53_6 : decode cJ9_min_7cf53 6 = .ok (.goto 4, 3) := by decide +kernel
theorem dJ9_min_7cf53_9 : decode cJ9_min_7cf53 9 = .ok (.iload_n 1, 1) := by decide +kernel
theorem dJ9_min_7cf53_10 : decode cJ9_min_7cf53 10 = .ok (.ireturn, 1) := by decide +kernel
theorem dX7_init_0 : decode cX7_init 0 = .ok (.aload_n 0, 1) := by decide +kernel
theorem dX7_init_1 : decode cX7_init 1 = .ok (.invokespecial 3, 3) := by decide +kernel
theorem dX7_init_4 : decode cX7_init 4 = .ok (.aload_n 0, 1) := by decide +kernel
theorem dX7_init_5 : decode cX7_init 5 = .ok (.iconst 0, 1) := by decide +kernel
theorem dX7_init_6 : decode cX7_init 6 = .ok (.putfield 9, 3) := by decide +kernel
theorem dX7_init_9 : decode cX7_init 9 = .ok (.aload_n 0, 1) := by decide +kernel
theorem dX7_init_10 : decode cX7_init 10 = .ok (.new 13, 3) := by decide +kernel
theorem dX7_init_13 : decode cX7_init 13 = .ok (.dup, 1) := by decide +kernel
theorem dX7_init_14 : decode cX7_init 14 = .ok (.iconst 0, 1) := by decide +kernel
theorem dX7_init_15 : decode cX7_init 15 = .ok (.iconst 0, 1) := by decide +kernel
theorem dX7_init_16 : decode cX7_init 16 = .ok (.invokespecial 15, 3) := by decide +kernel
theorem dX7_init_19 : decode cX7_init 19 = .ok (.putfield 18, 3) := by decide +kernel
theorem dX7_init_22 : decode cX7_init 22 = .ok (.aload_n 0, 1) := by decide +kernel
theorem dX7_init_23 : decode cX7_init 23 = .ok (.iconst 0, 1) := by decide +kernel
theorem dX7_init_24 : decode cX7_init 24 = .ok (.putfield 22, 3) := by decide +kernel
theorem dX7_init_27 : decode cX7_init 27 = .ok (.aload_n 0, 1) := by decide +kernel
theorem dX7_init_28 : decode cX7_init 28 = .ok (.new 25, 3) := by decide +kernel
theorem dX7_init_31 : decode cX7_init 31 = .ok (.dup, 1) := by decide +kernel
theorem dX7_init_32 : decode cX7_init 32 = .ok (.invokespecial 27, 3) := by decide +kernel
theorem dX7_init_35 : decode cX7_init 35 = .ok (.putfield 28, 3) := by decide +kernel
theorem dX7_init_38 : decode cX7_init 38 = .ok (.aload_n 0, 1) := by decide +kernel
theorem dX7_init_39 : decode cX7_init 39 = .ok (.new 32, 3) := by decide +kernel
theorem dX7_init_42 : decode cX7_init 42 = .ok (.dup, 1) := by decide +kernel
theorem dX7_init_43 : decode cX7_init 43 = .ok (.invokespecial 34, 3) := by decide +kernel
theorem dX7_init_46 : decode cX7_init 46 = .ok (.putfield 35, 3) := by decide +kernel
theorem dX7_init_49 : decode cX7_init 49 = .ok (.aload_n 0, 1) := by decide +kernel
theorem dX7_init_50 : decode cX7_init 50 = .ok (.new 39, 3) := by decide +kernel
theorem dX7_init_53 : decode cX7_init 53 = .ok (.dup, 1) := by decide +kernel
theorem dX7_init_54 : decode cX7_init 54 = .ok (.aload_n 0, 1) := by decide +kernel
theorem dX7_init_55 : decode cX7_init 55 = .ok (.getfield 28, 3) := by decide +kernel
theorem dX7_init_58 : decode cX7_init 58 = .ok (.invokespecial 41, 3) := by decide +kernel
theorem dX7_init_61 : decode cX7_init 61 = .ok (.putfield 44, 3) := by decide +kernel
theorem dX7_init_64 : decode cX7_init 64 = .ok (.aload_n 0, 1) := by decide +kernel
theorem dX7_init_65 : decode cX7_init 65 = .ok (.bipush 40, 2) := by decide +kernel
theorem dX7_init_67 : decode cX7_init 67 = .ok (.anewarray 48, 3) := by decide +kernel
theorem dX7_init_70 : decode cX7_init 70 = .ok (.putfield 50, 3) := by decide +kernel
theorem dX7_init_73 : decode cX7_init 73 = .ok (.aload_n 0, 1) := by decide +kernel
theorem dX7_init_74 : decode cX7_init 74 = .ok (.iconst 0, 1) := by decide +kernel
theorem dX7_init_75 : decode cX7_init 75 = .ok (.putfield 54, 3) := by decide +kernel
theorem dX7_init_78 : decode cX7_init 78 = .ok (.aload_n 0, 1) := by decide +kernel
theorem dX7_init_79 : decode cX7_init 79 = .ok (.iconst 0, 1) := by decide +kernel
theorem dX7_init_80 : decode cX7_init 80 = .ok (.putfield 57, 3) := by decide +kernel
theorem dX7_init_83 : decode cX7_init 83 = .ok (.return_, 1) := by decide +kernel
theorem dX7_custom_0 : decode cX7_custom 0 = .ok (.iload_n 1, 1) := by decide +kernel
theorem dX7_custom_1 : decode cX7_custom 1 = .ok (.iload_n 2, 1) := by decide +kernel
theorem dX7_custom_2 : decode cX7_custom 2 = .ok (.invokestatic 60, 3) := by decide +kernel
theorem dX7_custom_5 : decode cX7_custom 5 = .ok (.ifCond .ne 5, 3) := by decide +kernel
theorem dX7_custom_8 : decode cX7_custom 8 = .ok (.iconst (-1), 1) := by decide +kernel
theorem dX7_custom_9 : decode cX7_custom 9 = .ok (.ireturn, 1) := by decide +kernel
theorem dX7_custom_10 : decode cX7_custom 10 = .ok (.aload_n 0, 1) := by decide +kernel
theorem dX7_custom_11 : decode cX7_custom 11 = .ok (.new 13, 3) := by decide +kernel
theorem dX7_custom_14 : decode cX7_custom 14 = .ok (.dup, 1) := by decide +kernel
theorem dX7_custom_15 : decode cX7_custom 15 = .ok (.iload_n 1, 1) := by decide +kernel
theorem dX7_custom_16 : decode cX7_custom 16 = .ok (.iload_n 2, 1) := by decide +kernel
theorem dX7_custom_17 : decode cX7_custom 17 = .ok (.invokespecial 15, 3) := by decide +kernel
theorem dX7_custom_20 : decode cX7_custom 20 = .ok (.putfield 18, 3) := by decide +kernel
theorem dX7_custom_23 : decode cX7_custom 23 = .ok (.aload_n 0, 1) := by decide +kernel
theorem dX7_custom_24 : decode cX7_custom 24 = .ok (.dup, 1) := by decide +kernel
theorem dX7_custom_25 : decode cX7_custom 25 = .ok (.getfield 22, 3) := by decide +kernel
theorem dX7_custom_28 : decode cX7_custom 28 = .ok (.iconst 1, 1) := by decide +kernel
theorem dX7_custom_29 : decode cX7_custom 29 = .ok (.iadd, 1) := by decide +kernel
theorem dX7_custom_30 : decode cX7_custom 30 = .ok (.putfield 22, 3) := by decide +kernel
theorem dX7_custom_33 : decode cX7_custom 33 = .ok (.aload_n 0, 1) := by decide +kernel
theorem dX7_custom_34 : decode cX7_custom 34 = .ok (.getfield 22, 3) := by decide +kernel
theorem dX7_custom_37 : decode cX7_custom 37 = .ok (.ireturn, 1) := by decide +kernel
theorem dX7_person_0 : decode cX7_person 0 = .ok (.iload_n 1, 1) := by decide +kernel
theorem dX7_person_1 : decode cX7_person 1 = .ok (.ifCond .eq 8, 3) := by decide +kernel
theorem dX7_person_4 : decode cX7_person 4 = .ok (.iload_n 1, 1) := by decide +kernel
theorem dX7_person_5 : decode cX7_person 5 = .ok (.iconst 1, 1) := by decide +kernel
theorem dX7_person_6 : decode cX7_person 6 = .ok (.if_icmp .ne 15, 3) := by decide +kernel
theorem dX7_person_9 : decode cX7_person 9 = .ok (.aload_n 0, 1) := by decide +kernel
theorem dX7_person_10 : decode cX7_person 10 = .ok (.getfield 28, 3) := by decide +kernel
theorem dX7_person_13 : decode cX7_person 13 = .ok (.getfield 64, 3) := by decide +kernel
theorem dX7_person_16 : decode cX7_person 16 = .ok (.bipush 60, 2) := by decide +kernel
theorem dX7_person_18 : decode cX7_person 18 = .ok (.if_icmp .lt 5, 3) := by decide +kernel
theorem dX7_person_21 : decode cX7_person 21 = .ok (.iconst (-1), 1) := by decide +kernel
theorem dX7_person_22 : decode cX7_person 22 = .ok (.ireturn, 1) := by decide +kernel
theorem dX7_person_23 : decode cX7_person 23 = .ok (.aload_n 0, 1) := by decide +kernel
theorem dX7_person_24 : decode cX7_person 24 = .ok (.getfield 28, 3) := by decide +kernel
theorem dX7_person_27 : decode cX7_person 27 = .ok (.iload_n 2, 1) := by decide +kernel
theorem dX7_person_28 : decode cX7_person 28 = .ok (.iconst 0, 1) := by decide +kernel
theorem dX7_person_29 : decode cX7_person 29 = .ok (.invokevirtual 67, 3) := by decide +kernel
theorem dX7_person_32 : decode cX7_person 32 = .ok (.ifCond .eq 15, 3) := by decide +kernel
theorem dX7_person_35 : decode cX7_person 35 = .ok (.aload_n 0, 1) := by decide +kernel
theorem dX7_person_36 : decode cX7_person 36 = .ok (.getfield 28, 3) := by decide +kernel
theorem dX7_person_39 : decode cX7_person 39 = .ok (.iload_n 3, 1) := by decide +kernel
theorem dX7_person_40 : decode cX7_person 40 = .ok (.iconst 1, 1) := by decide +kernel
theorem dX7_person_41 : decode cX7_person 41 = .ok (.invokevirtual 67, 3) := by decide +kernel
theorem dX7_person_44 : decode cX7_person 44 = .ok (.ifCond .ne 5, 3) := by decide +kernel
theorem dX7_person_47 : decode cX7_person 47 = .ok (.iconst (-1), 1) := by decide +kernel
theorem dX7_person_48 : decode cX7_person 48 = .ok (.ireturn, 1) := by decide +kernel
theorem dX7_person_49 : decode cX7_person 49 = .ok (.aload_n 0, 1) := by decide +kernel
theorem dX7_person_50 : decode cX7_person 50 = .ok (.getfield 28, 3) := by decide +kernel
theorem dX7_person_53 : decode cX7_person 53 = .ok (.new 70, 3) := by decide +kernel
theorem dX7_person_56 : decode cX7_person 56 = .ok (.dup, 1) := by decide +kernel
theorem dX7_person_57 : decode cX7_person 57 = .ok (.iload_n 1, 1) := by decide +kernel
theorem dX7_person_58 : decode cX7_person 58 = .ok (.iload_n 2, 1) := by decide +kernel
theorem dX7_person_59 : decode cX7_person 59 = .ok (.iload_n 3, 1) := by decide +kernel
theorem dX7_person_60 : decode cX7_person 60 = .ok (.aload_n 0, 1) := by decide +kernel
theorem dX7_person_61 : decode cX7_person 61 = .ok (.getfield 9, 3) := by decide +kernel
theorem dX7_person_64 : decode cX7_person 64 = .ok (.invokespecial 72, 3) := by decide +kernel
theorem dX7_person_67 : decode cX7_person 67 = .ok (.invokevirtual 75, 3) := by decide +kernel
theorem dX7_person_70 : decode cX7_person 70 = .ok (.ireturn, 1) := by decide +kernel
theorem dX7_marry_0 : decode cX7_marry 0 = .ok (.aload_n 0, 1) := by decide +kernel
theorem dX7_marry_1 : decode cX7_marry 1 = .ok (.getfield 28, 3) := by decide +kernel
theorem dX7_marry_4 : decode cX7_marry 4 = .ok (.iload_n 1, 1) := by decide +kernel
theorem dX7_marry_5 : decode cX7_marry 5 = .ok (.invokevirtual 79, 3) := by decide +kernel
theorem dX7_marry_8 : decode cX7_marry 8 = .ok (.astore_n 3, 1) := by decide +kernel
theorem dX7_marry_9 : decode cX7_marry 9 = .ok (.aload_n 0, 1) := by decide +kernel
theorem dX7_marry_10 : decode cX7_marry 10 = .ok (.getfield 28, 3) := by decide +kernel
theorem dX7_marry_13 : decode cX7_marry 13 = .ok (.iload_n 2, 1) := by decide +kernel
theorem dX7_marry_14 : decode cX7_marry 14 = .ok (.invokevirtual 79, 3) := by decide +kernel
theorem dX7_marry_17 : decode cX7_marry 17 = .ok (.astore 4, 2) := by decide +kernel
theorem dX7_marry_19 : decode cX7_marry 19 = .ok (.aload_n 3, 1) := by decide +kernel
theorem dX7_marry_20 : decode cX7_marry 20 = .ok (.ifnull 24, 3) := by decide +kernel
theorem dX7_marry_23 : decode cX7_marry 23 = .ok (.aload 4, 2) := by decide +kernel
theorem dX7_marry_25 : decode cX7_marry 25 = .ok (.ifnull 19, 3) := by decide +kernel
theorem dX7_marry_28 : decode cX7_marry 28 = .ok (.aload_n 3, 1) := by decide +kernel
theorem dX7_marry_29 : decode cX7_marry 29 = .ok (.getfield 83, 3) := by decide +kernel
theorem dX7_marry_32 : decode cX7_marry 32 = .ok (.ifCond .ne 12, 3) := by decide +kernel
theorem dX7_marry_35 : decode cX7_marry 35 = .ok (.aload 4, 2) := by decide +kernel
theorem dX7_marry_37 : decode cX7_marry 37 = .ok (.getfield 83, 3) := by decide +kernel
theorem dX7_marry_40 : decode cX7_marry 40 = .ok (.iconst 1, 1) := by decide +kernel
theorem dX7_marry_41 : decode cX7_marry 41 = .ok (.if_icmp .eq 5, 3) := by decide +kernel
theorem dX7_marry_44 : decode cX7_marry 44 = .ok (.iconst 0, 1) := by decide +kernel
theorem dX7_marry_45 : decode cX7_marry 45 = .ok (.ireturn, 1) := by decide +kernel
theorem dX7_marry_46 : decode cX7_marry 46 = .ok (.aload_n 3, 1) := by decide +kernel
theorem dX7_marry_47 : decode cX7_marry 47 = .ok (.getfield 86, 3) := by decide +kernel
theorem dX7_marry_50 : decode cX7_marry 50 = .ok (.iconst (-1), 1) := by decide +kernel
theorem dX7_marry_51 : decode cX7_marry 51 = .ok (.if_icmp .ne 12, 3) := by decide +kernel
theorem dX7_marry_54 : decode cX7_marry 54 = .ok (.aload 4, 2) := by decide +kernel
theorem dX7_marry_56 : decode cX7_marry 56 = .ok (.getfield 86, 3) := by decide +kernel
theorem dX7_marry_59 : decode cX7_marry 59 = .ok (.iconst (-1), 1) := by decide +kernel
theorem dX7_marry_60 : decode cX7_marry 60 = .ok (.if_icmp .eq 5, 3) := by decide +kernel
theorem dX7_marry_63 : decode cX7_marry 63 = .ok (.iconst 0, 1) := by decide +kernel
theorem dX7_marry_64 : decode cX7_marry 64 = .ok (.ireturn, 1) := by decide +kernel
theorem dX7_marry_65 : decode cX7_marry 65 = .ok (.aload_n 0, 1) := by decide +kernel
theorem dX7_marry_66 : decode cX7_marry 66 = .ok (.iload_n 1, 1) := by decide +kernel
theorem dX7_marry_67 : decode cX7_marry 67 = .ok (.invokevirtual 89, 3) := by decide +kernel
theorem dX7_marry_70 : decode cX7_marry 70 = .ok (.pop, 1) := by decide +kernel
theorem dX7_marry_71 : decode cX7_marry 71 = .ok (.aload_n 0, 1) := by decide +kernel
theorem dX7_marry_72 : decode cX7_marry 72 = .ok (.iload_n 2, 1) := by decide +kernel
theorem dX7_marry_73 : decode cX7_marry 73 = .ok (.invokevirtual 89, 3) := by decide +kernel
theorem dX7_marry_76 : decode cX7_marry 76 = .ok (.pop, 1) := by decide +kernel
theorem dX7_marry_77 : decode cX7_marry 77 = .ok (.aload_n 3, 1) := by decide +kernel
theorem dX7_marry_78 : decode cX7_marry 78 = .ok (.iload_n 2, 1) := by decide +kernel
theorem dX7_marry_79 : decode cX7_marry 79 = .ok (.putfield 86, 3) := by decide +kernel
theorem dX7_marry_82 : decode cX7_marry 82 = .ok (.aload 4, 2) := by decide +kernel
theorem dX7_marry_84 : decode cX7_marry 84 = .ok (.iload_n 1, 1) := by decide +kernel
theorem dX7_marry_85 : decode cX7_marry 85 = .ok (.putfield 86, 3) := by decide +kernel
theorem dX7_marry_88 : decode cX7_marry 88 = .ok (.aload_n 0, 1) := by decide +kernel
theorem dX7_marry_89 : decode cX7_marry 89 = .ok (.aload 4, 2) := by decide +kernel
theorem dX7_marry_91 : decode cX7_marry 91 = .ok (.invokevirtual 93, 3) := by decide +kernel
theorem dX7_marry_94 : decode cX7_marry 94 = .ok (.iconst 1, 1) := by decide +kernel
theorem dX7_marry_95 : decode cX7_marry 95 = .ok (.ireturn, 1) := by decide +kernel
theorem dX7_die_0 : decode cX7_die 0 = .ok (.aload_n 0, 1) := by decide +kernel
theorem dX7_die_1 : decode cX7_die 1 = .ok (.getfield 28, 3) := by decide +kernel
theorem dX7_die_4 : decode cX7_die 4 = .ok (.iload_n 1, 1) := by decide +kernel
theorem dX7_die_5 : decode cX7_die 5 = .ok (.invokevirtual 79, 3) := by decide +kernel
theorem dX7_die_8 : decode cX7_die 8 = .ok (.astore_n 2, 1) := by decide +kernel
theorem dX7_die_9 : decode cX7_die 9 = .ok (.aload_n 2, 1) := by decide +kernel
theorem dX7_die_10 : decode cX7_die 10 = .ok (.ifnonnull 5, 3) := by decide +kernel
theorem dX7_die_13 : decode cX7_die 13 = .ok (.iconst (-1), 1) := by decide +kernel
theorem dX7_die_14 : decode cX7_die 14 = .ok (.ireturn, 1) := by decide +kernel
theorem dX7_die_15 : decode cX7_die 15 = .ok (.aload_n 2, 1) := by decide +kernel
theorem dX7_die_16 : decode cX7_die 16 = .ok (.iconst 0, 1) := by decide +kernel
theorem dX7_die_17 : decode cX7_die 17 = .ok (.putfield 97, 3) := by decide +kernel
theorem dX7_die_20 : decode cX7_die 20 = .ok (.aload_n 0, 1) := by decide +kernel
theorem dX7_die_21 : decode cX7_die 21 = .ok (.iload_n 1, 1) := by decide +kernel
theorem dX7_die_22 : decode cX7_die 22 = .ok (.aload_n 2, 1) := by decide +kernel
theorem dX7_die_23 : decode cX7_die 23 = .ok (.invokevirtual 101, 3) := by decide +kernel
theorem dX7_die_26 : decode cX7_die 26 = .ok (.aload_n 0, 1) := by decide +kernel
theorem dX7_die_27 : decode cX7_die 27 = .ok (.iload_n 1, 1) := by decide +kernel
theorem dX7_die_28 : decode cX7_die 28 = .ok (.invokevirtual 89, 3) := by decide +kernel
theorem dX7_die_31 : decode cX7_die 31 = .ok (.iadd, 1) := by decide +kernel
theorem dX7_die_32 : decode cX7_die 32 = .ok (.istore_n 3, 1) := by decide +kernel
theorem dX7_die_33 : decode cX7_die 33 = .ok (.aload_n 0, 1) := by decide +kernel
theorem dX7_die_34 : decode cX7_die 34 = .ok (.getfield 28, 3) := by decide +kernel
theorem dX7_die_37 : decode cX7_die 37 = .ok (.aload_n 2, 1) := by decide +kernel
theorem dX7_die_38 : decode cX7_die 38 = .ok (.getfield 86, 3) := by decide +kernel
theorem dX7_die_41 : decode cX7_die 41 = .ok (.invokevirtual 105, 3) := by decide +kernel
theorem dX7_die_44 : decode cX7_die 44 = .ok (.astore 4, 2) := by decide +kernel
theorem dX7_die_46 : decode cX7_die 46 = .ok (.aload 4, 2) := by decide +kernel
theorem dX7_die_48 : decode cX7_die 48 = .ok (.ifnull 9, 3) := by decide +kernel
theorem dX7_die_51 : decode cX7_die 51 = .ok (.aload 4, 2) := by decide +kernel
theorem dX7_die_53 : decode cX7_die 53 = .ok (.iconst (-1), 1) := by decide +kernel
theorem dX7_die_54 : decode cX7_die 54 = .ok (.putfield 86, 3) := by decide +kernel
theorem dX7_die_57 : decode cX7_die 57 = .ok (.aload_n 2, 1) := by decide +kernel
theorem dX7_die_58 : decode cX7_die 58 = .ok (.iconst (-1), 1) := by decide +kernel
theorem dX7_die_59 : decode cX7_die 59 = .ok (.putfield 86, 3) := by decide +kernel
theorem dX7_die_62 : decode cX7_die 62 = .ok (.iload_n 3, 1) := by decide +kernel
theorem dX7_die_63 : decode cX7_die 63 = .ok (.ireturn, 1) := by decide +kernel
theorem dX7_grant_0 : decode cX7_grant 0 = .ok (.iload_n 1, 1) := by decide +kernel
theorem dX7_grant_1 : decode cX7_grant 1 = .ok (.invokestatic 108, 3) := by decide +kernel
theorem dX7_grant_4 : decode cX7_grant 4 = .ok (.ifCond .eq 14, 3) := by decide +kernel
theorem dX7_grant_7 : decode cX7_grant 7 = .ok (.aload_n 0, 1) := by decide +kernel
theorem dX7_grant_8 : decode cX7_grant 8 = .ok (.getfield 28, 3) := by decide +kernel
theorem dX7_grant_11 : decode cX7_grant 11 = .ok (.iload_n 3, 1) := by decide +kernel
theorem dX7_grant_12 : decode cX7_grant 12 = .ok (.invokevirtual 79, 3) := by decide +kernel
theorem dX7_grant_15 : decode cX7_grant 15 = .ok (.ifnonnull 5, 3) := by decide +kernel
theorem dX7_grant_18 : decode cX7_grant 18 = .ok (.iconst 0, 1) := by decide +kernel
theorem dX7_grant_19 : decode cX7_grant 19 = .ok (.ireturn, 1) := by decide +kernel
theorem dX7_grant_20 : decode cX7_grant 20 = .ok (.aload_n 0, 1) := by decide +kernel
theorem dX7_grant_21 : decode cX7_grant 21 = .ok (.getfield 35, 3) := by decide +kernel
theorem dX7_grant_24 : decode cX7_grant 24 = .ok (.iload_n 1, 1) := by decide +kernel
theorem dX7_grant_25 : decode cX7_grant 25 = .ok (.iconst (-1), 1) := by decide +kernel
theorem dX7_grant_26 : decode cX7_grant 26 = .ok (.iconst 0, 1) := by decide +kernel
theorem dX7_grant_27 : decode cX7_grant 27 = .ok (.invokevirtual 112, 3) := by decide +kernel
theorem dX7_grant_30 : decode cX7_grant 30 = .ok (.iload_n 2, 1) := by decide +kernel
theorem dX7_grant_31 : decode cX7_grant 31 = .ok (.iconst 1, 1) := by decide +kernel
theorem dX7_grant_32 : decode cX7_grant 32 = .ok (.if_icmp .lt 14, 3) := by decide +kernel
theorem dX7_grant_35 : decode cX7_grant 35 = .ok (.iload_n 2, 1) := by decide +kernel
theorem dX7_grant_36 : decode cX7_grant 36 = .ok (.aload_n 0, 1) := by decide +kernel
theorem dX7_grant_37 : decode cX7_grant 37 = .ok (.getfield 35, 3) := by decide +kernel
theorem dX7_grant_40 : decode cX7_grant 40 = .ok (.getfield 116, 3) := by decide +kernel
theorem dX7_grant_43 : decode cX7_grant 43 = .ok (.if_icmp .le 5, 3) := by decide +kernel
theorem dX7_grant_46 : decode cX7_grant 46 = .ok (.iconst 0, 1) := by decide +kernel
theorem dX7_grant_47 : decode cX7_grant 47 = .ok (.ireturn, 1) := by decide +kernel
theorem dX7_grant_48 : decode cX7_grant 48 = .ok (.aload_n 0, 1) := by decide +kernel
theorem dX7_grant_49 : decode cX7_grant 49 = .ok (.getfield 35, 3) := by decide +kernel
theorem dX7_grant_52 : decode cX7_grant 52 = .ok (.iconst 0, 1) := by decide +kernel
theorem dX7_grant_53 : decode cX7_grant 53 = .ok (.iload_n 2, 1) := by decide +kernel
theorem dX7_grant_54 : decode cX7_grant 54 = .ok (.iload_n 3, 1) := by decide +kernel
theorem dX7_grant_55 : decode cX7_grant 55 = .ok (.iconst 1, 1) := by decide +kernel
theorem dX7_grant_56 : decode cX7_grant 56 = .ok (.aload_n 0, 1) := by decide +kernel
theorem dX7_grant_57 : decode cX7_grant 57 = .ok (.getfield 9, 3) := by decide +kernel
theorem dX7_grant_60 : decode cX7_grant 60 = .ok (.invokevirtual 119, 3) := by decide +kernel
theorem dX7_grant_63 : decode cX7_grant 63 = .ok (.iconst 1, 1) := by decide +kernel
theorem dX7_grant_64 : decode cX7_grant 64 = .ok (.ireturn, 1) := by decide +kernel
theorem dX7_rod_0 : decode cX7_rod 0 = .ok (.aload_n 0, 1) := by decide +kernel
theorem dX7_rod_1 : decode cX7_rod 1 = .ok (.getfield 28, 3) := by decide +kernel
theorem dX7_rod_4 : decode cX7_rod 4 = .ok (.iload 4, 2) := by decide +kernel
theorem dX7_rod_6 : decode cX7_rod 6 = .ok (.invokevirtual 79, 3) := by decide +kernel
theorem dX7_rod_9 : decode cX7_rod 9 = .ok (.astore 5, 2) := by decide +kernel
theorem dX7_rod_11 : decode cX7_rod 11 = .ok (.iload_n 1, 1) := by decide +kernel
theorem dX7_rod_12 : decode cX7_rod 12 = .ok (.invokestatic 108, 3) := by decide +kernel
theorem dX7_rod_15 : decode cX7_rod 15 = .ok (.ifCond .eq 25, 3) := by decide +kernel
theorem dX7_rod_18 : decode cX7_rod 18 = .ok (.aload_n 0, 1) := by decide +kernel
theorem dX7_rod_19 : decode cX7_rod 19 = .ok (.getfield 28, 3) := by decide +kernel
theorem dX7_rod_22 : decode cX7_rod 22 = .ok (.iload_n 3, 1) := by decide +kernel
theorem dX7_rod_23 : decode cX7_rod 23 = .ok (.invokevirtual 79, 3) := by decide +kernel
theorem dX7_rod_26 : decode cX7_rod 26 = .ok (.ifnull 14, 3) := by decide +kernel
theorem dX7_rod_29 : decode cX7_rod 29 = .ok (.aload 5, 2) := by decide +kernel
theorem dX7_rod_31 : decode cX7_rod 31 = .ok (.ifnull 9, 3) := by decide +kernel
theorem dX7_rod_34 : decode cX7_rod 34 = .ok (.iload_n 3, 1) := by decide +kernel
theorem dX7_rod_35 : decode cX7_rod 35 = .ok (.iload 4, 2) := by decide +kernel
theorem dX7_rod_37 : decode cX7_rod 37 = .ok (.if_icmp .ne 5, 3) := by decide +kernel
theorem dX7_rod_40 : decode cX7_rod 40 = .ok (.iconst 0, 1) := by decide +kernel
theorem dX7_rod_41 : decode cX7_rod 41 = .ok (.ireturn, 1) := by decide +kernel
theorem dX7_rod_42 : decode cX7_rod 42 = .ok (.aload_n 0, 1) := by decide +kernel
theorem dX7_rod_43 : decode cX7_rod 43 = .ok (.getfield 35, 3) := by decide +kernel
theorem dX7_rod_46 : decode cX7_rod 46 = .ok (.iload_n 1, 1) := by decide +kernel
theorem dX7_rod_47 : decode cX7_rod 47 = .ok (.iload_n 3, 1) := by decide +kernel
theorem dX7_rod_48 : decode cX7_rod 48 = .ok (.iconst 0, 1) := by decide +kernel
theorem dX7_rod_49 : decode cX7_rod 49 = .ok (.invokevirtual 112, 3) := by decide +kernel
theorem dX7_rod_52 : decode cX7_rod 52 = .ok (.iload_n 2, 1) := by decide +kernel
theorem dX7_rod_53 : decode cX7_rod 53 = .ok (.iconst 1, 1) := by decide +kernel
theorem dX7_rod_54 : decode cX7_rod 54 = .ok (.if_icmp .lt 14, 3) := by decide +kernel
theorem dX7_rod_57 : decode cX7_rod 57 = .ok (.iload_n 2, 1) := by decide +kernel
theorem dX7_rod_58 : decode cX7_rod 58 = .ok (.aload_n 0, 1) := by decide +kernel
theorem dX7_rod_59 : decode cX7_rod 59 = .ok (.getfield 35, 3) := by decide +kernel
theorem dX7_rod_62 : decode cX7_rod 62 = .ok (.getfield 116, 3) := by decide +kernel
theorem dX7_rod_65 : decode cX7_rod 65 = .ok (.if_icmp .le 5, 3) := by decide +kernel
theorem dX7_rod_68 : decode cX7_rod 68 = .ok (.iconst 0, 1) := by decide +kernel
theorem dX7_rod_69 : decode cX7_rod 69 = .ok (.ireturn, 1) := by decide +kernel
theorem dX7_rod_70 : decode cX7_rod 70 = .ok (.aload_n 0, 1) := by decide +kernel
theorem dX7_rod_71 : decode cX7_rod 71 = .ok (.getfield 35, 3) := by decide +kernel
theorem dX7_rod_74 : decode cX7_rod 74 = .ok (.iconst 0, 1) := by decide +kernel
theorem dX7_rod_75 : decode cX7_rod 75 = .ok (.iload_n 2, 1) := by decide +kernel
theorem dX7_rod_76 : decode cX7_rod 76 = .ok (.iload 4, 2) := by decide +kernel
theorem dX7_rod_78 : decode cX7_rod 78 = .ok (.iconst 4, 1) := by decide +kernel
theorem dX7_rod_79 : decode cX7_rod 79 = .ok (.aload_n 0, 1) := by decide +kernel
theorem dX7_rod_80 : decode cX7_rod 80 = .ok (.getfield 9, 3) := by decide +kernel
theorem dX7_rod_83 : decode cX7_rod 83 = .ok (.invokevirtual 119, 3) := by decide +kernel
theorem dX7_rod_86 : decode cX7_rod 86 = .ok (.aload 5, 2) := by decide +kernel
theorem dX7_rod_88 : decode cX7_rod 88 = .ok (.dup, 1) := by decide +kernel
theorem dX7_rod_89 : decode cX7_rod 89 = .ok (.getfield 123, 3) := by decide +kernel
theorem dX7_rod_92 : decode cX7_rod 92 = .ok (.iload_n 2, 1) := by decide +kernel
theorem dX7_rod_93 : decode cX7_rod 93 = .ok (.aload_n 0, 1) := by decide +kernel
theorem dX7_rod_94 : decode cX7_rod 94 = .ok (.getfield 18, 3) := by decide +kernel
theorem dX7_rod_97 : decode cX7_rod 97 = .ok (.getfield 126, 3) := by decide +kernel
theorem dX7_rod_100 : decode cX7_rod 100 = .ok (.imul, 1) := by decide +kernel
theorem dX7_rod_101 : decode cX7_rod 101 = .ok (.iadd, 1) := by decide +kernel
theorem dX7_rod_102 : decode cX7_rod 102 = .ok (.putfield 123, 3) := by decide +kernel
theorem dX7_rod_105 : decode cX7_rod 105 = .ok (.iconst 1, 1) := by decide +kernel
theorem dX7_rod_106 : decode cX7_rod 106 = .ok (.ireturn, 1) := by decide +kernel
theorem dX7_weeks_0 : decode cX7_weeks 0 = .ok (.iload_n 1, 1) := by decide +kernel
theorem dX7_weeks_1 : decode cX7_weeks 1 = .ok (.ifCond .lt 23, 3) := by decide +kernel
theorem dX7_weeks_4 : decode cX7_weeks 4 = .ok (.iload_n 1, 1) := by decide +kernel
theorem dX7_weeks_5 : decode cX7_weeks 5 = .ok (.bipush 60, 2) := by decide +kernel
theorem dX7_weeks_7 : decode cX7_weeks 7 = .ok (.if_icmp .gt 17, 3) := by decide +kernel
theorem dX7_weeks_10 : decode cX7_weeks 10 = .ok (.aload_n 0, 1) := by decide +kernel
theorem dX7_weeks_11 : decode cX7_weeks 11 = .ok (.getfield 9, 3) := by decide +kernel
theorem dX7_weeks_14 : decode cX7_weeks 14 = .ok (.iload_n 1, 1) := by decide +kernel
theorem dX7_weeks_15 : decode cX7_weeks 15 = .ok (.bipush 7, 2) := by decide +kernel
theorem dX7_weeks_17 : decode cX7_weeks 17 = .ok (.imul, 1) := by decide +kernel
theorem dX7_weeks_18 : decode cX7_weeks 18 = .ok (.iadd, 1) := by decide +kernel
theorem dX7_weeks_19 : decode cX7_weeks 19 = .ok (.ldc 129, 2) := by decide +kernel
theorem dX7_weeks_21 : decode cX7_weeks 21 = .ok (.if_icmp .le 5, 3) := by decide +kernel
theorem dX7_weeks_24 : decode cX7_weeks 24 = .ok (.iconst (-1), 1) := by decide +kernel
theorem dX7_weeks_25 : decode cX7_weeks 25 = .ok (.ireturn, 1) := by decide +kernel
theorem dX7_weeks_26 : decode cX7_weeks 26 = .ok (.iconst 0, 1) := by decide +kernel
theorem dX7_weeks_27 : decode cX7_weeks 27 = .ok (.istore_n 2, 1) := by decide +kernel
theorem dX7_weeks_28 : decode cX7_weeks 28 = .ok (.iload_n 2, 1) := by decide +kernel
theorem dX7_weeks_29 : decode cX7_weeks 29 = .ok (.aload_n 0, 1) := by decide +kernel
theorem dX7_weeks_30 : decode cX7_weeks 30 = .ok (.getfield 28, 3) := by decide +kernel
theorem dX7_weeks_33 : decode cX7_weeks 33 = .ok (.getfield 64, 3) := by decide +kernel
theorem dX7_weeks_36 : decode cX7_weeks 36 = .ok (.if_icmp .ge 43, 3) := by decide +kernel
theorem dX7_weeks_39 : decode cX7_weeks 39 = .ok (.aload_n 0, 1) := by decide +kernel
theorem dX7_weeks_40 : decode cX7_weeks 40 = .ok (.getfield 28, 3) := by decide +kernel
theorem dX7_weeks_43 : decode cX7_weeks 43 = .ok (.iload_n 2, 1) := by decide +kernel
theorem dX7_weeks_44 : decode cX7_weeks 44 = .ok (.invokevirtual 105, 3) := by decide +kernel
theorem dX7_weeks_47 : decode cX7_weeks 47 = .ok (.astore_n 3, 1) := by decide +kernel
theorem dX7_weeks_48 : decode cX7_weeks 48 = .ok (.aload_n 3, 1) := by decide +kernel
theorem dX7_weeks_49 : decode cX7_weeks 49 = .ok (.ifnull 24, 3) := by decide +kernel
theorem dX7_weeks_52 : decode cX7_weeks 52 = .ok (.aload_n 3, 1) := by decide +kernel
theorem dX7_weeks_53 : decode cX7_weeks 53 = .ok (.iload_n 1, 1) := by decide +kernel
theorem dX7_weeks_54 : decode cX7_weeks 54 = .ok (.aload_n 0, 1) := by decide +kernel
theorem dX7_weeks_55 : decode cX7_weeks 55 = .ok (.getfield 35, 3) := by decide +kernel
theorem dX7_weeks_58 : decode cX7_weeks 58 = .ok (.iload_n 2, 1) := by decide +kernel
theorem dX7_weeks_59 : decode cX7_weeks 59 = .ok (.invokevirtual 130, 3) := by decide +kernel
theorem dX7_weeks_62 : decode cX7_weeks 62 = .ok (.aload_n 0, 1) := by decide +kernel
theorem dX7_weeks_63 : decode cX7_weeks 63 = .ok (.getfield 18, 3) := by decide +kernel
theorem dX7_weeks_66 : decode cX7_weeks 66 = .ok (.getfield 133, 3) := by decide +kernel
theorem dX7_weeks_69 : decode cX7_weeks 69 = .ok (.imul, 1) := by decide +kernel
theorem dX7_weeks_70 : decode cX7_weeks 70 = .ok (.invokevirtual 136, 3) := by decide +kernel
theorem dX7_weeks_73 : decode cX7_weeks 73 = .ok (.iinc 2 1, 3) := by decide +kernel
theorem dX7_weeks_76 : decode cX7_weeks 76 = .ok (.goto (-48), 3) := by decide +kernel
theorem dX7_weeks_79 : decode cX7_weeks 79 = .ok (.aload_n 0, 1) := by decide +kernel
theorem dX7_weeks_80 : decode cX7_weeks 80 = .ok (.dup, 1) := by decide +kernel
theorem dX7_weeks_81 : decode cX7_weeks 81 = .ok (.getfield 9, 3) := by decide +kernel
theorem dX7_weeks_84 : decode cX7_weeks 84 = .ok (.iload_n 1, 1) := by decide +kernel
theorem dX7_weeks_85 : decode cX7_weeks 85 = .ok (.bipush 7, 2) := by decide +kernel
theorem dX7_weeks_87 : decode cX7_weeks 87 = .ok (.imul, 1) := by decide +kernel
theorem dX7_weeks_88 : decode cX7_weeks 88 = .ok (.iadd, 1) := by decide +kernel
theorem dX7_weeks_89 : decode cX7_weeks 89 = .ok (.putfield 9, 3) := by decide +kernel
theorem dX7_weeks_92 : decode cX7_weeks 92 = .ok (.aload_n 0, 1) := by decide +kernel
theorem dX7_weeks_93 : decode cX7_weeks 93 = .ok (.getfield 9, 3) := by decide +kernel
theorem dX7_weeks_96 : decode cX7_weeks 96 = .ok (.ireturn, 1) := by decide +kernel
theorem dX7_sick_0 : decode cX7_sick 0 = .ok (.aload_n 0, 1) := by decide +kernel
theorem dX7_sick_1 : decode cX7_sick 1 = .ok (.getfield 28, 3) := by decide +kernel
theorem dX7_sick_4 : decode cX7_sick 4 = .ok (.iload_n 1, 1) := by decide +kernel
theorem dX7_sick_5 : decode cX7_sick 5 = .ok (.invokevirtual 79, 3) := by decide +kernel
theorem dX7_sick_8 : decode cX7_sick 8 = .ok (.astore_n 3, 1) := by decide +kernel
theorem dX7_sick_9 : decode cX7_sick 9 = .ok (.aload_n 3, 1) := by decide +kernel
theorem dX7_sick_10 : decode cX7_sick 10 = .ok (.ifnull 13, 3) := by decide +kernel
theorem dX7_sick_13 : decode cX7_sick 13 = .ok (.iload_n 2, 1) := by decide +kernel
theorem dX7_sick_14 : decode cX7_sick 14 = .ok (.ifCond .lt 9, 3) := by decide +kernel
theorem dX7_sick_17 : decode cX7_sick 17 = .ok (.iload_n 2, 1) := by decide +kernel
theorem dX7_sick_18 : decode cX7_sick 18 = .ok (.bipush 60, 2) := by decide +kernel
theorem dX7_sick_20 : decode cX7_sick 20 = .ok (.if_icmp .le 5, 3) := by decide +kernel
theorem dX7_sick_23 : decode cX7_sick 23 = .ok (.iconst 0, 1) := by decide +kernel
theorem dX7_sick_24 : decode cX7_sick 24 = .ok (.ireturn, 1) := by decide +kernel
theorem dX7_sick_25 : decode cX7_sick 25 = .ok (.aload_n 3, 1) := by decide +kernel
theorem dX7_sick_26 : decode cX7_sick 26 = .ok (.iload_n 2, 1) := by decide +kernel
theorem dX7_sick_27 : decode cX7_sick 27 = .ok (.putfield 139, 3) := by decide +kernel
theorem dX7_sick_30 : decode cX7_sick 30 = .ok (.iconst 1, 1) := by decide +kernel
theorem dX7_sick_31 : decode cX7_sick 31 = .ok (.ireturn, 1) := by decide +kernel
theorem dX7_works_0 : decode cX7_works 0 = .ok (.aload_n 0, 1) := by decide +kernel
theorem dX7_works_1 : decode cX7_works 1 = .ok (.getfield 28, 3) := by decide +kernel
theorem dX7_works_4 : decode cX7_works 4 = .ok (.iload_n 1, 1) := by decide +kernel
theorem dX7_works_5 : decode cX7_works 5 = .ok (.invokevirtual 105, 3) := by decide +kernel
theorem dX7_works_8 : decode cX7_works 8 = .ok (.astore 4, 2) := by decide +kernel
theorem dX7_works_10 : decode cX7_works 10 = .ok (.aload 4, 2) := by decide +kernel
theorem dX7_works_12 : decode cX7_works 12 = .ok (.ifnull 17, 3) := by decide +kernel
theorem dX7_works_15 : decode cX7_works 15 = .ok (.iload_n 2, 1) := by decide +kernel
theorem dX7_works_16 : decode cX7_works 16 = .ok (.iconst 1, 1) := by decide +kernel
theorem dX7_works_17 : decode cX7_works 17 = .ok (.if_icmp .lt 12, 3) := by decide +kernel
theorem dX7_works_20 : decode cX7_works 20 = .ok (.iload_n 2, 1) := by decide +kernel
theorem dX7_works_21 : decode cX7_works 21 = .ok (.aload 4, 2) := by decide +kernel
theorem dX7_works_23 : decode cX7_works 23 = .ok (.getfield 142, 3) := by decide +kernel
theorem dX7_works_26 : decode cX7_works 26 = .ok (.if_icmp .le 5, 3) := by decide +kernel
theorem dX7_works_29 : decode cX7_works 29 = .ok (.iconst (-1), 1) := by decide +kernel
theorem dX7_works_30 : decode cX7_works 30 = .ok (.ireturn, 1) := by decide +kernel
theorem dX7_works_31 : decode cX7_works 31 = .ok (.aload 4, 2) := by decide +kernel
theorem dX7_works_33 : decode cX7_works 33 = .ok (.dup, 1) := by decide +kernel
theorem dX7_works_34 : decode cX7_works 34 = .ok (.getfield 142, 3) := by decide +kernel
theorem dX7_works_37 : decode cX7_works 37 = .ok (.iload_n 2, 1) := by decide +kernel
theorem dX7_works_38 : decode cX7_works 38 = .ok (.isub, 1) := by decide +kernel
theorem dX7_works_39 : decode cX7_works 39 = .ok (.putfield 142, 3) := by decide +kernel
theorem dX7_works_42 : decode cX7_works 42 = .ok (.iload_n 3, 1) := by decide +kernel
theorem dX7_works_43 : decode cX7_works 43 = .ok (.ifCond .eq 28, 3) := by decide +kernel
theorem dX7_works_46 : decode cX7_works 46 = .ok (.aload 4, 2) := by decide +kernel
theorem dX7_works_48 : decode cX7_works 48 = .ok (.dup, 1) := by decide +kernel
theorem dX7_works_49 : decode cX7_works 49 = .ok (.getfield 145, 3) := by decide +kernel
theorem dX7_works_52 : decode cX7_works 52 = .ok (.iload_n 2, 1) := by decide +kernel
theorem dX7_works_53 : decode cX7_works 53 = .ok (.iadd, 1) := by decide +kernel
theorem dX7_works_54 : decode cX7_works 54 = .ok (.putfield 145, 3) := by decide +kernel
theorem dX7_works_57 : decode cX7_works 57 = .ok (.aload 4, 2) := by decide +kernel
theorem dX7_works_59 : decode cX7_works 59 = .ok (.dup, 1) := by decide +kernel
theorem dX7_works_60 : decode cX7_works 60 = .ok (.getfield 123, 3) := by decide +kernel
theorem dX7_works_63 : decode cX7_works 63 = .ok (.iload_n 2, 1) := by decide +kernel
theorem dX7_works_64 : decode cX7_works 64 = .ok (.iadd, 1) := by decide +kernel
theorem dX7_works_65 : decode cX7_works 65 = .ok (.putfield 123, 3) := by decide +kernel
theorem dX7_works_68 : decode cX7_works 68 = .ok (.goto 14, 3) := by decide +kernel
theorem dX7_works_71 : decode cX7_works 71 = .ok (.aload 4, 2) := by decide +kernel
theorem dX7_works_73 : decode cX7_works 73 = .ok (.dup, 1) := by decide +kernel
theorem dX7_works_74 : decode cX7_works 74 = .ok (.getfield 148, 3) := by decide +kernel
theorem dX7_works_77 : decode cX7_works 77 = .ok (.iload_n 2, 1) := by decide +kernel
theorem dX7_works_78 : decode cX7_works 78 = .ok (.iadd, 1) := by decide +kernel
theorem dX7_works_79 : decode cX7_works 79 = .ok (.putfield 148, 3) := by decide +kernel
theorem dX7_works_82 : decode cX7_works 82 = .ok (.aload 4, 2) := by decide +kernel
theorem dX7_works_84 : decode cX7_works 84 = .ok (.getfield 142, 3) := by decide +kernel
theorem dX7_works_87 : decode cX7_works 87 = .ok (.ireturn, 1) := by decide +kernel
theorem dX7_pay_0 : decode cX7_pay 0 = .ok (.aload_n 0, 1) := by decide +kernel
theorem dX7_pay_1 : decode cX7_pay 1 = .ok (.getfield 28, 3) := by decide +kernel
theorem dX7_pay_4 : decode cX7_pay 4 = .ok (.iload_n 1, 1) := by decide +kernel
theorem dX7_pay_5 : decode cX7_pay 5 = .ok (.invokevirtual 105, 3) := by decide +kernel
theorem dX7_pay_8 : decode cX7_pay 8 = .ok (.astore_n 3, 1) := by decide +kernel
theorem dX7_pay_9 : decode cX7_pay 9 = .ok (.aload_n 3, 1) := by decide +kernel
theorem dX7_pay_10 : decode cX7_pay 10 = .ok (.ifnull 16, 3) := by decide +kernel
theorem dX7_pay_13 : decode cX7_pay 13 = .ok (.iload_n 2, 1) := by decide +kernel
theorem dX7_pay_14 : decode cX7_pay 14 = .ok (.iconst 1, 1) := by decide +kernel
theorem dX7_pay_15 : decode cX7_pay 15 = .ok (.if_icmp .lt 11, 3) := by decide +kernel
theorem dX7_pay_18 : decode cX7_pay 18 = .ok (.iload_n 2, 1) := by decide +kernel
theorem dX7_pay_19 : decode cX7_pay 19 = .ok (.aload_n 3, 1) := by decide +kernel
theorem dX7_pay_20 : decode cX7_pay 20 = .ok (.getfield 123, 3) := by decide +kernel
theorem dX7_pay_23 : decode cX7_pay 23 = .ok (.if_icmp .le 5, 3) := by decide +kernel
theorem dX7_pay_26 : decode cX7_pay 26 = .ok (.iconst (-1), 1) := by decide +kernel
theorem dX7_pay_27 : decode cX7_pay 27 = .ok (.ireturn, 1) := by decide +kernel
theorem dX7_pay_28 : decode cX7_pay 28 = .ok (.aload_n 3, 1) := by decide +kernel
theorem dX7_pay_29 : decode cX7_pay 29 = .ok (.dup, 1) := by decide +kernel
theorem dX7_pay_30 : decode cX7_pay 30 = .ok (.getfield 123, 3) := by decide +kernel
theorem dX7_pay_33 : decode cX7_pay 33 = .ok (.iload_n 2, 1) := by decide +kernel
theorem dX7_pay_34 : decode cX7_pay 34 = .ok (.isub, 1) := by decide +kernel
theorem dX7_pay_35 : decode cX7_pay 35 = .ok (.putfield 123, 3) := by decide +kernel
theorem dX7_pay_38 : decode cX7_pay 38 = .ok (.aload_n 0, 1) := by decide +kernel
theorem dX7_pay_39 : decode cX7_pay 39 = .ok (.dup, 1) := by decide +kernel
theorem dX7_pay_40 : decode cX7_pay 40 = .ok (.getfield 57, 3) := by decide +kernel
theorem dX7_pay_43 : decode cX7_pay 43 = .ok (.iload_n 2, 1) := by decide +kernel
theorem dX7_pay_44 : decode cX7_pay 44 = .ok (.iadd, 1) := by decide +kernel
theorem dX7_pay_45 : decode cX7_pay 45 = .ok (.putfield 57, 3) := by decide +kernel
theorem dX7_pay_48 : decode cX7_pay 48 = .ok (.aload_n 3, 1) := by decide +kernel
theorem dX7_pay_49 : decode cX7_pay 49 = .ok (.getfield 123, 3) := by decide +kernel
theorem dX7_pay_52 : decode cX7_pay 52 = .ok (.ireturn, 1) := by decide +kernel
theorem dX7_suit_0 : decode cX7_suit 0 = .ok (.aload_n 0, 1) := by decide +kernel
theorem dX7_suit_1 : decode cX7_suit 1 = .ok (.getfield 28, 3) := by decide +kernel
theorem dX7_suit_4 : decode cX7_suit 4 = .ok (.iload_n 1, 1) := by decide +kernel
theorem dX7_suit_5 : decode cX7_suit 5 = .ok (.invokevirtual 79, 3) := by decide +kernel
theorem dX7_suit_8 : decode cX7_suit 8 = .ok (.ifnull 25, 3) := by decide +kernel
theorem dX7_suit_11 : decode cX7_suit 11 = .ok (.aload_n 0, 1) := by decide +kernel
theorem dX7_suit_12 : decode cX7_suit 12 = .ok (.getfield 28, 3) := by decide +kernel
theorem dX7_suit_15 : decode cX7_suit 15 = .ok (.iload_n 2, 1) := by decide +kernel
theorem dX7_suit_16 : decode cX7_suit 16 = .ok (.invokevirtual 79, 3) := by decide +kernel
theorem dX7_suit_19 : decode cX7_suit 19 = .ok (.ifnull 14, 3) := by decide +kernel
theorem dX7_suit_22 : decode cX7_suit 22 = .ok (.aload_n 0, 1) := by decide +kernel
theorem dX7_suit_23 : decode cX7_suit 23 = .ok (.getfield 28, 3) := by decide +kernel
theorem dX7_suit_26 : decode cX7_suit 26 = .ok (.iload_n 3, 1) := by decide +kernel
theorem dX7_suit_27 : decode cX7_suit 27 = .ok (.invokevirtual 79, 3) := by decide +kernel
theorem dX7_suit_30 : decode cX7_suit 30 = .ok (.ifnonnull 5, 3) := by decide +kernel
theorem dX7_suit_33 : decode cX7_suit 33 = .ok (.iconst (-1), 1) := by decide +kernel
theorem dX7_suit_34 : decode cX7_suit 34 = .ok (.ireturn, 1) := by decide +kernel
theorem dX7_suit_35 : decode cX7_suit 35 = .ok (.iload_n 1, 1) := by decide +kernel
theorem dX7_suit_36 : decode cX7_suit 36 = .ok (.iload_n 2, 1) := by decide +kernel
theorem dX7_suit_37 : decode cX7_suit 37 = .ok (.if_icmp .eq 22, 3) := by decide +kernel
theorem dX7_suit_40 : decode cX7_suit 40 = .ok (.iload_n 1, 1) := by decide +kernel
theorem dX7_suit_41 : decode cX7_suit 41 = .ok (.iload_n 3, 1) := by decide +kernel
theorem dX7_suit_42 : decode cX7_suit 42 = .ok (.if_icmp .eq 17, 3) := by decide +kernel
theorem dX7_suit_45 : decode cX7_suit 45 = .ok (.iload_n 2, 1) := by decide +kernel
theorem dX7_suit_46 : decode cX7_suit 46 = .ok (.iload_n 3, 1) := by decide +kernel
theorem dX7_suit_47 : decode cX7_suit 47 = .ok (.if_icmp .eq 12, 3) := by decide +kernel
theorem dX7_suit_50 : decode cX7_suit 50 = .ok (.aload_n 0, 1) := by decide +kernel
theorem dX7_suit_51 : decode cX7_suit 51 = .ok (.getfield 54, 3) := by decide +kernel
theorem dX7_suit_54 : decode cX7_suit 54 = .ok (.bipush 40, 2) := by decide +kernel
theorem dX7_suit_56 : decode cX7_suit 56 = .ok (.if_icmp .lt 5, 3) := by decide +kernel
theorem dX7_suit_59 : decode cX7_suit 59 = .ok (.iconst (-1), 1) := by decide +kernel
theorem dX7_suit_60 : decode cX7_suit 60 = .ok (.ireturn, 1) := by decide +kernel
theorem dX7_suit_61 : decode cX7_suit 61 = .ok (.aload_n 0, 1) := by decide +kernel
theorem dX7_suit_62 : decode cX7_suit 62 = .ok (.getfield 54, 3) := by decide +kernel
theorem dX7_suit_65 : decode cX7_suit 65 = .ok (.istore 4, 2) := by decide +kernel
theorem dX7_suit_67 : decode cX7_suit 67 = .ok (.aload_n 0, 1) := by decide +kernel
theorem dX7_suit_68 : decode cX7_suit 68 = .ok (.getfield 50, 3) := by decide +kernel
theorem dX7_suit_71 : decode cX7_suit 71 = .ok (.iload 4, 2) := by decide +kernel
theorem dX7_suit_73 : decode cX7_suit 73 = .ok (.new 48, 3) := by decide +kernel
theorem dX7_suit_76 : decode cX7_suit 76 = .ok (.dup, 1) := by decide +kernel
theorem dX7_suit_77 : decode cX7_suit 77 = .ok (.iload_n 1, 1) := by decide +kernel
theorem dX7_suit_78 : decode cX7_suit 78 = .ok (.iload_n 2, 1) := by decide +kernel
theorem dX7_suit_79 : decode cX7_suit 79 = .ok (.iload_n 3, 1) := by decide +kernel
theorem dX7_suit_80 : decode cX7_suit 80 = .ok (.invokespecial 151, 3) := by decide +kernel
theorem dX7_suit_83 : decode cX7_suit 83 = .ok (.aastore, 1) := by decide +kernel
theorem dX7_suit_84 : decode cX7_suit 84 = .ok (.aload_n 0, 1) := by decide +kernel
theorem dX7_suit_85 : decode cX7_suit 85 = .ok (.dup, 1) := by decide +kernel
theorem dX7_suit_86 : decode cX7_suit 86 = .ok (.getfield 54, 3) := by decide +kernel
theorem dX7_suit_89 : decode cX7_suit 89 = .ok (.iconst 1, 1) := by decide +kernel
theorem dX7_suit_90 : decode cX7_suit 90 = .ok (.iadd, 1) := by decide +kernel
theorem dX7_suit_91 : decode cX7_suit 91 = .ok (.putfield 54, 3) := by decide +kernel
theorem dX7_suit_94 : decode cX7_suit 94 = .ok (.iload 4, 2) := by decide +kernel
theorem dX7_suit_96 : decode cX7_suit 96 = .ok (.ireturn, 1) := by decide +kernel
theorem dX7_appear_0 : decode cX7_appear 0 = .ok (.aload_n 0, 1) := by decide +kernel
theorem dX7_appear_1 : decode cX7_appear 1 = .ok (.iload_n 1, 1) := by decide +kernel
theorem dX7_appear_2 : decode cX7_appear 2 = .ok (.invokevirtual 154, 3) := by decide +kernel
theorem dX7_appear_5 : decode cX7_appear 5 = .ok (.astore_n 3, 1) := by decide +kernel
theorem dX7_appear_6 : decode cX7_appear 6 = .ok (.aload_n 3, 1) := by decide +kernel
theorem dX7_appear_7 : decode cX7_appear 7 = .ok (.ifnull 19, 3) := by decide +kernel
theorem dX7_appear_10 : decode cX7_appear 10 = .ok (.aload_n 3, 1) := by decide +kernel
theorem dX7_appear_11 : decode cX7_appear 11 = .ok (.getfield 158, 3) := by decide +kernel
theorem dX7_appear_14 : decode cX7_appear 14 = .ok (.ifCond .ne 12, 3) := by decide +kernel
theorem dX7_appear_17 : decode cX7_appear 17 = .ok (.iload_n 2, 1) := by decide +kernel
theorem dX7_appear_18 : decode cX7_appear 18 = .ok (.ifCond .lt 8, 3) := by decide +kernel
theorem dX7_appear_21 : decode cX7_appear 21 = .ok (.iload_n 2, 1) := by decide +kernel
theorem dX7_appear_22 : decode cX7_appear 22 = .ok (.iconst 3, 1) := by decide +kernel
theorem dX7_appear_23 : decode cX7_appear 23 = .ok (.if_icmp .le 5, 3) := by decide +kernel
theorem dX7_appear_26 : decode cX7_appear 26 = .ok (.iconst 0, 1) := by decide +kernel
theorem dX7_appear_27 : decode cX7_appear 27 = .ok (.ireturn, 1) := by decide +kernel
theorem dX7_appear_28 : decode cX7_appear 28 = .ok (.aload_n 3, 1) := by decide +kernel
theorem dX7_appear_29 : decode cX7_appear 29 = .ok (.iload_n 2, 1) := by decide +kernel
theorem dX7_appear_30 : decode cX7_appear 30 = .ok (.putfield 161, 3) := by decide +kernel
theorem dX7_appear_33 : decode cX7_appear 33 = .ok (.iconst 1, 1) := by decide +kernel
theorem dX7_appear_34 : decode cX7_appear 34 = .ok (.ireturn, 1) := by decide +kernel
theorem dX7_court_0 : decode cX7_court 0 = .ok (.iconst 0, 1) := by decide +kernel
theorem dX7_court_1 : decode cX7_court 1 = .ok (.istore_n 1, 1) := by decide +kernel
theorem dX7_court_2 : decode cX7_court 2 = .ok (.iconst 0, 1) := by decide +kernel
theorem dX7_court_3 : decode cX7_court 3 = .ok (.istore_n 2, 1) := by decide +kernel
theorem dX7_court_4 : decode cX7_court 4 = .ok (.iload_n 2, 1) := by decide +kernel
theorem dX7_court_5 : decode cX7_court 5 = .ok (.aload_n 0, 1) := by decide +kernel
theorem dX7_court_6 : decode cX7_court 6 = .ok (.getfield 54, 3) := by decide +kernel
theorem dX7_court_9 : decode cX7_court 9 = .ok (.if_icmp .ge 51, 3) := by decide +kernel
theorem dX7_court_12 : decode cX7_court 12 = .ok (.aload_n 0, 1) := by decide +kernel
theorem dX7_court_13 : decode cX7_court 13 = .ok (.iload_n 2, 1) := by decide +kernel
theorem dX7_court_14 : decode cX7_court 14 = .ok (.invokevirtual 154, 3) := by decide +kernel
theorem dX7_court_17 : decode cX7_court 17 = .ok (.astore_n 3, 1) := by decide +kernel
theorem dX7_court_18 : decode cX7_court 18 = .ok (.aload_n 3, 1) := by decide +kernel
theorem dX7_court_19 : decode cX7_court 19 = .ok (.ifnull 35, 3) := by decide +kernel
theorem dX7_court_22 : decode cX7_court 22 = .ok (.aload_n 3, 1) := by decide +kernel
theorem dX7_court_23 : decode cX7_court 23 = .ok (.getfield 158, 3) := by decide +kernel
theorem dX7_court_26 : decode cX7_court 26 = .ok (.ifCond .ne 28, 3) := by decide +kernel
theorem dX7_court_29 : decode cX7_court 29 = .ok (.aload_n 0, 1) := by decide +kernel
theorem dX7_court_30 : decode cX7_court 30 = .ok (.aload_n 3, 1) := by decide +kernel
theorem dX7_court_31 : decode cX7_court 31 = .ok (.invokevirtual 164, 3) := by decide +kernel
theorem dX7_court_34 : decode cX7_court 34 = .ok (.aload_n 3, 1) := by decide +kernel
theorem dX7_court_35 : decode cX7_court 35 = .ok (.iconst 0, 1) := by decide +kernel
theorem dX7_court_36 : decode cX7_court 36 = .ok (.putfield 161, 3) := by decide +kernel
theorem dX7_court_39 : decode cX7_court 39 = .ok (.iload_n 1, 1) := by decide +kernel
theorem dX7_court_40 : decode cX7_court 40 = .ok (.aload_n 3, 1) := by decide +kernel
theorem dX7_court_41 : decode cX7_court 41 = .ok (.getfield 158, 3) := by decide +kernel
theorem dX7_court_44 : decode cX7_court 44 = .ok (.ifCond .ne 7, 3) := by decide +kernel
theorem dX7_court_47 : decode cX7_court 47 = .ok (.iconst 0, 1) := by decide +kernel
theorem dX7_court_48 : decode cX7_court 48 = .ok (.goto 4, 3) := by decide +kernel
theorem dX7_court_51 : decode cX7_court 51 = .ok (.iconst 1, 1) := by decide +kernel
theorem dX7_court_52 : decode cX7_court 52 = .ok (.iadd, 1) := by decide +kernel
theorem dX7_court_53 : decode cX7_court 53 = .ok (.istore_n 1, 1) := by decide +kernel
theorem dX7_court_54 : decode cX7_court 54 = .ok (.iinc 2 1, 3) := by decide +kernel
theorem dX7_court_57 : decode cX7_court 57 = .ok (.goto (-53), 3) := by decide +kernel
theorem dX7_court_60 : decode cX7_court 60 = .ok (.iload_n 1, 1) := by decide +kernel
theorem dX7_court_61 : decode cX7_court 61 = .ok (.ireturn, 1) := by decide +kernel
theorem dX7_holder_0 : decode cX7_holder 0 = .ok (.aload_n 0, 1) := by decide +kernel
theorem dX7_holder_1 : decode cX7_holder 1 = .ok (.iload_n 1, 1) := by decide +kernel
theorem dX7_holder_2 : decode cX7_holder 2 = .ok (.iload_n 2, 1) := by decide +kernel
theorem dX7_holder_3 : decode cX7_holder 3 = .ok (.iload_n 3, 1) := by decide +kernel
theorem dX7_holder_4 : decode cX7_holder 4 = .ok (.iconst 0, 1) := by decide +kernel
theorem dX7_holder_5 : decode cX7_holder 5 = .ok (.iconst 0, 1) := by decide +kernel
theorem dX7_holder_6 : decode cX7_holder 6 = .ok (.invokevirtual 168, 3) := by decide +kernel
theorem dX7_holder_9 : decode cX7_holder 9 = .ok (.ireturn, 1) := by decide +kernel
theorem dX7_right_0 : decode cX7_right 0 = .ok (.iload_n 1, 1) := by decide +kernel
theorem dX7_right_1 : decode cX7_right 1 = .ok (.invokestatic 108, 3) := by decide +kernel
theorem dX7_right_4 : decode cX7_right 4 = .ok (.ifCond .eq 30, 3) := by decide +kernel
theorem dX7_right_7 : decode cX7_right 7 = .ok (.iload_n 2, 1) := by decide +kernel
theorem dX7_right_8 : decode cX7_right 8 = .ok (.ifCond .lt 26, 3) := by decide +kernel
theorem dX7_right_11 : decode cX7_right 11 = .ok (.iload_n 2, 1) := by decide +kernel
theorem dX7_right_12 : decode cX7_right 12 = .ok (.bipush 12, 2) := by decide +kernel
theorem dX7_right_14 : decode cX7_right 14 = .ok (.if_icmp .ge 20, 3) := by decide +kernel
theorem dX7_right_17 : decode cX7_right 17 = .ok (.iload_n 3, 1) := by decide +kernel
theorem dX7_right_18 : decode cX7_right 18 = .ok (.ifCond .lt 16, 3) := by decide +kernel
theorem dX7_right_21 : decode cX7_right 21 = .ok (.iload_n 3, 1) := by decide +kernel
theorem dX7_right_22 : decode cX7_right 22 = .ok (.aload_n 0, 1) := by decide +kernel
theorem dX7_right_23 : decode cX7_right 23 = .ok (.getfield 9, 3) := by decide +kernel
theorem dX7_right_26 : decode cX7_right 26 = .ok (.if_icmp .gt 8, 3) := by decide +kernel
theorem dX7_right_29 : decode cX7_right 29 = .ok (.iload 4, 2) := by decide +kernel
theorem dX7_right_31 : decode cX7_right 31 = .ok (.ifCond .ge 6, 3) := by decide +kernel
theorem dX7_right_34 : decode cX7_right 34 = .ok (.bipush (-2), 2) := by decide +kernel
theorem dX7_right_36 : decode cX7_right 36 = .ok (.ireturn, 1) := by decide +kernel
theorem dX7_right_37 : decode cX7_right 37 = .ok (.aload_n 0, 1) := by decide +kernel
theorem dX7_right_38 : decode cX7_right 38 = .ok (.getfield 35, 3) := by decide +kernel
theorem dX7_right_41 : decode cX7_right 41 = .ok (.iload_n 1, 1) := by decide +kernel
theorem dX7_right_42 : decode cX7_right 42 = .ok (.bipush 12, 2) := by decide +kernel
theorem dX7_right_44 : decode cX7_right 44 = .ok (.imul, 1) := by decide +kernel
theorem dX7_right_45 : decode cX7_right 45 = .ok (.iload_n 2, 1) := by decide +kernel
theorem dX7_right_46 : decode cX7_right 46 = .ok (.iadd, 1) := by decide +kernel
theorem dX7_right_47 : decode cX7_right 47 = .ok (.iload_n 3, 1) := by decide +kernel
theorem dX7_right_48 : decode cX7_right 48 = .ok (.invokevirtual 172, 3) := by decide +kernel
theorem dX7_right_51 : decode cX7_right 51 = .ok (.iload 4, 2) := by decide +kernel
theorem dX7_right_53 : decode cX7_right 53 = .ok (.invokestatic 176, 3) := by decide +kernel
theorem dX7_right_56 : decode cX7_right 56 = .ok (.astore 6, 2) := by decide +kernel
theorem dX7_right_58 : decode cX7_right 58 = .ok (.aload 6, 2) := by decide +kernel
theorem dX7_right_60 : decode cX7_right 60 = .ok (.ifnonnull 6, 3) := by decide +kernel
theorem dX7_right_63 : decode cX7_right 63 = .ok (.bipush (-2), 2) := by decide +kernel
theorem dX7_right_65 : decode cX7_right 65 = .ok (.ireturn, 1) := by decide +kernel
theorem dX7_right_66 : decode cX7_right 66 = .ok (.iload 5, 2) := by decide +kernel
theorem dX7_right_68 : decode cX7_right 68 = .ok (.tableswitch 46 0 2 #[28, 34, 40], 28) := by decide +kernel
theorem dX7_right_96 : decode cX7_right 96 = .ok (.aload 6, 2) := by decide +kernel
theorem dX7_right_98 : decode cX7_right 98 = .ok (.getfield 180, 3) := by decide +kernel
theorem dX7_right_101 : decode cX7_right 101 = .ok (.ireturn, 1) := by decide +kernel
theorem dX7_right_102 : decode cX7_right 102 = .ok (.aload 6, 2) := by decide +kernel
theorem dX7_right_104 : decode cX7_right 104 = .ok (.getfield 185, 3) := by decide +kernel
theorem dX7_right_107 : decode cX7_right 107 = .ok (.ireturn, 1) := by decide +kernel
theorem dX7_right_108 : decode cX7_right 108 = .ok (.aload 6, 2) := by decide +kernel
theorem dX7_right_110 : decode cX7_right 110 = .ok (.getfield 188, 3) := by decide +kernel
theorem dX7_right_113 : decode cX7_right 113 = .ok (.ireturn, 1) := by decide +kernel
theorem dX7_right_114 : decode cX7_right 114 = .ok (.bipush (-2), 2) := by decide +kernel
theorem dX7_right_116 : decode cX7_right 116 = .ok (.ireturn, 1) := by decide +kernel
theorem dX7_heir_0 : decode cX7_heir 0 = .ok (.aload_n 0, 1) := by decide +kernel
theorem dX7_heir_1 : decode cX7_heir 1 = .ok (.getfield 28, 3) := by decide +kernel
theorem dX7_heir_4 : decode cX7_heir 4 = .ok (.iload_n 1, 1) := by decide +kernel
theorem dX7_heir_5 : decode cX7_heir 5 = .ok (.invokevirtual 105, 3) := by decide +kernel
theorem dX7_heir_8 : decode cX7_heir 8 = .ok (.ifnull 13, 3) := by decide +kernel
theorem dX7_heir_11 : decode cX7_heir 11 = .ok (.iload_n 2, 1) := by decide +kernel
theorem dX7_heir_12 : decode cX7_heir 12 = .ok (.ifCond .lt 9, 3) := by decide +kernel
theorem dX7_heir_15 : decode cX7_heir 15 = .ok (.iload_n 2, 1) := by decide +kernel
theorem dX7_heir_16 : decode cX7_heir 16 = .ok (.bipush 40, 2) := by decide +kernel
theorem dX7_heir_18 : decode cX7_heir 18 = .ok (.if_icmp .lt 5, 3) := by decide +kernel
theorem dX7_heir_21 : decode cX7_heir 21 = .ok (.iconst (-1), 1) := by decide +kernel
theorem dX7_heir_22 : decode cX7_heir 22 = .ok (.ireturn, 1) := by decide +kernel
theorem dX7_heir_23 : decode cX7_heir 23 = .ok (.aload_n 0, 1) := by decide +kernel
theorem dX7_heir_24 : decode cX7_heir 24 = .ok (.getfield 44, 3) := by decide +kernel
theorem dX7_heir_27 : decode cX7_heir 27 = .ok (.iload_n 1, 1) := by decide +kernel
theorem dX7_heir_28 : decode cX7_heir 28 = .ok (.aload_n 0, 1) := by decide +kernel
theorem dX7_heir_29 : decode cX7_heir 29 = .ok (.getfield 18, 3) := by decide +kernel
theorem dX7_heir_32 : decode cX7_heir 32 = .ok (.getfield 191, 3) := by decide +kernel
theorem dX7_heir_35 : decode cX7_heir 35 = .ok (.invokevirtual 194, 3) := by decide +kernel
theorem dX7_heir_38 : decode cX7_heir 38 = .ok (.iload_n 2, 1) := by decide +kernel
theorem dX7_heir_39 : decode cX7_heir 39 = .ok (.aload_n 0, 1) := by decide +kernel
theorem dX7_heir_40 : decode cX7_heir 40 = .ok (.getfield 44, 3) := by decide +kernel
theorem dX7_heir_43 : decode cX7_heir 43 = .ok (.getfield 197, 3) := by decide +kernel
theorem dX7_heir_46 : decode cX7_heir 46 = .ok (.if_icmp .ge 15, 3) := by decide +kernel
theorem dX7_heir_49 : decode cX7_heir 49 = .ok (.aload_n 0, 1) := by decide +kernel
theorem dX7_heir_50 : decode cX7_heir 50 = .ok (.getfield 44, 3) := by decide +kernel
theorem dX7_heir_53 : decode cX7_heir 53 = .ok (.getfield 200, 3) := by decide +kernel
theorem dX7_heir_56 : decode cX7_heir 56 = .ok (.iload_n 2, 1) := by decide +kernel
theorem dX7_heir_57 : decode cX7_heir 57 = .ok (.iaload, 1) := by decide +kernel
theorem dX7_heir_58 : decode cX7_heir 58 = .ok (.goto 4, 3) := by decide +kernel
theorem dX7_heir_61 : decode cX7_heir 61 = .ok (.iconst (-1), 1) := by decide +kernel
theorem dX7_heir_62 : decode cX7_heir 62 = .ok (.ireturn, 1) := by decide +kernel
theorem dX7_told_0 : decode cX7_told 0 = .ok (.aload_n 0, 1) := by decide +kernel
theorem dX7_told_1 : decode cX7_told 1 = .ok (.getfield 28, 3) := by decide +kernel
theorem dX7_told_4 : decode cX7_told 4 = .ok (.iload_n 1, 1) := by decide +kernel
theorem dX7_told_5 : decode cX7_told 5 = .ok (.invokevirtual 105, 3) := by decide +kernel
theorem dX7_told_8 : decode cX7_told 8 = .ok (.astore_n 3, 1) := by decide +kernel
theorem dX7_told_9 : decode cX7_told 9 = .ok (.aload_n 3, 1) := by decide +kernel
theorem dX7_told_10 : decode cX7_told 10 = .ok (.ifnonnull 6, 3) := by decide +kernel
theorem dX7_told_13 : decode cX7_told 13 = .ok (.bipush (-2), 2) := by decide +kernel
theorem dX7_told_15 : decode cX7_told 15 = .ok (.ireturn, 1) := by decide +kernel
theorem dX7_told_16 : decode cX7_told 16 = .ok (.iload_n 2, 1) := by decide +kernel
theorem dX7_told_17 : decode cX7_told 17 = .ok (.tableswitch 157 0 13 #[71, 76, 81, 86, 99, 104, 109, 118, 127, 132, 137, 142, 147, 152], 71) := by decide +kernel
theorem dX7_told_88 : decode cX7_told 88 = .ok (.aload_n 3, 1) := by decide +kernel
theorem dX7_told_89 : decode cX7_told 89 = .ok (.getfield 83, 3) := by decide +kernel
theorem dX7_told_92 : decode cX7_told 92 = .ok (.ireturn, 1) := by decide +kernel
theorem dX7_told_93 : decode cX7_told 93 = .ok (.aload_n 3, 1) := by decide +kernel
theorem dX7_told_94 : decode cX7_told 94 = .ok (.getfield 203, 3) := by decide +kernel
theorem dX7_told_97 : decode cX7_told 97 = .ok (.ireturn, 1) := by decide +kernel
theorem dX7_told_98 : decode cX7_told 98 = .ok (.aload_n 3, 1) := by decide +kernel
theorem dX7_told_99 : decode cX7_told 99 = .ok (.getfield 206, 3) := by decide +kernel
theorem dX7_told_102 : decode cX7_told 102 = .ok (.ireturn, 1) := by decide +kernel
theorem dX7_told_103 : decode cX7_told 103 = .ok (.aload_n 3, 1) := by decide +kernel
theorem dX7_told_104 : decode cX7_told 104 = .ok (.getfield 97, 3) := by decide +kernel
theorem dX7_told_107 : decode cX7_told 107 = .ok (.ifCond .eq 7, 3) := by decide +kernel
theorem dX7_told_110 : decode cX7_told 110 = .ok (.iconst 1, 1) := by decide +kernel
theorem dX7_told_111 : decode cX7_told 111 = .ok (.goto 4, 3) := by decide +kernel
theorem dX7_told_114 : decode cX7_told 114 = .ok (.iconst 0, 1) := by decide +kernel
theorem dX7_told_115 : decode cX7_told 115 = .ok (.ireturn, 1) := by decide +kernel
theorem dX7_told_116 : decode cX7_told 116 = .ok (.aload_n 3, 1) := by decide +kernel
theorem dX7_told_117 : decode cX7_told 117 = .ok (.getfield 86, 3) := by decide +kernel
theorem dX7_told_120 : decode cX7_told 120 = .ok (.ireturn, 1) := by decide +kernel
theorem dX7_told_121 : decode cX7_told 121 = .ok (.aload_n 3, 1) := by decide +kernel
theorem dX7_told_122 : decode cX7_told 122 = .ok (.getfield 209, 3) := by decide +kernel
theorem dX7_told_125 : decode cX7_told 125 = .ok (.ireturn, 1) := by decide +kernel
theorem dX7_told_126 : decode cX7_told 126 = .ok (.aload_n 0, 1) := by decide +kernel
theorem dX7_told_127 : decode cX7_told 127 = .ok (.getfield 35, 3) := by decide +kernel
theorem dX7_told_130 : decode cX7_told 130 = .ok (.iload_n 1, 1) := by decide +kernel
theorem dX7_told_131 : decode cX7_told 131 = .ok (.invokevirtual 130, 3) := by decide +kernel
theorem dX7_told_134 : decode cX7_told 134 = .ok (.ireturn, 1) := by decide +kernel
theorem dX7_told_135 : decode cX7_told 135 = .ok (.aload_n 0, 1) := by decide +kernel
theorem dX7_told_136 : decode cX7_told 136 = .ok (.getfield 35, 3) := by decide +kernel
theorem dX7_told_139 : decode cX7_told 139 = .ok (.iload_n 1, 1) := by decide +kernel
theorem dX7_told_140 : decode cX7_told 140 = .ok (.invokevirtual 212, 3) := by decide +kernel
theorem dX7_told_143 : decode cX7_told 143 = .ok (.ireturn, 1) := by decide +kernel
theorem dX7_told_144 : decode cX7_told 144 = .ok (.aload_n 3, 1) := by decide +kernel
theorem dX7_told_145 : decode cX7_told 145 = .ok (.getfield 123, 3) := by decide +kernel
theorem dX7_told_148 : decode cX7_told 148 = .ok (.ireturn, 1) := by decide +kernel
theorem dX7_told_149 : decode cX7_told 149 = .ok (.aload_n 3, 1) := by decide +kernel
theorem dX7_told_150 : decode cX7_told 150 = .ok (.getfield 142, 3) := by decide +kernel
theorem dX7_told_153 : decode cX7_told 153 = .ok (.ireturn, 1) := by decide +kernel
theorem dX7_told_154 : decode cX7_told 154 = .ok (.aload_n 3, 1) := by decide +kernel
theorem dX7_told_155 : decode cX7_told 155 = .ok (.getfield 148, 3) := by decide +kernel
theorem dX7_told_158 : decode cX7_told 158 = .ok (.ireturn, 1) := by decide +kernel
theorem dX7_told_159 : decode cX7_told 159 = .ok (.aload_n 3, 1) := by decide +kernel
theorem dX7_told_160 : decode cX7_told 160 = .ok (.getfield 145, 3) := by decide +kernel
theorem dX7_told_163 : decode cX7_told 163 = .ok (.ireturn, 1) := by decide +kernel
theorem dX7_told_164 : decode cX7_told 164 = .ok (.aload_n 3, 1) := by decide +kernel
theorem dX7_told_165 : decode cX7_told 165 = .ok (.getfield 215, 3) := by decide +kernel
theorem dX7_told_168 : decode cX7_told 168 = .ok (.ireturn, 1) := by decide +kernel
theorem dX7_told_169 : decode cX7_told 169 = .ok (.aload_n 3, 1) := by decide +kernel
theorem dX7_told_170 : decode cX7_told 170 = .ok (.getfield 139, 3) := by decide +kernel
theorem dX7_told_173 : decode cX7_told 173 = .ok (.ireturn, 1) := by decide +kernel
theorem dX7_told_174 : decode cX7_told 174 = .ok (.bipush (-2), 2) := by decide +kernel
theorem dX7_told_176 : decode cX7_told 176 = .ok (.ireturn, 1) := by decide +kernel
theorem dX7_suited_0 : decode cX7_suited 0 = .ok (.aload_n 0, 1) := by decide +kernel
theorem dX7_suited_1 : decode cX7_suited 1 = .ok (.iload_n 1, 1) := by decide +kernel
theorem dX7_suited_2 : decode cX7_suited 2 = .ok (.invokevirtual 154, 3) := by decide +kernel
theorem dX7_suited_5 : decode cX7_suited 5 = .ok (.astore_n 3, 1) := by decide +kernel
theorem dX7_suited_6 : decode cX7_suited 6 = .ok (.aload_n 3, 1) := by decide +kernel
theorem dX7_suited_7 : decode cX7_suited 7 = .ok (.ifnonnull 5, 3) := by decide +kernel
theorem dX7_suited_10 : decode cX7_suited 10 = .ok (.iconst (-1), 1) := by decide +kernel
theorem dX7_suited_11 : decode cX7_suited 11 = .ok (.ireturn, 1) := by decide +kernel
theorem dX7_suited_12 : decode cX7_suited 12 = .ok (.iload_n 2, 1) := by decide +kernel
theorem dX7_suited_13 : decode cX7_suited 13 = .ok (.tableswitch 42 0 2 #[27, 32, 37], 27) := by decide +kernel
theorem dX7_suited_40 : decode cX7_suited 40 = .ok (.aload_n 3, 1) := by decide +kernel
theorem dX7_suited_41 : decode cX7_suited 41 = .ok (.getfield 158, 3) := by decide +kernel
theorem dX7_suited_44 : decode cX7_suited 44 = .ok (.ireturn, 1) := by decide +kernel
theorem dX7_suited_45 : decode cX7_suited 45 = .ok (.aload_n 3, 1) := by decide +kernel
theorem dX7_suited_46 : decode cX7_suited 46 = .ok (.getfield 218, 3) := by decide +kernel
theorem dX7_suited_49 : decode cX7_suited 49 = .ok (.ireturn, 1) := by decide +kernel
theorem dX7_suited_50 : decode cX7_suited 50 = .ok (.aload_n 3, 1) := by decide +kernel
theorem dX7_suited_51 : decode cX7_suited 51 = .ok (.getfield 221, 3) := by decide +kernel
theorem dX7_suited_54 : decode cX7_suited 54 = .ok (.ireturn, 1) := by decide +kernel
theorem dX7_suited_55 : decode cX7_suited 55 = .ok (.iconst (-1), 1) := by decide +kernel
theorem dX7_suited_56 : decode cX7_suited 56 = .ok (.ireturn, 1) := by decide +kernel
theorem dX7_count_0 : decode cX7_count 0 = .ok (.iload_n 1, 1) := by decide +kernel
theorem dX7_count_1 : decode cX7_count 1 = .ok (.tableswitch 100 0 7 #[47, 52, 60, 65, 70, 79, 87, 92], 47) := by decide +kernel
theorem dX7_count_48 : decode cX7_count 48 = .ok (.aload_n 0, 1) := by decide +kernel
theorem dX7_count_49 : decode cX7_count 49 = .ok (.getfield 9, 3) := by decide +kernel
theorem dX7_count_52 : decode cX7_count 52 = .ok (.ireturn, 1) := by decide +kernel
theorem dX7_count_53 : decode cX7_count 53 = .ok (.aload_n 0, 1) := by decide +kernel
theorem dX7_count_54 : decode cX7_count 54 = .ok (.getfield 28, 3) := by decide +kernel
theorem dX7_count_57 : decode cX7_count 57 = .ok (.getfield 64, 3) := by decide +kernel
theorem dX7_count_60 : decode cX7_count 60 = .ok (.ireturn, 1) := by decide +kernel
theorem dX7_count_61 : decode cX7_count 61 = .ok (.aload_n 0, 1) := by decide +kernel
theorem dX7_count_62 : decode cX7_count 62 = .ok (.getfield 22, 3) := by decide +kernel
theorem dX7_count_65 : decode cX7_count 65 = .ok (.ireturn, 1) := by decide +kernel
theorem dX7_count_66 : decode cX7_count 66 = .ok (.aload_n 0, 1) := by decide +kernel
theorem dX7_count_67 : decode cX7_count 67 = .ok (.getfield 54, 3) := by decide +kernel
theorem dX7_count_70 : decode cX7_count 70 = .ok (.ireturn, 1) := by decide +kernel
theorem dX7_count_71 : decode cX7_count 71 = .ok (.aload_n 0, 1) := by decide +kernel
theorem dX7_count_72 : decode cX7_count 72 = .ok (.getfield 35, 3) := by decide +kernel
theorem dX7_count_75 : decode cX7_count 75 = .ok (.iconst (-1), 1) := by decide +kernel
theorem dX7_count_76 : decode cX7_count 76 = .ok (.invokevirtual 130, 3) := by decide +kernel
theorem dX7_count_79 : decode cX7_count 79 = .ok (.ireturn, 1) := by decide +kernel
theorem dX7_count_80 : decode cX7_count 80 = .ok (.aload_n 0, 1) := by decide +kernel
theorem dX7_count_81 : decode cX7_count 81 = .ok (.getfield 28, 3) := by decide +kernel
theorem dX7_count_84 : decode cX7_count 84 = .ok (.invokevirtual 224, 3) := by decide +kernel
theorem dX7_count_87 : decode cX7_count 87 = .ok (.ireturn, 1) := by decide +kernel
theorem dX7_count_88 : decode cX7_count 88 = .ok (.aload_n 0, 1) := by decide +kernel
theorem dX7_count_89 : decode cX7_count 89 = .ok (.getfield 57, 3) := by decide +kernel
theorem dX7_count_92 : decode cX7_count 92 = .ok (.ireturn, 1) := by decide +kernel
theorem dX7_count_93 : decode cX7_count 93 = .ok (.aload_n 0, 1) := by decide +kernel
theorem dX7_count_94 : decode cX7_count 94 = .ok (.getfield 35, 3) := by decide +kernel
theorem dX7_count_97 : decode cX7_count 97 = .ok (.getfield 228, 3) := by decide +kernel
theorem dX7_count_100 : decode cX7_count 100 = .ok (.ireturn, 1) := by decide +kernel
theorem dX7_count_101 : decode cX7_count 101 = .ok (.iconst (-1), 1) := by decide +kernel
theorem dX7_count_102 : decode cX7_count 102 = .ok (.ireturn, 1) := by decide +kernel
theorem dX7_isHolding_0 : decode cX7_isHolding 0 = .ok (.iload_n 0, 1) := by decide +kernel
theorem dX7_isHolding_1 : decode cX7_isHolding 1 = .ok (.ifCond .lt 13, 3) := by decide +kernel
theorem dX7_isHolding_4 : decode cX7_isHolding 4 = .ok (.iload_n 0, 1) := by decide +kernel
theorem dX7_isHolding_5 : decode cX7_isHolding 5 = .ok (.bipush 10, 2) := by decide +kernel
theorem dX7_isHolding_7 : decode cX7_isHolding 7 = .ok (.if_icmp .ge 7, 3) := by decide +kernel
theorem dX7_isHolding_10 : decode cX7_isHolding 10 = .ok (.iconst 1, 1) := by decide +kernel
theorem dX7_isHolding_11 : decode cX7_isHolding 11 = .ok (.goto 4, 3) := by decide +kernel
theorem dX7_isHolding_14 : decode cX7_isHolding 14 = .ok (.iconst 0, 1) := by decide +kernel
theorem dX7_isHolding_15 : decode cX7_isHolding 15 = .ok (.ireturn, 1) := by decide +kernel
theorem dX7_findSuit_0 : decode cX7_findSuit 0 = .ok (.iload_n 1, 1) := by decide +kernel
theorem dX7_findSuit_1 : decode cX7_findSuit 1 = .ok (.ifCond .lt 29, 3) := by decide +kernel
theorem dX7_findSuit_4 : decode cX7_findSuit 4 = .ok (.iload_n 1, 1) := by decide +kernel
theorem dX7_findSuit_5 : decode cX7_findSuit 5 = .ok (.aload_n 0, 1) := by decide +kernel
theorem dX7_findSuit_6 : decode cX7_findSuit 6 = .ok (.getfield 54, 3) := by decide +kernel
theorem dX7_findSuit_9 : decode cX7_findSuit 9 = .ok (.if_icmp .ge 21, 3) := by decide +kernel
theorem dX7_findSuit_12 : decode cX7_findSuit 12 = .ok (.iload_n 1, 1) := by decide +kernel
theorem dX7_findSuit_13 : decode cX7_findSuit 13 = .ok (.aload_n 0, 1) := by decide +kernel
theorem dX7_findSuit_14 : decode cX7_findSuit 14 = .ok (.getfield 50, 3) := by decide +kernel
theorem dX7_findSuit_17 : decode cX7_findSuit 17 = .ok (.arraylength, 1) := by decide +kernel
theorem dX7_findSuit_18 : decode cX7_findSuit 18 = .ok (.if_icmp .ge 12, 3) := by decide +kernel
theorem dX7_findSuit_21 : decode cX7_findSuit 21 = .ok (.aload_n 0, 1) := by decide +kernel
theorem dX7_findSuit_22 : decode cX7_findSuit 22 = .ok (.getfield 50, 3) := by decide +kernel
theorem dX7_findSuit_25 : decode cX7_findSuit 25 = .ok (.iload_n 1, 1) := by decide +kernel
theorem dX7_findSuit_26 : decode cX7_findSuit 26 = .ok (.aaload, 1) := by decide +kernel
theorem dX7_findSuit_27 : decode cX7_findSuit 27 = .ok (.goto 4, 3) := by decide +kernel
theorem dX7_findSuit_30 : decode cX7_findSuit 30 = .ok (.aconst_null, 1) := by decide +kernel
theorem dX7_findSuit_31 : decode cX7_findSuit 31 = .ok (.areturn, 1) := by decide +kernel
theorem dX7_oweMerchet_0 : decode cX7_oweMerchet 0 = .ok (.aload_n 0, 1) := by decide +kernel
theorem dX7_oweMerchet_1 : decode cX7_oweMerchet 1 = .ok (.getfield 28, 3) := by decide +kernel
theorem dX7_oweMerchet_4 : decode cX7_oweMerchet 4 = .ok (.aload_n 1, 1) := by decide +kernel
theorem dX7_oweMerchet_5 : decode cX7_oweMerchet 5 = .ok (.getfield 203, 3) := by decide +kernel
theorem dX7_oweMerchet_8 : decode cX7_oweMerchet 8 = .ok (.invokevirtual 79, 3) := by decide +kernel
theorem dX7_oweMerchet_11 : decode cX7_oweMerchet 11 = .ok (.astore_n 2, 1) := by decide +kernel
theorem dX7_oweMerchet_12 : decode cX7_oweMerchet 12 = .ok (.aload_n 2, 1) := by decide +kernel
theorem dX7_oweMerchet_13 : decode cX7_oweMerchet 13 = .ok (.ifnonnull 7, 3) := by decide +kernel
theorem dX7_oweMerchet_16 : decode cX7_oweMerchet 16 = .ok (.aload_n 1, 1) := by decide +kernel
theorem dX7_oweMerchet_17 : decode cX7_oweMerchet 17 = .ok (.goto 4, 3) := by decide +kernel
theorem dX7_oweMerchet_20 : decode cX7_oweMerchet 20 = .ok (.aload_n 2, 1) := by decide +kernel
theorem dX7_oweMerchet_21 : decode cX7_oweMerchet 21 = .ok (.astore_n 3, 1) := by decide +kernel
theorem dX7_oweMerchet_22 : decode cX7_oweMerchet 22 = .ok (.aload_n 3, 1) := by decide +kernel
theorem dX7_oweMerchet_23 : decode cX7_oweMerchet 23 = .ok (.dup, 1) := by decide +kernel
theorem dX7_oweMerchet_24 : decode cX7_oweMerchet 24 = .ok (.getfield 123, 3) := by decide +kernel
theorem dX7_oweMerchet_27 : decode cX7_oweMerchet 27 = .ok (.aload_n 0, 1) := by decide +kernel
theorem dX7_oweMerchet_28 : decode cX7_oweMerchet 28 = .ok (.getfield 18, 3) := by decide +kernel
theorem dX7_oweMerchet_31 : decode cX7_oweMerchet 31 = .ok (.getfield 231, 3) := by decide +kernel
theorem dX7_oweMerchet_34 : decode cX7_oweMerchet 34 = .ok (.iadd, 1) := by decide +kernel
theorem dX7_oweMerchet_35 : decode cX7_oweMerchet 35 = .ok (.putfield 123, 3) := by decide +kernel
theorem dX7_oweMerchet_38 : decode cX7_oweMerchet 38 = .ok (.return_, 1) := by decide +kernel
theorem dX7_passOwnStrips_0 : decode cX7_passOwnStrips 0 = .ok (.iconst 0, 1) := by decide +kernel
theorem dX7_passOwnStrips_1 : decode cX7_passOwnStrips 1 = .ok (.istore_n 3, 1) := by decide +kernel
theorem dX7_passOwnStrips_2 : decode cX7_passOwnStrips 2 = .ok (.iconst 0, 1) := by decide +kernel
theorem dX7_passOwnStrips_3 : decode cX7_passOwnStrips 3 = .ok (.istore 4, 2) := by decide +kernel
theorem dX7_passOwnStrips_5 : decode cX7_passOwnStrips 5 = .ok (.iload 4, 2) := by decide +kernel
theorem dX7_passOwnStrips_7 : decode cX7_passOwnStrips 7 = .ok (.bipush 10, 2) := by decide +kernel
theorem dX7_passOwnStrips_9 : decode cX7_passOwnStrips 9 = .ok (.if_icmp .ge 108, 3) := by decide +kernel
theorem dX7_passOwnStrips_12 : decode cX7_passOwnStrips 12 = .ok (.aload_n 0, 1) := by decide +kernel
theorem dX7_passOwnStrips_13 : decode cX7_passOwnStrips 13 = .ok (.getfield 35, 3) := by decide +kernel
theorem dX7_passOwnStrips_16 : decode cX7_passOwnStrips 16 = .ok (.iload 4, 2) := by decide +kernel
theorem dX7_passOwnStrips_18 : decode cX7_passOwnStrips 18 = .ok (.iload_n 1, 1) := by decide +kernel
theorem dX7_passOwnStrips_19 : decode cX7_passOwnStrips 19 = .ok (.iconst 0, 1) := by decide +kernel
theorem dX7_passOwnStrips_20 : decode cX7_passOwnStrips 20 = .ok (.invokevirtual 112, 3) := by decide +kernel
theorem dX7_passOwnStrips_23 : decode cX7_passOwnStrips 23 = .ok (.aload_n 0, 1) := by decide +kernel
theorem dX7_passOwnStrips_24 : decode cX7_passOwnStrips 24 = .ok (.getfield 35, 3) := by decide +kernel
theorem dX7_passOwnStrips_27 : decode cX7_passOwnStrips 27 = .ok (.getfield 116, 3) := by decide +kernel
theorem dX7_passOwnStrips_30 : decode cX7_passOwnStrips 30 = .ok (.istore 5, 2) := by decide +kernel
theorem dX7_passOwnStrips_32 : decode cX7_passOwnStrips 32 = .ok (.iload 5, 2) := by decide +kernel
theorem dX7_passOwnStrips_34 : decode cX7_passOwnStrips 34 = .ok (.ifCond .le 77, 3) := by decide +kernel
theorem dX7_passOwnStrips_37 : decode cX7_passOwnStrips 37 = .ok (.aload_n 2, 1) := by decide +kernel
theorem dX7_passOwnStrips_38 : decode cX7_passOwnStrips 38 = .ok (.getfield 86, 3) := by decide +kernel
theorem dX7_passOwnStrips_41 : decode cX7_passOwnStrips 41 = .ok (.iconst (-1), 1) := by decide +kernel
theorem dX7_passOwnStrips_42 : decode cX7_passOwnStrips 42 = .ok (.if_icmp .ne 7, 3) := by decide +kernel
theorem dX7_passOwnStrips_45 : decode cX7_passOwnStrips 45 = .ok (.iconst 0, 1) := by decide +kernel
theorem dX7_passOwnStrips_46 : decode cX7_passOwnStrips 46 = .ok (.goto 16, 3) := by decide +kernel
theorem dX7_passOwnStrips_49 : decode cX7_passOwnStrips 49 = .ok (.iload 5, 2) := by decide +kernel
theorem dX7_passOwnStrips_51 : decode cX7_passOwnStrips 51 = .ok (.aload_n 0, 1) := by decide +kernel
theorem dX7_passOwnStrips_52 : decode cX7_passOwnStrips 52 = .ok (.getfield 18, 3) := by decide +kernel
theorem dX7_passOwnStrips_55 : decode cX7_passOwnStrips 55 = .ok (.getfield 234, 3) := by decide +kernel
theorem dX7_passOwnStrips_58 : decode cX7_passOwnStrips 58 = .ok (.imul, 1) := by decide +kernel
theorem dX7_passOwnStrips_59 : decode cX7_passOwnStrips 59 = .ok (.bipush 12, 2) := by decide +kernel
theorem dX7_passOwnStrips_61 : decode cX7_passOwnStrips 61 = .ok (.idiv, 1) := by decide +kernel
theorem dX7_passOwnStrips_62 : decode cX7_passOwnStrips 62 = .ok (.istore 6, 2) := by decide +kernel
theorem dX7_passOwnStrips_64 : decode cX7_passOwnStrips 64 = .ok (.aload_n 0, 1) := by decide +kernel
theorem dX7_passOwnStrips_65 : decode cX7_passOwnStrips 65 = .ok (.getfield 35, 3) := by decide +kernel
theorem dX7_passOwnStrips_68 : decode cX7_passOwnStrips 68 = .ok (.iconst 0, 1) := by decide +kernel
theorem dX7_passOwnStrips_69 : decode cX7_passOwnStrips 69 = .ok (.iload 6, 2) := by decide +kernel
theorem dX7_passOwnStrips_71 : decode cX7_passOwnStrips 71 = .ok (.aload_n 2, 1) := by decide +kernel
theorem dX7_passOwnStrips_72 : decode cX7_passOwnStrips 72 = .ok (.getfield 86, 3) := by decide +kernel
theorem dX7_passOwnStrips_75 : decode cX7_passOwnStrips 75 = .ok (.iconst 3, 1) := by decide +kernel
theorem dX7_passOwnStrips_76 : decode cX7_passOwnStrips 76 = .ok (.aload_n 0, 1) := by decide +kernel
theorem dX7_passOwnStrips_77 : decode cX7_passOwnStrips 77 = .ok (.getfield 9, 3) := by decide +kernel
theorem dX7_passOwnStrips_80 : decode cX7_passOwnStrips 80 = .ok (.invokevirtual 119, 3) := by decide +kernel
theorem dX7_passOwnStrips_83 : decode cX7_passOwnStrips 83 = .ok (.aload_n 0, 1) := by decide +kernel
theorem dX7_passOwnStrips_84 : decode cX7_passOwnStrips 84 = .ok (.iload 6, 2) := by decide +kernel
theorem dX7_passOwnStrips_86 : decode cX7_passOwnStrips 86 = .ok (.iload_n 1, 1) := by decide +kernel
theorem dX7_passOwnStrips_87 : decode cX7_passOwnStrips 87 = .ok (.invokevirtual 237, 3) := by decide +kernel
theorem dX7_passOwnStrips_90 : decode cX7_passOwnStrips 90 = .ok (.aload_n 2, 1) := by decide +kernel
theorem dX7_passOwnStrips_91 : decode cX7_passOwnStrips 91 = .ok (.dup, 1) := by decide +kernel
theorem dX7_passOwnStrips_92 : decode cX7_passOwnStrips 92 = .ok (.getfield 123, 3) := by decide +kernel
theorem dX7_passOwnStrips_95 : decode cX7_passOwnStrips 95 = .ok (.aload_n 0, 1) := by decide +kernel
theorem dX7_passOwnStrips_96 : decode cX7_passOwnStrips 96 = .ok (.getfield 18, 3) := by decide +kernel
theorem dX7_passOwnStrips_99 : decode cX7_passOwnStrips 99 = .ok (.getfield 240, 3) := by decide +kernel
theorem dX7_passOwnStrips_102 : decode cX7_passOwnStrips 102 = .ok (.iadd, 1) := by decide +kernel
theorem dX7_passOwnStrips_103 : decode cX7_passOwnStrips 103 = .ok (.putfield 123, 3) := by decide +kernel
theorem dX7_passOwnStrips_106 : decode cX7_passOwnStrips 106 = .ok (.iload_n 3, 1) := by decide +kernel
theorem dX7_passOwnStrips_107 : decode cX7_passOwnStrips 107 = .ok (.iload 5, 2) := by decide +kernel
theorem dX7_passOwnStrips_109 : decode cX7_passOwnStrips 109 = .ok (.iadd, 1) := by decide +kernel
theorem dX7_passOwnStrips_110 : decode cX7_passOwnStrips 110 = .ok (.istore_n 3, 1) := by decide +kernel
theorem dX7_passOwnStrips_111 : decode cX7_passOwnStrips 111 = .ok (.iinc 4 1, 3) := by decide +kernel
theorem dX7_passOwnStrips_114 : decode cX7_passOwnStrips 114 = .ok (.goto (-109), 3) := by decide +kernel
theorem dX7_passOwnStrips_117 : decode cX7_passOwnStrips 117 = .ok (.iload_n 3, 1) := by decide +kernel
theorem dX7_passOwnStrips_118 : decode cX7_passOwnStrips 118 = .ok (.ireturn, 1) := by decide +kernel
theorem dX7_passWidowsParts_0 : decode cX7_passWidowsParts 0 = .ok (.iconst 0, 1) := by decide +kernel
theorem dX7_passWidowsParts_1 : decode cX7_passWidowsParts 1 = .ok (.istore_n 2, 1) := by decide +kernel
theorem dX7_passWidowsParts_2 : decode cX7_passWidowsParts 2 = .ok (.iconst 0, 1) := by decide +kernel
theorem dX7_passWidowsParts_3 : decode cX7_passWidowsParts 3 = .ok (.istore_n 3, 1) := by decide +kernel
theorem dX7_passWidowsParts_4 : decode cX7_passWidowsParts 4 = .ok (.iload_n 3, 1) := by decide +kernel
theorem dX7_passWidowsParts_5 : decode cX7_passWidowsParts 5 = .ok (.bipush 10, 2) := by decide +kernel
theorem dX7_passWidowsParts_7 : decode cX7_passWidowsParts 7 = .ok (.if_icmp .ge 60, 3) := by decide +kernel
theorem dX7_passWidowsParts_10 : decode cX7_passWidowsParts 10 = .ok (.aload_n 0, 1) := by decide +kernel
theorem dX7_passWidowsParts_11 : decode cX7_passWidowsParts 11 = .ok (.getfield 35, 3) := by decide +kernel
theorem dX7_passWidowsParts_14 : decode cX7_passWidowsParts 14 = .ok (.iload_n 3, 1) := by decide +kernel
theorem dX7_passWidowsParts_15 : decode cX7_passWidowsParts 15 = .ok (.iload_n 1, 1) := by decide +kernel
theorem dX7_passWidowsParts_16 : decode cX7_passWidowsParts 16 = .ok (.iconst 1, 1) := by decide +kernel
theorem dX7_passWidowsParts_17 : decode cX7_passWidowsParts 17 = .ok (.invokevirtual 112, 3) := by decide +kernel
theorem dX7_passWidowsParts_20 : decode cX7_passWidowsParts 20 = .ok (.aload_n 0, 1) := by decide +kernel
theorem dX7_passWidowsParts_21 : decode cX7_passWidowsParts 21 = .ok (.getfield 35, 3) := by decide +kernel
theorem dX7_passWidowsParts_24 : decode cX7_passWidowsParts 24 = .ok (.getfield 116, 3) := by decide +kernel
theorem dX7_passWidowsParts_27 : decode cX7_passWidowsParts 27 = .ok (.ifCond .le 34, 3) := by decide +kernel
theorem dX7_passWidowsParts_30 : decode cX7_passWidowsParts 30 = .ok (.aload_n 0, 1) := by decide +kernel
theorem dX7_passWidowsParts_31 : decode cX7_passWidowsParts 31 = .ok (.iconst 0, 1) := by decide +kernel
theorem dX7_passWidowsParts_32 : decode cX7_passWidowsParts 32 = .ok (.aload_n 0, 1) := by decide +kernel
theorem dX7_passWidowsParts_33 : decode cX7_passWidowsParts 33 = .ok (.getfield 35, 3) := by decide +kernel
theorem dX7_passWidowsParts_36 : decode cX7_passWidowsParts 36 = .ok (.aload_n 0, 1) := by decide +kernel
theorem dX7_passWidowsParts_37 : decode cX7_passWidowsParts 37 = .ok (.getfield 35, 3) := by decide +kernel
theorem dX7_passWidowsParts_40 : decode cX7_passWidowsParts 40 = .ok (.getfield 243, 3) := by decide +kernel
theorem dX7_passWidowsParts_43 : decode cX7_passWidowsParts 43 = .ok (.iconst 0, 1) := by decide +kernel
theorem dX7_passWidowsParts_44 : decode cX7_passWidowsParts 44 = .ok (.iaload, 1) := by decide +kernel
theorem dX7_passWidowsParts_45 : decode cX7_passWidowsParts 45 = .ok (.invokevirtual 246, 3) := by decide +kernel
theorem dX7_passWidowsParts_48 : decode cX7_passWidowsParts 48 = .ok (.invokevirtual 237, 3) := by decide +kernel
theorem dX7_passWidowsParts_51 : decode cX7_passWidowsParts 51 = .ok (.iload_n 2, 1) := by decide +kernel
theorem dX7_passWidowsParts_52 : decode cX7_passWidowsParts 52 = .ok (.aload_n 0, 1) := by decide +kernel
theorem dX7_passWidowsParts_53 : decode cX7_passWidowsParts 53 = .ok (.getfield 35, 3) := by decide +kernel
theorem dX7_passWidowsParts_56 : decode cX7_passWidowsParts 56 = .ok (.getfield 116, 3) := by decide +kernel
theorem dX7_passWidowsParts_59 : decode cX7_passWidowsParts 59 = .ok (.iadd, 1) := by decide +kernel
theorem dX7_passWidowsParts_60 : decode cX7_passWidowsParts 60 = .ok (.istore_n 2, 1) := by decide +kernel
theorem dX7_passWidowsParts_61 : decode cX7_passWidowsParts 61 = .ok (.iinc 3 1, 3) := by decide +kernel
theorem dX7_passWidowsParts_64 : decode cX7_passWidowsParts 64 = .ok (.goto (-60), 3) := by decide +kernel
theorem dX7_passWidowsParts_67 : decode cX7_passWidowsParts 67 = .ok (.iload_n 2, 1) := by decide +kernel
theorem dX7_passWidowsParts_68 : decode cX7_passWidowsParts 68 = .ok (.ireturn, 1) := by decide +kernel
theorem dX7_passPicked_0 : decode cX7_passPicked 0 = .ok (.aload_n 0, 1) := by decide +kernel
theorem dX7_passPicked_1 : decode cX7_passPicked 1 = .ok (.getfield 44, 3) := by decide +kernel
theorem dX7_passPicked_4 : decode cX7_passPicked 4 = .ok (.iload_n 2, 1) := by decide +kernel
theorem dX7_passPicked_5 : decode cX7_passPicked 5 = .ok (.aload_n 0, 1) := by decide +kernel
theorem dX7_passPicked_6 : decode cX7_passPicked 6 = .ok (.getfield 18, 3) := by decide +kernel
theorem dX7_passPicked_9 : decode cX7_passPicked 9 = .ok (.getfield 191, 3) := by decide +kernel
theorem dX7_passPicked_12 : decode cX7_passPicked 12 = .ok (.aload_n 0, 1) := by decide +kernel
theorem dX7_passPicked_13 : decode cX7_passPicked 13 = .ok (.getfield 35, 3) := by decide +kernel
theorem dX7_passPicked_16 : decode cX7_passPicked 16 = .ok (.getfield 116, 3) := by decide +kernel
theorem dX7_passPicked_19 : decode cX7_passPicked 19 = .ok (.iload_n 1, 1) := by decide +kernel
theorem dX7_passPicked_20 : decode cX7_passPicked 20 = .ok (.isub, 1) := by decide +kernel
theorem dX7_passPicked_21 : decode cX7_passPicked 21 = .ok (.invokevirtual 249, 3) := by decide +kernel
theorem dX7_passPicked_24 : decode cX7_passPicked 24 = .ok (.iload_n 1, 1) := by decide +kernel
theorem dX7_passPicked_25 : decode cX7_passPicked 25 = .ok (.istore_n 3, 1) := by decide +kernel
theorem dX7_passPicked_26 : decode cX7_passPicked 26 = .ok (.iload_n 3, 1) := by decide +kernel
theorem dX7_passPicked_27 : decode cX7_passPicked 27 = .ok (.aload_n 0, 1) := by decide +kernel
theorem dX7_passPicked_28 : decode cX7_passPicked 28 = .ok (.getfield 35, 3) := by decide +kernel
theorem dX7_passPicked_31 : decode cX7_passPicked 31 = .ok (.getfield 116, 3) := by decide +kernel
theorem dX7_passPicked_34 : decode cX7_passPicked 34 = .ok (.if_icmp .ge 49, 3) := by decide +kernel
theorem dX7_passPicked_37 : decode cX7_passPicked 37 = .ok (.aload_n 0, 1) := by decide +kernel
theorem dX7_passPicked_38 : decode cX7_passPicked 38 = .ok (.getfield 44, 3) := by decide +kernel
theorem dX7_passPicked_41 : decode cX7_passPicked 41 = .ok (.iload_n 3, 1) := by decide +kernel
theorem dX7_passPicked_42 : decode cX7_passPicked 42 = .ok (.iload_n 1, 1) := by decide +kernel
theorem dX7_passPicked_43 : decode cX7_passPicked 43 = .ok (.isub, 1) := by decide +kernel
theorem dX7_passPicked_44 : decode cX7_passPicked 44 = .ok (.invokevirtual 252, 3) := by decide +kernel
theorem dX7_passPicked_47 : decode cX7_passPicked 47 = .ok (.istore 4, 2) := by decide +kernel
theorem dX7_passPicked_49 : decode cX7_passPicked 49 = .ok (.aload_n 0, 1) := by decide +kernel
theorem dX7_passPicked_50 : decode cX7_passPicked 50 = .ok (.getfield 35, 3) := by decide +kernel
theorem dX7_passPicked_53 : decode cX7_passPicked 53 = .ok (.iload_n 3, 1) := by decide +kernel
theorem dX7_passPicked_54 : decode cX7_passPicked 54 = .ok (.iload_n 3, 1) := by decide +kernel
theorem dX7_passPicked_55 : decode cX7_passPicked 55 = .ok (.iconst 1, 1) := by decide +kernel
theorem dX7_passPicked_56 : decode cX7_passPicked 56 = .ok (.iadd, 1) := by decide +kernel
theorem dX7_passPicked_57 : decode cX7_passPicked 57 = .ok (.iload 4, 2) := by decide +kernel
theorem dX7_passPicked_59 : decode cX7_passPicked 59 = .ok (.iload 4, 2) := by decide +kernel
theorem dX7_passPicked_61 : decode cX7_passPicked 61 = .ok (.iconst (-1), 1) := by decide +kernel
theorem dX7_passPicked_62 : decode cX7_passPicked 62 = .ok (.if_icmp .ne 7, 3) := by decide +kernel
theorem dX7_passPicked_65 : decode cX7_passPicked 65 = .ok (.iconst 5, 1) := by decide +kernel
theorem dX7_passPicked_66 : decode cX7_passPicked 66 = .ok (.goto 4, 3) := by decide +kernel
theorem dX7_passPicked_69 : decode cX7_passPicked 69 = .ok (.iconst 2, 1) := by decide +kernel
theorem dX7_passPicked_70 : decode cX7_passPicked 70 = .ok (.aload_n 0, 1) := by decide +kernel
theorem dX7_passPicked_71 : decode cX7_passPicked 71 = .ok (.getfield 9, 3) := by decide +kernel
theorem dX7_passPicked_74 : decode cX7_passPicked 74 = .ok (.invokevirtual 119, 3) := by decide +kernel
theorem dX7_passPicked_77 : decode cX7_passPicked 77 = .ok (.iinc 3 1, 3) := by decide +kernel
theorem dX7_passPicked_80 : decode cX7_passPicked 80 = .ok (.goto (-54), 3) := by decide +kernel
theorem dX7_passPicked_83 : decode cX7_passPicked 83 = .ok (.return_, 1) := by decide +kernel
theorem dX7_hear_0 : decode cX7_hear 0 = .ok (.aload_n 0, 1) := by decide +kernel
theorem dX7_hear_1 : decode cX7_hear 1 = .ok (.getfield 28, 3) := by decide +kernel
theorem dX7_hear_4 : decode cX7_hear 4 = .ok (.aload_n 1, 1) := by decide +kernel
theorem dX7_hear_5 : decode cX7_hear 5 = .ok (.getfield 255, 3) := by decide +kernel
theorem dX7_hear_8 : decode cX7_hear 8 = .ok (.invokevirtual 79, 3) := by decide +kernel
theorem dX7_hear_11 : decode cX7_hear 11 = .ok (.astore_n 2, 1) := by decide +kernel
theorem dX7_hear_12 : decode cX7_hear 12 = .ok (.aload_n 2, 1) := by decide +kernel
theorem dX7_hear_13 : decode cX7_hear 13 = .ok (.ifnonnull 11, 3) := by decide +kernel
theorem dX7_hear_16 : decode cX7_hear 16 = .ok (.aload_n 1, 1) := by decide +kernel
theorem dX7_hear_17 : decode cX7_hear 17 = .ok (.iconst 1, 1) := by decide +kernel
theorem dX7_hear_18 : decode cX7_hear 18 = .ok (.putfield 158, 3) := by decide +kernel
theorem dX7_hear_21 : decode cX7_hear 21 = .ok (.goto 100, 3) := by decide +kernel
theorem dX7_hear_24 : decode cX7_hear 24 = .ok (.aload_n 1, 1) := by decide +kernel
theorem dX7_hear_25 : decode cX7_hear 25 = .ok (.getfield 161, 3) := by decide +kernel
theorem dX7_hear_28 : decode cX7_hear 28 = .ok (.iconst 2, 1) := by decide +kernel
theorem dX7_hear_29 : decode cX7_hear 29 = .ok (.if_icmp .ne 22, 3) := by decide +kernel
theorem dX7_hear_32 : decode cX7_hear 32 = .ok (.aload_n 1, 1) := by decide +kernel
theorem dX7_hear_33 : decode cX7_hear 33 = .ok (.iconst 2, 1) := by decide +kernel
theorem dX7_hear_34 : decode cX7_hear 34 = .ok (.putfield 158, 3) := by decide +kernel
theorem dX7_hear_37 : decode cX7_hear 37 = .ok (.aload_n 2, 1) := by decide +kernel
theorem dX7_hear_38 : decode cX7_hear 38 = .ok (.dup, 1) := by decide +kernel
theorem dX7_hear_39 : decode cX7_hear 39 = .ok (.getfield 123, 3) := by decide +kernel
theorem dX7_hear_42 : decode cX7_hear 42 = .ok (.bipush 6, 2) := by decide +kernel
theorem dX7_hear_44 : decode cX7_hear 44 = .ok (.iadd, 1) := by decide +kernel
theorem dX7_hear_45 : decode cX7_hear 45 = .ok (.putfield 123, 3) := by decide +kernel
theorem dX7_hear_48 : decode cX7_hear 48 = .ok (.goto 73, 3) := by decide +kernel
theorem dX7_hear_51 : decode cX7_hear 51 = .ok (.aload_n 1, 1) := by decide +kernel
theorem dX7_hear_52 : decode cX7_hear 52 = .ok (.getfield 161, 3) := by decide +kernel
theorem dX7_hear_55 : decode cX7_hear 55 = .ok (.iconst 3, 1) := by decide +kernel
theorem dX7_hear_56 : decode cX7_hear 56 = .ok (.if_icmp .ne 24, 3) := by decide +kernel
theorem dX7_hear_59 : decode cX7_hear 59 = .ok (.aload_n 1, 1) := by decide +kernel
theorem dX7_hear_60 : decode cX7_hear 60 = .ok (.iconst 3, 1) := by decide +kernel
theorem dX7_hear_61 : decode cX7_hear 61 = .ok (.putfield 158, 3) := by decide +kernel
theorem dX7_hear_64 : decode cX7_hear 64 = .ok (.aload_n 0, 1) := by decide +kernel
theorem dX7_hear_65 : decode cX7_hear 65 = .ok (.getfield 28, 3) := by decide +kernel
theorem dX7_hear_68 : decode cX7_hear 68 = .ok (.aload_n 1, 1) := by decide +kernel
theorem dX7_hear_69 : decode cX7_hear 69 = .ok (.getfield 258, 3) := by decide +kernel
theorem dX7_hear_72 : decode cX7_hear 72 = .ok (.bipush 6, 2) := by decide +kernel
theorem dX7_hear_74 : decode cX7_hear 74 = .ok (.invokevirtual 261, 3) := by decide +kernel
theorem dX7_hear_77 : decode cX7_hear 77 = .ok (.goto 44, 3) := by decide +kernel
theorem dX7_hear_80 : decode cX7_hear 80 = .ok (.aload_n 1, 1) := by decide +kernel
theorem dX7_hear_81 : decode cX7_hear 81 = .ok (.getfield 161, 3) := by decide +kernel
theorem dX7_hear_84 : decode cX7_hear 84 = .ok (.iconst 1, 1) := by decide +kernel
theorem dX7_hear_85 : decode cX7_hear 85 = .ok (.if_icmp .ne 30, 3) := by decide +kernel
theorem dX7_hear_88 : decode cX7_hear 88 = .ok (.aload_n 1, 1) := by decide +kernel
theorem dX7_hear_89 : decode cX7_hear 89 = .ok (.getfield 218, 3) := by decide +kernel
theorem dX7_hear_92 : decode cX7_hear 92 = .ok (.aload_n 0, 1) := by decide +kernel
theorem dX7_hear_93 : decode cX7_hear 93 = .ok (.getfield 18, 3) := by decide +kernel
theorem dX7_hear_96 : decode cX7_hear 96 = .ok (.getfield 264, 3) := by decide +kernel
theorem dX7_hear_99 : decode cX7_hear 99 = .ok (.if_icmp .ge 16, 3) := by decide +kernel
theorem dX7_hear_102 : decode cX7_hear 102 = .ok (.aload_n 1, 1) := by decide +kernel
theorem dX7_hear_103 : decode cX7_hear 103 = .ok (.dup, 1) := by decide +kernel
theorem dX7_hear_104 : decode cX7_hear 104 = .ok (.getfield 218, 3) := by decide +kernel
theorem dX7_hear_107 : decode cX7_hear 107 = .ok (.iconst 1, 1) := by decide +kernel
theorem dX7_hear_108 : decode cX7_hear 108 = .ok (.iadd, 1) := by decide +kernel
theorem dX7_hear_109 : decode cX7_hear 109 = .ok (.putfield 218, 3) := by decide +kernel
theorem dX7_hear_112 : decode cX7_hear 112 = .ok (.goto 9, 3) := by decide +kernel
theorem dX7_hear_115 : decode cX7_hear 115 = .ok (.aload_n 0, 1) := by decide +kernel
theorem dX7_hear_116 : decode cX7_hear 116 = .ok (.aload_n 1, 1) := by decide +kernel
theorem dX7_hear_117 : decode cX7_hear 117 = .ok (.aload_n 2, 1) := by decide +kernel
theorem dX7_hear_118 : decode cX7_hear 118 = .ok (.invokevirtual 265, 3) := by decide +kernel
theorem dX7_hear_121 : decode cX7_hear 121 = .ok (.return_, 1) := by decide +kernel
theorem dX7_defaultIn_0 : decode cX7_defaultIn 0 = .ok (.aload_n 0, 1) := by decide +kernel
theorem dX7_defaultIn_1 : decode cX7_defaultIn 1 = .ok (.getfield 28, 3) := by decide +kernel
theorem dX7_defaultIn_4 : decode cX7_defaultIn 4 = .ok (.aload_n 1, 1) := by decide +kernel
theorem dX7_defaultIn_5 : decode cX7_defaultIn 5 = .ok (.getfield 269, 3) := by decide +kernel
theorem dX7_defaultIn_8 : decode cX7_defaultIn 8 = .ok (.invokevirtual 79, 3) := by decide +kernel
theorem dX7_defaultIn_11 : decode cX7_defaultIn 11 = .ok (.astore_n 3, 1) := by decide +kernel
theorem dX7_defaultIn_12 : decode cX7_defaultIn 12 = .ok (.aload_n 3, 1) := by decide +kernel
theorem dX7_defaultIn_13 : decode cX7_defaultIn 13 = .ok (.ifnonnull 7, 3) := by decide +kernel
theorem dX7_defaultIn_16 : decode cX7_defaultIn 16 = .ok (.aload_n 2, 1) := by decide +kernel
theorem dX7_defaultIn_17 : decode cX7_defaultIn 17 = .ok (.goto 4, 3) := by decide +kernel
theorem dX7_defaultIn_20 : decode cX7_defaultIn 20 = .ok (.aload_n 3, 1) := by decide +kernel
theorem dX7_defaultIn_21 : decode cX7_defaultIn 21 = .ok (.astore 4, 2) := by decide +kernel
theorem dX7_defaultIn_23 : decode cX7_defaultIn 23 = .ok (.aload 4, 2) := by decide +kernel
theorem dX7_defaultIn_25 : decode cX7_defaultIn 25 = .ok (.dup, 1) := by decide +kernel
theorem dX7_defaultIn_26 : decode cX7_defaultIn 26 = .ok (.getfield 123, 3) := by decide +kernel
theorem dX7_defaultIn_29 : decode cX7_defaultIn 29 = .ok (.iconst 3, 1) := by decide +kernel
theorem dX7_defaultIn_30 : decode cX7_defaultIn 30 = .ok (.iadd, 1) := by decide +kernel
theorem dX7_defaultIn_31 : decode cX7_defaultIn 31 = .ok (.putfield 123, 3) := by decide +kernel
theorem dX7_defaultIn_34 : decode cX7_defaultIn 34 = .ok (.aload_n 1, 1) := by decide +kernel
theorem dX7_defaultIn_35 : decode cX7_defaultIn 35 = .ok (.dup, 1) := by decide +kernel
theorem dX7_defaultIn_36 : decode cX7_defaultIn 36 = .ok (.getfield 221, 3) := by decide +kernel
theorem dX7_defaultIn_39 : decode cX7_defaultIn 39 = .ok (.iconst 1, 1) := by decide +kernel
theorem dX7_defaultIn_40 : decode cX7_defaultIn 40 = .ok (.iadd, 1) := by decide +kernel
theorem dX7_defaultIn_41 : decode cX7_defaultIn 41 = .ok (.putfield 221, 3) := by decide +kernel
theorem dX7_defaultIn_44 : decode cX7_defaultIn 44 = .ok (.aload_n 1, 1) := by decide +kernel
theorem dX7_defaultIn_45 : decode cX7_defaultIn 45 = .ok (.getfield 221, 3) := by decide +kernel
theorem dX7_defaultIn_48 : decode cX7_defaultIn 48 = .ok (.iconst 2, 1) := by decide +kernel
theorem dX7_defaultIn_49 : decode cX7_defaultIn 49 = .ok (.if_icmp .lt 19, 3) := by decide +kernel
theorem dX7_defaultIn_52 : decode cX7_defaultIn 52 = .ok (.aload_n 1, 1) := by decide +kernel
theorem dX7_defaultIn_53 : decode cX7_defaultIn 53 = .ok (.iconst 2, 1) := by decide +kernel
theorem dX7_defaultIn_54 : decode cX7_defaultIn 54 = .ok (.putfield 158, 3) := by decide +kernel
theorem dX7_defaultIn_57 : decode cX7_defaultIn 57 = .ok (.aload_n 2, 1) := by decide +kernel
theorem dX7_defaultIn_58 : decode cX7_defaultIn 58 = .ok (.dup, 1) := by decide +kernel
theorem dX7_defaultIn_59 : decode cX7_defaultIn 59 = .ok (.getfield 123, 3) := by decide +kernel
theorem dX7_defaultIn_62 : decode cX7_defaultIn 62 = .ok (.bipush 6, 2) := by decide +kernel
theorem dX7_defaultIn_64 : decode cX7_defaultIn 64 = .ok (.iadd, 1) := by decide +kernel
theorem dX7_defaultIn_65 : decode cX7_defaultIn 65 = .ok (.putfield 123, 3) := by decide +kernel
theorem dX7_defaultIn_68 : decode cX7_defaultIn 68 = .ok (.return_, 1) := by decide +kernel
