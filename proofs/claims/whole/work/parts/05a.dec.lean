theorem dX0_init_0 : decode cX0_init 0 = .ok (.aload_n 0, 1) := by decide +kernel
theorem dX0_init_1 : decode cX0_init 1 = .ok (.invokespecial 3, 3) := by decide +kernel
theorem dX0_init_4 : decode cX0_init 4 = .ok (.aload_n 0, 1) := by decide +kernel
theorem dX0_init_5 : decode cX0_init 5 = .ok (.iload_n 1, 1) := by decide +kernel
theorem dX0_init_6 : decode cX0_init 6 = .ok (.ldc 9, 2) := by decide +kernel
theorem dX0_init_8 : decode cX0_init 8 = .ok (.idiv, 1) := by decide +kernel
theorem dX0_init_9 : decode cX0_init 9 = .ok (.putfield 10, 3) := by decide +kernel
theorem dX0_init_12 : decode cX0_init 12 = .ok (.aload_n 0, 1) := by decide +kernel
theorem dX0_init_13 : decode cX0_init 13 = .ok (.iload_n 1, 1) := by decide +kernel
theorem dX0_init_14 : decode cX0_init 14 = .ok (.sipush 1000, 3) := by decide +kernel
theorem dX0_init_17 : decode cX0_init 17 = .ok (.idiv, 1) := by decide +kernel
theorem dX0_init_18 : decode cX0_init 18 = .ok (.bipush 100, 2) := by decide +kernel
theorem dX0_init_20 : decode cX0_init 20 = .ok (.irem, 1) := by decide +kernel
theorem dX0_init_21 : decode cX0_init 21 = .ok (.putfield 16, 3) := by decide +kernel
theorem dX0_init_24 : decode cX0_init 24 = .ok (.aload_n 0, 1) := by decide +kernel
theorem dX0_init_25 : decode cX0_init 25 = .ok (.iload_n 1, 1) := by decide +kernel
theorem dX0_init_26 : decode cX0_init 26 = .ok (.bipush 100, 2) := by decide +kernel
theorem dX0_init_28 : decode cX0_init 28 = .ok (.idiv, 1) := by decide +kernel
theorem dX0_init_29 : decode cX0_init 29 = .ok (.bipush 10, 2) := by decide +kernel
theorem dX0_init_31 : decode cX0_init 31 = .ok (.irem, 1) := by decide +kernel
theorem dX0_init_32 : decode cX0_init 32 = .ok (.putfield 19, 3) := by decide +kernel
theorem dX0_init_35 : decode cX0_init 35 = .ok (.aload_n 0, 1) := by decide +kernel
theorem dX0_init_36 : decode cX0_init 36 = .ok (.iload_n 1, 1) := by decide +kernel
theorem dX0_init_37 : decode cX0_init 37 = .ok (.bipush 10, 2) := by decide +kernel
theorem dX0_init_39 : decode cX0_init 39 = .ok (.idiv, 1) := by decide +kernel
theorem dX0_init_40 : decode cX0_init 40 = .ok (.bipush 10, 2) := by decide +kernel
theorem dX0_init_42 : decode cX0_init 42 = .ok (.irem, 1) := by decide +kernel
theorem dX0_init_43 : decode cX0_init 43 = .ok (.putfield 22, 3) := by decide +kernel
theorem dX0_init_46 : decode cX0_init 46 = .ok (.aload_n 0, 1) := by decide +kernel
theorem dX0_init_47 : decode cX0_init 47 = .ok (.iload_n 2, 1) := by decide +kernel
theorem dX0_init_48 : decode cX0_init 48 = .ok (.sipush 10000, 3) := by decide +kernel
theorem dX0_init_51 : decode cX0_init 51 = .ok (.idiv, 1) := by decide +kernel
theorem dX0_init_52 : decode cX0_init 52 = .ok (.putfield 25, 3) := by decide +kernel
theorem dX0_init_55 : decode cX0_init 55 = .ok (.aload_n 0, 1) := by decide +kernel
theorem dX0_init_56 : decode cX0_init 56 = .ok (.iload_n 2, 1) := by decide +kernel
theorem dX0_init_57 : decode cX0_init 57 = .ok (.bipush 100, 2) := by decide +kernel
theorem dX0_init_59 : decode cX0_init 59 = .ok (.idiv, 1) := by decide +kernel
theorem dX0_init_60 : decode cX0_init 60 = .ok (.bipush 100, 2) := by decide +kernel
theorem dX0_init_62 : decode cX0_init 62 = .ok (.irem, 1) := by decide +kernel
theorem dX0_init_63 : decode cX0_init 63 = .ok (.putfield 28, 3) := by decide +kernel
theorem dX0_init_66 : decode cX0_init 66 = .ok (.aload_n 0, 1) := by decide +kernel
theorem dX0_init_67 : decode cX0_init 67 = .ok (.iload_n 2, 1) := by decide +kernel
theorem dX0_init_68 : decode cX0_init 68 = .ok (.bipush 100, 2) := by decide +kernel
theorem dX0_init_70 : decode cX0_init 70 = .ok (.irem, 1) := by decide +kernel
theorem dX0_init_71 : decode cX0_init 71 = .ok (.putfield 31, 3) := by decide +kernel
theorem dX0_init_74 : decode cX0_init 74 = .ok (.return_, 1) := by decide +kernel
theorem dX0_canBe_0 : decode cX0_canBe 0 = .ok (.iload_n 0, 1) := by decide +kernel
theorem dX0_canBe_1 : decode cX0_canBe 1 = .ok (.ifCond .lt 20, 3) := by decide +kernel
theorem dX0_canBe_4 : decode cX0_canBe 4 = .ok (.iload_n 0, 1) := by decide +kernel
theorem dX0_canBe_5 : decode cX0_canBe 5 = .ok (.bipush 10, 2) := by decide +kernel
theorem dX0_canBe_7 : decode cX0_canBe 7 = .ok (.irem, 1) := by decide +kernel
theorem dX0_canBe_8 : decode cX0_canBe 8 = .ok (.ifCond .ne 13, 3) := by decide +kernel
theorem dX0_canBe_11 : decode cX0_canBe 11 = .ok (.iload_n 1, 1) := by decide +kernel
theorem dX0_canBe_12 : decode cX0_canBe 12 = .ok (.ifCond .lt 9, 3) := by decide +kernel
theorem dX0_canBe_15 : decode cX0_canBe 15 = .ok (.iload_n 1, 1) := by decide +kernel
theorem dX0_canBe_16 : decode cX0_canBe 16 = .ok (.ldc 34, 2) := by decide +kernel
theorem dX0_canBe_18 : decode cX0_canBe 18 = .ok (.if_icmp .le 5, 3) := by decide +kernel
theorem dX0_canBe_21 : decode cX0_canBe 21 = .ok (.iconst 0, 1) := by decide +kernel
theorem dX0_canBe_22 : decode cX0_canBe 22 = .ok (.ireturn, 1) := by decide +kernel
theorem dX0_canBe_23 : decode cX0_canBe 23 = .ok (.new 11, 3) := by decide +kernel
theorem dX0_canBe_26 : decode cX0_canBe 26 = .ok (.dup, 1) := by decide +kernel
theorem dX0_canBe_27 : decode cX0_canBe 27 = .ok (.iload_n 0, 1) := by decide +kernel
theorem dX0_canBe_28 : decode cX0_canBe 28 = .ok (.iload_n 1, 1) := by decide +kernel
theorem dX0_canBe_29 : decode cX0_canBe 29 = .ok (.invokespecial 35, 3) := by decide +kernel
theorem dX0_canBe_32 : decode cX0_canBe 32 = .ok (.astore_n 2, 1) := by decide +kernel
theorem dX0_canBe_33 : decode cX0_canBe 33 = .ok (.aload_n 2, 1) := by decide +kernel
theorem dX0_canBe_34 : decode cX0_canBe 34 = .ok (.getfield 10, 3) := by decide +kernel
theorem dX0_canBe_37 : decode cX0_canBe 37 = .ok (.iconst 2, 1) := by decide +kernel
theorem dX0_canBe_38 : decode cX0_canBe 38 = .ok (.if_icmp .gt 32, 3) := by decide +kernel
theorem dX0_canBe_41 : decode cX0_canBe 41 = .ok (.aload_n 2, 1) := by decide +kernel
theorem dX0_canBe_42 : decode cX0_canBe 42 = .ok (.getfield 16, 3) := by decide +kernel
theorem dX0_canBe_45 : decode cX0_canBe 45 = .ok (.bipush 12, 2) := by decide +kernel
theorem dX0_canBe_47 : decode cX0_canBe 47 = .ok (.if_icmp .gt 23, 3) := by decide +kernel
theorem dX0_canBe_50 : decode cX0_canBe 50 = .ok (.aload_n 2, 1) := by decide +kernel
theorem dX0_canBe_51 : decode cX0_canBe 51 = .ok (.getfield 19, 3) := by decide +kernel
theorem dX0_canBe_54 : decode cX0_canBe 54 = .ok (.iconst 3, 1) := by decide +kernel
theorem dX0_canBe_55 : decode cX0_canBe 55 = .ok (.if_icmp .gt 15, 3) := by decide +kernel
theorem dX0_canBe_58 : decode cX0_canBe 58 = .ok (.aload_n 2, 1) := by decide +kernel
theorem dX0_canBe_59 : decode cX0_canBe 59 = .ok (.getfield 22, 3) := by decide +kernel
theorem dX0_canBe_62 : decode cX0_canBe 62 = .ok (.iconst 3, 1) := by decide +kernel
theorem dX0_canBe_63 : decode cX0_canBe 63 = .ok (.if_icmp .gt 7, 3) := by decide +kernel
theorem dX0_canBe_66 : decode cX0_canBe 66 = .ok (.iconst 1, 1) := by decide +kernel
theorem dX0_canBe_67 : decode cX0_canBe 67 = .ok (.goto 4, 3) := by decide +kernel
theorem dX0_canBe_70 : decode cX0_canBe 70 = .ok (.iconst 0, 1) := by decide +kernel
theorem dX0_canBe_71 : decode cX0_canBe 71 = .ok (.ireturn, 1) := by decide +kernel
theorem dX1_init_0 : decode cX1_init 0 = .ok (.aload_n 0, 1) := by decide +kernel
theorem dX1_init_1 : decode cX1_init 1 = .ok (.invokespecial 3, 3) := by decide +kernel
theorem dX1_init_4 : decode cX1_init 4 = .ok (.aload_n 0, 1) := by decide +kernel
theorem dX1_init_5 : decode cX1_init 5 = .ok (.bipush 40, 2) := by decide +kernel
theorem dX1_init_7 : decode cX1_init 7 = .ok (.newarray .int, 2) := by decide +kernel
theorem dX1_init_9 : decode cX1_init 9 = .ok (.putfield 9, 3) := by decide +kernel
theorem dX1_init_12 : decode cX1_init 12 = .ok (.aload_n 0, 1) := by decide +kernel
theorem dX1_init_13 : decode cX1_init 13 = .ok (.bipush 12, 2) := by decide +kernel
theorem dX1_init_15 : decode cX1_init 15 = .ok (.newarray .int, 2) := by decide +kernel
theorem dX1_init_17 : decode cX1_init 17 = .ok (.putfield 15, 3) := by decide +kernel
theorem dX1_init_20 : decode cX1_init 20 = .ok (.aload_n 0, 1) := by decide +kernel
theorem dX1_init_21 : decode cX1_init 21 = .ok (.aload_n 1, 1) := by decide +kernel
theorem dX1_init_22 : decode cX1_init 22 = .ok (.putfield 18, 3) := by decide +kernel
theorem dX1_init_25 : decode cX1_init 25 = .ok (.return_, 1) := by decide +kernel
theorem dX1_list_0 : decode cX1_list 0 = .ok (.aload_n 0, 1) := by decide +kernel
theorem dX1_list_1 : decode cX1_list 1 = .ok (.iload_n 1, 1) := by decide +kernel
theorem dX1_list_2 : decode cX1_list 2 = .ok (.iload_n 2, 1) := by decide +kernel
theorem dX1_list_3 : decode cX1_list 3 = .ok (.invokevirtual 22, 3) := by decide +kernel
theorem dX1_list_6 : decode cX1_list 6 = .ok (.aload_n 0, 1) := by decide +kernel
theorem dX1_list_7 : decode cX1_list 7 = .ok (.iconst 0, 1) := by decide +kernel
theorem dX1_list_8 : decode cX1_list 8 = .ok (.putfield 26, 3) := by decide +kernel
theorem dX1_list_11 : decode cX1_list 11 = .ok (.aload_n 0, 1) := by decide +kernel
theorem dX1_list_12 : decode cX1_list 12 = .ok (.aload_n 0, 1) := by decide +kernel
theorem dX1_list_13 : decode cX1_list 13 = .ok (.iload_n 1, 1) := by decide +kernel
theorem dX1_list_14 : decode cX1_list 14 = .ok (.invokevirtual 30, 3) := by decide +kernel
theorem dX1_list_17 : decode cX1_list 17 = .ok (.iconst 0, 1) := by decide +kernel
theorem dX1_list_18 : decode cX1_list 18 = .ok (.invokevirtual 34, 3) := by decide +kernel
theorem dX1_list_21 : decode cX1_list 21 = .ok (.return_, 1) := by decide +kernel
theorem dX1_share_0 : decode cX1_share 0 = .ok (.aload_n 0, 1) := by decide +kernel
theorem dX1_share_1 : decode cX1_share 1 = .ok (.iload_n 1, 1) := by decide +kernel
theorem dX1_share_2 : decode cX1_share 2 = .ok (.iload_n 2, 1) := by decide +kernel
theorem dX1_share_3 : decode cX1_share 3 = .ok (.invokevirtual 22, 3) := by decide +kernel
theorem dX1_share_6 : decode cX1_share 6 = .ok (.iconst 0, 1) := by decide +kernel
theorem dX1_share_7 : decode cX1_share 7 = .ok (.istore 4, 2) := by decide +kernel
theorem dX1_share_9 : decode cX1_share 9 = .ok (.iload 4, 2) := by decide +kernel
theorem dX1_share_11 : decode cX1_share 11 = .ok (.aload_n 0, 1) := by decide +kernel
theorem dX1_share_12 : decode cX1_share 12 = .ok (.getfield 15, 3) := by decide +kernel
theorem dX1_share_15 : decode cX1_share 15 = .ok (.arraylength, 1) := by decide +kernel
theorem dX1_share_16 : decode cX1_share 16 = .ok (.if_icmp .ge 17, 3) := by decide +kernel
theorem dX1_share_19 : decode cX1_share 19 = .ok (.aload_n 0, 1) := by decide +kernel
theorem dX1_share_20 : decode cX1_share 20 = .ok (.getfield 15, 3) := by decide +kernel
theorem dX1_share_23 : decode cX1_share 23 = .ok (.iload 4, 2) := by decide +kernel
theorem dX1_share_25 : decode cX1_share 25 = .ok (.iconst (-1), 1) := by decide +kernel
theorem dX1_share_26 : decode cX1_share 26 = .ok (.iastore, 1) := by decide +kernel
theorem dX1_share_27 : decode cX1_share 27 = .ok (.iinc 4 1, 3) := by decide +kernel
theorem dX1_share_30 : decode cX1_share 30 = .ok (.goto (-21), 3) := by decide +kernel
theorem dX1_share_33 : decode cX1_share 33 = .ok (.aload_n 0, 1) := by decide +kernel
theorem dX1_share_34 : decode cX1_share 34 = .ok (.aload_n 0, 1) := by decide +kernel
theorem dX1_share_35 : decode cX1_share 35 = .ok (.iload_n 1, 1) := by decide +kernel
theorem dX1_share_36 : decode cX1_share 36 = .ok (.invokevirtual 30, 3) := by decide +kernel
theorem dX1_share_39 : decode cX1_share 39 = .ok (.iconst 0, 1) := by decide +kernel
theorem dX1_share_40 : decode cX1_share 40 = .ok (.iload_n 3, 1) := by decide +kernel
theorem dX1_share_41 : decode cX1_share 41 = .ok (.aload_n 0, 1) := by decide +kernel
theorem dX1_share_42 : decode cX1_share 42 = .ok (.getfield 15, 3) := by decide +kernel
theorem dX1_share_45 : decode cX1_share 45 = .ok (.arraylength, 1) := by decide +kernel
theorem dX1_share_46 : decode cX1_share 46 = .ok (.invokestatic 38, 3) := by decide +kernel
theorem dX1_share_49 : decode cX1_share 49 = .ok (.iconst 0, 1) := by decide +kernel
theorem dX1_share_50 : decode cX1_share 50 = .ok (.invokevirtual 44, 3) := by decide +kernel
theorem dX1_share_53 : decode cX1_share 53 = .ok (.return_, 1) := by decide +kernel
theorem dX1_takerOf_0 : decode cX1_takerOf 0 = .ok (.iload_n 1, 1) := by decide +kernel
theorem dX1_takerOf_1 : decode cX1_takerOf 1 = .ok (.ifCond .lt 21, 3) := by decide +kernel
theorem dX1_takerOf_4 : decode cX1_takerOf 4 = .ok (.iload_n 1, 1) := by decide +kernel
theorem dX1_takerOf_5 : decode cX1_takerOf 5 = .ok (.aload_n 0, 1) := by decide +kernel
theorem dX1_takerOf_6 : decode cX1_takerOf 6 = .ok (.getfield 15, 3) := by decide +kernel
theorem dX1_takerOf_9 : decode cX1_takerOf 9 = .ok (.arraylength, 1) := by decide +kernel
theorem dX1_takerOf_10 : decode cX1_takerOf 10 = .ok (.if_icmp .ge 12, 3) := by decide +kernel
theorem dX1_takerOf_13 : decode cX1_takerOf 13 = .ok (.aload_n 0, 1) := by decide +kernel
theorem dX1_takerOf_14 : decode cX1_takerOf 14 = .ok (.getfield 15, 3) := by decide +kernel
theorem dX1_takerOf_17 : decode cX1_takerOf 17 = .ok (.iload_n 1, 1) := by decide +kernel
theorem dX1_takerOf_18 : decode cX1_takerOf 18 = .ok (.iaload, 1) := by decide +kernel
theorem dX1_takerOf_19 : decode cX1_takerOf 19 = .ok (.goto 4, 3) := by decide +kernel
theorem dX1_takerOf_22 : decode cX1_takerOf 22 = .ok (.iconst (-1), 1) := by decide +kernel
theorem dX1_takerOf_23 : decode cX1_takerOf 23 = .ok (.ireturn, 1) := by decide +kernel
theorem dX1_look_0 : decode cX1_look 0 = .ok (.aload_n 0, 1) := by decide +kernel
theorem dX1_look_1 : decode cX1_look 1 = .ok (.iload_n 2, 1) := by decide +kernel
theorem dX1_look_2 : decode cX1_look 2 = .ok (.putfield 48, 3) := by decide +kernel
theorem dX1_look_5 : decode cX1_look 5 = .ok (.aload_n 0, 1) := by decide +kernel
theorem dX1_look_6 : decode cX1_look 6 = .ok (.lconst 0, 1) := by decide +kernel
theorem dX1_look_7 : decode cX1_look 7 = .ok (.putfield 51, 3) := by decide +kernel
theorem dX1_look_10 : decode cX1_look 10 = .ok (.aload_n 0, 1) := by decide +kernel
theorem dX1_look_11 : decode cX1_look 11 = .ok (.lconst 0, 1) := by decide +kernel
theorem dX1_look_12 : decode cX1_look 12 = .ok (.putfield 55, 3) := by decide +kernel
theorem dX1_look_15 : decode cX1_look 15 = .ok (.aload_n 0, 1) := by decide +kernel
theorem dX1_look_16 : decode cX1_look 16 = .ok (.getfield 18, 3) := by decide +kernel
theorem dX1_look_19 : decode cX1_look 19 = .ok (.getfield 58, 3) := by decide +kernel
theorem dX1_look_22 : decode cX1_look 22 = .ok (.iconst 1, 1) := by decide +kernel
theorem dX1_look_23 : decode cX1_look 23 = .ok (.isub, 1) := by decide +kernel
theorem dX1_look_24 : decode cX1_look 24 = .ok (.istore_n 3, 1) := by decide +kernel
theorem dX1_look_25 : decode cX1_look 25 = .ok (.iload_n 3, 1) := by decide +kernel
theorem dX1_look_26 : decode cX1_look 26 = .ok (.ifCond .lt 110, 3) := by decide +kernel
theorem dX1_look_29 : decode cX1_look 29 = .ok (.aload_n 0, 1) := by decide +kernel
theorem dX1_look_30 : decode cX1_look 30 = .ok (.getfield 18, 3) := by decide +kernel
theorem dX1_look_33 : decode cX1_look 33 = .ok (.iload_n 3, 1) := by decide +kernel
theorem dX1_look_34 : decode cX1_look 34 = .ok (.invokevirtual 63, 3) := by decide +kernel
theorem dX1_look_37 : decode cX1_look 37 = .ok (.astore 4, 2) := by decide +kernel
theorem dX1_look_39 : decode cX1_look 39 = .ok (.aload 4, 2) := by decide +kernel
theorem dX1_look_41 : decode cX1_look 41 = .ok (.ifnonnull 6, 3) := by decide +kernel
theorem dX1_look_44 : decode cX1_look 44 = .ok (.goto 86, 3) := by decide +kernel
theorem dX1_look_47 : decode cX1_look 47 = .ok (.aload 4, 2) := by decide +kernel
theorem dX1_look_49 : decode cX1_look 49 = .ok (.getfield 67, 3) := by decide +kernel
theorem dX1_look_52 : decode cX1_look 52 = .ok (.ifCond .eq 12, 3) := by decide +kernel
theorem dX1_look_55 : decode cX1_look 55 = .ok (.iload_n 3, 1) := by decide +kernel
theorem dX1_look_56 : decode cX1_look 56 = .ok (.iload_n 1, 1) := by decide +kernel
theorem dX1_look_57 : decode cX1_look 57 = .ok (.if_icmp .eq 7, 3) := by decide +kernel
theorem dX1_look_60 : decode cX1_look 60 = .ok (.iconst 1, 1) := by decide +kernel
theorem dX1_look_61 : decode cX1_look 61 = .ok (.goto 4, 3) := by decide +kernel
theorem dX1_look_64 : decode cX1_look 64 = .ok (.iconst 0, 1) := by decide +kernel
theorem dX1_look_65 : decode cX1_look 65 = .ok (.istore 5, 2) := by decide +kernel
theorem dX1_look_67 : decode cX1_look 67 = .ok (.aload_n 0, 1) := by decide +kernel
theorem dX1_look_68 : decode cX1_look 68 = .ok (.dup, 1) := by decide +kernel
theorem dX1_look_69 : decode cX1_look 69 = .ok (.getfield 51, 3) := by decide +kernel
theorem dX1_look_72 : decode cX1_look 72 = .ok (.iload 5, 2) := by decide +kernel
theorem dX1_look_74 : decode cX1_look 74 = .ok (.ifCond .eq 9, 3) := by decide +kernel
theorem dX1_look_77 : decode cX1_look 77 = .ok (.lconst 1, 1) := by decide +kernel
theorem dX1_look_78 : decode cX1_look 78 = .ok (.iload_n 3, 1) := by decide +kernel
theorem dX1_look_79 : decode cX1_look 79 = .ok (.lshl, 1) := by decide +kernel
theorem dX1_look_80 : decode cX1_look 80 = .ok (.goto 4, 3) := by decide +kernel
theorem dX1_look_83 : decode cX1_look 83 = .ok (.lconst 0, 1) := by decide +kernel
theorem dX1_look_84 : decode cX1_look 84 = .ok (.lor, 1) := by decide +kernel
theorem dX1_look_85 : decode cX1_look 85 = .ok (.putfield 51, 3) := by decide +kernel
theorem dX1_look_88 : decode cX1_look 88 = .ok (.aload_n 0, 1) := by decide +kernel
theorem dX1_look_89 : decode cX1_look 89 = .ok (.dup, 1) := by decide +kernel
theorem dX1_look_90 : decode cX1_look 90 = .ok (.getfield 55, 3) := by decide +kernel
theorem dX1_look_93 : decode cX1_look 93 = .ok (.iload 5, 2) := by decide +kernel
theorem dX1_look_95 : decode cX1_look 95 = .ok (.ifCond .ne 24, 3) := by decide +kernel
theorem dX1_look_98 : decode cX1_look 98 = .ok (.aload 4, 2) := by decide +kernel
theorem dX1_look_100 : decode cX1_look 100 = .ok (.getfield 73, 3) := by decide +kernel
theorem dX1_look_103 : decode cX1_look 103 = .ok (.aload 4, 2) := by decide +kernel
theorem dX1_look_105 : decode cX1_look 105 = .ok (.getfield 76, 3) := by decide +kernel
theorem dX1_look_108 : decode cX1_look 108 = .ok (.lor, 1) := by decide +kernel
theorem dX1_look_109 : decode cX1_look 109 = .ok (.aload_n 0, 1) := by decide +kernel
theorem dX1_look_110 : decode cX1_look 110 = .ok (.getfield 55, 3) := by decide +kernel
theorem dX1_look_113 : decode cX1_look 113 = .ok (.land, 1) := by decide +kernel
theorem dX1_look_114 : decode cX1_look 114 = .ok (.lconst 0, 1) := by decide +kernel
theorem dX1_look_115 : decode cX1_look 115 = .ok (.lcmp, 1) := by decide +kernel
theorem dX1_look_116 : decode cX1_look 116 = .ok (.ifCond .eq 9, 3) := by decide +kernel
theorem dX1_look_119 : decode cX1_look 119 = .ok (.lconst 1, 1) := by decide +kernel
theorem dX1_look_120 : decode cX1_look 120 = .ok (.iload_n 3, 1) := by decide +kernel
theorem dX1_look_121 : decode cX1_look 121 = .ok (.lshl, 1) := by decide +kernel
theorem dX1_look_122 : decode cX1_look 122 = .ok (.goto 4, 3) := by decide +kernel
theorem dX1_look_125 : decode cX1_look 125 = .ok (.lconst 0, 1) := by decide +kernel
theorem dX1_look_126 : decode cX1_look 126 = .ok (.lor, 1) := by decide +kernel
theorem dX1_look_127 : decode cX1_look 127 = .ok (.putfield 55, 3) := by decide +kernel
theorem dX1_look_130 : decode cX1_look 130 = .ok (.iinc 3 (-1), 3) := by decide +kernel
theorem dX1_look_133 : decode cX1_look 133 = .ok (.goto (-108), 3) := by decide +kernel
theorem dX1_look_136 : decode cX1_look 136 = .ok (.return_, 1) := by decide +kernel
theorem dX1_firstLine_0 : decode cX1_firstLine 0 = .ok (.aload_n 0, 1) := by decide +kernel
theorem dX1_firstLine_1 : decode cX1_firstLine 1 = .ok (.iload_n 1, 1) := by decide +kernel
theorem dX1_firstLine_2 : decode cX1_firstLine 2 = .ok (.lconst 0, 1) := by decide +kernel
theorem dX1_firstLine_3 : decode cX1_firstLine 3 = .ok (.invokevirtual 79, 3) := by decide +kernel
theorem dX1_firstLine_6 : decode cX1_firstLine 6 = .ok (.lstore_n 2, 1) := by decide +kernel
theorem dX1_firstLine_7 : decode cX1_firstLine 7 = .ok (.aload_n 0, 1) := by decide +kernel
theorem dX1_firstLine_8 : decode cX1_firstLine 8 = .ok (.getfield 18, 3) := by decide +kernel
theorem dX1_firstLine_11 : decode cX1_firstLine 11 = .ok (.iload_n 1, 1) := by decide +kernel
theorem dX1_firstLine_12 : decode cX1_firstLine 12 = .ok (.invokevirtual 63, 3) := by decide +kernel
theorem dX1_firstLine_15 : decode cX1_firstLine 15 = .ok (.astore 4, 2) := by decide +kernel
theorem dX1_firstLine_17 : decode cX1_firstLine 17 = .ok (.lload_n 2, 1) := by decide +kernel
theorem dX1_firstLine_18 : decode cX1_firstLine 18 = .ok (.lconst 0, 1) := by decide +kernel
theorem dX1_firstLine_19 : decode cX1_firstLine 19 = .ok (.lcmp, 1) := by decide +kernel
theorem dX1_firstLine_20 : decode cX1_firstLine 20 = .ok (.ifCond .ne 8, 3) := by decide +kernel
theorem dX1_firstLine_23 : decode cX1_firstLine 23 = .ok (.aload 4, 2) := by decide +kernel
theorem dX1_firstLine_25 : decode cX1_firstLine 25 = .ok (.ifnonnull 5, 3) := by decide +kernel
theorem dX1_firstLine_28 : decode cX1_firstLine 28 = .ok (.lload_n 2, 1) := by decide +kernel
theorem dX1_firstLine_29 : decode cX1_firstLine 29 = .ok (.lreturn, 1) := by decide +kernel
theorem dX1_firstLine_30 : decode cX1_firstLine 30 = .ok (.aload_n 0, 1) := by decide +kernel
theorem dX1_firstLine_31 : decode cX1_firstLine 31 = .ok (.aload 4, 2) := by decide +kernel
theorem dX1_firstLine_33 : decode cX1_firstLine 33 = .ok (.getfield 83, 3) := by decide +kernel
theorem dX1_firstLine_36 : decode cX1_firstLine 36 = .ok (.lconst 1, 1) := by decide +kernel
theorem dX1_firstLine_37 : decode cX1_firstLine 37 = .ok (.iload_n 1, 1) := by decide +kernel
theorem dX1_firstLine_38 : decode cX1_firstLine 38 = .ok (.lshl, 1) := by decide +kernel
theorem dX1_firstLine_39 : decode cX1_firstLine 39 = .ok (.invokevirtual 79, 3) := by decide +kernel
theorem dX1_firstLine_42 : decode cX1_firstLine 42 = .ok (.lreturn, 1) := by decide +kernel
theorem dX1_lineBelow_0 : decode cX1_lineBelow 0 = .ok (.aload_n 0, 1) := by decide +kernel
theorem dX1_lineBelow_1 : decode cX1_lineBelow 1 = .ok (.getfield 18, 3) := by decide +kernel
theorem dX1_lineBelow_4 : decode cX1_lineBelow 4 = .ok (.iload_n 1, 1) := by decide +kernel
theorem dX1_lineBelow_5 : decode cX1_lineBelow 5 = .ok (.invokevirtual 63, 3) := by decide +kernel
theorem dX1_lineBelow_8 : decode cX1_lineBelow 8 = .ok (.astore 4, 2) := by decide +kernel
theorem dX1_lineBelow_10 : decode cX1_lineBelow 10 = .ok (.aload 4, 2) := by decide +kernel
theorem dX1_lineBelow_12 : decode cX1_lineBelow 12 = .ok (.ifnonnull 5, 3) := by decide +kernel
theorem dX1_lineBelow_15 : decode cX1_lineBelow 15 = .ok (.lconst 0, 1) := by decide +kernel
theorem dX1_lineBelow_16 : decode cX1_lineBelow 16 = .ok (.lreturn, 1) := by decide +kernel
theorem dX1_lineBelow_17 : decode cX1_lineBelow 17 = .ok (.aload 4, 2) := by decide +kernel
theorem dX1_lineBelow_19 : decode cX1_lineBelow 19 = .ok (.getfield 73, 3) := by decide +kernel
theorem dX1_lineBelow_22 : decode cX1_lineBelow 22 = .ok (.aload_n 0, 1) := by decide +kernel
theorem dX1_lineBelow_23 : decode cX1_lineBelow 23 = .ok (.getfield 55, 3) := by decide +kernel
theorem dX1_lineBelow_26 : decode cX1_lineBelow 26 = .ok (.land, 1) := by decide +kernel
theorem dX1_lineBelow_27 : decode cX1_lineBelow 27 = .ok (.lload_n 2, 1) := by decide +kernel
theorem dX1_lineBelow_28 : decode cX1_lineBelow 28 = .ok (.ldc2_w 86, 3) := by decide +kernel
theorem dX1_lineBelow_31 : decode cX1_lineBelow 31 = .ok (.lxor, 1) := by decide +kernel
theorem dX1_lineBelow_32 : decode cX1_lineBelow 32 = .ok (.land, 1) := by decide +kernel
theorem dX1_lineBelow_33 : decode cX1_lineBelow 33 = .ok (.lstore 5, 2) := by decide +kernel
theorem dX1_lineBelow_35 : decode cX1_lineBelow 35 = .ok (.lload 5, 2) := by decide +kernel
theorem dX1_lineBelow_37 : decode cX1_lineBelow 37 = .ok (.lconst 0, 1) := by decide +kernel
theorem dX1_lineBelow_38 : decode cX1_lineBelow 38 = .ok (.lcmp, 1) := by decide +kernel
theorem dX1_lineBelow_39 : decode cX1_lineBelow 39 = .ok (.ifCond .ne 20, 3) := by decide +kernel
theorem dX1_lineBelow_42 : decode cX1_lineBelow 42 = .ok (.aload 4, 2) := by decide +kernel
theorem dX1_lineBelow_44 : decode cX1_lineBelow 44 = .ok (.getfield 76, 3) := by decide +kernel
theorem dX1_lineBelow_47 : decode cX1_lineBelow 47 = .ok (.aload_n 0, 1) := by decide +kernel
theorem dX1_lineBelow_48 : decode cX1_lineBelow 48 = .ok (.getfield 55, 3) := by decide +kernel
theorem dX1_lineBelow_51 : decode cX1_lineBelow 51 = .ok (.land, 1) := by decide +kernel
theorem dX1_lineBelow_52 : decode cX1_lineBelow 52 = .ok (.lload_n 2, 1) := by decide +kernel
theorem dX1_lineBelow_53 : decode cX1_lineBelow 53 = .ok (.ldc2_w 86, 3) := by decide +kernel
theorem dX1_lineBelow_56 : decode cX1_lineBelow 56 = .ok (.lxor, 1) := by decide +kernel
theorem dX1_lineBelow_57 : decode cX1_lineBelow 57 = .ok (.land, 1) := by decide +kernel
theorem dX1_lineBelow_58 : decode cX1_lineBelow 58 = .ok (.lreturn, 1) := by decide +kernel
theorem dX1_lineBelow_59 : decode cX1_lineBelow 59 = .ok (.aload_n 0, 1) := by decide +kernel
theorem dX1_lineBelow_60 : decode cX1_lineBelow 60 = .ok (.getfield 48, 3) := by decide +kernel
theorem dX1_lineBelow_63 : decode cX1_lineBelow 63 = .ok (.ifCond .ne 10, 3) := by decide +kernel
theorem dX1_lineBelow_66 : decode cX1_lineBelow 66 = .ok (.lload 5, 2) := by decide +kernel
theorem dX1_lineBelow_68 : decode cX1_lineBelow 68 = .ok (.lload 5, 2) := by decide +kernel
theorem dX1_lineBelow_70 : decode cX1_lineBelow 70 = .ok (.lneg, 1) := by decide +kernel
theorem dX1_lineBelow_71 : decode cX1_lineBelow 71 = .ok (.land, 1) := by decide +kernel
theorem dX1_lineBelow_72 : decode cX1_lineBelow 72 = .ok (.lreturn, 1) := by decide +kernel
theorem dX1_lineBelow_73 : decode cX1_lineBelow 73 = .ok (.aload_n 0, 1) := by decide +kernel
theorem dX1_lineBelow_74 : decode cX1_lineBelow 74 = .ok (.getfield 48, 3) := by decide +kernel
theorem dX1_lineBelow_77 : decode cX1_lineBelow 77 = .ok (.iconst 1, 1) := by decide +kernel
theorem dX1_lineBelow_78 : decode cX1_lineBelow 78 = .ok (.if_icmp .ne 11, 3) := by decide +kernel
theorem dX1_lineBelow_81 : decode cX1_lineBelow 81 = .ok (.lload 5, 2) := by decide +kernel
theorem dX1_lineBelow_83 : decode cX1_lineBelow 83 = .ok (.invokestatic 88, 3) := by decide +kernel
theorem dX1_lineBelow_86 : decode cX1_lineBelow 86 = .ok (.goto 5, 3) := by decide +kernel
theorem dX1_lineBelow_89 : decode cX1_lineBelow 89 = .ok (.lload 5, 2) := by decide +kernel
theorem dX1_lineBelow_91 : decode cX1_lineBelow 91 = .ok (.lreturn, 1) := by decide +kernel
theorem dX1_youngestOf_0 : decode cX1_youngestOf 0 = .ok (.ldc2_w 92, 3) := by decide +kernel
theorem dX1_youngestOf_3 : decode cX1_youngestOf 3 = .ok (.lstore_n 2, 1) := by decide +kernel
theorem dX1_youngestOf_4 : decode cX1_youngestOf 4 = .ok (.lload_n 2, 1) := by decide +kernel
theorem dX1_youngestOf_5 : decode cX1_youngestOf 5 = .ok (.lconst 0, 1) := by decide +kernel
theorem dX1_youngestOf_6 : decode cX1_youngestOf 6 = .ok (.lcmp, 1) := by decide +kernel
theorem dX1_youngestOf_7 : decode cX1_youngestOf 7 = .ok (.ifCond .le 20, 3) := by decide +kernel
theorem dX1_youngestOf_10 : decode cX1_youngestOf 10 = .ok (.lload_n 0, 1) := by decide +kernel
theorem dX1_youngestOf_11 : decode cX1_youngestOf 11 = .ok (.lload_n 2, 1) := by decide +kernel
theorem dX1_youngestOf_12 : decode cX1_youngestOf 12 = .ok (.land, 1) := by decide +kernel
theorem dX1_youngestOf_13 : decode cX1_youngestOf 13 = .ok (.lconst 0, 1) := by decide +kernel
theorem dX1_youngestOf_14 : decode cX1_youngestOf 14 = .ok (.lcmp, 1) := by decide +kernel
theorem dX1_youngestOf_15 : decode cX1_youngestOf 15 = .ok (.ifCond .eq 5, 3) := by decide +kernel
theorem dX1_youngestOf_18 : decode cX1_youngestOf 18 = .ok (.lload_n 2, 1) := by decide +kernel
theorem dX1_youngestOf_19 : decode cX1_youngestOf 19 = .ok (.lreturn, 1) := by decide +kernel
theorem dX1_youngestOf_20 : decode cX1_youngestOf 20 = .ok (.lload_n 2, 1) := by decide +kernel
theorem dX1_youngestOf_21 : decode cX1_youngestOf 21 = .ok (.iconst 1, 1) := by decide +kernel
theorem dX1_youngestOf_22 : decode cX1_youngestOf 22 = .ok (.lshr, 1) := by decide +kernel
theorem dX1_youngestOf_23 : decode cX1_youngestOf 23 = .ok (.lstore_n 2, 1) := by decide +kernel
theorem dX1_youngestOf_24 : decode cX1_youngestOf 24 = .ok (.goto (-20), 3) := by decide +kernel
theorem dX1_youngestOf_27 : decode cX1_youngestOf 27 = .ok (.lconst 0, 1) := by decide +kernel
theorem dX1_youngestOf_28 : decode cX1_youngestOf 28 = .ok (.lreturn, 1) := by decide +kernel
theorem dX1_isIn_0 : decode cX1_isIn 0 = .ok (.lload_n 0, 1) := by decide +kernel
theorem dX1_isIn_1 : decode cX1_isIn 1 = .ok (.iload_n 2, 1) := by decide +kernel
theorem dX1_isIn_2 : decode cX1_isIn 2 = .ok (.lshr, 1) := by decide +kernel
theorem dX1_isIn_3 : decode cX1_isIn 3 = .ok (.lconst 1, 1) := by decide +kernel
theorem dX1_isIn_4 : decode cX1_isIn 4 = .ok (.land, 1) := by decide +kernel
theorem dX1_isIn_5 : decode cX1_isIn 5 = .ok (.lconst 0, 1) := by decide +kernel
theorem dX1_isIn_6 : decode cX1_isIn 6 = .ok (.lcmp, 1) := by decide +kernel
theorem dX1_isIn_7 : decode cX1_isIn 7 = .ok (.ifCond .eq 7, 3) := by decide +kernel
theorem dX1_isIn_10 : decode cX1_isIn 10 = .ok (.iconst 1, 1) := by decide +kernel
theorem dX1_isIn_11 : decode cX1_isIn 11 = .ok (.goto 4, 3) := by decide +kernel
theorem dX1_isIn_14 : decode cX1_isIn 14 = .ok (.iconst 0, 1) := by decide +kernel
theorem dX1_isIn_15 : decode cX1_isIn 15 = .ok (.ireturn, 1) := by decide +kernel
theorem dX1_listLine_0 : decode cX1_listLine 0 = .ok (.iload_n 3, 1) := by decide +kernel
theorem dX1_listLine_1 : decode cX1_listLine 1 = .ok (.bipush 60, 2) := by decide +kernel
theorem dX1_listLine_3 : decode cX1_listLine 3 = .ok (.if_icmp .le 4, 3) := by decide +kernel
theorem dX1_listLine_6 : decode cX1_listLine 6 = .ok (.return_, 1) := by decide +kernel
theorem dX1_listLine_7 : decode cX1_listLine 7 = .ok (.iconst 0, 1) := by decide +kernel
theorem dX1_listLine_8 : decode cX1_listLine 8 = .ok (.istore 4, 2) := by decide +kernel
theorem dX1_listLine_10 : decode cX1_listLine 10 = .ok (.iload 4, 2) := by decide +kernel
theorem dX1_listLine_12 : decode cX1_listLine 12 = .ok (.aload_n 0, 1) := by decide +kernel
theorem dX1_listLine_13 : decode cX1_listLine 13 = .ok (.getfield 18, 3) := by decide +kernel
theorem dX1_listLine_16 : decode cX1_listLine 16 = .ok (.getfield 58, 3) := by decide +kernel
theorem dX1_listLine_19 : decode cX1_listLine 19 = .ok (.if_icmp .ge 83, 3) := by decide +kernel
theorem dX1_listLine_22 : decode cX1_listLine 22 = .ok (.aload_n 0, 1) := by decide +kernel
theorem dX1_listLine_23 : decode cX1_listLine 23 = .ok (.getfield 26, 3) := by decide +kernel
theorem dX1_listLine_26 : decode cX1_listLine 26 = .ok (.aload_n 0, 1) := by decide +kernel
theorem dX1_listLine_27 : decode cX1_listLine 27 = .ok (.getfield 9, 3) := by decide +kernel
theorem dX1_listLine_30 : decode cX1_listLine 30 = .ok (.arraylength, 1) := by decide +kernel
theorem dX1_listLine_31 : decode cX1_listLine 31 = .ok (.if_icmp .ge 71, 3) := by decide +kernel
theorem dX1_listLine_34 : decode cX1_listLine 34 = .ok (.lload_n 1, 1) := by decide +kernel
theorem dX1_listLine_35 : decode cX1_listLine 35 = .ok (.iload 4, 2) := by decide +kernel
theorem dX1_listLine_37 : decode cX1_listLine 37 = .ok (.invokestatic 94, 3) := by decide +kernel
theorem dX1_listLine_40 : decode cX1_listLine 40 = .ok (.ifCond .ne 6, 3) := by decide +kernel
theorem dX1_listLine_43 : decode cX1_listLine 43 = .ok (.goto 53, 3) := by decide +kernel
theorem dX1_listLine_46 : decode cX1_listLine 46 = .ok (.aload_n 0, 1) := by decide +kernel
theorem dX1_listLine_47 : decode cX1_listLine 47 = .ok (.getfield 51, 3) := by decide +kernel
theorem dX1_listLine_50 : decode cX1_listLine 50 = .ok (.iload 4, 2) := by decide +kernel
theorem dX1_listLine_52 : decode cX1_listLine 52 = .ok (.invokestatic 94, 3) := by decide +kernel
theorem dX1_listLine_55 : decode cX1_listLine 55 = .ok (.ifCond .eq 27, 3) := by decide +kernel
theorem dX1_listLine_58 : decode cX1_listLine 58 = .ok (.aload_n 0, 1) := by decide +kernel
theorem dX1_listLine_59 : decode cX1_listLine 59 = .ok (.getfield 9, 3) := by decide +kernel
theorem dX1_listLine_62 : decode cX1_listLine 62 = .ok (.aload_n 0, 1) := by decide +kernel
theorem dX1_listLine_63 : decode cX1_listLine 63 = .ok (.getfield 26, 3) := by decide +kernel
theorem dX1_listLine_66 : decode cX1_listLine 66 = .ok (.iload 4, 2) := by decide +kernel
theorem dX1_listLine_68 : decode cX1_listLine 68 = .ok (.iastore, 1) := by decide +kernel
theorem dX1_listLine_69 : decode cX1_listLine 69 = .ok (.aload_n 0, 1) := by decide +kernel
theorem dX1_listLine_70 : decode cX1_listLine 70 = .ok (.dup, 1) := by decide +kernel
theorem dX1_listLine_71 : decode cX1_listLine 71 = .ok (.getfield 26, 3) := by decide +kernel
theorem dX1_listLine_74 : decode cX1_listLine 74 = .ok (.iconst 1, 1) := by decide +kernel
theorem dX1_listLine_75 : decode cX1_listLine 75 = .ok (.iadd, 1) := by decide +kernel
theorem dX1_listLine_76 : decode cX1_listLine 76 = .ok (.putfield 26, 3) := by decide +kernel
theorem dX1_listLine_79 : decode cX1_listLine 79 = .ok (.goto 17, 3) := by decide +kernel
theorem dX1_listLine_82 : decode cX1_listLine 82 = .ok (.aload_n 0, 1) := by decide +kernel
theorem dX1_listLine_83 : decode cX1_listLine 83 = .ok (.aload_n 0, 1) := by decide +kernel
theorem dX1_listLine_84 : decode cX1_listLine 84 = .ok (.iload 4, 2) := by decide +kernel
theorem dX1_listLine_86 : decode cX1_listLine 86 = .ok (.lconst 0, 1) := by decide +kernel
theorem dX1_listLine_87 : decode cX1_listLine 87 = .ok (.invokevirtual 79, 3) := by decide +kernel
theorem dX1_listLine_90 : decode cX1_listLine 90 = .ok (.iload_n 3, 1) := by decide +kernel
theorem dX1_listLine_91 : decode cX1_listLine 91 = .ok (.iconst 1, 1) := by decide +kernel
theorem dX1_listLine_92 : decode cX1_listLine 92 = .ok (.iadd, 1) := by decide +kernel
theorem dX1_listLine_93 : decode cX1_listLine 93 = .ok (.invokevirtual 34, 3) := by decide +kernel
theorem dX1_listLine_96 : decode cX1_listLine 96 = .ok (.iinc 4 1, 3) := by decide +kernel
theorem dX1_listLine_99 : decode cX1_listLine 99 = .ok (.goto (-89), 3) := by decide +kernel
theorem dX1_listLine_102 : decode cX1_listLine 102 = .ok (.return_, 1) := by decide +kernel
theorem dX1_shareLine_0 : decode cX1_shareLine 0 = .ok (.lload_n 1, 1) := by decide +kernel
theorem dX1_shareLine_1 : decode cX1_shareLine 1 = .ok (.invokestatic 98, 3) := by decide +kernel
theorem dX1_shareLine_4 : decode cX1_shareLine 4 = .ok (.istore 6, 2) := by decide +kernel
theorem dX1_shareLine_6 : decode cX1_shareLine 6 = .ok (.iload 6, 2) := by decide +kernel
theorem dX1_shareLine_8 : decode cX1_shareLine 8 = .ok (.ifCond .eq 10, 3) := by decide +kernel
theorem dX1_shareLine_11 : decode cX1_shareLine 11 = .ok (.iload 5, 2) := by decide +kernel
theorem dX1_shareLine_13 : decode cX1_shareLine 13 = .ok (.bipush 60, 2) := by decide +kernel
theorem dX1_shareLine_15 : decode cX1_shareLine 15 = .ok (.if_icmp .le 4, 3) := by decide +kernel
theorem dX1_shareLine_18 : decode cX1_shareLine 18 = .ok (.return_, 1) := by decide +kernel
theorem dX1_shareLine_19 : decode cX1_shareLine 19 = .ok (.iload 4, 2) := by decide +kernel
theorem dX1_shareLine_21 : decode cX1_shareLine 21 = .ok (.iload 6, 2) := by decide +kernel
theorem dX1_shareLine_23 : decode cX1_shareLine 23 = .ok (.idiv, 1) := by decide +kernel
theorem dX1_shareLine_24 : decode cX1_shareLine 24 = .ok (.istore 7, 2) := by decide +kernel
theorem dX1_shareLine_26 : decode cX1_shareLine 26 = .ok (.iload 4, 2) := by decide +kernel
theorem dX1_shareLine_28 : decode cX1_shareLine 28 = .ok (.iload 6, 2) := by decide +kernel
theorem dX1_shareLine_30 : decode cX1_shareLine 30 = .ok (.irem, 1) := by decide +kernel
theorem dX1_shareLine_31 : decode cX1_shareLine 31 = .ok (.istore 8, 2) := by decide +kernel
theorem dX1_shareLine_33 : decode cX1_shareLine 33 = .ok (.iload_n 3, 1) := by decide +kernel
theorem dX1_shareLine_34 : decode cX1_shareLine 34 = .ok (.istore 9, 2) := by decide +kernel
theorem dX1_shareLine_36 : decode cX1_shareLine 36 = .ok (.iconst 0, 1) := by decide +kernel
theorem dX1_shareLine_37 : decode cX1_shareLine 37 = .ok (.istore 10, 2) := by decide +kernel
theorem dX1_shareLine_39 : decode cX1_shareLine 39 = .ok (.iconst 0, 1) := by decide +kernel
theorem dX1_shareLine_40 : decode cX1_shareLine 40 = .ok (.istore 11, 2) := by decide +kernel
theorem dX1_shareLine_42 : decode cX1_shareLine 42 = .ok (.iload 11, 2) := by decide +kernel
theorem dX1_shareLine_44 : decode cX1_shareLine 44 = .ok (.aload_n 0, 1) := by decide +kernel
theorem dX1_shareLine_45 : decode cX1_shareLine 45 = .ok (.getfield 18, 3) := by decide +kernel
theorem dX1_shareLine_48 : decode cX1_shareLine 48 = .ok (.getfield 58, 3) := by decide +kernel
theorem dX1_shareLine_51 : decode cX1_shareLine 51 = .ok (.if_icmp .ge 102, 3) := by decide +kernel
theorem dX1_shareLine_54 : decode cX1_shareLine 54 = .ok (.lload_n 1, 1) := by decide +kernel
theorem dX1_shareLine_55 : decode cX1_shareLine 55 = .ok (.iload 11, 2) := by decide +kernel
theorem dX1_shareLine_57 : decode cX1_shareLine 57 = .ok (.invokestatic 94, 3) := by decide +kernel
theorem dX1_shareLine_60 : decode cX1_shareLine 60 = .ok (.ifCond .ne 6, 3) := by decide +kernel
theorem dX1_shareLine_63 : decode cX1_shareLine 63 = .ok (.goto 84, 3) := by decide +kernel
theorem dX1_shareLine_66 : decode cX1_shareLine 66 = .ok (.iload 7, 2) := by decide +kernel
theorem dX1_shareLine_68 : decode cX1_shareLine 68 = .ok (.iload 10, 2) := by decide +kernel
theorem dX1_shareLine_70 : decode cX1_shareLine 70 = .ok (.iload 8, 2) := by decide +kernel
theorem dX1_shareLine_72 : decode cX1_shareLine 72 = .ok (.if_icmp .ge 7, 3) := by decide +kernel
theorem dX1_shareLine_75 : decode cX1_shareLine 75 = .ok (.iconst 1, 1) := by decide +kernel
theorem dX1_shareLine_76 : decode cX1_shareLine 76 = .ok (.goto 4, 3) := by decide +kernel
theorem dX1_shareLine_79 : decode cX1_shareLine 79 = .ok (.iconst 0, 1) := by decide +kernel
theorem dX1_shareLine_80 : decode cX1_shareLine 80 = .ok (.iadd, 1) := by decide +kernel
theorem dX1_shareLine_81 : decode cX1_shareLine 81 = .ok (.istore 12, 2) := by decide +kernel
theorem dX1_shareLine_83 : decode cX1_shareLine 83 = .ok (.iinc 10 1, 3) := by decide +kernel
theorem dX1_shareLine_86 : decode cX1_shareLine 86 = .ok (.iload 12, 2) := by decide +kernel
theorem dX1_shareLine_88 : decode cX1_shareLine 88 = .ok (.ifCond .le 28, 3) := by decide +kernel
theorem dX1_shareLine_91 : decode cX1_shareLine 91 = .ok (.aload_n 0, 1) := by decide +kernel
theorem dX1_shareLine_92 : decode cX1_shareLine 92 = .ok (.getfield 51, 3) := by decide +kernel
theorem dX1_shareLine_95 : decode cX1_shareLine 95 = .ok (.iload 11, 2) := by decide +kernel
theorem dX1_shareLine_97 : decode cX1_shareLine 97 = .ok (.invokestatic 94, 3) := by decide +kernel
theorem dX1_shareLine_100 : decode cX1_shareLine 100 = .ok (.ifCond .eq 16, 3) := by decide +kernel
theorem dX1_shareLine_103 : decode cX1_shareLine 103 = .ok (.aload_n 0, 1) := by decide +kernel
theorem dX1_shareLine_104 : decode cX1_shareLine 104 = .ok (.iload 11, 2) := by decide +kernel
theorem dX1_shareLine_106 : decode cX1_shareLine 106 = .ok (.iload 9, 2) := by decide +kernel
theorem dX1_shareLine_108 : decode cX1_shareLine 108 = .ok (.iload 12, 2) := by decide +kernel
theorem dX1_shareLine_110 : decode cX1_shareLine 110 = .ok (.invokevirtual 104, 3) := by decide +kernel
theorem dX1_shareLine_113 : decode cX1_shareLine 113 = .ok (.goto 27, 3) := by decide +kernel
theorem dX1_shareLine_116 : decode cX1_shareLine 116 = .ok (.iload 12, 2) := by decide +kernel
theorem dX1_shareLine_118 : decode cX1_shareLine 118 = .ok (.ifCond .le 22, 3) := by decide +kernel
theorem dX1_shareLine_121 : decode cX1_shareLine 121 = .ok (.aload_n 0, 1) := by decide +kernel
theorem dX1_shareLine_122 : decode cX1_shareLine 122 = .ok (.aload_n 0, 1) := by decide +kernel
theorem dX1_shareLine_123 : decode cX1_shareLine 123 = .ok (.iload 11, 2) := by decide +kernel
theorem dX1_shareLine_125 : decode cX1_shareLine 125 = .ok (.lconst 0, 1) := by decide +kernel
theorem dX1_shareLine_126 : decode cX1_shareLine 126 = .ok (.invokevirtual 79, 3) := by decide +kernel
theorem dX1_shareLine_129 : decode cX1_shareLine 129 = .ok (.iload 9, 2) := by decide +kernel
theorem dX1_shareLine_131 : decode cX1_shareLine 131 = .ok (.iload 12, 2) := by decide +kernel
theorem dX1_shareLine_133 : decode cX1_shareLine 133 = .ok (.iload 5, 2) := by decide +kernel
theorem dX1_shareLine_135 : decode cX1_shareLine 135 = .ok (.iconst 1, 1) := by decide +kernel
theorem dX1_shareLine_136 : decode cX1_shareLine 136 = .ok (.iadd, 1) := by decide +kernel
theorem dX1_shareLine_137 : decode cX1_shareLine 137 = .ok (.invokevirtual 44, 3) := by decide +kernel
theorem dX1_shareLine_140 : decode cX1_shareLine 140 = .ok (.iload 9, 2) := by decide +kernel
theorem dX1_shareLine_142 : decode cX1_shareLine 142 = .ok (.iload 12, 2) := by decide +kernel
theorem dX1_shareLine_144 : decode cX1_shareLine 144 = .ok (.iadd, 1) := by decide +kernel
theorem dX1_shareLine_145 : decode cX1_shareLine 145 = .ok (.istore 9, 2) := by decide +kernel
theorem dX1_shareLine_147 : decode cX1_shareLine 147 = .ok (.iinc 11 1, 3) := by decide +kernel
theorem dX1_shareLine_150 : decode cX1_shareLine 150 = .ok (.goto (-108), 3) := by decide +kernel
theorem dX1_shareLine_153 : decode cX1_shareLine 153 = .ok (.return_, 1) := by decide +kernel
theorem dX1_give_0 : decode cX1_give 0 = .ok (.iload_n 2, 1) := by decide +kernel
theorem dX1_give_1 : decode cX1_give 1 = .ok (.iconst 0, 1) := by decide +kernel
theorem dX1_give_2 : decode cX1_give 2 = .ok (.invokestatic 108, 3) := by decide +kernel
theorem dX1_give_5 : decode cX1_give 5 = .ok (.istore 4, 2) := by decide +kernel
theorem dX1_give_7 : decode cX1_give 7 = .ok (.iload 4, 2) := by decide +kernel
theorem dX1_give_9 : decode cX1_give 9 = .ok (.iload_n 2, 1) := by decide +kernel
theorem dX1_give_10 : decode cX1_give 10 = .ok (.iload_n 3, 1) := by decide +kernel
theorem dX1_give_11 : decode cX1_give 11 = .ok (.iadd, 1) := by decide +kernel
theorem dX1_give_12 : decode cX1_give 12 = .ok (.if_icmp .ge 27, 3) := by decide +kernel
theorem dX1_give_15 : decode cX1_give 15 = .ok (.iload 4, 2) := by decide +kernel
theorem dX1_give_17 : decode cX1_give 17 = .ok (.aload_n 0, 1) := by decide +kernel
theorem dX1_give_18 : decode cX1_give 18 = .ok (.getfield 15, 3) := by decide +kernel
theorem dX1_give_21 : decode cX1_give 21 = .ok (.arraylength, 1) := by decide +kernel
theorem dX1_give_22 : decode cX1_give 22 = .ok (.if_icmp .ge 17, 3) := by decide +kernel
theorem dX1_give_25 : decode cX1_give 25 = .ok (.aload_n 0, 1) := by decide +kernel
theorem dX1_give_26 : decode cX1_give 26 = .ok (.getfield 15, 3) := by decide +kernel
theorem dX1_give_29 : decode cX1_give 29 = .ok (.iload 4, 2) := by decide +kernel
theorem dX1_give_31 : decode cX1_give 31 = .ok (.iload_n 1, 1) := by decide +kernel
theorem dX1_give_32 : decode cX1_give 32 = .ok (.iastore, 1) := by decide +kernel
theorem dX1_give_33 : decode cX1_give 33 = .ok (.iinc 4 1, 3) := by decide +kernel
theorem dX1_give_36 : decode cX1_give 36 = .ok (.goto (-29), 3) := by decide +kernel
theorem dX1_give_39 : decode cX1_give 39 = .ok (.return_, 1) := by decide +kernel
theorem dX2_init_0 : decode cX2_init 0 = .ok (.aload_n 0, 1) := by decide +kernel
theorem dX2_init_1 : decode cX2_init 1 = .ok (.invokespecial 3, 3) := by decide +kernel
theorem dX2_init_4 : decode cX2_init 4 = .ok (.aload_n 0, 1) := by decide +kernel
theorem dX2_init_5 : decode cX2_init 5 = .ok (.bipush 120, 2) := by decide +kernel
theorem dX2_init_7 : decode cX2_init 7 = .ok (.anewarray 9, 3) := by decide +kernel
theorem dX2_init_10 : decode cX2_init 10 = .ok (.putfield 11, 3) := by decide +kernel
theorem dX2_init_13 : decode cX2_init 13 = .ok (.aload_n 0, 1) := by decide +kernel
theorem dX2_init_14 : decode cX2_init 14 = .ok (.bipush 120, 2) := by decide +kernel
theorem dX2_init_16 : decode cX2_init 16 = .ok (.putfield 17, 3) := by decide +kernel
theorem dX2_init_19 : decode cX2_init 19 = .ok (.aload_n 0, 1) := by decide +kernel
theorem dX2_init_20 : decode cX2_init 20 = .ok (.bipush 12, 2) := by decide +kernel
theorem dX2_init_22 : decode cX2_init 22 = .ok (.newarray .int, 2) := by decide +kernel
theorem dX2_init_24 : decode cX2_init 24 = .ok (.putfield 21, 3) := by decide +kernel
theorem dX2_init_27 : decode cX2_init 27 = .ok (.new 9, 3) := by decide +kernel
theorem dX2_init_30 : decode cX2_init 30 = .ok (.dup, 1) := by decide +kernel
theorem dX2_init_31 : decode cX2_init 31 = .ok (.iconst (-1), 1) := by decide +kernel
theorem dX2_init_32 : decode cX2_init 32 = .ok (.iconst 0, 1) := by decide +kernel
theorem dX2_init_33 : decode cX2_init 33 = .ok (.iconst 0, 1) := by decide +kernel
theorem dX2_init_34 : decode cX2_init 34 = .ok (.aconst_null, 1) := by decide +kernel
theorem dX2_init_35 : decode cX2_init 35 = .ok (.invokespecial 25, 3) := by decide +kernel
theorem dX2_init_38 : decode cX2_init 38 = .ok (.astore_n 1, 1) := by decide +kernel
theorem dX2_init_39 : decode cX2_init 39 = .ok (.iconst 0, 1) := by decide +kernel
theorem dX2_init_40 : decode cX2_init 40 = .ok (.istore_n 2, 1) := by decide +kernel
theorem dX2_init_41 : decode cX2_init 41 = .ok (.iload_n 2, 1) := by decide +kernel
theorem dX2_init_42 : decode cX2_init 42 = .ok (.bipush 120, 2) := by decide +kernel
theorem dX2_init_44 : decode cX2_init 44 = .ok (.if_icmp .ge 16, 3) := by decide +kernel
theorem dX2_init_47 : decode cX2_init 47 = .ok (.aload_n 0, 1) := by decide +kernel
theorem dX2_init_48 : decode cX2_init 48 = .ok (.getfield 11, 3) := by decide +kernel
theorem dX2_init_51 : decode cX2_init 51 = .ok (.iload_n 2, 1) := by decide +kernel
theorem dX2_init_52 : decode cX2_init 52 = .ok (.aload_n 1, 1) := by decide +kernel
theorem dX2_init_53 : decode cX2_init 53 = .ok (.aastore, 1) := by decide +kernel
theorem dX2_init_54 : decode cX2_init 54 = .ok (.iinc 2 1, 3) := by decide +kernel
theorem dX2_init_57 : decode cX2_init 57 = .ok (.goto (-16), 3) := by decide +kernel
theorem dX2_init_60 : decode cX2_init 60 = .ok (.return_, 1) := by decide +kernel
theorem dX2_pick_0 : decode cX2_pick 0 = .ok (.aload_n 0, 1) := by decide +kernel
theorem dX2_pick_1 : decode cX2_pick 1 = .ok (.iconst 0, 1) := by decide +kernel
theorem dX2_pick_2 : decode cX2_pick 2 = .ok (.putfield 28, 3) := by decide +kernel
theorem dX2_pick_5 : decode cX2_pick 5 = .ok (.iconst 0, 1) := by decide +kernel
theorem dX2_pick_6 : decode cX2_pick 6 = .ok (.istore 4, 2) := by decide +kernel
theorem dX2_pick_8 : decode cX2_pick 8 = .ok (.iload 4, 2) := by decide +kernel
theorem dX2_pick_10 : decode cX2_pick 10 = .ok (.bipush 12, 2) := by decide +kernel
theorem dX2_pick_12 : decode cX2_pick 12 = .ok (.if_icmp .ge 91, 3) := by decide +kernel
theorem dX2_pick_15 : decode cX2_pick 15 = .ok (.aload_n 0, 1) := by decide +kernel
theorem dX2_pick_16 : decode cX2_pick 16 = .ok (.getfield 28, 3) := by decide +kernel
theorem dX2_pick_19 : decode cX2_pick 19 = .ok (.aload_n 0, 1) := by decide +kernel
theorem dX2_pick_20 : decode cX2_pick 20 = .ok (.getfield 21, 3) := by decide +kernel
theorem dX2_pick_23 : decode cX2_pick 23 = .ok (.arraylength, 1) := by decide +kernel
theorem dX2_pick_24 : decode cX2_pick 24 = .ok (.if_icmp .ge 79, 3) := by decide +kernel
theorem dX2_pick_27 : decode cX2_pick 27 = .ok (.iload_n 1, 1) := by decide +kernel
theorem dX2_pick_28 : decode cX2_pick 28 = .ok (.bipush 12, 2) := by decide +kernel
theorem dX2_pick_30 : decode cX2_pick 30 = .ok (.imul, 1) := by decide +kernel
theorem dX2_pick_31 : decode cX2_pick 31 = .ok (.iload 4, 2) := by decide +kernel
theorem dX2_pick_33 : decode cX2_pick 33 = .ok (.iadd, 1) := by decide +kernel
theorem dX2_pick_34 : decode cX2_pick 34 = .ok (.istore 5, 2) := by decide +kernel
theorem dX2_pick_36 : decode cX2_pick 36 = .ok (.aload_n 0, 1) := by decide +kernel
theorem dX2_pick_37 : decode cX2_pick 37 = .ok (.iload 5, 2) := by decide +kernel
theorem dX2_pick_39 : decode cX2_pick 39 = .ok (.invokevirtual 31, 3) := by decide +kernel
theorem dX2_pick_42 : decode cX2_pick 42 = .ok (.astore 6, 2) := by decide +kernel
theorem dX2_pick_44 : decode cX2_pick 44 = .ok (.aload 6, 2) := by decide +kernel
theorem dX2_pick_46 : decode cX2_pick 46 = .ok (.ifnull 51, 3) := by decide +kernel
theorem dX2_pick_49 : decode cX2_pick 49 = .ok (.aload 6, 2) := by decide +kernel
theorem dX2_pick_51 : decode cX2_pick 51 = .ok (.getfield 35, 3) := by decide +kernel
theorem dX2_pick_54 : decode cX2_pick 54 = .ok (.iload_n 2, 1) := by decide +kernel
theorem dX2_pick_55 : decode cX2_pick 55 = .ok (.if_icmp .ne 42, 3) := by decide +kernel
theorem dX2_pick_58 : decode cX2_pick 58 = .ok (.aload 6, 2) := by decide +kernel
theorem dX2_pick_60 : decode cX2_pick 60 = .ok (.getfield 38, 3) := by decide +kernel
theorem dX2_pick_63 : decode cX2_pick 63 = .ok (.iconst 3, 1) := by decide +kernel
theorem dX2_pick_64 : decode cX2_pick 64 = .ok (.if_icmp .ne 7, 3) := by decide +kernel
theorem dX2_pick_67 : decode cX2_pick 67 = .ok (.iconst 1, 1) := by decide +kernel
theorem dX2_pick_68 : decode cX2_pick 68 = .ok (.goto 4, 3) := by decide +kernel
theorem dX2_pick_71 : decode cX2_pick 71 = .ok (.iconst 0, 1) := by decide +kernel
theorem dX2_pick_72 : decode cX2_pick 72 = .ok (.iload_n 3, 1) := by decide +kernel
theorem dX2_pick_73 : decode cX2_pick 73 = .ok (.if_icmp .ne 24, 3) := by decide +kernel
theorem dX2_pick_76 : decode cX2_pick 76 = .ok (.aload_n 0, 1) := by decide +kernel
theorem dX2_pick_77 : decode cX2_pick 77 = .ok (.getfield 21, 3) := by decide +kernel
theorem dX2_pick_80 : decode cX2_pick 80 = .ok (.aload_n 0, 1) := by decide +kernel
theorem dX2_pick_81 : decode cX2_pick 81 = .ok (.getfield 28, 3) := by decide +kernel
theorem dX2_pick_84 : decode cX2_pick 84 = .ok (.iload 5, 2) := by decide +kernel
theorem dX2_pick_86 : decode cX2_pick 86 = .ok (.iastore, 1) := by decide +kernel
theorem dX2_pick_87 : decode cX2_pick 87 = .ok (.aload_n 0, 1) := by decide +kernel
theorem dX2_pick_88 : decode cX2_pick 88 = .ok (.dup, 1) := by decide +kernel
theorem dX2_pick_89 : decode cX2_pick 89 = .ok (.getfield 28, 3) := by decide +kernel
theorem dX2_pick_92 : decode cX2_pick 92 = .ok (.iconst 1, 1) := by decide +kernel
theorem dX2_pick_93 : decode cX2_pick 93 = .ok (.iadd, 1) := by decide +kernel
theorem dX2_pick_94 : decode cX2_pick 94 = .ok (.putfield 28, 3) := by decide +kernel
theorem dX2_pick_97 : decode cX2_pick 97 = .ok (.iinc 4 1, 3) := by decide +kernel
theorem dX2_pick_100 : decode cX2_pick 100 = .ok (.goto (-92), 3) := by decide +kernel
theorem dX2_pick_103 : decode cX2_pick 103 = .ok (.return_, 1) := by decide +kernel
theorem dX2_bringPicked_0 : decode cX2_bringPicked 0 = .ok (.iload_n 1, 1) := by decide +kernel
theorem dX2_bringPicked_1 : decode cX2_bringPicked 1 = .ok (.iconst 0, 1) := by decide +kernel
theorem dX2_bringPicked_2 : decode cX2_bringPicked 2 = .ok (.invokestatic 41, 3) := by decide +kernel
theorem dX2_bringPicked_5 : decode cX2_bringPicked 5 = .ok (.istore 6, 2) := by decide +kernel
theorem dX2_bringPicked_7 : decode cX2_bringPicked 7 = .ok (.iload 6, 2) := by decide +kernel
theorem dX2_bringPicked_9 : decode cX2_bringPicked 9 = .ok (.iload_n 2, 1) := by decide +kernel
theorem dX2_bringPicked_10 : decode cX2_bringPicked 10 = .ok (.if_icmp .ge 90, 3) := by decide +kernel
theorem dX2_bringPicked_13 : decode cX2_bringPicked 13 = .ok (.iload 6, 2) := by decide +kernel
theorem dX2_bringPicked_15 : decode cX2_bringPicked 15 = .ok (.aload_n 0, 1) := by decide +kernel
theorem dX2_bringPicked_16 : decode cX2_bringPicked 16 = .ok (.getfield 28, 3) := by decide +kernel
theorem dX2_bringPicked_19 : decode cX2_bringPicked 19 = .ok (.if_icmp .ge 81, 3) := by decide +kernel
theorem dX2_bringPicked_22 : decode cX2_bringPicked 22 = .ok (.iload 6, 2) := by decide +kernel
theorem dX2_bringPicked_24 : decode cX2_bringPicked 24 = .ok (.aload_n 0, 1) := by decide +kernel
theorem dX2_bringPicked_25 : decode cX2_bringPicked 25 = .ok (.getfield 21, 3) := by decide +kernel
theorem dX2_bringPicked_28 : decode cX2_bringPicked 28 = .ok (.arraylength, 1) := by decide +kernel
theorem dX2_bringPicked_29 : decode cX2_bringPicked 29 = .ok (.if_icmp .ge 71, 3) := by decide +kernel
theorem dX2_bringPicked_32 : decode cX2_bringPicked 32 = .ok (.aload_n 0, 1) := by decide +kernel
theorem dX2_bringPicked_33 : decode cX2_bringPicked 33 = .ok (.getfield 21, 3) := by decide +kernel
theorem dX2_bringPicked_36 : decode cX2_bringPicked 36 = .ok (.iload 6, 2) := by decide +kernel
theorem dX2_bringPicked_38 : decode cX2_bringPicked 38 = .ok (.iaload, 1) := by decide +kernel
theorem dX2_bringPicked_39 : decode cX2_bringPicked 39 = .ok (.istore 7, 2) := by decide +kernel
theorem dX2_bringPicked_41 : decode cX2_bringPicked 41 = .ok (.aload_n 0, 1) := by decide +kernel
theorem dX2_bringPicked_42 : decode cX2_bringPicked 42 = .ok (.iload 7, 2) := by decide +kernel
theorem dX2_bringPicked_44 : decode cX2_bringPicked 44 = .ok (.invokevirtual 31, 3) := by decide +kernel
theorem dX2_bringPicked_47 : decode cX2_bringPicked 47 = .ok (.astore 8, 2) := by decide +kernel
theorem dX2_bringPicked_49 : decode cX2_bringPicked 49 = .ok (.aload 8, 2) := by decide +kernel
theorem dX2_bringPicked_51 : decode cX2_bringPicked 51 = .ok (.ifnull 43, 3) := by decide +kernel
theorem dX2_bringPicked_54 : decode cX2_bringPicked 54 = .ok (.aload_n 0, 1) := by decide +kernel
theorem dX2_bringPicked_55 : decode cX2_bringPicked 55 = .ok (.getfield 17, 3) := by decide +kernel
theorem dX2_bringPicked_58 : decode cX2_bringPicked 58 = .ok (.ldc 47, 2) := by decide +kernel
theorem dX2_bringPicked_60 : decode cX2_bringPicked 60 = .ok (.if_icmp .ge 34, 3) := by decide +kernel
theorem dX2_bringPicked_63 : decode cX2_bringPicked 63 = .ok (.aload_n 0, 1) := by decide +kernel
theorem dX2_bringPicked_64 : decode cX2_bringPicked 64 = .ok (.getfield 11, 3) := by decide +kernel
theorem dX2_bringPicked_67 : decode cX2_bringPicked 67 = .ok (.iload 7, 2) := by decide +kernel
theorem dX2_bringPicked_69 : decode cX2_bringPicked 69 = .ok (.new 9, 3) := by decide +kernel
theorem dX2_bringPicked_72 : decode cX2_bringPicked 72 = .ok (.dup, 1) := by decide +kernel
theorem dX2_bringPicked_73 : decode cX2_bringPicked 73 = .ok (.iload_n 3, 1) := by decide +kernel
theorem dX2_bringPicked_74 : decode cX2_bringPicked 74 = .ok (.iload 4, 2) := by decide +kernel
theorem dX2_bringPicked_76 : decode cX2_bringPicked 76 = .ok (.iload 5, 2) := by decide +kernel
theorem dX2_bringPicked_78 : decode cX2_bringPicked 78 = .ok (.aload 8, 2) := by decide +kernel
theorem dX2_bringPicked_80 : decode cX2_bringPicked 80 = .ok (.invokespecial 25, 3) := by decide +kernel
theorem dX2_bringPicked_83 : decode cX2_bringPicked 83 = .ok (.aastore, 1) := by decide +kernel
theorem dX2_bringPicked_84 : decode cX2_bringPicked 84 = .ok (.aload_n 0, 1) := by decide +kernel
theorem dX2_bringPicked_85 : decode cX2_bringPicked 85 = .ok (.dup, 1) := by decide +kernel
theorem dX2_bringPicked_86 : decode cX2_bringPicked 86 = .ok (.getfield 17, 3) := by decide +kernel
theorem dX2_bringPicked_89 : decode cX2_bringPicked 89 = .ok (.iconst 1, 1) := by decide +kernel
theorem dX2_bringPicked_90 : decode cX2_bringPicked 90 = .ok (.iadd, 1) := by decide +kernel
theorem dX2_bringPicked_91 : decode cX2_bringPicked 91 = .ok (.putfield 17, 3) := by decide +kernel
theorem dX2_bringPicked_94 : decode cX2_bringPicked 94 = .ok (.iinc 6 1, 3) := by decide +kernel
theorem dX2_bringPicked_97 : decode cX2_bringPicked 97 = .ok (.goto (-90), 3) := by decide +kernel
theorem dX2_bringPicked_100 : decode cX2_bringPicked 100 = .ok (.return_, 1) := by decide +kernel
theorem dX2_giverOf_0 : decode cX2_giverOf 0 = .ok (.aload_n 0, 1) := by decide +kernel
theorem dX2_giverOf_1 : decode cX2_giverOf 1 = .ok (.iload_n 1, 1) := by decide +kernel
theorem dX2_giverOf_2 : decode cX2_giverOf 2 = .ok (.invokevirtual 31, 3) := by decide +kernel
theorem dX2_giverOf_5 : decode cX2_giverOf 5 = .ok (.astore_n 2, 1) := by decide +kernel
theorem dX2_giverOf_6 : decode cX2_giverOf 6 = .ok (.aload_n 2, 1) := by decide +kernel
theorem dX2_giverOf_7 : decode cX2_giverOf 7 = .ok (.ifnull 10, 3) := by decide +kernel
theorem dX2_giverOf_10 : decode cX2_giverOf 10 = .ok (.aload_n 2, 1) := by decide +kernel
theorem dX2_giverOf_11 : decode cX2_giverOf 11 = .ok (.getfield 48, 3) := by decide +kernel
theorem dX2_giverOf_14 : decode cX2_giverOf 14 = .ok (.ifnonnull 7, 3) := by decide +kernel
theorem dX2_giverOf_17 : decode cX2_giverOf 17 = .ok (.iconst (-1), 1) := by decide +kernel
theorem dX2_giverOf_18 : decode cX2_giverOf 18 = .ok (.goto 10, 3) := by decide +kernel
theorem dX2_giverOf_21 : decode cX2_giverOf 21 = .ok (.aload_n 2, 1) := by decide +kernel
theorem dX2_giverOf_22 : decode cX2_giverOf 22 = .ok (.getfield 48, 3) := by decide +kernel
theorem dX2_giverOf_25 : decode cX2_giverOf 25 = .ok (.getfield 35, 3) := by decide +kernel
theorem dX2_giverOf_28 : decode cX2_giverOf 28 = .ok (.ireturn, 1) := by decide +kernel
theorem dX2_onDay_0 : decode cX2_onDay 0 = .ok (.aload_n 0, 1) := by decide +kernel
theorem dX2_onDay_1 : decode cX2_onDay 1 = .ok (.iload_n 1, 1) := by decide +kernel
theorem dX2_onDay_2 : decode cX2_onDay 2 = .ok (.invokevirtual 31, 3) := by decide +kernel
theorem dX2_onDay_5 : decode cX2_onDay 5 = .ok (.astore_n 3, 1) := by decide +kernel
theorem dX2_onDay_6 : decode cX2_onDay 6 = .ok (.aload_n 3, 1) := by decide +kernel
theorem dX2_onDay_7 : decode cX2_onDay 7 = .ok (.ifnull 19, 3) := by decide +kernel
theorem dX2_onDay_10 : decode cX2_onDay 10 = .ok (.aload_n 3, 1) := by decide +kernel
theorem dX2_onDay_11 : decode cX2_onDay 11 = .ok (.getfield 52, 3) := by decide +kernel
theorem dX2_onDay_14 : decode cX2_onDay 14 = .ok (.iload_n 2, 1) := by decide +kernel
theorem dX2_onDay_15 : decode cX2_onDay 15 = .ok (.if_icmp .le 11, 3) := by decide +kernel
theorem dX2_onDay_18 : decode cX2_onDay 18 = .ok (.aload_n 3, 1) := by decide +kernel
theorem dX2_onDay_19 : decode cX2_onDay 19 = .ok (.getfield 48, 3) := by decide +kernel
theorem dX2_onDay_22 : decode cX2_onDay 22 = .ok (.astore_n 3, 1) := by decide +kernel
theorem dX2_onDay_23 : decode cX2_onDay 23 = .ok (.goto (-17), 3) := by decide +kernel
theorem dX2_onDay_26 : decode cX2_onDay 26 = .ok (.aload_n 3, 1) := by decide +kernel
theorem dX2_onDay_27 : decode cX2_onDay 27 = .ok (.areturn, 1) := by decide +kernel
theorem dX2_stepsAhead_0 : decode cX2_stepsAhead 0 = .ok (.aload_n 0, 1) := by decide +kernel
theorem dX2_stepsAhead_1 : decode cX2_stepsAhead 1 = .ok (.astore_n 2, 1) := by decide +kernel
theorem dX2_stepsAhead_2 : decode cX2_stepsAhead 2 = .ok (.iconst 0, 1) := by decide +kernel
theorem dX2_stepsAhead_3 : decode cX2_stepsAhead 3 = .ok (.istore_n 3, 1) := by decide +kernel
theorem dX2_stepsAhead_4 : decode cX2_stepsAhead 4 = .ok (.iload_n 3, 1) := by decide +kernel
theorem dX2_stepsAhead_5 : decode cX2_stepsAhead 5 = .ok (.iload_n 1, 1) := by decide +kernel
theorem dX2_stepsAhead_6 : decode cX2_stepsAhead 6 = .ok (.if_icmp .ge 18, 3) := by decide +kernel
theorem dX2_stepsAhead_9 : decode cX2_stepsAhead 9 = .ok (.aload_n 2, 1) := by decide +kernel
theorem dX2_stepsAhead_10 : decode cX2_stepsAhead 10 = .ok (.ifnull 14, 3) := by decide +kernel
theorem dX2_stepsAhead_13 : decode cX2_stepsAhead 13 = .ok (.aload_n 2, 1) := by decide +kernel
theorem dX2_stepsAhead_14 : decode cX2_stepsAhead 14 = .ok (.getfield 48, 3) := by decide +kernel
theorem dX2_stepsAhead_17 : decode cX2_stepsAhead 17 = .ok (.astore_n 2, 1) := by decide +kernel
theorem dX2_stepsAhead_18 : decode cX2_stepsAhead 18 = .ok (.iinc 3 1, 3) := by decide +kernel
theorem dX2_stepsAhead_21 : decode cX2_stepsAhead 21 = .ok (.goto (-17), 3) := by decide +kernel
theorem dX2_stepsAhead_24 : decode cX2_stepsAhead 24 = .ok (.aload_n 2, 1) := by decide +kernel
theorem dX2_stepsAhead_25 : decode cX2_stepsAhead 25 = .ok (.areturn, 1) := by decide +kernel
theorem dX2_heldBy_0 : decode cX2_heldBy 0 = .ok (.iconst 0, 1) := by decide +kernel
theorem dX2_heldBy_1 : decode cX2_heldBy 1 = .ok (.istore_n 2, 1) := by decide +kernel
theorem dX2_heldBy_2 : decode cX2_heldBy 2 = .ok (.iconst 0, 1) := by decide +kernel
theorem dX2_heldBy_3 : decode cX2_heldBy 3 = .ok (.istore_n 3, 1) := by decide +kernel
theorem dX2_heldBy_4 : decode cX2_heldBy 4 = .ok (.iload_n 3, 1) := by decide +kernel
theorem dX2_heldBy_5 : decode cX2_heldBy 5 = .ok (.bipush 120, 2) := by decide +kernel
theorem dX2_heldBy_7 : decode cX2_heldBy 7 = .ok (.if_icmp .ge 38, 3) := by decide +kernel
theorem dX2_heldBy_10 : decode cX2_heldBy 10 = .ok (.aload_n 0, 1) := by decide +kernel
theorem dX2_heldBy_11 : decode cX2_heldBy 11 = .ok (.iload_n 3, 1) := by decide +kernel
theorem dX2_heldBy_12 : decode cX2_heldBy 12 = .ok (.invokevirtual 31, 3) := by decide +kernel
theorem dX2_heldBy_15 : decode cX2_heldBy 15 = .ok (.astore 4, 2) := by decide +kernel
theorem dX2_heldBy_17 : decode cX2_heldBy 17 = .ok (.iload_n 2, 1) := by decide +kernel
theorem dX2_heldBy_18 : decode cX2_heldBy 18 = .ok (.aload 4, 2) := by decide +kernel
theorem dX2_heldBy_20 : decode cX2_heldBy 20 = .ok (.ifnull 16, 3) := by decide +kernel
theorem dX2_heldBy_23 : decode cX2_heldBy 23 = .ok (.aload 4, 2) := by decide +kernel
theorem dX2_heldBy_25 : decode cX2_heldBy 25 = .ok (.getfield 35, 3) := by decide +kernel
theorem dX2_heldBy_28 : decode cX2_heldBy 28 = .ok (.iload_n 1, 1) := by decide +kernel
theorem dX2_heldBy_29 : decode cX2_heldBy 29 = .ok (.if_icmp .ne 7, 3) := by decide +kernel
theorem dX2_heldBy_32 : decode cX2_heldBy 32 = .ok (.iconst 1, 1) := by decide +kernel
theorem dX2_heldBy_33 : decode cX2_heldBy 33 = .ok (.goto 4, 3) := by decide +kernel
theorem dX2_heldBy_36 : decode cX2_heldBy 36 = .ok (.iconst 0, 1) := by decide +kernel
theorem dX2_heldBy_37 : decode cX2_heldBy 37 = .ok (.iadd, 1) := by decide +kernel
theorem dX2_heldBy_38 : decode cX2_heldBy 38 = .ok (.istore_n 2, 1) := by decide +kernel
theorem dX2_heldBy_39 : decode cX2_heldBy 39 = .ok (.iinc 3 1, 3) := by decide +kernel
theorem dX2_heldBy_42 : decode cX2_heldBy 42 = .ok (.goto (-38), 3) := by decide +kernel
theorem dX2_heldBy_45 : decode cX2_heldBy 45 = .ok (.iload_n 2, 1) := by decide +kernel
theorem dX2_heldBy_46 : decode cX2_heldBy 46 = .ok (.ireturn, 1) := by decide +kernel
theorem dX2_partsOf_0 : decode cX2_partsOf 0 = .ok (.iconst 0, 1) := by decide +kernel
theorem dX2_partsOf_1 : decode cX2_partsOf 1 = .ok (.istore_n 2, 1) := by decide +kernel
theorem dX2_partsOf_2 : decode cX2_partsOf 2 = .ok (.iconst 0, 1) := by decide +kernel
theorem dX2_partsOf_3 : decode cX2_partsOf 3 = .ok (.istore_n 3, 1) := by decide +kernel
theorem dX2_partsOf_4 : decode cX2_partsOf 4 = .ok (.iload_n 3, 1) := by decide +kernel
theorem dX2_partsOf_5 : decode cX2_partsOf 5 = .ok (.bipush 120, 2) := by decide +kernel
theorem dX2_partsOf_7 : decode cX2_partsOf 7 = .ok (.if_icmp .ge 47, 3) := by decide +kernel
theorem dX2_partsOf_10 : decode cX2_partsOf 10 = .ok (.aload_n 0, 1) := by decide +kernel
theorem dX2_partsOf_11 : decode cX2_partsOf 11 = .ok (.iload_n 3, 1) := by decide +kernel
theorem dX2_partsOf_12 : decode cX2_partsOf 12 = .ok (.invokevirtual 31, 3) := by decide +kernel
theorem dX2_partsOf_15 : decode cX2_partsOf 15 = .ok (.astore 4, 2) := by decide +kernel
theorem dX2_partsOf_17 : decode cX2_partsOf 17 = .ok (.iload_n 2, 1) := by decide +kernel
theorem dX2_partsOf_18 : decode cX2_partsOf 18 = .ok (.aload 4, 2) := by decide +kernel
theorem dX2_partsOf_20 : decode cX2_partsOf 20 = .ok (.ifnull 25, 3) := by decide +kernel
theorem dX2_partsOf_23 : decode cX2_partsOf 23 = .ok (.aload 4, 2) := by decide +kernel
theorem dX2_partsOf_25 : decode cX2_partsOf 25 = .ok (.getfield 35, 3) := by decide +kernel
theorem dX2_partsOf_28 : decode cX2_partsOf 28 = .ok (.iload_n 1, 1) := by decide +kernel
theorem dX2_partsOf_29 : decode cX2_partsOf 29 = .ok (.if_icmp .ne 16, 3) := by decide +kernel
theorem dX2_partsOf_32 : decode cX2_partsOf 32 = .ok (.aload 4, 2) := by decide +kernel
theorem dX2_partsOf_34 : decode cX2_partsOf 34 = .ok (.getfield 38, 3) := by decide +kernel
theorem dX2_partsOf_37 : decode cX2_partsOf 37 = .ok (.iconst 3, 1) := by decide +kernel
theorem dX2_partsOf_38 : decode cX2_partsOf 38 = .ok (.if_icmp .ne 7, 3) := by decide +kernel
theorem dX2_partsOf_41 : decode cX2_partsOf 41 = .ok (.iconst 1, 1) := by decide +kernel
theorem dX2_partsOf_42 : decode cX2_partsOf 42 = .ok (.goto 4, 3) := by decide +kernel
theorem dX2_partsOf_45 : decode cX2_partsOf 45 = .ok (.iconst 0, 1) := by decide +kernel
theorem dX2_partsOf_46 : decode cX2_partsOf 46 = .ok (.iadd, 1) := by decide +kernel
theorem dX2_partsOf_47 : decode cX2_partsOf 47 = .ok (.istore_n 2, 1) := by decide +kernel
theorem dX2_partsOf_48 : decode cX2_partsOf 48 = .ok (.iinc 3 1, 3) := by decide +kernel
theorem dX2_partsOf_51 : decode cX2_partsOf 51 = .ok (.goto (-47), 3) := by decide +kernel
theorem dX2_partsOf_54 : decode cX2_partsOf 54 = .ok (.iload_n 2, 1) := by decide +kernel
theorem dX2_partsOf_55 : decode cX2_partsOf 55 = .ok (.ireturn, 1) := by decide +kernel
theorem dX2_find_0 : decode cX2_find 0 = .ok (.iload_n 1, 1) := by decide +kernel
theorem dX2_find_1 : decode cX2_find 1 = .ok (.ifCond .lt 21, 3) := by decide +kernel
theorem dX2_find_4 : decode cX2_find 4 = .ok (.iload_n 1, 1) := by decide +kernel
theorem dX2_find_5 : decode cX2_find 5 = .ok (.aload_n 0, 1) := by decide +kernel
theorem dX2_find_6 : decode cX2_find 6 = .ok (.getfield 11, 3) := by decide +kernel
theorem dX2_find_9 : decode cX2_find 9 = .ok (.arraylength, 1) := by decide +kernel
theorem dX2_find_10 : decode cX2_find 10 = .ok (.if_icmp .ge 12, 3) := by decide +kernel
theorem dX2_find_13 : decode cX2_find 13 = .ok (.aload_n 0, 1) := by decide +kernel
theorem dX2_find_14 : decode cX2_find 14 = .ok (.getfield 11, 3) := by decide +kernel
theorem dX2_find_17 : decode cX2_find 17 = .ok (.iload_n 1, 1) := by decide +kernel
theorem dX2_find_18 : decode cX2_find 18 = .ok (.aaload, 1) := by decide +kernel
theorem dX2_find_19 : decode cX2_find 19 = .ok (.goto 4, 3) := by decide +kernel
theorem dX2_find_22 : decode cX2_find 22 = .ok (.aconst_null, 1) := by decide +kernel
theorem dX2_find_23 : decode cX2_find 23 = .ok (.areturn, 1) := by decide +kernel
theorem dX3_init_0 : decode cX3_init 0 = .ok (.aload_n 0, 1) := by decide +kernel
theorem dX3_init_1 : decode cX3_init 1 = .ok (.invokespecial 3, 3) := by decide +kernel
theorem dX3_init_4 : decode cX3_init 4 = .ok (.aload_n 0, 1) := by decide +kernel
theorem dX3_init_5 : decode cX3_init 5 = .ok (.bipush 60, 2) := by decide +kernel
theorem dX3_init_7 : decode cX3_init 7 = .ok (.anewarray 9, 3) := by decide +kernel
theorem dX3_init_10 : decode cX3_init 10 = .ok (.putfield 11, 3) := by decide +kernel
theorem dX3_init_13 : decode cX3_init 13 = .ok (.return_, 1) := by decide +kernel
theorem dX3_find_0 : decode cX3_find 0 = .ok (.iload_n 1, 1) := by decide +kernel
theorem dX3_find_1 : decode cX3_find 1 = .ok (.ifCond .lt 29, 3) := by decide +kernel
theorem dX3_find_4 : decode cX3_find 4 = .ok (.iload_n 1, 1) := by decide +kernel
theorem dX3_find_5 : decode cX3_find 5 = .ok (.aload_n 0, 1) := by decide +kernel
theorem dX3_find_6 : decode cX3_find 6 = .ok (.getfield 17, 3) := by decide +kernel
theorem dX3_find_9 : decode cX3_find 9 = .ok (.if_icmp .ge 21, 3) := by decide +kernel
theorem dX3_find_12 : decode cX3_find 12 = .ok (.iload_n 1, 1) := by decide +kernel
theorem dX3_find_13 : decode cX3_find 13 = .ok (.aload_n 0, 1) := by decide +kernel
theorem dX3_find_14 : decode cX3_find 14 = .ok (.getfield 11, 3) := by decide +kernel
theorem dX3_find_17 : decode cX3_find 17 = .ok (.arraylength, 1) := by decide +kernel
theorem dX3_find_18 : decode cX3_find 18 = .ok (.if_icmp .ge 12, 3) := by decide +kernel
theorem dX3_find_21 : decode cX3_find 21 = .ok (.aload_n 0, 1) := by decide +kernel
theorem dX3_find_22 : decode cX3_find 22 = .ok (.getfield 11, 3) := by decide +kernel
theorem dX3_find_25 : decode cX3_find 25 = .ok (.iload_n 1, 1) := by decide +kernel
theorem dX3_find_26 : decode cX3_find 26 = .ok (.aaload, 1) := by decide +kernel
theorem dX3_find_27 : decode cX3_find 27 = .ok (.goto 4, 3) := by decide +kernel
theorem dX3_find_30 : decode cX3_find 30 = .ok (.aconst_null, 1) := by decide +kernel
theorem dX3_find_31 : decode cX3_find 31 = .ok (.areturn, 1) := by decide +kernel
theorem dX3_findAlive_0 : decode cX3_findAlive 0 = .ok (.aload_n 0, 1) := by decide +kernel
theorem dX3_findAlive_1 : decode cX3_findAlive 1 = .ok (.iload_n 1, 1) := by decide +kernel
theorem dX3_findAlive_2 : decode cX3_findAlive 2 = .ok (.invokevirtual 21, 3) := by decide +kernel
theorem dX3_findAlive_5 : decode cX3_findAlive 5 = .ok (.astore_n 2, 1) := by decide +kernel
theorem dX3_findAlive_6 : decode cX3_findAlive 6 = .ok (.aload_n 2, 1) := by decide +kernel
theorem dX3_findAlive_7 : decode cX3_findAlive 7 = .ok (.ifnull 14, 3) := by decide +kernel
theorem dX3_findAlive_10 : decode cX3_findAlive 10 = .ok (.aload_n 2, 1) := by decide +kernel
theorem dX3_findAlive_11 : decode cX3_findAlive 11 = .ok (.getfield 25, 3) := by decide +kernel
theorem dX3_findAlive_14 : decode cX3_findAlive 14 = .ok (.ifCond .eq 7, 3) := by decide +kernel
theorem dX3_findAlive_17 : decode cX3_findAlive 17 = .ok (.aload_n 2, 1) := by decide +kernel
theorem dX3_findAlive_18 : decode cX3_findAlive 18 = .ok (.goto 4, 3) := by decide +kernel
theorem dX3_findAlive_21 : decode cX3_findAlive 21 = .ok (.aconst_null, 1) := by decide +kernel
theorem dX3_findAlive_22 : decode cX3_findAlive 22 = .ok (.areturn, 1) := by decide +kernel
theorem dX3_mayBeParent_0 : decode cX3_mayBeParent 0 = .ok (.aload_n 0, 1) := by decide +kernel
theorem dX3_mayBeParent_1 : decode cX3_mayBeParent 1 = .ok (.iload_n 1, 1) := by decide +kernel
theorem dX3_mayBeParent_2 : decode cX3_mayBeParent 2 = .ok (.invokevirtual 21, 3) := by decide +kernel
theorem dX3_mayBeParent_5 : decode cX3_mayBeParent 5 = .ok (.astore_n 3, 1) := by decide +kernel
theorem dX3_mayBeParent_6 : decode cX3_mayBeParent 6 = .ok (.iload_n 1, 1) := by decide +kernel
theorem dX3_mayBeParent_7 : decode cX3_mayBeParent 7 = .ok (.iconst (-1), 1) := by decide +kernel
theorem dX3_mayBeParent_8 : decode cX3_mayBeParent 8 = .ok (.if_icmp .eq 15, 3) := by decide +kernel
theorem dX3_mayBeParent_11 : decode cX3_mayBeParent 11 = .ok (.aload_n 3, 1) := by decide +kernel
theorem dX3_mayBeParent_12 : decode cX3_mayBeParent 12 = .ok (.ifnull 15, 3) := by decide +kernel
theorem dX3_mayBeParent_15 : decode cX3_mayBeParent 15 = .ok (.aload_n 3, 1) := by decide +kernel
theorem dX3_mayBeParent_16 : decode cX3_mayBeParent 16 = .ok (.getfield 29, 3) := by decide +kernel
theorem dX3_mayBeParent_19 : decode cX3_mayBeParent 19 = .ok (.iload_n 2, 1) := by decide +kernel
theorem dX3_mayBeParent_20 : decode cX3_mayBeParent 20 = .ok (.if_icmp .ne 7, 3) := by decide +kernel
theorem dX3_mayBeParent_23 : decode cX3_mayBeParent 23 = .ok (.iconst 1, 1) := by decide +kernel
theorem dX3_mayBeParent_24 : decode cX3_mayBeParent 24 = .ok (.goto 4, 3) := by decide +kernel
theorem dX3_mayBeParent_27 : decode cX3_mayBeParent 27 = .ok (.iconst 0, 1) := by decide +kernel
theorem dX3_mayBeParent_28 : decode cX3_mayBeParent 28 = .ok (.ireturn, 1) := by decide +kernel
theorem dX3_add_0 : decode cX3_add 0 = .ok (.aload_n 0, 1) := by decide +kernel
theorem dX3_add_1 : decode cX3_add 1 = .ok (.getfield 17, 3) := by decide +kernel
theorem dX3_add_4 : decode cX3_add 4 = .ok (.istore_n 2, 1) := by decide +kernel
theorem dX3_add_5 : decode cX3_add 5 = .ok (.iload_n 2, 1) := by decide +kernel
theorem dX3_add_6 : decode cX3_add 6 = .ok (.ifCond .lt 12, 3) := by decide +kernel
theorem dX3_add_9 : decode cX3_add 9 = .ok (.iload_n 2, 1) := by decide +kernel
theorem dX3_add_10 : decode cX3_add 10 = .ok (.aload_n 0, 1) := by decide +kernel
theorem dX3_add_11 : decode cX3_add 11 = .ok (.getfield 11, 3) := by decide +kernel
theorem dX3_add_14 : decode cX3_add 14 = .ok (.arraylength, 1) := by decide +kernel
theorem dX3_add_15 : decode cX3_add 15 = .ok (.if_icmp .lt 5, 3) := by decide +kernel
theorem dX3_add_18 : decode cX3_add 18 = .ok (.iconst (-1), 1) := by decide +kernel
theorem dX3_add_19 : decode cX3_add 19 = .ok (.ireturn, 1) := by decide +kernel
theorem dX3_add_20 : decode cX3_add 20 = .ok (.aload_n 0, 1) := by decide +kernel
theorem dX3_add_21 : decode cX3_add 21 = .ok (.getfield 11, 3) := by decide +kernel
theorem dX3_add_24 : decode cX3_add 24 = .ok (.iload_n 2, 1) := by decide +kernel
theorem dX3_add_25 : decode cX3_add 25 = .ok (.aload_n 1, 1) := by decide +kernel
theorem dX3_add_26 : decode cX3_add 26 = .ok (.aastore, 1) := by decide +kernel
theorem dX3_add_27 : decode cX3_add 27 = .ok (.aload_n 0, 1) := by decide +kernel
theorem dX3_add_28 : decode cX3_add 28 = .ok (.dup, 1) := by decide +kernel
theorem dX3_add_29 : decode cX3_add 29 = .ok (.getfield 17, 3) := by decide +kernel
theorem dX3_add_32 : decode cX3_add 32 = .ok (.iconst 1, 1) := by decide +kernel
theorem dX3_add_33 : decode cX3_add 33 = .ok (.iadd, 1) := by decide +kernel
theorem dX3_add_34 : decode cX3_add 34 = .ok (.putfield 17, 3) := by decide +kernel
theorem dX3_add_37 : decode cX3_add 37 = .ok (.aload_n 0, 1) := by decide +kernel
theorem dX3_add_38 : decode cX3_add 38 = .ok (.aload_n 1, 1) := by decide +kernel
theorem dX3_add_39 : decode cX3_add 39 = .ok (.getfield 32, 3) := by decide +kernel
theorem dX3_add_42 : decode cX3_add 42 = .ok (.iload_n 2, 1) := by decide +kernel
theorem dX3_add_43 : decode cX3_add 43 = .ok (.aload_n 1, 1) := by decide +kernel
theorem dX3_add_44 : decode cX3_add 44 = .ok (.getfield 29, 3) := by decide +kernel
theorem dX3_add_47 : decode cX3_add 47 = .ok (.invokevirtual 35, 3) := by decide +kernel
theorem dX3_add_50 : decode cX3_add 50 = .ok (.aload_n 0, 1) := by decide +kernel
theorem dX3_add_51 : decode cX3_add 51 = .ok (.aload_n 1, 1) := by decide +kernel
theorem dX3_add_52 : decode cX3_add 52 = .ok (.getfield 39, 3) := by decide +kernel
theorem dX3_add_55 : decode cX3_add 55 = .ok (.iload_n 2, 1) := by decide +kernel
theorem dX3_add_56 : decode cX3_add 56 = .ok (.aload_n 1, 1) := by decide +kernel
theorem dX3_add_57 : decode cX3_add 57 = .ok (.getfield 29, 3) := by decide +kernel
theorem dX3_add_60 : decode cX3_add 60 = .ok (.invokevirtual 35, 3) := by decide +kernel
theorem dX3_add_63 : decode cX3_add 63 = .ok (.iload_n 2, 1) := by decide +kernel
theorem dX3_add_64 : decode cX3_add 64 = .ok (.ireturn, 1) := by decide +kernel
theorem dX3_addChildTo_0 : decode cX3_addChildTo 0 = .ok (.aload_n 0, 1) := by decide +kernel
theorem dX3_addChildTo_1 : decode cX3_addChildTo 1 = .ok (.iload_n 1, 1) := by decide +kernel
theorem dX3_addChildTo_2 : decode cX3_addChildTo 2 = .ok (.invokevirtual 21, 3) := by decide +kernel
theorem dX3_addChildTo_5 : decode cX3_addChildTo 5 = .ok (.astore 4, 2) := by decide +kernel
theorem dX3_addChildTo_7 : decode cX3_addChildTo 7 = .ok (.aload 4, 2) := by decide +kernel
theorem dX3_addChildTo_9 : decode cX3_addChildTo 9 = .ok (.ifnull 10, 3) := by decide +kernel
theorem dX3_addChildTo_12 : decode cX3_addChildTo 12 = .ok (.aload 4, 2) := by decide +kernel
theorem dX3_addChildTo_14 : decode cX3_addChildTo 14 = .ok (.iload_n 2, 1) := by decide +kernel
theorem dX3_addChildTo_15 : decode cX3_addChildTo 15 = .ok (.iload_n 3, 1) := by decide +kernel
theorem dX3_addChildTo_16 : decode cX3_addChildTo 16 = .ok (.invokevirtual 42, 3) := by decide +kernel
theorem dX3_addChildTo_19 : decode cX3_addChildTo 19 = .ok (.return_, 1) := by decide +kernel
theorem dX3_owe_0 : decode cX3_owe 0 = .ok (.aload_n 0, 1) := by decide +kernel
theorem dX3_owe_1 : decode cX3_owe 1 = .ok (.iload_n 1, 1) := by decide +kernel
theorem dX3_owe_2 : decode cX3_owe 2 = .ok (.invokevirtual 21, 3) := by decide +kernel
theorem dX3_owe_5 : decode cX3_owe 5 = .ok (.astore_n 3, 1) := by decide +kernel
theorem dX3_owe_6 : decode cX3_owe 6 = .ok (.aload_n 3, 1) := by decide +kernel
theorem dX3_owe_7 : decode cX3_owe 7 = .ok (.ifnull 13, 3) := by decide +kernel
theorem dX3_owe_10 : decode cX3_owe 10 = .ok (.aload_n 3, 1) := by decide +kernel
theorem dX3_owe_11 : decode cX3_owe 11 = .ok (.dup, 1) := by decide +kernel
theorem dX3_owe_12 : decode cX3_owe 12 = .ok (.getfield 46, 3) := by decide +kernel
theorem dX3_owe_15 : decode cX3_owe 15 = .ok (.iload_n 2, 1) := by decide +kernel
theorem dX3_owe_16 : decode cX3_owe 16 = .ok (.iadd, 1) := by decide +kernel
theorem dX3_owe_17 : decode cX3_owe 17 = .ok (.putfield 46, 3) := by decide +kernel
theorem dX3_owe_20 : decode cX3_owe 20 = .ok (.return_, 1) := by decide +kernel
theorem dX3_allOwed_0 : decode cX3_allOwed 0 = .ok (.iconst 0, 1) := by decide +kernel
theorem dX3_allOwed_1 : decode cX3_allOwed 1 = .ok (.istore_n 1, 1) := by decide +kernel
theorem dX3_allOwed_2 : decode cX3_allOwed 2 = .ok (.iconst 0, 1) := by decide +kernel
theorem dX3_allOwed_3 : decode cX3_allOwed 3 = .ok (.istore_n 2, 1) := by decide +kernel
theorem dX3_allOwed_4 : decode cX3_allOwed 4 = .ok (.iload_n 2, 1) := by decide +kernel
theorem dX3_allOwed_5 : decode cX3_allOwed 5 = .ok (.aload_n 0, 1) := by decide +kernel
theorem dX3_allOwed_6 : decode cX3_allOwed 6 = .ok (.getfield 17, 3) := by decide +kernel
theorem dX3_allOwed_9 : decode cX3_allOwed 9 = .ok (.if_icmp .ge 30, 3) := by decide +kernel
theorem dX3_allOwed_12 : decode cX3_allOwed 12 = .ok (.aload_n 0, 1) := by decide +kernel
theorem dX3_allOwed_13 : decode cX3_allOwed 13 = .ok (.iload_n 2, 1) := by decide +kernel
theorem dX3_allOwed_14 : decode cX3_allOwed 14 = .ok (.invokevirtual 21, 3) := by decide +kernel
theorem dX3_allOwed_17 : decode cX3_allOwed 17 = .ok (.astore_n 3, 1) := by decide +kernel
theorem dX3_allOwed_18 : decode cX3_allOwed 18 = .ok (.iload_n 1, 1) := by decide +kernel
theorem dX3_allOwed_19 : decode cX3_allOwed 19 = .ok (.aload_n 3, 1) := by decide +kernel
theorem dX3_allOwed_20 : decode cX3_allOwed 20 = .ok (.ifnonnull 7, 3) := by decide +kernel
theorem dX3_allOwed_23 : decode cX3_allOwed 23 = .ok (.iconst 0, 1) := by decide +kernel
theorem dX3_allOwed_24 : decode cX3_allOwed 24 = .ok (.goto 7, 3) := by decide +kernel
theorem dX3_allOwed_27 : decode cX3_allOwed 27 = .ok (.aload_n 3, 1) := by decide +kernel
theorem dX3_allOwed_28 : decode cX3_allOwed 28 = .ok (.getfield 46, 3) := by decide +kernel
theorem dX3_allOwed_31 : decode cX3_allOwed 31 = .ok (.iadd, 1) := by decide +kernel
theorem dX3_allOwed_32 : decode cX3_allOwed 32 = .ok (.istore_n 1, 1) := by decide +kernel
theorem dX3_allOwed_33 : decode cX3_allOwed 33 = .ok (.iinc 2 1, 3) := by decide +kernel
theorem dX3_allOwed_36 : decode cX3_allOwed 36 = .ok (.goto (-32), 3) := by decide +kernel
theorem dX3_allOwed_39 : decode cX3_allOwed 39 = .ok (.iload_n 1, 1) := by decide +kernel
theorem dX3_allOwed_40 : decode cX3_allOwed 40 = .ok (.ireturn, 1) := by decide +kernel
