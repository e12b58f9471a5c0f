theorem dX2_init_0 : decode cX2_init 0 = .ok (.aload_n 0, 1) := by decide +kernel
theorem dX2_init_1 : decode cX2_init 1 = .ok (.invokespecial 1, 3) := by decide +kernel
theorem dX2_init_4 : decode cX2_init 4 = .ok (.aload_n 0, 1) := by decide +kernel
theorem dX2_init_5 : decode cX2_init 5 = .ok (.iload_n 1, 1) := by decide +kernel
theorem dX2_init_6 : decode cX2_init 6 = .ok (.putfield 7, 3) := by decide +kernel
theorem dX2_init_9 : decode cX2_init 9 = .ok (.aload_n 0, 1) := by decide +kernel
theorem dX2_init_10 : decode cX2_init 10 = .ok (.iconst 1, 1) := by decide +kernel
theorem dX2_init_11 : decode cX2_init 11 = .ok (.iconst 4, 1) := by decide +kernel
theorem dX2_init_12 : decode cX2_init 12 = .ok (.iload_n 2, 1) := by decide +kernel
theorem dX2_init_13 : decode cX2_init 13 = .ok (.invokestatic 13, 3) := by decide +kernel
theorem dX2_init_16 : decode cX2_init 16 = .ok (.invokestatic 19, 3) := by decide +kernel
theorem dX2_init_19 : decode cX2_init 19 = .ok (.putfield 22, 3) := by decide +kernel
theorem dX2_init_22 : decode cX2_init 22 = .ok (.aload_n 0, 1) := by decide +kernel
theorem dX2_init_23 : decode cX2_init 23 = .ok (.new 25, 3) := by decide +kernel
theorem dX2_init_26 : decode cX2_init 26 = .ok (.dup, 1) := by decide +kernel
theorem dX2_init_27 : decode cX2_init 27 = .ok (.invokespecial 27, 3) := by decide +kernel
theorem dX2_init_30 : decode cX2_init 30 = .ok (.putfield 28, 3) := by decide +kernel
theorem dX2_init_33 : decode cX2_init 33 = .ok (.aload_n 0, 1) := by decide +kernel
theorem dX2_init_34 : decode cX2_init 34 = .ok (.new 32, 3) := by decide +kernel
theorem dX2_init_37 : decode cX2_init 37 = .ok (.dup, 1) := by decide +kernel
theorem dX2_init_38 : decode cX2_init 38 = .ok (.aload_n 0, 1) := by decide +kernel
theorem dX2_init_39 : decode cX2_init 39 = .ok (.getfield 22, 3) := by decide +kernel
theorem dX2_init_42 : decode cX2_init 42 = .ok (.invokespecial 34, 3) := by decide +kernel
theorem dX2_init_45 : decode cX2_init 45 = .ok (.putfield 37, 3) := by decide +kernel
theorem dX2_init_48 : decode cX2_init 48 = .ok (.aload_n 0, 1) := by decide +kernel
theorem dX2_init_49 : decode cX2_init 49 = .ok (.iconst 4, 1) := by decide +kernel
theorem dX2_init_50 : decode cX2_init 50 = .ok (.anewarray 32, 3) := by decide +kernel
theorem dX2_init_53 : decode cX2_init 53 = .ok (.putfield 41, 3) := by decide +kernel
theorem dX2_init_56 : decode cX2_init 56 = .ok (.iconst 0, 1) := by decide +kernel
theorem dX2_init_57 : decode cX2_init 57 = .ok (.istore_n 3, 1) := by decide +kernel
theorem dX2_init_58 : decode cX2_init 58 = .ok (.iload_n 3, 1) := by decide +kernel
theorem dX2_init_59 : decode cX2_init 59 = .ok (.iconst 4, 1) := by decide +kernel
theorem dX2_init_60 : decode cX2_init 60 = .ok (.if_icmp .ge 26, 3) := by decide +kernel
theorem dX2_init_63 : decode cX2_init 63 = .ok (.aload_n 0, 1) := by decide +kernel
theorem dX2_init_64 : decode cX2_init 64 = .ok (.getfield 41, 3) := by decide +kernel
theorem dX2_init_67 : decode cX2_init 67 = .ok (.iload_n 3, 1) := by decide +kernel
theorem dX2_init_68 : decode cX2_init 68 = .ok (.new 32, 3) := by decide +kernel
theorem dX2_init_71 : decode cX2_init 71 = .ok (.dup, 1) := by decide +kernel
theorem dX2_init_72 : decode cX2_init 72 = .ok (.aload_n 0, 1) := by decide +kernel
theorem dX2_init_73 : decode cX2_init 73 = .ok (.getfield 22, 3) := by decide +kernel
theorem dX2_init_76 : decode cX2_init 76 = .ok (.invokespecial 34, 3) := by decide +kernel
theorem dX2_init_79 : decode cX2_init 79 = .ok (.aastore, 1) := by decide +kernel
theorem dX2_init_80 : decode cX2_init 80 = .ok (.iinc 3 1, 3) := by decide +kernel
theorem dX2_init_83 : decode cX2_init 83 = .ok (.goto (-25), 3) := by decide +kernel
theorem dX2_init_86 : decode cX2_init 86 = .ok (.aload_n 0, 1) := by decide +kernel
theorem dX2_init_87 : decode cX2_init 87 = .ok (.iconst 0, 1) := by decide +kernel
theorem dX2_init_88 : decode cX2_init 88 = .ok (.putfield 45, 3) := by decide +kernel
theorem dX2_init_91 : decode cX2_init 91 = .ok (.aload_n 0, 1) := by decide +kernel
theorem dX2_init_92 : decode cX2_init 92 = .ok (.iconst 0, 1) := by decide +kernel
theorem dX2_init_93 : decode cX2_init 93 = .ok (.putfield 48, 3) := by decide +kernel
theorem dX2_init_96 : decode cX2_init 96 = .ok (.aload_n 0, 1) := by decide +kernel
theorem dX2_init_97 : decode cX2_init 97 = .ok (.iconst 0, 1) := by decide +kernel
theorem dX2_init_98 : decode cX2_init 98 = .ok (.putfield 52, 3) := by decide +kernel
theorem dX2_init_101 : decode cX2_init 101 = .ok (.aload_n 0, 1) := by decide +kernel
theorem dX2_init_102 : decode cX2_init 102 = .ok (.iconst 1, 1) := by decide +kernel
theorem dX2_init_103 : decode cX2_init 103 = .ok (.putfield 55, 3) := by decide +kernel
theorem dX2_init_106 : decode cX2_init 106 = .ok (.return_, 1) := by decide +kernel
theorem dX1_init_0 : decode cX1_init 0 = .ok (.aload_n 0, 1) := by decide +kernel
theorem dX1_init_1 : decode cX1_init 1 = .ok (.invokespecial 3, 3) := by decide +kernel
theorem dX1_init_4 : decode cX1_init 4 = .ok (.aload_n 0, 1) := by decide +kernel
theorem dX1_init_5 : decode cX1_init 5 = .ok (.bipush 8, 2) := by decide +kernel
theorem dX1_init_7 : decode cX1_init 7 = .ok (.newarray .int, 2) := by decide +kernel
theorem dX1_init_9 : decode cX1_init 9 = .ok (.putfield 9, 3) := by decide +kernel
theorem dX1_init_12 : decode cX1_init 12 = .ok (.aload_n 0, 1) := by decide +kernel
theorem dX1_init_13 : decode cX1_init 13 = .ok (.bipush 8, 2) := by decide +kernel
theorem dX1_init_15 : decode cX1_init 15 = .ok (.newarray .int, 2) := by decide +kernel
theorem dX1_init_17 : decode cX1_init 17 = .ok (.putfield 15, 3) := by decide +kernel
theorem dX1_init_20 : decode cX1_init 20 = .ok (.aload_n 0, 1) := by decide +kernel
theorem dX1_init_21 : decode cX1_init 21 = .ok (.bipush 8, 2) := by decide +kernel
theorem dX1_init_23 : decode cX1_init 23 = .ok (.newarray .int, 2) := by decide +kernel
theorem dX1_init_25 : decode cX1_init 25 = .ok (.putfield 18, 3) := by decide +kernel
theorem dX1_init_28 : decode cX1_init 28 = .ok (.aload_n 0, 1) := by decide +kernel
theorem dX1_init_29 : decode cX1_init 29 = .ok (.bipush 8, 2) := by decide +kernel
theorem dX1_init_31 : decode cX1_init 31 = .ok (.bipush 64, 2) := by decide +kernel
theorem dX1_init_33 : decode cX1_init 33 = .ok (.multianewarray 21 2, 4) := by decide +kernel
theorem dX1_init_37 : decode cX1_init 37 = .ok (.putfield 23, 3) := by decide +kernel
theorem dX1_init_40 : decode cX1_init 40 = .ok (.aload_n 0, 1) := by decide +kernel
theorem dX1_init_41 : decode cX1_init 41 = .ok (.bipush 24, 2) := by decide +kernel
theorem dX1_init_43 : decode cX1_init 43 = .ok (.newarray .int, 2) := by decide +kernel
theorem dX1_init_45 : decode cX1_init 45 = .ok (.putfield 26, 3) := by decide +kernel
theorem dX1_init_48 : decode cX1_init 48 = .ok (.aload_n 0, 1) := by decide +kernel
theorem dX1_init_49 : decode cX1_init 49 = .ok (.bipush 24, 2) := by decide +kernel
theorem dX1_init_51 : decode cX1_init 51 = .ok (.newarray .int, 2) := by decide +kernel
theorem dX1_init_53 : decode cX1_init 53 = .ok (.putfield 29, 3) := by decide +kernel
theorem dX1_init_56 : decode cX1_init 56 = .ok (.aload_n 0, 1) := by decide +kernel
theorem dX1_init_57 : decode cX1_init 57 = .ok (.bipush 24, 2) := by decide +kernel
theorem dX1_init_59 : decode cX1_init 59 = .ok (.newarray .int, 2) := by decide +kernel
theorem dX1_init_61 : decode cX1_init 61 = .ok (.putfield 32, 3) := by decide +kernel
theorem dX1_init_64 : decode cX1_init 64 = .ok (.aload_n 0, 1) := by decide +kernel
theorem dX1_init_65 : decode cX1_init 65 = .ok (.bipush 24, 2) := by decide +kernel
theorem dX1_init_67 : decode cX1_init 67 = .ok (.newarray .int, 2) := by decide +kernel
theorem dX1_init_69 : decode cX1_init 69 = .ok (.putfield 35, 3) := by decide +kernel
theorem dX1_init_72 : decode cX1_init 72 = .ok (.aload_n 0, 1) := by decide +kernel
theorem dX1_init_73 : decode cX1_init 73 = .ok (.iconst 0, 1) := by decide +kernel
theorem dX1_init_74 : decode cX1_init 74 = .ok (.putfield 38, 3) := by decide +kernel
theorem dX1_init_77 : decode cX1_init 77 = .ok (.aload_n 0, 1) := by decide +kernel
theorem dX1_init_78 : decode cX1_init 78 = .ok (.iconst 0, 1) := by decide +kernel
theorem dX1_init_79 : decode cX1_init 79 = .ok (.putfield 42, 3) := by decide +kernel
theorem dX1_init_82 : decode cX1_init 82 = .ok (.return_, 1) := by decide +kernel
theorem dX0_init_0 : decode cX0_init 0 = .ok (.aload_n 0, 1) := by decide +kernel
theorem dX0_init_1 : decode cX0_init 1 = .ok (.invokespecial 3, 3) := by decide +kernel
theorem dX0_init_4 : decode cX0_init 4 = .ok (.aload_n 0, 1) := by decide +kernel
theorem dX0_init_5 : decode cX0_init 5 = .ok (.iload_n 1, 1) := by decide +kernel
theorem dX0_init_6 : decode cX0_init 6 = .ok (.bipush 8, 2) := by decide +kernel
theorem dX0_init_8 : decode cX0_init 8 = .ok (.multianewarray 9 2, 4) := by decide +kernel
theorem dX0_init_12 : decode cX0_init 12 = .ok (.putfield 11, 3) := by decide +kernel
theorem dX0_init_15 : decode cX0_init 15 = .ok (.aload_n 0, 1) := by decide +kernel
theorem dX0_init_16 : decode cX0_init 16 = .ok (.iload_n 1, 1) := by decide +kernel
theorem dX0_init_17 : decode cX0_init 17 = .ok (.newarray .long, 2) := by decide +kernel
theorem dX0_init_19 : decode cX0_init 19 = .ok (.putfield 16, 3) := by decide +kernel
theorem dX0_init_22 : decode cX0_init 22 = .ok (.aload_n 0, 1) := by decide +kernel
theorem dX0_init_23 : decode cX0_init 23 = .ok (.iload_n 1, 1) := by decide +kernel
theorem dX0_init_24 : decode cX0_init 24 = .ok (.sipush 480, 3) := by decide +kernel
theorem dX0_init_27 : decode cX0_init 27 = .ok (.multianewarray 9 2, 4) := by decide +kernel
theorem dX0_init_31 : decode cX0_init 31 = .ok (.putfield 20, 3) := by decide +kernel
theorem dX0_init_34 : decode cX0_init 34 = .ok (.aload_n 0, 1) := by decide +kernel
theorem dX0_init_35 : decode cX0_init 35 = .ok (.iconst 0, 1) := by decide +kernel
theorem dX0_init_36 : decode cX0_init 36 = .ok (.putfield 23, 3) := by decide +kernel
theorem dX0_init_39 : decode cX0_init 39 = .ok (.aload_n 0, 1) := by decide +kernel
theorem dX0_init_40 : decode cX0_init 40 = .ok (.iconst 0, 1) := by decide +kernel
theorem dX0_init_41 : decode cX0_init 41 = .ok (.putfield 27, 3) := by decide +kernel
theorem dX0_init_44 : decode cX0_init 44 = .ok (.return_, 1) := by decide +kernel
theorem dX2_start_0 : decode cX2_start 0 = .ok (.aload_n 0, 1) := by decide +kernel
theorem dX2_start_1 : decode cX2_start 1 = .ok (.getfield 37, 3) := by decide +kernel
theorem dX2_start_4 : decode cX2_start 4 = .ok (.iconst 0, 1) := by decide +kernel
theorem dX2_start_5 : decode cX2_start 5 = .ok (.putfield 117, 3) := by decide +kernel
theorem dX2_start_8 : decode cX2_start 8 = .ok (.aload_n 0, 1) := by decide +kernel
theorem dX2_start_9 : decode cX2_start 9 = .ok (.getfield 37, 3) := by decide +kernel
theorem dX2_start_12 : decode cX2_start 12 = .ok (.iconst 0, 1) := by decide +kernel
theorem dX2_start_13 : decode cX2_start 13 = .ok (.putfield 120, 3) := by decide +kernel
theorem dX2_start_16 : decode cX2_start 16 = .ok (.aload_n 0, 1) := by decide +kernel
theorem dX2_start_17 : decode cX2_start 17 = .ok (.iconst 1, 1) := by decide +kernel
theorem dX2_start_18 : decode cX2_start 18 = .ok (.putfield 48, 3) := by decide +kernel
theorem dX2_start_21 : decode cX2_start 21 = .ok (.iconst 0, 1) := by decide +kernel
theorem dX2_start_22 : decode cX2_start 22 = .ok (.istore_n 1, 1) := by decide +kernel
theorem dX2_start_23 : decode cX2_start 23 = .ok (.iload_n 1, 1) := by decide +kernel
theorem dX2_start_24 : decode cX2_start 24 = .ok (.aload_n 0, 1) := by decide +kernel
theorem dX2_start_25 : decode cX2_start 25 = .ok (.getfield 22, 3) := by decide +kernel
theorem dX2_start_28 : decode cX2_start 28 = .ok (.if_icmp .ge 65, 3) := by decide +kernel
theorem dX2_start_31 : decode cX2_start 31 = .ok (.aload_n 0, 1) := by decide +kernel
theorem dX2_start_32 : decode cX2_start 32 = .ok (.getfield 37, 3) := by decide +kernel
theorem dX2_start_35 : decode cX2_start 35 = .ok (.getfield 123, 3) := by decide +kernel
theorem dX2_start_38 : decode cX2_start 38 = .ok (.iload_n 1, 1) := by decide +kernel
theorem dX2_start_39 : decode cX2_start 39 = .ok (.aload_n 0, 1) := by decide +kernel
theorem dX2_start_40 : decode cX2_start 40 = .ok (.getfield 7, 3) := by decide +kernel
theorem dX2_start_43 : decode cX2_start 43 = .ok (.i2l, 1) := by decide +kernel
theorem dX2_start_44 : decode cX2_start 44 = .ok (.ldc2_w 127, 3) := by decide +kernel
theorem dX2_start_47 : decode cX2_start 47 = .ok (.iload_n 1, 1) := by decide +kernel
theorem dX2_start_48 : decode cX2_start 48 = .ok (.i2l, 1) := by decide +kernel
theorem dX2_start_49 : decode cX2_start 49 = .ok (.lmul, 1) := by decide +kernel
theorem dX2_start_50 : decode cX2_start 50 = .ok (.ladd, 1) := by decide +kernel
theorem dX2_start_51 : decode cX2_start 51 = .ok (.lastore, 1) := by decide +kernel
theorem dX2_start_52 : decode cX2_start 52 = .ok (.aload_n 0, 1) := by decide +kernel
theorem dX2_start_53 : decode cX2_start 53 = .ok (.aload_n 0, 1) := by decide +kernel
theorem dX2_start_54 : decode cX2_start 54 = .ok (.getfield 28, 3) := by decide +kernel
theorem dX2_start_57 : decode cX2_start 57 = .ok (.aload_n 0, 1) := by decide +kernel
theorem dX2_start_58 : decode cX2_start 58 = .ok (.getfield 37, 3) := by decide +kernel
theorem dX2_start_61 : decode cX2_start 61 = .ok (.getfield 129, 3) := by decide +kernel
theorem dX2_start_64 : decode cX2_start 64 = .ok (.iload_n 1, 1) := by decide +kernel
theorem dX2_start_65 : decode cX2_start 65 = .ok (.aaload, 1) := by decide +kernel
theorem dX2_start_66 : decode cX2_start 66 = .ok (.invokevirtual 133, 3) := by decide +kernel
theorem dX2_start_69 : decode cX2_start 69 = .ok (.ifCond .eq 14, 3) := by decide +kernel
theorem dX2_start_72 : decode cX2_start 72 = .ok (.aload_n 0, 1) := by decide +kernel
theorem dX2_start_73 : decode cX2_start 73 = .ok (.getfield 48, 3) := by decide +kernel
theorem dX2_start_76 : decode cX2_start 76 = .ok (.ifCond .eq 7, 3) := by decide +kernel
theorem dX2_start_79 : decode cX2_start 79 = .ok (.iconst 1, 1) := by decide +kernel
theorem dX2_start_80 : decode cX2_start 80 = .ok (.goto 4, 3) := by decide +kernel
theorem dX2_start_83 : decode cX2_start 83 = .ok (.iconst 0, 1) := by decide +kernel
theorem dX2_start_84 : decode cX2_start 84 = .ok (.putfield 48, 3) := by decide +kernel
theorem dX2_start_87 : decode cX2_start 87 = .ok (.iinc 1 1, 3) := by decide +kernel
theorem dX2_start_90 : decode cX2_start 90 = .ok (.goto (-67), 3) := by decide +kernel
theorem dX2_start_93 : decode cX2_start 93 = .ok (.aload_n 0, 1) := by decide +kernel
theorem dX2_start_94 : decode cX2_start 94 = .ok (.getfield 48, 3) := by decide +kernel
theorem dX2_start_97 : decode cX2_start 97 = .ok (.ifCond .eq 7, 3) := by decide +kernel
theorem dX2_start_100 : decode cX2_start 100 = .ok (.iconst 0, 1) := by decide +kernel
theorem dX2_start_101 : decode cX2_start 101 = .ok (.goto 4, 3) := by decide +kernel
theorem dX2_start_104 : decode cX2_start 104 = .ok (.iconst 1, 1) := by decide +kernel
theorem dX2_start_105 : decode cX2_start 105 = .ok (.ireturn, 1) := by decide +kernel
theorem dX1_findLeastYears_0 : decode cX1_findLeastYears 0 = .ok (.iconst 0, 1) := by decide +kernel
theorem dX1_findLeastYears_1 : decode cX1_findLeastYears 1 = .ok (.istore_n 2, 1) := by decide +kernel
theorem dX1_findLeastYears_2 : decode cX1_findLeastYears 2 = .ok (.iload_n 2, 1) := by decide +kernel
theorem dX1_findLeastYears_3 : decode cX1_findLeastYears 3 = .ok (.aload_n 0, 1) := by decide +kernel
theorem dX1_findLeastYears_4 : decode cX1_findLeastYears 4 = .ok (.getfield 38, 3) := by decide +kernel
theorem dX1_findLeastYears_7 : decode cX1_findLeastYears 7 = .ok (.if_icmp .ge 18, 3) := by decide +kernel
theorem dX1_findLeastYears_10 : decode cX1_findLeastYears 10 = .ok (.aload_n 1, 1) := by decide +kernel
theorem dX1_findLeastYears_11 : decode cX1_findLeastYears 11 = .ok (.iload_n 2, 1) := by decide +kernel
theorem dX1_findLeastYears_12 : decode cX1_findLeastYears 12 = .ok (.aload_n 0, 1) := by decide +kernel
theorem dX1_findLeastYears_13 : decode cX1_findLeastYears 13 = .ok (.getfield 9, 3) := by decide +kernel
theorem dX1_findLeastYears_16 : decode cX1_findLeastYears 16 = .ok (.iload_n 2, 1) := by decide +kernel
theorem dX1_findLeastYears_17 : decode cX1_findLeastYears 17 = .ok (.iaload, 1) := by decide +kernel
theorem dX1_findLeastYears_18 : decode cX1_findLeastYears 18 = .ok (.iastore, 1) := by decide +kernel
theorem dX1_findLeastYears_19 : decode cX1_findLeastYears 19 = .ok (.iinc 2 1, 3) := by decide +kernel
theorem dX1_findLeastYears_22 : decode cX1_findLeastYears 22 = .ok (.goto (-20), 3) := by decide +kernel
theorem dX1_findLeastYears_25 : decode cX1_findLeastYears 25 = .ok (.iconst 1, 1) := by decide +kernel
theorem dX1_findLeastYears_26 : decode cX1_findLeastYears 26 = .ok (.istore_n 2, 1) := by decide +kernel
theorem dX1_findLeastYears_27 : decode cX1_findLeastYears 27 = .ok (.iconst 0, 1) := by decide +kernel
theorem dX1_findLeastYears_28 : decode cX1_findLeastYears 28 = .ok (.istore_n 3, 1) := by decide +kernel
theorem dX1_findLeastYears_29 : decode cX1_findLeastYears 29 = .ok (.iload_n 3, 1) := by decide +kernel
theorem dX1_findLeastYears_30 : decode cX1_findLeastYears 30 = .ok (.bipush 8, 2) := by decide +kernel
theorem dX1_findLeastYears_32 : decode cX1_findLeastYears 32 = .ok (.if_icmp .gt 19, 3) := by decide +kernel
theorem dX1_findLeastYears_35 : decode cX1_findLeastYears 35 = .ok (.iload_n 2, 1) := by decide +kernel
theorem dX1_findLeastYears_36 : decode cX1_findLeastYears 36 = .ok (.ifCond .eq 15, 3) := by decide +kernel
theorem dX1_findLeastYears_39 : decode cX1_findLeastYears 39 = .ok (.aload_n 0, 1) := by decide +kernel
theorem dX1_findLeastYears_40 : decode cX1_findLeastYears 40 = .ok (.aload_n 1, 1) := by decide +kernel
theorem dX1_findLeastYears_41 : decode cX1_findLeastYears 41 = .ok (.invokevirtual 54, 3) := by decide +kernel
theorem dX1_findLeastYears_44 : decode cX1_findLeastYears 44 = .ok (.istore_n 2, 1) := by decide +kernel
theorem dX1_findLeastYears_45 : decode cX1_findLeastYears 45 = .ok (.iinc 3 1, 3) := by decide +kernel
theorem dX1_findLeastYears_48 : decode cX1_findLeastYears 48 = .ok (.goto (-19), 3) := by decide +kernel
theorem dX1_findLeastYears_51 : decode cX1_findLeastYears 51 = .ok (.iload_n 2, 1) := by decide +kernel
theorem dX1_findLeastYears_52 : decode cX1_findLeastYears 52 = .ok (.ifCond .ne 15, 3) := by decide +kernel
theorem dX1_findLeastYears_55 : decode cX1_findLeastYears 55 = .ok (.aload_n 0, 1) := by decide +kernel
theorem dX1_findLeastYears_56 : decode cX1_findLeastYears 56 = .ok (.aload_n 1, 1) := by decide +kernel
theorem dX1_findLeastYears_57 : decode cX1_findLeastYears 57 = .ok (.invokevirtual 58, 3) := by decide +kernel
theorem dX1_findLeastYears_60 : decode cX1_findLeastYears 60 = .ok (.ifCond .eq 7, 3) := by decide +kernel
theorem dX1_findLeastYears_63 : decode cX1_findLeastYears 63 = .ok (.iconst 1, 1) := by decide +kernel
theorem dX1_findLeastYears_64 : decode cX1_findLeastYears 64 = .ok (.goto 4, 3) := by decide +kernel
theorem dX1_findLeastYears_67 : decode cX1_findLeastYears 67 = .ok (.iconst 0, 1) := by decide +kernel
theorem dX1_findLeastYears_68 : decode cX1_findLeastYears 68 = .ok (.ireturn, 1) := by decide +kernel
theorem dX1_raiseByOrders_0 : decode cX1_raiseByOrders 0 = .ok (.iconst 0, 1) := by decide +kernel
theorem dX1_raiseByOrders_1 : decode cX1_raiseByOrders 1 = .ok (.istore_n 2, 1) := by decide +kernel
theorem dX1_raiseByOrders_2 : decode cX1_raiseByOrders 2 = .ok (.iconst 0, 1) := by decide +kernel
theorem dX1_raiseByOrders_3 : decode cX1_raiseByOrders 3 = .ok (.istore_n 3, 1) := by decide +kernel
theorem dX1_raiseByOrders_4 : decode cX1_raiseByOrders 4 = .ok (.iload_n 3, 1) := by decide +kernel
theorem dX1_raiseByOrders_5 : decode cX1_raiseByOrders 5 = .ok (.aload_n 0, 1) := by decide +kernel
theorem dX1_raiseByOrders_6 : decode cX1_raiseByOrders 6 = .ok (.getfield 42, 3) := by decide +kernel
theorem dX1_raiseByOrders_9 : decode cX1_raiseByOrders 9 = .ok (.if_icmp .ge 95, 3) := by decide +kernel
theorem dX1_raiseByOrders_12 : decode cX1_raiseByOrders 12 = .ok (.aload_n 0, 1) := by decide +kernel
theorem dX1_raiseByOrders_13 : decode cX1_raiseByOrders 13 = .ok (.getfield 26, 3) := by decide +kernel
theorem dX1_raiseByOrders_16 : decode cX1_raiseByOrders 16 = .ok (.iload_n 3, 1) := by decide +kernel
theorem dX1_raiseByOrders_17 : decode cX1_raiseByOrders 17 = .ok (.iaload, 1) := by decide +kernel
theorem dX1_raiseByOrders_18 : decode cX1_raiseByOrders 18 = .ok (.istore 4, 2) := by decide +kernel
theorem dX1_raiseByOrders_20 : decode cX1_raiseByOrders 20 = .ok (.aload_n 0, 1) := by decide +kernel
theorem dX1_raiseByOrders_21 : decode cX1_raiseByOrders 21 = .ok (.getfield 29, 3) := by decide +kernel
theorem dX1_raiseByOrders_24 : decode cX1_raiseByOrders 24 = .ok (.iload_n 3, 1) := by decide +kernel
theorem dX1_raiseByOrders_25 : decode cX1_raiseByOrders 25 = .ok (.iaload, 1) := by decide +kernel
theorem dX1_raiseByOrders_26 : decode cX1_raiseByOrders 26 = .ok (.istore 5, 2) := by decide +kernel
theorem dX1_raiseByOrders_28 : decode cX1_raiseByOrders 28 = .ok (.aload_n 1, 1) := by decide +kernel
theorem dX1_raiseByOrders_29 : decode cX1_raiseByOrders 29 = .ok (.iload 5, 2) := by decide +kernel
theorem dX1_raiseByOrders_31 : decode cX1_raiseByOrders 31 = .ok (.iaload, 1) := by decide +kernel
theorem dX1_raiseByOrders_32 : decode cX1_raiseByOrders 32 = .ok (.aload_n 1, 1) := by decide +kernel
theorem dX1_raiseByOrders_33 : decode cX1_raiseByOrders 33 = .ok (.iload 4, 2) := by decide +kernel
theorem dX1_raiseByOrders_35 : decode cX1_raiseByOrders 35 = .ok (.iaload, 1) := by decide +kernel
theorem dX1_raiseByOrders_36 : decode cX1_raiseByOrders 36 = .ok (.aload_n 0, 1) := by decide +kernel
theorem dX1_raiseByOrders_37 : decode cX1_raiseByOrders 37 = .ok (.getfield 32, 3) := by decide +kernel
theorem dX1_raiseByOrders_40 : decode cX1_raiseByOrders 40 = .ok (.iload_n 3, 1) := by decide +kernel
theorem dX1_raiseByOrders_41 : decode cX1_raiseByOrders 41 = .ok (.iaload, 1) := by decide +kernel
theorem dX1_raiseByOrders_42 : decode cX1_raiseByOrders 42 = .ok (.iadd, 1) := by decide +kernel
theorem dX1_raiseByOrders_43 : decode cX1_raiseByOrders 43 = .ok (.if_icmp .ge 20, 3) := by decide +kernel
theorem dX1_raiseByOrders_46 : decode cX1_raiseByOrders 46 = .ok (.aload_n 1, 1) := by decide +kernel
theorem dX1_raiseByOrders_47 : decode cX1_raiseByOrders 47 = .ok (.iload 5, 2) := by decide +kernel
theorem dX1_raiseByOrders_49 : decode cX1_raiseByOrders 49 = .ok (.aload_n 1, 1) := by decide +kernel
theorem dX1_raiseByOrders_50 : decode cX1_raiseByOrders 50 = .ok (.iload 4, 2) := by decide +kernel
theorem dX1_raiseByOrders_52 : decode cX1_raiseByOrders 52 = .ok (.iaload, 1) := by decide +kernel
theorem dX1_raiseByOrders_53 : decode cX1_raiseByOrders 53 = .ok (.aload_n 0, 1) := by decide +kernel
theorem dX1_raiseByOrders_54 : decode cX1_raiseByOrders 54 = .ok (.getfield 32, 3) := by decide +kernel
theorem dX1_raiseByOrders_57 : decode cX1_raiseByOrders 57 = .ok (.iload_n 3, 1) := by decide +kernel
theorem dX1_raiseByOrders_58 : decode cX1_raiseByOrders 58 = .ok (.iaload, 1) := by decide +kernel
theorem dX1_raiseByOrders_59 : decode cX1_raiseByOrders 59 = .ok (.iadd, 1) := by decide +kernel
theorem dX1_raiseByOrders_60 : decode cX1_raiseByOrders 60 = .ok (.iastore, 1) := by decide +kernel
theorem dX1_raiseByOrders_61 : decode cX1_raiseByOrders 61 = .ok (.iconst 1, 1) := by decide +kernel
theorem dX1_raiseByOrders_62 : decode cX1_raiseByOrders 62 = .ok (.istore_n 2, 1) := by decide +kernel
theorem dX1_raiseByOrders_63 : decode cX1_raiseByOrders 63 = .ok (.aload_n 1, 1) := by decide +kernel
theorem dX1_raiseByOrders_64 : decode cX1_raiseByOrders 64 = .ok (.iload 4, 2) := by decide +kernel
theorem dX1_raiseByOrders_66 : decode cX1_raiseByOrders 66 = .ok (.iaload, 1) := by decide +kernel
theorem dX1_raiseByOrders_67 : decode cX1_raiseByOrders 67 = .ok (.aload_n 1, 1) := by decide +kernel
theorem dX1_raiseByOrders_68 : decode cX1_raiseByOrders 68 = .ok (.iload 5, 2) := by decide +kernel
theorem dX1_raiseByOrders_70 : decode cX1_raiseByOrders 70 = .ok (.iaload, 1) := by decide +kernel
theorem dX1_raiseByOrders_71 : decode cX1_raiseByOrders 71 = .ok (.aload_n 0, 1) := by decide +kernel
theorem dX1_raiseByOrders_72 : decode cX1_raiseByOrders 72 = .ok (.getfield 35, 3) := by decide +kernel
theorem dX1_raiseByOrders_75 : decode cX1_raiseByOrders 75 = .ok (.iload_n 3, 1) := by decide +kernel
theorem dX1_raiseByOrders_76 : decode cX1_raiseByOrders 76 = .ok (.iaload, 1) := by decide +kernel
theorem dX1_raiseByOrders_77 : decode cX1_raiseByOrders 77 = .ok (.isub, 1) := by decide +kernel
theorem dX1_raiseByOrders_78 : decode cX1_raiseByOrders 78 = .ok (.if_icmp .ge 20, 3) := by decide +kernel
theorem dX1_raiseByOrders_81 : decode cX1_raiseByOrders 81 = .ok (.aload_n 1, 1) := by decide +kernel
theorem dX1_raiseByOrders_82 : decode cX1_raiseByOrders 82 = .ok (.iload 4, 2) := by decide +kernel
theorem dX1_raiseByOrders_84 : decode cX1_raiseByOrders 84 = .ok (.aload_n 1, 1) := by decide +kernel
theorem dX1_raiseByOrders_85 : decode cX1_raiseByOrders 85 = .ok (.iload 5, 2) := by decide +kernel
theorem dX1_raiseByOrders_87 : decode cX1_raiseByOrders 87 = .ok (.iaload, 1) := by decide +kernel
theorem dX1_raiseByOrders_88 : decode cX1_raiseByOrders 88 = .ok (.aload_n 0, 1) := by decide +kernel
theorem dX1_raiseByOrders_89 : decode cX1_raiseByOrders 89 = .ok (.getfield 35, 3) := by decide +kernel
theorem dX1_raiseByOrders_92 : decode cX1_raiseByOrders 92 = .ok (.iload_n 3, 1) := by decide +kernel
theorem dX1_raiseByOrders_93 : decode cX1_raiseByOrders 93 = .ok (.iaload, 1) := by decide +kernel
theorem dX1_raiseByOrders_94 : decode cX1_raiseByOrders 94 = .ok (.isub, 1) := by decide +kernel
theorem dX1_raiseByOrders_95 : decode cX1_raiseByOrders 95 = .ok (.iastore, 1) := by decide +kernel
theorem dX1_raiseByOrders_96 : decode cX1_raiseByOrders 96 = .ok (.iconst 1, 1) := by decide +kernel
theorem dX1_raiseByOrders_97 : decode cX1_raiseByOrders 97 = .ok (.istore_n 2, 1) := by decide +kernel
theorem dX1_raiseByOrders_98 : decode cX1_raiseByOrders 98 = .ok (.iinc 3 1, 3) := by decide +kernel
theorem dX1_raiseByOrders_101 : decode cX1_raiseByOrders 101 = .ok (.goto (-97), 3) := by decide +kernel
theorem dX1_raiseByOrders_104 : decode cX1_raiseByOrders 104 = .ok (.iload_n 2, 1) := by decide +kernel
theorem dX1_raiseByOrders_105 : decode cX1_raiseByOrders 105 = .ok (.ireturn, 1) := by decide +kernel
theorem dX1_noneIsPastLast_0 : decode cX1_noneIsPastLast 0 = .ok (.iconst 0, 1) := by decide +kernel
theorem dX1_noneIsPastLast_1 : decode cX1_noneIsPastLast 1 = .ok (.istore_n 2, 1) := by decide +kernel
theorem dX1_noneIsPastLast_2 : decode cX1_noneIsPastLast 2 = .ok (.iload_n 2, 1) := by decide +kernel
theorem dX1_noneIsPastLast_3 : decode cX1_noneIsPastLast 3 = .ok (.aload_n 0, 1) := by decide +kernel
theorem dX1_noneIsPastLast_4 : decode cX1_noneIsPastLast 4 = .ok (.getfield 38, 3) := by decide +kernel
theorem dX1_noneIsPastLast_7 : decode cX1_noneIsPastLast 7 = .ok (.if_icmp .ge 23, 3) := by decide +kernel
theorem dX1_noneIsPastLast_10 : decode cX1_noneIsPastLast 10 = .ok (.aload_n 1, 1) := by decide +kernel
theorem dX1_noneIsPastLast_11 : decode cX1_noneIsPastLast 11 = .ok (.iload_n 2, 1) := by decide +kernel
theorem dX1_noneIsPastLast_12 : decode cX1_noneIsPastLast 12 = .ok (.iaload, 1) := by decide +kernel
theorem dX1_noneIsPastLast_13 : decode cX1_noneIsPastLast 13 = .ok (.aload_n 0, 1) := by decide +kernel
theorem dX1_noneIsPastLast_14 : decode cX1_noneIsPastLast 14 = .ok (.getfield 15, 3) := by decide +kernel
theorem dX1_noneIsPastLast_17 : decode cX1_noneIsPastLast 17 = .ok (.iload_n 2, 1) := by decide +kernel
theorem dX1_noneIsPastLast_18 : decode cX1_noneIsPastLast 18 = .ok (.iaload, 1) := by decide +kernel
theorem dX1_noneIsPastLast_19 : decode cX1_noneIsPastLast 19 = .ok (.if_icmp .le 5, 3) := by decide +kernel
theorem dX1_noneIsPastLast_22 : decode cX1_noneIsPastLast 22 = .ok (.iconst 0, 1) := by decide +kernel
theorem dX1_noneIsPastLast_23 : decode cX1_noneIsPastLast 23 = .ok (.ireturn, 1) := by decide +kernel
theorem dX1_noneIsPastLast_24 : decode cX1_noneIsPastLast 24 = .ok (.iinc 2 1, 3) := by decide +kernel
theorem dX1_noneIsPastLast_27 : decode cX1_noneIsPastLast 27 = .ok (.goto (-25), 3) := by decide +kernel
theorem dX1_noneIsPastLast_30 : decode cX1_noneIsPastLast 30 = .ok (.iconst 1, 1) := by decide +kernel
theorem dX1_noneIsPastLast_31 : decode cX1_noneIsPastLast 31 = .ok (.ireturn, 1) := by decide +kernel
theorem dX2_date_0 : decode cX2_date 0 = .ok (.iload_n 1, 1) := by decide +kernel
theorem dX2_date_1 : decode cX2_date 1 = .ok (.invokestatic 58, 3) := by decide +kernel
theorem dX2_date_4 : decode cX2_date 4 = .ok (.iload_n 2, 1) := by decide +kernel
theorem dX2_date_5 : decode cX2_date 5 = .ok (.invokestatic 58, 3) := by decide +kernel
theorem dX2_date_8 : decode cX2_date 8 = .ok (.iload_n 1, 1) := by decide +kernel
theorem dX2_date_9 : decode cX2_date 9 = .ok (.iload_n 2, 1) := by decide +kernel
theorem dX2_date_10 : decode cX2_date 10 = .ok (.if_icmp .gt 11, 3) := by decide +kernel
theorem dX2_date_13 : decode cX2_date 13 = .ok (.iload_n 2, 1) := by decide +kernel
theorem dX2_date_14 : decode cX2_date 14 = .ok (.iload_n 1, 1) := by decide +kernel
theorem dX2_date_15 : decode cX2_date 15 = .ok (.isub, 1) := by decide +kernel
theorem dX2_date_16 : decode cX2_date 16 = .ok (.bipush 63, 2) := by decide +kernel
theorem dX2_date_18 : decode cX2_date 18 = .ok (.if_icmp .le 13, 3) := by decide +kernel
theorem dX2_date_21 : decode cX2_date 21 = .ok (.new 61, 3) := by decide +kernel
theorem dX2_date_24 : decode cX2_date 24 = .ok (.dup, 1) := by decide +kernel
theorem dX2_date_25 : decode cX2_date 25 = .ok (.ldc 63, 2) := by decide +kernel
theorem dX2_date_27 : decode cX2_date 27 = .ok (.invokespecial 65, 3) := by decide +kernel
theorem dX2_date_30 : decode cX2_date 30 = .ok (.athrow, 1) := by decide +kernel
theorem dX2_date_31 : decode cX2_date 31 = .ok (.aload_n 0, 1) := by decide +kernel
theorem dX2_date_32 : decode cX2_date 32 = .ok (.getfield 28, 3) := by decide +kernel
theorem dX2_date_35 : decode cX2_date 35 = .ok (.getfield 68, 3) := by decide +kernel
theorem dX2_date_38 : decode cX2_date 38 = .ok (.bipush 8, 2) := by decide +kernel
theorem dX2_date_40 : decode cX2_date 40 = .ok (.if_icmp .lt 13, 3) := by decide +kernel
theorem dX2_date_43 : decode cX2_date 43 = .ok (.new 71, 3) := by decide +kernel
theorem dX2_date_46 : decode cX2_date 46 = .ok (.dup, 1) := by decide +kernel
theorem dX2_date_47 : decode cX2_date 47 = .ok (.ldc 73, 2) := by decide +kernel
theorem dX2_date_49 : decode cX2_date 49 = .ok (.invokespecial 75, 3) := by decide +kernel
theorem dX2_date_52 : decode cX2_date 52 = .ok (.athrow, 1) := by decide +kernel
theorem dX2_date_53 : decode cX2_date 53 = .ok (.aload_n 0, 1) := by decide +kernel
theorem dX2_date_54 : decode cX2_date 54 = .ok (.invokevirtual 76, 3) := by decide +kernel
theorem dX2_date_57 : decode cX2_date 57 = .ok (.aload_n 0, 1) := by decide +kernel
theorem dX2_date_58 : decode cX2_date 58 = .ok (.getfield 28, 3) := by decide +kernel
theorem dX2_date_61 : decode cX2_date 61 = .ok (.iload_n 1, 1) := by decide +kernel
theorem dX2_date_62 : decode cX2_date 62 = .ok (.iload_n 2, 1) := by decide +kernel
theorem dX2_date_63 : decode cX2_date 63 = .ok (.invokevirtual 79, 3) := by decide +kernel
theorem dX2_date_66 : decode cX2_date 66 = .ok (.ireturn, 1) := by decide +kernel
theorem dX2_needYears_0 : decode cX2_needYears 0 = .ok (.iload_n 0, 1) := by decide +kernel
theorem dX2_needYears_1 : decode cX2_needYears 1 = .ok (.ifCond .lt 10, 3) := by decide +kernel
theorem dX2_needYears_4 : decode cX2_needYears 4 = .ok (.iload_n 0, 1) := by decide +kernel
theorem dX2_needYears_5 : decode cX2_needYears 5 = .ok (.sipush 255, 3) := by decide +kernel
theorem dX2_needYears_8 : decode cX2_needYears 8 = .ok (.if_icmp .le 13, 3) := by decide +kernel
theorem dX2_needYears_11 : decode cX2_needYears 11 = .ok (.new 61, 3) := by decide +kernel
theorem dX2_needYears_14 : decode cX2_needYears 14 = .ok (.dup, 1) := by decide +kernel
theorem dX2_needYears_15 : decode cX2_needYears 15 = .ok (.ldc 195, 2) := by decide +kernel
theorem dX2_needYears_17 : decode cX2_needYears 17 = .ok (.invokespecial 65, 3) := by decide +kernel
theorem dX2_needYears_20 : decode cX2_needYears 20 = .ok (.athrow, 1) := by decide +kernel
theorem dX2_needYears_21 : decode cX2_needYears 21 = .ok (.return_, 1) := by decide +kernel
theorem dX2_forget_0 : decode cX2_forget 0 = .ok (.aload_n 0, 1) := by decide +kernel
theorem dX2_forget_1 : decode cX2_forget 1 = .ok (.iconst 0, 1) := by decide +kernel
theorem dX2_forget_2 : decode cX2_forget 2 = .ok (.putfield 48, 3) := by decide +kernel
theorem dX2_forget_5 : decode cX2_forget 5 = .ok (.aload_n 0, 1) := by decide +kernel
theorem dX2_forget_6 : decode cX2_forget 6 = .ok (.iconst 0, 1) := by decide +kernel
theorem dX2_forget_7 : decode cX2_forget 7 = .ok (.putfield 45, 3) := by decide +kernel
theorem dX2_forget_10 : decode cX2_forget 10 = .ok (.return_, 1) := by decide +kernel
theorem dX1_addDate_0 : decode cX1_addDate 0 = .ok (.aload_n 0, 1) := by decide +kernel
theorem dX1_addDate_1 : decode cX1_addDate 1 = .ok (.getfield 38, 3) := by decide +kernel
theorem dX1_addDate_4 : decode cX1_addDate 4 = .ok (.istore_n 3, 1) := by decide +kernel
theorem dX1_addDate_5 : decode cX1_addDate 5 = .ok (.aload_n 0, 1) := by decide +kernel
theorem dX1_addDate_6 : decode cX1_addDate 6 = .ok (.getfield 9, 3) := by decide +kernel
theorem dX1_addDate_9 : decode cX1_addDate 9 = .ok (.iload_n 3, 1) := by decide +kernel
theorem dX1_addDate_10 : decode cX1_addDate 10 = .ok (.iload_n 1, 1) := by decide +kernel
theorem dX1_addDate_11 : decode cX1_addDate 11 = .ok (.iastore, 1) := by decide +kernel
theorem dX1_addDate_12 : decode cX1_addDate 12 = .ok (.aload_n 0, 1) := by decide +kernel
theorem dX1_addDate_13 : decode cX1_addDate 13 = .ok (.getfield 15, 3) := by decide +kernel
theorem dX1_addDate_16 : decode cX1_addDate 16 = .ok (.iload_n 3, 1) := by decide +kernel
theorem dX1_addDate_17 : decode cX1_addDate 17 = .ok (.iload_n 2, 1) := by decide +kernel
theorem dX1_addDate_18 : decode cX1_addDate 18 = .ok (.iastore, 1) := by decide +kernel
theorem dX1_addDate_19 : decode cX1_addDate 19 = .ok (.aload_n 0, 1) := by decide +kernel
theorem dX1_addDate_20 : decode cX1_addDate 20 = .ok (.getfield 18, 3) := by decide +kernel
theorem dX1_addDate_23 : decode cX1_addDate 23 = .ok (.iload_n 3, 1) := by decide +kernel
theorem dX1_addDate_24 : decode cX1_addDate 24 = .ok (.iconst (-1), 1) := by decide +kernel
theorem dX1_addDate_25 : decode cX1_addDate 25 = .ok (.iastore, 1) := by decide +kernel
theorem dX1_addDate_26 : decode cX1_addDate 26 = .ok (.iconst 0, 1) := by decide +kernel
theorem dX1_addDate_27 : decode cX1_addDate 27 = .ok (.istore 4, 2) := by decide +kernel
theorem dX1_addDate_29 : decode cX1_addDate 29 = .ok (.iload 4, 2) := by decide +kernel
theorem dX1_addDate_31 : decode cX1_addDate 31 = .ok (.bipush 63, 2) := by decide +kernel
theorem dX1_addDate_33 : decode cX1_addDate 33 = .ok (.if_icmp .gt 19, 3) := by decide +kernel
theorem dX1_addDate_36 : decode cX1_addDate 36 = .ok (.aload_n 0, 1) := by decide +kernel
theorem dX1_addDate_37 : decode cX1_addDate 37 = .ok (.getfield 23, 3) := by decide +kernel
theorem dX1_addDate_40 : decode cX1_addDate 40 = .ok (.iload_n 3, 1) := by decide +kernel
theorem dX1_addDate_41 : decode cX1_addDate 41 = .ok (.aaload, 1) := by decide +kernel
theorem dX1_addDate_42 : decode cX1_addDate 42 = .ok (.iload 4, 2) := by decide +kernel
theorem dX1_addDate_44 : decode cX1_addDate 44 = .ok (.iconst 1, 1) := by decide +kernel
theorem dX1_addDate_45 : decode cX1_addDate 45 = .ok (.iastore, 1) := by decide +kernel
theorem dX1_addDate_46 : decode cX1_addDate 46 = .ok (.iinc 4 1, 3) := by decide +kernel
theorem dX1_addDate_49 : decode cX1_addDate 49 = .ok (.goto (-20), 3) := by decide +kernel
theorem dX1_addDate_52 : decode cX1_addDate 52 = .ok (.aload_n 0, 1) := by decide +kernel
theorem dX1_addDate_53 : decode cX1_addDate 53 = .ok (.dup, 1) := by decide +kernel
theorem dX1_addDate_54 : decode cX1_addDate 54 = .ok (.getfield 38, 3) := by decide +kernel
theorem dX1_addDate_57 : decode cX1_addDate 57 = .ok (.iconst 1, 1) := by decide +kernel
theorem dX1_addDate_58 : decode cX1_addDate 58 = .ok (.iadd, 1) := by decide +kernel
theorem dX1_addDate_59 : decode cX1_addDate 59 = .ok (.putfield 38, 3) := by decide +kernel
theorem dX1_addDate_62 : decode cX1_addDate 62 = .ok (.iload_n 3, 1) := by decide +kernel
theorem dX1_addDate_63 : decode cX1_addDate 63 = .ok (.ireturn, 1) := by decide +kernel
theorem dX2_weight_0 : decode cX2_weight 0 = .ok (.aload_n 0, 1) := by decide +kernel
theorem dX2_weight_1 : decode cX2_weight 1 = .ok (.iload_n 1, 1) := by decide +kernel
theorem dX2_weight_2 : decode cX2_weight 2 = .ok (.iload_n 2, 1) := by decide +kernel
theorem dX2_weight_3 : decode cX2_weight 3 = .ok (.invokevirtual 82, 3) := by decide +kernel
theorem dX2_weight_6 : decode cX2_weight 6 = .ok (.iload_n 3, 1) := by decide +kernel
theorem dX2_weight_7 : decode cX2_weight 7 = .ok (.iconst 1, 1) := by decide +kernel
theorem dX2_weight_8 : decode cX2_weight 8 = .ok (.if_icmp .lt 10, 3) := by decide +kernel
theorem dX2_weight_11 : decode cX2_weight 11 = .ok (.iload_n 3, 1) := by decide +kernel
theorem dX2_weight_12 : decode cX2_weight 12 = .ok (.sipush 1000, 3) := by decide +kernel
theorem dX2_weight_15 : decode cX2_weight 15 = .ok (.if_icmp .le 13, 3) := by decide +kernel
theorem dX2_weight_18 : decode cX2_weight 18 = .ok (.new 61, 3) := by decide +kernel
theorem dX2_weight_21 : decode cX2_weight 21 = .ok (.dup, 1) := by decide +kernel
theorem dX2_weight_22 : decode cX2_weight 22 = .ok (.ldc 86, 2) := by decide +kernel
theorem dX2_weight_24 : decode cX2_weight 24 = .ok (.invokespecial 65, 3) := by decide +kernel
theorem dX2_weight_27 : decode cX2_weight 27 = .ok (.athrow, 1) := by decide +kernel
theorem dX2_weight_28 : decode cX2_weight 28 = .ok (.aload_n 0, 1) := by decide +kernel
theorem dX2_weight_29 : decode cX2_weight 29 = .ok (.invokevirtual 76, 3) := by decide +kernel
theorem dX2_weight_32 : decode cX2_weight 32 = .ok (.aload_n 0, 1) := by decide +kernel
theorem dX2_weight_33 : decode cX2_weight 33 = .ok (.getfield 28, 3) := by decide +kernel
theorem dX2_weight_36 : decode cX2_weight 36 = .ok (.iload_n 1, 1) := by decide +kernel
theorem dX2_weight_37 : decode cX2_weight 37 = .ok (.iload_n 2, 1) := by decide +kernel
theorem dX2_weight_38 : decode cX2_weight 38 = .ok (.iload_n 3, 1) := by decide +kernel
theorem dX2_weight_39 : decode cX2_weight 39 = .ok (.invokevirtual 88, 3) := by decide +kernel
theorem dX2_weight_42 : decode cX2_weight 42 = .ok (.ireturn, 1) := by decide +kernel
theorem dX2_needYearOf_0 : decode cX2_needYearOf 0 = .ok (.aload_n 0, 1) := by decide +kernel
theorem dX2_needYearOf_1 : decode cX2_needYearOf 1 = .ok (.iload_n 1, 1) := by decide +kernel
theorem dX2_needYearOf_2 : decode cX2_needYearOf 2 = .ok (.invokevirtual 92, 3) := by decide +kernel
theorem dX2_needYearOf_5 : decode cX2_needYearOf 5 = .ok (.iload_n 2, 1) := by decide +kernel
theorem dX2_needYearOf_6 : decode cX2_needYearOf 6 = .ok (.aload_n 0, 1) := by decide +kernel
theorem dX2_needYearOf_7 : decode cX2_needYearOf 7 = .ok (.getfield 28, 3) := by decide +kernel
theorem dX2_needYearOf_10 : decode cX2_needYearOf 10 = .ok (.getfield 186, 3) := by decide +kernel
theorem dX2_needYearOf_13 : decode cX2_needYearOf 13 = .ok (.iload_n 1, 1) := by decide +kernel
theorem dX2_needYearOf_14 : decode cX2_needYearOf 14 = .ok (.iaload, 1) := by decide +kernel
theorem dX2_needYearOf_15 : decode cX2_needYearOf 15 = .ok (.if_icmp .lt 16, 3) := by decide +kernel
theorem dX2_needYearOf_18 : decode cX2_needYearOf 18 = .ok (.iload_n 2, 1) := by decide +kernel
theorem dX2_needYearOf_19 : decode cX2_needYearOf 19 = .ok (.aload_n 0, 1) := by decide +kernel
theorem dX2_needYearOf_20 : decode cX2_needYearOf 20 = .ok (.getfield 28, 3) := by decide +kernel
theorem dX2_needYearOf_23 : decode cX2_needYearOf 23 = .ok (.getfield 189, 3) := by decide +kernel
theorem dX2_needYearOf_26 : decode cX2_needYearOf 26 = .ok (.iload_n 1, 1) := by decide +kernel
theorem dX2_needYearOf_27 : decode cX2_needYearOf 27 = .ok (.iaload, 1) := by decide +kernel
theorem dX2_needYearOf_28 : decode cX2_needYearOf 28 = .ok (.if_icmp .le 13, 3) := by decide +kernel
theorem dX2_needYearOf_31 : decode cX2_needYearOf 31 = .ok (.new 150, 3) := by decide +kernel
theorem dX2_needYearOf_34 : decode cX2_needYearOf 34 = .ok (.dup, 1) := by decide +kernel
theorem dX2_needYearOf_35 : decode cX2_needYearOf 35 = .ok (.ldc 192, 2) := by decide +kernel
theorem dX2_needYearOf_37 : decode cX2_needYearOf 37 = .ok (.invokespecial 154, 3) := by decide +kernel
theorem dX2_needYearOf_40 : decode cX2_needYearOf 40 = .ok (.athrow, 1) := by decide +kernel
theorem dX2_needYearOf_41 : decode cX2_needYearOf 41 = .ok (.return_, 1) := by decide +kernel
theorem dX2_needDate_0 : decode cX2_needDate 0 = .ok (.iload_n 1, 1) := by decide +kernel
theorem dX2_needDate_1 : decode cX2_needDate 1 = .ok (.ifCond .lt 14, 3) := by decide +kernel
theorem dX2_needDate_4 : decode cX2_needDate 4 = .ok (.iload_n 1, 1) := by decide +kernel
theorem dX2_needDate_5 : decode cX2_needDate 5 = .ok (.aload_n 0, 1) := by decide +kernel
theorem dX2_needDate_6 : decode cX2_needDate 6 = .ok (.getfield 28, 3) := by decide +kernel
theorem dX2_needDate_9 : decode cX2_needDate 9 = .ok (.getfield 68, 3) := by decide +kernel
theorem dX2_needDate_12 : decode cX2_needDate 12 = .ok (.if_icmp .lt 13, 3) := by decide +kernel
theorem dX2_needDate_15 : decode cX2_needDate 15 = .ok (.new 150, 3) := by decide +kernel
theorem dX2_needDate_18 : decode cX2_needDate 18 = .ok (.dup, 1) := by decide +kernel
theorem dX2_needDate_19 : decode cX2_needDate 19 = .ok (.ldc 184, 2) := by decide +kernel
theorem dX2_needDate_21 : decode cX2_needDate 21 = .ok (.invokespecial 154, 3) := by decide +kernel
theorem dX2_needDate_24 : decode cX2_needDate 24 = .ok (.athrow, 1) := by decide +kernel
theorem dX2_needDate_25 : decode cX2_needDate 25 = .ok (.return_, 1) := by decide +kernel
theorem dX1_changeWeight_0 : decode cX1_changeWeight 0 = .ok (.aload_n 0, 1) := by decide +kernel
theorem dX1_changeWeight_1 : decode cX1_changeWeight 1 = .ok (.iload_n 1, 1) := by decide +kernel
theorem dX1_changeWeight_2 : decode cX1_changeWeight 2 = .ok (.iload_n 2, 1) := by decide +kernel
theorem dX1_changeWeight_3 : decode cX1_changeWeight 3 = .ok (.invokevirtual 45, 3) := by decide +kernel
theorem dX1_changeWeight_6 : decode cX1_changeWeight 6 = .ok (.istore 4, 2) := by decide +kernel
theorem dX1_changeWeight_8 : decode cX1_changeWeight 8 = .ok (.aload_n 0, 1) := by decide +kernel
theorem dX1_changeWeight_9 : decode cX1_changeWeight 9 = .ok (.getfield 23, 3) := by decide +kernel
theorem dX1_changeWeight_12 : decode cX1_changeWeight 12 = .ok (.iload_n 1, 1) := by decide +kernel
theorem dX1_changeWeight_13 : decode cX1_changeWeight 13 = .ok (.aaload, 1) := by decide +kernel
theorem dX1_changeWeight_14 : decode cX1_changeWeight 14 = .ok (.iload_n 2, 1) := by decide +kernel
theorem dX1_changeWeight_15 : decode cX1_changeWeight 15 = .ok (.aload_n 0, 1) := by decide +kernel
theorem dX1_changeWeight_16 : decode cX1_changeWeight 16 = .ok (.getfield 9, 3) := by decide +kernel
theorem dX1_changeWeight_19 : decode cX1_changeWeight 19 = .ok (.iload_n 1, 1) := by decide +kernel
theorem dX1_changeWeight_20 : decode cX1_changeWeight 20 = .ok (.iaload, 1) := by decide +kernel
theorem dX1_changeWeight_21 : decode cX1_changeWeight 21 = .ok (.isub, 1) := by decide +kernel
theorem dX1_changeWeight_22 : decode cX1_changeWeight 22 = .ok (.iload_n 3, 1) := by decide +kernel
theorem dX1_changeWeight_23 : decode cX1_changeWeight 23 = .ok (.iastore, 1) := by decide +kernel
theorem dX1_changeWeight_24 : decode cX1_changeWeight 24 = .ok (.iload 4, 2) := by decide +kernel
theorem dX1_changeWeight_26 : decode cX1_changeWeight 26 = .ok (.ireturn, 1) := by decide +kernel
theorem dX1_weightOf_0 : decode cX1_weightOf 0 = .ok (.aload_n 0, 1) := by decide +kernel
theorem dX1_weightOf_1 : decode cX1_weightOf 1 = .ok (.getfield 23, 3) := by decide +kernel
theorem dX1_weightOf_4 : decode cX1_weightOf 4 = .ok (.iload_n 1, 1) := by decide +kernel
theorem dX1_weightOf_5 : decode cX1_weightOf 5 = .ok (.aaload, 1) := by decide +kernel
theorem dX1_weightOf_6 : decode cX1_weightOf 6 = .ok (.iload_n 2, 1) := by decide +kernel
theorem dX1_weightOf_7 : decode cX1_weightOf 7 = .ok (.aload_n 0, 1) := by decide +kernel
theorem dX1_weightOf_8 : decode cX1_weightOf 8 = .ok (.getfield 9, 3) := by decide +kernel
theorem dX1_weightOf_11 : decode cX1_weightOf 11 = .ok (.iload_n 1, 1) := by decide +kernel
theorem dX1_weightOf_12 : decode cX1_weightOf 12 = .ok (.iaload, 1) := by decide +kernel
theorem dX1_weightOf_13 : decode cX1_weightOf 13 = .ok (.isub, 1) := by decide +kernel
theorem dX1_weightOf_14 : decode cX1_weightOf 14 = .ok (.iaload, 1) := by decide +kernel
theorem dX1_weightOf_15 : decode cX1_weightOf 15 = .ok (.ireturn, 1) := by decide +kernel
theorem dX2_before_0 : decode cX2_before 0 = .ok (.aload_n 0, 1) := by decide +kernel
theorem dX2_before_1 : decode cX2_before 1 = .ok (.iload_n 1, 1) := by decide +kernel
theorem dX2_before_2 : decode cX2_before 2 = .ok (.invokevirtual 92, 3) := by decide +kernel
theorem dX2_before_5 : decode cX2_before 5 = .ok (.aload_n 0, 1) := by decide +kernel
theorem dX2_before_6 : decode cX2_before 6 = .ok (.iload_n 2, 1) := by decide +kernel
theorem dX2_before_7 : decode cX2_before 7 = .ok (.invokevirtual 92, 3) := by decide +kernel
theorem dX2_before_10 : decode cX2_before 10 = .ok (.iload_n 3, 1) := by decide +kernel
theorem dX2_before_11 : decode cX2_before 11 = .ok (.invokestatic 58, 3) := by decide +kernel
theorem dX2_before_14 : decode cX2_before 14 = .ok (.iload 4, 2) := by decide +kernel
theorem dX2_before_16 : decode cX2_before 16 = .ok (.invokestatic 58, 3) := by decide +kernel
theorem dX2_before_19 : decode cX2_before 19 = .ok (.iload_n 1, 1) := by decide +kernel
theorem dX2_before_20 : decode cX2_before 20 = .ok (.iload_n 2, 1) := by decide +kernel
theorem dX2_before_21 : decode cX2_before 21 = .ok (.if_icmp .eq 9, 3) := by decide +kernel
theorem dX2_before_24 : decode cX2_before 24 = .ok (.iload_n 3, 1) := by decide +kernel
theorem dX2_before_25 : decode cX2_before 25 = .ok (.iload 4, 2) := by decide +kernel
theorem dX2_before_27 : decode cX2_before 27 = .ok (.if_icmp .le 13, 3) := by decide +kernel
theorem dX2_before_30 : decode cX2_before 30 = .ok (.new 61, 3) := by decide +kernel
theorem dX2_before_33 : decode cX2_before 33 = .ok (.dup, 1) := by decide +kernel
theorem dX2_before_34 : decode cX2_before 34 = .ok (.ldc 95, 2) := by decide +kernel
theorem dX2_before_36 : decode cX2_before 36 = .ok (.invokespecial 65, 3) := by decide +kernel
theorem dX2_before_39 : decode cX2_before 39 = .ok (.athrow, 1) := by decide +kernel
theorem dX2_before_40 : decode cX2_before 40 = .ok (.aload_n 0, 1) := by decide +kernel
theorem dX2_before_41 : decode cX2_before 41 = .ok (.getfield 28, 3) := by decide +kernel
theorem dX2_before_44 : decode cX2_before 44 = .ok (.getfield 97, 3) := by decide +kernel
theorem dX2_before_47 : decode cX2_before 47 = .ok (.bipush 24, 2) := by decide +kernel
theorem dX2_before_49 : decode cX2_before 49 = .ok (.if_icmp .lt 13, 3) := by decide +kernel
theorem dX2_before_52 : decode cX2_before 52 = .ok (.new 71, 3) := by decide +kernel
theorem dX2_before_55 : decode cX2_before 55 = .ok (.dup, 1) := by decide +kernel
theorem dX2_before_56 : decode cX2_before 56 = .ok (.ldc 100, 2) := by decide +kernel
theorem dX2_before_58 : decode cX2_before 58 = .ok (.invokespecial 75, 3) := by decide +kernel
theorem dX2_before_61 : decode cX2_before 61 = .ok (.athrow, 1) := by decide +kernel
theorem dX2_before_62 : decode cX2_before 62 = .ok (.aload_n 0, 1) := by decide +kernel
theorem dX2_before_63 : decode cX2_before 63 = .ok (.invokevirtual 76, 3) := by decide +kernel
theorem dX2_before_66 : decode cX2_before 66 = .ok (.aload_n 0, 1) := by decide +kernel
theorem dX2_before_67 : decode cX2_before 67 = .ok (.getfield 28, 3) := by decide +kernel
theorem dX2_before_70 : decode cX2_before 70 = .ok (.iload_n 1, 1) := by decide +kernel
theorem dX2_before_71 : decode cX2_before 71 = .ok (.iload_n 2, 1) := by decide +kernel
theorem dX2_before_72 : decode cX2_before 72 = .ok (.iload_n 3, 1) := by decide +kernel
theorem dX2_before_73 : decode cX2_before 73 = .ok (.iload 4, 2) := by decide +kernel
theorem dX2_before_75 : decode cX2_before 75 = .ok (.invokevirtual 102, 3) := by decide +kernel
theorem dX2_before_78 : decode cX2_before 78 = .ok (.ireturn, 1) := by decide +kernel
theorem dX1_addOrder_0 : decode cX1_addOrder 0 = .ok (.aload_n 0, 1) := by decide +kernel
theorem dX1_addOrder_1 : decode cX1_addOrder 1 = .ok (.getfield 42, 3) := by decide +kernel
theorem dX1_addOrder_4 : decode cX1_addOrder 4 = .ok (.istore 5, 2) := by decide +kernel
theorem dX1_addOrder_6 : decode cX1_addOrder 6 = .ok (.aload_n 0, 1) := by decide +kernel
theorem dX1_addOrder_7 : decode cX1_addOrder 7 = .ok (.getfield 26, 3) := by decide +kernel
theorem dX1_addOrder_10 : decode cX1_addOrder 10 = .ok (.iload 5, 2) := by decide +kernel
theorem dX1_addOrder_12 : decode cX1_addOrder 12 = .ok (.iload_n 1, 1) := by decide +kernel
theorem dX1_addOrder_13 : decode cX1_addOrder 13 = .ok (.iastore, 1) := by decide +kernel
theorem dX1_addOrder_14 : decode cX1_addOrder 14 = .ok (.aload_n 0, 1) := by decide +kernel
theorem dX1_addOrder_15 : decode cX1_addOrder 15 = .ok (.getfield 29, 3) := by decide +kernel
theorem dX1_addOrder_18 : decode cX1_addOrder 18 = .ok (.iload 5, 2) := by decide +kernel
theorem dX1_addOrder_20 : decode cX1_addOrder 20 = .ok (.iload_n 2, 1) := by decide +kernel
theorem dX1_addOrder_21 : decode cX1_addOrder 21 = .ok (.iastore, 1) := by decide +kernel
theorem dX1_addOrder_22 : decode cX1_addOrder 22 = .ok (.aload_n 0, 1) := by decide +kernel
theorem dX1_addOrder_23 : decode cX1_addOrder 23 = .ok (.getfield 32, 3) := by decide +kernel
theorem dX1_addOrder_26 : decode cX1_addOrder 26 = .ok (.iload 5, 2) := by decide +kernel
theorem dX1_addOrder_28 : decode cX1_addOrder 28 = .ok (.iload_n 3, 1) := by decide +kernel
theorem dX1_addOrder_29 : decode cX1_addOrder 29 = .ok (.iastore, 1) := by decide +kernel
theorem dX1_addOrder_30 : decode cX1_addOrder 30 = .ok (.aload_n 0, 1) := by decide +kernel
theorem dX1_addOrder_31 : decode cX1_addOrder 31 = .ok (.getfield 35, 3) := by decide +kernel
theorem dX1_addOrder_34 : decode cX1_addOrder 34 = .ok (.iload 5, 2) := by decide +kernel
theorem dX1_addOrder_36 : decode cX1_addOrder 36 = .ok (.iload 4, 2) := by decide +kernel
theorem dX1_addOrder_38 : decode cX1_addOrder 38 = .ok (.iastore, 1) := by decide +kernel
theorem dX1_addOrder_39 : decode cX1_addOrder 39 = .ok (.aload_n 0, 1) := by decide +kernel
theorem dX1_addOrder_40 : decode cX1_addOrder 40 = .ok (.dup, 1) := by decide +kernel
theorem dX1_addOrder_41 : decode cX1_addOrder 41 = .ok (.getfield 42, 3) := by decide +kernel
theorem dX1_addOrder_44 : decode cX1_addOrder 44 = .ok (.iconst 1, 1) := by decide +kernel
theorem dX1_addOrder_45 : decode cX1_addOrder 45 = .ok (.iadd, 1) := by decide +kernel
theorem dX1_addOrder_46 : decode cX1_addOrder 46 = .ok (.putfield 42, 3) := by decide +kernel
theorem dX1_addOrder_49 : decode cX1_addOrder 49 = .ok (.iload 5, 2) := by decide +kernel
theorem dX1_addOrder_51 : decode cX1_addOrder 51 = .ok (.ireturn, 1) := by decide +kernel
theorem dX2_member_0 : decode cX2_member 0 = .ok (.aload_n 0, 1) := by decide +kernel
theorem dX2_member_1 : decode cX2_member 1 = .ok (.iload_n 1, 1) := by decide +kernel
theorem dX2_member_2 : decode cX2_member 2 = .ok (.invokevirtual 92, 3) := by decide +kernel
theorem dX2_member_5 : decode cX2_member 5 = .ok (.iload_n 2, 1) := by decide +kernel
theorem dX2_member_6 : decode cX2_member 6 = .ok (.iconst (-1), 1) := by decide +kernel
theorem dX2_member_7 : decode cX2_member 7 = .ok (.if_icmp .eq 7, 3) := by decide +kernel
theorem dX2_member_10 : decode cX2_member 10 = .ok (.iload_n 2, 1) := by decide +kernel
theorem dX2_member_11 : decode cX2_member 11 = .ok (.invokestatic 106, 3) := by decide +kernel
theorem dX2_member_14 : decode cX2_member 14 = .ok (.aload_n 0, 1) := by decide +kernel
theorem dX2_member_15 : decode cX2_member 15 = .ok (.getfield 28, 3) := by decide +kernel
theorem dX2_member_18 : decode cX2_member 18 = .ok (.getfield 109, 3) := by decide +kernel
theorem dX2_member_21 : decode cX2_member 21 = .ok (.iload_n 1, 1) := by decide +kernel
theorem dX2_member_22 : decode cX2_member 22 = .ok (.iaload, 1) := by decide +kernel
theorem dX2_member_23 : decode cX2_member 23 = .ok (.istore_n 3, 1) := by decide +kernel
theorem dX2_member_24 : decode cX2_member 24 = .ok (.aload_n 0, 1) := by decide +kernel
theorem dX2_member_25 : decode cX2_member 25 = .ok (.getfield 28, 3) := by decide +kernel
theorem dX2_member_28 : decode cX2_member 28 = .ok (.getfield 109, 3) := by decide +kernel
theorem dX2_member_31 : decode cX2_member 31 = .ok (.iload_n 1, 1) := by decide +kernel
theorem dX2_member_32 : decode cX2_member 32 = .ok (.iload_n 2, 1) := by decide +kernel
theorem dX2_member_33 : decode cX2_member 33 = .ok (.iastore, 1) := by decide +kernel
theorem dX2_member_34 : decode cX2_member 34 = .ok (.iload_n 3, 1) := by decide +kernel
theorem dX2_member_35 : decode cX2_member 35 = .ok (.ireturn, 1) := by decide +kernel
theorem dX2_needPhase_0 : decode cX2_needPhase 0 = .ok (.iload_n 0, 1) := by decide +kernel
theorem dX2_needPhase_1 : decode cX2_needPhase 1 = .ok (.ifCond .lt 8, 3) := by decide +kernel
theorem dX2_needPhase_4 : decode cX2_needPhase 4 = .ok (.iload_n 0, 1) := by decide +kernel
theorem dX2_needPhase_5 : decode cX2_needPhase 5 = .ok (.iconst 4, 1) := by decide +kernel
theorem dX2_needPhase_6 : decode cX2_needPhase 6 = .ok (.if_icmp .lt 13, 3) := by decide +kernel
theorem dX2_needPhase_9 : decode cX2_needPhase 9 = .ok (.new 150, 3) := by decide +kernel
theorem dX2_needPhase_12 : decode cX2_needPhase 12 = .ok (.dup, 1) := by decide +kernel
theorem dX2_needPhase_13 : decode cX2_needPhase 13 = .ok (.ldc 194, 2) := by decide +kernel
theorem dX2_needPhase_15 : decode cX2_needPhase 15 = .ok (.invokespecial 154, 3) := by decide +kernel
theorem dX2_needPhase_18 : decode cX2_needPhase 18 = .ok (.athrow, 1) := by decide +kernel
theorem dX2_needPhase_19 : decode cX2_needPhase 19 = .ok (.return_, 1) := by decide +kernel
theorem dX2_burn_0 : decode cX2_burn 0 = .ok (.iload_n 1, 1) := by decide +kernel
theorem dX2_burn_1 : decode cX2_burn 1 = .ok (.ifCond .lt 9, 3) := by decide +kernel
theorem dX2_burn_4 : decode cX2_burn 4 = .ok (.iload_n 1, 1) := by decide +kernel
theorem dX2_burn_5 : decode cX2_burn 5 = .ok (.bipush 100, 2) := by decide +kernel
theorem dX2_burn_7 : decode cX2_burn 7 = .ok (.if_icmp .le 13, 3) := by decide +kernel
theorem dX2_burn_10 : decode cX2_burn 10 = .ok (.new 61, 3) := by decide +kernel
theorem dX2_burn_13 : decode cX2_burn 13 = .ok (.dup, 1) := by decide +kernel
theorem dX2_burn_14 : decode cX2_burn 14 = .ok (.ldc 113, 2) := by decide +kernel
theorem dX2_burn_16 : decode cX2_burn 16 = .ok (.invokespecial 65, 3) := by decide +kernel
theorem dX2_burn_19 : decode cX2_burn 19 = .ok (.athrow, 1) := by decide +kernel
theorem dX2_burn_20 : decode cX2_burn 20 = .ok (.aload_n 0, 1) := by decide +kernel
theorem dX2_burn_21 : decode cX2_burn 21 = .ok (.getfield 52, 3) := by decide +kernel
theorem dX2_burn_24 : decode cX2_burn 24 = .ok (.istore_n 2, 1) := by decide +kernel
theorem dX2_burn_25 : decode cX2_burn 25 = .ok (.aload_n 0, 1) := by decide +kernel
theorem dX2_burn_26 : decode cX2_burn 26 = .ok (.iload_n 1, 1) := by decide +kernel
theorem dX2_burn_27 : decode cX2_burn 27 = .ok (.putfield 52, 3) := by decide +kernel
theorem dX2_burn_30 : decode cX2_burn 30 = .ok (.iload_n 2, 1) := by decide +kernel
theorem dX2_burn_31 : decode cX2_burn 31 = .ok (.ireturn, 1) := by decide +kernel
theorem dX2_thin_0 : decode cX2_thin 0 = .ok (.iload_n 1, 1) := by decide +kernel
theorem dX2_thin_1 : decode cX2_thin 1 = .ok (.iconst 1, 1) := by decide +kernel
theorem dX2_thin_2 : decode cX2_thin 2 = .ok (.if_icmp .lt 9, 3) := by decide +kernel
theorem dX2_thin_5 : decode cX2_thin 5 = .ok (.iload_n 1, 1) := by decide +kernel
theorem dX2_thin_6 : decode cX2_thin 6 = .ok (.bipush 20, 2) := by decide +kernel
theorem dX2_thin_8 : decode cX2_thin 8 = .ok (.if_icmp .le 13, 3) := by decide +kernel
theorem dX2_thin_11 : decode cX2_thin 11 = .ok (.new 61, 3) := by decide +kernel
theorem dX2_thin_14 : decode cX2_thin 14 = .ok (.dup, 1) := by decide +kernel
theorem dX2_thin_15 : decode cX2_thin 15 = .ok (.ldc 115, 2) := by decide +kernel
theorem dX2_thin_17 : decode cX2_thin 17 = .ok (.invokespecial 65, 3) := by decide +kernel
theorem dX2_thin_20 : decode cX2_thin 20 = .ok (.athrow, 1) := by decide +kernel
theorem dX2_thin_21 : decode cX2_thin 21 = .ok (.aload_n 0, 1) := by decide +kernel
theorem dX2_thin_22 : decode cX2_thin 22 = .ok (.getfield 55, 3) := by decide +kernel
theorem dX2_thin_25 : decode cX2_thin 25 = .ok (.istore_n 2, 1) := by decide +kernel
theorem dX2_thin_26 : decode cX2_thin 26 = .ok (.aload_n 0, 1) := by decide +kernel
theorem dX2_thin_27 : decode cX2_thin 27 = .ok (.iload_n 1, 1) := by decide +kernel
theorem dX2_thin_28 : decode cX2_thin 28 = .ok (.putfield 55, 3) := by decide +kernel
theorem dX2_thin_31 : decode cX2_thin 31 = .ok (.iload_n 2, 1) := by decide +kernel
theorem dX2_thin_32 : decode cX2_thin 32 = .ok (.ireturn, 1) := by decide +kernel
theorem dX2_run_0 : decode cX2_run 0 = .ok (.iload_n 1, 1) := by decide +kernel
theorem dX2_run_1 : decode cX2_run 1 = .ok (.ifCond .lt 9, 3) := by decide +kernel
theorem dX2_run_4 : decode cX2_run 4 = .ok (.iload_n 1, 1) := by decide +kernel
theorem dX2_run_5 : decode cX2_run 5 = .ok (.bipush 100, 2) := by decide +kernel
theorem dX2_run_7 : decode cX2_run 7 = .ok (.if_icmp .le 13, 3) := by decide +kernel
theorem dX2_run_10 : decode cX2_run 10 = .ok (.new 61, 3) := by decide +kernel
theorem dX2_run_13 : decode cX2_run 13 = .ok (.dup, 1) := by decide +kernel
theorem dX2_run_14 : decode cX2_run 14 = .ok (.ldc 137, 2) := by decide +kernel
theorem dX2_run_16 : decode cX2_run 16 = .ok (.invokespecial 65, 3) := by decide +kernel
theorem dX2_run_19 : decode cX2_run 19 = .ok (.athrow, 1) := by decide +kernel
theorem dX2_run_20 : decode cX2_run 20 = .ok (.aload_n 0, 1) := by decide +kernel
theorem dX2_run_21 : decode cX2_run 21 = .ok (.invokevirtual 138, 3) := by decide +kernel
theorem dX2_run_24 : decode cX2_run 24 = .ok (.aload_n 0, 1) := by decide +kernel
theorem dX2_run_25 : decode cX2_run 25 = .ok (.getfield 37, 3) := by decide +kernel
theorem dX2_run_28 : decode cX2_run 28 = .ok (.getfield 117, 3) := by decide +kernel
theorem dX2_run_31 : decode cX2_run 31 = .ok (.aload_n 0, 1) := by decide +kernel
theorem dX2_run_32 : decode cX2_run 32 = .ok (.iload_n 1, 1) := by decide +kernel
theorem dX2_run_33 : decode cX2_run 33 = .ok (.invokevirtual 141, 3) := by decide +kernel
theorem dX2_run_36 : decode cX2_run 36 = .ok (.iadd, 1) := by decide +kernel
theorem dX2_run_37 : decode cX2_run 37 = .ok (.bipush 60, 2) := by decide +kernel
theorem dX2_run_39 : decode cX2_run 39 = .ok (.if_icmp .le 13, 3) := by decide +kernel
theorem dX2_run_42 : decode cX2_run 42 = .ok (.new 71, 3) := by decide +kernel
theorem dX2_run_45 : decode cX2_run 45 = .ok (.dup, 1) := by decide +kernel
theorem dX2_run_46 : decode cX2_run 46 = .ok (.ldc 145, 2) := by decide +kernel
theorem dX2_run_48 : decode cX2_run 48 = .ok (.invokespecial 75, 3) := by decide +kernel
theorem dX2_run_51 : decode cX2_run 51 = .ok (.athrow, 1) := by decide +kernel
theorem dX2_run_52 : decode cX2_run 52 = .ok (.iconst 0, 1) := by decide +kernel
theorem dX2_run_53 : decode cX2_run 53 = .ok (.istore_n 2, 1) := by decide +kernel
theorem dX2_run_54 : decode cX2_run 54 = .ok (.iload_n 2, 1) := by decide +kernel
theorem dX2_run_55 : decode cX2_run 55 = .ok (.iload_n 1, 1) := by decide +kernel
theorem dX2_run_56 : decode cX2_run 56 = .ok (.if_icmp .ge 13, 3) := by decide +kernel
theorem dX2_run_59 : decode cX2_run 59 = .ok (.aload_n 0, 1) := by decide +kernel
theorem dX2_run_60 : decode cX2_run 60 = .ok (.invokevirtual 147, 3) := by decide +kernel
theorem dX2_run_63 : decode cX2_run 63 = .ok (.iinc 2 1, 3) := by decide +kernel
theorem dX2_run_66 : decode cX2_run 66 = .ok (.goto (-12), 3) := by decide +kernel
theorem dX2_run_69 : decode cX2_run 69 = .ok (.aload_n 0, 1) := by decide +kernel
theorem dX2_run_70 : decode cX2_run 70 = .ok (.getfield 37, 3) := by decide +kernel
theorem dX2_run_73 : decode cX2_run 73 = .ok (.getfield 117, 3) := by decide +kernel
theorem dX2_run_76 : decode cX2_run 76 = .ok (.ireturn, 1) := by decide +kernel
theorem dX2_needStarted_0 : decode cX2_needStarted 0 = .ok (.aload_n 0, 1) := by decide +kernel
theorem dX2_needStarted_1 : decode cX2_needStarted 1 = .ok (.getfield 48, 3) := by decide +kernel
theorem dX2_needStarted_4 : decode cX2_needStarted 4 = .ok (.ifCond .ne 13, 3) := by decide +kernel
theorem dX2_needStarted_7 : decode cX2_needStarted 7 = .ok (.new 71, 3) := by decide +kernel
theorem dX2_needStarted_10 : decode cX2_needStarted 10 = .ok (.dup, 1) := by decide +kernel
theorem dX2_needStarted_11 : decode cX2_needStarted 11 = .ok (.ldc 196, 2) := by decide +kernel
theorem dX2_needStarted_13 : decode cX2_needStarted 13 = .ok (.invokespecial 75, 3) := by decide +kernel
theorem dX2_needStarted_16 : decode cX2_needStarted 16 = .ok (.athrow, 1) := by decide +kernel
theorem dX2_needStarted_17 : decode cX2_needStarted 17 = .ok (.return_, 1) := by decide +kernel
theorem dX2_rowsToCome_0 : decode cX2_rowsToCome 0 = .ok (.iconst 0, 1) := by decide +kernel
theorem dX2_rowsToCome_1 : decode cX2_rowsToCome 1 = .ok (.istore_n 2, 1) := by decide +kernel
theorem dX2_rowsToCome_2 : decode cX2_rowsToCome 2 = .ok (.iconst 1, 1) := by decide +kernel
theorem dX2_rowsToCome_3 : decode cX2_rowsToCome 3 = .ok (.istore_n 3, 1) := by decide +kernel
theorem dX2_rowsToCome_4 : decode cX2_rowsToCome 4 = .ok (.iload_n 3, 1) := by decide +kernel
theorem dX2_rowsToCome_5 : decode cX2_rowsToCome 5 = .ok (.iload_n 1, 1) := by decide +kernel
theorem dX2_rowsToCome_6 : decode cX2_rowsToCome 6 = .ok (.if_icmp .gt 28, 3) := by decide +kernel
theorem dX2_rowsToCome_9 : decode cX2_rowsToCome 9 = .ok (.aload_n 0, 1) := by decide +kernel
theorem dX2_rowsToCome_10 : decode cX2_rowsToCome 10 = .ok (.aload_n 0, 1) := by decide +kernel
theorem dX2_rowsToCome_11 : decode cX2_rowsToCome 11 = .ok (.getfield 37, 3) := by decide +kernel
theorem dX2_rowsToCome_14 : decode cX2_rowsToCome 14 = .ok (.getfield 120, 3) := by decide +kernel
theorem dX2_rowsToCome_17 : decode cX2_rowsToCome 17 = .ok (.iload_n 3, 1) := by decide +kernel
theorem dX2_rowsToCome_18 : decode cX2_rowsToCome 18 = .ok (.iadd, 1) := by decide +kernel
theorem dX2_rowsToCome_19 : decode cX2_rowsToCome 19 = .ok (.invokevirtual 198, 3) := by decide +kernel
theorem dX2_rowsToCome_22 : decode cX2_rowsToCome 22 = .ok (.ifCond .eq 6, 3) := by decide +kernel
theorem dX2_rowsToCome_25 : decode cX2_rowsToCome 25 = .ok (.iinc 2 1, 3) := by decide +kernel
theorem dX2_rowsToCome_28 : decode cX2_rowsToCome 28 = .ok (.iinc 3 1, 3) := by decide +kernel
theorem dX2_rowsToCome_31 : decode cX2_rowsToCome 31 = .ok (.goto (-27), 3) := by decide +kernel
theorem dX2_rowsToCome_34 : decode cX2_rowsToCome 34 = .ok (.iload_n 2, 1) := by decide +kernel
theorem dX2_rowsToCome_35 : decode cX2_rowsToCome 35 = .ok (.ireturn, 1) := by decide +kernel
theorem dX2_isKept_0 : decode cX2_isKept 0 = .ok (.iload_n 1, 1) := by decide +kernel
theorem dX2_isKept_1 : decode cX2_isKept 1 = .ok (.aload_n 0, 1) := by decide +kernel
theorem dX2_isKept_2 : decode cX2_isKept 2 = .ok (.getfield 52, 3) := by decide +kernel
theorem dX2_isKept_5 : decode cX2_isKept 5 = .ok (.if_icmp .le 28, 3) := by decide +kernel
theorem dX2_isKept_8 : decode cX2_isKept 8 = .ok (.aload_n 0, 1) := by decide +kernel
theorem dX2_isKept_9 : decode cX2_isKept 9 = .ok (.getfield 55, 3) := by decide +kernel
theorem dX2_isKept_12 : decode cX2_isKept 12 = .ok (.ifCond .le 21, 3) := by decide +kernel
theorem dX2_isKept_15 : decode cX2_isKept 15 = .ok (.iload_n 1, 1) := by decide +kernel
theorem dX2_isKept_16 : decode cX2_isKept 16 = .ok (.aload_n 0, 1) := by decide +kernel
theorem dX2_isKept_17 : decode cX2_isKept 17 = .ok (.getfield 52, 3) := by decide +kernel
theorem dX2_isKept_20 : decode cX2_isKept 20 = .ok (.isub, 1) := by decide +kernel
theorem dX2_isKept_21 : decode cX2_isKept 21 = .ok (.aload_n 0, 1) := by decide +kernel
theorem dX2_isKept_22 : decode cX2_isKept 22 = .ok (.getfield 55, 3) := by decide +kernel
theorem dX2_isKept_25 : decode cX2_isKept 25 = .ok (.irem, 1) := by decide +kernel
theorem dX2_isKept_26 : decode cX2_isKept 26 = .ok (.ifCond .ne 7, 3) := by decide +kernel
theorem dX2_isKept_29 : decode cX2_isKept 29 = .ok (.iconst 1, 1) := by decide +kernel
theorem dX2_isKept_30 : decode cX2_isKept 30 = .ok (.goto 4, 3) := by decide +kernel
theorem dX2_isKept_33 : decode cX2_isKept 33 = .ok (.iconst 0, 1) := by decide +kernel
theorem dX2_isKept_34 : decode cX2_isKept 34 = .ok (.ireturn, 1) := by decide +kernel
theorem dX2_stepAll_0 : decode cX2_stepAll 0 = .ok (.iconst 0, 1) := by decide +kernel
theorem dX2_stepAll_1 : decode cX2_stepAll 1 = .ok (.istore_n 1, 1) := by decide +kernel
theorem dX2_stepAll_2 : decode cX2_stepAll 2 = .ok (.iload_n 1, 1) := by decide +kernel
theorem dX2_stepAll_3 : decode cX2_stepAll 3 = .ok (.aload_n 0, 1) := by decide +kernel
theorem dX2_stepAll_4 : decode cX2_stepAll 4 = .ok (.getfield 22, 3) := by decide +kernel
theorem dX2_stepAll_7 : decode cX2_stepAll 7 = .ok (.if_icmp .ge 14, 3) := by decide +kernel
theorem dX2_stepAll_10 : decode cX2_stepAll 10 = .ok (.aload_n 0, 1) := by decide +kernel
theorem dX2_stepAll_11 : decode cX2_stepAll 11 = .ok (.iload_n 1, 1) := by decide +kernel
theorem dX2_stepAll_12 : decode cX2_stepAll 12 = .ok (.invokevirtual 202, 3) := by decide +kernel
theorem dX2_stepAll_15 : decode cX2_stepAll 15 = .ok (.iinc 1 1, 3) := by decide +kernel
theorem dX2_stepAll_18 : decode cX2_stepAll 18 = .ok (.goto (-16), 3) := by decide +kernel
theorem dX2_stepAll_21 : decode cX2_stepAll 21 = .ok (.aload_n 0, 1) := by decide +kernel
theorem dX2_stepAll_22 : decode cX2_stepAll 22 = .ok (.getfield 37, 3) := by decide +kernel
theorem dX2_stepAll_25 : decode cX2_stepAll 25 = .ok (.dup, 1) := by decide +kernel
theorem dX2_stepAll_26 : decode cX2_stepAll 26 = .ok (.getfield 120, 3) := by decide +kernel
theorem dX2_stepAll_29 : decode cX2_stepAll 29 = .ok (.iconst 1, 1) := by decide +kernel
theorem dX2_stepAll_30 : decode cX2_stepAll 30 = .ok (.iadd, 1) := by decide +kernel
theorem dX2_stepAll_31 : decode cX2_stepAll 31 = .ok (.putfield 120, 3) := by decide +kernel
theorem dX2_stepAll_34 : decode cX2_stepAll 34 = .ok (.aload_n 0, 1) := by decide +kernel
theorem dX2_stepAll_35 : decode cX2_stepAll 35 = .ok (.aload_n 0, 1) := by decide +kernel
theorem dX2_stepAll_36 : decode cX2_stepAll 36 = .ok (.getfield 37, 3) := by decide +kernel
theorem dX2_stepAll_39 : decode cX2_stepAll 39 = .ok (.getfield 120, 3) := by decide +kernel
theorem dX2_stepAll_42 : decode cX2_stepAll 42 = .ok (.invokevirtual 198, 3) := by decide +kernel
theorem dX2_stepAll_45 : decode cX2_stepAll 45 = .ok (.ifCond .eq 10, 3) := by decide +kernel
theorem dX2_stepAll_48 : decode cX2_stepAll 48 = .ok (.aload_n 0, 1) := by decide +kernel
theorem dX2_stepAll_49 : decode cX2_stepAll 49 = .ok (.getfield 37, 3) := by decide +kernel
theorem dX2_stepAll_52 : decode cX2_stepAll 52 = .ok (.invokevirtual 205, 3) := by decide +kernel
theorem dX2_stepAll_55 : decode cX2_stepAll 55 = .ok (.return_, 1) := by decide +kernel
theorem dX2_stepChain_0 : decode cX2_stepChain 0 = .ok (.aload_n 0, 1) := by decide +kernel
theorem dX2_stepChain_1 : decode cX2_stepChain 1 = .ok (.getfield 37, 3) := by decide +kernel
theorem dX2_stepChain_4 : decode cX2_stepChain 4 = .ok (.getfield 129, 3) := by decide +kernel
theorem dX2_stepChain_7 : decode cX2_stepChain 7 = .ok (.iload_n 1, 1) := by decide +kernel
theorem dX2_stepChain_8 : decode cX2_stepChain 8 = .ok (.aaload, 1) := by decide +kernel
theorem dX2_stepChain_9 : decode cX2_stepChain 9 = .ok (.astore_n 2, 1) := by decide +kernel
theorem dX2_stepChain_10 : decode cX2_stepChain 10 = .ok (.iconst 0, 1) := by decide +kernel
theorem dX2_stepChain_11 : decode cX2_stepChain 11 = .ok (.istore_n 3, 1) := by decide +kernel
theorem dX2_stepChain_12 : decode cX2_stepChain 12 = .ok (.iload_n 3, 1) := by decide +kernel
theorem dX2_stepChain_13 : decode cX2_stepChain 13 = .ok (.aload_n 0, 1) := by decide +kernel
theorem dX2_stepChain_14 : decode cX2_stepChain 14 = .ok (.getfield 28, 3) := by decide +kernel
theorem dX2_stepChain_17 : decode cX2_stepChain 17 = .ok (.getfield 68, 3) := by decide +kernel
theorem dX2_stepChain_20 : decode cX2_stepChain 20 = .ok (.if_icmp .ge 59, 3) := by decide +kernel
theorem dX2_stepChain_23 : decode cX2_stepChain 23 = .ok (.aload_n 0, 1) := by decide +kernel
theorem dX2_stepChain_24 : decode cX2_stepChain 24 = .ok (.getfield 37, 3) := by decide +kernel
theorem dX2_stepChain_27 : decode cX2_stepChain 27 = .ok (.getfield 123, 3) := by decide +kernel
theorem dX2_stepChain_30 : decode cX2_stepChain 30 = .ok (.iload_n 1, 1) := by decide +kernel
theorem dX2_stepChain_31 : decode cX2_stepChain 31 = .ok (.ldc2_w 208, 3) := by decide +kernel
theorem dX2_stepChain_34 : decode cX2_stepChain 34 = .ok (.aload_n 0, 1) := by decide +kernel
theorem dX2_stepChain_35 : decode cX2_stepChain 35 = .ok (.getfield 37, 3) := by decide +kernel
theorem dX2_stepChain_38 : decode cX2_stepChain 38 = .ok (.getfield 123, 3) := by decide +kernel
theorem dX2_stepChain_41 : decode cX2_stepChain 41 = .ok (.iload_n 1, 1) := by decide +kernel
theorem dX2_stepChain_42 : decode cX2_stepChain 42 = .ok (.laload, 1) := by decide +kernel
theorem dX2_stepChain_43 : decode cX2_stepChain 43 = .ok (.lmul, 1) := by decide +kernel
theorem dX2_stepChain_44 : decode cX2_stepChain 44 = .ok (.ldc2_w 210, 3) := by decide +kernel
theorem dX2_stepChain_47 : decode cX2_stepChain 47 = .ok (.ladd, 1) := by decide +kernel
theorem dX2_stepChain_48 : decode cX2_stepChain 48 = .ok (.lastore, 1) := by decide +kernel
theorem dX2_stepChain_49 : decode cX2_stepChain 49 = .ok (.aload_n 2, 1) := by decide +kernel
theorem dX2_stepChain_50 : decode cX2_stepChain 50 = .ok (.iload_n 3, 1) := by decide +kernel
theorem dX2_stepChain_51 : decode cX2_stepChain 51 = .ok (.aload_n 0, 1) := by decide +kernel
theorem dX2_stepChain_52 : decode cX2_stepChain 52 = .ok (.getfield 28, 3) := by decide +kernel
theorem dX2_stepChain_55 : decode cX2_stepChain 55 = .ok (.iload_n 3, 1) := by decide +kernel
theorem dX2_stepChain_56 : decode cX2_stepChain 56 = .ok (.aload_n 2, 1) := by decide +kernel
theorem dX2_stepChain_57 : decode cX2_stepChain 57 = .ok (.aload_n 0, 1) := by decide +kernel
theorem dX2_stepChain_58 : decode cX2_stepChain 58 = .ok (.getfield 37, 3) := by decide +kernel
theorem dX2_stepChain_61 : decode cX2_stepChain 61 = .ok (.getfield 123, 3) := by decide +kernel
theorem dX2_stepChain_64 : decode cX2_stepChain 64 = .ok (.iload_n 1, 1) := by decide +kernel
theorem dX2_stepChain_65 : decode cX2_stepChain 65 = .ok (.laload, 1) := by decide +kernel
theorem dX2_stepChain_66 : decode cX2_stepChain 66 = .ok (.bipush 33, 2) := by decide +kernel
theorem dX2_stepChain_68 : decode cX2_stepChain 68 = .ok (.lushr, 1) := by decide +kernel
theorem dX2_stepChain_69 : decode cX2_stepChain 69 = .ok (.invokevirtual 212, 3) := by decide +kernel
theorem dX2_stepChain_72 : decode cX2_stepChain 72 = .ok (.iastore, 1) := by decide +kernel
theorem dX2_stepChain_73 : decode cX2_stepChain 73 = .ok (.iinc 3 1, 3) := by decide +kernel
theorem dX2_stepChain_76 : decode cX2_stepChain 76 = .ok (.goto (-64), 3) := by decide +kernel
theorem dX2_stepChain_79 : decode cX2_stepChain 79 = .ok (.return_, 1) := by decide +kernel
theorem dX1_drawnYear_0 : decode cX1_drawnYear 0 = .ok (.aload_n 0, 1) := by decide +kernel
theorem dX1_drawnYear_1 : decode cX1_drawnYear 1 = .ok (.iload_n 1, 1) := by decide +kernel
theorem dX1_drawnYear_2 : decode cX1_drawnYear 2 = .ok (.aload_n 2, 1) := by decide +kernel
theorem dX1_drawnYear_3 : decode cX1_drawnYear 3 = .ok (.invokevirtual 64, 3) := by decide +kernel
theorem dX1_drawnYear_6 : decode cX1_drawnYear 6 = .ok (.istore 5, 2) := by decide +kernel
theorem dX1_drawnYear_8 : decode cX1_drawnYear 8 = .ok (.aload_n 0, 1) := by decide +kernel
theorem dX1_drawnYear_9 : decode cX1_drawnYear 9 = .ok (.iload_n 1, 1) := by decide +kernel
theorem dX1_drawnYear_10 : decode cX1_drawnYear 10 = .ok (.aload_n 2, 1) := by decide +kernel
theorem dX1_drawnYear_11 : decode cX1_drawnYear 11 = .ok (.invokevirtual 68, 3) := by decide +kernel
theorem dX1_drawnYear_14 : decode cX1_drawnYear 14 = .ok (.istore 6, 2) := by decide +kernel
theorem dX1_drawnYear_16 : decode cX1_drawnYear 16 = .ok (.lconst 0, 1) := by decide +kernel
theorem dX1_drawnYear_17 : decode cX1_drawnYear 17 = .ok (.lstore 7, 2) := by decide +kernel
theorem dX1_drawnYear_19 : decode cX1_drawnYear 19 = .ok (.iload 5, 2) := by decide +kernel
theorem dX1_drawnYear_21 : decode cX1_drawnYear 21 = .ok (.istore 9, 2) := by decide +kernel
theorem dX1_drawnYear_23 : decode cX1_drawnYear 23 = .ok (.iload 9, 2) := by decide +kernel
theorem dX1_drawnYear_25 : decode cX1_drawnYear 25 = .ok (.iload 6, 2) := by decide +kernel
theorem dX1_drawnYear_27 : decode cX1_drawnYear 27 = .ok (.if_icmp .gt 22, 3) := by decide +kernel
theorem dX1_drawnYear_30 : decode cX1_drawnYear 30 = .ok (.lload 7, 2) := by decide +kernel
theorem dX1_drawnYear_32 : decode cX1_drawnYear 32 = .ok (.aload_n 0, 1) := by decide +kernel
theorem dX1_drawnYear_33 : decode cX1_drawnYear 33 = .ok (.iload_n 1, 1) := by decide +kernel
theorem dX1_drawnYear_34 : decode cX1_drawnYear 34 = .ok (.iload 9, 2) := by decide +kernel
theorem dX1_drawnYear_36 : decode cX1_drawnYear 36 = .ok (.invokevirtual 45, 3) := by decide +kernel
theorem dX1_drawnYear_39 : decode cX1_drawnYear 39 = .ok (.i2l, 1) := by decide +kernel
theorem dX1_drawnYear_40 : decode cX1_drawnYear 40 = .ok (.ladd, 1) := by decide +kernel
theorem dX1_drawnYear_41 : decode cX1_drawnYear 41 = .ok (.lstore 7, 2) := by decide +kernel
theorem dX1_drawnYear_43 : decode cX1_drawnYear 43 = .ok (.iinc 9 1, 3) := by decide +kernel
theorem dX1_drawnYear_46 : decode cX1_drawnYear 46 = .ok (.goto (-23), 3) := by decide +kernel
theorem dX1_drawnYear_49 : decode cX1_drawnYear 49 = .ok (.lload 7, 2) := by decide +kernel
theorem dX1_drawnYear_51 : decode cX1_drawnYear 51 = .ok (.lconst 0, 1) := by decide +kernel
theorem dX1_drawnYear_52 : decode cX1_drawnYear 52 = .ok (.lcmp, 1) := by decide +kernel
theorem dX1_drawnYear_53 : decode cX1_drawnYear 53 = .ok (.ifCond .gt 7, 3) := by decide +kernel
theorem dX1_drawnYear_56 : decode cX1_drawnYear 56 = .ok (.aload_n 2, 1) := by decide +kernel
theorem dX1_drawnYear_57 : decode cX1_drawnYear 57 = .ok (.iload_n 1, 1) := by decide +kernel
theorem dX1_drawnYear_58 : decode cX1_drawnYear 58 = .ok (.iaload, 1) := by decide +kernel
theorem dX1_drawnYear_59 : decode cX1_drawnYear 59 = .ok (.ireturn, 1) := by decide +kernel
theorem dX1_drawnYear_60 : decode cX1_drawnYear 60 = .ok (.lload_n 3, 1) := by decide +kernel
theorem dX1_drawnYear_61 : decode cX1_drawnYear 61 = .ok (.lload 7, 2) := by decide +kernel
theorem dX1_drawnYear_63 : decode cX1_drawnYear 63 = .ok (.lrem, 1) := by decide +kernel
theorem dX1_drawnYear_64 : decode cX1_drawnYear 64 = .ok (.lstore 9, 2) := by decide +kernel
theorem dX1_drawnYear_66 : decode cX1_drawnYear 66 = .ok (.iload 5, 2) := by decide +kernel
theorem dX1_drawnYear_68 : decode cX1_drawnYear 68 = .ok (.istore 11, 2) := by decide +kernel
theorem dX1_drawnYear_70 : decode cX1_drawnYear 70 = .ok (.iload 11, 2) := by decide +kernel
theorem dX1_drawnYear_72 : decode cX1_drawnYear 72 = .ok (.iload 6, 2) := by decide +kernel
theorem dX1_drawnYear_74 : decode cX1_drawnYear 74 = .ok (.if_icmp .ge 32, 3) := by decide +kernel
theorem dX1_drawnYear_77 : decode cX1_drawnYear 77 = .ok (.lload 9, 2) := by decide +kernel
theorem dX1_drawnYear_79 : decode cX1_drawnYear 79 = .ok (.aload_n 0, 1) := by decide +kernel
theorem dX1_drawnYear_80 : decode cX1_drawnYear 80 = .ok (.iload_n 1, 1) := by decide +kernel
theorem dX1_drawnYear_81 : decode cX1_drawnYear 81 = .ok (.iload 11, 2) := by decide +kernel
theorem dX1_drawnYear_83 : decode cX1_drawnYear 83 = .ok (.invokevirtual 45, 3) := by decide +kernel
theorem dX1_drawnYear_86 : decode cX1_drawnYear 86 = .ok (.i2l, 1) := by decide +kernel
theorem dX1_drawnYear_87 : decode cX1_drawnYear 87 = .ok (.lsub, 1) := by decide +kernel
theorem dX1_drawnYear_88 : decode cX1_drawnYear 88 = .ok (.lstore 9, 2) := by decide +kernel
theorem dX1_drawnYear_90 : decode cX1_drawnYear 90 = .ok (.lload 9, 2) := by decide +kernel
theorem dX1_drawnYear_92 : decode cX1_drawnYear 92 = .ok (.lconst 0, 1) := by decide +kernel
theorem dX1_drawnYear_93 : decode cX1_drawnYear 93 = .ok (.lcmp, 1) := by decide +kernel
theorem dX1_drawnYear_94 : decode cX1_drawnYear 94 = .ok (.ifCond .ge 6, 3) := by decide +kernel
theorem dX1_drawnYear_97 : decode cX1_drawnYear 97 = .ok (.iload 11, 2) := by decide +kernel
theorem dX1_drawnYear_99 : decode cX1_drawnYear 99 = .ok (.ireturn, 1) := by decide +kernel
theorem dX1_drawnYear_100 : decode cX1_drawnYear 100 = .ok (.iinc 11 1, 3) := by decide +kernel
theorem dX1_drawnYear_103 : decode cX1_drawnYear 103 = .ok (.goto (-33), 3) := by decide +kernel
theorem dX1_drawnYear_106 : decode cX1_drawnYear 106 = .ok (.iload 6, 2) := by decide +kernel
theorem dX1_drawnYear_108 : decode cX1_drawnYear 108 = .ok (.ireturn, 1) := by decide +kernel
theorem dX1_lowYear_0 : decode cX1_lowYear 0 = .ok (.aload_n 0, 1) := by decide +kernel
theorem dX1_lowYear_1 : decode cX1_lowYear 1 = .ok (.getfield 9, 3) := by decide +kernel
theorem dX1_lowYear_4 : decode cX1_lowYear 4 = .ok (.iload_n 1, 1) := by decide +kernel
theorem dX1_lowYear_5 : decode cX1_lowYear 5 = .ok (.iaload, 1) := by decide +kernel
theorem dX1_lowYear_6 : decode cX1_lowYear 6 = .ok (.istore_n 3, 1) := by decide +kernel
theorem dX1_lowYear_7 : decode cX1_lowYear 7 = .ok (.iconst 0, 1) := by decide +kernel
theorem dX1_lowYear_8 : decode cX1_lowYear 8 = .ok (.istore 4, 2) := by decide +kernel
theorem dX1_lowYear_10 : decode cX1_lowYear 10 = .ok (.iload 4, 2) := by decide +kernel
theorem dX1_lowYear_12 : decode cX1_lowYear 12 = .ok (.aload_n 0, 1) := by decide +kernel
theorem dX1_lowYear_13 : decode cX1_lowYear 13 = .ok (.getfield 42, 3) := by decide +kernel
theorem dX1_lowYear_16 : decode cX1_lowYear 16 = .ok (.if_icmp .ge 78, 3) := by decide +kernel
theorem dX1_lowYear_19 : decode cX1_lowYear 19 = .ok (.aload_n 0, 1) := by decide +kernel
theorem dX1_lowYear_20 : decode cX1_lowYear 20 = .ok (.getfield 29, 3) := by decide +kernel
theorem dX1_lowYear_23 : decode cX1_lowYear 23 = .ok (.iload 4, 2) := by decide +kernel
theorem dX1_lowYear_25 : decode cX1_lowYear 25 = .ok (.iaload, 1) := by decide +kernel
theorem dX1_lowYear_26 : decode cX1_lowYear 26 = .ok (.iload_n 1, 1) := by decide +kernel
theorem dX1_lowYear_27 : decode cX1_lowYear 27 = .ok (.if_icmp .ne 28, 3) := by decide +kernel
theorem dX1_lowYear_30 : decode cX1_lowYear 30 = .ok (.iload_n 3, 1) := by decide +kernel
theorem dX1_lowYear_31 : decode cX1_lowYear 31 = .ok (.aload_n 2, 1) := by decide +kernel
theorem dX1_lowYear_32 : decode cX1_lowYear 32 = .ok (.aload_n 0, 1) := by decide +kernel
theorem dX1_lowYear_33 : decode cX1_lowYear 33 = .ok (.getfield 26, 3) := by decide +kernel
theorem dX1_lowYear_36 : decode cX1_lowYear 36 = .ok (.iload 4, 2) := by decide +kernel
theorem dX1_lowYear_38 : decode cX1_lowYear 38 = .ok (.iaload, 1) := by decide +kernel
theorem dX1_lowYear_39 : decode cX1_lowYear 39 = .ok (.iaload, 1) := by decide +kernel
theorem dX1_lowYear_40 : decode cX1_lowYear 40 = .ok (.aload_n 0, 1) := by decide +kernel
theorem dX1_lowYear_41 : decode cX1_lowYear 41 = .ok (.getfield 32, 3) := by decide +kernel
theorem dX1_lowYear_44 : decode cX1_lowYear 44 = .ok (.iload 4, 2) := by decide +kernel
theorem dX1_lowYear_46 : decode cX1_lowYear 46 = .ok (.iaload, 1) := by decide +kernel
theorem dX1_lowYear_47 : decode cX1_lowYear 47 = .ok (.iadd, 1) := by decide +kernel
theorem dX1_lowYear_48 : decode cX1_lowYear 48 = .ok (.invokestatic 49, 3) := by decide +kernel
theorem dX1_lowYear_51 : decode cX1_lowYear 51 = .ok (.istore_n 3, 1) := by decide +kernel
theorem dX1_lowYear_52 : decode cX1_lowYear 52 = .ok (.goto 36, 3) := by decide +kernel
theorem dX1_lowYear_55 : decode cX1_lowYear 55 = .ok (.aload_n 0, 1) := by decide +kernel
theorem dX1_lowYear_56 : decode cX1_lowYear 56 = .ok (.getfield 26, 3) := by decide +kernel
theorem dX1_lowYear_59 : decode cX1_lowYear 59 = .ok (.iload 4, 2) := by decide +kernel
theorem dX1_lowYear_61 : decode cX1_lowYear 61 = .ok (.iaload, 1) := by decide +kernel
theorem dX1_lowYear_62 : decode cX1_lowYear 62 = .ok (.iload_n 1, 1) := by decide +kernel
theorem dX1_lowYear_63 : decode cX1_lowYear 63 = .ok (.if_icmp .ne 25, 3) := by decide +kernel
theorem dX1_lowYear_66 : decode cX1_lowYear 66 = .ok (.iload_n 3, 1) := by decide +kernel
theorem dX1_lowYear_67 : decode cX1_lowYear 67 = .ok (.aload_n 2, 1) := by decide +kernel
theorem dX1_lowYear_68 : decode cX1_lowYear 68 = .ok (.aload_n 0, 1) := by decide +kernel
theorem dX1_lowYear_69 : decode cX1_lowYear 69 = .ok (.getfield 29, 3) := by decide +kernel
theorem dX1_lowYear_72 : decode cX1_lowYear 72 = .ok (.iload 4, 2) := by decide +kernel
theorem dX1_lowYear_74 : decode cX1_lowYear 74 = .ok (.iaload, 1) := by decide +kernel
theorem dX1_lowYear_75 : decode cX1_lowYear 75 = .ok (.iaload, 1) := by decide +kernel
theorem dX1_lowYear_76 : decode cX1_lowYear 76 = .ok (.aload_n 0, 1) := by decide +kernel
theorem dX1_lowYear_77 : decode cX1_lowYear 77 = .ok (.getfield 35, 3) := by decide +kernel
theorem dX1_lowYear_80 : decode cX1_lowYear 80 = .ok (.iload 4, 2) := by decide +kernel
theorem dX1_lowYear_82 : decode cX1_lowYear 82 = .ok (.iaload, 1) := by decide +kernel
theorem dX1_lowYear_83 : decode cX1_lowYear 83 = .ok (.isub, 1) := by decide +kernel
theorem dX1_lowYear_84 : decode cX1_lowYear 84 = .ok (.invokestatic 49, 3) := by decide +kernel
theorem dX1_lowYear_87 : decode cX1_lowYear 87 = .ok (.istore_n 3, 1) := by decide +kernel
theorem dX1_lowYear_88 : decode cX1_lowYear 88 = .ok (.iinc 4 1, 3) := by decide +kernel
theorem dX1_lowYear_91 : decode cX1_lowYear 91 = .ok (.goto (-81), 3) := by decide +kernel
theorem dX1_lowYear_94 : decode cX1_lowYear 94 = .ok (.iload_n 3, 1) := by decide +kernel
theorem dX1_lowYear_95 : decode cX1_lowYear 95 = .ok (.ireturn, 1) := by decide +kernel
theorem dX1_highYear_0 : decode cX1_highYear 0 = .ok (.aload_n 0, 1) := by decide +kernel
theorem dX1_highYear_1 : decode cX1_highYear 1 = .ok (.getfield 15, 3) := by decide +kernel
theorem dX1_highYear_4 : decode cX1_highYear 4 = .ok (.iload_n 1, 1) := by decide +kernel
theorem dX1_highYear_5 : decode cX1_highYear 5 = .ok (.iaload, 1) := by decide +kernel
theorem dX1_highYear_6 : decode cX1_highYear 6 = .ok (.istore_n 3, 1) := by decide +kernel
theorem dX1_highYear_7 : decode cX1_highYear 7 = .ok (.iconst 0, 1) := by decide +kernel
theorem dX1_highYear_8 : decode cX1_highYear 8 = .ok (.istore 4, 2) := by decide +kernel
theorem dX1_highYear_10 : decode cX1_highYear 10 = .ok (.iload 4, 2) := by decide +kernel
theorem dX1_highYear_12 : decode cX1_highYear 12 = .ok (.aload_n 0, 1) := by decide +kernel
theorem dX1_highYear_13 : decode cX1_highYear 13 = .ok (.getfield 42, 3) := by decide +kernel
theorem dX1_highYear_16 : decode cX1_highYear 16 = .ok (.if_icmp .ge 78, 3) := by decide +kernel
theorem dX1_highYear_19 : decode cX1_highYear 19 = .ok (.aload_n 0, 1) := by decide +kernel
theorem dX1_highYear_20 : decode cX1_highYear 20 = .ok (.getfield 29, 3) := by decide +kernel
theorem dX1_highYear_23 : decode cX1_highYear 23 = .ok (.iload 4, 2) := by decide +kernel
theorem dX1_highYear_25 : decode cX1_highYear 25 = .ok (.iaload, 1) := by decide +kernel
theorem dX1_highYear_26 : decode cX1_highYear 26 = .ok (.iload_n 1, 1) := by decide +kernel
theorem dX1_highYear_27 : decode cX1_highYear 27 = .ok (.if_icmp .ne 28, 3) := by decide +kernel
theorem dX1_highYear_30 : decode cX1_highYear 30 = .ok (.iload_n 3, 1) := by decide +kernel
theorem dX1_highYear_31 : decode cX1_highYear 31 = .ok (.aload_n 2, 1) := by decide +kernel
theorem dX1_highYear_32 : decode cX1_highYear 32 = .ok (.aload_n 0, 1) := by decide +kernel
theorem dX1_highYear_33 : decode cX1_highYear 33 = .ok (.getfield 26, 3) := by decide +kernel
theorem dX1_highYear_36 : decode cX1_highYear 36 = .ok (.iload 4, 2) := by decide +kernel
theorem dX1_highYear_38 : decode cX1_highYear 38 = .ok (.iaload, 1) := by decide +kernel
theorem dX1_highYear_39 : decode cX1_highYear 39 = .ok (.iaload, 1) := by decide +kernel
theorem dX1_highYear_40 : decode cX1_highYear 40 = .ok (.aload_n 0, 1) := by decide +kernel
theorem dX1_highYear_41 : decode cX1_highYear 41 = .ok (.getfield 35, 3) := by decide +kernel
theorem dX1_highYear_44 : decode cX1_highYear 44 = .ok (.iload 4, 2) := by decide +kernel
theorem dX1_highYear_46 : decode cX1_highYear 46 = .ok (.iaload, 1) := by decide +kernel
theorem dX1_highYear_47 : decode cX1_highYear 47 = .ok (.iadd, 1) := by decide +kernel
theorem dX1_highYear_48 : decode cX1_highYear 48 = .ok (.invokestatic 61, 3) := by decide +kernel
theorem dX1_highYear_51 : decode cX1_highYear 51 = .ok (.istore_n 3, 1) := by decide +kernel
theorem dX1_highYear_52 : decode cX1_highYear 52 = .ok (.goto 36, 3) := by decide +kernel
theorem dX1_highYear_55 : decode cX1_highYear 55 = .ok (.aload_n 0, 1) := by decide +kernel
theorem dX1_highYear_56 : decode cX1_highYear 56 = .ok (.getfield 26, 3) := by decide +kernel
theorem dX1_highYear_59 : decode cX1_highYear 59 = .ok (.iload 4, 2) := by decide +kernel
theorem dX1_highYear_61 : decode cX1_highYear 61 = .ok (.iaload, 1) := by decide +kernel
theorem dX1_highYear_62 : decode cX1_highYear 62 = .ok (.iload_n 1, 1) := by decide +kernel
theorem dX1_highYear_63 : decode cX1_highYear 63 = .ok (.if_icmp .ne 25, 3) := by decide +kernel
theorem dX1_highYear_66 : decode cX1_highYear 66 = .ok (.iload_n 3, 1) := by decide +kernel
theorem dX1_highYear_67 : decode cX1_highYear 67 = .ok (.aload_n 2, 1) := by decide +kernel
theorem dX1_highYear_68 : decode cX1_highYear 68 = .ok (.aload_n 0, 1) := by decide +kernel
theorem dX1_highYear_69 : decode cX1_highYear 69 = .ok (.getfield 29, 3) := by decide +kernel
theorem dX1_highYear_72 : decode cX1_highYear 72 = .ok (.iload 4, 2) := by decide +kernel
theorem dX1_highYear_74 : decode cX1_highYear 74 = .ok (.iaload, 1) := by decide +kernel
theorem dX1_highYear_75 : decode cX1_highYear 75 = .ok (.iaload, 1) := by decide +kernel
theorem dX1_highYear_76 : decode cX1_highYear 76 = .ok (.aload_n 0, 1) := by decide +kernel
theorem dX1_highYear_77 : decode cX1_highYear 77 = .ok (.getfield 32, 3) := by decide +kernel
theorem dX1_highYear_80 : decode cX1_highYear 80 = .ok (.iload 4, 2) := by decide +kernel
theorem dX1_highYear_82 : decode cX1_highYear 82 = .ok (.iaload, 1) := by decide +kernel
theorem dX1_highYear_83 : decode cX1_highYear 83 = .ok (.isub, 1) := by decide +kernel
theorem dX1_highYear_84 : decode cX1_highYear 84 = .ok (.invokestatic 61, 3) := by decide +kernel
theorem dX1_highYear_87 : decode cX1_highYear 87 = .ok (.istore_n 3, 1) := by decide +kernel
theorem dX1_highYear_88 : decode cX1_highYear 88 = .ok (.iinc 4 1, 3) := by decide +kernel
theorem dX1_highYear_91 : decode cX1_highYear 91 = .ok (.goto (-81), 3) := by decide +kernel
theorem dX1_highYear_94 : decode cX1_highYear 94 = .ok (.iload_n 3, 1) := by decide +kernel
theorem dX1_highYear_95 : decode cX1_highYear 95 = .ok (.ireturn, 1) := by decide +kernel
theorem dX0_keepYears_0 : decode cX0_keepYears 0 = .ok (.iconst 0, 1) := by decide +kernel
theorem dX0_keepYears_1 : decode cX0_keepYears 1 = .ok (.istore_n 1, 1) := by decide +kernel
theorem dX0_keepYears_2 : decode cX0_keepYears 2 = .ok (.iload_n 1, 1) := by decide +kernel
theorem dX0_keepYears_3 : decode cX0_keepYears 3 = .ok (.aload_n 0, 1) := by decide +kernel
theorem dX0_keepYears_4 : decode cX0_keepYears 4 = .ok (.getfield 16, 3) := by decide +kernel
theorem dX0_keepYears_7 : decode cX0_keepYears 7 = .ok (.arraylength, 1) := by decide +kernel
theorem dX0_keepYears_8 : decode cX0_keepYears 8 = .ok (.if_icmp .ge 34, 3) := by decide +kernel
theorem dX0_keepYears_11 : decode cX0_keepYears 11 = .ok (.aload_n 0, 1) := by decide +kernel
theorem dX0_keepYears_12 : decode cX0_keepYears 12 = .ok (.getfield 11, 3) := by decide +kernel
theorem dX0_keepYears_15 : decode cX0_keepYears 15 = .ok (.iload_n 1, 1) := by decide +kernel
theorem dX0_keepYears_16 : decode cX0_keepYears 16 = .ok (.aaload, 1) := by decide +kernel
theorem dX0_keepYears_17 : decode cX0_keepYears 17 = .ok (.iconst 0, 1) := by decide +kernel
theorem dX0_keepYears_18 : decode cX0_keepYears 18 = .ok (.aload_n 0, 1) := by decide +kernel
theorem dX0_keepYears_19 : decode cX0_keepYears 19 = .ok (.getfield 20, 3) := by decide +kernel
theorem dX0_keepYears_22 : decode cX0_keepYears 22 = .ok (.iload_n 1, 1) := by decide +kernel
theorem dX0_keepYears_23 : decode cX0_keepYears 23 = .ok (.aaload, 1) := by decide +kernel
theorem dX0_keepYears_24 : decode cX0_keepYears 24 = .ok (.aload_n 0, 1) := by decide +kernel
theorem dX0_keepYears_25 : decode cX0_keepYears 25 = .ok (.getfield 23, 3) := by decide +kernel
theorem dX0_keepYears_28 : decode cX0_keepYears 28 = .ok (.bipush 8, 2) := by decide +kernel
theorem dX0_keepYears_30 : decode cX0_keepYears 30 = .ok (.imul, 1) := by decide +kernel
theorem dX0_keepYears_31 : decode cX0_keepYears 31 = .ok (.bipush 8, 2) := by decide +kernel
theorem dX0_keepYears_33 : decode cX0_keepYears 33 = .ok (.invokestatic 30, 3) := by decide +kernel
theorem dX0_keepYears_36 : decode cX0_keepYears 36 = .ok (.iinc 1 1, 3) := by decide +kernel
theorem dX0_keepYears_39 : decode cX0_keepYears 39 = .ok (.goto (-37), 3) := by decide +kernel
theorem dX0_keepYears_42 : decode cX0_keepYears 42 = .ok (.aload_n 0, 1) := by decide +kernel
theorem dX0_keepYears_43 : decode cX0_keepYears 43 = .ok (.dup, 1) := by decide +kernel
theorem dX0_keepYears_44 : decode cX0_keepYears 44 = .ok (.getfield 23, 3) := by decide +kernel
theorem dX0_keepYears_47 : decode cX0_keepYears 47 = .ok (.iconst 1, 1) := by decide +kernel
theorem dX0_keepYears_48 : decode cX0_keepYears 48 = .ok (.iadd, 1) := by decide +kernel
theorem dX0_keepYears_49 : decode cX0_keepYears 49 = .ok (.putfield 23, 3) := by decide +kernel
theorem dX0_keepYears_52 : decode cX0_keepYears 52 = .ok (.return_, 1) := by decide +kernel
theorem dX2_at_0 : decode cX2_at 0 = .ok (.iload_n 1, 1) := by decide +kernel
theorem dX2_at_1 : decode cX2_at 1 = .ok (.ifCond .lt 11, 3) := by decide +kernel
theorem dX2_at_4 : decode cX2_at 4 = .ok (.iload_n 1, 1) := by decide +kernel
theorem dX2_at_5 : decode cX2_at 5 = .ok (.aload_n 0, 1) := by decide +kernel
theorem dX2_at_6 : decode cX2_at 6 = .ok (.getfield 22, 3) := by decide +kernel
theorem dX2_at_9 : decode cX2_at 9 = .ok (.if_icmp .lt 13, 3) := by decide +kernel
theorem dX2_at_12 : decode cX2_at 12 = .ok (.new 150, 3) := by decide +kernel
theorem dX2_at_15 : decode cX2_at 15 = .ok (.dup, 1) := by decide +kernel
theorem dX2_at_16 : decode cX2_at 16 = .ok (.ldc 152, 2) := by decide +kernel
theorem dX2_at_18 : decode cX2_at 18 = .ok (.invokespecial 154, 3) := by decide +kernel
theorem dX2_at_21 : decode cX2_at 21 = .ok (.athrow, 1) := by decide +kernel
theorem dX2_at_22 : decode cX2_at 22 = .ok (.aload_n 0, 1) := by decide +kernel
theorem dX2_at_23 : decode cX2_at 23 = .ok (.iload_n 3, 1) := by decide +kernel
theorem dX2_at_24 : decode cX2_at 24 = .ok (.invokevirtual 92, 3) := by decide +kernel
theorem dX2_at_27 : decode cX2_at 27 = .ok (.iload_n 2, 1) := by decide +kernel
theorem dX2_at_28 : decode cX2_at 28 = .ok (.iconst (-1), 1) := by decide +kernel
theorem dX2_at_29 : decode cX2_at 29 = .ok (.if_icmp .ge 13, 3) := by decide +kernel
theorem dX2_at_32 : decode cX2_at 32 = .ok (.new 150, 3) := by decide +kernel
theorem dX2_at_35 : decode cX2_at 35 = .ok (.dup, 1) := by decide +kernel
theorem dX2_at_36 : decode cX2_at 36 = .ok (.ldc 155, 2) := by decide +kernel
theorem dX2_at_38 : decode cX2_at 38 = .ok (.invokespecial 154, 3) := by decide +kernel
theorem dX2_at_41 : decode cX2_at 41 = .ok (.athrow, 1) := by decide +kernel
theorem dX2_at_42 : decode cX2_at 42 = .ok (.aload_n 0, 1) := by decide +kernel
theorem dX2_at_43 : decode cX2_at 43 = .ok (.invokevirtual 138, 3) := by decide +kernel
theorem dX2_at_46 : decode cX2_at 46 = .ok (.iload_n 2, 1) := by decide +kernel
theorem dX2_at_47 : decode cX2_at 47 = .ok (.aload_n 0, 1) := by decide +kernel
theorem dX2_at_48 : decode cX2_at 48 = .ok (.getfield 37, 3) := by decide +kernel
theorem dX2_at_51 : decode cX2_at 51 = .ok (.getfield 117, 3) := by decide +kernel
theorem dX2_at_54 : decode cX2_at 54 = .ok (.if_icmp .lt 13, 3) := by decide +kernel
theorem dX2_at_57 : decode cX2_at 57 = .ok (.new 150, 3) := by decide +kernel
theorem dX2_at_60 : decode cX2_at 60 = .ok (.dup, 1) := by decide +kernel
theorem dX2_at_61 : decode cX2_at 61 = .ok (.ldc 155, 2) := by decide +kernel
theorem dX2_at_63 : decode cX2_at 63 = .ok (.invokespecial 154, 3) := by decide +kernel
theorem dX2_at_66 : decode cX2_at 66 = .ok (.athrow, 1) := by decide +kernel
theorem dX2_at_67 : decode cX2_at 67 = .ok (.iload_n 2, 1) := by decide +kernel
theorem dX2_at_68 : decode cX2_at 68 = .ok (.iconst (-1), 1) := by decide +kernel
theorem dX2_at_69 : decode cX2_at 69 = .ok (.if_icmp .ne 17, 3) := by decide +kernel
theorem dX2_at_72 : decode cX2_at 72 = .ok (.aload_n 0, 1) := by decide +kernel
theorem dX2_at_73 : decode cX2_at 73 = .ok (.getfield 37, 3) := by decide +kernel
theorem dX2_at_76 : decode cX2_at 76 = .ok (.getfield 129, 3) := by decide +kernel
theorem dX2_at_79 : decode cX2_at 79 = .ok (.iload_n 1, 1) := by decide +kernel
theorem dX2_at_80 : decode cX2_at 80 = .ok (.aaload, 1) := by decide +kernel
theorem dX2_at_81 : decode cX2_at 81 = .ok (.iload_n 3, 1) := by decide +kernel
theorem dX2_at_82 : decode cX2_at 82 = .ok (.iaload, 1) := by decide +kernel
theorem dX2_at_83 : decode cX2_at 83 = .ok (.goto 13, 3) := by decide +kernel
theorem dX2_at_86 : decode cX2_at 86 = .ok (.aload_n 0, 1) := by decide +kernel
theorem dX2_at_87 : decode cX2_at 87 = .ok (.getfield 37, 3) := by decide +kernel
theorem dX2_at_90 : decode cX2_at 90 = .ok (.iload_n 1, 1) := by decide +kernel
theorem dX2_at_91 : decode cX2_at 91 = .ok (.iload_n 2, 1) := by decide +kernel
theorem dX2_at_92 : decode cX2_at 92 = .ok (.iload_n 3, 1) := by decide +kernel
theorem dX2_at_93 : decode cX2_at 93 = .ok (.invokevirtual 157, 3) := by decide +kernel
theorem dX2_at_96 : decode cX2_at 96 = .ok (.ireturn, 1) := by decide +kernel
theorem dX0_keptYear_0 : decode cX0_keptYear 0 = .ok (.aload_n 0, 1) := by decide +kernel
theorem dX0_keptYear_1 : decode cX0_keptYear 1 = .ok (.getfield 20, 3) := by decide +kernel
theorem dX0_keptYear_4 : decode cX0_keptYear 4 = .ok (.iload_n 1, 1) := by decide +kernel
theorem dX0_keptYear_5 : decode cX0_keptYear 5 = .ok (.aaload, 1) := by decide +kernel
theorem dX0_keptYear_6 : decode cX0_keptYear 6 = .ok (.iload_n 2, 1) := by decide +kernel
theorem dX0_keptYear_7 : decode cX0_keptYear 7 = .ok (.bipush 8, 2) := by decide +kernel
theorem dX0_keptYear_9 : decode cX0_keptYear 9 = .ok (.imul, 1) := by decide +kernel
theorem dX0_keptYear_10 : decode cX0_keptYear 10 = .ok (.iload_n 3, 1) := by decide +kernel
theorem dX0_keptYear_11 : decode cX0_keptYear 11 = .ok (.iadd, 1) := by decide +kernel
theorem dX0_keptYear_12 : decode cX0_keptYear 12 = .ok (.iaload, 1) := by decide +kernel
theorem dX0_keptYear_13 : decode cX0_keptYear 13 = .ok (.ireturn, 1) := by decide +kernel
theorem dX2_counted_0 : decode cX2_counted 0 = .ok (.aload_n 0, 1) := by decide +kernel
theorem dX2_counted_1 : decode cX2_counted 1 = .ok (.iload_n 1, 1) := by decide +kernel
theorem dX2_counted_2 : decode cX2_counted 2 = .ok (.iload_n 2, 1) := by decide +kernel
theorem dX2_counted_3 : decode cX2_counted 3 = .ok (.invokevirtual 82, 3) := by decide +kernel
theorem dX2_counted_6 : decode cX2_counted 6 = .ok (.aload_n 0, 1) := by decide +kernel
theorem dX2_counted_7 : decode cX2_counted 7 = .ok (.invokevirtual 138, 3) := by decide +kernel
theorem dX2_counted_10 : decode cX2_counted 10 = .ok (.iconst 0, 1) := by decide +kernel
theorem dX2_counted_11 : decode cX2_counted 11 = .ok (.istore_n 3, 1) := by decide +kernel
theorem dX2_counted_12 : decode cX2_counted 12 = .ok (.iconst 0, 1) := by decide +kernel
theorem dX2_counted_13 : decode cX2_counted 13 = .ok (.istore 4, 2) := by decide +kernel
theorem dX2_counted_15 : decode cX2_counted 15 = .ok (.iload 4, 2) := by decide +kernel
theorem dX2_counted_17 : decode cX2_counted 17 = .ok (.aload_n 0, 1) := by decide +kernel
theorem dX2_counted_18 : decode cX2_counted 18 = .ok (.getfield 22, 3) := by decide +kernel
theorem dX2_counted_21 : decode cX2_counted 21 = .ok (.if_icmp .ge 49, 3) := by decide +kernel
theorem dX2_counted_24 : decode cX2_counted 24 = .ok (.iconst 0, 1) := by decide +kernel
theorem dX2_counted_25 : decode cX2_counted 25 = .ok (.istore 5, 2) := by decide +kernel
theorem dX2_counted_27 : decode cX2_counted 27 = .ok (.iload 5, 2) := by decide +kernel
theorem dX2_counted_29 : decode cX2_counted 29 = .ok (.aload_n 0, 1) := by decide +kernel
theorem dX2_counted_30 : decode cX2_counted 30 = .ok (.getfield 37, 3) := by decide +kernel
theorem dX2_counted_33 : decode cX2_counted 33 = .ok (.getfield 117, 3) := by decide +kernel
theorem dX2_counted_36 : decode cX2_counted 36 = .ok (.if_icmp .ge 28, 3) := by decide +kernel
theorem dX2_counted_39 : decode cX2_counted 39 = .ok (.aload_n 0, 1) := by decide +kernel
theorem dX2_counted_40 : decode cX2_counted 40 = .ok (.getfield 37, 3) := by decide +kernel
theorem dX2_counted_43 : decode cX2_counted 43 = .ok (.iload 4, 2) := by decide +kernel
theorem dX2_counted_45 : decode cX2_counted 45 = .ok (.iload 5, 2) := by decide +kernel
theorem dX2_counted_47 : decode cX2_counted 47 = .ok (.iload_n 1, 1) := by decide +kernel
theorem dX2_counted_48 : decode cX2_counted 48 = .ok (.invokevirtual 157, 3) := by decide +kernel
theorem dX2_counted_51 : decode cX2_counted 51 = .ok (.iload_n 2, 1) := by decide +kernel
theorem dX2_counted_52 : decode cX2_counted 52 = .ok (.if_icmp .ne 6, 3) := by decide +kernel
theorem dX2_counted_55 : decode cX2_counted 55 = .ok (.iinc 3 1, 3) := by decide +kernel
theorem dX2_counted_58 : decode cX2_counted 58 = .ok (.iinc 5 1, 3) := by decide +kernel
theorem dX2_counted_61 : decode cX2_counted 61 = .ok (.goto (-34), 3) := by decide +kernel
theorem dX2_counted_64 : decode cX2_counted 64 = .ok (.iinc 4 1, 3) := by decide +kernel
theorem dX2_counted_67 : decode cX2_counted 67 = .ok (.goto (-52), 3) := by decide +kernel
theorem dX2_counted_70 : decode cX2_counted 70 = .ok (.iload_n 3, 1) := by decide +kernel
theorem dX2_counted_71 : decode cX2_counted 71 = .ok (.ireturn, 1) := by decide +kernel
theorem dX2_apart_0 : decode cX2_apart 0 = .ok (.aload_n 0, 1) := by decide +kernel
theorem dX2_apart_1 : decode cX2_apart 1 = .ok (.iload_n 1, 1) := by decide +kernel
theorem dX2_apart_2 : decode cX2_apart 2 = .ok (.invokevirtual 92, 3) := by decide +kernel
theorem dX2_apart_5 : decode cX2_apart 5 = .ok (.aload_n 0, 1) := by decide +kernel
theorem dX2_apart_6 : decode cX2_apart 6 = .ok (.invokevirtual 138, 3) := by decide +kernel
theorem dX2_apart_9 : decode cX2_apart 9 = .ok (.aload_n 0, 1) := by decide +kernel
theorem dX2_apart_10 : decode cX2_apart 10 = .ok (.iconst 0, 1) := by decide +kernel
theorem dX2_apart_11 : decode cX2_apart 11 = .ok (.iload_n 1, 1) := by decide +kernel
theorem dX2_apart_12 : decode cX2_apart 12 = .ok (.invokevirtual 160, 3) := by decide +kernel
theorem dX2_apart_15 : decode cX2_apart 15 = .ok (.istore_n 2, 1) := by decide +kernel
theorem dX2_apart_16 : decode cX2_apart 16 = .ok (.iload_n 2, 1) := by decide +kernel
theorem dX2_apart_17 : decode cX2_apart 17 = .ok (.istore_n 3, 1) := by decide +kernel
theorem dX2_apart_18 : decode cX2_apart 18 = .ok (.iconst 1, 1) := by decide +kernel
theorem dX2_apart_19 : decode cX2_apart 19 = .ok (.istore 4, 2) := by decide +kernel
theorem dX2_apart_21 : decode cX2_apart 21 = .ok (.iload 4, 2) := by decide +kernel
theorem dX2_apart_23 : decode cX2_apart 23 = .ok (.aload_n 0, 1) := by decide +kernel
theorem dX2_apart_24 : decode cX2_apart 24 = .ok (.getfield 22, 3) := by decide +kernel
theorem dX2_apart_27 : decode cX2_apart 27 = .ok (.if_icmp .ge 32, 3) := by decide +kernel
theorem dX2_apart_30 : decode cX2_apart 30 = .ok (.aload_n 0, 1) := by decide +kernel
theorem dX2_apart_31 : decode cX2_apart 31 = .ok (.iload 4, 2) := by decide +kernel
theorem dX2_apart_33 : decode cX2_apart 33 = .ok (.iload_n 1, 1) := by decide +kernel
theorem dX2_apart_34 : decode cX2_apart 34 = .ok (.invokevirtual 160, 3) := by decide +kernel
theorem dX2_apart_37 : decode cX2_apart 37 = .ok (.istore 5, 2) := by decide +kernel
theorem dX2_apart_39 : decode cX2_apart 39 = .ok (.iload_n 2, 1) := by decide +kernel
theorem dX2_apart_40 : decode cX2_apart 40 = .ok (.iload 5, 2) := by decide +kernel
theorem dX2_apart_42 : decode cX2_apart 42 = .ok (.invokestatic 13, 3) := by decide +kernel
theorem dX2_apart_45 : decode cX2_apart 45 = .ok (.istore_n 2, 1) := by decide +kernel
theorem dX2_apart_46 : decode cX2_apart 46 = .ok (.iload_n 3, 1) := by decide +kernel
theorem dX2_apart_47 : decode cX2_apart 47 = .ok (.iload 5, 2) := by decide +kernel
theorem dX2_apart_49 : decode cX2_apart 49 = .ok (.invokestatic 19, 3) := by decide +kernel
theorem dX2_apart_52 : decode cX2_apart 52 = .ok (.istore_n 3, 1) := by decide +kernel
theorem dX2_apart_53 : decode cX2_apart 53 = .ok (.iinc 4 1, 3) := by decide +kernel
theorem dX2_apart_56 : decode cX2_apart 56 = .ok (.goto (-35), 3) := by decide +kernel
theorem dX2_apart_59 : decode cX2_apart 59 = .ok (.iload_n 3, 1) := by decide +kernel
theorem dX2_apart_60 : decode cX2_apart 60 = .ok (.iload_n 2, 1) := by decide +kernel
theorem dX2_apart_61 : decode cX2_apart 61 = .ok (.isub, 1) := by decide +kernel
theorem dX2_apart_62 : decode cX2_apart 62 = .ok (.ireturn, 1) := by decide +kernel
theorem dX2_sumOfYears_0 : decode cX2_sumOfYears 0 = .ok (.iconst 0, 1) := by decide +kernel
theorem dX2_sumOfYears_1 : decode cX2_sumOfYears 1 = .ok (.istore_n 3, 1) := by decide +kernel
theorem dX2_sumOfYears_2 : decode cX2_sumOfYears 2 = .ok (.iconst 0, 1) := by decide +kernel
theorem dX2_sumOfYears_3 : decode cX2_sumOfYears 3 = .ok (.istore 4, 2) := by decide +kernel
theorem dX2_sumOfYears_5 : decode cX2_sumOfYears 5 = .ok (.iload 4, 2) := by decide +kernel
theorem dX2_sumOfYears_7 : decode cX2_sumOfYears 7 = .ok (.aload_n 0, 1) := by decide +kernel
theorem dX2_sumOfYears_8 : decode cX2_sumOfYears 8 = .ok (.getfield 37, 3) := by decide +kernel
theorem dX2_sumOfYears_11 : decode cX2_sumOfYears 11 = .ok (.getfield 117, 3) := by decide +kernel
theorem dX2_sumOfYears_14 : decode cX2_sumOfYears 14 = .ok (.if_icmp .ge 23, 3) := by decide +kernel
theorem dX2_sumOfYears_17 : decode cX2_sumOfYears 17 = .ok (.iload_n 3, 1) := by decide +kernel
theorem dX2_sumOfYears_18 : decode cX2_sumOfYears 18 = .ok (.aload_n 0, 1) := by decide +kernel
theorem dX2_sumOfYears_19 : decode cX2_sumOfYears 19 = .ok (.getfield 37, 3) := by decide +kernel
theorem dX2_sumOfYears_22 : decode cX2_sumOfYears 22 = .ok (.iload_n 1, 1) := by decide +kernel
theorem dX2_sumOfYears_23 : decode cX2_sumOfYears 23 = .ok (.iload 4, 2) := by decide +kernel
theorem dX2_sumOfYears_25 : decode cX2_sumOfYears 25 = .ok (.iload_n 2, 1) := by decide +kernel
theorem dX2_sumOfYears_26 : decode cX2_sumOfYears 26 = .ok (.invokevirtual 157, 3) := by decide +kernel
theorem dX2_sumOfYears_29 : decode cX2_sumOfYears 29 = .ok (.iadd, 1) := by decide +kernel
theorem dX2_sumOfYears_30 : decode cX2_sumOfYears 30 = .ok (.istore_n 3, 1) := by decide +kernel
theorem dX2_sumOfYears_31 : decode cX2_sumOfYears 31 = .ok (.iinc 4 1, 3) := by decide +kernel
theorem dX2_sumOfYears_34 : decode cX2_sumOfYears 34 = .ok (.goto (-29), 3) := by decide +kernel
theorem dX2_sumOfYears_37 : decode cX2_sumOfYears 37 = .ok (.iload_n 3, 1) := by decide +kernel
theorem dX2_sumOfYears_38 : decode cX2_sumOfYears 38 = .ok (.ireturn, 1) := by decide +kernel
theorem dX2_agreement_0 : decode cX2_agreement 0 = .ok (.aload_n 0, 1) := by decide +kernel
theorem dX2_agreement_1 : decode cX2_agreement 1 = .ok (.iload_n 1, 1) := by decide +kernel
theorem dX2_agreement_2 : decode cX2_agreement 2 = .ok (.invokevirtual 92, 3) := by decide +kernel
theorem dX2_agreement_5 : decode cX2_agreement 5 = .ok (.aload_n 0, 1) := by decide +kernel
theorem dX2_agreement_6 : decode cX2_agreement 6 = .ok (.invokevirtual 138, 3) := by decide +kernel
theorem dX2_agreement_9 : decode cX2_agreement 9 = .ok (.lconst 0, 1) := by decide +kernel
theorem dX2_agreement_10 : decode cX2_agreement 10 = .ok (.lstore_n 2, 1) := by decide +kernel
theorem dX2_agreement_11 : decode cX2_agreement 11 = .ok (.iconst 0, 1) := by decide +kernel
theorem dX2_agreement_12 : decode cX2_agreement 12 = .ok (.istore 4, 2) := by decide +kernel
theorem dX2_agreement_14 : decode cX2_agreement 14 = .ok (.iload 4, 2) := by decide +kernel
theorem dX2_agreement_16 : decode cX2_agreement 16 = .ok (.aload_n 0, 1) := by decide +kernel
theorem dX2_agreement_17 : decode cX2_agreement 17 = .ok (.getfield 22, 3) := by decide +kernel
theorem dX2_agreement_20 : decode cX2_agreement 20 = .ok (.if_icmp .ge 54, 3) := by decide +kernel
theorem dX2_agreement_23 : decode cX2_agreement 23 = .ok (.iconst 0, 1) := by decide +kernel
theorem dX2_agreement_24 : decode cX2_agreement 24 = .ok (.istore 5, 2) := by decide +kernel
theorem dX2_agreement_26 : decode cX2_agreement 26 = .ok (.iload 5, 2) := by decide +kernel
theorem dX2_agreement_28 : decode cX2_agreement 28 = .ok (.aload_n 0, 1) := by decide +kernel
theorem dX2_agreement_29 : decode cX2_agreement 29 = .ok (.getfield 37, 3) := by decide +kernel
theorem dX2_agreement_32 : decode cX2_agreement 32 = .ok (.getfield 117, 3) := by decide +kernel
theorem dX2_agreement_35 : decode cX2_agreement 35 = .ok (.if_icmp .ge 33, 3) := by decide +kernel
theorem dX2_agreement_38 : decode cX2_agreement 38 = .ok (.lload_n 2, 1) := by decide +kernel
theorem dX2_agreement_39 : decode cX2_agreement 39 = .ok (.aload_n 0, 1) := by decide +kernel
theorem dX2_agreement_40 : decode cX2_agreement 40 = .ok (.getfield 28, 3) := by decide +kernel
theorem dX2_agreement_43 : decode cX2_agreement 43 = .ok (.iload_n 1, 1) := by decide +kernel
theorem dX2_agreement_44 : decode cX2_agreement 44 = .ok (.aload_n 0, 1) := by decide +kernel
theorem dX2_agreement_45 : decode cX2_agreement 45 = .ok (.getfield 37, 3) := by decide +kernel
theorem dX2_agreement_48 : decode cX2_agreement 48 = .ok (.iload 4, 2) := by decide +kernel
theorem dX2_agreement_50 : decode cX2_agreement 50 = .ok (.iload 5, 2) := by decide +kernel
theorem dX2_agreement_52 : decode cX2_agreement 52 = .ok (.iload_n 1, 1) := by decide +kernel
theorem dX2_agreement_53 : decode cX2_agreement 53 = .ok (.invokevirtual 157, 3) := by decide +kernel
theorem dX2_agreement_56 : decode cX2_agreement 56 = .ok (.invokevirtual 163, 3) := by decide +kernel
theorem dX2_agreement_59 : decode cX2_agreement 59 = .ok (.i2l, 1) := by decide +kernel
theorem dX2_agreement_60 : decode cX2_agreement 60 = .ok (.ladd, 1) := by decide +kernel
theorem dX2_agreement_61 : decode cX2_agreement 61 = .ok (.lstore_n 2, 1) := by decide +kernel
theorem dX2_agreement_62 : decode cX2_agreement 62 = .ok (.iinc 5 1, 3) := by decide +kernel
theorem dX2_agreement_65 : decode cX2_agreement 65 = .ok (.goto (-39), 3) := by decide +kernel
theorem dX2_agreement_68 : decode cX2_agreement 68 = .ok (.iinc 4 1, 3) := by decide +kernel
theorem dX2_agreement_71 : decode cX2_agreement 71 = .ok (.goto (-57), 3) := by decide +kernel
theorem dX2_agreement_74 : decode cX2_agreement 74 = .ok (.aload_n 0, 1) := by decide +kernel
theorem dX2_agreement_75 : decode cX2_agreement 75 = .ok (.getfield 22, 3) := by decide +kernel
theorem dX2_agreement_78 : decode cX2_agreement 78 = .ok (.i2l, 1) := by decide +kernel
theorem dX2_agreement_79 : decode cX2_agreement 79 = .ok (.aload_n 0, 1) := by decide +kernel
theorem dX2_agreement_80 : decode cX2_agreement 80 = .ok (.getfield 37, 3) := by decide +kernel
theorem dX2_agreement_83 : decode cX2_agreement 83 = .ok (.getfield 117, 3) := by decide +kernel
theorem dX2_agreement_86 : decode cX2_agreement 86 = .ok (.i2l, 1) := by decide +kernel
theorem dX2_agreement_87 : decode cX2_agreement 87 = .ok (.lmul, 1) := by decide +kernel
theorem dX2_agreement_88 : decode cX2_agreement 88 = .ok (.aload_n 0, 1) := by decide +kernel
theorem dX2_agreement_89 : decode cX2_agreement 89 = .ok (.getfield 28, 3) := by decide +kernel
theorem dX2_agreement_92 : decode cX2_agreement 92 = .ok (.iload_n 1, 1) := by decide +kernel
theorem dX2_agreement_93 : decode cX2_agreement 93 = .ok (.invokevirtual 166, 3) := by decide +kernel
theorem dX2_agreement_96 : decode cX2_agreement 96 = .ok (.i2l, 1) := by decide +kernel
theorem dX2_agreement_97 : decode cX2_agreement 97 = .ok (.lmul, 1) := by decide +kernel
theorem dX2_agreement_98 : decode cX2_agreement 98 = .ok (.lstore 4, 2) := by decide +kernel
theorem dX2_agreement_100 : decode cX2_agreement 100 = .ok (.lload 4, 2) := by decide +kernel
theorem dX2_agreement_102 : decode cX2_agreement 102 = .ok (.lconst 0, 1) := by decide +kernel
theorem dX2_agreement_103 : decode cX2_agreement 103 = .ok (.lcmp, 1) := by decide +kernel
theorem dX2_agreement_104 : decode cX2_agreement 104 = .ok (.ifCond .le 15, 3) := by decide +kernel
theorem dX2_agreement_107 : decode cX2_agreement 107 = .ok (.ldc2_w 169, 3) := by decide +kernel
theorem dX2_agreement_110 : decode cX2_agreement 110 = .ok (.lload_n 2, 1) := by decide +kernel
theorem dX2_agreement_111 : decode cX2_agreement 111 = .ok (.lmul, 1) := by decide +kernel
theorem dX2_agreement_112 : decode cX2_agreement 112 = .ok (.lload 4, 2) := by decide +kernel
theorem dX2_agreement_114 : decode cX2_agreement 114 = .ok (.ldiv, 1) := by decide +kernel
theorem dX2_agreement_115 : decode cX2_agreement 115 = .ok (.l2i, 1) := by decide +kernel
theorem dX2_agreement_116 : decode cX2_agreement 116 = .ok (.goto 4, 3) := by decide +kernel
theorem dX2_agreement_119 : decode cX2_agreement 119 = .ok (.iconst (-1), 1) := by decide +kernel
theorem dX2_agreement_120 : decode cX2_agreement 120 = .ok (.ireturn, 1) := by decide +kernel
theorem dX1_greatestWeight_0 : decode cX1_greatestWeight 0 = .ok (.iconst 0, 1) := by decide +kernel
theorem dX1_greatestWeight_1 : decode cX1_greatestWeight 1 = .ok (.istore_n 2, 1) := by decide +kernel
theorem dX1_greatestWeight_2 : decode cX1_greatestWeight 2 = .ok (.aload_n 0, 1) := by decide +kernel
theorem dX1_greatestWeight_3 : decode cX1_greatestWeight 3 = .ok (.getfield 9, 3) := by decide +kernel
theorem dX1_greatestWeight_6 : decode cX1_greatestWeight 6 = .ok (.iload_n 1, 1) := by decide +kernel
theorem dX1_greatestWeight_7 : decode cX1_greatestWeight 7 = .ok (.iaload, 1) := by decide +kernel
theorem dX1_greatestWeight_8 : decode cX1_greatestWeight 8 = .ok (.istore_n 3, 1) := by decide +kernel
theorem dX1_greatestWeight_9 : decode cX1_greatestWeight 9 = .ok (.iload_n 3, 1) := by decide +kernel
theorem dX1_greatestWeight_10 : decode cX1_greatestWeight 10 = .ok (.aload_n 0, 1) := by decide +kernel
theorem dX1_greatestWeight_11 : decode cX1_greatestWeight 11 = .ok (.getfield 15, 3) := by decide +kernel
theorem dX1_greatestWeight_14 : decode cX1_greatestWeight 14 = .ok (.iload_n 1, 1) := by decide +kernel
theorem dX1_greatestWeight_15 : decode cX1_greatestWeight 15 = .ok (.iaload, 1) := by decide +kernel
theorem dX1_greatestWeight_16 : decode cX1_greatestWeight 16 = .ok (.if_icmp .gt 20, 3) := by decide +kernel
theorem dX1_greatestWeight_19 : decode cX1_greatestWeight 19 = .ok (.iload_n 2, 1) := by decide +kernel
theorem dX1_greatestWeight_20 : decode cX1_greatestWeight 20 = .ok (.aload_n 0, 1) := by decide +kernel
theorem dX1_greatestWeight_21 : decode cX1_greatestWeight 21 = .ok (.iload_n 1, 1) := by decide +kernel
theorem dX1_greatestWeight_22 : decode cX1_greatestWeight 22 = .ok (.iload_n 3, 1) := by decide +kernel
theorem dX1_greatestWeight_23 : decode cX1_greatestWeight 23 = .ok (.invokevirtual 45, 3) := by decide +kernel
theorem dX1_greatestWeight_26 : decode cX1_greatestWeight 26 = .ok (.invokestatic 49, 3) := by decide +kernel
theorem dX1_greatestWeight_29 : decode cX1_greatestWeight 29 = .ok (.istore_n 2, 1) := by decide +kernel
theorem dX1_greatestWeight_30 : decode cX1_greatestWeight 30 = .ok (.iinc 3 1, 3) := by decide +kernel
theorem dX1_greatestWeight_33 : decode cX1_greatestWeight 33 = .ok (.goto (-24), 3) := by decide +kernel
theorem dX1_greatestWeight_36 : decode cX1_greatestWeight 36 = .ok (.iload_n 2, 1) := by decide +kernel
theorem dX1_greatestWeight_37 : decode cX1_greatestWeight 37 = .ok (.ireturn, 1) := by decide +kernel
theorem dX2_spans_0 : decode cX2_spans 0 = .ok (.iload_n 1, 1) := by decide +kernel
theorem dX2_spans_1 : decode cX2_spans 1 = .ok (.invokestatic 106, 3) := by decide +kernel
theorem dX2_spans_4 : decode cX2_spans 4 = .ok (.iload_n 2, 1) := by decide +kernel
theorem dX2_spans_5 : decode cX2_spans 5 = .ok (.invokestatic 58, 3) := by decide +kernel
theorem dX2_spans_8 : decode cX2_spans 8 = .ok (.aload_n 0, 1) := by decide +kernel
theorem dX2_spans_9 : decode cX2_spans 9 = .ok (.invokevirtual 138, 3) := by decide +kernel
theorem dX2_spans_12 : decode cX2_spans 12 = .ok (.iconst 0, 1) := by decide +kernel
theorem dX2_spans_13 : decode cX2_spans 13 = .ok (.istore_n 3, 1) := by decide +kernel
theorem dX2_spans_14 : decode cX2_spans 14 = .ok (.iconst 0, 1) := by decide +kernel
theorem dX2_spans_15 : decode cX2_spans 15 = .ok (.istore 4, 2) := by decide +kernel
theorem dX2_spans_17 : decode cX2_spans 17 = .ok (.iload 4, 2) := by decide +kernel
theorem dX2_spans_19 : decode cX2_spans 19 = .ok (.aload_n 0, 1) := by decide +kernel
theorem dX2_spans_20 : decode cX2_spans 20 = .ok (.getfield 22, 3) := by decide +kernel
theorem dX2_spans_23 : decode cX2_spans 23 = .ok (.if_icmp .ge 46, 3) := by decide +kernel
theorem dX2_spans_26 : decode cX2_spans 26 = .ok (.iconst 0, 1) := by decide +kernel
theorem dX2_spans_27 : decode cX2_spans 27 = .ok (.istore 5, 2) := by decide +kernel
theorem dX2_spans_29 : decode cX2_spans 29 = .ok (.iload 5, 2) := by decide +kernel
theorem dX2_spans_31 : decode cX2_spans 31 = .ok (.aload_n 0, 1) := by decide +kernel
theorem dX2_spans_32 : decode cX2_spans 32 = .ok (.getfield 37, 3) := by decide +kernel
theorem dX2_spans_35 : decode cX2_spans 35 = .ok (.getfield 117, 3) := by decide +kernel
theorem dX2_spans_38 : decode cX2_spans 38 = .ok (.if_icmp .ge 25, 3) := by decide +kernel
theorem dX2_spans_41 : decode cX2_spans 41 = .ok (.aload_n 0, 1) := by decide +kernel
theorem dX2_spans_42 : decode cX2_spans 42 = .ok (.iload_n 1, 1) := by decide +kernel
theorem dX2_spans_43 : decode cX2_spans 43 = .ok (.iload 4, 2) := by decide +kernel
theorem dX2_spans_45 : decode cX2_spans 45 = .ok (.iload 5, 2) := by decide +kernel
theorem dX2_spans_47 : decode cX2_spans 47 = .ok (.invokevirtual 171, 3) := by decide +kernel
theorem dX2_spans_50 : decode cX2_spans 50 = .ok (.iload_n 2, 1) := by decide +kernel
theorem dX2_spans_51 : decode cX2_spans 51 = .ok (.if_icmp .ne 6, 3) := by decide +kernel
theorem dX2_spans_54 : decode cX2_spans 54 = .ok (.iinc 3 1, 3) := by decide +kernel
theorem dX2_spans_57 : decode cX2_spans 57 = .ok (.iinc 5 1, 3) := by decide +kernel
theorem dX2_spans_60 : decode cX2_spans 60 = .ok (.goto (-31), 3) := by decide +kernel
theorem dX2_spans_63 : decode cX2_spans 63 = .ok (.iinc 4 1, 3) := by decide +kernel
theorem dX2_spans_66 : decode cX2_spans 66 = .ok (.goto (-49), 3) := by decide +kernel
theorem dX2_spans_69 : decode cX2_spans 69 = .ok (.iload_n 3, 1) := by decide +kernel
theorem dX2_spans_70 : decode cX2_spans 70 = .ok (.ireturn, 1) := by decide +kernel
theorem dX2_spanOf_0 : decode cX2_spanOf 0 = .ok (.sipush 256, 3) := by decide +kernel
theorem dX2_spanOf_3 : decode cX2_spanOf 3 = .ok (.istore 4, 2) := by decide +kernel
theorem dX2_spanOf_5 : decode cX2_spanOf 5 = .ok (.iconst (-1), 1) := by decide +kernel
theorem dX2_spanOf_6 : decode cX2_spanOf 6 = .ok (.istore 5, 2) := by decide +kernel
theorem dX2_spanOf_8 : decode cX2_spanOf 8 = .ok (.iconst 0, 1) := by decide +kernel
theorem dX2_spanOf_9 : decode cX2_spanOf 9 = .ok (.istore 6, 2) := by decide +kernel
theorem dX2_spanOf_11 : decode cX2_spanOf 11 = .ok (.iload 6, 2) := by decide +kernel
theorem dX2_spanOf_13 : decode cX2_spanOf 13 = .ok (.aload_n 0, 1) := by decide +kernel
theorem dX2_spanOf_14 : decode cX2_spanOf 14 = .ok (.getfield 28, 3) := by decide +kernel
theorem dX2_spanOf_17 : decode cX2_spanOf 17 = .ok (.getfield 68, 3) := by decide +kernel
theorem dX2_spanOf_20 : decode cX2_spanOf 20 = .ok (.if_icmp .ge 54, 3) := by decide +kernel
theorem dX2_spanOf_23 : decode cX2_spanOf 23 = .ok (.aload_n 0, 1) := by decide +kernel
theorem dX2_spanOf_24 : decode cX2_spanOf 24 = .ok (.getfield 28, 3) := by decide +kernel
theorem dX2_spanOf_27 : decode cX2_spanOf 27 = .ok (.getfield 109, 3) := by decide +kernel
theorem dX2_spanOf_30 : decode cX2_spanOf 30 = .ok (.iload 6, 2) := by decide +kernel
theorem dX2_spanOf_32 : decode cX2_spanOf 32 = .ok (.iaload, 1) := by decide +kernel
theorem dX2_spanOf_33 : decode cX2_spanOf 33 = .ok (.iload_n 1, 1) := by decide +kernel
theorem dX2_spanOf_34 : decode cX2_spanOf 34 = .ok (.if_icmp .ne 34, 3) := by decide +kernel
theorem dX2_spanOf_37 : decode cX2_spanOf 37 = .ok (.aload_n 0, 1) := by decide +kernel
theorem dX2_spanOf_38 : decode cX2_spanOf 38 = .ok (.getfield 37, 3) := by decide +kernel
theorem dX2_spanOf_41 : decode cX2_spanOf 41 = .ok (.iload_n 2, 1) := by decide +kernel
theorem dX2_spanOf_42 : decode cX2_spanOf 42 = .ok (.iload_n 3, 1) := by decide +kernel
theorem dX2_spanOf_43 : decode cX2_spanOf 43 = .ok (.iload 6, 2) := by decide +kernel
theorem dX2_spanOf_45 : decode cX2_spanOf 45 = .ok (.invokevirtual 157, 3) := by decide +kernel
theorem dX2_spanOf_48 : decode cX2_spanOf 48 = .ok (.istore 7, 2) := by decide +kernel
theorem dX2_spanOf_50 : decode cX2_spanOf 50 = .ok (.iload 4, 2) := by decide +kernel
theorem dX2_spanOf_52 : decode cX2_spanOf 52 = .ok (.iload 7, 2) := by decide +kernel
theorem dX2_spanOf_54 : decode cX2_spanOf 54 = .ok (.invokestatic 13, 3) := by decide +kernel
theorem dX2_spanOf_57 : decode cX2_spanOf 57 = .ok (.istore 4, 2) := by decide +kernel
theorem dX2_spanOf_59 : decode cX2_spanOf 59 = .ok (.iload 5, 2) := by decide +kernel
theorem dX2_spanOf_61 : decode cX2_spanOf 61 = .ok (.iload 7, 2) := by decide +kernel
theorem dX2_spanOf_63 : decode cX2_spanOf 63 = .ok (.invokestatic 19, 3) := by decide +kernel
theorem dX2_spanOf_66 : decode cX2_spanOf 66 = .ok (.istore 5, 2) := by decide +kernel
theorem dX2_spanOf_68 : decode cX2_spanOf 68 = .ok (.iinc 6 1, 3) := by decide +kernel
theorem dX2_spanOf_71 : decode cX2_spanOf 71 = .ok (.goto (-60), 3) := by decide +kernel
theorem dX2_spanOf_74 : decode cX2_spanOf 74 = .ok (.iload 5, 2) := by decide +kernel
theorem dX2_spanOf_76 : decode cX2_spanOf 76 = .ok (.iconst (-1), 1) := by decide +kernel
theorem dX2_spanOf_77 : decode cX2_spanOf 77 = .ok (.if_icmp .ne 7, 3) := by decide +kernel
theorem dX2_spanOf_80 : decode cX2_spanOf 80 = .ok (.iconst (-1), 1) := by decide +kernel
theorem dX2_spanOf_81 : decode cX2_spanOf 81 = .ok (.goto 8, 3) := by decide +kernel
theorem dX2_spanOf_84 : decode cX2_spanOf 84 = .ok (.iload 5, 2) := by decide +kernel
theorem dX2_spanOf_86 : decode cX2_spanOf 86 = .ok (.iload 4, 2) := by decide +kernel
theorem dX2_spanOf_88 : decode cX2_spanOf 88 = .ok (.isub, 1) := by decide +kernel
theorem dX2_spanOf_89 : decode cX2_spanOf 89 = .ok (.ireturn, 1) := by decide +kernel
theorem dX2_save_0 : decode cX2_save 0 = .ok (.aload_n 0, 1) := by decide +kernel
theorem dX2_save_1 : decode cX2_save 1 = .ok (.invokevirtual 138, 3) := by decide +kernel
theorem dX2_save_4 : decode cX2_save 4 = .ok (.aload_n 0, 1) := by decide +kernel
theorem dX2_save_5 : decode cX2_save 5 = .ok (.getfield 45, 3) := by decide +kernel
theorem dX2_save_8 : decode cX2_save 8 = .ok (.iconst 4, 1) := by decide +kernel
theorem dX2_save_9 : decode cX2_save 9 = .ok (.if_icmp .lt 13, 3) := by decide +kernel
theorem dX2_save_12 : decode cX2_save 12 = .ok (.new 71, 3) := by decide +kernel
theorem dX2_save_15 : decode cX2_save 15 = .ok (.dup, 1) := by decide +kernel
theorem dX2_save_16 : decode cX2_save 16 = .ok (.ldc 174, 2) := by decide +kernel
theorem dX2_save_18 : decode cX2_save 18 = .ok (.invokespecial 75, 3) := by decide +kernel
theorem dX2_save_21 : decode cX2_save 21 = .ok (.athrow, 1) := by decide +kernel
theorem dX2_save_22 : decode cX2_save 22 = .ok (.aload_n 0, 1) := by decide +kernel
theorem dX2_save_23 : decode cX2_save 23 = .ok (.getfield 41, 3) := by decide +kernel
theorem dX2_save_26 : decode cX2_save 26 = .ok (.aload_n 0, 1) := by decide +kernel
theorem dX2_save_27 : decode cX2_save 27 = .ok (.getfield 45, 3) := by decide +kernel
theorem dX2_save_30 : decode cX2_save 30 = .ok (.aaload, 1) := by decide +kernel
theorem dX2_save_31 : decode cX2_save 31 = .ok (.aload_n 0, 1) := by decide +kernel
theorem dX2_save_32 : decode cX2_save 32 = .ok (.getfield 37, 3) := by decide +kernel
theorem dX2_save_35 : decode cX2_save 35 = .ok (.invokevirtual 176, 3) := by decide +kernel
theorem dX2_save_38 : decode cX2_save 38 = .ok (.aload_n 0, 1) := by decide +kernel
theorem dX2_save_39 : decode cX2_save 39 = .ok (.dup, 1) := by decide +kernel
theorem dX2_save_40 : decode cX2_save 40 = .ok (.getfield 45, 3) := by decide +kernel
theorem dX2_save_43 : decode cX2_save 43 = .ok (.iconst 1, 1) := by decide +kernel
theorem dX2_save_44 : decode cX2_save 44 = .ok (.iadd, 1) := by decide +kernel
theorem dX2_save_45 : decode cX2_save 45 = .ok (.putfield 45, 3) := by decide +kernel
theorem dX2_save_48 : decode cX2_save 48 = .ok (.aload_n 0, 1) := by decide +kernel
theorem dX2_save_49 : decode cX2_save 49 = .ok (.getfield 45, 3) := by decide +kernel
theorem dX2_save_52 : decode cX2_save 52 = .ok (.iconst 1, 1) := by decide +kernel
theorem dX2_save_53 : decode cX2_save 53 = .ok (.isub, 1) := by decide +kernel
theorem dX2_save_54 : decode cX2_save 54 = .ok (.ireturn, 1) := by decide +kernel
theorem dX0_take_0 : decode cX0_take 0 = .ok (.iconst 0, 1) := by decide +kernel
theorem dX0_take_1 : decode cX0_take 1 = .ok (.istore_n 2, 1) := by decide +kernel
theorem dX0_take_2 : decode cX0_take 2 = .ok (.iload_n 2, 1) := by decide +kernel
theorem dX0_take_3 : decode cX0_take 3 = .ok (.aload_n 0, 1) := by decide +kernel
theorem dX0_take_4 : decode cX0_take 4 = .ok (.getfield 16, 3) := by decide +kernel
theorem dX0_take_7 : decode cX0_take 7 = .ok (.arraylength, 1) := by decide +kernel
theorem dX0_take_8 : decode cX0_take 8 = .ok (.if_icmp .ge 64, 3) := by decide +kernel
theorem dX0_take_11 : decode cX0_take 11 = .ok (.aload_n 1, 1) := by decide +kernel
theorem dX0_take_12 : decode cX0_take 12 = .ok (.getfield 11, 3) := by decide +kernel
theorem dX0_take_15 : decode cX0_take 15 = .ok (.iload_n 2, 1) := by decide +kernel
theorem dX0_take_16 : decode cX0_take 16 = .ok (.aaload, 1) := by decide +kernel
theorem dX0_take_17 : decode cX0_take 17 = .ok (.iconst 0, 1) := by decide +kernel
theorem dX0_take_18 : decode cX0_take 18 = .ok (.aload_n 0, 1) := by decide +kernel
theorem dX0_take_19 : decode cX0_take 19 = .ok (.getfield 11, 3) := by decide +kernel
theorem dX0_take_22 : decode cX0_take 22 = .ok (.iload_n 2, 1) := by decide +kernel
theorem dX0_take_23 : decode cX0_take 23 = .ok (.aaload, 1) := by decide +kernel
theorem dX0_take_24 : decode cX0_take 24 = .ok (.iconst 0, 1) := by decide +kernel
theorem dX0_take_25 : decode cX0_take 25 = .ok (.bipush 8, 2) := by decide +kernel
theorem dX0_take_27 : decode cX0_take 27 = .ok (.invokestatic 30, 3) := by decide +kernel
theorem dX0_take_30 : decode cX0_take 30 = .ok (.aload_n 1, 1) := by decide +kernel
theorem dX0_take_31 : decode cX0_take 31 = .ok (.getfield 20, 3) := by decide +kernel
theorem dX0_take_34 : decode cX0_take 34 = .ok (.iload_n 2, 1) := by decide +kernel
theorem dX0_take_35 : decode cX0_take 35 = .ok (.aaload, 1) := by decide +kernel
theorem dX0_take_36 : decode cX0_take 36 = .ok (.iconst 0, 1) := by decide +kernel
theorem dX0_take_37 : decode cX0_take 37 = .ok (.aload_n 0, 1) := by decide +kernel
theorem dX0_take_38 : decode cX0_take 38 = .ok (.getfield 20, 3) := by decide +kernel
theorem dX0_take_41 : decode cX0_take 41 = .ok (.iload_n 2, 1) := by decide +kernel
theorem dX0_take_42 : decode cX0_take 42 = .ok (.aaload, 1) := by decide +kernel
theorem dX0_take_43 : decode cX0_take 43 = .ok (.iconst 0, 1) := by decide +kernel
theorem dX0_take_44 : decode cX0_take 44 = .ok (.aload_n 1, 1) := by decide +kernel
theorem dX0_take_45 : decode cX0_take 45 = .ok (.getfield 23, 3) := by decide +kernel
theorem dX0_take_48 : decode cX0_take 48 = .ok (.bipush 8, 2) := by decide +kernel
theorem dX0_take_50 : decode cX0_take 50 = .ok (.imul, 1) := by decide +kernel
theorem dX0_take_51 : decode cX0_take 51 = .ok (.invokestatic 30, 3) := by decide +kernel
theorem dX0_take_54 : decode cX0_take 54 = .ok (.aload_n 0, 1) := by decide +kernel
theorem dX0_take_55 : decode cX0_take 55 = .ok (.getfield 16, 3) := by decide +kernel
theorem dX0_take_58 : decode cX0_take 58 = .ok (.iload_n 2, 1) := by decide +kernel
theorem dX0_take_59 : decode cX0_take 59 = .ok (.aload_n 1, 1) := by decide +kernel
theorem dX0_take_60 : decode cX0_take 60 = .ok (.getfield 16, 3) := by decide +kernel
theorem dX0_take_63 : decode cX0_take 63 = .ok (.iload_n 2, 1) := by decide +kernel
theorem dX0_take_64 : decode cX0_take 64 = .ok (.laload, 1) := by decide +kernel
theorem dX0_take_65 : decode cX0_take 65 = .ok (.lastore, 1) := by decide +kernel
theorem dX0_take_66 : decode cX0_take 66 = .ok (.iinc 2 1, 3) := by decide +kernel
theorem dX0_take_69 : decode cX0_take 69 = .ok (.goto (-67), 3) := by decide +kernel
theorem dX0_take_72 : decode cX0_take 72 = .ok (.aload_n 0, 1) := by decide +kernel
theorem dX0_take_73 : decode cX0_take 73 = .ok (.aload_n 1, 1) := by decide +kernel
theorem dX0_take_74 : decode cX0_take 74 = .ok (.getfield 23, 3) := by decide +kernel
theorem dX0_take_77 : decode cX0_take 77 = .ok (.putfield 23, 3) := by decide +kernel
theorem dX0_take_80 : decode cX0_take 80 = .ok (.aload_n 0, 1) := by decide +kernel
theorem dX0_take_81 : decode cX0_take 81 = .ok (.aload_n 1, 1) := by decide +kernel
theorem dX0_take_82 : decode cX0_take 82 = .ok (.getfield 27, 3) := by decide +kernel
theorem dX0_take_85 : decode cX0_take 85 = .ok (.putfield 27, 3) := by decide +kernel
theorem dX0_take_88 : decode cX0_take 88 = .ok (.return_, 1) := by decide +kernel
theorem dX2_back_0 : decode cX2_back 0 = .ok (.iload_n 1, 1) := by decide +kernel
theorem dX2_back_1 : decode cX2_back 1 = .ok (.ifCond .lt 11, 3) := by decide +kernel
theorem dX2_back_4 : decode cX2_back 4 = .ok (.iload_n 1, 1) := by decide +kernel
theorem dX2_back_5 : decode cX2_back 5 = .ok (.aload_n 0, 1) := by decide +kernel
theorem dX2_back_6 : decode cX2_back 6 = .ok (.getfield 45, 3) := by decide +kernel
theorem dX2_back_9 : decode cX2_back 9 = .ok (.if_icmp .lt 13, 3) := by decide +kernel
theorem dX2_back_12 : decode cX2_back 12 = .ok (.new 150, 3) := by decide +kernel
theorem dX2_back_15 : decode cX2_back 15 = .ok (.dup, 1) := by decide +kernel
theorem dX2_back_16 : decode cX2_back 16 = .ok (.ldc 180, 2) := by decide +kernel
theorem dX2_back_18 : decode cX2_back 18 = .ok (.invokespecial 154, 3) := by decide +kernel
theorem dX2_back_21 : decode cX2_back 21 = .ok (.athrow, 1) := by decide +kernel
theorem dX2_back_22 : decode cX2_back 22 = .ok (.aload_n 0, 1) := by decide +kernel
theorem dX2_back_23 : decode cX2_back 23 = .ok (.getfield 37, 3) := by decide +kernel
theorem dX2_back_26 : decode cX2_back 26 = .ok (.aload_n 0, 1) := by decide +kernel
theorem dX2_back_27 : decode cX2_back 27 = .ok (.getfield 41, 3) := by decide +kernel
theorem dX2_back_30 : decode cX2_back 30 = .ok (.iload_n 1, 1) := by decide +kernel
theorem dX2_back_31 : decode cX2_back 31 = .ok (.aaload, 1) := by decide +kernel
theorem dX2_back_32 : decode cX2_back 32 = .ok (.invokevirtual 176, 3) := by decide +kernel
theorem dX2_back_35 : decode cX2_back 35 = .ok (.aload_n 0, 1) := by decide +kernel
theorem dX2_back_36 : decode cX2_back 36 = .ok (.iconst 1, 1) := by decide +kernel
theorem dX2_back_37 : decode cX2_back 37 = .ok (.putfield 48, 3) := by decide +kernel
theorem dX2_back_40 : decode cX2_back 40 = .ok (.aload_n 0, 1) := by decide +kernel
theorem dX2_back_41 : decode cX2_back 41 = .ok (.getfield 37, 3) := by decide +kernel
theorem dX2_back_44 : decode cX2_back 44 = .ok (.getfield 117, 3) := by decide +kernel
theorem dX2_back_47 : decode cX2_back 47 = .ok (.ireturn, 1) := by decide +kernel
theorem dX2_count_0 : decode cX2_count 0 = .ok (.iload_n 1, 1) := by decide +kernel
theorem dX2_count_1 : decode cX2_count 1 = .ok (.tableswitch 103 0 5 #[39, 47, 55, 60, 79, 98], 39) := by decide +kernel
theorem dX2_count_40 : decode cX2_count 40 = .ok (.aload_n 0, 1) := by decide +kernel
theorem dX2_count_41 : decode cX2_count 41 = .ok (.getfield 28, 3) := by decide +kernel
theorem dX2_count_44 : decode cX2_count 44 = .ok (.getfield 68, 3) := by decide +kernel
theorem dX2_count_47 : decode cX2_count 47 = .ok (.ireturn, 1) := by decide +kernel
theorem dX2_count_48 : decode cX2_count 48 = .ok (.aload_n 0, 1) := by decide +kernel
theorem dX2_count_49 : decode cX2_count 49 = .ok (.getfield 28, 3) := by decide +kernel
theorem dX2_count_52 : decode cX2_count 52 = .ok (.getfield 97, 3) := by decide +kernel
theorem dX2_count_55 : decode cX2_count 55 = .ok (.ireturn, 1) := by decide +kernel
theorem dX2_count_56 : decode cX2_count 56 = .ok (.aload_n 0, 1) := by decide +kernel
theorem dX2_count_57 : decode cX2_count 57 = .ok (.getfield 22, 3) := by decide +kernel
theorem dX2_count_60 : decode cX2_count 60 = .ok (.ireturn, 1) := by decide +kernel
theorem dX2_count_61 : decode cX2_count 61 = .ok (.aload_n 0, 1) := by decide +kernel
theorem dX2_count_62 : decode cX2_count 62 = .ok (.getfield 48, 3) := by decide +kernel
theorem dX2_count_65 : decode cX2_count 65 = .ok (.ifCond .eq 13, 3) := by decide +kernel
theorem dX2_count_68 : decode cX2_count 68 = .ok (.aload_n 0, 1) := by decide +kernel
theorem dX2_count_69 : decode cX2_count 69 = .ok (.getfield 37, 3) := by decide +kernel
theorem dX2_count_72 : decode cX2_count 72 = .ok (.getfield 117, 3) := by decide +kernel
theorem dX2_count_75 : decode cX2_count 75 = .ok (.goto 4, 3) := by decide +kernel
theorem dX2_count_78 : decode cX2_count 78 = .ok (.iconst 0, 1) := by decide +kernel
theorem dX2_count_79 : decode cX2_count 79 = .ok (.ireturn, 1) := by decide +kernel
theorem dX2_count_80 : decode cX2_count 80 = .ok (.aload_n 0, 1) := by decide +kernel
theorem dX2_count_81 : decode cX2_count 81 = .ok (.getfield 48, 3) := by decide +kernel
theorem dX2_count_84 : decode cX2_count 84 = .ok (.ifCond .eq 13, 3) := by decide +kernel
theorem dX2_count_87 : decode cX2_count 87 = .ok (.aload_n 0, 1) := by decide +kernel
theorem dX2_count_88 : decode cX2_count 88 = .ok (.getfield 37, 3) := by decide +kernel
theorem dX2_count_91 : decode cX2_count 91 = .ok (.getfield 120, 3) := by decide +kernel
theorem dX2_count_94 : decode cX2_count 94 = .ok (.goto 4, 3) := by decide +kernel
theorem dX2_count_97 : decode cX2_count 97 = .ok (.iconst 0, 1) := by decide +kernel
theorem dX2_count_98 : decode cX2_count 98 = .ok (.ireturn, 1) := by decide +kernel
theorem dX2_count_99 : decode cX2_count 99 = .ok (.aload_n 0, 1) := by decide +kernel
theorem dX2_count_100 : decode cX2_count 100 = .ok (.getfield 45, 3) := by decide +kernel
theorem dX2_count_103 : decode cX2_count 103 = .ok (.ireturn, 1) := by decide +kernel
theorem dX2_count_104 : decode cX2_count 104 = .ok (.new 150, 3) := by decide +kernel
theorem dX2_count_107 : decode cX2_count 107 = .ok (.dup, 1) := by decide +kernel
theorem dX2_count_108 : decode cX2_count 108 = .ok (.ldc 182, 2) := by decide +kernel
theorem dX2_count_110 : decode cX2_count 110 = .ok (.invokespecial 154, 3) := by decide +kernel
theorem dX2_count_113 : decode cX2_count 113 = .ok (.athrow, 1) := by decide +kernel
