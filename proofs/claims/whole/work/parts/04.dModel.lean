theorem dX3_init_0 : decode cX3_init 0 = .ok (.aload_n 0, 1) := by decide +kernel
theorem dX3_init_1 : decode cX3_init 1 = .ok (.invokespecial 1, 3) := by decide +kernel
theorem dX3_init_4 : decode cX3_init 4 = .ok (.aload_n 0, 1) := by decide +kernel
theorem dX3_init_5 : decode cX3_init 5 = .ok (.bipush 8, 2) := by decide +kernel
theorem dX3_init_7 : decode cX3_init 7 = .ok (.newarray .int, 2) := by decide +kernel
theorem dX3_init_9 : decode cX3_init 9 = .ok (.putfield 7, 3) := by decide +kernel
theorem dX3_init_12 : decode cX3_init 12 = .ok (.aload_n 0, 1) := by decide +kernel
theorem dX3_init_13 : decode cX3_init 13 = .ok (.bipush 8, 2) := by decide +kernel
theorem dX3_init_15 : decode cX3_init 15 = .ok (.newarray .int, 2) := by decide +kernel
theorem dX3_init_17 : decode cX3_init 17 = .ok (.putfield 13, 3) := by decide +kernel
theorem dX3_init_20 : decode cX3_init 20 = .ok (.aload_n 0, 1) := by decide +kernel
theorem dX3_init_21 : decode cX3_init 21 = .ok (.sipush 512, 3) := by decide +kernel
theorem dX3_init_24 : decode cX3_init 24 = .ok (.newarray .int, 2) := by decide +kernel
theorem dX3_init_26 : decode cX3_init 26 = .ok (.putfield 16, 3) := by decide +kernel
theorem dX3_init_29 : decode cX3_init 29 = .ok (.aload_n 0, 1) := by decide +kernel
theorem dX3_init_30 : decode cX3_init 30 = .ok (.bipush 8, 2) := by decide +kernel
theorem dX3_init_32 : decode cX3_init 32 = .ok (.newarray .int, 2) := by decide +kernel
theorem dX3_init_34 : decode cX3_init 34 = .ok (.putfield 19, 3) := by decide +kernel
theorem dX3_init_37 : decode cX3_init 37 = .ok (.aload_n 0, 1) := by decide +kernel
theorem dX3_init_38 : decode cX3_init 38 = .ok (.bipush 24, 2) := by decide +kernel
theorem dX3_init_40 : decode cX3_init 40 = .ok (.newarray .int, 2) := by decide +kernel
theorem dX3_init_42 : decode cX3_init 42 = .ok (.putfield 22, 3) := by decide +kernel
theorem dX3_init_45 : decode cX3_init 45 = .ok (.aload_n 0, 1) := by decide +kernel
theorem dX3_init_46 : decode cX3_init 46 = .ok (.bipush 24, 2) := by decide +kernel
theorem dX3_init_48 : decode cX3_init 48 = .ok (.newarray .int, 2) := by decide +kernel
theorem dX3_init_50 : decode cX3_init 50 = .ok (.putfield 25, 3) := by decide +kernel
theorem dX3_init_53 : decode cX3_init 53 = .ok (.aload_n 0, 1) := by decide +kernel
theorem dX3_init_54 : decode cX3_init 54 = .ok (.bipush 24, 2) := by decide +kernel
theorem dX3_init_56 : decode cX3_init 56 = .ok (.newarray .int, 2) := by decide +kernel
theorem dX3_init_58 : decode cX3_init 58 = .ok (.putfield 28, 3) := by decide +kernel
theorem dX3_init_61 : decode cX3_init 61 = .ok (.aload_n 0, 1) := by decide +kernel
theorem dX3_init_62 : decode cX3_init 62 = .ok (.bipush 24, 2) := by decide +kernel
theorem dX3_init_64 : decode cX3_init 64 = .ok (.newarray .int, 2) := by decide +kernel
theorem dX3_init_66 : decode cX3_init 66 = .ok (.putfield 31, 3) := by decide +kernel
theorem dX3_init_69 : decode cX3_init 69 = .ok (.aload_n 0, 1) := by decide +kernel
theorem dX3_init_70 : decode cX3_init 70 = .ok (.iconst 1, 1) := by decide +kernel
theorem dX3_init_71 : decode cX3_init 71 = .ok (.putfield 34, 3) := by decide +kernel
theorem dX3_init_74 : decode cX3_init 74 = .ok (.aload_n 0, 1) := by decide +kernel
theorem dX3_init_75 : decode cX3_init 75 = .ok (.bipush 32, 2) := by decide +kernel
theorem dX3_init_77 : decode cX3_init 77 = .ok (.newarray .int, 2) := by decide +kernel
theorem dX3_init_79 : decode cX3_init 79 = .ok (.putfield 38, 3) := by decide +kernel
theorem dX3_init_82 : decode cX3_init 82 = .ok (.aload_n 0, 1) := by decide +kernel
theorem dX3_init_83 : decode cX3_init 83 = .ok (.iconst 4, 1) := by decide +kernel
theorem dX3_init_84 : decode cX3_init 84 = .ok (.newarray .long, 2) := by decide +kernel
theorem dX3_init_86 : decode cX3_init 86 = .ok (.putfield 41, 3) := by decide +kernel
theorem dX3_init_89 : decode cX3_init 89 = .ok (.aload_n 0, 1) := by decide +kernel
theorem dX3_init_90 : decode cX3_init 90 = .ok (.sipush 1920, 3) := by decide +kernel
theorem dX3_init_93 : decode cX3_init 93 = .ok (.newarray .int, 2) := by decide +kernel
theorem dX3_init_95 : decode cX3_init 95 = .ok (.putfield 45, 3) := by decide +kernel
theorem dX3_init_98 : decode cX3_init 98 = .ok (.aload_n 0, 1) := by decide +kernel
theorem dX3_init_99 : decode cX3_init 99 = .ok (.sipush 128, 3) := by decide +kernel
theorem dX3_init_102 : decode cX3_init 102 = .ok (.newarray .int, 2) := by decide +kernel
theorem dX3_init_104 : decode cX3_init 104 = .ok (.putfield 48, 3) := by decide +kernel
theorem dX3_init_107 : decode cX3_init 107 = .ok (.aload_n 0, 1) := by decide +kernel
theorem dX3_init_108 : decode cX3_init 108 = .ok (.bipush 16, 2) := by decide +kernel
theorem dX3_init_110 : decode cX3_init 110 = .ok (.newarray .long, 2) := by decide +kernel
theorem dX3_init_112 : decode cX3_init 112 = .ok (.putfield 51, 3) := by decide +kernel
theorem dX3_init_115 : decode cX3_init 115 = .ok (.aload_n 0, 1) := by decide +kernel
theorem dX3_init_116 : decode cX3_init 116 = .ok (.sipush 7680, 3) := by decide +kernel
theorem dX3_init_119 : decode cX3_init 119 = .ok (.newarray .int, 2) := by decide +kernel
theorem dX3_init_121 : decode cX3_init 121 = .ok (.putfield 54, 3) := by decide +kernel
theorem dX3_init_124 : decode cX3_init 124 = .ok (.aload_n 0, 1) := by decide +kernel
theorem dX3_init_125 : decode cX3_init 125 = .ok (.iconst 4, 1) := by decide +kernel
theorem dX3_init_126 : decode cX3_init 126 = .ok (.newarray .int, 2) := by decide +kernel
theorem dX3_init_128 : decode cX3_init 128 = .ok (.putfield 57, 3) := by decide +kernel
theorem dX3_init_131 : decode cX3_init 131 = .ok (.aload_n 0, 1) := by decide +kernel
theorem dX3_init_132 : decode cX3_init 132 = .ok (.iconst 4, 1) := by decide +kernel
theorem dX3_init_133 : decode cX3_init 133 = .ok (.newarray .int, 2) := by decide +kernel
theorem dX3_init_135 : decode cX3_init 135 = .ok (.putfield 60, 3) := by decide +kernel
theorem dX3_init_138 : decode cX3_init 138 = .ok (.aload_n 0, 1) := by decide +kernel
theorem dX3_init_139 : decode cX3_init 139 = .ok (.iload_n 1, 1) := by decide +kernel
theorem dX3_init_140 : decode cX3_init 140 = .ok (.putfield 63, 3) := by decide +kernel
theorem dX3_init_143 : decode cX3_init 143 = .ok (.aload_n 0, 1) := by decide +kernel
theorem dX3_init_144 : decode cX3_init 144 = .ok (.iload_n 2, 1) := by decide +kernel
theorem dX3_init_145 : decode cX3_init 145 = .ok (.iconst 1, 1) := by decide +kernel
theorem dX3_init_146 : decode cX3_init 146 = .ok (.if_icmp .ge 7, 3) := by decide +kernel
theorem dX3_init_149 : decode cX3_init 149 = .ok (.iconst 1, 1) := by decide +kernel
theorem dX3_init_150 : decode cX3_init 150 = .ok (.goto 13, 3) := by decide +kernel
theorem dX3_init_153 : decode cX3_init 153 = .ok (.iload_n 2, 1) := by decide +kernel
theorem dX3_init_154 : decode cX3_init 154 = .ok (.iconst 4, 1) := by decide +kernel
theorem dX3_init_155 : decode cX3_init 155 = .ok (.if_icmp .le 7, 3) := by decide +kernel
theorem dX3_init_158 : decode cX3_init 158 = .ok (.iconst 4, 1) := by decide +kernel
theorem dX3_init_159 : decode cX3_init 159 = .ok (.goto 4, 3) := by decide +kernel
theorem dX3_init_162 : decode cX3_init 162 = .ok (.iload_n 2, 1) := by decide +kernel
theorem dX3_init_163 : decode cX3_init 163 = .ok (.putfield 66, 3) := by decide +kernel
theorem dX3_init_166 : decode cX3_init 166 = .ok (.return_, 1) := by decide +kernel
theorem dX3_thrown_0 : decode cX3_thrown 0 = .ok (.aload_n 0, 1) := by decide +kernel
theorem dX3_thrown_1 : decode cX3_thrown 1 = .ok (.getfield 69, 3) := by decide +kernel
theorem dX3_thrown_4 : decode cX3_thrown 4 = .ok (.ireturn, 1) := by decide +kernel
theorem dX3_date_0 : decode cX3_date 0 = .ok (.iload_n 1, 1) := by decide +kernel
theorem dX3_date_1 : decode cX3_date 1 = .ok (.iconst 0, 1) := by decide +kernel
theorem dX3_date_2 : decode cX3_date 2 = .ok (.sipush 255, 3) := by decide +kernel
theorem dX3_date_5 : decode cX3_date 5 = .ok (.invokestatic 75, 3) := by decide +kernel
theorem dX3_date_8 : decode cX3_date 8 = .ok (.ifCond .eq 27, 3) := by decide +kernel
theorem dX3_date_11 : decode cX3_date 11 = .ok (.iload_n 2, 1) := by decide +kernel
theorem dX3_date_12 : decode cX3_date 12 = .ok (.iconst 0, 1) := by decide +kernel
theorem dX3_date_13 : decode cX3_date 13 = .ok (.sipush 255, 3) := by decide +kernel
theorem dX3_date_16 : decode cX3_date 16 = .ok (.invokestatic 75, 3) := by decide +kernel
theorem dX3_date_19 : decode cX3_date 19 = .ok (.ifCond .eq 16, 3) := by decide +kernel
theorem dX3_date_22 : decode cX3_date 22 = .ok (.iload_n 1, 1) := by decide +kernel
theorem dX3_date_23 : decode cX3_date 23 = .ok (.iload_n 2, 1) := by decide +kernel
theorem dX3_date_24 : decode cX3_date 24 = .ok (.if_icmp .gt 11, 3) := by decide +kernel
theorem dX3_date_27 : decode cX3_date 27 = .ok (.iload_n 2, 1) := by decide +kernel
theorem dX3_date_28 : decode cX3_date 28 = .ok (.iload_n 1, 1) := by decide +kernel
theorem dX3_date_29 : decode cX3_date 29 = .ok (.isub, 1) := by decide +kernel
theorem dX3_date_30 : decode cX3_date 30 = .ok (.bipush 63, 2) := by decide +kernel
theorem dX3_date_32 : decode cX3_date 32 = .ok (.if_icmp .le 7, 3) := by decide +kernel
theorem dX3_date_35 : decode cX3_date 35 = .ok (.iconst 1, 1) := by decide +kernel
theorem dX3_date_36 : decode cX3_date 36 = .ok (.goto 4, 3) := by decide +kernel
theorem dX3_date_39 : decode cX3_date 39 = .ok (.iconst 0, 1) := by decide +kernel
theorem dX3_date_40 : decode cX3_date 40 = .ok (.istore_n 3, 1) := by decide +kernel
theorem dX3_date_41 : decode cX3_date 41 = .ok (.aload_n 0, 1) := by decide +kernel
theorem dX3_date_42 : decode cX3_date 42 = .ok (.iload_n 3, 1) := by decide +kernel
theorem dX3_date_43 : decode cX3_date 43 = .ok (.aload_n 0, 1) := by decide +kernel
theorem dX3_date_44 : decode cX3_date 44 = .ok (.getfield 72, 3) := by decide +kernel
theorem dX3_date_47 : decode cX3_date 47 = .ok (.bipush 8, 2) := by decide +kernel
theorem dX3_date_49 : decode cX3_date 49 = .ok (.if_icmp .ne 7, 3) := by decide +kernel
theorem dX3_date_52 : decode cX3_date 52 = .ok (.iconst 1, 1) := by decide +kernel
theorem dX3_date_53 : decode cX3_date 53 = .ok (.goto 4, 3) := by decide +kernel
theorem dX3_date_56 : decode cX3_date 56 = .ok (.iconst 0, 1) := by decide +kernel
theorem dX3_date_57 : decode cX3_date 57 = .ok (.iconst 0, 1) := by decide +kernel
theorem dX3_date_58 : decode cX3_date 58 = .ok (.invokevirtual 86, 3) := by decide +kernel
theorem dX3_date_61 : decode cX3_date 61 = .ok (.ifCond .eq 5, 3) := by decide +kernel
theorem dX3_date_64 : decode cX3_date 64 = .ok (.iconst 0, 1) := by decide +kernel
theorem dX3_date_65 : decode cX3_date 65 = .ok (.ireturn, 1) := by decide +kernel
theorem dX3_date_66 : decode cX3_date 66 = .ok (.aload_n 0, 1) := by decide +kernel
theorem dX3_date_67 : decode cX3_date 67 = .ok (.getfield 7, 3) := by decide +kernel
theorem dX3_date_70 : decode cX3_date 70 = .ok (.aload_n 0, 1) := by decide +kernel
theorem dX3_date_71 : decode cX3_date 71 = .ok (.getfield 72, 3) := by decide +kernel
theorem dX3_date_74 : decode cX3_date 74 = .ok (.iload_n 1, 1) := by decide +kernel
theorem dX3_date_75 : decode cX3_date 75 = .ok (.iastore, 1) := by decide +kernel
theorem dX3_date_76 : decode cX3_date 76 = .ok (.aload_n 0, 1) := by decide +kernel
theorem dX3_date_77 : decode cX3_date 77 = .ok (.getfield 13, 3) := by decide +kernel
theorem dX3_date_80 : decode cX3_date 80 = .ok (.aload_n 0, 1) := by decide +kernel
theorem dX3_date_81 : decode cX3_date 81 = .ok (.getfield 72, 3) := by decide +kernel
theorem dX3_date_84 : decode cX3_date 84 = .ok (.iload_n 2, 1) := by decide +kernel
theorem dX3_date_85 : decode cX3_date 85 = .ok (.iastore, 1) := by decide +kernel
theorem dX3_date_86 : decode cX3_date 86 = .ok (.aload_n 0, 1) := by decide +kernel
theorem dX3_date_87 : decode cX3_date 87 = .ok (.getfield 19, 3) := by decide +kernel
theorem dX3_date_90 : decode cX3_date 90 = .ok (.aload_n 0, 1) := by decide +kernel
theorem dX3_date_91 : decode cX3_date 91 = .ok (.getfield 72, 3) := by decide +kernel
theorem dX3_date_94 : decode cX3_date 94 = .ok (.iconst (-1), 1) := by decide +kernel
theorem dX3_date_95 : decode cX3_date 95 = .ok (.iastore, 1) := by decide +kernel
theorem dX3_date_96 : decode cX3_date 96 = .ok (.iconst 0, 1) := by decide +kernel
theorem dX3_date_97 : decode cX3_date 97 = .ok (.istore 4, 2) := by decide +kernel
theorem dX3_date_99 : decode cX3_date 99 = .ok (.iload 4, 2) := by decide +kernel
theorem dX3_date_101 : decode cX3_date 101 = .ok (.bipush 64, 2) := by decide +kernel
theorem dX3_date_103 : decode cX3_date 103 = .ok (.if_icmp .ge 25, 3) := by decide +kernel
theorem dX3_date_106 : decode cX3_date 106 = .ok (.aload_n 0, 1) := by decide +kernel
theorem dX3_date_107 : decode cX3_date 107 = .ok (.getfield 16, 3) := by decide +kernel
theorem dX3_date_110 : decode cX3_date 110 = .ok (.bipush 64, 2) := by decide +kernel
theorem dX3_date_112 : decode cX3_date 112 = .ok (.aload_n 0, 1) := by decide +kernel
theorem dX3_date_113 : decode cX3_date 113 = .ok (.getfield 72, 3) := by decide +kernel
theorem dX3_date_116 : decode cX3_date 116 = .ok (.imul, 1) := by decide +kernel
theorem dX3_date_117 : decode cX3_date 117 = .ok (.iload 4, 2) := by decide +kernel
theorem dX3_date_119 : decode cX3_date 119 = .ok (.iadd, 1) := by decide +kernel
theorem dX3_date_120 : decode cX3_date 120 = .ok (.iconst 1, 1) := by decide +kernel
theorem dX3_date_121 : decode cX3_date 121 = .ok (.iastore, 1) := by decide +kernel
theorem dX3_date_122 : decode cX3_date 122 = .ok (.iinc 4 1, 3) := by decide +kernel
theorem dX3_date_125 : decode cX3_date 125 = .ok (.goto (-26), 3) := by decide +kernel
theorem dX3_date_128 : decode cX3_date 128 = .ok (.aload_n 0, 1) := by decide +kernel
theorem dX3_date_129 : decode cX3_date 129 = .ok (.dup, 1) := by decide +kernel
theorem dX3_date_130 : decode cX3_date 130 = .ok (.getfield 72, 3) := by decide +kernel
theorem dX3_date_133 : decode cX3_date 133 = .ok (.iconst 1, 1) := by decide +kernel
theorem dX3_date_134 : decode cX3_date 134 = .ok (.iadd, 1) := by decide +kernel
theorem dX3_date_135 : decode cX3_date 135 = .ok (.putfield 72, 3) := by decide +kernel
theorem dX3_date_138 : decode cX3_date 138 = .ok (.aload_n 0, 1) := by decide +kernel
theorem dX3_date_139 : decode cX3_date 139 = .ok (.invokevirtual 90, 3) := by decide +kernel
theorem dX3_date_142 : decode cX3_date 142 = .ok (.aload_n 0, 1) := by decide +kernel
theorem dX3_date_143 : decode cX3_date 143 = .ok (.getfield 72, 3) := by decide +kernel
theorem dX3_date_146 : decode cX3_date 146 = .ok (.iconst 1, 1) := by decide +kernel
theorem dX3_date_147 : decode cX3_date 147 = .ok (.isub, 1) := by decide +kernel
theorem dX3_date_148 : decode cX3_date 148 = .ok (.ireturn, 1) := by decide +kernel
theorem dX3_in_0 : decode cX3_in 0 = .ok (.iload_n 0, 1) := by decide +kernel
theorem dX3_in_1 : decode cX3_in 1 = .ok (.iload_n 1, 1) := by decide +kernel
theorem dX3_in_2 : decode cX3_in 2 = .ok (.if_icmp .lt 12, 3) := by decide +kernel
theorem dX3_in_5 : decode cX3_in 5 = .ok (.iload_n 0, 1) := by decide +kernel
theorem dX3_in_6 : decode cX3_in 6 = .ok (.iload_n 2, 1) := by decide +kernel
theorem dX3_in_7 : decode cX3_in 7 = .ok (.if_icmp .gt 7, 3) := by decide +kernel
theorem dX3_in_10 : decode cX3_in 10 = .ok (.iconst 1, 1) := by decide +kernel
theorem dX3_in_11 : decode cX3_in 11 = .ok (.goto 4, 3) := by decide +kernel
theorem dX3_in_14 : decode cX3_in 14 = .ok (.iconst 0, 1) := by decide +kernel
theorem dX3_in_15 : decode cX3_in 15 = .ok (.ireturn, 1) := by decide +kernel
theorem dX3_throwing_0 : decode cX3_throwing 0 = .ok (.aload_n 0, 1) := by decide +kernel
theorem dX3_throwing_1 : decode cX3_throwing 1 = .ok (.iload_n 1, 1) := by decide +kernel
theorem dX3_throwing_2 : decode cX3_throwing 2 = .ok (.ifCond .eq 7, 3) := by decide +kernel
theorem dX3_throwing_5 : decode cX3_throwing 5 = .ok (.iconst 1, 1) := by decide +kernel
theorem dX3_throwing_6 : decode cX3_throwing 6 = .ok (.goto 20, 3) := by decide +kernel
theorem dX3_throwing_9 : decode cX3_throwing 9 = .ok (.iload_n 2, 1) := by decide +kernel
theorem dX3_throwing_10 : decode cX3_throwing 10 = .ok (.ifCond .eq 7, 3) := by decide +kernel
theorem dX3_throwing_13 : decode cX3_throwing 13 = .ok (.iconst 2, 1) := by decide +kernel
theorem dX3_throwing_14 : decode cX3_throwing 14 = .ok (.goto 12, 3) := by decide +kernel
theorem dX3_throwing_17 : decode cX3_throwing 17 = .ok (.iload_n 3, 1) := by decide +kernel
theorem dX3_throwing_18 : decode cX3_throwing 18 = .ok (.ifCond .eq 7, 3) := by decide +kernel
theorem dX3_throwing_21 : decode cX3_throwing 21 = .ok (.iconst 3, 1) := by decide +kernel
theorem dX3_throwing_22 : decode cX3_throwing 22 = .ok (.goto 4, 3) := by decide +kernel
theorem dX3_throwing_25 : decode cX3_throwing 25 = .ok (.iconst 0, 1) := by decide +kernel
theorem dX3_throwing_26 : decode cX3_throwing 26 = .ok (.putfield 69, 3) := by decide +kernel
theorem dX3_throwing_29 : decode cX3_throwing 29 = .ok (.aload_n 0, 1) := by decide +kernel
theorem dX3_throwing_30 : decode cX3_throwing 30 = .ok (.getfield 69, 3) := by decide +kernel
theorem dX3_throwing_33 : decode cX3_throwing 33 = .ok (.ifCond .le 7, 3) := by decide +kernel
theorem dX3_throwing_36 : decode cX3_throwing 36 = .ok (.iconst 1, 1) := by decide +kernel
theorem dX3_throwing_37 : decode cX3_throwing 37 = .ok (.goto 4, 3) := by decide +kernel
theorem dX3_throwing_40 : decode cX3_throwing 40 = .ok (.iconst 0, 1) := by decide +kernel
theorem dX3_throwing_41 : decode cX3_throwing 41 = .ok (.ireturn, 1) := by decide +kernel
theorem dX3_gone_0 : decode cX3_gone 0 = .ok (.aload_n 0, 1) := by decide +kernel
theorem dX3_gone_1 : decode cX3_gone 1 = .ok (.iconst 0, 1) := by decide +kernel
theorem dX3_gone_2 : decode cX3_gone 2 = .ok (.putfield 79, 3) := by decide +kernel
theorem dX3_gone_5 : decode cX3_gone 5 = .ok (.aload_n 0, 1) := by decide +kernel
theorem dX3_gone_6 : decode cX3_gone 6 = .ok (.iconst 0, 1) := by decide +kernel
theorem dX3_gone_7 : decode cX3_gone 7 = .ok (.putfield 83, 3) := by decide +kernel
theorem dX3_gone_10 : decode cX3_gone 10 = .ok (.return_, 1) := by decide +kernel
theorem dX3_weight_0 : decode cX3_weight 0 = .ok (.aload_n 0, 1) := by decide +kernel
theorem dX3_weight_1 : decode cX3_weight 1 = .ok (.aload_n 0, 1) := by decide +kernel
theorem dX3_weight_2 : decode cX3_weight 2 = .ok (.iload_n 1, 1) := by decide +kernel
theorem dX3_weight_3 : decode cX3_weight 3 = .ok (.iload_n 2, 1) := by decide +kernel
theorem dX3_weight_4 : decode cX3_weight 4 = .ok (.invokevirtual 97, 3) := by decide +kernel
theorem dX3_weight_7 : decode cX3_weight 7 = .ok (.ifCond .ne 7, 3) := by decide +kernel
theorem dX3_weight_10 : decode cX3_weight 10 = .ok (.iconst 1, 1) := by decide +kernel
theorem dX3_weight_11 : decode cX3_weight 11 = .ok (.goto 4, 3) := by decide +kernel
theorem dX3_weight_14 : decode cX3_weight 14 = .ok (.iconst 0, 1) := by decide +kernel
theorem dX3_weight_15 : decode cX3_weight 15 = .ok (.iload_n 3, 1) := by decide +kernel
theorem dX3_weight_16 : decode cX3_weight 16 = .ok (.iconst 1, 1) := by decide +kernel
theorem dX3_weight_17 : decode cX3_weight 17 = .ok (.sipush 1000, 3) := by decide +kernel
theorem dX3_weight_20 : decode cX3_weight 20 = .ok (.invokestatic 75, 3) := by decide +kernel
theorem dX3_weight_23 : decode cX3_weight 23 = .ok (.ifCond .ne 7, 3) := by decide +kernel
theorem dX3_weight_26 : decode cX3_weight 26 = .ok (.iconst 1, 1) := by decide +kernel
theorem dX3_weight_27 : decode cX3_weight 27 = .ok (.goto 4, 3) := by decide +kernel
theorem dX3_weight_30 : decode cX3_weight 30 = .ok (.iconst 0, 1) := by decide +kernel
theorem dX3_weight_31 : decode cX3_weight 31 = .ok (.iconst 0, 1) := by decide +kernel
theorem dX3_weight_32 : decode cX3_weight 32 = .ok (.invokevirtual 86, 3) := by decide +kernel
theorem dX3_weight_35 : decode cX3_weight 35 = .ok (.ifCond .eq 5, 3) := by decide +kernel
theorem dX3_weight_38 : decode cX3_weight 38 = .ok (.iconst 0, 1) := by decide +kernel
theorem dX3_weight_39 : decode cX3_weight 39 = .ok (.ireturn, 1) := by decide +kernel
theorem dX3_weight_40 : decode cX3_weight 40 = .ok (.aload_n 0, 1) := by decide +kernel
theorem dX3_weight_41 : decode cX3_weight 41 = .ok (.iload_n 1, 1) := by decide +kernel
theorem dX3_weight_42 : decode cX3_weight 42 = .ok (.iload_n 2, 1) := by decide +kernel
theorem dX3_weight_43 : decode cX3_weight 43 = .ok (.invokevirtual 101, 3) := by decide +kernel
theorem dX3_weight_46 : decode cX3_weight 46 = .ok (.istore 4, 2) := by decide +kernel
theorem dX3_weight_48 : decode cX3_weight 48 = .ok (.aload_n 0, 1) := by decide +kernel
theorem dX3_weight_49 : decode cX3_weight 49 = .ok (.getfield 16, 3) := by decide +kernel
theorem dX3_weight_52 : decode cX3_weight 52 = .ok (.bipush 64, 2) := by decide +kernel
theorem dX3_weight_54 : decode cX3_weight 54 = .ok (.iload_n 1, 1) := by decide +kernel
theorem dX3_weight_55 : decode cX3_weight 55 = .ok (.imul, 1) := by decide +kernel
theorem dX3_weight_56 : decode cX3_weight 56 = .ok (.iload_n 2, 1) := by decide +kernel
theorem dX3_weight_57 : decode cX3_weight 57 = .ok (.iadd, 1) := by decide +kernel
theorem dX3_weight_58 : decode cX3_weight 58 = .ok (.aload_n 0, 1) := by decide +kernel
theorem dX3_weight_59 : decode cX3_weight 59 = .ok (.getfield 7, 3) := by decide +kernel
theorem dX3_weight_62 : decode cX3_weight 62 = .ok (.iload_n 1, 1) := by decide +kernel
theorem dX3_weight_63 : decode cX3_weight 63 = .ok (.iaload, 1) := by decide +kernel
theorem dX3_weight_64 : decode cX3_weight 64 = .ok (.isub, 1) := by decide +kernel
theorem dX3_weight_65 : decode cX3_weight 65 = .ok (.iload_n 3, 1) := by decide +kernel
theorem dX3_weight_66 : decode cX3_weight 66 = .ok (.iastore, 1) := by decide +kernel
theorem dX3_weight_67 : decode cX3_weight 67 = .ok (.aload_n 0, 1) := by decide +kernel
theorem dX3_weight_68 : decode cX3_weight 68 = .ok (.invokevirtual 90, 3) := by decide +kernel
theorem dX3_weight_71 : decode cX3_weight 71 = .ok (.iload 4, 2) := by decide +kernel
theorem dX3_weight_73 : decode cX3_weight 73 = .ok (.ireturn, 1) := by decide +kernel
theorem dX3_hasYear_0 : decode cX3_hasYear 0 = .ok (.aload_n 0, 1) := by decide +kernel
theorem dX3_hasYear_1 : decode cX3_hasYear 1 = .ok (.iload_n 1, 1) := by decide +kernel
theorem dX3_hasYear_2 : decode cX3_hasYear 2 = .ok (.invokevirtual 93, 3) := by decide +kernel
theorem dX3_hasYear_5 : decode cX3_hasYear 5 = .ok (.ifCond .eq 26, 3) := by decide +kernel
theorem dX3_hasYear_8 : decode cX3_hasYear 8 = .ok (.iload_n 2, 1) := by decide +kernel
theorem dX3_hasYear_9 : decode cX3_hasYear 9 = .ok (.aload_n 0, 1) := by decide +kernel
theorem dX3_hasYear_10 : decode cX3_hasYear 10 = .ok (.getfield 7, 3) := by decide +kernel
theorem dX3_hasYear_13 : decode cX3_hasYear 13 = .ok (.iload_n 1, 1) := by decide +kernel
theorem dX3_hasYear_14 : decode cX3_hasYear 14 = .ok (.iaload, 1) := by decide +kernel
theorem dX3_hasYear_15 : decode cX3_hasYear 15 = .ok (.aload_n 0, 1) := by decide +kernel
theorem dX3_hasYear_16 : decode cX3_hasYear 16 = .ok (.getfield 13, 3) := by decide +kernel
theorem dX3_hasYear_19 : decode cX3_hasYear 19 = .ok (.iload_n 1, 1) := by decide +kernel
theorem dX3_hasYear_20 : decode cX3_hasYear 20 = .ok (.iaload, 1) := by decide +kernel
theorem dX3_hasYear_21 : decode cX3_hasYear 21 = .ok (.invokestatic 75, 3) := by decide +kernel
theorem dX3_hasYear_24 : decode cX3_hasYear 24 = .ok (.ifCond .eq 7, 3) := by decide +kernel
theorem dX3_hasYear_27 : decode cX3_hasYear 27 = .ok (.iconst 1, 1) := by decide +kernel
theorem dX3_hasYear_28 : decode cX3_hasYear 28 = .ok (.goto 4, 3) := by decide +kernel
theorem dX3_hasYear_31 : decode cX3_hasYear 31 = .ok (.iconst 0, 1) := by decide +kernel
theorem dX3_hasYear_32 : decode cX3_hasYear 32 = .ok (.ireturn, 1) := by decide +kernel
theorem dX3_isDate_0 : decode cX3_isDate 0 = .ok (.iload_n 1, 1) := by decide +kernel
theorem dX3_isDate_1 : decode cX3_isDate 1 = .ok (.iconst 0, 1) := by decide +kernel
theorem dX3_isDate_2 : decode cX3_isDate 2 = .ok (.aload_n 0, 1) := by decide +kernel
theorem dX3_isDate_3 : decode cX3_isDate 3 = .ok (.getfield 72, 3) := by decide +kernel
theorem dX3_isDate_6 : decode cX3_isDate 6 = .ok (.iconst 1, 1) := by decide +kernel
theorem dX3_isDate_7 : decode cX3_isDate 7 = .ok (.isub, 1) := by decide +kernel
theorem dX3_isDate_8 : decode cX3_isDate 8 = .ok (.invokestatic 75, 3) := by decide +kernel
theorem dX3_isDate_11 : decode cX3_isDate 11 = .ok (.ireturn, 1) := by decide +kernel
theorem dX3_weightOf_0 : decode cX3_weightOf 0 = .ok (.aload_n 0, 1) := by decide +kernel
theorem dX3_weightOf_1 : decode cX3_weightOf 1 = .ok (.getfield 16, 3) := by decide +kernel
theorem dX3_weightOf_4 : decode cX3_weightOf 4 = .ok (.bipush 64, 2) := by decide +kernel
theorem dX3_weightOf_6 : decode cX3_weightOf 6 = .ok (.iload_n 1, 1) := by decide +kernel
theorem dX3_weightOf_7 : decode cX3_weightOf 7 = .ok (.imul, 1) := by decide +kernel
theorem dX3_weightOf_8 : decode cX3_weightOf 8 = .ok (.iload_n 2, 1) := by decide +kernel
theorem dX3_weightOf_9 : decode cX3_weightOf 9 = .ok (.iadd, 1) := by decide +kernel
theorem dX3_weightOf_10 : decode cX3_weightOf 10 = .ok (.aload_n 0, 1) := by decide +kernel
theorem dX3_weightOf_11 : decode cX3_weightOf 11 = .ok (.getfield 7, 3) := by decide +kernel
theorem dX3_weightOf_14 : decode cX3_weightOf 14 = .ok (.iload_n 1, 1) := by decide +kernel
theorem dX3_weightOf_15 : decode cX3_weightOf 15 = .ok (.iaload, 1) := by decide +kernel
theorem dX3_weightOf_16 : decode cX3_weightOf 16 = .ok (.isub, 1) := by decide +kernel
theorem dX3_weightOf_17 : decode cX3_weightOf 17 = .ok (.iaload, 1) := by decide +kernel
theorem dX3_weightOf_18 : decode cX3_weightOf 18 = .ok (.ireturn, 1) := by decide +kernel
theorem dX3_before_0 : decode cX3_before 0 = .ok (.iload_n 1, 1) := by decide +kernel
theorem dX3_before_1 : decode cX3_before 1 = .ok (.iload_n 2, 1) := by decide +kernel
theorem dX3_before_2 : decode cX3_before 2 = .ok (.if_icmp .eq 32, 3) := by decide +kernel
theorem dX3_before_5 : decode cX3_before 5 = .ok (.iload_n 3, 1) := by decide +kernel
theorem dX3_before_6 : decode cX3_before 6 = .ok (.iconst 0, 1) := by decide +kernel
theorem dX3_before_7 : decode cX3_before 7 = .ok (.sipush 255, 3) := by decide +kernel
theorem dX3_before_10 : decode cX3_before 10 = .ok (.invokestatic 75, 3) := by decide +kernel
theorem dX3_before_13 : decode cX3_before 13 = .ok (.ifCond .eq 21, 3) := by decide +kernel
theorem dX3_before_16 : decode cX3_before 16 = .ok (.iload 4, 2) := by decide +kernel
theorem dX3_before_18 : decode cX3_before 18 = .ok (.iconst 0, 1) := by decide +kernel
theorem dX3_before_19 : decode cX3_before 19 = .ok (.sipush 255, 3) := by decide +kernel
theorem dX3_before_22 : decode cX3_before 22 = .ok (.invokestatic 75, 3) := by decide +kernel
theorem dX3_before_25 : decode cX3_before 25 = .ok (.ifCond .eq 9, 3) := by decide +kernel
theorem dX3_before_28 : decode cX3_before 28 = .ok (.iload_n 3, 1) := by decide +kernel
theorem dX3_before_29 : decode cX3_before 29 = .ok (.iload 4, 2) := by decide +kernel
theorem dX3_before_31 : decode cX3_before 31 = .ok (.if_icmp .le 7, 3) := by decide +kernel
theorem dX3_before_34 : decode cX3_before 34 = .ok (.iconst 1, 1) := by decide +kernel
theorem dX3_before_35 : decode cX3_before 35 = .ok (.goto 4, 3) := by decide +kernel
theorem dX3_before_38 : decode cX3_before 38 = .ok (.iconst 0, 1) := by decide +kernel
theorem dX3_before_39 : decode cX3_before 39 = .ok (.istore 5, 2) := by decide +kernel
theorem dX3_before_41 : decode cX3_before 41 = .ok (.aload_n 0, 1) := by decide +kernel
theorem dX3_before_42 : decode cX3_before 42 = .ok (.aload_n 0, 1) := by decide +kernel
theorem dX3_before_43 : decode cX3_before 43 = .ok (.iload_n 1, 1) := by decide +kernel
theorem dX3_before_44 : decode cX3_before 44 = .ok (.invokevirtual 93, 3) := by decide +kernel
theorem dX3_before_47 : decode cX3_before 47 = .ok (.ifCond .eq 11, 3) := by decide +kernel
theorem dX3_before_50 : decode cX3_before 50 = .ok (.aload_n 0, 1) := by decide +kernel
theorem dX3_before_51 : decode cX3_before 51 = .ok (.iload_n 2, 1) := by decide +kernel
theorem dX3_before_52 : decode cX3_before 52 = .ok (.invokevirtual 93, 3) := by decide +kernel
theorem dX3_before_55 : decode cX3_before 55 = .ok (.ifCond .ne 7, 3) := by decide +kernel
theorem dX3_before_58 : decode cX3_before 58 = .ok (.iconst 1, 1) := by decide +kernel
theorem dX3_before_59 : decode cX3_before 59 = .ok (.goto 4, 3) := by decide +kernel
theorem dX3_before_62 : decode cX3_before 62 = .ok (.iconst 0, 1) := by decide +kernel
theorem dX3_before_63 : decode cX3_before 63 = .ok (.iload 5, 2) := by decide +kernel
theorem dX3_before_65 : decode cX3_before 65 = .ok (.aload_n 0, 1) := by decide +kernel
theorem dX3_before_66 : decode cX3_before 66 = .ok (.getfield 105, 3) := by decide +kernel
theorem dX3_before_69 : decode cX3_before 69 = .ok (.bipush 24, 2) := by decide +kernel
theorem dX3_before_71 : decode cX3_before 71 = .ok (.if_icmp .ne 7, 3) := by decide +kernel
theorem dX3_before_74 : decode cX3_before 74 = .ok (.iconst 1, 1) := by decide +kernel
theorem dX3_before_75 : decode cX3_before 75 = .ok (.goto 4, 3) := by decide +kernel
theorem dX3_before_78 : decode cX3_before 78 = .ok (.iconst 0, 1) := by decide +kernel
theorem dX3_before_79 : decode cX3_before 79 = .ok (.invokevirtual 86, 3) := by decide +kernel
theorem dX3_before_82 : decode cX3_before 82 = .ok (.ifCond .eq 5, 3) := by decide +kernel
theorem dX3_before_85 : decode cX3_before 85 = .ok (.iconst 0, 1) := by decide +kernel
theorem dX3_before_86 : decode cX3_before 86 = .ok (.ireturn, 1) := by decide +kernel
theorem dX3_before_87 : decode cX3_before 87 = .ok (.aload_n 0, 1) := by decide +kernel
theorem dX3_before_88 : decode cX3_before 88 = .ok (.getfield 22, 3) := by decide +kernel
theorem dX3_before_91 : decode cX3_before 91 = .ok (.aload_n 0, 1) := by decide +kernel
theorem dX3_before_92 : decode cX3_before 92 = .ok (.getfield 105, 3) := by decide +kernel
theorem dX3_before_95 : decode cX3_before 95 = .ok (.iload_n 1, 1) := by decide +kernel
theorem dX3_before_96 : decode cX3_before 96 = .ok (.iastore, 1) := by decide +kernel
theorem dX3_before_97 : decode cX3_before 97 = .ok (.aload_n 0, 1) := by decide +kernel
theorem dX3_before_98 : decode cX3_before 98 = .ok (.getfield 25, 3) := by decide +kernel
theorem dX3_before_101 : decode cX3_before 101 = .ok (.aload_n 0, 1) := by decide +kernel
theorem dX3_before_102 : decode cX3_before 102 = .ok (.getfield 105, 3) := by decide +kernel
theorem dX3_before_105 : decode cX3_before 105 = .ok (.iload_n 2, 1) := by decide +kernel
theorem dX3_before_106 : decode cX3_before 106 = .ok (.iastore, 1) := by decide +kernel
theorem dX3_before_107 : decode cX3_before 107 = .ok (.aload_n 0, 1) := by decide +kernel
theorem dX3_before_108 : decode cX3_before 108 = .ok (.getfield 28, 3) := by decide +kernel
theorem dX3_before_111 : decode cX3_before 111 = .ok (.aload_n 0, 1) := by decide +kernel
theorem dX3_before_112 : decode cX3_before 112 = .ok (.getfield 105, 3) := by decide +kernel
theorem dX3_before_115 : decode cX3_before 115 = .ok (.iload_n 3, 1) := by decide +kernel
theorem dX3_before_116 : decode cX3_before 116 = .ok (.iastore, 1) := by decide +kernel
theorem dX3_before_117 : decode cX3_before 117 = .ok (.aload_n 0, 1) := by decide +kernel
theorem dX3_before_118 : decode cX3_before 118 = .ok (.getfield 31, 3) := by decide +kernel
theorem dX3_before_121 : decode cX3_before 121 = .ok (.aload_n 0, 1) := by decide +kernel
theorem dX3_before_122 : decode cX3_before 122 = .ok (.getfield 105, 3) := by decide +kernel
theorem dX3_before_125 : decode cX3_before 125 = .ok (.iload 4, 2) := by decide +kernel
theorem dX3_before_127 : decode cX3_before 127 = .ok (.iastore, 1) := by decide +kernel
theorem dX3_before_128 : decode cX3_before 128 = .ok (.aload_n 0, 1) := by decide +kernel
theorem dX3_before_129 : decode cX3_before 129 = .ok (.dup, 1) := by decide +kernel
theorem dX3_before_130 : decode cX3_before 130 = .ok (.getfield 105, 3) := by decide +kernel
theorem dX3_before_133 : decode cX3_before 133 = .ok (.iconst 1, 1) := by decide +kernel
theorem dX3_before_134 : decode cX3_before 134 = .ok (.iadd, 1) := by decide +kernel
theorem dX3_before_135 : decode cX3_before 135 = .ok (.putfield 105, 3) := by decide +kernel
theorem dX3_before_138 : decode cX3_before 138 = .ok (.aload_n 0, 1) := by decide +kernel
theorem dX3_before_139 : decode cX3_before 139 = .ok (.invokevirtual 90, 3) := by decide +kernel
theorem dX3_before_142 : decode cX3_before 142 = .ok (.aload_n 0, 1) := by decide +kernel
theorem dX3_before_143 : decode cX3_before 143 = .ok (.getfield 105, 3) := by decide +kernel
theorem dX3_before_146 : decode cX3_before 146 = .ok (.iconst 1, 1) := by decide +kernel
theorem dX3_before_147 : decode cX3_before 147 = .ok (.isub, 1) := by decide +kernel
theorem dX3_before_148 : decode cX3_before 148 = .ok (.ireturn, 1) := by decide +kernel
theorem dX3_member_0 : decode cX3_member 0 = .ok (.aload_n 0, 1) := by decide +kernel
theorem dX3_member_1 : decode cX3_member 1 = .ok (.aload_n 0, 1) := by decide +kernel
theorem dX3_member_2 : decode cX3_member 2 = .ok (.iload_n 1, 1) := by decide +kernel
theorem dX3_member_3 : decode cX3_member 3 = .ok (.invokevirtual 93, 3) := by decide +kernel
theorem dX3_member_6 : decode cX3_member 6 = .ok (.ifCond .eq 12, 3) := by decide +kernel
theorem dX3_member_9 : decode cX3_member 9 = .ok (.iload_n 2, 1) := by decide +kernel
theorem dX3_member_10 : decode cX3_member 10 = .ok (.iconst (-1), 1) := by decide +kernel
theorem dX3_member_11 : decode cX3_member 11 = .ok (.iconst 3, 1) := by decide +kernel
theorem dX3_member_12 : decode cX3_member 12 = .ok (.invokestatic 75, 3) := by decide +kernel
theorem dX3_member_15 : decode cX3_member 15 = .ok (.ifCond .ne 7, 3) := by decide +kernel
theorem dX3_member_18 : decode cX3_member 18 = .ok (.iconst 1, 1) := by decide +kernel
theorem dX3_member_19 : decode cX3_member 19 = .ok (.goto 4, 3) := by decide +kernel
theorem dX3_member_22 : decode cX3_member 22 = .ok (.iconst 0, 1) := by decide +kernel
theorem dX3_member_23 : decode cX3_member 23 = .ok (.iconst 0, 1) := by decide +kernel
theorem dX3_member_24 : decode cX3_member 24 = .ok (.iconst 0, 1) := by decide +kernel
theorem dX3_member_25 : decode cX3_member 25 = .ok (.invokevirtual 86, 3) := by decide +kernel
theorem dX3_member_28 : decode cX3_member 28 = .ok (.ifCond .eq 5, 3) := by decide +kernel
theorem dX3_member_31 : decode cX3_member 31 = .ok (.iconst 0, 1) := by decide +kernel
theorem dX3_member_32 : decode cX3_member 32 = .ok (.ireturn, 1) := by decide +kernel
theorem dX3_member_33 : decode cX3_member 33 = .ok (.aload_n 0, 1) := by decide +kernel
theorem dX3_member_34 : decode cX3_member 34 = .ok (.getfield 19, 3) := by decide +kernel
theorem dX3_member_37 : decode cX3_member 37 = .ok (.iload_n 1, 1) := by decide +kernel
theorem dX3_member_38 : decode cX3_member 38 = .ok (.iaload, 1) := by decide +kernel
theorem dX3_member_39 : decode cX3_member 39 = .ok (.istore_n 3, 1) := by decide +kernel
theorem dX3_member_40 : decode cX3_member 40 = .ok (.aload_n 0, 1) := by decide +kernel
theorem dX3_member_41 : decode cX3_member 41 = .ok (.getfield 19, 3) := by decide +kernel
theorem dX3_member_44 : decode cX3_member 44 = .ok (.iload_n 1, 1) := by decide +kernel
theorem dX3_member_45 : decode cX3_member 45 = .ok (.iload_n 2, 1) := by decide +kernel
theorem dX3_member_46 : decode cX3_member 46 = .ok (.iastore, 1) := by decide +kernel
theorem dX3_member_47 : decode cX3_member 47 = .ok (.iload_n 3, 1) := by decide +kernel
theorem dX3_member_48 : decode cX3_member 48 = .ok (.ireturn, 1) := by decide +kernel
theorem dX3_burn_0 : decode cX3_burn 0 = .ok (.aload_n 0, 1) := by decide +kernel
theorem dX3_burn_1 : decode cX3_burn 1 = .ok (.iload_n 1, 1) := by decide +kernel
theorem dX3_burn_2 : decode cX3_burn 2 = .ok (.iconst 0, 1) := by decide +kernel
theorem dX3_burn_3 : decode cX3_burn 3 = .ok (.bipush 100, 2) := by decide +kernel
theorem dX3_burn_5 : decode cX3_burn 5 = .ok (.invokestatic 75, 3) := by decide +kernel
theorem dX3_burn_8 : decode cX3_burn 8 = .ok (.ifCond .ne 7, 3) := by decide +kernel
theorem dX3_burn_11 : decode cX3_burn 11 = .ok (.iconst 1, 1) := by decide +kernel
theorem dX3_burn_12 : decode cX3_burn 12 = .ok (.goto 4, 3) := by decide +kernel
theorem dX3_burn_15 : decode cX3_burn 15 = .ok (.iconst 0, 1) := by decide +kernel
theorem dX3_burn_16 : decode cX3_burn 16 = .ok (.iconst 0, 1) := by decide +kernel
theorem dX3_burn_17 : decode cX3_burn 17 = .ok (.iconst 0, 1) := by decide +kernel
theorem dX3_burn_18 : decode cX3_burn 18 = .ok (.invokevirtual 86, 3) := by decide +kernel
theorem dX3_burn_21 : decode cX3_burn 21 = .ok (.ifCond .eq 5, 3) := by decide +kernel
theorem dX3_burn_24 : decode cX3_burn 24 = .ok (.iconst 0, 1) := by decide +kernel
theorem dX3_burn_25 : decode cX3_burn 25 = .ok (.ireturn, 1) := by decide +kernel
theorem dX3_burn_26 : decode cX3_burn 26 = .ok (.aload_n 0, 1) := by decide +kernel
theorem dX3_burn_27 : decode cX3_burn 27 = .ok (.getfield 108, 3) := by decide +kernel
theorem dX3_burn_30 : decode cX3_burn 30 = .ok (.istore_n 2, 1) := by decide +kernel
theorem dX3_burn_31 : decode cX3_burn 31 = .ok (.aload_n 0, 1) := by decide +kernel
theorem dX3_burn_32 : decode cX3_burn 32 = .ok (.iload_n 1, 1) := by decide +kernel
theorem dX3_burn_33 : decode cX3_burn 33 = .ok (.putfield 108, 3) := by decide +kernel
theorem dX3_burn_36 : decode cX3_burn 36 = .ok (.iload_n 2, 1) := by decide +kernel
theorem dX3_burn_37 : decode cX3_burn 37 = .ok (.ireturn, 1) := by decide +kernel
theorem dX3_thin_0 : decode cX3_thin 0 = .ok (.aload_n 0, 1) := by decide +kernel
theorem dX3_thin_1 : decode cX3_thin 1 = .ok (.iload_n 1, 1) := by decide +kernel
theorem dX3_thin_2 : decode cX3_thin 2 = .ok (.iconst 1, 1) := by decide +kernel
theorem dX3_thin_3 : decode cX3_thin 3 = .ok (.bipush 20, 2) := by decide +kernel
theorem dX3_thin_5 : decode cX3_thin 5 = .ok (.invokestatic 75, 3) := by decide +kernel
theorem dX3_thin_8 : decode cX3_thin 8 = .ok (.ifCond .ne 7, 3) := by decide +kernel
theorem dX3_thin_11 : decode cX3_thin 11 = .ok (.iconst 1, 1) := by decide +kernel
theorem dX3_thin_12 : decode cX3_thin 12 = .ok (.goto 4, 3) := by decide +kernel
theorem dX3_thin_15 : decode cX3_thin 15 = .ok (.iconst 0, 1) := by decide +kernel
theorem dX3_thin_16 : decode cX3_thin 16 = .ok (.iconst 0, 1) := by decide +kernel
theorem dX3_thin_17 : decode cX3_thin 17 = .ok (.iconst 0, 1) := by decide +kernel
theorem dX3_thin_18 : decode cX3_thin 18 = .ok (.invokevirtual 86, 3) := by decide +kernel
theorem dX3_thin_21 : decode cX3_thin 21 = .ok (.ifCond .eq 5, 3) := by decide +kernel
theorem dX3_thin_24 : decode cX3_thin 24 = .ok (.iconst 0, 1) := by decide +kernel
theorem dX3_thin_25 : decode cX3_thin 25 = .ok (.ireturn, 1) := by decide +kernel
theorem dX3_thin_26 : decode cX3_thin 26 = .ok (.aload_n 0, 1) := by decide +kernel
theorem dX3_thin_27 : decode cX3_thin 27 = .ok (.getfield 34, 3) := by decide +kernel
theorem dX3_thin_30 : decode cX3_thin 30 = .ok (.istore_n 2, 1) := by decide +kernel
theorem dX3_thin_31 : decode cX3_thin 31 = .ok (.aload_n 0, 1) := by decide +kernel
theorem dX3_thin_32 : decode cX3_thin 32 = .ok (.iload_n 1, 1) := by decide +kernel
theorem dX3_thin_33 : decode cX3_thin 33 = .ok (.putfield 34, 3) := by decide +kernel
theorem dX3_thin_36 : decode cX3_thin 36 = .ok (.iload_n 2, 1) := by decide +kernel
theorem dX3_thin_37 : decode cX3_thin 37 = .ok (.ireturn, 1) := by decide +kernel
theorem dX3_start_0 : decode cX3_start 0 = .ok (.aload_n 0, 1) := by decide +kernel
theorem dX3_start_1 : decode cX3_start 1 = .ok (.iconst 0, 1) := by decide +kernel
theorem dX3_start_2 : decode cX3_start 2 = .ok (.putfield 69, 3) := by decide +kernel
theorem dX3_start_5 : decode cX3_start 5 = .ok (.aload_n 0, 1) := by decide +kernel
theorem dX3_start_6 : decode cX3_start 6 = .ok (.iconst 0, 1) := by decide +kernel
theorem dX3_start_7 : decode cX3_start 7 = .ok (.putfield 79, 3) := by decide +kernel
theorem dX3_start_10 : decode cX3_start 10 = .ok (.iconst 0, 1) := by decide +kernel
theorem dX3_start_11 : decode cX3_start 11 = .ok (.istore_n 1, 1) := by decide +kernel
theorem dX3_start_12 : decode cX3_start 12 = .ok (.iload_n 1, 1) := by decide +kernel
theorem dX3_start_13 : decode cX3_start 13 = .ok (.aload_n 0, 1) := by decide +kernel
theorem dX3_start_14 : decode cX3_start 14 = .ok (.getfield 72, 3) := by decide +kernel
theorem dX3_start_17 : decode cX3_start 17 = .ok (.if_icmp .ge 21, 3) := by decide +kernel
theorem dX3_start_20 : decode cX3_start 20 = .ok (.aload_n 0, 1) := by decide +kernel
theorem dX3_start_21 : decode cX3_start 21 = .ok (.getfield 38, 3) := by decide +kernel
theorem dX3_start_24 : decode cX3_start 24 = .ok (.iload_n 1, 1) := by decide +kernel
theorem dX3_start_25 : decode cX3_start 25 = .ok (.aload_n 0, 1) := by decide +kernel
theorem dX3_start_26 : decode cX3_start 26 = .ok (.getfield 7, 3) := by decide +kernel
theorem dX3_start_29 : decode cX3_start 29 = .ok (.iload_n 1, 1) := by decide +kernel
theorem dX3_start_30 : decode cX3_start 30 = .ok (.iaload, 1) := by decide +kernel
theorem dX3_start_31 : decode cX3_start 31 = .ok (.iastore, 1) := by decide +kernel
theorem dX3_start_32 : decode cX3_start 32 = .ok (.iinc 1 1, 3) := by decide +kernel
theorem dX3_start_35 : decode cX3_start 35 = .ok (.goto (-23), 3) := by decide +kernel
theorem dX3_start_38 : decode cX3_start 38 = .ok (.iconst 1, 1) := by decide +kernel
theorem dX3_start_39 : decode cX3_start 39 = .ok (.istore_n 1, 1) := by decide +kernel
theorem dX3_start_40 : decode cX3_start 40 = .ok (.iload_n 1, 1) := by decide +kernel
theorem dX3_start_41 : decode cX3_start 41 = .ok (.ifCond .eq 20, 3) := by decide +kernel
theorem dX3_start_44 : decode cX3_start 44 = .ok (.aload_n 0, 1) := by decide +kernel
theorem dX3_start_45 : decode cX3_start 45 = .ok (.iconst 0, 1) := by decide +kernel
theorem dX3_start_46 : decode cX3_start 46 = .ok (.invokevirtual 111, 3) := by decide +kernel
theorem dX3_start_49 : decode cX3_start 49 = .ok (.ifCond .eq 12, 3) := by decide +kernel
theorem dX3_start_52 : decode cX3_start 52 = .ok (.aload_n 0, 1) := by decide +kernel
theorem dX3_start_53 : decode cX3_start 53 = .ok (.iconst 0, 1) := by decide +kernel
theorem dX3_start_54 : decode cX3_start 54 = .ok (.invokevirtual 114, 3) := by decide +kernel
theorem dX3_start_57 : decode cX3_start 57 = .ok (.istore_n 1, 1) := by decide +kernel
theorem dX3_start_58 : decode cX3_start 58 = .ok (.goto (-18), 3) := by decide +kernel
theorem dX3_start_61 : decode cX3_start 61 = .ok (.aload_n 0, 1) := by decide +kernel
theorem dX3_start_62 : decode cX3_start 62 = .ok (.iconst 0, 1) := by decide +kernel
theorem dX3_start_63 : decode cX3_start 63 = .ok (.invokevirtual 111, 3) := by decide +kernel
theorem dX3_start_66 : decode cX3_start 66 = .ok (.ifCond .ne 5, 3) := by decide +kernel
theorem dX3_start_69 : decode cX3_start 69 = .ok (.iconst 1, 1) := by decide +kernel
theorem dX3_start_70 : decode cX3_start 70 = .ok (.ireturn, 1) := by decide +kernel
theorem dX3_start_71 : decode cX3_start 71 = .ok (.aload_n 0, 1) := by decide +kernel
theorem dX3_start_72 : decode cX3_start 72 = .ok (.iconst 1, 1) := by decide +kernel
theorem dX3_start_73 : decode cX3_start 73 = .ok (.putfield 79, 3) := by decide +kernel
theorem dX3_start_76 : decode cX3_start 76 = .ok (.aload_n 0, 1) := by decide +kernel
theorem dX3_start_77 : decode cX3_start 77 = .ok (.iconst 0, 1) := by decide +kernel
theorem dX3_start_78 : decode cX3_start 78 = .ok (.putfield 117, 3) := by decide +kernel
theorem dX3_start_81 : decode cX3_start 81 = .ok (.aload_n 0, 1) := by decide +kernel
theorem dX3_start_82 : decode cX3_start 82 = .ok (.iconst 0, 1) := by decide +kernel
theorem dX3_start_83 : decode cX3_start 83 = .ok (.putfield 120, 3) := by decide +kernel
theorem dX3_start_86 : decode cX3_start 86 = .ok (.iconst 0, 1) := by decide +kernel
theorem dX3_start_87 : decode cX3_start 87 = .ok (.istore_n 2, 1) := by decide +kernel
theorem dX3_start_88 : decode cX3_start 88 = .ok (.iload_n 2, 1) := by decide +kernel
theorem dX3_start_89 : decode cX3_start 89 = .ok (.aload_n 0, 1) := by decide +kernel
theorem dX3_start_90 : decode cX3_start 90 = .ok (.getfield 66, 3) := by decide +kernel
theorem dX3_start_93 : decode cX3_start 93 = .ok (.if_icmp .ge 60, 3) := by decide +kernel
theorem dX3_start_96 : decode cX3_start 96 = .ok (.iconst 0, 1) := by decide +kernel
theorem dX3_start_97 : decode cX3_start 97 = .ok (.istore_n 3, 1) := by decide +kernel
theorem dX3_start_98 : decode cX3_start 98 = .ok (.iload_n 3, 1) := by decide +kernel
theorem dX3_start_99 : decode cX3_start 99 = .ok (.aload_n 0, 1) := by decide +kernel
theorem dX3_start_100 : decode cX3_start 100 = .ok (.getfield 72, 3) := by decide +kernel
theorem dX3_start_103 : decode cX3_start 103 = .ok (.if_icmp .ge 26, 3) := by decide +kernel
theorem dX3_start_106 : decode cX3_start 106 = .ok (.aload_n 0, 1) := by decide +kernel
theorem dX3_start_107 : decode cX3_start 107 = .ok (.getfield 38, 3) := by decide +kernel
theorem dX3_start_110 : decode cX3_start 110 = .ok (.bipush 8, 2) := by decide +kernel
theorem dX3_start_112 : decode cX3_start 112 = .ok (.iload_n 2, 1) := by decide +kernel
theorem dX3_start_113 : decode cX3_start 113 = .ok (.imul, 1) := by decide +kernel
theorem dX3_start_114 : decode cX3_start 114 = .ok (.iload_n 3, 1) := by decide +kernel
theorem dX3_start_115 : decode cX3_start 115 = .ok (.iadd, 1) := by decide +kernel
theorem dX3_start_116 : decode cX3_start 116 = .ok (.aload_n 0, 1) := by decide +kernel
theorem dX3_start_117 : decode cX3_start 117 = .ok (.getfield 38, 3) := by decide +kernel
theorem dX3_start_120 : decode cX3_start 120 = .ok (.iload_n 3, 1) := by decide +kernel
theorem dX3_start_121 : decode cX3_start 121 = .ok (.iaload, 1) := by decide +kernel
theorem dX3_start_122 : decode cX3_start 122 = .ok (.iastore, 1) := by decide +kernel
theorem dX3_start_123 : decode cX3_start 123 = .ok (.iinc 3 1, 3) := by decide +kernel
theorem dX3_start_126 : decode cX3_start 126 = .ok (.goto (-28), 3) := by decide +kernel
theorem dX3_start_129 : decode cX3_start 129 = .ok (.aload_n 0, 1) := by decide +kernel
theorem dX3_start_130 : decode cX3_start 130 = .ok (.getfield 41, 3) := by decide +kernel
theorem dX3_start_133 : decode cX3_start 133 = .ok (.iload_n 2, 1) := by decide +kernel
theorem dX3_start_134 : decode cX3_start 134 = .ok (.aload_n 0, 1) := by decide +kernel
theorem dX3_start_135 : decode cX3_start 135 = .ok (.getfield 63, 3) := by decide +kernel
theorem dX3_start_138 : decode cX3_start 138 = .ok (.i2l, 1) := by decide +kernel
theorem dX3_start_139 : decode cX3_start 139 = .ok (.ldc2_w 123, 3) := by decide +kernel
theorem dX3_start_142 : decode cX3_start 142 = .ok (.iload_n 2, 1) := by decide +kernel
theorem dX3_start_143 : decode cX3_start 143 = .ok (.i2l, 1) := by decide +kernel
theorem dX3_start_144 : decode cX3_start 144 = .ok (.lmul, 1) := by decide +kernel
theorem dX3_start_145 : decode cX3_start 145 = .ok (.ladd, 1) := by decide +kernel
theorem dX3_start_146 : decode cX3_start 146 = .ok (.lastore, 1) := by decide +kernel
theorem dX3_start_147 : decode cX3_start 147 = .ok (.iinc 2 1, 3) := by decide +kernel
theorem dX3_start_150 : decode cX3_start 150 = .ok (.goto (-62), 3) := by decide +kernel
theorem dX3_start_153 : decode cX3_start 153 = .ok (.iconst 0, 1) := by decide +kernel
theorem dX3_start_154 : decode cX3_start 154 = .ok (.ireturn, 1) := by decide +kernel
theorem dX3_fits_0 : decode cX3_fits 0 = .ok (.iconst 1, 1) := by decide +kernel
theorem dX3_fits_1 : decode cX3_fits 1 = .ok (.istore_n 2, 1) := by decide +kernel
theorem dX3_fits_2 : decode cX3_fits 2 = .ok (.iconst 0, 1) := by decide +kernel
theorem dX3_fits_3 : decode cX3_fits 3 = .ok (.istore_n 3, 1) := by decide +kernel
theorem dX3_fits_4 : decode cX3_fits 4 = .ok (.iload_n 3, 1) := by decide +kernel
theorem dX3_fits_5 : decode cX3_fits 5 = .ok (.aload_n 0, 1) := by decide +kernel
theorem dX3_fits_6 : decode cX3_fits 6 = .ok (.getfield 72, 3) := by decide +kernel
theorem dX3_fits_9 : decode cX3_fits 9 = .ok (.if_icmp .ge 39, 3) := by decide +kernel
theorem dX3_fits_12 : decode cX3_fits 12 = .ok (.iload_n 2, 1) := by decide +kernel
theorem dX3_fits_13 : decode cX3_fits 13 = .ok (.ifCond .eq 27, 3) := by decide +kernel
theorem dX3_fits_16 : decode cX3_fits 16 = .ok (.aload_n 0, 1) := by decide +kernel
theorem dX3_fits_17 : decode cX3_fits 17 = .ok (.getfield 38, 3) := by decide +kernel
theorem dX3_fits_20 : decode cX3_fits 20 = .ok (.bipush 8, 2) := by decide +kernel
theorem dX3_fits_22 : decode cX3_fits 22 = .ok (.iload_n 1, 1) := by decide +kernel
theorem dX3_fits_23 : decode cX3_fits 23 = .ok (.imul, 1) := by decide +kernel
theorem dX3_fits_24 : decode cX3_fits 24 = .ok (.iload_n 3, 1) := by decide +kernel
theorem dX3_fits_25 : decode cX3_fits 25 = .ok (.iadd, 1) := by decide +kernel
theorem dX3_fits_26 : decode cX3_fits 26 = .ok (.iaload, 1) := by decide +kernel
theorem dX3_fits_27 : decode cX3_fits 27 = .ok (.aload_n 0, 1) := by decide +kernel
theorem dX3_fits_28 : decode cX3_fits 28 = .ok (.getfield 13, 3) := by decide +kernel
theorem dX3_fits_31 : decode cX3_fits 31 = .ok (.iload_n 3, 1) := by decide +kernel
theorem dX3_fits_32 : decode cX3_fits 32 = .ok (.iaload, 1) := by decide +kernel
theorem dX3_fits_33 : decode cX3_fits 33 = .ok (.if_icmp .gt 7, 3) := by decide +kernel
theorem dX3_fits_36 : decode cX3_fits 36 = .ok (.iconst 1, 1) := by decide +kernel
theorem dX3_fits_37 : decode cX3_fits 37 = .ok (.goto 4, 3) := by decide +kernel
theorem dX3_fits_40 : decode cX3_fits 40 = .ok (.iconst 0, 1) := by decide +kernel
theorem dX3_fits_41 : decode cX3_fits 41 = .ok (.istore_n 2, 1) := by decide +kernel
theorem dX3_fits_42 : decode cX3_fits 42 = .ok (.iinc 3 1, 3) := by decide +kernel
theorem dX3_fits_45 : decode cX3_fits 45 = .ok (.goto (-41), 3) := by decide +kernel
theorem dX3_fits_48 : decode cX3_fits 48 = .ok (.iload_n 2, 1) := by decide +kernel
theorem dX3_fits_49 : decode cX3_fits 49 = .ok (.ireturn, 1) := by decide +kernel
theorem dX3_lifts_0 : decode cX3_lifts 0 = .ok (.iconst 0, 1) := by decide +kernel
theorem dX3_lifts_1 : decode cX3_lifts 1 = .ok (.istore_n 2, 1) := by decide +kernel
theorem dX3_lifts_2 : decode cX3_lifts 2 = .ok (.iconst 0, 1) := by decide +kernel
theorem dX3_lifts_3 : decode cX3_lifts 3 = .ok (.istore_n 3, 1) := by decide +kernel
theorem dX3_lifts_4 : decode cX3_lifts 4 = .ok (.iload_n 3, 1) := by decide +kernel
theorem dX3_lifts_5 : decode cX3_lifts 5 = .ok (.aload_n 0, 1) := by decide +kernel
theorem dX3_lifts_6 : decode cX3_lifts 6 = .ok (.getfield 105, 3) := by decide +kernel
theorem dX3_lifts_9 : decode cX3_lifts 9 = .ok (.if_icmp .ge 132, 3) := by decide +kernel
theorem dX3_lifts_12 : decode cX3_lifts 12 = .ok (.bipush 8, 2) := by decide +kernel
theorem dX3_lifts_14 : decode cX3_lifts 14 = .ok (.iload_n 1, 1) := by decide +kernel
theorem dX3_lifts_15 : decode cX3_lifts 15 = .ok (.imul, 1) := by decide +kernel
theorem dX3_lifts_16 : decode cX3_lifts 16 = .ok (.aload_n 0, 1) := by decide +kernel
theorem dX3_lifts_17 : decode cX3_lifts 17 = .ok (.getfield 22, 3) := by decide +kernel
theorem dX3_lifts_20 : decode cX3_lifts 20 = .ok (.iload_n 3, 1) := by decide +kernel
theorem dX3_lifts_21 : decode cX3_lifts 21 = .ok (.iaload, 1) := by decide +kernel
theorem dX3_lifts_22 : decode cX3_lifts 22 = .ok (.iadd, 1) := by decide +kernel
theorem dX3_lifts_23 : decode cX3_lifts 23 = .ok (.istore 4, 2) := by decide +kernel
theorem dX3_lifts_25 : decode cX3_lifts 25 = .ok (.bipush 8, 2) := by decide +kernel
theorem dX3_lifts_27 : decode cX3_lifts 27 = .ok (.iload_n 1, 1) := by decide +kernel
theorem dX3_lifts_28 : decode cX3_lifts 28 = .ok (.imul, 1) := by decide +kernel
theorem dX3_lifts_29 : decode cX3_lifts 29 = .ok (.aload_n 0, 1) := by decide +kernel
theorem dX3_lifts_30 : decode cX3_lifts 30 = .ok (.getfield 25, 3) := by decide +kernel
theorem dX3_lifts_33 : decode cX3_lifts 33 = .ok (.iload_n 3, 1) := by decide +kernel
theorem dX3_lifts_34 : decode cX3_lifts 34 = .ok (.iaload, 1) := by decide +kernel
theorem dX3_lifts_35 : decode cX3_lifts 35 = .ok (.iadd, 1) := by decide +kernel
theorem dX3_lifts_36 : decode cX3_lifts 36 = .ok (.istore 5, 2) := by decide +kernel
theorem dX3_lifts_38 : decode cX3_lifts 38 = .ok (.aload_n 0, 1) := by decide +kernel
theorem dX3_lifts_39 : decode cX3_lifts 39 = .ok (.getfield 38, 3) := by decide +kernel
theorem dX3_lifts_42 : decode cX3_lifts 42 = .ok (.iload 5, 2) := by decide +kernel
theorem dX3_lifts_44 : decode cX3_lifts 44 = .ok (.iaload, 1) := by decide +kernel
theorem dX3_lifts_45 : decode cX3_lifts 45 = .ok (.aload_n 0, 1) := by decide +kernel
theorem dX3_lifts_46 : decode cX3_lifts 46 = .ok (.getfield 38, 3) := by decide +kernel
theorem dX3_lifts_49 : decode cX3_lifts 49 = .ok (.iload 4, 2) := by decide +kernel
theorem dX3_lifts_51 : decode cX3_lifts 51 = .ok (.iaload, 1) := by decide +kernel
theorem dX3_lifts_52 : decode cX3_lifts 52 = .ok (.aload_n 0, 1) := by decide +kernel
theorem dX3_lifts_53 : decode cX3_lifts 53 = .ok (.getfield 28, 3) := by decide +kernel
theorem dX3_lifts_56 : decode cX3_lifts 56 = .ok (.iload_n 3, 1) := by decide +kernel
theorem dX3_lifts_57 : decode cX3_lifts 57 = .ok (.iaload, 1) := by decide +kernel
theorem dX3_lifts_58 : decode cX3_lifts 58 = .ok (.iadd, 1) := by decide +kernel
theorem dX3_lifts_59 : decode cX3_lifts 59 = .ok (.if_icmp .ge 29, 3) := by decide +kernel
theorem dX3_lifts_62 : decode cX3_lifts 62 = .ok (.aload_n 0, 1) := by decide +kernel
theorem dX3_lifts_63 : decode cX3_lifts 63 = .ok (.getfield 38, 3) := by decide +kernel
theorem dX3_lifts_66 : decode cX3_lifts 66 = .ok (.iload 5, 2) := by decide +kernel
theorem dX3_lifts_68 : decode cX3_lifts 68 = .ok (.aload_n 0, 1) := by decide +kernel
theorem dX3_lifts_69 : decode cX3_lifts 69 = .ok (.getfield 38, 3) := by decide +kernel
theorem dX3_lifts_72 : decode cX3_lifts 72 = .ok (.iload 4, 2) := by decide +kernel
theorem dX3_lifts_74 : decode cX3_lifts 74 = .ok (.iaload, 1) := by decide +kernel
theorem dX3_lifts_75 : decode cX3_lifts 75 = .ok (.aload_n 0, 1) := by decide +kernel
theorem dX3_lifts_76 : decode cX3_lifts 76 = .ok (.getfield 28, 3) := by decide +kernel
theorem dX3_lifts_79 : decode cX3_lifts 79 = .ok (.iload_n 3, 1) := by decide +kernel
theorem dX3_lifts_80 : decode cX3_lifts 80 = .ok (.iaload, 1) := by decide +kernel
theorem dX3_lifts_81 : decode cX3_lifts 81 = .ok (.iadd, 1) := by decide +kernel
theorem dX3_lifts_82 : decode cX3_lifts 82 = .ok (.iastore, 1) := by decide +kernel
theorem dX3_lifts_83 : decode cX3_lifts 83 = .ok (.iconst 1, 1) := by decide +kernel
theorem dX3_lifts_84 : decode cX3_lifts 84 = .ok (.istore_n 2, 1) := by decide +kernel
theorem dX3_lifts_85 : decode cX3_lifts 85 = .ok (.goto 50, 3) := by decide +kernel
theorem dX3_lifts_88 : decode cX3_lifts 88 = .ok (.aload_n 0, 1) := by decide +kernel
theorem dX3_lifts_89 : decode cX3_lifts 89 = .ok (.getfield 38, 3) := by decide +kernel
theorem dX3_lifts_92 : decode cX3_lifts 92 = .ok (.iload 4, 2) := by decide +kernel
theorem dX3_lifts_94 : decode cX3_lifts 94 = .ok (.iaload, 1) := by decide +kernel
theorem dX3_lifts_95 : decode cX3_lifts 95 = .ok (.aload_n 0, 1) := by decide +kernel
theorem dX3_lifts_96 : decode cX3_lifts 96 = .ok (.getfield 38, 3) := by decide +kernel
theorem dX3_lifts_99 : decode cX3_lifts 99 = .ok (.iload 5, 2) := by decide +kernel
theorem dX3_lifts_101 : decode cX3_lifts 101 = .ok (.iaload, 1) := by decide +kernel
theorem dX3_lifts_102 : decode cX3_lifts 102 = .ok (.aload_n 0, 1) := by decide +kernel
theorem dX3_lifts_103 : decode cX3_lifts 103 = .ok (.getfield 31, 3) := by decide +kernel
theorem dX3_lifts_106 : decode cX3_lifts 106 = .ok (.iload_n 3, 1) := by decide +kernel
theorem dX3_lifts_107 : decode cX3_lifts 107 = .ok (.iaload, 1) := by decide +kernel
theorem dX3_lifts_108 : decode cX3_lifts 108 = .ok (.isub, 1) := by decide +kernel
theorem dX3_lifts_109 : decode cX3_lifts 109 = .ok (.if_icmp .ge 26, 3) := by decide +kernel
theorem dX3_lifts_112 : decode cX3_lifts 112 = .ok (.aload_n 0, 1) := by decide +kernel
theorem dX3_lifts_113 : decode cX3_lifts 113 = .ok (.getfield 38, 3) := by decide +kernel
theorem dX3_lifts_116 : decode cX3_lifts 116 = .ok (.iload 4, 2) := by decide +kernel
theorem dX3_lifts_118 : decode cX3_lifts 118 = .ok (.aload_n 0, 1) := by decide +kernel
theorem dX3_lifts_119 : decode cX3_lifts 119 = .ok (.getfield 38, 3) := by decide +kernel
theorem dX3_lifts_122 : decode cX3_lifts 122 = .ok (.iload 5, 2) := by decide +kernel
theorem dX3_lifts_124 : decode cX3_lifts 124 = .ok (.iaload, 1) := by decide +kernel
theorem dX3_lifts_125 : decode cX3_lifts 125 = .ok (.aload_n 0, 1) := by decide +kernel
theorem dX3_lifts_126 : decode cX3_lifts 126 = .ok (.getfield 31, 3) := by decide +kernel
theorem dX3_lifts_129 : decode cX3_lifts 129 = .ok (.iload_n 3, 1) := by decide +kernel
theorem dX3_lifts_130 : decode cX3_lifts 130 = .ok (.iaload, 1) := by decide +kernel
theorem dX3_lifts_131 : decode cX3_lifts 131 = .ok (.isub, 1) := by decide +kernel
theorem dX3_lifts_132 : decode cX3_lifts 132 = .ok (.iastore, 1) := by decide +kernel
theorem dX3_lifts_133 : decode cX3_lifts 133 = .ok (.iconst 1, 1) := by decide +kernel
theorem dX3_lifts_134 : decode cX3_lifts 134 = .ok (.istore_n 2, 1) := by decide +kernel
theorem dX3_lifts_135 : decode cX3_lifts 135 = .ok (.iinc 3 1, 3) := by decide +kernel
theorem dX3_lifts_138 : decode cX3_lifts 138 = .ok (.goto (-134), 3) := by decide +kernel
theorem dX3_lifts_141 : decode cX3_lifts 141 = .ok (.iload_n 2, 1) := by decide +kernel
theorem dX3_lifts_142 : decode cX3_lifts 142 = .ok (.ireturn, 1) := by decide +kernel
theorem dX3_run_0 : decode cX3_run 0 = .ok (.iload_n 1, 1) := by decide +kernel
theorem dX3_run_1 : decode cX3_run 1 = .ok (.iconst 0, 1) := by decide +kernel
theorem dX3_run_2 : decode cX3_run 2 = .ok (.bipush 100, 2) := by decide +kernel
theorem dX3_run_4 : decode cX3_run 4 = .ok (.invokestatic 75, 3) := by decide +kernel
theorem dX3_run_7 : decode cX3_run 7 = .ok (.ifCond .ne 7, 3) := by decide +kernel
theorem dX3_run_10 : decode cX3_run 10 = .ok (.iconst 1, 1) := by decide +kernel
theorem dX3_run_11 : decode cX3_run 11 = .ok (.goto 4, 3) := by decide +kernel
theorem dX3_run_14 : decode cX3_run 14 = .ok (.iconst 0, 1) := by decide +kernel
theorem dX3_run_15 : decode cX3_run 15 = .ok (.istore_n 2, 1) := by decide +kernel
theorem dX3_run_16 : decode cX3_run 16 = .ok (.iconst 0, 1) := by decide +kernel
theorem dX3_run_17 : decode cX3_run 17 = .ok (.istore_n 3, 1) := by decide +kernel
theorem dX3_run_18 : decode cX3_run 18 = .ok (.iconst 1, 1) := by decide +kernel
theorem dX3_run_19 : decode cX3_run 19 = .ok (.istore 4, 2) := by decide +kernel
theorem dX3_run_21 : decode cX3_run 21 = .ok (.iload 4, 2) := by decide +kernel
theorem dX3_run_23 : decode cX3_run 23 = .ok (.iload_n 1, 1) := by decide +kernel
theorem dX3_run_24 : decode cX3_run 24 = .ok (.if_icmp .gt 35, 3) := by decide +kernel
theorem dX3_run_27 : decode cX3_run 27 = .ok (.iload_n 2, 1) := by decide +kernel
theorem dX3_run_28 : decode cX3_run 28 = .ok (.ifCond .ne 31, 3) := by decide +kernel
theorem dX3_run_31 : decode cX3_run 31 = .ok (.iload_n 3, 1) := by decide +kernel
theorem dX3_run_32 : decode cX3_run 32 = .ok (.aload_n 0, 1) := by decide +kernel
theorem dX3_run_33 : decode cX3_run 33 = .ok (.aload_n 0, 1) := by decide +kernel
theorem dX3_run_34 : decode cX3_run 34 = .ok (.getfield 117, 3) := by decide +kernel
theorem dX3_run_37 : decode cX3_run 37 = .ok (.iload 4, 2) := by decide +kernel
theorem dX3_run_39 : decode cX3_run 39 = .ok (.iadd, 1) := by decide +kernel
theorem dX3_run_40 : decode cX3_run 40 = .ok (.invokevirtual 136, 3) := by decide +kernel
theorem dX3_run_43 : decode cX3_run 43 = .ok (.ifCond .eq 7, 3) := by decide +kernel
theorem dX3_run_46 : decode cX3_run 46 = .ok (.iconst 1, 1) := by decide +kernel
theorem dX3_run_47 : decode cX3_run 47 = .ok (.goto 4, 3) := by decide +kernel
theorem dX3_run_50 : decode cX3_run 50 = .ok (.iconst 0, 1) := by decide +kernel
theorem dX3_run_51 : decode cX3_run 51 = .ok (.iadd, 1) := by decide +kernel
theorem dX3_run_52 : decode cX3_run 52 = .ok (.istore_n 3, 1) := by decide +kernel
theorem dX3_run_53 : decode cX3_run 53 = .ok (.iinc 4 1, 3) := by decide +kernel
theorem dX3_run_56 : decode cX3_run 56 = .ok (.goto (-35), 3) := by decide +kernel
theorem dX3_run_59 : decode cX3_run 59 = .ok (.aload_n 0, 1) := by decide +kernel
theorem dX3_run_60 : decode cX3_run 60 = .ok (.iload_n 2, 1) := by decide +kernel
theorem dX3_run_61 : decode cX3_run 61 = .ok (.aload_n 0, 1) := by decide +kernel
theorem dX3_run_62 : decode cX3_run 62 = .ok (.getfield 79, 3) := by decide +kernel
theorem dX3_run_65 : decode cX3_run 65 = .ok (.ifCond .eq 14, 3) := by decide +kernel
theorem dX3_run_68 : decode cX3_run 68 = .ok (.aload_n 0, 1) := by decide +kernel
theorem dX3_run_69 : decode cX3_run 69 = .ok (.getfield 120, 3) := by decide +kernel
theorem dX3_run_72 : decode cX3_run 72 = .ok (.iload_n 3, 1) := by decide +kernel
theorem dX3_run_73 : decode cX3_run 73 = .ok (.iadd, 1) := by decide +kernel
theorem dX3_run_74 : decode cX3_run 74 = .ok (.bipush 60, 2) := by decide +kernel
theorem dX3_run_76 : decode cX3_run 76 = .ok (.if_icmp .le 7, 3) := by decide +kernel
theorem dX3_run_79 : decode cX3_run 79 = .ok (.iconst 1, 1) := by decide +kernel
theorem dX3_run_80 : decode cX3_run 80 = .ok (.goto 4, 3) := by decide +kernel
theorem dX3_run_83 : decode cX3_run 83 = .ok (.iconst 0, 1) := by decide +kernel
theorem dX3_run_84 : decode cX3_run 84 = .ok (.iconst 0, 1) := by decide +kernel
theorem dX3_run_85 : decode cX3_run 85 = .ok (.invokevirtual 86, 3) := by decide +kernel
theorem dX3_run_88 : decode cX3_run 88 = .ok (.ifCond .eq 5, 3) := by decide +kernel
theorem dX3_run_91 : decode cX3_run 91 = .ok (.iconst 0, 1) := by decide +kernel
theorem dX3_run_92 : decode cX3_run 92 = .ok (.ireturn, 1) := by decide +kernel
theorem dX3_run_93 : decode cX3_run 93 = .ok (.iconst 0, 1) := by decide +kernel
theorem dX3_run_94 : decode cX3_run 94 = .ok (.istore 4, 2) := by decide +kernel
theorem dX3_run_96 : decode cX3_run 96 = .ok (.iload 4, 2) := by decide +kernel
theorem dX3_run_98 : decode cX3_run 98 = .ok (.iload_n 1, 1) := by decide +kernel
theorem dX3_run_99 : decode cX3_run 99 = .ok (.if_icmp .ge 13, 3) := by decide +kernel
theorem dX3_run_102 : decode cX3_run 102 = .ok (.aload_n 0, 1) := by decide +kernel
theorem dX3_run_103 : decode cX3_run 103 = .ok (.invokevirtual 142, 3) := by decide +kernel
theorem dX3_run_106 : decode cX3_run 106 = .ok (.iinc 4 1, 3) := by decide +kernel
theorem dX3_run_109 : decode cX3_run 109 = .ok (.goto (-13), 3) := by decide +kernel
theorem dX3_run_112 : decode cX3_run 112 = .ok (.aload_n 0, 1) := by decide +kernel
theorem dX3_run_113 : decode cX3_run 113 = .ok (.getfield 120, 3) := by decide +kernel
theorem dX3_run_116 : decode cX3_run 116 = .ok (.ireturn, 1) := by decide +kernel
theorem dX3_isKept_0 : decode cX3_isKept 0 = .ok (.iload_n 1, 1) := by decide +kernel
theorem dX3_isKept_1 : decode cX3_isKept 1 = .ok (.aload_n 0, 1) := by decide +kernel
theorem dX3_isKept_2 : decode cX3_isKept 2 = .ok (.getfield 108, 3) := by decide +kernel
theorem dX3_isKept_5 : decode cX3_isKept 5 = .ok (.if_icmp .le 21, 3) := by decide +kernel
theorem dX3_isKept_8 : decode cX3_isKept 8 = .ok (.iload_n 1, 1) := by decide +kernel
theorem dX3_isKept_9 : decode cX3_isKept 9 = .ok (.aload_n 0, 1) := by decide +kernel
theorem dX3_isKept_10 : decode cX3_isKept 10 = .ok (.getfield 108, 3) := by decide +kernel
theorem dX3_isKept_13 : decode cX3_isKept 13 = .ok (.isub, 1) := by decide +kernel
theorem dX3_isKept_14 : decode cX3_isKept 14 = .ok (.aload_n 0, 1) := by decide +kernel
theorem dX3_isKept_15 : decode cX3_isKept 15 = .ok (.getfield 34, 3) := by decide +kernel
theorem dX3_isKept_18 : decode cX3_isKept 18 = .ok (.irem, 1) := by decide +kernel
theorem dX3_isKept_19 : decode cX3_isKept 19 = .ok (.ifCond .ne 7, 3) := by decide +kernel
theorem dX3_isKept_22 : decode cX3_isKept 22 = .ok (.iconst 1, 1) := by decide +kernel
theorem dX3_isKept_23 : decode cX3_isKept 23 = .ok (.goto 4, 3) := by decide +kernel
theorem dX3_isKept_26 : decode cX3_isKept 26 = .ok (.iconst 0, 1) := by decide +kernel
theorem dX3_isKept_27 : decode cX3_isKept 27 = .ok (.ireturn, 1) := by decide +kernel
theorem dX3_step_0 : decode cX3_step 0 = .ok (.aload_n 0, 1) := by decide +kernel
theorem dX3_step_1 : decode cX3_step 1 = .ok (.dup, 1) := by decide +kernel
theorem dX3_step_2 : decode cX3_step 2 = .ok (.getfield 117, 3) := by decide +kernel
theorem dX3_step_5 : decode cX3_step 5 = .ok (.iconst 1, 1) := by decide +kernel
theorem dX3_step_6 : decode cX3_step 6 = .ok (.iadd, 1) := by decide +kernel
theorem dX3_step_7 : decode cX3_step 7 = .ok (.putfield 117, 3) := by decide +kernel
theorem dX3_step_10 : decode cX3_step 10 = .ok (.iconst 0, 1) := by decide +kernel
theorem dX3_step_11 : decode cX3_step 11 = .ok (.istore_n 1, 1) := by decide +kernel
theorem dX3_step_12 : decode cX3_step 12 = .ok (.iload_n 1, 1) := by decide +kernel
theorem dX3_step_13 : decode cX3_step 13 = .ok (.aload_n 0, 1) := by decide +kernel
theorem dX3_step_14 : decode cX3_step 14 = .ok (.getfield 66, 3) := by decide +kernel
theorem dX3_step_17 : decode cX3_step 17 = .ok (.if_icmp .ge 85, 3) := by decide +kernel
theorem dX3_step_20 : decode cX3_step 20 = .ok (.iconst 0, 1) := by decide +kernel
theorem dX3_step_21 : decode cX3_step 21 = .ok (.istore_n 2, 1) := by decide +kernel
theorem dX3_step_22 : decode cX3_step 22 = .ok (.iload_n 2, 1) := by decide +kernel
theorem dX3_step_23 : decode cX3_step 23 = .ok (.aload_n 0, 1) := by decide +kernel
theorem dX3_step_24 : decode cX3_step 24 = .ok (.getfield 72, 3) := by decide +kernel
theorem dX3_step_27 : decode cX3_step 27 = .ok (.if_icmp .ge 15, 3) := by decide +kernel
theorem dX3_step_30 : decode cX3_step 30 = .ok (.aload_n 0, 1) := by decide +kernel
theorem dX3_step_31 : decode cX3_step 31 = .ok (.iload_n 1, 1) := by decide +kernel
theorem dX3_step_32 : decode cX3_step 32 = .ok (.iload_n 2, 1) := by decide +kernel
theorem dX3_step_33 : decode cX3_step 33 = .ok (.invokevirtual 132, 3) := by decide +kernel
theorem dX3_step_36 : decode cX3_step 36 = .ok (.iinc 2 1, 3) := by decide +kernel
theorem dX3_step_39 : decode cX3_step 39 = .ok (.goto (-17), 3) := by decide +kernel
theorem dX3_step_42 : decode cX3_step 42 = .ok (.iconst 0, 1) := by decide +kernel
theorem dX3_step_43 : decode cX3_step 43 = .ok (.istore_n 2, 1) := by decide +kernel
theorem dX3_step_44 : decode cX3_step 44 = .ok (.iload_n 2, 1) := by decide +kernel
theorem dX3_step_45 : decode cX3_step 45 = .ok (.aload_n 0, 1) := by decide +kernel
theorem dX3_step_46 : decode cX3_step 46 = .ok (.getfield 72, 3) := by decide +kernel
theorem dX3_step_49 : decode cX3_step 49 = .ok (.if_icmp .ge 47, 3) := by decide +kernel
theorem dX3_step_52 : decode cX3_step 52 = .ok (.aload_n 0, 1) := by decide +kernel
theorem dX3_step_53 : decode cX3_step 53 = .ok (.aload_n 0, 1) := by decide +kernel
theorem dX3_step_54 : decode cX3_step 54 = .ok (.getfield 117, 3) := by decide +kernel
theorem dX3_step_57 : decode cX3_step 57 = .ok (.invokevirtual 136, 3) := by decide +kernel
theorem dX3_step_60 : decode cX3_step 60 = .ok (.ifCond .eq 36, 3) := by decide +kernel
theorem dX3_step_63 : decode cX3_step 63 = .ok (.aload_n 0, 1) := by decide +kernel
theorem dX3_step_64 : decode cX3_step 64 = .ok (.getfield 45, 3) := by decide +kernel
theorem dX3_step_67 : decode cX3_step 67 = .ok (.aload_n 0, 1) := by decide +kernel
theorem dX3_step_68 : decode cX3_step 68 = .ok (.iload_n 1, 1) := by decide +kernel
theorem dX3_step_69 : decode cX3_step 69 = .ok (.aload_n 0, 1) := by decide +kernel
theorem dX3_step_70 : decode cX3_step 70 = .ok (.getfield 120, 3) := by decide +kernel
theorem dX3_step_73 : decode cX3_step 73 = .ok (.invokevirtual 139, 3) := by decide +kernel
theorem dX3_step_76 : decode cX3_step 76 = .ok (.iload_n 2, 1) := by decide +kernel
theorem dX3_step_77 : decode cX3_step 77 = .ok (.iadd, 1) := by decide +kernel
theorem dX3_step_78 : decode cX3_step 78 = .ok (.aload_n 0, 1) := by decide +kernel
theorem dX3_step_79 : decode cX3_step 79 = .ok (.getfield 38, 3) := by decide +kernel
theorem dX3_step_82 : decode cX3_step 82 = .ok (.bipush 8, 2) := by decide +kernel
theorem dX3_step_84 : decode cX3_step 84 = .ok (.iload_n 1, 1) := by decide +kernel
theorem dX3_step_85 : decode cX3_step 85 = .ok (.imul, 1) := by decide +kernel
theorem dX3_step_86 : decode cX3_step 86 = .ok (.iload_n 2, 1) := by decide +kernel
theorem dX3_step_87 : decode cX3_step 87 = .ok (.iadd, 1) := by decide +kernel
theorem dX3_step_88 : decode cX3_step 88 = .ok (.iaload, 1) := by decide +kernel
theorem dX3_step_89 : decode cX3_step 89 = .ok (.iastore, 1) := by decide +kernel
theorem dX3_step_90 : decode cX3_step 90 = .ok (.iinc 2 1, 3) := by decide +kernel
theorem dX3_step_93 : decode cX3_step 93 = .ok (.goto (-49), 3) := by decide +kernel
theorem dX3_step_96 : decode cX3_step 96 = .ok (.iinc 1 1, 3) := by decide +kernel
theorem dX3_step_99 : decode cX3_step 99 = .ok (.goto (-87), 3) := by decide +kernel
theorem dX3_step_102 : decode cX3_step 102 = .ok (.aload_n 0, 1) := by decide +kernel
theorem dX3_step_103 : decode cX3_step 103 = .ok (.dup, 1) := by decide +kernel
theorem dX3_step_104 : decode cX3_step 104 = .ok (.getfield 120, 3) := by decide +kernel
theorem dX3_step_107 : decode cX3_step 107 = .ok (.aload_n 0, 1) := by decide +kernel
theorem dX3_step_108 : decode cX3_step 108 = .ok (.aload_n 0, 1) := by decide +kernel
theorem dX3_step_109 : decode cX3_step 109 = .ok (.getfield 117, 3) := by decide +kernel
theorem dX3_step_112 : decode cX3_step 112 = .ok (.invokevirtual 136, 3) := by decide +kernel
theorem dX3_step_115 : decode cX3_step 115 = .ok (.ifCond .eq 7, 3) := by decide +kernel
theorem dX3_step_118 : decode cX3_step 118 = .ok (.iconst 1, 1) := by decide +kernel
theorem dX3_step_119 : decode cX3_step 119 = .ok (.goto 4, 3) := by decide +kernel
theorem dX3_step_122 : decode cX3_step 122 = .ok (.iconst 0, 1) := by decide +kernel
theorem dX3_step_123 : decode cX3_step 123 = .ok (.iadd, 1) := by decide +kernel
theorem dX3_step_124 : decode cX3_step 124 = .ok (.putfield 120, 3) := by decide +kernel
theorem dX3_step_127 : decode cX3_step 127 = .ok (.return_, 1) := by decide +kernel
theorem dX3_draw_0 : decode cX3_draw 0 = .ok (.bipush 8, 2) := by decide +kernel
theorem dX3_draw_2 : decode cX3_draw 2 = .ok (.iload_n 1, 1) := by decide +kernel
theorem dX3_draw_3 : decode cX3_draw 3 = .ok (.imul, 1) := by decide +kernel
theorem dX3_draw_4 : decode cX3_draw 4 = .ok (.iload_n 2, 1) := by decide +kernel
theorem dX3_draw_5 : decode cX3_draw 5 = .ok (.iadd, 1) := by decide +kernel
theorem dX3_draw_6 : decode cX3_draw 6 = .ok (.istore_n 3, 1) := by decide +kernel
theorem dX3_draw_7 : decode cX3_draw 7 = .ok (.iconst 0, 1) := by decide +kernel
theorem dX3_draw_8 : decode cX3_draw 8 = .ok (.istore 4, 2) := by decide +kernel
theorem dX3_draw_10 : decode cX3_draw 10 = .ok (.aload_n 0, 1) := by decide +kernel
theorem dX3_draw_11 : decode cX3_draw 11 = .ok (.getfield 7, 3) := by decide +kernel
theorem dX3_draw_14 : decode cX3_draw 14 = .ok (.iload_n 2, 1) := by decide +kernel
theorem dX3_draw_15 : decode cX3_draw 15 = .ok (.iaload, 1) := by decide +kernel
theorem dX3_draw_16 : decode cX3_draw 16 = .ok (.istore 5, 2) := by decide +kernel
theorem dX3_draw_18 : decode cX3_draw 18 = .ok (.iload 5, 2) := by decide +kernel
theorem dX3_draw_20 : decode cX3_draw 20 = .ok (.aload_n 0, 1) := by decide +kernel
theorem dX3_draw_21 : decode cX3_draw 21 = .ok (.getfield 13, 3) := by decide +kernel
theorem dX3_draw_24 : decode cX3_draw 24 = .ok (.iload_n 2, 1) := by decide +kernel
theorem dX3_draw_25 : decode cX3_draw 25 = .ok (.iaload, 1) := by decide +kernel
theorem dX3_draw_26 : decode cX3_draw 26 = .ok (.if_icmp .gt 42, 3) := by decide +kernel
theorem dX3_draw_29 : decode cX3_draw 29 = .ok (.aload_n 0, 1) := by decide +kernel
theorem dX3_draw_30 : decode cX3_draw 30 = .ok (.getfield 38, 3) := by decide +kernel
theorem dX3_draw_33 : decode cX3_draw 33 = .ok (.iload_n 3, 1) := by decide +kernel
theorem dX3_draw_34 : decode cX3_draw 34 = .ok (.iload 5, 2) := by decide +kernel
theorem dX3_draw_36 : decode cX3_draw 36 = .ok (.iastore, 1) := by decide +kernel
theorem dX3_draw_37 : decode cX3_draw 37 = .ok (.iload 4, 2) := by decide +kernel
theorem dX3_draw_39 : decode cX3_draw 39 = .ok (.aload_n 0, 1) := by decide +kernel
theorem dX3_draw_40 : decode cX3_draw 40 = .ok (.iload_n 1, 1) := by decide +kernel
theorem dX3_draw_41 : decode cX3_draw 41 = .ok (.iload_n 2, 1) := by decide +kernel
theorem dX3_draw_42 : decode cX3_draw 42 = .ok (.invokevirtual 125, 3) := by decide +kernel
theorem dX3_draw_45 : decode cX3_draw 45 = .ok (.ifCond .eq 13, 3) := by decide +kernel
theorem dX3_draw_48 : decode cX3_draw 48 = .ok (.aload_n 0, 1) := by decide +kernel
theorem dX3_draw_49 : decode cX3_draw 49 = .ok (.iload_n 2, 1) := by decide +kernel
theorem dX3_draw_50 : decode cX3_draw 50 = .ok (.iload 5, 2) := by decide +kernel
theorem dX3_draw_52 : decode cX3_draw 52 = .ok (.invokevirtual 101, 3) := by decide +kernel
theorem dX3_draw_55 : decode cX3_draw 55 = .ok (.goto 4, 3) := by decide +kernel
theorem dX3_draw_58 : decode cX3_draw 58 = .ok (.iconst 0, 1) := by decide +kernel
theorem dX3_draw_59 : decode cX3_draw 59 = .ok (.iadd, 1) := by decide +kernel
theorem dX3_draw_60 : decode cX3_draw 60 = .ok (.istore 4, 2) := by decide +kernel
theorem dX3_draw_62 : decode cX3_draw 62 = .ok (.iinc 5 1, 3) := by decide +kernel
theorem dX3_draw_65 : decode cX3_draw 65 = .ok (.goto (-47), 3) := by decide +kernel
theorem dX3_draw_68 : decode cX3_draw 68 = .ok (.aload_n 0, 1) := by decide +kernel
theorem dX3_draw_69 : decode cX3_draw 69 = .ok (.getfield 41, 3) := by decide +kernel
theorem dX3_draw_72 : decode cX3_draw 72 = .ok (.iload_n 1, 1) := by decide +kernel
theorem dX3_draw_73 : decode cX3_draw 73 = .ok (.ldc2_w 128, 3) := by decide +kernel
theorem dX3_draw_76 : decode cX3_draw 76 = .ok (.aload_n 0, 1) := by decide +kernel
theorem dX3_draw_77 : decode cX3_draw 77 = .ok (.getfield 41, 3) := by decide +kernel
theorem dX3_draw_80 : decode cX3_draw 80 = .ok (.iload_n 1, 1) := by decide +kernel
theorem dX3_draw_81 : decode cX3_draw 81 = .ok (.laload, 1) := by decide +kernel
theorem dX3_draw_82 : decode cX3_draw 82 = .ok (.lmul, 1) := by decide +kernel
theorem dX3_draw_83 : decode cX3_draw 83 = .ok (.ldc2_w 130, 3) := by decide +kernel
theorem dX3_draw_86 : decode cX3_draw 86 = .ok (.ladd, 1) := by decide +kernel
theorem dX3_draw_87 : decode cX3_draw 87 = .ok (.lastore, 1) := by decide +kernel
theorem dX3_draw_88 : decode cX3_draw 88 = .ok (.aload_n 0, 1) := by decide +kernel
theorem dX3_draw_89 : decode cX3_draw 89 = .ok (.getfield 41, 3) := by decide +kernel
theorem dX3_draw_92 : decode cX3_draw 92 = .ok (.iload_n 1, 1) := by decide +kernel
theorem dX3_draw_93 : decode cX3_draw 93 = .ok (.laload, 1) := by decide +kernel
theorem dX3_draw_94 : decode cX3_draw 94 = .ok (.bipush 33, 2) := by decide +kernel
theorem dX3_draw_96 : decode cX3_draw 96 = .ok (.lushr, 1) := by decide +kernel
theorem dX3_draw_97 : decode cX3_draw 97 = .ok (.iload 4, 2) := by decide +kernel
theorem dX3_draw_99 : decode cX3_draw 99 = .ok (.i2l, 1) := by decide +kernel
theorem dX3_draw_100 : decode cX3_draw 100 = .ok (.lrem, 1) := by decide +kernel
theorem dX3_draw_101 : decode cX3_draw 101 = .ok (.lstore 5, 2) := by decide +kernel
theorem dX3_draw_103 : decode cX3_draw 103 = .ok (.iconst 0, 1) := by decide +kernel
theorem dX3_draw_104 : decode cX3_draw 104 = .ok (.istore 7, 2) := by decide +kernel
theorem dX3_draw_106 : decode cX3_draw 106 = .ok (.aload_n 0, 1) := by decide +kernel
theorem dX3_draw_107 : decode cX3_draw 107 = .ok (.getfield 7, 3) := by decide +kernel
theorem dX3_draw_110 : decode cX3_draw 110 = .ok (.iload_n 2, 1) := by decide +kernel
theorem dX3_draw_111 : decode cX3_draw 111 = .ok (.iaload, 1) := by decide +kernel
theorem dX3_draw_112 : decode cX3_draw 112 = .ok (.iconst 1, 1) := by decide +kernel
theorem dX3_draw_113 : decode cX3_draw 113 = .ok (.isub, 1) := by decide +kernel
theorem dX3_draw_114 : decode cX3_draw 114 = .ok (.istore 8, 2) := by decide +kernel
theorem dX3_draw_116 : decode cX3_draw 116 = .ok (.iload 7, 2) := by decide +kernel
theorem dX3_draw_118 : decode cX3_draw 118 = .ok (.i2l, 1) := by decide +kernel
theorem dX3_draw_119 : decode cX3_draw 119 = .ok (.lload 5, 2) := by decide +kernel
theorem dX3_draw_121 : decode cX3_draw 121 = .ok (.lcmp, 1) := by decide +kernel
theorem dX3_draw_122 : decode cX3_draw 122 = .ok (.ifCond .gt 42, 3) := by decide +kernel
theorem dX3_draw_125 : decode cX3_draw 125 = .ok (.iinc 8 1, 3) := by decide +kernel
theorem dX3_draw_128 : decode cX3_draw 128 = .ok (.aload_n 0, 1) := by decide +kernel
theorem dX3_draw_129 : decode cX3_draw 129 = .ok (.getfield 38, 3) := by decide +kernel
theorem dX3_draw_132 : decode cX3_draw 132 = .ok (.iload_n 3, 1) := by decide +kernel
theorem dX3_draw_133 : decode cX3_draw 133 = .ok (.iload 8, 2) := by decide +kernel
theorem dX3_draw_135 : decode cX3_draw 135 = .ok (.iastore, 1) := by decide +kernel
theorem dX3_draw_136 : decode cX3_draw 136 = .ok (.iload 7, 2) := by decide +kernel
theorem dX3_draw_138 : decode cX3_draw 138 = .ok (.aload_n 0, 1) := by decide +kernel
theorem dX3_draw_139 : decode cX3_draw 139 = .ok (.iload_n 1, 1) := by decide +kernel
theorem dX3_draw_140 : decode cX3_draw 140 = .ok (.iload_n 2, 1) := by decide +kernel
theorem dX3_draw_141 : decode cX3_draw 141 = .ok (.invokevirtual 125, 3) := by decide +kernel
theorem dX3_draw_144 : decode cX3_draw 144 = .ok (.ifCond .eq 13, 3) := by decide +kernel
theorem dX3_draw_147 : decode cX3_draw 147 = .ok (.aload_n 0, 1) := by decide +kernel
theorem dX3_draw_148 : decode cX3_draw 148 = .ok (.iload_n 2, 1) := by decide +kernel
theorem dX3_draw_149 : decode cX3_draw 149 = .ok (.iload 8, 2) := by decide +kernel
theorem dX3_draw_151 : decode cX3_draw 151 = .ok (.invokevirtual 101, 3) := by decide +kernel
theorem dX3_draw_154 : decode cX3_draw 154 = .ok (.goto 4, 3) := by decide +kernel
theorem dX3_draw_157 : decode cX3_draw 157 = .ok (.iconst 0, 1) := by decide +kernel
theorem dX3_draw_158 : decode cX3_draw 158 = .ok (.iadd, 1) := by decide +kernel
theorem dX3_draw_159 : decode cX3_draw 159 = .ok (.istore 7, 2) := by decide +kernel
theorem dX3_draw_161 : decode cX3_draw 161 = .ok (.goto (-45), 3) := by decide +kernel
theorem dX3_draw_164 : decode cX3_draw 164 = .ok (.return_, 1) := by decide +kernel
theorem dX3_holds_0 : decode cX3_holds 0 = .ok (.iconst 1, 1) := by decide +kernel
theorem dX3_holds_1 : decode cX3_holds 1 = .ok (.istore_n 3, 1) := by decide +kernel
theorem dX3_holds_2 : decode cX3_holds 2 = .ok (.iconst 0, 1) := by decide +kernel
theorem dX3_holds_3 : decode cX3_holds 3 = .ok (.istore 4, 2) := by decide +kernel
theorem dX3_holds_5 : decode cX3_holds 5 = .ok (.iload 4, 2) := by decide +kernel
theorem dX3_holds_7 : decode cX3_holds 7 = .ok (.aload_n 0, 1) := by decide +kernel
theorem dX3_holds_8 : decode cX3_holds 8 = .ok (.getfield 105, 3) := by decide +kernel
theorem dX3_holds_11 : decode cX3_holds 11 = .ok (.if_icmp .ge 103, 3) := by decide +kernel
theorem dX3_holds_14 : decode cX3_holds 14 = .ok (.aload_n 0, 1) := by decide +kernel
theorem dX3_holds_15 : decode cX3_holds 15 = .ok (.getfield 22, 3) := by decide +kernel
theorem dX3_holds_18 : decode cX3_holds 18 = .ok (.iload 4, 2) := by decide +kernel
theorem dX3_holds_20 : decode cX3_holds 20 = .ok (.iaload, 1) := by decide +kernel
theorem dX3_holds_21 : decode cX3_holds 21 = .ok (.iload_n 2, 1) := by decide +kernel
theorem dX3_holds_22 : decode cX3_holds 22 = .ok (.if_icmp .eq 17, 3) := by decide +kernel
theorem dX3_holds_25 : decode cX3_holds 25 = .ok (.aload_n 0, 1) := by decide +kernel
theorem dX3_holds_26 : decode cX3_holds 26 = .ok (.getfield 25, 3) := by decide +kernel
theorem dX3_holds_29 : decode cX3_holds 29 = .ok (.iload 4, 2) := by decide +kernel
theorem dX3_holds_31 : decode cX3_holds 31 = .ok (.iaload, 1) := by decide +kernel
theorem dX3_holds_32 : decode cX3_holds 32 = .ok (.iload_n 2, 1) := by decide +kernel
theorem dX3_holds_33 : decode cX3_holds 33 = .ok (.if_icmp .eq 6, 3) := by decide +kernel
theorem dX3_holds_36 : decode cX3_holds 36 = .ok (.goto 72, 3) := by decide +kernel
theorem dX3_holds_39 : decode cX3_holds 39 = .ok (.aload_n 0, 1) := by decide +kernel
theorem dX3_holds_40 : decode cX3_holds 40 = .ok (.getfield 38, 3) := by decide +kernel
theorem dX3_holds_43 : decode cX3_holds 43 = .ok (.bipush 8, 2) := by decide +kernel
theorem dX3_holds_45 : decode cX3_holds 45 = .ok (.iload_n 1, 1) := by decide +kernel
theorem dX3_holds_46 : decode cX3_holds 46 = .ok (.imul, 1) := by decide +kernel
theorem dX3_holds_47 : decode cX3_holds 47 = .ok (.aload_n 0, 1) := by decide +kernel
theorem dX3_holds_48 : decode cX3_holds 48 = .ok (.getfield 25, 3) := by decide +kernel
theorem dX3_holds_51 : decode cX3_holds 51 = .ok (.iload 4, 2) := by decide +kernel
theorem dX3_holds_53 : decode cX3_holds 53 = .ok (.iaload, 1) := by decide +kernel
theorem dX3_holds_54 : decode cX3_holds 54 = .ok (.iadd, 1) := by decide +kernel
theorem dX3_holds_55 : decode cX3_holds 55 = .ok (.iaload, 1) := by decide +kernel
theorem dX3_holds_56 : decode cX3_holds 56 = .ok (.aload_n 0, 1) := by decide +kernel
theorem dX3_holds_57 : decode cX3_holds 57 = .ok (.getfield 38, 3) := by decide +kernel
theorem dX3_holds_60 : decode cX3_holds 60 = .ok (.bipush 8, 2) := by decide +kernel
theorem dX3_holds_62 : decode cX3_holds 62 = .ok (.iload_n 1, 1) := by decide +kernel
theorem dX3_holds_63 : decode cX3_holds 63 = .ok (.imul, 1) := by decide +kernel
theorem dX3_holds_64 : decode cX3_holds 64 = .ok (.aload_n 0, 1) := by decide +kernel
theorem dX3_holds_65 : decode cX3_holds 65 = .ok (.getfield 22, 3) := by decide +kernel
theorem dX3_holds_68 : decode cX3_holds 68 = .ok (.iload 4, 2) := by decide +kernel
theorem dX3_holds_70 : decode cX3_holds 70 = .ok (.iaload, 1) := by decide +kernel
theorem dX3_holds_71 : decode cX3_holds 71 = .ok (.iadd, 1) := by decide +kernel
theorem dX3_holds_72 : decode cX3_holds 72 = .ok (.iaload, 1) := by decide +kernel
theorem dX3_holds_73 : decode cX3_holds 73 = .ok (.isub, 1) := by decide +kernel
theorem dX3_holds_74 : decode cX3_holds 74 = .ok (.istore 5, 2) := by decide +kernel
theorem dX3_holds_76 : decode cX3_holds 76 = .ok (.iload_n 3, 1) := by decide +kernel
theorem dX3_holds_77 : decode cX3_holds 77 = .ok (.ifCond .eq 29, 3) := by decide +kernel
theorem dX3_holds_80 : decode cX3_holds 80 = .ok (.iload 5, 2) := by decide +kernel
theorem dX3_holds_82 : decode cX3_holds 82 = .ok (.aload_n 0, 1) := by decide +kernel
theorem dX3_holds_83 : decode cX3_holds 83 = .ok (.getfield 28, 3) := by decide +kernel
theorem dX3_holds_86 : decode cX3_holds 86 = .ok (.iload 4, 2) := by decide +kernel
theorem dX3_holds_88 : decode cX3_holds 88 = .ok (.iaload, 1) := by decide +kernel
theorem dX3_holds_89 : decode cX3_holds 89 = .ok (.aload_n 0, 1) := by decide +kernel
theorem dX3_holds_90 : decode cX3_holds 90 = .ok (.getfield 31, 3) := by decide +kernel
theorem dX3_holds_93 : decode cX3_holds 93 = .ok (.iload 4, 2) := by decide +kernel
theorem dX3_holds_95 : decode cX3_holds 95 = .ok (.iaload, 1) := by decide +kernel
theorem dX3_holds_96 : decode cX3_holds 96 = .ok (.invokestatic 75, 3) := by decide +kernel
theorem dX3_holds_99 : decode cX3_holds 99 = .ok (.ifCond .eq 7, 3) := by decide +kernel
theorem dX3_holds_102 : decode cX3_holds 102 = .ok (.iconst 1, 1) := by decide +kernel
theorem dX3_holds_103 : decode cX3_holds 103 = .ok (.goto 4, 3) := by decide +kernel
theorem dX3_holds_106 : decode cX3_holds 106 = .ok (.iconst 0, 1) := by decide +kernel
theorem dX3_holds_107 : decode cX3_holds 107 = .ok (.istore_n 3, 1) := by decide +kernel
theorem dX3_holds_108 : decode cX3_holds 108 = .ok (.iinc 4 1, 3) := by decide +kernel
theorem dX3_holds_111 : decode cX3_holds 111 = .ok (.goto (-106), 3) := by decide +kernel
theorem dX3_holds_114 : decode cX3_holds 114 = .ok (.iload_n 3, 1) := by decide +kernel
theorem dX3_holds_115 : decode cX3_holds 115 = .ok (.ireturn, 1) := by decide +kernel
theorem dX3_rowAt_0 : decode cX3_rowAt 0 = .ok (.bipush 8, 2) := by decide +kernel
theorem dX3_rowAt_2 : decode cX3_rowAt 2 = .ok (.bipush 60, 2) := by decide +kernel
theorem dX3_rowAt_4 : decode cX3_rowAt 4 = .ok (.iload_n 1, 1) := by decide +kernel
theorem dX3_rowAt_5 : decode cX3_rowAt 5 = .ok (.imul, 1) := by decide +kernel
theorem dX3_rowAt_6 : decode cX3_rowAt 6 = .ok (.iload_n 2, 1) := by decide +kernel
theorem dX3_rowAt_7 : decode cX3_rowAt 7 = .ok (.iadd, 1) := by decide +kernel
theorem dX3_rowAt_8 : decode cX3_rowAt 8 = .ok (.imul, 1) := by decide +kernel
theorem dX3_rowAt_9 : decode cX3_rowAt 9 = .ok (.ireturn, 1) := by decide +kernel
theorem dX3_at_0 : decode cX3_at 0 = .ok (.iload_n 1, 1) := by decide +kernel
theorem dX3_at_1 : decode cX3_at 1 = .ok (.iconst 0, 1) := by decide +kernel
theorem dX3_at_2 : decode cX3_at 2 = .ok (.aload_n 0, 1) := by decide +kernel
theorem dX3_at_3 : decode cX3_at 3 = .ok (.getfield 66, 3) := by decide +kernel
theorem dX3_at_6 : decode cX3_at 6 = .ok (.iconst 1, 1) := by decide +kernel
theorem dX3_at_7 : decode cX3_at 7 = .ok (.isub, 1) := by decide +kernel
theorem dX3_at_8 : decode cX3_at 8 = .ok (.invokestatic 75, 3) := by decide +kernel
theorem dX3_at_11 : decode cX3_at 11 = .ok (.ifCond .eq 31, 3) := by decide +kernel
theorem dX3_at_14 : decode cX3_at 14 = .ok (.iload_n 2, 1) := by decide +kernel
theorem dX3_at_15 : decode cX3_at 15 = .ok (.iconst (-1), 1) := by decide +kernel
theorem dX3_at_16 : decode cX3_at 16 = .ok (.if_icmp .lt 26, 3) := by decide +kernel
theorem dX3_at_19 : decode cX3_at 19 = .ok (.aload_n 0, 1) := by decide +kernel
theorem dX3_at_20 : decode cX3_at 20 = .ok (.getfield 79, 3) := by decide +kernel
theorem dX3_at_23 : decode cX3_at 23 = .ok (.ifCond .eq 11, 3) := by decide +kernel
theorem dX3_at_26 : decode cX3_at 26 = .ok (.iload_n 2, 1) := by decide +kernel
theorem dX3_at_27 : decode cX3_at 27 = .ok (.aload_n 0, 1) := by decide +kernel
theorem dX3_at_28 : decode cX3_at 28 = .ok (.getfield 120, 3) := by decide +kernel
theorem dX3_at_31 : decode cX3_at 31 = .ok (.if_icmp .ge 11, 3) := by decide +kernel
theorem dX3_at_34 : decode cX3_at 34 = .ok (.aload_n 0, 1) := by decide +kernel
theorem dX3_at_35 : decode cX3_at 35 = .ok (.iload_n 3, 1) := by decide +kernel
theorem dX3_at_36 : decode cX3_at 36 = .ok (.invokevirtual 93, 3) := by decide +kernel
theorem dX3_at_39 : decode cX3_at 39 = .ok (.ifCond .ne 7, 3) := by decide +kernel
theorem dX3_at_42 : decode cX3_at 42 = .ok (.iconst 1, 1) := by decide +kernel
theorem dX3_at_43 : decode cX3_at 43 = .ok (.goto 4, 3) := by decide +kernel
theorem dX3_at_46 : decode cX3_at 46 = .ok (.iconst 0, 1) := by decide +kernel
theorem dX3_at_47 : decode cX3_at 47 = .ok (.istore 4, 2) := by decide +kernel
theorem dX3_at_49 : decode cX3_at 49 = .ok (.aload_n 0, 1) := by decide +kernel
theorem dX3_at_50 : decode cX3_at 50 = .ok (.iload 4, 2) := by decide +kernel
theorem dX3_at_52 : decode cX3_at 52 = .ok (.aload_n 0, 1) := by decide +kernel
theorem dX3_at_53 : decode cX3_at 53 = .ok (.getfield 79, 3) := by decide +kernel
theorem dX3_at_56 : decode cX3_at 56 = .ok (.ifCond .ne 7, 3) := by decide +kernel
theorem dX3_at_59 : decode cX3_at 59 = .ok (.iconst 1, 1) := by decide +kernel
theorem dX3_at_60 : decode cX3_at 60 = .ok (.goto 4, 3) := by decide +kernel
theorem dX3_at_63 : decode cX3_at 63 = .ok (.iconst 0, 1) := by decide +kernel
theorem dX3_at_64 : decode cX3_at 64 = .ok (.iconst 0, 1) := by decide +kernel
theorem dX3_at_65 : decode cX3_at 65 = .ok (.invokevirtual 86, 3) := by decide +kernel
theorem dX3_at_68 : decode cX3_at 68 = .ok (.ifCond .eq 5, 3) := by decide +kernel
theorem dX3_at_71 : decode cX3_at 71 = .ok (.iconst 0, 1) := by decide +kernel
theorem dX3_at_72 : decode cX3_at 72 = .ok (.ireturn, 1) := by decide +kernel
theorem dX3_at_73 : decode cX3_at 73 = .ok (.iload_n 2, 1) := by decide +kernel
theorem dX3_at_74 : decode cX3_at 74 = .ok (.iconst (-1), 1) := by decide +kernel
theorem dX3_at_75 : decode cX3_at 75 = .ok (.if_icmp .ne 17, 3) := by decide +kernel
theorem dX3_at_78 : decode cX3_at 78 = .ok (.aload_n 0, 1) := by decide +kernel
theorem dX3_at_79 : decode cX3_at 79 = .ok (.getfield 38, 3) := by decide +kernel
theorem dX3_at_82 : decode cX3_at 82 = .ok (.bipush 8, 2) := by decide +kernel
theorem dX3_at_84 : decode cX3_at 84 = .ok (.iload_n 1, 1) := by decide +kernel
theorem dX3_at_85 : decode cX3_at 85 = .ok (.imul, 1) := by decide +kernel
theorem dX3_at_86 : decode cX3_at 86 = .ok (.iload_n 3, 1) := by decide +kernel
theorem dX3_at_87 : decode cX3_at 87 = .ok (.iadd, 1) := by decide +kernel
theorem dX3_at_88 : decode cX3_at 88 = .ok (.iaload, 1) := by decide +kernel
theorem dX3_at_89 : decode cX3_at 89 = .ok (.goto 16, 3) := by decide +kernel
theorem dX3_at_92 : decode cX3_at 92 = .ok (.aload_n 0, 1) := by decide +kernel
theorem dX3_at_93 : decode cX3_at 93 = .ok (.getfield 45, 3) := by decide +kernel
theorem dX3_at_96 : decode cX3_at 96 = .ok (.aload_n 0, 1) := by decide +kernel
theorem dX3_at_97 : decode cX3_at 97 = .ok (.iload_n 1, 1) := by decide +kernel
theorem dX3_at_98 : decode cX3_at 98 = .ok (.iload_n 2, 1) := by decide +kernel
theorem dX3_at_99 : decode cX3_at 99 = .ok (.invokevirtual 139, 3) := by decide +kernel
theorem dX3_at_102 : decode cX3_at 102 = .ok (.iload_n 3, 1) := by decide +kernel
theorem dX3_at_103 : decode cX3_at 103 = .ok (.iadd, 1) := by decide +kernel
theorem dX3_at_104 : decode cX3_at 104 = .ok (.iaload, 1) := by decide +kernel
theorem dX3_at_105 : decode cX3_at 105 = .ok (.ireturn, 1) := by decide +kernel
theorem dX3_counted_0 : decode cX3_counted 0 = .ok (.aload_n 0, 1) := by decide +kernel
theorem dX3_counted_1 : decode cX3_counted 1 = .ok (.aload_n 0, 1) := by decide +kernel
theorem dX3_counted_2 : decode cX3_counted 2 = .ok (.iload_n 1, 1) := by decide +kernel
theorem dX3_counted_3 : decode cX3_counted 3 = .ok (.iload_n 2, 1) := by decide +kernel
theorem dX3_counted_4 : decode cX3_counted 4 = .ok (.invokevirtual 97, 3) := by decide +kernel
theorem dX3_counted_7 : decode cX3_counted 7 = .ok (.ifCond .ne 7, 3) := by decide +kernel
theorem dX3_counted_10 : decode cX3_counted 10 = .ok (.iconst 1, 1) := by decide +kernel
theorem dX3_counted_11 : decode cX3_counted 11 = .ok (.goto 4, 3) := by decide +kernel
theorem dX3_counted_14 : decode cX3_counted 14 = .ok (.iconst 0, 1) := by decide +kernel
theorem dX3_counted_15 : decode cX3_counted 15 = .ok (.aload_n 0, 1) := by decide +kernel
theorem dX3_counted_16 : decode cX3_counted 16 = .ok (.getfield 79, 3) := by decide +kernel
theorem dX3_counted_19 : decode cX3_counted 19 = .ok (.ifCond .ne 7, 3) := by decide +kernel
theorem dX3_counted_22 : decode cX3_counted 22 = .ok (.iconst 1, 1) := by decide +kernel
theorem dX3_counted_23 : decode cX3_counted 23 = .ok (.goto 4, 3) := by decide +kernel
theorem dX3_counted_26 : decode cX3_counted 26 = .ok (.iconst 0, 1) := by decide +kernel
theorem dX3_counted_27 : decode cX3_counted 27 = .ok (.iconst 0, 1) := by decide +kernel
theorem dX3_counted_28 : decode cX3_counted 28 = .ok (.invokevirtual 86, 3) := by decide +kernel
theorem dX3_counted_31 : decode cX3_counted 31 = .ok (.ifCond .eq 5, 3) := by decide +kernel
theorem dX3_counted_34 : decode cX3_counted 34 = .ok (.iconst 0, 1) := by decide +kernel
theorem dX3_counted_35 : decode cX3_counted 35 = .ok (.ireturn, 1) := by decide +kernel
theorem dX3_counted_36 : decode cX3_counted 36 = .ok (.iconst 0, 1) := by decide +kernel
theorem dX3_counted_37 : decode cX3_counted 37 = .ok (.istore_n 3, 1) := by decide +kernel
theorem dX3_counted_38 : decode cX3_counted 38 = .ok (.iconst 0, 1) := by decide +kernel
theorem dX3_counted_39 : decode cX3_counted 39 = .ok (.istore 4, 2) := by decide +kernel
theorem dX3_counted_41 : decode cX3_counted 41 = .ok (.iload 4, 2) := by decide +kernel
theorem dX3_counted_43 : decode cX3_counted 43 = .ok (.aload_n 0, 1) := by decide +kernel
theorem dX3_counted_44 : decode cX3_counted 44 = .ok (.getfield 66, 3) := by decide +kernel
theorem dX3_counted_47 : decode cX3_counted 47 = .ok (.aload_n 0, 1) := by decide +kernel
theorem dX3_counted_48 : decode cX3_counted 48 = .ok (.getfield 120, 3) := by decide +kernel
theorem dX3_counted_51 : decode cX3_counted 51 = .ok (.imul, 1) := by decide +kernel
theorem dX3_counted_52 : decode cX3_counted 52 = .ok (.if_icmp .ge 46, 3) := by decide +kernel
theorem dX3_counted_55 : decode cX3_counted 55 = .ok (.iload_n 3, 1) := by decide +kernel
theorem dX3_counted_56 : decode cX3_counted 56 = .ok (.aload_n 0, 1) := by decide +kernel
theorem dX3_counted_57 : decode cX3_counted 57 = .ok (.getfield 45, 3) := by decide +kernel
theorem dX3_counted_60 : decode cX3_counted 60 = .ok (.aload_n 0, 1) := by decide +kernel
theorem dX3_counted_61 : decode cX3_counted 61 = .ok (.iload 4, 2) := by decide +kernel
theorem dX3_counted_63 : decode cX3_counted 63 = .ok (.aload_n 0, 1) := by decide +kernel
theorem dX3_counted_64 : decode cX3_counted 64 = .ok (.getfield 120, 3) := by decide +kernel
theorem dX3_counted_67 : decode cX3_counted 67 = .ok (.idiv, 1) := by decide +kernel
theorem dX3_counted_68 : decode cX3_counted 68 = .ok (.iload 4, 2) := by decide +kernel
theorem dX3_counted_70 : decode cX3_counted 70 = .ok (.aload_n 0, 1) := by decide +kernel
theorem dX3_counted_71 : decode cX3_counted 71 = .ok (.getfield 120, 3) := by decide +kernel
theorem dX3_counted_74 : decode cX3_counted 74 = .ok (.irem, 1) := by decide +kernel
theorem dX3_counted_75 : decode cX3_counted 75 = .ok (.invokevirtual 139, 3) := by decide +kernel
theorem dX3_counted_78 : decode cX3_counted 78 = .ok (.iload_n 1, 1) := by decide +kernel
theorem dX3_counted_79 : decode cX3_counted 79 = .ok (.iadd, 1) := by decide +kernel
theorem dX3_counted_80 : decode cX3_counted 80 = .ok (.iaload, 1) := by decide +kernel
theorem dX3_counted_81 : decode cX3_counted 81 = .ok (.iload_n 2, 1) := by decide +kernel
theorem dX3_counted_82 : decode cX3_counted 82 = .ok (.if_icmp .ne 7, 3) := by decide +kernel
theorem dX3_counted_85 : decode cX3_counted 85 = .ok (.iconst 1, 1) := by decide +kernel
theorem dX3_counted_86 : decode cX3_counted 86 = .ok (.goto 4, 3) := by decide +kernel
theorem dX3_counted_89 : decode cX3_counted 89 = .ok (.iconst 0, 1) := by decide +kernel
theorem dX3_counted_90 : decode cX3_counted 90 = .ok (.iadd, 1) := by decide +kernel
theorem dX3_counted_91 : decode cX3_counted 91 = .ok (.istore_n 3, 1) := by decide +kernel
theorem dX3_counted_92 : decode cX3_counted 92 = .ok (.iinc 4 1, 3) := by decide +kernel
theorem dX3_counted_95 : decode cX3_counted 95 = .ok (.goto (-54), 3) := by decide +kernel
theorem dX3_counted_98 : decode cX3_counted 98 = .ok (.iload_n 3, 1) := by decide +kernel
theorem dX3_counted_99 : decode cX3_counted 99 = .ok (.ireturn, 1) := by decide +kernel
theorem dX3_apart_0 : decode cX3_apart 0 = .ok (.aload_n 0, 1) := by decide +kernel
theorem dX3_apart_1 : decode cX3_apart 1 = .ok (.aload_n 0, 1) := by decide +kernel
theorem dX3_apart_2 : decode cX3_apart 2 = .ok (.iload_n 1, 1) := by decide +kernel
theorem dX3_apart_3 : decode cX3_apart 3 = .ok (.invokevirtual 93, 3) := by decide +kernel
theorem dX3_apart_6 : decode cX3_apart 6 = .ok (.ifCond .ne 7, 3) := by decide +kernel
theorem dX3_apart_9 : decode cX3_apart 9 = .ok (.iconst 1, 1) := by decide +kernel
theorem dX3_apart_10 : decode cX3_apart 10 = .ok (.goto 4, 3) := by decide +kernel
theorem dX3_apart_13 : decode cX3_apart 13 = .ok (.iconst 0, 1) := by decide +kernel
theorem dX3_apart_14 : decode cX3_apart 14 = .ok (.aload_n 0, 1) := by decide +kernel
theorem dX3_apart_15 : decode cX3_apart 15 = .ok (.getfield 79, 3) := by decide +kernel
theorem dX3_apart_18 : decode cX3_apart 18 = .ok (.ifCond .ne 7, 3) := by decide +kernel
theorem dX3_apart_21 : decode cX3_apart 21 = .ok (.iconst 1, 1) := by decide +kernel
theorem dX3_apart_22 : decode cX3_apart 22 = .ok (.goto 4, 3) := by decide +kernel
theorem dX3_apart_25 : decode cX3_apart 25 = .ok (.iconst 0, 1) := by decide +kernel
theorem dX3_apart_26 : decode cX3_apart 26 = .ok (.iconst 0, 1) := by decide +kernel
theorem dX3_apart_27 : decode cX3_apart 27 = .ok (.invokevirtual 86, 3) := by decide +kernel
theorem dX3_apart_30 : decode cX3_apart 30 = .ok (.ifCond .eq 5, 3) := by decide +kernel
theorem dX3_apart_33 : decode cX3_apart 33 = .ok (.iconst 0, 1) := by decide +kernel
theorem dX3_apart_34 : decode cX3_apart 34 = .ok (.ireturn, 1) := by decide +kernel
theorem dX3_apart_35 : decode cX3_apart 35 = .ok (.iconst 0, 1) := by decide +kernel
theorem dX3_apart_36 : decode cX3_apart 36 = .ok (.istore_n 2, 1) := by decide +kernel
theorem dX3_apart_37 : decode cX3_apart 37 = .ok (.iconst 0, 1) := by decide +kernel
theorem dX3_apart_38 : decode cX3_apart 38 = .ok (.istore_n 3, 1) := by decide +kernel
theorem dX3_apart_39 : decode cX3_apart 39 = .ok (.iconst 0, 1) := by decide +kernel
theorem dX3_apart_40 : decode cX3_apart 40 = .ok (.istore 4, 2) := by decide +kernel
theorem dX3_apart_42 : decode cX3_apart 42 = .ok (.iload 4, 2) := by decide +kernel
theorem dX3_apart_44 : decode cX3_apart 44 = .ok (.aload_n 0, 1) := by decide +kernel
theorem dX3_apart_45 : decode cX3_apart 45 = .ok (.getfield 66, 3) := by decide +kernel
theorem dX3_apart_48 : decode cX3_apart 48 = .ok (.if_icmp .ge 86, 3) := by decide +kernel
theorem dX3_apart_51 : decode cX3_apart 51 = .ok (.iconst 0, 1) := by decide +kernel
theorem dX3_apart_52 : decode cX3_apart 52 = .ok (.istore 5, 2) := by decide +kernel
theorem dX3_apart_54 : decode cX3_apart 54 = .ok (.iconst 0, 1) := by decide +kernel
theorem dX3_apart_55 : decode cX3_apart 55 = .ok (.istore 6, 2) := by decide +kernel
theorem dX3_apart_57 : decode cX3_apart 57 = .ok (.iload 6, 2) := by decide +kernel
theorem dX3_apart_59 : decode cX3_apart 59 = .ok (.aload_n 0, 1) := by decide +kernel
theorem dX3_apart_60 : decode cX3_apart 60 = .ok (.getfield 120, 3) := by decide +kernel
theorem dX3_apart_63 : decode cX3_apart 63 = .ok (.if_icmp .ge 29, 3) := by decide +kernel
theorem dX3_apart_66 : decode cX3_apart 66 = .ok (.iload 5, 2) := by decide +kernel
theorem dX3_apart_68 : decode cX3_apart 68 = .ok (.aload_n 0, 1) := by decide +kernel
theorem dX3_apart_69 : decode cX3_apart 69 = .ok (.getfield 45, 3) := by decide +kernel
theorem dX3_apart_72 : decode cX3_apart 72 = .ok (.aload_n 0, 1) := by decide +kernel
theorem dX3_apart_73 : decode cX3_apart 73 = .ok (.iload 4, 2) := by decide +kernel
theorem dX3_apart_75 : decode cX3_apart 75 = .ok (.iload 6, 2) := by decide +kernel
theorem dX3_apart_77 : decode cX3_apart 77 = .ok (.invokevirtual 139, 3) := by decide +kernel
theorem dX3_apart_80 : decode cX3_apart 80 = .ok (.iload_n 1, 1) := by decide +kernel
theorem dX3_apart_81 : decode cX3_apart 81 = .ok (.iadd, 1) := by decide +kernel
theorem dX3_apart_82 : decode cX3_apart 82 = .ok (.iaload, 1) := by decide +kernel
theorem dX3_apart_83 : decode cX3_apart 83 = .ok (.iadd, 1) := by decide +kernel
theorem dX3_apart_84 : decode cX3_apart 84 = .ok (.istore 5, 2) := by decide +kernel
theorem dX3_apart_86 : decode cX3_apart 86 = .ok (.iinc 6 1, 3) := by decide +kernel
theorem dX3_apart_89 : decode cX3_apart 89 = .ok (.goto (-32), 3) := by decide +kernel
theorem dX3_apart_92 : decode cX3_apart 92 = .ok (.iload 4, 2) := by decide +kernel
theorem dX3_apart_94 : decode cX3_apart 94 = .ok (.ifCond .eq 9, 3) := by decide +kernel
theorem dX3_apart_97 : decode cX3_apart 97 = .ok (.iload 5, 2) := by decide +kernel
theorem dX3_apart_99 : decode cX3_apart 99 = .ok (.iload_n 2, 1) := by decide +kernel
theorem dX3_apart_100 : decode cX3_apart 100 = .ok (.if_icmp .ge 8, 3) := by decide +kernel
theorem dX3_apart_103 : decode cX3_apart 103 = .ok (.iload 5, 2) := by decide +kernel
theorem dX3_apart_105 : decode cX3_apart 105 = .ok (.goto 4, 3) := by decide +kernel
theorem dX3_apart_108 : decode cX3_apart 108 = .ok (.iload_n 2, 1) := by decide +kernel
theorem dX3_apart_109 : decode cX3_apart 109 = .ok (.istore_n 2, 1) := by decide +kernel
theorem dX3_apart_110 : decode cX3_apart 110 = .ok (.iload 4, 2) := by decide +kernel
theorem dX3_apart_112 : decode cX3_apart 112 = .ok (.ifCond .eq 9, 3) := by decide +kernel
theorem dX3_apart_115 : decode cX3_apart 115 = .ok (.iload 5, 2) := by decide +kernel
theorem dX3_apart_117 : decode cX3_apart 117 = .ok (.iload_n 3, 1) := by decide +kernel
theorem dX3_apart_118 : decode cX3_apart 118 = .ok (.if_icmp .le 8, 3) := by decide +kernel
theorem dX3_apart_121 : decode cX3_apart 121 = .ok (.iload 5, 2) := by decide +kernel
theorem dX3_apart_123 : decode cX3_apart 123 = .ok (.goto 4, 3) := by decide +kernel
theorem dX3_apart_126 : decode cX3_apart 126 = .ok (.iload_n 3, 1) := by decide +kernel
theorem dX3_apart_127 : decode cX3_apart 127 = .ok (.istore_n 3, 1) := by decide +kernel
theorem dX3_apart_128 : decode cX3_apart 128 = .ok (.iinc 4 1, 3) := by decide +kernel
theorem dX3_apart_131 : decode cX3_apart 131 = .ok (.goto (-89), 3) := by decide +kernel
theorem dX3_apart_134 : decode cX3_apart 134 = .ok (.iload_n 3, 1) := by decide +kernel
theorem dX3_apart_135 : decode cX3_apart 135 = .ok (.iload_n 2, 1) := by decide +kernel
theorem dX3_apart_136 : decode cX3_apart 136 = .ok (.isub, 1) := by decide +kernel
theorem dX3_apart_137 : decode cX3_apart 137 = .ok (.ireturn, 1) := by decide +kernel
theorem dX3_agreement_0 : decode cX3_agreement 0 = .ok (.aload_n 0, 1) := by decide +kernel
theorem dX3_agreement_1 : decode cX3_agreement 1 = .ok (.aload_n 0, 1) := by decide +kernel
theorem dX3_agreement_2 : decode cX3_agreement 2 = .ok (.iload_n 1, 1) := by decide +kernel
theorem dX3_agreement_3 : decode cX3_agreement 3 = .ok (.invokevirtual 93, 3) := by decide +kernel
theorem dX3_agreement_6 : decode cX3_agreement 6 = .ok (.ifCond .ne 7, 3) := by decide +kernel
theorem dX3_agreement_9 : decode cX3_agreement 9 = .ok (.iconst 1, 1) := by decide +kernel
theorem dX3_agreement_10 : decode cX3_agreement 10 = .ok (.goto 4, 3) := by decide +kernel
theorem dX3_agreement_13 : decode cX3_agreement 13 = .ok (.iconst 0, 1) := by decide +kernel
theorem dX3_agreement_14 : decode cX3_agreement 14 = .ok (.aload_n 0, 1) := by decide +kernel
theorem dX3_agreement_15 : decode cX3_agreement 15 = .ok (.getfield 79, 3) := by decide +kernel
theorem dX3_agreement_18 : decode cX3_agreement 18 = .ok (.ifCond .ne 7, 3) := by decide +kernel
theorem dX3_agreement_21 : decode cX3_agreement 21 = .ok (.iconst 1, 1) := by decide +kernel
theorem dX3_agreement_22 : decode cX3_agreement 22 = .ok (.goto 4, 3) := by decide +kernel
theorem dX3_agreement_25 : decode cX3_agreement 25 = .ok (.iconst 0, 1) := by decide +kernel
theorem dX3_agreement_26 : decode cX3_agreement 26 = .ok (.iconst 0, 1) := by decide +kernel
theorem dX3_agreement_27 : decode cX3_agreement 27 = .ok (.invokevirtual 86, 3) := by decide +kernel
theorem dX3_agreement_30 : decode cX3_agreement 30 = .ok (.ifCond .eq 5, 3) := by decide +kernel
theorem dX3_agreement_33 : decode cX3_agreement 33 = .ok (.iconst 0, 1) := by decide +kernel
theorem dX3_agreement_34 : decode cX3_agreement 34 = .ok (.ireturn, 1) := by decide +kernel
theorem dX3_agreement_35 : decode cX3_agreement 35 = .ok (.aload_n 0, 1) := by decide +kernel
theorem dX3_agreement_36 : decode cX3_agreement 36 = .ok (.getfield 120, 3) := by decide +kernel
theorem dX3_agreement_39 : decode cX3_agreement 39 = .ok (.ifCond .ne 5, 3) := by decide +kernel
theorem dX3_agreement_42 : decode cX3_agreement 42 = .ok (.iconst (-1), 1) := by decide +kernel
theorem dX3_agreement_43 : decode cX3_agreement 43 = .ok (.ireturn, 1) := by decide +kernel
theorem dX3_agreement_44 : decode cX3_agreement 44 = .ok (.lconst 0, 1) := by decide +kernel
theorem dX3_agreement_45 : decode cX3_agreement 45 = .ok (.lstore_n 2, 1) := by decide +kernel
theorem dX3_agreement_46 : decode cX3_agreement 46 = .ok (.iconst 0, 1) := by decide +kernel
theorem dX3_agreement_47 : decode cX3_agreement 47 = .ok (.istore 4, 2) := by decide +kernel
theorem dX3_agreement_49 : decode cX3_agreement 49 = .ok (.iload 4, 2) := by decide +kernel
theorem dX3_agreement_51 : decode cX3_agreement 51 = .ok (.aload_n 0, 1) := by decide +kernel
theorem dX3_agreement_52 : decode cX3_agreement 52 = .ok (.getfield 66, 3) := by decide +kernel
theorem dX3_agreement_55 : decode cX3_agreement 55 = .ok (.aload_n 0, 1) := by decide +kernel
theorem dX3_agreement_56 : decode cX3_agreement 56 = .ok (.getfield 120, 3) := by decide +kernel
theorem dX3_agreement_59 : decode cX3_agreement 59 = .ok (.imul, 1) := by decide +kernel
theorem dX3_agreement_60 : decode cX3_agreement 60 = .ok (.if_icmp .ge 43, 3) := by decide +kernel
theorem dX3_agreement_63 : decode cX3_agreement 63 = .ok (.lload_n 2, 1) := by decide +kernel
theorem dX3_agreement_64 : decode cX3_agreement 64 = .ok (.aload_n 0, 1) := by decide +kernel
theorem dX3_agreement_65 : decode cX3_agreement 65 = .ok (.iload_n 1, 1) := by decide +kernel
theorem dX3_agreement_66 : decode cX3_agreement 66 = .ok (.aload_n 0, 1) := by decide +kernel
theorem dX3_agreement_67 : decode cX3_agreement 67 = .ok (.getfield 45, 3) := by decide +kernel
theorem dX3_agreement_70 : decode cX3_agreement 70 = .ok (.aload_n 0, 1) := by decide +kernel
theorem dX3_agreement_71 : decode cX3_agreement 71 = .ok (.iload 4, 2) := by decide +kernel
theorem dX3_agreement_73 : decode cX3_agreement 73 = .ok (.aload_n 0, 1) := by decide +kernel
theorem dX3_agreement_74 : decode cX3_agreement 74 = .ok (.getfield 120, 3) := by decide +kernel
theorem dX3_agreement_77 : decode cX3_agreement 77 = .ok (.idiv, 1) := by decide +kernel
theorem dX3_agreement_78 : decode cX3_agreement 78 = .ok (.iload 4, 2) := by decide +kernel
theorem dX3_agreement_80 : decode cX3_agreement 80 = .ok (.aload_n 0, 1) := by decide +kernel
theorem dX3_agreement_81 : decode cX3_agreement 81 = .ok (.getfield 120, 3) := by decide +kernel
theorem dX3_agreement_84 : decode cX3_agreement 84 = .ok (.irem, 1) := by decide +kernel
theorem dX3_agreement_85 : decode cX3_agreement 85 = .ok (.invokevirtual 139, 3) := by decide +kernel
theorem dX3_agreement_88 : decode cX3_agreement 88 = .ok (.iload_n 1, 1) := by decide +kernel
theorem dX3_agreement_89 : decode cX3_agreement 89 = .ok (.iadd, 1) := by decide +kernel
theorem dX3_agreement_90 : decode cX3_agreement 90 = .ok (.iaload, 1) := by decide +kernel
theorem dX3_agreement_91 : decode cX3_agreement 91 = .ok (.invokevirtual 101, 3) := by decide +kernel
theorem dX3_agreement_94 : decode cX3_agreement 94 = .ok (.i2l, 1) := by decide +kernel
theorem dX3_agreement_95 : decode cX3_agreement 95 = .ok (.ladd, 1) := by decide +kernel
theorem dX3_agreement_96 : decode cX3_agreement 96 = .ok (.lstore_n 2, 1) := by decide +kernel
theorem dX3_agreement_97 : decode cX3_agreement 97 = .ok (.iinc 4 1, 3) := by decide +kernel
theorem dX3_agreement_100 : decode cX3_agreement 100 = .ok (.goto (-51), 3) := by decide +kernel
theorem dX3_agreement_103 : decode cX3_agreement 103 = .ok (.iconst 0, 1) := by decide +kernel
theorem dX3_agreement_104 : decode cX3_agreement 104 = .ok (.istore 4, 2) := by decide +kernel
theorem dX3_agreement_106 : decode cX3_agreement 106 = .ok (.aload_n 0, 1) := by decide +kernel
theorem dX3_agreement_107 : decode cX3_agreement 107 = .ok (.getfield 7, 3) := by decide +kernel
theorem dX3_agreement_110 : decode cX3_agreement 110 = .ok (.iload_n 1, 1) := by decide +kernel
theorem dX3_agreement_111 : decode cX3_agreement 111 = .ok (.iaload, 1) := by decide +kernel
theorem dX3_agreement_112 : decode cX3_agreement 112 = .ok (.istore 5, 2) := by decide +kernel
theorem dX3_agreement_114 : decode cX3_agreement 114 = .ok (.iload 5, 2) := by decide +kernel
theorem dX3_agreement_116 : decode cX3_agreement 116 = .ok (.aload_n 0, 1) := by decide +kernel
theorem dX3_agreement_117 : decode cX3_agreement 117 = .ok (.getfield 13, 3) := by decide +kernel
theorem dX3_agreement_120 : decode cX3_agreement 120 = .ok (.iload_n 1, 1) := by decide +kernel
theorem dX3_agreement_121 : decode cX3_agreement 121 = .ok (.iaload, 1) := by decide +kernel
theorem dX3_agreement_122 : decode cX3_agreement 122 = .ok (.if_icmp .gt 35, 3) := by decide +kernel
theorem dX3_agreement_125 : decode cX3_agreement 125 = .ok (.aload_n 0, 1) := by decide +kernel
theorem dX3_agreement_126 : decode cX3_agreement 126 = .ok (.iload_n 1, 1) := by decide +kernel
theorem dX3_agreement_127 : decode cX3_agreement 127 = .ok (.iload 5, 2) := by decide +kernel
theorem dX3_agreement_129 : decode cX3_agreement 129 = .ok (.invokevirtual 101, 3) := by decide +kernel
theorem dX3_agreement_132 : decode cX3_agreement 132 = .ok (.iload 4, 2) := by decide +kernel
theorem dX3_agreement_134 : decode cX3_agreement 134 = .ok (.if_icmp .le 13, 3) := by decide +kernel
theorem dX3_agreement_137 : decode cX3_agreement 137 = .ok (.aload_n 0, 1) := by decide +kernel
theorem dX3_agreement_138 : decode cX3_agreement 138 = .ok (.iload_n 1, 1) := by decide +kernel
theorem dX3_agreement_139 : decode cX3_agreement 139 = .ok (.iload 5, 2) := by decide +kernel
theorem dX3_agreement_141 : decode cX3_agreement 141 = .ok (.invokevirtual 101, 3) := by decide +kernel
theorem dX3_agreement_144 : decode cX3_agreement 144 = .ok (.goto 5, 3) := by decide +kernel
theorem dX3_agreement_147 : decode cX3_agreement 147 = .ok (.iload 4, 2) := by decide +kernel
theorem dX3_agreement_149 : decode cX3_agreement 149 = .ok (.istore 4, 2) := by decide +kernel
theorem dX3_agreement_151 : decode cX3_agreement 151 = .ok (.iinc 5 1, 3) := by decide +kernel
theorem dX3_agreement_154 : decode cX3_agreement 154 = .ok (.goto (-40), 3) := by decide +kernel
theorem dX3_agreement_157 : decode cX3_agreement 157 = .ok (.ldc2_w 145, 3) := by decide +kernel
theorem dX3_agreement_160 : decode cX3_agreement 160 = .ok (.lload_n 2, 1) := by decide +kernel
theorem dX3_agreement_161 : decode cX3_agreement 161 = .ok (.lmul, 1) := by decide +kernel
theorem dX3_agreement_162 : decode cX3_agreement 162 = .ok (.aload_n 0, 1) := by decide +kernel
theorem dX3_agreement_163 : decode cX3_agreement 163 = .ok (.getfield 66, 3) := by decide +kernel
theorem dX3_agreement_166 : decode cX3_agreement 166 = .ok (.i2l, 1) := by decide +kernel
theorem dX3_agreement_167 : decode cX3_agreement 167 = .ok (.aload_n 0, 1) := by decide +kernel
theorem dX3_agreement_168 : decode cX3_agreement 168 = .ok (.getfield 120, 3) := by decide +kernel
theorem dX3_agreement_171 : decode cX3_agreement 171 = .ok (.i2l, 1) := by decide +kernel
theorem dX3_agreement_172 : decode cX3_agreement 172 = .ok (.lmul, 1) := by decide +kernel
theorem dX3_agreement_173 : decode cX3_agreement 173 = .ok (.iload 4, 2) := by decide +kernel
theorem dX3_agreement_175 : decode cX3_agreement 175 = .ok (.i2l, 1) := by decide +kernel
theorem dX3_agreement_176 : decode cX3_agreement 176 = .ok (.lmul, 1) := by decide +kernel
theorem dX3_agreement_177 : decode cX3_agreement 177 = .ok (.ldiv, 1) := by decide +kernel
theorem dX3_agreement_178 : decode cX3_agreement 178 = .ok (.l2i, 1) := by decide +kernel
theorem dX3_agreement_179 : decode cX3_agreement 179 = .ok (.ireturn, 1) := by decide +kernel
theorem dX3_spans_0 : decode cX3_spans 0 = .ok (.aload_n 0, 1) := by decide +kernel
theorem dX3_spans_1 : decode cX3_spans 1 = .ok (.iload_n 1, 1) := by decide +kernel
theorem dX3_spans_2 : decode cX3_spans 2 = .ok (.iconst 0, 1) := by decide +kernel
theorem dX3_spans_3 : decode cX3_spans 3 = .ok (.iconst 3, 1) := by decide +kernel
theorem dX3_spans_4 : decode cX3_spans 4 = .ok (.invokestatic 75, 3) := by decide +kernel
theorem dX3_spans_7 : decode cX3_spans 7 = .ok (.ifCond .ne 7, 3) := by decide +kernel
theorem dX3_spans_10 : decode cX3_spans 10 = .ok (.iconst 1, 1) := by decide +kernel
theorem dX3_spans_11 : decode cX3_spans 11 = .ok (.goto 4, 3) := by decide +kernel
theorem dX3_spans_14 : decode cX3_spans 14 = .ok (.iconst 0, 1) := by decide +kernel
theorem dX3_spans_15 : decode cX3_spans 15 = .ok (.iload_n 2, 1) := by decide +kernel
theorem dX3_spans_16 : decode cX3_spans 16 = .ok (.iconst 0, 1) := by decide +kernel
theorem dX3_spans_17 : decode cX3_spans 17 = .ok (.sipush 255, 3) := by decide +kernel
theorem dX3_spans_20 : decode cX3_spans 20 = .ok (.invokestatic 75, 3) := by decide +kernel
theorem dX3_spans_23 : decode cX3_spans 23 = .ok (.ifCond .ne 7, 3) := by decide +kernel
theorem dX3_spans_26 : decode cX3_spans 26 = .ok (.iconst 1, 1) := by decide +kernel
theorem dX3_spans_27 : decode cX3_spans 27 = .ok (.goto 4, 3) := by decide +kernel
theorem dX3_spans_30 : decode cX3_spans 30 = .ok (.iconst 0, 1) := by decide +kernel
theorem dX3_spans_31 : decode cX3_spans 31 = .ok (.aload_n 0, 1) := by decide +kernel
theorem dX3_spans_32 : decode cX3_spans 32 = .ok (.getfield 79, 3) := by decide +kernel
theorem dX3_spans_35 : decode cX3_spans 35 = .ok (.ifCond .ne 7, 3) := by decide +kernel
theorem dX3_spans_38 : decode cX3_spans 38 = .ok (.iconst 1, 1) := by decide +kernel
theorem dX3_spans_39 : decode cX3_spans 39 = .ok (.goto 4, 3) := by decide +kernel
theorem dX3_spans_42 : decode cX3_spans 42 = .ok (.iconst 0, 1) := by decide +kernel
theorem dX3_spans_43 : decode cX3_spans 43 = .ok (.invokevirtual 86, 3) := by decide +kernel
theorem dX3_spans_46 : decode cX3_spans 46 = .ok (.ifCond .eq 5, 3) := by decide +kernel
theorem dX3_spans_49 : decode cX3_spans 49 = .ok (.iconst 0, 1) := by decide +kernel
theorem dX3_spans_50 : decode cX3_spans 50 = .ok (.ireturn, 1) := by decide +kernel
theorem dX3_spans_51 : decode cX3_spans 51 = .ok (.iconst 0, 1) := by decide +kernel
theorem dX3_spans_52 : decode cX3_spans 52 = .ok (.istore_n 3, 1) := by decide +kernel
theorem dX3_spans_53 : decode cX3_spans 53 = .ok (.iconst 0, 1) := by decide +kernel
theorem dX3_spans_54 : decode cX3_spans 54 = .ok (.istore 4, 2) := by decide +kernel
theorem dX3_spans_56 : decode cX3_spans 56 = .ok (.iload 4, 2) := by decide +kernel
theorem dX3_spans_58 : decode cX3_spans 58 = .ok (.aload_n 0, 1) := by decide +kernel
theorem dX3_spans_59 : decode cX3_spans 59 = .ok (.getfield 66, 3) := by decide +kernel
theorem dX3_spans_62 : decode cX3_spans 62 = .ok (.aload_n 0, 1) := by decide +kernel
theorem dX3_spans_63 : decode cX3_spans 63 = .ok (.getfield 120, 3) := by decide +kernel
theorem dX3_spans_66 : decode cX3_spans 66 = .ok (.imul, 1) := by decide +kernel
theorem dX3_spans_67 : decode cX3_spans 67 = .ok (.if_icmp .ge 44, 3) := by decide +kernel
theorem dX3_spans_70 : decode cX3_spans 70 = .ok (.iload_n 3, 1) := by decide +kernel
theorem dX3_spans_71 : decode cX3_spans 71 = .ok (.aload_n 0, 1) := by decide +kernel
theorem dX3_spans_72 : decode cX3_spans 72 = .ok (.iload_n 1, 1) := by decide +kernel
theorem dX3_spans_73 : decode cX3_spans 73 = .ok (.aload_n 0, 1) := by decide +kernel
theorem dX3_spans_74 : decode cX3_spans 74 = .ok (.iload 4, 2) := by decide +kernel
theorem dX3_spans_76 : decode cX3_spans 76 = .ok (.aload_n 0, 1) := by decide +kernel
theorem dX3_spans_77 : decode cX3_spans 77 = .ok (.getfield 120, 3) := by decide +kernel
theorem dX3_spans_80 : decode cX3_spans 80 = .ok (.idiv, 1) := by decide +kernel
theorem dX3_spans_81 : decode cX3_spans 81 = .ok (.iload 4, 2) := by decide +kernel
theorem dX3_spans_83 : decode cX3_spans 83 = .ok (.aload_n 0, 1) := by decide +kernel
theorem dX3_spans_84 : decode cX3_spans 84 = .ok (.getfield 120, 3) := by decide +kernel
theorem dX3_spans_87 : decode cX3_spans 87 = .ok (.irem, 1) := by decide +kernel
theorem dX3_spans_88 : decode cX3_spans 88 = .ok (.invokevirtual 139, 3) := by decide +kernel
theorem dX3_spans_91 : decode cX3_spans 91 = .ok (.invokevirtual 147, 3) := by decide +kernel
theorem dX3_spans_94 : decode cX3_spans 94 = .ok (.iload_n 2, 1) := by decide +kernel
theorem dX3_spans_95 : decode cX3_spans 95 = .ok (.if_icmp .ne 7, 3) := by decide +kernel
theorem dX3_spans_98 : decode cX3_spans 98 = .ok (.iconst 1, 1) := by decide +kernel
theorem dX3_spans_99 : decode cX3_spans 99 = .ok (.goto 4, 3) := by decide +kernel
theorem dX3_spans_102 : decode cX3_spans 102 = .ok (.iconst 0, 1) := by decide +kernel
theorem dX3_spans_103 : decode cX3_spans 103 = .ok (.iadd, 1) := by decide +kernel
theorem dX3_spans_104 : decode cX3_spans 104 = .ok (.istore_n 3, 1) := by decide +kernel
theorem dX3_spans_105 : decode cX3_spans 105 = .ok (.iinc 4 1, 3) := by decide +kernel
theorem dX3_spans_108 : decode cX3_spans 108 = .ok (.goto (-52), 3) := by decide +kernel
theorem dX3_spans_111 : decode cX3_spans 111 = .ok (.iload_n 3, 1) := by decide +kernel
theorem dX3_spans_112 : decode cX3_spans 112 = .ok (.ireturn, 1) := by decide +kernel
theorem dX3_spanOf_0 : decode cX3_spanOf 0 = .ok (.sipush 1000, 3) := by decide +kernel
theorem dX3_spanOf_3 : decode cX3_spanOf 3 = .ok (.istore_n 3, 1) := by decide +kernel
theorem dX3_spanOf_4 : decode cX3_spanOf 4 = .ok (.iconst (-1), 1) := by decide +kernel
theorem dX3_spanOf_5 : decode cX3_spanOf 5 = .ok (.istore 4, 2) := by decide +kernel
theorem dX3_spanOf_7 : decode cX3_spanOf 7 = .ok (.iconst 0, 1) := by decide +kernel
theorem dX3_spanOf_8 : decode cX3_spanOf 8 = .ok (.istore 5, 2) := by decide +kernel
theorem dX3_spanOf_10 : decode cX3_spanOf 10 = .ok (.iload 5, 2) := by decide +kernel
theorem dX3_spanOf_12 : decode cX3_spanOf 12 = .ok (.aload_n 0, 1) := by decide +kernel
theorem dX3_spanOf_13 : decode cX3_spanOf 13 = .ok (.getfield 72, 3) := by decide +kernel
theorem dX3_spanOf_16 : decode cX3_spanOf 16 = .ok (.if_icmp .ge 80, 3) := by decide +kernel
theorem dX3_spanOf_19 : decode cX3_spanOf 19 = .ok (.aload_n 0, 1) := by decide +kernel
theorem dX3_spanOf_20 : decode cX3_spanOf 20 = .ok (.getfield 19, 3) := by decide +kernel
theorem dX3_spanOf_23 : decode cX3_spanOf 23 = .ok (.iload 5, 2) := by decide +kernel
theorem dX3_spanOf_25 : decode cX3_spanOf 25 = .ok (.iaload, 1) := by decide +kernel
theorem dX3_spanOf_26 : decode cX3_spanOf 26 = .ok (.iload_n 1, 1) := by decide +kernel
theorem dX3_spanOf_27 : decode cX3_spanOf 27 = .ok (.if_icmp .eq 6, 3) := by decide +kernel
theorem dX3_spanOf_30 : decode cX3_spanOf 30 = .ok (.goto 60, 3) := by decide +kernel
theorem dX3_spanOf_33 : decode cX3_spanOf 33 = .ok (.aload_n 0, 1) := by decide +kernel
theorem dX3_spanOf_34 : decode cX3_spanOf 34 = .ok (.getfield 45, 3) := by decide +kernel
theorem dX3_spanOf_37 : decode cX3_spanOf 37 = .ok (.iload_n 2, 1) := by decide +kernel
theorem dX3_spanOf_38 : decode cX3_spanOf 38 = .ok (.iload 5, 2) := by decide +kernel
theorem dX3_spanOf_40 : decode cX3_spanOf 40 = .ok (.iadd, 1) := by decide +kernel
theorem dX3_spanOf_41 : decode cX3_spanOf 41 = .ok (.iaload, 1) := by decide +kernel
theorem dX3_spanOf_42 : decode cX3_spanOf 42 = .ok (.iload_n 3, 1) := by decide +kernel
theorem dX3_spanOf_43 : decode cX3_spanOf 43 = .ok (.if_icmp .ge 15, 3) := by decide +kernel
theorem dX3_spanOf_46 : decode cX3_spanOf 46 = .ok (.aload_n 0, 1) := by decide +kernel
theorem dX3_spanOf_47 : decode cX3_spanOf 47 = .ok (.getfield 45, 3) := by decide +kernel
theorem dX3_spanOf_50 : decode cX3_spanOf 50 = .ok (.iload_n 2, 1) := by decide +kernel
theorem dX3_spanOf_51 : decode cX3_spanOf 51 = .ok (.iload 5, 2) := by decide +kernel
theorem dX3_spanOf_53 : decode cX3_spanOf 53 = .ok (.iadd, 1) := by decide +kernel
theorem dX3_spanOf_54 : decode cX3_spanOf 54 = .ok (.iaload, 1) := by decide +kernel
theorem dX3_spanOf_55 : decode cX3_spanOf 55 = .ok (.goto 4, 3) := by decide +kernel
theorem dX3_spanOf_58 : decode cX3_spanOf 58 = .ok (.iload_n 3, 1) := by decide +kernel
theorem dX3_spanOf_59 : decode cX3_spanOf 59 = .ok (.istore_n 3, 1) := by decide +kernel
theorem dX3_spanOf_60 : decode cX3_spanOf 60 = .ok (.aload_n 0, 1) := by decide +kernel
theorem dX3_spanOf_61 : decode cX3_spanOf 61 = .ok (.getfield 45, 3) := by decide +kernel
theorem dX3_spanOf_64 : decode cX3_spanOf 64 = .ok (.iload_n 2, 1) := by decide +kernel
theorem dX3_spanOf_65 : decode cX3_spanOf 65 = .ok (.iload 5, 2) := by decide +kernel
theorem dX3_spanOf_67 : decode cX3_spanOf 67 = .ok (.iadd, 1) := by decide +kernel
theorem dX3_spanOf_68 : decode cX3_spanOf 68 = .ok (.iaload, 1) := by decide +kernel
theorem dX3_spanOf_69 : decode cX3_spanOf 69 = .ok (.iload 4, 2) := by decide +kernel
theorem dX3_spanOf_71 : decode cX3_spanOf 71 = .ok (.if_icmp .le 15, 3) := by decide +kernel
theorem dX3_spanOf_74 : decode cX3_spanOf 74 = .ok (.aload_n 0, 1) := by decide +kernel
theorem dX3_spanOf_75 : decode cX3_spanOf 75 = .ok (.getfield 45, 3) := by decide +kernel
theorem dX3_spanOf_78 : decode cX3_spanOf 78 = .ok (.iload_n 2, 1) := by decide +kernel
theorem dX3_spanOf_79 : decode cX3_spanOf 79 = .ok (.iload 5, 2) := by decide +kernel
theorem dX3_spanOf_81 : decode cX3_spanOf 81 = .ok (.iadd, 1) := by decide +kernel
theorem dX3_spanOf_82 : decode cX3_spanOf 82 = .ok (.iaload, 1) := by decide +kernel
theorem dX3_spanOf_83 : decode cX3_spanOf 83 = .ok (.goto 5, 3) := by decide +kernel
theorem dX3_spanOf_86 : decode cX3_spanOf 86 = .ok (.iload 4, 2) := by decide +kernel
theorem dX3_spanOf_88 : decode cX3_spanOf 88 = .ok (.istore 4, 2) := by decide +kernel
theorem dX3_spanOf_90 : decode cX3_spanOf 90 = .ok (.iinc 5 1, 3) := by decide +kernel
theorem dX3_spanOf_93 : decode cX3_spanOf 93 = .ok (.goto (-83), 3) := by decide +kernel
theorem dX3_spanOf_96 : decode cX3_spanOf 96 = .ok (.iload 4, 2) := by decide +kernel
theorem dX3_spanOf_98 : decode cX3_spanOf 98 = .ok (.ifCond .ge 7, 3) := by decide +kernel
theorem dX3_spanOf_101 : decode cX3_spanOf 101 = .ok (.iconst (-1), 1) := by decide +kernel
theorem dX3_spanOf_102 : decode cX3_spanOf 102 = .ok (.goto 7, 3) := by decide +kernel
theorem dX3_spanOf_105 : decode cX3_spanOf 105 = .ok (.iload 4, 2) := by decide +kernel
theorem dX3_spanOf_107 : decode cX3_spanOf 107 = .ok (.iload_n 3, 1) := by decide +kernel
theorem dX3_spanOf_108 : decode cX3_spanOf 108 = .ok (.isub, 1) := by decide +kernel
theorem dX3_spanOf_109 : decode cX3_spanOf 109 = .ok (.ireturn, 1) := by decide +kernel
theorem dX3_save_0 : decode cX3_save 0 = .ok (.aload_n 0, 1) := by decide +kernel
theorem dX3_save_1 : decode cX3_save 1 = .ok (.aload_n 0, 1) := by decide +kernel
theorem dX3_save_2 : decode cX3_save 2 = .ok (.getfield 79, 3) := by decide +kernel
theorem dX3_save_5 : decode cX3_save 5 = .ok (.ifCond .eq 11, 3) := by decide +kernel
theorem dX3_save_8 : decode cX3_save 8 = .ok (.aload_n 0, 1) := by decide +kernel
theorem dX3_save_9 : decode cX3_save 9 = .ok (.getfield 83, 3) := by decide +kernel
theorem dX3_save_12 : decode cX3_save 12 = .ok (.iconst 4, 1) := by decide +kernel
theorem dX3_save_13 : decode cX3_save 13 = .ok (.if_icmp .ne 7, 3) := by decide +kernel
theorem dX3_save_16 : decode cX3_save 16 = .ok (.iconst 1, 1) := by decide +kernel
theorem dX3_save_17 : decode cX3_save 17 = .ok (.goto 4, 3) := by decide +kernel
theorem dX3_save_20 : decode cX3_save 20 = .ok (.iconst 0, 1) := by decide +kernel
theorem dX3_save_21 : decode cX3_save 21 = .ok (.iconst 0, 1) := by decide +kernel
theorem dX3_save_22 : decode cX3_save 22 = .ok (.iconst 0, 1) := by decide +kernel
theorem dX3_save_23 : decode cX3_save 23 = .ok (.invokevirtual 86, 3) := by decide +kernel
theorem dX3_save_26 : decode cX3_save 26 = .ok (.ifCond .eq 5, 3) := by decide +kernel
theorem dX3_save_29 : decode cX3_save 29 = .ok (.iconst 0, 1) := by decide +kernel
theorem dX3_save_30 : decode cX3_save 30 = .ok (.ireturn, 1) := by decide +kernel
theorem dX3_save_31 : decode cX3_save 31 = .ok (.iconst 0, 1) := by decide +kernel
theorem dX3_save_32 : decode cX3_save 32 = .ok (.istore_n 1, 1) := by decide +kernel
theorem dX3_save_33 : decode cX3_save 33 = .ok (.iload_n 1, 1) := by decide +kernel
theorem dX3_save_34 : decode cX3_save 34 = .ok (.bipush 32, 2) := by decide +kernel
theorem dX3_save_36 : decode cX3_save 36 = .ok (.if_icmp .ge 29, 3) := by decide +kernel
theorem dX3_save_39 : decode cX3_save 39 = .ok (.aload_n 0, 1) := by decide +kernel
theorem dX3_save_40 : decode cX3_save 40 = .ok (.getfield 48, 3) := by decide +kernel
theorem dX3_save_43 : decode cX3_save 43 = .ok (.bipush 32, 2) := by decide +kernel
theorem dX3_save_45 : decode cX3_save 45 = .ok (.aload_n 0, 1) := by decide +kernel
theorem dX3_save_46 : decode cX3_save 46 = .ok (.getfield 83, 3) := by decide +kernel
theorem dX3_save_49 : decode cX3_save 49 = .ok (.imul, 1) := by decide +kernel
theorem dX3_save_50 : decode cX3_save 50 = .ok (.iload_n 1, 1) := by decide +kernel
theorem dX3_save_51 : decode cX3_save 51 = .ok (.iadd, 1) := by decide +kernel
theorem dX3_save_52 : decode cX3_save 52 = .ok (.aload_n 0, 1) := by decide +kernel
theorem dX3_save_53 : decode cX3_save 53 = .ok (.getfield 38, 3) := by decide +kernel
theorem dX3_save_56 : decode cX3_save 56 = .ok (.iload_n 1, 1) := by decide +kernel
theorem dX3_save_57 : decode cX3_save 57 = .ok (.iaload, 1) := by decide +kernel
theorem dX3_save_58 : decode cX3_save 58 = .ok (.iastore, 1) := by decide +kernel
theorem dX3_save_59 : decode cX3_save 59 = .ok (.iinc 1 1, 3) := by decide +kernel
theorem dX3_save_62 : decode cX3_save 62 = .ok (.goto (-29), 3) := by decide +kernel
theorem dX3_save_65 : decode cX3_save 65 = .ok (.iconst 0, 1) := by decide +kernel
theorem dX3_save_66 : decode cX3_save 66 = .ok (.istore_n 1, 1) := by decide +kernel
theorem dX3_save_67 : decode cX3_save 67 = .ok (.iload_n 1, 1) := by decide +kernel
theorem dX3_save_68 : decode cX3_save 68 = .ok (.iconst 4, 1) := by decide +kernel
theorem dX3_save_69 : decode cX3_save 69 = .ok (.if_icmp .ge 28, 3) := by decide +kernel
theorem dX3_save_72 : decode cX3_save 72 = .ok (.aload_n 0, 1) := by decide +kernel
theorem dX3_save_73 : decode cX3_save 73 = .ok (.getfield 51, 3) := by decide +kernel
theorem dX3_save_76 : decode cX3_save 76 = .ok (.iconst 4, 1) := by decide +kernel
theorem dX3_save_77 : decode cX3_save 77 = .ok (.aload_n 0, 1) := by decide +kernel
theorem dX3_save_78 : decode cX3_save 78 = .ok (.getfield 83, 3) := by decide +kernel
theorem dX3_save_81 : decode cX3_save 81 = .ok (.imul, 1) := by decide +kernel
theorem dX3_save_82 : decode cX3_save 82 = .ok (.iload_n 1, 1) := by decide +kernel
theorem dX3_save_83 : decode cX3_save 83 = .ok (.iadd, 1) := by decide +kernel
theorem dX3_save_84 : decode cX3_save 84 = .ok (.aload_n 0, 1) := by decide +kernel
theorem dX3_save_85 : decode cX3_save 85 = .ok (.getfield 41, 3) := by decide +kernel
theorem dX3_save_88 : decode cX3_save 88 = .ok (.iload_n 1, 1) := by decide +kernel
theorem dX3_save_89 : decode cX3_save 89 = .ok (.laload, 1) := by decide +kernel
theorem dX3_save_90 : decode cX3_save 90 = .ok (.lastore, 1) := by decide +kernel
theorem dX3_save_91 : decode cX3_save 91 = .ok (.iinc 1 1, 3) := by decide +kernel
theorem dX3_save_94 : decode cX3_save 94 = .ok (.goto (-27), 3) := by decide +kernel
theorem dX3_save_97 : decode cX3_save 97 = .ok (.iconst 0, 1) := by decide +kernel
theorem dX3_save_98 : decode cX3_save 98 = .ok (.istore_n 1, 1) := by decide +kernel
theorem dX3_save_99 : decode cX3_save 99 = .ok (.iload_n 1, 1) := by decide +kernel
theorem dX3_save_100 : decode cX3_save 100 = .ok (.sipush 1920, 3) := by decide +kernel
theorem dX3_save_103 : decode cX3_save 103 = .ok (.if_icmp .ge 30, 3) := by decide +kernel
theorem dX3_save_106 : decode cX3_save 106 = .ok (.aload_n 0, 1) := by decide +kernel
theorem dX3_save_107 : decode cX3_save 107 = .ok (.getfield 54, 3) := by decide +kernel
theorem dX3_save_110 : decode cX3_save 110 = .ok (.sipush 1920, 3) := by decide +kernel
theorem dX3_save_113 : decode cX3_save 113 = .ok (.aload_n 0, 1) := by decide +kernel
theorem dX3_save_114 : decode cX3_save 114 = .ok (.getfield 83, 3) := by decide +kernel
theorem dX3_save_117 : decode cX3_save 117 = .ok (.imul, 1) := by decide +kernel
theorem dX3_save_118 : decode cX3_save 118 = .ok (.iload_n 1, 1) := by decide +kernel
theorem dX3_save_119 : decode cX3_save 119 = .ok (.iadd, 1) := by decide +kernel
theorem dX3_save_120 : decode cX3_save 120 = .ok (.aload_n 0, 1) := by decide +kernel
theorem dX3_save_121 : decode cX3_save 121 = .ok (.getfield 45, 3) := by decide +kernel
theorem dX3_save_124 : decode cX3_save 124 = .ok (.iload_n 1, 1) := by decide +kernel
theorem dX3_save_125 : decode cX3_save 125 = .ok (.iaload, 1) := by decide +kernel
theorem dX3_save_126 : decode cX3_save 126 = .ok (.iastore, 1) := by decide +kernel
theorem dX3_save_127 : decode cX3_save 127 = .ok (.iinc 1 1, 3) := by decide +kernel
theorem dX3_save_130 : decode cX3_save 130 = .ok (.goto (-31), 3) := by decide +kernel
theorem dX3_save_133 : decode cX3_save 133 = .ok (.aload_n 0, 1) := by decide +kernel
theorem dX3_save_134 : decode cX3_save 134 = .ok (.getfield 57, 3) := by decide +kernel
theorem dX3_save_137 : decode cX3_save 137 = .ok (.aload_n 0, 1) := by decide +kernel
theorem dX3_save_138 : decode cX3_save 138 = .ok (.getfield 83, 3) := by decide +kernel
theorem dX3_save_141 : decode cX3_save 141 = .ok (.aload_n 0, 1) := by decide +kernel
theorem dX3_save_142 : decode cX3_save 142 = .ok (.getfield 120, 3) := by decide +kernel
theorem dX3_save_145 : decode cX3_save 145 = .ok (.iastore, 1) := by decide +kernel
theorem dX3_save_146 : decode cX3_save 146 = .ok (.aload_n 0, 1) := by decide +kernel
theorem dX3_save_147 : decode cX3_save 147 = .ok (.getfield 60, 3) := by decide +kernel
theorem dX3_save_150 : decode cX3_save 150 = .ok (.aload_n 0, 1) := by decide +kernel
theorem dX3_save_151 : decode cX3_save 151 = .ok (.getfield 83, 3) := by decide +kernel
theorem dX3_save_154 : decode cX3_save 154 = .ok (.aload_n 0, 1) := by decide +kernel
theorem dX3_save_155 : decode cX3_save 155 = .ok (.getfield 117, 3) := by decide +kernel
theorem dX3_save_158 : decode cX3_save 158 = .ok (.iastore, 1) := by decide +kernel
theorem dX3_save_159 : decode cX3_save 159 = .ok (.aload_n 0, 1) := by decide +kernel
theorem dX3_save_160 : decode cX3_save 160 = .ok (.dup, 1) := by decide +kernel
theorem dX3_save_161 : decode cX3_save 161 = .ok (.getfield 83, 3) := by decide +kernel
theorem dX3_save_164 : decode cX3_save 164 = .ok (.iconst 1, 1) := by decide +kernel
theorem dX3_save_165 : decode cX3_save 165 = .ok (.iadd, 1) := by decide +kernel
theorem dX3_save_166 : decode cX3_save 166 = .ok (.putfield 83, 3) := by decide +kernel
theorem dX3_save_169 : decode cX3_save 169 = .ok (.aload_n 0, 1) := by decide +kernel
theorem dX3_save_170 : decode cX3_save 170 = .ok (.getfield 83, 3) := by decide +kernel
theorem dX3_save_173 : decode cX3_save 173 = .ok (.iconst 1, 1) := by decide +kernel
theorem dX3_save_174 : decode cX3_save 174 = .ok (.isub, 1) := by decide +kernel
theorem dX3_save_175 : decode cX3_save 175 = .ok (.ireturn, 1) := by decide +kernel
theorem dX3_back_0 : decode cX3_back 0 = .ok (.aload_n 0, 1) := by decide +kernel
theorem dX3_back_1 : decode cX3_back 1 = .ok (.iload_n 1, 1) := by decide +kernel
theorem dX3_back_2 : decode cX3_back 2 = .ok (.iconst 0, 1) := by decide +kernel
theorem dX3_back_3 : decode cX3_back 3 = .ok (.aload_n 0, 1) := by decide +kernel
theorem dX3_back_4 : decode cX3_back 4 = .ok (.getfield 83, 3) := by decide +kernel
theorem dX3_back_7 : decode cX3_back 7 = .ok (.iconst 1, 1) := by decide +kernel
theorem dX3_back_8 : decode cX3_back 8 = .ok (.isub, 1) := by decide +kernel
theorem dX3_back_9 : decode cX3_back 9 = .ok (.invokestatic 75, 3) := by decide +kernel
theorem dX3_back_12 : decode cX3_back 12 = .ok (.ifCond .ne 7, 3) := by decide +kernel
theorem dX3_back_15 : decode cX3_back 15 = .ok (.iconst 1, 1) := by decide +kernel
theorem dX3_back_16 : decode cX3_back 16 = .ok (.goto 4, 3) := by decide +kernel
theorem dX3_back_19 : decode cX3_back 19 = .ok (.iconst 0, 1) := by decide +kernel
theorem dX3_back_20 : decode cX3_back 20 = .ok (.iconst 0, 1) := by decide +kernel
theorem dX3_back_21 : decode cX3_back 21 = .ok (.iconst 0, 1) := by decide +kernel
theorem dX3_back_22 : decode cX3_back 22 = .ok (.invokevirtual 86, 3) := by decide +kernel
theorem dX3_back_25 : decode cX3_back 25 = .ok (.ifCond .eq 5, 3) := by decide +kernel
theorem dX3_back_28 : decode cX3_back 28 = .ok (.iconst 0, 1) := by decide +kernel
theorem dX3_back_29 : decode cX3_back 29 = .ok (.ireturn, 1) := by decide +kernel
theorem dX3_back_30 : decode cX3_back 30 = .ok (.iconst 0, 1) := by decide +kernel
theorem dX3_back_31 : decode cX3_back 31 = .ok (.istore_n 2, 1) := by decide +kernel
theorem dX3_back_32 : decode cX3_back 32 = .ok (.iload_n 2, 1) := by decide +kernel
theorem dX3_back_33 : decode cX3_back 33 = .ok (.bipush 32, 2) := by decide +kernel
theorem dX3_back_35 : decode cX3_back 35 = .ok (.if_icmp .ge 26, 3) := by decide +kernel
theorem dX3_back_38 : decode cX3_back 38 = .ok (.aload_n 0, 1) := by decide +kernel
theorem dX3_back_39 : decode cX3_back 39 = .ok (.getfield 38, 3) := by decide +kernel
theorem dX3_back_42 : decode cX3_back 42 = .ok (.iload_n 2, 1) := by decide +kernel
theorem dX3_back_43 : decode cX3_back 43 = .ok (.aload_n 0, 1) := by decide +kernel
theorem dX3_back_44 : decode cX3_back 44 = .ok (.getfield 48, 3) := by decide +kernel
theorem dX3_back_47 : decode cX3_back 47 = .ok (.bipush 32, 2) := by decide +kernel
theorem dX3_back_49 : decode cX3_back 49 = .ok (.iload_n 1, 1) := by decide +kernel
theorem dX3_back_50 : decode cX3_back 50 = .ok (.imul, 1) := by decide +kernel
theorem dX3_back_51 : decode cX3_back 51 = .ok (.iload_n 2, 1) := by decide +kernel
theorem dX3_back_52 : decode cX3_back 52 = .ok (.iadd, 1) := by decide +kernel
theorem dX3_back_53 : decode cX3_back 53 = .ok (.iaload, 1) := by decide +kernel
theorem dX3_back_54 : decode cX3_back 54 = .ok (.iastore, 1) := by decide +kernel
theorem dX3_back_55 : decode cX3_back 55 = .ok (.iinc 2 1, 3) := by decide +kernel
theorem dX3_back_58 : decode cX3_back 58 = .ok (.goto (-26), 3) := by decide +kernel
theorem dX3_back_61 : decode cX3_back 61 = .ok (.iconst 0, 1) := by decide +kernel
theorem dX3_back_62 : decode cX3_back 62 = .ok (.istore_n 2, 1) := by decide +kernel
theorem dX3_back_63 : decode cX3_back 63 = .ok (.iload_n 2, 1) := by decide +kernel
theorem dX3_back_64 : decode cX3_back 64 = .ok (.iconst 4, 1) := by decide +kernel
theorem dX3_back_65 : decode cX3_back 65 = .ok (.if_icmp .ge 25, 3) := by decide +kernel
theorem dX3_back_68 : decode cX3_back 68 = .ok (.aload_n 0, 1) := by decide +kernel
theorem dX3_back_69 : decode cX3_back 69 = .ok (.getfield 41, 3) := by decide +kernel
theorem dX3_back_72 : decode cX3_back 72 = .ok (.iload_n 2, 1) := by decide +kernel
theorem dX3_back_73 : decode cX3_back 73 = .ok (.aload_n 0, 1) := by decide +kernel
theorem dX3_back_74 : decode cX3_back 74 = .ok (.getfield 51, 3) := by decide +kernel
theorem dX3_back_77 : decode cX3_back 77 = .ok (.iconst 4, 1) := by decide +kernel
theorem dX3_back_78 : decode cX3_back 78 = .ok (.iload_n 1, 1) := by decide +kernel
theorem dX3_back_79 : decode cX3_back 79 = .ok (.imul, 1) := by decide +kernel
theorem dX3_back_80 : decode cX3_back 80 = .ok (.iload_n 2, 1) := by decide +kernel
theorem dX3_back_81 : decode cX3_back 81 = .ok (.iadd, 1) := by decide +kernel
theorem dX3_back_82 : decode cX3_back 82 = .ok (.laload, 1) := by decide +kernel
theorem dX3_back_83 : decode cX3_back 83 = .ok (.lastore, 1) := by decide +kernel
theorem dX3_back_84 : decode cX3_back 84 = .ok (.iinc 2 1, 3) := by decide +kernel
theorem dX3_back_87 : decode cX3_back 87 = .ok (.goto (-24), 3) := by decide +kernel
theorem dX3_back_90 : decode cX3_back 90 = .ok (.iconst 0, 1) := by decide +kernel
theorem dX3_back_91 : decode cX3_back 91 = .ok (.istore_n 2, 1) := by decide +kernel
theorem dX3_back_92 : decode cX3_back 92 = .ok (.iload_n 2, 1) := by decide +kernel
theorem dX3_back_93 : decode cX3_back 93 = .ok (.sipush 1920, 3) := by decide +kernel
theorem dX3_back_96 : decode cX3_back 96 = .ok (.if_icmp .ge 27, 3) := by decide +kernel
theorem dX3_back_99 : decode cX3_back 99 = .ok (.aload_n 0, 1) := by decide +kernel
theorem dX3_back_100 : decode cX3_back 100 = .ok (.getfield 45, 3) := by decide +kernel
theorem dX3_back_103 : decode cX3_back 103 = .ok (.iload_n 2, 1) := by decide +kernel
theorem dX3_back_104 : decode cX3_back 104 = .ok (.aload_n 0, 1) := by decide +kernel
theorem dX3_back_105 : decode cX3_back 105 = .ok (.getfield 54, 3) := by decide +kernel
theorem dX3_back_108 : decode cX3_back 108 = .ok (.sipush 1920, 3) := by decide +kernel
theorem dX3_back_111 : decode cX3_back 111 = .ok (.iload_n 1, 1) := by decide +kernel
theorem dX3_back_112 : decode cX3_back 112 = .ok (.imul, 1) := by decide +kernel
theorem dX3_back_113 : decode cX3_back 113 = .ok (.iload_n 2, 1) := by decide +kernel
theorem dX3_back_114 : decode cX3_back 114 = .ok (.iadd, 1) := by decide +kernel
theorem dX3_back_115 : decode cX3_back 115 = .ok (.iaload, 1) := by decide +kernel
theorem dX3_back_116 : decode cX3_back 116 = .ok (.iastore, 1) := by decide +kernel
theorem dX3_back_117 : decode cX3_back 117 = .ok (.iinc 2 1, 3) := by decide +kernel
theorem dX3_back_120 : decode cX3_back 120 = .ok (.goto (-28), 3) := by decide +kernel
theorem dX3_back_123 : decode cX3_back 123 = .ok (.aload_n 0, 1) := by decide +kernel
theorem dX3_back_124 : decode cX3_back 124 = .ok (.aload_n 0, 1) := by decide +kernel
theorem dX3_back_125 : decode cX3_back 125 = .ok (.getfield 57, 3) := by decide +kernel
theorem dX3_back_128 : decode cX3_back 128 = .ok (.iload_n 1, 1) := by decide +kernel
theorem dX3_back_129 : decode cX3_back 129 = .ok (.iaload, 1) := by decide +kernel
theorem dX3_back_130 : decode cX3_back 130 = .ok (.putfield 120, 3) := by decide +kernel
theorem dX3_back_133 : decode cX3_back 133 = .ok (.aload_n 0, 1) := by decide +kernel
theorem dX3_back_134 : decode cX3_back 134 = .ok (.aload_n 0, 1) := by decide +kernel
theorem dX3_back_135 : decode cX3_back 135 = .ok (.getfield 60, 3) := by decide +kernel
theorem dX3_back_138 : decode cX3_back 138 = .ok (.iload_n 1, 1) := by decide +kernel
theorem dX3_back_139 : decode cX3_back 139 = .ok (.iaload, 1) := by decide +kernel
theorem dX3_back_140 : decode cX3_back 140 = .ok (.putfield 117, 3) := by decide +kernel
theorem dX3_back_143 : decode cX3_back 143 = .ok (.aload_n 0, 1) := by decide +kernel
theorem dX3_back_144 : decode cX3_back 144 = .ok (.iconst 1, 1) := by decide +kernel
theorem dX3_back_145 : decode cX3_back 145 = .ok (.putfield 79, 3) := by decide +kernel
theorem dX3_back_148 : decode cX3_back 148 = .ok (.aload_n 0, 1) := by decide +kernel
theorem dX3_back_149 : decode cX3_back 149 = .ok (.getfield 120, 3) := by decide +kernel
theorem dX3_back_152 : decode cX3_back 152 = .ok (.ireturn, 1) := by decide +kernel
theorem dX3_count_0 : decode cX3_count 0 = .ok (.aload_n 0, 1) := by decide +kernel
theorem dX3_count_1 : decode cX3_count 1 = .ok (.iload_n 1, 1) := by decide +kernel
theorem dX3_count_2 : decode cX3_count 2 = .ok (.iconst 0, 1) := by decide +kernel
theorem dX3_count_3 : decode cX3_count 3 = .ok (.iconst 5, 1) := by decide +kernel
theorem dX3_count_4 : decode cX3_count 4 = .ok (.invokestatic 75, 3) := by decide +kernel
theorem dX3_count_7 : decode cX3_count 7 = .ok (.ifCond .ne 7, 3) := by decide +kernel
theorem dX3_count_10 : decode cX3_count 10 = .ok (.iconst 1, 1) := by decide +kernel
theorem dX3_count_11 : decode cX3_count 11 = .ok (.goto 4, 3) := by decide +kernel
theorem dX3_count_14 : decode cX3_count 14 = .ok (.iconst 0, 1) := by decide +kernel
theorem dX3_count_15 : decode cX3_count 15 = .ok (.iconst 0, 1) := by decide +kernel
theorem dX3_count_16 : decode cX3_count 16 = .ok (.iconst 0, 1) := by decide +kernel
theorem dX3_count_17 : decode cX3_count 17 = .ok (.invokevirtual 86, 3) := by decide +kernel
theorem dX3_count_20 : decode cX3_count 20 = .ok (.ifCond .eq 5, 3) := by decide +kernel
theorem dX3_count_23 : decode cX3_count 23 = .ok (.iconst 0, 1) := by decide +kernel
theorem dX3_count_24 : decode cX3_count 24 = .ok (.ireturn, 1) := by decide +kernel
theorem dX3_count_25 : decode cX3_count 25 = .ok (.iload_n 1, 1) := by decide +kernel
theorem dX3_count_26 : decode cX3_count 26 = .ok (.tableswitch 81 0 4 #[34, 39, 44, 49, 65], 34) := by decide +kernel
theorem dX3_count_60 : decode cX3_count 60 = .ok (.aload_n 0, 1) := by decide +kernel
theorem dX3_count_61 : decode cX3_count 61 = .ok (.getfield 72, 3) := by decide +kernel
theorem dX3_count_64 : decode cX3_count 64 = .ok (.ireturn, 1) := by decide +kernel
theorem dX3_count_65 : decode cX3_count 65 = .ok (.aload_n 0, 1) := by decide +kernel
theorem dX3_count_66 : decode cX3_count 66 = .ok (.getfield 105, 3) := by decide +kernel
theorem dX3_count_69 : decode cX3_count 69 = .ok (.ireturn, 1) := by decide +kernel
theorem dX3_count_70 : decode cX3_count 70 = .ok (.aload_n 0, 1) := by decide +kernel
theorem dX3_count_71 : decode cX3_count 71 = .ok (.getfield 66, 3) := by decide +kernel
theorem dX3_count_74 : decode cX3_count 74 = .ok (.ireturn, 1) := by decide +kernel
theorem dX3_count_75 : decode cX3_count 75 = .ok (.aload_n 0, 1) := by decide +kernel
theorem dX3_count_76 : decode cX3_count 76 = .ok (.getfield 79, 3) := by decide +kernel
theorem dX3_count_79 : decode cX3_count 79 = .ok (.ifCond .eq 10, 3) := by decide +kernel
theorem dX3_count_82 : decode cX3_count 82 = .ok (.aload_n 0, 1) := by decide +kernel
theorem dX3_count_83 : decode cX3_count 83 = .ok (.getfield 120, 3) := by decide +kernel
theorem dX3_count_86 : decode cX3_count 86 = .ok (.goto 4, 3) := by decide +kernel
theorem dX3_count_89 : decode cX3_count 89 = .ok (.iconst 0, 1) := by decide +kernel
theorem dX3_count_90 : decode cX3_count 90 = .ok (.ireturn, 1) := by decide +kernel
theorem dX3_count_91 : decode cX3_count 91 = .ok (.aload_n 0, 1) := by decide +kernel
theorem dX3_count_92 : decode cX3_count 92 = .ok (.getfield 79, 3) := by decide +kernel
theorem dX3_count_95 : decode cX3_count 95 = .ok (.ifCond .eq 10, 3) := by decide +kernel
theorem dX3_count_98 : decode cX3_count 98 = .ok (.aload_n 0, 1) := by decide +kernel
theorem dX3_count_99 : decode cX3_count 99 = .ok (.getfield 117, 3) := by decide +kernel
theorem dX3_count_102 : decode cX3_count 102 = .ok (.goto 4, 3) := by decide +kernel
theorem dX3_count_105 : decode cX3_count 105 = .ok (.iconst 0, 1) := by decide +kernel
theorem dX3_count_106 : decode cX3_count 106 = .ok (.ireturn, 1) := by decide +kernel
theorem dX3_count_107 : decode cX3_count 107 = .ok (.aload_n 0, 1) := by decide +kernel
theorem dX3_count_108 : decode cX3_count 108 = .ok (.getfield 83, 3) := by decide +kernel
theorem dX3_count_111 : decode cX3_count 111 = .ok (.ireturn, 1) := by decide +kernel
