theorem d_World_fix_25 : decode prog_8_method_8_code 25 = .ok (.goto 15, 3) := by decide +kernel
theorem d_World_fix_28 : decode prog_8_method_8_code 28 = .ok (.iload 6, 2) := by decide +kernel
theorem d_World_fix_30 : decode prog_8_method_8_code 30 = .ok (.iconst 1, 1) := by decide +kernel
theorem d_World_fix_31 : decode prog_8_method_8_code 31 = .ok (.if_icmp .ne 7, 3) := by decide +kernel
theorem d_World_fix_34 : decode prog_8_method_8_code 34 = .ok (.iload_n 3, 1) := by decide +kernel
theorem d_World_fix_35 : decode prog_8_method_8_code 35 = .ok (.goto 5, 3) := by decide +kernel
theorem d_World_fix_38 : decode prog_8_method_8_code 38 = .ok (.iload 4, 2) := by decide +kernel
theorem d_World_fix_40 : decode prog_8_method_8_code 40 = .ok (.iload 5, 2) := by decide +kernel
theorem d_World_fix_42 : decode prog_8_method_8_code 42 = .ok (.invokevirtual 51, 3) := by decide +kernel
theorem d_World_fix_45 : decode prog_8_method_8_code 45 = .ok (.istore 5, 2) := by decide +kernel
theorem d_World_fix_47 : decode prog_8_method_8_code 47 = .ok (.iinc 6 (-1), 3) := by decide +kernel
theorem d_World_fix_50 : decode prog_8_method_8_code 50 = .ok (.goto (-37), 3) := by decide +kernel
theorem d_World_fix_53 : decode prog_8_method_8_code 53 = .ok (.aload_n 0, 1) := by decide +kernel
theorem d_World_fix_54 : decode prog_8_method_8_code 54 = .ok (.getfield 31, 3) := by decide +kernel
theorem d_World_fix_57 : decode prog_8_method_8_code 57 = .ok (.bipush 16, 2) := by decide +kernel
theorem d_World_fix_59 : decode prog_8_method_8_code 59 = .ok (.imul, 1) := by decide +kernel
theorem d_World_fix_60 : decode prog_8_method_8_code 60 = .ok (.istore 6, 2) := by decide +kernel
theorem d_World_fix_62 : decode prog_8_method_8_code 62 = .ok (.aload_n 0, 1) := by decide +kernel
theorem d_World_fix_63 : decode prog_8_method_8_code 63 = .ok (.getfield 18, 3) := by decide +kernel
theorem d_World_fix_66 : decode prog_8_method_8_code 66 = .ok (.iload 6, 2) := by decide +kernel
theorem d_World_fix_68 : decode prog_8_method_8_code 68 = .ok (.aload_n 0, 1) := by decide +kernel
theorem d_World_fix_69 : decode prog_8_method_8_code 69 = .ok (.getfield 31, 3) := by decide +kernel
theorem d_World_fix_72 : decode prog_8_method_8_code 72 = .ok (.iastore, 1) := by decide +kernel
theorem d_World_fix_73 : decode prog_8_method_8_code 73 = .ok (.iconst 0, 1) := by decide +kernel
theorem d_World_fix_74 : decode prog_8_method_8_code 74 = .ok (.istore 7, 2) := by decide +kernel
theorem d_World_fix_76 : decode prog_8_method_8_code 76 = .ok (.iload 7, 2) := by decide +kernel
theorem d_World_fix_78 : decode prog_8_method_8_code 78 = .ok (.aload_n 0, 1) := by decide +kernel
theorem d_World_fix_79 : decode prog_8_method_8_code 79 = .ok (.getfield 48, 3) := by decide +kernel
theorem d_World_fix_82 : decode prog_8_method_8_code 82 = .ok (.if_icmp .ge 35, 3) := by decide +kernel
theorem d_World_fix_85 : decode prog_8_method_8_code 85 = .ok (.aload_n 0, 1) := by decide +kernel
theorem d_World_fix_86 : decode prog_8_method_8_code 86 = .ok (.getfield 18, 3) := by decide +kernel
theorem d_World_fix_89 : decode prog_8_method_8_code 89 = .ok (.iload 6, 2) := by decide +kernel
theorem d_World_fix_91 : decode prog_8_method_8_code 91 = .ok (.iconst 1, 1) := by decide +kernel
theorem d_World_fix_92 : decode prog_8_method_8_code 92 = .ok (.iadd, 1) := by decide +kernel
theorem d_World_fix_93 : decode prog_8_method_8_code 93 = .ok (.iload 7, 2) := by decide +kernel
theorem d_World_fix_95 : decode prog_8_method_8_code 95 = .ok (.iadd, 1) := by decide +kernel
theorem d_World_fix_96 : decode prog_8_method_8_code 96 = .ok (.aload_n 0, 1) := by decide +kernel
theorem d_World_fix_97 : decode prog_8_method_8_code 97 = .ok (.getfield 25, 3) := by decide +kernel
theorem d_World_fix_100 : decode prog_8_method_8_code 100 = .ok (.aload_n 0, 1) := by decide +kernel
theorem d_World_fix_101 : decode prog_8_method_8_code 101 = .ok (.getfield 48, 3) := by decide +kernel
theorem d_World_fix_104 : decode prog_8_method_8_code 104 = .ok (.iconst 1, 1) := by decide +kernel
theorem d_World_fix_105 : decode prog_8_method_8_code 105 = .ok (.isub, 1) := by decide +kernel
theorem d_World_fix_106 : decode prog_8_method_8_code 106 = .ok (.iload 7, 2) := by decide +kernel
theorem d_World_fix_108 : decode prog_8_method_8_code 108 = .ok (.isub, 1) := by decide +kernel
theorem d_World_fix_109 : decode prog_8_method_8_code 109 = .ok (.iaload, 1) := by decide +kernel
theorem d_World_fix_110 : decode prog_8_method_8_code 110 = .ok (.iastore, 1) := by decide +kernel
theorem d_World_fix_111 : decode prog_8_method_8_code 111 = .ok (.iinc 7 1, 3) := by decide +kernel
theorem d_World_fix_114 : decode prog_8_method_8_code 114 = .ok (.goto (-38), 3) := by decide +kernel
theorem d_World_fix_117 : decode prog_8_method_8_code 117 = .ok (.aload_n 0, 1) := by decide +kernel
theorem d_World_fix_118 : decode prog_8_method_8_code 118 = .ok (.getfield 22, 3) := by decide +kernel
theorem d_World_fix_121 : decode prog_8_method_8_code 121 = .ok (.aload_n 0, 1) := by decide +kernel
theorem d_World_fix_122 : decode prog_8_method_8_code 122 = .ok (.getfield 31, 3) := by decide +kernel
theorem d_World_fix_125 : decode prog_8_method_8_code 125 = .ok (.aload_n 0, 1) := by decide +kernel
theorem d_World_fix_126 : decode prog_8_method_8_code 126 = .ok (.getfield 48, 3) := by decide +kernel
theorem d_World_fix_129 : decode prog_8_method_8_code 129 = .ok (.iconst 1, 1) := by decide +kernel
theorem d_World_fix_130 : decode prog_8_method_8_code 130 = .ok (.iadd, 1) := by decide +kernel
theorem d_World_fix_131 : decode prog_8_method_8_code 131 = .ok (.iastore, 1) := by decide +kernel
theorem d_World_fix_132 : decode prog_8_method_8_code 132 = .ok (.aload_n 0, 1) := by decide +kernel
theorem d_World_fix_133 : decode prog_8_method_8_code 133 = .ok (.dup, 1) := by decide +kernel
theorem d_World_fix_134 : decode prog_8_method_8_code 134 = .ok (.getfield 31, 3) := by decide +kernel
theorem d_World_fix_137 : decode prog_8_method_8_code 137 = .ok (.iconst 1, 1) := by decide +kernel
theorem d_World_fix_138 : decode prog_8_method_8_code 138 = .ok (.iadd, 1) := by decide +kernel
theorem d_World_fix_139 : decode prog_8_method_8_code 139 = .ok (.putfield 31, 3) := by decide +kernel
theorem d_World_fix_142 : decode prog_8_method_8_code 142 = .ok (.aload_n 0, 1) := by decide +kernel
theorem d_World_fix_143 : decode prog_8_method_8_code 143 = .ok (.getfield 31, 3) := by decide +kernel
theorem d_World_fix_146 : decode prog_8_method_8_code 146 = .ok (.iconst 1, 1) := by decide +kernel
theorem d_World_fix_147 : decode prog_8_method_8_code 147 = .ok (.isub, 1) := by decide +kernel
theorem d_World_fix_148 : decode prog_8_method_8_code 148 = .ok (.ireturn, 1) := by decide +kernel
theorem d_World_forgetReached_0 : decode prog_8_method_18_code 0 = .ok (.aload_n 0, 1) := by decide +kernel
theorem d_World_forgetReached_1 : decode prog_8_method_18_code 1 = .ok (.iconst 0, 1) := by decide +kernel
theorem d_World_forgetReached_2 : decode prog_8_method_18_code 2 = .ok (.putfield 85, 3) := by decide +kernel
theorem d_World_forgetReached_5 : decode prog_8_method_18_code 5 = .ok (.aload_n 0, 1) := by decide +kernel
theorem d_World_forgetReached_6 : decode prog_8_method_18_code 6 = .ok (.iconst 0, 1) := by decide +kernel
theorem d_World_forgetReached_7 : decode prog_8_method_18_code 7 = .ok (.putfield 88, 3) := by decide +kernel
theorem d_World_forgetReached_10 : decode prog_8_method_18_code 10 = .ok (.return_, 1) := by decide +kernel
theorem d_World_gather_0 : decode prog_8_method_9_code 0 = .ok (.iload_n 2, 1) := by decide +kernel
theorem d_World_gather_1 : decode prog_8_method_9_code 1 = .ok (.istore_n 3, 1) := by decide +kernel
theorem d_World_gather_2 : decode prog_8_method_9_code 2 = .ok (.aload_n 0, 1) := by decide +kernel
theorem d_World_gather_3 : decode prog_8_method_9_code 3 = .ok (.getfield 22, 3) := by decide +kernel
theorem d_World_gather_6 : decode prog_8_method_9_code 6 = .ok (.iload_n 1, 1) := by decide +kernel
theorem d_World_gather_7 : decode prog_8_method_9_code 7 = .ok (.iaload, 1) := by decide +kernel
theorem d_World_gather_8 : decode prog_8_method_9_code 8 = .ok (.iconst 1, 1) := by decide +kernel
theorem d_World_gather_9 : decode prog_8_method_9_code 9 = .ok (.isub, 1) := by decide +kernel
theorem d_World_gather_10 : decode prog_8_method_9_code 10 = .ok (.istore 4, 2) := by decide +kernel
theorem d_World_gather_12 : decode prog_8_method_9_code 12 = .ok (.iload 4, 2) := by decide +kernel
theorem d_World_gather_14 : decode prog_8_method_9_code 14 = .ok (.ifCond .lt 60, 3) := by decide +kernel
theorem d_World_gather_17 : decode prog_8_method_9_code 17 = .ok (.aload_n 0, 1) := by decide +kernel
theorem d_World_gather_18 : decode prog_8_method_9_code 18 = .ok (.getfield 18, 3) := by decide +kernel
theorem d_World_gather_21 : decode prog_8_method_9_code 21 = .ok (.iload_n 1, 1) := by decide +kernel
theorem d_World_gather_22 : decode prog_8_method_9_code 22 = .ok (.bipush 16, 2) := by decide +kernel
theorem d_World_gather_24 : decode prog_8_method_9_code 24 = .ok (.imul, 1) := by decide +kernel
theorem d_World_gather_25 : decode prog_8_method_9_code 25 = .ok (.iload 4, 2) := by decide +kernel
theorem d_World_gather_27 : decode prog_8_method_9_code 27 = .ok (.iadd, 1) := by decide +kernel
theorem d_World_gather_28 : decode prog_8_method_9_code 28 = .ok (.iaload, 1) := by decide +kernel
theorem d_World_gather_29 : decode prog_8_method_9_code 29 = .ok (.istore 5, 2) := by decide +kernel
theorem d_World_gather_31 : decode prog_8_method_9_code 31 = .ok (.iload_n 3, 1) := by decide +kernel
theorem d_World_gather_32 : decode prog_8_method_9_code 32 = .ok (.iload 5, 2) := by decide +kernel
theorem d_World_gather_34 : decode prog_8_method_9_code 34 = .ok (.iushr, 1) := by decide +kernel
theorem d_World_gather_35 : decode prog_8_method_9_code 35 = .ok (.iconst 1, 1) := by decide +kernel
theorem d_World_gather_36 : decode prog_8_method_9_code 36 = .ok (.iand, 1) := by decide +kernel
theorem d_World_gather_37 : decode prog_8_method_9_code 37 = .ok (.ifCond .ne 31, 3) := by decide +kernel
theorem d_World_gather_40 : decode prog_8_method_9_code 40 = .ok (.iload_n 3, 1) := by decide +kernel
theorem d_World_gather_41 : decode prog_8_method_9_code 41 = .ok (.iconst 1, 1) := by decide +kernel
theorem d_World_gather_42 : decode prog_8_method_9_code 42 = .ok (.iload 5, 2) := by decide +kernel
theorem d_World_gather_44 : decode prog_8_method_9_code 44 = .ok (.ishl, 1) := by decide +kernel
theorem d_World_gather_45 : decode prog_8_method_9_code 45 = .ok (.ior, 1) := by decide +kernel
theorem d_World_gather_46 : decode prog_8_method_9_code 46 = .ok (.istore_n 3, 1) := by decide +kernel
theorem d_World_gather_47 : decode prog_8_method_9_code 47 = .ok (.aload_n 0, 1) := by decide +kernel
theorem d_World_gather_48 : decode prog_8_method_9_code 48 = .ok (.getfield 25, 3) := by decide +kernel
theorem d_World_gather_51 : decode prog_8_method_9_code 51 = .ok (.aload_n 0, 1) := by decide +kernel
theorem d_World_gather_52 : decode prog_8_method_9_code 52 = .ok (.getfield 48, 3) := by decide +kernel
theorem d_World_gather_55 : decode prog_8_method_9_code 55 = .ok (.iload 5, 2) := by decide +kernel
theorem d_World_gather_57 : decode prog_8_method_9_code 57 = .ok (.iastore, 1) := by decide +kernel
theorem d_World_gather_58 : decode prog_8_method_9_code 58 = .ok (.aload_n 0, 1) := by decide +kernel
theorem d_World_gather_59 : decode prog_8_method_9_code 59 = .ok (.dup, 1) := by decide +kernel
theorem d_World_gather_60 : decode prog_8_method_9_code 60 = .ok (.getfield 48, 3) := by decide +kernel
theorem d_World_gather_63 : decode prog_8_method_9_code 63 = .ok (.iconst 1, 1) := by decide +kernel
theorem d_World_gather_64 : decode prog_8_method_9_code 64 = .ok (.iadd, 1) := by decide +kernel
theorem d_World_gather_65 : decode prog_8_method_9_code 65 = .ok (.putfield 48, 3) := by decide +kernel
theorem d_World_gather_68 : decode prog_8_method_9_code 68 = .ok (.iinc 4 (-1), 3) := by decide +kernel
theorem d_World_gather_71 : decode prog_8_method_9_code 71 = .ok (.goto (-59), 3) := by decide +kernel
theorem d_World_gather_74 : decode prog_8_method_9_code 74 = .ok (.iload_n 3, 1) := by decide +kernel
theorem d_World_gather_75 : decode prog_8_method_9_code 75 = .ok (.ireturn, 1) := by decide +kernel
theorem d_World_holder_0 : decode prog_8_method_15_code 0 = .ok (.aload_n 0, 1) := by decide +kernel
theorem d_World_holder_1 : decode prog_8_method_15_code 1 = .ok (.iload_n 1, 1) := by decide +kernel
theorem d_World_holder_2 : decode prog_8_method_15_code 2 = .ok (.invokevirtual 72, 3) := by decide +kernel
theorem d_World_holder_5 : decode prog_8_method_15_code 5 = .ok (.aload_n 0, 1) := by decide +kernel
theorem d_World_holder_6 : decode prog_8_method_15_code 6 = .ok (.iconst 0, 1) := by decide +kernel
theorem d_World_holder_7 : decode prog_8_method_15_code 7 = .ok (.iload_n 2, 1) := by decide +kernel
theorem d_World_holder_8 : decode prog_8_method_15_code 8 = .ok (.invokevirtual 75, 3) := by decide +kernel
theorem d_World_holder_11 : decode prog_8_method_15_code 11 = .ok (.ireturn, 1) := by decide +kernel
theorem d_World_holderBehind_0 : decode prog_8_method_16_code 0 = .ok (.aload_n 0, 1) := by decide +kernel
theorem d_World_holderBehind_1 : decode prog_8_method_16_code 1 = .ok (.iload_n 2, 1) := by decide +kernel
theorem d_World_holderBehind_2 : decode prog_8_method_16_code 2 = .ok (.invokevirtual 72, 3) := by decide +kernel
theorem d_World_holderBehind_5 : decode prog_8_method_16_code 5 = .ok (.aload_n 0, 1) := by decide +kernel
theorem d_World_holderBehind_6 : decode prog_8_method_16_code 6 = .ok (.iload_n 1, 1) := by decide +kernel
theorem d_World_holderBehind_7 : decode prog_8_method_16_code 7 = .ok (.invokevirtual 78, 3) := by decide +kernel
theorem d_World_holderBehind_10 : decode prog_8_method_16_code 10 = .ok (.istore 4, 2) := by decide +kernel
theorem d_World_holderBehind_12 : decode prog_8_method_16_code 12 = .ok (.iload 4, 2) := by decide +kernel
theorem d_World_holderBehind_14 : decode prog_8_method_16_code 14 = .ok (.iconst (-1), 1) := by decide +kernel
theorem d_World_holderBehind_15 : decode prog_8_method_16_code 15 = .ok (.if_icmp .ne 7, 3) := by decide +kernel
theorem d_World_holderBehind_18 : decode prog_8_method_16_code 18 = .ok (.iconst (-1), 1) := by decide +kernel
theorem d_World_holderBehind_19 : decode prog_8_method_16_code 19 = .ok (.goto 12, 3) := by decide +kernel
theorem d_World_holderBehind_22 : decode prog_8_method_16_code 22 = .ok (.aload_n 0, 1) := by decide +kernel
theorem d_World_holderBehind_23 : decode prog_8_method_16_code 23 = .ok (.iload 4, 2) := by decide +kernel
theorem d_World_holderBehind_25 : decode prog_8_method_16_code 25 = .ok (.iconst 1, 1) := by decide +kernel
theorem d_World_holderBehind_26 : decode prog_8_method_16_code 26 = .ok (.iadd, 1) := by decide +kernel
theorem d_World_holderBehind_27 : decode prog_8_method_16_code 27 = .ok (.iload_n 3, 1) := by decide +kernel
theorem d_World_holderBehind_28 : decode prog_8_method_16_code 28 = .ok (.invokevirtual 75, 3) := by decide +kernel
theorem d_World_holderBehind_31 : decode prog_8_method_16_code 31 = .ok (.ireturn, 1) := by decide +kernel
theorem d_World_holderFrom_0 : decode prog_8_method_14_code 0 = .ok (.iload_n 1, 1) := by decide +kernel
theorem d_World_holderFrom_1 : decode prog_8_method_14_code 1 = .ok (.istore_n 3, 1) := by decide +kernel
theorem d_World_holderFrom_2 : decode prog_8_method_14_code 2 = .ok (.iload_n 3, 1) := by decide +kernel
theorem d_World_holderFrom_3 : decode prog_8_method_14_code 3 = .ok (.aload_n 0, 1) := by decide +kernel
theorem d_World_holderFrom_4 : decode prog_8_method_14_code 4 = .ok (.getfield 48, 3) := by decide +kernel
theorem d_World_holderFrom_7 : decode prog_8_method_14_code 7 = .ok (.if_icmp .ge 31, 3) := by decide +kernel
theorem d_World_holderFrom_10 : decode prog_8_method_14_code 10 = .ok (.aload_n 0, 1) := by decide +kernel
theorem d_World_holderFrom_11 : decode prog_8_method_14_code 11 = .ok (.aload_n 0, 1) := by decide +kernel
theorem d_World_holderFrom_12 : decode prog_8_method_14_code 12 = .ok (.getfield 25, 3) := by decide +kernel
theorem d_World_holderFrom_15 : decode prog_8_method_14_code 15 = .ok (.iload_n 3, 1) := by decide +kernel
theorem d_World_holderFrom_16 : decode prog_8_method_14_code 16 = .ok (.iaload, 1) := by decide +kernel
theorem d_World_holderFrom_17 : decode prog_8_method_14_code 17 = .ok (.iload_n 2, 1) := by decide +kernel
theorem d_World_holderFrom_18 : decode prog_8_method_14_code 18 = .ok (.invokevirtual 69, 3) := by decide +kernel
theorem d_World_holderFrom_21 : decode prog_8_method_14_code 21 = .ok (.iconst (-1), 1) := by decide +kernel
theorem d_World_holderFrom_22 : decode prog_8_method_14_code 22 = .ok (.if_icmp .eq 10, 3) := by decide +kernel
theorem d_World_holderFrom_25 : decode prog_8_method_14_code 25 = .ok (.aload_n 0, 1) := by decide +kernel
theorem d_World_holderFrom_26 : decode prog_8_method_14_code 26 = .ok (.getfield 25, 3) := by decide +kernel
theorem d_World_holderFrom_29 : decode prog_8_method_14_code 29 = .ok (.iload_n 3, 1) := by decide +kernel
theorem d_World_holderFrom_30 : decode prog_8_method_14_code 30 = .ok (.iaload, 1) := by decide +kernel
theorem d_World_holderFrom_31 : decode prog_8_method_14_code 31 = .ok (.ireturn, 1) := by decide +kernel
theorem d_World_holderFrom_32 : decode prog_8_method_14_code 32 = .ok (.iinc 3 1, 3) := by decide +kernel
theorem d_World_holderFrom_35 : decode prog_8_method_14_code 35 = .ok (.goto (-33), 3) := by decide +kernel
theorem d_World_holderFrom_38 : decode prog_8_method_14_code 38 = .ok (.iconst (-1), 1) := by decide +kernel
theorem d_World_holderFrom_39 : decode prog_8_method_14_code 39 = .ok (.ireturn, 1) := by decide +kernel
theorem d_World_inLine_0 : decode prog_8_method_13_code 0 = .ok (.iconst 0, 1) := by decide +kernel
theorem d_World_inLine_1 : decode prog_8_method_13_code 1 = .ok (.istore_n 2, 1) := by decide +kernel
theorem d_World_inLine_2 : decode prog_8_method_13_code 2 = .ok (.iload_n 2, 1) := by decide +kernel
theorem d_World_inLine_3 : decode prog_8_method_13_code 3 = .ok (.aload_n 0, 1) := by decide +kernel
theorem d_World_inLine_4 : decode prog_8_method_13_code 4 = .ok (.getfield 48, 3) := by decide +kernel
theorem d_World_inLine_7 : decode prog_8_method_13_code 7 = .ok (.if_icmp .ge 21, 3) := by decide +kernel
theorem d_World_inLine_10 : decode prog_8_method_13_code 10 = .ok (.aload_n 0, 1) := by decide +kernel
theorem d_World_inLine_11 : decode prog_8_method_13_code 11 = .ok (.getfield 25, 3) := by decide +kernel
theorem d_World_inLine_14 : decode prog_8_method_13_code 14 = .ok (.iload_n 2, 1) := by decide +kernel
theorem d_World_inLine_15 : decode prog_8_method_13_code 15 = .ok (.iaload, 1) := by decide +kernel
theorem d_World_inLine_16 : decode prog_8_method_13_code 16 = .ok (.iload_n 1, 1) := by decide +kernel
theorem d_World_inLine_17 : decode prog_8_method_13_code 17 = .ok (.if_icmp .ne 5, 3) := by decide +kernel
theorem d_World_inLine_20 : decode prog_8_method_13_code 20 = .ok (.iload_n 2, 1) := by decide +kernel
theorem d_World_inLine_21 : decode prog_8_method_13_code 21 = .ok (.ireturn, 1) := by decide +kernel
theorem d_World_inLine_22 : decode prog_8_method_13_code 22 = .ok (.iinc 2 1, 3) := by decide +kernel
theorem d_World_inLine_25 : decode prog_8_method_13_code 25 = .ok (.goto (-23), 3) := by decide +kernel
theorem d_World_inLine_28 : decode prog_8_method_13_code 28 = .ok (.iconst (-1), 1) := by decide +kernel
theorem d_World_inLine_29 : decode prog_8_method_13_code 29 = .ok (.ireturn, 1) := by decide +kernel
theorem d_World_isFixed_0 : decode prog_8_method_2_code 0 = .ok (.iload_n 1, 1) := by decide +kernel
theorem d_World_isFixed_1 : decode prog_8_method_2_code 1 = .ok (.ifCond .lt 15, 3) := by decide +kernel
theorem d_World_isFixed_4 : decode prog_8_method_2_code 4 = .ok (.iload_n 1, 1) := by decide +kernel
theorem d_World_isFixed_5 : decode prog_8_method_2_code 5 = .ok (.aload_n 0, 1) := by decide +kernel
theorem d_World_isFixed_6 : decode prog_8_method_2_code 6 = .ok (.getfield 31, 3) := by decide +kernel
theorem d_World_isFixed_9 : decode prog_8_method_2_code 9 = .ok (.if_icmp .ge 7, 3) := by decide +kernel
theorem d_World_isFixed_12 : decode prog_8_method_2_code 12 = .ok (.iconst 1, 1) := by decide +kernel
theorem d_World_isFixed_13 : decode prog_8_method_2_code 13 = .ok (.goto 4, 3) := by decide +kernel
theorem d_World_isFixed_16 : decode prog_8_method_2_code 16 = .ok (.iconst 0, 1) := by decide +kernel
theorem d_World_isFixed_17 : decode prog_8_method_2_code 17 = .ok (.ireturn, 1) := by decide +kernel
theorem d_World_isThere_0 : decode prog_8_method_3_code 0 = .ok (.aload_n 0, 1) := by decide +kernel
theorem d_World_isThere_1 : decode prog_8_method_3_code 1 = .ok (.iload_n 1, 1) := by decide +kernel
theorem d_World_isThere_2 : decode prog_8_method_3_code 2 = .ok (.invokevirtual 35, 3) := by decide +kernel
theorem d_World_isThere_5 : decode prog_8_method_3_code 5 = .ok (.ifCond .ne 31, 3) := by decide +kernel
theorem d_World_isThere_8 : decode prog_8_method_3_code 8 = .ok (.iload_n 1, 1) := by decide +kernel
theorem d_World_isThere_9 : decode prog_8_method_3_code 9 = .ok (.bipush 16, 2) := by decide +kernel
theorem d_World_isThere_11 : decode prog_8_method_3_code 11 = .ok (.if_icmp .lt 29, 3) := by decide +kernel
theorem d_World_isThere_14 : decode prog_8_method_3_code 14 = .ok (.iload_n 1, 1) := by decide +kernel
theorem d_World_isThere_15 : decode prog_8_method_3_code 15 = .ok (.bipush 32, 2) := by decide +kernel
theorem d_World_isThere_17 : decode prog_8_method_3_code 17 = .ok (.if_icmp .ge 23, 3) := by decide +kernel
theorem d_World_isThere_20 : decode prog_8_method_3_code 20 = .ok (.aload_n 0, 1) := by decide +kernel
theorem d_World_isThere_21 : decode prog_8_method_3_code 21 = .ok (.getfield 12, 3) := by decide +kernel
theorem d_World_isThere_24 : decode prog_8_method_3_code 24 = .ok (.getfield 39, 3) := by decide +kernel
theorem d_World_isThere_27 : decode prog_8_method_3_code 27 = .ok (.iload_n 1, 1) := by decide +kernel
theorem d_World_isThere_28 : decode prog_8_method_3_code 28 = .ok (.bipush 16, 2) := by decide +kernel
theorem d_World_isThere_30 : decode prog_8_method_3_code 30 = .ok (.isub, 1) := by decide +kernel
theorem d_World_isThere_31 : decode prog_8_method_3_code 31 = .ok (.iaload, 1) := by decide +kernel
theorem d_World_isThere_32 : decode prog_8_method_3_code 32 = .ok (.iconst (-1), 1) := by decide +kernel
theorem d_World_isThere_33 : decode prog_8_method_3_code 33 = .ok (.if_icmp .eq 7, 3) := by decide +kernel
theorem d_World_isThere_36 : decode prog_8_method_3_code 36 = .ok (.iconst 1, 1) := by decide +kernel
theorem d_World_isThere_37 : decode prog_8_method_3_code 37 = .ok (.goto 4, 3) := by decide +kernel
theorem d_World_isThere_40 : decode prog_8_method_3_code 40 = .ok (.iconst 0, 1) := by decide +kernel
theorem d_World_isThere_41 : decode prog_8_method_3_code 41 = .ok (.ireturn, 1) := by decide +kernel
theorem d_World_lay_0 : decode prog_8_method_12_code 0 = .ok (.aload_n 0, 1) := by decide +kernel
theorem d_World_lay_1 : decode prog_8_method_12_code 1 = .ok (.iconst 0, 1) := by decide +kernel
theorem d_World_lay_2 : decode prog_8_method_12_code 2 = .ok (.putfield 48, 3) := by decide +kernel
theorem d_World_lay_5 : decode prog_8_method_12_code 5 = .ok (.iload_n 1, 1) := by decide +kernel
theorem d_World_lay_6 : decode prog_8_method_12_code 6 = .ok (.istore_n 2, 1) := by decide +kernel
theorem d_World_lay_7 : decode prog_8_method_12_code 7 = .ok (.iload_n 2, 1) := by decide +kernel
theorem d_World_lay_8 : decode prog_8_method_12_code 8 = .ok (.bipush 16, 2) := by decide +kernel
theorem d_World_lay_10 : decode prog_8_method_12_code 10 = .ok (.if_icmp .lt 48, 3) := by decide +kernel
theorem d_World_lay_13 : decode prog_8_method_12_code 13 = .ok (.aload_n 0, 1) := by decide +kernel
theorem d_World_lay_14 : decode prog_8_method_12_code 14 = .ok (.getfield 48, 3) := by decide +kernel
theorem d_World_lay_17 : decode prog_8_method_12_code 17 = .ok (.bipush 16, 2) := by decide +kernel
theorem d_World_lay_19 : decode prog_8_method_12_code 19 = .ok (.if_icmp .ge 39, 3) := by decide +kernel
theorem d_World_lay_22 : decode prog_8_method_12_code 22 = .ok (.aload_n 0, 1) := by decide +kernel
theorem d_World_lay_23 : decode prog_8_method_12_code 23 = .ok (.getfield 25, 3) := by decide +kernel
theorem d_World_lay_26 : decode prog_8_method_12_code 26 = .ok (.aload_n 0, 1) := by decide +kernel
theorem d_World_lay_27 : decode prog_8_method_12_code 27 = .ok (.getfield 48, 3) := by decide +kernel
theorem d_World_lay_30 : decode prog_8_method_12_code 30 = .ok (.iload_n 2, 1) := by decide +kernel
theorem d_World_lay_31 : decode prog_8_method_12_code 31 = .ok (.iastore, 1) := by decide +kernel
theorem d_World_lay_32 : decode prog_8_method_12_code 32 = .ok (.aload_n 0, 1) := by decide +kernel
theorem d_World_lay_33 : decode prog_8_method_12_code 33 = .ok (.dup, 1) := by decide +kernel
theorem d_World_lay_34 : decode prog_8_method_12_code 34 = .ok (.getfield 48, 3) := by decide +kernel
theorem d_World_lay_37 : decode prog_8_method_12_code 37 = .ok (.iconst 1, 1) := by decide +kernel
theorem d_World_lay_38 : decode prog_8_method_12_code 38 = .ok (.iadd, 1) := by decide +kernel
theorem d_World_lay_39 : decode prog_8_method_12_code 39 = .ok (.putfield 48, 3) := by decide +kernel
theorem d_World_lay_42 : decode prog_8_method_12_code 42 = .ok (.aload_n 0, 1) := by decide +kernel
theorem d_World_lay_43 : decode prog_8_method_12_code 43 = .ok (.getfield 12, 3) := by decide +kernel
theorem d_World_lay_46 : decode prog_8_method_12_code 46 = .ok (.getfield 39, 3) := by decide +kernel
theorem d_World_lay_49 : decode prog_8_method_12_code 49 = .ok (.iload_n 2, 1) := by decide +kernel
theorem d_World_lay_50 : decode prog_8_method_12_code 50 = .ok (.bipush 16, 2) := by decide +kernel
theorem d_World_lay_52 : decode prog_8_method_12_code 52 = .ok (.isub, 1) := by decide +kernel
theorem d_World_lay_53 : decode prog_8_method_12_code 53 = .ok (.iaload, 1) := by decide +kernel
theorem d_World_lay_54 : decode prog_8_method_12_code 54 = .ok (.istore_n 2, 1) := by decide +kernel
theorem d_World_lay_55 : decode prog_8_method_12_code 55 = .ok (.goto (-48), 3) := by decide +kernel
theorem d_World_lay_58 : decode prog_8_method_12_code 58 = .ok (.aload_n 0, 1) := by decide +kernel
theorem d_World_lay_59 : decode prog_8_method_12_code 59 = .ok (.iload_n 2, 1) := by decide +kernel
theorem d_World_lay_60 : decode prog_8_method_12_code 60 = .ok (.invokevirtual 35, 3) := by decide +kernel
theorem d_World_lay_63 : decode prog_8_method_12_code 63 = .ok (.ifCond .eq 43, 3) := by decide +kernel
theorem d_World_lay_66 : decode prog_8_method_12_code 66 = .ok (.aload_n 0, 1) := by decide +kernel
theorem d_World_lay_67 : decode prog_8_method_12_code 67 = .ok (.getfield 18, 3) := by decide +kernel
theorem d_World_lay_70 : decode prog_8_method_12_code 70 = .ok (.iload_n 2, 1) := by decide +kernel
theorem d_World_lay_71 : decode prog_8_method_12_code 71 = .ok (.bipush 16, 2) := by decide +kernel
theorem d_World_lay_73 : decode prog_8_method_12_code 73 = .ok (.imul, 1) := by decide +kernel
theorem d_World_lay_74 : decode prog_8_method_12_code 74 = .ok (.aload_n 0, 1) := by decide +kernel
theorem d_World_lay_75 : decode prog_8_method_12_code 75 = .ok (.getfield 25, 3) := by decide +kernel
theorem d_World_lay_78 : decode prog_8_method_12_code 78 = .ok (.aload_n 0, 1) := by decide +kernel
theorem d_World_lay_79 : decode prog_8_method_12_code 79 = .ok (.getfield 48, 3) := by decide +kernel
theorem d_World_lay_82 : decode prog_8_method_12_code 82 = .ok (.aload_n 0, 1) := by decide +kernel
theorem d_World_lay_83 : decode prog_8_method_12_code 83 = .ok (.getfield 22, 3) := by decide +kernel
theorem d_World_lay_86 : decode prog_8_method_12_code 86 = .ok (.iload_n 2, 1) := by decide +kernel
theorem d_World_lay_87 : decode prog_8_method_12_code 87 = .ok (.iaload, 1) := by decide +kernel
theorem d_World_lay_88 : decode prog_8_method_12_code 88 = .ok (.invokestatic 63, 3) := by decide +kernel
theorem d_World_lay_91 : decode prog_8_method_12_code 91 = .ok (.aload_n 0, 1) := by decide +kernel
theorem d_World_lay_92 : decode prog_8_method_12_code 92 = .ok (.dup, 1) := by decide +kernel
theorem d_World_lay_93 : decode prog_8_method_12_code 93 = .ok (.getfield 48, 3) := by decide +kernel
theorem d_World_lay_96 : decode prog_8_method_12_code 96 = .ok (.aload_n 0, 1) := by decide +kernel
theorem d_World_lay_97 : decode prog_8_method_12_code 97 = .ok (.getfield 22, 3) := by decide +kernel
theorem d_World_lay_100 : decode prog_8_method_12_code 100 = .ok (.iload_n 2, 1) := by decide +kernel
theorem d_World_lay_101 : decode prog_8_method_12_code 101 = .ok (.iaload, 1) := by decide +kernel
theorem d_World_lay_102 : decode prog_8_method_12_code 102 = .ok (.iadd, 1) := by decide +kernel
theorem d_World_lay_103 : decode prog_8_method_12_code 103 = .ok (.putfield 48, 3) := by decide +kernel
theorem d_World_lay_106 : decode prog_8_method_12_code 106 = .ok (.return_, 1) := by decide +kernel
theorem d_World_make_0 : decode prog_8_method_10_code 0 = .ok (.iconst 0, 1) := by decide +kernel
theorem d_World_make_1 : decode prog_8_method_10_code 1 = .ok (.istore_n 2, 1) := by decide +kernel
theorem d_World_make_2 : decode prog_8_method_10_code 2 = .ok (.iload_n 2, 1) := by decide +kernel
theorem d_World_make_3 : decode prog_8_method_10_code 3 = .ok (.bipush 16, 2) := by decide +kernel
theorem d_World_make_5 : decode prog_8_method_10_code 5 = .ok (.if_icmp .ge 45, 3) := by decide +kernel
theorem d_World_make_8 : decode prog_8_method_10_code 8 = .ok (.aload_n 0, 1) := by decide +kernel
theorem d_World_make_9 : decode prog_8_method_10_code 9 = .ok (.getfield 12, 3) := by decide +kernel
theorem d_World_make_12 : decode prog_8_method_10_code 12 = .ok (.getfield 39, 3) := by decide +kernel
theorem d_World_make_15 : decode prog_8_method_10_code 15 = .ok (.iload_n 2, 1) := by decide +kernel
theorem d_World_make_16 : decode prog_8_method_10_code 16 = .ok (.iaload, 1) := by decide +kernel
theorem d_World_make_17 : decode prog_8_method_10_code 17 = .ok (.iconst (-1), 1) := by decide +kernel
theorem d_World_make_18 : decode prog_8_method_10_code 18 = .ok (.if_icmp .ne 26, 3) := by decide +kernel
theorem d_World_make_21 : decode prog_8_method_10_code 21 = .ok (.aload_n 0, 1) := by decide +kernel
theorem d_World_make_22 : decode prog_8_method_10_code 22 = .ok (.getfield 12, 3) := by decide +kernel
theorem d_World_make_25 : decode prog_8_method_10_code 25 = .ok (.getfield 39, 3) := by decide +kernel
theorem d_World_make_28 : decode prog_8_method_10_code 28 = .ok (.iload_n 2, 1) := by decide +kernel
theorem d_World_make_29 : decode prog_8_method_10_code 29 = .ok (.iload_n 1, 1) := by decide +kernel
theorem d_World_make_30 : decode prog_8_method_10_code 30 = .ok (.iastore, 1) := by decide +kernel
theorem d_World_make_31 : decode prog_8_method_10_code 31 = .ok (.aload_n 0, 1) := by decide +kernel
theorem d_World_make_32 : decode prog_8_method_10_code 32 = .ok (.bipush 16, 2) := by decide +kernel
theorem d_World_make_34 : decode prog_8_method_10_code 34 = .ok (.iload_n 2, 1) := by decide +kernel
theorem d_World_make_35 : decode prog_8_method_10_code 35 = .ok (.iadd, 1) := by decide +kernel
theorem d_World_make_36 : decode prog_8_method_10_code 36 = .ok (.invokevirtual 55, 3) := by decide +kernel
theorem d_World_make_39 : decode prog_8_method_10_code 39 = .ok (.bipush 16, 2) := by decide +kernel
theorem d_World_make_41 : decode prog_8_method_10_code 41 = .ok (.iload_n 2, 1) := by decide +kernel
theorem d_World_make_42 : decode prog_8_method_10_code 42 = .ok (.iadd, 1) := by decide +kernel
theorem d_World_make_43 : decode prog_8_method_10_code 43 = .ok (.ireturn, 1) := by decide +kernel
theorem d_World_make_44 : decode prog_8_method_10_code 44 = .ok (.iinc 2 1, 3) := by decide +kernel
theorem d_World_make_47 : decode prog_8_method_10_code 47 = .ok (.goto (-45), 3) := by decide +kernel
theorem d_World_make_50 : decode prog_8_method_10_code 50 = .ok (.iconst (-1), 1) := by decide +kernel
theorem d_World_make_51 : decode prog_8_method_10_code 51 = .ok (.ireturn, 1) := by decide +kernel
theorem d_World_ownInt_0 : decode prog_8_method_6_code 0 = .ok (.aload_n 0, 1) := by decide +kernel
theorem d_World_ownInt_1 : decode prog_8_method_6_code 1 = .ok (.getfield 12, 3) := by decide +kernel
theorem d_World_ownInt_4 : decode prog_8_method_6_code 4 = .ok (.getfield 45, 3) := by decide +kernel
theorem d_World_ownInt_7 : decode prog_8_method_6_code 7 = .ok (.iload_n 1, 1) := by decide +kernel
theorem d_World_ownInt_8 : decode prog_8_method_6_code 8 = .ok (.bipush 8, 2) := by decide +kernel
theorem d_World_ownInt_10 : decode prog_8_method_6_code 10 = .ok (.imul, 1) := by decide +kernel
theorem d_World_ownInt_11 : decode prog_8_method_6_code 11 = .ok (.iload_n 2, 1) := by decide +kernel
theorem d_World_ownInt_12 : decode prog_8_method_6_code 12 = .ok (.iadd, 1) := by decide +kernel
theorem d_World_ownInt_13 : decode prog_8_method_6_code 13 = .ok (.iaload, 1) := by decide +kernel
theorem d_World_ownInt_14 : decode prog_8_method_6_code 14 = .ok (.ireturn, 1) := by decide +kernel
theorem d_World_ownKind_0 : decode prog_8_method_5_code 0 = .ok (.aload_n 0, 1) := by decide +kernel
theorem d_World_ownKind_1 : decode prog_8_method_5_code 1 = .ok (.getfield 12, 3) := by decide +kernel
theorem d_World_ownKind_4 : decode prog_8_method_5_code 4 = .ok (.getfield 42, 3) := by decide +kernel
theorem d_World_ownKind_7 : decode prog_8_method_5_code 7 = .ok (.iload_n 1, 1) := by decide +kernel
theorem d_World_ownKind_8 : decode prog_8_method_5_code 8 = .ok (.bipush 8, 2) := by decide +kernel
theorem d_World_ownKind_10 : decode prog_8_method_5_code 10 = .ok (.imul, 1) := by decide +kernel
theorem d_World_ownKind_11 : decode prog_8_method_5_code 11 = .ok (.iload_n 2, 1) := by decide +kernel
theorem d_World_ownKind_12 : decode prog_8_method_5_code 12 = .ok (.iadd, 1) := by decide +kernel
theorem d_World_ownKind_13 : decode prog_8_method_5_code 13 = .ok (.iaload, 1) := by decide +kernel
theorem d_World_ownKind_14 : decode prog_8_method_5_code 14 = .ok (.ireturn, 1) := by decide +kernel
theorem d_World_reach_0 : decode prog_8_method_19_code 0 = .ok (.aload_n 0, 1) := by decide +kernel
theorem d_World_reach_1 : decode prog_8_method_19_code 1 = .ok (.iload_n 1, 1) := by decide +kernel
theorem d_World_reach_2 : decode prog_8_method_19_code 2 = .ok (.invokevirtual 82, 3) := by decide +kernel
theorem d_World_reach_5 : decode prog_8_method_19_code 5 = .ok (.ifCond .eq 46, 3) := by decide +kernel
theorem d_World_reach_8 : decode prog_8_method_19_code 8 = .ok (.aload_n 0, 1) := by decide +kernel
theorem d_World_reach_9 : decode prog_8_method_19_code 9 = .ok (.getfield 88, 3) := by decide +kernel
theorem d_World_reach_12 : decode prog_8_method_19_code 12 = .ok (.iload_n 1, 1) := by decide +kernel
theorem d_World_reach_13 : decode prog_8_method_19_code 13 = .ok (.iushr, 1) := by decide +kernel
theorem d_World_reach_14 : decode prog_8_method_19_code 14 = .ok (.iconst 1, 1) := by decide +kernel
theorem d_World_reach_15 : decode prog_8_method_19_code 15 = .ok (.iand, 1) := by decide +kernel
theorem d_World_reach_16 : decode prog_8_method_19_code 16 = .ok (.ifCond .ne 35, 3) := by decide +kernel
theorem d_World_reach_19 : decode prog_8_method_19_code 19 = .ok (.aload_n 0, 1) := by decide +kernel
theorem d_World_reach_20 : decode prog_8_method_19_code 20 = .ok (.dup, 1) := by decide +kernel
theorem d_World_reach_21 : decode prog_8_method_19_code 21 = .ok (.getfield 88, 3) := by decide +kernel
theorem d_World_reach_24 : decode prog_8_method_19_code 24 = .ok (.iconst 1, 1) := by decide +kernel
theorem d_World_reach_25 : decode prog_8_method_19_code 25 = .ok (.iload_n 1, 1) := by decide +kernel
theorem d_World_reach_26 : decode prog_8_method_19_code 26 = .ok (.ishl, 1) := by decide +kernel
theorem d_World_reach_27 : decode prog_8_method_19_code 27 = .ok (.ior, 1) := by decide +kernel
theorem d_World_reach_28 : decode prog_8_method_19_code 28 = .ok (.putfield 88, 3) := by decide +kernel
theorem d_World_reach_31 : decode prog_8_method_19_code 31 = .ok (.aload_n 0, 1) := by decide +kernel
theorem d_World_reach_32 : decode prog_8_method_19_code 32 = .ok (.getfield 28, 3) := by decide +kernel
theorem d_World_reach_35 : decode prog_8_method_19_code 35 = .ok (.aload_n 0, 1) := by decide +kernel
theorem d_World_reach_36 : decode prog_8_method_19_code 36 = .ok (.getfield 85, 3) := by decide +kernel
theorem d_World_reach_39 : decode prog_8_method_19_code 39 = .ok (.iload_n 1, 1) := by decide +kernel
theorem d_World_reach_40 : decode prog_8_method_19_code 40 = .ok (.iastore, 1) := by decide +kernel
theorem d_World_reach_41 : decode prog_8_method_19_code 41 = .ok (.aload_n 0, 1) := by decide +kernel
theorem d_World_reach_42 : decode prog_8_method_19_code 42 = .ok (.dup, 1) := by decide +kernel
theorem d_World_reach_43 : decode prog_8_method_19_code 43 = .ok (.getfield 85, 3) := by decide +kernel
theorem d_World_reach_46 : decode prog_8_method_19_code 46 = .ok (.iconst 1, 1) := by decide +kernel
theorem d_World_reach_47 : decode prog_8_method_19_code 47 = .ok (.iadd, 1) := by decide +kernel
theorem d_World_reach_48 : decode prog_8_method_19_code 48 = .ok (.putfield 85, 3) := by decide +kernel
theorem d_World_reach_51 : decode prog_8_method_19_code 51 = .ok (.return_, 1) := by decide +kernel
theorem d_World_reachFrom_0 : decode prog_8_method_22_code 0 = .ok (.iload_n 1, 1) := by decide +kernel
theorem d_World_reachFrom_1 : decode prog_8_method_22_code 1 = .ok (.bipush 16, 2) := by decide +kernel
theorem d_World_reachFrom_3 : decode prog_8_method_22_code 3 = .ok (.if_icmp .lt 19, 3) := by decide +kernel
theorem d_World_reachFrom_6 : decode prog_8_method_22_code 6 = .ok (.aload_n 0, 1) := by decide +kernel
theorem d_World_reachFrom_7 : decode prog_8_method_22_code 7 = .ok (.aload_n 0, 1) := by decide +kernel
theorem d_World_reachFrom_8 : decode prog_8_method_22_code 8 = .ok (.getfield 12, 3) := by decide +kernel
theorem d_World_reachFrom_11 : decode prog_8_method_22_code 11 = .ok (.getfield 39, 3) := by decide +kernel
theorem d_World_reachFrom_14 : decode prog_8_method_22_code 14 = .ok (.iload_n 1, 1) := by decide +kernel
theorem d_World_reachFrom_15 : decode prog_8_method_22_code 15 = .ok (.bipush 16, 2) := by decide +kernel
theorem d_World_reachFrom_17 : decode prog_8_method_22_code 17 = .ok (.isub, 1) := by decide +kernel
theorem d_World_reachFrom_18 : decode prog_8_method_22_code 18 = .ok (.iaload, 1) := by decide +kernel
theorem d_World_reachFrom_19 : decode prog_8_method_22_code 19 = .ok (.invokevirtual 91, 3) := by decide +kernel
theorem d_World_reachFrom_22 : decode prog_8_method_22_code 22 = .ok (.iconst 0, 1) := by decide +kernel
theorem d_World_reachFrom_23 : decode prog_8_method_22_code 23 = .ok (.istore_n 2, 1) := by decide +kernel
theorem d_World_reachFrom_24 : decode prog_8_method_22_code 24 = .ok (.iload_n 2, 1) := by decide +kernel
theorem d_World_reachFrom_25 : decode prog_8_method_22_code 25 = .ok (.bipush 8, 2) := by decide +kernel
theorem d_World_reachFrom_27 : decode prog_8_method_22_code 27 = .ok (.if_icmp .ge 25, 3) := by decide +kernel
theorem d_World_reachFrom_30 : decode prog_8_method_22_code 30 = .ok (.aload_n 0, 1) := by decide +kernel
theorem d_World_reachFrom_31 : decode prog_8_method_22_code 31 = .ok (.aload_n 0, 1) := by decide +kernel
theorem d_World_reachFrom_32 : decode prog_8_method_22_code 32 = .ok (.iload_n 1, 1) := by decide +kernel
theorem d_World_reachFrom_33 : decode prog_8_method_22_code 33 = .ok (.iload_n 2, 1) := by decide +kernel
theorem d_World_reachFrom_34 : decode prog_8_method_22_code 34 = .ok (.invokevirtual 69, 3) := by decide +kernel
theorem d_World_reachFrom_37 : decode prog_8_method_22_code 37 = .ok (.aload_n 0, 1) := by decide +kernel
theorem d_World_reachFrom_38 : decode prog_8_method_22_code 38 = .ok (.iload_n 1, 1) := by decide +kernel
theorem d_World_reachFrom_39 : decode prog_8_method_22_code 39 = .ok (.iload_n 2, 1) := by decide +kernel
theorem d_World_reachFrom_40 : decode prog_8_method_22_code 40 = .ok (.invokevirtual 97, 3) := by decide +kernel
theorem d_World_reachFrom_43 : decode prog_8_method_22_code 43 = .ok (.invokevirtual 100, 3) := by decide +kernel
theorem d_World_reachFrom_46 : decode prog_8_method_22_code 46 = .ok (.iinc 2 1, 3) := by decide +kernel
theorem d_World_reachFrom_49 : decode prog_8_method_22_code 49 = .ok (.goto (-25), 3) := by decide +kernel
theorem d_World_reachFrom_52 : decode prog_8_method_22_code 52 = .ok (.return_, 1) := by decide +kernel
theorem d_World_reachValue_0 : decode prog_8_method_20_code 0 = .ok (.iload_n 1, 1) := by decide +kernel
theorem d_World_reachValue_1 : decode prog_8_method_20_code 1 = .ok (.iconst 3, 1) := by decide +kernel
theorem d_World_reachValue_2 : decode prog_8_method_20_code 2 = .ok (.if_icmp .ne 8, 3) := by decide +kernel
theorem d_World_reachValue_5 : decode prog_8_method_20_code 5 = .ok (.aload_n 0, 1) := by decide +kernel
theorem d_World_reachValue_6 : decode prog_8_method_20_code 6 = .ok (.iload_n 2, 1) := by decide +kernel
theorem d_World_reachValue_7 : decode prog_8_method_20_code 7 = .ok (.invokevirtual 91, 3) := by decide +kernel
theorem d_World_reachValue_10 : decode prog_8_method_20_code 10 = .ok (.return_, 1) := by decide +kernel
theorem d_World_setOwn_0 : decode prog_8_method_7_code 0 = .ok (.aload_n 0, 1) := by decide +kernel
theorem d_World_setOwn_1 : decode prog_8_method_7_code 1 = .ok (.getfield 12, 3) := by decide +kernel
theorem d_World_setOwn_4 : decode prog_8_method_7_code 4 = .ok (.getfield 42, 3) := by decide +kernel
theorem d_World_setOwn_7 : decode prog_8_method_7_code 7 = .ok (.iload_n 1, 1) := by decide +kernel
theorem d_World_setOwn_8 : decode prog_8_method_7_code 8 = .ok (.bipush 8, 2) := by decide +kernel
theorem d_World_setOwn_10 : decode prog_8_method_7_code 10 = .ok (.imul, 1) := by decide +kernel
theorem d_World_setOwn_11 : decode prog_8_method_7_code 11 = .ok (.iload_n 2, 1) := by decide +kernel
theorem d_World_setOwn_12 : decode prog_8_method_7_code 12 = .ok (.iadd, 1) := by decide +kernel
theorem d_World_setOwn_13 : decode prog_8_method_7_code 13 = .ok (.iload_n 3, 1) := by decide +kernel
theorem d_World_setOwn_14 : decode prog_8_method_7_code 14 = .ok (.iastore, 1) := by decide +kernel
theorem d_World_setOwn_15 : decode prog_8_method_7_code 15 = .ok (.aload_n 0, 1) := by decide +kernel
theorem d_World_setOwn_16 : decode prog_8_method_7_code 16 = .ok (.getfield 12, 3) := by decide +kernel
theorem d_World_setOwn_19 : decode prog_8_method_7_code 19 = .ok (.getfield 45, 3) := by decide +kernel
theorem d_World_setOwn_22 : decode prog_8_method_7_code 22 = .ok (.iload_n 1, 1) := by decide +kernel
theorem d_World_setOwn_23 : decode prog_8_method_7_code 23 = .ok (.bipush 8, 2) := by decide +kernel
theorem d_World_setOwn_25 : decode prog_8_method_7_code 25 = .ok (.imul, 1) := by decide +kernel
theorem d_World_setOwn_26 : decode prog_8_method_7_code 26 = .ok (.iload_n 2, 1) := by decide +kernel
theorem d_World_setOwn_27 : decode prog_8_method_7_code 27 = .ok (.iadd, 1) := by decide +kernel
theorem d_World_setOwn_28 : decode prog_8_method_7_code 28 = .ok (.iload 4, 2) := by decide +kernel
theorem d_World_setOwn_30 : decode prog_8_method_7_code 30 = .ok (.iastore, 1) := by decide +kernel
theorem d_World_setOwn_31 : decode prog_8_method_7_code 31 = .ok (.return_, 1) := by decide +kernel
theorem d_World_sweep_0 : decode prog_8_method_21_code 0 = .ok (.iconst 0, 1) := by decide +kernel
theorem d_World_sweep_1 : decode prog_8_method_21_code 1 = .ok (.istore_n 1, 1) := by decide +kernel
theorem d_World_sweep_2 : decode prog_8_method_21_code 2 = .ok (.iload_n 1, 1) := by decide +kernel
theorem d_World_sweep_3 : decode prog_8_method_21_code 3 = .ok (.aload_n 0, 1) := by decide +kernel
theorem d_World_sweep_4 : decode prog_8_method_21_code 4 = .ok (.getfield 31, 3) := by decide +kernel
theorem d_World_sweep_7 : decode prog_8_method_21_code 7 = .ok (.if_icmp .ge 14, 3) := by decide +kernel
theorem d_World_sweep_10 : decode prog_8_method_21_code 10 = .ok (.aload_n 0, 1) := by decide +kernel
theorem d_World_sweep_11 : decode prog_8_method_21_code 11 = .ok (.iload_n 1, 1) := by decide +kernel
theorem d_World_sweep_12 : decode prog_8_method_21_code 12 = .ok (.invokevirtual 91, 3) := by decide +kernel
theorem d_World_sweep_15 : decode prog_8_method_21_code 15 = .ok (.iinc 1 1, 3) := by decide +kernel
theorem d_World_sweep_18 : decode prog_8_method_21_code 18 = .ok (.goto (-16), 3) := by decide +kernel
theorem d_World_sweep_21 : decode prog_8_method_21_code 21 = .ok (.iconst 0, 1) := by decide +kernel
theorem d_World_sweep_22 : decode prog_8_method_21_code 22 = .ok (.istore_n 1, 1) := by decide +kernel
theorem d_World_sweep_23 : decode prog_8_method_21_code 23 = .ok (.iload_n 1, 1) := by decide +kernel
theorem d_World_sweep_24 : decode prog_8_method_21_code 24 = .ok (.aload_n 0, 1) := by decide +kernel
theorem d_World_sweep_25 : decode prog_8_method_21_code 25 = .ok (.getfield 85, 3) := by decide +kernel
theorem d_World_sweep_28 : decode prog_8_method_21_code 28 = .ok (.if_icmp .ge 25, 3) := by decide +kernel
theorem d_World_sweep_31 : decode prog_8_method_21_code 31 = .ok (.iload_n 1, 1) := by decide +kernel
theorem d_World_sweep_32 : decode prog_8_method_21_code 32 = .ok (.bipush 32, 2) := by decide +kernel
theorem d_World_sweep_34 : decode prog_8_method_21_code 34 = .ok (.if_icmp .ge 19, 3) := by decide +kernel
theorem d_World_sweep_37 : decode prog_8_method_21_code 37 = .ok (.aload_n 0, 1) := by decide +kernel
theorem d_World_sweep_38 : decode prog_8_method_21_code 38 = .ok (.aload_n 0, 1) := by decide +kernel
theorem d_World_sweep_39 : decode prog_8_method_21_code 39 = .ok (.getfield 28, 3) := by decide +kernel
theorem d_World_sweep_42 : decode prog_8_method_21_code 42 = .ok (.iload_n 1, 1) := by decide +kernel
theorem d_World_sweep_43 : decode prog_8_method_21_code 43 = .ok (.iaload, 1) := by decide +kernel
theorem d_World_sweep_44 : decode prog_8_method_21_code 44 = .ok (.invokevirtual 94, 3) := by decide +kernel
theorem d_World_sweep_47 : decode prog_8_method_21_code 47 = .ok (.iinc 1 1, 3) := by decide +kernel
theorem d_World_sweep_50 : decode prog_8_method_21_code 50 = .ok (.goto (-27), 3) := by decide +kernel
theorem d_World_sweep_53 : decode prog_8_method_21_code 53 = .ok (.iconst 0, 1) := by decide +kernel
theorem d_World_sweep_54 : decode prog_8_method_21_code 54 = .ok (.istore_n 1, 1) := by decide +kernel
theorem d_World_sweep_55 : decode prog_8_method_21_code 55 = .ok (.bipush 16, 2) := by decide +kernel
theorem d_World_sweep_57 : decode prog_8_method_21_code 57 = .ok (.istore_n 2, 1) := by decide +kernel
theorem d_World_sweep_58 : decode prog_8_method_21_code 58 = .ok (.iload_n 2, 1) := by decide +kernel
theorem d_World_sweep_59 : decode prog_8_method_21_code 59 = .ok (.bipush 32, 2) := by decide +kernel
theorem d_World_sweep_61 : decode prog_8_method_21_code 61 = .ok (.if_icmp .ge 44, 3) := by decide +kernel
theorem d_World_sweep_64 : decode prog_8_method_21_code 64 = .ok (.aload_n 0, 1) := by decide +kernel
theorem d_World_sweep_65 : decode prog_8_method_21_code 65 = .ok (.iload_n 2, 1) := by decide +kernel
theorem d_World_sweep_66 : decode prog_8_method_21_code 66 = .ok (.invokevirtual 82, 3) := by decide +kernel
theorem d_World_sweep_69 : decode prog_8_method_21_code 69 = .ok (.ifCond .eq 30, 3) := by decide +kernel
theorem d_World_sweep_72 : decode prog_8_method_21_code 72 = .ok (.aload_n 0, 1) := by decide +kernel
theorem d_World_sweep_73 : decode prog_8_method_21_code 73 = .ok (.getfield 88, 3) := by decide +kernel
theorem d_World_sweep_76 : decode prog_8_method_21_code 76 = .ok (.iload_n 2, 1) := by decide +kernel
theorem d_World_sweep_77 : decode prog_8_method_21_code 77 = .ok (.iushr, 1) := by decide +kernel
theorem d_World_sweep_78 : decode prog_8_method_21_code 78 = .ok (.iconst 1, 1) := by decide +kernel
theorem d_World_sweep_79 : decode prog_8_method_21_code 79 = .ok (.iand, 1) := by decide +kernel
theorem d_World_sweep_80 : decode prog_8_method_21_code 80 = .ok (.ifCond .ne 19, 3) := by decide +kernel
theorem d_World_sweep_83 : decode prog_8_method_21_code 83 = .ok (.aload_n 0, 1) := by decide +kernel
theorem d_World_sweep_84 : decode prog_8_method_21_code 84 = .ok (.getfield 12, 3) := by decide +kernel
theorem d_World_sweep_87 : decode prog_8_method_21_code 87 = .ok (.getfield 39, 3) := by decide +kernel
theorem d_World_sweep_90 : decode prog_8_method_21_code 90 = .ok (.iload_n 2, 1) := by decide +kernel
theorem d_World_sweep_91 : decode prog_8_method_21_code 91 = .ok (.bipush 16, 2) := by decide +kernel
theorem d_World_sweep_93 : decode prog_8_method_21_code 93 = .ok (.isub, 1) := by decide +kernel
theorem d_World_sweep_94 : decode prog_8_method_21_code 94 = .ok (.iconst (-1), 1) := by decide +kernel
theorem d_World_sweep_95 : decode prog_8_method_21_code 95 = .ok (.iastore, 1) := by decide +kernel
theorem d_World_sweep_96 : decode prog_8_method_21_code 96 = .ok (.iinc 1 1, 3) := by decide +kernel
theorem d_World_sweep_99 : decode prog_8_method_21_code 99 = .ok (.iinc 2 1, 3) := by decide +kernel
theorem d_World_sweep_102 : decode prog_8_method_21_code 102 = .ok (.goto (-44), 3) := by decide +kernel
theorem d_World_sweep_105 : decode prog_8_method_21_code 105 = .ok (.iload_n 1, 1) := by decide +kernel
theorem d_World_sweep_106 : decode prog_8_method_21_code 106 = .ok (.ireturn, 1) := by decide +kernel
theorem d_Law_begin_0 : decode method_5_code 0 = .ok (.aload_n 0, 1) := by decide +kernel
theorem d_Law_begin_1 : decode method_5_code 1 = .ok (.iload_n 1, 1) := by decide +kernel
theorem d_Law_begin_2 : decode method_5_code 2 = .ok (.iload_n 2, 1) := by decide +kernel
theorem d_Law_begin_3 : decode method_5_code 3 = .ok (.invokevirtual 23, 3) := by decide +kernel
theorem d_Law_begin_6 : decode method_5_code 6 = .ok (.goto 12, 3) := by decide +kernel
theorem d_Law_begin_9 : decode method_5_code 9 = .ok (.astore_n 3, 1) := by decide +kernel
theorem d_Law_begin_10 : decode method_5_code 10 = .ok (.iconst 1, 1) := by decide +kernel
theorem d_Law_begin_11 : decode method_5_code 11 = .ok (.ireturn, 1) := by decide +kernel
theorem d_Law_begin_12 : decode method_5_code 12 = .ok (.astore_n 3, 1) := by decide +kernel
theorem d_Law_begin_13 : decode method_5_code 13 = .ok (.iconst 2, 1) := by decide +kernel
theorem d_Law_begin_14 : decode method_5_code 14 = .ok (.ireturn, 1) := by decide +kernel
theorem d_Law_begin_15 : decode method_5_code 15 = .ok (.astore_n 3, 1) := by decide +kernel
theorem d_Law_begin_16 : decode method_5_code 16 = .ok (.iconst 3, 1) := by decide +kernel
theorem d_Law_begin_17 : decode method_5_code 17 = .ok (.ireturn, 1) := by decide +kernel
theorem d_Law_begin_18 : decode method_5_code 18 = .ok (.iconst 0, 1) := by decide +kernel
theorem d_Law_begin_19 : decode method_5_code 19 = .ok (.ireturn, 1) := by decide +kernel
theorem d_Law_has_0 : decode method_9_code 0 = .ok (.aload 4, 2) := by decide +kernel
theorem d_Law_has_2 : decode method_9_code 2 = .ok (.iconst 0, 1) := by decide +kernel
theorem d_Law_has_3 : decode method_9_code 3 = .ok (.aload_n 0, 1) := by decide +kernel
theorem d_Law_has_4 : decode method_9_code 4 = .ok (.iload_n 1, 1) := by decide +kernel
theorem d_Law_has_5 : decode method_9_code 5 = .ok (.iload_n 2, 1) := by decide +kernel
theorem d_Law_has_6 : decode method_9_code 6 = .ok (.iload_n 3, 1) := by decide +kernel
theorem d_Law_has_7 : decode method_9_code 7 = .ok (.invokevirtual 38, 3) := by decide +kernel
theorem d_Law_has_10 : decode method_9_code 10 = .ok (.i2l, 1) := by decide +kernel
theorem d_Law_has_11 : decode method_9_code 11 = .ok (.lastore, 1) := by decide +kernel
theorem d_Law_has_12 : decode method_9_code 12 = .ok (.goto 7, 3) := by decide +kernel
theorem d_Law_has_15 : decode method_9_code 15 = .ok (.astore 5, 2) := by decide +kernel
theorem d_Law_has_17 : decode method_9_code 17 = .ok (.iconst 1, 1) := by decide +kernel
theorem d_Law_has_18 : decode method_9_code 18 = .ok (.ireturn, 1) := by decide +kernel
theorem d_Law_has_19 : decode method_9_code 19 = .ok (.iconst 0, 1) := by decide +kernel
theorem d_Law_has_20 : decode method_9_code 20 = .ok (.ireturn, 1) := by decide +kernel
theorem d_Law_law_0 : decode code 0 = .ok (.new 8, 3) := by decide +kernel
theorem d_Law_law_3 : decode code 3 = .ok (.dup, 1) := by decide +kernel
theorem d_Law_law_4 : decode code 4 = .ok (.invokespecial 41, 3) := by decide +kernel
theorem d_Law_law_7 : decode code 7 = .ok (.astore_n 1, 1) := by decide +kernel
theorem d_Law_law_8 : decode code 8 = .ok (.new 42, 3) := by decide +kernel
theorem d_Law_law_11 : decode code 11 = .ok (.dup, 1) := by decide +kernel
theorem d_Law_law_12 : decode code 12 = .ok (.invokespecial 44, 3) := by decide +kernel
theorem d_Law_law_15 : decode code 15 = .ok (.astore_n 2, 1) := by decide +kernel
theorem d_Law_law_16 : decode code 16 = .ok (.iconst 1, 1) := by decide +kernel
theorem d_Law_law_17 : decode code 17 = .ok (.newarray .long, 2) := by decide +kernel
theorem d_Law_law_19 : decode code 19 = .ok (.astore_n 3, 1) := by decide +kernel
theorem d_Law_law_20 : decode code 20 = .ok (.iconst 0, 1) := by decide +kernel
theorem d_Law_law_21 : decode code 21 = .ok (.istore 4, 2) := by decide +kernel
theorem d_Law_law_23 : decode code 23 = .ok (.iload 4, 2) := by decide +kernel
theorem d_Law_law_25 : decode code 25 = .ok (.aload_n 0, 1) := by decide +kernel
theorem d_Law_law_26 : decode code 26 = .ok (.arraylength, 1) := by decide +kernel
theorem d_Law_law_27 : decode code 27 = .ok (.iconst 5, 1) := by decide +kernel
theorem d_Law_law_28 : decode code 28 = .ok (.isub, 1) := by decide +kernel
theorem d_Law_law_29 : decode code 29 = .ok (.if_icmp .gt 512, 3) := by decide +kernel
theorem d_Law_law_32 : decode code 32 = .ok (.aload_n 0, 1) := by decide +kernel
theorem d_Law_law_33 : decode code 33 = .ok (.iload 4, 2) := by decide +kernel
theorem d_Law_law_35 : decode code 35 = .ok (.iaload, 1) := by decide +kernel
theorem d_Law_law_36 : decode code 36 = .ok (.bipush 15, 2) := by decide +kernel
theorem d_Law_law_38 : decode code 38 = .ok (.iand, 1) := by decide +kernel
theorem d_Law_law_39 : decode code 39 = .ok (.tableswitch 496 0 11 #[61, 98, 150, 211, 248, 273, 286, 299, 339, 367, 407, 459], 61) := by decide +kernel
theorem d_Law_law_100 : decode code 100 = .ok (.aload_n 1, 1) := by decide +kernel
theorem d_Law_law_101 : decode code 101 = .ok (.aload_n 0, 1) := by decide +kernel
theorem d_Law_law_102 : decode code 102 = .ok (.iload 4, 2) := by decide +kernel
theorem d_Law_law_104 : decode code 104 = .ok (.iconst 1, 1) := by decide +kernel
theorem d_Law_law_105 : decode code 105 = .ok (.iadd, 1) := by decide +kernel
theorem d_Law_law_106 : decode code 106 = .ok (.iaload, 1) := by decide +kernel
theorem d_Law_law_107 : decode code 107 = .ok (.aload_n 0, 1) := by decide +kernel
theorem d_Law_law_108 : decode code 108 = .ok (.iload 4, 2) := by decide +kernel
theorem d_Law_law_110 : decode code 110 = .ok (.iconst 2, 1) := by decide +kernel
theorem d_Law_law_111 : decode code 111 = .ok (.iadd, 1) := by decide +kernel
theorem d_Law_law_112 : decode code 112 = .ok (.iaload, 1) := by decide +kernel
theorem d_Law_law_113 : decode code 113 = .ok (.invokevirtual 45, 3) := by decide +kernel
theorem d_Law_law_116 : decode code 116 = .ok (.aload_n 2, 1) := by decide +kernel
theorem d_Law_law_117 : decode code 117 = .ok (.aload_n 0, 1) := by decide +kernel
theorem d_Law_law_118 : decode code 118 = .ok (.iload 4, 2) := by decide +kernel
theorem d_Law_law_120 : decode code 120 = .ok (.iconst 1, 1) := by decide +kernel
theorem d_Law_law_121 : decode code 121 = .ok (.iadd, 1) := by decide +kernel
theorem d_Law_law_122 : decode code 122 = .ok (.iaload, 1) := by decide +kernel
theorem d_Law_law_123 : decode code 123 = .ok (.aload_n 0, 1) := by decide +kernel
theorem d_Law_law_124 : decode code 124 = .ok (.iload 4, 2) := by decide +kernel
theorem d_Law_law_126 : decode code 126 = .ok (.iconst 2, 1) := by decide +kernel
theorem d_Law_law_127 : decode code 127 = .ok (.iadd, 1) := by decide +kernel
theorem d_Law_law_128 : decode code 128 = .ok (.iaload, 1) := by decide +kernel
theorem d_Law_law_129 : decode code 129 = .ok (.invokevirtual 49, 3) := by decide +kernel
theorem d_Law_law_132 : decode code 132 = .ok (.if_icmp .eq 403, 3) := by decide +kernel
theorem d_Law_law_135 : decode code 135 = .ok (.iconst 0, 1) := by decide +kernel
theorem d_Law_law_136 : decode code 136 = .ok (.ireturn, 1) := by decide +kernel
theorem d_Law_law_137 : decode code 137 = .ok (.aload_n 1, 1) := by decide +kernel
theorem d_Law_law_138 : decode code 138 = .ok (.aload_n 0, 1) := by decide +kernel
theorem d_Law_law_139 : decode code 139 = .ok (.iload 4, 2) := by decide +kernel
theorem d_Law_law_141 : decode code 141 = .ok (.iconst 1, 1) := by decide +kernel
theorem d_Law_law_142 : decode code 142 = .ok (.iadd, 1) := by decide +kernel
theorem d_Law_law_143 : decode code 143 = .ok (.iaload, 1) := by decide +kernel
theorem d_Law_law_144 : decode code 144 = .ok (.aload_n 0, 1) := by decide +kernel
theorem d_Law_law_145 : decode code 145 = .ok (.iload 4, 2) := by decide +kernel
theorem d_Law_law_147 : decode code 147 = .ok (.iconst 2, 1) := by decide +kernel
theorem d_Law_law_148 : decode code 148 = .ok (.iadd, 1) := by decide +kernel
theorem d_Law_law_149 : decode code 149 = .ok (.iaload, 1) := by decide +kernel
theorem d_Law_law_150 : decode code 150 = .ok (.aload_n 0, 1) := by decide +kernel
theorem d_Law_law_151 : decode code 151 = .ok (.iload 4, 2) := by decide +kernel
theorem d_Law_law_153 : decode code 153 = .ok (.iconst 3, 1) := by decide +kernel
theorem d_Law_law_154 : decode code 154 = .ok (.iadd, 1) := by decide +kernel
theorem d_Law_law_155 : decode code 155 = .ok (.iaload, 1) := by decide +kernel
theorem d_Law_law_156 : decode code 156 = .ok (.aload_n 3, 1) := by decide +kernel
theorem d_Law_law_157 : decode code 157 = .ok (.invokestatic 50, 3) := by decide +kernel
theorem d_Law_law_160 : decode code 160 = .ok (.istore 5, 2) := by decide +kernel
theorem d_Law_law_162 : decode code 162 = .ok (.aload_n 2, 1) := by decide +kernel
theorem d_Law_law_163 : decode code 163 = .ok (.aload_n 0, 1) := by decide +kernel
theorem d_Law_law_164 : decode code 164 = .ok (.iload 4, 2) := by decide +kernel
theorem d_Law_law_166 : decode code 166 = .ok (.iconst 1, 1) := by decide +kernel
theorem d_Law_law_167 : decode code 167 = .ok (.iadd, 1) := by decide +kernel
theorem d_Law_law_168 : decode code 168 = .ok (.iaload, 1) := by decide +kernel
theorem d_Law_law_169 : decode code 169 = .ok (.aload_n 0, 1) := by decide +kernel
theorem d_Law_law_170 : decode code 170 = .ok (.iload 4, 2) := by decide +kernel
theorem d_Law_law_172 : decode code 172 = .ok (.iconst 2, 1) := by decide +kernel
theorem d_Law_law_173 : decode code 173 = .ok (.iadd, 1) := by decide +kernel
theorem d_Law_law_174 : decode code 174 = .ok (.iaload, 1) := by decide +kernel
theorem d_Law_law_175 : decode code 175 = .ok (.aload_n 0, 1) := by decide +kernel
theorem d_Law_law_176 : decode code 176 = .ok (.iload 4, 2) := by decide +kernel
theorem d_Law_law_178 : decode code 178 = .ok (.iconst 3, 1) := by decide +kernel
theorem d_Law_law_179 : decode code 179 = .ok (.iadd, 1) := by decide +kernel
theorem d_Law_law_180 : decode code 180 = .ok (.iaload, 1) := by decide +kernel
theorem d_Law_law_181 : decode code 181 = .ok (.invokevirtual 55, 3) := by decide +kernel
theorem d_Law_law_184 : decode code 184 = .ok (.istore 6, 2) := by decide +kernel
theorem d_Law_law_186 : decode code 186 = .ok (.goto 349, 3) := by decide +kernel
theorem d_Law_law_189 : decode code 189 = .ok (.aload_n 1, 1) := by decide +kernel
theorem d_Law_law_190 : decode code 190 = .ok (.aload_n 0, 1) := by decide +kernel
theorem d_Law_law_191 : decode code 191 = .ok (.iload 4, 2) := by decide +kernel
theorem d_Law_law_193 : decode code 193 = .ok (.iconst 1, 1) := by decide +kernel
theorem d_Law_law_194 : decode code 194 = .ok (.iadd, 1) := by decide +kernel
theorem d_Law_law_195 : decode code 195 = .ok (.iaload, 1) := by decide +kernel
theorem d_Law_law_196 : decode code 196 = .ok (.aload_n 0, 1) := by decide +kernel
theorem d_Law_law_197 : decode code 197 = .ok (.iload 4, 2) := by decide +kernel
theorem d_Law_law_199 : decode code 199 = .ok (.iconst 2, 1) := by decide +kernel
theorem d_Law_law_200 : decode code 200 = .ok (.iadd, 1) := by decide +kernel
theorem d_Law_law_201 : decode code 201 = .ok (.iaload, 1) := by decide +kernel
theorem d_Law_law_202 : decode code 202 = .ok (.aload_n 0, 1) := by decide +kernel
theorem d_Law_law_203 : decode code 203 = .ok (.iload 4, 2) := by decide +kernel
theorem d_Law_law_205 : decode code 205 = .ok (.iconst 3, 1) := by decide +kernel
theorem d_Law_law_206 : decode code 206 = .ok (.iadd, 1) := by decide +kernel
theorem d_Law_law_207 : decode code 207 = .ok (.iaload, 1) := by decide +kernel
theorem d_Law_law_208 : decode code 208 = .ok (.aload_n 0, 1) := by decide +kernel
theorem d_Law_law_209 : decode code 209 = .ok (.iload 4, 2) := by decide +kernel
theorem d_Law_law_211 : decode code 211 = .ok (.iconst 4, 1) := by decide +kernel
theorem d_Law_law_212 : decode code 212 = .ok (.iadd, 1) := by decide +kernel
theorem d_Law_law_213 : decode code 213 = .ok (.iaload, 1) := by decide +kernel
theorem d_Law_law_214 : decode code 214 = .ok (.invokestatic 56, 3) := by decide +kernel
theorem d_Law_law_217 : decode code 217 = .ok (.istore 5, 2) := by decide +kernel
theorem d_Law_law_219 : decode code 219 = .ok (.aload_n 2, 1) := by decide +kernel
theorem d_Law_law_220 : decode code 220 = .ok (.aload_n 0, 1) := by decide +kernel
theorem d_Law_law_221 : decode code 221 = .ok (.iload 4, 2) := by decide +kernel
theorem d_Law_law_223 : decode code 223 = .ok (.iconst 1, 1) := by decide +kernel
theorem d_Law_law_224 : decode code 224 = .ok (.iadd, 1) := by decide +kernel
theorem d_Law_law_225 : decode code 225 = .ok (.iaload, 1) := by decide +kernel
theorem d_Law_law_226 : decode code 226 = .ok (.aload_n 0, 1) := by decide +kernel
theorem d_Law_law_227 : decode code 227 = .ok (.iload 4, 2) := by decide +kernel
theorem d_Law_law_229 : decode code 229 = .ok (.iconst 2, 1) := by decide +kernel
theorem d_Law_law_230 : decode code 230 = .ok (.iadd, 1) := by decide +kernel
theorem d_Law_law_231 : decode code 231 = .ok (.iaload, 1) := by decide +kernel
theorem d_Law_law_232 : decode code 232 = .ok (.aload_n 0, 1) := by decide +kernel
theorem d_Law_law_233 : decode code 233 = .ok (.iload 4, 2) := by decide +kernel
theorem d_Law_law_235 : decode code 235 = .ok (.iconst 3, 1) := by decide +kernel
theorem d_Law_law_236 : decode code 236 = .ok (.iadd, 1) := by decide +kernel
theorem d_Law_law_237 : decode code 237 = .ok (.iaload, 1) := by decide +kernel
theorem d_Law_law_238 : decode code 238 = .ok (.aload_n 0, 1) := by decide +kernel
theorem d_Law_law_239 : decode code 239 = .ok (.iload 4, 2) := by decide +kernel
theorem d_Law_law_241 : decode code 241 = .ok (.iconst 4, 1) := by decide +kernel
theorem d_Law_law_242 : decode code 242 = .ok (.iadd, 1) := by decide +kernel
theorem d_Law_law_243 : decode code 243 = .ok (.iaload, 1) := by decide +kernel
theorem d_Law_law_244 : decode code 244 = .ok (.invokevirtual 59, 3) := by decide +kernel
theorem d_Law_law_247 : decode code 247 = .ok (.goto 288, 3) := by decide +kernel
theorem d_Law_law_250 : decode code 250 = .ok (.aload_n 1, 1) := by decide +kernel
theorem d_Law_law_251 : decode code 251 = .ok (.aload_n 0, 1) := by decide +kernel
theorem d_Law_law_252 : decode code 252 = .ok (.iload 4, 2) := by decide +kernel
theorem d_Law_law_254 : decode code 254 = .ok (.iconst 1, 1) := by decide +kernel
theorem d_Law_law_255 : decode code 255 = .ok (.iadd, 1) := by decide +kernel
theorem d_Law_law_256 : decode code 256 = .ok (.iaload, 1) := by decide +kernel
theorem d_Law_law_257 : decode code 257 = .ok (.aload_n 0, 1) := by decide +kernel
theorem d_Law_law_258 : decode code 258 = .ok (.iload 4, 2) := by decide +kernel
theorem d_Law_law_260 : decode code 260 = .ok (.iconst 2, 1) := by decide +kernel
theorem d_Law_law_261 : decode code 261 = .ok (.iadd, 1) := by decide +kernel
theorem d_Law_law_262 : decode code 262 = .ok (.iaload, 1) := by decide +kernel
theorem d_Law_law_263 : decode code 263 = .ok (.invokestatic 60, 3) := by decide +kernel
theorem d_Law_law_266 : decode code 266 = .ok (.istore 5, 2) := by decide +kernel
theorem d_Law_law_268 : decode code 268 = .ok (.aload_n 2, 1) := by decide +kernel
theorem d_Law_law_269 : decode code 269 = .ok (.aload_n 0, 1) := by decide +kernel
theorem d_Law_law_270 : decode code 270 = .ok (.iload 4, 2) := by decide +kernel
theorem d_Law_law_272 : decode code 272 = .ok (.iconst 1, 1) := by decide +kernel
theorem d_Law_law_273 : decode code 273 = .ok (.iadd, 1) := by decide +kernel
theorem d_Law_law_274 : decode code 274 = .ok (.iaload, 1) := by decide +kernel
theorem d_Law_law_275 : decode code 275 = .ok (.aload_n 0, 1) := by decide +kernel
theorem d_Law_law_276 : decode code 276 = .ok (.iload 4, 2) := by decide +kernel
theorem d_Law_law_278 : decode code 278 = .ok (.iconst 2, 1) := by decide +kernel
theorem d_Law_law_279 : decode code 279 = .ok (.iadd, 1) := by decide +kernel
theorem d_Law_law_280 : decode code 280 = .ok (.iaload, 1) := by decide +kernel
theorem d_Law_law_281 : decode code 281 = .ok (.invokevirtual 63, 3) := by decide +kernel
theorem d_Law_law_284 : decode code 284 = .ok (.goto 251, 3) := by decide +kernel
theorem d_Law_law_287 : decode code 287 = .ok (.aload_n 1, 1) := by decide +kernel
theorem d_Law_law_288 : decode code 288 = .ok (.aload_n 0, 1) := by decide +kernel
theorem d_Law_law_289 : decode code 289 = .ok (.iload 4, 2) := by decide +kernel
theorem d_Law_law_291 : decode code 291 = .ok (.iconst 1, 1) := by decide +kernel
theorem d_Law_law_292 : decode code 292 = .ok (.iadd, 1) := by decide +kernel
theorem d_Law_law_293 : decode code 293 = .ok (.iaload, 1) := by decide +kernel
theorem d_Law_law_294 : decode code 294 = .ok (.invokevirtual 64, 3) := by decide +kernel
theorem d_Law_law_297 : decode code 297 = .ok (.pop, 1) := by decide +kernel
theorem d_Law_law_298 : decode code 298 = .ok (.aload_n 2, 1) := by decide +kernel
theorem d_Law_law_299 : decode code 299 = .ok (.aload_n 0, 1) := by decide +kernel
theorem d_Law_law_300 : decode code 300 = .ok (.iload 4, 2) := by decide +kernel
theorem d_Law_law_302 : decode code 302 = .ok (.iconst 1, 1) := by decide +kernel
theorem d_Law_law_303 : decode code 303 = .ok (.iadd, 1) := by decide +kernel
theorem d_Law_law_304 : decode code 304 = .ok (.iaload, 1) := by decide +kernel
theorem d_Law_law_305 : decode code 305 = .ok (.invokevirtual 67, 3) := by decide +kernel
theorem d_Law_law_308 : decode code 308 = .ok (.pop, 1) := by decide +kernel
theorem d_Law_law_309 : decode code 309 = .ok (.goto 226, 3) := by decide +kernel
theorem d_Law_law_312 : decode code 312 = .ok (.aload_n 1, 1) := by decide +kernel
theorem d_Law_law_313 : decode code 313 = .ok (.invokevirtual 68, 3) := by decide +kernel
theorem d_Law_law_316 : decode code 316 = .ok (.pop, 1) := by decide +kernel
theorem d_Law_law_317 : decode code 317 = .ok (.aload_n 2, 1) := by decide +kernel
