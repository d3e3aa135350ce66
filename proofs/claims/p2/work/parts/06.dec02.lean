theorem d_Teller_calculate_38 : decode prog_6_method_20_code 38 = .ok (.aload_n 0, 1) := by decide +kernel
theorem d_Teller_calculate_39 : decode prog_6_method_20_code 39 = .ok (.getfield 22, 3) := by decide +kernel
theorem d_Teller_calculate_42 : decode prog_6_method_20_code 42 = .ok (.getfield 71, 3) := by decide +kernel
theorem d_Teller_calculate_45 : decode prog_6_method_20_code 45 = .ok (.iload_n 3, 1) := by decide +kernel
theorem d_Teller_calculate_46 : decode prog_6_method_20_code 46 = .ok (.iaload, 1) := by decide +kernel
theorem d_Teller_calculate_47 : decode prog_6_method_20_code 47 = .ok (.iconst 2, 1) := by decide +kernel
theorem d_Teller_calculate_48 : decode prog_6_method_20_code 48 = .ok (.if_icmp .eq 5, 3) := by decide +kernel
theorem d_Teller_calculate_51 : decode prog_6_method_20_code 51 = .ok (.iconst 0, 1) := by decide +kernel
theorem d_Teller_calculate_52 : decode prog_6_method_20_code 52 = .ok (.ireturn, 1) := by decide +kernel
theorem d_Teller_calculate_53 : decode prog_6_method_20_code 53 = .ok (.aload_n 0, 1) := by decide +kernel
theorem d_Teller_calculate_54 : decode prog_6_method_20_code 54 = .ok (.getfield 22, 3) := by decide +kernel
theorem d_Teller_calculate_57 : decode prog_6_method_20_code 57 = .ok (.getfield 75, 3) := by decide +kernel
theorem d_Teller_calculate_60 : decode prog_6_method_20_code 60 = .ok (.iload 4, 2) := by decide +kernel
theorem d_Teller_calculate_62 : decode prog_6_method_20_code 62 = .ok (.iaload, 1) := by decide +kernel
theorem d_Teller_calculate_63 : decode prog_6_method_20_code 63 = .ok (.istore 5, 2) := by decide +kernel
theorem d_Teller_calculate_65 : decode prog_6_method_20_code 65 = .ok (.aload_n 0, 1) := by decide +kernel
theorem d_Teller_calculate_66 : decode prog_6_method_20_code 66 = .ok (.getfield 22, 3) := by decide +kernel
theorem d_Teller_calculate_69 : decode prog_6_method_20_code 69 = .ok (.getfield 75, 3) := by decide +kernel
theorem d_Teller_calculate_72 : decode prog_6_method_20_code 72 = .ok (.iload_n 3, 1) := by decide +kernel
theorem d_Teller_calculate_73 : decode prog_6_method_20_code 73 = .ok (.iaload, 1) := by decide +kernel
theorem d_Teller_calculate_74 : decode prog_6_method_20_code 74 = .ok (.istore 6, 2) := by decide +kernel
theorem d_Teller_calculate_76 : decode prog_6_method_20_code 76 = .ok (.iload_n 2, 1) := by decide +kernel
theorem d_Teller_calculate_77 : decode prog_6_method_20_code 77 = .ok (.bipush 15, 2) := by decide +kernel
theorem d_Teller_calculate_79 : decode prog_6_method_20_code 79 = .ok (.if_icmp .ne 33, 3) := by decide +kernel
theorem d_Teller_calculate_82 : decode prog_6_method_20_code 82 = .ok (.iload 6, 2) := by decide +kernel
theorem d_Teller_calculate_84 : decode prog_6_method_20_code 84 = .ok (.ifCond .ne 28, 3) := by decide +kernel
theorem d_Teller_calculate_87 : decode prog_6_method_20_code 87 = .ok (.aload_n 0, 1) := by decide +kernel
theorem d_Teller_calculate_88 : decode prog_6_method_20_code 88 = .ok (.getfield 40, 3) := by decide +kernel
theorem d_Teller_calculate_91 : decode prog_6_method_20_code 91 = .ok (.iconst 0, 1) := by decide +kernel
theorem d_Teller_calculate_92 : decode prog_6_method_20_code 92 = .ok (.invokevirtual 126, 3) := by decide +kernel
theorem d_Teller_calculate_95 : decode prog_6_method_20_code 95 = .ok (.ifCond .eq 15, 3) := by decide +kernel
theorem d_Teller_calculate_98 : decode prog_6_method_20_code 98 = .ok (.aload_n 0, 1) := by decide +kernel
theorem d_Teller_calculate_99 : decode prog_6_method_20_code 99 = .ok (.iconst 0, 1) := by decide +kernel
theorem d_Teller_calculate_100 : decode prog_6_method_20_code 100 = .ok (.invokevirtual 193, 3) := by decide +kernel
theorem d_Teller_calculate_103 : decode prog_6_method_20_code 103 = .ok (.ifCond .eq 7, 3) := by decide +kernel
theorem d_Teller_calculate_106 : decode prog_6_method_20_code 106 = .ok (.iconst 1, 1) := by decide +kernel
theorem d_Teller_calculate_107 : decode prog_6_method_20_code 107 = .ok (.goto 4, 3) := by decide +kernel
theorem d_Teller_calculate_110 : decode prog_6_method_20_code 110 = .ok (.iconst 0, 1) := by decide +kernel
theorem d_Teller_calculate_111 : decode prog_6_method_20_code 111 = .ok (.ireturn, 1) := by decide +kernel
theorem d_Teller_calculate_112 : decode prog_6_method_20_code 112 = .ok (.iload_n 2, 1) := by decide +kernel
theorem d_Teller_calculate_113 : decode prog_6_method_20_code 113 = .ok (.bipush 16, 2) := by decide +kernel
theorem d_Teller_calculate_115 : decode prog_6_method_20_code 115 = .ok (.if_icmp .ne 22, 3) := by decide +kernel
theorem d_Teller_calculate_118 : decode prog_6_method_20_code 118 = .ok (.aload_n 0, 1) := by decide +kernel
theorem d_Teller_calculate_119 : decode prog_6_method_20_code 119 = .ok (.aload_n 1, 1) := by decide +kernel
theorem d_Teller_calculate_120 : decode prog_6_method_20_code 120 = .ok (.iconst 2, 1) := by decide +kernel
theorem d_Teller_calculate_121 : decode prog_6_method_20_code 121 = .ok (.iload 5, 2) := by decide +kernel
theorem d_Teller_calculate_123 : decode prog_6_method_20_code 123 = .ok (.iload 6, 2) := by decide +kernel
theorem d_Teller_calculate_125 : decode prog_6_method_20_code 125 = .ok (.if_icmp .ge 7, 3) := by decide +kernel
theorem d_Teller_calculate_128 : decode prog_6_method_20_code 128 = .ok (.iconst 1, 1) := by decide +kernel
theorem d_Teller_calculate_129 : decode prog_6_method_20_code 129 = .ok (.goto 4, 3) := by decide +kernel
theorem d_Teller_calculate_132 : decode prog_6_method_20_code 132 = .ok (.iconst 0, 1) := by decide +kernel
theorem d_Teller_calculate_133 : decode prog_6_method_20_code 133 = .ok (.invokevirtual 161, 3) := by decide +kernel
theorem d_Teller_calculate_136 : decode prog_6_method_20_code 136 = .ok (.ireturn, 1) := by decide +kernel
theorem d_Teller_calculate_137 : decode prog_6_method_20_code 137 = .ok (.aload_n 0, 1) := by decide +kernel
theorem d_Teller_calculate_138 : decode prog_6_method_20_code 138 = .ok (.getfield 22, 3) := by decide +kernel
theorem d_Teller_calculate_141 : decode prog_6_method_20_code 141 = .ok (.dup, 1) := by decide +kernel
theorem d_Teller_calculate_142 : decode prog_6_method_20_code 142 = .ok (.getfield 52, 3) := by decide +kernel
theorem d_Teller_calculate_145 : decode prog_6_method_20_code 145 = .ok (.iconst 2, 1) := by decide +kernel
theorem d_Teller_calculate_146 : decode prog_6_method_20_code 146 = .ok (.isub, 1) := by decide +kernel
theorem d_Teller_calculate_147 : decode prog_6_method_20_code 147 = .ok (.putfield 52, 3) := by decide +kernel
theorem d_Teller_calculate_150 : decode prog_6_method_20_code 150 = .ok (.aload_n 0, 1) := by decide +kernel
theorem d_Teller_calculate_151 : decode prog_6_method_20_code 151 = .ok (.aload_n 1, 1) := by decide +kernel
theorem d_Teller_calculate_152 : decode prog_6_method_20_code 152 = .ok (.iconst 2, 1) := by decide +kernel
theorem d_Teller_calculate_153 : decode prog_6_method_20_code 153 = .ok (.iload_n 2, 1) := by decide +kernel
theorem d_Teller_calculate_154 : decode prog_6_method_20_code 154 = .ok (.iload 5, 2) := by decide +kernel
theorem d_Teller_calculate_156 : decode prog_6_method_20_code 156 = .ok (.iload 6, 2) := by decide +kernel
theorem d_Teller_calculate_158 : decode prog_6_method_20_code 158 = .ok (.invokestatic 226, 3) := by decide +kernel
theorem d_Teller_calculate_161 : decode prog_6_method_20_code 161 = .ok (.invokevirtual 119, 3) := by decide +kernel
theorem d_Teller_calculate_164 : decode prog_6_method_20_code 164 = .ok (.ireturn, 1) := by decide +kernel
theorem d_Teller_canTake_0 : decode prog_6_method_12_code 0 = .ok (.aload_n 0, 1) := by decide +kernel
theorem d_Teller_canTake_1 : decode prog_6_method_12_code 1 = .ok (.getfield 22, 3) := by decide +kernel
theorem d_Teller_canTake_4 : decode prog_6_method_12_code 4 = .ok (.getfield 52, 3) := by decide +kernel
theorem d_Teller_canTake_7 : decode prog_6_method_12_code 7 = .ok (.iload_n 2, 1) := by decide +kernel
theorem d_Teller_canTake_8 : decode prog_6_method_12_code 8 = .ok (.isub, 1) := by decide +kernel
theorem d_Teller_canTake_9 : decode prog_6_method_12_code 9 = .ok (.aload_n 1, 1) := by decide +kernel
theorem d_Teller_canTake_10 : decode prog_6_method_12_code 10 = .ok (.getfield 223, 3) := by decide +kernel
theorem d_Teller_canTake_13 : decode prog_6_method_12_code 13 = .ok (.if_icmp .lt 7, 3) := by decide +kernel
theorem d_Teller_canTake_16 : decode prog_6_method_12_code 16 = .ok (.iconst 1, 1) := by decide +kernel
theorem d_Teller_canTake_17 : decode prog_6_method_12_code 17 = .ok (.goto 4, 3) := by decide +kernel
theorem d_Teller_canTake_20 : decode prog_6_method_12_code 20 = .ok (.iconst 0, 1) := by decide +kernel
theorem d_Teller_canTake_21 : decode prog_6_method_12_code 21 = .ok (.ireturn, 1) := by decide +kernel
theorem d_Teller_end_0 : decode prog_6_method_30_code 0 = .ok (.aload_n 0, 1) := by decide +kernel
theorem d_Teller_end_1 : decode prog_6_method_30_code 1 = .ok (.getfield 49, 3) := by decide +kernel
theorem d_Teller_end_4 : decode prog_6_method_30_code 4 = .ok (.iconst 1, 1) := by decide +kernel
theorem d_Teller_end_5 : decode prog_6_method_30_code 5 = .ok (.if_icmp .ne 11, 3) := by decide +kernel
theorem d_Teller_end_8 : decode prog_6_method_30_code 8 = .ok (.aload_n 0, 1) := by decide +kernel
theorem d_Teller_end_9 : decode prog_6_method_30_code 9 = .ok (.iconst 1, 1) := by decide +kernel
theorem d_Teller_end_10 : decode prog_6_method_30_code 10 = .ok (.iload_n 2, 1) := by decide +kernel
theorem d_Teller_end_11 : decode prog_6_method_30_code 11 = .ok (.iload_n 3, 1) := by decide +kernel
theorem d_Teller_end_12 : decode prog_6_method_30_code 12 = .ok (.invokevirtual 265, 3) := by decide +kernel
theorem d_Teller_end_15 : decode prog_6_method_30_code 15 = .ok (.ireturn, 1) := by decide +kernel
theorem d_Teller_end_16 : decode prog_6_method_30_code 16 = .ok (.aload_n 1, 1) := by decide +kernel
theorem d_Teller_end_17 : decode prog_6_method_30_code 17 = .ok (.getfield 137, 3) := by decide +kernel
theorem d_Teller_end_20 : decode prog_6_method_30_code 20 = .ok (.bipush 40, 2) := by decide +kernel
theorem d_Teller_end_22 : decode prog_6_method_30_code 22 = .ok (.if_icmp .lt 5, 3) := by decide +kernel
theorem d_Teller_end_25 : decode prog_6_method_30_code 25 = .ok (.iconst 0, 1) := by decide +kernel
theorem d_Teller_end_26 : decode prog_6_method_30_code 26 = .ok (.ireturn, 1) := by decide +kernel
theorem d_Teller_end_27 : decode prog_6_method_30_code 27 = .ok (.aload_n 0, 1) := by decide +kernel
theorem d_Teller_end_28 : decode prog_6_method_30_code 28 = .ok (.dup, 1) := by decide +kernel
theorem d_Teller_end_29 : decode prog_6_method_30_code 29 = .ok (.getfield 49, 3) := by decide +kernel
theorem d_Teller_end_32 : decode prog_6_method_30_code 32 = .ok (.iconst 1, 1) := by decide +kernel
theorem d_Teller_end_33 : decode prog_6_method_30_code 33 = .ok (.isub, 1) := by decide +kernel
theorem d_Teller_end_34 : decode prog_6_method_30_code 34 = .ok (.putfield 49, 3) := by decide +kernel
theorem d_Teller_end_37 : decode prog_6_method_30_code 37 = .ok (.aload_n 0, 1) := by decide +kernel
theorem d_Teller_end_38 : decode prog_6_method_30_code 38 = .ok (.getfield 22, 3) := by decide +kernel
theorem d_Teller_end_41 : decode prog_6_method_30_code 41 = .ok (.aload_n 1, 1) := by decide +kernel
theorem d_Teller_end_42 : decode prog_6_method_30_code 42 = .ok (.getfield 137, 3) := by decide +kernel
theorem d_Teller_end_45 : decode prog_6_method_30_code 45 = .ok (.putfield 52, 3) := by decide +kernel
theorem d_Teller_end_48 : decode prog_6_method_30_code 48 = .ok (.aload_n 0, 1) := by decide +kernel
theorem d_Teller_end_49 : decode prog_6_method_30_code 49 = .ok (.aload_n 0, 1) := by decide +kernel
theorem d_Teller_end_50 : decode prog_6_method_30_code 50 = .ok (.invokevirtual 93, 3) := by decide +kernel
theorem d_Teller_end_53 : decode prog_6_method_30_code 53 = .ok (.iload_n 2, 1) := by decide +kernel
theorem d_Teller_end_54 : decode prog_6_method_30_code 54 = .ok (.iload_n 3, 1) := by decide +kernel
theorem d_Teller_end_55 : decode prog_6_method_30_code 55 = .ok (.invokevirtual 119, 3) := by decide +kernel
theorem d_Teller_end_58 : decode prog_6_method_30_code 58 = .ok (.ireturn, 1) := by decide +kernel
theorem d_Teller_enter_0 : decode prog_6_method_28_code 0 = .ok (.aload_n 0, 1) := by decide +kernel
theorem d_Teller_enter_1 : decode prog_6_method_28_code 1 = .ok (.getfield 49, 3) := by decide +kernel
theorem d_Teller_enter_4 : decode prog_6_method_28_code 4 = .ok (.bipush 8, 2) := by decide +kernel
theorem d_Teller_enter_6 : decode prog_6_method_28_code 6 = .ok (.if_icmp .eq 38, 3) := by decide +kernel
theorem d_Teller_enter_9 : decode prog_6_method_28_code 9 = .ok (.aload_n 0, 1) := by decide +kernel
theorem d_Teller_enter_10 : decode prog_6_method_28_code 10 = .ok (.getfield 36, 3) := by decide +kernel
theorem d_Teller_enter_13 : decode prog_6_method_28_code 13 = .ok (.iload_n 1, 1) := by decide +kernel
theorem d_Teller_enter_14 : decode prog_6_method_28_code 14 = .ok (.iload_n 2, 1) := by decide +kernel
theorem d_Teller_enter_15 : decode prog_6_method_28_code 15 = .ok (.invokevirtual 248, 3) := by decide +kernel
theorem d_Teller_enter_18 : decode prog_6_method_28_code 18 = .ok (.ifCond .eq 26, 3) := by decide +kernel
theorem d_Teller_enter_21 : decode prog_6_method_28_code 21 = .ok (.aload_n 0, 1) := by decide +kernel
theorem d_Teller_enter_22 : decode prog_6_method_28_code 22 = .ok (.getfield 22, 3) := by decide +kernel
theorem d_Teller_enter_25 : decode prog_6_method_28_code 25 = .ok (.getfield 52, 3) := by decide +kernel
theorem d_Teller_enter_28 : decode prog_6_method_28_code 28 = .ok (.iload_n 3, 1) := by decide +kernel
theorem d_Teller_enter_29 : decode prog_6_method_28_code 29 = .ok (.isub, 1) := by decide +kernel
theorem d_Teller_enter_30 : decode prog_6_method_28_code 30 = .ok (.aload_n 0, 1) := by decide +kernel
theorem d_Teller_enter_31 : decode prog_6_method_28_code 31 = .ok (.getfield 36, 3) := by decide +kernel
theorem d_Teller_enter_34 : decode prog_6_method_28_code 34 = .ok (.iload_n 1, 1) := by decide +kernel
theorem d_Teller_enter_35 : decode prog_6_method_28_code 35 = .ok (.invokevirtual 251, 3) := by decide +kernel
theorem d_Teller_enter_38 : decode prog_6_method_28_code 38 = .ok (.iadd, 1) := by decide +kernel
theorem d_Teller_enter_39 : decode prog_6_method_28_code 39 = .ok (.bipush 40, 2) := by decide +kernel
theorem d_Teller_enter_41 : decode prog_6_method_28_code 41 = .ok (.if_icmp .le 5, 3) := by decide +kernel
theorem d_Teller_enter_44 : decode prog_6_method_28_code 44 = .ok (.iconst 0, 1) := by decide +kernel
theorem d_Teller_enter_45 : decode prog_6_method_28_code 45 = .ok (.ireturn, 1) := by decide +kernel
theorem d_Teller_enter_46 : decode prog_6_method_28_code 46 = .ok (.aload_n 0, 1) := by decide +kernel
theorem d_Teller_enter_47 : decode prog_6_method_28_code 47 = .ok (.getfield 22, 3) := by decide +kernel
theorem d_Teller_enter_50 : decode prog_6_method_28_code 50 = .ok (.dup, 1) := by decide +kernel
theorem d_Teller_enter_51 : decode prog_6_method_28_code 51 = .ok (.getfield 52, 3) := by decide +kernel
theorem d_Teller_enter_54 : decode prog_6_method_28_code 54 = .ok (.iload_n 3, 1) := by decide +kernel
theorem d_Teller_enter_55 : decode prog_6_method_28_code 55 = .ok (.isub, 1) := by decide +kernel
theorem d_Teller_enter_56 : decode prog_6_method_28_code 56 = .ok (.putfield 52, 3) := by decide +kernel
theorem d_Teller_enter_59 : decode prog_6_method_28_code 59 = .ok (.aload_n 0, 1) := by decide +kernel
theorem d_Teller_enter_60 : decode prog_6_method_28_code 60 = .ok (.getfield 11, 3) := by decide +kernel
theorem d_Teller_enter_63 : decode prog_6_method_28_code 63 = .ok (.aload_n 0, 1) := by decide +kernel
theorem d_Teller_enter_64 : decode prog_6_method_28_code 64 = .ok (.getfield 49, 3) := by decide +kernel
theorem d_Teller_enter_67 : decode prog_6_method_28_code 67 = .ok (.aaload, 1) := by decide +kernel
theorem d_Teller_enter_68 : decode prog_6_method_28_code 68 = .ok (.astore 6, 2) := by decide +kernel
theorem d_Teller_enter_70 : decode prog_6_method_28_code 70 = .ok (.aload_n 0, 1) := by decide +kernel
theorem d_Teller_enter_71 : decode prog_6_method_28_code 71 = .ok (.dup, 1) := by decide +kernel
theorem d_Teller_enter_72 : decode prog_6_method_28_code 72 = .ok (.getfield 49, 3) := by decide +kernel
theorem d_Teller_enter_75 : decode prog_6_method_28_code 75 = .ok (.iconst 1, 1) := by decide +kernel
theorem d_Teller_enter_76 : decode prog_6_method_28_code 76 = .ok (.iadd, 1) := by decide +kernel
theorem d_Teller_enter_77 : decode prog_6_method_28_code 77 = .ok (.putfield 49, 3) := by decide +kernel
theorem d_Teller_enter_80 : decode prog_6_method_28_code 80 = .ok (.aload 6, 2) := by decide +kernel
theorem d_Teller_enter_82 : decode prog_6_method_28_code 82 = .ok (.iload_n 1, 1) := by decide +kernel
theorem d_Teller_enter_83 : decode prog_6_method_28_code 83 = .ok (.putfield 254, 3) := by decide +kernel
theorem d_Teller_enter_86 : decode prog_6_method_28_code 86 = .ok (.aload 6, 2) := by decide +kernel
theorem d_Teller_enter_88 : decode prog_6_method_28_code 88 = .ok (.aload_n 0, 1) := by decide +kernel
theorem d_Teller_enter_89 : decode prog_6_method_28_code 89 = .ok (.getfield 36, 3) := by decide +kernel
theorem d_Teller_enter_92 : decode prog_6_method_28_code 92 = .ok (.iload_n 1, 1) := by decide +kernel
theorem d_Teller_enter_93 : decode prog_6_method_28_code 93 = .ok (.invokevirtual 257, 3) := by decide +kernel
theorem d_Teller_enter_96 : decode prog_6_method_28_code 96 = .ok (.putfield 260, 3) := by decide +kernel
theorem d_Teller_enter_99 : decode prog_6_method_28_code 99 = .ok (.aload 6, 2) := by decide +kernel
theorem d_Teller_enter_101 : decode prog_6_method_28_code 101 = .ok (.iload 4, 2) := by decide +kernel
theorem d_Teller_enter_103 : decode prog_6_method_28_code 103 = .ok (.putfield 84, 3) := by decide +kernel
theorem d_Teller_enter_106 : decode prog_6_method_28_code 106 = .ok (.aload 6, 2) := by decide +kernel
theorem d_Teller_enter_108 : decode prog_6_method_28_code 108 = .ok (.iload 5, 2) := by decide +kernel
theorem d_Teller_enter_110 : decode prog_6_method_28_code 110 = .ok (.putfield 90, 3) := by decide +kernel
theorem d_Teller_enter_113 : decode prog_6_method_28_code 113 = .ok (.aload 6, 2) := by decide +kernel
theorem d_Teller_enter_115 : decode prog_6_method_28_code 115 = .ok (.aload 6, 2) := by decide +kernel
theorem d_Teller_enter_117 : decode prog_6_method_28_code 117 = .ok (.getfield 260, 3) := by decide +kernel
theorem d_Teller_enter_120 : decode prog_6_method_28_code 120 = .ok (.putfield 97, 3) := by decide +kernel
theorem d_Teller_enter_123 : decode prog_6_method_28_code 123 = .ok (.aload 6, 2) := by decide +kernel
theorem d_Teller_enter_125 : decode prog_6_method_28_code 125 = .ok (.aload_n 0, 1) := by decide +kernel
theorem d_Teller_enter_126 : decode prog_6_method_28_code 126 = .ok (.getfield 22, 3) := by decide +kernel
theorem d_Teller_enter_129 : decode prog_6_method_28_code 129 = .ok (.getfield 52, 3) := by decide +kernel
theorem d_Teller_enter_132 : decode prog_6_method_28_code 132 = .ok (.iload_n 2, 1) := by decide +kernel
theorem d_Teller_enter_133 : decode prog_6_method_28_code 133 = .ok (.isub, 1) := by decide +kernel
theorem d_Teller_enter_134 : decode prog_6_method_28_code 134 = .ok (.putfield 137, 3) := by decide +kernel
theorem d_Teller_enter_137 : decode prog_6_method_28_code 137 = .ok (.aload_n 0, 1) := by decide +kernel
theorem d_Teller_enter_138 : decode prog_6_method_28_code 138 = .ok (.getfield 36, 3) := by decide +kernel
theorem d_Teller_enter_141 : decode prog_6_method_28_code 141 = .ok (.iload_n 1, 1) := by decide +kernel
theorem d_Teller_enter_142 : decode prog_6_method_28_code 142 = .ok (.invokevirtual 251, 3) := by decide +kernel
theorem d_Teller_enter_145 : decode prog_6_method_28_code 145 = .ok (.istore 7, 2) := by decide +kernel
theorem d_Teller_enter_147 : decode prog_6_method_28_code 147 = .ok (.iload 7, 2) := by decide +kernel
theorem d_Teller_enter_149 : decode prog_6_method_28_code 149 = .ok (.ifCond .le 19, 3) := by decide +kernel
theorem d_Teller_enter_152 : decode prog_6_method_28_code 152 = .ok (.aload_n 0, 1) := by decide +kernel
theorem d_Teller_enter_153 : decode prog_6_method_28_code 153 = .ok (.getfield 22, 3) := by decide +kernel
theorem d_Teller_enter_156 : decode prog_6_method_28_code 156 = .ok (.iconst 0, 1) := by decide +kernel
theorem d_Teller_enter_157 : decode prog_6_method_28_code 157 = .ok (.iconst 0, 1) := by decide +kernel
theorem d_Teller_enter_158 : decode prog_6_method_28_code 158 = .ok (.invokevirtual 64, 3) := by decide +kernel
theorem d_Teller_enter_161 : decode prog_6_method_28_code 161 = .ok (.pop, 1) := by decide +kernel
theorem d_Teller_enter_162 : decode prog_6_method_28_code 162 = .ok (.iinc 7 (-1), 3) := by decide +kernel
theorem d_Teller_enter_165 : decode prog_6_method_28_code 165 = .ok (.goto (-18), 3) := by decide +kernel
theorem d_Teller_enter_168 : decode prog_6_method_28_code 168 = .ok (.aload 6, 2) := by decide +kernel
theorem d_Teller_enter_170 : decode prog_6_method_28_code 170 = .ok (.aload_n 0, 1) := by decide +kernel
theorem d_Teller_enter_171 : decode prog_6_method_28_code 171 = .ok (.getfield 22, 3) := by decide +kernel
theorem d_Teller_enter_174 : decode prog_6_method_28_code 174 = .ok (.getfield 52, 3) := by decide +kernel
theorem d_Teller_enter_177 : decode prog_6_method_28_code 177 = .ok (.putfield 223, 3) := by decide +kernel
theorem d_Teller_enter_180 : decode prog_6_method_28_code 180 = .ok (.iconst 1, 1) := by decide +kernel
theorem d_Teller_enter_181 : decode prog_6_method_28_code 181 = .ok (.ireturn, 1) := by decide +kernel
theorem d_Teller_finish_0 : decode prog_6_method_5_code 0 = .ok (.aload_n 0, 1) := by decide +kernel
theorem d_Teller_finish_1 : decode prog_6_method_5_code 1 = .ok (.iconst 0, 1) := by decide +kernel
theorem d_Teller_finish_2 : decode prog_6_method_5_code 2 = .ok (.putfield 49, 3) := by decide +kernel
theorem d_Teller_finish_5 : decode prog_6_method_5_code 5 = .ok (.aload_n 0, 1) := by decide +kernel
theorem d_Teller_finish_6 : decode prog_6_method_5_code 6 = .ok (.getfield 22, 3) := by decide +kernel
theorem d_Teller_finish_9 : decode prog_6_method_5_code 9 = .ok (.iconst 0, 1) := by decide +kernel
theorem d_Teller_finish_10 : decode prog_6_method_5_code 10 = .ok (.putfield 52, 3) := by decide +kernel
theorem d_Teller_finish_13 : decode prog_6_method_5_code 13 = .ok (.aload_n 0, 1) := by decide +kernel
theorem d_Teller_finish_14 : decode prog_6_method_5_code 14 = .ok (.getfield 29, 3) := by decide +kernel
theorem d_Teller_finish_17 : decode prog_6_method_5_code 17 = .ok (.iload_n 2, 1) := by decide +kernel
theorem d_Teller_finish_18 : decode prog_6_method_5_code 18 = .ok (.iload_n 3, 1) := by decide +kernel
theorem d_Teller_finish_19 : decode prog_6_method_5_code 19 = .ok (.invokevirtual 64, 3) := by decide +kernel
theorem d_Teller_finish_22 : decode prog_6_method_5_code 22 = .ok (.pop, 1) := by decide +kernel
theorem d_Teller_finish_23 : decode prog_6_method_5_code 23 = .ok (.aload_n 0, 1) := by decide +kernel
theorem d_Teller_finish_24 : decode prog_6_method_5_code 24 = .ok (.iload_n 1, 1) := by decide +kernel
theorem d_Teller_finish_25 : decode prog_6_method_5_code 25 = .ok (.invokevirtual 68, 3) := by decide +kernel
theorem d_Teller_finish_28 : decode prog_6_method_5_code 28 = .ok (.iconst 1, 1) := by decide +kernel
theorem d_Teller_finish_29 : decode prog_6_method_5_code 29 = .ok (.ireturn, 1) := by decide +kernel
theorem d_Teller_goOn_0 : decode prog_6_method_8_code 0 = .ok (.aload_n 1, 1) := by decide +kernel
theorem d_Teller_goOn_1 : decode prog_6_method_8_code 1 = .ok (.aload_n 1, 1) := by decide +kernel
theorem d_Teller_goOn_2 : decode prog_6_method_8_code 2 = .ok (.getfield 110, 3) := by decide +kernel
theorem d_Teller_goOn_5 : decode prog_6_method_8_code 5 = .ok (.putfield 97, 3) := by decide +kernel
theorem d_Teller_goOn_8 : decode prog_6_method_8_code 8 = .ok (.iconst 1, 1) := by decide +kernel
theorem d_Teller_goOn_9 : decode prog_6_method_8_code 9 = .ok (.ireturn, 1) := by decide +kernel
theorem d_Teller_goal_0 : decode prog_6_method_32_code 0 = .ok (.aload_n 1, 1) := by decide +kernel
theorem d_Teller_goal_1 : decode prog_6_method_32_code 1 = .ok (.getfield 97, 3) := by decide +kernel
theorem d_Teller_goal_4 : decode prog_6_method_32_code 4 = .ok (.aload_n 1, 1) := by decide +kernel
theorem d_Teller_goal_5 : decode prog_6_method_32_code 5 = .ok (.getfield 260, 3) := by decide +kernel
theorem d_Teller_goal_8 : decode prog_6_method_32_code 8 = .ok (.isub, 1) := by decide +kernel
theorem d_Teller_goal_9 : decode prog_6_method_32_code 9 = .ok (.istore_n 2, 1) := by decide +kernel
theorem d_Teller_goal_10 : decode prog_6_method_32_code 10 = .ok (.aload_n 1, 1) := by decide +kernel
theorem d_Teller_goal_11 : decode prog_6_method_32_code 11 = .ok (.getfield 254, 3) := by decide +kernel
theorem d_Teller_goal_14 : decode prog_6_method_32_code 14 = .ok (.iconst 3, 1) := by decide +kernel
theorem d_Teller_goal_15 : decode prog_6_method_32_code 15 = .ok (.iadd, 1) := by decide +kernel
theorem d_Teller_goal_16 : decode prog_6_method_32_code 16 = .ok (.istore_n 3, 1) := by decide +kernel
theorem d_Teller_goal_17 : decode prog_6_method_32_code 17 = .ok (.iload_n 3, 1) := by decide +kernel
theorem d_Teller_goal_18 : decode prog_6_method_32_code 18 = .ok (.aload_n 1, 1) := by decide +kernel
theorem d_Teller_goal_19 : decode prog_6_method_32_code 19 = .ok (.getfield 260, 3) := by decide +kernel
theorem d_Teller_goal_22 : decode prog_6_method_32_code 22 = .ok (.if_icmp .ge 72, 3) := by decide +kernel
theorem d_Teller_goal_25 : decode prog_6_method_32_code 25 = .ok (.aload_n 0, 1) := by decide +kernel
theorem d_Teller_goal_26 : decode prog_6_method_32_code 26 = .ok (.getfield 36, 3) := by decide +kernel
theorem d_Teller_goal_29 : decode prog_6_method_32_code 29 = .ok (.iload_n 3, 1) := by decide +kernel
theorem d_Teller_goal_30 : decode prog_6_method_32_code 30 = .ok (.invokevirtual 112, 3) := by decide +kernel
theorem d_Teller_goal_33 : decode prog_6_method_32_code 33 = .ok (.iload_n 2, 1) := by decide +kernel
theorem d_Teller_goal_34 : decode prog_6_method_32_code 34 = .ok (.if_icmp .gt 54, 3) := by decide +kernel
theorem d_Teller_goal_37 : decode prog_6_method_32_code 37 = .ok (.iload_n 2, 1) := by decide +kernel
theorem d_Teller_goal_38 : decode prog_6_method_32_code 38 = .ok (.aload_n 0, 1) := by decide +kernel
theorem d_Teller_goal_39 : decode prog_6_method_32_code 39 = .ok (.getfield 36, 3) := by decide +kernel
theorem d_Teller_goal_42 : decode prog_6_method_32_code 42 = .ok (.iload_n 3, 1) := by decide +kernel
theorem d_Teller_goal_43 : decode prog_6_method_32_code 43 = .ok (.iconst 1, 1) := by decide +kernel
theorem d_Teller_goal_44 : decode prog_6_method_32_code 44 = .ok (.iadd, 1) := by decide +kernel
theorem d_Teller_goal_45 : decode prog_6_method_32_code 45 = .ok (.invokevirtual 112, 3) := by decide +kernel
theorem d_Teller_goal_48 : decode prog_6_method_32_code 48 = .ok (.if_icmp .gt 40, 3) := by decide +kernel
theorem d_Teller_goal_51 : decode prog_6_method_32_code 51 = .ok (.aload_n 0, 1) := by decide +kernel
theorem d_Teller_goal_52 : decode prog_6_method_32_code 52 = .ok (.getfield 40, 3) := by decide +kernel
theorem d_Teller_goal_55 : decode prog_6_method_32_code 55 = .ok (.aload_n 0, 1) := by decide +kernel
theorem d_Teller_goal_56 : decode prog_6_method_32_code 56 = .ok (.getfield 36, 3) := by decide +kernel
theorem d_Teller_goal_59 : decode prog_6_method_32_code 59 = .ok (.iload_n 3, 1) := by decide +kernel
theorem d_Teller_goal_60 : decode prog_6_method_32_code 60 = .ok (.iconst 2, 1) := by decide +kernel
theorem d_Teller_goal_61 : decode prog_6_method_32_code 61 = .ok (.iadd, 1) := by decide +kernel
theorem d_Teller_goal_62 : decode prog_6_method_32_code 62 = .ok (.invokevirtual 112, 3) := by decide +kernel
theorem d_Teller_goal_65 : decode prog_6_method_32_code 65 = .ok (.invokevirtual 276, 3) := by decide +kernel
theorem d_Teller_goal_68 : decode prog_6_method_32_code 68 = .ok (.iconst (-1), 1) := by decide +kernel
theorem d_Teller_goal_69 : decode prog_6_method_32_code 69 = .ok (.if_icmp .eq 19, 3) := by decide +kernel
theorem d_Teller_goal_72 : decode prog_6_method_32_code 72 = .ok (.aload_n 1, 1) := by decide +kernel
theorem d_Teller_goal_73 : decode prog_6_method_32_code 73 = .ok (.getfield 260, 3) := by decide +kernel
theorem d_Teller_goal_76 : decode prog_6_method_32_code 76 = .ok (.aload_n 0, 1) := by decide +kernel
theorem d_Teller_goal_77 : decode prog_6_method_32_code 77 = .ok (.getfield 36, 3) := by decide +kernel
theorem d_Teller_goal_80 : decode prog_6_method_32_code 80 = .ok (.iload_n 3, 1) := by decide +kernel
theorem d_Teller_goal_81 : decode prog_6_method_32_code 81 = .ok (.iconst 3, 1) := by decide +kernel
theorem d_Teller_goal_82 : decode prog_6_method_32_code 82 = .ok (.iadd, 1) := by decide +kernel
theorem d_Teller_goal_83 : decode prog_6_method_32_code 83 = .ok (.invokevirtual 112, 3) := by decide +kernel
theorem d_Teller_goal_86 : decode prog_6_method_32_code 86 = .ok (.iadd, 1) := by decide +kernel
theorem d_Teller_goal_87 : decode prog_6_method_32_code 87 = .ok (.ireturn, 1) := by decide +kernel
theorem d_Teller_goal_88 : decode prog_6_method_32_code 88 = .ok (.iinc 3 4, 3) := by decide +kernel
theorem d_Teller_goal_91 : decode prog_6_method_32_code 91 = .ok (.goto (-74), 3) := by decide +kernel
theorem d_Teller_goal_94 : decode prog_6_method_32_code 94 = .ok (.iconst (-1), 1) := by decide +kernel
theorem d_Teller_goal_95 : decode prog_6_method_32_code 95 = .ok (.ireturn, 1) := by decide +kernel
theorem d_Teller_halt_0 : decode prog_6_method_4_code 0 = .ok (.aload_n 0, 1) := by decide +kernel
theorem d_Teller_halt_1 : decode prog_6_method_4_code 1 = .ok (.iload_n 1, 1) := by decide +kernel
theorem d_Teller_halt_2 : decode prog_6_method_4_code 2 = .ok (.putfield 32, 3) := by decide +kernel
theorem d_Teller_halt_5 : decode prog_6_method_4_code 5 = .ok (.aload_n 0, 1) := by decide +kernel
theorem d_Teller_halt_6 : decode prog_6_method_4_code 6 = .ok (.getfield 44, 3) := by decide +kernel
theorem d_Teller_halt_9 : decode prog_6_method_4_code 9 = .ok (.invokevirtual 59, 3) := by decide +kernel
theorem d_Teller_halt_12 : decode prog_6_method_4_code 12 = .ok (.return_, 1) := by decide +kernel
theorem d_Teller_inherited_0 : decode prog_6_method_26_code 0 = .ok (.iload_n 3, 1) := by decide +kernel
theorem d_Teller_inherited_1 : decode prog_6_method_26_code 1 = .ok (.invokestatic 229, 3) := by decide +kernel
theorem d_Teller_inherited_4 : decode prog_6_method_26_code 4 = .ok (.ifCond .eq 40, 3) := by decide +kernel
theorem d_Teller_inherited_7 : decode prog_6_method_26_code 7 = .ok (.aload_n 0, 1) := by decide +kernel
theorem d_Teller_inherited_8 : decode prog_6_method_26_code 8 = .ok (.aload_n 1, 1) := by decide +kernel
theorem d_Teller_inherited_9 : decode prog_6_method_26_code 9 = .ok (.iload_n 2, 1) := by decide +kernel
theorem d_Teller_inherited_10 : decode prog_6_method_26_code 10 = .ok (.invokevirtual 146, 3) := by decide +kernel
theorem d_Teller_inherited_13 : decode prog_6_method_26_code 13 = .ok (.ifCond .eq 31, 3) := by decide +kernel
theorem d_Teller_inherited_16 : decode prog_6_method_26_code 16 = .ok (.aload_n 0, 1) := by decide +kernel
theorem d_Teller_inherited_17 : decode prog_6_method_26_code 17 = .ok (.getfield 40, 3) := by decide +kernel
theorem d_Teller_inherited_20 : decode prog_6_method_26_code 20 = .ok (.aload_n 1, 1) := by decide +kernel
theorem d_Teller_inherited_21 : decode prog_6_method_26_code 21 = .ok (.getfield 84, 3) := by decide +kernel
theorem d_Teller_inherited_24 : decode prog_6_method_26_code 24 = .ok (.invokevirtual 126, 3) := by decide +kernel
theorem d_Teller_inherited_27 : decode prog_6_method_26_code 27 = .ok (.ifCond .eq 17, 3) := by decide +kernel
theorem d_Teller_inherited_30 : decode prog_6_method_26_code 30 = .ok (.aload_n 0, 1) := by decide +kernel
theorem d_Teller_inherited_31 : decode prog_6_method_26_code 31 = .ok (.getfield 40, 3) := by decide +kernel
theorem d_Teller_inherited_34 : decode prog_6_method_26_code 34 = .ok (.aload_n 1, 1) := by decide +kernel
theorem d_Teller_inherited_35 : decode prog_6_method_26_code 35 = .ok (.getfield 90, 3) := by decide +kernel
theorem d_Teller_inherited_38 : decode prog_6_method_26_code 38 = .ok (.invokevirtual 126, 3) := by decide +kernel
theorem d_Teller_inherited_41 : decode prog_6_method_26_code 41 = .ok (.ifCond .ne 5, 3) := by decide +kernel
theorem d_Teller_inherited_44 : decode prog_6_method_26_code 44 = .ok (.iconst 0, 1) := by decide +kernel
theorem d_Teller_inherited_45 : decode prog_6_method_26_code 45 = .ok (.ireturn, 1) := by decide +kernel
theorem d_Teller_inherited_46 : decode prog_6_method_26_code 46 = .ok (.aload_n 0, 1) := by decide +kernel
theorem d_Teller_inherited_47 : decode prog_6_method_26_code 47 = .ok (.aload_n 1, 1) := by decide +kernel
theorem d_Teller_inherited_48 : decode prog_6_method_26_code 48 = .ok (.aload_n 1, 1) := by decide +kernel
theorem d_Teller_inherited_49 : decode prog_6_method_26_code 49 = .ok (.getfield 84, 3) := by decide +kernel
theorem d_Teller_inherited_52 : decode prog_6_method_26_code 52 = .ok (.aload_n 0, 1) := by decide +kernel
theorem d_Teller_inherited_53 : decode prog_6_method_26_code 53 = .ok (.getfield 40, 3) := by decide +kernel
theorem d_Teller_inherited_56 : decode prog_6_method_26_code 56 = .ok (.aload_n 1, 1) := by decide +kernel
theorem d_Teller_inherited_57 : decode prog_6_method_26_code 57 = .ok (.getfield 90, 3) := by decide +kernel
theorem d_Teller_inherited_60 : decode prog_6_method_26_code 60 = .ok (.aload_n 1, 1) := by decide +kernel
theorem d_Teller_inherited_61 : decode prog_6_method_26_code 61 = .ok (.getfield 84, 3) := by decide +kernel
theorem d_Teller_inherited_64 : decode prog_6_method_26_code 64 = .ok (.iload_n 3, 1) := by decide +kernel
theorem d_Teller_inherited_65 : decode prog_6_method_26_code 65 = .ok (.invokevirtual 239, 3) := by decide +kernel
theorem d_Teller_inherited_68 : decode prog_6_method_26_code 68 = .ok (.iload_n 3, 1) := by decide +kernel
theorem d_Teller_inherited_69 : decode prog_6_method_26_code 69 = .ok (.iload_n 2, 1) := by decide +kernel
theorem d_Teller_inherited_70 : decode prog_6_method_26_code 70 = .ok (.iconst 0, 1) := by decide +kernel
theorem d_Teller_inherited_71 : decode prog_6_method_26_code 71 = .ok (.invokevirtual 235, 3) := by decide +kernel
theorem d_Teller_inherited_74 : decode prog_6_method_26_code 74 = .ok (.ireturn, 1) := by decide +kernel
theorem d_Teller_isFalse_0 : decode prog_6_method_17_code 0 = .ok (.aload_n 0, 1) := by decide +kernel
theorem d_Teller_isFalse_1 : decode prog_6_method_17_code 1 = .ok (.getfield 22, 3) := by decide +kernel
theorem d_Teller_isFalse_4 : decode prog_6_method_17_code 4 = .ok (.getfield 71, 3) := by decide +kernel
theorem d_Teller_isFalse_7 : decode prog_6_method_17_code 7 = .ok (.iload_n 1, 1) := by decide +kernel
theorem d_Teller_isFalse_8 : decode prog_6_method_17_code 8 = .ok (.iaload, 1) := by decide +kernel
theorem d_Teller_isFalse_9 : decode prog_6_method_17_code 9 = .ok (.ifCond .eq 28, 3) := by decide +kernel
theorem d_Teller_isFalse_12 : decode prog_6_method_17_code 12 = .ok (.aload_n 0, 1) := by decide +kernel
theorem d_Teller_isFalse_13 : decode prog_6_method_17_code 13 = .ok (.getfield 22, 3) := by decide +kernel
theorem d_Teller_isFalse_16 : decode prog_6_method_17_code 16 = .ok (.getfield 71, 3) := by decide +kernel
theorem d_Teller_isFalse_19 : decode prog_6_method_17_code 19 = .ok (.iload_n 1, 1) := by decide +kernel
theorem d_Teller_isFalse_20 : decode prog_6_method_17_code 20 = .ok (.iaload, 1) := by decide +kernel
theorem d_Teller_isFalse_21 : decode prog_6_method_17_code 21 = .ok (.iconst 2, 1) := by decide +kernel
theorem d_Teller_isFalse_22 : decode prog_6_method_17_code 22 = .ok (.if_icmp .ne 19, 3) := by decide +kernel
theorem d_Teller_isFalse_25 : decode prog_6_method_17_code 25 = .ok (.aload_n 0, 1) := by decide +kernel
theorem d_Teller_isFalse_26 : decode prog_6_method_17_code 26 = .ok (.getfield 22, 3) := by decide +kernel
theorem d_Teller_isFalse_29 : decode prog_6_method_17_code 29 = .ok (.getfield 75, 3) := by decide +kernel
theorem d_Teller_isFalse_32 : decode prog_6_method_17_code 32 = .ok (.iload_n 1, 1) := by decide +kernel
theorem d_Teller_isFalse_33 : decode prog_6_method_17_code 33 = .ok (.iaload, 1) := by decide +kernel
theorem d_Teller_isFalse_34 : decode prog_6_method_17_code 34 = .ok (.ifCond .ne 7, 3) := by decide +kernel
theorem d_Teller_isFalse_37 : decode prog_6_method_17_code 37 = .ok (.iconst 1, 1) := by decide +kernel
theorem d_Teller_isFalse_38 : decode prog_6_method_17_code 38 = .ok (.goto 4, 3) := by decide +kernel
theorem d_Teller_isFalse_41 : decode prog_6_method_17_code 41 = .ok (.iconst 0, 1) := by decide +kernel
theorem d_Teller_isFalse_42 : decode prog_6_method_17_code 42 = .ok (.ireturn, 1) := by decide +kernel
theorem d_Teller_isLocal_0 : decode prog_6_method_18_code 0 = .ok (.iload_n 2, 1) := by decide +kernel
theorem d_Teller_isLocal_1 : decode prog_6_method_18_code 1 = .ok (.ifCond .lt 20, 3) := by decide +kernel
theorem d_Teller_isLocal_4 : decode prog_6_method_18_code 4 = .ok (.iload_n 2, 1) := by decide +kernel
theorem d_Teller_isLocal_5 : decode prog_6_method_18_code 5 = .ok (.aload_n 1, 1) := by decide +kernel
theorem d_Teller_isLocal_6 : decode prog_6_method_18_code 6 = .ok (.getfield 223, 3) := by decide +kernel
theorem d_Teller_isLocal_9 : decode prog_6_method_18_code 9 = .ok (.aload_n 1, 1) := by decide +kernel
theorem d_Teller_isLocal_10 : decode prog_6_method_18_code 10 = .ok (.getfield 137, 3) := by decide +kernel
theorem d_Teller_isLocal_13 : decode prog_6_method_18_code 13 = .ok (.isub, 1) := by decide +kernel
theorem d_Teller_isLocal_14 : decode prog_6_method_18_code 14 = .ok (.if_icmp .ge 7, 3) := by decide +kernel
theorem d_Teller_isLocal_17 : decode prog_6_method_18_code 17 = .ok (.iconst 1, 1) := by decide +kernel
theorem d_Teller_isLocal_18 : decode prog_6_method_18_code 18 = .ok (.goto 4, 3) := by decide +kernel
theorem d_Teller_isLocal_21 : decode prog_6_method_18_code 21 = .ok (.iconst 0, 1) := by decide +kernel
theorem d_Teller_isLocal_22 : decode prog_6_method_18_code 22 = .ok (.ireturn, 1) := by decide +kernel
theorem d_Teller_isObjectOnTop_0 : decode prog_6_method_16_code 0 = .ok (.aload_n 0, 1) := by decide +kernel
theorem d_Teller_isObjectOnTop_1 : decode prog_6_method_16_code 1 = .ok (.aload_n 1, 1) := by decide +kernel
theorem d_Teller_isObjectOnTop_2 : decode prog_6_method_16_code 2 = .ok (.iconst 1, 1) := by decide +kernel
theorem d_Teller_isObjectOnTop_3 : decode prog_6_method_16_code 3 = .ok (.invokevirtual 146, 3) := by decide +kernel
theorem d_Teller_isObjectOnTop_6 : decode prog_6_method_16_code 6 = .ok (.ifCond .eq 29, 3) := by decide +kernel
theorem d_Teller_isObjectOnTop_9 : decode prog_6_method_16_code 9 = .ok (.aload_n 0, 1) := by decide +kernel
theorem d_Teller_isObjectOnTop_10 : decode prog_6_method_16_code 10 = .ok (.invokevirtual 180, 3) := by decide +kernel
theorem d_Teller_isObjectOnTop_13 : decode prog_6_method_16_code 13 = .ok (.iconst 3, 1) := by decide +kernel
theorem d_Teller_isObjectOnTop_14 : decode prog_6_method_16_code 14 = .ok (.if_icmp .ne 21, 3) := by decide +kernel
theorem d_Teller_isObjectOnTop_17 : decode prog_6_method_16_code 17 = .ok (.aload_n 0, 1) := by decide +kernel
theorem d_Teller_isObjectOnTop_18 : decode prog_6_method_16_code 18 = .ok (.getfield 40, 3) := by decide +kernel
theorem d_Teller_isObjectOnTop_21 : decode prog_6_method_16_code 21 = .ok (.aload_n 0, 1) := by decide +kernel
theorem d_Teller_isObjectOnTop_22 : decode prog_6_method_16_code 22 = .ok (.invokevirtual 184, 3) := by decide +kernel
theorem d_Teller_isObjectOnTop_25 : decode prog_6_method_16_code 25 = .ok (.invokevirtual 126, 3) := by decide +kernel
theorem d_Teller_isObjectOnTop_28 : decode prog_6_method_16_code 28 = .ok (.ifCond .eq 7, 3) := by decide +kernel
theorem d_Teller_isObjectOnTop_31 : decode prog_6_method_16_code 31 = .ok (.iconst 1, 1) := by decide +kernel
theorem d_Teller_isObjectOnTop_32 : decode prog_6_method_16_code 32 = .ok (.goto 4, 3) := by decide +kernel
theorem d_Teller_isObjectOnTop_35 : decode prog_6_method_16_code 35 = .ok (.iconst 0, 1) := by decide +kernel
theorem d_Teller_isObjectOnTop_36 : decode prog_6_method_16_code 36 = .ok (.ireturn, 1) := by decide +kernel
theorem d_Teller_jump_0 : decode prog_6_method_23_code 0 = .ok (.aload_n 1, 1) := by decide +kernel
theorem d_Teller_jump_1 : decode prog_6_method_23_code 1 = .ok (.aload_n 1, 1) := by decide +kernel
theorem d_Teller_jump_2 : decode prog_6_method_23_code 2 = .ok (.getfield 110, 3) := by decide +kernel
theorem d_Teller_jump_5 : decode prog_6_method_23_code 5 = .ok (.iload_n 2, 1) := by decide +kernel
theorem d_Teller_jump_6 : decode prog_6_method_23_code 6 = .ok (.iadd, 1) := by decide +kernel
theorem d_Teller_jump_7 : decode prog_6_method_23_code 7 = .ok (.putfield 97, 3) := by decide +kernel
theorem d_Teller_jump_10 : decode prog_6_method_23_code 10 = .ok (.iconst 1, 1) := by decide +kernel
theorem d_Teller_jump_11 : decode prog_6_method_23_code 11 = .ok (.ireturn, 1) := by decide +kernel
theorem d_Teller_jumpIfFalse_0 : decode prog_6_method_24_code 0 = .ok (.aload_n 0, 1) := by decide +kernel
theorem d_Teller_jumpIfFalse_1 : decode prog_6_method_24_code 1 = .ok (.aload_n 1, 1) := by decide +kernel
theorem d_Teller_jumpIfFalse_2 : decode prog_6_method_24_code 2 = .ok (.iconst 1, 1) := by decide +kernel
theorem d_Teller_jumpIfFalse_3 : decode prog_6_method_24_code 3 = .ok (.invokevirtual 146, 3) := by decide +kernel
theorem d_Teller_jumpIfFalse_6 : decode prog_6_method_24_code 6 = .ok (.ifCond .ne 5, 3) := by decide +kernel
theorem d_Teller_jumpIfFalse_9 : decode prog_6_method_24_code 9 = .ok (.iconst 0, 1) := by decide +kernel
theorem d_Teller_jumpIfFalse_10 : decode prog_6_method_24_code 10 = .ok (.ireturn, 1) := by decide +kernel
theorem d_Teller_jumpIfFalse_11 : decode prog_6_method_24_code 11 = .ok (.aload_n 0, 1) := by decide +kernel
theorem d_Teller_jumpIfFalse_12 : decode prog_6_method_24_code 12 = .ok (.aload_n 0, 1) := by decide +kernel
theorem d_Teller_jumpIfFalse_13 : decode prog_6_method_24_code 13 = .ok (.getfield 22, 3) := by decide +kernel
theorem d_Teller_jumpIfFalse_16 : decode prog_6_method_24_code 16 = .ok (.getfield 52, 3) := by decide +kernel
theorem d_Teller_jumpIfFalse_19 : decode prog_6_method_24_code 19 = .ok (.iconst 1, 1) := by decide +kernel
theorem d_Teller_jumpIfFalse_20 : decode prog_6_method_24_code 20 = .ok (.isub, 1) := by decide +kernel
theorem d_Teller_jumpIfFalse_21 : decode prog_6_method_24_code 21 = .ok (.invokevirtual 158, 3) := by decide +kernel
theorem d_Teller_jumpIfFalse_24 : decode prog_6_method_24_code 24 = .ok (.istore_n 3, 1) := by decide +kernel
theorem d_Teller_jumpIfFalse_25 : decode prog_6_method_24_code 25 = .ok (.aload_n 0, 1) := by decide +kernel
theorem d_Teller_jumpIfFalse_26 : decode prog_6_method_24_code 26 = .ok (.getfield 22, 3) := by decide +kernel
theorem d_Teller_jumpIfFalse_29 : decode prog_6_method_24_code 29 = .ok (.dup, 1) := by decide +kernel
theorem d_Teller_jumpIfFalse_30 : decode prog_6_method_24_code 30 = .ok (.getfield 52, 3) := by decide +kernel
theorem d_Teller_jumpIfFalse_33 : decode prog_6_method_24_code 33 = .ok (.iconst 1, 1) := by decide +kernel
theorem d_Teller_jumpIfFalse_34 : decode prog_6_method_24_code 34 = .ok (.isub, 1) := by decide +kernel
theorem d_Teller_jumpIfFalse_35 : decode prog_6_method_24_code 35 = .ok (.putfield 52, 3) := by decide +kernel
theorem d_Teller_jumpIfFalse_38 : decode prog_6_method_24_code 38 = .ok (.aload_n 0, 1) := by decide +kernel
theorem d_Teller_jumpIfFalse_39 : decode prog_6_method_24_code 39 = .ok (.aload_n 1, 1) := by decide +kernel
theorem d_Teller_jumpIfFalse_40 : decode prog_6_method_24_code 40 = .ok (.iload_n 3, 1) := by decide +kernel
theorem d_Teller_jumpIfFalse_41 : decode prog_6_method_24_code 41 = .ok (.ifCond .eq 7, 3) := by decide +kernel
theorem d_Teller_jumpIfFalse_44 : decode prog_6_method_24_code 44 = .ok (.iload_n 2, 1) := by decide +kernel
theorem d_Teller_jumpIfFalse_45 : decode prog_6_method_24_code 45 = .ok (.goto 4, 3) := by decide +kernel
theorem d_Teller_jumpIfFalse_48 : decode prog_6_method_24_code 48 = .ok (.iconst 0, 1) := by decide +kernel
theorem d_Teller_jumpIfFalse_49 : decode prog_6_method_24_code 49 = .ok (.invokevirtual 165, 3) := by decide +kernel
theorem d_Teller_jumpIfFalse_52 : decode prog_6_method_24_code 52 = .ok (.ireturn, 1) := by decide +kernel
theorem d_Teller_like_0 : decode prog_6_method_22_code 0 = .ok (.aload_n 0, 1) := by decide +kernel
theorem d_Teller_like_1 : decode prog_6_method_22_code 1 = .ok (.getfield 22, 3) := by decide +kernel
theorem d_Teller_like_4 : decode prog_6_method_22_code 4 = .ok (.getfield 52, 3) := by decide +kernel
theorem d_Teller_like_7 : decode prog_6_method_22_code 7 = .ok (.iconst 1, 1) := by decide +kernel
theorem d_Teller_like_8 : decode prog_6_method_22_code 8 = .ok (.isub, 1) := by decide +kernel
theorem d_Teller_like_9 : decode prog_6_method_22_code 9 = .ok (.istore_n 2, 1) := by decide +kernel
theorem d_Teller_like_10 : decode prog_6_method_22_code 10 = .ok (.iload_n 2, 1) := by decide +kernel
theorem d_Teller_like_11 : decode prog_6_method_22_code 11 = .ok (.iconst 1, 1) := by decide +kernel
theorem d_Teller_like_12 : decode prog_6_method_22_code 12 = .ok (.isub, 1) := by decide +kernel
theorem d_Teller_like_13 : decode prog_6_method_22_code 13 = .ok (.istore_n 3, 1) := by decide +kernel
theorem d_Teller_like_14 : decode prog_6_method_22_code 14 = .ok (.aload_n 0, 1) := by decide +kernel
theorem d_Teller_like_15 : decode prog_6_method_22_code 15 = .ok (.aload_n 1, 1) := by decide +kernel
theorem d_Teller_like_16 : decode prog_6_method_22_code 16 = .ok (.iconst 2, 1) := by decide +kernel
theorem d_Teller_like_17 : decode prog_6_method_22_code 17 = .ok (.invokevirtual 146, 3) := by decide +kernel
theorem d_Teller_like_20 : decode prog_6_method_22_code 20 = .ok (.ifCond .eq 63, 3) := by decide +kernel
theorem d_Teller_like_23 : decode prog_6_method_22_code 23 = .ok (.aload_n 0, 1) := by decide +kernel
theorem d_Teller_like_24 : decode prog_6_method_22_code 24 = .ok (.aload_n 1, 1) := by decide +kernel
theorem d_Teller_like_25 : decode prog_6_method_22_code 25 = .ok (.iconst 2, 1) := by decide +kernel
theorem d_Teller_like_26 : decode prog_6_method_22_code 26 = .ok (.aload_n 0, 1) := by decide +kernel
theorem d_Teller_like_27 : decode prog_6_method_22_code 27 = .ok (.getfield 22, 3) := by decide +kernel
theorem d_Teller_like_30 : decode prog_6_method_22_code 30 = .ok (.getfield 71, 3) := by decide +kernel
theorem d_Teller_like_33 : decode prog_6_method_22_code 33 = .ok (.iload_n 3, 1) := by decide +kernel
theorem d_Teller_like_34 : decode prog_6_method_22_code 34 = .ok (.iaload, 1) := by decide +kernel
theorem d_Teller_like_35 : decode prog_6_method_22_code 35 = .ok (.aload_n 0, 1) := by decide +kernel
theorem d_Teller_like_36 : decode prog_6_method_22_code 36 = .ok (.getfield 22, 3) := by decide +kernel
theorem d_Teller_like_39 : decode prog_6_method_22_code 39 = .ok (.getfield 71, 3) := by decide +kernel
theorem d_Teller_like_42 : decode prog_6_method_22_code 42 = .ok (.iload_n 2, 1) := by decide +kernel
theorem d_Teller_like_43 : decode prog_6_method_22_code 43 = .ok (.iaload, 1) := by decide +kernel
theorem d_Teller_like_44 : decode prog_6_method_22_code 44 = .ok (.if_icmp .ne 28, 3) := by decide +kernel
theorem d_Teller_like_47 : decode prog_6_method_22_code 47 = .ok (.aload_n 0, 1) := by decide +kernel
theorem d_Teller_like_48 : decode prog_6_method_22_code 48 = .ok (.getfield 22, 3) := by decide +kernel
theorem d_Teller_like_51 : decode prog_6_method_22_code 51 = .ok (.getfield 75, 3) := by decide +kernel
theorem d_Teller_like_54 : decode prog_6_method_22_code 54 = .ok (.iload_n 3, 1) := by decide +kernel
theorem d_Teller_like_55 : decode prog_6_method_22_code 55 = .ok (.iaload, 1) := by decide +kernel
theorem d_Teller_like_56 : decode prog_6_method_22_code 56 = .ok (.aload_n 0, 1) := by decide +kernel
theorem d_Teller_like_57 : decode prog_6_method_22_code 57 = .ok (.getfield 22, 3) := by decide +kernel
theorem d_Teller_like_60 : decode prog_6_method_22_code 60 = .ok (.getfield 75, 3) := by decide +kernel
theorem d_Teller_like_63 : decode prog_6_method_22_code 63 = .ok (.iload_n 2, 1) := by decide +kernel
theorem d_Teller_like_64 : decode prog_6_method_22_code 64 = .ok (.iaload, 1) := by decide +kernel
theorem d_Teller_like_65 : decode prog_6_method_22_code 65 = .ok (.if_icmp .ne 7, 3) := by decide +kernel
theorem d_Teller_like_68 : decode prog_6_method_22_code 68 = .ok (.iconst 1, 1) := by decide +kernel
theorem d_Teller_like_69 : decode prog_6_method_22_code 69 = .ok (.goto 4, 3) := by decide +kernel
theorem d_Teller_like_72 : decode prog_6_method_22_code 72 = .ok (.iconst 0, 1) := by decide +kernel
theorem d_Teller_like_73 : decode prog_6_method_22_code 73 = .ok (.invokevirtual 161, 3) := by decide +kernel
theorem d_Teller_like_76 : decode prog_6_method_22_code 76 = .ok (.ifCond .eq 7, 3) := by decide +kernel
theorem d_Teller_like_79 : decode prog_6_method_22_code 79 = .ok (.iconst 1, 1) := by decide +kernel
theorem d_Teller_like_80 : decode prog_6_method_22_code 80 = .ok (.goto 4, 3) := by decide +kernel
theorem d_Teller_like_83 : decode prog_6_method_22_code 83 = .ok (.iconst 0, 1) := by decide +kernel
theorem d_Teller_like_84 : decode prog_6_method_22_code 84 = .ok (.ireturn, 1) := by decide +kernel
theorem d_Teller_make_0 : decode prog_6_method_33_code 0 = .ok (.aload_n 0, 1) := by decide +kernel
theorem d_Teller_make_1 : decode prog_6_method_33_code 1 = .ok (.getfield 40, 3) := by decide +kernel
theorem d_Teller_make_4 : decode prog_6_method_33_code 4 = .ok (.iload_n 2, 1) := by decide +kernel
theorem d_Teller_make_5 : decode prog_6_method_33_code 5 = .ok (.invokevirtual 126, 3) := by decide +kernel
theorem d_Teller_make_8 : decode prog_6_method_33_code 8 = .ok (.ifCond .eq 13, 3) := by decide +kernel
theorem d_Teller_make_11 : decode prog_6_method_33_code 11 = .ok (.aload_n 0, 1) := by decide +kernel
theorem d_Teller_make_12 : decode prog_6_method_33_code 12 = .ok (.getfield 22, 3) := by decide +kernel
theorem d_Teller_make_15 : decode prog_6_method_33_code 15 = .ok (.invokevirtual 205, 3) := by decide +kernel
theorem d_Teller_make_18 : decode prog_6_method_33_code 18 = .ok (.ifCond .eq 5, 3) := by decide +kernel
theorem d_Teller_make_21 : decode prog_6_method_33_code 21 = .ok (.iconst 0, 1) := by decide +kernel
theorem d_Teller_make_22 : decode prog_6_method_33_code 22 = .ok (.ireturn, 1) := by decide +kernel
theorem d_Teller_make_23 : decode prog_6_method_33_code 23 = .ok (.aload_n 0, 1) := by decide +kernel
theorem d_Teller_make_24 : decode prog_6_method_33_code 24 = .ok (.getfield 40, 3) := by decide +kernel
theorem d_Teller_make_27 : decode prog_6_method_33_code 27 = .ok (.iload_n 2, 1) := by decide +kernel
theorem d_Teller_make_28 : decode prog_6_method_33_code 28 = .ok (.invokevirtual 279, 3) := by decide +kernel
theorem d_Teller_make_31 : decode prog_6_method_33_code 31 = .ok (.istore_n 3, 1) := by decide +kernel
theorem d_Teller_make_32 : decode prog_6_method_33_code 32 = .ok (.iload_n 3, 1) := by decide +kernel
theorem d_Teller_make_33 : decode prog_6_method_33_code 33 = .ok (.iconst (-1), 1) := by decide +kernel
theorem d_Teller_make_34 : decode prog_6_method_33_code 34 = .ok (.if_icmp .eq 17, 3) := by decide +kernel
theorem d_Teller_make_37 : decode prog_6_method_33_code 37 = .ok (.aload_n 0, 1) := by decide +kernel
theorem d_Teller_make_38 : decode prog_6_method_33_code 38 = .ok (.aload_n 1, 1) := by decide +kernel
theorem d_Teller_make_39 : decode prog_6_method_33_code 39 = .ok (.iconst 3, 1) := by decide +kernel
theorem d_Teller_make_40 : decode prog_6_method_33_code 40 = .ok (.iload_n 3, 1) := by decide +kernel
theorem d_Teller_make_41 : decode prog_6_method_33_code 41 = .ok (.invokevirtual 119, 3) := by decide +kernel
theorem d_Teller_make_44 : decode prog_6_method_33_code 44 = .ok (.ifCond .eq 7, 3) := by decide +kernel
theorem d_Teller_make_47 : decode prog_6_method_33_code 47 = .ok (.iconst 1, 1) := by decide +kernel
theorem d_Teller_make_48 : decode prog_6_method_33_code 48 = .ok (.goto 4, 3) := by decide +kernel
theorem d_Teller_make_51 : decode prog_6_method_33_code 51 = .ok (.iconst 0, 1) := by decide +kernel
theorem d_Teller_make_52 : decode prog_6_method_33_code 52 = .ok (.ireturn, 1) := by decide +kernel
theorem d_Teller_number_0 : decode prog_6_method_21_code 0 = .ok (.iload_n 0, 1) := by decide +kernel
theorem d_Teller_number_1 : decode prog_6_method_21_code 1 = .ok (.tableswitch 39 12 14 #[27, 31, 35], 27) := by decide +kernel
theorem d_Teller_number_28 : decode prog_6_method_21_code 28 = .ok (.iload_n 1, 1) := by decide +kernel
theorem d_Teller_number_29 : decode prog_6_method_21_code 29 = .ok (.iload_n 2, 1) := by decide +kernel
theorem d_Teller_number_30 : decode prog_6_method_21_code 30 = .ok (.iadd, 1) := by decide +kernel
theorem d_Teller_number_31 : decode prog_6_method_21_code 31 = .ok (.ireturn, 1) := by decide +kernel
theorem d_Teller_number_32 : decode prog_6_method_21_code 32 = .ok (.iload_n 1, 1) := by decide +kernel
theorem d_Teller_number_33 : decode prog_6_method_21_code 33 = .ok (.iload_n 2, 1) := by decide +kernel
theorem d_Teller_number_34 : decode prog_6_method_21_code 34 = .ok (.isub, 1) := by decide +kernel
theorem d_Teller_number_35 : decode prog_6_method_21_code 35 = .ok (.ireturn, 1) := by decide +kernel
theorem d_Teller_number_36 : decode prog_6_method_21_code 36 = .ok (.iload_n 1, 1) := by decide +kernel
theorem d_Teller_number_37 : decode prog_6_method_21_code 37 = .ok (.iload_n 2, 1) := by decide +kernel
theorem d_Teller_number_38 : decode prog_6_method_21_code 38 = .ok (.imul, 1) := by decide +kernel
theorem d_Teller_number_39 : decode prog_6_method_21_code 39 = .ok (.ireturn, 1) := by decide +kernel
theorem d_Teller_number_40 : decode prog_6_method_21_code 40 = .ok (.iload_n 2, 1) := by decide +kernel
theorem d_Teller_number_41 : decode prog_6_method_21_code 41 = .ok (.ifCond .ne 7, 3) := by decide +kernel
theorem d_Teller_number_44 : decode prog_6_method_21_code 44 = .ok (.iconst 0, 1) := by decide +kernel
theorem d_Teller_number_45 : decode prog_6_method_21_code 45 = .ok (.goto 6, 3) := by decide +kernel
theorem d_Teller_number_48 : decode prog_6_method_21_code 48 = .ok (.iload_n 1, 1) := by decide +kernel
theorem d_Teller_number_49 : decode prog_6_method_21_code 49 = .ok (.iload_n 2, 1) := by decide +kernel
theorem d_Teller_number_50 : decode prog_6_method_21_code 50 = .ok (.idiv, 1) := by decide +kernel
theorem d_Teller_number_51 : decode prog_6_method_21_code 51 = .ok (.ireturn, 1) := by decide +kernel
theorem d_Teller_perform_0 : decode prog_6_method_7_code 0 = .ok (.aload_n 0, 1) := by decide +kernel
theorem d_Teller_perform_1 : decode prog_6_method_7_code 1 = .ok (.invokevirtual 93, 3) := by decide +kernel
theorem d_Teller_perform_4 : decode prog_6_method_7_code 4 = .ok (.astore_n 1, 1) := by decide +kernel
theorem d_Teller_perform_5 : decode prog_6_method_7_code 5 = .ok (.aload_n 0, 1) := by decide +kernel
theorem d_Teller_perform_6 : decode prog_6_method_7_code 6 = .ok (.getfield 36, 3) := by decide +kernel
theorem d_Teller_perform_9 : decode prog_6_method_7_code 9 = .ok (.aload_n 1, 1) := by decide +kernel
theorem d_Teller_perform_10 : decode prog_6_method_7_code 10 = .ok (.getfield 97, 3) := by decide +kernel
theorem d_Teller_perform_13 : decode prog_6_method_7_code 13 = .ok (.invokevirtual 100, 3) := by decide +kernel
theorem d_Teller_perform_16 : decode prog_6_method_7_code 16 = .ok (.istore_n 2, 1) := by decide +kernel
theorem d_Teller_perform_17 : decode prog_6_method_7_code 17 = .ok (.aload_n 1, 1) := by decide +kernel
theorem d_Teller_perform_18 : decode prog_6_method_7_code 18 = .ok (.aload_n 0, 1) := by decide +kernel
theorem d_Teller_perform_19 : decode prog_6_method_7_code 19 = .ok (.getfield 36, 3) := by decide +kernel
theorem d_Teller_perform_22 : decode prog_6_method_7_code 22 = .ok (.aload_n 1, 1) := by decide +kernel
theorem d_Teller_perform_23 : decode prog_6_method_7_code 23 = .ok (.getfield 97, 3) := by decide +kernel
theorem d_Teller_perform_26 : decode prog_6_method_7_code 26 = .ok (.iload_n 2, 1) := by decide +kernel
theorem d_Teller_perform_27 : decode prog_6_method_7_code 27 = .ok (.invokevirtual 106, 3) := by decide +kernel
theorem d_Teller_perform_30 : decode prog_6_method_7_code 30 = .ok (.putfield 110, 3) := by decide +kernel
theorem d_Teller_perform_33 : decode prog_6_method_7_code 33 = .ok (.aload_n 0, 1) := by decide +kernel
theorem d_Teller_perform_34 : decode prog_6_method_7_code 34 = .ok (.getfield 36, 3) := by decide +kernel
theorem d_Teller_perform_37 : decode prog_6_method_7_code 37 = .ok (.aload_n 1, 1) := by decide +kernel
theorem d_Teller_perform_38 : decode prog_6_method_7_code 38 = .ok (.getfield 97, 3) := by decide +kernel
theorem d_Teller_perform_41 : decode prog_6_method_7_code 41 = .ok (.iconst 1, 1) := by decide +kernel
theorem d_Teller_perform_42 : decode prog_6_method_7_code 42 = .ok (.iadd, 1) := by decide +kernel
theorem d_Teller_perform_43 : decode prog_6_method_7_code 43 = .ok (.invokevirtual 112, 3) := by decide +kernel
theorem d_Teller_perform_46 : decode prog_6_method_7_code 46 = .ok (.istore_n 3, 1) := by decide +kernel
theorem d_Teller_perform_47 : decode prog_6_method_7_code 47 = .ok (.iload_n 2, 1) := by decide +kernel
theorem d_Teller_perform_48 : decode prog_6_method_7_code 48 = .ok (.tableswitch 706 0 34 #[156, 162, 171, 191, 199, 207, 234, 254, 283, 290, 319, 351, 375, 375, 375, 375, 375, 382, 388, 425, 433, 441, 461, 468, 488, 527, 558, 566, 591, 598, 605, 647, 653, 692, 699], 156) := by decide +kernel
theorem d_Teller_perform_204 : decode prog_6_method_7_code 204 = .ok (.aload_n 0, 1) := by decide +kernel
theorem d_Teller_perform_205 : decode prog_6_method_7_code 205 = .ok (.aload_n 1, 1) := by decide +kernel
theorem d_Teller_perform_206 : decode prog_6_method_7_code 206 = .ok (.invokevirtual 115, 3) := by decide +kernel
theorem d_Teller_perform_209 : decode prog_6_method_7_code 209 = .ok (.ireturn, 1) := by decide +kernel
theorem d_Teller_perform_210 : decode prog_6_method_7_code 210 = .ok (.aload_n 0, 1) := by decide +kernel
theorem d_Teller_perform_211 : decode prog_6_method_7_code 211 = .ok (.aload_n 1, 1) := by decide +kernel
theorem d_Teller_perform_212 : decode prog_6_method_7_code 212 = .ok (.iconst 2, 1) := by decide +kernel
theorem d_Teller_perform_213 : decode prog_6_method_7_code 213 = .ok (.iload_n 3, 1) := by decide +kernel
theorem d_Teller_perform_214 : decode prog_6_method_7_code 214 = .ok (.i2b, 1) := by decide +kernel
theorem d_Teller_perform_215 : decode prog_6_method_7_code 215 = .ok (.invokevirtual 119, 3) := by decide +kernel
theorem d_Teller_perform_218 : decode prog_6_method_7_code 218 = .ok (.ireturn, 1) := by decide +kernel
theorem d_Teller_perform_219 : decode prog_6_method_7_code 219 = .ok (.aload_n 0, 1) := by decide +kernel
theorem d_Teller_perform_220 : decode prog_6_method_7_code 220 = .ok (.aload_n 1, 1) := by decide +kernel
theorem d_Teller_perform_221 : decode prog_6_method_7_code 221 = .ok (.iconst 2, 1) := by decide +kernel
theorem d_Teller_perform_222 : decode prog_6_method_7_code 222 = .ok (.aload_n 0, 1) := by decide +kernel
theorem d_Teller_perform_223 : decode prog_6_method_7_code 223 = .ok (.getfield 36, 3) := by decide +kernel
theorem d_Teller_perform_226 : decode prog_6_method_7_code 226 = .ok (.aload_n 1, 1) := by decide +kernel
theorem d_Teller_perform_227 : decode prog_6_method_7_code 227 = .ok (.getfield 97, 3) := by decide +kernel
theorem d_Teller_perform_230 : decode prog_6_method_7_code 230 = .ok (.iconst 1, 1) := by decide +kernel
theorem d_Teller_perform_231 : decode prog_6_method_7_code 231 = .ok (.iadd, 1) := by decide +kernel
theorem d_Teller_perform_232 : decode prog_6_method_7_code 232 = .ok (.invokevirtual 123, 3) := by decide +kernel
theorem d_Teller_perform_235 : decode prog_6_method_7_code 235 = .ok (.invokevirtual 119, 3) := by decide +kernel
theorem d_Teller_perform_238 : decode prog_6_method_7_code 238 = .ok (.ireturn, 1) := by decide +kernel
theorem d_Teller_perform_239 : decode prog_6_method_7_code 239 = .ok (.aload_n 0, 1) := by decide +kernel
theorem d_Teller_perform_240 : decode prog_6_method_7_code 240 = .ok (.aload_n 1, 1) := by decide +kernel
theorem d_Teller_perform_241 : decode prog_6_method_7_code 241 = .ok (.iconst 0, 1) := by decide +kernel
theorem d_Teller_perform_242 : decode prog_6_method_7_code 242 = .ok (.iconst 0, 1) := by decide +kernel
theorem d_Teller_perform_243 : decode prog_6_method_7_code 243 = .ok (.invokevirtual 119, 3) := by decide +kernel
theorem d_Teller_perform_246 : decode prog_6_method_7_code 246 = .ok (.ireturn, 1) := by decide +kernel
theorem d_Teller_perform_247 : decode prog_6_method_7_code 247 = .ok (.aload_n 0, 1) := by decide +kernel
theorem d_Teller_perform_248 : decode prog_6_method_7_code 248 = .ok (.aload_n 1, 1) := by decide +kernel
theorem d_Teller_perform_249 : decode prog_6_method_7_code 249 = .ok (.iconst 1, 1) := by decide +kernel
theorem d_Teller_perform_250 : decode prog_6_method_7_code 250 = .ok (.iconst 1, 1) := by decide +kernel
theorem d_Teller_perform_251 : decode prog_6_method_7_code 251 = .ok (.invokevirtual 119, 3) := by decide +kernel
theorem d_Teller_perform_254 : decode prog_6_method_7_code 254 = .ok (.ireturn, 1) := by decide +kernel
theorem d_Teller_perform_255 : decode prog_6_method_7_code 255 = .ok (.aload_n 0, 1) := by decide +kernel
theorem d_Teller_perform_256 : decode prog_6_method_7_code 256 = .ok (.getfield 40, 3) := by decide +kernel
theorem d_Teller_perform_259 : decode prog_6_method_7_code 259 = .ok (.iload_n 3, 1) := by decide +kernel
theorem d_Teller_perform_260 : decode prog_6_method_7_code 260 = .ok (.invokevirtual 126, 3) := by decide +kernel
theorem d_Teller_perform_263 : decode prog_6_method_7_code 263 = .ok (.ifCond .eq 17, 3) := by decide +kernel
theorem d_Teller_perform_266 : decode prog_6_method_7_code 266 = .ok (.aload_n 0, 1) := by decide +kernel
theorem d_Teller_perform_267 : decode prog_6_method_7_code 267 = .ok (.aload_n 1, 1) := by decide +kernel
theorem d_Teller_perform_268 : decode prog_6_method_7_code 268 = .ok (.iconst 3, 1) := by decide +kernel
theorem d_Teller_perform_269 : decode prog_6_method_7_code 269 = .ok (.iload_n 3, 1) := by decide +kernel
theorem d_Teller_perform_270 : decode prog_6_method_7_code 270 = .ok (.invokevirtual 119, 3) := by decide +kernel
theorem d_Teller_perform_273 : decode prog_6_method_7_code 273 = .ok (.ifCond .eq 7, 3) := by decide +kernel
theorem d_Teller_perform_276 : decode prog_6_method_7_code 276 = .ok (.iconst 1, 1) := by decide +kernel
theorem d_Teller_perform_277 : decode prog_6_method_7_code 277 = .ok (.goto 4, 3) := by decide +kernel
theorem d_Teller_perform_280 : decode prog_6_method_7_code 280 = .ok (.iconst 0, 1) := by decide +kernel
theorem d_Teller_perform_281 : decode prog_6_method_7_code 281 = .ok (.ireturn, 1) := by decide +kernel
theorem d_Teller_perform_282 : decode prog_6_method_7_code 282 = .ok (.aload_n 0, 1) := by decide +kernel
theorem d_Teller_perform_283 : decode prog_6_method_7_code 283 = .ok (.aload_n 1, 1) := by decide +kernel
theorem d_Teller_perform_284 : decode prog_6_method_7_code 284 = .ok (.iconst 4, 1) := by decide +kernel
theorem d_Teller_perform_285 : decode prog_6_method_7_code 285 = .ok (.aload_n 0, 1) := by decide +kernel
theorem d_Teller_perform_286 : decode prog_6_method_7_code 286 = .ok (.getfield 36, 3) := by decide +kernel
theorem d_Teller_perform_289 : decode prog_6_method_7_code 289 = .ok (.aload_n 1, 1) := by decide +kernel
theorem d_Teller_perform_290 : decode prog_6_method_7_code 290 = .ok (.getfield 97, 3) := by decide +kernel
theorem d_Teller_perform_293 : decode prog_6_method_7_code 293 = .ok (.iconst 1, 1) := by decide +kernel
theorem d_Teller_perform_294 : decode prog_6_method_7_code 294 = .ok (.iadd, 1) := by decide +kernel
theorem d_Teller_perform_295 : decode prog_6_method_7_code 295 = .ok (.invokevirtual 130, 3) := by decide +kernel
theorem d_Teller_perform_298 : decode prog_6_method_7_code 298 = .ok (.invokevirtual 119, 3) := by decide +kernel
theorem d_Teller_perform_301 : decode prog_6_method_7_code 301 = .ok (.ireturn, 1) := by decide +kernel
theorem d_Teller_perform_302 : decode prog_6_method_7_code 302 = .ok (.aload_n 0, 1) := by decide +kernel
theorem d_Teller_perform_303 : decode prog_6_method_7_code 303 = .ok (.aload_n 1, 1) := by decide +kernel
theorem d_Teller_perform_304 : decode prog_6_method_7_code 304 = .ok (.iload_n 3, 1) := by decide +kernel
theorem d_Teller_perform_305 : decode prog_6_method_7_code 305 = .ok (.invokevirtual 133, 3) := by decide +kernel
theorem d_Teller_perform_308 : decode prog_6_method_7_code 308 = .ok (.ifCond .eq 21, 3) := by decide +kernel
theorem d_Teller_perform_311 : decode prog_6_method_7_code 311 = .ok (.aload_n 0, 1) := by decide +kernel
theorem d_Teller_perform_312 : decode prog_6_method_7_code 312 = .ok (.aload_n 1, 1) := by decide +kernel
theorem d_Teller_perform_313 : decode prog_6_method_7_code 313 = .ok (.aload_n 1, 1) := by decide +kernel
theorem d_Teller_perform_314 : decode prog_6_method_7_code 314 = .ok (.getfield 137, 3) := by decide +kernel
theorem d_Teller_perform_317 : decode prog_6_method_7_code 317 = .ok (.iload_n 3, 1) := by decide +kernel
theorem d_Teller_perform_318 : decode prog_6_method_7_code 318 = .ok (.iadd, 1) := by decide +kernel
theorem d_Teller_perform_319 : decode prog_6_method_7_code 319 = .ok (.invokevirtual 140, 3) := by decide +kernel
theorem d_Teller_perform_322 : decode prog_6_method_7_code 322 = .ok (.ifCond .eq 7, 3) := by decide +kernel
theorem d_Teller_perform_325 : decode prog_6_method_7_code 325 = .ok (.iconst 1, 1) := by decide +kernel
theorem d_Teller_perform_326 : decode prog_6_method_7_code 326 = .ok (.goto 4, 3) := by decide +kernel
theorem d_Teller_perform_329 : decode prog_6_method_7_code 329 = .ok (.iconst 0, 1) := by decide +kernel
theorem d_Teller_perform_330 : decode prog_6_method_7_code 330 = .ok (.ireturn, 1) := by decide +kernel
theorem d_Teller_perform_331 : decode prog_6_method_7_code 331 = .ok (.aload_n 0, 1) := by decide +kernel
theorem d_Teller_perform_332 : decode prog_6_method_7_code 332 = .ok (.aload_n 1, 1) := by decide +kernel
theorem d_Teller_perform_333 : decode prog_6_method_7_code 333 = .ok (.iload_n 3, 1) := by decide +kernel
theorem d_Teller_perform_334 : decode prog_6_method_7_code 334 = .ok (.invokevirtual 143, 3) := by decide +kernel
theorem d_Teller_perform_337 : decode prog_6_method_7_code 337 = .ok (.ireturn, 1) := by decide +kernel
theorem d_Teller_perform_338 : decode prog_6_method_7_code 338 = .ok (.aload_n 1, 1) := by decide +kernel
theorem d_Teller_perform_339 : decode prog_6_method_7_code 339 = .ok (.getfield 84, 3) := by decide +kernel
theorem d_Teller_perform_342 : decode prog_6_method_7_code 342 = .ok (.iconst (-1), 1) := by decide +kernel
theorem d_Teller_perform_343 : decode prog_6_method_7_code 343 = .ok (.if_icmp .ne 13, 3) := by decide +kernel
theorem d_Teller_perform_346 : decode prog_6_method_7_code 346 = .ok (.aload_n 0, 1) := by decide +kernel
theorem d_Teller_perform_347 : decode prog_6_method_7_code 347 = .ok (.aload_n 1, 1) := by decide +kernel
theorem d_Teller_perform_348 : decode prog_6_method_7_code 348 = .ok (.iconst 0, 1) := by decide +kernel
theorem d_Teller_perform_349 : decode prog_6_method_7_code 349 = .ok (.iconst 0, 1) := by decide +kernel
theorem d_Teller_perform_350 : decode prog_6_method_7_code 350 = .ok (.invokevirtual 119, 3) := by decide +kernel
theorem d_Teller_perform_353 : decode prog_6_method_7_code 353 = .ok (.goto 13, 3) := by decide +kernel
theorem d_Teller_perform_356 : decode prog_6_method_7_code 356 = .ok (.aload_n 0, 1) := by decide +kernel
theorem d_Teller_perform_357 : decode prog_6_method_7_code 357 = .ok (.aload_n 1, 1) := by decide +kernel
theorem d_Teller_perform_358 : decode prog_6_method_7_code 358 = .ok (.iconst 3, 1) := by decide +kernel
theorem d_Teller_perform_359 : decode prog_6_method_7_code 359 = .ok (.aload_n 1, 1) := by decide +kernel
theorem d_Teller_perform_360 : decode prog_6_method_7_code 360 = .ok (.getfield 84, 3) := by decide +kernel
theorem d_Teller_perform_363 : decode prog_6_method_7_code 363 = .ok (.invokevirtual 119, 3) := by decide +kernel
theorem d_Teller_perform_366 : decode prog_6_method_7_code 366 = .ok (.ireturn, 1) := by decide +kernel
theorem d_Teller_perform_367 : decode prog_6_method_7_code 367 = .ok (.aload_n 0, 1) := by decide +kernel
theorem d_Teller_perform_368 : decode prog_6_method_7_code 368 = .ok (.aload_n 1, 1) := by decide +kernel
theorem d_Teller_perform_369 : decode prog_6_method_7_code 369 = .ok (.iconst 1, 1) := by decide +kernel
theorem d_Teller_perform_370 : decode prog_6_method_7_code 370 = .ok (.invokevirtual 146, 3) := by decide +kernel
theorem d_Teller_perform_373 : decode prog_6_method_7_code 373 = .ok (.ifCond .eq 24, 3) := by decide +kernel
theorem d_Teller_perform_376 : decode prog_6_method_7_code 376 = .ok (.aload_n 0, 1) := by decide +kernel
theorem d_Teller_perform_377 : decode prog_6_method_7_code 377 = .ok (.aload_n 1, 1) := by decide +kernel
theorem d_Teller_perform_378 : decode prog_6_method_7_code 378 = .ok (.aload_n 0, 1) := by decide +kernel
theorem d_Teller_perform_379 : decode prog_6_method_7_code 379 = .ok (.getfield 22, 3) := by decide +kernel
theorem d_Teller_perform_382 : decode prog_6_method_7_code 382 = .ok (.getfield 52, 3) := by decide +kernel
theorem d_Teller_perform_385 : decode prog_6_method_7_code 385 = .ok (.iconst 1, 1) := by decide +kernel
theorem d_Teller_perform_386 : decode prog_6_method_7_code 386 = .ok (.isub, 1) := by decide +kernel
theorem d_Teller_perform_387 : decode prog_6_method_7_code 387 = .ok (.invokevirtual 140, 3) := by decide +kernel
theorem d_Teller_perform_390 : decode prog_6_method_7_code 390 = .ok (.ifCond .eq 7, 3) := by decide +kernel
theorem d_Teller_perform_393 : decode prog_6_method_7_code 393 = .ok (.iconst 1, 1) := by decide +kernel
theorem d_Teller_perform_394 : decode prog_6_method_7_code 394 = .ok (.goto 4, 3) := by decide +kernel
theorem d_Teller_perform_397 : decode prog_6_method_7_code 397 = .ok (.iconst 0, 1) := by decide +kernel
theorem d_Teller_perform_398 : decode prog_6_method_7_code 398 = .ok (.ireturn, 1) := by decide +kernel
theorem d_Teller_perform_399 : decode prog_6_method_7_code 399 = .ok (.aload_n 0, 1) := by decide +kernel
theorem d_Teller_perform_400 : decode prog_6_method_7_code 400 = .ok (.aload_n 1, 1) := by decide +kernel
theorem d_Teller_perform_401 : decode prog_6_method_7_code 401 = .ok (.iconst 1, 1) := by decide +kernel
theorem d_Teller_perform_402 : decode prog_6_method_7_code 402 = .ok (.invokevirtual 146, 3) := by decide +kernel
theorem d_Teller_perform_405 : decode prog_6_method_7_code 405 = .ok (.ifCond .eq 16, 3) := by decide +kernel
theorem d_Teller_perform_408 : decode prog_6_method_7_code 408 = .ok (.aload_n 0, 1) := by decide +kernel
theorem d_Teller_perform_409 : decode prog_6_method_7_code 409 = .ok (.aload_n 1, 1) := by decide +kernel
theorem d_Teller_perform_410 : decode prog_6_method_7_code 410 = .ok (.iconst 1, 1) := by decide +kernel
theorem d_Teller_perform_411 : decode prog_6_method_7_code 411 = .ok (.invokevirtual 149, 3) := by decide +kernel
theorem d_Teller_perform_414 : decode prog_6_method_7_code 414 = .ok (.ifCond .eq 7, 3) := by decide +kernel
theorem d_Teller_perform_417 : decode prog_6_method_7_code 417 = .ok (.iconst 1, 1) := by decide +kernel
theorem d_Teller_perform_418 : decode prog_6_method_7_code 418 = .ok (.goto 4, 3) := by decide +kernel
theorem d_Teller_perform_421 : decode prog_6_method_7_code 421 = .ok (.iconst 0, 1) := by decide +kernel
theorem d_Teller_perform_422 : decode prog_6_method_7_code 422 = .ok (.ireturn, 1) := by decide +kernel
theorem d_Teller_perform_423 : decode prog_6_method_7_code 423 = .ok (.aload_n 0, 1) := by decide +kernel
theorem d_Teller_perform_424 : decode prog_6_method_7_code 424 = .ok (.aload_n 1, 1) := by decide +kernel
theorem d_Teller_perform_425 : decode prog_6_method_7_code 425 = .ok (.iload_n 2, 1) := by decide +kernel
theorem d_Teller_perform_426 : decode prog_6_method_7_code 426 = .ok (.invokevirtual 152, 3) := by decide +kernel
theorem d_Teller_perform_429 : decode prog_6_method_7_code 429 = .ok (.ireturn, 1) := by decide +kernel
theorem d_Teller_perform_430 : decode prog_6_method_7_code 430 = .ok (.aload_n 0, 1) := by decide +kernel
theorem d_Teller_perform_431 : decode prog_6_method_7_code 431 = .ok (.aload_n 1, 1) := by decide +kernel
theorem d_Teller_perform_432 : decode prog_6_method_7_code 432 = .ok (.invokevirtual 155, 3) := by decide +kernel
theorem d_Teller_perform_435 : decode prog_6_method_7_code 435 = .ok (.ireturn, 1) := by decide +kernel
theorem d_Teller_perform_436 : decode prog_6_method_7_code 436 = .ok (.aload_n 0, 1) := by decide +kernel
theorem d_Teller_perform_437 : decode prog_6_method_7_code 437 = .ok (.aload_n 1, 1) := by decide +kernel
theorem d_Teller_perform_438 : decode prog_6_method_7_code 438 = .ok (.iconst 1, 1) := by decide +kernel
theorem d_Teller_perform_439 : decode prog_6_method_7_code 439 = .ok (.invokevirtual 146, 3) := by decide +kernel
theorem d_Teller_perform_442 : decode prog_6_method_7_code 442 = .ok (.ifCond .eq 29, 3) := by decide +kernel
theorem d_Teller_perform_445 : decode prog_6_method_7_code 445 = .ok (.aload_n 0, 1) := by decide +kernel
theorem d_Teller_perform_446 : decode prog_6_method_7_code 446 = .ok (.aload_n 1, 1) := by decide +kernel
