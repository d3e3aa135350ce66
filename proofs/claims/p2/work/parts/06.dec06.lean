theorem d_Model_code_60 : decode prog_10_method_16_code 60 = .ok (.iconst 1, 1) := by decide +kernel
theorem d_Model_code_61 : decode prog_10_method_16_code 61 = .ok (.iadd, 1) := by decide +kernel
theorem d_Model_code_62 : decode prog_10_method_16_code 62 = .ok (.putfield 104, 3) := by decide +kernel
theorem d_Model_code_65 : decode prog_10_method_16_code 65 = .ok (.iinc 3 (-1), 3) := by decide +kernel
theorem d_Model_code_68 : decode prog_10_method_16_code 68 = .ok (.goto (-36), 3) := by decide +kernel
theorem d_Model_code_71 : decode prog_10_method_16_code 71 = .ok (.iconst 1, 1) := by decide +kernel
theorem d_Model_code_72 : decode prog_10_method_16_code 72 = .ok (.ireturn, 1) := by decide +kernel
theorem d_Model_collect_0 : decode prog_10_method_50_code 0 = .ok (.aload_n 0, 1) := by decide +kernel
theorem d_Model_collect_1 : decode prog_10_method_50_code 1 = .ok (.iconst 0, 1) := by decide +kernel
theorem d_Model_collect_2 : decode prog_10_method_50_code 2 = .ok (.putfield 75, 3) := by decide +kernel
theorem d_Model_collect_5 : decode prog_10_method_50_code 5 = .ok (.aload_n 0, 1) := by decide +kernel
theorem d_Model_collect_6 : decode prog_10_method_50_code 6 = .ok (.iconst 0, 1) := by decide +kernel
theorem d_Model_collect_7 : decode prog_10_method_50_code 7 = .ok (.aload_n 0, 1) := by decide +kernel
theorem d_Model_collect_8 : decode prog_10_method_50_code 8 = .ok (.getfield 147, 3) := by decide +kernel
theorem d_Model_collect_11 : decode prog_10_method_50_code 11 = .ok (.aload_n 0, 1) := by decide +kernel
theorem d_Model_collect_12 : decode prog_10_method_50_code 12 = .ok (.getfield 150, 3) := by decide +kernel
theorem d_Model_collect_15 : decode prog_10_method_50_code 15 = .ok (.invokevirtual 232, 3) := by decide +kernel
theorem d_Model_collect_18 : decode prog_10_method_50_code 18 = .ok (.istore_n 1, 1) := by decide +kernel
theorem d_Model_collect_19 : decode prog_10_method_50_code 19 = .ok (.iconst 0, 1) := by decide +kernel
theorem d_Model_collect_20 : decode prog_10_method_50_code 20 = .ok (.istore_n 2, 1) := by decide +kernel
theorem d_Model_collect_21 : decode prog_10_method_50_code 21 = .ok (.iload_n 2, 1) := by decide +kernel
theorem d_Model_collect_22 : decode prog_10_method_50_code 22 = .ok (.bipush 16, 2) := by decide +kernel
theorem d_Model_collect_24 : decode prog_10_method_50_code 24 = .ok (.if_icmp .ge 17, 3) := by decide +kernel
theorem d_Model_collect_27 : decode prog_10_method_50_code 27 = .ok (.aload_n 0, 1) := by decide +kernel
theorem d_Model_collect_28 : decode prog_10_method_50_code 28 = .ok (.iload_n 1, 1) := by decide +kernel
theorem d_Model_collect_29 : decode prog_10_method_50_code 29 = .ok (.iconst 3, 1) := by decide +kernel
theorem d_Model_collect_30 : decode prog_10_method_50_code 30 = .ok (.iload_n 2, 1) := by decide +kernel
theorem d_Model_collect_31 : decode prog_10_method_50_code 31 = .ok (.invokevirtual 232, 3) := by decide +kernel
theorem d_Model_collect_34 : decode prog_10_method_50_code 34 = .ok (.istore_n 1, 1) := by decide +kernel
theorem d_Model_collect_35 : decode prog_10_method_50_code 35 = .ok (.iinc 2 1, 3) := by decide +kernel
theorem d_Model_collect_38 : decode prog_10_method_50_code 38 = .ok (.goto (-17), 3) := by decide +kernel
theorem d_Model_collect_41 : decode prog_10_method_50_code 41 = .ok (.iconst 0, 1) := by decide +kernel
theorem d_Model_collect_42 : decode prog_10_method_50_code 42 = .ok (.istore_n 2, 1) := by decide +kernel
theorem d_Model_collect_43 : decode prog_10_method_50_code 43 = .ok (.iload_n 2, 1) := by decide +kernel
theorem d_Model_collect_44 : decode prog_10_method_50_code 44 = .ok (.aload_n 0, 1) := by decide +kernel
theorem d_Model_collect_45 : decode prog_10_method_50_code 45 = .ok (.getfield 130, 3) := by decide +kernel
theorem d_Model_collect_48 : decode prog_10_method_50_code 48 = .ok (.if_icmp .ge 27, 3) := by decide +kernel
theorem d_Model_collect_51 : decode prog_10_method_50_code 51 = .ok (.aload_n 0, 1) := by decide +kernel
theorem d_Model_collect_52 : decode prog_10_method_50_code 52 = .ok (.iload_n 1, 1) := by decide +kernel
theorem d_Model_collect_53 : decode prog_10_method_50_code 53 = .ok (.aload_n 0, 1) := by decide +kernel
theorem d_Model_collect_54 : decode prog_10_method_50_code 54 = .ok (.getfield 32, 3) := by decide +kernel
theorem d_Model_collect_57 : decode prog_10_method_50_code 57 = .ok (.iload_n 2, 1) := by decide +kernel
theorem d_Model_collect_58 : decode prog_10_method_50_code 58 = .ok (.iaload, 1) := by decide +kernel
theorem d_Model_collect_59 : decode prog_10_method_50_code 59 = .ok (.aload_n 0, 1) := by decide +kernel
theorem d_Model_collect_60 : decode prog_10_method_50_code 60 = .ok (.getfield 35, 3) := by decide +kernel
theorem d_Model_collect_63 : decode prog_10_method_50_code 63 = .ok (.iload_n 2, 1) := by decide +kernel
theorem d_Model_collect_64 : decode prog_10_method_50_code 64 = .ok (.iaload, 1) := by decide +kernel
theorem d_Model_collect_65 : decode prog_10_method_50_code 65 = .ok (.invokevirtual 232, 3) := by decide +kernel
theorem d_Model_collect_68 : decode prog_10_method_50_code 68 = .ok (.istore_n 1, 1) := by decide +kernel
theorem d_Model_collect_69 : decode prog_10_method_50_code 69 = .ok (.iinc 2 1, 3) := by decide +kernel
theorem d_Model_collect_72 : decode prog_10_method_50_code 72 = .ok (.goto (-29), 3) := by decide +kernel
theorem d_Model_collect_75 : decode prog_10_method_50_code 75 = .ok (.iconst 0, 1) := by decide +kernel
theorem d_Model_collect_76 : decode prog_10_method_50_code 76 = .ok (.istore_n 2, 1) := by decide +kernel
theorem d_Model_collect_77 : decode prog_10_method_50_code 77 = .ok (.iload_n 2, 1) := by decide +kernel
theorem d_Model_collect_78 : decode prog_10_method_50_code 78 = .ok (.aload_n 0, 1) := by decide +kernel
theorem d_Model_collect_79 : decode prog_10_method_50_code 79 = .ok (.getfield 127, 3) := by decide +kernel
theorem d_Model_collect_82 : decode prog_10_method_50_code 82 = .ok (.if_icmp .ge 33, 3) := by decide +kernel
theorem d_Model_collect_85 : decode prog_10_method_50_code 85 = .ok (.aload_n 0, 1) := by decide +kernel
theorem d_Model_collect_86 : decode prog_10_method_50_code 86 = .ok (.aload_n 0, 1) := by decide +kernel
theorem d_Model_collect_87 : decode prog_10_method_50_code 87 = .ok (.iload_n 1, 1) := by decide +kernel
theorem d_Model_collect_88 : decode prog_10_method_50_code 88 = .ok (.iconst 3, 1) := by decide +kernel
theorem d_Model_collect_89 : decode prog_10_method_50_code 89 = .ok (.aload_n 0, 1) := by decide +kernel
theorem d_Model_collect_90 : decode prog_10_method_50_code 90 = .ok (.getfield 53, 3) := by decide +kernel
theorem d_Model_collect_93 : decode prog_10_method_50_code 93 = .ok (.iload_n 2, 1) := by decide +kernel
theorem d_Model_collect_94 : decode prog_10_method_50_code 94 = .ok (.iaload, 1) := by decide +kernel
theorem d_Model_collect_95 : decode prog_10_method_50_code 95 = .ok (.invokevirtual 232, 3) := by decide +kernel
theorem d_Model_collect_98 : decode prog_10_method_50_code 98 = .ok (.iconst 3, 1) := by decide +kernel
theorem d_Model_collect_99 : decode prog_10_method_50_code 99 = .ok (.aload_n 0, 1) := by decide +kernel
theorem d_Model_collect_100 : decode prog_10_method_50_code 100 = .ok (.getfield 56, 3) := by decide +kernel
theorem d_Model_collect_103 : decode prog_10_method_50_code 103 = .ok (.iload_n 2, 1) := by decide +kernel
theorem d_Model_collect_104 : decode prog_10_method_50_code 104 = .ok (.iaload, 1) := by decide +kernel
theorem d_Model_collect_105 : decode prog_10_method_50_code 105 = .ok (.invokevirtual 232, 3) := by decide +kernel
theorem d_Model_collect_108 : decode prog_10_method_50_code 108 = .ok (.istore_n 1, 1) := by decide +kernel
theorem d_Model_collect_109 : decode prog_10_method_50_code 109 = .ok (.iinc 2 1, 3) := by decide +kernel
theorem d_Model_collect_112 : decode prog_10_method_50_code 112 = .ok (.goto (-35), 3) := by decide +kernel
theorem d_Model_collect_115 : decode prog_10_method_50_code 115 = .ok (.iconst 0, 1) := by decide +kernel
theorem d_Model_collect_116 : decode prog_10_method_50_code 116 = .ok (.istore_n 2, 1) := by decide +kernel
theorem d_Model_collect_117 : decode prog_10_method_50_code 117 = .ok (.iload_n 1, 1) := by decide +kernel
theorem d_Model_collect_118 : decode prog_10_method_50_code 118 = .ok (.iload_n 2, 1) := by decide +kernel
theorem d_Model_collect_119 : decode prog_10_method_50_code 119 = .ok (.if_icmp .eq 14, 3) := by decide +kernel
theorem d_Model_collect_122 : decode prog_10_method_50_code 122 = .ok (.iload_n 1, 1) := by decide +kernel
theorem d_Model_collect_123 : decode prog_10_method_50_code 123 = .ok (.istore_n 2, 1) := by decide +kernel
theorem d_Model_collect_124 : decode prog_10_method_50_code 124 = .ok (.aload_n 0, 1) := by decide +kernel
theorem d_Model_collect_125 : decode prog_10_method_50_code 125 = .ok (.iload_n 2, 1) := by decide +kernel
theorem d_Model_collect_126 : decode prog_10_method_50_code 126 = .ok (.invokevirtual 235, 3) := by decide +kernel
theorem d_Model_collect_129 : decode prog_10_method_50_code 129 = .ok (.istore_n 1, 1) := by decide +kernel
theorem d_Model_collect_130 : decode prog_10_method_50_code 130 = .ok (.goto (-13), 3) := by decide +kernel
theorem d_Model_collect_133 : decode prog_10_method_50_code 133 = .ok (.iconst 0, 1) := by decide +kernel
theorem d_Model_collect_134 : decode prog_10_method_50_code 134 = .ok (.istore_n 3, 1) := by decide +kernel
theorem d_Model_collect_135 : decode prog_10_method_50_code 135 = .ok (.bipush 16, 2) := by decide +kernel
theorem d_Model_collect_137 : decode prog_10_method_50_code 137 = .ok (.istore 4, 2) := by decide +kernel
theorem d_Model_collect_139 : decode prog_10_method_50_code 139 = .ok (.iload 4, 2) := by decide +kernel
theorem d_Model_collect_141 : decode prog_10_method_50_code 141 = .ok (.bipush 32, 2) := by decide +kernel
theorem d_Model_collect_143 : decode prog_10_method_50_code 143 = .ok (.if_icmp .ge 63, 3) := by decide +kernel
theorem d_Model_collect_146 : decode prog_10_method_50_code 146 = .ok (.aload_n 0, 1) := by decide +kernel
theorem d_Model_collect_147 : decode prog_10_method_50_code 147 = .ok (.iload 4, 2) := by decide +kernel
theorem d_Model_collect_149 : decode prog_10_method_50_code 149 = .ok (.invokevirtual 107, 3) := by decide +kernel
theorem d_Model_collect_152 : decode prog_10_method_50_code 152 = .ok (.ifCond .eq 16, 3) := by decide +kernel
theorem d_Model_collect_155 : decode prog_10_method_50_code 155 = .ok (.iload_n 1, 1) := by decide +kernel
theorem d_Model_collect_156 : decode prog_10_method_50_code 156 = .ok (.iload 4, 2) := by decide +kernel
theorem d_Model_collect_158 : decode prog_10_method_50_code 158 = .ok (.ishr, 1) := by decide +kernel
theorem d_Model_collect_159 : decode prog_10_method_50_code 159 = .ok (.iconst 1, 1) := by decide +kernel
theorem d_Model_collect_160 : decode prog_10_method_50_code 160 = .ok (.iand, 1) := by decide +kernel
theorem d_Model_collect_161 : decode prog_10_method_50_code 161 = .ok (.ifCond .ne 7, 3) := by decide +kernel
theorem d_Model_collect_164 : decode prog_10_method_50_code 164 = .ok (.iconst 1, 1) := by decide +kernel
theorem d_Model_collect_165 : decode prog_10_method_50_code 165 = .ok (.goto 4, 3) := by decide +kernel
theorem d_Model_collect_168 : decode prog_10_method_50_code 168 = .ok (.iconst 0, 1) := by decide +kernel
theorem d_Model_collect_169 : decode prog_10_method_50_code 169 = .ok (.istore 5, 2) := by decide +kernel
theorem d_Model_collect_171 : decode prog_10_method_50_code 171 = .ok (.iload 5, 2) := by decide +kernel
theorem d_Model_collect_173 : decode prog_10_method_50_code 173 = .ok (.ifCond .eq 14, 3) := by decide +kernel
theorem d_Model_collect_176 : decode prog_10_method_50_code 176 = .ok (.aload_n 0, 1) := by decide +kernel
theorem d_Model_collect_177 : decode prog_10_method_50_code 177 = .ok (.getfield 13, 3) := by decide +kernel
theorem d_Model_collect_180 : decode prog_10_method_50_code 180 = .ok (.bipush 29, 2) := by decide +kernel
theorem d_Model_collect_182 : decode prog_10_method_50_code 182 = .ok (.iload 4, 2) := by decide +kernel
theorem d_Model_collect_184 : decode prog_10_method_50_code 184 = .ok (.imul, 1) := by decide +kernel
theorem d_Model_collect_185 : decode prog_10_method_50_code 185 = .ok (.iconst 0, 1) := by decide +kernel
theorem d_Model_collect_186 : decode prog_10_method_50_code 186 = .ok (.iastore, 1) := by decide +kernel
theorem d_Model_collect_187 : decode prog_10_method_50_code 187 = .ok (.iload 5, 2) := by decide +kernel
theorem d_Model_collect_189 : decode prog_10_method_50_code 189 = .ok (.ifCond .eq 9, 3) := by decide +kernel
theorem d_Model_collect_192 : decode prog_10_method_50_code 192 = .ok (.iload_n 3, 1) := by decide +kernel
theorem d_Model_collect_193 : decode prog_10_method_50_code 193 = .ok (.iconst 1, 1) := by decide +kernel
theorem d_Model_collect_194 : decode prog_10_method_50_code 194 = .ok (.iadd, 1) := by decide +kernel
theorem d_Model_collect_195 : decode prog_10_method_50_code 195 = .ok (.goto 4, 3) := by decide +kernel
theorem d_Model_collect_198 : decode prog_10_method_50_code 198 = .ok (.iload_n 3, 1) := by decide +kernel
theorem d_Model_collect_199 : decode prog_10_method_50_code 199 = .ok (.istore_n 3, 1) := by decide +kernel
theorem d_Model_collect_200 : decode prog_10_method_50_code 200 = .ok (.iinc 4 1, 3) := by decide +kernel
theorem d_Model_collect_203 : decode prog_10_method_50_code 203 = .ok (.goto (-64), 3) := by decide +kernel
theorem d_Model_collect_206 : decode prog_10_method_50_code 206 = .ok (.iload_n 3, 1) := by decide +kernel
theorem d_Model_collect_207 : decode prog_10_method_50_code 207 = .ok (.ireturn, 1) := by decide +kernel
theorem d_Model_end_0 : decode prog_10_method_42_code 0 = .ok (.aload_n 0, 1) := by decide +kernel
theorem d_Model_end_1 : decode prog_10_method_42_code 1 = .ok (.getfield 127, 3) := by decide +kernel
theorem d_Model_end_4 : decode prog_10_method_42_code 4 = .ok (.iconst 1, 1) := by decide +kernel
theorem d_Model_end_5 : decode prog_10_method_42_code 5 = .ok (.isub, 1) := by decide +kernel
theorem d_Model_end_6 : decode prog_10_method_42_code 6 = .ok (.istore_n 3, 1) := by decide +kernel
theorem d_Model_end_7 : decode prog_10_method_42_code 7 = .ok (.iload_n 3, 1) := by decide +kernel
theorem d_Model_end_8 : decode prog_10_method_42_code 8 = .ok (.ifCond .le 16, 3) := by decide +kernel
theorem d_Model_end_11 : decode prog_10_method_42_code 11 = .ok (.aload_n 0, 1) := by decide +kernel
theorem d_Model_end_12 : decode prog_10_method_42_code 12 = .ok (.getfield 47, 3) := by decide +kernel
theorem d_Model_end_15 : decode prog_10_method_42_code 15 = .ok (.iload_n 3, 1) := by decide +kernel
theorem d_Model_end_16 : decode prog_10_method_42_code 16 = .ok (.iaload, 1) := by decide +kernel
theorem d_Model_end_17 : decode prog_10_method_42_code 17 = .ok (.bipush 40, 2) := by decide +kernel
theorem d_Model_end_19 : decode prog_10_method_42_code 19 = .ok (.if_icmp .ne 5, 3) := by decide +kernel
theorem d_Model_end_22 : decode prog_10_method_42_code 22 = .ok (.iconst 0, 1) := by decide +kernel
theorem d_Model_end_23 : decode prog_10_method_42_code 23 = .ok (.ireturn, 1) := by decide +kernel
theorem d_Model_end_24 : decode prog_10_method_42_code 24 = .ok (.aload_n 0, 1) := by decide +kernel
theorem d_Model_end_25 : decode prog_10_method_42_code 25 = .ok (.iload_n 3, 1) := by decide +kernel
theorem d_Model_end_26 : decode prog_10_method_42_code 26 = .ok (.putfield 127, 3) := by decide +kernel
theorem d_Model_end_29 : decode prog_10_method_42_code 29 = .ok (.aload_n 0, 1) := by decide +kernel
theorem d_Model_end_30 : decode prog_10_method_42_code 30 = .ok (.aload_n 0, 1) := by decide +kernel
theorem d_Model_end_31 : decode prog_10_method_42_code 31 = .ok (.getfield 47, 3) := by decide +kernel
theorem d_Model_end_34 : decode prog_10_method_42_code 34 = .ok (.iload_n 3, 1) := by decide +kernel
theorem d_Model_end_35 : decode prog_10_method_42_code 35 = .ok (.iaload, 1) := by decide +kernel
theorem d_Model_end_36 : decode prog_10_method_42_code 36 = .ok (.putfield 130, 3) := by decide +kernel
theorem d_Model_end_39 : decode prog_10_method_42_code 39 = .ok (.iload_n 3, 1) := by decide +kernel
theorem d_Model_end_40 : decode prog_10_method_42_code 40 = .ok (.ifCond .le 27, 3) := by decide +kernel
theorem d_Model_end_43 : decode prog_10_method_42_code 43 = .ok (.aload_n 0, 1) := by decide +kernel
theorem d_Model_end_44 : decode prog_10_method_42_code 44 = .ok (.iload_n 1, 1) := by decide +kernel
theorem d_Model_end_45 : decode prog_10_method_42_code 45 = .ok (.iload_n 2, 1) := by decide +kernel
theorem d_Model_end_46 : decode prog_10_method_42_code 46 = .ok (.invokevirtual 133, 3) := by decide +kernel
theorem d_Model_end_49 : decode prog_10_method_42_code 49 = .ok (.aload_n 0, 1) := by decide +kernel
theorem d_Model_end_50 : decode prog_10_method_42_code 50 = .ok (.getfield 59, 3) := by decide +kernel
theorem d_Model_end_53 : decode prog_10_method_42_code 53 = .ok (.iload_n 3, 1) := by decide +kernel
theorem d_Model_end_54 : decode prog_10_method_42_code 54 = .ok (.iconst 1, 1) := by decide +kernel
theorem d_Model_end_55 : decode prog_10_method_42_code 55 = .ok (.isub, 1) := by decide +kernel
theorem d_Model_end_56 : decode prog_10_method_42_code 56 = .ok (.aload_n 0, 1) := by decide +kernel
theorem d_Model_end_57 : decode prog_10_method_42_code 57 = .ok (.getfield 62, 3) := by decide +kernel
theorem d_Model_end_60 : decode prog_10_method_42_code 60 = .ok (.iload_n 3, 1) := by decide +kernel
theorem d_Model_end_61 : decode prog_10_method_42_code 61 = .ok (.iconst 1, 1) := by decide +kernel
theorem d_Model_end_62 : decode prog_10_method_42_code 62 = .ok (.isub, 1) := by decide +kernel
theorem d_Model_end_63 : decode prog_10_method_42_code 63 = .ok (.iaload, 1) := by decide +kernel
theorem d_Model_end_64 : decode prog_10_method_42_code 64 = .ok (.iastore, 1) := by decide +kernel
theorem d_Model_end_65 : decode prog_10_method_42_code 65 = .ok (.iconst 1, 1) := by decide +kernel
theorem d_Model_end_66 : decode prog_10_method_42_code 66 = .ok (.ireturn, 1) := by decide +kernel
theorem d_Model_end_67 : decode prog_10_method_42_code 67 = .ok (.aload_n 0, 1) := by decide +kernel
theorem d_Model_end_68 : decode prog_10_method_42_code 68 = .ok (.iload_n 1, 1) := by decide +kernel
theorem d_Model_end_69 : decode prog_10_method_42_code 69 = .ok (.putfield 147, 3) := by decide +kernel
theorem d_Model_end_72 : decode prog_10_method_42_code 72 = .ok (.aload_n 0, 1) := by decide +kernel
theorem d_Model_end_73 : decode prog_10_method_42_code 73 = .ok (.iload_n 2, 1) := by decide +kernel
theorem d_Model_end_74 : decode prog_10_method_42_code 74 = .ok (.putfield 150, 3) := by decide +kernel
theorem d_Model_end_77 : decode prog_10_method_42_code 77 = .ok (.aload_n 0, 1) := by decide +kernel
theorem d_Model_end_78 : decode prog_10_method_42_code 78 = .ok (.iconst 1, 1) := by decide +kernel
theorem d_Model_end_79 : decode prog_10_method_42_code 79 = .ok (.invokevirtual 163, 3) := by decide +kernel
theorem d_Model_end_82 : decode prog_10_method_42_code 82 = .ok (.pop, 1) := by decide +kernel
theorem d_Model_end_83 : decode prog_10_method_42_code 83 = .ok (.iconst 1, 1) := by decide +kernel
theorem d_Model_end_84 : decode prog_10_method_42_code 84 = .ok (.ireturn, 1) := by decide +kernel
theorem d_Model_enter_0 : decode prog_10_method_23_code 0 = .ok (.aload_n 0, 1) := by decide +kernel
theorem d_Model_enter_1 : decode prog_10_method_23_code 1 = .ok (.getfield 47, 3) := by decide +kernel
theorem d_Model_enter_4 : decode prog_10_method_23_code 4 = .ok (.aload_n 0, 1) := by decide +kernel
theorem d_Model_enter_5 : decode prog_10_method_23_code 5 = .ok (.getfield 127, 3) := by decide +kernel
theorem d_Model_enter_8 : decode prog_10_method_23_code 8 = .ok (.aload_n 0, 1) := by decide +kernel
theorem d_Model_enter_9 : decode prog_10_method_23_code 9 = .ok (.getfield 130, 3) := by decide +kernel
theorem d_Model_enter_12 : decode prog_10_method_23_code 12 = .ok (.iload_n 2, 1) := by decide +kernel
theorem d_Model_enter_13 : decode prog_10_method_23_code 13 = .ok (.isub, 1) := by decide +kernel
theorem d_Model_enter_14 : decode prog_10_method_23_code 14 = .ok (.iastore, 1) := by decide +kernel
theorem d_Model_enter_15 : decode prog_10_method_23_code 15 = .ok (.aload_n 0, 1) := by decide +kernel
theorem d_Model_enter_16 : decode prog_10_method_23_code 16 = .ok (.getfield 50, 3) := by decide +kernel
theorem d_Model_enter_19 : decode prog_10_method_23_code 19 = .ok (.aload_n 0, 1) := by decide +kernel
theorem d_Model_enter_20 : decode prog_10_method_23_code 20 = .ok (.getfield 127, 3) := by decide +kernel
theorem d_Model_enter_23 : decode prog_10_method_23_code 23 = .ok (.iload_n 2, 1) := by decide +kernel
theorem d_Model_enter_24 : decode prog_10_method_23_code 24 = .ok (.aload_n 0, 1) := by decide +kernel
theorem d_Model_enter_25 : decode prog_10_method_23_code 25 = .ok (.getfield 7, 3) := by decide +kernel
theorem d_Model_enter_28 : decode prog_10_method_23_code 28 = .ok (.iload_n 1, 1) := by decide +kernel
theorem d_Model_enter_29 : decode prog_10_method_23_code 29 = .ok (.iconst 1, 1) := by decide +kernel
theorem d_Model_enter_30 : decode prog_10_method_23_code 30 = .ok (.iadd, 1) := by decide +kernel
theorem d_Model_enter_31 : decode prog_10_method_23_code 31 = .ok (.iaload, 1) := by decide +kernel
theorem d_Model_enter_32 : decode prog_10_method_23_code 32 = .ok (.iadd, 1) := by decide +kernel
theorem d_Model_enter_33 : decode prog_10_method_23_code 33 = .ok (.iastore, 1) := by decide +kernel
theorem d_Model_enter_34 : decode prog_10_method_23_code 34 = .ok (.aload_n 0, 1) := by decide +kernel
theorem d_Model_enter_35 : decode prog_10_method_23_code 35 = .ok (.getfield 44, 3) := by decide +kernel
theorem d_Model_enter_38 : decode prog_10_method_23_code 38 = .ok (.aload_n 0, 1) := by decide +kernel
theorem d_Model_enter_39 : decode prog_10_method_23_code 39 = .ok (.getfield 127, 3) := by decide +kernel
theorem d_Model_enter_42 : decode prog_10_method_23_code 42 = .ok (.aload_n 0, 1) := by decide +kernel
theorem d_Model_enter_43 : decode prog_10_method_23_code 43 = .ok (.getfield 7, 3) := by decide +kernel
theorem d_Model_enter_46 : decode prog_10_method_23_code 46 = .ok (.iload_n 1, 1) := by decide +kernel
theorem d_Model_enter_47 : decode prog_10_method_23_code 47 = .ok (.iconst 2, 1) := by decide +kernel
theorem d_Model_enter_48 : decode prog_10_method_23_code 48 = .ok (.iadd, 1) := by decide +kernel
theorem d_Model_enter_49 : decode prog_10_method_23_code 49 = .ok (.iaload, 1) := by decide +kernel
theorem d_Model_enter_50 : decode prog_10_method_23_code 50 = .ok (.iastore, 1) := by decide +kernel
theorem d_Model_enter_51 : decode prog_10_method_23_code 51 = .ok (.aload_n 0, 1) := by decide +kernel
theorem d_Model_enter_52 : decode prog_10_method_23_code 52 = .ok (.getfield 41, 3) := by decide +kernel
theorem d_Model_enter_55 : decode prog_10_method_23_code 55 = .ok (.aload_n 0, 1) := by decide +kernel
theorem d_Model_enter_56 : decode prog_10_method_23_code 56 = .ok (.getfield 127, 3) := by decide +kernel
theorem d_Model_enter_59 : decode prog_10_method_23_code 59 = .ok (.iload_n 1, 1) := by decide +kernel
theorem d_Model_enter_60 : decode prog_10_method_23_code 60 = .ok (.iconst 3, 1) := by decide +kernel
theorem d_Model_enter_61 : decode prog_10_method_23_code 61 = .ok (.iadd, 1) := by decide +kernel
theorem d_Model_enter_62 : decode prog_10_method_23_code 62 = .ok (.iastore, 1) := by decide +kernel
theorem d_Model_enter_63 : decode prog_10_method_23_code 63 = .ok (.aload_n 0, 1) := by decide +kernel
theorem d_Model_enter_64 : decode prog_10_method_23_code 64 = .ok (.getfield 38, 3) := by decide +kernel
theorem d_Model_enter_67 : decode prog_10_method_23_code 67 = .ok (.aload_n 0, 1) := by decide +kernel
theorem d_Model_enter_68 : decode prog_10_method_23_code 68 = .ok (.getfield 127, 3) := by decide +kernel
theorem d_Model_enter_71 : decode prog_10_method_23_code 71 = .ok (.iload_n 1, 1) := by decide +kernel
theorem d_Model_enter_72 : decode prog_10_method_23_code 72 = .ok (.iconst 3, 1) := by decide +kernel
theorem d_Model_enter_73 : decode prog_10_method_23_code 73 = .ok (.iadd, 1) := by decide +kernel
theorem d_Model_enter_74 : decode prog_10_method_23_code 74 = .ok (.iconst 4, 1) := by decide +kernel
theorem d_Model_enter_75 : decode prog_10_method_23_code 75 = .ok (.aload_n 0, 1) := by decide +kernel
theorem d_Model_enter_76 : decode prog_10_method_23_code 76 = .ok (.getfield 7, 3) := by decide +kernel
theorem d_Model_enter_79 : decode prog_10_method_23_code 79 = .ok (.iload_n 1, 1) := by decide +kernel
theorem d_Model_enter_80 : decode prog_10_method_23_code 80 = .ok (.iconst 2, 1) := by decide +kernel
theorem d_Model_enter_81 : decode prog_10_method_23_code 81 = .ok (.iadd, 1) := by decide +kernel
theorem d_Model_enter_82 : decode prog_10_method_23_code 82 = .ok (.iaload, 1) := by decide +kernel
theorem d_Model_enter_83 : decode prog_10_method_23_code 83 = .ok (.imul, 1) := by decide +kernel
theorem d_Model_enter_84 : decode prog_10_method_23_code 84 = .ok (.iadd, 1) := by decide +kernel
theorem d_Model_enter_85 : decode prog_10_method_23_code 85 = .ok (.iastore, 1) := by decide +kernel
theorem d_Model_enter_86 : decode prog_10_method_23_code 86 = .ok (.aload_n 0, 1) := by decide +kernel
theorem d_Model_enter_87 : decode prog_10_method_23_code 87 = .ok (.getfield 53, 3) := by decide +kernel
theorem d_Model_enter_90 : decode prog_10_method_23_code 90 = .ok (.aload_n 0, 1) := by decide +kernel
theorem d_Model_enter_91 : decode prog_10_method_23_code 91 = .ok (.getfield 127, 3) := by decide +kernel
theorem d_Model_enter_94 : decode prog_10_method_23_code 94 = .ok (.iload_n 3, 1) := by decide +kernel
theorem d_Model_enter_95 : decode prog_10_method_23_code 95 = .ok (.iastore, 1) := by decide +kernel
theorem d_Model_enter_96 : decode prog_10_method_23_code 96 = .ok (.aload_n 0, 1) := by decide +kernel
theorem d_Model_enter_97 : decode prog_10_method_23_code 97 = .ok (.getfield 56, 3) := by decide +kernel
theorem d_Model_enter_100 : decode prog_10_method_23_code 100 = .ok (.aload_n 0, 1) := by decide +kernel
theorem d_Model_enter_101 : decode prog_10_method_23_code 101 = .ok (.getfield 127, 3) := by decide +kernel
theorem d_Model_enter_104 : decode prog_10_method_23_code 104 = .ok (.iload 4, 2) := by decide +kernel
theorem d_Model_enter_106 : decode prog_10_method_23_code 106 = .ok (.iastore, 1) := by decide +kernel
theorem d_Model_enter_107 : decode prog_10_method_23_code 107 = .ok (.aload_n 0, 1) := by decide +kernel
theorem d_Model_enter_108 : decode prog_10_method_23_code 108 = .ok (.getfield 59, 3) := by decide +kernel
theorem d_Model_enter_111 : decode prog_10_method_23_code 111 = .ok (.aload_n 0, 1) := by decide +kernel
theorem d_Model_enter_112 : decode prog_10_method_23_code 112 = .ok (.getfield 127, 3) := by decide +kernel
theorem d_Model_enter_115 : decode prog_10_method_23_code 115 = .ok (.aload_n 0, 1) := by decide +kernel
theorem d_Model_enter_116 : decode prog_10_method_23_code 116 = .ok (.getfield 38, 3) := by decide +kernel
theorem d_Model_enter_119 : decode prog_10_method_23_code 119 = .ok (.aload_n 0, 1) := by decide +kernel
theorem d_Model_enter_120 : decode prog_10_method_23_code 120 = .ok (.getfield 127, 3) := by decide +kernel
theorem d_Model_enter_123 : decode prog_10_method_23_code 123 = .ok (.iaload, 1) := by decide +kernel
theorem d_Model_enter_124 : decode prog_10_method_23_code 124 = .ok (.iastore, 1) := by decide +kernel
theorem d_Model_enter_125 : decode prog_10_method_23_code 125 = .ok (.aload_n 0, 1) := by decide +kernel
theorem d_Model_enter_126 : decode prog_10_method_23_code 126 = .ok (.dup, 1) := by decide +kernel
theorem d_Model_enter_127 : decode prog_10_method_23_code 127 = .ok (.getfield 127, 3) := by decide +kernel
theorem d_Model_enter_130 : decode prog_10_method_23_code 130 = .ok (.iconst 1, 1) := by decide +kernel
theorem d_Model_enter_131 : decode prog_10_method_23_code 131 = .ok (.iadd, 1) := by decide +kernel
theorem d_Model_enter_132 : decode prog_10_method_23_code 132 = .ok (.putfield 127, 3) := by decide +kernel
theorem d_Model_enter_135 : decode prog_10_method_23_code 135 = .ok (.iconst 0, 1) := by decide +kernel
theorem d_Model_enter_136 : decode prog_10_method_23_code 136 = .ok (.istore 5, 2) := by decide +kernel
theorem d_Model_enter_138 : decode prog_10_method_23_code 138 = .ok (.iload 5, 2) := by decide +kernel
theorem d_Model_enter_140 : decode prog_10_method_23_code 140 = .ok (.aload_n 0, 1) := by decide +kernel
theorem d_Model_enter_141 : decode prog_10_method_23_code 141 = .ok (.getfield 7, 3) := by decide +kernel
theorem d_Model_enter_144 : decode prog_10_method_23_code 144 = .ok (.iload_n 1, 1) := by decide +kernel
theorem d_Model_enter_145 : decode prog_10_method_23_code 145 = .ok (.iconst 1, 1) := by decide +kernel
theorem d_Model_enter_146 : decode prog_10_method_23_code 146 = .ok (.iadd, 1) := by decide +kernel
theorem d_Model_enter_147 : decode prog_10_method_23_code 147 = .ok (.iaload, 1) := by decide +kernel
theorem d_Model_enter_148 : decode prog_10_method_23_code 148 = .ok (.if_icmp .ge 15, 3) := by decide +kernel
theorem d_Model_enter_151 : decode prog_10_method_23_code 151 = .ok (.aload_n 0, 1) := by decide +kernel
theorem d_Model_enter_152 : decode prog_10_method_23_code 152 = .ok (.iconst 0, 1) := by decide +kernel
theorem d_Model_enter_153 : decode prog_10_method_23_code 153 = .ok (.iconst 0, 1) := by decide +kernel
theorem d_Model_enter_154 : decode prog_10_method_23_code 154 = .ok (.invokevirtual 133, 3) := by decide +kernel
theorem d_Model_enter_157 : decode prog_10_method_23_code 157 = .ok (.iinc 5 1, 3) := by decide +kernel
theorem d_Model_enter_160 : decode prog_10_method_23_code 160 = .ok (.goto (-22), 3) := by decide +kernel
theorem d_Model_enter_163 : decode prog_10_method_23_code 163 = .ok (.return_, 1) := by decide +kernel
theorem d_Model_findLine_0 : decode prog_10_method_13_code 0 = .ok (.iconst 0, 1) := by decide +kernel
theorem d_Model_findLine_1 : decode prog_10_method_13_code 1 = .ok (.istore_n 2, 1) := by decide +kernel
theorem d_Model_findLine_2 : decode prog_10_method_13_code 2 = .ok (.iload_n 2, 1) := by decide +kernel
theorem d_Model_findLine_3 : decode prog_10_method_13_code 3 = .ok (.bipush 32, 2) := by decide +kernel
theorem d_Model_findLine_5 : decode prog_10_method_13_code 5 = .ok (.if_icmp .ge 16, 3) := by decide +kernel
theorem d_Model_findLine_8 : decode prog_10_method_13_code 8 = .ok (.aload_n 0, 1) := by decide +kernel
theorem d_Model_findLine_9 : decode prog_10_method_13_code 9 = .ok (.getfield 23, 3) := by decide +kernel
theorem d_Model_findLine_12 : decode prog_10_method_13_code 12 = .ok (.iload_n 2, 1) := by decide +kernel
theorem d_Model_findLine_13 : decode prog_10_method_13_code 13 = .ok (.iconst 0, 1) := by decide +kernel
theorem d_Model_findLine_14 : decode prog_10_method_13_code 14 = .ok (.bastore, 1) := by decide +kernel
theorem d_Model_findLine_15 : decode prog_10_method_13_code 15 = .ok (.iinc 2 1, 3) := by decide +kernel
theorem d_Model_findLine_18 : decode prog_10_method_13_code 18 = .ok (.goto (-16), 3) := by decide +kernel
theorem d_Model_findLine_21 : decode prog_10_method_13_code 21 = .ok (.aload_n 0, 1) := by decide +kernel
theorem d_Model_findLine_22 : decode prog_10_method_13_code 22 = .ok (.iconst 0, 1) := by decide +kernel
theorem d_Model_findLine_23 : decode prog_10_method_13_code 23 = .ok (.putfield 86, 3) := by decide +kernel
theorem d_Model_findLine_26 : decode prog_10_method_13_code 26 = .ok (.iconst 1, 1) := by decide +kernel
theorem d_Model_findLine_27 : decode prog_10_method_13_code 27 = .ok (.istore_n 2, 1) := by decide +kernel
theorem d_Model_findLine_28 : decode prog_10_method_13_code 28 = .ok (.aload_n 0, 1) := by decide +kernel
theorem d_Model_findLine_29 : decode prog_10_method_13_code 29 = .ok (.getfield 26, 3) := by decide +kernel
theorem d_Model_findLine_32 : decode prog_10_method_13_code 32 = .ok (.iconst 0, 1) := by decide +kernel
theorem d_Model_findLine_33 : decode prog_10_method_13_code 33 = .ok (.iload_n 1, 1) := by decide +kernel
theorem d_Model_findLine_34 : decode prog_10_method_13_code 34 = .ok (.iastore, 1) := by decide +kernel
theorem d_Model_findLine_35 : decode prog_10_method_13_code 35 = .ok (.aload_n 0, 1) := by decide +kernel
theorem d_Model_findLine_36 : decode prog_10_method_13_code 36 = .ok (.getfield 29, 3) := by decide +kernel
theorem d_Model_findLine_39 : decode prog_10_method_13_code 39 = .ok (.iconst 0, 1) := by decide +kernel
theorem d_Model_findLine_40 : decode prog_10_method_13_code 40 = .ok (.aload_n 0, 1) := by decide +kernel
theorem d_Model_findLine_41 : decode prog_10_method_13_code 41 = .ok (.iload_n 1, 1) := by decide +kernel
theorem d_Model_findLine_42 : decode prog_10_method_13_code 42 = .ok (.invokevirtual 89, 3) := by decide +kernel
theorem d_Model_findLine_45 : decode prog_10_method_13_code 45 = .ok (.iconst 1, 1) := by decide +kernel
theorem d_Model_findLine_46 : decode prog_10_method_13_code 46 = .ok (.isub, 1) := by decide +kernel
theorem d_Model_findLine_47 : decode prog_10_method_13_code 47 = .ok (.iastore, 1) := by decide +kernel
theorem d_Model_findLine_48 : decode prog_10_method_13_code 48 = .ok (.iload_n 2, 1) := by decide +kernel
theorem d_Model_findLine_49 : decode prog_10_method_13_code 49 = .ok (.ifCond .le 119, 3) := by decide +kernel
theorem d_Model_findLine_52 : decode prog_10_method_13_code 52 = .ok (.aload_n 0, 1) := by decide +kernel
theorem d_Model_findLine_53 : decode prog_10_method_13_code 53 = .ok (.getfield 26, 3) := by decide +kernel
theorem d_Model_findLine_56 : decode prog_10_method_13_code 56 = .ok (.iload_n 2, 1) := by decide +kernel
theorem d_Model_findLine_57 : decode prog_10_method_13_code 57 = .ok (.iconst 1, 1) := by decide +kernel
theorem d_Model_findLine_58 : decode prog_10_method_13_code 58 = .ok (.isub, 1) := by decide +kernel
theorem d_Model_findLine_59 : decode prog_10_method_13_code 59 = .ok (.iaload, 1) := by decide +kernel
theorem d_Model_findLine_60 : decode prog_10_method_13_code 60 = .ok (.istore_n 3, 1) := by decide +kernel
theorem d_Model_findLine_61 : decode prog_10_method_13_code 61 = .ok (.aload_n 0, 1) := by decide +kernel
theorem d_Model_findLine_62 : decode prog_10_method_13_code 62 = .ok (.getfield 29, 3) := by decide +kernel
theorem d_Model_findLine_65 : decode prog_10_method_13_code 65 = .ok (.iload_n 2, 1) := by decide +kernel
theorem d_Model_findLine_66 : decode prog_10_method_13_code 66 = .ok (.iconst 1, 1) := by decide +kernel
theorem d_Model_findLine_67 : decode prog_10_method_13_code 67 = .ok (.isub, 1) := by decide +kernel
theorem d_Model_findLine_68 : decode prog_10_method_13_code 68 = .ok (.iaload, 1) := by decide +kernel
theorem d_Model_findLine_69 : decode prog_10_method_13_code 69 = .ok (.istore 4, 2) := by decide +kernel
theorem d_Model_findLine_71 : decode prog_10_method_13_code 71 = .ok (.iload 4, 2) := by decide +kernel
theorem d_Model_findLine_73 : decode prog_10_method_13_code 73 = .ok (.ifCond .ge 36, 3) := by decide +kernel
theorem d_Model_findLine_76 : decode prog_10_method_13_code 76 = .ok (.aload_n 0, 1) := by decide +kernel
theorem d_Model_findLine_77 : decode prog_10_method_13_code 77 = .ok (.getfield 23, 3) := by decide +kernel
theorem d_Model_findLine_80 : decode prog_10_method_13_code 80 = .ok (.iload_n 3, 1) := by decide +kernel
theorem d_Model_findLine_81 : decode prog_10_method_13_code 81 = .ok (.iconst 1, 1) := by decide +kernel
theorem d_Model_findLine_82 : decode prog_10_method_13_code 82 = .ok (.bastore, 1) := by decide +kernel
theorem d_Model_findLine_83 : decode prog_10_method_13_code 83 = .ok (.aload_n 0, 1) := by decide +kernel
theorem d_Model_findLine_84 : decode prog_10_method_13_code 84 = .ok (.getfield 20, 3) := by decide +kernel
theorem d_Model_findLine_87 : decode prog_10_method_13_code 87 = .ok (.aload_n 0, 1) := by decide +kernel
theorem d_Model_findLine_88 : decode prog_10_method_13_code 88 = .ok (.getfield 86, 3) := by decide +kernel
theorem d_Model_findLine_91 : decode prog_10_method_13_code 91 = .ok (.iload_n 3, 1) := by decide +kernel
theorem d_Model_findLine_92 : decode prog_10_method_13_code 92 = .ok (.iastore, 1) := by decide +kernel
theorem d_Model_findLine_93 : decode prog_10_method_13_code 93 = .ok (.aload_n 0, 1) := by decide +kernel
theorem d_Model_findLine_94 : decode prog_10_method_13_code 94 = .ok (.dup, 1) := by decide +kernel
theorem d_Model_findLine_95 : decode prog_10_method_13_code 95 = .ok (.getfield 86, 3) := by decide +kernel
theorem d_Model_findLine_98 : decode prog_10_method_13_code 98 = .ok (.iconst 1, 1) := by decide +kernel
theorem d_Model_findLine_99 : decode prog_10_method_13_code 99 = .ok (.iadd, 1) := by decide +kernel
theorem d_Model_findLine_100 : decode prog_10_method_13_code 100 = .ok (.putfield 86, 3) := by decide +kernel
theorem d_Model_findLine_103 : decode prog_10_method_13_code 103 = .ok (.iinc 2 (-1), 3) := by decide +kernel
theorem d_Model_findLine_106 : decode prog_10_method_13_code 106 = .ok (.goto 59, 3) := by decide +kernel
theorem d_Model_findLine_109 : decode prog_10_method_13_code 109 = .ok (.aload_n 0, 1) := by decide +kernel
theorem d_Model_findLine_110 : decode prog_10_method_13_code 110 = .ok (.getfield 29, 3) := by decide +kernel
theorem d_Model_findLine_113 : decode prog_10_method_13_code 113 = .ok (.iload_n 2, 1) := by decide +kernel
theorem d_Model_findLine_114 : decode prog_10_method_13_code 114 = .ok (.iconst 1, 1) := by decide +kernel
theorem d_Model_findLine_115 : decode prog_10_method_13_code 115 = .ok (.isub, 1) := by decide +kernel
theorem d_Model_findLine_116 : decode prog_10_method_13_code 116 = .ok (.iload 4, 2) := by decide +kernel
theorem d_Model_findLine_118 : decode prog_10_method_13_code 118 = .ok (.iconst 1, 1) := by decide +kernel
theorem d_Model_findLine_119 : decode prog_10_method_13_code 119 = .ok (.isub, 1) := by decide +kernel
theorem d_Model_findLine_120 : decode prog_10_method_13_code 120 = .ok (.iastore, 1) := by decide +kernel
theorem d_Model_findLine_121 : decode prog_10_method_13_code 121 = .ok (.aload_n 0, 1) := by decide +kernel
theorem d_Model_findLine_122 : decode prog_10_method_13_code 122 = .ok (.iload_n 3, 1) := by decide +kernel
theorem d_Model_findLine_123 : decode prog_10_method_13_code 123 = .ok (.iload 4, 2) := by decide +kernel
theorem d_Model_findLine_125 : decode prog_10_method_13_code 125 = .ok (.invokevirtual 93, 3) := by decide +kernel
theorem d_Model_findLine_128 : decode prog_10_method_13_code 128 = .ok (.istore 5, 2) := by decide +kernel
theorem d_Model_findLine_130 : decode prog_10_method_13_code 130 = .ok (.aload_n 0, 1) := by decide +kernel
theorem d_Model_findLine_131 : decode prog_10_method_13_code 131 = .ok (.getfield 23, 3) := by decide +kernel
theorem d_Model_findLine_134 : decode prog_10_method_13_code 134 = .ok (.iload 5, 2) := by decide +kernel
theorem d_Model_findLine_136 : decode prog_10_method_13_code 136 = .ok (.baload, 1) := by decide +kernel
theorem d_Model_findLine_137 : decode prog_10_method_13_code 137 = .ok (.ifCond .ne 28, 3) := by decide +kernel
theorem d_Model_findLine_140 : decode prog_10_method_13_code 140 = .ok (.aload_n 0, 1) := by decide +kernel
theorem d_Model_findLine_141 : decode prog_10_method_13_code 141 = .ok (.getfield 26, 3) := by decide +kernel
theorem d_Model_findLine_144 : decode prog_10_method_13_code 144 = .ok (.iload_n 2, 1) := by decide +kernel
theorem d_Model_findLine_145 : decode prog_10_method_13_code 145 = .ok (.iload 5, 2) := by decide +kernel
theorem d_Model_findLine_147 : decode prog_10_method_13_code 147 = .ok (.iastore, 1) := by decide +kernel
theorem d_Model_findLine_148 : decode prog_10_method_13_code 148 = .ok (.aload_n 0, 1) := by decide +kernel
theorem d_Model_findLine_149 : decode prog_10_method_13_code 149 = .ok (.getfield 29, 3) := by decide +kernel
theorem d_Model_findLine_152 : decode prog_10_method_13_code 152 = .ok (.iload_n 2, 1) := by decide +kernel
theorem d_Model_findLine_153 : decode prog_10_method_13_code 153 = .ok (.aload_n 0, 1) := by decide +kernel
theorem d_Model_findLine_154 : decode prog_10_method_13_code 154 = .ok (.iload 5, 2) := by decide +kernel
theorem d_Model_findLine_156 : decode prog_10_method_13_code 156 = .ok (.invokevirtual 89, 3) := by decide +kernel
theorem d_Model_findLine_159 : decode prog_10_method_13_code 159 = .ok (.iconst 1, 1) := by decide +kernel
theorem d_Model_findLine_160 : decode prog_10_method_13_code 160 = .ok (.isub, 1) := by decide +kernel
theorem d_Model_findLine_161 : decode prog_10_method_13_code 161 = .ok (.iastore, 1) := by decide +kernel
theorem d_Model_findLine_162 : decode prog_10_method_13_code 162 = .ok (.iinc 2 1, 3) := by decide +kernel
theorem d_Model_findLine_165 : decode prog_10_method_13_code 165 = .ok (.goto (-117), 3) := by decide +kernel
theorem d_Model_findLine_168 : decode prog_10_method_13_code 168 = .ok (.return_, 1) := by decide +kernel
theorem d_Model_going_0 : decode prog_10_method_38_code 0 = .ok (.aload_n 0, 1) := by decide +kernel
theorem d_Model_going_1 : decode prog_10_method_38_code 1 = .ok (.getfield 130, 3) := by decide +kernel
theorem d_Model_going_4 : decode prog_10_method_38_code 4 = .ok (.iconst 1, 1) := by decide +kernel
theorem d_Model_going_5 : decode prog_10_method_38_code 5 = .ok (.isub, 1) := by decide +kernel
theorem d_Model_going_6 : decode prog_10_method_38_code 6 = .ok (.istore 4, 2) := by decide +kernel
theorem d_Model_going_8 : decode prog_10_method_38_code 8 = .ok (.iload_n 2, 1) := by decide +kernel
theorem d_Model_going_9 : decode prog_10_method_38_code 9 = .ok (.tableswitch 416 19 26 #[47, 63, 112, 206, 212, 326, 375, 409], 47) := by decide +kernel
theorem d_Model_going_56 : decode prog_10_method_38_code 56 = .ok (.aload_n 0, 1) := by decide +kernel
theorem d_Model_going_57 : decode prog_10_method_38_code 57 = .ok (.getfield 62, 3) := by decide +kernel
theorem d_Model_going_60 : decode prog_10_method_38_code 60 = .ok (.iload_n 1, 1) := by decide +kernel
theorem d_Model_going_61 : decode prog_10_method_38_code 61 = .ok (.dup2, 1) := by decide +kernel
theorem d_Model_going_62 : decode prog_10_method_38_code 62 = .ok (.iaload, 1) := by decide +kernel
theorem d_Model_going_63 : decode prog_10_method_38_code 63 = .ok (.aload_n 0, 1) := by decide +kernel
theorem d_Model_going_64 : decode prog_10_method_38_code 64 = .ok (.iload_n 3, 1) := by decide +kernel
theorem d_Model_going_65 : decode prog_10_method_38_code 65 = .ok (.invokevirtual 185, 3) := by decide +kernel
theorem d_Model_going_68 : decode prog_10_method_38_code 68 = .ok (.iadd, 1) := by decide +kernel
theorem d_Model_going_69 : decode prog_10_method_38_code 69 = .ok (.iastore, 1) := by decide +kernel
theorem d_Model_going_70 : decode prog_10_method_38_code 70 = .ok (.iconst 1, 1) := by decide +kernel
theorem d_Model_going_71 : decode prog_10_method_38_code 71 = .ok (.ireturn, 1) := by decide +kernel
theorem d_Model_going_72 : decode prog_10_method_38_code 72 = .ok (.aload_n 0, 1) := by decide +kernel
theorem d_Model_going_73 : decode prog_10_method_38_code 73 = .ok (.invokevirtual 181, 3) := by decide +kernel
theorem d_Model_going_76 : decode prog_10_method_38_code 76 = .ok (.iconst 1, 1) := by decide +kernel
theorem d_Model_going_77 : decode prog_10_method_38_code 77 = .ok (.if_icmp .ge 5, 3) := by decide +kernel
theorem d_Model_going_80 : decode prog_10_method_38_code 80 = .ok (.iconst 0, 1) := by decide +kernel
theorem d_Model_going_81 : decode prog_10_method_38_code 81 = .ok (.ireturn, 1) := by decide +kernel
theorem d_Model_going_82 : decode prog_10_method_38_code 82 = .ok (.aload_n 0, 1) := by decide +kernel
theorem d_Model_going_83 : decode prog_10_method_38_code 83 = .ok (.getfield 62, 3) := by decide +kernel
theorem d_Model_going_86 : decode prog_10_method_38_code 86 = .ok (.iload_n 1, 1) := by decide +kernel
theorem d_Model_going_87 : decode prog_10_method_38_code 87 = .ok (.dup2, 1) := by decide +kernel
theorem d_Model_going_88 : decode prog_10_method_38_code 88 = .ok (.iaload, 1) := by decide +kernel
theorem d_Model_going_89 : decode prog_10_method_38_code 89 = .ok (.aload_n 0, 1) := by decide +kernel
theorem d_Model_going_90 : decode prog_10_method_38_code 90 = .ok (.iload 4, 2) := by decide +kernel
theorem d_Model_going_92 : decode prog_10_method_38_code 92 = .ok (.invokevirtual 191, 3) := by decide +kernel
theorem d_Model_going_95 : decode prog_10_method_38_code 95 = .ok (.ifCond .eq 11, 3) := by decide +kernel
theorem d_Model_going_98 : decode prog_10_method_38_code 98 = .ok (.aload_n 0, 1) := by decide +kernel
theorem d_Model_going_99 : decode prog_10_method_38_code 99 = .ok (.iload_n 3, 1) := by decide +kernel
theorem d_Model_going_100 : decode prog_10_method_38_code 100 = .ok (.invokevirtual 185, 3) := by decide +kernel
theorem d_Model_going_103 : decode prog_10_method_38_code 103 = .ok (.goto 4, 3) := by decide +kernel
theorem d_Model_going_106 : decode prog_10_method_38_code 106 = .ok (.iconst 0, 1) := by decide +kernel
theorem d_Model_going_107 : decode prog_10_method_38_code 107 = .ok (.iadd, 1) := by decide +kernel
theorem d_Model_going_108 : decode prog_10_method_38_code 108 = .ok (.iastore, 1) := by decide +kernel
theorem d_Model_going_109 : decode prog_10_method_38_code 109 = .ok (.aload_n 0, 1) := by decide +kernel
theorem d_Model_going_110 : decode prog_10_method_38_code 110 = .ok (.dup, 1) := by decide +kernel
theorem d_Model_going_111 : decode prog_10_method_38_code 111 = .ok (.getfield 130, 3) := by decide +kernel
theorem d_Model_going_114 : decode prog_10_method_38_code 114 = .ok (.iconst 1, 1) := by decide +kernel
theorem d_Model_going_115 : decode prog_10_method_38_code 115 = .ok (.isub, 1) := by decide +kernel
theorem d_Model_going_116 : decode prog_10_method_38_code 116 = .ok (.putfield 130, 3) := by decide +kernel
theorem d_Model_going_119 : decode prog_10_method_38_code 119 = .ok (.iconst 1, 1) := by decide +kernel
theorem d_Model_going_120 : decode prog_10_method_38_code 120 = .ok (.ireturn, 1) := by decide +kernel
theorem d_Model_going_121 : decode prog_10_method_38_code 121 = .ok (.aload_n 0, 1) := by decide +kernel
theorem d_Model_going_122 : decode prog_10_method_38_code 122 = .ok (.iload_n 3, 1) := by decide +kernel
theorem d_Model_going_123 : decode prog_10_method_38_code 123 = .ok (.invokevirtual 124, 3) := by decide +kernel
theorem d_Model_going_126 : decode prog_10_method_38_code 126 = .ok (.iconst 4, 1) := by decide +kernel
theorem d_Model_going_127 : decode prog_10_method_38_code 127 = .ok (.if_icmp .ge 86, 3) := by decide +kernel
theorem d_Model_going_130 : decode prog_10_method_38_code 130 = .ok (.aload_n 0, 1) := by decide +kernel
theorem d_Model_going_131 : decode prog_10_method_38_code 131 = .ok (.iload_n 3, 1) := by decide +kernel
theorem d_Model_going_132 : decode prog_10_method_38_code 132 = .ok (.iconst 1, 1) := by decide +kernel
theorem d_Model_going_133 : decode prog_10_method_38_code 133 = .ok (.iadd, 1) := by decide +kernel
theorem d_Model_going_134 : decode prog_10_method_38_code 134 = .ok (.invokevirtual 124, 3) := by decide +kernel
theorem d_Model_going_137 : decode prog_10_method_38_code 137 = .ok (.bipush 8, 2) := by decide +kernel
theorem d_Model_going_139 : decode prog_10_method_38_code 139 = .ok (.if_icmp .ge 74, 3) := by decide +kernel
theorem d_Model_going_142 : decode prog_10_method_38_code 142 = .ok (.aload_n 0, 1) := by decide +kernel
theorem d_Model_going_143 : decode prog_10_method_38_code 143 = .ok (.invokevirtual 181, 3) := by decide +kernel
theorem d_Model_going_146 : decode prog_10_method_38_code 146 = .ok (.aload_n 0, 1) := by decide +kernel
theorem d_Model_going_147 : decode prog_10_method_38_code 147 = .ok (.iload_n 3, 1) := by decide +kernel
theorem d_Model_going_148 : decode prog_10_method_38_code 148 = .ok (.invokevirtual 124, 3) := by decide +kernel
theorem d_Model_going_151 : decode prog_10_method_38_code 151 = .ok (.if_icmp .le 62, 3) := by decide +kernel
theorem d_Model_going_154 : decode prog_10_method_38_code 154 = .ok (.aload_n 0, 1) := by decide +kernel
theorem d_Model_going_155 : decode prog_10_method_38_code 155 = .ok (.iload 4, 2) := by decide +kernel
theorem d_Model_going_157 : decode prog_10_method_38_code 157 = .ok (.invokevirtual 201, 3) := by decide +kernel
theorem d_Model_going_160 : decode prog_10_method_38_code 160 = .ok (.ifCond .eq 53, 3) := by decide +kernel
theorem d_Model_going_163 : decode prog_10_method_38_code 163 = .ok (.aload_n 0, 1) := by decide +kernel
theorem d_Model_going_164 : decode prog_10_method_38_code 164 = .ok (.aload_n 0, 1) := by decide +kernel
theorem d_Model_going_165 : decode prog_10_method_38_code 165 = .ok (.getfield 35, 3) := by decide +kernel
theorem d_Model_going_168 : decode prog_10_method_38_code 168 = .ok (.iload 4, 2) := by decide +kernel
theorem d_Model_going_170 : decode prog_10_method_38_code 170 = .ok (.iaload, 1) := by decide +kernel
theorem d_Model_going_171 : decode prog_10_method_38_code 171 = .ok (.aload_n 0, 1) := by decide +kernel
theorem d_Model_going_172 : decode prog_10_method_38_code 172 = .ok (.aload_n 0, 1) := by decide +kernel
theorem d_Model_going_173 : decode prog_10_method_38_code 173 = .ok (.getfield 35, 3) := by decide +kernel
theorem d_Model_going_176 : decode prog_10_method_38_code 176 = .ok (.iload 4, 2) := by decide +kernel
theorem d_Model_going_178 : decode prog_10_method_38_code 178 = .ok (.iaload, 1) := by decide +kernel
theorem d_Model_going_179 : decode prog_10_method_38_code 179 = .ok (.aload_n 0, 1) := by decide +kernel
theorem d_Model_going_180 : decode prog_10_method_38_code 180 = .ok (.iload_n 3, 1) := by decide +kernel
theorem d_Model_going_181 : decode prog_10_method_38_code 181 = .ok (.iconst 1, 1) := by decide +kernel
theorem d_Model_going_182 : decode prog_10_method_38_code 182 = .ok (.iadd, 1) := by decide +kernel
theorem d_Model_going_183 : decode prog_10_method_38_code 183 = .ok (.invokevirtual 124, 3) := by decide +kernel
theorem d_Model_going_186 : decode prog_10_method_38_code 186 = .ok (.iconst (-1), 1) := by decide +kernel
theorem d_Model_going_187 : decode prog_10_method_38_code 187 = .ok (.invokevirtual 137, 3) := by decide +kernel
theorem d_Model_going_190 : decode prog_10_method_38_code 190 = .ok (.aload_n 0, 1) := by decide +kernel
theorem d_Model_going_191 : decode prog_10_method_38_code 191 = .ok (.iload_n 3, 1) := by decide +kernel
theorem d_Model_going_192 : decode prog_10_method_38_code 192 = .ok (.iconst 1, 1) := by decide +kernel
theorem d_Model_going_193 : decode prog_10_method_38_code 193 = .ok (.iadd, 1) := by decide +kernel
theorem d_Model_going_194 : decode prog_10_method_38_code 194 = .ok (.invokevirtual 124, 3) := by decide +kernel
theorem d_Model_going_197 : decode prog_10_method_38_code 197 = .ok (.aload_n 0, 1) := by decide +kernel
theorem d_Model_going_198 : decode prog_10_method_38_code 198 = .ok (.iload_n 3, 1) := by decide +kernel
theorem d_Model_going_199 : decode prog_10_method_38_code 199 = .ok (.invokevirtual 124, 3) := by decide +kernel
theorem d_Model_going_202 : decode prog_10_method_38_code 202 = .ok (.iconst 1, 1) := by decide +kernel
theorem d_Model_going_203 : decode prog_10_method_38_code 203 = .ok (.invokevirtual 204, 3) := by decide +kernel
theorem d_Model_going_206 : decode prog_10_method_38_code 206 = .ok (.ifCond .eq 7, 3) := by decide +kernel
theorem d_Model_going_209 : decode prog_10_method_38_code 209 = .ok (.iconst 1, 1) := by decide +kernel
theorem d_Model_going_210 : decode prog_10_method_38_code 210 = .ok (.goto 4, 3) := by decide +kernel
theorem d_Model_going_213 : decode prog_10_method_38_code 213 = .ok (.iconst 0, 1) := by decide +kernel
theorem d_Model_going_214 : decode prog_10_method_38_code 214 = .ok (.ireturn, 1) := by decide +kernel
theorem d_Model_going_215 : decode prog_10_method_38_code 215 = .ok (.aload_n 0, 1) := by decide +kernel
theorem d_Model_going_216 : decode prog_10_method_38_code 216 = .ok (.iload_n 3, 1) := by decide +kernel
theorem d_Model_going_217 : decode prog_10_method_38_code 217 = .ok (.invokevirtual 208, 3) := by decide +kernel
theorem d_Model_going_220 : decode prog_10_method_38_code 220 = .ok (.ireturn, 1) := by decide +kernel
theorem d_Model_going_221 : decode prog_10_method_38_code 221 = .ok (.aload_n 0, 1) := by decide +kernel
theorem d_Model_going_222 : decode prog_10_method_38_code 222 = .ok (.iload_n 3, 1) := by decide +kernel
theorem d_Model_going_223 : decode prog_10_method_38_code 223 = .ok (.invokevirtual 124, 3) := by decide +kernel
theorem d_Model_going_226 : decode prog_10_method_38_code 226 = .ok (.iconst 4, 1) := by decide +kernel
theorem d_Model_going_227 : decode prog_10_method_38_code 227 = .ok (.if_icmp .ge 106, 3) := by decide +kernel
theorem d_Model_going_230 : decode prog_10_method_38_code 230 = .ok (.aload_n 0, 1) := by decide +kernel
theorem d_Model_going_231 : decode prog_10_method_38_code 231 = .ok (.iload_n 3, 1) := by decide +kernel
theorem d_Model_going_232 : decode prog_10_method_38_code 232 = .ok (.iconst 1, 1) := by decide +kernel
theorem d_Model_going_233 : decode prog_10_method_38_code 233 = .ok (.iadd, 1) := by decide +kernel
theorem d_Model_going_234 : decode prog_10_method_38_code 234 = .ok (.invokevirtual 124, 3) := by decide +kernel
theorem d_Model_going_237 : decode prog_10_method_38_code 237 = .ok (.bipush 8, 2) := by decide +kernel
theorem d_Model_going_239 : decode prog_10_method_38_code 239 = .ok (.if_icmp .ge 94, 3) := by decide +kernel
theorem d_Model_going_242 : decode prog_10_method_38_code 242 = .ok (.aload_n 0, 1) := by decide +kernel
theorem d_Model_going_243 : decode prog_10_method_38_code 243 = .ok (.invokevirtual 181, 3) := by decide +kernel
theorem d_Model_going_246 : decode prog_10_method_38_code 246 = .ok (.aload_n 0, 1) := by decide +kernel
theorem d_Model_going_247 : decode prog_10_method_38_code 247 = .ok (.iload_n 3, 1) := by decide +kernel
theorem d_Model_going_248 : decode prog_10_method_38_code 248 = .ok (.invokevirtual 124, 3) := by decide +kernel
theorem d_Model_going_251 : decode prog_10_method_38_code 251 = .ok (.if_icmp .lt 82, 3) := by decide +kernel
theorem d_Model_going_254 : decode prog_10_method_38_code 254 = .ok (.aload_n 0, 1) := by decide +kernel
theorem d_Model_going_255 : decode prog_10_method_38_code 255 = .ok (.aload_n 0, 1) := by decide +kernel
theorem d_Model_going_256 : decode prog_10_method_38_code 256 = .ok (.getfield 53, 3) := by decide +kernel
theorem d_Model_going_259 : decode prog_10_method_38_code 259 = .ok (.iload_n 1, 1) := by decide +kernel
theorem d_Model_going_260 : decode prog_10_method_38_code 260 = .ok (.iaload, 1) := by decide +kernel
theorem d_Model_going_261 : decode prog_10_method_38_code 261 = .ok (.invokevirtual 107, 3) := by decide +kernel
theorem d_Model_going_264 : decode prog_10_method_38_code 264 = .ok (.ifCond .eq 69, 3) := by decide +kernel
theorem d_Model_going_267 : decode prog_10_method_38_code 267 = .ok (.aload_n 0, 1) := by decide +kernel
theorem d_Model_going_268 : decode prog_10_method_38_code 268 = .ok (.aload_n 0, 1) := by decide +kernel
theorem d_Model_going_269 : decode prog_10_method_38_code 269 = .ok (.getfield 56, 3) := by decide +kernel
theorem d_Model_going_272 : decode prog_10_method_38_code 272 = .ok (.iload_n 1, 1) := by decide +kernel
theorem d_Model_going_273 : decode prog_10_method_38_code 273 = .ok (.iaload, 1) := by decide +kernel
theorem d_Model_going_274 : decode prog_10_method_38_code 274 = .ok (.invokevirtual 107, 3) := by decide +kernel
theorem d_Model_going_277 : decode prog_10_method_38_code 277 = .ok (.ifCond .eq 56, 3) := by decide +kernel
theorem d_Model_going_280 : decode prog_10_method_38_code 280 = .ok (.aload_n 0, 1) := by decide +kernel
theorem d_Model_going_281 : decode prog_10_method_38_code 281 = .ok (.aload_n 0, 1) := by decide +kernel
theorem d_Model_going_282 : decode prog_10_method_38_code 282 = .ok (.getfield 53, 3) := by decide +kernel
theorem d_Model_going_285 : decode prog_10_method_38_code 285 = .ok (.iload_n 1, 1) := by decide +kernel
theorem d_Model_going_286 : decode prog_10_method_38_code 286 = .ok (.iaload, 1) := by decide +kernel
theorem d_Model_going_287 : decode prog_10_method_38_code 287 = .ok (.aload_n 0, 1) := by decide +kernel
theorem d_Model_going_288 : decode prog_10_method_38_code 288 = .ok (.aload_n 0, 1) := by decide +kernel
theorem d_Model_going_289 : decode prog_10_method_38_code 289 = .ok (.getfield 53, 3) := by decide +kernel
theorem d_Model_going_292 : decode prog_10_method_38_code 292 = .ok (.iload_n 1, 1) := by decide +kernel
theorem d_Model_going_293 : decode prog_10_method_38_code 293 = .ok (.iaload, 1) := by decide +kernel
theorem d_Model_going_294 : decode prog_10_method_38_code 294 = .ok (.aload_n 0, 1) := by decide +kernel
theorem d_Model_going_295 : decode prog_10_method_38_code 295 = .ok (.iload_n 3, 1) := by decide +kernel
theorem d_Model_going_296 : decode prog_10_method_38_code 296 = .ok (.iconst 1, 1) := by decide +kernel
theorem d_Model_going_297 : decode prog_10_method_38_code 297 = .ok (.iadd, 1) := by decide +kernel
theorem d_Model_going_298 : decode prog_10_method_38_code 298 = .ok (.invokevirtual 124, 3) := by decide +kernel
theorem d_Model_going_301 : decode prog_10_method_38_code 301 = .ok (.aload_n 0, 1) := by decide +kernel
theorem d_Model_going_302 : decode prog_10_method_38_code 302 = .ok (.getfield 56, 3) := by decide +kernel
theorem d_Model_going_305 : decode prog_10_method_38_code 305 = .ok (.iload_n 1, 1) := by decide +kernel
theorem d_Model_going_306 : decode prog_10_method_38_code 306 = .ok (.iaload, 1) := by decide +kernel
theorem d_Model_going_307 : decode prog_10_method_38_code 307 = .ok (.invokevirtual 137, 3) := by decide +kernel
theorem d_Model_going_310 : decode prog_10_method_38_code 310 = .ok (.aload_n 0, 1) := by decide +kernel
theorem d_Model_going_311 : decode prog_10_method_38_code 311 = .ok (.iload_n 3, 1) := by decide +kernel
theorem d_Model_going_312 : decode prog_10_method_38_code 312 = .ok (.iconst 1, 1) := by decide +kernel
theorem d_Model_going_313 : decode prog_10_method_38_code 313 = .ok (.iadd, 1) := by decide +kernel
theorem d_Model_going_314 : decode prog_10_method_38_code 314 = .ok (.invokevirtual 124, 3) := by decide +kernel
theorem d_Model_going_317 : decode prog_10_method_38_code 317 = .ok (.aload_n 0, 1) := by decide +kernel
theorem d_Model_going_318 : decode prog_10_method_38_code 318 = .ok (.iload_n 3, 1) := by decide +kernel
theorem d_Model_going_319 : decode prog_10_method_38_code 319 = .ok (.invokevirtual 124, 3) := by decide +kernel
theorem d_Model_going_322 : decode prog_10_method_38_code 322 = .ok (.iconst 0, 1) := by decide +kernel
theorem d_Model_going_323 : decode prog_10_method_38_code 323 = .ok (.invokevirtual 204, 3) := by decide +kernel
theorem d_Model_going_326 : decode prog_10_method_38_code 326 = .ok (.ifCond .eq 7, 3) := by decide +kernel
theorem d_Model_going_329 : decode prog_10_method_38_code 329 = .ok (.iconst 1, 1) := by decide +kernel
theorem d_Model_going_330 : decode prog_10_method_38_code 330 = .ok (.goto 4, 3) := by decide +kernel
theorem d_Model_going_333 : decode prog_10_method_38_code 333 = .ok (.iconst 0, 1) := by decide +kernel
theorem d_Model_going_334 : decode prog_10_method_38_code 334 = .ok (.ireturn, 1) := by decide +kernel
theorem d_Model_going_335 : decode prog_10_method_38_code 335 = .ok (.aload_n 0, 1) := by decide +kernel
theorem d_Model_going_336 : decode prog_10_method_38_code 336 = .ok (.iload_n 3, 1) := by decide +kernel
theorem d_Model_going_337 : decode prog_10_method_38_code 337 = .ok (.invokevirtual 124, 3) := by decide +kernel
theorem d_Model_going_340 : decode prog_10_method_38_code 340 = .ok (.iconst 4, 1) := by decide +kernel
theorem d_Model_going_341 : decode prog_10_method_38_code 341 = .ok (.if_icmp .ge 41, 3) := by decide +kernel
theorem d_Model_going_344 : decode prog_10_method_38_code 344 = .ok (.aload_n 0, 1) := by decide +kernel
theorem d_Model_going_345 : decode prog_10_method_38_code 345 = .ok (.invokevirtual 181, 3) := by decide +kernel
theorem d_Model_going_348 : decode prog_10_method_38_code 348 = .ok (.aload_n 0, 1) := by decide +kernel
theorem d_Model_going_349 : decode prog_10_method_38_code 349 = .ok (.iload_n 3, 1) := by decide +kernel
theorem d_Model_going_350 : decode prog_10_method_38_code 350 = .ok (.invokevirtual 124, 3) := by decide +kernel
theorem d_Model_going_353 : decode prog_10_method_38_code 353 = .ok (.if_icmp .lt 29, 3) := by decide +kernel
theorem d_Model_going_356 : decode prog_10_method_38_code 356 = .ok (.aload_n 0, 1) := by decide +kernel
theorem d_Model_going_357 : decode prog_10_method_38_code 357 = .ok (.aload_n 0, 1) := by decide +kernel
theorem d_Model_going_358 : decode prog_10_method_38_code 358 = .ok (.iload_n 3, 1) := by decide +kernel
theorem d_Model_going_359 : decode prog_10_method_38_code 359 = .ok (.iconst 1, 1) := by decide +kernel
theorem d_Model_going_360 : decode prog_10_method_38_code 360 = .ok (.iadd, 1) := by decide +kernel
theorem d_Model_going_361 : decode prog_10_method_38_code 361 = .ok (.invokevirtual 188, 3) := by decide +kernel
theorem d_Model_going_364 : decode prog_10_method_38_code 364 = .ok (.aload_n 0, 1) := by decide +kernel
theorem d_Model_going_365 : decode prog_10_method_38_code 365 = .ok (.iload_n 3, 1) := by decide +kernel
theorem d_Model_going_366 : decode prog_10_method_38_code 366 = .ok (.invokevirtual 124, 3) := by decide +kernel
theorem d_Model_going_369 : decode prog_10_method_38_code 369 = .ok (.iconst 0, 1) := by decide +kernel
theorem d_Model_going_370 : decode prog_10_method_38_code 370 = .ok (.iconst (-1), 1) := by decide +kernel
theorem d_Model_going_371 : decode prog_10_method_38_code 371 = .ok (.iconst (-1), 1) := by decide +kernel
theorem d_Model_going_372 : decode prog_10_method_38_code 372 = .ok (.invokevirtual 211, 3) := by decide +kernel
theorem d_Model_going_375 : decode prog_10_method_38_code 375 = .ok (.ifCond .eq 7, 3) := by decide +kernel
theorem d_Model_going_378 : decode prog_10_method_38_code 378 = .ok (.iconst 1, 1) := by decide +kernel
theorem d_Model_going_379 : decode prog_10_method_38_code 379 = .ok (.goto 4, 3) := by decide +kernel
theorem d_Model_going_382 : decode prog_10_method_38_code 382 = .ok (.iconst 0, 1) := by decide +kernel
theorem d_Model_going_383 : decode prog_10_method_38_code 383 = .ok (.ireturn, 1) := by decide +kernel
theorem d_Model_going_384 : decode prog_10_method_38_code 384 = .ok (.aload_n 0, 1) := by decide +kernel
theorem d_Model_going_385 : decode prog_10_method_38_code 385 = .ok (.invokevirtual 181, 3) := by decide +kernel
theorem d_Model_going_388 : decode prog_10_method_38_code 388 = .ok (.ifCond .le 28, 3) := by decide +kernel
theorem d_Model_going_391 : decode prog_10_method_38_code 391 = .ok (.aload_n 0, 1) := by decide +kernel
theorem d_Model_going_392 : decode prog_10_method_38_code 392 = .ok (.aload_n 0, 1) := by decide +kernel
theorem d_Model_going_393 : decode prog_10_method_38_code 393 = .ok (.getfield 32, 3) := by decide +kernel
theorem d_Model_going_396 : decode prog_10_method_38_code 396 = .ok (.iload 4, 2) := by decide +kernel
theorem d_Model_going_398 : decode prog_10_method_38_code 398 = .ok (.iaload, 1) := by decide +kernel
theorem d_Model_going_399 : decode prog_10_method_38_code 399 = .ok (.aload_n 0, 1) := by decide +kernel
theorem d_Model_going_400 : decode prog_10_method_38_code 400 = .ok (.getfield 35, 3) := by decide +kernel
theorem d_Model_going_403 : decode prog_10_method_38_code 403 = .ok (.iload 4, 2) := by decide +kernel
theorem d_Model_going_405 : decode prog_10_method_38_code 405 = .ok (.iaload, 1) := by decide +kernel
theorem d_Model_going_406 : decode prog_10_method_38_code 406 = .ok (.invokevirtual 214, 3) := by decide +kernel
theorem d_Model_going_409 : decode prog_10_method_38_code 409 = .ok (.ifCond .eq 7, 3) := by decide +kernel
theorem d_Model_going_412 : decode prog_10_method_38_code 412 = .ok (.iconst 1, 1) := by decide +kernel
theorem d_Model_going_413 : decode prog_10_method_38_code 413 = .ok (.goto 4, 3) := by decide +kernel
theorem d_Model_going_416 : decode prog_10_method_38_code 416 = .ok (.iconst 0, 1) := by decide +kernel
theorem d_Model_going_417 : decode prog_10_method_38_code 417 = .ok (.ireturn, 1) := by decide +kernel
theorem d_Model_going_418 : decode prog_10_method_38_code 418 = .ok (.aload_n 0, 1) := by decide +kernel
theorem d_Model_going_419 : decode prog_10_method_38_code 419 = .ok (.iconst 0, 1) := by decide +kernel
theorem d_Model_going_420 : decode prog_10_method_38_code 420 = .ok (.iconst 0, 1) := by decide +kernel
theorem d_Model_going_421 : decode prog_10_method_38_code 421 = .ok (.invokevirtual 214, 3) := by decide +kernel
theorem d_Model_going_424 : decode prog_10_method_38_code 424 = .ok (.ireturn, 1) := by decide +kernel
theorem d_Model_going_425 : decode prog_10_method_38_code 425 = .ok (.aload_n 0, 1) := by decide +kernel
theorem d_Model_going_426 : decode prog_10_method_38_code 426 = .ok (.invokevirtual 181, 3) := by decide +kernel
theorem d_Model_going_429 : decode prog_10_method_38_code 429 = .ok (.ifCond .le 30, 3) := by decide +kernel
theorem d_Model_going_432 : decode prog_10_method_38_code 432 = .ok (.aload_n 0, 1) := by decide +kernel
theorem d_Model_going_433 : decode prog_10_method_38_code 433 = .ok (.iload 4, 2) := by decide +kernel
theorem d_Model_going_435 : decode prog_10_method_38_code 435 = .ok (.invokevirtual 201, 3) := by decide +kernel
theorem d_Model_going_438 : decode prog_10_method_38_code 438 = .ok (.ifCond .eq 21, 3) := by decide +kernel
theorem d_Model_going_441 : decode prog_10_method_38_code 441 = .ok (.aload_n 0, 1) := by decide +kernel
theorem d_Model_going_442 : decode prog_10_method_38_code 442 = .ok (.aload_n 0, 1) := by decide +kernel
theorem d_Model_going_443 : decode prog_10_method_38_code 443 = .ok (.getfield 35, 3) := by decide +kernel
theorem d_Model_going_446 : decode prog_10_method_38_code 446 = .ok (.iload 4, 2) := by decide +kernel
theorem d_Model_going_448 : decode prog_10_method_38_code 448 = .ok (.iaload, 1) := by decide +kernel
theorem d_Model_going_449 : decode prog_10_method_38_code 449 = .ok (.invokevirtual 198, 3) := by decide +kernel
theorem d_Model_going_452 : decode prog_10_method_38_code 452 = .ok (.ifCond .eq 7, 3) := by decide +kernel
theorem d_Model_going_455 : decode prog_10_method_38_code 455 = .ok (.iconst 1, 1) := by decide +kernel
theorem d_Model_going_456 : decode prog_10_method_38_code 456 = .ok (.goto 4, 3) := by decide +kernel
theorem d_Model_going_459 : decode prog_10_method_38_code 459 = .ok (.iconst 0, 1) := by decide +kernel
theorem d_Model_going_460 : decode prog_10_method_38_code 460 = .ok (.ireturn, 1) := by decide +kernel
theorem d_Model_handler_0 : decode prog_10_method_43_code 0 = .ok (.aload_n 0, 1) := by decide +kernel
theorem d_Model_handler_1 : decode prog_10_method_43_code 1 = .ok (.getfield 59, 3) := by decide +kernel
theorem d_Model_handler_4 : decode prog_10_method_43_code 4 = .ok (.iload_n 1, 1) := by decide +kernel
theorem d_Model_handler_5 : decode prog_10_method_43_code 5 = .ok (.iaload, 1) := by decide +kernel
theorem d_Model_handler_6 : decode prog_10_method_43_code 6 = .ok (.aload_n 0, 1) := by decide +kernel
theorem d_Model_handler_7 : decode prog_10_method_43_code 7 = .ok (.getfield 38, 3) := by decide +kernel
theorem d_Model_handler_10 : decode prog_10_method_43_code 10 = .ok (.iload_n 1, 1) := by decide +kernel
theorem d_Model_handler_11 : decode prog_10_method_43_code 11 = .ok (.iaload, 1) := by decide +kernel
theorem d_Model_handler_12 : decode prog_10_method_43_code 12 = .ok (.isub, 1) := by decide +kernel
theorem d_Model_handler_13 : decode prog_10_method_43_code 13 = .ok (.istore_n 3, 1) := by decide +kernel
theorem d_Model_handler_14 : decode prog_10_method_43_code 14 = .ok (.aload_n 0, 1) := by decide +kernel
theorem d_Model_handler_15 : decode prog_10_method_43_code 15 = .ok (.getfield 41, 3) := by decide +kernel
theorem d_Model_handler_18 : decode prog_10_method_43_code 18 = .ok (.iload_n 1, 1) := by decide +kernel
theorem d_Model_handler_19 : decode prog_10_method_43_code 19 = .ok (.iaload, 1) := by decide +kernel
theorem d_Model_handler_20 : decode prog_10_method_43_code 20 = .ok (.istore 4, 2) := by decide +kernel
theorem d_Model_handler_22 : decode prog_10_method_43_code 22 = .ok (.iload 4, 2) := by decide +kernel
theorem d_Model_handler_24 : decode prog_10_method_43_code 24 = .ok (.aload_n 0, 1) := by decide +kernel
theorem d_Model_handler_25 : decode prog_10_method_43_code 25 = .ok (.getfield 38, 3) := by decide +kernel
theorem d_Model_handler_28 : decode prog_10_method_43_code 28 = .ok (.iload_n 1, 1) := by decide +kernel
theorem d_Model_handler_29 : decode prog_10_method_43_code 29 = .ok (.iaload, 1) := by decide +kernel
theorem d_Model_handler_30 : decode prog_10_method_43_code 30 = .ok (.if_icmp .ge 69, 3) := by decide +kernel
theorem d_Model_handler_33 : decode prog_10_method_43_code 33 = .ok (.iload_n 3, 1) := by decide +kernel
theorem d_Model_handler_34 : decode prog_10_method_43_code 34 = .ok (.aload_n 0, 1) := by decide +kernel
theorem d_Model_handler_35 : decode prog_10_method_43_code 35 = .ok (.getfield 7, 3) := by decide +kernel
theorem d_Model_handler_38 : decode prog_10_method_43_code 38 = .ok (.iload 4, 2) := by decide +kernel
theorem d_Model_handler_40 : decode prog_10_method_43_code 40 = .ok (.iaload, 1) := by decide +kernel
theorem d_Model_handler_41 : decode prog_10_method_43_code 41 = .ok (.if_icmp .lt 52, 3) := by decide +kernel
theorem d_Model_handler_44 : decode prog_10_method_43_code 44 = .ok (.iload_n 3, 1) := by decide +kernel
theorem d_Model_handler_45 : decode prog_10_method_43_code 45 = .ok (.aload_n 0, 1) := by decide +kernel
theorem d_Model_handler_46 : decode prog_10_method_43_code 46 = .ok (.getfield 7, 3) := by decide +kernel
theorem d_Model_handler_49 : decode prog_10_method_43_code 49 = .ok (.iload 4, 2) := by decide +kernel
theorem d_Model_handler_51 : decode prog_10_method_43_code 51 = .ok (.iconst 1, 1) := by decide +kernel
theorem d_Model_handler_52 : decode prog_10_method_43_code 52 = .ok (.iadd, 1) := by decide +kernel
theorem d_Model_handler_53 : decode prog_10_method_43_code 53 = .ok (.iaload, 1) := by decide +kernel
theorem d_Model_handler_54 : decode prog_10_method_43_code 54 = .ok (.if_icmp .gt 39, 3) := by decide +kernel
theorem d_Model_handler_57 : decode prog_10_method_43_code 57 = .ok (.aload_n 0, 1) := by decide +kernel
theorem d_Model_handler_58 : decode prog_10_method_43_code 58 = .ok (.aload_n 0, 1) := by decide +kernel
theorem d_Model_handler_59 : decode prog_10_method_43_code 59 = .ok (.getfield 7, 3) := by decide +kernel
theorem d_Model_handler_62 : decode prog_10_method_43_code 62 = .ok (.iload 4, 2) := by decide +kernel
theorem d_Model_handler_64 : decode prog_10_method_43_code 64 = .ok (.iconst 2, 1) := by decide +kernel
theorem d_Model_handler_65 : decode prog_10_method_43_code 65 = .ok (.iadd, 1) := by decide +kernel
theorem d_Model_handler_66 : decode prog_10_method_43_code 66 = .ok (.iaload, 1) := by decide +kernel
theorem d_Model_handler_67 : decode prog_10_method_43_code 67 = .ok (.invokevirtual 107, 3) := by decide +kernel
theorem d_Model_handler_70 : decode prog_10_method_43_code 70 = .ok (.ifCond .eq 23, 3) := by decide +kernel
theorem d_Model_handler_73 : decode prog_10_method_43_code 73 = .ok (.aload_n 0, 1) := by decide +kernel
theorem d_Model_handler_74 : decode prog_10_method_43_code 74 = .ok (.iload_n 2, 1) := by decide +kernel
theorem d_Model_handler_75 : decode prog_10_method_43_code 75 = .ok (.aload_n 0, 1) := by decide +kernel
theorem d_Model_handler_76 : decode prog_10_method_43_code 76 = .ok (.getfield 7, 3) := by decide +kernel
theorem d_Model_handler_79 : decode prog_10_method_43_code 79 = .ok (.iload 4, 2) := by decide +kernel
theorem d_Model_handler_81 : decode prog_10_method_43_code 81 = .ok (.iconst 2, 1) := by decide +kernel
theorem d_Model_handler_82 : decode prog_10_method_43_code 82 = .ok (.iadd, 1) := by decide +kernel
theorem d_Model_handler_83 : decode prog_10_method_43_code 83 = .ok (.iaload, 1) := by decide +kernel
theorem d_Model_handler_84 : decode prog_10_method_43_code 84 = .ok (.invokevirtual 217, 3) := by decide +kernel
theorem d_Model_handler_87 : decode prog_10_method_43_code 87 = .ok (.ifCond .eq 6, 3) := by decide +kernel
theorem d_Model_handler_90 : decode prog_10_method_43_code 90 = .ok (.iload 4, 2) := by decide +kernel
theorem d_Model_handler_92 : decode prog_10_method_43_code 92 = .ok (.ireturn, 1) := by decide +kernel
theorem d_Model_handler_93 : decode prog_10_method_43_code 93 = .ok (.iinc 4 4, 3) := by decide +kernel
theorem d_Model_handler_96 : decode prog_10_method_43_code 96 = .ok (.goto (-74), 3) := by decide +kernel
theorem d_Model_handler_99 : decode prog_10_method_43_code 99 = .ok (.iconst (-1), 1) := by decide +kernel
theorem d_Model_handler_100 : decode prog_10_method_43_code 100 = .ok (.ireturn, 1) := by decide +kernel
theorem d_Model_has_0 : decode prog_10_method_54_code 0 = .ok (.aload_n 0, 1) := by decide +kernel
theorem d_Model_has_1 : decode prog_10_method_54_code 1 = .ok (.iload_n 1, 1) := by decide +kernel
theorem d_Model_has_2 : decode prog_10_method_54_code 2 = .ok (.invokevirtual 107, 3) := by decide +kernel
theorem d_Model_has_5 : decode prog_10_method_54_code 5 = .ok (.ifCond .eq 22, 3) := by decide +kernel
