theorem d_Model_mark_1 : decode prog_10_method_48_code 1 = .ok (.iconst 3, 1) := by decide +kernel
theorem d_Model_mark_2 : decode prog_10_method_48_code 2 = .ok (.if_icmp .ne 19, 3) := by decide +kernel
theorem d_Model_mark_5 : decode prog_10_method_48_code 5 = .ok (.aload_n 0, 1) := by decide +kernel
theorem d_Model_mark_6 : decode prog_10_method_48_code 6 = .ok (.iload_n 3, 1) := by decide +kernel
theorem d_Model_mark_7 : decode prog_10_method_48_code 7 = .ok (.invokevirtual 107, 3) := by decide +kernel
theorem d_Model_mark_10 : decode prog_10_method_48_code 10 = .ok (.ifCond .eq 11, 3) := by decide +kernel
theorem d_Model_mark_13 : decode prog_10_method_48_code 13 = .ok (.iload_n 1, 1) := by decide +kernel
theorem d_Model_mark_14 : decode prog_10_method_48_code 14 = .ok (.iconst 1, 1) := by decide +kernel
theorem d_Model_mark_15 : decode prog_10_method_48_code 15 = .ok (.iload_n 3, 1) := by decide +kernel
theorem d_Model_mark_16 : decode prog_10_method_48_code 16 = .ok (.ishl, 1) := by decide +kernel
theorem d_Model_mark_17 : decode prog_10_method_48_code 17 = .ok (.ior, 1) := by decide +kernel
theorem d_Model_mark_18 : decode prog_10_method_48_code 18 = .ok (.goto 4, 3) := by decide +kernel
theorem d_Model_mark_21 : decode prog_10_method_48_code 21 = .ok (.iload_n 1, 1) := by decide +kernel
theorem d_Model_mark_22 : decode prog_10_method_48_code 22 = .ok (.ireturn, 1) := by decide +kernel
theorem d_Model_object_0 : decode prog_10_method_18_code 0 = .ok (.iload_n 1, 1) := by decide +kernel
theorem d_Model_object_1 : decode prog_10_method_18_code 1 = .ok (.iconst (-1), 1) := by decide +kernel
theorem d_Model_object_2 : decode prog_10_method_18_code 2 = .ok (.if_icmp .ne 7, 3) := by decide +kernel
theorem d_Model_object_5 : decode prog_10_method_18_code 5 = .ok (.iconst 0, 1) := by decide +kernel
theorem d_Model_object_6 : decode prog_10_method_18_code 6 = .ok (.goto 22, 3) := by decide +kernel
theorem d_Model_object_9 : decode prog_10_method_18_code 9 = .ok (.iload_n 2, 1) := by decide +kernel
theorem d_Model_object_10 : decode prog_10_method_18_code 10 = .ok (.iconst (-1), 1) := by decide +kernel
theorem d_Model_object_11 : decode prog_10_method_18_code 11 = .ok (.if_icmp .ne 7, 3) := by decide +kernel
theorem d_Model_object_14 : decode prog_10_method_18_code 14 = .ok (.iconst 1, 1) := by decide +kernel
theorem d_Model_object_15 : decode prog_10_method_18_code 15 = .ok (.goto 13, 3) := by decide +kernel
theorem d_Model_object_18 : decode prog_10_method_18_code 18 = .ok (.iload_n 3, 1) := by decide +kernel
theorem d_Model_object_19 : decode prog_10_method_18_code 19 = .ok (.iconst (-1), 1) := by decide +kernel
theorem d_Model_object_20 : decode prog_10_method_18_code 20 = .ok (.if_icmp .ne 7, 3) := by decide +kernel
theorem d_Model_object_23 : decode prog_10_method_18_code 23 = .ok (.iconst 2, 1) := by decide +kernel
theorem d_Model_object_24 : decode prog_10_method_18_code 24 = .ok (.goto 4, 3) := by decide +kernel
theorem d_Model_object_27 : decode prog_10_method_18_code 27 = .ok (.iconst 3, 1) := by decide +kernel
theorem d_Model_object_28 : decode prog_10_method_18_code 28 = .ok (.istore 4, 2) := by decide +kernel
theorem d_Model_object_30 : decode prog_10_method_18_code 30 = .ok (.aload_n 0, 1) := by decide +kernel
theorem d_Model_object_31 : decode prog_10_method_18_code 31 = .ok (.iload_n 1, 1) := by decide +kernel
theorem d_Model_object_32 : decode prog_10_method_18_code 32 = .ok (.invokevirtual 111, 3) := by decide +kernel
theorem d_Model_object_35 : decode prog_10_method_18_code 35 = .ok (.ifCond .eq 35, 3) := by decide +kernel
theorem d_Model_object_38 : decode prog_10_method_18_code 38 = .ok (.iload 4, 2) := by decide +kernel
theorem d_Model_object_40 : decode prog_10_method_18_code 40 = .ok (.iconst 1, 1) := by decide +kernel
theorem d_Model_object_41 : decode prog_10_method_18_code 41 = .ok (.if_icmp .lt 11, 3) := by decide +kernel
theorem d_Model_object_44 : decode prog_10_method_18_code 44 = .ok (.aload_n 0, 1) := by decide +kernel
theorem d_Model_object_45 : decode prog_10_method_18_code 45 = .ok (.iload_n 2, 1) := by decide +kernel
theorem d_Model_object_46 : decode prog_10_method_18_code 46 = .ok (.invokevirtual 111, 3) := by decide +kernel
theorem d_Model_object_49 : decode prog_10_method_18_code 49 = .ok (.ifCond .eq 21, 3) := by decide +kernel
theorem d_Model_object_52 : decode prog_10_method_18_code 52 = .ok (.iload 4, 2) := by decide +kernel
theorem d_Model_object_54 : decode prog_10_method_18_code 54 = .ok (.iconst 2, 1) := by decide +kernel
theorem d_Model_object_55 : decode prog_10_method_18_code 55 = .ok (.if_icmp .lt 11, 3) := by decide +kernel
theorem d_Model_object_58 : decode prog_10_method_18_code 58 = .ok (.aload_n 0, 1) := by decide +kernel
theorem d_Model_object_59 : decode prog_10_method_18_code 59 = .ok (.iload_n 3, 1) := by decide +kernel
theorem d_Model_object_60 : decode prog_10_method_18_code 60 = .ok (.invokevirtual 111, 3) := by decide +kernel
theorem d_Model_object_63 : decode prog_10_method_18_code 63 = .ok (.ifCond .eq 7, 3) := by decide +kernel
theorem d_Model_object_66 : decode prog_10_method_18_code 66 = .ok (.iconst 1, 1) := by decide +kernel
theorem d_Model_object_67 : decode prog_10_method_18_code 67 = .ok (.goto 4, 3) := by decide +kernel
theorem d_Model_object_70 : decode prog_10_method_18_code 70 = .ok (.iconst 0, 1) := by decide +kernel
theorem d_Model_object_71 : decode prog_10_method_18_code 71 = .ok (.istore 5, 2) := by decide +kernel
theorem d_Model_object_73 : decode prog_10_method_18_code 73 = .ok (.aload_n 0, 1) := by decide +kernel
theorem d_Model_object_74 : decode prog_10_method_18_code 74 = .ok (.iload 5, 2) := by decide +kernel
theorem d_Model_object_76 : decode prog_10_method_18_code 76 = .ok (.ifCond .ne 7, 3) := by decide +kernel
theorem d_Model_object_79 : decode prog_10_method_18_code 79 = .ok (.iconst 1, 1) := by decide +kernel
theorem d_Model_object_80 : decode prog_10_method_18_code 80 = .ok (.goto 24, 3) := by decide +kernel
theorem d_Model_object_83 : decode prog_10_method_18_code 83 = .ok (.aload_n 0, 1) := by decide +kernel
theorem d_Model_object_84 : decode prog_10_method_18_code 84 = .ok (.getfield 71, 3) := by decide +kernel
theorem d_Model_object_87 : decode prog_10_method_18_code 87 = .ok (.ifCond .eq 12, 3) := by decide +kernel
theorem d_Model_object_90 : decode prog_10_method_18_code 90 = .ok (.aload_n 0, 1) := by decide +kernel
theorem d_Model_object_91 : decode prog_10_method_18_code 91 = .ok (.getfield 114, 3) := by decide +kernel
theorem d_Model_object_94 : decode prog_10_method_18_code 94 = .ok (.bipush 16, 2) := by decide +kernel
theorem d_Model_object_96 : decode prog_10_method_18_code 96 = .ok (.if_icmp .ne 7, 3) := by decide +kernel
theorem d_Model_object_99 : decode prog_10_method_18_code 99 = .ok (.iconst 2, 1) := by decide +kernel
theorem d_Model_object_100 : decode prog_10_method_18_code 100 = .ok (.goto 4, 3) := by decide +kernel
theorem d_Model_object_103 : decode prog_10_method_18_code 103 = .ok (.iconst 0, 1) := by decide +kernel
theorem d_Model_object_104 : decode prog_10_method_18_code 104 = .ok (.putfield 75, 3) := by decide +kernel
theorem d_Model_object_107 : decode prog_10_method_18_code 107 = .ok (.aload_n 0, 1) := by decide +kernel
theorem d_Model_object_108 : decode prog_10_method_18_code 108 = .ok (.getfield 75, 3) := by decide +kernel
theorem d_Model_object_111 : decode prog_10_method_18_code 111 = .ok (.ifCond .le 5, 3) := by decide +kernel
theorem d_Model_object_114 : decode prog_10_method_18_code 114 = .ok (.iconst 0, 1) := by decide +kernel
theorem d_Model_object_115 : decode prog_10_method_18_code 115 = .ok (.ireturn, 1) := by decide +kernel
theorem d_Model_object_116 : decode prog_10_method_18_code 116 = .ok (.aload_n 0, 1) := by decide +kernel
theorem d_Model_object_117 : decode prog_10_method_18_code 117 = .ok (.aload_n 0, 1) := by decide +kernel
theorem d_Model_object_118 : decode prog_10_method_18_code 118 = .ok (.getfield 114, 3) := by decide +kernel
theorem d_Model_object_121 : decode prog_10_method_18_code 121 = .ok (.invokevirtual 117, 3) := by decide +kernel
theorem d_Model_object_124 : decode prog_10_method_18_code 124 = .ok (.aload_n 0, 1) := by decide +kernel
theorem d_Model_object_125 : decode prog_10_method_18_code 125 = .ok (.getfield 13, 3) := by decide +kernel
theorem d_Model_object_128 : decode prog_10_method_18_code 128 = .ok (.bipush 29, 2) := by decide +kernel
theorem d_Model_object_130 : decode prog_10_method_18_code 130 = .ok (.aload_n 0, 1) := by decide +kernel
theorem d_Model_object_131 : decode prog_10_method_18_code 131 = .ok (.getfield 114, 3) := by decide +kernel
theorem d_Model_object_134 : decode prog_10_method_18_code 134 = .ok (.imul, 1) := by decide +kernel
theorem d_Model_object_135 : decode prog_10_method_18_code 135 = .ok (.iconst 1, 1) := by decide +kernel
theorem d_Model_object_136 : decode prog_10_method_18_code 136 = .ok (.iadd, 1) := by decide +kernel
theorem d_Model_object_137 : decode prog_10_method_18_code 137 = .ok (.iload 4, 2) := by decide +kernel
theorem d_Model_object_139 : decode prog_10_method_18_code 139 = .ok (.iastore, 1) := by decide +kernel
theorem d_Model_object_140 : decode prog_10_method_18_code 140 = .ok (.aload_n 0, 1) := by decide +kernel
theorem d_Model_object_141 : decode prog_10_method_18_code 141 = .ok (.getfield 13, 3) := by decide +kernel
theorem d_Model_object_144 : decode prog_10_method_18_code 144 = .ok (.bipush 29, 2) := by decide +kernel
theorem d_Model_object_146 : decode prog_10_method_18_code 146 = .ok (.aload_n 0, 1) := by decide +kernel
theorem d_Model_object_147 : decode prog_10_method_18_code 147 = .ok (.getfield 114, 3) := by decide +kernel
theorem d_Model_object_150 : decode prog_10_method_18_code 150 = .ok (.imul, 1) := by decide +kernel
theorem d_Model_object_151 : decode prog_10_method_18_code 151 = .ok (.iconst 2, 1) := by decide +kernel
theorem d_Model_object_152 : decode prog_10_method_18_code 152 = .ok (.iadd, 1) := by decide +kernel
theorem d_Model_object_153 : decode prog_10_method_18_code 153 = .ok (.iload_n 1, 1) := by decide +kernel
theorem d_Model_object_154 : decode prog_10_method_18_code 154 = .ok (.iastore, 1) := by decide +kernel
theorem d_Model_object_155 : decode prog_10_method_18_code 155 = .ok (.aload_n 0, 1) := by decide +kernel
theorem d_Model_object_156 : decode prog_10_method_18_code 156 = .ok (.getfield 13, 3) := by decide +kernel
theorem d_Model_object_159 : decode prog_10_method_18_code 159 = .ok (.bipush 29, 2) := by decide +kernel
theorem d_Model_object_161 : decode prog_10_method_18_code 161 = .ok (.aload_n 0, 1) := by decide +kernel
theorem d_Model_object_162 : decode prog_10_method_18_code 162 = .ok (.getfield 114, 3) := by decide +kernel
theorem d_Model_object_165 : decode prog_10_method_18_code 165 = .ok (.imul, 1) := by decide +kernel
theorem d_Model_object_166 : decode prog_10_method_18_code 166 = .ok (.iconst 3, 1) := by decide +kernel
theorem d_Model_object_167 : decode prog_10_method_18_code 167 = .ok (.iadd, 1) := by decide +kernel
theorem d_Model_object_168 : decode prog_10_method_18_code 168 = .ok (.iload_n 2, 1) := by decide +kernel
theorem d_Model_object_169 : decode prog_10_method_18_code 169 = .ok (.iastore, 1) := by decide +kernel
theorem d_Model_object_170 : decode prog_10_method_18_code 170 = .ok (.aload_n 0, 1) := by decide +kernel
theorem d_Model_object_171 : decode prog_10_method_18_code 171 = .ok (.getfield 13, 3) := by decide +kernel
theorem d_Model_object_174 : decode prog_10_method_18_code 174 = .ok (.bipush 29, 2) := by decide +kernel
theorem d_Model_object_176 : decode prog_10_method_18_code 176 = .ok (.aload_n 0, 1) := by decide +kernel
theorem d_Model_object_177 : decode prog_10_method_18_code 177 = .ok (.getfield 114, 3) := by decide +kernel
theorem d_Model_object_180 : decode prog_10_method_18_code 180 = .ok (.imul, 1) := by decide +kernel
theorem d_Model_object_181 : decode prog_10_method_18_code 181 = .ok (.iconst 4, 1) := by decide +kernel
theorem d_Model_object_182 : decode prog_10_method_18_code 182 = .ok (.iadd, 1) := by decide +kernel
theorem d_Model_object_183 : decode prog_10_method_18_code 183 = .ok (.iload_n 3, 1) := by decide +kernel
theorem d_Model_object_184 : decode prog_10_method_18_code 184 = .ok (.iastore, 1) := by decide +kernel
theorem d_Model_object_185 : decode prog_10_method_18_code 185 = .ok (.aload_n 0, 1) := by decide +kernel
theorem d_Model_object_186 : decode prog_10_method_18_code 186 = .ok (.dup, 1) := by decide +kernel
theorem d_Model_object_187 : decode prog_10_method_18_code 187 = .ok (.getfield 114, 3) := by decide +kernel
theorem d_Model_object_190 : decode prog_10_method_18_code 190 = .ok (.iconst 1, 1) := by decide +kernel
theorem d_Model_object_191 : decode prog_10_method_18_code 191 = .ok (.iadd, 1) := by decide +kernel
theorem d_Model_object_192 : decode prog_10_method_18_code 192 = .ok (.putfield 114, 3) := by decide +kernel
theorem d_Model_object_195 : decode prog_10_method_18_code 195 = .ok (.aload_n 0, 1) := by decide +kernel
theorem d_Model_object_196 : decode prog_10_method_18_code 196 = .ok (.getfield 16, 3) := by decide +kernel
theorem d_Model_object_199 : decode prog_10_method_18_code 199 = .ok (.iconst 0, 1) := by decide +kernel
theorem d_Model_object_200 : decode prog_10_method_18_code 200 = .ok (.iconst 0, 1) := by decide +kernel
theorem d_Model_object_201 : decode prog_10_method_18_code 201 = .ok (.bastore, 1) := by decide +kernel
theorem d_Model_object_202 : decode prog_10_method_18_code 202 = .ok (.aload_n 0, 1) := by decide +kernel
theorem d_Model_object_203 : decode prog_10_method_18_code 203 = .ok (.getfield 16, 3) := by decide +kernel
theorem d_Model_object_206 : decode prog_10_method_18_code 206 = .ok (.iconst 1, 1) := by decide +kernel
theorem d_Model_object_207 : decode prog_10_method_18_code 207 = .ok (.iconst 0, 1) := by decide +kernel
theorem d_Model_object_208 : decode prog_10_method_18_code 208 = .ok (.bastore, 1) := by decide +kernel
theorem d_Model_object_209 : decode prog_10_method_18_code 209 = .ok (.aload_n 0, 1) := by decide +kernel
theorem d_Model_object_210 : decode prog_10_method_18_code 210 = .ok (.getfield 114, 3) := by decide +kernel
theorem d_Model_object_213 : decode prog_10_method_18_code 213 = .ok (.iconst 1, 1) := by decide +kernel
theorem d_Model_object_214 : decode prog_10_method_18_code 214 = .ok (.isub, 1) := by decide +kernel
theorem d_Model_object_215 : decode prog_10_method_18_code 215 = .ok (.ireturn, 1) := by decide +kernel
theorem d_Model_one_0 : decode prog_10_method_34_code 0 = .ok (.aload_n 0, 1) := by decide +kernel
theorem d_Model_one_1 : decode prog_10_method_34_code 1 = .ok (.getfield 127, 3) := by decide +kernel
theorem d_Model_one_4 : decode prog_10_method_34_code 4 = .ok (.iconst 1, 1) := by decide +kernel
theorem d_Model_one_5 : decode prog_10_method_34_code 5 = .ok (.isub, 1) := by decide +kernel
theorem d_Model_one_6 : decode prog_10_method_34_code 6 = .ok (.istore_n 1, 1) := by decide +kernel
theorem d_Model_one_7 : decode prog_10_method_34_code 7 = .ok (.aload_n 0, 1) := by decide +kernel
theorem d_Model_one_8 : decode prog_10_method_34_code 8 = .ok (.getfield 59, 3) := by decide +kernel
theorem d_Model_one_11 : decode prog_10_method_34_code 11 = .ok (.iload_n 1, 1) := by decide +kernel
theorem d_Model_one_12 : decode prog_10_method_34_code 12 = .ok (.iaload, 1) := by decide +kernel
theorem d_Model_one_13 : decode prog_10_method_34_code 13 = .ok (.istore_n 2, 1) := by decide +kernel
theorem d_Model_one_14 : decode prog_10_method_34_code 14 = .ok (.aload_n 0, 1) := by decide +kernel
theorem d_Model_one_15 : decode prog_10_method_34_code 15 = .ok (.iload_n 2, 1) := by decide +kernel
theorem d_Model_one_16 : decode prog_10_method_34_code 16 = .ok (.invokevirtual 124, 3) := by decide +kernel
theorem d_Model_one_19 : decode prog_10_method_34_code 19 = .ok (.istore_n 3, 1) := by decide +kernel
theorem d_Model_one_20 : decode prog_10_method_34_code 20 = .ok (.iload_n 3, 1) := by decide +kernel
theorem d_Model_one_21 : decode prog_10_method_34_code 21 = .ok (.bipush 34, 2) := by decide +kernel
theorem d_Model_one_23 : decode prog_10_method_34_code 23 = .ok (.if_icmp .gt 16, 3) := by decide +kernel
theorem d_Model_one_26 : decode prog_10_method_34_code 26 = .ok (.iload_n 2, 1) := by decide +kernel
theorem d_Model_one_27 : decode prog_10_method_34_code 27 = .ok (.iload_n 3, 1) := by decide +kernel
theorem d_Model_one_28 : decode prog_10_method_34_code 28 = .ok (.invokestatic 166, 3) := by decide +kernel
theorem d_Model_one_31 : decode prog_10_method_34_code 31 = .ok (.iadd, 1) := by decide +kernel
theorem d_Model_one_32 : decode prog_10_method_34_code 32 = .ok (.aload_n 0, 1) := by decide +kernel
theorem d_Model_one_33 : decode prog_10_method_34_code 33 = .ok (.getfield 104, 3) := by decide +kernel
theorem d_Model_one_36 : decode prog_10_method_34_code 36 = .ok (.if_icmp .le 5, 3) := by decide +kernel
theorem d_Model_one_39 : decode prog_10_method_34_code 39 = .ok (.iconst 0, 1) := by decide +kernel
theorem d_Model_one_40 : decode prog_10_method_34_code 40 = .ok (.ireturn, 1) := by decide +kernel
theorem d_Model_one_41 : decode prog_10_method_34_code 41 = .ok (.aload_n 0, 1) := by decide +kernel
theorem d_Model_one_42 : decode prog_10_method_34_code 42 = .ok (.getfield 62, 3) := by decide +kernel
theorem d_Model_one_45 : decode prog_10_method_34_code 45 = .ok (.iload_n 1, 1) := by decide +kernel
theorem d_Model_one_46 : decode prog_10_method_34_code 46 = .ok (.iload_n 2, 1) := by decide +kernel
theorem d_Model_one_47 : decode prog_10_method_34_code 47 = .ok (.iload_n 3, 1) := by decide +kernel
theorem d_Model_one_48 : decode prog_10_method_34_code 48 = .ok (.invokestatic 166, 3) := by decide +kernel
theorem d_Model_one_51 : decode prog_10_method_34_code 51 = .ok (.iadd, 1) := by decide +kernel
theorem d_Model_one_52 : decode prog_10_method_34_code 52 = .ok (.iastore, 1) := by decide +kernel
theorem d_Model_one_53 : decode prog_10_method_34_code 53 = .ok (.iload_n 3, 1) := by decide +kernel
theorem d_Model_one_54 : decode prog_10_method_34_code 54 = .ok (.bipush 12, 2) := by decide +kernel
theorem d_Model_one_56 : decode prog_10_method_34_code 56 = .ok (.if_icmp .ge 15, 3) := by decide +kernel
theorem d_Model_one_59 : decode prog_10_method_34_code 59 = .ok (.aload_n 0, 1) := by decide +kernel
theorem d_Model_one_60 : decode prog_10_method_34_code 60 = .ok (.iload_n 1, 1) := by decide +kernel
theorem d_Model_one_61 : decode prog_10_method_34_code 61 = .ok (.iload_n 3, 1) := by decide +kernel
theorem d_Model_one_62 : decode prog_10_method_34_code 62 = .ok (.iload_n 2, 1) := by decide +kernel
theorem d_Model_one_63 : decode prog_10_method_34_code 63 = .ok (.iconst 1, 1) := by decide +kernel
theorem d_Model_one_64 : decode prog_10_method_34_code 64 = .ok (.iadd, 1) := by decide +kernel
theorem d_Model_one_65 : decode prog_10_method_34_code 65 = .ok (.invokevirtual 169, 3) := by decide +kernel
theorem d_Model_one_68 : decode prog_10_method_34_code 68 = .ok (.goto 43, 3) := by decide +kernel
theorem d_Model_one_71 : decode prog_10_method_34_code 71 = .ok (.iload_n 3, 1) := by decide +kernel
theorem d_Model_one_72 : decode prog_10_method_34_code 72 = .ok (.bipush 19, 2) := by decide +kernel
theorem d_Model_one_74 : decode prog_10_method_34_code 74 = .ok (.if_icmp .ge 11, 3) := by decide +kernel
theorem d_Model_one_77 : decode prog_10_method_34_code 77 = .ok (.aload_n 0, 1) := by decide +kernel
theorem d_Model_one_78 : decode prog_10_method_34_code 78 = .ok (.iload_n 3, 1) := by decide +kernel
theorem d_Model_one_79 : decode prog_10_method_34_code 79 = .ok (.invokevirtual 172, 3) := by decide +kernel
theorem d_Model_one_82 : decode prog_10_method_34_code 82 = .ok (.goto 29, 3) := by decide +kernel
theorem d_Model_one_85 : decode prog_10_method_34_code 85 = .ok (.iload_n 3, 1) := by decide +kernel
theorem d_Model_one_86 : decode prog_10_method_34_code 86 = .ok (.bipush 28, 2) := by decide +kernel
theorem d_Model_one_88 : decode prog_10_method_34_code 88 = .ok (.if_icmp .ge 15, 3) := by decide +kernel
theorem d_Model_one_91 : decode prog_10_method_34_code 91 = .ok (.aload_n 0, 1) := by decide +kernel
theorem d_Model_one_92 : decode prog_10_method_34_code 92 = .ok (.iload_n 1, 1) := by decide +kernel
theorem d_Model_one_93 : decode prog_10_method_34_code 93 = .ok (.iload_n 3, 1) := by decide +kernel
theorem d_Model_one_94 : decode prog_10_method_34_code 94 = .ok (.iload_n 2, 1) := by decide +kernel
theorem d_Model_one_95 : decode prog_10_method_34_code 95 = .ok (.iconst 1, 1) := by decide +kernel
theorem d_Model_one_96 : decode prog_10_method_34_code 96 = .ok (.iadd, 1) := by decide +kernel
theorem d_Model_one_97 : decode prog_10_method_34_code 97 = .ok (.invokevirtual 175, 3) := by decide +kernel
theorem d_Model_one_100 : decode prog_10_method_34_code 100 = .ok (.goto 11, 3) := by decide +kernel
theorem d_Model_one_103 : decode prog_10_method_34_code 103 = .ok (.aload_n 0, 1) := by decide +kernel
theorem d_Model_one_104 : decode prog_10_method_34_code 104 = .ok (.iload_n 3, 1) := by decide +kernel
theorem d_Model_one_105 : decode prog_10_method_34_code 105 = .ok (.iload_n 2, 1) := by decide +kernel
theorem d_Model_one_106 : decode prog_10_method_34_code 106 = .ok (.iconst 1, 1) := by decide +kernel
theorem d_Model_one_107 : decode prog_10_method_34_code 107 = .ok (.iadd, 1) := by decide +kernel
theorem d_Model_one_108 : decode prog_10_method_34_code 108 = .ok (.invokevirtual 178, 3) := by decide +kernel
theorem d_Model_one_111 : decode prog_10_method_34_code 111 = .ok (.istore 4, 2) := by decide +kernel
theorem d_Model_one_113 : decode prog_10_method_34_code 113 = .ok (.iload_n 3, 1) := by decide +kernel
theorem d_Model_one_114 : decode prog_10_method_34_code 114 = .ok (.bipush 21, 2) := by decide +kernel
theorem d_Model_one_116 : decode prog_10_method_34_code 116 = .ok (.if_icmp .eq 39, 3) := by decide +kernel
theorem d_Model_one_119 : decode prog_10_method_34_code 119 = .ok (.iload_n 3, 1) := by decide +kernel
theorem d_Model_one_120 : decode prog_10_method_34_code 120 = .ok (.bipush 23, 2) := by decide +kernel
theorem d_Model_one_122 : decode prog_10_method_34_code 122 = .ok (.if_icmp .eq 33, 3) := by decide +kernel
theorem d_Model_one_125 : decode prog_10_method_34_code 125 = .ok (.iload_n 3, 1) := by decide +kernel
theorem d_Model_one_126 : decode prog_10_method_34_code 126 = .ok (.bipush 24, 2) := by decide +kernel
theorem d_Model_one_128 : decode prog_10_method_34_code 128 = .ok (.if_icmp .eq 27, 3) := by decide +kernel
theorem d_Model_one_131 : decode prog_10_method_34_code 131 = .ok (.iload_n 3, 1) := by decide +kernel
theorem d_Model_one_132 : decode prog_10_method_34_code 132 = .ok (.bipush 25, 2) := by decide +kernel
theorem d_Model_one_134 : decode prog_10_method_34_code 134 = .ok (.if_icmp .eq 21, 3) := by decide +kernel
theorem d_Model_one_137 : decode prog_10_method_34_code 137 = .ok (.iload_n 3, 1) := by decide +kernel
theorem d_Model_one_138 : decode prog_10_method_34_code 138 = .ok (.bipush 26, 2) := by decide +kernel
theorem d_Model_one_140 : decode prog_10_method_34_code 140 = .ok (.if_icmp .eq 15, 3) := by decide +kernel
theorem d_Model_one_143 : decode prog_10_method_34_code 143 = .ok (.iload_n 3, 1) := by decide +kernel
theorem d_Model_one_144 : decode prog_10_method_34_code 144 = .ok (.bipush 27, 2) := by decide +kernel
theorem d_Model_one_146 : decode prog_10_method_34_code 146 = .ok (.if_icmp .eq 9, 3) := by decide +kernel
theorem d_Model_one_149 : decode prog_10_method_34_code 149 = .ok (.iload_n 3, 1) := by decide +kernel
theorem d_Model_one_150 : decode prog_10_method_34_code 150 = .ok (.bipush 15, 2) := by decide +kernel
theorem d_Model_one_152 : decode prog_10_method_34_code 152 = .ok (.if_icmp .ne 7, 3) := by decide +kernel
theorem d_Model_one_155 : decode prog_10_method_34_code 155 = .ok (.iconst 1, 1) := by decide +kernel
theorem d_Model_one_156 : decode prog_10_method_34_code 156 = .ok (.goto 4, 3) := by decide +kernel
theorem d_Model_one_159 : decode prog_10_method_34_code 159 = .ok (.iconst 0, 1) := by decide +kernel
theorem d_Model_one_160 : decode prog_10_method_34_code 160 = .ok (.istore 5, 2) := by decide +kernel
theorem d_Model_one_162 : decode prog_10_method_34_code 162 = .ok (.iload 4, 2) := by decide +kernel
theorem d_Model_one_164 : decode prog_10_method_34_code 164 = .ok (.ifCond .eq 20, 3) := by decide +kernel
theorem d_Model_one_167 : decode prog_10_method_34_code 167 = .ok (.iload 5, 2) := by decide +kernel
theorem d_Model_one_169 : decode prog_10_method_34_code 169 = .ok (.ifCond .ne 15, 3) := by decide +kernel
theorem d_Model_one_172 : decode prog_10_method_34_code 172 = .ok (.aload_n 0, 1) := by decide +kernel
theorem d_Model_one_173 : decode prog_10_method_34_code 173 = .ok (.getfield 59, 3) := by decide +kernel
theorem d_Model_one_176 : decode prog_10_method_34_code 176 = .ok (.iload_n 1, 1) := by decide +kernel
theorem d_Model_one_177 : decode prog_10_method_34_code 177 = .ok (.aload_n 0, 1) := by decide +kernel
theorem d_Model_one_178 : decode prog_10_method_34_code 178 = .ok (.getfield 62, 3) := by decide +kernel
theorem d_Model_one_181 : decode prog_10_method_34_code 181 = .ok (.iload_n 1, 1) := by decide +kernel
theorem d_Model_one_182 : decode prog_10_method_34_code 182 = .ok (.iaload, 1) := by decide +kernel
theorem d_Model_one_183 : decode prog_10_method_34_code 183 = .ok (.iastore, 1) := by decide +kernel
theorem d_Model_one_184 : decode prog_10_method_34_code 184 = .ok (.iload 4, 2) := by decide +kernel
theorem d_Model_one_186 : decode prog_10_method_34_code 186 = .ok (.ireturn, 1) := by decide +kernel
theorem d_Model_outside_0 : decode prog_10_method_4_code 0 = .ok (.iload_n 0, 1) := by decide +kernel
theorem d_Model_outside_1 : decode prog_10_method_4_code 1 = .ok (.iload_n 1, 1) := by decide +kernel
theorem d_Model_outside_2 : decode prog_10_method_4_code 2 = .ok (.if_icmp .lt 8, 3) := by decide +kernel
theorem d_Model_outside_5 : decode prog_10_method_4_code 5 = .ok (.iload_n 0, 1) := by decide +kernel
theorem d_Model_outside_6 : decode prog_10_method_4_code 6 = .ok (.iload_n 2, 1) := by decide +kernel
theorem d_Model_outside_7 : decode prog_10_method_4_code 7 = .ok (.if_icmp .le 7, 3) := by decide +kernel
theorem d_Model_outside_10 : decode prog_10_method_4_code 10 = .ok (.iconst 1, 1) := by decide +kernel
theorem d_Model_outside_11 : decode prog_10_method_4_code 11 = .ok (.goto 4, 3) := by decide +kernel
theorem d_Model_outside_14 : decode prog_10_method_4_code 14 = .ok (.iconst 0, 1) := by decide +kernel
theorem d_Model_outside_15 : decode prog_10_method_4_code 15 = .ok (.ireturn, 1) := by decide +kernel
theorem d_Model_over_0 : decode prog_10_method_25_code 0 = .ok (.aload_n 0, 1) := by decide +kernel
theorem d_Model_over_1 : decode prog_10_method_25_code 1 = .ok (.iload_n 1, 1) := by decide +kernel
theorem d_Model_over_2 : decode prog_10_method_25_code 2 = .ok (.putfield 71, 3) := by decide +kernel
theorem d_Model_over_5 : decode prog_10_method_25_code 5 = .ok (.aload_n 0, 1) := by decide +kernel
theorem d_Model_over_6 : decode prog_10_method_25_code 6 = .ok (.iconst 0, 1) := by decide +kernel
theorem d_Model_over_7 : decode prog_10_method_25_code 7 = .ok (.putfield 153, 3) := by decide +kernel
theorem d_Model_over_10 : decode prog_10_method_25_code 10 = .ok (.iload_n 1, 1) := by decide +kernel
theorem d_Model_over_11 : decode prog_10_method_25_code 11 = .ok (.ireturn, 1) := by decide +kernel
theorem d_Model_owner_0 : decode prog_10_method_14_code 0 = .ok (.aload_n 0, 1) := by decide +kernel
theorem d_Model_owner_1 : decode prog_10_method_14_code 1 = .ok (.iload_n 1, 1) := by decide +kernel
theorem d_Model_owner_2 : decode prog_10_method_14_code 2 = .ok (.invokevirtual 96, 3) := by decide +kernel
theorem d_Model_owner_5 : decode prog_10_method_14_code 5 = .ok (.aload_n 0, 1) := by decide +kernel
theorem d_Model_owner_6 : decode prog_10_method_14_code 6 = .ok (.getfield 86, 3) := by decide +kernel
theorem d_Model_owner_9 : decode prog_10_method_14_code 9 = .ok (.iconst 1, 1) := by decide +kernel
theorem d_Model_owner_10 : decode prog_10_method_14_code 10 = .ok (.isub, 1) := by decide +kernel
theorem d_Model_owner_11 : decode prog_10_method_14_code 11 = .ok (.istore 4, 2) := by decide +kernel
theorem d_Model_owner_13 : decode prog_10_method_14_code 13 = .ok (.iload_n 3, 1) := by decide +kernel
theorem d_Model_owner_14 : decode prog_10_method_14_code 14 = .ok (.iconst (-1), 1) := by decide +kernel
theorem d_Model_owner_15 : decode prog_10_method_14_code 15 = .ok (.if_icmp .eq 28, 3) := by decide +kernel
theorem d_Model_owner_18 : decode prog_10_method_14_code 18 = .ok (.iload 4, 2) := by decide +kernel
theorem d_Model_owner_20 : decode prog_10_method_14_code 20 = .ok (.ifCond .lt 20, 3) := by decide +kernel
theorem d_Model_owner_23 : decode prog_10_method_14_code 23 = .ok (.aload_n 0, 1) := by decide +kernel
theorem d_Model_owner_24 : decode prog_10_method_14_code 24 = .ok (.getfield 20, 3) := by decide +kernel
theorem d_Model_owner_27 : decode prog_10_method_14_code 27 = .ok (.iload 4, 2) := by decide +kernel
theorem d_Model_owner_29 : decode prog_10_method_14_code 29 = .ok (.iaload, 1) := by decide +kernel
theorem d_Model_owner_30 : decode prog_10_method_14_code 30 = .ok (.iload_n 3, 1) := by decide +kernel
theorem d_Model_owner_31 : decode prog_10_method_14_code 31 = .ok (.if_icmp .eq 9, 3) := by decide +kernel
theorem d_Model_owner_34 : decode prog_10_method_14_code 34 = .ok (.iinc 4 (-1), 3) := by decide +kernel
theorem d_Model_owner_37 : decode prog_10_method_14_code 37 = .ok (.goto (-19), 3) := by decide +kernel
theorem d_Model_owner_40 : decode prog_10_method_14_code 40 = .ok (.iinc 4 (-1), 3) := by decide +kernel
theorem d_Model_owner_43 : decode prog_10_method_14_code 43 = .ok (.iload 4, 2) := by decide +kernel
theorem d_Model_owner_45 : decode prog_10_method_14_code 45 = .ok (.istore 5, 2) := by decide +kernel
theorem d_Model_owner_47 : decode prog_10_method_14_code 47 = .ok (.iload 5, 2) := by decide +kernel
theorem d_Model_owner_49 : decode prog_10_method_14_code 49 = .ok (.ifCond .lt 32, 3) := by decide +kernel
theorem d_Model_owner_52 : decode prog_10_method_14_code 52 = .ok (.aload_n 0, 1) := by decide +kernel
theorem d_Model_owner_53 : decode prog_10_method_14_code 53 = .ok (.aload_n 0, 1) := by decide +kernel
theorem d_Model_owner_54 : decode prog_10_method_14_code 54 = .ok (.getfield 20, 3) := by decide +kernel
theorem d_Model_owner_57 : decode prog_10_method_14_code 57 = .ok (.iload 5, 2) := by decide +kernel
theorem d_Model_owner_59 : decode prog_10_method_14_code 59 = .ok (.iaload, 1) := by decide +kernel
theorem d_Model_owner_60 : decode prog_10_method_14_code 60 = .ok (.iload_n 2, 1) := by decide +kernel
theorem d_Model_owner_61 : decode prog_10_method_14_code 61 = .ok (.invokevirtual 100, 3) := by decide +kernel
theorem d_Model_owner_64 : decode prog_10_method_14_code 64 = .ok (.ifCond .eq 11, 3) := by decide +kernel
theorem d_Model_owner_67 : decode prog_10_method_14_code 67 = .ok (.aload_n 0, 1) := by decide +kernel
theorem d_Model_owner_68 : decode prog_10_method_14_code 68 = .ok (.getfield 20, 3) := by decide +kernel
theorem d_Model_owner_71 : decode prog_10_method_14_code 71 = .ok (.iload 5, 2) := by decide +kernel
theorem d_Model_owner_73 : decode prog_10_method_14_code 73 = .ok (.iaload, 1) := by decide +kernel
theorem d_Model_owner_74 : decode prog_10_method_14_code 74 = .ok (.ireturn, 1) := by decide +kernel
theorem d_Model_owner_75 : decode prog_10_method_14_code 75 = .ok (.iinc 5 (-1), 3) := by decide +kernel
theorem d_Model_owner_78 : decode prog_10_method_14_code 78 = .ok (.goto (-31), 3) := by decide +kernel
theorem d_Model_owner_81 : decode prog_10_method_14_code 81 = .ok (.iconst (-1), 1) := by decide +kernel
theorem d_Model_owner_82 : decode prog_10_method_14_code 82 = .ok (.ireturn, 1) := by decide +kernel
theorem d_Model_parent_0 : decode prog_10_method_7_code 0 = .ok (.aload_n 0, 1) := by decide +kernel
theorem d_Model_parent_1 : decode prog_10_method_7_code 1 = .ok (.getfield 13, 3) := by decide +kernel
theorem d_Model_parent_4 : decode prog_10_method_7_code 4 = .ok (.bipush 29, 2) := by decide +kernel
theorem d_Model_parent_6 : decode prog_10_method_7_code 6 = .ok (.iload_n 1, 1) := by decide +kernel
theorem d_Model_parent_7 : decode prog_10_method_7_code 7 = .ok (.imul, 1) := by decide +kernel
theorem d_Model_parent_8 : decode prog_10_method_7_code 8 = .ok (.iconst 2, 1) := by decide +kernel
theorem d_Model_parent_9 : decode prog_10_method_7_code 9 = .ok (.iadd, 1) := by decide +kernel
theorem d_Model_parent_10 : decode prog_10_method_7_code 10 = .ok (.iload_n 2, 1) := by decide +kernel
theorem d_Model_parent_11 : decode prog_10_method_7_code 11 = .ok (.iadd, 1) := by decide +kernel
theorem d_Model_parent_12 : decode prog_10_method_7_code 12 = .ok (.iaload, 1) := by decide +kernel
theorem d_Model_parent_13 : decode prog_10_method_7_code 13 = .ok (.ireturn, 1) := by decide +kernel
theorem d_Model_parents_0 : decode prog_10_method_6_code 0 = .ok (.aload_n 0, 1) := by decide +kernel
theorem d_Model_parents_1 : decode prog_10_method_6_code 1 = .ok (.getfield 13, 3) := by decide +kernel
theorem d_Model_parents_4 : decode prog_10_method_6_code 4 = .ok (.bipush 29, 2) := by decide +kernel
theorem d_Model_parents_6 : decode prog_10_method_6_code 6 = .ok (.iload_n 1, 1) := by decide +kernel
theorem d_Model_parents_7 : decode prog_10_method_6_code 7 = .ok (.imul, 1) := by decide +kernel
theorem d_Model_parents_8 : decode prog_10_method_6_code 8 = .ok (.iconst 1, 1) := by decide +kernel
theorem d_Model_parents_9 : decode prog_10_method_6_code 9 = .ok (.iadd, 1) := by decide +kernel
theorem d_Model_parents_10 : decode prog_10_method_6_code 10 = .ok (.iaload, 1) := by decide +kernel
theorem d_Model_parents_11 : decode prog_10_method_6_code 11 = .ok (.ireturn, 1) := by decide +kernel
theorem d_Model_placeOf_0 : decode prog_10_method_8_code 0 = .ok (.bipush 29, 2) := by decide +kernel
theorem d_Model_placeOf_2 : decode prog_10_method_8_code 2 = .ok (.iload_n 1, 1) := by decide +kernel
theorem d_Model_placeOf_3 : decode prog_10_method_8_code 3 = .ok (.imul, 1) := by decide +kernel
theorem d_Model_placeOf_4 : decode prog_10_method_8_code 4 = .ok (.iconst 5, 1) := by decide +kernel
theorem d_Model_placeOf_5 : decode prog_10_method_8_code 5 = .ok (.iadd, 1) := by decide +kernel
theorem d_Model_placeOf_6 : decode prog_10_method_8_code 6 = .ok (.iconst 3, 1) := by decide +kernel
theorem d_Model_placeOf_7 : decode prog_10_method_8_code 7 = .ok (.iload_n 2, 1) := by decide +kernel
theorem d_Model_placeOf_8 : decode prog_10_method_8_code 8 = .ok (.imul, 1) := by decide +kernel
theorem d_Model_placeOf_9 : decode prog_10_method_8_code 9 = .ok (.iadd, 1) := by decide +kernel
theorem d_Model_placeOf_10 : decode prog_10_method_8_code 10 = .ok (.ireturn, 1) := by decide +kernel
theorem d_Model_point_0 : decode prog_10_method_47_code 0 = .ok (.aload_n 0, 1) := by decide +kernel
theorem d_Model_point_1 : decode prog_10_method_47_code 1 = .ok (.getfield 153, 3) := by decide +kernel
theorem d_Model_point_4 : decode prog_10_method_47_code 4 = .ok (.iconst 3, 1) := by decide +kernel
theorem d_Model_point_5 : decode prog_10_method_47_code 5 = .ok (.if_icmp .ne 20, 3) := by decide +kernel
theorem d_Model_point_8 : decode prog_10_method_47_code 8 = .ok (.aload_n 0, 1) := by decide +kernel
theorem d_Model_point_9 : decode prog_10_method_47_code 9 = .ok (.iconst 2, 1) := by decide +kernel
theorem d_Model_point_10 : decode prog_10_method_47_code 10 = .ok (.iconst 1, 1) := by decide +kernel
theorem d_Model_point_11 : decode prog_10_method_47_code 11 = .ok (.invokevirtual 229, 3) := by decide +kernel
theorem d_Model_point_14 : decode prog_10_method_47_code 14 = .ok (.aload_n 0, 1) := by decide +kernel
theorem d_Model_point_15 : decode prog_10_method_47_code 15 = .ok (.iconst 3, 1) := by decide +kernel
theorem d_Model_point_16 : decode prog_10_method_47_code 16 = .ok (.iconst 2, 1) := by decide +kernel
theorem d_Model_point_17 : decode prog_10_method_47_code 17 = .ok (.invokevirtual 229, 3) := by decide +kernel
theorem d_Model_point_20 : decode prog_10_method_47_code 20 = .ok (.aload_n 0, 1) := by decide +kernel
theorem d_Model_point_21 : decode prog_10_method_47_code 21 = .ok (.iconst 2, 1) := by decide +kernel
theorem d_Model_point_22 : decode prog_10_method_47_code 22 = .ok (.putfield 153, 3) := by decide +kernel
theorem d_Model_point_25 : decode prog_10_method_47_code 25 = .ok (.aload_n 0, 1) := by decide +kernel
theorem d_Model_point_26 : decode prog_10_method_47_code 26 = .ok (.dup, 1) := by decide +kernel
theorem d_Model_point_27 : decode prog_10_method_47_code 27 = .ok (.getfield 153, 3) := by decide +kernel
theorem d_Model_point_30 : decode prog_10_method_47_code 30 = .ok (.iconst 1, 1) := by decide +kernel
theorem d_Model_point_31 : decode prog_10_method_47_code 31 = .ok (.iadd, 1) := by decide +kernel
theorem d_Model_point_32 : decode prog_10_method_47_code 32 = .ok (.putfield 153, 3) := by decide +kernel
theorem d_Model_point_35 : decode prog_10_method_47_code 35 = .ok (.aload_n 0, 1) := by decide +kernel
theorem d_Model_point_36 : decode prog_10_method_47_code 36 = .ok (.iconst 0, 1) := by decide +kernel
theorem d_Model_point_37 : decode prog_10_method_47_code 37 = .ok (.aload_n 0, 1) := by decide +kernel
theorem d_Model_point_38 : decode prog_10_method_47_code 38 = .ok (.getfield 153, 3) := by decide +kernel
theorem d_Model_point_41 : decode prog_10_method_47_code 41 = .ok (.invokevirtual 229, 3) := by decide +kernel
theorem d_Model_point_44 : decode prog_10_method_47_code 44 = .ok (.iconst 1, 1) := by decide +kernel
theorem d_Model_point_45 : decode prog_10_method_47_code 45 = .ok (.ireturn, 1) := by decide +kernel
theorem d_Model_property_0 : decode prog_10_method_19_code 0 = .ok (.iload_n 2, 1) := by decide +kernel
theorem d_Model_property_1 : decode prog_10_method_19_code 1 = .ok (.iconst 0, 1) := by decide +kernel
theorem d_Model_property_2 : decode prog_10_method_19_code 2 = .ok (.bipush 7, 2) := by decide +kernel
theorem d_Model_property_4 : decode prog_10_method_19_code 4 = .ok (.invokestatic 78, 3) := by decide +kernel
theorem d_Model_property_7 : decode prog_10_method_19_code 7 = .ok (.ifCond .ne 47, 3) := by decide +kernel
theorem d_Model_property_10 : decode prog_10_method_19_code 10 = .ok (.iload_n 3, 1) := by decide +kernel
theorem d_Model_property_11 : decode prog_10_method_19_code 11 = .ok (.iconst (-1), 1) := by decide +kernel
theorem d_Model_property_12 : decode prog_10_method_19_code 12 = .ok (.iconst 4, 1) := by decide +kernel
theorem d_Model_property_13 : decode prog_10_method_19_code 13 = .ok (.invokestatic 78, 3) := by decide +kernel
theorem d_Model_property_16 : decode prog_10_method_19_code 16 = .ok (.ifCond .ne 38, 3) := by decide +kernel
theorem d_Model_property_19 : decode prog_10_method_19_code 19 = .ok (.iload_n 3, 1) := by decide +kernel
theorem d_Model_property_20 : decode prog_10_method_19_code 20 = .ok (.iconst 3, 1) := by decide +kernel
theorem d_Model_property_21 : decode prog_10_method_19_code 21 = .ok (.if_icmp .ne 12, 3) := by decide +kernel
theorem d_Model_property_24 : decode prog_10_method_19_code 24 = .ok (.aload_n 0, 1) := by decide +kernel
theorem d_Model_property_25 : decode prog_10_method_19_code 25 = .ok (.iload 4, 2) := by decide +kernel
theorem d_Model_property_27 : decode prog_10_method_19_code 27 = .ok (.invokevirtual 107, 3) := by decide +kernel
theorem d_Model_property_30 : decode prog_10_method_19_code 30 = .ok (.ifCond .eq 24, 3) := by decide +kernel
theorem d_Model_property_33 : decode prog_10_method_19_code 33 = .ok (.iload_n 3, 1) := by decide +kernel
theorem d_Model_property_34 : decode prog_10_method_19_code 34 = .ok (.iconst 4, 1) := by decide +kernel
theorem d_Model_property_35 : decode prog_10_method_19_code 35 = .ok (.if_icmp .ne 15, 3) := by decide +kernel
theorem d_Model_property_38 : decode prog_10_method_19_code 38 = .ok (.iload 4, 2) := by decide +kernel
theorem d_Model_property_40 : decode prog_10_method_19_code 40 = .ok (.iconst 0, 1) := by decide +kernel
theorem d_Model_property_41 : decode prog_10_method_19_code 41 = .ok (.sipush 299, 3) := by decide +kernel
theorem d_Model_property_44 : decode prog_10_method_19_code 44 = .ok (.invokestatic 78, 3) := by decide +kernel
theorem d_Model_property_47 : decode prog_10_method_19_code 47 = .ok (.ifCond .ne 7, 3) := by decide +kernel
theorem d_Model_property_50 : decode prog_10_method_19_code 50 = .ok (.iconst 1, 1) := by decide +kernel
theorem d_Model_property_51 : decode prog_10_method_19_code 51 = .ok (.goto 4, 3) := by decide +kernel
theorem d_Model_property_54 : decode prog_10_method_19_code 54 = .ok (.iconst 0, 1) := by decide +kernel
theorem d_Model_property_55 : decode prog_10_method_19_code 55 = .ok (.istore 5, 2) := by decide +kernel
theorem d_Model_property_57 : decode prog_10_method_19_code 57 = .ok (.aload_n 0, 1) := by decide +kernel
theorem d_Model_property_58 : decode prog_10_method_19_code 58 = .ok (.aload_n 0, 1) := by decide +kernel
theorem d_Model_property_59 : decode prog_10_method_19_code 59 = .ok (.iload_n 1, 1) := by decide +kernel
theorem d_Model_property_60 : decode prog_10_method_19_code 60 = .ok (.invokevirtual 107, 3) := by decide +kernel
theorem d_Model_property_63 : decode prog_10_method_19_code 63 = .ok (.ifCond .ne 7, 3) := by decide +kernel
theorem d_Model_property_66 : decode prog_10_method_19_code 66 = .ok (.iconst 1, 1) := by decide +kernel
theorem d_Model_property_67 : decode prog_10_method_19_code 67 = .ok (.goto 24, 3) := by decide +kernel
theorem d_Model_property_70 : decode prog_10_method_19_code 70 = .ok (.iload 5, 2) := by decide +kernel
theorem d_Model_property_72 : decode prog_10_method_19_code 72 = .ok (.ifCond .ne 7, 3) := by decide +kernel
theorem d_Model_property_75 : decode prog_10_method_19_code 75 = .ok (.iconst 2, 1) := by decide +kernel
theorem d_Model_property_76 : decode prog_10_method_19_code 76 = .ok (.goto 15, 3) := by decide +kernel
theorem d_Model_property_79 : decode prog_10_method_19_code 79 = .ok (.aload_n 0, 1) := by decide +kernel
theorem d_Model_property_80 : decode prog_10_method_19_code 80 = .ok (.getfield 71, 3) := by decide +kernel
theorem d_Model_property_83 : decode prog_10_method_19_code 83 = .ok (.ifCond .ne 7, 3) := by decide +kernel
theorem d_Model_property_86 : decode prog_10_method_19_code 86 = .ok (.iconst 3, 1) := by decide +kernel
theorem d_Model_property_87 : decode prog_10_method_19_code 87 = .ok (.goto 4, 3) := by decide +kernel
theorem d_Model_property_90 : decode prog_10_method_19_code 90 = .ok (.iconst 0, 1) := by decide +kernel
theorem d_Model_property_91 : decode prog_10_method_19_code 91 = .ok (.putfield 75, 3) := by decide +kernel
theorem d_Model_property_94 : decode prog_10_method_19_code 94 = .ok (.aload_n 0, 1) := by decide +kernel
theorem d_Model_property_95 : decode prog_10_method_19_code 95 = .ok (.getfield 75, 3) := by decide +kernel
theorem d_Model_property_98 : decode prog_10_method_19_code 98 = .ok (.ifCond .le 4, 3) := by decide +kernel
theorem d_Model_property_101 : decode prog_10_method_19_code 101 = .ok (.return_, 1) := by decide +kernel
theorem d_Model_property_102 : decode prog_10_method_19_code 102 = .ok (.iload_n 3, 1) := by decide +kernel
theorem d_Model_property_103 : decode prog_10_method_19_code 103 = .ok (.iconst (-1), 1) := by decide +kernel
theorem d_Model_property_104 : decode prog_10_method_19_code 104 = .ok (.if_icmp .ne 18, 3) := by decide +kernel
theorem d_Model_property_107 : decode prog_10_method_19_code 107 = .ok (.aload_n 0, 1) := by decide +kernel
theorem d_Model_property_108 : decode prog_10_method_19_code 108 = .ok (.getfield 13, 3) := by decide +kernel
theorem d_Model_property_111 : decode prog_10_method_19_code 111 = .ok (.aload_n 0, 1) := by decide +kernel
theorem d_Model_property_112 : decode prog_10_method_19_code 112 = .ok (.iload_n 1, 1) := by decide +kernel
theorem d_Model_property_113 : decode prog_10_method_19_code 113 = .ok (.iload_n 2, 1) := by decide +kernel
theorem d_Model_property_114 : decode prog_10_method_19_code 114 = .ok (.invokevirtual 82, 3) := by decide +kernel
theorem d_Model_property_117 : decode prog_10_method_19_code 117 = .ok (.iconst 0, 1) := by decide +kernel
theorem d_Model_property_118 : decode prog_10_method_19_code 118 = .ok (.iastore, 1) := by decide +kernel
theorem d_Model_property_119 : decode prog_10_method_19_code 119 = .ok (.goto 12, 3) := by decide +kernel
theorem d_Model_property_122 : decode prog_10_method_19_code 122 = .ok (.aload_n 0, 1) := by decide +kernel
theorem d_Model_property_123 : decode prog_10_method_19_code 123 = .ok (.iload_n 1, 1) := by decide +kernel
theorem d_Model_property_124 : decode prog_10_method_19_code 124 = .ok (.iload_n 2, 1) := by decide +kernel
theorem d_Model_property_125 : decode prog_10_method_19_code 125 = .ok (.iload_n 3, 1) := by decide +kernel
theorem d_Model_property_126 : decode prog_10_method_19_code 126 = .ok (.iload 4, 2) := by decide +kernel
theorem d_Model_property_128 : decode prog_10_method_19_code 128 = .ok (.invokevirtual 120, 3) := by decide +kernel
theorem d_Model_property_131 : decode prog_10_method_19_code 131 = .ok (.return_, 1) := by decide +kernel
theorem d_Model_push_0 : decode prog_10_method_28_code 0 = .ok (.aload_n 0, 1) := by decide +kernel
theorem d_Model_push_1 : decode prog_10_method_28_code 1 = .ok (.getfield 32, 3) := by decide +kernel
theorem d_Model_push_4 : decode prog_10_method_28_code 4 = .ok (.aload_n 0, 1) := by decide +kernel
theorem d_Model_push_5 : decode prog_10_method_28_code 5 = .ok (.getfield 130, 3) := by decide +kernel
theorem d_Model_push_8 : decode prog_10_method_28_code 8 = .ok (.iload_n 1, 1) := by decide +kernel
theorem d_Model_push_9 : decode prog_10_method_28_code 9 = .ok (.iastore, 1) := by decide +kernel
theorem d_Model_push_10 : decode prog_10_method_28_code 10 = .ok (.aload_n 0, 1) := by decide +kernel
theorem d_Model_push_11 : decode prog_10_method_28_code 11 = .ok (.getfield 35, 3) := by decide +kernel
theorem d_Model_push_14 : decode prog_10_method_28_code 14 = .ok (.aload_n 0, 1) := by decide +kernel
theorem d_Model_push_15 : decode prog_10_method_28_code 15 = .ok (.getfield 130, 3) := by decide +kernel
theorem d_Model_push_18 : decode prog_10_method_28_code 18 = .ok (.iload_n 1, 1) := by decide +kernel
theorem d_Model_push_19 : decode prog_10_method_28_code 19 = .ok (.iconst 2, 1) := by decide +kernel
theorem d_Model_push_20 : decode prog_10_method_28_code 20 = .ok (.if_icmp .ge 7, 3) := by decide +kernel
theorem d_Model_push_23 : decode prog_10_method_28_code 23 = .ok (.iconst 0, 1) := by decide +kernel
theorem d_Model_push_24 : decode prog_10_method_28_code 24 = .ok (.goto 4, 3) := by decide +kernel
theorem d_Model_push_27 : decode prog_10_method_28_code 27 = .ok (.iload_n 2, 1) := by decide +kernel
theorem d_Model_push_28 : decode prog_10_method_28_code 28 = .ok (.iastore, 1) := by decide +kernel
theorem d_Model_push_29 : decode prog_10_method_28_code 29 = .ok (.aload_n 0, 1) := by decide +kernel
theorem d_Model_push_30 : decode prog_10_method_28_code 30 = .ok (.dup, 1) := by decide +kernel
theorem d_Model_push_31 : decode prog_10_method_28_code 31 = .ok (.getfield 130, 3) := by decide +kernel
theorem d_Model_push_34 : decode prog_10_method_28_code 34 = .ok (.iconst 1, 1) := by decide +kernel
theorem d_Model_push_35 : decode prog_10_method_28_code 35 = .ok (.iadd, 1) := by decide +kernel
theorem d_Model_push_36 : decode prog_10_method_28_code 36 = .ok (.putfield 130, 3) := by decide +kernel
theorem d_Model_push_39 : decode prog_10_method_28_code 39 = .ok (.return_, 1) := by decide +kernel
theorem d_Model_putting_0 : decode prog_10_method_35_code 0 = .ok (.iload_n 2, 1) := by decide +kernel
theorem d_Model_putting_1 : decode prog_10_method_35_code 1 = .ok (.ifCond .ne 5, 3) := by decide +kernel
theorem d_Model_putting_4 : decode prog_10_method_35_code 4 = .ok (.iconst 1, 1) := by decide +kernel
theorem d_Model_putting_5 : decode prog_10_method_35_code 5 = .ok (.ireturn, 1) := by decide +kernel
theorem d_Model_putting_6 : decode prog_10_method_35_code 6 = .ok (.iload_n 2, 1) := by decide +kernel
theorem d_Model_putting_7 : decode prog_10_method_35_code 7 = .ok (.bipush 8, 2) := by decide +kernel
theorem d_Model_putting_9 : decode prog_10_method_35_code 9 = .ok (.if_icmp .eq 15, 3) := by decide +kernel
theorem d_Model_putting_12 : decode prog_10_method_35_code 12 = .ok (.iload_n 2, 1) := by decide +kernel
theorem d_Model_putting_13 : decode prog_10_method_35_code 13 = .ok (.bipush 10, 2) := by decide +kernel
theorem d_Model_putting_15 : decode prog_10_method_35_code 15 = .ok (.if_icmp .eq 9, 3) := by decide +kernel
theorem d_Model_putting_18 : decode prog_10_method_35_code 18 = .ok (.iload_n 2, 1) := by decide +kernel
theorem d_Model_putting_19 : decode prog_10_method_35_code 19 = .ok (.bipush 11, 2) := by decide +kernel
theorem d_Model_putting_21 : decode prog_10_method_35_code 21 = .ok (.if_icmp .ne 7, 3) := by decide +kernel
theorem d_Model_putting_24 : decode prog_10_method_35_code 24 = .ok (.iconst 1, 1) := by decide +kernel
theorem d_Model_putting_25 : decode prog_10_method_35_code 25 = .ok (.goto 4, 3) := by decide +kernel
theorem d_Model_putting_28 : decode prog_10_method_35_code 28 = .ok (.iconst 0, 1) := by decide +kernel
theorem d_Model_putting_29 : decode prog_10_method_35_code 29 = .ok (.istore 4, 2) := by decide +kernel
theorem d_Model_putting_31 : decode prog_10_method_35_code 31 = .ok (.iload_n 2, 1) := by decide +kernel
theorem d_Model_putting_32 : decode prog_10_method_35_code 32 = .ok (.bipush 7, 2) := by decide +kernel
theorem d_Model_putting_34 : decode prog_10_method_35_code 34 = .ok (.if_icmp .eq 9, 3) := by decide +kernel
theorem d_Model_putting_37 : decode prog_10_method_35_code 37 = .ok (.iload_n 2, 1) := by decide +kernel
theorem d_Model_putting_38 : decode prog_10_method_35_code 38 = .ok (.bipush 8, 2) := by decide +kernel
theorem d_Model_putting_40 : decode prog_10_method_35_code 40 = .ok (.if_icmp .ne 7, 3) := by decide +kernel
theorem d_Model_putting_43 : decode prog_10_method_35_code 43 = .ok (.iconst 1, 1) := by decide +kernel
theorem d_Model_putting_44 : decode prog_10_method_35_code 44 = .ok (.goto 4, 3) := by decide +kernel
theorem d_Model_putting_47 : decode prog_10_method_35_code 47 = .ok (.iconst 0, 1) := by decide +kernel
theorem d_Model_putting_48 : decode prog_10_method_35_code 48 = .ok (.istore 5, 2) := by decide +kernel
theorem d_Model_putting_50 : decode prog_10_method_35_code 50 = .ok (.iload 4, 2) := by decide +kernel
theorem d_Model_putting_52 : decode prog_10_method_35_code 52 = .ok (.ifCond .eq 11, 3) := by decide +kernel
theorem d_Model_putting_55 : decode prog_10_method_35_code 55 = .ok (.aload_n 0, 1) := by decide +kernel
theorem d_Model_putting_56 : decode prog_10_method_35_code 56 = .ok (.invokevirtual 181, 3) := by decide +kernel
theorem d_Model_putting_59 : decode prog_10_method_35_code 59 = .ok (.iconst 1, 1) := by decide +kernel
theorem d_Model_putting_60 : decode prog_10_method_35_code 60 = .ok (.if_icmp .lt 60, 3) := by decide +kernel
theorem d_Model_putting_63 : decode prog_10_method_35_code 63 = .ok (.iload 5, 2) := by decide +kernel
theorem d_Model_putting_65 : decode prog_10_method_35_code 65 = .ok (.ifCond .eq 17, 3) := by decide +kernel
theorem d_Model_putting_68 : decode prog_10_method_35_code 68 = .ok (.aload_n 0, 1) := by decide +kernel
theorem d_Model_putting_69 : decode prog_10_method_35_code 69 = .ok (.iload_n 3, 1) := by decide +kernel
theorem d_Model_putting_70 : decode prog_10_method_35_code 70 = .ok (.invokevirtual 124, 3) := by decide +kernel
theorem d_Model_putting_73 : decode prog_10_method_35_code 73 = .ok (.aload_n 0, 1) := by decide +kernel
theorem d_Model_putting_74 : decode prog_10_method_35_code 74 = .ok (.getfield 50, 3) := by decide +kernel
theorem d_Model_putting_77 : decode prog_10_method_35_code 77 = .ok (.iload_n 1, 1) := by decide +kernel
theorem d_Model_putting_78 : decode prog_10_method_35_code 78 = .ok (.iaload, 1) := by decide +kernel
theorem d_Model_putting_79 : decode prog_10_method_35_code 79 = .ok (.if_icmp .ge 41, 3) := by decide +kernel
theorem d_Model_putting_82 : decode prog_10_method_35_code 82 = .ok (.iload_n 2, 1) := by decide +kernel
theorem d_Model_putting_83 : decode prog_10_method_35_code 83 = .ok (.bipush 8, 2) := by decide +kernel
theorem d_Model_putting_85 : decode prog_10_method_35_code 85 = .ok (.if_icmp .eq 18, 3) := by decide +kernel
theorem d_Model_putting_88 : decode prog_10_method_35_code 88 = .ok (.iload_n 2, 1) := by decide +kernel
theorem d_Model_putting_89 : decode prog_10_method_35_code 89 = .ok (.bipush 11, 2) := by decide +kernel
theorem d_Model_putting_91 : decode prog_10_method_35_code 91 = .ok (.if_icmp .eq 12, 3) := by decide +kernel
theorem d_Model_putting_94 : decode prog_10_method_35_code 94 = .ok (.aload_n 0, 1) := by decide +kernel
theorem d_Model_putting_95 : decode prog_10_method_35_code 95 = .ok (.getfield 130, 3) := by decide +kernel
theorem d_Model_putting_98 : decode prog_10_method_35_code 98 = .ok (.bipush 40, 2) := by decide +kernel
theorem d_Model_putting_100 : decode prog_10_method_35_code 100 = .ok (.if_icmp .eq 20, 3) := by decide +kernel
theorem d_Model_putting_103 : decode prog_10_method_35_code 103 = .ok (.iload_n 2, 1) := by decide +kernel
theorem d_Model_putting_104 : decode prog_10_method_35_code 104 = .ok (.iconst 5, 1) := by decide +kernel
theorem d_Model_putting_105 : decode prog_10_method_35_code 105 = .ok (.if_icmp .ne 17, 3) := by decide +kernel
theorem d_Model_putting_108 : decode prog_10_method_35_code 108 = .ok (.aload_n 0, 1) := by decide +kernel
theorem d_Model_putting_109 : decode prog_10_method_35_code 109 = .ok (.aload_n 0, 1) := by decide +kernel
theorem d_Model_putting_110 : decode prog_10_method_35_code 110 = .ok (.iload_n 3, 1) := by decide +kernel
theorem d_Model_putting_111 : decode prog_10_method_35_code 111 = .ok (.invokevirtual 124, 3) := by decide +kernel
theorem d_Model_putting_114 : decode prog_10_method_35_code 114 = .ok (.invokevirtual 107, 3) := by decide +kernel
theorem d_Model_putting_117 : decode prog_10_method_35_code 117 = .ok (.ifCond .ne 5, 3) := by decide +kernel
theorem d_Model_putting_120 : decode prog_10_method_35_code 120 = .ok (.iconst 0, 1) := by decide +kernel
theorem d_Model_putting_121 : decode prog_10_method_35_code 121 = .ok (.ireturn, 1) := by decide +kernel
theorem d_Model_putting_122 : decode prog_10_method_35_code 122 = .ok (.aload_n 0, 1) := by decide +kernel
theorem d_Model_putting_123 : decode prog_10_method_35_code 123 = .ok (.getfield 47, 3) := by decide +kernel
theorem d_Model_putting_126 : decode prog_10_method_35_code 126 = .ok (.iload_n 1, 1) := by decide +kernel
theorem d_Model_putting_127 : decode prog_10_method_35_code 127 = .ok (.iaload, 1) := by decide +kernel
theorem d_Model_putting_128 : decode prog_10_method_35_code 128 = .ok (.aload_n 0, 1) := by decide +kernel
theorem d_Model_putting_129 : decode prog_10_method_35_code 129 = .ok (.iload_n 3, 1) := by decide +kernel
theorem d_Model_putting_130 : decode prog_10_method_35_code 130 = .ok (.invokevirtual 124, 3) := by decide +kernel
theorem d_Model_putting_133 : decode prog_10_method_35_code 133 = .ok (.iadd, 1) := by decide +kernel
theorem d_Model_putting_134 : decode prog_10_method_35_code 134 = .ok (.istore 6, 2) := by decide +kernel
theorem d_Model_putting_136 : decode prog_10_method_35_code 136 = .ok (.aload_n 0, 1) := by decide +kernel
theorem d_Model_putting_137 : decode prog_10_method_35_code 137 = .ok (.getfield 130, 3) := by decide +kernel
theorem d_Model_putting_140 : decode prog_10_method_35_code 140 = .ok (.iconst 1, 1) := by decide +kernel
theorem d_Model_putting_141 : decode prog_10_method_35_code 141 = .ok (.isub, 1) := by decide +kernel
theorem d_Model_putting_142 : decode prog_10_method_35_code 142 = .ok (.istore 7, 2) := by decide +kernel
theorem d_Model_putting_144 : decode prog_10_method_35_code 144 = .ok (.iload_n 2, 1) := by decide +kernel
theorem d_Model_putting_145 : decode prog_10_method_35_code 145 = .ok (.tableswitch 247 1 10 #[55, 68, 92, 101, 110, 123, 136, 157, 198, 226], 55) := by decide +kernel
theorem d_Model_putting_200 : decode prog_10_method_35_code 200 = .ok (.aload_n 0, 1) := by decide +kernel
theorem d_Model_putting_201 : decode prog_10_method_35_code 201 = .ok (.iconst 2, 1) := by decide +kernel
theorem d_Model_putting_202 : decode prog_10_method_35_code 202 = .ok (.aload_n 0, 1) := by decide +kernel
theorem d_Model_putting_203 : decode prog_10_method_35_code 203 = .ok (.iload_n 3, 1) := by decide +kernel
theorem d_Model_putting_204 : decode prog_10_method_35_code 204 = .ok (.invokevirtual 185, 3) := by decide +kernel
theorem d_Model_putting_207 : decode prog_10_method_35_code 207 = .ok (.invokevirtual 133, 3) := by decide +kernel
theorem d_Model_putting_210 : decode prog_10_method_35_code 210 = .ok (.goto 192, 3) := by decide +kernel
theorem d_Model_putting_213 : decode prog_10_method_35_code 213 = .ok (.aload_n 0, 1) := by decide +kernel
theorem d_Model_putting_214 : decode prog_10_method_35_code 214 = .ok (.iconst 2, 1) := by decide +kernel
theorem d_Model_putting_215 : decode prog_10_method_35_code 215 = .ok (.aload_n 0, 1) := by decide +kernel
theorem d_Model_putting_216 : decode prog_10_method_35_code 216 = .ok (.iload_n 3, 1) := by decide +kernel
theorem d_Model_putting_217 : decode prog_10_method_35_code 217 = .ok (.invokevirtual 188, 3) := by decide +kernel
theorem d_Model_putting_220 : decode prog_10_method_35_code 220 = .ok (.bipush 16, 2) := by decide +kernel
theorem d_Model_putting_222 : decode prog_10_method_35_code 222 = .ok (.ishl, 1) := by decide +kernel
theorem d_Model_putting_223 : decode prog_10_method_35_code 223 = .ok (.aload_n 0, 1) := by decide +kernel
theorem d_Model_putting_224 : decode prog_10_method_35_code 224 = .ok (.iload_n 3, 1) := by decide +kernel
theorem d_Model_putting_225 : decode prog_10_method_35_code 225 = .ok (.iconst 2, 1) := by decide +kernel
theorem d_Model_putting_226 : decode prog_10_method_35_code 226 = .ok (.iadd, 1) := by decide +kernel
theorem d_Model_putting_227 : decode prog_10_method_35_code 227 = .ok (.invokevirtual 188, 3) := by decide +kernel
theorem d_Model_putting_230 : decode prog_10_method_35_code 230 = .ok (.ior, 1) := by decide +kernel
theorem d_Model_putting_231 : decode prog_10_method_35_code 231 = .ok (.invokevirtual 133, 3) := by decide +kernel
theorem d_Model_putting_234 : decode prog_10_method_35_code 234 = .ok (.goto 168, 3) := by decide +kernel
theorem d_Model_putting_237 : decode prog_10_method_35_code 237 = .ok (.aload_n 0, 1) := by decide +kernel
theorem d_Model_putting_238 : decode prog_10_method_35_code 238 = .ok (.iconst 0, 1) := by decide +kernel
theorem d_Model_putting_239 : decode prog_10_method_35_code 239 = .ok (.iconst 0, 1) := by decide +kernel
theorem d_Model_putting_240 : decode prog_10_method_35_code 240 = .ok (.invokevirtual 133, 3) := by decide +kernel
theorem d_Model_putting_243 : decode prog_10_method_35_code 243 = .ok (.goto 159, 3) := by decide +kernel
theorem d_Model_putting_246 : decode prog_10_method_35_code 246 = .ok (.aload_n 0, 1) := by decide +kernel
theorem d_Model_putting_247 : decode prog_10_method_35_code 247 = .ok (.iconst 1, 1) := by decide +kernel
theorem d_Model_putting_248 : decode prog_10_method_35_code 248 = .ok (.iconst 0, 1) := by decide +kernel
theorem d_Model_putting_249 : decode prog_10_method_35_code 249 = .ok (.invokevirtual 133, 3) := by decide +kernel
theorem d_Model_putting_252 : decode prog_10_method_35_code 252 = .ok (.goto 150, 3) := by decide +kernel
theorem d_Model_putting_255 : decode prog_10_method_35_code 255 = .ok (.aload_n 0, 1) := by decide +kernel
theorem d_Model_putting_256 : decode prog_10_method_35_code 256 = .ok (.iconst 3, 1) := by decide +kernel
theorem d_Model_putting_257 : decode prog_10_method_35_code 257 = .ok (.aload_n 0, 1) := by decide +kernel
theorem d_Model_putting_258 : decode prog_10_method_35_code 258 = .ok (.iload_n 3, 1) := by decide +kernel
theorem d_Model_putting_259 : decode prog_10_method_35_code 259 = .ok (.invokevirtual 124, 3) := by decide +kernel
theorem d_Model_putting_262 : decode prog_10_method_35_code 262 = .ok (.invokevirtual 133, 3) := by decide +kernel
theorem d_Model_putting_265 : decode prog_10_method_35_code 265 = .ok (.goto 137, 3) := by decide +kernel
theorem d_Model_putting_268 : decode prog_10_method_35_code 268 = .ok (.aload_n 0, 1) := by decide +kernel
theorem d_Model_putting_269 : decode prog_10_method_35_code 269 = .ok (.iconst 4, 1) := by decide +kernel
theorem d_Model_putting_270 : decode prog_10_method_35_code 270 = .ok (.aload_n 0, 1) := by decide +kernel
theorem d_Model_putting_271 : decode prog_10_method_35_code 271 = .ok (.iload_n 3, 1) := by decide +kernel
theorem d_Model_putting_272 : decode prog_10_method_35_code 272 = .ok (.invokevirtual 188, 3) := by decide +kernel
theorem d_Model_putting_275 : decode prog_10_method_35_code 275 = .ok (.invokevirtual 133, 3) := by decide +kernel
theorem d_Model_putting_278 : decode prog_10_method_35_code 278 = .ok (.goto 124, 3) := by decide +kernel
theorem d_Model_putting_281 : decode prog_10_method_35_code 281 = .ok (.aload_n 0, 1) := by decide +kernel
theorem d_Model_putting_282 : decode prog_10_method_35_code 282 = .ok (.aload_n 0, 1) := by decide +kernel
theorem d_Model_putting_283 : decode prog_10_method_35_code 283 = .ok (.getfield 32, 3) := by decide +kernel
theorem d_Model_putting_286 : decode prog_10_method_35_code 286 = .ok (.iload 6, 2) := by decide +kernel
theorem d_Model_putting_288 : decode prog_10_method_35_code 288 = .ok (.iaload, 1) := by decide +kernel
theorem d_Model_putting_289 : decode prog_10_method_35_code 289 = .ok (.aload_n 0, 1) := by decide +kernel
theorem d_Model_putting_290 : decode prog_10_method_35_code 290 = .ok (.getfield 35, 3) := by decide +kernel
theorem d_Model_putting_293 : decode prog_10_method_35_code 293 = .ok (.iload 6, 2) := by decide +kernel
theorem d_Model_putting_295 : decode prog_10_method_35_code 295 = .ok (.iaload, 1) := by decide +kernel
theorem d_Model_putting_296 : decode prog_10_method_35_code 296 = .ok (.invokevirtual 133, 3) := by decide +kernel
theorem d_Model_putting_299 : decode prog_10_method_35_code 299 = .ok (.goto 103, 3) := by decide +kernel
theorem d_Model_putting_302 : decode prog_10_method_35_code 302 = .ok (.aload_n 0, 1) := by decide +kernel
theorem d_Model_putting_303 : decode prog_10_method_35_code 303 = .ok (.getfield 32, 3) := by decide +kernel
theorem d_Model_putting_306 : decode prog_10_method_35_code 306 = .ok (.iload 6, 2) := by decide +kernel
theorem d_Model_putting_308 : decode prog_10_method_35_code 308 = .ok (.aload_n 0, 1) := by decide +kernel
theorem d_Model_putting_309 : decode prog_10_method_35_code 309 = .ok (.getfield 32, 3) := by decide +kernel
theorem d_Model_putting_312 : decode prog_10_method_35_code 312 = .ok (.iload 7, 2) := by decide +kernel
theorem d_Model_putting_314 : decode prog_10_method_35_code 314 = .ok (.iaload, 1) := by decide +kernel
theorem d_Model_putting_315 : decode prog_10_method_35_code 315 = .ok (.iastore, 1) := by decide +kernel
theorem d_Model_putting_316 : decode prog_10_method_35_code 316 = .ok (.aload_n 0, 1) := by decide +kernel
theorem d_Model_putting_317 : decode prog_10_method_35_code 317 = .ok (.getfield 35, 3) := by decide +kernel
theorem d_Model_putting_320 : decode prog_10_method_35_code 320 = .ok (.iload 6, 2) := by decide +kernel
theorem d_Model_putting_322 : decode prog_10_method_35_code 322 = .ok (.aload_n 0, 1) := by decide +kernel
theorem d_Model_putting_323 : decode prog_10_method_35_code 323 = .ok (.getfield 35, 3) := by decide +kernel
theorem d_Model_putting_326 : decode prog_10_method_35_code 326 = .ok (.iload 7, 2) := by decide +kernel
theorem d_Model_putting_328 : decode prog_10_method_35_code 328 = .ok (.iaload, 1) := by decide +kernel
theorem d_Model_putting_329 : decode prog_10_method_35_code 329 = .ok (.iastore, 1) := by decide +kernel
theorem d_Model_putting_330 : decode prog_10_method_35_code 330 = .ok (.aload_n 0, 1) := by decide +kernel
theorem d_Model_putting_331 : decode prog_10_method_35_code 331 = .ok (.dup, 1) := by decide +kernel
theorem d_Model_putting_332 : decode prog_10_method_35_code 332 = .ok (.getfield 130, 3) := by decide +kernel
theorem d_Model_putting_335 : decode prog_10_method_35_code 335 = .ok (.iconst 1, 1) := by decide +kernel
theorem d_Model_putting_336 : decode prog_10_method_35_code 336 = .ok (.isub, 1) := by decide +kernel
theorem d_Model_putting_337 : decode prog_10_method_35_code 337 = .ok (.putfield 130, 3) := by decide +kernel
theorem d_Model_putting_340 : decode prog_10_method_35_code 340 = .ok (.goto 62, 3) := by decide +kernel
theorem d_Model_putting_343 : decode prog_10_method_35_code 343 = .ok (.aload_n 0, 1) := by decide +kernel
theorem d_Model_putting_344 : decode prog_10_method_35_code 344 = .ok (.aload_n 0, 1) := by decide +kernel
theorem d_Model_putting_345 : decode prog_10_method_35_code 345 = .ok (.getfield 53, 3) := by decide +kernel
theorem d_Model_putting_348 : decode prog_10_method_35_code 348 = .ok (.iload_n 1, 1) := by decide +kernel
theorem d_Model_putting_349 : decode prog_10_method_35_code 349 = .ok (.iaload, 1) := by decide +kernel
theorem d_Model_putting_350 : decode prog_10_method_35_code 350 = .ok (.iconst (-1), 1) := by decide +kernel
theorem d_Model_putting_351 : decode prog_10_method_35_code 351 = .ok (.if_icmp .ne 7, 3) := by decide +kernel
theorem d_Model_putting_354 : decode prog_10_method_35_code 354 = .ok (.iconst 0, 1) := by decide +kernel
theorem d_Model_putting_355 : decode prog_10_method_35_code 355 = .ok (.goto 4, 3) := by decide +kernel
theorem d_Model_putting_358 : decode prog_10_method_35_code 358 = .ok (.iconst 3, 1) := by decide +kernel
theorem d_Model_putting_359 : decode prog_10_method_35_code 359 = .ok (.aload_n 0, 1) := by decide +kernel
theorem d_Model_putting_360 : decode prog_10_method_35_code 360 = .ok (.getfield 53, 3) := by decide +kernel
theorem d_Model_putting_363 : decode prog_10_method_35_code 363 = .ok (.iload_n 1, 1) := by decide +kernel
theorem d_Model_putting_364 : decode prog_10_method_35_code 364 = .ok (.iaload, 1) := by decide +kernel
theorem d_Model_putting_365 : decode prog_10_method_35_code 365 = .ok (.invokevirtual 133, 3) := by decide +kernel
theorem d_Model_putting_368 : decode prog_10_method_35_code 368 = .ok (.goto 34, 3) := by decide +kernel
theorem d_Model_putting_371 : decode prog_10_method_35_code 371 = .ok (.aload_n 0, 1) := by decide +kernel
theorem d_Model_putting_372 : decode prog_10_method_35_code 372 = .ok (.aload_n 0, 1) := by decide +kernel
theorem d_Model_putting_373 : decode prog_10_method_35_code 373 = .ok (.getfield 32, 3) := by decide +kernel
theorem d_Model_putting_376 : decode prog_10_method_35_code 376 = .ok (.iload 7, 2) := by decide +kernel
theorem d_Model_putting_378 : decode prog_10_method_35_code 378 = .ok (.iaload, 1) := by decide +kernel
theorem d_Model_putting_379 : decode prog_10_method_35_code 379 = .ok (.aload_n 0, 1) := by decide +kernel
theorem d_Model_putting_380 : decode prog_10_method_35_code 380 = .ok (.getfield 35, 3) := by decide +kernel
theorem d_Model_putting_383 : decode prog_10_method_35_code 383 = .ok (.iload 7, 2) := by decide +kernel
theorem d_Model_putting_385 : decode prog_10_method_35_code 385 = .ok (.iaload, 1) := by decide +kernel
theorem d_Model_putting_386 : decode prog_10_method_35_code 386 = .ok (.invokevirtual 133, 3) := by decide +kernel
theorem d_Model_putting_389 : decode prog_10_method_35_code 389 = .ok (.goto 13, 3) := by decide +kernel
theorem d_Model_putting_392 : decode prog_10_method_35_code 392 = .ok (.aload_n 0, 1) := by decide +kernel
theorem d_Model_putting_393 : decode prog_10_method_35_code 393 = .ok (.dup, 1) := by decide +kernel
theorem d_Model_putting_394 : decode prog_10_method_35_code 394 = .ok (.getfield 130, 3) := by decide +kernel
theorem d_Model_putting_397 : decode prog_10_method_35_code 397 = .ok (.iconst 1, 1) := by decide +kernel
theorem d_Model_putting_398 : decode prog_10_method_35_code 398 = .ok (.isub, 1) := by decide +kernel
theorem d_Model_putting_399 : decode prog_10_method_35_code 399 = .ok (.putfield 130, 3) := by decide +kernel
theorem d_Model_putting_402 : decode prog_10_method_35_code 402 = .ok (.iconst 1, 1) := by decide +kernel
theorem d_Model_putting_403 : decode prog_10_method_35_code 403 = .ok (.ireturn, 1) := by decide +kernel
theorem d_Model_reckoning_0 : decode prog_10_method_37_code 0 = .ok (.iload_n 1, 1) := by decide +kernel
theorem d_Model_reckoning_1 : decode prog_10_method_37_code 1 = .ok (.bipush 18, 2) := by decide +kernel
theorem d_Model_reckoning_3 : decode prog_10_method_37_code 3 = .ok (.if_icmp .ne 7, 3) := by decide +kernel
theorem d_Model_reckoning_6 : decode prog_10_method_37_code 6 = .ok (.iconst 1, 1) := by decide +kernel
theorem d_Model_reckoning_7 : decode prog_10_method_37_code 7 = .ok (.goto 4, 3) := by decide +kernel
theorem d_Model_reckoning_10 : decode prog_10_method_37_code 10 = .ok (.iconst 2, 1) := by decide +kernel
theorem d_Model_reckoning_11 : decode prog_10_method_37_code 11 = .ok (.istore_n 2, 1) := by decide +kernel
theorem d_Model_reckoning_12 : decode prog_10_method_37_code 12 = .ok (.aload_n 0, 1) := by decide +kernel
theorem d_Model_reckoning_13 : decode prog_10_method_37_code 13 = .ok (.invokevirtual 181, 3) := by decide +kernel
theorem d_Model_reckoning_16 : decode prog_10_method_37_code 16 = .ok (.iload_n 2, 1) := by decide +kernel
theorem d_Model_reckoning_17 : decode prog_10_method_37_code 17 = .ok (.if_icmp .ge 5, 3) := by decide +kernel
theorem d_Model_reckoning_20 : decode prog_10_method_37_code 20 = .ok (.iconst 0, 1) := by decide +kernel
theorem d_Model_reckoning_21 : decode prog_10_method_37_code 21 = .ok (.ireturn, 1) := by decide +kernel
theorem d_Model_reckoning_22 : decode prog_10_method_37_code 22 = .ok (.aload_n 0, 1) := by decide +kernel
theorem d_Model_reckoning_23 : decode prog_10_method_37_code 23 = .ok (.getfield 130, 3) := by decide +kernel
theorem d_Model_reckoning_26 : decode prog_10_method_37_code 26 = .ok (.iconst 1, 1) := by decide +kernel
theorem d_Model_reckoning_27 : decode prog_10_method_37_code 27 = .ok (.isub, 1) := by decide +kernel
theorem d_Model_reckoning_28 : decode prog_10_method_37_code 28 = .ok (.istore_n 3, 1) := by decide +kernel
theorem d_Model_reckoning_29 : decode prog_10_method_37_code 29 = .ok (.aload_n 0, 1) := by decide +kernel
theorem d_Model_reckoning_30 : decode prog_10_method_37_code 30 = .ok (.getfield 130, 3) := by decide +kernel
theorem d_Model_reckoning_33 : decode prog_10_method_37_code 33 = .ok (.iload_n 2, 1) := by decide +kernel
theorem d_Model_reckoning_34 : decode prog_10_method_37_code 34 = .ok (.isub, 1) := by decide +kernel
theorem d_Model_reckoning_35 : decode prog_10_method_37_code 35 = .ok (.istore 4, 2) := by decide +kernel
theorem d_Model_reckoning_37 : decode prog_10_method_37_code 37 = .ok (.iload_n 1, 1) := by decide +kernel
theorem d_Model_reckoning_38 : decode prog_10_method_37_code 38 = .ok (.bipush 17, 2) := by decide +kernel
theorem d_Model_reckoning_40 : decode prog_10_method_37_code 40 = .ok (.if_icmp .eq 9, 3) := by decide +kernel
theorem d_Model_reckoning_43 : decode prog_10_method_37_code 43 = .ok (.iload_n 1, 1) := by decide +kernel
theorem d_Model_reckoning_44 : decode prog_10_method_37_code 44 = .ok (.bipush 18, 2) := by decide +kernel
theorem d_Model_reckoning_46 : decode prog_10_method_37_code 46 = .ok (.if_icmp .ne 73, 3) := by decide +kernel
theorem d_Model_reckoning_49 : decode prog_10_method_37_code 49 = .ok (.iload_n 1, 1) := by decide +kernel
theorem d_Model_reckoning_50 : decode prog_10_method_37_code 50 = .ok (.bipush 18, 2) := by decide +kernel
theorem d_Model_reckoning_52 : decode prog_10_method_37_code 52 = .ok (.if_icmp .ne 11, 3) := by decide +kernel
theorem d_Model_reckoning_55 : decode prog_10_method_37_code 55 = .ok (.aload_n 0, 1) := by decide +kernel
theorem d_Model_reckoning_56 : decode prog_10_method_37_code 56 = .ok (.iload_n 3, 1) := by decide +kernel
theorem d_Model_reckoning_57 : decode prog_10_method_37_code 57 = .ok (.invokevirtual 191, 3) := by decide +kernel
theorem d_Model_reckoning_60 : decode prog_10_method_37_code 60 = .ok (.goto 40, 3) := by decide +kernel
theorem d_Model_reckoning_63 : decode prog_10_method_37_code 63 = .ok (.aload_n 0, 1) := by decide +kernel
theorem d_Model_reckoning_64 : decode prog_10_method_37_code 64 = .ok (.getfield 32, 3) := by decide +kernel
theorem d_Model_reckoning_67 : decode prog_10_method_37_code 67 = .ok (.iload 4, 2) := by decide +kernel
theorem d_Model_reckoning_69 : decode prog_10_method_37_code 69 = .ok (.iaload, 1) := by decide +kernel
theorem d_Model_reckoning_70 : decode prog_10_method_37_code 70 = .ok (.aload_n 0, 1) := by decide +kernel
theorem d_Model_reckoning_71 : decode prog_10_method_37_code 71 = .ok (.getfield 32, 3) := by decide +kernel
theorem d_Model_reckoning_74 : decode prog_10_method_37_code 74 = .ok (.iload_n 3, 1) := by decide +kernel
theorem d_Model_reckoning_75 : decode prog_10_method_37_code 75 = .ok (.iaload, 1) := by decide +kernel
