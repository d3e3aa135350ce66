theorem d_Model_outside_0 : decode prog_10_method_4_code 0 = .ok (.iload_n 0, 1) := by decide +kernel
theorem d_Model_outside_1 : decode prog_10_method_4_code 1 = .ok (.iload_n 1, 1) := by decide +kernel
theorem d_Model_outside_2 : decode prog_10_method_4_code 2 = .ok (.if_icmp .lt 8, 3) := by decide +kernel
theorem d_Model_outside_10 : decode prog_10_method_4_code 10 = .ok (.iconst 1, 1) := by decide +kernel
theorem d_Model_outside_11 : decode prog_10_method_4_code 11 = .ok (.goto 4, 3) := by decide +kernel
theorem d_Model_outside_15 : decode prog_10_method_4_code 15 = .ok (.ireturn, 1) := by decide +kernel
theorem d_Model_outside_5 : decode prog_10_method_4_code 5 = .ok (.iload_n 0, 1) := by decide +kernel
theorem d_Model_outside_6 : decode prog_10_method_4_code 6 = .ok (.iload_n 2, 1) := by decide +kernel
theorem d_Model_outside_7 : decode prog_10_method_4_code 7 = .ok (.if_icmp .le 7, 3) := by decide +kernel
theorem d_Model_outside_14 : decode prog_10_method_4_code 14 = .ok (.iconst 0, 1) := by decide +kernel
theorem d_Model_thrown_0 : decode prog_10_method_2_code 0 = .ok (.aload_n 0, 1) := by decide +kernel
theorem d_Model_thrown_1 : decode prog_10_method_2_code 1 = .ok (.getfield 75, 3) := by decide +kernel
theorem d_Model_thrown_4 : decode prog_10_method_2_code 4 = .ok (.ireturn, 1) := by decide +kernel
theorem d_Model_refuse_0 : decode prog_10_method_3_code 0 = .ok (.aload_n 0, 1) := by decide +kernel
theorem d_Model_refuse_1 : decode prog_10_method_3_code 1 = .ok (.iload_n 1, 1) := by decide +kernel
theorem d_Model_refuse_2 : decode prog_10_method_3_code 2 = .ok (.putfield 75, 3) := by decide +kernel
theorem d_Model_refuse_5 : decode prog_10_method_3_code 5 = .ok (.iconst 0, 1) := by decide +kernel
theorem d_Model_refuse_6 : decode prog_10_method_3_code 6 = .ok (.ireturn, 1) := by decide +kernel
theorem d_Model_isThere_0 : decode prog_10_method_5_code 0 = .ok (.iload_n 1, 1) := by decide +kernel
theorem d_Model_isThere_1 : decode prog_10_method_5_code 1 = .ok (.iconst 0, 1) := by decide +kernel
theorem d_Model_isThere_2 : decode prog_10_method_5_code 2 = .ok (.bipush 31, 2) := by decide +kernel
theorem d_Model_isThere_4 : decode prog_10_method_5_code 4 = .ok (.invokestatic 78, 3) := by decide +kernel
theorem d_Model_isThere_7 : decode prog_10_method_5_code 7 = .ok (.ifCond .ne 20, 3) := by decide +kernel
theorem d_Model_isThere_27 : decode prog_10_method_5_code 27 = .ok (.iconst 0, 1) := by decide +kernel
theorem d_Model_isThere_28 : decode prog_10_method_5_code 28 = .ok (.ireturn, 1) := by decide +kernel
theorem d_Model_isThere_10 : decode prog_10_method_5_code 10 = .ok (.aload_n 0, 1) := by decide +kernel
theorem d_Model_isThere_11 : decode prog_10_method_5_code 11 = .ok (.getfield 13, 3) := by decide +kernel
theorem d_Model_isThere_14 : decode prog_10_method_5_code 14 = .ok (.bipush 29, 2) := by decide +kernel
theorem d_Model_isThere_16 : decode prog_10_method_5_code 16 = .ok (.iload_n 1, 1) := by decide +kernel
theorem d_Model_isThere_17 : decode prog_10_method_5_code 17 = .ok (.imul, 1) := by decide +kernel
theorem d_Model_isThere_18 : decode prog_10_method_5_code 18 = .ok (.iaload, 1) := by decide +kernel
theorem d_Model_isThere_19 : decode prog_10_method_5_code 19 = .ok (.iconst 1, 1) := by decide +kernel
theorem d_Model_isThere_20 : decode prog_10_method_5_code 20 = .ok (.if_icmp .ne 7, 3) := by decide +kernel
theorem d_Model_isParent_0 : decode prog_10_method_17_code 0 = .ok (.iload_n 1, 1) := by decide +kernel
theorem d_Model_isParent_1 : decode prog_10_method_17_code 1 = .ok (.iconst (-1), 1) := by decide +kernel
theorem d_Model_isParent_2 : decode prog_10_method_17_code 2 = .ok (.if_icmp .eq 21, 3) := by decide +kernel
theorem d_Model_isParent_23 : decode prog_10_method_17_code 23 = .ok (.iconst 1, 1) := by decide +kernel
theorem d_Model_isParent_24 : decode prog_10_method_17_code 24 = .ok (.goto 4, 3) := by decide +kernel
theorem d_Model_isParent_28 : decode prog_10_method_17_code 28 = .ok (.ireturn, 1) := by decide +kernel
theorem d_Model_isParent_5 : decode prog_10_method_17_code 5 = .ok (.iload_n 1, 1) := by decide +kernel
theorem d_Model_isParent_6 : decode prog_10_method_17_code 6 = .ok (.iconst 0, 1) := by decide +kernel
theorem d_Model_isParent_7 : decode prog_10_method_17_code 7 = .ok (.bipush 15, 2) := by decide +kernel
theorem d_Model_isParent_9 : decode prog_10_method_17_code 9 = .ok (.invokestatic 78, 3) := by decide +kernel
theorem d_Model_isParent_12 : decode prog_10_method_17_code 12 = .ok (.ifCond .ne 15, 3) := by decide +kernel
theorem d_Model_isParent_27 : decode prog_10_method_17_code 27 = .ok (.iconst 0, 1) := by decide +kernel
theorem d_Model_isParent_15 : decode prog_10_method_17_code 15 = .ok (.aload_n 0, 1) := by decide +kernel
theorem d_Model_isParent_16 : decode prog_10_method_17_code 16 = .ok (.iload_n 1, 1) := by decide +kernel
theorem d_Model_isParent_17 : decode prog_10_method_17_code 17 = .ok (.invokevirtual 107, 3) := by decide +kernel
theorem d_Model_isParent_20 : decode prog_10_method_17_code 20 = .ok (.ifCond .eq 7, 3) := by decide +kernel
theorem d_Model_placeOf_0 : decode prog_10_method_8_code 0 = .ok (.bipush 29, 2) := by decide +kernel
theorem d_Model_placeOf_2 : decode prog_10_method_8_code 2 = .ok (.iload_n 1, 1) := by decide +kernel
theorem d_Model_placeOf_3 : decode prog_10_method_8_code 3 = .ok (.imul, 1) := by decide +kernel
theorem d_Model_placeOf_4 : decode prog_10_method_8_code 4 = .ok (.iconst 5, 1) := by decide +kernel
theorem d_Model_placeOf_5 : decode prog_10_method_8_code 5 = .ok (.iadd, 1) := by decide +kernel
theorem d_Model_placeOf_6 : decode prog_10_method_8_code 6 = .ok (.iconst 3, 1) := by decide +kernel
theorem d_Model_placeOf_7 : decode prog_10_method_8_code 7 = .ok (.iload_n 2, 1) := by decide +kernel
theorem d_Model_placeOf_8 : decode prog_10_method_8_code 8 = .ok (.imul, 1) := by decide +kernel
theorem d_Model_placeOf_9 : decode prog_10_method_8_code 9 = .ok (.iadd, 1) := by decide +kernel
theorem d_Model_placeOf_10 : decode prog_10_method_8_code 10 = .ok (.ireturn, 1) := by decide +kernel
theorem d_Model_empty_0 : decode prog_10_method_11_code 0 = .ok (.aload_n 0, 1) := by decide +kernel
theorem d_Model_empty_1 : decode prog_10_method_11_code 1 = .ok (.getfield 13, 3) := by decide +kernel
theorem d_Model_empty_4 : decode prog_10_method_11_code 4 = .ok (.bipush 29, 2) := by decide +kernel
theorem d_Model_empty_6 : decode prog_10_method_11_code 6 = .ok (.iload_n 1, 1) := by decide +kernel
theorem d_Model_empty_7 : decode prog_10_method_11_code 7 = .ok (.imul, 1) := by decide +kernel
theorem d_Model_empty_8 : decode prog_10_method_11_code 8 = .ok (.iconst 1, 1) := by decide +kernel
theorem d_Model_empty_9 : decode prog_10_method_11_code 9 = .ok (.iastore, 1) := by decide +kernel
theorem d_Model_empty_10 : decode prog_10_method_11_code 10 = .ok (.aload_n 0, 1) := by decide +kernel
theorem d_Model_empty_11 : decode prog_10_method_11_code 11 = .ok (.getfield 13, 3) := by decide +kernel
theorem d_Model_empty_14 : decode prog_10_method_11_code 14 = .ok (.bipush 29, 2) := by decide +kernel
theorem d_Model_empty_16 : decode prog_10_method_11_code 16 = .ok (.iload_n 1, 1) := by decide +kernel
theorem d_Model_empty_17 : decode prog_10_method_11_code 17 = .ok (.imul, 1) := by decide +kernel
theorem d_Model_empty_18 : decode prog_10_method_11_code 18 = .ok (.iconst 1, 1) := by decide +kernel
theorem d_Model_empty_19 : decode prog_10_method_11_code 19 = .ok (.iadd, 1) := by decide +kernel
theorem d_Model_empty_20 : decode prog_10_method_11_code 20 = .ok (.iconst 0, 1) := by decide +kernel
theorem d_Model_empty_21 : decode prog_10_method_11_code 21 = .ok (.iastore, 1) := by decide +kernel
theorem d_Model_empty_22 : decode prog_10_method_11_code 22 = .ok (.iconst 0, 1) := by decide +kernel
theorem d_Model_empty_23 : decode prog_10_method_11_code 23 = .ok (.istore_n 2, 1) := by decide +kernel
theorem d_Model_empty_24 : decode prog_10_method_11_code 24 = .ok (.iload_n 2, 1) := by decide +kernel
theorem d_Model_empty_25 : decode prog_10_method_11_code 25 = .ok (.bipush 8, 2) := by decide +kernel
theorem d_Model_empty_27 : decode prog_10_method_11_code 27 = .ok (.if_icmp .ge 21, 3) := by decide +kernel
theorem d_Model_empty_30 : decode prog_10_method_11_code 30 = .ok (.aload_n 0, 1) := by decide +kernel
theorem d_Model_empty_31 : decode prog_10_method_11_code 31 = .ok (.getfield 13, 3) := by decide +kernel
theorem d_Model_empty_34 : decode prog_10_method_11_code 34 = .ok (.aload_n 0, 1) := by decide +kernel
theorem d_Model_empty_35 : decode prog_10_method_11_code 35 = .ok (.iload_n 1, 1) := by decide +kernel
theorem d_Model_empty_36 : decode prog_10_method_11_code 36 = .ok (.iload_n 2, 1) := by decide +kernel
theorem d_Model_empty_37 : decode prog_10_method_11_code 37 = .ok (.invokevirtual 82, 3) := by decide +kernel
theorem d_Model_empty_40 : decode prog_10_method_11_code 40 = .ok (.iconst 0, 1) := by decide +kernel
theorem d_Model_empty_41 : decode prog_10_method_11_code 41 = .ok (.iastore, 1) := by decide +kernel
theorem d_Model_empty_42 : decode prog_10_method_11_code 42 = .ok (.iinc 2 1, 3) := by decide +kernel
theorem d_Model_empty_45 : decode prog_10_method_11_code 45 = .ok (.goto (-21), 3) := by decide +kernel
theorem d_Model_empty_48 : decode prog_10_method_11_code 48 = .ok (.return_, 1) := by decide +kernel
theorem d_Model_code_0 : decode prog_10_method_16_code 0 = .ok (.aload_n 0, 1) := by decide +kernel
theorem d_Model_code_1 : decode prog_10_method_16_code 1 = .ok (.iconst 0, 1) := by decide +kernel
theorem d_Model_code_2 : decode prog_10_method_16_code 2 = .ok (.putfield 75, 3) := by decide +kernel
theorem d_Model_code_5 : decode prog_10_method_16_code 5 = .ok (.iload_n 2, 1) := by decide +kernel
theorem d_Model_code_6 : decode prog_10_method_16_code 6 = .ok (.iconst 1, 1) := by decide +kernel
theorem d_Model_code_7 : decode prog_10_method_16_code 7 = .ok (.iconst 4, 1) := by decide +kernel
theorem d_Model_code_8 : decode prog_10_method_16_code 8 = .ok (.invokestatic 78, 3) := by decide +kernel
theorem d_Model_code_11 : decode prog_10_method_16_code 11 = .ok (.ifCond .ne 15, 3) := by decide +kernel
theorem d_Model_code_14 : decode prog_10_method_16_code 14 = .ok (.aload_n 0, 1) := by decide +kernel
theorem d_Model_code_15 : decode prog_10_method_16_code 15 = .ok (.getfield 104, 3) := by decide +kernel
theorem d_Model_code_18 : decode prog_10_method_16_code 18 = .ok (.iload_n 2, 1) := by decide +kernel
theorem d_Model_code_19 : decode prog_10_method_16_code 19 = .ok (.iadd, 1) := by decide +kernel
theorem d_Model_code_20 : decode prog_10_method_16_code 20 = .ok (.sipush 300, 3) := by decide +kernel
theorem d_Model_code_23 : decode prog_10_method_16_code 23 = .ok (.if_icmp .le 5, 3) := by decide +kernel
theorem d_Model_code_28 : decode prog_10_method_16_code 28 = .ok (.iload_n 2, 1) := by decide +kernel
theorem d_Model_code_29 : decode prog_10_method_16_code 29 = .ok (.iconst 1, 1) := by decide +kernel
theorem d_Model_code_30 : decode prog_10_method_16_code 30 = .ok (.isub, 1) := by decide +kernel
theorem d_Model_code_31 : decode prog_10_method_16_code 31 = .ok (.istore_n 3, 1) := by decide +kernel
theorem d_Model_code_32 : decode prog_10_method_16_code 32 = .ok (.iload_n 3, 1) := by decide +kernel
theorem d_Model_code_33 : decode prog_10_method_16_code 33 = .ok (.ifCond .lt 38, 3) := by decide +kernel
theorem d_Model_code_36 : decode prog_10_method_16_code 36 = .ok (.aload_n 0, 1) := by decide +kernel
theorem d_Model_code_37 : decode prog_10_method_16_code 37 = .ok (.getfield 7, 3) := by decide +kernel
theorem d_Model_code_40 : decode prog_10_method_16_code 40 = .ok (.aload_n 0, 1) := by decide +kernel
theorem d_Model_code_41 : decode prog_10_method_16_code 41 = .ok (.getfield 104, 3) := by decide +kernel
theorem d_Model_code_44 : decode prog_10_method_16_code 44 = .ok (.iload_n 1, 1) := by decide +kernel
theorem d_Model_code_45 : decode prog_10_method_16_code 45 = .ok (.bipush 8, 2) := by decide +kernel
theorem d_Model_code_47 : decode prog_10_method_16_code 47 = .ok (.iload_n 3, 1) := by decide +kernel
theorem d_Model_code_48 : decode prog_10_method_16_code 48 = .ok (.imul, 1) := by decide +kernel
theorem d_Model_code_49 : decode prog_10_method_16_code 49 = .ok (.ishr, 1) := by decide +kernel
theorem d_Model_code_50 : decode prog_10_method_16_code 50 = .ok (.sipush 255, 3) := by decide +kernel
theorem d_Model_code_53 : decode prog_10_method_16_code 53 = .ok (.iand, 1) := by decide +kernel
theorem d_Model_code_54 : decode prog_10_method_16_code 54 = .ok (.iastore, 1) := by decide +kernel
theorem d_Model_code_55 : decode prog_10_method_16_code 55 = .ok (.aload_n 0, 1) := by decide +kernel
theorem d_Model_code_56 : decode prog_10_method_16_code 56 = .ok (.dup, 1) := by decide +kernel
theorem d_Model_code_57 : decode prog_10_method_16_code 57 = .ok (.getfield 104, 3) := by decide +kernel
theorem d_Model_code_60 : decode prog_10_method_16_code 60 = .ok (.iconst 1, 1) := by decide +kernel
theorem d_Model_code_61 : decode prog_10_method_16_code 61 = .ok (.iadd, 1) := by decide +kernel
theorem d_Model_code_62 : decode prog_10_method_16_code 62 = .ok (.putfield 104, 3) := by decide +kernel
theorem d_Model_code_65 : decode prog_10_method_16_code 65 = .ok (.iinc 3 (-1), 3) := by decide +kernel
theorem d_Model_code_68 : decode prog_10_method_16_code 68 = .ok (.goto (-36), 3) := by decide +kernel
theorem d_Model_code_71 : decode prog_10_method_16_code 71 = .ok (.iconst 1, 1) := by decide +kernel
theorem d_Model_code_72 : decode prog_10_method_16_code 72 = .ok (.ireturn, 1) := by decide +kernel
theorem d_Model_code_26 : decode prog_10_method_16_code 26 = .ok (.iconst 0, 1) := by decide +kernel
theorem d_Model_code_27 : decode prog_10_method_16_code 27 = .ok (.ireturn, 1) := by decide +kernel
theorem d_Model_object_0 : decode prog_10_method_18_code 0 = .ok (.iload_n 1, 1) := by decide +kernel
theorem d_Model_object_1 : decode prog_10_method_18_code 1 = .ok (.iconst (-1), 1) := by decide +kernel
theorem d_Model_object_2 : decode prog_10_method_18_code 2 = .ok (.if_icmp .ne 7, 3) := by decide +kernel
theorem d_Model_object_5 : decode prog_10_method_18_code 5 = .ok (.iconst 0, 1) := by decide +kernel
theorem d_Model_object_6 : decode prog_10_method_18_code 6 = .ok (.goto 22, 3) := by decide +kernel
theorem d_Model_object_28 : decode prog_10_method_18_code 28 = .ok (.istore 4, 2) := by decide +kernel
theorem d_Model_object_30 : decode prog_10_method_18_code 30 = .ok (.aload_n 0, 1) := by decide +kernel
theorem d_Model_object_31 : decode prog_10_method_18_code 31 = .ok (.iload_n 1, 1) := by decide +kernel
theorem d_Model_object_32 : decode prog_10_method_18_code 32 = .ok (.invokevirtual 111, 3) := by decide +kernel
theorem d_Model_object_35 : decode prog_10_method_18_code 35 = .ok (.ifCond .eq 35, 3) := by decide +kernel
theorem d_Model_object_38 : decode prog_10_method_18_code 38 = .ok (.iload 4, 2) := by decide +kernel
theorem d_Model_object_40 : decode prog_10_method_18_code 40 = .ok (.iconst 1, 1) := by decide +kernel
theorem d_Model_object_41 : decode prog_10_method_18_code 41 = .ok (.if_icmp .lt 11, 3) := by decide +kernel
theorem d_Model_object_52 : decode prog_10_method_18_code 52 = .ok (.iload 4, 2) := by decide +kernel
theorem d_Model_object_54 : decode prog_10_method_18_code 54 = .ok (.iconst 2, 1) := by decide +kernel
theorem d_Model_object_55 : decode prog_10_method_18_code 55 = .ok (.if_icmp .lt 11, 3) := by decide +kernel
theorem d_Model_object_66 : decode prog_10_method_18_code 66 = .ok (.iconst 1, 1) := by decide +kernel
theorem d_Model_object_67 : decode prog_10_method_18_code 67 = .ok (.goto 4, 3) := by decide +kernel
theorem d_Model_object_71 : decode prog_10_method_18_code 71 = .ok (.istore 5, 2) := by decide +kernel
theorem d_Model_object_73 : decode prog_10_method_18_code 73 = .ok (.aload_n 0, 1) := by decide +kernel
theorem d_Model_object_74 : decode prog_10_method_18_code 74 = .ok (.iload 5, 2) := by decide +kernel
theorem d_Model_object_76 : decode prog_10_method_18_code 76 = .ok (.ifCond .ne 7, 3) := by decide +kernel
theorem d_Model_object_83 : decode prog_10_method_18_code 83 = .ok (.aload_n 0, 1) := by decide +kernel
theorem d_Model_object_84 : decode prog_10_method_18_code 84 = .ok (.getfield 71, 3) := by decide +kernel
theorem d_Model_object_87 : decode prog_10_method_18_code 87 = .ok (.ifCond .eq 12, 3) := by decide +kernel
theorem d_Model_object_90 : decode prog_10_method_18_code 90 = .ok (.aload_n 0, 1) := by decide +kernel
theorem d_Model_object_91 : decode prog_10_method_18_code 91 = .ok (.getfield 114, 3) := by decide +kernel
theorem d_Model_object_94 : decode prog_10_method_18_code 94 = .ok (.bipush 16, 2) := by decide +kernel
theorem d_Model_object_96 : decode prog_10_method_18_code 96 = .ok (.if_icmp .ne 7, 3) := by decide +kernel
theorem d_Model_object_103 : decode prog_10_method_18_code 103 = .ok (.iconst 0, 1) := by decide +kernel
theorem d_Model_object_104 : decode prog_10_method_18_code 104 = .ok (.putfield 75, 3) := by decide +kernel
theorem d_Model_object_107 : decode prog_10_method_18_code 107 = .ok (.aload_n 0, 1) := by decide +kernel
theorem d_Model_object_108 : decode prog_10_method_18_code 108 = .ok (.getfield 75, 3) := by decide +kernel
theorem d_Model_object_111 : decode prog_10_method_18_code 111 = .ok (.ifCond .le 5, 3) := by decide +kernel
theorem d_Model_object_116 : decode prog_10_method_18_code 116 = .ok (.aload_n 0, 1) := by decide +kernel
theorem d_Model_object_117 : decode prog_10_method_18_code 117 = .ok (.aload_n 0, 1) := by decide +kernel
theorem d_Model_object_118 : decode prog_10_method_18_code 118 = .ok (.getfield 114, 3) := by decide +kernel
theorem d_Model_object_121 : decode prog_10_method_18_code 121 = .ok (.invokevirtual 117, 3) := by decide +kernel
theorem d_Model_object_124 : decode prog_10_method_18_code 124 = .ok (.aload_n 0, 1) := by decide +kernel
theorem d_Model_object_125 : decode prog_10_method_18_code 125 = .ok (.getfield 13, 3) := by decide +kernel
theorem d_Model_object_128 : decode prog_10_method_18_code 128 = .ok (.bipush 29, 2) := by decide +kernel
theorem d_Model_object_130 : decode prog_10_method_18_code 130 = .ok (.aload_n 0, 1) := by decide +kernel
theorem d_Model_object_131 : decode prog_10_method_18_code 131 = .ok (.getfield 114, 3) := by decide +kernel
theorem d_Model_object_134 : decode prog_10_method_18_code 134 = .ok (.imul, 1) := by decide +kernel
theorem d_Model_object_135 : decode prog_10_method_18_code 135 = .ok (.iconst 1, 1) := by decide +kernel
theorem d_Model_object_136 : decode prog_10_method_18_code 136 = .ok (.iadd, 1) := by decide +kernel
theorem d_Model_object_137 : decode prog_10_method_18_code 137 = .ok (.iload 4, 2) := by decide +kernel
theorem d_Model_object_139 : decode prog_10_method_18_code 139 = .ok (.iastore, 1) := by decide +kernel
theorem d_Model_object_140 : decode prog_10_method_18_code 140 = .ok (.aload_n 0, 1) := by decide +kernel
theorem d_Model_object_141 : decode prog_10_method_18_code 141 = .ok (.getfield 13, 3) := by decide +kernel
theorem d_Model_object_144 : decode prog_10_method_18_code 144 = .ok (.bipush 29, 2) := by decide +kernel
theorem d_Model_object_146 : decode prog_10_method_18_code 146 = .ok (.aload_n 0, 1) := by decide +kernel
theorem d_Model_object_147 : decode prog_10_method_18_code 147 = .ok (.getfield 114, 3) := by decide +kernel
theorem d_Model_object_150 : decode prog_10_method_18_code 150 = .ok (.imul, 1) := by decide +kernel
theorem d_Model_object_151 : decode prog_10_method_18_code 151 = .ok (.iconst 2, 1) := by decide +kernel
theorem d_Model_object_152 : decode prog_10_method_18_code 152 = .ok (.iadd, 1) := by decide +kernel
theorem d_Model_object_153 : decode prog_10_method_18_code 153 = .ok (.iload_n 1, 1) := by decide +kernel
theorem d_Model_object_154 : decode prog_10_method_18_code 154 = .ok (.iastore, 1) := by decide +kernel
theorem d_Model_object_155 : decode prog_10_method_18_code 155 = .ok (.aload_n 0, 1) := by decide +kernel
theorem d_Model_object_156 : decode prog_10_method_18_code 156 = .ok (.getfield 13, 3) := by decide +kernel
theorem d_Model_object_159 : decode prog_10_method_18_code 159 = .ok (.bipush 29, 2) := by decide +kernel
theorem d_Model_object_161 : decode prog_10_method_18_code 161 = .ok (.aload_n 0, 1) := by decide +kernel
theorem d_Model_object_162 : decode prog_10_method_18_code 162 = .ok (.getfield 114, 3) := by decide +kernel
theorem d_Model_object_165 : decode prog_10_method_18_code 165 = .ok (.imul, 1) := by decide +kernel
theorem d_Model_object_166 : decode prog_10_method_18_code 166 = .ok (.iconst 3, 1) := by decide +kernel
theorem d_Model_object_167 : decode prog_10_method_18_code 167 = .ok (.iadd, 1) := by decide +kernel
theorem d_Model_object_168 : decode prog_10_method_18_code 168 = .ok (.iload_n 2, 1) := by decide +kernel
theorem d_Model_object_169 : decode prog_10_method_18_code 169 = .ok (.iastore, 1) := by decide +kernel
theorem d_Model_object_170 : decode prog_10_method_18_code 170 = .ok (.aload_n 0, 1) := by decide +kernel
theorem d_Model_object_171 : decode prog_10_method_18_code 171 = .ok (.getfield 13, 3) := by decide +kernel
theorem d_Model_object_174 : decode prog_10_method_18_code 174 = .ok (.bipush 29, 2) := by decide +kernel
theorem d_Model_object_176 : decode prog_10_method_18_code 176 = .ok (.aload_n 0, 1) := by decide +kernel
theorem d_Model_object_177 : decode prog_10_method_18_code 177 = .ok (.getfield 114, 3) := by decide +kernel
theorem d_Model_object_180 : decode prog_10_method_18_code 180 = .ok (.imul, 1) := by decide +kernel
theorem d_Model_object_181 : decode prog_10_method_18_code 181 = .ok (.iconst 4, 1) := by decide +kernel
theorem d_Model_object_182 : decode prog_10_method_18_code 182 = .ok (.iadd, 1) := by decide +kernel
theorem d_Model_object_183 : decode prog_10_method_18_code 183 = .ok (.iload_n 3, 1) := by decide +kernel
theorem d_Model_object_184 : decode prog_10_method_18_code 184 = .ok (.iastore, 1) := by decide +kernel
theorem d_Model_object_185 : decode prog_10_method_18_code 185 = .ok (.aload_n 0, 1) := by decide +kernel
theorem d_Model_object_186 : decode prog_10_method_18_code 186 = .ok (.dup, 1) := by decide +kernel
theorem d_Model_object_187 : decode prog_10_method_18_code 187 = .ok (.getfield 114, 3) := by decide +kernel
theorem d_Model_object_190 : decode prog_10_method_18_code 190 = .ok (.iconst 1, 1) := by decide +kernel
theorem d_Model_object_191 : decode prog_10_method_18_code 191 = .ok (.iadd, 1) := by decide +kernel
theorem d_Model_object_192 : decode prog_10_method_18_code 192 = .ok (.putfield 114, 3) := by decide +kernel
theorem d_Model_object_195 : decode prog_10_method_18_code 195 = .ok (.aload_n 0, 1) := by decide +kernel
theorem d_Model_object_196 : decode prog_10_method_18_code 196 = .ok (.getfield 16, 3) := by decide +kernel
theorem d_Model_object_199 : decode prog_10_method_18_code 199 = .ok (.iconst 0, 1) := by decide +kernel
theorem d_Model_object_200 : decode prog_10_method_18_code 200 = .ok (.iconst 0, 1) := by decide +kernel
theorem d_Model_object_201 : decode prog_10_method_18_code 201 = .ok (.bastore, 1) := by decide +kernel
theorem d_Model_object_202 : decode prog_10_method_18_code 202 = .ok (.aload_n 0, 1) := by decide +kernel
theorem d_Model_object_203 : decode prog_10_method_18_code 203 = .ok (.getfield 16, 3) := by decide +kernel
theorem d_Model_object_206 : decode prog_10_method_18_code 206 = .ok (.iconst 1, 1) := by decide +kernel
theorem d_Model_object_207 : decode prog_10_method_18_code 207 = .ok (.iconst 0, 1) := by decide +kernel
theorem d_Model_object_208 : decode prog_10_method_18_code 208 = .ok (.bastore, 1) := by decide +kernel
theorem d_Model_object_209 : decode prog_10_method_18_code 209 = .ok (.aload_n 0, 1) := by decide +kernel
theorem d_Model_object_210 : decode prog_10_method_18_code 210 = .ok (.getfield 114, 3) := by decide +kernel
theorem d_Model_object_213 : decode prog_10_method_18_code 213 = .ok (.iconst 1, 1) := by decide +kernel
theorem d_Model_object_214 : decode prog_10_method_18_code 214 = .ok (.isub, 1) := by decide +kernel
theorem d_Model_object_215 : decode prog_10_method_18_code 215 = .ok (.ireturn, 1) := by decide +kernel
theorem d_Model_object_9 : decode prog_10_method_18_code 9 = .ok (.iload_n 2, 1) := by decide +kernel
theorem d_Model_object_10 : decode prog_10_method_18_code 10 = .ok (.iconst (-1), 1) := by decide +kernel
theorem d_Model_object_11 : decode prog_10_method_18_code 11 = .ok (.if_icmp .ne 7, 3) := by decide +kernel
theorem d_Model_object_18 : decode prog_10_method_18_code 18 = .ok (.iload_n 3, 1) := by decide +kernel
theorem d_Model_object_19 : decode prog_10_method_18_code 19 = .ok (.iconst (-1), 1) := by decide +kernel
theorem d_Model_object_20 : decode prog_10_method_18_code 20 = .ok (.if_icmp .ne 7, 3) := by decide +kernel
theorem d_Model_object_27 : decode prog_10_method_18_code 27 = .ok (.iconst 3, 1) := by decide +kernel
theorem d_Model_object_70 : decode prog_10_method_18_code 70 = .ok (.iconst 0, 1) := by decide +kernel
theorem d_Model_object_79 : decode prog_10_method_18_code 79 = .ok (.iconst 1, 1) := by decide +kernel
theorem d_Model_object_80 : decode prog_10_method_18_code 80 = .ok (.goto 24, 3) := by decide +kernel
theorem d_Model_object_114 : decode prog_10_method_18_code 114 = .ok (.iconst 0, 1) := by decide +kernel
theorem d_Model_object_115 : decode prog_10_method_18_code 115 = .ok (.ireturn, 1) := by decide +kernel
theorem d_Model_object_23 : decode prog_10_method_18_code 23 = .ok (.iconst 2, 1) := by decide +kernel
theorem d_Model_object_24 : decode prog_10_method_18_code 24 = .ok (.goto 4, 3) := by decide +kernel
theorem d_Model_object_14 : decode prog_10_method_18_code 14 = .ok (.iconst 1, 1) := by decide +kernel
theorem d_Model_object_15 : decode prog_10_method_18_code 15 = .ok (.goto 13, 3) := by decide +kernel
theorem d_Model_property_0 : decode prog_10_method_19_code 0 = .ok (.iload_n 2, 1) := by decide +kernel
theorem d_Model_property_1 : decode prog_10_method_19_code 1 = .ok (.iconst 0, 1) := by decide +kernel
theorem d_Model_property_2 : decode prog_10_method_19_code 2 = .ok (.bipush 7, 2) := by decide +kernel
theorem d_Model_property_4 : decode prog_10_method_19_code 4 = .ok (.invokestatic 78, 3) := by decide +kernel
theorem d_Model_property_7 : decode prog_10_method_19_code 7 = .ok (.ifCond .ne 47, 3) := by decide +kernel
theorem d_Model_property_54 : decode prog_10_method_19_code 54 = .ok (.iconst 0, 1) := by decide +kernel
theorem d_Model_property_55 : decode prog_10_method_19_code 55 = .ok (.istore 5, 2) := by decide +kernel
theorem d_Model_property_57 : decode prog_10_method_19_code 57 = .ok (.aload_n 0, 1) := by decide +kernel
theorem d_Model_property_58 : decode prog_10_method_19_code 58 = .ok (.aload_n 0, 1) := by decide +kernel
theorem d_Model_property_59 : decode prog_10_method_19_code 59 = .ok (.iload_n 1, 1) := by decide +kernel
theorem d_Model_property_60 : decode prog_10_method_19_code 60 = .ok (.invokevirtual 107, 3) := by decide +kernel
theorem d_Model_property_63 : decode prog_10_method_19_code 63 = .ok (.ifCond .ne 7, 3) := by decide +kernel
theorem d_Model_property_66 : decode prog_10_method_19_code 66 = .ok (.iconst 1, 1) := by decide +kernel
theorem d_Model_property_67 : decode prog_10_method_19_code 67 = .ok (.goto 24, 3) := by decide +kernel
theorem d_Model_property_91 : decode prog_10_method_19_code 91 = .ok (.putfield 75, 3) := by decide +kernel
theorem d_Model_property_94 : decode prog_10_method_19_code 94 = .ok (.aload_n 0, 1) := by decide +kernel
theorem d_Model_property_95 : decode prog_10_method_19_code 95 = .ok (.getfield 75, 3) := by decide +kernel
theorem d_Model_property_98 : decode prog_10_method_19_code 98 = .ok (.ifCond .le 4, 3) := by decide +kernel
theorem d_Model_property_101 : decode prog_10_method_19_code 101 = .ok (.return_, 1) := by decide +kernel
theorem d_Model_property_10 : decode prog_10_method_19_code 10 = .ok (.iload_n 3, 1) := by decide +kernel
theorem d_Model_property_11 : decode prog_10_method_19_code 11 = .ok (.iconst (-1), 1) := by decide +kernel
theorem d_Model_property_12 : decode prog_10_method_19_code 12 = .ok (.iconst 4, 1) := by decide +kernel
theorem d_Model_property_13 : decode prog_10_method_19_code 13 = .ok (.invokestatic 78, 3) := by decide +kernel
theorem d_Model_property_16 : decode prog_10_method_19_code 16 = .ok (.ifCond .ne 38, 3) := by decide +kernel
theorem d_Model_property_19 : decode prog_10_method_19_code 19 = .ok (.iload_n 3, 1) := by decide +kernel
theorem d_Model_property_20 : decode prog_10_method_19_code 20 = .ok (.iconst 3, 1) := by decide +kernel
theorem d_Model_property_21 : decode prog_10_method_19_code 21 = .ok (.if_icmp .ne 12, 3) := by decide +kernel
theorem d_Model_property_33 : decode prog_10_method_19_code 33 = .ok (.iload_n 3, 1) := by decide +kernel
theorem d_Model_property_34 : decode prog_10_method_19_code 34 = .ok (.iconst 4, 1) := by decide +kernel
theorem d_Model_property_35 : decode prog_10_method_19_code 35 = .ok (.if_icmp .ne 15, 3) := by decide +kernel
theorem d_Model_property_50 : decode prog_10_method_19_code 50 = .ok (.iconst 1, 1) := by decide +kernel
theorem d_Model_property_51 : decode prog_10_method_19_code 51 = .ok (.goto 4, 3) := by decide +kernel
theorem d_Model_property_38 : decode prog_10_method_19_code 38 = .ok (.iload 4, 2) := by decide +kernel
theorem d_Model_property_40 : decode prog_10_method_19_code 40 = .ok (.iconst 0, 1) := by decide +kernel
theorem d_Model_property_41 : decode prog_10_method_19_code 41 = .ok (.sipush 299, 3) := by decide +kernel
theorem d_Model_property_44 : decode prog_10_method_19_code 44 = .ok (.invokestatic 78, 3) := by decide +kernel
theorem d_Model_property_47 : decode prog_10_method_19_code 47 = .ok (.ifCond .ne 7, 3) := by decide +kernel
theorem d_Model_property_24 : decode prog_10_method_19_code 24 = .ok (.aload_n 0, 1) := by decide +kernel
theorem d_Model_property_25 : decode prog_10_method_19_code 25 = .ok (.iload 4, 2) := by decide +kernel
theorem d_Model_property_27 : decode prog_10_method_19_code 27 = .ok (.invokevirtual 107, 3) := by decide +kernel
theorem d_Model_property_30 : decode prog_10_method_19_code 30 = .ok (.ifCond .eq 24, 3) := by decide +kernel
theorem d_Model_begin_0 : decode prog_10_method_24_code 0 = .ok (.aload_n 0, 1) := by decide +kernel
theorem d_Model_begin_1 : decode prog_10_method_24_code 1 = .ok (.iconst 0, 1) := by decide +kernel
theorem d_Model_begin_2 : decode prog_10_method_24_code 2 = .ok (.putfield 75, 3) := by decide +kernel
theorem d_Model_begin_5 : decode prog_10_method_24_code 5 = .ok (.aload_n 0, 1) := by decide +kernel
theorem d_Model_begin_6 : decode prog_10_method_24_code 6 = .ok (.iload_n 1, 1) := by decide +kernel
theorem d_Model_begin_7 : decode prog_10_method_24_code 7 = .ok (.invokevirtual 107, 3) := by decide +kernel
theorem d_Model_begin_10 : decode prog_10_method_24_code 10 = .ok (.ifCond .ne 11, 3) := by decide +kernel
theorem d_Model_begin_13 : decode prog_10_method_24_code 13 = .ok (.aload_n 0, 1) := by decide +kernel
theorem d_Model_begin_14 : decode prog_10_method_24_code 14 = .ok (.iconst 1, 1) := by decide +kernel
theorem d_Model_begin_15 : decode prog_10_method_24_code 15 = .ok (.putfield 75, 3) := by decide +kernel
theorem d_Model_begin_18 : decode prog_10_method_24_code 18 = .ok (.goto 18, 3) := by decide +kernel
theorem d_Model_begin_36 : decode prog_10_method_24_code 36 = .ok (.aload_n 0, 1) := by decide +kernel
theorem d_Model_begin_37 : decode prog_10_method_24_code 37 = .ok (.getfield 75, 3) := by decide +kernel
theorem d_Model_begin_40 : decode prog_10_method_24_code 40 = .ok (.ifCond .le 4, 3) := by decide +kernel
theorem d_Model_begin_43 : decode prog_10_method_24_code 43 = .ok (.return_, 1) := by decide +kernel
theorem d_Model_run_0 : decode prog_10_method_26_code 0 = .ok (.aload_n 0, 1) := by decide +kernel
theorem d_Model_run_1 : decode prog_10_method_26_code 1 = .ok (.iconst 0, 1) := by decide +kernel
theorem d_Model_run_2 : decode prog_10_method_26_code 2 = .ok (.putfield 75, 3) := by decide +kernel
theorem d_Model_run_5 : decode prog_10_method_26_code 5 = .ok (.iconst 0, 1) := by decide +kernel
theorem d_Model_run_6 : decode prog_10_method_26_code 6 = .ok (.istore_n 2, 1) := by decide +kernel
theorem d_Model_run_7 : decode prog_10_method_26_code 7 = .ok (.iload_n 2, 1) := by decide +kernel
theorem d_Model_run_8 : decode prog_10_method_26_code 8 = .ok (.iload_n 1, 1) := by decide +kernel
theorem d_Model_run_9 : decode prog_10_method_26_code 9 = .ok (.if_icmp .ge 36, 3) := by decide +kernel
theorem d_Model_run_45 : decode prog_10_method_26_code 45 = .ok (.aload_n 0, 1) := by decide +kernel
theorem d_Model_run_46 : decode prog_10_method_26_code 46 = .ok (.getfield 71, 3) := by decide +kernel
theorem d_Model_run_49 : decode prog_10_method_26_code 49 = .ok (.ireturn, 1) := by decide +kernel
theorem d_Model_run_12 : decode prog_10_method_26_code 12 = .ok (.iload_n 2, 1) := by decide +kernel
theorem d_Model_run_13 : decode prog_10_method_26_code 13 = .ok (.sipush 3000, 3) := by decide +kernel
theorem d_Model_run_16 : decode prog_10_method_26_code 16 = .ok (.if_icmp .ge 29, 3) := by decide +kernel
theorem d_Model_run_19 : decode prog_10_method_26_code 19 = .ok (.aload_n 0, 1) := by decide +kernel
theorem d_Model_run_20 : decode prog_10_method_26_code 20 = .ok (.getfield 71, 3) := by decide +kernel
theorem d_Model_run_23 : decode prog_10_method_26_code 23 = .ok (.ifCond .ne 22, 3) := by decide +kernel
theorem d_Model_stop_0 : decode prog_10_method_27_code 0 = .ok (.aload_n 0, 1) := by decide +kernel
theorem d_Model_stop_1 : decode prog_10_method_27_code 1 = .ok (.iconst 0, 1) := by decide +kernel
theorem d_Model_stop_2 : decode prog_10_method_27_code 2 = .ok (.putfield 75, 3) := by decide +kernel
theorem d_Model_stop_5 : decode prog_10_method_27_code 5 = .ok (.aload_n 0, 1) := by decide +kernel
theorem d_Model_stop_6 : decode prog_10_method_27_code 6 = .ok (.getfield 71, 3) := by decide +kernel
theorem d_Model_stop_9 : decode prog_10_method_27_code 9 = .ok (.ifCond .eq 5, 3) := by decide +kernel
theorem d_Model_stop_12 : decode prog_10_method_27_code 12 = .ok (.iconst 0, 1) := by decide +kernel
theorem d_Model_stop_13 : decode prog_10_method_27_code 13 = .ok (.ireturn, 1) := by decide +kernel
theorem d_Model_mark_0 : decode prog_10_method_48_code 0 = .ok (.iload_n 2, 1) := by decide +kernel
theorem d_Model_mark_1 : decode prog_10_method_48_code 1 = .ok (.iconst 3, 1) := by decide +kernel
theorem d_Model_mark_2 : decode prog_10_method_48_code 2 = .ok (.if_icmp .ne 19, 3) := by decide +kernel
theorem d_Model_mark_21 : decode prog_10_method_48_code 21 = .ok (.iload_n 1, 1) := by decide +kernel
theorem d_Model_mark_22 : decode prog_10_method_48_code 22 = .ok (.ireturn, 1) := by decide +kernel
theorem d_Model_mark_5 : decode prog_10_method_48_code 5 = .ok (.aload_n 0, 1) := by decide +kernel
theorem d_Model_mark_6 : decode prog_10_method_48_code 6 = .ok (.iload_n 3, 1) := by decide +kernel
theorem d_Model_mark_7 : decode prog_10_method_48_code 7 = .ok (.invokevirtual 107, 3) := by decide +kernel
theorem d_Model_mark_10 : decode prog_10_method_48_code 10 = .ok (.ifCond .eq 11, 3) := by decide +kernel
theorem d_Model_collect_0 : decode prog_10_method_50_code 0 = .ok (.aload_n 0, 1) := by decide +kernel
theorem d_Model_collect_1 : decode prog_10_method_50_code 1 = .ok (.iconst 0, 1) := by decide +kernel
theorem d_Model_collect_2 : decode prog_10_method_50_code 2 = .ok (.putfield 75, 3) := by decide +kernel
theorem d_Model_collect_5 : decode prog_10_method_50_code 5 = .ok (.aload_n 0, 1) := by decide +kernel
theorem d_Model_collect_6 : decode prog_10_method_50_code 6 = .ok (.iconst 0, 1) := by decide +kernel
theorem d_Model_collect_7 : decode prog_10_method_50_code 7 = .ok (.aload_n 0, 1) := by decide +kernel
theorem d_Model_collect_8 : decode prog_10_method_50_code 8 = .ok (.getfield 147, 3) := by decide +kernel
theorem d_Model_collect_11 : decode prog_10_method_50_code 11 = .ok (.aload_n 0, 1) := by decide +kernel
theorem d_Model_collect_12 : decode prog_10_method_50_code 12 = .ok (.getfield 150, 3) := by decide +kernel
theorem d_Model_collect_15 : decode prog_10_method_50_code 15 = .ok (.invokevirtual 232, 3) := by decide +kernel
theorem d_Model_collect_18 : decode prog_10_method_50_code 18 = .ok (.istore_n 1, 1) := by decide +kernel
theorem d_Model_collect_19 : decode prog_10_method_50_code 19 = .ok (.iconst 0, 1) := by decide +kernel
theorem d_Model_collect_20 : decode prog_10_method_50_code 20 = .ok (.istore_n 2, 1) := by decide +kernel
theorem d_Model_collect_21 : decode prog_10_method_50_code 21 = .ok (.iload_n 2, 1) := by decide +kernel
theorem d_Model_collect_22 : decode prog_10_method_50_code 22 = .ok (.bipush 16, 2) := by decide +kernel
theorem d_Model_collect_24 : decode prog_10_method_50_code 24 = .ok (.if_icmp .ge 17, 3) := by decide +kernel
theorem d_Model_collect_27 : decode prog_10_method_50_code 27 = .ok (.aload_n 0, 1) := by decide +kernel
theorem d_Model_collect_28 : decode prog_10_method_50_code 28 = .ok (.iload_n 1, 1) := by decide +kernel
theorem d_Model_collect_29 : decode prog_10_method_50_code 29 = .ok (.iconst 3, 1) := by decide +kernel
theorem d_Model_collect_30 : decode prog_10_method_50_code 30 = .ok (.iload_n 2, 1) := by decide +kernel
theorem d_Model_collect_31 : decode prog_10_method_50_code 31 = .ok (.invokevirtual 232, 3) := by decide +kernel
theorem d_Model_collect_34 : decode prog_10_method_50_code 34 = .ok (.istore_n 1, 1) := by decide +kernel
theorem d_Model_collect_35 : decode prog_10_method_50_code 35 = .ok (.iinc 2 1, 3) := by decide +kernel
theorem d_Model_collect_38 : decode prog_10_method_50_code 38 = .ok (.goto (-17), 3) := by decide +kernel
theorem d_Model_collect_41 : decode prog_10_method_50_code 41 = .ok (.iconst 0, 1) := by decide +kernel
theorem d_Model_collect_42 : decode prog_10_method_50_code 42 = .ok (.istore_n 2, 1) := by decide +kernel
theorem d_Model_collect_43 : decode prog_10_method_50_code 43 = .ok (.iload_n 2, 1) := by decide +kernel
theorem d_Model_collect_44 : decode prog_10_method_50_code 44 = .ok (.aload_n 0, 1) := by decide +kernel
theorem d_Model_collect_45 : decode prog_10_method_50_code 45 = .ok (.getfield 130, 3) := by decide +kernel
theorem d_Model_collect_48 : decode prog_10_method_50_code 48 = .ok (.if_icmp .ge 27, 3) := by decide +kernel
theorem d_Model_collect_75 : decode prog_10_method_50_code 75 = .ok (.iconst 0, 1) := by decide +kernel
theorem d_Model_collect_76 : decode prog_10_method_50_code 76 = .ok (.istore_n 2, 1) := by decide +kernel
theorem d_Model_collect_77 : decode prog_10_method_50_code 77 = .ok (.iload_n 2, 1) := by decide +kernel
theorem d_Model_collect_78 : decode prog_10_method_50_code 78 = .ok (.aload_n 0, 1) := by decide +kernel
theorem d_Model_collect_79 : decode prog_10_method_50_code 79 = .ok (.getfield 127, 3) := by decide +kernel
theorem d_Model_collect_82 : decode prog_10_method_50_code 82 = .ok (.if_icmp .ge 33, 3) := by decide +kernel
theorem d_Model_collect_115 : decode prog_10_method_50_code 115 = .ok (.iconst 0, 1) := by decide +kernel
theorem d_Model_collect_116 : decode prog_10_method_50_code 116 = .ok (.istore_n 2, 1) := by decide +kernel
theorem d_Model_collect_117 : decode prog_10_method_50_code 117 = .ok (.iload_n 1, 1) := by decide +kernel
theorem d_Model_collect_118 : decode prog_10_method_50_code 118 = .ok (.iload_n 2, 1) := by decide +kernel
theorem d_Model_collect_119 : decode prog_10_method_50_code 119 = .ok (.if_icmp .eq 14, 3) := by decide +kernel
theorem d_Model_collect_133 : decode prog_10_method_50_code 133 = .ok (.iconst 0, 1) := by decide +kernel
theorem d_Model_collect_134 : decode prog_10_method_50_code 134 = .ok (.istore_n 3, 1) := by decide +kernel
theorem d_Model_collect_135 : decode prog_10_method_50_code 135 = .ok (.bipush 16, 2) := by decide +kernel
theorem d_Model_collect_137 : decode prog_10_method_50_code 137 = .ok (.istore 4, 2) := by decide +kernel
theorem d_Model_collect_139 : decode prog_10_method_50_code 139 = .ok (.iload 4, 2) := by decide +kernel
theorem d_Model_collect_141 : decode prog_10_method_50_code 141 = .ok (.bipush 32, 2) := by decide +kernel
theorem d_Model_collect_143 : decode prog_10_method_50_code 143 = .ok (.if_icmp .ge 63, 3) := by decide +kernel
theorem d_Model_collect_146 : decode prog_10_method_50_code 146 = .ok (.aload_n 0, 1) := by decide +kernel
theorem d_Model_collect_147 : decode prog_10_method_50_code 147 = .ok (.iload 4, 2) := by decide +kernel
theorem d_Model_collect_149 : decode prog_10_method_50_code 149 = .ok (.invokevirtual 107, 3) := by decide +kernel
theorem d_Model_collect_152 : decode prog_10_method_50_code 152 = .ok (.ifCond .eq 16, 3) := by decide +kernel
theorem d_Model_collect_168 : decode prog_10_method_50_code 168 = .ok (.iconst 0, 1) := by decide +kernel
theorem d_Model_collect_169 : decode prog_10_method_50_code 169 = .ok (.istore 5, 2) := by decide +kernel
theorem d_Model_collect_171 : decode prog_10_method_50_code 171 = .ok (.iload 5, 2) := by decide +kernel
theorem d_Model_collect_173 : decode prog_10_method_50_code 173 = .ok (.ifCond .eq 14, 3) := by decide +kernel
theorem d_Model_collect_187 : decode prog_10_method_50_code 187 = .ok (.iload 5, 2) := by decide +kernel
theorem d_Model_collect_189 : decode prog_10_method_50_code 189 = .ok (.ifCond .eq 9, 3) := by decide +kernel
theorem d_Model_collect_198 : decode prog_10_method_50_code 198 = .ok (.iload_n 3, 1) := by decide +kernel
theorem d_Model_collect_199 : decode prog_10_method_50_code 199 = .ok (.istore_n 3, 1) := by decide +kernel
theorem d_Model_collect_200 : decode prog_10_method_50_code 200 = .ok (.iinc 4 1, 3) := by decide +kernel
theorem d_Model_collect_203 : decode prog_10_method_50_code 203 = .ok (.goto (-64), 3) := by decide +kernel
theorem d_Model_collect_206 : decode prog_10_method_50_code 206 = .ok (.iload_n 3, 1) := by decide +kernel
theorem d_Model_collect_207 : decode prog_10_method_50_code 207 = .ok (.ireturn, 1) := by decide +kernel
theorem d_Model_stack_0 : decode prog_10_method_51_code 0 = .ok (.iload_n 1, 1) := by decide +kernel
theorem d_Model_stack_1 : decode prog_10_method_51_code 1 = .ok (.iconst 0, 1) := by decide +kernel
theorem d_Model_stack_2 : decode prog_10_method_51_code 2 = .ok (.aload_n 0, 1) := by decide +kernel
theorem d_Model_stack_3 : decode prog_10_method_51_code 3 = .ok (.getfield 130, 3) := by decide +kernel
theorem d_Model_stack_6 : decode prog_10_method_51_code 6 = .ok (.iconst 1, 1) := by decide +kernel
theorem d_Model_stack_7 : decode prog_10_method_51_code 7 = .ok (.isub, 1) := by decide +kernel
theorem d_Model_stack_8 : decode prog_10_method_51_code 8 = .ok (.invokestatic 78, 3) := by decide +kernel
theorem d_Model_stack_11 : decode prog_10_method_51_code 11 = .ok (.ifCond .ne 12, 3) := by decide +kernel
theorem d_Model_stack_23 : decode prog_10_method_51_code 23 = .ok (.aload_n 0, 1) := by decide +kernel
theorem d_Model_stack_24 : decode prog_10_method_51_code 24 = .ok (.iconst 1, 1) := by decide +kernel
theorem d_Model_stack_25 : decode prog_10_method_51_code 25 = .ok (.invokevirtual 238, 3) := by decide +kernel
theorem d_Model_stack_28 : decode prog_10_method_51_code 28 = .ok (.ireturn, 1) := by decide +kernel
theorem d_Model_said_0 : decode prog_10_method_53_code 0 = .ok (.iload_n 1, 1) := by decide +kernel
theorem d_Model_said_1 : decode prog_10_method_53_code 1 = .ok (.iconst (-1), 1) := by decide +kernel
theorem d_Model_said_2 : decode prog_10_method_53_code 2 = .ok (.aload_n 0, 1) := by decide +kernel
theorem d_Model_said_3 : decode prog_10_method_53_code 3 = .ok (.getfield 144, 3) := by decide +kernel
theorem d_Model_said_6 : decode prog_10_method_53_code 6 = .ok (.iconst 1, 1) := by decide +kernel
theorem d_Model_said_7 : decode prog_10_method_53_code 7 = .ok (.isub, 1) := by decide +kernel
theorem d_Model_said_8 : decode prog_10_method_53_code 8 = .ok (.invokestatic 78, 3) := by decide +kernel
theorem d_Model_said_11 : decode prog_10_method_53_code 11 = .ok (.ifCond .ne 33, 3) := by decide +kernel
theorem d_Model_said_44 : decode prog_10_method_53_code 44 = .ok (.aload_n 0, 1) := by decide +kernel
theorem d_Model_said_45 : decode prog_10_method_53_code 45 = .ok (.iconst 1, 1) := by decide +kernel
theorem d_Model_said_46 : decode prog_10_method_53_code 46 = .ok (.invokevirtual 238, 3) := by decide +kernel
theorem d_Model_said_49 : decode prog_10_method_53_code 49 = .ok (.ireturn, 1) := by decide +kernel
theorem d_Model_said_14 : decode prog_10_method_53_code 14 = .ok (.iload_n 2, 1) := by decide +kernel
theorem d_Model_said_15 : decode prog_10_method_53_code 15 = .ok (.iconst 0, 1) := by decide +kernel
theorem d_Model_said_16 : decode prog_10_method_53_code 16 = .ok (.iconst 1, 1) := by decide +kernel
theorem d_Model_said_17 : decode prog_10_method_53_code 17 = .ok (.invokestatic 78, 3) := by decide +kernel
theorem d_Model_said_20 : decode prog_10_method_53_code 20 = .ok (.ifCond .ne 24, 3) := by decide +kernel
theorem d_Model_said_23 : decode prog_10_method_53_code 23 = .ok (.iload_n 1, 1) := by decide +kernel
theorem d_Model_said_24 : decode prog_10_method_53_code 24 = .ok (.iconst (-1), 1) := by decide +kernel
theorem d_Model_said_25 : decode prog_10_method_53_code 25 = .ok (.if_icmp .ne 25, 3) := by decide +kernel
theorem d_Model_said_28 : decode prog_10_method_53_code 28 = .ok (.aload_n 0, 1) := by decide +kernel
theorem d_Model_said_29 : decode prog_10_method_53_code 29 = .ok (.getfield 71, 3) := by decide +kernel
theorem d_Model_said_32 : decode prog_10_method_53_code 32 = .ok (.iconst 1, 1) := by decide +kernel
theorem d_Model_said_33 : decode prog_10_method_53_code 33 = .ok (.if_icmp .eq 17, 3) := by decide +kernel
theorem d_Model_said_36 : decode prog_10_method_53_code 36 = .ok (.aload_n 0, 1) := by decide +kernel
theorem d_Model_said_37 : decode prog_10_method_53_code 37 = .ok (.getfield 71, 3) := by decide +kernel
theorem d_Model_said_40 : decode prog_10_method_53_code 40 = .ok (.iconst 2, 1) := by decide +kernel
theorem d_Model_said_41 : decode prog_10_method_53_code 41 = .ok (.if_icmp .eq 9, 3) := by decide +kernel
theorem d_Model_has_0 : decode prog_10_method_54_code 0 = .ok (.aload_n 0, 1) := by decide +kernel
theorem d_Model_has_1 : decode prog_10_method_54_code 1 = .ok (.iload_n 1, 1) := by decide +kernel
theorem d_Model_has_2 : decode prog_10_method_54_code 2 = .ok (.invokevirtual 107, 3) := by decide +kernel
theorem d_Model_has_5 : decode prog_10_method_54_code 5 = .ok (.ifCond .eq 22, 3) := by decide +kernel
theorem d_Model_has_27 : decode prog_10_method_54_code 27 = .ok (.aload_n 0, 1) := by decide +kernel
theorem d_Model_has_28 : decode prog_10_method_54_code 28 = .ok (.iconst 1, 1) := by decide +kernel
theorem d_Model_has_29 : decode prog_10_method_54_code 29 = .ok (.invokevirtual 238, 3) := by decide +kernel
theorem d_Model_has_32 : decode prog_10_method_54_code 32 = .ok (.ireturn, 1) := by decide +kernel
theorem d_Model_isOf_0 : decode prog_10_method_55_code 0 = .ok (.aload_n 0, 1) := by decide +kernel
theorem d_Model_isOf_1 : decode prog_10_method_55_code 1 = .ok (.iconst 0, 1) := by decide +kernel
theorem d_Model_isOf_2 : decode prog_10_method_55_code 2 = .ok (.putfield 75, 3) := by decide +kernel
theorem d_Model_isOf_5 : decode prog_10_method_55_code 5 = .ok (.aload_n 0, 1) := by decide +kernel
theorem d_Model_isOf_6 : decode prog_10_method_55_code 6 = .ok (.iload_n 1, 1) := by decide +kernel
theorem d_Model_isOf_7 : decode prog_10_method_55_code 7 = .ok (.invokevirtual 107, 3) := by decide +kernel
theorem d_Model_isOf_10 : decode prog_10_method_55_code 10 = .ok (.ifCond .eq 24, 3) := by decide +kernel
theorem d_Model_isOf_34 : decode prog_10_method_55_code 34 = .ok (.iconst 0, 1) := by decide +kernel
theorem d_Model_isOf_35 : decode prog_10_method_55_code 35 = .ok (.ireturn, 1) := by decide +kernel
theorem d_Model_show_0 : decode prog_10_method_52_code 0 = .ok (.iload_n 1, 1) := by decide +kernel
theorem d_Model_show_1 : decode prog_10_method_52_code 1 = .ok (.iconst 0, 1) := by decide +kernel
theorem d_Model_show_2 : decode prog_10_method_52_code 2 = .ok (.iconst 5, 1) := by decide +kernel
theorem d_Model_show_3 : decode prog_10_method_52_code 3 = .ok (.invokestatic 78, 3) := by decide +kernel
theorem d_Model_show_6 : decode prog_10_method_52_code 6 = .ok (.ifCond .ne 20, 3) := by decide +kernel
theorem d_Model_show_9 : decode prog_10_method_52_code 9 = .ok (.aload_n 0, 1) := by decide +kernel
theorem d_Model_show_10 : decode prog_10_method_52_code 10 = .ok (.getfield 127, 3) := by decide +kernel
theorem d_Model_show_13 : decode prog_10_method_52_code 13 = .ok (.ifCond .ne 19, 3) := by decide +kernel
theorem d_Model_show_16 : decode prog_10_method_52_code 16 = .ok (.iload_n 1, 1) := by decide +kernel
theorem d_Model_show_17 : decode prog_10_method_52_code 17 = .ok (.iconst 1, 1) := by decide +kernel
theorem d_Model_show_18 : decode prog_10_method_52_code 18 = .ok (.if_icmp .eq 8, 3) := by decide +kernel
theorem d_Model_show_21 : decode prog_10_method_52_code 21 = .ok (.iload_n 1, 1) := by decide +kernel
theorem d_Model_show_22 : decode prog_10_method_52_code 22 = .ok (.iconst 2, 1) := by decide +kernel
theorem d_Model_show_23 : decode prog_10_method_52_code 23 = .ok (.if_icmp .ne 9, 3) := by decide +kernel
theorem d_Model_show_32 : decode prog_10_method_52_code 32 = .ok (.aload_n 0, 1) := by decide +kernel
theorem d_Model_show_33 : decode prog_10_method_52_code 33 = .ok (.iconst 0, 1) := by decide +kernel
theorem d_Model_show_34 : decode prog_10_method_52_code 34 = .ok (.putfield 75, 3) := by decide +kernel
theorem d_Model_show_37 : decode prog_10_method_52_code 37 = .ok (.iconst 0, 1) := by decide +kernel
theorem d_Model_show_38 : decode prog_10_method_52_code 38 = .ok (.istore_n 2, 1) := by decide +kernel
theorem d_Model_show_39 : decode prog_10_method_52_code 39 = .ok (.iconst 0, 1) := by decide +kernel
theorem d_Model_show_40 : decode prog_10_method_52_code 40 = .ok (.istore_n 3, 1) := by decide +kernel
theorem d_Model_show_41 : decode prog_10_method_52_code 41 = .ok (.iload_n 3, 1) := by decide +kernel
theorem d_Model_show_42 : decode prog_10_method_52_code 42 = .ok (.bipush 32, 2) := by decide +kernel
theorem d_Model_show_44 : decode prog_10_method_52_code 44 = .ok (.if_icmp .ge 21, 3) := by decide +kernel
theorem d_Model_show_47 : decode prog_10_method_52_code 47 = .ok (.iload_n 2, 1) := by decide +kernel
theorem d_Model_show_48 : decode prog_10_method_52_code 48 = .ok (.aload_n 0, 1) := by decide +kernel
theorem d_Model_show_49 : decode prog_10_method_52_code 49 = .ok (.getfield 13, 3) := by decide +kernel
theorem d_Model_show_52 : decode prog_10_method_52_code 52 = .ok (.bipush 29, 2) := by decide +kernel
theorem d_Model_show_54 : decode prog_10_method_52_code 54 = .ok (.iload_n 3, 1) := by decide +kernel
theorem d_Model_show_55 : decode prog_10_method_52_code 55 = .ok (.imul, 1) := by decide +kernel
theorem d_Model_show_56 : decode prog_10_method_52_code 56 = .ok (.iaload, 1) := by decide +kernel
theorem d_Model_show_57 : decode prog_10_method_52_code 57 = .ok (.iadd, 1) := by decide +kernel
theorem d_Model_show_58 : decode prog_10_method_52_code 58 = .ok (.istore_n 2, 1) := by decide +kernel
theorem d_Model_show_59 : decode prog_10_method_52_code 59 = .ok (.iinc 3 1, 3) := by decide +kernel
theorem d_Model_show_62 : decode prog_10_method_52_code 62 = .ok (.goto (-21), 3) := by decide +kernel
theorem d_Model_show_65 : decode prog_10_method_52_code 65 = .ok (.iload_n 1, 1) := by decide +kernel
theorem d_Model_show_66 : decode prog_10_method_52_code 66 = .ok (.tableswitch 70 0 4 #[34, 39, 51, 63, 68], 34) := by decide +kernel
theorem d_Model_show_100 : decode prog_10_method_52_code 100 = .ok (.aload_n 0, 1) := by decide +kernel
theorem d_Model_show_101 : decode prog_10_method_52_code 101 = .ok (.getfield 127, 3) := by decide +kernel
theorem d_Model_show_104 : decode prog_10_method_52_code 104 = .ok (.ireturn, 1) := by decide +kernel
theorem d_Model_show_129 : decode prog_10_method_52_code 129 = .ok (.aload_n 0, 1) := by decide +kernel
theorem d_Model_show_130 : decode prog_10_method_52_code 130 = .ok (.getfield 153, 3) := by decide +kernel
theorem d_Model_show_133 : decode prog_10_method_52_code 133 = .ok (.ireturn, 1) := by decide +kernel
theorem d_Model_show_134 : decode prog_10_method_52_code 134 = .ok (.iload_n 2, 1) := by decide +kernel
theorem d_Model_show_135 : decode prog_10_method_52_code 135 = .ok (.ireturn, 1) := by decide +kernel
theorem d_Model_show_136 : decode prog_10_method_52_code 136 = .ok (.aload_n 0, 1) := by decide +kernel
theorem d_Model_show_137 : decode prog_10_method_52_code 137 = .ok (.getfield 144, 3) := by decide +kernel
theorem d_Model_show_140 : decode prog_10_method_52_code 140 = .ok (.ireturn, 1) := by decide +kernel
theorem d_Model_show_26 : decode prog_10_method_52_code 26 = .ok (.aload_n 0, 1) := by decide +kernel
theorem d_Model_show_27 : decode prog_10_method_52_code 27 = .ok (.iconst 1, 1) := by decide +kernel
theorem d_Model_show_28 : decode prog_10_method_52_code 28 = .ok (.invokevirtual 238, 3) := by decide +kernel
theorem d_Model_show_31 : decode prog_10_method_52_code 31 = .ok (.ireturn, 1) := by decide +kernel
theorem d_Arrays_fill_0 : decode prog_19_method_103_code 0 = .ok (.iconst 0, 1) := by decide +kernel
theorem d_Arrays_fill_1 : decode prog_19_method_103_code 1 = .ok (.istore_n 2, 1) := by decide +kernel
theorem d_Arrays_fill_2 : decode prog_19_method_103_code 2 = .ok (.aload_n 0, 1) := by decide +kernel
theorem d_Arrays_fill_3 : decode prog_19_method_103_code 3 = .ok (.arraylength, 1) := by decide +kernel
theorem d_Arrays_fill_4 : decode prog_19_method_103_code 4 = .ok (.istore_n 3, 1) := by decide +kernel
theorem d_Arrays_fill_5 : decode prog_19_method_103_code 5 = .ok (.iload_n 2, 1) := by decide +kernel
theorem d_Arrays_fill_6 : decode prog_19_method_103_code 6 = .ok (.iload_n 3, 1) := by decide +kernel
theorem d_Arrays_fill_7 : decode prog_19_method_103_code 7 = .ok (.if_icmp .ge 13, 3) := by decide +kernel
theorem d_Arrays_fill_10 : decode prog_19_method_103_code 10 = .ok (.aload_n 0, 1) := by decide +kernel
theorem d_Arrays_fill_11 : decode prog_19_method_103_code 11 = .ok (.iload_n 2, 1) := by decide +kernel
theorem d_Arrays_fill_12 : decode prog_19_method_103_code 12 = .ok (.iload_n 1, 1) := by decide +kernel
theorem d_Arrays_fill_13 : decode prog_19_method_103_code 13 = .ok (.iastore, 1) := by decide +kernel
theorem d_Arrays_fill_14 : decode prog_19_method_103_code 14 = .ok (.iinc 2 1, 3) := by decide +kernel
theorem d_Arrays_fill_17 : decode prog_19_method_103_code 17 = .ok (.goto (-12), 3) := by decide +kernel
theorem d_Arrays_fill_20 : decode prog_19_method_103_code 20 = .ok (.return_, 1) := by decide +kernel
theorem d_Script_init_0 : decode prog_4_method_1_code 0 = .ok (.aload_n 0, 1) := by decide +kernel
theorem d_Script_init_1 : decode prog_4_method_1_code 1 = .ok (.invokespecial 3, 3) := by decide +kernel
theorem d_Script_init_4 : decode prog_4_method_1_code 4 = .ok (.aload_n 0, 1) := by decide +kernel
theorem d_Script_init_5 : decode prog_4_method_1_code 5 = .ok (.sipush 300, 3) := by decide +kernel
theorem d_Script_init_8 : decode prog_4_method_1_code 8 = .ok (.newarray .int, 2) := by decide +kernel
theorem d_Script_init_10 : decode prog_4_method_1_code 10 = .ok (.putfield 9, 3) := by decide +kernel
theorem d_Script_init_13 : decode prog_4_method_1_code 13 = .ok (.return_, 1) := by decide +kernel
theorem d_Frame_init_0 : decode prog_2_method_1_code 0 = .ok (.aload_n 0, 1) := by decide +kernel
theorem d_Frame_init_1 : decode prog_2_method_1_code 1 = .ok (.invokespecial 1, 3) := by decide +kernel
theorem d_Frame_init_4 : decode prog_2_method_1_code 4 = .ok (.return_, 1) := by decide +kernel
theorem d_Values_init_0 : decode prog_7_method_1_code 0 = .ok (.aload_n 0, 1) := by decide +kernel
theorem d_Values_init_1 : decode prog_7_method_1_code 1 = .ok (.invokespecial 1, 3) := by decide +kernel
theorem d_Values_init_4 : decode prog_7_method_1_code 4 = .ok (.aload_n 0, 1) := by decide +kernel
theorem d_Values_init_5 : decode prog_7_method_1_code 5 = .ok (.iload_n 1, 1) := by decide +kernel
theorem d_Values_init_6 : decode prog_7_method_1_code 6 = .ok (.newarray .int, 2) := by decide +kernel
theorem d_Values_init_8 : decode prog_7_method_1_code 8 = .ok (.putfield 7, 3) := by decide +kernel
theorem d_Values_init_11 : decode prog_7_method_1_code 11 = .ok (.aload_n 0, 1) := by decide +kernel
theorem d_Values_init_12 : decode prog_7_method_1_code 12 = .ok (.iload_n 1, 1) := by decide +kernel
theorem d_Values_init_13 : decode prog_7_method_1_code 13 = .ok (.newarray .int, 2) := by decide +kernel
theorem d_Values_init_15 : decode prog_7_method_1_code 15 = .ok (.putfield 13, 3) := by decide +kernel
theorem d_Values_init_18 : decode prog_7_method_1_code 18 = .ok (.return_, 1) := by decide +kernel
theorem d_State_init_0 : decode prog_5_method_1_code 0 = .ok (.aload_n 0, 1) := by decide +kernel
theorem d_State_init_1 : decode prog_5_method_1_code 1 = .ok (.invokespecial 3, 3) := by decide +kernel
theorem d_State_init_4 : decode prog_5_method_1_code 4 = .ok (.aload_n 0, 1) := by decide +kernel
theorem d_State_init_5 : decode prog_5_method_1_code 5 = .ok (.sipush 256, 3) := by decide +kernel
theorem d_State_init_8 : decode prog_5_method_1_code 8 = .ok (.newarray .int, 2) := by decide +kernel
theorem d_State_init_10 : decode prog_5_method_1_code 10 = .ok (.putfield 9, 3) := by decide +kernel
theorem d_State_init_13 : decode prog_5_method_1_code 13 = .ok (.aload_n 0, 1) := by decide +kernel
theorem d_State_init_14 : decode prog_5_method_1_code 14 = .ok (.sipush 256, 3) := by decide +kernel
theorem d_State_init_17 : decode prog_5_method_1_code 17 = .ok (.newarray .int, 2) := by decide +kernel
theorem d_State_init_19 : decode prog_5_method_1_code 19 = .ok (.putfield 15, 3) := by decide +kernel
theorem d_State_init_22 : decode prog_5_method_1_code 22 = .ok (.aload_n 0, 1) := by decide +kernel
theorem d_State_init_23 : decode prog_5_method_1_code 23 = .ok (.bipush 16, 2) := by decide +kernel
theorem d_State_init_25 : decode prog_5_method_1_code 25 = .ok (.newarray .int, 2) := by decide +kernel
theorem d_State_init_27 : decode prog_5_method_1_code 27 = .ok (.putfield 18, 3) := by decide +kernel
theorem d_State_init_30 : decode prog_5_method_1_code 30 = .ok (.aload_n 0, 1) := by decide +kernel
theorem d_State_init_31 : decode prog_5_method_1_code 31 = .ok (.getfield 9, 3) := by decide +kernel
theorem d_State_init_34 : decode prog_5_method_1_code 34 = .ok (.iconst (-1), 1) := by decide +kernel
theorem d_State_init_35 : decode prog_5_method_1_code 35 = .ok (.invokestatic 21, 3) := by decide +kernel
theorem d_State_init_38 : decode prog_5_method_1_code 38 = .ok (.aload_n 0, 1) := by decide +kernel
theorem d_State_init_39 : decode prog_5_method_1_code 39 = .ok (.getfield 18, 3) := by decide +kernel
theorem d_State_init_42 : decode prog_5_method_1_code 42 = .ok (.iconst (-1), 1) := by decide +kernel
theorem d_State_init_43 : decode prog_5_method_1_code 43 = .ok (.invokestatic 21, 3) := by decide +kernel
theorem d_State_init_46 : decode prog_5_method_1_code 46 = .ok (.return_, 1) := by decide +kernel
theorem d_World_init_0 : decode prog_8_method_1_code 0 = .ok (.aload_n 0, 1) := by decide +kernel
theorem d_World_init_1 : decode prog_8_method_1_code 1 = .ok (.invokespecial 3, 3) := by decide +kernel
theorem d_World_init_4 : decode prog_8_method_1_code 4 = .ok (.aload_n 0, 1) := by decide +kernel
theorem d_World_init_5 : decode prog_8_method_1_code 5 = .ok (.new 9, 3) := by decide +kernel
theorem d_World_init_8 : decode prog_8_method_1_code 8 = .ok (.dup, 1) := by decide +kernel
theorem d_World_init_9 : decode prog_8_method_1_code 9 = .ok (.invokespecial 11, 3) := by decide +kernel
theorem d_World_init_12 : decode prog_8_method_1_code 12 = .ok (.putfield 12, 3) := by decide +kernel
theorem d_World_init_15 : decode prog_8_method_1_code 15 = .ok (.aload_n 0, 1) := by decide +kernel
theorem d_World_init_16 : decode prog_8_method_1_code 16 = .ok (.sipush 256, 3) := by decide +kernel
theorem d_World_init_19 : decode prog_8_method_1_code 19 = .ok (.newarray .int, 2) := by decide +kernel
theorem d_World_init_21 : decode prog_8_method_1_code 21 = .ok (.putfield 18, 3) := by decide +kernel
theorem d_World_init_24 : decode prog_8_method_1_code 24 = .ok (.aload_n 0, 1) := by decide +kernel
theorem d_World_init_25 : decode prog_8_method_1_code 25 = .ok (.bipush 16, 2) := by decide +kernel
theorem d_World_init_27 : decode prog_8_method_1_code 27 = .ok (.newarray .int, 2) := by decide +kernel
theorem d_World_init_29 : decode prog_8_method_1_code 29 = .ok (.putfield 22, 3) := by decide +kernel
theorem d_World_init_32 : decode prog_8_method_1_code 32 = .ok (.aload_n 0, 1) := by decide +kernel
theorem d_World_init_33 : decode prog_8_method_1_code 33 = .ok (.bipush 32, 2) := by decide +kernel
theorem d_World_init_35 : decode prog_8_method_1_code 35 = .ok (.newarray .int, 2) := by decide +kernel
theorem d_World_init_37 : decode prog_8_method_1_code 37 = .ok (.putfield 25, 3) := by decide +kernel
theorem d_World_init_40 : decode prog_8_method_1_code 40 = .ok (.aload_n 0, 1) := by decide +kernel
theorem d_World_init_41 : decode prog_8_method_1_code 41 = .ok (.bipush 32, 2) := by decide +kernel
theorem d_World_init_43 : decode prog_8_method_1_code 43 = .ok (.newarray .int, 2) := by decide +kernel
theorem d_World_init_45 : decode prog_8_method_1_code 45 = .ok (.putfield 28, 3) := by decide +kernel
theorem d_World_init_48 : decode prog_8_method_1_code 48 = .ok (.return_, 1) := by decide +kernel
theorem d_History_init_0 : decode prog_3_method_1_code 0 = .ok (.aload_n 0, 1) := by decide +kernel
theorem d_History_init_1 : decode prog_3_method_1_code 1 = .ok (.invokespecial 3, 3) := by decide +kernel
theorem d_History_init_4 : decode prog_3_method_1_code 4 = .ok (.aload_n 0, 1) := by decide +kernel
theorem d_History_init_5 : decode prog_3_method_1_code 5 = .ok (.iconst 3, 1) := by decide +kernel
theorem d_History_init_6 : decode prog_3_method_1_code 6 = .ok (.anewarray 9, 3) := by decide +kernel
theorem d_History_init_9 : decode prog_3_method_1_code 9 = .ok (.putfield 11, 3) := by decide +kernel
theorem d_History_init_12 : decode prog_3_method_1_code 12 = .ok (.aload_n 0, 1) := by decide +kernel
theorem d_History_init_13 : decode prog_3_method_1_code 13 = .ok (.iconst 2, 1) := by decide +kernel
theorem d_History_init_14 : decode prog_3_method_1_code 14 = .ok (.anewarray 9, 3) := by decide +kernel
theorem d_History_init_17 : decode prog_3_method_1_code 17 = .ok (.putfield 17, 3) := by decide +kernel
theorem d_History_init_20 : decode prog_3_method_1_code 20 = .ok (.aload_n 0, 1) := by decide +kernel
theorem d_History_init_21 : decode prog_3_method_1_code 21 = .ok (.iconst 2, 1) := by decide +kernel
theorem d_History_init_22 : decode prog_3_method_1_code 22 = .ok (.newarray .boolean, 2) := by decide +kernel
theorem d_History_init_24 : decode prog_3_method_1_code 24 = .ok (.putfield 20, 3) := by decide +kernel
theorem d_History_init_27 : decode prog_3_method_1_code 27 = .ok (.iconst 0, 1) := by decide +kernel
theorem d_History_init_28 : decode prog_3_method_1_code 28 = .ok (.istore_n 1, 1) := by decide +kernel
theorem d_History_init_29 : decode prog_3_method_1_code 29 = .ok (.iload_n 1, 1) := by decide +kernel
theorem d_History_init_30 : decode prog_3_method_1_code 30 = .ok (.iconst 3, 1) := by decide +kernel
theorem d_History_init_31 : decode prog_3_method_1_code 31 = .ok (.if_icmp .ge 22, 3) := by decide +kernel
theorem d_History_init_34 : decode prog_3_method_1_code 34 = .ok (.aload_n 0, 1) := by decide +kernel
theorem d_History_init_35 : decode prog_3_method_1_code 35 = .ok (.getfield 11, 3) := by decide +kernel
theorem d_History_init_38 : decode prog_3_method_1_code 38 = .ok (.iload_n 1, 1) := by decide +kernel
theorem d_History_init_39 : decode prog_3_method_1_code 39 = .ok (.new 9, 3) := by decide +kernel
theorem d_History_init_42 : decode prog_3_method_1_code 42 = .ok (.dup, 1) := by decide +kernel
theorem d_History_init_43 : decode prog_3_method_1_code 43 = .ok (.invokespecial 24, 3) := by decide +kernel
theorem d_History_init_46 : decode prog_3_method_1_code 46 = .ok (.aastore, 1) := by decide +kernel
theorem d_History_init_47 : decode prog_3_method_1_code 47 = .ok (.iinc 1 1, 3) := by decide +kernel
theorem d_History_init_50 : decode prog_3_method_1_code 50 = .ok (.goto (-21), 3) := by decide +kernel
theorem d_History_init_53 : decode prog_3_method_1_code 53 = .ok (.iconst 0, 1) := by decide +kernel
theorem d_History_init_54 : decode prog_3_method_1_code 54 = .ok (.istore_n 1, 1) := by decide +kernel
theorem d_History_init_55 : decode prog_3_method_1_code 55 = .ok (.iload_n 1, 1) := by decide +kernel
theorem d_History_init_56 : decode prog_3_method_1_code 56 = .ok (.iconst 2, 1) := by decide +kernel
theorem d_History_init_57 : decode prog_3_method_1_code 57 = .ok (.if_icmp .ge 22, 3) := by decide +kernel
theorem d_History_init_60 : decode prog_3_method_1_code 60 = .ok (.aload_n 0, 1) := by decide +kernel
theorem d_History_init_61 : decode prog_3_method_1_code 61 = .ok (.getfield 17, 3) := by decide +kernel
theorem d_History_init_64 : decode prog_3_method_1_code 64 = .ok (.iload_n 1, 1) := by decide +kernel
theorem d_History_init_65 : decode prog_3_method_1_code 65 = .ok (.new 9, 3) := by decide +kernel
theorem d_History_init_68 : decode prog_3_method_1_code 68 = .ok (.dup, 1) := by decide +kernel
theorem d_History_init_69 : decode prog_3_method_1_code 69 = .ok (.invokespecial 24, 3) := by decide +kernel
theorem d_History_init_72 : decode prog_3_method_1_code 72 = .ok (.aastore, 1) := by decide +kernel
theorem d_History_init_73 : decode prog_3_method_1_code 73 = .ok (.iinc 1 1, 3) := by decide +kernel
theorem d_History_init_76 : decode prog_3_method_1_code 76 = .ok (.goto (-21), 3) := by decide +kernel
theorem d_History_init_79 : decode prog_3_method_1_code 79 = .ok (.return_, 1) := by decide +kernel
theorem d_Teller_init_0 : decode prog_6_method_1_code 0 = .ok (.aload_n 0, 1) := by decide +kernel
theorem d_Teller_init_1 : decode prog_6_method_1_code 1 = .ok (.invokespecial 3, 3) := by decide +kernel
theorem d_Teller_init_4 : decode prog_6_method_1_code 4 = .ok (.aload_n 0, 1) := by decide +kernel
theorem d_Teller_init_5 : decode prog_6_method_1_code 5 = .ok (.bipush 8, 2) := by decide +kernel
theorem d_Teller_init_7 : decode prog_6_method_1_code 7 = .ok (.anewarray 9, 3) := by decide +kernel
theorem d_Teller_init_10 : decode prog_6_method_1_code 10 = .ok (.putfield 11, 3) := by decide +kernel
theorem d_Teller_init_13 : decode prog_6_method_1_code 13 = .ok (.aload_n 0, 1) := by decide +kernel
theorem d_Teller_init_14 : decode prog_6_method_1_code 14 = .ok (.new 17, 3) := by decide +kernel
theorem d_Teller_init_17 : decode prog_6_method_1_code 17 = .ok (.dup, 1) := by decide +kernel
theorem d_Teller_init_18 : decode prog_6_method_1_code 18 = .ok (.bipush 40, 2) := by decide +kernel
theorem d_Teller_init_20 : decode prog_6_method_1_code 20 = .ok (.invokespecial 19, 3) := by decide +kernel
theorem d_Teller_init_23 : decode prog_6_method_1_code 23 = .ok (.putfield 22, 3) := by decide +kernel
theorem d_Teller_init_26 : decode prog_6_method_1_code 26 = .ok (.aload_n 0, 1) := by decide +kernel
theorem d_Teller_init_27 : decode prog_6_method_1_code 27 = .ok (.new 17, 3) := by decide +kernel
theorem d_Teller_init_30 : decode prog_6_method_1_code 30 = .ok (.dup, 1) := by decide +kernel
theorem d_Teller_init_31 : decode prog_6_method_1_code 31 = .ok (.bipush 50, 2) := by decide +kernel
theorem d_Teller_init_33 : decode prog_6_method_1_code 33 = .ok (.invokespecial 19, 3) := by decide +kernel
theorem d_Teller_init_36 : decode prog_6_method_1_code 36 = .ok (.putfield 26, 3) := by decide +kernel
theorem d_Teller_init_39 : decode prog_6_method_1_code 39 = .ok (.aload_n 0, 1) := by decide +kernel
theorem d_Teller_init_40 : decode prog_6_method_1_code 40 = .ok (.new 17, 3) := by decide +kernel
theorem d_Teller_init_43 : decode prog_6_method_1_code 43 = .ok (.dup, 1) := by decide +kernel
theorem d_Teller_init_44 : decode prog_6_method_1_code 44 = .ok (.iconst 1, 1) := by decide +kernel
theorem d_Teller_init_45 : decode prog_6_method_1_code 45 = .ok (.invokespecial 19, 3) := by decide +kernel
theorem d_Teller_init_48 : decode prog_6_method_1_code 48 = .ok (.putfield 29, 3) := by decide +kernel
theorem d_Teller_init_51 : decode prog_6_method_1_code 51 = .ok (.aload_n 0, 1) := by decide +kernel
theorem d_Teller_init_52 : decode prog_6_method_1_code 52 = .ok (.iconst (-1), 1) := by decide +kernel
theorem d_Teller_init_53 : decode prog_6_method_1_code 53 = .ok (.putfield 32, 3) := by decide +kernel
theorem d_Teller_init_56 : decode prog_6_method_1_code 56 = .ok (.aload_n 0, 1) := by decide +kernel
theorem d_Teller_init_57 : decode prog_6_method_1_code 57 = .ok (.aload_n 1, 1) := by decide +kernel
theorem d_Teller_init_58 : decode prog_6_method_1_code 58 = .ok (.putfield 36, 3) := by decide +kernel
theorem d_Teller_init_61 : decode prog_6_method_1_code 61 = .ok (.aload_n 0, 1) := by decide +kernel
theorem d_Teller_init_62 : decode prog_6_method_1_code 62 = .ok (.aload_n 2, 1) := by decide +kernel
theorem d_Teller_init_63 : decode prog_6_method_1_code 63 = .ok (.putfield 40, 3) := by decide +kernel
theorem d_Teller_init_66 : decode prog_6_method_1_code 66 = .ok (.aload_n 0, 1) := by decide +kernel
theorem d_Teller_init_67 : decode prog_6_method_1_code 67 = .ok (.aload_n 3, 1) := by decide +kernel
theorem d_Teller_init_68 : decode prog_6_method_1_code 68 = .ok (.putfield 44, 3) := by decide +kernel
theorem d_Teller_init_71 : decode prog_6_method_1_code 71 = .ok (.iconst 0, 1) := by decide +kernel
theorem d_Teller_init_72 : decode prog_6_method_1_code 72 = .ok (.istore 4, 2) := by decide +kernel
theorem d_Teller_init_74 : decode prog_6_method_1_code 74 = .ok (.iload 4, 2) := by decide +kernel
theorem d_Teller_init_76 : decode prog_6_method_1_code 76 = .ok (.bipush 8, 2) := by decide +kernel
theorem d_Teller_init_78 : decode prog_6_method_1_code 78 = .ok (.if_icmp .ge 23, 3) := by decide +kernel
theorem d_Teller_init_81 : decode prog_6_method_1_code 81 = .ok (.aload_n 0, 1) := by decide +kernel
theorem d_Teller_init_82 : decode prog_6_method_1_code 82 = .ok (.getfield 11, 3) := by decide +kernel
theorem d_Teller_init_85 : decode prog_6_method_1_code 85 = .ok (.iload 4, 2) := by decide +kernel
theorem d_Teller_init_87 : decode prog_6_method_1_code 87 = .ok (.new 9, 3) := by decide +kernel
theorem d_Teller_init_90 : decode prog_6_method_1_code 90 = .ok (.dup, 1) := by decide +kernel
theorem d_Teller_init_91 : decode prog_6_method_1_code 91 = .ok (.invokespecial 48, 3) := by decide +kernel
theorem d_Teller_init_94 : decode prog_6_method_1_code 94 = .ok (.aastore, 1) := by decide +kernel
theorem d_Teller_init_95 : decode prog_6_method_1_code 95 = .ok (.iinc 4 1, 3) := by decide +kernel
theorem d_Teller_init_98 : decode prog_6_method_1_code 98 = .ok (.goto (-24), 3) := by decide +kernel
theorem d_Teller_init_101 : decode prog_6_method_1_code 101 = .ok (.return_, 1) := by decide +kernel
theorem d_TM_init_0 : decode prog_1_method_1_code 0 = .ok (.aload_n 0, 1) := by decide +kernel
theorem d_TM_init_1 : decode prog_1_method_1_code 1 = .ok (.invokespecial 3, 3) := by decide +kernel
theorem d_TM_init_4 : decode prog_1_method_1_code 4 = .ok (.aload_n 0, 1) := by decide +kernel
theorem d_TM_init_5 : decode prog_1_method_1_code 5 = .ok (.new 9, 3) := by decide +kernel
theorem d_TM_init_8 : decode prog_1_method_1_code 8 = .ok (.dup, 1) := by decide +kernel
theorem d_TM_init_9 : decode prog_1_method_1_code 9 = .ok (.invokespecial 11, 3) := by decide +kernel
theorem d_TM_init_12 : decode prog_1_method_1_code 12 = .ok (.putfield 12, 3) := by decide +kernel
theorem d_TM_init_15 : decode prog_1_method_1_code 15 = .ok (.aload_n 0, 1) := by decide +kernel
theorem d_TM_init_16 : decode prog_1_method_1_code 16 = .ok (.new 16, 3) := by decide +kernel
theorem d_TM_init_19 : decode prog_1_method_1_code 19 = .ok (.dup, 1) := by decide +kernel
theorem d_TM_init_20 : decode prog_1_method_1_code 20 = .ok (.invokespecial 18, 3) := by decide +kernel
theorem d_TM_init_23 : decode prog_1_method_1_code 23 = .ok (.putfield 19, 3) := by decide +kernel
theorem d_TM_init_26 : decode prog_1_method_1_code 26 = .ok (.aload_n 0, 1) := by decide +kernel
theorem d_TM_init_27 : decode prog_1_method_1_code 27 = .ok (.new 23, 3) := by decide +kernel
theorem d_TM_init_30 : decode prog_1_method_1_code 30 = .ok (.dup, 1) := by decide +kernel
theorem d_TM_init_31 : decode prog_1_method_1_code 31 = .ok (.invokespecial 25, 3) := by decide +kernel
theorem d_TM_init_34 : decode prog_1_method_1_code 34 = .ok (.putfield 26, 3) := by decide +kernel
theorem d_TM_init_37 : decode prog_1_method_1_code 37 = .ok (.aload_n 0, 1) := by decide +kernel
theorem d_TM_init_38 : decode prog_1_method_1_code 38 = .ok (.new 30, 3) := by decide +kernel
theorem d_TM_init_41 : decode prog_1_method_1_code 41 = .ok (.dup, 1) := by decide +kernel
theorem d_TM_init_42 : decode prog_1_method_1_code 42 = .ok (.aload_n 0, 1) := by decide +kernel
theorem d_TM_init_43 : decode prog_1_method_1_code 43 = .ok (.getfield 12, 3) := by decide +kernel
theorem d_TM_init_46 : decode prog_1_method_1_code 46 = .ok (.aload_n 0, 1) := by decide +kernel
theorem d_TM_init_47 : decode prog_1_method_1_code 47 = .ok (.getfield 19, 3) := by decide +kernel
theorem d_TM_init_50 : decode prog_1_method_1_code 50 = .ok (.aload_n 0, 1) := by decide +kernel
theorem d_TM_init_51 : decode prog_1_method_1_code 51 = .ok (.getfield 26, 3) := by decide +kernel
theorem d_TM_init_54 : decode prog_1_method_1_code 54 = .ok (.invokespecial 32, 3) := by decide +kernel
theorem d_TM_init_57 : decode prog_1_method_1_code 57 = .ok (.putfield 35, 3) := by decide +kernel
theorem d_TM_init_60 : decode prog_1_method_1_code 60 = .ok (.return_, 1) := by decide +kernel
theorem d_Script_append_0 : decode prog_4_method_2_code 0 = .ok (.iload_n 2, 1) := by decide +kernel
theorem d_Script_append_1 : decode prog_4_method_2_code 1 = .ok (.iconst 1, 1) := by decide +kernel
theorem d_Script_append_2 : decode prog_4_method_2_code 2 = .ok (.if_icmp .lt 20, 3) := by decide +kernel
theorem d_Script_append_5 : decode prog_4_method_2_code 5 = .ok (.iload_n 2, 1) := by decide +kernel
theorem d_Script_append_6 : decode prog_4_method_2_code 6 = .ok (.iconst 4, 1) := by decide +kernel
theorem d_Script_append_7 : decode prog_4_method_2_code 7 = .ok (.if_icmp .gt 15, 3) := by decide +kernel
theorem d_Script_append_10 : decode prog_4_method_2_code 10 = .ok (.aload_n 0, 1) := by decide +kernel
theorem d_Script_append_11 : decode prog_4_method_2_code 11 = .ok (.getfield 15, 3) := by decide +kernel
theorem d_Script_append_14 : decode prog_4_method_2_code 14 = .ok (.iload_n 2, 1) := by decide +kernel
theorem d_Script_append_15 : decode prog_4_method_2_code 15 = .ok (.iadd, 1) := by decide +kernel
theorem d_Script_append_16 : decode prog_4_method_2_code 16 = .ok (.sipush 300, 3) := by decide +kernel
theorem d_Script_append_19 : decode prog_4_method_2_code 19 = .ok (.if_icmp .le 5, 3) := by decide +kernel
theorem d_Script_append_24 : decode prog_4_method_2_code 24 = .ok (.iload_n 2, 1) := by decide +kernel
theorem d_Script_append_25 : decode prog_4_method_2_code 25 = .ok (.iconst 1, 1) := by decide +kernel
theorem d_Script_append_26 : decode prog_4_method_2_code 26 = .ok (.isub, 1) := by decide +kernel
theorem d_Script_append_27 : decode prog_4_method_2_code 27 = .ok (.istore_n 3, 1) := by decide +kernel
theorem d_Script_append_28 : decode prog_4_method_2_code 28 = .ok (.iload_n 3, 1) := by decide +kernel
theorem d_Script_append_29 : decode prog_4_method_2_code 29 = .ok (.ifCond .lt 38, 3) := by decide +kernel
theorem d_Script_append_32 : decode prog_4_method_2_code 32 = .ok (.aload_n 0, 1) := by decide +kernel
theorem d_Script_append_33 : decode prog_4_method_2_code 33 = .ok (.getfield 9, 3) := by decide +kernel
theorem d_Script_append_36 : decode prog_4_method_2_code 36 = .ok (.aload_n 0, 1) := by decide +kernel
theorem d_Script_append_37 : decode prog_4_method_2_code 37 = .ok (.getfield 15, 3) := by decide +kernel
theorem d_Script_append_40 : decode prog_4_method_2_code 40 = .ok (.iload_n 1, 1) := by decide +kernel
theorem d_Script_append_41 : decode prog_4_method_2_code 41 = .ok (.bipush 8, 2) := by decide +kernel
theorem d_Script_append_43 : decode prog_4_method_2_code 43 = .ok (.iload_n 3, 1) := by decide +kernel
theorem d_Script_append_44 : decode prog_4_method_2_code 44 = .ok (.imul, 1) := by decide +kernel
theorem d_Script_append_45 : decode prog_4_method_2_code 45 = .ok (.iushr, 1) := by decide +kernel
theorem d_Script_append_46 : decode prog_4_method_2_code 46 = .ok (.sipush 255, 3) := by decide +kernel
theorem d_Script_append_49 : decode prog_4_method_2_code 49 = .ok (.iand, 1) := by decide +kernel
theorem d_Script_append_50 : decode prog_4_method_2_code 50 = .ok (.iastore, 1) := by decide +kernel
theorem d_Script_append_51 : decode prog_4_method_2_code 51 = .ok (.aload_n 0, 1) := by decide +kernel
theorem d_Script_append_52 : decode prog_4_method_2_code 52 = .ok (.dup, 1) := by decide +kernel
theorem d_Script_append_53 : decode prog_4_method_2_code 53 = .ok (.getfield 15, 3) := by decide +kernel
theorem d_Script_append_56 : decode prog_4_method_2_code 56 = .ok (.iconst 1, 1) := by decide +kernel
theorem d_Script_append_57 : decode prog_4_method_2_code 57 = .ok (.iadd, 1) := by decide +kernel
theorem d_Script_append_58 : decode prog_4_method_2_code 58 = .ok (.putfield 15, 3) := by decide +kernel
theorem d_Script_append_61 : decode prog_4_method_2_code 61 = .ok (.iinc 3 (-1), 3) := by decide +kernel
theorem d_Script_append_64 : decode prog_4_method_2_code 64 = .ok (.goto (-36), 3) := by decide +kernel
theorem d_Script_append_67 : decode prog_4_method_2_code 67 = .ok (.iconst 1, 1) := by decide +kernel
theorem d_Script_append_68 : decode prog_4_method_2_code 68 = .ok (.ireturn, 1) := by decide +kernel
theorem d_TM_code_0 : decode prog_1_method_2_code 0 = .ok (.aload_n 0, 1) := by decide +kernel
theorem d_TM_code_1 : decode prog_1_method_2_code 1 = .ok (.getfield 12, 3) := by decide +kernel
theorem d_TM_code_4 : decode prog_1_method_2_code 4 = .ok (.iload_n 1, 1) := by decide +kernel
theorem d_TM_code_5 : decode prog_1_method_2_code 5 = .ok (.iload_n 2, 1) := by decide +kernel
theorem d_TM_code_6 : decode prog_1_method_2_code 6 = .ok (.invokevirtual 39, 3) := by decide +kernel
theorem d_TM_code_9 : decode prog_1_method_2_code 9 = .ok (.ireturn, 1) := by decide +kernel
theorem d_Script_append_22 : decode prog_4_method_2_code 22 = .ok (.iconst 0, 1) := by decide +kernel
theorem d_Script_append_23 : decode prog_4_method_2_code 23 = .ok (.ireturn, 1) := by decide +kernel
theorem d_World_isFixed_0 : decode prog_8_method_2_code 0 = .ok (.iload_n 1, 1) := by decide +kernel
theorem d_World_isFixed_1 : decode prog_8_method_2_code 1 = .ok (.ifCond .lt 15, 3) := by decide +kernel
theorem d_World_isFixed_16 : decode prog_8_method_2_code 16 = .ok (.iconst 0, 1) := by decide +kernel
theorem d_World_isFixed_17 : decode prog_8_method_2_code 17 = .ok (.ireturn, 1) := by decide +kernel
theorem d_World_isFixed_4 : decode prog_8_method_2_code 4 = .ok (.iload_n 1, 1) := by decide +kernel
theorem d_World_isFixed_5 : decode prog_8_method_2_code 5 = .ok (.aload_n 0, 1) := by decide +kernel
theorem d_World_isFixed_6 : decode prog_8_method_2_code 6 = .ok (.getfield 31, 3) := by decide +kernel
theorem d_World_isFixed_9 : decode prog_8_method_2_code 9 = .ok (.if_icmp .ge 7, 3) := by decide +kernel
theorem d_World_isThere_0 : decode prog_8_method_3_code 0 = .ok (.aload_n 0, 1) := by decide +kernel
theorem d_World_isThere_1 : decode prog_8_method_3_code 1 = .ok (.iload_n 1, 1) := by decide +kernel
theorem d_World_isThere_2 : decode prog_8_method_3_code 2 = .ok (.invokevirtual 35, 3) := by decide +kernel
theorem d_World_isThere_5 : decode prog_8_method_3_code 5 = .ok (.ifCond .ne 31, 3) := by decide +kernel
theorem d_World_isThere_8 : decode prog_8_method_3_code 8 = .ok (.iload_n 1, 1) := by decide +kernel
theorem d_World_isThere_9 : decode prog_8_method_3_code 9 = .ok (.bipush 16, 2) := by decide +kernel
theorem d_World_isThere_11 : decode prog_8_method_3_code 11 = .ok (.if_icmp .lt 29, 3) := by decide +kernel
theorem d_World_isThere_40 : decode prog_8_method_3_code 40 = .ok (.iconst 0, 1) := by decide +kernel
theorem d_World_isThere_41 : decode prog_8_method_3_code 41 = .ok (.ireturn, 1) := by decide +kernel
theorem d_World_isThere_14 : decode prog_8_method_3_code 14 = .ok (.iload_n 1, 1) := by decide +kernel
theorem d_World_isThere_15 : decode prog_8_method_3_code 15 = .ok (.bipush 32, 2) := by decide +kernel
theorem d_World_isThere_17 : decode prog_8_method_3_code 17 = .ok (.if_icmp .ge 23, 3) := by decide +kernel
theorem d_World_isThere_20 : decode prog_8_method_3_code 20 = .ok (.aload_n 0, 1) := by decide +kernel
theorem d_World_isThere_21 : decode prog_8_method_3_code 21 = .ok (.getfield 12, 3) := by decide +kernel
theorem d_World_isThere_24 : decode prog_8_method_3_code 24 = .ok (.getfield 39, 3) := by decide +kernel
theorem d_World_isThere_27 : decode prog_8_method_3_code 27 = .ok (.iload_n 1, 1) := by decide +kernel
theorem d_World_isThere_28 : decode prog_8_method_3_code 28 = .ok (.bipush 16, 2) := by decide +kernel
theorem d_World_isThere_30 : decode prog_8_method_3_code 30 = .ok (.isub, 1) := by decide +kernel
theorem d_World_isThere_31 : decode prog_8_method_3_code 31 = .ok (.iaload, 1) := by decide +kernel
theorem d_World_isThere_32 : decode prog_8_method_3_code 32 = .ok (.iconst (-1), 1) := by decide +kernel
theorem d_World_isThere_33 : decode prog_8_method_3_code 33 = .ok (.if_icmp .eq 7, 3) := by decide +kernel
theorem d_World_count_0 : decode prog_8_method_4_code 0 = .ok (.aload_n 0, 1) := by decide +kernel
theorem d_World_count_1 : decode prog_8_method_4_code 1 = .ok (.getfield 31, 3) := by decide +kernel
theorem d_World_count_4 : decode prog_8_method_4_code 4 = .ok (.istore_n 1, 1) := by decide +kernel
theorem d_World_count_5 : decode prog_8_method_4_code 5 = .ok (.iconst 0, 1) := by decide +kernel
theorem d_World_count_6 : decode prog_8_method_4_code 6 = .ok (.istore_n 2, 1) := by decide +kernel
theorem d_World_count_7 : decode prog_8_method_4_code 7 = .ok (.iload_n 2, 1) := by decide +kernel
theorem d_World_count_8 : decode prog_8_method_4_code 8 = .ok (.bipush 16, 2) := by decide +kernel
theorem d_World_count_10 : decode prog_8_method_4_code 10 = .ok (.if_icmp .ge 25, 3) := by decide +kernel
theorem d_World_count_13 : decode prog_8_method_4_code 13 = .ok (.aload_n 0, 1) := by decide +kernel
theorem d_World_count_14 : decode prog_8_method_4_code 14 = .ok (.getfield 12, 3) := by decide +kernel
theorem d_World_count_17 : decode prog_8_method_4_code 17 = .ok (.getfield 39, 3) := by decide +kernel
theorem d_World_count_20 : decode prog_8_method_4_code 20 = .ok (.iload_n 2, 1) := by decide +kernel
theorem d_World_count_21 : decode prog_8_method_4_code 21 = .ok (.iaload, 1) := by decide +kernel
theorem d_World_count_22 : decode prog_8_method_4_code 22 = .ok (.iconst (-1), 1) := by decide +kernel
theorem d_World_count_23 : decode prog_8_method_4_code 23 = .ok (.if_icmp .eq 6, 3) := by decide +kernel
theorem d_World_count_29 : decode prog_8_method_4_code 29 = .ok (.iinc 2 1, 3) := by decide +kernel
theorem d_World_count_32 : decode prog_8_method_4_code 32 = .ok (.goto (-25), 3) := by decide +kernel
theorem d_World_count_35 : decode prog_8_method_4_code 35 = .ok (.iload_n 1, 1) := by decide +kernel
theorem d_World_count_36 : decode prog_8_method_4_code 36 = .ok (.ireturn, 1) := by decide +kernel
theorem d_World_forgetReached_0 : decode prog_8_method_18_code 0 = .ok (.aload_n 0, 1) := by decide +kernel
theorem d_World_forgetReached_1 : decode prog_8_method_18_code 1 = .ok (.iconst 0, 1) := by decide +kernel
theorem d_World_forgetReached_2 : decode prog_8_method_18_code 2 = .ok (.putfield 85, 3) := by decide +kernel
theorem d_World_forgetReached_5 : decode prog_8_method_18_code 5 = .ok (.aload_n 0, 1) := by decide +kernel
theorem d_World_forgetReached_6 : decode prog_8_method_18_code 6 = .ok (.iconst 0, 1) := by decide +kernel
theorem d_World_forgetReached_7 : decode prog_8_method_18_code 7 = .ok (.putfield 88, 3) := by decide +kernel
theorem d_World_forgetReached_10 : decode prog_8_method_18_code 10 = .ok (.return_, 1) := by decide +kernel
theorem d_World_sweep_0 : decode prog_8_method_21_code 0 = .ok (.iconst 0, 1) := by decide +kernel
theorem d_World_sweep_1 : decode prog_8_method_21_code 1 = .ok (.istore_n 1, 1) := by decide +kernel
theorem d_World_sweep_2 : decode prog_8_method_21_code 2 = .ok (.iload_n 1, 1) := by decide +kernel
theorem d_World_sweep_3 : decode prog_8_method_21_code 3 = .ok (.aload_n 0, 1) := by decide +kernel
theorem d_World_sweep_4 : decode prog_8_method_21_code 4 = .ok (.getfield 31, 3) := by decide +kernel
theorem d_World_sweep_7 : decode prog_8_method_21_code 7 = .ok (.if_icmp .ge 14, 3) := by decide +kernel
theorem d_World_sweep_21 : decode prog_8_method_21_code 21 = .ok (.iconst 0, 1) := by decide +kernel
theorem d_World_sweep_22 : decode prog_8_method_21_code 22 = .ok (.istore_n 1, 1) := by decide +kernel
theorem d_World_sweep_23 : decode prog_8_method_21_code 23 = .ok (.iload_n 1, 1) := by decide +kernel
theorem d_World_sweep_24 : decode prog_8_method_21_code 24 = .ok (.aload_n 0, 1) := by decide +kernel
theorem d_World_sweep_25 : decode prog_8_method_21_code 25 = .ok (.getfield 85, 3) := by decide +kernel
theorem d_World_sweep_28 : decode prog_8_method_21_code 28 = .ok (.if_icmp .ge 25, 3) := by decide +kernel
theorem d_World_sweep_53 : decode prog_8_method_21_code 53 = .ok (.iconst 0, 1) := by decide +kernel
theorem d_World_sweep_54 : decode prog_8_method_21_code 54 = .ok (.istore_n 1, 1) := by decide +kernel
theorem d_World_sweep_55 : decode prog_8_method_21_code 55 = .ok (.bipush 16, 2) := by decide +kernel
theorem d_World_sweep_57 : decode prog_8_method_21_code 57 = .ok (.istore_n 2, 1) := by decide +kernel
theorem d_World_sweep_58 : decode prog_8_method_21_code 58 = .ok (.iload_n 2, 1) := by decide +kernel
theorem d_World_sweep_59 : decode prog_8_method_21_code 59 = .ok (.bipush 32, 2) := by decide +kernel
theorem d_World_sweep_61 : decode prog_8_method_21_code 61 = .ok (.if_icmp .ge 44, 3) := by decide +kernel
theorem d_World_sweep_64 : decode prog_8_method_21_code 64 = .ok (.aload_n 0, 1) := by decide +kernel
theorem d_World_sweep_65 : decode prog_8_method_21_code 65 = .ok (.iload_n 2, 1) := by decide +kernel
theorem d_World_sweep_66 : decode prog_8_method_21_code 66 = .ok (.invokevirtual 82, 3) := by decide +kernel
theorem d_World_sweep_69 : decode prog_8_method_21_code 69 = .ok (.ifCond .eq 30, 3) := by decide +kernel
theorem d_World_sweep_99 : decode prog_8_method_21_code 99 = .ok (.iinc 2 1, 3) := by decide +kernel
theorem d_World_sweep_102 : decode prog_8_method_21_code 102 = .ok (.goto (-44), 3) := by decide +kernel
theorem d_World_sweep_105 : decode prog_8_method_21_code 105 = .ok (.iload_n 1, 1) := by decide +kernel
theorem d_World_sweep_106 : decode prog_8_method_21_code 106 = .ok (.ireturn, 1) := by decide +kernel
theorem d_World_descends_0 : decode prog_8_method_17_code 0 = .ok (.aload_n 0, 1) := by decide +kernel
theorem d_World_descends_1 : decode prog_8_method_17_code 1 = .ok (.iload_n 1, 1) := by decide +kernel
theorem d_World_descends_2 : decode prog_8_method_17_code 2 = .ok (.invokevirtual 82, 3) := by decide +kernel
theorem d_World_descends_5 : decode prog_8_method_17_code 5 = .ok (.ifCond .eq 11, 3) := by decide +kernel
theorem d_World_descends_16 : decode prog_8_method_17_code 16 = .ok (.iconst 0, 1) := by decide +kernel
theorem d_World_descends_17 : decode prog_8_method_17_code 17 = .ok (.ireturn, 1) := by decide +kernel
theorem d_Teller_reachRoots_0 : decode prog_6_method_6_code 0 = .ok (.iconst 0, 1) := by decide +kernel
theorem d_Teller_reachRoots_1 : decode prog_6_method_6_code 1 = .ok (.istore_n 1, 1) := by decide +kernel
theorem d_Teller_reachRoots_2 : decode prog_6_method_6_code 2 = .ok (.iload_n 1, 1) := by decide +kernel
theorem d_Teller_reachRoots_3 : decode prog_6_method_6_code 3 = .ok (.aload_n 0, 1) := by decide +kernel
theorem d_Teller_reachRoots_4 : decode prog_6_method_6_code 4 = .ok (.getfield 22, 3) := by decide +kernel
theorem d_Teller_reachRoots_7 : decode prog_6_method_6_code 7 = .ok (.getfield 52, 3) := by decide +kernel
theorem d_Teller_reachRoots_10 : decode prog_6_method_6_code 10 = .ok (.if_icmp .ge 34, 3) := by decide +kernel
theorem d_Teller_reachRoots_44 : decode prog_6_method_6_code 44 = .ok (.iconst 0, 1) := by decide +kernel
theorem d_Teller_reachRoots_45 : decode prog_6_method_6_code 45 = .ok (.istore_n 1, 1) := by decide +kernel
theorem d_Teller_reachRoots_46 : decode prog_6_method_6_code 46 = .ok (.iload_n 1, 1) := by decide +kernel
theorem d_Teller_reachRoots_47 : decode prog_6_method_6_code 47 = .ok (.aload_n 0, 1) := by decide +kernel
theorem d_Teller_reachRoots_48 : decode prog_6_method_6_code 48 = .ok (.getfield 49, 3) := by decide +kernel
theorem d_Teller_reachRoots_51 : decode prog_6_method_6_code 51 = .ok (.if_icmp .ge 41, 3) := by decide +kernel
theorem d_Teller_reachRoots_92 : decode prog_6_method_6_code 92 = .ok (.aload_n 0, 1) := by decide +kernel
theorem d_Teller_reachRoots_93 : decode prog_6_method_6_code 93 = .ok (.getfield 29, 3) := by decide +kernel
theorem d_Teller_reachRoots_96 : decode prog_6_method_6_code 96 = .ok (.getfield 52, 3) := by decide +kernel
theorem d_Teller_reachRoots_99 : decode prog_6_method_6_code 99 = .ok (.ifCond .le 28, 3) := by decide +kernel
theorem d_Teller_reachRoots_127 : decode prog_6_method_6_code 127 = .ok (.return_, 1) := by decide +kernel
theorem d_TM_collect_0 : decode prog_1_method_8_code 0 = .ok (.aload_n 0, 1) := by decide +kernel
theorem d_TM_collect_1 : decode prog_1_method_8_code 1 = .ok (.getfield 19, 3) := by decide +kernel
theorem d_TM_collect_4 : decode prog_1_method_8_code 4 = .ok (.invokevirtual 124, 3) := by decide +kernel
theorem d_TM_collect_7 : decode prog_1_method_8_code 7 = .ok (.aload_n 0, 1) := by decide +kernel
theorem d_TM_collect_8 : decode prog_1_method_8_code 8 = .ok (.getfield 35, 3) := by decide +kernel
theorem d_TM_collect_11 : decode prog_1_method_8_code 11 = .ok (.invokevirtual 127, 3) := by decide +kernel
theorem d_TM_collect_14 : decode prog_1_method_8_code 14 = .ok (.aload_n 0, 1) := by decide +kernel
theorem d_TM_collect_15 : decode prog_1_method_8_code 15 = .ok (.getfield 19, 3) := by decide +kernel
theorem d_TM_collect_18 : decode prog_1_method_8_code 18 = .ok (.invokevirtual 130, 3) := by decide +kernel
theorem d_TM_collect_21 : decode prog_1_method_8_code 21 = .ok (.ireturn, 1) := by decide +kernel
theorem d_TM_isOf_0 : decode prog_1_method_13_code 0 = .ok (.aload_n 0, 1) := by decide +kernel
theorem d_TM_isOf_1 : decode prog_1_method_13_code 1 = .ok (.getfield 19, 3) := by decide +kernel
theorem d_TM_isOf_4 : decode prog_1_method_13_code 4 = .ok (.iload_n 1, 1) := by decide +kernel
theorem d_TM_isOf_5 : decode prog_1_method_13_code 5 = .ok (.iload_n 2, 1) := by decide +kernel
theorem d_TM_isOf_6 : decode prog_1_method_13_code 6 = .ok (.invokevirtual 179, 3) := by decide +kernel
theorem d_TM_isOf_9 : decode prog_1_method_13_code 9 = .ok (.ireturn, 1) := by decide +kernel
theorem d_TM_stop_0 : decode prog_1_method_7_code 0 = .ok (.aload_n 0, 1) := by decide +kernel
theorem d_TM_stop_1 : decode prog_1_method_7_code 1 = .ok (.getfield 35, 3) := by decide +kernel
theorem d_TM_stop_4 : decode prog_1_method_7_code 4 = .ok (.getfield 58, 3) := by decide +kernel
theorem d_TM_stop_7 : decode prog_1_method_7_code 7 = .ok (.ifCond .eq 5, 3) := by decide +kernel
theorem d_TM_stop_10 : decode prog_1_method_7_code 10 = .ok (.iconst 0, 1) := by decide +kernel
theorem d_TM_stop_11 : decode prog_1_method_7_code 11 = .ok (.ireturn, 1) := by decide +kernel
theorem d_TM_run_0 : decode prog_1_method_6_code 0 = .ok (.iload_n 1, 1) := by decide +kernel
theorem d_TM_run_1 : decode prog_1_method_6_code 1 = .ok (.sipush 3000, 3) := by decide +kernel
theorem d_TM_run_4 : decode prog_1_method_6_code 4 = .ok (.invokestatic 111, 3) := by decide +kernel
theorem d_TM_run_7 : decode prog_1_method_6_code 7 = .ok (.istore_n 2, 1) := by decide +kernel
theorem d_TM_run_8 : decode prog_1_method_6_code 8 = .ok (.iconst 0, 1) := by decide +kernel
theorem d_TM_run_9 : decode prog_1_method_6_code 9 = .ok (.istore_n 3, 1) := by decide +kernel
theorem d_TM_run_10 : decode prog_1_method_6_code 10 = .ok (.iload_n 3, 1) := by decide +kernel
theorem d_TM_run_11 : decode prog_1_method_6_code 11 = .ok (.iload_n 2, 1) := by decide +kernel
theorem d_TM_run_12 : decode prog_1_method_6_code 12 = .ok (.if_icmp .ge 37, 3) := by decide +kernel
theorem d_TM_run_49 : decode prog_1_method_6_code 49 = .ok (.aload_n 0, 1) := by decide +kernel
theorem d_TM_run_50 : decode prog_1_method_6_code 50 = .ok (.getfield 35, 3) := by decide +kernel
theorem d_TM_run_53 : decode prog_1_method_6_code 53 = .ok (.getfield 58, 3) := by decide +kernel
theorem d_TM_run_56 : decode prog_1_method_6_code 56 = .ok (.ireturn, 1) := by decide +kernel
theorem d_TM_run_15 : decode prog_1_method_6_code 15 = .ok (.aload_n 0, 1) := by decide +kernel
theorem d_TM_run_16 : decode prog_1_method_6_code 16 = .ok (.getfield 35, 3) := by decide +kernel
theorem d_TM_run_19 : decode prog_1_method_6_code 19 = .ok (.getfield 58, 3) := by decide +kernel
theorem d_TM_run_22 : decode prog_1_method_6_code 22 = .ok (.ifCond .ne 27, 3) := by decide +kernel
theorem d_History_dropSaved_0 : decode prog_3_method_8_code 0 = .ok (.iconst 0, 1) := by decide +kernel
theorem d_History_dropSaved_1 : decode prog_3_method_8_code 1 = .ok (.istore_n 1, 1) := by decide +kernel
theorem d_History_dropSaved_2 : decode prog_3_method_8_code 2 = .ok (.iload_n 1, 1) := by decide +kernel
theorem d_History_dropSaved_3 : decode prog_3_method_8_code 3 = .ok (.iconst 2, 1) := by decide +kernel
theorem d_History_dropSaved_4 : decode prog_3_method_8_code 4 = .ok (.if_icmp .ge 16, 3) := by decide +kernel
theorem d_History_dropSaved_7 : decode prog_3_method_8_code 7 = .ok (.aload_n 0, 1) := by decide +kernel
theorem d_History_dropSaved_8 : decode prog_3_method_8_code 8 = .ok (.getfield 20, 3) := by decide +kernel
theorem d_History_dropSaved_11 : decode prog_3_method_8_code 11 = .ok (.iload_n 1, 1) := by decide +kernel
theorem d_History_dropSaved_12 : decode prog_3_method_8_code 12 = .ok (.iconst 0, 1) := by decide +kernel
theorem d_History_dropSaved_13 : decode prog_3_method_8_code 13 = .ok (.bastore, 1) := by decide +kernel
theorem d_History_dropSaved_14 : decode prog_3_method_8_code 14 = .ok (.iinc 1 1, 3) := by decide +kernel
theorem d_History_dropSaved_17 : decode prog_3_method_8_code 17 = .ok (.goto (-15), 3) := by decide +kernel
theorem d_History_dropSaved_20 : decode prog_3_method_8_code 20 = .ok (.return_, 1) := by decide +kernel
theorem d_World_fix_0 : decode prog_8_method_8_code 0 = .ok (.aload_n 0, 1) := by decide +kernel
theorem d_World_fix_1 : decode prog_8_method_8_code 1 = .ok (.iconst 0, 1) := by decide +kernel
theorem d_World_fix_2 : decode prog_8_method_8_code 2 = .ok (.putfield 48, 3) := by decide +kernel
theorem d_World_fix_5 : decode prog_8_method_8_code 5 = .ok (.iconst 0, 1) := by decide +kernel
theorem d_World_fix_6 : decode prog_8_method_8_code 6 = .ok (.istore 5, 2) := by decide +kernel
theorem d_World_fix_8 : decode prog_8_method_8_code 8 = .ok (.iload_n 1, 1) := by decide +kernel
theorem d_World_fix_9 : decode prog_8_method_8_code 9 = .ok (.iconst 1, 1) := by decide +kernel
theorem d_World_fix_10 : decode prog_8_method_8_code 10 = .ok (.isub, 1) := by decide +kernel
theorem d_World_fix_11 : decode prog_8_method_8_code 11 = .ok (.istore 6, 2) := by decide +kernel
theorem d_World_fix_13 : decode prog_8_method_8_code 13 = .ok (.iload 6, 2) := by decide +kernel
theorem d_World_fix_15 : decode prog_8_method_8_code 15 = .ok (.ifCond .lt 38, 3) := by decide +kernel
theorem d_World_fix_53 : decode prog_8_method_8_code 53 = .ok (.aload_n 0, 1) := by decide +kernel
theorem d_World_fix_54 : decode prog_8_method_8_code 54 = .ok (.getfield 31, 3) := by decide +kernel
theorem d_World_fix_57 : decode prog_8_method_8_code 57 = .ok (.bipush 16, 2) := by decide +kernel
theorem d_World_fix_59 : decode prog_8_method_8_code 59 = .ok (.imul, 1) := by decide +kernel
theorem d_World_fix_60 : decode prog_8_method_8_code 60 = .ok (.istore 6, 2) := by decide +kernel
theorem d_World_fix_62 : decode prog_8_method_8_code 62 = .ok (.aload_n 0, 1) := by decide +kernel
theorem d_World_fix_63 : decode prog_8_method_8_code 63 = .ok (.getfield 18, 3) := by decide +kernel
theorem d_World_fix_66 : decode prog_8_method_8_code 66 = .ok (.iload 6, 2) := by decide +kernel
theorem d_World_fix_68 : decode prog_8_method_8_code 68 = .ok (.aload_n 0, 1) := by decide +kernel
theorem d_World_fix_69 : decode prog_8_method_8_code 69 = .ok (.getfield 31, 3) := by decide +kernel
theorem d_World_fix_72 : decode prog_8_method_8_code 72 = .ok (.iastore, 1) := by decide +kernel
theorem d_World_fix_73 : decode prog_8_method_8_code 73 = .ok (.iconst 0, 1) := by decide +kernel
theorem d_World_fix_74 : decode prog_8_method_8_code 74 = .ok (.istore 7, 2) := by decide +kernel
theorem d_World_fix_76 : decode prog_8_method_8_code 76 = .ok (.iload 7, 2) := by decide +kernel
theorem d_World_fix_78 : decode prog_8_method_8_code 78 = .ok (.aload_n 0, 1) := by decide +kernel
theorem d_World_fix_79 : decode prog_8_method_8_code 79 = .ok (.getfield 48, 3) := by decide +kernel
theorem d_World_fix_82 : decode prog_8_method_8_code 82 = .ok (.if_icmp .ge 35, 3) := by decide +kernel
theorem d_World_fix_117 : decode prog_8_method_8_code 117 = .ok (.aload_n 0, 1) := by decide +kernel
theorem d_World_fix_118 : decode prog_8_method_8_code 118 = .ok (.getfield 22, 3) := by decide +kernel
theorem d_World_fix_121 : decode prog_8_method_8_code 121 = .ok (.aload_n 0, 1) := by decide +kernel
theorem d_World_fix_122 : decode prog_8_method_8_code 122 = .ok (.getfield 31, 3) := by decide +kernel
theorem d_World_fix_125 : decode prog_8_method_8_code 125 = .ok (.aload_n 0, 1) := by decide +kernel
theorem d_World_fix_126 : decode prog_8_method_8_code 126 = .ok (.getfield 48, 3) := by decide +kernel
theorem d_World_fix_129 : decode prog_8_method_8_code 129 = .ok (.iconst 1, 1) := by decide +kernel
theorem d_World_fix_130 : decode prog_8_method_8_code 130 = .ok (.iadd, 1) := by decide +kernel
theorem d_World_fix_131 : decode prog_8_method_8_code 131 = .ok (.iastore, 1) := by decide +kernel
theorem d_World_fix_132 : decode prog_8_method_8_code 132 = .ok (.aload_n 0, 1) := by decide +kernel
theorem d_World_fix_133 : decode prog_8_method_8_code 133 = .ok (.dup, 1) := by decide +kernel
theorem d_World_fix_134 : decode prog_8_method_8_code 134 = .ok (.getfield 31, 3) := by decide +kernel
theorem d_World_fix_137 : decode prog_8_method_8_code 137 = .ok (.iconst 1, 1) := by decide +kernel
theorem d_World_fix_138 : decode prog_8_method_8_code 138 = .ok (.iadd, 1) := by decide +kernel
theorem d_World_fix_139 : decode prog_8_method_8_code 139 = .ok (.putfield 31, 3) := by decide +kernel
theorem d_World_fix_142 : decode prog_8_method_8_code 142 = .ok (.aload_n 0, 1) := by decide +kernel
theorem d_World_fix_143 : decode prog_8_method_8_code 143 = .ok (.getfield 31, 3) := by decide +kernel
theorem d_World_fix_146 : decode prog_8_method_8_code 146 = .ok (.iconst 1, 1) := by decide +kernel
theorem d_World_fix_147 : decode prog_8_method_8_code 147 = .ok (.isub, 1) := by decide +kernel
theorem d_World_fix_148 : decode prog_8_method_8_code 148 = .ok (.ireturn, 1) := by decide +kernel
theorem d_TM_object_0 : decode prog_1_method_3_code 0 = .ok (.iload_n 1, 1) := by decide +kernel
theorem d_TM_object_1 : decode prog_1_method_3_code 1 = .ok (.iconst (-1), 1) := by decide +kernel
theorem d_TM_object_2 : decode prog_1_method_3_code 2 = .ok (.if_icmp .ne 7, 3) := by decide +kernel
theorem d_TM_object_5 : decode prog_1_method_3_code 5 = .ok (.iconst 0, 1) := by decide +kernel
theorem d_TM_object_6 : decode prog_1_method_3_code 6 = .ok (.goto 22, 3) := by decide +kernel
theorem d_TM_object_28 : decode prog_1_method_3_code 28 = .ok (.istore 4, 2) := by decide +kernel
theorem d_TM_object_30 : decode prog_1_method_3_code 30 = .ok (.iload 4, 2) := by decide +kernel
theorem d_TM_object_32 : decode prog_1_method_3_code 32 = .ok (.ifCond .le 14, 3) := by decide +kernel
theorem d_TM_object_46 : decode prog_1_method_3_code 46 = .ok (.iload 4, 2) := by decide +kernel
theorem d_TM_object_48 : decode prog_1_method_3_code 48 = .ok (.iconst 1, 1) := by decide +kernel
theorem d_TM_object_49 : decode prog_1_method_3_code 49 = .ok (.if_icmp .le 14, 3) := by decide +kernel
theorem d_TM_object_63 : decode prog_1_method_3_code 63 = .ok (.iload 4, 2) := by decide +kernel
theorem d_TM_object_65 : decode prog_1_method_3_code 65 = .ok (.iconst 2, 1) := by decide +kernel
theorem d_TM_object_66 : decode prog_1_method_3_code 66 = .ok (.if_icmp .le 24, 3) := by decide +kernel
theorem d_TM_object_90 : decode prog_1_method_3_code 90 = .ok (.aload_n 0, 1) := by decide +kernel
theorem d_TM_object_91 : decode prog_1_method_3_code 91 = .ok (.getfield 19, 3) := by decide +kernel
theorem d_TM_object_94 : decode prog_1_method_3_code 94 = .ok (.getfield 54, 3) := by decide +kernel
theorem d_TM_object_97 : decode prog_1_method_3_code 97 = .ok (.bipush 16, 2) := by decide +kernel
theorem d_TM_object_99 : decode prog_1_method_3_code 99 = .ok (.if_icmp .eq 13, 3) := by decide +kernel
theorem d_TM_object_102 : decode prog_1_method_3_code 102 = .ok (.aload_n 0, 1) := by decide +kernel
theorem d_TM_object_103 : decode prog_1_method_3_code 103 = .ok (.getfield 35, 3) := by decide +kernel
theorem d_TM_object_106 : decode prog_1_method_3_code 106 = .ok (.getfield 58, 3) := by decide +kernel
theorem d_TM_object_109 : decode prog_1_method_3_code 109 = .ok (.ifCond .ne 13, 3) := by decide +kernel
theorem d_TM_object_122 : decode prog_1_method_3_code 122 = .ok (.aload_n 0, 1) := by decide +kernel
theorem d_TM_object_123 : decode prog_1_method_3_code 123 = .ok (.getfield 26, 3) := by decide +kernel
theorem d_TM_object_126 : decode prog_1_method_3_code 126 = .ok (.invokevirtual 66, 3) := by decide +kernel
theorem d_TM_object_129 : decode prog_1_method_3_code 129 = .ok (.aload_n 0, 1) := by decide +kernel
theorem d_TM_object_130 : decode prog_1_method_3_code 130 = .ok (.getfield 19, 3) := by decide +kernel
theorem d_TM_object_133 : decode prog_1_method_3_code 133 = .ok (.iload 4, 2) := by decide +kernel
theorem d_TM_object_135 : decode prog_1_method_3_code 135 = .ok (.iload_n 1, 1) := by decide +kernel
theorem d_TM_object_136 : decode prog_1_method_3_code 136 = .ok (.iload_n 2, 1) := by decide +kernel
theorem d_TM_object_137 : decode prog_1_method_3_code 137 = .ok (.iload_n 3, 1) := by decide +kernel
theorem d_TM_object_138 : decode prog_1_method_3_code 138 = .ok (.invokevirtual 69, 3) := by decide +kernel
theorem d_TM_object_141 : decode prog_1_method_3_code 141 = .ok (.ireturn, 1) := by decide +kernel
theorem d_TM_show_0 : decode prog_1_method_10_code 0 = .ok (.iload_n 1, 1) := by decide +kernel
theorem d_TM_show_1 : decode prog_1_method_10_code 1 = .ok (.iconst 1, 1) := by decide +kernel
theorem d_TM_show_2 : decode prog_1_method_10_code 2 = .ok (.if_icmp .eq 8, 3) := by decide +kernel
theorem d_TM_show_5 : decode prog_1_method_10_code 5 = .ok (.iload_n 1, 1) := by decide +kernel
theorem d_TM_show_6 : decode prog_1_method_10_code 6 = .ok (.iconst 2, 1) := by decide +kernel
theorem d_TM_show_7 : decode prog_1_method_10_code 7 = .ok (.if_icmp .ne 23, 3) := by decide +kernel
theorem d_TM_show_30 : decode prog_1_method_10_code 30 = .ok (.iload_n 1, 1) := by decide +kernel
theorem d_TM_show_31 : decode prog_1_method_10_code 31 = .ok (.tableswitch 94 0 5 #[37, 45, 56, 67, 75, 83], 37) := by decide +kernel
theorem d_TM_show_68 : decode prog_1_method_10_code 68 = .ok (.aload_n 0, 1) := by decide +kernel
theorem d_TM_show_69 : decode prog_1_method_10_code 69 = .ok (.getfield 35, 3) := by decide +kernel
theorem d_TM_show_72 : decode prog_1_method_10_code 72 = .ok (.getfield 142, 3) := by decide +kernel
theorem d_TM_show_75 : decode prog_1_method_10_code 75 = .ok (.ireturn, 1) := by decide +kernel
theorem d_TM_show_98 : decode prog_1_method_10_code 98 = .ok (.aload_n 0, 1) := by decide +kernel
theorem d_TM_show_99 : decode prog_1_method_10_code 99 = .ok (.getfield 26, 3) := by decide +kernel
theorem d_TM_show_102 : decode prog_1_method_10_code 102 = .ok (.getfield 159, 3) := by decide +kernel
theorem d_TM_show_105 : decode prog_1_method_10_code 105 = .ok (.ireturn, 1) := by decide +kernel
theorem d_TM_show_106 : decode prog_1_method_10_code 106 = .ok (.aload_n 0, 1) := by decide +kernel
theorem d_TM_show_107 : decode prog_1_method_10_code 107 = .ok (.getfield 19, 3) := by decide +kernel
theorem d_TM_show_110 : decode prog_1_method_10_code 110 = .ok (.invokevirtual 162, 3) := by decide +kernel
theorem d_TM_show_113 : decode prog_1_method_10_code 113 = .ok (.ireturn, 1) := by decide +kernel
theorem d_TM_show_114 : decode prog_1_method_10_code 114 = .ok (.aload_n 0, 1) := by decide +kernel
theorem d_TM_show_115 : decode prog_1_method_10_code 115 = .ok (.getfield 35, 3) := by decide +kernel
theorem d_TM_show_118 : decode prog_1_method_10_code 118 = .ok (.getfield 165, 3) := by decide +kernel
theorem d_TM_show_121 : decode prog_1_method_10_code 121 = .ok (.getfield 168, 3) := by decide +kernel
theorem d_TM_show_124 : decode prog_1_method_10_code 124 = .ok (.ireturn, 1) := by decide +kernel
theorem d_TM_object_9 : decode prog_1_method_3_code 9 = .ok (.iload_n 2, 1) := by decide +kernel
theorem d_TM_object_10 : decode prog_1_method_3_code 10 = .ok (.iconst (-1), 1) := by decide +kernel
theorem d_TM_object_11 : decode prog_1_method_3_code 11 = .ok (.if_icmp .ne 7, 3) := by decide +kernel
theorem d_TM_object_18 : decode prog_1_method_3_code 18 = .ok (.iload_n 3, 1) := by decide +kernel
theorem d_TM_object_19 : decode prog_1_method_3_code 19 = .ok (.iconst (-1), 1) := by decide +kernel
theorem d_TM_object_20 : decode prog_1_method_3_code 20 = .ok (.if_icmp .ne 7, 3) := by decide +kernel
theorem d_TM_object_27 : decode prog_1_method_3_code 27 = .ok (.iconst 3, 1) := by decide +kernel
theorem d_TM_object_35 : decode prog_1_method_3_code 35 = .ok (.aload_n 0, 1) := by decide +kernel
theorem d_TM_object_36 : decode prog_1_method_3_code 36 = .ok (.getfield 19, 3) := by decide +kernel
theorem d_TM_object_39 : decode prog_1_method_3_code 39 = .ok (.iload_n 1, 1) := by decide +kernel
theorem d_TM_object_40 : decode prog_1_method_3_code 40 = .ok (.invokevirtual 43, 3) := by decide +kernel
theorem d_TM_object_43 : decode prog_1_method_3_code 43 = .ok (.ifCond .eq 37, 3) := by decide +kernel
theorem d_TM_object_80 : decode prog_1_method_3_code 80 = .ok (.new 47, 3) := by decide +kernel
theorem d_TM_object_83 : decode prog_1_method_3_code 83 = .ok (.dup, 1) := by decide +kernel
theorem d_TM_object_84 : decode prog_1_method_3_code 84 = .ok (.ldc 49, 2) := by decide +kernel
theorem d_TM_object_86 : decode prog_1_method_3_code 86 = .ok (.invokespecial 51, 3) := by decide +kernel
theorem d_TM_object_89 : decode prog_1_method_3_code 89 = .ok (.athrow, 1) := by decide +kernel
theorem d_TM_object_23 : decode prog_1_method_3_code 23 = .ok (.iconst 2, 1) := by decide +kernel
theorem d_TM_object_24 : decode prog_1_method_3_code 24 = .ok (.goto 4, 3) := by decide +kernel
theorem d_TM_object_14 : decode prog_1_method_3_code 14 = .ok (.iconst 1, 1) := by decide +kernel
theorem d_TM_object_15 : decode prog_1_method_3_code 15 = .ok (.goto 13, 3) := by decide +kernel
theorem d_TM_property_0 : decode prog_1_method_4_code 0 = .ok (.aload_n 0, 1) := by decide +kernel
theorem d_TM_property_1 : decode prog_1_method_4_code 1 = .ok (.getfield 19, 3) := by decide +kernel
theorem d_TM_property_4 : decode prog_1_method_4_code 4 = .ok (.iload_n 1, 1) := by decide +kernel
theorem d_TM_property_5 : decode prog_1_method_4_code 5 = .ok (.invokevirtual 73, 3) := by decide +kernel
theorem d_TM_property_8 : decode prog_1_method_4_code 8 = .ok (.ifCond .ne 13, 3) := by decide +kernel
theorem d_TM_property_11 : decode prog_1_method_4_code 11 = .ok (.new 76, 3) := by decide +kernel
theorem d_TM_property_14 : decode prog_1_method_4_code 14 = .ok (.dup, 1) := by decide +kernel
theorem d_TM_property_15 : decode prog_1_method_4_code 15 = .ok (.ldc 78, 2) := by decide +kernel
theorem d_TM_property_17 : decode prog_1_method_4_code 17 = .ok (.invokespecial 80, 3) := by decide +kernel
theorem d_TM_property_20 : decode prog_1_method_4_code 20 = .ok (.athrow, 1) := by decide +kernel
theorem d_TM_begin_0 : decode prog_1_method_5_code 0 = .ok (.aload_n 0, 1) := by decide +kernel
theorem d_TM_begin_1 : decode prog_1_method_5_code 1 = .ok (.getfield 19, 3) := by decide +kernel
theorem d_TM_begin_4 : decode prog_1_method_5_code 4 = .ok (.iload_n 1, 1) := by decide +kernel
theorem d_TM_begin_5 : decode prog_1_method_5_code 5 = .ok (.invokevirtual 73, 3) := by decide +kernel
theorem d_TM_begin_8 : decode prog_1_method_5_code 8 = .ok (.ifCond .ne 13, 3) := by decide +kernel
theorem d_TM_begin_11 : decode prog_1_method_5_code 11 = .ok (.new 76, 3) := by decide +kernel
theorem d_TM_begin_14 : decode prog_1_method_5_code 14 = .ok (.dup, 1) := by decide +kernel
theorem d_TM_begin_15 : decode prog_1_method_5_code 15 = .ok (.ldc 78, 2) := by decide +kernel
theorem d_TM_begin_17 : decode prog_1_method_5_code 17 = .ok (.invokespecial 80, 3) := by decide +kernel
theorem d_TM_begin_20 : decode prog_1_method_5_code 20 = .ok (.athrow, 1) := by decide +kernel
theorem d_TM_has_0 : decode prog_1_method_12_code 0 = .ok (.aload_n 0, 1) := by decide +kernel
theorem d_TM_has_1 : decode prog_1_method_12_code 1 = .ok (.getfield 19, 3) := by decide +kernel
theorem d_TM_has_4 : decode prog_1_method_12_code 4 = .ok (.iload_n 1, 1) := by decide +kernel
theorem d_TM_has_5 : decode prog_1_method_12_code 5 = .ok (.invokevirtual 73, 3) := by decide +kernel
theorem d_TM_has_8 : decode prog_1_method_12_code 8 = .ok (.ifCond .eq 22, 3) := by decide +kernel
theorem d_TM_has_30 : decode prog_1_method_12_code 30 = .ok (.iconst (-1), 1) := by decide +kernel
theorem d_TM_has_31 : decode prog_1_method_12_code 31 = .ok (.istore 4, 2) := by decide +kernel
theorem d_TM_has_33 : decode prog_1_method_12_code 33 = .ok (.iload 4, 2) := by decide +kernel
theorem d_TM_has_35 : decode prog_1_method_12_code 35 = .ok (.iconst (-1), 1) := by decide +kernel
theorem d_TM_has_36 : decode prog_1_method_12_code 36 = .ok (.if_icmp .eq 12, 3) := by decide +kernel
theorem d_TM_has_48 : decode prog_1_method_12_code 48 = .ok (.new 76, 3) := by decide +kernel
theorem d_TM_has_51 : decode prog_1_method_12_code 51 = .ok (.dup, 1) := by decide +kernel
theorem d_TM_has_52 : decode prog_1_method_12_code 52 = .ok (.ldc 177, 2) := by decide +kernel
theorem d_TM_has_54 : decode prog_1_method_12_code 54 = .ok (.invokespecial 80, 3) := by decide +kernel
theorem d_TM_has_57 : decode prog_1_method_12_code 57 = .ok (.athrow, 1) := by decide +kernel
theorem d_TM_part_0 : decode prog_1_method_15_code 0 = .ok (.iload_n 1, 1) := by decide +kernel
theorem d_TM_part_1 : decode prog_1_method_15_code 1 = .ok (.ifCond .lt 20, 3) := by decide +kernel
theorem d_TM_part_21 : decode prog_1_method_15_code 21 = .ok (.new 76, 3) := by decide +kernel
theorem d_TM_part_24 : decode prog_1_method_15_code 24 = .ok (.dup, 1) := by decide +kernel
theorem d_TM_part_25 : decode prog_1_method_15_code 25 = .ok (.ldc 182, 2) := by decide +kernel
theorem d_TM_part_27 : decode prog_1_method_15_code 27 = .ok (.invokespecial 80, 3) := by decide +kernel
theorem d_TM_part_30 : decode prog_1_method_15_code 30 = .ok (.athrow, 1) := by decide +kernel
theorem d_TM_part_4 : decode prog_1_method_15_code 4 = .ok (.iload_n 1, 1) := by decide +kernel
theorem d_TM_part_5 : decode prog_1_method_15_code 5 = .ok (.aload_n 0, 1) := by decide +kernel
theorem d_TM_part_6 : decode prog_1_method_15_code 6 = .ok (.getfield 168, 3) := by decide +kernel
theorem d_TM_part_9 : decode prog_1_method_15_code 9 = .ok (.if_icmp .ge 12, 3) := by decide +kernel
theorem d_TM_stack_0 : decode prog_1_method_9_code 0 = .ok (.aload_n 0, 1) := by decide +kernel
theorem d_TM_stack_1 : decode prog_1_method_9_code 1 = .ok (.getfield 35, 3) := by decide +kernel
theorem d_TM_stack_4 : decode prog_1_method_9_code 4 = .ok (.getfield 134, 3) := by decide +kernel
theorem d_TM_stack_7 : decode prog_1_method_9_code 7 = .ok (.iload_n 1, 1) := by decide +kernel
theorem d_TM_stack_8 : decode prog_1_method_9_code 8 = .ok (.iload_n 2, 1) := by decide +kernel
theorem d_TM_stack_9 : decode prog_1_method_9_code 9 = .ok (.invokestatic 138, 3) := by decide +kernel
theorem d_TM_said_0 : decode prog_1_method_11_code 0 = .ok (.iload_n 1, 1) := by decide +kernel
theorem d_TM_said_1 : decode prog_1_method_11_code 1 = .ok (.iconst (-1), 1) := by decide +kernel
theorem d_TM_said_2 : decode prog_1_method_11_code 2 = .ok (.if_icmp .ne 18, 3) := by decide +kernel
theorem d_TM_said_20 : decode prog_1_method_11_code 20 = .ok (.aload_n 0, 1) := by decide +kernel
theorem d_TM_said_21 : decode prog_1_method_11_code 21 = .ok (.getfield 35, 3) := by decide +kernel
theorem d_TM_said_24 : decode prog_1_method_11_code 24 = .ok (.getfield 165, 3) := by decide +kernel
theorem d_TM_said_27 : decode prog_1_method_11_code 27 = .ok (.iload_n 1, 1) := by decide +kernel
theorem d_TM_said_28 : decode prog_1_method_11_code 28 = .ok (.iload_n 2, 1) := by decide +kernel
theorem d_TM_said_29 : decode prog_1_method_11_code 29 = .ok (.invokestatic 138, 3) := by decide +kernel
theorem d_TM_said_5 : decode prog_1_method_11_code 5 = .ok (.aload_n 0, 1) := by decide +kernel
theorem d_TM_said_6 : decode prog_1_method_11_code 6 = .ok (.getfield 35, 3) := by decide +kernel
theorem d_TM_said_9 : decode prog_1_method_11_code 9 = .ok (.getfield 174, 3) := by decide +kernel
theorem d_TM_said_12 : decode prog_1_method_11_code 12 = .ok (.iconst 0, 1) := by decide +kernel
theorem d_TM_said_13 : decode prog_1_method_11_code 13 = .ok (.iload_n 2, 1) := by decide +kernel
theorem d_TM_said_14 : decode prog_1_method_11_code 14 = .ok (.invokestatic 138, 3) := by decide +kernel
theorem d_TM_show_10 : decode prog_1_method_10_code 10 = .ok (.aload_n 0, 1) := by decide +kernel
theorem d_TM_show_11 : decode prog_1_method_10_code 11 = .ok (.getfield 35, 3) := by decide +kernel
theorem d_TM_show_14 : decode prog_1_method_10_code 14 = .ok (.getfield 142, 3) := by decide +kernel
theorem d_TM_show_17 : decode prog_1_method_10_code 17 = .ok (.ifCond .ne 13, 3) := by decide +kernel
theorem d_TM_show_20 : decode prog_1_method_10_code 20 = .ok (.new 76, 3) := by decide +kernel
theorem d_TM_show_23 : decode prog_1_method_10_code 23 = .ok (.dup, 1) := by decide +kernel
theorem d_TM_show_24 : decode prog_1_method_10_code 24 = .ok (.ldc 145, 2) := by decide +kernel
theorem d_TM_show_26 : decode prog_1_method_10_code 26 = .ok (.invokespecial 80, 3) := by decide +kernel
theorem d_TM_show_29 : decode prog_1_method_10_code 29 = .ok (.athrow, 1) := by decide +kernel
theorem d_TM_show_125 : decode prog_1_method_10_code 125 = .ok (.new 76, 3) := by decide +kernel
theorem d_TM_show_128 : decode prog_1_method_10_code 128 = .ok (.dup, 1) := by decide +kernel
theorem d_TM_show_129 : decode prog_1_method_10_code 129 = .ok (.ldc 172, 2) := by decide +kernel
theorem d_TM_show_131 : decode prog_1_method_10_code 131 = .ok (.invokespecial 80, 3) := by decide +kernel
theorem d_TM_show_134 : decode prog_1_method_10_code 134 = .ok (.athrow, 1) := by decide +kernel
theorem d_Model_init_0 : decode prog_10_method_1_code 0 = .ok (.aload_n 0, 1) := by decide +kernel
theorem d_Model_init_1 : decode prog_10_method_1_code 1 = .ok (.invokespecial 1, 3) := by decide +kernel
theorem d_Model_init_4 : decode prog_10_method_1_code 4 = .ok (.aload_n 0, 1) := by decide +kernel
theorem d_Model_init_5 : decode prog_10_method_1_code 5 = .ok (.sipush 300, 3) := by decide +kernel
theorem d_Model_init_8 : decode prog_10_method_1_code 8 = .ok (.newarray .int, 2) := by decide +kernel
theorem d_Model_init_10 : decode prog_10_method_1_code 10 = .ok (.putfield 7, 3) := by decide +kernel
theorem d_Model_init_13 : decode prog_10_method_1_code 13 = .ok (.aload_n 0, 1) := by decide +kernel
theorem d_Model_init_14 : decode prog_10_method_1_code 14 = .ok (.sipush 5568, 3) := by decide +kernel
theorem d_Model_init_17 : decode prog_10_method_1_code 17 = .ok (.newarray .int, 2) := by decide +kernel
theorem d_Model_init_19 : decode prog_10_method_1_code 19 = .ok (.putfield 13, 3) := by decide +kernel
theorem d_Model_init_22 : decode prog_10_method_1_code 22 = .ok (.aload_n 0, 1) := by decide +kernel
theorem d_Model_init_23 : decode prog_10_method_1_code 23 = .ok (.iconst 2, 1) := by decide +kernel
theorem d_Model_init_24 : decode prog_10_method_1_code 24 = .ok (.newarray .boolean, 2) := by decide +kernel
theorem d_Model_init_26 : decode prog_10_method_1_code 26 = .ok (.putfield 16, 3) := by decide +kernel
theorem d_Model_init_29 : decode prog_10_method_1_code 29 = .ok (.aload_n 0, 1) := by decide +kernel
theorem d_Model_init_30 : decode prog_10_method_1_code 30 = .ok (.bipush 32, 2) := by decide +kernel
theorem d_Model_init_32 : decode prog_10_method_1_code 32 = .ok (.newarray .int, 2) := by decide +kernel
theorem d_Model_init_34 : decode prog_10_method_1_code 34 = .ok (.putfield 20, 3) := by decide +kernel
theorem d_Model_init_37 : decode prog_10_method_1_code 37 = .ok (.aload_n 0, 1) := by decide +kernel
theorem d_Model_init_38 : decode prog_10_method_1_code 38 = .ok (.bipush 32, 2) := by decide +kernel
theorem d_Model_init_40 : decode prog_10_method_1_code 40 = .ok (.newarray .boolean, 2) := by decide +kernel
theorem d_Model_init_42 : decode prog_10_method_1_code 42 = .ok (.putfield 23, 3) := by decide +kernel
theorem d_Model_init_45 : decode prog_10_method_1_code 45 = .ok (.aload_n 0, 1) := by decide +kernel
theorem d_Model_init_46 : decode prog_10_method_1_code 46 = .ok (.bipush 40, 2) := by decide +kernel
theorem d_Model_init_48 : decode prog_10_method_1_code 48 = .ok (.newarray .int, 2) := by decide +kernel
theorem d_Model_init_50 : decode prog_10_method_1_code 50 = .ok (.putfield 26, 3) := by decide +kernel
theorem d_Model_init_53 : decode prog_10_method_1_code 53 = .ok (.aload_n 0, 1) := by decide +kernel
theorem d_Model_init_54 : decode prog_10_method_1_code 54 = .ok (.bipush 40, 2) := by decide +kernel
theorem d_Model_init_56 : decode prog_10_method_1_code 56 = .ok (.newarray .int, 2) := by decide +kernel
theorem d_Model_init_58 : decode prog_10_method_1_code 58 = .ok (.putfield 29, 3) := by decide +kernel
theorem d_Model_init_61 : decode prog_10_method_1_code 61 = .ok (.aload_n 0, 1) := by decide +kernel
theorem d_Model_init_62 : decode prog_10_method_1_code 62 = .ok (.bipush 40, 2) := by decide +kernel
theorem d_Model_init_64 : decode prog_10_method_1_code 64 = .ok (.newarray .int, 2) := by decide +kernel
theorem d_Model_init_66 : decode prog_10_method_1_code 66 = .ok (.putfield 32, 3) := by decide +kernel
theorem d_Model_init_69 : decode prog_10_method_1_code 69 = .ok (.aload_n 0, 1) := by decide +kernel
theorem d_Model_init_70 : decode prog_10_method_1_code 70 = .ok (.bipush 40, 2) := by decide +kernel
theorem d_Model_init_72 : decode prog_10_method_1_code 72 = .ok (.newarray .int, 2) := by decide +kernel
theorem d_Model_init_74 : decode prog_10_method_1_code 74 = .ok (.putfield 35, 3) := by decide +kernel
theorem d_Model_init_77 : decode prog_10_method_1_code 77 = .ok (.aload_n 0, 1) := by decide +kernel
theorem d_Model_init_78 : decode prog_10_method_1_code 78 = .ok (.bipush 8, 2) := by decide +kernel
theorem d_Model_init_80 : decode prog_10_method_1_code 80 = .ok (.newarray .int, 2) := by decide +kernel
theorem d_Model_init_82 : decode prog_10_method_1_code 82 = .ok (.putfield 38, 3) := by decide +kernel
theorem d_Model_init_85 : decode prog_10_method_1_code 85 = .ok (.aload_n 0, 1) := by decide +kernel
theorem d_Model_init_86 : decode prog_10_method_1_code 86 = .ok (.bipush 8, 2) := by decide +kernel
theorem d_Model_init_88 : decode prog_10_method_1_code 88 = .ok (.newarray .int, 2) := by decide +kernel
theorem d_Model_init_90 : decode prog_10_method_1_code 90 = .ok (.putfield 41, 3) := by decide +kernel
theorem d_Model_init_93 : decode prog_10_method_1_code 93 = .ok (.aload_n 0, 1) := by decide +kernel
theorem d_Model_init_94 : decode prog_10_method_1_code 94 = .ok (.bipush 8, 2) := by decide +kernel
theorem d_Model_init_96 : decode prog_10_method_1_code 96 = .ok (.newarray .int, 2) := by decide +kernel
theorem d_Model_init_98 : decode prog_10_method_1_code 98 = .ok (.putfield 44, 3) := by decide +kernel
theorem d_Model_init_101 : decode prog_10_method_1_code 101 = .ok (.aload_n 0, 1) := by decide +kernel
theorem d_Model_init_102 : decode prog_10_method_1_code 102 = .ok (.bipush 8, 2) := by decide +kernel
theorem d_Model_init_104 : decode prog_10_method_1_code 104 = .ok (.newarray .int, 2) := by decide +kernel
theorem d_Model_init_106 : decode prog_10_method_1_code 106 = .ok (.putfield 47, 3) := by decide +kernel
theorem d_Model_init_109 : decode prog_10_method_1_code 109 = .ok (.aload_n 0, 1) := by decide +kernel
theorem d_Model_init_110 : decode prog_10_method_1_code 110 = .ok (.bipush 8, 2) := by decide +kernel
theorem d_Model_init_112 : decode prog_10_method_1_code 112 = .ok (.newarray .int, 2) := by decide +kernel
theorem d_Model_init_114 : decode prog_10_method_1_code 114 = .ok (.putfield 50, 3) := by decide +kernel
theorem d_Model_init_117 : decode prog_10_method_1_code 117 = .ok (.aload_n 0, 1) := by decide +kernel
theorem d_Model_init_118 : decode prog_10_method_1_code 118 = .ok (.bipush 8, 2) := by decide +kernel
theorem d_Model_init_120 : decode prog_10_method_1_code 120 = .ok (.newarray .int, 2) := by decide +kernel
theorem d_Model_init_122 : decode prog_10_method_1_code 122 = .ok (.putfield 53, 3) := by decide +kernel
theorem d_Model_init_125 : decode prog_10_method_1_code 125 = .ok (.aload_n 0, 1) := by decide +kernel
theorem d_Model_init_126 : decode prog_10_method_1_code 126 = .ok (.bipush 8, 2) := by decide +kernel
theorem d_Model_init_128 : decode prog_10_method_1_code 128 = .ok (.newarray .int, 2) := by decide +kernel
theorem d_Model_init_130 : decode prog_10_method_1_code 130 = .ok (.putfield 56, 3) := by decide +kernel
theorem d_Model_init_133 : decode prog_10_method_1_code 133 = .ok (.aload_n 0, 1) := by decide +kernel
theorem d_Model_init_134 : decode prog_10_method_1_code 134 = .ok (.bipush 8, 2) := by decide +kernel
theorem d_Model_init_136 : decode prog_10_method_1_code 136 = .ok (.newarray .int, 2) := by decide +kernel
theorem d_Model_init_138 : decode prog_10_method_1_code 138 = .ok (.putfield 59, 3) := by decide +kernel
theorem d_Model_init_141 : decode prog_10_method_1_code 141 = .ok (.aload_n 0, 1) := by decide +kernel
theorem d_Model_init_142 : decode prog_10_method_1_code 142 = .ok (.bipush 8, 2) := by decide +kernel
theorem d_Model_init_144 : decode prog_10_method_1_code 144 = .ok (.newarray .int, 2) := by decide +kernel
theorem d_Model_init_146 : decode prog_10_method_1_code 146 = .ok (.putfield 62, 3) := by decide +kernel
theorem d_Model_init_149 : decode prog_10_method_1_code 149 = .ok (.aload_n 0, 1) := by decide +kernel
theorem d_Model_init_150 : decode prog_10_method_1_code 150 = .ok (.bipush 50, 2) := by decide +kernel
theorem d_Model_init_152 : decode prog_10_method_1_code 152 = .ok (.newarray .int, 2) := by decide +kernel
theorem d_Model_init_154 : decode prog_10_method_1_code 154 = .ok (.putfield 65, 3) := by decide +kernel
theorem d_Model_init_157 : decode prog_10_method_1_code 157 = .ok (.aload_n 0, 1) := by decide +kernel
theorem d_Model_init_158 : decode prog_10_method_1_code 158 = .ok (.bipush 50, 2) := by decide +kernel
theorem d_Model_init_160 : decode prog_10_method_1_code 160 = .ok (.newarray .int, 2) := by decide +kernel
theorem d_Model_init_162 : decode prog_10_method_1_code 162 = .ok (.putfield 68, 3) := by decide +kernel
theorem d_Model_init_165 : decode prog_10_method_1_code 165 = .ok (.aload_n 0, 1) := by decide +kernel
theorem d_Model_init_166 : decode prog_10_method_1_code 166 = .ok (.iconst (-1), 1) := by decide +kernel
theorem d_Model_init_167 : decode prog_10_method_1_code 167 = .ok (.putfield 71, 3) := by decide +kernel
theorem d_Model_init_170 : decode prog_10_method_1_code 170 = .ok (.return_, 1) := by decide +kernel
theorem d_Law_object_0 : decode method_3_code 0 = .ok (.aload 4, 2) := by decide +kernel
theorem d_Law_object_2 : decode method_3_code 2 = .ok (.iconst 0, 1) := by decide +kernel
theorem d_Law_object_3 : decode method_3_code 3 = .ok (.aload_n 0, 1) := by decide +kernel
theorem d_Law_object_4 : decode method_3_code 4 = .ok (.iload_n 1, 1) := by decide +kernel
theorem d_Law_object_5 : decode method_3_code 5 = .ok (.iload_n 2, 1) := by decide +kernel
theorem d_Law_object_6 : decode method_3_code 6 = .ok (.iload_n 3, 1) := by decide +kernel
theorem d_Law_object_7 : decode method_3_code 7 = .ok (.invokevirtual 7, 3) := by decide +kernel
theorem d_Law_object_10 : decode method_3_code 10 = .ok (.i2l, 1) := by decide +kernel
theorem d_Law_object_11 : decode method_3_code 11 = .ok (.lastore, 1) := by decide +kernel
theorem d_Law_object_12 : decode method_3_code 12 = .ok (.goto 11, 3) := by decide +kernel
theorem d_Law_object_23 : decode method_3_code 23 = .ok (.iconst 0, 1) := by decide +kernel
theorem d_Law_object_24 : decode method_3_code 24 = .ok (.ireturn, 1) := by decide +kernel
theorem d_Law_object_15 : decode method_3_code 15 = .ok (.astore 5, 2) := by decide +kernel
theorem d_Law_object_17 : decode method_3_code 17 = .ok (.iconst 1, 1) := by decide +kernel
theorem d_Law_object_18 : decode method_3_code 18 = .ok (.ireturn, 1) := by decide +kernel
theorem d_Law_property_0 : decode method_4_code 0 = .ok (.aload_n 0, 1) := by decide +kernel
theorem d_Law_property_1 : decode method_4_code 1 = .ok (.iload_n 1, 1) := by decide +kernel
theorem d_Law_property_2 : decode method_4_code 2 = .ok (.iload_n 2, 1) := by decide +kernel
theorem d_Law_property_3 : decode method_4_code 3 = .ok (.iload_n 3, 1) := by decide +kernel
theorem d_Law_property_4 : decode method_4_code 4 = .ok (.iload 4, 2) := by decide +kernel
theorem d_Law_property_6 : decode method_4_code 6 = .ok (.invokevirtual 17, 3) := by decide +kernel
theorem d_Law_property_12 : decode method_4_code 12 = .ok (.astore 5, 2) := by decide +kernel
theorem d_Law_property_14 : decode method_4_code 14 = .ok (.iconst 1, 1) := by decide +kernel
theorem d_Law_property_15 : decode method_4_code 15 = .ok (.ireturn, 1) := by decide +kernel
theorem d_Law_begin_0 : decode method_5_code 0 = .ok (.aload_n 0, 1) := by decide +kernel
theorem d_Law_begin_1 : decode method_5_code 1 = .ok (.iload_n 1, 1) := by decide +kernel
theorem d_Law_begin_2 : decode method_5_code 2 = .ok (.iload_n 2, 1) := by decide +kernel
theorem d_Law_begin_3 : decode method_5_code 3 = .ok (.invokevirtual 23, 3) := by decide +kernel
theorem d_Law_begin_9 : decode method_5_code 9 = .ok (.astore_n 3, 1) := by decide +kernel
theorem d_Law_begin_10 : decode method_5_code 10 = .ok (.iconst 1, 1) := by decide +kernel
theorem d_Law_begin_11 : decode method_5_code 11 = .ok (.ireturn, 1) := by decide +kernel
theorem d_Law_stack_0 : decode method_6_code 0 = .ok (.aload_n 3, 1) := by decide +kernel
theorem d_Law_stack_1 : decode method_6_code 1 = .ok (.iconst 0, 1) := by decide +kernel
theorem d_Law_stack_2 : decode method_6_code 2 = .ok (.aload_n 0, 1) := by decide +kernel
theorem d_Law_stack_3 : decode method_6_code 3 = .ok (.iload_n 1, 1) := by decide +kernel
theorem d_Law_stack_4 : decode method_6_code 4 = .ok (.iload_n 2, 1) := by decide +kernel
theorem d_Law_stack_5 : decode method_6_code 5 = .ok (.invokevirtual 27, 3) := by decide +kernel
theorem d_Law_stack_13 : decode method_6_code 13 = .ok (.astore 4, 2) := by decide +kernel
theorem d_Law_stack_15 : decode method_6_code 15 = .ok (.iconst 1, 1) := by decide +kernel
theorem d_Law_stack_16 : decode method_6_code 16 = .ok (.ireturn, 1) := by decide +kernel
theorem d_Law_said_0 : decode method_8_code 0 = .ok (.aload_n 3, 1) := by decide +kernel
theorem d_Law_said_1 : decode method_8_code 1 = .ok (.iconst 0, 1) := by decide +kernel
theorem d_Law_said_2 : decode method_8_code 2 = .ok (.aload_n 0, 1) := by decide +kernel
theorem d_Law_said_3 : decode method_8_code 3 = .ok (.iload_n 1, 1) := by decide +kernel
theorem d_Law_said_4 : decode method_8_code 4 = .ok (.iload_n 2, 1) := by decide +kernel
theorem d_Law_said_5 : decode method_8_code 5 = .ok (.invokevirtual 35, 3) := by decide +kernel
theorem d_Law_said_13 : decode method_8_code 13 = .ok (.astore 4, 2) := by decide +kernel
theorem d_Law_said_15 : decode method_8_code 15 = .ok (.iconst 1, 1) := by decide +kernel
theorem d_Law_said_16 : decode method_8_code 16 = .ok (.ireturn, 1) := by decide +kernel
theorem d_Law_has_0 : decode method_9_code 0 = .ok (.aload 4, 2) := by decide +kernel
theorem d_Law_has_2 : decode method_9_code 2 = .ok (.iconst 0, 1) := by decide +kernel
theorem d_Law_has_3 : decode method_9_code 3 = .ok (.aload_n 0, 1) := by decide +kernel
theorem d_Law_has_4 : decode method_9_code 4 = .ok (.iload_n 1, 1) := by decide +kernel
theorem d_Law_has_5 : decode method_9_code 5 = .ok (.iload_n 2, 1) := by decide +kernel
theorem d_Law_has_6 : decode method_9_code 6 = .ok (.iload_n 3, 1) := by decide +kernel
theorem d_Law_has_7 : decode method_9_code 7 = .ok (.invokevirtual 38, 3) := by decide +kernel
theorem d_Law_has_15 : decode method_9_code 15 = .ok (.astore 5, 2) := by decide +kernel
theorem d_Law_has_17 : decode method_9_code 17 = .ok (.iconst 1, 1) := by decide +kernel
theorem d_Law_has_18 : decode method_9_code 18 = .ok (.ireturn, 1) := by decide +kernel
theorem d_Law_show_0 : decode method_7_code 0 = .ok (.aload_n 2, 1) := by decide +kernel
theorem d_Law_show_1 : decode method_7_code 1 = .ok (.iconst 0, 1) := by decide +kernel
theorem d_Law_show_2 : decode method_7_code 2 = .ok (.aload_n 0, 1) := by decide +kernel
theorem d_Law_show_3 : decode method_7_code 3 = .ok (.iload_n 1, 1) := by decide +kernel
theorem d_Law_show_4 : decode method_7_code 4 = .ok (.invokevirtual 31, 3) := by decide +kernel
theorem d_Law_show_7 : decode method_7_code 7 = .ok (.i2l, 1) := by decide +kernel
theorem d_Law_show_8 : decode method_7_code 8 = .ok (.lastore, 1) := by decide +kernel
theorem d_Law_show_9 : decode method_7_code 9 = .ok (.goto 6, 3) := by decide +kernel
theorem d_Law_show_15 : decode method_7_code 15 = .ok (.iconst 0, 1) := by decide +kernel
theorem d_Law_show_16 : decode method_7_code 16 = .ok (.ireturn, 1) := by decide +kernel
theorem d_Law_show_12 : decode method_7_code 12 = .ok (.astore_n 3, 1) := by decide +kernel
theorem d_Law_show_13 : decode method_7_code 13 = .ok (.iconst 1, 1) := by decide +kernel
theorem d_Law_show_14 : decode method_7_code 14 = .ok (.ireturn, 1) := by decide +kernel
theorem d_Law_law_100 : decode code 100 = .ok (.aload_n 1, 1) := by decide +kernel
theorem d_Law_law_101 : decode code 101 = .ok (.aload_n 0, 1) := by decide +kernel
theorem d_Law_law_102 : decode code 102 = .ok (.iload 4, 2) := by decide +kernel
theorem d_Law_law_104 : decode code 104 = .ok (.iconst 1, 1) := by decide +kernel
theorem d_Law_law_105 : decode code 105 = .ok (.iadd, 1) := by decide +kernel
theorem d_Law_law_106 : decode code 106 = .ok (.iaload, 1) := by decide +kernel
theorem d_Law_law_107 : decode code 107 = .ok (.aload_n 0, 1) := by decide +kernel
theorem d_Law_law_108 : decode code 108 = .ok (.iload 4, 2) := by decide +kernel
theorem d_Law_law_110 : decode code 110 = .ok (.iconst 2, 1) := by decide +kernel
theorem d_Law_law_111 : decode code 111 = .ok (.iadd, 1) := by decide +kernel
theorem d_Law_law_112 : decode code 112 = .ok (.iaload, 1) := by decide +kernel
theorem d_Law_law_113 : decode code 113 = .ok (.invokevirtual 45, 3) := by decide +kernel
theorem d_Law_law_116 : decode code 116 = .ok (.aload_n 2, 1) := by decide +kernel
theorem d_Law_law_117 : decode code 117 = .ok (.aload_n 0, 1) := by decide +kernel
theorem d_Law_law_118 : decode code 118 = .ok (.iload 4, 2) := by decide +kernel
theorem d_Law_law_120 : decode code 120 = .ok (.iconst 1, 1) := by decide +kernel
theorem d_Law_law_121 : decode code 121 = .ok (.iadd, 1) := by decide +kernel
theorem d_Law_law_122 : decode code 122 = .ok (.iaload, 1) := by decide +kernel
theorem d_Law_law_123 : decode code 123 = .ok (.aload_n 0, 1) := by decide +kernel
theorem d_Law_law_124 : decode code 124 = .ok (.iload 4, 2) := by decide +kernel
theorem d_Law_law_126 : decode code 126 = .ok (.iconst 2, 1) := by decide +kernel
theorem d_Law_law_127 : decode code 127 = .ok (.iadd, 1) := by decide +kernel
theorem d_Law_law_128 : decode code 128 = .ok (.iaload, 1) := by decide +kernel
theorem d_Law_law_129 : decode code 129 = .ok (.invokevirtual 49, 3) := by decide +kernel
theorem d_Law_law_132 : decode code 132 = .ok (.if_icmp .eq 565, 3) := by decide +kernel
theorem d_Law_law_697 : decode code 697 = .ok (.iinc 4 5, 3) := by decide +kernel
theorem d_Law_law_700 : decode code 700 = .ok (.goto (-677), 3) := by decide +kernel
theorem d_Law_law_23 : decode code 23 = .ok (.iload 4, 2) := by decide +kernel
theorem d_Law_law_25 : decode code 25 = .ok (.aload_n 0, 1) := by decide +kernel
theorem d_Law_law_26 : decode code 26 = .ok (.arraylength, 1) := by decide +kernel
theorem d_Law_law_27 : decode code 27 = .ok (.iconst 5, 1) := by decide +kernel
theorem d_Law_law_28 : decode code 28 = .ok (.isub, 1) := by decide +kernel
theorem d_Law_law_29 : decode code 29 = .ok (.if_icmp .gt 674, 3) := by decide +kernel
theorem d_Law_law_703 : decode code 703 = .ok (.iconst 1, 1) := by decide +kernel
theorem d_Law_law_704 : decode code 704 = .ok (.ireturn, 1) := by decide +kernel
theorem d_Law_law_137 : decode code 137 = .ok (.aload_n 1, 1) := by decide +kernel
theorem d_Law_law_138 : decode code 138 = .ok (.aload_n 0, 1) := by decide +kernel
theorem d_Law_law_139 : decode code 139 = .ok (.iload 4, 2) := by decide +kernel
theorem d_Law_law_141 : decode code 141 = .ok (.iconst 1, 1) := by decide +kernel
theorem d_Law_law_142 : decode code 142 = .ok (.iadd, 1) := by decide +kernel
theorem d_Law_law_143 : decode code 143 = .ok (.iaload, 1) := by decide +kernel
theorem d_Law_law_144 : decode code 144 = .ok (.aload_n 0, 1) := by decide +kernel
theorem d_Law_law_145 : decode code 145 = .ok (.iload 4, 2) := by decide +kernel
theorem d_Law_law_147 : decode code 147 = .ok (.iconst 2, 1) := by decide +kernel
theorem d_Law_law_148 : decode code 148 = .ok (.iadd, 1) := by decide +kernel
theorem d_Law_law_149 : decode code 149 = .ok (.iaload, 1) := by decide +kernel
theorem d_Law_law_150 : decode code 150 = .ok (.aload_n 0, 1) := by decide +kernel
theorem d_Law_law_151 : decode code 151 = .ok (.iload 4, 2) := by decide +kernel
theorem d_Law_law_153 : decode code 153 = .ok (.iconst 3, 1) := by decide +kernel
theorem d_Law_law_154 : decode code 154 = .ok (.iadd, 1) := by decide +kernel
theorem d_Law_law_155 : decode code 155 = .ok (.iaload, 1) := by decide +kernel
theorem d_Law_law_156 : decode code 156 = .ok (.aload_n 3, 1) := by decide +kernel
theorem d_Law_law_157 : decode code 157 = .ok (.invokestatic 50, 3) := by decide +kernel
theorem d_Law_law_160 : decode code 160 = .ok (.istore 5, 2) := by decide +kernel
theorem d_Law_law_162 : decode code 162 = .ok (.aload_n 2, 1) := by decide +kernel
theorem d_Law_law_163 : decode code 163 = .ok (.aload_n 0, 1) := by decide +kernel
theorem d_Law_law_164 : decode code 164 = .ok (.iload 4, 2) := by decide +kernel
theorem d_Law_law_166 : decode code 166 = .ok (.iconst 1, 1) := by decide +kernel
theorem d_Law_law_167 : decode code 167 = .ok (.iadd, 1) := by decide +kernel
theorem d_Law_law_168 : decode code 168 = .ok (.iaload, 1) := by decide +kernel
theorem d_Law_law_169 : decode code 169 = .ok (.aload_n 0, 1) := by decide +kernel
theorem d_Law_law_170 : decode code 170 = .ok (.iload 4, 2) := by decide +kernel
theorem d_Law_law_172 : decode code 172 = .ok (.iconst 2, 1) := by decide +kernel
theorem d_Law_law_173 : decode code 173 = .ok (.iadd, 1) := by decide +kernel
theorem d_Law_law_174 : decode code 174 = .ok (.iaload, 1) := by decide +kernel
theorem d_Law_law_175 : decode code 175 = .ok (.aload_n 0, 1) := by decide +kernel
theorem d_Law_law_176 : decode code 176 = .ok (.iload 4, 2) := by decide +kernel
theorem d_Law_law_178 : decode code 178 = .ok (.iconst 3, 1) := by decide +kernel
theorem d_Law_law_179 : decode code 179 = .ok (.iadd, 1) := by decide +kernel
theorem d_Law_law_180 : decode code 180 = .ok (.iaload, 1) := by decide +kernel
theorem d_Law_law_181 : decode code 181 = .ok (.invokevirtual 55, 3) := by decide +kernel
theorem d_Law_law_184 : decode code 184 = .ok (.istore 6, 2) := by decide +kernel
theorem d_Law_law_186 : decode code 186 = .ok (.aload_n 2, 1) := by decide +kernel
theorem d_Law_law_187 : decode code 187 = .ok (.invokevirtual 56, 3) := by decide +kernel
theorem d_Law_law_190 : decode code 190 = .ok (.iload 5, 2) := by decide +kernel
theorem d_Law_law_192 : decode code 192 = .ok (.if_icmp .eq 5, 3) := by decide +kernel
theorem d_Law_law_197 : decode code 197 = .ok (.iload 5, 2) := by decide +kernel
theorem d_Law_law_199 : decode code 199 = .ok (.ifCond .ne 15, 3) := by decide +kernel
theorem d_Law_law_202 : decode code 202 = .ok (.aload_n 3, 1) := by decide +kernel
theorem d_Law_law_203 : decode code 203 = .ok (.iconst 0, 1) := by decide +kernel
theorem d_Law_law_204 : decode code 204 = .ok (.laload, 1) := by decide +kernel
theorem d_Law_law_205 : decode code 205 = .ok (.iload 6, 2) := by decide +kernel
theorem d_Law_law_207 : decode code 207 = .ok (.i2l, 1) := by decide +kernel
theorem d_Law_law_208 : decode code 208 = .ok (.lcmp, 1) := by decide +kernel
theorem d_Law_law_209 : decode code 209 = .ok (.ifCond .eq 5, 3) := by decide +kernel
theorem d_Law_law_214 : decode code 214 = .ok (.goto 483, 3) := by decide +kernel
theorem d_Law_law_217 : decode code 217 = .ok (.aload_n 1, 1) := by decide +kernel
theorem d_Law_law_218 : decode code 218 = .ok (.aload_n 0, 1) := by decide +kernel
theorem d_Law_law_219 : decode code 219 = .ok (.iload 4, 2) := by decide +kernel
theorem d_Law_law_221 : decode code 221 = .ok (.iconst 1, 1) := by decide +kernel
theorem d_Law_law_222 : decode code 222 = .ok (.iadd, 1) := by decide +kernel
theorem d_Law_law_223 : decode code 223 = .ok (.iaload, 1) := by decide +kernel
theorem d_Law_law_224 : decode code 224 = .ok (.aload_n 0, 1) := by decide +kernel
theorem d_Law_law_225 : decode code 225 = .ok (.iload 4, 2) := by decide +kernel
theorem d_Law_law_227 : decode code 227 = .ok (.iconst 2, 1) := by decide +kernel
theorem d_Law_law_228 : decode code 228 = .ok (.iadd, 1) := by decide +kernel
theorem d_Law_law_229 : decode code 229 = .ok (.iaload, 1) := by decide +kernel
theorem d_Law_law_230 : decode code 230 = .ok (.aload_n 0, 1) := by decide +kernel
theorem d_Law_law_231 : decode code 231 = .ok (.iload 4, 2) := by decide +kernel
theorem d_Law_law_233 : decode code 233 = .ok (.iconst 3, 1) := by decide +kernel
theorem d_Law_law_234 : decode code 234 = .ok (.iadd, 1) := by decide +kernel
theorem d_Law_law_235 : decode code 235 = .ok (.iaload, 1) := by decide +kernel
theorem d_Law_law_236 : decode code 236 = .ok (.aload_n 0, 1) := by decide +kernel
theorem d_Law_law_237 : decode code 237 = .ok (.iload 4, 2) := by decide +kernel
theorem d_Law_law_239 : decode code 239 = .ok (.iconst 4, 1) := by decide +kernel
theorem d_Law_law_240 : decode code 240 = .ok (.iadd, 1) := by decide +kernel
theorem d_Law_law_241 : decode code 241 = .ok (.iaload, 1) := by decide +kernel
theorem d_Law_law_242 : decode code 242 = .ok (.invokestatic 60, 3) := by decide +kernel
theorem d_Law_law_245 : decode code 245 = .ok (.istore 5, 2) := by decide +kernel
theorem d_Law_law_247 : decode code 247 = .ok (.aload_n 2, 1) := by decide +kernel
theorem d_Law_law_248 : decode code 248 = .ok (.aload_n 0, 1) := by decide +kernel
theorem d_Law_law_249 : decode code 249 = .ok (.iload 4, 2) := by decide +kernel
theorem d_Law_law_251 : decode code 251 = .ok (.iconst 1, 1) := by decide +kernel
theorem d_Law_law_252 : decode code 252 = .ok (.iadd, 1) := by decide +kernel
theorem d_Law_law_253 : decode code 253 = .ok (.iaload, 1) := by decide +kernel
theorem d_Law_law_254 : decode code 254 = .ok (.aload_n 0, 1) := by decide +kernel
theorem d_Law_law_255 : decode code 255 = .ok (.iload 4, 2) := by decide +kernel
theorem d_Law_law_257 : decode code 257 = .ok (.iconst 2, 1) := by decide +kernel
theorem d_Law_law_258 : decode code 258 = .ok (.iadd, 1) := by decide +kernel
theorem d_Law_law_259 : decode code 259 = .ok (.iaload, 1) := by decide +kernel
theorem d_Law_law_260 : decode code 260 = .ok (.aload_n 0, 1) := by decide +kernel
theorem d_Law_law_261 : decode code 261 = .ok (.iload 4, 2) := by decide +kernel
theorem d_Law_law_263 : decode code 263 = .ok (.iconst 3, 1) := by decide +kernel
theorem d_Law_law_264 : decode code 264 = .ok (.iadd, 1) := by decide +kernel
theorem d_Law_law_265 : decode code 265 = .ok (.iaload, 1) := by decide +kernel
theorem d_Law_law_266 : decode code 266 = .ok (.aload_n 0, 1) := by decide +kernel
theorem d_Law_law_267 : decode code 267 = .ok (.iload 4, 2) := by decide +kernel
theorem d_Law_law_269 : decode code 269 = .ok (.iconst 4, 1) := by decide +kernel
theorem d_Law_law_270 : decode code 270 = .ok (.iadd, 1) := by decide +kernel
theorem d_Law_law_271 : decode code 271 = .ok (.iaload, 1) := by decide +kernel
theorem d_Law_law_272 : decode code 272 = .ok (.invokevirtual 63, 3) := by decide +kernel
theorem d_Law_law_275 : decode code 275 = .ok (.aload_n 2, 1) := by decide +kernel
theorem d_Law_law_276 : decode code 276 = .ok (.invokevirtual 56, 3) := by decide +kernel
theorem d_Law_law_279 : decode code 279 = .ok (.iload 5, 2) := by decide +kernel
theorem d_Law_law_281 : decode code 281 = .ok (.if_icmp .eq 5, 3) := by decide +kernel
theorem d_Law_law_286 : decode code 286 = .ok (.goto 411, 3) := by decide +kernel
theorem d_Law_law_289 : decode code 289 = .ok (.aload_n 1, 1) := by decide +kernel
theorem d_Law_law_290 : decode code 290 = .ok (.aload_n 0, 1) := by decide +kernel
theorem d_Law_law_291 : decode code 291 = .ok (.iload 4, 2) := by decide +kernel
theorem d_Law_law_293 : decode code 293 = .ok (.iconst 1, 1) := by decide +kernel
theorem d_Law_law_294 : decode code 294 = .ok (.iadd, 1) := by decide +kernel
theorem d_Law_law_295 : decode code 295 = .ok (.iaload, 1) := by decide +kernel
theorem d_Law_law_296 : decode code 296 = .ok (.aload_n 0, 1) := by decide +kernel
theorem d_Law_law_297 : decode code 297 = .ok (.iload 4, 2) := by decide +kernel
theorem d_Law_law_299 : decode code 299 = .ok (.iconst 2, 1) := by decide +kernel
theorem d_Law_law_300 : decode code 300 = .ok (.iadd, 1) := by decide +kernel
theorem d_Law_law_301 : decode code 301 = .ok (.iaload, 1) := by decide +kernel
theorem d_Law_law_302 : decode code 302 = .ok (.invokestatic 64, 3) := by decide +kernel
theorem d_Law_law_305 : decode code 305 = .ok (.istore 5, 2) := by decide +kernel
theorem d_Law_law_307 : decode code 307 = .ok (.aload_n 2, 1) := by decide +kernel
theorem d_Law_law_308 : decode code 308 = .ok (.aload_n 0, 1) := by decide +kernel
theorem d_Law_law_309 : decode code 309 = .ok (.iload 4, 2) := by decide +kernel
theorem d_Law_law_311 : decode code 311 = .ok (.iconst 1, 1) := by decide +kernel
theorem d_Law_law_312 : decode code 312 = .ok (.iadd, 1) := by decide +kernel
theorem d_Law_law_313 : decode code 313 = .ok (.iaload, 1) := by decide +kernel
theorem d_Law_law_314 : decode code 314 = .ok (.aload_n 0, 1) := by decide +kernel
theorem d_Law_law_315 : decode code 315 = .ok (.iload 4, 2) := by decide +kernel
theorem d_Law_law_317 : decode code 317 = .ok (.iconst 2, 1) := by decide +kernel
theorem d_Law_law_318 : decode code 318 = .ok (.iadd, 1) := by decide +kernel
theorem d_Law_law_319 : decode code 319 = .ok (.iaload, 1) := by decide +kernel
theorem d_Law_law_320 : decode code 320 = .ok (.invokevirtual 67, 3) := by decide +kernel
theorem d_Law_law_323 : decode code 323 = .ok (.aload_n 2, 1) := by decide +kernel
theorem d_Law_law_324 : decode code 324 = .ok (.invokevirtual 56, 3) := by decide +kernel
theorem d_Law_law_327 : decode code 327 = .ok (.iload 5, 2) := by decide +kernel
theorem d_Law_law_329 : decode code 329 = .ok (.if_icmp .eq 5, 3) := by decide +kernel
theorem d_Law_law_334 : decode code 334 = .ok (.goto 363, 3) := by decide +kernel
theorem d_Law_law_337 : decode code 337 = .ok (.aload_n 1, 1) := by decide +kernel
theorem d_Law_law_338 : decode code 338 = .ok (.aload_n 0, 1) := by decide +kernel
theorem d_Law_law_339 : decode code 339 = .ok (.iload 4, 2) := by decide +kernel
theorem d_Law_law_341 : decode code 341 = .ok (.iconst 1, 1) := by decide +kernel
theorem d_Law_law_342 : decode code 342 = .ok (.iadd, 1) := by decide +kernel
theorem d_Law_law_343 : decode code 343 = .ok (.iaload, 1) := by decide +kernel
theorem d_Law_law_344 : decode code 344 = .ok (.invokevirtual 68, 3) := by decide +kernel
theorem d_Law_law_347 : decode code 347 = .ok (.aload_n 2, 1) := by decide +kernel
theorem d_Law_law_348 : decode code 348 = .ok (.aload_n 0, 1) := by decide +kernel
theorem d_Law_law_349 : decode code 349 = .ok (.iload 4, 2) := by decide +kernel
theorem d_Law_law_351 : decode code 351 = .ok (.iconst 1, 1) := by decide +kernel
theorem d_Law_law_352 : decode code 352 = .ok (.iadd, 1) := by decide +kernel
theorem d_Law_law_353 : decode code 353 = .ok (.iaload, 1) := by decide +kernel
theorem d_Law_law_354 : decode code 354 = .ok (.invokevirtual 71, 3) := by decide +kernel
theorem d_Law_law_357 : decode code 357 = .ok (.if_icmp .eq 340, 3) := by decide +kernel
theorem d_Law_law_362 : decode code 362 = .ok (.aload_n 1, 1) := by decide +kernel
theorem d_Law_law_363 : decode code 363 = .ok (.invokevirtual 72, 3) := by decide +kernel
theorem d_Law_law_366 : decode code 366 = .ok (.aload_n 2, 1) := by decide +kernel
theorem d_Law_law_367 : decode code 367 = .ok (.invokevirtual 76, 3) := by decide +kernel
theorem d_Law_law_370 : decode code 370 = .ok (.if_icmp .eq 327, 3) := by decide +kernel
theorem d_Law_law_375 : decode code 375 = .ok (.aload_n 1, 1) := by decide +kernel
theorem d_Law_law_376 : decode code 376 = .ok (.invokevirtual 77, 3) := by decide +kernel
theorem d_Law_law_379 : decode code 379 = .ok (.aload_n 2, 1) := by decide +kernel
theorem d_Law_law_380 : decode code 380 = .ok (.invokevirtual 80, 3) := by decide +kernel
theorem d_Law_law_383 : decode code 383 = .ok (.if_icmp .eq 314, 3) := by decide +kernel
theorem d_Law_law_388 : decode code 388 = .ok (.aload_n 1, 1) := by decide +kernel
theorem d_Law_law_389 : decode code 389 = .ok (.aload_n 0, 1) := by decide +kernel
theorem d_Law_law_390 : decode code 390 = .ok (.iload 4, 2) := by decide +kernel
theorem d_Law_law_392 : decode code 392 = .ok (.iconst 1, 1) := by decide +kernel
theorem d_Law_law_393 : decode code 393 = .ok (.iadd, 1) := by decide +kernel
theorem d_Law_law_394 : decode code 394 = .ok (.iaload, 1) := by decide +kernel
theorem d_Law_law_395 : decode code 395 = .ok (.aload_n 0, 1) := by decide +kernel
theorem d_Law_law_396 : decode code 396 = .ok (.iload 4, 2) := by decide +kernel
theorem d_Law_law_398 : decode code 398 = .ok (.iconst 2, 1) := by decide +kernel
theorem d_Law_law_399 : decode code 399 = .ok (.iadd, 1) := by decide +kernel
theorem d_Law_law_400 : decode code 400 = .ok (.iaload, 1) := by decide +kernel
theorem d_Law_law_401 : decode code 401 = .ok (.aload_n 3, 1) := by decide +kernel
theorem d_Law_law_402 : decode code 402 = .ok (.invokestatic 81, 3) := by decide +kernel
theorem d_Law_law_405 : decode code 405 = .ok (.istore 5, 2) := by decide +kernel
theorem d_Law_law_407 : decode code 407 = .ok (.aload_n 2, 1) := by decide +kernel
theorem d_Law_law_408 : decode code 408 = .ok (.aload_n 0, 1) := by decide +kernel
theorem d_Law_law_409 : decode code 409 = .ok (.iload 4, 2) := by decide +kernel
theorem d_Law_law_411 : decode code 411 = .ok (.iconst 1, 1) := by decide +kernel
theorem d_Law_law_412 : decode code 412 = .ok (.iadd, 1) := by decide +kernel
theorem d_Law_law_413 : decode code 413 = .ok (.iaload, 1) := by decide +kernel
theorem d_Law_law_414 : decode code 414 = .ok (.aload_n 0, 1) := by decide +kernel
theorem d_Law_law_415 : decode code 415 = .ok (.iload 4, 2) := by decide +kernel
theorem d_Law_law_417 : decode code 417 = .ok (.iconst 2, 1) := by decide +kernel
theorem d_Law_law_418 : decode code 418 = .ok (.iadd, 1) := by decide +kernel
theorem d_Law_law_419 : decode code 419 = .ok (.iaload, 1) := by decide +kernel
theorem d_Law_law_420 : decode code 420 = .ok (.invokevirtual 84, 3) := by decide +kernel
theorem d_Law_law_423 : decode code 423 = .ok (.istore 6, 2) := by decide +kernel
theorem d_Law_law_425 : decode code 425 = .ok (.aload_n 2, 1) := by decide +kernel
theorem d_Law_law_426 : decode code 426 = .ok (.invokevirtual 56, 3) := by decide +kernel
theorem d_Law_law_429 : decode code 429 = .ok (.iload 5, 2) := by decide +kernel
theorem d_Law_law_431 : decode code 431 = .ok (.if_icmp .eq 5, 3) := by decide +kernel
theorem d_Law_law_436 : decode code 436 = .ok (.iload 5, 2) := by decide +kernel
theorem d_Law_law_438 : decode code 438 = .ok (.ifCond .ne 15, 3) := by decide +kernel
theorem d_Law_law_453 : decode code 453 = .ok (.goto 244, 3) := by decide +kernel
theorem d_Law_law_456 : decode code 456 = .ok (.aload_n 1, 1) := by decide +kernel
theorem d_Law_law_457 : decode code 457 = .ok (.aload_n 0, 1) := by decide +kernel
theorem d_Law_law_458 : decode code 458 = .ok (.iload 4, 2) := by decide +kernel
theorem d_Law_law_460 : decode code 460 = .ok (.iconst 1, 1) := by decide +kernel
theorem d_Law_law_461 : decode code 461 = .ok (.iadd, 1) := by decide +kernel
theorem d_Law_law_462 : decode code 462 = .ok (.iaload, 1) := by decide +kernel
theorem d_Law_law_463 : decode code 463 = .ok (.aload_n 3, 1) := by decide +kernel
theorem d_Law_law_464 : decode code 464 = .ok (.invokestatic 85, 3) := by decide +kernel
theorem d_Law_law_467 : decode code 467 = .ok (.istore 5, 2) := by decide +kernel
theorem d_Law_law_469 : decode code 469 = .ok (.aload_n 2, 1) := by decide +kernel
theorem d_Law_law_470 : decode code 470 = .ok (.aload_n 0, 1) := by decide +kernel
theorem d_Law_law_471 : decode code 471 = .ok (.iload 4, 2) := by decide +kernel
theorem d_Law_law_473 : decode code 473 = .ok (.iconst 1, 1) := by decide +kernel
theorem d_Law_law_474 : decode code 474 = .ok (.iadd, 1) := by decide +kernel
theorem d_Law_law_475 : decode code 475 = .ok (.iaload, 1) := by decide +kernel
theorem d_Law_law_476 : decode code 476 = .ok (.invokevirtual 88, 3) := by decide +kernel
theorem d_Law_law_479 : decode code 479 = .ok (.istore 6, 2) := by decide +kernel
theorem d_Law_law_481 : decode code 481 = .ok (.aload_n 2, 1) := by decide +kernel
theorem d_Law_law_482 : decode code 482 = .ok (.invokevirtual 56, 3) := by decide +kernel
theorem d_Law_law_485 : decode code 485 = .ok (.iload 5, 2) := by decide +kernel
theorem d_Law_law_487 : decode code 487 = .ok (.if_icmp .eq 5, 3) := by decide +kernel
theorem d_Law_law_492 : decode code 492 = .ok (.iload 5, 2) := by decide +kernel
theorem d_Law_law_494 : decode code 494 = .ok (.ifCond .ne 15, 3) := by decide +kernel
theorem d_Law_law_497 : decode code 497 = .ok (.aload_n 3, 1) := by decide +kernel
theorem d_Law_law_498 : decode code 498 = .ok (.iconst 0, 1) := by decide +kernel
theorem d_Law_law_499 : decode code 499 = .ok (.laload, 1) := by decide +kernel
theorem d_Law_law_500 : decode code 500 = .ok (.iload 6, 2) := by decide +kernel
theorem d_Law_law_502 : decode code 502 = .ok (.i2l, 1) := by decide +kernel
theorem d_Law_law_503 : decode code 503 = .ok (.lcmp, 1) := by decide +kernel
theorem d_Law_law_504 : decode code 504 = .ok (.ifCond .eq 5, 3) := by decide +kernel
theorem d_Law_law_509 : decode code 509 = .ok (.goto 188, 3) := by decide +kernel
theorem d_Law_law_512 : decode code 512 = .ok (.aload_n 1, 1) := by decide +kernel
theorem d_Law_law_513 : decode code 513 = .ok (.aload_n 0, 1) := by decide +kernel
theorem d_Law_law_514 : decode code 514 = .ok (.iload 4, 2) := by decide +kernel
theorem d_Law_law_516 : decode code 516 = .ok (.iconst 1, 1) := by decide +kernel
theorem d_Law_law_517 : decode code 517 = .ok (.iadd, 1) := by decide +kernel
theorem d_Law_law_518 : decode code 518 = .ok (.iaload, 1) := by decide +kernel
theorem d_Law_law_519 : decode code 519 = .ok (.aload_n 0, 1) := by decide +kernel
theorem d_Law_law_520 : decode code 520 = .ok (.iload 4, 2) := by decide +kernel
theorem d_Law_law_522 : decode code 522 = .ok (.iconst 2, 1) := by decide +kernel
theorem d_Law_law_523 : decode code 523 = .ok (.iadd, 1) := by decide +kernel
theorem d_Law_law_524 : decode code 524 = .ok (.iaload, 1) := by decide +kernel
theorem d_Law_law_525 : decode code 525 = .ok (.aload_n 3, 1) := by decide +kernel
theorem d_Law_law_526 : decode code 526 = .ok (.invokestatic 89, 3) := by decide +kernel
theorem d_Law_law_529 : decode code 529 = .ok (.istore 5, 2) := by decide +kernel
theorem d_Law_law_531 : decode code 531 = .ok (.aload_n 2, 1) := by decide +kernel
theorem d_Law_law_532 : decode code 532 = .ok (.aload_n 0, 1) := by decide +kernel
theorem d_Law_law_533 : decode code 533 = .ok (.iload 4, 2) := by decide +kernel
theorem d_Law_law_535 : decode code 535 = .ok (.iconst 1, 1) := by decide +kernel
theorem d_Law_law_536 : decode code 536 = .ok (.iadd, 1) := by decide +kernel
theorem d_Law_law_537 : decode code 537 = .ok (.iaload, 1) := by decide +kernel
theorem d_Law_law_538 : decode code 538 = .ok (.aload_n 0, 1) := by decide +kernel
theorem d_Law_law_539 : decode code 539 = .ok (.iload 4, 2) := by decide +kernel
theorem d_Law_law_541 : decode code 541 = .ok (.iconst 2, 1) := by decide +kernel
theorem d_Law_law_542 : decode code 542 = .ok (.iadd, 1) := by decide +kernel
theorem d_Law_law_543 : decode code 543 = .ok (.iaload, 1) := by decide +kernel
theorem d_Law_law_544 : decode code 544 = .ok (.invokevirtual 91, 3) := by decide +kernel
theorem d_Law_law_547 : decode code 547 = .ok (.istore 6, 2) := by decide +kernel
theorem d_Law_law_549 : decode code 549 = .ok (.aload_n 2, 1) := by decide +kernel
theorem d_Law_law_550 : decode code 550 = .ok (.invokevirtual 56, 3) := by decide +kernel
theorem d_Law_law_553 : decode code 553 = .ok (.iload 5, 2) := by decide +kernel
theorem d_Law_law_555 : decode code 555 = .ok (.if_icmp .eq 5, 3) := by decide +kernel
theorem d_Law_law_560 : decode code 560 = .ok (.iload 5, 2) := by decide +kernel
theorem d_Law_law_562 : decode code 562 = .ok (.ifCond .ne 15, 3) := by decide +kernel
theorem d_Law_law_577 : decode code 577 = .ok (.goto 120, 3) := by decide +kernel
theorem d_Law_law_580 : decode code 580 = .ok (.aload_n 1, 1) := by decide +kernel
theorem d_Law_law_581 : decode code 581 = .ok (.aload_n 0, 1) := by decide +kernel
theorem d_Law_law_582 : decode code 582 = .ok (.iload 4, 2) := by decide +kernel
theorem d_Law_law_584 : decode code 584 = .ok (.iconst 1, 1) := by decide +kernel
theorem d_Law_law_585 : decode code 585 = .ok (.iadd, 1) := by decide +kernel
theorem d_Law_law_586 : decode code 586 = .ok (.iaload, 1) := by decide +kernel
theorem d_Law_law_587 : decode code 587 = .ok (.aload_n 0, 1) := by decide +kernel
theorem d_Law_law_588 : decode code 588 = .ok (.iload 4, 2) := by decide +kernel
theorem d_Law_law_590 : decode code 590 = .ok (.iconst 2, 1) := by decide +kernel
theorem d_Law_law_591 : decode code 591 = .ok (.iadd, 1) := by decide +kernel
theorem d_Law_law_592 : decode code 592 = .ok (.iaload, 1) := by decide +kernel
theorem d_Law_law_593 : decode code 593 = .ok (.aload_n 0, 1) := by decide +kernel
theorem d_Law_law_594 : decode code 594 = .ok (.iload 4, 2) := by decide +kernel
theorem d_Law_law_596 : decode code 596 = .ok (.iconst 3, 1) := by decide +kernel
theorem d_Law_law_597 : decode code 597 = .ok (.iadd, 1) := by decide +kernel
theorem d_Law_law_598 : decode code 598 = .ok (.iaload, 1) := by decide +kernel
theorem d_Law_law_599 : decode code 599 = .ok (.aload_n 3, 1) := by decide +kernel
theorem d_Law_law_600 : decode code 600 = .ok (.invokestatic 92, 3) := by decide +kernel
theorem d_Law_law_603 : decode code 603 = .ok (.istore 5, 2) := by decide +kernel
theorem d_Law_law_605 : decode code 605 = .ok (.aload_n 2, 1) := by decide +kernel
theorem d_Law_law_606 : decode code 606 = .ok (.aload_n 0, 1) := by decide +kernel
theorem d_Law_law_607 : decode code 607 = .ok (.iload 4, 2) := by decide +kernel
theorem d_Law_law_609 : decode code 609 = .ok (.iconst 1, 1) := by decide +kernel
theorem d_Law_law_610 : decode code 610 = .ok (.iadd, 1) := by decide +kernel
theorem d_Law_law_611 : decode code 611 = .ok (.iaload, 1) := by decide +kernel
theorem d_Law_law_612 : decode code 612 = .ok (.aload_n 0, 1) := by decide +kernel
theorem d_Law_law_613 : decode code 613 = .ok (.iload 4, 2) := by decide +kernel
theorem d_Law_law_615 : decode code 615 = .ok (.iconst 2, 1) := by decide +kernel
theorem d_Law_law_616 : decode code 616 = .ok (.iadd, 1) := by decide +kernel
theorem d_Law_law_617 : decode code 617 = .ok (.iaload, 1) := by decide +kernel
theorem d_Law_law_618 : decode code 618 = .ok (.aload_n 0, 1) := by decide +kernel
theorem d_Law_law_619 : decode code 619 = .ok (.iload 4, 2) := by decide +kernel
theorem d_Law_law_621 : decode code 621 = .ok (.iconst 3, 1) := by decide +kernel
theorem d_Law_law_622 : decode code 622 = .ok (.iadd, 1) := by decide +kernel
theorem d_Law_law_623 : decode code 623 = .ok (.iaload, 1) := by decide +kernel
theorem d_Law_law_624 : decode code 624 = .ok (.invokevirtual 94, 3) := by decide +kernel
theorem d_Law_law_627 : decode code 627 = .ok (.istore 6, 2) := by decide +kernel
theorem d_Law_law_629 : decode code 629 = .ok (.aload_n 2, 1) := by decide +kernel
theorem d_Law_law_630 : decode code 630 = .ok (.invokevirtual 56, 3) := by decide +kernel
theorem d_Law_law_633 : decode code 633 = .ok (.iload 5, 2) := by decide +kernel
theorem d_Law_law_635 : decode code 635 = .ok (.if_icmp .eq 5, 3) := by decide +kernel
theorem d_Law_law_640 : decode code 640 = .ok (.iload 5, 2) := by decide +kernel
theorem d_Law_law_642 : decode code 642 = .ok (.ifCond .ne 15, 3) := by decide +kernel
theorem d_Law_law_657 : decode code 657 = .ok (.goto 40, 3) := by decide +kernel
theorem d_Law_law_660 : decode code 660 = .ok (.aload_n 1, 1) := by decide +kernel
theorem d_Law_law_661 : decode code 661 = .ok (.aload_n 0, 1) := by decide +kernel
theorem d_Law_law_662 : decode code 662 = .ok (.iload 4, 2) := by decide +kernel
theorem d_Law_law_664 : decode code 664 = .ok (.iconst 1, 1) := by decide +kernel
theorem d_Law_law_665 : decode code 665 = .ok (.iadd, 1) := by decide +kernel
theorem d_Law_law_666 : decode code 666 = .ok (.iaload, 1) := by decide +kernel
theorem d_Law_law_667 : decode code 667 = .ok (.aload_n 0, 1) := by decide +kernel
theorem d_Law_law_668 : decode code 668 = .ok (.iload 4, 2) := by decide +kernel
theorem d_Law_law_670 : decode code 670 = .ok (.iconst 2, 1) := by decide +kernel
theorem d_Law_law_671 : decode code 671 = .ok (.iadd, 1) := by decide +kernel
theorem d_Law_law_672 : decode code 672 = .ok (.iaload, 1) := by decide +kernel
theorem d_Law_law_673 : decode code 673 = .ok (.invokevirtual 95, 3) := by decide +kernel
theorem d_Law_law_676 : decode code 676 = .ok (.aload_n 2, 1) := by decide +kernel
theorem d_Law_law_677 : decode code 677 = .ok (.aload_n 0, 1) := by decide +kernel
theorem d_Law_law_678 : decode code 678 = .ok (.iload 4, 2) := by decide +kernel
theorem d_Law_law_680 : decode code 680 = .ok (.iconst 1, 1) := by decide +kernel
theorem d_Law_law_681 : decode code 681 = .ok (.iadd, 1) := by decide +kernel
theorem d_Law_law_682 : decode code 682 = .ok (.iaload, 1) := by decide +kernel
theorem d_Law_law_683 : decode code 683 = .ok (.aload_n 0, 1) := by decide +kernel
theorem d_Law_law_684 : decode code 684 = .ok (.iload 4, 2) := by decide +kernel
theorem d_Law_law_686 : decode code 686 = .ok (.iconst 2, 1) := by decide +kernel
theorem d_Law_law_687 : decode code 687 = .ok (.iadd, 1) := by decide +kernel
theorem d_Law_law_688 : decode code 688 = .ok (.iaload, 1) := by decide +kernel
theorem d_Law_law_689 : decode code 689 = .ok (.invokevirtual 98, 3) := by decide +kernel
theorem d_Law_law_692 : decode code 692 = .ok (.if_icmp .eq 5, 3) := by decide +kernel
theorem d_Law_law_0 : decode code 0 = .ok (.new 8, 3) := by decide +kernel
theorem d_Law_law_3 : decode code 3 = .ok (.dup, 1) := by decide +kernel
theorem d_Law_law_4 : decode code 4 = .ok (.invokespecial 41, 3) := by decide +kernel
theorem d_Law_law_7 : decode code 7 = .ok (.astore_n 1, 1) := by decide +kernel
theorem d_Law_law_8 : decode code 8 = .ok (.new 42, 3) := by decide +kernel
theorem d_Law_law_11 : decode code 11 = .ok (.dup, 1) := by decide +kernel
theorem d_Law_law_12 : decode code 12 = .ok (.invokespecial 44, 3) := by decide +kernel
theorem d_Law_law_15 : decode code 15 = .ok (.astore_n 2, 1) := by decide +kernel
theorem d_Law_law_16 : decode code 16 = .ok (.iconst 1, 1) := by decide +kernel
theorem d_Law_law_17 : decode code 17 = .ok (.newarray .long, 2) := by decide +kernel
theorem d_Law_law_19 : decode code 19 = .ok (.astore_n 3, 1) := by decide +kernel
theorem d_Law_law_20 : decode code 20 = .ok (.iconst 0, 1) := by decide +kernel
theorem d_Law_law_21 : decode code 21 = .ok (.istore 4, 2) := by decide +kernel
theorem d_Law_law_32 : decode code 32 = .ok (.aload_n 0, 1) := by decide +kernel
theorem d_Law_law_33 : decode code 33 = .ok (.iload 4, 2) := by decide +kernel
theorem d_Law_law_35 : decode code 35 = .ok (.iaload, 1) := by decide +kernel
theorem d_Law_law_36 : decode code 36 = .ok (.bipush 15, 2) := by decide +kernel
theorem d_Law_law_38 : decode code 38 = .ok (.iand, 1) := by decide +kernel
theorem d_Law_law_39 : decode code 39 = .ok (.tableswitch 658 0 11 #[61, 98, 178, 250, 298, 323, 336, 349, 417, 473, 541, 621], 61) := by decide +kernel
