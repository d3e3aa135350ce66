theorem d_Model_ask_73 : decode prog_10_method_41_code 73 = .ok (.ireturn, 1) := by decide +kernel
theorem d_Model_ask_74 : decode prog_10_method_41_code 74 = .ok (.aload_n 0, 1) := by decide +kernel
theorem d_Model_ask_75 : decode prog_10_method_41_code 75 = .ok (.dup, 1) := by decide +kernel
theorem d_Model_ask_76 : decode prog_10_method_41_code 76 = .ok (.getfield 130, 3) := by decide +kernel
theorem d_Model_ask_79 : decode prog_10_method_41_code 79 = .ok (.iload 5, 2) := by decide +kernel
theorem d_Model_ask_81 : decode prog_10_method_41_code 81 = .ok (.isub, 1) := by decide +kernel
theorem d_Model_ask_82 : decode prog_10_method_41_code 82 = .ok (.putfield 130, 3) := by decide +kernel
theorem d_Model_ask_85 : decode prog_10_method_41_code 85 = .ok (.aload_n 0, 1) := by decide +kernel
theorem d_Model_ask_86 : decode prog_10_method_41_code 86 = .ok (.iload_n 2, 1) := by decide +kernel
theorem d_Model_ask_87 : decode prog_10_method_41_code 87 = .ok (.iconst (-1), 1) := by decide +kernel
theorem d_Model_ask_88 : decode prog_10_method_41_code 88 = .ok (.if_icmp .ne 7, 3) := by decide +kernel
theorem d_Model_ask_91 : decode prog_10_method_41_code 91 = .ok (.iconst 0, 1) := by decide +kernel
theorem d_Model_ask_92 : decode prog_10_method_41_code 92 = .ok (.goto 12, 3) := by decide +kernel
theorem d_Model_ask_95 : decode prog_10_method_41_code 95 = .ok (.aload_n 0, 1) := by decide +kernel
theorem d_Model_ask_96 : decode prog_10_method_41_code 96 = .ok (.getfield 13, 3) := by decide +kernel
theorem d_Model_ask_99 : decode prog_10_method_41_code 99 = .ok (.iload 6, 2) := by decide +kernel
theorem d_Model_ask_101 : decode prog_10_method_41_code 101 = .ok (.iconst 1, 1) := by decide +kernel
theorem d_Model_ask_102 : decode prog_10_method_41_code 102 = .ok (.iadd, 1) := by decide +kernel
theorem d_Model_ask_103 : decode prog_10_method_41_code 103 = .ok (.iaload, 1) := by decide +kernel
theorem d_Model_ask_104 : decode prog_10_method_41_code 104 = .ok (.iload_n 2, 1) := by decide +kernel
theorem d_Model_ask_105 : decode prog_10_method_41_code 105 = .ok (.iconst (-1), 1) := by decide +kernel
theorem d_Model_ask_106 : decode prog_10_method_41_code 106 = .ok (.if_icmp .ne 7, 3) := by decide +kernel
theorem d_Model_ask_109 : decode prog_10_method_41_code 109 = .ok (.iconst 0, 1) := by decide +kernel
theorem d_Model_ask_110 : decode prog_10_method_41_code 110 = .ok (.goto 12, 3) := by decide +kernel
theorem d_Model_ask_113 : decode prog_10_method_41_code 113 = .ok (.aload_n 0, 1) := by decide +kernel
theorem d_Model_ask_114 : decode prog_10_method_41_code 114 = .ok (.getfield 13, 3) := by decide +kernel
theorem d_Model_ask_117 : decode prog_10_method_41_code 117 = .ok (.iload 6, 2) := by decide +kernel
theorem d_Model_ask_119 : decode prog_10_method_41_code 119 = .ok (.iconst 2, 1) := by decide +kernel
theorem d_Model_ask_120 : decode prog_10_method_41_code 120 = .ok (.iadd, 1) := by decide +kernel
theorem d_Model_ask_121 : decode prog_10_method_41_code 121 = .ok (.iaload, 1) := by decide +kernel
theorem d_Model_ask_122 : decode prog_10_method_41_code 122 = .ok (.invokevirtual 133, 3) := by decide +kernel
theorem d_Model_ask_125 : decode prog_10_method_41_code 125 = .ok (.aload_n 0, 1) := by decide +kernel
theorem d_Model_ask_126 : decode prog_10_method_41_code 126 = .ok (.getfield 59, 3) := by decide +kernel
theorem d_Model_ask_129 : decode prog_10_method_41_code 129 = .ok (.aload_n 0, 1) := by decide +kernel
theorem d_Model_ask_130 : decode prog_10_method_41_code 130 = .ok (.getfield 127, 3) := by decide +kernel
theorem d_Model_ask_133 : decode prog_10_method_41_code 133 = .ok (.iconst 1, 1) := by decide +kernel
theorem d_Model_ask_134 : decode prog_10_method_41_code 134 = .ok (.isub, 1) := by decide +kernel
theorem d_Model_ask_135 : decode prog_10_method_41_code 135 = .ok (.aload_n 0, 1) := by decide +kernel
theorem d_Model_ask_136 : decode prog_10_method_41_code 136 = .ok (.getfield 62, 3) := by decide +kernel
theorem d_Model_ask_139 : decode prog_10_method_41_code 139 = .ok (.aload_n 0, 1) := by decide +kernel
theorem d_Model_ask_140 : decode prog_10_method_41_code 140 = .ok (.getfield 127, 3) := by decide +kernel
theorem d_Model_ask_143 : decode prog_10_method_41_code 143 = .ok (.iconst 1, 1) := by decide +kernel
theorem d_Model_ask_144 : decode prog_10_method_41_code 144 = .ok (.isub, 1) := by decide +kernel
theorem d_Model_ask_145 : decode prog_10_method_41_code 145 = .ok (.iaload, 1) := by decide +kernel
theorem d_Model_ask_146 : decode prog_10_method_41_code 146 = .ok (.iastore, 1) := by decide +kernel
theorem d_Model_ask_147 : decode prog_10_method_41_code 147 = .ok (.iconst 1, 1) := by decide +kernel
theorem d_Model_ask_148 : decode prog_10_method_41_code 148 = .ok (.ireturn, 1) := by decide +kernel
theorem d_Model_assign_0 : decode prog_10_method_39_code 0 = .ok (.aload_n 0, 1) := by decide +kernel
theorem d_Model_assign_1 : decode prog_10_method_39_code 1 = .ok (.invokevirtual 181, 3) := by decide +kernel
theorem d_Model_assign_4 : decode prog_10_method_39_code 4 = .ok (.iconst 2, 1) := by decide +kernel
theorem d_Model_assign_5 : decode prog_10_method_39_code 5 = .ok (.if_icmp .lt 26, 3) := by decide +kernel
theorem d_Model_assign_8 : decode prog_10_method_39_code 8 = .ok (.aload_n 0, 1) := by decide +kernel
theorem d_Model_assign_9 : decode prog_10_method_39_code 9 = .ok (.iload_n 1, 1) := by decide +kernel
theorem d_Model_assign_10 : decode prog_10_method_39_code 10 = .ok (.invokevirtual 124, 3) := by decide +kernel
theorem d_Model_assign_13 : decode prog_10_method_39_code 13 = .ok (.bipush 7, 2) := by decide +kernel
theorem d_Model_assign_15 : decode prog_10_method_39_code 15 = .ok (.if_icmp .gt 16, 3) := by decide +kernel
theorem d_Model_assign_18 : decode prog_10_method_39_code 18 = .ok (.aload_n 0, 1) := by decide +kernel
theorem d_Model_assign_19 : decode prog_10_method_39_code 19 = .ok (.aload_n 0, 1) := by decide +kernel
theorem d_Model_assign_20 : decode prog_10_method_39_code 20 = .ok (.getfield 130, 3) := by decide +kernel
theorem d_Model_assign_23 : decode prog_10_method_39_code 23 = .ok (.iconst 1, 1) := by decide +kernel
theorem d_Model_assign_24 : decode prog_10_method_39_code 24 = .ok (.isub, 1) := by decide +kernel
theorem d_Model_assign_25 : decode prog_10_method_39_code 25 = .ok (.invokevirtual 201, 3) := by decide +kernel
theorem d_Model_assign_28 : decode prog_10_method_39_code 28 = .ok (.ifCond .ne 5, 3) := by decide +kernel
theorem d_Model_assign_31 : decode prog_10_method_39_code 31 = .ok (.iconst 0, 1) := by decide +kernel
theorem d_Model_assign_32 : decode prog_10_method_39_code 32 = .ok (.ireturn, 1) := by decide +kernel
theorem d_Model_assign_33 : decode prog_10_method_39_code 33 = .ok (.aload_n 0, 1) := by decide +kernel
theorem d_Model_assign_34 : decode prog_10_method_39_code 34 = .ok (.aload_n 0, 1) := by decide +kernel
theorem d_Model_assign_35 : decode prog_10_method_39_code 35 = .ok (.getfield 35, 3) := by decide +kernel
theorem d_Model_assign_38 : decode prog_10_method_39_code 38 = .ok (.aload_n 0, 1) := by decide +kernel
theorem d_Model_assign_39 : decode prog_10_method_39_code 39 = .ok (.getfield 130, 3) := by decide +kernel
theorem d_Model_assign_42 : decode prog_10_method_39_code 42 = .ok (.iconst 1, 1) := by decide +kernel
theorem d_Model_assign_43 : decode prog_10_method_39_code 43 = .ok (.isub, 1) := by decide +kernel
theorem d_Model_assign_44 : decode prog_10_method_39_code 44 = .ok (.iaload, 1) := by decide +kernel
theorem d_Model_assign_45 : decode prog_10_method_39_code 45 = .ok (.aload_n 0, 1) := by decide +kernel
theorem d_Model_assign_46 : decode prog_10_method_39_code 46 = .ok (.iload_n 1, 1) := by decide +kernel
theorem d_Model_assign_47 : decode prog_10_method_39_code 47 = .ok (.invokevirtual 124, 3) := by decide +kernel
theorem d_Model_assign_50 : decode prog_10_method_39_code 50 = .ok (.aload_n 0, 1) := by decide +kernel
theorem d_Model_assign_51 : decode prog_10_method_39_code 51 = .ok (.getfield 32, 3) := by decide +kernel
theorem d_Model_assign_54 : decode prog_10_method_39_code 54 = .ok (.aload_n 0, 1) := by decide +kernel
theorem d_Model_assign_55 : decode prog_10_method_39_code 55 = .ok (.getfield 130, 3) := by decide +kernel
theorem d_Model_assign_58 : decode prog_10_method_39_code 58 = .ok (.iconst 2, 1) := by decide +kernel
theorem d_Model_assign_59 : decode prog_10_method_39_code 59 = .ok (.isub, 1) := by decide +kernel
theorem d_Model_assign_60 : decode prog_10_method_39_code 60 = .ok (.iaload, 1) := by decide +kernel
theorem d_Model_assign_61 : decode prog_10_method_39_code 61 = .ok (.aload_n 0, 1) := by decide +kernel
theorem d_Model_assign_62 : decode prog_10_method_39_code 62 = .ok (.getfield 35, 3) := by decide +kernel
theorem d_Model_assign_65 : decode prog_10_method_39_code 65 = .ok (.aload_n 0, 1) := by decide +kernel
theorem d_Model_assign_66 : decode prog_10_method_39_code 66 = .ok (.getfield 130, 3) := by decide +kernel
theorem d_Model_assign_69 : decode prog_10_method_39_code 69 = .ok (.iconst 2, 1) := by decide +kernel
theorem d_Model_assign_70 : decode prog_10_method_39_code 70 = .ok (.isub, 1) := by decide +kernel
theorem d_Model_assign_71 : decode prog_10_method_39_code 71 = .ok (.iaload, 1) := by decide +kernel
theorem d_Model_assign_72 : decode prog_10_method_39_code 72 = .ok (.invokevirtual 120, 3) := by decide +kernel
theorem d_Model_assign_75 : decode prog_10_method_39_code 75 = .ok (.aload_n 0, 1) := by decide +kernel
theorem d_Model_assign_76 : decode prog_10_method_39_code 76 = .ok (.dup, 1) := by decide +kernel
theorem d_Model_assign_77 : decode prog_10_method_39_code 77 = .ok (.getfield 130, 3) := by decide +kernel
theorem d_Model_assign_80 : decode prog_10_method_39_code 80 = .ok (.iconst 2, 1) := by decide +kernel
theorem d_Model_assign_81 : decode prog_10_method_39_code 81 = .ok (.isub, 1) := by decide +kernel
theorem d_Model_assign_82 : decode prog_10_method_39_code 82 = .ok (.putfield 130, 3) := by decide +kernel
theorem d_Model_assign_85 : decode prog_10_method_39_code 85 = .ok (.iconst 1, 1) := by decide +kernel
theorem d_Model_assign_86 : decode prog_10_method_39_code 86 = .ok (.ireturn, 1) := by decide +kernel
theorem d_Model_at_0 : decode prog_10_method_20_code 0 = .ok (.iload_n 1, 1) := by decide +kernel
theorem d_Model_at_1 : decode prog_10_method_20_code 1 = .ok (.iconst 0, 1) := by decide +kernel
theorem d_Model_at_2 : decode prog_10_method_20_code 2 = .ok (.aload_n 0, 1) := by decide +kernel
theorem d_Model_at_3 : decode prog_10_method_20_code 3 = .ok (.getfield 104, 3) := by decide +kernel
theorem d_Model_at_6 : decode prog_10_method_20_code 6 = .ok (.iconst 1, 1) := by decide +kernel
theorem d_Model_at_7 : decode prog_10_method_20_code 7 = .ok (.isub, 1) := by decide +kernel
theorem d_Model_at_8 : decode prog_10_method_20_code 8 = .ok (.invokestatic 78, 3) := by decide +kernel
theorem d_Model_at_11 : decode prog_10_method_20_code 11 = .ok (.ifCond .eq 9, 3) := by decide +kernel
theorem d_Model_at_14 : decode prog_10_method_20_code 14 = .ok (.sipush 1000, 3) := by decide +kernel
theorem d_Model_at_17 : decode prog_10_method_20_code 17 = .ok (.goto 9, 3) := by decide +kernel
theorem d_Model_at_20 : decode prog_10_method_20_code 20 = .ok (.aload_n 0, 1) := by decide +kernel
theorem d_Model_at_21 : decode prog_10_method_20_code 21 = .ok (.getfield 7, 3) := by decide +kernel
theorem d_Model_at_24 : decode prog_10_method_20_code 24 = .ok (.iload_n 1, 1) := by decide +kernel
theorem d_Model_at_25 : decode prog_10_method_20_code 25 = .ok (.iaload, 1) := by decide +kernel
theorem d_Model_at_26 : decode prog_10_method_20_code 26 = .ok (.ireturn, 1) := by decide +kernel
theorem d_Model_begin_0 : decode prog_10_method_24_code 0 = .ok (.aload_n 0, 1) := by decide +kernel
theorem d_Model_begin_1 : decode prog_10_method_24_code 1 = .ok (.iconst 0, 1) := by decide +kernel
theorem d_Model_begin_2 : decode prog_10_method_24_code 2 = .ok (.putfield 75, 3) := by decide +kernel
theorem d_Model_begin_5 : decode prog_10_method_24_code 5 = .ok (.aload_n 0, 1) := by decide +kernel
theorem d_Model_begin_6 : decode prog_10_method_24_code 6 = .ok (.iload_n 1, 1) := by decide +kernel
theorem d_Model_begin_7 : decode prog_10_method_24_code 7 = .ok (.invokevirtual 107, 3) := by decide +kernel
theorem d_Model_begin_10 : decode prog_10_method_24_code 10 = .ok (.ifCond .ne 11, 3) := by decide +kernel
theorem d_Model_begin_13 : decode prog_10_method_24_code 13 = .ok (.aload_n 0, 1) := by decide +kernel
theorem d_Model_begin_14 : decode prog_10_method_24_code 14 = .ok (.iconst 1, 1) := by decide +kernel
theorem d_Model_begin_15 : decode prog_10_method_24_code 15 = .ok (.putfield 75, 3) := by decide +kernel
theorem d_Model_begin_18 : decode prog_10_method_24_code 18 = .ok (.goto 18, 3) := by decide +kernel
theorem d_Model_begin_21 : decode prog_10_method_24_code 21 = .ok (.iload_n 2, 1) := by decide +kernel
theorem d_Model_begin_22 : decode prog_10_method_24_code 22 = .ok (.iconst 0, 1) := by decide +kernel
theorem d_Model_begin_23 : decode prog_10_method_24_code 23 = .ok (.bipush 7, 2) := by decide +kernel
theorem d_Model_begin_25 : decode prog_10_method_24_code 25 = .ok (.invokestatic 78, 3) := by decide +kernel
theorem d_Model_begin_28 : decode prog_10_method_24_code 28 = .ok (.ifCond .eq 8, 3) := by decide +kernel
theorem d_Model_begin_31 : decode prog_10_method_24_code 31 = .ok (.aload_n 0, 1) := by decide +kernel
theorem d_Model_begin_32 : decode prog_10_method_24_code 32 = .ok (.iconst 2, 1) := by decide +kernel
theorem d_Model_begin_33 : decode prog_10_method_24_code 33 = .ok (.putfield 75, 3) := by decide +kernel
theorem d_Model_begin_36 : decode prog_10_method_24_code 36 = .ok (.aload_n 0, 1) := by decide +kernel
theorem d_Model_begin_37 : decode prog_10_method_24_code 37 = .ok (.getfield 75, 3) := by decide +kernel
theorem d_Model_begin_40 : decode prog_10_method_24_code 40 = .ok (.ifCond .le 4, 3) := by decide +kernel
theorem d_Model_begin_43 : decode prog_10_method_24_code 43 = .ok (.return_, 1) := by decide +kernel
theorem d_Model_begin_44 : decode prog_10_method_24_code 44 = .ok (.aload_n 0, 1) := by decide +kernel
theorem d_Model_begin_45 : decode prog_10_method_24_code 45 = .ok (.iload_n 1, 1) := by decide +kernel
theorem d_Model_begin_46 : decode prog_10_method_24_code 46 = .ok (.iload_n 2, 1) := by decide +kernel
theorem d_Model_begin_47 : decode prog_10_method_24_code 47 = .ok (.iconst (-1), 1) := by decide +kernel
theorem d_Model_begin_48 : decode prog_10_method_24_code 48 = .ok (.invokevirtual 137, 3) := by decide +kernel
theorem d_Model_begin_51 : decode prog_10_method_24_code 51 = .ok (.istore_n 3, 1) := by decide +kernel
theorem d_Model_begin_52 : decode prog_10_method_24_code 52 = .ok (.iload_n 3, 1) := by decide +kernel
theorem d_Model_begin_53 : decode prog_10_method_24_code 53 = .ok (.iconst (-1), 1) := by decide +kernel
theorem d_Model_begin_54 : decode prog_10_method_24_code 54 = .ok (.if_icmp .eq 45, 3) := by decide +kernel
theorem d_Model_begin_57 : decode prog_10_method_24_code 57 = .ok (.aload_n 0, 1) := by decide +kernel
theorem d_Model_begin_58 : decode prog_10_method_24_code 58 = .ok (.getfield 13, 3) := by decide +kernel
theorem d_Model_begin_61 : decode prog_10_method_24_code 61 = .ok (.aload_n 0, 1) := by decide +kernel
theorem d_Model_begin_62 : decode prog_10_method_24_code 62 = .ok (.iload_n 3, 1) := by decide +kernel
theorem d_Model_begin_63 : decode prog_10_method_24_code 63 = .ok (.iload_n 2, 1) := by decide +kernel
theorem d_Model_begin_64 : decode prog_10_method_24_code 64 = .ok (.invokevirtual 82, 3) := by decide +kernel
theorem d_Model_begin_67 : decode prog_10_method_24_code 67 = .ok (.iconst 1, 1) := by decide +kernel
theorem d_Model_begin_68 : decode prog_10_method_24_code 68 = .ok (.iadd, 1) := by decide +kernel
theorem d_Model_begin_69 : decode prog_10_method_24_code 69 = .ok (.iaload, 1) := by decide +kernel
theorem d_Model_begin_70 : decode prog_10_method_24_code 70 = .ok (.iconst 4, 1) := by decide +kernel
theorem d_Model_begin_71 : decode prog_10_method_24_code 71 = .ok (.if_icmp .ne 28, 3) := by decide +kernel
theorem d_Model_begin_74 : decode prog_10_method_24_code 74 = .ok (.aload_n 0, 1) := by decide +kernel
theorem d_Model_begin_75 : decode prog_10_method_24_code 75 = .ok (.aload_n 0, 1) := by decide +kernel
theorem d_Model_begin_76 : decode prog_10_method_24_code 76 = .ok (.getfield 13, 3) := by decide +kernel
theorem d_Model_begin_79 : decode prog_10_method_24_code 79 = .ok (.aload_n 0, 1) := by decide +kernel
theorem d_Model_begin_80 : decode prog_10_method_24_code 80 = .ok (.iload_n 3, 1) := by decide +kernel
theorem d_Model_begin_81 : decode prog_10_method_24_code 81 = .ok (.iload_n 2, 1) := by decide +kernel
theorem d_Model_begin_82 : decode prog_10_method_24_code 82 = .ok (.invokevirtual 82, 3) := by decide +kernel
theorem d_Model_begin_85 : decode prog_10_method_24_code 85 = .ok (.iconst 2, 1) := by decide +kernel
theorem d_Model_begin_86 : decode prog_10_method_24_code 86 = .ok (.iadd, 1) := by decide +kernel
theorem d_Model_begin_87 : decode prog_10_method_24_code 87 = .ok (.iaload, 1) := by decide +kernel
theorem d_Model_begin_88 : decode prog_10_method_24_code 88 = .ok (.iconst 0, 1) := by decide +kernel
theorem d_Model_begin_89 : decode prog_10_method_24_code 89 = .ok (.invokevirtual 141, 3) := by decide +kernel
theorem d_Model_begin_92 : decode prog_10_method_24_code 92 = .ok (.ifCond .eq 7, 3) := by decide +kernel
theorem d_Model_begin_95 : decode prog_10_method_24_code 95 = .ok (.iconst 1, 1) := by decide +kernel
theorem d_Model_begin_96 : decode prog_10_method_24_code 96 = .ok (.goto 4, 3) := by decide +kernel
theorem d_Model_begin_99 : decode prog_10_method_24_code 99 = .ok (.iconst 0, 1) := by decide +kernel
theorem d_Model_begin_100 : decode prog_10_method_24_code 100 = .ok (.istore 4, 2) := by decide +kernel
theorem d_Model_begin_102 : decode prog_10_method_24_code 102 = .ok (.aload_n 0, 1) := by decide +kernel
theorem d_Model_begin_103 : decode prog_10_method_24_code 103 = .ok (.iload 4, 2) := by decide +kernel
theorem d_Model_begin_105 : decode prog_10_method_24_code 105 = .ok (.ifCond .ne 7, 3) := by decide +kernel
theorem d_Model_begin_108 : decode prog_10_method_24_code 108 = .ok (.iconst 2, 1) := by decide +kernel
theorem d_Model_begin_109 : decode prog_10_method_24_code 109 = .ok (.goto 15, 3) := by decide +kernel
theorem d_Model_begin_112 : decode prog_10_method_24_code 112 = .ok (.aload_n 0, 1) := by decide +kernel
theorem d_Model_begin_113 : decode prog_10_method_24_code 113 = .ok (.getfield 71, 3) := by decide +kernel
theorem d_Model_begin_116 : decode prog_10_method_24_code 116 = .ok (.ifCond .ne 7, 3) := by decide +kernel
theorem d_Model_begin_119 : decode prog_10_method_24_code 119 = .ok (.iconst 3, 1) := by decide +kernel
theorem d_Model_begin_120 : decode prog_10_method_24_code 120 = .ok (.goto 4, 3) := by decide +kernel
theorem d_Model_begin_123 : decode prog_10_method_24_code 123 = .ok (.iconst 0, 1) := by decide +kernel
theorem d_Model_begin_124 : decode prog_10_method_24_code 124 = .ok (.putfield 75, 3) := by decide +kernel
theorem d_Model_begin_127 : decode prog_10_method_24_code 127 = .ok (.aload_n 0, 1) := by decide +kernel
theorem d_Model_begin_128 : decode prog_10_method_24_code 128 = .ok (.getfield 75, 3) := by decide +kernel
theorem d_Model_begin_131 : decode prog_10_method_24_code 131 = .ok (.ifCond .le 4, 3) := by decide +kernel
theorem d_Model_begin_134 : decode prog_10_method_24_code 134 = .ok (.return_, 1) := by decide +kernel
theorem d_Model_begin_135 : decode prog_10_method_24_code 135 = .ok (.aload_n 0, 1) := by decide +kernel
theorem d_Model_begin_136 : decode prog_10_method_24_code 136 = .ok (.iconst 0, 1) := by decide +kernel
theorem d_Model_begin_137 : decode prog_10_method_24_code 137 = .ok (.putfield 127, 3) := by decide +kernel
theorem d_Model_begin_140 : decode prog_10_method_24_code 140 = .ok (.aload_n 0, 1) := by decide +kernel
theorem d_Model_begin_141 : decode prog_10_method_24_code 141 = .ok (.iconst 0, 1) := by decide +kernel
theorem d_Model_begin_142 : decode prog_10_method_24_code 142 = .ok (.putfield 130, 3) := by decide +kernel
theorem d_Model_begin_145 : decode prog_10_method_24_code 145 = .ok (.aload_n 0, 1) := by decide +kernel
theorem d_Model_begin_146 : decode prog_10_method_24_code 146 = .ok (.iconst 0, 1) := by decide +kernel
theorem d_Model_begin_147 : decode prog_10_method_24_code 147 = .ok (.putfield 144, 3) := by decide +kernel
theorem d_Model_begin_150 : decode prog_10_method_24_code 150 = .ok (.aload_n 0, 1) := by decide +kernel
theorem d_Model_begin_151 : decode prog_10_method_24_code 151 = .ok (.iconst 0, 1) := by decide +kernel
theorem d_Model_begin_152 : decode prog_10_method_24_code 152 = .ok (.putfield 147, 3) := by decide +kernel
theorem d_Model_begin_155 : decode prog_10_method_24_code 155 = .ok (.aload_n 0, 1) := by decide +kernel
theorem d_Model_begin_156 : decode prog_10_method_24_code 156 = .ok (.iconst 0, 1) := by decide +kernel
theorem d_Model_begin_157 : decode prog_10_method_24_code 157 = .ok (.putfield 150, 3) := by decide +kernel
theorem d_Model_begin_160 : decode prog_10_method_24_code 160 = .ok (.aload_n 0, 1) := by decide +kernel
theorem d_Model_begin_161 : decode prog_10_method_24_code 161 = .ok (.iconst 0, 1) := by decide +kernel
theorem d_Model_begin_162 : decode prog_10_method_24_code 162 = .ok (.putfield 153, 3) := by decide +kernel
theorem d_Model_begin_165 : decode prog_10_method_24_code 165 = .ok (.aload_n 0, 1) := by decide +kernel
theorem d_Model_begin_166 : decode prog_10_method_24_code 166 = .ok (.iconst 0, 1) := by decide +kernel
theorem d_Model_begin_167 : decode prog_10_method_24_code 167 = .ok (.putfield 71, 3) := by decide +kernel
theorem d_Model_begin_170 : decode prog_10_method_24_code 170 = .ok (.aload_n 0, 1) := by decide +kernel
theorem d_Model_begin_171 : decode prog_10_method_24_code 171 = .ok (.aload_n 0, 1) := by decide +kernel
theorem d_Model_begin_172 : decode prog_10_method_24_code 172 = .ok (.getfield 13, 3) := by decide +kernel
theorem d_Model_begin_175 : decode prog_10_method_24_code 175 = .ok (.aload_n 0, 1) := by decide +kernel
theorem d_Model_begin_176 : decode prog_10_method_24_code 176 = .ok (.iload_n 3, 1) := by decide +kernel
theorem d_Model_begin_177 : decode prog_10_method_24_code 177 = .ok (.iload_n 2, 1) := by decide +kernel
theorem d_Model_begin_178 : decode prog_10_method_24_code 178 = .ok (.invokevirtual 82, 3) := by decide +kernel
theorem d_Model_begin_181 : decode prog_10_method_24_code 181 = .ok (.iconst 2, 1) := by decide +kernel
theorem d_Model_begin_182 : decode prog_10_method_24_code 182 = .ok (.iadd, 1) := by decide +kernel
theorem d_Model_begin_183 : decode prog_10_method_24_code 183 = .ok (.iaload, 1) := by decide +kernel
theorem d_Model_begin_184 : decode prog_10_method_24_code 184 = .ok (.iconst 0, 1) := by decide +kernel
theorem d_Model_begin_185 : decode prog_10_method_24_code 185 = .ok (.iload_n 1, 1) := by decide +kernel
theorem d_Model_begin_186 : decode prog_10_method_24_code 186 = .ok (.iload_n 3, 1) := by decide +kernel
theorem d_Model_begin_187 : decode prog_10_method_24_code 187 = .ok (.invokevirtual 156, 3) := by decide +kernel
theorem d_Model_begin_190 : decode prog_10_method_24_code 190 = .ok (.return_, 1) := by decide +kernel
theorem d_Model_belongs_0 : decode prog_10_method_15_code 0 = .ok (.iconst 1, 1) := by decide +kernel
theorem d_Model_belongs_1 : decode prog_10_method_15_code 1 = .ok (.iload_n 1, 1) := by decide +kernel
theorem d_Model_belongs_2 : decode prog_10_method_15_code 2 = .ok (.ishl, 1) := by decide +kernel
theorem d_Model_belongs_3 : decode prog_10_method_15_code 3 = .ok (.istore_n 3, 1) := by decide +kernel
theorem d_Model_belongs_4 : decode prog_10_method_15_code 4 = .ok (.iconst 0, 1) := by decide +kernel
theorem d_Model_belongs_5 : decode prog_10_method_15_code 5 = .ok (.istore 4, 2) := by decide +kernel
theorem d_Model_belongs_7 : decode prog_10_method_15_code 7 = .ok (.iload_n 3, 1) := by decide +kernel
theorem d_Model_belongs_8 : decode prog_10_method_15_code 8 = .ok (.iload 4, 2) := by decide +kernel
theorem d_Model_belongs_10 : decode prog_10_method_15_code 10 = .ok (.if_icmp .eq 69, 3) := by decide +kernel
theorem d_Model_belongs_13 : decode prog_10_method_15_code 13 = .ok (.iload_n 3, 1) := by decide +kernel
theorem d_Model_belongs_14 : decode prog_10_method_15_code 14 = .ok (.istore 4, 2) := by decide +kernel
theorem d_Model_belongs_16 : decode prog_10_method_15_code 16 = .ok (.iconst 0, 1) := by decide +kernel
theorem d_Model_belongs_17 : decode prog_10_method_15_code 17 = .ok (.istore 5, 2) := by decide +kernel
theorem d_Model_belongs_19 : decode prog_10_method_15_code 19 = .ok (.iload 5, 2) := by decide +kernel
theorem d_Model_belongs_21 : decode prog_10_method_15_code 21 = .ok (.bipush 32, 2) := by decide +kernel
theorem d_Model_belongs_23 : decode prog_10_method_15_code 23 = .ok (.if_icmp .ge 53, 3) := by decide +kernel
theorem d_Model_belongs_26 : decode prog_10_method_15_code 26 = .ok (.iconst 0, 1) := by decide +kernel
theorem d_Model_belongs_27 : decode prog_10_method_15_code 27 = .ok (.istore 6, 2) := by decide +kernel
theorem d_Model_belongs_29 : decode prog_10_method_15_code 29 = .ok (.iload 6, 2) := by decide +kernel
theorem d_Model_belongs_31 : decode prog_10_method_15_code 31 = .ok (.aload_n 0, 1) := by decide +kernel
theorem d_Model_belongs_32 : decode prog_10_method_15_code 32 = .ok (.iload 5, 2) := by decide +kernel
theorem d_Model_belongs_34 : decode prog_10_method_15_code 34 = .ok (.invokevirtual 89, 3) := by decide +kernel
theorem d_Model_belongs_37 : decode prog_10_method_15_code 37 = .ok (.if_icmp .ge 33, 3) := by decide +kernel
theorem d_Model_belongs_40 : decode prog_10_method_15_code 40 = .ok (.iload 4, 2) := by decide +kernel
theorem d_Model_belongs_42 : decode prog_10_method_15_code 42 = .ok (.iload 5, 2) := by decide +kernel
theorem d_Model_belongs_44 : decode prog_10_method_15_code 44 = .ok (.ishr, 1) := by decide +kernel
theorem d_Model_belongs_45 : decode prog_10_method_15_code 45 = .ok (.iconst 1, 1) := by decide +kernel
theorem d_Model_belongs_46 : decode prog_10_method_15_code 46 = .ok (.iand, 1) := by decide +kernel
theorem d_Model_belongs_47 : decode prog_10_method_15_code 47 = .ok (.iconst 1, 1) := by decide +kernel
theorem d_Model_belongs_48 : decode prog_10_method_15_code 48 = .ok (.if_icmp .ne 22, 3) := by decide +kernel
theorem d_Model_belongs_51 : decode prog_10_method_15_code 51 = .ok (.iload_n 3, 1) := by decide +kernel
theorem d_Model_belongs_52 : decode prog_10_method_15_code 52 = .ok (.iconst 1, 1) := by decide +kernel
theorem d_Model_belongs_53 : decode prog_10_method_15_code 53 = .ok (.aload_n 0, 1) := by decide +kernel
theorem d_Model_belongs_54 : decode prog_10_method_15_code 54 = .ok (.iload 5, 2) := by decide +kernel
theorem d_Model_belongs_56 : decode prog_10_method_15_code 56 = .ok (.iload 6, 2) := by decide +kernel
theorem d_Model_belongs_58 : decode prog_10_method_15_code 58 = .ok (.invokevirtual 93, 3) := by decide +kernel
theorem d_Model_belongs_61 : decode prog_10_method_15_code 61 = .ok (.ishl, 1) := by decide +kernel
theorem d_Model_belongs_62 : decode prog_10_method_15_code 62 = .ok (.ior, 1) := by decide +kernel
theorem d_Model_belongs_63 : decode prog_10_method_15_code 63 = .ok (.istore_n 3, 1) := by decide +kernel
theorem d_Model_belongs_64 : decode prog_10_method_15_code 64 = .ok (.iinc 6 1, 3) := by decide +kernel
theorem d_Model_belongs_67 : decode prog_10_method_15_code 67 = .ok (.goto (-38), 3) := by decide +kernel
theorem d_Model_belongs_70 : decode prog_10_method_15_code 70 = .ok (.iinc 5 1, 3) := by decide +kernel
theorem d_Model_belongs_73 : decode prog_10_method_15_code 73 = .ok (.goto (-54), 3) := by decide +kernel
theorem d_Model_belongs_76 : decode prog_10_method_15_code 76 = .ok (.goto (-69), 3) := by decide +kernel
theorem d_Model_belongs_79 : decode prog_10_method_15_code 79 = .ok (.iload_n 3, 1) := by decide +kernel
theorem d_Model_belongs_80 : decode prog_10_method_15_code 80 = .ok (.iload_n 2, 1) := by decide +kernel
theorem d_Model_belongs_81 : decode prog_10_method_15_code 81 = .ok (.ishr, 1) := by decide +kernel
theorem d_Model_belongs_82 : decode prog_10_method_15_code 82 = .ok (.iconst 1, 1) := by decide +kernel
theorem d_Model_belongs_83 : decode prog_10_method_15_code 83 = .ok (.iand, 1) := by decide +kernel
theorem d_Model_belongs_84 : decode prog_10_method_15_code 84 = .ok (.iconst 1, 1) := by decide +kernel
theorem d_Model_belongs_85 : decode prog_10_method_15_code 85 = .ok (.if_icmp .ne 7, 3) := by decide +kernel
theorem d_Model_belongs_88 : decode prog_10_method_15_code 88 = .ok (.iconst 1, 1) := by decide +kernel
theorem d_Model_belongs_89 : decode prog_10_method_15_code 89 = .ok (.goto 4, 3) := by decide +kernel
theorem d_Model_belongs_92 : decode prog_10_method_15_code 92 = .ok (.iconst 0, 1) := by decide +kernel
theorem d_Model_belongs_93 : decode prog_10_method_15_code 93 = .ok (.ireturn, 1) := by decide +kernel
theorem d_Model_call_0 : decode prog_10_method_40_code 0 = .ok (.aload_n 0, 1) := by decide +kernel
theorem d_Model_call_1 : decode prog_10_method_40_code 1 = .ok (.iload_n 1, 1) := by decide +kernel
theorem d_Model_call_2 : decode prog_10_method_40_code 2 = .ok (.iload_n 2, 1) := by decide +kernel
theorem d_Model_call_3 : decode prog_10_method_40_code 3 = .ok (.invokevirtual 141, 3) := by decide +kernel
theorem d_Model_call_6 : decode prog_10_method_40_code 6 = .ok (.ifCond .eq 32, 3) := by decide +kernel
theorem d_Model_call_9 : decode prog_10_method_40_code 9 = .ok (.aload_n 0, 1) := by decide +kernel
theorem d_Model_call_10 : decode prog_10_method_40_code 10 = .ok (.getfield 127, 3) := by decide +kernel
theorem d_Model_call_13 : decode prog_10_method_40_code 13 = .ok (.bipush 8, 2) := by decide +kernel
theorem d_Model_call_15 : decode prog_10_method_40_code 15 = .ok (.if_icmp .eq 23, 3) := by decide +kernel
theorem d_Model_call_18 : decode prog_10_method_40_code 18 = .ok (.aload_n 0, 1) := by decide +kernel
theorem d_Model_call_19 : decode prog_10_method_40_code 19 = .ok (.getfield 130, 3) := by decide +kernel
theorem d_Model_call_22 : decode prog_10_method_40_code 22 = .ok (.iload_n 3, 1) := by decide +kernel
theorem d_Model_call_23 : decode prog_10_method_40_code 23 = .ok (.isub, 1) := by decide +kernel
theorem d_Model_call_24 : decode prog_10_method_40_code 24 = .ok (.aload_n 0, 1) := by decide +kernel
theorem d_Model_call_25 : decode prog_10_method_40_code 25 = .ok (.getfield 7, 3) := by decide +kernel
theorem d_Model_call_28 : decode prog_10_method_40_code 28 = .ok (.iload_n 1, 1) := by decide +kernel
theorem d_Model_call_29 : decode prog_10_method_40_code 29 = .ok (.iconst 1, 1) := by decide +kernel
theorem d_Model_call_30 : decode prog_10_method_40_code 30 = .ok (.iadd, 1) := by decide +kernel
theorem d_Model_call_31 : decode prog_10_method_40_code 31 = .ok (.iaload, 1) := by decide +kernel
theorem d_Model_call_32 : decode prog_10_method_40_code 32 = .ok (.iadd, 1) := by decide +kernel
theorem d_Model_call_33 : decode prog_10_method_40_code 33 = .ok (.bipush 40, 2) := by decide +kernel
theorem d_Model_call_35 : decode prog_10_method_40_code 35 = .ok (.if_icmp .le 5, 3) := by decide +kernel
theorem d_Model_call_38 : decode prog_10_method_40_code 38 = .ok (.iconst 0, 1) := by decide +kernel
theorem d_Model_call_39 : decode prog_10_method_40_code 39 = .ok (.ireturn, 1) := by decide +kernel
theorem d_Model_call_40 : decode prog_10_method_40_code 40 = .ok (.aload_n 0, 1) := by decide +kernel
theorem d_Model_call_41 : decode prog_10_method_40_code 41 = .ok (.dup, 1) := by decide +kernel
theorem d_Model_call_42 : decode prog_10_method_40_code 42 = .ok (.getfield 130, 3) := by decide +kernel
theorem d_Model_call_45 : decode prog_10_method_40_code 45 = .ok (.iload_n 3, 1) := by decide +kernel
theorem d_Model_call_46 : decode prog_10_method_40_code 46 = .ok (.isub, 1) := by decide +kernel
theorem d_Model_call_47 : decode prog_10_method_40_code 47 = .ok (.putfield 130, 3) := by decide +kernel
theorem d_Model_call_50 : decode prog_10_method_40_code 50 = .ok (.aload_n 0, 1) := by decide +kernel
theorem d_Model_call_51 : decode prog_10_method_40_code 51 = .ok (.iload_n 1, 1) := by decide +kernel
theorem d_Model_call_52 : decode prog_10_method_40_code 52 = .ok (.iload_n 2, 1) := by decide +kernel
theorem d_Model_call_53 : decode prog_10_method_40_code 53 = .ok (.iload 4, 2) := by decide +kernel
theorem d_Model_call_55 : decode prog_10_method_40_code 55 = .ok (.iload 5, 2) := by decide +kernel
theorem d_Model_call_57 : decode prog_10_method_40_code 57 = .ok (.invokevirtual 156, 3) := by decide +kernel
theorem d_Model_call_60 : decode prog_10_method_40_code 60 = .ok (.iconst 1, 1) := by decide +kernel
theorem d_Model_call_61 : decode prog_10_method_40_code 61 = .ok (.ireturn, 1) := by decide +kernel
theorem d_Model_code_0 : decode prog_10_method_16_code 0 = .ok (.aload_n 0, 1) := by decide +kernel
theorem d_Model_code_1 : decode prog_10_method_16_code 1 = .ok (.iconst 0, 1) := by decide +kernel
theorem d_Model_code_2 : decode prog_10_method_16_code 2 = .ok (.putfield 75, 3) := by decide +kernel
theorem d_Model_code_5 : decode prog_10_method_16_code 5 = .ok (.iload_n 2, 1) := by decide +kernel
theorem d_Model_code_6 : decode prog_10_method_16_code 6 = .ok (.iconst 1, 1) := by decide +kernel
theorem d_Model_code_7 : decode prog_10_method_16_code 7 = .ok (.iconst 4, 1) := by decide +kernel
theorem d_Model_code_8 : decode prog_10_method_16_code 8 = .ok (.invokestatic 78, 3) := by decide +kernel
theorem d_Model_code_11 : decode prog_10_method_16_code 11 = .ok (.ifCond .ne 15, 3) := by decide +kernel
theorem d_Model_code_14 : decode prog_10_method_16_code 14 = .ok (.aload_n 0, 1) := by decide +kernel
theorem d_Model_code_15 : decode prog_10_method_16_code 15 = .ok (.getfield 104, 3) := by decide +kernel
theorem d_Model_code_18 : decode prog_10_method_16_code 18 = .ok (.iload_n 2, 1) := by decide +kernel
theorem d_Model_code_19 : decode prog_10_method_16_code 19 = .ok (.iadd, 1) := by decide +kernel
theorem d_Model_code_20 : decode prog_10_method_16_code 20 = .ok (.sipush 300, 3) := by decide +kernel
theorem d_Model_code_23 : decode prog_10_method_16_code 23 = .ok (.if_icmp .le 5, 3) := by decide +kernel
theorem d_Model_code_26 : decode prog_10_method_16_code 26 = .ok (.iconst 0, 1) := by decide +kernel
theorem d_Model_code_27 : decode prog_10_method_16_code 27 = .ok (.ireturn, 1) := by decide +kernel
theorem d_Model_code_28 : decode prog_10_method_16_code 28 = .ok (.iload_n 2, 1) := by decide +kernel
theorem d_Model_code_29 : decode prog_10_method_16_code 29 = .ok (.iconst 1, 1) := by decide +kernel
theorem d_Model_code_30 : decode prog_10_method_16_code 30 = .ok (.isub, 1) := by decide +kernel
theorem d_Model_code_31 : decode prog_10_method_16_code 31 = .ok (.istore_n 3, 1) := by decide +kernel
theorem d_Model_code_32 : decode prog_10_method_16_code 32 = .ok (.iload_n 3, 1) := by decide +kernel
theorem d_Model_code_33 : decode prog_10_method_16_code 33 = .ok (.ifCond .lt 38, 3) := by decide +kernel
theorem d_Model_code_36 : decode prog_10_method_16_code 36 = .ok (.aload_n 0, 1) := by decide +kernel
theorem d_Model_code_37 : decode prog_10_method_16_code 37 = .ok (.getfield 7, 3) := by decide +kernel
theorem d_Model_code_40 : decode prog_10_method_16_code 40 = .ok (.aload_n 0, 1) := by decide +kernel
theorem d_Model_code_41 : decode prog_10_method_16_code 41 = .ok (.getfield 104, 3) := by decide +kernel
theorem d_Model_code_44 : decode prog_10_method_16_code 44 = .ok (.iload_n 1, 1) := by decide +kernel
theorem d_Model_code_45 : decode prog_10_method_16_code 45 = .ok (.bipush 8, 2) := by decide +kernel
theorem d_Model_code_47 : decode prog_10_method_16_code 47 = .ok (.iload_n 3, 1) := by decide +kernel
theorem d_Model_code_48 : decode prog_10_method_16_code 48 = .ok (.imul, 1) := by decide +kernel
theorem d_Model_code_49 : decode prog_10_method_16_code 49 = .ok (.ishr, 1) := by decide +kernel
theorem d_Model_code_50 : decode prog_10_method_16_code 50 = .ok (.sipush 255, 3) := by decide +kernel
theorem d_Model_code_53 : decode prog_10_method_16_code 53 = .ok (.iand, 1) := by decide +kernel
theorem d_Model_code_54 : decode prog_10_method_16_code 54 = .ok (.iastore, 1) := by decide +kernel
theorem d_Model_code_55 : decode prog_10_method_16_code 55 = .ok (.aload_n 0, 1) := by decide +kernel
theorem d_Model_code_56 : decode prog_10_method_16_code 56 = .ok (.dup, 1) := by decide +kernel
theorem d_Model_code_57 : decode prog_10_method_16_code 57 = .ok (.getfield 104, 3) := by decide +kernel
theorem d_Model_code_60 : decode prog_10_method_16_code 60 = .ok (.iconst 1, 1) := by decide +kernel
theorem d_Model_code_61 : decode prog_10_method_16_code 61 = .ok (.iadd, 1) := by decide +kernel
theorem d_Model_code_62 : decode prog_10_method_16_code 62 = .ok (.putfield 104, 3) := by decide +kernel
theorem d_Model_code_65 : decode prog_10_method_16_code 65 = .ok (.iinc 3 (-1), 3) := by decide +kernel
theorem d_Model_code_68 : decode prog_10_method_16_code 68 = .ok (.goto (-36), 3) := by decide +kernel
theorem d_Model_code_71 : decode prog_10_method_16_code 71 = .ok (.iconst 1, 1) := by decide +kernel
theorem d_Model_code_72 : decode prog_10_method_16_code 72 = .ok (.ireturn, 1) := by decide +kernel
theorem d_Model_collect_0 : decode prog_10_method_50_code 0 = .ok (.aload_n 0, 1) := by decide +kernel
theorem d_Model_collect_1 : decode prog_10_method_50_code 1 = .ok (.iconst 0, 1) := by decide +kernel
theorem d_Model_collect_2 : decode prog_10_method_50_code 2 = .ok (.putfield 75, 3) := by decide +kernel
theorem d_Model_collect_5 : decode prog_10_method_50_code 5 = .ok (.aload_n 0, 1) := by decide +kernel
theorem d_Model_collect_6 : decode prog_10_method_50_code 6 = .ok (.iconst 0, 1) := by decide +kernel
theorem d_Model_collect_7 : decode prog_10_method_50_code 7 = .ok (.aload_n 0, 1) := by decide +kernel
theorem d_Model_collect_8 : decode prog_10_method_50_code 8 = .ok (.getfield 147, 3) := by decide +kernel
theorem d_Model_collect_11 : decode prog_10_method_50_code 11 = .ok (.aload_n 0, 1) := by decide +kernel
theorem d_Model_collect_12 : decode prog_10_method_50_code 12 = .ok (.getfield 150, 3) := by decide +kernel
theorem d_Model_collect_15 : decode prog_10_method_50_code 15 = .ok (.invokevirtual 232, 3) := by decide +kernel
theorem d_Model_collect_18 : decode prog_10_method_50_code 18 = .ok (.istore_n 1, 1) := by decide +kernel
theorem d_Model_collect_19 : decode prog_10_method_50_code 19 = .ok (.iconst 0, 1) := by decide +kernel
theorem d_Model_collect_20 : decode prog_10_method_50_code 20 = .ok (.istore_n 2, 1) := by decide +kernel
theorem d_Model_collect_21 : decode prog_10_method_50_code 21 = .ok (.iload_n 2, 1) := by decide +kernel
theorem d_Model_collect_22 : decode prog_10_method_50_code 22 = .ok (.bipush 16, 2) := by decide +kernel
theorem d_Model_collect_24 : decode prog_10_method_50_code 24 = .ok (.if_icmp .ge 17, 3) := by decide +kernel
theorem d_Model_collect_27 : decode prog_10_method_50_code 27 = .ok (.aload_n 0, 1) := by decide +kernel
theorem d_Model_collect_28 : decode prog_10_method_50_code 28 = .ok (.iload_n 1, 1) := by decide +kernel
theorem d_Model_collect_29 : decode prog_10_method_50_code 29 = .ok (.iconst 3, 1) := by decide +kernel
theorem d_Model_collect_30 : decode prog_10_method_50_code 30 = .ok (.iload_n 2, 1) := by decide +kernel
theorem d_Model_collect_31 : decode prog_10_method_50_code 31 = .ok (.invokevirtual 232, 3) := by decide +kernel
theorem d_Model_collect_34 : decode prog_10_method_50_code 34 = .ok (.istore_n 1, 1) := by decide +kernel
theorem d_Model_collect_35 : decode prog_10_method_50_code 35 = .ok (.iinc 2 1, 3) := by decide +kernel
theorem d_Model_collect_38 : decode prog_10_method_50_code 38 = .ok (.goto (-17), 3) := by decide +kernel
theorem d_Model_collect_41 : decode prog_10_method_50_code 41 = .ok (.iconst 0, 1) := by decide +kernel
theorem d_Model_collect_42 : decode prog_10_method_50_code 42 = .ok (.istore_n 2, 1) := by decide +kernel
theorem d_Model_collect_43 : decode prog_10_method_50_code 43 = .ok (.iload_n 2, 1) := by decide +kernel
theorem d_Model_collect_44 : decode prog_10_method_50_code 44 = .ok (.aload_n 0, 1) := by decide +kernel
theorem d_Model_collect_45 : decode prog_10_method_50_code 45 = .ok (.getfield 130, 3) := by decide +kernel
theorem d_Model_collect_48 : decode prog_10_method_50_code 48 = .ok (.if_icmp .ge 27, 3) := by decide +kernel
theorem d_Model_collect_51 : decode prog_10_method_50_code 51 = .ok (.aload_n 0, 1) := by decide +kernel
theorem d_Model_collect_52 : decode prog_10_method_50_code 52 = .ok (.iload_n 1, 1) := by decide +kernel
theorem d_Model_collect_53 : decode prog_10_method_50_code 53 = .ok (.aload_n 0, 1) := by decide +kernel
theorem d_Model_collect_54 : decode prog_10_method_50_code 54 = .ok (.getfield 32, 3) := by decide +kernel
theorem d_Model_collect_57 : decode prog_10_method_50_code 57 = .ok (.iload_n 2, 1) := by decide +kernel
theorem d_Model_collect_58 : decode prog_10_method_50_code 58 = .ok (.iaload, 1) := by decide +kernel
theorem d_Model_collect_59 : decode prog_10_method_50_code 59 = .ok (.aload_n 0, 1) := by decide +kernel
theorem d_Model_collect_60 : decode prog_10_method_50_code 60 = .ok (.getfield 35, 3) := by decide +kernel
theorem d_Model_collect_63 : decode prog_10_method_50_code 63 = .ok (.iload_n 2, 1) := by decide +kernel
theorem d_Model_collect_64 : decode prog_10_method_50_code 64 = .ok (.iaload, 1) := by decide +kernel
theorem d_Model_collect_65 : decode prog_10_method_50_code 65 = .ok (.invokevirtual 232, 3) := by decide +kernel
theorem d_Model_collect_68 : decode prog_10_method_50_code 68 = .ok (.istore_n 1, 1) := by decide +kernel
theorem d_Model_collect_69 : decode prog_10_method_50_code 69 = .ok (.iinc 2 1, 3) := by decide +kernel
theorem d_Model_collect_72 : decode prog_10_method_50_code 72 = .ok (.goto (-29), 3) := by decide +kernel
theorem d_Model_collect_75 : decode prog_10_method_50_code 75 = .ok (.iconst 0, 1) := by decide +kernel
theorem d_Model_collect_76 : decode prog_10_method_50_code 76 = .ok (.istore_n 2, 1) := by decide +kernel
theorem d_Model_collect_77 : decode prog_10_method_50_code 77 = .ok (.iload_n 2, 1) := by decide +kernel
theorem d_Model_collect_78 : decode prog_10_method_50_code 78 = .ok (.aload_n 0, 1) := by decide +kernel
theorem d_Model_collect_79 : decode prog_10_method_50_code 79 = .ok (.getfield 127, 3) := by decide +kernel
theorem d_Model_collect_82 : decode prog_10_method_50_code 82 = .ok (.if_icmp .ge 33, 3) := by decide +kernel
theorem d_Model_collect_85 : decode prog_10_method_50_code 85 = .ok (.aload_n 0, 1) := by decide +kernel
theorem d_Model_collect_86 : decode prog_10_method_50_code 86 = .ok (.aload_n 0, 1) := by decide +kernel
theorem d_Model_collect_87 : decode prog_10_method_50_code 87 = .ok (.iload_n 1, 1) := by decide +kernel
theorem d_Model_collect_88 : decode prog_10_method_50_code 88 = .ok (.iconst 3, 1) := by decide +kernel
theorem d_Model_collect_89 : decode prog_10_method_50_code 89 = .ok (.aload_n 0, 1) := by decide +kernel
theorem d_Model_collect_90 : decode prog_10_method_50_code 90 = .ok (.getfield 53, 3) := by decide +kernel
theorem d_Model_collect_93 : decode prog_10_method_50_code 93 = .ok (.iload_n 2, 1) := by decide +kernel
theorem d_Model_collect_94 : decode prog_10_method_50_code 94 = .ok (.iaload, 1) := by decide +kernel
theorem d_Model_collect_95 : decode prog_10_method_50_code 95 = .ok (.invokevirtual 232, 3) := by decide +kernel
theorem d_Model_collect_98 : decode prog_10_method_50_code 98 = .ok (.iconst 3, 1) := by decide +kernel
theorem d_Model_collect_99 : decode prog_10_method_50_code 99 = .ok (.aload_n 0, 1) := by decide +kernel
theorem d_Model_collect_100 : decode prog_10_method_50_code 100 = .ok (.getfield 56, 3) := by decide +kernel
theorem d_Model_collect_103 : decode prog_10_method_50_code 103 = .ok (.iload_n 2, 1) := by decide +kernel
theorem d_Model_collect_104 : decode prog_10_method_50_code 104 = .ok (.iaload, 1) := by decide +kernel
theorem d_Model_collect_105 : decode prog_10_method_50_code 105 = .ok (.invokevirtual 232, 3) := by decide +kernel
theorem d_Model_collect_108 : decode prog_10_method_50_code 108 = .ok (.istore_n 1, 1) := by decide +kernel
theorem d_Model_collect_109 : decode prog_10_method_50_code 109 = .ok (.iinc 2 1, 3) := by decide +kernel
theorem d_Model_collect_112 : decode prog_10_method_50_code 112 = .ok (.goto (-35), 3) := by decide +kernel
theorem d_Model_collect_115 : decode prog_10_method_50_code 115 = .ok (.iconst 0, 1) := by decide +kernel
theorem d_Model_collect_116 : decode prog_10_method_50_code 116 = .ok (.istore_n 2, 1) := by decide +kernel
theorem d_Model_collect_117 : decode prog_10_method_50_code 117 = .ok (.iload_n 1, 1) := by decide +kernel
theorem d_Model_collect_118 : decode prog_10_method_50_code 118 = .ok (.iload_n 2, 1) := by decide +kernel
theorem d_Model_collect_119 : decode prog_10_method_50_code 119 = .ok (.if_icmp .eq 14, 3) := by decide +kernel
theorem d_Model_collect_122 : decode prog_10_method_50_code 122 = .ok (.iload_n 1, 1) := by decide +kernel
theorem d_Model_collect_123 : decode prog_10_method_50_code 123 = .ok (.istore_n 2, 1) := by decide +kernel
theorem d_Model_collect_124 : decode prog_10_method_50_code 124 = .ok (.aload_n 0, 1) := by decide +kernel
theorem d_Model_collect_125 : decode prog_10_method_50_code 125 = .ok (.iload_n 2, 1) := by decide +kernel
theorem d_Model_collect_126 : decode prog_10_method_50_code 126 = .ok (.invokevirtual 235, 3) := by decide +kernel
theorem d_Model_collect_129 : decode prog_10_method_50_code 129 = .ok (.istore_n 1, 1) := by decide +kernel
theorem d_Model_collect_130 : decode prog_10_method_50_code 130 = .ok (.goto (-13), 3) := by decide +kernel
theorem d_Model_collect_133 : decode prog_10_method_50_code 133 = .ok (.iconst 0, 1) := by decide +kernel
theorem d_Model_collect_134 : decode prog_10_method_50_code 134 = .ok (.istore_n 3, 1) := by decide +kernel
theorem d_Model_collect_135 : decode prog_10_method_50_code 135 = .ok (.bipush 16, 2) := by decide +kernel
theorem d_Model_collect_137 : decode prog_10_method_50_code 137 = .ok (.istore 4, 2) := by decide +kernel
theorem d_Model_collect_139 : decode prog_10_method_50_code 139 = .ok (.iload 4, 2) := by decide +kernel
theorem d_Model_collect_141 : decode prog_10_method_50_code 141 = .ok (.bipush 32, 2) := by decide +kernel
theorem d_Model_collect_143 : decode prog_10_method_50_code 143 = .ok (.if_icmp .ge 63, 3) := by decide +kernel
theorem d_Model_collect_146 : decode prog_10_method_50_code 146 = .ok (.aload_n 0, 1) := by decide +kernel
theorem d_Model_collect_147 : decode prog_10_method_50_code 147 = .ok (.iload 4, 2) := by decide +kernel
theorem d_Model_collect_149 : decode prog_10_method_50_code 149 = .ok (.invokevirtual 107, 3) := by decide +kernel
theorem d_Model_collect_152 : decode prog_10_method_50_code 152 = .ok (.ifCond .eq 16, 3) := by decide +kernel
theorem d_Model_collect_155 : decode prog_10_method_50_code 155 = .ok (.iload_n 1, 1) := by decide +kernel
theorem d_Model_collect_156 : decode prog_10_method_50_code 156 = .ok (.iload 4, 2) := by decide +kernel
theorem d_Model_collect_158 : decode prog_10_method_50_code 158 = .ok (.ishr, 1) := by decide +kernel
theorem d_Model_collect_159 : decode prog_10_method_50_code 159 = .ok (.iconst 1, 1) := by decide +kernel
theorem d_Model_collect_160 : decode prog_10_method_50_code 160 = .ok (.iand, 1) := by decide +kernel
theorem d_Model_collect_161 : decode prog_10_method_50_code 161 = .ok (.ifCond .ne 7, 3) := by decide +kernel
theorem d_Model_collect_164 : decode prog_10_method_50_code 164 = .ok (.iconst 1, 1) := by decide +kernel
theorem d_Model_collect_165 : decode prog_10_method_50_code 165 = .ok (.goto 4, 3) := by decide +kernel
theorem d_Model_collect_168 : decode prog_10_method_50_code 168 = .ok (.iconst 0, 1) := by decide +kernel
theorem d_Model_collect_169 : decode prog_10_method_50_code 169 = .ok (.istore 5, 2) := by decide +kernel
theorem d_Model_collect_171 : decode prog_10_method_50_code 171 = .ok (.iload 5, 2) := by decide +kernel
theorem d_Model_collect_173 : decode prog_10_method_50_code 173 = .ok (.ifCond .eq 14, 3) := by decide +kernel
theorem d_Model_collect_176 : decode prog_10_method_50_code 176 = .ok (.aload_n 0, 1) := by decide +kernel
theorem d_Model_collect_177 : decode prog_10_method_50_code 177 = .ok (.getfield 13, 3) := by decide +kernel
theorem d_Model_collect_180 : decode prog_10_method_50_code 180 = .ok (.bipush 29, 2) := by decide +kernel
theorem d_Model_collect_182 : decode prog_10_method_50_code 182 = .ok (.iload 4, 2) := by decide +kernel
theorem d_Model_collect_184 : decode prog_10_method_50_code 184 = .ok (.imul, 1) := by decide +kernel
theorem d_Model_collect_185 : decode prog_10_method_50_code 185 = .ok (.iconst 0, 1) := by decide +kernel
theorem d_Model_collect_186 : decode prog_10_method_50_code 186 = .ok (.iastore, 1) := by decide +kernel
theorem d_Model_collect_187 : decode prog_10_method_50_code 187 = .ok (.iload 5, 2) := by decide +kernel
theorem d_Model_collect_189 : decode prog_10_method_50_code 189 = .ok (.ifCond .eq 9, 3) := by decide +kernel
theorem d_Model_collect_192 : decode prog_10_method_50_code 192 = .ok (.iload_n 3, 1) := by decide +kernel
theorem d_Model_collect_193 : decode prog_10_method_50_code 193 = .ok (.iconst 1, 1) := by decide +kernel
theorem d_Model_collect_194 : decode prog_10_method_50_code 194 = .ok (.iadd, 1) := by decide +kernel
theorem d_Model_collect_195 : decode prog_10_method_50_code 195 = .ok (.goto 4, 3) := by decide +kernel
theorem d_Model_collect_198 : decode prog_10_method_50_code 198 = .ok (.iload_n 3, 1) := by decide +kernel
theorem d_Model_collect_199 : decode prog_10_method_50_code 199 = .ok (.istore_n 3, 1) := by decide +kernel
theorem d_Model_collect_200 : decode prog_10_method_50_code 200 = .ok (.iinc 4 1, 3) := by decide +kernel
theorem d_Model_collect_203 : decode prog_10_method_50_code 203 = .ok (.goto (-64), 3) := by decide +kernel
theorem d_Model_collect_206 : decode prog_10_method_50_code 206 = .ok (.iload_n 3, 1) := by decide +kernel
theorem d_Model_collect_207 : decode prog_10_method_50_code 207 = .ok (.ireturn, 1) := by decide +kernel
theorem d_Model_copy_0 : decode prog_10_method_12_code 0 = .ok (.iconst 0, 1) := by decide +kernel
theorem d_Model_copy_1 : decode prog_10_method_12_code 1 = .ok (.istore_n 3, 1) := by decide +kernel
theorem d_Model_copy_2 : decode prog_10_method_12_code 2 = .ok (.iload_n 3, 1) := by decide +kernel
theorem d_Model_copy_3 : decode prog_10_method_12_code 3 = .ok (.sipush 928, 3) := by decide +kernel
theorem d_Model_copy_6 : decode prog_10_method_12_code 6 = .ok (.if_icmp .ge 33, 3) := by decide +kernel
theorem d_Model_copy_9 : decode prog_10_method_12_code 9 = .ok (.aload_n 0, 1) := by decide +kernel
theorem d_Model_copy_10 : decode prog_10_method_12_code 10 = .ok (.getfield 13, 3) := by decide +kernel
theorem d_Model_copy_13 : decode prog_10_method_12_code 13 = .ok (.sipush 928, 3) := by decide +kernel
theorem d_Model_copy_16 : decode prog_10_method_12_code 16 = .ok (.iload_n 2, 1) := by decide +kernel
theorem d_Model_copy_17 : decode prog_10_method_12_code 17 = .ok (.imul, 1) := by decide +kernel
theorem d_Model_copy_18 : decode prog_10_method_12_code 18 = .ok (.iload_n 3, 1) := by decide +kernel
theorem d_Model_copy_19 : decode prog_10_method_12_code 19 = .ok (.iadd, 1) := by decide +kernel
theorem d_Model_copy_20 : decode prog_10_method_12_code 20 = .ok (.aload_n 0, 1) := by decide +kernel
theorem d_Model_copy_21 : decode prog_10_method_12_code 21 = .ok (.getfield 13, 3) := by decide +kernel
theorem d_Model_copy_24 : decode prog_10_method_12_code 24 = .ok (.sipush 928, 3) := by decide +kernel
theorem d_Model_copy_27 : decode prog_10_method_12_code 27 = .ok (.iload_n 1, 1) := by decide +kernel
theorem d_Model_copy_28 : decode prog_10_method_12_code 28 = .ok (.imul, 1) := by decide +kernel
theorem d_Model_copy_29 : decode prog_10_method_12_code 29 = .ok (.iload_n 3, 1) := by decide +kernel
theorem d_Model_copy_30 : decode prog_10_method_12_code 30 = .ok (.iadd, 1) := by decide +kernel
theorem d_Model_copy_31 : decode prog_10_method_12_code 31 = .ok (.iaload, 1) := by decide +kernel
theorem d_Model_copy_32 : decode prog_10_method_12_code 32 = .ok (.iastore, 1) := by decide +kernel
theorem d_Model_copy_33 : decode prog_10_method_12_code 33 = .ok (.iinc 3 1, 3) := by decide +kernel
theorem d_Model_copy_36 : decode prog_10_method_12_code 36 = .ok (.goto (-34), 3) := by decide +kernel
theorem d_Model_copy_39 : decode prog_10_method_12_code 39 = .ok (.return_, 1) := by decide +kernel
theorem d_Model_empty_0 : decode prog_10_method_11_code 0 = .ok (.aload_n 0, 1) := by decide +kernel
theorem d_Model_empty_1 : decode prog_10_method_11_code 1 = .ok (.getfield 13, 3) := by decide +kernel
theorem d_Model_empty_4 : decode prog_10_method_11_code 4 = .ok (.bipush 29, 2) := by decide +kernel
theorem d_Model_empty_6 : decode prog_10_method_11_code 6 = .ok (.iload_n 1, 1) := by decide +kernel
theorem d_Model_empty_7 : decode prog_10_method_11_code 7 = .ok (.imul, 1) := by decide +kernel
theorem d_Model_empty_8 : decode prog_10_method_11_code 8 = .ok (.iconst 1, 1) := by decide +kernel
theorem d_Model_empty_9 : decode prog_10_method_11_code 9 = .ok (.iastore, 1) := by decide +kernel
theorem d_Model_empty_10 : decode prog_10_method_11_code 10 = .ok (.aload_n 0, 1) := by decide +kernel
theorem d_Model_empty_11 : decode prog_10_method_11_code 11 = .ok (.getfield 13, 3) := by decide +kernel
theorem d_Model_empty_14 : decode prog_10_method_11_code 14 = .ok (.bipush 29, 2) := by decide +kernel
theorem d_Model_empty_16 : decode prog_10_method_11_code 16 = .ok (.iload_n 1, 1) := by decide +kernel
theorem d_Model_empty_17 : decode prog_10_method_11_code 17 = .ok (.imul, 1) := by decide +kernel
theorem d_Model_empty_18 : decode prog_10_method_11_code 18 = .ok (.iconst 1, 1) := by decide +kernel
theorem d_Model_empty_19 : decode prog_10_method_11_code 19 = .ok (.iadd, 1) := by decide +kernel
theorem d_Model_empty_20 : decode prog_10_method_11_code 20 = .ok (.iconst 0, 1) := by decide +kernel
theorem d_Model_empty_21 : decode prog_10_method_11_code 21 = .ok (.iastore, 1) := by decide +kernel
theorem d_Model_empty_22 : decode prog_10_method_11_code 22 = .ok (.iconst 0, 1) := by decide +kernel
theorem d_Model_empty_23 : decode prog_10_method_11_code 23 = .ok (.istore_n 2, 1) := by decide +kernel
theorem d_Model_empty_24 : decode prog_10_method_11_code 24 = .ok (.iload_n 2, 1) := by decide +kernel
theorem d_Model_empty_25 : decode prog_10_method_11_code 25 = .ok (.bipush 8, 2) := by decide +kernel
theorem d_Model_empty_27 : decode prog_10_method_11_code 27 = .ok (.if_icmp .ge 21, 3) := by decide +kernel
theorem d_Model_empty_30 : decode prog_10_method_11_code 30 = .ok (.aload_n 0, 1) := by decide +kernel
theorem d_Model_empty_31 : decode prog_10_method_11_code 31 = .ok (.getfield 13, 3) := by decide +kernel
theorem d_Model_empty_34 : decode prog_10_method_11_code 34 = .ok (.aload_n 0, 1) := by decide +kernel
theorem d_Model_empty_35 : decode prog_10_method_11_code 35 = .ok (.iload_n 1, 1) := by decide +kernel
theorem d_Model_empty_36 : decode prog_10_method_11_code 36 = .ok (.iload_n 2, 1) := by decide +kernel
theorem d_Model_empty_37 : decode prog_10_method_11_code 37 = .ok (.invokevirtual 82, 3) := by decide +kernel
theorem d_Model_empty_40 : decode prog_10_method_11_code 40 = .ok (.iconst 0, 1) := by decide +kernel
theorem d_Model_empty_41 : decode prog_10_method_11_code 41 = .ok (.iastore, 1) := by decide +kernel
theorem d_Model_empty_42 : decode prog_10_method_11_code 42 = .ok (.iinc 2 1, 3) := by decide +kernel
theorem d_Model_empty_45 : decode prog_10_method_11_code 45 = .ok (.goto (-21), 3) := by decide +kernel
theorem d_Model_empty_48 : decode prog_10_method_11_code 48 = .ok (.return_, 1) := by decide +kernel
theorem d_Model_end_0 : decode prog_10_method_42_code 0 = .ok (.aload_n 0, 1) := by decide +kernel
theorem d_Model_end_1 : decode prog_10_method_42_code 1 = .ok (.getfield 127, 3) := by decide +kernel
theorem d_Model_end_4 : decode prog_10_method_42_code 4 = .ok (.iconst 1, 1) := by decide +kernel
theorem d_Model_end_5 : decode prog_10_method_42_code 5 = .ok (.isub, 1) := by decide +kernel
theorem d_Model_end_6 : decode prog_10_method_42_code 6 = .ok (.istore_n 3, 1) := by decide +kernel
theorem d_Model_end_7 : decode prog_10_method_42_code 7 = .ok (.iload_n 3, 1) := by decide +kernel
theorem d_Model_end_8 : decode prog_10_method_42_code 8 = .ok (.ifCond .le 16, 3) := by decide +kernel
theorem d_Model_end_11 : decode prog_10_method_42_code 11 = .ok (.aload_n 0, 1) := by decide +kernel
theorem d_Model_end_12 : decode prog_10_method_42_code 12 = .ok (.getfield 47, 3) := by decide +kernel
theorem d_Model_end_15 : decode prog_10_method_42_code 15 = .ok (.iload_n 3, 1) := by decide +kernel
theorem d_Model_end_16 : decode prog_10_method_42_code 16 = .ok (.iaload, 1) := by decide +kernel
theorem d_Model_end_17 : decode prog_10_method_42_code 17 = .ok (.bipush 40, 2) := by decide +kernel
theorem d_Model_end_19 : decode prog_10_method_42_code 19 = .ok (.if_icmp .ne 5, 3) := by decide +kernel
theorem d_Model_end_22 : decode prog_10_method_42_code 22 = .ok (.iconst 0, 1) := by decide +kernel
theorem d_Model_end_23 : decode prog_10_method_42_code 23 = .ok (.ireturn, 1) := by decide +kernel
theorem d_Model_end_24 : decode prog_10_method_42_code 24 = .ok (.aload_n 0, 1) := by decide +kernel
theorem d_Model_end_25 : decode prog_10_method_42_code 25 = .ok (.iload_n 3, 1) := by decide +kernel
theorem d_Model_end_26 : decode prog_10_method_42_code 26 = .ok (.putfield 127, 3) := by decide +kernel
theorem d_Model_end_29 : decode prog_10_method_42_code 29 = .ok (.aload_n 0, 1) := by decide +kernel
theorem d_Model_end_30 : decode prog_10_method_42_code 30 = .ok (.aload_n 0, 1) := by decide +kernel
theorem d_Model_end_31 : decode prog_10_method_42_code 31 = .ok (.getfield 47, 3) := by decide +kernel
theorem d_Model_end_34 : decode prog_10_method_42_code 34 = .ok (.iload_n 3, 1) := by decide +kernel
theorem d_Model_end_35 : decode prog_10_method_42_code 35 = .ok (.iaload, 1) := by decide +kernel
theorem d_Model_end_36 : decode prog_10_method_42_code 36 = .ok (.putfield 130, 3) := by decide +kernel
theorem d_Model_end_39 : decode prog_10_method_42_code 39 = .ok (.iload_n 3, 1) := by decide +kernel
theorem d_Model_end_40 : decode prog_10_method_42_code 40 = .ok (.ifCond .le 27, 3) := by decide +kernel
theorem d_Model_end_43 : decode prog_10_method_42_code 43 = .ok (.aload_n 0, 1) := by decide +kernel
theorem d_Model_end_44 : decode prog_10_method_42_code 44 = .ok (.iload_n 1, 1) := by decide +kernel
theorem d_Model_end_45 : decode prog_10_method_42_code 45 = .ok (.iload_n 2, 1) := by decide +kernel
theorem d_Model_end_46 : decode prog_10_method_42_code 46 = .ok (.invokevirtual 133, 3) := by decide +kernel
theorem d_Model_end_49 : decode prog_10_method_42_code 49 = .ok (.aload_n 0, 1) := by decide +kernel
theorem d_Model_end_50 : decode prog_10_method_42_code 50 = .ok (.getfield 59, 3) := by decide +kernel
theorem d_Model_end_53 : decode prog_10_method_42_code 53 = .ok (.iload_n 3, 1) := by decide +kernel
theorem d_Model_end_54 : decode prog_10_method_42_code 54 = .ok (.iconst 1, 1) := by decide +kernel
theorem d_Model_end_55 : decode prog_10_method_42_code 55 = .ok (.isub, 1) := by decide +kernel
theorem d_Model_end_56 : decode prog_10_method_42_code 56 = .ok (.aload_n 0, 1) := by decide +kernel
theorem d_Model_end_57 : decode prog_10_method_42_code 57 = .ok (.getfield 62, 3) := by decide +kernel
theorem d_Model_end_60 : decode prog_10_method_42_code 60 = .ok (.iload_n 3, 1) := by decide +kernel
theorem d_Model_end_61 : decode prog_10_method_42_code 61 = .ok (.iconst 1, 1) := by decide +kernel
theorem d_Model_end_62 : decode prog_10_method_42_code 62 = .ok (.isub, 1) := by decide +kernel
theorem d_Model_end_63 : decode prog_10_method_42_code 63 = .ok (.iaload, 1) := by decide +kernel
theorem d_Model_end_64 : decode prog_10_method_42_code 64 = .ok (.iastore, 1) := by decide +kernel
theorem d_Model_end_65 : decode prog_10_method_42_code 65 = .ok (.iconst 1, 1) := by decide +kernel
theorem d_Model_end_66 : decode prog_10_method_42_code 66 = .ok (.ireturn, 1) := by decide +kernel
theorem d_Model_end_67 : decode prog_10_method_42_code 67 = .ok (.aload_n 0, 1) := by decide +kernel
theorem d_Model_end_68 : decode prog_10_method_42_code 68 = .ok (.iload_n 1, 1) := by decide +kernel
theorem d_Model_end_69 : decode prog_10_method_42_code 69 = .ok (.putfield 147, 3) := by decide +kernel
theorem d_Model_end_72 : decode prog_10_method_42_code 72 = .ok (.aload_n 0, 1) := by decide +kernel
theorem d_Model_end_73 : decode prog_10_method_42_code 73 = .ok (.iload_n 2, 1) := by decide +kernel
theorem d_Model_end_74 : decode prog_10_method_42_code 74 = .ok (.putfield 150, 3) := by decide +kernel
theorem d_Model_end_77 : decode prog_10_method_42_code 77 = .ok (.aload_n 0, 1) := by decide +kernel
theorem d_Model_end_78 : decode prog_10_method_42_code 78 = .ok (.iconst 1, 1) := by decide +kernel
theorem d_Model_end_79 : decode prog_10_method_42_code 79 = .ok (.invokevirtual 163, 3) := by decide +kernel
theorem d_Model_end_82 : decode prog_10_method_42_code 82 = .ok (.pop, 1) := by decide +kernel
theorem d_Model_end_83 : decode prog_10_method_42_code 83 = .ok (.iconst 1, 1) := by decide +kernel
theorem d_Model_end_84 : decode prog_10_method_42_code 84 = .ok (.ireturn, 1) := by decide +kernel
theorem d_Model_enter_0 : decode prog_10_method_23_code 0 = .ok (.aload_n 0, 1) := by decide +kernel
theorem d_Model_enter_1 : decode prog_10_method_23_code 1 = .ok (.getfield 47, 3) := by decide +kernel
theorem d_Model_enter_4 : decode prog_10_method_23_code 4 = .ok (.aload_n 0, 1) := by decide +kernel
theorem d_Model_enter_5 : decode prog_10_method_23_code 5 = .ok (.getfield 127, 3) := by decide +kernel
theorem d_Model_enter_8 : decode prog_10_method_23_code 8 = .ok (.aload_n 0, 1) := by decide +kernel
theorem d_Model_enter_9 : decode prog_10_method_23_code 9 = .ok (.getfield 130, 3) := by decide +kernel
theorem d_Model_enter_12 : decode prog_10_method_23_code 12 = .ok (.iload_n 2, 1) := by decide +kernel
theorem d_Model_enter_13 : decode prog_10_method_23_code 13 = .ok (.isub, 1) := by decide +kernel
theorem d_Model_enter_14 : decode prog_10_method_23_code 14 = .ok (.iastore, 1) := by decide +kernel
theorem d_Model_enter_15 : decode prog_10_method_23_code 15 = .ok (.aload_n 0, 1) := by decide +kernel
theorem d_Model_enter_16 : decode prog_10_method_23_code 16 = .ok (.getfield 50, 3) := by decide +kernel
theorem d_Model_enter_19 : decode prog_10_method_23_code 19 = .ok (.aload_n 0, 1) := by decide +kernel
theorem d_Model_enter_20 : decode prog_10_method_23_code 20 = .ok (.getfield 127, 3) := by decide +kernel
theorem d_Model_enter_23 : decode prog_10_method_23_code 23 = .ok (.iload_n 2, 1) := by decide +kernel
theorem d_Model_enter_24 : decode prog_10_method_23_code 24 = .ok (.aload_n 0, 1) := by decide +kernel
theorem d_Model_enter_25 : decode prog_10_method_23_code 25 = .ok (.getfield 7, 3) := by decide +kernel
theorem d_Model_enter_28 : decode prog_10_method_23_code 28 = .ok (.iload_n 1, 1) := by decide +kernel
theorem d_Model_enter_29 : decode prog_10_method_23_code 29 = .ok (.iconst 1, 1) := by decide +kernel
theorem d_Model_enter_30 : decode prog_10_method_23_code 30 = .ok (.iadd, 1) := by decide +kernel
theorem d_Model_enter_31 : decode prog_10_method_23_code 31 = .ok (.iaload, 1) := by decide +kernel
theorem d_Model_enter_32 : decode prog_10_method_23_code 32 = .ok (.iadd, 1) := by decide +kernel
theorem d_Model_enter_33 : decode prog_10_method_23_code 33 = .ok (.iastore, 1) := by decide +kernel
theorem d_Model_enter_34 : decode prog_10_method_23_code 34 = .ok (.aload_n 0, 1) := by decide +kernel
theorem d_Model_enter_35 : decode prog_10_method_23_code 35 = .ok (.getfield 44, 3) := by decide +kernel
theorem d_Model_enter_38 : decode prog_10_method_23_code 38 = .ok (.aload_n 0, 1) := by decide +kernel
theorem d_Model_enter_39 : decode prog_10_method_23_code 39 = .ok (.getfield 127, 3) := by decide +kernel
theorem d_Model_enter_42 : decode prog_10_method_23_code 42 = .ok (.aload_n 0, 1) := by decide +kernel
theorem d_Model_enter_43 : decode prog_10_method_23_code 43 = .ok (.getfield 7, 3) := by decide +kernel
theorem d_Model_enter_46 : decode prog_10_method_23_code 46 = .ok (.iload_n 1, 1) := by decide +kernel
theorem d_Model_enter_47 : decode prog_10_method_23_code 47 = .ok (.iconst 2, 1) := by decide +kernel
theorem d_Model_enter_48 : decode prog_10_method_23_code 48 = .ok (.iadd, 1) := by decide +kernel
theorem d_Model_enter_49 : decode prog_10_method_23_code 49 = .ok (.iaload, 1) := by decide +kernel
theorem d_Model_enter_50 : decode prog_10_method_23_code 50 = .ok (.iastore, 1) := by decide +kernel
theorem d_Model_enter_51 : decode prog_10_method_23_code 51 = .ok (.aload_n 0, 1) := by decide +kernel
theorem d_Model_enter_52 : decode prog_10_method_23_code 52 = .ok (.getfield 41, 3) := by decide +kernel
theorem d_Model_enter_55 : decode prog_10_method_23_code 55 = .ok (.aload_n 0, 1) := by decide +kernel
theorem d_Model_enter_56 : decode prog_10_method_23_code 56 = .ok (.getfield 127, 3) := by decide +kernel
theorem d_Model_enter_59 : decode prog_10_method_23_code 59 = .ok (.iload_n 1, 1) := by decide +kernel
theorem d_Model_enter_60 : decode prog_10_method_23_code 60 = .ok (.iconst 3, 1) := by decide +kernel
theorem d_Model_enter_61 : decode prog_10_method_23_code 61 = .ok (.iadd, 1) := by decide +kernel
theorem d_Model_enter_62 : decode prog_10_method_23_code 62 = .ok (.iastore, 1) := by decide +kernel
theorem d_Model_enter_63 : decode prog_10_method_23_code 63 = .ok (.aload_n 0, 1) := by decide +kernel
theorem d_Model_enter_64 : decode prog_10_method_23_code 64 = .ok (.getfield 38, 3) := by decide +kernel
theorem d_Model_enter_67 : decode prog_10_method_23_code 67 = .ok (.aload_n 0, 1) := by decide +kernel
theorem d_Model_enter_68 : decode prog_10_method_23_code 68 = .ok (.getfield 127, 3) := by decide +kernel
theorem d_Model_enter_71 : decode prog_10_method_23_code 71 = .ok (.iload_n 1, 1) := by decide +kernel
theorem d_Model_enter_72 : decode prog_10_method_23_code 72 = .ok (.iconst 3, 1) := by decide +kernel
theorem d_Model_enter_73 : decode prog_10_method_23_code 73 = .ok (.iadd, 1) := by decide +kernel
theorem d_Model_enter_74 : decode prog_10_method_23_code 74 = .ok (.iconst 4, 1) := by decide +kernel
theorem d_Model_enter_75 : decode prog_10_method_23_code 75 = .ok (.aload_n 0, 1) := by decide +kernel
theorem d_Model_enter_76 : decode prog_10_method_23_code 76 = .ok (.getfield 7, 3) := by decide +kernel
theorem d_Model_enter_79 : decode prog_10_method_23_code 79 = .ok (.iload_n 1, 1) := by decide +kernel
theorem d_Model_enter_80 : decode prog_10_method_23_code 80 = .ok (.iconst 2, 1) := by decide +kernel
theorem d_Model_enter_81 : decode prog_10_method_23_code 81 = .ok (.iadd, 1) := by decide +kernel
theorem d_Model_enter_82 : decode prog_10_method_23_code 82 = .ok (.iaload, 1) := by decide +kernel
theorem d_Model_enter_83 : decode prog_10_method_23_code 83 = .ok (.imul, 1) := by decide +kernel
theorem d_Model_enter_84 : decode prog_10_method_23_code 84 = .ok (.iadd, 1) := by decide +kernel
theorem d_Model_enter_85 : decode prog_10_method_23_code 85 = .ok (.iastore, 1) := by decide +kernel
theorem d_Model_enter_86 : decode prog_10_method_23_code 86 = .ok (.aload_n 0, 1) := by decide +kernel
theorem d_Model_enter_87 : decode prog_10_method_23_code 87 = .ok (.getfield 53, 3) := by decide +kernel
theorem d_Model_enter_90 : decode prog_10_method_23_code 90 = .ok (.aload_n 0, 1) := by decide +kernel
theorem d_Model_enter_91 : decode prog_10_method_23_code 91 = .ok (.getfield 127, 3) := by decide +kernel
theorem d_Model_enter_94 : decode prog_10_method_23_code 94 = .ok (.iload_n 3, 1) := by decide +kernel
theorem d_Model_enter_95 : decode prog_10_method_23_code 95 = .ok (.iastore, 1) := by decide +kernel
theorem d_Model_enter_96 : decode prog_10_method_23_code 96 = .ok (.aload_n 0, 1) := by decide +kernel
theorem d_Model_enter_97 : decode prog_10_method_23_code 97 = .ok (.getfield 56, 3) := by decide +kernel
theorem d_Model_enter_100 : decode prog_10_method_23_code 100 = .ok (.aload_n 0, 1) := by decide +kernel
theorem d_Model_enter_101 : decode prog_10_method_23_code 101 = .ok (.getfield 127, 3) := by decide +kernel
theorem d_Model_enter_104 : decode prog_10_method_23_code 104 = .ok (.iload 4, 2) := by decide +kernel
theorem d_Model_enter_106 : decode prog_10_method_23_code 106 = .ok (.iastore, 1) := by decide +kernel
theorem d_Model_enter_107 : decode prog_10_method_23_code 107 = .ok (.aload_n 0, 1) := by decide +kernel
theorem d_Model_enter_108 : decode prog_10_method_23_code 108 = .ok (.getfield 59, 3) := by decide +kernel
theorem d_Model_enter_111 : decode prog_10_method_23_code 111 = .ok (.aload_n 0, 1) := by decide +kernel
theorem d_Model_enter_112 : decode prog_10_method_23_code 112 = .ok (.getfield 127, 3) := by decide +kernel
theorem d_Model_enter_115 : decode prog_10_method_23_code 115 = .ok (.aload_n 0, 1) := by decide +kernel
theorem d_Model_enter_116 : decode prog_10_method_23_code 116 = .ok (.getfield 38, 3) := by decide +kernel
theorem d_Model_enter_119 : decode prog_10_method_23_code 119 = .ok (.aload_n 0, 1) := by decide +kernel
theorem d_Model_enter_120 : decode prog_10_method_23_code 120 = .ok (.getfield 127, 3) := by decide +kernel
theorem d_Model_enter_123 : decode prog_10_method_23_code 123 = .ok (.iaload, 1) := by decide +kernel
theorem d_Model_enter_124 : decode prog_10_method_23_code 124 = .ok (.iastore, 1) := by decide +kernel
theorem d_Model_enter_125 : decode prog_10_method_23_code 125 = .ok (.aload_n 0, 1) := by decide +kernel
theorem d_Model_enter_126 : decode prog_10_method_23_code 126 = .ok (.dup, 1) := by decide +kernel
theorem d_Model_enter_127 : decode prog_10_method_23_code 127 = .ok (.getfield 127, 3) := by decide +kernel
theorem d_Model_enter_130 : decode prog_10_method_23_code 130 = .ok (.iconst 1, 1) := by decide +kernel
theorem d_Model_enter_131 : decode prog_10_method_23_code 131 = .ok (.iadd, 1) := by decide +kernel
theorem d_Model_enter_132 : decode prog_10_method_23_code 132 = .ok (.putfield 127, 3) := by decide +kernel
theorem d_Model_enter_135 : decode prog_10_method_23_code 135 = .ok (.iconst 0, 1) := by decide +kernel
theorem d_Model_enter_136 : decode prog_10_method_23_code 136 = .ok (.istore 5, 2) := by decide +kernel
theorem d_Model_enter_138 : decode prog_10_method_23_code 138 = .ok (.iload 5, 2) := by decide +kernel
theorem d_Model_enter_140 : decode prog_10_method_23_code 140 = .ok (.aload_n 0, 1) := by decide +kernel
theorem d_Model_enter_141 : decode prog_10_method_23_code 141 = .ok (.getfield 7, 3) := by decide +kernel
theorem d_Model_enter_144 : decode prog_10_method_23_code 144 = .ok (.iload_n 1, 1) := by decide +kernel
theorem d_Model_enter_145 : decode prog_10_method_23_code 145 = .ok (.iconst 1, 1) := by decide +kernel
theorem d_Model_enter_146 : decode prog_10_method_23_code 146 = .ok (.iadd, 1) := by decide +kernel
theorem d_Model_enter_147 : decode prog_10_method_23_code 147 = .ok (.iaload, 1) := by decide +kernel
theorem d_Model_enter_148 : decode prog_10_method_23_code 148 = .ok (.if_icmp .ge 15, 3) := by decide +kernel
theorem d_Model_enter_151 : decode prog_10_method_23_code 151 = .ok (.aload_n 0, 1) := by decide +kernel
theorem d_Model_enter_152 : decode prog_10_method_23_code 152 = .ok (.iconst 0, 1) := by decide +kernel
theorem d_Model_enter_153 : decode prog_10_method_23_code 153 = .ok (.iconst 0, 1) := by decide +kernel
theorem d_Model_enter_154 : decode prog_10_method_23_code 154 = .ok (.invokevirtual 133, 3) := by decide +kernel
theorem d_Model_enter_157 : decode prog_10_method_23_code 157 = .ok (.iinc 5 1, 3) := by decide +kernel
theorem d_Model_enter_160 : decode prog_10_method_23_code 160 = .ok (.goto (-22), 3) := by decide +kernel
theorem d_Model_enter_163 : decode prog_10_method_23_code 163 = .ok (.return_, 1) := by decide +kernel
