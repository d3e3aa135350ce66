theorem d_Model_findLine_0 : decode prog_10_method_13_code 0 = .ok (.iconst 0, 1) := by decide +kernel
theorem d_Model_findLine_1 : decode prog_10_method_13_code 1 = .ok (.istore_n 2, 1) := by decide +kernel
theorem d_Model_findLine_2 : decode prog_10_method_13_code 2 = .ok (.iload_n 2, 1) := by decide +kernel
theorem d_Model_findLine_3 : decode prog_10_method_13_code 3 = .ok (.bipush 32, 2) := by decide +kernel
theorem d_Model_findLine_5 : decode prog_10_method_13_code 5 = .ok (.if_icmp .ge 16, 3) := by decide +kernel
theorem d_Model_findLine_8 : decode prog_10_method_13_code 8 = .ok (.aload_n 0, 1) := by decide +kernel
theorem d_Model_findLine_9 : decode prog_10_method_13_code 9 = .ok (.getfield 23, 3) := by decide +kernel
theorem d_Model_findLine_12 : decode prog_10_method_13_code 12 = .ok (.iload_n 2, 1) := by decide +kernel
theorem d_Model_findLine_13 : decode prog_10_method_13_code 13 = .ok (.iconst 0, 1) := by decide +kernel
theorem d_Model_findLine_14 : decode prog_10_method_13_code 14 = .ok (.bastore, 1) := by decide +kernel
theorem d_Model_findLine_15 : decode prog_10_method_13_code 15 = .ok (.iinc 2 1, 3) := by decide +kernel
theorem d_Model_findLine_18 : decode prog_10_method_13_code 18 = .ok (.goto (-16), 3) := by decide +kernel
theorem d_Model_findLine_21 : decode prog_10_method_13_code 21 = .ok (.aload_n 0, 1) := by decide +kernel
theorem d_Model_findLine_22 : decode prog_10_method_13_code 22 = .ok (.iconst 0, 1) := by decide +kernel
theorem d_Model_findLine_23 : decode prog_10_method_13_code 23 = .ok (.putfield 86, 3) := by decide +kernel
theorem d_Model_findLine_26 : decode prog_10_method_13_code 26 = .ok (.iconst 1, 1) := by decide +kernel
theorem d_Model_findLine_27 : decode prog_10_method_13_code 27 = .ok (.istore_n 2, 1) := by decide +kernel
theorem d_Model_findLine_28 : decode prog_10_method_13_code 28 = .ok (.aload_n 0, 1) := by decide +kernel
theorem d_Model_findLine_29 : decode prog_10_method_13_code 29 = .ok (.getfield 26, 3) := by decide +kernel
theorem d_Model_findLine_32 : decode prog_10_method_13_code 32 = .ok (.iconst 0, 1) := by decide +kernel
theorem d_Model_findLine_33 : decode prog_10_method_13_code 33 = .ok (.iload_n 1, 1) := by decide +kernel
theorem d_Model_findLine_34 : decode prog_10_method_13_code 34 = .ok (.iastore, 1) := by decide +kernel
theorem d_Model_findLine_35 : decode prog_10_method_13_code 35 = .ok (.aload_n 0, 1) := by decide +kernel
theorem d_Model_findLine_36 : decode prog_10_method_13_code 36 = .ok (.getfield 29, 3) := by decide +kernel
theorem d_Model_findLine_39 : decode prog_10_method_13_code 39 = .ok (.iconst 0, 1) := by decide +kernel
theorem d_Model_findLine_40 : decode prog_10_method_13_code 40 = .ok (.aload_n 0, 1) := by decide +kernel
theorem d_Model_findLine_41 : decode prog_10_method_13_code 41 = .ok (.iload_n 1, 1) := by decide +kernel
theorem d_Model_findLine_42 : decode prog_10_method_13_code 42 = .ok (.invokevirtual 89, 3) := by decide +kernel
theorem d_Model_findLine_45 : decode prog_10_method_13_code 45 = .ok (.iconst 1, 1) := by decide +kernel
theorem d_Model_findLine_46 : decode prog_10_method_13_code 46 = .ok (.isub, 1) := by decide +kernel
theorem d_Model_findLine_47 : decode prog_10_method_13_code 47 = .ok (.iastore, 1) := by decide +kernel
theorem d_Model_findLine_48 : decode prog_10_method_13_code 48 = .ok (.iload_n 2, 1) := by decide +kernel
theorem d_Model_findLine_49 : decode prog_10_method_13_code 49 = .ok (.ifCond .le 119, 3) := by decide +kernel
theorem d_Model_findLine_52 : decode prog_10_method_13_code 52 = .ok (.aload_n 0, 1) := by decide +kernel
theorem d_Model_findLine_53 : decode prog_10_method_13_code 53 = .ok (.getfield 26, 3) := by decide +kernel
theorem d_Model_findLine_56 : decode prog_10_method_13_code 56 = .ok (.iload_n 2, 1) := by decide +kernel
theorem d_Model_findLine_57 : decode prog_10_method_13_code 57 = .ok (.iconst 1, 1) := by decide +kernel
theorem d_Model_findLine_58 : decode prog_10_method_13_code 58 = .ok (.isub, 1) := by decide +kernel
theorem d_Model_findLine_59 : decode prog_10_method_13_code 59 = .ok (.iaload, 1) := by decide +kernel
theorem d_Model_findLine_60 : decode prog_10_method_13_code 60 = .ok (.istore_n 3, 1) := by decide +kernel
theorem d_Model_findLine_61 : decode prog_10_method_13_code 61 = .ok (.aload_n 0, 1) := by decide +kernel
theorem d_Model_findLine_62 : decode prog_10_method_13_code 62 = .ok (.getfield 29, 3) := by decide +kernel
theorem d_Model_findLine_65 : decode prog_10_method_13_code 65 = .ok (.iload_n 2, 1) := by decide +kernel
theorem d_Model_findLine_66 : decode prog_10_method_13_code 66 = .ok (.iconst 1, 1) := by decide +kernel
theorem d_Model_findLine_67 : decode prog_10_method_13_code 67 = .ok (.isub, 1) := by decide +kernel
theorem d_Model_findLine_68 : decode prog_10_method_13_code 68 = .ok (.iaload, 1) := by decide +kernel
theorem d_Model_findLine_69 : decode prog_10_method_13_code 69 = .ok (.istore 4, 2) := by decide +kernel
theorem d_Model_findLine_71 : decode prog_10_method_13_code 71 = .ok (.iload 4, 2) := by decide +kernel
theorem d_Model_findLine_73 : decode prog_10_method_13_code 73 = .ok (.ifCond .ge 36, 3) := by decide +kernel
theorem d_Model_findLine_76 : decode prog_10_method_13_code 76 = .ok (.aload_n 0, 1) := by decide +kernel
theorem d_Model_findLine_77 : decode prog_10_method_13_code 77 = .ok (.getfield 23, 3) := by decide +kernel
theorem d_Model_findLine_80 : decode prog_10_method_13_code 80 = .ok (.iload_n 3, 1) := by decide +kernel
theorem d_Model_findLine_81 : decode prog_10_method_13_code 81 = .ok (.iconst 1, 1) := by decide +kernel
theorem d_Model_findLine_82 : decode prog_10_method_13_code 82 = .ok (.bastore, 1) := by decide +kernel
theorem d_Model_findLine_83 : decode prog_10_method_13_code 83 = .ok (.aload_n 0, 1) := by decide +kernel
theorem d_Model_findLine_84 : decode prog_10_method_13_code 84 = .ok (.getfield 20, 3) := by decide +kernel
theorem d_Model_findLine_87 : decode prog_10_method_13_code 87 = .ok (.aload_n 0, 1) := by decide +kernel
theorem d_Model_findLine_88 : decode prog_10_method_13_code 88 = .ok (.getfield 86, 3) := by decide +kernel
theorem d_Model_findLine_91 : decode prog_10_method_13_code 91 = .ok (.iload_n 3, 1) := by decide +kernel
theorem d_Model_findLine_92 : decode prog_10_method_13_code 92 = .ok (.iastore, 1) := by decide +kernel
theorem d_Model_findLine_93 : decode prog_10_method_13_code 93 = .ok (.aload_n 0, 1) := by decide +kernel
theorem d_Model_findLine_94 : decode prog_10_method_13_code 94 = .ok (.dup, 1) := by decide +kernel
theorem d_Model_findLine_95 : decode prog_10_method_13_code 95 = .ok (.getfield 86, 3) := by decide +kernel
theorem d_Model_findLine_98 : decode prog_10_method_13_code 98 = .ok (.iconst 1, 1) := by decide +kernel
theorem d_Model_findLine_99 : decode prog_10_method_13_code 99 = .ok (.iadd, 1) := by decide +kernel
theorem d_Model_findLine_100 : decode prog_10_method_13_code 100 = .ok (.putfield 86, 3) := by decide +kernel
theorem d_Model_findLine_103 : decode prog_10_method_13_code 103 = .ok (.iinc 2 (-1), 3) := by decide +kernel
theorem d_Model_findLine_106 : decode prog_10_method_13_code 106 = .ok (.goto 59, 3) := by decide +kernel
theorem d_Model_findLine_109 : decode prog_10_method_13_code 109 = .ok (.aload_n 0, 1) := by decide +kernel
theorem d_Model_findLine_110 : decode prog_10_method_13_code 110 = .ok (.getfield 29, 3) := by decide +kernel
theorem d_Model_findLine_113 : decode prog_10_method_13_code 113 = .ok (.iload_n 2, 1) := by decide +kernel
theorem d_Model_findLine_114 : decode prog_10_method_13_code 114 = .ok (.iconst 1, 1) := by decide +kernel
theorem d_Model_findLine_115 : decode prog_10_method_13_code 115 = .ok (.isub, 1) := by decide +kernel
theorem d_Model_findLine_116 : decode prog_10_method_13_code 116 = .ok (.iload 4, 2) := by decide +kernel
theorem d_Model_findLine_118 : decode prog_10_method_13_code 118 = .ok (.iconst 1, 1) := by decide +kernel
theorem d_Model_findLine_119 : decode prog_10_method_13_code 119 = .ok (.isub, 1) := by decide +kernel
theorem d_Model_findLine_120 : decode prog_10_method_13_code 120 = .ok (.iastore, 1) := by decide +kernel
theorem d_Model_findLine_121 : decode prog_10_method_13_code 121 = .ok (.aload_n 0, 1) := by decide +kernel
theorem d_Model_findLine_122 : decode prog_10_method_13_code 122 = .ok (.iload_n 3, 1) := by decide +kernel
theorem d_Model_findLine_123 : decode prog_10_method_13_code 123 = .ok (.iload 4, 2) := by decide +kernel
theorem d_Model_findLine_125 : decode prog_10_method_13_code 125 = .ok (.invokevirtual 93, 3) := by decide +kernel
theorem d_Model_findLine_128 : decode prog_10_method_13_code 128 = .ok (.istore 5, 2) := by decide +kernel
theorem d_Model_findLine_130 : decode prog_10_method_13_code 130 = .ok (.aload_n 0, 1) := by decide +kernel
theorem d_Model_findLine_131 : decode prog_10_method_13_code 131 = .ok (.getfield 23, 3) := by decide +kernel
theorem d_Model_findLine_134 : decode prog_10_method_13_code 134 = .ok (.iload 5, 2) := by decide +kernel
theorem d_Model_findLine_136 : decode prog_10_method_13_code 136 = .ok (.baload, 1) := by decide +kernel
theorem d_Model_findLine_137 : decode prog_10_method_13_code 137 = .ok (.ifCond .ne 28, 3) := by decide +kernel
theorem d_Model_findLine_140 : decode prog_10_method_13_code 140 = .ok (.aload_n 0, 1) := by decide +kernel
theorem d_Model_findLine_141 : decode prog_10_method_13_code 141 = .ok (.getfield 26, 3) := by decide +kernel
theorem d_Model_findLine_144 : decode prog_10_method_13_code 144 = .ok (.iload_n 2, 1) := by decide +kernel
theorem d_Model_findLine_145 : decode prog_10_method_13_code 145 = .ok (.iload 5, 2) := by decide +kernel
theorem d_Model_findLine_147 : decode prog_10_method_13_code 147 = .ok (.iastore, 1) := by decide +kernel
theorem d_Model_findLine_148 : decode prog_10_method_13_code 148 = .ok (.aload_n 0, 1) := by decide +kernel
theorem d_Model_findLine_149 : decode prog_10_method_13_code 149 = .ok (.getfield 29, 3) := by decide +kernel
theorem d_Model_findLine_152 : decode prog_10_method_13_code 152 = .ok (.iload_n 2, 1) := by decide +kernel
theorem d_Model_findLine_153 : decode prog_10_method_13_code 153 = .ok (.aload_n 0, 1) := by decide +kernel
theorem d_Model_findLine_154 : decode prog_10_method_13_code 154 = .ok (.iload 5, 2) := by decide +kernel
theorem d_Model_findLine_156 : decode prog_10_method_13_code 156 = .ok (.invokevirtual 89, 3) := by decide +kernel
theorem d_Model_findLine_159 : decode prog_10_method_13_code 159 = .ok (.iconst 1, 1) := by decide +kernel
theorem d_Model_findLine_160 : decode prog_10_method_13_code 160 = .ok (.isub, 1) := by decide +kernel
theorem d_Model_findLine_161 : decode prog_10_method_13_code 161 = .ok (.iastore, 1) := by decide +kernel
theorem d_Model_findLine_162 : decode prog_10_method_13_code 162 = .ok (.iinc 2 1, 3) := by decide +kernel
theorem d_Model_findLine_165 : decode prog_10_method_13_code 165 = .ok (.goto (-117), 3) := by decide +kernel
theorem d_Model_findLine_168 : decode prog_10_method_13_code 168 = .ok (.return_, 1) := by decide +kernel
theorem d_Model_give_0 : decode prog_10_method_10_code 0 = .ok (.aload_n 0, 1) := by decide +kernel
theorem d_Model_give_1 : decode prog_10_method_10_code 1 = .ok (.iload_n 1, 1) := by decide +kernel
theorem d_Model_give_2 : decode prog_10_method_10_code 2 = .ok (.iload_n 2, 1) := by decide +kernel
theorem d_Model_give_3 : decode prog_10_method_10_code 3 = .ok (.invokevirtual 82, 3) := by decide +kernel
theorem d_Model_give_6 : decode prog_10_method_10_code 6 = .ok (.istore 5, 2) := by decide +kernel
theorem d_Model_give_8 : decode prog_10_method_10_code 8 = .ok (.aload_n 0, 1) := by decide +kernel
theorem d_Model_give_9 : decode prog_10_method_10_code 9 = .ok (.getfield 13, 3) := by decide +kernel
theorem d_Model_give_12 : decode prog_10_method_10_code 12 = .ok (.iload 5, 2) := by decide +kernel
theorem d_Model_give_14 : decode prog_10_method_10_code 14 = .ok (.iconst 1, 1) := by decide +kernel
theorem d_Model_give_15 : decode prog_10_method_10_code 15 = .ok (.iastore, 1) := by decide +kernel
theorem d_Model_give_16 : decode prog_10_method_10_code 16 = .ok (.aload_n 0, 1) := by decide +kernel
theorem d_Model_give_17 : decode prog_10_method_10_code 17 = .ok (.getfield 13, 3) := by decide +kernel
theorem d_Model_give_20 : decode prog_10_method_10_code 20 = .ok (.iload 5, 2) := by decide +kernel
theorem d_Model_give_22 : decode prog_10_method_10_code 22 = .ok (.iconst 1, 1) := by decide +kernel
theorem d_Model_give_23 : decode prog_10_method_10_code 23 = .ok (.iadd, 1) := by decide +kernel
theorem d_Model_give_24 : decode prog_10_method_10_code 24 = .ok (.iload_n 3, 1) := by decide +kernel
theorem d_Model_give_25 : decode prog_10_method_10_code 25 = .ok (.iastore, 1) := by decide +kernel
theorem d_Model_give_26 : decode prog_10_method_10_code 26 = .ok (.aload_n 0, 1) := by decide +kernel
theorem d_Model_give_27 : decode prog_10_method_10_code 27 = .ok (.getfield 13, 3) := by decide +kernel
theorem d_Model_give_30 : decode prog_10_method_10_code 30 = .ok (.iload 5, 2) := by decide +kernel
theorem d_Model_give_32 : decode prog_10_method_10_code 32 = .ok (.iconst 2, 1) := by decide +kernel
theorem d_Model_give_33 : decode prog_10_method_10_code 33 = .ok (.iadd, 1) := by decide +kernel
theorem d_Model_give_34 : decode prog_10_method_10_code 34 = .ok (.iload_n 3, 1) := by decide +kernel
theorem d_Model_give_35 : decode prog_10_method_10_code 35 = .ok (.iconst 2, 1) := by decide +kernel
theorem d_Model_give_36 : decode prog_10_method_10_code 36 = .ok (.if_icmp .ge 7, 3) := by decide +kernel
theorem d_Model_give_39 : decode prog_10_method_10_code 39 = .ok (.iconst 0, 1) := by decide +kernel
theorem d_Model_give_40 : decode prog_10_method_10_code 40 = .ok (.goto 5, 3) := by decide +kernel
theorem d_Model_give_43 : decode prog_10_method_10_code 43 = .ok (.iload 4, 2) := by decide +kernel
theorem d_Model_give_45 : decode prog_10_method_10_code 45 = .ok (.iastore, 1) := by decide +kernel
theorem d_Model_give_46 : decode prog_10_method_10_code 46 = .ok (.return_, 1) := by decide +kernel
theorem d_Model_going_0 : decode prog_10_method_38_code 0 = .ok (.aload_n 0, 1) := by decide +kernel
theorem d_Model_going_1 : decode prog_10_method_38_code 1 = .ok (.getfield 130, 3) := by decide +kernel
theorem d_Model_going_4 : decode prog_10_method_38_code 4 = .ok (.iconst 1, 1) := by decide +kernel
theorem d_Model_going_5 : decode prog_10_method_38_code 5 = .ok (.isub, 1) := by decide +kernel
theorem d_Model_going_6 : decode prog_10_method_38_code 6 = .ok (.istore 4, 2) := by decide +kernel
theorem d_Model_going_8 : decode prog_10_method_38_code 8 = .ok (.iload_n 2, 1) := by decide +kernel
theorem d_Model_going_9 : decode prog_10_method_38_code 9 = .ok (.tableswitch 416 19 26 #[47, 63, 112, 206, 212, 326, 375, 409], 47) := by decide +kernel
theorem d_Model_going_56 : decode prog_10_method_38_code 56 = .ok (.aload_n 0, 1) := by decide +kernel
theorem d_Model_going_57 : decode prog_10_method_38_code 57 = .ok (.getfield 62, 3) := by decide +kernel
theorem d_Model_going_60 : decode prog_10_method_38_code 60 = .ok (.iload_n 1, 1) := by decide +kernel
theorem d_Model_going_61 : decode prog_10_method_38_code 61 = .ok (.dup2, 1) := by decide +kernel
theorem d_Model_going_62 : decode prog_10_method_38_code 62 = .ok (.iaload, 1) := by decide +kernel
theorem d_Model_going_63 : decode prog_10_method_38_code 63 = .ok (.aload_n 0, 1) := by decide +kernel
theorem d_Model_going_64 : decode prog_10_method_38_code 64 = .ok (.iload_n 3, 1) := by decide +kernel
theorem d_Model_going_65 : decode prog_10_method_38_code 65 = .ok (.invokevirtual 185, 3) := by decide +kernel
theorem d_Model_going_68 : decode prog_10_method_38_code 68 = .ok (.iadd, 1) := by decide +kernel
theorem d_Model_going_69 : decode prog_10_method_38_code 69 = .ok (.iastore, 1) := by decide +kernel
theorem d_Model_going_70 : decode prog_10_method_38_code 70 = .ok (.iconst 1, 1) := by decide +kernel
theorem d_Model_going_71 : decode prog_10_method_38_code 71 = .ok (.ireturn, 1) := by decide +kernel
theorem d_Model_going_72 : decode prog_10_method_38_code 72 = .ok (.aload_n 0, 1) := by decide +kernel
theorem d_Model_going_73 : decode prog_10_method_38_code 73 = .ok (.invokevirtual 181, 3) := by decide +kernel
theorem d_Model_going_76 : decode prog_10_method_38_code 76 = .ok (.iconst 1, 1) := by decide +kernel
theorem d_Model_going_77 : decode prog_10_method_38_code 77 = .ok (.if_icmp .ge 5, 3) := by decide +kernel
theorem d_Model_going_80 : decode prog_10_method_38_code 80 = .ok (.iconst 0, 1) := by decide +kernel
theorem d_Model_going_81 : decode prog_10_method_38_code 81 = .ok (.ireturn, 1) := by decide +kernel
theorem d_Model_going_82 : decode prog_10_method_38_code 82 = .ok (.aload_n 0, 1) := by decide +kernel
theorem d_Model_going_83 : decode prog_10_method_38_code 83 = .ok (.getfield 62, 3) := by decide +kernel
theorem d_Model_going_86 : decode prog_10_method_38_code 86 = .ok (.iload_n 1, 1) := by decide +kernel
theorem d_Model_going_87 : decode prog_10_method_38_code 87 = .ok (.dup2, 1) := by decide +kernel
theorem d_Model_going_88 : decode prog_10_method_38_code 88 = .ok (.iaload, 1) := by decide +kernel
theorem d_Model_going_89 : decode prog_10_method_38_code 89 = .ok (.aload_n 0, 1) := by decide +kernel
theorem d_Model_going_90 : decode prog_10_method_38_code 90 = .ok (.iload 4, 2) := by decide +kernel
theorem d_Model_going_92 : decode prog_10_method_38_code 92 = .ok (.invokevirtual 191, 3) := by decide +kernel
theorem d_Model_going_95 : decode prog_10_method_38_code 95 = .ok (.ifCond .eq 11, 3) := by decide +kernel
theorem d_Model_going_98 : decode prog_10_method_38_code 98 = .ok (.aload_n 0, 1) := by decide +kernel
theorem d_Model_going_99 : decode prog_10_method_38_code 99 = .ok (.iload_n 3, 1) := by decide +kernel
theorem d_Model_going_100 : decode prog_10_method_38_code 100 = .ok (.invokevirtual 185, 3) := by decide +kernel
theorem d_Model_going_103 : decode prog_10_method_38_code 103 = .ok (.goto 4, 3) := by decide +kernel
theorem d_Model_going_106 : decode prog_10_method_38_code 106 = .ok (.iconst 0, 1) := by decide +kernel
theorem d_Model_going_107 : decode prog_10_method_38_code 107 = .ok (.iadd, 1) := by decide +kernel
theorem d_Model_going_108 : decode prog_10_method_38_code 108 = .ok (.iastore, 1) := by decide +kernel
theorem d_Model_going_109 : decode prog_10_method_38_code 109 = .ok (.aload_n 0, 1) := by decide +kernel
theorem d_Model_going_110 : decode prog_10_method_38_code 110 = .ok (.dup, 1) := by decide +kernel
theorem d_Model_going_111 : decode prog_10_method_38_code 111 = .ok (.getfield 130, 3) := by decide +kernel
theorem d_Model_going_114 : decode prog_10_method_38_code 114 = .ok (.iconst 1, 1) := by decide +kernel
theorem d_Model_going_115 : decode prog_10_method_38_code 115 = .ok (.isub, 1) := by decide +kernel
theorem d_Model_going_116 : decode prog_10_method_38_code 116 = .ok (.putfield 130, 3) := by decide +kernel
theorem d_Model_going_119 : decode prog_10_method_38_code 119 = .ok (.iconst 1, 1) := by decide +kernel
theorem d_Model_going_120 : decode prog_10_method_38_code 120 = .ok (.ireturn, 1) := by decide +kernel
theorem d_Model_going_121 : decode prog_10_method_38_code 121 = .ok (.aload_n 0, 1) := by decide +kernel
theorem d_Model_going_122 : decode prog_10_method_38_code 122 = .ok (.iload_n 3, 1) := by decide +kernel
theorem d_Model_going_123 : decode prog_10_method_38_code 123 = .ok (.invokevirtual 124, 3) := by decide +kernel
theorem d_Model_going_126 : decode prog_10_method_38_code 126 = .ok (.iconst 4, 1) := by decide +kernel
theorem d_Model_going_127 : decode prog_10_method_38_code 127 = .ok (.if_icmp .ge 86, 3) := by decide +kernel
theorem d_Model_going_130 : decode prog_10_method_38_code 130 = .ok (.aload_n 0, 1) := by decide +kernel
theorem d_Model_going_131 : decode prog_10_method_38_code 131 = .ok (.iload_n 3, 1) := by decide +kernel
theorem d_Model_going_132 : decode prog_10_method_38_code 132 = .ok (.iconst 1, 1) := by decide +kernel
theorem d_Model_going_133 : decode prog_10_method_38_code 133 = .ok (.iadd, 1) := by decide +kernel
theorem d_Model_going_134 : decode prog_10_method_38_code 134 = .ok (.invokevirtual 124, 3) := by decide +kernel
theorem d_Model_going_137 : decode prog_10_method_38_code 137 = .ok (.bipush 8, 2) := by decide +kernel
theorem d_Model_going_139 : decode prog_10_method_38_code 139 = .ok (.if_icmp .ge 74, 3) := by decide +kernel
theorem d_Model_going_142 : decode prog_10_method_38_code 142 = .ok (.aload_n 0, 1) := by decide +kernel
theorem d_Model_going_143 : decode prog_10_method_38_code 143 = .ok (.invokevirtual 181, 3) := by decide +kernel
theorem d_Model_going_146 : decode prog_10_method_38_code 146 = .ok (.aload_n 0, 1) := by decide +kernel
theorem d_Model_going_147 : decode prog_10_method_38_code 147 = .ok (.iload_n 3, 1) := by decide +kernel
theorem d_Model_going_148 : decode prog_10_method_38_code 148 = .ok (.invokevirtual 124, 3) := by decide +kernel
theorem d_Model_going_151 : decode prog_10_method_38_code 151 = .ok (.if_icmp .le 62, 3) := by decide +kernel
theorem d_Model_going_154 : decode prog_10_method_38_code 154 = .ok (.aload_n 0, 1) := by decide +kernel
theorem d_Model_going_155 : decode prog_10_method_38_code 155 = .ok (.iload 4, 2) := by decide +kernel
theorem d_Model_going_157 : decode prog_10_method_38_code 157 = .ok (.invokevirtual 201, 3) := by decide +kernel
theorem d_Model_going_160 : decode prog_10_method_38_code 160 = .ok (.ifCond .eq 53, 3) := by decide +kernel
theorem d_Model_going_163 : decode prog_10_method_38_code 163 = .ok (.aload_n 0, 1) := by decide +kernel
theorem d_Model_going_164 : decode prog_10_method_38_code 164 = .ok (.aload_n 0, 1) := by decide +kernel
theorem d_Model_going_165 : decode prog_10_method_38_code 165 = .ok (.getfield 35, 3) := by decide +kernel
theorem d_Model_going_168 : decode prog_10_method_38_code 168 = .ok (.iload 4, 2) := by decide +kernel
theorem d_Model_going_170 : decode prog_10_method_38_code 170 = .ok (.iaload, 1) := by decide +kernel
theorem d_Model_going_171 : decode prog_10_method_38_code 171 = .ok (.aload_n 0, 1) := by decide +kernel
theorem d_Model_going_172 : decode prog_10_method_38_code 172 = .ok (.aload_n 0, 1) := by decide +kernel
theorem d_Model_going_173 : decode prog_10_method_38_code 173 = .ok (.getfield 35, 3) := by decide +kernel
theorem d_Model_going_176 : decode prog_10_method_38_code 176 = .ok (.iload 4, 2) := by decide +kernel
theorem d_Model_going_178 : decode prog_10_method_38_code 178 = .ok (.iaload, 1) := by decide +kernel
theorem d_Model_going_179 : decode prog_10_method_38_code 179 = .ok (.aload_n 0, 1) := by decide +kernel
theorem d_Model_going_180 : decode prog_10_method_38_code 180 = .ok (.iload_n 3, 1) := by decide +kernel
theorem d_Model_going_181 : decode prog_10_method_38_code 181 = .ok (.iconst 1, 1) := by decide +kernel
theorem d_Model_going_182 : decode prog_10_method_38_code 182 = .ok (.iadd, 1) := by decide +kernel
theorem d_Model_going_183 : decode prog_10_method_38_code 183 = .ok (.invokevirtual 124, 3) := by decide +kernel
theorem d_Model_going_186 : decode prog_10_method_38_code 186 = .ok (.iconst (-1), 1) := by decide +kernel
theorem d_Model_going_187 : decode prog_10_method_38_code 187 = .ok (.invokevirtual 137, 3) := by decide +kernel
theorem d_Model_going_190 : decode prog_10_method_38_code 190 = .ok (.aload_n 0, 1) := by decide +kernel
theorem d_Model_going_191 : decode prog_10_method_38_code 191 = .ok (.iload_n 3, 1) := by decide +kernel
theorem d_Model_going_192 : decode prog_10_method_38_code 192 = .ok (.iconst 1, 1) := by decide +kernel
theorem d_Model_going_193 : decode prog_10_method_38_code 193 = .ok (.iadd, 1) := by decide +kernel
theorem d_Model_going_194 : decode prog_10_method_38_code 194 = .ok (.invokevirtual 124, 3) := by decide +kernel
theorem d_Model_going_197 : decode prog_10_method_38_code 197 = .ok (.aload_n 0, 1) := by decide +kernel
theorem d_Model_going_198 : decode prog_10_method_38_code 198 = .ok (.iload_n 3, 1) := by decide +kernel
theorem d_Model_going_199 : decode prog_10_method_38_code 199 = .ok (.invokevirtual 124, 3) := by decide +kernel
theorem d_Model_going_202 : decode prog_10_method_38_code 202 = .ok (.iconst 1, 1) := by decide +kernel
theorem d_Model_going_203 : decode prog_10_method_38_code 203 = .ok (.invokevirtual 204, 3) := by decide +kernel
theorem d_Model_going_206 : decode prog_10_method_38_code 206 = .ok (.ifCond .eq 7, 3) := by decide +kernel
theorem d_Model_going_209 : decode prog_10_method_38_code 209 = .ok (.iconst 1, 1) := by decide +kernel
theorem d_Model_going_210 : decode prog_10_method_38_code 210 = .ok (.goto 4, 3) := by decide +kernel
theorem d_Model_going_213 : decode prog_10_method_38_code 213 = .ok (.iconst 0, 1) := by decide +kernel
theorem d_Model_going_214 : decode prog_10_method_38_code 214 = .ok (.ireturn, 1) := by decide +kernel
theorem d_Model_going_215 : decode prog_10_method_38_code 215 = .ok (.aload_n 0, 1) := by decide +kernel
theorem d_Model_going_216 : decode prog_10_method_38_code 216 = .ok (.iload_n 3, 1) := by decide +kernel
theorem d_Model_going_217 : decode prog_10_method_38_code 217 = .ok (.invokevirtual 208, 3) := by decide +kernel
theorem d_Model_going_220 : decode prog_10_method_38_code 220 = .ok (.ireturn, 1) := by decide +kernel
theorem d_Model_going_221 : decode prog_10_method_38_code 221 = .ok (.aload_n 0, 1) := by decide +kernel
theorem d_Model_going_222 : decode prog_10_method_38_code 222 = .ok (.iload_n 3, 1) := by decide +kernel
theorem d_Model_going_223 : decode prog_10_method_38_code 223 = .ok (.invokevirtual 124, 3) := by decide +kernel
theorem d_Model_going_226 : decode prog_10_method_38_code 226 = .ok (.iconst 4, 1) := by decide +kernel
theorem d_Model_going_227 : decode prog_10_method_38_code 227 = .ok (.if_icmp .ge 106, 3) := by decide +kernel
theorem d_Model_going_230 : decode prog_10_method_38_code 230 = .ok (.aload_n 0, 1) := by decide +kernel
theorem d_Model_going_231 : decode prog_10_method_38_code 231 = .ok (.iload_n 3, 1) := by decide +kernel
theorem d_Model_going_232 : decode prog_10_method_38_code 232 = .ok (.iconst 1, 1) := by decide +kernel
theorem d_Model_going_233 : decode prog_10_method_38_code 233 = .ok (.iadd, 1) := by decide +kernel
theorem d_Model_going_234 : decode prog_10_method_38_code 234 = .ok (.invokevirtual 124, 3) := by decide +kernel
theorem d_Model_going_237 : decode prog_10_method_38_code 237 = .ok (.bipush 8, 2) := by decide +kernel
theorem d_Model_going_239 : decode prog_10_method_38_code 239 = .ok (.if_icmp .ge 94, 3) := by decide +kernel
theorem d_Model_going_242 : decode prog_10_method_38_code 242 = .ok (.aload_n 0, 1) := by decide +kernel
theorem d_Model_going_243 : decode prog_10_method_38_code 243 = .ok (.invokevirtual 181, 3) := by decide +kernel
theorem d_Model_going_246 : decode prog_10_method_38_code 246 = .ok (.aload_n 0, 1) := by decide +kernel
theorem d_Model_going_247 : decode prog_10_method_38_code 247 = .ok (.iload_n 3, 1) := by decide +kernel
theorem d_Model_going_248 : decode prog_10_method_38_code 248 = .ok (.invokevirtual 124, 3) := by decide +kernel
theorem d_Model_going_251 : decode prog_10_method_38_code 251 = .ok (.if_icmp .lt 82, 3) := by decide +kernel
theorem d_Model_going_254 : decode prog_10_method_38_code 254 = .ok (.aload_n 0, 1) := by decide +kernel
theorem d_Model_going_255 : decode prog_10_method_38_code 255 = .ok (.aload_n 0, 1) := by decide +kernel
theorem d_Model_going_256 : decode prog_10_method_38_code 256 = .ok (.getfield 53, 3) := by decide +kernel
theorem d_Model_going_259 : decode prog_10_method_38_code 259 = .ok (.iload_n 1, 1) := by decide +kernel
theorem d_Model_going_260 : decode prog_10_method_38_code 260 = .ok (.iaload, 1) := by decide +kernel
theorem d_Model_going_261 : decode prog_10_method_38_code 261 = .ok (.invokevirtual 107, 3) := by decide +kernel
theorem d_Model_going_264 : decode prog_10_method_38_code 264 = .ok (.ifCond .eq 69, 3) := by decide +kernel
theorem d_Model_going_267 : decode prog_10_method_38_code 267 = .ok (.aload_n 0, 1) := by decide +kernel
theorem d_Model_going_268 : decode prog_10_method_38_code 268 = .ok (.aload_n 0, 1) := by decide +kernel
theorem d_Model_going_269 : decode prog_10_method_38_code 269 = .ok (.getfield 56, 3) := by decide +kernel
theorem d_Model_going_272 : decode prog_10_method_38_code 272 = .ok (.iload_n 1, 1) := by decide +kernel
theorem d_Model_going_273 : decode prog_10_method_38_code 273 = .ok (.iaload, 1) := by decide +kernel
theorem d_Model_going_274 : decode prog_10_method_38_code 274 = .ok (.invokevirtual 107, 3) := by decide +kernel
theorem d_Model_going_277 : decode prog_10_method_38_code 277 = .ok (.ifCond .eq 56, 3) := by decide +kernel
theorem d_Model_going_280 : decode prog_10_method_38_code 280 = .ok (.aload_n 0, 1) := by decide +kernel
theorem d_Model_going_281 : decode prog_10_method_38_code 281 = .ok (.aload_n 0, 1) := by decide +kernel
theorem d_Model_going_282 : decode prog_10_method_38_code 282 = .ok (.getfield 53, 3) := by decide +kernel
theorem d_Model_going_285 : decode prog_10_method_38_code 285 = .ok (.iload_n 1, 1) := by decide +kernel
theorem d_Model_going_286 : decode prog_10_method_38_code 286 = .ok (.iaload, 1) := by decide +kernel
theorem d_Model_going_287 : decode prog_10_method_38_code 287 = .ok (.aload_n 0, 1) := by decide +kernel
theorem d_Model_going_288 : decode prog_10_method_38_code 288 = .ok (.aload_n 0, 1) := by decide +kernel
theorem d_Model_going_289 : decode prog_10_method_38_code 289 = .ok (.getfield 53, 3) := by decide +kernel
theorem d_Model_going_292 : decode prog_10_method_38_code 292 = .ok (.iload_n 1, 1) := by decide +kernel
theorem d_Model_going_293 : decode prog_10_method_38_code 293 = .ok (.iaload, 1) := by decide +kernel
theorem d_Model_going_294 : decode prog_10_method_38_code 294 = .ok (.aload_n 0, 1) := by decide +kernel
theorem d_Model_going_295 : decode prog_10_method_38_code 295 = .ok (.iload_n 3, 1) := by decide +kernel
theorem d_Model_going_296 : decode prog_10_method_38_code 296 = .ok (.iconst 1, 1) := by decide +kernel
theorem d_Model_going_297 : decode prog_10_method_38_code 297 = .ok (.iadd, 1) := by decide +kernel
theorem d_Model_going_298 : decode prog_10_method_38_code 298 = .ok (.invokevirtual 124, 3) := by decide +kernel
theorem d_Model_going_301 : decode prog_10_method_38_code 301 = .ok (.aload_n 0, 1) := by decide +kernel
theorem d_Model_going_302 : decode prog_10_method_38_code 302 = .ok (.getfield 56, 3) := by decide +kernel
theorem d_Model_going_305 : decode prog_10_method_38_code 305 = .ok (.iload_n 1, 1) := by decide +kernel
theorem d_Model_going_306 : decode prog_10_method_38_code 306 = .ok (.iaload, 1) := by decide +kernel
theorem d_Model_going_307 : decode prog_10_method_38_code 307 = .ok (.invokevirtual 137, 3) := by decide +kernel
theorem d_Model_going_310 : decode prog_10_method_38_code 310 = .ok (.aload_n 0, 1) := by decide +kernel
theorem d_Model_going_311 : decode prog_10_method_38_code 311 = .ok (.iload_n 3, 1) := by decide +kernel
theorem d_Model_going_312 : decode prog_10_method_38_code 312 = .ok (.iconst 1, 1) := by decide +kernel
theorem d_Model_going_313 : decode prog_10_method_38_code 313 = .ok (.iadd, 1) := by decide +kernel
theorem d_Model_going_314 : decode prog_10_method_38_code 314 = .ok (.invokevirtual 124, 3) := by decide +kernel
theorem d_Model_going_317 : decode prog_10_method_38_code 317 = .ok (.aload_n 0, 1) := by decide +kernel
theorem d_Model_going_318 : decode prog_10_method_38_code 318 = .ok (.iload_n 3, 1) := by decide +kernel
theorem d_Model_going_319 : decode prog_10_method_38_code 319 = .ok (.invokevirtual 124, 3) := by decide +kernel
theorem d_Model_going_322 : decode prog_10_method_38_code 322 = .ok (.iconst 0, 1) := by decide +kernel
theorem d_Model_going_323 : decode prog_10_method_38_code 323 = .ok (.invokevirtual 204, 3) := by decide +kernel
theorem d_Model_going_326 : decode prog_10_method_38_code 326 = .ok (.ifCond .eq 7, 3) := by decide +kernel
theorem d_Model_going_329 : decode prog_10_method_38_code 329 = .ok (.iconst 1, 1) := by decide +kernel
theorem d_Model_going_330 : decode prog_10_method_38_code 330 = .ok (.goto 4, 3) := by decide +kernel
theorem d_Model_going_333 : decode prog_10_method_38_code 333 = .ok (.iconst 0, 1) := by decide +kernel
theorem d_Model_going_334 : decode prog_10_method_38_code 334 = .ok (.ireturn, 1) := by decide +kernel
theorem d_Model_going_335 : decode prog_10_method_38_code 335 = .ok (.aload_n 0, 1) := by decide +kernel
theorem d_Model_going_336 : decode prog_10_method_38_code 336 = .ok (.iload_n 3, 1) := by decide +kernel
theorem d_Model_going_337 : decode prog_10_method_38_code 337 = .ok (.invokevirtual 124, 3) := by decide +kernel
theorem d_Model_going_340 : decode prog_10_method_38_code 340 = .ok (.iconst 4, 1) := by decide +kernel
theorem d_Model_going_341 : decode prog_10_method_38_code 341 = .ok (.if_icmp .ge 41, 3) := by decide +kernel
theorem d_Model_going_344 : decode prog_10_method_38_code 344 = .ok (.aload_n 0, 1) := by decide +kernel
theorem d_Model_going_345 : decode prog_10_method_38_code 345 = .ok (.invokevirtual 181, 3) := by decide +kernel
theorem d_Model_going_348 : decode prog_10_method_38_code 348 = .ok (.aload_n 0, 1) := by decide +kernel
theorem d_Model_going_349 : decode prog_10_method_38_code 349 = .ok (.iload_n 3, 1) := by decide +kernel
theorem d_Model_going_350 : decode prog_10_method_38_code 350 = .ok (.invokevirtual 124, 3) := by decide +kernel
theorem d_Model_going_353 : decode prog_10_method_38_code 353 = .ok (.if_icmp .lt 29, 3) := by decide +kernel
theorem d_Model_going_356 : decode prog_10_method_38_code 356 = .ok (.aload_n 0, 1) := by decide +kernel
theorem d_Model_going_357 : decode prog_10_method_38_code 357 = .ok (.aload_n 0, 1) := by decide +kernel
theorem d_Model_going_358 : decode prog_10_method_38_code 358 = .ok (.iload_n 3, 1) := by decide +kernel
theorem d_Model_going_359 : decode prog_10_method_38_code 359 = .ok (.iconst 1, 1) := by decide +kernel
theorem d_Model_going_360 : decode prog_10_method_38_code 360 = .ok (.iadd, 1) := by decide +kernel
theorem d_Model_going_361 : decode prog_10_method_38_code 361 = .ok (.invokevirtual 188, 3) := by decide +kernel
theorem d_Model_going_364 : decode prog_10_method_38_code 364 = .ok (.aload_n 0, 1) := by decide +kernel
theorem d_Model_going_365 : decode prog_10_method_38_code 365 = .ok (.iload_n 3, 1) := by decide +kernel
theorem d_Model_going_366 : decode prog_10_method_38_code 366 = .ok (.invokevirtual 124, 3) := by decide +kernel
theorem d_Model_going_369 : decode prog_10_method_38_code 369 = .ok (.iconst 0, 1) := by decide +kernel
theorem d_Model_going_370 : decode prog_10_method_38_code 370 = .ok (.iconst (-1), 1) := by decide +kernel
theorem d_Model_going_371 : decode prog_10_method_38_code 371 = .ok (.iconst (-1), 1) := by decide +kernel
theorem d_Model_going_372 : decode prog_10_method_38_code 372 = .ok (.invokevirtual 211, 3) := by decide +kernel
theorem d_Model_going_375 : decode prog_10_method_38_code 375 = .ok (.ifCond .eq 7, 3) := by decide +kernel
theorem d_Model_going_378 : decode prog_10_method_38_code 378 = .ok (.iconst 1, 1) := by decide +kernel
theorem d_Model_going_379 : decode prog_10_method_38_code 379 = .ok (.goto 4, 3) := by decide +kernel
theorem d_Model_going_382 : decode prog_10_method_38_code 382 = .ok (.iconst 0, 1) := by decide +kernel
theorem d_Model_going_383 : decode prog_10_method_38_code 383 = .ok (.ireturn, 1) := by decide +kernel
theorem d_Model_going_384 : decode prog_10_method_38_code 384 = .ok (.aload_n 0, 1) := by decide +kernel
theorem d_Model_going_385 : decode prog_10_method_38_code 385 = .ok (.invokevirtual 181, 3) := by decide +kernel
theorem d_Model_going_388 : decode prog_10_method_38_code 388 = .ok (.ifCond .le 28, 3) := by decide +kernel
theorem d_Model_going_391 : decode prog_10_method_38_code 391 = .ok (.aload_n 0, 1) := by decide +kernel
theorem d_Model_going_392 : decode prog_10_method_38_code 392 = .ok (.aload_n 0, 1) := by decide +kernel
theorem d_Model_going_393 : decode prog_10_method_38_code 393 = .ok (.getfield 32, 3) := by decide +kernel
theorem d_Model_going_396 : decode prog_10_method_38_code 396 = .ok (.iload 4, 2) := by decide +kernel
theorem d_Model_going_398 : decode prog_10_method_38_code 398 = .ok (.iaload, 1) := by decide +kernel
theorem d_Model_going_399 : decode prog_10_method_38_code 399 = .ok (.aload_n 0, 1) := by decide +kernel
theorem d_Model_going_400 : decode prog_10_method_38_code 400 = .ok (.getfield 35, 3) := by decide +kernel
theorem d_Model_going_403 : decode prog_10_method_38_code 403 = .ok (.iload 4, 2) := by decide +kernel
theorem d_Model_going_405 : decode prog_10_method_38_code 405 = .ok (.iaload, 1) := by decide +kernel
theorem d_Model_going_406 : decode prog_10_method_38_code 406 = .ok (.invokevirtual 214, 3) := by decide +kernel
theorem d_Model_going_409 : decode prog_10_method_38_code 409 = .ok (.ifCond .eq 7, 3) := by decide +kernel
theorem d_Model_going_412 : decode prog_10_method_38_code 412 = .ok (.iconst 1, 1) := by decide +kernel
theorem d_Model_going_413 : decode prog_10_method_38_code 413 = .ok (.goto 4, 3) := by decide +kernel
theorem d_Model_going_416 : decode prog_10_method_38_code 416 = .ok (.iconst 0, 1) := by decide +kernel
theorem d_Model_going_417 : decode prog_10_method_38_code 417 = .ok (.ireturn, 1) := by decide +kernel
theorem d_Model_going_418 : decode prog_10_method_38_code 418 = .ok (.aload_n 0, 1) := by decide +kernel
theorem d_Model_going_419 : decode prog_10_method_38_code 419 = .ok (.iconst 0, 1) := by decide +kernel
theorem d_Model_going_420 : decode prog_10_method_38_code 420 = .ok (.iconst 0, 1) := by decide +kernel
theorem d_Model_going_421 : decode prog_10_method_38_code 421 = .ok (.invokevirtual 214, 3) := by decide +kernel
theorem d_Model_going_424 : decode prog_10_method_38_code 424 = .ok (.ireturn, 1) := by decide +kernel
theorem d_Model_going_425 : decode prog_10_method_38_code 425 = .ok (.aload_n 0, 1) := by decide +kernel
theorem d_Model_going_426 : decode prog_10_method_38_code 426 = .ok (.invokevirtual 181, 3) := by decide +kernel
theorem d_Model_going_429 : decode prog_10_method_38_code 429 = .ok (.ifCond .le 30, 3) := by decide +kernel
theorem d_Model_going_432 : decode prog_10_method_38_code 432 = .ok (.aload_n 0, 1) := by decide +kernel
theorem d_Model_going_433 : decode prog_10_method_38_code 433 = .ok (.iload 4, 2) := by decide +kernel
theorem d_Model_going_435 : decode prog_10_method_38_code 435 = .ok (.invokevirtual 201, 3) := by decide +kernel
theorem d_Model_going_438 : decode prog_10_method_38_code 438 = .ok (.ifCond .eq 21, 3) := by decide +kernel
theorem d_Model_going_441 : decode prog_10_method_38_code 441 = .ok (.aload_n 0, 1) := by decide +kernel
theorem d_Model_going_442 : decode prog_10_method_38_code 442 = .ok (.aload_n 0, 1) := by decide +kernel
theorem d_Model_going_443 : decode prog_10_method_38_code 443 = .ok (.getfield 35, 3) := by decide +kernel
theorem d_Model_going_446 : decode prog_10_method_38_code 446 = .ok (.iload 4, 2) := by decide +kernel
theorem d_Model_going_448 : decode prog_10_method_38_code 448 = .ok (.iaload, 1) := by decide +kernel
theorem d_Model_going_449 : decode prog_10_method_38_code 449 = .ok (.invokevirtual 198, 3) := by decide +kernel
theorem d_Model_going_452 : decode prog_10_method_38_code 452 = .ok (.ifCond .eq 7, 3) := by decide +kernel
theorem d_Model_going_455 : decode prog_10_method_38_code 455 = .ok (.iconst 1, 1) := by decide +kernel
theorem d_Model_going_456 : decode prog_10_method_38_code 456 = .ok (.goto 4, 3) := by decide +kernel
theorem d_Model_going_459 : decode prog_10_method_38_code 459 = .ok (.iconst 0, 1) := by decide +kernel
theorem d_Model_going_460 : decode prog_10_method_38_code 460 = .ok (.ireturn, 1) := by decide +kernel
theorem d_Model_handler_0 : decode prog_10_method_43_code 0 = .ok (.aload_n 0, 1) := by decide +kernel
theorem d_Model_handler_1 : decode prog_10_method_43_code 1 = .ok (.getfield 59, 3) := by decide +kernel
theorem d_Model_handler_4 : decode prog_10_method_43_code 4 = .ok (.iload_n 1, 1) := by decide +kernel
theorem d_Model_handler_5 : decode prog_10_method_43_code 5 = .ok (.iaload, 1) := by decide +kernel
theorem d_Model_handler_6 : decode prog_10_method_43_code 6 = .ok (.aload_n 0, 1) := by decide +kernel
theorem d_Model_handler_7 : decode prog_10_method_43_code 7 = .ok (.getfield 38, 3) := by decide +kernel
theorem d_Model_handler_10 : decode prog_10_method_43_code 10 = .ok (.iload_n 1, 1) := by decide +kernel
theorem d_Model_handler_11 : decode prog_10_method_43_code 11 = .ok (.iaload, 1) := by decide +kernel
theorem d_Model_handler_12 : decode prog_10_method_43_code 12 = .ok (.isub, 1) := by decide +kernel
theorem d_Model_handler_13 : decode prog_10_method_43_code 13 = .ok (.istore_n 3, 1) := by decide +kernel
theorem d_Model_handler_14 : decode prog_10_method_43_code 14 = .ok (.aload_n 0, 1) := by decide +kernel
theorem d_Model_handler_15 : decode prog_10_method_43_code 15 = .ok (.getfield 41, 3) := by decide +kernel
theorem d_Model_handler_18 : decode prog_10_method_43_code 18 = .ok (.iload_n 1, 1) := by decide +kernel
theorem d_Model_handler_19 : decode prog_10_method_43_code 19 = .ok (.iaload, 1) := by decide +kernel
theorem d_Model_handler_20 : decode prog_10_method_43_code 20 = .ok (.istore 4, 2) := by decide +kernel
theorem d_Model_handler_22 : decode prog_10_method_43_code 22 = .ok (.iload 4, 2) := by decide +kernel
theorem d_Model_handler_24 : decode prog_10_method_43_code 24 = .ok (.aload_n 0, 1) := by decide +kernel
theorem d_Model_handler_25 : decode prog_10_method_43_code 25 = .ok (.getfield 38, 3) := by decide +kernel
theorem d_Model_handler_28 : decode prog_10_method_43_code 28 = .ok (.iload_n 1, 1) := by decide +kernel
theorem d_Model_handler_29 : decode prog_10_method_43_code 29 = .ok (.iaload, 1) := by decide +kernel
theorem d_Model_handler_30 : decode prog_10_method_43_code 30 = .ok (.if_icmp .ge 69, 3) := by decide +kernel
theorem d_Model_handler_33 : decode prog_10_method_43_code 33 = .ok (.iload_n 3, 1) := by decide +kernel
theorem d_Model_handler_34 : decode prog_10_method_43_code 34 = .ok (.aload_n 0, 1) := by decide +kernel
theorem d_Model_handler_35 : decode prog_10_method_43_code 35 = .ok (.getfield 7, 3) := by decide +kernel
theorem d_Model_handler_38 : decode prog_10_method_43_code 38 = .ok (.iload 4, 2) := by decide +kernel
theorem d_Model_handler_40 : decode prog_10_method_43_code 40 = .ok (.iaload, 1) := by decide +kernel
theorem d_Model_handler_41 : decode prog_10_method_43_code 41 = .ok (.if_icmp .lt 52, 3) := by decide +kernel
theorem d_Model_handler_44 : decode prog_10_method_43_code 44 = .ok (.iload_n 3, 1) := by decide +kernel
theorem d_Model_handler_45 : decode prog_10_method_43_code 45 = .ok (.aload_n 0, 1) := by decide +kernel
theorem d_Model_handler_46 : decode prog_10_method_43_code 46 = .ok (.getfield 7, 3) := by decide +kernel
theorem d_Model_handler_49 : decode prog_10_method_43_code 49 = .ok (.iload 4, 2) := by decide +kernel
theorem d_Model_handler_51 : decode prog_10_method_43_code 51 = .ok (.iconst 1, 1) := by decide +kernel
theorem d_Model_handler_52 : decode prog_10_method_43_code 52 = .ok (.iadd, 1) := by decide +kernel
theorem d_Model_handler_53 : decode prog_10_method_43_code 53 = .ok (.iaload, 1) := by decide +kernel
theorem d_Model_handler_54 : decode prog_10_method_43_code 54 = .ok (.if_icmp .gt 39, 3) := by decide +kernel
theorem d_Model_handler_57 : decode prog_10_method_43_code 57 = .ok (.aload_n 0, 1) := by decide +kernel
theorem d_Model_handler_58 : decode prog_10_method_43_code 58 = .ok (.aload_n 0, 1) := by decide +kernel
theorem d_Model_handler_59 : decode prog_10_method_43_code 59 = .ok (.getfield 7, 3) := by decide +kernel
theorem d_Model_handler_62 : decode prog_10_method_43_code 62 = .ok (.iload 4, 2) := by decide +kernel
theorem d_Model_handler_64 : decode prog_10_method_43_code 64 = .ok (.iconst 2, 1) := by decide +kernel
theorem d_Model_handler_65 : decode prog_10_method_43_code 65 = .ok (.iadd, 1) := by decide +kernel
theorem d_Model_handler_66 : decode prog_10_method_43_code 66 = .ok (.iaload, 1) := by decide +kernel
theorem d_Model_handler_67 : decode prog_10_method_43_code 67 = .ok (.invokevirtual 107, 3) := by decide +kernel
theorem d_Model_handler_70 : decode prog_10_method_43_code 70 = .ok (.ifCond .eq 23, 3) := by decide +kernel
theorem d_Model_handler_73 : decode prog_10_method_43_code 73 = .ok (.aload_n 0, 1) := by decide +kernel
theorem d_Model_handler_74 : decode prog_10_method_43_code 74 = .ok (.iload_n 2, 1) := by decide +kernel
theorem d_Model_handler_75 : decode prog_10_method_43_code 75 = .ok (.aload_n 0, 1) := by decide +kernel
theorem d_Model_handler_76 : decode prog_10_method_43_code 76 = .ok (.getfield 7, 3) := by decide +kernel
theorem d_Model_handler_79 : decode prog_10_method_43_code 79 = .ok (.iload 4, 2) := by decide +kernel
theorem d_Model_handler_81 : decode prog_10_method_43_code 81 = .ok (.iconst 2, 1) := by decide +kernel
theorem d_Model_handler_82 : decode prog_10_method_43_code 82 = .ok (.iadd, 1) := by decide +kernel
theorem d_Model_handler_83 : decode prog_10_method_43_code 83 = .ok (.iaload, 1) := by decide +kernel
theorem d_Model_handler_84 : decode prog_10_method_43_code 84 = .ok (.invokevirtual 217, 3) := by decide +kernel
theorem d_Model_handler_87 : decode prog_10_method_43_code 87 = .ok (.ifCond .eq 6, 3) := by decide +kernel
theorem d_Model_handler_90 : decode prog_10_method_43_code 90 = .ok (.iload 4, 2) := by decide +kernel
theorem d_Model_handler_92 : decode prog_10_method_43_code 92 = .ok (.ireturn, 1) := by decide +kernel
theorem d_Model_handler_93 : decode prog_10_method_43_code 93 = .ok (.iinc 4 4, 3) := by decide +kernel
theorem d_Model_handler_96 : decode prog_10_method_43_code 96 = .ok (.goto (-74), 3) := by decide +kernel
theorem d_Model_handler_99 : decode prog_10_method_43_code 99 = .ok (.iconst (-1), 1) := by decide +kernel
theorem d_Model_handler_100 : decode prog_10_method_43_code 100 = .ok (.ireturn, 1) := by decide +kernel
theorem d_Model_has_0 : decode prog_10_method_54_code 0 = .ok (.aload_n 0, 1) := by decide +kernel
theorem d_Model_has_1 : decode prog_10_method_54_code 1 = .ok (.iload_n 1, 1) := by decide +kernel
theorem d_Model_has_2 : decode prog_10_method_54_code 2 = .ok (.invokevirtual 107, 3) := by decide +kernel
theorem d_Model_has_5 : decode prog_10_method_54_code 5 = .ok (.ifCond .eq 22, 3) := by decide +kernel
theorem d_Model_has_8 : decode prog_10_method_54_code 8 = .ok (.iload_n 2, 1) := by decide +kernel
theorem d_Model_has_9 : decode prog_10_method_54_code 9 = .ok (.iconst 0, 1) := by decide +kernel
theorem d_Model_has_10 : decode prog_10_method_54_code 10 = .ok (.bipush 7, 2) := by decide +kernel
theorem d_Model_has_12 : decode prog_10_method_54_code 12 = .ok (.invokestatic 78, 3) := by decide +kernel
theorem d_Model_has_15 : decode prog_10_method_54_code 15 = .ok (.ifCond .ne 12, 3) := by decide +kernel
theorem d_Model_has_18 : decode prog_10_method_54_code 18 = .ok (.iload_n 3, 1) := by decide +kernel
theorem d_Model_has_19 : decode prog_10_method_54_code 19 = .ok (.iconst 0, 1) := by decide +kernel
theorem d_Model_has_20 : decode prog_10_method_54_code 20 = .ok (.iconst 2, 1) := by decide +kernel
theorem d_Model_has_21 : decode prog_10_method_54_code 21 = .ok (.invokestatic 78, 3) := by decide +kernel
theorem d_Model_has_24 : decode prog_10_method_54_code 24 = .ok (.ifCond .eq 9, 3) := by decide +kernel
theorem d_Model_has_27 : decode prog_10_method_54_code 27 = .ok (.aload_n 0, 1) := by decide +kernel
theorem d_Model_has_28 : decode prog_10_method_54_code 28 = .ok (.iconst 1, 1) := by decide +kernel
theorem d_Model_has_29 : decode prog_10_method_54_code 29 = .ok (.invokevirtual 238, 3) := by decide +kernel
theorem d_Model_has_32 : decode prog_10_method_54_code 32 = .ok (.ireturn, 1) := by decide +kernel
theorem d_Model_has_33 : decode prog_10_method_54_code 33 = .ok (.aload_n 0, 1) := by decide +kernel
theorem d_Model_has_34 : decode prog_10_method_54_code 34 = .ok (.iload_n 1, 1) := by decide +kernel
theorem d_Model_has_35 : decode prog_10_method_54_code 35 = .ok (.iload_n 2, 1) := by decide +kernel
theorem d_Model_has_36 : decode prog_10_method_54_code 36 = .ok (.iconst (-1), 1) := by decide +kernel
theorem d_Model_has_37 : decode prog_10_method_54_code 37 = .ok (.invokevirtual 137, 3) := by decide +kernel
theorem d_Model_has_40 : decode prog_10_method_54_code 40 = .ok (.istore 4, 2) := by decide +kernel
theorem d_Model_has_42 : decode prog_10_method_54_code 42 = .ok (.iload 4, 2) := by decide +kernel
theorem d_Model_has_44 : decode prog_10_method_54_code 44 = .ok (.iconst (-1), 1) := by decide +kernel
theorem d_Model_has_45 : decode prog_10_method_54_code 45 = .ok (.if_icmp .ne 9, 3) := by decide +kernel
theorem d_Model_has_48 : decode prog_10_method_54_code 48 = .ok (.aload_n 0, 1) := by decide +kernel
theorem d_Model_has_49 : decode prog_10_method_54_code 49 = .ok (.iconst 1, 1) := by decide +kernel
theorem d_Model_has_50 : decode prog_10_method_54_code 50 = .ok (.invokevirtual 238, 3) := by decide +kernel
theorem d_Model_has_53 : decode prog_10_method_54_code 53 = .ok (.ireturn, 1) := by decide +kernel
theorem d_Model_has_54 : decode prog_10_method_54_code 54 = .ok (.aload_n 0, 1) := by decide +kernel
theorem d_Model_has_55 : decode prog_10_method_54_code 55 = .ok (.iconst 0, 1) := by decide +kernel
theorem d_Model_has_56 : decode prog_10_method_54_code 56 = .ok (.putfield 75, 3) := by decide +kernel
theorem d_Model_has_59 : decode prog_10_method_54_code 59 = .ok (.iload_n 3, 1) := by decide +kernel
theorem d_Model_has_60 : decode prog_10_method_54_code 60 = .ok (.iconst 2, 1) := by decide +kernel
theorem d_Model_has_61 : decode prog_10_method_54_code 61 = .ok (.if_icmp .ne 8, 3) := by decide +kernel
theorem d_Model_has_64 : decode prog_10_method_54_code 64 = .ok (.iload 4, 2) := by decide +kernel
theorem d_Model_has_66 : decode prog_10_method_54_code 66 = .ok (.goto 19, 3) := by decide +kernel
theorem d_Model_has_69 : decode prog_10_method_54_code 69 = .ok (.aload_n 0, 1) := by decide +kernel
theorem d_Model_has_70 : decode prog_10_method_54_code 70 = .ok (.getfield 13, 3) := by decide +kernel
theorem d_Model_has_73 : decode prog_10_method_54_code 73 = .ok (.aload_n 0, 1) := by decide +kernel
theorem d_Model_has_74 : decode prog_10_method_54_code 74 = .ok (.iload 4, 2) := by decide +kernel
theorem d_Model_has_76 : decode prog_10_method_54_code 76 = .ok (.iload_n 2, 1) := by decide +kernel
theorem d_Model_has_77 : decode prog_10_method_54_code 77 = .ok (.invokevirtual 82, 3) := by decide +kernel
theorem d_Model_has_80 : decode prog_10_method_54_code 80 = .ok (.iconst 1, 1) := by decide +kernel
theorem d_Model_has_81 : decode prog_10_method_54_code 81 = .ok (.iadd, 1) := by decide +kernel
theorem d_Model_has_82 : decode prog_10_method_54_code 82 = .ok (.iload_n 3, 1) := by decide +kernel
theorem d_Model_has_83 : decode prog_10_method_54_code 83 = .ok (.iadd, 1) := by decide +kernel
theorem d_Model_has_84 : decode prog_10_method_54_code 84 = .ok (.iaload, 1) := by decide +kernel
theorem d_Model_has_85 : decode prog_10_method_54_code 85 = .ok (.ireturn, 1) := by decide +kernel
theorem d_Model_hasOwn_0 : decode prog_10_method_9_code 0 = .ok (.aload_n 0, 1) := by decide +kernel
theorem d_Model_hasOwn_1 : decode prog_10_method_9_code 1 = .ok (.getfield 13, 3) := by decide +kernel
theorem d_Model_hasOwn_4 : decode prog_10_method_9_code 4 = .ok (.aload_n 0, 1) := by decide +kernel
theorem d_Model_hasOwn_5 : decode prog_10_method_9_code 5 = .ok (.iload_n 1, 1) := by decide +kernel
theorem d_Model_hasOwn_6 : decode prog_10_method_9_code 6 = .ok (.iload_n 2, 1) := by decide +kernel
theorem d_Model_hasOwn_7 : decode prog_10_method_9_code 7 = .ok (.invokevirtual 82, 3) := by decide +kernel
theorem d_Model_hasOwn_10 : decode prog_10_method_9_code 10 = .ok (.iaload, 1) := by decide +kernel
theorem d_Model_hasOwn_11 : decode prog_10_method_9_code 11 = .ok (.iconst 1, 1) := by decide +kernel
theorem d_Model_hasOwn_12 : decode prog_10_method_9_code 12 = .ok (.if_icmp .ne 7, 3) := by decide +kernel
theorem d_Model_hasOwn_15 : decode prog_10_method_9_code 15 = .ok (.iconst 1, 1) := by decide +kernel
theorem d_Model_hasOwn_16 : decode prog_10_method_9_code 16 = .ok (.goto 4, 3) := by decide +kernel
theorem d_Model_hasOwn_19 : decode prog_10_method_9_code 19 = .ok (.iconst 0, 1) := by decide +kernel
theorem d_Model_hasOwn_20 : decode prog_10_method_9_code 20 = .ok (.ireturn, 1) := by decide +kernel
theorem d_Model_isFalse_0 : decode prog_10_method_31_code 0 = .ok (.aload_n 0, 1) := by decide +kernel
theorem d_Model_isFalse_1 : decode prog_10_method_31_code 1 = .ok (.getfield 32, 3) := by decide +kernel
theorem d_Model_isFalse_4 : decode prog_10_method_31_code 4 = .ok (.iload_n 1, 1) := by decide +kernel
theorem d_Model_isFalse_5 : decode prog_10_method_31_code 5 = .ok (.iaload, 1) := by decide +kernel
theorem d_Model_isFalse_6 : decode prog_10_method_31_code 6 = .ok (.ifCond .eq 22, 3) := by decide +kernel
theorem d_Model_isFalse_9 : decode prog_10_method_31_code 9 = .ok (.aload_n 0, 1) := by decide +kernel
theorem d_Model_isFalse_10 : decode prog_10_method_31_code 10 = .ok (.getfield 32, 3) := by decide +kernel
theorem d_Model_isFalse_13 : decode prog_10_method_31_code 13 = .ok (.iload_n 1, 1) := by decide +kernel
theorem d_Model_isFalse_14 : decode prog_10_method_31_code 14 = .ok (.iaload, 1) := by decide +kernel
theorem d_Model_isFalse_15 : decode prog_10_method_31_code 15 = .ok (.iconst 2, 1) := by decide +kernel
theorem d_Model_isFalse_16 : decode prog_10_method_31_code 16 = .ok (.if_icmp .ne 16, 3) := by decide +kernel
theorem d_Model_isFalse_19 : decode prog_10_method_31_code 19 = .ok (.aload_n 0, 1) := by decide +kernel
theorem d_Model_isFalse_20 : decode prog_10_method_31_code 20 = .ok (.getfield 35, 3) := by decide +kernel
theorem d_Model_isFalse_23 : decode prog_10_method_31_code 23 = .ok (.iload_n 1, 1) := by decide +kernel
theorem d_Model_isFalse_24 : decode prog_10_method_31_code 24 = .ok (.iaload, 1) := by decide +kernel
theorem d_Model_isFalse_25 : decode prog_10_method_31_code 25 = .ok (.ifCond .ne 7, 3) := by decide +kernel
theorem d_Model_isFalse_28 : decode prog_10_method_31_code 28 = .ok (.iconst 1, 1) := by decide +kernel
theorem d_Model_isFalse_29 : decode prog_10_method_31_code 29 = .ok (.goto 4, 3) := by decide +kernel
theorem d_Model_isFalse_32 : decode prog_10_method_31_code 32 = .ok (.iconst 0, 1) := by decide +kernel
theorem d_Model_isFalse_33 : decode prog_10_method_31_code 33 = .ok (.ireturn, 1) := by decide +kernel
theorem d_Model_isObject_0 : decode prog_10_method_32_code 0 = .ok (.aload_n 0, 1) := by decide +kernel
theorem d_Model_isObject_1 : decode prog_10_method_32_code 1 = .ok (.getfield 32, 3) := by decide +kernel
theorem d_Model_isObject_4 : decode prog_10_method_32_code 4 = .ok (.iload_n 1, 1) := by decide +kernel
theorem d_Model_isObject_5 : decode prog_10_method_32_code 5 = .ok (.iaload, 1) := by decide +kernel
theorem d_Model_isObject_6 : decode prog_10_method_32_code 6 = .ok (.iconst 3, 1) := by decide +kernel
theorem d_Model_isObject_7 : decode prog_10_method_32_code 7 = .ok (.if_icmp .ne 20, 3) := by decide +kernel
theorem d_Model_isObject_10 : decode prog_10_method_32_code 10 = .ok (.aload_n 0, 1) := by decide +kernel
theorem d_Model_isObject_11 : decode prog_10_method_32_code 11 = .ok (.aload_n 0, 1) := by decide +kernel
theorem d_Model_isObject_12 : decode prog_10_method_32_code 12 = .ok (.getfield 35, 3) := by decide +kernel
theorem d_Model_isObject_15 : decode prog_10_method_32_code 15 = .ok (.iload_n 1, 1) := by decide +kernel
theorem d_Model_isObject_16 : decode prog_10_method_32_code 16 = .ok (.iaload, 1) := by decide +kernel
theorem d_Model_isObject_17 : decode prog_10_method_32_code 17 = .ok (.invokevirtual 107, 3) := by decide +kernel
theorem d_Model_isObject_20 : decode prog_10_method_32_code 20 = .ok (.ifCond .eq 7, 3) := by decide +kernel
theorem d_Model_isObject_23 : decode prog_10_method_32_code 23 = .ok (.iconst 1, 1) := by decide +kernel
theorem d_Model_isObject_24 : decode prog_10_method_32_code 24 = .ok (.goto 4, 3) := by decide +kernel
theorem d_Model_isObject_27 : decode prog_10_method_32_code 27 = .ok (.iconst 0, 1) := by decide +kernel
theorem d_Model_isObject_28 : decode prog_10_method_32_code 28 = .ok (.ireturn, 1) := by decide +kernel
theorem d_Model_isOf_0 : decode prog_10_method_55_code 0 = .ok (.aload_n 0, 1) := by decide +kernel
theorem d_Model_isOf_1 : decode prog_10_method_55_code 1 = .ok (.iconst 0, 1) := by decide +kernel
theorem d_Model_isOf_2 : decode prog_10_method_55_code 2 = .ok (.putfield 75, 3) := by decide +kernel
theorem d_Model_isOf_5 : decode prog_10_method_55_code 5 = .ok (.aload_n 0, 1) := by decide +kernel
theorem d_Model_isOf_6 : decode prog_10_method_55_code 6 = .ok (.iload_n 1, 1) := by decide +kernel
theorem d_Model_isOf_7 : decode prog_10_method_55_code 7 = .ok (.invokevirtual 107, 3) := by decide +kernel
theorem d_Model_isOf_10 : decode prog_10_method_55_code 10 = .ok (.ifCond .eq 24, 3) := by decide +kernel
theorem d_Model_isOf_13 : decode prog_10_method_55_code 13 = .ok (.aload_n 0, 1) := by decide +kernel
theorem d_Model_isOf_14 : decode prog_10_method_55_code 14 = .ok (.iload_n 2, 1) := by decide +kernel
theorem d_Model_isOf_15 : decode prog_10_method_55_code 15 = .ok (.invokevirtual 107, 3) := by decide +kernel
theorem d_Model_isOf_18 : decode prog_10_method_55_code 18 = .ok (.ifCond .eq 16, 3) := by decide +kernel
theorem d_Model_isOf_21 : decode prog_10_method_55_code 21 = .ok (.aload_n 0, 1) := by decide +kernel
theorem d_Model_isOf_22 : decode prog_10_method_55_code 22 = .ok (.iload_n 1, 1) := by decide +kernel
theorem d_Model_isOf_23 : decode prog_10_method_55_code 23 = .ok (.iload_n 2, 1) := by decide +kernel
theorem d_Model_isOf_24 : decode prog_10_method_55_code 24 = .ok (.invokevirtual 217, 3) := by decide +kernel
theorem d_Model_isOf_27 : decode prog_10_method_55_code 27 = .ok (.ifCond .eq 7, 3) := by decide +kernel
theorem d_Model_isOf_30 : decode prog_10_method_55_code 30 = .ok (.iconst 1, 1) := by decide +kernel
theorem d_Model_isOf_31 : decode prog_10_method_55_code 31 = .ok (.goto 4, 3) := by decide +kernel
theorem d_Model_isOf_34 : decode prog_10_method_55_code 34 = .ok (.iconst 0, 1) := by decide +kernel
theorem d_Model_isOf_35 : decode prog_10_method_55_code 35 = .ok (.ireturn, 1) := by decide +kernel
theorem d_Model_isParent_0 : decode prog_10_method_17_code 0 = .ok (.iload_n 1, 1) := by decide +kernel
theorem d_Model_isParent_1 : decode prog_10_method_17_code 1 = .ok (.iconst (-1), 1) := by decide +kernel
theorem d_Model_isParent_2 : decode prog_10_method_17_code 2 = .ok (.if_icmp .eq 21, 3) := by decide +kernel
theorem d_Model_isParent_5 : decode prog_10_method_17_code 5 = .ok (.iload_n 1, 1) := by decide +kernel
theorem d_Model_isParent_6 : decode prog_10_method_17_code 6 = .ok (.iconst 0, 1) := by decide +kernel
theorem d_Model_isParent_7 : decode prog_10_method_17_code 7 = .ok (.bipush 15, 2) := by decide +kernel
theorem d_Model_isParent_9 : decode prog_10_method_17_code 9 = .ok (.invokestatic 78, 3) := by decide +kernel
theorem d_Model_isParent_12 : decode prog_10_method_17_code 12 = .ok (.ifCond .ne 15, 3) := by decide +kernel
theorem d_Model_isParent_15 : decode prog_10_method_17_code 15 = .ok (.aload_n 0, 1) := by decide +kernel
theorem d_Model_isParent_16 : decode prog_10_method_17_code 16 = .ok (.iload_n 1, 1) := by decide +kernel
theorem d_Model_isParent_17 : decode prog_10_method_17_code 17 = .ok (.invokevirtual 107, 3) := by decide +kernel
theorem d_Model_isParent_20 : decode prog_10_method_17_code 20 = .ok (.ifCond .eq 7, 3) := by decide +kernel
theorem d_Model_isParent_23 : decode prog_10_method_17_code 23 = .ok (.iconst 1, 1) := by decide +kernel
theorem d_Model_isParent_24 : decode prog_10_method_17_code 24 = .ok (.goto 4, 3) := by decide +kernel
theorem d_Model_isParent_27 : decode prog_10_method_17_code 27 = .ok (.iconst 0, 1) := by decide +kernel
theorem d_Model_isParent_28 : decode prog_10_method_17_code 28 = .ok (.ireturn, 1) := by decide +kernel
theorem d_Model_isThere_0 : decode prog_10_method_5_code 0 = .ok (.iload_n 1, 1) := by decide +kernel
theorem d_Model_isThere_1 : decode prog_10_method_5_code 1 = .ok (.iconst 0, 1) := by decide +kernel
theorem d_Model_isThere_2 : decode prog_10_method_5_code 2 = .ok (.bipush 31, 2) := by decide +kernel
theorem d_Model_isThere_4 : decode prog_10_method_5_code 4 = .ok (.invokestatic 78, 3) := by decide +kernel
theorem d_Model_isThere_7 : decode prog_10_method_5_code 7 = .ok (.ifCond .ne 20, 3) := by decide +kernel
theorem d_Model_isThere_10 : decode prog_10_method_5_code 10 = .ok (.aload_n 0, 1) := by decide +kernel
theorem d_Model_isThere_11 : decode prog_10_method_5_code 11 = .ok (.getfield 13, 3) := by decide +kernel
theorem d_Model_isThere_14 : decode prog_10_method_5_code 14 = .ok (.bipush 29, 2) := by decide +kernel
theorem d_Model_isThere_16 : decode prog_10_method_5_code 16 = .ok (.iload_n 1, 1) := by decide +kernel
theorem d_Model_isThere_17 : decode prog_10_method_5_code 17 = .ok (.imul, 1) := by decide +kernel
theorem d_Model_isThere_18 : decode prog_10_method_5_code 18 = .ok (.iaload, 1) := by decide +kernel
theorem d_Model_isThere_19 : decode prog_10_method_5_code 19 = .ok (.iconst 1, 1) := by decide +kernel
theorem d_Model_isThere_20 : decode prog_10_method_5_code 20 = .ok (.if_icmp .ne 7, 3) := by decide +kernel
theorem d_Model_isThere_23 : decode prog_10_method_5_code 23 = .ok (.iconst 1, 1) := by decide +kernel
theorem d_Model_isThere_24 : decode prog_10_method_5_code 24 = .ok (.goto 4, 3) := by decide +kernel
theorem d_Model_isThere_27 : decode prog_10_method_5_code 27 = .ok (.iconst 0, 1) := by decide +kernel
theorem d_Model_isThere_28 : decode prog_10_method_5_code 28 = .ok (.ireturn, 1) := by decide +kernel
theorem d_Model_lengthOf_0 : decode prog_10_method_33_code 0 = .ok (.iload_n 0, 1) := by decide +kernel
theorem d_Model_lengthOf_1 : decode prog_10_method_33_code 1 = .ok (.iconst 2, 1) := by decide +kernel
theorem d_Model_lengthOf_2 : decode prog_10_method_33_code 2 = .ok (.if_icmp .ne 5, 3) := by decide +kernel
theorem d_Model_lengthOf_5 : decode prog_10_method_33_code 5 = .ok (.iconst 5, 1) := by decide +kernel
theorem d_Model_lengthOf_6 : decode prog_10_method_33_code 6 = .ok (.ireturn, 1) := by decide +kernel
theorem d_Model_lengthOf_7 : decode prog_10_method_33_code 7 = .ok (.iload_n 0, 1) := by decide +kernel
theorem d_Model_lengthOf_8 : decode prog_10_method_33_code 8 = .ok (.bipush 24, 2) := by decide +kernel
theorem d_Model_lengthOf_10 : decode prog_10_method_33_code 10 = .ok (.if_icmp .ne 5, 3) := by decide +kernel
theorem d_Model_lengthOf_13 : decode prog_10_method_33_code 13 = .ok (.iconst 4, 1) := by decide +kernel
theorem d_Model_lengthOf_14 : decode prog_10_method_33_code 14 = .ok (.ireturn, 1) := by decide +kernel
theorem d_Model_lengthOf_15 : decode prog_10_method_33_code 15 = .ok (.iload_n 0, 1) := by decide +kernel
theorem d_Model_lengthOf_16 : decode prog_10_method_33_code 16 = .ok (.bipush 6, 2) := by decide +kernel
theorem d_Model_lengthOf_18 : decode prog_10_method_33_code 18 = .ok (.if_icmp .eq 15, 3) := by decide +kernel
theorem d_Model_lengthOf_21 : decode prog_10_method_33_code 21 = .ok (.iload_n 0, 1) := by decide +kernel
theorem d_Model_lengthOf_22 : decode prog_10_method_33_code 22 = .ok (.bipush 21, 2) := by decide +kernel
theorem d_Model_lengthOf_24 : decode prog_10_method_33_code 24 = .ok (.if_icmp .eq 9, 3) := by decide +kernel
theorem d_Model_lengthOf_27 : decode prog_10_method_33_code 27 = .ok (.iload_n 0, 1) := by decide +kernel
theorem d_Model_lengthOf_28 : decode prog_10_method_33_code 28 = .ok (.bipush 23, 2) := by decide +kernel
theorem d_Model_lengthOf_30 : decode prog_10_method_33_code 30 = .ok (.if_icmp .ne 5, 3) := by decide +kernel
theorem d_Model_lengthOf_33 : decode prog_10_method_33_code 33 = .ok (.iconst 3, 1) := by decide +kernel
theorem d_Model_lengthOf_34 : decode prog_10_method_33_code 34 = .ok (.ireturn, 1) := by decide +kernel
theorem d_Model_lengthOf_35 : decode prog_10_method_33_code 35 = .ok (.iload_n 0, 1) := by decide +kernel
theorem d_Model_lengthOf_36 : decode prog_10_method_33_code 36 = .ok (.iconst 1, 1) := by decide +kernel
theorem d_Model_lengthOf_37 : decode prog_10_method_33_code 37 = .ok (.if_icmp .eq 62, 3) := by decide +kernel
theorem d_Model_lengthOf_40 : decode prog_10_method_33_code 40 = .ok (.iload_n 0, 1) := by decide +kernel
theorem d_Model_lengthOf_41 : decode prog_10_method_33_code 41 = .ok (.iconst 5, 1) := by decide +kernel
theorem d_Model_lengthOf_42 : decode prog_10_method_33_code 42 = .ok (.if_icmp .eq 57, 3) := by decide +kernel
theorem d_Model_lengthOf_45 : decode prog_10_method_33_code 45 = .ok (.iload_n 0, 1) := by decide +kernel
theorem d_Model_lengthOf_46 : decode prog_10_method_33_code 46 = .ok (.bipush 7, 2) := by decide +kernel
theorem d_Model_lengthOf_48 : decode prog_10_method_33_code 48 = .ok (.if_icmp .eq 51, 3) := by decide +kernel
theorem d_Model_lengthOf_51 : decode prog_10_method_33_code 51 = .ok (.iload_n 0, 1) := by decide +kernel
theorem d_Model_lengthOf_52 : decode prog_10_method_33_code 52 = .ok (.bipush 8, 2) := by decide +kernel
theorem d_Model_lengthOf_54 : decode prog_10_method_33_code 54 = .ok (.if_icmp .eq 45, 3) := by decide +kernel
theorem d_Model_lengthOf_57 : decode prog_10_method_33_code 57 = .ok (.iload_n 0, 1) := by decide +kernel
theorem d_Model_lengthOf_58 : decode prog_10_method_33_code 58 = .ok (.bipush 19, 2) := by decide +kernel
theorem d_Model_lengthOf_60 : decode prog_10_method_33_code 60 = .ok (.if_icmp .eq 39, 3) := by decide +kernel
theorem d_Model_lengthOf_63 : decode prog_10_method_33_code 63 = .ok (.iload_n 0, 1) := by decide +kernel
theorem d_Model_lengthOf_64 : decode prog_10_method_33_code 64 = .ok (.bipush 20, 2) := by decide +kernel
theorem d_Model_lengthOf_66 : decode prog_10_method_33_code 66 = .ok (.if_icmp .eq 33, 3) := by decide +kernel
theorem d_Model_lengthOf_69 : decode prog_10_method_33_code 69 = .ok (.iload_n 0, 1) := by decide +kernel
theorem d_Model_lengthOf_70 : decode prog_10_method_33_code 70 = .ok (.bipush 22, 2) := by decide +kernel
theorem d_Model_lengthOf_72 : decode prog_10_method_33_code 72 = .ok (.if_icmp .eq 27, 3) := by decide +kernel
theorem d_Model_lengthOf_75 : decode prog_10_method_33_code 75 = .ok (.iload_n 0, 1) := by decide +kernel
theorem d_Model_lengthOf_76 : decode prog_10_method_33_code 76 = .ok (.bipush 28, 2) := by decide +kernel
theorem d_Model_lengthOf_78 : decode prog_10_method_33_code 78 = .ok (.if_icmp .eq 21, 3) := by decide +kernel
theorem d_Model_lengthOf_81 : decode prog_10_method_33_code 81 = .ok (.iload_n 0, 1) := by decide +kernel
theorem d_Model_lengthOf_82 : decode prog_10_method_33_code 82 = .ok (.bipush 29, 2) := by decide +kernel
theorem d_Model_lengthOf_84 : decode prog_10_method_33_code 84 = .ok (.if_icmp .eq 15, 3) := by decide +kernel
theorem d_Model_lengthOf_87 : decode prog_10_method_33_code 87 = .ok (.iload_n 0, 1) := by decide +kernel
theorem d_Model_lengthOf_88 : decode prog_10_method_33_code 88 = .ok (.bipush 33, 2) := by decide +kernel
theorem d_Model_lengthOf_90 : decode prog_10_method_33_code 90 = .ok (.if_icmp .eq 9, 3) := by decide +kernel
theorem d_Model_lengthOf_93 : decode prog_10_method_33_code 93 = .ok (.iload_n 0, 1) := by decide +kernel
theorem d_Model_lengthOf_94 : decode prog_10_method_33_code 94 = .ok (.bipush 34, 2) := by decide +kernel
theorem d_Model_lengthOf_96 : decode prog_10_method_33_code 96 = .ok (.if_icmp .ne 7, 3) := by decide +kernel
theorem d_Model_lengthOf_99 : decode prog_10_method_33_code 99 = .ok (.iconst 1, 1) := by decide +kernel
theorem d_Model_lengthOf_100 : decode prog_10_method_33_code 100 = .ok (.goto 4, 3) := by decide +kernel
theorem d_Model_lengthOf_103 : decode prog_10_method_33_code 103 = .ok (.iconst 0, 1) := by decide +kernel
theorem d_Model_lengthOf_104 : decode prog_10_method_33_code 104 = .ok (.istore_n 1, 1) := by decide +kernel
theorem d_Model_lengthOf_105 : decode prog_10_method_33_code 105 = .ok (.iload_n 1, 1) := by decide +kernel
theorem d_Model_lengthOf_106 : decode prog_10_method_33_code 106 = .ok (.ifCond .eq 7, 3) := by decide +kernel
theorem d_Model_lengthOf_109 : decode prog_10_method_33_code 109 = .ok (.iconst 2, 1) := by decide +kernel
theorem d_Model_lengthOf_110 : decode prog_10_method_33_code 110 = .ok (.goto 4, 3) := by decide +kernel
theorem d_Model_lengthOf_113 : decode prog_10_method_33_code 113 = .ok (.iconst 1, 1) := by decide +kernel
theorem d_Model_lengthOf_114 : decode prog_10_method_33_code 114 = .ok (.ireturn, 1) := by decide +kernel
theorem d_Model_make_0 : decode prog_10_method_46_code 0 = .ok (.bipush 16, 2) := by decide +kernel
theorem d_Model_make_2 : decode prog_10_method_46_code 2 = .ok (.istore_n 2, 1) := by decide +kernel
theorem d_Model_make_3 : decode prog_10_method_46_code 3 = .ok (.iload_n 2, 1) := by decide +kernel
theorem d_Model_make_4 : decode prog_10_method_46_code 4 = .ok (.bipush 32, 2) := by decide +kernel
theorem d_Model_make_6 : decode prog_10_method_46_code 6 = .ok (.if_icmp .ge 17, 3) := by decide +kernel
theorem d_Model_make_9 : decode prog_10_method_46_code 9 = .ok (.aload_n 0, 1) := by decide +kernel
theorem d_Model_make_10 : decode prog_10_method_46_code 10 = .ok (.iload_n 2, 1) := by decide +kernel
theorem d_Model_make_11 : decode prog_10_method_46_code 11 = .ok (.invokevirtual 107, 3) := by decide +kernel
theorem d_Model_make_14 : decode prog_10_method_46_code 14 = .ok (.ifCond .eq 9, 3) := by decide +kernel
theorem d_Model_make_17 : decode prog_10_method_46_code 17 = .ok (.iinc 2 1, 3) := by decide +kernel
theorem d_Model_make_20 : decode prog_10_method_46_code 20 = .ok (.goto (-17), 3) := by decide +kernel
theorem d_Model_make_23 : decode prog_10_method_46_code 23 = .ok (.iload_n 2, 1) := by decide +kernel
theorem d_Model_make_24 : decode prog_10_method_46_code 24 = .ok (.bipush 32, 2) := by decide +kernel
theorem d_Model_make_26 : decode prog_10_method_46_code 26 = .ok (.if_icmp .ne 5, 3) := by decide +kernel
theorem d_Model_make_29 : decode prog_10_method_46_code 29 = .ok (.iconst 0, 1) := by decide +kernel
theorem d_Model_make_30 : decode prog_10_method_46_code 30 = .ok (.ireturn, 1) := by decide +kernel
theorem d_Model_make_31 : decode prog_10_method_46_code 31 = .ok (.aload_n 0, 1) := by decide +kernel
theorem d_Model_make_32 : decode prog_10_method_46_code 32 = .ok (.iload_n 2, 1) := by decide +kernel
theorem d_Model_make_33 : decode prog_10_method_46_code 33 = .ok (.invokevirtual 117, 3) := by decide +kernel
theorem d_Model_make_36 : decode prog_10_method_46_code 36 = .ok (.aload_n 0, 1) := by decide +kernel
theorem d_Model_make_37 : decode prog_10_method_46_code 37 = .ok (.getfield 13, 3) := by decide +kernel
theorem d_Model_make_40 : decode prog_10_method_46_code 40 = .ok (.bipush 29, 2) := by decide +kernel
theorem d_Model_make_42 : decode prog_10_method_46_code 42 = .ok (.iload_n 2, 1) := by decide +kernel
theorem d_Model_make_43 : decode prog_10_method_46_code 43 = .ok (.imul, 1) := by decide +kernel
theorem d_Model_make_44 : decode prog_10_method_46_code 44 = .ok (.iconst 1, 1) := by decide +kernel
theorem d_Model_make_45 : decode prog_10_method_46_code 45 = .ok (.iadd, 1) := by decide +kernel
theorem d_Model_make_46 : decode prog_10_method_46_code 46 = .ok (.iconst 1, 1) := by decide +kernel
theorem d_Model_make_47 : decode prog_10_method_46_code 47 = .ok (.iastore, 1) := by decide +kernel
theorem d_Model_make_48 : decode prog_10_method_46_code 48 = .ok (.aload_n 0, 1) := by decide +kernel
theorem d_Model_make_49 : decode prog_10_method_46_code 49 = .ok (.getfield 13, 3) := by decide +kernel
theorem d_Model_make_52 : decode prog_10_method_46_code 52 = .ok (.bipush 29, 2) := by decide +kernel
theorem d_Model_make_54 : decode prog_10_method_46_code 54 = .ok (.iload_n 2, 1) := by decide +kernel
theorem d_Model_make_55 : decode prog_10_method_46_code 55 = .ok (.imul, 1) := by decide +kernel
theorem d_Model_make_56 : decode prog_10_method_46_code 56 = .ok (.iconst 2, 1) := by decide +kernel
theorem d_Model_make_57 : decode prog_10_method_46_code 57 = .ok (.iadd, 1) := by decide +kernel
theorem d_Model_make_58 : decode prog_10_method_46_code 58 = .ok (.iload_n 1, 1) := by decide +kernel
theorem d_Model_make_59 : decode prog_10_method_46_code 59 = .ok (.iastore, 1) := by decide +kernel
theorem d_Model_make_60 : decode prog_10_method_46_code 60 = .ok (.aload_n 0, 1) := by decide +kernel
theorem d_Model_make_61 : decode prog_10_method_46_code 61 = .ok (.iconst 3, 1) := by decide +kernel
theorem d_Model_make_62 : decode prog_10_method_46_code 62 = .ok (.iload_n 2, 1) := by decide +kernel
theorem d_Model_make_63 : decode prog_10_method_46_code 63 = .ok (.invokevirtual 133, 3) := by decide +kernel
theorem d_Model_make_66 : decode prog_10_method_46_code 66 = .ok (.iconst 1, 1) := by decide +kernel
theorem d_Model_make_67 : decode prog_10_method_46_code 67 = .ok (.ireturn, 1) := by decide +kernel
theorem d_Model_mark_0 : decode prog_10_method_48_code 0 = .ok (.iload_n 2, 1) := by decide +kernel
