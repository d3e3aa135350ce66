theorem d_World_reach_46 : decode prog_8_method_19_code 46 = .ok (.iconst 1, 1) := by decide +kernel
theorem d_World_reach_47 : decode prog_8_method_19_code 47 = .ok (.iadd, 1) := by decide +kernel
theorem d_World_reach_48 : decode prog_8_method_19_code 48 = .ok (.putfield 85, 3) := by decide +kernel
theorem d_World_reach_51 : decode prog_8_method_19_code 51 = .ok (.return_, 1) := by decide +kernel
theorem d_World_reachFrom_0 : decode prog_8_method_22_code 0 = .ok (.iload_n 1, 1) := by decide +kernel
theorem d_World_reachFrom_1 : decode prog_8_method_22_code 1 = .ok (.bipush 16, 2) := by decide +kernel
theorem d_World_reachFrom_3 : decode prog_8_method_22_code 3 = .ok (.if_icmp .lt 19, 3) := by decide +kernel
theorem d_World_reachFrom_6 : decode prog_8_method_22_code 6 = .ok (.aload_n 0, 1) := by decide +kernel
theorem d_World_reachFrom_7 : decode prog_8_method_22_code 7 = .ok (.aload_n 0, 1) := by decide +kernel
theorem d_World_reachFrom_8 : decode prog_8_method_22_code 8 = .ok (.getfield 12, 3) := by decide +kernel
theorem d_World_reachFrom_11 : decode prog_8_method_22_code 11 = .ok (.getfield 39, 3) := by decide +kernel
theorem d_World_reachFrom_14 : decode prog_8_method_22_code 14 = .ok (.iload_n 1, 1) := by decide +kernel
theorem d_World_reachFrom_15 : decode prog_8_method_22_code 15 = .ok (.bipush 16, 2) := by decide +kernel
theorem d_World_reachFrom_17 : decode prog_8_method_22_code 17 = .ok (.isub, 1) := by decide +kernel
theorem d_World_reachFrom_18 : decode prog_8_method_22_code 18 = .ok (.iaload, 1) := by decide +kernel
theorem d_World_reachFrom_19 : decode prog_8_method_22_code 19 = .ok (.invokevirtual 91, 3) := by decide +kernel
theorem d_World_reachFrom_22 : decode prog_8_method_22_code 22 = .ok (.iconst 0, 1) := by decide +kernel
theorem d_World_reachFrom_23 : decode prog_8_method_22_code 23 = .ok (.istore_n 2, 1) := by decide +kernel
theorem d_World_reachFrom_24 : decode prog_8_method_22_code 24 = .ok (.iload_n 2, 1) := by decide +kernel
theorem d_World_reachFrom_25 : decode prog_8_method_22_code 25 = .ok (.bipush 8, 2) := by decide +kernel
theorem d_World_reachFrom_27 : decode prog_8_method_22_code 27 = .ok (.if_icmp .ge 25, 3) := by decide +kernel
theorem d_World_reachFrom_30 : decode prog_8_method_22_code 30 = .ok (.aload_n 0, 1) := by decide +kernel
theorem d_World_reachFrom_31 : decode prog_8_method_22_code 31 = .ok (.aload_n 0, 1) := by decide +kernel
theorem d_World_reachFrom_32 : decode prog_8_method_22_code 32 = .ok (.iload_n 1, 1) := by decide +kernel
theorem d_World_reachFrom_33 : decode prog_8_method_22_code 33 = .ok (.iload_n 2, 1) := by decide +kernel
theorem d_World_reachFrom_34 : decode prog_8_method_22_code 34 = .ok (.invokevirtual 69, 3) := by decide +kernel
theorem d_World_reachFrom_37 : decode prog_8_method_22_code 37 = .ok (.aload_n 0, 1) := by decide +kernel
theorem d_World_reachFrom_38 : decode prog_8_method_22_code 38 = .ok (.iload_n 1, 1) := by decide +kernel
theorem d_World_reachFrom_39 : decode prog_8_method_22_code 39 = .ok (.iload_n 2, 1) := by decide +kernel
theorem d_World_reachFrom_40 : decode prog_8_method_22_code 40 = .ok (.invokevirtual 97, 3) := by decide +kernel
theorem d_World_reachFrom_43 : decode prog_8_method_22_code 43 = .ok (.invokevirtual 100, 3) := by decide +kernel
theorem d_World_reachFrom_46 : decode prog_8_method_22_code 46 = .ok (.iinc 2 1, 3) := by decide +kernel
theorem d_World_reachFrom_49 : decode prog_8_method_22_code 49 = .ok (.goto (-25), 3) := by decide +kernel
theorem d_World_reachFrom_52 : decode prog_8_method_22_code 52 = .ok (.return_, 1) := by decide +kernel
theorem d_World_reachValue_0 : decode prog_8_method_20_code 0 = .ok (.iload_n 1, 1) := by decide +kernel
theorem d_World_reachValue_1 : decode prog_8_method_20_code 1 = .ok (.iconst 3, 1) := by decide +kernel
theorem d_World_reachValue_2 : decode prog_8_method_20_code 2 = .ok (.if_icmp .ne 8, 3) := by decide +kernel
theorem d_World_reachValue_5 : decode prog_8_method_20_code 5 = .ok (.aload_n 0, 1) := by decide +kernel
theorem d_World_reachValue_6 : decode prog_8_method_20_code 6 = .ok (.iload_n 2, 1) := by decide +kernel
theorem d_World_reachValue_7 : decode prog_8_method_20_code 7 = .ok (.invokevirtual 91, 3) := by decide +kernel
theorem d_World_reachValue_10 : decode prog_8_method_20_code 10 = .ok (.return_, 1) := by decide +kernel
theorem d_World_setOwn_0 : decode prog_8_method_7_code 0 = .ok (.aload_n 0, 1) := by decide +kernel
theorem d_World_setOwn_1 : decode prog_8_method_7_code 1 = .ok (.getfield 12, 3) := by decide +kernel
theorem d_World_setOwn_4 : decode prog_8_method_7_code 4 = .ok (.getfield 42, 3) := by decide +kernel
theorem d_World_setOwn_7 : decode prog_8_method_7_code 7 = .ok (.iload_n 1, 1) := by decide +kernel
theorem d_World_setOwn_8 : decode prog_8_method_7_code 8 = .ok (.bipush 8, 2) := by decide +kernel
theorem d_World_setOwn_10 : decode prog_8_method_7_code 10 = .ok (.imul, 1) := by decide +kernel
theorem d_World_setOwn_11 : decode prog_8_method_7_code 11 = .ok (.iload_n 2, 1) := by decide +kernel
theorem d_World_setOwn_12 : decode prog_8_method_7_code 12 = .ok (.iadd, 1) := by decide +kernel
theorem d_World_setOwn_13 : decode prog_8_method_7_code 13 = .ok (.iload_n 3, 1) := by decide +kernel
theorem d_World_setOwn_14 : decode prog_8_method_7_code 14 = .ok (.iastore, 1) := by decide +kernel
theorem d_World_setOwn_15 : decode prog_8_method_7_code 15 = .ok (.aload_n 0, 1) := by decide +kernel
theorem d_World_setOwn_16 : decode prog_8_method_7_code 16 = .ok (.getfield 12, 3) := by decide +kernel
theorem d_World_setOwn_19 : decode prog_8_method_7_code 19 = .ok (.getfield 45, 3) := by decide +kernel
theorem d_World_setOwn_22 : decode prog_8_method_7_code 22 = .ok (.iload_n 1, 1) := by decide +kernel
theorem d_World_setOwn_23 : decode prog_8_method_7_code 23 = .ok (.bipush 8, 2) := by decide +kernel
theorem d_World_setOwn_25 : decode prog_8_method_7_code 25 = .ok (.imul, 1) := by decide +kernel
theorem d_World_setOwn_26 : decode prog_8_method_7_code 26 = .ok (.iload_n 2, 1) := by decide +kernel
theorem d_World_setOwn_27 : decode prog_8_method_7_code 27 = .ok (.iadd, 1) := by decide +kernel
theorem d_World_setOwn_28 : decode prog_8_method_7_code 28 = .ok (.iload 4, 2) := by decide +kernel
theorem d_World_setOwn_30 : decode prog_8_method_7_code 30 = .ok (.iastore, 1) := by decide +kernel
theorem d_World_setOwn_31 : decode prog_8_method_7_code 31 = .ok (.return_, 1) := by decide +kernel
theorem d_World_sweep_0 : decode prog_8_method_21_code 0 = .ok (.iconst 0, 1) := by decide +kernel
theorem d_World_sweep_1 : decode prog_8_method_21_code 1 = .ok (.istore_n 1, 1) := by decide +kernel
theorem d_World_sweep_2 : decode prog_8_method_21_code 2 = .ok (.iload_n 1, 1) := by decide +kernel
theorem d_World_sweep_3 : decode prog_8_method_21_code 3 = .ok (.aload_n 0, 1) := by decide +kernel
theorem d_World_sweep_4 : decode prog_8_method_21_code 4 = .ok (.getfield 31, 3) := by decide +kernel
theorem d_World_sweep_7 : decode prog_8_method_21_code 7 = .ok (.if_icmp .ge 14, 3) := by decide +kernel
theorem d_World_sweep_10 : decode prog_8_method_21_code 10 = .ok (.aload_n 0, 1) := by decide +kernel
theorem d_World_sweep_11 : decode prog_8_method_21_code 11 = .ok (.iload_n 1, 1) := by decide +kernel
theorem d_World_sweep_12 : decode prog_8_method_21_code 12 = .ok (.invokevirtual 91, 3) := by decide +kernel
theorem d_World_sweep_15 : decode prog_8_method_21_code 15 = .ok (.iinc 1 1, 3) := by decide +kernel
theorem d_World_sweep_18 : decode prog_8_method_21_code 18 = .ok (.goto (-16), 3) := by decide +kernel
theorem d_World_sweep_21 : decode prog_8_method_21_code 21 = .ok (.iconst 0, 1) := by decide +kernel
theorem d_World_sweep_22 : decode prog_8_method_21_code 22 = .ok (.istore_n 1, 1) := by decide +kernel
theorem d_World_sweep_23 : decode prog_8_method_21_code 23 = .ok (.iload_n 1, 1) := by decide +kernel
theorem d_World_sweep_24 : decode prog_8_method_21_code 24 = .ok (.aload_n 0, 1) := by decide +kernel
theorem d_World_sweep_25 : decode prog_8_method_21_code 25 = .ok (.getfield 85, 3) := by decide +kernel
theorem d_World_sweep_28 : decode prog_8_method_21_code 28 = .ok (.if_icmp .ge 25, 3) := by decide +kernel
theorem d_World_sweep_31 : decode prog_8_method_21_code 31 = .ok (.iload_n 1, 1) := by decide +kernel
theorem d_World_sweep_32 : decode prog_8_method_21_code 32 = .ok (.bipush 32, 2) := by decide +kernel
theorem d_World_sweep_34 : decode prog_8_method_21_code 34 = .ok (.if_icmp .ge 19, 3) := by decide +kernel
theorem d_World_sweep_37 : decode prog_8_method_21_code 37 = .ok (.aload_n 0, 1) := by decide +kernel
theorem d_World_sweep_38 : decode prog_8_method_21_code 38 = .ok (.aload_n 0, 1) := by decide +kernel
theorem d_World_sweep_39 : decode prog_8_method_21_code 39 = .ok (.getfield 28, 3) := by decide +kernel
theorem d_World_sweep_42 : decode prog_8_method_21_code 42 = .ok (.iload_n 1, 1) := by decide +kernel
theorem d_World_sweep_43 : decode prog_8_method_21_code 43 = .ok (.iaload, 1) := by decide +kernel
theorem d_World_sweep_44 : decode prog_8_method_21_code 44 = .ok (.invokevirtual 94, 3) := by decide +kernel
theorem d_World_sweep_47 : decode prog_8_method_21_code 47 = .ok (.iinc 1 1, 3) := by decide +kernel
theorem d_World_sweep_50 : decode prog_8_method_21_code 50 = .ok (.goto (-27), 3) := by decide +kernel
theorem d_World_sweep_53 : decode prog_8_method_21_code 53 = .ok (.iconst 0, 1) := by decide +kernel
theorem d_World_sweep_54 : decode prog_8_method_21_code 54 = .ok (.istore_n 1, 1) := by decide +kernel
theorem d_World_sweep_55 : decode prog_8_method_21_code 55 = .ok (.bipush 16, 2) := by decide +kernel
theorem d_World_sweep_57 : decode prog_8_method_21_code 57 = .ok (.istore_n 2, 1) := by decide +kernel
theorem d_World_sweep_58 : decode prog_8_method_21_code 58 = .ok (.iload_n 2, 1) := by decide +kernel
theorem d_World_sweep_59 : decode prog_8_method_21_code 59 = .ok (.bipush 32, 2) := by decide +kernel
theorem d_World_sweep_61 : decode prog_8_method_21_code 61 = .ok (.if_icmp .ge 44, 3) := by decide +kernel
theorem d_World_sweep_64 : decode prog_8_method_21_code 64 = .ok (.aload_n 0, 1) := by decide +kernel
theorem d_World_sweep_65 : decode prog_8_method_21_code 65 = .ok (.iload_n 2, 1) := by decide +kernel
theorem d_World_sweep_66 : decode prog_8_method_21_code 66 = .ok (.invokevirtual 82, 3) := by decide +kernel
theorem d_World_sweep_69 : decode prog_8_method_21_code 69 = .ok (.ifCond .eq 30, 3) := by decide +kernel
theorem d_World_sweep_72 : decode prog_8_method_21_code 72 = .ok (.aload_n 0, 1) := by decide +kernel
theorem d_World_sweep_73 : decode prog_8_method_21_code 73 = .ok (.getfield 88, 3) := by decide +kernel
theorem d_World_sweep_76 : decode prog_8_method_21_code 76 = .ok (.iload_n 2, 1) := by decide +kernel
theorem d_World_sweep_77 : decode prog_8_method_21_code 77 = .ok (.iushr, 1) := by decide +kernel
theorem d_World_sweep_78 : decode prog_8_method_21_code 78 = .ok (.iconst 1, 1) := by decide +kernel
theorem d_World_sweep_79 : decode prog_8_method_21_code 79 = .ok (.iand, 1) := by decide +kernel
theorem d_World_sweep_80 : decode prog_8_method_21_code 80 = .ok (.ifCond .ne 19, 3) := by decide +kernel
theorem d_World_sweep_83 : decode prog_8_method_21_code 83 = .ok (.aload_n 0, 1) := by decide +kernel
theorem d_World_sweep_84 : decode prog_8_method_21_code 84 = .ok (.getfield 12, 3) := by decide +kernel
theorem d_World_sweep_87 : decode prog_8_method_21_code 87 = .ok (.getfield 39, 3) := by decide +kernel
theorem d_World_sweep_90 : decode prog_8_method_21_code 90 = .ok (.iload_n 2, 1) := by decide +kernel
theorem d_World_sweep_91 : decode prog_8_method_21_code 91 = .ok (.bipush 16, 2) := by decide +kernel
theorem d_World_sweep_93 : decode prog_8_method_21_code 93 = .ok (.isub, 1) := by decide +kernel
theorem d_World_sweep_94 : decode prog_8_method_21_code 94 = .ok (.iconst (-1), 1) := by decide +kernel
theorem d_World_sweep_95 : decode prog_8_method_21_code 95 = .ok (.iastore, 1) := by decide +kernel
theorem d_World_sweep_96 : decode prog_8_method_21_code 96 = .ok (.iinc 1 1, 3) := by decide +kernel
theorem d_World_sweep_99 : decode prog_8_method_21_code 99 = .ok (.iinc 2 1, 3) := by decide +kernel
theorem d_World_sweep_102 : decode prog_8_method_21_code 102 = .ok (.goto (-44), 3) := by decide +kernel
theorem d_World_sweep_105 : decode prog_8_method_21_code 105 = .ok (.iload_n 1, 1) := by decide +kernel
theorem d_World_sweep_106 : decode prog_8_method_21_code 106 = .ok (.ireturn, 1) := by decide +kernel
theorem d_Law_begin_0 : decode method_5_code 0 = .ok (.aload_n 0, 1) := by decide +kernel
theorem d_Law_begin_1 : decode method_5_code 1 = .ok (.iload_n 1, 1) := by decide +kernel
theorem d_Law_begin_2 : decode method_5_code 2 = .ok (.iload_n 2, 1) := by decide +kernel
theorem d_Law_begin_3 : decode method_5_code 3 = .ok (.invokevirtual 23, 3) := by decide +kernel
theorem d_Law_begin_6 : decode method_5_code 6 = .ok (.goto 12, 3) := by decide +kernel
theorem d_Law_begin_9 : decode method_5_code 9 = .ok (.astore_n 3, 1) := by decide +kernel
theorem d_Law_begin_10 : decode method_5_code 10 = .ok (.iconst 1, 1) := by decide +kernel
theorem d_Law_begin_11 : decode method_5_code 11 = .ok (.ireturn, 1) := by decide +kernel
theorem d_Law_begin_12 : decode method_5_code 12 = .ok (.astore_n 3, 1) := by decide +kernel
theorem d_Law_begin_13 : decode method_5_code 13 = .ok (.iconst 2, 1) := by decide +kernel
theorem d_Law_begin_14 : decode method_5_code 14 = .ok (.ireturn, 1) := by decide +kernel
theorem d_Law_begin_15 : decode method_5_code 15 = .ok (.astore_n 3, 1) := by decide +kernel
theorem d_Law_begin_16 : decode method_5_code 16 = .ok (.iconst 3, 1) := by decide +kernel
theorem d_Law_begin_17 : decode method_5_code 17 = .ok (.ireturn, 1) := by decide +kernel
theorem d_Law_begin_18 : decode method_5_code 18 = .ok (.iconst 0, 1) := by decide +kernel
theorem d_Law_begin_19 : decode method_5_code 19 = .ok (.ireturn, 1) := by decide +kernel
theorem d_Law_has_0 : decode method_9_code 0 = .ok (.aload 4, 2) := by decide +kernel
theorem d_Law_has_2 : decode method_9_code 2 = .ok (.iconst 0, 1) := by decide +kernel
theorem d_Law_has_3 : decode method_9_code 3 = .ok (.aload_n 0, 1) := by decide +kernel
theorem d_Law_has_4 : decode method_9_code 4 = .ok (.iload_n 1, 1) := by decide +kernel
theorem d_Law_has_5 : decode method_9_code 5 = .ok (.iload_n 2, 1) := by decide +kernel
theorem d_Law_has_6 : decode method_9_code 6 = .ok (.iload_n 3, 1) := by decide +kernel
theorem d_Law_has_7 : decode method_9_code 7 = .ok (.invokevirtual 38, 3) := by decide +kernel
theorem d_Law_has_10 : decode method_9_code 10 = .ok (.i2l, 1) := by decide +kernel
theorem d_Law_has_11 : decode method_9_code 11 = .ok (.lastore, 1) := by decide +kernel
theorem d_Law_has_12 : decode method_9_code 12 = .ok (.goto 7, 3) := by decide +kernel
theorem d_Law_has_15 : decode method_9_code 15 = .ok (.astore 5, 2) := by decide +kernel
theorem d_Law_has_17 : decode method_9_code 17 = .ok (.iconst 1, 1) := by decide +kernel
theorem d_Law_has_18 : decode method_9_code 18 = .ok (.ireturn, 1) := by decide +kernel
theorem d_Law_has_19 : decode method_9_code 19 = .ok (.iconst 0, 1) := by decide +kernel
theorem d_Law_has_20 : decode method_9_code 20 = .ok (.ireturn, 1) := by decide +kernel
theorem d_Law_law_0 : decode code 0 = .ok (.new 8, 3) := by decide +kernel
theorem d_Law_law_3 : decode code 3 = .ok (.dup, 1) := by decide +kernel
theorem d_Law_law_4 : decode code 4 = .ok (.invokespecial 41, 3) := by decide +kernel
theorem d_Law_law_7 : decode code 7 = .ok (.astore_n 1, 1) := by decide +kernel
theorem d_Law_law_8 : decode code 8 = .ok (.new 42, 3) := by decide +kernel
theorem d_Law_law_11 : decode code 11 = .ok (.dup, 1) := by decide +kernel
theorem d_Law_law_12 : decode code 12 = .ok (.invokespecial 44, 3) := by decide +kernel
theorem d_Law_law_15 : decode code 15 = .ok (.astore_n 2, 1) := by decide +kernel
theorem d_Law_law_16 : decode code 16 = .ok (.iconst 1, 1) := by decide +kernel
theorem d_Law_law_17 : decode code 17 = .ok (.newarray .long, 2) := by decide +kernel
theorem d_Law_law_19 : decode code 19 = .ok (.astore_n 3, 1) := by decide +kernel
theorem d_Law_law_20 : decode code 20 = .ok (.iconst 0, 1) := by decide +kernel
theorem d_Law_law_21 : decode code 21 = .ok (.istore 4, 2) := by decide +kernel
theorem d_Law_law_23 : decode code 23 = .ok (.iload 4, 2) := by decide +kernel
theorem d_Law_law_25 : decode code 25 = .ok (.aload_n 0, 1) := by decide +kernel
theorem d_Law_law_26 : decode code 26 = .ok (.arraylength, 1) := by decide +kernel
theorem d_Law_law_27 : decode code 27 = .ok (.iconst 5, 1) := by decide +kernel
theorem d_Law_law_28 : decode code 28 = .ok (.isub, 1) := by decide +kernel
theorem d_Law_law_29 : decode code 29 = .ok (.if_icmp .gt 523, 3) := by decide +kernel
theorem d_Law_law_32 : decode code 32 = .ok (.aload_n 0, 1) := by decide +kernel
theorem d_Law_law_33 : decode code 33 = .ok (.iload 4, 2) := by decide +kernel
theorem d_Law_law_35 : decode code 35 = .ok (.iaload, 1) := by decide +kernel
theorem d_Law_law_36 : decode code 36 = .ok (.bipush 15, 2) := by decide +kernel
theorem d_Law_law_38 : decode code 38 = .ok (.iand, 1) := by decide +kernel
theorem d_Law_law_39 : decode code 39 = .ok (.tableswitch 507 0 11 #[61, 98, 150, 211, 259, 284, 297, 310, 350, 378, 418, 470], 61) := by decide +kernel
theorem d_Law_law_100 : decode code 100 = .ok (.aload_n 1, 1) := by decide +kernel
theorem d_Law_law_101 : decode code 101 = .ok (.aload_n 0, 1) := by decide +kernel
theorem d_Law_law_102 : decode code 102 = .ok (.iload 4, 2) := by decide +kernel
theorem d_Law_law_104 : decode code 104 = .ok (.iconst 1, 1) := by decide +kernel
theorem d_Law_law_105 : decode code 105 = .ok (.iadd, 1) := by decide +kernel
theorem d_Law_law_106 : decode code 106 = .ok (.iaload, 1) := by decide +kernel
theorem d_Law_law_107 : decode code 107 = .ok (.aload_n 0, 1) := by decide +kernel
theorem d_Law_law_108 : decode code 108 = .ok (.iload 4, 2) := by decide +kernel
theorem d_Law_law_110 : decode code 110 = .ok (.iconst 2, 1) := by decide +kernel
theorem d_Law_law_111 : decode code 111 = .ok (.iadd, 1) := by decide +kernel
theorem d_Law_law_112 : decode code 112 = .ok (.iaload, 1) := by decide +kernel
theorem d_Law_law_113 : decode code 113 = .ok (.invokevirtual 45, 3) := by decide +kernel
theorem d_Law_law_116 : decode code 116 = .ok (.pop, 1) := by decide +kernel
theorem d_Law_law_117 : decode code 117 = .ok (.aload_n 2, 1) := by decide +kernel
theorem d_Law_law_118 : decode code 118 = .ok (.aload_n 0, 1) := by decide +kernel
theorem d_Law_law_119 : decode code 119 = .ok (.iload 4, 2) := by decide +kernel
theorem d_Law_law_121 : decode code 121 = .ok (.iconst 1, 1) := by decide +kernel
theorem d_Law_law_122 : decode code 122 = .ok (.iadd, 1) := by decide +kernel
theorem d_Law_law_123 : decode code 123 = .ok (.iaload, 1) := by decide +kernel
theorem d_Law_law_124 : decode code 124 = .ok (.aload_n 0, 1) := by decide +kernel
theorem d_Law_law_125 : decode code 125 = .ok (.iload 4, 2) := by decide +kernel
theorem d_Law_law_127 : decode code 127 = .ok (.iconst 2, 1) := by decide +kernel
theorem d_Law_law_128 : decode code 128 = .ok (.iadd, 1) := by decide +kernel
theorem d_Law_law_129 : decode code 129 = .ok (.iaload, 1) := by decide +kernel
theorem d_Law_law_130 : decode code 130 = .ok (.invokevirtual 49, 3) := by decide +kernel
theorem d_Law_law_133 : decode code 133 = .ok (.pop, 1) := by decide +kernel
theorem d_Law_law_134 : decode code 134 = .ok (.goto 412, 3) := by decide +kernel
theorem d_Law_law_137 : decode code 137 = .ok (.aload_n 1, 1) := by decide +kernel
theorem d_Law_law_138 : decode code 138 = .ok (.aload_n 0, 1) := by decide +kernel
theorem d_Law_law_139 : decode code 139 = .ok (.iload 4, 2) := by decide +kernel
theorem d_Law_law_141 : decode code 141 = .ok (.iconst 1, 1) := by decide +kernel
theorem d_Law_law_142 : decode code 142 = .ok (.iadd, 1) := by decide +kernel
theorem d_Law_law_143 : decode code 143 = .ok (.iaload, 1) := by decide +kernel
theorem d_Law_law_144 : decode code 144 = .ok (.aload_n 0, 1) := by decide +kernel
theorem d_Law_law_145 : decode code 145 = .ok (.iload 4, 2) := by decide +kernel
theorem d_Law_law_147 : decode code 147 = .ok (.iconst 2, 1) := by decide +kernel
theorem d_Law_law_148 : decode code 148 = .ok (.iadd, 1) := by decide +kernel
theorem d_Law_law_149 : decode code 149 = .ok (.iaload, 1) := by decide +kernel
theorem d_Law_law_150 : decode code 150 = .ok (.aload_n 0, 1) := by decide +kernel
theorem d_Law_law_151 : decode code 151 = .ok (.iload 4, 2) := by decide +kernel
theorem d_Law_law_153 : decode code 153 = .ok (.iconst 3, 1) := by decide +kernel
theorem d_Law_law_154 : decode code 154 = .ok (.iadd, 1) := by decide +kernel
theorem d_Law_law_155 : decode code 155 = .ok (.iaload, 1) := by decide +kernel
theorem d_Law_law_156 : decode code 156 = .ok (.aload_n 3, 1) := by decide +kernel
theorem d_Law_law_157 : decode code 157 = .ok (.invokestatic 50, 3) := by decide +kernel
theorem d_Law_law_160 : decode code 160 = .ok (.istore 5, 2) := by decide +kernel
theorem d_Law_law_162 : decode code 162 = .ok (.aload_n 2, 1) := by decide +kernel
theorem d_Law_law_163 : decode code 163 = .ok (.aload_n 0, 1) := by decide +kernel
theorem d_Law_law_164 : decode code 164 = .ok (.iload 4, 2) := by decide +kernel
theorem d_Law_law_166 : decode code 166 = .ok (.iconst 1, 1) := by decide +kernel
theorem d_Law_law_167 : decode code 167 = .ok (.iadd, 1) := by decide +kernel
theorem d_Law_law_168 : decode code 168 = .ok (.iaload, 1) := by decide +kernel
theorem d_Law_law_169 : decode code 169 = .ok (.aload_n 0, 1) := by decide +kernel
theorem d_Law_law_170 : decode code 170 = .ok (.iload 4, 2) := by decide +kernel
theorem d_Law_law_172 : decode code 172 = .ok (.iconst 2, 1) := by decide +kernel
theorem d_Law_law_173 : decode code 173 = .ok (.iadd, 1) := by decide +kernel
theorem d_Law_law_174 : decode code 174 = .ok (.iaload, 1) := by decide +kernel
theorem d_Law_law_175 : decode code 175 = .ok (.aload_n 0, 1) := by decide +kernel
theorem d_Law_law_176 : decode code 176 = .ok (.iload 4, 2) := by decide +kernel
theorem d_Law_law_178 : decode code 178 = .ok (.iconst 3, 1) := by decide +kernel
theorem d_Law_law_179 : decode code 179 = .ok (.iadd, 1) := by decide +kernel
theorem d_Law_law_180 : decode code 180 = .ok (.iaload, 1) := by decide +kernel
theorem d_Law_law_181 : decode code 181 = .ok (.invokevirtual 55, 3) := by decide +kernel
theorem d_Law_law_184 : decode code 184 = .ok (.istore 6, 2) := by decide +kernel
theorem d_Law_law_186 : decode code 186 = .ok (.goto 360, 3) := by decide +kernel
theorem d_Law_law_189 : decode code 189 = .ok (.aload_n 1, 1) := by decide +kernel
theorem d_Law_law_190 : decode code 190 = .ok (.aload_n 0, 1) := by decide +kernel
theorem d_Law_law_191 : decode code 191 = .ok (.iload 4, 2) := by decide +kernel
theorem d_Law_law_193 : decode code 193 = .ok (.iconst 1, 1) := by decide +kernel
theorem d_Law_law_194 : decode code 194 = .ok (.iadd, 1) := by decide +kernel
theorem d_Law_law_195 : decode code 195 = .ok (.iaload, 1) := by decide +kernel
theorem d_Law_law_196 : decode code 196 = .ok (.aload_n 0, 1) := by decide +kernel
theorem d_Law_law_197 : decode code 197 = .ok (.iload 4, 2) := by decide +kernel
theorem d_Law_law_199 : decode code 199 = .ok (.iconst 2, 1) := by decide +kernel
theorem d_Law_law_200 : decode code 200 = .ok (.iadd, 1) := by decide +kernel
theorem d_Law_law_201 : decode code 201 = .ok (.iaload, 1) := by decide +kernel
theorem d_Law_law_202 : decode code 202 = .ok (.aload_n 0, 1) := by decide +kernel
theorem d_Law_law_203 : decode code 203 = .ok (.iload 4, 2) := by decide +kernel
theorem d_Law_law_205 : decode code 205 = .ok (.iconst 3, 1) := by decide +kernel
theorem d_Law_law_206 : decode code 206 = .ok (.iadd, 1) := by decide +kernel
theorem d_Law_law_207 : decode code 207 = .ok (.iaload, 1) := by decide +kernel
theorem d_Law_law_208 : decode code 208 = .ok (.aload_n 0, 1) := by decide +kernel
theorem d_Law_law_209 : decode code 209 = .ok (.iload 4, 2) := by decide +kernel
theorem d_Law_law_211 : decode code 211 = .ok (.iconst 4, 1) := by decide +kernel
theorem d_Law_law_212 : decode code 212 = .ok (.iadd, 1) := by decide +kernel
theorem d_Law_law_213 : decode code 213 = .ok (.iaload, 1) := by decide +kernel
theorem d_Law_law_214 : decode code 214 = .ok (.invokestatic 56, 3) := by decide +kernel
theorem d_Law_law_217 : decode code 217 = .ok (.istore 5, 2) := by decide +kernel
theorem d_Law_law_219 : decode code 219 = .ok (.aload_n 2, 1) := by decide +kernel
theorem d_Law_law_220 : decode code 220 = .ok (.aload_n 0, 1) := by decide +kernel
theorem d_Law_law_221 : decode code 221 = .ok (.iload 4, 2) := by decide +kernel
theorem d_Law_law_223 : decode code 223 = .ok (.iconst 1, 1) := by decide +kernel
theorem d_Law_law_224 : decode code 224 = .ok (.iadd, 1) := by decide +kernel
theorem d_Law_law_225 : decode code 225 = .ok (.iaload, 1) := by decide +kernel
theorem d_Law_law_226 : decode code 226 = .ok (.aload_n 0, 1) := by decide +kernel
theorem d_Law_law_227 : decode code 227 = .ok (.iload 4, 2) := by decide +kernel
theorem d_Law_law_229 : decode code 229 = .ok (.iconst 2, 1) := by decide +kernel
theorem d_Law_law_230 : decode code 230 = .ok (.iadd, 1) := by decide +kernel
theorem d_Law_law_231 : decode code 231 = .ok (.iaload, 1) := by decide +kernel
theorem d_Law_law_232 : decode code 232 = .ok (.aload_n 0, 1) := by decide +kernel
theorem d_Law_law_233 : decode code 233 = .ok (.iload 4, 2) := by decide +kernel
theorem d_Law_law_235 : decode code 235 = .ok (.iconst 3, 1) := by decide +kernel
theorem d_Law_law_236 : decode code 236 = .ok (.iadd, 1) := by decide +kernel
theorem d_Law_law_237 : decode code 237 = .ok (.iaload, 1) := by decide +kernel
theorem d_Law_law_238 : decode code 238 = .ok (.aload_n 0, 1) := by decide +kernel
theorem d_Law_law_239 : decode code 239 = .ok (.iload 4, 2) := by decide +kernel
theorem d_Law_law_241 : decode code 241 = .ok (.iconst 4, 1) := by decide +kernel
theorem d_Law_law_242 : decode code 242 = .ok (.iadd, 1) := by decide +kernel
theorem d_Law_law_243 : decode code 243 = .ok (.iaload, 1) := by decide +kernel
theorem d_Law_law_244 : decode code 244 = .ok (.invokevirtual 59, 3) := by decide +kernel
theorem d_Law_law_247 : decode code 247 = .ok (.goto 299, 3) := by decide +kernel
theorem d_Law_law_250 : decode code 250 = .ok (.aload_n 1, 1) := by decide +kernel
theorem d_Law_law_251 : decode code 251 = .ok (.aload_n 0, 1) := by decide +kernel
theorem d_Law_law_252 : decode code 252 = .ok (.iload 4, 2) := by decide +kernel
theorem d_Law_law_254 : decode code 254 = .ok (.iconst 1, 1) := by decide +kernel
theorem d_Law_law_255 : decode code 255 = .ok (.iadd, 1) := by decide +kernel
theorem d_Law_law_256 : decode code 256 = .ok (.iaload, 1) := by decide +kernel
theorem d_Law_law_257 : decode code 257 = .ok (.aload_n 0, 1) := by decide +kernel
theorem d_Law_law_258 : decode code 258 = .ok (.iload 4, 2) := by decide +kernel
theorem d_Law_law_260 : decode code 260 = .ok (.iconst 2, 1) := by decide +kernel
theorem d_Law_law_261 : decode code 261 = .ok (.iadd, 1) := by decide +kernel
theorem d_Law_law_262 : decode code 262 = .ok (.iaload, 1) := by decide +kernel
theorem d_Law_law_263 : decode code 263 = .ok (.invokestatic 60, 3) := by decide +kernel
theorem d_Law_law_266 : decode code 266 = .ok (.istore 5, 2) := by decide +kernel
theorem d_Law_law_268 : decode code 268 = .ok (.aload_n 2, 1) := by decide +kernel
theorem d_Law_law_269 : decode code 269 = .ok (.aload_n 0, 1) := by decide +kernel
theorem d_Law_law_270 : decode code 270 = .ok (.iload 4, 2) := by decide +kernel
theorem d_Law_law_272 : decode code 272 = .ok (.iconst 1, 1) := by decide +kernel
theorem d_Law_law_273 : decode code 273 = .ok (.iadd, 1) := by decide +kernel
theorem d_Law_law_274 : decode code 274 = .ok (.iaload, 1) := by decide +kernel
theorem d_Law_law_275 : decode code 275 = .ok (.aload_n 0, 1) := by decide +kernel
theorem d_Law_law_276 : decode code 276 = .ok (.iload 4, 2) := by decide +kernel
theorem d_Law_law_278 : decode code 278 = .ok (.iconst 2, 1) := by decide +kernel
theorem d_Law_law_279 : decode code 279 = .ok (.iadd, 1) := by decide +kernel
theorem d_Law_law_280 : decode code 280 = .ok (.iaload, 1) := by decide +kernel
theorem d_Law_law_281 : decode code 281 = .ok (.invokevirtual 63, 3) := by decide +kernel
theorem d_Law_law_284 : decode code 284 = .ok (.aload_n 2, 1) := by decide +kernel
theorem d_Law_law_285 : decode code 285 = .ok (.invokevirtual 64, 3) := by decide +kernel
theorem d_Law_law_288 : decode code 288 = .ok (.iload 5, 2) := by decide +kernel
theorem d_Law_law_290 : decode code 290 = .ok (.if_icmp .eq 5, 3) := by decide +kernel
theorem d_Law_law_295 : decode code 295 = .ok (.goto 251, 3) := by decide +kernel
theorem d_Law_law_298 : decode code 298 = .ok (.aload_n 1, 1) := by decide +kernel
theorem d_Law_law_299 : decode code 299 = .ok (.aload_n 0, 1) := by decide +kernel
theorem d_Law_law_300 : decode code 300 = .ok (.iload 4, 2) := by decide +kernel
theorem d_Law_law_302 : decode code 302 = .ok (.iconst 1, 1) := by decide +kernel
theorem d_Law_law_303 : decode code 303 = .ok (.iadd, 1) := by decide +kernel
theorem d_Law_law_304 : decode code 304 = .ok (.iaload, 1) := by decide +kernel
theorem d_Law_law_305 : decode code 305 = .ok (.invokevirtual 68, 3) := by decide +kernel
theorem d_Law_law_308 : decode code 308 = .ok (.pop, 1) := by decide +kernel
theorem d_Law_law_309 : decode code 309 = .ok (.aload_n 2, 1) := by decide +kernel
theorem d_Law_law_310 : decode code 310 = .ok (.aload_n 0, 1) := by decide +kernel
theorem d_Law_law_311 : decode code 311 = .ok (.iload 4, 2) := by decide +kernel
theorem d_Law_law_313 : decode code 313 = .ok (.iconst 1, 1) := by decide +kernel
theorem d_Law_law_314 : decode code 314 = .ok (.iadd, 1) := by decide +kernel
theorem d_Law_law_315 : decode code 315 = .ok (.iaload, 1) := by decide +kernel
theorem d_Law_law_316 : decode code 316 = .ok (.invokevirtual 71, 3) := by decide +kernel
theorem d_Law_law_319 : decode code 319 = .ok (.pop, 1) := by decide +kernel
theorem d_Law_law_320 : decode code 320 = .ok (.goto 226, 3) := by decide +kernel
theorem d_Law_law_323 : decode code 323 = .ok (.aload_n 1, 1) := by decide +kernel
theorem d_Law_law_324 : decode code 324 = .ok (.invokevirtual 72, 3) := by decide +kernel
theorem d_Law_law_327 : decode code 327 = .ok (.pop, 1) := by decide +kernel
theorem d_Law_law_328 : decode code 328 = .ok (.aload_n 2, 1) := by decide +kernel
theorem d_Law_law_329 : decode code 329 = .ok (.invokevirtual 76, 3) := by decide +kernel
theorem d_Law_law_332 : decode code 332 = .ok (.pop, 1) := by decide +kernel
theorem d_Law_law_333 : decode code 333 = .ok (.goto 213, 3) := by decide +kernel
theorem d_Law_law_336 : decode code 336 = .ok (.aload_n 1, 1) := by decide +kernel
theorem d_Law_law_337 : decode code 337 = .ok (.invokevirtual 77, 3) := by decide +kernel
theorem d_Law_law_340 : decode code 340 = .ok (.pop, 1) := by decide +kernel
theorem d_Law_law_341 : decode code 341 = .ok (.aload_n 2, 1) := by decide +kernel
theorem d_Law_law_342 : decode code 342 = .ok (.invokevirtual 80, 3) := by decide +kernel
theorem d_Law_law_345 : decode code 345 = .ok (.pop, 1) := by decide +kernel
theorem d_Law_law_346 : decode code 346 = .ok (.goto 200, 3) := by decide +kernel
theorem d_Law_law_349 : decode code 349 = .ok (.aload_n 1, 1) := by decide +kernel
theorem d_Law_law_350 : decode code 350 = .ok (.aload_n 0, 1) := by decide +kernel
theorem d_Law_law_351 : decode code 351 = .ok (.iload 4, 2) := by decide +kernel
theorem d_Law_law_353 : decode code 353 = .ok (.iconst 1, 1) := by decide +kernel
theorem d_Law_law_354 : decode code 354 = .ok (.iadd, 1) := by decide +kernel
theorem d_Law_law_355 : decode code 355 = .ok (.iaload, 1) := by decide +kernel
theorem d_Law_law_356 : decode code 356 = .ok (.aload_n 0, 1) := by decide +kernel
theorem d_Law_law_357 : decode code 357 = .ok (.iload 4, 2) := by decide +kernel
theorem d_Law_law_359 : decode code 359 = .ok (.iconst 2, 1) := by decide +kernel
theorem d_Law_law_360 : decode code 360 = .ok (.iadd, 1) := by decide +kernel
theorem d_Law_law_361 : decode code 361 = .ok (.iaload, 1) := by decide +kernel
theorem d_Law_law_362 : decode code 362 = .ok (.aload_n 3, 1) := by decide +kernel
theorem d_Law_law_363 : decode code 363 = .ok (.invokestatic 81, 3) := by decide +kernel
theorem d_Law_law_366 : decode code 366 = .ok (.istore 5, 2) := by decide +kernel
theorem d_Law_law_368 : decode code 368 = .ok (.aload_n 2, 1) := by decide +kernel
theorem d_Law_law_369 : decode code 369 = .ok (.aload_n 0, 1) := by decide +kernel
theorem d_Law_law_370 : decode code 370 = .ok (.iload 4, 2) := by decide +kernel
theorem d_Law_law_372 : decode code 372 = .ok (.iconst 1, 1) := by decide +kernel
theorem d_Law_law_373 : decode code 373 = .ok (.iadd, 1) := by decide +kernel
theorem d_Law_law_374 : decode code 374 = .ok (.iaload, 1) := by decide +kernel
theorem d_Law_law_375 : decode code 375 = .ok (.aload_n 0, 1) := by decide +kernel
theorem d_Law_law_376 : decode code 376 = .ok (.iload 4, 2) := by decide +kernel
theorem d_Law_law_378 : decode code 378 = .ok (.iconst 2, 1) := by decide +kernel
theorem d_Law_law_379 : decode code 379 = .ok (.iadd, 1) := by decide +kernel
theorem d_Law_law_380 : decode code 380 = .ok (.iaload, 1) := by decide +kernel
theorem d_Law_law_381 : decode code 381 = .ok (.invokevirtual 84, 3) := by decide +kernel
theorem d_Law_law_384 : decode code 384 = .ok (.istore 6, 2) := by decide +kernel
theorem d_Law_law_386 : decode code 386 = .ok (.goto 160, 3) := by decide +kernel
theorem d_Law_law_389 : decode code 389 = .ok (.aload_n 1, 1) := by decide +kernel
theorem d_Law_law_390 : decode code 390 = .ok (.aload_n 0, 1) := by decide +kernel
theorem d_Law_law_391 : decode code 391 = .ok (.iload 4, 2) := by decide +kernel
theorem d_Law_law_393 : decode code 393 = .ok (.iconst 1, 1) := by decide +kernel
theorem d_Law_law_394 : decode code 394 = .ok (.iadd, 1) := by decide +kernel
theorem d_Law_law_395 : decode code 395 = .ok (.iaload, 1) := by decide +kernel
theorem d_Law_law_396 : decode code 396 = .ok (.aload_n 3, 1) := by decide +kernel
theorem d_Law_law_397 : decode code 397 = .ok (.invokestatic 85, 3) := by decide +kernel
theorem d_Law_law_400 : decode code 400 = .ok (.istore 5, 2) := by decide +kernel
theorem d_Law_law_402 : decode code 402 = .ok (.aload_n 2, 1) := by decide +kernel
theorem d_Law_law_403 : decode code 403 = .ok (.aload_n 0, 1) := by decide +kernel
theorem d_Law_law_404 : decode code 404 = .ok (.iload 4, 2) := by decide +kernel
theorem d_Law_law_406 : decode code 406 = .ok (.iconst 1, 1) := by decide +kernel
theorem d_Law_law_407 : decode code 407 = .ok (.iadd, 1) := by decide +kernel
theorem d_Law_law_408 : decode code 408 = .ok (.iaload, 1) := by decide +kernel
theorem d_Law_law_409 : decode code 409 = .ok (.invokevirtual 88, 3) := by decide +kernel
theorem d_Law_law_412 : decode code 412 = .ok (.istore 6, 2) := by decide +kernel
theorem d_Law_law_414 : decode code 414 = .ok (.goto 132, 3) := by decide +kernel
theorem d_Law_law_417 : decode code 417 = .ok (.aload_n 1, 1) := by decide +kernel
theorem d_Law_law_418 : decode code 418 = .ok (.aload_n 0, 1) := by decide +kernel
theorem d_Law_law_419 : decode code 419 = .ok (.iload 4, 2) := by decide +kernel
theorem d_Law_law_421 : decode code 421 = .ok (.iconst 1, 1) := by decide +kernel
theorem d_Law_law_422 : decode code 422 = .ok (.iadd, 1) := by decide +kernel
theorem d_Law_law_423 : decode code 423 = .ok (.iaload, 1) := by decide +kernel
theorem d_Law_law_424 : decode code 424 = .ok (.aload_n 0, 1) := by decide +kernel
theorem d_Law_law_425 : decode code 425 = .ok (.iload 4, 2) := by decide +kernel
theorem d_Law_law_427 : decode code 427 = .ok (.iconst 2, 1) := by decide +kernel
theorem d_Law_law_428 : decode code 428 = .ok (.iadd, 1) := by decide +kernel
theorem d_Law_law_429 : decode code 429 = .ok (.iaload, 1) := by decide +kernel
theorem d_Law_law_430 : decode code 430 = .ok (.aload_n 3, 1) := by decide +kernel
theorem d_Law_law_431 : decode code 431 = .ok (.invokestatic 89, 3) := by decide +kernel
theorem d_Law_law_434 : decode code 434 = .ok (.istore 5, 2) := by decide +kernel
theorem d_Law_law_436 : decode code 436 = .ok (.aload_n 2, 1) := by decide +kernel
theorem d_Law_law_437 : decode code 437 = .ok (.aload_n 0, 1) := by decide +kernel
theorem d_Law_law_438 : decode code 438 = .ok (.iload 4, 2) := by decide +kernel
theorem d_Law_law_440 : decode code 440 = .ok (.iconst 1, 1) := by decide +kernel
theorem d_Law_law_441 : decode code 441 = .ok (.iadd, 1) := by decide +kernel
theorem d_Law_law_442 : decode code 442 = .ok (.iaload, 1) := by decide +kernel
theorem d_Law_law_443 : decode code 443 = .ok (.aload_n 0, 1) := by decide +kernel
theorem d_Law_law_444 : decode code 444 = .ok (.iload 4, 2) := by decide +kernel
theorem d_Law_law_446 : decode code 446 = .ok (.iconst 2, 1) := by decide +kernel
theorem d_Law_law_447 : decode code 447 = .ok (.iadd, 1) := by decide +kernel
theorem d_Law_law_448 : decode code 448 = .ok (.iaload, 1) := by decide +kernel
theorem d_Law_law_449 : decode code 449 = .ok (.invokevirtual 91, 3) := by decide +kernel
theorem d_Law_law_452 : decode code 452 = .ok (.istore 6, 2) := by decide +kernel
theorem d_Law_law_454 : decode code 454 = .ok (.goto 92, 3) := by decide +kernel
theorem d_Law_law_457 : decode code 457 = .ok (.aload_n 1, 1) := by decide +kernel
theorem d_Law_law_458 : decode code 458 = .ok (.aload_n 0, 1) := by decide +kernel
theorem d_Law_law_459 : decode code 459 = .ok (.iload 4, 2) := by decide +kernel
theorem d_Law_law_461 : decode code 461 = .ok (.iconst 1, 1) := by decide +kernel
theorem d_Law_law_462 : decode code 462 = .ok (.iadd, 1) := by decide +kernel
theorem d_Law_law_463 : decode code 463 = .ok (.iaload, 1) := by decide +kernel
theorem d_Law_law_464 : decode code 464 = .ok (.aload_n 0, 1) := by decide +kernel
theorem d_Law_law_465 : decode code 465 = .ok (.iload 4, 2) := by decide +kernel
theorem d_Law_law_467 : decode code 467 = .ok (.iconst 2, 1) := by decide +kernel
theorem d_Law_law_468 : decode code 468 = .ok (.iadd, 1) := by decide +kernel
theorem d_Law_law_469 : decode code 469 = .ok (.iaload, 1) := by decide +kernel
theorem d_Law_law_470 : decode code 470 = .ok (.aload_n 0, 1) := by decide +kernel
theorem d_Law_law_471 : decode code 471 = .ok (.iload 4, 2) := by decide +kernel
theorem d_Law_law_473 : decode code 473 = .ok (.iconst 3, 1) := by decide +kernel
theorem d_Law_law_474 : decode code 474 = .ok (.iadd, 1) := by decide +kernel
theorem d_Law_law_475 : decode code 475 = .ok (.iaload, 1) := by decide +kernel
theorem d_Law_law_476 : decode code 476 = .ok (.aload_n 3, 1) := by decide +kernel
theorem d_Law_law_477 : decode code 477 = .ok (.invokestatic 92, 3) := by decide +kernel
theorem d_Law_law_480 : decode code 480 = .ok (.istore 5, 2) := by decide +kernel
theorem d_Law_law_482 : decode code 482 = .ok (.aload_n 2, 1) := by decide +kernel
theorem d_Law_law_483 : decode code 483 = .ok (.aload_n 0, 1) := by decide +kernel
theorem d_Law_law_484 : decode code 484 = .ok (.iload 4, 2) := by decide +kernel
theorem d_Law_law_486 : decode code 486 = .ok (.iconst 1, 1) := by decide +kernel
theorem d_Law_law_487 : decode code 487 = .ok (.iadd, 1) := by decide +kernel
theorem d_Law_law_488 : decode code 488 = .ok (.iaload, 1) := by decide +kernel
theorem d_Law_law_489 : decode code 489 = .ok (.aload_n 0, 1) := by decide +kernel
theorem d_Law_law_490 : decode code 490 = .ok (.iload 4, 2) := by decide +kernel
theorem d_Law_law_492 : decode code 492 = .ok (.iconst 2, 1) := by decide +kernel
theorem d_Law_law_493 : decode code 493 = .ok (.iadd, 1) := by decide +kernel
theorem d_Law_law_494 : decode code 494 = .ok (.iaload, 1) := by decide +kernel
theorem d_Law_law_495 : decode code 495 = .ok (.aload_n 0, 1) := by decide +kernel
theorem d_Law_law_496 : decode code 496 = .ok (.iload 4, 2) := by decide +kernel
theorem d_Law_law_498 : decode code 498 = .ok (.iconst 3, 1) := by decide +kernel
theorem d_Law_law_499 : decode code 499 = .ok (.iadd, 1) := by decide +kernel
theorem d_Law_law_500 : decode code 500 = .ok (.iaload, 1) := by decide +kernel
theorem d_Law_law_501 : decode code 501 = .ok (.invokevirtual 94, 3) := by decide +kernel
theorem d_Law_law_504 : decode code 504 = .ok (.istore 6, 2) := by decide +kernel
theorem d_Law_law_506 : decode code 506 = .ok (.goto 40, 3) := by decide +kernel
theorem d_Law_law_509 : decode code 509 = .ok (.aload_n 1, 1) := by decide +kernel
theorem d_Law_law_510 : decode code 510 = .ok (.aload_n 0, 1) := by decide +kernel
theorem d_Law_law_511 : decode code 511 = .ok (.iload 4, 2) := by decide +kernel
theorem d_Law_law_513 : decode code 513 = .ok (.iconst 1, 1) := by decide +kernel
theorem d_Law_law_514 : decode code 514 = .ok (.iadd, 1) := by decide +kernel
theorem d_Law_law_515 : decode code 515 = .ok (.iaload, 1) := by decide +kernel
theorem d_Law_law_516 : decode code 516 = .ok (.aload_n 0, 1) := by decide +kernel
theorem d_Law_law_517 : decode code 517 = .ok (.iload 4, 2) := by decide +kernel
theorem d_Law_law_519 : decode code 519 = .ok (.iconst 2, 1) := by decide +kernel
theorem d_Law_law_520 : decode code 520 = .ok (.iadd, 1) := by decide +kernel
theorem d_Law_law_521 : decode code 521 = .ok (.iaload, 1) := by decide +kernel
theorem d_Law_law_522 : decode code 522 = .ok (.invokevirtual 95, 3) := by decide +kernel
theorem d_Law_law_525 : decode code 525 = .ok (.pop, 1) := by decide +kernel
theorem d_Law_law_526 : decode code 526 = .ok (.aload_n 2, 1) := by decide +kernel
theorem d_Law_law_527 : decode code 527 = .ok (.aload_n 0, 1) := by decide +kernel
theorem d_Law_law_528 : decode code 528 = .ok (.iload 4, 2) := by decide +kernel
theorem d_Law_law_530 : decode code 530 = .ok (.iconst 1, 1) := by decide +kernel
theorem d_Law_law_531 : decode code 531 = .ok (.iadd, 1) := by decide +kernel
theorem d_Law_law_532 : decode code 532 = .ok (.iaload, 1) := by decide +kernel
theorem d_Law_law_533 : decode code 533 = .ok (.aload_n 0, 1) := by decide +kernel
theorem d_Law_law_534 : decode code 534 = .ok (.iload 4, 2) := by decide +kernel
theorem d_Law_law_536 : decode code 536 = .ok (.iconst 2, 1) := by decide +kernel
theorem d_Law_law_537 : decode code 537 = .ok (.iadd, 1) := by decide +kernel
theorem d_Law_law_538 : decode code 538 = .ok (.iaload, 1) := by decide +kernel
theorem d_Law_law_539 : decode code 539 = .ok (.invokevirtual 98, 3) := by decide +kernel
theorem d_Law_law_542 : decode code 542 = .ok (.pop, 1) := by decide +kernel
theorem d_Law_law_543 : decode code 543 = .ok (.goto 3, 3) := by decide +kernel
theorem d_Law_law_546 : decode code 546 = .ok (.iinc 4 5, 3) := by decide +kernel
theorem d_Law_law_549 : decode code 549 = .ok (.goto (-526), 3) := by decide +kernel
theorem d_Law_law_552 : decode code 552 = .ok (.iconst 1, 1) := by decide +kernel
theorem d_Law_law_553 : decode code 553 = .ok (.ireturn, 1) := by decide +kernel
theorem d_Law_object_0 : decode method_3_code 0 = .ok (.aload 4, 2) := by decide +kernel
theorem d_Law_object_2 : decode method_3_code 2 = .ok (.iconst 0, 1) := by decide +kernel
theorem d_Law_object_3 : decode method_3_code 3 = .ok (.aload_n 0, 1) := by decide +kernel
theorem d_Law_object_4 : decode method_3_code 4 = .ok (.iload_n 1, 1) := by decide +kernel
theorem d_Law_object_5 : decode method_3_code 5 = .ok (.iload_n 2, 1) := by decide +kernel
theorem d_Law_object_6 : decode method_3_code 6 = .ok (.iload_n 3, 1) := by decide +kernel
theorem d_Law_object_7 : decode method_3_code 7 = .ok (.invokevirtual 7, 3) := by decide +kernel
theorem d_Law_object_10 : decode method_3_code 10 = .ok (.i2l, 1) := by decide +kernel
theorem d_Law_object_11 : decode method_3_code 11 = .ok (.lastore, 1) := by decide +kernel
theorem d_Law_object_12 : decode method_3_code 12 = .ok (.goto 11, 3) := by decide +kernel
theorem d_Law_object_15 : decode method_3_code 15 = .ok (.astore 5, 2) := by decide +kernel
theorem d_Law_object_17 : decode method_3_code 17 = .ok (.iconst 1, 1) := by decide +kernel
theorem d_Law_object_18 : decode method_3_code 18 = .ok (.ireturn, 1) := by decide +kernel
theorem d_Law_object_19 : decode method_3_code 19 = .ok (.astore 5, 2) := by decide +kernel
theorem d_Law_object_21 : decode method_3_code 21 = .ok (.iconst 2, 1) := by decide +kernel
theorem d_Law_object_22 : decode method_3_code 22 = .ok (.ireturn, 1) := by decide +kernel
theorem d_Law_object_23 : decode method_3_code 23 = .ok (.iconst 0, 1) := by decide +kernel
theorem d_Law_object_24 : decode method_3_code 24 = .ok (.ireturn, 1) := by decide +kernel
theorem d_Law_property_0 : decode method_4_code 0 = .ok (.aload_n 0, 1) := by decide +kernel
theorem d_Law_property_1 : decode method_4_code 1 = .ok (.iload_n 1, 1) := by decide +kernel
theorem d_Law_property_2 : decode method_4_code 2 = .ok (.iload_n 2, 1) := by decide +kernel
theorem d_Law_property_3 : decode method_4_code 3 = .ok (.iload_n 3, 1) := by decide +kernel
theorem d_Law_property_4 : decode method_4_code 4 = .ok (.iload 4, 2) := by decide +kernel
theorem d_Law_property_6 : decode method_4_code 6 = .ok (.invokevirtual 17, 3) := by decide +kernel
theorem d_Law_property_9 : decode method_4_code 9 = .ok (.goto 15, 3) := by decide +kernel
theorem d_Law_property_12 : decode method_4_code 12 = .ok (.astore 5, 2) := by decide +kernel
theorem d_Law_property_14 : decode method_4_code 14 = .ok (.iconst 1, 1) := by decide +kernel
theorem d_Law_property_15 : decode method_4_code 15 = .ok (.ireturn, 1) := by decide +kernel
theorem d_Law_property_16 : decode method_4_code 16 = .ok (.astore 5, 2) := by decide +kernel
theorem d_Law_property_18 : decode method_4_code 18 = .ok (.iconst 2, 1) := by decide +kernel
theorem d_Law_property_19 : decode method_4_code 19 = .ok (.ireturn, 1) := by decide +kernel
theorem d_Law_property_20 : decode method_4_code 20 = .ok (.astore 5, 2) := by decide +kernel
theorem d_Law_property_22 : decode method_4_code 22 = .ok (.iconst 3, 1) := by decide +kernel
theorem d_Law_property_23 : decode method_4_code 23 = .ok (.ireturn, 1) := by decide +kernel
theorem d_Law_property_24 : decode method_4_code 24 = .ok (.iconst 0, 1) := by decide +kernel
theorem d_Law_property_25 : decode method_4_code 25 = .ok (.ireturn, 1) := by decide +kernel
theorem d_Law_said_0 : decode method_8_code 0 = .ok (.aload_n 3, 1) := by decide +kernel
theorem d_Law_said_1 : decode method_8_code 1 = .ok (.iconst 0, 1) := by decide +kernel
theorem d_Law_said_2 : decode method_8_code 2 = .ok (.aload_n 0, 1) := by decide +kernel
theorem d_Law_said_3 : decode method_8_code 3 = .ok (.iload_n 1, 1) := by decide +kernel
theorem d_Law_said_4 : decode method_8_code 4 = .ok (.iload_n 2, 1) := by decide +kernel
theorem d_Law_said_5 : decode method_8_code 5 = .ok (.invokevirtual 35, 3) := by decide +kernel
theorem d_Law_said_8 : decode method_8_code 8 = .ok (.i2l, 1) := by decide +kernel
theorem d_Law_said_9 : decode method_8_code 9 = .ok (.lastore, 1) := by decide +kernel
theorem d_Law_said_10 : decode method_8_code 10 = .ok (.goto 7, 3) := by decide +kernel
theorem d_Law_said_13 : decode method_8_code 13 = .ok (.astore 4, 2) := by decide +kernel
theorem d_Law_said_15 : decode method_8_code 15 = .ok (.iconst 1, 1) := by decide +kernel
theorem d_Law_said_16 : decode method_8_code 16 = .ok (.ireturn, 1) := by decide +kernel
theorem d_Law_said_17 : decode method_8_code 17 = .ok (.iconst 0, 1) := by decide +kernel
theorem d_Law_said_18 : decode method_8_code 18 = .ok (.ireturn, 1) := by decide +kernel
theorem d_Law_show_0 : decode method_7_code 0 = .ok (.aload_n 2, 1) := by decide +kernel
theorem d_Law_show_1 : decode method_7_code 1 = .ok (.iconst 0, 1) := by decide +kernel
theorem d_Law_show_2 : decode method_7_code 2 = .ok (.aload_n 0, 1) := by decide +kernel
theorem d_Law_show_3 : decode method_7_code 3 = .ok (.iload_n 1, 1) := by decide +kernel
theorem d_Law_show_4 : decode method_7_code 4 = .ok (.invokevirtual 31, 3) := by decide +kernel
theorem d_Law_show_7 : decode method_7_code 7 = .ok (.i2l, 1) := by decide +kernel
theorem d_Law_show_8 : decode method_7_code 8 = .ok (.lastore, 1) := by decide +kernel
theorem d_Law_show_9 : decode method_7_code 9 = .ok (.goto 6, 3) := by decide +kernel
theorem d_Law_show_12 : decode method_7_code 12 = .ok (.astore_n 3, 1) := by decide +kernel
theorem d_Law_show_13 : decode method_7_code 13 = .ok (.iconst 1, 1) := by decide +kernel
theorem d_Law_show_14 : decode method_7_code 14 = .ok (.ireturn, 1) := by decide +kernel
theorem d_Law_show_15 : decode method_7_code 15 = .ok (.iconst 0, 1) := by decide +kernel
theorem d_Law_show_16 : decode method_7_code 16 = .ok (.ireturn, 1) := by decide +kernel
theorem d_Law_stack_0 : decode method_6_code 0 = .ok (.aload_n 3, 1) := by decide +kernel
theorem d_Law_stack_1 : decode method_6_code 1 = .ok (.iconst 0, 1) := by decide +kernel
theorem d_Law_stack_2 : decode method_6_code 2 = .ok (.aload_n 0, 1) := by decide +kernel
theorem d_Law_stack_3 : decode method_6_code 3 = .ok (.iload_n 1, 1) := by decide +kernel
theorem d_Law_stack_4 : decode method_6_code 4 = .ok (.iload_n 2, 1) := by decide +kernel
theorem d_Law_stack_5 : decode method_6_code 5 = .ok (.invokevirtual 27, 3) := by decide +kernel
theorem d_Law_stack_8 : decode method_6_code 8 = .ok (.i2l, 1) := by decide +kernel
theorem d_Law_stack_9 : decode method_6_code 9 = .ok (.lastore, 1) := by decide +kernel
theorem d_Law_stack_10 : decode method_6_code 10 = .ok (.goto 7, 3) := by decide +kernel
theorem d_Law_stack_13 : decode method_6_code 13 = .ok (.astore 4, 2) := by decide +kernel
theorem d_Law_stack_15 : decode method_6_code 15 = .ok (.iconst 1, 1) := by decide +kernel
theorem d_Law_stack_16 : decode method_6_code 16 = .ok (.ireturn, 1) := by decide +kernel
theorem d_Law_stack_17 : decode method_6_code 17 = .ok (.iconst 0, 1) := by decide +kernel
theorem d_Law_stack_18 : decode method_6_code 18 = .ok (.ireturn, 1) := by decide +kernel
theorem d_Model_init_0 : decode prog_10_method_1_code 0 = .ok (.aload_n 0, 1) := by decide +kernel
theorem d_Model_init_1 : decode prog_10_method_1_code 1 = .ok (.invokespecial 1, 3) := by decide +kernel
theorem d_Model_init_4 : decode prog_10_method_1_code 4 = .ok (.aload_n 0, 1) := by decide +kernel
theorem d_Model_init_5 : decode prog_10_method_1_code 5 = .ok (.sipush 300, 3) := by decide +kernel
theorem d_Model_init_8 : decode prog_10_method_1_code 8 = .ok (.newarray .int, 2) := by decide +kernel
theorem d_Model_init_10 : decode prog_10_method_1_code 10 = .ok (.putfield 7, 3) := by decide +kernel
theorem d_Model_init_13 : decode prog_10_method_1_code 13 = .ok (.aload_n 0, 1) := by decide +kernel
theorem d_Model_init_14 : decode prog_10_method_1_code 14 = .ok (.sipush 5568, 3) := by decide +kernel
theorem d_Model_init_17 : decode prog_10_method_1_code 17 = .ok (.newarray .int, 2) := by decide +kernel
theorem d_Model_init_19 : decode prog_10_method_1_code 19 = .ok (.putfield 13, 3) := by decide +kernel
theorem d_Model_init_22 : decode prog_10_method_1_code 22 = .ok (.aload_n 0, 1) := by decide +kernel
theorem d_Model_init_23 : decode prog_10_method_1_code 23 = .ok (.iconst 2, 1) := by decide +kernel
theorem d_Model_init_24 : decode prog_10_method_1_code 24 = .ok (.newarray .boolean, 2) := by decide +kernel
theorem d_Model_init_26 : decode prog_10_method_1_code 26 = .ok (.putfield 16, 3) := by decide +kernel
theorem d_Model_init_29 : decode prog_10_method_1_code 29 = .ok (.aload_n 0, 1) := by decide +kernel
theorem d_Model_init_30 : decode prog_10_method_1_code 30 = .ok (.bipush 32, 2) := by decide +kernel
theorem d_Model_init_32 : decode prog_10_method_1_code 32 = .ok (.newarray .int, 2) := by decide +kernel
theorem d_Model_init_34 : decode prog_10_method_1_code 34 = .ok (.putfield 20, 3) := by decide +kernel
theorem d_Model_init_37 : decode prog_10_method_1_code 37 = .ok (.aload_n 0, 1) := by decide +kernel
theorem d_Model_init_38 : decode prog_10_method_1_code 38 = .ok (.bipush 32, 2) := by decide +kernel
theorem d_Model_init_40 : decode prog_10_method_1_code 40 = .ok (.newarray .boolean, 2) := by decide +kernel
theorem d_Model_init_42 : decode prog_10_method_1_code 42 = .ok (.putfield 23, 3) := by decide +kernel
theorem d_Model_init_45 : decode prog_10_method_1_code 45 = .ok (.aload_n 0, 1) := by decide +kernel
theorem d_Model_init_46 : decode prog_10_method_1_code 46 = .ok (.bipush 40, 2) := by decide +kernel
theorem d_Model_init_48 : decode prog_10_method_1_code 48 = .ok (.newarray .int, 2) := by decide +kernel
theorem d_Model_init_50 : decode prog_10_method_1_code 50 = .ok (.putfield 26, 3) := by decide +kernel
theorem d_Model_init_53 : decode prog_10_method_1_code 53 = .ok (.aload_n 0, 1) := by decide +kernel
theorem d_Model_init_54 : decode prog_10_method_1_code 54 = .ok (.bipush 40, 2) := by decide +kernel
theorem d_Model_init_56 : decode prog_10_method_1_code 56 = .ok (.newarray .int, 2) := by decide +kernel
theorem d_Model_init_58 : decode prog_10_method_1_code 58 = .ok (.putfield 29, 3) := by decide +kernel
theorem d_Model_init_61 : decode prog_10_method_1_code 61 = .ok (.aload_n 0, 1) := by decide +kernel
theorem d_Model_init_62 : decode prog_10_method_1_code 62 = .ok (.bipush 40, 2) := by decide +kernel
theorem d_Model_init_64 : decode prog_10_method_1_code 64 = .ok (.newarray .int, 2) := by decide +kernel
theorem d_Model_init_66 : decode prog_10_method_1_code 66 = .ok (.putfield 32, 3) := by decide +kernel
theorem d_Model_init_69 : decode prog_10_method_1_code 69 = .ok (.aload_n 0, 1) := by decide +kernel
theorem d_Model_init_70 : decode prog_10_method_1_code 70 = .ok (.bipush 40, 2) := by decide +kernel
theorem d_Model_init_72 : decode prog_10_method_1_code 72 = .ok (.newarray .int, 2) := by decide +kernel
theorem d_Model_init_74 : decode prog_10_method_1_code 74 = .ok (.putfield 35, 3) := by decide +kernel
theorem d_Model_init_77 : decode prog_10_method_1_code 77 = .ok (.aload_n 0, 1) := by decide +kernel
theorem d_Model_init_78 : decode prog_10_method_1_code 78 = .ok (.bipush 8, 2) := by decide +kernel
theorem d_Model_init_80 : decode prog_10_method_1_code 80 = .ok (.newarray .int, 2) := by decide +kernel
theorem d_Model_init_82 : decode prog_10_method_1_code 82 = .ok (.putfield 38, 3) := by decide +kernel
theorem d_Model_init_85 : decode prog_10_method_1_code 85 = .ok (.aload_n 0, 1) := by decide +kernel
theorem d_Model_init_86 : decode prog_10_method_1_code 86 = .ok (.bipush 8, 2) := by decide +kernel
theorem d_Model_init_88 : decode prog_10_method_1_code 88 = .ok (.newarray .int, 2) := by decide +kernel
theorem d_Model_init_90 : decode prog_10_method_1_code 90 = .ok (.putfield 41, 3) := by decide +kernel
theorem d_Model_init_93 : decode prog_10_method_1_code 93 = .ok (.aload_n 0, 1) := by decide +kernel
theorem d_Model_init_94 : decode prog_10_method_1_code 94 = .ok (.bipush 8, 2) := by decide +kernel
theorem d_Model_init_96 : decode prog_10_method_1_code 96 = .ok (.newarray .int, 2) := by decide +kernel
theorem d_Model_init_98 : decode prog_10_method_1_code 98 = .ok (.putfield 44, 3) := by decide +kernel
theorem d_Model_init_101 : decode prog_10_method_1_code 101 = .ok (.aload_n 0, 1) := by decide +kernel
theorem d_Model_init_102 : decode prog_10_method_1_code 102 = .ok (.bipush 8, 2) := by decide +kernel
theorem d_Model_init_104 : decode prog_10_method_1_code 104 = .ok (.newarray .int, 2) := by decide +kernel
theorem d_Model_init_106 : decode prog_10_method_1_code 106 = .ok (.putfield 47, 3) := by decide +kernel
theorem d_Model_init_109 : decode prog_10_method_1_code 109 = .ok (.aload_n 0, 1) := by decide +kernel
theorem d_Model_init_110 : decode prog_10_method_1_code 110 = .ok (.bipush 8, 2) := by decide +kernel
theorem d_Model_init_112 : decode prog_10_method_1_code 112 = .ok (.newarray .int, 2) := by decide +kernel
theorem d_Model_init_114 : decode prog_10_method_1_code 114 = .ok (.putfield 50, 3) := by decide +kernel
theorem d_Model_init_117 : decode prog_10_method_1_code 117 = .ok (.aload_n 0, 1) := by decide +kernel
theorem d_Model_init_118 : decode prog_10_method_1_code 118 = .ok (.bipush 8, 2) := by decide +kernel
theorem d_Model_init_120 : decode prog_10_method_1_code 120 = .ok (.newarray .int, 2) := by decide +kernel
theorem d_Model_init_122 : decode prog_10_method_1_code 122 = .ok (.putfield 53, 3) := by decide +kernel
theorem d_Model_init_125 : decode prog_10_method_1_code 125 = .ok (.aload_n 0, 1) := by decide +kernel
theorem d_Model_init_126 : decode prog_10_method_1_code 126 = .ok (.bipush 8, 2) := by decide +kernel
theorem d_Model_init_128 : decode prog_10_method_1_code 128 = .ok (.newarray .int, 2) := by decide +kernel
theorem d_Model_init_130 : decode prog_10_method_1_code 130 = .ok (.putfield 56, 3) := by decide +kernel
theorem d_Model_init_133 : decode prog_10_method_1_code 133 = .ok (.aload_n 0, 1) := by decide +kernel
theorem d_Model_init_134 : decode prog_10_method_1_code 134 = .ok (.bipush 8, 2) := by decide +kernel
theorem d_Model_init_136 : decode prog_10_method_1_code 136 = .ok (.newarray .int, 2) := by decide +kernel
theorem d_Model_init_138 : decode prog_10_method_1_code 138 = .ok (.putfield 59, 3) := by decide +kernel
theorem d_Model_init_141 : decode prog_10_method_1_code 141 = .ok (.aload_n 0, 1) := by decide +kernel
theorem d_Model_init_142 : decode prog_10_method_1_code 142 = .ok (.bipush 8, 2) := by decide +kernel
theorem d_Model_init_144 : decode prog_10_method_1_code 144 = .ok (.newarray .int, 2) := by decide +kernel
theorem d_Model_init_146 : decode prog_10_method_1_code 146 = .ok (.putfield 62, 3) := by decide +kernel
theorem d_Model_init_149 : decode prog_10_method_1_code 149 = .ok (.aload_n 0, 1) := by decide +kernel
theorem d_Model_init_150 : decode prog_10_method_1_code 150 = .ok (.bipush 50, 2) := by decide +kernel
theorem d_Model_init_152 : decode prog_10_method_1_code 152 = .ok (.newarray .int, 2) := by decide +kernel
theorem d_Model_init_154 : decode prog_10_method_1_code 154 = .ok (.putfield 65, 3) := by decide +kernel
theorem d_Model_init_157 : decode prog_10_method_1_code 157 = .ok (.aload_n 0, 1) := by decide +kernel
theorem d_Model_init_158 : decode prog_10_method_1_code 158 = .ok (.bipush 50, 2) := by decide +kernel
theorem d_Model_init_160 : decode prog_10_method_1_code 160 = .ok (.newarray .int, 2) := by decide +kernel
theorem d_Model_init_162 : decode prog_10_method_1_code 162 = .ok (.putfield 68, 3) := by decide +kernel
theorem d_Model_init_165 : decode prog_10_method_1_code 165 = .ok (.aload_n 0, 1) := by decide +kernel
theorem d_Model_init_166 : decode prog_10_method_1_code 166 = .ok (.iconst (-1), 1) := by decide +kernel
theorem d_Model_init_167 : decode prog_10_method_1_code 167 = .ok (.putfield 71, 3) := by decide +kernel
theorem d_Model_init_170 : decode prog_10_method_1_code 170 = .ok (.return_, 1) := by decide +kernel
theorem d_Model_ask_0 : decode prog_10_method_41_code 0 = .ok (.iload_n 2, 1) := by decide +kernel
theorem d_Model_ask_1 : decode prog_10_method_41_code 1 = .ok (.iconst (-1), 1) := by decide +kernel
theorem d_Model_ask_2 : decode prog_10_method_41_code 2 = .ok (.if_icmp .ne 7, 3) := by decide +kernel
theorem d_Model_ask_5 : decode prog_10_method_41_code 5 = .ok (.iconst 0, 1) := by decide +kernel
theorem d_Model_ask_6 : decode prog_10_method_41_code 6 = .ok (.goto 9, 3) := by decide +kernel
theorem d_Model_ask_9 : decode prog_10_method_41_code 9 = .ok (.aload_n 0, 1) := by decide +kernel
theorem d_Model_ask_10 : decode prog_10_method_41_code 10 = .ok (.iload_n 2, 1) := by decide +kernel
theorem d_Model_ask_11 : decode prog_10_method_41_code 11 = .ok (.iload_n 3, 1) := by decide +kernel
theorem d_Model_ask_12 : decode prog_10_method_41_code 12 = .ok (.invokevirtual 82, 3) := by decide +kernel
theorem d_Model_ask_15 : decode prog_10_method_41_code 15 = .ok (.istore 6, 2) := by decide +kernel
theorem d_Model_ask_17 : decode prog_10_method_41_code 17 = .ok (.iload_n 2, 1) := by decide +kernel
theorem d_Model_ask_18 : decode prog_10_method_41_code 18 = .ok (.iconst (-1), 1) := by decide +kernel
theorem d_Model_ask_19 : decode prog_10_method_41_code 19 = .ok (.if_icmp .eq 36, 3) := by decide +kernel
theorem d_Model_ask_22 : decode prog_10_method_41_code 22 = .ok (.aload_n 0, 1) := by decide +kernel
theorem d_Model_ask_23 : decode prog_10_method_41_code 23 = .ok (.getfield 13, 3) := by decide +kernel
theorem d_Model_ask_26 : decode prog_10_method_41_code 26 = .ok (.iload 6, 2) := by decide +kernel
theorem d_Model_ask_28 : decode prog_10_method_41_code 28 = .ok (.iconst 1, 1) := by decide +kernel
theorem d_Model_ask_29 : decode prog_10_method_41_code 29 = .ok (.iadd, 1) := by decide +kernel
theorem d_Model_ask_30 : decode prog_10_method_41_code 30 = .ok (.iaload, 1) := by decide +kernel
theorem d_Model_ask_31 : decode prog_10_method_41_code 31 = .ok (.iconst 4, 1) := by decide +kernel
theorem d_Model_ask_32 : decode prog_10_method_41_code 32 = .ok (.if_icmp .ne 23, 3) := by decide +kernel
theorem d_Model_ask_35 : decode prog_10_method_41_code 35 = .ok (.aload_n 0, 1) := by decide +kernel
theorem d_Model_ask_36 : decode prog_10_method_41_code 36 = .ok (.aload_n 0, 1) := by decide +kernel
theorem d_Model_ask_37 : decode prog_10_method_41_code 37 = .ok (.getfield 13, 3) := by decide +kernel
theorem d_Model_ask_40 : decode prog_10_method_41_code 40 = .ok (.iload 6, 2) := by decide +kernel
theorem d_Model_ask_42 : decode prog_10_method_41_code 42 = .ok (.iconst 2, 1) := by decide +kernel
theorem d_Model_ask_43 : decode prog_10_method_41_code 43 = .ok (.iadd, 1) := by decide +kernel
theorem d_Model_ask_44 : decode prog_10_method_41_code 44 = .ok (.iaload, 1) := by decide +kernel
theorem d_Model_ask_45 : decode prog_10_method_41_code 45 = .ok (.iload 4, 2) := by decide +kernel
theorem d_Model_ask_47 : decode prog_10_method_41_code 47 = .ok (.iload 5, 2) := by decide +kernel
theorem d_Model_ask_49 : decode prog_10_method_41_code 49 = .ok (.iload_n 1, 1) := by decide +kernel
theorem d_Model_ask_50 : decode prog_10_method_41_code 50 = .ok (.iload_n 2, 1) := by decide +kernel
theorem d_Model_ask_51 : decode prog_10_method_41_code 51 = .ok (.invokevirtual 211, 3) := by decide +kernel
theorem d_Model_ask_54 : decode prog_10_method_41_code 54 = .ok (.ireturn, 1) := by decide +kernel
theorem d_Model_ask_55 : decode prog_10_method_41_code 55 = .ok (.iload 4, 2) := by decide +kernel
theorem d_Model_ask_57 : decode prog_10_method_41_code 57 = .ok (.ifCond .gt 15, 3) := by decide +kernel
theorem d_Model_ask_60 : decode prog_10_method_41_code 60 = .ok (.aload_n 0, 1) := by decide +kernel
theorem d_Model_ask_61 : decode prog_10_method_41_code 61 = .ok (.getfield 130, 3) := by decide +kernel
theorem d_Model_ask_64 : decode prog_10_method_41_code 64 = .ok (.iload 5, 2) := by decide +kernel
theorem d_Model_ask_66 : decode prog_10_method_41_code 66 = .ok (.isub, 1) := by decide +kernel
theorem d_Model_ask_67 : decode prog_10_method_41_code 67 = .ok (.bipush 40, 2) := by decide +kernel
theorem d_Model_ask_69 : decode prog_10_method_41_code 69 = .ok (.if_icmp .ne 5, 3) := by decide +kernel
theorem d_Model_ask_72 : decode prog_10_method_41_code 72 = .ok (.iconst 0, 1) := by decide +kernel
